theorem dX12_crosses_15 : decode cX12_crosses 15 = .ok (.irem, 1) := by decide +kernel
theorem dX12_crosses_16 : decode cX12_crosses 16 = .ok (.invokestatic 386, 3) := by decide +kernel
theorem dX12_crosses_19 : decode cX12_crosses 19 = .ok (.ifCond .eq 25, 3) := by decide +kernel
theorem dX12_crosses_22 : decode cX12_crosses 22 = .ok (.iload_n 0, 1) := by decide +kernel
theorem dX12_crosses_23 : decode cX12_crosses 23 = .ok (.bipush 24, 2) := by decide +kernel
theorem dX12_crosses_25 : decode cX12_crosses 25 = .ok (.idiv, 1) := by decide +kernel
theorem dX12_crosses_26 : decode cX12_crosses 26 = .ok (.iload_n 1, 1) := by decide +kernel
theorem dX12_crosses_27 : decode cX12_crosses 27 = .ok (.bipush 24, 2) := by decide +kernel
theorem dX12_crosses_29 : decode cX12_crosses 29 = .ok (.idiv, 1) := by decide +kernel
theorem dX12_crosses_30 : decode cX12_crosses 30 = .ok (.iload_n 2, 1) := by decide +kernel
theorem dX12_crosses_31 : decode cX12_crosses 31 = .ok (.bipush 24, 2) := by decide +kernel
theorem dX12_crosses_33 : decode cX12_crosses 33 = .ok (.idiv, 1) := by decide +kernel
theorem dX12_crosses_34 : decode cX12_crosses 34 = .ok (.iload_n 3, 1) := by decide +kernel
theorem dX12_crosses_35 : decode cX12_crosses 35 = .ok (.bipush 24, 2) := by decide +kernel
theorem dX12_crosses_37 : decode cX12_crosses 37 = .ok (.idiv, 1) := by decide +kernel
theorem dX12_crosses_38 : decode cX12_crosses 38 = .ok (.invokestatic 386, 3) := by decide +kernel
theorem dX12_crosses_41 : decode cX12_crosses 41 = .ok (.ifCond .ne 5, 3) := by decide +kernel
theorem dX12_crosses_44 : decode cX12_crosses 44 = .ok (.iconst 0, 1) := by decide +kernel
theorem dX12_crosses_45 : decode cX12_crosses 45 = .ok (.ireturn, 1) := by decide +kernel
theorem dX12_crosses_46 : decode cX12_crosses 46 = .ok (.iload_n 0, 1) := by decide +kernel
theorem dX12_crosses_47 : decode cX12_crosses 47 = .ok (.iload_n 1, 1) := by decide +kernel
theorem dX12_crosses_48 : decode cX12_crosses 48 = .ok (.iload_n 2, 1) := by decide +kernel
theorem dX12_crosses_49 : decode cX12_crosses 49 = .ok (.invokestatic 377, 3) := by decide +kernel
theorem dX12_crosses_52 : decode cX12_crosses 52 = .ok (.istore 4, 2) := by decide +kernel
theorem dX12_crosses_54 : decode cX12_crosses 54 = .ok (.iload_n 0, 1) := by decide +kernel
theorem dX12_crosses_55 : decode cX12_crosses 55 = .ok (.iload_n 1, 1) := by decide +kernel
theorem dX12_crosses_56 : decode cX12_crosses 56 = .ok (.iload_n 3, 1) := by decide +kernel
theorem dX12_crosses_57 : decode cX12_crosses 57 = .ok (.invokestatic 377, 3) := by decide +kernel
theorem dX12_crosses_60 : decode cX12_crosses 60 = .ok (.istore 5, 2) := by decide +kernel
theorem dX12_crosses_62 : decode cX12_crosses 62 = .ok (.iload_n 2, 1) := by decide +kernel
theorem dX12_crosses_63 : decode cX12_crosses 63 = .ok (.iload_n 3, 1) := by decide +kernel
theorem dX12_crosses_64 : decode cX12_crosses 64 = .ok (.iload_n 0, 1) := by decide +kernel
theorem dX12_crosses_65 : decode cX12_crosses 65 = .ok (.invokestatic 377, 3) := by decide +kernel
theorem dX12_crosses_68 : decode cX12_crosses 68 = .ok (.istore 6, 2) := by decide +kernel
theorem dX12_crosses_70 : decode cX12_crosses 70 = .ok (.iload_n 2, 1) := by decide +kernel
theorem dX12_crosses_71 : decode cX12_crosses 71 = .ok (.iload_n 3, 1) := by decide +kernel
theorem dX12_crosses_72 : decode cX12_crosses 72 = .ok (.iload_n 1, 1) := by decide +kernel
theorem dX12_crosses_73 : decode cX12_crosses 73 = .ok (.invokestatic 377, 3) := by decide +kernel
theorem dX12_crosses_76 : decode cX12_crosses 76 = .ok (.istore 7, 2) := by decide +kernel
theorem dX12_crosses_78 : decode cX12_crosses 78 = .ok (.iload 4, 2) := by decide +kernel
theorem dX12_crosses_80 : decode cX12_crosses 80 = .ok (.ifCond .le 8, 3) := by decide +kernel
theorem dX12_crosses_83 : decode cX12_crosses 83 = .ok (.iload 5, 2) := by decide +kernel
theorem dX12_crosses_85 : decode cX12_crosses 85 = .ok (.ifCond .gt 37, 3) := by decide +kernel
theorem dX12_crosses_88 : decode cX12_crosses 88 = .ok (.iload 4, 2) := by decide +kernel
theorem dX12_crosses_90 : decode cX12_crosses 90 = .ok (.ifCond .ge 8, 3) := by decide +kernel
theorem dX12_crosses_93 : decode cX12_crosses 93 = .ok (.iload 5, 2) := by decide +kernel
theorem dX12_crosses_95 : decode cX12_crosses 95 = .ok (.ifCond .lt 27, 3) := by decide +kernel
theorem dX12_crosses_98 : decode cX12_crosses 98 = .ok (.iload 6, 2) := by decide +kernel
theorem dX12_crosses_100 : decode cX12_crosses 100 = .ok (.ifCond .le 8, 3) := by decide +kernel
theorem dX12_crosses_103 : decode cX12_crosses 103 = .ok (.iload 7, 2) := by decide +kernel
theorem dX12_crosses_105 : decode cX12_crosses 105 = .ok (.ifCond .gt 17, 3) := by decide +kernel
theorem dX12_crosses_108 : decode cX12_crosses 108 = .ok (.iload 6, 2) := by decide +kernel
theorem dX12_crosses_110 : decode cX12_crosses 110 = .ok (.ifCond .ge 8, 3) := by decide +kernel
theorem dX12_crosses_113 : decode cX12_crosses 113 = .ok (.iload 7, 2) := by decide +kernel
theorem dX12_crosses_115 : decode cX12_crosses 115 = .ok (.ifCond .lt 7, 3) := by decide +kernel
theorem dX12_crosses_118 : decode cX12_crosses 118 = .ok (.iconst 1, 1) := by decide +kernel
theorem dX12_crosses_119 : decode cX12_crosses 119 = .ok (.goto 4, 3) := by decide +kernel
theorem dX12_crosses_122 : decode cX12_crosses 122 = .ok (.iconst 0, 1) := by decide +kernel
theorem dX12_crosses_123 : decode cX12_crosses 123 = .ok (.ireturn, 1) := by decide +kernel
theorem dX12_crossing_0 : decode cX12_crossing 0 = .ok (.iconst 0, 1) := by decide +kernel
theorem dX12_crossing_1 : decode cX12_crossing 1 = .ok (.istore_n 1, 1) := by decide +kernel
theorem dX12_crossing_2 : decode cX12_crossing 2 = .ok (.iconst 0, 1) := by decide +kernel
theorem dX12_crossing_3 : decode cX12_crossing 3 = .ok (.istore_n 2, 1) := by decide +kernel
theorem dX12_crossing_4 : decode cX12_crossing 4 = .ok (.iload_n 2, 1) := by decide +kernel
theorem dX12_crossing_5 : decode cX12_crossing 5 = .ok (.aload_n 0, 1) := by decide +kernel
theorem dX12_crossing_6 : decode cX12_crossing 6 = .ok (.getfield 152, 3) := by decide +kernel
theorem dX12_crossing_9 : decode cX12_crossing 9 = .ok (.if_icmp .ge 61, 3) := by decide +kernel
theorem dX12_crossing_12 : decode cX12_crossing 12 = .ok (.iload_n 2, 1) := by decide +kernel
theorem dX12_crossing_13 : decode cX12_crossing 13 = .ok (.iconst 1, 1) := by decide +kernel
theorem dX12_crossing_14 : decode cX12_crossing 14 = .ok (.iadd, 1) := by decide +kernel
theorem dX12_crossing_15 : decode cX12_crossing 15 = .ok (.istore_n 3, 1) := by decide +kernel
theorem dX12_crossing_16 : decode cX12_crossing 16 = .ok (.iload_n 3, 1) := by decide +kernel
theorem dX12_crossing_17 : decode cX12_crossing 17 = .ok (.aload_n 0, 1) := by decide +kernel
theorem dX12_crossing_18 : decode cX12_crossing 18 = .ok (.getfield 152, 3) := by decide +kernel
theorem dX12_crossing_21 : decode cX12_crossing 21 = .ok (.if_icmp .ge 43, 3) := by decide +kernel
theorem dX12_crossing_24 : decode cX12_crossing 24 = .ok (.aload_n 0, 1) := by decide +kernel
theorem dX12_crossing_25 : decode cX12_crossing 25 = .ok (.getfield 19, 3) := by decide +kernel
theorem dX12_crossing_28 : decode cX12_crossing 28 = .ok (.iload_n 2, 1) := by decide +kernel
theorem dX12_crossing_29 : decode cX12_crossing 29 = .ok (.iaload, 1) := by decide +kernel
theorem dX12_crossing_30 : decode cX12_crossing 30 = .ok (.aload_n 0, 1) := by decide +kernel
theorem dX12_crossing_31 : decode cX12_crossing 31 = .ok (.getfield 40, 3) := by decide +kernel
theorem dX12_crossing_34 : decode cX12_crossing 34 = .ok (.iload_n 2, 1) := by decide +kernel
theorem dX12_crossing_35 : decode cX12_crossing 35 = .ok (.iaload, 1) := by decide +kernel
theorem dX12_crossing_36 : decode cX12_crossing 36 = .ok (.aload_n 0, 1) := by decide +kernel
theorem dX12_crossing_37 : decode cX12_crossing 37 = .ok (.getfield 19, 3) := by decide +kernel
theorem dX12_crossing_40 : decode cX12_crossing 40 = .ok (.iload_n 3, 1) := by decide +kernel
theorem dX12_crossing_41 : decode cX12_crossing 41 = .ok (.iaload, 1) := by decide +kernel
theorem dX12_crossing_42 : decode cX12_crossing 42 = .ok (.aload_n 0, 1) := by decide +kernel
theorem dX12_crossing_43 : decode cX12_crossing 43 = .ok (.getfield 40, 3) := by decide +kernel
theorem dX12_crossing_46 : decode cX12_crossing 46 = .ok (.iload_n 3, 1) := by decide +kernel
theorem dX12_crossing_47 : decode cX12_crossing 47 = .ok (.iaload, 1) := by decide +kernel
theorem dX12_crossing_48 : decode cX12_crossing 48 = .ok (.invokestatic 390, 3) := by decide +kernel
theorem dX12_crossing_51 : decode cX12_crossing 51 = .ok (.ifCond .eq 7, 3) := by decide +kernel
theorem dX12_crossing_54 : decode cX12_crossing 54 = .ok (.iload_n 1, 1) := by decide +kernel
theorem dX12_crossing_55 : decode cX12_crossing 55 = .ok (.iconst 1, 1) := by decide +kernel
theorem dX12_crossing_56 : decode cX12_crossing 56 = .ok (.iadd, 1) := by decide +kernel
theorem dX12_crossing_57 : decode cX12_crossing 57 = .ok (.istore_n 1, 1) := by decide +kernel
theorem dX12_crossing_58 : decode cX12_crossing 58 = .ok (.iinc 3 1, 3) := by decide +kernel
theorem dX12_crossing_61 : decode cX12_crossing 61 = .ok (.goto (-45), 3) := by decide +kernel
theorem dX12_crossing_64 : decode cX12_crossing 64 = .ok (.iinc 2 1, 3) := by decide +kernel
theorem dX12_crossing_67 : decode cX12_crossing 67 = .ok (.goto (-63), 3) := by decide +kernel
theorem dX12_crossing_70 : decode cX12_crossing 70 = .ok (.iload_n 1, 1) := by decide +kernel
theorem dX12_crossing_71 : decode cX12_crossing 71 = .ok (.ireturn, 1) := by decide +kernel
theorem dX12_paths_0 : decode cX12_paths 0 = .ok (.aload_n 0, 1) := by decide +kernel
theorem dX12_paths_1 : decode cX12_paths 1 = .ok (.invokevirtual 371, 3) := by decide +kernel
theorem dX12_paths_4 : decode cX12_paths 4 = .ok (.iconst 0, 1) := by decide +kernel
theorem dX12_paths_5 : decode cX12_paths 5 = .ok (.istore_n 1, 1) := by decide +kernel
theorem dX12_paths_6 : decode cX12_paths 6 = .ok (.iconst 0, 1) := by decide +kernel
theorem dX12_paths_7 : decode cX12_paths 7 = .ok (.istore_n 2, 1) := by decide +kernel
theorem dX12_paths_8 : decode cX12_paths 8 = .ok (.iload_n 2, 1) := by decide +kernel
theorem dX12_paths_9 : decode cX12_paths 9 = .ok (.aload_n 0, 1) := by decide +kernel
theorem dX12_paths_10 : decode cX12_paths 10 = .ok (.getfield 365, 3) := by decide +kernel
theorem dX12_paths_13 : decode cX12_paths 13 = .ok (.if_icmp .ge 38, 3) := by decide +kernel
theorem dX12_paths_16 : decode cX12_paths 16 = .ok (.aload_n 0, 1) := by decide +kernel
theorem dX12_paths_17 : decode cX12_paths 17 = .ok (.getfield 113, 3) := by decide +kernel
theorem dX12_paths_20 : decode cX12_paths 20 = .ok (.iload_n 2, 1) := by decide +kernel
theorem dX12_paths_21 : decode cX12_paths 21 = .ok (.iload_n 2, 1) := by decide +kernel
theorem dX12_paths_22 : decode cX12_paths 22 = .ok (.ifCond .ne 7, 3) := by decide +kernel
theorem dX12_paths_25 : decode cX12_paths 25 = .ok (.iconst (-1), 1) := by decide +kernel
theorem dX12_paths_26 : decode cX12_paths 26 = .ok (.goto 18, 3) := by decide +kernel
theorem dX12_paths_29 : decode cX12_paths 29 = .ok (.aload_n 0, 1) := by decide +kernel
theorem dX12_paths_30 : decode cX12_paths 30 = .ok (.getfield 107, 3) := by decide +kernel
theorem dX12_paths_33 : decode cX12_paths 33 = .ok (.iconst 0, 1) := by decide +kernel
theorem dX12_paths_34 : decode cX12_paths 34 = .ok (.iaload, 1) := by decide +kernel
theorem dX12_paths_35 : decode cX12_paths 35 = .ok (.aload_n 0, 1) := by decide +kernel
theorem dX12_paths_36 : decode cX12_paths 36 = .ok (.getfield 107, 3) := by decide +kernel
theorem dX12_paths_39 : decode cX12_paths 39 = .ok (.iload_n 2, 1) := by decide +kernel
theorem dX12_paths_40 : decode cX12_paths 40 = .ok (.iaload, 1) := by decide +kernel
theorem dX12_paths_41 : decode cX12_paths 41 = .ok (.invokestatic 303, 3) := by decide +kernel
theorem dX12_paths_44 : decode cX12_paths 44 = .ok (.iastore, 1) := by decide +kernel
theorem dX12_paths_45 : decode cX12_paths 45 = .ok (.iinc 2 1, 3) := by decide +kernel
theorem dX12_paths_48 : decode cX12_paths 48 = .ok (.goto (-40), 3) := by decide +kernel
theorem dX12_paths_51 : decode cX12_paths 51 = .ok (.iconst 1, 1) := by decide +kernel
theorem dX12_paths_52 : decode cX12_paths 52 = .ok (.istore_n 2, 1) := by decide +kernel
theorem dX12_paths_53 : decode cX12_paths 53 = .ok (.iload_n 2, 1) := by decide +kernel
theorem dX12_paths_54 : decode cX12_paths 54 = .ok (.aload_n 0, 1) := by decide +kernel
theorem dX12_paths_55 : decode cX12_paths 55 = .ok (.getfield 365, 3) := by decide +kernel
theorem dX12_paths_58 : decode cX12_paths 58 = .ok (.if_icmp .ge 142, 3) := by decide +kernel
theorem dX12_paths_61 : decode cX12_paths 61 = .ok (.iconst (-1), 1) := by decide +kernel
theorem dX12_paths_62 : decode cX12_paths 62 = .ok (.istore_n 3, 1) := by decide +kernel
theorem dX12_paths_63 : decode cX12_paths 63 = .ok (.iconst 0, 1) := by decide +kernel
theorem dX12_paths_64 : decode cX12_paths 64 = .ok (.istore 4, 2) := by decide +kernel
theorem dX12_paths_66 : decode cX12_paths 66 = .ok (.iload 4, 2) := by decide +kernel
theorem dX12_paths_68 : decode cX12_paths 68 = .ok (.aload_n 0, 1) := by decide +kernel
theorem dX12_paths_69 : decode cX12_paths 69 = .ok (.getfield 365, 3) := by decide +kernel
theorem dX12_paths_72 : decode cX12_paths 72 = .ok (.if_icmp .ge 44, 3) := by decide +kernel
theorem dX12_paths_75 : decode cX12_paths 75 = .ok (.aload_n 0, 1) := by decide +kernel
theorem dX12_paths_76 : decode cX12_paths 76 = .ok (.getfield 113, 3) := by decide +kernel
theorem dX12_paths_79 : decode cX12_paths 79 = .ok (.iload 4, 2) := by decide +kernel
theorem dX12_paths_81 : decode cX12_paths 81 = .ok (.iaload, 1) := by decide +kernel
theorem dX12_paths_82 : decode cX12_paths 82 = .ok (.iconst (-1), 1) := by decide +kernel
theorem dX12_paths_83 : decode cX12_paths 83 = .ok (.if_icmp .eq 27, 3) := by decide +kernel
theorem dX12_paths_86 : decode cX12_paths 86 = .ok (.iload_n 3, 1) := by decide +kernel
theorem dX12_paths_87 : decode cX12_paths 87 = .ok (.iconst (-1), 1) := by decide +kernel
theorem dX12_paths_88 : decode cX12_paths 88 = .ok (.if_icmp .eq 19, 3) := by decide +kernel
theorem dX12_paths_91 : decode cX12_paths 91 = .ok (.aload_n 0, 1) := by decide +kernel
theorem dX12_paths_92 : decode cX12_paths 92 = .ok (.getfield 113, 3) := by decide +kernel
theorem dX12_paths_95 : decode cX12_paths 95 = .ok (.iload 4, 2) := by decide +kernel
theorem dX12_paths_97 : decode cX12_paths 97 = .ok (.iaload, 1) := by decide +kernel
theorem dX12_paths_98 : decode cX12_paths 98 = .ok (.aload_n 0, 1) := by decide +kernel
theorem dX12_paths_99 : decode cX12_paths 99 = .ok (.getfield 113, 3) := by decide +kernel
theorem dX12_paths_102 : decode cX12_paths 102 = .ok (.iload_n 3, 1) := by decide +kernel
theorem dX12_paths_103 : decode cX12_paths 103 = .ok (.iaload, 1) := by decide +kernel
theorem dX12_paths_104 : decode cX12_paths 104 = .ok (.if_icmp .ge 6, 3) := by decide +kernel
theorem dX12_paths_107 : decode cX12_paths 107 = .ok (.iload 4, 2) := by decide +kernel
theorem dX12_paths_109 : decode cX12_paths 109 = .ok (.istore_n 3, 1) := by decide +kernel
theorem dX12_paths_110 : decode cX12_paths 110 = .ok (.iinc 4 1, 3) := by decide +kernel
theorem dX12_paths_113 : decode cX12_paths 113 = .ok (.goto (-47), 3) := by decide +kernel
theorem dX12_paths_116 : decode cX12_paths 116 = .ok (.iload_n 1, 1) := by decide +kernel
theorem dX12_paths_117 : decode cX12_paths 117 = .ok (.aload_n 0, 1) := by decide +kernel
theorem dX12_paths_118 : decode cX12_paths 118 = .ok (.getfield 113, 3) := by decide +kernel
theorem dX12_paths_121 : decode cX12_paths 121 = .ok (.iload_n 3, 1) := by decide +kernel
theorem dX12_paths_122 : decode cX12_paths 122 = .ok (.iaload, 1) := by decide +kernel
theorem dX12_paths_123 : decode cX12_paths 123 = .ok (.iadd, 1) := by decide +kernel
theorem dX12_paths_124 : decode cX12_paths 124 = .ok (.istore_n 1, 1) := by decide +kernel
theorem dX12_paths_125 : decode cX12_paths 125 = .ok (.aload_n 0, 1) := by decide +kernel
theorem dX12_paths_126 : decode cX12_paths 126 = .ok (.getfield 113, 3) := by decide +kernel
theorem dX12_paths_129 : decode cX12_paths 129 = .ok (.iload_n 3, 1) := by decide +kernel
theorem dX12_paths_130 : decode cX12_paths 130 = .ok (.iconst (-1), 1) := by decide +kernel
theorem dX12_paths_131 : decode cX12_paths 131 = .ok (.iastore, 1) := by decide +kernel
theorem dX12_paths_132 : decode cX12_paths 132 = .ok (.iconst 0, 1) := by decide +kernel
theorem dX12_paths_133 : decode cX12_paths 133 = .ok (.istore 4, 2) := by decide +kernel
theorem dX12_paths_135 : decode cX12_paths 135 = .ok (.iload 4, 2) := by decide +kernel
theorem dX12_paths_137 : decode cX12_paths 137 = .ok (.aload_n 0, 1) := by decide +kernel
theorem dX12_paths_138 : decode cX12_paths 138 = .ok (.getfield 365, 3) := by decide +kernel
theorem dX12_paths_141 : decode cX12_paths 141 = .ok (.if_icmp .ge 53, 3) := by decide +kernel
theorem dX12_paths_144 : decode cX12_paths 144 = .ok (.aload_n 0, 1) := by decide +kernel
theorem dX12_paths_145 : decode cX12_paths 145 = .ok (.getfield 113, 3) := by decide +kernel
theorem dX12_paths_148 : decode cX12_paths 148 = .ok (.iload 4, 2) := by decide +kernel
theorem dX12_paths_150 : decode cX12_paths 150 = .ok (.iaload, 1) := by decide +kernel
theorem dX12_paths_151 : decode cX12_paths 151 = .ok (.iconst (-1), 1) := by decide +kernel
theorem dX12_paths_152 : decode cX12_paths 152 = .ok (.if_icmp .eq 36, 3) := by decide +kernel
theorem dX12_paths_155 : decode cX12_paths 155 = .ok (.aload_n 0, 1) := by decide +kernel
theorem dX12_paths_156 : decode cX12_paths 156 = .ok (.getfield 113, 3) := by decide +kernel
theorem dX12_paths_159 : decode cX12_paths 159 = .ok (.iload 4, 2) := by decide +kernel
theorem dX12_paths_161 : decode cX12_paths 161 = .ok (.aload_n 0, 1) := by decide +kernel
theorem dX12_paths_162 : decode cX12_paths 162 = .ok (.getfield 113, 3) := by decide +kernel
theorem dX12_paths_165 : decode cX12_paths 165 = .ok (.iload 4, 2) := by decide +kernel
theorem dX12_paths_167 : decode cX12_paths 167 = .ok (.iaload, 1) := by decide +kernel
theorem dX12_paths_168 : decode cX12_paths 168 = .ok (.aload_n 0, 1) := by decide +kernel
theorem dX12_paths_169 : decode cX12_paths 169 = .ok (.getfield 107, 3) := by decide +kernel
theorem dX12_paths_172 : decode cX12_paths 172 = .ok (.iload_n 3, 1) := by decide +kernel
theorem dX12_paths_173 : decode cX12_paths 173 = .ok (.iaload, 1) := by decide +kernel
theorem dX12_paths_174 : decode cX12_paths 174 = .ok (.aload_n 0, 1) := by decide +kernel
theorem dX12_paths_175 : decode cX12_paths 175 = .ok (.getfield 107, 3) := by decide +kernel
theorem dX12_paths_178 : decode cX12_paths 178 = .ok (.iload 4, 2) := by decide +kernel
theorem dX12_paths_180 : decode cX12_paths 180 = .ok (.iaload, 1) := by decide +kernel
theorem dX12_paths_181 : decode cX12_paths 181 = .ok (.invokestatic 303, 3) := by decide +kernel
theorem dX12_paths_184 : decode cX12_paths 184 = .ok (.invokestatic 309, 3) := by decide +kernel
theorem dX12_paths_187 : decode cX12_paths 187 = .ok (.iastore, 1) := by decide +kernel
theorem dX12_paths_188 : decode cX12_paths 188 = .ok (.iinc 4 1, 3) := by decide +kernel
theorem dX12_paths_191 : decode cX12_paths 191 = .ok (.goto (-56), 3) := by decide +kernel
theorem dX12_paths_194 : decode cX12_paths 194 = .ok (.iinc 2 1, 3) := by decide +kernel
theorem dX12_paths_197 : decode cX12_paths 197 = .ok (.goto (-144), 3) := by decide +kernel
theorem dX12_paths_200 : decode cX12_paths 200 = .ok (.iload_n 1, 1) := by decide +kernel
theorem dX12_paths_201 : decode cX12_paths 201 = .ok (.ireturn, 1) := by decide +kernel
theorem dX12_laysRound_0 : decode cX12_laysRound 0 = .ok (.iconst 1, 1) := by decide +kernel
theorem dX12_laysRound_1 : decode cX12_laysRound 1 = .ok (.aload_n 0, 1) := by decide +kernel
theorem dX12_laysRound_2 : decode cX12_laysRound 2 = .ok (.getfield 393, 3) := by decide +kernel
theorem dX12_laysRound_5 : decode cX12_laysRound 5 = .ok (.ishl, 1) := by decide +kernel
theorem dX12_laysRound_6 : decode cX12_laysRound 6 = .ok (.iconst 1, 1) := by decide +kernel
theorem dX12_laysRound_7 : decode cX12_laysRound 7 = .ok (.isub, 1) := by decide +kernel
theorem dX12_laysRound_8 : decode cX12_laysRound 8 = .ok (.istore_n 1, 1) := by decide +kernel
theorem dX12_laysRound_9 : decode cX12_laysRound 9 = .ok (.iload_n 1, 1) := by decide +kernel
theorem dX12_laysRound_10 : decode cX12_laysRound 10 = .ok (.istore_n 2, 1) := by decide +kernel
theorem dX12_laysRound_11 : decode cX12_laysRound 11 = .ok (.iload_n 2, 1) := by decide +kernel
theorem dX12_laysRound_12 : decode cX12_laysRound 12 = .ok (.ifCond .le 139, 3) := by decide +kernel
theorem dX12_laysRound_15 : decode cX12_laysRound 15 = .ok (.iconst 0, 1) := by decide +kernel
theorem dX12_laysRound_16 : decode cX12_laysRound 16 = .ok (.istore_n 3, 1) := by decide +kernel
theorem dX12_laysRound_17 : decode cX12_laysRound 17 = .ok (.iload_n 3, 1) := by decide +kernel
theorem dX12_laysRound_18 : decode cX12_laysRound 18 = .ok (.aload_n 0, 1) := by decide +kernel
theorem dX12_laysRound_19 : decode cX12_laysRound 19 = .ok (.getfield 393, 3) := by decide +kernel
theorem dX12_laysRound_22 : decode cX12_laysRound 22 = .ok (.if_icmp .ge 123, 3) := by decide +kernel
theorem dX12_laysRound_25 : decode cX12_laysRound 25 = .ok (.aload_n 0, 1) := by decide +kernel
theorem dX12_laysRound_26 : decode cX12_laysRound 26 = .ok (.getfield 19, 3) := by decide +kernel
theorem dX12_laysRound_29 : decode cX12_laysRound 29 = .ok (.aload_n 0, 1) := by decide +kernel
theorem dX12_laysRound_30 : decode cX12_laysRound 30 = .ok (.getfield 119, 3) := by decide +kernel
theorem dX12_laysRound_33 : decode cX12_laysRound 33 = .ok (.iload_n 3, 1) := by decide +kernel
theorem dX12_laysRound_34 : decode cX12_laysRound 34 = .ok (.iaload, 1) := by decide +kernel
theorem dX12_laysRound_35 : decode cX12_laysRound 35 = .ok (.iaload, 1) := by decide +kernel
theorem dX12_laysRound_36 : decode cX12_laysRound 36 = .ok (.istore 4, 2) := by decide +kernel
theorem dX12_laysRound_38 : decode cX12_laysRound 38 = .ok (.iload_n 2, 1) := by decide +kernel
theorem dX12_laysRound_39 : decode cX12_laysRound 39 = .ok (.iload_n 1, 1) := by decide +kernel
theorem dX12_laysRound_40 : decode cX12_laysRound 40 = .ok (.if_icmp .ne 12, 3) := by decide +kernel
theorem dX12_laysRound_43 : decode cX12_laysRound 43 = .ok (.iload 4, 2) := by decide +kernel
theorem dX12_laysRound_45 : decode cX12_laysRound 45 = .ok (.iconst 0, 1) := by decide +kernel
theorem dX12_laysRound_46 : decode cX12_laysRound 46 = .ok (.invokestatic 303, 3) := by decide +kernel
theorem dX12_laysRound_49 : decode cX12_laysRound 49 = .ok (.goto 6, 3) := by decide +kernel
theorem dX12_laysRound_52 : decode cX12_laysRound 52 = .ok (.ldc_w 396, 3) := by decide +kernel
theorem dX12_laysRound_55 : decode cX12_laysRound 55 = .ok (.istore 5, 2) := by decide +kernel
theorem dX12_laysRound_57 : decode cX12_laysRound 57 = .ok (.iconst 0, 1) := by decide +kernel
theorem dX12_laysRound_58 : decode cX12_laysRound 58 = .ok (.istore 6, 2) := by decide +kernel
theorem dX12_laysRound_60 : decode cX12_laysRound 60 = .ok (.iload 6, 2) := by decide +kernel
theorem dX12_laysRound_62 : decode cX12_laysRound 62 = .ok (.aload_n 0, 1) := by decide +kernel
theorem dX12_laysRound_63 : decode cX12_laysRound 63 = .ok (.getfield 393, 3) := by decide +kernel
theorem dX12_laysRound_66 : decode cX12_laysRound 66 = .ok (.if_icmp .ge 60, 3) := by decide +kernel
theorem dX12_laysRound_69 : decode cX12_laysRound 69 = .ok (.iload_n 2, 1) := by decide +kernel
theorem dX12_laysRound_70 : decode cX12_laysRound 70 = .ok (.iload 6, 2) := by decide +kernel
theorem dX12_laysRound_72 : decode cX12_laysRound 72 = .ok (.invokestatic 359, 3) := by decide +kernel
theorem dX12_laysRound_75 : decode cX12_laysRound 75 = .ok (.ifCond .ne 45, 3) := by decide +kernel
theorem dX12_laysRound_78 : decode cX12_laysRound 78 = .ok (.iload 5, 2) := by decide +kernel
theorem dX12_laysRound_80 : decode cX12_laysRound 80 = .ok (.iload 4, 2) := by decide +kernel
theorem dX12_laysRound_82 : decode cX12_laysRound 82 = .ok (.aload_n 0, 1) := by decide +kernel
theorem dX12_laysRound_83 : decode cX12_laysRound 83 = .ok (.getfield 19, 3) := by decide +kernel
theorem dX12_laysRound_86 : decode cX12_laysRound 86 = .ok (.aload_n 0, 1) := by decide +kernel
theorem dX12_laysRound_87 : decode cX12_laysRound 87 = .ok (.getfield 119, 3) := by decide +kernel
theorem dX12_laysRound_90 : decode cX12_laysRound 90 = .ok (.iload 6, 2) := by decide +kernel
theorem dX12_laysRound_92 : decode cX12_laysRound 92 = .ok (.iaload, 1) := by decide +kernel
theorem dX12_laysRound_93 : decode cX12_laysRound 93 = .ok (.iaload, 1) := by decide +kernel
theorem dX12_laysRound_94 : decode cX12_laysRound 94 = .ok (.invokestatic 303, 3) := by decide +kernel
theorem dX12_laysRound_97 : decode cX12_laysRound 97 = .ok (.aload_n 0, 1) := by decide +kernel
theorem dX12_laysRound_98 : decode cX12_laysRound 98 = .ok (.getfield 116, 3) := by decide +kernel
theorem dX12_laysRound_101 : decode cX12_laysRound 101 = .ok (.bipush 9, 2) := by decide +kernel
theorem dX12_laysRound_103 : decode cX12_laysRound 103 = .ok (.iload_n 2, 1) := by decide +kernel
theorem dX12_laysRound_104 : decode cX12_laysRound 104 = .ok (.iconst 1, 1) := by decide +kernel
theorem dX12_laysRound_105 : decode cX12_laysRound 105 = .ok (.iload 6, 2) := by decide +kernel
theorem dX12_laysRound_107 : decode cX12_laysRound 107 = .ok (.ishl, 1) := by decide +kernel
theorem dX12_laysRound_108 : decode cX12_laysRound 108 = .ok (.ior, 1) := by decide +kernel
theorem dX12_laysRound_109 : decode cX12_laysRound 109 = .ok (.imul, 1) := by decide +kernel
theorem dX12_laysRound_110 : decode cX12_laysRound 110 = .ok (.iload 6, 2) := by decide +kernel
theorem dX12_laysRound_112 : decode cX12_laysRound 112 = .ok (.iadd, 1) := by decide +kernel
theorem dX12_laysRound_113 : decode cX12_laysRound 113 = .ok (.iaload, 1) := by decide +kernel
theorem dX12_laysRound_114 : decode cX12_laysRound 114 = .ok (.iadd, 1) := by decide +kernel
theorem dX12_laysRound_115 : decode cX12_laysRound 115 = .ok (.invokestatic 309, 3) := by decide +kernel
theorem dX12_laysRound_118 : decode cX12_laysRound 118 = .ok (.istore 5, 2) := by decide +kernel
theorem dX12_laysRound_120 : decode cX12_laysRound 120 = .ok (.iinc 6 1, 3) := by decide +kernel
theorem dX12_laysRound_123 : decode cX12_laysRound 123 = .ok (.goto (-63), 3) := by decide +kernel
theorem dX12_laysRound_126 : decode cX12_laysRound 126 = .ok (.aload_n 0, 1) := by decide +kernel
theorem dX12_laysRound_127 : decode cX12_laysRound 127 = .ok (.getfield 116, 3) := by decide +kernel
theorem dX12_laysRound_130 : decode cX12_laysRound 130 = .ok (.bipush 9, 2) := by decide +kernel
theorem dX12_laysRound_132 : decode cX12_laysRound 132 = .ok (.iload_n 2, 1) := by decide +kernel
theorem dX12_laysRound_133 : decode cX12_laysRound 133 = .ok (.imul, 1) := by decide +kernel
theorem dX12_laysRound_134 : decode cX12_laysRound 134 = .ok (.iload_n 3, 1) := by decide +kernel
theorem dX12_laysRound_135 : decode cX12_laysRound 135 = .ok (.iadd, 1) := by decide +kernel
theorem dX12_laysRound_136 : decode cX12_laysRound 136 = .ok (.iload 5, 2) := by decide +kernel
theorem dX12_laysRound_138 : decode cX12_laysRound 138 = .ok (.iastore, 1) := by decide +kernel
theorem dX12_laysRound_139 : decode cX12_laysRound 139 = .ok (.iinc 3 1, 3) := by decide +kernel
theorem dX12_laysRound_142 : decode cX12_laysRound 142 = .ok (.goto (-125), 3) := by decide +kernel
theorem dX12_laysRound_145 : decode cX12_laysRound 145 = .ok (.iinc 2 (-1), 3) := by decide +kernel
theorem dX12_laysRound_148 : decode cX12_laysRound 148 = .ok (.goto (-137), 3) := by decide +kernel
theorem dX12_laysRound_151 : decode cX12_laysRound 151 = .ok (.return_, 1) := by decide +kernel
theorem dX12_round_0 : decode cX12_round 0 = .ok (.iload_n 1, 1) := by decide +kernel
theorem dX12_round_1 : decode cX12_round 1 = .ok (.iconst 1, 1) := by decide +kernel
theorem dX12_round_2 : decode cX12_round 2 = .ok (.ldc_w 397, 3) := by decide +kernel
theorem dX12_round_5 : decode cX12_round 5 = .ok (.invokestatic 156, 3) := by decide +kernel
theorem dX12_round_8 : decode cX12_round 8 = .ok (.ifCond .eq 30, 3) := by decide +kernel
theorem dX12_round_11 : decode cX12_round 11 = .ok (.iload_n 1, 1) := by decide +kernel
theorem dX12_round_12 : decode cX12_round 12 = .ok (.aload_n 0, 1) := by decide +kernel
theorem dX12_round_13 : decode cX12_round 13 = .ok (.getfield 152, 3) := by decide +kernel
theorem dX12_round_16 : decode cX12_round 16 = .ok (.ishr, 1) := by decide +kernel
theorem dX12_round_17 : decode cX12_round 17 = .ok (.ifCond .ne 21, 3) := by decide +kernel
theorem dX12_round_20 : decode cX12_round 20 = .ok (.iload_n 1, 1) := by decide +kernel
theorem dX12_round_21 : decode cX12_round 21 = .ok (.invokestatic 398, 3) := by decide +kernel
theorem dX12_round_24 : decode cX12_round 24 = .ok (.bipush 9, 2) := by decide +kernel
theorem dX12_round_26 : decode cX12_round 26 = .ok (.if_icmp .gt 12, 3) := by decide +kernel
theorem dX12_round_29 : decode cX12_round 29 = .ok (.iload_n 2, 1) := by decide +kernel
theorem dX12_round_30 : decode cX12_round 30 = .ok (.iconst 0, 1) := by decide +kernel
theorem dX12_round_31 : decode cX12_round 31 = .ok (.iconst 1, 1) := by decide +kernel
theorem dX12_round_32 : decode cX12_round 32 = .ok (.invokestatic 156, 3) := by decide +kernel
theorem dX12_round_35 : decode cX12_round 35 = .ok (.ifCond .ne 5, 3) := by decide +kernel
theorem dX12_round_38 : decode cX12_round 38 = .ok (.iconst (-1), 1) := by decide +kernel
theorem dX12_round_39 : decode cX12_round 39 = .ok (.ireturn, 1) := by decide +kernel
theorem dX12_round_40 : decode cX12_round 40 = .ok (.aload_n 0, 1) := by decide +kernel
theorem dX12_round_41 : decode cX12_round 41 = .ok (.iconst 0, 1) := by decide +kernel
theorem dX12_round_42 : decode cX12_round 42 = .ok (.putfield 393, 3) := by decide +kernel
theorem dX12_round_45 : decode cX12_round 45 = .ok (.iconst 0, 1) := by decide +kernel
theorem dX12_round_46 : decode cX12_round 46 = .ok (.istore_n 3, 1) := by decide +kernel
theorem dX12_round_47 : decode cX12_round 47 = .ok (.iload_n 3, 1) := by decide +kernel
theorem dX12_round_48 : decode cX12_round 48 = .ok (.aload_n 0, 1) := by decide +kernel
theorem dX12_round_49 : decode cX12_round 49 = .ok (.getfield 152, 3) := by decide +kernel
theorem dX12_round_52 : decode cX12_round 52 = .ok (.if_icmp .ge 40, 3) := by decide +kernel
theorem dX12_round_55 : decode cX12_round 55 = .ok (.iload_n 1, 1) := by decide +kernel
theorem dX12_round_56 : decode cX12_round 56 = .ok (.iload_n 3, 1) := by decide +kernel
theorem dX12_round_57 : decode cX12_round 57 = .ok (.invokestatic 359, 3) := by decide +kernel
theorem dX12_round_60 : decode cX12_round 60 = .ok (.ifCond .ne 6, 3) := by decide +kernel
theorem dX12_round_63 : decode cX12_round 63 = .ok (.goto 23, 3) := by decide +kernel
theorem dX12_round_66 : decode cX12_round 66 = .ok (.aload_n 0, 1) := by decide +kernel
theorem dX12_round_67 : decode cX12_round 67 = .ok (.getfield 119, 3) := by decide +kernel
theorem dX12_round_70 : decode cX12_round 70 = .ok (.aload_n 0, 1) := by decide +kernel
theorem dX12_round_71 : decode cX12_round 71 = .ok (.getfield 393, 3) := by decide +kernel
theorem dX12_round_74 : decode cX12_round 74 = .ok (.iload_n 3, 1) := by decide +kernel
theorem dX12_round_75 : decode cX12_round 75 = .ok (.iastore, 1) := by decide +kernel
theorem dX12_round_76 : decode cX12_round 76 = .ok (.aload_n 0, 1) := by decide +kernel
theorem dX12_round_77 : decode cX12_round 77 = .ok (.aload_n 0, 1) := by decide +kernel
theorem dX12_round_78 : decode cX12_round 78 = .ok (.getfield 393, 3) := by decide +kernel
theorem dX12_round_81 : decode cX12_round 81 = .ok (.iconst 1, 1) := by decide +kernel
theorem dX12_round_82 : decode cX12_round 82 = .ok (.iadd, 1) := by decide +kernel
theorem dX12_round_83 : decode cX12_round 83 = .ok (.putfield 393, 3) := by decide +kernel
theorem dX12_round_86 : decode cX12_round 86 = .ok (.iinc 3 1, 3) := by decide +kernel
theorem dX12_round_89 : decode cX12_round 89 = .ok (.goto (-42), 3) := by decide +kernel
theorem dX12_round_92 : decode cX12_round 92 = .ok (.aload_n 0, 1) := by decide +kernel
theorem dX12_round_93 : decode cX12_round 93 = .ok (.invokevirtual 401, 3) := by decide +kernel
theorem dX12_round_96 : decode cX12_round 96 = .ok (.iconst (-1), 1) := by decide +kernel
theorem dX12_round_97 : decode cX12_round 97 = .ok (.istore_n 3, 1) := by decide +kernel
theorem dX12_round_98 : decode cX12_round 98 = .ok (.ldc_w 396, 3) := by decide +kernel
theorem dX12_round_101 : decode cX12_round 101 = .ok (.istore 4, 2) := by decide +kernel
theorem dX12_round_103 : decode cX12_round 103 = .ok (.iconst 0, 1) := by decide +kernel
theorem dX12_round_104 : decode cX12_round 104 = .ok (.istore 5, 2) := by decide +kernel
theorem dX12_round_106 : decode cX12_round 106 = .ok (.iload 5, 2) := by decide +kernel
theorem dX12_round_108 : decode cX12_round 108 = .ok (.aload_n 0, 1) := by decide +kernel
theorem dX12_round_109 : decode cX12_round 109 = .ok (.getfield 393, 3) := by decide +kernel
theorem dX12_round_112 : decode cX12_round 112 = .ok (.if_icmp .ge 65, 3) := by decide +kernel
theorem dX12_round_115 : decode cX12_round 115 = .ok (.iconst 0, 1) := by decide +kernel
theorem dX12_round_116 : decode cX12_round 116 = .ok (.aload_n 0, 1) := by decide +kernel
theorem dX12_round_117 : decode cX12_round 117 = .ok (.getfield 19, 3) := by decide +kernel
theorem dX12_round_120 : decode cX12_round 120 = .ok (.aload_n 0, 1) := by decide +kernel
theorem dX12_round_121 : decode cX12_round 121 = .ok (.getfield 119, 3) := by decide +kernel
theorem dX12_round_124 : decode cX12_round 124 = .ok (.iload 5, 2) := by decide +kernel
theorem dX12_round_126 : decode cX12_round 126 = .ok (.iaload, 1) := by decide +kernel
theorem dX12_round_127 : decode cX12_round 127 = .ok (.iaload, 1) := by decide +kernel
theorem dX12_round_128 : decode cX12_round 128 = .ok (.invokestatic 303, 3) := by decide +kernel
theorem dX12_round_131 : decode cX12_round 131 = .ok (.aload_n 0, 1) := by decide +kernel
theorem dX12_round_132 : decode cX12_round 132 = .ok (.getfield 116, 3) := by decide +kernel
theorem dX12_round_135 : decode cX12_round 135 = .ok (.bipush 9, 2) := by decide +kernel
theorem dX12_round_137 : decode cX12_round 137 = .ok (.iconst 1, 1) := by decide +kernel
theorem dX12_round_138 : decode cX12_round 138 = .ok (.iload 5, 2) := by decide +kernel
theorem dX12_round_140 : decode cX12_round 140 = .ok (.ishl, 1) := by decide +kernel
theorem dX12_round_141 : decode cX12_round 141 = .ok (.imul, 1) := by decide +kernel
theorem dX12_round_142 : decode cX12_round 142 = .ok (.iload 5, 2) := by decide +kernel
theorem dX12_round_144 : decode cX12_round 144 = .ok (.iadd, 1) := by decide +kernel
theorem dX12_round_145 : decode cX12_round 145 = .ok (.iaload, 1) := by decide +kernel
theorem dX12_round_146 : decode cX12_round 146 = .ok (.iadd, 1) := by decide +kernel
theorem dX12_round_147 : decode cX12_round 147 = .ok (.istore 6, 2) := by decide +kernel
theorem dX12_round_149 : decode cX12_round 149 = .ok (.iload 6, 2) := by decide +kernel
theorem dX12_round_151 : decode cX12_round 151 = .ok (.iload 4, 2) := by decide +kernel
theorem dX12_round_153 : decode cX12_round 153 = .ok (.if_icmp .lt 6, 3) := by decide +kernel
theorem dX12_round_156 : decode cX12_round 156 = .ok (.goto 15, 3) := by decide +kernel
theorem dX12_round_159 : decode cX12_round 159 = .ok (.iload 6, 2) := by decide +kernel
theorem dX12_round_161 : decode cX12_round 161 = .ok (.istore 4, 2) := by decide +kernel
theorem dX12_round_163 : decode cX12_round 163 = .ok (.aload_n 0, 1) := by decide +kernel
theorem dX12_round_164 : decode cX12_round 164 = .ok (.getfield 119, 3) := by decide +kernel
theorem dX12_round_167 : decode cX12_round 167 = .ok (.iload 5, 2) := by decide +kernel
theorem dX12_round_169 : decode cX12_round 169 = .ok (.iaload, 1) := by decide +kernel
theorem dX12_round_170 : decode cX12_round 170 = .ok (.istore_n 3, 1) := by decide +kernel
theorem dX12_round_171 : decode cX12_round 171 = .ok (.iinc 5 1, 3) := by decide +kernel
theorem dX12_round_174 : decode cX12_round 174 = .ok (.goto (-68), 3) := by decide +kernel
theorem dX12_round_177 : decode cX12_round 177 = .ok (.iload_n 2, 1) := by decide +kernel
theorem dX12_round_178 : decode cX12_round 178 = .ok (.ifCond .ne 8, 3) := by decide +kernel
theorem dX12_round_181 : decode cX12_round 181 = .ok (.iload 4, 2) := by decide +kernel
theorem dX12_round_183 : decode cX12_round 183 = .ok (.goto 4, 3) := by decide +kernel
theorem dX12_round_186 : decode cX12_round 186 = .ok (.iload_n 3, 1) := by decide +kernel
theorem dX12_round_187 : decode cX12_round 187 = .ok (.ireturn, 1) := by decide +kernel
theorem dX12_counts_0 : decode cX12_counts 0 = .ok (.iconst 0, 1) := by decide +kernel
theorem dX12_counts_1 : decode cX12_counts 1 = .ok (.istore_n 1, 1) := by decide +kernel
theorem dX12_counts_2 : decode cX12_counts 2 = .ok (.iload_n 1, 1) := by decide +kernel
theorem dX12_counts_3 : decode cX12_counts 3 = .ok (.bipush 16, 2) := by decide +kernel
theorem dX12_counts_5 : decode cX12_counts 5 = .ok (.if_icmp .ge 16, 3) := by decide +kernel
theorem dX12_counts_8 : decode cX12_counts 8 = .ok (.aload_n 0, 1) := by decide +kernel
theorem dX12_counts_9 : decode cX12_counts 9 = .ok (.getfield 122, 3) := by decide +kernel
theorem dX12_counts_12 : decode cX12_counts 12 = .ok (.iload_n 1, 1) := by decide +kernel
theorem dX12_counts_13 : decode cX12_counts 13 = .ok (.iconst 0, 1) := by decide +kernel
theorem dX12_counts_14 : decode cX12_counts 14 = .ok (.iastore, 1) := by decide +kernel
theorem dX12_counts_15 : decode cX12_counts 15 = .ok (.iinc 1 1, 3) := by decide +kernel
theorem dX12_counts_18 : decode cX12_counts 18 = .ok (.goto (-16), 3) := by decide +kernel
theorem dX12_counts_21 : decode cX12_counts 21 = .ok (.iconst 0, 1) := by decide +kernel
theorem dX12_counts_22 : decode cX12_counts 22 = .ok (.istore_n 1, 1) := by decide +kernel
theorem dX12_counts_23 : decode cX12_counts 23 = .ok (.iload_n 1, 1) := by decide +kernel
theorem dX12_counts_24 : decode cX12_counts 24 = .ok (.aload_n 0, 1) := by decide +kernel
theorem dX12_counts_25 : decode cX12_counts 25 = .ok (.getfield 152, 3) := by decide +kernel
theorem dX12_counts_28 : decode cX12_counts 28 = .ok (.if_icmp .ge 81, 3) := by decide +kernel
theorem dX12_counts_31 : decode cX12_counts 31 = .ok (.aload_n 0, 1) := by decide +kernel
theorem dX12_counts_32 : decode cX12_counts 32 = .ok (.getfield 7, 3) := by decide +kernel
theorem dX12_counts_35 : decode cX12_counts 35 = .ok (.iconst 0, 1) := by decide +kernel
theorem dX12_counts_36 : decode cX12_counts 36 = .ok (.iload_n 1, 1) := by decide +kernel
theorem dX12_counts_37 : decode cX12_counts 37 = .ok (.iadd, 1) := by decide +kernel
theorem dX12_counts_38 : decode cX12_counts 38 = .ok (.iaload, 1) := by decide +kernel
theorem dX12_counts_39 : decode cX12_counts 39 = .ok (.iconst 2, 1) := by decide +kernel
theorem dX12_counts_40 : decode cX12_counts 40 = .ok (.if_icmp .eq 6, 3) := by decide +kernel
theorem dX12_counts_43 : decode cX12_counts 43 = .ok (.goto 60, 3) := by decide +kernel
theorem dX12_counts_46 : decode cX12_counts 46 = .ok (.aload_n 0, 1) := by decide +kernel
theorem dX12_counts_47 : decode cX12_counts 47 = .ok (.getfield 122, 3) := by decide +kernel
theorem dX12_counts_50 : decode cX12_counts 50 = .ok (.aload_n 0, 1) := by decide +kernel
theorem dX12_counts_51 : decode cX12_counts 51 = .ok (.getfield 22, 3) := by decide +kernel
theorem dX12_counts_54 : decode cX12_counts 54 = .ok (.iload_n 1, 1) := by decide +kernel
theorem dX12_counts_55 : decode cX12_counts 55 = .ok (.iaload, 1) := by decide +kernel
theorem dX12_counts_56 : decode cX12_counts 56 = .ok (.aload_n 0, 1) := by decide +kernel
theorem dX12_counts_57 : decode cX12_counts 57 = .ok (.getfield 122, 3) := by decide +kernel
theorem dX12_counts_60 : decode cX12_counts 60 = .ok (.aload_n 0, 1) := by decide +kernel
theorem dX12_counts_61 : decode cX12_counts 61 = .ok (.getfield 22, 3) := by decide +kernel
theorem dX12_counts_64 : decode cX12_counts 64 = .ok (.iload_n 1, 1) := by decide +kernel
theorem dX12_counts_65 : decode cX12_counts 65 = .ok (.iaload, 1) := by decide +kernel
theorem dX12_counts_66 : decode cX12_counts 66 = .ok (.iaload, 1) := by decide +kernel
theorem dX12_counts_67 : decode cX12_counts 67 = .ok (.iconst 1, 1) := by decide +kernel
theorem dX12_counts_68 : decode cX12_counts 68 = .ok (.iadd, 1) := by decide +kernel
theorem dX12_counts_69 : decode cX12_counts 69 = .ok (.iastore, 1) := by decide +kernel
theorem dX12_counts_70 : decode cX12_counts 70 = .ok (.aload_n 0, 1) := by decide +kernel
theorem dX12_counts_71 : decode cX12_counts 71 = .ok (.getfield 25, 3) := by decide +kernel
theorem dX12_counts_74 : decode cX12_counts 74 = .ok (.iload_n 1, 1) := by decide +kernel
theorem dX12_counts_75 : decode cX12_counts 75 = .ok (.iaload, 1) := by decide +kernel
theorem dX12_counts_76 : decode cX12_counts 76 = .ok (.ifCond .lt 27, 3) := by decide +kernel
theorem dX12_counts_79 : decode cX12_counts 79 = .ok (.aload_n 0, 1) := by decide +kernel
theorem dX12_counts_80 : decode cX12_counts 80 = .ok (.getfield 122, 3) := by decide +kernel
theorem dX12_counts_83 : decode cX12_counts 83 = .ok (.aload_n 0, 1) := by decide +kernel
theorem dX12_counts_84 : decode cX12_counts 84 = .ok (.getfield 25, 3) := by decide +kernel
theorem dX12_counts_87 : decode cX12_counts 87 = .ok (.iload_n 1, 1) := by decide +kernel
theorem dX12_counts_88 : decode cX12_counts 88 = .ok (.iaload, 1) := by decide +kernel
theorem dX12_counts_89 : decode cX12_counts 89 = .ok (.aload_n 0, 1) := by decide +kernel
theorem dX12_counts_90 : decode cX12_counts 90 = .ok (.getfield 122, 3) := by decide +kernel
theorem dX12_counts_93 : decode cX12_counts 93 = .ok (.aload_n 0, 1) := by decide +kernel
theorem dX12_counts_94 : decode cX12_counts 94 = .ok (.getfield 25, 3) := by decide +kernel
theorem dX12_counts_97 : decode cX12_counts 97 = .ok (.iload_n 1, 1) := by decide +kernel
theorem dX12_counts_98 : decode cX12_counts 98 = .ok (.iaload, 1) := by decide +kernel
theorem dX12_counts_99 : decode cX12_counts 99 = .ok (.iaload, 1) := by decide +kernel
theorem dX12_counts_100 : decode cX12_counts 100 = .ok (.iconst 1, 1) := by decide +kernel
theorem dX12_counts_101 : decode cX12_counts 101 = .ok (.iadd, 1) := by decide +kernel
theorem dX12_counts_102 : decode cX12_counts 102 = .ok (.iastore, 1) := by decide +kernel
theorem dX12_counts_103 : decode cX12_counts 103 = .ok (.iinc 1 1, 3) := by decide +kernel
theorem dX12_counts_106 : decode cX12_counts 106 = .ok (.goto (-83), 3) := by decide +kernel
theorem dX12_counts_109 : decode cX12_counts 109 = .ok (.return_, 1) := by decide +kernel
theorem dX12_readsWords_0 : decode cX12_readsWords 0 = .ok (.iconst 0, 1) := by decide +kernel
theorem dX12_readsWords_1 : decode cX12_readsWords 1 = .ok (.istore_n 2, 1) := by decide +kernel
theorem dX12_readsWords_2 : decode cX12_readsWords 2 = .ok (.iload_n 2, 1) := by decide +kernel
theorem dX12_readsWords_3 : decode cX12_readsWords 3 = .ok (.sipush 128, 3) := by decide +kernel
theorem dX12_readsWords_6 : decode cX12_readsWords 6 = .ok (.if_icmp .ge 16, 3) := by decide +kernel
theorem dX12_readsWords_9 : decode cX12_readsWords 9 = .ok (.aload_n 0, 1) := by decide +kernel
theorem dX12_readsWords_10 : decode cX12_readsWords 10 = .ok (.getfield 125, 3) := by decide +kernel
theorem dX12_readsWords_13 : decode cX12_readsWords 13 = .ok (.iload_n 2, 1) := by decide +kernel
theorem dX12_readsWords_14 : decode cX12_readsWords 14 = .ok (.iconst 0, 1) := by decide +kernel
theorem dX12_readsWords_15 : decode cX12_readsWords 15 = .ok (.iastore, 1) := by decide +kernel
theorem dX12_readsWords_16 : decode cX12_readsWords 16 = .ok (.iinc 2 1, 3) := by decide +kernel
theorem dX12_readsWords_19 : decode cX12_readsWords 19 = .ok (.goto (-17), 3) := by decide +kernel
theorem dX12_readsWords_22 : decode cX12_readsWords 22 = .ok (.aload_n 0, 1) := by decide +kernel
theorem dX12_readsWords_23 : decode cX12_readsWords 23 = .ok (.iconst 0, 1) := by decide +kernel
theorem dX12_readsWords_24 : decode cX12_readsWords 24 = .ok (.putfield 404, 3) := by decide +kernel
theorem dX12_readsWords_27 : decode cX12_readsWords 27 = .ok (.iconst 0, 1) := by decide +kernel
theorem dX12_readsWords_28 : decode cX12_readsWords 28 = .ok (.istore_n 2, 1) := by decide +kernel
theorem dX12_readsWords_29 : decode cX12_readsWords 29 = .ok (.iconst 0, 1) := by decide +kernel
theorem dX12_readsWords_30 : decode cX12_readsWords 30 = .ok (.istore_n 3, 1) := by decide +kernel
theorem dX12_readsWords_31 : decode cX12_readsWords 31 = .ok (.iload_n 3, 1) := by decide +kernel
theorem dX12_readsWords_32 : decode cX12_readsWords 32 = .ok (.iload_n 1, 1) := by decide +kernel
theorem dX12_readsWords_33 : decode cX12_readsWords 33 = .ok (.if_icmp .ge 99, 3) := by decide +kernel
theorem dX12_readsWords_36 : decode cX12_readsWords 36 = .ok (.aload_n 0, 1) := by decide +kernel
theorem dX12_readsWords_37 : decode cX12_readsWords 37 = .ok (.iload_n 3, 1) := by decide +kernel
theorem dX12_readsWords_38 : decode cX12_readsWords 38 = .ok (.invokevirtual 407, 3) := by decide +kernel
theorem dX12_readsWords_41 : decode cX12_readsWords 41 = .ok (.istore 4, 2) := by decide +kernel
theorem dX12_readsWords_43 : decode cX12_readsWords 43 = .ok (.iload 4, 2) := by decide +kernel
theorem dX12_readsWords_45 : decode cX12_readsWords 45 = .ok (.sipush 255, 3) := by decide +kernel
theorem dX12_readsWords_48 : decode cX12_readsWords 48 = .ok (.if_icmp .ne 24, 3) := by decide +kernel
theorem dX12_readsWords_51 : decode cX12_readsWords 51 = .ok (.iload_n 2, 1) := by decide +kernel
theorem dX12_readsWords_52 : decode cX12_readsWords 52 = .ok (.ifCond .ne 5, 3) := by decide +kernel
theorem dX12_readsWords_55 : decode cX12_readsWords 55 = .ok (.iconst 0, 1) := by decide +kernel
theorem dX12_readsWords_56 : decode cX12_readsWords 56 = .ok (.ireturn, 1) := by decide +kernel
theorem dX12_readsWords_57 : decode cX12_readsWords 57 = .ok (.iconst 0, 1) := by decide +kernel
theorem dX12_readsWords_58 : decode cX12_readsWords 58 = .ok (.istore_n 2, 1) := by decide +kernel
theorem dX12_readsWords_59 : decode cX12_readsWords 59 = .ok (.aload_n 0, 1) := by decide +kernel
theorem dX12_readsWords_60 : decode cX12_readsWords 60 = .ok (.aload_n 0, 1) := by decide +kernel
theorem dX12_readsWords_61 : decode cX12_readsWords 61 = .ok (.getfield 404, 3) := by decide +kernel
theorem dX12_readsWords_64 : decode cX12_readsWords 64 = .ok (.iconst 1, 1) := by decide +kernel
theorem dX12_readsWords_65 : decode cX12_readsWords 65 = .ok (.iadd, 1) := by decide +kernel
theorem dX12_readsWords_66 : decode cX12_readsWords 66 = .ok (.putfield 404, 3) := by decide +kernel
theorem dX12_readsWords_69 : decode cX12_readsWords 69 = .ok (.goto 57, 3) := by decide +kernel
theorem dX12_readsWords_72 : decode cX12_readsWords 72 = .ok (.iload 4, 2) := by decide +kernel
theorem dX12_readsWords_74 : decode cX12_readsWords 74 = .ok (.bipush 16, 2) := by decide +kernel
theorem dX12_readsWords_76 : decode cX12_readsWords 76 = .ok (.if_icmp .ge 12, 3) := by decide +kernel
theorem dX12_readsWords_79 : decode cX12_readsWords 79 = .ok (.aload_n 0, 1) := by decide +kernel
theorem dX12_readsWords_80 : decode cX12_readsWords 80 = .ok (.getfield 404, 3) := by decide +kernel
theorem dX12_readsWords_83 : decode cX12_readsWords 83 = .ok (.bipush 8, 2) := by decide +kernel
theorem dX12_readsWords_85 : decode cX12_readsWords 85 = .ok (.if_icmp .ne 5, 3) := by decide +kernel
theorem dX12_readsWords_88 : decode cX12_readsWords 88 = .ok (.iconst 0, 1) := by decide +kernel
theorem dX12_readsWords_89 : decode cX12_readsWords 89 = .ok (.ireturn, 1) := by decide +kernel
theorem dX12_readsWords_90 : decode cX12_readsWords 90 = .ok (.aload_n 0, 1) := by decide +kernel
theorem dX12_readsWords_91 : decode cX12_readsWords 91 = .ok (.getfield 125, 3) := by decide +kernel
theorem dX12_readsWords_94 : decode cX12_readsWords 94 = .ok (.bipush 16, 2) := by decide +kernel
theorem dX12_readsWords_96 : decode cX12_readsWords 96 = .ok (.aload_n 0, 1) := by decide +kernel
theorem dX12_readsWords_97 : decode cX12_readsWords 97 = .ok (.getfield 404, 3) := by decide +kernel
theorem dX12_readsWords_100 : decode cX12_readsWords 100 = .ok (.imul, 1) := by decide +kernel
theorem dX12_readsWords_101 : decode cX12_readsWords 101 = .ok (.iload 4, 2) := by decide +kernel
theorem dX12_readsWords_103 : decode cX12_readsWords 103 = .ok (.iadd, 1) := by decide +kernel
theorem dX12_readsWords_104 : decode cX12_readsWords 104 = .ok (.aload_n 0, 1) := by decide +kernel
theorem dX12_readsWords_105 : decode cX12_readsWords 105 = .ok (.getfield 125, 3) := by decide +kernel
theorem dX12_readsWords_108 : decode cX12_readsWords 108 = .ok (.bipush 16, 2) := by decide +kernel
theorem dX12_readsWords_110 : decode cX12_readsWords 110 = .ok (.aload_n 0, 1) := by decide +kernel
theorem dX12_readsWords_111 : decode cX12_readsWords 111 = .ok (.getfield 404, 3) := by decide +kernel
theorem dX12_readsWords_114 : decode cX12_readsWords 114 = .ok (.imul, 1) := by decide +kernel
theorem dX12_readsWords_115 : decode cX12_readsWords 115 = .ok (.iload 4, 2) := by decide +kernel
theorem dX12_readsWords_117 : decode cX12_readsWords 117 = .ok (.iadd, 1) := by decide +kernel
theorem dX12_readsWords_118 : decode cX12_readsWords 118 = .ok (.iaload, 1) := by decide +kernel
theorem dX12_readsWords_119 : decode cX12_readsWords 119 = .ok (.iconst 1, 1) := by decide +kernel
theorem dX12_readsWords_120 : decode cX12_readsWords 120 = .ok (.iadd, 1) := by decide +kernel
theorem dX12_readsWords_121 : decode cX12_readsWords 121 = .ok (.iastore, 1) := by decide +kernel
theorem dX12_readsWords_122 : decode cX12_readsWords 122 = .ok (.iload_n 2, 1) := by decide +kernel
theorem dX12_readsWords_123 : decode cX12_readsWords 123 = .ok (.iconst 1, 1) := by decide +kernel
theorem dX12_readsWords_124 : decode cX12_readsWords 124 = .ok (.iadd, 1) := by decide +kernel
theorem dX12_readsWords_125 : decode cX12_readsWords 125 = .ok (.istore_n 2, 1) := by decide +kernel
theorem dX12_readsWords_126 : decode cX12_readsWords 126 = .ok (.iinc 3 1, 3) := by decide +kernel
theorem dX12_readsWords_129 : decode cX12_readsWords 129 = .ok (.goto (-98), 3) := by decide +kernel
theorem dX12_readsWords_132 : decode cX12_readsWords 132 = .ok (.iload_n 2, 1) := by decide +kernel
theorem dX12_readsWords_133 : decode cX12_readsWords 133 = .ok (.ifCond .ne 7, 3) := by decide +kernel
theorem dX12_readsWords_136 : decode cX12_readsWords 136 = .ok (.iconst 1, 1) := by decide +kernel
theorem dX12_readsWords_137 : decode cX12_readsWords 137 = .ok (.goto 4, 3) := by decide +kernel
theorem dX12_readsWords_140 : decode cX12_readsWords 140 = .ok (.iconst 0, 1) := by decide +kernel
theorem dX12_readsWords_141 : decode cX12_readsWords 141 = .ok (.ireturn, 1) := by decide +kernel
theorem dX12_canBeSpelt_0 : decode cX12_canBeSpelt 0 = .ok (.iconst 0, 1) := by decide +kernel
theorem dX12_canBeSpelt_1 : decode cX12_canBeSpelt 1 = .ok (.istore_n 2, 1) := by decide +kernel
theorem dX12_canBeSpelt_2 : decode cX12_canBeSpelt 2 = .ok (.iload_n 2, 1) := by decide +kernel
theorem dX12_canBeSpelt_3 : decode cX12_canBeSpelt 3 = .ok (.bipush 16, 2) := by decide +kernel
theorem dX12_canBeSpelt_5 : decode cX12_canBeSpelt 5 = .ok (.if_icmp .ge 65, 3) := by decide +kernel
theorem dX12_canBeSpelt_8 : decode cX12_canBeSpelt 8 = .ok (.iconst 0, 1) := by decide +kernel
theorem dX12_canBeSpelt_9 : decode cX12_canBeSpelt 9 = .ok (.istore_n 3, 1) := by decide +kernel
theorem dX12_canBeSpelt_10 : decode cX12_canBeSpelt 10 = .ok (.iconst 0, 1) := by decide +kernel
theorem dX12_canBeSpelt_11 : decode cX12_canBeSpelt 11 = .ok (.istore 4, 2) := by decide +kernel
theorem dX12_canBeSpelt_13 : decode cX12_canBeSpelt 13 = .ok (.iload 4, 2) := by decide +kernel
theorem dX12_canBeSpelt_15 : decode cX12_canBeSpelt 15 = .ok (.aload_n 0, 1) := by decide +kernel
theorem dX12_canBeSpelt_16 : decode cX12_canBeSpelt 16 = .ok (.getfield 404, 3) := by decide +kernel
theorem dX12_canBeSpelt_19 : decode cX12_canBeSpelt 19 = .ok (.if_icmp .ge 33, 3) := by decide +kernel
theorem dX12_canBeSpelt_22 : decode cX12_canBeSpelt 22 = .ok (.iload_n 1, 1) := by decide +kernel
theorem dX12_canBeSpelt_23 : decode cX12_canBeSpelt 23 = .ok (.iload 4, 2) := by decide +kernel
theorem dX12_canBeSpelt_25 : decode cX12_canBeSpelt 25 = .ok (.invokestatic 359, 3) := by decide +kernel
theorem dX12_canBeSpelt_28 : decode cX12_canBeSpelt 28 = .ok (.ifCond .eq 18, 3) := by decide +kernel
theorem dX12_canBeSpelt_31 : decode cX12_canBeSpelt 31 = .ok (.iload_n 3, 1) := by decide +kernel
theorem dX12_canBeSpelt_32 : decode cX12_canBeSpelt 32 = .ok (.aload_n 0, 1) := by decide +kernel
theorem dX12_canBeSpelt_33 : decode cX12_canBeSpelt 33 = .ok (.getfield 125, 3) := by decide +kernel
theorem dX12_canBeSpelt_36 : decode cX12_canBeSpelt 36 = .ok (.bipush 16, 2) := by decide +kernel
theorem dX12_canBeSpelt_38 : decode cX12_canBeSpelt 38 = .ok (.iload 4, 2) := by decide +kernel
theorem dX12_canBeSpelt_40 : decode cX12_canBeSpelt 40 = .ok (.imul, 1) := by decide +kernel
theorem dX12_canBeSpelt_41 : decode cX12_canBeSpelt 41 = .ok (.iload_n 2, 1) := by decide +kernel
theorem dX12_canBeSpelt_42 : decode cX12_canBeSpelt 42 = .ok (.iadd, 1) := by decide +kernel
theorem dX12_canBeSpelt_43 : decode cX12_canBeSpelt 43 = .ok (.iaload, 1) := by decide +kernel
theorem dX12_canBeSpelt_44 : decode cX12_canBeSpelt 44 = .ok (.iadd, 1) := by decide +kernel
theorem dX12_canBeSpelt_45 : decode cX12_canBeSpelt 45 = .ok (.istore_n 3, 1) := by decide +kernel
theorem dX12_canBeSpelt_46 : decode cX12_canBeSpelt 46 = .ok (.iinc 4 1, 3) := by decide +kernel
theorem dX12_canBeSpelt_49 : decode cX12_canBeSpelt 49 = .ok (.goto (-36), 3) := by decide +kernel
theorem dX12_canBeSpelt_52 : decode cX12_canBeSpelt 52 = .ok (.iload_n 3, 1) := by decide +kernel
theorem dX12_canBeSpelt_53 : decode cX12_canBeSpelt 53 = .ok (.aload_n 0, 1) := by decide +kernel
theorem dX12_canBeSpelt_54 : decode cX12_canBeSpelt 54 = .ok (.getfield 122, 3) := by decide +kernel
theorem dX12_canBeSpelt_57 : decode cX12_canBeSpelt 57 = .ok (.iload_n 2, 1) := by decide +kernel
theorem dX12_canBeSpelt_58 : decode cX12_canBeSpelt 58 = .ok (.iaload, 1) := by decide +kernel
theorem dX12_canBeSpelt_59 : decode cX12_canBeSpelt 59 = .ok (.if_icmp .le 5, 3) := by decide +kernel
theorem dX12_canBeSpelt_62 : decode cX12_canBeSpelt 62 = .ok (.iconst 0, 1) := by decide +kernel
theorem dX12_canBeSpelt_63 : decode cX12_canBeSpelt 63 = .ok (.ireturn, 1) := by decide +kernel
theorem dX12_canBeSpelt_64 : decode cX12_canBeSpelt 64 = .ok (.iinc 2 1, 3) := by decide +kernel
theorem dX12_canBeSpelt_67 : decode cX12_canBeSpelt 67 = .ok (.goto (-65), 3) := by decide +kernel
theorem dX12_canBeSpelt_70 : decode cX12_canBeSpelt 70 = .ok (.iconst 1, 1) := by decide +kernel
theorem dX12_canBeSpelt_71 : decode cX12_canBeSpelt 71 = .ok (.ireturn, 1) := by decide +kernel
theorem dX12_words_0 : decode cX12_words 0 = .ok (.iload_n 1, 1) := by decide +kernel
theorem dX12_words_1 : decode cX12_words 1 = .ok (.iconst 1, 1) := by decide +kernel
theorem dX12_words_2 : decode cX12_words 2 = .ok (.bipush 60, 2) := by decide +kernel
theorem dX12_words_4 : decode cX12_words 4 = .ok (.invokestatic 156, 3) := by decide +kernel
theorem dX12_words_7 : decode cX12_words 7 = .ok (.ifCond .eq 20, 3) := by decide +kernel
theorem dX12_words_10 : decode cX12_words 10 = .ok (.iload_n 2, 1) := by decide +kernel
theorem dX12_words_11 : decode cX12_words 11 = .ok (.iconst 0, 1) := by decide +kernel
theorem dX12_words_12 : decode cX12_words 12 = .ok (.iconst 1, 1) := by decide +kernel
theorem dX12_words_13 : decode cX12_words 13 = .ok (.invokestatic 156, 3) := by decide +kernel
theorem dX12_words_16 : decode cX12_words 16 = .ok (.ifCond .eq 11, 3) := by decide +kernel
theorem dX12_words_19 : decode cX12_words 19 = .ok (.iload_n 1, 1) := by decide +kernel
theorem dX12_words_20 : decode cX12_words 20 = .ok (.aload_n 0, 1) := by decide +kernel
theorem dX12_words_21 : decode cX12_words 21 = .ok (.getfield 168, 3) := by decide +kernel
theorem dX12_words_24 : decode cX12_words 24 = .ok (.if_icmp .le 5, 3) := by decide +kernel
theorem dX12_words_27 : decode cX12_words 27 = .ok (.iconst (-1), 1) := by decide +kernel
theorem dX12_words_28 : decode cX12_words 28 = .ok (.ireturn, 1) := by decide +kernel
theorem dX12_words_29 : decode cX12_words 29 = .ok (.aload_n 0, 1) := by decide +kernel
theorem dX12_words_30 : decode cX12_words 30 = .ok (.iconst 0, 1) := by decide +kernel
theorem dX12_words_31 : decode cX12_words 31 = .ok (.putfield 168, 3) := by decide +kernel
theorem dX12_words_34 : decode cX12_words 34 = .ok (.aload_n 0, 1) := by decide +kernel
theorem dX12_words_35 : decode cX12_words 35 = .ok (.iload_n 1, 1) := by decide +kernel
theorem dX12_words_36 : decode cX12_words 36 = .ok (.invokevirtual 410, 3) := by decide +kernel
theorem dX12_words_39 : decode cX12_words 39 = .ok (.ifCond .ne 6, 3) := by decide +kernel
theorem dX12_words_42 : decode cX12_words 42 = .ok (.bipush (-2), 2) := by decide +kernel
theorem dX12_words_44 : decode cX12_words 44 = .ok (.ireturn, 1) := by decide +kernel
theorem dX12_words_45 : decode cX12_words 45 = .ok (.aload_n 0, 1) := by decide +kernel
theorem dX12_words_46 : decode cX12_words 46 = .ok (.invokevirtual 413, 3) := by decide +kernel
theorem dX12_words_49 : decode cX12_words 49 = .ok (.iconst 0, 1) := by decide +kernel
theorem dX12_words_50 : decode cX12_words 50 = .ok (.istore_n 3, 1) := by decide +kernel
theorem dX12_words_51 : decode cX12_words 51 = .ok (.iconst 1, 1) := by decide +kernel
theorem dX12_words_52 : decode cX12_words 52 = .ok (.istore 4, 2) := by decide +kernel
theorem dX12_words_54 : decode cX12_words 54 = .ok (.iload 4, 2) := by decide +kernel
theorem dX12_words_56 : decode cX12_words 56 = .ok (.iconst 1, 1) := by decide +kernel
theorem dX12_words_57 : decode cX12_words 57 = .ok (.aload_n 0, 1) := by decide +kernel
theorem dX12_words_58 : decode cX12_words 58 = .ok (.getfield 404, 3) := by decide +kernel
theorem dX12_words_61 : decode cX12_words 61 = .ok (.ishl, 1) := by decide +kernel
theorem dX12_words_62 : decode cX12_words 62 = .ok (.if_icmp .ge 33, 3) := by decide +kernel
theorem dX12_words_65 : decode cX12_words 65 = .ok (.iload 4, 2) := by decide +kernel
theorem dX12_words_67 : decode cX12_words 67 = .ok (.invokestatic 398, 3) := by decide +kernel
theorem dX12_words_70 : decode cX12_words 70 = .ok (.iload_n 3, 1) := by decide +kernel
theorem dX12_words_71 : decode cX12_words 71 = .ok (.invokestatic 398, 3) := by decide +kernel
theorem dX12_words_74 : decode cX12_words 74 = .ok (.if_icmp .le 15, 3) := by decide +kernel
theorem dX12_words_77 : decode cX12_words 77 = .ok (.aload_n 0, 1) := by decide +kernel
theorem dX12_words_78 : decode cX12_words 78 = .ok (.iload 4, 2) := by decide +kernel
theorem dX12_words_80 : decode cX12_words 80 = .ok (.invokevirtual 416, 3) := by decide +kernel
theorem dX12_words_83 : decode cX12_words 83 = .ok (.ifCond .eq 6, 3) := by decide +kernel
theorem dX12_words_86 : decode cX12_words 86 = .ok (.iload 4, 2) := by decide +kernel
theorem dX12_words_88 : decode cX12_words 88 = .ok (.istore_n 3, 1) := by decide +kernel
theorem dX12_words_89 : decode cX12_words 89 = .ok (.iinc 4 1, 3) := by decide +kernel
theorem dX12_words_92 : decode cX12_words 92 = .ok (.goto (-38), 3) := by decide +kernel
theorem dX12_words_95 : decode cX12_words 95 = .ok (.iload_n 2, 1) := by decide +kernel
theorem dX12_words_96 : decode cX12_words 96 = .ok (.ifCond .ne 10, 3) := by decide +kernel
theorem dX12_words_99 : decode cX12_words 99 = .ok (.iload_n 3, 1) := by decide +kernel
theorem dX12_words_100 : decode cX12_words 100 = .ok (.invokestatic 398, 3) := by decide +kernel
theorem dX12_words_103 : decode cX12_words 103 = .ok (.goto 4, 3) := by decide +kernel
theorem dX12_words_106 : decode cX12_words 106 = .ok (.iload_n 3, 1) := by decide +kernel
theorem dX12_words_107 : decode cX12_words 107 = .ok (.ireturn, 1) := by decide +kernel
theorem dX12_readsRows_0 : decode cX12_readsRows 0 = .ok (.iconst 0, 1) := by decide +kernel
theorem dX12_readsRows_1 : decode cX12_readsRows 1 = .ok (.istore_n 2, 1) := by decide +kernel
theorem dX12_readsRows_2 : decode cX12_readsRows 2 = .ok (.iload_n 2, 1) := by decide +kernel
theorem dX12_readsRows_3 : decode cX12_readsRows 3 = .ok (.iconst 2, 1) := by decide +kernel
theorem dX12_readsRows_4 : decode cX12_readsRows 4 = .ok (.iload_n 1, 1) := by decide +kernel
theorem dX12_readsRows_5 : decode cX12_readsRows 5 = .ok (.imul, 1) := by decide +kernel
theorem dX12_readsRows_6 : decode cX12_readsRows 6 = .ok (.if_icmp .ge 90, 3) := by decide +kernel
theorem dX12_readsRows_9 : decode cX12_readsRows 9 = .ok (.iconst 0, 1) := by decide +kernel
theorem dX12_readsRows_10 : decode cX12_readsRows 10 = .ok (.istore_n 3, 1) := by decide +kernel
theorem dX12_readsRows_11 : decode cX12_readsRows 11 = .ok (.iconst 0, 1) := by decide +kernel
theorem dX12_readsRows_12 : decode cX12_readsRows 12 = .ok (.istore 4, 2) := by decide +kernel
theorem dX12_readsRows_14 : decode cX12_readsRows 14 = .ok (.iload 4, 2) := by decide +kernel
theorem dX12_readsRows_16 : decode cX12_readsRows 16 = .ok (.iload_n 1, 1) := by decide +kernel
theorem dX12_readsRows_17 : decode cX12_readsRows 17 = .ok (.if_icmp .ge 73, 3) := by decide +kernel
theorem dX12_readsRows_20 : decode cX12_readsRows 20 = .ok (.aload_n 0, 1) := by decide +kernel
theorem dX12_readsRows_21 : decode cX12_readsRows 21 = .ok (.iload_n 1, 1) := by decide +kernel
theorem dX12_readsRows_22 : decode cX12_readsRows 22 = .ok (.iload_n 2, 1) := by decide +kernel
theorem dX12_readsRows_23 : decode cX12_readsRows 23 = .ok (.imul, 1) := by decide +kernel
theorem dX12_readsRows_24 : decode cX12_readsRows 24 = .ok (.iload 4, 2) := by decide +kernel
theorem dX12_readsRows_26 : decode cX12_readsRows 26 = .ok (.iadd, 1) := by decide +kernel
theorem dX12_readsRows_27 : decode cX12_readsRows 27 = .ok (.invokevirtual 407, 3) := by decide +kernel
theorem dX12_readsRows_30 : decode cX12_readsRows 30 = .ok (.istore 5, 2) := by decide +kernel
theorem dX12_readsRows_32 : decode cX12_readsRows 32 = .ok (.iload 5, 2) := by decide +kernel
theorem dX12_readsRows_34 : decode cX12_readsRows 34 = .ok (.iload_n 1, 1) := by decide +kernel
theorem dX12_readsRows_35 : decode cX12_readsRows 35 = .ok (.if_icmp .ge 12, 3) := by decide +kernel
theorem dX12_readsRows_38 : decode cX12_readsRows 38 = .ok (.iload_n 3, 1) := by decide +kernel
theorem dX12_readsRows_39 : decode cX12_readsRows 39 = .ok (.iload 5, 2) := by decide +kernel
theorem dX12_readsRows_41 : decode cX12_readsRows 41 = .ok (.invokestatic 359, 3) := by decide +kernel
theorem dX12_readsRows_44 : decode cX12_readsRows 44 = .ok (.ifCond .eq 5, 3) := by decide +kernel
theorem dX12_readsRows_47 : decode cX12_readsRows 47 = .ok (.iconst 0, 1) := by decide +kernel
theorem dX12_readsRows_48 : decode cX12_readsRows 48 = .ok (.ireturn, 1) := by decide +kernel
theorem dX12_readsRows_49 : decode cX12_readsRows 49 = .ok (.iload_n 3, 1) := by decide +kernel
theorem dX12_readsRows_50 : decode cX12_readsRows 50 = .ok (.iconst 1, 1) := by decide +kernel
theorem dX12_readsRows_51 : decode cX12_readsRows 51 = .ok (.iload 5, 2) := by decide +kernel
theorem dX12_readsRows_53 : decode cX12_readsRows 53 = .ok (.ishl, 1) := by decide +kernel
theorem dX12_readsRows_54 : decode cX12_readsRows 54 = .ok (.ior, 1) := by decide +kernel
theorem dX12_readsRows_55 : decode cX12_readsRows 55 = .ok (.istore_n 3, 1) := by decide +kernel
theorem dX12_readsRows_56 : decode cX12_readsRows 56 = .ok (.aload_n 0, 1) := by decide +kernel
theorem dX12_readsRows_57 : decode cX12_readsRows 57 = .ok (.getfield 131, 3) := by decide +kernel
theorem dX12_readsRows_60 : decode cX12_readsRows 60 = .ok (.bipush 6, 2) := by decide +kernel
theorem dX12_readsRows_62 : decode cX12_readsRows 62 = .ok (.iload_n 2, 1) := by decide +kernel
theorem dX12_readsRows_63 : decode cX12_readsRows 63 = .ok (.imul, 1) := by decide +kernel
theorem dX12_readsRows_64 : decode cX12_readsRows 64 = .ok (.iload 4, 2) := by decide +kernel
theorem dX12_readsRows_66 : decode cX12_readsRows 66 = .ok (.iadd, 1) := by decide +kernel
theorem dX12_readsRows_67 : decode cX12_readsRows 67 = .ok (.iload 5, 2) := by decide +kernel
theorem dX12_readsRows_69 : decode cX12_readsRows 69 = .ok (.iastore, 1) := by decide +kernel
theorem dX12_readsRows_70 : decode cX12_readsRows 70 = .ok (.aload_n 0, 1) := by decide +kernel
theorem dX12_readsRows_71 : decode cX12_readsRows 71 = .ok (.getfield 128, 3) := by decide +kernel
theorem dX12_readsRows_74 : decode cX12_readsRows 74 = .ok (.bipush 6, 2) := by decide +kernel
theorem dX12_readsRows_76 : decode cX12_readsRows 76 = .ok (.iload_n 2, 1) := by decide +kernel
theorem dX12_readsRows_77 : decode cX12_readsRows 77 = .ok (.imul, 1) := by decide +kernel
theorem dX12_readsRows_78 : decode cX12_readsRows 78 = .ok (.iload 5, 2) := by decide +kernel
theorem dX12_readsRows_80 : decode cX12_readsRows 80 = .ok (.iadd, 1) := by decide +kernel
theorem dX12_readsRows_81 : decode cX12_readsRows 81 = .ok (.iload 4, 2) := by decide +kernel
theorem dX12_readsRows_83 : decode cX12_readsRows 83 = .ok (.iastore, 1) := by decide +kernel
theorem dX12_readsRows_84 : decode cX12_readsRows 84 = .ok (.iinc 4 1, 3) := by decide +kernel
theorem dX12_readsRows_87 : decode cX12_readsRows 87 = .ok (.goto (-73), 3) := by decide +kernel
theorem dX12_readsRows_90 : decode cX12_readsRows 90 = .ok (.iinc 2 1, 3) := by decide +kernel
theorem dX12_readsRows_93 : decode cX12_readsRows 93 = .ok (.goto (-91), 3) := by decide +kernel
theorem dX12_readsRows_96 : decode cX12_readsRows 96 = .ok (.iconst 1, 1) := by decide +kernel
theorem dX12_readsRows_97 : decode cX12_readsRows 97 = .ok (.ireturn, 1) := by decide +kernel
theorem dX12_asks_0 : decode cX12_asks 0 = .ok (.iconst 0, 1) := by decide +kernel
theorem dX12_asks_1 : decode cX12_asks 1 = .ok (.istore_n 2, 1) := by decide +kernel
theorem dX12_asks_2 : decode cX12_asks 2 = .ok (.iload_n 2, 1) := by decide +kernel
theorem dX12_asks_3 : decode cX12_asks 3 = .ok (.iload_n 1, 1) := by decide +kernel
theorem dX12_asks_4 : decode cX12_asks 4 = .ok (.if_icmp .ge 30, 3) := by decide +kernel
theorem dX12_asks_7 : decode cX12_asks 7 = .ok (.aload_n 0, 1) := by decide +kernel
theorem dX12_asks_8 : decode cX12_asks 8 = .ok (.getfield 134, 3) := by decide +kernel
theorem dX12_asks_11 : decode cX12_asks 11 = .ok (.iload_n 2, 1) := by decide +kernel
theorem dX12_asks_12 : decode cX12_asks 12 = .ok (.iconst (-1), 1) := by decide +kernel
theorem dX12_asks_13 : decode cX12_asks 13 = .ok (.iastore, 1) := by decide +kernel
theorem dX12_asks_14 : decode cX12_asks 14 = .ok (.aload_n 0, 1) := by decide +kernel
theorem dX12_asks_15 : decode cX12_asks 15 = .ok (.getfield 137, 3) := by decide +kernel
theorem dX12_asks_18 : decode cX12_asks 18 = .ok (.iload_n 2, 1) := by decide +kernel
theorem dX12_asks_19 : decode cX12_asks 19 = .ok (.iconst 0, 1) := by decide +kernel
theorem dX12_asks_20 : decode cX12_asks 20 = .ok (.iastore, 1) := by decide +kernel
theorem dX12_asks_21 : decode cX12_asks 21 = .ok (.aload_n 0, 1) := by decide +kernel
theorem dX12_asks_22 : decode cX12_asks 22 = .ok (.getfield 140, 3) := by decide +kernel
theorem dX12_asks_25 : decode cX12_asks 25 = .ok (.iload_n 2, 1) := by decide +kernel
theorem dX12_asks_26 : decode cX12_asks 26 = .ok (.iconst (-1), 1) := by decide +kernel
theorem dX12_asks_27 : decode cX12_asks 27 = .ok (.iastore, 1) := by decide +kernel
theorem dX12_asks_28 : decode cX12_asks 28 = .ok (.iinc 2 1, 3) := by decide +kernel
theorem dX12_asks_31 : decode cX12_asks 31 = .ok (.goto (-29), 3) := by decide +kernel
theorem dX12_asks_34 : decode cX12_asks 34 = .ok (.iconst 0, 1) := by decide +kernel
theorem dX12_asks_35 : decode cX12_asks 35 = .ok (.istore_n 2, 1) := by decide +kernel
theorem dX12_asks_36 : decode cX12_asks 36 = .ok (.iload_n 2, 1) := by decide +kernel
theorem dX12_asks_37 : decode cX12_asks 37 = .ok (.iload_n 1, 1) := by decide +kernel
theorem dX12_asks_38 : decode cX12_asks 38 = .ok (.if_icmp .ge 144, 3) := by decide +kernel
theorem dX12_asks_41 : decode cX12_asks 41 = .ok (.iconst 0, 1) := by decide +kernel
theorem dX12_asks_42 : decode cX12_asks 42 = .ok (.istore_n 3, 1) := by decide +kernel
theorem dX12_asks_43 : decode cX12_asks 43 = .ok (.aload_n 0, 1) := by decide +kernel
theorem dX12_asks_44 : decode cX12_asks 44 = .ok (.getfield 134, 3) := by decide +kernel
theorem dX12_asks_47 : decode cX12_asks 47 = .ok (.iload_n 3, 1) := by decide +kernel
theorem dX12_asks_48 : decode cX12_asks 48 = .ok (.iaload, 1) := by decide +kernel
theorem dX12_asks_49 : decode cX12_asks 49 = .ok (.iconst (-1), 1) := by decide +kernel
theorem dX12_asks_50 : decode cX12_asks 50 = .ok (.if_icmp .eq 10, 3) := by decide +kernel
theorem dX12_asks_53 : decode cX12_asks 53 = .ok (.iload_n 3, 1) := by decide +kernel
theorem dX12_asks_54 : decode cX12_asks 54 = .ok (.iconst 1, 1) := by decide +kernel
theorem dX12_asks_55 : decode cX12_asks 55 = .ok (.iadd, 1) := by decide +kernel
theorem dX12_asks_56 : decode cX12_asks 56 = .ok (.istore_n 3, 1) := by decide +kernel
theorem dX12_asks_57 : decode cX12_asks 57 = .ok (.goto (-14), 3) := by decide +kernel
theorem dX12_asks_60 : decode cX12_asks 60 = .ok (.aload_n 0, 1) := by decide +kernel
theorem dX12_asks_61 : decode cX12_asks 61 = .ok (.getfield 131, 3) := by decide +kernel
theorem dX12_asks_64 : decode cX12_asks 64 = .ok (.bipush 6, 2) := by decide +kernel
theorem dX12_asks_66 : decode cX12_asks 66 = .ok (.iload_n 3, 1) := by decide +kernel
theorem dX12_asks_67 : decode cX12_asks 67 = .ok (.imul, 1) := by decide +kernel
theorem dX12_asks_68 : decode cX12_asks 68 = .ok (.aload_n 0, 1) := by decide +kernel
theorem dX12_asks_69 : decode cX12_asks 69 = .ok (.getfield 137, 3) := by decide +kernel
theorem dX12_asks_72 : decode cX12_asks 72 = .ok (.iload_n 3, 1) := by decide +kernel
theorem dX12_asks_73 : decode cX12_asks 73 = .ok (.iaload, 1) := by decide +kernel
theorem dX12_asks_74 : decode cX12_asks 74 = .ok (.iadd, 1) := by decide +kernel
theorem dX12_asks_75 : decode cX12_asks 75 = .ok (.iaload, 1) := by decide +kernel
theorem dX12_asks_76 : decode cX12_asks 76 = .ok (.istore 4, 2) := by decide +kernel
theorem dX12_asks_78 : decode cX12_asks 78 = .ok (.aload_n 0, 1) := by decide +kernel
theorem dX12_asks_79 : decode cX12_asks 79 = .ok (.getfield 137, 3) := by decide +kernel
theorem dX12_asks_82 : decode cX12_asks 82 = .ok (.iload_n 3, 1) := by decide +kernel
theorem dX12_asks_83 : decode cX12_asks 83 = .ok (.aload_n 0, 1) := by decide +kernel
theorem dX12_asks_84 : decode cX12_asks 84 = .ok (.getfield 137, 3) := by decide +kernel
theorem dX12_asks_87 : decode cX12_asks 87 = .ok (.iload_n 3, 1) := by decide +kernel
theorem dX12_asks_88 : decode cX12_asks 88 = .ok (.iaload, 1) := by decide +kernel
theorem dX12_asks_89 : decode cX12_asks 89 = .ok (.iconst 1, 1) := by decide +kernel
theorem dX12_asks_90 : decode cX12_asks 90 = .ok (.iadd, 1) := by decide +kernel
theorem dX12_asks_91 : decode cX12_asks 91 = .ok (.iastore, 1) := by decide +kernel
theorem dX12_asks_92 : decode cX12_asks 92 = .ok (.aload_n 0, 1) := by decide +kernel
theorem dX12_asks_93 : decode cX12_asks 93 = .ok (.getfield 140, 3) := by decide +kernel
theorem dX12_asks_96 : decode cX12_asks 96 = .ok (.iload 4, 2) := by decide +kernel
theorem dX12_asks_98 : decode cX12_asks 98 = .ok (.iaload, 1) := by decide +kernel
theorem dX12_asks_99 : decode cX12_asks 99 = .ok (.istore 5, 2) := by decide +kernel
theorem dX12_asks_101 : decode cX12_asks 101 = .ok (.iload 5, 2) := by decide +kernel
theorem dX12_asks_103 : decode cX12_asks 103 = .ok (.iconst (-1), 1) := by decide +kernel
theorem dX12_asks_104 : decode cX12_asks 104 = .ok (.if_icmp .eq 38, 3) := by decide +kernel
theorem dX12_asks_107 : decode cX12_asks 107 = .ok (.aload_n 0, 1) := by decide +kernel
theorem dX12_asks_108 : decode cX12_asks 108 = .ok (.getfield 128, 3) := by decide +kernel
theorem dX12_asks_111 : decode cX12_asks 111 = .ok (.bipush 6, 2) := by decide +kernel
theorem dX12_asks_113 : decode cX12_asks 113 = .ok (.iload_n 1, 1) := by decide +kernel
theorem dX12_asks_114 : decode cX12_asks 114 = .ok (.iload 4, 2) := by decide +kernel
theorem dX12_asks_116 : decode cX12_asks 116 = .ok (.iadd, 1) := by decide +kernel
theorem dX12_asks_117 : decode cX12_asks 117 = .ok (.imul, 1) := by decide +kernel
theorem dX12_asks_118 : decode cX12_asks 118 = .ok (.iload 5, 2) := by decide +kernel
theorem dX12_asks_120 : decode cX12_asks 120 = .ok (.iadd, 1) := by decide +kernel
theorem dX12_asks_121 : decode cX12_asks 121 = .ok (.iaload, 1) := by decide +kernel
theorem dX12_asks_122 : decode cX12_asks 122 = .ok (.aload_n 0, 1) := by decide +kernel
theorem dX12_asks_123 : decode cX12_asks 123 = .ok (.getfield 128, 3) := by decide +kernel
theorem dX12_asks_126 : decode cX12_asks 126 = .ok (.bipush 6, 2) := by decide +kernel
theorem dX12_asks_128 : decode cX12_asks 128 = .ok (.iload_n 1, 1) := by decide +kernel
theorem dX12_asks_129 : decode cX12_asks 129 = .ok (.iload 4, 2) := by decide +kernel
theorem dX12_asks_131 : decode cX12_asks 131 = .ok (.iadd, 1) := by decide +kernel
theorem dX12_asks_132 : decode cX12_asks 132 = .ok (.imul, 1) := by decide +kernel
theorem dX12_asks_133 : decode cX12_asks 133 = .ok (.iload_n 3, 1) := by decide +kernel
theorem dX12_asks_134 : decode cX12_asks 134 = .ok (.iadd, 1) := by decide +kernel
theorem dX12_asks_135 : decode cX12_asks 135 = .ok (.iaload, 1) := by decide +kernel
theorem dX12_asks_136 : decode cX12_asks 136 = .ok (.if_icmp .ge 6, 3) := by decide +kernel
theorem dX12_asks_139 : decode cX12_asks 139 = .ok (.goto (-103), 3) := by decide +kernel
theorem dX12_asks_142 : decode cX12_asks 142 = .ok (.iload 5, 2) := by decide +kernel
theorem dX12_asks_144 : decode cX12_asks 144 = .ok (.iconst (-1), 1) := by decide +kernel
theorem dX12_asks_145 : decode cX12_asks 145 = .ok (.if_icmp .ne 10, 3) := by decide +kernel
theorem dX12_asks_148 : decode cX12_asks 148 = .ok (.iload_n 2, 1) := by decide +kernel
theorem dX12_asks_149 : decode cX12_asks 149 = .ok (.iconst 1, 1) := by decide +kernel
theorem dX12_asks_150 : decode cX12_asks 150 = .ok (.iadd, 1) := by decide +kernel
theorem dX12_asks_151 : decode cX12_asks 151 = .ok (.istore_n 2, 1) := by decide +kernel
theorem dX12_asks_152 : decode cX12_asks 152 = .ok (.goto 11, 3) := by decide +kernel
theorem dX12_asks_155 : decode cX12_asks 155 = .ok (.aload_n 0, 1) := by decide +kernel
theorem dX12_asks_156 : decode cX12_asks 156 = .ok (.getfield 134, 3) := by decide +kernel
theorem dX12_asks_159 : decode cX12_asks 159 = .ok (.iload 5, 2) := by decide +kernel
theorem dX12_asks_161 : decode cX12_asks 161 = .ok (.iconst (-1), 1) := by decide +kernel
theorem dX12_asks_162 : decode cX12_asks 162 = .ok (.iastore, 1) := by decide +kernel
theorem dX12_asks_163 : decode cX12_asks 163 = .ok (.aload_n 0, 1) := by decide +kernel
theorem dX12_asks_164 : decode cX12_asks 164 = .ok (.getfield 140, 3) := by decide +kernel
theorem dX12_asks_167 : decode cX12_asks 167 = .ok (.iload 4, 2) := by decide +kernel
theorem dX12_asks_169 : decode cX12_asks 169 = .ok (.iload_n 3, 1) := by decide +kernel
theorem dX12_asks_170 : decode cX12_asks 170 = .ok (.iastore, 1) := by decide +kernel
theorem dX12_asks_171 : decode cX12_asks 171 = .ok (.aload_n 0, 1) := by decide +kernel
theorem dX12_asks_172 : decode cX12_asks 172 = .ok (.getfield 134, 3) := by decide +kernel
theorem dX12_asks_175 : decode cX12_asks 175 = .ok (.iload_n 3, 1) := by decide +kernel
theorem dX12_asks_176 : decode cX12_asks 176 = .ok (.iload 4, 2) := by decide +kernel
theorem dX12_asks_178 : decode cX12_asks 178 = .ok (.iastore, 1) := by decide +kernel
theorem dX12_asks_179 : decode cX12_asks 179 = .ok (.goto (-143), 3) := by decide +kernel
theorem dX12_asks_182 : decode cX12_asks 182 = .ok (.return_, 1) := by decide +kernel
theorem dX12_lasts_0 : decode cX12_lasts 0 = .ok (.iconst 0, 1) := by decide +kernel
theorem dX12_lasts_1 : decode cX12_lasts 1 = .ok (.istore_n 2, 1) := by decide +kernel
theorem dX12_lasts_2 : decode cX12_lasts 2 = .ok (.iload_n 2, 1) := by decide +kernel
theorem dX12_lasts_3 : decode cX12_lasts 3 = .ok (.iload_n 1, 1) := by decide +kernel
theorem dX12_lasts_4 : decode cX12_lasts 4 = .ok (.if_icmp .ge 107, 3) := by decide +kernel
theorem dX12_lasts_7 : decode cX12_lasts 7 = .ok (.iconst 0, 1) := by decide +kernel
theorem dX12_lasts_8 : decode cX12_lasts 8 = .ok (.istore_n 3, 1) := by decide +kernel
theorem dX12_lasts_9 : decode cX12_lasts 9 = .ok (.iload_n 3, 1) := by decide +kernel
theorem dX12_lasts_10 : decode cX12_lasts 10 = .ok (.iload_n 1, 1) := by decide +kernel
theorem dX12_lasts_11 : decode cX12_lasts 11 = .ok (.if_icmp .ge 94, 3) := by decide +kernel
theorem dX12_lasts_14 : decode cX12_lasts 14 = .ok (.iconst 0, 1) := by decide +kernel
theorem dX12_lasts_15 : decode cX12_lasts 15 = .ok (.istore 4, 2) := by decide +kernel
theorem dX12_lasts_17 : decode cX12_lasts 17 = .ok (.aload_n 0, 1) := by decide +kernel
theorem dX12_lasts_18 : decode cX12_lasts 18 = .ok (.getfield 143, 3) := by decide +kernel
theorem dX12_lasts_21 : decode cX12_lasts 21 = .ok (.iload 4, 2) := by decide +kernel
theorem dX12_lasts_23 : decode cX12_lasts 23 = .ok (.iaload, 1) := by decide +kernel
theorem dX12_lasts_24 : decode cX12_lasts 24 = .ok (.iload_n 3, 1) := by decide +kernel
theorem dX12_lasts_25 : decode cX12_lasts 25 = .ok (.if_icmp .eq 12, 3) := by decide +kernel
theorem dX12_lasts_28 : decode cX12_lasts 28 = .ok (.iload 4, 2) := by decide +kernel
theorem dX12_lasts_30 : decode cX12_lasts 30 = .ok (.iconst 1, 1) := by decide +kernel
theorem dX12_lasts_31 : decode cX12_lasts 31 = .ok (.iadd, 1) := by decide +kernel
theorem dX12_lasts_32 : decode cX12_lasts 32 = .ok (.istore 4, 2) := by decide +kernel
theorem dX12_lasts_34 : decode cX12_lasts 34 = .ok (.goto (-17), 3) := by decide +kernel
theorem dX12_lasts_37 : decode cX12_lasts 37 = .ok (.aload_n 0, 1) := by decide +kernel
theorem dX12_lasts_38 : decode cX12_lasts 38 = .ok (.getfield 128, 3) := by decide +kernel
theorem dX12_lasts_41 : decode cX12_lasts 41 = .ok (.bipush 6, 2) := by decide +kernel
theorem dX12_lasts_43 : decode cX12_lasts 43 = .ok (.iload_n 2, 1) := by decide +kernel
theorem dX12_lasts_44 : decode cX12_lasts 44 = .ok (.imul, 1) := by decide +kernel
theorem dX12_lasts_45 : decode cX12_lasts 45 = .ok (.iload_n 3, 1) := by decide +kernel
theorem dX12_lasts_46 : decode cX12_lasts 46 = .ok (.iadd, 1) := by decide +kernel
theorem dX12_lasts_47 : decode cX12_lasts 47 = .ok (.iaload, 1) := by decide +kernel
theorem dX12_lasts_48 : decode cX12_lasts 48 = .ok (.aload_n 0, 1) := by decide +kernel
theorem dX12_lasts_49 : decode cX12_lasts 49 = .ok (.getfield 128, 3) := by decide +kernel
theorem dX12_lasts_52 : decode cX12_lasts 52 = .ok (.bipush 6, 2) := by decide +kernel
theorem dX12_lasts_54 : decode cX12_lasts 54 = .ok (.iload_n 2, 1) := by decide +kernel
theorem dX12_lasts_55 : decode cX12_lasts 55 = .ok (.imul, 1) := by decide +kernel
theorem dX12_lasts_56 : decode cX12_lasts 56 = .ok (.aload_n 0, 1) := by decide +kernel
theorem dX12_lasts_57 : decode cX12_lasts 57 = .ok (.getfield 143, 3) := by decide +kernel
theorem dX12_lasts_60 : decode cX12_lasts 60 = .ok (.iload_n 2, 1) := by decide +kernel
theorem dX12_lasts_61 : decode cX12_lasts 61 = .ok (.iaload, 1) := by decide +kernel
theorem dX12_lasts_62 : decode cX12_lasts 62 = .ok (.iadd, 1) := by decide +kernel
theorem dX12_lasts_63 : decode cX12_lasts 63 = .ok (.iaload, 1) := by decide +kernel
theorem dX12_lasts_64 : decode cX12_lasts 64 = .ok (.if_icmp .ge 35, 3) := by decide +kernel
theorem dX12_lasts_67 : decode cX12_lasts 67 = .ok (.aload_n 0, 1) := by decide +kernel
theorem dX12_lasts_68 : decode cX12_lasts 68 = .ok (.getfield 128, 3) := by decide +kernel
theorem dX12_lasts_71 : decode cX12_lasts 71 = .ok (.bipush 6, 2) := by decide +kernel
theorem dX12_lasts_73 : decode cX12_lasts 73 = .ok (.iload_n 1, 1) := by decide +kernel
theorem dX12_lasts_74 : decode cX12_lasts 74 = .ok (.iload_n 3, 1) := by decide +kernel
theorem dX12_lasts_75 : decode cX12_lasts 75 = .ok (.iadd, 1) := by decide +kernel
theorem dX12_lasts_76 : decode cX12_lasts 76 = .ok (.imul, 1) := by decide +kernel
theorem dX12_lasts_77 : decode cX12_lasts 77 = .ok (.iload_n 2, 1) := by decide +kernel
theorem dX12_lasts_78 : decode cX12_lasts 78 = .ok (.iadd, 1) := by decide +kernel
theorem dX12_lasts_79 : decode cX12_lasts 79 = .ok (.iaload, 1) := by decide +kernel
theorem dX12_lasts_80 : decode cX12_lasts 80 = .ok (.aload_n 0, 1) := by decide +kernel
theorem dX12_lasts_81 : decode cX12_lasts 81 = .ok (.getfield 128, 3) := by decide +kernel
theorem dX12_lasts_84 : decode cX12_lasts 84 = .ok (.bipush 6, 2) := by decide +kernel
theorem dX12_lasts_86 : decode cX12_lasts 86 = .ok (.iload_n 1, 1) := by decide +kernel
theorem dX12_lasts_87 : decode cX12_lasts 87 = .ok (.iload_n 3, 1) := by decide +kernel
theorem dX12_lasts_88 : decode cX12_lasts 88 = .ok (.iadd, 1) := by decide +kernel
theorem dX12_lasts_89 : decode cX12_lasts 89 = .ok (.imul, 1) := by decide +kernel
theorem dX12_lasts_90 : decode cX12_lasts 90 = .ok (.iload 4, 2) := by decide +kernel
theorem dX12_lasts_92 : decode cX12_lasts 92 = .ok (.iadd, 1) := by decide +kernel
theorem dX12_lasts_93 : decode cX12_lasts 93 = .ok (.iaload, 1) := by decide +kernel
theorem dX12_lasts_94 : decode cX12_lasts 94 = .ok (.if_icmp .ge 5, 3) := by decide +kernel
theorem dX12_lasts_97 : decode cX12_lasts 97 = .ok (.iconst 0, 1) := by decide +kernel
theorem dX12_lasts_98 : decode cX12_lasts 98 = .ok (.ireturn, 1) := by decide +kernel
theorem dX12_lasts_99 : decode cX12_lasts 99 = .ok (.iinc 3 1, 3) := by decide +kernel
theorem dX12_lasts_102 : decode cX12_lasts 102 = .ok (.goto (-93), 3) := by decide +kernel
theorem dX12_lasts_105 : decode cX12_lasts 105 = .ok (.iinc 2 1, 3) := by decide +kernel
theorem dX12_lasts_108 : decode cX12_lasts 108 = .ok (.goto (-106), 3) := by decide +kernel
theorem dX12_lasts_111 : decode cX12_lasts 111 = .ok (.iconst 1, 1) := by decide +kernel
theorem dX12_lasts_112 : decode cX12_lasts 112 = .ok (.ireturn, 1) := by decide +kernel
theorem dX12_changesOrder_0 : decode cX12_changesOrder 0 = .ok (.aload_n 0, 1) := by decide +kernel
theorem dX12_changesOrder_1 : decode cX12_changesOrder 1 = .ok (.getfield 143, 3) := by decide +kernel
theorem dX12_changesOrder_4 : decode cX12_changesOrder 4 = .ok (.iload_n 1, 1) := by decide +kernel
theorem dX12_changesOrder_5 : decode cX12_changesOrder 5 = .ok (.iaload, 1) := by decide +kernel
theorem dX12_changesOrder_6 : decode cX12_changesOrder 6 = .ok (.istore_n 3, 1) := by decide +kernel
theorem dX12_changesOrder_7 : decode cX12_changesOrder 7 = .ok (.aload_n 0, 1) := by decide +kernel
theorem dX12_changesOrder_8 : decode cX12_changesOrder 8 = .ok (.getfield 143, 3) := by decide +kernel
theorem dX12_changesOrder_11 : decode cX12_changesOrder 11 = .ok (.iload_n 1, 1) := by decide +kernel
theorem dX12_changesOrder_12 : decode cX12_changesOrder 12 = .ok (.aload_n 0, 1) := by decide +kernel
theorem dX12_changesOrder_13 : decode cX12_changesOrder 13 = .ok (.getfield 143, 3) := by decide +kernel
theorem dX12_changesOrder_16 : decode cX12_changesOrder 16 = .ok (.iload_n 2, 1) := by decide +kernel
theorem dX12_changesOrder_17 : decode cX12_changesOrder 17 = .ok (.iaload, 1) := by decide +kernel
theorem dX12_changesOrder_18 : decode cX12_changesOrder 18 = .ok (.iastore, 1) := by decide +kernel
theorem dX12_changesOrder_19 : decode cX12_changesOrder 19 = .ok (.aload_n 0, 1) := by decide +kernel
theorem dX12_changesOrder_20 : decode cX12_changesOrder 20 = .ok (.getfield 143, 3) := by decide +kernel
theorem dX12_changesOrder_23 : decode cX12_changesOrder 23 = .ok (.iload_n 2, 1) := by decide +kernel
theorem dX12_changesOrder_24 : decode cX12_changesOrder 24 = .ok (.iload_n 3, 1) := by decide +kernel
theorem dX12_changesOrder_25 : decode cX12_changesOrder 25 = .ok (.iastore, 1) := by decide +kernel
theorem dX12_changesOrder_26 : decode cX12_changesOrder 26 = .ok (.return_, 1) := by decide +kernel
theorem dX12_nextOrder_0 : decode cX12_nextOrder 0 = .ok (.iload_n 1, 1) := by decide +kernel
theorem dX12_nextOrder_1 : decode cX12_nextOrder 1 = .ok (.iconst 2, 1) := by decide +kernel
theorem dX12_nextOrder_2 : decode cX12_nextOrder 2 = .ok (.isub, 1) := by decide +kernel
theorem dX12_nextOrder_3 : decode cX12_nextOrder 3 = .ok (.istore_n 2, 1) := by decide +kernel
theorem dX12_nextOrder_4 : decode cX12_nextOrder 4 = .ok (.iload_n 2, 1) := by decide +kernel
theorem dX12_nextOrder_5 : decode cX12_nextOrder 5 = .ok (.ifCond .lt 27, 3) := by decide +kernel
theorem dX12_nextOrder_8 : decode cX12_nextOrder 8 = .ok (.aload_n 0, 1) := by decide +kernel
theorem dX12_nextOrder_9 : decode cX12_nextOrder 9 = .ok (.getfield 143, 3) := by decide +kernel
theorem dX12_nextOrder_12 : decode cX12_nextOrder 12 = .ok (.iload_n 2, 1) := by decide +kernel
theorem dX12_nextOrder_13 : decode cX12_nextOrder 13 = .ok (.iaload, 1) := by decide +kernel
theorem dX12_nextOrder_14 : decode cX12_nextOrder 14 = .ok (.aload_n 0, 1) := by decide +kernel
theorem dX12_nextOrder_15 : decode cX12_nextOrder 15 = .ok (.getfield 143, 3) := by decide +kernel
theorem dX12_nextOrder_18 : decode cX12_nextOrder 18 = .ok (.iload_n 2, 1) := by decide +kernel
theorem dX12_nextOrder_19 : decode cX12_nextOrder 19 = .ok (.iconst 1, 1) := by decide +kernel
theorem dX12_nextOrder_20 : decode cX12_nextOrder 20 = .ok (.iadd, 1) := by decide +kernel
theorem dX12_nextOrder_21 : decode cX12_nextOrder 21 = .ok (.iaload, 1) := by decide +kernel
theorem dX12_nextOrder_22 : decode cX12_nextOrder 22 = .ok (.if_icmp .le 10, 3) := by decide +kernel
theorem dX12_nextOrder_25 : decode cX12_nextOrder 25 = .ok (.iload_n 2, 1) := by decide +kernel
theorem dX12_nextOrder_26 : decode cX12_nextOrder 26 = .ok (.iconst 1, 1) := by decide +kernel
theorem dX12_nextOrder_27 : decode cX12_nextOrder 27 = .ok (.isub, 1) := by decide +kernel
theorem dX12_nextOrder_28 : decode cX12_nextOrder 28 = .ok (.istore_n 2, 1) := by decide +kernel
theorem dX12_nextOrder_29 : decode cX12_nextOrder 29 = .ok (.goto (-25), 3) := by decide +kernel
theorem dX12_nextOrder_32 : decode cX12_nextOrder 32 = .ok (.iload_n 2, 1) := by decide +kernel
theorem dX12_nextOrder_33 : decode cX12_nextOrder 33 = .ok (.ifCond .ge 5, 3) := by decide +kernel
theorem dX12_nextOrder_36 : decode cX12_nextOrder 36 = .ok (.iconst 0, 1) := by decide +kernel
theorem dX12_nextOrder_37 : decode cX12_nextOrder 37 = .ok (.ireturn, 1) := by decide +kernel
theorem dX12_nextOrder_38 : decode cX12_nextOrder 38 = .ok (.iload_n 1, 1) := by decide +kernel
theorem dX12_nextOrder_39 : decode cX12_nextOrder 39 = .ok (.iconst 1, 1) := by decide +kernel
theorem dX12_nextOrder_40 : decode cX12_nextOrder 40 = .ok (.isub, 1) := by decide +kernel
theorem dX12_nextOrder_41 : decode cX12_nextOrder 41 = .ok (.istore_n 3, 1) := by decide +kernel
theorem dX12_nextOrder_42 : decode cX12_nextOrder 42 = .ok (.aload_n 0, 1) := by decide +kernel
theorem dX12_nextOrder_43 : decode cX12_nextOrder 43 = .ok (.getfield 143, 3) := by decide +kernel
theorem dX12_nextOrder_46 : decode cX12_nextOrder 46 = .ok (.iload_n 3, 1) := by decide +kernel
theorem dX12_nextOrder_47 : decode cX12_nextOrder 47 = .ok (.iaload, 1) := by decide +kernel
theorem dX12_nextOrder_48 : decode cX12_nextOrder 48 = .ok (.aload_n 0, 1) := by decide +kernel
theorem dX12_nextOrder_49 : decode cX12_nextOrder 49 = .ok (.getfield 143, 3) := by decide +kernel
theorem dX12_nextOrder_52 : decode cX12_nextOrder 52 = .ok (.iload_n 2, 1) := by decide +kernel
theorem dX12_nextOrder_53 : decode cX12_nextOrder 53 = .ok (.iaload, 1) := by decide +kernel
theorem dX12_nextOrder_54 : decode cX12_nextOrder 54 = .ok (.if_icmp .ge 10, 3) := by decide +kernel
theorem dX12_nextOrder_57 : decode cX12_nextOrder 57 = .ok (.iload_n 3, 1) := by decide +kernel
theorem dX12_nextOrder_58 : decode cX12_nextOrder 58 = .ok (.iconst 1, 1) := by decide +kernel
theorem dX12_nextOrder_59 : decode cX12_nextOrder 59 = .ok (.isub, 1) := by decide +kernel
theorem dX12_nextOrder_60 : decode cX12_nextOrder 60 = .ok (.istore_n 3, 1) := by decide +kernel
theorem dX12_nextOrder_61 : decode cX12_nextOrder 61 = .ok (.goto (-19), 3) := by decide +kernel
theorem dX12_nextOrder_64 : decode cX12_nextOrder 64 = .ok (.aload_n 0, 1) := by decide +kernel
theorem dX12_nextOrder_65 : decode cX12_nextOrder 65 = .ok (.iload_n 2, 1) := by decide +kernel
theorem dX12_nextOrder_66 : decode cX12_nextOrder 66 = .ok (.iload_n 3, 1) := by decide +kernel
theorem dX12_nextOrder_67 : decode cX12_nextOrder 67 = .ok (.invokevirtual 419, 3) := by decide +kernel
theorem dX12_nextOrder_70 : decode cX12_nextOrder 70 = .ok (.iload_n 2, 1) := by decide +kernel
theorem dX12_nextOrder_71 : decode cX12_nextOrder 71 = .ok (.iconst 1, 1) := by decide +kernel
theorem dX12_nextOrder_72 : decode cX12_nextOrder 72 = .ok (.iadd, 1) := by decide +kernel
theorem dX12_nextOrder_73 : decode cX12_nextOrder 73 = .ok (.istore 4, 2) := by decide +kernel
theorem dX12_nextOrder_75 : decode cX12_nextOrder 75 = .ok (.iload_n 1, 1) := by decide +kernel
theorem dX12_nextOrder_76 : decode cX12_nextOrder 76 = .ok (.iconst 1, 1) := by decide +kernel
theorem dX12_nextOrder_77 : decode cX12_nextOrder 77 = .ok (.isub, 1) := by decide +kernel
theorem dX12_nextOrder_78 : decode cX12_nextOrder 78 = .ok (.istore 5, 2) := by decide +kernel
theorem dX12_nextOrder_80 : decode cX12_nextOrder 80 = .ok (.iload 4, 2) := by decide +kernel
theorem dX12_nextOrder_82 : decode cX12_nextOrder 82 = .ok (.iload 5, 2) := by decide +kernel
theorem dX12_nextOrder_84 : decode cX12_nextOrder 84 = .ok (.if_icmp .ge 20, 3) := by decide +kernel
theorem dX12_nextOrder_87 : decode cX12_nextOrder 87 = .ok (.aload_n 0, 1) := by decide +kernel
theorem dX12_nextOrder_88 : decode cX12_nextOrder 88 = .ok (.iload 4, 2) := by decide +kernel
theorem dX12_nextOrder_90 : decode cX12_nextOrder 90 = .ok (.iload 5, 2) := by decide +kernel
theorem dX12_nextOrder_92 : decode cX12_nextOrder 92 = .ok (.invokevirtual 419, 3) := by decide +kernel
theorem dX12_nextOrder_95 : decode cX12_nextOrder 95 = .ok (.iinc 4 1, 3) := by decide +kernel
theorem dX12_nextOrder_98 : decode cX12_nextOrder 98 = .ok (.iinc 5 (-1), 3) := by decide +kernel
theorem dX12_nextOrder_101 : decode cX12_nextOrder 101 = .ok (.goto (-21), 3) := by decide +kernel
theorem dX12_nextOrder_104 : decode cX12_nextOrder 104 = .ok (.iconst 1, 1) := by decide +kernel
theorem dX12_nextOrder_105 : decode cX12_nextOrder 105 = .ok (.ireturn, 1) := by decide +kernel
theorem dX12_marriages_0 : decode cX12_marriages 0 = .ok (.iload_n 1, 1) := by decide +kernel
theorem dX12_marriages_1 : decode cX12_marriages 1 = .ok (.iconst 2, 1) := by decide +kernel
theorem dX12_marriages_2 : decode cX12_marriages 2 = .ok (.bipush 6, 2) := by decide +kernel
theorem dX12_marriages_4 : decode cX12_marriages 4 = .ok (.invokestatic 156, 3) := by decide +kernel
theorem dX12_marriages_7 : decode cX12_marriages 7 = .ok (.ifCond .eq 32, 3) := by decide +kernel
theorem dX12_marriages_10 : decode cX12_marriages 10 = .ok (.iload_n 2, 1) := by decide +kernel
theorem dX12_marriages_11 : decode cX12_marriages 11 = .ok (.iconst 0, 1) := by decide +kernel
theorem dX12_marriages_12 : decode cX12_marriages 12 = .ok (.iload_n 1, 1) := by decide +kernel
theorem dX12_marriages_13 : decode cX12_marriages 13 = .ok (.iconst 1, 1) := by decide +kernel
theorem dX12_marriages_14 : decode cX12_marriages 14 = .ok (.isub, 1) := by decide +kernel
theorem dX12_marriages_15 : decode cX12_marriages 15 = .ok (.invokestatic 156, 3) := by decide +kernel
theorem dX12_marriages_18 : decode cX12_marriages 18 = .ok (.ifCond .ne 9, 3) := by decide +kernel
theorem dX12_marriages_21 : decode cX12_marriages 21 = .ok (.iload_n 2, 1) := by decide +kernel
theorem dX12_marriages_22 : decode cX12_marriages 22 = .ok (.bipush 100, 2) := by decide +kernel
theorem dX12_marriages_24 : decode cX12_marriages 24 = .ok (.if_icmp .ne 15, 3) := by decide +kernel
theorem dX12_marriages_27 : decode cX12_marriages 27 = .ok (.iconst 2, 1) := by decide +kernel
theorem dX12_marriages_28 : decode cX12_marriages 28 = .ok (.iload_n 1, 1) := by decide +kernel
theorem dX12_marriages_29 : decode cX12_marriages 29 = .ok (.imul, 1) := by decide +kernel
theorem dX12_marriages_30 : decode cX12_marriages 30 = .ok (.iload_n 1, 1) := by decide +kernel
theorem dX12_marriages_31 : decode cX12_marriages 31 = .ok (.imul, 1) := by decide +kernel
theorem dX12_marriages_32 : decode cX12_marriages 32 = .ok (.aload_n 0, 1) := by decide +kernel
theorem dX12_marriages_33 : decode cX12_marriages 33 = .ok (.getfield 168, 3) := by decide +kernel
theorem dX12_marriages_36 : decode cX12_marriages 36 = .ok (.if_icmp .le 5, 3) := by decide +kernel
theorem dX12_marriages_39 : decode cX12_marriages 39 = .ok (.iconst (-1), 1) := by decide +kernel
theorem dX12_marriages_40 : decode cX12_marriages 40 = .ok (.ireturn, 1) := by decide +kernel
theorem dX12_marriages_41 : decode cX12_marriages 41 = .ok (.aload_n 0, 1) := by decide +kernel
theorem dX12_marriages_42 : decode cX12_marriages 42 = .ok (.iconst 0, 1) := by decide +kernel
theorem dX12_marriages_43 : decode cX12_marriages 43 = .ok (.putfield 168, 3) := by decide +kernel
theorem dX12_marriages_46 : decode cX12_marriages 46 = .ok (.aload_n 0, 1) := by decide +kernel
theorem dX12_marriages_47 : decode cX12_marriages 47 = .ok (.iload_n 1, 1) := by decide +kernel
theorem dX12_marriages_48 : decode cX12_marriages 48 = .ok (.invokevirtual 422, 3) := by decide +kernel
theorem dX12_marriages_51 : decode cX12_marriages 51 = .ok (.ifCond .ne 6, 3) := by decide +kernel
theorem dX12_marriages_54 : decode cX12_marriages 54 = .ok (.bipush (-3), 2) := by decide +kernel
theorem dX12_marriages_56 : decode cX12_marriages 56 = .ok (.ireturn, 1) := by decide +kernel
theorem dX12_marriages_57 : decode cX12_marriages 57 = .ok (.iload_n 2, 1) := by decide +kernel
theorem dX12_marriages_58 : decode cX12_marriages 58 = .ok (.bipush 100, 2) := by decide +kernel
theorem dX12_marriages_60 : decode cX12_marriages 60 = .ok (.if_icmp .eq 15, 3) := by decide +kernel
theorem dX12_marriages_63 : decode cX12_marriages 63 = .ok (.aload_n 0, 1) := by decide +kernel
theorem dX12_marriages_64 : decode cX12_marriages 64 = .ok (.iload_n 1, 1) := by decide +kernel
theorem dX12_marriages_65 : decode cX12_marriages 65 = .ok (.invokevirtual 425, 3) := by decide +kernel
theorem dX12_marriages_68 : decode cX12_marriages 68 = .ok (.aload_n 0, 1) := by decide +kernel
theorem dX12_marriages_69 : decode cX12_marriages 69 = .ok (.getfield 134, 3) := by decide +kernel
theorem dX12_marriages_72 : decode cX12_marriages 72 = .ok (.iload_n 2, 1) := by decide +kernel
theorem dX12_marriages_73 : decode cX12_marriages 73 = .ok (.iaload, 1) := by decide +kernel
theorem dX12_marriages_74 : decode cX12_marriages 74 = .ok (.ireturn, 1) := by decide +kernel
theorem dX12_marriages_75 : decode cX12_marriages 75 = .ok (.iconst 0, 1) := by decide +kernel
theorem dX12_marriages_76 : decode cX12_marriages 76 = .ok (.istore_n 3, 1) := by decide +kernel
theorem dX12_marriages_77 : decode cX12_marriages 77 = .ok (.iconst 0, 1) := by decide +kernel
theorem dX12_marriages_78 : decode cX12_marriages 78 = .ok (.istore 4, 2) := by decide +kernel
theorem dX12_marriages_80 : decode cX12_marriages 80 = .ok (.iload 4, 2) := by decide +kernel
theorem dX12_marriages_82 : decode cX12_marriages 82 = .ok (.iload_n 1, 1) := by decide +kernel
theorem dX12_marriages_83 : decode cX12_marriages 83 = .ok (.if_icmp .ge 18, 3) := by decide +kernel
theorem dX12_marriages_86 : decode cX12_marriages 86 = .ok (.aload_n 0, 1) := by decide +kernel
theorem dX12_marriages_87 : decode cX12_marriages 87 = .ok (.getfield 143, 3) := by decide +kernel
theorem dX12_marriages_90 : decode cX12_marriages 90 = .ok (.iload 4, 2) := by decide +kernel
theorem dX12_marriages_92 : decode cX12_marriages 92 = .ok (.iload 4, 2) := by decide +kernel
theorem dX12_marriages_94 : decode cX12_marriages 94 = .ok (.iastore, 1) := by decide +kernel
theorem dX12_marriages_95 : decode cX12_marriages 95 = .ok (.iinc 4 1, 3) := by decide +kernel
theorem dX12_marriages_98 : decode cX12_marriages 98 = .ok (.goto (-18), 3) := by decide +kernel
theorem dX12_marriages_101 : decode cX12_marriages 101 = .ok (.iconst 1, 1) := by decide +kernel
theorem dX12_marriages_102 : decode cX12_marriages 102 = .ok (.istore 4, 2) := by decide +kernel
theorem dX12_marriages_104 : decode cX12_marriages 104 = .ok (.iload 4, 2) := by decide +kernel
theorem dX12_marriages_106 : decode cX12_marriages 106 = .ok (.ifCond .eq 25, 3) := by decide +kernel
theorem dX12_marriages_109 : decode cX12_marriages 109 = .ok (.aload_n 0, 1) := by decide +kernel
theorem dX12_marriages_110 : decode cX12_marriages 110 = .ok (.iload_n 1, 1) := by decide +kernel
theorem dX12_marriages_111 : decode cX12_marriages 111 = .ok (.invokevirtual 428, 3) := by decide +kernel
theorem dX12_marriages_114 : decode cX12_marriages 114 = .ok (.ifCond .eq 7, 3) := by decide +kernel
theorem dX12_marriages_117 : decode cX12_marriages 117 = .ok (.iload_n 3, 1) := by decide +kernel
theorem dX12_marriages_118 : decode cX12_marriages 118 = .ok (.iconst 1, 1) := by decide +kernel
theorem dX12_marriages_119 : decode cX12_marriages 119 = .ok (.iadd, 1) := by decide +kernel
theorem dX12_marriages_120 : decode cX12_marriages 120 = .ok (.istore_n 3, 1) := by decide +kernel
theorem dX12_marriages_121 : decode cX12_marriages 121 = .ok (.aload_n 0, 1) := by decide +kernel
theorem dX12_marriages_122 : decode cX12_marriages 122 = .ok (.iload_n 1, 1) := by decide +kernel
theorem dX12_marriages_123 : decode cX12_marriages 123 = .ok (.invokevirtual 431, 3) := by decide +kernel
theorem dX12_marriages_126 : decode cX12_marriages 126 = .ok (.istore 4, 2) := by decide +kernel
theorem dX12_marriages_128 : decode cX12_marriages 128 = .ok (.goto (-24), 3) := by decide +kernel
theorem dX12_marriages_131 : decode cX12_marriages 131 = .ok (.iload_n 3, 1) := by decide +kernel
theorem dX12_marriages_132 : decode cX12_marriages 132 = .ok (.ireturn, 1) := by decide +kernel
theorem dX12_closes_0 : decode cX12_closes 0 = .ok (.iconst 0, 1) := by decide +kernel
theorem dX12_closes_1 : decode cX12_closes 1 = .ok (.istore_n 2, 1) := by decide +kernel
theorem dX12_closes_2 : decode cX12_closes 2 = .ok (.iload_n 2, 1) := by decide +kernel
theorem dX12_closes_3 : decode cX12_closes 3 = .ok (.iload_n 1, 1) := by decide +kernel
theorem dX12_closes_4 : decode cX12_closes 4 = .ok (.if_icmp .ge 54, 3) := by decide +kernel
theorem dX12_closes_7 : decode cX12_closes 7 = .ok (.iconst 0, 1) := by decide +kernel
theorem dX12_closes_8 : decode cX12_closes 8 = .ok (.istore_n 3, 1) := by decide +kernel
theorem dX12_closes_9 : decode cX12_closes 9 = .ok (.iload_n 3, 1) := by decide +kernel
theorem dX12_closes_10 : decode cX12_closes 10 = .ok (.iload_n 1, 1) := by decide +kernel
theorem dX12_closes_11 : decode cX12_closes 11 = .ok (.if_icmp .ge 41, 3) := by decide +kernel
theorem dX12_closes_14 : decode cX12_closes 14 = .ok (.aload_n 0, 1) := by decide +kernel
theorem dX12_closes_15 : decode cX12_closes 15 = .ok (.getfield 146, 3) := by decide +kernel
theorem dX12_closes_18 : decode cX12_closes 18 = .ok (.iload_n 3, 1) := by decide +kernel
theorem dX12_closes_19 : decode cX12_closes 19 = .ok (.iaload, 1) := by decide +kernel
theorem dX12_closes_20 : decode cX12_closes 20 = .ok (.iload_n 2, 1) := by decide +kernel
theorem dX12_closes_21 : decode cX12_closes 21 = .ok (.invokestatic 359, 3) := by decide +kernel
theorem dX12_closes_24 : decode cX12_closes 24 = .ok (.ifCond .eq 22, 3) := by decide +kernel
theorem dX12_closes_27 : decode cX12_closes 27 = .ok (.aload_n 0, 1) := by decide +kernel
theorem dX12_closes_28 : decode cX12_closes 28 = .ok (.getfield 146, 3) := by decide +kernel
theorem dX12_closes_31 : decode cX12_closes 31 = .ok (.iload_n 3, 1) := by decide +kernel
theorem dX12_closes_32 : decode cX12_closes 32 = .ok (.aload_n 0, 1) := by decide +kernel
theorem dX12_closes_33 : decode cX12_closes 33 = .ok (.getfield 146, 3) := by decide +kernel
theorem dX12_closes_36 : decode cX12_closes 36 = .ok (.iload_n 3, 1) := by decide +kernel
theorem dX12_closes_37 : decode cX12_closes 37 = .ok (.iaload, 1) := by decide +kernel
theorem dX12_closes_38 : decode cX12_closes 38 = .ok (.aload_n 0, 1) := by decide +kernel
theorem dX12_closes_39 : decode cX12_closes 39 = .ok (.getfield 146, 3) := by decide +kernel
theorem dX12_closes_42 : decode cX12_closes 42 = .ok (.iload_n 2, 1) := by decide +kernel
theorem dX12_closes_43 : decode cX12_closes 43 = .ok (.iaload, 1) := by decide +kernel
theorem dX12_closes_44 : decode cX12_closes 44 = .ok (.ior, 1) := by decide +kernel
theorem dX12_closes_45 : decode cX12_closes 45 = .ok (.iastore, 1) := by decide +kernel
theorem dX12_closes_46 : decode cX12_closes 46 = .ok (.iinc 3 1, 3) := by decide +kernel
theorem dX12_closes_49 : decode cX12_closes 49 = .ok (.goto (-40), 3) := by decide +kernel
theorem dX12_closes_52 : decode cX12_closes 52 = .ok (.iinc 2 1, 3) := by decide +kernel
theorem dX12_closes_55 : decode cX12_closes 55 = .ok (.goto (-53), 3) := by decide +kernel
theorem dX12_closes_58 : decode cX12_closes 58 = .ok (.return_, 1) := by decide +kernel
theorem dX12_waysOf_0 : decode cX12_waysOf 0 = .ok (.iconst 0, 1) := by decide +kernel
theorem dX12_waysOf_1 : decode cX12_waysOf 1 = .ok (.istore_n 2, 1) := by decide +kernel
theorem dX12_waysOf_2 : decode cX12_waysOf 2 = .ok (.iload_n 2, 1) := by decide +kernel
theorem dX12_waysOf_3 : decode cX12_waysOf 3 = .ok (.iconst 1, 1) := by decide +kernel
theorem dX12_waysOf_4 : decode cX12_waysOf 4 = .ok (.iload_n 1, 1) := by decide +kernel
theorem dX12_waysOf_5 : decode cX12_waysOf 5 = .ok (.ishl, 1) := by decide +kernel
theorem dX12_waysOf_6 : decode cX12_waysOf 6 = .ok (.if_icmp .ge 89, 3) := by decide +kernel
theorem dX12_waysOf_9 : decode cX12_waysOf 9 = .ok (.aload_n 0, 1) := by decide +kernel
theorem dX12_waysOf_10 : decode cX12_waysOf 10 = .ok (.getfield 149, 3) := by decide +kernel
theorem dX12_waysOf_13 : decode cX12_waysOf 13 = .ok (.iload_n 2, 1) := by decide +kernel
theorem dX12_waysOf_14 : decode cX12_waysOf 14 = .ok (.iload_n 2, 1) := by decide +kernel
theorem dX12_waysOf_15 : decode cX12_waysOf 15 = .ok (.ifCond .ne 7, 3) := by decide +kernel
theorem dX12_waysOf_18 : decode cX12_waysOf 18 = .ok (.iconst 1, 1) := by decide +kernel
theorem dX12_waysOf_19 : decode cX12_waysOf 19 = .ok (.goto 4, 3) := by decide +kernel
theorem dX12_waysOf_22 : decode cX12_waysOf 22 = .ok (.iconst 0, 1) := by decide +kernel
theorem dX12_waysOf_23 : decode cX12_waysOf 23 = .ok (.iastore, 1) := by decide +kernel
theorem dX12_waysOf_24 : decode cX12_waysOf 24 = .ok (.iconst 0, 1) := by decide +kernel
theorem dX12_waysOf_25 : decode cX12_waysOf 25 = .ok (.istore_n 3, 1) := by decide +kernel
theorem dX12_waysOf_26 : decode cX12_waysOf 26 = .ok (.iload_n 3, 1) := by decide +kernel
theorem dX12_waysOf_27 : decode cX12_waysOf 27 = .ok (.iload_n 1, 1) := by decide +kernel
theorem dX12_waysOf_28 : decode cX12_waysOf 28 = .ok (.if_icmp .ge 61, 3) := by decide +kernel
theorem dX12_waysOf_31 : decode cX12_waysOf 31 = .ok (.iload_n 2, 1) := by decide +kernel
theorem dX12_waysOf_32 : decode cX12_waysOf 32 = .ok (.iload_n 3, 1) := by decide +kernel
theorem dX12_waysOf_33 : decode cX12_waysOf 33 = .ok (.invokestatic 359, 3) := by decide +kernel
theorem dX12_waysOf_36 : decode cX12_waysOf 36 = .ok (.ifCond .eq 47, 3) := by decide +kernel
theorem dX12_waysOf_39 : decode cX12_waysOf 39 = .ok (.aload_n 0, 1) := by decide +kernel
theorem dX12_waysOf_40 : decode cX12_waysOf 40 = .ok (.getfield 146, 3) := by decide +kernel
theorem dX12_waysOf_43 : decode cX12_waysOf 43 = .ok (.iload_n 3, 1) := by decide +kernel
theorem dX12_waysOf_44 : decode cX12_waysOf 44 = .ok (.iaload, 1) := by decide +kernel
theorem dX12_waysOf_45 : decode cX12_waysOf 45 = .ok (.iload_n 2, 1) := by decide +kernel
theorem dX12_waysOf_46 : decode cX12_waysOf 46 = .ok (.iconst 1, 1) := by decide +kernel
theorem dX12_waysOf_47 : decode cX12_waysOf 47 = .ok (.iload_n 3, 1) := by decide +kernel
theorem dX12_waysOf_48 : decode cX12_waysOf 48 = .ok (.ishl, 1) := by decide +kernel
theorem dX12_waysOf_49 : decode cX12_waysOf 49 = .ok (.iconst (-1), 1) := by decide +kernel
theorem dX12_waysOf_50 : decode cX12_waysOf 50 = .ok (.ixor, 1) := by decide +kernel
theorem dX12_waysOf_51 : decode cX12_waysOf 51 = .ok (.iand, 1) := by decide +kernel
theorem dX12_waysOf_52 : decode cX12_waysOf 52 = .ok (.iconst (-1), 1) := by decide +kernel
theorem dX12_waysOf_53 : decode cX12_waysOf 53 = .ok (.ixor, 1) := by decide +kernel
theorem dX12_waysOf_54 : decode cX12_waysOf 54 = .ok (.iand, 1) := by decide +kernel
theorem dX12_waysOf_55 : decode cX12_waysOf 55 = .ok (.ifCond .ne 28, 3) := by decide +kernel
theorem dX12_waysOf_58 : decode cX12_waysOf 58 = .ok (.aload_n 0, 1) := by decide +kernel
theorem dX12_waysOf_59 : decode cX12_waysOf 59 = .ok (.getfield 149, 3) := by decide +kernel
theorem dX12_waysOf_62 : decode cX12_waysOf 62 = .ok (.iload_n 2, 1) := by decide +kernel
theorem dX12_waysOf_63 : decode cX12_waysOf 63 = .ok (.aload_n 0, 1) := by decide +kernel
theorem dX12_waysOf_64 : decode cX12_waysOf 64 = .ok (.getfield 149, 3) := by decide +kernel
theorem dX12_waysOf_67 : decode cX12_waysOf 67 = .ok (.iload_n 2, 1) := by decide +kernel
theorem dX12_waysOf_68 : decode cX12_waysOf 68 = .ok (.iaload, 1) := by decide +kernel
theorem dX12_waysOf_69 : decode cX12_waysOf 69 = .ok (.aload_n 0, 1) := by decide +kernel
theorem dX12_waysOf_70 : decode cX12_waysOf 70 = .ok (.getfield 149, 3) := by decide +kernel
theorem dX12_waysOf_73 : decode cX12_waysOf 73 = .ok (.iload_n 2, 1) := by decide +kernel
theorem dX12_waysOf_74 : decode cX12_waysOf 74 = .ok (.iconst 1, 1) := by decide +kernel
theorem dX12_waysOf_75 : decode cX12_waysOf 75 = .ok (.iload_n 3, 1) := by decide +kernel
theorem dX12_waysOf_76 : decode cX12_waysOf 76 = .ok (.ishl, 1) := by decide +kernel
theorem dX12_waysOf_77 : decode cX12_waysOf 77 = .ok (.iconst (-1), 1) := by decide +kernel
theorem dX12_waysOf_78 : decode cX12_waysOf 78 = .ok (.ixor, 1) := by decide +kernel
theorem dX12_waysOf_79 : decode cX12_waysOf 79 = .ok (.iand, 1) := by decide +kernel
theorem dX12_waysOf_80 : decode cX12_waysOf 80 = .ok (.iaload, 1) := by decide +kernel
theorem dX12_waysOf_81 : decode cX12_waysOf 81 = .ok (.iadd, 1) := by decide +kernel
theorem dX12_waysOf_82 : decode cX12_waysOf 82 = .ok (.iastore, 1) := by decide +kernel
theorem dX12_waysOf_83 : decode cX12_waysOf 83 = .ok (.iinc 3 1, 3) := by decide +kernel
theorem dX12_waysOf_86 : decode cX12_waysOf 86 = .ok (.goto (-60), 3) := by decide +kernel
theorem dX12_waysOf_89 : decode cX12_waysOf 89 = .ok (.iinc 2 1, 3) := by decide +kernel
theorem dX12_waysOf_92 : decode cX12_waysOf 92 = .ok (.goto (-90), 3) := by decide +kernel
theorem dX12_waysOf_95 : decode cX12_waysOf 95 = .ok (.aload_n 0, 1) := by decide +kernel
theorem dX12_waysOf_96 : decode cX12_waysOf 96 = .ok (.getfield 149, 3) := by decide +kernel
theorem dX12_waysOf_99 : decode cX12_waysOf 99 = .ok (.iconst 1, 1) := by decide +kernel
theorem dX12_waysOf_100 : decode cX12_waysOf 100 = .ok (.iload_n 1, 1) := by decide +kernel
theorem dX12_waysOf_101 : decode cX12_waysOf 101 = .ok (.ishl, 1) := by decide +kernel
theorem dX12_waysOf_102 : decode cX12_waysOf 102 = .ok (.iconst 1, 1) := by decide +kernel
theorem dX12_waysOf_103 : decode cX12_waysOf 103 = .ok (.isub, 1) := by decide +kernel
theorem dX12_waysOf_104 : decode cX12_waysOf 104 = .ok (.iaload, 1) := by decide +kernel
theorem dX12_waysOf_105 : decode cX12_waysOf 105 = .ok (.ireturn, 1) := by decide +kernel
theorem dX12_orders_0 : decode cX12_orders 0 = .ok (.iload_n 1, 1) := by decide +kernel
theorem dX12_orders_1 : decode cX12_orders 1 = .ok (.iconst 2, 1) := by decide +kernel
theorem dX12_orders_2 : decode cX12_orders 2 = .ok (.bipush 10, 2) := by decide +kernel
theorem dX12_orders_4 : decode cX12_orders 4 = .ok (.invokestatic 156, 3) := by decide +kernel
theorem dX12_orders_7 : decode cX12_orders 7 = .ok (.ifCond .eq 40, 3) := by decide +kernel
theorem dX12_orders_10 : decode cX12_orders 10 = .ok (.iload_n 2, 1) := by decide +kernel
theorem dX12_orders_11 : decode cX12_orders 11 = .ok (.iconst 1, 1) := by decide +kernel
theorem dX12_orders_12 : decode cX12_orders 12 = .ok (.bipush 20, 2) := by decide +kernel
theorem dX12_orders_14 : decode cX12_orders 14 = .ok (.invokestatic 156, 3) := by decide +kernel
theorem dX12_orders_17 : decode cX12_orders 17 = .ok (.ifCond .eq 30, 3) := by decide +kernel
theorem dX12_orders_20 : decode cX12_orders 20 = .ok (.iload_n 3, 1) := by decide +kernel
theorem dX12_orders_21 : decode cX12_orders 21 = .ok (.iconst 0, 1) := by decide +kernel
theorem dX12_orders_22 : decode cX12_orders 22 = .ok (.iload_n 1, 1) := by decide +kernel
theorem dX12_orders_23 : decode cX12_orders 23 = .ok (.iconst 1, 1) := by decide +kernel
theorem dX12_orders_24 : decode cX12_orders 24 = .ok (.isub, 1) := by decide +kernel
theorem dX12_orders_25 : decode cX12_orders 25 = .ok (.invokestatic 156, 3) := by decide +kernel
theorem dX12_orders_28 : decode cX12_orders 28 = .ok (.ifCond .ne 9, 3) := by decide +kernel
theorem dX12_orders_31 : decode cX12_orders 31 = .ok (.iload_n 3, 1) := by decide +kernel
theorem dX12_orders_32 : decode cX12_orders 32 = .ok (.bipush 100, 2) := by decide +kernel
theorem dX12_orders_34 : decode cX12_orders 34 = .ok (.if_icmp .ne 13, 3) := by decide +kernel
theorem dX12_orders_37 : decode cX12_orders 37 = .ok (.iconst 2, 1) := by decide +kernel
theorem dX12_orders_38 : decode cX12_orders 38 = .ok (.iload_n 2, 1) := by decide +kernel
theorem dX12_orders_39 : decode cX12_orders 39 = .ok (.imul, 1) := by decide +kernel
theorem dX12_orders_40 : decode cX12_orders 40 = .ok (.aload_n 0, 1) := by decide +kernel
theorem dX12_orders_41 : decode cX12_orders 41 = .ok (.getfield 168, 3) := by decide +kernel
theorem dX12_orders_44 : decode cX12_orders 44 = .ok (.if_icmp .le 5, 3) := by decide +kernel
theorem dX12_orders_47 : decode cX12_orders 47 = .ok (.iconst (-1), 1) := by decide +kernel
theorem dX12_orders_48 : decode cX12_orders 48 = .ok (.ireturn, 1) := by decide +kernel
theorem dX12_orders_49 : decode cX12_orders 49 = .ok (.aload_n 0, 1) := by decide +kernel
theorem dX12_orders_50 : decode cX12_orders 50 = .ok (.iconst 0, 1) := by decide +kernel
theorem dX12_orders_51 : decode cX12_orders 51 = .ok (.putfield 168, 3) := by decide +kernel
theorem dX12_orders_54 : decode cX12_orders 54 = .ok (.iconst 0, 1) := by decide +kernel
theorem dX12_orders_55 : decode cX12_orders 55 = .ok (.istore 4, 2) := by decide +kernel
theorem dX12_orders_57 : decode cX12_orders 57 = .ok (.iload 4, 2) := by decide +kernel
theorem dX12_orders_59 : decode cX12_orders 59 = .ok (.iload_n 1, 1) := by decide +kernel
theorem dX12_orders_60 : decode cX12_orders 60 = .ok (.if_icmp .ge 17, 3) := by decide +kernel
theorem dX12_orders_63 : decode cX12_orders 63 = .ok (.aload_n 0, 1) := by decide +kernel
theorem dX12_orders_64 : decode cX12_orders 64 = .ok (.getfield 146, 3) := by decide +kernel
theorem dX12_orders_67 : decode cX12_orders 67 = .ok (.iload 4, 2) := by decide +kernel
theorem dX12_orders_69 : decode cX12_orders 69 = .ok (.iconst 0, 1) := by decide +kernel
theorem dX12_orders_70 : decode cX12_orders 70 = .ok (.iastore, 1) := by decide +kernel
theorem dX12_orders_71 : decode cX12_orders 71 = .ok (.iinc 4 1, 3) := by decide +kernel
theorem dX12_orders_74 : decode cX12_orders 74 = .ok (.goto (-17), 3) := by decide +kernel
theorem dX12_orders_77 : decode cX12_orders 77 = .ok (.iconst 0, 1) := by decide +kernel
theorem dX12_orders_78 : decode cX12_orders 78 = .ok (.istore 4, 2) := by decide +kernel
theorem dX12_orders_80 : decode cX12_orders 80 = .ok (.iload 4, 2) := by decide +kernel
theorem dX12_orders_82 : decode cX12_orders 82 = .ok (.iload_n 2, 1) := by decide +kernel
theorem dX12_orders_83 : decode cX12_orders 83 = .ok (.if_icmp .ge 72, 3) := by decide +kernel
theorem dX12_orders_86 : decode cX12_orders 86 = .ok (.aload_n 0, 1) := by decide +kernel
theorem dX12_orders_87 : decode cX12_orders 87 = .ok (.iconst 2, 1) := by decide +kernel
theorem dX12_orders_88 : decode cX12_orders 88 = .ok (.iload 4, 2) := by decide +kernel
theorem dX12_orders_90 : decode cX12_orders 90 = .ok (.imul, 1) := by decide +kernel
theorem dX12_orders_91 : decode cX12_orders 91 = .ok (.invokevirtual 407, 3) := by decide +kernel
theorem dX12_orders_94 : decode cX12_orders 94 = .ok (.istore 5, 2) := by decide +kernel
theorem dX12_orders_96 : decode cX12_orders 96 = .ok (.aload_n 0, 1) := by decide +kernel
theorem dX12_orders_97 : decode cX12_orders 97 = .ok (.iconst 2, 1) := by decide +kernel
theorem dX12_orders_98 : decode cX12_orders 98 = .ok (.iload 4, 2) := by decide +kernel
theorem dX12_orders_100 : decode cX12_orders 100 = .ok (.imul, 1) := by decide +kernel
theorem dX12_orders_101 : decode cX12_orders 101 = .ok (.iconst 1, 1) := by decide +kernel
theorem dX12_orders_102 : decode cX12_orders 102 = .ok (.iadd, 1) := by decide +kernel
theorem dX12_orders_103 : decode cX12_orders 103 = .ok (.invokevirtual 407, 3) := by decide +kernel
theorem dX12_orders_106 : decode cX12_orders 106 = .ok (.istore 6, 2) := by decide +kernel
theorem dX12_orders_108 : decode cX12_orders 108 = .ok (.iload 5, 2) := by decide +kernel
theorem dX12_orders_110 : decode cX12_orders 110 = .ok (.iload_n 1, 1) := by decide +kernel
theorem dX12_orders_111 : decode cX12_orders 111 = .ok (.if_icmp .ge 16, 3) := by decide +kernel
theorem dX12_orders_114 : decode cX12_orders 114 = .ok (.iload 6, 2) := by decide +kernel
theorem dX12_orders_116 : decode cX12_orders 116 = .ok (.iload_n 1, 1) := by decide +kernel
theorem dX12_orders_117 : decode cX12_orders 117 = .ok (.if_icmp .ge 10, 3) := by decide +kernel
theorem dX12_orders_120 : decode cX12_orders 120 = .ok (.iload 5, 2) := by decide +kernel
theorem dX12_orders_122 : decode cX12_orders 122 = .ok (.iload 6, 2) := by decide +kernel
theorem dX12_orders_124 : decode cX12_orders 124 = .ok (.if_icmp .ne 6, 3) := by decide +kernel
theorem dX12_orders_127 : decode cX12_orders 127 = .ok (.bipush (-3), 2) := by decide +kernel
theorem dX12_orders_129 : decode cX12_orders 129 = .ok (.ireturn, 1) := by decide +kernel
theorem dX12_orders_130 : decode cX12_orders 130 = .ok (.aload_n 0, 1) := by decide +kernel
theorem dX12_orders_131 : decode cX12_orders 131 = .ok (.getfield 146, 3) := by decide +kernel
theorem dX12_orders_134 : decode cX12_orders 134 = .ok (.iload 6, 2) := by decide +kernel
theorem dX12_orders_136 : decode cX12_orders 136 = .ok (.aload_n 0, 1) := by decide +kernel
theorem dX12_orders_137 : decode cX12_orders 137 = .ok (.getfield 146, 3) := by decide +kernel
theorem dX12_orders_140 : decode cX12_orders 140 = .ok (.iload 6, 2) := by decide +kernel
theorem dX12_orders_142 : decode cX12_orders 142 = .ok (.iaload, 1) := by decide +kernel
theorem dX12_orders_143 : decode cX12_orders 143 = .ok (.iconst 1, 1) := by decide +kernel
theorem dX12_orders_144 : decode cX12_orders 144 = .ok (.iload 5, 2) := by decide +kernel
theorem dX12_orders_146 : decode cX12_orders 146 = .ok (.ishl, 1) := by decide +kernel
theorem dX12_orders_147 : decode cX12_orders 147 = .ok (.ior, 1) := by decide +kernel
theorem dX12_orders_148 : decode cX12_orders 148 = .ok (.iastore, 1) := by decide +kernel
theorem dX12_orders_149 : decode cX12_orders 149 = .ok (.iinc 4 1, 3) := by decide +kernel
theorem dX12_orders_152 : decode cX12_orders 152 = .ok (.goto (-72), 3) := by decide +kernel
theorem dX12_orders_155 : decode cX12_orders 155 = .ok (.aload_n 0, 1) := by decide +kernel
theorem dX12_orders_156 : decode cX12_orders 156 = .ok (.iload_n 1, 1) := by decide +kernel
theorem dX12_orders_157 : decode cX12_orders 157 = .ok (.invokevirtual 434, 3) := by decide +kernel
theorem dX12_orders_160 : decode cX12_orders 160 = .ok (.aload_n 0, 1) := by decide +kernel
theorem dX12_orders_161 : decode cX12_orders 161 = .ok (.iload_n 1, 1) := by decide +kernel
theorem dX12_orders_162 : decode cX12_orders 162 = .ok (.invokevirtual 437, 3) := by decide +kernel
theorem dX12_orders_165 : decode cX12_orders 165 = .ok (.istore 4, 2) := by decide +kernel
theorem dX12_orders_167 : decode cX12_orders 167 = .ok (.iload_n 3, 1) := by decide +kernel
theorem dX12_orders_168 : decode cX12_orders 168 = .ok (.bipush 100, 2) := by decide +kernel
theorem dX12_orders_170 : decode cX12_orders 170 = .ok (.if_icmp .ne 6, 3) := by decide +kernel
theorem dX12_orders_173 : decode cX12_orders 173 = .ok (.iload 4, 2) := by decide +kernel
theorem dX12_orders_175 : decode cX12_orders 175 = .ok (.ireturn, 1) := by decide +kernel
theorem dX12_orders_176 : decode cX12_orders 176 = .ok (.iload 4, 2) := by decide +kernel
theorem dX12_orders_178 : decode cX12_orders 178 = .ok (.ifCond .ne 8, 3) := by decide +kernel
theorem dX12_orders_181 : decode cX12_orders 181 = .ok (.bipush (-2), 2) := by decide +kernel
theorem dX12_orders_183 : decode cX12_orders 183 = .ok (.goto 12, 3) := by decide +kernel
theorem dX12_orders_186 : decode cX12_orders 186 = .ok (.aload_n 0, 1) := by decide +kernel
theorem dX12_orders_187 : decode cX12_orders 187 = .ok (.getfield 146, 3) := by decide +kernel
theorem dX12_orders_190 : decode cX12_orders 190 = .ok (.iload_n 3, 1) := by decide +kernel
theorem dX12_orders_191 : decode cX12_orders 191 = .ok (.iaload, 1) := by decide +kernel
theorem dX12_orders_192 : decode cX12_orders 192 = .ok (.invokestatic 398, 3) := by decide +kernel
theorem dX12_orders_195 : decode cX12_orders 195 = .ok (.ireturn, 1) := by decide +kernel
theorem dX12_seed_0 : decode cX12_seed 0 = .ok (.iload_n 1, 1) := by decide +kernel
theorem dX12_seed_1 : decode cX12_seed 1 = .ok (.iconst 0, 1) := by decide +kernel
theorem dX12_seed_2 : decode cX12_seed 2 = .ok (.ldc_w 397, 3) := by decide +kernel
theorem dX12_seed_5 : decode cX12_seed 5 = .ok (.invokestatic 156, 3) := by decide +kernel
theorem dX12_seed_8 : decode cX12_seed 8 = .ok (.ifCond .ne 5, 3) := by decide +kernel
theorem dX12_seed_11 : decode cX12_seed 11 = .ok (.iconst 0, 1) := by decide +kernel
theorem dX12_seed_12 : decode cX12_seed 12 = .ok (.ireturn, 1) := by decide +kernel
theorem dX12_seed_13 : decode cX12_seed 13 = .ok (.aload_n 0, 1) := by decide +kernel
theorem dX12_seed_14 : decode cX12_seed 14 = .ok (.getfield 7, 3) := by decide +kernel
theorem dX12_seed_17 : decode cX12_seed 17 = .ok (.bipush 81, 2) := by decide +kernel
theorem dX12_seed_19 : decode cX12_seed 19 = .ok (.iload_n 1, 1) := by decide +kernel
theorem dX12_seed_20 : decode cX12_seed 20 = .ok (.iastore, 1) := by decide +kernel
theorem dX12_seed_21 : decode cX12_seed 21 = .ok (.iconst 1, 1) := by decide +kernel
theorem dX12_seed_22 : decode cX12_seed 22 = .ok (.ireturn, 1) := by decide +kernel
theorem dX12_keep_0 : decode cX12_keep 0 = .ok (.aload_n 0, 1) := by decide +kernel
theorem dX12_keep_1 : decode cX12_keep 1 = .ok (.iconst 1, 1) := by decide +kernel
theorem dX12_keep_2 : decode cX12_keep 2 = .ok (.putfield 440, 3) := by decide +kernel
theorem dX12_keep_5 : decode cX12_keep 5 = .ok (.aload_n 0, 1) := by decide +kernel
theorem dX12_keep_6 : decode cX12_keep 6 = .ok (.aload_n 0, 1) := by decide +kernel
theorem dX12_keep_7 : decode cX12_keep 7 = .ok (.getfield 152, 3) := by decide +kernel
theorem dX12_keep_10 : decode cX12_keep 10 = .ok (.putfield 444, 3) := by decide +kernel
theorem dX12_keep_13 : decode cX12_keep 13 = .ok (.aload_n 0, 1) := by decide +kernel
theorem dX12_keep_14 : decode cX12_keep 14 = .ok (.getfield 7, 3) := by decide +kernel
theorem dX12_keep_17 : decode cX12_keep 17 = .ok (.aload_n 0, 1) := by decide +kernel
theorem dX12_keep_18 : decode cX12_keep 18 = .ok (.getfield 16, 3) := by decide +kernel
theorem dX12_keep_21 : decode cX12_keep 21 = .ok (.invokestatic 346, 3) := by decide +kernel
theorem dX12_keep_24 : decode cX12_keep 24 = .ok (.aload_n 0, 1) := by decide +kernel
theorem dX12_keep_25 : decode cX12_keep 25 = .ok (.getfield 7, 3) := by decide +kernel
theorem dX12_keep_28 : decode cX12_keep 28 = .ok (.bipush 80, 2) := by decide +kernel
theorem dX12_keep_30 : decode cX12_keep 30 = .ok (.iaload, 1) := by decide +kernel
theorem dX12_keep_31 : decode cX12_keep 31 = .ok (.ireturn, 1) := by decide +kernel
theorem dX12_undo_0 : decode cX12_undo 0 = .ok (.aload_n 0, 1) := by decide +kernel
theorem dX12_undo_1 : decode cX12_undo 1 = .ok (.getfield 440, 3) := by decide +kernel
theorem dX12_undo_4 : decode cX12_undo 4 = .ok (.ifCond .ne 5, 3) := by decide +kernel
theorem dX12_undo_7 : decode cX12_undo 7 = .ok (.iconst 0, 1) := by decide +kernel
theorem dX12_undo_8 : decode cX12_undo 8 = .ok (.ireturn, 1) := by decide +kernel
theorem dX12_undo_9 : decode cX12_undo 9 = .ok (.iconst 0, 1) := by decide +kernel
theorem dX12_undo_10 : decode cX12_undo 10 = .ok (.istore_n 1, 1) := by decide +kernel
theorem dX12_undo_11 : decode cX12_undo 11 = .ok (.iload_n 1, 1) := by decide +kernel
theorem dX12_undo_12 : decode cX12_undo 12 = .ok (.aload_n 0, 1) := by decide +kernel
theorem dX12_undo_13 : decode cX12_undo 13 = .ok (.getfield 152, 3) := by decide +kernel
theorem dX12_undo_16 : decode cX12_undo 16 = .ok (.aload_n 0, 1) := by decide +kernel
theorem dX12_undo_17 : decode cX12_undo 17 = .ok (.getfield 444, 3) := by decide +kernel
theorem dX12_undo_20 : decode cX12_undo 20 = .ok (.invokestatic 309, 3) := by decide +kernel
theorem dX12_undo_23 : decode cX12_undo 23 = .ok (.if_icmp .ge 41, 3) := by decide +kernel
theorem dX12_undo_26 : decode cX12_undo 26 = .ok (.iconst 0, 1) := by decide +kernel
theorem dX12_undo_27 : decode cX12_undo 27 = .ok (.istore_n 2, 1) := by decide +kernel
theorem dX12_undo_28 : decode cX12_undo 28 = .ok (.iload_n 2, 1) := by decide +kernel
theorem dX12_undo_29 : decode cX12_undo 29 = .ok (.bipush 80, 2) := by decide +kernel
theorem dX12_undo_31 : decode cX12_undo 31 = .ok (.if_icmp .ge 27, 3) := by decide +kernel
theorem dX12_undo_34 : decode cX12_undo 34 = .ok (.aload_n 0, 1) := by decide +kernel
theorem dX12_undo_35 : decode cX12_undo 35 = .ok (.getfield 7, 3) := by decide +kernel
theorem dX12_undo_38 : decode cX12_undo 38 = .ok (.iload_n 2, 1) := by decide +kernel
theorem dX12_undo_39 : decode cX12_undo 39 = .ok (.iload_n 1, 1) := by decide +kernel
theorem dX12_undo_40 : decode cX12_undo 40 = .ok (.iadd, 1) := by decide +kernel
theorem dX12_undo_41 : decode cX12_undo 41 = .ok (.aload_n 0, 1) := by decide +kernel
theorem dX12_undo_42 : decode cX12_undo 42 = .ok (.getfield 16, 3) := by decide +kernel
theorem dX12_undo_45 : decode cX12_undo 45 = .ok (.iload_n 2, 1) := by decide +kernel
theorem dX12_undo_46 : decode cX12_undo 46 = .ok (.iload_n 1, 1) := by decide +kernel
theorem dX12_undo_47 : decode cX12_undo 47 = .ok (.iadd, 1) := by decide +kernel
theorem dX12_undo_48 : decode cX12_undo 48 = .ok (.iaload, 1) := by decide +kernel
theorem dX12_undo_49 : decode cX12_undo 49 = .ok (.iastore, 1) := by decide +kernel
theorem dX12_undo_50 : decode cX12_undo 50 = .ok (.iload_n 2, 1) := by decide +kernel
theorem dX12_undo_51 : decode cX12_undo 51 = .ok (.bipush 16, 2) := by decide +kernel
theorem dX12_undo_53 : decode cX12_undo 53 = .ok (.iadd, 1) := by decide +kernel
theorem dX12_undo_54 : decode cX12_undo 54 = .ok (.istore_n 2, 1) := by decide +kernel
theorem dX12_undo_55 : decode cX12_undo 55 = .ok (.goto (-27), 3) := by decide +kernel
theorem dX12_undo_58 : decode cX12_undo 58 = .ok (.iinc 1 1, 3) := by decide +kernel
theorem dX12_undo_61 : decode cX12_undo 61 = .ok (.goto (-50), 3) := by decide +kernel
theorem dX12_undo_64 : decode cX12_undo 64 = .ok (.aload_n 0, 1) := by decide +kernel
theorem dX12_undo_65 : decode cX12_undo 65 = .ok (.getfield 7, 3) := by decide +kernel
theorem dX12_undo_68 : decode cX12_undo 68 = .ok (.bipush 80, 2) := by decide +kernel
theorem dX12_undo_70 : decode cX12_undo 70 = .ok (.aload_n 0, 1) := by decide +kernel
theorem dX12_undo_71 : decode cX12_undo 71 = .ok (.getfield 16, 3) := by decide +kernel
theorem dX12_undo_74 : decode cX12_undo 74 = .ok (.bipush 80, 2) := by decide +kernel
theorem dX12_undo_76 : decode cX12_undo 76 = .ok (.iaload, 1) := by decide +kernel
theorem dX12_undo_77 : decode cX12_undo 77 = .ok (.iastore, 1) := by decide +kernel
theorem dX12_undo_78 : decode cX12_undo 78 = .ok (.aload_n 0, 1) := by decide +kernel
theorem dX12_undo_79 : decode cX12_undo 79 = .ok (.getfield 7, 3) := by decide +kernel
theorem dX12_undo_82 : decode cX12_undo 82 = .ok (.bipush 81, 2) := by decide +kernel
theorem dX12_undo_84 : decode cX12_undo 84 = .ok (.aload_n 0, 1) := by decide +kernel
theorem dX12_undo_85 : decode cX12_undo 85 = .ok (.getfield 16, 3) := by decide +kernel
theorem dX12_undo_88 : decode cX12_undo 88 = .ok (.bipush 81, 2) := by decide +kernel
theorem dX12_undo_90 : decode cX12_undo 90 = .ok (.iaload, 1) := by decide +kernel
theorem dX12_undo_91 : decode cX12_undo 91 = .ok (.iastore, 1) := by decide +kernel
theorem dX12_undo_92 : decode cX12_undo 92 = .ok (.iconst 1, 1) := by decide +kernel
theorem dX12_undo_93 : decode cX12_undo 93 = .ok (.ireturn, 1) := by decide +kernel
theorem dX12_check_0 : decode cX12_check 0 = .ok (.iload_n 1, 1) := by decide +kernel
theorem dX12_check_1 : decode cX12_check 1 = .ok (.iconst 0, 1) := by decide +kernel
theorem dX12_check_2 : decode cX12_check 2 = .ok (.bipush 16, 2) := by decide +kernel
theorem dX12_check_4 : decode cX12_check 4 = .ok (.invokestatic 156, 3) := by decide +kernel
theorem dX12_check_7 : decode cX12_check 7 = .ok (.ifCond .eq 11, 3) := by decide +kernel
theorem dX12_check_10 : decode cX12_check 10 = .ok (.iload_n 1, 1) := by decide +kernel
theorem dX12_check_11 : decode cX12_check 11 = .ok (.aload_n 0, 1) := by decide +kernel
theorem dX12_check_12 : decode cX12_check 12 = .ok (.getfield 168, 3) := by decide +kernel
theorem dX12_check_15 : decode cX12_check 15 = .ok (.if_icmp .le 6, 3) := by decide +kernel
theorem dX12_check_18 : decode cX12_check 18 = .ok (.bipush (-2), 2) := by decide +kernel
theorem dX12_check_20 : decode cX12_check 20 = .ok (.ireturn, 1) := by decide +kernel
theorem dX12_check_21 : decode cX12_check 21 = .ok (.aload_n 0, 1) := by decide +kernel
theorem dX12_check_22 : decode cX12_check 22 = .ok (.iconst 0, 1) := by decide +kernel
theorem dX12_check_23 : decode cX12_check 23 = .ok (.putfield 168, 3) := by decide +kernel
theorem dX12_check_26 : decode cX12_check 26 = .ok (.iconst 0, 1) := by decide +kernel
theorem dX12_check_27 : decode cX12_check 27 = .ok (.istore_n 2, 1) := by decide +kernel
theorem dX12_check_28 : decode cX12_check 28 = .ok (.iload_n 2, 1) := by decide +kernel
theorem dX12_check_29 : decode cX12_check 29 = .ok (.iload_n 1, 1) := by decide +kernel
theorem dX12_check_30 : decode cX12_check 30 = .ok (.if_icmp .ge 42, 3) := by decide +kernel
theorem dX12_check_33 : decode cX12_check 33 = .ok (.aload_n 0, 1) := by decide +kernel
theorem dX12_check_34 : decode cX12_check 34 = .ok (.iload_n 2, 1) := by decide +kernel
theorem dX12_check_35 : decode cX12_check 35 = .ok (.invokevirtual 407, 3) := by decide +kernel
theorem dX12_check_38 : decode cX12_check 38 = .ok (.aload_n 0, 1) := by decide +kernel
theorem dX12_check_39 : decode cX12_check 39 = .ok (.iload_n 2, 1) := by decide +kernel
theorem dX12_check_40 : decode cX12_check 40 = .ok (.invokevirtual 164, 3) := by decide +kernel
theorem dX12_check_43 : decode cX12_check 43 = .ok (.ifCond .eq 15, 3) := by decide +kernel
theorem dX12_check_46 : decode cX12_check 46 = .ok (.aload_n 0, 1) := by decide +kernel
theorem dX12_check_47 : decode cX12_check 47 = .ok (.getfield 7, 3) := by decide +kernel
theorem dX12_check_50 : decode cX12_check 50 = .ok (.bipush 32, 2) := by decide +kernel
theorem dX12_check_52 : decode cX12_check 52 = .ok (.iload_n 2, 1) := by decide +kernel
theorem dX12_check_53 : decode cX12_check 53 = .ok (.iadd, 1) := by decide +kernel
theorem dX12_check_54 : decode cX12_check 54 = .ok (.iaload, 1) := by decide +kernel
theorem dX12_check_55 : decode cX12_check 55 = .ok (.goto 6, 3) := by decide +kernel
theorem dX12_check_58 : decode cX12_check 58 = .ok (.sipush 255, 3) := by decide +kernel
theorem dX12_check_61 : decode cX12_check 61 = .ok (.if_icmp .eq 5, 3) := by decide +kernel
theorem dX12_check_64 : decode cX12_check 64 = .ok (.iload_n 2, 1) := by decide +kernel
theorem dX12_check_65 : decode cX12_check 65 = .ok (.ireturn, 1) := by decide +kernel
theorem dX12_check_66 : decode cX12_check 66 = .ok (.iinc 2 1, 3) := by decide +kernel
theorem dX12_check_69 : decode cX12_check 69 = .ok (.goto (-41), 3) := by decide +kernel
theorem dX12_check_72 : decode cX12_check 72 = .ok (.iconst (-1), 1) := by decide +kernel
theorem dX12_check_73 : decode cX12_check 73 = .ok (.ireturn, 1) := by decide +kernel
theorem dX12_callsOfAll_0 : decode cX12_callsOfAll 0 = .ok (.iconst 0, 1) := by decide +kernel
theorem dX12_callsOfAll_1 : decode cX12_callsOfAll 1 = .ok (.istore_n 1, 1) := by decide +kernel
theorem dX12_callsOfAll_2 : decode cX12_callsOfAll 2 = .ok (.iconst 0, 1) := by decide +kernel
theorem dX12_callsOfAll_3 : decode cX12_callsOfAll 3 = .ok (.istore_n 2, 1) := by decide +kernel
theorem dX12_callsOfAll_4 : decode cX12_callsOfAll 4 = .ok (.iload_n 2, 1) := by decide +kernel
theorem dX12_callsOfAll_5 : decode cX12_callsOfAll 5 = .ok (.aload_n 0, 1) := by decide +kernel
theorem dX12_callsOfAll_6 : decode cX12_callsOfAll 6 = .ok (.getfield 152, 3) := by decide +kernel
theorem dX12_callsOfAll_9 : decode cX12_callsOfAll 9 = .ok (.if_icmp .ge 21, 3) := by decide +kernel
theorem dX12_callsOfAll_12 : decode cX12_callsOfAll 12 = .ok (.iload_n 1, 1) := by decide +kernel
theorem dX12_callsOfAll_13 : decode cX12_callsOfAll 13 = .ok (.aload_n 0, 1) := by decide +kernel
theorem dX12_callsOfAll_14 : decode cX12_callsOfAll 14 = .ok (.getfield 7, 3) := by decide +kernel
theorem dX12_callsOfAll_17 : decode cX12_callsOfAll 17 = .ok (.bipush 48, 2) := by decide +kernel
theorem dX12_callsOfAll_19 : decode cX12_callsOfAll 19 = .ok (.iload_n 2, 1) := by decide +kernel
theorem dX12_callsOfAll_20 : decode cX12_callsOfAll 20 = .ok (.iadd, 1) := by decide +kernel
theorem dX12_callsOfAll_21 : decode cX12_callsOfAll 21 = .ok (.iaload, 1) := by decide +kernel
theorem dX12_callsOfAll_22 : decode cX12_callsOfAll 22 = .ok (.iadd, 1) := by decide +kernel
theorem dX12_callsOfAll_23 : decode cX12_callsOfAll 23 = .ok (.istore_n 1, 1) := by decide +kernel
theorem dX12_callsOfAll_24 : decode cX12_callsOfAll 24 = .ok (.iinc 2 1, 3) := by decide +kernel
theorem dX12_callsOfAll_27 : decode cX12_callsOfAll 27 = .ok (.goto (-23), 3) := by decide +kernel
theorem dX12_callsOfAll_30 : decode cX12_callsOfAll 30 = .ok (.iload_n 1, 1) := by decide +kernel
theorem dX12_callsOfAll_31 : decode cX12_callsOfAll 31 = .ok (.ireturn, 1) := by decide +kernel
theorem dX12_count_0 : decode cX12_count 0 = .ok (.iload_n 1, 1) := by decide +kernel
theorem dX12_count_1 : decode cX12_count 1 = .ok (.tableswitch 95 0 7 #[47, 55, 60, 66, 72, 77, 82, 87], 47) := by decide +kernel
theorem dX12_count_48 : decode cX12_count 48 = .ok (.aload_n 0, 1) := by decide +kernel
theorem dX12_count_49 : decode cX12_count 49 = .ok (.getfield 7, 3) := by decide +kernel
theorem dX12_count_52 : decode cX12_count 52 = .ok (.bipush 80, 2) := by decide +kernel
theorem dX12_count_54 : decode cX12_count 54 = .ok (.iaload, 1) := by decide +kernel
theorem dX12_count_55 : decode cX12_count 55 = .ok (.ireturn, 1) := by decide +kernel
theorem dX12_count_56 : decode cX12_count 56 = .ok (.aload_n 0, 1) := by decide +kernel
theorem dX12_count_57 : decode cX12_count 57 = .ok (.getfield 152, 3) := by decide +kernel
theorem dX12_count_60 : decode cX12_count 60 = .ok (.ireturn, 1) := by decide +kernel
theorem dX12_count_61 : decode cX12_count 61 = .ok (.aload_n 0, 1) := by decide +kernel
theorem dX12_count_62 : decode cX12_count 62 = .ok (.iconst 2, 1) := by decide +kernel
theorem dX12_count_63 : decode cX12_count 63 = .ok (.invokevirtual 350, 3) := by decide +kernel
theorem dX12_count_66 : decode cX12_count 66 = .ok (.ireturn, 1) := by decide +kernel
theorem dX12_count_67 : decode cX12_count 67 = .ok (.aload_n 0, 1) := by decide +kernel
theorem dX12_count_68 : decode cX12_count 68 = .ok (.iconst 3, 1) := by decide +kernel
theorem dX12_count_69 : decode cX12_count 69 = .ok (.invokevirtual 350, 3) := by decide +kernel
theorem dX12_count_72 : decode cX12_count 72 = .ok (.ireturn, 1) := by decide +kernel
theorem dX12_count_73 : decode cX12_count 73 = .ok (.aload_n 0, 1) := by decide +kernel
theorem dX12_count_74 : decode cX12_count 74 = .ok (.invokevirtual 447, 3) := by decide +kernel
theorem dX12_count_77 : decode cX12_count 77 = .ok (.ireturn, 1) := by decide +kernel
theorem dX12_count_78 : decode cX12_count 78 = .ok (.aload_n 0, 1) := by decide +kernel
theorem dX12_count_79 : decode cX12_count 79 = .ok (.getfield 268, 3) := by decide +kernel
theorem dX12_count_82 : decode cX12_count 82 = .ok (.ireturn, 1) := by decide +kernel
theorem dX12_count_83 : decode cX12_count 83 = .ok (.aload_n 0, 1) := by decide +kernel
theorem dX12_count_84 : decode cX12_count 84 = .ok (.getfield 168, 3) := by decide +kernel
theorem dX12_count_87 : decode cX12_count 87 = .ok (.ireturn, 1) := by decide +kernel
theorem dX12_count_88 : decode cX12_count 88 = .ok (.aload_n 0, 1) := by decide +kernel
theorem dX12_count_89 : decode cX12_count 89 = .ok (.getfield 7, 3) := by decide +kernel
theorem dX12_count_92 : decode cX12_count 92 = .ok (.bipush 81, 2) := by decide +kernel
theorem dX12_count_94 : decode cX12_count 94 = .ok (.iaload, 1) := by decide +kernel
theorem dX12_count_95 : decode cX12_count 95 = .ok (.ireturn, 1) := by decide +kernel
theorem dX12_count_96 : decode cX12_count 96 = .ok (.iconst (-1), 1) := by decide +kernel
theorem dX12_count_97 : decode cX12_count 97 = .ok (.ireturn, 1) := by decide +kernel
theorem dL_law_0 : decode cL_law 0 = .ok (.new 7, 3) := by decide +kernel
theorem dL_law_3 : decode cL_law 3 = .ok (.dup, 1) := by decide +kernel
theorem dL_law_4 : decode cL_law 4 = .ok (.invokespecial 9, 3) := by decide +kernel
theorem dL_law_7 : decode cL_law 7 = .ok (.astore_n 1, 1) := by decide +kernel
theorem dL_law_8 : decode cL_law 8 = .ok (.new 10, 3) := by decide +kernel
theorem dL_law_11 : decode cL_law 11 = .ok (.dup, 1) := by decide +kernel
theorem dL_law_12 : decode cL_law 12 = .ok (.invokespecial 12, 3) := by decide +kernel
theorem dL_law_15 : decode cL_law 15 = .ok (.astore_n 2, 1) := by decide +kernel
theorem dL_law_16 : decode cL_law 16 = .ok (.iconst 0, 1) := by decide +kernel
theorem dL_law_17 : decode cL_law 17 = .ok (.istore_n 3, 1) := by decide +kernel
theorem dL_law_18 : decode cL_law 18 = .ok (.iload_n 3, 1) := by decide +kernel
theorem dL_law_19 : decode cL_law 19 = .ok (.aload_n 0, 1) := by decide +kernel
theorem dL_law_20 : decode cL_law 20 = .ok (.arraylength, 1) := by decide +kernel
theorem dL_law_21 : decode cL_law 21 = .ok (.bipush 6, 2) := by decide +kernel
theorem dL_law_23 : decode cL_law 23 = .ok (.isub, 1) := by decide +kernel
theorem dL_law_24 : decode cL_law 24 = .ok (.if_icmp .gt 1027, 3) := by decide +kernel
theorem dL_law_27 : decode cL_law 27 = .ok (.aload_n 0, 1) := by decide +kernel
theorem dL_law_28 : decode cL_law 28 = .ok (.iload_n 3, 1) := by decide +kernel
theorem dL_law_29 : decode cL_law 29 = .ok (.iaload, 1) := by decide +kernel
theorem dL_law_30 : decode cL_law 30 = .ok (.bipush 31, 2) := by decide +kernel
theorem dL_law_32 : decode cL_law 32 = .ok (.iand, 1) := by decide +kernel
theorem dL_law_33 : decode cL_law 33 = .ok (.tableswitch 1012 0 30 #[139, 182, 245, 268, 291, 314, 347, 380, 423, 456, 479, 502, 515, 548, 581, 604, 627, 680, 713, 736, 749, 762, 775, 808, 841, 874, 917, 940, 953, 966, 989], 139) := by decide +kernel
theorem dL_law_172 : decode cL_law 172 = .ok (.aload_n 1, 1) := by decide +kernel
theorem dL_law_173 : decode cL_law 173 = .ok (.aload_n 0, 1) := by decide +kernel
theorem dL_law_174 : decode cL_law 174 = .ok (.iload_n 3, 1) := by decide +kernel
theorem dL_law_175 : decode cL_law 175 = .ok (.iconst 1, 1) := by decide +kernel
theorem dL_law_176 : decode cL_law 176 = .ok (.iadd, 1) := by decide +kernel
theorem dL_law_177 : decode cL_law 177 = .ok (.iaload, 1) := by decide +kernel
theorem dL_law_178 : decode cL_law 178 = .ok (.aload_n 0, 1) := by decide +kernel
theorem dL_law_179 : decode cL_law 179 = .ok (.iload_n 3, 1) := by decide +kernel
theorem dL_law_180 : decode cL_law 180 = .ok (.iconst 2, 1) := by decide +kernel
theorem dL_law_181 : decode cL_law 181 = .ok (.iadd, 1) := by decide +kernel
theorem dL_law_182 : decode cL_law 182 = .ok (.iaload, 1) := by decide +kernel
theorem dL_law_183 : decode cL_law 183 = .ok (.aload_n 0, 1) := by decide +kernel
theorem dL_law_184 : decode cL_law 184 = .ok (.iload_n 3, 1) := by decide +kernel
