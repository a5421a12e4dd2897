theorem dX12_readsFactor_76 : decode cX12_readsFactor 76 = .ok (.aload_n 0, 1) := by decide +kernel
theorem dX12_readsFactor_77 : decode cX12_readsFactor 77 = .ok (.aload_n 0, 1) := by decide +kernel
theorem dX12_readsFactor_78 : decode cX12_readsFactor 78 = .ok (.getfield 175, 3) := by decide +kernel
theorem dX12_readsFactor_81 : decode cX12_readsFactor 81 = .ok (.iconst 1, 1) := by decide +kernel
theorem dX12_readsFactor_82 : decode cX12_readsFactor 82 = .ok (.iadd, 1) := by decide +kernel
theorem dX12_readsFactor_83 : decode cX12_readsFactor 83 = .ok (.putfield 175, 3) := by decide +kernel
theorem dX12_readsFactor_86 : decode cX12_readsFactor 86 = .ok (.iconst 1, 1) := by decide +kernel
theorem dX12_readsFactor_87 : decode cX12_readsFactor 87 = .ok (.ireturn, 1) := by decide +kernel
theorem dX12_hasOpenSum_0 : decode cX12_hasOpenSum 0 = .ok (.iload_n 1, 1) := by decide +kernel
theorem dX12_hasOpenSum_1 : decode cX12_hasOpenSum 1 = .ok (.istore_n 2, 1) := by decide +kernel
theorem dX12_hasOpenSum_2 : decode cX12_hasOpenSum 2 = .ok (.iload_n 2, 1) := by decide +kernel
theorem dX12_hasOpenSum_3 : decode cX12_hasOpenSum 3 = .ok (.aload_n 0, 1) := by decide +kernel
theorem dX12_hasOpenSum_4 : decode cX12_hasOpenSum 4 = .ok (.getfield 206, 3) := by decide +kernel
theorem dX12_hasOpenSum_7 : decode cX12_hasOpenSum 7 = .ok (.if_icmp .ge 25, 3) := by decide +kernel
theorem dX12_hasOpenSum_10 : decode cX12_hasOpenSum 10 = .ok (.aload_n 0, 1) := by decide +kernel
theorem dX12_hasOpenSum_11 : decode cX12_hasOpenSum 11 = .ok (.getfield 50, 3) := by decide +kernel
theorem dX12_hasOpenSum_14 : decode cX12_hasOpenSum 14 = .ok (.iload_n 2, 1) := by decide +kernel
theorem dX12_hasOpenSum_15 : decode cX12_hasOpenSum 15 = .ok (.iaload, 1) := by decide +kernel
theorem dX12_hasOpenSum_16 : decode cX12_hasOpenSum 16 = .ok (.ldc 202, 2) := by decide +kernel
theorem dX12_hasOpenSum_18 : decode cX12_hasOpenSum 18 = .ok (.idiv, 1) := by decide +kernel
theorem dX12_hasOpenSum_19 : decode cX12_hasOpenSum 19 = .ok (.bipush 14, 2) := by decide +kernel
theorem dX12_hasOpenSum_21 : decode cX12_hasOpenSum 21 = .ok (.if_icmp .ne 5, 3) := by decide +kernel
theorem dX12_hasOpenSum_24 : decode cX12_hasOpenSum 24 = .ok (.iconst 1, 1) := by decide +kernel
theorem dX12_hasOpenSum_25 : decode cX12_hasOpenSum 25 = .ok (.ireturn, 1) := by decide +kernel
theorem dX12_hasOpenSum_26 : decode cX12_hasOpenSum 26 = .ok (.iinc 2 1, 3) := by decide +kernel
theorem dX12_hasOpenSum_29 : decode cX12_hasOpenSum 29 = .ok (.goto (-27), 3) := by decide +kernel
theorem dX12_hasOpenSum_32 : decode cX12_hasOpenSum 32 = .ok (.iconst 0, 1) := by decide +kernel
theorem dX12_hasOpenSum_33 : decode cX12_hasOpenSum 33 = .ok (.ireturn, 1) := by decide +kernel
theorem dX12_readsSum_0 : decode cX12_readsSum 0 = .ok (.aload_n 0, 1) := by decide +kernel
theorem dX12_readsSum_1 : decode cX12_readsSum 1 = .ok (.getfield 206, 3) := by decide +kernel
theorem dX12_readsSum_4 : decode cX12_readsSum 4 = .ok (.istore_n 1, 1) := by decide +kernel
theorem dX12_readsSum_5 : decode cX12_readsSum 5 = .ok (.aload_n 0, 1) := by decide +kernel
theorem dX12_readsSum_6 : decode cX12_readsSum 6 = .ok (.invokevirtual 225, 3) := by decide +kernel
theorem dX12_readsSum_9 : decode cX12_readsSum 9 = .ok (.ifCond .ne 5, 3) := by decide +kernel
theorem dX12_readsSum_12 : decode cX12_readsSum 12 = .ok (.iconst 0, 1) := by decide +kernel
theorem dX12_readsSum_13 : decode cX12_readsSum 13 = .ok (.ireturn, 1) := by decide +kernel
theorem dX12_readsSum_14 : decode cX12_readsSum 14 = .ok (.aload_n 0, 1) := by decide +kernel
theorem dX12_readsSum_15 : decode cX12_readsSum 15 = .ok (.invokevirtual 181, 3) := by decide +kernel
theorem dX12_readsSum_18 : decode cX12_readsSum 18 = .ok (.invokestatic 228, 3) := by decide +kernel
theorem dX12_readsSum_21 : decode cX12_readsSum 21 = .ok (.istore_n 2, 1) := by decide +kernel
theorem dX12_readsSum_22 : decode cX12_readsSum 22 = .ok (.iload_n 2, 1) := by decide +kernel
theorem dX12_readsSum_23 : decode cX12_readsSum 23 = .ok (.iconst (-1), 1) := by decide +kernel
theorem dX12_readsSum_24 : decode cX12_readsSum 24 = .ok (.if_icmp .eq 59, 3) := by decide +kernel
theorem dX12_readsSum_27 : decode cX12_readsSum 27 = .ok (.aload_n 0, 1) := by decide +kernel
theorem dX12_readsSum_28 : decode cX12_readsSum 28 = .ok (.iload_n 2, 1) := by decide +kernel
theorem dX12_readsSum_29 : decode cX12_readsSum 29 = .ok (.iconst 4, 1) := by decide +kernel
theorem dX12_readsSum_30 : decode cX12_readsSum 30 = .ok (.if_icmp .ge 7, 3) := by decide +kernel
theorem dX12_readsSum_33 : decode cX12_readsSum 33 = .ok (.iconst 1, 1) := by decide +kernel
theorem dX12_readsSum_34 : decode cX12_readsSum 34 = .ok (.goto 4, 3) := by decide +kernel
theorem dX12_readsSum_37 : decode cX12_readsSum 37 = .ok (.iconst 0, 1) := by decide +kernel
theorem dX12_readsSum_38 : decode cX12_readsSum 38 = .ok (.invokevirtual 231, 3) := by decide +kernel
theorem dX12_readsSum_41 : decode cX12_readsSum 41 = .ok (.aload_n 0, 1) := by decide +kernel
theorem dX12_readsSum_42 : decode cX12_readsSum 42 = .ok (.getfield 50, 3) := by decide +kernel
theorem dX12_readsSum_45 : decode cX12_readsSum 45 = .ok (.aload_n 0, 1) := by decide +kernel
theorem dX12_readsSum_46 : decode cX12_readsSum 46 = .ok (.getfield 206, 3) := by decide +kernel
theorem dX12_readsSum_49 : decode cX12_readsSum 49 = .ok (.ldc 202, 2) := by decide +kernel
theorem dX12_readsSum_51 : decode cX12_readsSum 51 = .ok (.iload_n 2, 1) := by decide +kernel
theorem dX12_readsSum_52 : decode cX12_readsSum 52 = .ok (.imul, 1) := by decide +kernel
theorem dX12_readsSum_53 : decode cX12_readsSum 53 = .ok (.iastore, 1) := by decide +kernel
theorem dX12_readsSum_54 : decode cX12_readsSum 54 = .ok (.aload_n 0, 1) := by decide +kernel
theorem dX12_readsSum_55 : decode cX12_readsSum 55 = .ok (.aload_n 0, 1) := by decide +kernel
theorem dX12_readsSum_56 : decode cX12_readsSum 56 = .ok (.getfield 206, 3) := by decide +kernel
theorem dX12_readsSum_59 : decode cX12_readsSum 59 = .ok (.iconst 1, 1) := by decide +kernel
theorem dX12_readsSum_60 : decode cX12_readsSum 60 = .ok (.iadd, 1) := by decide +kernel
theorem dX12_readsSum_61 : decode cX12_readsSum 61 = .ok (.putfield 206, 3) := by decide +kernel
theorem dX12_readsSum_64 : decode cX12_readsSum 64 = .ok (.aload_n 0, 1) := by decide +kernel
theorem dX12_readsSum_65 : decode cX12_readsSum 65 = .ok (.aload_n 0, 1) := by decide +kernel
theorem dX12_readsSum_66 : decode cX12_readsSum 66 = .ok (.getfield 175, 3) := by decide +kernel
theorem dX12_readsSum_69 : decode cX12_readsSum 69 = .ok (.iconst 1, 1) := by decide +kernel
theorem dX12_readsSum_70 : decode cX12_readsSum 70 = .ok (.iadd, 1) := by decide +kernel
theorem dX12_readsSum_71 : decode cX12_readsSum 71 = .ok (.putfield 175, 3) := by decide +kernel
theorem dX12_readsSum_74 : decode cX12_readsSum 74 = .ok (.aload_n 0, 1) := by decide +kernel
theorem dX12_readsSum_75 : decode cX12_readsSum 75 = .ok (.invokevirtual 225, 3) := by decide +kernel
theorem dX12_readsSum_78 : decode cX12_readsSum 78 = .ok (.ifCond .ne 85, 3) := by decide +kernel
theorem dX12_readsSum_81 : decode cX12_readsSum 81 = .ok (.iconst 0, 1) := by decide +kernel
theorem dX12_readsSum_82 : decode cX12_readsSum 82 = .ok (.ireturn, 1) := by decide +kernel
theorem dX12_readsSum_83 : decode cX12_readsSum 83 = .ok (.aload_n 0, 1) := by decide +kernel
theorem dX12_readsSum_84 : decode cX12_readsSum 84 = .ok (.invokevirtual 181, 3) := by decide +kernel
theorem dX12_readsSum_87 : decode cX12_readsSum 87 = .ok (.bipush 93, 2) := by decide +kernel
theorem dX12_readsSum_89 : decode cX12_readsSum 89 = .ok (.if_icmp .ne 49, 3) := by decide +kernel
theorem dX12_readsSum_92 : decode cX12_readsSum 92 = .ok (.aload_n 0, 1) := by decide +kernel
theorem dX12_readsSum_93 : decode cX12_readsSum 93 = .ok (.iload_n 1, 1) := by decide +kernel
theorem dX12_readsSum_94 : decode cX12_readsSum 94 = .ok (.invokevirtual 235, 3) := by decide +kernel
theorem dX12_readsSum_97 : decode cX12_readsSum 97 = .ok (.ifCond .eq 41, 3) := by decide +kernel
theorem dX12_readsSum_100 : decode cX12_readsSum 100 = .ok (.aload_n 0, 1) := by decide +kernel
theorem dX12_readsSum_101 : decode cX12_readsSum 101 = .ok (.iconst 1, 1) := by decide +kernel
theorem dX12_readsSum_102 : decode cX12_readsSum 102 = .ok (.invokevirtual 231, 3) := by decide +kernel
theorem dX12_readsSum_105 : decode cX12_readsSum 105 = .ok (.aload_n 0, 1) := by decide +kernel
theorem dX12_readsSum_106 : decode cX12_readsSum 106 = .ok (.aload_n 0, 1) := by decide +kernel
theorem dX12_readsSum_107 : decode cX12_readsSum 107 = .ok (.getfield 206, 3) := by decide +kernel
theorem dX12_readsSum_110 : decode cX12_readsSum 110 = .ok (.iconst 1, 1) := by decide +kernel
theorem dX12_readsSum_111 : decode cX12_readsSum 111 = .ok (.isub, 1) := by decide +kernel
theorem dX12_readsSum_112 : decode cX12_readsSum 112 = .ok (.putfield 206, 3) := by decide +kernel
theorem dX12_readsSum_115 : decode cX12_readsSum 115 = .ok (.aload_n 0, 1) := by decide +kernel
theorem dX12_readsSum_116 : decode cX12_readsSum 116 = .ok (.aload_n 0, 1) := by decide +kernel
theorem dX12_readsSum_117 : decode cX12_readsSum 117 = .ok (.getfield 203, 3) := by decide +kernel
theorem dX12_readsSum_120 : decode cX12_readsSum 120 = .ok (.iconst 1, 1) := by decide +kernel
theorem dX12_readsSum_121 : decode cX12_readsSum 121 = .ok (.isub, 1) := by decide +kernel
theorem dX12_readsSum_122 : decode cX12_readsSum 122 = .ok (.putfield 203, 3) := by decide +kernel
theorem dX12_readsSum_125 : decode cX12_readsSum 125 = .ok (.aload_n 0, 1) := by decide +kernel
theorem dX12_readsSum_126 : decode cX12_readsSum 126 = .ok (.aload_n 0, 1) := by decide +kernel
theorem dX12_readsSum_127 : decode cX12_readsSum 127 = .ok (.getfield 175, 3) := by decide +kernel
theorem dX12_readsSum_130 : decode cX12_readsSum 130 = .ok (.iconst 1, 1) := by decide +kernel
theorem dX12_readsSum_131 : decode cX12_readsSum 131 = .ok (.iadd, 1) := by decide +kernel
theorem dX12_readsSum_132 : decode cX12_readsSum 132 = .ok (.putfield 175, 3) := by decide +kernel
theorem dX12_readsSum_135 : decode cX12_readsSum 135 = .ok (.goto 28, 3) := by decide +kernel
theorem dX12_readsSum_138 : decode cX12_readsSum 138 = .ok (.aload_n 0, 1) := by decide +kernel
theorem dX12_readsSum_139 : decode cX12_readsSum 139 = .ok (.iload_n 1, 1) := by decide +kernel
theorem dX12_readsSum_140 : decode cX12_readsSum 140 = .ok (.invokevirtual 235, 3) := by decide +kernel
theorem dX12_readsSum_143 : decode cX12_readsSum 143 = .ok (.ifCond .eq 13, 3) := by decide +kernel
theorem dX12_readsSum_146 : decode cX12_readsSum 146 = .ok (.aload_n 0, 1) := by decide +kernel
theorem dX12_readsSum_147 : decode cX12_readsSum 147 = .ok (.iconst 1, 1) := by decide +kernel
theorem dX12_readsSum_148 : decode cX12_readsSum 148 = .ok (.aload_n 0, 1) := by decide +kernel
theorem dX12_readsSum_149 : decode cX12_readsSum 149 = .ok (.getfield 175, 3) := by decide +kernel
theorem dX12_readsSum_152 : decode cX12_readsSum 152 = .ok (.invokevirtual 188, 3) := by decide +kernel
theorem dX12_readsSum_155 : decode cX12_readsSum 155 = .ok (.ireturn, 1) := by decide +kernel
theorem dX12_readsSum_156 : decode cX12_readsSum 156 = .ok (.aload_n 0, 1) := by decide +kernel
theorem dX12_readsSum_157 : decode cX12_readsSum 157 = .ok (.iconst 1, 1) := by decide +kernel
theorem dX12_readsSum_158 : decode cX12_readsSum 158 = .ok (.invokevirtual 231, 3) := by decide +kernel
theorem dX12_readsSum_161 : decode cX12_readsSum 161 = .ok (.iconst 1, 1) := by decide +kernel
theorem dX12_readsSum_162 : decode cX12_readsSum 162 = .ok (.ireturn, 1) := by decide +kernel
theorem dX12_readsSum_163 : decode cX12_readsSum 163 = .ok (.goto (-149), 3) := by decide +kernel
theorem dX12_endsPiece_0 : decode cX12_endsPiece 0 = .ok (.aload_n 0, 1) := by decide +kernel
theorem dX12_endsPiece_1 : decode cX12_endsPiece 1 = .ok (.invokevirtual 209, 3) := by decide +kernel
theorem dX12_endsPiece_4 : decode cX12_endsPiece 4 = .ok (.bipush 10, 2) := by decide +kernel
theorem dX12_endsPiece_6 : decode cX12_endsPiece 6 = .ok (.if_icmp .ne 33, 3) := by decide +kernel
theorem dX12_endsPiece_9 : decode cX12_endsPiece 9 = .ok (.aload_n 0, 1) := by decide +kernel
theorem dX12_endsPiece_10 : decode cX12_endsPiece 10 = .ok (.bipush 10, 2) := by decide +kernel
theorem dX12_endsPiece_12 : decode cX12_endsPiece 12 = .ok (.iconst 0, 1) := by decide +kernel
theorem dX12_endsPiece_13 : decode cX12_endsPiece 13 = .ok (.invokevirtual 212, 3) := by decide +kernel
theorem dX12_endsPiece_16 : decode cX12_endsPiece 16 = .ok (.aload_n 0, 1) := by decide +kernel
theorem dX12_endsPiece_17 : decode cX12_endsPiece 17 = .ok (.aload_n 0, 1) := by decide +kernel
theorem dX12_endsPiece_18 : decode cX12_endsPiece 18 = .ok (.getfield 206, 3) := by decide +kernel
theorem dX12_endsPiece_21 : decode cX12_endsPiece 21 = .ok (.iconst 1, 1) := by decide +kernel
theorem dX12_endsPiece_22 : decode cX12_endsPiece 22 = .ok (.isub, 1) := by decide +kernel
theorem dX12_endsPiece_23 : decode cX12_endsPiece 23 = .ok (.putfield 206, 3) := by decide +kernel
theorem dX12_endsPiece_26 : decode cX12_endsPiece 26 = .ok (.aload_n 0, 1) := by decide +kernel
theorem dX12_endsPiece_27 : decode cX12_endsPiece 27 = .ok (.aload_n 0, 1) := by decide +kernel
theorem dX12_endsPiece_28 : decode cX12_endsPiece 28 = .ok (.getfield 203, 3) := by decide +kernel
theorem dX12_endsPiece_31 : decode cX12_endsPiece 31 = .ok (.iconst 1, 1) := by decide +kernel
theorem dX12_endsPiece_32 : decode cX12_endsPiece 32 = .ok (.isub, 1) := by decide +kernel
theorem dX12_endsPiece_33 : decode cX12_endsPiece 33 = .ok (.putfield 203, 3) := by decide +kernel
theorem dX12_endsPiece_36 : decode cX12_endsPiece 36 = .ok (.goto (-36), 3) := by decide +kernel
theorem dX12_endsPiece_39 : decode cX12_endsPiece 39 = .ok (.return_, 1) := by decide +kernel
theorem dX12_lands_0 : decode cX12_lands 0 = .ok (.aload_n 0, 1) := by decide +kernel
theorem dX12_lands_1 : decode cX12_lands 1 = .ok (.invokevirtual 209, 3) := by decide +kernel
theorem dX12_lands_4 : decode cX12_lands 4 = .ok (.bipush 11, 2) := by decide +kernel
theorem dX12_lands_6 : decode cX12_lands 6 = .ok (.if_icmp .eq 16, 3) := by decide +kernel
theorem dX12_lands_9 : decode cX12_lands 9 = .ok (.iload_n 1, 1) := by decide +kernel
theorem dX12_lands_10 : decode cX12_lands 10 = .ok (.ifCond .eq 63, 3) := by decide +kernel
theorem dX12_lands_13 : decode cX12_lands 13 = .ok (.aload_n 0, 1) := by decide +kernel
theorem dX12_lands_14 : decode cX12_lands 14 = .ok (.invokevirtual 209, 3) := by decide +kernel
theorem dX12_lands_17 : decode cX12_lands 17 = .ok (.bipush 12, 2) := by decide +kernel
theorem dX12_lands_19 : decode cX12_lands 19 = .ok (.if_icmp .ne 54, 3) := by decide +kernel
theorem dX12_lands_22 : decode cX12_lands 22 = .ok (.aload_n 0, 1) := by decide +kernel
theorem dX12_lands_23 : decode cX12_lands 23 = .ok (.getfield 50, 3) := by decide +kernel
theorem dX12_lands_26 : decode cX12_lands 26 = .ok (.aload_n 0, 1) := by decide +kernel
theorem dX12_lands_27 : decode cX12_lands 27 = .ok (.getfield 206, 3) := by decide +kernel
theorem dX12_lands_30 : decode cX12_lands 30 = .ok (.iconst 1, 1) := by decide +kernel
theorem dX12_lands_31 : decode cX12_lands 31 = .ok (.isub, 1) := by decide +kernel
theorem dX12_lands_32 : decode cX12_lands 32 = .ok (.iaload, 1) := by decide +kernel
theorem dX12_lands_33 : decode cX12_lands 33 = .ok (.ldc 202, 2) := by decide +kernel
theorem dX12_lands_35 : decode cX12_lands 35 = .ok (.irem, 1) := by decide +kernel
theorem dX12_lands_36 : decode cX12_lands 36 = .ok (.istore_n 2, 1) := by decide +kernel
theorem dX12_lands_37 : decode cX12_lands 37 = .ok (.aload_n 0, 1) := by decide +kernel
theorem dX12_lands_38 : decode cX12_lands 38 = .ok (.getfield 47, 3) := by decide +kernel
theorem dX12_lands_41 : decode cX12_lands 41 = .ok (.iload_n 2, 1) := by decide +kernel
theorem dX12_lands_42 : decode cX12_lands 42 = .ok (.ldc 202, 2) := by decide +kernel
theorem dX12_lands_44 : decode cX12_lands 44 = .ok (.aload_n 0, 1) := by decide +kernel
theorem dX12_lands_45 : decode cX12_lands 45 = .ok (.getfield 47, 3) := by decide +kernel
theorem dX12_lands_48 : decode cX12_lands 48 = .ok (.iload_n 2, 1) := by decide +kernel
theorem dX12_lands_49 : decode cX12_lands 49 = .ok (.iaload, 1) := by decide +kernel
theorem dX12_lands_50 : decode cX12_lands 50 = .ok (.ldc 202, 2) := by decide +kernel
theorem dX12_lands_52 : decode cX12_lands 52 = .ok (.idiv, 1) := by decide +kernel
theorem dX12_lands_53 : decode cX12_lands 53 = .ok (.imul, 1) := by decide +kernel
theorem dX12_lands_54 : decode cX12_lands 54 = .ok (.aload_n 0, 1) := by decide +kernel
theorem dX12_lands_55 : decode cX12_lands 55 = .ok (.getfield 199, 3) := by decide +kernel
theorem dX12_lands_58 : decode cX12_lands 58 = .ok (.iadd, 1) := by decide +kernel
theorem dX12_lands_59 : decode cX12_lands 59 = .ok (.iastore, 1) := by decide +kernel
theorem dX12_lands_60 : decode cX12_lands 60 = .ok (.aload_n 0, 1) := by decide +kernel
theorem dX12_lands_61 : decode cX12_lands 61 = .ok (.aload_n 0, 1) := by decide +kernel
theorem dX12_lands_62 : decode cX12_lands 62 = .ok (.getfield 206, 3) := by decide +kernel
theorem dX12_lands_65 : decode cX12_lands 65 = .ok (.iconst 1, 1) := by decide +kernel
theorem dX12_lands_66 : decode cX12_lands 66 = .ok (.isub, 1) := by decide +kernel
theorem dX12_lands_67 : decode cX12_lands 67 = .ok (.putfield 206, 3) := by decide +kernel
theorem dX12_lands_70 : decode cX12_lands 70 = .ok (.goto (-70), 3) := by decide +kernel
theorem dX12_lands_73 : decode cX12_lands 73 = .ok (.return_, 1) := by decide +kernel
theorem dX12_jumps_0 : decode cX12_jumps 0 = .ok (.aload_n 0, 1) := by decide +kernel
theorem dX12_jumps_1 : decode cX12_jumps 1 = .ok (.getfield 50, 3) := by decide +kernel
theorem dX12_jumps_4 : decode cX12_jumps 4 = .ok (.aload_n 0, 1) := by decide +kernel
theorem dX12_jumps_5 : decode cX12_jumps 5 = .ok (.getfield 206, 3) := by decide +kernel
theorem dX12_jumps_8 : decode cX12_jumps 8 = .ok (.ldc 202, 2) := by decide +kernel
theorem dX12_jumps_10 : decode cX12_jumps 10 = .ok (.iload_n 1, 1) := by decide +kernel
theorem dX12_jumps_11 : decode cX12_jumps 11 = .ok (.imul, 1) := by decide +kernel
theorem dX12_jumps_12 : decode cX12_jumps 12 = .ok (.aload_n 0, 1) := by decide +kernel
theorem dX12_jumps_13 : decode cX12_jumps 13 = .ok (.getfield 199, 3) := by decide +kernel
theorem dX12_jumps_16 : decode cX12_jumps 16 = .ok (.iadd, 1) := by decide +kernel
theorem dX12_jumps_17 : decode cX12_jumps 17 = .ok (.iastore, 1) := by decide +kernel
theorem dX12_jumps_18 : decode cX12_jumps 18 = .ok (.aload_n 0, 1) := by decide +kernel
theorem dX12_jumps_19 : decode cX12_jumps 19 = .ok (.aload_n 0, 1) := by decide +kernel
theorem dX12_jumps_20 : decode cX12_jumps 20 = .ok (.getfield 206, 3) := by decide +kernel
theorem dX12_jumps_23 : decode cX12_jumps 23 = .ok (.iconst 1, 1) := by decide +kernel
theorem dX12_jumps_24 : decode cX12_jumps 24 = .ok (.iadd, 1) := by decide +kernel
theorem dX12_jumps_25 : decode cX12_jumps 25 = .ok (.putfield 206, 3) := by decide +kernel
theorem dX12_jumps_28 : decode cX12_jumps 28 = .ok (.aload_n 0, 1) := by decide +kernel
theorem dX12_jumps_29 : decode cX12_jumps 29 = .ok (.iload_n 1, 1) := by decide +kernel
theorem dX12_jumps_30 : decode cX12_jumps 30 = .ok (.iconst 0, 1) := by decide +kernel
theorem dX12_jumps_31 : decode cX12_jumps 31 = .ok (.invokevirtual 212, 3) := by decide +kernel
theorem dX12_jumps_34 : decode cX12_jumps 34 = .ok (.aload_n 0, 1) := by decide +kernel
theorem dX12_jumps_35 : decode cX12_jumps 35 = .ok (.aload_n 0, 1) := by decide +kernel
theorem dX12_jumps_36 : decode cX12_jumps 36 = .ok (.getfield 175, 3) := by decide +kernel
theorem dX12_jumps_39 : decode cX12_jumps 39 = .ok (.iconst 1, 1) := by decide +kernel
theorem dX12_jumps_40 : decode cX12_jumps 40 = .ok (.iadd, 1) := by decide +kernel
theorem dX12_jumps_41 : decode cX12_jumps 41 = .ok (.putfield 175, 3) := by decide +kernel
theorem dX12_jumps_44 : decode cX12_jumps 44 = .ok (.return_, 1) := by decide +kernel
theorem dX12_readsCompared_0 : decode cX12_readsCompared 0 = .ok (.aload_n 0, 1) := by decide +kernel
theorem dX12_readsCompared_1 : decode cX12_readsCompared 1 = .ok (.invokevirtual 238, 3) := by decide +kernel
theorem dX12_readsCompared_4 : decode cX12_readsCompared 4 = .ok (.ifCond .ne 5, 3) := by decide +kernel
theorem dX12_readsCompared_7 : decode cX12_readsCompared 7 = .ok (.iconst 0, 1) := by decide +kernel
theorem dX12_readsCompared_8 : decode cX12_readsCompared 8 = .ok (.ireturn, 1) := by decide +kernel
theorem dX12_readsCompared_9 : decode cX12_readsCompared 9 = .ok (.aload_n 0, 1) := by decide +kernel
theorem dX12_readsCompared_10 : decode cX12_readsCompared 10 = .ok (.invokevirtual 181, 3) := by decide +kernel
theorem dX12_readsCompared_13 : decode cX12_readsCompared 13 = .ok (.bipush 60, 2) := by decide +kernel
theorem dX12_readsCompared_15 : decode cX12_readsCompared 15 = .ok (.if_icmp .ne 8, 3) := by decide +kernel
theorem dX12_readsCompared_18 : decode cX12_readsCompared 18 = .ok (.bipush 7, 2) := by decide +kernel
theorem dX12_readsCompared_20 : decode cX12_readsCompared 20 = .ok (.goto 32, 3) := by decide +kernel
theorem dX12_readsCompared_23 : decode cX12_readsCompared 23 = .ok (.aload_n 0, 1) := by decide +kernel
theorem dX12_readsCompared_24 : decode cX12_readsCompared 24 = .ok (.invokevirtual 181, 3) := by decide +kernel
theorem dX12_readsCompared_27 : decode cX12_readsCompared 27 = .ok (.bipush 62, 2) := by decide +kernel
theorem dX12_readsCompared_29 : decode cX12_readsCompared 29 = .ok (.if_icmp .ne 8, 3) := by decide +kernel
theorem dX12_readsCompared_32 : decode cX12_readsCompared 32 = .ok (.bipush 8, 2) := by decide +kernel
theorem dX12_readsCompared_34 : decode cX12_readsCompared 34 = .ok (.goto 18, 3) := by decide +kernel
theorem dX12_readsCompared_37 : decode cX12_readsCompared 37 = .ok (.aload_n 0, 1) := by decide +kernel
theorem dX12_readsCompared_38 : decode cX12_readsCompared 38 = .ok (.invokevirtual 181, 3) := by decide +kernel
theorem dX12_readsCompared_41 : decode cX12_readsCompared 41 = .ok (.bipush 61, 2) := by decide +kernel
theorem dX12_readsCompared_43 : decode cX12_readsCompared 43 = .ok (.if_icmp .ne 8, 3) := by decide +kernel
theorem dX12_readsCompared_46 : decode cX12_readsCompared 46 = .ok (.bipush 9, 2) := by decide +kernel
theorem dX12_readsCompared_48 : decode cX12_readsCompared 48 = .ok (.goto 4, 3) := by decide +kernel
theorem dX12_readsCompared_51 : decode cX12_readsCompared 51 = .ok (.iconst (-1), 1) := by decide +kernel
theorem dX12_readsCompared_52 : decode cX12_readsCompared 52 = .ok (.istore_n 1, 1) := by decide +kernel
theorem dX12_readsCompared_53 : decode cX12_readsCompared 53 = .ok (.iload_n 1, 1) := by decide +kernel
theorem dX12_readsCompared_54 : decode cX12_readsCompared 54 = .ok (.iconst (-1), 1) := by decide +kernel
theorem dX12_readsCompared_55 : decode cX12_readsCompared 55 = .ok (.if_icmp .ne 13, 3) := by decide +kernel
theorem dX12_readsCompared_58 : decode cX12_readsCompared 58 = .ok (.aload_n 0, 1) := by decide +kernel
theorem dX12_readsCompared_59 : decode cX12_readsCompared 59 = .ok (.iconst 1, 1) := by decide +kernel
theorem dX12_readsCompared_60 : decode cX12_readsCompared 60 = .ok (.aload_n 0, 1) := by decide +kernel
theorem dX12_readsCompared_61 : decode cX12_readsCompared 61 = .ok (.getfield 175, 3) := by decide +kernel
theorem dX12_readsCompared_64 : decode cX12_readsCompared 64 = .ok (.invokevirtual 188, 3) := by decide +kernel
theorem dX12_readsCompared_67 : decode cX12_readsCompared 67 = .ok (.ireturn, 1) := by decide +kernel
theorem dX12_readsCompared_68 : decode cX12_readsCompared 68 = .ok (.aload_n 0, 1) := by decide +kernel
theorem dX12_readsCompared_69 : decode cX12_readsCompared 69 = .ok (.aload_n 0, 1) := by decide +kernel
theorem dX12_readsCompared_70 : decode cX12_readsCompared 70 = .ok (.getfield 175, 3) := by decide +kernel
theorem dX12_readsCompared_73 : decode cX12_readsCompared 73 = .ok (.iconst 1, 1) := by decide +kernel
theorem dX12_readsCompared_74 : decode cX12_readsCompared 74 = .ok (.iadd, 1) := by decide +kernel
theorem dX12_readsCompared_75 : decode cX12_readsCompared 75 = .ok (.putfield 175, 3) := by decide +kernel
theorem dX12_readsCompared_78 : decode cX12_readsCompared 78 = .ok (.aload_n 0, 1) := by decide +kernel
theorem dX12_readsCompared_79 : decode cX12_readsCompared 79 = .ok (.invokevirtual 238, 3) := by decide +kernel
theorem dX12_readsCompared_82 : decode cX12_readsCompared 82 = .ok (.ifCond .ne 5, 3) := by decide +kernel
theorem dX12_readsCompared_85 : decode cX12_readsCompared 85 = .ok (.iconst 0, 1) := by decide +kernel
theorem dX12_readsCompared_86 : decode cX12_readsCompared 86 = .ok (.ireturn, 1) := by decide +kernel
theorem dX12_readsCompared_87 : decode cX12_readsCompared 87 = .ok (.aload_n 0, 1) := by decide +kernel
theorem dX12_readsCompared_88 : decode cX12_readsCompared 88 = .ok (.iload_n 1, 1) := by decide +kernel
theorem dX12_readsCompared_89 : decode cX12_readsCompared 89 = .ok (.iconst 0, 1) := by decide +kernel
theorem dX12_readsCompared_90 : decode cX12_readsCompared 90 = .ok (.invokevirtual 212, 3) := by decide +kernel
theorem dX12_readsCompared_93 : decode cX12_readsCompared 93 = .ok (.aload_n 0, 1) := by decide +kernel
theorem dX12_readsCompared_94 : decode cX12_readsCompared 94 = .ok (.invokevirtual 241, 3) := by decide +kernel
theorem dX12_readsCompared_97 : decode cX12_readsCompared 97 = .ok (.iconst 1, 1) := by decide +kernel
theorem dX12_readsCompared_98 : decode cX12_readsCompared 98 = .ok (.ireturn, 1) := by decide +kernel
theorem dX12_readsCondition_0 : decode cX12_readsCondition 0 = .ok (.aload_n 0, 1) := by decide +kernel
theorem dX12_readsCondition_1 : decode cX12_readsCondition 1 = .ok (.invokevirtual 181, 3) := by decide +kernel
theorem dX12_readsCondition_4 : decode cX12_readsCondition 4 = .ok (.bipush 40, 2) := by decide +kernel
theorem dX12_readsCondition_6 : decode cX12_readsCondition 6 = .ok (.if_icmp .eq 13, 3) := by decide +kernel
theorem dX12_readsCondition_9 : decode cX12_readsCondition 9 = .ok (.aload_n 0, 1) := by decide +kernel
theorem dX12_readsCondition_10 : decode cX12_readsCondition 10 = .ok (.iconst 1, 1) := by decide +kernel
theorem dX12_readsCondition_11 : decode cX12_readsCondition 11 = .ok (.aload_n 0, 1) := by decide +kernel
theorem dX12_readsCondition_12 : decode cX12_readsCondition 12 = .ok (.getfield 175, 3) := by decide +kernel
theorem dX12_readsCondition_15 : decode cX12_readsCondition 15 = .ok (.invokevirtual 188, 3) := by decide +kernel
theorem dX12_readsCondition_18 : decode cX12_readsCondition 18 = .ok (.ireturn, 1) := by decide +kernel
theorem dX12_readsCondition_19 : decode cX12_readsCondition 19 = .ok (.aload_n 0, 1) := by decide +kernel
theorem dX12_readsCondition_20 : decode cX12_readsCondition 20 = .ok (.iconst 0, 1) := by decide +kernel
theorem dX12_readsCondition_21 : decode cX12_readsCondition 21 = .ok (.putfield 203, 3) := by decide +kernel
theorem dX12_readsCondition_24 : decode cX12_readsCondition 24 = .ok (.aload_n 0, 1) := by decide +kernel
theorem dX12_readsCondition_25 : decode cX12_readsCondition 25 = .ok (.iconst 0, 1) := by decide +kernel
theorem dX12_readsCondition_26 : decode cX12_readsCondition 26 = .ok (.putfield 206, 3) := by decide +kernel
theorem dX12_readsCondition_29 : decode cX12_readsCondition 29 = .ok (.aload_n 0, 1) := by decide +kernel
theorem dX12_readsCondition_30 : decode cX12_readsCondition 30 = .ok (.bipush 13, 2) := by decide +kernel
theorem dX12_readsCondition_32 : decode cX12_readsCondition 32 = .ok (.invokevirtual 216, 3) := by decide +kernel
theorem dX12_readsCondition_35 : decode cX12_readsCondition 35 = .ok (.ifCond .ne 5, 3) := by decide +kernel
theorem dX12_readsCondition_38 : decode cX12_readsCondition 38 = .ok (.iconst 0, 1) := by decide +kernel
theorem dX12_readsCondition_39 : decode cX12_readsCondition 39 = .ok (.ireturn, 1) := by decide +kernel
theorem dX12_readsCondition_40 : decode cX12_readsCondition 40 = .ok (.aload_n 0, 1) := by decide +kernel
theorem dX12_readsCondition_41 : decode cX12_readsCondition 41 = .ok (.invokevirtual 181, 3) := by decide +kernel
theorem dX12_readsCondition_44 : decode cX12_readsCondition 44 = .ok (.bipush 33, 2) := by decide +kernel
theorem dX12_readsCondition_46 : decode cX12_readsCondition 46 = .ok (.if_icmp .eq 12, 3) := by decide +kernel
theorem dX12_readsCondition_49 : decode cX12_readsCondition 49 = .ok (.aload_n 0, 1) := by decide +kernel
theorem dX12_readsCondition_50 : decode cX12_readsCondition 50 = .ok (.invokevirtual 181, 3) := by decide +kernel
theorem dX12_readsCondition_53 : decode cX12_readsCondition 53 = .ok (.bipush 40, 2) := by decide +kernel
theorem dX12_readsCondition_55 : decode cX12_readsCondition 55 = .ok (.if_icmp .ne 28, 3) := by decide +kernel
theorem dX12_readsCondition_58 : decode cX12_readsCondition 58 = .ok (.aload_n 0, 1) := by decide +kernel
theorem dX12_readsCondition_59 : decode cX12_readsCondition 59 = .ok (.aload_n 0, 1) := by decide +kernel
theorem dX12_readsCondition_60 : decode cX12_readsCondition 60 = .ok (.invokevirtual 181, 3) := by decide +kernel
theorem dX12_readsCondition_63 : decode cX12_readsCondition 63 = .ok (.bipush 33, 2) := by decide +kernel
theorem dX12_readsCondition_65 : decode cX12_readsCondition 65 = .ok (.if_icmp .ne 8, 3) := by decide +kernel
theorem dX12_readsCondition_68 : decode cX12_readsCondition 68 = .ok (.bipush 10, 2) := by decide +kernel
theorem dX12_readsCondition_70 : decode cX12_readsCondition 70 = .ok (.goto 5, 3) := by decide +kernel
theorem dX12_readsCondition_73 : decode cX12_readsCondition 73 = .ok (.bipush 13, 2) := by decide +kernel
theorem dX12_readsCondition_75 : decode cX12_readsCondition 75 = .ok (.invokevirtual 216, 3) := by decide +kernel
theorem dX12_readsCondition_78 : decode cX12_readsCondition 78 = .ok (.ifCond .ne (-38), 3) := by decide +kernel
theorem dX12_readsCondition_81 : decode cX12_readsCondition 81 = .ok (.iconst 0, 1) := by decide +kernel
theorem dX12_readsCondition_82 : decode cX12_readsCondition 82 = .ok (.ireturn, 1) := by decide +kernel
theorem dX12_readsCondition_83 : decode cX12_readsCondition 83 = .ok (.aload_n 0, 1) := by decide +kernel
theorem dX12_readsCondition_84 : decode cX12_readsCondition 84 = .ok (.invokevirtual 244, 3) := by decide +kernel
theorem dX12_readsCondition_87 : decode cX12_readsCondition 87 = .ok (.ifCond .ne 5, 3) := by decide +kernel
theorem dX12_readsCondition_90 : decode cX12_readsCondition 90 = .ok (.iconst 0, 1) := by decide +kernel
theorem dX12_readsCondition_91 : decode cX12_readsCondition 91 = .ok (.ireturn, 1) := by decide +kernel
theorem dX12_readsCondition_92 : decode cX12_readsCondition 92 = .ok (.aload_n 0, 1) := by decide +kernel
theorem dX12_readsCondition_93 : decode cX12_readsCondition 93 = .ok (.invokevirtual 181, 3) := by decide +kernel
theorem dX12_readsCondition_96 : decode cX12_readsCondition 96 = .ok (.bipush 41, 2) := by decide +kernel
theorem dX12_readsCondition_98 : decode cX12_readsCondition 98 = .ok (.if_icmp .ne 54, 3) := by decide +kernel
theorem dX12_readsCondition_101 : decode cX12_readsCondition 101 = .ok (.aload_n 0, 1) := by decide +kernel
theorem dX12_readsCondition_102 : decode cX12_readsCondition 102 = .ok (.iconst 1, 1) := by decide +kernel
theorem dX12_readsCondition_103 : decode cX12_readsCondition 103 = .ok (.invokevirtual 247, 3) := by decide +kernel
theorem dX12_readsCondition_106 : decode cX12_readsCondition 106 = .ok (.aload_n 0, 1) := by decide +kernel
theorem dX12_readsCondition_107 : decode cX12_readsCondition 107 = .ok (.aload_n 0, 1) := by decide +kernel
theorem dX12_readsCondition_108 : decode cX12_readsCondition 108 = .ok (.getfield 206, 3) := by decide +kernel
theorem dX12_readsCondition_111 : decode cX12_readsCondition 111 = .ok (.iconst 1, 1) := by decide +kernel
theorem dX12_readsCondition_112 : decode cX12_readsCondition 112 = .ok (.isub, 1) := by decide +kernel
theorem dX12_readsCondition_113 : decode cX12_readsCondition 113 = .ok (.putfield 206, 3) := by decide +kernel
theorem dX12_readsCondition_116 : decode cX12_readsCondition 116 = .ok (.aload_n 0, 1) := by decide +kernel
theorem dX12_readsCondition_117 : decode cX12_readsCondition 117 = .ok (.aload_n 0, 1) := by decide +kernel
theorem dX12_readsCondition_118 : decode cX12_readsCondition 118 = .ok (.getfield 203, 3) := by decide +kernel
theorem dX12_readsCondition_121 : decode cX12_readsCondition 121 = .ok (.iconst 1, 1) := by decide +kernel
theorem dX12_readsCondition_122 : decode cX12_readsCondition 122 = .ok (.isub, 1) := by decide +kernel
theorem dX12_readsCondition_123 : decode cX12_readsCondition 123 = .ok (.putfield 203, 3) := by decide +kernel
theorem dX12_readsCondition_126 : decode cX12_readsCondition 126 = .ok (.aload_n 0, 1) := by decide +kernel
theorem dX12_readsCondition_127 : decode cX12_readsCondition 127 = .ok (.aload_n 0, 1) := by decide +kernel
theorem dX12_readsCondition_128 : decode cX12_readsCondition 128 = .ok (.getfield 175, 3) := by decide +kernel
theorem dX12_readsCondition_131 : decode cX12_readsCondition 131 = .ok (.iconst 1, 1) := by decide +kernel
theorem dX12_readsCondition_132 : decode cX12_readsCondition 132 = .ok (.iadd, 1) := by decide +kernel
theorem dX12_readsCondition_133 : decode cX12_readsCondition 133 = .ok (.putfield 175, 3) := by decide +kernel
theorem dX12_readsCondition_136 : decode cX12_readsCondition 136 = .ok (.aload_n 0, 1) := by decide +kernel
theorem dX12_readsCondition_137 : decode cX12_readsCondition 137 = .ok (.getfield 206, 3) := by decide +kernel
theorem dX12_readsCondition_140 : decode cX12_readsCondition 140 = .ok (.ifCond .ne 5, 3) := by decide +kernel
theorem dX12_readsCondition_143 : decode cX12_readsCondition 143 = .ok (.iconst 1, 1) := by decide +kernel
theorem dX12_readsCondition_144 : decode cX12_readsCondition 144 = .ok (.ireturn, 1) := by decide +kernel
theorem dX12_readsCondition_145 : decode cX12_readsCondition 145 = .ok (.aload_n 0, 1) := by decide +kernel
theorem dX12_readsCondition_146 : decode cX12_readsCondition 146 = .ok (.invokevirtual 241, 3) := by decide +kernel
theorem dX12_readsCondition_149 : decode cX12_readsCondition 149 = .ok (.goto (-57), 3) := by decide +kernel
theorem dX12_readsCondition_152 : decode cX12_readsCondition 152 = .ok (.aload_n 0, 1) := by decide +kernel
theorem dX12_readsCondition_153 : decode cX12_readsCondition 153 = .ok (.invokevirtual 181, 3) := by decide +kernel
theorem dX12_readsCondition_156 : decode cX12_readsCondition 156 = .ok (.bipush 38, 2) := by decide +kernel
theorem dX12_readsCondition_158 : decode cX12_readsCondition 158 = .ok (.if_icmp .eq 22, 3) := by decide +kernel
theorem dX12_readsCondition_161 : decode cX12_readsCondition 161 = .ok (.aload_n 0, 1) := by decide +kernel
theorem dX12_readsCondition_162 : decode cX12_readsCondition 162 = .ok (.invokevirtual 181, 3) := by decide +kernel
theorem dX12_readsCondition_165 : decode cX12_readsCondition 165 = .ok (.bipush 124, 2) := by decide +kernel
theorem dX12_readsCondition_167 : decode cX12_readsCondition 167 = .ok (.if_icmp .eq 13, 3) := by decide +kernel
theorem dX12_readsCondition_170 : decode cX12_readsCondition 170 = .ok (.aload_n 0, 1) := by decide +kernel
theorem dX12_readsCondition_171 : decode cX12_readsCondition 171 = .ok (.iconst 1, 1) := by decide +kernel
theorem dX12_readsCondition_172 : decode cX12_readsCondition 172 = .ok (.aload_n 0, 1) := by decide +kernel
theorem dX12_readsCondition_173 : decode cX12_readsCondition 173 = .ok (.getfield 175, 3) := by decide +kernel
theorem dX12_readsCondition_176 : decode cX12_readsCondition 176 = .ok (.invokevirtual 188, 3) := by decide +kernel
theorem dX12_readsCondition_179 : decode cX12_readsCondition 179 = .ok (.ireturn, 1) := by decide +kernel
theorem dX12_readsCondition_180 : decode cX12_readsCondition 180 = .ok (.aload_n 0, 1) := by decide +kernel
theorem dX12_readsCondition_181 : decode cX12_readsCondition 181 = .ok (.aload_n 0, 1) := by decide +kernel
theorem dX12_readsCondition_182 : decode cX12_readsCondition 182 = .ok (.invokevirtual 181, 3) := by decide +kernel
theorem dX12_readsCondition_185 : decode cX12_readsCondition 185 = .ok (.bipush 124, 2) := by decide +kernel
theorem dX12_readsCondition_187 : decode cX12_readsCondition 187 = .ok (.if_icmp .ne 7, 3) := by decide +kernel
theorem dX12_readsCondition_190 : decode cX12_readsCondition 190 = .ok (.iconst 1, 1) := by decide +kernel
theorem dX12_readsCondition_191 : decode cX12_readsCondition 191 = .ok (.goto 4, 3) := by decide +kernel
theorem dX12_readsCondition_194 : decode cX12_readsCondition 194 = .ok (.iconst 0, 1) := by decide +kernel
theorem dX12_readsCondition_195 : decode cX12_readsCondition 195 = .ok (.invokevirtual 247, 3) := by decide +kernel
theorem dX12_readsCondition_198 : decode cX12_readsCondition 198 = .ok (.aload_n 0, 1) := by decide +kernel
theorem dX12_readsCondition_199 : decode cX12_readsCondition 199 = .ok (.aload_n 0, 1) := by decide +kernel
theorem dX12_readsCondition_200 : decode cX12_readsCondition 200 = .ok (.invokevirtual 181, 3) := by decide +kernel
theorem dX12_readsCondition_203 : decode cX12_readsCondition 203 = .ok (.bipush 38, 2) := by decide +kernel
theorem dX12_readsCondition_205 : decode cX12_readsCondition 205 = .ok (.if_icmp .ne 8, 3) := by decide +kernel
theorem dX12_readsCondition_208 : decode cX12_readsCondition 208 = .ok (.bipush 11, 2) := by decide +kernel
theorem dX12_readsCondition_210 : decode cX12_readsCondition 210 = .ok (.goto 5, 3) := by decide +kernel
theorem dX12_readsCondition_213 : decode cX12_readsCondition 213 = .ok (.bipush 12, 2) := by decide +kernel
theorem dX12_readsCondition_215 : decode cX12_readsCondition 215 = .ok (.invokevirtual 250, 3) := by decide +kernel
theorem dX12_readsCondition_218 : decode cX12_readsCondition 218 = .ok (.goto (-178), 3) := by decide +kernel
theorem dX12_readsRule_0 : decode cX12_readsRule 0 = .ok (.aload_n 0, 1) := by decide +kernel
theorem dX12_readsRule_1 : decode cX12_readsRule 1 = .ok (.invokevirtual 181, 3) := by decide +kernel
theorem dX12_readsRule_4 : decode cX12_readsRule 4 = .ok (.istore_n 1, 1) := by decide +kernel
theorem dX12_readsRule_5 : decode cX12_readsRule 5 = .ok (.iload_n 1, 1) := by decide +kernel
theorem dX12_readsRule_6 : decode cX12_readsRule 6 = .ok (.bipush 118, 2) := by decide +kernel
theorem dX12_readsRule_8 : decode cX12_readsRule 8 = .ok (.if_icmp .eq 25, 3) := by decide +kernel
theorem dX12_readsRule_11 : decode cX12_readsRule 11 = .ok (.iload_n 1, 1) := by decide +kernel
theorem dX12_readsRule_12 : decode cX12_readsRule 12 = .ok (.bipush 102, 2) := by decide +kernel
theorem dX12_readsRule_14 : decode cX12_readsRule 14 = .ok (.if_icmp .eq 19, 3) := by decide +kernel
theorem dX12_readsRule_17 : decode cX12_readsRule 17 = .ok (.iload_n 1, 1) := by decide +kernel
theorem dX12_readsRule_18 : decode cX12_readsRule 18 = .ok (.bipush 120, 2) := by decide +kernel
theorem dX12_readsRule_20 : decode cX12_readsRule 20 = .ok (.if_icmp .eq 13, 3) := by decide +kernel
theorem dX12_readsRule_23 : decode cX12_readsRule 23 = .ok (.aload_n 0, 1) := by decide +kernel
theorem dX12_readsRule_24 : decode cX12_readsRule 24 = .ok (.iconst 1, 1) := by decide +kernel
theorem dX12_readsRule_25 : decode cX12_readsRule 25 = .ok (.aload_n 0, 1) := by decide +kernel
theorem dX12_readsRule_26 : decode cX12_readsRule 26 = .ok (.getfield 175, 3) := by decide +kernel
theorem dX12_readsRule_29 : decode cX12_readsRule 29 = .ok (.invokevirtual 188, 3) := by decide +kernel
theorem dX12_readsRule_32 : decode cX12_readsRule 32 = .ok (.ireturn, 1) := by decide +kernel
theorem dX12_readsRule_33 : decode cX12_readsRule 33 = .ok (.aload_n 0, 1) := by decide +kernel
theorem dX12_readsRule_34 : decode cX12_readsRule 34 = .ok (.getfield 253, 3) := by decide +kernel
theorem dX12_readsRule_37 : decode cX12_readsRule 37 = .ok (.bipush 16, 2) := by decide +kernel
theorem dX12_readsRule_39 : decode cX12_readsRule 39 = .ok (.if_icmp .ne 13, 3) := by decide +kernel
theorem dX12_readsRule_42 : decode cX12_readsRule 42 = .ok (.aload_n 0, 1) := by decide +kernel
theorem dX12_readsRule_43 : decode cX12_readsRule 43 = .ok (.iconst 4, 1) := by decide +kernel
theorem dX12_readsRule_44 : decode cX12_readsRule 44 = .ok (.aload_n 0, 1) := by decide +kernel
theorem dX12_readsRule_45 : decode cX12_readsRule 45 = .ok (.getfield 175, 3) := by decide +kernel
theorem dX12_readsRule_48 : decode cX12_readsRule 48 = .ok (.invokevirtual 188, 3) := by decide +kernel
theorem dX12_readsRule_51 : decode cX12_readsRule 51 = .ok (.ireturn, 1) := by decide +kernel
theorem dX12_readsRule_52 : decode cX12_readsRule 52 = .ok (.aload_n 0, 1) := by decide +kernel
theorem dX12_readsRule_53 : decode cX12_readsRule 53 = .ok (.getfield 53, 3) := by decide +kernel
theorem dX12_readsRule_56 : decode cX12_readsRule 56 = .ok (.aload_n 0, 1) := by decide +kernel
theorem dX12_readsRule_57 : decode cX12_readsRule 57 = .ok (.getfield 253, 3) := by decide +kernel
theorem dX12_readsRule_60 : decode cX12_readsRule 60 = .ok (.iload_n 1, 1) := by decide +kernel
theorem dX12_readsRule_61 : decode cX12_readsRule 61 = .ok (.iastore, 1) := by decide +kernel
theorem dX12_readsRule_62 : decode cX12_readsRule 62 = .ok (.aload_n 0, 1) := by decide +kernel
theorem dX12_readsRule_63 : decode cX12_readsRule 63 = .ok (.aload_n 0, 1) := by decide +kernel
theorem dX12_readsRule_64 : decode cX12_readsRule 64 = .ok (.getfield 175, 3) := by decide +kernel
theorem dX12_readsRule_67 : decode cX12_readsRule 67 = .ok (.iconst 1, 1) := by decide +kernel
theorem dX12_readsRule_68 : decode cX12_readsRule 68 = .ok (.iadd, 1) := by decide +kernel
theorem dX12_readsRule_69 : decode cX12_readsRule 69 = .ok (.putfield 175, 3) := by decide +kernel
theorem dX12_readsRule_72 : decode cX12_readsRule 72 = .ok (.aload_n 0, 1) := by decide +kernel
theorem dX12_readsRule_73 : decode cX12_readsRule 73 = .ok (.getfield 56, 3) := by decide +kernel
theorem dX12_readsRule_76 : decode cX12_readsRule 76 = .ok (.aload_n 0, 1) := by decide +kernel
theorem dX12_readsRule_77 : decode cX12_readsRule 77 = .ok (.getfield 253, 3) := by decide +kernel
theorem dX12_readsRule_80 : decode cX12_readsRule 80 = .ok (.aload_n 0, 1) := by decide +kernel
theorem dX12_readsRule_81 : decode cX12_readsRule 81 = .ok (.getfield 199, 3) := by decide +kernel
theorem dX12_readsRule_84 : decode cX12_readsRule 84 = .ok (.iastore, 1) := by decide +kernel
theorem dX12_readsRule_85 : decode cX12_readsRule 85 = .ok (.aload_n 0, 1) := by decide +kernel
theorem dX12_readsRule_86 : decode cX12_readsRule 86 = .ok (.iconst 0, 1) := by decide +kernel
theorem dX12_readsRule_87 : decode cX12_readsRule 87 = .ok (.putfield 203, 3) := by decide +kernel
theorem dX12_readsRule_90 : decode cX12_readsRule 90 = .ok (.aload_n 0, 1) := by decide +kernel
theorem dX12_readsRule_91 : decode cX12_readsRule 91 = .ok (.iconst 0, 1) := by decide +kernel
theorem dX12_readsRule_92 : decode cX12_readsRule 92 = .ok (.putfield 206, 3) := by decide +kernel
theorem dX12_readsRule_95 : decode cX12_readsRule 95 = .ok (.iload_n 1, 1) := by decide +kernel
theorem dX12_readsRule_96 : decode cX12_readsRule 96 = .ok (.bipush 120, 2) := by decide +kernel
theorem dX12_readsRule_98 : decode cX12_readsRule 98 = .ok (.if_icmp .eq 12, 3) := by decide +kernel
theorem dX12_readsRule_101 : decode cX12_readsRule 101 = .ok (.aload_n 0, 1) := by decide +kernel
theorem dX12_readsRule_102 : decode cX12_readsRule 102 = .ok (.invokevirtual 238, 3) := by decide +kernel
theorem dX12_readsRule_105 : decode cX12_readsRule 105 = .ok (.ifCond .ne 5, 3) := by decide +kernel
theorem dX12_readsRule_108 : decode cX12_readsRule 108 = .ok (.iconst 0, 1) := by decide +kernel
theorem dX12_readsRule_109 : decode cX12_readsRule 109 = .ok (.ireturn, 1) := by decide +kernel
theorem dX12_readsRule_110 : decode cX12_readsRule 110 = .ok (.aload_n 0, 1) := by decide +kernel
theorem dX12_readsRule_111 : decode cX12_readsRule 111 = .ok (.getfield 59, 3) := by decide +kernel
theorem dX12_readsRule_114 : decode cX12_readsRule 114 = .ok (.aload_n 0, 1) := by decide +kernel
theorem dX12_readsRule_115 : decode cX12_readsRule 115 = .ok (.getfield 253, 3) := by decide +kernel
theorem dX12_readsRule_118 : decode cX12_readsRule 118 = .ok (.aload_n 0, 1) := by decide +kernel
theorem dX12_readsRule_119 : decode cX12_readsRule 119 = .ok (.getfield 199, 3) := by decide +kernel
theorem dX12_readsRule_122 : decode cX12_readsRule 122 = .ok (.iastore, 1) := by decide +kernel
theorem dX12_readsRule_123 : decode cX12_readsRule 123 = .ok (.aload_n 0, 1) := by decide +kernel
theorem dX12_readsRule_124 : decode cX12_readsRule 124 = .ok (.invokevirtual 256, 3) := by decide +kernel
theorem dX12_readsRule_127 : decode cX12_readsRule 127 = .ok (.ifCond .ne 5, 3) := by decide +kernel
theorem dX12_readsRule_130 : decode cX12_readsRule 130 = .ok (.iconst 0, 1) := by decide +kernel
theorem dX12_readsRule_131 : decode cX12_readsRule 131 = .ok (.ireturn, 1) := by decide +kernel
theorem dX12_readsRule_132 : decode cX12_readsRule 132 = .ok (.aload_n 0, 1) := by decide +kernel
theorem dX12_readsRule_133 : decode cX12_readsRule 133 = .ok (.getfield 62, 3) := by decide +kernel
theorem dX12_readsRule_136 : decode cX12_readsRule 136 = .ok (.aload_n 0, 1) := by decide +kernel
theorem dX12_readsRule_137 : decode cX12_readsRule 137 = .ok (.getfield 253, 3) := by decide +kernel
theorem dX12_readsRule_140 : decode cX12_readsRule 140 = .ok (.aload_n 0, 1) := by decide +kernel
theorem dX12_readsRule_141 : decode cX12_readsRule 141 = .ok (.getfield 199, 3) := by decide +kernel
theorem dX12_readsRule_144 : decode cX12_readsRule 144 = .ok (.iastore, 1) := by decide +kernel
theorem dX12_readsRule_145 : decode cX12_readsRule 145 = .ok (.aload_n 0, 1) := by decide +kernel
theorem dX12_readsRule_146 : decode cX12_readsRule 146 = .ok (.aload_n 0, 1) := by decide +kernel
theorem dX12_readsRule_147 : decode cX12_readsRule 147 = .ok (.getfield 253, 3) := by decide +kernel
theorem dX12_readsRule_150 : decode cX12_readsRule 150 = .ok (.iconst 1, 1) := by decide +kernel
theorem dX12_readsRule_151 : decode cX12_readsRule 151 = .ok (.iadd, 1) := by decide +kernel
theorem dX12_readsRule_152 : decode cX12_readsRule 152 = .ok (.putfield 253, 3) := by decide +kernel
theorem dX12_readsRule_155 : decode cX12_readsRule 155 = .ok (.iconst 1, 1) := by decide +kernel
theorem dX12_readsRule_156 : decode cX12_readsRule 156 = .ok (.ireturn, 1) := by decide +kernel
theorem dX12_beginsText_0 : decode cX12_beginsText 0 = .ok (.aload_n 0, 1) := by decide +kernel
theorem dX12_beginsText_1 : decode cX12_beginsText 1 = .ok (.iconst 0, 1) := by decide +kernel
theorem dX12_beginsText_2 : decode cX12_beginsText 2 = .ok (.putfield 175, 3) := by decide +kernel
theorem dX12_beginsText_5 : decode cX12_beginsText 5 = .ok (.aload_n 0, 1) := by decide +kernel
theorem dX12_beginsText_6 : decode cX12_beginsText 6 = .ok (.iload_n 1, 1) := by decide +kernel
theorem dX12_beginsText_7 : decode cX12_beginsText 7 = .ok (.putfield 178, 3) := by decide +kernel
theorem dX12_beginsText_10 : decode cX12_beginsText 10 = .ok (.aload_n 0, 1) := by decide +kernel
theorem dX12_beginsText_11 : decode cX12_beginsText 11 = .ok (.iconst 0, 1) := by decide +kernel
theorem dX12_beginsText_12 : decode cX12_beginsText 12 = .ok (.putfield 199, 3) := by decide +kernel
theorem dX12_beginsText_15 : decode cX12_beginsText 15 = .ok (.aload_n 0, 1) := by decide +kernel
theorem dX12_beginsText_16 : decode cX12_beginsText 16 = .ok (.iconst 0, 1) := by decide +kernel
theorem dX12_beginsText_17 : decode cX12_beginsText 17 = .ok (.putfield 253, 3) := by decide +kernel
theorem dX12_beginsText_20 : decode cX12_beginsText 20 = .ok (.return_, 1) := by decide +kernel
theorem dX12_law_0 : decode cX12_law 0 = .ok (.iload_n 1, 1) := by decide +kernel
theorem dX12_law_1 : decode cX12_law 1 = .ok (.iconst 1, 1) := by decide +kernel
theorem dX12_law_2 : decode cX12_law 2 = .ok (.sipush 240, 3) := by decide +kernel
theorem dX12_law_5 : decode cX12_law 5 = .ok (.invokestatic 156, 3) := by decide +kernel
theorem dX12_law_8 : decode cX12_law 8 = .ok (.ifCond .eq 11, 3) := by decide +kernel
theorem dX12_law_11 : decode cX12_law 11 = .ok (.iload_n 1, 1) := by decide +kernel
theorem dX12_law_12 : decode cX12_law 12 = .ok (.aload_n 0, 1) := by decide +kernel
theorem dX12_law_13 : decode cX12_law 13 = .ok (.getfield 168, 3) := by decide +kernel
theorem dX12_law_16 : decode cX12_law 16 = .ok (.if_icmp .le 5, 3) := by decide +kernel
theorem dX12_law_19 : decode cX12_law 19 = .ok (.iconst (-1), 1) := by decide +kernel
theorem dX12_law_20 : decode cX12_law 20 = .ok (.ireturn, 1) := by decide +kernel
theorem dX12_law_21 : decode cX12_law 21 = .ok (.aload_n 0, 1) := by decide +kernel
theorem dX12_law_22 : decode cX12_law 22 = .ok (.iload_n 1, 1) := by decide +kernel
theorem dX12_law_23 : decode cX12_law 23 = .ok (.invokevirtual 259, 3) := by decide +kernel
theorem dX12_law_26 : decode cX12_law 26 = .ok (.aload_n 0, 1) := by decide +kernel
theorem dX12_law_27 : decode cX12_law 27 = .ok (.invokevirtual 262, 3) := by decide +kernel
theorem dX12_law_30 : decode cX12_law 30 = .ok (.istore_n 2, 1) := by decide +kernel
theorem dX12_law_31 : decode cX12_law 31 = .ok (.iload_n 2, 1) := by decide +kernel
theorem dX12_law_32 : decode cX12_law 32 = .ok (.ifCond .eq 39, 3) := by decide +kernel
theorem dX12_law_35 : decode cX12_law 35 = .ok (.aload_n 0, 1) := by decide +kernel
theorem dX12_law_36 : decode cX12_law 36 = .ok (.getfield 175, 3) := by decide +kernel
theorem dX12_law_39 : decode cX12_law 39 = .ok (.aload_n 0, 1) := by decide +kernel
theorem dX12_law_40 : decode cX12_law 40 = .ok (.getfield 178, 3) := by decide +kernel
theorem dX12_law_43 : decode cX12_law 43 = .ok (.if_icmp .ge 28, 3) := by decide +kernel
theorem dX12_law_46 : decode cX12_law 46 = .ok (.aload_n 0, 1) := by decide +kernel
theorem dX12_law_47 : decode cX12_law 47 = .ok (.bipush 59, 2) := by decide +kernel
theorem dX12_law_49 : decode cX12_law 49 = .ok (.invokevirtual 265, 3) := by decide +kernel
theorem dX12_law_52 : decode cX12_law 52 = .ok (.ifCond .eq 14, 3) := by decide +kernel
theorem dX12_law_55 : decode cX12_law 55 = .ok (.aload_n 0, 1) := by decide +kernel
theorem dX12_law_56 : decode cX12_law 56 = .ok (.invokevirtual 262, 3) := by decide +kernel
theorem dX12_law_59 : decode cX12_law 59 = .ok (.ifCond .eq 7, 3) := by decide +kernel
theorem dX12_law_62 : decode cX12_law 62 = .ok (.iconst 1, 1) := by decide +kernel
theorem dX12_law_63 : decode cX12_law 63 = .ok (.goto 4, 3) := by decide +kernel
theorem dX12_law_66 : decode cX12_law 66 = .ok (.iconst 0, 1) := by decide +kernel
theorem dX12_law_67 : decode cX12_law 67 = .ok (.istore_n 2, 1) := by decide +kernel
theorem dX12_law_68 : decode cX12_law 68 = .ok (.goto (-37), 3) := by decide +kernel
theorem dX12_law_71 : decode cX12_law 71 = .ok (.aload_n 0, 1) := by decide +kernel
theorem dX12_law_72 : decode cX12_law 72 = .ok (.iconst 0, 1) := by decide +kernel
theorem dX12_law_73 : decode cX12_law 73 = .ok (.putfield 168, 3) := by decide +kernel
theorem dX12_law_76 : decode cX12_law 76 = .ok (.iload_n 2, 1) := by decide +kernel
theorem dX12_law_77 : decode cX12_law 77 = .ok (.ifCond .ne 8, 3) := by decide +kernel
theorem dX12_law_80 : decode cX12_law 80 = .ok (.aload_n 0, 1) := by decide +kernel
theorem dX12_law_81 : decode cX12_law 81 = .ok (.getfield 185, 3) := by decide +kernel
theorem dX12_law_84 : decode cX12_law 84 = .ok (.ireturn, 1) := by decide +kernel
theorem dX12_law_85 : decode cX12_law 85 = .ok (.aload_n 0, 1) := by decide +kernel
theorem dX12_law_86 : decode cX12_law 86 = .ok (.aload_n 0, 1) := by decide +kernel
theorem dX12_law_87 : decode cX12_law 87 = .ok (.getfield 253, 3) := by decide +kernel
theorem dX12_law_90 : decode cX12_law 90 = .ok (.putfield 268, 3) := by decide +kernel
theorem dX12_law_93 : decode cX12_law 93 = .ok (.iconst 0, 1) := by decide +kernel
theorem dX12_law_94 : decode cX12_law 94 = .ok (.istore_n 3, 1) := by decide +kernel
theorem dX12_law_95 : decode cX12_law 95 = .ok (.iload_n 3, 1) := by decide +kernel
theorem dX12_law_96 : decode cX12_law 96 = .ok (.aload_n 0, 1) := by decide +kernel
theorem dX12_law_97 : decode cX12_law 97 = .ok (.getfield 199, 3) := by decide +kernel
theorem dX12_law_100 : decode cX12_law 100 = .ok (.if_icmp .ge 21, 3) := by decide +kernel
theorem dX12_law_103 : decode cX12_law 103 = .ok (.aload_n 0, 1) := by decide +kernel
theorem dX12_law_104 : decode cX12_law 104 = .ok (.getfield 65, 3) := by decide +kernel
theorem dX12_law_107 : decode cX12_law 107 = .ok (.iload_n 3, 1) := by decide +kernel
theorem dX12_law_108 : decode cX12_law 108 = .ok (.aload_n 0, 1) := by decide +kernel
theorem dX12_law_109 : decode cX12_law 109 = .ok (.getfield 47, 3) := by decide +kernel
theorem dX12_law_112 : decode cX12_law 112 = .ok (.iload_n 3, 1) := by decide +kernel
theorem dX12_law_113 : decode cX12_law 113 = .ok (.iaload, 1) := by decide +kernel
theorem dX12_law_114 : decode cX12_law 114 = .ok (.iastore, 1) := by decide +kernel
theorem dX12_law_115 : decode cX12_law 115 = .ok (.iinc 3 1, 3) := by decide +kernel
theorem dX12_law_118 : decode cX12_law 118 = .ok (.goto (-23), 3) := by decide +kernel
theorem dX12_law_121 : decode cX12_law 121 = .ok (.iconst 0, 1) := by decide +kernel
theorem dX12_law_122 : decode cX12_law 122 = .ok (.istore_n 3, 1) := by decide +kernel
theorem dX12_law_123 : decode cX12_law 123 = .ok (.iload_n 3, 1) := by decide +kernel
theorem dX12_law_124 : decode cX12_law 124 = .ok (.aload_n 0, 1) := by decide +kernel
theorem dX12_law_125 : decode cX12_law 125 = .ok (.getfield 253, 3) := by decide +kernel
theorem dX12_law_128 : decode cX12_law 128 = .ok (.if_icmp .ge 57, 3) := by decide +kernel
theorem dX12_law_131 : decode cX12_law 131 = .ok (.aload_n 0, 1) := by decide +kernel
theorem dX12_law_132 : decode cX12_law 132 = .ok (.getfield 68, 3) := by decide +kernel
theorem dX12_law_135 : decode cX12_law 135 = .ok (.iload_n 3, 1) := by decide +kernel
theorem dX12_law_136 : decode cX12_law 136 = .ok (.aload_n 0, 1) := by decide +kernel
theorem dX12_law_137 : decode cX12_law 137 = .ok (.getfield 53, 3) := by decide +kernel
theorem dX12_law_140 : decode cX12_law 140 = .ok (.iload_n 3, 1) := by decide +kernel
theorem dX12_law_141 : decode cX12_law 141 = .ok (.iaload, 1) := by decide +kernel
theorem dX12_law_142 : decode cX12_law 142 = .ok (.iastore, 1) := by decide +kernel
theorem dX12_law_143 : decode cX12_law 143 = .ok (.aload_n 0, 1) := by decide +kernel
theorem dX12_law_144 : decode cX12_law 144 = .ok (.getfield 71, 3) := by decide +kernel
theorem dX12_law_147 : decode cX12_law 147 = .ok (.iload_n 3, 1) := by decide +kernel
theorem dX12_law_148 : decode cX12_law 148 = .ok (.aload_n 0, 1) := by decide +kernel
theorem dX12_law_149 : decode cX12_law 149 = .ok (.getfield 56, 3) := by decide +kernel
theorem dX12_law_152 : decode cX12_law 152 = .ok (.iload_n 3, 1) := by decide +kernel
theorem dX12_law_153 : decode cX12_law 153 = .ok (.iaload, 1) := by decide +kernel
theorem dX12_law_154 : decode cX12_law 154 = .ok (.iastore, 1) := by decide +kernel
theorem dX12_law_155 : decode cX12_law 155 = .ok (.aload_n 0, 1) := by decide +kernel
theorem dX12_law_156 : decode cX12_law 156 = .ok (.getfield 74, 3) := by decide +kernel
theorem dX12_law_159 : decode cX12_law 159 = .ok (.iload_n 3, 1) := by decide +kernel
theorem dX12_law_160 : decode cX12_law 160 = .ok (.aload_n 0, 1) := by decide +kernel
theorem dX12_law_161 : decode cX12_law 161 = .ok (.getfield 59, 3) := by decide +kernel
theorem dX12_law_164 : decode cX12_law 164 = .ok (.iload_n 3, 1) := by decide +kernel
theorem dX12_law_165 : decode cX12_law 165 = .ok (.iaload, 1) := by decide +kernel
theorem dX12_law_166 : decode cX12_law 166 = .ok (.iastore, 1) := by decide +kernel
theorem dX12_law_167 : decode cX12_law 167 = .ok (.aload_n 0, 1) := by decide +kernel
theorem dX12_law_168 : decode cX12_law 168 = .ok (.getfield 77, 3) := by decide +kernel
theorem dX12_law_171 : decode cX12_law 171 = .ok (.iload_n 3, 1) := by decide +kernel
theorem dX12_law_172 : decode cX12_law 172 = .ok (.aload_n 0, 1) := by decide +kernel
theorem dX12_law_173 : decode cX12_law 173 = .ok (.getfield 62, 3) := by decide +kernel
theorem dX12_law_176 : decode cX12_law 176 = .ok (.iload_n 3, 1) := by decide +kernel
theorem dX12_law_177 : decode cX12_law 177 = .ok (.iaload, 1) := by decide +kernel
theorem dX12_law_178 : decode cX12_law 178 = .ok (.iastore, 1) := by decide +kernel
theorem dX12_law_179 : decode cX12_law 179 = .ok (.iinc 3 1, 3) := by decide +kernel
theorem dX12_law_182 : decode cX12_law 182 = .ok (.goto (-59), 3) := by decide +kernel
theorem dX12_law_185 : decode cX12_law 185 = .ok (.aload_n 0, 1) := by decide +kernel
theorem dX12_law_186 : decode cX12_law 186 = .ok (.getfield 253, 3) := by decide +kernel
theorem dX12_law_189 : decode cX12_law 189 = .ok (.ireturn, 1) := by decide +kernel
theorem dX12_reckon_0 : decode cX12_reckon 0 = .ok (.iload_n 0, 1) := by decide +kernel
theorem dX12_reckon_1 : decode cX12_reckon 1 = .ok (.tableswitch 85 2 8 #[43, 47, 51, 55, 59, 63, 74], 43) := by decide +kernel
theorem dX12_reckon_44 : decode cX12_reckon 44 = .ok (.iload_n 1, 1) := by decide +kernel
theorem dX12_reckon_45 : decode cX12_reckon 45 = .ok (.iload_n 2, 1) := by decide +kernel
theorem dX12_reckon_46 : decode cX12_reckon 46 = .ok (.iadd, 1) := by decide +kernel
theorem dX12_reckon_47 : decode cX12_reckon 47 = .ok (.ireturn, 1) := by decide +kernel
theorem dX12_reckon_48 : decode cX12_reckon 48 = .ok (.iload_n 1, 1) := by decide +kernel
theorem dX12_reckon_49 : decode cX12_reckon 49 = .ok (.iload_n 2, 1) := by decide +kernel
theorem dX12_reckon_50 : decode cX12_reckon 50 = .ok (.isub, 1) := by decide +kernel
theorem dX12_reckon_51 : decode cX12_reckon 51 = .ok (.ireturn, 1) := by decide +kernel
theorem dX12_reckon_52 : decode cX12_reckon 52 = .ok (.iload_n 1, 1) := by decide +kernel
theorem dX12_reckon_53 : decode cX12_reckon 53 = .ok (.iload_n 2, 1) := by decide +kernel
theorem dX12_reckon_54 : decode cX12_reckon 54 = .ok (.imul, 1) := by decide +kernel
theorem dX12_reckon_55 : decode cX12_reckon 55 = .ok (.ireturn, 1) := by decide +kernel
theorem dX12_reckon_56 : decode cX12_reckon 56 = .ok (.iload_n 1, 1) := by decide +kernel
theorem dX12_reckon_57 : decode cX12_reckon 57 = .ok (.iload_n 2, 1) := by decide +kernel
theorem dX12_reckon_58 : decode cX12_reckon 58 = .ok (.idiv, 1) := by decide +kernel
theorem dX12_reckon_59 : decode cX12_reckon 59 = .ok (.ireturn, 1) := by decide +kernel
theorem dX12_reckon_60 : decode cX12_reckon 60 = .ok (.iload_n 1, 1) := by decide +kernel
theorem dX12_reckon_61 : decode cX12_reckon 61 = .ok (.iload_n 2, 1) := by decide +kernel
theorem dX12_reckon_62 : decode cX12_reckon 62 = .ok (.irem, 1) := by decide +kernel
theorem dX12_reckon_63 : decode cX12_reckon 63 = .ok (.ireturn, 1) := by decide +kernel
theorem dX12_reckon_64 : decode cX12_reckon 64 = .ok (.iload_n 1, 1) := by decide +kernel
theorem dX12_reckon_65 : decode cX12_reckon 65 = .ok (.iload_n 2, 1) := by decide +kernel
theorem dX12_reckon_66 : decode cX12_reckon 66 = .ok (.if_icmp .ge 7, 3) := by decide +kernel
theorem dX12_reckon_69 : decode cX12_reckon 69 = .ok (.iconst 1, 1) := by decide +kernel
theorem dX12_reckon_70 : decode cX12_reckon 70 = .ok (.goto 4, 3) := by decide +kernel
theorem dX12_reckon_73 : decode cX12_reckon 73 = .ok (.iconst 0, 1) := by decide +kernel
theorem dX12_reckon_74 : decode cX12_reckon 74 = .ok (.ireturn, 1) := by decide +kernel
theorem dX12_reckon_75 : decode cX12_reckon 75 = .ok (.iload_n 1, 1) := by decide +kernel
theorem dX12_reckon_76 : decode cX12_reckon 76 = .ok (.iload_n 2, 1) := by decide +kernel
theorem dX12_reckon_77 : decode cX12_reckon 77 = .ok (.if_icmp .le 7, 3) := by decide +kernel
theorem dX12_reckon_80 : decode cX12_reckon 80 = .ok (.iconst 1, 1) := by decide +kernel
theorem dX12_reckon_81 : decode cX12_reckon 81 = .ok (.goto 4, 3) := by decide +kernel
theorem dX12_reckon_84 : decode cX12_reckon 84 = .ok (.iconst 0, 1) := by decide +kernel
theorem dX12_reckon_85 : decode cX12_reckon 85 = .ok (.ireturn, 1) := by decide +kernel
theorem dX12_reckon_86 : decode cX12_reckon 86 = .ok (.iload_n 1, 1) := by decide +kernel
theorem dX12_reckon_87 : decode cX12_reckon 87 = .ok (.iload_n 2, 1) := by decide +kernel
theorem dX12_reckon_88 : decode cX12_reckon 88 = .ok (.if_icmp .ne 7, 3) := by decide +kernel
theorem dX12_reckon_91 : decode cX12_reckon 91 = .ok (.iconst 1, 1) := by decide +kernel
theorem dX12_reckon_92 : decode cX12_reckon 92 = .ok (.goto 4, 3) := by decide +kernel
theorem dX12_reckon_95 : decode cX12_reckon 95 = .ok (.iconst 0, 1) := by decide +kernel
theorem dX12_reckon_96 : decode cX12_reckon 96 = .ok (.ireturn, 1) := by decide +kernel
theorem dX12_reckonsTo_0 : decode cX12_reckonsTo 0 = .ok (.iconst 0, 1) := by decide +kernel
theorem dX12_reckonsTo_1 : decode cX12_reckonsTo 1 = .ok (.istore_n 3, 1) := by decide +kernel
theorem dX12_reckonsTo_2 : decode cX12_reckonsTo 2 = .ok (.sipush 260, 3) := by decide +kernel
theorem dX12_reckonsTo_5 : decode cX12_reckonsTo 5 = .ok (.iload_n 1, 1) := by decide +kernel
theorem dX12_reckonsTo_6 : decode cX12_reckonsTo 6 = .ok (.sipush 260, 3) := by decide +kernel
theorem dX12_reckonsTo_9 : decode cX12_reckonsTo 9 = .ok (.idiv, 1) := by decide +kernel
theorem dX12_reckonsTo_10 : decode cX12_reckonsTo 10 = .ok (.imul, 1) := by decide +kernel
theorem dX12_reckonsTo_11 : decode cX12_reckonsTo 11 = .ok (.istore 4, 2) := by decide +kernel
theorem dX12_reckonsTo_13 : decode cX12_reckonsTo 13 = .ok (.iload_n 1, 1) := by decide +kernel
theorem dX12_reckonsTo_14 : decode cX12_reckonsTo 14 = .ok (.istore 5, 2) := by decide +kernel
theorem dX12_reckonsTo_16 : decode cX12_reckonsTo 16 = .ok (.iload 5, 2) := by decide +kernel
theorem dX12_reckonsTo_18 : decode cX12_reckonsTo 18 = .ok (.iload_n 2, 1) := by decide +kernel
theorem dX12_reckonsTo_19 : decode cX12_reckonsTo 19 = .ok (.if_icmp .ge 214, 3) := by decide +kernel
theorem dX12_reckonsTo_22 : decode cX12_reckonsTo 22 = .ok (.aload_n 0, 1) := by decide +kernel
theorem dX12_reckonsTo_23 : decode cX12_reckonsTo 23 = .ok (.getfield 65, 3) := by decide +kernel
theorem dX12_reckonsTo_26 : decode cX12_reckonsTo 26 = .ok (.iload 5, 2) := by decide +kernel
theorem dX12_reckonsTo_28 : decode cX12_reckonsTo 28 = .ok (.iaload, 1) := by decide +kernel
theorem dX12_reckonsTo_29 : decode cX12_reckonsTo 29 = .ok (.ldc 202, 2) := by decide +kernel
theorem dX12_reckonsTo_31 : decode cX12_reckonsTo 31 = .ok (.idiv, 1) := by decide +kernel
theorem dX12_reckonsTo_32 : decode cX12_reckonsTo 32 = .ok (.istore 6, 2) := by decide +kernel
theorem dX12_reckonsTo_34 : decode cX12_reckonsTo 34 = .ok (.aload_n 0, 1) := by decide +kernel
theorem dX12_reckonsTo_35 : decode cX12_reckonsTo 35 = .ok (.getfield 65, 3) := by decide +kernel
theorem dX12_reckonsTo_38 : decode cX12_reckonsTo 38 = .ok (.iload 5, 2) := by decide +kernel
theorem dX12_reckonsTo_40 : decode cX12_reckonsTo 40 = .ok (.iaload, 1) := by decide +kernel
theorem dX12_reckonsTo_41 : decode cX12_reckonsTo 41 = .ok (.ldc 202, 2) := by decide +kernel
theorem dX12_reckonsTo_43 : decode cX12_reckonsTo 43 = .ok (.irem, 1) := by decide +kernel
theorem dX12_reckonsTo_44 : decode cX12_reckonsTo 44 = .ok (.istore 7, 2) := by decide +kernel
theorem dX12_reckonsTo_46 : decode cX12_reckonsTo 46 = .ok (.iload 5, 2) := by decide +kernel
theorem dX12_reckonsTo_48 : decode cX12_reckonsTo 48 = .ok (.iconst 1, 1) := by decide +kernel
theorem dX12_reckonsTo_49 : decode cX12_reckonsTo 49 = .ok (.iadd, 1) := by decide +kernel
theorem dX12_reckonsTo_50 : decode cX12_reckonsTo 50 = .ok (.istore 5, 2) := by decide +kernel
theorem dX12_reckonsTo_52 : decode cX12_reckonsTo 52 = .ok (.iload 6, 2) := by decide +kernel
theorem dX12_reckonsTo_54 : decode cX12_reckonsTo 54 = .ok (.ifCond .eq 9, 3) := by decide +kernel
theorem dX12_reckonsTo_57 : decode cX12_reckonsTo 57 = .ok (.iload 6, 2) := by decide +kernel
theorem dX12_reckonsTo_59 : decode cX12_reckonsTo 59 = .ok (.iconst 1, 1) := by decide +kernel
theorem dX12_reckonsTo_60 : decode cX12_reckonsTo 60 = .ok (.if_icmp .ne 33, 3) := by decide +kernel
theorem dX12_reckonsTo_63 : decode cX12_reckonsTo 63 = .ok (.aload_n 0, 1) := by decide +kernel
theorem dX12_reckonsTo_64 : decode cX12_reckonsTo 64 = .ok (.getfield 80, 3) := by decide +kernel
theorem dX12_reckonsTo_67 : decode cX12_reckonsTo 67 = .ok (.iload_n 3, 1) := by decide +kernel
theorem dX12_reckonsTo_68 : decode cX12_reckonsTo 68 = .ok (.iload 6, 2) := by decide +kernel
theorem dX12_reckonsTo_70 : decode cX12_reckonsTo 70 = .ok (.ifCond .ne 8, 3) := by decide +kernel
theorem dX12_reckonsTo_73 : decode cX12_reckonsTo 73 = .ok (.iload 7, 2) := by decide +kernel
theorem dX12_reckonsTo_75 : decode cX12_reckonsTo 75 = .ok (.goto 10, 3) := by decide +kernel
theorem dX12_reckonsTo_78 : decode cX12_reckonsTo 78 = .ok (.aload_n 0, 1) := by decide +kernel
theorem dX12_reckonsTo_79 : decode cX12_reckonsTo 79 = .ok (.getfield 83, 3) := by decide +kernel
theorem dX12_reckonsTo_82 : decode cX12_reckonsTo 82 = .ok (.iload 7, 2) := by decide +kernel
theorem dX12_reckonsTo_84 : decode cX12_reckonsTo 84 = .ok (.iaload, 1) := by decide +kernel
theorem dX12_reckonsTo_85 : decode cX12_reckonsTo 85 = .ok (.iastore, 1) := by decide +kernel
theorem dX12_reckonsTo_86 : decode cX12_reckonsTo 86 = .ok (.iload_n 3, 1) := by decide +kernel
theorem dX12_reckonsTo_87 : decode cX12_reckonsTo 87 = .ok (.iconst 1, 1) := by decide +kernel
theorem dX12_reckonsTo_88 : decode cX12_reckonsTo 88 = .ok (.iadd, 1) := by decide +kernel
theorem dX12_reckonsTo_89 : decode cX12_reckonsTo 89 = .ok (.istore_n 3, 1) := by decide +kernel
theorem dX12_reckonsTo_90 : decode cX12_reckonsTo 90 = .ok (.goto 140, 3) := by decide +kernel
theorem dX12_reckonsTo_93 : decode cX12_reckonsTo 93 = .ok (.iload 6, 2) := by decide +kernel
theorem dX12_reckonsTo_95 : decode cX12_reckonsTo 95 = .ok (.bipush 10, 2) := by decide +kernel
theorem dX12_reckonsTo_97 : decode cX12_reckonsTo 97 = .ok (.if_icmp .ne 24, 3) := by decide +kernel
theorem dX12_reckonsTo_100 : decode cX12_reckonsTo 100 = .ok (.aload_n 0, 1) := by decide +kernel
theorem dX12_reckonsTo_101 : decode cX12_reckonsTo 101 = .ok (.getfield 80, 3) := by decide +kernel
theorem dX12_reckonsTo_104 : decode cX12_reckonsTo 104 = .ok (.iload_n 3, 1) := by decide +kernel
theorem dX12_reckonsTo_105 : decode cX12_reckonsTo 105 = .ok (.iconst 1, 1) := by decide +kernel
theorem dX12_reckonsTo_106 : decode cX12_reckonsTo 106 = .ok (.isub, 1) := by decide +kernel
theorem dX12_reckonsTo_107 : decode cX12_reckonsTo 107 = .ok (.iconst 1, 1) := by decide +kernel
theorem dX12_reckonsTo_108 : decode cX12_reckonsTo 108 = .ok (.aload_n 0, 1) := by decide +kernel
theorem dX12_reckonsTo_109 : decode cX12_reckonsTo 109 = .ok (.getfield 80, 3) := by decide +kernel
theorem dX12_reckonsTo_112 : decode cX12_reckonsTo 112 = .ok (.iload_n 3, 1) := by decide +kernel
theorem dX12_reckonsTo_113 : decode cX12_reckonsTo 113 = .ok (.iconst 1, 1) := by decide +kernel
theorem dX12_reckonsTo_114 : decode cX12_reckonsTo 114 = .ok (.isub, 1) := by decide +kernel
theorem dX12_reckonsTo_115 : decode cX12_reckonsTo 115 = .ok (.iaload, 1) := by decide +kernel
theorem dX12_reckonsTo_116 : decode cX12_reckonsTo 116 = .ok (.isub, 1) := by decide +kernel
theorem dX12_reckonsTo_117 : decode cX12_reckonsTo 117 = .ok (.iastore, 1) := by decide +kernel
theorem dX12_reckonsTo_118 : decode cX12_reckonsTo 118 = .ok (.goto 112, 3) := by decide +kernel
theorem dX12_reckonsTo_121 : decode cX12_reckonsTo 121 = .ok (.iload 6, 2) := by decide +kernel
theorem dX12_reckonsTo_123 : decode cX12_reckonsTo 123 = .ok (.bipush 11, 2) := by decide +kernel
theorem dX12_reckonsTo_125 : decode cX12_reckonsTo 125 = .ok (.if_icmp .eq 10, 3) := by decide +kernel
theorem dX12_reckonsTo_128 : decode cX12_reckonsTo 128 = .ok (.iload 6, 2) := by decide +kernel
theorem dX12_reckonsTo_130 : decode cX12_reckonsTo 130 = .ok (.bipush 12, 2) := by decide +kernel
theorem dX12_reckonsTo_132 : decode cX12_reckonsTo 132 = .ok (.if_icmp .ne 43, 3) := by decide +kernel
theorem dX12_reckonsTo_135 : decode cX12_reckonsTo 135 = .ok (.aload_n 0, 1) := by decide +kernel
theorem dX12_reckonsTo_136 : decode cX12_reckonsTo 136 = .ok (.getfield 80, 3) := by decide +kernel
theorem dX12_reckonsTo_139 : decode cX12_reckonsTo 139 = .ok (.iload_n 3, 1) := by decide +kernel
theorem dX12_reckonsTo_140 : decode cX12_reckonsTo 140 = .ok (.iconst 1, 1) := by decide +kernel
theorem dX12_reckonsTo_141 : decode cX12_reckonsTo 141 = .ok (.isub, 1) := by decide +kernel
theorem dX12_reckonsTo_142 : decode cX12_reckonsTo 142 = .ok (.iaload, 1) := by decide +kernel
theorem dX12_reckonsTo_143 : decode cX12_reckonsTo 143 = .ok (.iload 6, 2) := by decide +kernel
theorem dX12_reckonsTo_145 : decode cX12_reckonsTo 145 = .ok (.bipush 12, 2) := by decide +kernel
theorem dX12_reckonsTo_147 : decode cX12_reckonsTo 147 = .ok (.if_icmp .ne 7, 3) := by decide +kernel
theorem dX12_reckonsTo_150 : decode cX12_reckonsTo 150 = .ok (.iconst 1, 1) := by decide +kernel
theorem dX12_reckonsTo_151 : decode cX12_reckonsTo 151 = .ok (.goto 4, 3) := by decide +kernel
theorem dX12_reckonsTo_154 : decode cX12_reckonsTo 154 = .ok (.iconst 0, 1) := by decide +kernel
theorem dX12_reckonsTo_155 : decode cX12_reckonsTo 155 = .ok (.if_icmp .ne 13, 3) := by decide +kernel
theorem dX12_reckonsTo_158 : decode cX12_reckonsTo 158 = .ok (.iload 4, 2) := by decide +kernel
theorem dX12_reckonsTo_160 : decode cX12_reckonsTo 160 = .ok (.iload 7, 2) := by decide +kernel
theorem dX12_reckonsTo_162 : decode cX12_reckonsTo 162 = .ok (.iadd, 1) := by decide +kernel
theorem dX12_reckonsTo_163 : decode cX12_reckonsTo 163 = .ok (.istore 5, 2) := by decide +kernel
theorem dX12_reckonsTo_165 : decode cX12_reckonsTo 165 = .ok (.goto 65, 3) := by decide +kernel
theorem dX12_reckonsTo_168 : decode cX12_reckonsTo 168 = .ok (.iload_n 3, 1) := by decide +kernel
theorem dX12_reckonsTo_169 : decode cX12_reckonsTo 169 = .ok (.iconst 1, 1) := by decide +kernel
theorem dX12_reckonsTo_170 : decode cX12_reckonsTo 170 = .ok (.isub, 1) := by decide +kernel
theorem dX12_reckonsTo_171 : decode cX12_reckonsTo 171 = .ok (.istore_n 3, 1) := by decide +kernel
theorem dX12_reckonsTo_172 : decode cX12_reckonsTo 172 = .ok (.goto 58, 3) := by decide +kernel
theorem dX12_reckonsTo_175 : decode cX12_reckonsTo 175 = .ok (.iload_n 3, 1) := by decide +kernel
theorem dX12_reckonsTo_176 : decode cX12_reckonsTo 176 = .ok (.iconst 1, 1) := by decide +kernel
theorem dX12_reckonsTo_177 : decode cX12_reckonsTo 177 = .ok (.isub, 1) := by decide +kernel
theorem dX12_reckonsTo_178 : decode cX12_reckonsTo 178 = .ok (.istore_n 3, 1) := by decide +kernel
theorem dX12_reckonsTo_179 : decode cX12_reckonsTo 179 = .ok (.iload 6, 2) := by decide +kernel
theorem dX12_reckonsTo_181 : decode cX12_reckonsTo 181 = .ok (.iconst 5, 1) := by decide +kernel
theorem dX12_reckonsTo_182 : decode cX12_reckonsTo 182 = .ok (.if_icmp .eq 10, 3) := by decide +kernel
theorem dX12_reckonsTo_185 : decode cX12_reckonsTo 185 = .ok (.iload 6, 2) := by decide +kernel
theorem dX12_reckonsTo_187 : decode cX12_reckonsTo 187 = .ok (.bipush 6, 2) := by decide +kernel
theorem dX12_reckonsTo_189 : decode cX12_reckonsTo 189 = .ok (.if_icmp .ne 14, 3) := by decide +kernel
theorem dX12_reckonsTo_192 : decode cX12_reckonsTo 192 = .ok (.aload_n 0, 1) := by decide +kernel
theorem dX12_reckonsTo_193 : decode cX12_reckonsTo 193 = .ok (.getfield 80, 3) := by decide +kernel
theorem dX12_reckonsTo_196 : decode cX12_reckonsTo 196 = .ok (.iload_n 3, 1) := by decide +kernel
theorem dX12_reckonsTo_197 : decode cX12_reckonsTo 197 = .ok (.iaload, 1) := by decide +kernel
theorem dX12_reckonsTo_198 : decode cX12_reckonsTo 198 = .ok (.ifCond .ne 5, 3) := by decide +kernel
theorem dX12_reckonsTo_201 : decode cX12_reckonsTo 201 = .ok (.iconst 0, 1) := by decide +kernel
theorem dX12_reckonsTo_202 : decode cX12_reckonsTo 202 = .ok (.ireturn, 1) := by decide +kernel
theorem dX12_reckonsTo_203 : decode cX12_reckonsTo 203 = .ok (.aload_n 0, 1) := by decide +kernel
theorem dX12_reckonsTo_204 : decode cX12_reckonsTo 204 = .ok (.getfield 80, 3) := by decide +kernel
theorem dX12_reckonsTo_207 : decode cX12_reckonsTo 207 = .ok (.iload_n 3, 1) := by decide +kernel
theorem dX12_reckonsTo_208 : decode cX12_reckonsTo 208 = .ok (.iconst 1, 1) := by decide +kernel
theorem dX12_reckonsTo_209 : decode cX12_reckonsTo 209 = .ok (.isub, 1) := by decide +kernel
theorem dX12_reckonsTo_210 : decode cX12_reckonsTo 210 = .ok (.iload 6, 2) := by decide +kernel
theorem dX12_reckonsTo_212 : decode cX12_reckonsTo 212 = .ok (.aload_n 0, 1) := by decide +kernel
theorem dX12_reckonsTo_213 : decode cX12_reckonsTo 213 = .ok (.getfield 80, 3) := by decide +kernel
theorem dX12_reckonsTo_216 : decode cX12_reckonsTo 216 = .ok (.iload_n 3, 1) := by decide +kernel
theorem dX12_reckonsTo_217 : decode cX12_reckonsTo 217 = .ok (.iconst 1, 1) := by decide +kernel
theorem dX12_reckonsTo_218 : decode cX12_reckonsTo 218 = .ok (.isub, 1) := by decide +kernel
theorem dX12_reckonsTo_219 : decode cX12_reckonsTo 219 = .ok (.iaload, 1) := by decide +kernel
theorem dX12_reckonsTo_220 : decode cX12_reckonsTo 220 = .ok (.aload_n 0, 1) := by decide +kernel
theorem dX12_reckonsTo_221 : decode cX12_reckonsTo 221 = .ok (.getfield 80, 3) := by decide +kernel
theorem dX12_reckonsTo_224 : decode cX12_reckonsTo 224 = .ok (.iload_n 3, 1) := by decide +kernel
theorem dX12_reckonsTo_225 : decode cX12_reckonsTo 225 = .ok (.iaload, 1) := by decide +kernel
theorem dX12_reckonsTo_226 : decode cX12_reckonsTo 226 = .ok (.invokestatic 271, 3) := by decide +kernel
theorem dX12_reckonsTo_229 : decode cX12_reckonsTo 229 = .ok (.iastore, 1) := by decide +kernel
theorem dX12_reckonsTo_230 : decode cX12_reckonsTo 230 = .ok (.goto (-214), 3) := by decide +kernel
theorem dX12_reckonsTo_233 : decode cX12_reckonsTo 233 = .ok (.aload_n 0, 1) := by decide +kernel
theorem dX12_reckonsTo_234 : decode cX12_reckonsTo 234 = .ok (.getfield 80, 3) := by decide +kernel
theorem dX12_reckonsTo_237 : decode cX12_reckonsTo 237 = .ok (.iconst 0, 1) := by decide +kernel
theorem dX12_reckonsTo_238 : decode cX12_reckonsTo 238 = .ok (.iaload, 1) := by decide +kernel
theorem dX12_reckonsTo_239 : decode cX12_reckonsTo 239 = .ok (.ireturn, 1) := by decide +kernel
theorem dX12_byLaw_0 : decode cX12_byLaw 0 = .ok (.iconst 0, 1) := by decide +kernel
theorem dX12_byLaw_1 : decode cX12_byLaw 1 = .ok (.istore 4, 2) := by decide +kernel
theorem dX12_byLaw_3 : decode cX12_byLaw 3 = .ok (.iload 4, 2) := by decide +kernel
theorem dX12_byLaw_5 : decode cX12_byLaw 5 = .ok (.aload_n 0, 1) := by decide +kernel
theorem dX12_byLaw_6 : decode cX12_byLaw 6 = .ok (.getfield 268, 3) := by decide +kernel
theorem dX12_byLaw_9 : decode cX12_byLaw 9 = .ok (.if_icmp .ge 87, 3) := by decide +kernel
theorem dX12_byLaw_12 : decode cX12_byLaw 12 = .ok (.aload_n 0, 1) := by decide +kernel
theorem dX12_byLaw_13 : decode cX12_byLaw 13 = .ok (.getfield 68, 3) := by decide +kernel
theorem dX12_byLaw_16 : decode cX12_byLaw 16 = .ok (.iload 4, 2) := by decide +kernel
theorem dX12_byLaw_18 : decode cX12_byLaw 18 = .ok (.iaload, 1) := by decide +kernel
theorem dX12_byLaw_19 : decode cX12_byLaw 19 = .ok (.iload_n 1, 1) := by decide +kernel
theorem dX12_byLaw_20 : decode cX12_byLaw 20 = .ok (.if_icmp .ne 70, 3) := by decide +kernel
theorem dX12_byLaw_23 : decode cX12_byLaw 23 = .ok (.aload_n 0, 1) := by decide +kernel
theorem dX12_byLaw_24 : decode cX12_byLaw 24 = .ok (.aload_n 0, 1) := by decide +kernel
theorem dX12_byLaw_25 : decode cX12_byLaw 25 = .ok (.getfield 74, 3) := by decide +kernel
theorem dX12_byLaw_28 : decode cX12_byLaw 28 = .ok (.iload 4, 2) := by decide +kernel
theorem dX12_byLaw_30 : decode cX12_byLaw 30 = .ok (.iaload, 1) := by decide +kernel
theorem dX12_byLaw_31 : decode cX12_byLaw 31 = .ok (.aload_n 0, 1) := by decide +kernel
theorem dX12_byLaw_32 : decode cX12_byLaw 32 = .ok (.getfield 77, 3) := by decide +kernel
theorem dX12_byLaw_35 : decode cX12_byLaw 35 = .ok (.iload 4, 2) := by decide +kernel
theorem dX12_byLaw_37 : decode cX12_byLaw 37 = .ok (.iaload, 1) := by decide +kernel
theorem dX12_byLaw_38 : decode cX12_byLaw 38 = .ok (.invokevirtual 275, 3) := by decide +kernel
theorem dX12_byLaw_41 : decode cX12_byLaw 41 = .ok (.iconst 1, 1) := by decide +kernel
theorem dX12_byLaw_42 : decode cX12_byLaw 42 = .ok (.if_icmp .eq 6, 3) := by decide +kernel
theorem dX12_byLaw_45 : decode cX12_byLaw 45 = .ok (.goto 45, 3) := by decide +kernel
theorem dX12_byLaw_48 : decode cX12_byLaw 48 = .ok (.aload_n 0, 1) := by decide +kernel
theorem dX12_byLaw_49 : decode cX12_byLaw 49 = .ok (.aload_n 0, 1) := by decide +kernel
theorem dX12_byLaw_50 : decode cX12_byLaw 50 = .ok (.getfield 71, 3) := by decide +kernel
theorem dX12_byLaw_53 : decode cX12_byLaw 53 = .ok (.iload 4, 2) := by decide +kernel
theorem dX12_byLaw_55 : decode cX12_byLaw 55 = .ok (.iaload, 1) := by decide +kernel
theorem dX12_byLaw_56 : decode cX12_byLaw 56 = .ok (.aload_n 0, 1) := by decide +kernel
theorem dX12_byLaw_57 : decode cX12_byLaw 57 = .ok (.getfield 74, 3) := by decide +kernel
theorem dX12_byLaw_60 : decode cX12_byLaw 60 = .ok (.iload 4, 2) := by decide +kernel
theorem dX12_byLaw_62 : decode cX12_byLaw 62 = .ok (.iaload, 1) := by decide +kernel
theorem dX12_byLaw_63 : decode cX12_byLaw 63 = .ok (.invokevirtual 275, 3) := by decide +kernel
theorem dX12_byLaw_66 : decode cX12_byLaw 66 = .ok (.istore 5, 2) := by decide +kernel
theorem dX12_byLaw_68 : decode cX12_byLaw 68 = .ok (.iload 5, 2) := by decide +kernel
theorem dX12_byLaw_70 : decode cX12_byLaw 70 = .ok (.ifCond .ge 7, 3) := by decide +kernel
theorem dX12_byLaw_73 : decode cX12_byLaw 73 = .ok (.iconst 0, 1) := by decide +kernel
theorem dX12_byLaw_74 : decode cX12_byLaw 74 = .ok (.goto 15, 3) := by decide +kernel
theorem dX12_byLaw_77 : decode cX12_byLaw 77 = .ok (.iload 5, 2) := by decide +kernel
theorem dX12_byLaw_79 : decode cX12_byLaw 79 = .ok (.iload_n 2, 1) := by decide +kernel
theorem dX12_byLaw_80 : decode cX12_byLaw 80 = .ok (.if_icmp .le 7, 3) := by decide +kernel
theorem dX12_byLaw_83 : decode cX12_byLaw 83 = .ok (.iload_n 2, 1) := by decide +kernel
theorem dX12_byLaw_84 : decode cX12_byLaw 84 = .ok (.goto 5, 3) := by decide +kernel
theorem dX12_byLaw_87 : decode cX12_byLaw 87 = .ok (.iload 5, 2) := by decide +kernel
theorem dX12_byLaw_89 : decode cX12_byLaw 89 = .ok (.ireturn, 1) := by decide +kernel
theorem dX12_byLaw_90 : decode cX12_byLaw 90 = .ok (.iinc 4 1, 3) := by decide +kernel
theorem dX12_byLaw_93 : decode cX12_byLaw 93 = .ok (.goto (-90), 3) := by decide +kernel
theorem dX12_byLaw_96 : decode cX12_byLaw 96 = .ok (.iload_n 3, 1) := by decide +kernel
theorem dX12_byLaw_97 : decode cX12_byLaw 97 = .ok (.ireturn, 1) := by decide +kernel
theorem dX12_holdsAny_0 : decode cX12_holdsAny 0 = .ok (.iconst 0, 1) := by decide +kernel
theorem dX12_holdsAny_1 : decode cX12_holdsAny 1 = .ok (.istore_n 2, 1) := by decide +kernel
theorem dX12_holdsAny_2 : decode cX12_holdsAny 2 = .ok (.iload_n 2, 1) := by decide +kernel
theorem dX12_holdsAny_3 : decode cX12_holdsAny 3 = .ok (.aload_n 0, 1) := by decide +kernel
theorem dX12_holdsAny_4 : decode cX12_holdsAny 4 = .ok (.getfield 268, 3) := by decide +kernel
theorem dX12_holdsAny_7 : decode cX12_holdsAny 7 = .ok (.if_icmp .ge 41, 3) := by decide +kernel
theorem dX12_holdsAny_10 : decode cX12_holdsAny 10 = .ok (.aload_n 0, 1) := by decide +kernel
theorem dX12_holdsAny_11 : decode cX12_holdsAny 11 = .ok (.getfield 68, 3) := by decide +kernel
theorem dX12_holdsAny_14 : decode cX12_holdsAny 14 = .ok (.iload_n 2, 1) := by decide +kernel
theorem dX12_holdsAny_15 : decode cX12_holdsAny 15 = .ok (.iaload, 1) := by decide +kernel
theorem dX12_holdsAny_16 : decode cX12_holdsAny 16 = .ok (.iload_n 1, 1) := by decide +kernel
theorem dX12_holdsAny_17 : decode cX12_holdsAny 17 = .ok (.if_icmp .ne 25, 3) := by decide +kernel
theorem dX12_holdsAny_20 : decode cX12_holdsAny 20 = .ok (.aload_n 0, 1) := by decide +kernel
theorem dX12_holdsAny_21 : decode cX12_holdsAny 21 = .ok (.aload_n 0, 1) := by decide +kernel
theorem dX12_holdsAny_22 : decode cX12_holdsAny 22 = .ok (.getfield 74, 3) := by decide +kernel
theorem dX12_holdsAny_25 : decode cX12_holdsAny 25 = .ok (.iload_n 2, 1) := by decide +kernel
theorem dX12_holdsAny_26 : decode cX12_holdsAny 26 = .ok (.iaload, 1) := by decide +kernel
theorem dX12_holdsAny_27 : decode cX12_holdsAny 27 = .ok (.aload_n 0, 1) := by decide +kernel
theorem dX12_holdsAny_28 : decode cX12_holdsAny 28 = .ok (.getfield 77, 3) := by decide +kernel
theorem dX12_holdsAny_31 : decode cX12_holdsAny 31 = .ok (.iload_n 2, 1) := by decide +kernel
theorem dX12_holdsAny_32 : decode cX12_holdsAny 32 = .ok (.iaload, 1) := by decide +kernel
theorem dX12_holdsAny_33 : decode cX12_holdsAny 33 = .ok (.invokevirtual 275, 3) := by decide +kernel
theorem dX12_holdsAny_36 : decode cX12_holdsAny 36 = .ok (.iconst 1, 1) := by decide +kernel
theorem dX12_holdsAny_37 : decode cX12_holdsAny 37 = .ok (.if_icmp .ne 5, 3) := by decide +kernel
theorem dX12_holdsAny_40 : decode cX12_holdsAny 40 = .ok (.iconst 1, 1) := by decide +kernel
theorem dX12_holdsAny_41 : decode cX12_holdsAny 41 = .ok (.ireturn, 1) := by decide +kernel
theorem dX12_holdsAny_42 : decode cX12_holdsAny 42 = .ok (.iinc 2 1, 3) := by decide +kernel
theorem dX12_holdsAny_45 : decode cX12_holdsAny 45 = .ok (.goto (-43), 3) := by decide +kernel
theorem dX12_holdsAny_48 : decode cX12_holdsAny 48 = .ok (.iconst 0, 1) := by decide +kernel
theorem dX12_holdsAny_49 : decode cX12_holdsAny 49 = .ok (.ireturn, 1) := by decide +kernel
theorem dX12_readsWithin_0 : decode cX12_readsWithin 0 = .ok (.aload_n 0, 1) := by decide +kernel
theorem dX12_readsWithin_1 : decode cX12_readsWithin 1 = .ok (.getfield 175, 3) := by decide +kernel
theorem dX12_readsWithin_4 : decode cX12_readsWithin 4 = .ok (.istore_n 2, 1) := by decide +kernel
theorem dX12_readsWithin_5 : decode cX12_readsWithin 5 = .ok (.aload_n 0, 1) := by decide +kernel
theorem dX12_readsWithin_6 : decode cX12_readsWithin 6 = .ok (.invokevirtual 195, 3) := by decide +kernel
theorem dX12_readsWithin_9 : decode cX12_readsWithin 9 = .ok (.ifCond .ne 13, 3) := by decide +kernel
theorem dX12_readsWithin_12 : decode cX12_readsWithin 12 = .ok (.aload_n 0, 1) := by decide +kernel
theorem dX12_readsWithin_13 : decode cX12_readsWithin 13 = .ok (.iconst 1, 1) := by decide +kernel
theorem dX12_readsWithin_14 : decode cX12_readsWithin 14 = .ok (.aload_n 0, 1) := by decide +kernel
theorem dX12_readsWithin_15 : decode cX12_readsWithin 15 = .ok (.getfield 175, 3) := by decide +kernel
theorem dX12_readsWithin_18 : decode cX12_readsWithin 18 = .ok (.invokevirtual 188, 3) := by decide +kernel
theorem dX12_readsWithin_21 : decode cX12_readsWithin 21 = .ok (.ireturn, 1) := by decide +kernel
theorem dX12_readsWithin_22 : decode cX12_readsWithin 22 = .ok (.aload_n 0, 1) := by decide +kernel
theorem dX12_readsWithin_23 : decode cX12_readsWithin 23 = .ok (.iconst 0, 1) := by decide +kernel
theorem dX12_readsWithin_24 : decode cX12_readsWithin 24 = .ok (.putfield 192, 3) := by decide +kernel
theorem dX12_readsWithin_27 : decode cX12_readsWithin 27 = .ok (.aload_n 0, 1) := by decide +kernel
theorem dX12_readsWithin_28 : decode cX12_readsWithin 28 = .ok (.invokevirtual 195, 3) := by decide +kernel
theorem dX12_readsWithin_31 : decode cX12_readsWithin 31 = .ok (.ifCond .eq 55, 3) := by decide +kernel
theorem dX12_readsWithin_34 : decode cX12_readsWithin 34 = .ok (.aload_n 0, 1) := by decide +kernel
theorem dX12_readsWithin_35 : decode cX12_readsWithin 35 = .ok (.getfield 175, 3) := by decide +kernel
theorem dX12_readsWithin_38 : decode cX12_readsWithin 38 = .ok (.iload_n 2, 1) := by decide +kernel
theorem dX12_readsWithin_39 : decode cX12_readsWithin 39 = .ok (.iconst 2, 1) := by decide +kernel
theorem dX12_readsWithin_40 : decode cX12_readsWithin 40 = .ok (.iadd, 1) := by decide +kernel
theorem dX12_readsWithin_41 : decode cX12_readsWithin 41 = .ok (.if_icmp .ne 13, 3) := by decide +kernel
theorem dX12_readsWithin_44 : decode cX12_readsWithin 44 = .ok (.aload_n 0, 1) := by decide +kernel
theorem dX12_readsWithin_45 : decode cX12_readsWithin 45 = .ok (.iconst 2, 1) := by decide +kernel
theorem dX12_readsWithin_46 : decode cX12_readsWithin 46 = .ok (.aload_n 0, 1) := by decide +kernel
theorem dX12_readsWithin_47 : decode cX12_readsWithin 47 = .ok (.getfield 175, 3) := by decide +kernel
theorem dX12_readsWithin_50 : decode cX12_readsWithin 50 = .ok (.invokevirtual 188, 3) := by decide +kernel
theorem dX12_readsWithin_53 : decode cX12_readsWithin 53 = .ok (.ireturn, 1) := by decide +kernel
theorem dX12_readsWithin_54 : decode cX12_readsWithin 54 = .ok (.aload_n 0, 1) := by decide +kernel
theorem dX12_readsWithin_55 : decode cX12_readsWithin 55 = .ok (.bipush 10, 2) := by decide +kernel
theorem dX12_readsWithin_57 : decode cX12_readsWithin 57 = .ok (.aload_n 0, 1) := by decide +kernel
theorem dX12_readsWithin_58 : decode cX12_readsWithin 58 = .ok (.getfield 192, 3) := by decide +kernel
theorem dX12_readsWithin_61 : decode cX12_readsWithin 61 = .ok (.imul, 1) := by decide +kernel
theorem dX12_readsWithin_62 : decode cX12_readsWithin 62 = .ok (.aload_n 0, 1) := by decide +kernel
theorem dX12_readsWithin_63 : decode cX12_readsWithin 63 = .ok (.invokevirtual 181, 3) := by decide +kernel
theorem dX12_readsWithin_66 : decode cX12_readsWithin 66 = .ok (.iadd, 1) := by decide +kernel
theorem dX12_readsWithin_67 : decode cX12_readsWithin 67 = .ok (.bipush 48, 2) := by decide +kernel
theorem dX12_readsWithin_69 : decode cX12_readsWithin 69 = .ok (.isub, 1) := by decide +kernel
theorem dX12_readsWithin_70 : decode cX12_readsWithin 70 = .ok (.putfield 192, 3) := by decide +kernel
theorem dX12_readsWithin_73 : decode cX12_readsWithin 73 = .ok (.aload_n 0, 1) := by decide +kernel
theorem dX12_readsWithin_74 : decode cX12_readsWithin 74 = .ok (.aload_n 0, 1) := by decide +kernel
theorem dX12_readsWithin_75 : decode cX12_readsWithin 75 = .ok (.getfield 175, 3) := by decide +kernel
theorem dX12_readsWithin_78 : decode cX12_readsWithin 78 = .ok (.iconst 1, 1) := by decide +kernel
theorem dX12_readsWithin_79 : decode cX12_readsWithin 79 = .ok (.iadd, 1) := by decide +kernel
theorem dX12_readsWithin_80 : decode cX12_readsWithin 80 = .ok (.putfield 175, 3) := by decide +kernel
theorem dX12_readsWithin_83 : decode cX12_readsWithin 83 = .ok (.goto (-56), 3) := by decide +kernel
theorem dX12_readsWithin_86 : decode cX12_readsWithin 86 = .ok (.aload_n 0, 1) := by decide +kernel
theorem dX12_readsWithin_87 : decode cX12_readsWithin 87 = .ok (.getfield 192, 3) := by decide +kernel
theorem dX12_readsWithin_90 : decode cX12_readsWithin 90 = .ok (.iload_n 1, 1) := by decide +kernel
theorem dX12_readsWithin_91 : decode cX12_readsWithin 91 = .ok (.if_icmp .le 12, 3) := by decide +kernel
theorem dX12_readsWithin_94 : decode cX12_readsWithin 94 = .ok (.aload_n 0, 1) := by decide +kernel
theorem dX12_readsWithin_95 : decode cX12_readsWithin 95 = .ok (.iconst 3, 1) := by decide +kernel
theorem dX12_readsWithin_96 : decode cX12_readsWithin 96 = .ok (.iload_n 2, 1) := by decide +kernel
theorem dX12_readsWithin_97 : decode cX12_readsWithin 97 = .ok (.invokevirtual 188, 3) := by decide +kernel
theorem dX12_readsWithin_100 : decode cX12_readsWithin 100 = .ok (.ifCond .eq 7, 3) := by decide +kernel
theorem dX12_readsWithin_103 : decode cX12_readsWithin 103 = .ok (.iconst 1, 1) := by decide +kernel
theorem dX12_readsWithin_104 : decode cX12_readsWithin 104 = .ok (.goto 4, 3) := by decide +kernel
theorem dX12_readsWithin_107 : decode cX12_readsWithin 107 = .ok (.iconst 0, 1) := by decide +kernel
theorem dX12_readsWithin_108 : decode cX12_readsWithin 108 = .ok (.ireturn, 1) := by decide +kernel
theorem dX12_isLetter_0 : decode cX12_isLetter 0 = .ok (.aload_n 0, 1) := by decide +kernel
theorem dX12_isLetter_1 : decode cX12_isLetter 1 = .ok (.invokevirtual 181, 3) := by decide +kernel
theorem dX12_isLetter_4 : decode cX12_isLetter 4 = .ok (.bipush 65, 2) := by decide +kernel
theorem dX12_isLetter_6 : decode cX12_isLetter 6 = .ok (.isub, 1) := by decide +kernel
theorem dX12_isLetter_7 : decode cX12_isLetter 7 = .ok (.iconst 0, 1) := by decide +kernel
theorem dX12_isLetter_8 : decode cX12_isLetter 8 = .ok (.bipush 15, 2) := by decide +kernel
theorem dX12_isLetter_10 : decode cX12_isLetter 10 = .ok (.invokestatic 156, 3) := by decide +kernel
theorem dX12_isLetter_13 : decode cX12_isLetter 13 = .ok (.ireturn, 1) := by decide +kernel
theorem dX12_readsInitials_0 : decode cX12_readsInitials 0 = .ok (.aload_n 0, 1) := by decide +kernel
theorem dX12_readsInitials_1 : decode cX12_readsInitials 1 = .ok (.invokevirtual 279, 3) := by decide +kernel
theorem dX12_readsInitials_4 : decode cX12_readsInitials 4 = .ok (.ifCond .ne 13, 3) := by decide +kernel
theorem dX12_readsInitials_7 : decode cX12_readsInitials 7 = .ok (.aload_n 0, 1) := by decide +kernel
theorem dX12_readsInitials_8 : decode cX12_readsInitials 8 = .ok (.iconst 1, 1) := by decide +kernel
theorem dX12_readsInitials_9 : decode cX12_readsInitials 9 = .ok (.aload_n 0, 1) := by decide +kernel
theorem dX12_readsInitials_10 : decode cX12_readsInitials 10 = .ok (.getfield 175, 3) := by decide +kernel
theorem dX12_readsInitials_13 : decode cX12_readsInitials 13 = .ok (.invokevirtual 188, 3) := by decide +kernel
theorem dX12_readsInitials_16 : decode cX12_readsInitials 16 = .ok (.ireturn, 1) := by decide +kernel
theorem dX12_readsInitials_17 : decode cX12_readsInitials 17 = .ok (.aload_n 0, 1) := by decide +kernel
theorem dX12_readsInitials_18 : decode cX12_readsInitials 18 = .ok (.getfield 89, 3) := by decide +kernel
theorem dX12_readsInitials_21 : decode cX12_readsInitials 21 = .ok (.iload_n 1, 1) := by decide +kernel
theorem dX12_readsInitials_22 : decode cX12_readsInitials 22 = .ok (.aload_n 0, 1) := by decide +kernel
theorem dX12_readsInitials_23 : decode cX12_readsInitials 23 = .ok (.invokevirtual 181, 3) := by decide +kernel
theorem dX12_readsInitials_26 : decode cX12_readsInitials 26 = .ok (.bipush 65, 2) := by decide +kernel
theorem dX12_readsInitials_28 : decode cX12_readsInitials 28 = .ok (.isub, 1) := by decide +kernel
theorem dX12_readsInitials_29 : decode cX12_readsInitials 29 = .ok (.iastore, 1) := by decide +kernel
theorem dX12_readsInitials_30 : decode cX12_readsInitials 30 = .ok (.aload_n 0, 1) := by decide +kernel
theorem dX12_readsInitials_31 : decode cX12_readsInitials 31 = .ok (.aload_n 0, 1) := by decide +kernel
theorem dX12_readsInitials_32 : decode cX12_readsInitials 32 = .ok (.getfield 175, 3) := by decide +kernel
theorem dX12_readsInitials_35 : decode cX12_readsInitials 35 = .ok (.iconst 1, 1) := by decide +kernel
theorem dX12_readsInitials_36 : decode cX12_readsInitials 36 = .ok (.iadd, 1) := by decide +kernel
theorem dX12_readsInitials_37 : decode cX12_readsInitials 37 = .ok (.putfield 175, 3) := by decide +kernel
theorem dX12_readsInitials_40 : decode cX12_readsInitials 40 = .ok (.aload_n 0, 1) := by decide +kernel
theorem dX12_readsInitials_41 : decode cX12_readsInitials 41 = .ok (.getfield 92, 3) := by decide +kernel
theorem dX12_readsInitials_44 : decode cX12_readsInitials 44 = .ok (.iload_n 1, 1) := by decide +kernel
theorem dX12_readsInitials_45 : decode cX12_readsInitials 45 = .ok (.aload_n 0, 1) := by decide +kernel
theorem dX12_readsInitials_46 : decode cX12_readsInitials 46 = .ok (.bipush 38, 2) := by decide +kernel
theorem dX12_readsInitials_48 : decode cX12_readsInitials 48 = .ok (.invokevirtual 282, 3) := by decide +kernel
theorem dX12_readsInitials_51 : decode cX12_readsInitials 51 = .ok (.iconst 1, 1) := by decide +kernel
theorem dX12_readsInitials_52 : decode cX12_readsInitials 52 = .ok (.if_icmp .ne 8, 3) := by decide +kernel
theorem dX12_readsInitials_55 : decode cX12_readsInitials 55 = .ok (.bipush (-3), 2) := by decide +kernel
theorem dX12_readsInitials_57 : decode cX12_readsInitials 57 = .ok (.goto 5, 3) := by decide +kernel
theorem dX12_readsInitials_60 : decode cX12_readsInitials 60 = .ok (.bipush (-2), 2) := by decide +kernel
theorem dX12_readsInitials_62 : decode cX12_readsInitials 62 = .ok (.iastore, 1) := by decide +kernel
theorem dX12_readsInitials_63 : decode cX12_readsInitials 63 = .ok (.aload_n 0, 1) := by decide +kernel
theorem dX12_readsInitials_64 : decode cX12_readsInitials 64 = .ok (.invokevirtual 279, 3) := by decide +kernel
theorem dX12_readsInitials_67 : decode cX12_readsInitials 67 = .ok (.ifCond .ne 5, 3) := by decide +kernel
theorem dX12_readsInitials_70 : decode cX12_readsInitials 70 = .ok (.iconst 1, 1) := by decide +kernel
theorem dX12_readsInitials_71 : decode cX12_readsInitials 71 = .ok (.ireturn, 1) := by decide +kernel
theorem dX12_readsInitials_72 : decode cX12_readsInitials 72 = .ok (.aload_n 0, 1) := by decide +kernel
theorem dX12_readsInitials_73 : decode cX12_readsInitials 73 = .ok (.invokevirtual 181, 3) := by decide +kernel
theorem dX12_readsInitials_76 : decode cX12_readsInitials 76 = .ok (.bipush 65, 2) := by decide +kernel
theorem dX12_readsInitials_78 : decode cX12_readsInitials 78 = .ok (.isub, 1) := by decide +kernel
theorem dX12_readsInitials_79 : decode cX12_readsInitials 79 = .ok (.aload_n 0, 1) := by decide +kernel
theorem dX12_readsInitials_80 : decode cX12_readsInitials 80 = .ok (.getfield 89, 3) := by decide +kernel
theorem dX12_readsInitials_83 : decode cX12_readsInitials 83 = .ok (.iload_n 1, 1) := by decide +kernel
theorem dX12_readsInitials_84 : decode cX12_readsInitials 84 = .ok (.iaload, 1) := by decide +kernel
theorem dX12_readsInitials_85 : decode cX12_readsInitials 85 = .ok (.if_icmp .ne 14, 3) := by decide +kernel
theorem dX12_readsInitials_88 : decode cX12_readsInitials 88 = .ok (.aload_n 0, 1) := by decide +kernel
theorem dX12_readsInitials_89 : decode cX12_readsInitials 89 = .ok (.bipush 6, 2) := by decide +kernel
theorem dX12_readsInitials_91 : decode cX12_readsInitials 91 = .ok (.aload_n 0, 1) := by decide +kernel
theorem dX12_readsInitials_92 : decode cX12_readsInitials 92 = .ok (.getfield 175, 3) := by decide +kernel
theorem dX12_readsInitials_95 : decode cX12_readsInitials 95 = .ok (.invokevirtual 188, 3) := by decide +kernel
theorem dX12_readsInitials_98 : decode cX12_readsInitials 98 = .ok (.ireturn, 1) := by decide +kernel
theorem dX12_readsInitials_99 : decode cX12_readsInitials 99 = .ok (.aload_n 0, 1) := by decide +kernel
theorem dX12_readsInitials_100 : decode cX12_readsInitials 100 = .ok (.getfield 92, 3) := by decide +kernel
theorem dX12_readsInitials_103 : decode cX12_readsInitials 103 = .ok (.iload_n 1, 1) := by decide +kernel
theorem dX12_readsInitials_104 : decode cX12_readsInitials 104 = .ok (.aload_n 0, 1) := by decide +kernel
theorem dX12_readsInitials_105 : decode cX12_readsInitials 105 = .ok (.invokevirtual 181, 3) := by decide +kernel
theorem dX12_readsInitials_108 : decode cX12_readsInitials 108 = .ok (.bipush 65, 2) := by decide +kernel
theorem dX12_readsInitials_110 : decode cX12_readsInitials 110 = .ok (.isub, 1) := by decide +kernel
theorem dX12_readsInitials_111 : decode cX12_readsInitials 111 = .ok (.iastore, 1) := by decide +kernel
theorem dX12_readsInitials_112 : decode cX12_readsInitials 112 = .ok (.aload_n 0, 1) := by decide +kernel
theorem dX12_readsInitials_113 : decode cX12_readsInitials 113 = .ok (.aload_n 0, 1) := by decide +kernel
theorem dX12_readsInitials_114 : decode cX12_readsInitials 114 = .ok (.getfield 175, 3) := by decide +kernel
theorem dX12_readsInitials_117 : decode cX12_readsInitials 117 = .ok (.iconst 1, 1) := by decide +kernel
theorem dX12_readsInitials_118 : decode cX12_readsInitials 118 = .ok (.iadd, 1) := by decide +kernel
theorem dX12_readsInitials_119 : decode cX12_readsInitials 119 = .ok (.putfield 175, 3) := by decide +kernel
theorem dX12_readsInitials_122 : decode cX12_readsInitials 122 = .ok (.iconst 1, 1) := by decide +kernel
theorem dX12_readsInitials_123 : decode cX12_readsInitials 123 = .ok (.ireturn, 1) := by decide +kernel
theorem dX12_readsDate_0 : decode cX12_readsDate 0 = .ok (.aload_n 0, 1) := by decide +kernel
theorem dX12_readsDate_1 : decode cX12_readsDate 1 = .ok (.getfield 104, 3) := by decide +kernel
theorem dX12_readsDate_4 : decode cX12_readsDate 4 = .ok (.iload_n 1, 1) := by decide +kernel
theorem dX12_readsDate_5 : decode cX12_readsDate 5 = .ok (.bipush (-2), 2) := by decide +kernel
theorem dX12_readsDate_7 : decode cX12_readsDate 7 = .ok (.iastore, 1) := by decide +kernel
theorem dX12_readsDate_8 : decode cX12_readsDate 8 = .ok (.aload_n 0, 1) := by decide +kernel
theorem dX12_readsDate_9 : decode cX12_readsDate 9 = .ok (.invokevirtual 195, 3) := by decide +kernel
theorem dX12_readsDate_12 : decode cX12_readsDate 12 = .ok (.ifCond .ne 5, 3) := by decide +kernel
theorem dX12_readsDate_15 : decode cX12_readsDate 15 = .ok (.iconst 1, 1) := by decide +kernel
theorem dX12_readsDate_16 : decode cX12_readsDate 16 = .ok (.ireturn, 1) := by decide +kernel
theorem dX12_readsDate_17 : decode cX12_readsDate 17 = .ok (.aload_n 0, 1) := by decide +kernel
theorem dX12_readsDate_18 : decode cX12_readsDate 18 = .ok (.invokevirtual 181, 3) := by decide +kernel
theorem dX12_readsDate_21 : decode cX12_readsDate 21 = .ok (.bipush 48, 2) := by decide +kernel
theorem dX12_readsDate_23 : decode cX12_readsDate 23 = .ok (.isub, 1) := by decide +kernel
theorem dX12_readsDate_24 : decode cX12_readsDate 24 = .ok (.istore_n 2, 1) := by decide +kernel
theorem dX12_readsDate_25 : decode cX12_readsDate 25 = .ok (.aload_n 0, 1) := by decide +kernel
theorem dX12_readsDate_26 : decode cX12_readsDate 26 = .ok (.aload_n 0, 1) := by decide +kernel
theorem dX12_readsDate_27 : decode cX12_readsDate 27 = .ok (.getfield 175, 3) := by decide +kernel
theorem dX12_readsDate_30 : decode cX12_readsDate 30 = .ok (.iconst 1, 1) := by decide +kernel
theorem dX12_readsDate_31 : decode cX12_readsDate 31 = .ok (.iadd, 1) := by decide +kernel
theorem dX12_readsDate_32 : decode cX12_readsDate 32 = .ok (.putfield 175, 3) := by decide +kernel
theorem dX12_readsDate_35 : decode cX12_readsDate 35 = .ok (.aload_n 0, 1) := by decide +kernel
theorem dX12_readsDate_36 : decode cX12_readsDate 36 = .ok (.invokevirtual 195, 3) := by decide +kernel
theorem dX12_readsDate_39 : decode cX12_readsDate 39 = .ok (.ifCond .ne 13, 3) := by decide +kernel
theorem dX12_readsDate_42 : decode cX12_readsDate 42 = .ok (.aload_n 0, 1) := by decide +kernel
theorem dX12_readsDate_43 : decode cX12_readsDate 43 = .ok (.iconst 1, 1) := by decide +kernel
theorem dX12_readsDate_44 : decode cX12_readsDate 44 = .ok (.aload_n 0, 1) := by decide +kernel
theorem dX12_readsDate_45 : decode cX12_readsDate 45 = .ok (.getfield 175, 3) := by decide +kernel
theorem dX12_readsDate_48 : decode cX12_readsDate 48 = .ok (.invokevirtual 188, 3) := by decide +kernel
theorem dX12_readsDate_51 : decode cX12_readsDate 51 = .ok (.ireturn, 1) := by decide +kernel
theorem dX12_readsDate_52 : decode cX12_readsDate 52 = .ok (.aload_n 0, 1) := by decide +kernel
theorem dX12_readsDate_53 : decode cX12_readsDate 53 = .ok (.getfield 104, 3) := by decide +kernel
theorem dX12_readsDate_56 : decode cX12_readsDate 56 = .ok (.iload_n 1, 1) := by decide +kernel
theorem dX12_readsDate_57 : decode cX12_readsDate 57 = .ok (.bipush 10, 2) := by decide +kernel
theorem dX12_readsDate_59 : decode cX12_readsDate 59 = .ok (.iload_n 2, 1) := by decide +kernel
theorem dX12_readsDate_60 : decode cX12_readsDate 60 = .ok (.imul, 1) := by decide +kernel
theorem dX12_readsDate_61 : decode cX12_readsDate 61 = .ok (.aload_n 0, 1) := by decide +kernel
theorem dX12_readsDate_62 : decode cX12_readsDate 62 = .ok (.invokevirtual 181, 3) := by decide +kernel
theorem dX12_readsDate_65 : decode cX12_readsDate 65 = .ok (.iadd, 1) := by decide +kernel
theorem dX12_readsDate_66 : decode cX12_readsDate 66 = .ok (.bipush 48, 2) := by decide +kernel
theorem dX12_readsDate_68 : decode cX12_readsDate 68 = .ok (.isub, 1) := by decide +kernel
theorem dX12_readsDate_69 : decode cX12_readsDate 69 = .ok (.iastore, 1) := by decide +kernel
theorem dX12_readsDate_70 : decode cX12_readsDate 70 = .ok (.aload_n 0, 1) := by decide +kernel
theorem dX12_readsDate_71 : decode cX12_readsDate 71 = .ok (.aload_n 0, 1) := by decide +kernel
theorem dX12_readsDate_72 : decode cX12_readsDate 72 = .ok (.getfield 175, 3) := by decide +kernel
theorem dX12_readsDate_75 : decode cX12_readsDate 75 = .ok (.iconst 1, 1) := by decide +kernel
theorem dX12_readsDate_76 : decode cX12_readsDate 76 = .ok (.iadd, 1) := by decide +kernel
theorem dX12_readsDate_77 : decode cX12_readsDate 77 = .ok (.putfield 175, 3) := by decide +kernel
theorem dX12_readsDate_80 : decode cX12_readsDate 80 = .ok (.iconst 1, 1) := by decide +kernel
theorem dX12_readsDate_81 : decode cX12_readsDate 81 = .ok (.ireturn, 1) := by decide +kernel
theorem dX12_passes_0 : decode cX12_passes 0 = .ok (.aload_n 0, 1) := by decide +kernel
theorem dX12_passes_1 : decode cX12_passes 1 = .ok (.invokevirtual 181, 3) := by decide +kernel
theorem dX12_passes_4 : decode cX12_passes 4 = .ok (.iload_n 1, 1) := by decide +kernel
theorem dX12_passes_5 : decode cX12_passes 5 = .ok (.if_icmp .eq 5, 3) := by decide +kernel
theorem dX12_passes_8 : decode cX12_passes 8 = .ok (.iconst 0, 1) := by decide +kernel
theorem dX12_passes_9 : decode cX12_passes 9 = .ok (.ireturn, 1) := by decide +kernel
theorem dX12_passes_10 : decode cX12_passes 10 = .ok (.aload_n 0, 1) := by decide +kernel
theorem dX12_passes_11 : decode cX12_passes 11 = .ok (.aload_n 0, 1) := by decide +kernel
theorem dX12_passes_12 : decode cX12_passes 12 = .ok (.getfield 175, 3) := by decide +kernel
theorem dX12_passes_15 : decode cX12_passes 15 = .ok (.iconst 1, 1) := by decide +kernel
theorem dX12_passes_16 : decode cX12_passes 16 = .ok (.iadd, 1) := by decide +kernel
theorem dX12_passes_17 : decode cX12_passes 17 = .ok (.putfield 175, 3) := by decide +kernel
theorem dX12_passes_20 : decode cX12_passes 20 = .ok (.iconst 1, 1) := by decide +kernel
theorem dX12_passes_21 : decode cX12_passes 21 = .ok (.ireturn, 1) := by decide +kernel
theorem dX12_readsCut_0 : decode cX12_readsCut 0 = .ok (.aload_n 0, 1) := by decide +kernel
theorem dX12_readsCut_1 : decode cX12_readsCut 1 = .ok (.invokevirtual 195, 3) := by decide +kernel
theorem dX12_readsCut_4 : decode cX12_readsCut 4 = .ok (.ifCond .ne 13, 3) := by decide +kernel
theorem dX12_readsCut_7 : decode cX12_readsCut 7 = .ok (.aload_n 0, 1) := by decide +kernel
theorem dX12_readsCut_8 : decode cX12_readsCut 8 = .ok (.iconst 1, 1) := by decide +kernel
theorem dX12_readsCut_9 : decode cX12_readsCut 9 = .ok (.aload_n 0, 1) := by decide +kernel
theorem dX12_readsCut_10 : decode cX12_readsCut 10 = .ok (.getfield 175, 3) := by decide +kernel
theorem dX12_readsCut_13 : decode cX12_readsCut 13 = .ok (.invokevirtual 188, 3) := by decide +kernel
theorem dX12_readsCut_16 : decode cX12_readsCut 16 = .ok (.ireturn, 1) := by decide +kernel
theorem dX12_readsCut_17 : decode cX12_readsCut 17 = .ok (.aload_n 0, 1) := by decide +kernel
theorem dX12_readsCut_18 : decode cX12_readsCut 18 = .ok (.getfield 285, 3) := by decide +kernel
theorem dX12_readsCut_21 : decode cX12_readsCut 21 = .ok (.bipush 16, 2) := by decide +kernel
theorem dX12_readsCut_23 : decode cX12_readsCut 23 = .ok (.if_icmp .ne 13, 3) := by decide +kernel
theorem dX12_readsCut_26 : decode cX12_readsCut 26 = .ok (.aload_n 0, 1) := by decide +kernel
theorem dX12_readsCut_27 : decode cX12_readsCut 27 = .ok (.iconst 4, 1) := by decide +kernel
theorem dX12_readsCut_28 : decode cX12_readsCut 28 = .ok (.aload_n 0, 1) := by decide +kernel
theorem dX12_readsCut_29 : decode cX12_readsCut 29 = .ok (.getfield 175, 3) := by decide +kernel
theorem dX12_readsCut_32 : decode cX12_readsCut 32 = .ok (.invokevirtual 188, 3) := by decide +kernel
theorem dX12_readsCut_35 : decode cX12_readsCut 35 = .ok (.ireturn, 1) := by decide +kernel
theorem dX12_readsCut_36 : decode cX12_readsCut 36 = .ok (.aload_n 0, 1) := by decide +kernel
theorem dX12_readsCut_37 : decode cX12_readsCut 37 = .ok (.getfield 285, 3) := by decide +kernel
theorem dX12_readsCut_40 : decode cX12_readsCut 40 = .ok (.istore_n 1, 1) := by decide +kernel
theorem dX12_readsCut_41 : decode cX12_readsCut 41 = .ok (.aload_n 0, 1) := by decide +kernel
theorem dX12_readsCut_42 : decode cX12_readsCut 42 = .ok (.aload_n 0, 1) := by decide +kernel
theorem dX12_readsCut_43 : decode cX12_readsCut 43 = .ok (.getfield 285, 3) := by decide +kernel
theorem dX12_readsCut_46 : decode cX12_readsCut 46 = .ok (.iconst 1, 1) := by decide +kernel
theorem dX12_readsCut_47 : decode cX12_readsCut 47 = .ok (.iadd, 1) := by decide +kernel
theorem dX12_readsCut_48 : decode cX12_readsCut 48 = .ok (.putfield 285, 3) := by decide +kernel
theorem dX12_readsCut_51 : decode cX12_readsCut 51 = .ok (.aload_n 0, 1) := by decide +kernel
theorem dX12_readsCut_52 : decode cX12_readsCut 52 = .ok (.bipush 23, 2) := by decide +kernel
theorem dX12_readsCut_54 : decode cX12_readsCut 54 = .ok (.invokevirtual 288, 3) := by decide +kernel
theorem dX12_readsCut_57 : decode cX12_readsCut 57 = .ok (.ifCond .ne 5, 3) := by decide +kernel
theorem dX12_readsCut_60 : decode cX12_readsCut 60 = .ok (.iconst 0, 1) := by decide +kernel
theorem dX12_readsCut_61 : decode cX12_readsCut 61 = .ok (.ireturn, 1) := by decide +kernel
theorem dX12_readsCut_62 : decode cX12_readsCut 62 = .ok (.aload_n 0, 1) := by decide +kernel
theorem dX12_readsCut_63 : decode cX12_readsCut 63 = .ok (.getfield 192, 3) := by decide +kernel
theorem dX12_readsCut_66 : decode cX12_readsCut 66 = .ok (.istore_n 2, 1) := by decide +kernel
theorem dX12_readsCut_67 : decode cX12_readsCut 67 = .ok (.aload_n 0, 1) := by decide +kernel
theorem dX12_readsCut_68 : decode cX12_readsCut 68 = .ok (.bipush 44, 2) := by decide +kernel
theorem dX12_readsCut_70 : decode cX12_readsCut 70 = .ok (.invokevirtual 265, 3) := by decide +kernel
theorem dX12_readsCut_73 : decode cX12_readsCut 73 = .ok (.ifCond .eq 12, 3) := by decide +kernel
theorem dX12_readsCut_76 : decode cX12_readsCut 76 = .ok (.aload_n 0, 1) := by decide +kernel
theorem dX12_readsCut_77 : decode cX12_readsCut 77 = .ok (.bipush 15, 2) := by decide +kernel
theorem dX12_readsCut_79 : decode cX12_readsCut 79 = .ok (.invokevirtual 288, 3) := by decide +kernel
theorem dX12_readsCut_82 : decode cX12_readsCut 82 = .ok (.ifCond .ne 5, 3) := by decide +kernel
theorem dX12_readsCut_85 : decode cX12_readsCut 85 = .ok (.iconst 0, 1) := by decide +kernel
theorem dX12_readsCut_86 : decode cX12_readsCut 86 = .ok (.ireturn, 1) := by decide +kernel
theorem dX12_readsCut_87 : decode cX12_readsCut 87 = .ok (.aload_n 0, 1) := by decide +kernel
theorem dX12_readsCut_88 : decode cX12_readsCut 88 = .ok (.getfield 86, 3) := by decide +kernel
theorem dX12_readsCut_91 : decode cX12_readsCut 91 = .ok (.iload_n 1, 1) := by decide +kernel
theorem dX12_readsCut_92 : decode cX12_readsCut 92 = .ok (.bipush 24, 2) := by decide +kernel
theorem dX12_readsCut_94 : decode cX12_readsCut 94 = .ok (.aload_n 0, 1) := by decide +kernel
theorem dX12_readsCut_95 : decode cX12_readsCut 95 = .ok (.getfield 192, 3) := by decide +kernel
theorem dX12_readsCut_98 : decode cX12_readsCut 98 = .ok (.imul, 1) := by decide +kernel
theorem dX12_readsCut_99 : decode cX12_readsCut 99 = .ok (.iload_n 2, 1) := by decide +kernel
theorem dX12_readsCut_100 : decode cX12_readsCut 100 = .ok (.iadd, 1) := by decide +kernel
theorem dX12_readsCut_101 : decode cX12_readsCut 101 = .ok (.iastore, 1) := by decide +kernel
theorem dX12_readsCut_102 : decode cX12_readsCut 102 = .ok (.aload_n 0, 1) := by decide +kernel
theorem dX12_readsCut_103 : decode cX12_readsCut 103 = .ok (.bipush 58, 2) := by decide +kernel
theorem dX12_readsCut_105 : decode cX12_readsCut 105 = .ok (.invokevirtual 265, 3) := by decide +kernel
theorem dX12_readsCut_108 : decode cX12_readsCut 108 = .ok (.ifCond .ne 5, 3) := by decide +kernel
theorem dX12_readsCut_111 : decode cX12_readsCut 111 = .ok (.iconst 0, 1) := by decide +kernel
theorem dX12_readsCut_112 : decode cX12_readsCut 112 = .ok (.ireturn, 1) := by decide +kernel
theorem dX12_readsCut_113 : decode cX12_readsCut 113 = .ok (.aload_n 0, 1) := by decide +kernel
theorem dX12_readsCut_114 : decode cX12_readsCut 114 = .ok (.getfield 98, 3) := by decide +kernel
theorem dX12_readsCut_117 : decode cX12_readsCut 117 = .ok (.iload_n 1, 1) := by decide +kernel
theorem dX12_readsCut_118 : decode cX12_readsCut 118 = .ok (.aload_n 0, 1) := by decide +kernel
theorem dX12_readsCut_119 : decode cX12_readsCut 119 = .ok (.bipush 120, 2) := by decide +kernel
theorem dX12_readsCut_121 : decode cX12_readsCut 121 = .ok (.invokevirtual 282, 3) := by decide +kernel
theorem dX12_readsCut_124 : decode cX12_readsCut 124 = .ok (.iastore, 1) := by decide +kernel
theorem dX12_readsCut_125 : decode cX12_readsCut 125 = .ok (.aload_n 0, 1) := by decide +kernel
theorem dX12_readsCut_126 : decode cX12_readsCut 126 = .ok (.getfield 95, 3) := by decide +kernel
theorem dX12_readsCut_129 : decode cX12_readsCut 129 = .ok (.iload_n 1, 1) := by decide +kernel
theorem dX12_readsCut_130 : decode cX12_readsCut 130 = .ok (.aload_n 0, 1) := by decide +kernel
theorem dX12_readsCut_131 : decode cX12_readsCut 131 = .ok (.bipush 91, 2) := by decide +kernel
theorem dX12_readsCut_133 : decode cX12_readsCut 133 = .ok (.invokevirtual 282, 3) := by decide +kernel
theorem dX12_readsCut_136 : decode cX12_readsCut 136 = .ok (.iastore, 1) := by decide +kernel
theorem dX12_readsCut_137 : decode cX12_readsCut 137 = .ok (.aload_n 0, 1) := by decide +kernel
theorem dX12_readsCut_138 : decode cX12_readsCut 138 = .ok (.iload_n 1, 1) := by decide +kernel
theorem dX12_readsCut_139 : decode cX12_readsCut 139 = .ok (.invokevirtual 291, 3) := by decide +kernel
theorem dX12_readsCut_142 : decode cX12_readsCut 142 = .ok (.ifCond .ne 5, 3) := by decide +kernel
theorem dX12_readsCut_145 : decode cX12_readsCut 145 = .ok (.iconst 0, 1) := by decide +kernel
theorem dX12_readsCut_146 : decode cX12_readsCut 146 = .ok (.ireturn, 1) := by decide +kernel
theorem dX12_readsCut_147 : decode cX12_readsCut 147 = .ok (.aload_n 0, 1) := by decide +kernel
theorem dX12_readsCut_148 : decode cX12_readsCut 148 = .ok (.getfield 95, 3) := by decide +kernel
theorem dX12_readsCut_151 : decode cX12_readsCut 151 = .ok (.iload_n 1, 1) := by decide +kernel
theorem dX12_readsCut_152 : decode cX12_readsCut 152 = .ok (.iaload, 1) := by decide +kernel
theorem dX12_readsCut_153 : decode cX12_readsCut 153 = .ok (.iconst 1, 1) := by decide +kernel
theorem dX12_readsCut_154 : decode cX12_readsCut 154 = .ok (.if_icmp .ne 14, 3) := by decide +kernel
theorem dX12_readsCut_157 : decode cX12_readsCut 157 = .ok (.aload_n 0, 1) := by decide +kernel
theorem dX12_readsCut_158 : decode cX12_readsCut 158 = .ok (.bipush 93, 2) := by decide +kernel
theorem dX12_readsCut_160 : decode cX12_readsCut 160 = .ok (.invokevirtual 265, 3) := by decide +kernel
theorem dX12_readsCut_163 : decode cX12_readsCut 163 = .ok (.ifCond .ne 5, 3) := by decide +kernel
theorem dX12_readsCut_166 : decode cX12_readsCut 166 = .ok (.iconst 0, 1) := by decide +kernel
theorem dX12_readsCut_167 : decode cX12_readsCut 167 = .ok (.ireturn, 1) := by decide +kernel
theorem dX12_readsCut_168 : decode cX12_readsCut 168 = .ok (.aload_n 0, 1) := by decide +kernel
theorem dX12_readsCut_169 : decode cX12_readsCut 169 = .ok (.iload_n 1, 1) := by decide +kernel
theorem dX12_readsCut_170 : decode cX12_readsCut 170 = .ok (.invokevirtual 294, 3) := by decide +kernel
theorem dX12_readsCut_173 : decode cX12_readsCut 173 = .ok (.ifCond .ne 5, 3) := by decide +kernel
theorem dX12_readsCut_176 : decode cX12_readsCut 176 = .ok (.iconst 0, 1) := by decide +kernel
theorem dX12_readsCut_177 : decode cX12_readsCut 177 = .ok (.ireturn, 1) := by decide +kernel
theorem dX12_readsCut_178 : decode cX12_readsCut 178 = .ok (.aload_n 0, 1) := by decide +kernel
theorem dX12_readsCut_179 : decode cX12_readsCut 179 = .ok (.getfield 101, 3) := by decide +kernel
theorem dX12_readsCut_182 : decode cX12_readsCut 182 = .ok (.iload_n 1, 1) := by decide +kernel
theorem dX12_readsCut_183 : decode cX12_readsCut 183 = .ok (.aload_n 0, 1) := by decide +kernel
theorem dX12_readsCut_184 : decode cX12_readsCut 184 = .ok (.bipush 62, 2) := by decide +kernel
theorem dX12_readsCut_186 : decode cX12_readsCut 186 = .ok (.invokevirtual 282, 3) := by decide +kernel
theorem dX12_readsCut_189 : decode cX12_readsCut 189 = .ok (.iastore, 1) := by decide +kernel
theorem dX12_readsCut_190 : decode cX12_readsCut 190 = .ok (.iconst 1, 1) := by decide +kernel
theorem dX12_readsCut_191 : decode cX12_readsCut 191 = .ok (.ireturn, 1) := by decide +kernel
theorem dX12_bark_0 : decode cX12_bark 0 = .ok (.iload_n 1, 1) := by decide +kernel
theorem dX12_bark_1 : decode cX12_bark 1 = .ok (.iconst 1, 1) := by decide +kernel
theorem dX12_bark_2 : decode cX12_bark 2 = .ok (.sipush 160, 3) := by decide +kernel
theorem dX12_bark_5 : decode cX12_bark 5 = .ok (.invokestatic 156, 3) := by decide +kernel
theorem dX12_bark_8 : decode cX12_bark 8 = .ok (.ifCond .eq 11, 3) := by decide +kernel
theorem dX12_bark_11 : decode cX12_bark 11 = .ok (.iload_n 1, 1) := by decide +kernel
theorem dX12_bark_12 : decode cX12_bark 12 = .ok (.aload_n 0, 1) := by decide +kernel
theorem dX12_bark_13 : decode cX12_bark 13 = .ok (.getfield 168, 3) := by decide +kernel
theorem dX12_bark_16 : decode cX12_bark 16 = .ok (.if_icmp .le 5, 3) := by decide +kernel
theorem dX12_bark_19 : decode cX12_bark 19 = .ok (.iconst (-1), 1) := by decide +kernel
theorem dX12_bark_20 : decode cX12_bark 20 = .ok (.ireturn, 1) := by decide +kernel
theorem dX12_bark_21 : decode cX12_bark 21 = .ok (.aload_n 0, 1) := by decide +kernel
theorem dX12_bark_22 : decode cX12_bark 22 = .ok (.iload_n 1, 1) := by decide +kernel
theorem dX12_bark_23 : decode cX12_bark 23 = .ok (.invokevirtual 259, 3) := by decide +kernel
theorem dX12_bark_26 : decode cX12_bark 26 = .ok (.aload_n 0, 1) := by decide +kernel
theorem dX12_bark_27 : decode cX12_bark 27 = .ok (.iconst 0, 1) := by decide +kernel
theorem dX12_bark_28 : decode cX12_bark 28 = .ok (.putfield 285, 3) := by decide +kernel
theorem dX12_bark_31 : decode cX12_bark 31 = .ok (.aload_n 0, 1) := by decide +kernel
theorem dX12_bark_32 : decode cX12_bark 32 = .ok (.invokevirtual 297, 3) := by decide +kernel
theorem dX12_bark_35 : decode cX12_bark 35 = .ok (.istore_n 2, 1) := by decide +kernel
theorem dX12_bark_36 : decode cX12_bark 36 = .ok (.iload_n 2, 1) := by decide +kernel
theorem dX12_bark_37 : decode cX12_bark 37 = .ok (.ifCond .eq 39, 3) := by decide +kernel
theorem dX12_bark_40 : decode cX12_bark 40 = .ok (.aload_n 0, 1) := by decide +kernel
theorem dX12_bark_41 : decode cX12_bark 41 = .ok (.getfield 175, 3) := by decide +kernel
theorem dX12_bark_44 : decode cX12_bark 44 = .ok (.aload_n 0, 1) := by decide +kernel
theorem dX12_bark_45 : decode cX12_bark 45 = .ok (.getfield 178, 3) := by decide +kernel
theorem dX12_bark_48 : decode cX12_bark 48 = .ok (.if_icmp .ge 28, 3) := by decide +kernel
theorem dX12_bark_51 : decode cX12_bark 51 = .ok (.aload_n 0, 1) := by decide +kernel
theorem dX12_bark_52 : decode cX12_bark 52 = .ok (.bipush 59, 2) := by decide +kernel
theorem dX12_bark_54 : decode cX12_bark 54 = .ok (.invokevirtual 265, 3) := by decide +kernel
theorem dX12_bark_57 : decode cX12_bark 57 = .ok (.ifCond .eq 14, 3) := by decide +kernel
theorem dX12_bark_60 : decode cX12_bark 60 = .ok (.aload_n 0, 1) := by decide +kernel
theorem dX12_bark_61 : decode cX12_bark 61 = .ok (.invokevirtual 297, 3) := by decide +kernel
theorem dX12_bark_64 : decode cX12_bark 64 = .ok (.ifCond .eq 7, 3) := by decide +kernel
theorem dX12_bark_67 : decode cX12_bark 67 = .ok (.iconst 1, 1) := by decide +kernel
theorem dX12_bark_68 : decode cX12_bark 68 = .ok (.goto 4, 3) := by decide +kernel
theorem dX12_bark_71 : decode cX12_bark 71 = .ok (.iconst 0, 1) := by decide +kernel
theorem dX12_bark_72 : decode cX12_bark 72 = .ok (.istore_n 2, 1) := by decide +kernel
theorem dX12_bark_73 : decode cX12_bark 73 = .ok (.goto (-37), 3) := by decide +kernel
theorem dX12_bark_76 : decode cX12_bark 76 = .ok (.aload_n 0, 1) := by decide +kernel
theorem dX12_bark_77 : decode cX12_bark 77 = .ok (.iconst 0, 1) := by decide +kernel
theorem dX12_bark_78 : decode cX12_bark 78 = .ok (.putfield 168, 3) := by decide +kernel
theorem dX12_bark_81 : decode cX12_bark 81 = .ok (.iload_n 2, 1) := by decide +kernel
theorem dX12_bark_82 : decode cX12_bark 82 = .ok (.ifCond .ne 8, 3) := by decide +kernel
theorem dX12_bark_85 : decode cX12_bark 85 = .ok (.aload_n 0, 1) := by decide +kernel
theorem dX12_bark_86 : decode cX12_bark 86 = .ok (.getfield 185, 3) := by decide +kernel
theorem dX12_bark_89 : decode cX12_bark 89 = .ok (.ireturn, 1) := by decide +kernel
theorem dX12_bark_90 : decode cX12_bark 90 = .ok (.aload_n 0, 1) := by decide +kernel
theorem dX12_bark_91 : decode cX12_bark 91 = .ok (.aload_n 0, 1) := by decide +kernel
theorem dX12_bark_92 : decode cX12_bark 92 = .ok (.getfield 285, 3) := by decide +kernel
theorem dX12_bark_95 : decode cX12_bark 95 = .ok (.putfield 152, 3) := by decide +kernel
theorem dX12_bark_98 : decode cX12_bark 98 = .ok (.iconst 0, 1) := by decide +kernel
theorem dX12_bark_99 : decode cX12_bark 99 = .ok (.istore_n 3, 1) := by decide +kernel
theorem dX12_bark_100 : decode cX12_bark 100 = .ok (.iload_n 3, 1) := by decide +kernel
theorem dX12_bark_101 : decode cX12_bark 101 = .ok (.aload_n 0, 1) := by decide +kernel
theorem dX12_bark_102 : decode cX12_bark 102 = .ok (.getfield 152, 3) := by decide +kernel
theorem dX12_bark_105 : decode cX12_bark 105 = .ok (.if_icmp .ge 160, 3) := by decide +kernel
theorem dX12_bark_108 : decode cX12_bark 108 = .ok (.aload_n 0, 1) := by decide +kernel
theorem dX12_bark_109 : decode cX12_bark 109 = .ok (.getfield 19, 3) := by decide +kernel
theorem dX12_bark_112 : decode cX12_bark 112 = .ok (.iload_n 3, 1) := by decide +kernel
theorem dX12_bark_113 : decode cX12_bark 113 = .ok (.aload_n 0, 1) := by decide +kernel
theorem dX12_bark_114 : decode cX12_bark 114 = .ok (.getfield 86, 3) := by decide +kernel
theorem dX12_bark_117 : decode cX12_bark 117 = .ok (.iload_n 3, 1) := by decide +kernel
theorem dX12_bark_118 : decode cX12_bark 118 = .ok (.iaload, 1) := by decide +kernel
theorem dX12_bark_119 : decode cX12_bark 119 = .ok (.iastore, 1) := by decide +kernel
theorem dX12_bark_120 : decode cX12_bark 120 = .ok (.aload_n 0, 1) := by decide +kernel
theorem dX12_bark_121 : decode cX12_bark 121 = .ok (.getfield 22, 3) := by decide +kernel
theorem dX12_bark_124 : decode cX12_bark 124 = .ok (.iload_n 3, 1) := by decide +kernel
theorem dX12_bark_125 : decode cX12_bark 125 = .ok (.aload_n 0, 1) := by decide +kernel
theorem dX12_bark_126 : decode cX12_bark 126 = .ok (.getfield 89, 3) := by decide +kernel
theorem dX12_bark_129 : decode cX12_bark 129 = .ok (.iload_n 3, 1) := by decide +kernel
theorem dX12_bark_130 : decode cX12_bark 130 = .ok (.iaload, 1) := by decide +kernel
theorem dX12_bark_131 : decode cX12_bark 131 = .ok (.iastore, 1) := by decide +kernel
theorem dX12_bark_132 : decode cX12_bark 132 = .ok (.aload_n 0, 1) := by decide +kernel
theorem dX12_bark_133 : decode cX12_bark 133 = .ok (.getfield 25, 3) := by decide +kernel
theorem dX12_bark_136 : decode cX12_bark 136 = .ok (.iload_n 3, 1) := by decide +kernel
theorem dX12_bark_137 : decode cX12_bark 137 = .ok (.aload_n 0, 1) := by decide +kernel
theorem dX12_bark_138 : decode cX12_bark 138 = .ok (.getfield 92, 3) := by decide +kernel
theorem dX12_bark_141 : decode cX12_bark 141 = .ok (.iload_n 3, 1) := by decide +kernel
theorem dX12_bark_142 : decode cX12_bark 142 = .ok (.iaload, 1) := by decide +kernel
theorem dX12_bark_143 : decode cX12_bark 143 = .ok (.iastore, 1) := by decide +kernel
theorem dX12_bark_144 : decode cX12_bark 144 = .ok (.aload_n 0, 1) := by decide +kernel
theorem dX12_bark_145 : decode cX12_bark 145 = .ok (.getfield 28, 3) := by decide +kernel
theorem dX12_bark_148 : decode cX12_bark 148 = .ok (.iload_n 3, 1) := by decide +kernel
theorem dX12_bark_149 : decode cX12_bark 149 = .ok (.aload_n 0, 1) := by decide +kernel
theorem dX12_bark_150 : decode cX12_bark 150 = .ok (.getfield 95, 3) := by decide +kernel
theorem dX12_bark_153 : decode cX12_bark 153 = .ok (.iload_n 3, 1) := by decide +kernel
theorem dX12_bark_154 : decode cX12_bark 154 = .ok (.iaload, 1) := by decide +kernel
theorem dX12_bark_155 : decode cX12_bark 155 = .ok (.iastore, 1) := by decide +kernel
theorem dX12_bark_156 : decode cX12_bark 156 = .ok (.aload_n 0, 1) := by decide +kernel
theorem dX12_bark_157 : decode cX12_bark 157 = .ok (.getfield 31, 3) := by decide +kernel
theorem dX12_bark_160 : decode cX12_bark 160 = .ok (.iload_n 3, 1) := by decide +kernel
theorem dX12_bark_161 : decode cX12_bark 161 = .ok (.aload_n 0, 1) := by decide +kernel
theorem dX12_bark_162 : decode cX12_bark 162 = .ok (.getfield 98, 3) := by decide +kernel
theorem dX12_bark_165 : decode cX12_bark 165 = .ok (.iload_n 3, 1) := by decide +kernel
theorem dX12_bark_166 : decode cX12_bark 166 = .ok (.iaload, 1) := by decide +kernel
theorem dX12_bark_167 : decode cX12_bark 167 = .ok (.iastore, 1) := by decide +kernel
theorem dX12_bark_168 : decode cX12_bark 168 = .ok (.aload_n 0, 1) := by decide +kernel
theorem dX12_bark_169 : decode cX12_bark 169 = .ok (.getfield 34, 3) := by decide +kernel
theorem dX12_bark_172 : decode cX12_bark 172 = .ok (.iload_n 3, 1) := by decide +kernel
theorem dX12_bark_173 : decode cX12_bark 173 = .ok (.aload_n 0, 1) := by decide +kernel
theorem dX12_bark_174 : decode cX12_bark 174 = .ok (.getfield 101, 3) := by decide +kernel
theorem dX12_bark_177 : decode cX12_bark 177 = .ok (.iload_n 3, 1) := by decide +kernel
theorem dX12_bark_178 : decode cX12_bark 178 = .ok (.iaload, 1) := by decide +kernel
theorem dX12_bark_179 : decode cX12_bark 179 = .ok (.iastore, 1) := by decide +kernel
theorem dX12_bark_180 : decode cX12_bark 180 = .ok (.aload_n 0, 1) := by decide +kernel
theorem dX12_bark_181 : decode cX12_bark 181 = .ok (.getfield 37, 3) := by decide +kernel
theorem dX12_bark_184 : decode cX12_bark 184 = .ok (.iload_n 3, 1) := by decide +kernel
theorem dX12_bark_185 : decode cX12_bark 185 = .ok (.aload_n 0, 1) := by decide +kernel
theorem dX12_bark_186 : decode cX12_bark 186 = .ok (.getfield 104, 3) := by decide +kernel
theorem dX12_bark_189 : decode cX12_bark 189 = .ok (.iload_n 3, 1) := by decide +kernel
theorem dX12_bark_190 : decode cX12_bark 190 = .ok (.iaload, 1) := by decide +kernel
theorem dX12_bark_191 : decode cX12_bark 191 = .ok (.iastore, 1) := by decide +kernel
theorem dX12_bark_192 : decode cX12_bark 192 = .ok (.aload_n 0, 1) := by decide +kernel
theorem dX12_bark_193 : decode cX12_bark 193 = .ok (.getfield 40, 3) := by decide +kernel
theorem dX12_bark_196 : decode cX12_bark 196 = .ok (.iload_n 3, 1) := by decide +kernel
theorem dX12_bark_197 : decode cX12_bark 197 = .ok (.aload_n 0, 1) := by decide +kernel
theorem dX12_bark_198 : decode cX12_bark 198 = .ok (.getfield 86, 3) := by decide +kernel
theorem dX12_bark_201 : decode cX12_bark 201 = .ok (.iload_n 3, 1) := by decide +kernel
theorem dX12_bark_202 : decode cX12_bark 202 = .ok (.iaload, 1) := by decide +kernel
theorem dX12_bark_203 : decode cX12_bark 203 = .ok (.iastore, 1) := by decide +kernel
theorem dX12_bark_204 : decode cX12_bark 204 = .ok (.aload_n 0, 1) := by decide +kernel
theorem dX12_bark_205 : decode cX12_bark 205 = .ok (.getfield 7, 3) := by decide +kernel
theorem dX12_bark_208 : decode cX12_bark 208 = .ok (.iconst 0, 1) := by decide +kernel
theorem dX12_bark_209 : decode cX12_bark 209 = .ok (.iload_n 3, 1) := by decide +kernel
theorem dX12_bark_210 : decode cX12_bark 210 = .ok (.iadd, 1) := by decide +kernel
theorem dX12_bark_211 : decode cX12_bark 211 = .ok (.iconst 0, 1) := by decide +kernel
theorem dX12_bark_212 : decode cX12_bark 212 = .ok (.iastore, 1) := by decide +kernel
theorem dX12_bark_213 : decode cX12_bark 213 = .ok (.aload_n 0, 1) := by decide +kernel
theorem dX12_bark_214 : decode cX12_bark 214 = .ok (.getfield 7, 3) := by decide +kernel
theorem dX12_bark_217 : decode cX12_bark 217 = .ok (.bipush 16, 2) := by decide +kernel
theorem dX12_bark_219 : decode cX12_bark 219 = .ok (.iload_n 3, 1) := by decide +kernel
theorem dX12_bark_220 : decode cX12_bark 220 = .ok (.iadd, 1) := by decide +kernel
theorem dX12_bark_221 : decode cX12_bark 221 = .ok (.aload_n 0, 1) := by decide +kernel
theorem dX12_bark_222 : decode cX12_bark 222 = .ok (.getfield 86, 3) := by decide +kernel
theorem dX12_bark_225 : decode cX12_bark 225 = .ok (.iload_n 3, 1) := by decide +kernel
theorem dX12_bark_226 : decode cX12_bark 226 = .ok (.iaload, 1) := by decide +kernel
theorem dX12_bark_227 : decode cX12_bark 227 = .ok (.iastore, 1) := by decide +kernel
theorem dX12_bark_228 : decode cX12_bark 228 = .ok (.aload_n 0, 1) := by decide +kernel
theorem dX12_bark_229 : decode cX12_bark 229 = .ok (.getfield 7, 3) := by decide +kernel
theorem dX12_bark_232 : decode cX12_bark 232 = .ok (.bipush 32, 2) := by decide +kernel
theorem dX12_bark_234 : decode cX12_bark 234 = .ok (.iload_n 3, 1) := by decide +kernel
theorem dX12_bark_235 : decode cX12_bark 235 = .ok (.iadd, 1) := by decide +kernel
theorem dX12_bark_236 : decode cX12_bark 236 = .ok (.bipush 99, 2) := by decide +kernel
theorem dX12_bark_238 : decode cX12_bark 238 = .ok (.iastore, 1) := by decide +kernel
theorem dX12_bark_239 : decode cX12_bark 239 = .ok (.aload_n 0, 1) := by decide +kernel
theorem dX12_bark_240 : decode cX12_bark 240 = .ok (.getfield 7, 3) := by decide +kernel
theorem dX12_bark_243 : decode cX12_bark 243 = .ok (.bipush 48, 2) := by decide +kernel
theorem dX12_bark_245 : decode cX12_bark 245 = .ok (.iload_n 3, 1) := by decide +kernel
theorem dX12_bark_246 : decode cX12_bark 246 = .ok (.iadd, 1) := by decide +kernel
theorem dX12_bark_247 : decode cX12_bark 247 = .ok (.iconst 0, 1) := by decide +kernel
theorem dX12_bark_248 : decode cX12_bark 248 = .ok (.iastore, 1) := by decide +kernel
theorem dX12_bark_249 : decode cX12_bark 249 = .ok (.aload_n 0, 1) := by decide +kernel
theorem dX12_bark_250 : decode cX12_bark 250 = .ok (.getfield 7, 3) := by decide +kernel
theorem dX12_bark_253 : decode cX12_bark 253 = .ok (.bipush 64, 2) := by decide +kernel
theorem dX12_bark_255 : decode cX12_bark 255 = .ok (.iload_n 3, 1) := by decide +kernel
theorem dX12_bark_256 : decode cX12_bark 256 = .ok (.iadd, 1) := by decide +kernel
theorem dX12_bark_257 : decode cX12_bark 257 = .ok (.iconst 0, 1) := by decide +kernel
theorem dX12_bark_258 : decode cX12_bark 258 = .ok (.iastore, 1) := by decide +kernel
theorem dX12_bark_259 : decode cX12_bark 259 = .ok (.iinc 3 1, 3) := by decide +kernel
theorem dX12_bark_262 : decode cX12_bark 262 = .ok (.goto (-162), 3) := by decide +kernel
theorem dX12_bark_265 : decode cX12_bark 265 = .ok (.aload_n 0, 1) := by decide +kernel
theorem dX12_bark_266 : decode cX12_bark 266 = .ok (.getfield 152, 3) := by decide +kernel
theorem dX12_bark_269 : decode cX12_bark 269 = .ok (.ireturn, 1) := by decide +kernel
theorem dX12_goalOf_0 : decode cX12_goalOf 0 = .ok (.aload_n 0, 1) := by decide +kernel
theorem dX12_goalOf_1 : decode cX12_goalOf 1 = .ok (.getfield 7, 3) := by decide +kernel
theorem dX12_goalOf_4 : decode cX12_goalOf 4 = .ok (.bipush 64, 2) := by decide +kernel
theorem dX12_goalOf_6 : decode cX12_goalOf 6 = .ok (.iload_n 1, 1) := by decide +kernel
theorem dX12_goalOf_7 : decode cX12_goalOf 7 = .ok (.iadd, 1) := by decide +kernel
theorem dX12_goalOf_8 : decode cX12_goalOf 8 = .ok (.iaload, 1) := by decide +kernel
theorem dX12_goalOf_9 : decode cX12_goalOf 9 = .ok (.iconst 1, 1) := by decide +kernel
theorem dX12_goalOf_10 : decode cX12_goalOf 10 = .ok (.if_icmp .ne 12, 3) := by decide +kernel
theorem dX12_goalOf_13 : decode cX12_goalOf 13 = .ok (.aload_n 0, 1) := by decide +kernel
theorem dX12_goalOf_14 : decode cX12_goalOf 14 = .ok (.getfield 19, 3) := by decide +kernel
theorem dX12_goalOf_17 : decode cX12_goalOf 17 = .ok (.iload_n 1, 1) := by decide +kernel
theorem dX12_goalOf_18 : decode cX12_goalOf 18 = .ok (.iaload, 1) := by decide +kernel
theorem dX12_goalOf_19 : decode cX12_goalOf 19 = .ok (.goto 9, 3) := by decide +kernel
theorem dX12_goalOf_22 : decode cX12_goalOf 22 = .ok (.aload_n 0, 1) := by decide +kernel
theorem dX12_goalOf_23 : decode cX12_goalOf 23 = .ok (.getfield 40, 3) := by decide +kernel
theorem dX12_goalOf_26 : decode cX12_goalOf 26 = .ok (.iload_n 1, 1) := by decide +kernel
theorem dX12_goalOf_27 : decode cX12_goalOf 27 = .ok (.iaload, 1) := by decide +kernel
theorem dX12_goalOf_28 : decode cX12_goalOf 28 = .ok (.ireturn, 1) := by decide +kernel
theorem dX12_othersAt_0 : decode cX12_othersAt 0 = .ok (.iconst 0, 1) := by decide +kernel
theorem dX12_othersAt_1 : decode cX12_othersAt 1 = .ok (.istore_n 2, 1) := by decide +kernel
theorem dX12_othersAt_2 : decode cX12_othersAt 2 = .ok (.iconst 0, 1) := by decide +kernel
theorem dX12_othersAt_3 : decode cX12_othersAt 3 = .ok (.istore_n 3, 1) := by decide +kernel
theorem dX12_othersAt_4 : decode cX12_othersAt 4 = .ok (.iload_n 3, 1) := by decide +kernel
theorem dX12_othersAt_5 : decode cX12_othersAt 5 = .ok (.aload_n 0, 1) := by decide +kernel
theorem dX12_othersAt_6 : decode cX12_othersAt 6 = .ok (.getfield 152, 3) := by decide +kernel
theorem dX12_othersAt_9 : decode cX12_othersAt 9 = .ok (.if_icmp .ge 51, 3) := by decide +kernel
theorem dX12_othersAt_12 : decode cX12_othersAt 12 = .ok (.iload_n 3, 1) := by decide +kernel
theorem dX12_othersAt_13 : decode cX12_othersAt 13 = .ok (.iload_n 1, 1) := by decide +kernel
theorem dX12_othersAt_14 : decode cX12_othersAt 14 = .ok (.if_icmp .eq 40, 3) := by decide +kernel
theorem dX12_othersAt_17 : decode cX12_othersAt 17 = .ok (.aload_n 0, 1) := by decide +kernel
theorem dX12_othersAt_18 : decode cX12_othersAt 18 = .ok (.getfield 7, 3) := by decide +kernel
theorem dX12_othersAt_21 : decode cX12_othersAt 21 = .ok (.iconst 0, 1) := by decide +kernel
theorem dX12_othersAt_22 : decode cX12_othersAt 22 = .ok (.iload_n 3, 1) := by decide +kernel
theorem dX12_othersAt_23 : decode cX12_othersAt 23 = .ok (.iadd, 1) := by decide +kernel
theorem dX12_othersAt_24 : decode cX12_othersAt 24 = .ok (.iaload, 1) := by decide +kernel
theorem dX12_othersAt_25 : decode cX12_othersAt 25 = .ok (.iconst 2, 1) := by decide +kernel
theorem dX12_othersAt_26 : decode cX12_othersAt 26 = .ok (.if_icmp .ne 28, 3) := by decide +kernel
theorem dX12_othersAt_29 : decode cX12_othersAt 29 = .ok (.aload_n 0, 1) := by decide +kernel
theorem dX12_othersAt_30 : decode cX12_othersAt 30 = .ok (.getfield 7, 3) := by decide +kernel
theorem dX12_othersAt_33 : decode cX12_othersAt 33 = .ok (.bipush 16, 2) := by decide +kernel
theorem dX12_othersAt_35 : decode cX12_othersAt 35 = .ok (.iload_n 3, 1) := by decide +kernel
theorem dX12_othersAt_36 : decode cX12_othersAt 36 = .ok (.iadd, 1) := by decide +kernel
theorem dX12_othersAt_37 : decode cX12_othersAt 37 = .ok (.iaload, 1) := by decide +kernel
theorem dX12_othersAt_38 : decode cX12_othersAt 38 = .ok (.aload_n 0, 1) := by decide +kernel
theorem dX12_othersAt_39 : decode cX12_othersAt 39 = .ok (.getfield 7, 3) := by decide +kernel
theorem dX12_othersAt_42 : decode cX12_othersAt 42 = .ok (.bipush 16, 2) := by decide +kernel
theorem dX12_othersAt_44 : decode cX12_othersAt 44 = .ok (.iload_n 1, 1) := by decide +kernel
theorem dX12_othersAt_45 : decode cX12_othersAt 45 = .ok (.iadd, 1) := by decide +kernel
theorem dX12_othersAt_46 : decode cX12_othersAt 46 = .ok (.iaload, 1) := by decide +kernel
theorem dX12_othersAt_47 : decode cX12_othersAt 47 = .ok (.if_icmp .ne 7, 3) := by decide +kernel
theorem dX12_othersAt_50 : decode cX12_othersAt 50 = .ok (.iload_n 2, 1) := by decide +kernel
theorem dX12_othersAt_51 : decode cX12_othersAt 51 = .ok (.iconst 1, 1) := by decide +kernel
theorem dX12_othersAt_52 : decode cX12_othersAt 52 = .ok (.iadd, 1) := by decide +kernel
theorem dX12_othersAt_53 : decode cX12_othersAt 53 = .ok (.istore_n 2, 1) := by decide +kernel
theorem dX12_othersAt_54 : decode cX12_othersAt 54 = .ok (.iinc 3 1, 3) := by decide +kernel
theorem dX12_othersAt_57 : decode cX12_othersAt 57 = .ok (.goto (-53), 3) := by decide +kernel
theorem dX12_othersAt_60 : decode cX12_othersAt 60 = .ok (.iload_n 2, 1) := by decide +kernel
theorem dX12_othersAt_61 : decode cX12_othersAt 61 = .ok (.ireturn, 1) := by decide +kernel
theorem dX12_feels_0 : decode cX12_feels 0 = .ok (.aload_n 0, 1) := by decide +kernel
theorem dX12_feels_1 : decode cX12_feels 1 = .ok (.getfield 83, 3) := by decide +kernel
theorem dX12_feels_4 : decode cX12_feels 4 = .ok (.iconst 0, 1) := by decide +kernel
theorem dX12_feels_5 : decode cX12_feels 5 = .ok (.iload_n 1, 1) := by decide +kernel
theorem dX12_feels_6 : decode cX12_feels 6 = .ok (.iastore, 1) := by decide +kernel
theorem dX12_feels_7 : decode cX12_feels 7 = .ok (.aload_n 0, 1) := by decide +kernel
theorem dX12_feels_8 : decode cX12_feels 8 = .ok (.getfield 83, 3) := by decide +kernel
theorem dX12_feels_11 : decode cX12_feels 11 = .ok (.iconst 1, 1) := by decide +kernel
theorem dX12_feels_12 : decode cX12_feels 12 = .ok (.aload_n 0, 1) := by decide +kernel
theorem dX12_feels_13 : decode cX12_feels 13 = .ok (.getfield 7, 3) := by decide +kernel
theorem dX12_feels_16 : decode cX12_feels 16 = .ok (.iconst 0, 1) := by decide +kernel
theorem dX12_feels_17 : decode cX12_feels 17 = .ok (.iload_n 1, 1) := by decide +kernel
theorem dX12_feels_18 : decode cX12_feels 18 = .ok (.iadd, 1) := by decide +kernel
theorem dX12_feels_19 : decode cX12_feels 19 = .ok (.iaload, 1) := by decide +kernel
theorem dX12_feels_20 : decode cX12_feels 20 = .ok (.iastore, 1) := by decide +kernel
theorem dX12_feels_21 : decode cX12_feels 21 = .ok (.aload_n 0, 1) := by decide +kernel
theorem dX12_feels_22 : decode cX12_feels 22 = .ok (.getfield 83, 3) := by decide +kernel
theorem dX12_feels_25 : decode cX12_feels 25 = .ok (.iconst 2, 1) := by decide +kernel
theorem dX12_feels_26 : decode cX12_feels 26 = .ok (.aload_n 0, 1) := by decide +kernel
theorem dX12_feels_27 : decode cX12_feels 27 = .ok (.getfield 7, 3) := by decide +kernel
theorem dX12_feels_30 : decode cX12_feels 30 = .ok (.bipush 32, 2) := by decide +kernel
theorem dX12_feels_32 : decode cX12_feels 32 = .ok (.iload_n 1, 1) := by decide +kernel
theorem dX12_feels_33 : decode cX12_feels 33 = .ok (.iadd, 1) := by decide +kernel
theorem dX12_feels_34 : decode cX12_feels 34 = .ok (.iaload, 1) := by decide +kernel
theorem dX12_feels_35 : decode cX12_feels 35 = .ok (.iastore, 1) := by decide +kernel
theorem dX12_feels_36 : decode cX12_feels 36 = .ok (.aload_n 0, 1) := by decide +kernel
theorem dX12_feels_37 : decode cX12_feels 37 = .ok (.getfield 83, 3) := by decide +kernel
theorem dX12_feels_40 : decode cX12_feels 40 = .ok (.iconst 3, 1) := by decide +kernel
theorem dX12_feels_41 : decode cX12_feels 41 = .ok (.aload_n 0, 1) := by decide +kernel
theorem dX12_feels_42 : decode cX12_feels 42 = .ok (.getfield 28, 3) := by decide +kernel
theorem dX12_feels_45 : decode cX12_feels 45 = .ok (.iload_n 1, 1) := by decide +kernel
theorem dX12_feels_46 : decode cX12_feels 46 = .ok (.iaload, 1) := by decide +kernel
theorem dX12_feels_47 : decode cX12_feels 47 = .ok (.iastore, 1) := by decide +kernel
theorem dX12_feels_48 : decode cX12_feels 48 = .ok (.aload_n 0, 1) := by decide +kernel
theorem dX12_feels_49 : decode cX12_feels 49 = .ok (.getfield 83, 3) := by decide +kernel
theorem dX12_feels_52 : decode cX12_feels 52 = .ok (.iconst 4, 1) := by decide +kernel
theorem dX12_feels_53 : decode cX12_feels 53 = .ok (.aload_n 0, 1) := by decide +kernel
theorem dX12_feels_54 : decode cX12_feels 54 = .ok (.getfield 31, 3) := by decide +kernel
theorem dX12_feels_57 : decode cX12_feels 57 = .ok (.iload_n 1, 1) := by decide +kernel
theorem dX12_feels_58 : decode cX12_feels 58 = .ok (.iaload, 1) := by decide +kernel
theorem dX12_feels_59 : decode cX12_feels 59 = .ok (.iastore, 1) := by decide +kernel
theorem dX12_feels_60 : decode cX12_feels 60 = .ok (.aload_n 0, 1) := by decide +kernel
theorem dX12_feels_61 : decode cX12_feels 61 = .ok (.getfield 83, 3) := by decide +kernel
theorem dX12_feels_64 : decode cX12_feels 64 = .ok (.iconst 5, 1) := by decide +kernel
theorem dX12_feels_65 : decode cX12_feels 65 = .ok (.aload_n 0, 1) := by decide +kernel
theorem dX12_feels_66 : decode cX12_feels 66 = .ok (.getfield 34, 3) := by decide +kernel
theorem dX12_feels_69 : decode cX12_feels 69 = .ok (.iload_n 1, 1) := by decide +kernel
theorem dX12_feels_70 : decode cX12_feels 70 = .ok (.iaload, 1) := by decide +kernel
theorem dX12_feels_71 : decode cX12_feels 71 = .ok (.iastore, 1) := by decide +kernel
theorem dX12_feels_72 : decode cX12_feels 72 = .ok (.aload_n 0, 1) := by decide +kernel
theorem dX12_feels_73 : decode cX12_feels 73 = .ok (.getfield 83, 3) := by decide +kernel
theorem dX12_feels_76 : decode cX12_feels 76 = .ok (.bipush 6, 2) := by decide +kernel
theorem dX12_feels_78 : decode cX12_feels 78 = .ok (.aload_n 0, 1) := by decide +kernel
theorem dX12_feels_79 : decode cX12_feels 79 = .ok (.getfield 7, 3) := by decide +kernel
theorem dX12_feels_82 : decode cX12_feels 82 = .ok (.bipush 48, 2) := by decide +kernel
theorem dX12_feels_84 : decode cX12_feels 84 = .ok (.iload_n 1, 1) := by decide +kernel
theorem dX12_feels_85 : decode cX12_feels 85 = .ok (.iadd, 1) := by decide +kernel
theorem dX12_feels_86 : decode cX12_feels 86 = .ok (.iaload, 1) := by decide +kernel
theorem dX12_feels_87 : decode cX12_feels 87 = .ok (.iastore, 1) := by decide +kernel
theorem dX12_feels_88 : decode cX12_feels 88 = .ok (.aload_n 0, 1) := by decide +kernel
theorem dX12_feels_89 : decode cX12_feels 89 = .ok (.getfield 83, 3) := by decide +kernel
theorem dX12_feels_92 : decode cX12_feels 92 = .ok (.bipush 7, 2) := by decide +kernel
theorem dX12_feels_94 : decode cX12_feels 94 = .ok (.aload_n 0, 1) := by decide +kernel
theorem dX12_feels_95 : decode cX12_feels 95 = .ok (.getfield 7, 3) := by decide +kernel
theorem dX12_feels_98 : decode cX12_feels 98 = .ok (.bipush 16, 2) := by decide +kernel
theorem dX12_feels_100 : decode cX12_feels 100 = .ok (.iload_n 1, 1) := by decide +kernel
theorem dX12_feels_101 : decode cX12_feels 101 = .ok (.iadd, 1) := by decide +kernel
theorem dX12_feels_102 : decode cX12_feels 102 = .ok (.iaload, 1) := by decide +kernel
theorem dX12_feels_103 : decode cX12_feels 103 = .ok (.aload_n 0, 1) := by decide +kernel
theorem dX12_feels_104 : decode cX12_feels 104 = .ok (.iload_n 1, 1) := by decide +kernel
theorem dX12_feels_105 : decode cX12_feels 105 = .ok (.invokevirtual 300, 3) := by decide +kernel
theorem dX12_feels_108 : decode cX12_feels 108 = .ok (.invokestatic 303, 3) := by decide +kernel
theorem dX12_feels_111 : decode cX12_feels 111 = .ok (.iastore, 1) := by decide +kernel
theorem dX12_feels_112 : decode cX12_feels 112 = .ok (.aload_n 0, 1) := by decide +kernel
theorem dX12_feels_113 : decode cX12_feels 113 = .ok (.getfield 83, 3) := by decide +kernel
theorem dX12_feels_116 : decode cX12_feels 116 = .ok (.bipush 8, 2) := by decide +kernel
theorem dX12_feels_118 : decode cX12_feels 118 = .ok (.aload_n 0, 1) := by decide +kernel
theorem dX12_feels_119 : decode cX12_feels 119 = .ok (.iload_n 1, 1) := by decide +kernel
theorem dX12_feels_120 : decode cX12_feels 120 = .ok (.invokevirtual 306, 3) := by decide +kernel
theorem dX12_feels_123 : decode cX12_feels 123 = .ok (.iastore, 1) := by decide +kernel
theorem dX12_feels_124 : decode cX12_feels 124 = .ok (.aload_n 0, 1) := by decide +kernel
theorem dX12_feels_125 : decode cX12_feels 125 = .ok (.getfield 83, 3) := by decide +kernel
theorem dX12_feels_128 : decode cX12_feels 128 = .ok (.bipush 9, 2) := by decide +kernel
theorem dX12_feels_130 : decode cX12_feels 130 = .ok (.aload_n 0, 1) := by decide +kernel
theorem dX12_feels_131 : decode cX12_feels 131 = .ok (.getfield 7, 3) := by decide +kernel
theorem dX12_feels_134 : decode cX12_feels 134 = .ok (.bipush 80, 2) := by decide +kernel
theorem dX12_feels_136 : decode cX12_feels 136 = .ok (.iaload, 1) := by decide +kernel
theorem dX12_feels_137 : decode cX12_feels 137 = .ok (.bipush 100, 2) := by decide +kernel
theorem dX12_feels_139 : decode cX12_feels 139 = .ok (.irem, 1) := by decide +kernel
theorem dX12_feels_140 : decode cX12_feels 140 = .ok (.iastore, 1) := by decide +kernel
theorem dX12_feels_141 : decode cX12_feels 141 = .ok (.aload_n 0, 1) := by decide +kernel
theorem dX12_feels_142 : decode cX12_feels 142 = .ok (.getfield 83, 3) := by decide +kernel
theorem dX12_feels_145 : decode cX12_feels 145 = .ok (.bipush 10, 2) := by decide +kernel
theorem dX12_feels_147 : decode cX12_feels 147 = .ok (.iload_n 2, 1) := by decide +kernel
theorem dX12_feels_148 : decode cX12_feels 148 = .ok (.iastore, 1) := by decide +kernel
theorem dX12_feels_149 : decode cX12_feels 149 = .ok (.return_, 1) := by decide +kernel
theorem dX12_turnsIfThere_0 : decode cX12_turnsIfThere 0 = .ok (.aload_n 0, 1) := by decide +kernel
theorem dX12_turnsIfThere_1 : decode cX12_turnsIfThere 1 = .ok (.getfield 7, 3) := by decide +kernel
theorem dX12_turnsIfThere_4 : decode cX12_turnsIfThere 4 = .ok (.bipush 16, 2) := by decide +kernel
theorem dX12_turnsIfThere_6 : decode cX12_turnsIfThere 6 = .ok (.iload_n 1, 1) := by decide +kernel
theorem dX12_turnsIfThere_7 : decode cX12_turnsIfThere 7 = .ok (.iadd, 1) := by decide +kernel
theorem dX12_turnsIfThere_8 : decode cX12_turnsIfThere 8 = .ok (.iaload, 1) := by decide +kernel
theorem dX12_turnsIfThere_9 : decode cX12_turnsIfThere 9 = .ok (.aload_n 0, 1) := by decide +kernel
theorem dX12_turnsIfThere_10 : decode cX12_turnsIfThere 10 = .ok (.iload_n 1, 1) := by decide +kernel
theorem dX12_turnsIfThere_11 : decode cX12_turnsIfThere 11 = .ok (.invokevirtual 300, 3) := by decide +kernel
theorem dX12_turnsIfThere_14 : decode cX12_turnsIfThere 14 = .ok (.if_icmp .eq 4, 3) := by decide +kernel
theorem dX12_turnsIfThere_17 : decode cX12_turnsIfThere 17 = .ok (.return_, 1) := by decide +kernel
theorem dX12_turnsIfThere_18 : decode cX12_turnsIfThere 18 = .ok (.aload_n 0, 1) := by decide +kernel
theorem dX12_turnsIfThere_19 : decode cX12_turnsIfThere 19 = .ok (.getfield 7, 3) := by decide +kernel
theorem dX12_turnsIfThere_22 : decode cX12_turnsIfThere 22 = .ok (.bipush 64, 2) := by decide +kernel
