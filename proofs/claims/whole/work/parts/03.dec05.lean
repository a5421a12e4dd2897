theorem dX12_turnsIfThere_24 : decode cX12_turnsIfThere 24 = .ok (.iload_n 1, 1) := by decide +kernel
theorem dX12_turnsIfThere_25 : decode cX12_turnsIfThere 25 = .ok (.iadd, 1) := by decide +kernel
theorem dX12_turnsIfThere_26 : decode cX12_turnsIfThere 26 = .ok (.iaload, 1) := by decide +kernel
theorem dX12_turnsIfThere_27 : decode cX12_turnsIfThere 27 = .ok (.ifCond .ne 50, 3) := by decide +kernel
theorem dX12_turnsIfThere_30 : decode cX12_turnsIfThere 30 = .ok (.aload_n 0, 1) := by decide +kernel
theorem dX12_turnsIfThere_31 : decode cX12_turnsIfThere 31 = .ok (.getfield 7, 3) := by decide +kernel
theorem dX12_turnsIfThere_34 : decode cX12_turnsIfThere 34 = .ok (.bipush 48, 2) := by decide +kernel
theorem dX12_turnsIfThere_36 : decode cX12_turnsIfThere 36 = .ok (.iload_n 1, 1) := by decide +kernel
theorem dX12_turnsIfThere_37 : decode cX12_turnsIfThere 37 = .ok (.iadd, 1) := by decide +kernel
theorem dX12_turnsIfThere_38 : decode cX12_turnsIfThere 38 = .ok (.sipush 9999, 3) := by decide +kernel
theorem dX12_turnsIfThere_41 : decode cX12_turnsIfThere 41 = .ok (.aload_n 0, 1) := by decide +kernel
theorem dX12_turnsIfThere_42 : decode cX12_turnsIfThere 42 = .ok (.getfield 7, 3) := by decide +kernel
theorem dX12_turnsIfThere_45 : decode cX12_turnsIfThere 45 = .ok (.bipush 48, 2) := by decide +kernel
theorem dX12_turnsIfThere_47 : decode cX12_turnsIfThere 47 = .ok (.iload_n 1, 1) := by decide +kernel
theorem dX12_turnsIfThere_48 : decode cX12_turnsIfThere 48 = .ok (.iadd, 1) := by decide +kernel
theorem dX12_turnsIfThere_49 : decode cX12_turnsIfThere 49 = .ok (.iaload, 1) := by decide +kernel
theorem dX12_turnsIfThere_50 : decode cX12_turnsIfThere 50 = .ok (.iconst 1, 1) := by decide +kernel
theorem dX12_turnsIfThere_51 : decode cX12_turnsIfThere 51 = .ok (.iadd, 1) := by decide +kernel
theorem dX12_turnsIfThere_52 : decode cX12_turnsIfThere 52 = .ok (.invokestatic 309, 3) := by decide +kernel
theorem dX12_turnsIfThere_55 : decode cX12_turnsIfThere 55 = .ok (.iastore, 1) := by decide +kernel
theorem dX12_turnsIfThere_56 : decode cX12_turnsIfThere 56 = .ok (.aload_n 0, 1) := by decide +kernel
theorem dX12_turnsIfThere_57 : decode cX12_turnsIfThere 57 = .ok (.getfield 7, 3) := by decide +kernel
theorem dX12_turnsIfThere_60 : decode cX12_turnsIfThere 60 = .ok (.bipush 32, 2) := by decide +kernel
theorem dX12_turnsIfThere_62 : decode cX12_turnsIfThere 62 = .ok (.iload_n 1, 1) := by decide +kernel
theorem dX12_turnsIfThere_63 : decode cX12_turnsIfThere 63 = .ok (.iadd, 1) := by decide +kernel
theorem dX12_turnsIfThere_64 : decode cX12_turnsIfThere 64 = .ok (.bipush 99, 2) := by decide +kernel
theorem dX12_turnsIfThere_66 : decode cX12_turnsIfThere 66 = .ok (.iastore, 1) := by decide +kernel
theorem dX12_turnsIfThere_67 : decode cX12_turnsIfThere 67 = .ok (.aload_n 0, 1) := by decide +kernel
theorem dX12_turnsIfThere_68 : decode cX12_turnsIfThere 68 = .ok (.aload_n 0, 1) := by decide +kernel
theorem dX12_turnsIfThere_69 : decode cX12_turnsIfThere 69 = .ok (.getfield 312, 3) := by decide +kernel
theorem dX12_turnsIfThere_72 : decode cX12_turnsIfThere 72 = .ok (.iconst 1, 1) := by decide +kernel
theorem dX12_turnsIfThere_73 : decode cX12_turnsIfThere 73 = .ok (.iadd, 1) := by decide +kernel
theorem dX12_turnsIfThere_74 : decode cX12_turnsIfThere 74 = .ok (.putfield 312, 3) := by decide +kernel
theorem dX12_turnsIfThere_77 : decode cX12_turnsIfThere 77 = .ok (.aload_n 0, 1) := by decide +kernel
theorem dX12_turnsIfThere_78 : decode cX12_turnsIfThere 78 = .ok (.getfield 7, 3) := by decide +kernel
theorem dX12_turnsIfThere_81 : decode cX12_turnsIfThere 81 = .ok (.bipush 64, 2) := by decide +kernel
theorem dX12_turnsIfThere_83 : decode cX12_turnsIfThere 83 = .ok (.iload_n 1, 1) := by decide +kernel
theorem dX12_turnsIfThere_84 : decode cX12_turnsIfThere 84 = .ok (.iadd, 1) := by decide +kernel
theorem dX12_turnsIfThere_85 : decode cX12_turnsIfThere 85 = .ok (.iconst 1, 1) := by decide +kernel
theorem dX12_turnsIfThere_86 : decode cX12_turnsIfThere 86 = .ok (.aload_n 0, 1) := by decide +kernel
theorem dX12_turnsIfThere_87 : decode cX12_turnsIfThere 87 = .ok (.getfield 7, 3) := by decide +kernel
theorem dX12_turnsIfThere_90 : decode cX12_turnsIfThere 90 = .ok (.bipush 64, 2) := by decide +kernel
theorem dX12_turnsIfThere_92 : decode cX12_turnsIfThere 92 = .ok (.iload_n 1, 1) := by decide +kernel
theorem dX12_turnsIfThere_93 : decode cX12_turnsIfThere 93 = .ok (.iadd, 1) := by decide +kernel
theorem dX12_turnsIfThere_94 : decode cX12_turnsIfThere 94 = .ok (.iaload, 1) := by decide +kernel
theorem dX12_turnsIfThere_95 : decode cX12_turnsIfThere 95 = .ok (.isub, 1) := by decide +kernel
theorem dX12_turnsIfThere_96 : decode cX12_turnsIfThere 96 = .ok (.iastore, 1) := by decide +kernel
theorem dX12_turnsIfThere_97 : decode cX12_turnsIfThere 97 = .ok (.return_, 1) := by decide +kernel
theorem dX12_steps_0 : decode cX12_steps 0 = .ok (.aload_n 0, 1) := by decide +kernel
theorem dX12_steps_1 : decode cX12_steps 1 = .ok (.getfield 7, 3) := by decide +kernel
theorem dX12_steps_4 : decode cX12_steps 4 = .ok (.bipush 16, 2) := by decide +kernel
theorem dX12_steps_6 : decode cX12_steps 6 = .ok (.iload_n 1, 1) := by decide +kernel
theorem dX12_steps_7 : decode cX12_steps 7 = .ok (.iadd, 1) := by decide +kernel
theorem dX12_steps_8 : decode cX12_steps 8 = .ok (.iaload, 1) := by decide +kernel
theorem dX12_steps_9 : decode cX12_steps 9 = .ok (.bipush 24, 2) := by decide +kernel
theorem dX12_steps_11 : decode cX12_steps 11 = .ok (.irem, 1) := by decide +kernel
theorem dX12_steps_12 : decode cX12_steps 12 = .ok (.istore_n 2, 1) := by decide +kernel
theorem dX12_steps_13 : decode cX12_steps 13 = .ok (.aload_n 0, 1) := by decide +kernel
theorem dX12_steps_14 : decode cX12_steps 14 = .ok (.getfield 7, 3) := by decide +kernel
theorem dX12_steps_17 : decode cX12_steps 17 = .ok (.bipush 16, 2) := by decide +kernel
theorem dX12_steps_19 : decode cX12_steps 19 = .ok (.iload_n 1, 1) := by decide +kernel
theorem dX12_steps_20 : decode cX12_steps 20 = .ok (.iadd, 1) := by decide +kernel
theorem dX12_steps_21 : decode cX12_steps 21 = .ok (.iaload, 1) := by decide +kernel
theorem dX12_steps_22 : decode cX12_steps 22 = .ok (.bipush 24, 2) := by decide +kernel
theorem dX12_steps_24 : decode cX12_steps 24 = .ok (.idiv, 1) := by decide +kernel
theorem dX12_steps_25 : decode cX12_steps 25 = .ok (.istore_n 3, 1) := by decide +kernel
theorem dX12_steps_26 : decode cX12_steps 26 = .ok (.aload_n 0, 1) := by decide +kernel
theorem dX12_steps_27 : decode cX12_steps 27 = .ok (.iload_n 1, 1) := by decide +kernel
theorem dX12_steps_28 : decode cX12_steps 28 = .ok (.invokevirtual 300, 3) := by decide +kernel
theorem dX12_steps_31 : decode cX12_steps 31 = .ok (.bipush 24, 2) := by decide +kernel
theorem dX12_steps_33 : decode cX12_steps 33 = .ok (.irem, 1) := by decide +kernel
theorem dX12_steps_34 : decode cX12_steps 34 = .ok (.istore 4, 2) := by decide +kernel
theorem dX12_steps_36 : decode cX12_steps 36 = .ok (.aload_n 0, 1) := by decide +kernel
theorem dX12_steps_37 : decode cX12_steps 37 = .ok (.iload_n 1, 1) := by decide +kernel
theorem dX12_steps_38 : decode cX12_steps 38 = .ok (.invokevirtual 300, 3) := by decide +kernel
theorem dX12_steps_41 : decode cX12_steps 41 = .ok (.bipush 24, 2) := by decide +kernel
theorem dX12_steps_43 : decode cX12_steps 43 = .ok (.idiv, 1) := by decide +kernel
theorem dX12_steps_44 : decode cX12_steps 44 = .ok (.istore 5, 2) := by decide +kernel
theorem dX12_steps_46 : decode cX12_steps 46 = .ok (.iload_n 2, 1) := by decide +kernel
theorem dX12_steps_47 : decode cX12_steps 47 = .ok (.iload 4, 2) := by decide +kernel
theorem dX12_steps_49 : decode cX12_steps 49 = .ok (.if_icmp .eq 36, 3) := by decide +kernel
theorem dX12_steps_52 : decode cX12_steps 52 = .ok (.aload_n 0, 1) := by decide +kernel
theorem dX12_steps_53 : decode cX12_steps 53 = .ok (.getfield 7, 3) := by decide +kernel
theorem dX12_steps_56 : decode cX12_steps 56 = .ok (.bipush 16, 2) := by decide +kernel
theorem dX12_steps_58 : decode cX12_steps 58 = .ok (.iload_n 1, 1) := by decide +kernel
theorem dX12_steps_59 : decode cX12_steps 59 = .ok (.iadd, 1) := by decide +kernel
theorem dX12_steps_60 : decode cX12_steps 60 = .ok (.aload_n 0, 1) := by decide +kernel
theorem dX12_steps_61 : decode cX12_steps 61 = .ok (.getfield 7, 3) := by decide +kernel
theorem dX12_steps_64 : decode cX12_steps 64 = .ok (.bipush 16, 2) := by decide +kernel
theorem dX12_steps_66 : decode cX12_steps 66 = .ok (.iload_n 1, 1) := by decide +kernel
theorem dX12_steps_67 : decode cX12_steps 67 = .ok (.iadd, 1) := by decide +kernel
theorem dX12_steps_68 : decode cX12_steps 68 = .ok (.iaload, 1) := by decide +kernel
theorem dX12_steps_69 : decode cX12_steps 69 = .ok (.iload 4, 2) := by decide +kernel
theorem dX12_steps_71 : decode cX12_steps 71 = .ok (.iload_n 2, 1) := by decide +kernel
theorem dX12_steps_72 : decode cX12_steps 72 = .ok (.if_icmp .le 7, 3) := by decide +kernel
theorem dX12_steps_75 : decode cX12_steps 75 = .ok (.iconst 1, 1) := by decide +kernel
theorem dX12_steps_76 : decode cX12_steps 76 = .ok (.goto 4, 3) := by decide +kernel
theorem dX12_steps_79 : decode cX12_steps 79 = .ok (.iconst (-1), 1) := by decide +kernel
theorem dX12_steps_80 : decode cX12_steps 80 = .ok (.iadd, 1) := by decide +kernel
theorem dX12_steps_81 : decode cX12_steps 81 = .ok (.iastore, 1) := by decide +kernel
theorem dX12_steps_82 : decode cX12_steps 82 = .ok (.goto 41, 3) := by decide +kernel
theorem dX12_steps_85 : decode cX12_steps 85 = .ok (.iload_n 3, 1) := by decide +kernel
theorem dX12_steps_86 : decode cX12_steps 86 = .ok (.iload 5, 2) := by decide +kernel
theorem dX12_steps_88 : decode cX12_steps 88 = .ok (.if_icmp .eq 35, 3) := by decide +kernel
theorem dX12_steps_91 : decode cX12_steps 91 = .ok (.aload_n 0, 1) := by decide +kernel
theorem dX12_steps_92 : decode cX12_steps 92 = .ok (.getfield 7, 3) := by decide +kernel
theorem dX12_steps_95 : decode cX12_steps 95 = .ok (.bipush 16, 2) := by decide +kernel
theorem dX12_steps_97 : decode cX12_steps 97 = .ok (.iload_n 1, 1) := by decide +kernel
theorem dX12_steps_98 : decode cX12_steps 98 = .ok (.iadd, 1) := by decide +kernel
theorem dX12_steps_99 : decode cX12_steps 99 = .ok (.aload_n 0, 1) := by decide +kernel
theorem dX12_steps_100 : decode cX12_steps 100 = .ok (.getfield 7, 3) := by decide +kernel
theorem dX12_steps_103 : decode cX12_steps 103 = .ok (.bipush 16, 2) := by decide +kernel
theorem dX12_steps_105 : decode cX12_steps 105 = .ok (.iload_n 1, 1) := by decide +kernel
theorem dX12_steps_106 : decode cX12_steps 106 = .ok (.iadd, 1) := by decide +kernel
theorem dX12_steps_107 : decode cX12_steps 107 = .ok (.iaload, 1) := by decide +kernel
theorem dX12_steps_108 : decode cX12_steps 108 = .ok (.iload 5, 2) := by decide +kernel
theorem dX12_steps_110 : decode cX12_steps 110 = .ok (.iload_n 3, 1) := by decide +kernel
theorem dX12_steps_111 : decode cX12_steps 111 = .ok (.if_icmp .le 8, 3) := by decide +kernel
theorem dX12_steps_114 : decode cX12_steps 114 = .ok (.bipush 24, 2) := by decide +kernel
theorem dX12_steps_116 : decode cX12_steps 116 = .ok (.goto 5, 3) := by decide +kernel
theorem dX12_steps_119 : decode cX12_steps 119 = .ok (.bipush (-24), 2) := by decide +kernel
theorem dX12_steps_121 : decode cX12_steps 121 = .ok (.iadd, 1) := by decide +kernel
theorem dX12_steps_122 : decode cX12_steps 122 = .ok (.iastore, 1) := by decide +kernel
theorem dX12_steps_123 : decode cX12_steps 123 = .ok (.return_, 1) := by decide +kernel
theorem dX12_goesAbout_0 : decode cX12_goesAbout 0 = .ok (.aload_n 0, 1) := by decide +kernel
theorem dX12_goesAbout_1 : decode cX12_goesAbout 1 = .ok (.getfield 31, 3) := by decide +kernel
theorem dX12_goesAbout_4 : decode cX12_goesAbout 4 = .ok (.iload_n 1, 1) := by decide +kernel
theorem dX12_goesAbout_5 : decode cX12_goesAbout 5 = .ok (.iaload, 1) := by decide +kernel
theorem dX12_goesAbout_6 : decode cX12_goesAbout 6 = .ok (.iconst 1, 1) := by decide +kernel
theorem dX12_goesAbout_7 : decode cX12_goesAbout 7 = .ok (.if_icmp .ne 9, 3) := by decide +kernel
theorem dX12_goesAbout_10 : decode cX12_goesAbout 10 = .ok (.iload_n 2, 1) := by decide +kernel
theorem dX12_goesAbout_11 : decode cX12_goesAbout 11 = .ok (.iconst 2, 1) := by decide +kernel
theorem dX12_goesAbout_12 : decode cX12_goesAbout 12 = .ok (.idiv, 1) := by decide +kernel
theorem dX12_goesAbout_13 : decode cX12_goesAbout 13 = .ok (.goto 4, 3) := by decide +kernel
theorem dX12_goesAbout_16 : decode cX12_goesAbout 16 = .ok (.iload_n 2, 1) := by decide +kernel
theorem dX12_goesAbout_17 : decode cX12_goesAbout 17 = .ok (.aload_n 0, 1) := by decide +kernel
theorem dX12_goesAbout_18 : decode cX12_goesAbout 18 = .ok (.getfield 34, 3) := by decide +kernel
theorem dX12_goesAbout_21 : decode cX12_goesAbout 21 = .ok (.iload_n 1, 1) := by decide +kernel
theorem dX12_goesAbout_22 : decode cX12_goesAbout 22 = .ok (.iaload, 1) := by decide +kernel
theorem dX12_goesAbout_23 : decode cX12_goesAbout 23 = .ok (.iadd, 1) := by decide +kernel
theorem dX12_goesAbout_24 : decode cX12_goesAbout 24 = .ok (.istore_n 3, 1) := by decide +kernel
theorem dX12_goesAbout_25 : decode cX12_goesAbout 25 = .ok (.aload_n 0, 1) := by decide +kernel
theorem dX12_goesAbout_26 : decode cX12_goesAbout 26 = .ok (.iload_n 1, 1) := by decide +kernel
theorem dX12_goesAbout_27 : decode cX12_goesAbout 27 = .ok (.invokevirtual 315, 3) := by decide +kernel
theorem dX12_goesAbout_30 : decode cX12_goesAbout 30 = .ok (.iconst 0, 1) := by decide +kernel
theorem dX12_goesAbout_31 : decode cX12_goesAbout 31 = .ok (.istore 4, 2) := by decide +kernel
theorem dX12_goesAbout_33 : decode cX12_goesAbout 33 = .ok (.iload 4, 2) := by decide +kernel
theorem dX12_goesAbout_35 : decode cX12_goesAbout 35 = .ok (.iload_n 3, 1) := by decide +kernel
theorem dX12_goesAbout_36 : decode cX12_goesAbout 36 = .ok (.if_icmp .ge 19, 3) := by decide +kernel
theorem dX12_goesAbout_39 : decode cX12_goesAbout 39 = .ok (.aload_n 0, 1) := by decide +kernel
theorem dX12_goesAbout_40 : decode cX12_goesAbout 40 = .ok (.iload_n 1, 1) := by decide +kernel
theorem dX12_goesAbout_41 : decode cX12_goesAbout 41 = .ok (.invokevirtual 318, 3) := by decide +kernel
theorem dX12_goesAbout_44 : decode cX12_goesAbout 44 = .ok (.aload_n 0, 1) := by decide +kernel
theorem dX12_goesAbout_45 : decode cX12_goesAbout 45 = .ok (.iload_n 1, 1) := by decide +kernel
theorem dX12_goesAbout_46 : decode cX12_goesAbout 46 = .ok (.invokevirtual 315, 3) := by decide +kernel
theorem dX12_goesAbout_49 : decode cX12_goesAbout 49 = .ok (.iinc 4 1, 3) := by decide +kernel
theorem dX12_goesAbout_52 : decode cX12_goesAbout 52 = .ok (.goto (-19), 3) := by decide +kernel
theorem dX12_goesAbout_55 : decode cX12_goesAbout 55 = .ok (.return_, 1) := by decide +kernel
theorem dX12_turnOf_0 : decode cX12_turnOf 0 = .ok (.aload_n 0, 1) := by decide +kernel
theorem dX12_turnOf_1 : decode cX12_turnOf 1 = .ok (.getfield 7, 3) := by decide +kernel
theorem dX12_turnOf_4 : decode cX12_turnOf 4 = .ok (.bipush 81, 2) := by decide +kernel
theorem dX12_turnOf_6 : decode cX12_turnOf 6 = .ok (.sipush 25173, 3) := by decide +kernel
theorem dX12_turnOf_9 : decode cX12_turnOf 9 = .ok (.aload_n 0, 1) := by decide +kernel
theorem dX12_turnOf_10 : decode cX12_turnOf 10 = .ok (.getfield 7, 3) := by decide +kernel
theorem dX12_turnOf_13 : decode cX12_turnOf 13 = .ok (.bipush 81, 2) := by decide +kernel
theorem dX12_turnOf_15 : decode cX12_turnOf 15 = .ok (.iaload, 1) := by decide +kernel
theorem dX12_turnOf_16 : decode cX12_turnOf 16 = .ok (.imul, 1) := by decide +kernel
theorem dX12_turnOf_17 : decode cX12_turnOf 17 = .ok (.sipush 13849, 3) := by decide +kernel
theorem dX12_turnOf_20 : decode cX12_turnOf 20 = .ok (.iadd, 1) := by decide +kernel
theorem dX12_turnOf_21 : decode cX12_turnOf 21 = .ok (.ldc_w 321, 3) := by decide +kernel
theorem dX12_turnOf_24 : decode cX12_turnOf 24 = .ok (.irem, 1) := by decide +kernel
theorem dX12_turnOf_25 : decode cX12_turnOf 25 = .ok (.iastore, 1) := by decide +kernel
theorem dX12_turnOf_26 : decode cX12_turnOf 26 = .ok (.aload_n 0, 1) := by decide +kernel
theorem dX12_turnOf_27 : decode cX12_turnOf 27 = .ok (.iload_n 1, 1) := by decide +kernel
theorem dX12_turnOf_28 : decode cX12_turnOf 28 = .ok (.aload_n 0, 1) := by decide +kernel
theorem dX12_turnOf_29 : decode cX12_turnOf 29 = .ok (.getfield 7, 3) := by decide +kernel
theorem dX12_turnOf_32 : decode cX12_turnOf 32 = .ok (.bipush 81, 2) := by decide +kernel
theorem dX12_turnOf_34 : decode cX12_turnOf 34 = .ok (.iaload, 1) := by decide +kernel
theorem dX12_turnOf_35 : decode cX12_turnOf 35 = .ok (.bipush 10, 2) := by decide +kernel
theorem dX12_turnOf_37 : decode cX12_turnOf 37 = .ok (.irem, 1) := by decide +kernel
theorem dX12_turnOf_38 : decode cX12_turnOf 38 = .ok (.invokevirtual 322, 3) := by decide +kernel
theorem dX12_turnOf_41 : decode cX12_turnOf 41 = .ok (.aload_n 0, 1) := by decide +kernel
theorem dX12_turnOf_42 : decode cX12_turnOf 42 = .ok (.bipush 120, 2) := by decide +kernel
theorem dX12_turnOf_44 : decode cX12_turnOf 44 = .ok (.invokevirtual 325, 3) := by decide +kernel
theorem dX12_turnOf_47 : decode cX12_turnOf 47 = .ok (.istore_n 2, 1) := by decide +kernel
theorem dX12_turnOf_48 : decode cX12_turnOf 48 = .ok (.aload_n 0, 1) := by decide +kernel
theorem dX12_turnOf_49 : decode cX12_turnOf 49 = .ok (.bipush 118, 2) := by decide +kernel
theorem dX12_turnOf_51 : decode cX12_turnOf 51 = .ok (.bipush 9, 2) := by decide +kernel
theorem dX12_turnOf_53 : decode cX12_turnOf 53 = .ok (.iconst 1, 1) := by decide +kernel
theorem dX12_turnOf_54 : decode cX12_turnOf 54 = .ok (.invokevirtual 328, 3) := by decide +kernel
theorem dX12_turnOf_57 : decode cX12_turnOf 57 = .ok (.istore_n 3, 1) := by decide +kernel
theorem dX12_turnOf_58 : decode cX12_turnOf 58 = .ok (.aload_n 0, 1) := by decide +kernel
theorem dX12_turnOf_59 : decode cX12_turnOf 59 = .ok (.bipush 102, 2) := by decide +kernel
theorem dX12_turnOf_61 : decode cX12_turnOf 61 = .ok (.bipush 99, 2) := by decide +kernel
theorem dX12_turnOf_63 : decode cX12_turnOf 63 = .ok (.iconst 0, 1) := by decide +kernel
theorem dX12_turnOf_64 : decode cX12_turnOf 64 = .ok (.invokevirtual 328, 3) := by decide +kernel
theorem dX12_turnOf_67 : decode cX12_turnOf 67 = .ok (.istore 4, 2) := by decide +kernel
theorem dX12_turnOf_69 : decode cX12_turnOf 69 = .ok (.iload_n 2, 1) := by decide +kernel
theorem dX12_turnOf_70 : decode cX12_turnOf 70 = .ok (.ifCond .eq 13, 3) := by decide +kernel
theorem dX12_turnOf_73 : decode cX12_turnOf 73 = .ok (.aload_n 0, 1) := by decide +kernel
theorem dX12_turnOf_74 : decode cX12_turnOf 74 = .ok (.getfield 7, 3) := by decide +kernel
theorem dX12_turnOf_77 : decode cX12_turnOf 77 = .ok (.iconst 0, 1) := by decide +kernel
theorem dX12_turnOf_78 : decode cX12_turnOf 78 = .ok (.iload_n 1, 1) := by decide +kernel
theorem dX12_turnOf_79 : decode cX12_turnOf 79 = .ok (.iadd, 1) := by decide +kernel
theorem dX12_turnOf_80 : decode cX12_turnOf 80 = .ok (.iconst 4, 1) := by decide +kernel
theorem dX12_turnOf_81 : decode cX12_turnOf 81 = .ok (.iastore, 1) := by decide +kernel
theorem dX12_turnOf_82 : decode cX12_turnOf 82 = .ok (.return_, 1) := by decide +kernel
theorem dX12_turnOf_83 : decode cX12_turnOf 83 = .ok (.aload_n 0, 1) := by decide +kernel
theorem dX12_turnOf_84 : decode cX12_turnOf 84 = .ok (.getfield 7, 3) := by decide +kernel
theorem dX12_turnOf_87 : decode cX12_turnOf 87 = .ok (.iconst 0, 1) := by decide +kernel
theorem dX12_turnOf_88 : decode cX12_turnOf 88 = .ok (.iload_n 1, 1) := by decide +kernel
theorem dX12_turnOf_89 : decode cX12_turnOf 89 = .ok (.iadd, 1) := by decide +kernel
theorem dX12_turnOf_90 : decode cX12_turnOf 90 = .ok (.iaload, 1) := by decide +kernel
theorem dX12_turnOf_91 : decode cX12_turnOf 91 = .ok (.iconst 2, 1) := by decide +kernel
theorem dX12_turnOf_92 : decode cX12_turnOf 92 = .ok (.if_icmp .ne 12, 3) := by decide +kernel
theorem dX12_turnOf_95 : decode cX12_turnOf 95 = .ok (.aload_n 0, 1) := by decide +kernel
theorem dX12_turnOf_96 : decode cX12_turnOf 96 = .ok (.iload_n 1, 1) := by decide +kernel
theorem dX12_turnOf_97 : decode cX12_turnOf 97 = .ok (.iload_n 3, 1) := by decide +kernel
theorem dX12_turnOf_98 : decode cX12_turnOf 98 = .ok (.invokevirtual 331, 3) := by decide +kernel
theorem dX12_turnOf_101 : decode cX12_turnOf 101 = .ok (.goto 21, 3) := by decide +kernel
theorem dX12_turnOf_104 : decode cX12_turnOf 104 = .ok (.aload_n 0, 1) := by decide +kernel
theorem dX12_turnOf_105 : decode cX12_turnOf 105 = .ok (.getfield 7, 3) := by decide +kernel
theorem dX12_turnOf_108 : decode cX12_turnOf 108 = .ok (.iconst 0, 1) := by decide +kernel
theorem dX12_turnOf_109 : decode cX12_turnOf 109 = .ok (.iload_n 1, 1) := by decide +kernel
theorem dX12_turnOf_110 : decode cX12_turnOf 110 = .ok (.iadd, 1) := by decide +kernel
theorem dX12_turnOf_111 : decode cX12_turnOf 111 = .ok (.aload_n 0, 1) := by decide +kernel
theorem dX12_turnOf_112 : decode cX12_turnOf 112 = .ok (.getfield 7, 3) := by decide +kernel
theorem dX12_turnOf_115 : decode cX12_turnOf 115 = .ok (.iconst 0, 1) := by decide +kernel
theorem dX12_turnOf_116 : decode cX12_turnOf 116 = .ok (.iload_n 1, 1) := by decide +kernel
theorem dX12_turnOf_117 : decode cX12_turnOf 117 = .ok (.iadd, 1) := by decide +kernel
theorem dX12_turnOf_118 : decode cX12_turnOf 118 = .ok (.iaload, 1) := by decide +kernel
theorem dX12_turnOf_119 : decode cX12_turnOf 119 = .ok (.iconst 1, 1) := by decide +kernel
theorem dX12_turnOf_120 : decode cX12_turnOf 120 = .ok (.iadd, 1) := by decide +kernel
theorem dX12_turnOf_121 : decode cX12_turnOf 121 = .ok (.iastore, 1) := by decide +kernel
theorem dX12_turnOf_122 : decode cX12_turnOf 122 = .ok (.aload_n 0, 1) := by decide +kernel
theorem dX12_turnOf_123 : decode cX12_turnOf 123 = .ok (.getfield 7, 3) := by decide +kernel
theorem dX12_turnOf_126 : decode cX12_turnOf 126 = .ok (.bipush 32, 2) := by decide +kernel
theorem dX12_turnOf_128 : decode cX12_turnOf 128 = .ok (.iload_n 1, 1) := by decide +kernel
theorem dX12_turnOf_129 : decode cX12_turnOf 129 = .ok (.iadd, 1) := by decide +kernel
theorem dX12_turnOf_130 : decode cX12_turnOf 130 = .ok (.iconst 0, 1) := by decide +kernel
theorem dX12_turnOf_131 : decode cX12_turnOf 131 = .ok (.aload_n 0, 1) := by decide +kernel
theorem dX12_turnOf_132 : decode cX12_turnOf 132 = .ok (.getfield 7, 3) := by decide +kernel
theorem dX12_turnOf_135 : decode cX12_turnOf 135 = .ok (.bipush 32, 2) := by decide +kernel
theorem dX12_turnOf_137 : decode cX12_turnOf 137 = .ok (.iload_n 1, 1) := by decide +kernel
theorem dX12_turnOf_138 : decode cX12_turnOf 138 = .ok (.iadd, 1) := by decide +kernel
theorem dX12_turnOf_139 : decode cX12_turnOf 139 = .ok (.iaload, 1) := by decide +kernel
theorem dX12_turnOf_140 : decode cX12_turnOf 140 = .ok (.aload_n 0, 1) := by decide +kernel
theorem dX12_turnOf_141 : decode cX12_turnOf 141 = .ok (.getfield 28, 3) := by decide +kernel
theorem dX12_turnOf_144 : decode cX12_turnOf 144 = .ok (.iload_n 1, 1) := by decide +kernel
theorem dX12_turnOf_145 : decode cX12_turnOf 145 = .ok (.iaload, 1) := by decide +kernel
theorem dX12_turnOf_146 : decode cX12_turnOf 146 = .ok (.iconst 1, 1) := by decide +kernel
theorem dX12_turnOf_147 : decode cX12_turnOf 147 = .ok (.if_icmp .ne 10, 3) := by decide +kernel
theorem dX12_turnOf_150 : decode cX12_turnOf 150 = .ok (.iload 4, 2) := by decide +kernel
theorem dX12_turnOf_152 : decode cX12_turnOf 152 = .ok (.iconst 2, 1) := by decide +kernel
theorem dX12_turnOf_153 : decode cX12_turnOf 153 = .ok (.idiv, 1) := by decide +kernel
theorem dX12_turnOf_154 : decode cX12_turnOf 154 = .ok (.goto 5, 3) := by decide +kernel
theorem dX12_turnOf_157 : decode cX12_turnOf 157 = .ok (.iload 4, 2) := by decide +kernel
theorem dX12_turnOf_159 : decode cX12_turnOf 159 = .ok (.isub, 1) := by decide +kernel
theorem dX12_turnOf_160 : decode cX12_turnOf 160 = .ok (.invokestatic 334, 3) := by decide +kernel
theorem dX12_turnOf_163 : decode cX12_turnOf 163 = .ok (.iastore, 1) := by decide +kernel
theorem dX12_turnOf_164 : decode cX12_turnOf 164 = .ok (.aload_n 0, 1) := by decide +kernel
theorem dX12_turnOf_165 : decode cX12_turnOf 165 = .ok (.getfield 7, 3) := by decide +kernel
theorem dX12_turnOf_168 : decode cX12_turnOf 168 = .ok (.bipush 32, 2) := by decide +kernel
theorem dX12_turnOf_170 : decode cX12_turnOf 170 = .ok (.iload_n 1, 1) := by decide +kernel
theorem dX12_turnOf_171 : decode cX12_turnOf 171 = .ok (.iadd, 1) := by decide +kernel
theorem dX12_turnOf_172 : decode cX12_turnOf 172 = .ok (.iaload, 1) := by decide +kernel
theorem dX12_turnOf_173 : decode cX12_turnOf 173 = .ok (.ifCond .ne 12, 3) := by decide +kernel
theorem dX12_turnOf_176 : decode cX12_turnOf 176 = .ok (.aload_n 0, 1) := by decide +kernel
theorem dX12_turnOf_177 : decode cX12_turnOf 177 = .ok (.getfield 7, 3) := by decide +kernel
theorem dX12_turnOf_180 : decode cX12_turnOf 180 = .ok (.iconst 0, 1) := by decide +kernel
theorem dX12_turnOf_181 : decode cX12_turnOf 181 = .ok (.iload_n 1, 1) := by decide +kernel
theorem dX12_turnOf_182 : decode cX12_turnOf 182 = .ok (.iadd, 1) := by decide +kernel
theorem dX12_turnOf_183 : decode cX12_turnOf 183 = .ok (.iconst 3, 1) := by decide +kernel
theorem dX12_turnOf_184 : decode cX12_turnOf 184 = .ok (.iastore, 1) := by decide +kernel
theorem dX12_turnOf_185 : decode cX12_turnOf 185 = .ok (.return_, 1) := by decide +kernel
theorem dX12_seasonGoes_0 : decode cX12_seasonGoes 0 = .ok (.iconst 0, 1) := by decide +kernel
theorem dX12_seasonGoes_1 : decode cX12_seasonGoes 1 = .ok (.istore_n 1, 1) := by decide +kernel
theorem dX12_seasonGoes_2 : decode cX12_seasonGoes 2 = .ok (.iload_n 1, 1) := by decide +kernel
theorem dX12_seasonGoes_3 : decode cX12_seasonGoes 3 = .ok (.aload_n 0, 1) := by decide +kernel
theorem dX12_seasonGoes_4 : decode cX12_seasonGoes 4 = .ok (.getfield 152, 3) := by decide +kernel
theorem dX12_seasonGoes_7 : decode cX12_seasonGoes 7 = .ok (.if_icmp .ge 26, 3) := by decide +kernel
theorem dX12_seasonGoes_10 : decode cX12_seasonGoes 10 = .ok (.aload_n 0, 1) := by decide +kernel
theorem dX12_seasonGoes_11 : decode cX12_seasonGoes 11 = .ok (.getfield 7, 3) := by decide +kernel
theorem dX12_seasonGoes_14 : decode cX12_seasonGoes 14 = .ok (.iconst 0, 1) := by decide +kernel
theorem dX12_seasonGoes_15 : decode cX12_seasonGoes 15 = .ok (.iload_n 1, 1) := by decide +kernel
theorem dX12_seasonGoes_16 : decode cX12_seasonGoes 16 = .ok (.iadd, 1) := by decide +kernel
theorem dX12_seasonGoes_17 : decode cX12_seasonGoes 17 = .ok (.iaload, 1) := by decide +kernel
theorem dX12_seasonGoes_18 : decode cX12_seasonGoes 18 = .ok (.iconst 3, 1) := by decide +kernel
theorem dX12_seasonGoes_19 : decode cX12_seasonGoes 19 = .ok (.if_icmp .ge 8, 3) := by decide +kernel
theorem dX12_seasonGoes_22 : decode cX12_seasonGoes 22 = .ok (.aload_n 0, 1) := by decide +kernel
theorem dX12_seasonGoes_23 : decode cX12_seasonGoes 23 = .ok (.iload_n 1, 1) := by decide +kernel
theorem dX12_seasonGoes_24 : decode cX12_seasonGoes 24 = .ok (.invokevirtual 337, 3) := by decide +kernel
theorem dX12_seasonGoes_27 : decode cX12_seasonGoes 27 = .ok (.iinc 1 1, 3) := by decide +kernel
theorem dX12_seasonGoes_30 : decode cX12_seasonGoes 30 = .ok (.goto (-28), 3) := by decide +kernel
theorem dX12_seasonGoes_33 : decode cX12_seasonGoes 33 = .ok (.aload_n 0, 1) := by decide +kernel
theorem dX12_seasonGoes_34 : decode cX12_seasonGoes 34 = .ok (.getfield 7, 3) := by decide +kernel
theorem dX12_seasonGoes_37 : decode cX12_seasonGoes 37 = .ok (.bipush 80, 2) := by decide +kernel
theorem dX12_seasonGoes_39 : decode cX12_seasonGoes 39 = .ok (.aload_n 0, 1) := by decide +kernel
theorem dX12_seasonGoes_40 : decode cX12_seasonGoes 40 = .ok (.getfield 7, 3) := by decide +kernel
theorem dX12_seasonGoes_43 : decode cX12_seasonGoes 43 = .ok (.bipush 80, 2) := by decide +kernel
theorem dX12_seasonGoes_45 : decode cX12_seasonGoes 45 = .ok (.iaload, 1) := by decide +kernel
theorem dX12_seasonGoes_46 : decode cX12_seasonGoes 46 = .ok (.iconst 1, 1) := by decide +kernel
theorem dX12_seasonGoes_47 : decode cX12_seasonGoes 47 = .ok (.iadd, 1) := by decide +kernel
theorem dX12_seasonGoes_48 : decode cX12_seasonGoes 48 = .ok (.iastore, 1) := by decide +kernel
theorem dX12_seasonGoes_49 : decode cX12_seasonGoes 49 = .ok (.return_, 1) := by decide +kernel
theorem dX12_seasonsGo_0 : decode cX12_seasonsGo 0 = .ok (.aload_n 0, 1) := by decide +kernel
theorem dX12_seasonsGo_1 : decode cX12_seasonsGo 1 = .ok (.iconst 0, 1) := by decide +kernel
theorem dX12_seasonsGo_2 : decode cX12_seasonsGo 2 = .ok (.putfield 312, 3) := by decide +kernel
theorem dX12_seasonsGo_5 : decode cX12_seasonsGo 5 = .ok (.iconst 0, 1) := by decide +kernel
theorem dX12_seasonsGo_6 : decode cX12_seasonsGo 6 = .ok (.istore_n 2, 1) := by decide +kernel
theorem dX12_seasonsGo_7 : decode cX12_seasonsGo 7 = .ok (.iload_n 2, 1) := by decide +kernel
theorem dX12_seasonsGo_8 : decode cX12_seasonsGo 8 = .ok (.iload_n 1, 1) := by decide +kernel
theorem dX12_seasonsGo_9 : decode cX12_seasonsGo 9 = .ok (.if_icmp .ge 26, 3) := by decide +kernel
theorem dX12_seasonsGo_12 : decode cX12_seasonsGo 12 = .ok (.aload_n 0, 1) := by decide +kernel
theorem dX12_seasonsGo_13 : decode cX12_seasonsGo 13 = .ok (.getfield 7, 3) := by decide +kernel
theorem dX12_seasonsGo_16 : decode cX12_seasonsGo 16 = .ok (.bipush 80, 2) := by decide +kernel
theorem dX12_seasonsGo_18 : decode cX12_seasonsGo 18 = .ok (.iaload, 1) := by decide +kernel
theorem dX12_seasonsGo_19 : decode cX12_seasonsGo 19 = .ok (.sipush 9999, 3) := by decide +kernel
theorem dX12_seasonsGo_22 : decode cX12_seasonsGo 22 = .ok (.if_icmp .ge 13, 3) := by decide +kernel
theorem dX12_seasonsGo_25 : decode cX12_seasonsGo 25 = .ok (.aload_n 0, 1) := by decide +kernel
theorem dX12_seasonsGo_26 : decode cX12_seasonsGo 26 = .ok (.invokevirtual 340, 3) := by decide +kernel
theorem dX12_seasonsGo_29 : decode cX12_seasonsGo 29 = .ok (.iinc 2 1, 3) := by decide +kernel
theorem dX12_seasonsGo_32 : decode cX12_seasonsGo 32 = .ok (.goto (-25), 3) := by decide +kernel
theorem dX12_seasonsGo_35 : decode cX12_seasonsGo 35 = .ok (.return_, 1) := by decide +kernel
theorem dX12_seasons_0 : decode cX12_seasons 0 = .ok (.iload_n 1, 1) := by decide +kernel
theorem dX12_seasons_1 : decode cX12_seasons 1 = .ok (.iconst 1, 1) := by decide +kernel
theorem dX12_seasons_2 : decode cX12_seasons 2 = .ok (.bipush 100, 2) := by decide +kernel
theorem dX12_seasons_4 : decode cX12_seasons 4 = .ok (.invokestatic 156, 3) := by decide +kernel
theorem dX12_seasons_7 : decode cX12_seasons 7 = .ok (.ifCond .ne 5, 3) := by decide +kernel
theorem dX12_seasons_10 : decode cX12_seasons 10 = .ok (.iconst (-1), 1) := by decide +kernel
theorem dX12_seasons_11 : decode cX12_seasons 11 = .ok (.ireturn, 1) := by decide +kernel
theorem dX12_seasons_12 : decode cX12_seasons 12 = .ok (.aload_n 0, 1) := by decide +kernel
theorem dX12_seasons_13 : decode cX12_seasons 13 = .ok (.iload_n 1, 1) := by decide +kernel
theorem dX12_seasons_14 : decode cX12_seasons 14 = .ok (.invokevirtual 343, 3) := by decide +kernel
theorem dX12_seasons_17 : decode cX12_seasons 17 = .ok (.aload_n 0, 1) := by decide +kernel
theorem dX12_seasons_18 : decode cX12_seasons 18 = .ok (.getfield 312, 3) := by decide +kernel
theorem dX12_seasons_21 : decode cX12_seasons 21 = .ok (.ireturn, 1) := by decide +kernel
theorem dX12_tried_0 : decode cX12_tried 0 = .ok (.iload_n 1, 1) := by decide +kernel
theorem dX12_tried_1 : decode cX12_tried 1 = .ok (.iconst 1, 1) := by decide +kernel
theorem dX12_tried_2 : decode cX12_tried 2 = .ok (.bipush 100, 2) := by decide +kernel
theorem dX12_tried_4 : decode cX12_tried 4 = .ok (.invokestatic 156, 3) := by decide +kernel
theorem dX12_tried_7 : decode cX12_tried 7 = .ok (.ifCond .eq 45, 3) := by decide +kernel
theorem dX12_tried_10 : decode cX12_tried 10 = .ok (.iload_n 2, 1) := by decide +kernel
theorem dX12_tried_11 : decode cX12_tried 11 = .ok (.iconst 0, 1) := by decide +kernel
theorem dX12_tried_12 : decode cX12_tried 12 = .ok (.iconst 2, 1) := by decide +kernel
theorem dX12_tried_13 : decode cX12_tried 13 = .ok (.invokestatic 156, 3) := by decide +kernel
theorem dX12_tried_16 : decode cX12_tried 16 = .ok (.ifCond .ne 38, 3) := by decide +kernel
theorem dX12_tried_19 : decode cX12_tried 19 = .ok (.aload_n 0, 1) := by decide +kernel
theorem dX12_tried_20 : decode cX12_tried 20 = .ok (.iload_n 2, 1) := by decide +kernel
theorem dX12_tried_21 : decode cX12_tried 21 = .ok (.bipush 20, 2) := by decide +kernel
theorem dX12_tried_23 : decode cX12_tried 23 = .ok (.isub, 1) := by decide +kernel
theorem dX12_tried_24 : decode cX12_tried 24 = .ok (.invokevirtual 164, 3) := by decide +kernel
theorem dX12_tried_27 : decode cX12_tried 27 = .ok (.ifCond .ne 27, 3) := by decide +kernel
theorem dX12_tried_30 : decode cX12_tried 30 = .ok (.aload_n 0, 1) := by decide +kernel
theorem dX12_tried_31 : decode cX12_tried 31 = .ok (.iload_n 2, 1) := by decide +kernel
theorem dX12_tried_32 : decode cX12_tried 32 = .ok (.bipush 40, 2) := by decide +kernel
theorem dX12_tried_34 : decode cX12_tried 34 = .ok (.isub, 1) := by decide +kernel
theorem dX12_tried_35 : decode cX12_tried 35 = .ok (.invokevirtual 164, 3) := by decide +kernel
theorem dX12_tried_38 : decode cX12_tried 38 = .ok (.ifCond .ne 16, 3) := by decide +kernel
theorem dX12_tried_41 : decode cX12_tried 41 = .ok (.aload_n 0, 1) := by decide +kernel
theorem dX12_tried_42 : decode cX12_tried 42 = .ok (.iload_n 2, 1) := by decide +kernel
theorem dX12_tried_43 : decode cX12_tried 43 = .ok (.bipush 60, 2) := by decide +kernel
theorem dX12_tried_45 : decode cX12_tried 45 = .ok (.isub, 1) := by decide +kernel
theorem dX12_tried_46 : decode cX12_tried 46 = .ok (.invokevirtual 164, 3) := by decide +kernel
theorem dX12_tried_49 : decode cX12_tried 49 = .ok (.ifCond .ne 5, 3) := by decide +kernel
theorem dX12_tried_52 : decode cX12_tried 52 = .ok (.iconst (-1), 1) := by decide +kernel
theorem dX12_tried_53 : decode cX12_tried 53 = .ok (.ireturn, 1) := by decide +kernel
theorem dX12_tried_54 : decode cX12_tried 54 = .ok (.aload_n 0, 1) := by decide +kernel
theorem dX12_tried_55 : decode cX12_tried 55 = .ok (.getfield 7, 3) := by decide +kernel
theorem dX12_tried_58 : decode cX12_tried 58 = .ok (.aload_n 0, 1) := by decide +kernel
theorem dX12_tried_59 : decode cX12_tried 59 = .ok (.getfield 13, 3) := by decide +kernel
theorem dX12_tried_62 : decode cX12_tried 62 = .ok (.invokestatic 346, 3) := by decide +kernel
theorem dX12_tried_65 : decode cX12_tried 65 = .ok (.aload_n 0, 1) := by decide +kernel
theorem dX12_tried_66 : decode cX12_tried 66 = .ok (.iload_n 1, 1) := by decide +kernel
theorem dX12_tried_67 : decode cX12_tried 67 = .ok (.invokevirtual 343, 3) := by decide +kernel
theorem dX12_tried_70 : decode cX12_tried 70 = .ok (.iload_n 2, 1) := by decide +kernel
theorem dX12_tried_71 : decode cX12_tried 71 = .ok (.tableswitch 51 0 2 #[25, 33, 42], 25) := by decide +kernel
theorem dX12_tried_96 : decode cX12_tried 96 = .ok (.aload_n 0, 1) := by decide +kernel
theorem dX12_tried_97 : decode cX12_tried 97 = .ok (.getfield 312, 3) := by decide +kernel
theorem dX12_tried_100 : decode cX12_tried 100 = .ok (.istore_n 3, 1) := by decide +kernel
theorem dX12_tried_101 : decode cX12_tried 101 = .ok (.goto 75, 3) := by decide +kernel
theorem dX12_tried_104 : decode cX12_tried 104 = .ok (.aload_n 0, 1) := by decide +kernel
theorem dX12_tried_105 : decode cX12_tried 105 = .ok (.iconst 3, 1) := by decide +kernel
theorem dX12_tried_106 : decode cX12_tried 106 = .ok (.invokevirtual 350, 3) := by decide +kernel
theorem dX12_tried_109 : decode cX12_tried 109 = .ok (.istore_n 3, 1) := by decide +kernel
theorem dX12_tried_110 : decode cX12_tried 110 = .ok (.goto 66, 3) := by decide +kernel
theorem dX12_tried_113 : decode cX12_tried 113 = .ok (.aload_n 0, 1) := by decide +kernel
theorem dX12_tried_114 : decode cX12_tried 114 = .ok (.iconst 4, 1) := by decide +kernel
theorem dX12_tried_115 : decode cX12_tried 115 = .ok (.invokevirtual 350, 3) := by decide +kernel
theorem dX12_tried_118 : decode cX12_tried 118 = .ok (.istore_n 3, 1) := by decide +kernel
theorem dX12_tried_119 : decode cX12_tried 119 = .ok (.goto 57, 3) := by decide +kernel
theorem dX12_tried_122 : decode cX12_tried 122 = .ok (.iload_n 2, 1) := by decide +kernel
theorem dX12_tried_123 : decode cX12_tried 123 = .ok (.bipush 40, 2) := by decide +kernel
theorem dX12_tried_125 : decode cX12_tried 125 = .ok (.if_icmp .ge 18, 3) := by decide +kernel
theorem dX12_tried_128 : decode cX12_tried 128 = .ok (.aload_n 0, 1) := by decide +kernel
theorem dX12_tried_129 : decode cX12_tried 129 = .ok (.getfield 7, 3) := by decide +kernel
theorem dX12_tried_132 : decode cX12_tried 132 = .ok (.bipush 16, 2) := by decide +kernel
theorem dX12_tried_134 : decode cX12_tried 134 = .ok (.iload_n 2, 1) := by decide +kernel
theorem dX12_tried_135 : decode cX12_tried 135 = .ok (.iadd, 1) := by decide +kernel
theorem dX12_tried_136 : decode cX12_tried 136 = .ok (.bipush 20, 2) := by decide +kernel
theorem dX12_tried_138 : decode cX12_tried 138 = .ok (.isub, 1) := by decide +kernel
theorem dX12_tried_139 : decode cX12_tried 139 = .ok (.iaload, 1) := by decide +kernel
theorem dX12_tried_140 : decode cX12_tried 140 = .ok (.goto 35, 3) := by decide +kernel
theorem dX12_tried_143 : decode cX12_tried 143 = .ok (.iload_n 2, 1) := by decide +kernel
theorem dX12_tried_144 : decode cX12_tried 144 = .ok (.bipush 60, 2) := by decide +kernel
theorem dX12_tried_146 : decode cX12_tried 146 = .ok (.if_icmp .ge 18, 3) := by decide +kernel
theorem dX12_tried_149 : decode cX12_tried 149 = .ok (.aload_n 0, 1) := by decide +kernel
theorem dX12_tried_150 : decode cX12_tried 150 = .ok (.getfield 7, 3) := by decide +kernel
theorem dX12_tried_153 : decode cX12_tried 153 = .ok (.bipush 32, 2) := by decide +kernel
theorem dX12_tried_155 : decode cX12_tried 155 = .ok (.iload_n 2, 1) := by decide +kernel
theorem dX12_tried_156 : decode cX12_tried 156 = .ok (.iadd, 1) := by decide +kernel
theorem dX12_tried_157 : decode cX12_tried 157 = .ok (.bipush 40, 2) := by decide +kernel
theorem dX12_tried_159 : decode cX12_tried 159 = .ok (.isub, 1) := by decide +kernel
theorem dX12_tried_160 : decode cX12_tried 160 = .ok (.iaload, 1) := by decide +kernel
theorem dX12_tried_161 : decode cX12_tried 161 = .ok (.goto 14, 3) := by decide +kernel
theorem dX12_tried_164 : decode cX12_tried 164 = .ok (.aload_n 0, 1) := by decide +kernel
theorem dX12_tried_165 : decode cX12_tried 165 = .ok (.getfield 7, 3) := by decide +kernel
theorem dX12_tried_168 : decode cX12_tried 168 = .ok (.iconst 0, 1) := by decide +kernel
theorem dX12_tried_169 : decode cX12_tried 169 = .ok (.iload_n 2, 1) := by decide +kernel
theorem dX12_tried_170 : decode cX12_tried 170 = .ok (.iadd, 1) := by decide +kernel
theorem dX12_tried_171 : decode cX12_tried 171 = .ok (.bipush 60, 2) := by decide +kernel
theorem dX12_tried_173 : decode cX12_tried 173 = .ok (.isub, 1) := by decide +kernel
theorem dX12_tried_174 : decode cX12_tried 174 = .ok (.iaload, 1) := by decide +kernel
theorem dX12_tried_175 : decode cX12_tried 175 = .ok (.istore_n 3, 1) := by decide +kernel
theorem dX12_tried_176 : decode cX12_tried 176 = .ok (.aload_n 0, 1) := by decide +kernel
theorem dX12_tried_177 : decode cX12_tried 177 = .ok (.getfield 13, 3) := by decide +kernel
theorem dX12_tried_180 : decode cX12_tried 180 = .ok (.aload_n 0, 1) := by decide +kernel
theorem dX12_tried_181 : decode cX12_tried 181 = .ok (.getfield 7, 3) := by decide +kernel
theorem dX12_tried_184 : decode cX12_tried 184 = .ok (.invokestatic 346, 3) := by decide +kernel
theorem dX12_tried_187 : decode cX12_tried 187 = .ok (.iload_n 3, 1) := by decide +kernel
theorem dX12_tried_188 : decode cX12_tried 188 = .ok (.ireturn, 1) := by decide +kernel
theorem dX12_cutIs_0 : decode cX12_cutIs 0 = .ok (.aload_n 0, 1) := by decide +kernel
theorem dX12_cutIs_1 : decode cX12_cutIs 1 = .ok (.iload_n 1, 1) := by decide +kernel
theorem dX12_cutIs_2 : decode cX12_cutIs 2 = .ok (.invokevirtual 164, 3) := by decide +kernel
theorem dX12_cutIs_5 : decode cX12_cutIs 5 = .ok (.ifCond .ne 5, 3) := by decide +kernel
theorem dX12_cutIs_8 : decode cX12_cutIs 8 = .ok (.iconst (-1), 1) := by decide +kernel
theorem dX12_cutIs_9 : decode cX12_cutIs 9 = .ok (.ireturn, 1) := by decide +kernel
theorem dX12_cutIs_10 : decode cX12_cutIs 10 = .ok (.iload_n 2, 1) := by decide +kernel
theorem dX12_cutIs_11 : decode cX12_cutIs 11 = .ok (.tableswitch 170 0 12 #[65, 72, 79, 86, 93, 100, 107, 114, 121, 131, 141, 151, 160], 65) := by decide +kernel
theorem dX12_cutIs_76 : decode cX12_cutIs 76 = .ok (.aload_n 0, 1) := by decide +kernel
theorem dX12_cutIs_77 : decode cX12_cutIs 77 = .ok (.getfield 19, 3) := by decide +kernel
theorem dX12_cutIs_80 : decode cX12_cutIs 80 = .ok (.iload_n 1, 1) := by decide +kernel
theorem dX12_cutIs_81 : decode cX12_cutIs 81 = .ok (.iaload, 1) := by decide +kernel
theorem dX12_cutIs_82 : decode cX12_cutIs 82 = .ok (.ireturn, 1) := by decide +kernel
theorem dX12_cutIs_83 : decode cX12_cutIs 83 = .ok (.aload_n 0, 1) := by decide +kernel
theorem dX12_cutIs_84 : decode cX12_cutIs 84 = .ok (.getfield 22, 3) := by decide +kernel
theorem dX12_cutIs_87 : decode cX12_cutIs 87 = .ok (.iload_n 1, 1) := by decide +kernel
theorem dX12_cutIs_88 : decode cX12_cutIs 88 = .ok (.iaload, 1) := by decide +kernel
theorem dX12_cutIs_89 : decode cX12_cutIs 89 = .ok (.ireturn, 1) := by decide +kernel
theorem dX12_cutIs_90 : decode cX12_cutIs 90 = .ok (.aload_n 0, 1) := by decide +kernel
theorem dX12_cutIs_91 : decode cX12_cutIs 91 = .ok (.getfield 25, 3) := by decide +kernel
theorem dX12_cutIs_94 : decode cX12_cutIs 94 = .ok (.iload_n 1, 1) := by decide +kernel
theorem dX12_cutIs_95 : decode cX12_cutIs 95 = .ok (.iaload, 1) := by decide +kernel
theorem dX12_cutIs_96 : decode cX12_cutIs 96 = .ok (.ireturn, 1) := by decide +kernel
theorem dX12_cutIs_97 : decode cX12_cutIs 97 = .ok (.aload_n 0, 1) := by decide +kernel
theorem dX12_cutIs_98 : decode cX12_cutIs 98 = .ok (.getfield 28, 3) := by decide +kernel
theorem dX12_cutIs_101 : decode cX12_cutIs 101 = .ok (.iload_n 1, 1) := by decide +kernel
theorem dX12_cutIs_102 : decode cX12_cutIs 102 = .ok (.iaload, 1) := by decide +kernel
theorem dX12_cutIs_103 : decode cX12_cutIs 103 = .ok (.ireturn, 1) := by decide +kernel
theorem dX12_cutIs_104 : decode cX12_cutIs 104 = .ok (.aload_n 0, 1) := by decide +kernel
theorem dX12_cutIs_105 : decode cX12_cutIs 105 = .ok (.getfield 31, 3) := by decide +kernel
theorem dX12_cutIs_108 : decode cX12_cutIs 108 = .ok (.iload_n 1, 1) := by decide +kernel
theorem dX12_cutIs_109 : decode cX12_cutIs 109 = .ok (.iaload, 1) := by decide +kernel
theorem dX12_cutIs_110 : decode cX12_cutIs 110 = .ok (.ireturn, 1) := by decide +kernel
theorem dX12_cutIs_111 : decode cX12_cutIs 111 = .ok (.aload_n 0, 1) := by decide +kernel
theorem dX12_cutIs_112 : decode cX12_cutIs 112 = .ok (.getfield 34, 3) := by decide +kernel
theorem dX12_cutIs_115 : decode cX12_cutIs 115 = .ok (.iload_n 1, 1) := by decide +kernel
theorem dX12_cutIs_116 : decode cX12_cutIs 116 = .ok (.iaload, 1) := by decide +kernel
theorem dX12_cutIs_117 : decode cX12_cutIs 117 = .ok (.ireturn, 1) := by decide +kernel
theorem dX12_cutIs_118 : decode cX12_cutIs 118 = .ok (.aload_n 0, 1) := by decide +kernel
theorem dX12_cutIs_119 : decode cX12_cutIs 119 = .ok (.getfield 37, 3) := by decide +kernel
theorem dX12_cutIs_122 : decode cX12_cutIs 122 = .ok (.iload_n 1, 1) := by decide +kernel
theorem dX12_cutIs_123 : decode cX12_cutIs 123 = .ok (.iaload, 1) := by decide +kernel
theorem dX12_cutIs_124 : decode cX12_cutIs 124 = .ok (.ireturn, 1) := by decide +kernel
theorem dX12_cutIs_125 : decode cX12_cutIs 125 = .ok (.aload_n 0, 1) := by decide +kernel
theorem dX12_cutIs_126 : decode cX12_cutIs 126 = .ok (.getfield 40, 3) := by decide +kernel
theorem dX12_cutIs_129 : decode cX12_cutIs 129 = .ok (.iload_n 1, 1) := by decide +kernel
theorem dX12_cutIs_130 : decode cX12_cutIs 130 = .ok (.iaload, 1) := by decide +kernel
theorem dX12_cutIs_131 : decode cX12_cutIs 131 = .ok (.ireturn, 1) := by decide +kernel
theorem dX12_cutIs_132 : decode cX12_cutIs 132 = .ok (.aload_n 0, 1) := by decide +kernel
theorem dX12_cutIs_133 : decode cX12_cutIs 133 = .ok (.getfield 7, 3) := by decide +kernel
theorem dX12_cutIs_136 : decode cX12_cutIs 136 = .ok (.bipush 16, 2) := by decide +kernel
theorem dX12_cutIs_138 : decode cX12_cutIs 138 = .ok (.iload_n 1, 1) := by decide +kernel
theorem dX12_cutIs_139 : decode cX12_cutIs 139 = .ok (.iadd, 1) := by decide +kernel
theorem dX12_cutIs_140 : decode cX12_cutIs 140 = .ok (.iaload, 1) := by decide +kernel
theorem dX12_cutIs_141 : decode cX12_cutIs 141 = .ok (.ireturn, 1) := by decide +kernel
theorem dX12_cutIs_142 : decode cX12_cutIs 142 = .ok (.aload_n 0, 1) := by decide +kernel
theorem dX12_cutIs_143 : decode cX12_cutIs 143 = .ok (.getfield 7, 3) := by decide +kernel
theorem dX12_cutIs_146 : decode cX12_cutIs 146 = .ok (.bipush 32, 2) := by decide +kernel
theorem dX12_cutIs_148 : decode cX12_cutIs 148 = .ok (.iload_n 1, 1) := by decide +kernel
theorem dX12_cutIs_149 : decode cX12_cutIs 149 = .ok (.iadd, 1) := by decide +kernel
theorem dX12_cutIs_150 : decode cX12_cutIs 150 = .ok (.iaload, 1) := by decide +kernel
theorem dX12_cutIs_151 : decode cX12_cutIs 151 = .ok (.ireturn, 1) := by decide +kernel
theorem dX12_cutIs_152 : decode cX12_cutIs 152 = .ok (.aload_n 0, 1) := by decide +kernel
theorem dX12_cutIs_153 : decode cX12_cutIs 153 = .ok (.getfield 7, 3) := by decide +kernel
theorem dX12_cutIs_156 : decode cX12_cutIs 156 = .ok (.bipush 48, 2) := by decide +kernel
theorem dX12_cutIs_158 : decode cX12_cutIs 158 = .ok (.iload_n 1, 1) := by decide +kernel
theorem dX12_cutIs_159 : decode cX12_cutIs 159 = .ok (.iadd, 1) := by decide +kernel
theorem dX12_cutIs_160 : decode cX12_cutIs 160 = .ok (.iaload, 1) := by decide +kernel
theorem dX12_cutIs_161 : decode cX12_cutIs 161 = .ok (.ireturn, 1) := by decide +kernel
theorem dX12_cutIs_162 : decode cX12_cutIs 162 = .ok (.aload_n 0, 1) := by decide +kernel
theorem dX12_cutIs_163 : decode cX12_cutIs 163 = .ok (.getfield 7, 3) := by decide +kernel
theorem dX12_cutIs_166 : decode cX12_cutIs 166 = .ok (.iconst 0, 1) := by decide +kernel
theorem dX12_cutIs_167 : decode cX12_cutIs 167 = .ok (.iload_n 1, 1) := by decide +kernel
theorem dX12_cutIs_168 : decode cX12_cutIs 168 = .ok (.iadd, 1) := by decide +kernel
theorem dX12_cutIs_169 : decode cX12_cutIs 169 = .ok (.iaload, 1) := by decide +kernel
theorem dX12_cutIs_170 : decode cX12_cutIs 170 = .ok (.ireturn, 1) := by decide +kernel
theorem dX12_cutIs_171 : decode cX12_cutIs 171 = .ok (.aload_n 0, 1) := by decide +kernel
theorem dX12_cutIs_172 : decode cX12_cutIs 172 = .ok (.getfield 7, 3) := by decide +kernel
theorem dX12_cutIs_175 : decode cX12_cutIs 175 = .ok (.bipush 64, 2) := by decide +kernel
theorem dX12_cutIs_177 : decode cX12_cutIs 177 = .ok (.iload_n 1, 1) := by decide +kernel
theorem dX12_cutIs_178 : decode cX12_cutIs 178 = .ok (.iadd, 1) := by decide +kernel
theorem dX12_cutIs_179 : decode cX12_cutIs 179 = .ok (.iaload, 1) := by decide +kernel
theorem dX12_cutIs_180 : decode cX12_cutIs 180 = .ok (.ireturn, 1) := by decide +kernel
theorem dX12_cutIs_181 : decode cX12_cutIs 181 = .ok (.iconst (-1), 1) := by decide +kernel
theorem dX12_cutIs_182 : decode cX12_cutIs 182 = .ok (.ireturn, 1) := by decide +kernel
theorem dX12_areMet_0 : decode cX12_areMet 0 = .ok (.aload_n 0, 1) := by decide +kernel
theorem dX12_areMet_1 : decode cX12_areMet 1 = .ok (.getfield 7, 3) := by decide +kernel
theorem dX12_areMet_4 : decode cX12_areMet 4 = .ok (.iconst 0, 1) := by decide +kernel
theorem dX12_areMet_5 : decode cX12_areMet 5 = .ok (.iload_n 1, 1) := by decide +kernel
theorem dX12_areMet_6 : decode cX12_areMet 6 = .ok (.iadd, 1) := by decide +kernel
theorem dX12_areMet_7 : decode cX12_areMet 7 = .ok (.iaload, 1) := by decide +kernel
theorem dX12_areMet_8 : decode cX12_areMet 8 = .ok (.iconst 2, 1) := by decide +kernel
theorem dX12_areMet_9 : decode cX12_areMet 9 = .ok (.if_icmp .ne 40, 3) := by decide +kernel
theorem dX12_areMet_12 : decode cX12_areMet 12 = .ok (.aload_n 0, 1) := by decide +kernel
theorem dX12_areMet_13 : decode cX12_areMet 13 = .ok (.getfield 7, 3) := by decide +kernel
theorem dX12_areMet_16 : decode cX12_areMet 16 = .ok (.iconst 0, 1) := by decide +kernel
theorem dX12_areMet_17 : decode cX12_areMet 17 = .ok (.iload_n 2, 1) := by decide +kernel
theorem dX12_areMet_18 : decode cX12_areMet 18 = .ok (.iadd, 1) := by decide +kernel
theorem dX12_areMet_19 : decode cX12_areMet 19 = .ok (.iaload, 1) := by decide +kernel
theorem dX12_areMet_20 : decode cX12_areMet 20 = .ok (.iconst 2, 1) := by decide +kernel
theorem dX12_areMet_21 : decode cX12_areMet 21 = .ok (.if_icmp .ne 28, 3) := by decide +kernel
theorem dX12_areMet_24 : decode cX12_areMet 24 = .ok (.aload_n 0, 1) := by decide +kernel
theorem dX12_areMet_25 : decode cX12_areMet 25 = .ok (.getfield 7, 3) := by decide +kernel
theorem dX12_areMet_28 : decode cX12_areMet 28 = .ok (.bipush 16, 2) := by decide +kernel
theorem dX12_areMet_30 : decode cX12_areMet 30 = .ok (.iload_n 1, 1) := by decide +kernel
theorem dX12_areMet_31 : decode cX12_areMet 31 = .ok (.iadd, 1) := by decide +kernel
theorem dX12_areMet_32 : decode cX12_areMet 32 = .ok (.iaload, 1) := by decide +kernel
theorem dX12_areMet_33 : decode cX12_areMet 33 = .ok (.aload_n 0, 1) := by decide +kernel
theorem dX12_areMet_34 : decode cX12_areMet 34 = .ok (.getfield 7, 3) := by decide +kernel
theorem dX12_areMet_37 : decode cX12_areMet 37 = .ok (.bipush 16, 2) := by decide +kernel
theorem dX12_areMet_39 : decode cX12_areMet 39 = .ok (.iload_n 2, 1) := by decide +kernel
theorem dX12_areMet_40 : decode cX12_areMet 40 = .ok (.iadd, 1) := by decide +kernel
theorem dX12_areMet_41 : decode cX12_areMet 41 = .ok (.iaload, 1) := by decide +kernel
theorem dX12_areMet_42 : decode cX12_areMet 42 = .ok (.if_icmp .ne 7, 3) := by decide +kernel
theorem dX12_areMet_45 : decode cX12_areMet 45 = .ok (.iconst 1, 1) := by decide +kernel
theorem dX12_areMet_46 : decode cX12_areMet 46 = .ok (.goto 4, 3) := by decide +kernel
theorem dX12_areMet_49 : decode cX12_areMet 49 = .ok (.iconst 0, 1) := by decide +kernel
theorem dX12_areMet_50 : decode cX12_areMet 50 = .ok (.ireturn, 1) := by decide +kernel
theorem dX12_meet_0 : decode cX12_meet 0 = .ok (.aload_n 0, 1) := by decide +kernel
theorem dX12_meet_1 : decode cX12_meet 1 = .ok (.iload_n 1, 1) := by decide +kernel
theorem dX12_meet_2 : decode cX12_meet 2 = .ok (.invokevirtual 164, 3) := by decide +kernel
theorem dX12_meet_5 : decode cX12_meet 5 = .ok (.ifCond .eq 26, 3) := by decide +kernel
theorem dX12_meet_8 : decode cX12_meet 8 = .ok (.aload_n 0, 1) := by decide +kernel
theorem dX12_meet_9 : decode cX12_meet 9 = .ok (.iload_n 2, 1) := by decide +kernel
theorem dX12_meet_10 : decode cX12_meet 10 = .ok (.invokevirtual 164, 3) := by decide +kernel
theorem dX12_meet_13 : decode cX12_meet 13 = .ok (.ifCond .eq 18, 3) := by decide +kernel
theorem dX12_meet_16 : decode cX12_meet 16 = .ok (.iload_n 1, 1) := by decide +kernel
theorem dX12_meet_17 : decode cX12_meet 17 = .ok (.iload_n 2, 1) := by decide +kernel
theorem dX12_meet_18 : decode cX12_meet 18 = .ok (.if_icmp .eq 13, 3) := by decide +kernel
theorem dX12_meet_21 : decode cX12_meet 21 = .ok (.iload_n 3, 1) := by decide +kernel
theorem dX12_meet_22 : decode cX12_meet 22 = .ok (.iconst 1, 1) := by decide +kernel
theorem dX12_meet_23 : decode cX12_meet 23 = .ok (.bipush 100, 2) := by decide +kernel
theorem dX12_meet_25 : decode cX12_meet 25 = .ok (.invokestatic 156, 3) := by decide +kernel
theorem dX12_meet_28 : decode cX12_meet 28 = .ok (.ifCond .ne 5, 3) := by decide +kernel
theorem dX12_meet_31 : decode cX12_meet 31 = .ok (.iconst (-1), 1) := by decide +kernel
theorem dX12_meet_32 : decode cX12_meet 32 = .ok (.ireturn, 1) := by decide +kernel
theorem dX12_meet_33 : decode cX12_meet 33 = .ok (.aload_n 0, 1) := by decide +kernel
theorem dX12_meet_34 : decode cX12_meet 34 = .ok (.getfield 7, 3) := by decide +kernel
theorem dX12_meet_37 : decode cX12_meet 37 = .ok (.aload_n 0, 1) := by decide +kernel
theorem dX12_meet_38 : decode cX12_meet 38 = .ok (.getfield 13, 3) := by decide +kernel
theorem dX12_meet_41 : decode cX12_meet 41 = .ok (.invokestatic 346, 3) := by decide +kernel
theorem dX12_meet_44 : decode cX12_meet 44 = .ok (.iconst 0, 1) := by decide +kernel
theorem dX12_meet_45 : decode cX12_meet 45 = .ok (.istore 4, 2) := by decide +kernel
theorem dX12_meet_47 : decode cX12_meet 47 = .ok (.aload_n 0, 1) := by decide +kernel
theorem dX12_meet_48 : decode cX12_meet 48 = .ok (.iload_n 1, 1) := by decide +kernel
theorem dX12_meet_49 : decode cX12_meet 49 = .ok (.iload_n 2, 1) := by decide +kernel
theorem dX12_meet_50 : decode cX12_meet 50 = .ok (.invokevirtual 353, 3) := by decide +kernel
theorem dX12_meet_53 : decode cX12_meet 53 = .ok (.ifCond .ne 35, 3) := by decide +kernel
theorem dX12_meet_56 : decode cX12_meet 56 = .ok (.iload 4, 2) := by decide +kernel
theorem dX12_meet_58 : decode cX12_meet 58 = .ok (.iload_n 3, 1) := by decide +kernel
theorem dX12_meet_59 : decode cX12_meet 59 = .ok (.if_icmp .ge 29, 3) := by decide +kernel
theorem dX12_meet_62 : decode cX12_meet 62 = .ok (.aload_n 0, 1) := by decide +kernel
theorem dX12_meet_63 : decode cX12_meet 63 = .ok (.getfield 7, 3) := by decide +kernel
theorem dX12_meet_66 : decode cX12_meet 66 = .ok (.bipush 80, 2) := by decide +kernel
theorem dX12_meet_68 : decode cX12_meet 68 = .ok (.iaload, 1) := by decide +kernel
theorem dX12_meet_69 : decode cX12_meet 69 = .ok (.sipush 9999, 3) := by decide +kernel
theorem dX12_meet_72 : decode cX12_meet 72 = .ok (.if_icmp .ge 16, 3) := by decide +kernel
theorem dX12_meet_75 : decode cX12_meet 75 = .ok (.aload_n 0, 1) := by decide +kernel
theorem dX12_meet_76 : decode cX12_meet 76 = .ok (.invokevirtual 340, 3) := by decide +kernel
theorem dX12_meet_79 : decode cX12_meet 79 = .ok (.iload 4, 2) := by decide +kernel
theorem dX12_meet_81 : decode cX12_meet 81 = .ok (.iconst 1, 1) := by decide +kernel
theorem dX12_meet_82 : decode cX12_meet 82 = .ok (.iadd, 1) := by decide +kernel
theorem dX12_meet_83 : decode cX12_meet 83 = .ok (.istore 4, 2) := by decide +kernel
theorem dX12_meet_85 : decode cX12_meet 85 = .ok (.goto (-38), 3) := by decide +kernel
theorem dX12_meet_88 : decode cX12_meet 88 = .ok (.aload_n 0, 1) := by decide +kernel
theorem dX12_meet_89 : decode cX12_meet 89 = .ok (.iload_n 1, 1) := by decide +kernel
theorem dX12_meet_90 : decode cX12_meet 90 = .ok (.iload_n 2, 1) := by decide +kernel
theorem dX12_meet_91 : decode cX12_meet 91 = .ok (.invokevirtual 353, 3) := by decide +kernel
theorem dX12_meet_94 : decode cX12_meet 94 = .ok (.istore 5, 2) := by decide +kernel
theorem dX12_meet_96 : decode cX12_meet 96 = .ok (.aload_n 0, 1) := by decide +kernel
theorem dX12_meet_97 : decode cX12_meet 97 = .ok (.getfield 13, 3) := by decide +kernel
theorem dX12_meet_100 : decode cX12_meet 100 = .ok (.aload_n 0, 1) := by decide +kernel
theorem dX12_meet_101 : decode cX12_meet 101 = .ok (.getfield 7, 3) := by decide +kernel
theorem dX12_meet_104 : decode cX12_meet 104 = .ok (.invokestatic 346, 3) := by decide +kernel
theorem dX12_meet_107 : decode cX12_meet 107 = .ok (.iload 5, 2) := by decide +kernel
theorem dX12_meet_109 : decode cX12_meet 109 = .ok (.ifCond .eq 8, 3) := by decide +kernel
theorem dX12_meet_112 : decode cX12_meet 112 = .ok (.iload 4, 2) := by decide +kernel
theorem dX12_meet_114 : decode cX12_meet 114 = .ok (.goto 5, 3) := by decide +kernel
theorem dX12_meet_117 : decode cX12_meet 117 = .ok (.bipush (-2), 2) := by decide +kernel
theorem dX12_meet_119 : decode cX12_meet 119 = .ok (.ireturn, 1) := by decide +kernel
theorem dX12_roots_0 : decode cX12_roots 0 = .ok (.aload_n 0, 1) := by decide +kernel
theorem dX12_roots_1 : decode cX12_roots 1 = .ok (.iload_n 1, 1) := by decide +kernel
theorem dX12_roots_2 : decode cX12_roots 2 = .ok (.invokevirtual 164, 3) := by decide +kernel
theorem dX12_roots_5 : decode cX12_roots 5 = .ok (.ifCond .eq 13, 3) := by decide +kernel
theorem dX12_roots_8 : decode cX12_roots 8 = .ok (.iload_n 2, 1) := by decide +kernel
theorem dX12_roots_9 : decode cX12_roots 9 = .ok (.iconst 1, 1) := by decide +kernel
theorem dX12_roots_10 : decode cX12_roots 10 = .ok (.bipush 100, 2) := by decide +kernel
theorem dX12_roots_12 : decode cX12_roots 12 = .ok (.invokestatic 156, 3) := by decide +kernel
theorem dX12_roots_15 : decode cX12_roots 15 = .ok (.ifCond .ne 5, 3) := by decide +kernel
theorem dX12_roots_18 : decode cX12_roots 18 = .ok (.iconst (-1), 1) := by decide +kernel
theorem dX12_roots_19 : decode cX12_roots 19 = .ok (.ireturn, 1) := by decide +kernel
theorem dX12_roots_20 : decode cX12_roots 20 = .ok (.aload_n 0, 1) := by decide +kernel
theorem dX12_roots_21 : decode cX12_roots 21 = .ok (.getfield 7, 3) := by decide +kernel
theorem dX12_roots_24 : decode cX12_roots 24 = .ok (.aload_n 0, 1) := by decide +kernel
theorem dX12_roots_25 : decode cX12_roots 25 = .ok (.getfield 13, 3) := by decide +kernel
theorem dX12_roots_28 : decode cX12_roots 28 = .ok (.invokestatic 346, 3) := by decide +kernel
theorem dX12_roots_31 : decode cX12_roots 31 = .ok (.iconst 0, 1) := by decide +kernel
theorem dX12_roots_32 : decode cX12_roots 32 = .ok (.istore_n 3, 1) := by decide +kernel
theorem dX12_roots_33 : decode cX12_roots 33 = .ok (.aload_n 0, 1) := by decide +kernel
theorem dX12_roots_34 : decode cX12_roots 34 = .ok (.getfield 7, 3) := by decide +kernel
theorem dX12_roots_37 : decode cX12_roots 37 = .ok (.iconst 0, 1) := by decide +kernel
theorem dX12_roots_38 : decode cX12_roots 38 = .ok (.iload_n 1, 1) := by decide +kernel
theorem dX12_roots_39 : decode cX12_roots 39 = .ok (.iadd, 1) := by decide +kernel
theorem dX12_roots_40 : decode cX12_roots 40 = .ok (.iaload, 1) := by decide +kernel
theorem dX12_roots_41 : decode cX12_roots 41 = .ok (.iconst 3, 1) := by decide +kernel
theorem dX12_roots_42 : decode cX12_roots 42 = .ok (.if_icmp .eq 32, 3) := by decide +kernel
theorem dX12_roots_45 : decode cX12_roots 45 = .ok (.iload_n 3, 1) := by decide +kernel
theorem dX12_roots_46 : decode cX12_roots 46 = .ok (.iload_n 2, 1) := by decide +kernel
theorem dX12_roots_47 : decode cX12_roots 47 = .ok (.if_icmp .ge 27, 3) := by decide +kernel
theorem dX12_roots_50 : decode cX12_roots 50 = .ok (.aload_n 0, 1) := by decide +kernel
theorem dX12_roots_51 : decode cX12_roots 51 = .ok (.getfield 7, 3) := by decide +kernel
theorem dX12_roots_54 : decode cX12_roots 54 = .ok (.bipush 80, 2) := by decide +kernel
theorem dX12_roots_56 : decode cX12_roots 56 = .ok (.iaload, 1) := by decide +kernel
theorem dX12_roots_57 : decode cX12_roots 57 = .ok (.sipush 9999, 3) := by decide +kernel
theorem dX12_roots_60 : decode cX12_roots 60 = .ok (.if_icmp .ge 14, 3) := by decide +kernel
theorem dX12_roots_63 : decode cX12_roots 63 = .ok (.aload_n 0, 1) := by decide +kernel
theorem dX12_roots_64 : decode cX12_roots 64 = .ok (.invokevirtual 340, 3) := by decide +kernel
theorem dX12_roots_67 : decode cX12_roots 67 = .ok (.iload_n 3, 1) := by decide +kernel
theorem dX12_roots_68 : decode cX12_roots 68 = .ok (.iconst 1, 1) := by decide +kernel
theorem dX12_roots_69 : decode cX12_roots 69 = .ok (.iadd, 1) := by decide +kernel
theorem dX12_roots_70 : decode cX12_roots 70 = .ok (.istore_n 3, 1) := by decide +kernel
theorem dX12_roots_71 : decode cX12_roots 71 = .ok (.goto (-38), 3) := by decide +kernel
theorem dX12_roots_74 : decode cX12_roots 74 = .ok (.aload_n 0, 1) := by decide +kernel
theorem dX12_roots_75 : decode cX12_roots 75 = .ok (.getfield 7, 3) := by decide +kernel
theorem dX12_roots_78 : decode cX12_roots 78 = .ok (.iconst 0, 1) := by decide +kernel
theorem dX12_roots_79 : decode cX12_roots 79 = .ok (.iload_n 1, 1) := by decide +kernel
theorem dX12_roots_80 : decode cX12_roots 80 = .ok (.iadd, 1) := by decide +kernel
theorem dX12_roots_81 : decode cX12_roots 81 = .ok (.iaload, 1) := by decide +kernel
theorem dX12_roots_82 : decode cX12_roots 82 = .ok (.iconst 3, 1) := by decide +kernel
theorem dX12_roots_83 : decode cX12_roots 83 = .ok (.if_icmp .ne 7, 3) := by decide +kernel
theorem dX12_roots_86 : decode cX12_roots 86 = .ok (.iconst 1, 1) := by decide +kernel
theorem dX12_roots_87 : decode cX12_roots 87 = .ok (.goto 4, 3) := by decide +kernel
theorem dX12_roots_90 : decode cX12_roots 90 = .ok (.iconst 0, 1) := by decide +kernel
theorem dX12_roots_91 : decode cX12_roots 91 = .ok (.istore 4, 2) := by decide +kernel
theorem dX12_roots_93 : decode cX12_roots 93 = .ok (.aload_n 0, 1) := by decide +kernel
theorem dX12_roots_94 : decode cX12_roots 94 = .ok (.getfield 13, 3) := by decide +kernel
theorem dX12_roots_97 : decode cX12_roots 97 = .ok (.aload_n 0, 1) := by decide +kernel
theorem dX12_roots_98 : decode cX12_roots 98 = .ok (.getfield 7, 3) := by decide +kernel
theorem dX12_roots_101 : decode cX12_roots 101 = .ok (.invokestatic 346, 3) := by decide +kernel
theorem dX12_roots_104 : decode cX12_roots 104 = .ok (.iload 4, 2) := by decide +kernel
theorem dX12_roots_106 : decode cX12_roots 106 = .ok (.ifCond .eq 7, 3) := by decide +kernel
theorem dX12_roots_109 : decode cX12_roots 109 = .ok (.iload_n 3, 1) := by decide +kernel
theorem dX12_roots_110 : decode cX12_roots 110 = .ok (.goto 5, 3) := by decide +kernel
theorem dX12_roots_113 : decode cX12_roots 113 = .ok (.bipush (-2), 2) := by decide +kernel
theorem dX12_roots_115 : decode cX12_roots 115 = .ok (.ireturn, 1) := by decide +kernel
theorem dX12_strays_0 : decode cX12_strays 0 = .ok (.aload_n 0, 1) := by decide +kernel
theorem dX12_strays_1 : decode cX12_strays 1 = .ok (.iload_n 1, 1) := by decide +kernel
theorem dX12_strays_2 : decode cX12_strays 2 = .ok (.invokevirtual 164, 3) := by decide +kernel
theorem dX12_strays_5 : decode cX12_strays 5 = .ok (.ifCond .eq 13, 3) := by decide +kernel
theorem dX12_strays_8 : decode cX12_strays 8 = .ok (.iload_n 2, 1) := by decide +kernel
theorem dX12_strays_9 : decode cX12_strays 9 = .ok (.iconst 1, 1) := by decide +kernel
theorem dX12_strays_10 : decode cX12_strays 10 = .ok (.bipush 100, 2) := by decide +kernel
theorem dX12_strays_12 : decode cX12_strays 12 = .ok (.invokestatic 156, 3) := by decide +kernel
theorem dX12_strays_15 : decode cX12_strays 15 = .ok (.ifCond .ne 5, 3) := by decide +kernel
theorem dX12_strays_18 : decode cX12_strays 18 = .ok (.iconst (-1), 1) := by decide +kernel
theorem dX12_strays_19 : decode cX12_strays 19 = .ok (.ireturn, 1) := by decide +kernel
theorem dX12_strays_20 : decode cX12_strays 20 = .ok (.aload_n 0, 1) := by decide +kernel
theorem dX12_strays_21 : decode cX12_strays 21 = .ok (.getfield 7, 3) := by decide +kernel
theorem dX12_strays_24 : decode cX12_strays 24 = .ok (.aload_n 0, 1) := by decide +kernel
theorem dX12_strays_25 : decode cX12_strays 25 = .ok (.getfield 13, 3) := by decide +kernel
theorem dX12_strays_28 : decode cX12_strays 28 = .ok (.invokestatic 346, 3) := by decide +kernel
theorem dX12_strays_31 : decode cX12_strays 31 = .ok (.iconst 0, 1) := by decide +kernel
theorem dX12_strays_32 : decode cX12_strays 32 = .ok (.istore_n 3, 1) := by decide +kernel
theorem dX12_strays_33 : decode cX12_strays 33 = .ok (.iconst 0, 1) := by decide +kernel
theorem dX12_strays_34 : decode cX12_strays 34 = .ok (.istore 4, 2) := by decide +kernel
theorem dX12_strays_36 : decode cX12_strays 36 = .ok (.iload 4, 2) := by decide +kernel
theorem dX12_strays_38 : decode cX12_strays 38 = .ok (.iload_n 2, 1) := by decide +kernel
theorem dX12_strays_39 : decode cX12_strays 39 = .ok (.if_icmp .ge 49, 3) := by decide +kernel
theorem dX12_strays_42 : decode cX12_strays 42 = .ok (.aload_n 0, 1) := by decide +kernel
theorem dX12_strays_43 : decode cX12_strays 43 = .ok (.getfield 7, 3) := by decide +kernel
theorem dX12_strays_46 : decode cX12_strays 46 = .ok (.bipush 80, 2) := by decide +kernel
theorem dX12_strays_48 : decode cX12_strays 48 = .ok (.iaload, 1) := by decide +kernel
theorem dX12_strays_49 : decode cX12_strays 49 = .ok (.sipush 9999, 3) := by decide +kernel
theorem dX12_strays_52 : decode cX12_strays 52 = .ok (.if_icmp .ge 36, 3) := by decide +kernel
theorem dX12_strays_55 : decode cX12_strays 55 = .ok (.aload_n 0, 1) := by decide +kernel
theorem dX12_strays_56 : decode cX12_strays 56 = .ok (.invokevirtual 340, 3) := by decide +kernel
theorem dX12_strays_59 : decode cX12_strays 59 = .ok (.iload_n 3, 1) := by decide +kernel
theorem dX12_strays_60 : decode cX12_strays 60 = .ok (.aload_n 0, 1) := by decide +kernel
theorem dX12_strays_61 : decode cX12_strays 61 = .ok (.getfield 7, 3) := by decide +kernel
theorem dX12_strays_64 : decode cX12_strays 64 = .ok (.bipush 16, 2) := by decide +kernel
theorem dX12_strays_66 : decode cX12_strays 66 = .ok (.iload_n 1, 1) := by decide +kernel
theorem dX12_strays_67 : decode cX12_strays 67 = .ok (.iadd, 1) := by decide +kernel
theorem dX12_strays_68 : decode cX12_strays 68 = .ok (.iaload, 1) := by decide +kernel
theorem dX12_strays_69 : decode cX12_strays 69 = .ok (.aload_n 0, 1) := by decide +kernel
theorem dX12_strays_70 : decode cX12_strays 70 = .ok (.getfield 19, 3) := by decide +kernel
theorem dX12_strays_73 : decode cX12_strays 73 = .ok (.iload_n 1, 1) := by decide +kernel
theorem dX12_strays_74 : decode cX12_strays 74 = .ok (.iaload, 1) := by decide +kernel
theorem dX12_strays_75 : decode cX12_strays 75 = .ok (.invokestatic 303, 3) := by decide +kernel
theorem dX12_strays_78 : decode cX12_strays 78 = .ok (.invokestatic 334, 3) := by decide +kernel
theorem dX12_strays_81 : decode cX12_strays 81 = .ok (.istore_n 3, 1) := by decide +kernel
theorem dX12_strays_82 : decode cX12_strays 82 = .ok (.iinc 4 1, 3) := by decide +kernel
theorem dX12_strays_85 : decode cX12_strays 85 = .ok (.goto (-49), 3) := by decide +kernel
theorem dX12_strays_88 : decode cX12_strays 88 = .ok (.aload_n 0, 1) := by decide +kernel
theorem dX12_strays_89 : decode cX12_strays 89 = .ok (.getfield 13, 3) := by decide +kernel
theorem dX12_strays_92 : decode cX12_strays 92 = .ok (.aload_n 0, 1) := by decide +kernel
theorem dX12_strays_93 : decode cX12_strays 93 = .ok (.getfield 7, 3) := by decide +kernel
theorem dX12_strays_96 : decode cX12_strays 96 = .ok (.invokestatic 346, 3) := by decide +kernel
theorem dX12_strays_99 : decode cX12_strays 99 = .ok (.iload_n 3, 1) := by decide +kernel
theorem dX12_strays_100 : decode cX12_strays 100 = .ok (.ireturn, 1) := by decide +kernel
theorem dX12_single_0 : decode cX12_single 0 = .ok (.iload_n 1, 1) := by decide +kernel
theorem dX12_single_1 : decode cX12_single 1 = .ok (.iconst 0, 1) := by decide +kernel
theorem dX12_single_2 : decode cX12_single 2 = .ok (.iconst 1, 1) := by decide +kernel
theorem dX12_single_3 : decode cX12_single 3 = .ok (.invokestatic 156, 3) := by decide +kernel
theorem dX12_single_6 : decode cX12_single 6 = .ok (.ifCond .ne 5, 3) := by decide +kernel
theorem dX12_single_9 : decode cX12_single 9 = .ok (.iconst (-1), 1) := by decide +kernel
theorem dX12_single_10 : decode cX12_single 10 = .ok (.ireturn, 1) := by decide +kernel
theorem dX12_single_11 : decode cX12_single 11 = .ok (.iconst 0, 1) := by decide +kernel
theorem dX12_single_12 : decode cX12_single 12 = .ok (.istore_n 2, 1) := by decide +kernel
theorem dX12_single_13 : decode cX12_single 13 = .ok (.iconst 0, 1) := by decide +kernel
theorem dX12_single_14 : decode cX12_single 14 = .ok (.istore_n 3, 1) := by decide +kernel
theorem dX12_single_15 : decode cX12_single 15 = .ok (.iload_n 3, 1) := by decide +kernel
theorem dX12_single_16 : decode cX12_single 16 = .ok (.aload_n 0, 1) := by decide +kernel
theorem dX12_single_17 : decode cX12_single 17 = .ok (.getfield 152, 3) := by decide +kernel
theorem dX12_single_20 : decode cX12_single 20 = .ok (.if_icmp .ge 42, 3) := by decide +kernel
theorem dX12_single_23 : decode cX12_single 23 = .ok (.iload_n 1, 1) := by decide +kernel
theorem dX12_single_24 : decode cX12_single 24 = .ok (.ifCond .ne 15, 3) := by decide +kernel
theorem dX12_single_27 : decode cX12_single 27 = .ok (.aload_n 0, 1) := by decide +kernel
theorem dX12_single_28 : decode cX12_single 28 = .ok (.getfield 25, 3) := by decide +kernel
theorem dX12_single_31 : decode cX12_single 31 = .ok (.iload_n 3, 1) := by decide +kernel
theorem dX12_single_32 : decode cX12_single 32 = .ok (.iaload, 1) := by decide +kernel
theorem dX12_single_33 : decode cX12_single 33 = .ok (.ifCond .ge 23, 3) := by decide +kernel
theorem dX12_single_36 : decode cX12_single 36 = .ok (.goto 14, 3) := by decide +kernel
theorem dX12_single_39 : decode cX12_single 39 = .ok (.aload_n 0, 1) := by decide +kernel
theorem dX12_single_40 : decode cX12_single 40 = .ok (.getfield 25, 3) := by decide +kernel
theorem dX12_single_43 : decode cX12_single 43 = .ok (.iload_n 3, 1) := by decide +kernel
theorem dX12_single_44 : decode cX12_single 44 = .ok (.iaload, 1) := by decide +kernel
theorem dX12_single_45 : decode cX12_single 45 = .ok (.bipush (-3), 2) := by decide +kernel
theorem dX12_single_47 : decode cX12_single 47 = .ok (.if_icmp .ne 9, 3) := by decide +kernel
theorem dX12_single_50 : decode cX12_single 50 = .ok (.iload_n 2, 1) := by decide +kernel
theorem dX12_single_51 : decode cX12_single 51 = .ok (.iconst 1, 1) := by decide +kernel
theorem dX12_single_52 : decode cX12_single 52 = .ok (.iload_n 3, 1) := by decide +kernel
theorem dX12_single_53 : decode cX12_single 53 = .ok (.ishl, 1) := by decide +kernel
theorem dX12_single_54 : decode cX12_single 54 = .ok (.ior, 1) := by decide +kernel
theorem dX12_single_55 : decode cX12_single 55 = .ok (.istore_n 2, 1) := by decide +kernel
theorem dX12_single_56 : decode cX12_single 56 = .ok (.iinc 3 1, 3) := by decide +kernel
theorem dX12_single_59 : decode cX12_single 59 = .ok (.goto (-44), 3) := by decide +kernel
theorem dX12_single_62 : decode cX12_single 62 = .ok (.iload_n 2, 1) := by decide +kernel
theorem dX12_single_63 : decode cX12_single 63 = .ok (.ireturn, 1) := by decide +kernel
theorem dX12_who_0 : decode cX12_who 0 = .ok (.iload_n 1, 1) := by decide +kernel
theorem dX12_who_1 : decode cX12_who 1 = .ok (.iconst 0, 1) := by decide +kernel
theorem dX12_who_2 : decode cX12_who 2 = .ok (.bipush 15, 2) := by decide +kernel
theorem dX12_who_4 : decode cX12_who 4 = .ok (.invokestatic 156, 3) := by decide +kernel
theorem dX12_who_7 : decode cX12_who 7 = .ok (.ifCond .ne 5, 3) := by decide +kernel
theorem dX12_who_10 : decode cX12_who 10 = .ok (.iconst (-1), 1) := by decide +kernel
theorem dX12_who_11 : decode cX12_who 11 = .ok (.ireturn, 1) := by decide +kernel
theorem dX12_who_12 : decode cX12_who 12 = .ok (.iconst 0, 1) := by decide +kernel
theorem dX12_who_13 : decode cX12_who 13 = .ok (.istore_n 2, 1) := by decide +kernel
theorem dX12_who_14 : decode cX12_who 14 = .ok (.iconst 0, 1) := by decide +kernel
theorem dX12_who_15 : decode cX12_who 15 = .ok (.istore_n 3, 1) := by decide +kernel
theorem dX12_who_16 : decode cX12_who 16 = .ok (.iload_n 3, 1) := by decide +kernel
theorem dX12_who_17 : decode cX12_who 17 = .ok (.aload_n 0, 1) := by decide +kernel
theorem dX12_who_18 : decode cX12_who 18 = .ok (.getfield 152, 3) := by decide +kernel
theorem dX12_who_21 : decode cX12_who 21 = .ok (.if_icmp .ge 35, 3) := by decide +kernel
theorem dX12_who_24 : decode cX12_who 24 = .ok (.aload_n 0, 1) := by decide +kernel
theorem dX12_who_25 : decode cX12_who 25 = .ok (.getfield 22, 3) := by decide +kernel
theorem dX12_who_28 : decode cX12_who 28 = .ok (.iload_n 3, 1) := by decide +kernel
theorem dX12_who_29 : decode cX12_who 29 = .ok (.iaload, 1) := by decide +kernel
theorem dX12_who_30 : decode cX12_who 30 = .ok (.iload_n 1, 1) := by decide +kernel
theorem dX12_who_31 : decode cX12_who 31 = .ok (.if_icmp .eq 13, 3) := by decide +kernel
theorem dX12_who_34 : decode cX12_who 34 = .ok (.aload_n 0, 1) := by decide +kernel
theorem dX12_who_35 : decode cX12_who 35 = .ok (.getfield 25, 3) := by decide +kernel
theorem dX12_who_38 : decode cX12_who 38 = .ok (.iload_n 3, 1) := by decide +kernel
theorem dX12_who_39 : decode cX12_who 39 = .ok (.iaload, 1) := by decide +kernel
theorem dX12_who_40 : decode cX12_who 40 = .ok (.iload_n 1, 1) := by decide +kernel
theorem dX12_who_41 : decode cX12_who 41 = .ok (.if_icmp .ne 9, 3) := by decide +kernel
theorem dX12_who_44 : decode cX12_who 44 = .ok (.iload_n 2, 1) := by decide +kernel
theorem dX12_who_45 : decode cX12_who 45 = .ok (.iconst 1, 1) := by decide +kernel
theorem dX12_who_46 : decode cX12_who 46 = .ok (.iload_n 3, 1) := by decide +kernel
theorem dX12_who_47 : decode cX12_who 47 = .ok (.ishl, 1) := by decide +kernel
theorem dX12_who_48 : decode cX12_who 48 = .ok (.ior, 1) := by decide +kernel
theorem dX12_who_49 : decode cX12_who 49 = .ok (.istore_n 2, 1) := by decide +kernel
theorem dX12_who_50 : decode cX12_who 50 = .ok (.iinc 3 1, 3) := by decide +kernel
theorem dX12_who_53 : decode cX12_who 53 = .ok (.goto (-37), 3) := by decide +kernel
theorem dX12_who_56 : decode cX12_who 56 = .ok (.iload_n 2, 1) := by decide +kernel
theorem dX12_who_57 : decode cX12_who 57 = .ok (.ireturn, 1) := by decide +kernel
theorem dX12_letters_0 : decode cX12_letters 0 = .ok (.iconst 0, 1) := by decide +kernel
theorem dX12_letters_1 : decode cX12_letters 1 = .ok (.istore_n 1, 1) := by decide +kernel
theorem dX12_letters_2 : decode cX12_letters 2 = .ok (.iconst 0, 1) := by decide +kernel
theorem dX12_letters_3 : decode cX12_letters 3 = .ok (.istore_n 2, 1) := by decide +kernel
theorem dX12_letters_4 : decode cX12_letters 4 = .ok (.iload_n 2, 1) := by decide +kernel
theorem dX12_letters_5 : decode cX12_letters 5 = .ok (.aload_n 0, 1) := by decide +kernel
theorem dX12_letters_6 : decode cX12_letters 6 = .ok (.getfield 152, 3) := by decide +kernel
theorem dX12_letters_9 : decode cX12_letters 9 = .ok (.if_icmp .ge 55, 3) := by decide +kernel
theorem dX12_letters_12 : decode cX12_letters 12 = .ok (.aload_n 0, 1) := by decide +kernel
theorem dX12_letters_13 : decode cX12_letters 13 = .ok (.getfield 7, 3) := by decide +kernel
theorem dX12_letters_16 : decode cX12_letters 16 = .ok (.iconst 0, 1) := by decide +kernel
theorem dX12_letters_17 : decode cX12_letters 17 = .ok (.iload_n 2, 1) := by decide +kernel
theorem dX12_letters_18 : decode cX12_letters 18 = .ok (.iadd, 1) := by decide +kernel
theorem dX12_letters_19 : decode cX12_letters 19 = .ok (.iaload, 1) := by decide +kernel
theorem dX12_letters_20 : decode cX12_letters 20 = .ok (.iconst 2, 1) := by decide +kernel
theorem dX12_letters_21 : decode cX12_letters 21 = .ok (.if_icmp .eq 6, 3) := by decide +kernel
theorem dX12_letters_24 : decode cX12_letters 24 = .ok (.goto 34, 3) := by decide +kernel
theorem dX12_letters_27 : decode cX12_letters 27 = .ok (.iload_n 1, 1) := by decide +kernel
theorem dX12_letters_28 : decode cX12_letters 28 = .ok (.iconst 1, 1) := by decide +kernel
theorem dX12_letters_29 : decode cX12_letters 29 = .ok (.aload_n 0, 1) := by decide +kernel
theorem dX12_letters_30 : decode cX12_letters 30 = .ok (.getfield 22, 3) := by decide +kernel
theorem dX12_letters_33 : decode cX12_letters 33 = .ok (.iload_n 2, 1) := by decide +kernel
theorem dX12_letters_34 : decode cX12_letters 34 = .ok (.iaload, 1) := by decide +kernel
theorem dX12_letters_35 : decode cX12_letters 35 = .ok (.ishl, 1) := by decide +kernel
theorem dX12_letters_36 : decode cX12_letters 36 = .ok (.ior, 1) := by decide +kernel
theorem dX12_letters_37 : decode cX12_letters 37 = .ok (.istore_n 1, 1) := by decide +kernel
theorem dX12_letters_38 : decode cX12_letters 38 = .ok (.aload_n 0, 1) := by decide +kernel
theorem dX12_letters_39 : decode cX12_letters 39 = .ok (.getfield 25, 3) := by decide +kernel
theorem dX12_letters_42 : decode cX12_letters 42 = .ok (.iload_n 2, 1) := by decide +kernel
theorem dX12_letters_43 : decode cX12_letters 43 = .ok (.iaload, 1) := by decide +kernel
theorem dX12_letters_44 : decode cX12_letters 44 = .ok (.ifCond .lt 14, 3) := by decide +kernel
theorem dX12_letters_47 : decode cX12_letters 47 = .ok (.iload_n 1, 1) := by decide +kernel
theorem dX12_letters_48 : decode cX12_letters 48 = .ok (.iconst 1, 1) := by decide +kernel
theorem dX12_letters_49 : decode cX12_letters 49 = .ok (.aload_n 0, 1) := by decide +kernel
theorem dX12_letters_50 : decode cX12_letters 50 = .ok (.getfield 25, 3) := by decide +kernel
theorem dX12_letters_53 : decode cX12_letters 53 = .ok (.iload_n 2, 1) := by decide +kernel
theorem dX12_letters_54 : decode cX12_letters 54 = .ok (.iaload, 1) := by decide +kernel
theorem dX12_letters_55 : decode cX12_letters 55 = .ok (.ishl, 1) := by decide +kernel
theorem dX12_letters_56 : decode cX12_letters 56 = .ok (.ior, 1) := by decide +kernel
theorem dX12_letters_57 : decode cX12_letters 57 = .ok (.istore_n 1, 1) := by decide +kernel
theorem dX12_letters_58 : decode cX12_letters 58 = .ok (.iinc 2 1, 3) := by decide +kernel
theorem dX12_letters_61 : decode cX12_letters 61 = .ok (.goto (-57), 3) := by decide +kernel
theorem dX12_letters_64 : decode cX12_letters 64 = .ok (.iload_n 1, 1) := by decide +kernel
theorem dX12_letters_65 : decode cX12_letters 65 = .ok (.ireturn, 1) := by decide +kernel
theorem dX12_nearest_0 : decode cX12_nearest 0 = .ok (.aload_n 0, 1) := by decide +kernel
theorem dX12_nearest_1 : decode cX12_nearest 1 = .ok (.iload_n 1, 1) := by decide +kernel
theorem dX12_nearest_2 : decode cX12_nearest 2 = .ok (.invokevirtual 164, 3) := by decide +kernel
theorem dX12_nearest_5 : decode cX12_nearest 5 = .ok (.ifCond .eq 12, 3) := by decide +kernel
theorem dX12_nearest_8 : decode cX12_nearest 8 = .ok (.iload_n 2, 1) := by decide +kernel
theorem dX12_nearest_9 : decode cX12_nearest 9 = .ok (.iconst 0, 1) := by decide +kernel
theorem dX12_nearest_10 : decode cX12_nearest 10 = .ok (.iconst 1, 1) := by decide +kernel
theorem dX12_nearest_11 : decode cX12_nearest 11 = .ok (.invokestatic 156, 3) := by decide +kernel
theorem dX12_nearest_14 : decode cX12_nearest 14 = .ok (.ifCond .ne 5, 3) := by decide +kernel
theorem dX12_nearest_17 : decode cX12_nearest 17 = .ok (.iconst (-1), 1) := by decide +kernel
theorem dX12_nearest_18 : decode cX12_nearest 18 = .ok (.ireturn, 1) := by decide +kernel
theorem dX12_nearest_19 : decode cX12_nearest 19 = .ok (.bipush (-2), 2) := by decide +kernel
theorem dX12_nearest_21 : decode cX12_nearest 21 = .ok (.istore_n 3, 1) := by decide +kernel
theorem dX12_nearest_22 : decode cX12_nearest 22 = .ok (.bipush (-2), 2) := by decide +kernel
theorem dX12_nearest_24 : decode cX12_nearest 24 = .ok (.istore 4, 2) := by decide +kernel
theorem dX12_nearest_26 : decode cX12_nearest 26 = .ok (.iconst 0, 1) := by decide +kernel
theorem dX12_nearest_27 : decode cX12_nearest 27 = .ok (.istore 5, 2) := by decide +kernel
theorem dX12_nearest_29 : decode cX12_nearest 29 = .ok (.iload 5, 2) := by decide +kernel
theorem dX12_nearest_31 : decode cX12_nearest 31 = .ok (.aload_n 0, 1) := by decide +kernel
theorem dX12_nearest_32 : decode cX12_nearest 32 = .ok (.getfield 152, 3) := by decide +kernel
theorem dX12_nearest_35 : decode cX12_nearest 35 = .ok (.if_icmp .ge 62, 3) := by decide +kernel
theorem dX12_nearest_38 : decode cX12_nearest 38 = .ok (.aload_n 0, 1) := by decide +kernel
theorem dX12_nearest_39 : decode cX12_nearest 39 = .ok (.getfield 7, 3) := by decide +kernel
theorem dX12_nearest_42 : decode cX12_nearest 42 = .ok (.bipush 16, 2) := by decide +kernel
theorem dX12_nearest_44 : decode cX12_nearest 44 = .ok (.iload_n 1, 1) := by decide +kernel
theorem dX12_nearest_45 : decode cX12_nearest 45 = .ok (.iadd, 1) := by decide +kernel
theorem dX12_nearest_46 : decode cX12_nearest 46 = .ok (.iaload, 1) := by decide +kernel
theorem dX12_nearest_47 : decode cX12_nearest 47 = .ok (.aload_n 0, 1) := by decide +kernel
theorem dX12_nearest_48 : decode cX12_nearest 48 = .ok (.getfield 7, 3) := by decide +kernel
theorem dX12_nearest_51 : decode cX12_nearest 51 = .ok (.bipush 16, 2) := by decide +kernel
theorem dX12_nearest_53 : decode cX12_nearest 53 = .ok (.iload 5, 2) := by decide +kernel
theorem dX12_nearest_55 : decode cX12_nearest 55 = .ok (.iadd, 1) := by decide +kernel
theorem dX12_nearest_56 : decode cX12_nearest 56 = .ok (.iaload, 1) := by decide +kernel
theorem dX12_nearest_57 : decode cX12_nearest 57 = .ok (.invokestatic 303, 3) := by decide +kernel
theorem dX12_nearest_60 : decode cX12_nearest 60 = .ok (.istore 6, 2) := by decide +kernel
theorem dX12_nearest_62 : decode cX12_nearest 62 = .ok (.iload 5, 2) := by decide +kernel
theorem dX12_nearest_64 : decode cX12_nearest 64 = .ok (.iload_n 1, 1) := by decide +kernel
theorem dX12_nearest_65 : decode cX12_nearest 65 = .ok (.if_icmp .eq 26, 3) := by decide +kernel
theorem dX12_nearest_68 : decode cX12_nearest 68 = .ok (.iload_n 3, 1) := by decide +kernel
theorem dX12_nearest_69 : decode cX12_nearest 69 = .ok (.bipush (-2), 2) := by decide +kernel
theorem dX12_nearest_71 : decode cX12_nearest 71 = .ok (.if_icmp .eq 13, 3) := by decide +kernel
theorem dX12_nearest_74 : decode cX12_nearest 74 = .ok (.iload 6, 2) := by decide +kernel
theorem dX12_nearest_76 : decode cX12_nearest 76 = .ok (.iload 4, 2) := by decide +kernel
theorem dX12_nearest_78 : decode cX12_nearest 78 = .ok (.if_icmp .lt 6, 3) := by decide +kernel
theorem dX12_nearest_81 : decode cX12_nearest 81 = .ok (.goto 10, 3) := by decide +kernel
theorem dX12_nearest_84 : decode cX12_nearest 84 = .ok (.iload 5, 2) := by decide +kernel
theorem dX12_nearest_86 : decode cX12_nearest 86 = .ok (.istore_n 3, 1) := by decide +kernel
theorem dX12_nearest_87 : decode cX12_nearest 87 = .ok (.iload 6, 2) := by decide +kernel
theorem dX12_nearest_89 : decode cX12_nearest 89 = .ok (.istore 4, 2) := by decide +kernel
theorem dX12_nearest_91 : decode cX12_nearest 91 = .ok (.iinc 5 1, 3) := by decide +kernel
theorem dX12_nearest_94 : decode cX12_nearest 94 = .ok (.goto (-65), 3) := by decide +kernel
theorem dX12_nearest_97 : decode cX12_nearest 97 = .ok (.iload_n 2, 1) := by decide +kernel
theorem dX12_nearest_98 : decode cX12_nearest 98 = .ok (.ifCond .ne 7, 3) := by decide +kernel
theorem dX12_nearest_101 : decode cX12_nearest 101 = .ok (.iload_n 3, 1) := by decide +kernel
theorem dX12_nearest_102 : decode cX12_nearest 102 = .ok (.goto 5, 3) := by decide +kernel
theorem dX12_nearest_105 : decode cX12_nearest 105 = .ok (.iload 4, 2) := by decide +kernel
theorem dX12_nearest_107 : decode cX12_nearest 107 = .ok (.ireturn, 1) := by decide +kernel
theorem dX12_dates_0 : decode cX12_dates 0 = .ok (.iload_n 1, 1) := by decide +kernel
theorem dX12_dates_1 : decode cX12_dates 1 = .ok (.iconst 0, 1) := by decide +kernel
theorem dX12_dates_2 : decode cX12_dates 2 = .ok (.iconst 2, 1) := by decide +kernel
theorem dX12_dates_3 : decode cX12_dates 3 = .ok (.invokestatic 156, 3) := by decide +kernel
theorem dX12_dates_6 : decode cX12_dates 6 = .ok (.ifCond .ne 5, 3) := by decide +kernel
theorem dX12_dates_9 : decode cX12_dates 9 = .ok (.iconst (-1), 1) := by decide +kernel
theorem dX12_dates_10 : decode cX12_dates 10 = .ok (.ireturn, 1) := by decide +kernel
theorem dX12_dates_11 : decode cX12_dates 11 = .ok (.iconst 0, 1) := by decide +kernel
theorem dX12_dates_12 : decode cX12_dates 12 = .ok (.istore_n 2, 1) := by decide +kernel
theorem dX12_dates_13 : decode cX12_dates 13 = .ok (.bipush (-2), 2) := by decide +kernel
theorem dX12_dates_15 : decode cX12_dates 15 = .ok (.istore_n 3, 1) := by decide +kernel
theorem dX12_dates_16 : decode cX12_dates 16 = .ok (.bipush (-2), 2) := by decide +kernel
theorem dX12_dates_18 : decode cX12_dates 18 = .ok (.istore 4, 2) := by decide +kernel
theorem dX12_dates_20 : decode cX12_dates 20 = .ok (.iconst 0, 1) := by decide +kernel
theorem dX12_dates_21 : decode cX12_dates 21 = .ok (.istore 5, 2) := by decide +kernel
theorem dX12_dates_23 : decode cX12_dates 23 = .ok (.iload 5, 2) := by decide +kernel
theorem dX12_dates_25 : decode cX12_dates 25 = .ok (.aload_n 0, 1) := by decide +kernel
theorem dX12_dates_26 : decode cX12_dates 26 = .ok (.getfield 152, 3) := by decide +kernel
theorem dX12_dates_29 : decode cX12_dates 29 = .ok (.if_icmp .ge 70, 3) := by decide +kernel
theorem dX12_dates_32 : decode cX12_dates 32 = .ok (.aload_n 0, 1) := by decide +kernel
theorem dX12_dates_33 : decode cX12_dates 33 = .ok (.getfield 37, 3) := by decide +kernel
theorem dX12_dates_36 : decode cX12_dates 36 = .ok (.iload 5, 2) := by decide +kernel
theorem dX12_dates_38 : decode cX12_dates 38 = .ok (.iaload, 1) := by decide +kernel
theorem dX12_dates_39 : decode cX12_dates 39 = .ok (.bipush (-2), 2) := by decide +kernel
theorem dX12_dates_41 : decode cX12_dates 41 = .ok (.if_icmp .ne 6, 3) := by decide +kernel
theorem dX12_dates_44 : decode cX12_dates 44 = .ok (.goto 49, 3) := by decide +kernel
theorem dX12_dates_47 : decode cX12_dates 47 = .ok (.iload_n 2, 1) := by decide +kernel
theorem dX12_dates_48 : decode cX12_dates 48 = .ok (.iconst 1, 1) := by decide +kernel
theorem dX12_dates_49 : decode cX12_dates 49 = .ok (.iadd, 1) := by decide +kernel
theorem dX12_dates_50 : decode cX12_dates 50 = .ok (.istore_n 2, 1) := by decide +kernel
theorem dX12_dates_51 : decode cX12_dates 51 = .ok (.iload_n 3, 1) := by decide +kernel
theorem dX12_dates_52 : decode cX12_dates 52 = .ok (.bipush (-2), 2) := by decide +kernel
theorem dX12_dates_54 : decode cX12_dates 54 = .ok (.if_icmp .ne 13, 3) := by decide +kernel
theorem dX12_dates_57 : decode cX12_dates 57 = .ok (.aload_n 0, 1) := by decide +kernel
theorem dX12_dates_58 : decode cX12_dates 58 = .ok (.getfield 37, 3) := by decide +kernel
theorem dX12_dates_61 : decode cX12_dates 61 = .ok (.iload 5, 2) := by decide +kernel
theorem dX12_dates_63 : decode cX12_dates 63 = .ok (.iaload, 1) := by decide +kernel
theorem dX12_dates_64 : decode cX12_dates 64 = .ok (.goto 14, 3) := by decide +kernel
theorem dX12_dates_67 : decode cX12_dates 67 = .ok (.iload_n 3, 1) := by decide +kernel
theorem dX12_dates_68 : decode cX12_dates 68 = .ok (.aload_n 0, 1) := by decide +kernel
theorem dX12_dates_69 : decode cX12_dates 69 = .ok (.getfield 37, 3) := by decide +kernel
theorem dX12_dates_72 : decode cX12_dates 72 = .ok (.iload 5, 2) := by decide +kernel
theorem dX12_dates_74 : decode cX12_dates 74 = .ok (.iaload, 1) := by decide +kernel
theorem dX12_dates_75 : decode cX12_dates 75 = .ok (.invokestatic 309, 3) := by decide +kernel
theorem dX12_dates_78 : decode cX12_dates 78 = .ok (.istore_n 3, 1) := by decide +kernel
theorem dX12_dates_79 : decode cX12_dates 79 = .ok (.iload 4, 2) := by decide +kernel
theorem dX12_dates_81 : decode cX12_dates 81 = .ok (.aload_n 0, 1) := by decide +kernel
theorem dX12_dates_82 : decode cX12_dates 82 = .ok (.getfield 37, 3) := by decide +kernel
theorem dX12_dates_85 : decode cX12_dates 85 = .ok (.iload 5, 2) := by decide +kernel
theorem dX12_dates_87 : decode cX12_dates 87 = .ok (.iaload, 1) := by decide +kernel
theorem dX12_dates_88 : decode cX12_dates 88 = .ok (.invokestatic 334, 3) := by decide +kernel
theorem dX12_dates_91 : decode cX12_dates 91 = .ok (.istore 4, 2) := by decide +kernel
theorem dX12_dates_93 : decode cX12_dates 93 = .ok (.iinc 5 1, 3) := by decide +kernel
theorem dX12_dates_96 : decode cX12_dates 96 = .ok (.goto (-73), 3) := by decide +kernel
theorem dX12_dates_99 : decode cX12_dates 99 = .ok (.iload_n 1, 1) := by decide +kernel
theorem dX12_dates_100 : decode cX12_dates 100 = .ok (.ifCond .ne 7, 3) := by decide +kernel
theorem dX12_dates_103 : decode cX12_dates 103 = .ok (.iload_n 2, 1) := by decide +kernel
theorem dX12_dates_104 : decode cX12_dates 104 = .ok (.goto 14, 3) := by decide +kernel
theorem dX12_dates_107 : decode cX12_dates 107 = .ok (.iload_n 1, 1) := by decide +kernel
theorem dX12_dates_108 : decode cX12_dates 108 = .ok (.iconst 1, 1) := by decide +kernel
theorem dX12_dates_109 : decode cX12_dates 109 = .ok (.if_icmp .ne 7, 3) := by decide +kernel
theorem dX12_dates_112 : decode cX12_dates 112 = .ok (.iload_n 3, 1) := by decide +kernel
theorem dX12_dates_113 : decode cX12_dates 113 = .ok (.goto 5, 3) := by decide +kernel
theorem dX12_dates_116 : decode cX12_dates 116 = .ok (.iload 4, 2) := by decide +kernel
theorem dX12_dates_118 : decode cX12_dates 118 = .ok (.ireturn, 1) := by decide +kernel
theorem dX12_homesAt_0 : decode cX12_homesAt 0 = .ok (.iconst 0, 1) := by decide +kernel
theorem dX12_homesAt_1 : decode cX12_homesAt 1 = .ok (.istore_n 2, 1) := by decide +kernel
theorem dX12_homesAt_2 : decode cX12_homesAt 2 = .ok (.iconst 0, 1) := by decide +kernel
theorem dX12_homesAt_3 : decode cX12_homesAt 3 = .ok (.istore_n 3, 1) := by decide +kernel
theorem dX12_homesAt_4 : decode cX12_homesAt 4 = .ok (.iload_n 3, 1) := by decide +kernel
theorem dX12_homesAt_5 : decode cX12_homesAt 5 = .ok (.aload_n 0, 1) := by decide +kernel
theorem dX12_homesAt_6 : decode cX12_homesAt 6 = .ok (.getfield 152, 3) := by decide +kernel
theorem dX12_homesAt_9 : decode cX12_homesAt 9 = .ok (.if_icmp .ge 23, 3) := by decide +kernel
theorem dX12_homesAt_12 : decode cX12_homesAt 12 = .ok (.aload_n 0, 1) := by decide +kernel
theorem dX12_homesAt_13 : decode cX12_homesAt 13 = .ok (.getfield 40, 3) := by decide +kernel
theorem dX12_homesAt_16 : decode cX12_homesAt 16 = .ok (.iload_n 3, 1) := by decide +kernel
theorem dX12_homesAt_17 : decode cX12_homesAt 17 = .ok (.iaload, 1) := by decide +kernel
theorem dX12_homesAt_18 : decode cX12_homesAt 18 = .ok (.iload_n 1, 1) := by decide +kernel
theorem dX12_homesAt_19 : decode cX12_homesAt 19 = .ok (.if_icmp .ne 7, 3) := by decide +kernel
theorem dX12_homesAt_22 : decode cX12_homesAt 22 = .ok (.iload_n 2, 1) := by decide +kernel
theorem dX12_homesAt_23 : decode cX12_homesAt 23 = .ok (.iconst 1, 1) := by decide +kernel
theorem dX12_homesAt_24 : decode cX12_homesAt 24 = .ok (.iadd, 1) := by decide +kernel
theorem dX12_homesAt_25 : decode cX12_homesAt 25 = .ok (.istore_n 2, 1) := by decide +kernel
theorem dX12_homesAt_26 : decode cX12_homesAt 26 = .ok (.iinc 3 1, 3) := by decide +kernel
theorem dX12_homesAt_29 : decode cX12_homesAt 29 = .ok (.goto (-25), 3) := by decide +kernel
theorem dX12_homesAt_32 : decode cX12_homesAt 32 = .ok (.iload_n 2, 1) := by decide +kernel
theorem dX12_homesAt_33 : decode cX12_homesAt 33 = .ok (.ireturn, 1) := by decide +kernel
theorem dX12_busiest_0 : decode cX12_busiest 0 = .ok (.iload_n 1, 1) := by decide +kernel
theorem dX12_busiest_1 : decode cX12_busiest 1 = .ok (.iconst 0, 1) := by decide +kernel
theorem dX12_busiest_2 : decode cX12_busiest 2 = .ok (.iconst 1, 1) := by decide +kernel
theorem dX12_busiest_3 : decode cX12_busiest 3 = .ok (.invokestatic 156, 3) := by decide +kernel
theorem dX12_busiest_6 : decode cX12_busiest 6 = .ok (.ifCond .ne 5, 3) := by decide +kernel
theorem dX12_busiest_9 : decode cX12_busiest 9 = .ok (.iconst (-1), 1) := by decide +kernel
theorem dX12_busiest_10 : decode cX12_busiest 10 = .ok (.ireturn, 1) := by decide +kernel
theorem dX12_busiest_11 : decode cX12_busiest 11 = .ok (.bipush (-2), 2) := by decide +kernel
theorem dX12_busiest_13 : decode cX12_busiest 13 = .ok (.istore_n 2, 1) := by decide +kernel
theorem dX12_busiest_14 : decode cX12_busiest 14 = .ok (.iconst 0, 1) := by decide +kernel
theorem dX12_busiest_15 : decode cX12_busiest 15 = .ok (.istore_n 3, 1) := by decide +kernel
theorem dX12_busiest_16 : decode cX12_busiest 16 = .ok (.iconst 0, 1) := by decide +kernel
theorem dX12_busiest_17 : decode cX12_busiest 17 = .ok (.istore 4, 2) := by decide +kernel
theorem dX12_busiest_19 : decode cX12_busiest 19 = .ok (.iload 4, 2) := by decide +kernel
theorem dX12_busiest_21 : decode cX12_busiest 21 = .ok (.sipush 384, 3) := by decide +kernel
theorem dX12_busiest_24 : decode cX12_busiest 24 = .ok (.if_icmp .ge 32, 3) := by decide +kernel
theorem dX12_busiest_27 : decode cX12_busiest 27 = .ok (.aload_n 0, 1) := by decide +kernel
theorem dX12_busiest_28 : decode cX12_busiest 28 = .ok (.iload 4, 2) := by decide +kernel
theorem dX12_busiest_30 : decode cX12_busiest 30 = .ok (.invokevirtual 356, 3) := by decide +kernel
theorem dX12_busiest_33 : decode cX12_busiest 33 = .ok (.iload_n 3, 1) := by decide +kernel
theorem dX12_busiest_34 : decode cX12_busiest 34 = .ok (.if_icmp .gt 6, 3) := by decide +kernel
theorem dX12_busiest_37 : decode cX12_busiest 37 = .ok (.goto 13, 3) := by decide +kernel
theorem dX12_busiest_40 : decode cX12_busiest 40 = .ok (.aload_n 0, 1) := by decide +kernel
theorem dX12_busiest_41 : decode cX12_busiest 41 = .ok (.iload 4, 2) := by decide +kernel
theorem dX12_busiest_43 : decode cX12_busiest 43 = .ok (.invokevirtual 356, 3) := by decide +kernel
theorem dX12_busiest_46 : decode cX12_busiest 46 = .ok (.istore_n 3, 1) := by decide +kernel
theorem dX12_busiest_47 : decode cX12_busiest 47 = .ok (.iload 4, 2) := by decide +kernel
theorem dX12_busiest_49 : decode cX12_busiest 49 = .ok (.istore_n 2, 1) := by decide +kernel
theorem dX12_busiest_50 : decode cX12_busiest 50 = .ok (.iinc 4 1, 3) := by decide +kernel
theorem dX12_busiest_53 : decode cX12_busiest 53 = .ok (.goto (-34), 3) := by decide +kernel
theorem dX12_busiest_56 : decode cX12_busiest 56 = .ok (.iload_n 1, 1) := by decide +kernel
theorem dX12_busiest_57 : decode cX12_busiest 57 = .ok (.ifCond .ne 7, 3) := by decide +kernel
theorem dX12_busiest_60 : decode cX12_busiest 60 = .ok (.iload_n 2, 1) := by decide +kernel
theorem dX12_busiest_61 : decode cX12_busiest 61 = .ok (.goto 4, 3) := by decide +kernel
theorem dX12_busiest_64 : decode cX12_busiest 64 = .ok (.iload_n 3, 1) := by decide +kernel
theorem dX12_busiest_65 : decode cX12_busiest 65 = .ok (.ireturn, 1) := by decide +kernel
theorem dX12_groupOf_0 : decode cX12_groupOf 0 = .ok (.iconst 1, 1) := by decide +kernel
theorem dX12_groupOf_1 : decode cX12_groupOf 1 = .ok (.iload_n 1, 1) := by decide +kernel
theorem dX12_groupOf_2 : decode cX12_groupOf 2 = .ok (.ishl, 1) := by decide +kernel
theorem dX12_groupOf_3 : decode cX12_groupOf 3 = .ok (.istore_n 3, 1) := by decide +kernel
theorem dX12_groupOf_4 : decode cX12_groupOf 4 = .ok (.iconst 0, 1) := by decide +kernel
theorem dX12_groupOf_5 : decode cX12_groupOf 5 = .ok (.istore 4, 2) := by decide +kernel
theorem dX12_groupOf_7 : decode cX12_groupOf 7 = .ok (.iload_n 3, 1) := by decide +kernel
theorem dX12_groupOf_8 : decode cX12_groupOf 8 = .ok (.iload 4, 2) := by decide +kernel
theorem dX12_groupOf_10 : decode cX12_groupOf 10 = .ok (.if_icmp .eq 89, 3) := by decide +kernel
theorem dX12_groupOf_13 : decode cX12_groupOf 13 = .ok (.iload_n 3, 1) := by decide +kernel
theorem dX12_groupOf_14 : decode cX12_groupOf 14 = .ok (.istore 4, 2) := by decide +kernel
theorem dX12_groupOf_16 : decode cX12_groupOf 16 = .ok (.iconst 0, 1) := by decide +kernel
theorem dX12_groupOf_17 : decode cX12_groupOf 17 = .ok (.istore 5, 2) := by decide +kernel
theorem dX12_groupOf_19 : decode cX12_groupOf 19 = .ok (.iload 5, 2) := by decide +kernel
theorem dX12_groupOf_21 : decode cX12_groupOf 21 = .ok (.aload_n 0, 1) := by decide +kernel
theorem dX12_groupOf_22 : decode cX12_groupOf 22 = .ok (.getfield 152, 3) := by decide +kernel
theorem dX12_groupOf_25 : decode cX12_groupOf 25 = .ok (.if_icmp .ge 71, 3) := by decide +kernel
theorem dX12_groupOf_28 : decode cX12_groupOf 28 = .ok (.iconst 0, 1) := by decide +kernel
theorem dX12_groupOf_29 : decode cX12_groupOf 29 = .ok (.istore 6, 2) := by decide +kernel
theorem dX12_groupOf_31 : decode cX12_groupOf 31 = .ok (.iload 6, 2) := by decide +kernel
theorem dX12_groupOf_33 : decode cX12_groupOf 33 = .ok (.aload_n 0, 1) := by decide +kernel
theorem dX12_groupOf_34 : decode cX12_groupOf 34 = .ok (.getfield 152, 3) := by decide +kernel
theorem dX12_groupOf_37 : decode cX12_groupOf 37 = .ok (.if_icmp .ge 53, 3) := by decide +kernel
theorem dX12_groupOf_40 : decode cX12_groupOf 40 = .ok (.iload 4, 2) := by decide +kernel
theorem dX12_groupOf_42 : decode cX12_groupOf 42 = .ok (.iload 5, 2) := by decide +kernel
theorem dX12_groupOf_44 : decode cX12_groupOf 44 = .ok (.invokestatic 359, 3) := by decide +kernel
theorem dX12_groupOf_47 : decode cX12_groupOf 47 = .ok (.ifCond .eq 43, 3) := by decide +kernel
theorem dX12_groupOf_50 : decode cX12_groupOf 50 = .ok (.aload_n 0, 1) := by decide +kernel
theorem dX12_groupOf_51 : decode cX12_groupOf 51 = .ok (.getfield 7, 3) := by decide +kernel
theorem dX12_groupOf_54 : decode cX12_groupOf 54 = .ok (.bipush 16, 2) := by decide +kernel
theorem dX12_groupOf_56 : decode cX12_groupOf 56 = .ok (.iload 5, 2) := by decide +kernel
theorem dX12_groupOf_58 : decode cX12_groupOf 58 = .ok (.iadd, 1) := by decide +kernel
theorem dX12_groupOf_59 : decode cX12_groupOf 59 = .ok (.iaload, 1) := by decide +kernel
theorem dX12_groupOf_60 : decode cX12_groupOf 60 = .ok (.aload_n 0, 1) := by decide +kernel
theorem dX12_groupOf_61 : decode cX12_groupOf 61 = .ok (.getfield 7, 3) := by decide +kernel
theorem dX12_groupOf_64 : decode cX12_groupOf 64 = .ok (.bipush 16, 2) := by decide +kernel
theorem dX12_groupOf_66 : decode cX12_groupOf 66 = .ok (.iload 6, 2) := by decide +kernel
theorem dX12_groupOf_68 : decode cX12_groupOf 68 = .ok (.iadd, 1) := by decide +kernel
theorem dX12_groupOf_69 : decode cX12_groupOf 69 = .ok (.iaload, 1) := by decide +kernel
theorem dX12_groupOf_70 : decode cX12_groupOf 70 = .ok (.invokestatic 303, 3) := by decide +kernel
theorem dX12_groupOf_73 : decode cX12_groupOf 73 = .ok (.iload_n 2, 1) := by decide +kernel
theorem dX12_groupOf_74 : decode cX12_groupOf 74 = .ok (.if_icmp .gt 10, 3) := by decide +kernel
theorem dX12_groupOf_77 : decode cX12_groupOf 77 = .ok (.iload_n 3, 1) := by decide +kernel
theorem dX12_groupOf_78 : decode cX12_groupOf 78 = .ok (.iconst 1, 1) := by decide +kernel
theorem dX12_groupOf_79 : decode cX12_groupOf 79 = .ok (.iload 6, 2) := by decide +kernel
theorem dX12_groupOf_81 : decode cX12_groupOf 81 = .ok (.ishl, 1) := by decide +kernel
theorem dX12_groupOf_82 : decode cX12_groupOf 82 = .ok (.ior, 1) := by decide +kernel
theorem dX12_groupOf_83 : decode cX12_groupOf 83 = .ok (.istore_n 3, 1) := by decide +kernel
theorem dX12_groupOf_84 : decode cX12_groupOf 84 = .ok (.iinc 6 1, 3) := by decide +kernel
theorem dX12_groupOf_87 : decode cX12_groupOf 87 = .ok (.goto (-56), 3) := by decide +kernel
theorem dX12_groupOf_90 : decode cX12_groupOf 90 = .ok (.iinc 5 1, 3) := by decide +kernel
theorem dX12_groupOf_93 : decode cX12_groupOf 93 = .ok (.goto (-74), 3) := by decide +kernel
theorem dX12_groupOf_96 : decode cX12_groupOf 96 = .ok (.goto (-89), 3) := by decide +kernel
theorem dX12_groupOf_99 : decode cX12_groupOf 99 = .ok (.iload_n 3, 1) := by decide +kernel
theorem dX12_groupOf_100 : decode cX12_groupOf 100 = .ok (.ireturn, 1) := by decide +kernel
theorem dX12_groups_0 : decode cX12_groups 0 = .ok (.iload_n 1, 1) := by decide +kernel
theorem dX12_groups_1 : decode cX12_groups 1 = .ok (.iconst 0, 1) := by decide +kernel
theorem dX12_groups_2 : decode cX12_groups 2 = .ok (.bipush 38, 2) := by decide +kernel
theorem dX12_groups_4 : decode cX12_groups 4 = .ok (.invokestatic 156, 3) := by decide +kernel
theorem dX12_groups_7 : decode cX12_groups 7 = .ok (.ifCond .eq 17, 3) := by decide +kernel
theorem dX12_groups_10 : decode cX12_groups 10 = .ok (.iload_n 2, 1) := by decide +kernel
theorem dX12_groups_11 : decode cX12_groups 11 = .ok (.bipush 100, 2) := by decide +kernel
theorem dX12_groups_13 : decode cX12_groups 13 = .ok (.if_icmp .eq 13, 3) := by decide +kernel
theorem dX12_groups_16 : decode cX12_groups 16 = .ok (.aload_n 0, 1) := by decide +kernel
theorem dX12_groups_17 : decode cX12_groups 17 = .ok (.iload_n 2, 1) := by decide +kernel
theorem dX12_groups_18 : decode cX12_groups 18 = .ok (.invokevirtual 164, 3) := by decide +kernel
theorem dX12_groups_21 : decode cX12_groups 21 = .ok (.ifCond .ne 5, 3) := by decide +kernel
theorem dX12_groups_24 : decode cX12_groups 24 = .ok (.iconst (-1), 1) := by decide +kernel
theorem dX12_groups_25 : decode cX12_groups 25 = .ok (.ireturn, 1) := by decide +kernel
theorem dX12_groups_26 : decode cX12_groups 26 = .ok (.iload_n 2, 1) := by decide +kernel
theorem dX12_groups_27 : decode cX12_groups 27 = .ok (.bipush 100, 2) := by decide +kernel
theorem dX12_groups_29 : decode cX12_groups 29 = .ok (.if_icmp .eq 10, 3) := by decide +kernel
theorem dX12_groups_32 : decode cX12_groups 32 = .ok (.aload_n 0, 1) := by decide +kernel
theorem dX12_groups_33 : decode cX12_groups 33 = .ok (.iload_n 2, 1) := by decide +kernel
theorem dX12_groups_34 : decode cX12_groups 34 = .ok (.iload_n 1, 1) := by decide +kernel
theorem dX12_groups_35 : decode cX12_groups 35 = .ok (.invokevirtual 362, 3) := by decide +kernel
theorem dX12_groups_38 : decode cX12_groups 38 = .ok (.ireturn, 1) := by decide +kernel
theorem dX12_groups_39 : decode cX12_groups 39 = .ok (.iconst 0, 1) := by decide +kernel
theorem dX12_groups_40 : decode cX12_groups 40 = .ok (.istore_n 3, 1) := by decide +kernel
theorem dX12_groups_41 : decode cX12_groups 41 = .ok (.iconst 0, 1) := by decide +kernel
theorem dX12_groups_42 : decode cX12_groups 42 = .ok (.istore 4, 2) := by decide +kernel
theorem dX12_groups_44 : decode cX12_groups 44 = .ok (.iconst 0, 1) := by decide +kernel
theorem dX12_groups_45 : decode cX12_groups 45 = .ok (.istore 5, 2) := by decide +kernel
theorem dX12_groups_47 : decode cX12_groups 47 = .ok (.iload 5, 2) := by decide +kernel
theorem dX12_groups_49 : decode cX12_groups 49 = .ok (.aload_n 0, 1) := by decide +kernel
theorem dX12_groups_50 : decode cX12_groups 50 = .ok (.getfield 152, 3) := by decide +kernel
theorem dX12_groups_53 : decode cX12_groups 53 = .ok (.if_icmp .ge 38, 3) := by decide +kernel
theorem dX12_groups_56 : decode cX12_groups 56 = .ok (.iload 4, 2) := by decide +kernel
theorem dX12_groups_58 : decode cX12_groups 58 = .ok (.iload 5, 2) := by decide +kernel
theorem dX12_groups_60 : decode cX12_groups 60 = .ok (.invokestatic 359, 3) := by decide +kernel
theorem dX12_groups_63 : decode cX12_groups 63 = .ok (.ifCond .eq 6, 3) := by decide +kernel
theorem dX12_groups_66 : decode cX12_groups 66 = .ok (.goto 19, 3) := by decide +kernel
theorem dX12_groups_69 : decode cX12_groups 69 = .ok (.iload 4, 2) := by decide +kernel
theorem dX12_groups_71 : decode cX12_groups 71 = .ok (.aload_n 0, 1) := by decide +kernel
theorem dX12_groups_72 : decode cX12_groups 72 = .ok (.iload 5, 2) := by decide +kernel
theorem dX12_groups_74 : decode cX12_groups 74 = .ok (.iload_n 1, 1) := by decide +kernel
theorem dX12_groups_75 : decode cX12_groups 75 = .ok (.invokevirtual 362, 3) := by decide +kernel
theorem dX12_groups_78 : decode cX12_groups 78 = .ok (.ior, 1) := by decide +kernel
theorem dX12_groups_79 : decode cX12_groups 79 = .ok (.istore 4, 2) := by decide +kernel
theorem dX12_groups_81 : decode cX12_groups 81 = .ok (.iload_n 3, 1) := by decide +kernel
theorem dX12_groups_82 : decode cX12_groups 82 = .ok (.iconst 1, 1) := by decide +kernel
theorem dX12_groups_83 : decode cX12_groups 83 = .ok (.iadd, 1) := by decide +kernel
theorem dX12_groups_84 : decode cX12_groups 84 = .ok (.istore_n 3, 1) := by decide +kernel
theorem dX12_groups_85 : decode cX12_groups 85 = .ok (.iinc 5 1, 3) := by decide +kernel
theorem dX12_groups_88 : decode cX12_groups 88 = .ok (.goto (-41), 3) := by decide +kernel
theorem dX12_groups_91 : decode cX12_groups 91 = .ok (.iload_n 3, 1) := by decide +kernel
theorem dX12_groups_92 : decode cX12_groups 92 = .ok (.ireturn, 1) := by decide +kernel
theorem dX12_isTree_0 : decode cX12_isTree 0 = .ok (.iconst 0, 1) := by decide +kernel
theorem dX12_isTree_1 : decode cX12_isTree 1 = .ok (.istore_n 2, 1) := by decide +kernel
theorem dX12_isTree_2 : decode cX12_isTree 2 = .ok (.iload_n 2, 1) := by decide +kernel
theorem dX12_isTree_3 : decode cX12_isTree 3 = .ok (.aload_n 0, 1) := by decide +kernel
theorem dX12_isTree_4 : decode cX12_isTree 4 = .ok (.getfield 152, 3) := by decide +kernel
theorem dX12_isTree_7 : decode cX12_isTree 7 = .ok (.if_icmp .ge 46, 3) := by decide +kernel
theorem dX12_isTree_10 : decode cX12_isTree 10 = .ok (.aload_n 0, 1) := by decide +kernel
theorem dX12_isTree_11 : decode cX12_isTree 11 = .ok (.getfield 19, 3) := by decide +kernel
theorem dX12_isTree_14 : decode cX12_isTree 14 = .ok (.iload_n 2, 1) := by decide +kernel
theorem dX12_isTree_15 : decode cX12_isTree 15 = .ok (.iaload, 1) := by decide +kernel
theorem dX12_isTree_16 : decode cX12_isTree 16 = .ok (.iload_n 1, 1) := by decide +kernel
theorem dX12_isTree_17 : decode cX12_isTree 17 = .ok (.if_icmp .eq 28, 3) := by decide +kernel
theorem dX12_isTree_20 : decode cX12_isTree 20 = .ok (.aload_n 0, 1) := by decide +kernel
theorem dX12_isTree_21 : decode cX12_isTree 21 = .ok (.getfield 7, 3) := by decide +kernel
theorem dX12_isTree_24 : decode cX12_isTree 24 = .ok (.iconst 0, 1) := by decide +kernel
theorem dX12_isTree_25 : decode cX12_isTree 25 = .ok (.iload_n 2, 1) := by decide +kernel
theorem dX12_isTree_26 : decode cX12_isTree 26 = .ok (.iadd, 1) := by decide +kernel
theorem dX12_isTree_27 : decode cX12_isTree 27 = .ok (.iaload, 1) := by decide +kernel
theorem dX12_isTree_28 : decode cX12_isTree 28 = .ok (.iconst 3, 1) := by decide +kernel
theorem dX12_isTree_29 : decode cX12_isTree 29 = .ok (.if_icmp .ne 18, 3) := by decide +kernel
theorem dX12_isTree_32 : decode cX12_isTree 32 = .ok (.aload_n 0, 1) := by decide +kernel
theorem dX12_isTree_33 : decode cX12_isTree 33 = .ok (.getfield 7, 3) := by decide +kernel
theorem dX12_isTree_36 : decode cX12_isTree 36 = .ok (.bipush 16, 2) := by decide +kernel
theorem dX12_isTree_38 : decode cX12_isTree 38 = .ok (.iload_n 2, 1) := by decide +kernel
theorem dX12_isTree_39 : decode cX12_isTree 39 = .ok (.iadd, 1) := by decide +kernel
theorem dX12_isTree_40 : decode cX12_isTree 40 = .ok (.iaload, 1) := by decide +kernel
theorem dX12_isTree_41 : decode cX12_isTree 41 = .ok (.iload_n 1, 1) := by decide +kernel
theorem dX12_isTree_42 : decode cX12_isTree 42 = .ok (.if_icmp .ne 5, 3) := by decide +kernel
theorem dX12_isTree_45 : decode cX12_isTree 45 = .ok (.iconst 1, 1) := by decide +kernel
theorem dX12_isTree_46 : decode cX12_isTree 46 = .ok (.ireturn, 1) := by decide +kernel
theorem dX12_isTree_47 : decode cX12_isTree 47 = .ok (.iinc 2 1, 3) := by decide +kernel
theorem dX12_isTree_50 : decode cX12_isTree 50 = .ok (.goto (-48), 3) := by decide +kernel
theorem dX12_isTree_53 : decode cX12_isTree 53 = .ok (.iconst 0, 1) := by decide +kernel
theorem dX12_isTree_54 : decode cX12_isTree 54 = .ok (.ireturn, 1) := by decide +kernel
theorem dX12_laysTrees_0 : decode cX12_laysTrees 0 = .ok (.aload_n 0, 1) := by decide +kernel
theorem dX12_laysTrees_1 : decode cX12_laysTrees 1 = .ok (.iconst 0, 1) := by decide +kernel
theorem dX12_laysTrees_2 : decode cX12_laysTrees 2 = .ok (.putfield 365, 3) := by decide +kernel
theorem dX12_laysTrees_5 : decode cX12_laysTrees 5 = .ok (.iconst 0, 1) := by decide +kernel
theorem dX12_laysTrees_6 : decode cX12_laysTrees 6 = .ok (.istore_n 1, 1) := by decide +kernel
theorem dX12_laysTrees_7 : decode cX12_laysTrees 7 = .ok (.iload_n 1, 1) := by decide +kernel
theorem dX12_laysTrees_8 : decode cX12_laysTrees 8 = .ok (.bipush 24, 2) := by decide +kernel
theorem dX12_laysTrees_10 : decode cX12_laysTrees 10 = .ok (.if_icmp .ge 64, 3) := by decide +kernel
theorem dX12_laysTrees_13 : decode cX12_laysTrees 13 = .ok (.iconst 0, 1) := by decide +kernel
theorem dX12_laysTrees_14 : decode cX12_laysTrees 14 = .ok (.istore_n 2, 1) := by decide +kernel
theorem dX12_laysTrees_15 : decode cX12_laysTrees 15 = .ok (.iload_n 2, 1) := by decide +kernel
theorem dX12_laysTrees_16 : decode cX12_laysTrees 16 = .ok (.bipush 16, 2) := by decide +kernel
theorem dX12_laysTrees_18 : decode cX12_laysTrees 18 = .ok (.if_icmp .ge 50, 3) := by decide +kernel
theorem dX12_laysTrees_21 : decode cX12_laysTrees 21 = .ok (.aload_n 0, 1) := by decide +kernel
theorem dX12_laysTrees_22 : decode cX12_laysTrees 22 = .ok (.bipush 24, 2) := by decide +kernel
theorem dX12_laysTrees_24 : decode cX12_laysTrees 24 = .ok (.iload_n 2, 1) := by decide +kernel
theorem dX12_laysTrees_25 : decode cX12_laysTrees 25 = .ok (.imul, 1) := by decide +kernel
theorem dX12_laysTrees_26 : decode cX12_laysTrees 26 = .ok (.iload_n 1, 1) := by decide +kernel
theorem dX12_laysTrees_27 : decode cX12_laysTrees 27 = .ok (.iadd, 1) := by decide +kernel
theorem dX12_laysTrees_28 : decode cX12_laysTrees 28 = .ok (.invokevirtual 368, 3) := by decide +kernel
theorem dX12_laysTrees_31 : decode cX12_laysTrees 31 = .ok (.ifCond .ne 6, 3) := by decide +kernel
theorem dX12_laysTrees_34 : decode cX12_laysTrees 34 = .ok (.goto 28, 3) := by decide +kernel
theorem dX12_laysTrees_37 : decode cX12_laysTrees 37 = .ok (.aload_n 0, 1) := by decide +kernel
theorem dX12_laysTrees_38 : decode cX12_laysTrees 38 = .ok (.getfield 107, 3) := by decide +kernel
theorem dX12_laysTrees_41 : decode cX12_laysTrees 41 = .ok (.aload_n 0, 1) := by decide +kernel
theorem dX12_laysTrees_42 : decode cX12_laysTrees 42 = .ok (.getfield 365, 3) := by decide +kernel
theorem dX12_laysTrees_45 : decode cX12_laysTrees 45 = .ok (.bipush 24, 2) := by decide +kernel
theorem dX12_laysTrees_47 : decode cX12_laysTrees 47 = .ok (.iload_n 2, 1) := by decide +kernel
theorem dX12_laysTrees_48 : decode cX12_laysTrees 48 = .ok (.imul, 1) := by decide +kernel
theorem dX12_laysTrees_49 : decode cX12_laysTrees 49 = .ok (.iload_n 1, 1) := by decide +kernel
theorem dX12_laysTrees_50 : decode cX12_laysTrees 50 = .ok (.iadd, 1) := by decide +kernel
theorem dX12_laysTrees_51 : decode cX12_laysTrees 51 = .ok (.iastore, 1) := by decide +kernel
theorem dX12_laysTrees_52 : decode cX12_laysTrees 52 = .ok (.aload_n 0, 1) := by decide +kernel
theorem dX12_laysTrees_53 : decode cX12_laysTrees 53 = .ok (.aload_n 0, 1) := by decide +kernel
theorem dX12_laysTrees_54 : decode cX12_laysTrees 54 = .ok (.getfield 365, 3) := by decide +kernel
theorem dX12_laysTrees_57 : decode cX12_laysTrees 57 = .ok (.iconst 1, 1) := by decide +kernel
theorem dX12_laysTrees_58 : decode cX12_laysTrees 58 = .ok (.iadd, 1) := by decide +kernel
theorem dX12_laysTrees_59 : decode cX12_laysTrees 59 = .ok (.putfield 365, 3) := by decide +kernel
theorem dX12_laysTrees_62 : decode cX12_laysTrees 62 = .ok (.iinc 2 1, 3) := by decide +kernel
theorem dX12_laysTrees_65 : decode cX12_laysTrees 65 = .ok (.goto (-50), 3) := by decide +kernel
theorem dX12_laysTrees_68 : decode cX12_laysTrees 68 = .ok (.iinc 1 1, 3) := by decide +kernel
theorem dX12_laysTrees_71 : decode cX12_laysTrees 71 = .ok (.goto (-64), 3) := by decide +kernel
theorem dX12_laysTrees_74 : decode cX12_laysTrees 74 = .ok (.return_, 1) := by decide +kernel
theorem dX12_trees_0 : decode cX12_trees 0 = .ok (.aload_n 0, 1) := by decide +kernel
theorem dX12_trees_1 : decode cX12_trees 1 = .ok (.invokevirtual 371, 3) := by decide +kernel
theorem dX12_trees_4 : decode cX12_trees 4 = .ok (.aload_n 0, 1) := by decide +kernel
theorem dX12_trees_5 : decode cX12_trees 5 = .ok (.getfield 365, 3) := by decide +kernel
theorem dX12_trees_8 : decode cX12_trees 8 = .ok (.ireturn, 1) := by decide +kernel
theorem dX12_yard_0 : decode cX12_yard 0 = .ok (.iload_n 1, 1) := by decide +kernel
theorem dX12_yard_1 : decode cX12_yard 1 = .ok (.iconst 0, 1) := by decide +kernel
theorem dX12_yard_2 : decode cX12_yard 2 = .ok (.iload_n 2, 1) := by decide +kernel
theorem dX12_yard_3 : decode cX12_yard 3 = .ok (.invokestatic 156, 3) := by decide +kernel
theorem dX12_yard_6 : decode cX12_yard 6 = .ok (.ifCond .eq 34, 3) := by decide +kernel
theorem dX12_yard_9 : decode cX12_yard 9 = .ok (.iload_n 2, 1) := by decide +kernel
theorem dX12_yard_10 : decode cX12_yard 10 = .ok (.iconst 0, 1) := by decide +kernel
theorem dX12_yard_11 : decode cX12_yard 11 = .ok (.bipush 23, 2) := by decide +kernel
theorem dX12_yard_13 : decode cX12_yard 13 = .ok (.invokestatic 156, 3) := by decide +kernel
theorem dX12_yard_16 : decode cX12_yard 16 = .ok (.ifCond .eq 24, 3) := by decide +kernel
theorem dX12_yard_19 : decode cX12_yard 19 = .ok (.iload_n 3, 1) := by decide +kernel
theorem dX12_yard_20 : decode cX12_yard 20 = .ok (.iconst 0, 1) := by decide +kernel
theorem dX12_yard_21 : decode cX12_yard 21 = .ok (.iload 4, 2) := by decide +kernel
theorem dX12_yard_23 : decode cX12_yard 23 = .ok (.invokestatic 156, 3) := by decide +kernel
theorem dX12_yard_26 : decode cX12_yard 26 = .ok (.ifCond .eq 14, 3) := by decide +kernel
theorem dX12_yard_29 : decode cX12_yard 29 = .ok (.iload 4, 2) := by decide +kernel
theorem dX12_yard_31 : decode cX12_yard 31 = .ok (.iconst 0, 1) := by decide +kernel
theorem dX12_yard_32 : decode cX12_yard 32 = .ok (.bipush 15, 2) := by decide +kernel
theorem dX12_yard_34 : decode cX12_yard 34 = .ok (.invokestatic 156, 3) := by decide +kernel
theorem dX12_yard_37 : decode cX12_yard 37 = .ok (.ifCond .ne 5, 3) := by decide +kernel
theorem dX12_yard_40 : decode cX12_yard 40 = .ok (.iconst (-1), 1) := by decide +kernel
theorem dX12_yard_41 : decode cX12_yard 41 = .ok (.ireturn, 1) := by decide +kernel
theorem dX12_yard_42 : decode cX12_yard 42 = .ok (.aload_n 0, 1) := by decide +kernel
theorem dX12_yard_43 : decode cX12_yard 43 = .ok (.invokevirtual 371, 3) := by decide +kernel
theorem dX12_yard_46 : decode cX12_yard 46 = .ok (.iconst 0, 1) := by decide +kernel
theorem dX12_yard_47 : decode cX12_yard 47 = .ok (.istore 5, 2) := by decide +kernel
theorem dX12_yard_49 : decode cX12_yard 49 = .ok (.iconst 0, 1) := by decide +kernel
theorem dX12_yard_50 : decode cX12_yard 50 = .ok (.istore 6, 2) := by decide +kernel
theorem dX12_yard_52 : decode cX12_yard 52 = .ok (.iload 6, 2) := by decide +kernel
theorem dX12_yard_54 : decode cX12_yard 54 = .ok (.aload_n 0, 1) := by decide +kernel
theorem dX12_yard_55 : decode cX12_yard 55 = .ok (.getfield 365, 3) := by decide +kernel
theorem dX12_yard_58 : decode cX12_yard 58 = .ok (.if_icmp .ge 52, 3) := by decide +kernel
theorem dX12_yard_61 : decode cX12_yard 61 = .ok (.aload_n 0, 1) := by decide +kernel
theorem dX12_yard_62 : decode cX12_yard 62 = .ok (.getfield 107, 3) := by decide +kernel
theorem dX12_yard_65 : decode cX12_yard 65 = .ok (.iload 6, 2) := by decide +kernel
theorem dX12_yard_67 : decode cX12_yard 67 = .ok (.iaload, 1) := by decide +kernel
theorem dX12_yard_68 : decode cX12_yard 68 = .ok (.bipush 24, 2) := by decide +kernel
theorem dX12_yard_70 : decode cX12_yard 70 = .ok (.irem, 1) := by decide +kernel
theorem dX12_yard_71 : decode cX12_yard 71 = .ok (.iload_n 1, 1) := by decide +kernel
theorem dX12_yard_72 : decode cX12_yard 72 = .ok (.iload_n 2, 1) := by decide +kernel
theorem dX12_yard_73 : decode cX12_yard 73 = .ok (.invokestatic 156, 3) := by decide +kernel
theorem dX12_yard_76 : decode cX12_yard 76 = .ok (.ifCond .eq 28, 3) := by decide +kernel
theorem dX12_yard_79 : decode cX12_yard 79 = .ok (.aload_n 0, 1) := by decide +kernel
theorem dX12_yard_80 : decode cX12_yard 80 = .ok (.getfield 107, 3) := by decide +kernel
theorem dX12_yard_83 : decode cX12_yard 83 = .ok (.iload 6, 2) := by decide +kernel
theorem dX12_yard_85 : decode cX12_yard 85 = .ok (.iaload, 1) := by decide +kernel
theorem dX12_yard_86 : decode cX12_yard 86 = .ok (.bipush 24, 2) := by decide +kernel
theorem dX12_yard_88 : decode cX12_yard 88 = .ok (.idiv, 1) := by decide +kernel
theorem dX12_yard_89 : decode cX12_yard 89 = .ok (.iload_n 3, 1) := by decide +kernel
theorem dX12_yard_90 : decode cX12_yard 90 = .ok (.iload 4, 2) := by decide +kernel
theorem dX12_yard_92 : decode cX12_yard 92 = .ok (.invokestatic 156, 3) := by decide +kernel
theorem dX12_yard_95 : decode cX12_yard 95 = .ok (.ifCond .eq 9, 3) := by decide +kernel
theorem dX12_yard_98 : decode cX12_yard 98 = .ok (.iload 5, 2) := by decide +kernel
theorem dX12_yard_100 : decode cX12_yard 100 = .ok (.iconst 1, 1) := by decide +kernel
theorem dX12_yard_101 : decode cX12_yard 101 = .ok (.iadd, 1) := by decide +kernel
theorem dX12_yard_102 : decode cX12_yard 102 = .ok (.istore 5, 2) := by decide +kernel
theorem dX12_yard_104 : decode cX12_yard 104 = .ok (.iinc 6 1, 3) := by decide +kernel
theorem dX12_yard_107 : decode cX12_yard 107 = .ok (.goto (-55), 3) := by decide +kernel
theorem dX12_yard_110 : decode cX12_yard 110 = .ok (.iload 5, 2) := by decide +kernel
theorem dX12_yard_112 : decode cX12_yard 112 = .ok (.ireturn, 1) := by decide +kernel
theorem dX12_sideOf_0 : decode cX12_sideOf 0 = .ok (.iload_n 1, 1) := by decide +kernel
theorem dX12_sideOf_1 : decode cX12_sideOf 1 = .ok (.bipush 24, 2) := by decide +kernel
theorem dX12_sideOf_3 : decode cX12_sideOf 3 = .ok (.irem, 1) := by decide +kernel
theorem dX12_sideOf_4 : decode cX12_sideOf 4 = .ok (.iload_n 0, 1) := by decide +kernel
theorem dX12_sideOf_5 : decode cX12_sideOf 5 = .ok (.bipush 24, 2) := by decide +kernel
theorem dX12_sideOf_7 : decode cX12_sideOf 7 = .ok (.irem, 1) := by decide +kernel
theorem dX12_sideOf_8 : decode cX12_sideOf 8 = .ok (.isub, 1) := by decide +kernel
theorem dX12_sideOf_9 : decode cX12_sideOf 9 = .ok (.istore_n 3, 1) := by decide +kernel
theorem dX12_sideOf_10 : decode cX12_sideOf 10 = .ok (.iload_n 1, 1) := by decide +kernel
theorem dX12_sideOf_11 : decode cX12_sideOf 11 = .ok (.bipush 24, 2) := by decide +kernel
theorem dX12_sideOf_13 : decode cX12_sideOf 13 = .ok (.idiv, 1) := by decide +kernel
theorem dX12_sideOf_14 : decode cX12_sideOf 14 = .ok (.iload_n 0, 1) := by decide +kernel
theorem dX12_sideOf_15 : decode cX12_sideOf 15 = .ok (.bipush 24, 2) := by decide +kernel
theorem dX12_sideOf_17 : decode cX12_sideOf 17 = .ok (.idiv, 1) := by decide +kernel
theorem dX12_sideOf_18 : decode cX12_sideOf 18 = .ok (.isub, 1) := by decide +kernel
theorem dX12_sideOf_19 : decode cX12_sideOf 19 = .ok (.istore 4, 2) := by decide +kernel
theorem dX12_sideOf_21 : decode cX12_sideOf 21 = .ok (.iload_n 3, 1) := by decide +kernel
theorem dX12_sideOf_22 : decode cX12_sideOf 22 = .ok (.iload_n 2, 1) := by decide +kernel
theorem dX12_sideOf_23 : decode cX12_sideOf 23 = .ok (.bipush 24, 2) := by decide +kernel
theorem dX12_sideOf_25 : decode cX12_sideOf 25 = .ok (.idiv, 1) := by decide +kernel
theorem dX12_sideOf_26 : decode cX12_sideOf 26 = .ok (.iload_n 0, 1) := by decide +kernel
theorem dX12_sideOf_27 : decode cX12_sideOf 27 = .ok (.bipush 24, 2) := by decide +kernel
theorem dX12_sideOf_29 : decode cX12_sideOf 29 = .ok (.idiv, 1) := by decide +kernel
theorem dX12_sideOf_30 : decode cX12_sideOf 30 = .ok (.isub, 1) := by decide +kernel
theorem dX12_sideOf_31 : decode cX12_sideOf 31 = .ok (.imul, 1) := by decide +kernel
theorem dX12_sideOf_32 : decode cX12_sideOf 32 = .ok (.iload 4, 2) := by decide +kernel
theorem dX12_sideOf_34 : decode cX12_sideOf 34 = .ok (.iload_n 2, 1) := by decide +kernel
theorem dX12_sideOf_35 : decode cX12_sideOf 35 = .ok (.bipush 24, 2) := by decide +kernel
theorem dX12_sideOf_37 : decode cX12_sideOf 37 = .ok (.irem, 1) := by decide +kernel
theorem dX12_sideOf_38 : decode cX12_sideOf 38 = .ok (.iload_n 0, 1) := by decide +kernel
theorem dX12_sideOf_39 : decode cX12_sideOf 39 = .ok (.bipush 24, 2) := by decide +kernel
theorem dX12_sideOf_41 : decode cX12_sideOf 41 = .ok (.irem, 1) := by decide +kernel
theorem dX12_sideOf_42 : decode cX12_sideOf 42 = .ok (.isub, 1) := by decide +kernel
theorem dX12_sideOf_43 : decode cX12_sideOf 43 = .ok (.imul, 1) := by decide +kernel
theorem dX12_sideOf_44 : decode cX12_sideOf 44 = .ok (.isub, 1) := by decide +kernel
theorem dX12_sideOf_45 : decode cX12_sideOf 45 = .ok (.ireturn, 1) := by decide +kernel
theorem dX12_addsCorner_0 : decode cX12_addsCorner 0 = .ok (.aload_n 0, 1) := by decide +kernel
theorem dX12_addsCorner_1 : decode cX12_addsCorner 1 = .ok (.getfield 374, 3) := by decide +kernel
theorem dX12_addsCorner_4 : decode cX12_addsCorner 4 = .ok (.iload_n 2, 1) := by decide +kernel
theorem dX12_addsCorner_5 : decode cX12_addsCorner 5 = .ok (.iconst 1, 1) := by decide +kernel
theorem dX12_addsCorner_6 : decode cX12_addsCorner 6 = .ok (.iadd, 1) := by decide +kernel
theorem dX12_addsCorner_7 : decode cX12_addsCorner 7 = .ok (.if_icmp .le 45, 3) := by decide +kernel
theorem dX12_addsCorner_10 : decode cX12_addsCorner 10 = .ok (.aload_n 0, 1) := by decide +kernel
theorem dX12_addsCorner_11 : decode cX12_addsCorner 11 = .ok (.getfield 110, 3) := by decide +kernel
theorem dX12_addsCorner_14 : decode cX12_addsCorner 14 = .ok (.aload_n 0, 1) := by decide +kernel
theorem dX12_addsCorner_15 : decode cX12_addsCorner 15 = .ok (.getfield 374, 3) := by decide +kernel
theorem dX12_addsCorner_18 : decode cX12_addsCorner 18 = .ok (.iconst 2, 1) := by decide +kernel
theorem dX12_addsCorner_19 : decode cX12_addsCorner 19 = .ok (.isub, 1) := by decide +kernel
theorem dX12_addsCorner_20 : decode cX12_addsCorner 20 = .ok (.iaload, 1) := by decide +kernel
theorem dX12_addsCorner_21 : decode cX12_addsCorner 21 = .ok (.aload_n 0, 1) := by decide +kernel
theorem dX12_addsCorner_22 : decode cX12_addsCorner 22 = .ok (.getfield 110, 3) := by decide +kernel
theorem dX12_addsCorner_25 : decode cX12_addsCorner 25 = .ok (.aload_n 0, 1) := by decide +kernel
theorem dX12_addsCorner_26 : decode cX12_addsCorner 26 = .ok (.getfield 374, 3) := by decide +kernel
theorem dX12_addsCorner_29 : decode cX12_addsCorner 29 = .ok (.iconst 1, 1) := by decide +kernel
theorem dX12_addsCorner_30 : decode cX12_addsCorner 30 = .ok (.isub, 1) := by decide +kernel
theorem dX12_addsCorner_31 : decode cX12_addsCorner 31 = .ok (.iaload, 1) := by decide +kernel
theorem dX12_addsCorner_32 : decode cX12_addsCorner 32 = .ok (.iload_n 1, 1) := by decide +kernel
theorem dX12_addsCorner_33 : decode cX12_addsCorner 33 = .ok (.invokestatic 377, 3) := by decide +kernel
theorem dX12_addsCorner_36 : decode cX12_addsCorner 36 = .ok (.ifCond .gt 16, 3) := by decide +kernel
theorem dX12_addsCorner_39 : decode cX12_addsCorner 39 = .ok (.aload_n 0, 1) := by decide +kernel
theorem dX12_addsCorner_40 : decode cX12_addsCorner 40 = .ok (.aload_n 0, 1) := by decide +kernel
theorem dX12_addsCorner_41 : decode cX12_addsCorner 41 = .ok (.getfield 374, 3) := by decide +kernel
theorem dX12_addsCorner_44 : decode cX12_addsCorner 44 = .ok (.iconst 1, 1) := by decide +kernel
theorem dX12_addsCorner_45 : decode cX12_addsCorner 45 = .ok (.isub, 1) := by decide +kernel
theorem dX12_addsCorner_46 : decode cX12_addsCorner 46 = .ok (.putfield 374, 3) := by decide +kernel
theorem dX12_addsCorner_49 : decode cX12_addsCorner 49 = .ok (.goto (-49), 3) := by decide +kernel
theorem dX12_addsCorner_52 : decode cX12_addsCorner 52 = .ok (.aload_n 0, 1) := by decide +kernel
theorem dX12_addsCorner_53 : decode cX12_addsCorner 53 = .ok (.getfield 110, 3) := by decide +kernel
theorem dX12_addsCorner_56 : decode cX12_addsCorner 56 = .ok (.aload_n 0, 1) := by decide +kernel
theorem dX12_addsCorner_57 : decode cX12_addsCorner 57 = .ok (.getfield 374, 3) := by decide +kernel
theorem dX12_addsCorner_60 : decode cX12_addsCorner 60 = .ok (.iload_n 1, 1) := by decide +kernel
theorem dX12_addsCorner_61 : decode cX12_addsCorner 61 = .ok (.iastore, 1) := by decide +kernel
theorem dX12_addsCorner_62 : decode cX12_addsCorner 62 = .ok (.aload_n 0, 1) := by decide +kernel
theorem dX12_addsCorner_63 : decode cX12_addsCorner 63 = .ok (.aload_n 0, 1) := by decide +kernel
theorem dX12_addsCorner_64 : decode cX12_addsCorner 64 = .ok (.getfield 374, 3) := by decide +kernel
theorem dX12_addsCorner_67 : decode cX12_addsCorner 67 = .ok (.iconst 1, 1) := by decide +kernel
theorem dX12_addsCorner_68 : decode cX12_addsCorner 68 = .ok (.iadd, 1) := by decide +kernel
theorem dX12_addsCorner_69 : decode cX12_addsCorner 69 = .ok (.putfield 374, 3) := by decide +kernel
theorem dX12_addsCorner_72 : decode cX12_addsCorner 72 = .ok (.return_, 1) := by decide +kernel
theorem dX12_laysFence_0 : decode cX12_laysFence 0 = .ok (.aload_n 0, 1) := by decide +kernel
theorem dX12_laysFence_1 : decode cX12_laysFence 1 = .ok (.invokevirtual 371, 3) := by decide +kernel
theorem dX12_laysFence_4 : decode cX12_laysFence 4 = .ok (.aload_n 0, 1) := by decide +kernel
theorem dX12_laysFence_5 : decode cX12_laysFence 5 = .ok (.iconst 0, 1) := by decide +kernel
theorem dX12_laysFence_6 : decode cX12_laysFence 6 = .ok (.putfield 374, 3) := by decide +kernel
theorem dX12_laysFence_9 : decode cX12_laysFence 9 = .ok (.iconst 0, 1) := by decide +kernel
theorem dX12_laysFence_10 : decode cX12_laysFence 10 = .ok (.istore_n 1, 1) := by decide +kernel
theorem dX12_laysFence_11 : decode cX12_laysFence 11 = .ok (.iload_n 1, 1) := by decide +kernel
theorem dX12_laysFence_12 : decode cX12_laysFence 12 = .ok (.aload_n 0, 1) := by decide +kernel
theorem dX12_laysFence_13 : decode cX12_laysFence 13 = .ok (.getfield 365, 3) := by decide +kernel
theorem dX12_laysFence_16 : decode cX12_laysFence 16 = .ok (.if_icmp .ge 20, 3) := by decide +kernel
theorem dX12_laysFence_19 : decode cX12_laysFence 19 = .ok (.aload_n 0, 1) := by decide +kernel
theorem dX12_laysFence_20 : decode cX12_laysFence 20 = .ok (.aload_n 0, 1) := by decide +kernel
theorem dX12_laysFence_21 : decode cX12_laysFence 21 = .ok (.getfield 107, 3) := by decide +kernel
theorem dX12_laysFence_24 : decode cX12_laysFence 24 = .ok (.iload_n 1, 1) := by decide +kernel
theorem dX12_laysFence_25 : decode cX12_laysFence 25 = .ok (.iaload, 1) := by decide +kernel
theorem dX12_laysFence_26 : decode cX12_laysFence 26 = .ok (.iconst 0, 1) := by decide +kernel
theorem dX12_laysFence_27 : decode cX12_laysFence 27 = .ok (.invokevirtual 380, 3) := by decide +kernel
theorem dX12_laysFence_30 : decode cX12_laysFence 30 = .ok (.iinc 1 1, 3) := by decide +kernel
theorem dX12_laysFence_33 : decode cX12_laysFence 33 = .ok (.goto (-22), 3) := by decide +kernel
theorem dX12_laysFence_36 : decode cX12_laysFence 36 = .ok (.aload_n 0, 1) := by decide +kernel
theorem dX12_laysFence_37 : decode cX12_laysFence 37 = .ok (.getfield 374, 3) := by decide +kernel
theorem dX12_laysFence_40 : decode cX12_laysFence 40 = .ok (.iconst 1, 1) := by decide +kernel
theorem dX12_laysFence_41 : decode cX12_laysFence 41 = .ok (.isub, 1) := by decide +kernel
theorem dX12_laysFence_42 : decode cX12_laysFence 42 = .ok (.istore_n 1, 1) := by decide +kernel
theorem dX12_laysFence_43 : decode cX12_laysFence 43 = .ok (.aload_n 0, 1) := by decide +kernel
theorem dX12_laysFence_44 : decode cX12_laysFence 44 = .ok (.getfield 365, 3) := by decide +kernel
theorem dX12_laysFence_47 : decode cX12_laysFence 47 = .ok (.iconst 2, 1) := by decide +kernel
theorem dX12_laysFence_48 : decode cX12_laysFence 48 = .ok (.isub, 1) := by decide +kernel
theorem dX12_laysFence_49 : decode cX12_laysFence 49 = .ok (.istore_n 2, 1) := by decide +kernel
theorem dX12_laysFence_50 : decode cX12_laysFence 50 = .ok (.iload_n 2, 1) := by decide +kernel
theorem dX12_laysFence_51 : decode cX12_laysFence 51 = .ok (.ifCond .lt 20, 3) := by decide +kernel
theorem dX12_laysFence_54 : decode cX12_laysFence 54 = .ok (.aload_n 0, 1) := by decide +kernel
theorem dX12_laysFence_55 : decode cX12_laysFence 55 = .ok (.aload_n 0, 1) := by decide +kernel
theorem dX12_laysFence_56 : decode cX12_laysFence 56 = .ok (.getfield 107, 3) := by decide +kernel
theorem dX12_laysFence_59 : decode cX12_laysFence 59 = .ok (.iload_n 2, 1) := by decide +kernel
theorem dX12_laysFence_60 : decode cX12_laysFence 60 = .ok (.iaload, 1) := by decide +kernel
theorem dX12_laysFence_61 : decode cX12_laysFence 61 = .ok (.iload_n 1, 1) := by decide +kernel
theorem dX12_laysFence_62 : decode cX12_laysFence 62 = .ok (.invokevirtual 380, 3) := by decide +kernel
theorem dX12_laysFence_65 : decode cX12_laysFence 65 = .ok (.iinc 2 (-1), 3) := by decide +kernel
theorem dX12_laysFence_68 : decode cX12_laysFence 68 = .ok (.goto (-18), 3) := by decide +kernel
theorem dX12_laysFence_71 : decode cX12_laysFence 71 = .ok (.aload_n 0, 1) := by decide +kernel
theorem dX12_laysFence_72 : decode cX12_laysFence 72 = .ok (.getfield 365, 3) := by decide +kernel
theorem dX12_laysFence_75 : decode cX12_laysFence 75 = .ok (.iconst 1, 1) := by decide +kernel
theorem dX12_laysFence_76 : decode cX12_laysFence 76 = .ok (.if_icmp .le 13, 3) := by decide +kernel
theorem dX12_laysFence_79 : decode cX12_laysFence 79 = .ok (.aload_n 0, 1) := by decide +kernel
theorem dX12_laysFence_80 : decode cX12_laysFence 80 = .ok (.aload_n 0, 1) := by decide +kernel
theorem dX12_laysFence_81 : decode cX12_laysFence 81 = .ok (.getfield 374, 3) := by decide +kernel
theorem dX12_laysFence_84 : decode cX12_laysFence 84 = .ok (.iconst 1, 1) := by decide +kernel
theorem dX12_laysFence_85 : decode cX12_laysFence 85 = .ok (.isub, 1) := by decide +kernel
theorem dX12_laysFence_86 : decode cX12_laysFence 86 = .ok (.putfield 374, 3) := by decide +kernel
theorem dX12_laysFence_89 : decode cX12_laysFence 89 = .ok (.return_, 1) := by decide +kernel
theorem dX12_fence_0 : decode cX12_fence 0 = .ok (.iload_n 1, 1) := by decide +kernel
theorem dX12_fence_1 : decode cX12_fence 1 = .ok (.iconst 0, 1) := by decide +kernel
theorem dX12_fence_2 : decode cX12_fence 2 = .ok (.iconst 1, 1) := by decide +kernel
theorem dX12_fence_3 : decode cX12_fence 3 = .ok (.invokestatic 156, 3) := by decide +kernel
theorem dX12_fence_6 : decode cX12_fence 6 = .ok (.ifCond .ne 5, 3) := by decide +kernel
theorem dX12_fence_9 : decode cX12_fence 9 = .ok (.iconst (-1), 1) := by decide +kernel
theorem dX12_fence_10 : decode cX12_fence 10 = .ok (.ireturn, 1) := by decide +kernel
theorem dX12_fence_11 : decode cX12_fence 11 = .ok (.aload_n 0, 1) := by decide +kernel
theorem dX12_fence_12 : decode cX12_fence 12 = .ok (.invokevirtual 383, 3) := by decide +kernel
theorem dX12_fence_15 : decode cX12_fence 15 = .ok (.iload_n 1, 1) := by decide +kernel
theorem dX12_fence_16 : decode cX12_fence 16 = .ok (.ifCond .ne 8, 3) := by decide +kernel
theorem dX12_fence_19 : decode cX12_fence 19 = .ok (.aload_n 0, 1) := by decide +kernel
theorem dX12_fence_20 : decode cX12_fence 20 = .ok (.getfield 374, 3) := by decide +kernel
theorem dX12_fence_23 : decode cX12_fence 23 = .ok (.ireturn, 1) := by decide +kernel
theorem dX12_fence_24 : decode cX12_fence 24 = .ok (.iconst 0, 1) := by decide +kernel
theorem dX12_fence_25 : decode cX12_fence 25 = .ok (.istore_n 2, 1) := by decide +kernel
theorem dX12_fence_26 : decode cX12_fence 26 = .ok (.iconst 0, 1) := by decide +kernel
theorem dX12_fence_27 : decode cX12_fence 27 = .ok (.istore_n 3, 1) := by decide +kernel
theorem dX12_fence_28 : decode cX12_fence 28 = .ok (.iload_n 3, 1) := by decide +kernel
theorem dX12_fence_29 : decode cX12_fence 29 = .ok (.aload_n 0, 1) := by decide +kernel
theorem dX12_fence_30 : decode cX12_fence 30 = .ok (.getfield 374, 3) := by decide +kernel
theorem dX12_fence_33 : decode cX12_fence 33 = .ok (.if_icmp .ge 58, 3) := by decide +kernel
theorem dX12_fence_36 : decode cX12_fence 36 = .ok (.aload_n 0, 1) := by decide +kernel
theorem dX12_fence_37 : decode cX12_fence 37 = .ok (.getfield 110, 3) := by decide +kernel
theorem dX12_fence_40 : decode cX12_fence 40 = .ok (.iload_n 3, 1) := by decide +kernel
theorem dX12_fence_41 : decode cX12_fence 41 = .ok (.iaload, 1) := by decide +kernel
theorem dX12_fence_42 : decode cX12_fence 42 = .ok (.istore 4, 2) := by decide +kernel
theorem dX12_fence_44 : decode cX12_fence 44 = .ok (.aload_n 0, 1) := by decide +kernel
theorem dX12_fence_45 : decode cX12_fence 45 = .ok (.getfield 110, 3) := by decide +kernel
theorem dX12_fence_48 : decode cX12_fence 48 = .ok (.iload_n 3, 1) := by decide +kernel
theorem dX12_fence_49 : decode cX12_fence 49 = .ok (.iconst 1, 1) := by decide +kernel
theorem dX12_fence_50 : decode cX12_fence 50 = .ok (.iadd, 1) := by decide +kernel
theorem dX12_fence_51 : decode cX12_fence 51 = .ok (.aload_n 0, 1) := by decide +kernel
theorem dX12_fence_52 : decode cX12_fence 52 = .ok (.getfield 374, 3) := by decide +kernel
theorem dX12_fence_55 : decode cX12_fence 55 = .ok (.irem, 1) := by decide +kernel
theorem dX12_fence_56 : decode cX12_fence 56 = .ok (.iaload, 1) := by decide +kernel
theorem dX12_fence_57 : decode cX12_fence 57 = .ok (.istore 5, 2) := by decide +kernel
theorem dX12_fence_59 : decode cX12_fence 59 = .ok (.iload_n 2, 1) := by decide +kernel
theorem dX12_fence_60 : decode cX12_fence 60 = .ok (.iload 4, 2) := by decide +kernel
theorem dX12_fence_62 : decode cX12_fence 62 = .ok (.bipush 24, 2) := by decide +kernel
theorem dX12_fence_64 : decode cX12_fence 64 = .ok (.irem, 1) := by decide +kernel
theorem dX12_fence_65 : decode cX12_fence 65 = .ok (.iload 5, 2) := by decide +kernel
theorem dX12_fence_67 : decode cX12_fence 67 = .ok (.bipush 24, 2) := by decide +kernel
theorem dX12_fence_69 : decode cX12_fence 69 = .ok (.idiv, 1) := by decide +kernel
theorem dX12_fence_70 : decode cX12_fence 70 = .ok (.imul, 1) := by decide +kernel
theorem dX12_fence_71 : decode cX12_fence 71 = .ok (.iadd, 1) := by decide +kernel
theorem dX12_fence_72 : decode cX12_fence 72 = .ok (.iload 5, 2) := by decide +kernel
theorem dX12_fence_74 : decode cX12_fence 74 = .ok (.bipush 24, 2) := by decide +kernel
theorem dX12_fence_76 : decode cX12_fence 76 = .ok (.irem, 1) := by decide +kernel
theorem dX12_fence_77 : decode cX12_fence 77 = .ok (.iload 4, 2) := by decide +kernel
theorem dX12_fence_79 : decode cX12_fence 79 = .ok (.bipush 24, 2) := by decide +kernel
theorem dX12_fence_81 : decode cX12_fence 81 = .ok (.idiv, 1) := by decide +kernel
theorem dX12_fence_82 : decode cX12_fence 82 = .ok (.imul, 1) := by decide +kernel
theorem dX12_fence_83 : decode cX12_fence 83 = .ok (.isub, 1) := by decide +kernel
theorem dX12_fence_84 : decode cX12_fence 84 = .ok (.istore_n 2, 1) := by decide +kernel
theorem dX12_fence_85 : decode cX12_fence 85 = .ok (.iinc 3 1, 3) := by decide +kernel
theorem dX12_fence_88 : decode cX12_fence 88 = .ok (.goto (-60), 3) := by decide +kernel
theorem dX12_fence_91 : decode cX12_fence 91 = .ok (.iload_n 2, 1) := by decide +kernel
theorem dX12_fence_92 : decode cX12_fence 92 = .ok (.invokestatic 160, 3) := by decide +kernel
theorem dX12_fence_95 : decode cX12_fence 95 = .ok (.ireturn, 1) := by decide +kernel
theorem dX12_between_0 : decode cX12_between 0 = .ok (.iload_n 0, 1) := by decide +kernel
theorem dX12_between_1 : decode cX12_between 1 = .ok (.iload_n 1, 1) := by decide +kernel
theorem dX12_between_2 : decode cX12_between 2 = .ok (.invokestatic 309, 3) := by decide +kernel
theorem dX12_between_5 : decode cX12_between 5 = .ok (.iload_n 2, 1) := by decide +kernel
theorem dX12_between_6 : decode cX12_between 6 = .ok (.iload_n 3, 1) := by decide +kernel
theorem dX12_between_7 : decode cX12_between 7 = .ok (.invokestatic 309, 3) := by decide +kernel
theorem dX12_between_10 : decode cX12_between 10 = .ok (.invokestatic 334, 3) := by decide +kernel
theorem dX12_between_13 : decode cX12_between 13 = .ok (.iload_n 0, 1) := by decide +kernel
theorem dX12_between_14 : decode cX12_between 14 = .ok (.iload_n 1, 1) := by decide +kernel
theorem dX12_between_15 : decode cX12_between 15 = .ok (.invokestatic 334, 3) := by decide +kernel
theorem dX12_between_18 : decode cX12_between 18 = .ok (.iload_n 2, 1) := by decide +kernel
theorem dX12_between_19 : decode cX12_between 19 = .ok (.iload_n 3, 1) := by decide +kernel
theorem dX12_between_20 : decode cX12_between 20 = .ok (.invokestatic 334, 3) := by decide +kernel
theorem dX12_between_23 : decode cX12_between 23 = .ok (.invokestatic 309, 3) := by decide +kernel
theorem dX12_between_26 : decode cX12_between 26 = .ok (.if_icmp .gt 7, 3) := by decide +kernel
theorem dX12_between_29 : decode cX12_between 29 = .ok (.iconst 1, 1) := by decide +kernel
theorem dX12_between_30 : decode cX12_between 30 = .ok (.goto 4, 3) := by decide +kernel
theorem dX12_between_33 : decode cX12_between 33 = .ok (.iconst 0, 1) := by decide +kernel
theorem dX12_between_34 : decode cX12_between 34 = .ok (.ireturn, 1) := by decide +kernel
theorem dX12_crosses_0 : decode cX12_crosses 0 = .ok (.iload_n 0, 1) := by decide +kernel
theorem dX12_crosses_1 : decode cX12_crosses 1 = .ok (.bipush 24, 2) := by decide +kernel
theorem dX12_crosses_3 : decode cX12_crosses 3 = .ok (.irem, 1) := by decide +kernel
theorem dX12_crosses_4 : decode cX12_crosses 4 = .ok (.iload_n 1, 1) := by decide +kernel
theorem dX12_crosses_5 : decode cX12_crosses 5 = .ok (.bipush 24, 2) := by decide +kernel
theorem dX12_crosses_7 : decode cX12_crosses 7 = .ok (.irem, 1) := by decide +kernel
theorem dX12_crosses_8 : decode cX12_crosses 8 = .ok (.iload_n 2, 1) := by decide +kernel
theorem dX12_crosses_9 : decode cX12_crosses 9 = .ok (.bipush 24, 2) := by decide +kernel
theorem dX12_crosses_11 : decode cX12_crosses 11 = .ok (.irem, 1) := by decide +kernel
theorem dX12_crosses_12 : decode cX12_crosses 12 = .ok (.iload_n 3, 1) := by decide +kernel
theorem dX12_crosses_13 : decode cX12_crosses 13 = .ok (.bipush 24, 2) := by decide +kernel
