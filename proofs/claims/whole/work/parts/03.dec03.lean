theorem dX11_busiest_92 : decode cX11_busiest 92 = .ok (.iload_n 3, 1) := by decide +kernel
theorem dX11_busiest_93 : decode cX11_busiest 93 = .ok (.ireturn, 1) := by decide +kernel
theorem dX11_yard_0 : decode cX11_yard 0 = .ok (.iload_n 1, 1) := by decide +kernel
theorem dX11_yard_1 : decode cX11_yard 1 = .ok (.invokestatic 108, 3) := by decide +kernel
theorem dX11_yard_4 : decode cX11_yard 4 = .ok (.ifCond .eq 19, 3) := by decide +kernel
theorem dX11_yard_7 : decode cX11_yard 7 = .ok (.iload_n 2, 1) := by decide +kernel
theorem dX11_yard_8 : decode cX11_yard 8 = .ok (.invokestatic 108, 3) := by decide +kernel
theorem dX11_yard_11 : decode cX11_yard 11 = .ok (.ifCond .eq 12, 3) := by decide +kernel
theorem dX11_yard_14 : decode cX11_yard 14 = .ok (.iload_n 1, 1) := by decide +kernel
theorem dX11_yard_15 : decode cX11_yard 15 = .ok (.iload_n 2, 1) := by decide +kernel
theorem dX11_yard_16 : decode cX11_yard 16 = .ok (.if_icmp .gt 7, 3) := by decide +kernel
theorem dX11_yard_19 : decode cX11_yard 19 = .ok (.iconst 1, 1) := by decide +kernel
theorem dX11_yard_20 : decode cX11_yard 20 = .ok (.goto 4, 3) := by decide +kernel
theorem dX11_yard_23 : decode cX11_yard 23 = .ok (.iconst 0, 1) := by decide +kernel
theorem dX11_yard_24 : decode cX11_yard 24 = .ok (.istore 5, 2) := by decide +kernel
theorem dX11_yard_26 : decode cX11_yard 26 = .ok (.iload_n 3, 1) := by decide +kernel
theorem dX11_yard_27 : decode cX11_yard 27 = .ok (.invokestatic 111, 3) := by decide +kernel
theorem dX11_yard_30 : decode cX11_yard 30 = .ok (.ifCond .eq 21, 3) := by decide +kernel
theorem dX11_yard_33 : decode cX11_yard 33 = .ok (.iload 4, 2) := by decide +kernel
theorem dX11_yard_35 : decode cX11_yard 35 = .ok (.invokestatic 111, 3) := by decide +kernel
theorem dX11_yard_38 : decode cX11_yard 38 = .ok (.ifCond .eq 13, 3) := by decide +kernel
theorem dX11_yard_41 : decode cX11_yard 41 = .ok (.iload_n 3, 1) := by decide +kernel
theorem dX11_yard_42 : decode cX11_yard 42 = .ok (.iload 4, 2) := by decide +kernel
theorem dX11_yard_44 : decode cX11_yard 44 = .ok (.if_icmp .gt 7, 3) := by decide +kernel
theorem dX11_yard_47 : decode cX11_yard 47 = .ok (.iconst 1, 1) := by decide +kernel
theorem dX11_yard_48 : decode cX11_yard 48 = .ok (.goto 4, 3) := by decide +kernel
theorem dX11_yard_51 : decode cX11_yard 51 = .ok (.iconst 0, 1) := by decide +kernel
theorem dX11_yard_52 : decode cX11_yard 52 = .ok (.istore 6, 2) := by decide +kernel
theorem dX11_yard_54 : decode cX11_yard 54 = .ok (.iload 5, 2) := by decide +kernel
theorem dX11_yard_56 : decode cX11_yard 56 = .ok (.ifCond .eq 8, 3) := by decide +kernel
theorem dX11_yard_59 : decode cX11_yard 59 = .ok (.iload 6, 2) := by decide +kernel
theorem dX11_yard_61 : decode cX11_yard 61 = .ok (.ifCond .ne 5, 3) := by decide +kernel
theorem dX11_yard_64 : decode cX11_yard 64 = .ok (.iconst (-1), 1) := by decide +kernel
theorem dX11_yard_65 : decode cX11_yard 65 = .ok (.ireturn, 1) := by decide +kernel
theorem dX11_yard_66 : decode cX11_yard 66 = .ok (.aload_n 0, 1) := by decide +kernel
theorem dX11_yard_67 : decode cX11_yard 67 = .ok (.getfield 71, 3) := by decide +kernel
theorem dX11_yard_70 : decode cX11_yard 70 = .ok (.aload_n 0, 1) := by decide +kernel
theorem dX11_yard_71 : decode cX11_yard 71 = .ok (.getfield 19, 3) := by decide +kernel
theorem dX11_yard_74 : decode cX11_yard 74 = .ok (.aload_n 0, 1) := by decide +kernel
theorem dX11_yard_75 : decode cX11_yard 75 = .ok (.getfield 49, 3) := by decide +kernel
theorem dX11_yard_78 : decode cX11_yard 78 = .ok (.invokevirtual 226, 3) := by decide +kernel
theorem dX11_yard_81 : decode cX11_yard 81 = .ok (.aload_n 0, 1) := by decide +kernel
theorem dX11_yard_82 : decode cX11_yard 82 = .ok (.getfield 71, 3) := by decide +kernel
theorem dX11_yard_85 : decode cX11_yard 85 = .ok (.iload_n 1, 1) := by decide +kernel
theorem dX11_yard_86 : decode cX11_yard 86 = .ok (.iload_n 2, 1) := by decide +kernel
theorem dX11_yard_87 : decode cX11_yard 87 = .ok (.iload_n 3, 1) := by decide +kernel
theorem dX11_yard_88 : decode cX11_yard 88 = .ok (.iload 4, 2) := by decide +kernel
theorem dX11_yard_90 : decode cX11_yard 90 = .ok (.invokevirtual 230, 3) := by decide +kernel
theorem dX11_yard_93 : decode cX11_yard 93 = .ok (.ireturn, 1) := by decide +kernel
theorem dX11_groups_0 : decode cX11_groups 0 = .ok (.iload_n 1, 1) := by decide +kernel
theorem dX11_groups_1 : decode cX11_groups 1 = .ok (.ifCond .lt 23, 3) := by decide +kernel
theorem dX11_groups_4 : decode cX11_groups 4 = .ok (.iload_n 1, 1) := by decide +kernel
theorem dX11_groups_5 : decode cX11_groups 5 = .ok (.bipush 38, 2) := by decide +kernel
theorem dX11_groups_7 : decode cX11_groups 7 = .ok (.if_icmp .gt 17, 3) := by decide +kernel
theorem dX11_groups_10 : decode cX11_groups 10 = .ok (.iload_n 2, 1) := by decide +kernel
theorem dX11_groups_11 : decode cX11_groups 11 = .ok (.bipush 100, 2) := by decide +kernel
theorem dX11_groups_13 : decode cX11_groups 13 = .ok (.if_icmp .eq 13, 3) := by decide +kernel
theorem dX11_groups_16 : decode cX11_groups 16 = .ok (.aload_n 0, 1) := by decide +kernel
theorem dX11_groups_17 : decode cX11_groups 17 = .ok (.iload_n 2, 1) := by decide +kernel
theorem dX11_groups_18 : decode cX11_groups 18 = .ok (.invokevirtual 104, 3) := by decide +kernel
theorem dX11_groups_21 : decode cX11_groups 21 = .ok (.ifCond .ne 5, 3) := by decide +kernel
theorem dX11_groups_24 : decode cX11_groups 24 = .ok (.iconst (-1), 1) := by decide +kernel
theorem dX11_groups_25 : decode cX11_groups 25 = .ok (.ireturn, 1) := by decide +kernel
theorem dX11_groups_26 : decode cX11_groups 26 = .ok (.iload_n 2, 1) := by decide +kernel
theorem dX11_groups_27 : decode cX11_groups 27 = .ok (.bipush 100, 2) := by decide +kernel
theorem dX11_groups_29 : decode cX11_groups 29 = .ok (.if_icmp .eq 10, 3) := by decide +kernel
theorem dX11_groups_32 : decode cX11_groups 32 = .ok (.aload_n 0, 1) := by decide +kernel
theorem dX11_groups_33 : decode cX11_groups 33 = .ok (.iload_n 2, 1) := by decide +kernel
theorem dX11_groups_34 : decode cX11_groups 34 = .ok (.iload_n 1, 1) := by decide +kernel
theorem dX11_groups_35 : decode cX11_groups 35 = .ok (.invokevirtual 234, 3) := by decide +kernel
theorem dX11_groups_38 : decode cX11_groups 38 = .ok (.ireturn, 1) := by decide +kernel
theorem dX11_groups_39 : decode cX11_groups 39 = .ok (.iconst 0, 1) := by decide +kernel
theorem dX11_groups_40 : decode cX11_groups 40 = .ok (.istore_n 3, 1) := by decide +kernel
theorem dX11_groups_41 : decode cX11_groups 41 = .ok (.iconst 0, 1) := by decide +kernel
theorem dX11_groups_42 : decode cX11_groups 42 = .ok (.istore 4, 2) := by decide +kernel
theorem dX11_groups_44 : decode cX11_groups 44 = .ok (.iconst 0, 1) := by decide +kernel
theorem dX11_groups_45 : decode cX11_groups 45 = .ok (.istore 5, 2) := by decide +kernel
theorem dX11_groups_47 : decode cX11_groups 47 = .ok (.iload 5, 2) := by decide +kernel
theorem dX11_groups_49 : decode cX11_groups 49 = .ok (.aload_n 0, 1) := by decide +kernel
theorem dX11_groups_50 : decode cX11_groups 50 = .ok (.getfield 19, 3) := by decide +kernel
theorem dX11_groups_53 : decode cX11_groups 53 = .ok (.getfield 155, 3) := by decide +kernel
theorem dX11_groups_56 : decode cX11_groups 56 = .ok (.if_icmp .ge 34, 3) := by decide +kernel
theorem dX11_groups_59 : decode cX11_groups 59 = .ok (.iload 4, 2) := by decide +kernel
theorem dX11_groups_61 : decode cX11_groups 61 = .ok (.iload 5, 2) := by decide +kernel
theorem dX11_groups_63 : decode cX11_groups 63 = .ok (.ishr, 1) := by decide +kernel
theorem dX11_groups_64 : decode cX11_groups 64 = .ok (.iconst 1, 1) := by decide +kernel
theorem dX11_groups_65 : decode cX11_groups 65 = .ok (.iand, 1) := by decide +kernel
theorem dX11_groups_66 : decode cX11_groups 66 = .ok (.ifCond .ne 18, 3) := by decide +kernel
theorem dX11_groups_69 : decode cX11_groups 69 = .ok (.iinc 3 1, 3) := by decide +kernel
theorem dX11_groups_72 : decode cX11_groups 72 = .ok (.iload 4, 2) := by decide +kernel
theorem dX11_groups_74 : decode cX11_groups 74 = .ok (.aload_n 0, 1) := by decide +kernel
theorem dX11_groups_75 : decode cX11_groups 75 = .ok (.iload 5, 2) := by decide +kernel
theorem dX11_groups_77 : decode cX11_groups 77 = .ok (.iload_n 1, 1) := by decide +kernel
theorem dX11_groups_78 : decode cX11_groups 78 = .ok (.invokevirtual 234, 3) := by decide +kernel
theorem dX11_groups_81 : decode cX11_groups 81 = .ok (.ior, 1) := by decide +kernel
theorem dX11_groups_82 : decode cX11_groups 82 = .ok (.istore 4, 2) := by decide +kernel
theorem dX11_groups_84 : decode cX11_groups 84 = .ok (.iinc 5 1, 3) := by decide +kernel
theorem dX11_groups_87 : decode cX11_groups 87 = .ok (.goto (-40), 3) := by decide +kernel
theorem dX11_groups_90 : decode cX11_groups 90 = .ok (.iload_n 3, 1) := by decide +kernel
theorem dX11_groups_91 : decode cX11_groups 91 = .ok (.ireturn, 1) := by decide +kernel
theorem dX11_fence_0 : decode cX11_fence 0 = .ok (.iload_n 1, 1) := by decide +kernel
theorem dX11_fence_1 : decode cX11_fence 1 = .ok (.ifCond .eq 10, 3) := by decide +kernel
theorem dX11_fence_4 : decode cX11_fence 4 = .ok (.iload_n 1, 1) := by decide +kernel
theorem dX11_fence_5 : decode cX11_fence 5 = .ok (.iconst 1, 1) := by decide +kernel
theorem dX11_fence_6 : decode cX11_fence 6 = .ok (.if_icmp .eq 5, 3) := by decide +kernel
theorem dX11_fence_9 : decode cX11_fence 9 = .ok (.iconst (-1), 1) := by decide +kernel
theorem dX11_fence_10 : decode cX11_fence 10 = .ok (.ireturn, 1) := by decide +kernel
theorem dX11_fence_11 : decode cX11_fence 11 = .ok (.aload_n 0, 1) := by decide +kernel
theorem dX11_fence_12 : decode cX11_fence 12 = .ok (.getfield 71, 3) := by decide +kernel
theorem dX11_fence_15 : decode cX11_fence 15 = .ok (.aload_n 0, 1) := by decide +kernel
theorem dX11_fence_16 : decode cX11_fence 16 = .ok (.getfield 19, 3) := by decide +kernel
theorem dX11_fence_19 : decode cX11_fence 19 = .ok (.aload_n 0, 1) := by decide +kernel
theorem dX11_fence_20 : decode cX11_fence 20 = .ok (.getfield 49, 3) := by decide +kernel
theorem dX11_fence_23 : decode cX11_fence 23 = .ok (.invokevirtual 226, 3) := by decide +kernel
theorem dX11_fence_26 : decode cX11_fence 26 = .ok (.aload_n 0, 1) := by decide +kernel
theorem dX11_fence_27 : decode cX11_fence 27 = .ok (.getfield 71, 3) := by decide +kernel
theorem dX11_fence_30 : decode cX11_fence 30 = .ok (.invokevirtual 237, 3) := by decide +kernel
theorem dX11_fence_33 : decode cX11_fence 33 = .ok (.iload_n 1, 1) := by decide +kernel
theorem dX11_fence_34 : decode cX11_fence 34 = .ok (.ifCond .ne 13, 3) := by decide +kernel
theorem dX11_fence_37 : decode cX11_fence 37 = .ok (.aload_n 0, 1) := by decide +kernel
theorem dX11_fence_38 : decode cX11_fence 38 = .ok (.getfield 71, 3) := by decide +kernel
theorem dX11_fence_41 : decode cX11_fence 41 = .ok (.getfield 240, 3) := by decide +kernel
theorem dX11_fence_44 : decode cX11_fence 44 = .ok (.goto 10, 3) := by decide +kernel
theorem dX11_fence_47 : decode cX11_fence 47 = .ok (.aload_n 0, 1) := by decide +kernel
theorem dX11_fence_48 : decode cX11_fence 48 = .ok (.getfield 71, 3) := by decide +kernel
theorem dX11_fence_51 : decode cX11_fence 51 = .ok (.invokevirtual 243, 3) := by decide +kernel
theorem dX11_fence_54 : decode cX11_fence 54 = .ok (.ireturn, 1) := by decide +kernel
theorem dX11_crossing_0 : decode cX11_crossing 0 = .ok (.iconst 0, 1) := by decide +kernel
theorem dX11_crossing_1 : decode cX11_crossing 1 = .ok (.istore_n 1, 1) := by decide +kernel
theorem dX11_crossing_2 : decode cX11_crossing 2 = .ok (.iconst 0, 1) := by decide +kernel
theorem dX11_crossing_3 : decode cX11_crossing 3 = .ok (.istore_n 2, 1) := by decide +kernel
theorem dX11_crossing_4 : decode cX11_crossing 4 = .ok (.iload_n 2, 1) := by decide +kernel
theorem dX11_crossing_5 : decode cX11_crossing 5 = .ok (.aload_n 0, 1) := by decide +kernel
theorem dX11_crossing_6 : decode cX11_crossing 6 = .ok (.getfield 19, 3) := by decide +kernel
theorem dX11_crossing_9 : decode cX11_crossing 9 = .ok (.getfield 155, 3) := by decide +kernel
theorem dX11_crossing_12 : decode cX11_crossing 12 = .ok (.if_icmp .ge 75, 3) := by decide +kernel
theorem dX11_crossing_15 : decode cX11_crossing 15 = .ok (.iload_n 2, 1) := by decide +kernel
theorem dX11_crossing_16 : decode cX11_crossing 16 = .ok (.iconst 1, 1) := by decide +kernel
theorem dX11_crossing_17 : decode cX11_crossing 17 = .ok (.iadd, 1) := by decide +kernel
theorem dX11_crossing_18 : decode cX11_crossing 18 = .ok (.istore_n 3, 1) := by decide +kernel
theorem dX11_crossing_19 : decode cX11_crossing 19 = .ok (.iload_n 3, 1) := by decide +kernel
theorem dX11_crossing_20 : decode cX11_crossing 20 = .ok (.aload_n 0, 1) := by decide +kernel
theorem dX11_crossing_21 : decode cX11_crossing 21 = .ok (.getfield 19, 3) := by decide +kernel
theorem dX11_crossing_24 : decode cX11_crossing 24 = .ok (.getfield 155, 3) := by decide +kernel
theorem dX11_crossing_27 : decode cX11_crossing 27 = .ok (.if_icmp .ge 54, 3) := by decide +kernel
theorem dX11_crossing_30 : decode cX11_crossing 30 = .ok (.aload_n 0, 1) := by decide +kernel
theorem dX11_crossing_31 : decode cX11_crossing 31 = .ok (.getfield 19, 3) := by decide +kernel
theorem dX11_crossing_34 : decode cX11_crossing 34 = .ok (.getfield 172, 3) := by decide +kernel
theorem dX11_crossing_37 : decode cX11_crossing 37 = .ok (.iload_n 2, 1) := by decide +kernel
theorem dX11_crossing_38 : decode cX11_crossing 38 = .ok (.iaload, 1) := by decide +kernel
theorem dX11_crossing_39 : decode cX11_crossing 39 = .ok (.aload_n 0, 1) := by decide +kernel
theorem dX11_crossing_40 : decode cX11_crossing 40 = .ok (.getfield 19, 3) := by decide +kernel
theorem dX11_crossing_43 : decode cX11_crossing 43 = .ok (.getfield 114, 3) := by decide +kernel
theorem dX11_crossing_46 : decode cX11_crossing 46 = .ok (.iload_n 2, 1) := by decide +kernel
theorem dX11_crossing_47 : decode cX11_crossing 47 = .ok (.iaload, 1) := by decide +kernel
theorem dX11_crossing_48 : decode cX11_crossing 48 = .ok (.aload_n 0, 1) := by decide +kernel
theorem dX11_crossing_49 : decode cX11_crossing 49 = .ok (.getfield 19, 3) := by decide +kernel
theorem dX11_crossing_52 : decode cX11_crossing 52 = .ok (.getfield 172, 3) := by decide +kernel
theorem dX11_crossing_55 : decode cX11_crossing 55 = .ok (.iload_n 3, 1) := by decide +kernel
theorem dX11_crossing_56 : decode cX11_crossing 56 = .ok (.iaload, 1) := by decide +kernel
theorem dX11_crossing_57 : decode cX11_crossing 57 = .ok (.aload_n 0, 1) := by decide +kernel
theorem dX11_crossing_58 : decode cX11_crossing 58 = .ok (.getfield 19, 3) := by decide +kernel
theorem dX11_crossing_61 : decode cX11_crossing 61 = .ok (.getfield 114, 3) := by decide +kernel
theorem dX11_crossing_64 : decode cX11_crossing 64 = .ok (.iload_n 3, 1) := by decide +kernel
theorem dX11_crossing_65 : decode cX11_crossing 65 = .ok (.iaload, 1) := by decide +kernel
theorem dX11_crossing_66 : decode cX11_crossing 66 = .ok (.invokestatic 247, 3) := by decide +kernel
theorem dX11_crossing_69 : decode cX11_crossing 69 = .ok (.ifCond .eq 6, 3) := by decide +kernel
theorem dX11_crossing_72 : decode cX11_crossing 72 = .ok (.iinc 1 1, 3) := by decide +kernel
theorem dX11_crossing_75 : decode cX11_crossing 75 = .ok (.iinc 3 1, 3) := by decide +kernel
theorem dX11_crossing_78 : decode cX11_crossing 78 = .ok (.goto (-59), 3) := by decide +kernel
theorem dX11_crossing_81 : decode cX11_crossing 81 = .ok (.iinc 2 1, 3) := by decide +kernel
theorem dX11_crossing_84 : decode cX11_crossing 84 = .ok (.goto (-80), 3) := by decide +kernel
theorem dX11_crossing_87 : decode cX11_crossing 87 = .ok (.iload_n 1, 1) := by decide +kernel
theorem dX11_crossing_88 : decode cX11_crossing 88 = .ok (.ireturn, 1) := by decide +kernel
theorem dX11_paths_0 : decode cX11_paths 0 = .ok (.aload_n 0, 1) := by decide +kernel
theorem dX11_paths_1 : decode cX11_paths 1 = .ok (.getfield 71, 3) := by decide +kernel
theorem dX11_paths_4 : decode cX11_paths 4 = .ok (.aload_n 0, 1) := by decide +kernel
theorem dX11_paths_5 : decode cX11_paths 5 = .ok (.getfield 19, 3) := by decide +kernel
theorem dX11_paths_8 : decode cX11_paths 8 = .ok (.aload_n 0, 1) := by decide +kernel
theorem dX11_paths_9 : decode cX11_paths 9 = .ok (.getfield 49, 3) := by decide +kernel
theorem dX11_paths_12 : decode cX11_paths 12 = .ok (.invokevirtual 226, 3) := by decide +kernel
theorem dX11_paths_15 : decode cX11_paths 15 = .ok (.aload_n 0, 1) := by decide +kernel
theorem dX11_paths_16 : decode cX11_paths 16 = .ok (.getfield 71, 3) := by decide +kernel
theorem dX11_paths_19 : decode cX11_paths 19 = .ok (.invokevirtual 251, 3) := by decide +kernel
theorem dX11_paths_22 : decode cX11_paths 22 = .ok (.ireturn, 1) := by decide +kernel
theorem dX11_trees_0 : decode cX11_trees 0 = .ok (.aload_n 0, 1) := by decide +kernel
theorem dX11_trees_1 : decode cX11_trees 1 = .ok (.getfield 71, 3) := by decide +kernel
theorem dX11_trees_4 : decode cX11_trees 4 = .ok (.aload_n 0, 1) := by decide +kernel
theorem dX11_trees_5 : decode cX11_trees 5 = .ok (.getfield 19, 3) := by decide +kernel
theorem dX11_trees_8 : decode cX11_trees 8 = .ok (.aload_n 0, 1) := by decide +kernel
theorem dX11_trees_9 : decode cX11_trees 9 = .ok (.getfield 49, 3) := by decide +kernel
theorem dX11_trees_12 : decode cX11_trees 12 = .ok (.invokevirtual 226, 3) := by decide +kernel
theorem dX11_trees_15 : decode cX11_trees 15 = .ok (.aload_n 0, 1) := by decide +kernel
theorem dX11_trees_16 : decode cX11_trees 16 = .ok (.getfield 71, 3) := by decide +kernel
theorem dX11_trees_19 : decode cX11_trees 19 = .ok (.getfield 254, 3) := by decide +kernel
theorem dX11_trees_22 : decode cX11_trees 22 = .ok (.ireturn, 1) := by decide +kernel
theorem dX11_round_0 : decode cX11_round 0 = .ok (.iload_n 1, 1) := by decide +kernel
theorem dX11_round_1 : decode cX11_round 1 = .ok (.ifCond .le 19, 3) := by decide +kernel
theorem dX11_round_4 : decode cX11_round 4 = .ok (.iload_n 1, 1) := by decide +kernel
theorem dX11_round_5 : decode cX11_round 5 = .ok (.aload_n 0, 1) := by decide +kernel
theorem dX11_round_6 : decode cX11_round 6 = .ok (.getfield 19, 3) := by decide +kernel
theorem dX11_round_9 : decode cX11_round 9 = .ok (.getfield 155, 3) := by decide +kernel
theorem dX11_round_12 : decode cX11_round 12 = .ok (.ishr, 1) := by decide +kernel
theorem dX11_round_13 : decode cX11_round 13 = .ok (.ifCond .ne 7, 3) := by decide +kernel
theorem dX11_round_16 : decode cX11_round 16 = .ok (.iconst 1, 1) := by decide +kernel
theorem dX11_round_17 : decode cX11_round 17 = .ok (.goto 4, 3) := by decide +kernel
theorem dX11_round_20 : decode cX11_round 20 = .ok (.iconst 0, 1) := by decide +kernel
theorem dX11_round_21 : decode cX11_round 21 = .ok (.istore_n 3, 1) := by decide +kernel
theorem dX11_round_22 : decode cX11_round 22 = .ok (.iload_n 3, 1) := by decide +kernel
theorem dX11_round_23 : decode cX11_round 23 = .ok (.ifCond .eq 21, 3) := by decide +kernel
theorem dX11_round_26 : decode cX11_round 26 = .ok (.iload_n 1, 1) := by decide +kernel
theorem dX11_round_27 : decode cX11_round 27 = .ok (.invokestatic 255, 3) := by decide +kernel
theorem dX11_round_30 : decode cX11_round 30 = .ok (.bipush 9, 2) := by decide +kernel
theorem dX11_round_32 : decode cX11_round 32 = .ok (.if_icmp .gt 12, 3) := by decide +kernel
theorem dX11_round_35 : decode cX11_round 35 = .ok (.iload_n 2, 1) := by decide +kernel
theorem dX11_round_36 : decode cX11_round 36 = .ok (.ifCond .eq 10, 3) := by decide +kernel
theorem dX11_round_39 : decode cX11_round 39 = .ok (.iload_n 2, 1) := by decide +kernel
theorem dX11_round_40 : decode cX11_round 40 = .ok (.iconst 1, 1) := by decide +kernel
theorem dX11_round_41 : decode cX11_round 41 = .ok (.if_icmp .eq 5, 3) := by decide +kernel
theorem dX11_round_44 : decode cX11_round 44 = .ok (.iconst (-1), 1) := by decide +kernel
theorem dX11_round_45 : decode cX11_round 45 = .ok (.ireturn, 1) := by decide +kernel
theorem dX11_round_46 : decode cX11_round 46 = .ok (.aload_n 0, 1) := by decide +kernel
theorem dX11_round_47 : decode cX11_round 47 = .ok (.getfield 78, 3) := by decide +kernel
theorem dX11_round_50 : decode cX11_round 50 = .ok (.aload_n 0, 1) := by decide +kernel
theorem dX11_round_51 : decode cX11_round 51 = .ok (.getfield 19, 3) := by decide +kernel
theorem dX11_round_54 : decode cX11_round 54 = .ok (.iload_n 1, 1) := by decide +kernel
theorem dX11_round_55 : decode cX11_round 55 = .ok (.invokevirtual 260, 3) := by decide +kernel
theorem dX11_round_58 : decode cX11_round 58 = .ok (.iload_n 2, 1) := by decide +kernel
theorem dX11_round_59 : decode cX11_round 59 = .ok (.ifCond .ne 13, 3) := by decide +kernel
theorem dX11_round_62 : decode cX11_round 62 = .ok (.aload_n 0, 1) := by decide +kernel
theorem dX11_round_63 : decode cX11_round 63 = .ok (.getfield 78, 3) := by decide +kernel
theorem dX11_round_66 : decode cX11_round 66 = .ok (.getfield 264, 3) := by decide +kernel
theorem dX11_round_69 : decode cX11_round 69 = .ok (.goto 10, 3) := by decide +kernel
theorem dX11_round_72 : decode cX11_round 72 = .ok (.aload_n 0, 1) := by decide +kernel
theorem dX11_round_73 : decode cX11_round 73 = .ok (.getfield 78, 3) := by decide +kernel
theorem dX11_round_76 : decode cX11_round 76 = .ok (.getfield 267, 3) := by decide +kernel
theorem dX11_round_79 : decode cX11_round 79 = .ok (.ireturn, 1) := by decide +kernel
theorem dX11_words_0 : decode cX11_words 0 = .ok (.iload_n 1, 1) := by decide +kernel
theorem dX11_words_1 : decode cX11_words 1 = .ok (.iconst 1, 1) := by decide +kernel
theorem dX11_words_2 : decode cX11_words 2 = .ok (.if_icmp .lt 29, 3) := by decide +kernel
theorem dX11_words_5 : decode cX11_words 5 = .ok (.iload_n 1, 1) := by decide +kernel
theorem dX11_words_6 : decode cX11_words 6 = .ok (.bipush 60, 2) := by decide +kernel
theorem dX11_words_8 : decode cX11_words 8 = .ok (.if_icmp .gt 23, 3) := by decide +kernel
theorem dX11_words_11 : decode cX11_words 11 = .ok (.iload_n 1, 1) := by decide +kernel
theorem dX11_words_12 : decode cX11_words 12 = .ok (.aload_n 0, 1) := by decide +kernel
theorem dX11_words_13 : decode cX11_words 13 = .ok (.getfield 10, 3) := by decide +kernel
theorem dX11_words_16 : decode cX11_words 16 = .ok (.getfield 118, 3) := by decide +kernel
theorem dX11_words_19 : decode cX11_words 19 = .ok (.if_icmp .gt 12, 3) := by decide +kernel
theorem dX11_words_22 : decode cX11_words 22 = .ok (.iload_n 2, 1) := by decide +kernel
theorem dX11_words_23 : decode cX11_words 23 = .ok (.ifCond .eq 10, 3) := by decide +kernel
theorem dX11_words_26 : decode cX11_words 26 = .ok (.iload_n 2, 1) := by decide +kernel
theorem dX11_words_27 : decode cX11_words 27 = .ok (.iconst 1, 1) := by decide +kernel
theorem dX11_words_28 : decode cX11_words 28 = .ok (.if_icmp .eq 5, 3) := by decide +kernel
theorem dX11_words_31 : decode cX11_words 31 = .ok (.iconst (-1), 1) := by decide +kernel
theorem dX11_words_32 : decode cX11_words 32 = .ok (.ireturn, 1) := by decide +kernel
theorem dX11_words_33 : decode cX11_words 33 = .ok (.aload_n 0, 1) := by decide +kernel
theorem dX11_words_34 : decode cX11_words 34 = .ok (.getfield 85, 3) := by decide +kernel
theorem dX11_words_37 : decode cX11_words 37 = .ok (.aload_n 0, 1) := by decide +kernel
theorem dX11_words_38 : decode cX11_words 38 = .ok (.getfield 10, 3) := by decide +kernel
theorem dX11_words_41 : decode cX11_words 41 = .ok (.iload_n 1, 1) := by decide +kernel
theorem dX11_words_42 : decode cX11_words 42 = .ok (.invokevirtual 270, 3) := by decide +kernel
theorem dX11_words_45 : decode cX11_words 45 = .ok (.istore_n 3, 1) := by decide +kernel
theorem dX11_words_46 : decode cX11_words 46 = .ok (.aload_n 0, 1) := by decide +kernel
theorem dX11_words_47 : decode cX11_words 47 = .ok (.getfield 10, 3) := by decide +kernel
theorem dX11_words_50 : decode cX11_words 50 = .ok (.invokevirtual 129, 3) := by decide +kernel
theorem dX11_words_53 : decode cX11_words 53 = .ok (.iload_n 3, 1) := by decide +kernel
theorem dX11_words_54 : decode cX11_words 54 = .ok (.ifCond .ne 6, 3) := by decide +kernel
theorem dX11_words_57 : decode cX11_words 57 = .ok (.bipush (-2), 2) := by decide +kernel
theorem dX11_words_59 : decode cX11_words 59 = .ok (.ireturn, 1) := by decide +kernel
theorem dX11_words_60 : decode cX11_words 60 = .ok (.aload_n 0, 1) := by decide +kernel
theorem dX11_words_61 : decode cX11_words 61 = .ok (.getfield 85, 3) := by decide +kernel
theorem dX11_words_64 : decode cX11_words 64 = .ok (.aload_n 0, 1) := by decide +kernel
theorem dX11_words_65 : decode cX11_words 65 = .ok (.getfield 19, 3) := by decide +kernel
theorem dX11_words_68 : decode cX11_words 68 = .ok (.aload_n 0, 1) := by decide +kernel
theorem dX11_words_69 : decode cX11_words 69 = .ok (.getfield 49, 3) := by decide +kernel
theorem dX11_words_72 : decode cX11_words 72 = .ok (.invokevirtual 273, 3) := by decide +kernel
theorem dX11_words_75 : decode cX11_words 75 = .ok (.aload_n 0, 1) := by decide +kernel
theorem dX11_words_76 : decode cX11_words 76 = .ok (.getfield 85, 3) := by decide +kernel
theorem dX11_words_79 : decode cX11_words 79 = .ok (.invokevirtual 276, 3) := by decide +kernel
theorem dX11_words_82 : decode cX11_words 82 = .ok (.istore 4, 2) := by decide +kernel
theorem dX11_words_84 : decode cX11_words 84 = .ok (.iload_n 2, 1) := by decide +kernel
theorem dX11_words_85 : decode cX11_words 85 = .ok (.ifCond .ne 11, 3) := by decide +kernel
theorem dX11_words_88 : decode cX11_words 88 = .ok (.iload 4, 2) := by decide +kernel
theorem dX11_words_90 : decode cX11_words 90 = .ok (.invokestatic 255, 3) := by decide +kernel
theorem dX11_words_93 : decode cX11_words 93 = .ok (.goto 5, 3) := by decide +kernel
theorem dX11_words_96 : decode cX11_words 96 = .ok (.iload 4, 2) := by decide +kernel
theorem dX11_words_98 : decode cX11_words 98 = .ok (.ireturn, 1) := by decide +kernel
theorem dX11_marriages_0 : decode cX11_marriages 0 = .ok (.iload_n 1, 1) := by decide +kernel
theorem dX11_marriages_1 : decode cX11_marriages 1 = .ok (.iconst 2, 1) := by decide +kernel
theorem dX11_marriages_2 : decode cX11_marriages 2 = .ok (.if_icmp .lt 24, 3) := by decide +kernel
theorem dX11_marriages_5 : decode cX11_marriages 5 = .ok (.iload_n 1, 1) := by decide +kernel
theorem dX11_marriages_6 : decode cX11_marriages 6 = .ok (.bipush 6, 2) := by decide +kernel
theorem dX11_marriages_8 : decode cX11_marriages 8 = .ok (.if_icmp .gt 18, 3) := by decide +kernel
theorem dX11_marriages_11 : decode cX11_marriages 11 = .ok (.iconst 2, 1) := by decide +kernel
theorem dX11_marriages_12 : decode cX11_marriages 12 = .ok (.iload_n 1, 1) := by decide +kernel
theorem dX11_marriages_13 : decode cX11_marriages 13 = .ok (.imul, 1) := by decide +kernel
theorem dX11_marriages_14 : decode cX11_marriages 14 = .ok (.iload_n 1, 1) := by decide +kernel
theorem dX11_marriages_15 : decode cX11_marriages 15 = .ok (.imul, 1) := by decide +kernel
theorem dX11_marriages_16 : decode cX11_marriages 16 = .ok (.aload_n 0, 1) := by decide +kernel
theorem dX11_marriages_17 : decode cX11_marriages 17 = .ok (.getfield 10, 3) := by decide +kernel
theorem dX11_marriages_20 : decode cX11_marriages 20 = .ok (.getfield 118, 3) := by decide +kernel
theorem dX11_marriages_23 : decode cX11_marriages 23 = .ok (.if_icmp .le 5, 3) := by decide +kernel
theorem dX11_marriages_26 : decode cX11_marriages 26 = .ok (.iconst (-1), 1) := by decide +kernel
theorem dX11_marriages_27 : decode cX11_marriages 27 = .ok (.ireturn, 1) := by decide +kernel
theorem dX11_marriages_28 : decode cX11_marriages 28 = .ok (.iload_n 2, 1) := by decide +kernel
theorem dX11_marriages_29 : decode cX11_marriages 29 = .ok (.bipush 100, 2) := by decide +kernel
theorem dX11_marriages_31 : decode cX11_marriages 31 = .ok (.if_icmp .eq 14, 3) := by decide +kernel
theorem dX11_marriages_34 : decode cX11_marriages 34 = .ok (.iload_n 2, 1) := by decide +kernel
theorem dX11_marriages_35 : decode cX11_marriages 35 = .ok (.ifCond .lt 8, 3) := by decide +kernel
theorem dX11_marriages_38 : decode cX11_marriages 38 = .ok (.iload_n 2, 1) := by decide +kernel
theorem dX11_marriages_39 : decode cX11_marriages 39 = .ok (.iload_n 1, 1) := by decide +kernel
theorem dX11_marriages_40 : decode cX11_marriages 40 = .ok (.if_icmp .lt 5, 3) := by decide +kernel
theorem dX11_marriages_43 : decode cX11_marriages 43 = .ok (.iconst (-1), 1) := by decide +kernel
theorem dX11_marriages_44 : decode cX11_marriages 44 = .ok (.ireturn, 1) := by decide +kernel
theorem dX11_marriages_45 : decode cX11_marriages 45 = .ok (.aload_n 0, 1) := by decide +kernel
theorem dX11_marriages_46 : decode cX11_marriages 46 = .ok (.getfield 92, 3) := by decide +kernel
theorem dX11_marriages_49 : decode cX11_marriages 49 = .ok (.aload_n 0, 1) := by decide +kernel
theorem dX11_marriages_50 : decode cX11_marriages 50 = .ok (.getfield 10, 3) := by decide +kernel
theorem dX11_marriages_53 : decode cX11_marriages 53 = .ok (.iload_n 1, 1) := by decide +kernel
theorem dX11_marriages_54 : decode cX11_marriages 54 = .ok (.invokevirtual 279, 3) := by decide +kernel
theorem dX11_marriages_57 : decode cX11_marriages 57 = .ok (.istore_n 3, 1) := by decide +kernel
theorem dX11_marriages_58 : decode cX11_marriages 58 = .ok (.aload_n 0, 1) := by decide +kernel
theorem dX11_marriages_59 : decode cX11_marriages 59 = .ok (.getfield 10, 3) := by decide +kernel
theorem dX11_marriages_62 : decode cX11_marriages 62 = .ok (.invokevirtual 129, 3) := by decide +kernel
theorem dX11_marriages_65 : decode cX11_marriages 65 = .ok (.iload_n 3, 1) := by decide +kernel
theorem dX11_marriages_66 : decode cX11_marriages 66 = .ok (.ifCond .ne 6, 3) := by decide +kernel
theorem dX11_marriages_69 : decode cX11_marriages 69 = .ok (.bipush (-3), 2) := by decide +kernel
theorem dX11_marriages_71 : decode cX11_marriages 71 = .ok (.ireturn, 1) := by decide +kernel
theorem dX11_marriages_72 : decode cX11_marriages 72 = .ok (.iload_n 2, 1) := by decide +kernel
theorem dX11_marriages_73 : decode cX11_marriages 73 = .ok (.bipush 100, 2) := by decide +kernel
theorem dX11_marriages_75 : decode cX11_marriages 75 = .ok (.if_icmp .ne 13, 3) := by decide +kernel
theorem dX11_marriages_78 : decode cX11_marriages 78 = .ok (.aload_n 0, 1) := by decide +kernel
theorem dX11_marriages_79 : decode cX11_marriages 79 = .ok (.getfield 92, 3) := by decide +kernel
theorem dX11_marriages_82 : decode cX11_marriages 82 = .ok (.invokevirtual 280, 3) := by decide +kernel
theorem dX11_marriages_85 : decode cX11_marriages 85 = .ok (.goto 11, 3) := by decide +kernel
theorem dX11_marriages_88 : decode cX11_marriages 88 = .ok (.aload_n 0, 1) := by decide +kernel
theorem dX11_marriages_89 : decode cX11_marriages 89 = .ok (.getfield 92, 3) := by decide +kernel
theorem dX11_marriages_92 : decode cX11_marriages 92 = .ok (.iload_n 2, 1) := by decide +kernel
theorem dX11_marriages_93 : decode cX11_marriages 93 = .ok (.invokevirtual 283, 3) := by decide +kernel
theorem dX11_marriages_96 : decode cX11_marriages 96 = .ok (.ireturn, 1) := by decide +kernel
theorem dX11_orders_0 : decode cX11_orders 0 = .ok (.iload_n 1, 1) := by decide +kernel
theorem dX11_orders_1 : decode cX11_orders 1 = .ok (.iconst 2, 1) := by decide +kernel
theorem dX11_orders_2 : decode cX11_orders 2 = .ok (.if_icmp .lt 33, 3) := by decide +kernel
theorem dX11_orders_5 : decode cX11_orders 5 = .ok (.iload_n 1, 1) := by decide +kernel
theorem dX11_orders_6 : decode cX11_orders 6 = .ok (.bipush 10, 2) := by decide +kernel
theorem dX11_orders_8 : decode cX11_orders 8 = .ok (.if_icmp .gt 27, 3) := by decide +kernel
theorem dX11_orders_11 : decode cX11_orders 11 = .ok (.iload_n 2, 1) := by decide +kernel
theorem dX11_orders_12 : decode cX11_orders 12 = .ok (.iconst 1, 1) := by decide +kernel
theorem dX11_orders_13 : decode cX11_orders 13 = .ok (.if_icmp .lt 22, 3) := by decide +kernel
theorem dX11_orders_16 : decode cX11_orders 16 = .ok (.iload_n 2, 1) := by decide +kernel
theorem dX11_orders_17 : decode cX11_orders 17 = .ok (.bipush 20, 2) := by decide +kernel
theorem dX11_orders_19 : decode cX11_orders 19 = .ok (.if_icmp .gt 16, 3) := by decide +kernel
theorem dX11_orders_22 : decode cX11_orders 22 = .ok (.iconst 2, 1) := by decide +kernel
theorem dX11_orders_23 : decode cX11_orders 23 = .ok (.iload_n 2, 1) := by decide +kernel
theorem dX11_orders_24 : decode cX11_orders 24 = .ok (.imul, 1) := by decide +kernel
theorem dX11_orders_25 : decode cX11_orders 25 = .ok (.aload_n 0, 1) := by decide +kernel
theorem dX11_orders_26 : decode cX11_orders 26 = .ok (.getfield 10, 3) := by decide +kernel
theorem dX11_orders_29 : decode cX11_orders 29 = .ok (.getfield 118, 3) := by decide +kernel
theorem dX11_orders_32 : decode cX11_orders 32 = .ok (.if_icmp .le 5, 3) := by decide +kernel
theorem dX11_orders_35 : decode cX11_orders 35 = .ok (.iconst (-1), 1) := by decide +kernel
theorem dX11_orders_36 : decode cX11_orders 36 = .ok (.ireturn, 1) := by decide +kernel
theorem dX11_orders_37 : decode cX11_orders 37 = .ok (.iload_n 3, 1) := by decide +kernel
theorem dX11_orders_38 : decode cX11_orders 38 = .ok (.bipush 100, 2) := by decide +kernel
theorem dX11_orders_40 : decode cX11_orders 40 = .ok (.if_icmp .eq 14, 3) := by decide +kernel
theorem dX11_orders_43 : decode cX11_orders 43 = .ok (.iload_n 3, 1) := by decide +kernel
theorem dX11_orders_44 : decode cX11_orders 44 = .ok (.ifCond .lt 8, 3) := by decide +kernel
theorem dX11_orders_47 : decode cX11_orders 47 = .ok (.iload_n 3, 1) := by decide +kernel
theorem dX11_orders_48 : decode cX11_orders 48 = .ok (.iload_n 1, 1) := by decide +kernel
theorem dX11_orders_49 : decode cX11_orders 49 = .ok (.if_icmp .lt 5, 3) := by decide +kernel
theorem dX11_orders_52 : decode cX11_orders 52 = .ok (.iconst (-1), 1) := by decide +kernel
theorem dX11_orders_53 : decode cX11_orders 53 = .ok (.ireturn, 1) := by decide +kernel
theorem dX11_orders_54 : decode cX11_orders 54 = .ok (.aload_n 0, 1) := by decide +kernel
theorem dX11_orders_55 : decode cX11_orders 55 = .ok (.getfield 78, 3) := by decide +kernel
theorem dX11_orders_58 : decode cX11_orders 58 = .ok (.aload_n 0, 1) := by decide +kernel
theorem dX11_orders_59 : decode cX11_orders 59 = .ok (.getfield 10, 3) := by decide +kernel
theorem dX11_orders_62 : decode cX11_orders 62 = .ok (.iload_n 1, 1) := by decide +kernel
theorem dX11_orders_63 : decode cX11_orders 63 = .ok (.iload_n 2, 1) := by decide +kernel
theorem dX11_orders_64 : decode cX11_orders 64 = .ok (.invokevirtual 286, 3) := by decide +kernel
theorem dX11_orders_67 : decode cX11_orders 67 = .ok (.istore 4, 2) := by decide +kernel
theorem dX11_orders_69 : decode cX11_orders 69 = .ok (.aload_n 0, 1) := by decide +kernel
theorem dX11_orders_70 : decode cX11_orders 70 = .ok (.getfield 10, 3) := by decide +kernel
theorem dX11_orders_73 : decode cX11_orders 73 = .ok (.invokevirtual 129, 3) := by decide +kernel
theorem dX11_orders_76 : decode cX11_orders 76 = .ok (.iload 4, 2) := by decide +kernel
theorem dX11_orders_78 : decode cX11_orders 78 = .ok (.ifCond .ne 6, 3) := by decide +kernel
theorem dX11_orders_81 : decode cX11_orders 81 = .ok (.bipush (-3), 2) := by decide +kernel
theorem dX11_orders_83 : decode cX11_orders 83 = .ok (.ireturn, 1) := by decide +kernel
theorem dX11_orders_84 : decode cX11_orders 84 = .ok (.aload_n 0, 1) := by decide +kernel
theorem dX11_orders_85 : decode cX11_orders 85 = .ok (.getfield 78, 3) := by decide +kernel
theorem dX11_orders_88 : decode cX11_orders 88 = .ok (.iload_n 1, 1) := by decide +kernel
theorem dX11_orders_89 : decode cX11_orders 89 = .ok (.invokevirtual 290, 3) := by decide +kernel
theorem dX11_orders_92 : decode cX11_orders 92 = .ok (.istore 5, 2) := by decide +kernel
theorem dX11_orders_94 : decode cX11_orders 94 = .ok (.iload_n 3, 1) := by decide +kernel
theorem dX11_orders_95 : decode cX11_orders 95 = .ok (.bipush 100, 2) := by decide +kernel
theorem dX11_orders_97 : decode cX11_orders 97 = .ok (.if_icmp .ne 8, 3) := by decide +kernel
theorem dX11_orders_100 : decode cX11_orders 100 = .ok (.iload 5, 2) := by decide +kernel
theorem dX11_orders_102 : decode cX11_orders 102 = .ok (.goto 12, 3) := by decide +kernel
theorem dX11_orders_105 : decode cX11_orders 105 = .ok (.aload_n 0, 1) := by decide +kernel
theorem dX11_orders_106 : decode cX11_orders 106 = .ok (.getfield 78, 3) := by decide +kernel
theorem dX11_orders_109 : decode cX11_orders 109 = .ok (.iload_n 1, 1) := by decide +kernel
theorem dX11_orders_110 : decode cX11_orders 110 = .ok (.iload_n 3, 1) := by decide +kernel
theorem dX11_orders_111 : decode cX11_orders 111 = .ok (.invokevirtual 293, 3) := by decide +kernel
theorem dX11_orders_114 : decode cX11_orders 114 = .ok (.ireturn, 1) := by decide +kernel
theorem dX11_seed_0 : decode cX11_seed 0 = .ok (.iload_n 1, 1) := by decide +kernel
theorem dX11_seed_1 : decode cX11_seed 1 = .ok (.ifCond .lt 10, 3) := by decide +kernel
theorem dX11_seed_4 : decode cX11_seed 4 = .ok (.iload_n 1, 1) := by decide +kernel
theorem dX11_seed_5 : decode cX11_seed 5 = .ok (.ldc_w 296, 3) := by decide +kernel
theorem dX11_seed_8 : decode cX11_seed 8 = .ok (.if_icmp .le 5, 3) := by decide +kernel
theorem dX11_seed_11 : decode cX11_seed 11 = .ok (.iconst 0, 1) := by decide +kernel
theorem dX11_seed_12 : decode cX11_seed 12 = .ok (.ireturn, 1) := by decide +kernel
theorem dX11_seed_13 : decode cX11_seed 13 = .ok (.aload_n 0, 1) := by decide +kernel
theorem dX11_seed_14 : decode cX11_seed 14 = .ok (.getfield 49, 3) := by decide +kernel
theorem dX11_seed_17 : decode cX11_seed 17 = .ok (.iload_n 1, 1) := by decide +kernel
theorem dX11_seed_18 : decode cX11_seed 18 = .ok (.putfield 297, 3) := by decide +kernel
theorem dX11_seed_21 : decode cX11_seed 21 = .ok (.iconst 1, 1) := by decide +kernel
theorem dX11_seed_22 : decode cX11_seed 22 = .ok (.ireturn, 1) := by decide +kernel
theorem dX11_keep_0 : decode cX11_keep 0 = .ok (.aload_n 0, 1) := by decide +kernel
theorem dX11_keep_1 : decode cX11_keep 1 = .ok (.getfield 53, 3) := by decide +kernel
theorem dX11_keep_4 : decode cX11_keep 4 = .ok (.aload_n 0, 1) := by decide +kernel
theorem dX11_keep_5 : decode cX11_keep 5 = .ok (.getfield 49, 3) := by decide +kernel
theorem dX11_keep_8 : decode cX11_keep 8 = .ok (.aload_n 0, 1) := by decide +kernel
theorem dX11_keep_9 : decode cX11_keep 9 = .ok (.getfield 19, 3) := by decide +kernel
theorem dX11_keep_12 : decode cX11_keep 12 = .ok (.getfield 155, 3) := by decide +kernel
theorem dX11_keep_15 : decode cX11_keep 15 = .ok (.invokevirtual 156, 3) := by decide +kernel
theorem dX11_keep_18 : decode cX11_keep 18 = .ok (.aload_n 0, 1) := by decide +kernel
theorem dX11_keep_19 : decode cX11_keep 19 = .ok (.aload_n 0, 1) := by decide +kernel
theorem dX11_keep_20 : decode cX11_keep 20 = .ok (.getfield 19, 3) := by decide +kernel
theorem dX11_keep_23 : decode cX11_keep 23 = .ok (.getfield 155, 3) := by decide +kernel
theorem dX11_keep_26 : decode cX11_keep 26 = .ok (.putfield 100, 3) := by decide +kernel
theorem dX11_keep_29 : decode cX11_keep 29 = .ok (.aload_n 0, 1) := by decide +kernel
theorem dX11_keep_30 : decode cX11_keep 30 = .ok (.iconst 1, 1) := by decide +kernel
theorem dX11_keep_31 : decode cX11_keep 31 = .ok (.putfield 96, 3) := by decide +kernel
theorem dX11_keep_34 : decode cX11_keep 34 = .ok (.aload_n 0, 1) := by decide +kernel
theorem dX11_keep_35 : decode cX11_keep 35 = .ok (.getfield 49, 3) := by decide +kernel
theorem dX11_keep_38 : decode cX11_keep 38 = .ok (.getfield 213, 3) := by decide +kernel
theorem dX11_keep_41 : decode cX11_keep 41 = .ok (.ireturn, 1) := by decide +kernel
theorem dX11_undo_0 : decode cX11_undo 0 = .ok (.aload_n 0, 1) := by decide +kernel
theorem dX11_undo_1 : decode cX11_undo 1 = .ok (.getfield 96, 3) := by decide +kernel
theorem dX11_undo_4 : decode cX11_undo 4 = .ok (.ifCond .ne 5, 3) := by decide +kernel
theorem dX11_undo_7 : decode cX11_undo 7 = .ok (.iconst 0, 1) := by decide +kernel
theorem dX11_undo_8 : decode cX11_undo 8 = .ok (.ireturn, 1) := by decide +kernel
theorem dX11_undo_9 : decode cX11_undo 9 = .ok (.aload_n 0, 1) := by decide +kernel
theorem dX11_undo_10 : decode cX11_undo 10 = .ok (.getfield 49, 3) := by decide +kernel
theorem dX11_undo_13 : decode cX11_undo 13 = .ok (.aload_n 0, 1) := by decide +kernel
theorem dX11_undo_14 : decode cX11_undo 14 = .ok (.getfield 53, 3) := by decide +kernel
theorem dX11_undo_17 : decode cX11_undo 17 = .ok (.aload_n 0, 1) := by decide +kernel
theorem dX11_undo_18 : decode cX11_undo 18 = .ok (.getfield 100, 3) := by decide +kernel
theorem dX11_undo_21 : decode cX11_undo 21 = .ok (.aload_n 0, 1) := by decide +kernel
theorem dX11_undo_22 : decode cX11_undo 22 = .ok (.getfield 19, 3) := by decide +kernel
theorem dX11_undo_25 : decode cX11_undo 25 = .ok (.getfield 155, 3) := by decide +kernel
theorem dX11_undo_28 : decode cX11_undo 28 = .ok (.invokestatic 220, 3) := by decide +kernel
theorem dX11_undo_31 : decode cX11_undo 31 = .ok (.invokevirtual 156, 3) := by decide +kernel
theorem dX11_undo_34 : decode cX11_undo 34 = .ok (.iconst 1, 1) := by decide +kernel
theorem dX11_undo_35 : decode cX11_undo 35 = .ok (.ireturn, 1) := by decide +kernel
theorem dX11_check_0 : decode cX11_check 0 = .ok (.iload_n 1, 1) := by decide +kernel
theorem dX11_check_1 : decode cX11_check 1 = .ok (.ifCond .lt 20, 3) := by decide +kernel
theorem dX11_check_4 : decode cX11_check 4 = .ok (.iload_n 1, 1) := by decide +kernel
theorem dX11_check_5 : decode cX11_check 5 = .ok (.bipush 16, 2) := by decide +kernel
theorem dX11_check_7 : decode cX11_check 7 = .ok (.if_icmp .gt 14, 3) := by decide +kernel
theorem dX11_check_10 : decode cX11_check 10 = .ok (.iload_n 1, 1) := by decide +kernel
theorem dX11_check_11 : decode cX11_check 11 = .ok (.aload_n 0, 1) := by decide +kernel
theorem dX11_check_12 : decode cX11_check 12 = .ok (.getfield 10, 3) := by decide +kernel
theorem dX11_check_15 : decode cX11_check 15 = .ok (.getfield 118, 3) := by decide +kernel
theorem dX11_check_18 : decode cX11_check 18 = .ok (.if_icmp .le 6, 3) := by decide +kernel
theorem dX11_check_21 : decode cX11_check 21 = .ok (.bipush (-2), 2) := by decide +kernel
theorem dX11_check_23 : decode cX11_check 23 = .ok (.ireturn, 1) := by decide +kernel
theorem dX11_check_24 : decode cX11_check 24 = .ok (.iconst (-1), 1) := by decide +kernel
theorem dX11_check_25 : decode cX11_check 25 = .ok (.istore_n 2, 1) := by decide +kernel
theorem dX11_check_26 : decode cX11_check 26 = .ok (.iload_n 1, 1) := by decide +kernel
theorem dX11_check_27 : decode cX11_check 27 = .ok (.iconst 1, 1) := by decide +kernel
theorem dX11_check_28 : decode cX11_check 28 = .ok (.isub, 1) := by decide +kernel
theorem dX11_check_29 : decode cX11_check 29 = .ok (.istore_n 3, 1) := by decide +kernel
theorem dX11_check_30 : decode cX11_check 30 = .ok (.iload_n 3, 1) := by decide +kernel
theorem dX11_check_31 : decode cX11_check 31 = .ok (.ifCond .lt 49, 3) := by decide +kernel
theorem dX11_check_34 : decode cX11_check 34 = .ok (.aload_n 0, 1) := by decide +kernel
theorem dX11_check_35 : decode cX11_check 35 = .ok (.iload_n 3, 1) := by decide +kernel
theorem dX11_check_36 : decode cX11_check 36 = .ok (.invokevirtual 104, 3) := by decide +kernel
theorem dX11_check_39 : decode cX11_check 39 = .ok (.ifCond .eq 15, 3) := by decide +kernel
theorem dX11_check_42 : decode cX11_check 42 = .ok (.aload_n 0, 1) := by decide +kernel
theorem dX11_check_43 : decode cX11_check 43 = .ok (.getfield 49, 3) := by decide +kernel
theorem dX11_check_46 : decode cX11_check 46 = .ok (.getfield 166, 3) := by decide +kernel
theorem dX11_check_49 : decode cX11_check 49 = .ok (.iload_n 3, 1) := by decide +kernel
theorem dX11_check_50 : decode cX11_check 50 = .ok (.iaload, 1) := by decide +kernel
theorem dX11_check_51 : decode cX11_check 51 = .ok (.goto 6, 3) := by decide +kernel
theorem dX11_check_54 : decode cX11_check 54 = .ok (.sipush 255, 3) := by decide +kernel
theorem dX11_check_57 : decode cX11_check 57 = .ok (.istore 4, 2) := by decide +kernel
theorem dX11_check_59 : decode cX11_check 59 = .ok (.aload_n 0, 1) := by decide +kernel
theorem dX11_check_60 : decode cX11_check 60 = .ok (.getfield 10, 3) := by decide +kernel
theorem dX11_check_63 : decode cX11_check 63 = .ok (.iload_n 3, 1) := by decide +kernel
theorem dX11_check_64 : decode cX11_check 64 = .ok (.invokevirtual 300, 3) := by decide +kernel
theorem dX11_check_67 : decode cX11_check 67 = .ok (.iload 4, 2) := by decide +kernel
theorem dX11_check_69 : decode cX11_check 69 = .ok (.if_icmp .eq 5, 3) := by decide +kernel
theorem dX11_check_72 : decode cX11_check 72 = .ok (.iload_n 3, 1) := by decide +kernel
theorem dX11_check_73 : decode cX11_check 73 = .ok (.istore_n 2, 1) := by decide +kernel
theorem dX11_check_74 : decode cX11_check 74 = .ok (.iinc 3 (-1), 3) := by decide +kernel
theorem dX11_check_77 : decode cX11_check 77 = .ok (.goto (-47), 3) := by decide +kernel
theorem dX11_check_80 : decode cX11_check 80 = .ok (.aload_n 0, 1) := by decide +kernel
theorem dX11_check_81 : decode cX11_check 81 = .ok (.getfield 10, 3) := by decide +kernel
theorem dX11_check_84 : decode cX11_check 84 = .ok (.invokevirtual 129, 3) := by decide +kernel
theorem dX11_check_87 : decode cX11_check 87 = .ok (.iload_n 2, 1) := by decide +kernel
theorem dX11_check_88 : decode cX11_check 88 = .ok (.ireturn, 1) := by decide +kernel
theorem dX11_count_0 : decode cX11_count 0 = .ok (.iload_n 1, 1) := by decide +kernel
theorem dX11_count_1 : decode cX11_count 1 = .ok (.tableswitch 134 0 7 #[47, 55, 63, 79, 95, 110, 118, 126], 47) := by decide +kernel
theorem dX11_count_48 : decode cX11_count 48 = .ok (.aload_n 0, 1) := by decide +kernel
theorem dX11_count_49 : decode cX11_count 49 = .ok (.getfield 49, 3) := by decide +kernel
theorem dX11_count_52 : decode cX11_count 52 = .ok (.getfield 213, 3) := by decide +kernel
theorem dX11_count_55 : decode cX11_count 55 = .ok (.ireturn, 1) := by decide +kernel
theorem dX11_count_56 : decode cX11_count 56 = .ok (.aload_n 0, 1) := by decide +kernel
theorem dX11_count_57 : decode cX11_count 57 = .ok (.getfield 19, 3) := by decide +kernel
theorem dX11_count_60 : decode cX11_count 60 = .ok (.getfield 155, 3) := by decide +kernel
theorem dX11_count_63 : decode cX11_count 63 = .ok (.ireturn, 1) := by decide +kernel
theorem dX11_count_64 : decode cX11_count 64 = .ok (.aload_n 0, 1) := by decide +kernel
theorem dX11_count_65 : decode cX11_count 65 = .ok (.getfield 49, 3) := by decide +kernel
theorem dX11_count_68 : decode cX11_count 68 = .ok (.iconst 2, 1) := by decide +kernel
theorem dX11_count_69 : decode cX11_count 69 = .ok (.aload_n 0, 1) := by decide +kernel
theorem dX11_count_70 : decode cX11_count 70 = .ok (.getfield 19, 3) := by decide +kernel
theorem dX11_count_73 : decode cX11_count 73 = .ok (.getfield 155, 3) := by decide +kernel
theorem dX11_count_76 : decode cX11_count 76 = .ok (.invokevirtual 159, 3) := by decide +kernel
theorem dX11_count_79 : decode cX11_count 79 = .ok (.ireturn, 1) := by decide +kernel
theorem dX11_count_80 : decode cX11_count 80 = .ok (.aload_n 0, 1) := by decide +kernel
theorem dX11_count_81 : decode cX11_count 81 = .ok (.getfield 49, 3) := by decide +kernel
theorem dX11_count_84 : decode cX11_count 84 = .ok (.iconst 3, 1) := by decide +kernel
theorem dX11_count_85 : decode cX11_count 85 = .ok (.aload_n 0, 1) := by decide +kernel
theorem dX11_count_86 : decode cX11_count 86 = .ok (.getfield 19, 3) := by decide +kernel
theorem dX11_count_89 : decode cX11_count 89 = .ok (.getfield 155, 3) := by decide +kernel
theorem dX11_count_92 : decode cX11_count 92 = .ok (.invokevirtual 159, 3) := by decide +kernel
theorem dX11_count_95 : decode cX11_count 95 = .ok (.ireturn, 1) := by decide +kernel
theorem dX11_count_96 : decode cX11_count 96 = .ok (.aload_n 0, 1) := by decide +kernel
theorem dX11_count_97 : decode cX11_count 97 = .ok (.getfield 49, 3) := by decide +kernel
theorem dX11_count_100 : decode cX11_count 100 = .ok (.aload_n 0, 1) := by decide +kernel
theorem dX11_count_101 : decode cX11_count 101 = .ok (.getfield 19, 3) := by decide +kernel
theorem dX11_count_104 : decode cX11_count 104 = .ok (.getfield 155, 3) := by decide +kernel
theorem dX11_count_107 : decode cX11_count 107 = .ok (.invokevirtual 303, 3) := by decide +kernel
theorem dX11_count_110 : decode cX11_count 110 = .ok (.ireturn, 1) := by decide +kernel
theorem dX11_count_111 : decode cX11_count 111 = .ok (.aload_n 0, 1) := by decide +kernel
theorem dX11_count_112 : decode cX11_count 112 = .ok (.getfield 35, 3) := by decide +kernel
theorem dX11_count_115 : decode cX11_count 115 = .ok (.getfield 306, 3) := by decide +kernel
theorem dX11_count_118 : decode cX11_count 118 = .ok (.ireturn, 1) := by decide +kernel
theorem dX11_count_119 : decode cX11_count 119 = .ok (.aload_n 0, 1) := by decide +kernel
theorem dX11_count_120 : decode cX11_count 120 = .ok (.getfield 10, 3) := by decide +kernel
theorem dX11_count_123 : decode cX11_count 123 = .ok (.getfield 118, 3) := by decide +kernel
theorem dX11_count_126 : decode cX11_count 126 = .ok (.ireturn, 1) := by decide +kernel
theorem dX11_count_127 : decode cX11_count 127 = .ok (.aload_n 0, 1) := by decide +kernel
theorem dX11_count_128 : decode cX11_count 128 = .ok (.getfield 49, 3) := by decide +kernel
theorem dX11_count_131 : decode cX11_count 131 = .ok (.getfield 297, 3) := by decide +kernel
theorem dX11_count_134 : decode cX11_count 134 = .ok (.ireturn, 1) := by decide +kernel
theorem dX11_count_135 : decode cX11_count 135 = .ok (.iconst (-1), 1) := by decide +kernel
theorem dX11_count_136 : decode cX11_count 136 = .ok (.ireturn, 1) := by decide +kernel
theorem dX11_isCut_0 : decode cX11_isCut 0 = .ok (.iload_n 1, 1) := by decide +kernel
theorem dX11_isCut_1 : decode cX11_isCut 1 = .ok (.ifCond .lt 18, 3) := by decide +kernel
theorem dX11_isCut_4 : decode cX11_isCut 4 = .ok (.iload_n 1, 1) := by decide +kernel
theorem dX11_isCut_5 : decode cX11_isCut 5 = .ok (.aload_n 0, 1) := by decide +kernel
theorem dX11_isCut_6 : decode cX11_isCut 6 = .ok (.getfield 19, 3) := by decide +kernel
theorem dX11_isCut_9 : decode cX11_isCut 9 = .ok (.getfield 155, 3) := by decide +kernel
theorem dX11_isCut_12 : decode cX11_isCut 12 = .ok (.if_icmp .ge 7, 3) := by decide +kernel
theorem dX11_isCut_15 : decode cX11_isCut 15 = .ok (.iconst 1, 1) := by decide +kernel
theorem dX11_isCut_16 : decode cX11_isCut 16 = .ok (.goto 4, 3) := by decide +kernel
theorem dX11_isCut_19 : decode cX11_isCut 19 = .ok (.iconst 0, 1) := by decide +kernel
theorem dX11_isCut_20 : decode cX11_isCut 20 = .ok (.ireturn, 1) := by decide +kernel
theorem dX11_groupOf_0 : decode cX11_groupOf 0 = .ok (.iconst 1, 1) := by decide +kernel
theorem dX11_groupOf_1 : decode cX11_groupOf 1 = .ok (.iload_n 1, 1) := by decide +kernel
theorem dX11_groupOf_2 : decode cX11_groupOf 2 = .ok (.ishl, 1) := by decide +kernel
theorem dX11_groupOf_3 : decode cX11_groupOf 3 = .ok (.istore_n 3, 1) := by decide +kernel
theorem dX11_groupOf_4 : decode cX11_groupOf 4 = .ok (.iconst 0, 1) := by decide +kernel
theorem dX11_groupOf_5 : decode cX11_groupOf 5 = .ok (.istore 4, 2) := by decide +kernel
theorem dX11_groupOf_7 : decode cX11_groupOf 7 = .ok (.iconst 0, 1) := by decide +kernel
theorem dX11_groupOf_8 : decode cX11_groupOf 8 = .ok (.istore 5, 2) := by decide +kernel
theorem dX11_groupOf_10 : decode cX11_groupOf 10 = .ok (.iload 5, 2) := by decide +kernel
theorem dX11_groupOf_12 : decode cX11_groupOf 12 = .ok (.aload_n 0, 1) := by decide +kernel
theorem dX11_groupOf_13 : decode cX11_groupOf 13 = .ok (.getfield 19, 3) := by decide +kernel
theorem dX11_groupOf_16 : decode cX11_groupOf 16 = .ok (.getfield 155, 3) := by decide +kernel
theorem dX11_groupOf_19 : decode cX11_groupOf 19 = .ok (.if_icmp .ge 45, 3) := by decide +kernel
theorem dX11_groupOf_22 : decode cX11_groupOf 22 = .ok (.iload 4, 2) := by decide +kernel
theorem dX11_groupOf_24 : decode cX11_groupOf 24 = .ok (.iload_n 3, 1) := by decide +kernel
theorem dX11_groupOf_25 : decode cX11_groupOf 25 = .ok (.if_icmp .eq 39, 3) := by decide +kernel
theorem dX11_groupOf_28 : decode cX11_groupOf 28 = .ok (.iload_n 3, 1) := by decide +kernel
theorem dX11_groupOf_29 : decode cX11_groupOf 29 = .ok (.iload 4, 2) := by decide +kernel
theorem dX11_groupOf_31 : decode cX11_groupOf 31 = .ok (.iconst (-1), 1) := by decide +kernel
theorem dX11_groupOf_32 : decode cX11_groupOf 32 = .ok (.ixor, 1) := by decide +kernel
theorem dX11_groupOf_33 : decode cX11_groupOf 33 = .ok (.iand, 1) := by decide +kernel
theorem dX11_groupOf_34 : decode cX11_groupOf 34 = .ok (.invokestatic 307, 3) := by decide +kernel
theorem dX11_groupOf_37 : decode cX11_groupOf 37 = .ok (.istore 6, 2) := by decide +kernel
theorem dX11_groupOf_39 : decode cX11_groupOf 39 = .ok (.iload 4, 2) := by decide +kernel
theorem dX11_groupOf_41 : decode cX11_groupOf 41 = .ok (.iconst 1, 1) := by decide +kernel
theorem dX11_groupOf_42 : decode cX11_groupOf 42 = .ok (.iload 6, 2) := by decide +kernel
theorem dX11_groupOf_44 : decode cX11_groupOf 44 = .ok (.ishl, 1) := by decide +kernel
theorem dX11_groupOf_45 : decode cX11_groupOf 45 = .ok (.ior, 1) := by decide +kernel
theorem dX11_groupOf_46 : decode cX11_groupOf 46 = .ok (.istore 4, 2) := by decide +kernel
theorem dX11_groupOf_48 : decode cX11_groupOf 48 = .ok (.iload_n 3, 1) := by decide +kernel
theorem dX11_groupOf_49 : decode cX11_groupOf 49 = .ok (.aload_n 0, 1) := by decide +kernel
theorem dX11_groupOf_50 : decode cX11_groupOf 50 = .ok (.iload 6, 2) := by decide +kernel
theorem dX11_groupOf_52 : decode cX11_groupOf 52 = .ok (.iload_n 2, 1) := by decide +kernel
theorem dX11_groupOf_53 : decode cX11_groupOf 53 = .ok (.invokevirtual 310, 3) := by decide +kernel
theorem dX11_groupOf_56 : decode cX11_groupOf 56 = .ok (.ior, 1) := by decide +kernel
theorem dX11_groupOf_57 : decode cX11_groupOf 57 = .ok (.istore_n 3, 1) := by decide +kernel
theorem dX11_groupOf_58 : decode cX11_groupOf 58 = .ok (.iinc 5 1, 3) := by decide +kernel
theorem dX11_groupOf_61 : decode cX11_groupOf 61 = .ok (.goto (-51), 3) := by decide +kernel
theorem dX11_groupOf_64 : decode cX11_groupOf 64 = .ok (.iload_n 3, 1) := by decide +kernel
theorem dX11_groupOf_65 : decode cX11_groupOf 65 = .ok (.ireturn, 1) := by decide +kernel
theorem dX11_nearTo_0 : decode cX11_nearTo 0 = .ok (.iconst 0, 1) := by decide +kernel
theorem dX11_nearTo_1 : decode cX11_nearTo 1 = .ok (.istore_n 3, 1) := by decide +kernel
theorem dX11_nearTo_2 : decode cX11_nearTo 2 = .ok (.iconst 0, 1) := by decide +kernel
theorem dX11_nearTo_3 : decode cX11_nearTo 3 = .ok (.istore 4, 2) := by decide +kernel
theorem dX11_nearTo_5 : decode cX11_nearTo 5 = .ok (.iload 4, 2) := by decide +kernel
theorem dX11_nearTo_7 : decode cX11_nearTo 7 = .ok (.aload_n 0, 1) := by decide +kernel
theorem dX11_nearTo_8 : decode cX11_nearTo 8 = .ok (.getfield 19, 3) := by decide +kernel
theorem dX11_nearTo_11 : decode cX11_nearTo 11 = .ok (.getfield 155, 3) := by decide +kernel
theorem dX11_nearTo_14 : decode cX11_nearTo 14 = .ok (.if_icmp .ge 42, 3) := by decide +kernel
theorem dX11_nearTo_17 : decode cX11_nearTo 17 = .ok (.aload_n 0, 1) := by decide +kernel
theorem dX11_nearTo_18 : decode cX11_nearTo 18 = .ok (.getfield 49, 3) := by decide +kernel
theorem dX11_nearTo_21 : decode cX11_nearTo 21 = .ok (.getfield 163, 3) := by decide +kernel
theorem dX11_nearTo_24 : decode cX11_nearTo 24 = .ok (.iload_n 1, 1) := by decide +kernel
theorem dX11_nearTo_25 : decode cX11_nearTo 25 = .ok (.iaload, 1) := by decide +kernel
theorem dX11_nearTo_26 : decode cX11_nearTo 26 = .ok (.aload_n 0, 1) := by decide +kernel
theorem dX11_nearTo_27 : decode cX11_nearTo 27 = .ok (.getfield 49, 3) := by decide +kernel
theorem dX11_nearTo_30 : decode cX11_nearTo 30 = .ok (.getfield 163, 3) := by decide +kernel
theorem dX11_nearTo_33 : decode cX11_nearTo 33 = .ok (.iload 4, 2) := by decide +kernel
theorem dX11_nearTo_35 : decode cX11_nearTo 35 = .ok (.iaload, 1) := by decide +kernel
theorem dX11_nearTo_36 : decode cX11_nearTo 36 = .ok (.invokestatic 210, 3) := by decide +kernel
theorem dX11_nearTo_39 : decode cX11_nearTo 39 = .ok (.iload_n 2, 1) := by decide +kernel
theorem dX11_nearTo_40 : decode cX11_nearTo 40 = .ok (.if_icmp .gt 10, 3) := by decide +kernel
theorem dX11_nearTo_43 : decode cX11_nearTo 43 = .ok (.iload_n 3, 1) := by decide +kernel
theorem dX11_nearTo_44 : decode cX11_nearTo 44 = .ok (.iconst 1, 1) := by decide +kernel
theorem dX11_nearTo_45 : decode cX11_nearTo 45 = .ok (.iload 4, 2) := by decide +kernel
theorem dX11_nearTo_47 : decode cX11_nearTo 47 = .ok (.ishl, 1) := by decide +kernel
theorem dX11_nearTo_48 : decode cX11_nearTo 48 = .ok (.ior, 1) := by decide +kernel
theorem dX11_nearTo_49 : decode cX11_nearTo 49 = .ok (.istore_n 3, 1) := by decide +kernel
theorem dX11_nearTo_50 : decode cX11_nearTo 50 = .ok (.iinc 4 1, 3) := by decide +kernel
theorem dX11_nearTo_53 : decode cX11_nearTo 53 = .ok (.goto (-48), 3) := by decide +kernel
theorem dX11_nearTo_56 : decode cX11_nearTo 56 = .ok (.iload_n 3, 1) := by decide +kernel
theorem dX11_nearTo_57 : decode cX11_nearTo 57 = .ok (.ireturn, 1) := by decide +kernel
theorem dX11_isSpan_0 : decode cX11_isSpan 0 = .ok (.iload_n 0, 1) := by decide +kernel
theorem dX11_isSpan_1 : decode cX11_isSpan 1 = .ok (.iconst 1, 1) := by decide +kernel
theorem dX11_isSpan_2 : decode cX11_isSpan 2 = .ok (.if_icmp .lt 13, 3) := by decide +kernel
theorem dX11_isSpan_5 : decode cX11_isSpan 5 = .ok (.iload_n 0, 1) := by decide +kernel
theorem dX11_isSpan_6 : decode cX11_isSpan 6 = .ok (.bipush 100, 2) := by decide +kernel
theorem dX11_isSpan_8 : decode cX11_isSpan 8 = .ok (.if_icmp .gt 7, 3) := by decide +kernel
theorem dX11_isSpan_11 : decode cX11_isSpan 11 = .ok (.iconst 1, 1) := by decide +kernel
theorem dX11_isSpan_12 : decode cX11_isSpan 12 = .ok (.goto 4, 3) := by decide +kernel
theorem dX11_isSpan_15 : decode cX11_isSpan 15 = .ok (.iconst 0, 1) := by decide +kernel
theorem dX11_isSpan_16 : decode cX11_isSpan 16 = .ok (.ireturn, 1) := by decide +kernel
theorem dX11_isAcross_0 : decode cX11_isAcross 0 = .ok (.iload_n 0, 1) := by decide +kernel
theorem dX11_isAcross_1 : decode cX11_isAcross 1 = .ok (.ifCond .lt 13, 3) := by decide +kernel
theorem dX11_isAcross_4 : decode cX11_isAcross 4 = .ok (.iload_n 0, 1) := by decide +kernel
theorem dX11_isAcross_5 : decode cX11_isAcross 5 = .ok (.bipush 24, 2) := by decide +kernel
theorem dX11_isAcross_7 : decode cX11_isAcross 7 = .ok (.if_icmp .ge 7, 3) := by decide +kernel
theorem dX11_isAcross_10 : decode cX11_isAcross 10 = .ok (.iconst 1, 1) := by decide +kernel
theorem dX11_isAcross_11 : decode cX11_isAcross 11 = .ok (.goto 4, 3) := by decide +kernel
theorem dX11_isAcross_14 : decode cX11_isAcross 14 = .ok (.iconst 0, 1) := by decide +kernel
theorem dX11_isAcross_15 : decode cX11_isAcross 15 = .ok (.ireturn, 1) := by decide +kernel
theorem dX11_isAlong_0 : decode cX11_isAlong 0 = .ok (.iload_n 0, 1) := by decide +kernel
theorem dX11_isAlong_1 : decode cX11_isAlong 1 = .ok (.ifCond .lt 13, 3) := by decide +kernel
theorem dX11_isAlong_4 : decode cX11_isAlong 4 = .ok (.iload_n 0, 1) := by decide +kernel
theorem dX11_isAlong_5 : decode cX11_isAlong 5 = .ok (.bipush 16, 2) := by decide +kernel
theorem dX11_isAlong_7 : decode cX11_isAlong 7 = .ok (.if_icmp .ge 7, 3) := by decide +kernel
theorem dX11_isAlong_10 : decode cX11_isAlong 10 = .ok (.iconst 1, 1) := by decide +kernel
theorem dX11_isAlong_11 : decode cX11_isAlong 11 = .ok (.goto 4, 3) := by decide +kernel
theorem dX11_isAlong_14 : decode cX11_isAlong 14 = .ok (.iconst 0, 1) := by decide +kernel
theorem dX11_isAlong_15 : decode cX11_isAlong 15 = .ok (.ireturn, 1) := by decide +kernel
theorem dX11_isDigit_0 : decode cX11_isDigit 0 = .ok (.iload_n 0, 1) := by decide +kernel
theorem dX11_isDigit_1 : decode cX11_isDigit 1 = .ok (.bipush 48, 2) := by decide +kernel
theorem dX11_isDigit_3 : decode cX11_isDigit 3 = .ok (.if_icmp .lt 13, 3) := by decide +kernel
theorem dX11_isDigit_6 : decode cX11_isDigit 6 = .ok (.iload_n 0, 1) := by decide +kernel
theorem dX11_isDigit_7 : decode cX11_isDigit 7 = .ok (.bipush 57, 2) := by decide +kernel
theorem dX11_isDigit_9 : decode cX11_isDigit 9 = .ok (.if_icmp .gt 7, 3) := by decide +kernel
theorem dX11_isDigit_12 : decode cX11_isDigit 12 = .ok (.iconst 1, 1) := by decide +kernel
theorem dX11_isDigit_13 : decode cX11_isDigit 13 = .ok (.goto 4, 3) := by decide +kernel
theorem dX11_isDigit_16 : decode cX11_isDigit 16 = .ok (.iconst 0, 1) := by decide +kernel
theorem dX11_isDigit_17 : decode cX11_isDigit 17 = .ok (.ireturn, 1) := by decide +kernel
theorem dX11_steps_0 : decode cX11_steps 0 = .ok (.iload_n 0, 1) := by decide +kernel
theorem dX11_steps_1 : decode cX11_steps 1 = .ok (.bipush 24, 2) := by decide +kernel
theorem dX11_steps_3 : decode cX11_steps 3 = .ok (.irem, 1) := by decide +kernel
theorem dX11_steps_4 : decode cX11_steps 4 = .ok (.iload_n 1, 1) := by decide +kernel
theorem dX11_steps_5 : decode cX11_steps 5 = .ok (.bipush 24, 2) := by decide +kernel
theorem dX11_steps_7 : decode cX11_steps 7 = .ok (.irem, 1) := by decide +kernel
theorem dX11_steps_8 : decode cX11_steps 8 = .ok (.isub, 1) := by decide +kernel
theorem dX11_steps_9 : decode cX11_steps 9 = .ok (.invokestatic 313, 3) := by decide +kernel
theorem dX11_steps_12 : decode cX11_steps 12 = .ok (.iload_n 0, 1) := by decide +kernel
theorem dX11_steps_13 : decode cX11_steps 13 = .ok (.bipush 24, 2) := by decide +kernel
theorem dX11_steps_15 : decode cX11_steps 15 = .ok (.idiv, 1) := by decide +kernel
theorem dX11_steps_16 : decode cX11_steps 16 = .ok (.iload_n 1, 1) := by decide +kernel
theorem dX11_steps_17 : decode cX11_steps 17 = .ok (.bipush 24, 2) := by decide +kernel
theorem dX11_steps_19 : decode cX11_steps 19 = .ok (.idiv, 1) := by decide +kernel
theorem dX11_steps_20 : decode cX11_steps 20 = .ok (.isub, 1) := by decide +kernel
theorem dX11_steps_21 : decode cX11_steps 21 = .ok (.invokestatic 313, 3) := by decide +kernel
theorem dX11_steps_24 : decode cX11_steps 24 = .ok (.iadd, 1) := by decide +kernel
theorem dX11_steps_25 : decode cX11_steps 25 = .ok (.ireturn, 1) := by decide +kernel
theorem dX11_side_0 : decode cX11_side 0 = .ok (.iload_n 1, 1) := by decide +kernel
theorem dX11_side_1 : decode cX11_side 1 = .ok (.bipush 24, 2) := by decide +kernel
theorem dX11_side_3 : decode cX11_side 3 = .ok (.irem, 1) := by decide +kernel
theorem dX11_side_4 : decode cX11_side 4 = .ok (.iload_n 0, 1) := by decide +kernel
theorem dX11_side_5 : decode cX11_side 5 = .ok (.bipush 24, 2) := by decide +kernel
theorem dX11_side_7 : decode cX11_side 7 = .ok (.irem, 1) := by decide +kernel
theorem dX11_side_8 : decode cX11_side 8 = .ok (.isub, 1) := by decide +kernel
theorem dX11_side_9 : decode cX11_side 9 = .ok (.istore_n 3, 1) := by decide +kernel
theorem dX11_side_10 : decode cX11_side 10 = .ok (.iload_n 1, 1) := by decide +kernel
theorem dX11_side_11 : decode cX11_side 11 = .ok (.bipush 24, 2) := by decide +kernel
theorem dX11_side_13 : decode cX11_side 13 = .ok (.idiv, 1) := by decide +kernel
theorem dX11_side_14 : decode cX11_side 14 = .ok (.iload_n 0, 1) := by decide +kernel
theorem dX11_side_15 : decode cX11_side 15 = .ok (.bipush 24, 2) := by decide +kernel
theorem dX11_side_17 : decode cX11_side 17 = .ok (.idiv, 1) := by decide +kernel
theorem dX11_side_18 : decode cX11_side 18 = .ok (.isub, 1) := by decide +kernel
theorem dX11_side_19 : decode cX11_side 19 = .ok (.istore 4, 2) := by decide +kernel
theorem dX11_side_21 : decode cX11_side 21 = .ok (.iload_n 3, 1) := by decide +kernel
theorem dX11_side_22 : decode cX11_side 22 = .ok (.iload_n 2, 1) := by decide +kernel
theorem dX11_side_23 : decode cX11_side 23 = .ok (.bipush 24, 2) := by decide +kernel
theorem dX11_side_25 : decode cX11_side 25 = .ok (.idiv, 1) := by decide +kernel
theorem dX11_side_26 : decode cX11_side 26 = .ok (.iload_n 0, 1) := by decide +kernel
theorem dX11_side_27 : decode cX11_side 27 = .ok (.bipush 24, 2) := by decide +kernel
theorem dX11_side_29 : decode cX11_side 29 = .ok (.idiv, 1) := by decide +kernel
theorem dX11_side_30 : decode cX11_side 30 = .ok (.isub, 1) := by decide +kernel
theorem dX11_side_31 : decode cX11_side 31 = .ok (.imul, 1) := by decide +kernel
theorem dX11_side_32 : decode cX11_side 32 = .ok (.iload 4, 2) := by decide +kernel
theorem dX11_side_34 : decode cX11_side 34 = .ok (.iload_n 2, 1) := by decide +kernel
theorem dX11_side_35 : decode cX11_side 35 = .ok (.bipush 24, 2) := by decide +kernel
theorem dX11_side_37 : decode cX11_side 37 = .ok (.irem, 1) := by decide +kernel
theorem dX11_side_38 : decode cX11_side 38 = .ok (.iload_n 0, 1) := by decide +kernel
theorem dX11_side_39 : decode cX11_side 39 = .ok (.bipush 24, 2) := by decide +kernel
theorem dX11_side_41 : decode cX11_side 41 = .ok (.irem, 1) := by decide +kernel
theorem dX11_side_42 : decode cX11_side 42 = .ok (.isub, 1) := by decide +kernel
theorem dX11_side_43 : decode cX11_side 43 = .ok (.imul, 1) := by decide +kernel
theorem dX11_side_44 : decode cX11_side 44 = .ok (.isub, 1) := by decide +kernel
theorem dX11_side_45 : decode cX11_side 45 = .ok (.ireturn, 1) := by decide +kernel
theorem dX11_isOnWay_0 : decode cX11_isOnWay 0 = .ok (.iload_n 0, 1) := by decide +kernel
theorem dX11_isOnWay_1 : decode cX11_isOnWay 1 = .ok (.iload_n 1, 1) := by decide +kernel
theorem dX11_isOnWay_2 : decode cX11_isOnWay 2 = .ok (.iload_n 2, 1) := by decide +kernel
theorem dX11_isOnWay_3 : decode cX11_isOnWay 3 = .ok (.invokestatic 316, 3) := by decide +kernel
theorem dX11_isOnWay_6 : decode cX11_isOnWay 6 = .ok (.ifCond .ne 26, 3) := by decide +kernel
theorem dX11_isOnWay_9 : decode cX11_isOnWay 9 = .ok (.iload_n 0, 1) := by decide +kernel
theorem dX11_isOnWay_10 : decode cX11_isOnWay 10 = .ok (.iload_n 2, 1) := by decide +kernel
theorem dX11_isOnWay_11 : decode cX11_isOnWay 11 = .ok (.invokestatic 210, 3) := by decide +kernel
theorem dX11_isOnWay_14 : decode cX11_isOnWay 14 = .ok (.iload_n 2, 1) := by decide +kernel
theorem dX11_isOnWay_15 : decode cX11_isOnWay 15 = .ok (.iload_n 1, 1) := by decide +kernel
theorem dX11_isOnWay_16 : decode cX11_isOnWay 16 = .ok (.invokestatic 210, 3) := by decide +kernel
theorem dX11_isOnWay_19 : decode cX11_isOnWay 19 = .ok (.iadd, 1) := by decide +kernel
theorem dX11_isOnWay_20 : decode cX11_isOnWay 20 = .ok (.iload_n 0, 1) := by decide +kernel
theorem dX11_isOnWay_21 : decode cX11_isOnWay 21 = .ok (.iload_n 1, 1) := by decide +kernel
theorem dX11_isOnWay_22 : decode cX11_isOnWay 22 = .ok (.invokestatic 210, 3) := by decide +kernel
theorem dX11_isOnWay_25 : decode cX11_isOnWay 25 = .ok (.if_icmp .ne 7, 3) := by decide +kernel
theorem dX11_isOnWay_28 : decode cX11_isOnWay 28 = .ok (.iconst 1, 1) := by decide +kernel
theorem dX11_isOnWay_29 : decode cX11_isOnWay 29 = .ok (.goto 4, 3) := by decide +kernel
theorem dX11_isOnWay_32 : decode cX11_isOnWay 32 = .ok (.iconst 0, 1) := by decide +kernel
theorem dX11_isOnWay_33 : decode cX11_isOnWay 33 = .ok (.ireturn, 1) := by decide +kernel
theorem dX11_doCross_0 : decode cX11_doCross 0 = .ok (.iload_n 0, 1) := by decide +kernel
theorem dX11_doCross_1 : decode cX11_doCross 1 = .ok (.iload_n 1, 1) := by decide +kernel
theorem dX11_doCross_2 : decode cX11_doCross 2 = .ok (.iload_n 2, 1) := by decide +kernel
theorem dX11_doCross_3 : decode cX11_doCross 3 = .ok (.invokestatic 316, 3) := by decide +kernel
theorem dX11_doCross_6 : decode cX11_doCross 6 = .ok (.invokestatic 320, 3) := by decide +kernel
theorem dX11_doCross_9 : decode cX11_doCross 9 = .ok (.iload_n 0, 1) := by decide +kernel
theorem dX11_doCross_10 : decode cX11_doCross 10 = .ok (.iload_n 1, 1) := by decide +kernel
theorem dX11_doCross_11 : decode cX11_doCross 11 = .ok (.iload_n 3, 1) := by decide +kernel
theorem dX11_doCross_12 : decode cX11_doCross 12 = .ok (.invokestatic 316, 3) := by decide +kernel
theorem dX11_doCross_15 : decode cX11_doCross 15 = .ok (.invokestatic 320, 3) := by decide +kernel
theorem dX11_doCross_18 : decode cX11_doCross 18 = .ok (.imul, 1) := by decide +kernel
theorem dX11_doCross_19 : decode cX11_doCross 19 = .ok (.ifCond .ge 7, 3) := by decide +kernel
theorem dX11_doCross_22 : decode cX11_doCross 22 = .ok (.iconst 1, 1) := by decide +kernel
theorem dX11_doCross_23 : decode cX11_doCross 23 = .ok (.goto 4, 3) := by decide +kernel
theorem dX11_doCross_26 : decode cX11_doCross 26 = .ok (.iconst 0, 1) := by decide +kernel
theorem dX11_doCross_27 : decode cX11_doCross 27 = .ok (.istore 4, 2) := by decide +kernel
theorem dX11_doCross_29 : decode cX11_doCross 29 = .ok (.iload_n 2, 1) := by decide +kernel
theorem dX11_doCross_30 : decode cX11_doCross 30 = .ok (.iload_n 3, 1) := by decide +kernel
theorem dX11_doCross_31 : decode cX11_doCross 31 = .ok (.iload_n 0, 1) := by decide +kernel
theorem dX11_doCross_32 : decode cX11_doCross 32 = .ok (.invokestatic 316, 3) := by decide +kernel
theorem dX11_doCross_35 : decode cX11_doCross 35 = .ok (.invokestatic 320, 3) := by decide +kernel
theorem dX11_doCross_38 : decode cX11_doCross 38 = .ok (.iload_n 2, 1) := by decide +kernel
theorem dX11_doCross_39 : decode cX11_doCross 39 = .ok (.iload_n 3, 1) := by decide +kernel
theorem dX11_doCross_40 : decode cX11_doCross 40 = .ok (.iload_n 1, 1) := by decide +kernel
theorem dX11_doCross_41 : decode cX11_doCross 41 = .ok (.invokestatic 316, 3) := by decide +kernel
theorem dX11_doCross_44 : decode cX11_doCross 44 = .ok (.invokestatic 320, 3) := by decide +kernel
theorem dX11_doCross_47 : decode cX11_doCross 47 = .ok (.imul, 1) := by decide +kernel
theorem dX11_doCross_48 : decode cX11_doCross 48 = .ok (.ifCond .ge 7, 3) := by decide +kernel
theorem dX11_doCross_51 : decode cX11_doCross 51 = .ok (.iconst 1, 1) := by decide +kernel
theorem dX11_doCross_52 : decode cX11_doCross 52 = .ok (.goto 4, 3) := by decide +kernel
theorem dX11_doCross_55 : decode cX11_doCross 55 = .ok (.iconst 0, 1) := by decide +kernel
theorem dX11_doCross_56 : decode cX11_doCross 56 = .ok (.istore 5, 2) := by decide +kernel
theorem dX11_doCross_58 : decode cX11_doCross 58 = .ok (.iload 4, 2) := by decide +kernel
theorem dX11_doCross_60 : decode cX11_doCross 60 = .ok (.ifCond .eq 8, 3) := by decide +kernel
theorem dX11_doCross_63 : decode cX11_doCross 63 = .ok (.iload 5, 2) := by decide +kernel
theorem dX11_doCross_65 : decode cX11_doCross 65 = .ok (.ifCond .ne 39, 3) := by decide +kernel
theorem dX11_doCross_68 : decode cX11_doCross 68 = .ok (.iload_n 0, 1) := by decide +kernel
theorem dX11_doCross_69 : decode cX11_doCross 69 = .ok (.iload_n 1, 1) := by decide +kernel
theorem dX11_doCross_70 : decode cX11_doCross 70 = .ok (.iload_n 2, 1) := by decide +kernel
theorem dX11_doCross_71 : decode cX11_doCross 71 = .ok (.invokestatic 323, 3) := by decide +kernel
theorem dX11_doCross_74 : decode cX11_doCross 74 = .ok (.ifCond .ne 30, 3) := by decide +kernel
theorem dX11_doCross_77 : decode cX11_doCross 77 = .ok (.iload_n 0, 1) := by decide +kernel
theorem dX11_doCross_78 : decode cX11_doCross 78 = .ok (.iload_n 1, 1) := by decide +kernel
theorem dX11_doCross_79 : decode cX11_doCross 79 = .ok (.iload_n 3, 1) := by decide +kernel
theorem dX11_doCross_80 : decode cX11_doCross 80 = .ok (.invokestatic 323, 3) := by decide +kernel
theorem dX11_doCross_83 : decode cX11_doCross 83 = .ok (.ifCond .ne 21, 3) := by decide +kernel
theorem dX11_doCross_86 : decode cX11_doCross 86 = .ok (.iload_n 2, 1) := by decide +kernel
theorem dX11_doCross_87 : decode cX11_doCross 87 = .ok (.iload_n 3, 1) := by decide +kernel
theorem dX11_doCross_88 : decode cX11_doCross 88 = .ok (.iload_n 0, 1) := by decide +kernel
theorem dX11_doCross_89 : decode cX11_doCross 89 = .ok (.invokestatic 323, 3) := by decide +kernel
theorem dX11_doCross_92 : decode cX11_doCross 92 = .ok (.ifCond .ne 12, 3) := by decide +kernel
theorem dX11_doCross_95 : decode cX11_doCross 95 = .ok (.iload_n 2, 1) := by decide +kernel
theorem dX11_doCross_96 : decode cX11_doCross 96 = .ok (.iload_n 3, 1) := by decide +kernel
theorem dX11_doCross_97 : decode cX11_doCross 97 = .ok (.iload_n 1, 1) := by decide +kernel
theorem dX11_doCross_98 : decode cX11_doCross 98 = .ok (.invokestatic 323, 3) := by decide +kernel
theorem dX11_doCross_101 : decode cX11_doCross 101 = .ok (.ifCond .eq 7, 3) := by decide +kernel
theorem dX11_doCross_104 : decode cX11_doCross 104 = .ok (.iconst 1, 1) := by decide +kernel
theorem dX11_doCross_105 : decode cX11_doCross 105 = .ok (.goto 4, 3) := by decide +kernel
theorem dX11_doCross_108 : decode cX11_doCross 108 = .ok (.iconst 0, 1) := by decide +kernel
theorem dX11_doCross_109 : decode cX11_doCross 109 = .ok (.ireturn, 1) := by decide +kernel
theorem dX12_init_0 : decode cX12_init 0 = .ok (.aload_n 0, 1) := by decide +kernel
theorem dX12_init_1 : decode cX12_init 1 = .ok (.invokespecial 1, 3) := by decide +kernel
theorem dX12_init_4 : decode cX12_init 4 = .ok (.aload_n 0, 1) := by decide +kernel
theorem dX12_init_5 : decode cX12_init 5 = .ok (.bipush 82, 2) := by decide +kernel
theorem dX12_init_7 : decode cX12_init 7 = .ok (.newarray .int, 2) := by decide +kernel
theorem dX12_init_9 : decode cX12_init 9 = .ok (.putfield 7, 3) := by decide +kernel
theorem dX12_init_12 : decode cX12_init 12 = .ok (.aload_n 0, 1) := by decide +kernel
theorem dX12_init_13 : decode cX12_init 13 = .ok (.bipush 82, 2) := by decide +kernel
theorem dX12_init_15 : decode cX12_init 15 = .ok (.newarray .int, 2) := by decide +kernel
theorem dX12_init_17 : decode cX12_init 17 = .ok (.putfield 13, 3) := by decide +kernel
theorem dX12_init_20 : decode cX12_init 20 = .ok (.aload_n 0, 1) := by decide +kernel
theorem dX12_init_21 : decode cX12_init 21 = .ok (.bipush 82, 2) := by decide +kernel
theorem dX12_init_23 : decode cX12_init 23 = .ok (.newarray .int, 2) := by decide +kernel
theorem dX12_init_25 : decode cX12_init 25 = .ok (.putfield 16, 3) := by decide +kernel
theorem dX12_init_28 : decode cX12_init 28 = .ok (.aload_n 0, 1) := by decide +kernel
theorem dX12_init_29 : decode cX12_init 29 = .ok (.bipush 16, 2) := by decide +kernel
theorem dX12_init_31 : decode cX12_init 31 = .ok (.newarray .int, 2) := by decide +kernel
theorem dX12_init_33 : decode cX12_init 33 = .ok (.putfield 19, 3) := by decide +kernel
theorem dX12_init_36 : decode cX12_init 36 = .ok (.aload_n 0, 1) := by decide +kernel
theorem dX12_init_37 : decode cX12_init 37 = .ok (.bipush 16, 2) := by decide +kernel
theorem dX12_init_39 : decode cX12_init 39 = .ok (.newarray .int, 2) := by decide +kernel
theorem dX12_init_41 : decode cX12_init 41 = .ok (.putfield 22, 3) := by decide +kernel
theorem dX12_init_44 : decode cX12_init 44 = .ok (.aload_n 0, 1) := by decide +kernel
theorem dX12_init_45 : decode cX12_init 45 = .ok (.bipush 16, 2) := by decide +kernel
theorem dX12_init_47 : decode cX12_init 47 = .ok (.newarray .int, 2) := by decide +kernel
theorem dX12_init_49 : decode cX12_init 49 = .ok (.putfield 25, 3) := by decide +kernel
theorem dX12_init_52 : decode cX12_init 52 = .ok (.aload_n 0, 1) := by decide +kernel
theorem dX12_init_53 : decode cX12_init 53 = .ok (.bipush 16, 2) := by decide +kernel
theorem dX12_init_55 : decode cX12_init 55 = .ok (.newarray .int, 2) := by decide +kernel
theorem dX12_init_57 : decode cX12_init 57 = .ok (.putfield 28, 3) := by decide +kernel
theorem dX12_init_60 : decode cX12_init 60 = .ok (.aload_n 0, 1) := by decide +kernel
theorem dX12_init_61 : decode cX12_init 61 = .ok (.bipush 16, 2) := by decide +kernel
theorem dX12_init_63 : decode cX12_init 63 = .ok (.newarray .int, 2) := by decide +kernel
theorem dX12_init_65 : decode cX12_init 65 = .ok (.putfield 31, 3) := by decide +kernel
theorem dX12_init_68 : decode cX12_init 68 = .ok (.aload_n 0, 1) := by decide +kernel
theorem dX12_init_69 : decode cX12_init 69 = .ok (.bipush 16, 2) := by decide +kernel
theorem dX12_init_71 : decode cX12_init 71 = .ok (.newarray .int, 2) := by decide +kernel
theorem dX12_init_73 : decode cX12_init 73 = .ok (.putfield 34, 3) := by decide +kernel
theorem dX12_init_76 : decode cX12_init 76 = .ok (.aload_n 0, 1) := by decide +kernel
theorem dX12_init_77 : decode cX12_init 77 = .ok (.bipush 16, 2) := by decide +kernel
theorem dX12_init_79 : decode cX12_init 79 = .ok (.newarray .int, 2) := by decide +kernel
theorem dX12_init_81 : decode cX12_init 81 = .ok (.putfield 37, 3) := by decide +kernel
theorem dX12_init_84 : decode cX12_init 84 = .ok (.aload_n 0, 1) := by decide +kernel
theorem dX12_init_85 : decode cX12_init 85 = .ok (.bipush 16, 2) := by decide +kernel
theorem dX12_init_87 : decode cX12_init 87 = .ok (.newarray .int, 2) := by decide +kernel
theorem dX12_init_89 : decode cX12_init 89 = .ok (.putfield 40, 3) := by decide +kernel
theorem dX12_init_92 : decode cX12_init 92 = .ok (.aload_n 0, 1) := by decide +kernel
theorem dX12_init_93 : decode cX12_init 93 = .ok (.sipush 260, 3) := by decide +kernel
theorem dX12_init_96 : decode cX12_init 96 = .ok (.newarray .byte, 2) := by decide +kernel
theorem dX12_init_98 : decode cX12_init 98 = .ok (.putfield 43, 3) := by decide +kernel
theorem dX12_init_101 : decode cX12_init 101 = .ok (.aload_n 0, 1) := by decide +kernel
theorem dX12_init_102 : decode cX12_init 102 = .ok (.sipush 260, 3) := by decide +kernel
theorem dX12_init_105 : decode cX12_init 105 = .ok (.newarray .int, 2) := by decide +kernel
theorem dX12_init_107 : decode cX12_init 107 = .ok (.putfield 47, 3) := by decide +kernel
theorem dX12_init_110 : decode cX12_init 110 = .ok (.aload_n 0, 1) := by decide +kernel
theorem dX12_init_111 : decode cX12_init 111 = .ok (.sipush 260, 3) := by decide +kernel
theorem dX12_init_114 : decode cX12_init 114 = .ok (.newarray .int, 2) := by decide +kernel
theorem dX12_init_116 : decode cX12_init 116 = .ok (.putfield 50, 3) := by decide +kernel
theorem dX12_init_119 : decode cX12_init 119 = .ok (.aload_n 0, 1) := by decide +kernel
theorem dX12_init_120 : decode cX12_init 120 = .ok (.bipush 16, 2) := by decide +kernel
theorem dX12_init_122 : decode cX12_init 122 = .ok (.newarray .int, 2) := by decide +kernel
theorem dX12_init_124 : decode cX12_init 124 = .ok (.putfield 53, 3) := by decide +kernel
theorem dX12_init_127 : decode cX12_init 127 = .ok (.aload_n 0, 1) := by decide +kernel
theorem dX12_init_128 : decode cX12_init 128 = .ok (.bipush 16, 2) := by decide +kernel
theorem dX12_init_130 : decode cX12_init 130 = .ok (.newarray .int, 2) := by decide +kernel
theorem dX12_init_132 : decode cX12_init 132 = .ok (.putfield 56, 3) := by decide +kernel
theorem dX12_init_135 : decode cX12_init 135 = .ok (.aload_n 0, 1) := by decide +kernel
theorem dX12_init_136 : decode cX12_init 136 = .ok (.bipush 16, 2) := by decide +kernel
theorem dX12_init_138 : decode cX12_init 138 = .ok (.newarray .int, 2) := by decide +kernel
theorem dX12_init_140 : decode cX12_init 140 = .ok (.putfield 59, 3) := by decide +kernel
theorem dX12_init_143 : decode cX12_init 143 = .ok (.aload_n 0, 1) := by decide +kernel
theorem dX12_init_144 : decode cX12_init 144 = .ok (.bipush 16, 2) := by decide +kernel
theorem dX12_init_146 : decode cX12_init 146 = .ok (.newarray .int, 2) := by decide +kernel
theorem dX12_init_148 : decode cX12_init 148 = .ok (.putfield 62, 3) := by decide +kernel
theorem dX12_init_151 : decode cX12_init 151 = .ok (.aload_n 0, 1) := by decide +kernel
theorem dX12_init_152 : decode cX12_init 152 = .ok (.sipush 260, 3) := by decide +kernel
theorem dX12_init_155 : decode cX12_init 155 = .ok (.newarray .int, 2) := by decide +kernel
theorem dX12_init_157 : decode cX12_init 157 = .ok (.putfield 65, 3) := by decide +kernel
theorem dX12_init_160 : decode cX12_init 160 = .ok (.aload_n 0, 1) := by decide +kernel
theorem dX12_init_161 : decode cX12_init 161 = .ok (.bipush 16, 2) := by decide +kernel
theorem dX12_init_163 : decode cX12_init 163 = .ok (.newarray .int, 2) := by decide +kernel
theorem dX12_init_165 : decode cX12_init 165 = .ok (.putfield 68, 3) := by decide +kernel
theorem dX12_init_168 : decode cX12_init 168 = .ok (.aload_n 0, 1) := by decide +kernel
theorem dX12_init_169 : decode cX12_init 169 = .ok (.bipush 16, 2) := by decide +kernel
theorem dX12_init_171 : decode cX12_init 171 = .ok (.newarray .int, 2) := by decide +kernel
theorem dX12_init_173 : decode cX12_init 173 = .ok (.putfield 71, 3) := by decide +kernel
theorem dX12_init_176 : decode cX12_init 176 = .ok (.aload_n 0, 1) := by decide +kernel
theorem dX12_init_177 : decode cX12_init 177 = .ok (.bipush 16, 2) := by decide +kernel
theorem dX12_init_179 : decode cX12_init 179 = .ok (.newarray .int, 2) := by decide +kernel
theorem dX12_init_181 : decode cX12_init 181 = .ok (.putfield 74, 3) := by decide +kernel
theorem dX12_init_184 : decode cX12_init 184 = .ok (.aload_n 0, 1) := by decide +kernel
theorem dX12_init_185 : decode cX12_init 185 = .ok (.bipush 16, 2) := by decide +kernel
theorem dX12_init_187 : decode cX12_init 187 = .ok (.newarray .int, 2) := by decide +kernel
theorem dX12_init_189 : decode cX12_init 189 = .ok (.putfield 77, 3) := by decide +kernel
theorem dX12_init_192 : decode cX12_init 192 = .ok (.aload_n 0, 1) := by decide +kernel
theorem dX12_init_193 : decode cX12_init 193 = .ok (.sipush 260, 3) := by decide +kernel
theorem dX12_init_196 : decode cX12_init 196 = .ok (.newarray .int, 2) := by decide +kernel
theorem dX12_init_198 : decode cX12_init 198 = .ok (.putfield 80, 3) := by decide +kernel
theorem dX12_init_201 : decode cX12_init 201 = .ok (.aload_n 0, 1) := by decide +kernel
theorem dX12_init_202 : decode cX12_init 202 = .ok (.bipush 11, 2) := by decide +kernel
theorem dX12_init_204 : decode cX12_init 204 = .ok (.newarray .int, 2) := by decide +kernel
theorem dX12_init_206 : decode cX12_init 206 = .ok (.putfield 83, 3) := by decide +kernel
theorem dX12_init_209 : decode cX12_init 209 = .ok (.aload_n 0, 1) := by decide +kernel
theorem dX12_init_210 : decode cX12_init 210 = .ok (.bipush 16, 2) := by decide +kernel
theorem dX12_init_212 : decode cX12_init 212 = .ok (.newarray .int, 2) := by decide +kernel
theorem dX12_init_214 : decode cX12_init 214 = .ok (.putfield 86, 3) := by decide +kernel
theorem dX12_init_217 : decode cX12_init 217 = .ok (.aload_n 0, 1) := by decide +kernel
theorem dX12_init_218 : decode cX12_init 218 = .ok (.bipush 16, 2) := by decide +kernel
theorem dX12_init_220 : decode cX12_init 220 = .ok (.newarray .int, 2) := by decide +kernel
theorem dX12_init_222 : decode cX12_init 222 = .ok (.putfield 89, 3) := by decide +kernel
theorem dX12_init_225 : decode cX12_init 225 = .ok (.aload_n 0, 1) := by decide +kernel
theorem dX12_init_226 : decode cX12_init 226 = .ok (.bipush 16, 2) := by decide +kernel
theorem dX12_init_228 : decode cX12_init 228 = .ok (.newarray .int, 2) := by decide +kernel
theorem dX12_init_230 : decode cX12_init 230 = .ok (.putfield 92, 3) := by decide +kernel
theorem dX12_init_233 : decode cX12_init 233 = .ok (.aload_n 0, 1) := by decide +kernel
theorem dX12_init_234 : decode cX12_init 234 = .ok (.bipush 16, 2) := by decide +kernel
theorem dX12_init_236 : decode cX12_init 236 = .ok (.newarray .int, 2) := by decide +kernel
theorem dX12_init_238 : decode cX12_init 238 = .ok (.putfield 95, 3) := by decide +kernel
theorem dX12_init_241 : decode cX12_init 241 = .ok (.aload_n 0, 1) := by decide +kernel
theorem dX12_init_242 : decode cX12_init 242 = .ok (.bipush 16, 2) := by decide +kernel
theorem dX12_init_244 : decode cX12_init 244 = .ok (.newarray .int, 2) := by decide +kernel
theorem dX12_init_246 : decode cX12_init 246 = .ok (.putfield 98, 3) := by decide +kernel
theorem dX12_init_249 : decode cX12_init 249 = .ok (.aload_n 0, 1) := by decide +kernel
theorem dX12_init_250 : decode cX12_init 250 = .ok (.bipush 16, 2) := by decide +kernel
theorem dX12_init_252 : decode cX12_init 252 = .ok (.newarray .int, 2) := by decide +kernel
theorem dX12_init_254 : decode cX12_init 254 = .ok (.putfield 101, 3) := by decide +kernel
theorem dX12_init_257 : decode cX12_init 257 = .ok (.aload_n 0, 1) := by decide +kernel
theorem dX12_init_258 : decode cX12_init 258 = .ok (.bipush 16, 2) := by decide +kernel
theorem dX12_init_260 : decode cX12_init 260 = .ok (.newarray .int, 2) := by decide +kernel
theorem dX12_init_262 : decode cX12_init 262 = .ok (.putfield 104, 3) := by decide +kernel
theorem dX12_init_265 : decode cX12_init 265 = .ok (.aload_n 0, 1) := by decide +kernel
theorem dX12_init_266 : decode cX12_init 266 = .ok (.bipush 32, 2) := by decide +kernel
theorem dX12_init_268 : decode cX12_init 268 = .ok (.newarray .int, 2) := by decide +kernel
theorem dX12_init_270 : decode cX12_init 270 = .ok (.putfield 107, 3) := by decide +kernel
theorem dX12_init_273 : decode cX12_init 273 = .ok (.aload_n 0, 1) := by decide +kernel
theorem dX12_init_274 : decode cX12_init 274 = .ok (.bipush 34, 2) := by decide +kernel
theorem dX12_init_276 : decode cX12_init 276 = .ok (.newarray .int, 2) := by decide +kernel
theorem dX12_init_278 : decode cX12_init 278 = .ok (.putfield 110, 3) := by decide +kernel
theorem dX12_init_281 : decode cX12_init 281 = .ok (.aload_n 0, 1) := by decide +kernel
theorem dX12_init_282 : decode cX12_init 282 = .ok (.bipush 32, 2) := by decide +kernel
theorem dX12_init_284 : decode cX12_init 284 = .ok (.newarray .int, 2) := by decide +kernel
theorem dX12_init_286 : decode cX12_init 286 = .ok (.putfield 113, 3) := by decide +kernel
theorem dX12_init_289 : decode cX12_init 289 = .ok (.aload_n 0, 1) := by decide +kernel
theorem dX12_init_290 : decode cX12_init 290 = .ok (.sipush 4608, 3) := by decide +kernel
theorem dX12_init_293 : decode cX12_init 293 = .ok (.newarray .int, 2) := by decide +kernel
theorem dX12_init_295 : decode cX12_init 295 = .ok (.putfield 116, 3) := by decide +kernel
theorem dX12_init_298 : decode cX12_init 298 = .ok (.aload_n 0, 1) := by decide +kernel
theorem dX12_init_299 : decode cX12_init 299 = .ok (.bipush 9, 2) := by decide +kernel
theorem dX12_init_301 : decode cX12_init 301 = .ok (.newarray .int, 2) := by decide +kernel
theorem dX12_init_303 : decode cX12_init 303 = .ok (.putfield 119, 3) := by decide +kernel
theorem dX12_init_306 : decode cX12_init 306 = .ok (.aload_n 0, 1) := by decide +kernel
theorem dX12_init_307 : decode cX12_init 307 = .ok (.bipush 16, 2) := by decide +kernel
theorem dX12_init_309 : decode cX12_init 309 = .ok (.newarray .int, 2) := by decide +kernel
theorem dX12_init_311 : decode cX12_init 311 = .ok (.putfield 122, 3) := by decide +kernel
theorem dX12_init_314 : decode cX12_init 314 = .ok (.aload_n 0, 1) := by decide +kernel
theorem dX12_init_315 : decode cX12_init 315 = .ok (.sipush 128, 3) := by decide +kernel
theorem dX12_init_318 : decode cX12_init 318 = .ok (.newarray .int, 2) := by decide +kernel
theorem dX12_init_320 : decode cX12_init 320 = .ok (.putfield 125, 3) := by decide +kernel
theorem dX12_init_323 : decode cX12_init 323 = .ok (.aload_n 0, 1) := by decide +kernel
theorem dX12_init_324 : decode cX12_init 324 = .ok (.bipush 72, 2) := by decide +kernel
theorem dX12_init_326 : decode cX12_init 326 = .ok (.newarray .int, 2) := by decide +kernel
theorem dX12_init_328 : decode cX12_init 328 = .ok (.putfield 128, 3) := by decide +kernel
theorem dX12_init_331 : decode cX12_init 331 = .ok (.aload_n 0, 1) := by decide +kernel
theorem dX12_init_332 : decode cX12_init 332 = .ok (.bipush 72, 2) := by decide +kernel
theorem dX12_init_334 : decode cX12_init 334 = .ok (.newarray .int, 2) := by decide +kernel
theorem dX12_init_336 : decode cX12_init 336 = .ok (.putfield 131, 3) := by decide +kernel
theorem dX12_init_339 : decode cX12_init 339 = .ok (.aload_n 0, 1) := by decide +kernel
theorem dX12_init_340 : decode cX12_init 340 = .ok (.bipush 6, 2) := by decide +kernel
theorem dX12_init_342 : decode cX12_init 342 = .ok (.newarray .int, 2) := by decide +kernel
theorem dX12_init_344 : decode cX12_init 344 = .ok (.putfield 134, 3) := by decide +kernel
theorem dX12_init_347 : decode cX12_init 347 = .ok (.aload_n 0, 1) := by decide +kernel
theorem dX12_init_348 : decode cX12_init 348 = .ok (.bipush 6, 2) := by decide +kernel
theorem dX12_init_350 : decode cX12_init 350 = .ok (.newarray .int, 2) := by decide +kernel
theorem dX12_init_352 : decode cX12_init 352 = .ok (.putfield 137, 3) := by decide +kernel
theorem dX12_init_355 : decode cX12_init 355 = .ok (.aload_n 0, 1) := by decide +kernel
theorem dX12_init_356 : decode cX12_init 356 = .ok (.bipush 6, 2) := by decide +kernel
theorem dX12_init_358 : decode cX12_init 358 = .ok (.newarray .int, 2) := by decide +kernel
theorem dX12_init_360 : decode cX12_init 360 = .ok (.putfield 140, 3) := by decide +kernel
theorem dX12_init_363 : decode cX12_init 363 = .ok (.aload_n 0, 1) := by decide +kernel
theorem dX12_init_364 : decode cX12_init 364 = .ok (.bipush 6, 2) := by decide +kernel
theorem dX12_init_366 : decode cX12_init 366 = .ok (.newarray .int, 2) := by decide +kernel
theorem dX12_init_368 : decode cX12_init 368 = .ok (.putfield 143, 3) := by decide +kernel
theorem dX12_init_371 : decode cX12_init 371 = .ok (.aload_n 0, 1) := by decide +kernel
theorem dX12_init_372 : decode cX12_init 372 = .ok (.bipush 10, 2) := by decide +kernel
theorem dX12_init_374 : decode cX12_init 374 = .ok (.newarray .int, 2) := by decide +kernel
theorem dX12_init_376 : decode cX12_init 376 = .ok (.putfield 146, 3) := by decide +kernel
theorem dX12_init_379 : decode cX12_init 379 = .ok (.aload_n 0, 1) := by decide +kernel
theorem dX12_init_380 : decode cX12_init 380 = .ok (.sipush 1024, 3) := by decide +kernel
theorem dX12_init_383 : decode cX12_init 383 = .ok (.newarray .int, 2) := by decide +kernel
theorem dX12_init_385 : decode cX12_init 385 = .ok (.putfield 149, 3) := by decide +kernel
theorem dX12_init_388 : decode cX12_init 388 = .ok (.aload_n 0, 1) := by decide +kernel
theorem dX12_init_389 : decode cX12_init 389 = .ok (.getfield 7, 3) := by decide +kernel
theorem dX12_init_392 : decode cX12_init 392 = .ok (.bipush 81, 2) := by decide +kernel
theorem dX12_init_394 : decode cX12_init 394 = .ok (.iconst 1, 1) := by decide +kernel
theorem dX12_init_395 : decode cX12_init 395 = .ok (.iastore, 1) := by decide +kernel
theorem dX12_init_396 : decode cX12_init 396 = .ok (.return_, 1) := by decide +kernel
theorem dX12_in_0 : decode cX12_in 0 = .ok (.iload_n 0, 1) := by decide +kernel
theorem dX12_in_1 : decode cX12_in 1 = .ok (.iload_n 1, 1) := by decide +kernel
theorem dX12_in_2 : decode cX12_in 2 = .ok (.if_icmp .lt 12, 3) := by decide +kernel
theorem dX12_in_5 : decode cX12_in 5 = .ok (.iload_n 0, 1) := by decide +kernel
theorem dX12_in_6 : decode cX12_in 6 = .ok (.iload_n 2, 1) := by decide +kernel
theorem dX12_in_7 : decode cX12_in 7 = .ok (.if_icmp .gt 7, 3) := by decide +kernel
theorem dX12_in_10 : decode cX12_in 10 = .ok (.iconst 1, 1) := by decide +kernel
theorem dX12_in_11 : decode cX12_in 11 = .ok (.goto 4, 3) := by decide +kernel
theorem dX12_in_14 : decode cX12_in 14 = .ok (.iconst 0, 1) := by decide +kernel
theorem dX12_in_15 : decode cX12_in 15 = .ok (.ireturn, 1) := by decide +kernel
theorem dX12_min_0 : decode cX12_min 0 = .ok (.iload_n 0, 1) := by decide +kernel
theorem dX12_min_1 : decode cX12_min 1 = .ok (.iload_n 1, 1) := by decide +kernel
theorem dX12_min_2 : decode cX12_min 2 = .ok (.if_icmp .ge 7, 3) := by decide +kernel
theorem dX12_min_5 : decode cX12_min 5 = .ok (.iload_n 0, 1) := by decide +kernel
theorem dX12_min_6 : decode cX12_min 6 = .ok (.goto 4, 3) := by decide +kernel
theorem dX12_min_9 : decode cX12_min 9 = .ok (.iload_n 1, 1) := by decide +kernel
theorem dX12_min_10 : decode cX12_min 10 = .ok (.ireturn, 1) := by decide +kernel
theorem dX12_max_0 : decode cX12_max 0 = .ok (.iload_n 0, 1) := by decide +kernel
theorem dX12_max_1 : decode cX12_max 1 = .ok (.iload_n 1, 1) := by decide +kernel
theorem dX12_max_2 : decode cX12_max 2 = .ok (.if_icmp .le 7, 3) := by decide +kernel
theorem dX12_max_5 : decode cX12_max 5 = .ok (.iload_n 0, 1) := by decide +kernel
theorem dX12_max_6 : decode cX12_max 6 = .ok (.goto 4, 3) := by decide +kernel
theorem dX12_max_9 : decode cX12_max 9 = .ok (.iload_n 1, 1) := by decide +kernel
theorem dX12_max_10 : decode cX12_max 10 = .ok (.ireturn, 1) := by decide +kernel
theorem dX12_size_0 : decode cX12_size 0 = .ok (.iload_n 0, 1) := by decide +kernel
theorem dX12_size_1 : decode cX12_size 1 = .ok (.ifCond .ge 8, 3) := by decide +kernel
theorem dX12_size_4 : decode cX12_size 4 = .ok (.iload_n 0, 1) := by decide +kernel
theorem dX12_size_5 : decode cX12_size 5 = .ok (.ineg, 1) := by decide +kernel
theorem dX12_size_6 : decode cX12_size 6 = .ok (.goto 4, 3) := by decide +kernel
theorem dX12_size_9 : decode cX12_size 9 = .ok (.iload_n 0, 1) := by decide +kernel
theorem dX12_size_10 : decode cX12_size 10 = .ok (.ireturn, 1) := by decide +kernel
theorem dX12_has_0 : decode cX12_has 0 = .ok (.iload_n 0, 1) := by decide +kernel
theorem dX12_has_1 : decode cX12_has 1 = .ok (.iload_n 1, 1) := by decide +kernel
theorem dX12_has_2 : decode cX12_has 2 = .ok (.ishr, 1) := by decide +kernel
theorem dX12_has_3 : decode cX12_has 3 = .ok (.iconst 1, 1) := by decide +kernel
theorem dX12_has_4 : decode cX12_has 4 = .ok (.iand, 1) := by decide +kernel
theorem dX12_has_5 : decode cX12_has 5 = .ok (.iconst 1, 1) := by decide +kernel
theorem dX12_has_6 : decode cX12_has 6 = .ok (.if_icmp .ne 7, 3) := by decide +kernel
theorem dX12_has_9 : decode cX12_has 9 = .ok (.iconst 1, 1) := by decide +kernel
theorem dX12_has_10 : decode cX12_has 10 = .ok (.goto 4, 3) := by decide +kernel
theorem dX12_has_13 : decode cX12_has 13 = .ok (.iconst 0, 1) := by decide +kernel
theorem dX12_has_14 : decode cX12_has 14 = .ok (.ireturn, 1) := by decide +kernel
theorem dX12_bits_0 : decode cX12_bits 0 = .ok (.iconst 0, 1) := by decide +kernel
theorem dX12_bits_1 : decode cX12_bits 1 = .ok (.istore_n 1, 1) := by decide +kernel
theorem dX12_bits_2 : decode cX12_bits 2 = .ok (.iconst 0, 1) := by decide +kernel
theorem dX12_bits_3 : decode cX12_bits 3 = .ok (.istore_n 2, 1) := by decide +kernel
theorem dX12_bits_4 : decode cX12_bits 4 = .ok (.iload_n 2, 1) := by decide +kernel
theorem dX12_bits_5 : decode cX12_bits 5 = .ok (.bipush 16, 2) := by decide +kernel
theorem dX12_bits_7 : decode cX12_bits 7 = .ok (.if_icmp .ge 17, 3) := by decide +kernel
theorem dX12_bits_10 : decode cX12_bits 10 = .ok (.iload_n 1, 1) := by decide +kernel
theorem dX12_bits_11 : decode cX12_bits 11 = .ok (.iload_n 0, 1) := by decide +kernel
theorem dX12_bits_12 : decode cX12_bits 12 = .ok (.iload_n 2, 1) := by decide +kernel
theorem dX12_bits_13 : decode cX12_bits 13 = .ok (.ishr, 1) := by decide +kernel
theorem dX12_bits_14 : decode cX12_bits 14 = .ok (.iconst 1, 1) := by decide +kernel
theorem dX12_bits_15 : decode cX12_bits 15 = .ok (.iand, 1) := by decide +kernel
theorem dX12_bits_16 : decode cX12_bits 16 = .ok (.iadd, 1) := by decide +kernel
theorem dX12_bits_17 : decode cX12_bits 17 = .ok (.istore_n 1, 1) := by decide +kernel
theorem dX12_bits_18 : decode cX12_bits 18 = .ok (.iinc 2 1, 3) := by decide +kernel
theorem dX12_bits_21 : decode cX12_bits 21 = .ok (.goto (-17), 3) := by decide +kernel
theorem dX12_bits_24 : decode cX12_bits 24 = .ok (.iload_n 1, 1) := by decide +kernel
theorem dX12_bits_25 : decode cX12_bits 25 = .ok (.ireturn, 1) := by decide +kernel
theorem dX12_copies_0 : decode cX12_copies 0 = .ok (.iconst 0, 1) := by decide +kernel
theorem dX12_copies_1 : decode cX12_copies 1 = .ok (.istore_n 2, 1) := by decide +kernel
theorem dX12_copies_2 : decode cX12_copies 2 = .ok (.iload_n 2, 1) := by decide +kernel
theorem dX12_copies_3 : decode cX12_copies 3 = .ok (.bipush 82, 2) := by decide +kernel
theorem dX12_copies_5 : decode cX12_copies 5 = .ok (.if_icmp .ge 15, 3) := by decide +kernel
theorem dX12_copies_8 : decode cX12_copies 8 = .ok (.aload_n 1, 1) := by decide +kernel
theorem dX12_copies_9 : decode cX12_copies 9 = .ok (.iload_n 2, 1) := by decide +kernel
theorem dX12_copies_10 : decode cX12_copies 10 = .ok (.aload_n 0, 1) := by decide +kernel
theorem dX12_copies_11 : decode cX12_copies 11 = .ok (.iload_n 2, 1) := by decide +kernel
theorem dX12_copies_12 : decode cX12_copies 12 = .ok (.iaload, 1) := by decide +kernel
theorem dX12_copies_13 : decode cX12_copies 13 = .ok (.iastore, 1) := by decide +kernel
theorem dX12_copies_14 : decode cX12_copies 14 = .ok (.iinc 2 1, 3) := by decide +kernel
theorem dX12_copies_17 : decode cX12_copies 17 = .ok (.goto (-15), 3) := by decide +kernel
theorem dX12_copies_20 : decode cX12_copies 20 = .ok (.return_, 1) := by decide +kernel
theorem dX12_isCut_0 : decode cX12_isCut 0 = .ok (.iload_n 1, 1) := by decide +kernel
theorem dX12_isCut_1 : decode cX12_isCut 1 = .ok (.iconst 0, 1) := by decide +kernel
theorem dX12_isCut_2 : decode cX12_isCut 2 = .ok (.aload_n 0, 1) := by decide +kernel
theorem dX12_isCut_3 : decode cX12_isCut 3 = .ok (.getfield 152, 3) := by decide +kernel
theorem dX12_isCut_6 : decode cX12_isCut 6 = .ok (.iconst 1, 1) := by decide +kernel
theorem dX12_isCut_7 : decode cX12_isCut 7 = .ok (.isub, 1) := by decide +kernel
theorem dX12_isCut_8 : decode cX12_isCut 8 = .ok (.invokestatic 156, 3) := by decide +kernel
theorem dX12_isCut_11 : decode cX12_isCut 11 = .ok (.ireturn, 1) := by decide +kernel
theorem dX12_stepsBetween_0 : decode cX12_stepsBetween 0 = .ok (.iload_n 0, 1) := by decide +kernel
theorem dX12_stepsBetween_1 : decode cX12_stepsBetween 1 = .ok (.bipush 24, 2) := by decide +kernel
theorem dX12_stepsBetween_3 : decode cX12_stepsBetween 3 = .ok (.irem, 1) := by decide +kernel
theorem dX12_stepsBetween_4 : decode cX12_stepsBetween 4 = .ok (.iload_n 1, 1) := by decide +kernel
theorem dX12_stepsBetween_5 : decode cX12_stepsBetween 5 = .ok (.bipush 24, 2) := by decide +kernel
theorem dX12_stepsBetween_7 : decode cX12_stepsBetween 7 = .ok (.irem, 1) := by decide +kernel
theorem dX12_stepsBetween_8 : decode cX12_stepsBetween 8 = .ok (.isub, 1) := by decide +kernel
theorem dX12_stepsBetween_9 : decode cX12_stepsBetween 9 = .ok (.invokestatic 160, 3) := by decide +kernel
theorem dX12_stepsBetween_12 : decode cX12_stepsBetween 12 = .ok (.iload_n 0, 1) := by decide +kernel
theorem dX12_stepsBetween_13 : decode cX12_stepsBetween 13 = .ok (.bipush 24, 2) := by decide +kernel
theorem dX12_stepsBetween_15 : decode cX12_stepsBetween 15 = .ok (.idiv, 1) := by decide +kernel
theorem dX12_stepsBetween_16 : decode cX12_stepsBetween 16 = .ok (.iload_n 1, 1) := by decide +kernel
theorem dX12_stepsBetween_17 : decode cX12_stepsBetween 17 = .ok (.bipush 24, 2) := by decide +kernel
theorem dX12_stepsBetween_19 : decode cX12_stepsBetween 19 = .ok (.idiv, 1) := by decide +kernel
theorem dX12_stepsBetween_20 : decode cX12_stepsBetween 20 = .ok (.isub, 1) := by decide +kernel
theorem dX12_stepsBetween_21 : decode cX12_stepsBetween 21 = .ok (.invokestatic 160, 3) := by decide +kernel
theorem dX12_stepsBetween_24 : decode cX12_stepsBetween 24 = .ok (.iadd, 1) := by decide +kernel
theorem dX12_stepsBetween_25 : decode cX12_stepsBetween 25 = .ok (.ireturn, 1) := by decide +kernel
theorem dX12_setOf_0 : decode cX12_setOf 0 = .ok (.iconst 0, 1) := by decide +kernel
theorem dX12_setOf_1 : decode cX12_setOf 1 = .ok (.istore_n 2, 1) := by decide +kernel
theorem dX12_setOf_2 : decode cX12_setOf 2 = .ok (.iconst 0, 1) := by decide +kernel
theorem dX12_setOf_3 : decode cX12_setOf 3 = .ok (.istore_n 3, 1) := by decide +kernel
theorem dX12_setOf_4 : decode cX12_setOf 4 = .ok (.iload_n 3, 1) := by decide +kernel
theorem dX12_setOf_5 : decode cX12_setOf 5 = .ok (.aload_n 0, 1) := by decide +kernel
theorem dX12_setOf_6 : decode cX12_setOf 6 = .ok (.getfield 152, 3) := by decide +kernel
theorem dX12_setOf_9 : decode cX12_setOf 9 = .ok (.if_icmp .ge 27, 3) := by decide +kernel
theorem dX12_setOf_12 : decode cX12_setOf 12 = .ok (.aload_n 0, 1) := by decide +kernel
theorem dX12_setOf_13 : decode cX12_setOf 13 = .ok (.getfield 7, 3) := by decide +kernel
theorem dX12_setOf_16 : decode cX12_setOf 16 = .ok (.iconst 0, 1) := by decide +kernel
theorem dX12_setOf_17 : decode cX12_setOf 17 = .ok (.iload_n 3, 1) := by decide +kernel
theorem dX12_setOf_18 : decode cX12_setOf 18 = .ok (.iadd, 1) := by decide +kernel
theorem dX12_setOf_19 : decode cX12_setOf 19 = .ok (.iaload, 1) := by decide +kernel
theorem dX12_setOf_20 : decode cX12_setOf 20 = .ok (.iload_n 1, 1) := by decide +kernel
theorem dX12_setOf_21 : decode cX12_setOf 21 = .ok (.if_icmp .ne 9, 3) := by decide +kernel
theorem dX12_setOf_24 : decode cX12_setOf 24 = .ok (.iload_n 2, 1) := by decide +kernel
theorem dX12_setOf_25 : decode cX12_setOf 25 = .ok (.iconst 1, 1) := by decide +kernel
theorem dX12_setOf_26 : decode cX12_setOf 26 = .ok (.iload_n 3, 1) := by decide +kernel
theorem dX12_setOf_27 : decode cX12_setOf 27 = .ok (.ishl, 1) := by decide +kernel
theorem dX12_setOf_28 : decode cX12_setOf 28 = .ok (.ior, 1) := by decide +kernel
theorem dX12_setOf_29 : decode cX12_setOf 29 = .ok (.istore_n 2, 1) := by decide +kernel
theorem dX12_setOf_30 : decode cX12_setOf 30 = .ok (.iinc 3 1, 3) := by decide +kernel
theorem dX12_setOf_33 : decode cX12_setOf 33 = .ok (.goto (-29), 3) := by decide +kernel
theorem dX12_setOf_36 : decode cX12_setOf 36 = .ok (.iload_n 2, 1) := by decide +kernel
theorem dX12_setOf_37 : decode cX12_setOf 37 = .ok (.ireturn, 1) := by decide +kernel
theorem dX12_home_0 : decode cX12_home 0 = .ok (.aload_n 0, 1) := by decide +kernel
theorem dX12_home_1 : decode cX12_home 1 = .ok (.iload_n 1, 1) := by decide +kernel
theorem dX12_home_2 : decode cX12_home 2 = .ok (.invokevirtual 164, 3) := by decide +kernel
theorem dX12_home_5 : decode cX12_home 5 = .ok (.ifCond .eq 23, 3) := by decide +kernel
theorem dX12_home_8 : decode cX12_home 8 = .ok (.iload_n 2, 1) := by decide +kernel
theorem dX12_home_9 : decode cX12_home 9 = .ok (.iconst 0, 1) := by decide +kernel
theorem dX12_home_10 : decode cX12_home 10 = .ok (.bipush 23, 2) := by decide +kernel
theorem dX12_home_12 : decode cX12_home 12 = .ok (.invokestatic 156, 3) := by decide +kernel
theorem dX12_home_15 : decode cX12_home 15 = .ok (.ifCond .eq 13, 3) := by decide +kernel
theorem dX12_home_18 : decode cX12_home 18 = .ok (.iload_n 3, 1) := by decide +kernel
theorem dX12_home_19 : decode cX12_home 19 = .ok (.iconst 0, 1) := by decide +kernel
theorem dX12_home_20 : decode cX12_home 20 = .ok (.bipush 15, 2) := by decide +kernel
theorem dX12_home_22 : decode cX12_home 22 = .ok (.invokestatic 156, 3) := by decide +kernel
theorem dX12_home_25 : decode cX12_home 25 = .ok (.ifCond .ne 5, 3) := by decide +kernel
theorem dX12_home_28 : decode cX12_home 28 = .ok (.iconst 0, 1) := by decide +kernel
theorem dX12_home_29 : decode cX12_home 29 = .ok (.ireturn, 1) := by decide +kernel
theorem dX12_home_30 : decode cX12_home 30 = .ok (.aload_n 0, 1) := by decide +kernel
theorem dX12_home_31 : decode cX12_home 31 = .ok (.getfield 40, 3) := by decide +kernel
theorem dX12_home_34 : decode cX12_home 34 = .ok (.iload_n 1, 1) := by decide +kernel
theorem dX12_home_35 : decode cX12_home 35 = .ok (.bipush 24, 2) := by decide +kernel
theorem dX12_home_37 : decode cX12_home 37 = .ok (.iload_n 3, 1) := by decide +kernel
theorem dX12_home_38 : decode cX12_home 38 = .ok (.imul, 1) := by decide +kernel
theorem dX12_home_39 : decode cX12_home 39 = .ok (.iload_n 2, 1) := by decide +kernel
theorem dX12_home_40 : decode cX12_home 40 = .ok (.iadd, 1) := by decide +kernel
theorem dX12_home_41 : decode cX12_home 41 = .ok (.iastore, 1) := by decide +kernel
theorem dX12_home_42 : decode cX12_home 42 = .ok (.iconst 1, 1) := by decide +kernel
theorem dX12_home_43 : decode cX12_home 43 = .ok (.ireturn, 1) := by decide +kernel
theorem dX12_types_0 : decode cX12_types 0 = .ok (.iconst 3, 1) := by decide +kernel
theorem dX12_types_1 : decode cX12_types 1 = .ok (.istore_n 2, 1) := by decide +kernel
theorem dX12_types_2 : decode cX12_types 2 = .ok (.iload_n 2, 1) := by decide +kernel
theorem dX12_types_3 : decode cX12_types 3 = .ok (.ifCond .lt 35, 3) := by decide +kernel
theorem dX12_types_6 : decode cX12_types 6 = .ok (.aload_n 0, 1) := by decide +kernel
theorem dX12_types_7 : decode cX12_types 7 = .ok (.getfield 43, 3) := by decide +kernel
theorem dX12_types_10 : decode cX12_types 10 = .ok (.aload_n 0, 1) := by decide +kernel
theorem dX12_types_11 : decode cX12_types 11 = .ok (.getfield 168, 3) := by decide +kernel
theorem dX12_types_14 : decode cX12_types 14 = .ok (.iload_n 1, 1) := by decide +kernel
theorem dX12_types_15 : decode cX12_types 15 = .ok (.bipush 8, 2) := by decide +kernel
theorem dX12_types_17 : decode cX12_types 17 = .ok (.iload_n 2, 1) := by decide +kernel
theorem dX12_types_18 : decode cX12_types 18 = .ok (.imul, 1) := by decide +kernel
theorem dX12_types_19 : decode cX12_types 19 = .ok (.ishr, 1) := by decide +kernel
theorem dX12_types_20 : decode cX12_types 20 = .ok (.i2b, 1) := by decide +kernel
theorem dX12_types_21 : decode cX12_types 21 = .ok (.bastore, 1) := by decide +kernel
theorem dX12_types_22 : decode cX12_types 22 = .ok (.aload_n 0, 1) := by decide +kernel
theorem dX12_types_23 : decode cX12_types 23 = .ok (.aload_n 0, 1) := by decide +kernel
theorem dX12_types_24 : decode cX12_types 24 = .ok (.getfield 168, 3) := by decide +kernel
theorem dX12_types_27 : decode cX12_types 27 = .ok (.iconst 1, 1) := by decide +kernel
theorem dX12_types_28 : decode cX12_types 28 = .ok (.iadd, 1) := by decide +kernel
theorem dX12_types_29 : decode cX12_types 29 = .ok (.putfield 168, 3) := by decide +kernel
theorem dX12_types_32 : decode cX12_types 32 = .ok (.iinc 2 (-1), 3) := by decide +kernel
theorem dX12_types_35 : decode cX12_types 35 = .ok (.goto (-33), 3) := by decide +kernel
theorem dX12_types_38 : decode cX12_types 38 = .ok (.return_, 1) := by decide +kernel
theorem dX12_feed_0 : decode cX12_feed 0 = .ok (.aload_n 0, 1) := by decide +kernel
theorem dX12_feed_1 : decode cX12_feed 1 = .ok (.getfield 168, 3) := by decide +kernel
theorem dX12_feed_4 : decode cX12_feed 4 = .ok (.bipush 20, 2) := by decide +kernel
theorem dX12_feed_6 : decode cX12_feed 6 = .ok (.iadd, 1) := by decide +kernel
theorem dX12_feed_7 : decode cX12_feed 7 = .ok (.sipush 260, 3) := by decide +kernel
theorem dX12_feed_10 : decode cX12_feed 10 = .ok (.if_icmp .le 5, 3) := by decide +kernel
theorem dX12_feed_13 : decode cX12_feed 13 = .ok (.iconst (-1), 1) := by decide +kernel
theorem dX12_feed_14 : decode cX12_feed 14 = .ok (.ireturn, 1) := by decide +kernel
theorem dX12_feed_15 : decode cX12_feed 15 = .ok (.aload_n 0, 1) := by decide +kernel
theorem dX12_feed_16 : decode cX12_feed 16 = .ok (.iload_n 1, 1) := by decide +kernel
theorem dX12_feed_17 : decode cX12_feed 17 = .ok (.invokevirtual 171, 3) := by decide +kernel
theorem dX12_feed_20 : decode cX12_feed 20 = .ok (.aload_n 0, 1) := by decide +kernel
theorem dX12_feed_21 : decode cX12_feed 21 = .ok (.iload_n 2, 1) := by decide +kernel
theorem dX12_feed_22 : decode cX12_feed 22 = .ok (.invokevirtual 171, 3) := by decide +kernel
theorem dX12_feed_25 : decode cX12_feed 25 = .ok (.aload_n 0, 1) := by decide +kernel
theorem dX12_feed_26 : decode cX12_feed 26 = .ok (.iload_n 3, 1) := by decide +kernel
theorem dX12_feed_27 : decode cX12_feed 27 = .ok (.invokevirtual 171, 3) := by decide +kernel
theorem dX12_feed_30 : decode cX12_feed 30 = .ok (.aload_n 0, 1) := by decide +kernel
theorem dX12_feed_31 : decode cX12_feed 31 = .ok (.iload 4, 2) := by decide +kernel
theorem dX12_feed_33 : decode cX12_feed 33 = .ok (.invokevirtual 171, 3) := by decide +kernel
theorem dX12_feed_36 : decode cX12_feed 36 = .ok (.aload_n 0, 1) := by decide +kernel
theorem dX12_feed_37 : decode cX12_feed 37 = .ok (.iload 5, 2) := by decide +kernel
theorem dX12_feed_39 : decode cX12_feed 39 = .ok (.invokevirtual 171, 3) := by decide +kernel
theorem dX12_feed_42 : decode cX12_feed 42 = .ok (.aload_n 0, 1) := by decide +kernel
theorem dX12_feed_43 : decode cX12_feed 43 = .ok (.getfield 168, 3) := by decide +kernel
theorem dX12_feed_46 : decode cX12_feed 46 = .ok (.ireturn, 1) := by decide +kernel
theorem dX12_octet_0 : decode cX12_octet 0 = .ok (.aload_n 0, 1) := by decide +kernel
theorem dX12_octet_1 : decode cX12_octet 1 = .ok (.getfield 43, 3) := by decide +kernel
theorem dX12_octet_4 : decode cX12_octet 4 = .ok (.iload_n 1, 1) := by decide +kernel
theorem dX12_octet_5 : decode cX12_octet 5 = .ok (.baload, 1) := by decide +kernel
theorem dX12_octet_6 : decode cX12_octet 6 = .ok (.sipush 255, 3) := by decide +kernel
theorem dX12_octet_9 : decode cX12_octet 9 = .ok (.iand, 1) := by decide +kernel
theorem dX12_octet_10 : decode cX12_octet 10 = .ok (.ireturn, 1) := by decide +kernel
theorem dX12_here_0 : decode cX12_here 0 = .ok (.aload_n 0, 1) := by decide +kernel
theorem dX12_here_1 : decode cX12_here 1 = .ok (.getfield 175, 3) := by decide +kernel
theorem dX12_here_4 : decode cX12_here 4 = .ok (.aload_n 0, 1) := by decide +kernel
theorem dX12_here_5 : decode cX12_here 5 = .ok (.getfield 178, 3) := by decide +kernel
theorem dX12_here_8 : decode cX12_here 8 = .ok (.if_icmp .ge 19, 3) := by decide +kernel
theorem dX12_here_11 : decode cX12_here 11 = .ok (.aload_n 0, 1) := by decide +kernel
theorem dX12_here_12 : decode cX12_here 12 = .ok (.getfield 43, 3) := by decide +kernel
theorem dX12_here_15 : decode cX12_here 15 = .ok (.aload_n 0, 1) := by decide +kernel
theorem dX12_here_16 : decode cX12_here 16 = .ok (.getfield 175, 3) := by decide +kernel
theorem dX12_here_19 : decode cX12_here 19 = .ok (.baload, 1) := by decide +kernel
theorem dX12_here_20 : decode cX12_here 20 = .ok (.sipush 255, 3) := by decide +kernel
theorem dX12_here_23 : decode cX12_here 23 = .ok (.iand, 1) := by decide +kernel
theorem dX12_here_24 : decode cX12_here 24 = .ok (.goto 4, 3) := by decide +kernel
theorem dX12_here_27 : decode cX12_here 27 = .ok (.iconst (-1), 1) := by decide +kernel
theorem dX12_here_28 : decode cX12_here 28 = .ok (.ireturn, 1) := by decide +kernel
theorem dX12_isDigit_0 : decode cX12_isDigit 0 = .ok (.aload_n 0, 1) := by decide +kernel
theorem dX12_isDigit_1 : decode cX12_isDigit 1 = .ok (.invokevirtual 181, 3) := by decide +kernel
theorem dX12_isDigit_4 : decode cX12_isDigit 4 = .ok (.bipush 48, 2) := by decide +kernel
theorem dX12_isDigit_6 : decode cX12_isDigit 6 = .ok (.if_icmp .lt 16, 3) := by decide +kernel
theorem dX12_isDigit_9 : decode cX12_isDigit 9 = .ok (.aload_n 0, 1) := by decide +kernel
theorem dX12_isDigit_10 : decode cX12_isDigit 10 = .ok (.invokevirtual 181, 3) := by decide +kernel
theorem dX12_isDigit_13 : decode cX12_isDigit 13 = .ok (.bipush 57, 2) := by decide +kernel
theorem dX12_isDigit_15 : decode cX12_isDigit 15 = .ok (.if_icmp .gt 7, 3) := by decide +kernel
theorem dX12_isDigit_18 : decode cX12_isDigit 18 = .ok (.iconst 1, 1) := by decide +kernel
theorem dX12_isDigit_19 : decode cX12_isDigit 19 = .ok (.goto 4, 3) := by decide +kernel
theorem dX12_isDigit_22 : decode cX12_isDigit 22 = .ok (.iconst 0, 1) := by decide +kernel
theorem dX12_isDigit_23 : decode cX12_isDigit 23 = .ok (.ireturn, 1) := by decide +kernel
theorem dX12_wrongAt_0 : decode cX12_wrongAt 0 = .ok (.aload_n 0, 1) := by decide +kernel
theorem dX12_wrongAt_1 : decode cX12_wrongAt 1 = .ok (.sipush (-1000), 3) := by decide +kernel
theorem dX12_wrongAt_4 : decode cX12_wrongAt 4 = .ok (.iload_n 1, 1) := by decide +kernel
theorem dX12_wrongAt_5 : decode cX12_wrongAt 5 = .ok (.imul, 1) := by decide +kernel
theorem dX12_wrongAt_6 : decode cX12_wrongAt 6 = .ok (.iload_n 2, 1) := by decide +kernel
theorem dX12_wrongAt_7 : decode cX12_wrongAt 7 = .ok (.isub, 1) := by decide +kernel
theorem dX12_wrongAt_8 : decode cX12_wrongAt 8 = .ok (.putfield 185, 3) := by decide +kernel
theorem dX12_wrongAt_11 : decode cX12_wrongAt 11 = .ok (.iconst 0, 1) := by decide +kernel
theorem dX12_wrongAt_12 : decode cX12_wrongAt 12 = .ok (.ireturn, 1) := by decide +kernel
theorem dX12_takes_0 : decode cX12_takes 0 = .ok (.aload_n 0, 1) := by decide +kernel
theorem dX12_takes_1 : decode cX12_takes 1 = .ok (.invokevirtual 181, 3) := by decide +kernel
theorem dX12_takes_4 : decode cX12_takes 4 = .ok (.iload_n 1, 1) := by decide +kernel
theorem dX12_takes_5 : decode cX12_takes 5 = .ok (.if_icmp .eq 13, 3) := by decide +kernel
theorem dX12_takes_8 : decode cX12_takes 8 = .ok (.aload_n 0, 1) := by decide +kernel
theorem dX12_takes_9 : decode cX12_takes 9 = .ok (.iconst 1, 1) := by decide +kernel
theorem dX12_takes_10 : decode cX12_takes 10 = .ok (.aload_n 0, 1) := by decide +kernel
theorem dX12_takes_11 : decode cX12_takes 11 = .ok (.getfield 175, 3) := by decide +kernel
theorem dX12_takes_14 : decode cX12_takes 14 = .ok (.invokevirtual 188, 3) := by decide +kernel
theorem dX12_takes_17 : decode cX12_takes 17 = .ok (.ireturn, 1) := by decide +kernel
theorem dX12_takes_18 : decode cX12_takes 18 = .ok (.aload_n 0, 1) := by decide +kernel
theorem dX12_takes_19 : decode cX12_takes 19 = .ok (.aload_n 0, 1) := by decide +kernel
theorem dX12_takes_20 : decode cX12_takes 20 = .ok (.getfield 175, 3) := by decide +kernel
theorem dX12_takes_23 : decode cX12_takes 23 = .ok (.iconst 1, 1) := by decide +kernel
theorem dX12_takes_24 : decode cX12_takes 24 = .ok (.iadd, 1) := by decide +kernel
theorem dX12_takes_25 : decode cX12_takes 25 = .ok (.putfield 175, 3) := by decide +kernel
theorem dX12_takes_28 : decode cX12_takes 28 = .ok (.iconst 1, 1) := by decide +kernel
theorem dX12_takes_29 : decode cX12_takes 29 = .ok (.ireturn, 1) := by decide +kernel
theorem dX12_readsNumber_0 : decode cX12_readsNumber 0 = .ok (.aload_n 0, 1) := by decide +kernel
theorem dX12_readsNumber_1 : decode cX12_readsNumber 1 = .ok (.getfield 175, 3) := by decide +kernel
theorem dX12_readsNumber_4 : decode cX12_readsNumber 4 = .ok (.istore_n 1, 1) := by decide +kernel
theorem dX12_readsNumber_5 : decode cX12_readsNumber 5 = .ok (.aload_n 0, 1) := by decide +kernel
theorem dX12_readsNumber_6 : decode cX12_readsNumber 6 = .ok (.iconst 0, 1) := by decide +kernel
theorem dX12_readsNumber_7 : decode cX12_readsNumber 7 = .ok (.putfield 192, 3) := by decide +kernel
theorem dX12_readsNumber_10 : decode cX12_readsNumber 10 = .ok (.aload_n 0, 1) := by decide +kernel
theorem dX12_readsNumber_11 : decode cX12_readsNumber 11 = .ok (.invokevirtual 195, 3) := by decide +kernel
theorem dX12_readsNumber_14 : decode cX12_readsNumber 14 = .ok (.ifCond .eq 55, 3) := by decide +kernel
theorem dX12_readsNumber_17 : decode cX12_readsNumber 17 = .ok (.aload_n 0, 1) := by decide +kernel
theorem dX12_readsNumber_18 : decode cX12_readsNumber 18 = .ok (.getfield 175, 3) := by decide +kernel
theorem dX12_readsNumber_21 : decode cX12_readsNumber 21 = .ok (.iload_n 1, 1) := by decide +kernel
theorem dX12_readsNumber_22 : decode cX12_readsNumber 22 = .ok (.iconst 5, 1) := by decide +kernel
theorem dX12_readsNumber_23 : decode cX12_readsNumber 23 = .ok (.iadd, 1) := by decide +kernel
theorem dX12_readsNumber_24 : decode cX12_readsNumber 24 = .ok (.if_icmp .ne 13, 3) := by decide +kernel
theorem dX12_readsNumber_27 : decode cX12_readsNumber 27 = .ok (.aload_n 0, 1) := by decide +kernel
theorem dX12_readsNumber_28 : decode cX12_readsNumber 28 = .ok (.iconst 2, 1) := by decide +kernel
theorem dX12_readsNumber_29 : decode cX12_readsNumber 29 = .ok (.aload_n 0, 1) := by decide +kernel
theorem dX12_readsNumber_30 : decode cX12_readsNumber 30 = .ok (.getfield 175, 3) := by decide +kernel
theorem dX12_readsNumber_33 : decode cX12_readsNumber 33 = .ok (.invokevirtual 188, 3) := by decide +kernel
theorem dX12_readsNumber_36 : decode cX12_readsNumber 36 = .ok (.ireturn, 1) := by decide +kernel
theorem dX12_readsNumber_37 : decode cX12_readsNumber 37 = .ok (.aload_n 0, 1) := by decide +kernel
theorem dX12_readsNumber_38 : decode cX12_readsNumber 38 = .ok (.bipush 10, 2) := by decide +kernel
theorem dX12_readsNumber_40 : decode cX12_readsNumber 40 = .ok (.aload_n 0, 1) := by decide +kernel
theorem dX12_readsNumber_41 : decode cX12_readsNumber 41 = .ok (.getfield 192, 3) := by decide +kernel
theorem dX12_readsNumber_44 : decode cX12_readsNumber 44 = .ok (.imul, 1) := by decide +kernel
theorem dX12_readsNumber_45 : decode cX12_readsNumber 45 = .ok (.aload_n 0, 1) := by decide +kernel
theorem dX12_readsNumber_46 : decode cX12_readsNumber 46 = .ok (.invokevirtual 181, 3) := by decide +kernel
theorem dX12_readsNumber_49 : decode cX12_readsNumber 49 = .ok (.iadd, 1) := by decide +kernel
theorem dX12_readsNumber_50 : decode cX12_readsNumber 50 = .ok (.bipush 48, 2) := by decide +kernel
theorem dX12_readsNumber_52 : decode cX12_readsNumber 52 = .ok (.isub, 1) := by decide +kernel
theorem dX12_readsNumber_53 : decode cX12_readsNumber 53 = .ok (.putfield 192, 3) := by decide +kernel
theorem dX12_readsNumber_56 : decode cX12_readsNumber 56 = .ok (.aload_n 0, 1) := by decide +kernel
theorem dX12_readsNumber_57 : decode cX12_readsNumber 57 = .ok (.aload_n 0, 1) := by decide +kernel
theorem dX12_readsNumber_58 : decode cX12_readsNumber 58 = .ok (.getfield 175, 3) := by decide +kernel
theorem dX12_readsNumber_61 : decode cX12_readsNumber 61 = .ok (.iconst 1, 1) := by decide +kernel
theorem dX12_readsNumber_62 : decode cX12_readsNumber 62 = .ok (.iadd, 1) := by decide +kernel
theorem dX12_readsNumber_63 : decode cX12_readsNumber 63 = .ok (.putfield 175, 3) := by decide +kernel
theorem dX12_readsNumber_66 : decode cX12_readsNumber 66 = .ok (.goto (-56), 3) := by decide +kernel
theorem dX12_readsNumber_69 : decode cX12_readsNumber 69 = .ok (.iconst 1, 1) := by decide +kernel
theorem dX12_readsNumber_70 : decode cX12_readsNumber 70 = .ok (.ireturn, 1) := by decide +kernel
theorem dX12_notes_0 : decode cX12_notes 0 = .ok (.aload_n 0, 1) := by decide +kernel
theorem dX12_notes_1 : decode cX12_notes 1 = .ok (.getfield 47, 3) := by decide +kernel
theorem dX12_notes_4 : decode cX12_notes 4 = .ok (.aload_n 0, 1) := by decide +kernel
theorem dX12_notes_5 : decode cX12_notes 5 = .ok (.getfield 199, 3) := by decide +kernel
theorem dX12_notes_8 : decode cX12_notes 8 = .ok (.ldc 202, 2) := by decide +kernel
theorem dX12_notes_10 : decode cX12_notes 10 = .ok (.iload_n 1, 1) := by decide +kernel
theorem dX12_notes_11 : decode cX12_notes 11 = .ok (.imul, 1) := by decide +kernel
theorem dX12_notes_12 : decode cX12_notes 12 = .ok (.iload_n 2, 1) := by decide +kernel
theorem dX12_notes_13 : decode cX12_notes 13 = .ok (.iadd, 1) := by decide +kernel
theorem dX12_notes_14 : decode cX12_notes 14 = .ok (.iastore, 1) := by decide +kernel
theorem dX12_notes_15 : decode cX12_notes 15 = .ok (.aload_n 0, 1) := by decide +kernel
theorem dX12_notes_16 : decode cX12_notes 16 = .ok (.aload_n 0, 1) := by decide +kernel
theorem dX12_notes_17 : decode cX12_notes 17 = .ok (.getfield 199, 3) := by decide +kernel
theorem dX12_notes_20 : decode cX12_notes 20 = .ok (.iconst 1, 1) := by decide +kernel
theorem dX12_notes_21 : decode cX12_notes 21 = .ok (.iadd, 1) := by decide +kernel
theorem dX12_notes_22 : decode cX12_notes 22 = .ok (.putfield 199, 3) := by decide +kernel
theorem dX12_notes_25 : decode cX12_notes 25 = .ok (.return_, 1) := by decide +kernel
theorem dX12_opens_0 : decode cX12_opens 0 = .ok (.aload_n 0, 1) := by decide +kernel
theorem dX12_opens_1 : decode cX12_opens 1 = .ok (.getfield 203, 3) := by decide +kernel
theorem dX12_opens_4 : decode cX12_opens 4 = .ok (.bipush 6, 2) := by decide +kernel
theorem dX12_opens_6 : decode cX12_opens 6 = .ok (.if_icmp .ne 13, 3) := by decide +kernel
theorem dX12_opens_9 : decode cX12_opens 9 = .ok (.aload_n 0, 1) := by decide +kernel
theorem dX12_opens_10 : decode cX12_opens 10 = .ok (.iconst 5, 1) := by decide +kernel
theorem dX12_opens_11 : decode cX12_opens 11 = .ok (.aload_n 0, 1) := by decide +kernel
theorem dX12_opens_12 : decode cX12_opens 12 = .ok (.getfield 175, 3) := by decide +kernel
theorem dX12_opens_15 : decode cX12_opens 15 = .ok (.invokevirtual 188, 3) := by decide +kernel
theorem dX12_opens_18 : decode cX12_opens 18 = .ok (.ireturn, 1) := by decide +kernel
theorem dX12_opens_19 : decode cX12_opens 19 = .ok (.aload_n 0, 1) := by decide +kernel
theorem dX12_opens_20 : decode cX12_opens 20 = .ok (.aload_n 0, 1) := by decide +kernel
theorem dX12_opens_21 : decode cX12_opens 21 = .ok (.getfield 203, 3) := by decide +kernel
theorem dX12_opens_24 : decode cX12_opens 24 = .ok (.iconst 1, 1) := by decide +kernel
theorem dX12_opens_25 : decode cX12_opens 25 = .ok (.iadd, 1) := by decide +kernel
theorem dX12_opens_26 : decode cX12_opens 26 = .ok (.putfield 203, 3) := by decide +kernel
theorem dX12_opens_29 : decode cX12_opens 29 = .ok (.aload_n 0, 1) := by decide +kernel
theorem dX12_opens_30 : decode cX12_opens 30 = .ok (.getfield 50, 3) := by decide +kernel
theorem dX12_opens_33 : decode cX12_opens 33 = .ok (.aload_n 0, 1) := by decide +kernel
theorem dX12_opens_34 : decode cX12_opens 34 = .ok (.getfield 206, 3) := by decide +kernel
theorem dX12_opens_37 : decode cX12_opens 37 = .ok (.ldc 202, 2) := by decide +kernel
theorem dX12_opens_39 : decode cX12_opens 39 = .ok (.iload_n 1, 1) := by decide +kernel
theorem dX12_opens_40 : decode cX12_opens 40 = .ok (.imul, 1) := by decide +kernel
theorem dX12_opens_41 : decode cX12_opens 41 = .ok (.iastore, 1) := by decide +kernel
theorem dX12_opens_42 : decode cX12_opens 42 = .ok (.aload_n 0, 1) := by decide +kernel
theorem dX12_opens_43 : decode cX12_opens 43 = .ok (.aload_n 0, 1) := by decide +kernel
theorem dX12_opens_44 : decode cX12_opens 44 = .ok (.getfield 206, 3) := by decide +kernel
theorem dX12_opens_47 : decode cX12_opens 47 = .ok (.iconst 1, 1) := by decide +kernel
theorem dX12_opens_48 : decode cX12_opens 48 = .ok (.iadd, 1) := by decide +kernel
theorem dX12_opens_49 : decode cX12_opens 49 = .ok (.putfield 206, 3) := by decide +kernel
theorem dX12_opens_52 : decode cX12_opens 52 = .ok (.aload_n 0, 1) := by decide +kernel
theorem dX12_opens_53 : decode cX12_opens 53 = .ok (.aload_n 0, 1) := by decide +kernel
theorem dX12_opens_54 : decode cX12_opens 54 = .ok (.getfield 175, 3) := by decide +kernel
theorem dX12_opens_57 : decode cX12_opens 57 = .ok (.iconst 1, 1) := by decide +kernel
theorem dX12_opens_58 : decode cX12_opens 58 = .ok (.iadd, 1) := by decide +kernel
theorem dX12_opens_59 : decode cX12_opens 59 = .ok (.putfield 175, 3) := by decide +kernel
theorem dX12_opens_62 : decode cX12_opens 62 = .ok (.iconst 1, 1) := by decide +kernel
theorem dX12_opens_63 : decode cX12_opens 63 = .ok (.ireturn, 1) := by decide +kernel
theorem dX12_waitTop_0 : decode cX12_waitTop 0 = .ok (.aload_n 0, 1) := by decide +kernel
theorem dX12_waitTop_1 : decode cX12_waitTop 1 = .ok (.getfield 206, 3) := by decide +kernel
theorem dX12_waitTop_4 : decode cX12_waitTop 4 = .ok (.ifCond .ne 7, 3) := by decide +kernel
theorem dX12_waitTop_7 : decode cX12_waitTop 7 = .ok (.iconst (-1), 1) := by decide +kernel
theorem dX12_waitTop_8 : decode cX12_waitTop 8 = .ok (.goto 17, 3) := by decide +kernel
theorem dX12_waitTop_11 : decode cX12_waitTop 11 = .ok (.aload_n 0, 1) := by decide +kernel
theorem dX12_waitTop_12 : decode cX12_waitTop 12 = .ok (.getfield 50, 3) := by decide +kernel
theorem dX12_waitTop_15 : decode cX12_waitTop 15 = .ok (.aload_n 0, 1) := by decide +kernel
theorem dX12_waitTop_16 : decode cX12_waitTop 16 = .ok (.getfield 206, 3) := by decide +kernel
theorem dX12_waitTop_19 : decode cX12_waitTop 19 = .ok (.iconst 1, 1) := by decide +kernel
theorem dX12_waitTop_20 : decode cX12_waitTop 20 = .ok (.isub, 1) := by decide +kernel
theorem dX12_waitTop_21 : decode cX12_waitTop 21 = .ok (.iaload, 1) := by decide +kernel
theorem dX12_waitTop_22 : decode cX12_waitTop 22 = .ok (.ldc 202, 2) := by decide +kernel
theorem dX12_waitTop_24 : decode cX12_waitTop 24 = .ok (.idiv, 1) := by decide +kernel
theorem dX12_waitTop_25 : decode cX12_waitTop 25 = .ok (.ireturn, 1) := by decide +kernel
theorem dX12_factOf_0 : decode cX12_factOf 0 = .ok (.iload_n 0, 1) := by decide +kernel
theorem dX12_factOf_1 : decode cX12_factOf 1 = .ok (.tableswitch 134 97 119 #[117, 134, 107, 122, 134, 134, 134, 113, 134, 134, 119, 115, 111, 125, 134, 134, 134, 134, 109, 128, 134, 134, 131], 107) := by decide +kernel
theorem dX12_factOf_108 : decode cX12_factOf 108 = .ok (.iconst 0, 1) := by decide +kernel
theorem dX12_factOf_109 : decode cX12_factOf 109 = .ok (.ireturn, 1) := by decide +kernel
theorem dX12_factOf_110 : decode cX12_factOf 110 = .ok (.iconst 1, 1) := by decide +kernel
theorem dX12_factOf_111 : decode cX12_factOf 111 = .ok (.ireturn, 1) := by decide +kernel
theorem dX12_factOf_112 : decode cX12_factOf 112 = .ok (.iconst 2, 1) := by decide +kernel
theorem dX12_factOf_113 : decode cX12_factOf 113 = .ok (.ireturn, 1) := by decide +kernel
theorem dX12_factOf_114 : decode cX12_factOf 114 = .ok (.iconst 3, 1) := by decide +kernel
theorem dX12_factOf_115 : decode cX12_factOf 115 = .ok (.ireturn, 1) := by decide +kernel
theorem dX12_factOf_116 : decode cX12_factOf 116 = .ok (.iconst 4, 1) := by decide +kernel
theorem dX12_factOf_117 : decode cX12_factOf 117 = .ok (.ireturn, 1) := by decide +kernel
theorem dX12_factOf_118 : decode cX12_factOf 118 = .ok (.iconst 5, 1) := by decide +kernel
theorem dX12_factOf_119 : decode cX12_factOf 119 = .ok (.ireturn, 1) := by decide +kernel
theorem dX12_factOf_120 : decode cX12_factOf 120 = .ok (.bipush 6, 2) := by decide +kernel
theorem dX12_factOf_122 : decode cX12_factOf 122 = .ok (.ireturn, 1) := by decide +kernel
theorem dX12_factOf_123 : decode cX12_factOf 123 = .ok (.bipush 7, 2) := by decide +kernel
theorem dX12_factOf_125 : decode cX12_factOf 125 = .ok (.ireturn, 1) := by decide +kernel
theorem dX12_factOf_126 : decode cX12_factOf 126 = .ok (.bipush 8, 2) := by decide +kernel
theorem dX12_factOf_128 : decode cX12_factOf 128 = .ok (.ireturn, 1) := by decide +kernel
theorem dX12_factOf_129 : decode cX12_factOf 129 = .ok (.bipush 9, 2) := by decide +kernel
theorem dX12_factOf_131 : decode cX12_factOf 131 = .ok (.ireturn, 1) := by decide +kernel
theorem dX12_factOf_132 : decode cX12_factOf 132 = .ok (.bipush 10, 2) := by decide +kernel
theorem dX12_factOf_134 : decode cX12_factOf 134 = .ok (.ireturn, 1) := by decide +kernel
theorem dX12_factOf_135 : decode cX12_factOf 135 = .ok (.iconst (-1), 1) := by decide +kernel
theorem dX12_factOf_136 : decode cX12_factOf 136 = .ok (.ireturn, 1) := by decide +kernel
theorem dX12_sumSign_0 : decode cX12_sumSign 0 = .ok (.iload_n 0, 1) := by decide +kernel
theorem dX12_sumSign_1 : decode cX12_sumSign 1 = .ok (.bipush 43, 2) := by decide +kernel
theorem dX12_sumSign_3 : decode cX12_sumSign 3 = .ok (.if_icmp .ne 7, 3) := by decide +kernel
theorem dX12_sumSign_6 : decode cX12_sumSign 6 = .ok (.iconst 2, 1) := by decide +kernel
theorem dX12_sumSign_7 : decode cX12_sumSign 7 = .ok (.goto 45, 3) := by decide +kernel
theorem dX12_sumSign_10 : decode cX12_sumSign 10 = .ok (.iload_n 0, 1) := by decide +kernel
theorem dX12_sumSign_11 : decode cX12_sumSign 11 = .ok (.bipush 45, 2) := by decide +kernel
theorem dX12_sumSign_13 : decode cX12_sumSign 13 = .ok (.if_icmp .ne 7, 3) := by decide +kernel
theorem dX12_sumSign_16 : decode cX12_sumSign 16 = .ok (.iconst 3, 1) := by decide +kernel
theorem dX12_sumSign_17 : decode cX12_sumSign 17 = .ok (.goto 35, 3) := by decide +kernel
theorem dX12_sumSign_20 : decode cX12_sumSign 20 = .ok (.iload_n 0, 1) := by decide +kernel
theorem dX12_sumSign_21 : decode cX12_sumSign 21 = .ok (.bipush 42, 2) := by decide +kernel
theorem dX12_sumSign_23 : decode cX12_sumSign 23 = .ok (.if_icmp .ne 7, 3) := by decide +kernel
theorem dX12_sumSign_26 : decode cX12_sumSign 26 = .ok (.iconst 4, 1) := by decide +kernel
theorem dX12_sumSign_27 : decode cX12_sumSign 27 = .ok (.goto 25, 3) := by decide +kernel
theorem dX12_sumSign_30 : decode cX12_sumSign 30 = .ok (.iload_n 0, 1) := by decide +kernel
theorem dX12_sumSign_31 : decode cX12_sumSign 31 = .ok (.bipush 47, 2) := by decide +kernel
theorem dX12_sumSign_33 : decode cX12_sumSign 33 = .ok (.if_icmp .ne 7, 3) := by decide +kernel
theorem dX12_sumSign_36 : decode cX12_sumSign 36 = .ok (.iconst 5, 1) := by decide +kernel
theorem dX12_sumSign_37 : decode cX12_sumSign 37 = .ok (.goto 15, 3) := by decide +kernel
theorem dX12_sumSign_40 : decode cX12_sumSign 40 = .ok (.iload_n 0, 1) := by decide +kernel
theorem dX12_sumSign_41 : decode cX12_sumSign 41 = .ok (.bipush 37, 2) := by decide +kernel
theorem dX12_sumSign_43 : decode cX12_sumSign 43 = .ok (.if_icmp .ne 8, 3) := by decide +kernel
theorem dX12_sumSign_46 : decode cX12_sumSign 46 = .ok (.bipush 6, 2) := by decide +kernel
theorem dX12_sumSign_48 : decode cX12_sumSign 48 = .ok (.goto 4, 3) := by decide +kernel
theorem dX12_sumSign_51 : decode cX12_sumSign 51 = .ok (.iconst (-1), 1) := by decide +kernel
theorem dX12_sumSign_52 : decode cX12_sumSign 52 = .ok (.ireturn, 1) := by decide +kernel
theorem dX12_closesSums_0 : decode cX12_closesSums 0 = .ok (.aload_n 0, 1) := by decide +kernel
theorem dX12_closesSums_1 : decode cX12_closesSums 1 = .ok (.invokevirtual 209, 3) := by decide +kernel
theorem dX12_closesSums_4 : decode cX12_closesSums 4 = .ok (.iconst 4, 1) := by decide +kernel
theorem dX12_closesSums_5 : decode cX12_closesSums 5 = .ok (.if_icmp .lt 12, 3) := by decide +kernel
theorem dX12_closesSums_8 : decode cX12_closesSums 8 = .ok (.aload_n 0, 1) := by decide +kernel
theorem dX12_closesSums_9 : decode cX12_closesSums 9 = .ok (.invokevirtual 209, 3) := by decide +kernel
theorem dX12_closesSums_12 : decode cX12_closesSums 12 = .ok (.bipush 6, 2) := by decide +kernel
theorem dX12_closesSums_14 : decode cX12_closesSums 14 = .ok (.if_icmp .le 23, 3) := by decide +kernel
theorem dX12_closesSums_17 : decode cX12_closesSums 17 = .ok (.iload_n 1, 1) := by decide +kernel
theorem dX12_closesSums_18 : decode cX12_closesSums 18 = .ok (.ifCond .eq 41, 3) := by decide +kernel
theorem dX12_closesSums_21 : decode cX12_closesSums 21 = .ok (.aload_n 0, 1) := by decide +kernel
theorem dX12_closesSums_22 : decode cX12_closesSums 22 = .ok (.invokevirtual 209, 3) := by decide +kernel
theorem dX12_closesSums_25 : decode cX12_closesSums 25 = .ok (.iconst 2, 1) := by decide +kernel
theorem dX12_closesSums_26 : decode cX12_closesSums 26 = .ok (.if_icmp .eq 11, 3) := by decide +kernel
theorem dX12_closesSums_29 : decode cX12_closesSums 29 = .ok (.aload_n 0, 1) := by decide +kernel
theorem dX12_closesSums_30 : decode cX12_closesSums 30 = .ok (.invokevirtual 209, 3) := by decide +kernel
theorem dX12_closesSums_33 : decode cX12_closesSums 33 = .ok (.iconst 3, 1) := by decide +kernel
theorem dX12_closesSums_34 : decode cX12_closesSums 34 = .ok (.if_icmp .ne 25, 3) := by decide +kernel
theorem dX12_closesSums_37 : decode cX12_closesSums 37 = .ok (.aload_n 0, 1) := by decide +kernel
theorem dX12_closesSums_38 : decode cX12_closesSums 38 = .ok (.aload_n 0, 1) := by decide +kernel
theorem dX12_closesSums_39 : decode cX12_closesSums 39 = .ok (.invokevirtual 209, 3) := by decide +kernel
theorem dX12_closesSums_42 : decode cX12_closesSums 42 = .ok (.iconst 0, 1) := by decide +kernel
theorem dX12_closesSums_43 : decode cX12_closesSums 43 = .ok (.invokevirtual 212, 3) := by decide +kernel
theorem dX12_closesSums_46 : decode cX12_closesSums 46 = .ok (.aload_n 0, 1) := by decide +kernel
theorem dX12_closesSums_47 : decode cX12_closesSums 47 = .ok (.aload_n 0, 1) := by decide +kernel
theorem dX12_closesSums_48 : decode cX12_closesSums 48 = .ok (.getfield 206, 3) := by decide +kernel
theorem dX12_closesSums_51 : decode cX12_closesSums 51 = .ok (.iconst 1, 1) := by decide +kernel
theorem dX12_closesSums_52 : decode cX12_closesSums 52 = .ok (.isub, 1) := by decide +kernel
theorem dX12_closesSums_53 : decode cX12_closesSums 53 = .ok (.putfield 206, 3) := by decide +kernel
theorem dX12_closesSums_56 : decode cX12_closesSums 56 = .ok (.goto (-56), 3) := by decide +kernel
theorem dX12_closesSums_59 : decode cX12_closesSums 59 = .ok (.return_, 1) := by decide +kernel
theorem dX12_readsFactor_0 : decode cX12_readsFactor 0 = .ok (.aload_n 0, 1) := by decide +kernel
theorem dX12_readsFactor_1 : decode cX12_readsFactor 1 = .ok (.invokevirtual 181, 3) := by decide +kernel
theorem dX12_readsFactor_4 : decode cX12_readsFactor 4 = .ok (.bipush 91, 2) := by decide +kernel
theorem dX12_readsFactor_6 : decode cX12_readsFactor 6 = .ok (.if_icmp .ne 14, 3) := by decide +kernel
theorem dX12_readsFactor_9 : decode cX12_readsFactor 9 = .ok (.aload_n 0, 1) := by decide +kernel
theorem dX12_readsFactor_10 : decode cX12_readsFactor 10 = .ok (.bipush 14, 2) := by decide +kernel
theorem dX12_readsFactor_12 : decode cX12_readsFactor 12 = .ok (.invokevirtual 216, 3) := by decide +kernel
theorem dX12_readsFactor_15 : decode cX12_readsFactor 15 = .ok (.ifCond .ne (-15), 3) := by decide +kernel
theorem dX12_readsFactor_18 : decode cX12_readsFactor 18 = .ok (.iconst 0, 1) := by decide +kernel
theorem dX12_readsFactor_19 : decode cX12_readsFactor 19 = .ok (.ireturn, 1) := by decide +kernel
theorem dX12_readsFactor_20 : decode cX12_readsFactor 20 = .ok (.aload_n 0, 1) := by decide +kernel
theorem dX12_readsFactor_21 : decode cX12_readsFactor 21 = .ok (.invokevirtual 195, 3) := by decide +kernel
theorem dX12_readsFactor_24 : decode cX12_readsFactor 24 = .ok (.ifCond .eq 23, 3) := by decide +kernel
theorem dX12_readsFactor_27 : decode cX12_readsFactor 27 = .ok (.aload_n 0, 1) := by decide +kernel
theorem dX12_readsFactor_28 : decode cX12_readsFactor 28 = .ok (.invokevirtual 219, 3) := by decide +kernel
theorem dX12_readsFactor_31 : decode cX12_readsFactor 31 = .ok (.ifCond .ne 5, 3) := by decide +kernel
theorem dX12_readsFactor_34 : decode cX12_readsFactor 34 = .ok (.iconst 0, 1) := by decide +kernel
theorem dX12_readsFactor_35 : decode cX12_readsFactor 35 = .ok (.ireturn, 1) := by decide +kernel
theorem dX12_readsFactor_36 : decode cX12_readsFactor 36 = .ok (.aload_n 0, 1) := by decide +kernel
theorem dX12_readsFactor_37 : decode cX12_readsFactor 37 = .ok (.iconst 0, 1) := by decide +kernel
theorem dX12_readsFactor_38 : decode cX12_readsFactor 38 = .ok (.aload_n 0, 1) := by decide +kernel
theorem dX12_readsFactor_39 : decode cX12_readsFactor 39 = .ok (.getfield 192, 3) := by decide +kernel
theorem dX12_readsFactor_42 : decode cX12_readsFactor 42 = .ok (.invokevirtual 212, 3) := by decide +kernel
theorem dX12_readsFactor_45 : decode cX12_readsFactor 45 = .ok (.iconst 1, 1) := by decide +kernel
theorem dX12_readsFactor_46 : decode cX12_readsFactor 46 = .ok (.ireturn, 1) := by decide +kernel
theorem dX12_readsFactor_47 : decode cX12_readsFactor 47 = .ok (.aload_n 0, 1) := by decide +kernel
theorem dX12_readsFactor_48 : decode cX12_readsFactor 48 = .ok (.invokevirtual 181, 3) := by decide +kernel
theorem dX12_readsFactor_51 : decode cX12_readsFactor 51 = .ok (.invokestatic 222, 3) := by decide +kernel
theorem dX12_readsFactor_54 : decode cX12_readsFactor 54 = .ok (.istore_n 1, 1) := by decide +kernel
theorem dX12_readsFactor_55 : decode cX12_readsFactor 55 = .ok (.iload_n 1, 1) := by decide +kernel
theorem dX12_readsFactor_56 : decode cX12_readsFactor 56 = .ok (.iconst (-1), 1) := by decide +kernel
theorem dX12_readsFactor_57 : decode cX12_readsFactor 57 = .ok (.if_icmp .ne 13, 3) := by decide +kernel
theorem dX12_readsFactor_60 : decode cX12_readsFactor 60 = .ok (.aload_n 0, 1) := by decide +kernel
theorem dX12_readsFactor_61 : decode cX12_readsFactor 61 = .ok (.iconst 1, 1) := by decide +kernel
theorem dX12_readsFactor_62 : decode cX12_readsFactor 62 = .ok (.aload_n 0, 1) := by decide +kernel
theorem dX12_readsFactor_63 : decode cX12_readsFactor 63 = .ok (.getfield 175, 3) := by decide +kernel
theorem dX12_readsFactor_66 : decode cX12_readsFactor 66 = .ok (.invokevirtual 188, 3) := by decide +kernel
theorem dX12_readsFactor_69 : decode cX12_readsFactor 69 = .ok (.ireturn, 1) := by decide +kernel
theorem dX12_readsFactor_70 : decode cX12_readsFactor 70 = .ok (.aload_n 0, 1) := by decide +kernel
theorem dX12_readsFactor_71 : decode cX12_readsFactor 71 = .ok (.iconst 1, 1) := by decide +kernel
theorem dX12_readsFactor_72 : decode cX12_readsFactor 72 = .ok (.iload_n 1, 1) := by decide +kernel
theorem dX12_readsFactor_73 : decode cX12_readsFactor 73 = .ok (.invokevirtual 212, 3) := by decide +kernel
