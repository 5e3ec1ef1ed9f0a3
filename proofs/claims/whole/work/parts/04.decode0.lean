theorem dX0_greedyBasis_0 : decode cX0_greedyBasis 0 = .ok (.iconst 0, 1) := by decide +kernel
theorem dX0_greedyBasis_1 : decode cX0_greedyBasis 1 = .ok (.istore_n 2, 1) := by decide +kernel
theorem dX0_greedyBasis_2 : decode cX0_greedyBasis 2 = .ok (.iconst 0, 1) := by decide +kernel
theorem dX0_greedyBasis_3 : decode cX0_greedyBasis 3 = .ok (.istore_n 3, 1) := by decide +kernel
theorem dX0_greedyBasis_4 : decode cX0_greedyBasis 4 = .ok (.iconst 0, 1) := by decide +kernel
theorem dX0_greedyBasis_5 : decode cX0_greedyBasis 5 = .ok (.istore 4, 2) := by decide +kernel
theorem dX0_greedyBasis_7 : decode cX0_greedyBasis 7 = .ok (.iload 4, 2) := by decide +kernel
theorem dX0_greedyBasis_9 : decode cX0_greedyBasis 9 = .ok (.aload_n 0, 1) := by decide +kernel
theorem dX0_greedyBasis_10 : decode cX0_greedyBasis 10 = .ok (.getfield 9, 3) := by decide +kernel
theorem dX0_greedyBasis_13 : decode cX0_greedyBasis 13 = .ok (.if_icmp .ge 112, 3) := by decide +kernel
theorem dX0_greedyBasis_16 : decode cX0_greedyBasis 16 = .ok (.iconst (-1), 1) := by decide +kernel
theorem dX0_greedyBasis_17 : decode cX0_greedyBasis 17 = .ok (.istore 5, 2) := by decide +kernel
theorem dX0_greedyBasis_19 : decode cX0_greedyBasis 19 = .ok (.iconst 0, 1) := by decide +kernel
theorem dX0_greedyBasis_20 : decode cX0_greedyBasis 20 = .ok (.istore 6, 2) := by decide +kernel
theorem dX0_greedyBasis_22 : decode cX0_greedyBasis 22 = .ok (.iload 6, 2) := by decide +kernel
theorem dX0_greedyBasis_24 : decode cX0_greedyBasis 24 = .ok (.aload_n 0, 1) := by decide +kernel
theorem dX0_greedyBasis_25 : decode cX0_greedyBasis 25 = .ok (.getfield 9, 3) := by decide +kernel
theorem dX0_greedyBasis_28 : decode cX0_greedyBasis 28 = .ok (.if_icmp .ge 54, 3) := by decide +kernel
theorem dX0_greedyBasis_31 : decode cX0_greedyBasis 31 = .ok (.iload_n 3, 1) := by decide +kernel
theorem dX0_greedyBasis_32 : decode cX0_greedyBasis 32 = .ok (.iconst 1, 1) := by decide +kernel
theorem dX0_greedyBasis_33 : decode cX0_greedyBasis 33 = .ok (.iload 6, 2) := by decide +kernel
theorem dX0_greedyBasis_35 : decode cX0_greedyBasis 35 = .ok (.ishl, 1) := by decide +kernel
theorem dX0_greedyBasis_36 : decode cX0_greedyBasis 36 = .ok (.iand, 1) := by decide +kernel
theorem dX0_greedyBasis_37 : decode cX0_greedyBasis 37 = .ok (.ifCond .ne 7, 3) := by decide +kernel
theorem dX0_greedyBasis_40 : decode cX0_greedyBasis 40 = .ok (.iconst 1, 1) := by decide +kernel
theorem dX0_greedyBasis_41 : decode cX0_greedyBasis 41 = .ok (.goto 4, 3) := by decide +kernel
theorem dX0_greedyBasis_44 : decode cX0_greedyBasis 44 = .ok (.iconst 0, 1) := by decide +kernel
theorem dX0_greedyBasis_45 : decode cX0_greedyBasis 45 = .ok (.istore 7, 2) := by decide +kernel
theorem dX0_greedyBasis_47 : decode cX0_greedyBasis 47 = .ok (.iload 7, 2) := by decide +kernel
theorem dX0_greedyBasis_49 : decode cX0_greedyBasis 49 = .ok (.ifCond .eq 27, 3) := by decide +kernel
theorem dX0_greedyBasis_52 : decode cX0_greedyBasis 52 = .ok (.iload 5, 2) := by decide +kernel
theorem dX0_greedyBasis_54 : decode cX0_greedyBasis 54 = .ok (.ifCond .lt 18, 3) := by decide +kernel
theorem dX0_greedyBasis_57 : decode cX0_greedyBasis 57 = .ok (.aload_n 1, 1) := by decide +kernel
theorem dX0_greedyBasis_58 : decode cX0_greedyBasis 58 = .ok (.iload 6, 2) := by decide +kernel
theorem dX0_greedyBasis_60 : decode cX0_greedyBasis 60 = .ok (.invokevirtual 15, 3) := by decide +kernel
theorem dX0_greedyBasis_63 : decode cX0_greedyBasis 63 = .ok (.aload_n 1, 1) := by decide +kernel
theorem dX0_greedyBasis_64 : decode cX0_greedyBasis 64 = .ok (.iload 5, 2) := by decide +kernel
theorem dX0_greedyBasis_66 : decode cX0_greedyBasis 66 = .ok (.invokevirtual 15, 3) := by decide +kernel
theorem dX0_greedyBasis_69 : decode cX0_greedyBasis 69 = .ok (.if_icmp .le 7, 3) := by decide +kernel
theorem dX0_greedyBasis_72 : decode cX0_greedyBasis 72 = .ok (.iload 6, 2) := by decide +kernel
theorem dX0_greedyBasis_74 : decode cX0_greedyBasis 74 = .ok (.istore 5, 2) := by decide +kernel
theorem dX0_greedyBasis_76 : decode cX0_greedyBasis 76 = .ok (.iinc 6 1, 3) := by decide +kernel
theorem dX0_greedyBasis_79 : decode cX0_greedyBasis 79 = .ok (.goto (-57), 3) := by decide +kernel
theorem dX0_greedyBasis_82 : decode cX0_greedyBasis 82 = .ok (.iload 5, 2) := by decide +kernel
theorem dX0_greedyBasis_84 : decode cX0_greedyBasis 84 = .ok (.ifCond .ge 7, 3) := by decide +kernel
theorem dX0_greedyBasis_87 : decode cX0_greedyBasis 87 = .ok (.iconst 0, 1) := by decide +kernel
theorem dX0_greedyBasis_88 : decode cX0_greedyBasis 88 = .ok (.goto 7, 3) := by decide +kernel
theorem dX0_greedyBasis_91 : decode cX0_greedyBasis 91 = .ok (.iconst 1, 1) := by decide +kernel
theorem dX0_greedyBasis_92 : decode cX0_greedyBasis 92 = .ok (.iload 5, 2) := by decide +kernel
theorem dX0_greedyBasis_94 : decode cX0_greedyBasis 94 = .ok (.ishl, 1) := by decide +kernel
theorem dX0_greedyBasis_95 : decode cX0_greedyBasis 95 = .ok (.istore 6, 2) := by decide +kernel
theorem dX0_greedyBasis_97 : decode cX0_greedyBasis 97 = .ok (.iload_n 3, 1) := by decide +kernel
theorem dX0_greedyBasis_98 : decode cX0_greedyBasis 98 = .ok (.iload 6, 2) := by decide +kernel
theorem dX0_greedyBasis_100 : decode cX0_greedyBasis 100 = .ok (.ior, 1) := by decide +kernel
theorem dX0_greedyBasis_101 : decode cX0_greedyBasis 101 = .ok (.istore_n 3, 1) := by decide +kernel
theorem dX0_greedyBasis_102 : decode cX0_greedyBasis 102 = .ok (.aload_n 0, 1) := by decide +kernel
theorem dX0_greedyBasis_103 : decode cX0_greedyBasis 103 = .ok (.iload_n 2, 1) := by decide +kernel
theorem dX0_greedyBasis_104 : decode cX0_greedyBasis 104 = .ok (.iload 6, 2) := by decide +kernel
theorem dX0_greedyBasis_106 : decode cX0_greedyBasis 106 = .ok (.ior, 1) := by decide +kernel
theorem dX0_greedyBasis_107 : decode cX0_greedyBasis 107 = .ok (.iconst 1, 1) := by decide +kernel
theorem dX0_greedyBasis_108 : decode cX0_greedyBasis 108 = .ok (.invokevirtual 21, 3) := by decide +kernel
theorem dX0_greedyBasis_111 : decode cX0_greedyBasis 111 = .ok (.ifCond .eq 8, 3) := by decide +kernel
theorem dX0_greedyBasis_114 : decode cX0_greedyBasis 114 = .ok (.iload_n 2, 1) := by decide +kernel
theorem dX0_greedyBasis_115 : decode cX0_greedyBasis 115 = .ok (.iload 6, 2) := by decide +kernel
theorem dX0_greedyBasis_117 : decode cX0_greedyBasis 117 = .ok (.ior, 1) := by decide +kernel
theorem dX0_greedyBasis_118 : decode cX0_greedyBasis 118 = .ok (.istore_n 2, 1) := by decide +kernel
theorem dX0_greedyBasis_119 : decode cX0_greedyBasis 119 = .ok (.iinc 4 1, 3) := by decide +kernel
theorem dX0_greedyBasis_122 : decode cX0_greedyBasis 122 = .ok (.goto (-115), 3) := by decide +kernel
theorem dX0_greedyBasis_125 : decode cX0_greedyBasis 125 = .ok (.iload_n 2, 1) := by decide +kernel
theorem dX0_greedyBasis_126 : decode cX0_greedyBasis 126 = .ok (.ireturn, 1) := by decide +kernel
theorem dX0_greatestInBoth_0 : decode cX0_greatestInBoth 0 = .ok (.iconst 0, 1) := by decide +kernel
theorem dX0_greatestInBoth_1 : decode cX0_greatestInBoth 1 = .ok (.istore_n 2, 1) := by decide +kernel
theorem dX0_greatestInBoth_2 : decode cX0_greatestInBoth 2 = .ok (.iconst 0, 1) := by decide +kernel
theorem dX0_greatestInBoth_3 : decode cX0_greatestInBoth 3 = .ok (.istore_n 3, 1) := by decide +kernel
theorem dX0_greatestInBoth_4 : decode cX0_greatestInBoth 4 = .ok (.iload_n 3, 1) := by decide +kernel
theorem dX0_greatestInBoth_5 : decode cX0_greatestInBoth 5 = .ok (.aload_n 0, 1) := by decide +kernel
theorem dX0_greatestInBoth_6 : decode cX0_greatestInBoth 6 = .ok (.getfield 25, 3) := by decide +kernel
theorem dX0_greatestInBoth_9 : decode cX0_greatestInBoth 9 = .ok (.if_icmp .gt 40, 3) := by decide +kernel
theorem dX0_greatestInBoth_12 : decode cX0_greatestInBoth 12 = .ok (.iload_n 3, 1) := by decide +kernel
theorem dX0_greatestInBoth_13 : decode cX0_greatestInBoth 13 = .ok (.invokestatic 28, 3) := by decide +kernel
theorem dX0_greatestInBoth_16 : decode cX0_greatestInBoth 16 = .ok (.iload_n 2, 1) := by decide +kernel
theorem dX0_greatestInBoth_17 : decode cX0_greatestInBoth 17 = .ok (.invokestatic 28, 3) := by decide +kernel
theorem dX0_greatestInBoth_20 : decode cX0_greatestInBoth 20 = .ok (.if_icmp .le 23, 3) := by decide +kernel
theorem dX0_greatestInBoth_23 : decode cX0_greatestInBoth 23 = .ok (.aload_n 0, 1) := by decide +kernel
theorem dX0_greatestInBoth_24 : decode cX0_greatestInBoth 24 = .ok (.iload_n 3, 1) := by decide +kernel
theorem dX0_greatestInBoth_25 : decode cX0_greatestInBoth 25 = .ok (.iconst 1, 1) := by decide +kernel
theorem dX0_greatestInBoth_26 : decode cX0_greatestInBoth 26 = .ok (.invokevirtual 21, 3) := by decide +kernel
theorem dX0_greatestInBoth_29 : decode cX0_greatestInBoth 29 = .ok (.ifCond .eq 14, 3) := by decide +kernel
theorem dX0_greatestInBoth_32 : decode cX0_greatestInBoth 32 = .ok (.aload_n 1, 1) := by decide +kernel
theorem dX0_greatestInBoth_33 : decode cX0_greatestInBoth 33 = .ok (.iload_n 3, 1) := by decide +kernel
theorem dX0_greatestInBoth_34 : decode cX0_greatestInBoth 34 = .ok (.iconst 1, 1) := by decide +kernel
theorem dX0_greatestInBoth_35 : decode cX0_greatestInBoth 35 = .ok (.invokevirtual 21, 3) := by decide +kernel
theorem dX0_greatestInBoth_38 : decode cX0_greatestInBoth 38 = .ok (.ifCond .eq 5, 3) := by decide +kernel
theorem dX0_greatestInBoth_41 : decode cX0_greatestInBoth 41 = .ok (.iload_n 3, 1) := by decide +kernel
theorem dX0_greatestInBoth_42 : decode cX0_greatestInBoth 42 = .ok (.istore_n 2, 1) := by decide +kernel
theorem dX0_greatestInBoth_43 : decode cX0_greatestInBoth 43 = .ok (.iinc 3 1, 3) := by decide +kernel
theorem dX0_greatestInBoth_46 : decode cX0_greatestInBoth 46 = .ok (.goto (-42), 3) := by decide +kernel
theorem dX0_greatestInBoth_49 : decode cX0_greatestInBoth 49 = .ok (.iload_n 2, 1) := by decide +kernel
theorem dX0_greatestInBoth_50 : decode cX0_greatestInBoth 50 = .ok (.ireturn, 1) := by decide +kernel
theorem dX0_leastForBoth_0 : decode cX0_leastForBoth 0 = .ok (.iconst 0, 1) := by decide +kernel
theorem dX0_leastForBoth_1 : decode cX0_leastForBoth 1 = .ok (.istore_n 2, 1) := by decide +kernel
theorem dX0_leastForBoth_2 : decode cX0_leastForBoth 2 = .ok (.aload_n 1, 1) := by decide +kernel
theorem dX0_leastForBoth_3 : decode cX0_leastForBoth 3 = .ok (.getfield 33, 3) := by decide +kernel
theorem dX0_leastForBoth_6 : decode cX0_leastForBoth 6 = .ok (.istore_n 3, 1) := by decide +kernel
theorem dX0_leastForBoth_7 : decode cX0_leastForBoth 7 = .ok (.iconst 0, 1) := by decide +kernel
theorem dX0_leastForBoth_8 : decode cX0_leastForBoth 8 = .ok (.istore 4, 2) := by decide +kernel
theorem dX0_leastForBoth_10 : decode cX0_leastForBoth 10 = .ok (.iload 4, 2) := by decide +kernel
theorem dX0_leastForBoth_12 : decode cX0_leastForBoth 12 = .ok (.aload_n 0, 1) := by decide +kernel
theorem dX0_leastForBoth_13 : decode cX0_leastForBoth 13 = .ok (.getfield 25, 3) := by decide +kernel
theorem dX0_leastForBoth_16 : decode cX0_leastForBoth 16 = .ok (.if_icmp .gt 43, 3) := by decide +kernel
theorem dX0_leastForBoth_19 : decode cX0_leastForBoth 19 = .ok (.aload_n 0, 1) := by decide +kernel
theorem dX0_leastForBoth_20 : decode cX0_leastForBoth 20 = .ok (.iload 4, 2) := by decide +kernel
theorem dX0_leastForBoth_22 : decode cX0_leastForBoth 22 = .ok (.invokevirtual 36, 3) := by decide +kernel
theorem dX0_leastForBoth_25 : decode cX0_leastForBoth 25 = .ok (.aload_n 1, 1) := by decide +kernel
theorem dX0_leastForBoth_26 : decode cX0_leastForBoth 26 = .ok (.aload_n 1, 1) := by decide +kernel
theorem dX0_leastForBoth_27 : decode cX0_leastForBoth 27 = .ok (.getfield 25, 3) := by decide +kernel
theorem dX0_leastForBoth_30 : decode cX0_leastForBoth 30 = .ok (.iload 4, 2) := by decide +kernel
theorem dX0_leastForBoth_32 : decode cX0_leastForBoth 32 = .ok (.iconst (-1), 1) := by decide +kernel
theorem dX0_leastForBoth_33 : decode cX0_leastForBoth 33 = .ok (.ixor, 1) := by decide +kernel
theorem dX0_leastForBoth_34 : decode cX0_leastForBoth 34 = .ok (.iand, 1) := by decide +kernel
theorem dX0_leastForBoth_35 : decode cX0_leastForBoth 35 = .ok (.invokevirtual 36, 3) := by decide +kernel
theorem dX0_leastForBoth_38 : decode cX0_leastForBoth 38 = .ok (.iadd, 1) := by decide +kernel
theorem dX0_leastForBoth_39 : decode cX0_leastForBoth 39 = .ok (.istore 5, 2) := by decide +kernel
theorem dX0_leastForBoth_41 : decode cX0_leastForBoth 41 = .ok (.iload 5, 2) := by decide +kernel
theorem dX0_leastForBoth_43 : decode cX0_leastForBoth 43 = .ok (.iload_n 3, 1) := by decide +kernel
theorem dX0_leastForBoth_44 : decode cX0_leastForBoth 44 = .ok (.if_icmp .ge 9, 3) := by decide +kernel
theorem dX0_leastForBoth_47 : decode cX0_leastForBoth 47 = .ok (.iload 4, 2) := by decide +kernel
theorem dX0_leastForBoth_49 : decode cX0_leastForBoth 49 = .ok (.istore_n 2, 1) := by decide +kernel
theorem dX0_leastForBoth_50 : decode cX0_leastForBoth 50 = .ok (.iload 5, 2) := by decide +kernel
theorem dX0_leastForBoth_52 : decode cX0_leastForBoth 52 = .ok (.istore_n 3, 1) := by decide +kernel
theorem dX0_leastForBoth_53 : decode cX0_leastForBoth 53 = .ok (.iinc 4 1, 3) := by decide +kernel
theorem dX0_leastForBoth_56 : decode cX0_leastForBoth 56 = .ok (.goto (-46), 3) := by decide +kernel
theorem dX0_leastForBoth_59 : decode cX0_leastForBoth 59 = .ok (.iload_n 2, 1) := by decide +kernel
theorem dX0_leastForBoth_60 : decode cX0_leastForBoth 60 = .ok (.ireturn, 1) := by decide +kernel
theorem dX0_hardestToCover_0 : decode cX0_hardestToCover 0 = .ok (.iconst 0, 1) := by decide +kernel
theorem dX0_hardestToCover_1 : decode cX0_hardestToCover 1 = .ok (.istore_n 1, 1) := by decide +kernel
theorem dX0_hardestToCover_2 : decode cX0_hardestToCover 2 = .ok (.iconst 0, 1) := by decide +kernel
theorem dX0_hardestToCover_3 : decode cX0_hardestToCover 3 = .ok (.istore_n 2, 1) := by decide +kernel
theorem dX0_hardestToCover_4 : decode cX0_hardestToCover 4 = .ok (.iconst 1, 1) := by decide +kernel
theorem dX0_hardestToCover_5 : decode cX0_hardestToCover 5 = .ok (.istore_n 3, 1) := by decide +kernel
theorem dX0_hardestToCover_6 : decode cX0_hardestToCover 6 = .ok (.iload_n 3, 1) := by decide +kernel
theorem dX0_hardestToCover_7 : decode cX0_hardestToCover 7 = .ok (.aload_n 0, 1) := by decide +kernel
theorem dX0_hardestToCover_8 : decode cX0_hardestToCover 8 = .ok (.getfield 25, 3) := by decide +kernel
theorem dX0_hardestToCover_11 : decode cX0_hardestToCover 11 = .ok (.if_icmp .gt 27, 3) := by decide +kernel
theorem dX0_hardestToCover_14 : decode cX0_hardestToCover 14 = .ok (.aload_n 0, 1) := by decide +kernel
theorem dX0_hardestToCover_15 : decode cX0_hardestToCover 15 = .ok (.iload_n 3, 1) := by decide +kernel
theorem dX0_hardestToCover_16 : decode cX0_hardestToCover 16 = .ok (.invokestatic 39, 3) := by decide +kernel
theorem dX0_hardestToCover_19 : decode cX0_hardestToCover 19 = .ok (.istore 4, 2) := by decide +kernel
theorem dX0_hardestToCover_21 : decode cX0_hardestToCover 21 = .ok (.iload 4, 2) := by decide +kernel
theorem dX0_hardestToCover_23 : decode cX0_hardestToCover 23 = .ok (.iload_n 2, 1) := by decide +kernel
theorem dX0_hardestToCover_24 : decode cX0_hardestToCover 24 = .ok (.if_icmp .le 8, 3) := by decide +kernel
theorem dX0_hardestToCover_27 : decode cX0_hardestToCover 27 = .ok (.iload_n 3, 1) := by decide +kernel
theorem dX0_hardestToCover_28 : decode cX0_hardestToCover 28 = .ok (.istore_n 1, 1) := by decide +kernel
theorem dX0_hardestToCover_29 : decode cX0_hardestToCover 29 = .ok (.iload 4, 2) := by decide +kernel
theorem dX0_hardestToCover_31 : decode cX0_hardestToCover 31 = .ok (.istore_n 2, 1) := by decide +kernel
theorem dX0_hardestToCover_32 : decode cX0_hardestToCover 32 = .ok (.iinc 3 1, 3) := by decide +kernel
theorem dX0_hardestToCover_35 : decode cX0_hardestToCover 35 = .ok (.goto (-29), 3) := by decide +kernel
theorem dX0_hardestToCover_38 : decode cX0_hardestToCover 38 = .ok (.iload_n 1, 1) := by decide +kernel
theorem dX0_hardestToCover_39 : decode cX0_hardestToCover 39 = .ok (.ireturn, 1) := by decide +kernel
theorem dX0_partsFor_0 : decode cX0_partsFor 0 = .ok (.aload_n 0, 1) := by decide +kernel
theorem dX0_partsFor_1 : decode cX0_partsFor 1 = .ok (.iload_n 1, 1) := by decide +kernel
theorem dX0_partsFor_2 : decode cX0_partsFor 2 = .ok (.invokevirtual 36, 3) := by decide +kernel
theorem dX0_partsFor_5 : decode cX0_partsFor 5 = .ok (.istore_n 2, 1) := by decide +kernel
theorem dX0_partsFor_6 : decode cX0_partsFor 6 = .ok (.iload_n 2, 1) := by decide +kernel
theorem dX0_partsFor_7 : decode cX0_partsFor 7 = .ok (.ifCond .gt 7, 3) := by decide +kernel
theorem dX0_partsFor_10 : decode cX0_partsFor 10 = .ok (.iconst 0, 1) := by decide +kernel
theorem dX0_partsFor_11 : decode cX0_partsFor 11 = .ok (.goto 13, 3) := by decide +kernel
theorem dX0_partsFor_14 : decode cX0_partsFor 14 = .ok (.iload_n 1, 1) := by decide +kernel
theorem dX0_partsFor_15 : decode cX0_partsFor 15 = .ok (.invokestatic 28, 3) := by decide +kernel
theorem dX0_partsFor_18 : decode cX0_partsFor 18 = .ok (.iload_n 2, 1) := by decide +kernel
theorem dX0_partsFor_19 : decode cX0_partsFor 19 = .ok (.iadd, 1) := by decide +kernel
theorem dX0_partsFor_20 : decode cX0_partsFor 20 = .ok (.iconst 1, 1) := by decide +kernel
theorem dX0_partsFor_21 : decode cX0_partsFor 21 = .ok (.isub, 1) := by decide +kernel
theorem dX0_partsFor_22 : decode cX0_partsFor 22 = .ok (.iload_n 2, 1) := by decide +kernel
theorem dX0_partsFor_23 : decode cX0_partsFor 23 = .ok (.idiv, 1) := by decide +kernel
theorem dX0_partsFor_24 : decode cX0_partsFor 24 = .ok (.ireturn, 1) := by decide +kernel
theorem dX0_hardestToPack_0 : decode cX0_hardestToPack 0 = .ok (.iconst 0, 1) := by decide +kernel
theorem dX0_hardestToPack_1 : decode cX0_hardestToPack 1 = .ok (.istore_n 1, 1) := by decide +kernel
theorem dX0_hardestToPack_2 : decode cX0_hardestToPack 2 = .ok (.aload_n 0, 1) := by decide +kernel
theorem dX0_hardestToPack_3 : decode cX0_hardestToPack 3 = .ok (.iconst 0, 1) := by decide +kernel
theorem dX0_hardestToPack_4 : decode cX0_hardestToPack 4 = .ok (.invokestatic 45, 3) := by decide +kernel
theorem dX0_hardestToPack_7 : decode cX0_hardestToPack 7 = .ok (.istore_n 2, 1) := by decide +kernel
theorem dX0_hardestToPack_8 : decode cX0_hardestToPack 8 = .ok (.iconst 1, 1) := by decide +kernel
theorem dX0_hardestToPack_9 : decode cX0_hardestToPack 9 = .ok (.istore_n 3, 1) := by decide +kernel
theorem dX0_hardestToPack_10 : decode cX0_hardestToPack 10 = .ok (.iload_n 3, 1) := by decide +kernel
theorem dX0_hardestToPack_11 : decode cX0_hardestToPack 11 = .ok (.aload_n 0, 1) := by decide +kernel
theorem dX0_hardestToPack_12 : decode cX0_hardestToPack 12 = .ok (.getfield 25, 3) := by decide +kernel
theorem dX0_hardestToPack_15 : decode cX0_hardestToPack 15 = .ok (.if_icmp .gt 39, 3) := by decide +kernel
theorem dX0_hardestToPack_18 : decode cX0_hardestToPack 18 = .ok (.aload_n 0, 1) := by decide +kernel
theorem dX0_hardestToPack_19 : decode cX0_hardestToPack 19 = .ok (.iload_n 3, 1) := by decide +kernel
theorem dX0_hardestToPack_20 : decode cX0_hardestToPack 20 = .ok (.invokevirtual 36, 3) := by decide +kernel
theorem dX0_hardestToPack_23 : decode cX0_hardestToPack 23 = .ok (.aload_n 0, 1) := by decide +kernel
theorem dX0_hardestToPack_24 : decode cX0_hardestToPack 24 = .ok (.getfield 33, 3) := by decide +kernel
theorem dX0_hardestToPack_27 : decode cX0_hardestToPack 27 = .ok (.if_icmp .ge 21, 3) := by decide +kernel
theorem dX0_hardestToPack_30 : decode cX0_hardestToPack 30 = .ok (.aload_n 0, 1) := by decide +kernel
theorem dX0_hardestToPack_31 : decode cX0_hardestToPack 31 = .ok (.iload_n 3, 1) := by decide +kernel
theorem dX0_hardestToPack_32 : decode cX0_hardestToPack 32 = .ok (.invokestatic 45, 3) := by decide +kernel
theorem dX0_hardestToPack_35 : decode cX0_hardestToPack 35 = .ok (.istore 4, 2) := by decide +kernel
theorem dX0_hardestToPack_37 : decode cX0_hardestToPack 37 = .ok (.iload 4, 2) := by decide +kernel
theorem dX0_hardestToPack_39 : decode cX0_hardestToPack 39 = .ok (.iload_n 2, 1) := by decide +kernel
theorem dX0_hardestToPack_40 : decode cX0_hardestToPack 40 = .ok (.if_icmp .ge 8, 3) := by decide +kernel
theorem dX0_hardestToPack_43 : decode cX0_hardestToPack 43 = .ok (.iload_n 3, 1) := by decide +kernel
theorem dX0_hardestToPack_44 : decode cX0_hardestToPack 44 = .ok (.istore_n 1, 1) := by decide +kernel
theorem dX0_hardestToPack_45 : decode cX0_hardestToPack 45 = .ok (.iload 4, 2) := by decide +kernel
theorem dX0_hardestToPack_47 : decode cX0_hardestToPack 47 = .ok (.istore_n 2, 1) := by decide +kernel
theorem dX0_hardestToPack_48 : decode cX0_hardestToPack 48 = .ok (.iinc 3 1, 3) := by decide +kernel
theorem dX0_hardestToPack_51 : decode cX0_hardestToPack 51 = .ok (.goto (-41), 3) := by decide +kernel
theorem dX0_hardestToPack_54 : decode cX0_hardestToPack 54 = .ok (.iload_n 1, 1) := by decide +kernel
theorem dX0_hardestToPack_55 : decode cX0_hardestToPack 55 = .ok (.ireturn, 1) := by decide +kernel
theorem dX0_basesBeside_0 : decode cX0_basesBeside 0 = .ok (.aload_n 0, 1) := by decide +kernel
theorem dX0_basesBeside_1 : decode cX0_basesBeside 1 = .ok (.getfield 33, 3) := by decide +kernel
theorem dX0_basesBeside_4 : decode cX0_basesBeside 4 = .ok (.aload_n 0, 1) := by decide +kernel
theorem dX0_basesBeside_5 : decode cX0_basesBeside 5 = .ok (.iload_n 1, 1) := by decide +kernel
theorem dX0_basesBeside_6 : decode cX0_basesBeside 6 = .ok (.invokevirtual 36, 3) := by decide +kernel
theorem dX0_basesBeside_9 : decode cX0_basesBeside 9 = .ok (.isub, 1) := by decide +kernel
theorem dX0_basesBeside_10 : decode cX0_basesBeside 10 = .ok (.istore_n 2, 1) := by decide +kernel
theorem dX0_basesBeside_11 : decode cX0_basesBeside 11 = .ok (.iload_n 2, 1) := by decide +kernel
theorem dX0_basesBeside_12 : decode cX0_basesBeside 12 = .ok (.ifCond .gt 7, 3) := by decide +kernel
theorem dX0_basesBeside_15 : decode cX0_basesBeside 15 = .ok (.iconst 0, 1) := by decide +kernel
theorem dX0_basesBeside_16 : decode cX0_basesBeside 16 = .ok (.goto 14, 3) := by decide +kernel
theorem dX0_basesBeside_19 : decode cX0_basesBeside 19 = .ok (.aload_n 0, 1) := by decide +kernel
theorem dX0_basesBeside_20 : decode cX0_basesBeside 20 = .ok (.getfield 9, 3) := by decide +kernel
theorem dX0_basesBeside_23 : decode cX0_basesBeside 23 = .ok (.iload_n 1, 1) := by decide +kernel
theorem dX0_basesBeside_24 : decode cX0_basesBeside 24 = .ok (.invokestatic 28, 3) := by decide +kernel
theorem dX0_basesBeside_27 : decode cX0_basesBeside 27 = .ok (.isub, 1) := by decide +kernel
theorem dX0_basesBeside_28 : decode cX0_basesBeside 28 = .ok (.iload_n 2, 1) := by decide +kernel
theorem dX0_basesBeside_29 : decode cX0_basesBeside 29 = .ok (.idiv, 1) := by decide +kernel
theorem dX0_basesBeside_30 : decode cX0_basesBeside 30 = .ok (.ireturn, 1) := by decide +kernel
theorem dX1_shapesOf_0 : decode cX1_shapesOf 0 = .ok (.bipush 121, 2) := by decide +kernel
theorem dX1_shapesOf_2 : decode cX1_shapesOf 2 = .ok (.newarray .int, 2) := by decide +kernel
theorem dX1_shapesOf_4 : decode cX1_shapesOf 4 = .ok (.astore_n 1, 1) := by decide +kernel
theorem dX1_shapesOf_5 : decode cX1_shapesOf 5 = .ok (.aload_n 0, 1) := by decide +kernel
theorem dX1_shapesOf_6 : decode cX1_shapesOf 6 = .ok (.aload_n 0, 1) := by decide +kernel
theorem dX1_shapesOf_7 : decode cX1_shapesOf 7 = .ok (.arraylength, 1) := by decide +kernel
theorem dX1_shapesOf_8 : decode cX1_shapesOf 8 = .ok (.iconst 1, 1) := by decide +kernel
theorem dX1_shapesOf_9 : decode cX1_shapesOf 9 = .ok (.isub, 1) := by decide +kernel
theorem dX1_shapesOf_10 : decode cX1_shapesOf 10 = .ok (.invokestatic 11, 3) := by decide +kernel
theorem dX1_shapesOf_13 : decode cX1_shapesOf 13 = .ok (.istore_n 2, 1) := by decide +kernel
theorem dX1_shapesOf_14 : decode cX1_shapesOf 14 = .ok (.iconst 0, 1) := by decide +kernel
theorem dX1_shapesOf_15 : decode cX1_shapesOf 15 = .ok (.istore_n 3, 1) := by decide +kernel
theorem dX1_shapesOf_16 : decode cX1_shapesOf 16 = .ok (.iload_n 3, 1) := by decide +kernel
theorem dX1_shapesOf_17 : decode cX1_shapesOf 17 = .ok (.aload_n 0, 1) := by decide +kernel
theorem dX1_shapesOf_18 : decode cX1_shapesOf 18 = .ok (.arraylength, 1) := by decide +kernel
theorem dX1_shapesOf_19 : decode cX1_shapesOf 19 = .ok (.if_icmp .ge 47, 3) := by decide +kernel
theorem dX1_shapesOf_22 : decode cX1_shapesOf 22 = .ok (.iload_n 2, 1) := by decide +kernel
theorem dX1_shapesOf_23 : decode cX1_shapesOf 23 = .ok (.aload_n 0, 1) := by decide +kernel
theorem dX1_shapesOf_24 : decode cX1_shapesOf 24 = .ok (.iload_n 3, 1) := by decide +kernel
theorem dX1_shapesOf_25 : decode cX1_shapesOf 25 = .ok (.baload, 1) := by decide +kernel
theorem dX1_shapesOf_26 : decode cX1_shapesOf 26 = .ok (.isub, 1) := by decide +kernel
theorem dX1_shapesOf_27 : decode cX1_shapesOf 27 = .ok (.iload_n 3, 1) := by decide +kernel
theorem dX1_shapesOf_28 : decode cX1_shapesOf 28 = .ok (.invokestatic 17, 3) := by decide +kernel
theorem dX1_shapesOf_31 : decode cX1_shapesOf 31 = .ok (.aload_n 0, 1) := by decide +kernel
theorem dX1_shapesOf_32 : decode cX1_shapesOf 32 = .ok (.iload_n 3, 1) := by decide +kernel
theorem dX1_shapesOf_33 : decode cX1_shapesOf 33 = .ok (.baload, 1) := by decide +kernel
theorem dX1_shapesOf_34 : decode cX1_shapesOf 34 = .ok (.isub, 1) := by decide +kernel
theorem dX1_shapesOf_35 : decode cX1_shapesOf 35 = .ok (.invokestatic 23, 3) := by decide +kernel
theorem dX1_shapesOf_38 : decode cX1_shapesOf 38 = .ok (.istore 4, 2) := by decide +kernel
theorem dX1_shapesOf_40 : decode cX1_shapesOf 40 = .ok (.iload 4, 2) := by decide +kernel
theorem dX1_shapesOf_42 : decode cX1_shapesOf 42 = .ok (.ifCond .lt 18, 3) := by decide +kernel
theorem dX1_shapesOf_45 : decode cX1_shapesOf 45 = .ok (.iload 4, 2) := by decide +kernel
theorem dX1_shapesOf_47 : decode cX1_shapesOf 47 = .ok (.aload_n 1, 1) := by decide +kernel
theorem dX1_shapesOf_48 : decode cX1_shapesOf 48 = .ok (.arraylength, 1) := by decide +kernel
theorem dX1_shapesOf_49 : decode cX1_shapesOf 49 = .ok (.if_icmp .ge 11, 3) := by decide +kernel
theorem dX1_shapesOf_52 : decode cX1_shapesOf 52 = .ok (.aload_n 1, 1) := by decide +kernel
theorem dX1_shapesOf_53 : decode cX1_shapesOf 53 = .ok (.iload 4, 2) := by decide +kernel
theorem dX1_shapesOf_55 : decode cX1_shapesOf 55 = .ok (.dup2, 1) := by decide +kernel
theorem dX1_shapesOf_56 : decode cX1_shapesOf 56 = .ok (.iaload, 1) := by decide +kernel
theorem dX1_shapesOf_57 : decode cX1_shapesOf 57 = .ok (.iconst 1, 1) := by decide +kernel
theorem dX1_shapesOf_58 : decode cX1_shapesOf 58 = .ok (.iadd, 1) := by decide +kernel
theorem dX1_shapesOf_59 : decode cX1_shapesOf 59 = .ok (.iastore, 1) := by decide +kernel
theorem dX1_shapesOf_60 : decode cX1_shapesOf 60 = .ok (.iinc 3 1, 3) := by decide +kernel
theorem dX1_shapesOf_63 : decode cX1_shapesOf 63 = .ok (.goto (-47), 3) := by decide +kernel
theorem dX1_shapesOf_66 : decode cX1_shapesOf 66 = .ok (.aload_n 1, 1) := by decide +kernel
theorem dX1_shapesOf_67 : decode cX1_shapesOf 67 = .ok (.areturn, 1) := by decide +kernel
theorem dX1_shapeAt_0 : decode cX1_shapeAt 0 = .ok (.iload_n 0, 1) := by decide +kernel
theorem dX1_shapeAt_1 : decode cX1_shapeAt 1 = .ok (.bipush 11, 2) := by decide +kernel
theorem dX1_shapeAt_3 : decode cX1_shapeAt 3 = .ok (.imul, 1) := by decide +kernel
theorem dX1_shapeAt_4 : decode cX1_shapeAt 4 = .ok (.iload_n 1, 1) := by decide +kernel
theorem dX1_shapeAt_5 : decode cX1_shapeAt 5 = .ok (.iadd, 1) := by decide +kernel
theorem dX1_shapeAt_6 : decode cX1_shapeAt 6 = .ok (.ireturn, 1) := by decide +kernel
theorem dX1_countAt_0 : decode cX1_countAt 0 = .ok (.iload_n 1, 1) := by decide +kernel
theorem dX1_countAt_1 : decode cX1_countAt 1 = .ok (.iload_n 2, 1) := by decide +kernel
theorem dX1_countAt_2 : decode cX1_countAt 2 = .ok (.invokestatic 23, 3) := by decide +kernel
theorem dX1_countAt_5 : decode cX1_countAt 5 = .ok (.istore_n 3, 1) := by decide +kernel
theorem dX1_countAt_6 : decode cX1_countAt 6 = .ok (.iload_n 3, 1) := by decide +kernel
theorem dX1_countAt_7 : decode cX1_countAt 7 = .ok (.ifCond .lt 15, 3) := by decide +kernel
theorem dX1_countAt_10 : decode cX1_countAt 10 = .ok (.iload_n 3, 1) := by decide +kernel
theorem dX1_countAt_11 : decode cX1_countAt 11 = .ok (.aload_n 0, 1) := by decide +kernel
theorem dX1_countAt_12 : decode cX1_countAt 12 = .ok (.arraylength, 1) := by decide +kernel
theorem dX1_countAt_13 : decode cX1_countAt 13 = .ok (.if_icmp .ge 9, 3) := by decide +kernel
theorem dX1_countAt_16 : decode cX1_countAt 16 = .ok (.aload_n 0, 1) := by decide +kernel
theorem dX1_countAt_17 : decode cX1_countAt 17 = .ok (.iload_n 3, 1) := by decide +kernel
theorem dX1_countAt_18 : decode cX1_countAt 18 = .ok (.iaload, 1) := by decide +kernel
theorem dX1_countAt_19 : decode cX1_countAt 19 = .ok (.goto 4, 3) := by decide +kernel
theorem dX1_countAt_22 : decode cX1_countAt 22 = .ok (.iconst 0, 1) := by decide +kernel
theorem dX1_countAt_23 : decode cX1_countAt 23 = .ok (.ireturn, 1) := by decide +kernel
theorem dX1_coefficientOf_0 : decode cX1_coefficientOf 0 = .ok (.iconst 0, 1) := by decide +kernel
theorem dX1_coefficientOf_1 : decode cX1_coefficientOf 1 = .ok (.istore_n 3, 1) := by decide +kernel
theorem dX1_coefficientOf_2 : decode cX1_coefficientOf 2 = .ok (.iload_n 1, 1) := by decide +kernel
theorem dX1_coefficientOf_3 : decode cX1_coefficientOf 3 = .ok (.istore 4, 2) := by decide +kernel
theorem dX1_coefficientOf_5 : decode cX1_coefficientOf 5 = .ok (.iload 4, 2) := by decide +kernel
theorem dX1_coefficientOf_7 : decode cX1_coefficientOf 7 = .ok (.bipush 10, 2) := by decide +kernel
theorem dX1_coefficientOf_9 : decode cX1_coefficientOf 9 = .ok (.if_icmp .gt 59, 3) := by decide +kernel
theorem dX1_coefficientOf_12 : decode cX1_coefficientOf 12 = .ok (.iload_n 2, 1) := by decide +kernel
theorem dX1_coefficientOf_13 : decode cX1_coefficientOf 13 = .ok (.istore 5, 2) := by decide +kernel
theorem dX1_coefficientOf_15 : decode cX1_coefficientOf 15 = .ok (.iload 5, 2) := by decide +kernel
theorem dX1_coefficientOf_17 : decode cX1_coefficientOf 17 = .ok (.bipush 10, 2) := by decide +kernel
theorem dX1_coefficientOf_19 : decode cX1_coefficientOf 19 = .ok (.if_icmp .gt 43, 3) := by decide +kernel
theorem dX1_coefficientOf_22 : decode cX1_coefficientOf 22 = .ok (.aload_n 0, 1) := by decide +kernel
theorem dX1_coefficientOf_23 : decode cX1_coefficientOf 23 = .ok (.iload 4, 2) := by decide +kernel
theorem dX1_coefficientOf_25 : decode cX1_coefficientOf 25 = .ok (.iload 5, 2) := by decide +kernel
theorem dX1_coefficientOf_27 : decode cX1_coefficientOf 27 = .ok (.invokestatic 27, 3) := by decide +kernel
theorem dX1_coefficientOf_30 : decode cX1_coefficientOf 30 = .ok (.istore 6, 2) := by decide +kernel
theorem dX1_coefficientOf_32 : decode cX1_coefficientOf 32 = .ok (.iload 6, 2) := by decide +kernel
theorem dX1_coefficientOf_34 : decode cX1_coefficientOf 34 = .ok (.ifCond .eq 22, 3) := by decide +kernel
theorem dX1_coefficientOf_37 : decode cX1_coefficientOf 37 = .ok (.iload_n 3, 1) := by decide +kernel
theorem dX1_coefficientOf_38 : decode cX1_coefficientOf 38 = .ok (.iload 6, 2) := by decide +kernel
theorem dX1_coefficientOf_40 : decode cX1_coefficientOf 40 = .ok (.iload 4, 2) := by decide +kernel
theorem dX1_coefficientOf_42 : decode cX1_coefficientOf 42 = .ok (.iload_n 1, 1) := by decide +kernel
theorem dX1_coefficientOf_43 : decode cX1_coefficientOf 43 = .ok (.invokestatic 31, 3) := by decide +kernel
theorem dX1_coefficientOf_46 : decode cX1_coefficientOf 46 = .ok (.imul, 1) := by decide +kernel
theorem dX1_coefficientOf_47 : decode cX1_coefficientOf 47 = .ok (.iload 5, 2) := by decide +kernel
theorem dX1_coefficientOf_49 : decode cX1_coefficientOf 49 = .ok (.iload_n 2, 1) := by decide +kernel
theorem dX1_coefficientOf_50 : decode cX1_coefficientOf 50 = .ok (.invokestatic 31, 3) := by decide +kernel
theorem dX1_coefficientOf_53 : decode cX1_coefficientOf 53 = .ok (.imul, 1) := by decide +kernel
theorem dX1_coefficientOf_54 : decode cX1_coefficientOf 54 = .ok (.iadd, 1) := by decide +kernel
theorem dX1_coefficientOf_55 : decode cX1_coefficientOf 55 = .ok (.istore_n 3, 1) := by decide +kernel
theorem dX1_coefficientOf_56 : decode cX1_coefficientOf 56 = .ok (.iinc 5 1, 3) := by decide +kernel
theorem dX1_coefficientOf_59 : decode cX1_coefficientOf 59 = .ok (.goto (-44), 3) := by decide +kernel
theorem dX1_coefficientOf_62 : decode cX1_coefficientOf 62 = .ok (.iinc 4 1, 3) := by decide +kernel
theorem dX1_coefficientOf_65 : decode cX1_coefficientOf 65 = .ok (.goto (-60), 3) := by decide +kernel
theorem dX1_coefficientOf_68 : decode cX1_coefficientOf 68 = .ok (.iload_n 3, 1) := by decide +kernel
theorem dX1_coefficientOf_69 : decode cX1_coefficientOf 69 = .ok (.ireturn, 1) := by decide +kernel
theorem dX1_partOfPower_0 : decode cX1_partOfPower 0 = .ok (.iconst 1, 1) := by decide +kernel
theorem dX1_partOfPower_1 : decode cX1_partOfPower 1 = .ok (.istore_n 2, 1) := by decide +kernel
theorem dX1_partOfPower_2 : decode cX1_partOfPower 2 = .ok (.iconst 1, 1) := by decide +kernel
theorem dX1_partOfPower_3 : decode cX1_partOfPower 3 = .ok (.istore_n 3, 1) := by decide +kernel
theorem dX1_partOfPower_4 : decode cX1_partOfPower 4 = .ok (.iload_n 3, 1) := by decide +kernel
theorem dX1_partOfPower_5 : decode cX1_partOfPower 5 = .ok (.iload_n 0, 1) := by decide +kernel
theorem dX1_partOfPower_6 : decode cX1_partOfPower 6 = .ok (.iload_n 1, 1) := by decide +kernel
theorem dX1_partOfPower_7 : decode cX1_partOfPower 7 = .ok (.isub, 1) := by decide +kernel
theorem dX1_partOfPower_8 : decode cX1_partOfPower 8 = .ok (.if_icmp .gt 17, 3) := by decide +kernel
theorem dX1_partOfPower_11 : decode cX1_partOfPower 11 = .ok (.iload_n 2, 1) := by decide +kernel
theorem dX1_partOfPower_12 : decode cX1_partOfPower 12 = .ok (.iload_n 1, 1) := by decide +kernel
theorem dX1_partOfPower_13 : decode cX1_partOfPower 13 = .ok (.iload_n 3, 1) := by decide +kernel
theorem dX1_partOfPower_14 : decode cX1_partOfPower 14 = .ok (.iadd, 1) := by decide +kernel
theorem dX1_partOfPower_15 : decode cX1_partOfPower 15 = .ok (.imul, 1) := by decide +kernel
theorem dX1_partOfPower_16 : decode cX1_partOfPower 16 = .ok (.iload_n 3, 1) := by decide +kernel
theorem dX1_partOfPower_17 : decode cX1_partOfPower 17 = .ok (.idiv, 1) := by decide +kernel
theorem dX1_partOfPower_18 : decode cX1_partOfPower 18 = .ok (.istore_n 2, 1) := by decide +kernel
theorem dX1_partOfPower_19 : decode cX1_partOfPower 19 = .ok (.iinc 3 1, 3) := by decide +kernel
theorem dX1_partOfPower_22 : decode cX1_partOfPower 22 = .ok (.goto (-18), 3) := by decide +kernel
theorem dX1_partOfPower_25 : decode cX1_partOfPower 25 = .ok (.iload_n 0, 1) := by decide +kernel
theorem dX1_partOfPower_26 : decode cX1_partOfPower 26 = .ok (.iload_n 1, 1) := by decide +kernel
theorem dX1_partOfPower_27 : decode cX1_partOfPower 27 = .ok (.isub, 1) := by decide +kernel
theorem dX1_partOfPower_28 : decode cX1_partOfPower 28 = .ok (.iconst 2, 1) := by decide +kernel
theorem dX1_partOfPower_29 : decode cX1_partOfPower 29 = .ok (.irem, 1) := by decide +kernel
theorem dX1_partOfPower_30 : decode cX1_partOfPower 30 = .ok (.ifCond .ne 7, 3) := by decide +kernel
theorem dX1_partOfPower_33 : decode cX1_partOfPower 33 = .ok (.iload_n 2, 1) := by decide +kernel
theorem dX1_partOfPower_34 : decode cX1_partOfPower 34 = .ok (.goto 5, 3) := by decide +kernel
theorem dX1_partOfPower_37 : decode cX1_partOfPower 37 = .ok (.iload_n 2, 1) := by decide +kernel
theorem dX1_partOfPower_38 : decode cX1_partOfPower 38 = .ok (.ineg, 1) := by decide +kernel
theorem dX1_partOfPower_39 : decode cX1_partOfPower 39 = .ok (.ireturn, 1) := by decide +kernel
theorem dX1_valueAt_0 : decode cX1_valueAt 0 = .ok (.lconst 0, 1) := by decide +kernel
theorem dX1_valueAt_1 : decode cX1_valueAt 1 = .ok (.lstore_n 3, 1) := by decide +kernel
theorem dX1_valueAt_2 : decode cX1_valueAt 2 = .ok (.lconst 1, 1) := by decide +kernel
theorem dX1_valueAt_3 : decode cX1_valueAt 3 = .ok (.lstore 5, 2) := by decide +kernel
theorem dX1_valueAt_5 : decode cX1_valueAt 5 = .ok (.iconst 0, 1) := by decide +kernel
theorem dX1_valueAt_6 : decode cX1_valueAt 6 = .ok (.istore 7, 2) := by decide +kernel
theorem dX1_valueAt_8 : decode cX1_valueAt 8 = .ok (.iload 7, 2) := by decide +kernel
theorem dX1_valueAt_10 : decode cX1_valueAt 10 = .ok (.bipush 10, 2) := by decide +kernel
theorem dX1_valueAt_12 : decode cX1_valueAt 12 = .ok (.if_icmp .gt 62, 3) := by decide +kernel
theorem dX1_valueAt_15 : decode cX1_valueAt 15 = .ok (.lload 5, 2) := by decide +kernel
theorem dX1_valueAt_17 : decode cX1_valueAt 17 = .ok (.lstore 8, 2) := by decide +kernel
theorem dX1_valueAt_19 : decode cX1_valueAt 19 = .ok (.iconst 0, 1) := by decide +kernel
theorem dX1_valueAt_20 : decode cX1_valueAt 20 = .ok (.istore 10, 2) := by decide +kernel
theorem dX1_valueAt_22 : decode cX1_valueAt 22 = .ok (.iload 10, 2) := by decide +kernel
theorem dX1_valueAt_24 : decode cX1_valueAt 24 = .ok (.bipush 10, 2) := by decide +kernel
theorem dX1_valueAt_26 : decode cX1_valueAt 26 = .ok (.if_icmp .gt 33, 3) := by decide +kernel
theorem dX1_valueAt_29 : decode cX1_valueAt 29 = .ok (.lload_n 3, 1) := by decide +kernel
theorem dX1_valueAt_30 : decode cX1_valueAt 30 = .ok (.aload_n 0, 1) := by decide +kernel
theorem dX1_valueAt_31 : decode cX1_valueAt 31 = .ok (.iload 7, 2) := by decide +kernel
theorem dX1_valueAt_33 : decode cX1_valueAt 33 = .ok (.iload 10, 2) := by decide +kernel
theorem dX1_valueAt_35 : decode cX1_valueAt 35 = .ok (.invokestatic 27, 3) := by decide +kernel
theorem dX1_valueAt_38 : decode cX1_valueAt 38 = .ok (.i2l, 1) := by decide +kernel
theorem dX1_valueAt_39 : decode cX1_valueAt 39 = .ok (.lload 8, 2) := by decide +kernel
theorem dX1_valueAt_41 : decode cX1_valueAt 41 = .ok (.lmul, 1) := by decide +kernel
theorem dX1_valueAt_42 : decode cX1_valueAt 42 = .ok (.ladd, 1) := by decide +kernel
theorem dX1_valueAt_43 : decode cX1_valueAt 43 = .ok (.lstore_n 3, 1) := by decide +kernel
theorem dX1_valueAt_44 : decode cX1_valueAt 44 = .ok (.lload 8, 2) := by decide +kernel
theorem dX1_valueAt_46 : decode cX1_valueAt 46 = .ok (.iload_n 2, 1) := by decide +kernel
theorem dX1_valueAt_47 : decode cX1_valueAt 47 = .ok (.iconst 1, 1) := by decide +kernel
theorem dX1_valueAt_48 : decode cX1_valueAt 48 = .ok (.isub, 1) := by decide +kernel
theorem dX1_valueAt_49 : decode cX1_valueAt 49 = .ok (.i2l, 1) := by decide +kernel
theorem dX1_valueAt_50 : decode cX1_valueAt 50 = .ok (.lmul, 1) := by decide +kernel
theorem dX1_valueAt_51 : decode cX1_valueAt 51 = .ok (.lstore 8, 2) := by decide +kernel
theorem dX1_valueAt_53 : decode cX1_valueAt 53 = .ok (.iinc 10 1, 3) := by decide +kernel
theorem dX1_valueAt_56 : decode cX1_valueAt 56 = .ok (.goto (-34), 3) := by decide +kernel
theorem dX1_valueAt_59 : decode cX1_valueAt 59 = .ok (.lload 5, 2) := by decide +kernel
theorem dX1_valueAt_61 : decode cX1_valueAt 61 = .ok (.iload_n 1, 1) := by decide +kernel
theorem dX1_valueAt_62 : decode cX1_valueAt 62 = .ok (.iconst 1, 1) := by decide +kernel
theorem dX1_valueAt_63 : decode cX1_valueAt 63 = .ok (.isub, 1) := by decide +kernel
theorem dX1_valueAt_64 : decode cX1_valueAt 64 = .ok (.i2l, 1) := by decide +kernel
theorem dX1_valueAt_65 : decode cX1_valueAt 65 = .ok (.lmul, 1) := by decide +kernel
theorem dX1_valueAt_66 : decode cX1_valueAt 66 = .ok (.lstore 5, 2) := by decide +kernel
theorem dX1_valueAt_68 : decode cX1_valueAt 68 = .ok (.iinc 7 1, 3) := by decide +kernel
theorem dX1_valueAt_71 : decode cX1_valueAt 71 = .ok (.goto (-63), 3) := by decide +kernel
theorem dX1_valueAt_74 : decode cX1_valueAt 74 = .ok (.lload_n 3, 1) := by decide +kernel
theorem dX1_valueAt_75 : decode cX1_valueAt 75 = .ok (.lreturn, 1) := by decide +kernel
theorem dX1_signedCount_0 : decode cX1_signedCount 0 = .ok (.iconst 0, 1) := by decide +kernel
theorem dX1_signedCount_1 : decode cX1_signedCount 1 = .ok (.istore_n 3, 1) := by decide +kernel
theorem dX1_signedCount_2 : decode cX1_signedCount 2 = .ok (.iconst 0, 1) := by decide +kernel
theorem dX1_signedCount_3 : decode cX1_signedCount 3 = .ok (.istore 4, 2) := by decide +kernel
theorem dX1_signedCount_5 : decode cX1_signedCount 5 = .ok (.iload 4, 2) := by decide +kernel
theorem dX1_signedCount_7 : decode cX1_signedCount 7 = .ok (.bipush 10, 2) := by decide +kernel
theorem dX1_signedCount_9 : decode cX1_signedCount 9 = .ok (.if_icmp .gt 52, 3) := by decide +kernel
theorem dX1_signedCount_12 : decode cX1_signedCount 12 = .ok (.aload_n 0, 1) := by decide +kernel
theorem dX1_signedCount_13 : decode cX1_signedCount 13 = .ok (.iload_n 2, 1) := by decide +kernel
theorem dX1_signedCount_14 : decode cX1_signedCount 14 = .ok (.iload 4, 2) := by decide +kernel
theorem dX1_signedCount_16 : decode cX1_signedCount 16 = .ok (.invokestatic 27, 3) := by decide +kernel
theorem dX1_signedCount_19 : decode cX1_signedCount 19 = .ok (.istore 5, 2) := by decide +kernel
theorem dX1_signedCount_21 : decode cX1_signedCount 21 = .ok (.iload_n 1, 1) := by decide +kernel
theorem dX1_signedCount_22 : decode cX1_signedCount 22 = .ok (.iload_n 2, 1) := by decide +kernel
theorem dX1_signedCount_23 : decode cX1_signedCount 23 = .ok (.isub, 1) := by decide +kernel
theorem dX1_signedCount_24 : decode cX1_signedCount 24 = .ok (.iload 4, 2) := by decide +kernel
theorem dX1_signedCount_26 : decode cX1_signedCount 26 = .ok (.iadd, 1) := by decide +kernel
theorem dX1_signedCount_27 : decode cX1_signedCount 27 = .ok (.iconst 2, 1) := by decide +kernel
theorem dX1_signedCount_28 : decode cX1_signedCount 28 = .ok (.irem, 1) := by decide +kernel
theorem dX1_signedCount_29 : decode cX1_signedCount 29 = .ok (.ifCond .eq 7, 3) := by decide +kernel
theorem dX1_signedCount_32 : decode cX1_signedCount 32 = .ok (.iconst 1, 1) := by decide +kernel
theorem dX1_signedCount_33 : decode cX1_signedCount 33 = .ok (.goto 4, 3) := by decide +kernel
theorem dX1_signedCount_36 : decode cX1_signedCount 36 = .ok (.iconst 0, 1) := by decide +kernel
theorem dX1_signedCount_37 : decode cX1_signedCount 37 = .ok (.istore 6, 2) := by decide +kernel
theorem dX1_signedCount_39 : decode cX1_signedCount 39 = .ok (.iload_n 3, 1) := by decide +kernel
theorem dX1_signedCount_40 : decode cX1_signedCount 40 = .ok (.iload 6, 2) := by decide +kernel
theorem dX1_signedCount_42 : decode cX1_signedCount 42 = .ok (.ifCond .eq 9, 3) := by decide +kernel
theorem dX1_signedCount_45 : decode cX1_signedCount 45 = .ok (.iload 5, 2) := by decide +kernel
theorem dX1_signedCount_47 : decode cX1_signedCount 47 = .ok (.ineg, 1) := by decide +kernel
theorem dX1_signedCount_48 : decode cX1_signedCount 48 = .ok (.goto 5, 3) := by decide +kernel
theorem dX1_signedCount_51 : decode cX1_signedCount 51 = .ok (.iload 5, 2) := by decide +kernel
theorem dX1_signedCount_53 : decode cX1_signedCount 53 = .ok (.iadd, 1) := by decide +kernel
theorem dX1_signedCount_54 : decode cX1_signedCount 54 = .ok (.istore_n 3, 1) := by decide +kernel
theorem dX1_signedCount_55 : decode cX1_signedCount 55 = .ok (.iinc 4 1, 3) := by decide +kernel
theorem dX1_signedCount_58 : decode cX1_signedCount 58 = .ok (.goto (-53), 3) := by decide +kernel
theorem dX1_signedCount_61 : decode cX1_signedCount 61 = .ok (.iload_n 3, 1) := by decide +kernel
theorem dX1_signedCount_62 : decode cX1_signedCount 62 = .ok (.ireturn, 1) := by decide +kernel
theorem dX2_init_0 : decode cX2_init 0 = .ok (.aload_n 0, 1) := by decide +kernel
theorem dX2_init_1 : decode cX2_init 1 = .ok (.invokespecial 3, 3) := by decide +kernel
theorem dX2_init_4 : decode cX2_init 4 = .ok (.aload_n 0, 1) := by decide +kernel
theorem dX2_init_5 : decode cX2_init 5 = .ok (.bipush 10, 2) := by decide +kernel
theorem dX2_init_7 : decode cX2_init 7 = .ok (.newarray .int, 2) := by decide +kernel
theorem dX2_init_9 : decode cX2_init 9 = .ok (.putfield 9, 3) := by decide +kernel
theorem dX2_init_12 : decode cX2_init 12 = .ok (.aload_n 0, 1) := by decide +kernel
theorem dX2_init_13 : decode cX2_init 13 = .ok (.bipush 10, 2) := by decide +kernel
theorem dX2_init_15 : decode cX2_init 15 = .ok (.newarray .int, 2) := by decide +kernel
theorem dX2_init_17 : decode cX2_init 17 = .ok (.putfield 15, 3) := by decide +kernel
theorem dX2_init_20 : decode cX2_init 20 = .ok (.aload_n 0, 1) := by decide +kernel
theorem dX2_init_21 : decode cX2_init 21 = .ok (.bipush 10, 2) := by decide +kernel
theorem dX2_init_23 : decode cX2_init 23 = .ok (.newarray .int, 2) := by decide +kernel
theorem dX2_init_25 : decode cX2_init 25 = .ok (.putfield 18, 3) := by decide +kernel
theorem dX2_init_28 : decode cX2_init 28 = .ok (.aload_n 0, 1) := by decide +kernel
theorem dX2_init_29 : decode cX2_init 29 = .ok (.bipush 10, 2) := by decide +kernel
theorem dX2_init_31 : decode cX2_init 31 = .ok (.newarray .int, 2) := by decide +kernel
theorem dX2_init_33 : decode cX2_init 33 = .ok (.putfield 21, 3) := by decide +kernel
theorem dX2_init_36 : decode cX2_init 36 = .ok (.aload_n 0, 1) := by decide +kernel
theorem dX2_init_37 : decode cX2_init 37 = .ok (.aload_n 1, 1) := by decide +kernel
theorem dX2_init_38 : decode cX2_init 38 = .ok (.putfield 24, 3) := by decide +kernel
theorem dX2_init_41 : decode cX2_init 41 = .ok (.aload_n 0, 1) := by decide +kernel
theorem dX2_init_42 : decode cX2_init 42 = .ok (.iconst 0, 1) := by decide +kernel
theorem dX2_init_43 : decode cX2_init 43 = .ok (.aload_n 1, 1) := by decide +kernel
theorem dX2_init_44 : decode cX2_init 44 = .ok (.iconst 2, 1) := by decide +kernel
theorem dX2_init_45 : decode cX2_init 45 = .ok (.iconst 0, 1) := by decide +kernel
theorem dX2_init_46 : decode cX2_init 46 = .ok (.invokevirtual 28, 3) := by decide +kernel
theorem dX2_init_49 : decode cX2_init 49 = .ok (.invokestatic 34, 3) := by decide +kernel
theorem dX2_init_52 : decode cX2_init 52 = .ok (.putfield 39, 3) := by decide +kernel
theorem dX2_init_55 : decode cX2_init 55 = .ok (.aload_n 0, 1) := by decide +kernel
theorem dX2_init_56 : decode cX2_init 56 = .ok (.new 43, 3) := by decide +kernel
theorem dX2_init_59 : decode cX2_init 59 = .ok (.dup, 1) := by decide +kernel
theorem dX2_init_60 : decode cX2_init 60 = .ok (.iload_n 2, 1) := by decide +kernel
theorem dX2_init_61 : decode cX2_init 61 = .ok (.aload_n 1, 1) := by decide +kernel
theorem dX2_init_62 : decode cX2_init 62 = .ok (.getfield 45, 3) := by decide +kernel
theorem dX2_init_65 : decode cX2_init 65 = .ok (.aload_n 1, 1) := by decide +kernel
theorem dX2_init_66 : decode cX2_init 66 = .ok (.getfield 48, 3) := by decide +kernel
theorem dX2_init_69 : decode cX2_init 69 = .ok (.invokespecial 51, 3) := by decide +kernel
theorem dX2_init_72 : decode cX2_init 72 = .ok (.putfield 54, 3) := by decide +kernel
theorem dX2_init_75 : decode cX2_init 75 = .ok (.aload_n 0, 1) := by decide +kernel
theorem dX2_init_76 : decode cX2_init 76 = .ok (.invokevirtual 58, 3) := by decide +kernel
theorem dX2_init_79 : decode cX2_init 79 = .ok (.iload_n 2, 1) := by decide +kernel
theorem dX2_init_80 : decode cX2_init 80 = .ok (.iconst 3, 1) := by decide +kernel
theorem dX2_init_81 : decode cX2_init 81 = .ok (.if_icmp .ne 11, 3) := by decide +kernel
theorem dX2_init_84 : decode cX2_init 84 = .ok (.aload_n 0, 1) := by decide +kernel
theorem dX2_init_85 : decode cX2_init 85 = .ok (.invokevirtual 61, 3) := by decide +kernel
theorem dX2_init_88 : decode cX2_init 88 = .ok (.aload_n 0, 1) := by decide +kernel
theorem dX2_init_89 : decode cX2_init 89 = .ok (.invokevirtual 64, 3) := by decide +kernel
theorem dX2_init_92 : decode cX2_init 92 = .ok (.aload_n 0, 1) := by decide +kernel
theorem dX2_init_93 : decode cX2_init 93 = .ok (.invokevirtual 67, 3) := by decide +kernel
theorem dX2_init_96 : decode cX2_init 96 = .ok (.aload_n 0, 1) := by decide +kernel
theorem dX2_init_97 : decode cX2_init 97 = .ok (.aload_n 0, 1) := by decide +kernel
theorem dX2_init_98 : decode cX2_init 98 = .ok (.getfield 54, 3) := by decide +kernel
theorem dX2_init_101 : decode cX2_init 101 = .ok (.invokevirtual 70, 3) := by decide +kernel
theorem dX2_init_104 : decode cX2_init 104 = .ok (.aload_n 1, 1) := by decide +kernel
theorem dX2_init_105 : decode cX2_init 105 = .ok (.getfield 74, 3) := by decide +kernel
theorem dX2_init_108 : decode cX2_init 108 = .ok (.invokestatic 77, 3) := by decide +kernel
theorem dX2_init_111 : decode cX2_init 111 = .ok (.putfield 83, 3) := by decide +kernel
theorem dX2_init_114 : decode cX2_init 114 = .ok (.return_, 1) := by decide +kernel
theorem dX2_isTrue_0 : decode cX2_isTrue 0 = .ok (.aload_n 0, 1) := by decide +kernel
theorem dX2_isTrue_1 : decode cX2_isTrue 1 = .ok (.getfield 83, 3) := by decide +kernel
theorem dX2_isTrue_4 : decode cX2_isTrue 4 = .ok (.ireturn, 1) := by decide +kernel
theorem dX2_entryAt_0 : decode cX2_entryAt 0 = .ok (.aload_n 0, 1) := by decide +kernel
theorem dX2_entryAt_1 : decode cX2_entryAt 1 = .ok (.getfield 54, 3) := by decide +kernel
theorem dX2_entryAt_4 : decode cX2_entryAt 4 = .ok (.iload_n 2, 1) := by decide +kernel
theorem dX2_entryAt_5 : decode cX2_entryAt 5 = .ok (.iload_n 1, 1) := by decide +kernel
theorem dX2_entryAt_6 : decode cX2_entryAt 6 = .ok (.invokevirtual 87, 3) := by decide +kernel
theorem dX2_entryAt_9 : decode cX2_entryAt 9 = .ok (.ireturn, 1) := by decide +kernel
theorem dX2_at_0 : decode cX2_at 0 = .ok (.iload_n 1, 1) := by decide +kernel
theorem dX2_at_1 : decode cX2_at 1 = .ok (.ifCond .lt 15, 3) := by decide +kernel
theorem dX2_at_4 : decode cX2_at 4 = .ok (.iload_n 1, 1) := by decide +kernel
theorem dX2_at_5 : decode cX2_at 5 = .ok (.aload_n 0, 1) := by decide +kernel
theorem dX2_at_6 : decode cX2_at 6 = .ok (.arraylength, 1) := by decide +kernel
theorem dX2_at_7 : decode cX2_at 7 = .ok (.if_icmp .ge 9, 3) := by decide +kernel
theorem dX2_at_10 : decode cX2_at 10 = .ok (.aload_n 0, 1) := by decide +kernel
theorem dX2_at_11 : decode cX2_at 11 = .ok (.iload_n 1, 1) := by decide +kernel
theorem dX2_at_12 : decode cX2_at 12 = .ok (.iaload, 1) := by decide +kernel
theorem dX2_at_13 : decode cX2_at 13 = .ok (.goto 4, 3) := by decide +kernel
theorem dX2_at_16 : decode cX2_at 16 = .ok (.iconst 0, 1) := by decide +kernel
theorem dX2_at_17 : decode cX2_at 17 = .ok (.ireturn, 1) := by decide +kernel
theorem dX2_has_0 : decode cX2_has 0 = .ok (.iload_n 0, 1) := by decide +kernel
theorem dX2_has_1 : decode cX2_has 1 = .ok (.iconst 1, 1) := by decide +kernel
theorem dX2_has_2 : decode cX2_has 2 = .ok (.iload_n 1, 1) := by decide +kernel
theorem dX2_has_3 : decode cX2_has 3 = .ok (.ishl, 1) := by decide +kernel
theorem dX2_has_4 : decode cX2_has 4 = .ok (.iand, 1) := by decide +kernel
theorem dX2_has_5 : decode cX2_has 5 = .ok (.ifCond .eq 7, 3) := by decide +kernel
theorem dX2_has_8 : decode cX2_has 8 = .ok (.iconst 1, 1) := by decide +kernel
theorem dX2_has_9 : decode cX2_has 9 = .ok (.goto 4, 3) := by decide +kernel
theorem dX2_has_12 : decode cX2_has 12 = .ok (.iconst 0, 1) := by decide +kernel
theorem dX2_has_13 : decode cX2_has 13 = .ok (.ireturn, 1) := by decide +kernel
theorem dX2_join_0 : decode cX2_join 0 = .ok (.iconst 0, 1) := by decide +kernel
theorem dX2_join_1 : decode cX2_join 1 = .ok (.istore_n 1, 1) := by decide +kernel
theorem dX2_join_2 : decode cX2_join 2 = .ok (.iload_n 1, 1) := by decide +kernel
theorem dX2_join_3 : decode cX2_join 3 = .ok (.aload_n 0, 1) := by decide +kernel
theorem dX2_join_4 : decode cX2_join 4 = .ok (.getfield 24, 3) := by decide +kernel
theorem dX2_join_7 : decode cX2_join 7 = .ok (.getfield 48, 3) := by decide +kernel
theorem dX2_join_10 : decode cX2_join 10 = .ok (.if_icmp .ge 95, 3) := by decide +kernel
theorem dX2_join_13 : decode cX2_join 13 = .ok (.iload_n 1, 1) := by decide +kernel
theorem dX2_join_14 : decode cX2_join 14 = .ok (.aload_n 0, 1) := by decide +kernel
theorem dX2_join_15 : decode cX2_join 15 = .ok (.getfield 9, 3) := by decide +kernel
theorem dX2_join_18 : decode cX2_join 18 = .ok (.arraylength, 1) := by decide +kernel
theorem dX2_join_19 : decode cX2_join 19 = .ok (.if_icmp .ge 86, 3) := by decide +kernel
theorem dX2_join_22 : decode cX2_join 22 = .ok (.aload_n 0, 1) := by decide +kernel
theorem dX2_join_23 : decode cX2_join 23 = .ok (.getfield 39, 3) := by decide +kernel
theorem dX2_join_26 : decode cX2_join 26 = .ok (.iload_n 1, 1) := by decide +kernel
theorem dX2_join_27 : decode cX2_join 27 = .ok (.invokestatic 90, 3) := by decide +kernel
theorem dX2_join_30 : decode cX2_join 30 = .ok (.ifCond .ne 69, 3) := by decide +kernel
theorem dX2_join_33 : decode cX2_join 33 = .ok (.aload_n 0, 1) := by decide +kernel
theorem dX2_join_34 : decode cX2_join 34 = .ok (.getfield 9, 3) := by decide +kernel
theorem dX2_join_37 : decode cX2_join 37 = .ok (.iload_n 1, 1) := by decide +kernel
theorem dX2_join_38 : decode cX2_join 38 = .ok (.aload_n 0, 1) := by decide +kernel
theorem dX2_join_39 : decode cX2_join 39 = .ok (.getfield 24, 3) := by decide +kernel
theorem dX2_join_42 : decode cX2_join 42 = .ok (.aload_n 0, 1) := by decide +kernel
theorem dX2_join_43 : decode cX2_join 43 = .ok (.getfield 39, 3) := by decide +kernel
theorem dX2_join_46 : decode cX2_join 46 = .ok (.iload_n 1, 1) := by decide +kernel
theorem dX2_join_47 : decode cX2_join 47 = .ok (.invokevirtual 94, 3) := by decide +kernel
theorem dX2_join_50 : decode cX2_join 50 = .ok (.iconst 1, 1) := by decide +kernel
theorem dX2_join_51 : decode cX2_join 51 = .ok (.iload_n 1, 1) := by decide +kernel
theorem dX2_join_52 : decode cX2_join 52 = .ok (.ishl, 1) := by decide +kernel
theorem dX2_join_53 : decode cX2_join 53 = .ok (.iconst (-1), 1) := by decide +kernel
theorem dX2_join_54 : decode cX2_join 54 = .ok (.ixor, 1) := by decide +kernel
theorem dX2_join_55 : decode cX2_join 55 = .ok (.iand, 1) := by decide +kernel
theorem dX2_join_56 : decode cX2_join 56 = .ok (.iastore, 1) := by decide +kernel
theorem dX2_join_57 : decode cX2_join 57 = .ok (.iconst 0, 1) := by decide +kernel
theorem dX2_join_58 : decode cX2_join 58 = .ok (.istore_n 2, 1) := by decide +kernel
theorem dX2_join_59 : decode cX2_join 59 = .ok (.iload_n 2, 1) := by decide +kernel
theorem dX2_join_60 : decode cX2_join 60 = .ok (.aload_n 0, 1) := by decide +kernel
theorem dX2_join_61 : decode cX2_join 61 = .ok (.getfield 9, 3) := by decide +kernel
theorem dX2_join_64 : decode cX2_join 64 = .ok (.arraylength, 1) := by decide +kernel
theorem dX2_join_65 : decode cX2_join 65 = .ok (.if_icmp .ge 34, 3) := by decide +kernel
theorem dX2_join_68 : decode cX2_join 68 = .ok (.aload_n 0, 1) := by decide +kernel
theorem dX2_join_69 : decode cX2_join 69 = .ok (.getfield 9, 3) := by decide +kernel
theorem dX2_join_72 : decode cX2_join 72 = .ok (.iload_n 1, 1) := by decide +kernel
theorem dX2_join_73 : decode cX2_join 73 = .ok (.iaload, 1) := by decide +kernel
theorem dX2_join_74 : decode cX2_join 74 = .ok (.iload_n 2, 1) := by decide +kernel
theorem dX2_join_75 : decode cX2_join 75 = .ok (.invokestatic 90, 3) := by decide +kernel
theorem dX2_join_78 : decode cX2_join 78 = .ok (.ifCond .eq 15, 3) := by decide +kernel
theorem dX2_join_81 : decode cX2_join 81 = .ok (.aload_n 0, 1) := by decide +kernel
theorem dX2_join_82 : decode cX2_join 82 = .ok (.getfield 9, 3) := by decide +kernel
theorem dX2_join_85 : decode cX2_join 85 = .ok (.iload_n 2, 1) := by decide +kernel
theorem dX2_join_86 : decode cX2_join 86 = .ok (.dup2, 1) := by decide +kernel
theorem dX2_join_87 : decode cX2_join 87 = .ok (.iaload, 1) := by decide +kernel
theorem dX2_join_88 : decode cX2_join 88 = .ok (.iconst 1, 1) := by decide +kernel
theorem dX2_join_89 : decode cX2_join 89 = .ok (.iload_n 1, 1) := by decide +kernel
theorem dX2_join_90 : decode cX2_join 90 = .ok (.ishl, 1) := by decide +kernel
theorem dX2_join_91 : decode cX2_join 91 = .ok (.ior, 1) := by decide +kernel
theorem dX2_join_92 : decode cX2_join 92 = .ok (.iastore, 1) := by decide +kernel
theorem dX2_join_93 : decode cX2_join 93 = .ok (.iinc 2 1, 3) := by decide +kernel
theorem dX2_join_96 : decode cX2_join 96 = .ok (.goto (-37), 3) := by decide +kernel
theorem dX2_join_99 : decode cX2_join 99 = .ok (.iinc 1 1, 3) := by decide +kernel
theorem dX2_join_102 : decode cX2_join 102 = .ok (.goto (-100), 3) := by decide +kernel
theorem dX2_join_105 : decode cX2_join 105 = .ok (.return_, 1) := by decide +kernel
theorem dX2_setFreeSigns_0 : decode cX2_setFreeSigns 0 = .ok (.iconst 0, 1) := by decide +kernel
theorem dX2_setFreeSigns_1 : decode cX2_setFreeSigns 1 = .ok (.istore_n 1, 1) := by decide +kernel
theorem dX2_setFreeSigns_2 : decode cX2_setFreeSigns 2 = .ok (.iload_n 1, 1) := by decide +kernel
theorem dX2_setFreeSigns_3 : decode cX2_setFreeSigns 3 = .ok (.aload_n 0, 1) := by decide +kernel
theorem dX2_setFreeSigns_4 : decode cX2_setFreeSigns 4 = .ok (.getfield 24, 3) := by decide +kernel
theorem dX2_setFreeSigns_7 : decode cX2_setFreeSigns 7 = .ok (.getfield 48, 3) := by decide +kernel
theorem dX2_setFreeSigns_10 : decode cX2_setFreeSigns 10 = .ok (.if_icmp .ge 55, 3) := by decide +kernel
theorem dX2_setFreeSigns_13 : decode cX2_setFreeSigns 13 = .ok (.iconst 0, 1) := by decide +kernel
theorem dX2_setFreeSigns_14 : decode cX2_setFreeSigns 14 = .ok (.istore_n 2, 1) := by decide +kernel
theorem dX2_setFreeSigns_15 : decode cX2_setFreeSigns 15 = .ok (.iload_n 2, 1) := by decide +kernel
theorem dX2_setFreeSigns_16 : decode cX2_setFreeSigns 16 = .ok (.aload_n 0, 1) := by decide +kernel
theorem dX2_setFreeSigns_17 : decode cX2_setFreeSigns 17 = .ok (.getfield 24, 3) := by decide +kernel
theorem dX2_setFreeSigns_20 : decode cX2_setFreeSigns 20 = .ok (.getfield 48, 3) := by decide +kernel
theorem dX2_setFreeSigns_23 : decode cX2_setFreeSigns 23 = .ok (.if_icmp .ge 36, 3) := by decide +kernel
theorem dX2_setFreeSigns_26 : decode cX2_setFreeSigns 26 = .ok (.aload_n 0, 1) := by decide +kernel
theorem dX2_setFreeSigns_27 : decode cX2_setFreeSigns 27 = .ok (.iload_n 1, 1) := by decide +kernel
theorem dX2_setFreeSigns_28 : decode cX2_setFreeSigns 28 = .ok (.iload_n 2, 1) := by decide +kernel
theorem dX2_setFreeSigns_29 : decode cX2_setFreeSigns 29 = .ok (.invokevirtual 97, 3) := by decide +kernel
theorem dX2_setFreeSigns_32 : decode cX2_setFreeSigns 32 = .ok (.ifCond .eq 21, 3) := by decide +kernel
theorem dX2_setFreeSigns_35 : decode cX2_setFreeSigns 35 = .ok (.aload_n 0, 1) := by decide +kernel
theorem dX2_setFreeSigns_36 : decode cX2_setFreeSigns 36 = .ok (.iload_n 1, 1) := by decide +kernel
theorem dX2_setFreeSigns_37 : decode cX2_setFreeSigns 37 = .ok (.iload_n 2, 1) := by decide +kernel
theorem dX2_setFreeSigns_38 : decode cX2_setFreeSigns 38 = .ok (.invokevirtual 100, 3) := by decide +kernel
theorem dX2_setFreeSigns_41 : decode cX2_setFreeSigns 41 = .ok (.bipush 99, 2) := by decide +kernel
theorem dX2_setFreeSigns_43 : decode cX2_setFreeSigns 43 = .ok (.if_icmp .lt 10, 3) := by decide +kernel
theorem dX2_setFreeSigns_46 : decode cX2_setFreeSigns 46 = .ok (.aload_n 0, 1) := by decide +kernel
theorem dX2_setFreeSigns_47 : decode cX2_setFreeSigns 47 = .ok (.iload_n 1, 1) := by decide +kernel
theorem dX2_setFreeSigns_48 : decode cX2_setFreeSigns 48 = .ok (.iload_n 2, 1) := by decide +kernel
theorem dX2_setFreeSigns_49 : decode cX2_setFreeSigns 49 = .ok (.iconst 0, 1) := by decide +kernel
theorem dX2_setFreeSigns_50 : decode cX2_setFreeSigns 50 = .ok (.invokevirtual 103, 3) := by decide +kernel
theorem dX2_setFreeSigns_53 : decode cX2_setFreeSigns 53 = .ok (.iinc 2 1, 3) := by decide +kernel
theorem dX2_setFreeSigns_56 : decode cX2_setFreeSigns 56 = .ok (.goto (-41), 3) := by decide +kernel
theorem dX2_setFreeSigns_59 : decode cX2_setFreeSigns 59 = .ok (.iinc 1 1, 3) := by decide +kernel
theorem dX2_setFreeSigns_62 : decode cX2_setFreeSigns 62 = .ok (.goto (-60), 3) := by decide +kernel
theorem dX2_setFreeSigns_65 : decode cX2_setFreeSigns 65 = .ok (.return_, 1) := by decide +kernel
theorem dX2_isEntry_0 : decode cX2_isEntry 0 = .ok (.aload_n 0, 1) := by decide +kernel
theorem dX2_isEntry_1 : decode cX2_isEntry 1 = .ok (.getfield 39, 3) := by decide +kernel
theorem dX2_isEntry_4 : decode cX2_isEntry 4 = .ok (.iload_n 1, 1) := by decide +kernel
theorem dX2_isEntry_5 : decode cX2_isEntry 5 = .ok (.invokestatic 90, 3) := by decide +kernel
theorem dX2_isEntry_8 : decode cX2_isEntry 8 = .ok (.ifCond .ne 22, 3) := by decide +kernel
theorem dX2_isEntry_11 : decode cX2_isEntry 11 = .ok (.aload_n 0, 1) := by decide +kernel
theorem dX2_isEntry_12 : decode cX2_isEntry 12 = .ok (.getfield 9, 3) := by decide +kernel
theorem dX2_isEntry_15 : decode cX2_isEntry 15 = .ok (.iload_n 1, 1) := by decide +kernel
theorem dX2_isEntry_16 : decode cX2_isEntry 16 = .ok (.invokestatic 107, 3) := by decide +kernel
theorem dX2_isEntry_19 : decode cX2_isEntry 19 = .ok (.iload_n 2, 1) := by decide +kernel
theorem dX2_isEntry_20 : decode cX2_isEntry 20 = .ok (.invokestatic 90, 3) := by decide +kernel
theorem dX2_isEntry_23 : decode cX2_isEntry 23 = .ok (.ifCond .eq 7, 3) := by decide +kernel
theorem dX2_isEntry_26 : decode cX2_isEntry 26 = .ok (.iconst 1, 1) := by decide +kernel
theorem dX2_isEntry_27 : decode cX2_isEntry 27 = .ok (.goto 4, 3) := by decide +kernel
theorem dX2_isEntry_30 : decode cX2_isEntry 30 = .ok (.iconst 0, 1) := by decide +kernel
theorem dX2_isEntry_31 : decode cX2_isEntry 31 = .ok (.ireturn, 1) := by decide +kernel
theorem dX2_learn_0 : decode cX2_learn 0 = .ok (.iload_n 1, 1) := by decide +kernel
theorem dX2_learn_1 : decode cX2_learn 1 = .ok (.ifCond .lt 25, 3) := by decide +kernel
theorem dX2_learn_4 : decode cX2_learn 4 = .ok (.iload_n 1, 1) := by decide +kernel
theorem dX2_learn_5 : decode cX2_learn 5 = .ok (.aload_n 0, 1) := by decide +kernel
theorem dX2_learn_6 : decode cX2_learn 6 = .ok (.getfield 15, 3) := by decide +kernel
theorem dX2_learn_9 : decode cX2_learn 9 = .ok (.arraylength, 1) := by decide +kernel
theorem dX2_learn_10 : decode cX2_learn 10 = .ok (.if_icmp .ge 16, 3) := by decide +kernel
theorem dX2_learn_13 : decode cX2_learn 13 = .ok (.iload_n 2, 1) := by decide +kernel
theorem dX2_learn_14 : decode cX2_learn 14 = .ok (.ifCond .lt 12, 3) := by decide +kernel
theorem dX2_learn_17 : decode cX2_learn 17 = .ok (.iload_n 2, 1) := by decide +kernel
theorem dX2_learn_18 : decode cX2_learn 18 = .ok (.aload_n 0, 1) := by decide +kernel
theorem dX2_learn_19 : decode cX2_learn 19 = .ok (.getfield 15, 3) := by decide +kernel
theorem dX2_learn_22 : decode cX2_learn 22 = .ok (.arraylength, 1) := by decide +kernel
theorem dX2_learn_23 : decode cX2_learn 23 = .ok (.if_icmp .lt 4, 3) := by decide +kernel
theorem dX2_learn_26 : decode cX2_learn 26 = .ok (.return_, 1) := by decide +kernel
theorem dX2_learn_27 : decode cX2_learn 27 = .ok (.aload_n 0, 1) := by decide +kernel
theorem dX2_learn_28 : decode cX2_learn 28 = .ok (.getfield 15, 3) := by decide +kernel
theorem dX2_learn_31 : decode cX2_learn 31 = .ok (.iload_n 1, 1) := by decide +kernel
theorem dX2_learn_32 : decode cX2_learn 32 = .ok (.dup2, 1) := by decide +kernel
theorem dX2_learn_33 : decode cX2_learn 33 = .ok (.iaload, 1) := by decide +kernel
theorem dX2_learn_34 : decode cX2_learn 34 = .ok (.iconst 1, 1) := by decide +kernel
theorem dX2_learn_35 : decode cX2_learn 35 = .ok (.iload_n 2, 1) := by decide +kernel
theorem dX2_learn_36 : decode cX2_learn 36 = .ok (.ishl, 1) := by decide +kernel
theorem dX2_learn_37 : decode cX2_learn 37 = .ok (.ior, 1) := by decide +kernel
theorem dX2_learn_38 : decode cX2_learn 38 = .ok (.iastore, 1) := by decide +kernel
theorem dX2_learn_39 : decode cX2_learn 39 = .ok (.aload_n 0, 1) := by decide +kernel
theorem dX2_learn_40 : decode cX2_learn 40 = .ok (.getfield 15, 3) := by decide +kernel
theorem dX2_learn_43 : decode cX2_learn 43 = .ok (.iload_n 2, 1) := by decide +kernel
theorem dX2_learn_44 : decode cX2_learn 44 = .ok (.dup2, 1) := by decide +kernel
theorem dX2_learn_45 : decode cX2_learn 45 = .ok (.iaload, 1) := by decide +kernel
theorem dX2_learn_46 : decode cX2_learn 46 = .ok (.iconst 1, 1) := by decide +kernel
theorem dX2_learn_47 : decode cX2_learn 47 = .ok (.iload_n 1, 1) := by decide +kernel
theorem dX2_learn_48 : decode cX2_learn 48 = .ok (.ishl, 1) := by decide +kernel
theorem dX2_learn_49 : decode cX2_learn 49 = .ok (.ior, 1) := by decide +kernel
theorem dX2_learn_50 : decode cX2_learn 50 = .ok (.iastore, 1) := by decide +kernel
theorem dX2_learn_51 : decode cX2_learn 51 = .ok (.iload_n 3, 1) := by decide +kernel
theorem dX2_learn_52 : decode cX2_learn 52 = .ok (.ifCond .eq 27, 3) := by decide +kernel
theorem dX2_learn_55 : decode cX2_learn 55 = .ok (.aload_n 0, 1) := by decide +kernel
theorem dX2_learn_56 : decode cX2_learn 56 = .ok (.getfield 21, 3) := by decide +kernel
theorem dX2_learn_59 : decode cX2_learn 59 = .ok (.iload_n 1, 1) := by decide +kernel
theorem dX2_learn_60 : decode cX2_learn 60 = .ok (.dup2, 1) := by decide +kernel
theorem dX2_learn_61 : decode cX2_learn 61 = .ok (.iaload, 1) := by decide +kernel
theorem dX2_learn_62 : decode cX2_learn 62 = .ok (.iconst 1, 1) := by decide +kernel
theorem dX2_learn_63 : decode cX2_learn 63 = .ok (.iload_n 2, 1) := by decide +kernel
theorem dX2_learn_64 : decode cX2_learn 64 = .ok (.ishl, 1) := by decide +kernel
theorem dX2_learn_65 : decode cX2_learn 65 = .ok (.ior, 1) := by decide +kernel
theorem dX2_learn_66 : decode cX2_learn 66 = .ok (.iastore, 1) := by decide +kernel
theorem dX2_learn_67 : decode cX2_learn 67 = .ok (.aload_n 0, 1) := by decide +kernel
theorem dX2_learn_68 : decode cX2_learn 68 = .ok (.getfield 21, 3) := by decide +kernel
theorem dX2_learn_71 : decode cX2_learn 71 = .ok (.iload_n 2, 1) := by decide +kernel
theorem dX2_learn_72 : decode cX2_learn 72 = .ok (.dup2, 1) := by decide +kernel
theorem dX2_learn_73 : decode cX2_learn 73 = .ok (.iaload, 1) := by decide +kernel
theorem dX2_learn_74 : decode cX2_learn 74 = .ok (.iconst 1, 1) := by decide +kernel
theorem dX2_learn_75 : decode cX2_learn 75 = .ok (.iload_n 1, 1) := by decide +kernel
theorem dX2_learn_76 : decode cX2_learn 76 = .ok (.ishl, 1) := by decide +kernel
theorem dX2_learn_77 : decode cX2_learn 77 = .ok (.ior, 1) := by decide +kernel
theorem dX2_learn_78 : decode cX2_learn 78 = .ok (.iastore, 1) := by decide +kernel
theorem dX2_learn_79 : decode cX2_learn 79 = .ok (.return_, 1) := by decide +kernel
theorem dX2_setBoundSigns_0 : decode cX2_setBoundSigns 0 = .ok (.iconst 0, 1) := by decide +kernel
theorem dX2_setBoundSigns_1 : decode cX2_setBoundSigns 1 = .ok (.istore_n 1, 1) := by decide +kernel
theorem dX2_setBoundSigns_2 : decode cX2_setBoundSigns 2 = .ok (.iload_n 1, 1) := by decide +kernel
theorem dX2_setBoundSigns_3 : decode cX2_setBoundSigns 3 = .ok (.bipush 100, 2) := by decide +kernel
theorem dX2_setBoundSigns_5 : decode cX2_setBoundSigns 5 = .ok (.if_icmp .ge 113, 3) := by decide +kernel
theorem dX2_setBoundSigns_8 : decode cX2_setBoundSigns 8 = .ok (.bipush 99, 2) := by decide +kernel
theorem dX2_setBoundSigns_10 : decode cX2_setBoundSigns 10 = .ok (.istore_n 2, 1) := by decide +kernel
theorem dX2_setBoundSigns_11 : decode cX2_setBoundSigns 11 = .ok (.iconst (-1), 1) := by decide +kernel
theorem dX2_setBoundSigns_12 : decode cX2_setBoundSigns 12 = .ok (.istore_n 3, 1) := by decide +kernel
theorem dX2_setBoundSigns_13 : decode cX2_setBoundSigns 13 = .ok (.iconst (-1), 1) := by decide +kernel
theorem dX2_setBoundSigns_14 : decode cX2_setBoundSigns 14 = .ok (.istore 4, 2) := by decide +kernel
theorem dX2_setBoundSigns_16 : decode cX2_setBoundSigns 16 = .ok (.iconst 0, 1) := by decide +kernel
theorem dX2_setBoundSigns_17 : decode cX2_setBoundSigns 17 = .ok (.istore 5, 2) := by decide +kernel
theorem dX2_setBoundSigns_19 : decode cX2_setBoundSigns 19 = .ok (.iload 5, 2) := by decide +kernel
theorem dX2_setBoundSigns_21 : decode cX2_setBoundSigns 21 = .ok (.bipush 100, 2) := by decide +kernel
theorem dX2_setBoundSigns_23 : decode cX2_setBoundSigns 23 = .ok (.if_icmp .ge 77, 3) := by decide +kernel
theorem dX2_setBoundSigns_26 : decode cX2_setBoundSigns 26 = .ok (.iload 5, 2) := by decide +kernel
theorem dX2_setBoundSigns_28 : decode cX2_setBoundSigns 28 = .ok (.bipush 10, 2) := by decide +kernel
theorem dX2_setBoundSigns_30 : decode cX2_setBoundSigns 30 = .ok (.idiv, 1) := by decide +kernel
theorem dX2_setBoundSigns_31 : decode cX2_setBoundSigns 31 = .ok (.istore 6, 2) := by decide +kernel
theorem dX2_setBoundSigns_33 : decode cX2_setBoundSigns 33 = .ok (.iload 5, 2) := by decide +kernel
theorem dX2_setBoundSigns_35 : decode cX2_setBoundSigns 35 = .ok (.bipush 10, 2) := by decide +kernel
theorem dX2_setBoundSigns_37 : decode cX2_setBoundSigns 37 = .ok (.irem, 1) := by decide +kernel
theorem dX2_setBoundSigns_38 : decode cX2_setBoundSigns 38 = .ok (.istore 7, 2) := by decide +kernel
theorem dX2_setBoundSigns_40 : decode cX2_setBoundSigns 40 = .ok (.aload_n 0, 1) := by decide +kernel
theorem dX2_setBoundSigns_41 : decode cX2_setBoundSigns 41 = .ok (.iload 6, 2) := by decide +kernel
theorem dX2_setBoundSigns_43 : decode cX2_setBoundSigns 43 = .ok (.iload 7, 2) := by decide +kernel
theorem dX2_setBoundSigns_45 : decode cX2_setBoundSigns 45 = .ok (.invokevirtual 97, 3) := by decide +kernel
theorem dX2_setBoundSigns_48 : decode cX2_setBoundSigns 48 = .ok (.ifCond .eq 46, 3) := by decide +kernel
theorem dX2_setBoundSigns_51 : decode cX2_setBoundSigns 51 = .ok (.aload_n 0, 1) := by decide +kernel
theorem dX2_setBoundSigns_52 : decode cX2_setBoundSigns 52 = .ok (.getfield 15, 3) := by decide +kernel
theorem dX2_setBoundSigns_55 : decode cX2_setBoundSigns 55 = .ok (.iload 6, 2) := by decide +kernel
theorem dX2_setBoundSigns_57 : decode cX2_setBoundSigns 57 = .ok (.invokestatic 107, 3) := by decide +kernel
theorem dX2_setBoundSigns_60 : decode cX2_setBoundSigns 60 = .ok (.iload 7, 2) := by decide +kernel
theorem dX2_setBoundSigns_62 : decode cX2_setBoundSigns 62 = .ok (.invokestatic 90, 3) := by decide +kernel
theorem dX2_setBoundSigns_65 : decode cX2_setBoundSigns 65 = .ok (.ifCond .ne 29, 3) := by decide +kernel
theorem dX2_setBoundSigns_68 : decode cX2_setBoundSigns 68 = .ok (.aload_n 0, 1) := by decide +kernel
theorem dX2_setBoundSigns_69 : decode cX2_setBoundSigns 69 = .ok (.iload 6, 2) := by decide +kernel
theorem dX2_setBoundSigns_71 : decode cX2_setBoundSigns 71 = .ok (.iload 7, 2) := by decide +kernel
theorem dX2_setBoundSigns_73 : decode cX2_setBoundSigns 73 = .ok (.invokevirtual 100, 3) := by decide +kernel
theorem dX2_setBoundSigns_76 : decode cX2_setBoundSigns 76 = .ok (.istore 8, 2) := by decide +kernel
theorem dX2_setBoundSigns_78 : decode cX2_setBoundSigns 78 = .ok (.iload 8, 2) := by decide +kernel
theorem dX2_setBoundSigns_80 : decode cX2_setBoundSigns 80 = .ok (.iload_n 2, 1) := by decide +kernel
theorem dX2_setBoundSigns_81 : decode cX2_setBoundSigns 81 = .ok (.if_icmp .ge 13, 3) := by decide +kernel
theorem dX2_setBoundSigns_84 : decode cX2_setBoundSigns 84 = .ok (.iload 8, 2) := by decide +kernel
theorem dX2_setBoundSigns_86 : decode cX2_setBoundSigns 86 = .ok (.istore_n 2, 1) := by decide +kernel
theorem dX2_setBoundSigns_87 : decode cX2_setBoundSigns 87 = .ok (.iload 6, 2) := by decide +kernel
theorem dX2_setBoundSigns_89 : decode cX2_setBoundSigns 89 = .ok (.istore_n 3, 1) := by decide +kernel
theorem dX2_setBoundSigns_90 : decode cX2_setBoundSigns 90 = .ok (.iload 7, 2) := by decide +kernel
theorem dX2_setBoundSigns_92 : decode cX2_setBoundSigns 92 = .ok (.istore 4, 2) := by decide +kernel
theorem dX2_setBoundSigns_94 : decode cX2_setBoundSigns 94 = .ok (.iinc 5 1, 3) := by decide +kernel
theorem dX2_setBoundSigns_97 : decode cX2_setBoundSigns 97 = .ok (.goto (-78), 3) := by decide +kernel
theorem dX2_setBoundSigns_100 : decode cX2_setBoundSigns 100 = .ok (.iload_n 3, 1) := by decide +kernel
theorem dX2_setBoundSigns_101 : decode cX2_setBoundSigns 101 = .ok (.ifCond .ge 4, 3) := by decide +kernel
theorem dX2_setBoundSigns_104 : decode cX2_setBoundSigns 104 = .ok (.return_, 1) := by decide +kernel
theorem dX2_setBoundSigns_105 : decode cX2_setBoundSigns 105 = .ok (.aload_n 0, 1) := by decide +kernel
theorem dX2_setBoundSigns_106 : decode cX2_setBoundSigns 106 = .ok (.iload_n 3, 1) := by decide +kernel
theorem dX2_setBoundSigns_107 : decode cX2_setBoundSigns 107 = .ok (.iload 4, 2) := by decide +kernel
theorem dX2_setBoundSigns_109 : decode cX2_setBoundSigns 109 = .ok (.invokevirtual 111, 3) := by decide +kernel
theorem dX2_setBoundSigns_112 : decode cX2_setBoundSigns 112 = .ok (.iinc 1 1, 3) := by decide +kernel
theorem dX2_setBoundSigns_115 : decode cX2_setBoundSigns 115 = .ok (.goto (-113), 3) := by decide +kernel
theorem dX2_setBoundSigns_118 : decode cX2_setBoundSigns 118 = .ok (.return_, 1) := by decide +kernel
theorem dX2_walk_0 : decode cX2_walk 0 = .ok (.iconst 1, 1) := by decide +kernel
theorem dX2_walk_1 : decode cX2_walk 1 = .ok (.iload_n 1, 1) := by decide +kernel
theorem dX2_walk_2 : decode cX2_walk 2 = .ok (.ishl, 1) := by decide +kernel
theorem dX2_walk_3 : decode cX2_walk 3 = .ok (.istore_n 3, 1) := by decide +kernel
theorem dX2_walk_4 : decode cX2_walk 4 = .ok (.iload_n 3, 1) := by decide +kernel
theorem dX2_walk_5 : decode cX2_walk 5 = .ok (.istore 4, 2) := by decide +kernel
theorem dX2_walk_7 : decode cX2_walk 7 = .ok (.iconst 1, 1) := by decide +kernel
theorem dX2_walk_8 : decode cX2_walk 8 = .ok (.istore 5, 2) := by decide +kernel
theorem dX2_walk_10 : decode cX2_walk 10 = .ok (.iload 5, 2) := by decide +kernel
theorem dX2_walk_12 : decode cX2_walk 12 = .ok (.bipush 10, 2) := by decide +kernel
theorem dX2_walk_14 : decode cX2_walk 14 = .ok (.if_icmp .gt 89, 3) := by decide +kernel
theorem dX2_walk_17 : decode cX2_walk 17 = .ok (.iconst 0, 1) := by decide +kernel
theorem dX2_walk_18 : decode cX2_walk 18 = .ok (.istore 6, 2) := by decide +kernel
theorem dX2_walk_20 : decode cX2_walk 20 = .ok (.iconst 0, 1) := by decide +kernel
theorem dX2_walk_21 : decode cX2_walk 21 = .ok (.istore 7, 2) := by decide +kernel
theorem dX2_walk_23 : decode cX2_walk 23 = .ok (.iload 7, 2) := by decide +kernel
theorem dX2_walk_25 : decode cX2_walk 25 = .ok (.bipush 10, 2) := by decide +kernel
theorem dX2_walk_27 : decode cX2_walk 27 = .ok (.if_icmp .ge 54, 3) := by decide +kernel
theorem dX2_walk_30 : decode cX2_walk 30 = .ok (.iload 4, 2) := by decide +kernel
theorem dX2_walk_32 : decode cX2_walk 32 = .ok (.iload 7, 2) := by decide +kernel
theorem dX2_walk_34 : decode cX2_walk 34 = .ok (.invokestatic 90, 3) := by decide +kernel
theorem dX2_walk_37 : decode cX2_walk 37 = .ok (.ifCond .eq 38, 3) := by decide +kernel
theorem dX2_walk_40 : decode cX2_walk 40 = .ok (.aload_n 0, 1) := by decide +kernel
theorem dX2_walk_41 : decode cX2_walk 41 = .ok (.getfield 15, 3) := by decide +kernel
theorem dX2_walk_44 : decode cX2_walk 44 = .ok (.iload 7, 2) := by decide +kernel
theorem dX2_walk_46 : decode cX2_walk 46 = .ok (.invokestatic 107, 3) := by decide +kernel
theorem dX2_walk_49 : decode cX2_walk 49 = .ok (.iload_n 3, 1) := by decide +kernel
theorem dX2_walk_50 : decode cX2_walk 50 = .ok (.iconst (-1), 1) := by decide +kernel
theorem dX2_walk_51 : decode cX2_walk 51 = .ok (.ixor, 1) := by decide +kernel
theorem dX2_walk_52 : decode cX2_walk 52 = .ok (.iand, 1) := by decide +kernel
theorem dX2_walk_53 : decode cX2_walk 53 = .ok (.istore 8, 2) := by decide +kernel
theorem dX2_walk_55 : decode cX2_walk 55 = .ok (.iload_n 3, 1) := by decide +kernel
theorem dX2_walk_56 : decode cX2_walk 56 = .ok (.iload 8, 2) := by decide +kernel
theorem dX2_walk_58 : decode cX2_walk 58 = .ok (.ior, 1) := by decide +kernel
theorem dX2_walk_59 : decode cX2_walk 59 = .ok (.istore_n 3, 1) := by decide +kernel
theorem dX2_walk_60 : decode cX2_walk 60 = .ok (.iload 6, 2) := by decide +kernel
theorem dX2_walk_62 : decode cX2_walk 62 = .ok (.iload 8, 2) := by decide +kernel
theorem dX2_walk_64 : decode cX2_walk 64 = .ok (.ior, 1) := by decide +kernel
theorem dX2_walk_65 : decode cX2_walk 65 = .ok (.istore 6, 2) := by decide +kernel
theorem dX2_walk_67 : decode cX2_walk 67 = .ok (.aload_n 0, 1) := by decide +kernel
theorem dX2_walk_68 : decode cX2_walk 68 = .ok (.iload 8, 2) := by decide +kernel
theorem dX2_walk_70 : decode cX2_walk 70 = .ok (.iload 7, 2) := by decide +kernel
theorem dX2_walk_72 : decode cX2_walk 72 = .ok (.invokevirtual 115, 3) := by decide +kernel
theorem dX2_walk_75 : decode cX2_walk 75 = .ok (.iinc 7 1, 3) := by decide +kernel
theorem dX2_walk_78 : decode cX2_walk 78 = .ok (.goto (-55), 3) := by decide +kernel
theorem dX2_walk_81 : decode cX2_walk 81 = .ok (.iload 6, 2) := by decide +kernel
theorem dX2_walk_83 : decode cX2_walk 83 = .ok (.iload_n 2, 1) := by decide +kernel
theorem dX2_walk_84 : decode cX2_walk 84 = .ok (.invokestatic 90, 3) := by decide +kernel
theorem dX2_walk_87 : decode cX2_walk 87 = .ok (.ifCond .eq 6, 3) := by decide +kernel
theorem dX2_walk_90 : decode cX2_walk 90 = .ok (.iload 5, 2) := by decide +kernel
theorem dX2_walk_92 : decode cX2_walk 92 = .ok (.ireturn, 1) := by decide +kernel
theorem dX2_walk_93 : decode cX2_walk 93 = .ok (.iload 6, 2) := by decide +kernel
theorem dX2_walk_95 : decode cX2_walk 95 = .ok (.istore 4, 2) := by decide +kernel
theorem dX2_walk_97 : decode cX2_walk 97 = .ok (.iinc 5 1, 3) := by decide +kernel
theorem dX2_walk_100 : decode cX2_walk 100 = .ok (.goto (-90), 3) := by decide +kernel
theorem dX2_walk_103 : decode cX2_walk 103 = .ok (.bipush 99, 2) := by decide +kernel
theorem dX2_walk_105 : decode cX2_walk 105 = .ok (.ireturn, 1) := by decide +kernel
theorem dX2_keepWay_0 : decode cX2_keepWay 0 = .ok (.iconst 0, 1) := by decide +kernel
theorem dX2_keepWay_1 : decode cX2_keepWay 1 = .ok (.istore_n 3, 1) := by decide +kernel
theorem dX2_keepWay_2 : decode cX2_keepWay 2 = .ok (.iload_n 3, 1) := by decide +kernel
theorem dX2_keepWay_3 : decode cX2_keepWay 3 = .ok (.aload_n 0, 1) := by decide +kernel
theorem dX2_keepWay_4 : decode cX2_keepWay 4 = .ok (.getfield 18, 3) := by decide +kernel
theorem dX2_keepWay_7 : decode cX2_keepWay 7 = .ok (.arraylength, 1) := by decide +kernel
theorem dX2_keepWay_8 : decode cX2_keepWay 8 = .ok (.if_icmp .ge 24, 3) := by decide +kernel
theorem dX2_keepWay_11 : decode cX2_keepWay 11 = .ok (.iload_n 1, 1) := by decide +kernel
theorem dX2_keepWay_12 : decode cX2_keepWay 12 = .ok (.iconst 1, 1) := by decide +kernel
theorem dX2_keepWay_13 : decode cX2_keepWay 13 = .ok (.iload_n 3, 1) := by decide +kernel
theorem dX2_keepWay_14 : decode cX2_keepWay 14 = .ok (.ishl, 1) := by decide +kernel
theorem dX2_keepWay_15 : decode cX2_keepWay 15 = .ok (.iand, 1) := by decide +kernel
theorem dX2_keepWay_16 : decode cX2_keepWay 16 = .ok (.ifCond .eq 10, 3) := by decide +kernel
theorem dX2_keepWay_19 : decode cX2_keepWay 19 = .ok (.aload_n 0, 1) := by decide +kernel
theorem dX2_keepWay_20 : decode cX2_keepWay 20 = .ok (.getfield 18, 3) := by decide +kernel
theorem dX2_keepWay_23 : decode cX2_keepWay 23 = .ok (.iload_n 3, 1) := by decide +kernel
theorem dX2_keepWay_24 : decode cX2_keepWay 24 = .ok (.iload_n 2, 1) := by decide +kernel
theorem dX2_keepWay_25 : decode cX2_keepWay 25 = .ok (.iastore, 1) := by decide +kernel
theorem dX2_keepWay_26 : decode cX2_keepWay 26 = .ok (.iinc 3 1, 3) := by decide +kernel
theorem dX2_keepWay_29 : decode cX2_keepWay 29 = .ok (.goto (-27), 3) := by decide +kernel
theorem dX2_keepWay_32 : decode cX2_keepWay 32 = .ok (.return_, 1) := by decide +kernel
theorem dX2_closeRing_0 : decode cX2_closeRing 0 = .ok (.aload_n 0, 1) := by decide +kernel
theorem dX2_closeRing_1 : decode cX2_closeRing 1 = .ok (.iload_n 1, 1) := by decide +kernel
theorem dX2_closeRing_2 : decode cX2_closeRing 2 = .ok (.iload_n 2, 1) := by decide +kernel
theorem dX2_closeRing_3 : decode cX2_closeRing 3 = .ok (.invokevirtual 100, 3) := by decide +kernel
theorem dX2_closeRing_6 : decode cX2_closeRing 6 = .ok (.pop, 1) := by decide +kernel
theorem dX2_closeRing_7 : decode cX2_closeRing 7 = .ok (.iconst 1, 1) := by decide +kernel
theorem dX2_closeRing_8 : decode cX2_closeRing 8 = .ok (.iload_n 2, 1) := by decide +kernel
theorem dX2_closeRing_9 : decode cX2_closeRing 9 = .ok (.ishl, 1) := by decide +kernel
theorem dX2_closeRing_10 : decode cX2_closeRing 10 = .ok (.istore_n 3, 1) := by decide +kernel
theorem dX2_closeRing_11 : decode cX2_closeRing 11 = .ok (.iconst 0, 1) := by decide +kernel
theorem dX2_closeRing_12 : decode cX2_closeRing 12 = .ok (.istore 4, 2) := by decide +kernel
theorem dX2_closeRing_14 : decode cX2_closeRing 14 = .ok (.iload_n 2, 1) := by decide +kernel
theorem dX2_closeRing_15 : decode cX2_closeRing 15 = .ok (.istore 5, 2) := by decide +kernel
theorem dX2_closeRing_17 : decode cX2_closeRing 17 = .ok (.iconst 0, 1) := by decide +kernel
theorem dX2_closeRing_18 : decode cX2_closeRing 18 = .ok (.istore 6, 2) := by decide +kernel
theorem dX2_closeRing_20 : decode cX2_closeRing 20 = .ok (.iload 6, 2) := by decide +kernel
theorem dX2_closeRing_22 : decode cX2_closeRing 22 = .ok (.bipush 10, 2) := by decide +kernel
theorem dX2_closeRing_24 : decode cX2_closeRing 24 = .ok (.if_icmp .ge 56, 3) := by decide +kernel
theorem dX2_closeRing_27 : decode cX2_closeRing 27 = .ok (.iload 5, 2) := by decide +kernel
theorem dX2_closeRing_29 : decode cX2_closeRing 29 = .ok (.iload_n 1, 1) := by decide +kernel
theorem dX2_closeRing_30 : decode cX2_closeRing 30 = .ok (.if_icmp .eq 50, 3) := by decide +kernel
theorem dX2_closeRing_33 : decode cX2_closeRing 33 = .ok (.aload_n 0, 1) := by decide +kernel
theorem dX2_closeRing_34 : decode cX2_closeRing 34 = .ok (.getfield 18, 3) := by decide +kernel
theorem dX2_closeRing_37 : decode cX2_closeRing 37 = .ok (.iload 5, 2) := by decide +kernel
theorem dX2_closeRing_39 : decode cX2_closeRing 39 = .ok (.invokestatic 107, 3) := by decide +kernel
theorem dX2_closeRing_42 : decode cX2_closeRing 42 = .ok (.istore 7, 2) := by decide +kernel
theorem dX2_closeRing_44 : decode cX2_closeRing 44 = .ok (.iload 4, 2) := by decide +kernel
theorem dX2_closeRing_46 : decode cX2_closeRing 46 = .ok (.aload_n 0, 1) := by decide +kernel
theorem dX2_closeRing_47 : decode cX2_closeRing 47 = .ok (.getfield 21, 3) := by decide +kernel
theorem dX2_closeRing_50 : decode cX2_closeRing 50 = .ok (.iload 5, 2) := by decide +kernel
theorem dX2_closeRing_52 : decode cX2_closeRing 52 = .ok (.invokestatic 107, 3) := by decide +kernel
theorem dX2_closeRing_55 : decode cX2_closeRing 55 = .ok (.iload 7, 2) := by decide +kernel
theorem dX2_closeRing_57 : decode cX2_closeRing 57 = .ok (.invokestatic 90, 3) := by decide +kernel
theorem dX2_closeRing_60 : decode cX2_closeRing 60 = .ok (.ixor, 1) := by decide +kernel
theorem dX2_closeRing_61 : decode cX2_closeRing 61 = .ok (.istore 4, 2) := by decide +kernel
theorem dX2_closeRing_63 : decode cX2_closeRing 63 = .ok (.iload_n 3, 1) := by decide +kernel
theorem dX2_closeRing_64 : decode cX2_closeRing 64 = .ok (.iconst 1, 1) := by decide +kernel
theorem dX2_closeRing_65 : decode cX2_closeRing 65 = .ok (.iload 7, 2) := by decide +kernel
theorem dX2_closeRing_67 : decode cX2_closeRing 67 = .ok (.ishl, 1) := by decide +kernel
theorem dX2_closeRing_68 : decode cX2_closeRing 68 = .ok (.ior, 1) := by decide +kernel
theorem dX2_closeRing_69 : decode cX2_closeRing 69 = .ok (.istore_n 3, 1) := by decide +kernel
theorem dX2_closeRing_70 : decode cX2_closeRing 70 = .ok (.iload 7, 2) := by decide +kernel
theorem dX2_closeRing_72 : decode cX2_closeRing 72 = .ok (.istore 5, 2) := by decide +kernel
theorem dX2_closeRing_74 : decode cX2_closeRing 74 = .ok (.iinc 6 1, 3) := by decide +kernel
theorem dX2_closeRing_77 : decode cX2_closeRing 77 = .ok (.goto (-57), 3) := by decide +kernel
theorem dX2_closeRing_80 : decode cX2_closeRing 80 = .ok (.iload_n 3, 1) := by decide +kernel
theorem dX2_closeRing_81 : decode cX2_closeRing 81 = .ok (.aload_n 0, 1) := by decide +kernel
theorem dX2_closeRing_82 : decode cX2_closeRing 82 = .ok (.getfield 39, 3) := by decide +kernel
theorem dX2_closeRing_85 : decode cX2_closeRing 85 = .ok (.iand, 1) := by decide +kernel
theorem dX2_closeRing_86 : decode cX2_closeRing 86 = .ok (.invokestatic 118, 3) := by decide +kernel
theorem dX2_closeRing_89 : decode cX2_closeRing 89 = .ok (.iconst 2, 1) := by decide +kernel
theorem dX2_closeRing_90 : decode cX2_closeRing 90 = .ok (.irem, 1) := by decide +kernel
theorem dX2_closeRing_91 : decode cX2_closeRing 91 = .ok (.ifCond .eq 7, 3) := by decide +kernel
theorem dX2_closeRing_94 : decode cX2_closeRing 94 = .ok (.iconst 1, 1) := by decide +kernel
theorem dX2_closeRing_95 : decode cX2_closeRing 95 = .ok (.goto 4, 3) := by decide +kernel
theorem dX2_closeRing_98 : decode cX2_closeRing 98 = .ok (.iconst 0, 1) := by decide +kernel
theorem dX2_closeRing_99 : decode cX2_closeRing 99 = .ok (.istore 6, 2) := by decide +kernel
theorem dX2_closeRing_101 : decode cX2_closeRing 101 = .ok (.aload_n 0, 1) := by decide +kernel
theorem dX2_closeRing_102 : decode cX2_closeRing 102 = .ok (.getfield 24, 3) := by decide +kernel
theorem dX2_closeRing_105 : decode cX2_closeRing 105 = .ok (.aload_n 0, 1) := by decide +kernel
theorem dX2_closeRing_106 : decode cX2_closeRing 106 = .ok (.getfield 39, 3) := by decide +kernel
theorem dX2_closeRing_109 : decode cX2_closeRing 109 = .ok (.iload_n 3, 1) := by decide +kernel
theorem dX2_closeRing_110 : decode cX2_closeRing 110 = .ok (.ixor, 1) := by decide +kernel
theorem dX2_closeRing_111 : decode cX2_closeRing 111 = .ok (.iconst 2, 1) := by decide +kernel
theorem dX2_closeRing_112 : decode cX2_closeRing 112 = .ok (.invokevirtual 124, 3) := by decide +kernel
theorem dX2_closeRing_115 : decode cX2_closeRing 115 = .ok (.ifCond .ne 7, 3) := by decide +kernel
theorem dX2_closeRing_118 : decode cX2_closeRing 118 = .ok (.iconst 1, 1) := by decide +kernel
theorem dX2_closeRing_119 : decode cX2_closeRing 119 = .ok (.goto 4, 3) := by decide +kernel
theorem dX2_closeRing_122 : decode cX2_closeRing 122 = .ok (.iconst 0, 1) := by decide +kernel
theorem dX2_closeRing_123 : decode cX2_closeRing 123 = .ok (.istore 7, 2) := by decide +kernel
theorem dX2_closeRing_125 : decode cX2_closeRing 125 = .ok (.aload_n 0, 1) := by decide +kernel
theorem dX2_closeRing_126 : decode cX2_closeRing 126 = .ok (.iload_n 1, 1) := by decide +kernel
theorem dX2_closeRing_127 : decode cX2_closeRing 127 = .ok (.iload_n 2, 1) := by decide +kernel
theorem dX2_closeRing_128 : decode cX2_closeRing 128 = .ok (.iload 4, 2) := by decide +kernel
theorem dX2_closeRing_130 : decode cX2_closeRing 130 = .ok (.iload 6, 2) := by decide +kernel
theorem dX2_closeRing_132 : decode cX2_closeRing 132 = .ok (.ixor, 1) := by decide +kernel
theorem dX2_closeRing_133 : decode cX2_closeRing 133 = .ok (.iload 7, 2) := by decide +kernel
theorem dX2_closeRing_135 : decode cX2_closeRing 135 = .ok (.ifCond .ne 7, 3) := by decide +kernel
theorem dX2_closeRing_138 : decode cX2_closeRing 138 = .ok (.iconst 1, 1) := by decide +kernel
theorem dX2_closeRing_139 : decode cX2_closeRing 139 = .ok (.goto 4, 3) := by decide +kernel
theorem dX2_closeRing_142 : decode cX2_closeRing 142 = .ok (.iconst 0, 1) := by decide +kernel
theorem dX2_closeRing_143 : decode cX2_closeRing 143 = .ok (.ixor, 1) := by decide +kernel
theorem dX2_closeRing_144 : decode cX2_closeRing 144 = .ok (.invokevirtual 103, 3) := by decide +kernel
theorem dX2_closeRing_147 : decode cX2_closeRing 147 = .ok (.return_, 1) := by decide +kernel
theorem dX2_fillColumns_0 : decode cX2_fillColumns 0 = .ok (.iconst 0, 1) := by decide +kernel
theorem dX2_fillColumns_1 : decode cX2_fillColumns 1 = .ok (.istore_n 1, 1) := by decide +kernel
theorem dX2_fillColumns_2 : decode cX2_fillColumns 2 = .ok (.iconst 0, 1) := by decide +kernel
theorem dX2_fillColumns_3 : decode cX2_fillColumns 3 = .ok (.istore_n 2, 1) := by decide +kernel
theorem dX2_fillColumns_4 : decode cX2_fillColumns 4 = .ok (.iload_n 2, 1) := by decide +kernel
theorem dX2_fillColumns_5 : decode cX2_fillColumns 5 = .ok (.aload_n 0, 1) := by decide +kernel
theorem dX2_fillColumns_6 : decode cX2_fillColumns 6 = .ok (.getfield 24, 3) := by decide +kernel
theorem dX2_fillColumns_9 : decode cX2_fillColumns 9 = .ok (.getfield 48, 3) := by decide +kernel
theorem dX2_fillColumns_12 : decode cX2_fillColumns 12 = .ok (.if_icmp .ge 90, 3) := by decide +kernel
theorem dX2_fillColumns_15 : decode cX2_fillColumns 15 = .ok (.aload_n 0, 1) := by decide +kernel
theorem dX2_fillColumns_16 : decode cX2_fillColumns 16 = .ok (.getfield 39, 3) := by decide +kernel
theorem dX2_fillColumns_19 : decode cX2_fillColumns 19 = .ok (.iload_n 2, 1) := by decide +kernel
theorem dX2_fillColumns_20 : decode cX2_fillColumns 20 = .ok (.invokestatic 90, 3) := by decide +kernel
theorem dX2_fillColumns_23 : decode cX2_fillColumns 23 = .ok (.ifCond .eq 73, 3) := by decide +kernel
theorem dX2_fillColumns_26 : decode cX2_fillColumns 26 = .ok (.aload_n 0, 1) := by decide +kernel
theorem dX2_fillColumns_27 : decode cX2_fillColumns 27 = .ok (.getfield 54, 3) := by decide +kernel
theorem dX2_fillColumns_30 : decode cX2_fillColumns 30 = .ok (.iload_n 2, 1) := by decide +kernel
theorem dX2_fillColumns_31 : decode cX2_fillColumns 31 = .ok (.iload_n 1, 1) := by decide +kernel
theorem dX2_fillColumns_32 : decode cX2_fillColumns 32 = .ok (.iconst 1, 1) := by decide +kernel
theorem dX2_fillColumns_33 : decode cX2_fillColumns 33 = .ok (.invokevirtual 127, 3) := by decide +kernel
theorem dX2_fillColumns_36 : decode cX2_fillColumns 36 = .ok (.iconst 0, 1) := by decide +kernel
theorem dX2_fillColumns_37 : decode cX2_fillColumns 37 = .ok (.istore_n 3, 1) := by decide +kernel
theorem dX2_fillColumns_38 : decode cX2_fillColumns 38 = .ok (.iload_n 3, 1) := by decide +kernel
theorem dX2_fillColumns_39 : decode cX2_fillColumns 39 = .ok (.aload_n 0, 1) := by decide +kernel
theorem dX2_fillColumns_40 : decode cX2_fillColumns 40 = .ok (.getfield 24, 3) := by decide +kernel
theorem dX2_fillColumns_43 : decode cX2_fillColumns 43 = .ok (.getfield 48, 3) := by decide +kernel
theorem dX2_fillColumns_46 : decode cX2_fillColumns 46 = .ok (.if_icmp .ge 47, 3) := by decide +kernel
theorem dX2_fillColumns_49 : decode cX2_fillColumns 49 = .ok (.aload_n 0, 1) := by decide +kernel
theorem dX2_fillColumns_50 : decode cX2_fillColumns 50 = .ok (.iload_n 3, 1) := by decide +kernel
theorem dX2_fillColumns_51 : decode cX2_fillColumns 51 = .ok (.iload_n 2, 1) := by decide +kernel
theorem dX2_fillColumns_52 : decode cX2_fillColumns 52 = .ok (.invokevirtual 97, 3) := by decide +kernel
theorem dX2_fillColumns_55 : decode cX2_fillColumns 55 = .ok (.ifCond .eq 32, 3) := by decide +kernel
theorem dX2_fillColumns_58 : decode cX2_fillColumns 58 = .ok (.aload_n 0, 1) := by decide +kernel
theorem dX2_fillColumns_59 : decode cX2_fillColumns 59 = .ok (.getfield 54, 3) := by decide +kernel
theorem dX2_fillColumns_62 : decode cX2_fillColumns 62 = .ok (.iload_n 3, 1) := by decide +kernel
theorem dX2_fillColumns_63 : decode cX2_fillColumns 63 = .ok (.iload_n 1, 1) := by decide +kernel
theorem dX2_fillColumns_64 : decode cX2_fillColumns 64 = .ok (.aload_n 0, 1) := by decide +kernel
theorem dX2_fillColumns_65 : decode cX2_fillColumns 65 = .ok (.getfield 21, 3) := by decide +kernel
theorem dX2_fillColumns_68 : decode cX2_fillColumns 68 = .ok (.iload_n 3, 1) := by decide +kernel
theorem dX2_fillColumns_69 : decode cX2_fillColumns 69 = .ok (.invokestatic 107, 3) := by decide +kernel
theorem dX2_fillColumns_72 : decode cX2_fillColumns 72 = .ok (.iload_n 2, 1) := by decide +kernel
theorem dX2_fillColumns_73 : decode cX2_fillColumns 73 = .ok (.invokestatic 90, 3) := by decide +kernel
theorem dX2_fillColumns_76 : decode cX2_fillColumns 76 = .ok (.ifCond .eq 7, 3) := by decide +kernel
theorem dX2_fillColumns_79 : decode cX2_fillColumns 79 = .ok (.iconst 2, 1) := by decide +kernel
theorem dX2_fillColumns_80 : decode cX2_fillColumns 80 = .ok (.goto 4, 3) := by decide +kernel
theorem dX2_fillColumns_83 : decode cX2_fillColumns 83 = .ok (.iconst 1, 1) := by decide +kernel
theorem dX2_fillColumns_84 : decode cX2_fillColumns 84 = .ok (.invokevirtual 127, 3) := by decide +kernel
theorem dX2_fillColumns_87 : decode cX2_fillColumns 87 = .ok (.iinc 3 1, 3) := by decide +kernel
theorem dX2_fillColumns_90 : decode cX2_fillColumns 90 = .ok (.goto (-52), 3) := by decide +kernel
theorem dX2_fillColumns_93 : decode cX2_fillColumns 93 = .ok (.iinc 1 1, 3) := by decide +kernel
theorem dX2_fillColumns_96 : decode cX2_fillColumns 96 = .ok (.iinc 2 1, 3) := by decide +kernel
theorem dX2_fillColumns_99 : decode cX2_fillColumns 99 = .ok (.goto (-95), 3) := by decide +kernel
theorem dX2_fillColumns_102 : decode cX2_fillColumns 102 = .ok (.return_, 1) := by decide +kernel
theorem dX3_init_0 : decode cX3_init 0 = .ok (.aload_n 0, 1) := by decide +kernel
theorem dX3_init_1 : decode cX3_init 1 = .ok (.invokespecial 3, 3) := by decide +kernel
theorem dX3_init_4 : decode cX3_init 4 = .ok (.aload_n 0, 1) := by decide +kernel
theorem dX3_init_5 : decode cX3_init 5 = .ok (.iconst 2, 1) := by decide +kernel
theorem dX3_init_6 : decode cX3_init 6 = .ok (.iload_n 1, 1) := by decide +kernel
theorem dX3_init_7 : decode cX3_init 7 = .ok (.invokestatic 9, 3) := by decide +kernel
theorem dX3_init_10 : decode cX3_init 10 = .ok (.putfield 15, 3) := by decide +kernel
theorem dX3_init_13 : decode cX3_init 13 = .ok (.aload_n 0, 1) := by decide +kernel
theorem dX3_init_14 : decode cX3_init 14 = .ok (.iconst 0, 1) := by decide +kernel
theorem dX3_init_15 : decode cX3_init 15 = .ok (.bipush 10, 2) := by decide +kernel
theorem dX3_init_17 : decode cX3_init 17 = .ok (.iload_n 2, 1) := by decide +kernel
theorem dX3_init_18 : decode cX3_init 18 = .ok (.invokestatic 21, 3) := by decide +kernel
theorem dX3_init_21 : decode cX3_init 21 = .ok (.invokestatic 9, 3) := by decide +kernel
theorem dX3_init_24 : decode cX3_init 24 = .ok (.putfield 24, 3) := by decide +kernel
theorem dX3_init_27 : decode cX3_init 27 = .ok (.aload_n 0, 1) := by decide +kernel
theorem dX3_init_28 : decode cX3_init 28 = .ok (.iconst 0, 1) := by decide +kernel
theorem dX3_init_29 : decode cX3_init 29 = .ok (.bipush 10, 2) := by decide +kernel
theorem dX3_init_31 : decode cX3_init 31 = .ok (.iload_n 3, 1) := by decide +kernel
theorem dX3_init_32 : decode cX3_init 32 = .ok (.invokestatic 21, 3) := by decide +kernel
theorem dX3_init_35 : decode cX3_init 35 = .ok (.invokestatic 9, 3) := by decide +kernel
theorem dX3_init_38 : decode cX3_init 38 = .ok (.putfield 27, 3) := by decide +kernel
theorem dX3_init_41 : decode cX3_init 41 = .ok (.aload_n 0, 1) := by decide +kernel
theorem dX3_init_42 : decode cX3_init 42 = .ok (.aload_n 0, 1) := by decide +kernel
theorem dX3_init_43 : decode cX3_init 43 = .ok (.getfield 27, 3) := by decide +kernel
theorem dX3_init_46 : decode cX3_init 46 = .ok (.aload_n 0, 1) := by decide +kernel
theorem dX3_init_47 : decode cX3_init 47 = .ok (.getfield 24, 3) := by decide +kernel
theorem dX3_init_50 : decode cX3_init 50 = .ok (.multianewarray 30 2, 4) := by decide +kernel
theorem dX3_init_54 : decode cX3_init 54 = .ok (.putfield 32, 3) := by decide +kernel
theorem dX3_init_57 : decode cX3_init 57 = .ok (.aload_n 0, 1) := by decide +kernel
theorem dX3_init_58 : decode cX3_init 58 = .ok (.aload_n 0, 1) := by decide +kernel
theorem dX3_init_59 : decode cX3_init 59 = .ok (.getfield 27, 3) := by decide +kernel
theorem dX3_init_62 : decode cX3_init 62 = .ok (.aload_n 0, 1) := by decide +kernel
theorem dX3_init_63 : decode cX3_init 63 = .ok (.getfield 24, 3) := by decide +kernel
theorem dX3_init_66 : decode cX3_init 66 = .ok (.multianewarray 30 2, 4) := by decide +kernel
theorem dX3_init_70 : decode cX3_init 70 = .ok (.putfield 35, 3) := by decide +kernel
theorem dX3_init_73 : decode cX3_init 73 = .ok (.aload_n 0, 1) := by decide +kernel
theorem dX3_init_74 : decode cX3_init 74 = .ok (.aload_n 0, 1) := by decide +kernel
theorem dX3_init_75 : decode cX3_init 75 = .ok (.getfield 27, 3) := by decide +kernel
theorem dX3_init_78 : decode cX3_init 78 = .ok (.newarray .int, 2) := by decide +kernel
theorem dX3_init_80 : decode cX3_init 80 = .ok (.putfield 38, 3) := by decide +kernel
theorem dX3_init_83 : decode cX3_init 83 = .ok (.return_, 1) := by decide +kernel
theorem dX3_put_0 : decode cX3_put 0 = .ok (.iload_n 1, 1) := by decide +kernel
theorem dX3_put_1 : decode cX3_put 1 = .ok (.ifCond .lt 32, 3) := by decide +kernel
theorem dX3_put_4 : decode cX3_put 4 = .ok (.iload_n 1, 1) := by decide +kernel
theorem dX3_put_5 : decode cX3_put 5 = .ok (.aload_n 0, 1) := by decide +kernel
theorem dX3_put_6 : decode cX3_put 6 = .ok (.getfield 27, 3) := by decide +kernel
theorem dX3_put_9 : decode cX3_put 9 = .ok (.if_icmp .ge 24, 3) := by decide +kernel
theorem dX3_put_12 : decode cX3_put 12 = .ok (.iload_n 2, 1) := by decide +kernel
theorem dX3_put_13 : decode cX3_put 13 = .ok (.ifCond .lt 20, 3) := by decide +kernel
theorem dX3_put_16 : decode cX3_put 16 = .ok (.iload_n 2, 1) := by decide +kernel
theorem dX3_put_17 : decode cX3_put 17 = .ok (.aload_n 0, 1) := by decide +kernel
theorem dX3_put_18 : decode cX3_put 18 = .ok (.getfield 24, 3) := by decide +kernel
theorem dX3_put_21 : decode cX3_put 21 = .ok (.if_icmp .ge 12, 3) := by decide +kernel
theorem dX3_put_24 : decode cX3_put 24 = .ok (.aload_n 0, 1) := by decide +kernel
theorem dX3_put_25 : decode cX3_put 25 = .ok (.getfield 32, 3) := by decide +kernel
theorem dX3_put_28 : decode cX3_put 28 = .ok (.iload_n 1, 1) := by decide +kernel
theorem dX3_put_29 : decode cX3_put 29 = .ok (.aaload, 1) := by decide +kernel
theorem dX3_put_30 : decode cX3_put 30 = .ok (.iload_n 2, 1) := by decide +kernel
theorem dX3_put_31 : decode cX3_put 31 = .ok (.iload_n 3, 1) := by decide +kernel
theorem dX3_put_32 : decode cX3_put 32 = .ok (.iastore, 1) := by decide +kernel
theorem dX3_put_33 : decode cX3_put 33 = .ok (.return_, 1) := by decide +kernel
theorem dX3_get_0 : decode cX3_get 0 = .ok (.iload_n 1, 1) := by decide +kernel
theorem dX3_get_1 : decode cX3_get 1 = .ok (.ifCond .lt 27, 3) := by decide +kernel
theorem dX3_get_4 : decode cX3_get 4 = .ok (.iload_n 1, 1) := by decide +kernel
theorem dX3_get_5 : decode cX3_get 5 = .ok (.aload_n 0, 1) := by decide +kernel
theorem dX3_get_6 : decode cX3_get 6 = .ok (.getfield 27, 3) := by decide +kernel
theorem dX3_get_9 : decode cX3_get 9 = .ok (.if_icmp .ge 19, 3) := by decide +kernel
theorem dX3_get_12 : decode cX3_get 12 = .ok (.iload_n 2, 1) := by decide +kernel
theorem dX3_get_13 : decode cX3_get 13 = .ok (.ifCond .lt 15, 3) := by decide +kernel
theorem dX3_get_16 : decode cX3_get 16 = .ok (.iload_n 2, 1) := by decide +kernel
theorem dX3_get_17 : decode cX3_get 17 = .ok (.aload_n 0, 1) := by decide +kernel
theorem dX3_get_18 : decode cX3_get 18 = .ok (.getfield 24, 3) := by decide +kernel
theorem dX3_get_21 : decode cX3_get 21 = .ok (.if_icmp .ge 7, 3) := by decide +kernel
theorem dX3_get_24 : decode cX3_get 24 = .ok (.iconst 1, 1) := by decide +kernel
theorem dX3_get_25 : decode cX3_get 25 = .ok (.goto 4, 3) := by decide +kernel
theorem dX3_get_28 : decode cX3_get 28 = .ok (.iconst 0, 1) := by decide +kernel
theorem dX3_get_29 : decode cX3_get 29 = .ok (.istore_n 3, 1) := by decide +kernel
theorem dX3_get_30 : decode cX3_get 30 = .ok (.iload_n 3, 1) := by decide +kernel
theorem dX3_get_31 : decode cX3_get 31 = .ok (.ifCond .eq 14, 3) := by decide +kernel
theorem dX3_get_34 : decode cX3_get 34 = .ok (.aload_n 0, 1) := by decide +kernel
theorem dX3_get_35 : decode cX3_get 35 = .ok (.getfield 32, 3) := by decide +kernel
theorem dX3_get_38 : decode cX3_get 38 = .ok (.iload_n 1, 1) := by decide +kernel
theorem dX3_get_39 : decode cX3_get 39 = .ok (.aaload, 1) := by decide +kernel
theorem dX3_get_40 : decode cX3_get 40 = .ok (.iload_n 2, 1) := by decide +kernel
theorem dX3_get_41 : decode cX3_get 41 = .ok (.iaload, 1) := by decide +kernel
theorem dX3_get_42 : decode cX3_get 42 = .ok (.goto 4, 3) := by decide +kernel
theorem dX3_get_45 : decode cX3_get 45 = .ok (.iconst 0, 1) := by decide +kernel
theorem dX3_get_46 : decode cX3_get 46 = .ok (.ireturn, 1) := by decide +kernel
theorem dX3_ranks_0 : decode cX3_ranks 0 = .ok (.aload_n 0, 1) := by decide +kernel
theorem dX3_ranks_1 : decode cX3_ranks 1 = .ok (.getfield 27, 3) := by decide +kernel
theorem dX3_ranks_4 : decode cX3_ranks 4 = .ok (.invokestatic 42, 3) := by decide +kernel
theorem dX3_ranks_7 : decode cX3_ranks 7 = .ok (.astore_n 1, 1) := by decide +kernel
theorem dX3_ranks_8 : decode cX3_ranks 8 = .ok (.iconst 1, 1) := by decide +kernel
theorem dX3_ranks_9 : decode cX3_ranks 9 = .ok (.istore_n 2, 1) := by decide +kernel
theorem dX3_ranks_10 : decode cX3_ranks 10 = .ok (.iload_n 2, 1) := by decide +kernel
theorem dX3_ranks_11 : decode cX3_ranks 11 = .ok (.aload_n 1, 1) := by decide +kernel
theorem dX3_ranks_12 : decode cX3_ranks 12 = .ok (.arraylength, 1) := by decide +kernel
theorem dX3_ranks_13 : decode cX3_ranks 13 = .ok (.if_icmp .ge 57, 3) := by decide +kernel
theorem dX3_ranks_16 : decode cX3_ranks 16 = .ok (.iload_n 2, 1) := by decide +kernel
theorem dX3_ranks_17 : decode cX3_ranks 17 = .ok (.invokestatic 48, 3) := by decide +kernel
theorem dX3_ranks_20 : decode cX3_ranks 20 = .ok (.iconst 1, 1) := by decide +kernel
theorem dX3_ranks_21 : decode cX3_ranks 21 = .ok (.isub, 1) := by decide +kernel
theorem dX3_ranks_22 : decode cX3_ranks 22 = .ok (.istore_n 3, 1) := by decide +kernel
theorem dX3_ranks_23 : decode cX3_ranks 23 = .ok (.aload_n 0, 1) := by decide +kernel
theorem dX3_ranks_24 : decode cX3_ranks 24 = .ok (.iload_n 2, 1) := by decide +kernel
theorem dX3_ranks_25 : decode cX3_ranks 25 = .ok (.invokestatic 54, 3) := by decide +kernel
theorem dX3_ranks_28 : decode cX3_ranks 28 = .ok (.iload_n 3, 1) := by decide +kernel
theorem dX3_ranks_29 : decode cX3_ranks 29 = .ok (.invokevirtual 57, 3) := by decide +kernel
theorem dX3_ranks_32 : decode cX3_ranks 32 = .ok (.aload_n 1, 1) := by decide +kernel
theorem dX3_ranks_33 : decode cX3_ranks 33 = .ok (.iload_n 2, 1) := by decide +kernel
theorem dX3_ranks_34 : decode cX3_ranks 34 = .ok (.iload_n 2, 1) := by decide +kernel
theorem dX3_ranks_35 : decode cX3_ranks 35 = .ok (.iconst 1, 1) := by decide +kernel
theorem dX3_ranks_36 : decode cX3_ranks 36 = .ok (.isub, 1) := by decide +kernel
theorem dX3_ranks_37 : decode cX3_ranks 37 = .ok (.iand, 1) := by decide +kernel
theorem dX3_ranks_38 : decode cX3_ranks 38 = .ok (.invokestatic 61, 3) := by decide +kernel
theorem dX3_ranks_41 : decode cX3_ranks 41 = .ok (.istore 4, 2) := by decide +kernel
theorem dX3_ranks_43 : decode cX3_ranks 43 = .ok (.aload_n 1, 1) := by decide +kernel
theorem dX3_ranks_44 : decode cX3_ranks 44 = .ok (.iload_n 2, 1) := by decide +kernel
theorem dX3_ranks_45 : decode cX3_ranks 45 = .ok (.aload_n 0, 1) := by decide +kernel
theorem dX3_ranks_46 : decode cX3_ranks 46 = .ok (.iload_n 3, 1) := by decide +kernel
theorem dX3_ranks_47 : decode cX3_ranks 47 = .ok (.invokevirtual 65, 3) := by decide +kernel
theorem dX3_ranks_50 : decode cX3_ranks 50 = .ok (.ifCond .lt 10, 3) := by decide +kernel
theorem dX3_ranks_53 : decode cX3_ranks 53 = .ok (.iload 4, 2) := by decide +kernel
theorem dX3_ranks_55 : decode cX3_ranks 55 = .ok (.iconst 1, 1) := by decide +kernel
theorem dX3_ranks_56 : decode cX3_ranks 56 = .ok (.iadd, 1) := by decide +kernel
theorem dX3_ranks_57 : decode cX3_ranks 57 = .ok (.goto 5, 3) := by decide +kernel
theorem dX3_ranks_60 : decode cX3_ranks 60 = .ok (.iload 4, 2) := by decide +kernel
theorem dX3_ranks_62 : decode cX3_ranks 62 = .ok (.i2b, 1) := by decide +kernel
theorem dX3_ranks_63 : decode cX3_ranks 63 = .ok (.bastore, 1) := by decide +kernel
theorem dX3_ranks_64 : decode cX3_ranks 64 = .ok (.iinc 2 1, 3) := by decide +kernel
theorem dX3_ranks_67 : decode cX3_ranks 67 = .ok (.goto (-57), 3) := by decide +kernel
theorem dX3_ranks_70 : decode cX3_ranks 70 = .ok (.aload_n 1, 1) := by decide +kernel
theorem dX3_ranks_71 : decode cX3_ranks 71 = .ok (.areturn, 1) := by decide +kernel
theorem dX3_pivotAt_0 : decode cX3_pivotAt 0 = .ok (.iload_n 1, 1) := by decide +kernel
theorem dX3_pivotAt_1 : decode cX3_pivotAt 1 = .ok (.ifCond .lt 21, 3) := by decide +kernel
theorem dX3_pivotAt_4 : decode cX3_pivotAt 4 = .ok (.iload_n 1, 1) := by decide +kernel
theorem dX3_pivotAt_5 : decode cX3_pivotAt 5 = .ok (.aload_n 0, 1) := by decide +kernel
theorem dX3_pivotAt_6 : decode cX3_pivotAt 6 = .ok (.getfield 38, 3) := by decide +kernel
theorem dX3_pivotAt_9 : decode cX3_pivotAt 9 = .ok (.arraylength, 1) := by decide +kernel
theorem dX3_pivotAt_10 : decode cX3_pivotAt 10 = .ok (.if_icmp .ge 12, 3) := by decide +kernel
theorem dX3_pivotAt_13 : decode cX3_pivotAt 13 = .ok (.aload_n 0, 1) := by decide +kernel
theorem dX3_pivotAt_14 : decode cX3_pivotAt 14 = .ok (.getfield 38, 3) := by decide +kernel
theorem dX3_pivotAt_17 : decode cX3_pivotAt 17 = .ok (.iload_n 1, 1) := by decide +kernel
theorem dX3_pivotAt_18 : decode cX3_pivotAt 18 = .ok (.iaload, 1) := by decide +kernel
theorem dX3_pivotAt_19 : decode cX3_pivotAt 19 = .ok (.goto 4, 3) := by decide +kernel
theorem dX3_pivotAt_22 : decode cX3_pivotAt 22 = .ok (.iconst (-1), 1) := by decide +kernel
theorem dX3_pivotAt_23 : decode cX3_pivotAt 23 = .ok (.ireturn, 1) := by decide +kernel
theorem dX3_reduce_0 : decode cX3_reduce 0 = .ok (.iload_n 1, 1) := by decide +kernel
theorem dX3_reduce_1 : decode cX3_reduce 1 = .ok (.aload_n 0, 1) := by decide +kernel
theorem dX3_reduce_2 : decode cX3_reduce 2 = .ok (.getfield 32, 3) := by decide +kernel
theorem dX3_reduce_5 : decode cX3_reduce 5 = .ok (.arraylength, 1) := by decide +kernel
theorem dX3_reduce_6 : decode cX3_reduce 6 = .ok (.if_icmp .ge 16, 3) := by decide +kernel
theorem dX3_reduce_9 : decode cX3_reduce 9 = .ok (.iload_n 2, 1) := by decide +kernel
theorem dX3_reduce_10 : decode cX3_reduce 10 = .ok (.ifCond .lt 12, 3) := by decide +kernel
theorem dX3_reduce_13 : decode cX3_reduce 13 = .ok (.iload_n 2, 1) := by decide +kernel
theorem dX3_reduce_14 : decode cX3_reduce 14 = .ok (.aload_n 0, 1) := by decide +kernel
theorem dX3_reduce_15 : decode cX3_reduce 15 = .ok (.getfield 35, 3) := by decide +kernel
theorem dX3_reduce_18 : decode cX3_reduce 18 = .ok (.arraylength, 1) := by decide +kernel
theorem dX3_reduce_19 : decode cX3_reduce 19 = .ok (.if_icmp .lt 4, 3) := by decide +kernel
theorem dX3_reduce_22 : decode cX3_reduce 22 = .ok (.return_, 1) := by decide +kernel
theorem dX3_reduce_23 : decode cX3_reduce 23 = .ok (.aload_n 0, 1) := by decide +kernel
theorem dX3_reduce_24 : decode cX3_reduce 24 = .ok (.getfield 35, 3) := by decide +kernel
theorem dX3_reduce_27 : decode cX3_reduce 27 = .ok (.iload_n 2, 1) := by decide +kernel
theorem dX3_reduce_28 : decode cX3_reduce 28 = .ok (.aaload, 1) := by decide +kernel
theorem dX3_reduce_29 : decode cX3_reduce 29 = .ok (.astore_n 3, 1) := by decide +kernel
theorem dX3_reduce_30 : decode cX3_reduce 30 = .ok (.aload_n 0, 1) := by decide +kernel
theorem dX3_reduce_31 : decode cX3_reduce 31 = .ok (.getfield 32, 3) := by decide +kernel
theorem dX3_reduce_34 : decode cX3_reduce 34 = .ok (.iload_n 1, 1) := by decide +kernel
theorem dX3_reduce_35 : decode cX3_reduce 35 = .ok (.aaload, 1) := by decide +kernel
theorem dX3_reduce_36 : decode cX3_reduce 36 = .ok (.iconst 0, 1) := by decide +kernel
theorem dX3_reduce_37 : decode cX3_reduce 37 = .ok (.aload_n 3, 1) := by decide +kernel
theorem dX3_reduce_38 : decode cX3_reduce 38 = .ok (.iconst 0, 1) := by decide +kernel
theorem dX3_reduce_39 : decode cX3_reduce 39 = .ok (.aload_n 0, 1) := by decide +kernel
theorem dX3_reduce_40 : decode cX3_reduce 40 = .ok (.getfield 24, 3) := by decide +kernel
theorem dX3_reduce_43 : decode cX3_reduce 43 = .ok (.invokestatic 68, 3) := by decide +kernel
theorem dX3_reduce_46 : decode cX3_reduce 46 = .ok (.iconst 0, 1) := by decide +kernel
theorem dX3_reduce_47 : decode cX3_reduce 47 = .ok (.istore 4, 2) := by decide +kernel
theorem dX3_reduce_49 : decode cX3_reduce 49 = .ok (.iload 4, 2) := by decide +kernel
theorem dX3_reduce_51 : decode cX3_reduce 51 = .ok (.iload_n 2, 1) := by decide +kernel
theorem dX3_reduce_52 : decode cX3_reduce 52 = .ok (.if_icmp .ge 59, 3) := by decide +kernel
theorem dX3_reduce_55 : decode cX3_reduce 55 = .ok (.aload_n 0, 1) := by decide +kernel
theorem dX3_reduce_56 : decode cX3_reduce 56 = .ok (.iload 4, 2) := by decide +kernel
theorem dX3_reduce_58 : decode cX3_reduce 58 = .ok (.invokevirtual 65, 3) := by decide +kernel
theorem dX3_reduce_61 : decode cX3_reduce 61 = .ok (.istore 5, 2) := by decide +kernel
theorem dX3_reduce_63 : decode cX3_reduce 63 = .ok (.iload 5, 2) := by decide +kernel
theorem dX3_reduce_65 : decode cX3_reduce 65 = .ok (.ifCond .lt 40, 3) := by decide +kernel
theorem dX3_reduce_68 : decode cX3_reduce 68 = .ok (.iload 5, 2) := by decide +kernel
theorem dX3_reduce_70 : decode cX3_reduce 70 = .ok (.aload_n 0, 1) := by decide +kernel
theorem dX3_reduce_71 : decode cX3_reduce 71 = .ok (.getfield 24, 3) := by decide +kernel
theorem dX3_reduce_74 : decode cX3_reduce 74 = .ok (.if_icmp .ge 31, 3) := by decide +kernel
theorem dX3_reduce_77 : decode cX3_reduce 77 = .ok (.aload_n 3, 1) := by decide +kernel
theorem dX3_reduce_78 : decode cX3_reduce 78 = .ok (.iload 5, 2) := by decide +kernel
theorem dX3_reduce_80 : decode cX3_reduce 80 = .ok (.iaload, 1) := by decide +kernel
theorem dX3_reduce_81 : decode cX3_reduce 81 = .ok (.ifCond .eq 24, 3) := by decide +kernel
theorem dX3_reduce_84 : decode cX3_reduce 84 = .ok (.aload_n 0, 1) := by decide +kernel
theorem dX3_reduce_85 : decode cX3_reduce 85 = .ok (.aload_n 3, 1) := by decide +kernel
theorem dX3_reduce_86 : decode cX3_reduce 86 = .ok (.aload_n 0, 1) := by decide +kernel
theorem dX3_reduce_87 : decode cX3_reduce 87 = .ok (.getfield 35, 3) := by decide +kernel
theorem dX3_reduce_90 : decode cX3_reduce 90 = .ok (.iload 4, 2) := by decide +kernel
theorem dX3_reduce_92 : decode cX3_reduce 92 = .ok (.aaload, 1) := by decide +kernel
theorem dX3_reduce_93 : decode cX3_reduce 93 = .ok (.aload_n 0, 1) := by decide +kernel
theorem dX3_reduce_94 : decode cX3_reduce 94 = .ok (.getfield 15, 3) := by decide +kernel
theorem dX3_reduce_97 : decode cX3_reduce 97 = .ok (.aload_n 3, 1) := by decide +kernel
theorem dX3_reduce_98 : decode cX3_reduce 98 = .ok (.iload 5, 2) := by decide +kernel
theorem dX3_reduce_100 : decode cX3_reduce 100 = .ok (.iaload, 1) := by decide +kernel
theorem dX3_reduce_101 : decode cX3_reduce 101 = .ok (.isub, 1) := by decide +kernel
theorem dX3_reduce_102 : decode cX3_reduce 102 = .ok (.invokevirtual 74, 3) := by decide +kernel
theorem dX3_reduce_105 : decode cX3_reduce 105 = .ok (.iinc 4 1, 3) := by decide +kernel
theorem dX3_reduce_108 : decode cX3_reduce 108 = .ok (.goto (-59), 3) := by decide +kernel
theorem dX3_reduce_111 : decode cX3_reduce 111 = .ok (.aload_n 0, 1) := by decide +kernel
theorem dX3_reduce_112 : decode cX3_reduce 112 = .ok (.aload_n 3, 1) := by decide +kernel
theorem dX3_reduce_113 : decode cX3_reduce 113 = .ok (.invokevirtual 78, 3) := by decide +kernel
theorem dX3_reduce_116 : decode cX3_reduce 116 = .ok (.istore 4, 2) := by decide +kernel
theorem dX3_reduce_118 : decode cX3_reduce 118 = .ok (.aload_n 0, 1) := by decide +kernel
theorem dX3_reduce_119 : decode cX3_reduce 119 = .ok (.getfield 38, 3) := by decide +kernel
theorem dX3_reduce_122 : decode cX3_reduce 122 = .ok (.iload_n 2, 1) := by decide +kernel
theorem dX3_reduce_123 : decode cX3_reduce 123 = .ok (.iload 4, 2) := by decide +kernel
theorem dX3_reduce_125 : decode cX3_reduce 125 = .ok (.iastore, 1) := by decide +kernel
theorem dX3_reduce_126 : decode cX3_reduce 126 = .ok (.iload 4, 2) := by decide +kernel
theorem dX3_reduce_128 : decode cX3_reduce 128 = .ok (.ifCond .lt 23, 3) := by decide +kernel
theorem dX3_reduce_131 : decode cX3_reduce 131 = .ok (.aload_n 0, 1) := by decide +kernel
theorem dX3_reduce_132 : decode cX3_reduce 132 = .ok (.aload_n 3, 1) := by decide +kernel
theorem dX3_reduce_133 : decode cX3_reduce 133 = .ok (.iload 4, 2) := by decide +kernel
theorem dX3_reduce_135 : decode cX3_reduce 135 = .ok (.iaload, 1) := by decide +kernel
theorem dX3_reduce_136 : decode cX3_reduce 136 = .ok (.invokevirtual 82, 3) := by decide +kernel
theorem dX3_reduce_139 : decode cX3_reduce 139 = .ok (.istore 5, 2) := by decide +kernel
theorem dX3_reduce_141 : decode cX3_reduce 141 = .ok (.aload_n 0, 1) := by decide +kernel
theorem dX3_reduce_142 : decode cX3_reduce 142 = .ok (.aload_n 3, 1) := by decide +kernel
theorem dX3_reduce_143 : decode cX3_reduce 143 = .ok (.aload_n 3, 1) := by decide +kernel
theorem dX3_reduce_144 : decode cX3_reduce 144 = .ok (.iload 5, 2) := by decide +kernel
theorem dX3_reduce_146 : decode cX3_reduce 146 = .ok (.iconst 1, 1) := by decide +kernel
theorem dX3_reduce_147 : decode cX3_reduce 147 = .ok (.isub, 1) := by decide +kernel
theorem dX3_reduce_148 : decode cX3_reduce 148 = .ok (.invokevirtual 74, 3) := by decide +kernel
theorem dX3_reduce_151 : decode cX3_reduce 151 = .ok (.return_, 1) := by decide +kernel
theorem dX3_firstEntry_0 : decode cX3_firstEntry 0 = .ok (.iconst 0, 1) := by decide +kernel
theorem dX3_firstEntry_1 : decode cX3_firstEntry 1 = .ok (.istore_n 2, 1) := by decide +kernel
theorem dX3_firstEntry_2 : decode cX3_firstEntry 2 = .ok (.iload_n 2, 1) := by decide +kernel
theorem dX3_firstEntry_3 : decode cX3_firstEntry 3 = .ok (.aload_n 1, 1) := by decide +kernel
theorem dX3_firstEntry_4 : decode cX3_firstEntry 4 = .ok (.arraylength, 1) := by decide +kernel
theorem dX3_firstEntry_5 : decode cX3_firstEntry 5 = .ok (.if_icmp .ge 17, 3) := by decide +kernel
theorem dX3_firstEntry_8 : decode cX3_firstEntry 8 = .ok (.aload_n 1, 1) := by decide +kernel
theorem dX3_firstEntry_9 : decode cX3_firstEntry 9 = .ok (.iload_n 2, 1) := by decide +kernel
theorem dX3_firstEntry_10 : decode cX3_firstEntry 10 = .ok (.iaload, 1) := by decide +kernel
theorem dX3_firstEntry_11 : decode cX3_firstEntry 11 = .ok (.ifCond .eq 5, 3) := by decide +kernel
theorem dX3_firstEntry_14 : decode cX3_firstEntry 14 = .ok (.iload_n 2, 1) := by decide +kernel
theorem dX3_firstEntry_15 : decode cX3_firstEntry 15 = .ok (.ireturn, 1) := by decide +kernel
theorem dX3_firstEntry_16 : decode cX3_firstEntry 16 = .ok (.iinc 2 1, 3) := by decide +kernel
theorem dX3_firstEntry_19 : decode cX3_firstEntry 19 = .ok (.goto (-17), 3) := by decide +kernel
theorem dX3_firstEntry_22 : decode cX3_firstEntry 22 = .ok (.iconst (-1), 1) := by decide +kernel
theorem dX3_firstEntry_23 : decode cX3_firstEntry 23 = .ok (.ireturn, 1) := by decide +kernel
theorem dX3_addTimes_0 : decode cX3_addTimes 0 = .ok (.iconst 0, 1) := by decide +kernel
theorem dX3_addTimes_1 : decode cX3_addTimes 1 = .ok (.istore 4, 2) := by decide +kernel
theorem dX3_addTimes_3 : decode cX3_addTimes 3 = .ok (.iload 4, 2) := by decide +kernel
theorem dX3_addTimes_5 : decode cX3_addTimes 5 = .ok (.aload_n 1, 1) := by decide +kernel
theorem dX3_addTimes_6 : decode cX3_addTimes 6 = .ok (.arraylength, 1) := by decide +kernel
theorem dX3_addTimes_7 : decode cX3_addTimes 7 = .ok (.if_icmp .ge 38, 3) := by decide +kernel
theorem dX3_addTimes_10 : decode cX3_addTimes 10 = .ok (.iload 4, 2) := by decide +kernel
theorem dX3_addTimes_12 : decode cX3_addTimes 12 = .ok (.aload_n 2, 1) := by decide +kernel
theorem dX3_addTimes_13 : decode cX3_addTimes 13 = .ok (.arraylength, 1) := by decide +kernel
theorem dX3_addTimes_14 : decode cX3_addTimes 14 = .ok (.if_icmp .ge 31, 3) := by decide +kernel
theorem dX3_addTimes_17 : decode cX3_addTimes 17 = .ok (.aload_n 1, 1) := by decide +kernel
theorem dX3_addTimes_18 : decode cX3_addTimes 18 = .ok (.iload 4, 2) := by decide +kernel
theorem dX3_addTimes_20 : decode cX3_addTimes 20 = .ok (.aload_n 1, 1) := by decide +kernel
theorem dX3_addTimes_21 : decode cX3_addTimes 21 = .ok (.iload 4, 2) := by decide +kernel
theorem dX3_addTimes_23 : decode cX3_addTimes 23 = .ok (.iaload, 1) := by decide +kernel
theorem dX3_addTimes_24 : decode cX3_addTimes 24 = .ok (.iload_n 3, 1) := by decide +kernel
theorem dX3_addTimes_25 : decode cX3_addTimes 25 = .ok (.aload_n 2, 1) := by decide +kernel
theorem dX3_addTimes_26 : decode cX3_addTimes 26 = .ok (.iload 4, 2) := by decide +kernel
theorem dX3_addTimes_28 : decode cX3_addTimes 28 = .ok (.iaload, 1) := by decide +kernel
theorem dX3_addTimes_29 : decode cX3_addTimes 29 = .ok (.imul, 1) := by decide +kernel
theorem dX3_addTimes_30 : decode cX3_addTimes 30 = .ok (.iadd, 1) := by decide +kernel
theorem dX3_addTimes_31 : decode cX3_addTimes 31 = .ok (.aload_n 0, 1) := by decide +kernel
theorem dX3_addTimes_32 : decode cX3_addTimes 32 = .ok (.getfield 15, 3) := by decide +kernel
theorem dX3_addTimes_35 : decode cX3_addTimes 35 = .ok (.invokestatic 85, 3) := by decide +kernel
theorem dX3_addTimes_38 : decode cX3_addTimes 38 = .ok (.iastore, 1) := by decide +kernel
theorem dX3_addTimes_39 : decode cX3_addTimes 39 = .ok (.iinc 4 1, 3) := by decide +kernel
theorem dX3_addTimes_42 : decode cX3_addTimes 42 = .ok (.goto (-39), 3) := by decide +kernel
theorem dX3_addTimes_45 : decode cX3_addTimes 45 = .ok (.return_, 1) := by decide +kernel
theorem dX3_inverseOf_0 : decode cX3_inverseOf 0 = .ok (.iconst 1, 1) := by decide +kernel
theorem dX3_inverseOf_1 : decode cX3_inverseOf 1 = .ok (.istore_n 2, 1) := by decide +kernel
theorem dX3_inverseOf_2 : decode cX3_inverseOf 2 = .ok (.iload_n 2, 1) := by decide +kernel
theorem dX3_inverseOf_3 : decode cX3_inverseOf 3 = .ok (.aload_n 0, 1) := by decide +kernel
theorem dX3_inverseOf_4 : decode cX3_inverseOf 4 = .ok (.getfield 15, 3) := by decide +kernel
theorem dX3_inverseOf_7 : decode cX3_inverseOf 7 = .ok (.if_icmp .ge 25, 3) := by decide +kernel
theorem dX3_inverseOf_10 : decode cX3_inverseOf 10 = .ok (.iload_n 2, 1) := by decide +kernel
theorem dX3_inverseOf_11 : decode cX3_inverseOf 11 = .ok (.iload_n 1, 1) := by decide +kernel
theorem dX3_inverseOf_12 : decode cX3_inverseOf 12 = .ok (.imul, 1) := by decide +kernel
theorem dX3_inverseOf_13 : decode cX3_inverseOf 13 = .ok (.aload_n 0, 1) := by decide +kernel
theorem dX3_inverseOf_14 : decode cX3_inverseOf 14 = .ok (.getfield 15, 3) := by decide +kernel
theorem dX3_inverseOf_17 : decode cX3_inverseOf 17 = .ok (.invokestatic 85, 3) := by decide +kernel
theorem dX3_inverseOf_20 : decode cX3_inverseOf 20 = .ok (.iconst 1, 1) := by decide +kernel
theorem dX3_inverseOf_21 : decode cX3_inverseOf 21 = .ok (.if_icmp .ne 5, 3) := by decide +kernel
theorem dX3_inverseOf_24 : decode cX3_inverseOf 24 = .ok (.iload_n 2, 1) := by decide +kernel
theorem dX3_inverseOf_25 : decode cX3_inverseOf 25 = .ok (.ireturn, 1) := by decide +kernel
theorem dX3_inverseOf_26 : decode cX3_inverseOf 26 = .ok (.iinc 2 1, 3) := by decide +kernel
theorem dX3_inverseOf_29 : decode cX3_inverseOf 29 = .ok (.goto (-27), 3) := by decide +kernel
theorem dX3_inverseOf_32 : decode cX3_inverseOf 32 = .ok (.iconst 1, 1) := by decide +kernel
theorem dX3_inverseOf_33 : decode cX3_inverseOf 33 = .ok (.ireturn, 1) := by decide +kernel
theorem dX4_init_0 : decode cX4_init 0 = .ok (.aload_n 0, 1) := by decide +kernel
theorem dX4_init_1 : decode cX4_init 1 = .ok (.invokespecial 3, 3) := by decide +kernel
theorem dX4_init_4 : decode cX4_init 4 = .ok (.aload_n 0, 1) := by decide +kernel
theorem dX4_init_5 : decode cX4_init 5 = .ok (.sipush 1024, 3) := by decide +kernel
theorem dX4_init_8 : decode cX4_init 8 = .ok (.newarray .byte, 2) := by decide +kernel
theorem dX4_init_10 : decode cX4_init 10 = .ok (.putfield 9, 3) := by decide +kernel
theorem dX4_init_13 : decode cX4_init 13 = .ok (.aload_n 0, 1) := by decide +kernel
theorem dX4_init_14 : decode cX4_init 14 = .ok (.sipush 1024, 3) := by decide +kernel
theorem dX4_init_17 : decode cX4_init 17 = .ok (.newarray .byte, 2) := by decide +kernel
theorem dX4_init_19 : decode cX4_init 19 = .ok (.putfield 15, 3) := by decide +kernel
theorem dX4_init_22 : decode cX4_init 22 = .ok (.aload_n 0, 1) := by decide +kernel
theorem dX4_init_23 : decode cX4_init 23 = .ok (.bipush 10, 2) := by decide +kernel
theorem dX4_init_25 : decode cX4_init 25 = .ok (.newarray .int, 2) := by decide +kernel
theorem dX4_init_27 : decode cX4_init 27 = .ok (.putfield 18, 3) := by decide +kernel
theorem dX4_init_30 : decode cX4_init 30 = .ok (.return_, 1) := by decide +kernel
theorem dX4_begin_0 : decode cX4_begin 0 = .ok (.aload_n 0, 1) := by decide +kernel
theorem dX4_begin_1 : decode cX4_begin 1 = .ok (.iconst 1, 1) := by decide +kernel
theorem dX4_begin_2 : decode cX4_begin 2 = .ok (.iconst 0, 1) := by decide +kernel
theorem dX4_begin_3 : decode cX4_begin 3 = .ok (.bipush 10, 2) := by decide +kernel
theorem dX4_begin_5 : decode cX4_begin 5 = .ok (.iload_n 1, 1) := by decide +kernel
theorem dX4_begin_6 : decode cX4_begin 6 = .ok (.invokestatic 22, 3) := by decide +kernel
theorem dX4_begin_9 : decode cX4_begin 9 = .ok (.invokestatic 28, 3) := by decide +kernel
theorem dX4_begin_12 : decode cX4_begin 12 = .ok (.ishl, 1) := by decide +kernel
theorem dX4_begin_13 : decode cX4_begin 13 = .ok (.iconst 1, 1) := by decide +kernel
theorem dX4_begin_14 : decode cX4_begin 14 = .ok (.isub, 1) := by decide +kernel
theorem dX4_begin_15 : decode cX4_begin 15 = .ok (.putfield 31, 3) := by decide +kernel
theorem dX4_begin_18 : decode cX4_begin 18 = .ok (.aload_n 0, 1) := by decide +kernel
theorem dX4_begin_19 : decode cX4_begin 19 = .ok (.getfield 9, 3) := by decide +kernel
theorem dX4_begin_22 : decode cX4_begin 22 = .ok (.iconst 0, 1) := by decide +kernel
theorem dX4_begin_23 : decode cX4_begin 23 = .ok (.invokestatic 35, 3) := by decide +kernel
theorem dX4_begin_26 : decode cX4_begin 26 = .ok (.aload_n 0, 1) := by decide +kernel
theorem dX4_begin_27 : decode cX4_begin 27 = .ok (.iconst 0, 1) := by decide +kernel
theorem dX4_begin_28 : decode cX4_begin 28 = .ok (.putfield 41, 3) := by decide +kernel
theorem dX4_begin_31 : decode cX4_begin 31 = .ok (.return_, 1) := by decide +kernel
theorem dX4_mark_0 : decode cX4_mark 0 = .ok (.iload_n 1, 1) := by decide +kernel
theorem dX4_mark_1 : decode cX4_mark 1 = .ok (.ifCond .lt 27, 3) := by decide +kernel
theorem dX4_mark_4 : decode cX4_mark 4 = .ok (.iload_n 1, 1) := by decide +kernel
theorem dX4_mark_5 : decode cX4_mark 5 = .ok (.aload_n 0, 1) := by decide +kernel
theorem dX4_mark_6 : decode cX4_mark 6 = .ok (.getfield 31, 3) := by decide +kernel
theorem dX4_mark_9 : decode cX4_mark 9 = .ok (.if_icmp .gt 19, 3) := by decide +kernel
theorem dX4_mark_12 : decode cX4_mark 12 = .ok (.iload_n 1, 1) := by decide +kernel
theorem dX4_mark_13 : decode cX4_mark 13 = .ok (.aload_n 0, 1) := by decide +kernel
theorem dX4_mark_14 : decode cX4_mark 14 = .ok (.getfield 9, 3) := by decide +kernel
theorem dX4_mark_17 : decode cX4_mark 17 = .ok (.arraylength, 1) := by decide +kernel
theorem dX4_mark_18 : decode cX4_mark 18 = .ok (.if_icmp .ge 10, 3) := by decide +kernel
theorem dX4_mark_21 : decode cX4_mark 21 = .ok (.aload_n 0, 1) := by decide +kernel
theorem dX4_mark_22 : decode cX4_mark 22 = .ok (.getfield 9, 3) := by decide +kernel
theorem dX4_mark_25 : decode cX4_mark 25 = .ok (.iload_n 1, 1) := by decide +kernel
theorem dX4_mark_26 : decode cX4_mark 26 = .ok (.iconst 1, 1) := by decide +kernel
theorem dX4_mark_27 : decode cX4_mark 27 = .ok (.bastore, 1) := by decide +kernel
theorem dX4_mark_28 : decode cX4_mark 28 = .ok (.return_, 1) := by decide +kernel
theorem dX4_isBroken_0 : decode cX4_isBroken 0 = .ok (.aload_n 0, 1) := by decide +kernel
theorem dX4_isBroken_1 : decode cX4_isBroken 1 = .ok (.getfield 41, 3) := by decide +kernel
theorem dX4_isBroken_4 : decode cX4_isBroken 4 = .ok (.ireturn, 1) := by decide +kernel
theorem dX4_brokenFirst_0 : decode cX4_brokenFirst 0 = .ok (.aload_n 0, 1) := by decide +kernel
theorem dX4_brokenFirst_1 : decode cX4_brokenFirst 1 = .ok (.getfield 45, 3) := by decide +kernel
theorem dX4_brokenFirst_4 : decode cX4_brokenFirst 4 = .ok (.ireturn, 1) := by decide +kernel
theorem dX4_brokenSecond_0 : decode cX4_brokenSecond 0 = .ok (.aload_n 0, 1) := by decide +kernel
theorem dX4_brokenSecond_1 : decode cX4_brokenSecond 1 = .ok (.getfield 48, 3) := by decide +kernel
theorem dX4_brokenSecond_4 : decode cX4_brokenSecond 4 = .ok (.ireturn, 1) := by decide +kernel
theorem dX4_brokenElement_0 : decode cX4_brokenElement 0 = .ok (.aload_n 0, 1) := by decide +kernel
theorem dX4_brokenElement_1 : decode cX4_brokenElement 1 = .ok (.getfield 51, 3) := by decide +kernel
theorem dX4_brokenElement_4 : decode cX4_brokenElement 4 = .ok (.ireturn, 1) := by decide +kernel
theorem dX4_holds_0 : decode cX4_holds 0 = .ok (.aload_n 0, 1) := by decide +kernel
theorem dX4_holds_1 : decode cX4_holds 1 = .ok (.invokevirtual 54, 3) := by decide +kernel
theorem dX4_holds_4 : decode cX4_holds 4 = .ok (.ifCond .ne 5, 3) := by decide +kernel
theorem dX4_holds_7 : decode cX4_holds 7 = .ok (.iconst 0, 1) := by decide +kernel
theorem dX4_holds_8 : decode cX4_holds 8 = .ok (.ireturn, 1) := by decide +kernel
theorem dX4_holds_9 : decode cX4_holds 9 = .ok (.aload_n 0, 1) := by decide +kernel
theorem dX4_holds_10 : decode cX4_holds 10 = .ok (.invokevirtual 58, 3) := by decide +kernel
theorem dX4_holds_13 : decode cX4_holds 13 = .ok (.iconst 0, 1) := by decide +kernel
theorem dX4_holds_14 : decode cX4_holds 14 = .ok (.istore_n 1, 1) := by decide +kernel
theorem dX4_holds_15 : decode cX4_holds 15 = .ok (.iload_n 1, 1) := by decide +kernel
theorem dX4_holds_16 : decode cX4_holds 16 = .ok (.aload_n 0, 1) := by decide +kernel
theorem dX4_holds_17 : decode cX4_holds 17 = .ok (.getfield 31, 3) := by decide +kernel
theorem dX4_holds_20 : decode cX4_holds 20 = .ok (.if_icmp .gt 37, 3) := by decide +kernel
theorem dX4_holds_23 : decode cX4_holds 23 = .ok (.aload_n 0, 1) := by decide +kernel
theorem dX4_holds_24 : decode cX4_holds 24 = .ok (.iload_n 1, 1) := by decide +kernel
theorem dX4_holds_25 : decode cX4_holds 25 = .ok (.invokevirtual 61, 3) := by decide +kernel
theorem dX4_holds_28 : decode cX4_holds 28 = .ok (.ifCond .eq 23, 3) := by decide +kernel
theorem dX4_holds_31 : decode cX4_holds 31 = .ok (.aload_n 0, 1) := by decide +kernel
theorem dX4_holds_32 : decode cX4_holds 32 = .ok (.iload_n 1, 1) := by decide +kernel
theorem dX4_holds_33 : decode cX4_holds 33 = .ok (.invokevirtual 65, 3) := by decide +kernel
theorem dX4_holds_36 : decode cX4_holds 36 = .ok (.aload_n 0, 1) := by decide +kernel
theorem dX4_holds_37 : decode cX4_holds 37 = .ok (.iload_n 1, 1) := by decide +kernel
theorem dX4_holds_38 : decode cX4_holds 38 = .ok (.invokevirtual 69, 3) := by decide +kernel
theorem dX4_holds_41 : decode cX4_holds 41 = .ok (.ifCond .ne 10, 3) := by decide +kernel
theorem dX4_holds_44 : decode cX4_holds 44 = .ok (.aload_n 0, 1) := by decide +kernel
theorem dX4_holds_45 : decode cX4_holds 45 = .ok (.iload_n 1, 1) := by decide +kernel
theorem dX4_holds_46 : decode cX4_holds 46 = .ok (.invokevirtual 72, 3) := by decide +kernel
theorem dX4_holds_49 : decode cX4_holds 49 = .ok (.iconst 0, 1) := by decide +kernel
theorem dX4_holds_50 : decode cX4_holds 50 = .ok (.ireturn, 1) := by decide +kernel
theorem dX4_holds_51 : decode cX4_holds 51 = .ok (.iinc 1 1, 3) := by decide +kernel
theorem dX4_holds_54 : decode cX4_holds 54 = .ok (.goto (-39), 3) := by decide +kernel
theorem dX4_holds_57 : decode cX4_holds 57 = .ok (.iconst 1, 1) := by decide +kernel
theorem dX4_holds_58 : decode cX4_holds 58 = .ok (.ireturn, 1) := by decide +kernel
theorem dX4_isMarked_0 : decode cX4_isMarked 0 = .ok (.aload_n 0, 1) := by decide +kernel
theorem dX4_isMarked_1 : decode cX4_isMarked 1 = .ok (.getfield 9, 3) := by decide +kernel
theorem dX4_isMarked_4 : decode cX4_isMarked 4 = .ok (.iload_n 1, 1) := by decide +kernel
theorem dX4_isMarked_5 : decode cX4_isMarked 5 = .ok (.invokestatic 75, 3) := by decide +kernel
theorem dX4_isMarked_8 : decode cX4_isMarked 8 = .ok (.ifCond .eq 7, 3) := by decide +kernel
theorem dX4_isMarked_11 : decode cX4_isMarked 11 = .ok (.iconst 1, 1) := by decide +kernel
theorem dX4_isMarked_12 : decode cX4_isMarked 12 = .ok (.goto 4, 3) := by decide +kernel
theorem dX4_isMarked_15 : decode cX4_isMarked 15 = .ok (.iconst 0, 1) := by decide +kernel
theorem dX4_isMarked_16 : decode cX4_isMarked 16 = .ok (.ireturn, 1) := by decide +kernel
theorem dX4_areOfOneNumber_0 : decode cX4_areOfOneNumber 0 = .ok (.iconst (-1), 1) := by decide +kernel
theorem dX4_areOfOneNumber_1 : decode cX4_areOfOneNumber 1 = .ok (.istore_n 1, 1) := by decide +kernel
theorem dX4_areOfOneNumber_2 : decode cX4_areOfOneNumber 2 = .ok (.iconst 0, 1) := by decide +kernel
theorem dX4_areOfOneNumber_3 : decode cX4_areOfOneNumber 3 = .ok (.istore_n 2, 1) := by decide +kernel
theorem dX4_areOfOneNumber_4 : decode cX4_areOfOneNumber 4 = .ok (.iload_n 2, 1) := by decide +kernel
theorem dX4_areOfOneNumber_5 : decode cX4_areOfOneNumber 5 = .ok (.aload_n 0, 1) := by decide +kernel
theorem dX4_areOfOneNumber_6 : decode cX4_areOfOneNumber 6 = .ok (.getfield 31, 3) := by decide +kernel
theorem dX4_areOfOneNumber_9 : decode cX4_areOfOneNumber 9 = .ok (.if_icmp .gt 36, 3) := by decide +kernel
theorem dX4_areOfOneNumber_12 : decode cX4_areOfOneNumber 12 = .ok (.aload_n 0, 1) := by decide +kernel
theorem dX4_areOfOneNumber_13 : decode cX4_areOfOneNumber 13 = .ok (.iload_n 2, 1) := by decide +kernel
theorem dX4_areOfOneNumber_14 : decode cX4_areOfOneNumber 14 = .ok (.invokevirtual 61, 3) := by decide +kernel
theorem dX4_areOfOneNumber_17 : decode cX4_areOfOneNumber 17 = .ok (.ifCond .eq 22, 3) := by decide +kernel
theorem dX4_areOfOneNumber_20 : decode cX4_areOfOneNumber 20 = .ok (.iload_n 1, 1) := by decide +kernel
theorem dX4_areOfOneNumber_21 : decode cX4_areOfOneNumber 21 = .ok (.ifCond .lt 13, 3) := by decide +kernel
theorem dX4_areOfOneNumber_24 : decode cX4_areOfOneNumber 24 = .ok (.iload_n 2, 1) := by decide +kernel
theorem dX4_areOfOneNumber_25 : decode cX4_areOfOneNumber 25 = .ok (.invokestatic 81, 3) := by decide +kernel
theorem dX4_areOfOneNumber_28 : decode cX4_areOfOneNumber 28 = .ok (.iload_n 1, 1) := by decide +kernel
theorem dX4_areOfOneNumber_29 : decode cX4_areOfOneNumber 29 = .ok (.if_icmp .eq 5, 3) := by decide +kernel
theorem dX4_areOfOneNumber_32 : decode cX4_areOfOneNumber 32 = .ok (.iconst 0, 1) := by decide +kernel
theorem dX4_areOfOneNumber_33 : decode cX4_areOfOneNumber 33 = .ok (.ireturn, 1) := by decide +kernel
theorem dX4_areOfOneNumber_34 : decode cX4_areOfOneNumber 34 = .ok (.iload_n 2, 1) := by decide +kernel
theorem dX4_areOfOneNumber_35 : decode cX4_areOfOneNumber 35 = .ok (.invokestatic 81, 3) := by decide +kernel
theorem dX4_areOfOneNumber_38 : decode cX4_areOfOneNumber 38 = .ok (.istore_n 1, 1) := by decide +kernel
theorem dX4_areOfOneNumber_39 : decode cX4_areOfOneNumber 39 = .ok (.iinc 2 1, 3) := by decide +kernel
theorem dX4_areOfOneNumber_42 : decode cX4_areOfOneNumber 42 = .ok (.goto (-38), 3) := by decide +kernel
theorem dX4_areOfOneNumber_45 : decode cX4_areOfOneNumber 45 = .ok (.iload_n 1, 1) := by decide +kernel
theorem dX4_areOfOneNumber_46 : decode cX4_areOfOneNumber 46 = .ok (.ifCond .lt 7, 3) := by decide +kernel
theorem dX4_areOfOneNumber_49 : decode cX4_areOfOneNumber 49 = .ok (.iconst 1, 1) := by decide +kernel
theorem dX4_areOfOneNumber_50 : decode cX4_areOfOneNumber 50 = .ok (.goto 4, 3) := by decide +kernel
theorem dX4_areOfOneNumber_53 : decode cX4_areOfOneNumber 53 = .ok (.iconst 0, 1) := by decide +kernel
theorem dX4_areOfOneNumber_54 : decode cX4_areOfOneNumber 54 = .ok (.ireturn, 1) := by decide +kernel
theorem dX4_findSpanning_0 : decode cX4_findSpanning 0 = .ok (.iconst 0, 1) := by decide +kernel
theorem dX4_findSpanning_1 : decode cX4_findSpanning 1 = .ok (.istore_n 1, 1) := by decide +kernel
theorem dX4_findSpanning_2 : decode cX4_findSpanning 2 = .ok (.iload_n 1, 1) := by decide +kernel
theorem dX4_findSpanning_3 : decode cX4_findSpanning 3 = .ok (.aload_n 0, 1) := by decide +kernel
theorem dX4_findSpanning_4 : decode cX4_findSpanning 4 = .ok (.getfield 31, 3) := by decide +kernel
theorem dX4_findSpanning_7 : decode cX4_findSpanning 7 = .ok (.if_icmp .gt 70, 3) := by decide +kernel
theorem dX4_findSpanning_10 : decode cX4_findSpanning 10 = .ok (.iload_n 1, 1) := by decide +kernel
theorem dX4_findSpanning_11 : decode cX4_findSpanning 11 = .ok (.aload_n 0, 1) := by decide +kernel
theorem dX4_findSpanning_12 : decode cX4_findSpanning 12 = .ok (.getfield 15, 3) := by decide +kernel
theorem dX4_findSpanning_15 : decode cX4_findSpanning 15 = .ok (.arraylength, 1) := by decide +kernel
theorem dX4_findSpanning_16 : decode cX4_findSpanning 16 = .ok (.if_icmp .ge 61, 3) := by decide +kernel
theorem dX4_findSpanning_19 : decode cX4_findSpanning 19 = .ok (.aload_n 0, 1) := by decide +kernel
theorem dX4_findSpanning_20 : decode cX4_findSpanning 20 = .ok (.getfield 15, 3) := by decide +kernel
theorem dX4_findSpanning_23 : decode cX4_findSpanning 23 = .ok (.iload_n 1, 1) := by decide +kernel
theorem dX4_findSpanning_24 : decode cX4_findSpanning 24 = .ok (.aload_n 0, 1) := by decide +kernel
theorem dX4_findSpanning_25 : decode cX4_findSpanning 25 = .ok (.getfield 9, 3) := by decide +kernel
theorem dX4_findSpanning_28 : decode cX4_findSpanning 28 = .ok (.iload_n 1, 1) := by decide +kernel
theorem dX4_findSpanning_29 : decode cX4_findSpanning 29 = .ok (.baload, 1) := by decide +kernel
theorem dX4_findSpanning_30 : decode cX4_findSpanning 30 = .ok (.bastore, 1) := by decide +kernel
theorem dX4_findSpanning_31 : decode cX4_findSpanning 31 = .ok (.iconst 1, 1) := by decide +kernel
theorem dX4_findSpanning_32 : decode cX4_findSpanning 32 = .ok (.istore_n 2, 1) := by decide +kernel
theorem dX4_findSpanning_33 : decode cX4_findSpanning 33 = .ok (.iload_n 2, 1) := by decide +kernel
theorem dX4_findSpanning_34 : decode cX4_findSpanning 34 = .ok (.iload_n 1, 1) := by decide +kernel
theorem dX4_findSpanning_35 : decode cX4_findSpanning 35 = .ok (.if_icmp .gt 36, 3) := by decide +kernel
theorem dX4_findSpanning_38 : decode cX4_findSpanning 38 = .ok (.iload_n 1, 1) := by decide +kernel
theorem dX4_findSpanning_39 : decode cX4_findSpanning 39 = .ok (.iload_n 2, 1) := by decide +kernel
theorem dX4_findSpanning_40 : decode cX4_findSpanning 40 = .ok (.iand, 1) := by decide +kernel
theorem dX4_findSpanning_41 : decode cX4_findSpanning 41 = .ok (.ifCond .eq 23, 3) := by decide +kernel
theorem dX4_findSpanning_44 : decode cX4_findSpanning 44 = .ok (.aload_n 0, 1) := by decide +kernel
theorem dX4_findSpanning_45 : decode cX4_findSpanning 45 = .ok (.getfield 15, 3) := by decide +kernel
theorem dX4_findSpanning_48 : decode cX4_findSpanning 48 = .ok (.iload_n 1, 1) := by decide +kernel
theorem dX4_findSpanning_49 : decode cX4_findSpanning 49 = .ok (.iload_n 2, 1) := by decide +kernel
theorem dX4_findSpanning_50 : decode cX4_findSpanning 50 = .ok (.ixor, 1) := by decide +kernel
theorem dX4_findSpanning_51 : decode cX4_findSpanning 51 = .ok (.invokestatic 75, 3) := by decide +kernel
theorem dX4_findSpanning_54 : decode cX4_findSpanning 54 = .ok (.ifCond .eq 10, 3) := by decide +kernel
theorem dX4_findSpanning_57 : decode cX4_findSpanning 57 = .ok (.aload_n 0, 1) := by decide +kernel
theorem dX4_findSpanning_58 : decode cX4_findSpanning 58 = .ok (.getfield 15, 3) := by decide +kernel
theorem dX4_findSpanning_61 : decode cX4_findSpanning 61 = .ok (.iload_n 1, 1) := by decide +kernel
theorem dX4_findSpanning_62 : decode cX4_findSpanning 62 = .ok (.iconst 1, 1) := by decide +kernel
theorem dX4_findSpanning_63 : decode cX4_findSpanning 63 = .ok (.bastore, 1) := by decide +kernel
theorem dX4_findSpanning_64 : decode cX4_findSpanning 64 = .ok (.iload_n 2, 1) := by decide +kernel
theorem dX4_findSpanning_65 : decode cX4_findSpanning 65 = .ok (.iconst 1, 1) := by decide +kernel
theorem dX4_findSpanning_66 : decode cX4_findSpanning 66 = .ok (.ishl, 1) := by decide +kernel
theorem dX4_findSpanning_67 : decode cX4_findSpanning 67 = .ok (.istore_n 2, 1) := by decide +kernel
theorem dX4_findSpanning_68 : decode cX4_findSpanning 68 = .ok (.goto (-35), 3) := by decide +kernel
theorem dX4_findSpanning_71 : decode cX4_findSpanning 71 = .ok (.iinc 1 1, 3) := by decide +kernel
theorem dX4_findSpanning_74 : decode cX4_findSpanning 74 = .ok (.goto (-72), 3) := by decide +kernel
theorem dX4_findSpanning_77 : decode cX4_findSpanning 77 = .ok (.return_, 1) := by decide +kernel
theorem dX4_findSwaps_0 : decode cX4_findSwaps 0 = .ok (.iconst 0, 1) := by decide +kernel
theorem dX4_findSwaps_1 : decode cX4_findSwaps 1 = .ok (.istore_n 2, 1) := by decide +kernel
theorem dX4_findSwaps_2 : decode cX4_findSwaps 2 = .ok (.iload_n 2, 1) := by decide +kernel
theorem dX4_findSwaps_3 : decode cX4_findSwaps 3 = .ok (.aload_n 0, 1) := by decide +kernel
theorem dX4_findSwaps_4 : decode cX4_findSwaps 4 = .ok (.getfield 18, 3) := by decide +kernel
theorem dX4_findSwaps_7 : decode cX4_findSwaps 7 = .ok (.arraylength, 1) := by decide +kernel
theorem dX4_findSwaps_8 : decode cX4_findSwaps 8 = .ok (.if_icmp .ge 79, 3) := by decide +kernel
theorem dX4_findSwaps_11 : decode cX4_findSwaps 11 = .ok (.iload_n 1, 1) := by decide +kernel
theorem dX4_findSwaps_12 : decode cX4_findSwaps 12 = .ok (.iconst 1, 1) := by decide +kernel
theorem dX4_findSwaps_13 : decode cX4_findSwaps 13 = .ok (.iload_n 2, 1) := by decide +kernel
theorem dX4_findSwaps_14 : decode cX4_findSwaps 14 = .ok (.ishl, 1) := by decide +kernel
theorem dX4_findSwaps_15 : decode cX4_findSwaps 15 = .ok (.iconst (-1), 1) := by decide +kernel
theorem dX4_findSwaps_16 : decode cX4_findSwaps 16 = .ok (.ixor, 1) := by decide +kernel
theorem dX4_findSwaps_17 : decode cX4_findSwaps 17 = .ok (.iand, 1) := by decide +kernel
theorem dX4_findSwaps_18 : decode cX4_findSwaps 18 = .ok (.istore_n 3, 1) := by decide +kernel
theorem dX4_findSwaps_19 : decode cX4_findSwaps 19 = .ok (.iconst 0, 1) := by decide +kernel
theorem dX4_findSwaps_20 : decode cX4_findSwaps 20 = .ok (.istore 4, 2) := by decide +kernel
theorem dX4_findSwaps_22 : decode cX4_findSwaps 22 = .ok (.iconst 1, 1) := by decide +kernel
theorem dX4_findSwaps_23 : decode cX4_findSwaps 23 = .ok (.istore 5, 2) := by decide +kernel
theorem dX4_findSwaps_25 : decode cX4_findSwaps 25 = .ok (.iload 5, 2) := by decide +kernel
theorem dX4_findSwaps_27 : decode cX4_findSwaps 27 = .ok (.aload_n 0, 1) := by decide +kernel
theorem dX4_findSwaps_28 : decode cX4_findSwaps 28 = .ok (.getfield 31, 3) := by decide +kernel
theorem dX4_findSwaps_31 : decode cX4_findSwaps 31 = .ok (.if_icmp .gt 42, 3) := by decide +kernel
theorem dX4_findSwaps_34 : decode cX4_findSwaps 34 = .ok (.iload_n 3, 1) := by decide +kernel
theorem dX4_findSwaps_35 : decode cX4_findSwaps 35 = .ok (.iload_n 1, 1) := by decide +kernel
theorem dX4_findSwaps_36 : decode cX4_findSwaps 36 = .ok (.if_icmp .eq 37, 3) := by decide +kernel
theorem dX4_findSwaps_39 : decode cX4_findSwaps 39 = .ok (.iload_n 3, 1) := by decide +kernel
theorem dX4_findSwaps_40 : decode cX4_findSwaps 40 = .ok (.iload 5, 2) := by decide +kernel
theorem dX4_findSwaps_42 : decode cX4_findSwaps 42 = .ok (.iand, 1) := by decide +kernel
theorem dX4_findSwaps_43 : decode cX4_findSwaps 43 = .ok (.ifCond .ne 21, 3) := by decide +kernel
theorem dX4_findSwaps_46 : decode cX4_findSwaps 46 = .ok (.aload_n 0, 1) := by decide +kernel
theorem dX4_findSwaps_47 : decode cX4_findSwaps 47 = .ok (.iload_n 3, 1) := by decide +kernel
theorem dX4_findSwaps_48 : decode cX4_findSwaps 48 = .ok (.iload 5, 2) := by decide +kernel
theorem dX4_findSwaps_50 : decode cX4_findSwaps 50 = .ok (.ior, 1) := by decide +kernel
theorem dX4_findSwaps_51 : decode cX4_findSwaps 51 = .ok (.invokevirtual 61, 3) := by decide +kernel
theorem dX4_findSwaps_54 : decode cX4_findSwaps 54 = .ok (.ifCond .eq 10, 3) := by decide +kernel
theorem dX4_findSwaps_57 : decode cX4_findSwaps 57 = .ok (.iload 4, 2) := by decide +kernel
theorem dX4_findSwaps_59 : decode cX4_findSwaps 59 = .ok (.iload 5, 2) := by decide +kernel
theorem dX4_findSwaps_61 : decode cX4_findSwaps 61 = .ok (.ior, 1) := by decide +kernel
theorem dX4_findSwaps_62 : decode cX4_findSwaps 62 = .ok (.istore 4, 2) := by decide +kernel
theorem dX4_findSwaps_64 : decode cX4_findSwaps 64 = .ok (.iload 5, 2) := by decide +kernel
theorem dX4_findSwaps_66 : decode cX4_findSwaps 66 = .ok (.iconst 1, 1) := by decide +kernel
theorem dX4_findSwaps_67 : decode cX4_findSwaps 67 = .ok (.ishl, 1) := by decide +kernel
theorem dX4_findSwaps_68 : decode cX4_findSwaps 68 = .ok (.istore 5, 2) := by decide +kernel
theorem dX4_findSwaps_70 : decode cX4_findSwaps 70 = .ok (.goto (-45), 3) := by decide +kernel
theorem dX4_findSwaps_73 : decode cX4_findSwaps 73 = .ok (.aload_n 0, 1) := by decide +kernel
theorem dX4_findSwaps_74 : decode cX4_findSwaps 74 = .ok (.getfield 18, 3) := by decide +kernel
theorem dX4_findSwaps_77 : decode cX4_findSwaps 77 = .ok (.iload_n 2, 1) := by decide +kernel
theorem dX4_findSwaps_78 : decode cX4_findSwaps 78 = .ok (.iload 4, 2) := by decide +kernel
theorem dX4_findSwaps_80 : decode cX4_findSwaps 80 = .ok (.iastore, 1) := by decide +kernel
theorem dX4_findSwaps_81 : decode cX4_findSwaps 81 = .ok (.iinc 2 1, 3) := by decide +kernel
theorem dX4_findSwaps_84 : decode cX4_findSwaps 84 = .ok (.goto (-82), 3) := by decide +kernel
theorem dX4_findSwaps_87 : decode cX4_findSwaps 87 = .ok (.return_, 1) := by decide +kernel
theorem dX4_swapsMeetAllBases_0 : decode cX4_swapsMeetAllBases 0 = .ok (.iconst 0, 1) := by decide +kernel
theorem dX4_swapsMeetAllBases_1 : decode cX4_swapsMeetAllBases 1 = .ok (.istore_n 2, 1) := by decide +kernel
theorem dX4_swapsMeetAllBases_2 : decode cX4_swapsMeetAllBases 2 = .ok (.iload_n 2, 1) := by decide +kernel
theorem dX4_swapsMeetAllBases_3 : decode cX4_swapsMeetAllBases 3 = .ok (.aload_n 0, 1) := by decide +kernel
theorem dX4_swapsMeetAllBases_4 : decode cX4_swapsMeetAllBases 4 = .ok (.getfield 18, 3) := by decide +kernel
theorem dX4_swapsMeetAllBases_7 : decode cX4_swapsMeetAllBases 7 = .ok (.arraylength, 1) := by decide +kernel
theorem dX4_swapsMeetAllBases_8 : decode cX4_swapsMeetAllBases 8 = .ok (.if_icmp .ge 42, 3) := by decide +kernel
theorem dX4_swapsMeetAllBases_11 : decode cX4_swapsMeetAllBases 11 = .ok (.iload_n 1, 1) := by decide +kernel
theorem dX4_swapsMeetAllBases_12 : decode cX4_swapsMeetAllBases 12 = .ok (.iconst 1, 1) := by decide +kernel
theorem dX4_swapsMeetAllBases_13 : decode cX4_swapsMeetAllBases 13 = .ok (.iload_n 2, 1) := by decide +kernel
theorem dX4_swapsMeetAllBases_14 : decode cX4_swapsMeetAllBases 14 = .ok (.ishl, 1) := by decide +kernel
theorem dX4_swapsMeetAllBases_15 : decode cX4_swapsMeetAllBases 15 = .ok (.iand, 1) := by decide +kernel
theorem dX4_swapsMeetAllBases_16 : decode cX4_swapsMeetAllBases 16 = .ok (.ifCond .eq 28, 3) := by decide +kernel
theorem dX4_swapsMeetAllBases_19 : decode cX4_swapsMeetAllBases 19 = .ok (.aload_n 0, 1) := by decide +kernel
theorem dX4_swapsMeetAllBases_20 : decode cX4_swapsMeetAllBases 20 = .ok (.getfield 15, 3) := by decide +kernel
theorem dX4_swapsMeetAllBases_23 : decode cX4_swapsMeetAllBases 23 = .ok (.aload_n 0, 1) := by decide +kernel
theorem dX4_swapsMeetAllBases_24 : decode cX4_swapsMeetAllBases 24 = .ok (.getfield 31, 3) := by decide +kernel
theorem dX4_swapsMeetAllBases_27 : decode cX4_swapsMeetAllBases 27 = .ok (.aload_n 0, 1) := by decide +kernel
theorem dX4_swapsMeetAllBases_28 : decode cX4_swapsMeetAllBases 28 = .ok (.getfield 18, 3) := by decide +kernel
theorem dX4_swapsMeetAllBases_31 : decode cX4_swapsMeetAllBases 31 = .ok (.iload_n 2, 1) := by decide +kernel
theorem dX4_swapsMeetAllBases_32 : decode cX4_swapsMeetAllBases 32 = .ok (.iaload, 1) := by decide +kernel
theorem dX4_swapsMeetAllBases_33 : decode cX4_swapsMeetAllBases 33 = .ok (.iconst (-1), 1) := by decide +kernel
theorem dX4_swapsMeetAllBases_34 : decode cX4_swapsMeetAllBases 34 = .ok (.ixor, 1) := by decide +kernel
theorem dX4_swapsMeetAllBases_35 : decode cX4_swapsMeetAllBases 35 = .ok (.iand, 1) := by decide +kernel
theorem dX4_swapsMeetAllBases_36 : decode cX4_swapsMeetAllBases 36 = .ok (.invokestatic 75, 3) := by decide +kernel
theorem dX4_swapsMeetAllBases_39 : decode cX4_swapsMeetAllBases 39 = .ok (.ifCond .eq 5, 3) := by decide +kernel
theorem dX4_swapsMeetAllBases_42 : decode cX4_swapsMeetAllBases 42 = .ok (.iconst 0, 1) := by decide +kernel
theorem dX4_swapsMeetAllBases_43 : decode cX4_swapsMeetAllBases 43 = .ok (.ireturn, 1) := by decide +kernel
theorem dX4_swapsMeetAllBases_44 : decode cX4_swapsMeetAllBases 44 = .ok (.iinc 2 1, 3) := by decide +kernel
theorem dX4_swapsMeetAllBases_47 : decode cX4_swapsMeetAllBases 47 = .ok (.goto (-45), 3) := by decide +kernel
theorem dX4_swapsMeetAllBases_50 : decode cX4_swapsMeetAllBases 50 = .ok (.iconst 1, 1) := by decide +kernel
theorem dX4_swapsMeetAllBases_51 : decode cX4_swapsMeetAllBases 51 = .ok (.ireturn, 1) := by decide +kernel
theorem dX4_tellBreak_0 : decode cX4_tellBreak 0 = .ok (.iconst 0, 1) := by decide +kernel
theorem dX4_tellBreak_1 : decode cX4_tellBreak 1 = .ok (.istore_n 2, 1) := by decide +kernel
theorem dX4_tellBreak_2 : decode cX4_tellBreak 2 = .ok (.iload_n 2, 1) := by decide +kernel
theorem dX4_tellBreak_3 : decode cX4_tellBreak 3 = .ok (.aload_n 0, 1) := by decide +kernel
theorem dX4_tellBreak_4 : decode cX4_tellBreak 4 = .ok (.getfield 31, 3) := by decide +kernel
theorem dX4_tellBreak_7 : decode cX4_tellBreak 7 = .ok (.if_icmp .gt 78, 3) := by decide +kernel
theorem dX4_tellBreak_10 : decode cX4_tellBreak 10 = .ok (.iconst 0, 1) := by decide +kernel
theorem dX4_tellBreak_11 : decode cX4_tellBreak 11 = .ok (.istore_n 3, 1) := by decide +kernel
theorem dX4_tellBreak_12 : decode cX4_tellBreak 12 = .ok (.iload_n 3, 1) := by decide +kernel
theorem dX4_tellBreak_13 : decode cX4_tellBreak 13 = .ok (.aload_n 0, 1) := by decide +kernel
theorem dX4_tellBreak_14 : decode cX4_tellBreak 14 = .ok (.getfield 18, 3) := by decide +kernel
theorem dX4_tellBreak_17 : decode cX4_tellBreak 17 = .ok (.arraylength, 1) := by decide +kernel
theorem dX4_tellBreak_18 : decode cX4_tellBreak 18 = .ok (.if_icmp .ge 61, 3) := by decide +kernel
theorem dX4_tellBreak_21 : decode cX4_tellBreak 21 = .ok (.aload_n 0, 1) := by decide +kernel
theorem dX4_tellBreak_22 : decode cX4_tellBreak 22 = .ok (.iload_n 2, 1) := by decide +kernel
theorem dX4_tellBreak_23 : decode cX4_tellBreak 23 = .ok (.invokevirtual 61, 3) := by decide +kernel
theorem dX4_tellBreak_26 : decode cX4_tellBreak 26 = .ok (.ifCond .eq 53, 3) := by decide +kernel
theorem dX4_tellBreak_29 : decode cX4_tellBreak 29 = .ok (.iload_n 1, 1) := by decide +kernel
theorem dX4_tellBreak_30 : decode cX4_tellBreak 30 = .ok (.iload_n 2, 1) := by decide +kernel
theorem dX4_tellBreak_31 : decode cX4_tellBreak 31 = .ok (.iconst (-1), 1) := by decide +kernel
theorem dX4_tellBreak_32 : decode cX4_tellBreak 32 = .ok (.ixor, 1) := by decide +kernel
theorem dX4_tellBreak_33 : decode cX4_tellBreak 33 = .ok (.iand, 1) := by decide +kernel
theorem dX4_tellBreak_34 : decode cX4_tellBreak 34 = .ok (.iconst 1, 1) := by decide +kernel
theorem dX4_tellBreak_35 : decode cX4_tellBreak 35 = .ok (.iload_n 3, 1) := by decide +kernel
theorem dX4_tellBreak_36 : decode cX4_tellBreak 36 = .ok (.ishl, 1) := by decide +kernel
theorem dX4_tellBreak_37 : decode cX4_tellBreak 37 = .ok (.iand, 1) := by decide +kernel
theorem dX4_tellBreak_38 : decode cX4_tellBreak 38 = .ok (.ifCond .eq 35, 3) := by decide +kernel
theorem dX4_tellBreak_41 : decode cX4_tellBreak 41 = .ok (.aload_n 0, 1) := by decide +kernel
theorem dX4_tellBreak_42 : decode cX4_tellBreak 42 = .ok (.getfield 18, 3) := by decide +kernel
theorem dX4_tellBreak_45 : decode cX4_tellBreak 45 = .ok (.iload_n 3, 1) := by decide +kernel
theorem dX4_tellBreak_46 : decode cX4_tellBreak 46 = .ok (.iaload, 1) := by decide +kernel
theorem dX4_tellBreak_47 : decode cX4_tellBreak 47 = .ok (.iload_n 2, 1) := by decide +kernel
theorem dX4_tellBreak_48 : decode cX4_tellBreak 48 = .ok (.iand, 1) := by decide +kernel
theorem dX4_tellBreak_49 : decode cX4_tellBreak 49 = .ok (.ifCond .ne 24, 3) := by decide +kernel
theorem dX4_tellBreak_52 : decode cX4_tellBreak 52 = .ok (.aload_n 0, 1) := by decide +kernel
theorem dX4_tellBreak_53 : decode cX4_tellBreak 53 = .ok (.iconst 1, 1) := by decide +kernel
theorem dX4_tellBreak_54 : decode cX4_tellBreak 54 = .ok (.putfield 41, 3) := by decide +kernel
theorem dX4_tellBreak_57 : decode cX4_tellBreak 57 = .ok (.aload_n 0, 1) := by decide +kernel
theorem dX4_tellBreak_58 : decode cX4_tellBreak 58 = .ok (.iload_n 1, 1) := by decide +kernel
theorem dX4_tellBreak_59 : decode cX4_tellBreak 59 = .ok (.putfield 45, 3) := by decide +kernel
theorem dX4_tellBreak_62 : decode cX4_tellBreak 62 = .ok (.aload_n 0, 1) := by decide +kernel
theorem dX4_tellBreak_63 : decode cX4_tellBreak 63 = .ok (.iload_n 2, 1) := by decide +kernel
theorem dX4_tellBreak_64 : decode cX4_tellBreak 64 = .ok (.putfield 48, 3) := by decide +kernel
theorem dX4_tellBreak_67 : decode cX4_tellBreak 67 = .ok (.aload_n 0, 1) := by decide +kernel
theorem dX4_tellBreak_68 : decode cX4_tellBreak 68 = .ok (.iload_n 3, 1) := by decide +kernel
theorem dX4_tellBreak_69 : decode cX4_tellBreak 69 = .ok (.putfield 51, 3) := by decide +kernel
theorem dX4_tellBreak_72 : decode cX4_tellBreak 72 = .ok (.return_, 1) := by decide +kernel
theorem dX4_tellBreak_73 : decode cX4_tellBreak 73 = .ok (.iinc 3 1, 3) := by decide +kernel
theorem dX4_tellBreak_76 : decode cX4_tellBreak 76 = .ok (.goto (-64), 3) := by decide +kernel
theorem dX4_tellBreak_79 : decode cX4_tellBreak 79 = .ok (.iinc 2 1, 3) := by decide +kernel
theorem dX4_tellBreak_82 : decode cX4_tellBreak 82 = .ok (.goto (-80), 3) := by decide +kernel
theorem dX4_tellBreak_85 : decode cX4_tellBreak 85 = .ok (.return_, 1) := by decide +kernel
theorem dX5_init_0 : decode cX5_init 0 = .ok (.aload_n 0, 1) := by decide +kernel
theorem dX5_init_1 : decode cX5_init 1 = .ok (.invokespecial 3, 3) := by decide +kernel
theorem dX5_init_4 : decode cX5_init 4 = .ok (.aload_n 0, 1) := by decide +kernel
theorem dX5_init_5 : decode cX5_init 5 = .ok (.sipush 1024, 3) := by decide +kernel
theorem dX5_init_8 : decode cX5_init 8 = .ok (.newarray .int, 2) := by decide +kernel
theorem dX5_init_10 : decode cX5_init 10 = .ok (.putfield 9, 3) := by decide +kernel
theorem dX5_init_13 : decode cX5_init 13 = .ok (.aload_n 0, 1) := by decide +kernel
theorem dX5_init_14 : decode cX5_init 14 = .ok (.sipush 1024, 3) := by decide +kernel
theorem dX5_init_17 : decode cX5_init 17 = .ok (.newarray .int, 2) := by decide +kernel
theorem dX5_init_19 : decode cX5_init 19 = .ok (.putfield 15, 3) := by decide +kernel
theorem dX5_init_22 : decode cX5_init 22 = .ok (.aload_n 0, 1) := by decide +kernel
theorem dX5_init_23 : decode cX5_init 23 = .ok (.sipush 1024, 3) := by decide +kernel
theorem dX5_init_26 : decode cX5_init 26 = .ok (.newarray .int, 2) := by decide +kernel
theorem dX5_init_28 : decode cX5_init 28 = .ok (.putfield 18, 3) := by decide +kernel
theorem dX5_init_31 : decode cX5_init 31 = .ok (.aload_n 0, 1) := by decide +kernel
theorem dX5_init_32 : decode cX5_init 32 = .ok (.sipush 1024, 3) := by decide +kernel
theorem dX5_init_35 : decode cX5_init 35 = .ok (.newarray .int, 2) := by decide +kernel
theorem dX5_init_37 : decode cX5_init 37 = .ok (.putfield 21, 3) := by decide +kernel
theorem dX5_init_40 : decode cX5_init 40 = .ok (.aload_n 0, 1) := by decide +kernel
theorem dX5_init_41 : decode cX5_init 41 = .ok (.bipush 10, 2) := by decide +kernel
theorem dX5_init_43 : decode cX5_init 43 = .ok (.newarray .int, 2) := by decide +kernel
theorem dX5_init_45 : decode cX5_init 45 = .ok (.putfield 24, 3) := by decide +kernel
theorem dX5_init_48 : decode cX5_init 48 = .ok (.aload_n 0, 1) := by decide +kernel
theorem dX5_init_49 : decode cX5_init 49 = .ok (.bipush 10, 2) := by decide +kernel
theorem dX5_init_51 : decode cX5_init 51 = .ok (.newarray .int, 2) := by decide +kernel
theorem dX5_init_53 : decode cX5_init 53 = .ok (.putfield 27, 3) := by decide +kernel
theorem dX5_init_56 : decode cX5_init 56 = .ok (.return_, 1) := by decide +kernel
theorem dX5_lookFor_0 : decode cX5_lookFor 0 = .ok (.aload_n 0, 1) := by decide +kernel
theorem dX5_lookFor_1 : decode cX5_lookFor 1 = .ok (.aload_n 1, 1) := by decide +kernel
theorem dX5_lookFor_2 : decode cX5_lookFor 2 = .ok (.getfield 30, 3) := by decide +kernel
theorem dX5_lookFor_5 : decode cX5_lookFor 5 = .ok (.putfield 36, 3) := by decide +kernel
theorem dX5_lookFor_8 : decode cX5_lookFor 8 = .ok (.aload_n 0, 1) := by decide +kernel
theorem dX5_lookFor_9 : decode cX5_lookFor 9 = .ok (.aload_n 1, 1) := by decide +kernel
theorem dX5_lookFor_10 : decode cX5_lookFor 10 = .ok (.getfield 37, 3) := by decide +kernel
theorem dX5_lookFor_13 : decode cX5_lookFor 13 = .ok (.iconst 1, 1) := by decide +kernel
theorem dX5_lookFor_14 : decode cX5_lookFor 14 = .ok (.iadd, 1) := by decide +kernel
theorem dX5_lookFor_15 : decode cX5_lookFor 15 = .ok (.sipush 1024, 3) := by decide +kernel
theorem dX5_lookFor_18 : decode cX5_lookFor 18 = .ok (.invokestatic 40, 3) := by decide +kernel
theorem dX5_lookFor_21 : decode cX5_lookFor 21 = .ok (.putfield 46, 3) := by decide +kernel
theorem dX5_lookFor_24 : decode cX5_lookFor 24 = .ok (.iconst 0, 1) := by decide +kernel
theorem dX5_lookFor_25 : decode cX5_lookFor 25 = .ok (.istore_n 2, 1) := by decide +kernel
theorem dX5_lookFor_26 : decode cX5_lookFor 26 = .ok (.iload_n 2, 1) := by decide +kernel
theorem dX5_lookFor_27 : decode cX5_lookFor 27 = .ok (.aload_n 0, 1) := by decide +kernel
theorem dX5_lookFor_28 : decode cX5_lookFor 28 = .ok (.getfield 46, 3) := by decide +kernel
theorem dX5_lookFor_31 : decode cX5_lookFor 31 = .ok (.if_icmp .ge 29, 3) := by decide +kernel
theorem dX5_lookFor_34 : decode cX5_lookFor 34 = .ok (.aload_n 0, 1) := by decide +kernel
theorem dX5_lookFor_35 : decode cX5_lookFor 35 = .ok (.getfield 18, 3) := by decide +kernel
theorem dX5_lookFor_38 : decode cX5_lookFor 38 = .ok (.iload_n 2, 1) := by decide +kernel
theorem dX5_lookFor_39 : decode cX5_lookFor 39 = .ok (.aload_n 1, 1) := by decide +kernel
theorem dX5_lookFor_40 : decode cX5_lookFor 40 = .ok (.iload_n 2, 1) := by decide +kernel
theorem dX5_lookFor_41 : decode cX5_lookFor 41 = .ok (.iconst 2, 1) := by decide +kernel
theorem dX5_lookFor_42 : decode cX5_lookFor 42 = .ok (.invokevirtual 49, 3) := by decide +kernel
theorem dX5_lookFor_45 : decode cX5_lookFor 45 = .ok (.ifCond .eq 7, 3) := by decide +kernel
theorem dX5_lookFor_48 : decode cX5_lookFor 48 = .ok (.iconst 1, 1) := by decide +kernel
theorem dX5_lookFor_49 : decode cX5_lookFor 49 = .ok (.goto 4, 3) := by decide +kernel
theorem dX5_lookFor_52 : decode cX5_lookFor 52 = .ok (.iconst 0, 1) := by decide +kernel
theorem dX5_lookFor_53 : decode cX5_lookFor 53 = .ok (.iastore, 1) := by decide +kernel
theorem dX5_lookFor_54 : decode cX5_lookFor 54 = .ok (.iinc 2 1, 3) := by decide +kernel
theorem dX5_lookFor_57 : decode cX5_lookFor 57 = .ok (.goto (-31), 3) := by decide +kernel
theorem dX5_lookFor_60 : decode cX5_lookFor 60 = .ok (.aload_n 0, 1) := by decide +kernel
theorem dX5_lookFor_61 : decode cX5_lookFor 61 = .ok (.aload_n 0, 1) := by decide +kernel
theorem dX5_lookFor_62 : decode cX5_lookFor 62 = .ok (.getfield 18, 3) := by decide +kernel
theorem dX5_lookFor_65 : decode cX5_lookFor 65 = .ok (.invokevirtual 53, 3) := by decide +kernel
theorem dX5_lookFor_68 : decode cX5_lookFor 68 = .ok (.aload_n 0, 1) := by decide +kernel
theorem dX5_lookFor_69 : decode cX5_lookFor 69 = .ok (.aload_n 0, 1) := by decide +kernel
theorem dX5_lookFor_70 : decode cX5_lookFor 70 = .ok (.getfield 18, 3) := by decide +kernel
theorem dX5_lookFor_73 : decode cX5_lookFor 73 = .ok (.aload_n 0, 1) := by decide +kernel
theorem dX5_lookFor_74 : decode cX5_lookFor 74 = .ok (.getfield 27, 3) := by decide +kernel
theorem dX5_lookFor_77 : decode cX5_lookFor 77 = .ok (.invokevirtual 57, 3) := by decide +kernel
theorem dX5_lookFor_80 : decode cX5_lookFor 80 = .ok (.return_, 1) := by decide +kernel
theorem dX5_isAlike_0 : decode cX5_isAlike 0 = .ok (.aload_n 0, 1) := by decide +kernel
theorem dX5_isAlike_1 : decode cX5_isAlike 1 = .ok (.aload_n 1, 1) := by decide +kernel
theorem dX5_isAlike_2 : decode cX5_isAlike 2 = .ok (.iload_n 2, 1) := by decide +kernel
theorem dX5_isAlike_3 : decode cX5_isAlike 3 = .ok (.iload_n 3, 1) := by decide +kernel
theorem dX5_isAlike_4 : decode cX5_isAlike 4 = .ok (.invokevirtual 61, 3) := by decide +kernel
theorem dX5_isAlike_7 : decode cX5_isAlike 7 = .ok (.ifCond .eq 11, 3) := by decide +kernel
theorem dX5_isAlike_10 : decode cX5_isAlike 10 = .ok (.aload_n 0, 1) := by decide +kernel
theorem dX5_isAlike_11 : decode cX5_isAlike 11 = .ok (.aload_n 1, 1) := by decide +kernel
theorem dX5_isAlike_12 : decode cX5_isAlike 12 = .ok (.invokevirtual 65, 3) := by decide +kernel
theorem dX5_isAlike_15 : decode cX5_isAlike 15 = .ok (.ifCond .ne 5, 3) := by decide +kernel
theorem dX5_isAlike_18 : decode cX5_isAlike 18 = .ok (.iconst 0, 1) := by decide +kernel
theorem dX5_isAlike_19 : decode cX5_isAlike 19 = .ok (.ireturn, 1) := by decide +kernel
theorem dX5_isAlike_20 : decode cX5_isAlike 20 = .ok (.aload_n 0, 1) := by decide +kernel
theorem dX5_isAlike_21 : decode cX5_isAlike 21 = .ok (.aload_n 0, 1) := by decide +kernel
theorem dX5_isAlike_22 : decode cX5_isAlike 22 = .ok (.getfield 15, 3) := by decide +kernel
theorem dX5_isAlike_25 : decode cX5_isAlike 25 = .ok (.invokevirtual 53, 3) := by decide +kernel
theorem dX5_isAlike_28 : decode cX5_isAlike 28 = .ok (.aload_n 0, 1) := by decide +kernel
theorem dX5_isAlike_29 : decode cX5_isAlike 29 = .ok (.aload_n 0, 1) := by decide +kernel
theorem dX5_isAlike_30 : decode cX5_isAlike 30 = .ok (.getfield 15, 3) := by decide +kernel
theorem dX5_isAlike_33 : decode cX5_isAlike 33 = .ok (.aload_n 0, 1) := by decide +kernel
theorem dX5_isAlike_34 : decode cX5_isAlike 34 = .ok (.getfield 24, 3) := by decide +kernel
theorem dX5_isAlike_37 : decode cX5_isAlike 37 = .ok (.invokevirtual 57, 3) := by decide +kernel
theorem dX5_isAlike_40 : decode cX5_isAlike 40 = .ok (.aload_n 0, 1) := by decide +kernel
theorem dX5_isAlike_41 : decode cX5_isAlike 41 = .ok (.invokevirtual 69, 3) := by decide +kernel
theorem dX5_isAlike_44 : decode cX5_isAlike 44 = .ok (.ifCond .eq 16, 3) := by decide +kernel
theorem dX5_isAlike_47 : decode cX5_isAlike 47 = .ok (.aload_n 0, 1) := by decide +kernel
theorem dX5_isAlike_48 : decode cX5_isAlike 48 = .ok (.iconst 0, 1) := by decide +kernel
theorem dX5_isAlike_49 : decode cX5_isAlike 49 = .ok (.iconst 0, 1) := by decide +kernel
theorem dX5_isAlike_50 : decode cX5_isAlike 50 = .ok (.invokestatic 73, 3) := by decide +kernel
theorem dX5_isAlike_53 : decode cX5_isAlike 53 = .ok (.ifCond .eq 7, 3) := by decide +kernel
theorem dX5_isAlike_56 : decode cX5_isAlike 56 = .ok (.iconst 1, 1) := by decide +kernel
theorem dX5_isAlike_57 : decode cX5_isAlike 57 = .ok (.goto 4, 3) := by decide +kernel
theorem dX5_isAlike_60 : decode cX5_isAlike 60 = .ok (.iconst 0, 1) := by decide +kernel
theorem dX5_isAlike_61 : decode cX5_isAlike 61 = .ok (.ireturn, 1) := by decide +kernel
theorem dX5_imageOf_0 : decode cX5_imageOf 0 = .ok (.aload_n 0, 1) := by decide +kernel
theorem dX5_imageOf_1 : decode cX5_imageOf 1 = .ok (.getfield 21, 3) := by decide +kernel
theorem dX5_imageOf_4 : decode cX5_imageOf 4 = .ok (.iconst 1, 1) := by decide +kernel
theorem dX5_imageOf_5 : decode cX5_imageOf 5 = .ok (.iload_n 1, 1) := by decide +kernel
theorem dX5_imageOf_6 : decode cX5_imageOf 6 = .ok (.ishl, 1) := by decide +kernel
theorem dX5_imageOf_7 : decode cX5_imageOf 7 = .ok (.invokestatic 77, 3) := by decide +kernel
theorem dX5_imageOf_10 : decode cX5_imageOf 10 = .ok (.invokestatic 81, 3) := by decide +kernel
theorem dX5_imageOf_13 : decode cX5_imageOf 13 = .ok (.ireturn, 1) := by decide +kernel
theorem dX5_symmetriesOf_0 : decode cX5_symmetriesOf 0 = .ok (.aload_n 0, 1) := by decide +kernel
theorem dX5_symmetriesOf_1 : decode cX5_symmetriesOf 1 = .ok (.aload_n 1, 1) := by decide +kernel
theorem dX5_symmetriesOf_2 : decode cX5_symmetriesOf 2 = .ok (.invokevirtual 87, 3) := by decide +kernel
theorem dX5_symmetriesOf_5 : decode cX5_symmetriesOf 5 = .ok (.aload_n 0, 1) := by decide +kernel
theorem dX5_symmetriesOf_6 : decode cX5_symmetriesOf 6 = .ok (.getfield 18, 3) := by decide +kernel
theorem dX5_symmetriesOf_9 : decode cX5_symmetriesOf 9 = .ok (.iconst 0, 1) := by decide +kernel
theorem dX5_symmetriesOf_10 : decode cX5_symmetriesOf 10 = .ok (.aload_n 0, 1) := by decide +kernel
theorem dX5_symmetriesOf_11 : decode cX5_symmetriesOf 11 = .ok (.getfield 15, 3) := by decide +kernel
theorem dX5_symmetriesOf_14 : decode cX5_symmetriesOf 14 = .ok (.iconst 0, 1) := by decide +kernel
theorem dX5_symmetriesOf_15 : decode cX5_symmetriesOf 15 = .ok (.aload_n 0, 1) := by decide +kernel
theorem dX5_symmetriesOf_16 : decode cX5_symmetriesOf 16 = .ok (.getfield 46, 3) := by decide +kernel
theorem dX5_symmetriesOf_19 : decode cX5_symmetriesOf 19 = .ok (.invokestatic 91, 3) := by decide +kernel
theorem dX5_symmetriesOf_22 : decode cX5_symmetriesOf 22 = .ok (.aload_n 0, 1) := by decide +kernel
theorem dX5_symmetriesOf_23 : decode cX5_symmetriesOf 23 = .ok (.getfield 27, 3) := by decide +kernel
theorem dX5_symmetriesOf_26 : decode cX5_symmetriesOf 26 = .ok (.iconst 0, 1) := by decide +kernel
theorem dX5_symmetriesOf_27 : decode cX5_symmetriesOf 27 = .ok (.aload_n 0, 1) := by decide +kernel
theorem dX5_symmetriesOf_28 : decode cX5_symmetriesOf 28 = .ok (.getfield 24, 3) := by decide +kernel
theorem dX5_symmetriesOf_31 : decode cX5_symmetriesOf 31 = .ok (.iconst 0, 1) := by decide +kernel
theorem dX5_symmetriesOf_32 : decode cX5_symmetriesOf 32 = .ok (.aload_n 0, 1) := by decide +kernel
theorem dX5_symmetriesOf_33 : decode cX5_symmetriesOf 33 = .ok (.getfield 36, 3) := by decide +kernel
theorem dX5_symmetriesOf_36 : decode cX5_symmetriesOf 36 = .ok (.invokestatic 91, 3) := by decide +kernel
theorem dX5_symmetriesOf_39 : decode cX5_symmetriesOf 39 = .ok (.aload_n 0, 1) := by decide +kernel
theorem dX5_symmetriesOf_40 : decode cX5_symmetriesOf 40 = .ok (.getfield 21, 3) := by decide +kernel
theorem dX5_symmetriesOf_43 : decode cX5_symmetriesOf 43 = .ok (.iconst 0, 1) := by decide +kernel
theorem dX5_symmetriesOf_44 : decode cX5_symmetriesOf 44 = .ok (.iconst 0, 1) := by decide +kernel
theorem dX5_symmetriesOf_45 : decode cX5_symmetriesOf 45 = .ok (.iastore, 1) := by decide +kernel
theorem dX5_symmetriesOf_46 : decode cX5_symmetriesOf 46 = .ok (.iconst 1, 1) := by decide +kernel
theorem dX5_symmetriesOf_47 : decode cX5_symmetriesOf 47 = .ok (.istore_n 2, 1) := by decide +kernel
theorem dX5_symmetriesOf_48 : decode cX5_symmetriesOf 48 = .ok (.iconst 0, 1) := by decide +kernel
theorem dX5_symmetriesOf_49 : decode cX5_symmetriesOf 49 = .ok (.istore_n 3, 1) := by decide +kernel
theorem dX5_symmetriesOf_50 : decode cX5_symmetriesOf 50 = .ok (.iload_n 3, 1) := by decide +kernel
theorem dX5_symmetriesOf_51 : decode cX5_symmetriesOf 51 = .ok (.aload_n 0, 1) := by decide +kernel
theorem dX5_symmetriesOf_52 : decode cX5_symmetriesOf 52 = .ok (.getfield 36, 3) := by decide +kernel
theorem dX5_symmetriesOf_55 : decode cX5_symmetriesOf 55 = .ok (.if_icmp .ge 23, 3) := by decide +kernel
theorem dX5_symmetriesOf_58 : decode cX5_symmetriesOf 58 = .ok (.iload_n 2, 1) := by decide +kernel
theorem dX5_symmetriesOf_59 : decode cX5_symmetriesOf 59 = .ok (.aload_n 0, 1) := by decide +kernel
theorem dX5_symmetriesOf_60 : decode cX5_symmetriesOf 60 = .ok (.iload_n 3, 1) := by decide +kernel
theorem dX5_symmetriesOf_61 : decode cX5_symmetriesOf 61 = .ok (.invokevirtual 97, 3) := by decide +kernel
theorem dX5_symmetriesOf_64 : decode cX5_symmetriesOf 64 = .ok (.imul, 1) := by decide +kernel
theorem dX5_symmetriesOf_65 : decode cX5_symmetriesOf 65 = .ok (.istore_n 2, 1) := by decide +kernel
theorem dX5_symmetriesOf_66 : decode cX5_symmetriesOf 66 = .ok (.aload_n 0, 1) := by decide +kernel
theorem dX5_symmetriesOf_67 : decode cX5_symmetriesOf 67 = .ok (.iload_n 3, 1) := by decide +kernel
theorem dX5_symmetriesOf_68 : decode cX5_symmetriesOf 68 = .ok (.iload_n 3, 1) := by decide +kernel
theorem dX5_symmetriesOf_69 : decode cX5_symmetriesOf 69 = .ok (.invokevirtual 100, 3) := by decide +kernel
theorem dX5_symmetriesOf_72 : decode cX5_symmetriesOf 72 = .ok (.iinc 3 1, 3) := by decide +kernel
theorem dX5_symmetriesOf_75 : decode cX5_symmetriesOf 75 = .ok (.goto (-25), 3) := by decide +kernel
theorem dX5_symmetriesOf_78 : decode cX5_symmetriesOf 78 = .ok (.iload_n 2, 1) := by decide +kernel
theorem dX5_symmetriesOf_79 : decode cX5_symmetriesOf 79 = .ok (.ireturn, 1) := by decide +kernel
theorem dX5_countImages_0 : decode cX5_countImages 0 = .ok (.iconst 1, 1) := by decide +kernel
theorem dX5_countImages_1 : decode cX5_countImages 1 = .ok (.istore_n 2, 1) := by decide +kernel
theorem dX5_countImages_2 : decode cX5_countImages 2 = .ok (.iconst 1, 1) := by decide +kernel
theorem dX5_countImages_3 : decode cX5_countImages 3 = .ok (.iload_n 1, 1) := by decide +kernel
theorem dX5_countImages_4 : decode cX5_countImages 4 = .ok (.ishl, 1) := by decide +kernel
theorem dX5_countImages_5 : decode cX5_countImages 5 = .ok (.iconst 1, 1) := by decide +kernel
theorem dX5_countImages_6 : decode cX5_countImages 6 = .ok (.isub, 1) := by decide +kernel
theorem dX5_countImages_7 : decode cX5_countImages 7 = .ok (.istore_n 3, 1) := by decide +kernel
theorem dX5_countImages_8 : decode cX5_countImages 8 = .ok (.iload_n 1, 1) := by decide +kernel
theorem dX5_countImages_9 : decode cX5_countImages 9 = .ok (.iconst 1, 1) := by decide +kernel
theorem dX5_countImages_10 : decode cX5_countImages 10 = .ok (.iadd, 1) := by decide +kernel
theorem dX5_countImages_11 : decode cX5_countImages 11 = .ok (.istore 4, 2) := by decide +kernel
theorem dX5_countImages_13 : decode cX5_countImages 13 = .ok (.iload 4, 2) := by decide +kernel
theorem dX5_countImages_15 : decode cX5_countImages 15 = .ok (.aload_n 0, 1) := by decide +kernel
theorem dX5_countImages_16 : decode cX5_countImages 16 = .ok (.getfield 36, 3) := by decide +kernel
theorem dX5_countImages_19 : decode cX5_countImages 19 = .ok (.if_icmp .ge 45, 3) := by decide +kernel
theorem dX5_countImages_22 : decode cX5_countImages 22 = .ok (.aload_n 0, 1) := by decide +kernel
theorem dX5_countImages_23 : decode cX5_countImages 23 = .ok (.iload_n 1, 1) := by decide +kernel
theorem dX5_countImages_24 : decode cX5_countImages 24 = .ok (.iload 4, 2) := by decide +kernel
theorem dX5_countImages_26 : decode cX5_countImages 26 = .ok (.invokevirtual 104, 3) := by decide +kernel
theorem dX5_countImages_29 : decode cX5_countImages 29 = .ok (.ifCond .eq 29, 3) := by decide +kernel
theorem dX5_countImages_32 : decode cX5_countImages 32 = .ok (.aload_n 0, 1) := by decide +kernel
theorem dX5_countImages_33 : decode cX5_countImages 33 = .ok (.iload_n 1, 1) := by decide +kernel
theorem dX5_countImages_34 : decode cX5_countImages 34 = .ok (.iload 4, 2) := by decide +kernel
theorem dX5_countImages_36 : decode cX5_countImages 36 = .ok (.invokevirtual 100, 3) := by decide +kernel
theorem dX5_countImages_39 : decode cX5_countImages 39 = .ok (.aload_n 0, 1) := by decide +kernel
theorem dX5_countImages_40 : decode cX5_countImages 40 = .ok (.iload_n 1, 1) := by decide +kernel
theorem dX5_countImages_41 : decode cX5_countImages 41 = .ok (.iconst 1, 1) := by decide +kernel
theorem dX5_countImages_42 : decode cX5_countImages 42 = .ok (.iadd, 1) := by decide +kernel
theorem dX5_countImages_43 : decode cX5_countImages 43 = .ok (.iload_n 3, 1) := by decide +kernel
theorem dX5_countImages_44 : decode cX5_countImages 44 = .ok (.iconst 1, 1) := by decide +kernel
theorem dX5_countImages_45 : decode cX5_countImages 45 = .ok (.iload 4, 2) := by decide +kernel
theorem dX5_countImages_47 : decode cX5_countImages 47 = .ok (.ishl, 1) := by decide +kernel
theorem dX5_countImages_48 : decode cX5_countImages 48 = .ok (.ior, 1) := by decide +kernel
theorem dX5_countImages_49 : decode cX5_countImages 49 = .ok (.invokestatic 73, 3) := by decide +kernel
theorem dX5_countImages_52 : decode cX5_countImages 52 = .ok (.ifCond .eq 6, 3) := by decide +kernel
theorem dX5_countImages_55 : decode cX5_countImages 55 = .ok (.iinc 2 1, 3) := by decide +kernel
theorem dX5_countImages_58 : decode cX5_countImages 58 = .ok (.iinc 4 1, 3) := by decide +kernel
theorem dX5_countImages_61 : decode cX5_countImages 61 = .ok (.goto (-48), 3) := by decide +kernel
theorem dX5_countImages_64 : decode cX5_countImages 64 = .ok (.iload_n 2, 1) := by decide +kernel
theorem dX5_countImages_65 : decode cX5_countImages 65 = .ok (.ireturn, 1) := by decide +kernel
theorem dX5_spread_0 : decode cX5_spread 0 = .ok (.aload_n 1, 1) := by decide +kernel
theorem dX5_spread_1 : decode cX5_spread 1 = .ok (.getfield 37, 3) := by decide +kernel
theorem dX5_spread_4 : decode cX5_spread 4 = .ok (.iload_n 2, 1) := by decide +kernel
theorem dX5_spread_5 : decode cX5_spread 5 = .ok (.iconst (-1), 1) := by decide +kernel
theorem dX5_spread_6 : decode cX5_spread 6 = .ok (.ixor, 1) := by decide +kernel
theorem dX5_spread_7 : decode cX5_spread 7 = .ok (.iand, 1) := by decide +kernel
theorem dX5_spread_8 : decode cX5_spread 8 = .ok (.iload_n 3, 1) := by decide +kernel
theorem dX5_spread_9 : decode cX5_spread 9 = .ok (.iconst (-1), 1) := by decide +kernel
theorem dX5_spread_10 : decode cX5_spread 10 = .ok (.ixor, 1) := by decide +kernel
theorem dX5_spread_11 : decode cX5_spread 11 = .ok (.iand, 1) := by decide +kernel
theorem dX5_spread_12 : decode cX5_spread 12 = .ok (.istore 4, 2) := by decide +kernel
theorem dX5_spread_14 : decode cX5_spread 14 = .ok (.iload 4, 2) := by decide +kernel
theorem dX5_spread_16 : decode cX5_spread 16 = .ok (.invokestatic 107, 3) := by decide +kernel
theorem dX5_spread_19 : decode cX5_spread 19 = .ok (.aload_n 0, 1) := by decide +kernel
theorem dX5_spread_20 : decode cX5_spread 20 = .ok (.getfield 36, 3) := by decide +kernel
theorem dX5_spread_23 : decode cX5_spread 23 = .ok (.if_icmp .eq 5, 3) := by decide +kernel
theorem dX5_spread_26 : decode cX5_spread 26 = .ok (.iconst 0, 1) := by decide +kernel
theorem dX5_spread_27 : decode cX5_spread 27 = .ok (.ireturn, 1) := by decide +kernel
theorem dX5_spread_28 : decode cX5_spread 28 = .ok (.iconst 1, 1) := by decide +kernel
theorem dX5_spread_29 : decode cX5_spread 29 = .ok (.istore 5, 2) := by decide +kernel
theorem dX5_spread_31 : decode cX5_spread 31 = .ok (.aload_n 0, 1) := by decide +kernel
theorem dX5_spread_32 : decode cX5_spread 32 = .ok (.getfield 9, 3) := by decide +kernel
theorem dX5_spread_35 : decode cX5_spread 35 = .ok (.iconst 0, 1) := by decide +kernel
theorem dX5_spread_36 : decode cX5_spread 36 = .ok (.iload_n 2, 1) := by decide +kernel
theorem dX5_spread_37 : decode cX5_spread 37 = .ok (.iastore, 1) := by decide +kernel
theorem dX5_spread_38 : decode cX5_spread 38 = .ok (.iconst 1, 1) := by decide +kernel
theorem dX5_spread_39 : decode cX5_spread 39 = .ok (.istore 6, 2) := by decide +kernel
theorem dX5_spread_41 : decode cX5_spread 41 = .ok (.iload 6, 2) := by decide +kernel
theorem dX5_spread_43 : decode cX5_spread 43 = .ok (.aload_n 1, 1) := by decide +kernel
theorem dX5_spread_44 : decode cX5_spread 44 = .ok (.getfield 37, 3) := by decide +kernel
theorem dX5_spread_47 : decode cX5_spread 47 = .ok (.if_icmp .gt 75, 3) := by decide +kernel
theorem dX5_spread_50 : decode cX5_spread 50 = .ok (.iload 4, 2) := by decide +kernel
theorem dX5_spread_52 : decode cX5_spread 52 = .ok (.iload 6, 2) := by decide +kernel
theorem dX5_spread_54 : decode cX5_spread 54 = .ok (.iand, 1) := by decide +kernel
theorem dX5_spread_55 : decode cX5_spread 55 = .ok (.ifCond .eq 58, 3) := by decide +kernel
theorem dX5_spread_58 : decode cX5_spread 58 = .ok (.iconst 0, 1) := by decide +kernel
theorem dX5_spread_59 : decode cX5_spread 59 = .ok (.istore 7, 2) := by decide +kernel
theorem dX5_spread_61 : decode cX5_spread 61 = .ok (.iload 7, 2) := by decide +kernel
theorem dX5_spread_63 : decode cX5_spread 63 = .ok (.iload 5, 2) := by decide +kernel
theorem dX5_spread_65 : decode cX5_spread 65 = .ok (.if_icmp .ge 42, 3) := by decide +kernel
theorem dX5_spread_68 : decode cX5_spread 68 = .ok (.iload 5, 2) := by decide +kernel
theorem dX5_spread_70 : decode cX5_spread 70 = .ok (.iload 7, 2) := by decide +kernel
theorem dX5_spread_72 : decode cX5_spread 72 = .ok (.iadd, 1) := by decide +kernel
theorem dX5_spread_73 : decode cX5_spread 73 = .ok (.aload_n 0, 1) := by decide +kernel
theorem dX5_spread_74 : decode cX5_spread 74 = .ok (.getfield 9, 3) := by decide +kernel
theorem dX5_spread_77 : decode cX5_spread 77 = .ok (.arraylength, 1) := by decide +kernel
theorem dX5_spread_78 : decode cX5_spread 78 = .ok (.if_icmp .ge 29, 3) := by decide +kernel
theorem dX5_spread_81 : decode cX5_spread 81 = .ok (.aload_n 0, 1) := by decide +kernel
theorem dX5_spread_82 : decode cX5_spread 82 = .ok (.getfield 9, 3) := by decide +kernel
theorem dX5_spread_85 : decode cX5_spread 85 = .ok (.iload 5, 2) := by decide +kernel
theorem dX5_spread_87 : decode cX5_spread 87 = .ok (.iload 7, 2) := by decide +kernel
theorem dX5_spread_89 : decode cX5_spread 89 = .ok (.iadd, 1) := by decide +kernel
theorem dX5_spread_90 : decode cX5_spread 90 = .ok (.aload_n 0, 1) := by decide +kernel
theorem dX5_spread_91 : decode cX5_spread 91 = .ok (.getfield 9, 3) := by decide +kernel
theorem dX5_spread_94 : decode cX5_spread 94 = .ok (.iload 7, 2) := by decide +kernel
theorem dX5_spread_96 : decode cX5_spread 96 = .ok (.iaload, 1) := by decide +kernel
theorem dX5_spread_97 : decode cX5_spread 97 = .ok (.iload 6, 2) := by decide +kernel
theorem dX5_spread_99 : decode cX5_spread 99 = .ok (.ior, 1) := by decide +kernel
theorem dX5_spread_100 : decode cX5_spread 100 = .ok (.iastore, 1) := by decide +kernel
theorem dX5_spread_101 : decode cX5_spread 101 = .ok (.iinc 7 1, 3) := by decide +kernel
theorem dX5_spread_104 : decode cX5_spread 104 = .ok (.goto (-43), 3) := by decide +kernel
theorem dX5_spread_107 : decode cX5_spread 107 = .ok (.iload 5, 2) := by decide +kernel
theorem dX5_spread_109 : decode cX5_spread 109 = .ok (.iconst 1, 1) := by decide +kernel
theorem dX5_spread_110 : decode cX5_spread 110 = .ok (.ishl, 1) := by decide +kernel
theorem dX5_spread_111 : decode cX5_spread 111 = .ok (.istore 5, 2) := by decide +kernel
theorem dX5_spread_113 : decode cX5_spread 113 = .ok (.iload 6, 2) := by decide +kernel
theorem dX5_spread_115 : decode cX5_spread 115 = .ok (.iconst 1, 1) := by decide +kernel
theorem dX5_spread_116 : decode cX5_spread 116 = .ok (.ishl, 1) := by decide +kernel
theorem dX5_spread_117 : decode cX5_spread 117 = .ok (.istore 6, 2) := by decide +kernel
theorem dX5_spread_119 : decode cX5_spread 119 = .ok (.goto (-78), 3) := by decide +kernel
theorem dX5_spread_122 : decode cX5_spread 122 = .ok (.iconst 1, 1) := by decide +kernel
theorem dX5_spread_123 : decode cX5_spread 123 = .ok (.ireturn, 1) := by decide +kernel
theorem dX5_hasAsManyBases_0 : decode cX5_hasAsManyBases 0 = .ok (.iconst 0, 1) := by decide +kernel
theorem dX5_hasAsManyBases_1 : decode cX5_hasAsManyBases 1 = .ok (.istore_n 2, 1) := by decide +kernel
theorem dX5_hasAsManyBases_2 : decode cX5_hasAsManyBases 2 = .ok (.iconst 0, 1) := by decide +kernel
theorem dX5_hasAsManyBases_3 : decode cX5_hasAsManyBases 3 = .ok (.istore_n 3, 1) := by decide +kernel
theorem dX5_hasAsManyBases_4 : decode cX5_hasAsManyBases 4 = .ok (.iload_n 3, 1) := by decide +kernel
theorem dX5_hasAsManyBases_5 : decode cX5_hasAsManyBases 5 = .ok (.aload_n 0, 1) := by decide +kernel
theorem dX5_hasAsManyBases_6 : decode cX5_hasAsManyBases 6 = .ok (.getfield 46, 3) := by decide +kernel
theorem dX5_hasAsManyBases_9 : decode cX5_hasAsManyBases 9 = .ok (.if_icmp .ge 52, 3) := by decide +kernel
theorem dX5_hasAsManyBases_12 : decode cX5_hasAsManyBases 12 = .ok (.iload_n 3, 1) := by decide +kernel
theorem dX5_hasAsManyBases_13 : decode cX5_hasAsManyBases 13 = .ok (.aload_n 0, 1) := by decide +kernel
theorem dX5_hasAsManyBases_14 : decode cX5_hasAsManyBases 14 = .ok (.getfield 9, 3) := by decide +kernel
theorem dX5_hasAsManyBases_17 : decode cX5_hasAsManyBases 17 = .ok (.arraylength, 1) := by decide +kernel
theorem dX5_hasAsManyBases_18 : decode cX5_hasAsManyBases 18 = .ok (.if_icmp .ge 43, 3) := by decide +kernel
theorem dX5_hasAsManyBases_21 : decode cX5_hasAsManyBases 21 = .ok (.aload_n 1, 1) := by decide +kernel
theorem dX5_hasAsManyBases_22 : decode cX5_hasAsManyBases 22 = .ok (.aload_n 0, 1) := by decide +kernel
theorem dX5_hasAsManyBases_23 : decode cX5_hasAsManyBases 23 = .ok (.getfield 9, 3) := by decide +kernel
theorem dX5_hasAsManyBases_26 : decode cX5_hasAsManyBases 26 = .ok (.iload_n 3, 1) := by decide +kernel
theorem dX5_hasAsManyBases_27 : decode cX5_hasAsManyBases 27 = .ok (.iaload, 1) := by decide +kernel
theorem dX5_hasAsManyBases_28 : decode cX5_hasAsManyBases 28 = .ok (.iconst 2, 1) := by decide +kernel
theorem dX5_hasAsManyBases_29 : decode cX5_hasAsManyBases 29 = .ok (.invokevirtual 49, 3) := by decide +kernel
theorem dX5_hasAsManyBases_32 : decode cX5_hasAsManyBases 32 = .ok (.ifCond .eq 7, 3) := by decide +kernel
theorem dX5_hasAsManyBases_35 : decode cX5_hasAsManyBases 35 = .ok (.iconst 1, 1) := by decide +kernel
theorem dX5_hasAsManyBases_36 : decode cX5_hasAsManyBases 36 = .ok (.goto 4, 3) := by decide +kernel
theorem dX5_hasAsManyBases_39 : decode cX5_hasAsManyBases 39 = .ok (.iconst 0, 1) := by decide +kernel
theorem dX5_hasAsManyBases_40 : decode cX5_hasAsManyBases 40 = .ok (.istore 4, 2) := by decide +kernel
theorem dX5_hasAsManyBases_42 : decode cX5_hasAsManyBases 42 = .ok (.aload_n 0, 1) := by decide +kernel
theorem dX5_hasAsManyBases_43 : decode cX5_hasAsManyBases 43 = .ok (.getfield 15, 3) := by decide +kernel
theorem dX5_hasAsManyBases_46 : decode cX5_hasAsManyBases 46 = .ok (.iload_n 3, 1) := by decide +kernel
theorem dX5_hasAsManyBases_47 : decode cX5_hasAsManyBases 47 = .ok (.iload 4, 2) := by decide +kernel
theorem dX5_hasAsManyBases_49 : decode cX5_hasAsManyBases 49 = .ok (.iastore, 1) := by decide +kernel
theorem dX5_hasAsManyBases_50 : decode cX5_hasAsManyBases 50 = .ok (.iload_n 2, 1) := by decide +kernel
theorem dX5_hasAsManyBases_51 : decode cX5_hasAsManyBases 51 = .ok (.iload 4, 2) := by decide +kernel
theorem dX5_hasAsManyBases_53 : decode cX5_hasAsManyBases 53 = .ok (.iadd, 1) := by decide +kernel
theorem dX5_hasAsManyBases_54 : decode cX5_hasAsManyBases 54 = .ok (.istore_n 2, 1) := by decide +kernel
theorem dX5_hasAsManyBases_55 : decode cX5_hasAsManyBases 55 = .ok (.iinc 3 1, 3) := by decide +kernel
theorem dX5_hasAsManyBases_58 : decode cX5_hasAsManyBases 58 = .ok (.goto (-54), 3) := by decide +kernel
theorem dX5_hasAsManyBases_61 : decode cX5_hasAsManyBases 61 = .ok (.iload_n 2, 1) := by decide +kernel
theorem dX5_hasAsManyBases_62 : decode cX5_hasAsManyBases 62 = .ok (.aload_n 0, 1) := by decide +kernel
theorem dX5_hasAsManyBases_63 : decode cX5_hasAsManyBases 63 = .ok (.getfield 18, 3) := by decide +kernel
theorem dX5_hasAsManyBases_66 : decode cX5_hasAsManyBases 66 = .ok (.iconst 0, 1) := by decide +kernel
theorem dX5_hasAsManyBases_67 : decode cX5_hasAsManyBases 67 = .ok (.iaload, 1) := by decide +kernel
theorem dX5_hasAsManyBases_68 : decode cX5_hasAsManyBases 68 = .ok (.if_icmp .ne 7, 3) := by decide +kernel
theorem dX5_hasAsManyBases_71 : decode cX5_hasAsManyBases 71 = .ok (.iconst 1, 1) := by decide +kernel
theorem dX5_hasAsManyBases_72 : decode cX5_hasAsManyBases 72 = .ok (.goto 4, 3) := by decide +kernel
theorem dX5_hasAsManyBases_75 : decode cX5_hasAsManyBases 75 = .ok (.iconst 0, 1) := by decide +kernel
theorem dX5_hasAsManyBases_76 : decode cX5_hasAsManyBases 76 = .ok (.ireturn, 1) := by decide +kernel
theorem dX5_sumOverGreater_0 : decode cX5_sumOverGreater 0 = .ok (.iconst 1, 1) := by decide +kernel
theorem dX5_sumOverGreater_1 : decode cX5_sumOverGreater 1 = .ok (.istore_n 2, 1) := by decide +kernel
theorem dX5_sumOverGreater_2 : decode cX5_sumOverGreater 2 = .ok (.iload_n 2, 1) := by decide +kernel
theorem dX5_sumOverGreater_3 : decode cX5_sumOverGreater 3 = .ok (.aload_n 0, 1) := by decide +kernel
theorem dX5_sumOverGreater_4 : decode cX5_sumOverGreater 4 = .ok (.getfield 46, 3) := by decide +kernel
theorem dX5_sumOverGreater_7 : decode cX5_sumOverGreater 7 = .ok (.if_icmp .ge 51, 3) := by decide +kernel
theorem dX5_sumOverGreater_10 : decode cX5_sumOverGreater 10 = .ok (.iconst 0, 1) := by decide +kernel
theorem dX5_sumOverGreater_11 : decode cX5_sumOverGreater 11 = .ok (.istore_n 3, 1) := by decide +kernel
theorem dX5_sumOverGreater_12 : decode cX5_sumOverGreater 12 = .ok (.iload_n 3, 1) := by decide +kernel
theorem dX5_sumOverGreater_13 : decode cX5_sumOverGreater 13 = .ok (.aload_n 0, 1) := by decide +kernel
theorem dX5_sumOverGreater_14 : decode cX5_sumOverGreater 14 = .ok (.getfield 46, 3) := by decide +kernel
theorem dX5_sumOverGreater_17 : decode cX5_sumOverGreater 17 = .ok (.if_icmp .ge 34, 3) := by decide +kernel
theorem dX5_sumOverGreater_20 : decode cX5_sumOverGreater 20 = .ok (.iload_n 3, 1) := by decide +kernel
theorem dX5_sumOverGreater_21 : decode cX5_sumOverGreater 21 = .ok (.aload_n 1, 1) := by decide +kernel
theorem dX5_sumOverGreater_22 : decode cX5_sumOverGreater 22 = .ok (.arraylength, 1) := by decide +kernel
theorem dX5_sumOverGreater_23 : decode cX5_sumOverGreater 23 = .ok (.if_icmp .ge 28, 3) := by decide +kernel
theorem dX5_sumOverGreater_26 : decode cX5_sumOverGreater 26 = .ok (.iload_n 3, 1) := by decide +kernel
theorem dX5_sumOverGreater_27 : decode cX5_sumOverGreater 27 = .ok (.iload_n 2, 1) := by decide +kernel
theorem dX5_sumOverGreater_28 : decode cX5_sumOverGreater 28 = .ok (.iand, 1) := by decide +kernel
theorem dX5_sumOverGreater_29 : decode cX5_sumOverGreater 29 = .ok (.ifCond .ne 16, 3) := by decide +kernel
theorem dX5_sumOverGreater_32 : decode cX5_sumOverGreater 32 = .ok (.aload_n 1, 1) := by decide +kernel
theorem dX5_sumOverGreater_33 : decode cX5_sumOverGreater 33 = .ok (.iload_n 3, 1) := by decide +kernel
theorem dX5_sumOverGreater_34 : decode cX5_sumOverGreater 34 = .ok (.dup2, 1) := by decide +kernel
theorem dX5_sumOverGreater_35 : decode cX5_sumOverGreater 35 = .ok (.iaload, 1) := by decide +kernel
theorem dX5_sumOverGreater_36 : decode cX5_sumOverGreater 36 = .ok (.aload_n 1, 1) := by decide +kernel
theorem dX5_sumOverGreater_37 : decode cX5_sumOverGreater 37 = .ok (.iload_n 3, 1) := by decide +kernel
theorem dX5_sumOverGreater_38 : decode cX5_sumOverGreater 38 = .ok (.iload_n 2, 1) := by decide +kernel
theorem dX5_sumOverGreater_39 : decode cX5_sumOverGreater 39 = .ok (.ior, 1) := by decide +kernel
theorem dX5_sumOverGreater_40 : decode cX5_sumOverGreater 40 = .ok (.invokestatic 77, 3) := by decide +kernel
theorem dX5_sumOverGreater_43 : decode cX5_sumOverGreater 43 = .ok (.iadd, 1) := by decide +kernel
theorem dX5_sumOverGreater_44 : decode cX5_sumOverGreater 44 = .ok (.iastore, 1) := by decide +kernel
theorem dX5_sumOverGreater_45 : decode cX5_sumOverGreater 45 = .ok (.iinc 3 1, 3) := by decide +kernel
theorem dX5_sumOverGreater_48 : decode cX5_sumOverGreater 48 = .ok (.goto (-36), 3) := by decide +kernel
theorem dX5_sumOverGreater_51 : decode cX5_sumOverGreater 51 = .ok (.iload_n 2, 1) := by decide +kernel
theorem dX5_sumOverGreater_52 : decode cX5_sumOverGreater 52 = .ok (.iconst 1, 1) := by decide +kernel
theorem dX5_sumOverGreater_53 : decode cX5_sumOverGreater 53 = .ok (.ishl, 1) := by decide +kernel
theorem dX5_sumOverGreater_54 : decode cX5_sumOverGreater 54 = .ok (.istore_n 2, 1) := by decide +kernel
theorem dX5_sumOverGreater_55 : decode cX5_sumOverGreater 55 = .ok (.goto (-53), 3) := by decide +kernel
theorem dX5_sumOverGreater_58 : decode cX5_sumOverGreater 58 = .ok (.return_, 1) := by decide +kernel
theorem dX5_at_0 : decode cX5_at 0 = .ok (.iload_n 1, 1) := by decide +kernel
theorem dX5_at_1 : decode cX5_at 1 = .ok (.ifCond .lt 15, 3) := by decide +kernel
theorem dX5_at_4 : decode cX5_at 4 = .ok (.iload_n 1, 1) := by decide +kernel
theorem dX5_at_5 : decode cX5_at 5 = .ok (.aload_n 0, 1) := by decide +kernel
theorem dX5_at_6 : decode cX5_at 6 = .ok (.arraylength, 1) := by decide +kernel
theorem dX5_at_7 : decode cX5_at 7 = .ok (.if_icmp .ge 9, 3) := by decide +kernel
theorem dX5_at_10 : decode cX5_at 10 = .ok (.aload_n 0, 1) := by decide +kernel
theorem dX5_at_11 : decode cX5_at 11 = .ok (.iload_n 1, 1) := by decide +kernel
theorem dX5_at_12 : decode cX5_at 12 = .ok (.iaload, 1) := by decide +kernel
theorem dX5_at_13 : decode cX5_at 13 = .ok (.goto 4, 3) := by decide +kernel
theorem dX5_at_16 : decode cX5_at 16 = .ok (.iconst 0, 1) := by decide +kernel
theorem dX5_at_17 : decode cX5_at 17 = .ok (.ireturn, 1) := by decide +kernel
theorem dX5_fillProfiles_0 : decode cX5_fillProfiles 0 = .ok (.aload_n 2, 1) := by decide +kernel
theorem dX5_fillProfiles_1 : decode cX5_fillProfiles 1 = .ok (.iconst 0, 1) := by decide +kernel
theorem dX5_fillProfiles_2 : decode cX5_fillProfiles 2 = .ok (.invokestatic 110, 3) := by decide +kernel
theorem dX5_fillProfiles_5 : decode cX5_fillProfiles 5 = .ok (.iconst 0, 1) := by decide +kernel
theorem dX5_fillProfiles_6 : decode cX5_fillProfiles 6 = .ok (.istore_n 3, 1) := by decide +kernel
theorem dX5_fillProfiles_7 : decode cX5_fillProfiles 7 = .ok (.iload_n 3, 1) := by decide +kernel
theorem dX5_fillProfiles_8 : decode cX5_fillProfiles 8 = .ok (.aload_n 0, 1) := by decide +kernel
theorem dX5_fillProfiles_9 : decode cX5_fillProfiles 9 = .ok (.getfield 46, 3) := by decide +kernel
theorem dX5_fillProfiles_12 : decode cX5_fillProfiles 12 = .ok (.if_icmp .ge 85, 3) := by decide +kernel
theorem dX5_fillProfiles_15 : decode cX5_fillProfiles 15 = .ok (.iload_n 3, 1) := by decide +kernel
theorem dX5_fillProfiles_16 : decode cX5_fillProfiles 16 = .ok (.aload_n 1, 1) := by decide +kernel
theorem dX5_fillProfiles_17 : decode cX5_fillProfiles 17 = .ok (.arraylength, 1) := by decide +kernel
theorem dX5_fillProfiles_18 : decode cX5_fillProfiles 18 = .ok (.if_icmp .ge 79, 3) := by decide +kernel
theorem dX5_fillProfiles_21 : decode cX5_fillProfiles 21 = .ok (.aload_n 1, 1) := by decide +kernel
theorem dX5_fillProfiles_22 : decode cX5_fillProfiles 22 = .ok (.iload_n 3, 1) := by decide +kernel
theorem dX5_fillProfiles_23 : decode cX5_fillProfiles 23 = .ok (.iaload, 1) := by decide +kernel
theorem dX5_fillProfiles_24 : decode cX5_fillProfiles 24 = .ok (.sipush 4099, 3) := by decide +kernel
theorem dX5_fillProfiles_27 : decode cX5_fillProfiles 27 = .ok (.imul, 1) := by decide +kernel
theorem dX5_fillProfiles_28 : decode cX5_fillProfiles 28 = .ok (.iload_n 3, 1) := by decide +kernel
theorem dX5_fillProfiles_29 : decode cX5_fillProfiles 29 = .ok (.invokestatic 107, 3) := by decide +kernel
theorem dX5_fillProfiles_32 : decode cX5_fillProfiles 32 = .ok (.iadd, 1) := by decide +kernel
theorem dX5_fillProfiles_33 : decode cX5_fillProfiles 33 = .ok (.istore 4, 2) := by decide +kernel
theorem dX5_fillProfiles_35 : decode cX5_fillProfiles 35 = .ok (.iload 4, 2) := by decide +kernel
theorem dX5_fillProfiles_37 : decode cX5_fillProfiles 37 = .ok (.iload 4, 2) := by decide +kernel
theorem dX5_fillProfiles_39 : decode cX5_fillProfiles 39 = .ok (.imul, 1) := by decide +kernel
theorem dX5_fillProfiles_40 : decode cX5_fillProfiles 40 = .ok (.iload 4, 2) := by decide +kernel
theorem dX5_fillProfiles_42 : decode cX5_fillProfiles 42 = .ok (.imul, 1) := by decide +kernel
theorem dX5_fillProfiles_43 : decode cX5_fillProfiles 43 = .ok (.iload 4, 2) := by decide +kernel
theorem dX5_fillProfiles_45 : decode cX5_fillProfiles 45 = .ok (.iadd, 1) := by decide +kernel
theorem dX5_fillProfiles_46 : decode cX5_fillProfiles 46 = .ok (.istore 5, 2) := by decide +kernel
theorem dX5_fillProfiles_48 : decode cX5_fillProfiles 48 = .ok (.iconst 0, 1) := by decide +kernel
theorem dX5_fillProfiles_49 : decode cX5_fillProfiles 49 = .ok (.istore 6, 2) := by decide +kernel
theorem dX5_fillProfiles_51 : decode cX5_fillProfiles 51 = .ok (.iload 6, 2) := by decide +kernel
theorem dX5_fillProfiles_53 : decode cX5_fillProfiles 53 = .ok (.aload_n 0, 1) := by decide +kernel
theorem dX5_fillProfiles_54 : decode cX5_fillProfiles 54 = .ok (.getfield 36, 3) := by decide +kernel
theorem dX5_fillProfiles_57 : decode cX5_fillProfiles 57 = .ok (.if_icmp .ge 34, 3) := by decide +kernel
theorem dX5_fillProfiles_60 : decode cX5_fillProfiles 60 = .ok (.iload 6, 2) := by decide +kernel
theorem dX5_fillProfiles_62 : decode cX5_fillProfiles 62 = .ok (.aload_n 2, 1) := by decide +kernel
theorem dX5_fillProfiles_63 : decode cX5_fillProfiles 63 = .ok (.arraylength, 1) := by decide +kernel
theorem dX5_fillProfiles_64 : decode cX5_fillProfiles 64 = .ok (.if_icmp .ge 27, 3) := by decide +kernel
theorem dX5_fillProfiles_67 : decode cX5_fillProfiles 67 = .ok (.iload_n 3, 1) := by decide +kernel
theorem dX5_fillProfiles_68 : decode cX5_fillProfiles 68 = .ok (.iconst 1, 1) := by decide +kernel
theorem dX5_fillProfiles_69 : decode cX5_fillProfiles 69 = .ok (.iload 6, 2) := by decide +kernel
theorem dX5_fillProfiles_71 : decode cX5_fillProfiles 71 = .ok (.ishl, 1) := by decide +kernel
theorem dX5_fillProfiles_72 : decode cX5_fillProfiles 72 = .ok (.iand, 1) := by decide +kernel
theorem dX5_fillProfiles_73 : decode cX5_fillProfiles 73 = .ok (.ifCond .eq 12, 3) := by decide +kernel
theorem dX5_fillProfiles_76 : decode cX5_fillProfiles 76 = .ok (.aload_n 2, 1) := by decide +kernel
theorem dX5_fillProfiles_77 : decode cX5_fillProfiles 77 = .ok (.iload 6, 2) := by decide +kernel
theorem dX5_fillProfiles_79 : decode cX5_fillProfiles 79 = .ok (.dup2, 1) := by decide +kernel
theorem dX5_fillProfiles_80 : decode cX5_fillProfiles 80 = .ok (.iaload, 1) := by decide +kernel
theorem dX5_fillProfiles_81 : decode cX5_fillProfiles 81 = .ok (.iload 5, 2) := by decide +kernel
theorem dX5_fillProfiles_83 : decode cX5_fillProfiles 83 = .ok (.iadd, 1) := by decide +kernel
theorem dX5_fillProfiles_84 : decode cX5_fillProfiles 84 = .ok (.iastore, 1) := by decide +kernel
theorem dX5_fillProfiles_85 : decode cX5_fillProfiles 85 = .ok (.iinc 6 1, 3) := by decide +kernel
theorem dX5_fillProfiles_88 : decode cX5_fillProfiles 88 = .ok (.goto (-37), 3) := by decide +kernel
theorem dX5_fillProfiles_91 : decode cX5_fillProfiles 91 = .ok (.iinc 3 1, 3) := by decide +kernel
theorem dX5_fillProfiles_94 : decode cX5_fillProfiles 94 = .ok (.goto (-87), 3) := by decide +kernel
theorem dX5_fillProfiles_97 : decode cX5_fillProfiles 97 = .ok (.return_, 1) := by decide +kernel
theorem dX5_hasSameProfiles_0 : decode cX5_hasSameProfiles 0 = .ok (.iconst 0, 1) := by decide +kernel
theorem dX5_hasSameProfiles_1 : decode cX5_hasSameProfiles 1 = .ok (.istore_n 1, 1) := by decide +kernel
theorem dX5_hasSameProfiles_2 : decode cX5_hasSameProfiles 2 = .ok (.iload_n 1, 1) := by decide +kernel
theorem dX5_hasSameProfiles_3 : decode cX5_hasSameProfiles 3 = .ok (.aload_n 0, 1) := by decide +kernel
theorem dX5_hasSameProfiles_4 : decode cX5_hasSameProfiles 4 = .ok (.getfield 36, 3) := by decide +kernel
theorem dX5_hasSameProfiles_7 : decode cX5_hasSameProfiles 7 = .ok (.if_icmp .ge 97, 3) := by decide +kernel
theorem dX5_hasSameProfiles_10 : decode cX5_hasSameProfiles 10 = .ok (.iload_n 1, 1) := by decide +kernel
theorem dX5_hasSameProfiles_11 : decode cX5_hasSameProfiles 11 = .ok (.aload_n 0, 1) := by decide +kernel
theorem dX5_hasSameProfiles_12 : decode cX5_hasSameProfiles 12 = .ok (.getfield 24, 3) := by decide +kernel
theorem dX5_hasSameProfiles_15 : decode cX5_hasSameProfiles 15 = .ok (.arraylength, 1) := by decide +kernel
theorem dX5_hasSameProfiles_16 : decode cX5_hasSameProfiles 16 = .ok (.if_icmp .ge 88, 3) := by decide +kernel
theorem dX5_hasSameProfiles_19 : decode cX5_hasSameProfiles 19 = .ok (.iconst 0, 1) := by decide +kernel
theorem dX5_hasSameProfiles_20 : decode cX5_hasSameProfiles 20 = .ok (.istore_n 2, 1) := by decide +kernel
theorem dX5_hasSameProfiles_21 : decode cX5_hasSameProfiles 21 = .ok (.iconst 0, 1) := by decide +kernel
theorem dX5_hasSameProfiles_22 : decode cX5_hasSameProfiles 22 = .ok (.istore_n 3, 1) := by decide +kernel
theorem dX5_hasSameProfiles_23 : decode cX5_hasSameProfiles 23 = .ok (.iload_n 3, 1) := by decide +kernel
theorem dX5_hasSameProfiles_24 : decode cX5_hasSameProfiles 24 = .ok (.aload_n 0, 1) := by decide +kernel
theorem dX5_hasSameProfiles_25 : decode cX5_hasSameProfiles 25 = .ok (.getfield 36, 3) := by decide +kernel
theorem dX5_hasSameProfiles_28 : decode cX5_hasSameProfiles 28 = .ok (.if_icmp .ge 64, 3) := by decide +kernel
theorem dX5_hasSameProfiles_31 : decode cX5_hasSameProfiles 31 = .ok (.iload_n 3, 1) := by decide +kernel
theorem dX5_hasSameProfiles_32 : decode cX5_hasSameProfiles 32 = .ok (.aload_n 0, 1) := by decide +kernel
theorem dX5_hasSameProfiles_33 : decode cX5_hasSameProfiles 33 = .ok (.getfield 24, 3) := by decide +kernel
theorem dX5_hasSameProfiles_36 : decode cX5_hasSameProfiles 36 = .ok (.arraylength, 1) := by decide +kernel
theorem dX5_hasSameProfiles_37 : decode cX5_hasSameProfiles 37 = .ok (.if_icmp .ge 55, 3) := by decide +kernel
theorem dX5_hasSameProfiles_40 : decode cX5_hasSameProfiles 40 = .ok (.iload_n 2, 1) := by decide +kernel
theorem dX5_hasSameProfiles_41 : decode cX5_hasSameProfiles 41 = .ok (.aload_n 0, 1) := by decide +kernel
theorem dX5_hasSameProfiles_42 : decode cX5_hasSameProfiles 42 = .ok (.getfield 24, 3) := by decide +kernel
theorem dX5_hasSameProfiles_45 : decode cX5_hasSameProfiles 45 = .ok (.iload_n 3, 1) := by decide +kernel
theorem dX5_hasSameProfiles_46 : decode cX5_hasSameProfiles 46 = .ok (.iaload, 1) := by decide +kernel
theorem dX5_hasSameProfiles_47 : decode cX5_hasSameProfiles 47 = .ok (.aload_n 0, 1) := by decide +kernel
theorem dX5_hasSameProfiles_48 : decode cX5_hasSameProfiles 48 = .ok (.getfield 24, 3) := by decide +kernel
theorem dX5_hasSameProfiles_51 : decode cX5_hasSameProfiles 51 = .ok (.iload_n 1, 1) := by decide +kernel
theorem dX5_hasSameProfiles_52 : decode cX5_hasSameProfiles 52 = .ok (.iaload, 1) := by decide +kernel
theorem dX5_hasSameProfiles_53 : decode cX5_hasSameProfiles 53 = .ok (.if_icmp .ne 7, 3) := by decide +kernel
theorem dX5_hasSameProfiles_56 : decode cX5_hasSameProfiles 56 = .ok (.iconst 1, 1) := by decide +kernel
theorem dX5_hasSameProfiles_57 : decode cX5_hasSameProfiles 57 = .ok (.goto 4, 3) := by decide +kernel
theorem dX5_hasSameProfiles_60 : decode cX5_hasSameProfiles 60 = .ok (.iconst 0, 1) := by decide +kernel
theorem dX5_hasSameProfiles_61 : decode cX5_hasSameProfiles 61 = .ok (.iadd, 1) := by decide +kernel
theorem dX5_hasSameProfiles_62 : decode cX5_hasSameProfiles 62 = .ok (.istore_n 2, 1) := by decide +kernel
theorem dX5_hasSameProfiles_63 : decode cX5_hasSameProfiles 63 = .ok (.iload_n 2, 1) := by decide +kernel
theorem dX5_hasSameProfiles_64 : decode cX5_hasSameProfiles 64 = .ok (.aload_n 0, 1) := by decide +kernel
theorem dX5_hasSameProfiles_65 : decode cX5_hasSameProfiles 65 = .ok (.getfield 27, 3) := by decide +kernel
theorem dX5_hasSameProfiles_68 : decode cX5_hasSameProfiles 68 = .ok (.iload_n 3, 1) := by decide +kernel
theorem dX5_hasSameProfiles_69 : decode cX5_hasSameProfiles 69 = .ok (.iaload, 1) := by decide +kernel
theorem dX5_hasSameProfiles_70 : decode cX5_hasSameProfiles 70 = .ok (.aload_n 0, 1) := by decide +kernel
theorem dX5_hasSameProfiles_71 : decode cX5_hasSameProfiles 71 = .ok (.getfield 24, 3) := by decide +kernel
theorem dX5_hasSameProfiles_74 : decode cX5_hasSameProfiles 74 = .ok (.iload_n 1, 1) := by decide +kernel
theorem dX5_hasSameProfiles_75 : decode cX5_hasSameProfiles 75 = .ok (.iaload, 1) := by decide +kernel
theorem dX5_hasSameProfiles_76 : decode cX5_hasSameProfiles 76 = .ok (.if_icmp .ne 7, 3) := by decide +kernel
theorem dX5_hasSameProfiles_79 : decode cX5_hasSameProfiles 79 = .ok (.iconst 1, 1) := by decide +kernel
theorem dX5_hasSameProfiles_80 : decode cX5_hasSameProfiles 80 = .ok (.goto 4, 3) := by decide +kernel
theorem dX5_hasSameProfiles_83 : decode cX5_hasSameProfiles 83 = .ok (.iconst 0, 1) := by decide +kernel
theorem dX5_hasSameProfiles_84 : decode cX5_hasSameProfiles 84 = .ok (.isub, 1) := by decide +kernel
theorem dX5_hasSameProfiles_85 : decode cX5_hasSameProfiles 85 = .ok (.istore_n 2, 1) := by decide +kernel
theorem dX5_hasSameProfiles_86 : decode cX5_hasSameProfiles 86 = .ok (.iinc 3 1, 3) := by decide +kernel
theorem dX5_hasSameProfiles_89 : decode cX5_hasSameProfiles 89 = .ok (.goto (-66), 3) := by decide +kernel
theorem dX5_hasSameProfiles_92 : decode cX5_hasSameProfiles 92 = .ok (.iload_n 2, 1) := by decide +kernel
theorem dX5_hasSameProfiles_93 : decode cX5_hasSameProfiles 93 = .ok (.ifCond .eq 5, 3) := by decide +kernel
theorem dX5_hasSameProfiles_96 : decode cX5_hasSameProfiles 96 = .ok (.iconst 0, 1) := by decide +kernel
theorem dX5_hasSameProfiles_97 : decode cX5_hasSameProfiles 97 = .ok (.ireturn, 1) := by decide +kernel
theorem dX5_hasSameProfiles_98 : decode cX5_hasSameProfiles 98 = .ok (.iinc 1 1, 3) := by decide +kernel
theorem dX5_hasSameProfiles_101 : decode cX5_hasSameProfiles 101 = .ok (.goto (-99), 3) := by decide +kernel
theorem dX5_hasSameProfiles_104 : decode cX5_hasSameProfiles 104 = .ok (.iconst 1, 1) := by decide +kernel
theorem dX5_hasSameProfiles_105 : decode cX5_hasSameProfiles 105 = .ok (.ireturn, 1) := by decide +kernel
theorem dX5_fits_0 : decode cX5_fits 0 = .ok (.iload_n 1, 1) := by decide +kernel
theorem dX5_fits_1 : decode cX5_fits 1 = .ok (.aload_n 0, 1) := by decide +kernel
theorem dX5_fits_2 : decode cX5_fits 2 = .ok (.getfield 24, 3) := by decide +kernel
theorem dX5_fits_5 : decode cX5_fits 5 = .ok (.arraylength, 1) := by decide +kernel
theorem dX5_fits_6 : decode cX5_fits 6 = .ok (.if_icmp .ge 27, 3) := by decide +kernel
theorem dX5_fits_9 : decode cX5_fits 9 = .ok (.iload_n 2, 1) := by decide +kernel
theorem dX5_fits_10 : decode cX5_fits 10 = .ok (.aload_n 0, 1) := by decide +kernel
theorem dX5_fits_11 : decode cX5_fits 11 = .ok (.getfield 27, 3) := by decide +kernel
theorem dX5_fits_14 : decode cX5_fits 14 = .ok (.arraylength, 1) := by decide +kernel
theorem dX5_fits_15 : decode cX5_fits 15 = .ok (.if_icmp .ge 18, 3) := by decide +kernel
theorem dX5_fits_18 : decode cX5_fits 18 = .ok (.aload_n 0, 1) := by decide +kernel
theorem dX5_fits_19 : decode cX5_fits 19 = .ok (.getfield 24, 3) := by decide +kernel
theorem dX5_fits_22 : decode cX5_fits 22 = .ok (.iload_n 1, 1) := by decide +kernel
theorem dX5_fits_23 : decode cX5_fits 23 = .ok (.iaload, 1) := by decide +kernel
theorem dX5_fits_24 : decode cX5_fits 24 = .ok (.aload_n 0, 1) := by decide +kernel
theorem dX5_fits_25 : decode cX5_fits 25 = .ok (.getfield 27, 3) := by decide +kernel
theorem dX5_fits_28 : decode cX5_fits 28 = .ok (.iload_n 2, 1) := by decide +kernel
theorem dX5_fits_29 : decode cX5_fits 29 = .ok (.iaload, 1) := by decide +kernel
theorem dX5_fits_30 : decode cX5_fits 30 = .ok (.if_icmp .eq 5, 3) := by decide +kernel
theorem dX5_fits_33 : decode cX5_fits 33 = .ok (.iconst 0, 1) := by decide +kernel
theorem dX5_fits_34 : decode cX5_fits 34 = .ok (.ireturn, 1) := by decide +kernel
theorem dX5_fits_35 : decode cX5_fits 35 = .ok (.iconst 1, 1) := by decide +kernel
theorem dX5_fits_36 : decode cX5_fits 36 = .ok (.iload_n 1, 1) := by decide +kernel
theorem dX5_fits_37 : decode cX5_fits 37 = .ok (.ishl, 1) := by decide +kernel
theorem dX5_fits_38 : decode cX5_fits 38 = .ok (.istore_n 3, 1) := by decide +kernel
theorem dX5_fits_39 : decode cX5_fits 39 = .ok (.iconst 0, 1) := by decide +kernel
theorem dX5_fits_40 : decode cX5_fits 40 = .ok (.istore 4, 2) := by decide +kernel
theorem dX5_fits_42 : decode cX5_fits 42 = .ok (.iload 4, 2) := by decide +kernel
theorem dX5_fits_44 : decode cX5_fits 44 = .ok (.iload_n 3, 1) := by decide +kernel
theorem dX5_fits_45 : decode cX5_fits 45 = .ok (.if_icmp .ge 65, 3) := by decide +kernel
theorem dX5_fits_48 : decode cX5_fits 48 = .ok (.iload 4, 2) := by decide +kernel
theorem dX5_fits_50 : decode cX5_fits 50 = .ok (.iload_n 3, 1) := by decide +kernel
theorem dX5_fits_51 : decode cX5_fits 51 = .ok (.iadd, 1) := by decide +kernel
theorem dX5_fits_52 : decode cX5_fits 52 = .ok (.aload_n 0, 1) := by decide +kernel
theorem dX5_fits_53 : decode cX5_fits 53 = .ok (.getfield 15, 3) := by decide +kernel
theorem dX5_fits_56 : decode cX5_fits 56 = .ok (.arraylength, 1) := by decide +kernel
theorem dX5_fits_57 : decode cX5_fits 57 = .ok (.if_icmp .ge 53, 3) := by decide +kernel
theorem dX5_fits_60 : decode cX5_fits 60 = .ok (.aload_n 0, 1) := by decide +kernel
theorem dX5_fits_61 : decode cX5_fits 61 = .ok (.getfield 21, 3) := by decide +kernel
theorem dX5_fits_64 : decode cX5_fits 64 = .ok (.iload 4, 2) := by decide +kernel
theorem dX5_fits_66 : decode cX5_fits 66 = .ok (.iaload, 1) := by decide +kernel
theorem dX5_fits_67 : decode cX5_fits 67 = .ok (.iconst 1, 1) := by decide +kernel
theorem dX5_fits_68 : decode cX5_fits 68 = .ok (.iload_n 2, 1) := by decide +kernel
theorem dX5_fits_69 : decode cX5_fits 69 = .ok (.ishl, 1) := by decide +kernel
theorem dX5_fits_70 : decode cX5_fits 70 = .ok (.ior, 1) := by decide +kernel
theorem dX5_fits_71 : decode cX5_fits 71 = .ok (.istore 5, 2) := by decide +kernel
theorem dX5_fits_73 : decode cX5_fits 73 = .ok (.iload 5, 2) := by decide +kernel
theorem dX5_fits_75 : decode cX5_fits 75 = .ok (.aload_n 0, 1) := by decide +kernel
theorem dX5_fits_76 : decode cX5_fits 76 = .ok (.getfield 18, 3) := by decide +kernel
theorem dX5_fits_79 : decode cX5_fits 79 = .ok (.arraylength, 1) := by decide +kernel
theorem dX5_fits_80 : decode cX5_fits 80 = .ok (.if_icmp .ge 22, 3) := by decide +kernel
theorem dX5_fits_83 : decode cX5_fits 83 = .ok (.aload_n 0, 1) := by decide +kernel
theorem dX5_fits_84 : decode cX5_fits 84 = .ok (.getfield 15, 3) := by decide +kernel
theorem dX5_fits_87 : decode cX5_fits 87 = .ok (.iload 4, 2) := by decide +kernel
theorem dX5_fits_89 : decode cX5_fits 89 = .ok (.iload_n 3, 1) := by decide +kernel
theorem dX5_fits_90 : decode cX5_fits 90 = .ok (.iadd, 1) := by decide +kernel
theorem dX5_fits_91 : decode cX5_fits 91 = .ok (.iaload, 1) := by decide +kernel
theorem dX5_fits_92 : decode cX5_fits 92 = .ok (.aload_n 0, 1) := by decide +kernel
theorem dX5_fits_93 : decode cX5_fits 93 = .ok (.getfield 18, 3) := by decide +kernel
theorem dX5_fits_96 : decode cX5_fits 96 = .ok (.iload 5, 2) := by decide +kernel
theorem dX5_fits_98 : decode cX5_fits 98 = .ok (.iaload, 1) := by decide +kernel
theorem dX5_fits_99 : decode cX5_fits 99 = .ok (.if_icmp .eq 5, 3) := by decide +kernel
theorem dX5_fits_102 : decode cX5_fits 102 = .ok (.iconst 0, 1) := by decide +kernel
theorem dX5_fits_103 : decode cX5_fits 103 = .ok (.ireturn, 1) := by decide +kernel
theorem dX5_fits_104 : decode cX5_fits 104 = .ok (.iinc 4 1, 3) := by decide +kernel
theorem dX5_fits_107 : decode cX5_fits 107 = .ok (.goto (-65), 3) := by decide +kernel
theorem dX5_fits_110 : decode cX5_fits 110 = .ok (.iconst 1, 1) := by decide +kernel
theorem dX5_fits_111 : decode cX5_fits 111 = .ok (.ireturn, 1) := by decide +kernel
theorem dX5_putImage_0 : decode cX5_putImage 0 = .ok (.iconst 1, 1) := by decide +kernel
theorem dX5_putImage_1 : decode cX5_putImage 1 = .ok (.iload_n 1, 1) := by decide +kernel
theorem dX5_putImage_2 : decode cX5_putImage 2 = .ok (.ishl, 1) := by decide +kernel
theorem dX5_putImage_3 : decode cX5_putImage 3 = .ok (.istore_n 3, 1) := by decide +kernel
theorem dX5_putImage_4 : decode cX5_putImage 4 = .ok (.iconst 0, 1) := by decide +kernel
theorem dX5_putImage_5 : decode cX5_putImage 5 = .ok (.istore 4, 2) := by decide +kernel
theorem dX5_putImage_7 : decode cX5_putImage 7 = .ok (.iload 4, 2) := by decide +kernel
theorem dX5_putImage_9 : decode cX5_putImage 9 = .ok (.iload_n 3, 1) := by decide +kernel
theorem dX5_putImage_10 : decode cX5_putImage 10 = .ok (.if_icmp .ge 41, 3) := by decide +kernel
theorem dX5_putImage_13 : decode cX5_putImage 13 = .ok (.iload 4, 2) := by decide +kernel
theorem dX5_putImage_15 : decode cX5_putImage 15 = .ok (.iload_n 3, 1) := by decide +kernel
theorem dX5_putImage_16 : decode cX5_putImage 16 = .ok (.iadd, 1) := by decide +kernel
theorem dX5_putImage_17 : decode cX5_putImage 17 = .ok (.aload_n 0, 1) := by decide +kernel
theorem dX5_putImage_18 : decode cX5_putImage 18 = .ok (.getfield 21, 3) := by decide +kernel
theorem dX5_putImage_21 : decode cX5_putImage 21 = .ok (.arraylength, 1) := by decide +kernel
theorem dX5_putImage_22 : decode cX5_putImage 22 = .ok (.if_icmp .ge 29, 3) := by decide +kernel
theorem dX5_putImage_25 : decode cX5_putImage 25 = .ok (.aload_n 0, 1) := by decide +kernel
theorem dX5_putImage_26 : decode cX5_putImage 26 = .ok (.getfield 21, 3) := by decide +kernel
theorem dX5_putImage_29 : decode cX5_putImage 29 = .ok (.iload 4, 2) := by decide +kernel
theorem dX5_putImage_31 : decode cX5_putImage 31 = .ok (.iload_n 3, 1) := by decide +kernel
theorem dX5_putImage_32 : decode cX5_putImage 32 = .ok (.iadd, 1) := by decide +kernel
theorem dX5_putImage_33 : decode cX5_putImage 33 = .ok (.aload_n 0, 1) := by decide +kernel
theorem dX5_putImage_34 : decode cX5_putImage 34 = .ok (.getfield 21, 3) := by decide +kernel
theorem dX5_putImage_37 : decode cX5_putImage 37 = .ok (.iload 4, 2) := by decide +kernel
theorem dX5_putImage_39 : decode cX5_putImage 39 = .ok (.iaload, 1) := by decide +kernel
theorem dX5_putImage_40 : decode cX5_putImage 40 = .ok (.iconst 1, 1) := by decide +kernel
theorem dX5_putImage_41 : decode cX5_putImage 41 = .ok (.iload_n 2, 1) := by decide +kernel
theorem dX5_putImage_42 : decode cX5_putImage 42 = .ok (.ishl, 1) := by decide +kernel
theorem dX5_putImage_43 : decode cX5_putImage 43 = .ok (.ior, 1) := by decide +kernel
theorem dX5_putImage_44 : decode cX5_putImage 44 = .ok (.iastore, 1) := by decide +kernel
theorem dX5_putImage_45 : decode cX5_putImage 45 = .ok (.iinc 4 1, 3) := by decide +kernel
theorem dX5_putImage_48 : decode cX5_putImage 48 = .ok (.goto (-41), 3) := by decide +kernel
theorem dX5_putImage_51 : decode cX5_putImage 51 = .ok (.return_, 1) := by decide +kernel
theorem dX5_place_0 : decode cX5_place 0 = .ok (.iload_n 1, 1) := by decide +kernel
theorem dX5_place_1 : decode cX5_place 1 = .ok (.aload_n 0, 1) := by decide +kernel
theorem dX5_place_2 : decode cX5_place 2 = .ok (.getfield 36, 3) := by decide +kernel
theorem dX5_place_5 : decode cX5_place 5 = .ok (.if_icmp .ge 9, 3) := by decide +kernel
theorem dX5_place_8 : decode cX5_place 8 = .ok (.iload_n 1, 1) := by decide +kernel
theorem dX5_place_9 : decode cX5_place 9 = .ok (.bipush 10, 2) := by decide +kernel
theorem dX5_place_11 : decode cX5_place 11 = .ok (.if_icmp .lt 5, 3) := by decide +kernel
theorem dX5_place_14 : decode cX5_place 14 = .ok (.iconst 1, 1) := by decide +kernel
theorem dX5_place_15 : decode cX5_place 15 = .ok (.ireturn, 1) := by decide +kernel
theorem dX5_place_16 : decode cX5_place 16 = .ok (.iconst 0, 1) := by decide +kernel
theorem dX5_place_17 : decode cX5_place 17 = .ok (.istore_n 3, 1) := by decide +kernel
theorem dX5_place_18 : decode cX5_place 18 = .ok (.iload_n 3, 1) := by decide +kernel
theorem dX5_place_19 : decode cX5_place 19 = .ok (.aload_n 0, 1) := by decide +kernel
theorem dX5_place_20 : decode cX5_place 20 = .ok (.getfield 36, 3) := by decide +kernel
theorem dX5_place_23 : decode cX5_place 23 = .ok (.if_icmp .ge 49, 3) := by decide +kernel
theorem dX5_place_26 : decode cX5_place 26 = .ok (.iload_n 2, 1) := by decide +kernel
theorem dX5_place_27 : decode cX5_place 27 = .ok (.iconst 1, 1) := by decide +kernel
theorem dX5_place_28 : decode cX5_place 28 = .ok (.iload_n 3, 1) := by decide +kernel
theorem dX5_place_29 : decode cX5_place 29 = .ok (.ishl, 1) := by decide +kernel
theorem dX5_place_30 : decode cX5_place 30 = .ok (.iand, 1) := by decide +kernel
theorem dX5_place_31 : decode cX5_place 31 = .ok (.ifCond .ne 35, 3) := by decide +kernel
theorem dX5_place_34 : decode cX5_place 34 = .ok (.aload_n 0, 1) := by decide +kernel
theorem dX5_place_35 : decode cX5_place 35 = .ok (.iload_n 1, 1) := by decide +kernel
theorem dX5_place_36 : decode cX5_place 36 = .ok (.iload_n 3, 1) := by decide +kernel
theorem dX5_place_37 : decode cX5_place 37 = .ok (.invokevirtual 104, 3) := by decide +kernel
theorem dX5_place_40 : decode cX5_place 40 = .ok (.ifCond .eq 26, 3) := by decide +kernel
theorem dX5_place_43 : decode cX5_place 43 = .ok (.aload_n 0, 1) := by decide +kernel
theorem dX5_place_44 : decode cX5_place 44 = .ok (.iload_n 1, 1) := by decide +kernel
theorem dX5_place_45 : decode cX5_place 45 = .ok (.iload_n 3, 1) := by decide +kernel
theorem dX5_place_46 : decode cX5_place 46 = .ok (.invokevirtual 100, 3) := by decide +kernel
theorem dX5_place_49 : decode cX5_place 49 = .ok (.aload_n 0, 1) := by decide +kernel
theorem dX5_place_50 : decode cX5_place 50 = .ok (.iload_n 1, 1) := by decide +kernel
theorem dX5_place_51 : decode cX5_place 51 = .ok (.iconst 1, 1) := by decide +kernel
theorem dX5_place_52 : decode cX5_place 52 = .ok (.iadd, 1) := by decide +kernel
theorem dX5_place_53 : decode cX5_place 53 = .ok (.iload_n 2, 1) := by decide +kernel
theorem dX5_place_54 : decode cX5_place 54 = .ok (.iconst 1, 1) := by decide +kernel
theorem dX5_place_55 : decode cX5_place 55 = .ok (.iload_n 3, 1) := by decide +kernel
theorem dX5_place_56 : decode cX5_place 56 = .ok (.ishl, 1) := by decide +kernel
theorem dX5_place_57 : decode cX5_place 57 = .ok (.ior, 1) := by decide +kernel
theorem dX5_place_58 : decode cX5_place 58 = .ok (.invokestatic 73, 3) := by decide +kernel
theorem dX5_place_61 : decode cX5_place 61 = .ok (.ifCond .eq 5, 3) := by decide +kernel
theorem dX5_place_64 : decode cX5_place 64 = .ok (.iconst 1, 1) := by decide +kernel
theorem dX5_place_65 : decode cX5_place 65 = .ok (.ireturn, 1) := by decide +kernel
theorem dX5_place_66 : decode cX5_place 66 = .ok (.iinc 3 1, 3) := by decide +kernel
theorem dX5_place_69 : decode cX5_place 69 = .ok (.goto (-51), 3) := by decide +kernel
theorem dX5_place_72 : decode cX5_place 72 = .ok (.iconst 0, 1) := by decide +kernel
theorem dX5_place_73 : decode cX5_place 73 = .ok (.ireturn, 1) := by decide +kernel
theorem dX6_init_0 : decode cX6_init 0 = .ok (.aload_n 0, 1) := by decide +kernel
theorem dX6_init_1 : decode cX6_init 1 = .ok (.invokespecial 3, 3) := by decide +kernel
theorem dX6_init_4 : decode cX6_init 4 = .ok (.aload_n 0, 1) := by decide +kernel
theorem dX6_init_5 : decode cX6_init 5 = .ok (.aload_n 1, 1) := by decide +kernel
theorem dX6_init_6 : decode cX6_init 6 = .ok (.putfield 9, 3) := by decide +kernel
theorem dX6_init_9 : decode cX6_init 9 = .ok (.aload_n 0, 1) := by decide +kernel
theorem dX6_init_10 : decode cX6_init 10 = .ok (.aload_n 1, 1) := by decide +kernel
theorem dX6_init_11 : decode cX6_init 11 = .ok (.arraylength, 1) := by decide +kernel
theorem dX6_init_12 : decode cX6_init 12 = .ok (.iconst 1, 1) := by decide +kernel
theorem dX6_init_13 : decode cX6_init 13 = .ok (.isub, 1) := by decide +kernel
theorem dX6_init_14 : decode cX6_init 14 = .ok (.putfield 15, 3) := by decide +kernel
theorem dX6_init_17 : decode cX6_init 17 = .ok (.aload_n 0, 1) := by decide +kernel
theorem dX6_init_18 : decode cX6_init 18 = .ok (.aload_n 0, 1) := by decide +kernel
theorem dX6_init_19 : decode cX6_init 19 = .ok (.getfield 15, 3) := by decide +kernel
theorem dX6_init_22 : decode cX6_init 22 = .ok (.invokestatic 19, 3) := by decide +kernel
theorem dX6_init_25 : decode cX6_init 25 = .ok (.putfield 25, 3) := by decide +kernel
theorem dX6_init_28 : decode cX6_init 28 = .ok (.aload_n 0, 1) := by decide +kernel
theorem dX6_init_29 : decode cX6_init 29 = .ok (.aload_n 1, 1) := by decide +kernel
theorem dX6_init_30 : decode cX6_init 30 = .ok (.aload_n 0, 1) := by decide +kernel
theorem dX6_init_31 : decode cX6_init 31 = .ok (.getfield 15, 3) := by decide +kernel
theorem dX6_init_34 : decode cX6_init 34 = .ok (.invokestatic 28, 3) := by decide +kernel
theorem dX6_init_37 : decode cX6_init 37 = .ok (.putfield 34, 3) := by decide +kernel
theorem dX6_init_40 : decode cX6_init 40 = .ok (.aload_n 0, 1) := by decide +kernel
theorem dX6_init_41 : decode cX6_init 41 = .ok (.aload_n 1, 1) := by decide +kernel
theorem dX6_init_42 : decode cX6_init 42 = .ok (.invokestatic 37, 3) := by decide +kernel
theorem dX6_init_45 : decode cX6_init 45 = .ok (.putfield 41, 3) := by decide +kernel
theorem dX6_init_48 : decode cX6_init 48 = .ok (.aload_n 0, 1) := by decide +kernel
theorem dX6_init_49 : decode cX6_init 49 = .ok (.aload_n 1, 1) := by decide +kernel
theorem dX6_init_50 : decode cX6_init 50 = .ok (.invokestatic 44, 3) := by decide +kernel
theorem dX6_init_53 : decode cX6_init 53 = .ok (.putfield 50, 3) := by decide +kernel
theorem dX6_init_56 : decode cX6_init 56 = .ok (.return_, 1) := by decide +kernel
theorem dX6_rankOf_0 : decode cX6_rankOf 0 = .ok (.aload_n 0, 1) := by decide +kernel
theorem dX6_rankOf_1 : decode cX6_rankOf 1 = .ok (.getfield 9, 3) := by decide +kernel
theorem dX6_rankOf_4 : decode cX6_rankOf 4 = .ok (.iload_n 1, 1) := by decide +kernel
theorem dX6_rankOf_5 : decode cX6_rankOf 5 = .ok (.invokestatic 28, 3) := by decide +kernel
theorem dX6_rankOf_8 : decode cX6_rankOf 8 = .ok (.ireturn, 1) := by decide +kernel
theorem dX6_isSort_0 : decode cX6_isSort 0 = .ok (.iload_n 1, 1) := by decide +kernel
theorem dX6_isSort_1 : decode cX6_isSort 1 = .ok (.ifCond .lt 27, 3) := by decide +kernel
theorem dX6_isSort_4 : decode cX6_isSort 4 = .ok (.iload_n 1, 1) := by decide +kernel
theorem dX6_isSort_5 : decode cX6_isSort 5 = .ok (.aload_n 0, 1) := by decide +kernel
theorem dX6_isSort_6 : decode cX6_isSort 6 = .ok (.getfield 41, 3) := by decide +kernel
theorem dX6_isSort_9 : decode cX6_isSort 9 = .ok (.arraylength, 1) := by decide +kernel
theorem dX6_isSort_10 : decode cX6_isSort 10 = .ok (.if_icmp .ge 18, 3) := by decide +kernel
theorem dX6_isSort_13 : decode cX6_isSort 13 = .ok (.aload_n 0, 1) := by decide +kernel
theorem dX6_isSort_14 : decode cX6_isSort 14 = .ok (.getfield 41, 3) := by decide +kernel
theorem dX6_isSort_17 : decode cX6_isSort 17 = .ok (.iload_n 1, 1) := by decide +kernel
theorem dX6_isSort_18 : decode cX6_isSort 18 = .ok (.baload, 1) := by decide +kernel
theorem dX6_isSort_19 : decode cX6_isSort 19 = .ok (.iload_n 2, 1) := by decide +kernel
theorem dX6_isSort_20 : decode cX6_isSort 20 = .ok (.iand, 1) := by decide +kernel
theorem dX6_isSort_21 : decode cX6_isSort 21 = .ok (.ifCond .eq 7, 3) := by decide +kernel
theorem dX6_isSort_24 : decode cX6_isSort 24 = .ok (.iconst 1, 1) := by decide +kernel
theorem dX6_isSort_25 : decode cX6_isSort 25 = .ok (.goto 4, 3) := by decide +kernel
theorem dX6_isSort_28 : decode cX6_isSort 28 = .ok (.iconst 0, 1) := by decide +kernel
theorem dX6_isSort_29 : decode cX6_isSort 29 = .ok (.ireturn, 1) := by decide +kernel
theorem dX6_countOf_0 : decode cX6_countOf 0 = .ok (.iconst 0, 1) := by decide +kernel
theorem dX6_countOf_1 : decode cX6_countOf 1 = .ok (.istore_n 2, 1) := by decide +kernel
theorem dX6_countOf_2 : decode cX6_countOf 2 = .ok (.iconst 0, 1) := by decide +kernel
theorem dX6_countOf_3 : decode cX6_countOf 3 = .ok (.istore_n 3, 1) := by decide +kernel
theorem dX6_countOf_4 : decode cX6_countOf 4 = .ok (.iload_n 3, 1) := by decide +kernel
theorem dX6_countOf_5 : decode cX6_countOf 5 = .ok (.aload_n 0, 1) := by decide +kernel
theorem dX6_countOf_6 : decode cX6_countOf 6 = .ok (.getfield 41, 3) := by decide +kernel
theorem dX6_countOf_9 : decode cX6_countOf 9 = .ok (.arraylength, 1) := by decide +kernel
theorem dX6_countOf_10 : decode cX6_countOf 10 = .ok (.if_icmp .ge 23, 3) := by decide +kernel
theorem dX6_countOf_13 : decode cX6_countOf 13 = .ok (.aload_n 0, 1) := by decide +kernel
theorem dX6_countOf_14 : decode cX6_countOf 14 = .ok (.getfield 41, 3) := by decide +kernel
theorem dX6_countOf_17 : decode cX6_countOf 17 = .ok (.iload_n 3, 1) := by decide +kernel
theorem dX6_countOf_18 : decode cX6_countOf 18 = .ok (.baload, 1) := by decide +kernel
theorem dX6_countOf_19 : decode cX6_countOf 19 = .ok (.iload_n 1, 1) := by decide +kernel
theorem dX6_countOf_20 : decode cX6_countOf 20 = .ok (.iand, 1) := by decide +kernel
theorem dX6_countOf_21 : decode cX6_countOf 21 = .ok (.ifCond .eq 6, 3) := by decide +kernel
theorem dX6_countOf_24 : decode cX6_countOf 24 = .ok (.iinc 2 1, 3) := by decide +kernel
theorem dX6_countOf_27 : decode cX6_countOf 27 = .ok (.iinc 3 1, 3) := by decide +kernel
theorem dX6_countOf_30 : decode cX6_countOf 30 = .ok (.goto (-26), 3) := by decide +kernel
theorem dX6_countOf_33 : decode cX6_countOf 33 = .ok (.iload_n 2, 1) := by decide +kernel
theorem dX6_countOf_34 : decode cX6_countOf 34 = .ok (.ireturn, 1) := by decide +kernel
theorem dX6_setOf_0 : decode cX6_setOf 0 = .ok (.iload_n 2, 1) := by decide +kernel
theorem dX6_setOf_1 : decode cX6_setOf 1 = .ok (.istore_n 3, 1) := by decide +kernel
theorem dX6_setOf_2 : decode cX6_setOf 2 = .ok (.iconst 0, 1) := by decide +kernel
theorem dX6_setOf_3 : decode cX6_setOf 3 = .ok (.istore 4, 2) := by decide +kernel
theorem dX6_setOf_5 : decode cX6_setOf 5 = .ok (.iload 4, 2) := by decide +kernel
theorem dX6_setOf_7 : decode cX6_setOf 7 = .ok (.aload_n 0, 1) := by decide +kernel
theorem dX6_setOf_8 : decode cX6_setOf 8 = .ok (.getfield 41, 3) := by decide +kernel
theorem dX6_setOf_11 : decode cX6_setOf 11 = .ok (.arraylength, 1) := by decide +kernel
theorem dX6_setOf_12 : decode cX6_setOf 12 = .ok (.if_icmp .ge 31, 3) := by decide +kernel
theorem dX6_setOf_15 : decode cX6_setOf 15 = .ok (.aload_n 0, 1) := by decide +kernel
theorem dX6_setOf_16 : decode cX6_setOf 16 = .ok (.getfield 41, 3) := by decide +kernel
theorem dX6_setOf_19 : decode cX6_setOf 19 = .ok (.iload 4, 2) := by decide +kernel
theorem dX6_setOf_21 : decode cX6_setOf 21 = .ok (.baload, 1) := by decide +kernel
theorem dX6_setOf_22 : decode cX6_setOf 22 = .ok (.iload_n 1, 1) := by decide +kernel
theorem dX6_setOf_23 : decode cX6_setOf 23 = .ok (.iand, 1) := by decide +kernel
theorem dX6_setOf_24 : decode cX6_setOf 24 = .ok (.ifCond .eq 13, 3) := by decide +kernel
theorem dX6_setOf_27 : decode cX6_setOf 27 = .ok (.iload_n 3, 1) := by decide +kernel
theorem dX6_setOf_28 : decode cX6_setOf 28 = .ok (.ifCond .ne 6, 3) := by decide +kernel
theorem dX6_setOf_31 : decode cX6_setOf 31 = .ok (.iload 4, 2) := by decide +kernel
theorem dX6_setOf_33 : decode cX6_setOf 33 = .ok (.ireturn, 1) := by decide +kernel
theorem dX6_setOf_34 : decode cX6_setOf 34 = .ok (.iinc 3 (-1), 3) := by decide +kernel
theorem dX6_setOf_37 : decode cX6_setOf 37 = .ok (.iinc 4 1, 3) := by decide +kernel
theorem dX6_setOf_40 : decode cX6_setOf 40 = .ok (.goto (-35), 3) := by decide +kernel
theorem dX6_setOf_43 : decode cX6_setOf 43 = .ok (.iconst (-1), 1) := by decide +kernel
theorem dX6_setOf_44 : decode cX6_setOf 44 = .ok (.ireturn, 1) := by decide +kernel
theorem dX6_closureOf_0 : decode cX6_closureOf 0 = .ok (.iload_n 1, 1) := by decide +kernel
theorem dX6_closureOf_1 : decode cX6_closureOf 1 = .ok (.istore_n 2, 1) := by decide +kernel
theorem dX6_closureOf_2 : decode cX6_closureOf 2 = .ok (.iconst 0, 1) := by decide +kernel
theorem dX6_closureOf_3 : decode cX6_closureOf 3 = .ok (.istore_n 3, 1) := by decide +kernel
theorem dX6_closureOf_4 : decode cX6_closureOf 4 = .ok (.iload_n 3, 1) := by decide +kernel
theorem dX6_closureOf_5 : decode cX6_closureOf 5 = .ok (.aload_n 0, 1) := by decide +kernel
theorem dX6_closureOf_6 : decode cX6_closureOf 6 = .ok (.getfield 25, 3) := by decide +kernel
theorem dX6_closureOf_9 : decode cX6_closureOf 9 = .ok (.if_icmp .ge 32, 3) := by decide +kernel
theorem dX6_closureOf_12 : decode cX6_closureOf 12 = .ok (.aload_n 0, 1) := by decide +kernel
theorem dX6_closureOf_13 : decode cX6_closureOf 13 = .ok (.iload_n 1, 1) := by decide +kernel
theorem dX6_closureOf_14 : decode cX6_closureOf 14 = .ok (.iconst 1, 1) := by decide +kernel
theorem dX6_closureOf_15 : decode cX6_closureOf 15 = .ok (.iload_n 3, 1) := by decide +kernel
theorem dX6_closureOf_16 : decode cX6_closureOf 16 = .ok (.ishl, 1) := by decide +kernel
theorem dX6_closureOf_17 : decode cX6_closureOf 17 = .ok (.ior, 1) := by decide +kernel
theorem dX6_closureOf_18 : decode cX6_closureOf 18 = .ok (.invokevirtual 54, 3) := by decide +kernel
theorem dX6_closureOf_21 : decode cX6_closureOf 21 = .ok (.aload_n 0, 1) := by decide +kernel
theorem dX6_closureOf_22 : decode cX6_closureOf 22 = .ok (.iload_n 1, 1) := by decide +kernel
theorem dX6_closureOf_23 : decode cX6_closureOf 23 = .ok (.invokevirtual 54, 3) := by decide +kernel
theorem dX6_closureOf_26 : decode cX6_closureOf 26 = .ok (.if_icmp .ne 9, 3) := by decide +kernel
theorem dX6_closureOf_29 : decode cX6_closureOf 29 = .ok (.iload_n 2, 1) := by decide +kernel
theorem dX6_closureOf_30 : decode cX6_closureOf 30 = .ok (.iconst 1, 1) := by decide +kernel
theorem dX6_closureOf_31 : decode cX6_closureOf 31 = .ok (.iload_n 3, 1) := by decide +kernel
theorem dX6_closureOf_32 : decode cX6_closureOf 32 = .ok (.ishl, 1) := by decide +kernel
theorem dX6_closureOf_33 : decode cX6_closureOf 33 = .ok (.ior, 1) := by decide +kernel
theorem dX6_closureOf_34 : decode cX6_closureOf 34 = .ok (.istore_n 2, 1) := by decide +kernel
theorem dX6_closureOf_35 : decode cX6_closureOf 35 = .ok (.iinc 3 1, 3) := by decide +kernel
theorem dX6_closureOf_38 : decode cX6_closureOf 38 = .ok (.goto (-34), 3) := by decide +kernel
theorem dX6_closureOf_41 : decode cX6_closureOf 41 = .ok (.iload_n 2, 1) := by decide +kernel
theorem dX6_closureOf_42 : decode cX6_closureOf 42 = .ok (.ireturn, 1) := by decide +kernel
theorem dX6_circuitIn_0 : decode cX6_circuitIn 0 = .ok (.iconst 1, 1) := by decide +kernel
theorem dX6_circuitIn_1 : decode cX6_circuitIn 1 = .ok (.iload_n 2, 1) := by decide +kernel
theorem dX6_circuitIn_2 : decode cX6_circuitIn 2 = .ok (.ishl, 1) := by decide +kernel
theorem dX6_circuitIn_3 : decode cX6_circuitIn 3 = .ok (.istore_n 3, 1) := by decide +kernel
theorem dX6_circuitIn_4 : decode cX6_circuitIn 4 = .ok (.iconst 0, 1) := by decide +kernel
theorem dX6_circuitIn_5 : decode cX6_circuitIn 5 = .ok (.istore 4, 2) := by decide +kernel
theorem dX6_circuitIn_7 : decode cX6_circuitIn 7 = .ok (.iload 4, 2) := by decide +kernel
theorem dX6_circuitIn_9 : decode cX6_circuitIn 9 = .ok (.aload_n 0, 1) := by decide +kernel
theorem dX6_circuitIn_10 : decode cX6_circuitIn 10 = .ok (.getfield 25, 3) := by decide +kernel
theorem dX6_circuitIn_13 : decode cX6_circuitIn 13 = .ok (.if_icmp .ge 46, 3) := by decide +kernel
theorem dX6_circuitIn_16 : decode cX6_circuitIn 16 = .ok (.iload_n 1, 1) := by decide +kernel
theorem dX6_circuitIn_17 : decode cX6_circuitIn 17 = .ok (.iconst 1, 1) := by decide +kernel
theorem dX6_circuitIn_18 : decode cX6_circuitIn 18 = .ok (.iload 4, 2) := by decide +kernel
theorem dX6_circuitIn_20 : decode cX6_circuitIn 20 = .ok (.ishl, 1) := by decide +kernel
theorem dX6_circuitIn_21 : decode cX6_circuitIn 21 = .ok (.iconst (-1), 1) := by decide +kernel
theorem dX6_circuitIn_22 : decode cX6_circuitIn 22 = .ok (.ixor, 1) := by decide +kernel
theorem dX6_circuitIn_23 : decode cX6_circuitIn 23 = .ok (.iand, 1) := by decide +kernel
theorem dX6_circuitIn_24 : decode cX6_circuitIn 24 = .ok (.istore 5, 2) := by decide +kernel
theorem dX6_circuitIn_26 : decode cX6_circuitIn 26 = .ok (.iload 5, 2) := by decide +kernel
theorem dX6_circuitIn_28 : decode cX6_circuitIn 28 = .ok (.iload_n 1, 1) := by decide +kernel
theorem dX6_circuitIn_29 : decode cX6_circuitIn 29 = .ok (.if_icmp .eq 24, 3) := by decide +kernel
theorem dX6_circuitIn_32 : decode cX6_circuitIn 32 = .ok (.aload_n 0, 1) := by decide +kernel
theorem dX6_circuitIn_33 : decode cX6_circuitIn 33 = .ok (.iload 5, 2) := by decide +kernel
theorem dX6_circuitIn_35 : decode cX6_circuitIn 35 = .ok (.iconst 1, 1) := by decide +kernel
theorem dX6_circuitIn_36 : decode cX6_circuitIn 36 = .ok (.iload_n 2, 1) := by decide +kernel
theorem dX6_circuitIn_37 : decode cX6_circuitIn 37 = .ok (.ishl, 1) := by decide +kernel
theorem dX6_circuitIn_38 : decode cX6_circuitIn 38 = .ok (.ior, 1) := by decide +kernel
theorem dX6_circuitIn_39 : decode cX6_circuitIn 39 = .ok (.iconst 2, 1) := by decide +kernel
theorem dX6_circuitIn_40 : decode cX6_circuitIn 40 = .ok (.invokevirtual 57, 3) := by decide +kernel
theorem dX6_circuitIn_43 : decode cX6_circuitIn 43 = .ok (.ifCond .eq 10, 3) := by decide +kernel
theorem dX6_circuitIn_46 : decode cX6_circuitIn 46 = .ok (.iload_n 3, 1) := by decide +kernel
theorem dX6_circuitIn_47 : decode cX6_circuitIn 47 = .ok (.iconst 1, 1) := by decide +kernel
theorem dX6_circuitIn_48 : decode cX6_circuitIn 48 = .ok (.iload 4, 2) := by decide +kernel
theorem dX6_circuitIn_50 : decode cX6_circuitIn 50 = .ok (.ishl, 1) := by decide +kernel
theorem dX6_circuitIn_51 : decode cX6_circuitIn 51 = .ok (.ior, 1) := by decide +kernel
theorem dX6_circuitIn_52 : decode cX6_circuitIn 52 = .ok (.istore_n 3, 1) := by decide +kernel
theorem dX6_circuitIn_53 : decode cX6_circuitIn 53 = .ok (.iinc 4 1, 3) := by decide +kernel
theorem dX6_circuitIn_56 : decode cX6_circuitIn 56 = .ok (.goto (-49), 3) := by decide +kernel
theorem dX6_circuitIn_59 : decode cX6_circuitIn 59 = .ok (.iload_n 3, 1) := by decide +kernel
theorem dX6_circuitIn_60 : decode cX6_circuitIn 60 = .ok (.ireturn, 1) := by decide +kernel
theorem dX6_lowestWith_0 : decode cX6_lowestWith 0 = .ok (.iconst 1, 1) := by decide +kernel
theorem dX6_lowestWith_1 : decode cX6_lowestWith 1 = .ok (.iload_n 1, 1) := by decide +kernel
theorem dX6_lowestWith_2 : decode cX6_lowestWith 2 = .ok (.ishl, 1) := by decide +kernel
theorem dX6_lowestWith_3 : decode cX6_lowestWith 3 = .ok (.istore_n 2, 1) := by decide +kernel
theorem dX6_lowestWith_4 : decode cX6_lowestWith 4 = .ok (.iconst 0, 1) := by decide +kernel
theorem dX6_lowestWith_5 : decode cX6_lowestWith 5 = .ok (.istore_n 3, 1) := by decide +kernel
theorem dX6_lowestWith_6 : decode cX6_lowestWith 6 = .ok (.iload_n 3, 1) := by decide +kernel
theorem dX6_lowestWith_7 : decode cX6_lowestWith 7 = .ok (.aload_n 0, 1) := by decide +kernel
theorem dX6_lowestWith_8 : decode cX6_lowestWith 8 = .ok (.getfield 15, 3) := by decide +kernel
theorem dX6_lowestWith_11 : decode cX6_lowestWith 11 = .ok (.if_icmp .gt 30, 3) := by decide +kernel
theorem dX6_lowestWith_14 : decode cX6_lowestWith 14 = .ok (.iload_n 3, 1) := by decide +kernel
theorem dX6_lowestWith_15 : decode cX6_lowestWith 15 = .ok (.iconst 1, 1) := by decide +kernel
theorem dX6_lowestWith_16 : decode cX6_lowestWith 16 = .ok (.iload_n 1, 1) := by decide +kernel
theorem dX6_lowestWith_17 : decode cX6_lowestWith 17 = .ok (.ishl, 1) := by decide +kernel
theorem dX6_lowestWith_18 : decode cX6_lowestWith 18 = .ok (.iand, 1) := by decide +kernel
theorem dX6_lowestWith_19 : decode cX6_lowestWith 19 = .ok (.ifCond .eq 16, 3) := by decide +kernel
theorem dX6_lowestWith_22 : decode cX6_lowestWith 22 = .ok (.aload_n 0, 1) := by decide +kernel
theorem dX6_lowestWith_23 : decode cX6_lowestWith 23 = .ok (.iload_n 3, 1) := by decide +kernel
theorem dX6_lowestWith_24 : decode cX6_lowestWith 24 = .ok (.iconst 4, 1) := by decide +kernel
theorem dX6_lowestWith_25 : decode cX6_lowestWith 25 = .ok (.invokevirtual 57, 3) := by decide +kernel
theorem dX6_lowestWith_28 : decode cX6_lowestWith 28 = .ok (.ifCond .eq 7, 3) := by decide +kernel
theorem dX6_lowestWith_31 : decode cX6_lowestWith 31 = .ok (.iload_n 2, 1) := by decide +kernel
theorem dX6_lowestWith_32 : decode cX6_lowestWith 32 = .ok (.iload_n 3, 1) := by decide +kernel
theorem dX6_lowestWith_33 : decode cX6_lowestWith 33 = .ok (.ior, 1) := by decide +kernel
theorem dX6_lowestWith_34 : decode cX6_lowestWith 34 = .ok (.istore_n 2, 1) := by decide +kernel
theorem dX6_lowestWith_35 : decode cX6_lowestWith 35 = .ok (.iinc 3 1, 3) := by decide +kernel
theorem dX6_lowestWith_38 : decode cX6_lowestWith 38 = .ok (.goto (-32), 3) := by decide +kernel
theorem dX6_lowestWith_41 : decode cX6_lowestWith 41 = .ok (.iload_n 2, 1) := by decide +kernel
theorem dX6_lowestWith_42 : decode cX6_lowestWith 42 = .ok (.invokestatic 61, 3) := by decide +kernel
theorem dX6_lowestWith_45 : decode cX6_lowestWith 45 = .ok (.ireturn, 1) := by decide +kernel
theorem dX7_init_0 : decode cX7_init 0 = .ok (.aload_n 0, 1) := by decide +kernel
theorem dX7_init_1 : decode cX7_init 1 = .ok (.invokespecial 3, 3) := by decide +kernel
theorem dX7_init_4 : decode cX7_init 4 = .ok (.aload_n 0, 1) := by decide +kernel
theorem dX7_init_5 : decode cX7_init 5 = .ok (.sipush 1024, 3) := by decide +kernel
theorem dX7_init_8 : decode cX7_init 8 = .ok (.newarray .int, 2) := by decide +kernel
theorem dX7_init_10 : decode cX7_init 10 = .ok (.putfield 9, 3) := by decide +kernel
theorem dX7_init_13 : decode cX7_init 13 = .ok (.aload_n 0, 1) := by decide +kernel
theorem dX7_init_14 : decode cX7_init 14 = .ok (.aload_n 1, 1) := by decide +kernel
theorem dX7_init_15 : decode cX7_init 15 = .ok (.putfield 15, 3) := by decide +kernel
theorem dX7_init_18 : decode cX7_init 18 = .ok (.return_, 1) := by decide +kernel
theorem dX7_contracted_0 : decode cX7_contracted 0 = .ok (.aload_n 0, 1) := by decide +kernel
theorem dX7_contracted_1 : decode cX7_contracted 1 = .ok (.getfield 19, 3) := by decide +kernel
theorem dX7_contracted_4 : decode cX7_contracted 4 = .ok (.ireturn, 1) := by decide +kernel
theorem dX7_deleted_0 : decode cX7_deleted 0 = .ok (.aload_n 0, 1) := by decide +kernel
theorem dX7_deleted_1 : decode cX7_deleted 1 = .ok (.getfield 23, 3) := by decide +kernel
theorem dX7_deleted_4 : decode cX7_deleted 4 = .ok (.ireturn, 1) := by decide +kernel
theorem dX7_isMinor_0 : decode cX7_isMinor 0 = .ok (.aload_n 0, 1) := by decide +kernel
theorem dX7_isMinor_1 : decode cX7_isMinor 1 = .ok (.getfield 26, 3) := by decide +kernel
theorem dX7_isMinor_4 : decode cX7_isMinor 4 = .ok (.aload_n 1, 1) := by decide +kernel
theorem dX7_isMinor_5 : decode cX7_isMinor 5 = .ok (.if_acmp .ne 11, 3) := by decide +kernel
theorem dX7_isMinor_8 : decode cX7_isMinor 8 = .ok (.aload_n 0, 1) := by decide +kernel
theorem dX7_isMinor_9 : decode cX7_isMinor 9 = .ok (.getfield 30, 3) := by decide +kernel
theorem dX7_isMinor_12 : decode cX7_isMinor 12 = .ok (.aload_n 2, 1) := by decide +kernel
theorem dX7_isMinor_13 : decode cX7_isMinor 13 = .ok (.if_acmp .eq 23, 3) := by decide +kernel
theorem dX7_isMinor_16 : decode cX7_isMinor 16 = .ok (.aload_n 0, 1) := by decide +kernel
theorem dX7_isMinor_17 : decode cX7_isMinor 17 = .ok (.aload_n 0, 1) := by decide +kernel
theorem dX7_isMinor_18 : decode cX7_isMinor 18 = .ok (.aload_n 1, 1) := by decide +kernel
theorem dX7_isMinor_19 : decode cX7_isMinor 19 = .ok (.aload_n 2, 1) := by decide +kernel
theorem dX7_isMinor_20 : decode cX7_isMinor 20 = .ok (.invokevirtual 33, 3) := by decide +kernel
theorem dX7_isMinor_23 : decode cX7_isMinor 23 = .ok (.putfield 37, 3) := by decide +kernel
theorem dX7_isMinor_26 : decode cX7_isMinor 26 = .ok (.aload_n 0, 1) := by decide +kernel
theorem dX7_isMinor_27 : decode cX7_isMinor 27 = .ok (.aload_n 1, 1) := by decide +kernel
theorem dX7_isMinor_28 : decode cX7_isMinor 28 = .ok (.putfield 26, 3) := by decide +kernel
theorem dX7_isMinor_31 : decode cX7_isMinor 31 = .ok (.aload_n 0, 1) := by decide +kernel
theorem dX7_isMinor_32 : decode cX7_isMinor 32 = .ok (.aload_n 2, 1) := by decide +kernel
theorem dX7_isMinor_33 : decode cX7_isMinor 33 = .ok (.putfield 30, 3) := by decide +kernel
theorem dX7_isMinor_36 : decode cX7_isMinor 36 = .ok (.aload_n 0, 1) := by decide +kernel
theorem dX7_isMinor_37 : decode cX7_isMinor 37 = .ok (.getfield 37, 3) := by decide +kernel
theorem dX7_isMinor_40 : decode cX7_isMinor 40 = .ok (.ireturn, 1) := by decide +kernel
theorem dX7_search_0 : decode cX7_search 0 = .ok (.aload_n 1, 1) := by decide +kernel
theorem dX7_search_1 : decode cX7_search 1 = .ok (.getfield 41, 3) := by decide +kernel
theorem dX7_search_4 : decode cX7_search 4 = .ok (.aload_n 2, 1) := by decide +kernel
theorem dX7_search_5 : decode cX7_search 5 = .ok (.getfield 41, 3) := by decide +kernel
theorem dX7_search_8 : decode cX7_search 8 = .ok (.isub, 1) := by decide +kernel
theorem dX7_search_9 : decode cX7_search 9 = .ok (.istore_n 3, 1) := by decide +kernel
theorem dX7_search_10 : decode cX7_search 10 = .ok (.aload_n 1, 1) := by decide +kernel
theorem dX7_search_11 : decode cX7_search 11 = .ok (.getfield 46, 3) := by decide +kernel
theorem dX7_search_14 : decode cX7_search 14 = .ok (.aload_n 2, 1) := by decide +kernel
theorem dX7_search_15 : decode cX7_search 15 = .ok (.getfield 46, 3) := by decide +kernel
theorem dX7_search_18 : decode cX7_search 18 = .ok (.isub, 1) := by decide +kernel
theorem dX7_search_19 : decode cX7_search 19 = .ok (.iload_n 3, 1) := by decide +kernel
theorem dX7_search_20 : decode cX7_search 20 = .ok (.isub, 1) := by decide +kernel
theorem dX7_search_21 : decode cX7_search 21 = .ok (.istore 4, 2) := by decide +kernel
theorem dX7_search_23 : decode cX7_search 23 = .ok (.iload_n 3, 1) := by decide +kernel
theorem dX7_search_24 : decode cX7_search 24 = .ok (.ifCond .lt 8, 3) := by decide +kernel
theorem dX7_search_27 : decode cX7_search 27 = .ok (.iload 4, 2) := by decide +kernel
theorem dX7_search_29 : decode cX7_search 29 = .ok (.ifCond .ge 5, 3) := by decide +kernel
theorem dX7_search_32 : decode cX7_search 32 = .ok (.iconst 0, 1) := by decide +kernel
theorem dX7_search_33 : decode cX7_search 33 = .ok (.ireturn, 1) := by decide +kernel
theorem dX7_search_34 : decode cX7_search 34 = .ok (.aload_n 0, 1) := by decide +kernel
theorem dX7_search_35 : decode cX7_search 35 = .ok (.getfield 15, 3) := by decide +kernel
theorem dX7_search_38 : decode cX7_search 38 = .ok (.aload_n 2, 1) := by decide +kernel
theorem dX7_search_39 : decode cX7_search 39 = .ok (.invokevirtual 49, 3) := by decide +kernel
theorem dX7_search_42 : decode cX7_search 42 = .ok (.aload_n 0, 1) := by decide +kernel
theorem dX7_search_43 : decode cX7_search 43 = .ok (.aload_n 1, 1) := by decide +kernel
theorem dX7_search_44 : decode cX7_search 44 = .ok (.iload 4, 2) := by decide +kernel
theorem dX7_search_46 : decode cX7_search 46 = .ok (.invokevirtual 55, 3) := by decide +kernel
theorem dX7_search_49 : decode cX7_search 49 = .ok (.iconst 0, 1) := by decide +kernel
theorem dX7_search_50 : decode cX7_search 50 = .ok (.istore 5, 2) := by decide +kernel
theorem dX7_search_52 : decode cX7_search 52 = .ok (.iload 5, 2) := by decide +kernel
theorem dX7_search_54 : decode cX7_search 54 = .ok (.aload_n 1, 1) := by decide +kernel
theorem dX7_search_55 : decode cX7_search 55 = .ok (.getfield 59, 3) := by decide +kernel
theorem dX7_search_58 : decode cX7_search 58 = .ok (.if_icmp .gt 58, 3) := by decide +kernel
theorem dX7_search_61 : decode cX7_search 61 = .ok (.iload 5, 2) := by decide +kernel
theorem dX7_search_63 : decode cX7_search 63 = .ok (.invokestatic 62, 3) := by decide +kernel
theorem dX7_search_66 : decode cX7_search 66 = .ok (.iload_n 3, 1) := by decide +kernel
theorem dX7_search_67 : decode cX7_search 67 = .ok (.if_icmp .ne 17, 3) := by decide +kernel
theorem dX7_search_70 : decode cX7_search 70 = .ok (.aload_n 1, 1) := by decide +kernel
theorem dX7_search_71 : decode cX7_search 71 = .ok (.iload 5, 2) := by decide +kernel
theorem dX7_search_73 : decode cX7_search 73 = .ok (.iconst 1, 1) := by decide +kernel
theorem dX7_search_74 : decode cX7_search 74 = .ok (.invokevirtual 68, 3) := by decide +kernel
theorem dX7_search_77 : decode cX7_search 77 = .ok (.ifCond .eq 7, 3) := by decide +kernel
theorem dX7_search_80 : decode cX7_search 80 = .ok (.iconst 1, 1) := by decide +kernel
theorem dX7_search_81 : decode cX7_search 81 = .ok (.goto 4, 3) := by decide +kernel
theorem dX7_search_84 : decode cX7_search 84 = .ok (.iconst 0, 1) := by decide +kernel
theorem dX7_search_85 : decode cX7_search 85 = .ok (.istore 6, 2) := by decide +kernel
theorem dX7_search_87 : decode cX7_search 87 = .ok (.iload 6, 2) := by decide +kernel
theorem dX7_search_89 : decode cX7_search 89 = .ok (.ifCond .eq 21, 3) := by decide +kernel
theorem dX7_search_92 : decode cX7_search 92 = .ok (.aload_n 0, 1) := by decide +kernel
theorem dX7_search_93 : decode cX7_search 93 = .ok (.aload_n 1, 1) := by decide +kernel
theorem dX7_search_94 : decode cX7_search 94 = .ok (.iload 5, 2) := by decide +kernel
theorem dX7_search_96 : decode cX7_search 96 = .ok (.invokevirtual 72, 3) := by decide +kernel
theorem dX7_search_99 : decode cX7_search 99 = .ok (.ifCond .eq 11, 3) := by decide +kernel
theorem dX7_search_102 : decode cX7_search 102 = .ok (.aload_n 0, 1) := by decide +kernel
theorem dX7_search_103 : decode cX7_search 103 = .ok (.iload 5, 2) := by decide +kernel
theorem dX7_search_105 : decode cX7_search 105 = .ok (.putfield 19, 3) := by decide +kernel
theorem dX7_search_108 : decode cX7_search 108 = .ok (.iconst 1, 1) := by decide +kernel
theorem dX7_search_109 : decode cX7_search 109 = .ok (.ireturn, 1) := by decide +kernel
theorem dX7_search_110 : decode cX7_search 110 = .ok (.iinc 5 1, 3) := by decide +kernel
theorem dX7_search_113 : decode cX7_search 113 = .ok (.goto (-61), 3) := by decide +kernel
theorem dX7_search_116 : decode cX7_search 116 = .ok (.iconst 0, 1) := by decide +kernel
theorem dX7_search_117 : decode cX7_search 117 = .ok (.ireturn, 1) := by decide +kernel
theorem dX7_listDeletions_0 : decode cX7_listDeletions 0 = .ok (.aload_n 0, 1) := by decide +kernel
theorem dX7_listDeletions_1 : decode cX7_listDeletions 1 = .ok (.iconst 0, 1) := by decide +kernel
theorem dX7_listDeletions_2 : decode cX7_listDeletions 2 = .ok (.putfield 76, 3) := by decide +kernel
theorem dX7_listDeletions_5 : decode cX7_listDeletions 5 = .ok (.iconst 0, 1) := by decide +kernel
theorem dX7_listDeletions_6 : decode cX7_listDeletions 6 = .ok (.istore_n 3, 1) := by decide +kernel
theorem dX7_listDeletions_7 : decode cX7_listDeletions 7 = .ok (.iload_n 3, 1) := by decide +kernel
theorem dX7_listDeletions_8 : decode cX7_listDeletions 8 = .ok (.aload_n 1, 1) := by decide +kernel
theorem dX7_listDeletions_9 : decode cX7_listDeletions 9 = .ok (.getfield 59, 3) := by decide +kernel
theorem dX7_listDeletions_12 : decode cX7_listDeletions 12 = .ok (.if_icmp .gt 68, 3) := by decide +kernel
theorem dX7_listDeletions_15 : decode cX7_listDeletions 15 = .ok (.aload_n 0, 1) := by decide +kernel
theorem dX7_listDeletions_16 : decode cX7_listDeletions 16 = .ok (.getfield 76, 3) := by decide +kernel
theorem dX7_listDeletions_19 : decode cX7_listDeletions 19 = .ok (.aload_n 0, 1) := by decide +kernel
theorem dX7_listDeletions_20 : decode cX7_listDeletions 20 = .ok (.getfield 9, 3) := by decide +kernel
theorem dX7_listDeletions_23 : decode cX7_listDeletions 23 = .ok (.arraylength, 1) := by decide +kernel
theorem dX7_listDeletions_24 : decode cX7_listDeletions 24 = .ok (.if_icmp .ge 56, 3) := by decide +kernel
theorem dX7_listDeletions_27 : decode cX7_listDeletions 27 = .ok (.iload_n 3, 1) := by decide +kernel
theorem dX7_listDeletions_28 : decode cX7_listDeletions 28 = .ok (.invokestatic 62, 3) := by decide +kernel
theorem dX7_listDeletions_31 : decode cX7_listDeletions 31 = .ok (.iload_n 2, 1) := by decide +kernel
theorem dX7_listDeletions_32 : decode cX7_listDeletions 32 = .ok (.if_icmp .ne 42, 3) := by decide +kernel
theorem dX7_listDeletions_35 : decode cX7_listDeletions 35 = .ok (.aload_n 1, 1) := by decide +kernel
theorem dX7_listDeletions_36 : decode cX7_listDeletions 36 = .ok (.aload_n 1, 1) := by decide +kernel
theorem dX7_listDeletions_37 : decode cX7_listDeletions 37 = .ok (.getfield 59, 3) := by decide +kernel
theorem dX7_listDeletions_40 : decode cX7_listDeletions 40 = .ok (.iload_n 3, 1) := by decide +kernel
theorem dX7_listDeletions_41 : decode cX7_listDeletions 41 = .ok (.iconst (-1), 1) := by decide +kernel
theorem dX7_listDeletions_42 : decode cX7_listDeletions 42 = .ok (.ixor, 1) := by decide +kernel
theorem dX7_listDeletions_43 : decode cX7_listDeletions 43 = .ok (.iand, 1) := by decide +kernel
theorem dX7_listDeletions_44 : decode cX7_listDeletions 44 = .ok (.invokevirtual 79, 3) := by decide +kernel
theorem dX7_listDeletions_47 : decode cX7_listDeletions 47 = .ok (.aload_n 1, 1) := by decide +kernel
theorem dX7_listDeletions_48 : decode cX7_listDeletions 48 = .ok (.getfield 41, 3) := by decide +kernel
theorem dX7_listDeletions_51 : decode cX7_listDeletions 51 = .ok (.if_icmp .ne 23, 3) := by decide +kernel
theorem dX7_listDeletions_54 : decode cX7_listDeletions 54 = .ok (.aload_n 0, 1) := by decide +kernel
theorem dX7_listDeletions_55 : decode cX7_listDeletions 55 = .ok (.getfield 9, 3) := by decide +kernel
theorem dX7_listDeletions_58 : decode cX7_listDeletions 58 = .ok (.aload_n 0, 1) := by decide +kernel
theorem dX7_listDeletions_59 : decode cX7_listDeletions 59 = .ok (.getfield 76, 3) := by decide +kernel
theorem dX7_listDeletions_62 : decode cX7_listDeletions 62 = .ok (.iload_n 3, 1) := by decide +kernel
theorem dX7_listDeletions_63 : decode cX7_listDeletions 63 = .ok (.iastore, 1) := by decide +kernel
theorem dX7_listDeletions_64 : decode cX7_listDeletions 64 = .ok (.aload_n 0, 1) := by decide +kernel
theorem dX7_listDeletions_65 : decode cX7_listDeletions 65 = .ok (.dup, 1) := by decide +kernel
theorem dX7_listDeletions_66 : decode cX7_listDeletions 66 = .ok (.getfield 76, 3) := by decide +kernel
theorem dX7_listDeletions_69 : decode cX7_listDeletions 69 = .ok (.iconst 1, 1) := by decide +kernel
theorem dX7_listDeletions_70 : decode cX7_listDeletions 70 = .ok (.iadd, 1) := by decide +kernel
theorem dX7_listDeletions_71 : decode cX7_listDeletions 71 = .ok (.putfield 76, 3) := by decide +kernel
theorem dX7_listDeletions_74 : decode cX7_listDeletions 74 = .ok (.iinc 3 1, 3) := by decide +kernel
theorem dX7_listDeletions_77 : decode cX7_listDeletions 77 = .ok (.goto (-70), 3) := by decide +kernel
theorem dX7_listDeletions_80 : decode cX7_listDeletions 80 = .ok (.return_, 1) := by decide +kernel
theorem dX7_findDeletion_0 : decode cX7_findDeletion 0 = .ok (.iconst 0, 1) := by decide +kernel
theorem dX7_findDeletion_1 : decode cX7_findDeletion 1 = .ok (.istore_n 3, 1) := by decide +kernel
theorem dX7_findDeletion_2 : decode cX7_findDeletion 2 = .ok (.iload_n 3, 1) := by decide +kernel
theorem dX7_findDeletion_3 : decode cX7_findDeletion 3 = .ok (.aload_n 0, 1) := by decide +kernel
theorem dX7_findDeletion_4 : decode cX7_findDeletion 4 = .ok (.getfield 76, 3) := by decide +kernel
theorem dX7_findDeletion_7 : decode cX7_findDeletion 7 = .ok (.if_icmp .ge 55, 3) := by decide +kernel
theorem dX7_findDeletion_10 : decode cX7_findDeletion 10 = .ok (.iload_n 3, 1) := by decide +kernel
theorem dX7_findDeletion_11 : decode cX7_findDeletion 11 = .ok (.aload_n 0, 1) := by decide +kernel
theorem dX7_findDeletion_12 : decode cX7_findDeletion 12 = .ok (.getfield 9, 3) := by decide +kernel
theorem dX7_findDeletion_15 : decode cX7_findDeletion 15 = .ok (.arraylength, 1) := by decide +kernel
theorem dX7_findDeletion_16 : decode cX7_findDeletion 16 = .ok (.if_icmp .ge 46, 3) := by decide +kernel
theorem dX7_findDeletion_19 : decode cX7_findDeletion 19 = .ok (.aload_n 0, 1) := by decide +kernel
theorem dX7_findDeletion_20 : decode cX7_findDeletion 20 = .ok (.getfield 9, 3) := by decide +kernel
theorem dX7_findDeletion_23 : decode cX7_findDeletion 23 = .ok (.iload_n 3, 1) := by decide +kernel
theorem dX7_findDeletion_24 : decode cX7_findDeletion 24 = .ok (.iaload, 1) := by decide +kernel
theorem dX7_findDeletion_25 : decode cX7_findDeletion 25 = .ok (.istore 4, 2) := by decide +kernel
theorem dX7_findDeletion_27 : decode cX7_findDeletion 27 = .ok (.iload_n 2, 1) := by decide +kernel
theorem dX7_findDeletion_28 : decode cX7_findDeletion 28 = .ok (.iload 4, 2) := by decide +kernel
theorem dX7_findDeletion_30 : decode cX7_findDeletion 30 = .ok (.iand, 1) := by decide +kernel
theorem dX7_findDeletion_31 : decode cX7_findDeletion 31 = .ok (.ifCond .ne 25, 3) := by decide +kernel
theorem dX7_findDeletion_34 : decode cX7_findDeletion 34 = .ok (.aload_n 0, 1) := by decide +kernel
theorem dX7_findDeletion_35 : decode cX7_findDeletion 35 = .ok (.getfield 15, 3) := by decide +kernel
theorem dX7_findDeletion_38 : decode cX7_findDeletion 38 = .ok (.aload_n 1, 1) := by decide +kernel
theorem dX7_findDeletion_39 : decode cX7_findDeletion 39 = .ok (.iload_n 2, 1) := by decide +kernel
theorem dX7_findDeletion_40 : decode cX7_findDeletion 40 = .ok (.iload 4, 2) := by decide +kernel
theorem dX7_findDeletion_42 : decode cX7_findDeletion 42 = .ok (.invokevirtual 82, 3) := by decide +kernel
theorem dX7_findDeletion_45 : decode cX7_findDeletion 45 = .ok (.ifCond .eq 11, 3) := by decide +kernel
theorem dX7_findDeletion_48 : decode cX7_findDeletion 48 = .ok (.aload_n 0, 1) := by decide +kernel
theorem dX7_findDeletion_49 : decode cX7_findDeletion 49 = .ok (.iload 4, 2) := by decide +kernel
theorem dX7_findDeletion_51 : decode cX7_findDeletion 51 = .ok (.putfield 23, 3) := by decide +kernel
theorem dX7_findDeletion_54 : decode cX7_findDeletion 54 = .ok (.iconst 1, 1) := by decide +kernel
theorem dX7_findDeletion_55 : decode cX7_findDeletion 55 = .ok (.ireturn, 1) := by decide +kernel
theorem dX7_findDeletion_56 : decode cX7_findDeletion 56 = .ok (.iinc 3 1, 3) := by decide +kernel
theorem dX7_findDeletion_59 : decode cX7_findDeletion 59 = .ok (.goto (-57), 3) := by decide +kernel
theorem dX7_findDeletion_62 : decode cX7_findDeletion 62 = .ok (.iconst 0, 1) := by decide +kernel
theorem dX7_findDeletion_63 : decode cX7_findDeletion 63 = .ok (.ireturn, 1) := by decide +kernel
theorem dX8_init_0 : decode cX8_init 0 = .ok (.aload_n 0, 1) := by decide +kernel
theorem dX8_init_1 : decode cX8_init 1 = .ok (.invokespecial 3, 3) := by decide +kernel
theorem dX8_init_4 : decode cX8_init 4 = .ok (.aload_n 0, 1) := by decide +kernel
theorem dX8_init_5 : decode cX8_init 5 = .ok (.bipush 60, 2) := by decide +kernel
theorem dX8_init_7 : decode cX8_init 7 = .ok (.newarray .int, 2) := by decide +kernel
theorem dX8_init_9 : decode cX8_init 9 = .ok (.putfield 9, 3) := by decide +kernel
theorem dX8_init_12 : decode cX8_init 12 = .ok (.return_, 1) := by decide +kernel
theorem dX8_isFull_0 : decode cX8_isFull 0 = .ok (.aload_n 0, 1) := by decide +kernel
theorem dX8_isFull_1 : decode cX8_isFull 1 = .ok (.getfield 15, 3) := by decide +kernel
theorem dX8_isFull_4 : decode cX8_isFull 4 = .ok (.aload_n 0, 1) := by decide +kernel
theorem dX8_isFull_5 : decode cX8_isFull 5 = .ok (.getfield 9, 3) := by decide +kernel
theorem dX8_isFull_8 : decode cX8_isFull 8 = .ok (.arraylength, 1) := by decide +kernel
theorem dX8_isFull_9 : decode cX8_isFull 9 = .ok (.if_icmp .lt 7, 3) := by decide +kernel
theorem dX8_isFull_12 : decode cX8_isFull 12 = .ok (.iconst 1, 1) := by decide +kernel
theorem dX8_isFull_13 : decode cX8_isFull 13 = .ok (.goto 4, 3) := by decide +kernel
theorem dX8_isFull_16 : decode cX8_isFull 16 = .ok (.iconst 0, 1) := by decide +kernel
theorem dX8_isFull_17 : decode cX8_isFull 17 = .ok (.ireturn, 1) := by decide +kernel
theorem dX8_put_0 : decode cX8_put 0 = .ok (.aload_n 0, 1) := by decide +kernel
theorem dX8_put_1 : decode cX8_put 1 = .ok (.getfield 15, 3) := by decide +kernel
theorem dX8_put_4 : decode cX8_put 4 = .ok (.ifCond .lt 35, 3) := by decide +kernel
theorem dX8_put_7 : decode cX8_put 7 = .ok (.aload_n 0, 1) := by decide +kernel
theorem dX8_put_8 : decode cX8_put 8 = .ok (.getfield 15, 3) := by decide +kernel
theorem dX8_put_11 : decode cX8_put 11 = .ok (.aload_n 0, 1) := by decide +kernel
theorem dX8_put_12 : decode cX8_put 12 = .ok (.getfield 9, 3) := by decide +kernel
theorem dX8_put_15 : decode cX8_put 15 = .ok (.arraylength, 1) := by decide +kernel
theorem dX8_put_16 : decode cX8_put 16 = .ok (.if_icmp .ge 23, 3) := by decide +kernel
theorem dX8_put_19 : decode cX8_put 19 = .ok (.aload_n 0, 1) := by decide +kernel
theorem dX8_put_20 : decode cX8_put 20 = .ok (.getfield 9, 3) := by decide +kernel
theorem dX8_put_23 : decode cX8_put 23 = .ok (.aload_n 0, 1) := by decide +kernel
theorem dX8_put_24 : decode cX8_put 24 = .ok (.getfield 15, 3) := by decide +kernel
theorem dX8_put_27 : decode cX8_put 27 = .ok (.iload_n 1, 1) := by decide +kernel
theorem dX8_put_28 : decode cX8_put 28 = .ok (.iastore, 1) := by decide +kernel
theorem dX8_put_29 : decode cX8_put 29 = .ok (.aload_n 0, 1) := by decide +kernel
theorem dX8_put_30 : decode cX8_put 30 = .ok (.dup, 1) := by decide +kernel
theorem dX8_put_31 : decode cX8_put 31 = .ok (.getfield 15, 3) := by decide +kernel
theorem dX8_put_34 : decode cX8_put 34 = .ok (.iconst 1, 1) := by decide +kernel
theorem dX8_put_35 : decode cX8_put 35 = .ok (.iadd, 1) := by decide +kernel
theorem dX8_put_36 : decode cX8_put 36 = .ok (.putfield 15, 3) := by decide +kernel
theorem dX8_put_39 : decode cX8_put 39 = .ok (.return_, 1) := by decide +kernel
theorem dX8_empty_0 : decode cX8_empty 0 = .ok (.aload_n 0, 1) := by decide +kernel
theorem dX8_empty_1 : decode cX8_empty 1 = .ok (.iconst 0, 1) := by decide +kernel
theorem dX8_empty_2 : decode cX8_empty 2 = .ok (.putfield 15, 3) := by decide +kernel
theorem dX8_empty_5 : decode cX8_empty 5 = .ok (.return_, 1) := by decide +kernel
theorem dX8_length_0 : decode cX8_length 0 = .ok (.aload_n 0, 1) := by decide +kernel
theorem dX8_length_1 : decode cX8_length 1 = .ok (.getfield 15, 3) := by decide +kernel
theorem dX8_length_4 : decode cX8_length 4 = .ok (.ireturn, 1) := by decide +kernel
theorem dX8_at_0 : decode cX8_at 0 = .ok (.iload_n 1, 1) := by decide +kernel
theorem dX8_at_1 : decode cX8_at 1 = .ok (.ifCond .lt 21, 3) := by decide +kernel
theorem dX8_at_4 : decode cX8_at 4 = .ok (.iload_n 1, 1) := by decide +kernel
theorem dX8_at_5 : decode cX8_at 5 = .ok (.aload_n 0, 1) := by decide +kernel
theorem dX8_at_6 : decode cX8_at 6 = .ok (.getfield 9, 3) := by decide +kernel
theorem dX8_at_9 : decode cX8_at 9 = .ok (.arraylength, 1) := by decide +kernel
theorem dX8_at_10 : decode cX8_at 10 = .ok (.if_icmp .ge 12, 3) := by decide +kernel
theorem dX8_at_13 : decode cX8_at 13 = .ok (.aload_n 0, 1) := by decide +kernel
theorem dX8_at_14 : decode cX8_at 14 = .ok (.getfield 9, 3) := by decide +kernel
theorem dX8_at_17 : decode cX8_at 17 = .ok (.iload_n 1, 1) := by decide +kernel
theorem dX8_at_18 : decode cX8_at 18 = .ok (.iaload, 1) := by decide +kernel
theorem dX8_at_19 : decode cX8_at 19 = .ok (.goto 4, 3) := by decide +kernel
theorem dX8_at_22 : decode cX8_at 22 = .ok (.iconst 0, 1) := by decide +kernel
theorem dX8_at_23 : decode cX8_at 23 = .ok (.ireturn, 1) := by decide +kernel
theorem dX8_greatest_0 : decode cX8_greatest 0 = .ok (.iconst (-1), 1) := by decide +kernel
theorem dX8_greatest_1 : decode cX8_greatest 1 = .ok (.istore_n 1, 1) := by decide +kernel
theorem dX8_greatest_2 : decode cX8_greatest 2 = .ok (.iconst 0, 1) := by decide +kernel
theorem dX8_greatest_3 : decode cX8_greatest 3 = .ok (.istore_n 2, 1) := by decide +kernel
theorem dX8_greatest_4 : decode cX8_greatest 4 = .ok (.iload_n 2, 1) := by decide +kernel
theorem dX8_greatest_5 : decode cX8_greatest 5 = .ok (.aload_n 0, 1) := by decide +kernel
theorem dX8_greatest_6 : decode cX8_greatest 6 = .ok (.getfield 15, 3) := by decide +kernel
theorem dX8_greatest_9 : decode cX8_greatest 9 = .ok (.if_icmp .ge 19, 3) := by decide +kernel
theorem dX8_greatest_12 : decode cX8_greatest 12 = .ok (.iload_n 1, 1) := by decide +kernel
theorem dX8_greatest_13 : decode cX8_greatest 13 = .ok (.aload_n 0, 1) := by decide +kernel
theorem dX8_greatest_14 : decode cX8_greatest 14 = .ok (.iload_n 2, 1) := by decide +kernel
theorem dX8_greatest_15 : decode cX8_greatest 15 = .ok (.invokevirtual 19, 3) := by decide +kernel
theorem dX8_greatest_18 : decode cX8_greatest 18 = .ok (.invokestatic 23, 3) := by decide +kernel
theorem dX8_greatest_21 : decode cX8_greatest 21 = .ok (.istore_n 1, 1) := by decide +kernel
theorem dX8_greatest_22 : decode cX8_greatest 22 = .ok (.iinc 2 1, 3) := by decide +kernel
theorem dX8_greatest_25 : decode cX8_greatest 25 = .ok (.goto (-21), 3) := by decide +kernel
theorem dX8_greatest_28 : decode cX8_greatest 28 = .ok (.iload_n 1, 1) := by decide +kernel
theorem dX8_greatest_29 : decode cX8_greatest 29 = .ok (.ireturn, 1) := by decide +kernel
theorem dX9_at_0 : decode cX9_at 0 = .ok (.iload_n 1, 1) := by decide +kernel
theorem dX9_at_1 : decode cX9_at 1 = .ok (.ifCond .lt 15, 3) := by decide +kernel
theorem dX9_at_4 : decode cX9_at 4 = .ok (.iload_n 1, 1) := by decide +kernel
theorem dX9_at_5 : decode cX9_at 5 = .ok (.aload_n 0, 1) := by decide +kernel
theorem dX9_at_6 : decode cX9_at 6 = .ok (.arraylength, 1) := by decide +kernel
theorem dX9_at_7 : decode cX9_at 7 = .ok (.if_icmp .ge 9, 3) := by decide +kernel
theorem dX9_at_10 : decode cX9_at 10 = .ok (.aload_n 0, 1) := by decide +kernel
theorem dX9_at_11 : decode cX9_at 11 = .ok (.iload_n 1, 1) := by decide +kernel
theorem dX9_at_12 : decode cX9_at 12 = .ok (.baload, 1) := by decide +kernel
theorem dX9_at_13 : decode cX9_at 13 = .ok (.goto 4, 3) := by decide +kernel
theorem dX9_at_16 : decode cX9_at 16 = .ok (.iconst 0, 1) := by decide +kernel
theorem dX9_at_17 : decode cX9_at 17 = .ok (.ireturn, 1) := by decide +kernel
theorem dX9_areSame_0 : decode cX9_areSame 0 = .ok (.aload_n 0, 1) := by decide +kernel
theorem dX9_areSame_1 : decode cX9_areSame 1 = .ok (.arraylength, 1) := by decide +kernel
theorem dX9_areSame_2 : decode cX9_areSame 2 = .ok (.aload_n 1, 1) := by decide +kernel
theorem dX9_areSame_3 : decode cX9_areSame 3 = .ok (.arraylength, 1) := by decide +kernel
theorem dX9_areSame_4 : decode cX9_areSame 4 = .ok (.if_icmp .eq 5, 3) := by decide +kernel
theorem dX9_areSame_7 : decode cX9_areSame 7 = .ok (.iconst 0, 1) := by decide +kernel
theorem dX9_areSame_8 : decode cX9_areSame 8 = .ok (.ireturn, 1) := by decide +kernel
theorem dX9_areSame_9 : decode cX9_areSame 9 = .ok (.iconst 0, 1) := by decide +kernel
theorem dX9_areSame_10 : decode cX9_areSame 10 = .ok (.istore_n 2, 1) := by decide +kernel
theorem dX9_areSame_11 : decode cX9_areSame 11 = .ok (.iload_n 2, 1) := by decide +kernel
theorem dX9_areSame_12 : decode cX9_areSame 12 = .ok (.aload_n 0, 1) := by decide +kernel
theorem dX9_areSame_13 : decode cX9_areSame 13 = .ok (.arraylength, 1) := by decide +kernel
theorem dX9_areSame_14 : decode cX9_areSame 14 = .ok (.if_icmp .ge 26, 3) := by decide +kernel
theorem dX9_areSame_17 : decode cX9_areSame 17 = .ok (.iload_n 2, 1) := by decide +kernel
theorem dX9_areSame_18 : decode cX9_areSame 18 = .ok (.aload_n 1, 1) := by decide +kernel
theorem dX9_areSame_19 : decode cX9_areSame 19 = .ok (.arraylength, 1) := by decide +kernel
theorem dX9_areSame_20 : decode cX9_areSame 20 = .ok (.if_icmp .ge 20, 3) := by decide +kernel
theorem dX9_areSame_23 : decode cX9_areSame 23 = .ok (.aload_n 0, 1) := by decide +kernel
theorem dX9_areSame_24 : decode cX9_areSame 24 = .ok (.iload_n 2, 1) := by decide +kernel
theorem dX9_areSame_25 : decode cX9_areSame 25 = .ok (.baload, 1) := by decide +kernel
theorem dX9_areSame_26 : decode cX9_areSame 26 = .ok (.aload_n 1, 1) := by decide +kernel
theorem dX9_areSame_27 : decode cX9_areSame 27 = .ok (.iload_n 2, 1) := by decide +kernel
theorem dX9_areSame_28 : decode cX9_areSame 28 = .ok (.baload, 1) := by decide +kernel
theorem dX9_areSame_29 : decode cX9_areSame 29 = .ok (.if_icmp .eq 5, 3) := by decide +kernel
theorem dX9_areSame_32 : decode cX9_areSame 32 = .ok (.iconst 0, 1) := by decide +kernel
theorem dX9_areSame_33 : decode cX9_areSame 33 = .ok (.ireturn, 1) := by decide +kernel
theorem dX9_areSame_34 : decode cX9_areSame 34 = .ok (.iinc 2 1, 3) := by decide +kernel
theorem dX9_areSame_37 : decode cX9_areSame 37 = .ok (.goto (-26), 3) := by decide +kernel
theorem dX9_areSame_40 : decode cX9_areSame 40 = .ok (.iconst 1, 1) := by decide +kernel
theorem dX9_areSame_41 : decode cX9_areSame 41 = .ok (.ireturn, 1) := by decide +kernel
theorem dX9_blank_0 : decode cX9_blank 0 = .ok (.iconst 1, 1) := by decide +kernel
theorem dX9_blank_1 : decode cX9_blank 1 = .ok (.iconst 0, 1) := by decide +kernel
theorem dX9_blank_2 : decode cX9_blank 2 = .ok (.bipush 10, 2) := by decide +kernel
theorem dX9_blank_4 : decode cX9_blank 4 = .ok (.iload_n 0, 1) := by decide +kernel
theorem dX9_blank_5 : decode cX9_blank 5 = .ok (.invokestatic 9, 3) := by decide +kernel
theorem dX9_blank_8 : decode cX9_blank 8 = .ok (.invokestatic 15, 3) := by decide +kernel
theorem dX9_blank_11 : decode cX9_blank 11 = .ok (.ishl, 1) := by decide +kernel
theorem dX9_blank_12 : decode cX9_blank 12 = .ok (.newarray .byte, 2) := by decide +kernel
theorem dX9_blank_14 : decode cX9_blank 14 = .ok (.areturn, 1) := by decide +kernel
theorem dX9_ofUniform_0 : decode cX9_ofUniform 0 = .ok (.iload_n 1, 1) := by decide +kernel
theorem dX9_ofUniform_1 : decode cX9_ofUniform 1 = .ok (.invokestatic 18, 3) := by decide +kernel
theorem dX9_ofUniform_4 : decode cX9_ofUniform 4 = .ok (.astore_n 2, 1) := by decide +kernel
theorem dX9_ofUniform_5 : decode cX9_ofUniform 5 = .ok (.iconst 0, 1) := by decide +kernel
theorem dX9_ofUniform_6 : decode cX9_ofUniform 6 = .ok (.istore_n 3, 1) := by decide +kernel
theorem dX9_ofUniform_7 : decode cX9_ofUniform 7 = .ok (.iload_n 3, 1) := by decide +kernel
theorem dX9_ofUniform_8 : decode cX9_ofUniform 8 = .ok (.aload_n 2, 1) := by decide +kernel
theorem dX9_ofUniform_9 : decode cX9_ofUniform 9 = .ok (.arraylength, 1) := by decide +kernel
theorem dX9_ofUniform_10 : decode cX9_ofUniform 10 = .ok (.if_icmp .ge 21, 3) := by decide +kernel
theorem dX9_ofUniform_13 : decode cX9_ofUniform 13 = .ok (.aload_n 2, 1) := by decide +kernel
theorem dX9_ofUniform_14 : decode cX9_ofUniform 14 = .ok (.iload_n 3, 1) := by decide +kernel
theorem dX9_ofUniform_15 : decode cX9_ofUniform 15 = .ok (.iload_n 0, 1) := by decide +kernel
theorem dX9_ofUniform_16 : decode cX9_ofUniform 16 = .ok (.iload_n 3, 1) := by decide +kernel
theorem dX9_ofUniform_17 : decode cX9_ofUniform 17 = .ok (.invokestatic 24, 3) := by decide +kernel
theorem dX9_ofUniform_20 : decode cX9_ofUniform 20 = .ok (.invokestatic 9, 3) := by decide +kernel
theorem dX9_ofUniform_23 : decode cX9_ofUniform 23 = .ok (.i2b, 1) := by decide +kernel
theorem dX9_ofUniform_24 : decode cX9_ofUniform 24 = .ok (.bastore, 1) := by decide +kernel
theorem dX9_ofUniform_25 : decode cX9_ofUniform 25 = .ok (.iinc 3 1, 3) := by decide +kernel
theorem dX9_ofUniform_28 : decode cX9_ofUniform 28 = .ok (.goto (-21), 3) := by decide +kernel
theorem dX9_ofUniform_31 : decode cX9_ofUniform 31 = .ok (.aload_n 2, 1) := by decide +kernel
theorem dX9_ofUniform_32 : decode cX9_ofUniform 32 = .ok (.areturn, 1) := by decide +kernel
theorem dX9_ofGraph_0 : decode cX9_ofGraph 0 = .ok (.aload_n 0, 1) := by decide +kernel
theorem dX9_ofGraph_1 : decode cX9_ofGraph 1 = .ok (.invokevirtual 30, 3) := by decide +kernel
theorem dX9_ofGraph_4 : decode cX9_ofGraph 4 = .ok (.iconst 2, 1) := by decide +kernel
theorem dX9_ofGraph_5 : decode cX9_ofGraph 5 = .ok (.idiv, 1) := by decide +kernel
theorem dX9_ofGraph_6 : decode cX9_ofGraph 6 = .ok (.istore_n 1, 1) := by decide +kernel
theorem dX9_ofGraph_7 : decode cX9_ofGraph 7 = .ok (.new 36, 3) := by decide +kernel
theorem dX9_ofGraph_10 : decode cX9_ofGraph 10 = .ok (.dup, 1) := by decide +kernel
theorem dX9_ofGraph_11 : decode cX9_ofGraph 11 = .ok (.iconst 2, 1) := by decide +kernel
theorem dX9_ofGraph_12 : decode cX9_ofGraph 12 = .ok (.bipush 10, 2) := by decide +kernel
theorem dX9_ofGraph_14 : decode cX9_ofGraph 14 = .ok (.iload_n 1, 1) := by decide +kernel
theorem dX9_ofGraph_15 : decode cX9_ofGraph 15 = .ok (.invokespecial 38, 3) := by decide +kernel
theorem dX9_ofGraph_18 : decode cX9_ofGraph 18 = .ok (.astore_n 2, 1) := by decide +kernel
theorem dX9_ofGraph_19 : decode cX9_ofGraph 19 = .ok (.iconst 0, 1) := by decide +kernel
theorem dX9_ofGraph_20 : decode cX9_ofGraph 20 = .ok (.istore_n 3, 1) := by decide +kernel
theorem dX9_ofGraph_21 : decode cX9_ofGraph 21 = .ok (.iload_n 3, 1) := by decide +kernel
theorem dX9_ofGraph_22 : decode cX9_ofGraph 22 = .ok (.iload_n 1, 1) := by decide +kernel
theorem dX9_ofGraph_23 : decode cX9_ofGraph 23 = .ok (.if_icmp .ge 52, 3) := by decide +kernel
theorem dX9_ofGraph_26 : decode cX9_ofGraph 26 = .ok (.aload_n 0, 1) := by decide +kernel
theorem dX9_ofGraph_27 : decode cX9_ofGraph 27 = .ok (.iconst 2, 1) := by decide +kernel
theorem dX9_ofGraph_28 : decode cX9_ofGraph 28 = .ok (.iload_n 3, 1) := by decide +kernel
theorem dX9_ofGraph_29 : decode cX9_ofGraph 29 = .ok (.imul, 1) := by decide +kernel
theorem dX9_ofGraph_30 : decode cX9_ofGraph 30 = .ok (.invokevirtual 41, 3) := by decide +kernel
theorem dX9_ofGraph_33 : decode cX9_ofGraph 33 = .ok (.istore 4, 2) := by decide +kernel
theorem dX9_ofGraph_35 : decode cX9_ofGraph 35 = .ok (.aload_n 0, 1) := by decide +kernel
theorem dX9_ofGraph_36 : decode cX9_ofGraph 36 = .ok (.iconst 2, 1) := by decide +kernel
theorem dX9_ofGraph_37 : decode cX9_ofGraph 37 = .ok (.iload_n 3, 1) := by decide +kernel
theorem dX9_ofGraph_38 : decode cX9_ofGraph 38 = .ok (.imul, 1) := by decide +kernel
theorem dX9_ofGraph_39 : decode cX9_ofGraph 39 = .ok (.iconst 1, 1) := by decide +kernel
theorem dX9_ofGraph_40 : decode cX9_ofGraph 40 = .ok (.iadd, 1) := by decide +kernel
theorem dX9_ofGraph_41 : decode cX9_ofGraph 41 = .ok (.invokevirtual 41, 3) := by decide +kernel
theorem dX9_ofGraph_44 : decode cX9_ofGraph 44 = .ok (.istore 5, 2) := by decide +kernel
theorem dX9_ofGraph_46 : decode cX9_ofGraph 46 = .ok (.iload 4, 2) := by decide +kernel
theorem dX9_ofGraph_48 : decode cX9_ofGraph 48 = .ok (.iload 5, 2) := by decide +kernel
theorem dX9_ofGraph_50 : decode cX9_ofGraph 50 = .ok (.if_icmp .eq 19, 3) := by decide +kernel
theorem dX9_ofGraph_53 : decode cX9_ofGraph 53 = .ok (.aload_n 2, 1) := by decide +kernel
theorem dX9_ofGraph_54 : decode cX9_ofGraph 54 = .ok (.iload_n 3, 1) := by decide +kernel
theorem dX9_ofGraph_55 : decode cX9_ofGraph 55 = .ok (.iload 4, 2) := by decide +kernel
theorem dX9_ofGraph_57 : decode cX9_ofGraph 57 = .ok (.iconst 1, 1) := by decide +kernel
theorem dX9_ofGraph_58 : decode cX9_ofGraph 58 = .ok (.invokevirtual 44, 3) := by decide +kernel
theorem dX9_ofGraph_61 : decode cX9_ofGraph 61 = .ok (.aload_n 2, 1) := by decide +kernel
theorem dX9_ofGraph_62 : decode cX9_ofGraph 62 = .ok (.iload_n 3, 1) := by decide +kernel
theorem dX9_ofGraph_63 : decode cX9_ofGraph 63 = .ok (.iload 5, 2) := by decide +kernel
theorem dX9_ofGraph_65 : decode cX9_ofGraph 65 = .ok (.iconst 1, 1) := by decide +kernel
theorem dX9_ofGraph_66 : decode cX9_ofGraph 66 = .ok (.invokevirtual 44, 3) := by decide +kernel
theorem dX9_ofGraph_69 : decode cX9_ofGraph 69 = .ok (.iinc 3 1, 3) := by decide +kernel
theorem dX9_ofGraph_72 : decode cX9_ofGraph 72 = .ok (.goto (-51), 3) := by decide +kernel
theorem dX9_ofGraph_75 : decode cX9_ofGraph 75 = .ok (.aload_n 2, 1) := by decide +kernel
theorem dX9_ofGraph_76 : decode cX9_ofGraph 76 = .ok (.invokevirtual 47, 3) := by decide +kernel
theorem dX9_ofGraph_79 : decode cX9_ofGraph 79 = .ok (.areturn, 1) := by decide +kernel
theorem dX9_ofColumns_0 : decode cX9_ofColumns 0 = .ok (.iload_n 2, 1) := by decide +kernel
theorem dX9_ofColumns_1 : decode cX9_ofColumns 1 = .ok (.ifCond .gt 8, 3) := by decide +kernel
theorem dX9_ofColumns_4 : decode cX9_ofColumns 4 = .ok (.iconst 0, 1) := by decide +kernel
theorem dX9_ofColumns_5 : decode cX9_ofColumns 5 = .ok (.invokestatic 18, 3) := by decide +kernel
theorem dX9_ofColumns_8 : decode cX9_ofColumns 8 = .ok (.areturn, 1) := by decide +kernel
theorem dX9_ofColumns_9 : decode cX9_ofColumns 9 = .ok (.new 36, 3) := by decide +kernel
theorem dX9_ofColumns_12 : decode cX9_ofColumns 12 = .ok (.dup, 1) := by decide +kernel
theorem dX9_ofColumns_13 : decode cX9_ofColumns 13 = .ok (.iload_n 1, 1) := by decide +kernel
theorem dX9_ofColumns_14 : decode cX9_ofColumns 14 = .ok (.iload_n 2, 1) := by decide +kernel
theorem dX9_ofColumns_15 : decode cX9_ofColumns 15 = .ok (.aload_n 0, 1) := by decide +kernel
theorem dX9_ofColumns_16 : decode cX9_ofColumns 16 = .ok (.invokevirtual 30, 3) := by decide +kernel
theorem dX9_ofColumns_19 : decode cX9_ofColumns 19 = .ok (.iload_n 2, 1) := by decide +kernel
theorem dX9_ofColumns_20 : decode cX9_ofColumns 20 = .ok (.idiv, 1) := by decide +kernel
theorem dX9_ofColumns_21 : decode cX9_ofColumns 21 = .ok (.invokespecial 38, 3) := by decide +kernel
theorem dX9_ofColumns_24 : decode cX9_ofColumns 24 = .ok (.astore_n 3, 1) := by decide +kernel
theorem dX9_ofColumns_25 : decode cX9_ofColumns 25 = .ok (.iconst 0, 1) := by decide +kernel
theorem dX9_ofColumns_26 : decode cX9_ofColumns 26 = .ok (.istore 4, 2) := by decide +kernel
theorem dX9_ofColumns_28 : decode cX9_ofColumns 28 = .ok (.iload 4, 2) := by decide +kernel
theorem dX9_ofColumns_30 : decode cX9_ofColumns 30 = .ok (.aload_n 0, 1) := by decide +kernel
theorem dX9_ofColumns_31 : decode cX9_ofColumns 31 = .ok (.invokevirtual 30, 3) := by decide +kernel
theorem dX9_ofColumns_34 : decode cX9_ofColumns 34 = .ok (.if_icmp .ge 27, 3) := by decide +kernel
theorem dX9_ofColumns_37 : decode cX9_ofColumns 37 = .ok (.aload_n 3, 1) := by decide +kernel
theorem dX9_ofColumns_38 : decode cX9_ofColumns 38 = .ok (.iload 4, 2) := by decide +kernel
theorem dX9_ofColumns_40 : decode cX9_ofColumns 40 = .ok (.iload_n 2, 1) := by decide +kernel
theorem dX9_ofColumns_41 : decode cX9_ofColumns 41 = .ok (.idiv, 1) := by decide +kernel
theorem dX9_ofColumns_42 : decode cX9_ofColumns 42 = .ok (.iload 4, 2) := by decide +kernel
theorem dX9_ofColumns_44 : decode cX9_ofColumns 44 = .ok (.iload_n 2, 1) := by decide +kernel
theorem dX9_ofColumns_45 : decode cX9_ofColumns 45 = .ok (.irem, 1) := by decide +kernel
theorem dX9_ofColumns_46 : decode cX9_ofColumns 46 = .ok (.aload_n 0, 1) := by decide +kernel
theorem dX9_ofColumns_47 : decode cX9_ofColumns 47 = .ok (.iload 4, 2) := by decide +kernel
theorem dX9_ofColumns_49 : decode cX9_ofColumns 49 = .ok (.invokevirtual 41, 3) := by decide +kernel
theorem dX9_ofColumns_52 : decode cX9_ofColumns 52 = .ok (.invokevirtual 44, 3) := by decide +kernel
theorem dX9_ofColumns_55 : decode cX9_ofColumns 55 = .ok (.iinc 4 1, 3) := by decide +kernel
theorem dX9_ofColumns_58 : decode cX9_ofColumns 58 = .ok (.goto (-30), 3) := by decide +kernel
theorem dX9_ofColumns_61 : decode cX9_ofColumns 61 = .ok (.aload_n 3, 1) := by decide +kernel
theorem dX9_ofColumns_62 : decode cX9_ofColumns 62 = .ok (.invokevirtual 47, 3) := by decide +kernel
theorem dX9_ofColumns_65 : decode cX9_ofColumns 65 = .ok (.areturn, 1) := by decide +kernel
theorem dX9_ofPlaces_0 : decode cX9_ofPlaces 0 = .ok (.iload_n 1, 1) := by decide +kernel
theorem dX9_ofPlaces_1 : decode cX9_ofPlaces 1 = .ok (.invokestatic 18, 3) := by decide +kernel
theorem dX9_ofPlaces_4 : decode cX9_ofPlaces 4 = .ok (.astore_n 2, 1) := by decide +kernel
theorem dX9_ofPlaces_5 : decode cX9_ofPlaces 5 = .ok (.aload_n 2, 1) := by decide +kernel
theorem dX9_ofPlaces_6 : decode cX9_ofPlaces 6 = .ok (.iconst 0, 1) := by decide +kernel
theorem dX9_ofPlaces_7 : decode cX9_ofPlaces 7 = .ok (.iconst 1, 1) := by decide +kernel
theorem dX9_ofPlaces_8 : decode cX9_ofPlaces 8 = .ok (.bastore, 1) := by decide +kernel
theorem dX9_ofPlaces_9 : decode cX9_ofPlaces 9 = .ok (.iconst 0, 1) := by decide +kernel
theorem dX9_ofPlaces_10 : decode cX9_ofPlaces 10 = .ok (.istore_n 3, 1) := by decide +kernel
theorem dX9_ofPlaces_11 : decode cX9_ofPlaces 11 = .ok (.iload_n 3, 1) := by decide +kernel
theorem dX9_ofPlaces_12 : decode cX9_ofPlaces 12 = .ok (.aload_n 0, 1) := by decide +kernel
theorem dX9_ofPlaces_13 : decode cX9_ofPlaces 13 = .ok (.invokevirtual 30, 3) := by decide +kernel
theorem dX9_ofPlaces_16 : decode cX9_ofPlaces 16 = .ok (.if_icmp .ge 45, 3) := by decide +kernel
theorem dX9_ofPlaces_19 : decode cX9_ofPlaces 19 = .ok (.aload_n 2, 1) := by decide +kernel
theorem dX9_ofPlaces_20 : decode cX9_ofPlaces 20 = .ok (.arraylength, 1) := by decide +kernel
theorem dX9_ofPlaces_21 : decode cX9_ofPlaces 21 = .ok (.iconst 1, 1) := by decide +kernel
theorem dX9_ofPlaces_22 : decode cX9_ofPlaces 22 = .ok (.isub, 1) := by decide +kernel
theorem dX9_ofPlaces_23 : decode cX9_ofPlaces 23 = .ok (.istore 4, 2) := by decide +kernel
theorem dX9_ofPlaces_25 : decode cX9_ofPlaces 25 = .ok (.iload 4, 2) := by decide +kernel
theorem dX9_ofPlaces_27 : decode cX9_ofPlaces 27 = .ok (.ifCond .le 28, 3) := by decide +kernel
theorem dX9_ofPlaces_30 : decode cX9_ofPlaces 30 = .ok (.aload_n 2, 1) := by decide +kernel
theorem dX9_ofPlaces_31 : decode cX9_ofPlaces 31 = .ok (.iload 4, 2) := by decide +kernel
theorem dX9_ofPlaces_33 : decode cX9_ofPlaces 33 = .ok (.aload_n 0, 1) := by decide +kernel
theorem dX9_ofPlaces_34 : decode cX9_ofPlaces 34 = .ok (.iload_n 3, 1) := by decide +kernel
theorem dX9_ofPlaces_35 : decode cX9_ofPlaces 35 = .ok (.invokevirtual 41, 3) := by decide +kernel
theorem dX9_ofPlaces_38 : decode cX9_ofPlaces 38 = .ok (.invokestatic 51, 3) := by decide +kernel
theorem dX9_ofPlaces_41 : decode cX9_ofPlaces 41 = .ok (.ifCond .eq 8, 3) := by decide +kernel
theorem dX9_ofPlaces_44 : decode cX9_ofPlaces 44 = .ok (.aload_n 2, 1) := by decide +kernel
theorem dX9_ofPlaces_45 : decode cX9_ofPlaces 45 = .ok (.iload 4, 2) := by decide +kernel
theorem dX9_ofPlaces_47 : decode cX9_ofPlaces 47 = .ok (.iconst 1, 1) := by decide +kernel
theorem dX9_ofPlaces_48 : decode cX9_ofPlaces 48 = .ok (.bastore, 1) := by decide +kernel
theorem dX9_ofPlaces_49 : decode cX9_ofPlaces 49 = .ok (.iinc 4 (-1), 3) := by decide +kernel
theorem dX9_ofPlaces_52 : decode cX9_ofPlaces 52 = .ok (.goto (-27), 3) := by decide +kernel
theorem dX9_ofPlaces_55 : decode cX9_ofPlaces 55 = .ok (.iinc 3 1, 3) := by decide +kernel
theorem dX9_ofPlaces_58 : decode cX9_ofPlaces 58 = .ok (.goto (-47), 3) := by decide +kernel
theorem dX9_ofPlaces_61 : decode cX9_ofPlaces 61 = .ok (.aload_n 2, 1) := by decide +kernel
theorem dX9_ofPlaces_62 : decode cX9_ofPlaces 62 = .ok (.invokestatic 55, 3) := by decide +kernel
theorem dX9_ofPlaces_65 : decode cX9_ofPlaces 65 = .ok (.areturn, 1) := by decide +kernel
theorem dX9_canPlaceOneMore_0 : decode cX9_canPlaceOneMore 0 = .ok (.iconst 1, 1) := by decide +kernel
theorem dX9_canPlaceOneMore_1 : decode cX9_canPlaceOneMore 1 = .ok (.istore_n 3, 1) := by decide +kernel
theorem dX9_canPlaceOneMore_2 : decode cX9_canPlaceOneMore 2 = .ok (.iload_n 3, 1) := by decide +kernel
theorem dX9_canPlaceOneMore_3 : decode cX9_canPlaceOneMore 3 = .ok (.iload_n 1, 1) := by decide +kernel
theorem dX9_canPlaceOneMore_4 : decode cX9_canPlaceOneMore 4 = .ok (.if_icmp .gt 30, 3) := by decide +kernel
theorem dX9_canPlaceOneMore_7 : decode cX9_canPlaceOneMore 7 = .ok (.iload_n 1, 1) := by decide +kernel
theorem dX9_canPlaceOneMore_8 : decode cX9_canPlaceOneMore 8 = .ok (.iload_n 2, 1) := by decide +kernel
theorem dX9_canPlaceOneMore_9 : decode cX9_canPlaceOneMore 9 = .ok (.iand, 1) := by decide +kernel
theorem dX9_canPlaceOneMore_10 : decode cX9_canPlaceOneMore 10 = .ok (.iload_n 3, 1) := by decide +kernel
theorem dX9_canPlaceOneMore_11 : decode cX9_canPlaceOneMore 11 = .ok (.iand, 1) := by decide +kernel
theorem dX9_canPlaceOneMore_12 : decode cX9_canPlaceOneMore 12 = .ok (.ifCond .eq 15, 3) := by decide +kernel
theorem dX9_canPlaceOneMore_15 : decode cX9_canPlaceOneMore 15 = .ok (.aload_n 0, 1) := by decide +kernel
theorem dX9_canPlaceOneMore_16 : decode cX9_canPlaceOneMore 16 = .ok (.iload_n 1, 1) := by decide +kernel
theorem dX9_canPlaceOneMore_17 : decode cX9_canPlaceOneMore 17 = .ok (.iload_n 3, 1) := by decide +kernel
theorem dX9_canPlaceOneMore_18 : decode cX9_canPlaceOneMore 18 = .ok (.ixor, 1) := by decide +kernel
theorem dX9_canPlaceOneMore_19 : decode cX9_canPlaceOneMore 19 = .ok (.invokestatic 59, 3) := by decide +kernel
theorem dX9_canPlaceOneMore_22 : decode cX9_canPlaceOneMore 22 = .ok (.ifCond .eq 5, 3) := by decide +kernel
theorem dX9_canPlaceOneMore_25 : decode cX9_canPlaceOneMore 25 = .ok (.iconst 1, 1) := by decide +kernel
theorem dX9_canPlaceOneMore_26 : decode cX9_canPlaceOneMore 26 = .ok (.ireturn, 1) := by decide +kernel
theorem dX9_canPlaceOneMore_27 : decode cX9_canPlaceOneMore 27 = .ok (.iload_n 3, 1) := by decide +kernel
theorem dX9_canPlaceOneMore_28 : decode cX9_canPlaceOneMore 28 = .ok (.iconst 1, 1) := by decide +kernel
theorem dX9_canPlaceOneMore_29 : decode cX9_canPlaceOneMore 29 = .ok (.ishl, 1) := by decide +kernel
theorem dX9_canPlaceOneMore_30 : decode cX9_canPlaceOneMore 30 = .ok (.istore_n 3, 1) := by decide +kernel
theorem dX9_canPlaceOneMore_31 : decode cX9_canPlaceOneMore 31 = .ok (.goto (-29), 3) := by decide +kernel
theorem dX9_canPlaceOneMore_34 : decode cX9_canPlaceOneMore 34 = .ok (.iconst 0, 1) := by decide +kernel
theorem dX9_canPlaceOneMore_35 : decode cX9_canPlaceOneMore 35 = .ok (.ireturn, 1) := by decide +kernel
theorem dX9_ofBases_0 : decode cX9_ofBases 0 = .ok (.iload_n 1, 1) := by decide +kernel
theorem dX9_ofBases_1 : decode cX9_ofBases 1 = .ok (.invokestatic 18, 3) := by decide +kernel
theorem dX9_ofBases_4 : decode cX9_ofBases 4 = .ok (.astore_n 2, 1) := by decide +kernel
theorem dX9_ofBases_5 : decode cX9_ofBases 5 = .ok (.iconst 0, 1) := by decide +kernel
theorem dX9_ofBases_6 : decode cX9_ofBases 6 = .ok (.istore_n 3, 1) := by decide +kernel
theorem dX9_ofBases_7 : decode cX9_ofBases 7 = .ok (.iload_n 3, 1) := by decide +kernel
theorem dX9_ofBases_8 : decode cX9_ofBases 8 = .ok (.aload_n 0, 1) := by decide +kernel
theorem dX9_ofBases_9 : decode cX9_ofBases 9 = .ok (.invokevirtual 30, 3) := by decide +kernel
theorem dX9_ofBases_12 : decode cX9_ofBases 12 = .ok (.if_icmp .ge 33, 3) := by decide +kernel
theorem dX9_ofBases_15 : decode cX9_ofBases 15 = .ok (.aload_n 0, 1) := by decide +kernel
theorem dX9_ofBases_16 : decode cX9_ofBases 16 = .ok (.iload_n 3, 1) := by decide +kernel
theorem dX9_ofBases_17 : decode cX9_ofBases 17 = .ok (.invokevirtual 41, 3) := by decide +kernel
theorem dX9_ofBases_20 : decode cX9_ofBases 20 = .ok (.istore 4, 2) := by decide +kernel
theorem dX9_ofBases_22 : decode cX9_ofBases 22 = .ok (.iload 4, 2) := by decide +kernel
theorem dX9_ofBases_24 : decode cX9_ofBases 24 = .ok (.ifCond .lt 15, 3) := by decide +kernel
theorem dX9_ofBases_27 : decode cX9_ofBases 27 = .ok (.iload 4, 2) := by decide +kernel
theorem dX9_ofBases_29 : decode cX9_ofBases 29 = .ok (.aload_n 2, 1) := by decide +kernel
theorem dX9_ofBases_30 : decode cX9_ofBases 30 = .ok (.arraylength, 1) := by decide +kernel
theorem dX9_ofBases_31 : decode cX9_ofBases 31 = .ok (.if_icmp .ge 8, 3) := by decide +kernel
theorem dX9_ofBases_34 : decode cX9_ofBases 34 = .ok (.aload_n 2, 1) := by decide +kernel
theorem dX9_ofBases_35 : decode cX9_ofBases 35 = .ok (.iload 4, 2) := by decide +kernel
theorem dX9_ofBases_37 : decode cX9_ofBases 37 = .ok (.iconst 1, 1) := by decide +kernel
theorem dX9_ofBases_38 : decode cX9_ofBases 38 = .ok (.bastore, 1) := by decide +kernel
theorem dX9_ofBases_39 : decode cX9_ofBases 39 = .ok (.iinc 3 1, 3) := by decide +kernel
theorem dX9_ofBases_42 : decode cX9_ofBases 42 = .ok (.goto (-35), 3) := by decide +kernel
theorem dX9_ofBases_45 : decode cX9_ofBases 45 = .ok (.aload_n 2, 1) := by decide +kernel
theorem dX9_ofBases_46 : decode cX9_ofBases 46 = .ok (.arraylength, 1) := by decide +kernel
theorem dX9_ofBases_47 : decode cX9_ofBases 47 = .ok (.iconst 1, 1) := by decide +kernel
theorem dX9_ofBases_48 : decode cX9_ofBases 48 = .ok (.isub, 1) := by decide +kernel
theorem dX9_ofBases_49 : decode cX9_ofBases 49 = .ok (.istore_n 3, 1) := by decide +kernel
theorem dX9_ofBases_50 : decode cX9_ofBases 50 = .ok (.iload_n 3, 1) := by decide +kernel
theorem dX9_ofBases_51 : decode cX9_ofBases 51 = .ok (.ifCond .lt 43, 3) := by decide +kernel
theorem dX9_ofBases_54 : decode cX9_ofBases 54 = .ok (.iconst 1, 1) := by decide +kernel
theorem dX9_ofBases_55 : decode cX9_ofBases 55 = .ok (.istore 4, 2) := by decide +kernel
theorem dX9_ofBases_57 : decode cX9_ofBases 57 = .ok (.iload 4, 2) := by decide +kernel
theorem dX9_ofBases_59 : decode cX9_ofBases 59 = .ok (.aload_n 2, 1) := by decide +kernel
theorem dX9_ofBases_60 : decode cX9_ofBases 60 = .ok (.arraylength, 1) := by decide +kernel
theorem dX9_ofBases_61 : decode cX9_ofBases 61 = .ok (.if_icmp .ge 27, 3) := by decide +kernel
theorem dX9_ofBases_64 : decode cX9_ofBases 64 = .ok (.aload_n 2, 1) := by decide +kernel
theorem dX9_ofBases_65 : decode cX9_ofBases 65 = .ok (.iload_n 3, 1) := by decide +kernel
theorem dX9_ofBases_66 : decode cX9_ofBases 66 = .ok (.iload 4, 2) := by decide +kernel
theorem dX9_ofBases_68 : decode cX9_ofBases 68 = .ok (.ior, 1) := by decide +kernel
theorem dX9_ofBases_69 : decode cX9_ofBases 69 = .ok (.invokestatic 59, 3) := by decide +kernel
theorem dX9_ofBases_72 : decode cX9_ofBases 72 = .ok (.ifCond .eq 7, 3) := by decide +kernel
theorem dX9_ofBases_75 : decode cX9_ofBases 75 = .ok (.aload_n 2, 1) := by decide +kernel
theorem dX9_ofBases_76 : decode cX9_ofBases 76 = .ok (.iload_n 3, 1) := by decide +kernel
theorem dX9_ofBases_77 : decode cX9_ofBases 77 = .ok (.iconst 1, 1) := by decide +kernel
theorem dX9_ofBases_78 : decode cX9_ofBases 78 = .ok (.bastore, 1) := by decide +kernel
theorem dX9_ofBases_79 : decode cX9_ofBases 79 = .ok (.iload 4, 2) := by decide +kernel
theorem dX9_ofBases_81 : decode cX9_ofBases 81 = .ok (.iconst 1, 1) := by decide +kernel
theorem dX9_ofBases_82 : decode cX9_ofBases 82 = .ok (.ishl, 1) := by decide +kernel
theorem dX9_ofBases_83 : decode cX9_ofBases 83 = .ok (.istore 4, 2) := by decide +kernel
theorem dX9_ofBases_85 : decode cX9_ofBases 85 = .ok (.goto (-28), 3) := by decide +kernel
theorem dX9_ofBases_88 : decode cX9_ofBases 88 = .ok (.iinc 3 (-1), 3) := by decide +kernel
theorem dX9_ofBases_91 : decode cX9_ofBases 91 = .ok (.goto (-41), 3) := by decide +kernel
theorem dX9_ofBases_94 : decode cX9_ofBases 94 = .ok (.aload_n 2, 1) := by decide +kernel
theorem dX9_ofBases_95 : decode cX9_ofBases 95 = .ok (.invokestatic 55, 3) := by decide +kernel
theorem dX9_ofBases_98 : decode cX9_ofBases 98 = .ok (.areturn, 1) := by decide +kernel
theorem dX9_ranked_0 : decode cX9_ranked 0 = .ok (.iconst 0, 1) := by decide +kernel
theorem dX9_ranked_1 : decode cX9_ranked 1 = .ok (.istore_n 1, 1) := by decide +kernel
theorem dX9_ranked_2 : decode cX9_ranked 2 = .ok (.iload_n 1, 1) := by decide +kernel
theorem dX9_ranked_3 : decode cX9_ranked 3 = .ok (.aload_n 0, 1) := by decide +kernel
theorem dX9_ranked_4 : decode cX9_ranked 4 = .ok (.arraylength, 1) := by decide +kernel
theorem dX9_ranked_5 : decode cX9_ranked 5 = .ok (.if_icmp .ge 66, 3) := by decide +kernel
theorem dX9_ranked_8 : decode cX9_ranked 8 = .ok (.iconst 0, 1) := by decide +kernel
theorem dX9_ranked_9 : decode cX9_ranked 9 = .ok (.istore_n 2, 1) := by decide +kernel
theorem dX9_ranked_10 : decode cX9_ranked 10 = .ok (.aload_n 0, 1) := by decide +kernel
theorem dX9_ranked_11 : decode cX9_ranked 11 = .ok (.iload_n 1, 1) := by decide +kernel
theorem dX9_ranked_12 : decode cX9_ranked 12 = .ok (.baload, 1) := by decide +kernel
theorem dX9_ranked_13 : decode cX9_ranked 13 = .ok (.ifCond .eq 11, 3) := by decide +kernel
theorem dX9_ranked_16 : decode cX9_ranked 16 = .ok (.iload_n 1, 1) := by decide +kernel
theorem dX9_ranked_17 : decode cX9_ranked 17 = .ok (.invokestatic 24, 3) := by decide +kernel
theorem dX9_ranked_20 : decode cX9_ranked 20 = .ok (.istore_n 2, 1) := by decide +kernel
theorem dX9_ranked_21 : decode cX9_ranked 21 = .ok (.goto 39, 3) := by decide +kernel
theorem dX9_ranked_24 : decode cX9_ranked 24 = .ok (.iconst 1, 1) := by decide +kernel
theorem dX9_ranked_25 : decode cX9_ranked 25 = .ok (.istore_n 3, 1) := by decide +kernel
theorem dX9_ranked_26 : decode cX9_ranked 26 = .ok (.iload_n 3, 1) := by decide +kernel
theorem dX9_ranked_27 : decode cX9_ranked 27 = .ok (.iload_n 1, 1) := by decide +kernel
theorem dX9_ranked_28 : decode cX9_ranked 28 = .ok (.if_icmp .gt 32, 3) := by decide +kernel
theorem dX9_ranked_31 : decode cX9_ranked 31 = .ok (.iload_n 2, 1) := by decide +kernel
theorem dX9_ranked_32 : decode cX9_ranked 32 = .ok (.iload_n 1, 1) := by decide +kernel
theorem dX9_ranked_33 : decode cX9_ranked 33 = .ok (.iload_n 3, 1) := by decide +kernel
theorem dX9_ranked_34 : decode cX9_ranked 34 = .ok (.iand, 1) := by decide +kernel
theorem dX9_ranked_35 : decode cX9_ranked 35 = .ok (.ifCond .eq 13, 3) := by decide +kernel
theorem dX9_ranked_38 : decode cX9_ranked 38 = .ok (.aload_n 0, 1) := by decide +kernel
theorem dX9_ranked_39 : decode cX9_ranked 39 = .ok (.iload_n 1, 1) := by decide +kernel
theorem dX9_ranked_40 : decode cX9_ranked 40 = .ok (.iload_n 3, 1) := by decide +kernel
theorem dX9_ranked_41 : decode cX9_ranked 41 = .ok (.ixor, 1) := by decide +kernel
theorem dX9_ranked_42 : decode cX9_ranked 42 = .ok (.invokestatic 59, 3) := by decide +kernel
theorem dX9_ranked_45 : decode cX9_ranked 45 = .ok (.goto 4, 3) := by decide +kernel
theorem dX9_ranked_48 : decode cX9_ranked 48 = .ok (.iconst 0, 1) := by decide +kernel
theorem dX9_ranked_49 : decode cX9_ranked 49 = .ok (.invokestatic 15, 3) := by decide +kernel
theorem dX9_ranked_52 : decode cX9_ranked 52 = .ok (.istore_n 2, 1) := by decide +kernel
theorem dX9_ranked_53 : decode cX9_ranked 53 = .ok (.iload_n 3, 1) := by decide +kernel
theorem dX9_ranked_54 : decode cX9_ranked 54 = .ok (.iconst 1, 1) := by decide +kernel
theorem dX9_ranked_55 : decode cX9_ranked 55 = .ok (.ishl, 1) := by decide +kernel
theorem dX9_ranked_56 : decode cX9_ranked 56 = .ok (.istore_n 3, 1) := by decide +kernel
theorem dX9_ranked_57 : decode cX9_ranked 57 = .ok (.goto (-31), 3) := by decide +kernel
theorem dX9_ranked_60 : decode cX9_ranked 60 = .ok (.aload_n 0, 1) := by decide +kernel
theorem dX9_ranked_61 : decode cX9_ranked 61 = .ok (.iload_n 1, 1) := by decide +kernel
theorem dX9_ranked_62 : decode cX9_ranked 62 = .ok (.iload_n 2, 1) := by decide +kernel
theorem dX9_ranked_63 : decode cX9_ranked 63 = .ok (.i2b, 1) := by decide +kernel
theorem dX9_ranked_64 : decode cX9_ranked 64 = .ok (.bastore, 1) := by decide +kernel
theorem dX9_ranked_65 : decode cX9_ranked 65 = .ok (.iinc 1 1, 3) := by decide +kernel
theorem dX9_ranked_68 : decode cX9_ranked 68 = .ok (.goto (-66), 3) := by decide +kernel
theorem dX9_ranked_71 : decode cX9_ranked 71 = .ok (.aload_n 0, 1) := by decide +kernel
theorem dX9_ranked_72 : decode cX9_ranked 72 = .ok (.areturn, 1) := by decide +kernel
theorem dX9_ofDual_0 : decode cX9_ofDual 0 = .ok (.aload_n 0, 1) := by decide +kernel
theorem dX9_ofDual_1 : decode cX9_ofDual 1 = .ok (.arraylength, 1) := by decide +kernel
theorem dX9_ofDual_2 : decode cX9_ofDual 2 = .ok (.newarray .byte, 2) := by decide +kernel
theorem dX9_ofDual_4 : decode cX9_ofDual 4 = .ok (.astore_n 1, 1) := by decide +kernel
theorem dX9_ofDual_5 : decode cX9_ofDual 5 = .ok (.aload_n 0, 1) := by decide +kernel
theorem dX9_ofDual_6 : decode cX9_ofDual 6 = .ok (.arraylength, 1) := by decide +kernel
theorem dX9_ofDual_7 : decode cX9_ofDual 7 = .ok (.iconst 1, 1) := by decide +kernel
theorem dX9_ofDual_8 : decode cX9_ofDual 8 = .ok (.isub, 1) := by decide +kernel
theorem dX9_ofDual_9 : decode cX9_ofDual 9 = .ok (.istore_n 2, 1) := by decide +kernel
theorem dX9_ofDual_10 : decode cX9_ofDual 10 = .ok (.iconst 0, 1) := by decide +kernel
theorem dX9_ofDual_11 : decode cX9_ofDual 11 = .ok (.istore_n 3, 1) := by decide +kernel
theorem dX9_ofDual_12 : decode cX9_ofDual 12 = .ok (.iload_n 3, 1) := by decide +kernel
theorem dX9_ofDual_13 : decode cX9_ofDual 13 = .ok (.aload_n 1, 1) := by decide +kernel
theorem dX9_ofDual_14 : decode cX9_ofDual 14 = .ok (.arraylength, 1) := by decide +kernel
theorem dX9_ofDual_15 : decode cX9_ofDual 15 = .ok (.if_icmp .ge 33, 3) := by decide +kernel
theorem dX9_ofDual_18 : decode cX9_ofDual 18 = .ok (.aload_n 1, 1) := by decide +kernel
theorem dX9_ofDual_19 : decode cX9_ofDual 19 = .ok (.iload_n 3, 1) := by decide +kernel
theorem dX9_ofDual_20 : decode cX9_ofDual 20 = .ok (.iload_n 3, 1) := by decide +kernel
theorem dX9_ofDual_21 : decode cX9_ofDual 21 = .ok (.invokestatic 24, 3) := by decide +kernel
theorem dX9_ofDual_24 : decode cX9_ofDual 24 = .ok (.aload_n 0, 1) := by decide +kernel
theorem dX9_ofDual_25 : decode cX9_ofDual 25 = .ok (.iload_n 2, 1) := by decide +kernel
theorem dX9_ofDual_26 : decode cX9_ofDual 26 = .ok (.invokestatic 59, 3) := by decide +kernel
theorem dX9_ofDual_29 : decode cX9_ofDual 29 = .ok (.isub, 1) := by decide +kernel
theorem dX9_ofDual_30 : decode cX9_ofDual 30 = .ok (.aload_n 0, 1) := by decide +kernel
theorem dX9_ofDual_31 : decode cX9_ofDual 31 = .ok (.iload_n 2, 1) := by decide +kernel
theorem dX9_ofDual_32 : decode cX9_ofDual 32 = .ok (.iload_n 3, 1) := by decide +kernel
theorem dX9_ofDual_33 : decode cX9_ofDual 33 = .ok (.iconst (-1), 1) := by decide +kernel
theorem dX9_ofDual_34 : decode cX9_ofDual 34 = .ok (.ixor, 1) := by decide +kernel
theorem dX9_ofDual_35 : decode cX9_ofDual 35 = .ok (.iand, 1) := by decide +kernel
theorem dX9_ofDual_36 : decode cX9_ofDual 36 = .ok (.invokestatic 59, 3) := by decide +kernel
theorem dX9_ofDual_39 : decode cX9_ofDual 39 = .ok (.iadd, 1) := by decide +kernel
theorem dX9_ofDual_40 : decode cX9_ofDual 40 = .ok (.i2b, 1) := by decide +kernel
theorem dX9_ofDual_41 : decode cX9_ofDual 41 = .ok (.bastore, 1) := by decide +kernel
theorem dX9_ofDual_42 : decode cX9_ofDual 42 = .ok (.iinc 3 1, 3) := by decide +kernel
theorem dX9_ofDual_45 : decode cX9_ofDual 45 = .ok (.goto (-33), 3) := by decide +kernel
theorem dX9_ofDual_48 : decode cX9_ofDual 48 = .ok (.aload_n 1, 1) := by decide +kernel
theorem dX9_ofDual_49 : decode cX9_ofDual 49 = .ok (.areturn, 1) := by decide +kernel
theorem dX9_ofPart_0 : decode cX9_ofPart 0 = .ok (.aload_n 0, 1) := by decide +kernel
theorem dX9_ofPart_1 : decode cX9_ofPart 1 = .ok (.getfield 62, 3) := by decide +kernel
theorem dX9_ofPart_4 : decode cX9_ofPart 4 = .ok (.iconst 1, 1) := by decide +kernel
theorem dX9_ofPart_5 : decode cX9_ofPart 5 = .ok (.isub, 1) := by decide +kernel
theorem dX9_ofPart_6 : decode cX9_ofPart 6 = .ok (.invokestatic 18, 3) := by decide +kernel
theorem dX9_ofPart_9 : decode cX9_ofPart 9 = .ok (.astore_n 3, 1) := by decide +kernel
theorem dX9_ofPart_10 : decode cX9_ofPart 10 = .ok (.iconst 1, 1) := by decide +kernel
theorem dX9_ofPart_11 : decode cX9_ofPart 11 = .ok (.iload_n 1, 1) := by decide +kernel
theorem dX9_ofPart_12 : decode cX9_ofPart 12 = .ok (.ishl, 1) := by decide +kernel
theorem dX9_ofPart_13 : decode cX9_ofPart 13 = .ok (.istore 4, 2) := by decide +kernel
theorem dX9_ofPart_15 : decode cX9_ofPart 15 = .ok (.iload_n 2, 1) := by decide +kernel
theorem dX9_ofPart_16 : decode cX9_ofPart 16 = .ok (.ifCond .eq 8, 3) := by decide +kernel
theorem dX9_ofPart_19 : decode cX9_ofPart 19 = .ok (.iload 4, 2) := by decide +kernel
theorem dX9_ofPart_21 : decode cX9_ofPart 21 = .ok (.goto 4, 3) := by decide +kernel
theorem dX9_ofPart_24 : decode cX9_ofPart 24 = .ok (.iconst 0, 1) := by decide +kernel
theorem dX9_ofPart_25 : decode cX9_ofPart 25 = .ok (.istore 5, 2) := by decide +kernel
theorem dX9_ofPart_27 : decode cX9_ofPart 27 = .ok (.iconst 0, 1) := by decide +kernel
theorem dX9_ofPart_28 : decode cX9_ofPart 28 = .ok (.istore 6, 2) := by decide +kernel
theorem dX9_ofPart_30 : decode cX9_ofPart 30 = .ok (.iload 6, 2) := by decide +kernel
theorem dX9_ofPart_32 : decode cX9_ofPart 32 = .ok (.aload_n 3, 1) := by decide +kernel
theorem dX9_ofPart_33 : decode cX9_ofPart 33 = .ok (.arraylength, 1) := by decide +kernel
theorem dX9_ofPart_34 : decode cX9_ofPart 34 = .ok (.if_icmp .ge 53, 3) := by decide +kernel
theorem dX9_ofPart_37 : decode cX9_ofPart 37 = .ok (.iload 6, 2) := by decide +kernel
theorem dX9_ofPart_39 : decode cX9_ofPart 39 = .ok (.iload 4, 2) := by decide +kernel
theorem dX9_ofPart_41 : decode cX9_ofPart 41 = .ok (.iconst 1, 1) := by decide +kernel
theorem dX9_ofPart_42 : decode cX9_ofPart 42 = .ok (.isub, 1) := by decide +kernel
theorem dX9_ofPart_43 : decode cX9_ofPart 43 = .ok (.iand, 1) := by decide +kernel
theorem dX9_ofPart_44 : decode cX9_ofPart 44 = .ok (.istore 7, 2) := by decide +kernel
theorem dX9_ofPart_46 : decode cX9_ofPart 46 = .ok (.iload 7, 2) := by decide +kernel
theorem dX9_ofPart_48 : decode cX9_ofPart 48 = .ok (.iload 6, 2) := by decide +kernel
theorem dX9_ofPart_50 : decode cX9_ofPart 50 = .ok (.iload 7, 2) := by decide +kernel
theorem dX9_ofPart_52 : decode cX9_ofPart 52 = .ok (.iconst (-1), 1) := by decide +kernel
theorem dX9_ofPart_53 : decode cX9_ofPart 53 = .ok (.ixor, 1) := by decide +kernel
theorem dX9_ofPart_54 : decode cX9_ofPart 54 = .ok (.iand, 1) := by decide +kernel
theorem dX9_ofPart_55 : decode cX9_ofPart 55 = .ok (.iconst 1, 1) := by decide +kernel
theorem dX9_ofPart_56 : decode cX9_ofPart 56 = .ok (.ishl, 1) := by decide +kernel
theorem dX9_ofPart_57 : decode cX9_ofPart 57 = .ok (.ior, 1) := by decide +kernel
theorem dX9_ofPart_58 : decode cX9_ofPart 58 = .ok (.istore 8, 2) := by decide +kernel
theorem dX9_ofPart_60 : decode cX9_ofPart 60 = .ok (.aload_n 3, 1) := by decide +kernel
theorem dX9_ofPart_61 : decode cX9_ofPart 61 = .ok (.iload 6, 2) := by decide +kernel
theorem dX9_ofPart_63 : decode cX9_ofPart 63 = .ok (.aload_n 0, 1) := by decide +kernel
theorem dX9_ofPart_64 : decode cX9_ofPart 64 = .ok (.iload 8, 2) := by decide +kernel
theorem dX9_ofPart_66 : decode cX9_ofPart 66 = .ok (.iload 5, 2) := by decide +kernel
theorem dX9_ofPart_68 : decode cX9_ofPart 68 = .ok (.ior, 1) := by decide +kernel
theorem dX9_ofPart_69 : decode cX9_ofPart 69 = .ok (.invokevirtual 68, 3) := by decide +kernel
theorem dX9_ofPart_72 : decode cX9_ofPart 72 = .ok (.aload_n 0, 1) := by decide +kernel
theorem dX9_ofPart_73 : decode cX9_ofPart 73 = .ok (.iload 5, 2) := by decide +kernel
theorem dX9_ofPart_75 : decode cX9_ofPart 75 = .ok (.invokevirtual 68, 3) := by decide +kernel
theorem dX9_ofPart_78 : decode cX9_ofPart 78 = .ok (.isub, 1) := by decide +kernel
theorem dX9_ofPart_79 : decode cX9_ofPart 79 = .ok (.i2b, 1) := by decide +kernel
theorem dX9_ofPart_80 : decode cX9_ofPart 80 = .ok (.bastore, 1) := by decide +kernel
theorem dX9_ofPart_81 : decode cX9_ofPart 81 = .ok (.iinc 6 1, 3) := by decide +kernel
theorem dX9_ofPart_84 : decode cX9_ofPart 84 = .ok (.goto (-54), 3) := by decide +kernel
theorem dX9_ofPart_87 : decode cX9_ofPart 87 = .ok (.aload_n 3, 1) := by decide +kernel
theorem dX9_ofPart_88 : decode cX9_ofPart 88 = .ok (.areturn, 1) := by decide +kernel
theorem dX9_ofSum_0 : decode cX9_ofSum 0 = .ok (.aload_n 0, 1) := by decide +kernel
theorem dX9_ofSum_1 : decode cX9_ofSum 1 = .ok (.getfield 62, 3) := by decide +kernel
theorem dX9_ofSum_4 : decode cX9_ofSum 4 = .ok (.aload_n 1, 1) := by decide +kernel
theorem dX9_ofSum_5 : decode cX9_ofSum 5 = .ok (.getfield 62, 3) := by decide +kernel
theorem dX9_ofSum_8 : decode cX9_ofSum 8 = .ok (.iadd, 1) := by decide +kernel
theorem dX9_ofSum_9 : decode cX9_ofSum 9 = .ok (.invokestatic 18, 3) := by decide +kernel
theorem dX9_ofSum_12 : decode cX9_ofSum 12 = .ok (.astore_n 2, 1) := by decide +kernel
theorem dX9_ofSum_13 : decode cX9_ofSum 13 = .ok (.iconst 0, 1) := by decide +kernel
theorem dX9_ofSum_14 : decode cX9_ofSum 14 = .ok (.istore_n 3, 1) := by decide +kernel
theorem dX9_ofSum_15 : decode cX9_ofSum 15 = .ok (.iload_n 3, 1) := by decide +kernel
theorem dX9_ofSum_16 : decode cX9_ofSum 16 = .ok (.aload_n 2, 1) := by decide +kernel
theorem dX9_ofSum_17 : decode cX9_ofSum 17 = .ok (.arraylength, 1) := by decide +kernel
theorem dX9_ofSum_18 : decode cX9_ofSum 18 = .ok (.if_icmp .ge 34, 3) := by decide +kernel
theorem dX9_ofSum_21 : decode cX9_ofSum 21 = .ok (.aload_n 2, 1) := by decide +kernel
theorem dX9_ofSum_22 : decode cX9_ofSum 22 = .ok (.iload_n 3, 1) := by decide +kernel
theorem dX9_ofSum_23 : decode cX9_ofSum 23 = .ok (.aload_n 0, 1) := by decide +kernel
theorem dX9_ofSum_24 : decode cX9_ofSum 24 = .ok (.iload_n 3, 1) := by decide +kernel
theorem dX9_ofSum_25 : decode cX9_ofSum 25 = .ok (.aload_n 0, 1) := by decide +kernel
theorem dX9_ofSum_26 : decode cX9_ofSum 26 = .ok (.getfield 71, 3) := by decide +kernel
theorem dX9_ofSum_29 : decode cX9_ofSum 29 = .ok (.iand, 1) := by decide +kernel
theorem dX9_ofSum_30 : decode cX9_ofSum 30 = .ok (.invokevirtual 68, 3) := by decide +kernel
theorem dX9_ofSum_33 : decode cX9_ofSum 33 = .ok (.aload_n 1, 1) := by decide +kernel
theorem dX9_ofSum_34 : decode cX9_ofSum 34 = .ok (.iload_n 3, 1) := by decide +kernel
theorem dX9_ofSum_35 : decode cX9_ofSum 35 = .ok (.aload_n 0, 1) := by decide +kernel
theorem dX9_ofSum_36 : decode cX9_ofSum 36 = .ok (.getfield 62, 3) := by decide +kernel
theorem dX9_ofSum_39 : decode cX9_ofSum 39 = .ok (.ishr, 1) := by decide +kernel
theorem dX9_ofSum_40 : decode cX9_ofSum 40 = .ok (.invokevirtual 68, 3) := by decide +kernel
theorem dX9_ofSum_43 : decode cX9_ofSum 43 = .ok (.iadd, 1) := by decide +kernel
theorem dX9_ofSum_44 : decode cX9_ofSum 44 = .ok (.i2b, 1) := by decide +kernel
theorem dX9_ofSum_45 : decode cX9_ofSum 45 = .ok (.bastore, 1) := by decide +kernel
theorem dX9_ofSum_46 : decode cX9_ofSum 46 = .ok (.iinc 3 1, 3) := by decide +kernel
theorem dX9_ofSum_49 : decode cX9_ofSum 49 = .ok (.goto (-34), 3) := by decide +kernel
theorem dX9_ofSum_52 : decode cX9_ofSum 52 = .ok (.aload_n 2, 1) := by decide +kernel
theorem dX9_ofSum_53 : decode cX9_ofSum 53 = .ok (.areturn, 1) := by decide +kernel
theorem dX9_ofUnion_0 : decode cX9_ofUnion 0 = .ok (.aload_n 0, 1) := by decide +kernel
theorem dX9_ofUnion_1 : decode cX9_ofUnion 1 = .ok (.getfield 62, 3) := by decide +kernel
theorem dX9_ofUnion_4 : decode cX9_ofUnion 4 = .ok (.invokestatic 18, 3) := by decide +kernel
theorem dX9_ofUnion_7 : decode cX9_ofUnion 7 = .ok (.astore_n 2, 1) := by decide +kernel
theorem dX9_ofUnion_8 : decode cX9_ofUnion 8 = .ok (.iconst 0, 1) := by decide +kernel
theorem dX9_ofUnion_9 : decode cX9_ofUnion 9 = .ok (.istore_n 3, 1) := by decide +kernel
theorem dX9_ofUnion_10 : decode cX9_ofUnion 10 = .ok (.iload_n 3, 1) := by decide +kernel
theorem dX9_ofUnion_11 : decode cX9_ofUnion 11 = .ok (.aload_n 2, 1) := by decide +kernel
theorem dX9_ofUnion_12 : decode cX9_ofUnion 12 = .ok (.arraylength, 1) := by decide +kernel
theorem dX9_ofUnion_13 : decode cX9_ofUnion 13 = .ok (.if_icmp .ge 22, 3) := by decide +kernel
theorem dX9_ofUnion_16 : decode cX9_ofUnion 16 = .ok (.aload_n 0, 1) := by decide +kernel
theorem dX9_ofUnion_17 : decode cX9_ofUnion 17 = .ok (.aload_n 1, 1) := by decide +kernel
theorem dX9_ofUnion_18 : decode cX9_ofUnion 18 = .ok (.iload_n 3, 1) := by decide +kernel
theorem dX9_ofUnion_19 : decode cX9_ofUnion 19 = .ok (.invokestatic 74, 3) := by decide +kernel
theorem dX9_ofUnion_22 : decode cX9_ofUnion 22 = .ok (.ifCond .eq 7, 3) := by decide +kernel
theorem dX9_ofUnion_25 : decode cX9_ofUnion 25 = .ok (.aload_n 2, 1) := by decide +kernel
theorem dX9_ofUnion_26 : decode cX9_ofUnion 26 = .ok (.iload_n 3, 1) := by decide +kernel
theorem dX9_ofUnion_27 : decode cX9_ofUnion 27 = .ok (.iconst 1, 1) := by decide +kernel
theorem dX9_ofUnion_28 : decode cX9_ofUnion 28 = .ok (.bastore, 1) := by decide +kernel
theorem dX9_ofUnion_29 : decode cX9_ofUnion 29 = .ok (.iinc 3 1, 3) := by decide +kernel
theorem dX9_ofUnion_32 : decode cX9_ofUnion 32 = .ok (.goto (-22), 3) := by decide +kernel
theorem dX9_ofUnion_35 : decode cX9_ofUnion 35 = .ok (.aload_n 2, 1) := by decide +kernel
theorem dX9_ofUnion_36 : decode cX9_ofUnion 36 = .ok (.invokestatic 55, 3) := by decide +kernel
theorem dX9_ofUnion_39 : decode cX9_ofUnion 39 = .ok (.areturn, 1) := by decide +kernel
theorem dX9_canBeParted_0 : decode cX9_canBeParted 0 = .ok (.iload_n 2, 1) := by decide +kernel
theorem dX9_canBeParted_1 : decode cX9_canBeParted 1 = .ok (.istore_n 3, 1) := by decide +kernel
theorem dX9_canBeParted_2 : decode cX9_canBeParted 2 = .ok (.iload_n 3, 1) := by decide +kernel
theorem dX9_canBeParted_3 : decode cX9_canBeParted 3 = .ok (.ifCond .le 36, 3) := by decide +kernel
theorem dX9_canBeParted_6 : decode cX9_canBeParted 6 = .ok (.aload_n 0, 1) := by decide +kernel
theorem dX9_canBeParted_7 : decode cX9_canBeParted 7 = .ok (.iload_n 3, 1) := by decide +kernel
theorem dX9_canBeParted_8 : decode cX9_canBeParted 8 = .ok (.iconst 1, 1) := by decide +kernel
theorem dX9_canBeParted_9 : decode cX9_canBeParted 9 = .ok (.invokevirtual 78, 3) := by decide +kernel
theorem dX9_canBeParted_12 : decode cX9_canBeParted 12 = .ok (.ifCond .eq 18, 3) := by decide +kernel
theorem dX9_canBeParted_15 : decode cX9_canBeParted 15 = .ok (.aload_n 1, 1) := by decide +kernel
theorem dX9_canBeParted_16 : decode cX9_canBeParted 16 = .ok (.iload_n 2, 1) := by decide +kernel
theorem dX9_canBeParted_17 : decode cX9_canBeParted 17 = .ok (.iload_n 3, 1) := by decide +kernel
theorem dX9_canBeParted_18 : decode cX9_canBeParted 18 = .ok (.iconst (-1), 1) := by decide +kernel
theorem dX9_canBeParted_19 : decode cX9_canBeParted 19 = .ok (.ixor, 1) := by decide +kernel
theorem dX9_canBeParted_20 : decode cX9_canBeParted 20 = .ok (.iand, 1) := by decide +kernel
theorem dX9_canBeParted_21 : decode cX9_canBeParted 21 = .ok (.iconst 1, 1) := by decide +kernel
theorem dX9_canBeParted_22 : decode cX9_canBeParted 22 = .ok (.invokevirtual 78, 3) := by decide +kernel
theorem dX9_canBeParted_25 : decode cX9_canBeParted 25 = .ok (.ifCond .eq 5, 3) := by decide +kernel
theorem dX9_canBeParted_28 : decode cX9_canBeParted 28 = .ok (.iconst 1, 1) := by decide +kernel
theorem dX9_canBeParted_29 : decode cX9_canBeParted 29 = .ok (.ireturn, 1) := by decide +kernel
theorem dX9_canBeParted_30 : decode cX9_canBeParted 30 = .ok (.iload_n 3, 1) := by decide +kernel
theorem dX9_canBeParted_31 : decode cX9_canBeParted 31 = .ok (.iconst 1, 1) := by decide +kernel
theorem dX9_canBeParted_32 : decode cX9_canBeParted 32 = .ok (.isub, 1) := by decide +kernel
theorem dX9_canBeParted_33 : decode cX9_canBeParted 33 = .ok (.iload_n 2, 1) := by decide +kernel
theorem dX9_canBeParted_34 : decode cX9_canBeParted 34 = .ok (.iand, 1) := by decide +kernel
theorem dX9_canBeParted_35 : decode cX9_canBeParted 35 = .ok (.istore_n 3, 1) := by decide +kernel
theorem dX9_canBeParted_36 : decode cX9_canBeParted 36 = .ok (.goto (-34), 3) := by decide +kernel
theorem dX9_canBeParted_39 : decode cX9_canBeParted 39 = .ok (.aload_n 1, 1) := by decide +kernel
theorem dX9_canBeParted_40 : decode cX9_canBeParted 40 = .ok (.iload_n 2, 1) := by decide +kernel
theorem dX9_canBeParted_41 : decode cX9_canBeParted 41 = .ok (.iconst 1, 1) := by decide +kernel
theorem dX9_canBeParted_42 : decode cX9_canBeParted 42 = .ok (.invokevirtual 78, 3) := by decide +kernel
theorem dX9_canBeParted_45 : decode cX9_canBeParted 45 = .ok (.ireturn, 1) := by decide +kernel
theorem dX9_ofTruncation_0 : decode cX9_ofTruncation 0 = .ok (.aload_n 0, 1) := by decide +kernel
theorem dX9_ofTruncation_1 : decode cX9_ofTruncation 1 = .ok (.getfield 62, 3) := by decide +kernel
theorem dX9_ofTruncation_4 : decode cX9_ofTruncation 4 = .ok (.invokestatic 18, 3) := by decide +kernel
theorem dX9_ofTruncation_7 : decode cX9_ofTruncation 7 = .ok (.astore_n 1, 1) := by decide +kernel
theorem dX9_ofTruncation_8 : decode cX9_ofTruncation 8 = .ok (.iconst 0, 1) := by decide +kernel
theorem dX9_ofTruncation_9 : decode cX9_ofTruncation 9 = .ok (.istore_n 2, 1) := by decide +kernel
theorem dX9_ofTruncation_10 : decode cX9_ofTruncation 10 = .ok (.iload_n 2, 1) := by decide +kernel
theorem dX9_ofTruncation_11 : decode cX9_ofTruncation 11 = .ok (.aload_n 1, 1) := by decide +kernel
theorem dX9_ofTruncation_12 : decode cX9_ofTruncation 12 = .ok (.arraylength, 1) := by decide +kernel
theorem dX9_ofTruncation_13 : decode cX9_ofTruncation 13 = .ok (.if_icmp .ge 27, 3) := by decide +kernel
theorem dX9_ofTruncation_16 : decode cX9_ofTruncation 16 = .ok (.aload_n 1, 1) := by decide +kernel
theorem dX9_ofTruncation_17 : decode cX9_ofTruncation 17 = .ok (.iload_n 2, 1) := by decide +kernel
theorem dX9_ofTruncation_18 : decode cX9_ofTruncation 18 = .ok (.aload_n 0, 1) := by decide +kernel
theorem dX9_ofTruncation_19 : decode cX9_ofTruncation 19 = .ok (.iload_n 2, 1) := by decide +kernel
theorem dX9_ofTruncation_20 : decode cX9_ofTruncation 20 = .ok (.invokevirtual 68, 3) := by decide +kernel
theorem dX9_ofTruncation_23 : decode cX9_ofTruncation 23 = .ok (.aload_n 0, 1) := by decide +kernel
theorem dX9_ofTruncation_24 : decode cX9_ofTruncation 24 = .ok (.getfield 82, 3) := by decide +kernel
theorem dX9_ofTruncation_27 : decode cX9_ofTruncation 27 = .ok (.iconst 1, 1) := by decide +kernel
theorem dX9_ofTruncation_28 : decode cX9_ofTruncation 28 = .ok (.isub, 1) := by decide +kernel
theorem dX9_ofTruncation_29 : decode cX9_ofTruncation 29 = .ok (.invokestatic 9, 3) := by decide +kernel
theorem dX9_ofTruncation_32 : decode cX9_ofTruncation 32 = .ok (.i2b, 1) := by decide +kernel
theorem dX9_ofTruncation_33 : decode cX9_ofTruncation 33 = .ok (.bastore, 1) := by decide +kernel
theorem dX9_ofTruncation_34 : decode cX9_ofTruncation 34 = .ok (.iinc 2 1, 3) := by decide +kernel
theorem dX9_ofTruncation_37 : decode cX9_ofTruncation 37 = .ok (.goto (-27), 3) := by decide +kernel
theorem dX9_ofTruncation_40 : decode cX9_ofTruncation 40 = .ok (.aload_n 1, 1) := by decide +kernel
theorem dX9_ofTruncation_41 : decode cX9_ofTruncation 41 = .ok (.areturn, 1) := by decide +kernel
theorem dX9_ofRelaxation_0 : decode cX9_ofRelaxation 0 = .ok (.aload_n 0, 1) := by decide +kernel
theorem dX9_ofRelaxation_1 : decode cX9_ofRelaxation 1 = .ok (.getfield 62, 3) := by decide +kernel
theorem dX9_ofRelaxation_4 : decode cX9_ofRelaxation 4 = .ok (.invokestatic 18, 3) := by decide +kernel
theorem dX9_ofRelaxation_7 : decode cX9_ofRelaxation 7 = .ok (.astore_n 2, 1) := by decide +kernel
theorem dX9_ofRelaxation_8 : decode cX9_ofRelaxation 8 = .ok (.iconst 0, 1) := by decide +kernel
theorem dX9_ofRelaxation_9 : decode cX9_ofRelaxation 9 = .ok (.istore_n 3, 1) := by decide +kernel
theorem dX9_ofRelaxation_10 : decode cX9_ofRelaxation 10 = .ok (.iload_n 3, 1) := by decide +kernel
theorem dX9_ofRelaxation_11 : decode cX9_ofRelaxation 11 = .ok (.aload_n 2, 1) := by decide +kernel
theorem dX9_ofRelaxation_12 : decode cX9_ofRelaxation 12 = .ok (.arraylength, 1) := by decide +kernel
theorem dX9_ofRelaxation_13 : decode cX9_ofRelaxation 13 = .ok (.if_icmp .ge 30, 3) := by decide +kernel
theorem dX9_ofRelaxation_16 : decode cX9_ofRelaxation 16 = .ok (.aload_n 2, 1) := by decide +kernel
theorem dX9_ofRelaxation_17 : decode cX9_ofRelaxation 17 = .ok (.iload_n 3, 1) := by decide +kernel
theorem dX9_ofRelaxation_18 : decode cX9_ofRelaxation 18 = .ok (.iload_n 3, 1) := by decide +kernel
theorem dX9_ofRelaxation_19 : decode cX9_ofRelaxation 19 = .ok (.iload_n 1, 1) := by decide +kernel
theorem dX9_ofRelaxation_20 : decode cX9_ofRelaxation 20 = .ok (.if_icmp .ne 10, 3) := by decide +kernel
theorem dX9_ofRelaxation_23 : decode cX9_ofRelaxation 23 = .ok (.aload_n 0, 1) := by decide +kernel
theorem dX9_ofRelaxation_24 : decode cX9_ofRelaxation 24 = .ok (.getfield 82, 3) := by decide +kernel
theorem dX9_ofRelaxation_27 : decode cX9_ofRelaxation 27 = .ok (.goto 8, 3) := by decide +kernel
theorem dX9_ofRelaxation_30 : decode cX9_ofRelaxation 30 = .ok (.aload_n 0, 1) := by decide +kernel
theorem dX9_ofRelaxation_31 : decode cX9_ofRelaxation 31 = .ok (.iload_n 3, 1) := by decide +kernel
theorem dX9_ofRelaxation_32 : decode cX9_ofRelaxation 32 = .ok (.invokevirtual 68, 3) := by decide +kernel
theorem dX9_ofRelaxation_35 : decode cX9_ofRelaxation 35 = .ok (.i2b, 1) := by decide +kernel
theorem dX9_ofRelaxation_36 : decode cX9_ofRelaxation 36 = .ok (.bastore, 1) := by decide +kernel
theorem dX9_ofRelaxation_37 : decode cX9_ofRelaxation 37 = .ok (.iinc 3 1, 3) := by decide +kernel
theorem dX9_ofRelaxation_40 : decode cX9_ofRelaxation 40 = .ok (.goto (-30), 3) := by decide +kernel
theorem dX9_ofRelaxation_43 : decode cX9_ofRelaxation 43 = .ok (.aload_n 2, 1) := by decide +kernel
theorem dX9_ofRelaxation_44 : decode cX9_ofRelaxation 44 = .ok (.areturn, 1) := by decide +kernel
theorem dX9_ofExtension_0 : decode cX9_ofExtension 0 = .ok (.aload_n 0, 1) := by decide +kernel
theorem dX9_ofExtension_1 : decode cX9_ofExtension 1 = .ok (.getfield 62, 3) := by decide +kernel
theorem dX9_ofExtension_4 : decode cX9_ofExtension 4 = .ok (.iconst 1, 1) := by decide +kernel
theorem dX9_ofExtension_5 : decode cX9_ofExtension 5 = .ok (.iadd, 1) := by decide +kernel
theorem dX9_ofExtension_6 : decode cX9_ofExtension 6 = .ok (.invokestatic 18, 3) := by decide +kernel
theorem dX9_ofExtension_9 : decode cX9_ofExtension 9 = .ok (.astore_n 2, 1) := by decide +kernel
theorem dX9_ofExtension_10 : decode cX9_ofExtension 10 = .ok (.iconst 0, 1) := by decide +kernel
theorem dX9_ofExtension_11 : decode cX9_ofExtension 11 = .ok (.istore_n 3, 1) := by decide +kernel
theorem dX9_ofExtension_12 : decode cX9_ofExtension 12 = .ok (.iload_n 3, 1) := by decide +kernel
theorem dX9_ofExtension_13 : decode cX9_ofExtension 13 = .ok (.aload_n 2, 1) := by decide +kernel
theorem dX9_ofExtension_14 : decode cX9_ofExtension 14 = .ok (.arraylength, 1) := by decide +kernel
theorem dX9_ofExtension_15 : decode cX9_ofExtension 15 = .ok (.if_icmp .ge 53, 3) := by decide +kernel
theorem dX9_ofExtension_18 : decode cX9_ofExtension 18 = .ok (.iload_n 3, 1) := by decide +kernel
theorem dX9_ofExtension_19 : decode cX9_ofExtension 19 = .ok (.aload_n 0, 1) := by decide +kernel
theorem dX9_ofExtension_20 : decode cX9_ofExtension 20 = .ok (.getfield 71, 3) := by decide +kernel
theorem dX9_ofExtension_23 : decode cX9_ofExtension 23 = .ok (.iand, 1) := by decide +kernel
theorem dX9_ofExtension_24 : decode cX9_ofExtension 24 = .ok (.istore 4, 2) := by decide +kernel
theorem dX9_ofExtension_26 : decode cX9_ofExtension 26 = .ok (.aload_n 0, 1) := by decide +kernel
theorem dX9_ofExtension_27 : decode cX9_ofExtension 27 = .ok (.iload 4, 2) := by decide +kernel
theorem dX9_ofExtension_29 : decode cX9_ofExtension 29 = .ok (.invokevirtual 68, 3) := by decide +kernel
theorem dX9_ofExtension_32 : decode cX9_ofExtension 32 = .ok (.istore 5, 2) := by decide +kernel
theorem dX9_ofExtension_34 : decode cX9_ofExtension 34 = .ok (.iload_n 3, 1) := by decide +kernel
theorem dX9_ofExtension_35 : decode cX9_ofExtension 35 = .ok (.iload 4, 2) := by decide +kernel
theorem dX9_ofExtension_37 : decode cX9_ofExtension 37 = .ok (.if_icmp .eq 19, 3) := by decide +kernel
theorem dX9_ofExtension_40 : decode cX9_ofExtension 40 = .ok (.aload_n 0, 1) := by decide +kernel
theorem dX9_ofExtension_41 : decode cX9_ofExtension 41 = .ok (.iload 4, 2) := by decide +kernel
theorem dX9_ofExtension_43 : decode cX9_ofExtension 43 = .ok (.iload_n 1, 1) := by decide +kernel
theorem dX9_ofExtension_44 : decode cX9_ofExtension 44 = .ok (.ior, 1) := by decide +kernel
theorem dX9_ofExtension_45 : decode cX9_ofExtension 45 = .ok (.invokevirtual 68, 3) := by decide +kernel
theorem dX9_ofExtension_48 : decode cX9_ofExtension 48 = .ok (.iload 5, 2) := by decide +kernel
theorem dX9_ofExtension_50 : decode cX9_ofExtension 50 = .ok (.if_icmp .eq 6, 3) := by decide +kernel
theorem dX9_ofExtension_53 : decode cX9_ofExtension 53 = .ok (.iinc 5 1, 3) := by decide +kernel
theorem dX9_ofExtension_56 : decode cX9_ofExtension 56 = .ok (.aload_n 2, 1) := by decide +kernel
theorem dX9_ofExtension_57 : decode cX9_ofExtension 57 = .ok (.iload_n 3, 1) := by decide +kernel
theorem dX9_ofExtension_58 : decode cX9_ofExtension 58 = .ok (.iload 5, 2) := by decide +kernel
theorem dX9_ofExtension_60 : decode cX9_ofExtension 60 = .ok (.i2b, 1) := by decide +kernel
theorem dX9_ofExtension_61 : decode cX9_ofExtension 61 = .ok (.bastore, 1) := by decide +kernel
theorem dX9_ofExtension_62 : decode cX9_ofExtension 62 = .ok (.iinc 3 1, 3) := by decide +kernel
theorem dX9_ofExtension_65 : decode cX9_ofExtension 65 = .ok (.goto (-53), 3) := by decide +kernel
theorem dX9_ofExtension_68 : decode cX9_ofExtension 68 = .ok (.aload_n 2, 1) := by decide +kernel
theorem dX9_ofExtension_69 : decode cX9_ofExtension 69 = .ok (.areturn, 1) := by decide +kernel
theorem dX9_sortsOf_0 : decode cX9_sortsOf 0 = .ok (.aload_n 0, 1) := by decide +kernel
theorem dX9_sortsOf_1 : decode cX9_sortsOf 1 = .ok (.arraylength, 1) := by decide +kernel
theorem dX9_sortsOf_2 : decode cX9_sortsOf 2 = .ok (.newarray .byte, 2) := by decide +kernel
theorem dX9_sortsOf_4 : decode cX9_sortsOf 4 = .ok (.astore_n 1, 1) := by decide +kernel
theorem dX9_sortsOf_5 : decode cX9_sortsOf 5 = .ok (.iconst 0, 1) := by decide +kernel
theorem dX9_sortsOf_6 : decode cX9_sortsOf 6 = .ok (.istore_n 2, 1) := by decide +kernel
theorem dX9_sortsOf_7 : decode cX9_sortsOf 7 = .ok (.iload_n 2, 1) := by decide +kernel
theorem dX9_sortsOf_8 : decode cX9_sortsOf 8 = .ok (.aload_n 1, 1) := by decide +kernel
theorem dX9_sortsOf_9 : decode cX9_sortsOf 9 = .ok (.arraylength, 1) := by decide +kernel
theorem dX9_sortsOf_10 : decode cX9_sortsOf 10 = .ok (.if_icmp .ge 24, 3) := by decide +kernel
theorem dX9_sortsOf_13 : decode cX9_sortsOf 13 = .ok (.aload_n 1, 1) := by decide +kernel
theorem dX9_sortsOf_14 : decode cX9_sortsOf 14 = .ok (.iload_n 2, 1) := by decide +kernel
theorem dX9_sortsOf_15 : decode cX9_sortsOf 15 = .ok (.aload_n 0, 1) := by decide +kernel
theorem dX9_sortsOf_16 : decode cX9_sortsOf 16 = .ok (.iload_n 2, 1) := by decide +kernel
theorem dX9_sortsOf_17 : decode cX9_sortsOf 17 = .ok (.invokestatic 85, 3) := by decide +kernel
theorem dX9_sortsOf_20 : decode cX9_sortsOf 20 = .ok (.aload_n 0, 1) := by decide +kernel
theorem dX9_sortsOf_21 : decode cX9_sortsOf 21 = .ok (.iload_n 2, 1) := by decide +kernel
theorem dX9_sortsOf_22 : decode cX9_sortsOf 22 = .ok (.invokestatic 88, 3) := by decide +kernel
theorem dX9_sortsOf_25 : decode cX9_sortsOf 25 = .ok (.ior, 1) := by decide +kernel
theorem dX9_sortsOf_26 : decode cX9_sortsOf 26 = .ok (.i2b, 1) := by decide +kernel
theorem dX9_sortsOf_27 : decode cX9_sortsOf 27 = .ok (.bastore, 1) := by decide +kernel
theorem dX9_sortsOf_28 : decode cX9_sortsOf 28 = .ok (.iinc 2 1, 3) := by decide +kernel
theorem dX9_sortsOf_31 : decode cX9_sortsOf 31 = .ok (.goto (-24), 3) := by decide +kernel
theorem dX9_sortsOf_34 : decode cX9_sortsOf 34 = .ok (.aload_n 1, 1) := by decide +kernel
theorem dX9_sortsOf_35 : decode cX9_sortsOf 35 = .ok (.areturn, 1) := by decide +kernel
theorem dX9_sortsByNumber_0 : decode cX9_sortsByNumber 0 = .ok (.iload_n 1, 1) := by decide +kernel
theorem dX9_sortsByNumber_1 : decode cX9_sortsByNumber 1 = .ok (.invokestatic 24, 3) := by decide +kernel
theorem dX9_sortsByNumber_4 : decode cX9_sortsByNumber 4 = .ok (.istore_n 2, 1) := by decide +kernel
theorem dX9_sortsByNumber_5 : decode cX9_sortsByNumber 5 = .ok (.aload_n 0, 1) := by decide +kernel
theorem dX9_sortsByNumber_6 : decode cX9_sortsByNumber 6 = .ok (.iload_n 1, 1) := by decide +kernel
theorem dX9_sortsByNumber_7 : decode cX9_sortsByNumber 7 = .ok (.invokestatic 59, 3) := by decide +kernel
theorem dX9_sortsByNumber_10 : decode cX9_sortsByNumber 10 = .ok (.iload_n 2, 1) := by decide +kernel
theorem dX9_sortsByNumber_11 : decode cX9_sortsByNumber 11 = .ok (.if_icmp .eq 5, 3) := by decide +kernel
theorem dX9_sortsByNumber_14 : decode cX9_sortsByNumber 14 = .ok (.iconst 0, 1) := by decide +kernel
theorem dX9_sortsByNumber_15 : decode cX9_sortsByNumber 15 = .ok (.ireturn, 1) := by decide +kernel
theorem dX9_sortsByNumber_16 : decode cX9_sortsByNumber 16 = .ok (.aload_n 0, 1) := by decide +kernel
theorem dX9_sortsByNumber_17 : decode cX9_sortsByNumber 17 = .ok (.aload_n 0, 1) := by decide +kernel
theorem dX9_sortsByNumber_18 : decode cX9_sortsByNumber 18 = .ok (.arraylength, 1) := by decide +kernel
theorem dX9_sortsByNumber_19 : decode cX9_sortsByNumber 19 = .ok (.iconst 1, 1) := by decide +kernel
theorem dX9_sortsByNumber_20 : decode cX9_sortsByNumber 20 = .ok (.isub, 1) := by decide +kernel
theorem dX9_sortsByNumber_21 : decode cX9_sortsByNumber 21 = .ok (.invokestatic 59, 3) := by decide +kernel
theorem dX9_sortsByNumber_24 : decode cX9_sortsByNumber 24 = .ok (.iload_n 2, 1) := by decide +kernel
theorem dX9_sortsByNumber_25 : decode cX9_sortsByNumber 25 = .ok (.if_icmp .ne 7, 3) := by decide +kernel
theorem dX9_sortsByNumber_28 : decode cX9_sortsByNumber 28 = .ok (.iconst 3, 1) := by decide +kernel
theorem dX9_sortsByNumber_29 : decode cX9_sortsByNumber 29 = .ok (.goto 4, 3) := by decide +kernel
theorem dX9_sortsByNumber_32 : decode cX9_sortsByNumber 32 = .ok (.iconst 1, 1) := by decide +kernel
theorem dX9_sortsByNumber_33 : decode cX9_sortsByNumber 33 = .ok (.ireturn, 1) := by decide +kernel
theorem dX9_sortsByNeighbours_0 : decode cX9_sortsByNeighbours 0 = .ok (.aload_n 0, 1) := by decide +kernel
theorem dX9_sortsByNeighbours_1 : decode cX9_sortsByNeighbours 1 = .ok (.iload_n 1, 1) := by decide +kernel
theorem dX9_sortsByNeighbours_2 : decode cX9_sortsByNeighbours 2 = .ok (.invokestatic 59, 3) := by decide +kernel
theorem dX9_sortsByNeighbours_5 : decode cX9_sortsByNeighbours 5 = .ok (.istore_n 2, 1) := by decide +kernel
theorem dX9_sortsByNeighbours_6 : decode cX9_sortsByNeighbours 6 = .ok (.iconst 1, 1) := by decide +kernel
theorem dX9_sortsByNeighbours_7 : decode cX9_sortsByNeighbours 7 = .ok (.istore_n 3, 1) := by decide +kernel
theorem dX9_sortsByNeighbours_8 : decode cX9_sortsByNeighbours 8 = .ok (.iload_n 2, 1) := by decide +kernel
theorem dX9_sortsByNeighbours_9 : decode cX9_sortsByNeighbours 9 = .ok (.iload_n 1, 1) := by decide +kernel
theorem dX9_sortsByNeighbours_10 : decode cX9_sortsByNeighbours 10 = .ok (.invokestatic 24, 3) := by decide +kernel
theorem dX9_sortsByNeighbours_13 : decode cX9_sortsByNeighbours 13 = .ok (.iconst 1, 1) := by decide +kernel
theorem dX9_sortsByNeighbours_14 : decode cX9_sortsByNeighbours 14 = .ok (.isub, 1) := by decide +kernel
theorem dX9_sortsByNeighbours_15 : decode cX9_sortsByNeighbours 15 = .ok (.if_icmp .ne 7, 3) := by decide +kernel
theorem dX9_sortsByNeighbours_18 : decode cX9_sortsByNeighbours 18 = .ok (.iconst 1, 1) := by decide +kernel
theorem dX9_sortsByNeighbours_19 : decode cX9_sortsByNeighbours 19 = .ok (.goto 4, 3) := by decide +kernel
theorem dX9_sortsByNeighbours_22 : decode cX9_sortsByNeighbours 22 = .ok (.iconst 0, 1) := by decide +kernel
theorem dX9_sortsByNeighbours_23 : decode cX9_sortsByNeighbours 23 = .ok (.istore 4, 2) := by decide +kernel
theorem dX9_sortsByNeighbours_25 : decode cX9_sortsByNeighbours 25 = .ok (.iconst 1, 1) := by decide +kernel
theorem dX9_sortsByNeighbours_26 : decode cX9_sortsByNeighbours 26 = .ok (.istore 5, 2) := by decide +kernel
theorem dX9_sortsByNeighbours_28 : decode cX9_sortsByNeighbours 28 = .ok (.iload 5, 2) := by decide +kernel
theorem dX9_sortsByNeighbours_30 : decode cX9_sortsByNeighbours 30 = .ok (.aload_n 0, 1) := by decide +kernel
theorem dX9_sortsByNeighbours_31 : decode cX9_sortsByNeighbours 31 = .ok (.arraylength, 1) := by decide +kernel
theorem dX9_sortsByNeighbours_32 : decode cX9_sortsByNeighbours 32 = .ok (.if_icmp .ge 62, 3) := by decide +kernel
theorem dX9_sortsByNeighbours_35 : decode cX9_sortsByNeighbours 35 = .ok (.aload_n 0, 1) := by decide +kernel
theorem dX9_sortsByNeighbours_36 : decode cX9_sortsByNeighbours 36 = .ok (.iload_n 1, 1) := by decide +kernel
theorem dX9_sortsByNeighbours_37 : decode cX9_sortsByNeighbours 37 = .ok (.iload 5, 2) := by decide +kernel
theorem dX9_sortsByNeighbours_39 : decode cX9_sortsByNeighbours 39 = .ok (.ixor, 1) := by decide +kernel
theorem dX9_sortsByNeighbours_40 : decode cX9_sortsByNeighbours 40 = .ok (.invokestatic 59, 3) := by decide +kernel
theorem dX9_sortsByNeighbours_43 : decode cX9_sortsByNeighbours 43 = .ok (.istore 6, 2) := by decide +kernel
theorem dX9_sortsByNeighbours_45 : decode cX9_sortsByNeighbours 45 = .ok (.iload_n 1, 1) := by decide +kernel
theorem dX9_sortsByNeighbours_46 : decode cX9_sortsByNeighbours 46 = .ok (.iload 5, 2) := by decide +kernel
theorem dX9_sortsByNeighbours_48 : decode cX9_sortsByNeighbours 48 = .ok (.iand, 1) := by decide +kernel
theorem dX9_sortsByNeighbours_49 : decode cX9_sortsByNeighbours 49 = .ok (.ifCond .ne 20, 3) := by decide +kernel
theorem dX9_sortsByNeighbours_52 : decode cX9_sortsByNeighbours 52 = .ok (.iload_n 3, 1) := by decide +kernel
theorem dX9_sortsByNeighbours_53 : decode cX9_sortsByNeighbours 53 = .ok (.iload 6, 2) := by decide +kernel
theorem dX9_sortsByNeighbours_55 : decode cX9_sortsByNeighbours 55 = .ok (.iload_n 2, 1) := by decide +kernel
theorem dX9_sortsByNeighbours_56 : decode cX9_sortsByNeighbours 56 = .ok (.if_icmp .le 7, 3) := by decide +kernel
theorem dX9_sortsByNeighbours_59 : decode cX9_sortsByNeighbours 59 = .ok (.iconst 1, 1) := by decide +kernel
theorem dX9_sortsByNeighbours_60 : decode cX9_sortsByNeighbours 60 = .ok (.goto 4, 3) := by decide +kernel
theorem dX9_sortsByNeighbours_63 : decode cX9_sortsByNeighbours 63 = .ok (.iconst 0, 1) := by decide +kernel
theorem dX9_sortsByNeighbours_64 : decode cX9_sortsByNeighbours 64 = .ok (.iand, 1) := by decide +kernel
theorem dX9_sortsByNeighbours_65 : decode cX9_sortsByNeighbours 65 = .ok (.istore_n 3, 1) := by decide +kernel
theorem dX9_sortsByNeighbours_66 : decode cX9_sortsByNeighbours 66 = .ok (.goto 19, 3) := by decide +kernel
theorem dX9_sortsByNeighbours_69 : decode cX9_sortsByNeighbours 69 = .ok (.iload 4, 2) := by decide +kernel
theorem dX9_sortsByNeighbours_71 : decode cX9_sortsByNeighbours 71 = .ok (.iload 6, 2) := by decide +kernel
theorem dX9_sortsByNeighbours_73 : decode cX9_sortsByNeighbours 73 = .ok (.iload_n 2, 1) := by decide +kernel
theorem dX9_sortsByNeighbours_74 : decode cX9_sortsByNeighbours 74 = .ok (.if_icmp .ne 7, 3) := by decide +kernel
theorem dX9_sortsByNeighbours_77 : decode cX9_sortsByNeighbours 77 = .ok (.iconst 1, 1) := by decide +kernel
theorem dX9_sortsByNeighbours_78 : decode cX9_sortsByNeighbours 78 = .ok (.goto 4, 3) := by decide +kernel
theorem dX9_sortsByNeighbours_81 : decode cX9_sortsByNeighbours 81 = .ok (.iconst 0, 1) := by decide +kernel
theorem dX9_sortsByNeighbours_82 : decode cX9_sortsByNeighbours 82 = .ok (.iand, 1) := by decide +kernel
theorem dX9_sortsByNeighbours_83 : decode cX9_sortsByNeighbours 83 = .ok (.istore 4, 2) := by decide +kernel
theorem dX9_sortsByNeighbours_85 : decode cX9_sortsByNeighbours 85 = .ok (.iload 5, 2) := by decide +kernel
theorem dX9_sortsByNeighbours_87 : decode cX9_sortsByNeighbours 87 = .ok (.iconst 1, 1) := by decide +kernel
theorem dX9_sortsByNeighbours_88 : decode cX9_sortsByNeighbours 88 = .ok (.ishl, 1) := by decide +kernel
theorem dX9_sortsByNeighbours_89 : decode cX9_sortsByNeighbours 89 = .ok (.istore 5, 2) := by decide +kernel
theorem dX9_sortsByNeighbours_91 : decode cX9_sortsByNeighbours 91 = .ok (.goto (-63), 3) := by decide +kernel
theorem dX9_sortsByNeighbours_94 : decode cX9_sortsByNeighbours 94 = .ok (.iload 4, 2) := by decide +kernel
theorem dX9_sortsByNeighbours_96 : decode cX9_sortsByNeighbours 96 = .ok (.ifCond .eq 7, 3) := by decide +kernel
theorem dX9_sortsByNeighbours_99 : decode cX9_sortsByNeighbours 99 = .ok (.iconst 4, 1) := by decide +kernel
theorem dX9_sortsByNeighbours_100 : decode cX9_sortsByNeighbours 100 = .ok (.goto 4, 3) := by decide +kernel
theorem dX9_sortsByNeighbours_103 : decode cX9_sortsByNeighbours 103 = .ok (.iconst 0, 1) := by decide +kernel
theorem dX9_sortsByNeighbours_104 : decode cX9_sortsByNeighbours 104 = .ok (.istore 5, 2) := by decide +kernel
theorem dX9_sortsByNeighbours_106 : decode cX9_sortsByNeighbours 106 = .ok (.iload_n 3, 1) := by decide +kernel
theorem dX9_sortsByNeighbours_107 : decode cX9_sortsByNeighbours 107 = .ok (.ifCond .eq 29, 3) := by decide +kernel
theorem dX9_sortsByNeighbours_110 : decode cX9_sortsByNeighbours 110 = .ok (.iload 5, 2) := by decide +kernel
theorem dX9_sortsByNeighbours_112 : decode cX9_sortsByNeighbours 112 = .ok (.iload_n 2, 1) := by decide +kernel
theorem dX9_sortsByNeighbours_113 : decode cX9_sortsByNeighbours 113 = .ok (.aload_n 0, 1) := by decide +kernel
theorem dX9_sortsByNeighbours_114 : decode cX9_sortsByNeighbours 114 = .ok (.aload_n 0, 1) := by decide +kernel
theorem dX9_sortsByNeighbours_115 : decode cX9_sortsByNeighbours 115 = .ok (.arraylength, 1) := by decide +kernel
theorem dX9_sortsByNeighbours_116 : decode cX9_sortsByNeighbours 116 = .ok (.iconst 1, 1) := by decide +kernel
theorem dX9_sortsByNeighbours_117 : decode cX9_sortsByNeighbours 117 = .ok (.isub, 1) := by decide +kernel
theorem dX9_sortsByNeighbours_118 : decode cX9_sortsByNeighbours 118 = .ok (.invokestatic 59, 3) := by decide +kernel
theorem dX9_sortsByNeighbours_121 : decode cX9_sortsByNeighbours 121 = .ok (.iconst 1, 1) := by decide +kernel
theorem dX9_sortsByNeighbours_122 : decode cX9_sortsByNeighbours 122 = .ok (.isub, 1) := by decide +kernel
theorem dX9_sortsByNeighbours_123 : decode cX9_sortsByNeighbours 123 = .ok (.if_icmp .ne 8, 3) := by decide +kernel
theorem dX9_sortsByNeighbours_126 : decode cX9_sortsByNeighbours 126 = .ok (.bipush 24, 2) := by decide +kernel
theorem dX9_sortsByNeighbours_128 : decode cX9_sortsByNeighbours 128 = .ok (.goto 5, 3) := by decide +kernel
theorem dX9_sortsByNeighbours_131 : decode cX9_sortsByNeighbours 131 = .ok (.bipush 8, 2) := by decide +kernel
theorem dX9_sortsByNeighbours_133 : decode cX9_sortsByNeighbours 133 = .ok (.ior, 1) := by decide +kernel
theorem dX9_sortsByNeighbours_134 : decode cX9_sortsByNeighbours 134 = .ok (.istore 5, 2) := by decide +kernel
theorem dX9_sortsByNeighbours_136 : decode cX9_sortsByNeighbours 136 = .ok (.iload 5, 2) := by decide +kernel
theorem dX9_sortsByNeighbours_138 : decode cX9_sortsByNeighbours 138 = .ok (.ireturn, 1) := by decide +kernel
