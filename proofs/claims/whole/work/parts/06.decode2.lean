theorem dX12_init_0 : decode cX12_init 0 = .ok (.aload_n 0, 1) := by decide +kernel
theorem dX12_init_1 : decode cX12_init 1 = .ok (.invokespecial 1, 3) := by decide +kernel
theorem dX12_init_4 : decode cX12_init 4 = .ok (.aload_n 0, 1) := by decide +kernel
theorem dX12_init_5 : decode cX12_init 5 = .ok (.bipush 60, 2) := by decide +kernel
theorem dX12_init_7 : decode cX12_init 7 = .ok (.newarray .int, 2) := by decide +kernel
theorem dX12_init_9 : decode cX12_init 9 = .ok (.putfield 7, 3) := by decide +kernel
theorem dX12_init_12 : decode cX12_init 12 = .ok (.aload_n 0, 1) := by decide +kernel
theorem dX12_init_13 : decode cX12_init 13 = .ok (.iconst 3, 1) := by decide +kernel
theorem dX12_init_14 : decode cX12_init 14 = .ok (.newarray .int, 2) := by decide +kernel
theorem dX12_init_16 : decode cX12_init 16 = .ok (.dup, 1) := by decide +kernel
theorem dX12_init_17 : decode cX12_init 17 = .ok (.iconst 0, 1) := by decide +kernel
theorem dX12_init_18 : decode cX12_init 18 = .ok (.iconst (-1), 1) := by decide +kernel
theorem dX12_init_19 : decode cX12_init 19 = .ok (.iastore, 1) := by decide +kernel
theorem dX12_init_20 : decode cX12_init 20 = .ok (.dup, 1) := by decide +kernel
theorem dX12_init_21 : decode cX12_init 21 = .ok (.iconst 1, 1) := by decide +kernel
theorem dX12_init_22 : decode cX12_init 22 = .ok (.iconst (-1), 1) := by decide +kernel
theorem dX12_init_23 : decode cX12_init 23 = .ok (.iastore, 1) := by decide +kernel
theorem dX12_init_24 : decode cX12_init 24 = .ok (.dup, 1) := by decide +kernel
theorem dX12_init_25 : decode cX12_init 25 = .ok (.iconst 2, 1) := by decide +kernel
theorem dX12_init_26 : decode cX12_init 26 = .ok (.iconst (-1), 1) := by decide +kernel
theorem dX12_init_27 : decode cX12_init 27 = .ok (.iastore, 1) := by decide +kernel
theorem dX12_init_28 : decode cX12_init 28 = .ok (.putfield 13, 3) := by decide +kernel
theorem dX12_init_31 : decode cX12_init 31 = .ok (.aload_n 0, 1) := by decide +kernel
theorem dX12_init_32 : decode cX12_init 32 = .ok (.new 16, 3) := by decide +kernel
theorem dX12_init_35 : decode cX12_init 35 = .ok (.dup, 1) := by decide +kernel
theorem dX12_init_36 : decode cX12_init 36 = .ok (.invokespecial 18, 3) := by decide +kernel
theorem dX12_init_39 : decode cX12_init 39 = .ok (.putfield 19, 3) := by decide +kernel
theorem dX12_init_42 : decode cX12_init 42 = .ok (.aload_n 0, 1) := by decide +kernel
theorem dX12_init_43 : decode cX12_init 43 = .ok (.bipush 100, 2) := by decide +kernel
theorem dX12_init_45 : decode cX12_init 45 = .ok (.newarray .int, 2) := by decide +kernel
theorem dX12_init_47 : decode cX12_init 47 = .ok (.putfield 23, 3) := by decide +kernel
theorem dX12_init_50 : decode cX12_init 50 = .ok (.aload_n 0, 1) := by decide +kernel
theorem dX12_init_51 : decode cX12_init 51 = .ok (.bipush 10, 2) := by decide +kernel
theorem dX12_init_53 : decode cX12_init 53 = .ok (.newarray .boolean, 2) := by decide +kernel
theorem dX12_init_55 : decode cX12_init 55 = .ok (.putfield 26, 3) := by decide +kernel
theorem dX12_init_58 : decode cX12_init 58 = .ok (.aload_n 0, 1) := by decide +kernel
theorem dX12_init_59 : decode cX12_init 59 = .ok (.bipush 10, 2) := by decide +kernel
theorem dX12_init_61 : decode cX12_init 61 = .ok (.newarray .int, 2) := by decide +kernel
theorem dX12_init_63 : decode cX12_init 63 = .ok (.putfield 30, 3) := by decide +kernel
theorem dX12_init_66 : decode cX12_init 66 = .ok (.aload_n 0, 1) := by decide +kernel
theorem dX12_init_67 : decode cX12_init 67 = .ok (.new 33, 3) := by decide +kernel
theorem dX12_init_70 : decode cX12_init 70 = .ok (.dup, 1) := by decide +kernel
theorem dX12_init_71 : decode cX12_init 71 = .ok (.invokespecial 35, 3) := by decide +kernel
theorem dX12_init_74 : decode cX12_init 74 = .ok (.putfield 36, 3) := by decide +kernel
theorem dX12_init_77 : decode cX12_init 77 = .ok (.return_, 1) := by decide +kernel
theorem dX12_thrown_0 : decode cX12_thrown 0 = .ok (.aload_n 0, 1) := by decide +kernel
theorem dX12_thrown_1 : decode cX12_thrown 1 = .ok (.getfield 40, 3) := by decide +kernel
theorem dX12_thrown_4 : decode cX12_thrown 4 = .ok (.ireturn, 1) := by decide +kernel
theorem dX12_in_0 : decode cX12_in 0 = .ok (.iload_n 0, 1) := by decide +kernel
theorem dX12_in_1 : decode cX12_in 1 = .ok (.iload_n 1, 1) := by decide +kernel
theorem dX12_in_2 : decode cX12_in 2 = .ok (.if_icmp .lt 12, 3) := by decide +kernel
theorem dX12_in_5 : decode cX12_in 5 = .ok (.iload_n 0, 1) := by decide +kernel
theorem dX12_in_6 : decode cX12_in 6 = .ok (.iload_n 2, 1) := by decide +kernel
theorem dX12_in_7 : decode cX12_in 7 = .ok (.if_icmp .gt 7, 3) := by decide +kernel
theorem dX12_in_10 : decode cX12_in 10 = .ok (.iconst 1, 1) := by decide +kernel
theorem dX12_in_11 : decode cX12_in 11 = .ok (.goto 4, 3) := by decide +kernel
theorem dX12_in_14 : decode cX12_in 14 = .ok (.iconst 0, 1) := by decide +kernel
theorem dX12_in_15 : decode cX12_in 15 = .ok (.ireturn, 1) := by decide +kernel
theorem dX12_fails_0 : decode cX12_fails 0 = .ok (.iload_n 1, 1) := by decide +kernel
theorem dX12_fails_1 : decode cX12_fails 1 = .ok (.ifCond .eq 15, 3) := by decide +kernel
theorem dX12_fails_4 : decode cX12_fails 4 = .ok (.aload_n 0, 1) := by decide +kernel
theorem dX12_fails_5 : decode cX12_fails 5 = .ok (.getfield 40, 3) := by decide +kernel
theorem dX12_fails_8 : decode cX12_fails 8 = .ok (.ifCond .ne 8, 3) := by decide +kernel
theorem dX12_fails_11 : decode cX12_fails 11 = .ok (.aload_n 0, 1) := by decide +kernel
theorem dX12_fails_12 : decode cX12_fails 12 = .ok (.iload_n 2, 1) := by decide +kernel
theorem dX12_fails_13 : decode cX12_fails 13 = .ok (.putfield 40, 3) := by decide +kernel
theorem dX12_fails_16 : decode cX12_fails 16 = .ok (.aload_n 0, 1) := by decide +kernel
theorem dX12_fails_17 : decode cX12_fails 17 = .ok (.getfield 40, 3) := by decide +kernel
theorem dX12_fails_20 : decode cX12_fails 20 = .ok (.ifCond .eq 7, 3) := by decide +kernel
theorem dX12_fails_23 : decode cX12_fails 23 = .ok (.iconst 1, 1) := by decide +kernel
theorem dX12_fails_24 : decode cX12_fails 24 = .ok (.goto 4, 3) := by decide +kernel
theorem dX12_fails_27 : decode cX12_fails 27 = .ok (.iconst 0, 1) := by decide +kernel
theorem dX12_fails_28 : decode cX12_fails 28 = .ok (.ireturn, 1) := by decide +kernel
theorem dX12_no_0 : decode cX12_no 0 = .ok (.iload_n 1, 1) := by decide +kernel
theorem dX12_no_1 : decode cX12_no 1 = .ok (.iconst 0, 1) := by decide +kernel
theorem dX12_no_2 : decode cX12_no 2 = .ok (.aload_n 0, 1) := by decide +kernel
theorem dX12_no_3 : decode cX12_no 3 = .ok (.getfield 19, 3) := by decide +kernel
theorem dX12_no_6 : decode cX12_no 6 = .ok (.invokevirtual 44, 3) := by decide +kernel
theorem dX12_no_9 : decode cX12_no 9 = .ok (.iconst 1, 1) := by decide +kernel
theorem dX12_no_10 : decode cX12_no 10 = .ok (.isub, 1) := by decide +kernel
theorem dX12_no_11 : decode cX12_no 11 = .ok (.invokestatic 48, 3) := by decide +kernel
theorem dX12_no_14 : decode cX12_no 14 = .ok (.ifCond .ne 7, 3) := by decide +kernel
theorem dX12_no_17 : decode cX12_no 17 = .ok (.iconst 1, 1) := by decide +kernel
theorem dX12_no_18 : decode cX12_no 18 = .ok (.goto 4, 3) := by decide +kernel
theorem dX12_no_21 : decode cX12_no 21 = .ok (.iconst 0, 1) := by decide +kernel
theorem dX12_no_22 : decode cX12_no 22 = .ok (.ireturn, 1) := by decide +kernel
theorem dX12_noElement_0 : decode cX12_noElement 0 = .ok (.aload_n 0, 1) := by decide +kernel
theorem dX12_noElement_1 : decode cX12_noElement 1 = .ok (.iload_n 1, 1) := by decide +kernel
theorem dX12_noElement_2 : decode cX12_noElement 2 = .ok (.invokevirtual 52, 3) := by decide +kernel
theorem dX12_noElement_5 : decode cX12_noElement 5 = .ok (.ifCond .ne 27, 3) := by decide +kernel
theorem dX12_noElement_8 : decode cX12_noElement 8 = .ok (.iload_n 2, 1) := by decide +kernel
theorem dX12_noElement_9 : decode cX12_noElement 9 = .ok (.iconst 0, 1) := by decide +kernel
theorem dX12_noElement_10 : decode cX12_noElement 10 = .ok (.aload_n 0, 1) := by decide +kernel
theorem dX12_noElement_11 : decode cX12_noElement 11 = .ok (.getfield 19, 3) := by decide +kernel
theorem dX12_noElement_14 : decode cX12_noElement 14 = .ok (.iload_n 1, 1) := by decide +kernel
theorem dX12_noElement_15 : decode cX12_noElement 15 = .ok (.invokevirtual 56, 3) := by decide +kernel
theorem dX12_noElement_18 : decode cX12_noElement 18 = .ok (.checkcast 33, 3) := by decide +kernel
theorem dX12_noElement_21 : decode cX12_noElement 21 = .ok (.getfield 60, 3) := by decide +kernel
theorem dX12_noElement_24 : decode cX12_noElement 24 = .ok (.iconst 1, 1) := by decide +kernel
theorem dX12_noElement_25 : decode cX12_noElement 25 = .ok (.isub, 1) := by decide +kernel
theorem dX12_noElement_26 : decode cX12_noElement 26 = .ok (.invokestatic 48, 3) := by decide +kernel
theorem dX12_noElement_29 : decode cX12_noElement 29 = .ok (.ifCond .ne 7, 3) := by decide +kernel
theorem dX12_noElement_32 : decode cX12_noElement 32 = .ok (.iconst 1, 1) := by decide +kernel
theorem dX12_noElement_33 : decode cX12_noElement 33 = .ok (.goto 4, 3) := by decide +kernel
theorem dX12_noElement_36 : decode cX12_noElement 36 = .ok (.iconst 0, 1) := by decide +kernel
theorem dX12_noElement_37 : decode cX12_noElement 37 = .ok (.ireturn, 1) := by decide +kernel
theorem dX12_noSet_0 : decode cX12_noSet 0 = .ok (.iload_n 2, 1) := by decide +kernel
theorem dX12_noSet_1 : decode cX12_noSet 1 = .ok (.iconst 0, 1) := by decide +kernel
theorem dX12_noSet_2 : decode cX12_noSet 2 = .ok (.aload_n 0, 1) := by decide +kernel
theorem dX12_noSet_3 : decode cX12_noSet 3 = .ok (.getfield 19, 3) := by decide +kernel
theorem dX12_noSet_6 : decode cX12_noSet 6 = .ok (.iload_n 1, 1) := by decide +kernel
theorem dX12_noSet_7 : decode cX12_noSet 7 = .ok (.invokevirtual 56, 3) := by decide +kernel
theorem dX12_noSet_10 : decode cX12_noSet 10 = .ok (.checkcast 33, 3) := by decide +kernel
theorem dX12_noSet_13 : decode cX12_noSet 13 = .ok (.invokevirtual 62, 3) := by decide +kernel
theorem dX12_noSet_16 : decode cX12_noSet 16 = .ok (.invokestatic 48, 3) := by decide +kernel
theorem dX12_noSet_19 : decode cX12_noSet 19 = .ok (.ifCond .ne 7, 3) := by decide +kernel
theorem dX12_noSet_22 : decode cX12_noSet 22 = .ok (.iconst 1, 1) := by decide +kernel
theorem dX12_noSet_23 : decode cX12_noSet 23 = .ok (.goto 4, 3) := by decide +kernel
theorem dX12_noSet_26 : decode cX12_noSet 26 = .ok (.iconst 0, 1) := by decide +kernel
theorem dX12_noSet_27 : decode cX12_noSet 27 = .ok (.ireturn, 1) := by decide +kernel
theorem dX12_add_0 : decode cX12_add 0 = .ok (.aload_n 0, 1) := by decide +kernel
theorem dX12_add_1 : decode cX12_add 1 = .ok (.getfield 19, 3) := by decide +kernel
theorem dX12_add_4 : decode cX12_add 4 = .ok (.aload_n 1, 1) := by decide +kernel
theorem dX12_add_5 : decode cX12_add 5 = .ok (.invokevirtual 65, 3) := by decide +kernel
theorem dX12_add_8 : decode cX12_add 8 = .ok (.pop, 1) := by decide +kernel
theorem dX12_add_9 : decode cX12_add 9 = .ok (.aload_n 0, 1) := by decide +kernel
theorem dX12_add_10 : decode cX12_add 10 = .ok (.getfield 19, 3) := by decide +kernel
theorem dX12_add_13 : decode cX12_add 13 = .ok (.invokevirtual 44, 3) := by decide +kernel
theorem dX12_add_16 : decode cX12_add 16 = .ok (.iconst 1, 1) := by decide +kernel
theorem dX12_add_17 : decode cX12_add 17 = .ok (.isub, 1) := by decide +kernel
theorem dX12_add_18 : decode cX12_add 18 = .ok (.ireturn, 1) := by decide +kernel
theorem dX12_sized_0 : decode cX12_sized 0 = .ok (.new 33, 3) := by decide +kernel
theorem dX12_sized_3 : decode cX12_sized 3 = .ok (.dup, 1) := by decide +kernel
theorem dX12_sized_4 : decode cX12_sized 4 = .ok (.invokespecial 35, 3) := by decide +kernel
theorem dX12_sized_7 : decode cX12_sized 7 = .ok (.astore_n 1, 1) := by decide +kernel
theorem dX12_sized_8 : decode cX12_sized 8 = .ok (.aload_n 1, 1) := by decide +kernel
theorem dX12_sized_9 : decode cX12_sized 9 = .ok (.iload_n 0, 1) := by decide +kernel
theorem dX12_sized_10 : decode cX12_sized 10 = .ok (.putfield 60, 3) := by decide +kernel
theorem dX12_sized_13 : decode cX12_sized 13 = .ok (.aload_n 1, 1) := by decide +kernel
theorem dX12_sized_14 : decode cX12_sized 14 = .ok (.areturn, 1) := by decide +kernel
theorem dX12_type_0 : decode cX12_type 0 = .ok (.aload_n 0, 1) := by decide +kernel
theorem dX12_type_1 : decode cX12_type 1 = .ok (.iconst 0, 1) := by decide +kernel
theorem dX12_type_2 : decode cX12_type 2 = .ok (.putfield 40, 3) := by decide +kernel
theorem dX12_type_5 : decode cX12_type 5 = .ok (.aload_n 0, 1) := by decide +kernel
theorem dX12_type_6 : decode cX12_type 6 = .ok (.iload_n 1, 1) := by decide +kernel
theorem dX12_type_7 : decode cX12_type 7 = .ok (.iconst 0, 1) := by decide +kernel
theorem dX12_type_8 : decode cX12_type 8 = .ok (.sipush 1023, 3) := by decide +kernel
theorem dX12_type_11 : decode cX12_type 11 = .ok (.invokestatic 48, 3) := by decide +kernel
theorem dX12_type_14 : decode cX12_type 14 = .ok (.ifCond .ne 7, 3) := by decide +kernel
theorem dX12_type_17 : decode cX12_type 17 = .ok (.iconst 1, 1) := by decide +kernel
theorem dX12_type_18 : decode cX12_type 18 = .ok (.goto 4, 3) := by decide +kernel
theorem dX12_type_21 : decode cX12_type 21 = .ok (.iconst 0, 1) := by decide +kernel
theorem dX12_type_22 : decode cX12_type 22 = .ok (.iconst 1, 1) := by decide +kernel
theorem dX12_type_23 : decode cX12_type 23 = .ok (.invokevirtual 69, 3) := by decide +kernel
theorem dX12_type_26 : decode cX12_type 26 = .ok (.ifCond .ne 25, 3) := by decide +kernel
theorem dX12_type_29 : decode cX12_type 29 = .ok (.aload_n 0, 1) := by decide +kernel
theorem dX12_type_30 : decode cX12_type 30 = .ok (.aload_n 0, 1) := by decide +kernel
theorem dX12_type_31 : decode cX12_type 31 = .ok (.getfield 73, 3) := by decide +kernel
theorem dX12_type_34 : decode cX12_type 34 = .ok (.bipush 60, 2) := by decide +kernel
theorem dX12_type_36 : decode cX12_type 36 = .ok (.if_icmp .ne 7, 3) := by decide +kernel
theorem dX12_type_39 : decode cX12_type 39 = .ok (.iconst 1, 1) := by decide +kernel
theorem dX12_type_40 : decode cX12_type 40 = .ok (.goto 4, 3) := by decide +kernel
theorem dX12_type_43 : decode cX12_type 43 = .ok (.iconst 0, 1) := by decide +kernel
theorem dX12_type_44 : decode cX12_type 44 = .ok (.iconst 2, 1) := by decide +kernel
theorem dX12_type_45 : decode cX12_type 45 = .ok (.invokevirtual 69, 3) := by decide +kernel
theorem dX12_type_48 : decode cX12_type 48 = .ok (.ifCond .eq 5, 3) := by decide +kernel
theorem dX12_type_51 : decode cX12_type 51 = .ok (.iconst 0, 1) := by decide +kernel
theorem dX12_type_52 : decode cX12_type 52 = .ok (.ireturn, 1) := by decide +kernel
theorem dX12_type_53 : decode cX12_type 53 = .ok (.aload_n 0, 1) := by decide +kernel
theorem dX12_type_54 : decode cX12_type 54 = .ok (.getfield 7, 3) := by decide +kernel
theorem dX12_type_57 : decode cX12_type 57 = .ok (.aload_n 0, 1) := by decide +kernel
theorem dX12_type_58 : decode cX12_type 58 = .ok (.getfield 73, 3) := by decide +kernel
theorem dX12_type_61 : decode cX12_type 61 = .ok (.iload_n 1, 1) := by decide +kernel
theorem dX12_type_62 : decode cX12_type 62 = .ok (.iastore, 1) := by decide +kernel
theorem dX12_type_63 : decode cX12_type 63 = .ok (.aload_n 0, 1) := by decide +kernel
theorem dX12_type_64 : decode cX12_type 64 = .ok (.dup, 1) := by decide +kernel
theorem dX12_type_65 : decode cX12_type 65 = .ok (.getfield 73, 3) := by decide +kernel
theorem dX12_type_68 : decode cX12_type 68 = .ok (.iconst 1, 1) := by decide +kernel
theorem dX12_type_69 : decode cX12_type 69 = .ok (.iadd, 1) := by decide +kernel
theorem dX12_type_70 : decode cX12_type 70 = .ok (.putfield 73, 3) := by decide +kernel
theorem dX12_type_73 : decode cX12_type 73 = .ok (.aload_n 0, 1) := by decide +kernel
theorem dX12_type_74 : decode cX12_type 74 = .ok (.getfield 73, 3) := by decide +kernel
theorem dX12_type_77 : decode cX12_type 77 = .ok (.ireturn, 1) := by decide +kernel
theorem dX12_erase_0 : decode cX12_erase 0 = .ok (.aload_n 0, 1) := by decide +kernel
theorem dX12_erase_1 : decode cX12_erase 1 = .ok (.iconst 0, 1) := by decide +kernel
theorem dX12_erase_2 : decode cX12_erase 2 = .ok (.putfield 40, 3) := by decide +kernel
theorem dX12_erase_5 : decode cX12_erase 5 = .ok (.aload_n 0, 1) := by decide +kernel
theorem dX12_erase_6 : decode cX12_erase 6 = .ok (.getfield 73, 3) := by decide +kernel
theorem dX12_erase_9 : decode cX12_erase 9 = .ok (.istore_n 1, 1) := by decide +kernel
theorem dX12_erase_10 : decode cX12_erase 10 = .ok (.aload_n 0, 1) := by decide +kernel
theorem dX12_erase_11 : decode cX12_erase 11 = .ok (.iconst 0, 1) := by decide +kernel
theorem dX12_erase_12 : decode cX12_erase 12 = .ok (.putfield 73, 3) := by decide +kernel
theorem dX12_erase_15 : decode cX12_erase 15 = .ok (.iload_n 1, 1) := by decide +kernel
theorem dX12_erase_16 : decode cX12_erase 16 = .ok (.ireturn, 1) := by decide +kernel
theorem dX12_uniform_0 : decode cX12_uniform 0 = .ok (.aload_n 0, 1) := by decide +kernel
theorem dX12_uniform_1 : decode cX12_uniform 1 = .ok (.iconst 0, 1) := by decide +kernel
theorem dX12_uniform_2 : decode cX12_uniform 2 = .ok (.putfield 40, 3) := by decide +kernel
theorem dX12_uniform_5 : decode cX12_uniform 5 = .ok (.aload_n 0, 1) := by decide +kernel
theorem dX12_uniform_6 : decode cX12_uniform 6 = .ok (.iload_n 2, 1) := by decide +kernel
theorem dX12_uniform_7 : decode cX12_uniform 7 = .ok (.iconst 0, 1) := by decide +kernel
theorem dX12_uniform_8 : decode cX12_uniform 8 = .ok (.bipush 10, 2) := by decide +kernel
theorem dX12_uniform_10 : decode cX12_uniform 10 = .ok (.invokestatic 48, 3) := by decide +kernel
theorem dX12_uniform_13 : decode cX12_uniform 13 = .ok (.ifCond .eq 12, 3) := by decide +kernel
theorem dX12_uniform_16 : decode cX12_uniform 16 = .ok (.iload_n 1, 1) := by decide +kernel
theorem dX12_uniform_17 : decode cX12_uniform 17 = .ok (.iconst 0, 1) := by decide +kernel
theorem dX12_uniform_18 : decode cX12_uniform 18 = .ok (.iload_n 2, 1) := by decide +kernel
theorem dX12_uniform_19 : decode cX12_uniform 19 = .ok (.invokestatic 48, 3) := by decide +kernel
theorem dX12_uniform_22 : decode cX12_uniform 22 = .ok (.ifCond .ne 7, 3) := by decide +kernel
theorem dX12_uniform_25 : decode cX12_uniform 25 = .ok (.iconst 1, 1) := by decide +kernel
theorem dX12_uniform_26 : decode cX12_uniform 26 = .ok (.goto 4, 3) := by decide +kernel
theorem dX12_uniform_29 : decode cX12_uniform 29 = .ok (.iconst 0, 1) := by decide +kernel
theorem dX12_uniform_30 : decode cX12_uniform 30 = .ok (.iconst 1, 1) := by decide +kernel
theorem dX12_uniform_31 : decode cX12_uniform 31 = .ok (.invokevirtual 69, 3) := by decide +kernel
theorem dX12_uniform_34 : decode cX12_uniform 34 = .ok (.ifCond .ne 28, 3) := by decide +kernel
theorem dX12_uniform_37 : decode cX12_uniform 37 = .ok (.aload_n 0, 1) := by decide +kernel
theorem dX12_uniform_38 : decode cX12_uniform 38 = .ok (.aload_n 0, 1) := by decide +kernel
theorem dX12_uniform_39 : decode cX12_uniform 39 = .ok (.getfield 19, 3) := by decide +kernel
theorem dX12_uniform_42 : decode cX12_uniform 42 = .ok (.invokevirtual 44, 3) := by decide +kernel
theorem dX12_uniform_45 : decode cX12_uniform 45 = .ok (.bipush 24, 2) := by decide +kernel
theorem dX12_uniform_47 : decode cX12_uniform 47 = .ok (.if_icmp .ne 7, 3) := by decide +kernel
theorem dX12_uniform_50 : decode cX12_uniform 50 = .ok (.iconst 1, 1) := by decide +kernel
theorem dX12_uniform_51 : decode cX12_uniform 51 = .ok (.goto 4, 3) := by decide +kernel
theorem dX12_uniform_54 : decode cX12_uniform 54 = .ok (.iconst 0, 1) := by decide +kernel
theorem dX12_uniform_55 : decode cX12_uniform 55 = .ok (.iconst 2, 1) := by decide +kernel
theorem dX12_uniform_56 : decode cX12_uniform 56 = .ok (.invokevirtual 69, 3) := by decide +kernel
theorem dX12_uniform_59 : decode cX12_uniform 59 = .ok (.ifCond .eq 5, 3) := by decide +kernel
theorem dX12_uniform_62 : decode cX12_uniform 62 = .ok (.iconst 0, 1) := by decide +kernel
theorem dX12_uniform_63 : decode cX12_uniform 63 = .ok (.ireturn, 1) := by decide +kernel
theorem dX12_uniform_64 : decode cX12_uniform 64 = .ok (.iload_n 2, 1) := by decide +kernel
theorem dX12_uniform_65 : decode cX12_uniform 65 = .ok (.invokestatic 76, 3) := by decide +kernel
theorem dX12_uniform_68 : decode cX12_uniform 68 = .ok (.astore_n 3, 1) := by decide +kernel
theorem dX12_uniform_69 : decode cX12_uniform 69 = .ok (.iconst 0, 1) := by decide +kernel
theorem dX12_uniform_70 : decode cX12_uniform 70 = .ok (.istore 4, 2) := by decide +kernel
theorem dX12_uniform_72 : decode cX12_uniform 72 = .ok (.iload 4, 2) := by decide +kernel
theorem dX12_uniform_74 : decode cX12_uniform 74 = .ok (.aload_n 3, 1) := by decide +kernel
theorem dX12_uniform_75 : decode cX12_uniform 75 = .ok (.invokevirtual 62, 3) := by decide +kernel
theorem dX12_uniform_78 : decode cX12_uniform 78 = .ok (.if_icmp .gt 25, 3) := by decide +kernel
theorem dX12_uniform_81 : decode cX12_uniform 81 = .ok (.aload_n 3, 1) := by decide +kernel
theorem dX12_uniform_82 : decode cX12_uniform 82 = .ok (.getfield 80, 3) := by decide +kernel
theorem dX12_uniform_85 : decode cX12_uniform 85 = .ok (.iload 4, 2) := by decide +kernel
theorem dX12_uniform_87 : decode cX12_uniform 87 = .ok (.iload_n 1, 1) := by decide +kernel
theorem dX12_uniform_88 : decode cX12_uniform 88 = .ok (.iload 4, 2) := by decide +kernel
theorem dX12_uniform_90 : decode cX12_uniform 90 = .ok (.invokestatic 83, 3) := by decide +kernel
theorem dX12_uniform_93 : decode cX12_uniform 93 = .ok (.invokestatic 89, 3) := by decide +kernel
theorem dX12_uniform_96 : decode cX12_uniform 96 = .ok (.iastore, 1) := by decide +kernel
theorem dX12_uniform_97 : decode cX12_uniform 97 = .ok (.iinc 4 1, 3) := by decide +kernel
theorem dX12_uniform_100 : decode cX12_uniform 100 = .ok (.goto (-28), 3) := by decide +kernel
theorem dX12_uniform_103 : decode cX12_uniform 103 = .ok (.aload_n 0, 1) := by decide +kernel
theorem dX12_uniform_104 : decode cX12_uniform 104 = .ok (.aload_n 3, 1) := by decide +kernel
theorem dX12_uniform_105 : decode cX12_uniform 105 = .ok (.invokevirtual 95, 3) := by decide +kernel
theorem dX12_uniform_108 : decode cX12_uniform 108 = .ok (.ireturn, 1) := by decide +kernel
theorem dX12_end_0 : decode cX12_end 0 = .ok (.iload_n 2, 1) := by decide +kernel
theorem dX12_end_1 : decode cX12_end 1 = .ok (.istore_n 3, 1) := by decide +kernel
theorem dX12_end_2 : decode cX12_end 2 = .ok (.aload_n 1, 1) := by decide +kernel
theorem dX12_end_3 : decode cX12_end 3 = .ok (.iload_n 3, 1) := by decide +kernel
theorem dX12_end_4 : decode cX12_end 4 = .ok (.iaload, 1) := by decide +kernel
theorem dX12_end_5 : decode cX12_end 5 = .ok (.iload_n 3, 1) := by decide +kernel
theorem dX12_end_6 : decode cX12_end 6 = .ok (.if_icmp .eq 10, 3) := by decide +kernel
theorem dX12_end_9 : decode cX12_end 9 = .ok (.aload_n 1, 1) := by decide +kernel
theorem dX12_end_10 : decode cX12_end 10 = .ok (.iload_n 3, 1) := by decide +kernel
theorem dX12_end_11 : decode cX12_end 11 = .ok (.iaload, 1) := by decide +kernel
theorem dX12_end_12 : decode cX12_end 12 = .ok (.istore_n 3, 1) := by decide +kernel
theorem dX12_end_13 : decode cX12_end 13 = .ok (.goto (-11), 3) := by decide +kernel
theorem dX12_end_16 : decode cX12_end 16 = .ok (.iload_n 3, 1) := by decide +kernel
theorem dX12_end_17 : decode cX12_end 17 = .ok (.ireturn, 1) := by decide +kernel
theorem dX12_graph_0 : decode cX12_graph 0 = .ok (.aload_n 0, 1) := by decide +kernel
theorem dX12_graph_1 : decode cX12_graph 1 = .ok (.iconst 0, 1) := by decide +kernel
theorem dX12_graph_2 : decode cX12_graph 2 = .ok (.putfield 40, 3) := by decide +kernel
theorem dX12_graph_5 : decode cX12_graph 5 = .ok (.aload_n 0, 1) := by decide +kernel
theorem dX12_graph_6 : decode cX12_graph 6 = .ok (.getfield 73, 3) := by decide +kernel
theorem dX12_graph_9 : decode cX12_graph 9 = .ok (.iconst 2, 1) := by decide +kernel
theorem dX12_graph_10 : decode cX12_graph 10 = .ok (.irem, 1) := by decide +kernel
theorem dX12_graph_11 : decode cX12_graph 11 = .ok (.ifCond .ne 16, 3) := by decide +kernel
theorem dX12_graph_14 : decode cX12_graph 14 = .ok (.aload_n 0, 1) := by decide +kernel
theorem dX12_graph_15 : decode cX12_graph 15 = .ok (.getfield 73, 3) := by decide +kernel
theorem dX12_graph_18 : decode cX12_graph 18 = .ok (.bipush 20, 2) := by decide +kernel
theorem dX12_graph_20 : decode cX12_graph 20 = .ok (.if_icmp .gt 7, 3) := by decide +kernel
theorem dX12_graph_23 : decode cX12_graph 23 = .ok (.iconst 1, 1) := by decide +kernel
theorem dX12_graph_24 : decode cX12_graph 24 = .ok (.goto 4, 3) := by decide +kernel
theorem dX12_graph_27 : decode cX12_graph 27 = .ok (.iconst 0, 1) := by decide +kernel
theorem dX12_graph_28 : decode cX12_graph 28 = .ok (.istore_n 1, 1) := by decide +kernel
theorem dX12_graph_29 : decode cX12_graph 29 = .ok (.iconst 0, 1) := by decide +kernel
theorem dX12_graph_30 : decode cX12_graph 30 = .ok (.istore_n 2, 1) := by decide +kernel
theorem dX12_graph_31 : decode cX12_graph 31 = .ok (.iload_n 2, 1) := by decide +kernel
theorem dX12_graph_32 : decode cX12_graph 32 = .ok (.aload_n 0, 1) := by decide +kernel
theorem dX12_graph_33 : decode cX12_graph 33 = .ok (.getfield 73, 3) := by decide +kernel
theorem dX12_graph_36 : decode cX12_graph 36 = .ok (.if_icmp .ge 30, 3) := by decide +kernel
theorem dX12_graph_39 : decode cX12_graph 39 = .ok (.iload_n 1, 1) := by decide +kernel
theorem dX12_graph_40 : decode cX12_graph 40 = .ok (.ifCond .eq 18, 3) := by decide +kernel
theorem dX12_graph_43 : decode cX12_graph 43 = .ok (.aload_n 0, 1) := by decide +kernel
theorem dX12_graph_44 : decode cX12_graph 44 = .ok (.getfield 7, 3) := by decide +kernel
theorem dX12_graph_47 : decode cX12_graph 47 = .ok (.iload_n 2, 1) := by decide +kernel
theorem dX12_graph_48 : decode cX12_graph 48 = .ok (.iaload, 1) := by decide +kernel
theorem dX12_graph_49 : decode cX12_graph 49 = .ok (.bipush 9, 2) := by decide +kernel
theorem dX12_graph_51 : decode cX12_graph 51 = .ok (.if_icmp .gt 7, 3) := by decide +kernel
theorem dX12_graph_54 : decode cX12_graph 54 = .ok (.iconst 1, 1) := by decide +kernel
theorem dX12_graph_55 : decode cX12_graph 55 = .ok (.goto 4, 3) := by decide +kernel
theorem dX12_graph_58 : decode cX12_graph 58 = .ok (.iconst 0, 1) := by decide +kernel
theorem dX12_graph_59 : decode cX12_graph 59 = .ok (.istore_n 1, 1) := by decide +kernel
theorem dX12_graph_60 : decode cX12_graph 60 = .ok (.iinc 2 1, 3) := by decide +kernel
theorem dX12_graph_63 : decode cX12_graph 63 = .ok (.goto (-32), 3) := by decide +kernel
theorem dX12_graph_66 : decode cX12_graph 66 = .ok (.aload_n 0, 1) := by decide +kernel
theorem dX12_graph_67 : decode cX12_graph 67 = .ok (.iload_n 1, 1) := by decide +kernel
theorem dX12_graph_68 : decode cX12_graph 68 = .ok (.ifCond .ne 7, 3) := by decide +kernel
theorem dX12_graph_71 : decode cX12_graph 71 = .ok (.iconst 1, 1) := by decide +kernel
theorem dX12_graph_72 : decode cX12_graph 72 = .ok (.goto 4, 3) := by decide +kernel
theorem dX12_graph_75 : decode cX12_graph 75 = .ok (.iconst 0, 1) := by decide +kernel
theorem dX12_graph_76 : decode cX12_graph 76 = .ok (.iconst 1, 1) := by decide +kernel
theorem dX12_graph_77 : decode cX12_graph 77 = .ok (.invokevirtual 69, 3) := by decide +kernel
theorem dX12_graph_80 : decode cX12_graph 80 = .ok (.ifCond .ne 28, 3) := by decide +kernel
theorem dX12_graph_83 : decode cX12_graph 83 = .ok (.aload_n 0, 1) := by decide +kernel
theorem dX12_graph_84 : decode cX12_graph 84 = .ok (.aload_n 0, 1) := by decide +kernel
theorem dX12_graph_85 : decode cX12_graph 85 = .ok (.getfield 19, 3) := by decide +kernel
theorem dX12_graph_88 : decode cX12_graph 88 = .ok (.invokevirtual 44, 3) := by decide +kernel
theorem dX12_graph_91 : decode cX12_graph 91 = .ok (.bipush 24, 2) := by decide +kernel
theorem dX12_graph_93 : decode cX12_graph 93 = .ok (.if_icmp .ne 7, 3) := by decide +kernel
theorem dX12_graph_96 : decode cX12_graph 96 = .ok (.iconst 1, 1) := by decide +kernel
theorem dX12_graph_97 : decode cX12_graph 97 = .ok (.goto 4, 3) := by decide +kernel
theorem dX12_graph_100 : decode cX12_graph 100 = .ok (.iconst 0, 1) := by decide +kernel
theorem dX12_graph_101 : decode cX12_graph 101 = .ok (.iconst 2, 1) := by decide +kernel
theorem dX12_graph_102 : decode cX12_graph 102 = .ok (.invokevirtual 69, 3) := by decide +kernel
theorem dX12_graph_105 : decode cX12_graph 105 = .ok (.ifCond .eq 5, 3) := by decide +kernel
theorem dX12_graph_108 : decode cX12_graph 108 = .ok (.iconst 0, 1) := by decide +kernel
theorem dX12_graph_109 : decode cX12_graph 109 = .ok (.ireturn, 1) := by decide +kernel
theorem dX12_graph_110 : decode cX12_graph 110 = .ok (.aload_n 0, 1) := by decide +kernel
theorem dX12_graph_111 : decode cX12_graph 111 = .ok (.getfield 73, 3) := by decide +kernel
theorem dX12_graph_114 : decode cX12_graph 114 = .ok (.iconst 2, 1) := by decide +kernel
theorem dX12_graph_115 : decode cX12_graph 115 = .ok (.idiv, 1) := by decide +kernel
theorem dX12_graph_116 : decode cX12_graph 116 = .ok (.invokestatic 76, 3) := by decide +kernel
theorem dX12_graph_119 : decode cX12_graph 119 = .ok (.astore_n 2, 1) := by decide +kernel
theorem dX12_graph_120 : decode cX12_graph 120 = .ok (.bipush 10, 2) := by decide +kernel
theorem dX12_graph_122 : decode cX12_graph 122 = .ok (.newarray .int, 2) := by decide +kernel
theorem dX12_graph_124 : decode cX12_graph 124 = .ok (.astore_n 3, 1) := by decide +kernel
theorem dX12_graph_125 : decode cX12_graph 125 = .ok (.iconst 0, 1) := by decide +kernel
theorem dX12_graph_126 : decode cX12_graph 126 = .ok (.istore 4, 2) := by decide +kernel
theorem dX12_graph_128 : decode cX12_graph 128 = .ok (.iload 4, 2) := by decide +kernel
theorem dX12_graph_130 : decode cX12_graph 130 = .ok (.aload_n 2, 1) := by decide +kernel
theorem dX12_graph_131 : decode cX12_graph 131 = .ok (.invokevirtual 62, 3) := by decide +kernel
theorem dX12_graph_134 : decode cX12_graph 134 = .ok (.if_icmp .gt 118, 3) := by decide +kernel
theorem dX12_graph_137 : decode cX12_graph 137 = .ok (.iconst 0, 1) := by decide +kernel
theorem dX12_graph_138 : decode cX12_graph 138 = .ok (.istore 5, 2) := by decide +kernel
theorem dX12_graph_140 : decode cX12_graph 140 = .ok (.iload 5, 2) := by decide +kernel
theorem dX12_graph_142 : decode cX12_graph 142 = .ok (.bipush 10, 2) := by decide +kernel
theorem dX12_graph_144 : decode cX12_graph 144 = .ok (.if_icmp .ge 15, 3) := by decide +kernel
theorem dX12_graph_147 : decode cX12_graph 147 = .ok (.aload_n 3, 1) := by decide +kernel
theorem dX12_graph_148 : decode cX12_graph 148 = .ok (.iload 5, 2) := by decide +kernel
theorem dX12_graph_150 : decode cX12_graph 150 = .ok (.iload 5, 2) := by decide +kernel
theorem dX12_graph_152 : decode cX12_graph 152 = .ok (.iastore, 1) := by decide +kernel
theorem dX12_graph_153 : decode cX12_graph 153 = .ok (.iinc 5 1, 3) := by decide +kernel
theorem dX12_graph_156 : decode cX12_graph 156 = .ok (.goto (-16), 3) := by decide +kernel
theorem dX12_graph_159 : decode cX12_graph 159 = .ok (.iconst 0, 1) := by decide +kernel
theorem dX12_graph_160 : decode cX12_graph 160 = .ok (.istore 5, 2) := by decide +kernel
theorem dX12_graph_162 : decode cX12_graph 162 = .ok (.iload 5, 2) := by decide +kernel
theorem dX12_graph_164 : decode cX12_graph 164 = .ok (.aload_n 2, 1) := by decide +kernel
theorem dX12_graph_165 : decode cX12_graph 165 = .ok (.getfield 60, 3) := by decide +kernel
theorem dX12_graph_168 : decode cX12_graph 168 = .ok (.if_icmp .ge 78, 3) := by decide +kernel
theorem dX12_graph_171 : decode cX12_graph 171 = .ok (.aload_n 0, 1) := by decide +kernel
theorem dX12_graph_172 : decode cX12_graph 172 = .ok (.aload_n 3, 1) := by decide +kernel
theorem dX12_graph_173 : decode cX12_graph 173 = .ok (.aload_n 0, 1) := by decide +kernel
theorem dX12_graph_174 : decode cX12_graph 174 = .ok (.getfield 7, 3) := by decide +kernel
theorem dX12_graph_177 : decode cX12_graph 177 = .ok (.iconst 2, 1) := by decide +kernel
theorem dX12_graph_178 : decode cX12_graph 178 = .ok (.iload 5, 2) := by decide +kernel
theorem dX12_graph_180 : decode cX12_graph 180 = .ok (.imul, 1) := by decide +kernel
theorem dX12_graph_181 : decode cX12_graph 181 = .ok (.iaload, 1) := by decide +kernel
theorem dX12_graph_182 : decode cX12_graph 182 = .ok (.invokevirtual 98, 3) := by decide +kernel
theorem dX12_graph_185 : decode cX12_graph 185 = .ok (.istore 6, 2) := by decide +kernel
theorem dX12_graph_187 : decode cX12_graph 187 = .ok (.aload_n 0, 1) := by decide +kernel
theorem dX12_graph_188 : decode cX12_graph 188 = .ok (.aload_n 3, 1) := by decide +kernel
theorem dX12_graph_189 : decode cX12_graph 189 = .ok (.aload_n 0, 1) := by decide +kernel
theorem dX12_graph_190 : decode cX12_graph 190 = .ok (.getfield 7, 3) := by decide +kernel
theorem dX12_graph_193 : decode cX12_graph 193 = .ok (.iconst 2, 1) := by decide +kernel
theorem dX12_graph_194 : decode cX12_graph 194 = .ok (.iload 5, 2) := by decide +kernel
theorem dX12_graph_196 : decode cX12_graph 196 = .ok (.imul, 1) := by decide +kernel
theorem dX12_graph_197 : decode cX12_graph 197 = .ok (.iconst 1, 1) := by decide +kernel
theorem dX12_graph_198 : decode cX12_graph 198 = .ok (.iadd, 1) := by decide +kernel
theorem dX12_graph_199 : decode cX12_graph 199 = .ok (.iaload, 1) := by decide +kernel
theorem dX12_graph_200 : decode cX12_graph 200 = .ok (.invokevirtual 98, 3) := by decide +kernel
theorem dX12_graph_203 : decode cX12_graph 203 = .ok (.istore 7, 2) := by decide +kernel
theorem dX12_graph_205 : decode cX12_graph 205 = .ok (.iload 4, 2) := by decide +kernel
theorem dX12_graph_207 : decode cX12_graph 207 = .ok (.iload 5, 2) := by decide +kernel
theorem dX12_graph_209 : decode cX12_graph 209 = .ok (.ishr, 1) := by decide +kernel
theorem dX12_graph_210 : decode cX12_graph 210 = .ok (.iconst 1, 1) := by decide +kernel
theorem dX12_graph_211 : decode cX12_graph 211 = .ok (.iand, 1) := by decide +kernel
theorem dX12_graph_212 : decode cX12_graph 212 = .ok (.iconst 1, 1) := by decide +kernel
theorem dX12_graph_213 : decode cX12_graph 213 = .ok (.if_icmp .ne 27, 3) := by decide +kernel
theorem dX12_graph_216 : decode cX12_graph 216 = .ok (.iload 6, 2) := by decide +kernel
theorem dX12_graph_218 : decode cX12_graph 218 = .ok (.iload 7, 2) := by decide +kernel
theorem dX12_graph_220 : decode cX12_graph 220 = .ok (.if_icmp .eq 20, 3) := by decide +kernel
theorem dX12_graph_223 : decode cX12_graph 223 = .ok (.aload_n 3, 1) := by decide +kernel
theorem dX12_graph_224 : decode cX12_graph 224 = .ok (.iload 6, 2) := by decide +kernel
theorem dX12_graph_226 : decode cX12_graph 226 = .ok (.iload 7, 2) := by decide +kernel
theorem dX12_graph_228 : decode cX12_graph 228 = .ok (.iastore, 1) := by decide +kernel
theorem dX12_graph_229 : decode cX12_graph 229 = .ok (.aload_n 2, 1) := by decide +kernel
theorem dX12_graph_230 : decode cX12_graph 230 = .ok (.getfield 80, 3) := by decide +kernel
theorem dX12_graph_233 : decode cX12_graph 233 = .ok (.iload 4, 2) := by decide +kernel
theorem dX12_graph_235 : decode cX12_graph 235 = .ok (.dup2, 1) := by decide +kernel
theorem dX12_graph_236 : decode cX12_graph 236 = .ok (.iaload, 1) := by decide +kernel
theorem dX12_graph_237 : decode cX12_graph 237 = .ok (.iconst 1, 1) := by decide +kernel
theorem dX12_graph_238 : decode cX12_graph 238 = .ok (.iadd, 1) := by decide +kernel
theorem dX12_graph_239 : decode cX12_graph 239 = .ok (.iastore, 1) := by decide +kernel
theorem dX12_graph_240 : decode cX12_graph 240 = .ok (.iinc 5 1, 3) := by decide +kernel
theorem dX12_graph_243 : decode cX12_graph 243 = .ok (.goto (-81), 3) := by decide +kernel
theorem dX12_graph_246 : decode cX12_graph 246 = .ok (.iinc 4 1, 3) := by decide +kernel
theorem dX12_graph_249 : decode cX12_graph 249 = .ok (.goto (-121), 3) := by decide +kernel
theorem dX12_graph_252 : decode cX12_graph 252 = .ok (.aload_n 0, 1) := by decide +kernel
theorem dX12_graph_253 : decode cX12_graph 253 = .ok (.iconst 0, 1) := by decide +kernel
theorem dX12_graph_254 : decode cX12_graph 254 = .ok (.putfield 73, 3) := by decide +kernel
theorem dX12_graph_257 : decode cX12_graph 257 = .ok (.aload_n 0, 1) := by decide +kernel
theorem dX12_graph_258 : decode cX12_graph 258 = .ok (.aload_n 2, 1) := by decide +kernel
theorem dX12_graph_259 : decode cX12_graph 259 = .ok (.invokevirtual 95, 3) := by decide +kernel
theorem dX12_graph_262 : decode cX12_graph 262 = .ok (.ireturn, 1) := by decide +kernel
theorem dX12_inverse_0 : decode cX12_inverse 0 = .ok (.iconst 1, 1) := by decide +kernel
theorem dX12_inverse_1 : decode cX12_inverse 1 = .ok (.istore_n 2, 1) := by decide +kernel
theorem dX12_inverse_2 : decode cX12_inverse 2 = .ok (.iload_n 0, 1) := by decide +kernel
theorem dX12_inverse_3 : decode cX12_inverse 3 = .ok (.iload_n 2, 1) := by decide +kernel
theorem dX12_inverse_4 : decode cX12_inverse 4 = .ok (.imul, 1) := by decide +kernel
theorem dX12_inverse_5 : decode cX12_inverse 5 = .ok (.iload_n 1, 1) := by decide +kernel
theorem dX12_inverse_6 : decode cX12_inverse 6 = .ok (.irem, 1) := by decide +kernel
theorem dX12_inverse_7 : decode cX12_inverse 7 = .ok (.iconst 1, 1) := by decide +kernel
theorem dX12_inverse_8 : decode cX12_inverse 8 = .ok (.if_icmp .eq 9, 3) := by decide +kernel
theorem dX12_inverse_11 : decode cX12_inverse 11 = .ok (.iinc 2 1, 3) := by decide +kernel
theorem dX12_inverse_14 : decode cX12_inverse 14 = .ok (.goto (-12), 3) := by decide +kernel
theorem dX12_inverse_17 : decode cX12_inverse 17 = .ok (.iload_n 2, 1) := by decide +kernel
theorem dX12_inverse_18 : decode cX12_inverse 18 = .ok (.ireturn, 1) := by decide +kernel
theorem dX12_rankOf_0 : decode cX12_rankOf 0 = .ok (.iconst 0, 1) := by decide +kernel
theorem dX12_rankOf_1 : decode cX12_rankOf 1 = .ok (.istore 6, 2) := by decide +kernel
theorem dX12_rankOf_3 : decode cX12_rankOf 3 = .ok (.iload 6, 2) := by decide +kernel
theorem dX12_rankOf_5 : decode cX12_rankOf 5 = .ok (.iload_n 2, 1) := by decide +kernel
theorem dX12_rankOf_6 : decode cX12_rankOf 6 = .ok (.iload_n 3, 1) := by decide +kernel
theorem dX12_rankOf_7 : decode cX12_rankOf 7 = .ok (.imul, 1) := by decide +kernel
theorem dX12_rankOf_8 : decode cX12_rankOf 8 = .ok (.if_icmp .ge 20, 3) := by decide +kernel
theorem dX12_rankOf_11 : decode cX12_rankOf 11 = .ok (.aload_n 0, 1) := by decide +kernel
theorem dX12_rankOf_12 : decode cX12_rankOf 12 = .ok (.getfield 23, 3) := by decide +kernel
theorem dX12_rankOf_15 : decode cX12_rankOf 15 = .ok (.iload 6, 2) := by decide +kernel
theorem dX12_rankOf_17 : decode cX12_rankOf 17 = .ok (.aload_n 1, 1) := by decide +kernel
theorem dX12_rankOf_18 : decode cX12_rankOf 18 = .ok (.iload 6, 2) := by decide +kernel
theorem dX12_rankOf_20 : decode cX12_rankOf 20 = .ok (.iaload, 1) := by decide +kernel
theorem dX12_rankOf_21 : decode cX12_rankOf 21 = .ok (.iastore, 1) := by decide +kernel
theorem dX12_rankOf_22 : decode cX12_rankOf 22 = .ok (.iinc 6 1, 3) := by decide +kernel
theorem dX12_rankOf_25 : decode cX12_rankOf 25 = .ok (.goto (-22), 3) := by decide +kernel
theorem dX12_rankOf_28 : decode cX12_rankOf 28 = .ok (.iconst 0, 1) := by decide +kernel
theorem dX12_rankOf_29 : decode cX12_rankOf 29 = .ok (.istore 6, 2) := by decide +kernel
theorem dX12_rankOf_31 : decode cX12_rankOf 31 = .ok (.iload 6, 2) := by decide +kernel
theorem dX12_rankOf_33 : decode cX12_rankOf 33 = .ok (.iload_n 3, 1) := by decide +kernel
theorem dX12_rankOf_34 : decode cX12_rankOf 34 = .ok (.if_icmp .ge 17, 3) := by decide +kernel
theorem dX12_rankOf_37 : decode cX12_rankOf 37 = .ok (.aload_n 0, 1) := by decide +kernel
theorem dX12_rankOf_38 : decode cX12_rankOf 38 = .ok (.getfield 26, 3) := by decide +kernel
theorem dX12_rankOf_41 : decode cX12_rankOf 41 = .ok (.iload 6, 2) := by decide +kernel
theorem dX12_rankOf_43 : decode cX12_rankOf 43 = .ok (.iconst 0, 1) := by decide +kernel
theorem dX12_rankOf_44 : decode cX12_rankOf 44 = .ok (.bastore, 1) := by decide +kernel
theorem dX12_rankOf_45 : decode cX12_rankOf 45 = .ok (.iinc 6 1, 3) := by decide +kernel
theorem dX12_rankOf_48 : decode cX12_rankOf 48 = .ok (.goto (-17), 3) := by decide +kernel
theorem dX12_rankOf_51 : decode cX12_rankOf 51 = .ok (.iconst 0, 1) := by decide +kernel
theorem dX12_rankOf_52 : decode cX12_rankOf 52 = .ok (.istore 6, 2) := by decide +kernel
theorem dX12_rankOf_54 : decode cX12_rankOf 54 = .ok (.iconst 0, 1) := by decide +kernel
theorem dX12_rankOf_55 : decode cX12_rankOf 55 = .ok (.istore 7, 2) := by decide +kernel
theorem dX12_rankOf_57 : decode cX12_rankOf 57 = .ok (.iload 7, 2) := by decide +kernel
theorem dX12_rankOf_59 : decode cX12_rankOf 59 = .ok (.iload_n 2, 1) := by decide +kernel
theorem dX12_rankOf_60 : decode cX12_rankOf 60 = .ok (.if_icmp .ge 216, 3) := by decide +kernel
theorem dX12_rankOf_63 : decode cX12_rankOf 63 = .ok (.iconst (-1), 1) := by decide +kernel
theorem dX12_rankOf_64 : decode cX12_rankOf 64 = .ok (.istore 8, 2) := by decide +kernel
theorem dX12_rankOf_66 : decode cX12_rankOf 66 = .ok (.iconst 0, 1) := by decide +kernel
theorem dX12_rankOf_67 : decode cX12_rankOf 67 = .ok (.istore 9, 2) := by decide +kernel
theorem dX12_rankOf_69 : decode cX12_rankOf 69 = .ok (.iload 9, 2) := by decide +kernel
theorem dX12_rankOf_71 : decode cX12_rankOf 71 = .ok (.iload_n 3, 1) := by decide +kernel
theorem dX12_rankOf_72 : decode cX12_rankOf 72 = .ok (.if_icmp .ge 60, 3) := by decide +kernel
theorem dX12_rankOf_75 : decode cX12_rankOf 75 = .ok (.iload 8, 2) := by decide +kernel
theorem dX12_rankOf_77 : decode cX12_rankOf 77 = .ok (.iconst (-1), 1) := by decide +kernel
theorem dX12_rankOf_78 : decode cX12_rankOf 78 = .ok (.if_icmp .ne 44, 3) := by decide +kernel
theorem dX12_rankOf_81 : decode cX12_rankOf 81 = .ok (.iload 4, 2) := by decide +kernel
theorem dX12_rankOf_83 : decode cX12_rankOf 83 = .ok (.iload 9, 2) := by decide +kernel
theorem dX12_rankOf_85 : decode cX12_rankOf 85 = .ok (.ishr, 1) := by decide +kernel
theorem dX12_rankOf_86 : decode cX12_rankOf 86 = .ok (.iconst 1, 1) := by decide +kernel
theorem dX12_rankOf_87 : decode cX12_rankOf 87 = .ok (.iand, 1) := by decide +kernel
theorem dX12_rankOf_88 : decode cX12_rankOf 88 = .ok (.iconst 1, 1) := by decide +kernel
theorem dX12_rankOf_89 : decode cX12_rankOf 89 = .ok (.if_icmp .ne 33, 3) := by decide +kernel
theorem dX12_rankOf_92 : decode cX12_rankOf 92 = .ok (.aload_n 0, 1) := by decide +kernel
theorem dX12_rankOf_93 : decode cX12_rankOf 93 = .ok (.getfield 26, 3) := by decide +kernel
theorem dX12_rankOf_96 : decode cX12_rankOf 96 = .ok (.iload 9, 2) := by decide +kernel
theorem dX12_rankOf_98 : decode cX12_rankOf 98 = .ok (.baload, 1) := by decide +kernel
theorem dX12_rankOf_99 : decode cX12_rankOf 99 = .ok (.ifCond .ne 23, 3) := by decide +kernel
theorem dX12_rankOf_102 : decode cX12_rankOf 102 = .ok (.aload_n 0, 1) := by decide +kernel
theorem dX12_rankOf_103 : decode cX12_rankOf 103 = .ok (.getfield 23, 3) := by decide +kernel
theorem dX12_rankOf_106 : decode cX12_rankOf 106 = .ok (.iload_n 2, 1) := by decide +kernel
theorem dX12_rankOf_107 : decode cX12_rankOf 107 = .ok (.iload 9, 2) := by decide +kernel
theorem dX12_rankOf_109 : decode cX12_rankOf 109 = .ok (.imul, 1) := by decide +kernel
theorem dX12_rankOf_110 : decode cX12_rankOf 110 = .ok (.iload 7, 2) := by decide +kernel
theorem dX12_rankOf_112 : decode cX12_rankOf 112 = .ok (.iadd, 1) := by decide +kernel
theorem dX12_rankOf_113 : decode cX12_rankOf 113 = .ok (.iaload, 1) := by decide +kernel
theorem dX12_rankOf_114 : decode cX12_rankOf 114 = .ok (.ifCond .eq 8, 3) := by decide +kernel
theorem dX12_rankOf_117 : decode cX12_rankOf 117 = .ok (.iload 9, 2) := by decide +kernel
theorem dX12_rankOf_119 : decode cX12_rankOf 119 = .ok (.goto 5, 3) := by decide +kernel
theorem dX12_rankOf_122 : decode cX12_rankOf 122 = .ok (.iload 8, 2) := by decide +kernel
theorem dX12_rankOf_124 : decode cX12_rankOf 124 = .ok (.istore 8, 2) := by decide +kernel
theorem dX12_rankOf_126 : decode cX12_rankOf 126 = .ok (.iinc 9 1, 3) := by decide +kernel
theorem dX12_rankOf_129 : decode cX12_rankOf 129 = .ok (.goto (-60), 3) := by decide +kernel
theorem dX12_rankOf_132 : decode cX12_rankOf 132 = .ok (.iload 8, 2) := by decide +kernel
theorem dX12_rankOf_134 : decode cX12_rankOf 134 = .ok (.iconst (-1), 1) := by decide +kernel
theorem dX12_rankOf_135 : decode cX12_rankOf 135 = .ok (.if_icmp .eq 135, 3) := by decide +kernel
theorem dX12_rankOf_138 : decode cX12_rankOf 138 = .ok (.aload_n 0, 1) := by decide +kernel
theorem dX12_rankOf_139 : decode cX12_rankOf 139 = .ok (.getfield 26, 3) := by decide +kernel
theorem dX12_rankOf_142 : decode cX12_rankOf 142 = .ok (.iload 8, 2) := by decide +kernel
theorem dX12_rankOf_144 : decode cX12_rankOf 144 = .ok (.iconst 1, 1) := by decide +kernel
theorem dX12_rankOf_145 : decode cX12_rankOf 145 = .ok (.bastore, 1) := by decide +kernel
theorem dX12_rankOf_146 : decode cX12_rankOf 146 = .ok (.iinc 6 1, 3) := by decide +kernel
theorem dX12_rankOf_149 : decode cX12_rankOf 149 = .ok (.aload_n 0, 1) := by decide +kernel
theorem dX12_rankOf_150 : decode cX12_rankOf 150 = .ok (.getfield 23, 3) := by decide +kernel
theorem dX12_rankOf_153 : decode cX12_rankOf 153 = .ok (.iload_n 2, 1) := by decide +kernel
theorem dX12_rankOf_154 : decode cX12_rankOf 154 = .ok (.iload 8, 2) := by decide +kernel
theorem dX12_rankOf_156 : decode cX12_rankOf 156 = .ok (.imul, 1) := by decide +kernel
theorem dX12_rankOf_157 : decode cX12_rankOf 157 = .ok (.iload 7, 2) := by decide +kernel
theorem dX12_rankOf_159 : decode cX12_rankOf 159 = .ok (.iadd, 1) := by decide +kernel
theorem dX12_rankOf_160 : decode cX12_rankOf 160 = .ok (.iaload, 1) := by decide +kernel
theorem dX12_rankOf_161 : decode cX12_rankOf 161 = .ok (.iload 5, 2) := by decide +kernel
theorem dX12_rankOf_163 : decode cX12_rankOf 163 = .ok (.invokestatic 102, 3) := by decide +kernel
theorem dX12_rankOf_166 : decode cX12_rankOf 166 = .ok (.istore 9, 2) := by decide +kernel
theorem dX12_rankOf_168 : decode cX12_rankOf 168 = .ok (.iconst 0, 1) := by decide +kernel
theorem dX12_rankOf_169 : decode cX12_rankOf 169 = .ok (.istore 10, 2) := by decide +kernel
theorem dX12_rankOf_171 : decode cX12_rankOf 171 = .ok (.iload 10, 2) := by decide +kernel
theorem dX12_rankOf_173 : decode cX12_rankOf 173 = .ok (.iload_n 3, 1) := by decide +kernel
theorem dX12_rankOf_174 : decode cX12_rankOf 174 = .ok (.if_icmp .ge 96, 3) := by decide +kernel
theorem dX12_rankOf_177 : decode cX12_rankOf 177 = .ok (.aload_n 0, 1) := by decide +kernel
theorem dX12_rankOf_178 : decode cX12_rankOf 178 = .ok (.getfield 23, 3) := by decide +kernel
theorem dX12_rankOf_181 : decode cX12_rankOf 181 = .ok (.iload_n 2, 1) := by decide +kernel
theorem dX12_rankOf_182 : decode cX12_rankOf 182 = .ok (.iload 10, 2) := by decide +kernel
theorem dX12_rankOf_184 : decode cX12_rankOf 184 = .ok (.imul, 1) := by decide +kernel
theorem dX12_rankOf_185 : decode cX12_rankOf 185 = .ok (.iload 7, 2) := by decide +kernel
theorem dX12_rankOf_187 : decode cX12_rankOf 187 = .ok (.iadd, 1) := by decide +kernel
theorem dX12_rankOf_188 : decode cX12_rankOf 188 = .ok (.iaload, 1) := by decide +kernel
theorem dX12_rankOf_189 : decode cX12_rankOf 189 = .ok (.iload 9, 2) := by decide +kernel
theorem dX12_rankOf_191 : decode cX12_rankOf 191 = .ok (.imul, 1) := by decide +kernel
theorem dX12_rankOf_192 : decode cX12_rankOf 192 = .ok (.iload 5, 2) := by decide +kernel
theorem dX12_rankOf_194 : decode cX12_rankOf 194 = .ok (.irem, 1) := by decide +kernel
theorem dX12_rankOf_195 : decode cX12_rankOf 195 = .ok (.istore 11, 2) := by decide +kernel
theorem dX12_rankOf_197 : decode cX12_rankOf 197 = .ok (.iconst 0, 1) := by decide +kernel
theorem dX12_rankOf_198 : decode cX12_rankOf 198 = .ok (.istore 12, 2) := by decide +kernel
theorem dX12_rankOf_200 : decode cX12_rankOf 200 = .ok (.iload 12, 2) := by decide +kernel
theorem dX12_rankOf_202 : decode cX12_rankOf 202 = .ok (.iload_n 2, 1) := by decide +kernel
theorem dX12_rankOf_203 : decode cX12_rankOf 203 = .ok (.if_icmp .ge 61, 3) := by decide +kernel
theorem dX12_rankOf_206 : decode cX12_rankOf 206 = .ok (.iload 10, 2) := by decide +kernel
theorem dX12_rankOf_208 : decode cX12_rankOf 208 = .ok (.iload 8, 2) := by decide +kernel
theorem dX12_rankOf_210 : decode cX12_rankOf 210 = .ok (.if_icmp .eq 54, 3) := by decide +kernel
theorem dX12_rankOf_213 : decode cX12_rankOf 213 = .ok (.aload_n 0, 1) := by decide +kernel
theorem dX12_rankOf_214 : decode cX12_rankOf 214 = .ok (.getfield 23, 3) := by decide +kernel
theorem dX12_rankOf_217 : decode cX12_rankOf 217 = .ok (.iload_n 2, 1) := by decide +kernel
theorem dX12_rankOf_218 : decode cX12_rankOf 218 = .ok (.iload 10, 2) := by decide +kernel
theorem dX12_rankOf_220 : decode cX12_rankOf 220 = .ok (.imul, 1) := by decide +kernel
theorem dX12_rankOf_221 : decode cX12_rankOf 221 = .ok (.iload 12, 2) := by decide +kernel
theorem dX12_rankOf_223 : decode cX12_rankOf 223 = .ok (.iadd, 1) := by decide +kernel
theorem dX12_rankOf_224 : decode cX12_rankOf 224 = .ok (.aload_n 0, 1) := by decide +kernel
theorem dX12_rankOf_225 : decode cX12_rankOf 225 = .ok (.getfield 23, 3) := by decide +kernel
theorem dX12_rankOf_228 : decode cX12_rankOf 228 = .ok (.iload_n 2, 1) := by decide +kernel
theorem dX12_rankOf_229 : decode cX12_rankOf 229 = .ok (.iload 10, 2) := by decide +kernel
theorem dX12_rankOf_231 : decode cX12_rankOf 231 = .ok (.imul, 1) := by decide +kernel
theorem dX12_rankOf_232 : decode cX12_rankOf 232 = .ok (.iload 12, 2) := by decide +kernel
theorem dX12_rankOf_234 : decode cX12_rankOf 234 = .ok (.iadd, 1) := by decide +kernel
theorem dX12_rankOf_235 : decode cX12_rankOf 235 = .ok (.iaload, 1) := by decide +kernel
theorem dX12_rankOf_236 : decode cX12_rankOf 236 = .ok (.iload 11, 2) := by decide +kernel
theorem dX12_rankOf_238 : decode cX12_rankOf 238 = .ok (.aload_n 0, 1) := by decide +kernel
theorem dX12_rankOf_239 : decode cX12_rankOf 239 = .ok (.getfield 23, 3) := by decide +kernel
theorem dX12_rankOf_242 : decode cX12_rankOf 242 = .ok (.iload_n 2, 1) := by decide +kernel
theorem dX12_rankOf_243 : decode cX12_rankOf 243 = .ok (.iload 8, 2) := by decide +kernel
theorem dX12_rankOf_245 : decode cX12_rankOf 245 = .ok (.imul, 1) := by decide +kernel
theorem dX12_rankOf_246 : decode cX12_rankOf 246 = .ok (.iload 12, 2) := by decide +kernel
theorem dX12_rankOf_248 : decode cX12_rankOf 248 = .ok (.iadd, 1) := by decide +kernel
theorem dX12_rankOf_249 : decode cX12_rankOf 249 = .ok (.iaload, 1) := by decide +kernel
theorem dX12_rankOf_250 : decode cX12_rankOf 250 = .ok (.imul, 1) := by decide +kernel
theorem dX12_rankOf_251 : decode cX12_rankOf 251 = .ok (.isub, 1) := by decide +kernel
theorem dX12_rankOf_252 : decode cX12_rankOf 252 = .ok (.iload 5, 2) := by decide +kernel
theorem dX12_rankOf_254 : decode cX12_rankOf 254 = .ok (.invokestatic 105, 3) := by decide +kernel
theorem dX12_rankOf_257 : decode cX12_rankOf 257 = .ok (.iastore, 1) := by decide +kernel
theorem dX12_rankOf_258 : decode cX12_rankOf 258 = .ok (.iinc 12 1, 3) := by decide +kernel
theorem dX12_rankOf_261 : decode cX12_rankOf 261 = .ok (.goto (-61), 3) := by decide +kernel
theorem dX12_rankOf_264 : decode cX12_rankOf 264 = .ok (.iinc 10 1, 3) := by decide +kernel
theorem dX12_rankOf_267 : decode cX12_rankOf 267 = .ok (.goto (-96), 3) := by decide +kernel
theorem dX12_rankOf_270 : decode cX12_rankOf 270 = .ok (.iinc 7 1, 3) := by decide +kernel
theorem dX12_rankOf_273 : decode cX12_rankOf 273 = .ok (.goto (-216), 3) := by decide +kernel
theorem dX12_rankOf_276 : decode cX12_rankOf 276 = .ok (.iload 6, 2) := by decide +kernel
theorem dX12_rankOf_278 : decode cX12_rankOf 278 = .ok (.ireturn, 1) := by decide +kernel
theorem dX12_columns_0 : decode cX12_columns 0 = .ok (.aload_n 0, 1) := by decide +kernel
theorem dX12_columns_1 : decode cX12_columns 1 = .ok (.iconst 0, 1) := by decide +kernel
theorem dX12_columns_2 : decode cX12_columns 2 = .ok (.putfield 40, 3) := by decide +kernel
theorem dX12_columns_5 : decode cX12_columns 5 = .ok (.aload_n 0, 1) := by decide +kernel
theorem dX12_columns_6 : decode cX12_columns 6 = .ok (.iload_n 1, 1) := by decide +kernel
theorem dX12_columns_7 : decode cX12_columns 7 = .ok (.iconst 2, 1) := by decide +kernel
theorem dX12_columns_8 : decode cX12_columns 8 = .ok (.if_icmp .eq 13, 3) := by decide +kernel
theorem dX12_columns_11 : decode cX12_columns 11 = .ok (.iload_n 1, 1) := by decide +kernel
theorem dX12_columns_12 : decode cX12_columns 12 = .ok (.iconst 3, 1) := by decide +kernel
theorem dX12_columns_13 : decode cX12_columns 13 = .ok (.if_icmp .eq 8, 3) := by decide +kernel
theorem dX12_columns_16 : decode cX12_columns 16 = .ok (.iload_n 1, 1) := by decide +kernel
theorem dX12_columns_17 : decode cX12_columns 17 = .ok (.iconst 5, 1) := by decide +kernel
theorem dX12_columns_18 : decode cX12_columns 18 = .ok (.if_icmp .ne 13, 3) := by decide +kernel
theorem dX12_columns_21 : decode cX12_columns 21 = .ok (.iload_n 2, 1) := by decide +kernel
theorem dX12_columns_22 : decode cX12_columns 22 = .ok (.iconst 1, 1) := by decide +kernel
theorem dX12_columns_23 : decode cX12_columns 23 = .ok (.bipush 6, 2) := by decide +kernel
theorem dX12_columns_25 : decode cX12_columns 25 = .ok (.invokestatic 48, 3) := by decide +kernel
theorem dX12_columns_28 : decode cX12_columns 28 = .ok (.ifCond .ne 7, 3) := by decide +kernel
theorem dX12_columns_31 : decode cX12_columns 31 = .ok (.iconst 1, 1) := by decide +kernel
theorem dX12_columns_32 : decode cX12_columns 32 = .ok (.goto 4, 3) := by decide +kernel
theorem dX12_columns_35 : decode cX12_columns 35 = .ok (.iconst 0, 1) := by decide +kernel
theorem dX12_columns_36 : decode cX12_columns 36 = .ok (.iconst 1, 1) := by decide +kernel
theorem dX12_columns_37 : decode cX12_columns 37 = .ok (.invokevirtual 69, 3) := by decide +kernel
theorem dX12_columns_40 : decode cX12_columns 40 = .ok (.ifCond .eq 5, 3) := by decide +kernel
theorem dX12_columns_43 : decode cX12_columns 43 = .ok (.iconst 0, 1) := by decide +kernel
theorem dX12_columns_44 : decode cX12_columns 44 = .ok (.ireturn, 1) := by decide +kernel
theorem dX12_columns_45 : decode cX12_columns 45 = .ok (.aload_n 0, 1) := by decide +kernel
theorem dX12_columns_46 : decode cX12_columns 46 = .ok (.getfield 73, 3) := by decide +kernel
theorem dX12_columns_49 : decode cX12_columns 49 = .ok (.iload_n 2, 1) := by decide +kernel
theorem dX12_columns_50 : decode cX12_columns 50 = .ok (.irem, 1) := by decide +kernel
theorem dX12_columns_51 : decode cX12_columns 51 = .ok (.ifCond .ne 18, 3) := by decide +kernel
theorem dX12_columns_54 : decode cX12_columns 54 = .ok (.aload_n 0, 1) := by decide +kernel
theorem dX12_columns_55 : decode cX12_columns 55 = .ok (.getfield 73, 3) := by decide +kernel
theorem dX12_columns_58 : decode cX12_columns 58 = .ok (.iload_n 2, 1) := by decide +kernel
theorem dX12_columns_59 : decode cX12_columns 59 = .ok (.idiv, 1) := by decide +kernel
theorem dX12_columns_60 : decode cX12_columns 60 = .ok (.bipush 10, 2) := by decide +kernel
theorem dX12_columns_62 : decode cX12_columns 62 = .ok (.if_icmp .gt 7, 3) := by decide +kernel
theorem dX12_columns_65 : decode cX12_columns 65 = .ok (.iconst 1, 1) := by decide +kernel
theorem dX12_columns_66 : decode cX12_columns 66 = .ok (.goto 4, 3) := by decide +kernel
theorem dX12_columns_69 : decode cX12_columns 69 = .ok (.iconst 0, 1) := by decide +kernel
theorem dX12_columns_70 : decode cX12_columns 70 = .ok (.istore_n 3, 1) := by decide +kernel
theorem dX12_columns_71 : decode cX12_columns 71 = .ok (.iconst 0, 1) := by decide +kernel
theorem dX12_columns_72 : decode cX12_columns 72 = .ok (.istore 4, 2) := by decide +kernel
theorem dX12_columns_74 : decode cX12_columns 74 = .ok (.iload 4, 2) := by decide +kernel
theorem dX12_columns_76 : decode cX12_columns 76 = .ok (.aload_n 0, 1) := by decide +kernel
theorem dX12_columns_77 : decode cX12_columns 77 = .ok (.getfield 73, 3) := by decide +kernel
theorem dX12_columns_80 : decode cX12_columns 80 = .ok (.if_icmp .ge 30, 3) := by decide +kernel
theorem dX12_columns_83 : decode cX12_columns 83 = .ok (.iload_n 3, 1) := by decide +kernel
theorem dX12_columns_84 : decode cX12_columns 84 = .ok (.ifCond .eq 18, 3) := by decide +kernel
theorem dX12_columns_87 : decode cX12_columns 87 = .ok (.aload_n 0, 1) := by decide +kernel
theorem dX12_columns_88 : decode cX12_columns 88 = .ok (.getfield 7, 3) := by decide +kernel
theorem dX12_columns_91 : decode cX12_columns 91 = .ok (.iload 4, 2) := by decide +kernel
theorem dX12_columns_93 : decode cX12_columns 93 = .ok (.iaload, 1) := by decide +kernel
theorem dX12_columns_94 : decode cX12_columns 94 = .ok (.iload_n 1, 1) := by decide +kernel
theorem dX12_columns_95 : decode cX12_columns 95 = .ok (.if_icmp .ge 7, 3) := by decide +kernel
theorem dX12_columns_98 : decode cX12_columns 98 = .ok (.iconst 1, 1) := by decide +kernel
theorem dX12_columns_99 : decode cX12_columns 99 = .ok (.goto 4, 3) := by decide +kernel
theorem dX12_columns_102 : decode cX12_columns 102 = .ok (.iconst 0, 1) := by decide +kernel
theorem dX12_columns_103 : decode cX12_columns 103 = .ok (.istore_n 3, 1) := by decide +kernel
theorem dX12_columns_104 : decode cX12_columns 104 = .ok (.iinc 4 1, 3) := by decide +kernel
theorem dX12_columns_107 : decode cX12_columns 107 = .ok (.goto (-33), 3) := by decide +kernel
theorem dX12_columns_110 : decode cX12_columns 110 = .ok (.aload_n 0, 1) := by decide +kernel
theorem dX12_columns_111 : decode cX12_columns 111 = .ok (.iload_n 3, 1) := by decide +kernel
theorem dX12_columns_112 : decode cX12_columns 112 = .ok (.ifCond .ne 7, 3) := by decide +kernel
theorem dX12_columns_115 : decode cX12_columns 115 = .ok (.iconst 1, 1) := by decide +kernel
theorem dX12_columns_116 : decode cX12_columns 116 = .ok (.goto 4, 3) := by decide +kernel
theorem dX12_columns_119 : decode cX12_columns 119 = .ok (.iconst 0, 1) := by decide +kernel
theorem dX12_columns_120 : decode cX12_columns 120 = .ok (.iconst 2, 1) := by decide +kernel
theorem dX12_columns_121 : decode cX12_columns 121 = .ok (.invokevirtual 69, 3) := by decide +kernel
theorem dX12_columns_124 : decode cX12_columns 124 = .ok (.ifCond .ne 28, 3) := by decide +kernel
theorem dX12_columns_127 : decode cX12_columns 127 = .ok (.aload_n 0, 1) := by decide +kernel
theorem dX12_columns_128 : decode cX12_columns 128 = .ok (.aload_n 0, 1) := by decide +kernel
theorem dX12_columns_129 : decode cX12_columns 129 = .ok (.getfield 19, 3) := by decide +kernel
theorem dX12_columns_132 : decode cX12_columns 132 = .ok (.invokevirtual 44, 3) := by decide +kernel
theorem dX12_columns_135 : decode cX12_columns 135 = .ok (.bipush 24, 2) := by decide +kernel
theorem dX12_columns_137 : decode cX12_columns 137 = .ok (.if_icmp .ne 7, 3) := by decide +kernel
theorem dX12_columns_140 : decode cX12_columns 140 = .ok (.iconst 1, 1) := by decide +kernel
theorem dX12_columns_141 : decode cX12_columns 141 = .ok (.goto 4, 3) := by decide +kernel
theorem dX12_columns_144 : decode cX12_columns 144 = .ok (.iconst 0, 1) := by decide +kernel
theorem dX12_columns_145 : decode cX12_columns 145 = .ok (.iconst 3, 1) := by decide +kernel
theorem dX12_columns_146 : decode cX12_columns 146 = .ok (.invokevirtual 69, 3) := by decide +kernel
theorem dX12_columns_149 : decode cX12_columns 149 = .ok (.ifCond .eq 5, 3) := by decide +kernel
theorem dX12_columns_152 : decode cX12_columns 152 = .ok (.iconst 0, 1) := by decide +kernel
theorem dX12_columns_153 : decode cX12_columns 153 = .ok (.ireturn, 1) := by decide +kernel
theorem dX12_columns_154 : decode cX12_columns 154 = .ok (.aload_n 0, 1) := by decide +kernel
theorem dX12_columns_155 : decode cX12_columns 155 = .ok (.getfield 73, 3) := by decide +kernel
theorem dX12_columns_158 : decode cX12_columns 158 = .ok (.iload_n 2, 1) := by decide +kernel
theorem dX12_columns_159 : decode cX12_columns 159 = .ok (.idiv, 1) := by decide +kernel
theorem dX12_columns_160 : decode cX12_columns 160 = .ok (.invokestatic 76, 3) := by decide +kernel
theorem dX12_columns_163 : decode cX12_columns 163 = .ok (.astore 4, 2) := by decide +kernel
theorem dX12_columns_165 : decode cX12_columns 165 = .ok (.iconst 0, 1) := by decide +kernel
theorem dX12_columns_166 : decode cX12_columns 166 = .ok (.istore 5, 2) := by decide +kernel
theorem dX12_columns_168 : decode cX12_columns 168 = .ok (.iload 5, 2) := by decide +kernel
theorem dX12_columns_170 : decode cX12_columns 170 = .ok (.aload 4, 2) := by decide +kernel
theorem dX12_columns_172 : decode cX12_columns 172 = .ok (.invokevirtual 62, 3) := by decide +kernel
theorem dX12_columns_175 : decode cX12_columns 175 = .ok (.if_icmp .gt 34, 3) := by decide +kernel
theorem dX12_columns_178 : decode cX12_columns 178 = .ok (.aload 4, 2) := by decide +kernel
theorem dX12_columns_180 : decode cX12_columns 180 = .ok (.getfield 80, 3) := by decide +kernel
theorem dX12_columns_183 : decode cX12_columns 183 = .ok (.iload 5, 2) := by decide +kernel
theorem dX12_columns_185 : decode cX12_columns 185 = .ok (.aload_n 0, 1) := by decide +kernel
theorem dX12_columns_186 : decode cX12_columns 186 = .ok (.aload_n 0, 1) := by decide +kernel
theorem dX12_columns_187 : decode cX12_columns 187 = .ok (.getfield 7, 3) := by decide +kernel
theorem dX12_columns_190 : decode cX12_columns 190 = .ok (.iload_n 2, 1) := by decide +kernel
theorem dX12_columns_191 : decode cX12_columns 191 = .ok (.aload 4, 2) := by decide +kernel
theorem dX12_columns_193 : decode cX12_columns 193 = .ok (.getfield 60, 3) := by decide +kernel
theorem dX12_columns_196 : decode cX12_columns 196 = .ok (.iload 5, 2) := by decide +kernel
theorem dX12_columns_198 : decode cX12_columns 198 = .ok (.iload_n 1, 1) := by decide +kernel
theorem dX12_columns_199 : decode cX12_columns 199 = .ok (.invokevirtual 108, 3) := by decide +kernel
theorem dX12_columns_202 : decode cX12_columns 202 = .ok (.iastore, 1) := by decide +kernel
theorem dX12_columns_203 : decode cX12_columns 203 = .ok (.iinc 5 1, 3) := by decide +kernel
theorem dX12_columns_206 : decode cX12_columns 206 = .ok (.goto (-38), 3) := by decide +kernel
theorem dX12_columns_209 : decode cX12_columns 209 = .ok (.aload_n 0, 1) := by decide +kernel
theorem dX12_columns_210 : decode cX12_columns 210 = .ok (.iconst 0, 1) := by decide +kernel
theorem dX12_columns_211 : decode cX12_columns 211 = .ok (.putfield 73, 3) := by decide +kernel
theorem dX12_columns_214 : decode cX12_columns 214 = .ok (.aload_n 0, 1) := by decide +kernel
theorem dX12_columns_215 : decode cX12_columns 215 = .ok (.aload 4, 2) := by decide +kernel
theorem dX12_columns_217 : decode cX12_columns 217 = .ok (.invokevirtual 95, 3) := by decide +kernel
theorem dX12_columns_220 : decode cX12_columns 220 = .ok (.ireturn, 1) := by decide +kernel
theorem dX12_meeting_0 : decode cX12_meeting 0 = .ok (.aload_n 0, 1) := by decide +kernel
theorem dX12_meeting_1 : decode cX12_meeting 1 = .ok (.iconst 0, 1) := by decide +kernel
theorem dX12_meeting_2 : decode cX12_meeting 2 = .ok (.putfield 40, 3) := by decide +kernel
theorem dX12_meeting_5 : decode cX12_meeting 5 = .ok (.aload_n 0, 1) := by decide +kernel
theorem dX12_meeting_6 : decode cX12_meeting 6 = .ok (.iload_n 1, 1) := by decide +kernel
theorem dX12_meeting_7 : decode cX12_meeting 7 = .ok (.iconst 0, 1) := by decide +kernel
theorem dX12_meeting_8 : decode cX12_meeting 8 = .ok (.bipush 10, 2) := by decide +kernel
theorem dX12_meeting_10 : decode cX12_meeting 10 = .ok (.invokestatic 48, 3) := by decide +kernel
theorem dX12_meeting_13 : decode cX12_meeting 13 = .ok (.ifCond .ne 7, 3) := by decide +kernel
theorem dX12_meeting_16 : decode cX12_meeting 16 = .ok (.iconst 1, 1) := by decide +kernel
theorem dX12_meeting_17 : decode cX12_meeting 17 = .ok (.goto 4, 3) := by decide +kernel
theorem dX12_meeting_20 : decode cX12_meeting 20 = .ok (.iconst 0, 1) := by decide +kernel
theorem dX12_meeting_21 : decode cX12_meeting 21 = .ok (.iconst 1, 1) := by decide +kernel
theorem dX12_meeting_22 : decode cX12_meeting 22 = .ok (.invokevirtual 69, 3) := by decide +kernel
theorem dX12_meeting_25 : decode cX12_meeting 25 = .ok (.ifCond .eq 5, 3) := by decide +kernel
theorem dX12_meeting_28 : decode cX12_meeting 28 = .ok (.iconst 0, 1) := by decide +kernel
theorem dX12_meeting_29 : decode cX12_meeting 29 = .ok (.ireturn, 1) := by decide +kernel
theorem dX12_meeting_30 : decode cX12_meeting 30 = .ok (.aload_n 0, 1) := by decide +kernel
theorem dX12_meeting_31 : decode cX12_meeting 31 = .ok (.getfield 73, 3) := by decide +kernel
theorem dX12_meeting_34 : decode cX12_meeting 34 = .ok (.bipush 10, 2) := by decide +kernel
theorem dX12_meeting_36 : decode cX12_meeting 36 = .ok (.if_icmp .gt 7, 3) := by decide +kernel
theorem dX12_meeting_39 : decode cX12_meeting 39 = .ok (.iconst 1, 1) := by decide +kernel
theorem dX12_meeting_40 : decode cX12_meeting 40 = .ok (.goto 4, 3) := by decide +kernel
theorem dX12_meeting_43 : decode cX12_meeting 43 = .ok (.iconst 0, 1) := by decide +kernel
theorem dX12_meeting_44 : decode cX12_meeting 44 = .ok (.istore_n 2, 1) := by decide +kernel
theorem dX12_meeting_45 : decode cX12_meeting 45 = .ok (.iconst 0, 1) := by decide +kernel
theorem dX12_meeting_46 : decode cX12_meeting 46 = .ok (.istore_n 3, 1) := by decide +kernel
theorem dX12_meeting_47 : decode cX12_meeting 47 = .ok (.iload_n 3, 1) := by decide +kernel
theorem dX12_meeting_48 : decode cX12_meeting 48 = .ok (.aload_n 0, 1) := by decide +kernel
theorem dX12_meeting_49 : decode cX12_meeting 49 = .ok (.getfield 73, 3) := by decide +kernel
theorem dX12_meeting_52 : decode cX12_meeting 52 = .ok (.if_icmp .ge 31, 3) := by decide +kernel
theorem dX12_meeting_55 : decode cX12_meeting 55 = .ok (.iload_n 2, 1) := by decide +kernel
theorem dX12_meeting_56 : decode cX12_meeting 56 = .ok (.ifCond .eq 19, 3) := by decide +kernel
theorem dX12_meeting_59 : decode cX12_meeting 59 = .ok (.aload_n 0, 1) := by decide +kernel
theorem dX12_meeting_60 : decode cX12_meeting 60 = .ok (.getfield 7, 3) := by decide +kernel
theorem dX12_meeting_63 : decode cX12_meeting 63 = .ok (.iload_n 3, 1) := by decide +kernel
theorem dX12_meeting_64 : decode cX12_meeting 64 = .ok (.iaload, 1) := by decide +kernel
theorem dX12_meeting_65 : decode cX12_meeting 65 = .ok (.iconst 1, 1) := by decide +kernel
theorem dX12_meeting_66 : decode cX12_meeting 66 = .ok (.iload_n 1, 1) := by decide +kernel
theorem dX12_meeting_67 : decode cX12_meeting 67 = .ok (.ishl, 1) := by decide +kernel
theorem dX12_meeting_68 : decode cX12_meeting 68 = .ok (.if_icmp .ge 7, 3) := by decide +kernel
theorem dX12_meeting_71 : decode cX12_meeting 71 = .ok (.iconst 1, 1) := by decide +kernel
theorem dX12_meeting_72 : decode cX12_meeting 72 = .ok (.goto 4, 3) := by decide +kernel
theorem dX12_meeting_75 : decode cX12_meeting 75 = .ok (.iconst 0, 1) := by decide +kernel
theorem dX12_meeting_76 : decode cX12_meeting 76 = .ok (.istore_n 2, 1) := by decide +kernel
theorem dX12_meeting_77 : decode cX12_meeting 77 = .ok (.iinc 3 1, 3) := by decide +kernel
theorem dX12_meeting_80 : decode cX12_meeting 80 = .ok (.goto (-33), 3) := by decide +kernel
theorem dX12_meeting_83 : decode cX12_meeting 83 = .ok (.aload_n 0, 1) := by decide +kernel
theorem dX12_meeting_84 : decode cX12_meeting 84 = .ok (.iload_n 2, 1) := by decide +kernel
theorem dX12_meeting_85 : decode cX12_meeting 85 = .ok (.ifCond .ne 7, 3) := by decide +kernel
theorem dX12_meeting_88 : decode cX12_meeting 88 = .ok (.iconst 1, 1) := by decide +kernel
theorem dX12_meeting_89 : decode cX12_meeting 89 = .ok (.goto 4, 3) := by decide +kernel
theorem dX12_meeting_92 : decode cX12_meeting 92 = .ok (.iconst 0, 1) := by decide +kernel
theorem dX12_meeting_93 : decode cX12_meeting 93 = .ok (.iconst 2, 1) := by decide +kernel
theorem dX12_meeting_94 : decode cX12_meeting 94 = .ok (.invokevirtual 69, 3) := by decide +kernel
theorem dX12_meeting_97 : decode cX12_meeting 97 = .ok (.ifCond .ne 28, 3) := by decide +kernel
theorem dX12_meeting_100 : decode cX12_meeting 100 = .ok (.aload_n 0, 1) := by decide +kernel
theorem dX12_meeting_101 : decode cX12_meeting 101 = .ok (.aload_n 0, 1) := by decide +kernel
theorem dX12_meeting_102 : decode cX12_meeting 102 = .ok (.getfield 19, 3) := by decide +kernel
theorem dX12_meeting_105 : decode cX12_meeting 105 = .ok (.invokevirtual 44, 3) := by decide +kernel
theorem dX12_meeting_108 : decode cX12_meeting 108 = .ok (.bipush 24, 2) := by decide +kernel
theorem dX12_meeting_110 : decode cX12_meeting 110 = .ok (.if_icmp .ne 7, 3) := by decide +kernel
theorem dX12_meeting_113 : decode cX12_meeting 113 = .ok (.iconst 1, 1) := by decide +kernel
theorem dX12_meeting_114 : decode cX12_meeting 114 = .ok (.goto 4, 3) := by decide +kernel
theorem dX12_meeting_117 : decode cX12_meeting 117 = .ok (.iconst 0, 1) := by decide +kernel
theorem dX12_meeting_118 : decode cX12_meeting 118 = .ok (.iconst 3, 1) := by decide +kernel
theorem dX12_meeting_119 : decode cX12_meeting 119 = .ok (.invokevirtual 69, 3) := by decide +kernel
theorem dX12_meeting_122 : decode cX12_meeting 122 = .ok (.ifCond .eq 5, 3) := by decide +kernel
theorem dX12_meeting_125 : decode cX12_meeting 125 = .ok (.iconst 0, 1) := by decide +kernel
theorem dX12_meeting_126 : decode cX12_meeting 126 = .ok (.ireturn, 1) := by decide +kernel
theorem dX12_meeting_127 : decode cX12_meeting 127 = .ok (.iload_n 1, 1) := by decide +kernel
theorem dX12_meeting_128 : decode cX12_meeting 128 = .ok (.invokestatic 76, 3) := by decide +kernel
theorem dX12_meeting_131 : decode cX12_meeting 131 = .ok (.astore_n 3, 1) := by decide +kernel
theorem dX12_meeting_132 : decode cX12_meeting 132 = .ok (.iconst 0, 1) := by decide +kernel
theorem dX12_meeting_133 : decode cX12_meeting 133 = .ok (.istore 4, 2) := by decide +kernel
theorem dX12_meeting_135 : decode cX12_meeting 135 = .ok (.iload 4, 2) := by decide +kernel
theorem dX12_meeting_137 : decode cX12_meeting 137 = .ok (.aload_n 3, 1) := by decide +kernel
theorem dX12_meeting_138 : decode cX12_meeting 138 = .ok (.invokevirtual 62, 3) := by decide +kernel
theorem dX12_meeting_141 : decode cX12_meeting 141 = .ok (.if_icmp .gt 111, 3) := by decide +kernel
theorem dX12_meeting_144 : decode cX12_meeting 144 = .ok (.iload 4, 2) := by decide +kernel
theorem dX12_meeting_146 : decode cX12_meeting 146 = .ok (.invokestatic 83, 3) := by decide +kernel
theorem dX12_meeting_149 : decode cX12_meeting 149 = .ok (.istore 5, 2) := by decide +kernel
theorem dX12_meeting_151 : decode cX12_meeting 151 = .ok (.iload 4, 2) := by decide +kernel
theorem dX12_meeting_153 : decode cX12_meeting 153 = .ok (.istore 6, 2) := by decide +kernel
theorem dX12_meeting_155 : decode cX12_meeting 155 = .ok (.iload 6, 2) := by decide +kernel
theorem dX12_meeting_157 : decode cX12_meeting 157 = .ok (.ifCond .le 80, 3) := by decide +kernel
theorem dX12_meeting_160 : decode cX12_meeting 160 = .ok (.iconst 0, 1) := by decide +kernel
theorem dX12_meeting_161 : decode cX12_meeting 161 = .ok (.istore 7, 2) := by decide +kernel
theorem dX12_meeting_163 : decode cX12_meeting 163 = .ok (.iconst 0, 1) := by decide +kernel
theorem dX12_meeting_164 : decode cX12_meeting 164 = .ok (.istore 8, 2) := by decide +kernel
theorem dX12_meeting_166 : decode cX12_meeting 166 = .ok (.iload 8, 2) := by decide +kernel
theorem dX12_meeting_168 : decode cX12_meeting 168 = .ok (.aload_n 0, 1) := by decide +kernel
theorem dX12_meeting_169 : decode cX12_meeting 169 = .ok (.getfield 73, 3) := by decide +kernel
theorem dX12_meeting_172 : decode cX12_meeting 172 = .ok (.if_icmp .ge 32, 3) := by decide +kernel
theorem dX12_meeting_175 : decode cX12_meeting 175 = .ok (.iload 7, 2) := by decide +kernel
theorem dX12_meeting_177 : decode cX12_meeting 177 = .ok (.aload_n 0, 1) := by decide +kernel
theorem dX12_meeting_178 : decode cX12_meeting 178 = .ok (.getfield 7, 3) := by decide +kernel
theorem dX12_meeting_181 : decode cX12_meeting 181 = .ok (.iload 8, 2) := by decide +kernel
theorem dX12_meeting_183 : decode cX12_meeting 183 = .ok (.iaload, 1) := by decide +kernel
theorem dX12_meeting_184 : decode cX12_meeting 184 = .ok (.iload 6, 2) := by decide +kernel
theorem dX12_meeting_186 : decode cX12_meeting 186 = .ok (.iand, 1) := by decide +kernel
theorem dX12_meeting_187 : decode cX12_meeting 187 = .ok (.ifCond .eq 7, 3) := by decide +kernel
theorem dX12_meeting_190 : decode cX12_meeting 190 = .ok (.iconst 1, 1) := by decide +kernel
theorem dX12_meeting_191 : decode cX12_meeting 191 = .ok (.goto 4, 3) := by decide +kernel
theorem dX12_meeting_194 : decode cX12_meeting 194 = .ok (.iconst 0, 1) := by decide +kernel
theorem dX12_meeting_195 : decode cX12_meeting 195 = .ok (.iadd, 1) := by decide +kernel
theorem dX12_meeting_196 : decode cX12_meeting 196 = .ok (.istore 7, 2) := by decide +kernel
theorem dX12_meeting_198 : decode cX12_meeting 198 = .ok (.iinc 8 1, 3) := by decide +kernel
theorem dX12_meeting_201 : decode cX12_meeting 201 = .ok (.goto (-35), 3) := by decide +kernel
theorem dX12_meeting_204 : decode cX12_meeting 204 = .ok (.iload 5, 2) := by decide +kernel
theorem dX12_meeting_206 : decode cX12_meeting 206 = .ok (.iload 4, 2) := by decide +kernel
theorem dX12_meeting_208 : decode cX12_meeting 208 = .ok (.invokestatic 83, 3) := by decide +kernel
theorem dX12_meeting_211 : decode cX12_meeting 211 = .ok (.iload 6, 2) := by decide +kernel
theorem dX12_meeting_213 : decode cX12_meeting 213 = .ok (.invokestatic 83, 3) := by decide +kernel
theorem dX12_meeting_216 : decode cX12_meeting 216 = .ok (.isub, 1) := by decide +kernel
theorem dX12_meeting_217 : decode cX12_meeting 217 = .ok (.iload 7, 2) := by decide +kernel
theorem dX12_meeting_219 : decode cX12_meeting 219 = .ok (.iadd, 1) := by decide +kernel
theorem dX12_meeting_220 : decode cX12_meeting 220 = .ok (.invokestatic 89, 3) := by decide +kernel
theorem dX12_meeting_223 : decode cX12_meeting 223 = .ok (.istore 5, 2) := by decide +kernel
theorem dX12_meeting_225 : decode cX12_meeting 225 = .ok (.iload 6, 2) := by decide +kernel
theorem dX12_meeting_227 : decode cX12_meeting 227 = .ok (.iconst 1, 1) := by decide +kernel
theorem dX12_meeting_228 : decode cX12_meeting 228 = .ok (.isub, 1) := by decide +kernel
theorem dX12_meeting_229 : decode cX12_meeting 229 = .ok (.iload 4, 2) := by decide +kernel
theorem dX12_meeting_231 : decode cX12_meeting 231 = .ok (.iand, 1) := by decide +kernel
theorem dX12_meeting_232 : decode cX12_meeting 232 = .ok (.istore 6, 2) := by decide +kernel
theorem dX12_meeting_234 : decode cX12_meeting 234 = .ok (.goto (-79), 3) := by decide +kernel
theorem dX12_meeting_237 : decode cX12_meeting 237 = .ok (.aload_n 3, 1) := by decide +kernel
theorem dX12_meeting_238 : decode cX12_meeting 238 = .ok (.getfield 80, 3) := by decide +kernel
theorem dX12_meeting_241 : decode cX12_meeting 241 = .ok (.iload 4, 2) := by decide +kernel
theorem dX12_meeting_243 : decode cX12_meeting 243 = .ok (.iload 5, 2) := by decide +kernel
theorem dX12_meeting_245 : decode cX12_meeting 245 = .ok (.iastore, 1) := by decide +kernel
theorem dX12_meeting_246 : decode cX12_meeting 246 = .ok (.iinc 4 1, 3) := by decide +kernel
theorem dX12_meeting_249 : decode cX12_meeting 249 = .ok (.goto (-114), 3) := by decide +kernel
theorem dX12_meeting_252 : decode cX12_meeting 252 = .ok (.aload_n 0, 1) := by decide +kernel
theorem dX12_meeting_253 : decode cX12_meeting 253 = .ok (.iconst 0, 1) := by decide +kernel
theorem dX12_meeting_254 : decode cX12_meeting 254 = .ok (.putfield 73, 3) := by decide +kernel
theorem dX12_meeting_257 : decode cX12_meeting 257 = .ok (.aload_n 0, 1) := by decide +kernel
theorem dX12_meeting_258 : decode cX12_meeting 258 = .ok (.aload_n 3, 1) := by decide +kernel
theorem dX12_meeting_259 : decode cX12_meeting 259 = .ok (.invokevirtual 95, 3) := by decide +kernel
theorem dX12_meeting_262 : decode cX12_meeting 262 = .ok (.ireturn, 1) := by decide +kernel
theorem dX12_breaks_0 : decode cX12_breaks 0 = .ok (.aload_n 0, 1) := by decide +kernel
theorem dX12_breaks_1 : decode cX12_breaks 1 = .ok (.getfield 13, 3) := by decide +kernel
theorem dX12_breaks_4 : decode cX12_breaks 4 = .ok (.iconst 0, 1) := by decide +kernel
theorem dX12_breaks_5 : decode cX12_breaks 5 = .ok (.iload_n 1, 1) := by decide +kernel
theorem dX12_breaks_6 : decode cX12_breaks 6 = .ok (.iastore, 1) := by decide +kernel
theorem dX12_breaks_7 : decode cX12_breaks 7 = .ok (.aload_n 0, 1) := by decide +kernel
theorem dX12_breaks_8 : decode cX12_breaks 8 = .ok (.getfield 13, 3) := by decide +kernel
theorem dX12_breaks_11 : decode cX12_breaks 11 = .ok (.iconst 1, 1) := by decide +kernel
theorem dX12_breaks_12 : decode cX12_breaks 12 = .ok (.iload_n 2, 1) := by decide +kernel
theorem dX12_breaks_13 : decode cX12_breaks 13 = .ok (.iastore, 1) := by decide +kernel
theorem dX12_breaks_14 : decode cX12_breaks 14 = .ok (.aload_n 0, 1) := by decide +kernel
theorem dX12_breaks_15 : decode cX12_breaks 15 = .ok (.getfield 13, 3) := by decide +kernel
theorem dX12_breaks_18 : decode cX12_breaks 18 = .ok (.iconst 2, 1) := by decide +kernel
theorem dX12_breaks_19 : decode cX12_breaks 19 = .ok (.iload_n 3, 1) := by decide +kernel
theorem dX12_breaks_20 : decode cX12_breaks 20 = .ok (.iastore, 1) := by decide +kernel
theorem dX12_breaks_21 : decode cX12_breaks 21 = .ok (.return_, 1) := by decide +kernel
theorem dX12_areExchanged_0 : decode cX12_areExchanged 0 = .ok (.iconst 0, 1) := by decide +kernel
theorem dX12_areExchanged_1 : decode cX12_areExchanged 1 = .ok (.istore 4, 2) := by decide +kernel
theorem dX12_areExchanged_3 : decode cX12_areExchanged 3 = .ok (.iload 4, 2) := by decide +kernel
theorem dX12_areExchanged_5 : decode cX12_areExchanged 5 = .ok (.bipush 10, 2) := by decide +kernel
theorem dX12_areExchanged_7 : decode cX12_areExchanged 7 = .ok (.if_icmp .ge 101, 3) := by decide +kernel
theorem dX12_areExchanged_10 : decode cX12_areExchanged 10 = .ok (.iload_n 2, 1) := by decide +kernel
theorem dX12_areExchanged_11 : decode cX12_areExchanged 11 = .ok (.iload_n 3, 1) := by decide +kernel
theorem dX12_areExchanged_12 : decode cX12_areExchanged 12 = .ok (.iconst (-1), 1) := by decide +kernel
theorem dX12_areExchanged_13 : decode cX12_areExchanged 13 = .ok (.ixor, 1) := by decide +kernel
theorem dX12_areExchanged_14 : decode cX12_areExchanged 14 = .ok (.iand, 1) := by decide +kernel
theorem dX12_areExchanged_15 : decode cX12_areExchanged 15 = .ok (.iload 4, 2) := by decide +kernel
theorem dX12_areExchanged_17 : decode cX12_areExchanged 17 = .ok (.ishr, 1) := by decide +kernel
theorem dX12_areExchanged_18 : decode cX12_areExchanged 18 = .ok (.iconst 1, 1) := by decide +kernel
theorem dX12_areExchanged_19 : decode cX12_areExchanged 19 = .ok (.iand, 1) := by decide +kernel
theorem dX12_areExchanged_20 : decode cX12_areExchanged 20 = .ok (.iconst 1, 1) := by decide +kernel
theorem dX12_areExchanged_21 : decode cX12_areExchanged 21 = .ok (.if_icmp .ne 81, 3) := by decide +kernel
theorem dX12_areExchanged_24 : decode cX12_areExchanged 24 = .ok (.iconst 0, 1) := by decide +kernel
theorem dX12_areExchanged_25 : decode cX12_areExchanged 25 = .ok (.istore 5, 2) := by decide +kernel
theorem dX12_areExchanged_27 : decode cX12_areExchanged 27 = .ok (.iconst 0, 1) := by decide +kernel
theorem dX12_areExchanged_28 : decode cX12_areExchanged 28 = .ok (.istore 6, 2) := by decide +kernel
theorem dX12_areExchanged_30 : decode cX12_areExchanged 30 = .ok (.iload 6, 2) := by decide +kernel
theorem dX12_areExchanged_32 : decode cX12_areExchanged 32 = .ok (.bipush 10, 2) := by decide +kernel
theorem dX12_areExchanged_34 : decode cX12_areExchanged 34 = .ok (.if_icmp .ge 53, 3) := by decide +kernel
theorem dX12_areExchanged_37 : decode cX12_areExchanged 37 = .ok (.iload 5, 2) := by decide +kernel
theorem dX12_areExchanged_39 : decode cX12_areExchanged 39 = .ok (.ifCond .ne 35, 3) := by decide +kernel
theorem dX12_areExchanged_42 : decode cX12_areExchanged 42 = .ok (.iload_n 3, 1) := by decide +kernel
theorem dX12_areExchanged_43 : decode cX12_areExchanged 43 = .ok (.iload_n 2, 1) := by decide +kernel
theorem dX12_areExchanged_44 : decode cX12_areExchanged 44 = .ok (.iconst (-1), 1) := by decide +kernel
theorem dX12_areExchanged_45 : decode cX12_areExchanged 45 = .ok (.ixor, 1) := by decide +kernel
theorem dX12_areExchanged_46 : decode cX12_areExchanged 46 = .ok (.iand, 1) := by decide +kernel
theorem dX12_areExchanged_47 : decode cX12_areExchanged 47 = .ok (.iload 6, 2) := by decide +kernel
theorem dX12_areExchanged_49 : decode cX12_areExchanged 49 = .ok (.ishr, 1) := by decide +kernel
theorem dX12_areExchanged_50 : decode cX12_areExchanged 50 = .ok (.iconst 1, 1) := by decide +kernel
theorem dX12_areExchanged_51 : decode cX12_areExchanged 51 = .ok (.iand, 1) := by decide +kernel
theorem dX12_areExchanged_52 : decode cX12_areExchanged 52 = .ok (.iconst 1, 1) := by decide +kernel
theorem dX12_areExchanged_53 : decode cX12_areExchanged 53 = .ok (.if_icmp .ne 25, 3) := by decide +kernel
theorem dX12_areExchanged_56 : decode cX12_areExchanged 56 = .ok (.aload_n 1, 1) := by decide +kernel
theorem dX12_areExchanged_57 : decode cX12_areExchanged 57 = .ok (.iload_n 2, 1) := by decide +kernel
theorem dX12_areExchanged_58 : decode cX12_areExchanged 58 = .ok (.iconst 1, 1) := by decide +kernel
theorem dX12_areExchanged_59 : decode cX12_areExchanged 59 = .ok (.iload 4, 2) := by decide +kernel
theorem dX12_areExchanged_61 : decode cX12_areExchanged 61 = .ok (.ishl, 1) := by decide +kernel
theorem dX12_areExchanged_62 : decode cX12_areExchanged 62 = .ok (.iconst (-1), 1) := by decide +kernel
theorem dX12_areExchanged_63 : decode cX12_areExchanged 63 = .ok (.ixor, 1) := by decide +kernel
theorem dX12_areExchanged_64 : decode cX12_areExchanged 64 = .ok (.iand, 1) := by decide +kernel
theorem dX12_areExchanged_65 : decode cX12_areExchanged 65 = .ok (.iconst 1, 1) := by decide +kernel
theorem dX12_areExchanged_66 : decode cX12_areExchanged 66 = .ok (.iload 6, 2) := by decide +kernel
theorem dX12_areExchanged_68 : decode cX12_areExchanged 68 = .ok (.ishl, 1) := by decide +kernel
theorem dX12_areExchanged_69 : decode cX12_areExchanged 69 = .ok (.ior, 1) := by decide +kernel
theorem dX12_areExchanged_70 : decode cX12_areExchanged 70 = .ok (.baload, 1) := by decide +kernel
theorem dX12_areExchanged_71 : decode cX12_areExchanged 71 = .ok (.ifCond .eq 7, 3) := by decide +kernel
theorem dX12_areExchanged_74 : decode cX12_areExchanged 74 = .ok (.iconst 1, 1) := by decide +kernel
theorem dX12_areExchanged_75 : decode cX12_areExchanged 75 = .ok (.goto 4, 3) := by decide +kernel
theorem dX12_areExchanged_78 : decode cX12_areExchanged 78 = .ok (.iconst 0, 1) := by decide +kernel
theorem dX12_areExchanged_79 : decode cX12_areExchanged 79 = .ok (.istore 5, 2) := by decide +kernel
theorem dX12_areExchanged_81 : decode cX12_areExchanged 81 = .ok (.iinc 6 1, 3) := by decide +kernel
theorem dX12_areExchanged_84 : decode cX12_areExchanged 84 = .ok (.goto (-54), 3) := by decide +kernel
theorem dX12_areExchanged_87 : decode cX12_areExchanged 87 = .ok (.iload 5, 2) := by decide +kernel
theorem dX12_areExchanged_89 : decode cX12_areExchanged 89 = .ok (.ifCond .ne 13, 3) := by decide +kernel
theorem dX12_areExchanged_92 : decode cX12_areExchanged 92 = .ok (.aload_n 0, 1) := by decide +kernel
theorem dX12_areExchanged_93 : decode cX12_areExchanged 93 = .ok (.iload_n 2, 1) := by decide +kernel
theorem dX12_areExchanged_94 : decode cX12_areExchanged 94 = .ok (.iload_n 3, 1) := by decide +kernel
theorem dX12_areExchanged_95 : decode cX12_areExchanged 95 = .ok (.iload 4, 2) := by decide +kernel
theorem dX12_areExchanged_97 : decode cX12_areExchanged 97 = .ok (.invokevirtual 112, 3) := by decide +kernel
theorem dX12_areExchanged_100 : decode cX12_areExchanged 100 = .ok (.iconst 0, 1) := by decide +kernel
theorem dX12_areExchanged_101 : decode cX12_areExchanged 101 = .ok (.ireturn, 1) := by decide +kernel
theorem dX12_areExchanged_102 : decode cX12_areExchanged 102 = .ok (.iinc 4 1, 3) := by decide +kernel
theorem dX12_areExchanged_105 : decode cX12_areExchanged 105 = .ok (.goto (-102), 3) := by decide +kernel
theorem dX12_areExchanged_108 : decode cX12_areExchanged 108 = .ok (.iconst 1, 1) := by decide +kernel
theorem dX12_areExchanged_109 : decode cX12_areExchanged 109 = .ok (.ireturn, 1) := by decide +kernel
theorem dX12_areBases_0 : decode cX12_areBases 0 = .ok (.iconst (-1), 1) := by decide +kernel
theorem dX12_areBases_1 : decode cX12_areBases 1 = .ok (.istore_n 2, 1) := by decide +kernel
theorem dX12_areBases_2 : decode cX12_areBases 2 = .ok (.aload_n 0, 1) := by decide +kernel
theorem dX12_areBases_3 : decode cX12_areBases 3 = .ok (.getfield 73, 3) := by decide +kernel
theorem dX12_areBases_6 : decode cX12_areBases 6 = .ok (.ifCond .le 7, 3) := by decide +kernel
theorem dX12_areBases_9 : decode cX12_areBases 9 = .ok (.iconst 1, 1) := by decide +kernel
theorem dX12_areBases_10 : decode cX12_areBases 10 = .ok (.goto 4, 3) := by decide +kernel
theorem dX12_areBases_13 : decode cX12_areBases 13 = .ok (.iconst 0, 1) := by decide +kernel
theorem dX12_areBases_14 : decode cX12_areBases 14 = .ok (.istore_n 3, 1) := by decide +kernel
theorem dX12_areBases_15 : decode cX12_areBases 15 = .ok (.iconst 0, 1) := by decide +kernel
theorem dX12_areBases_16 : decode cX12_areBases 16 = .ok (.istore 4, 2) := by decide +kernel
theorem dX12_areBases_18 : decode cX12_areBases 18 = .ok (.iload 4, 2) := by decide +kernel
theorem dX12_areBases_20 : decode cX12_areBases 20 = .ok (.aload_n 0, 1) := by decide +kernel
theorem dX12_areBases_21 : decode cX12_areBases 21 = .ok (.getfield 73, 3) := by decide +kernel
theorem dX12_areBases_24 : decode cX12_areBases 24 = .ok (.if_icmp .ge 51, 3) := by decide +kernel
theorem dX12_areBases_27 : decode cX12_areBases 27 = .ok (.iload_n 3, 1) := by decide +kernel
theorem dX12_areBases_28 : decode cX12_areBases 28 = .ok (.ifCond .eq 29, 3) := by decide +kernel
theorem dX12_areBases_31 : decode cX12_areBases 31 = .ok (.aload_n 0, 1) := by decide +kernel
theorem dX12_areBases_32 : decode cX12_areBases 32 = .ok (.getfield 7, 3) := by decide +kernel
theorem dX12_areBases_35 : decode cX12_areBases 35 = .ok (.iload 4, 2) := by decide +kernel
theorem dX12_areBases_37 : decode cX12_areBases 37 = .ok (.iaload, 1) := by decide +kernel
theorem dX12_areBases_38 : decode cX12_areBases 38 = .ok (.invokestatic 83, 3) := by decide +kernel
theorem dX12_areBases_41 : decode cX12_areBases 41 = .ok (.aload_n 0, 1) := by decide +kernel
theorem dX12_areBases_42 : decode cX12_areBases 42 = .ok (.getfield 7, 3) := by decide +kernel
theorem dX12_areBases_45 : decode cX12_areBases 45 = .ok (.iconst 0, 1) := by decide +kernel
theorem dX12_areBases_46 : decode cX12_areBases 46 = .ok (.iaload, 1) := by decide +kernel
theorem dX12_areBases_47 : decode cX12_areBases 47 = .ok (.invokestatic 83, 3) := by decide +kernel
theorem dX12_areBases_50 : decode cX12_areBases 50 = .ok (.if_icmp .ne 7, 3) := by decide +kernel
theorem dX12_areBases_53 : decode cX12_areBases 53 = .ok (.iconst 1, 1) := by decide +kernel
theorem dX12_areBases_54 : decode cX12_areBases 54 = .ok (.goto 4, 3) := by decide +kernel
theorem dX12_areBases_57 : decode cX12_areBases 57 = .ok (.iconst 0, 1) := by decide +kernel
theorem dX12_areBases_58 : decode cX12_areBases 58 = .ok (.istore_n 3, 1) := by decide +kernel
theorem dX12_areBases_59 : decode cX12_areBases 59 = .ok (.aload_n 0, 1) := by decide +kernel
theorem dX12_areBases_60 : decode cX12_areBases 60 = .ok (.getfield 7, 3) := by decide +kernel
theorem dX12_areBases_63 : decode cX12_areBases 63 = .ok (.iconst 0, 1) := by decide +kernel
theorem dX12_areBases_64 : decode cX12_areBases 64 = .ok (.iaload, 1) := by decide +kernel
theorem dX12_areBases_65 : decode cX12_areBases 65 = .ok (.invokestatic 83, 3) := by decide +kernel
theorem dX12_areBases_68 : decode cX12_areBases 68 = .ok (.istore_n 2, 1) := by decide +kernel
theorem dX12_areBases_69 : decode cX12_areBases 69 = .ok (.iinc 4 1, 3) := by decide +kernel
theorem dX12_areBases_72 : decode cX12_areBases 72 = .ok (.goto (-54), 3) := by decide +kernel
theorem dX12_areBases_75 : decode cX12_areBases 75 = .ok (.iconst 0, 1) := by decide +kernel
theorem dX12_areBases_76 : decode cX12_areBases 76 = .ok (.istore 4, 2) := by decide +kernel
theorem dX12_areBases_78 : decode cX12_areBases 78 = .ok (.iload 4, 2) := by decide +kernel
theorem dX12_areBases_80 : decode cX12_areBases 80 = .ok (.sipush 1024, 3) := by decide +kernel
theorem dX12_areBases_83 : decode cX12_areBases 83 = .ok (.if_icmp .ge 71, 3) := by decide +kernel
theorem dX12_areBases_86 : decode cX12_areBases 86 = .ok (.iload_n 3, 1) := by decide +kernel
theorem dX12_areBases_87 : decode cX12_areBases 87 = .ok (.ifCond .eq 67, 3) := by decide +kernel
theorem dX12_areBases_90 : decode cX12_areBases 90 = .ok (.iload_n 2, 1) := by decide +kernel
theorem dX12_areBases_91 : decode cX12_areBases 91 = .ok (.iconst (-1), 1) := by decide +kernel
theorem dX12_areBases_92 : decode cX12_areBases 92 = .ok (.if_icmp .eq 62, 3) := by decide +kernel
theorem dX12_areBases_95 : decode cX12_areBases 95 = .ok (.iconst 0, 1) := by decide +kernel
theorem dX12_areBases_96 : decode cX12_areBases 96 = .ok (.istore 5, 2) := by decide +kernel
theorem dX12_areBases_98 : decode cX12_areBases 98 = .ok (.iload 5, 2) := by decide +kernel
theorem dX12_areBases_100 : decode cX12_areBases 100 = .ok (.sipush 1024, 3) := by decide +kernel
theorem dX12_areBases_103 : decode cX12_areBases 103 = .ok (.if_icmp .ge 45, 3) := by decide +kernel
theorem dX12_areBases_106 : decode cX12_areBases 106 = .ok (.iload_n 3, 1) := by decide +kernel
theorem dX12_areBases_107 : decode cX12_areBases 107 = .ok (.ifCond .eq 41, 3) := by decide +kernel
theorem dX12_areBases_110 : decode cX12_areBases 110 = .ok (.aload_n 1, 1) := by decide +kernel
theorem dX12_areBases_111 : decode cX12_areBases 111 = .ok (.iload 4, 2) := by decide +kernel
theorem dX12_areBases_113 : decode cX12_areBases 113 = .ok (.baload, 1) := by decide +kernel
theorem dX12_areBases_114 : decode cX12_areBases 114 = .ok (.ifCond .eq 34, 3) := by decide +kernel
theorem dX12_areBases_117 : decode cX12_areBases 117 = .ok (.aload_n 1, 1) := by decide +kernel
theorem dX12_areBases_118 : decode cX12_areBases 118 = .ok (.iload 5, 2) := by decide +kernel
theorem dX12_areBases_120 : decode cX12_areBases 120 = .ok (.baload, 1) := by decide +kernel
theorem dX12_areBases_121 : decode cX12_areBases 121 = .ok (.ifCond .eq 15, 3) := by decide +kernel
theorem dX12_areBases_124 : decode cX12_areBases 124 = .ok (.aload_n 0, 1) := by decide +kernel
theorem dX12_areBases_125 : decode cX12_areBases 125 = .ok (.aload_n 1, 1) := by decide +kernel
theorem dX12_areBases_126 : decode cX12_areBases 126 = .ok (.iload 4, 2) := by decide +kernel
theorem dX12_areBases_128 : decode cX12_areBases 128 = .ok (.iload 5, 2) := by decide +kernel
theorem dX12_areBases_130 : decode cX12_areBases 130 = .ok (.invokevirtual 116, 3) := by decide +kernel
theorem dX12_areBases_133 : decode cX12_areBases 133 = .ok (.ifCond .eq 7, 3) := by decide +kernel
theorem dX12_areBases_136 : decode cX12_areBases 136 = .ok (.iconst 1, 1) := by decide +kernel
theorem dX12_areBases_137 : decode cX12_areBases 137 = .ok (.goto 4, 3) := by decide +kernel
theorem dX12_areBases_140 : decode cX12_areBases 140 = .ok (.iconst 0, 1) := by decide +kernel
theorem dX12_areBases_141 : decode cX12_areBases 141 = .ok (.istore_n 3, 1) := by decide +kernel
theorem dX12_areBases_142 : decode cX12_areBases 142 = .ok (.iinc 5 1, 3) := by decide +kernel
theorem dX12_areBases_145 : decode cX12_areBases 145 = .ok (.goto (-47), 3) := by decide +kernel
theorem dX12_areBases_148 : decode cX12_areBases 148 = .ok (.iinc 4 1, 3) := by decide +kernel
theorem dX12_areBases_151 : decode cX12_areBases 151 = .ok (.goto (-73), 3) := by decide +kernel
theorem dX12_areBases_154 : decode cX12_areBases 154 = .ok (.iload_n 3, 1) := by decide +kernel
theorem dX12_areBases_155 : decode cX12_areBases 155 = .ok (.ireturn, 1) := by decide +kernel
theorem dX12_bases_0 : decode cX12_bases 0 = .ok (.aload_n 0, 1) := by decide +kernel
theorem dX12_bases_1 : decode cX12_bases 1 = .ok (.iconst 0, 1) := by decide +kernel
theorem dX12_bases_2 : decode cX12_bases 2 = .ok (.putfield 40, 3) := by decide +kernel
theorem dX12_bases_5 : decode cX12_bases 5 = .ok (.aload_n 0, 1) := by decide +kernel
theorem dX12_bases_6 : decode cX12_bases 6 = .ok (.iload_n 1, 1) := by decide +kernel
theorem dX12_bases_7 : decode cX12_bases 7 = .ok (.iconst 0, 1) := by decide +kernel
theorem dX12_bases_8 : decode cX12_bases 8 = .ok (.bipush 10, 2) := by decide +kernel
theorem dX12_bases_10 : decode cX12_bases 10 = .ok (.invokestatic 48, 3) := by decide +kernel
theorem dX12_bases_13 : decode cX12_bases 13 = .ok (.ifCond .ne 7, 3) := by decide +kernel
theorem dX12_bases_16 : decode cX12_bases 16 = .ok (.iconst 1, 1) := by decide +kernel
theorem dX12_bases_17 : decode cX12_bases 17 = .ok (.goto 4, 3) := by decide +kernel
theorem dX12_bases_20 : decode cX12_bases 20 = .ok (.iconst 0, 1) := by decide +kernel
theorem dX12_bases_21 : decode cX12_bases 21 = .ok (.iconst 1, 1) := by decide +kernel
theorem dX12_bases_22 : decode cX12_bases 22 = .ok (.invokevirtual 69, 3) := by decide +kernel
theorem dX12_bases_25 : decode cX12_bases 25 = .ok (.ifCond .eq 5, 3) := by decide +kernel
theorem dX12_bases_28 : decode cX12_bases 28 = .ok (.iconst 0, 1) := by decide +kernel
theorem dX12_bases_29 : decode cX12_bases 29 = .ok (.ireturn, 1) := by decide +kernel
theorem dX12_bases_30 : decode cX12_bases 30 = .ok (.iconst 1, 1) := by decide +kernel
theorem dX12_bases_31 : decode cX12_bases 31 = .ok (.istore_n 2, 1) := by decide +kernel
theorem dX12_bases_32 : decode cX12_bases 32 = .ok (.sipush 1024, 3) := by decide +kernel
theorem dX12_bases_35 : decode cX12_bases 35 = .ok (.newarray .boolean, 2) := by decide +kernel
theorem dX12_bases_37 : decode cX12_bases 37 = .ok (.astore_n 3, 1) := by decide +kernel
theorem dX12_bases_38 : decode cX12_bases 38 = .ok (.iconst 0, 1) := by decide +kernel
theorem dX12_bases_39 : decode cX12_bases 39 = .ok (.istore 4, 2) := by decide +kernel
theorem dX12_bases_41 : decode cX12_bases 41 = .ok (.iload 4, 2) := by decide +kernel
theorem dX12_bases_43 : decode cX12_bases 43 = .ok (.aload_n 0, 1) := by decide +kernel
theorem dX12_bases_44 : decode cX12_bases 44 = .ok (.getfield 73, 3) := by decide +kernel
theorem dX12_bases_47 : decode cX12_bases 47 = .ok (.if_icmp .ge 42, 3) := by decide +kernel
theorem dX12_bases_50 : decode cX12_bases 50 = .ok (.iload_n 2, 1) := by decide +kernel
theorem dX12_bases_51 : decode cX12_bases 51 = .ok (.ifCond .eq 20, 3) := by decide +kernel
theorem dX12_bases_54 : decode cX12_bases 54 = .ok (.aload_n 0, 1) := by decide +kernel
theorem dX12_bases_55 : decode cX12_bases 55 = .ok (.getfield 7, 3) := by decide +kernel
theorem dX12_bases_58 : decode cX12_bases 58 = .ok (.iload 4, 2) := by decide +kernel
theorem dX12_bases_60 : decode cX12_bases 60 = .ok (.iaload, 1) := by decide +kernel
theorem dX12_bases_61 : decode cX12_bases 61 = .ok (.iconst 1, 1) := by decide +kernel
theorem dX12_bases_62 : decode cX12_bases 62 = .ok (.iload_n 1, 1) := by decide +kernel
theorem dX12_bases_63 : decode cX12_bases 63 = .ok (.ishl, 1) := by decide +kernel
theorem dX12_bases_64 : decode cX12_bases 64 = .ok (.if_icmp .ge 7, 3) := by decide +kernel
theorem dX12_bases_67 : decode cX12_bases 67 = .ok (.iconst 1, 1) := by decide +kernel
theorem dX12_bases_68 : decode cX12_bases 68 = .ok (.goto 4, 3) := by decide +kernel
theorem dX12_bases_71 : decode cX12_bases 71 = .ok (.iconst 0, 1) := by decide +kernel
theorem dX12_bases_72 : decode cX12_bases 72 = .ok (.istore_n 2, 1) := by decide +kernel
theorem dX12_bases_73 : decode cX12_bases 73 = .ok (.aload_n 3, 1) := by decide +kernel
theorem dX12_bases_74 : decode cX12_bases 74 = .ok (.aload_n 0, 1) := by decide +kernel
theorem dX12_bases_75 : decode cX12_bases 75 = .ok (.getfield 7, 3) := by decide +kernel
theorem dX12_bases_78 : decode cX12_bases 78 = .ok (.iload 4, 2) := by decide +kernel
theorem dX12_bases_80 : decode cX12_bases 80 = .ok (.iaload, 1) := by decide +kernel
theorem dX12_bases_81 : decode cX12_bases 81 = .ok (.iconst 1, 1) := by decide +kernel
theorem dX12_bases_82 : decode cX12_bases 82 = .ok (.bastore, 1) := by decide +kernel
theorem dX12_bases_83 : decode cX12_bases 83 = .ok (.iinc 4 1, 3) := by decide +kernel
theorem dX12_bases_86 : decode cX12_bases 86 = .ok (.goto (-45), 3) := by decide +kernel
theorem dX12_bases_89 : decode cX12_bases 89 = .ok (.aload_n 0, 1) := by decide +kernel
theorem dX12_bases_90 : decode cX12_bases 90 = .ok (.iconst (-1), 1) := by decide +kernel
theorem dX12_bases_91 : decode cX12_bases 91 = .ok (.iconst (-1), 1) := by decide +kernel
theorem dX12_bases_92 : decode cX12_bases 92 = .ok (.iconst (-1), 1) := by decide +kernel
theorem dX12_bases_93 : decode cX12_bases 93 = .ok (.invokevirtual 112, 3) := by decide +kernel
theorem dX12_bases_96 : decode cX12_bases 96 = .ok (.aload_n 0, 1) := by decide +kernel
theorem dX12_bases_97 : decode cX12_bases 97 = .ok (.iload_n 2, 1) := by decide +kernel
theorem dX12_bases_98 : decode cX12_bases 98 = .ok (.ifCond .eq 11, 3) := by decide +kernel
theorem dX12_bases_101 : decode cX12_bases 101 = .ok (.aload_n 0, 1) := by decide +kernel
theorem dX12_bases_102 : decode cX12_bases 102 = .ok (.aload_n 3, 1) := by decide +kernel
theorem dX12_bases_103 : decode cX12_bases 103 = .ok (.invokevirtual 120, 3) := by decide +kernel
theorem dX12_bases_106 : decode cX12_bases 106 = .ok (.ifCond .ne 7, 3) := by decide +kernel
theorem dX12_bases_109 : decode cX12_bases 109 = .ok (.iconst 1, 1) := by decide +kernel
theorem dX12_bases_110 : decode cX12_bases 110 = .ok (.goto 4, 3) := by decide +kernel
theorem dX12_bases_113 : decode cX12_bases 113 = .ok (.iconst 0, 1) := by decide +kernel
theorem dX12_bases_114 : decode cX12_bases 114 = .ok (.iconst 2, 1) := by decide +kernel
theorem dX12_bases_115 : decode cX12_bases 115 = .ok (.invokevirtual 69, 3) := by decide +kernel
theorem dX12_bases_118 : decode cX12_bases 118 = .ok (.ifCond .ne 28, 3) := by decide +kernel
theorem dX12_bases_121 : decode cX12_bases 121 = .ok (.aload_n 0, 1) := by decide +kernel
theorem dX12_bases_122 : decode cX12_bases 122 = .ok (.aload_n 0, 1) := by decide +kernel
theorem dX12_bases_123 : decode cX12_bases 123 = .ok (.getfield 19, 3) := by decide +kernel
theorem dX12_bases_126 : decode cX12_bases 126 = .ok (.invokevirtual 44, 3) := by decide +kernel
theorem dX12_bases_129 : decode cX12_bases 129 = .ok (.bipush 24, 2) := by decide +kernel
theorem dX12_bases_131 : decode cX12_bases 131 = .ok (.if_icmp .ne 7, 3) := by decide +kernel
theorem dX12_bases_134 : decode cX12_bases 134 = .ok (.iconst 1, 1) := by decide +kernel
theorem dX12_bases_135 : decode cX12_bases 135 = .ok (.goto 4, 3) := by decide +kernel
theorem dX12_bases_138 : decode cX12_bases 138 = .ok (.iconst 0, 1) := by decide +kernel
theorem dX12_bases_139 : decode cX12_bases 139 = .ok (.iconst 3, 1) := by decide +kernel
theorem dX12_bases_140 : decode cX12_bases 140 = .ok (.invokevirtual 69, 3) := by decide +kernel
theorem dX12_bases_143 : decode cX12_bases 143 = .ok (.ifCond .eq 5, 3) := by decide +kernel
theorem dX12_bases_146 : decode cX12_bases 146 = .ok (.iconst 0, 1) := by decide +kernel
theorem dX12_bases_147 : decode cX12_bases 147 = .ok (.ireturn, 1) := by decide +kernel
theorem dX12_bases_148 : decode cX12_bases 148 = .ok (.iload_n 1, 1) := by decide +kernel
theorem dX12_bases_149 : decode cX12_bases 149 = .ok (.invokestatic 76, 3) := by decide +kernel
theorem dX12_bases_152 : decode cX12_bases 152 = .ok (.astore 4, 2) := by decide +kernel
theorem dX12_bases_154 : decode cX12_bases 154 = .ok (.sipush 1024, 3) := by decide +kernel
theorem dX12_bases_157 : decode cX12_bases 157 = .ok (.newarray .boolean, 2) := by decide +kernel
theorem dX12_bases_159 : decode cX12_bases 159 = .ok (.astore 5, 2) := by decide +kernel
theorem dX12_bases_161 : decode cX12_bases 161 = .ok (.iconst 0, 1) := by decide +kernel
theorem dX12_bases_162 : decode cX12_bases 162 = .ok (.istore 6, 2) := by decide +kernel
theorem dX12_bases_164 : decode cX12_bases 164 = .ok (.iload 6, 2) := by decide +kernel
theorem dX12_bases_166 : decode cX12_bases 166 = .ok (.sipush 1024, 3) := by decide +kernel
theorem dX12_bases_169 : decode cX12_bases 169 = .ok (.if_icmp .ge 52, 3) := by decide +kernel
theorem dX12_bases_172 : decode cX12_bases 172 = .ok (.iload 6, 2) := by decide +kernel
theorem dX12_bases_174 : decode cX12_bases 174 = .ok (.istore 7, 2) := by decide +kernel
theorem dX12_bases_176 : decode cX12_bases 176 = .ok (.aload_n 3, 1) := by decide +kernel
theorem dX12_bases_177 : decode cX12_bases 177 = .ok (.iload 6, 2) := by decide +kernel
theorem dX12_bases_179 : decode cX12_bases 179 = .ok (.baload, 1) := by decide +kernel
theorem dX12_bases_180 : decode cX12_bases 180 = .ok (.ifCond .eq 35, 3) := by decide +kernel
theorem dX12_bases_183 : decode cX12_bases 183 = .ok (.iload 7, 2) := by decide +kernel
theorem dX12_bases_185 : decode cX12_bases 185 = .ok (.ifCond .lt 30, 3) := by decide +kernel
theorem dX12_bases_188 : decode cX12_bases 188 = .ok (.aload 5, 2) := by decide +kernel
theorem dX12_bases_190 : decode cX12_bases 190 = .ok (.iload 7, 2) := by decide +kernel
theorem dX12_bases_192 : decode cX12_bases 192 = .ok (.iconst 1, 1) := by decide +kernel
theorem dX12_bases_193 : decode cX12_bases 193 = .ok (.bastore, 1) := by decide +kernel
theorem dX12_bases_194 : decode cX12_bases 194 = .ok (.iload 7, 2) := by decide +kernel
theorem dX12_bases_196 : decode cX12_bases 196 = .ok (.ifCond .ne 7, 3) := by decide +kernel
theorem dX12_bases_199 : decode cX12_bases 199 = .ok (.iconst (-1), 1) := by decide +kernel
theorem dX12_bases_200 : decode cX12_bases 200 = .ok (.goto 10, 3) := by decide +kernel
theorem dX12_bases_203 : decode cX12_bases 203 = .ok (.iload 7, 2) := by decide +kernel
theorem dX12_bases_205 : decode cX12_bases 205 = .ok (.iconst 1, 1) := by decide +kernel
theorem dX12_bases_206 : decode cX12_bases 206 = .ok (.isub, 1) := by decide +kernel
theorem dX12_bases_207 : decode cX12_bases 207 = .ok (.iload 6, 2) := by decide +kernel
theorem dX12_bases_209 : decode cX12_bases 209 = .ok (.iand, 1) := by decide +kernel
theorem dX12_bases_210 : decode cX12_bases 210 = .ok (.istore 7, 2) := by decide +kernel
theorem dX12_bases_212 : decode cX12_bases 212 = .ok (.goto (-36), 3) := by decide +kernel
theorem dX12_bases_215 : decode cX12_bases 215 = .ok (.iinc 6 1, 3) := by decide +kernel
theorem dX12_bases_218 : decode cX12_bases 218 = .ok (.goto (-54), 3) := by decide +kernel
theorem dX12_bases_221 : decode cX12_bases 221 = .ok (.aload 4, 2) := by decide +kernel
theorem dX12_bases_223 : decode cX12_bases 223 = .ok (.aload 5, 2) := by decide +kernel
theorem dX12_bases_225 : decode cX12_bases 225 = .ok (.invokevirtual 124, 3) := by decide +kernel
theorem dX12_bases_228 : decode cX12_bases 228 = .ok (.aload_n 0, 1) := by decide +kernel
theorem dX12_bases_229 : decode cX12_bases 229 = .ok (.iconst 0, 1) := by decide +kernel
theorem dX12_bases_230 : decode cX12_bases 230 = .ok (.putfield 73, 3) := by decide +kernel
theorem dX12_bases_233 : decode cX12_bases 233 = .ok (.aload_n 0, 1) := by decide +kernel
theorem dX12_bases_234 : decode cX12_bases 234 = .ok (.aload 4, 2) := by decide +kernel
theorem dX12_bases_236 : decode cX12_bases 236 = .ok (.invokevirtual 95, 3) := by decide +kernel
theorem dX12_bases_239 : decode cX12_bases 239 = .ok (.ireturn, 1) := by decide +kernel
theorem dX12_broken_0 : decode cX12_broken 0 = .ok (.aload_n 0, 1) := by decide +kernel
theorem dX12_broken_1 : decode cX12_broken 1 = .ok (.iconst 0, 1) := by decide +kernel
theorem dX12_broken_2 : decode cX12_broken 2 = .ok (.putfield 40, 3) := by decide +kernel
theorem dX12_broken_5 : decode cX12_broken 5 = .ok (.ldc 128, 2) := by decide +kernel
theorem dX12_broken_7 : decode cX12_broken 7 = .ok (.iload_n 1, 1) := by decide +kernel
theorem dX12_broken_8 : decode cX12_broken 8 = .ok (.invokevirtual 130, 3) := by decide +kernel
theorem dX12_broken_11 : decode cX12_broken 11 = .ok (.istore_n 2, 1) := by decide +kernel
theorem dX12_broken_12 : decode cX12_broken 12 = .ok (.aload_n 0, 1) := by decide +kernel
theorem dX12_broken_13 : decode cX12_broken 13 = .ok (.iload_n 2, 1) := by decide +kernel
theorem dX12_broken_14 : decode cX12_broken 14 = .ok (.ifCond .ge 7, 3) := by decide +kernel
theorem dX12_broken_17 : decode cX12_broken 17 = .ok (.iconst 1, 1) := by decide +kernel
theorem dX12_broken_18 : decode cX12_broken 18 = .ok (.goto 4, 3) := by decide +kernel
theorem dX12_broken_21 : decode cX12_broken 21 = .ok (.iconst 0, 1) := by decide +kernel
theorem dX12_broken_22 : decode cX12_broken 22 = .ok (.iconst 1, 1) := by decide +kernel
theorem dX12_broken_23 : decode cX12_broken 23 = .ok (.invokevirtual 69, 3) := by decide +kernel
theorem dX12_broken_26 : decode cX12_broken 26 = .ok (.ifCond .ne 26, 3) := by decide +kernel
theorem dX12_broken_29 : decode cX12_broken 29 = .ok (.aload_n 0, 1) := by decide +kernel
theorem dX12_broken_30 : decode cX12_broken 30 = .ok (.aload_n 0, 1) := by decide +kernel
theorem dX12_broken_31 : decode cX12_broken 31 = .ok (.getfield 13, 3) := by decide +kernel
theorem dX12_broken_34 : decode cX12_broken 34 = .ok (.iload_n 2, 1) := by decide +kernel
theorem dX12_broken_35 : decode cX12_broken 35 = .ok (.iaload, 1) := by decide +kernel
theorem dX12_broken_36 : decode cX12_broken 36 = .ok (.iconst (-1), 1) := by decide +kernel
theorem dX12_broken_37 : decode cX12_broken 37 = .ok (.if_icmp .ne 7, 3) := by decide +kernel
theorem dX12_broken_40 : decode cX12_broken 40 = .ok (.iconst 1, 1) := by decide +kernel
theorem dX12_broken_41 : decode cX12_broken 41 = .ok (.goto 4, 3) := by decide +kernel
theorem dX12_broken_44 : decode cX12_broken 44 = .ok (.iconst 0, 1) := by decide +kernel
theorem dX12_broken_45 : decode cX12_broken 45 = .ok (.iconst 2, 1) := by decide +kernel
theorem dX12_broken_46 : decode cX12_broken 46 = .ok (.invokevirtual 69, 3) := by decide +kernel
theorem dX12_broken_49 : decode cX12_broken 49 = .ok (.ifCond .eq 7, 3) := by decide +kernel
theorem dX12_broken_52 : decode cX12_broken 52 = .ok (.iconst 0, 1) := by decide +kernel
theorem dX12_broken_53 : decode cX12_broken 53 = .ok (.goto 9, 3) := by decide +kernel
theorem dX12_broken_56 : decode cX12_broken 56 = .ok (.aload_n 0, 1) := by decide +kernel
theorem dX12_broken_57 : decode cX12_broken 57 = .ok (.getfield 13, 3) := by decide +kernel
theorem dX12_broken_60 : decode cX12_broken 60 = .ok (.iload_n 2, 1) := by decide +kernel
theorem dX12_broken_61 : decode cX12_broken 61 = .ok (.iaload, 1) := by decide +kernel
theorem dX12_broken_62 : decode cX12_broken 62 = .ok (.ireturn, 1) := by decide +kernel
theorem dX12_dual_0 : decode cX12_dual 0 = .ok (.aload_n 0, 1) := by decide +kernel
theorem dX12_dual_1 : decode cX12_dual 1 = .ok (.iconst 0, 1) := by decide +kernel
theorem dX12_dual_2 : decode cX12_dual 2 = .ok (.putfield 40, 3) := by decide +kernel
theorem dX12_dual_5 : decode cX12_dual 5 = .ok (.aload_n 0, 1) := by decide +kernel
theorem dX12_dual_6 : decode cX12_dual 6 = .ok (.aload_n 0, 1) := by decide +kernel
theorem dX12_dual_7 : decode cX12_dual 7 = .ok (.iload_n 1, 1) := by decide +kernel
theorem dX12_dual_8 : decode cX12_dual 8 = .ok (.invokevirtual 52, 3) := by decide +kernel
theorem dX12_dual_11 : decode cX12_dual 11 = .ok (.iconst 1, 1) := by decide +kernel
theorem dX12_dual_12 : decode cX12_dual 12 = .ok (.invokevirtual 69, 3) := by decide +kernel
theorem dX12_dual_15 : decode cX12_dual 15 = .ok (.ifCond .ne 28, 3) := by decide +kernel
theorem dX12_dual_18 : decode cX12_dual 18 = .ok (.aload_n 0, 1) := by decide +kernel
theorem dX12_dual_19 : decode cX12_dual 19 = .ok (.aload_n 0, 1) := by decide +kernel
theorem dX12_dual_20 : decode cX12_dual 20 = .ok (.getfield 19, 3) := by decide +kernel
theorem dX12_dual_23 : decode cX12_dual 23 = .ok (.invokevirtual 44, 3) := by decide +kernel
theorem dX12_dual_26 : decode cX12_dual 26 = .ok (.bipush 24, 2) := by decide +kernel
theorem dX12_dual_28 : decode cX12_dual 28 = .ok (.if_icmp .ne 7, 3) := by decide +kernel
theorem dX12_dual_31 : decode cX12_dual 31 = .ok (.iconst 1, 1) := by decide +kernel
theorem dX12_dual_32 : decode cX12_dual 32 = .ok (.goto 4, 3) := by decide +kernel
theorem dX12_dual_35 : decode cX12_dual 35 = .ok (.iconst 0, 1) := by decide +kernel
theorem dX12_dual_36 : decode cX12_dual 36 = .ok (.iconst 2, 1) := by decide +kernel
theorem dX12_dual_37 : decode cX12_dual 37 = .ok (.invokevirtual 69, 3) := by decide +kernel
theorem dX12_dual_40 : decode cX12_dual 40 = .ok (.ifCond .eq 5, 3) := by decide +kernel
theorem dX12_dual_43 : decode cX12_dual 43 = .ok (.iconst 0, 1) := by decide +kernel
theorem dX12_dual_44 : decode cX12_dual 44 = .ok (.ireturn, 1) := by decide +kernel
theorem dX12_dual_45 : decode cX12_dual 45 = .ok (.aload_n 0, 1) := by decide +kernel
theorem dX12_dual_46 : decode cX12_dual 46 = .ok (.getfield 19, 3) := by decide +kernel
theorem dX12_dual_49 : decode cX12_dual 49 = .ok (.iload_n 1, 1) := by decide +kernel
theorem dX12_dual_50 : decode cX12_dual 50 = .ok (.invokevirtual 56, 3) := by decide +kernel
theorem dX12_dual_53 : decode cX12_dual 53 = .ok (.checkcast 33, 3) := by decide +kernel
theorem dX12_dual_56 : decode cX12_dual 56 = .ok (.astore_n 2, 1) := by decide +kernel
theorem dX12_dual_57 : decode cX12_dual 57 = .ok (.aload_n 2, 1) := by decide +kernel
theorem dX12_dual_58 : decode cX12_dual 58 = .ok (.getfield 60, 3) := by decide +kernel
theorem dX12_dual_61 : decode cX12_dual 61 = .ok (.invokestatic 76, 3) := by decide +kernel
theorem dX12_dual_64 : decode cX12_dual 64 = .ok (.astore_n 3, 1) := by decide +kernel
theorem dX12_dual_65 : decode cX12_dual 65 = .ok (.iconst 0, 1) := by decide +kernel
theorem dX12_dual_66 : decode cX12_dual 66 = .ok (.istore 4, 2) := by decide +kernel
theorem dX12_dual_68 : decode cX12_dual 68 = .ok (.iload 4, 2) := by decide +kernel
theorem dX12_dual_70 : decode cX12_dual 70 = .ok (.aload_n 3, 1) := by decide +kernel
theorem dX12_dual_71 : decode cX12_dual 71 = .ok (.invokevirtual 62, 3) := by decide +kernel
theorem dX12_dual_74 : decode cX12_dual 74 = .ok (.if_icmp .gt 41, 3) := by decide +kernel
theorem dX12_dual_77 : decode cX12_dual 77 = .ok (.aload_n 3, 1) := by decide +kernel
theorem dX12_dual_78 : decode cX12_dual 78 = .ok (.getfield 80, 3) := by decide +kernel
theorem dX12_dual_81 : decode cX12_dual 81 = .ok (.iload 4, 2) := by decide +kernel
theorem dX12_dual_83 : decode cX12_dual 83 = .ok (.iload 4, 2) := by decide +kernel
theorem dX12_dual_85 : decode cX12_dual 85 = .ok (.invokestatic 83, 3) := by decide +kernel
theorem dX12_dual_88 : decode cX12_dual 88 = .ok (.aload_n 2, 1) := by decide +kernel
theorem dX12_dual_89 : decode cX12_dual 89 = .ok (.invokevirtual 135, 3) := by decide +kernel
theorem dX12_dual_92 : decode cX12_dual 92 = .ok (.isub, 1) := by decide +kernel
theorem dX12_dual_93 : decode cX12_dual 93 = .ok (.aload_n 2, 1) := by decide +kernel
theorem dX12_dual_94 : decode cX12_dual 94 = .ok (.getfield 80, 3) := by decide +kernel
theorem dX12_dual_97 : decode cX12_dual 97 = .ok (.aload_n 2, 1) := by decide +kernel
theorem dX12_dual_98 : decode cX12_dual 98 = .ok (.invokevirtual 62, 3) := by decide +kernel
theorem dX12_dual_101 : decode cX12_dual 101 = .ok (.iload 4, 2) := by decide +kernel
theorem dX12_dual_103 : decode cX12_dual 103 = .ok (.iconst (-1), 1) := by decide +kernel
theorem dX12_dual_104 : decode cX12_dual 104 = .ok (.ixor, 1) := by decide +kernel
theorem dX12_dual_105 : decode cX12_dual 105 = .ok (.iand, 1) := by decide +kernel
theorem dX12_dual_106 : decode cX12_dual 106 = .ok (.iaload, 1) := by decide +kernel
theorem dX12_dual_107 : decode cX12_dual 107 = .ok (.iadd, 1) := by decide +kernel
theorem dX12_dual_108 : decode cX12_dual 108 = .ok (.iastore, 1) := by decide +kernel
theorem dX12_dual_109 : decode cX12_dual 109 = .ok (.iinc 4 1, 3) := by decide +kernel
theorem dX12_dual_112 : decode cX12_dual 112 = .ok (.goto (-44), 3) := by decide +kernel
theorem dX12_dual_115 : decode cX12_dual 115 = .ok (.aload_n 0, 1) := by decide +kernel
theorem dX12_dual_116 : decode cX12_dual 116 = .ok (.aload_n 3, 1) := by decide +kernel
theorem dX12_dual_117 : decode cX12_dual 117 = .ok (.invokevirtual 95, 3) := by decide +kernel
theorem dX12_dual_120 : decode cX12_dual 120 = .ok (.ireturn, 1) := by decide +kernel
theorem dX12_spread_0 : decode cX12_spread 0 = .ok (.iload_n 0, 1) := by decide +kernel
theorem dX12_spread_1 : decode cX12_spread 1 = .ok (.iconst 1, 1) := by decide +kernel
theorem dX12_spread_2 : decode cX12_spread 2 = .ok (.iload_n 1, 1) := by decide +kernel
theorem dX12_spread_3 : decode cX12_spread 3 = .ok (.ishl, 1) := by decide +kernel
theorem dX12_spread_4 : decode cX12_spread 4 = .ok (.iconst 1, 1) := by decide +kernel
theorem dX12_spread_5 : decode cX12_spread 5 = .ok (.isub, 1) := by decide +kernel
theorem dX12_spread_6 : decode cX12_spread 6 = .ok (.iand, 1) := by decide +kernel
theorem dX12_spread_7 : decode cX12_spread 7 = .ok (.istore_n 3, 1) := by decide +kernel
theorem dX12_spread_8 : decode cX12_spread 8 = .ok (.iload_n 0, 1) := by decide +kernel
theorem dX12_spread_9 : decode cX12_spread 9 = .ok (.iload_n 3, 1) := by decide +kernel
theorem dX12_spread_10 : decode cX12_spread 10 = .ok (.iconst (-1), 1) := by decide +kernel
theorem dX12_spread_11 : decode cX12_spread 11 = .ok (.ixor, 1) := by decide +kernel
theorem dX12_spread_12 : decode cX12_spread 12 = .ok (.iand, 1) := by decide +kernel
theorem dX12_spread_13 : decode cX12_spread 13 = .ok (.iconst 1, 1) := by decide +kernel
theorem dX12_spread_14 : decode cX12_spread 14 = .ok (.ishl, 1) := by decide +kernel
theorem dX12_spread_15 : decode cX12_spread 15 = .ok (.iload_n 3, 1) := by decide +kernel
theorem dX12_spread_16 : decode cX12_spread 16 = .ok (.ior, 1) := by decide +kernel
theorem dX12_spread_17 : decode cX12_spread 17 = .ok (.iload_n 2, 1) := by decide +kernel
theorem dX12_spread_18 : decode cX12_spread 18 = .ok (.ifCond .eq 9, 3) := by decide +kernel
theorem dX12_spread_21 : decode cX12_spread 21 = .ok (.iconst 1, 1) := by decide +kernel
theorem dX12_spread_22 : decode cX12_spread 22 = .ok (.iload_n 1, 1) := by decide +kernel
theorem dX12_spread_23 : decode cX12_spread 23 = .ok (.ishl, 1) := by decide +kernel
theorem dX12_spread_24 : decode cX12_spread 24 = .ok (.goto 4, 3) := by decide +kernel
theorem dX12_spread_27 : decode cX12_spread 27 = .ok (.iconst 0, 1) := by decide +kernel
theorem dX12_spread_28 : decode cX12_spread 28 = .ok (.ior, 1) := by decide +kernel
theorem dX12_spread_29 : decode cX12_spread 29 = .ok (.ireturn, 1) := by decide +kernel
theorem dX12_without_0 : decode cX12_without 0 = .ok (.aload_n 0, 1) := by decide +kernel
theorem dX12_without_1 : decode cX12_without 1 = .ok (.iconst 0, 1) := by decide +kernel
theorem dX12_without_2 : decode cX12_without 2 = .ok (.putfield 40, 3) := by decide +kernel
theorem dX12_without_5 : decode cX12_without 5 = .ok (.aload_n 0, 1) := by decide +kernel
theorem dX12_without_6 : decode cX12_without 6 = .ok (.aload_n 0, 1) := by decide +kernel
theorem dX12_without_7 : decode cX12_without 7 = .ok (.iload_n 1, 1) := by decide +kernel
theorem dX12_without_8 : decode cX12_without 8 = .ok (.iload_n 2, 1) := by decide +kernel
theorem dX12_without_9 : decode cX12_without 9 = .ok (.invokevirtual 138, 3) := by decide +kernel
theorem dX12_without_12 : decode cX12_without 12 = .ok (.iconst 1, 1) := by decide +kernel
theorem dX12_without_13 : decode cX12_without 13 = .ok (.invokevirtual 69, 3) := by decide +kernel
theorem dX12_without_16 : decode cX12_without 16 = .ok (.ifCond .ne 28, 3) := by decide +kernel
theorem dX12_without_19 : decode cX12_without 19 = .ok (.aload_n 0, 1) := by decide +kernel
theorem dX12_without_20 : decode cX12_without 20 = .ok (.aload_n 0, 1) := by decide +kernel
theorem dX12_without_21 : decode cX12_without 21 = .ok (.getfield 19, 3) := by decide +kernel
theorem dX12_without_24 : decode cX12_without 24 = .ok (.invokevirtual 44, 3) := by decide +kernel
theorem dX12_without_27 : decode cX12_without 27 = .ok (.bipush 24, 2) := by decide +kernel
theorem dX12_without_29 : decode cX12_without 29 = .ok (.if_icmp .ne 7, 3) := by decide +kernel
theorem dX12_without_32 : decode cX12_without 32 = .ok (.iconst 1, 1) := by decide +kernel
theorem dX12_without_33 : decode cX12_without 33 = .ok (.goto 4, 3) := by decide +kernel
theorem dX12_without_36 : decode cX12_without 36 = .ok (.iconst 0, 1) := by decide +kernel
theorem dX12_without_37 : decode cX12_without 37 = .ok (.iconst 2, 1) := by decide +kernel
theorem dX12_without_38 : decode cX12_without 38 = .ok (.invokevirtual 69, 3) := by decide +kernel
theorem dX12_without_41 : decode cX12_without 41 = .ok (.ifCond .eq 5, 3) := by decide +kernel
theorem dX12_without_44 : decode cX12_without 44 = .ok (.iconst 0, 1) := by decide +kernel
theorem dX12_without_45 : decode cX12_without 45 = .ok (.ireturn, 1) := by decide +kernel
theorem dX12_without_46 : decode cX12_without 46 = .ok (.aload_n 0, 1) := by decide +kernel
theorem dX12_without_47 : decode cX12_without 47 = .ok (.getfield 19, 3) := by decide +kernel
theorem dX12_without_50 : decode cX12_without 50 = .ok (.iload_n 1, 1) := by decide +kernel
theorem dX12_without_51 : decode cX12_without 51 = .ok (.invokevirtual 56, 3) := by decide +kernel
theorem dX12_without_54 : decode cX12_without 54 = .ok (.checkcast 33, 3) := by decide +kernel
theorem dX12_without_57 : decode cX12_without 57 = .ok (.astore 4, 2) := by decide +kernel
theorem dX12_without_59 : decode cX12_without 59 = .ok (.aload 4, 2) := by decide +kernel
theorem dX12_without_61 : decode cX12_without 61 = .ok (.getfield 60, 3) := by decide +kernel
theorem dX12_without_64 : decode cX12_without 64 = .ok (.iconst 1, 1) := by decide +kernel
theorem dX12_without_65 : decode cX12_without 65 = .ok (.isub, 1) := by decide +kernel
theorem dX12_without_66 : decode cX12_without 66 = .ok (.invokestatic 76, 3) := by decide +kernel
theorem dX12_without_69 : decode cX12_without 69 = .ok (.astore 5, 2) := by decide +kernel
theorem dX12_without_71 : decode cX12_without 71 = .ok (.iload_n 3, 1) := by decide +kernel
theorem dX12_without_72 : decode cX12_without 72 = .ok (.ifCond .eq 15, 3) := by decide +kernel
theorem dX12_without_75 : decode cX12_without 75 = .ok (.aload 4, 2) := by decide +kernel
theorem dX12_without_77 : decode cX12_without 77 = .ok (.getfield 80, 3) := by decide +kernel
theorem dX12_without_80 : decode cX12_without 80 = .ok (.iconst 1, 1) := by decide +kernel
theorem dX12_without_81 : decode cX12_without 81 = .ok (.iload_n 2, 1) := by decide +kernel
theorem dX12_without_82 : decode cX12_without 82 = .ok (.ishl, 1) := by decide +kernel
theorem dX12_without_83 : decode cX12_without 83 = .ok (.iaload, 1) := by decide +kernel
theorem dX12_without_84 : decode cX12_without 84 = .ok (.goto 4, 3) := by decide +kernel
theorem dX12_without_87 : decode cX12_without 87 = .ok (.iconst 0, 1) := by decide +kernel
theorem dX12_without_88 : decode cX12_without 88 = .ok (.istore 6, 2) := by decide +kernel
theorem dX12_without_90 : decode cX12_without 90 = .ok (.iconst 0, 1) := by decide +kernel
theorem dX12_without_91 : decode cX12_without 91 = .ok (.istore 7, 2) := by decide +kernel
theorem dX12_without_93 : decode cX12_without 93 = .ok (.iload 7, 2) := by decide +kernel
theorem dX12_without_95 : decode cX12_without 95 = .ok (.aload 5, 2) := by decide +kernel
theorem dX12_without_97 : decode cX12_without 97 = .ok (.invokevirtual 62, 3) := by decide +kernel
theorem dX12_without_100 : decode cX12_without 100 = .ok (.if_icmp .gt 33, 3) := by decide +kernel
theorem dX12_without_103 : decode cX12_without 103 = .ok (.aload 5, 2) := by decide +kernel
theorem dX12_without_105 : decode cX12_without 105 = .ok (.getfield 80, 3) := by decide +kernel
theorem dX12_without_108 : decode cX12_without 108 = .ok (.iload 7, 2) := by decide +kernel
theorem dX12_without_110 : decode cX12_without 110 = .ok (.aload 4, 2) := by decide +kernel
theorem dX12_without_112 : decode cX12_without 112 = .ok (.getfield 80, 3) := by decide +kernel
theorem dX12_without_115 : decode cX12_without 115 = .ok (.iload 7, 2) := by decide +kernel
theorem dX12_without_117 : decode cX12_without 117 = .ok (.iload_n 2, 1) := by decide +kernel
theorem dX12_without_118 : decode cX12_without 118 = .ok (.iload_n 3, 1) := by decide +kernel
theorem dX12_without_119 : decode cX12_without 119 = .ok (.invokestatic 142, 3) := by decide +kernel
theorem dX12_without_122 : decode cX12_without 122 = .ok (.iaload, 1) := by decide +kernel
theorem dX12_without_123 : decode cX12_without 123 = .ok (.iload 6, 2) := by decide +kernel
theorem dX12_without_125 : decode cX12_without 125 = .ok (.isub, 1) := by decide +kernel
theorem dX12_without_126 : decode cX12_without 126 = .ok (.iastore, 1) := by decide +kernel
theorem dX12_without_127 : decode cX12_without 127 = .ok (.iinc 7 1, 3) := by decide +kernel
theorem dX12_without_130 : decode cX12_without 130 = .ok (.goto (-37), 3) := by decide +kernel
theorem dX12_without_133 : decode cX12_without 133 = .ok (.aload_n 0, 1) := by decide +kernel
theorem dX12_without_134 : decode cX12_without 134 = .ok (.aload 5, 2) := by decide +kernel
theorem dX12_without_136 : decode cX12_without 136 = .ok (.invokevirtual 95, 3) := by decide +kernel
theorem dX12_without_139 : decode cX12_without 139 = .ok (.ireturn, 1) := by decide +kernel
theorem dX12_delete_0 : decode cX12_delete 0 = .ok (.aload_n 0, 1) := by decide +kernel
theorem dX12_delete_1 : decode cX12_delete 1 = .ok (.iload_n 1, 1) := by decide +kernel
theorem dX12_delete_2 : decode cX12_delete 2 = .ok (.iload_n 2, 1) := by decide +kernel
theorem dX12_delete_3 : decode cX12_delete 3 = .ok (.iconst 0, 1) := by decide +kernel
theorem dX12_delete_4 : decode cX12_delete 4 = .ok (.invokevirtual 146, 3) := by decide +kernel
theorem dX12_delete_7 : decode cX12_delete 7 = .ok (.ireturn, 1) := by decide +kernel
theorem dX12_contract_0 : decode cX12_contract 0 = .ok (.aload_n 0, 1) := by decide +kernel
theorem dX12_contract_1 : decode cX12_contract 1 = .ok (.iload_n 1, 1) := by decide +kernel
theorem dX12_contract_2 : decode cX12_contract 2 = .ok (.iload_n 2, 1) := by decide +kernel
theorem dX12_contract_3 : decode cX12_contract 3 = .ok (.iconst 1, 1) := by decide +kernel
theorem dX12_contract_4 : decode cX12_contract 4 = .ok (.invokevirtual 146, 3) := by decide +kernel
theorem dX12_contract_7 : decode cX12_contract 7 = .ok (.ireturn, 1) := by decide +kernel
theorem dX12_sum_0 : decode cX12_sum 0 = .ok (.aload_n 0, 1) := by decide +kernel
theorem dX12_sum_1 : decode cX12_sum 1 = .ok (.iconst 0, 1) := by decide +kernel
theorem dX12_sum_2 : decode cX12_sum 2 = .ok (.putfield 40, 3) := by decide +kernel
theorem dX12_sum_5 : decode cX12_sum 5 = .ok (.aload_n 0, 1) := by decide +kernel
theorem dX12_sum_6 : decode cX12_sum 6 = .ok (.aload_n 0, 1) := by decide +kernel
theorem dX12_sum_7 : decode cX12_sum 7 = .ok (.iload_n 1, 1) := by decide +kernel
theorem dX12_sum_8 : decode cX12_sum 8 = .ok (.invokevirtual 52, 3) := by decide +kernel
theorem dX12_sum_11 : decode cX12_sum 11 = .ok (.ifCond .ne 11, 3) := by decide +kernel
theorem dX12_sum_14 : decode cX12_sum 14 = .ok (.aload_n 0, 1) := by decide +kernel
theorem dX12_sum_15 : decode cX12_sum 15 = .ok (.iload_n 2, 1) := by decide +kernel
theorem dX12_sum_16 : decode cX12_sum 16 = .ok (.invokevirtual 52, 3) := by decide +kernel
theorem dX12_sum_19 : decode cX12_sum 19 = .ok (.ifCond .eq 7, 3) := by decide +kernel
theorem dX12_sum_22 : decode cX12_sum 22 = .ok (.iconst 1, 1) := by decide +kernel
theorem dX12_sum_23 : decode cX12_sum 23 = .ok (.goto 4, 3) := by decide +kernel
theorem dX12_sum_26 : decode cX12_sum 26 = .ok (.iconst 0, 1) := by decide +kernel
theorem dX12_sum_27 : decode cX12_sum 27 = .ok (.iconst 1, 1) := by decide +kernel
theorem dX12_sum_28 : decode cX12_sum 28 = .ok (.invokevirtual 69, 3) := by decide +kernel
theorem dX12_sum_31 : decode cX12_sum 31 = .ok (.ifCond .eq 5, 3) := by decide +kernel
theorem dX12_sum_34 : decode cX12_sum 34 = .ok (.iconst 0, 1) := by decide +kernel
theorem dX12_sum_35 : decode cX12_sum 35 = .ok (.ireturn, 1) := by decide +kernel
theorem dX12_sum_36 : decode cX12_sum 36 = .ok (.aload_n 0, 1) := by decide +kernel
theorem dX12_sum_37 : decode cX12_sum 37 = .ok (.getfield 19, 3) := by decide +kernel
theorem dX12_sum_40 : decode cX12_sum 40 = .ok (.iload_n 1, 1) := by decide +kernel
theorem dX12_sum_41 : decode cX12_sum 41 = .ok (.invokevirtual 56, 3) := by decide +kernel
theorem dX12_sum_44 : decode cX12_sum 44 = .ok (.checkcast 33, 3) := by decide +kernel
theorem dX12_sum_47 : decode cX12_sum 47 = .ok (.astore_n 3, 1) := by decide +kernel
theorem dX12_sum_48 : decode cX12_sum 48 = .ok (.aload_n 0, 1) := by decide +kernel
theorem dX12_sum_49 : decode cX12_sum 49 = .ok (.getfield 19, 3) := by decide +kernel
theorem dX12_sum_52 : decode cX12_sum 52 = .ok (.iload_n 2, 1) := by decide +kernel
theorem dX12_sum_53 : decode cX12_sum 53 = .ok (.invokevirtual 56, 3) := by decide +kernel
theorem dX12_sum_56 : decode cX12_sum 56 = .ok (.checkcast 33, 3) := by decide +kernel
theorem dX12_sum_59 : decode cX12_sum 59 = .ok (.astore 4, 2) := by decide +kernel
theorem dX12_sum_61 : decode cX12_sum 61 = .ok (.aload_n 0, 1) := by decide +kernel
theorem dX12_sum_62 : decode cX12_sum 62 = .ok (.aload_n 3, 1) := by decide +kernel
theorem dX12_sum_63 : decode cX12_sum 63 = .ok (.getfield 60, 3) := by decide +kernel
theorem dX12_sum_66 : decode cX12_sum 66 = .ok (.aload 4, 2) := by decide +kernel
theorem dX12_sum_68 : decode cX12_sum 68 = .ok (.getfield 60, 3) := by decide +kernel
theorem dX12_sum_71 : decode cX12_sum 71 = .ok (.iadd, 1) := by decide +kernel
theorem dX12_sum_72 : decode cX12_sum 72 = .ok (.bipush 10, 2) := by decide +kernel
theorem dX12_sum_74 : decode cX12_sum 74 = .ok (.if_icmp .le 7, 3) := by decide +kernel
theorem dX12_sum_77 : decode cX12_sum 77 = .ok (.iconst 1, 1) := by decide +kernel
theorem dX12_sum_78 : decode cX12_sum 78 = .ok (.goto 4, 3) := by decide +kernel
theorem dX12_sum_81 : decode cX12_sum 81 = .ok (.iconst 0, 1) := by decide +kernel
theorem dX12_sum_82 : decode cX12_sum 82 = .ok (.iconst 2, 1) := by decide +kernel
theorem dX12_sum_83 : decode cX12_sum 83 = .ok (.invokevirtual 69, 3) := by decide +kernel
theorem dX12_sum_86 : decode cX12_sum 86 = .ok (.ifCond .ne 28, 3) := by decide +kernel
theorem dX12_sum_89 : decode cX12_sum 89 = .ok (.aload_n 0, 1) := by decide +kernel
theorem dX12_sum_90 : decode cX12_sum 90 = .ok (.aload_n 0, 1) := by decide +kernel
theorem dX12_sum_91 : decode cX12_sum 91 = .ok (.getfield 19, 3) := by decide +kernel
theorem dX12_sum_94 : decode cX12_sum 94 = .ok (.invokevirtual 44, 3) := by decide +kernel
theorem dX12_sum_97 : decode cX12_sum 97 = .ok (.bipush 24, 2) := by decide +kernel
theorem dX12_sum_99 : decode cX12_sum 99 = .ok (.if_icmp .ne 7, 3) := by decide +kernel
theorem dX12_sum_102 : decode cX12_sum 102 = .ok (.iconst 1, 1) := by decide +kernel
theorem dX12_sum_103 : decode cX12_sum 103 = .ok (.goto 4, 3) := by decide +kernel
theorem dX12_sum_106 : decode cX12_sum 106 = .ok (.iconst 0, 1) := by decide +kernel
theorem dX12_sum_107 : decode cX12_sum 107 = .ok (.iconst 3, 1) := by decide +kernel
theorem dX12_sum_108 : decode cX12_sum 108 = .ok (.invokevirtual 69, 3) := by decide +kernel
theorem dX12_sum_111 : decode cX12_sum 111 = .ok (.ifCond .eq 5, 3) := by decide +kernel
theorem dX12_sum_114 : decode cX12_sum 114 = .ok (.iconst 0, 1) := by decide +kernel
theorem dX12_sum_115 : decode cX12_sum 115 = .ok (.ireturn, 1) := by decide +kernel
theorem dX12_sum_116 : decode cX12_sum 116 = .ok (.aload_n 3, 1) := by decide +kernel
theorem dX12_sum_117 : decode cX12_sum 117 = .ok (.getfield 60, 3) := by decide +kernel
theorem dX12_sum_120 : decode cX12_sum 120 = .ok (.aload 4, 2) := by decide +kernel
theorem dX12_sum_122 : decode cX12_sum 122 = .ok (.getfield 60, 3) := by decide +kernel
theorem dX12_sum_125 : decode cX12_sum 125 = .ok (.iadd, 1) := by decide +kernel
theorem dX12_sum_126 : decode cX12_sum 126 = .ok (.invokestatic 76, 3) := by decide +kernel
theorem dX12_sum_129 : decode cX12_sum 129 = .ok (.astore 5, 2) := by decide +kernel
theorem dX12_sum_131 : decode cX12_sum 131 = .ok (.iconst 0, 1) := by decide +kernel
theorem dX12_sum_132 : decode cX12_sum 132 = .ok (.istore 6, 2) := by decide +kernel
theorem dX12_sum_134 : decode cX12_sum 134 = .ok (.iload 6, 2) := by decide +kernel
theorem dX12_sum_136 : decode cX12_sum 136 = .ok (.aload 5, 2) := by decide +kernel
theorem dX12_sum_138 : decode cX12_sum 138 = .ok (.invokevirtual 62, 3) := by decide +kernel
theorem dX12_sum_141 : decode cX12_sum 141 = .ok (.if_icmp .gt 43, 3) := by decide +kernel
theorem dX12_sum_144 : decode cX12_sum 144 = .ok (.aload 5, 2) := by decide +kernel
theorem dX12_sum_146 : decode cX12_sum 146 = .ok (.getfield 80, 3) := by decide +kernel
theorem dX12_sum_149 : decode cX12_sum 149 = .ok (.iload 6, 2) := by decide +kernel
theorem dX12_sum_151 : decode cX12_sum 151 = .ok (.aload_n 3, 1) := by decide +kernel
theorem dX12_sum_152 : decode cX12_sum 152 = .ok (.getfield 80, 3) := by decide +kernel
theorem dX12_sum_155 : decode cX12_sum 155 = .ok (.iload 6, 2) := by decide +kernel
theorem dX12_sum_157 : decode cX12_sum 157 = .ok (.aload_n 3, 1) := by decide +kernel
theorem dX12_sum_158 : decode cX12_sum 158 = .ok (.invokevirtual 62, 3) := by decide +kernel
theorem dX12_sum_161 : decode cX12_sum 161 = .ok (.iand, 1) := by decide +kernel
theorem dX12_sum_162 : decode cX12_sum 162 = .ok (.iaload, 1) := by decide +kernel
theorem dX12_sum_163 : decode cX12_sum 163 = .ok (.aload 4, 2) := by decide +kernel
theorem dX12_sum_165 : decode cX12_sum 165 = .ok (.getfield 80, 3) := by decide +kernel
theorem dX12_sum_168 : decode cX12_sum 168 = .ok (.iload 6, 2) := by decide +kernel
theorem dX12_sum_170 : decode cX12_sum 170 = .ok (.aload_n 3, 1) := by decide +kernel
theorem dX12_sum_171 : decode cX12_sum 171 = .ok (.getfield 60, 3) := by decide +kernel
theorem dX12_sum_174 : decode cX12_sum 174 = .ok (.ishr, 1) := by decide +kernel
theorem dX12_sum_175 : decode cX12_sum 175 = .ok (.iaload, 1) := by decide +kernel
theorem dX12_sum_176 : decode cX12_sum 176 = .ok (.iadd, 1) := by decide +kernel
theorem dX12_sum_177 : decode cX12_sum 177 = .ok (.iastore, 1) := by decide +kernel
theorem dX12_sum_178 : decode cX12_sum 178 = .ok (.iinc 6 1, 3) := by decide +kernel
theorem dX12_sum_181 : decode cX12_sum 181 = .ok (.goto (-47), 3) := by decide +kernel
theorem dX12_sum_184 : decode cX12_sum 184 = .ok (.aload_n 0, 1) := by decide +kernel
theorem dX12_sum_185 : decode cX12_sum 185 = .ok (.aload 5, 2) := by decide +kernel
theorem dX12_sum_187 : decode cX12_sum 187 = .ok (.invokevirtual 95, 3) := by decide +kernel
theorem dX12_sum_190 : decode cX12_sum 190 = .ok (.ireturn, 1) := by decide +kernel
theorem dX12_areUnlike_0 : decode cX12_areUnlike 0 = .ok (.aload_n 0, 1) := by decide +kernel
theorem dX12_areUnlike_1 : decode cX12_areUnlike 1 = .ok (.getfield 19, 3) := by decide +kernel
theorem dX12_areUnlike_4 : decode cX12_areUnlike 4 = .ok (.iload_n 1, 1) := by decide +kernel
theorem dX12_areUnlike_5 : decode cX12_areUnlike 5 = .ok (.invokevirtual 56, 3) := by decide +kernel
theorem dX12_areUnlike_8 : decode cX12_areUnlike 8 = .ok (.checkcast 33, 3) := by decide +kernel
theorem dX12_areUnlike_11 : decode cX12_areUnlike 11 = .ok (.getfield 60, 3) := by decide +kernel
theorem dX12_areUnlike_14 : decode cX12_areUnlike 14 = .ok (.aload_n 0, 1) := by decide +kernel
theorem dX12_areUnlike_15 : decode cX12_areUnlike 15 = .ok (.getfield 19, 3) := by decide +kernel
theorem dX12_areUnlike_18 : decode cX12_areUnlike 18 = .ok (.iload_n 2, 1) := by decide +kernel
theorem dX12_areUnlike_19 : decode cX12_areUnlike 19 = .ok (.invokevirtual 56, 3) := by decide +kernel
theorem dX12_areUnlike_22 : decode cX12_areUnlike 22 = .ok (.checkcast 33, 3) := by decide +kernel
theorem dX12_areUnlike_25 : decode cX12_areUnlike 25 = .ok (.getfield 60, 3) := by decide +kernel
theorem dX12_areUnlike_28 : decode cX12_areUnlike 28 = .ok (.if_icmp .eq 7, 3) := by decide +kernel
theorem dX12_areUnlike_31 : decode cX12_areUnlike 31 = .ok (.iconst 1, 1) := by decide +kernel
theorem dX12_areUnlike_32 : decode cX12_areUnlike 32 = .ok (.goto 4, 3) := by decide +kernel
theorem dX12_areUnlike_35 : decode cX12_areUnlike 35 = .ok (.iconst 0, 1) := by decide +kernel
theorem dX12_areUnlike_36 : decode cX12_areUnlike 36 = .ok (.ireturn, 1) := by decide +kernel
theorem dX12_union_0 : decode cX12_union 0 = .ok (.aload_n 0, 1) := by decide +kernel
theorem dX12_union_1 : decode cX12_union 1 = .ok (.iconst 0, 1) := by decide +kernel
theorem dX12_union_2 : decode cX12_union 2 = .ok (.putfield 40, 3) := by decide +kernel
theorem dX12_union_5 : decode cX12_union 5 = .ok (.aload_n 0, 1) := by decide +kernel
theorem dX12_union_6 : decode cX12_union 6 = .ok (.aload_n 0, 1) := by decide +kernel
theorem dX12_union_7 : decode cX12_union 7 = .ok (.iload_n 1, 1) := by decide +kernel
theorem dX12_union_8 : decode cX12_union 8 = .ok (.invokevirtual 52, 3) := by decide +kernel
theorem dX12_union_11 : decode cX12_union 11 = .ok (.ifCond .ne 11, 3) := by decide +kernel
theorem dX12_union_14 : decode cX12_union 14 = .ok (.aload_n 0, 1) := by decide +kernel
theorem dX12_union_15 : decode cX12_union 15 = .ok (.iload_n 2, 1) := by decide +kernel
theorem dX12_union_16 : decode cX12_union 16 = .ok (.invokevirtual 52, 3) := by decide +kernel
theorem dX12_union_19 : decode cX12_union 19 = .ok (.ifCond .eq 7, 3) := by decide +kernel
theorem dX12_union_22 : decode cX12_union 22 = .ok (.iconst 1, 1) := by decide +kernel
theorem dX12_union_23 : decode cX12_union 23 = .ok (.goto 4, 3) := by decide +kernel
theorem dX12_union_26 : decode cX12_union 26 = .ok (.iconst 0, 1) := by decide +kernel
theorem dX12_union_27 : decode cX12_union 27 = .ok (.iconst 1, 1) := by decide +kernel
theorem dX12_union_28 : decode cX12_union 28 = .ok (.invokevirtual 69, 3) := by decide +kernel
theorem dX12_union_31 : decode cX12_union 31 = .ok (.ifCond .ne 42, 3) := by decide +kernel
theorem dX12_union_34 : decode cX12_union 34 = .ok (.aload_n 0, 1) := by decide +kernel
theorem dX12_union_35 : decode cX12_union 35 = .ok (.aload_n 0, 1) := by decide +kernel
theorem dX12_union_36 : decode cX12_union 36 = .ok (.iload_n 1, 1) := by decide +kernel
theorem dX12_union_37 : decode cX12_union 37 = .ok (.iload_n 2, 1) := by decide +kernel
theorem dX12_union_38 : decode cX12_union 38 = .ok (.invokevirtual 149, 3) := by decide +kernel
theorem dX12_union_41 : decode cX12_union 41 = .ok (.iconst 2, 1) := by decide +kernel
theorem dX12_union_42 : decode cX12_union 42 = .ok (.invokevirtual 69, 3) := by decide +kernel
theorem dX12_union_45 : decode cX12_union 45 = .ok (.ifCond .ne 28, 3) := by decide +kernel
theorem dX12_union_48 : decode cX12_union 48 = .ok (.aload_n 0, 1) := by decide +kernel
theorem dX12_union_49 : decode cX12_union 49 = .ok (.aload_n 0, 1) := by decide +kernel
theorem dX12_union_50 : decode cX12_union 50 = .ok (.getfield 19, 3) := by decide +kernel
theorem dX12_union_53 : decode cX12_union 53 = .ok (.invokevirtual 44, 3) := by decide +kernel
theorem dX12_union_56 : decode cX12_union 56 = .ok (.bipush 24, 2) := by decide +kernel
theorem dX12_union_58 : decode cX12_union 58 = .ok (.if_icmp .ne 7, 3) := by decide +kernel
theorem dX12_union_61 : decode cX12_union 61 = .ok (.iconst 1, 1) := by decide +kernel
theorem dX12_union_62 : decode cX12_union 62 = .ok (.goto 4, 3) := by decide +kernel
theorem dX12_union_65 : decode cX12_union 65 = .ok (.iconst 0, 1) := by decide +kernel
theorem dX12_union_66 : decode cX12_union 66 = .ok (.iconst 3, 1) := by decide +kernel
theorem dX12_union_67 : decode cX12_union 67 = .ok (.invokevirtual 69, 3) := by decide +kernel
theorem dX12_union_70 : decode cX12_union 70 = .ok (.ifCond .eq 5, 3) := by decide +kernel
theorem dX12_union_73 : decode cX12_union 73 = .ok (.iconst 0, 1) := by decide +kernel
theorem dX12_union_74 : decode cX12_union 74 = .ok (.ireturn, 1) := by decide +kernel
theorem dX12_union_75 : decode cX12_union 75 = .ok (.aload_n 0, 1) := by decide +kernel
theorem dX12_union_76 : decode cX12_union 76 = .ok (.getfield 19, 3) := by decide +kernel
theorem dX12_union_79 : decode cX12_union 79 = .ok (.iload_n 1, 1) := by decide +kernel
theorem dX12_union_80 : decode cX12_union 80 = .ok (.invokevirtual 56, 3) := by decide +kernel
theorem dX12_union_83 : decode cX12_union 83 = .ok (.checkcast 33, 3) := by decide +kernel
theorem dX12_union_86 : decode cX12_union 86 = .ok (.astore_n 3, 1) := by decide +kernel
theorem dX12_union_87 : decode cX12_union 87 = .ok (.aload_n 0, 1) := by decide +kernel
theorem dX12_union_88 : decode cX12_union 88 = .ok (.getfield 19, 3) := by decide +kernel
theorem dX12_union_91 : decode cX12_union 91 = .ok (.iload_n 2, 1) := by decide +kernel
theorem dX12_union_92 : decode cX12_union 92 = .ok (.invokevirtual 56, 3) := by decide +kernel
theorem dX12_union_95 : decode cX12_union 95 = .ok (.checkcast 33, 3) := by decide +kernel
theorem dX12_union_98 : decode cX12_union 98 = .ok (.astore 4, 2) := by decide +kernel
theorem dX12_union_100 : decode cX12_union 100 = .ok (.aload_n 3, 1) := by decide +kernel
theorem dX12_union_101 : decode cX12_union 101 = .ok (.getfield 60, 3) := by decide +kernel
theorem dX12_union_104 : decode cX12_union 104 = .ok (.invokestatic 76, 3) := by decide +kernel
theorem dX12_union_107 : decode cX12_union 107 = .ok (.astore 5, 2) := by decide +kernel
theorem dX12_union_109 : decode cX12_union 109 = .ok (.sipush 1024, 3) := by decide +kernel
theorem dX12_union_112 : decode cX12_union 112 = .ok (.newarray .boolean, 2) := by decide +kernel
theorem dX12_union_114 : decode cX12_union 114 = .ok (.astore 6, 2) := by decide +kernel
theorem dX12_union_116 : decode cX12_union 116 = .ok (.iconst 0, 1) := by decide +kernel
theorem dX12_union_117 : decode cX12_union 117 = .ok (.istore 7, 2) := by decide +kernel
theorem dX12_union_119 : decode cX12_union 119 = .ok (.iload 7, 2) := by decide +kernel
theorem dX12_union_121 : decode cX12_union 121 = .ok (.aload 5, 2) := by decide +kernel
theorem dX12_union_123 : decode cX12_union 123 = .ok (.invokevirtual 62, 3) := by decide +kernel
theorem dX12_union_126 : decode cX12_union 126 = .ok (.if_icmp .gt 81, 3) := by decide +kernel
theorem dX12_union_129 : decode cX12_union 129 = .ok (.iload 7, 2) := by decide +kernel
theorem dX12_union_131 : decode cX12_union 131 = .ok (.istore 8, 2) := by decide +kernel
theorem dX12_union_133 : decode cX12_union 133 = .ok (.iload 8, 2) := by decide +kernel
theorem dX12_union_135 : decode cX12_union 135 = .ok (.ifCond .lt 66, 3) := by decide +kernel
theorem dX12_union_138 : decode cX12_union 138 = .ok (.aload 6, 2) := by decide +kernel
theorem dX12_union_140 : decode cX12_union 140 = .ok (.iload 7, 2) := by decide +kernel
theorem dX12_union_142 : decode cX12_union 142 = .ok (.aload 6, 2) := by decide +kernel
theorem dX12_union_144 : decode cX12_union 144 = .ok (.iload 7, 2) := by decide +kernel
theorem dX12_union_146 : decode cX12_union 146 = .ok (.baload, 1) := by decide +kernel
theorem dX12_union_147 : decode cX12_union 147 = .ok (.ifCond .ne 27, 3) := by decide +kernel
theorem dX12_union_150 : decode cX12_union 150 = .ok (.aload_n 3, 1) := by decide +kernel
theorem dX12_union_151 : decode cX12_union 151 = .ok (.iload 8, 2) := by decide +kernel
theorem dX12_union_153 : decode cX12_union 153 = .ok (.invokevirtual 152, 3) := by decide +kernel
theorem dX12_union_156 : decode cX12_union 156 = .ok (.ifCond .eq 22, 3) := by decide +kernel
theorem dX12_union_159 : decode cX12_union 159 = .ok (.aload 4, 2) := by decide +kernel
theorem dX12_union_161 : decode cX12_union 161 = .ok (.iload 7, 2) := by decide +kernel
theorem dX12_union_163 : decode cX12_union 163 = .ok (.iload 8, 2) := by decide +kernel
theorem dX12_union_165 : decode cX12_union 165 = .ok (.iconst (-1), 1) := by decide +kernel
theorem dX12_union_166 : decode cX12_union 166 = .ok (.ixor, 1) := by decide +kernel
theorem dX12_union_167 : decode cX12_union 167 = .ok (.iand, 1) := by decide +kernel
theorem dX12_union_168 : decode cX12_union 168 = .ok (.invokevirtual 152, 3) := by decide +kernel
theorem dX12_union_171 : decode cX12_union 171 = .ok (.ifCond .eq 7, 3) := by decide +kernel
theorem dX12_union_174 : decode cX12_union 174 = .ok (.iconst 1, 1) := by decide +kernel
theorem dX12_union_175 : decode cX12_union 175 = .ok (.goto 4, 3) := by decide +kernel
theorem dX12_union_178 : decode cX12_union 178 = .ok (.iconst 0, 1) := by decide +kernel
theorem dX12_union_179 : decode cX12_union 179 = .ok (.bastore, 1) := by decide +kernel
theorem dX12_union_180 : decode cX12_union 180 = .ok (.iload 8, 2) := by decide +kernel
theorem dX12_union_182 : decode cX12_union 182 = .ok (.ifCond .ne 7, 3) := by decide +kernel
theorem dX12_union_185 : decode cX12_union 185 = .ok (.iconst (-1), 1) := by decide +kernel
theorem dX12_union_186 : decode cX12_union 186 = .ok (.goto 10, 3) := by decide +kernel
theorem dX12_union_189 : decode cX12_union 189 = .ok (.iload 8, 2) := by decide +kernel
theorem dX12_union_191 : decode cX12_union 191 = .ok (.iconst 1, 1) := by decide +kernel
theorem dX12_union_192 : decode cX12_union 192 = .ok (.isub, 1) := by decide +kernel
theorem dX12_union_193 : decode cX12_union 193 = .ok (.iload 7, 2) := by decide +kernel
theorem dX12_union_195 : decode cX12_union 195 = .ok (.iand, 1) := by decide +kernel
theorem dX12_union_196 : decode cX12_union 196 = .ok (.istore 8, 2) := by decide +kernel
theorem dX12_union_198 : decode cX12_union 198 = .ok (.goto (-65), 3) := by decide +kernel
theorem dX12_union_201 : decode cX12_union 201 = .ok (.iinc 7 1, 3) := by decide +kernel
theorem dX12_union_204 : decode cX12_union 204 = .ok (.goto (-85), 3) := by decide +kernel
theorem dX12_union_207 : decode cX12_union 207 = .ok (.aload 5, 2) := by decide +kernel
theorem dX12_union_209 : decode cX12_union 209 = .ok (.aload 6, 2) := by decide +kernel
theorem dX12_union_211 : decode cX12_union 211 = .ok (.invokevirtual 124, 3) := by decide +kernel
theorem dX12_union_214 : decode cX12_union 214 = .ok (.aload_n 0, 1) := by decide +kernel
theorem dX12_union_215 : decode cX12_union 215 = .ok (.aload 5, 2) := by decide +kernel
theorem dX12_union_217 : decode cX12_union 217 = .ok (.invokevirtual 95, 3) := by decide +kernel
theorem dX12_union_220 : decode cX12_union 220 = .ok (.ireturn, 1) := by decide +kernel
theorem dX12_truncate_0 : decode cX12_truncate 0 = .ok (.aload_n 0, 1) := by decide +kernel
theorem dX12_truncate_1 : decode cX12_truncate 1 = .ok (.iconst 0, 1) := by decide +kernel
theorem dX12_truncate_2 : decode cX12_truncate 2 = .ok (.putfield 40, 3) := by decide +kernel
theorem dX12_truncate_5 : decode cX12_truncate 5 = .ok (.aload_n 0, 1) := by decide +kernel
theorem dX12_truncate_6 : decode cX12_truncate 6 = .ok (.aload_n 0, 1) := by decide +kernel
theorem dX12_truncate_7 : decode cX12_truncate 7 = .ok (.iload_n 1, 1) := by decide +kernel
theorem dX12_truncate_8 : decode cX12_truncate 8 = .ok (.invokevirtual 52, 3) := by decide +kernel
theorem dX12_truncate_11 : decode cX12_truncate 11 = .ok (.iconst 1, 1) := by decide +kernel
theorem dX12_truncate_12 : decode cX12_truncate 12 = .ok (.invokevirtual 69, 3) := by decide +kernel
theorem dX12_truncate_15 : decode cX12_truncate 15 = .ok (.ifCond .ne 58, 3) := by decide +kernel
theorem dX12_truncate_18 : decode cX12_truncate 18 = .ok (.aload_n 0, 1) := by decide +kernel
theorem dX12_truncate_19 : decode cX12_truncate 19 = .ok (.aload_n 0, 1) := by decide +kernel
theorem dX12_truncate_20 : decode cX12_truncate 20 = .ok (.getfield 19, 3) := by decide +kernel
theorem dX12_truncate_23 : decode cX12_truncate 23 = .ok (.iload_n 1, 1) := by decide +kernel
theorem dX12_truncate_24 : decode cX12_truncate 24 = .ok (.invokevirtual 56, 3) := by decide +kernel
theorem dX12_truncate_27 : decode cX12_truncate 27 = .ok (.checkcast 33, 3) := by decide +kernel
theorem dX12_truncate_30 : decode cX12_truncate 30 = .ok (.invokevirtual 135, 3) := by decide +kernel
theorem dX12_truncate_33 : decode cX12_truncate 33 = .ok (.ifCond .ne 7, 3) := by decide +kernel
theorem dX12_truncate_36 : decode cX12_truncate 36 = .ok (.iconst 1, 1) := by decide +kernel
theorem dX12_truncate_37 : decode cX12_truncate 37 = .ok (.goto 4, 3) := by decide +kernel
theorem dX12_truncate_40 : decode cX12_truncate 40 = .ok (.iconst 0, 1) := by decide +kernel
theorem dX12_truncate_41 : decode cX12_truncate 41 = .ok (.iconst 2, 1) := by decide +kernel
theorem dX12_truncate_42 : decode cX12_truncate 42 = .ok (.invokevirtual 69, 3) := by decide +kernel
theorem dX12_truncate_45 : decode cX12_truncate 45 = .ok (.ifCond .ne 28, 3) := by decide +kernel
theorem dX12_truncate_48 : decode cX12_truncate 48 = .ok (.aload_n 0, 1) := by decide +kernel
theorem dX12_truncate_49 : decode cX12_truncate 49 = .ok (.aload_n 0, 1) := by decide +kernel
theorem dX12_truncate_50 : decode cX12_truncate 50 = .ok (.getfield 19, 3) := by decide +kernel
theorem dX12_truncate_53 : decode cX12_truncate 53 = .ok (.invokevirtual 44, 3) := by decide +kernel
theorem dX12_truncate_56 : decode cX12_truncate 56 = .ok (.bipush 24, 2) := by decide +kernel
theorem dX12_truncate_58 : decode cX12_truncate 58 = .ok (.if_icmp .ne 7, 3) := by decide +kernel
theorem dX12_truncate_61 : decode cX12_truncate 61 = .ok (.iconst 1, 1) := by decide +kernel
theorem dX12_truncate_62 : decode cX12_truncate 62 = .ok (.goto 4, 3) := by decide +kernel
theorem dX12_truncate_65 : decode cX12_truncate 65 = .ok (.iconst 0, 1) := by decide +kernel
theorem dX12_truncate_66 : decode cX12_truncate 66 = .ok (.iconst 3, 1) := by decide +kernel
theorem dX12_truncate_67 : decode cX12_truncate 67 = .ok (.invokevirtual 69, 3) := by decide +kernel
theorem dX12_truncate_70 : decode cX12_truncate 70 = .ok (.ifCond .eq 5, 3) := by decide +kernel
theorem dX12_truncate_73 : decode cX12_truncate 73 = .ok (.iconst 0, 1) := by decide +kernel
theorem dX12_truncate_74 : decode cX12_truncate 74 = .ok (.ireturn, 1) := by decide +kernel
theorem dX12_truncate_75 : decode cX12_truncate 75 = .ok (.aload_n 0, 1) := by decide +kernel
theorem dX12_truncate_76 : decode cX12_truncate 76 = .ok (.getfield 19, 3) := by decide +kernel
theorem dX12_truncate_79 : decode cX12_truncate 79 = .ok (.iload_n 1, 1) := by decide +kernel
theorem dX12_truncate_80 : decode cX12_truncate 80 = .ok (.invokevirtual 56, 3) := by decide +kernel
theorem dX12_truncate_83 : decode cX12_truncate 83 = .ok (.checkcast 33, 3) := by decide +kernel
theorem dX12_truncate_86 : decode cX12_truncate 86 = .ok (.astore_n 2, 1) := by decide +kernel
theorem dX12_truncate_87 : decode cX12_truncate 87 = .ok (.aload_n 2, 1) := by decide +kernel
theorem dX12_truncate_88 : decode cX12_truncate 88 = .ok (.getfield 60, 3) := by decide +kernel
theorem dX12_truncate_91 : decode cX12_truncate 91 = .ok (.invokestatic 76, 3) := by decide +kernel
theorem dX12_truncate_94 : decode cX12_truncate 94 = .ok (.astore_n 3, 1) := by decide +kernel
theorem dX12_truncate_95 : decode cX12_truncate 95 = .ok (.iconst 0, 1) := by decide +kernel
theorem dX12_truncate_96 : decode cX12_truncate 96 = .ok (.istore 4, 2) := by decide +kernel
theorem dX12_truncate_98 : decode cX12_truncate 98 = .ok (.iload 4, 2) := by decide +kernel
theorem dX12_truncate_100 : decode cX12_truncate 100 = .ok (.aload_n 3, 1) := by decide +kernel
theorem dX12_truncate_101 : decode cX12_truncate 101 = .ok (.invokevirtual 62, 3) := by decide +kernel
theorem dX12_truncate_104 : decode cX12_truncate 104 = .ok (.if_icmp .gt 32, 3) := by decide +kernel
theorem dX12_truncate_107 : decode cX12_truncate 107 = .ok (.aload_n 3, 1) := by decide +kernel
theorem dX12_truncate_108 : decode cX12_truncate 108 = .ok (.getfield 80, 3) := by decide +kernel
theorem dX12_truncate_111 : decode cX12_truncate 111 = .ok (.iload 4, 2) := by decide +kernel
theorem dX12_truncate_113 : decode cX12_truncate 113 = .ok (.aload_n 2, 1) := by decide +kernel
theorem dX12_truncate_114 : decode cX12_truncate 114 = .ok (.getfield 80, 3) := by decide +kernel
theorem dX12_truncate_117 : decode cX12_truncate 117 = .ok (.iload 4, 2) := by decide +kernel
theorem dX12_truncate_119 : decode cX12_truncate 119 = .ok (.iaload, 1) := by decide +kernel
theorem dX12_truncate_120 : decode cX12_truncate 120 = .ok (.aload_n 2, 1) := by decide +kernel
theorem dX12_truncate_121 : decode cX12_truncate 121 = .ok (.invokevirtual 135, 3) := by decide +kernel
theorem dX12_truncate_124 : decode cX12_truncate 124 = .ok (.iconst 1, 1) := by decide +kernel
theorem dX12_truncate_125 : decode cX12_truncate 125 = .ok (.isub, 1) := by decide +kernel
theorem dX12_truncate_126 : decode cX12_truncate 126 = .ok (.invokestatic 89, 3) := by decide +kernel
theorem dX12_truncate_129 : decode cX12_truncate 129 = .ok (.iastore, 1) := by decide +kernel
theorem dX12_truncate_130 : decode cX12_truncate 130 = .ok (.iinc 4 1, 3) := by decide +kernel
theorem dX12_truncate_133 : decode cX12_truncate 133 = .ok (.goto (-35), 3) := by decide +kernel
theorem dX12_truncate_136 : decode cX12_truncate 136 = .ok (.aload_n 0, 1) := by decide +kernel
theorem dX12_truncate_137 : decode cX12_truncate 137 = .ok (.aload_n 3, 1) := by decide +kernel
theorem dX12_truncate_138 : decode cX12_truncate 138 = .ok (.invokevirtual 95, 3) := by decide +kernel
theorem dX12_truncate_141 : decode cX12_truncate 141 = .ok (.ireturn, 1) := by decide +kernel
theorem dX12_relax_0 : decode cX12_relax 0 = .ok (.aload_n 0, 1) := by decide +kernel
theorem dX12_relax_1 : decode cX12_relax 1 = .ok (.iconst 0, 1) := by decide +kernel
theorem dX12_relax_2 : decode cX12_relax 2 = .ok (.putfield 40, 3) := by decide +kernel
theorem dX12_relax_5 : decode cX12_relax 5 = .ok (.aload_n 0, 1) := by decide +kernel
theorem dX12_relax_6 : decode cX12_relax 6 = .ok (.aload_n 0, 1) := by decide +kernel
theorem dX12_relax_7 : decode cX12_relax 7 = .ok (.iload_n 1, 1) := by decide +kernel
theorem dX12_relax_8 : decode cX12_relax 8 = .ok (.invokevirtual 52, 3) := by decide +kernel
theorem dX12_relax_11 : decode cX12_relax 11 = .ok (.iconst 1, 1) := by decide +kernel
theorem dX12_relax_12 : decode cX12_relax 12 = .ok (.invokevirtual 69, 3) := by decide +kernel
theorem dX12_relax_15 : decode cX12_relax 15 = .ok (.ifCond .ne 17, 3) := by decide +kernel
theorem dX12_relax_18 : decode cX12_relax 18 = .ok (.aload_n 0, 1) := by decide +kernel
theorem dX12_relax_19 : decode cX12_relax 19 = .ok (.aload_n 0, 1) := by decide +kernel
theorem dX12_relax_20 : decode cX12_relax 20 = .ok (.iload_n 1, 1) := by decide +kernel
theorem dX12_relax_21 : decode cX12_relax 21 = .ok (.iload_n 2, 1) := by decide +kernel
theorem dX12_relax_22 : decode cX12_relax 22 = .ok (.invokevirtual 155, 3) := by decide +kernel
theorem dX12_relax_25 : decode cX12_relax 25 = .ok (.iconst 2, 1) := by decide +kernel
theorem dX12_relax_26 : decode cX12_relax 26 = .ok (.invokevirtual 69, 3) := by decide +kernel
theorem dX12_relax_29 : decode cX12_relax 29 = .ok (.ifCond .eq 5, 3) := by decide +kernel
theorem dX12_relax_32 : decode cX12_relax 32 = .ok (.iconst 0, 1) := by decide +kernel
theorem dX12_relax_33 : decode cX12_relax 33 = .ok (.ireturn, 1) := by decide +kernel
theorem dX12_relax_34 : decode cX12_relax 34 = .ok (.aload_n 0, 1) := by decide +kernel
theorem dX12_relax_35 : decode cX12_relax 35 = .ok (.getfield 19, 3) := by decide +kernel
theorem dX12_relax_38 : decode cX12_relax 38 = .ok (.iload_n 1, 1) := by decide +kernel
theorem dX12_relax_39 : decode cX12_relax 39 = .ok (.invokevirtual 56, 3) := by decide +kernel
theorem dX12_relax_42 : decode cX12_relax 42 = .ok (.checkcast 33, 3) := by decide +kernel
theorem dX12_relax_45 : decode cX12_relax 45 = .ok (.astore_n 3, 1) := by decide +kernel
theorem dX12_relax_46 : decode cX12_relax 46 = .ok (.aload_n 0, 1) := by decide +kernel
theorem dX12_relax_47 : decode cX12_relax 47 = .ok (.aload_n 3, 1) := by decide +kernel
theorem dX12_relax_48 : decode cX12_relax 48 = .ok (.iload_n 2, 1) := by decide +kernel
theorem dX12_relax_49 : decode cX12_relax 49 = .ok (.invokevirtual 158, 3) := by decide +kernel
theorem dX12_relax_52 : decode cX12_relax 52 = .ok (.ifCond .eq 11, 3) := by decide +kernel
theorem dX12_relax_55 : decode cX12_relax 55 = .ok (.aload_n 3, 1) := by decide +kernel
theorem dX12_relax_56 : decode cX12_relax 56 = .ok (.iload_n 2, 1) := by decide +kernel
theorem dX12_relax_57 : decode cX12_relax 57 = .ok (.invokevirtual 161, 3) := by decide +kernel
theorem dX12_relax_60 : decode cX12_relax 60 = .ok (.ifCond .ne 7, 3) := by decide +kernel
theorem dX12_relax_63 : decode cX12_relax 63 = .ok (.iconst 1, 1) := by decide +kernel
theorem dX12_relax_64 : decode cX12_relax 64 = .ok (.goto 4, 3) := by decide +kernel
theorem dX12_relax_67 : decode cX12_relax 67 = .ok (.iconst 0, 1) := by decide +kernel
theorem dX12_relax_68 : decode cX12_relax 68 = .ok (.iconst 3, 1) := by decide +kernel
theorem dX12_relax_69 : decode cX12_relax 69 = .ok (.invokevirtual 69, 3) := by decide +kernel
theorem dX12_relax_72 : decode cX12_relax 72 = .ok (.ifCond .ne 28, 3) := by decide +kernel
theorem dX12_relax_75 : decode cX12_relax 75 = .ok (.aload_n 0, 1) := by decide +kernel
theorem dX12_relax_76 : decode cX12_relax 76 = .ok (.aload_n 0, 1) := by decide +kernel
theorem dX12_relax_77 : decode cX12_relax 77 = .ok (.getfield 19, 3) := by decide +kernel
theorem dX12_relax_80 : decode cX12_relax 80 = .ok (.invokevirtual 44, 3) := by decide +kernel
theorem dX12_relax_83 : decode cX12_relax 83 = .ok (.bipush 24, 2) := by decide +kernel
theorem dX12_relax_85 : decode cX12_relax 85 = .ok (.if_icmp .ne 7, 3) := by decide +kernel
theorem dX12_relax_88 : decode cX12_relax 88 = .ok (.iconst 1, 1) := by decide +kernel
theorem dX12_relax_89 : decode cX12_relax 89 = .ok (.goto 4, 3) := by decide +kernel
theorem dX12_relax_92 : decode cX12_relax 92 = .ok (.iconst 0, 1) := by decide +kernel
theorem dX12_relax_93 : decode cX12_relax 93 = .ok (.iconst 4, 1) := by decide +kernel
theorem dX12_relax_94 : decode cX12_relax 94 = .ok (.invokevirtual 69, 3) := by decide +kernel
theorem dX12_relax_97 : decode cX12_relax 97 = .ok (.ifCond .eq 5, 3) := by decide +kernel
theorem dX12_relax_100 : decode cX12_relax 100 = .ok (.iconst 0, 1) := by decide +kernel
theorem dX12_relax_101 : decode cX12_relax 101 = .ok (.ireturn, 1) := by decide +kernel
theorem dX12_relax_102 : decode cX12_relax 102 = .ok (.aload_n 3, 1) := by decide +kernel
theorem dX12_relax_103 : decode cX12_relax 103 = .ok (.getfield 60, 3) := by decide +kernel
theorem dX12_relax_106 : decode cX12_relax 106 = .ok (.invokestatic 76, 3) := by decide +kernel
theorem dX12_relax_109 : decode cX12_relax 109 = .ok (.astore 4, 2) := by decide +kernel
theorem dX12_relax_111 : decode cX12_relax 111 = .ok (.iconst 0, 1) := by decide +kernel
theorem dX12_relax_112 : decode cX12_relax 112 = .ok (.istore 5, 2) := by decide +kernel
theorem dX12_relax_114 : decode cX12_relax 114 = .ok (.iload 5, 2) := by decide +kernel
theorem dX12_relax_116 : decode cX12_relax 116 = .ok (.aload 4, 2) := by decide +kernel
theorem dX12_relax_118 : decode cX12_relax 118 = .ok (.invokevirtual 62, 3) := by decide +kernel
theorem dX12_relax_121 : decode cX12_relax 121 = .ok (.if_icmp .gt 37, 3) := by decide +kernel
theorem dX12_relax_124 : decode cX12_relax 124 = .ok (.aload 4, 2) := by decide +kernel
theorem dX12_relax_126 : decode cX12_relax 126 = .ok (.getfield 80, 3) := by decide +kernel
theorem dX12_relax_129 : decode cX12_relax 129 = .ok (.iload 5, 2) := by decide +kernel
theorem dX12_relax_131 : decode cX12_relax 131 = .ok (.iload 5, 2) := by decide +kernel
theorem dX12_relax_133 : decode cX12_relax 133 = .ok (.iload_n 2, 1) := by decide +kernel
theorem dX12_relax_134 : decode cX12_relax 134 = .ok (.if_icmp .ne 10, 3) := by decide +kernel
theorem dX12_relax_137 : decode cX12_relax 137 = .ok (.aload_n 3, 1) := by decide +kernel
theorem dX12_relax_138 : decode cX12_relax 138 = .ok (.invokevirtual 135, 3) := by decide +kernel
theorem dX12_relax_141 : decode cX12_relax 141 = .ok (.goto 10, 3) := by decide +kernel
theorem dX12_relax_144 : decode cX12_relax 144 = .ok (.aload_n 3, 1) := by decide +kernel
theorem dX12_relax_145 : decode cX12_relax 145 = .ok (.getfield 80, 3) := by decide +kernel
theorem dX12_relax_148 : decode cX12_relax 148 = .ok (.iload 5, 2) := by decide +kernel
theorem dX12_relax_150 : decode cX12_relax 150 = .ok (.iaload, 1) := by decide +kernel
theorem dX12_relax_151 : decode cX12_relax 151 = .ok (.iastore, 1) := by decide +kernel
theorem dX12_relax_152 : decode cX12_relax 152 = .ok (.iinc 5 1, 3) := by decide +kernel
theorem dX12_relax_155 : decode cX12_relax 155 = .ok (.goto (-41), 3) := by decide +kernel
theorem dX12_relax_158 : decode cX12_relax 158 = .ok (.aload_n 0, 1) := by decide +kernel
theorem dX12_relax_159 : decode cX12_relax 159 = .ok (.aload 4, 2) := by decide +kernel
theorem dX12_relax_161 : decode cX12_relax 161 = .ok (.invokevirtual 95, 3) := by decide +kernel
theorem dX12_relax_164 : decode cX12_relax 164 = .ok (.ireturn, 1) := by decide +kernel
theorem dX12_extend_0 : decode cX12_extend 0 = .ok (.aload_n 0, 1) := by decide +kernel
theorem dX12_extend_1 : decode cX12_extend 1 = .ok (.iconst 0, 1) := by decide +kernel
theorem dX12_extend_2 : decode cX12_extend 2 = .ok (.putfield 40, 3) := by decide +kernel
theorem dX12_extend_5 : decode cX12_extend 5 = .ok (.aload_n 0, 1) := by decide +kernel
theorem dX12_extend_6 : decode cX12_extend 6 = .ok (.aload_n 0, 1) := by decide +kernel
theorem dX12_extend_7 : decode cX12_extend 7 = .ok (.iload_n 1, 1) := by decide +kernel
theorem dX12_extend_8 : decode cX12_extend 8 = .ok (.invokevirtual 52, 3) := by decide +kernel
theorem dX12_extend_11 : decode cX12_extend 11 = .ok (.iconst 1, 1) := by decide +kernel
theorem dX12_extend_12 : decode cX12_extend 12 = .ok (.invokevirtual 69, 3) := by decide +kernel
theorem dX12_extend_15 : decode cX12_extend 15 = .ok (.ifCond .ne 17, 3) := by decide +kernel
theorem dX12_extend_18 : decode cX12_extend 18 = .ok (.aload_n 0, 1) := by decide +kernel
theorem dX12_extend_19 : decode cX12_extend 19 = .ok (.aload_n 0, 1) := by decide +kernel
theorem dX12_extend_20 : decode cX12_extend 20 = .ok (.iload_n 1, 1) := by decide +kernel
theorem dX12_extend_21 : decode cX12_extend 21 = .ok (.iload_n 2, 1) := by decide +kernel
theorem dX12_extend_22 : decode cX12_extend 22 = .ok (.invokevirtual 155, 3) := by decide +kernel
theorem dX12_extend_25 : decode cX12_extend 25 = .ok (.iconst 2, 1) := by decide +kernel
theorem dX12_extend_26 : decode cX12_extend 26 = .ok (.invokevirtual 69, 3) := by decide +kernel
theorem dX12_extend_29 : decode cX12_extend 29 = .ok (.ifCond .eq 5, 3) := by decide +kernel
theorem dX12_extend_32 : decode cX12_extend 32 = .ok (.iconst 0, 1) := by decide +kernel
theorem dX12_extend_33 : decode cX12_extend 33 = .ok (.ireturn, 1) := by decide +kernel
theorem dX12_extend_34 : decode cX12_extend 34 = .ok (.aload_n 0, 1) := by decide +kernel
theorem dX12_extend_35 : decode cX12_extend 35 = .ok (.getfield 19, 3) := by decide +kernel
theorem dX12_extend_38 : decode cX12_extend 38 = .ok (.iload_n 1, 1) := by decide +kernel
theorem dX12_extend_39 : decode cX12_extend 39 = .ok (.invokevirtual 56, 3) := by decide +kernel
theorem dX12_extend_42 : decode cX12_extend 42 = .ok (.checkcast 33, 3) := by decide +kernel
theorem dX12_extend_45 : decode cX12_extend 45 = .ok (.astore_n 3, 1) := by decide +kernel
theorem dX12_extend_46 : decode cX12_extend 46 = .ok (.aload_n 0, 1) := by decide +kernel
theorem dX12_extend_47 : decode cX12_extend 47 = .ok (.aload_n 3, 1) := by decide +kernel
theorem dX12_extend_48 : decode cX12_extend 48 = .ok (.getfield 60, 3) := by decide +kernel
theorem dX12_extend_51 : decode cX12_extend 51 = .ok (.bipush 10, 2) := by decide +kernel
theorem dX12_extend_53 : decode cX12_extend 53 = .ok (.if_icmp .ne 7, 3) := by decide +kernel
theorem dX12_extend_56 : decode cX12_extend 56 = .ok (.iconst 1, 1) := by decide +kernel
theorem dX12_extend_57 : decode cX12_extend 57 = .ok (.goto 4, 3) := by decide +kernel
theorem dX12_extend_60 : decode cX12_extend 60 = .ok (.iconst 0, 1) := by decide +kernel
theorem dX12_extend_61 : decode cX12_extend 61 = .ok (.iconst 3, 1) := by decide +kernel
theorem dX12_extend_62 : decode cX12_extend 62 = .ok (.invokevirtual 69, 3) := by decide +kernel
theorem dX12_extend_65 : decode cX12_extend 65 = .ok (.ifCond .ne 28, 3) := by decide +kernel
theorem dX12_extend_68 : decode cX12_extend 68 = .ok (.aload_n 0, 1) := by decide +kernel
theorem dX12_extend_69 : decode cX12_extend 69 = .ok (.aload_n 0, 1) := by decide +kernel
theorem dX12_extend_70 : decode cX12_extend 70 = .ok (.getfield 19, 3) := by decide +kernel
theorem dX12_extend_73 : decode cX12_extend 73 = .ok (.invokevirtual 44, 3) := by decide +kernel
theorem dX12_extend_76 : decode cX12_extend 76 = .ok (.bipush 24, 2) := by decide +kernel
theorem dX12_extend_78 : decode cX12_extend 78 = .ok (.if_icmp .ne 7, 3) := by decide +kernel
theorem dX12_extend_81 : decode cX12_extend 81 = .ok (.iconst 1, 1) := by decide +kernel
theorem dX12_extend_82 : decode cX12_extend 82 = .ok (.goto 4, 3) := by decide +kernel
theorem dX12_extend_85 : decode cX12_extend 85 = .ok (.iconst 0, 1) := by decide +kernel
theorem dX12_extend_86 : decode cX12_extend 86 = .ok (.iconst 4, 1) := by decide +kernel
theorem dX12_extend_87 : decode cX12_extend 87 = .ok (.invokevirtual 69, 3) := by decide +kernel
theorem dX12_extend_90 : decode cX12_extend 90 = .ok (.ifCond .eq 5, 3) := by decide +kernel
theorem dX12_extend_93 : decode cX12_extend 93 = .ok (.iconst 0, 1) := by decide +kernel
theorem dX12_extend_94 : decode cX12_extend 94 = .ok (.ireturn, 1) := by decide +kernel
theorem dX12_extend_95 : decode cX12_extend 95 = .ok (.aload_n 3, 1) := by decide +kernel
theorem dX12_extend_96 : decode cX12_extend 96 = .ok (.getfield 60, 3) := by decide +kernel
theorem dX12_extend_99 : decode cX12_extend 99 = .ok (.iconst 1, 1) := by decide +kernel
theorem dX12_extend_100 : decode cX12_extend 100 = .ok (.iadd, 1) := by decide +kernel
theorem dX12_extend_101 : decode cX12_extend 101 = .ok (.invokestatic 76, 3) := by decide +kernel
theorem dX12_extend_104 : decode cX12_extend 104 = .ok (.astore 4, 2) := by decide +kernel
theorem dX12_extend_106 : decode cX12_extend 106 = .ok (.iconst 0, 1) := by decide +kernel
theorem dX12_extend_107 : decode cX12_extend 107 = .ok (.istore 5, 2) := by decide +kernel
theorem dX12_extend_109 : decode cX12_extend 109 = .ok (.iload 5, 2) := by decide +kernel
theorem dX12_extend_111 : decode cX12_extend 111 = .ok (.aload_n 3, 1) := by decide +kernel
theorem dX12_extend_112 : decode cX12_extend 112 = .ok (.invokevirtual 62, 3) := by decide +kernel
theorem dX12_extend_115 : decode cX12_extend 115 = .ok (.if_icmp .gt 76, 3) := by decide +kernel
theorem dX12_extend_118 : decode cX12_extend 118 = .ok (.aload_n 3, 1) := by decide +kernel
theorem dX12_extend_119 : decode cX12_extend 119 = .ok (.iload 5, 2) := by decide +kernel
theorem dX12_extend_121 : decode cX12_extend 121 = .ok (.invokevirtual 164, 3) := by decide +kernel
theorem dX12_extend_124 : decode cX12_extend 124 = .ok (.iload_n 2, 1) := by decide +kernel
theorem dX12_extend_125 : decode cX12_extend 125 = .ok (.iand, 1) := by decide +kernel
theorem dX12_extend_126 : decode cX12_extend 126 = .ok (.iload_n 2, 1) := by decide +kernel
theorem dX12_extend_127 : decode cX12_extend 127 = .ok (.if_icmp .ne 7, 3) := by decide +kernel
theorem dX12_extend_130 : decode cX12_extend 130 = .ok (.iconst 1, 1) := by decide +kernel
theorem dX12_extend_131 : decode cX12_extend 131 = .ok (.goto 4, 3) := by decide +kernel
theorem dX12_extend_134 : decode cX12_extend 134 = .ok (.iconst 0, 1) := by decide +kernel
theorem dX12_extend_135 : decode cX12_extend 135 = .ok (.istore 6, 2) := by decide +kernel
theorem dX12_extend_137 : decode cX12_extend 137 = .ok (.aload 4, 2) := by decide +kernel
theorem dX12_extend_139 : decode cX12_extend 139 = .ok (.getfield 80, 3) := by decide +kernel
theorem dX12_extend_142 : decode cX12_extend 142 = .ok (.iload 5, 2) := by decide +kernel
theorem dX12_extend_144 : decode cX12_extend 144 = .ok (.aload_n 3, 1) := by decide +kernel
theorem dX12_extend_145 : decode cX12_extend 145 = .ok (.getfield 80, 3) := by decide +kernel
theorem dX12_extend_148 : decode cX12_extend 148 = .ok (.iload 5, 2) := by decide +kernel
theorem dX12_extend_150 : decode cX12_extend 150 = .ok (.iaload, 1) := by decide +kernel
theorem dX12_extend_151 : decode cX12_extend 151 = .ok (.iastore, 1) := by decide +kernel
theorem dX12_extend_152 : decode cX12_extend 152 = .ok (.aload 4, 2) := by decide +kernel
theorem dX12_extend_154 : decode cX12_extend 154 = .ok (.getfield 80, 3) := by decide +kernel
theorem dX12_extend_157 : decode cX12_extend 157 = .ok (.iload 5, 2) := by decide +kernel
theorem dX12_extend_159 : decode cX12_extend 159 = .ok (.iconst 1, 1) := by decide +kernel
theorem dX12_extend_160 : decode cX12_extend 160 = .ok (.aload_n 3, 1) := by decide +kernel
theorem dX12_extend_161 : decode cX12_extend 161 = .ok (.getfield 60, 3) := by decide +kernel
theorem dX12_extend_164 : decode cX12_extend 164 = .ok (.ishl, 1) := by decide +kernel
theorem dX12_extend_165 : decode cX12_extend 165 = .ok (.ior, 1) := by decide +kernel
theorem dX12_extend_166 : decode cX12_extend 166 = .ok (.aload_n 3, 1) := by decide +kernel
theorem dX12_extend_167 : decode cX12_extend 167 = .ok (.getfield 80, 3) := by decide +kernel
theorem dX12_extend_170 : decode cX12_extend 170 = .ok (.iload 5, 2) := by decide +kernel
theorem dX12_extend_172 : decode cX12_extend 172 = .ok (.iaload, 1) := by decide +kernel
theorem dX12_extend_173 : decode cX12_extend 173 = .ok (.iload 6, 2) := by decide +kernel
theorem dX12_extend_175 : decode cX12_extend 175 = .ok (.ifCond .eq 7, 3) := by decide +kernel
theorem dX12_extend_178 : decode cX12_extend 178 = .ok (.iconst 0, 1) := by decide +kernel
theorem dX12_extend_179 : decode cX12_extend 179 = .ok (.goto 4, 3) := by decide +kernel
theorem dX12_extend_182 : decode cX12_extend 182 = .ok (.iconst 1, 1) := by decide +kernel
theorem dX12_extend_183 : decode cX12_extend 183 = .ok (.iadd, 1) := by decide +kernel
theorem dX12_extend_184 : decode cX12_extend 184 = .ok (.iastore, 1) := by decide +kernel
theorem dX12_extend_185 : decode cX12_extend 185 = .ok (.iinc 5 1, 3) := by decide +kernel
theorem dX12_extend_188 : decode cX12_extend 188 = .ok (.goto (-79), 3) := by decide +kernel
theorem dX12_extend_191 : decode cX12_extend 191 = .ok (.aload_n 0, 1) := by decide +kernel
theorem dX12_extend_192 : decode cX12_extend 192 = .ok (.aload 4, 2) := by decide +kernel
theorem dX12_extend_194 : decode cX12_extend 194 = .ok (.invokevirtual 95, 3) := by decide +kernel
theorem dX12_extend_197 : decode cX12_extend 197 = .ok (.ireturn, 1) := by decide +kernel
theorem dX12_size_0 : decode cX12_size 0 = .ok (.aload_n 0, 1) := by decide +kernel
theorem dX12_size_1 : decode cX12_size 1 = .ok (.iconst 0, 1) := by decide +kernel
theorem dX12_size_2 : decode cX12_size 2 = .ok (.putfield 40, 3) := by decide +kernel
theorem dX12_size_5 : decode cX12_size 5 = .ok (.aload_n 0, 1) := by decide +kernel
theorem dX12_size_6 : decode cX12_size 6 = .ok (.aload_n 0, 1) := by decide +kernel
theorem dX12_size_7 : decode cX12_size 7 = .ok (.iload_n 1, 1) := by decide +kernel
theorem dX12_size_8 : decode cX12_size 8 = .ok (.invokevirtual 52, 3) := by decide +kernel
theorem dX12_size_11 : decode cX12_size 11 = .ok (.iconst 1, 1) := by decide +kernel
theorem dX12_size_12 : decode cX12_size 12 = .ok (.invokevirtual 69, 3) := by decide +kernel
theorem dX12_size_15 : decode cX12_size 15 = .ok (.ifCond .eq 7, 3) := by decide +kernel
theorem dX12_size_18 : decode cX12_size 18 = .ok (.iconst 0, 1) := by decide +kernel
theorem dX12_size_19 : decode cX12_size 19 = .ok (.goto 17, 3) := by decide +kernel
theorem dX12_size_22 : decode cX12_size 22 = .ok (.aload_n 0, 1) := by decide +kernel
theorem dX12_size_23 : decode cX12_size 23 = .ok (.getfield 19, 3) := by decide +kernel
theorem dX12_size_26 : decode cX12_size 26 = .ok (.iload_n 1, 1) := by decide +kernel
theorem dX12_size_27 : decode cX12_size 27 = .ok (.invokevirtual 56, 3) := by decide +kernel
theorem dX12_size_30 : decode cX12_size 30 = .ok (.checkcast 33, 3) := by decide +kernel
theorem dX12_size_33 : decode cX12_size 33 = .ok (.getfield 60, 3) := by decide +kernel
theorem dX12_size_36 : decode cX12_size 36 = .ok (.ireturn, 1) := by decide +kernel
theorem dX12_rank_0 : decode cX12_rank 0 = .ok (.aload_n 0, 1) := by decide +kernel
theorem dX12_rank_1 : decode cX12_rank 1 = .ok (.iconst 0, 1) := by decide +kernel
theorem dX12_rank_2 : decode cX12_rank 2 = .ok (.putfield 40, 3) := by decide +kernel
theorem dX12_rank_5 : decode cX12_rank 5 = .ok (.aload_n 0, 1) := by decide +kernel
theorem dX12_rank_6 : decode cX12_rank 6 = .ok (.aload_n 0, 1) := by decide +kernel
theorem dX12_rank_7 : decode cX12_rank 7 = .ok (.iload_n 1, 1) := by decide +kernel
theorem dX12_rank_8 : decode cX12_rank 8 = .ok (.invokevirtual 52, 3) := by decide +kernel
theorem dX12_rank_11 : decode cX12_rank 11 = .ok (.iconst 1, 1) := by decide +kernel
theorem dX12_rank_12 : decode cX12_rank 12 = .ok (.invokevirtual 69, 3) := by decide +kernel
theorem dX12_rank_15 : decode cX12_rank 15 = .ok (.ifCond .ne 17, 3) := by decide +kernel
theorem dX12_rank_18 : decode cX12_rank 18 = .ok (.aload_n 0, 1) := by decide +kernel
theorem dX12_rank_19 : decode cX12_rank 19 = .ok (.aload_n 0, 1) := by decide +kernel
theorem dX12_rank_20 : decode cX12_rank 20 = .ok (.iload_n 1, 1) := by decide +kernel
theorem dX12_rank_21 : decode cX12_rank 21 = .ok (.iload_n 2, 1) := by decide +kernel
theorem dX12_rank_22 : decode cX12_rank 22 = .ok (.invokevirtual 155, 3) := by decide +kernel
theorem dX12_rank_25 : decode cX12_rank 25 = .ok (.iconst 2, 1) := by decide +kernel
theorem dX12_rank_26 : decode cX12_rank 26 = .ok (.invokevirtual 69, 3) := by decide +kernel
theorem dX12_rank_29 : decode cX12_rank 29 = .ok (.ifCond .eq 7, 3) := by decide +kernel
theorem dX12_rank_32 : decode cX12_rank 32 = .ok (.iconst 0, 1) := by decide +kernel
theorem dX12_rank_33 : decode cX12_rank 33 = .ok (.goto 19, 3) := by decide +kernel
theorem dX12_rank_36 : decode cX12_rank 36 = .ok (.aload_n 0, 1) := by decide +kernel
theorem dX12_rank_37 : decode cX12_rank 37 = .ok (.getfield 19, 3) := by decide +kernel
theorem dX12_rank_40 : decode cX12_rank 40 = .ok (.iload_n 1, 1) := by decide +kernel
theorem dX12_rank_41 : decode cX12_rank 41 = .ok (.invokevirtual 56, 3) := by decide +kernel
theorem dX12_rank_44 : decode cX12_rank 44 = .ok (.checkcast 33, 3) := by decide +kernel
theorem dX12_rank_47 : decode cX12_rank 47 = .ok (.getfield 80, 3) := by decide +kernel
theorem dX12_rank_50 : decode cX12_rank 50 = .ok (.iload_n 2, 1) := by decide +kernel
theorem dX12_rank_51 : decode cX12_rank 51 = .ok (.iaload, 1) := by decide +kernel
theorem dX12_rank_52 : decode cX12_rank 52 = .ok (.ireturn, 1) := by decide +kernel
theorem dX12_closure_0 : decode cX12_closure 0 = .ok (.aload_n 0, 1) := by decide +kernel
theorem dX12_closure_1 : decode cX12_closure 1 = .ok (.iconst 0, 1) := by decide +kernel
theorem dX12_closure_2 : decode cX12_closure 2 = .ok (.putfield 40, 3) := by decide +kernel
theorem dX12_closure_5 : decode cX12_closure 5 = .ok (.aload_n 0, 1) := by decide +kernel
theorem dX12_closure_6 : decode cX12_closure 6 = .ok (.aload_n 0, 1) := by decide +kernel
theorem dX12_closure_7 : decode cX12_closure 7 = .ok (.iload_n 1, 1) := by decide +kernel
theorem dX12_closure_8 : decode cX12_closure 8 = .ok (.invokevirtual 52, 3) := by decide +kernel
theorem dX12_closure_11 : decode cX12_closure 11 = .ok (.iconst 1, 1) := by decide +kernel
theorem dX12_closure_12 : decode cX12_closure 12 = .ok (.invokevirtual 69, 3) := by decide +kernel
theorem dX12_closure_15 : decode cX12_closure 15 = .ok (.ifCond .ne 17, 3) := by decide +kernel
theorem dX12_closure_18 : decode cX12_closure 18 = .ok (.aload_n 0, 1) := by decide +kernel
theorem dX12_closure_19 : decode cX12_closure 19 = .ok (.aload_n 0, 1) := by decide +kernel
theorem dX12_closure_20 : decode cX12_closure 20 = .ok (.iload_n 1, 1) := by decide +kernel
theorem dX12_closure_21 : decode cX12_closure 21 = .ok (.iload_n 2, 1) := by decide +kernel
theorem dX12_closure_22 : decode cX12_closure 22 = .ok (.invokevirtual 155, 3) := by decide +kernel
theorem dX12_closure_25 : decode cX12_closure 25 = .ok (.iconst 2, 1) := by decide +kernel
theorem dX12_closure_26 : decode cX12_closure 26 = .ok (.invokevirtual 69, 3) := by decide +kernel
theorem dX12_closure_29 : decode cX12_closure 29 = .ok (.ifCond .eq 7, 3) := by decide +kernel
theorem dX12_closure_32 : decode cX12_closure 32 = .ok (.iconst 0, 1) := by decide +kernel
theorem dX12_closure_33 : decode cX12_closure 33 = .ok (.goto 18, 3) := by decide +kernel
theorem dX12_closure_36 : decode cX12_closure 36 = .ok (.aload_n 0, 1) := by decide +kernel
theorem dX12_closure_37 : decode cX12_closure 37 = .ok (.getfield 19, 3) := by decide +kernel
theorem dX12_closure_40 : decode cX12_closure 40 = .ok (.iload_n 1, 1) := by decide +kernel
theorem dX12_closure_41 : decode cX12_closure 41 = .ok (.invokevirtual 56, 3) := by decide +kernel
theorem dX12_closure_44 : decode cX12_closure 44 = .ok (.checkcast 33, 3) := by decide +kernel
theorem dX12_closure_47 : decode cX12_closure 47 = .ok (.iload_n 2, 1) := by decide +kernel
theorem dX12_closure_48 : decode cX12_closure 48 = .ok (.invokevirtual 164, 3) := by decide +kernel
theorem dX12_closure_51 : decode cX12_closure 51 = .ok (.ireturn, 1) := by decide +kernel
theorem dX12_many_0 : decode cX12_many 0 = .ok (.iconst 0, 1) := by decide +kernel
theorem dX12_many_1 : decode cX12_many 1 = .ok (.istore_n 2, 1) := by decide +kernel
theorem dX12_many_2 : decode cX12_many 2 = .ok (.iconst 0, 1) := by decide +kernel
theorem dX12_many_3 : decode cX12_many 3 = .ok (.istore_n 3, 1) := by decide +kernel
theorem dX12_many_4 : decode cX12_many 4 = .ok (.iload_n 3, 1) := by decide +kernel
theorem dX12_many_5 : decode cX12_many 5 = .ok (.aload_n 0, 1) := by decide +kernel
theorem dX12_many_6 : decode cX12_many 6 = .ok (.invokevirtual 62, 3) := by decide +kernel
theorem dX12_many_9 : decode cX12_many 9 = .ok (.if_icmp .gt 26, 3) := by decide +kernel
theorem dX12_many_12 : decode cX12_many 12 = .ok (.iload_n 2, 1) := by decide +kernel
theorem dX12_many_13 : decode cX12_many 13 = .ok (.aload_n 0, 1) := by decide +kernel
theorem dX12_many_14 : decode cX12_many 14 = .ok (.iload_n 1, 1) := by decide +kernel
theorem dX12_many_15 : decode cX12_many 15 = .ok (.iload_n 3, 1) := by decide +kernel
theorem dX12_many_16 : decode cX12_many 16 = .ok (.invokevirtual 167, 3) := by decide +kernel
theorem dX12_many_19 : decode cX12_many 19 = .ok (.ifCond .eq 7, 3) := by decide +kernel
theorem dX12_many_22 : decode cX12_many 22 = .ok (.iconst 1, 1) := by decide +kernel
theorem dX12_many_23 : decode cX12_many 23 = .ok (.goto 4, 3) := by decide +kernel
theorem dX12_many_26 : decode cX12_many 26 = .ok (.iconst 0, 1) := by decide +kernel
theorem dX12_many_27 : decode cX12_many 27 = .ok (.iadd, 1) := by decide +kernel
theorem dX12_many_28 : decode cX12_many 28 = .ok (.istore_n 2, 1) := by decide +kernel
theorem dX12_many_29 : decode cX12_many 29 = .ok (.iinc 3 1, 3) := by decide +kernel
theorem dX12_many_32 : decode cX12_many 32 = .ok (.goto (-28), 3) := by decide +kernel
theorem dX12_many_35 : decode cX12_many 35 = .ok (.iload_n 2, 1) := by decide +kernel
theorem dX12_many_36 : decode cX12_many 36 = .ok (.ireturn, 1) := by decide +kernel
theorem dX12_count_0 : decode cX12_count 0 = .ok (.aload_n 0, 1) := by decide +kernel
theorem dX12_count_1 : decode cX12_count 1 = .ok (.iconst 0, 1) := by decide +kernel
theorem dX12_count_2 : decode cX12_count 2 = .ok (.putfield 40, 3) := by decide +kernel
theorem dX12_count_5 : decode cX12_count 5 = .ok (.aload_n 0, 1) := by decide +kernel
theorem dX12_count_6 : decode cX12_count 6 = .ok (.aload_n 0, 1) := by decide +kernel
theorem dX12_count_7 : decode cX12_count 7 = .ok (.iload_n 1, 1) := by decide +kernel
theorem dX12_count_8 : decode cX12_count 8 = .ok (.invokevirtual 52, 3) := by decide +kernel
theorem dX12_count_11 : decode cX12_count 11 = .ok (.iconst 1, 1) := by decide +kernel
theorem dX12_count_12 : decode cX12_count 12 = .ok (.invokevirtual 69, 3) := by decide +kernel
theorem dX12_count_15 : decode cX12_count 15 = .ok (.ifCond .ne 25, 3) := by decide +kernel
theorem dX12_count_18 : decode cX12_count 18 = .ok (.aload_n 0, 1) := by decide +kernel
theorem dX12_count_19 : decode cX12_count 19 = .ok (.ldc 171, 2) := by decide +kernel
theorem dX12_count_21 : decode cX12_count 21 = .ok (.iload_n 2, 1) := by decide +kernel
theorem dX12_count_22 : decode cX12_count 22 = .ok (.invokevirtual 130, 3) := by decide +kernel
theorem dX12_count_25 : decode cX12_count 25 = .ok (.ifCond .ge 7, 3) := by decide +kernel
theorem dX12_count_28 : decode cX12_count 28 = .ok (.iconst 1, 1) := by decide +kernel
theorem dX12_count_29 : decode cX12_count 29 = .ok (.goto 4, 3) := by decide +kernel
theorem dX12_count_32 : decode cX12_count 32 = .ok (.iconst 0, 1) := by decide +kernel
theorem dX12_count_33 : decode cX12_count 33 = .ok (.iconst 2, 1) := by decide +kernel
theorem dX12_count_34 : decode cX12_count 34 = .ok (.invokevirtual 69, 3) := by decide +kernel
theorem dX12_count_37 : decode cX12_count 37 = .ok (.ifCond .eq 7, 3) := by decide +kernel
theorem dX12_count_40 : decode cX12_count 40 = .ok (.iconst 0, 1) := by decide +kernel
theorem dX12_count_41 : decode cX12_count 41 = .ok (.goto 18, 3) := by decide +kernel
theorem dX12_count_44 : decode cX12_count 44 = .ok (.aload_n 0, 1) := by decide +kernel
theorem dX12_count_45 : decode cX12_count 45 = .ok (.getfield 19, 3) := by decide +kernel
theorem dX12_count_48 : decode cX12_count 48 = .ok (.iload_n 1, 1) := by decide +kernel
theorem dX12_count_49 : decode cX12_count 49 = .ok (.invokevirtual 56, 3) := by decide +kernel
theorem dX12_count_52 : decode cX12_count 52 = .ok (.checkcast 33, 3) := by decide +kernel
theorem dX12_count_55 : decode cX12_count 55 = .ok (.iload_n 2, 1) := by decide +kernel
theorem dX12_count_56 : decode cX12_count 56 = .ok (.invokestatic 173, 3) := by decide +kernel
theorem dX12_count_59 : decode cX12_count 59 = .ok (.ireturn, 1) := by decide +kernel
theorem dX12_setAt_0 : decode cX12_setAt 0 = .ok (.aload_n 0, 1) := by decide +kernel
theorem dX12_setAt_1 : decode cX12_setAt 1 = .ok (.iconst 0, 1) := by decide +kernel
theorem dX12_setAt_2 : decode cX12_setAt 2 = .ok (.putfield 40, 3) := by decide +kernel
theorem dX12_setAt_5 : decode cX12_setAt 5 = .ok (.aload_n 0, 1) := by decide +kernel
theorem dX12_setAt_6 : decode cX12_setAt 6 = .ok (.aload_n 0, 1) := by decide +kernel
theorem dX12_setAt_7 : decode cX12_setAt 7 = .ok (.iload_n 1, 1) := by decide +kernel
theorem dX12_setAt_8 : decode cX12_setAt 8 = .ok (.invokevirtual 52, 3) := by decide +kernel
theorem dX12_setAt_11 : decode cX12_setAt 11 = .ok (.iconst 1, 1) := by decide +kernel
theorem dX12_setAt_12 : decode cX12_setAt 12 = .ok (.invokevirtual 69, 3) := by decide +kernel
theorem dX12_setAt_15 : decode cX12_setAt 15 = .ok (.ifCond .ne 25, 3) := by decide +kernel
theorem dX12_setAt_18 : decode cX12_setAt 18 = .ok (.aload_n 0, 1) := by decide +kernel
theorem dX12_setAt_19 : decode cX12_setAt 19 = .ok (.ldc 171, 2) := by decide +kernel
theorem dX12_setAt_21 : decode cX12_setAt 21 = .ok (.iload_n 2, 1) := by decide +kernel
theorem dX12_setAt_22 : decode cX12_setAt 22 = .ok (.invokevirtual 130, 3) := by decide +kernel
theorem dX12_setAt_25 : decode cX12_setAt 25 = .ok (.ifCond .ge 7, 3) := by decide +kernel
theorem dX12_setAt_28 : decode cX12_setAt 28 = .ok (.iconst 1, 1) := by decide +kernel
theorem dX12_setAt_29 : decode cX12_setAt 29 = .ok (.goto 4, 3) := by decide +kernel
theorem dX12_setAt_32 : decode cX12_setAt 32 = .ok (.iconst 0, 1) := by decide +kernel
theorem dX12_setAt_33 : decode cX12_setAt 33 = .ok (.iconst 2, 1) := by decide +kernel
theorem dX12_setAt_34 : decode cX12_setAt 34 = .ok (.invokevirtual 69, 3) := by decide +kernel
theorem dX12_setAt_37 : decode cX12_setAt 37 = .ok (.ifCond .eq 5, 3) := by decide +kernel
theorem dX12_setAt_40 : decode cX12_setAt 40 = .ok (.iconst 0, 1) := by decide +kernel
theorem dX12_setAt_41 : decode cX12_setAt 41 = .ok (.ireturn, 1) := by decide +kernel
theorem dX12_setAt_42 : decode cX12_setAt 42 = .ok (.aload_n 0, 1) := by decide +kernel
theorem dX12_setAt_43 : decode cX12_setAt 43 = .ok (.getfield 19, 3) := by decide +kernel
theorem dX12_setAt_46 : decode cX12_setAt 46 = .ok (.iload_n 1, 1) := by decide +kernel
theorem dX12_setAt_47 : decode cX12_setAt 47 = .ok (.invokevirtual 56, 3) := by decide +kernel
theorem dX12_setAt_50 : decode cX12_setAt 50 = .ok (.checkcast 33, 3) := by decide +kernel
theorem dX12_setAt_53 : decode cX12_setAt 53 = .ok (.astore 4, 2) := by decide +kernel
theorem dX12_setAt_55 : decode cX12_setAt 55 = .ok (.iload_n 3, 1) := by decide +kernel
theorem dX12_setAt_56 : decode cX12_setAt 56 = .ok (.istore 5, 2) := by decide +kernel
theorem dX12_setAt_58 : decode cX12_setAt 58 = .ok (.iconst 0, 1) := by decide +kernel
theorem dX12_setAt_59 : decode cX12_setAt 59 = .ok (.istore 6, 2) := by decide +kernel
theorem dX12_setAt_61 : decode cX12_setAt 61 = .ok (.iload 6, 2) := by decide +kernel
theorem dX12_setAt_63 : decode cX12_setAt 63 = .ok (.aload 4, 2) := by decide +kernel
theorem dX12_setAt_65 : decode cX12_setAt 65 = .ok (.invokevirtual 62, 3) := by decide +kernel
theorem dX12_setAt_68 : decode cX12_setAt 68 = .ok (.if_icmp .gt 35, 3) := by decide +kernel
theorem dX12_setAt_71 : decode cX12_setAt 71 = .ok (.iload_n 3, 1) := by decide +kernel
theorem dX12_setAt_72 : decode cX12_setAt 72 = .ok (.ifCond .lt 31, 3) := by decide +kernel
theorem dX12_setAt_75 : decode cX12_setAt 75 = .ok (.aload 4, 2) := by decide +kernel
theorem dX12_setAt_77 : decode cX12_setAt 77 = .ok (.iload_n 2, 1) := by decide +kernel
theorem dX12_setAt_78 : decode cX12_setAt 78 = .ok (.iload 6, 2) := by decide +kernel
theorem dX12_setAt_80 : decode cX12_setAt 80 = .ok (.invokevirtual 167, 3) := by decide +kernel
theorem dX12_setAt_83 : decode cX12_setAt 83 = .ok (.ifCond .eq 14, 3) := by decide +kernel
theorem dX12_setAt_86 : decode cX12_setAt 86 = .ok (.iload 5, 2) := by decide +kernel
theorem dX12_setAt_88 : decode cX12_setAt 88 = .ok (.ifCond .ne 6, 3) := by decide +kernel
theorem dX12_setAt_91 : decode cX12_setAt 91 = .ok (.iload 6, 2) := by decide +kernel
theorem dX12_setAt_93 : decode cX12_setAt 93 = .ok (.ireturn, 1) := by decide +kernel
theorem dX12_setAt_94 : decode cX12_setAt 94 = .ok (.iinc 5 (-1), 3) := by decide +kernel
theorem dX12_setAt_97 : decode cX12_setAt 97 = .ok (.iinc 6 1, 3) := by decide +kernel
theorem dX12_setAt_100 : decode cX12_setAt 100 = .ok (.goto (-39), 3) := by decide +kernel
theorem dX12_setAt_103 : decode cX12_setAt 103 = .ok (.aload_n 0, 1) := by decide +kernel
theorem dX12_setAt_104 : decode cX12_setAt 104 = .ok (.iconst 3, 1) := by decide +kernel
theorem dX12_setAt_105 : decode cX12_setAt 105 = .ok (.putfield 40, 3) := by decide +kernel
theorem dX12_setAt_108 : decode cX12_setAt 108 = .ok (.iconst 0, 1) := by decide +kernel
theorem dX12_setAt_109 : decode cX12_setAt 109 = .ok (.ireturn, 1) := by decide +kernel
theorem dX12_circuitWith_0 : decode cX12_circuitWith 0 = .ok (.aload_n 0, 1) := by decide +kernel
theorem dX12_circuitWith_1 : decode cX12_circuitWith 1 = .ok (.iconst 0, 1) := by decide +kernel
theorem dX12_circuitWith_2 : decode cX12_circuitWith 2 = .ok (.putfield 40, 3) := by decide +kernel
theorem dX12_circuitWith_5 : decode cX12_circuitWith 5 = .ok (.aload_n 0, 1) := by decide +kernel
theorem dX12_circuitWith_6 : decode cX12_circuitWith 6 = .ok (.aload_n 0, 1) := by decide +kernel
theorem dX12_circuitWith_7 : decode cX12_circuitWith 7 = .ok (.iload_n 1, 1) := by decide +kernel
theorem dX12_circuitWith_8 : decode cX12_circuitWith 8 = .ok (.iload_n 3, 1) := by decide +kernel
theorem dX12_circuitWith_9 : decode cX12_circuitWith 9 = .ok (.invokevirtual 138, 3) := by decide +kernel
theorem dX12_circuitWith_12 : decode cX12_circuitWith 12 = .ok (.iconst 1, 1) := by decide +kernel
theorem dX12_circuitWith_13 : decode cX12_circuitWith 13 = .ok (.invokevirtual 69, 3) := by decide +kernel
theorem dX12_circuitWith_16 : decode cX12_circuitWith 16 = .ok (.ifCond .eq 5, 3) := by decide +kernel
theorem dX12_circuitWith_19 : decode cX12_circuitWith 19 = .ok (.iconst 0, 1) := by decide +kernel
theorem dX12_circuitWith_20 : decode cX12_circuitWith 20 = .ok (.ireturn, 1) := by decide +kernel
theorem dX12_circuitWith_21 : decode cX12_circuitWith 21 = .ok (.aload_n 0, 1) := by decide +kernel
theorem dX12_circuitWith_22 : decode cX12_circuitWith 22 = .ok (.getfield 19, 3) := by decide +kernel
theorem dX12_circuitWith_25 : decode cX12_circuitWith 25 = .ok (.iload_n 1, 1) := by decide +kernel
theorem dX12_circuitWith_26 : decode cX12_circuitWith 26 = .ok (.invokevirtual 56, 3) := by decide +kernel
theorem dX12_circuitWith_29 : decode cX12_circuitWith 29 = .ok (.checkcast 33, 3) := by decide +kernel
theorem dX12_circuitWith_32 : decode cX12_circuitWith 32 = .ok (.astore 4, 2) := by decide +kernel
theorem dX12_circuitWith_34 : decode cX12_circuitWith 34 = .ok (.aload_n 0, 1) := by decide +kernel
theorem dX12_circuitWith_35 : decode cX12_circuitWith 35 = .ok (.aload_n 0, 1) := by decide +kernel
theorem dX12_circuitWith_36 : decode cX12_circuitWith 36 = .ok (.iload_n 1, 1) := by decide +kernel
theorem dX12_circuitWith_37 : decode cX12_circuitWith 37 = .ok (.iload_n 2, 1) := by decide +kernel
theorem dX12_circuitWith_38 : decode cX12_circuitWith 38 = .ok (.invokevirtual 155, 3) := by decide +kernel
theorem dX12_circuitWith_41 : decode cX12_circuitWith 41 = .ok (.ifCond .ne 12, 3) := by decide +kernel
theorem dX12_circuitWith_44 : decode cX12_circuitWith 44 = .ok (.aload 4, 2) := by decide +kernel
theorem dX12_circuitWith_46 : decode cX12_circuitWith 46 = .ok (.iload_n 2, 1) := by decide +kernel
theorem dX12_circuitWith_47 : decode cX12_circuitWith 47 = .ok (.invokevirtual 177, 3) := by decide +kernel
theorem dX12_circuitWith_50 : decode cX12_circuitWith 50 = .ok (.ifCond .ne 7, 3) := by decide +kernel
theorem dX12_circuitWith_53 : decode cX12_circuitWith 53 = .ok (.iconst 1, 1) := by decide +kernel
theorem dX12_circuitWith_54 : decode cX12_circuitWith 54 = .ok (.goto 4, 3) := by decide +kernel
theorem dX12_circuitWith_57 : decode cX12_circuitWith 57 = .ok (.iconst 0, 1) := by decide +kernel
theorem dX12_circuitWith_58 : decode cX12_circuitWith 58 = .ok (.iconst 2, 1) := by decide +kernel
theorem dX12_circuitWith_59 : decode cX12_circuitWith 59 = .ok (.invokevirtual 69, 3) := by decide +kernel
theorem dX12_circuitWith_62 : decode cX12_circuitWith 62 = .ok (.ifCond .ne 25, 3) := by decide +kernel
theorem dX12_circuitWith_65 : decode cX12_circuitWith 65 = .ok (.aload_n 0, 1) := by decide +kernel
theorem dX12_circuitWith_66 : decode cX12_circuitWith 66 = .ok (.iload_n 2, 1) := by decide +kernel
theorem dX12_circuitWith_67 : decode cX12_circuitWith 67 = .ok (.iload_n 3, 1) := by decide +kernel
theorem dX12_circuitWith_68 : decode cX12_circuitWith 68 = .ok (.ishr, 1) := by decide +kernel
theorem dX12_circuitWith_69 : decode cX12_circuitWith 69 = .ok (.iconst 1, 1) := by decide +kernel
theorem dX12_circuitWith_70 : decode cX12_circuitWith 70 = .ok (.iand, 1) := by decide +kernel
theorem dX12_circuitWith_71 : decode cX12_circuitWith 71 = .ok (.iconst 1, 1) := by decide +kernel
theorem dX12_circuitWith_72 : decode cX12_circuitWith 72 = .ok (.if_icmp .ne 7, 3) := by decide +kernel
theorem dX12_circuitWith_75 : decode cX12_circuitWith 75 = .ok (.iconst 1, 1) := by decide +kernel
theorem dX12_circuitWith_76 : decode cX12_circuitWith 76 = .ok (.goto 4, 3) := by decide +kernel
theorem dX12_circuitWith_79 : decode cX12_circuitWith 79 = .ok (.iconst 0, 1) := by decide +kernel
theorem dX12_circuitWith_80 : decode cX12_circuitWith 80 = .ok (.iconst 3, 1) := by decide +kernel
theorem dX12_circuitWith_81 : decode cX12_circuitWith 81 = .ok (.invokevirtual 69, 3) := by decide +kernel
theorem dX12_circuitWith_84 : decode cX12_circuitWith 84 = .ok (.ifCond .eq 5, 3) := by decide +kernel
theorem dX12_circuitWith_87 : decode cX12_circuitWith 87 = .ok (.iconst 0, 1) := by decide +kernel
theorem dX12_circuitWith_88 : decode cX12_circuitWith 88 = .ok (.ireturn, 1) := by decide +kernel
theorem dX12_circuitWith_89 : decode cX12_circuitWith 89 = .ok (.iconst 1, 1) := by decide +kernel
theorem dX12_circuitWith_90 : decode cX12_circuitWith 90 = .ok (.iload_n 3, 1) := by decide +kernel
theorem dX12_circuitWith_91 : decode cX12_circuitWith 91 = .ok (.ishl, 1) := by decide +kernel
theorem dX12_circuitWith_92 : decode cX12_circuitWith 92 = .ok (.istore 5, 2) := by decide +kernel
theorem dX12_circuitWith_94 : decode cX12_circuitWith 94 = .ok (.iconst 0, 1) := by decide +kernel
theorem dX12_circuitWith_95 : decode cX12_circuitWith 95 = .ok (.istore 6, 2) := by decide +kernel
theorem dX12_circuitWith_97 : decode cX12_circuitWith 97 = .ok (.iload 6, 2) := by decide +kernel
theorem dX12_circuitWith_99 : decode cX12_circuitWith 99 = .ok (.aload 4, 2) := by decide +kernel
theorem dX12_circuitWith_101 : decode cX12_circuitWith 101 = .ok (.getfield 60, 3) := by decide +kernel
theorem dX12_circuitWith_104 : decode cX12_circuitWith 104 = .ok (.if_icmp .ge 52, 3) := by decide +kernel
theorem dX12_circuitWith_107 : decode cX12_circuitWith 107 = .ok (.iload 5, 2) := by decide +kernel
theorem dX12_circuitWith_109 : decode cX12_circuitWith 109 = .ok (.iload_n 2, 1) := by decide +kernel
theorem dX12_circuitWith_110 : decode cX12_circuitWith 110 = .ok (.iload 6, 2) := by decide +kernel
theorem dX12_circuitWith_112 : decode cX12_circuitWith 112 = .ok (.ishr, 1) := by decide +kernel
theorem dX12_circuitWith_113 : decode cX12_circuitWith 113 = .ok (.iconst 1, 1) := by decide +kernel
theorem dX12_circuitWith_114 : decode cX12_circuitWith 114 = .ok (.iand, 1) := by decide +kernel
theorem dX12_circuitWith_115 : decode cX12_circuitWith 115 = .ok (.iconst 1, 1) := by decide +kernel
theorem dX12_circuitWith_116 : decode cX12_circuitWith 116 = .ok (.if_icmp .ne 30, 3) := by decide +kernel
theorem dX12_circuitWith_119 : decode cX12_circuitWith 119 = .ok (.aload 4, 2) := by decide +kernel
theorem dX12_circuitWith_121 : decode cX12_circuitWith 121 = .ok (.iload_n 2, 1) := by decide +kernel
theorem dX12_circuitWith_122 : decode cX12_circuitWith 122 = .ok (.iconst 1, 1) := by decide +kernel
theorem dX12_circuitWith_123 : decode cX12_circuitWith 123 = .ok (.iload 6, 2) := by decide +kernel
theorem dX12_circuitWith_125 : decode cX12_circuitWith 125 = .ok (.ishl, 1) := by decide +kernel
theorem dX12_circuitWith_126 : decode cX12_circuitWith 126 = .ok (.iconst (-1), 1) := by decide +kernel
theorem dX12_circuitWith_127 : decode cX12_circuitWith 127 = .ok (.ixor, 1) := by decide +kernel
theorem dX12_circuitWith_128 : decode cX12_circuitWith 128 = .ok (.iand, 1) := by decide +kernel
theorem dX12_circuitWith_129 : decode cX12_circuitWith 129 = .ok (.iconst 1, 1) := by decide +kernel
theorem dX12_circuitWith_130 : decode cX12_circuitWith 130 = .ok (.iload_n 3, 1) := by decide +kernel
theorem dX12_circuitWith_131 : decode cX12_circuitWith 131 = .ok (.ishl, 1) := by decide +kernel
theorem dX12_circuitWith_132 : decode cX12_circuitWith 132 = .ok (.ior, 1) := by decide +kernel
theorem dX12_circuitWith_133 : decode cX12_circuitWith 133 = .ok (.invokevirtual 177, 3) := by decide +kernel
theorem dX12_circuitWith_136 : decode cX12_circuitWith 136 = .ok (.ifCond .eq 10, 3) := by decide +kernel
theorem dX12_circuitWith_139 : decode cX12_circuitWith 139 = .ok (.iconst 1, 1) := by decide +kernel
theorem dX12_circuitWith_140 : decode cX12_circuitWith 140 = .ok (.iload 6, 2) := by decide +kernel
theorem dX12_circuitWith_142 : decode cX12_circuitWith 142 = .ok (.ishl, 1) := by decide +kernel
theorem dX12_circuitWith_143 : decode cX12_circuitWith 143 = .ok (.goto 4, 3) := by decide +kernel
theorem dX12_circuitWith_146 : decode cX12_circuitWith 146 = .ok (.iconst 0, 1) := by decide +kernel
theorem dX12_circuitWith_147 : decode cX12_circuitWith 147 = .ok (.ior, 1) := by decide +kernel
theorem dX12_circuitWith_148 : decode cX12_circuitWith 148 = .ok (.istore 5, 2) := by decide +kernel
theorem dX12_circuitWith_150 : decode cX12_circuitWith 150 = .ok (.iinc 6 1, 3) := by decide +kernel
theorem dX12_circuitWith_153 : decode cX12_circuitWith 153 = .ok (.goto (-56), 3) := by decide +kernel
theorem dX12_circuitWith_156 : decode cX12_circuitWith 156 = .ok (.iload 5, 2) := by decide +kernel
theorem dX12_circuitWith_158 : decode cX12_circuitWith 158 = .ok (.ireturn, 1) := by decide +kernel
theorem dX12_component_0 : decode cX12_component 0 = .ok (.aload_n 0, 1) := by decide +kernel
theorem dX12_component_1 : decode cX12_component 1 = .ok (.iconst 0, 1) := by decide +kernel
theorem dX12_component_2 : decode cX12_component 2 = .ok (.putfield 40, 3) := by decide +kernel
theorem dX12_component_5 : decode cX12_component 5 = .ok (.aload_n 0, 1) := by decide +kernel
theorem dX12_component_6 : decode cX12_component 6 = .ok (.aload_n 0, 1) := by decide +kernel
theorem dX12_component_7 : decode cX12_component 7 = .ok (.iload_n 1, 1) := by decide +kernel
theorem dX12_component_8 : decode cX12_component 8 = .ok (.iload_n 2, 1) := by decide +kernel
theorem dX12_component_9 : decode cX12_component 9 = .ok (.invokevirtual 138, 3) := by decide +kernel
theorem dX12_component_12 : decode cX12_component 12 = .ok (.iconst 1, 1) := by decide +kernel
theorem dX12_component_13 : decode cX12_component 13 = .ok (.invokevirtual 69, 3) := by decide +kernel
theorem dX12_component_16 : decode cX12_component 16 = .ok (.ifCond .eq 5, 3) := by decide +kernel
theorem dX12_component_19 : decode cX12_component 19 = .ok (.iconst 0, 1) := by decide +kernel
theorem dX12_component_20 : decode cX12_component 20 = .ok (.ireturn, 1) := by decide +kernel
theorem dX12_component_21 : decode cX12_component 21 = .ok (.aload_n 0, 1) := by decide +kernel
theorem dX12_component_22 : decode cX12_component 22 = .ok (.getfield 19, 3) := by decide +kernel
theorem dX12_component_25 : decode cX12_component 25 = .ok (.iload_n 1, 1) := by decide +kernel
theorem dX12_component_26 : decode cX12_component 26 = .ok (.invokevirtual 56, 3) := by decide +kernel
theorem dX12_component_29 : decode cX12_component 29 = .ok (.checkcast 33, 3) := by decide +kernel
theorem dX12_component_32 : decode cX12_component 32 = .ok (.astore_n 3, 1) := by decide +kernel
theorem dX12_component_33 : decode cX12_component 33 = .ok (.iload_n 2, 1) := by decide +kernel
theorem dX12_component_34 : decode cX12_component 34 = .ok (.istore 4, 2) := by decide +kernel
theorem dX12_component_36 : decode cX12_component 36 = .ok (.iconst 0, 1) := by decide +kernel
theorem dX12_component_37 : decode cX12_component 37 = .ok (.istore 5, 2) := by decide +kernel
theorem dX12_component_39 : decode cX12_component 39 = .ok (.iload 5, 2) := by decide +kernel
theorem dX12_component_41 : decode cX12_component 41 = .ok (.aload_n 3, 1) := by decide +kernel
theorem dX12_component_42 : decode cX12_component 42 = .ok (.invokevirtual 62, 3) := by decide +kernel
theorem dX12_component_45 : decode cX12_component 45 = .ok (.if_icmp .gt 40, 3) := by decide +kernel
theorem dX12_component_48 : decode cX12_component 48 = .ok (.iload 5, 2) := by decide +kernel
theorem dX12_component_50 : decode cX12_component 50 = .ok (.iload_n 2, 1) := by decide +kernel
theorem dX12_component_51 : decode cX12_component 51 = .ok (.ishr, 1) := by decide +kernel
theorem dX12_component_52 : decode cX12_component 52 = .ok (.iconst 1, 1) := by decide +kernel
theorem dX12_component_53 : decode cX12_component 53 = .ok (.iand, 1) := by decide +kernel
theorem dX12_component_54 : decode cX12_component 54 = .ok (.iconst 1, 1) := by decide +kernel
theorem dX12_component_55 : decode cX12_component 55 = .ok (.if_icmp .ne 24, 3) := by decide +kernel
theorem dX12_component_58 : decode cX12_component 58 = .ok (.aload_n 3, 1) := by decide +kernel
theorem dX12_component_59 : decode cX12_component 59 = .ok (.iload 5, 2) := by decide +kernel
theorem dX12_component_61 : decode cX12_component 61 = .ok (.invokevirtual 158, 3) := by decide +kernel
theorem dX12_component_64 : decode cX12_component 64 = .ok (.ifCond .eq 15, 3) := by decide +kernel
theorem dX12_component_67 : decode cX12_component 67 = .ok (.iload 4, 2) := by decide +kernel
theorem dX12_component_69 : decode cX12_component 69 = .ok (.iload 5, 2) := by decide +kernel
theorem dX12_component_71 : decode cX12_component 71 = .ok (.invokestatic 180, 3) := by decide +kernel
theorem dX12_component_74 : decode cX12_component 74 = .ok (.invokestatic 89, 3) := by decide +kernel
theorem dX12_component_77 : decode cX12_component 77 = .ok (.istore 4, 2) := by decide +kernel
theorem dX12_component_79 : decode cX12_component 79 = .ok (.iinc 5 1, 3) := by decide +kernel
theorem dX12_component_82 : decode cX12_component 82 = .ok (.goto (-43), 3) := by decide +kernel
theorem dX12_component_85 : decode cX12_component 85 = .ok (.iload 4, 2) := by decide +kernel
theorem dX12_component_87 : decode cX12_component 87 = .ok (.ireturn, 1) := by decide +kernel
theorem dX12_fits_0 : decode cX12_fits 0 = .ok (.iconst 0, 1) := by decide +kernel
theorem dX12_fits_1 : decode cX12_fits 1 = .ok (.istore 4, 2) := by decide +kernel
theorem dX12_fits_3 : decode cX12_fits 3 = .ok (.iload 4, 2) := by decide +kernel
theorem dX12_fits_5 : decode cX12_fits 5 = .ok (.iconst 1, 1) := by decide +kernel
theorem dX12_fits_6 : decode cX12_fits 6 = .ok (.iload_n 3, 1) := by decide +kernel
theorem dX12_fits_7 : decode cX12_fits 7 = .ok (.iconst 1, 1) := by decide +kernel
theorem dX12_fits_8 : decode cX12_fits 8 = .ok (.isub, 1) := by decide +kernel
theorem dX12_fits_9 : decode cX12_fits 9 = .ok (.ishl, 1) := by decide +kernel
theorem dX12_fits_10 : decode cX12_fits 10 = .ok (.if_icmp .ge 86, 3) := by decide +kernel
theorem dX12_fits_13 : decode cX12_fits 13 = .ok (.iconst 1, 1) := by decide +kernel
theorem dX12_fits_14 : decode cX12_fits 14 = .ok (.aload_n 2, 1) := by decide +kernel
theorem dX12_fits_15 : decode cX12_fits 15 = .ok (.iload_n 3, 1) := by decide +kernel
theorem dX12_fits_16 : decode cX12_fits 16 = .ok (.iconst 1, 1) := by decide +kernel
theorem dX12_fits_17 : decode cX12_fits 17 = .ok (.isub, 1) := by decide +kernel
theorem dX12_fits_18 : decode cX12_fits 18 = .ok (.iaload, 1) := by decide +kernel
theorem dX12_fits_19 : decode cX12_fits 19 = .ok (.ishl, 1) := by decide +kernel
theorem dX12_fits_20 : decode cX12_fits 20 = .ok (.istore 5, 2) := by decide +kernel
theorem dX12_fits_22 : decode cX12_fits 22 = .ok (.iconst 0, 1) := by decide +kernel
theorem dX12_fits_23 : decode cX12_fits 23 = .ok (.istore 6, 2) := by decide +kernel
theorem dX12_fits_25 : decode cX12_fits 25 = .ok (.iload 6, 2) := by decide +kernel
theorem dX12_fits_27 : decode cX12_fits 27 = .ok (.iload_n 3, 1) := by decide +kernel
theorem dX12_fits_28 : decode cX12_fits 28 = .ok (.iconst 1, 1) := by decide +kernel
theorem dX12_fits_29 : decode cX12_fits 29 = .ok (.isub, 1) := by decide +kernel
theorem dX12_fits_30 : decode cX12_fits 30 = .ok (.if_icmp .ge 35, 3) := by decide +kernel
theorem dX12_fits_33 : decode cX12_fits 33 = .ok (.iload 5, 2) := by decide +kernel
theorem dX12_fits_35 : decode cX12_fits 35 = .ok (.iload 4, 2) := by decide +kernel
theorem dX12_fits_37 : decode cX12_fits 37 = .ok (.iload 6, 2) := by decide +kernel
theorem dX12_fits_39 : decode cX12_fits 39 = .ok (.ishr, 1) := by decide +kernel
theorem dX12_fits_40 : decode cX12_fits 40 = .ok (.iconst 1, 1) := by decide +kernel
theorem dX12_fits_41 : decode cX12_fits 41 = .ok (.iand, 1) := by decide +kernel
theorem dX12_fits_42 : decode cX12_fits 42 = .ok (.iconst 1, 1) := by decide +kernel
theorem dX12_fits_43 : decode cX12_fits 43 = .ok (.if_icmp .ne 12, 3) := by decide +kernel
theorem dX12_fits_46 : decode cX12_fits 46 = .ok (.iconst 1, 1) := by decide +kernel
theorem dX12_fits_47 : decode cX12_fits 47 = .ok (.aload_n 2, 1) := by decide +kernel
theorem dX12_fits_48 : decode cX12_fits 48 = .ok (.iload 6, 2) := by decide +kernel
theorem dX12_fits_50 : decode cX12_fits 50 = .ok (.iaload, 1) := by decide +kernel
theorem dX12_fits_51 : decode cX12_fits 51 = .ok (.ishl, 1) := by decide +kernel
theorem dX12_fits_52 : decode cX12_fits 52 = .ok (.goto 4, 3) := by decide +kernel
theorem dX12_fits_55 : decode cX12_fits 55 = .ok (.iconst 0, 1) := by decide +kernel
theorem dX12_fits_56 : decode cX12_fits 56 = .ok (.ior, 1) := by decide +kernel
theorem dX12_fits_57 : decode cX12_fits 57 = .ok (.istore 5, 2) := by decide +kernel
theorem dX12_fits_59 : decode cX12_fits 59 = .ok (.iinc 6 1, 3) := by decide +kernel
theorem dX12_fits_62 : decode cX12_fits 62 = .ok (.goto (-37), 3) := by decide +kernel
theorem dX12_fits_65 : decode cX12_fits 65 = .ok (.aload_n 0, 1) := by decide +kernel
theorem dX12_fits_66 : decode cX12_fits 66 = .ok (.getfield 80, 3) := by decide +kernel
theorem dX12_fits_69 : decode cX12_fits 69 = .ok (.iload 4, 2) := by decide +kernel
theorem dX12_fits_71 : decode cX12_fits 71 = .ok (.iconst 1, 1) := by decide +kernel
theorem dX12_fits_72 : decode cX12_fits 72 = .ok (.iload_n 3, 1) := by decide +kernel
theorem dX12_fits_73 : decode cX12_fits 73 = .ok (.iconst 1, 1) := by decide +kernel
theorem dX12_fits_74 : decode cX12_fits 74 = .ok (.isub, 1) := by decide +kernel
theorem dX12_fits_75 : decode cX12_fits 75 = .ok (.ishl, 1) := by decide +kernel
theorem dX12_fits_76 : decode cX12_fits 76 = .ok (.ior, 1) := by decide +kernel
theorem dX12_fits_77 : decode cX12_fits 77 = .ok (.iaload, 1) := by decide +kernel
theorem dX12_fits_78 : decode cX12_fits 78 = .ok (.aload_n 1, 1) := by decide +kernel
theorem dX12_fits_79 : decode cX12_fits 79 = .ok (.getfield 80, 3) := by decide +kernel
theorem dX12_fits_82 : decode cX12_fits 82 = .ok (.iload 5, 2) := by decide +kernel
theorem dX12_fits_84 : decode cX12_fits 84 = .ok (.iaload, 1) := by decide +kernel
theorem dX12_fits_85 : decode cX12_fits 85 = .ok (.if_icmp .eq 5, 3) := by decide +kernel
theorem dX12_fits_88 : decode cX12_fits 88 = .ok (.iconst 0, 1) := by decide +kernel
theorem dX12_fits_89 : decode cX12_fits 89 = .ok (.ireturn, 1) := by decide +kernel
theorem dX12_fits_90 : decode cX12_fits 90 = .ok (.iinc 4 1, 3) := by decide +kernel
theorem dX12_fits_93 : decode cX12_fits 93 = .ok (.goto (-90), 3) := by decide +kernel
theorem dX12_fits_96 : decode cX12_fits 96 = .ok (.iconst 1, 1) := by decide +kernel
theorem dX12_fits_97 : decode cX12_fits 97 = .ok (.ireturn, 1) := by decide +kernel
theorem dX12_goesOn_0 : decode cX12_goesOn 0 = .ok (.iload_n 3, 1) := by decide +kernel
theorem dX12_goesOn_1 : decode cX12_goesOn 1 = .ok (.aload_n 0, 1) := by decide +kernel
theorem dX12_goesOn_2 : decode cX12_goesOn 2 = .ok (.getfield 60, 3) := by decide +kernel
theorem dX12_goesOn_5 : decode cX12_goesOn 5 = .ok (.if_icmp .ne 5, 3) := by decide +kernel
theorem dX12_goesOn_8 : decode cX12_goesOn 8 = .ok (.iconst 1, 1) := by decide +kernel
theorem dX12_goesOn_9 : decode cX12_goesOn 9 = .ok (.ireturn, 1) := by decide +kernel
theorem dX12_goesOn_10 : decode cX12_goesOn 10 = .ok (.iconst 0, 1) := by decide +kernel
theorem dX12_goesOn_11 : decode cX12_goesOn 11 = .ok (.istore 5, 2) := by decide +kernel
theorem dX12_goesOn_13 : decode cX12_goesOn 13 = .ok (.iload 5, 2) := by decide +kernel
theorem dX12_goesOn_15 : decode cX12_goesOn 15 = .ok (.aload_n 0, 1) := by decide +kernel
theorem dX12_goesOn_16 : decode cX12_goesOn 16 = .ok (.getfield 60, 3) := by decide +kernel
theorem dX12_goesOn_19 : decode cX12_goesOn 19 = .ok (.if_icmp .ge 57, 3) := by decide +kernel
theorem dX12_goesOn_22 : decode cX12_goesOn 22 = .ok (.aload_n 2, 1) := by decide +kernel
theorem dX12_goesOn_23 : decode cX12_goesOn 23 = .ok (.iload_n 3, 1) := by decide +kernel
theorem dX12_goesOn_24 : decode cX12_goesOn 24 = .ok (.iload 5, 2) := by decide +kernel
theorem dX12_goesOn_26 : decode cX12_goesOn 26 = .ok (.iastore, 1) := by decide +kernel
theorem dX12_goesOn_27 : decode cX12_goesOn 27 = .ok (.iload 4, 2) := by decide +kernel
theorem dX12_goesOn_29 : decode cX12_goesOn 29 = .ok (.iload 5, 2) := by decide +kernel
theorem dX12_goesOn_31 : decode cX12_goesOn 31 = .ok (.ishr, 1) := by decide +kernel
theorem dX12_goesOn_32 : decode cX12_goesOn 32 = .ok (.iconst 1, 1) := by decide +kernel
theorem dX12_goesOn_33 : decode cX12_goesOn 33 = .ok (.iand, 1) := by decide +kernel
theorem dX12_goesOn_34 : decode cX12_goesOn 34 = .ok (.ifCond .ne 36, 3) := by decide +kernel
theorem dX12_goesOn_37 : decode cX12_goesOn 37 = .ok (.aload_n 0, 1) := by decide +kernel
theorem dX12_goesOn_38 : decode cX12_goesOn 38 = .ok (.aload_n 1, 1) := by decide +kernel
theorem dX12_goesOn_39 : decode cX12_goesOn 39 = .ok (.aload_n 2, 1) := by decide +kernel
theorem dX12_goesOn_40 : decode cX12_goesOn 40 = .ok (.iload_n 3, 1) := by decide +kernel
theorem dX12_goesOn_41 : decode cX12_goesOn 41 = .ok (.iconst 1, 1) := by decide +kernel
theorem dX12_goesOn_42 : decode cX12_goesOn 42 = .ok (.iadd, 1) := by decide +kernel
theorem dX12_goesOn_43 : decode cX12_goesOn 43 = .ok (.invokestatic 183, 3) := by decide +kernel
theorem dX12_goesOn_46 : decode cX12_goesOn 46 = .ok (.ifCond .eq 24, 3) := by decide +kernel
theorem dX12_goesOn_49 : decode cX12_goesOn 49 = .ok (.aload_n 0, 1) := by decide +kernel
theorem dX12_goesOn_50 : decode cX12_goesOn 50 = .ok (.aload_n 1, 1) := by decide +kernel
theorem dX12_goesOn_51 : decode cX12_goesOn 51 = .ok (.aload_n 2, 1) := by decide +kernel
theorem dX12_goesOn_52 : decode cX12_goesOn 52 = .ok (.iload_n 3, 1) := by decide +kernel
theorem dX12_goesOn_53 : decode cX12_goesOn 53 = .ok (.iconst 1, 1) := by decide +kernel
theorem dX12_goesOn_54 : decode cX12_goesOn 54 = .ok (.iadd, 1) := by decide +kernel
theorem dX12_goesOn_55 : decode cX12_goesOn 55 = .ok (.iload 4, 2) := by decide +kernel
theorem dX12_goesOn_57 : decode cX12_goesOn 57 = .ok (.iconst 1, 1) := by decide +kernel
theorem dX12_goesOn_58 : decode cX12_goesOn 58 = .ok (.iload 5, 2) := by decide +kernel
theorem dX12_goesOn_60 : decode cX12_goesOn 60 = .ok (.ishl, 1) := by decide +kernel
theorem dX12_goesOn_61 : decode cX12_goesOn 61 = .ok (.ior, 1) := by decide +kernel
theorem dX12_goesOn_62 : decode cX12_goesOn 62 = .ok (.invokestatic 187, 3) := by decide +kernel
theorem dX12_goesOn_65 : decode cX12_goesOn 65 = .ok (.ifCond .eq 5, 3) := by decide +kernel
theorem dX12_goesOn_68 : decode cX12_goesOn 68 = .ok (.iconst 1, 1) := by decide +kernel
theorem dX12_goesOn_69 : decode cX12_goesOn 69 = .ok (.ireturn, 1) := by decide +kernel
theorem dX12_goesOn_70 : decode cX12_goesOn 70 = .ok (.iinc 5 1, 3) := by decide +kernel
theorem dX12_goesOn_73 : decode cX12_goesOn 73 = .ok (.goto (-60), 3) := by decide +kernel
theorem dX12_goesOn_76 : decode cX12_goesOn 76 = .ok (.iconst 0, 1) := by decide +kernel
theorem dX12_goesOn_77 : decode cX12_goesOn 77 = .ok (.ireturn, 1) := by decide +kernel
theorem dX12_areAlike_0 : decode cX12_areAlike 0 = .ok (.aload_n 0, 1) := by decide +kernel
theorem dX12_areAlike_1 : decode cX12_areAlike 1 = .ok (.getfield 60, 3) := by decide +kernel
theorem dX12_areAlike_4 : decode cX12_areAlike 4 = .ok (.aload_n 1, 1) := by decide +kernel
theorem dX12_areAlike_5 : decode cX12_areAlike 5 = .ok (.getfield 60, 3) := by decide +kernel
theorem dX12_areAlike_8 : decode cX12_areAlike 8 = .ok (.if_icmp .ne 29, 3) := by decide +kernel
theorem dX12_areAlike_11 : decode cX12_areAlike 11 = .ok (.aload_n 0, 1) := by decide +kernel
theorem dX12_areAlike_12 : decode cX12_areAlike 12 = .ok (.invokevirtual 135, 3) := by decide +kernel
theorem dX12_areAlike_15 : decode cX12_areAlike 15 = .ok (.aload_n 1, 1) := by decide +kernel
theorem dX12_areAlike_16 : decode cX12_areAlike 16 = .ok (.invokevirtual 135, 3) := by decide +kernel
theorem dX12_areAlike_19 : decode cX12_areAlike 19 = .ok (.if_icmp .ne 18, 3) := by decide +kernel
theorem dX12_areAlike_22 : decode cX12_areAlike 22 = .ok (.aload_n 0, 1) := by decide +kernel
theorem dX12_areAlike_23 : decode cX12_areAlike 23 = .ok (.aload_n 1, 1) := by decide +kernel
theorem dX12_areAlike_24 : decode cX12_areAlike 24 = .ok (.aload_n 2, 1) := by decide +kernel
theorem dX12_areAlike_25 : decode cX12_areAlike 25 = .ok (.iconst 0, 1) := by decide +kernel
theorem dX12_areAlike_26 : decode cX12_areAlike 26 = .ok (.iconst 0, 1) := by decide +kernel
theorem dX12_areAlike_27 : decode cX12_areAlike 27 = .ok (.invokestatic 187, 3) := by decide +kernel
theorem dX12_areAlike_30 : decode cX12_areAlike 30 = .ok (.ifCond .eq 7, 3) := by decide +kernel
theorem dX12_areAlike_33 : decode cX12_areAlike 33 = .ok (.iconst 1, 1) := by decide +kernel
theorem dX12_areAlike_34 : decode cX12_areAlike 34 = .ok (.goto 4, 3) := by decide +kernel
theorem dX12_areAlike_37 : decode cX12_areAlike 37 = .ok (.iconst 0, 1) := by decide +kernel
theorem dX12_areAlike_38 : decode cX12_areAlike 38 = .ok (.ireturn, 1) := by decide +kernel
theorem dX12_areAlike__0 : decode cX12_areAlike_ 0 = .ok (.aload_n 0, 1) := by decide +kernel
theorem dX12_areAlike__1 : decode cX12_areAlike_ 1 = .ok (.iconst 0, 1) := by decide +kernel
theorem dX12_areAlike__2 : decode cX12_areAlike_ 2 = .ok (.putfield 40, 3) := by decide +kernel
theorem dX12_areAlike__5 : decode cX12_areAlike_ 5 = .ok (.aload_n 0, 1) := by decide +kernel
theorem dX12_areAlike__6 : decode cX12_areAlike_ 6 = .ok (.aload_n 0, 1) := by decide +kernel
theorem dX12_areAlike__7 : decode cX12_areAlike_ 7 = .ok (.iload_n 1, 1) := by decide +kernel
theorem dX12_areAlike__8 : decode cX12_areAlike_ 8 = .ok (.invokevirtual 52, 3) := by decide +kernel
theorem dX12_areAlike__11 : decode cX12_areAlike_ 11 = .ok (.ifCond .ne 11, 3) := by decide +kernel
theorem dX12_areAlike__14 : decode cX12_areAlike_ 14 = .ok (.aload_n 0, 1) := by decide +kernel
theorem dX12_areAlike__15 : decode cX12_areAlike_ 15 = .ok (.iload_n 2, 1) := by decide +kernel
theorem dX12_areAlike__16 : decode cX12_areAlike_ 16 = .ok (.invokevirtual 52, 3) := by decide +kernel
theorem dX12_areAlike__19 : decode cX12_areAlike_ 19 = .ok (.ifCond .eq 7, 3) := by decide +kernel
theorem dX12_areAlike__22 : decode cX12_areAlike_ 22 = .ok (.iconst 1, 1) := by decide +kernel
theorem dX12_areAlike__23 : decode cX12_areAlike_ 23 = .ok (.goto 4, 3) := by decide +kernel
theorem dX12_areAlike__26 : decode cX12_areAlike_ 26 = .ok (.iconst 0, 1) := by decide +kernel
theorem dX12_areAlike__27 : decode cX12_areAlike_ 27 = .ok (.iconst 1, 1) := by decide +kernel
theorem dX12_areAlike__28 : decode cX12_areAlike_ 28 = .ok (.invokevirtual 69, 3) := by decide +kernel
theorem dX12_areAlike__31 : decode cX12_areAlike_ 31 = .ok (.ifCond .ne 39, 3) := by decide +kernel
theorem dX12_areAlike__34 : decode cX12_areAlike_ 34 = .ok (.aload_n 0, 1) := by decide +kernel
theorem dX12_areAlike__35 : decode cX12_areAlike_ 35 = .ok (.getfield 19, 3) := by decide +kernel
theorem dX12_areAlike__38 : decode cX12_areAlike_ 38 = .ok (.iload_n 1, 1) := by decide +kernel
theorem dX12_areAlike__39 : decode cX12_areAlike_ 39 = .ok (.invokevirtual 56, 3) := by decide +kernel
theorem dX12_areAlike__42 : decode cX12_areAlike_ 42 = .ok (.checkcast 33, 3) := by decide +kernel
theorem dX12_areAlike__45 : decode cX12_areAlike_ 45 = .ok (.aload_n 0, 1) := by decide +kernel
theorem dX12_areAlike__46 : decode cX12_areAlike_ 46 = .ok (.getfield 19, 3) := by decide +kernel
theorem dX12_areAlike__49 : decode cX12_areAlike_ 49 = .ok (.iload_n 2, 1) := by decide +kernel
theorem dX12_areAlike__50 : decode cX12_areAlike_ 50 = .ok (.invokevirtual 56, 3) := by decide +kernel
theorem dX12_areAlike__53 : decode cX12_areAlike_ 53 = .ok (.checkcast 33, 3) := by decide +kernel
theorem dX12_areAlike__56 : decode cX12_areAlike_ 56 = .ok (.aload_n 0, 1) := by decide +kernel
theorem dX12_areAlike__57 : decode cX12_areAlike_ 57 = .ok (.getfield 30, 3) := by decide +kernel
theorem dX12_areAlike__60 : decode cX12_areAlike_ 60 = .ok (.invokestatic 191, 3) := by decide +kernel
theorem dX12_areAlike__63 : decode cX12_areAlike_ 63 = .ok (.ifCond .eq 7, 3) := by decide +kernel
theorem dX12_areAlike__66 : decode cX12_areAlike_ 66 = .ok (.iconst 1, 1) := by decide +kernel
theorem dX12_areAlike__67 : decode cX12_areAlike_ 67 = .ok (.goto 4, 3) := by decide +kernel
theorem dX12_areAlike__70 : decode cX12_areAlike_ 70 = .ok (.iconst 0, 1) := by decide +kernel
theorem dX12_areAlike__71 : decode cX12_areAlike_ 71 = .ok (.ireturn, 1) := by decide +kernel
theorem dX12_image_0 : decode cX12_image 0 = .ok (.aload_n 0, 1) := by decide +kernel
theorem dX12_image_1 : decode cX12_image 1 = .ok (.iconst 0, 1) := by decide +kernel
theorem dX12_image_2 : decode cX12_image 2 = .ok (.putfield 40, 3) := by decide +kernel
theorem dX12_image_5 : decode cX12_image 5 = .ok (.aload_n 0, 1) := by decide +kernel
theorem dX12_image_6 : decode cX12_image 6 = .ok (.aload_n 0, 1) := by decide +kernel
theorem dX12_image_7 : decode cX12_image 7 = .ok (.iload_n 1, 1) := by decide +kernel
theorem dX12_image_8 : decode cX12_image 8 = .ok (.invokevirtual 52, 3) := by decide +kernel
theorem dX12_image_11 : decode cX12_image 11 = .ok (.ifCond .ne 20, 3) := by decide +kernel
theorem dX12_image_14 : decode cX12_image 14 = .ok (.aload_n 0, 1) := by decide +kernel
theorem dX12_image_15 : decode cX12_image 15 = .ok (.iload_n 2, 1) := by decide +kernel
theorem dX12_image_16 : decode cX12_image 16 = .ok (.invokevirtual 52, 3) := by decide +kernel
theorem dX12_image_19 : decode cX12_image 19 = .ok (.ifCond .ne 12, 3) := by decide +kernel
theorem dX12_image_22 : decode cX12_image 22 = .ok (.aload_n 0, 1) := by decide +kernel
theorem dX12_image_23 : decode cX12_image 23 = .ok (.iload_n 1, 1) := by decide +kernel
theorem dX12_image_24 : decode cX12_image 24 = .ok (.iload_n 3, 1) := by decide +kernel
theorem dX12_image_25 : decode cX12_image 25 = .ok (.invokevirtual 138, 3) := by decide +kernel
theorem dX12_image_28 : decode cX12_image 28 = .ok (.ifCond .eq 7, 3) := by decide +kernel
theorem dX12_image_31 : decode cX12_image 31 = .ok (.iconst 1, 1) := by decide +kernel
theorem dX12_image_32 : decode cX12_image 32 = .ok (.goto 4, 3) := by decide +kernel
theorem dX12_image_35 : decode cX12_image 35 = .ok (.iconst 0, 1) := by decide +kernel
theorem dX12_image_36 : decode cX12_image 36 = .ok (.iconst 1, 1) := by decide +kernel
theorem dX12_image_37 : decode cX12_image 37 = .ok (.invokevirtual 69, 3) := by decide +kernel
theorem dX12_image_40 : decode cX12_image 40 = .ok (.ifCond .eq 5, 3) := by decide +kernel
theorem dX12_image_43 : decode cX12_image 43 = .ok (.iconst 0, 1) := by decide +kernel
theorem dX12_image_44 : decode cX12_image 44 = .ok (.ireturn, 1) := by decide +kernel
theorem dX12_image_45 : decode cX12_image 45 = .ok (.aload_n 0, 1) := by decide +kernel
theorem dX12_image_46 : decode cX12_image 46 = .ok (.aload_n 0, 1) := by decide +kernel
theorem dX12_image_47 : decode cX12_image 47 = .ok (.getfield 19, 3) := by decide +kernel
theorem dX12_image_50 : decode cX12_image 50 = .ok (.iload_n 1, 1) := by decide +kernel
theorem dX12_image_51 : decode cX12_image 51 = .ok (.invokevirtual 56, 3) := by decide +kernel
theorem dX12_image_54 : decode cX12_image 54 = .ok (.checkcast 33, 3) := by decide +kernel
theorem dX12_image_57 : decode cX12_image 57 = .ok (.aload_n 0, 1) := by decide +kernel
theorem dX12_image_58 : decode cX12_image 58 = .ok (.getfield 19, 3) := by decide +kernel
theorem dX12_image_61 : decode cX12_image 61 = .ok (.iload_n 2, 1) := by decide +kernel
theorem dX12_image_62 : decode cX12_image 62 = .ok (.invokevirtual 56, 3) := by decide +kernel
theorem dX12_image_65 : decode cX12_image 65 = .ok (.checkcast 33, 3) := by decide +kernel
theorem dX12_image_68 : decode cX12_image 68 = .ok (.aload_n 0, 1) := by decide +kernel
theorem dX12_image_69 : decode cX12_image 69 = .ok (.getfield 30, 3) := by decide +kernel
theorem dX12_image_72 : decode cX12_image 72 = .ok (.invokestatic 191, 3) := by decide +kernel
theorem dX12_image_75 : decode cX12_image 75 = .ok (.ifCond .ne 7, 3) := by decide +kernel
theorem dX12_image_78 : decode cX12_image 78 = .ok (.iconst 1, 1) := by decide +kernel
theorem dX12_image_79 : decode cX12_image 79 = .ok (.goto 4, 3) := by decide +kernel
theorem dX12_image_82 : decode cX12_image 82 = .ok (.iconst 0, 1) := by decide +kernel
theorem dX12_image_83 : decode cX12_image 83 = .ok (.iconst 2, 1) := by decide +kernel
theorem dX12_image_84 : decode cX12_image 84 = .ok (.invokevirtual 69, 3) := by decide +kernel
theorem dX12_image_87 : decode cX12_image 87 = .ok (.ifCond .eq 7, 3) := by decide +kernel
theorem dX12_image_90 : decode cX12_image 90 = .ok (.iconst 0, 1) := by decide +kernel
theorem dX12_image_91 : decode cX12_image 91 = .ok (.goto 9, 3) := by decide +kernel
theorem dX12_image_94 : decode cX12_image 94 = .ok (.aload_n 0, 1) := by decide +kernel
theorem dX12_image_95 : decode cX12_image 95 = .ok (.getfield 30, 3) := by decide +kernel
theorem dX12_image_98 : decode cX12_image 98 = .ok (.iload_n 3, 1) := by decide +kernel
theorem dX12_image_99 : decode cX12_image 99 = .ok (.iaload, 1) := by decide +kernel
theorem dX12_image_100 : decode cX12_image 100 = .ok (.ireturn, 1) := by decide +kernel
theorem dX12_symmetries_0 : decode cX12_symmetries 0 = .ok (.aload_n 0, 1) := by decide +kernel
theorem dX12_symmetries_1 : decode cX12_symmetries 1 = .ok (.iconst 0, 1) := by decide +kernel
theorem dX12_symmetries_2 : decode cX12_symmetries 2 = .ok (.putfield 40, 3) := by decide +kernel
theorem dX12_symmetries_5 : decode cX12_symmetries 5 = .ok (.aload_n 0, 1) := by decide +kernel
theorem dX12_symmetries_6 : decode cX12_symmetries 6 = .ok (.aload_n 0, 1) := by decide +kernel
theorem dX12_symmetries_7 : decode cX12_symmetries 7 = .ok (.iload_n 1, 1) := by decide +kernel
theorem dX12_symmetries_8 : decode cX12_symmetries 8 = .ok (.invokevirtual 52, 3) := by decide +kernel
theorem dX12_symmetries_11 : decode cX12_symmetries 11 = .ok (.iconst 1, 1) := by decide +kernel
theorem dX12_symmetries_12 : decode cX12_symmetries 12 = .ok (.invokevirtual 69, 3) := by decide +kernel
theorem dX12_symmetries_15 : decode cX12_symmetries 15 = .ok (.ifCond .eq 5, 3) := by decide +kernel
theorem dX12_symmetries_18 : decode cX12_symmetries 18 = .ok (.iconst 0, 1) := by decide +kernel
theorem dX12_symmetries_19 : decode cX12_symmetries 19 = .ok (.ireturn, 1) := by decide +kernel
theorem dX12_symmetries_20 : decode cX12_symmetries 20 = .ok (.aload_n 0, 1) := by decide +kernel
theorem dX12_symmetries_21 : decode cX12_symmetries 21 = .ok (.getfield 19, 3) := by decide +kernel
theorem dX12_symmetries_24 : decode cX12_symmetries 24 = .ok (.iload_n 1, 1) := by decide +kernel
theorem dX12_symmetries_25 : decode cX12_symmetries 25 = .ok (.invokevirtual 56, 3) := by decide +kernel
theorem dX12_symmetries_28 : decode cX12_symmetries 28 = .ok (.checkcast 33, 3) := by decide +kernel
theorem dX12_symmetries_31 : decode cX12_symmetries 31 = .ok (.astore_n 2, 1) := by decide +kernel
theorem dX12_symmetries_32 : decode cX12_symmetries 32 = .ok (.iconst 1, 1) := by decide +kernel
theorem dX12_symmetries_33 : decode cX12_symmetries 33 = .ok (.istore_n 3, 1) := by decide +kernel
theorem dX12_symmetries_34 : decode cX12_symmetries 34 = .ok (.iconst 0, 1) := by decide +kernel
theorem dX12_symmetries_35 : decode cX12_symmetries 35 = .ok (.istore 4, 2) := by decide +kernel
theorem dX12_symmetries_37 : decode cX12_symmetries 37 = .ok (.iload 4, 2) := by decide +kernel
theorem dX12_symmetries_39 : decode cX12_symmetries 39 = .ok (.aload_n 2, 1) := by decide +kernel
theorem dX12_symmetries_40 : decode cX12_symmetries 40 = .ok (.getfield 60, 3) := by decide +kernel
theorem dX12_symmetries_43 : decode cX12_symmetries 43 = .ok (.if_icmp .ge 127, 3) := by decide +kernel
theorem dX12_symmetries_46 : decode cX12_symmetries 46 = .ok (.iconst 0, 1) := by decide +kernel
theorem dX12_symmetries_47 : decode cX12_symmetries 47 = .ok (.istore 5, 2) := by decide +kernel
theorem dX12_symmetries_49 : decode cX12_symmetries 49 = .ok (.iload 4, 2) := by decide +kernel
theorem dX12_symmetries_51 : decode cX12_symmetries 51 = .ok (.istore 6, 2) := by decide +kernel
theorem dX12_symmetries_53 : decode cX12_symmetries 53 = .ok (.iload 6, 2) := by decide +kernel
theorem dX12_symmetries_55 : decode cX12_symmetries 55 = .ok (.aload_n 2, 1) := by decide +kernel
theorem dX12_symmetries_56 : decode cX12_symmetries 56 = .ok (.getfield 60, 3) := by decide +kernel
theorem dX12_symmetries_59 : decode cX12_symmetries 59 = .ok (.if_icmp .ge 100, 3) := by decide +kernel
theorem dX12_symmetries_62 : decode cX12_symmetries 62 = .ok (.iconst 0, 1) := by decide +kernel
theorem dX12_symmetries_63 : decode cX12_symmetries 63 = .ok (.istore 7, 2) := by decide +kernel
theorem dX12_symmetries_65 : decode cX12_symmetries 65 = .ok (.iload 7, 2) := by decide +kernel
theorem dX12_symmetries_67 : decode cX12_symmetries 67 = .ok (.iload 4, 2) := by decide +kernel
theorem dX12_symmetries_69 : decode cX12_symmetries 69 = .ok (.if_icmp .ge 18, 3) := by decide +kernel
theorem dX12_symmetries_72 : decode cX12_symmetries 72 = .ok (.aload_n 0, 1) := by decide +kernel
theorem dX12_symmetries_73 : decode cX12_symmetries 73 = .ok (.getfield 30, 3) := by decide +kernel
theorem dX12_symmetries_76 : decode cX12_symmetries 76 = .ok (.iload 7, 2) := by decide +kernel
theorem dX12_symmetries_78 : decode cX12_symmetries 78 = .ok (.iload 7, 2) := by decide +kernel
theorem dX12_symmetries_80 : decode cX12_symmetries 80 = .ok (.iastore, 1) := by decide +kernel
theorem dX12_symmetries_81 : decode cX12_symmetries 81 = .ok (.iinc 7 1, 3) := by decide +kernel
theorem dX12_symmetries_84 : decode cX12_symmetries 84 = .ok (.goto (-19), 3) := by decide +kernel
theorem dX12_symmetries_87 : decode cX12_symmetries 87 = .ok (.aload_n 0, 1) := by decide +kernel
theorem dX12_symmetries_88 : decode cX12_symmetries 88 = .ok (.getfield 30, 3) := by decide +kernel
theorem dX12_symmetries_91 : decode cX12_symmetries 91 = .ok (.iload 4, 2) := by decide +kernel
theorem dX12_symmetries_93 : decode cX12_symmetries 93 = .ok (.iload 6, 2) := by decide +kernel
theorem dX12_symmetries_95 : decode cX12_symmetries 95 = .ok (.iastore, 1) := by decide +kernel
theorem dX12_symmetries_96 : decode cX12_symmetries 96 = .ok (.iconst 1, 1) := by decide +kernel
theorem dX12_symmetries_97 : decode cX12_symmetries 97 = .ok (.iload 4, 2) := by decide +kernel
theorem dX12_symmetries_99 : decode cX12_symmetries 99 = .ok (.ishl, 1) := by decide +kernel
theorem dX12_symmetries_100 : decode cX12_symmetries 100 = .ok (.iconst 1, 1) := by decide +kernel
theorem dX12_symmetries_101 : decode cX12_symmetries 101 = .ok (.isub, 1) := by decide +kernel
theorem dX12_symmetries_102 : decode cX12_symmetries 102 = .ok (.iconst 1, 1) := by decide +kernel
theorem dX12_symmetries_103 : decode cX12_symmetries 103 = .ok (.iload 6, 2) := by decide +kernel
theorem dX12_symmetries_105 : decode cX12_symmetries 105 = .ok (.ishl, 1) := by decide +kernel
theorem dX12_symmetries_106 : decode cX12_symmetries 106 = .ok (.ior, 1) := by decide +kernel
theorem dX12_symmetries_107 : decode cX12_symmetries 107 = .ok (.istore 7, 2) := by decide +kernel
theorem dX12_symmetries_109 : decode cX12_symmetries 109 = .ok (.iload 5, 2) := by decide +kernel
theorem dX12_symmetries_111 : decode cX12_symmetries 111 = .ok (.aload_n 2, 1) := by decide +kernel
theorem dX12_symmetries_112 : decode cX12_symmetries 112 = .ok (.aload_n 2, 1) := by decide +kernel
theorem dX12_symmetries_113 : decode cX12_symmetries 113 = .ok (.aload_n 0, 1) := by decide +kernel
theorem dX12_symmetries_114 : decode cX12_symmetries 114 = .ok (.getfield 30, 3) := by decide +kernel
theorem dX12_symmetries_117 : decode cX12_symmetries 117 = .ok (.iload 4, 2) := by decide +kernel
theorem dX12_symmetries_119 : decode cX12_symmetries 119 = .ok (.iconst 1, 1) := by decide +kernel
theorem dX12_symmetries_120 : decode cX12_symmetries 120 = .ok (.iadd, 1) := by decide +kernel
theorem dX12_symmetries_121 : decode cX12_symmetries 121 = .ok (.invokestatic 183, 3) := by decide +kernel
theorem dX12_symmetries_124 : decode cX12_symmetries 124 = .ok (.ifCond .eq 25, 3) := by decide +kernel
theorem dX12_symmetries_127 : decode cX12_symmetries 127 = .ok (.aload_n 2, 1) := by decide +kernel
theorem dX12_symmetries_128 : decode cX12_symmetries 128 = .ok (.aload_n 2, 1) := by decide +kernel
theorem dX12_symmetries_129 : decode cX12_symmetries 129 = .ok (.aload_n 0, 1) := by decide +kernel
theorem dX12_symmetries_130 : decode cX12_symmetries 130 = .ok (.getfield 30, 3) := by decide +kernel
theorem dX12_symmetries_133 : decode cX12_symmetries 133 = .ok (.iload 4, 2) := by decide +kernel
theorem dX12_symmetries_135 : decode cX12_symmetries 135 = .ok (.iconst 1, 1) := by decide +kernel
theorem dX12_symmetries_136 : decode cX12_symmetries 136 = .ok (.iadd, 1) := by decide +kernel
theorem dX12_symmetries_137 : decode cX12_symmetries 137 = .ok (.iload 7, 2) := by decide +kernel
theorem dX12_symmetries_139 : decode cX12_symmetries 139 = .ok (.invokestatic 187, 3) := by decide +kernel
theorem dX12_symmetries_142 : decode cX12_symmetries 142 = .ok (.ifCond .eq 7, 3) := by decide +kernel
theorem dX12_symmetries_145 : decode cX12_symmetries 145 = .ok (.iconst 1, 1) := by decide +kernel
theorem dX12_symmetries_146 : decode cX12_symmetries 146 = .ok (.goto 4, 3) := by decide +kernel
theorem dX12_symmetries_149 : decode cX12_symmetries 149 = .ok (.iconst 0, 1) := by decide +kernel
theorem dX12_symmetries_150 : decode cX12_symmetries 150 = .ok (.iadd, 1) := by decide +kernel
theorem dX12_symmetries_151 : decode cX12_symmetries 151 = .ok (.istore 5, 2) := by decide +kernel
theorem dX12_symmetries_153 : decode cX12_symmetries 153 = .ok (.iinc 6 1, 3) := by decide +kernel
theorem dX12_symmetries_156 : decode cX12_symmetries 156 = .ok (.goto (-103), 3) := by decide +kernel
theorem dX12_symmetries_159 : decode cX12_symmetries 159 = .ok (.iload_n 3, 1) := by decide +kernel
theorem dX12_symmetries_160 : decode cX12_symmetries 160 = .ok (.iload 5, 2) := by decide +kernel
theorem dX12_symmetries_162 : decode cX12_symmetries 162 = .ok (.imul, 1) := by decide +kernel
theorem dX12_symmetries_163 : decode cX12_symmetries 163 = .ok (.istore_n 3, 1) := by decide +kernel
theorem dX12_symmetries_164 : decode cX12_symmetries 164 = .ok (.iinc 4 1, 3) := by decide +kernel
theorem dX12_symmetries_167 : decode cX12_symmetries 167 = .ok (.goto (-130), 3) := by decide +kernel
theorem dX12_symmetries_170 : decode cX12_symmetries 170 = .ok (.iload_n 3, 1) := by decide +kernel
theorem dX12_symmetries_171 : decode cX12_symmetries 171 = .ok (.ireturn, 1) := by decide +kernel
theorem dX12_left_0 : decode cX12_left 0 = .ok (.aload_n 0, 1) := by decide +kernel
theorem dX12_left_1 : decode cX12_left 1 = .ok (.getfield 36, 3) := by decide +kernel
theorem dX12_left_4 : decode cX12_left 4 = .ok (.aload_n 1, 1) := by decide +kernel
theorem dX12_left_5 : decode cX12_left 5 = .ok (.getfield 60, 3) := by decide +kernel
theorem dX12_left_8 : decode cX12_left 8 = .ok (.iload_n 2, 1) := by decide +kernel
theorem dX12_left_9 : decode cX12_left 9 = .ok (.iload_n 3, 1) := by decide +kernel
theorem dX12_left_10 : decode cX12_left 10 = .ok (.ior, 1) := by decide +kernel
theorem dX12_left_11 : decode cX12_left 11 = .ok (.invokestatic 83, 3) := by decide +kernel
theorem dX12_left_14 : decode cX12_left 14 = .ok (.isub, 1) := by decide +kernel
theorem dX12_left_15 : decode cX12_left 15 = .ok (.putfield 60, 3) := by decide +kernel
theorem dX12_left_18 : decode cX12_left 18 = .ok (.iconst 0, 1) := by decide +kernel
theorem dX12_left_19 : decode cX12_left 19 = .ok (.istore 4, 2) := by decide +kernel
theorem dX12_left_21 : decode cX12_left 21 = .ok (.iload 4, 2) := by decide +kernel
theorem dX12_left_23 : decode cX12_left 23 = .ok (.aload_n 0, 1) := by decide +kernel
theorem dX12_left_24 : decode cX12_left 24 = .ok (.getfield 36, 3) := by decide +kernel
theorem dX12_left_27 : decode cX12_left 27 = .ok (.invokevirtual 62, 3) := by decide +kernel
theorem dX12_left_30 : decode cX12_left 30 = .ok (.if_icmp .gt 88, 3) := by decide +kernel
theorem dX12_left_33 : decode cX12_left 33 = .ok (.iconst 0, 1) := by decide +kernel
theorem dX12_left_34 : decode cX12_left 34 = .ok (.istore 5, 2) := by decide +kernel
theorem dX12_left_36 : decode cX12_left 36 = .ok (.iconst 0, 1) := by decide +kernel
theorem dX12_left_37 : decode cX12_left 37 = .ok (.istore 6, 2) := by decide +kernel
theorem dX12_left_39 : decode cX12_left 39 = .ok (.iconst 0, 1) := by decide +kernel
theorem dX12_left_40 : decode cX12_left 40 = .ok (.istore 7, 2) := by decide +kernel
theorem dX12_left_42 : decode cX12_left 42 = .ok (.iload 7, 2) := by decide +kernel
theorem dX12_left_44 : decode cX12_left 44 = .ok (.aload_n 1, 1) := by decide +kernel
theorem dX12_left_45 : decode cX12_left 45 = .ok (.getfield 60, 3) := by decide +kernel
theorem dX12_left_48 : decode cX12_left 48 = .ok (.if_icmp .ge 38, 3) := by decide +kernel
theorem dX12_left_51 : decode cX12_left 51 = .ok (.iload_n 2, 1) := by decide +kernel
theorem dX12_left_52 : decode cX12_left 52 = .ok (.iload_n 3, 1) := by decide +kernel
theorem dX12_left_53 : decode cX12_left 53 = .ok (.ior, 1) := by decide +kernel
theorem dX12_left_54 : decode cX12_left 54 = .ok (.iload 7, 2) := by decide +kernel
theorem dX12_left_56 : decode cX12_left 56 = .ok (.ishr, 1) := by decide +kernel
theorem dX12_left_57 : decode cX12_left 57 = .ok (.iconst 1, 1) := by decide +kernel
theorem dX12_left_58 : decode cX12_left 58 = .ok (.iand, 1) := by decide +kernel
theorem dX12_left_59 : decode cX12_left 59 = .ok (.ifCond .ne 21, 3) := by decide +kernel
theorem dX12_left_62 : decode cX12_left 62 = .ok (.iload 5, 2) := by decide +kernel
theorem dX12_left_64 : decode cX12_left 64 = .ok (.iload 4, 2) := by decide +kernel
theorem dX12_left_66 : decode cX12_left 66 = .ok (.iload 6, 2) := by decide +kernel
theorem dX12_left_68 : decode cX12_left 68 = .ok (.ishr, 1) := by decide +kernel
theorem dX12_left_69 : decode cX12_left 69 = .ok (.iconst 1, 1) := by decide +kernel
theorem dX12_left_70 : decode cX12_left 70 = .ok (.iand, 1) := by decide +kernel
theorem dX12_left_71 : decode cX12_left 71 = .ok (.iload 7, 2) := by decide +kernel
theorem dX12_left_73 : decode cX12_left 73 = .ok (.ishl, 1) := by decide +kernel
theorem dX12_left_74 : decode cX12_left 74 = .ok (.ior, 1) := by decide +kernel
theorem dX12_left_75 : decode cX12_left 75 = .ok (.istore 5, 2) := by decide +kernel
theorem dX12_left_77 : decode cX12_left 77 = .ok (.iinc 6 1, 3) := by decide +kernel
theorem dX12_left_80 : decode cX12_left 80 = .ok (.iinc 7 1, 3) := by decide +kernel
theorem dX12_left_83 : decode cX12_left 83 = .ok (.goto (-41), 3) := by decide +kernel
theorem dX12_left_86 : decode cX12_left 86 = .ok (.aload_n 0, 1) := by decide +kernel
theorem dX12_left_87 : decode cX12_left 87 = .ok (.getfield 36, 3) := by decide +kernel
theorem dX12_left_90 : decode cX12_left 90 = .ok (.getfield 80, 3) := by decide +kernel
theorem dX12_left_93 : decode cX12_left 93 = .ok (.iload 4, 2) := by decide +kernel
theorem dX12_left_95 : decode cX12_left 95 = .ok (.aload_n 1, 1) := by decide +kernel
theorem dX12_left_96 : decode cX12_left 96 = .ok (.getfield 80, 3) := by decide +kernel
theorem dX12_left_99 : decode cX12_left 99 = .ok (.iload 5, 2) := by decide +kernel
theorem dX12_left_101 : decode cX12_left 101 = .ok (.iload_n 2, 1) := by decide +kernel
theorem dX12_left_102 : decode cX12_left 102 = .ok (.ior, 1) := by decide +kernel
theorem dX12_left_103 : decode cX12_left 103 = .ok (.iaload, 1) := by decide +kernel
theorem dX12_left_104 : decode cX12_left 104 = .ok (.aload_n 1, 1) := by decide +kernel
theorem dX12_left_105 : decode cX12_left 105 = .ok (.getfield 80, 3) := by decide +kernel
theorem dX12_left_108 : decode cX12_left 108 = .ok (.iload_n 2, 1) := by decide +kernel
theorem dX12_left_109 : decode cX12_left 109 = .ok (.iaload, 1) := by decide +kernel
theorem dX12_left_110 : decode cX12_left 110 = .ok (.isub, 1) := by decide +kernel
theorem dX12_left_111 : decode cX12_left 111 = .ok (.iastore, 1) := by decide +kernel
theorem dX12_left_112 : decode cX12_left 112 = .ok (.iinc 4 1, 3) := by decide +kernel
theorem dX12_left_115 : decode cX12_left 115 = .ok (.goto (-94), 3) := by decide +kernel
theorem dX12_left_118 : decode cX12_left 118 = .ok (.aload_n 0, 1) := by decide +kernel
theorem dX12_left_119 : decode cX12_left 119 = .ok (.getfield 36, 3) := by decide +kernel
theorem dX12_left_122 : decode cX12_left 122 = .ok (.areturn, 1) := by decide +kernel
theorem dX12_minorOf_0 : decode cX12_minorOf 0 = .ok (.aload_n 1, 1) := by decide +kernel
theorem dX12_minorOf_1 : decode cX12_minorOf 1 = .ok (.invokevirtual 135, 3) := by decide +kernel
theorem dX12_minorOf_4 : decode cX12_minorOf 4 = .ok (.aload_n 2, 1) := by decide +kernel
theorem dX12_minorOf_5 : decode cX12_minorOf 5 = .ok (.invokevirtual 135, 3) := by decide +kernel
theorem dX12_minorOf_8 : decode cX12_minorOf 8 = .ok (.isub, 1) := by decide +kernel
theorem dX12_minorOf_9 : decode cX12_minorOf 9 = .ok (.istore_n 3, 1) := by decide +kernel
theorem dX12_minorOf_10 : decode cX12_minorOf 10 = .ok (.aload_n 1, 1) := by decide +kernel
theorem dX12_minorOf_11 : decode cX12_minorOf 11 = .ok (.getfield 60, 3) := by decide +kernel
theorem dX12_minorOf_14 : decode cX12_minorOf 14 = .ok (.aload_n 2, 1) := by decide +kernel
theorem dX12_minorOf_15 : decode cX12_minorOf 15 = .ok (.getfield 60, 3) := by decide +kernel
theorem dX12_minorOf_18 : decode cX12_minorOf 18 = .ok (.isub, 1) := by decide +kernel
theorem dX12_minorOf_19 : decode cX12_minorOf 19 = .ok (.istore 4, 2) := by decide +kernel
theorem dX12_minorOf_21 : decode cX12_minorOf 21 = .ok (.iconst 0, 1) := by decide +kernel
theorem dX12_minorOf_22 : decode cX12_minorOf 22 = .ok (.istore 5, 2) := by decide +kernel
theorem dX12_minorOf_24 : decode cX12_minorOf 24 = .ok (.iload 5, 2) := by decide +kernel
theorem dX12_minorOf_26 : decode cX12_minorOf 26 = .ok (.aload_n 1, 1) := by decide +kernel
theorem dX12_minorOf_27 : decode cX12_minorOf 27 = .ok (.invokevirtual 62, 3) := by decide +kernel
theorem dX12_minorOf_30 : decode cX12_minorOf 30 = .ok (.if_icmp .gt 138, 3) := by decide +kernel
theorem dX12_minorOf_33 : decode cX12_minorOf 33 = .ok (.iload_n 3, 1) := by decide +kernel
theorem dX12_minorOf_34 : decode cX12_minorOf 34 = .ok (.ifCond .lt 134, 3) := by decide +kernel
theorem dX12_minorOf_37 : decode cX12_minorOf 37 = .ok (.iload 4, 2) := by decide +kernel
theorem dX12_minorOf_39 : decode cX12_minorOf 39 = .ok (.iload_n 3, 1) := by decide +kernel
theorem dX12_minorOf_40 : decode cX12_minorOf 40 = .ok (.if_icmp .lt 128, 3) := by decide +kernel
theorem dX12_minorOf_43 : decode cX12_minorOf 43 = .ok (.iload 5, 2) := by decide +kernel
theorem dX12_minorOf_45 : decode cX12_minorOf 45 = .ok (.invokestatic 83, 3) := by decide +kernel
theorem dX12_minorOf_48 : decode cX12_minorOf 48 = .ok (.iload_n 3, 1) := by decide +kernel
theorem dX12_minorOf_49 : decode cX12_minorOf 49 = .ok (.if_icmp .ne 113, 3) := by decide +kernel
theorem dX12_minorOf_52 : decode cX12_minorOf 52 = .ok (.aload_n 1, 1) := by decide +kernel
theorem dX12_minorOf_53 : decode cX12_minorOf 53 = .ok (.iload 5, 2) := by decide +kernel
theorem dX12_minorOf_55 : decode cX12_minorOf 55 = .ok (.invokevirtual 152, 3) := by decide +kernel
theorem dX12_minorOf_58 : decode cX12_minorOf 58 = .ok (.ifCond .eq 104, 3) := by decide +kernel
theorem dX12_minorOf_61 : decode cX12_minorOf 61 = .ok (.iconst 0, 1) := by decide +kernel
theorem dX12_minorOf_62 : decode cX12_minorOf 62 = .ok (.istore 6, 2) := by decide +kernel
theorem dX12_minorOf_64 : decode cX12_minorOf 64 = .ok (.iload 6, 2) := by decide +kernel
theorem dX12_minorOf_66 : decode cX12_minorOf 66 = .ok (.aload_n 1, 1) := by decide +kernel
theorem dX12_minorOf_67 : decode cX12_minorOf 67 = .ok (.invokevirtual 62, 3) := by decide +kernel
theorem dX12_minorOf_70 : decode cX12_minorOf 70 = .ok (.if_icmp .gt 92, 3) := by decide +kernel
theorem dX12_minorOf_73 : decode cX12_minorOf 73 = .ok (.iload 6, 2) := by decide +kernel
theorem dX12_minorOf_75 : decode cX12_minorOf 75 = .ok (.invokestatic 83, 3) := by decide +kernel
theorem dX12_minorOf_78 : decode cX12_minorOf 78 = .ok (.iload 4, 2) := by decide +kernel
theorem dX12_minorOf_80 : decode cX12_minorOf 80 = .ok (.iload_n 3, 1) := by decide +kernel
theorem dX12_minorOf_81 : decode cX12_minorOf 81 = .ok (.isub, 1) := by decide +kernel
theorem dX12_minorOf_82 : decode cX12_minorOf 82 = .ok (.if_icmp .ne 15, 3) := by decide +kernel
theorem dX12_minorOf_85 : decode cX12_minorOf 85 = .ok (.iload 5, 2) := by decide +kernel
theorem dX12_minorOf_87 : decode cX12_minorOf 87 = .ok (.iload 6, 2) := by decide +kernel
theorem dX12_minorOf_89 : decode cX12_minorOf 89 = .ok (.iand, 1) := by decide +kernel
theorem dX12_minorOf_90 : decode cX12_minorOf 90 = .ok (.ifCond .ne 7, 3) := by decide +kernel
theorem dX12_minorOf_93 : decode cX12_minorOf 93 = .ok (.iconst 1, 1) := by decide +kernel
theorem dX12_minorOf_94 : decode cX12_minorOf 94 = .ok (.goto 4, 3) := by decide +kernel
theorem dX12_minorOf_97 : decode cX12_minorOf 97 = .ok (.iconst 0, 1) := by decide +kernel
theorem dX12_minorOf_98 : decode cX12_minorOf 98 = .ok (.istore 7, 2) := by decide +kernel
theorem dX12_minorOf_100 : decode cX12_minorOf 100 = .ok (.iload 7, 2) := by decide +kernel
theorem dX12_minorOf_102 : decode cX12_minorOf 102 = .ok (.ifCond .eq 54, 3) := by decide +kernel
theorem dX12_minorOf_105 : decode cX12_minorOf 105 = .ok (.aload_n 1, 1) := by decide +kernel
theorem dX12_minorOf_106 : decode cX12_minorOf 106 = .ok (.getfield 80, 3) := by decide +kernel
theorem dX12_minorOf_109 : decode cX12_minorOf 109 = .ok (.aload_n 1, 1) := by decide +kernel
theorem dX12_minorOf_110 : decode cX12_minorOf 110 = .ok (.invokevirtual 62, 3) := by decide +kernel
theorem dX12_minorOf_113 : decode cX12_minorOf 113 = .ok (.iload 6, 2) := by decide +kernel
theorem dX12_minorOf_115 : decode cX12_minorOf 115 = .ok (.iconst (-1), 1) := by decide +kernel
theorem dX12_minorOf_116 : decode cX12_minorOf 116 = .ok (.ixor, 1) := by decide +kernel
theorem dX12_minorOf_117 : decode cX12_minorOf 117 = .ok (.iand, 1) := by decide +kernel
theorem dX12_minorOf_118 : decode cX12_minorOf 118 = .ok (.iaload, 1) := by decide +kernel
theorem dX12_minorOf_119 : decode cX12_minorOf 119 = .ok (.aload_n 1, 1) := by decide +kernel
theorem dX12_minorOf_120 : decode cX12_minorOf 120 = .ok (.invokevirtual 135, 3) := by decide +kernel
theorem dX12_minorOf_123 : decode cX12_minorOf 123 = .ok (.if_icmp .ne 33, 3) := by decide +kernel
theorem dX12_minorOf_126 : decode cX12_minorOf 126 = .ok (.aload_n 0, 1) := by decide +kernel
theorem dX12_minorOf_127 : decode cX12_minorOf 127 = .ok (.aload_n 1, 1) := by decide +kernel
theorem dX12_minorOf_128 : decode cX12_minorOf 128 = .ok (.iload 5, 2) := by decide +kernel
theorem dX12_minorOf_130 : decode cX12_minorOf 130 = .ok (.iload 6, 2) := by decide +kernel
theorem dX12_minorOf_132 : decode cX12_minorOf 132 = .ok (.invokevirtual 195, 3) := by decide +kernel
theorem dX12_minorOf_135 : decode cX12_minorOf 135 = .ok (.aload_n 2, 1) := by decide +kernel
theorem dX12_minorOf_136 : decode cX12_minorOf 136 = .ok (.aload_n 0, 1) := by decide +kernel
theorem dX12_minorOf_137 : decode cX12_minorOf 137 = .ok (.getfield 30, 3) := by decide +kernel
theorem dX12_minorOf_140 : decode cX12_minorOf 140 = .ok (.invokestatic 191, 3) := by decide +kernel
theorem dX12_minorOf_143 : decode cX12_minorOf 143 = .ok (.ifCond .eq 13, 3) := by decide +kernel
theorem dX12_minorOf_146 : decode cX12_minorOf 146 = .ok (.sipush 1024, 3) := by decide +kernel
theorem dX12_minorOf_149 : decode cX12_minorOf 149 = .ok (.iload 5, 2) := by decide +kernel
theorem dX12_minorOf_151 : decode cX12_minorOf 151 = .ok (.imul, 1) := by decide +kernel
theorem dX12_minorOf_152 : decode cX12_minorOf 152 = .ok (.iload 6, 2) := by decide +kernel
theorem dX12_minorOf_154 : decode cX12_minorOf 154 = .ok (.iadd, 1) := by decide +kernel
theorem dX12_minorOf_155 : decode cX12_minorOf 155 = .ok (.ireturn, 1) := by decide +kernel
theorem dX12_minorOf_156 : decode cX12_minorOf 156 = .ok (.iinc 6 1, 3) := by decide +kernel
theorem dX12_minorOf_159 : decode cX12_minorOf 159 = .ok (.goto (-95), 3) := by decide +kernel
theorem dX12_minorOf_162 : decode cX12_minorOf 162 = .ok (.iinc 5 1, 3) := by decide +kernel
theorem dX12_minorOf_165 : decode cX12_minorOf 165 = .ok (.goto (-141), 3) := by decide +kernel
theorem dX12_minorOf_168 : decode cX12_minorOf 168 = .ok (.iconst (-1), 1) := by decide +kernel
theorem dX12_minorOf_169 : decode cX12_minorOf 169 = .ok (.ireturn, 1) := by decide +kernel
theorem dX12_minorOf__0 : decode cX12_minorOf_ 0 = .ok (.aload_n 0, 1) := by decide +kernel
theorem dX12_minorOf__1 : decode cX12_minorOf_ 1 = .ok (.iconst 0, 1) := by decide +kernel
theorem dX12_minorOf__2 : decode cX12_minorOf_ 2 = .ok (.putfield 40, 3) := by decide +kernel
theorem dX12_minorOf__5 : decode cX12_minorOf_ 5 = .ok (.aload_n 0, 1) := by decide +kernel
theorem dX12_minorOf__6 : decode cX12_minorOf_ 6 = .ok (.aload_n 0, 1) := by decide +kernel
theorem dX12_minorOf__7 : decode cX12_minorOf_ 7 = .ok (.iload_n 1, 1) := by decide +kernel
theorem dX12_minorOf__8 : decode cX12_minorOf_ 8 = .ok (.invokevirtual 52, 3) := by decide +kernel
theorem dX12_minorOf__11 : decode cX12_minorOf_ 11 = .ok (.ifCond .ne 11, 3) := by decide +kernel
theorem dX12_minorOf__14 : decode cX12_minorOf_ 14 = .ok (.aload_n 0, 1) := by decide +kernel
theorem dX12_minorOf__15 : decode cX12_minorOf_ 15 = .ok (.iload_n 2, 1) := by decide +kernel
theorem dX12_minorOf__16 : decode cX12_minorOf_ 16 = .ok (.invokevirtual 52, 3) := by decide +kernel
theorem dX12_minorOf__19 : decode cX12_minorOf_ 19 = .ok (.ifCond .eq 7, 3) := by decide +kernel
theorem dX12_minorOf__22 : decode cX12_minorOf_ 22 = .ok (.iconst 1, 1) := by decide +kernel
theorem dX12_minorOf__23 : decode cX12_minorOf_ 23 = .ok (.goto 4, 3) := by decide +kernel
theorem dX12_minorOf__26 : decode cX12_minorOf_ 26 = .ok (.iconst 0, 1) := by decide +kernel
theorem dX12_minorOf__27 : decode cX12_minorOf_ 27 = .ok (.iconst 1, 1) := by decide +kernel
theorem dX12_minorOf__28 : decode cX12_minorOf_ 28 = .ok (.invokevirtual 69, 3) := by decide +kernel
theorem dX12_minorOf__31 : decode cX12_minorOf_ 31 = .ok (.ifCond .eq 5, 3) := by decide +kernel
theorem dX12_minorOf__34 : decode cX12_minorOf_ 34 = .ok (.iconst 0, 1) := by decide +kernel
theorem dX12_minorOf__35 : decode cX12_minorOf_ 35 = .ok (.ireturn, 1) := by decide +kernel
theorem dX12_minorOf__36 : decode cX12_minorOf_ 36 = .ok (.aload_n 0, 1) := by decide +kernel
theorem dX12_minorOf__37 : decode cX12_minorOf_ 37 = .ok (.aload_n 0, 1) := by decide +kernel
theorem dX12_minorOf__38 : decode cX12_minorOf_ 38 = .ok (.getfield 19, 3) := by decide +kernel
theorem dX12_minorOf__41 : decode cX12_minorOf_ 41 = .ok (.iload_n 1, 1) := by decide +kernel
theorem dX12_minorOf__42 : decode cX12_minorOf_ 42 = .ok (.invokevirtual 56, 3) := by decide +kernel
theorem dX12_minorOf__45 : decode cX12_minorOf_ 45 = .ok (.checkcast 33, 3) := by decide +kernel
theorem dX12_minorOf__48 : decode cX12_minorOf_ 48 = .ok (.aload_n 0, 1) := by decide +kernel
theorem dX12_minorOf__49 : decode cX12_minorOf_ 49 = .ok (.getfield 19, 3) := by decide +kernel
theorem dX12_minorOf__52 : decode cX12_minorOf_ 52 = .ok (.iload_n 2, 1) := by decide +kernel
theorem dX12_minorOf__53 : decode cX12_minorOf_ 53 = .ok (.invokevirtual 56, 3) := by decide +kernel
theorem dX12_minorOf__56 : decode cX12_minorOf_ 56 = .ok (.checkcast 33, 3) := by decide +kernel
theorem dX12_minorOf__59 : decode cX12_minorOf_ 59 = .ok (.invokevirtual 199, 3) := by decide +kernel
theorem dX12_minorOf__62 : decode cX12_minorOf_ 62 = .ok (.istore_n 3, 1) := by decide +kernel
theorem dX12_minorOf__63 : decode cX12_minorOf_ 63 = .ok (.aload_n 0, 1) := by decide +kernel
theorem dX12_minorOf__64 : decode cX12_minorOf_ 64 = .ok (.iload_n 3, 1) := by decide +kernel
theorem dX12_minorOf__65 : decode cX12_minorOf_ 65 = .ok (.iconst (-1), 1) := by decide +kernel
theorem dX12_minorOf__66 : decode cX12_minorOf_ 66 = .ok (.if_icmp .ne 7, 3) := by decide +kernel
theorem dX12_minorOf__69 : decode cX12_minorOf_ 69 = .ok (.iconst 1, 1) := by decide +kernel
theorem dX12_minorOf__70 : decode cX12_minorOf_ 70 = .ok (.goto 4, 3) := by decide +kernel
theorem dX12_minorOf__73 : decode cX12_minorOf_ 73 = .ok (.iconst 0, 1) := by decide +kernel
theorem dX12_minorOf__74 : decode cX12_minorOf_ 74 = .ok (.iconst 2, 1) := by decide +kernel
theorem dX12_minorOf__75 : decode cX12_minorOf_ 75 = .ok (.invokevirtual 69, 3) := by decide +kernel
theorem dX12_minorOf__78 : decode cX12_minorOf_ 78 = .ok (.ifCond .eq 7, 3) := by decide +kernel
theorem dX12_minorOf__81 : decode cX12_minorOf_ 81 = .ok (.iconst 0, 1) := by decide +kernel
theorem dX12_minorOf__82 : decode cX12_minorOf_ 82 = .ok (.goto 4, 3) := by decide +kernel
theorem dX12_minorOf__85 : decode cX12_minorOf_ 85 = .ok (.iload_n 3, 1) := by decide +kernel
theorem dX12_minorOf__86 : decode cX12_minorOf_ 86 = .ok (.ireturn, 1) := by decide +kernel
theorem dX12_minorBy_0 : decode cX12_minorBy 0 = .ok (.aload_n 0, 1) := by decide +kernel
theorem dX12_minorBy_1 : decode cX12_minorBy 1 = .ok (.iload_n 1, 1) := by decide +kernel
theorem dX12_minorBy_2 : decode cX12_minorBy 2 = .ok (.iload_n 2, 1) := by decide +kernel
theorem dX12_minorBy_3 : decode cX12_minorBy 3 = .ok (.invokevirtual 203, 3) := by decide +kernel
theorem dX12_minorBy_6 : decode cX12_minorBy 6 = .ok (.sipush 1024, 3) := by decide +kernel
theorem dX12_minorBy_9 : decode cX12_minorBy 9 = .ok (.idiv, 1) := by decide +kernel
theorem dX12_minorBy_10 : decode cX12_minorBy 10 = .ok (.ireturn, 1) := by decide +kernel
theorem dX12_minorWithout_0 : decode cX12_minorWithout 0 = .ok (.aload_n 0, 1) := by decide +kernel
theorem dX12_minorWithout_1 : decode cX12_minorWithout 1 = .ok (.iload_n 1, 1) := by decide +kernel
theorem dX12_minorWithout_2 : decode cX12_minorWithout 2 = .ok (.iload_n 2, 1) := by decide +kernel
theorem dX12_minorWithout_3 : decode cX12_minorWithout 3 = .ok (.invokevirtual 203, 3) := by decide +kernel
theorem dX12_minorWithout_6 : decode cX12_minorWithout 6 = .ok (.sipush 1024, 3) := by decide +kernel
theorem dX12_minorWithout_9 : decode cX12_minorWithout 9 = .ok (.irem, 1) := by decide +kernel
theorem dX12_minorWithout_10 : decode cX12_minorWithout 10 = .ok (.ireturn, 1) := by decide +kernel
theorem dX12_firstBasis_0 : decode cX12_firstBasis 0 = .ok (.iconst 0, 1) := by decide +kernel
theorem dX12_firstBasis_1 : decode cX12_firstBasis 1 = .ok (.istore_n 1, 1) := by decide +kernel
theorem dX12_firstBasis_2 : decode cX12_firstBasis 2 = .ok (.aload_n 0, 1) := by decide +kernel
theorem dX12_firstBasis_3 : decode cX12_firstBasis 3 = .ok (.iload_n 1, 1) := by decide +kernel
theorem dX12_firstBasis_4 : decode cX12_firstBasis 4 = .ok (.invokevirtual 177, 3) := by decide +kernel
theorem dX12_firstBasis_7 : decode cX12_firstBasis 7 = .ok (.ifCond .ne 9, 3) := by decide +kernel
theorem dX12_firstBasis_10 : decode cX12_firstBasis 10 = .ok (.iinc 1 1, 3) := by decide +kernel
theorem dX12_firstBasis_13 : decode cX12_firstBasis 13 = .ok (.goto (-11), 3) := by decide +kernel
theorem dX12_firstBasis_16 : decode cX12_firstBasis 16 = .ok (.iload_n 1, 1) := by decide +kernel
theorem dX12_firstBasis_17 : decode cX12_firstBasis 17 = .ok (.ireturn, 1) := by decide +kernel
theorem dX12_isDrawn_0 : decode cX12_isDrawn 0 = .ok (.iconst 1, 1) := by decide +kernel
theorem dX12_isDrawn_1 : decode cX12_isDrawn 1 = .ok (.iload 4, 2) := by decide +kernel
theorem dX12_isDrawn_3 : decode cX12_isDrawn 3 = .ok (.iconst 1, 1) := by decide +kernel
theorem dX12_isDrawn_4 : decode cX12_isDrawn 4 = .ok (.isub, 1) := by decide +kernel
theorem dX12_isDrawn_5 : decode cX12_isDrawn 5 = .ok (.ishl, 1) := by decide +kernel
theorem dX12_isDrawn_6 : decode cX12_isDrawn 6 = .ok (.istore 6, 2) := by decide +kernel
theorem dX12_isDrawn_8 : decode cX12_isDrawn 8 = .ok (.iload 6, 2) := by decide +kernel
theorem dX12_isDrawn_10 : decode cX12_isDrawn 10 = .ok (.iconst 1, 1) := by decide +kernel
theorem dX12_isDrawn_11 : decode cX12_isDrawn 11 = .ok (.iload 4, 2) := by decide +kernel
theorem dX12_isDrawn_13 : decode cX12_isDrawn 13 = .ok (.ishl, 1) := by decide +kernel
theorem dX12_isDrawn_14 : decode cX12_isDrawn 14 = .ok (.if_icmp .ge 53, 3) := by decide +kernel
theorem dX12_isDrawn_17 : decode cX12_isDrawn 17 = .ok (.aload_n 1, 1) := by decide +kernel
theorem dX12_isDrawn_18 : decode cX12_isDrawn 18 = .ok (.iload 6, 2) := by decide +kernel
theorem dX12_isDrawn_20 : decode cX12_isDrawn 20 = .ok (.iconst 1, 1) := by decide +kernel
theorem dX12_isDrawn_21 : decode cX12_isDrawn 21 = .ok (.iload 4, 2) := by decide +kernel
theorem dX12_isDrawn_23 : decode cX12_isDrawn 23 = .ok (.iconst 1, 1) := by decide +kernel
theorem dX12_isDrawn_24 : decode cX12_isDrawn 24 = .ok (.isub, 1) := by decide +kernel
theorem dX12_isDrawn_25 : decode cX12_isDrawn 25 = .ok (.ishl, 1) := by decide +kernel
theorem dX12_isDrawn_26 : decode cX12_isDrawn 26 = .ok (.iconst (-1), 1) := by decide +kernel
theorem dX12_isDrawn_27 : decode cX12_isDrawn 27 = .ok (.ixor, 1) := by decide +kernel
theorem dX12_isDrawn_28 : decode cX12_isDrawn 28 = .ok (.iand, 1) := by decide +kernel
theorem dX12_isDrawn_29 : decode cX12_isDrawn 29 = .ok (.invokevirtual 152, 3) := by decide +kernel
theorem dX12_isDrawn_32 : decode cX12_isDrawn 32 = .ok (.ifCond .eq 29, 3) := by decide +kernel
theorem dX12_isDrawn_35 : decode cX12_isDrawn 35 = .ok (.aload_n 0, 1) := by decide +kernel
theorem dX12_isDrawn_36 : decode cX12_isDrawn 36 = .ok (.aload_n 2, 1) := by decide +kernel
theorem dX12_isDrawn_37 : decode cX12_isDrawn 37 = .ok (.iload_n 3, 1) := by decide +kernel
theorem dX12_isDrawn_38 : decode cX12_isDrawn 38 = .ok (.aload_n 1, 1) := by decide +kernel
theorem dX12_isDrawn_39 : decode cX12_isDrawn 39 = .ok (.getfield 60, 3) := by decide +kernel
theorem dX12_isDrawn_42 : decode cX12_isDrawn 42 = .ok (.iload 6, 2) := by decide +kernel
theorem dX12_isDrawn_44 : decode cX12_isDrawn 44 = .ok (.iload 5, 2) := by decide +kernel
theorem dX12_isDrawn_46 : decode cX12_isDrawn 46 = .ok (.invokevirtual 108, 3) := by decide +kernel
theorem dX12_isDrawn_49 : decode cX12_isDrawn 49 = .ok (.aload_n 1, 1) := by decide +kernel
theorem dX12_isDrawn_50 : decode cX12_isDrawn 50 = .ok (.getfield 80, 3) := by decide +kernel
theorem dX12_isDrawn_53 : decode cX12_isDrawn 53 = .ok (.iload 6, 2) := by decide +kernel
theorem dX12_isDrawn_55 : decode cX12_isDrawn 55 = .ok (.iaload, 1) := by decide +kernel
theorem dX12_isDrawn_56 : decode cX12_isDrawn 56 = .ok (.if_icmp .eq 5, 3) := by decide +kernel
theorem dX12_isDrawn_59 : decode cX12_isDrawn 59 = .ok (.iconst 0, 1) := by decide +kernel
theorem dX12_isDrawn_60 : decode cX12_isDrawn 60 = .ok (.ireturn, 1) := by decide +kernel
theorem dX12_isDrawn_61 : decode cX12_isDrawn 61 = .ok (.iinc 6 1, 3) := by decide +kernel
theorem dX12_isDrawn_64 : decode cX12_isDrawn 64 = .ok (.goto (-56), 3) := by decide +kernel
theorem dX12_isDrawn_67 : decode cX12_isDrawn 67 = .ok (.iconst 1, 1) := by decide +kernel
theorem dX12_isDrawn_68 : decode cX12_isDrawn 68 = .ok (.ireturn, 1) := by decide +kernel
theorem dX12_draws_0 : decode cX12_draws 0 = .ok (.aload_n 1, 1) := by decide +kernel
theorem dX12_draws_1 : decode cX12_draws 1 = .ok (.invokevirtual 135, 3) := by decide +kernel
theorem dX12_draws_4 : decode cX12_draws 4 = .ok (.istore 6, 2) := by decide +kernel
theorem dX12_draws_6 : decode cX12_draws 6 = .ok (.iload 4, 2) := by decide +kernel
theorem dX12_draws_8 : decode cX12_draws 8 = .ok (.aload_n 1, 1) := by decide +kernel
theorem dX12_draws_9 : decode cX12_draws 9 = .ok (.getfield 60, 3) := by decide +kernel
theorem dX12_draws_12 : decode cX12_draws 12 = .ok (.if_icmp .ne 5, 3) := by decide +kernel
theorem dX12_draws_15 : decode cX12_draws 15 = .ok (.iconst 1, 1) := by decide +kernel
theorem dX12_draws_16 : decode cX12_draws 16 = .ok (.ireturn, 1) := by decide +kernel
theorem dX12_draws_17 : decode cX12_draws 17 = .ok (.iconst 1, 1) := by decide +kernel
theorem dX12_draws_18 : decode cX12_draws 18 = .ok (.istore 7, 2) := by decide +kernel
theorem dX12_draws_20 : decode cX12_draws 20 = .ok (.iconst 0, 1) := by decide +kernel
theorem dX12_draws_21 : decode cX12_draws 21 = .ok (.istore 8, 2) := by decide +kernel
theorem dX12_draws_23 : decode cX12_draws 23 = .ok (.iload 8, 2) := by decide +kernel
theorem dX12_draws_25 : decode cX12_draws 25 = .ok (.iload 6, 2) := by decide +kernel
theorem dX12_draws_27 : decode cX12_draws 27 = .ok (.if_icmp .ge 16, 3) := by decide +kernel
theorem dX12_draws_30 : decode cX12_draws 30 = .ok (.iload 7, 2) := by decide +kernel
theorem dX12_draws_32 : decode cX12_draws 32 = .ok (.iload 5, 2) := by decide +kernel
theorem dX12_draws_34 : decode cX12_draws 34 = .ok (.imul, 1) := by decide +kernel
theorem dX12_draws_35 : decode cX12_draws 35 = .ok (.istore 7, 2) := by decide +kernel
theorem dX12_draws_37 : decode cX12_draws 37 = .ok (.iinc 8 1, 3) := by decide +kernel
theorem dX12_draws_40 : decode cX12_draws 40 = .ok (.goto (-17), 3) := by decide +kernel
theorem dX12_draws_43 : decode cX12_draws 43 = .ok (.iload_n 3, 1) := by decide +kernel
theorem dX12_draws_44 : decode cX12_draws 44 = .ok (.iload 4, 2) := by decide +kernel
theorem dX12_draws_46 : decode cX12_draws 46 = .ok (.ishr, 1) := by decide +kernel
theorem dX12_draws_47 : decode cX12_draws 47 = .ok (.iconst 1, 1) := by decide +kernel
theorem dX12_draws_48 : decode cX12_draws 48 = .ok (.iand, 1) := by decide +kernel
theorem dX12_draws_49 : decode cX12_draws 49 = .ok (.iconst 1, 1) := by decide +kernel
theorem dX12_draws_50 : decode cX12_draws 50 = .ok (.if_icmp .ne 7, 3) := by decide +kernel
theorem dX12_draws_53 : decode cX12_draws 53 = .ok (.iconst 1, 1) := by decide +kernel
theorem dX12_draws_54 : decode cX12_draws 54 = .ok (.goto 4, 3) := by decide +kernel
theorem dX12_draws_57 : decode cX12_draws 57 = .ok (.iconst 0, 1) := by decide +kernel
theorem dX12_draws_58 : decode cX12_draws 58 = .ok (.istore 8, 2) := by decide +kernel
theorem dX12_draws_60 : decode cX12_draws 60 = .ok (.iload_n 3, 1) := by decide +kernel
theorem dX12_draws_61 : decode cX12_draws 61 = .ok (.iconst 1, 1) := by decide +kernel
theorem dX12_draws_62 : decode cX12_draws 62 = .ok (.iload 4, 2) := by decide +kernel
theorem dX12_draws_64 : decode cX12_draws 64 = .ok (.ishl, 1) := by decide +kernel
theorem dX12_draws_65 : decode cX12_draws 65 = .ok (.iconst 1, 1) := by decide +kernel
theorem dX12_draws_66 : decode cX12_draws 66 = .ok (.isub, 1) := by decide +kernel
theorem dX12_draws_67 : decode cX12_draws 67 = .ok (.iand, 1) := by decide +kernel
theorem dX12_draws_68 : decode cX12_draws 68 = .ok (.invokestatic 83, 3) := by decide +kernel
theorem dX12_draws_71 : decode cX12_draws 71 = .ok (.istore 9, 2) := by decide +kernel
theorem dX12_draws_73 : decode cX12_draws 73 = .ok (.iconst 0, 1) := by decide +kernel
theorem dX12_draws_74 : decode cX12_draws 74 = .ok (.istore 10, 2) := by decide +kernel
theorem dX12_draws_76 : decode cX12_draws 76 = .ok (.iload 10, 2) := by decide +kernel
theorem dX12_draws_78 : decode cX12_draws 78 = .ok (.iload 8, 2) := by decide +kernel
theorem dX12_draws_80 : decode cX12_draws 80 = .ok (.ifCond .eq 7, 3) := by decide +kernel
theorem dX12_draws_83 : decode cX12_draws 83 = .ok (.iconst 1, 1) := by decide +kernel
theorem dX12_draws_84 : decode cX12_draws 84 = .ok (.goto 5, 3) := by decide +kernel
theorem dX12_draws_87 : decode cX12_draws 87 = .ok (.iload 7, 2) := by decide +kernel
theorem dX12_draws_89 : decode cX12_draws 89 = .ok (.if_icmp .ge 107, 3) := by decide +kernel
theorem dX12_draws_92 : decode cX12_draws 92 = .ok (.iload 10, 2) := by decide +kernel
theorem dX12_draws_94 : decode cX12_draws 94 = .ok (.istore 11, 2) := by decide +kernel
theorem dX12_draws_96 : decode cX12_draws 96 = .ok (.iload 6, 2) := by decide +kernel
theorem dX12_draws_98 : decode cX12_draws 98 = .ok (.iconst 1, 1) := by decide +kernel
theorem dX12_draws_99 : decode cX12_draws 99 = .ok (.isub, 1) := by decide +kernel
theorem dX12_draws_100 : decode cX12_draws 100 = .ok (.istore 12, 2) := by decide +kernel
theorem dX12_draws_102 : decode cX12_draws 102 = .ok (.iload 12, 2) := by decide +kernel
theorem dX12_draws_104 : decode cX12_draws 104 = .ok (.ifCond .lt 51, 3) := by decide +kernel
theorem dX12_draws_107 : decode cX12_draws 107 = .ok (.aload_n 2, 1) := by decide +kernel
theorem dX12_draws_108 : decode cX12_draws 108 = .ok (.iload 6, 2) := by decide +kernel
theorem dX12_draws_110 : decode cX12_draws 110 = .ok (.iload 4, 2) := by decide +kernel
theorem dX12_draws_112 : decode cX12_draws 112 = .ok (.imul, 1) := by decide +kernel
theorem dX12_draws_113 : decode cX12_draws 113 = .ok (.iload 12, 2) := by decide +kernel
theorem dX12_draws_115 : decode cX12_draws 115 = .ok (.iadd, 1) := by decide +kernel
theorem dX12_draws_116 : decode cX12_draws 116 = .ok (.iload 8, 2) := by decide +kernel
theorem dX12_draws_118 : decode cX12_draws 118 = .ok (.ifCond .eq 18, 3) := by decide +kernel
theorem dX12_draws_121 : decode cX12_draws 121 = .ok (.iload 12, 2) := by decide +kernel
theorem dX12_draws_123 : decode cX12_draws 123 = .ok (.iload 9, 2) := by decide +kernel
theorem dX12_draws_125 : decode cX12_draws 125 = .ok (.if_icmp .ne 7, 3) := by decide +kernel
theorem dX12_draws_128 : decode cX12_draws 128 = .ok (.iconst 1, 1) := by decide +kernel
theorem dX12_draws_129 : decode cX12_draws 129 = .ok (.goto 12, 3) := by decide +kernel
theorem dX12_draws_132 : decode cX12_draws 132 = .ok (.iconst 0, 1) := by decide +kernel
theorem dX12_draws_133 : decode cX12_draws 133 = .ok (.goto 8, 3) := by decide +kernel
theorem dX12_draws_136 : decode cX12_draws 136 = .ok (.iload 11, 2) := by decide +kernel
theorem dX12_draws_138 : decode cX12_draws 138 = .ok (.iload 5, 2) := by decide +kernel
theorem dX12_draws_140 : decode cX12_draws 140 = .ok (.irem, 1) := by decide +kernel
theorem dX12_draws_141 : decode cX12_draws 141 = .ok (.iastore, 1) := by decide +kernel
theorem dX12_draws_142 : decode cX12_draws 142 = .ok (.iload 11, 2) := by decide +kernel
theorem dX12_draws_144 : decode cX12_draws 144 = .ok (.iload 5, 2) := by decide +kernel
theorem dX12_draws_146 : decode cX12_draws 146 = .ok (.idiv, 1) := by decide +kernel
theorem dX12_draws_147 : decode cX12_draws 147 = .ok (.istore 11, 2) := by decide +kernel
theorem dX12_draws_149 : decode cX12_draws 149 = .ok (.iinc 12 (-1), 3) := by decide +kernel
theorem dX12_draws_152 : decode cX12_draws 152 = .ok (.goto (-50), 3) := by decide +kernel
theorem dX12_draws_155 : decode cX12_draws 155 = .ok (.aload_n 0, 1) := by decide +kernel
theorem dX12_draws_156 : decode cX12_draws 156 = .ok (.aload_n 1, 1) := by decide +kernel
theorem dX12_draws_157 : decode cX12_draws 157 = .ok (.aload_n 2, 1) := by decide +kernel
theorem dX12_draws_158 : decode cX12_draws 158 = .ok (.iload 6, 2) := by decide +kernel
theorem dX12_draws_160 : decode cX12_draws 160 = .ok (.iload 4, 2) := by decide +kernel
theorem dX12_draws_162 : decode cX12_draws 162 = .ok (.iconst 1, 1) := by decide +kernel
theorem dX12_draws_163 : decode cX12_draws 163 = .ok (.iadd, 1) := by decide +kernel
theorem dX12_draws_164 : decode cX12_draws 164 = .ok (.iload 5, 2) := by decide +kernel
theorem dX12_draws_166 : decode cX12_draws 166 = .ok (.invokevirtual 205, 3) := by decide +kernel
theorem dX12_draws_169 : decode cX12_draws 169 = .ok (.ifCond .eq 21, 3) := by decide +kernel
theorem dX12_draws_172 : decode cX12_draws 172 = .ok (.aload_n 0, 1) := by decide +kernel
theorem dX12_draws_173 : decode cX12_draws 173 = .ok (.aload_n 1, 1) := by decide +kernel
theorem dX12_draws_174 : decode cX12_draws 174 = .ok (.aload_n 2, 1) := by decide +kernel
theorem dX12_draws_175 : decode cX12_draws 175 = .ok (.iload_n 3, 1) := by decide +kernel
theorem dX12_draws_176 : decode cX12_draws 176 = .ok (.iload 4, 2) := by decide +kernel
theorem dX12_draws_178 : decode cX12_draws 178 = .ok (.iconst 1, 1) := by decide +kernel
theorem dX12_draws_179 : decode cX12_draws 179 = .ok (.iadd, 1) := by decide +kernel
theorem dX12_draws_180 : decode cX12_draws 180 = .ok (.iload 5, 2) := by decide +kernel
theorem dX12_draws_182 : decode cX12_draws 182 = .ok (.invokevirtual 209, 3) := by decide +kernel
theorem dX12_draws_185 : decode cX12_draws 185 = .ok (.ifCond .eq 5, 3) := by decide +kernel
theorem dX12_draws_188 : decode cX12_draws 188 = .ok (.iconst 1, 1) := by decide +kernel
theorem dX12_draws_189 : decode cX12_draws 189 = .ok (.ireturn, 1) := by decide +kernel
theorem dX12_draws_190 : decode cX12_draws 190 = .ok (.iinc 10 1, 3) := by decide +kernel
theorem dX12_draws_193 : decode cX12_draws 193 = .ok (.goto (-117), 3) := by decide +kernel
theorem dX12_draws_196 : decode cX12_draws 196 = .ok (.iconst 0, 1) := by decide +kernel
theorem dX12_draws_197 : decode cX12_draws 197 = .ok (.istore 10, 2) := by decide +kernel
theorem dX12_draws_199 : decode cX12_draws 199 = .ok (.iload 10, 2) := by decide +kernel
theorem dX12_draws_201 : decode cX12_draws 201 = .ok (.iload 6, 2) := by decide +kernel
theorem dX12_draws_203 : decode cX12_draws 203 = .ok (.if_icmp .ge 20, 3) := by decide +kernel
theorem dX12_draws_206 : decode cX12_draws 206 = .ok (.aload_n 2, 1) := by decide +kernel
theorem dX12_draws_207 : decode cX12_draws 207 = .ok (.iload 6, 2) := by decide +kernel
theorem dX12_draws_209 : decode cX12_draws 209 = .ok (.iload 4, 2) := by decide +kernel
theorem dX12_draws_211 : decode cX12_draws 211 = .ok (.imul, 1) := by decide +kernel
theorem dX12_draws_212 : decode cX12_draws 212 = .ok (.iload 10, 2) := by decide +kernel
theorem dX12_draws_214 : decode cX12_draws 214 = .ok (.iadd, 1) := by decide +kernel
theorem dX12_draws_215 : decode cX12_draws 215 = .ok (.iconst 0, 1) := by decide +kernel
theorem dX12_draws_216 : decode cX12_draws 216 = .ok (.iastore, 1) := by decide +kernel
theorem dX12_draws_217 : decode cX12_draws 217 = .ok (.iinc 10 1, 3) := by decide +kernel
theorem dX12_draws_220 : decode cX12_draws 220 = .ok (.goto (-21), 3) := by decide +kernel
theorem dX12_draws_223 : decode cX12_draws 223 = .ok (.iconst 0, 1) := by decide +kernel
theorem dX12_draws_224 : decode cX12_draws 224 = .ok (.ireturn, 1) := by decide +kernel
theorem dX12_drawing_0 : decode cX12_drawing 0 = .ok (.iload_n 2, 1) := by decide +kernel
theorem dX12_drawing_1 : decode cX12_drawing 1 = .ok (.iconst 2, 1) := by decide +kernel
theorem dX12_drawing_2 : decode cX12_drawing 2 = .ok (.if_icmp .ne 13, 3) := by decide +kernel
theorem dX12_drawing_5 : decode cX12_drawing 5 = .ok (.aload_n 1, 1) := by decide +kernel
theorem dX12_drawing_6 : decode cX12_drawing 6 = .ok (.getfield 212, 3) := by decide +kernel
theorem dX12_drawing_9 : decode cX12_drawing 9 = .ok (.ifCond .eq 30, 3) := by decide +kernel
theorem dX12_drawing_12 : decode cX12_drawing 12 = .ok (.goto 10, 3) := by decide +kernel
theorem dX12_drawing_15 : decode cX12_drawing 15 = .ok (.aload_n 1, 1) := by decide +kernel
theorem dX12_drawing_16 : decode cX12_drawing 16 = .ok (.getfield 216, 3) := by decide +kernel
theorem dX12_drawing_19 : decode cX12_drawing 19 = .ok (.ifCond .eq 20, 3) := by decide +kernel
theorem dX12_drawing_22 : decode cX12_drawing 22 = .ok (.iload_n 2, 1) := by decide +kernel
theorem dX12_drawing_23 : decode cX12_drawing 23 = .ok (.iconst 2, 1) := by decide +kernel
theorem dX12_drawing_24 : decode cX12_drawing 24 = .ok (.if_icmp .ne 10, 3) := by decide +kernel
theorem dX12_drawing_27 : decode cX12_drawing 27 = .ok (.aload_n 1, 1) := by decide +kernel
theorem dX12_drawing_28 : decode cX12_drawing 28 = .ok (.getfield 219, 3) := by decide +kernel
theorem dX12_drawing_31 : decode cX12_drawing 31 = .ok (.goto 7, 3) := by decide +kernel
theorem dX12_drawing_34 : decode cX12_drawing 34 = .ok (.aload_n 1, 1) := by decide +kernel
theorem dX12_drawing_35 : decode cX12_drawing 35 = .ok (.getfield 222, 3) := by decide +kernel
theorem dX12_drawing_38 : decode cX12_drawing 38 = .ok (.areturn, 1) := by decide +kernel
theorem dX12_drawing_39 : decode cX12_drawing 39 = .ok (.bipush 100, 2) := by decide +kernel
theorem dX12_drawing_41 : decode cX12_drawing 41 = .ok (.newarray .int, 2) := by decide +kernel
theorem dX12_drawing_43 : decode cX12_drawing 43 = .ok (.astore_n 3, 1) := by decide +kernel
theorem dX12_drawing_44 : decode cX12_drawing 44 = .ok (.aload_n 0, 1) := by decide +kernel
theorem dX12_drawing_45 : decode cX12_drawing 45 = .ok (.aload_n 1, 1) := by decide +kernel
theorem dX12_drawing_46 : decode cX12_drawing 46 = .ok (.aload_n 3, 1) := by decide +kernel
theorem dX12_drawing_47 : decode cX12_drawing 47 = .ok (.aload_n 1, 1) := by decide +kernel
theorem dX12_drawing_48 : decode cX12_drawing 48 = .ok (.invokestatic 225, 3) := by decide +kernel
theorem dX12_drawing_51 : decode cX12_drawing 51 = .ok (.iconst 0, 1) := by decide +kernel
theorem dX12_drawing_52 : decode cX12_drawing 52 = .ok (.iload_n 2, 1) := by decide +kernel
theorem dX12_drawing_53 : decode cX12_drawing 53 = .ok (.invokevirtual 209, 3) := by decide +kernel
theorem dX12_drawing_56 : decode cX12_drawing 56 = .ok (.ifCond .eq 7, 3) := by decide +kernel
theorem dX12_drawing_59 : decode cX12_drawing 59 = .ok (.aload_n 3, 1) := by decide +kernel
theorem dX12_drawing_60 : decode cX12_drawing 60 = .ok (.goto 4, 3) := by decide +kernel
theorem dX12_drawing_63 : decode cX12_drawing 63 = .ok (.aconst_null, 1) := by decide +kernel
theorem dX12_drawing_64 : decode cX12_drawing 64 = .ok (.astore 4, 2) := by decide +kernel
theorem dX12_drawing_66 : decode cX12_drawing 66 = .ok (.iload_n 2, 1) := by decide +kernel
theorem dX12_drawing_67 : decode cX12_drawing 67 = .ok (.iconst 2, 1) := by decide +kernel
theorem dX12_drawing_68 : decode cX12_drawing 68 = .ok (.if_icmp .ne 17, 3) := by decide +kernel
theorem dX12_drawing_71 : decode cX12_drawing 71 = .ok (.aload_n 1, 1) := by decide +kernel
theorem dX12_drawing_72 : decode cX12_drawing 72 = .ok (.iconst 1, 1) := by decide +kernel
theorem dX12_drawing_73 : decode cX12_drawing 73 = .ok (.putfield 212, 3) := by decide +kernel
theorem dX12_drawing_76 : decode cX12_drawing 76 = .ok (.aload_n 1, 1) := by decide +kernel
theorem dX12_drawing_77 : decode cX12_drawing 77 = .ok (.aload 4, 2) := by decide +kernel
theorem dX12_drawing_79 : decode cX12_drawing 79 = .ok (.putfield 219, 3) := by decide +kernel
theorem dX12_drawing_82 : decode cX12_drawing 82 = .ok (.goto 14, 3) := by decide +kernel
theorem dX12_drawing_85 : decode cX12_drawing 85 = .ok (.aload_n 1, 1) := by decide +kernel
theorem dX12_drawing_86 : decode cX12_drawing 86 = .ok (.iconst 1, 1) := by decide +kernel
theorem dX12_drawing_87 : decode cX12_drawing 87 = .ok (.putfield 216, 3) := by decide +kernel
theorem dX12_drawing_90 : decode cX12_drawing 90 = .ok (.aload_n 1, 1) := by decide +kernel
theorem dX12_drawing_91 : decode cX12_drawing 91 = .ok (.aload 4, 2) := by decide +kernel
theorem dX12_drawing_93 : decode cX12_drawing 93 = .ok (.putfield 222, 3) := by decide +kernel
theorem dX12_drawing_96 : decode cX12_drawing 96 = .ok (.aload 4, 2) := by decide +kernel
theorem dX12_drawing_98 : decode cX12_drawing 98 = .ok (.areturn, 1) := by decide +kernel
theorem dX12_canBeDrawn_0 : decode cX12_canBeDrawn 0 = .ok (.aload_n 0, 1) := by decide +kernel
theorem dX12_canBeDrawn_1 : decode cX12_canBeDrawn 1 = .ok (.iconst 0, 1) := by decide +kernel
theorem dX12_canBeDrawn_2 : decode cX12_canBeDrawn 2 = .ok (.putfield 40, 3) := by decide +kernel
theorem dX12_canBeDrawn_5 : decode cX12_canBeDrawn 5 = .ok (.aload_n 0, 1) := by decide +kernel
theorem dX12_canBeDrawn_6 : decode cX12_canBeDrawn 6 = .ok (.aload_n 0, 1) := by decide +kernel
theorem dX12_canBeDrawn_7 : decode cX12_canBeDrawn 7 = .ok (.iload_n 1, 1) := by decide +kernel
theorem dX12_canBeDrawn_8 : decode cX12_canBeDrawn 8 = .ok (.invokevirtual 52, 3) := by decide +kernel
theorem dX12_canBeDrawn_11 : decode cX12_canBeDrawn 11 = .ok (.iconst 1, 1) := by decide +kernel
theorem dX12_canBeDrawn_12 : decode cX12_canBeDrawn 12 = .ok (.invokevirtual 69, 3) := by decide +kernel
theorem dX12_canBeDrawn_15 : decode cX12_canBeDrawn 15 = .ok (.ifCond .ne 49, 3) := by decide +kernel
theorem dX12_canBeDrawn_18 : decode cX12_canBeDrawn 18 = .ok (.aload_n 0, 1) := by decide +kernel
theorem dX12_canBeDrawn_19 : decode cX12_canBeDrawn 19 = .ok (.iload_n 2, 1) := by decide +kernel
theorem dX12_canBeDrawn_20 : decode cX12_canBeDrawn 20 = .ok (.iconst 2, 1) := by decide +kernel
theorem dX12_canBeDrawn_21 : decode cX12_canBeDrawn 21 = .ok (.if_icmp .eq 12, 3) := by decide +kernel
theorem dX12_canBeDrawn_24 : decode cX12_canBeDrawn 24 = .ok (.iload_n 2, 1) := by decide +kernel
theorem dX12_canBeDrawn_25 : decode cX12_canBeDrawn 25 = .ok (.iconst 3, 1) := by decide +kernel
theorem dX12_canBeDrawn_26 : decode cX12_canBeDrawn 26 = .ok (.if_icmp .eq 7, 3) := by decide +kernel
theorem dX12_canBeDrawn_29 : decode cX12_canBeDrawn 29 = .ok (.iconst 1, 1) := by decide +kernel
theorem dX12_canBeDrawn_30 : decode cX12_canBeDrawn 30 = .ok (.goto 4, 3) := by decide +kernel
theorem dX12_canBeDrawn_33 : decode cX12_canBeDrawn 33 = .ok (.iconst 0, 1) := by decide +kernel
theorem dX12_canBeDrawn_34 : decode cX12_canBeDrawn 34 = .ok (.iconst 2, 1) := by decide +kernel
theorem dX12_canBeDrawn_35 : decode cX12_canBeDrawn 35 = .ok (.invokevirtual 69, 3) := by decide +kernel
theorem dX12_canBeDrawn_38 : decode cX12_canBeDrawn 38 = .ok (.ifCond .ne 26, 3) := by decide +kernel
theorem dX12_canBeDrawn_41 : decode cX12_canBeDrawn 41 = .ok (.aload_n 0, 1) := by decide +kernel
theorem dX12_canBeDrawn_42 : decode cX12_canBeDrawn 42 = .ok (.aload_n 0, 1) := by decide +kernel
theorem dX12_canBeDrawn_43 : decode cX12_canBeDrawn 43 = .ok (.getfield 19, 3) := by decide +kernel
theorem dX12_canBeDrawn_46 : decode cX12_canBeDrawn 46 = .ok (.iload_n 1, 1) := by decide +kernel
theorem dX12_canBeDrawn_47 : decode cX12_canBeDrawn 47 = .ok (.invokevirtual 56, 3) := by decide +kernel
theorem dX12_canBeDrawn_50 : decode cX12_canBeDrawn 50 = .ok (.checkcast 33, 3) := by decide +kernel
theorem dX12_canBeDrawn_53 : decode cX12_canBeDrawn 53 = .ok (.iload_n 2, 1) := by decide +kernel
theorem dX12_canBeDrawn_54 : decode cX12_canBeDrawn 54 = .ok (.invokevirtual 228, 3) := by decide +kernel
theorem dX12_canBeDrawn_57 : decode cX12_canBeDrawn 57 = .ok (.ifnull 7, 3) := by decide +kernel
theorem dX12_canBeDrawn_60 : decode cX12_canBeDrawn 60 = .ok (.iconst 1, 1) := by decide +kernel
theorem dX12_canBeDrawn_61 : decode cX12_canBeDrawn 61 = .ok (.goto 4, 3) := by decide +kernel
theorem dX12_canBeDrawn_64 : decode cX12_canBeDrawn 64 = .ok (.iconst 0, 1) := by decide +kernel
theorem dX12_canBeDrawn_65 : decode cX12_canBeDrawn 65 = .ok (.ireturn, 1) := by decide +kernel
theorem dX12_entry_0 : decode cX12_entry 0 = .ok (.aload_n 0, 1) := by decide +kernel
theorem dX12_entry_1 : decode cX12_entry 1 = .ok (.iconst 0, 1) := by decide +kernel
theorem dX12_entry_2 : decode cX12_entry 2 = .ok (.putfield 40, 3) := by decide +kernel
theorem dX12_entry_5 : decode cX12_entry 5 = .ok (.aload_n 0, 1) := by decide +kernel
theorem dX12_entry_6 : decode cX12_entry 6 = .ok (.aload_n 0, 1) := by decide +kernel
theorem dX12_entry_7 : decode cX12_entry 7 = .ok (.iload_n 1, 1) := by decide +kernel
theorem dX12_entry_8 : decode cX12_entry 8 = .ok (.iload 4, 2) := by decide +kernel
theorem dX12_entry_10 : decode cX12_entry 10 = .ok (.invokevirtual 138, 3) := by decide +kernel
theorem dX12_entry_13 : decode cX12_entry 13 = .ok (.iconst 1, 1) := by decide +kernel
theorem dX12_entry_14 : decode cX12_entry 14 = .ok (.invokevirtual 69, 3) := by decide +kernel
theorem dX12_entry_17 : decode cX12_entry 17 = .ok (.ifCond .ne 26, 3) := by decide +kernel
theorem dX12_entry_20 : decode cX12_entry 20 = .ok (.aload_n 0, 1) := by decide +kernel
theorem dX12_entry_21 : decode cX12_entry 21 = .ok (.iload_n 2, 1) := by decide +kernel
theorem dX12_entry_22 : decode cX12_entry 22 = .ok (.iconst 2, 1) := by decide +kernel
theorem dX12_entry_23 : decode cX12_entry 23 = .ok (.if_icmp .eq 12, 3) := by decide +kernel
theorem dX12_entry_26 : decode cX12_entry 26 = .ok (.iload_n 2, 1) := by decide +kernel
theorem dX12_entry_27 : decode cX12_entry 27 = .ok (.iconst 3, 1) := by decide +kernel
theorem dX12_entry_28 : decode cX12_entry 28 = .ok (.if_icmp .eq 7, 3) := by decide +kernel
theorem dX12_entry_31 : decode cX12_entry 31 = .ok (.iconst 1, 1) := by decide +kernel
theorem dX12_entry_32 : decode cX12_entry 32 = .ok (.goto 4, 3) := by decide +kernel
theorem dX12_entry_35 : decode cX12_entry 35 = .ok (.iconst 0, 1) := by decide +kernel
theorem dX12_entry_36 : decode cX12_entry 36 = .ok (.iconst 2, 1) := by decide +kernel
theorem dX12_entry_37 : decode cX12_entry 37 = .ok (.invokevirtual 69, 3) := by decide +kernel
theorem dX12_entry_40 : decode cX12_entry 40 = .ok (.ifCond .eq 5, 3) := by decide +kernel
theorem dX12_entry_43 : decode cX12_entry 43 = .ok (.iconst 0, 1) := by decide +kernel
theorem dX12_entry_44 : decode cX12_entry 44 = .ok (.ireturn, 1) := by decide +kernel
theorem dX12_entry_45 : decode cX12_entry 45 = .ok (.aload_n 0, 1) := by decide +kernel
theorem dX12_entry_46 : decode cX12_entry 46 = .ok (.getfield 19, 3) := by decide +kernel
theorem dX12_entry_49 : decode cX12_entry 49 = .ok (.iload_n 1, 1) := by decide +kernel
theorem dX12_entry_50 : decode cX12_entry 50 = .ok (.invokevirtual 56, 3) := by decide +kernel
theorem dX12_entry_53 : decode cX12_entry 53 = .ok (.checkcast 33, 3) := by decide +kernel
theorem dX12_entry_56 : decode cX12_entry 56 = .ok (.astore 5, 2) := by decide +kernel
theorem dX12_entry_58 : decode cX12_entry 58 = .ok (.aload_n 0, 1) := by decide +kernel
theorem dX12_entry_59 : decode cX12_entry 59 = .ok (.aload 5, 2) := by decide +kernel
theorem dX12_entry_61 : decode cX12_entry 61 = .ok (.iload_n 2, 1) := by decide +kernel
theorem dX12_entry_62 : decode cX12_entry 62 = .ok (.invokevirtual 228, 3) := by decide +kernel
theorem dX12_entry_65 : decode cX12_entry 65 = .ok (.astore 6, 2) := by decide +kernel
theorem dX12_entry_67 : decode cX12_entry 67 = .ok (.aload_n 0, 1) := by decide +kernel
theorem dX12_entry_68 : decode cX12_entry 68 = .ok (.aload 6, 2) := by decide +kernel
theorem dX12_entry_70 : decode cX12_entry 70 = .ok (.ifnull 18, 3) := by decide +kernel
theorem dX12_entry_73 : decode cX12_entry 73 = .ok (.iload_n 3, 1) := by decide +kernel
theorem dX12_entry_74 : decode cX12_entry 74 = .ok (.iconst 0, 1) := by decide +kernel
theorem dX12_entry_75 : decode cX12_entry 75 = .ok (.aload 5, 2) := by decide +kernel
theorem dX12_entry_77 : decode cX12_entry 77 = .ok (.invokevirtual 135, 3) := by decide +kernel
theorem dX12_entry_80 : decode cX12_entry 80 = .ok (.iconst 1, 1) := by decide +kernel
theorem dX12_entry_81 : decode cX12_entry 81 = .ok (.isub, 1) := by decide +kernel
theorem dX12_entry_82 : decode cX12_entry 82 = .ok (.invokestatic 48, 3) := by decide +kernel
theorem dX12_entry_85 : decode cX12_entry 85 = .ok (.ifCond .ne 7, 3) := by decide +kernel
theorem dX12_entry_88 : decode cX12_entry 88 = .ok (.iconst 1, 1) := by decide +kernel
theorem dX12_entry_89 : decode cX12_entry 89 = .ok (.goto 4, 3) := by decide +kernel
theorem dX12_entry_92 : decode cX12_entry 92 = .ok (.iconst 0, 1) := by decide +kernel
theorem dX12_entry_93 : decode cX12_entry 93 = .ok (.iconst 3, 1) := by decide +kernel
theorem dX12_entry_94 : decode cX12_entry 94 = .ok (.invokevirtual 69, 3) := by decide +kernel
theorem dX12_entry_97 : decode cX12_entry 97 = .ok (.ifCond .eq 7, 3) := by decide +kernel
theorem dX12_entry_100 : decode cX12_entry 100 = .ok (.iconst 0, 1) := by decide +kernel
theorem dX12_entry_101 : decode cX12_entry 101 = .ok (.goto 16, 3) := by decide +kernel
theorem dX12_entry_104 : decode cX12_entry 104 = .ok (.aload 6, 2) := by decide +kernel
theorem dX12_entry_106 : decode cX12_entry 106 = .ok (.aload 5, 2) := by decide +kernel
theorem dX12_entry_108 : decode cX12_entry 108 = .ok (.invokevirtual 135, 3) := by decide +kernel
theorem dX12_entry_111 : decode cX12_entry 111 = .ok (.iload 4, 2) := by decide +kernel
theorem dX12_entry_113 : decode cX12_entry 113 = .ok (.imul, 1) := by decide +kernel
theorem dX12_entry_114 : decode cX12_entry 114 = .ok (.iload_n 3, 1) := by decide +kernel
theorem dX12_entry_115 : decode cX12_entry 115 = .ok (.iadd, 1) := by decide +kernel
theorem dX12_entry_116 : decode cX12_entry 116 = .ok (.iaload, 1) := by decide +kernel
theorem dX12_entry_117 : decode cX12_entry 117 = .ok (.ireturn, 1) := by decide +kernel
theorem dX12_greedy_0 : decode cX12_greedy 0 = .ok (.aload_n 0, 1) := by decide +kernel
theorem dX12_greedy_1 : decode cX12_greedy 1 = .ok (.iconst 0, 1) := by decide +kernel
theorem dX12_greedy_2 : decode cX12_greedy 2 = .ok (.putfield 40, 3) := by decide +kernel
theorem dX12_greedy_5 : decode cX12_greedy 5 = .ok (.aload_n 0, 1) := by decide +kernel
theorem dX12_greedy_6 : decode cX12_greedy 6 = .ok (.aload_n 0, 1) := by decide +kernel
theorem dX12_greedy_7 : decode cX12_greedy 7 = .ok (.iload_n 1, 1) := by decide +kernel
theorem dX12_greedy_8 : decode cX12_greedy 8 = .ok (.invokevirtual 52, 3) := by decide +kernel
theorem dX12_greedy_11 : decode cX12_greedy 11 = .ok (.iconst 1, 1) := by decide +kernel
theorem dX12_greedy_12 : decode cX12_greedy 12 = .ok (.invokevirtual 69, 3) := by decide +kernel
theorem dX12_greedy_15 : decode cX12_greedy 15 = .ok (.ifCond .ne 37, 3) := by decide +kernel
theorem dX12_greedy_18 : decode cX12_greedy 18 = .ok (.aload_n 0, 1) := by decide +kernel
theorem dX12_greedy_19 : decode cX12_greedy 19 = .ok (.aload_n 0, 1) := by decide +kernel
theorem dX12_greedy_20 : decode cX12_greedy 20 = .ok (.getfield 73, 3) := by decide +kernel
theorem dX12_greedy_23 : decode cX12_greedy 23 = .ok (.aload_n 0, 1) := by decide +kernel
theorem dX12_greedy_24 : decode cX12_greedy 24 = .ok (.getfield 19, 3) := by decide +kernel
theorem dX12_greedy_27 : decode cX12_greedy 27 = .ok (.iload_n 1, 1) := by decide +kernel
theorem dX12_greedy_28 : decode cX12_greedy 28 = .ok (.invokevirtual 56, 3) := by decide +kernel
theorem dX12_greedy_31 : decode cX12_greedy 31 = .ok (.checkcast 33, 3) := by decide +kernel
theorem dX12_greedy_34 : decode cX12_greedy 34 = .ok (.getfield 60, 3) := by decide +kernel
theorem dX12_greedy_37 : decode cX12_greedy 37 = .ok (.if_icmp .eq 7, 3) := by decide +kernel
theorem dX12_greedy_40 : decode cX12_greedy 40 = .ok (.iconst 1, 1) := by decide +kernel
theorem dX12_greedy_41 : decode cX12_greedy 41 = .ok (.goto 4, 3) := by decide +kernel
theorem dX12_greedy_44 : decode cX12_greedy 44 = .ok (.iconst 0, 1) := by decide +kernel
theorem dX12_greedy_45 : decode cX12_greedy 45 = .ok (.iconst 2, 1) := by decide +kernel
theorem dX12_greedy_46 : decode cX12_greedy 46 = .ok (.invokevirtual 69, 3) := by decide +kernel
theorem dX12_greedy_49 : decode cX12_greedy 49 = .ok (.ifCond .eq 5, 3) := by decide +kernel
theorem dX12_greedy_52 : decode cX12_greedy 52 = .ok (.iconst 0, 1) := by decide +kernel
theorem dX12_greedy_53 : decode cX12_greedy 53 = .ok (.ireturn, 1) := by decide +kernel
theorem dX12_greedy_54 : decode cX12_greedy 54 = .ok (.aload_n 0, 1) := by decide +kernel
theorem dX12_greedy_55 : decode cX12_greedy 55 = .ok (.getfield 19, 3) := by decide +kernel
theorem dX12_greedy_58 : decode cX12_greedy 58 = .ok (.iload_n 1, 1) := by decide +kernel
theorem dX12_greedy_59 : decode cX12_greedy 59 = .ok (.invokevirtual 56, 3) := by decide +kernel
theorem dX12_greedy_62 : decode cX12_greedy 62 = .ok (.checkcast 33, 3) := by decide +kernel
theorem dX12_greedy_65 : decode cX12_greedy 65 = .ok (.astore_n 2, 1) := by decide +kernel
theorem dX12_greedy_66 : decode cX12_greedy 66 = .ok (.iconst 0, 1) := by decide +kernel
theorem dX12_greedy_67 : decode cX12_greedy 67 = .ok (.istore_n 3, 1) := by decide +kernel
theorem dX12_greedy_68 : decode cX12_greedy 68 = .ok (.sipush 1023, 3) := by decide +kernel
theorem dX12_greedy_71 : decode cX12_greedy 71 = .ok (.istore 4, 2) := by decide +kernel
theorem dX12_greedy_73 : decode cX12_greedy 73 = .ok (.iload 4, 2) := by decide +kernel
theorem dX12_greedy_75 : decode cX12_greedy 75 = .ok (.ifCond .lt 63, 3) := by decide +kernel
theorem dX12_greedy_78 : decode cX12_greedy 78 = .ok (.iconst 0, 1) := by decide +kernel
theorem dX12_greedy_79 : decode cX12_greedy 79 = .ok (.istore 5, 2) := by decide +kernel
theorem dX12_greedy_81 : decode cX12_greedy 81 = .ok (.iload 5, 2) := by decide +kernel
theorem dX12_greedy_83 : decode cX12_greedy 83 = .ok (.aload_n 2, 1) := by decide +kernel
theorem dX12_greedy_84 : decode cX12_greedy 84 = .ok (.getfield 60, 3) := by decide +kernel
theorem dX12_greedy_87 : decode cX12_greedy 87 = .ok (.if_icmp .ge 45, 3) := by decide +kernel
theorem dX12_greedy_90 : decode cX12_greedy 90 = .ok (.iload_n 3, 1) := by decide +kernel
theorem dX12_greedy_91 : decode cX12_greedy 91 = .ok (.aload_n 0, 1) := by decide +kernel
theorem dX12_greedy_92 : decode cX12_greedy 92 = .ok (.getfield 7, 3) := by decide +kernel
theorem dX12_greedy_95 : decode cX12_greedy 95 = .ok (.iload 5, 2) := by decide +kernel
theorem dX12_greedy_97 : decode cX12_greedy 97 = .ok (.iaload, 1) := by decide +kernel
theorem dX12_greedy_98 : decode cX12_greedy 98 = .ok (.iload 4, 2) := by decide +kernel
theorem dX12_greedy_100 : decode cX12_greedy 100 = .ok (.if_icmp .ne 23, 3) := by decide +kernel
theorem dX12_greedy_103 : decode cX12_greedy 103 = .ok (.aload_n 2, 1) := by decide +kernel
theorem dX12_greedy_104 : decode cX12_greedy 104 = .ok (.iload_n 3, 1) := by decide +kernel
theorem dX12_greedy_105 : decode cX12_greedy 105 = .ok (.iconst 1, 1) := by decide +kernel
theorem dX12_greedy_106 : decode cX12_greedy 106 = .ok (.iload 5, 2) := by decide +kernel
theorem dX12_greedy_108 : decode cX12_greedy 108 = .ok (.ishl, 1) := by decide +kernel
theorem dX12_greedy_109 : decode cX12_greedy 109 = .ok (.ior, 1) := by decide +kernel
theorem dX12_greedy_110 : decode cX12_greedy 110 = .ok (.invokevirtual 152, 3) := by decide +kernel
theorem dX12_greedy_113 : decode cX12_greedy 113 = .ok (.ifCond .eq 10, 3) := by decide +kernel
theorem dX12_greedy_116 : decode cX12_greedy 116 = .ok (.iconst 1, 1) := by decide +kernel
theorem dX12_greedy_117 : decode cX12_greedy 117 = .ok (.iload 5, 2) := by decide +kernel
theorem dX12_greedy_119 : decode cX12_greedy 119 = .ok (.ishl, 1) := by decide +kernel
theorem dX12_greedy_120 : decode cX12_greedy 120 = .ok (.goto 4, 3) := by decide +kernel
theorem dX12_greedy_123 : decode cX12_greedy 123 = .ok (.iconst 0, 1) := by decide +kernel
theorem dX12_greedy_124 : decode cX12_greedy 124 = .ok (.ior, 1) := by decide +kernel
theorem dX12_greedy_125 : decode cX12_greedy 125 = .ok (.istore_n 3, 1) := by decide +kernel
theorem dX12_greedy_126 : decode cX12_greedy 126 = .ok (.iinc 5 1, 3) := by decide +kernel
theorem dX12_greedy_129 : decode cX12_greedy 129 = .ok (.goto (-48), 3) := by decide +kernel
theorem dX12_greedy_132 : decode cX12_greedy 132 = .ok (.iinc 4 (-1), 3) := by decide +kernel
theorem dX12_greedy_135 : decode cX12_greedy 135 = .ok (.goto (-62), 3) := by decide +kernel
theorem dX12_greedy_138 : decode cX12_greedy 138 = .ok (.iload_n 3, 1) := by decide +kernel
theorem dX12_greedy_139 : decode cX12_greedy 139 = .ok (.ireturn, 1) := by decide +kernel
theorem dX12_most_0 : decode cX12_most 0 = .ok (.aload_n 0, 1) := by decide +kernel
theorem dX12_most_1 : decode cX12_most 1 = .ok (.getfield 19, 3) := by decide +kernel
theorem dX12_most_4 : decode cX12_most 4 = .ok (.iload_n 1, 1) := by decide +kernel
theorem dX12_most_5 : decode cX12_most 5 = .ok (.invokevirtual 56, 3) := by decide +kernel
theorem dX12_most_8 : decode cX12_most 8 = .ok (.checkcast 33, 3) := by decide +kernel
theorem dX12_most_11 : decode cX12_most 11 = .ok (.astore_n 3, 1) := by decide +kernel
theorem dX12_most_12 : decode cX12_most 12 = .ok (.iconst 0, 1) := by decide +kernel
theorem dX12_most_13 : decode cX12_most 13 = .ok (.istore 4, 2) := by decide +kernel
theorem dX12_most_15 : decode cX12_most 15 = .ok (.iconst 0, 1) := by decide +kernel
theorem dX12_most_16 : decode cX12_most 16 = .ok (.istore 5, 2) := by decide +kernel
theorem dX12_most_18 : decode cX12_most 18 = .ok (.iload 5, 2) := by decide +kernel
theorem dX12_most_20 : decode cX12_most 20 = .ok (.aload_n 3, 1) := by decide +kernel
theorem dX12_most_21 : decode cX12_most 21 = .ok (.invokevirtual 62, 3) := by decide +kernel
theorem dX12_most_24 : decode cX12_most 24 = .ok (.if_icmp .gt 54, 3) := by decide +kernel
theorem dX12_most_27 : decode cX12_most 27 = .ok (.aload_n 3, 1) := by decide +kernel
theorem dX12_most_28 : decode cX12_most 28 = .ok (.iload 5, 2) := by decide +kernel
theorem dX12_most_30 : decode cX12_most 30 = .ok (.invokevirtual 152, 3) := by decide +kernel
theorem dX12_most_33 : decode cX12_most 33 = .ok (.ifCond .eq 35, 3) := by decide +kernel
theorem dX12_most_36 : decode cX12_most 36 = .ok (.aload_n 0, 1) := by decide +kernel
theorem dX12_most_37 : decode cX12_most 37 = .ok (.getfield 19, 3) := by decide +kernel
theorem dX12_most_40 : decode cX12_most 40 = .ok (.iload_n 2, 1) := by decide +kernel
theorem dX12_most_41 : decode cX12_most 41 = .ok (.invokevirtual 56, 3) := by decide +kernel
theorem dX12_most_44 : decode cX12_most 44 = .ok (.checkcast 33, 3) := by decide +kernel
theorem dX12_most_47 : decode cX12_most 47 = .ok (.iload 5, 2) := by decide +kernel
theorem dX12_most_49 : decode cX12_most 49 = .ok (.invokevirtual 152, 3) := by decide +kernel
theorem dX12_most_52 : decode cX12_most 52 = .ok (.ifCond .eq 16, 3) := by decide +kernel
theorem dX12_most_55 : decode cX12_most 55 = .ok (.iload 4, 2) := by decide +kernel
theorem dX12_most_57 : decode cX12_most 57 = .ok (.iload 5, 2) := by decide +kernel
theorem dX12_most_59 : decode cX12_most 59 = .ok (.invokestatic 83, 3) := by decide +kernel
theorem dX12_most_62 : decode cX12_most 62 = .ok (.invokestatic 232, 3) := by decide +kernel
theorem dX12_most_65 : decode cX12_most 65 = .ok (.goto 5, 3) := by decide +kernel
theorem dX12_most_68 : decode cX12_most 68 = .ok (.iload 4, 2) := by decide +kernel
theorem dX12_most_70 : decode cX12_most 70 = .ok (.istore 4, 2) := by decide +kernel
theorem dX12_most_72 : decode cX12_most 72 = .ok (.iinc 5 1, 3) := by decide +kernel
theorem dX12_most_75 : decode cX12_most 75 = .ok (.goto (-57), 3) := by decide +kernel
theorem dX12_most_78 : decode cX12_most 78 = .ok (.iload 4, 2) := by decide +kernel
theorem dX12_most_80 : decode cX12_most 80 = .ok (.ireturn, 1) := by decide +kernel
theorem dX12_cannotMeet_0 : decode cX12_cannotMeet 0 = .ok (.aload_n 0, 1) := by decide +kernel
theorem dX12_cannotMeet_1 : decode cX12_cannotMeet 1 = .ok (.iconst 0, 1) := by decide +kernel
theorem dX12_cannotMeet_2 : decode cX12_cannotMeet 2 = .ok (.putfield 40, 3) := by decide +kernel
theorem dX12_cannotMeet_5 : decode cX12_cannotMeet 5 = .ok (.aload_n 0, 1) := by decide +kernel
theorem dX12_cannotMeet_6 : decode cX12_cannotMeet 6 = .ok (.aload_n 0, 1) := by decide +kernel
theorem dX12_cannotMeet_7 : decode cX12_cannotMeet 7 = .ok (.iload_n 1, 1) := by decide +kernel
theorem dX12_cannotMeet_8 : decode cX12_cannotMeet 8 = .ok (.invokevirtual 52, 3) := by decide +kernel
theorem dX12_cannotMeet_11 : decode cX12_cannotMeet 11 = .ok (.ifCond .ne 11, 3) := by decide +kernel
theorem dX12_cannotMeet_14 : decode cX12_cannotMeet 14 = .ok (.aload_n 0, 1) := by decide +kernel
theorem dX12_cannotMeet_15 : decode cX12_cannotMeet 15 = .ok (.iload_n 2, 1) := by decide +kernel
theorem dX12_cannotMeet_16 : decode cX12_cannotMeet 16 = .ok (.invokevirtual 52, 3) := by decide +kernel
theorem dX12_cannotMeet_19 : decode cX12_cannotMeet 19 = .ok (.ifCond .eq 7, 3) := by decide +kernel
theorem dX12_cannotMeet_22 : decode cX12_cannotMeet 22 = .ok (.iconst 1, 1) := by decide +kernel
theorem dX12_cannotMeet_23 : decode cX12_cannotMeet 23 = .ok (.goto 4, 3) := by decide +kernel
theorem dX12_cannotMeet_26 : decode cX12_cannotMeet 26 = .ok (.iconst 0, 1) := by decide +kernel
theorem dX12_cannotMeet_27 : decode cX12_cannotMeet 27 = .ok (.iconst 1, 1) := by decide +kernel
theorem dX12_cannotMeet_28 : decode cX12_cannotMeet 28 = .ok (.invokevirtual 69, 3) := by decide +kernel
theorem dX12_cannotMeet_31 : decode cX12_cannotMeet 31 = .ok (.ifCond .ne 17, 3) := by decide +kernel
theorem dX12_cannotMeet_34 : decode cX12_cannotMeet 34 = .ok (.aload_n 0, 1) := by decide +kernel
theorem dX12_cannotMeet_35 : decode cX12_cannotMeet 35 = .ok (.aload_n 0, 1) := by decide +kernel
theorem dX12_cannotMeet_36 : decode cX12_cannotMeet 36 = .ok (.iload_n 1, 1) := by decide +kernel
theorem dX12_cannotMeet_37 : decode cX12_cannotMeet 37 = .ok (.iload_n 2, 1) := by decide +kernel
theorem dX12_cannotMeet_38 : decode cX12_cannotMeet 38 = .ok (.invokevirtual 149, 3) := by decide +kernel
theorem dX12_cannotMeet_41 : decode cX12_cannotMeet 41 = .ok (.iconst 2, 1) := by decide +kernel
theorem dX12_cannotMeet_42 : decode cX12_cannotMeet 42 = .ok (.invokevirtual 69, 3) := by decide +kernel
theorem dX12_cannotMeet_45 : decode cX12_cannotMeet 45 = .ok (.ifCond .eq 7, 3) := by decide +kernel
theorem dX12_cannotMeet_48 : decode cX12_cannotMeet 48 = .ok (.iconst 1, 1) := by decide +kernel
theorem dX12_cannotMeet_49 : decode cX12_cannotMeet 49 = .ok (.goto 4, 3) := by decide +kernel
theorem dX12_cannotMeet_52 : decode cX12_cannotMeet 52 = .ok (.iconst 0, 1) := by decide +kernel
theorem dX12_cannotMeet_53 : decode cX12_cannotMeet 53 = .ok (.ireturn, 1) := by decide +kernel
theorem dX12_common_0 : decode cX12_common 0 = .ok (.aload_n 0, 1) := by decide +kernel
theorem dX12_common_1 : decode cX12_common 1 = .ok (.iload_n 1, 1) := by decide +kernel
theorem dX12_common_2 : decode cX12_common 2 = .ok (.iload_n 2, 1) := by decide +kernel
theorem dX12_common_3 : decode cX12_common 3 = .ok (.invokevirtual 235, 3) := by decide +kernel
theorem dX12_common_6 : decode cX12_common 6 = .ok (.ifCond .eq 7, 3) := by decide +kernel
theorem dX12_common_9 : decode cX12_common 9 = .ok (.iconst 0, 1) := by decide +kernel
theorem dX12_common_10 : decode cX12_common 10 = .ok (.goto 9, 3) := by decide +kernel
theorem dX12_common_13 : decode cX12_common 13 = .ok (.aload_n 0, 1) := by decide +kernel
theorem dX12_common_14 : decode cX12_common 14 = .ok (.iload_n 1, 1) := by decide +kernel
theorem dX12_common_15 : decode cX12_common 15 = .ok (.iload_n 2, 1) := by decide +kernel
theorem dX12_common_16 : decode cX12_common 16 = .ok (.invokevirtual 238, 3) := by decide +kernel
theorem dX12_common_19 : decode cX12_common 19 = .ok (.ireturn, 1) := by decide +kernel
theorem dX12_commonSet_0 : decode cX12_commonSet 0 = .ok (.aload_n 0, 1) := by decide +kernel
theorem dX12_commonSet_1 : decode cX12_commonSet 1 = .ok (.iload_n 1, 1) := by decide +kernel
theorem dX12_commonSet_2 : decode cX12_commonSet 2 = .ok (.iload_n 2, 1) := by decide +kernel
theorem dX12_commonSet_3 : decode cX12_commonSet 3 = .ok (.invokevirtual 235, 3) := by decide +kernel
theorem dX12_commonSet_6 : decode cX12_commonSet 6 = .ok (.ifCond .eq 5, 3) := by decide +kernel
theorem dX12_commonSet_9 : decode cX12_commonSet 9 = .ok (.iconst 0, 1) := by decide +kernel
theorem dX12_commonSet_10 : decode cX12_commonSet 10 = .ok (.ireturn, 1) := by decide +kernel
theorem dX12_commonSet_11 : decode cX12_commonSet 11 = .ok (.iconst 0, 1) := by decide +kernel
theorem dX12_commonSet_12 : decode cX12_commonSet 12 = .ok (.istore_n 3, 1) := by decide +kernel
theorem dX12_commonSet_13 : decode cX12_commonSet 13 = .ok (.aload_n 0, 1) := by decide +kernel
theorem dX12_commonSet_14 : decode cX12_commonSet 14 = .ok (.iload_n 1, 1) := by decide +kernel
theorem dX12_commonSet_15 : decode cX12_commonSet 15 = .ok (.iload_n 2, 1) := by decide +kernel
theorem dX12_commonSet_16 : decode cX12_commonSet 16 = .ok (.invokevirtual 238, 3) := by decide +kernel
theorem dX12_commonSet_19 : decode cX12_commonSet 19 = .ok (.istore 4, 2) := by decide +kernel
theorem dX12_commonSet_21 : decode cX12_commonSet 21 = .ok (.iload_n 3, 1) := by decide +kernel
theorem dX12_commonSet_22 : decode cX12_commonSet 22 = .ok (.invokestatic 83, 3) := by decide +kernel
theorem dX12_commonSet_25 : decode cX12_commonSet 25 = .ok (.iload 4, 2) := by decide +kernel
theorem dX12_commonSet_27 : decode cX12_commonSet 27 = .ok (.if_icmp .ne 39, 3) := by decide +kernel
theorem dX12_commonSet_30 : decode cX12_commonSet 30 = .ok (.aload_n 0, 1) := by decide +kernel
theorem dX12_commonSet_31 : decode cX12_commonSet 31 = .ok (.getfield 19, 3) := by decide +kernel
theorem dX12_commonSet_34 : decode cX12_commonSet 34 = .ok (.iload_n 1, 1) := by decide +kernel
theorem dX12_commonSet_35 : decode cX12_commonSet 35 = .ok (.invokevirtual 56, 3) := by decide +kernel
theorem dX12_commonSet_38 : decode cX12_commonSet 38 = .ok (.checkcast 33, 3) := by decide +kernel
theorem dX12_commonSet_41 : decode cX12_commonSet 41 = .ok (.iload_n 3, 1) := by decide +kernel
theorem dX12_commonSet_42 : decode cX12_commonSet 42 = .ok (.invokevirtual 152, 3) := by decide +kernel
theorem dX12_commonSet_45 : decode cX12_commonSet 45 = .ok (.ifCond .eq 21, 3) := by decide +kernel
theorem dX12_commonSet_48 : decode cX12_commonSet 48 = .ok (.aload_n 0, 1) := by decide +kernel
theorem dX12_commonSet_49 : decode cX12_commonSet 49 = .ok (.getfield 19, 3) := by decide +kernel
theorem dX12_commonSet_52 : decode cX12_commonSet 52 = .ok (.iload_n 2, 1) := by decide +kernel
theorem dX12_commonSet_53 : decode cX12_commonSet 53 = .ok (.invokevirtual 56, 3) := by decide +kernel
theorem dX12_commonSet_56 : decode cX12_commonSet 56 = .ok (.checkcast 33, 3) := by decide +kernel
theorem dX12_commonSet_59 : decode cX12_commonSet 59 = .ok (.iload_n 3, 1) := by decide +kernel
theorem dX12_commonSet_60 : decode cX12_commonSet 60 = .ok (.invokevirtual 152, 3) := by decide +kernel
theorem dX12_commonSet_63 : decode cX12_commonSet 63 = .ok (.ifCond .ne 9, 3) := by decide +kernel
theorem dX12_commonSet_66 : decode cX12_commonSet 66 = .ok (.iinc 3 1, 3) := by decide +kernel
theorem dX12_commonSet_69 : decode cX12_commonSet 69 = .ok (.goto (-48), 3) := by decide +kernel
theorem dX12_commonSet_72 : decode cX12_commonSet 72 = .ok (.iload_n 3, 1) := by decide +kernel
theorem dX12_commonSet_73 : decode cX12_commonSet 73 = .ok (.ireturn, 1) := by decide +kernel
theorem dX12_commonBound_0 : decode cX12_commonBound 0 = .ok (.aload_n 0, 1) := by decide +kernel
theorem dX12_commonBound_1 : decode cX12_commonBound 1 = .ok (.iload_n 1, 1) := by decide +kernel
theorem dX12_commonBound_2 : decode cX12_commonBound 2 = .ok (.iload_n 2, 1) := by decide +kernel
theorem dX12_commonBound_3 : decode cX12_commonBound 3 = .ok (.invokevirtual 235, 3) := by decide +kernel
theorem dX12_commonBound_6 : decode cX12_commonBound 6 = .ok (.ifCond .eq 5, 3) := by decide +kernel
theorem dX12_commonBound_9 : decode cX12_commonBound 9 = .ok (.iconst 0, 1) := by decide +kernel
theorem dX12_commonBound_10 : decode cX12_commonBound 10 = .ok (.ireturn, 1) := by decide +kernel
theorem dX12_commonBound_11 : decode cX12_commonBound 11 = .ok (.aload_n 0, 1) := by decide +kernel
theorem dX12_commonBound_12 : decode cX12_commonBound 12 = .ok (.getfield 19, 3) := by decide +kernel
theorem dX12_commonBound_15 : decode cX12_commonBound 15 = .ok (.iload_n 1, 1) := by decide +kernel
theorem dX12_commonBound_16 : decode cX12_commonBound 16 = .ok (.invokevirtual 56, 3) := by decide +kernel
theorem dX12_commonBound_19 : decode cX12_commonBound 19 = .ok (.checkcast 33, 3) := by decide +kernel
theorem dX12_commonBound_22 : decode cX12_commonBound 22 = .ok (.astore_n 3, 1) := by decide +kernel
theorem dX12_commonBound_23 : decode cX12_commonBound 23 = .ok (.aload_n 0, 1) := by decide +kernel
theorem dX12_commonBound_24 : decode cX12_commonBound 24 = .ok (.getfield 19, 3) := by decide +kernel
theorem dX12_commonBound_27 : decode cX12_commonBound 27 = .ok (.iload_n 2, 1) := by decide +kernel
theorem dX12_commonBound_28 : decode cX12_commonBound 28 = .ok (.invokevirtual 56, 3) := by decide +kernel
theorem dX12_commonBound_31 : decode cX12_commonBound 31 = .ok (.checkcast 33, 3) := by decide +kernel
theorem dX12_commonBound_34 : decode cX12_commonBound 34 = .ok (.astore 4, 2) := by decide +kernel
theorem dX12_commonBound_36 : decode cX12_commonBound 36 = .ok (.iconst 0, 1) := by decide +kernel
theorem dX12_commonBound_37 : decode cX12_commonBound 37 = .ok (.istore 5, 2) := by decide +kernel
theorem dX12_commonBound_39 : decode cX12_commonBound 39 = .ok (.aload_n 0, 1) := by decide +kernel
theorem dX12_commonBound_40 : decode cX12_commonBound 40 = .ok (.iload_n 1, 1) := by decide +kernel
theorem dX12_commonBound_41 : decode cX12_commonBound 41 = .ok (.iload_n 2, 1) := by decide +kernel
theorem dX12_commonBound_42 : decode cX12_commonBound 42 = .ok (.invokevirtual 238, 3) := by decide +kernel
theorem dX12_commonBound_45 : decode cX12_commonBound 45 = .ok (.istore 6, 2) := by decide +kernel
theorem dX12_commonBound_47 : decode cX12_commonBound 47 = .ok (.aload_n 3, 1) := by decide +kernel
theorem dX12_commonBound_48 : decode cX12_commonBound 48 = .ok (.getfield 80, 3) := by decide +kernel
theorem dX12_commonBound_51 : decode cX12_commonBound 51 = .ok (.iload 5, 2) := by decide +kernel
theorem dX12_commonBound_53 : decode cX12_commonBound 53 = .ok (.iaload, 1) := by decide +kernel
theorem dX12_commonBound_54 : decode cX12_commonBound 54 = .ok (.aload 4, 2) := by decide +kernel
theorem dX12_commonBound_56 : decode cX12_commonBound 56 = .ok (.getfield 80, 3) := by decide +kernel
theorem dX12_commonBound_59 : decode cX12_commonBound 59 = .ok (.aload 4, 2) := by decide +kernel
theorem dX12_commonBound_61 : decode cX12_commonBound 61 = .ok (.invokevirtual 62, 3) := by decide +kernel
theorem dX12_commonBound_64 : decode cX12_commonBound 64 = .ok (.iload 5, 2) := by decide +kernel
theorem dX12_commonBound_66 : decode cX12_commonBound 66 = .ok (.iconst (-1), 1) := by decide +kernel
theorem dX12_commonBound_67 : decode cX12_commonBound 67 = .ok (.ixor, 1) := by decide +kernel
theorem dX12_commonBound_68 : decode cX12_commonBound 68 = .ok (.iand, 1) := by decide +kernel
theorem dX12_commonBound_69 : decode cX12_commonBound 69 = .ok (.iaload, 1) := by decide +kernel
theorem dX12_commonBound_70 : decode cX12_commonBound 70 = .ok (.iadd, 1) := by decide +kernel
theorem dX12_commonBound_71 : decode cX12_commonBound 71 = .ok (.iload 6, 2) := by decide +kernel
theorem dX12_commonBound_73 : decode cX12_commonBound 73 = .ok (.if_icmp .eq 9, 3) := by decide +kernel
theorem dX12_commonBound_76 : decode cX12_commonBound 76 = .ok (.iinc 5 1, 3) := by decide +kernel
theorem dX12_commonBound_79 : decode cX12_commonBound 79 = .ok (.goto (-32), 3) := by decide +kernel
theorem dX12_commonBound_82 : decode cX12_commonBound 82 = .ok (.iload 5, 2) := by decide +kernel
theorem dX12_commonBound_84 : decode cX12_commonBound 84 = .ok (.ireturn, 1) := by decide +kernel
theorem dX12_hasLoop_0 : decode cX12_hasLoop 0 = .ok (.iconst 0, 1) := by decide +kernel
theorem dX12_hasLoop_1 : decode cX12_hasLoop 1 = .ok (.istore_n 1, 1) := by decide +kernel
theorem dX12_hasLoop_2 : decode cX12_hasLoop 2 = .ok (.iconst 0, 1) := by decide +kernel
theorem dX12_hasLoop_3 : decode cX12_hasLoop 3 = .ok (.istore_n 2, 1) := by decide +kernel
theorem dX12_hasLoop_4 : decode cX12_hasLoop 4 = .ok (.iload_n 2, 1) := by decide +kernel
theorem dX12_hasLoop_5 : decode cX12_hasLoop 5 = .ok (.aload_n 0, 1) := by decide +kernel
theorem dX12_hasLoop_6 : decode cX12_hasLoop 6 = .ok (.getfield 60, 3) := by decide +kernel
theorem dX12_hasLoop_9 : decode cX12_hasLoop 9 = .ok (.if_icmp .ge 30, 3) := by decide +kernel
theorem dX12_hasLoop_12 : decode cX12_hasLoop 12 = .ok (.iload_n 1, 1) := by decide +kernel
theorem dX12_hasLoop_13 : decode cX12_hasLoop 13 = .ok (.ifCond .ne 14, 3) := by decide +kernel
theorem dX12_hasLoop_16 : decode cX12_hasLoop 16 = .ok (.aload_n 0, 1) := by decide +kernel
theorem dX12_hasLoop_17 : decode cX12_hasLoop 17 = .ok (.getfield 80, 3) := by decide +kernel
theorem dX12_hasLoop_20 : decode cX12_hasLoop 20 = .ok (.iconst 1, 1) := by decide +kernel
theorem dX12_hasLoop_21 : decode cX12_hasLoop 21 = .ok (.iload_n 2, 1) := by decide +kernel
theorem dX12_hasLoop_22 : decode cX12_hasLoop 22 = .ok (.ishl, 1) := by decide +kernel
theorem dX12_hasLoop_23 : decode cX12_hasLoop 23 = .ok (.iaload, 1) := by decide +kernel
theorem dX12_hasLoop_24 : decode cX12_hasLoop 24 = .ok (.ifCond .ne 7, 3) := by decide +kernel
theorem dX12_hasLoop_27 : decode cX12_hasLoop 27 = .ok (.iconst 1, 1) := by decide +kernel
theorem dX12_hasLoop_28 : decode cX12_hasLoop 28 = .ok (.goto 4, 3) := by decide +kernel
theorem dX12_hasLoop_31 : decode cX12_hasLoop 31 = .ok (.iconst 0, 1) := by decide +kernel
theorem dX12_hasLoop_32 : decode cX12_hasLoop 32 = .ok (.istore_n 1, 1) := by decide +kernel
theorem dX12_hasLoop_33 : decode cX12_hasLoop 33 = .ok (.iinc 2 1, 3) := by decide +kernel
theorem dX12_hasLoop_36 : decode cX12_hasLoop 36 = .ok (.goto (-32), 3) := by decide +kernel
theorem dX12_hasLoop_39 : decode cX12_hasLoop 39 = .ok (.iload_n 1, 1) := by decide +kernel
theorem dX12_hasLoop_40 : decode cX12_hasLoop 40 = .ok (.ireturn, 1) := by decide +kernel
theorem dX12_needs_0 : decode cX12_needs 0 = .ok (.iload_n 1, 1) := by decide +kernel
theorem dX12_needs_1 : decode cX12_needs 1 = .ok (.invokestatic 83, 3) := by decide +kernel
theorem dX12_needs_4 : decode cX12_needs 4 = .ok (.aload_n 0, 1) := by decide +kernel
theorem dX12_needs_5 : decode cX12_needs 5 = .ok (.getfield 80, 3) := by decide +kernel
theorem dX12_needs_8 : decode cX12_needs 8 = .ok (.iload_n 1, 1) := by decide +kernel
theorem dX12_needs_9 : decode cX12_needs 9 = .ok (.iaload, 1) := by decide +kernel
theorem dX12_needs_10 : decode cX12_needs 10 = .ok (.iadd, 1) := by decide +kernel
theorem dX12_needs_11 : decode cX12_needs 11 = .ok (.iconst 1, 1) := by decide +kernel
theorem dX12_needs_12 : decode cX12_needs 12 = .ok (.isub, 1) := by decide +kernel
theorem dX12_needs_13 : decode cX12_needs 13 = .ok (.aload_n 0, 1) := by decide +kernel
theorem dX12_needs_14 : decode cX12_needs 14 = .ok (.getfield 80, 3) := by decide +kernel
theorem dX12_needs_17 : decode cX12_needs 17 = .ok (.iload_n 1, 1) := by decide +kernel
theorem dX12_needs_18 : decode cX12_needs 18 = .ok (.iaload, 1) := by decide +kernel
theorem dX12_needs_19 : decode cX12_needs 19 = .ok (.idiv, 1) := by decide +kernel
theorem dX12_needs_20 : decode cX12_needs 20 = .ok (.ireturn, 1) := by decide +kernel
theorem dX12_coverOf_0 : decode cX12_coverOf 0 = .ok (.iconst 0, 1) := by decide +kernel
theorem dX12_coverOf_1 : decode cX12_coverOf 1 = .ok (.istore_n 1, 1) := by decide +kernel
theorem dX12_coverOf_2 : decode cX12_coverOf 2 = .ok (.iconst 1, 1) := by decide +kernel
theorem dX12_coverOf_3 : decode cX12_coverOf 3 = .ok (.istore_n 2, 1) := by decide +kernel
theorem dX12_coverOf_4 : decode cX12_coverOf 4 = .ok (.iload_n 2, 1) := by decide +kernel
theorem dX12_coverOf_5 : decode cX12_coverOf 5 = .ok (.aload_n 0, 1) := by decide +kernel
theorem dX12_coverOf_6 : decode cX12_coverOf 6 = .ok (.invokevirtual 62, 3) := by decide +kernel
theorem dX12_coverOf_9 : decode cX12_coverOf 9 = .ok (.if_icmp .gt 19, 3) := by decide +kernel
theorem dX12_coverOf_12 : decode cX12_coverOf 12 = .ok (.iload_n 1, 1) := by decide +kernel
theorem dX12_coverOf_13 : decode cX12_coverOf 13 = .ok (.aload_n 0, 1) := by decide +kernel
theorem dX12_coverOf_14 : decode cX12_coverOf 14 = .ok (.iload_n 2, 1) := by decide +kernel
theorem dX12_coverOf_15 : decode cX12_coverOf 15 = .ok (.invokestatic 241, 3) := by decide +kernel
theorem dX12_coverOf_18 : decode cX12_coverOf 18 = .ok (.invokestatic 232, 3) := by decide +kernel
theorem dX12_coverOf_21 : decode cX12_coverOf 21 = .ok (.istore_n 1, 1) := by decide +kernel
theorem dX12_coverOf_22 : decode cX12_coverOf 22 = .ok (.iinc 2 1, 3) := by decide +kernel
theorem dX12_coverOf_25 : decode cX12_coverOf 25 = .ok (.goto (-21), 3) := by decide +kernel
theorem dX12_coverOf_28 : decode cX12_coverOf 28 = .ok (.iload_n 1, 1) := by decide +kernel
theorem dX12_coverOf_29 : decode cX12_coverOf 29 = .ok (.ireturn, 1) := by decide +kernel
theorem dX12_cover_0 : decode cX12_cover 0 = .ok (.aload_n 0, 1) := by decide +kernel
theorem dX12_cover_1 : decode cX12_cover 1 = .ok (.iconst 0, 1) := by decide +kernel
theorem dX12_cover_2 : decode cX12_cover 2 = .ok (.putfield 40, 3) := by decide +kernel
theorem dX12_cover_5 : decode cX12_cover 5 = .ok (.aload_n 0, 1) := by decide +kernel
theorem dX12_cover_6 : decode cX12_cover 6 = .ok (.aload_n 0, 1) := by decide +kernel
theorem dX12_cover_7 : decode cX12_cover 7 = .ok (.iload_n 1, 1) := by decide +kernel
theorem dX12_cover_8 : decode cX12_cover 8 = .ok (.invokevirtual 52, 3) := by decide +kernel
theorem dX12_cover_11 : decode cX12_cover 11 = .ok (.iconst 1, 1) := by decide +kernel
theorem dX12_cover_12 : decode cX12_cover 12 = .ok (.invokevirtual 69, 3) := by decide +kernel
theorem dX12_cover_15 : decode cX12_cover 15 = .ok (.ifCond .ne 25, 3) := by decide +kernel
theorem dX12_cover_18 : decode cX12_cover 18 = .ok (.aload_n 0, 1) := by decide +kernel
theorem dX12_cover_19 : decode cX12_cover 19 = .ok (.aload_n 0, 1) := by decide +kernel
theorem dX12_cover_20 : decode cX12_cover 20 = .ok (.getfield 19, 3) := by decide +kernel
theorem dX12_cover_23 : decode cX12_cover 23 = .ok (.iload_n 1, 1) := by decide +kernel
theorem dX12_cover_24 : decode cX12_cover 24 = .ok (.invokevirtual 56, 3) := by decide +kernel
theorem dX12_cover_27 : decode cX12_cover 27 = .ok (.checkcast 33, 3) := by decide +kernel
theorem dX12_cover_30 : decode cX12_cover 30 = .ok (.invokestatic 245, 3) := by decide +kernel
theorem dX12_cover_33 : decode cX12_cover 33 = .ok (.iconst 2, 1) := by decide +kernel
theorem dX12_cover_34 : decode cX12_cover 34 = .ok (.invokevirtual 69, 3) := by decide +kernel
theorem dX12_cover_37 : decode cX12_cover 37 = .ok (.ifCond .eq 7, 3) := by decide +kernel
theorem dX12_cover_40 : decode cX12_cover 40 = .ok (.iconst 0, 1) := by decide +kernel
theorem dX12_cover_41 : decode cX12_cover 41 = .ok (.goto 17, 3) := by decide +kernel
theorem dX12_cover_44 : decode cX12_cover 44 = .ok (.aload_n 0, 1) := by decide +kernel
theorem dX12_cover_45 : decode cX12_cover 45 = .ok (.getfield 19, 3) := by decide +kernel
theorem dX12_cover_48 : decode cX12_cover 48 = .ok (.iload_n 1, 1) := by decide +kernel
theorem dX12_cover_49 : decode cX12_cover 49 = .ok (.invokevirtual 56, 3) := by decide +kernel
theorem dX12_cover_52 : decode cX12_cover 52 = .ok (.checkcast 33, 3) := by decide +kernel
theorem dX12_cover_55 : decode cX12_cover 55 = .ok (.invokestatic 249, 3) := by decide +kernel
theorem dX12_cover_58 : decode cX12_cover 58 = .ok (.ireturn, 1) := by decide +kernel
theorem dX12_coverBound_0 : decode cX12_coverBound 0 = .ok (.aload_n 0, 1) := by decide +kernel
theorem dX12_coverBound_1 : decode cX12_coverBound 1 = .ok (.iconst 0, 1) := by decide +kernel
theorem dX12_coverBound_2 : decode cX12_coverBound 2 = .ok (.putfield 40, 3) := by decide +kernel
theorem dX12_coverBound_5 : decode cX12_coverBound 5 = .ok (.aload_n 0, 1) := by decide +kernel
theorem dX12_coverBound_6 : decode cX12_coverBound 6 = .ok (.aload_n 0, 1) := by decide +kernel
theorem dX12_coverBound_7 : decode cX12_coverBound 7 = .ok (.iload_n 1, 1) := by decide +kernel
theorem dX12_coverBound_8 : decode cX12_coverBound 8 = .ok (.invokevirtual 52, 3) := by decide +kernel
theorem dX12_coverBound_11 : decode cX12_coverBound 11 = .ok (.iconst 1, 1) := by decide +kernel
theorem dX12_coverBound_12 : decode cX12_coverBound 12 = .ok (.invokevirtual 69, 3) := by decide +kernel
theorem dX12_coverBound_15 : decode cX12_coverBound 15 = .ok (.ifCond .ne 55, 3) := by decide +kernel
theorem dX12_coverBound_18 : decode cX12_coverBound 18 = .ok (.aload_n 0, 1) := by decide +kernel
theorem dX12_coverBound_19 : decode cX12_coverBound 19 = .ok (.aload_n 0, 1) := by decide +kernel
theorem dX12_coverBound_20 : decode cX12_coverBound 20 = .ok (.getfield 19, 3) := by decide +kernel
theorem dX12_coverBound_23 : decode cX12_coverBound 23 = .ok (.iload_n 1, 1) := by decide +kernel
theorem dX12_coverBound_24 : decode cX12_coverBound 24 = .ok (.invokevirtual 56, 3) := by decide +kernel
theorem dX12_coverBound_27 : decode cX12_coverBound 27 = .ok (.checkcast 33, 3) := by decide +kernel
theorem dX12_coverBound_30 : decode cX12_coverBound 30 = .ok (.invokestatic 245, 3) := by decide +kernel
theorem dX12_coverBound_33 : decode cX12_coverBound 33 = .ok (.iconst 2, 1) := by decide +kernel
theorem dX12_coverBound_34 : decode cX12_coverBound 34 = .ok (.invokevirtual 69, 3) := by decide +kernel
theorem dX12_coverBound_37 : decode cX12_coverBound 37 = .ok (.ifCond .ne 33, 3) := by decide +kernel
theorem dX12_coverBound_40 : decode cX12_coverBound 40 = .ok (.aload_n 0, 1) := by decide +kernel
theorem dX12_coverBound_41 : decode cX12_coverBound 41 = .ok (.aload_n 0, 1) := by decide +kernel
theorem dX12_coverBound_42 : decode cX12_coverBound 42 = .ok (.getfield 19, 3) := by decide +kernel
theorem dX12_coverBound_45 : decode cX12_coverBound 45 = .ok (.iload_n 1, 1) := by decide +kernel
theorem dX12_coverBound_46 : decode cX12_coverBound 46 = .ok (.invokevirtual 56, 3) := by decide +kernel
theorem dX12_coverBound_49 : decode cX12_coverBound 49 = .ok (.checkcast 33, 3) := by decide +kernel
theorem dX12_coverBound_52 : decode cX12_coverBound 52 = .ok (.getfield 60, 3) := by decide +kernel
theorem dX12_coverBound_55 : decode cX12_coverBound 55 = .ok (.ifCond .ne 7, 3) := by decide +kernel
theorem dX12_coverBound_58 : decode cX12_coverBound 58 = .ok (.iconst 1, 1) := by decide +kernel
theorem dX12_coverBound_59 : decode cX12_coverBound 59 = .ok (.goto 4, 3) := by decide +kernel
theorem dX12_coverBound_62 : decode cX12_coverBound 62 = .ok (.iconst 0, 1) := by decide +kernel
theorem dX12_coverBound_63 : decode cX12_coverBound 63 = .ok (.iconst 3, 1) := by decide +kernel
theorem dX12_coverBound_64 : decode cX12_coverBound 64 = .ok (.invokevirtual 69, 3) := by decide +kernel
theorem dX12_coverBound_67 : decode cX12_coverBound 67 = .ok (.ifCond .eq 5, 3) := by decide +kernel
theorem dX12_coverBound_70 : decode cX12_coverBound 70 = .ok (.iconst 0, 1) := by decide +kernel
theorem dX12_coverBound_71 : decode cX12_coverBound 71 = .ok (.ireturn, 1) := by decide +kernel
theorem dX12_coverBound_72 : decode cX12_coverBound 72 = .ok (.aload_n 0, 1) := by decide +kernel
theorem dX12_coverBound_73 : decode cX12_coverBound 73 = .ok (.getfield 19, 3) := by decide +kernel
theorem dX12_coverBound_76 : decode cX12_coverBound 76 = .ok (.iload_n 1, 1) := by decide +kernel
theorem dX12_coverBound_77 : decode cX12_coverBound 77 = .ok (.invokevirtual 56, 3) := by decide +kernel
theorem dX12_coverBound_80 : decode cX12_coverBound 80 = .ok (.checkcast 33, 3) := by decide +kernel
theorem dX12_coverBound_83 : decode cX12_coverBound 83 = .ok (.astore_n 2, 1) := by decide +kernel
theorem dX12_coverBound_84 : decode cX12_coverBound 84 = .ok (.iconst 1, 1) := by decide +kernel
theorem dX12_coverBound_85 : decode cX12_coverBound 85 = .ok (.istore_n 3, 1) := by decide +kernel
theorem dX12_coverBound_86 : decode cX12_coverBound 86 = .ok (.aload_n 2, 1) := by decide +kernel
theorem dX12_coverBound_87 : decode cX12_coverBound 87 = .ok (.iload_n 3, 1) := by decide +kernel
theorem dX12_coverBound_88 : decode cX12_coverBound 88 = .ok (.invokestatic 241, 3) := by decide +kernel
theorem dX12_coverBound_91 : decode cX12_coverBound 91 = .ok (.aload_n 2, 1) := by decide +kernel
theorem dX12_coverBound_92 : decode cX12_coverBound 92 = .ok (.invokestatic 249, 3) := by decide +kernel
theorem dX12_coverBound_95 : decode cX12_coverBound 95 = .ok (.if_icmp .eq 9, 3) := by decide +kernel
theorem dX12_coverBound_98 : decode cX12_coverBound 98 = .ok (.iinc 3 1, 3) := by decide +kernel
theorem dX12_coverBound_101 : decode cX12_coverBound 101 = .ok (.goto (-15), 3) := by decide +kernel
theorem dX12_coverBound_104 : decode cX12_coverBound 104 = .ok (.iload_n 3, 1) := by decide +kernel
theorem dX12_coverBound_105 : decode cX12_coverBound 105 = .ok (.ireturn, 1) := by decide +kernel
theorem dX12_allows_0 : decode cX12_allows 0 = .ok (.aload_n 0, 1) := by decide +kernel
theorem dX12_allows_1 : decode cX12_allows 1 = .ok (.invokevirtual 135, 3) := by decide +kernel
theorem dX12_allows_4 : decode cX12_allows 4 = .ok (.aload_n 0, 1) := by decide +kernel
theorem dX12_allows_5 : decode cX12_allows 5 = .ok (.getfield 80, 3) := by decide +kernel
theorem dX12_allows_8 : decode cX12_allows 8 = .ok (.iload_n 1, 1) := by decide +kernel
theorem dX12_allows_9 : decode cX12_allows 9 = .ok (.iaload, 1) := by decide +kernel
theorem dX12_allows_10 : decode cX12_allows 10 = .ok (.isub, 1) := by decide +kernel
theorem dX12_allows_11 : decode cX12_allows 11 = .ok (.istore_n 2, 1) := by decide +kernel
theorem dX12_allows_12 : decode cX12_allows 12 = .ok (.iload_n 2, 1) := by decide +kernel
theorem dX12_allows_13 : decode cX12_allows 13 = .ok (.ifCond .ne 8, 3) := by decide +kernel
theorem dX12_allows_16 : decode cX12_allows 16 = .ok (.ldc 252, 2) := by decide +kernel
theorem dX12_allows_18 : decode cX12_allows 18 = .ok (.goto 14, 3) := by decide +kernel
theorem dX12_allows_21 : decode cX12_allows 21 = .ok (.aload_n 0, 1) := by decide +kernel
theorem dX12_allows_22 : decode cX12_allows 22 = .ok (.getfield 60, 3) := by decide +kernel
theorem dX12_allows_25 : decode cX12_allows 25 = .ok (.iload_n 1, 1) := by decide +kernel
theorem dX12_allows_26 : decode cX12_allows 26 = .ok (.invokestatic 83, 3) := by decide +kernel
theorem dX12_allows_29 : decode cX12_allows 29 = .ok (.isub, 1) := by decide +kernel
theorem dX12_allows_30 : decode cX12_allows 30 = .ok (.iload_n 2, 1) := by decide +kernel
theorem dX12_allows_31 : decode cX12_allows 31 = .ok (.idiv, 1) := by decide +kernel
theorem dX12_allows_32 : decode cX12_allows 32 = .ok (.ireturn, 1) := by decide +kernel
theorem dX12_packingOf_0 : decode cX12_packingOf 0 = .ok (.ldc 252, 2) := by decide +kernel
theorem dX12_packingOf_2 : decode cX12_packingOf 2 = .ok (.istore_n 1, 1) := by decide +kernel
theorem dX12_packingOf_3 : decode cX12_packingOf 3 = .ok (.iconst 0, 1) := by decide +kernel
theorem dX12_packingOf_4 : decode cX12_packingOf 4 = .ok (.istore_n 2, 1) := by decide +kernel
theorem dX12_packingOf_5 : decode cX12_packingOf 5 = .ok (.iload_n 2, 1) := by decide +kernel
theorem dX12_packingOf_6 : decode cX12_packingOf 6 = .ok (.aload_n 0, 1) := by decide +kernel
theorem dX12_packingOf_7 : decode cX12_packingOf 7 = .ok (.invokevirtual 62, 3) := by decide +kernel
theorem dX12_packingOf_10 : decode cX12_packingOf 10 = .ok (.if_icmp .gt 19, 3) := by decide +kernel
theorem dX12_packingOf_13 : decode cX12_packingOf 13 = .ok (.iload_n 1, 1) := by decide +kernel
theorem dX12_packingOf_14 : decode cX12_packingOf 14 = .ok (.aload_n 0, 1) := by decide +kernel
theorem dX12_packingOf_15 : decode cX12_packingOf 15 = .ok (.iload_n 2, 1) := by decide +kernel
theorem dX12_packingOf_16 : decode cX12_packingOf 16 = .ok (.invokestatic 253, 3) := by decide +kernel
theorem dX12_packingOf_19 : decode cX12_packingOf 19 = .ok (.invokestatic 89, 3) := by decide +kernel
theorem dX12_packingOf_22 : decode cX12_packingOf 22 = .ok (.istore_n 1, 1) := by decide +kernel
theorem dX12_packingOf_23 : decode cX12_packingOf 23 = .ok (.iinc 2 1, 3) := by decide +kernel
theorem dX12_packingOf_26 : decode cX12_packingOf 26 = .ok (.goto (-21), 3) := by decide +kernel
theorem dX12_packingOf_29 : decode cX12_packingOf 29 = .ok (.iload_n 1, 1) := by decide +kernel
theorem dX12_packingOf_30 : decode cX12_packingOf 30 = .ok (.ireturn, 1) := by decide +kernel
theorem dX12_packing_0 : decode cX12_packing 0 = .ok (.aload_n 0, 1) := by decide +kernel
theorem dX12_packing_1 : decode cX12_packing 1 = .ok (.iconst 0, 1) := by decide +kernel
theorem dX12_packing_2 : decode cX12_packing 2 = .ok (.putfield 40, 3) := by decide +kernel
theorem dX12_packing_5 : decode cX12_packing 5 = .ok (.aload_n 0, 1) := by decide +kernel
theorem dX12_packing_6 : decode cX12_packing 6 = .ok (.aload_n 0, 1) := by decide +kernel
theorem dX12_packing_7 : decode cX12_packing 7 = .ok (.iload_n 1, 1) := by decide +kernel
theorem dX12_packing_8 : decode cX12_packing 8 = .ok (.invokevirtual 52, 3) := by decide +kernel
theorem dX12_packing_11 : decode cX12_packing 11 = .ok (.iconst 1, 1) := by decide +kernel
theorem dX12_packing_12 : decode cX12_packing 12 = .ok (.invokevirtual 69, 3) := by decide +kernel
theorem dX12_packing_15 : decode cX12_packing 15 = .ok (.ifCond .ne 33, 3) := by decide +kernel
theorem dX12_packing_18 : decode cX12_packing 18 = .ok (.aload_n 0, 1) := by decide +kernel
theorem dX12_packing_19 : decode cX12_packing 19 = .ok (.aload_n 0, 1) := by decide +kernel
theorem dX12_packing_20 : decode cX12_packing 20 = .ok (.getfield 19, 3) := by decide +kernel
theorem dX12_packing_23 : decode cX12_packing 23 = .ok (.iload_n 1, 1) := by decide +kernel
theorem dX12_packing_24 : decode cX12_packing 24 = .ok (.invokevirtual 56, 3) := by decide +kernel
theorem dX12_packing_27 : decode cX12_packing 27 = .ok (.checkcast 33, 3) := by decide +kernel
theorem dX12_packing_30 : decode cX12_packing 30 = .ok (.invokevirtual 135, 3) := by decide +kernel
theorem dX12_packing_33 : decode cX12_packing 33 = .ok (.ifCond .ne 7, 3) := by decide +kernel
theorem dX12_packing_36 : decode cX12_packing 36 = .ok (.iconst 1, 1) := by decide +kernel
theorem dX12_packing_37 : decode cX12_packing 37 = .ok (.goto 4, 3) := by decide +kernel
theorem dX12_packing_40 : decode cX12_packing 40 = .ok (.iconst 0, 1) := by decide +kernel
theorem dX12_packing_41 : decode cX12_packing 41 = .ok (.iconst 2, 1) := by decide +kernel
theorem dX12_packing_42 : decode cX12_packing 42 = .ok (.invokevirtual 69, 3) := by decide +kernel
theorem dX12_packing_45 : decode cX12_packing 45 = .ok (.ifCond .eq 7, 3) := by decide +kernel
theorem dX12_packing_48 : decode cX12_packing 48 = .ok (.iconst 0, 1) := by decide +kernel
theorem dX12_packing_49 : decode cX12_packing 49 = .ok (.goto 17, 3) := by decide +kernel
theorem dX12_packing_52 : decode cX12_packing 52 = .ok (.aload_n 0, 1) := by decide +kernel
theorem dX12_packing_53 : decode cX12_packing 53 = .ok (.getfield 19, 3) := by decide +kernel
theorem dX12_packing_56 : decode cX12_packing 56 = .ok (.iload_n 1, 1) := by decide +kernel
theorem dX12_packing_57 : decode cX12_packing 57 = .ok (.invokevirtual 56, 3) := by decide +kernel
theorem dX12_packing_60 : decode cX12_packing 60 = .ok (.checkcast 33, 3) := by decide +kernel
theorem dX12_packing_63 : decode cX12_packing 63 = .ok (.invokestatic 256, 3) := by decide +kernel
theorem dX12_packing_66 : decode cX12_packing 66 = .ok (.ireturn, 1) := by decide +kernel
theorem dX12_packingBound_0 : decode cX12_packingBound 0 = .ok (.aload_n 0, 1) := by decide +kernel
theorem dX12_packingBound_1 : decode cX12_packingBound 1 = .ok (.iconst 0, 1) := by decide +kernel
theorem dX12_packingBound_2 : decode cX12_packingBound 2 = .ok (.putfield 40, 3) := by decide +kernel
theorem dX12_packingBound_5 : decode cX12_packingBound 5 = .ok (.aload_n 0, 1) := by decide +kernel
theorem dX12_packingBound_6 : decode cX12_packingBound 6 = .ok (.aload_n 0, 1) := by decide +kernel
theorem dX12_packingBound_7 : decode cX12_packingBound 7 = .ok (.iload_n 1, 1) := by decide +kernel
theorem dX12_packingBound_8 : decode cX12_packingBound 8 = .ok (.invokevirtual 52, 3) := by decide +kernel
theorem dX12_packingBound_11 : decode cX12_packingBound 11 = .ok (.iconst 1, 1) := by decide +kernel
theorem dX12_packingBound_12 : decode cX12_packingBound 12 = .ok (.invokevirtual 69, 3) := by decide +kernel
theorem dX12_packingBound_15 : decode cX12_packingBound 15 = .ok (.ifCond .ne 33, 3) := by decide +kernel
theorem dX12_packingBound_18 : decode cX12_packingBound 18 = .ok (.aload_n 0, 1) := by decide +kernel
theorem dX12_packingBound_19 : decode cX12_packingBound 19 = .ok (.aload_n 0, 1) := by decide +kernel
theorem dX12_packingBound_20 : decode cX12_packingBound 20 = .ok (.getfield 19, 3) := by decide +kernel
theorem dX12_packingBound_23 : decode cX12_packingBound 23 = .ok (.iload_n 1, 1) := by decide +kernel
theorem dX12_packingBound_24 : decode cX12_packingBound 24 = .ok (.invokevirtual 56, 3) := by decide +kernel
theorem dX12_packingBound_27 : decode cX12_packingBound 27 = .ok (.checkcast 33, 3) := by decide +kernel
theorem dX12_packingBound_30 : decode cX12_packingBound 30 = .ok (.invokevirtual 135, 3) := by decide +kernel
theorem dX12_packingBound_33 : decode cX12_packingBound 33 = .ok (.ifCond .ne 7, 3) := by decide +kernel
theorem dX12_packingBound_36 : decode cX12_packingBound 36 = .ok (.iconst 1, 1) := by decide +kernel
theorem dX12_packingBound_37 : decode cX12_packingBound 37 = .ok (.goto 4, 3) := by decide +kernel
theorem dX12_packingBound_40 : decode cX12_packingBound 40 = .ok (.iconst 0, 1) := by decide +kernel
theorem dX12_packingBound_41 : decode cX12_packingBound 41 = .ok (.iconst 2, 1) := by decide +kernel
theorem dX12_packingBound_42 : decode cX12_packingBound 42 = .ok (.invokevirtual 69, 3) := by decide +kernel
theorem dX12_packingBound_45 : decode cX12_packingBound 45 = .ok (.ifCond .eq 5, 3) := by decide +kernel
theorem dX12_packingBound_48 : decode cX12_packingBound 48 = .ok (.iconst 0, 1) := by decide +kernel
theorem dX12_packingBound_49 : decode cX12_packingBound 49 = .ok (.ireturn, 1) := by decide +kernel
theorem dX12_packingBound_50 : decode cX12_packingBound 50 = .ok (.aload_n 0, 1) := by decide +kernel
theorem dX12_packingBound_51 : decode cX12_packingBound 51 = .ok (.getfield 19, 3) := by decide +kernel
theorem dX12_packingBound_54 : decode cX12_packingBound 54 = .ok (.iload_n 1, 1) := by decide +kernel
theorem dX12_packingBound_55 : decode cX12_packingBound 55 = .ok (.invokevirtual 56, 3) := by decide +kernel
theorem dX12_packingBound_58 : decode cX12_packingBound 58 = .ok (.checkcast 33, 3) := by decide +kernel
theorem dX12_packingBound_61 : decode cX12_packingBound 61 = .ok (.astore_n 2, 1) := by decide +kernel
theorem dX12_packingBound_62 : decode cX12_packingBound 62 = .ok (.iconst 0, 1) := by decide +kernel
theorem dX12_packingBound_63 : decode cX12_packingBound 63 = .ok (.istore_n 3, 1) := by decide +kernel
theorem dX12_packingBound_64 : decode cX12_packingBound 64 = .ok (.aload_n 2, 1) := by decide +kernel
theorem dX12_packingBound_65 : decode cX12_packingBound 65 = .ok (.iload_n 3, 1) := by decide +kernel
theorem dX12_packingBound_66 : decode cX12_packingBound 66 = .ok (.invokestatic 253, 3) := by decide +kernel
theorem dX12_packingBound_69 : decode cX12_packingBound 69 = .ok (.aload_n 2, 1) := by decide +kernel
theorem dX12_packingBound_70 : decode cX12_packingBound 70 = .ok (.invokestatic 256, 3) := by decide +kernel
theorem dX12_packingBound_73 : decode cX12_packingBound 73 = .ok (.if_icmp .eq 9, 3) := by decide +kernel
theorem dX12_packingBound_76 : decode cX12_packingBound 76 = .ok (.iinc 3 1, 3) := by decide +kernel
theorem dX12_packingBound_79 : decode cX12_packingBound 79 = .ok (.goto (-15), 3) := by decide +kernel
theorem dX12_packingBound_82 : decode cX12_packingBound 82 = .ok (.iload_n 3, 1) := by decide +kernel
theorem dX12_packingBound_83 : decode cX12_packingBound 83 = .ok (.ireturn, 1) := by decide +kernel
theorem dX12_choose_0 : decode cX12_choose 0 = .ok (.iconst 1, 1) := by decide +kernel
theorem dX12_choose_1 : decode cX12_choose 1 = .ok (.istore_n 2, 1) := by decide +kernel
theorem dX12_choose_2 : decode cX12_choose 2 = .ok (.iconst 0, 1) := by decide +kernel
theorem dX12_choose_3 : decode cX12_choose 3 = .ok (.istore_n 3, 1) := by decide +kernel
theorem dX12_choose_4 : decode cX12_choose 4 = .ok (.iload_n 3, 1) := by decide +kernel
theorem dX12_choose_5 : decode cX12_choose 5 = .ok (.iload_n 1, 1) := by decide +kernel
theorem dX12_choose_6 : decode cX12_choose 6 = .ok (.if_icmp .ge 19, 3) := by decide +kernel
theorem dX12_choose_9 : decode cX12_choose 9 = .ok (.iload_n 2, 1) := by decide +kernel
theorem dX12_choose_10 : decode cX12_choose 10 = .ok (.iload_n 0, 1) := by decide +kernel
theorem dX12_choose_11 : decode cX12_choose 11 = .ok (.iload_n 3, 1) := by decide +kernel
theorem dX12_choose_12 : decode cX12_choose 12 = .ok (.isub, 1) := by decide +kernel
theorem dX12_choose_13 : decode cX12_choose 13 = .ok (.imul, 1) := by decide +kernel
theorem dX12_choose_14 : decode cX12_choose 14 = .ok (.iload_n 3, 1) := by decide +kernel
theorem dX12_choose_15 : decode cX12_choose 15 = .ok (.iconst 1, 1) := by decide +kernel
theorem dX12_choose_16 : decode cX12_choose 16 = .ok (.iadd, 1) := by decide +kernel
theorem dX12_choose_17 : decode cX12_choose 17 = .ok (.idiv, 1) := by decide +kernel
theorem dX12_choose_18 : decode cX12_choose 18 = .ok (.istore_n 2, 1) := by decide +kernel
theorem dX12_choose_19 : decode cX12_choose 19 = .ok (.iinc 3 1, 3) := by decide +kernel
theorem dX12_choose_22 : decode cX12_choose 22 = .ok (.goto (-18), 3) := by decide +kernel
theorem dX12_choose_25 : decode cX12_choose 25 = .ok (.iload_n 1, 1) := by decide +kernel
theorem dX12_choose_26 : decode cX12_choose 26 = .ok (.iload_n 0, 1) := by decide +kernel
theorem dX12_choose_27 : decode cX12_choose 27 = .ok (.if_icmp .le 7, 3) := by decide +kernel
theorem dX12_choose_30 : decode cX12_choose 30 = .ok (.iconst 0, 1) := by decide +kernel
theorem dX12_choose_31 : decode cX12_choose 31 = .ok (.goto 4, 3) := by decide +kernel
theorem dX12_choose_34 : decode cX12_choose 34 = .ok (.iload_n 2, 1) := by decide +kernel
theorem dX12_choose_35 : decode cX12_choose 35 = .ok (.ireturn, 1) := by decide +kernel
theorem dX12_inPower_0 : decode cX12_inPower 0 = .ok (.iload_n 0, 1) := by decide +kernel
theorem dX12_inPower_1 : decode cX12_inPower 1 = .ok (.iload_n 1, 1) := by decide +kernel
theorem dX12_inPower_2 : decode cX12_inPower 2 = .ok (.invokestatic 259, 3) := by decide +kernel
theorem dX12_inPower_5 : decode cX12_inPower 5 = .ok (.istore_n 2, 1) := by decide +kernel
theorem dX12_inPower_6 : decode cX12_inPower 6 = .ok (.iload_n 0, 1) := by decide +kernel
theorem dX12_inPower_7 : decode cX12_inPower 7 = .ok (.iload_n 1, 1) := by decide +kernel
theorem dX12_inPower_8 : decode cX12_inPower 8 = .ok (.isub, 1) := by decide +kernel
theorem dX12_inPower_9 : decode cX12_inPower 9 = .ok (.iconst 2, 1) := by decide +kernel
theorem dX12_inPower_10 : decode cX12_inPower 10 = .ok (.irem, 1) := by decide +kernel
theorem dX12_inPower_11 : decode cX12_inPower 11 = .ok (.ifCond .ne 7, 3) := by decide +kernel
theorem dX12_inPower_14 : decode cX12_inPower 14 = .ok (.iload_n 2, 1) := by decide +kernel
theorem dX12_inPower_15 : decode cX12_inPower 15 = .ok (.goto 5, 3) := by decide +kernel
theorem dX12_inPower_18 : decode cX12_inPower 18 = .ok (.iload_n 2, 1) := by decide +kernel
theorem dX12_inPower_19 : decode cX12_inPower 19 = .ok (.ineg, 1) := by decide +kernel
theorem dX12_inPower_20 : decode cX12_inPower 20 = .ok (.ireturn, 1) := by decide +kernel
theorem dX12_coefficient_0 : decode cX12_coefficient 0 = .ok (.aload_n 0, 1) := by decide +kernel
theorem dX12_coefficient_1 : decode cX12_coefficient 1 = .ok (.iconst 0, 1) := by decide +kernel
theorem dX12_coefficient_2 : decode cX12_coefficient 2 = .ok (.putfield 40, 3) := by decide +kernel
theorem dX12_coefficient_5 : decode cX12_coefficient 5 = .ok (.aload_n 0, 1) := by decide +kernel
theorem dX12_coefficient_6 : decode cX12_coefficient 6 = .ok (.aload_n 0, 1) := by decide +kernel
theorem dX12_coefficient_7 : decode cX12_coefficient 7 = .ok (.iload_n 1, 1) := by decide +kernel
theorem dX12_coefficient_8 : decode cX12_coefficient 8 = .ok (.invokevirtual 52, 3) := by decide +kernel
theorem dX12_coefficient_11 : decode cX12_coefficient 11 = .ok (.iconst 1, 1) := by decide +kernel
theorem dX12_coefficient_12 : decode cX12_coefficient 12 = .ok (.invokevirtual 69, 3) := by decide +kernel
theorem dX12_coefficient_15 : decode cX12_coefficient 15 = .ok (.ifCond .ne 36, 3) := by decide +kernel
theorem dX12_coefficient_18 : decode cX12_coefficient 18 = .ok (.aload_n 0, 1) := by decide +kernel
theorem dX12_coefficient_19 : decode cX12_coefficient 19 = .ok (.iload_n 2, 1) := by decide +kernel
theorem dX12_coefficient_20 : decode cX12_coefficient 20 = .ok (.iconst 0, 1) := by decide +kernel
theorem dX12_coefficient_21 : decode cX12_coefficient 21 = .ok (.bipush 10, 2) := by decide +kernel
theorem dX12_coefficient_23 : decode cX12_coefficient 23 = .ok (.invokestatic 48, 3) := by decide +kernel
theorem dX12_coefficient_26 : decode cX12_coefficient 26 = .ok (.ifCond .eq 13, 3) := by decide +kernel
theorem dX12_coefficient_29 : decode cX12_coefficient 29 = .ok (.iload_n 3, 1) := by decide +kernel
theorem dX12_coefficient_30 : decode cX12_coefficient 30 = .ok (.iconst 0, 1) := by decide +kernel
theorem dX12_coefficient_31 : decode cX12_coefficient 31 = .ok (.bipush 10, 2) := by decide +kernel
theorem dX12_coefficient_33 : decode cX12_coefficient 33 = .ok (.invokestatic 48, 3) := by decide +kernel
theorem dX12_coefficient_36 : decode cX12_coefficient 36 = .ok (.ifCond .ne 7, 3) := by decide +kernel
theorem dX12_coefficient_39 : decode cX12_coefficient 39 = .ok (.iconst 1, 1) := by decide +kernel
theorem dX12_coefficient_40 : decode cX12_coefficient 40 = .ok (.goto 4, 3) := by decide +kernel
theorem dX12_coefficient_43 : decode cX12_coefficient 43 = .ok (.iconst 0, 1) := by decide +kernel
theorem dX12_coefficient_44 : decode cX12_coefficient 44 = .ok (.iconst 2, 1) := by decide +kernel
theorem dX12_coefficient_45 : decode cX12_coefficient 45 = .ok (.invokevirtual 69, 3) := by decide +kernel
theorem dX12_coefficient_48 : decode cX12_coefficient 48 = .ok (.ifCond .eq 5, 3) := by decide +kernel
theorem dX12_coefficient_51 : decode cX12_coefficient 51 = .ok (.iconst 0, 1) := by decide +kernel
theorem dX12_coefficient_52 : decode cX12_coefficient 52 = .ok (.ireturn, 1) := by decide +kernel
theorem dX12_coefficient_53 : decode cX12_coefficient 53 = .ok (.aload_n 0, 1) := by decide +kernel
theorem dX12_coefficient_54 : decode cX12_coefficient 54 = .ok (.getfield 19, 3) := by decide +kernel
theorem dX12_coefficient_57 : decode cX12_coefficient 57 = .ok (.iload_n 1, 1) := by decide +kernel
theorem dX12_coefficient_58 : decode cX12_coefficient 58 = .ok (.invokevirtual 56, 3) := by decide +kernel
theorem dX12_coefficient_61 : decode cX12_coefficient 61 = .ok (.checkcast 33, 3) := by decide +kernel
theorem dX12_coefficient_64 : decode cX12_coefficient 64 = .ok (.astore 4, 2) := by decide +kernel
theorem dX12_coefficient_66 : decode cX12_coefficient 66 = .ok (.iconst 0, 1) := by decide +kernel
theorem dX12_coefficient_67 : decode cX12_coefficient 67 = .ok (.istore 5, 2) := by decide +kernel
theorem dX12_coefficient_69 : decode cX12_coefficient 69 = .ok (.iconst 0, 1) := by decide +kernel
theorem dX12_coefficient_70 : decode cX12_coefficient 70 = .ok (.istore 6, 2) := by decide +kernel
theorem dX12_coefficient_72 : decode cX12_coefficient 72 = .ok (.iload 6, 2) := by decide +kernel
theorem dX12_coefficient_74 : decode cX12_coefficient 74 = .ok (.aload 4, 2) := by decide +kernel
theorem dX12_coefficient_76 : decode cX12_coefficient 76 = .ok (.invokevirtual 62, 3) := by decide +kernel
theorem dX12_coefficient_79 : decode cX12_coefficient 79 = .ok (.if_icmp .gt 51, 3) := by decide +kernel
theorem dX12_coefficient_82 : decode cX12_coefficient 82 = .ok (.iload 5, 2) := by decide +kernel
theorem dX12_coefficient_84 : decode cX12_coefficient 84 = .ok (.aload 4, 2) := by decide +kernel
theorem dX12_coefficient_86 : decode cX12_coefficient 86 = .ok (.invokevirtual 135, 3) := by decide +kernel
theorem dX12_coefficient_89 : decode cX12_coefficient 89 = .ok (.aload 4, 2) := by decide +kernel
theorem dX12_coefficient_91 : decode cX12_coefficient 91 = .ok (.getfield 80, 3) := by decide +kernel
theorem dX12_coefficient_94 : decode cX12_coefficient 94 = .ok (.iload 6, 2) := by decide +kernel
theorem dX12_coefficient_96 : decode cX12_coefficient 96 = .ok (.iaload, 1) := by decide +kernel
theorem dX12_coefficient_97 : decode cX12_coefficient 97 = .ok (.isub, 1) := by decide +kernel
theorem dX12_coefficient_98 : decode cX12_coefficient 98 = .ok (.iload_n 2, 1) := by decide +kernel
theorem dX12_coefficient_99 : decode cX12_coefficient 99 = .ok (.invokestatic 262, 3) := by decide +kernel
theorem dX12_coefficient_102 : decode cX12_coefficient 102 = .ok (.iload 6, 2) := by decide +kernel
theorem dX12_coefficient_104 : decode cX12_coefficient 104 = .ok (.invokestatic 83, 3) := by decide +kernel
theorem dX12_coefficient_107 : decode cX12_coefficient 107 = .ok (.aload 4, 2) := by decide +kernel
theorem dX12_coefficient_109 : decode cX12_coefficient 109 = .ok (.getfield 80, 3) := by decide +kernel
theorem dX12_coefficient_112 : decode cX12_coefficient 112 = .ok (.iload 6, 2) := by decide +kernel
theorem dX12_coefficient_114 : decode cX12_coefficient 114 = .ok (.iaload, 1) := by decide +kernel
theorem dX12_coefficient_115 : decode cX12_coefficient 115 = .ok (.isub, 1) := by decide +kernel
theorem dX12_coefficient_116 : decode cX12_coefficient 116 = .ok (.iload_n 3, 1) := by decide +kernel
theorem dX12_coefficient_117 : decode cX12_coefficient 117 = .ok (.invokestatic 262, 3) := by decide +kernel
theorem dX12_coefficient_120 : decode cX12_coefficient 120 = .ok (.imul, 1) := by decide +kernel
theorem dX12_coefficient_121 : decode cX12_coefficient 121 = .ok (.iadd, 1) := by decide +kernel
theorem dX12_coefficient_122 : decode cX12_coefficient 122 = .ok (.istore 5, 2) := by decide +kernel
theorem dX12_coefficient_124 : decode cX12_coefficient 124 = .ok (.iinc 6 1, 3) := by decide +kernel
theorem dX12_coefficient_127 : decode cX12_coefficient 127 = .ok (.goto (-55), 3) := by decide +kernel
theorem dX12_coefficient_130 : decode cX12_coefficient 130 = .ok (.iload 5, 2) := by decide +kernel
theorem dX12_coefficient_132 : decode cX12_coefficient 132 = .ok (.ireturn, 1) := by decide +kernel
theorem dX12_power_0 : decode cX12_power 0 = .ok (.lconst 1, 1) := by decide +kernel
theorem dX12_power_1 : decode cX12_power 1 = .ok (.lstore_n 3, 1) := by decide +kernel
theorem dX12_power_2 : decode cX12_power 2 = .ok (.iconst 0, 1) := by decide +kernel
theorem dX12_power_3 : decode cX12_power 3 = .ok (.istore 5, 2) := by decide +kernel
theorem dX12_power_5 : decode cX12_power 5 = .ok (.iload 5, 2) := by decide +kernel
theorem dX12_power_7 : decode cX12_power 7 = .ok (.iload_n 2, 1) := by decide +kernel
theorem dX12_power_8 : decode cX12_power 8 = .ok (.if_icmp .ge 13, 3) := by decide +kernel
theorem dX12_power_11 : decode cX12_power 11 = .ok (.lload_n 3, 1) := by decide +kernel
theorem dX12_power_12 : decode cX12_power 12 = .ok (.lload_n 0, 1) := by decide +kernel
theorem dX12_power_13 : decode cX12_power 13 = .ok (.lmul, 1) := by decide +kernel
theorem dX12_power_14 : decode cX12_power 14 = .ok (.lstore_n 3, 1) := by decide +kernel
theorem dX12_power_15 : decode cX12_power 15 = .ok (.iinc 5 1, 3) := by decide +kernel
theorem dX12_power_18 : decode cX12_power 18 = .ok (.goto (-13), 3) := by decide +kernel
theorem dX12_power_21 : decode cX12_power 21 = .ok (.lload_n 3, 1) := by decide +kernel
theorem dX12_power_22 : decode cX12_power 22 = .ok (.lreturn, 1) := by decide +kernel
theorem dX12_value_0 : decode cX12_value 0 = .ok (.aload_n 0, 1) := by decide +kernel
theorem dX12_value_1 : decode cX12_value 1 = .ok (.iconst 0, 1) := by decide +kernel
theorem dX12_value_2 : decode cX12_value 2 = .ok (.putfield 40, 3) := by decide +kernel
theorem dX12_value_5 : decode cX12_value 5 = .ok (.aload_n 0, 1) := by decide +kernel
theorem dX12_value_6 : decode cX12_value 6 = .ok (.aload_n 0, 1) := by decide +kernel
theorem dX12_value_7 : decode cX12_value 7 = .ok (.iload_n 1, 1) := by decide +kernel
theorem dX12_value_8 : decode cX12_value 8 = .ok (.invokevirtual 52, 3) := by decide +kernel
theorem dX12_value_11 : decode cX12_value 11 = .ok (.iconst 1, 1) := by decide +kernel
theorem dX12_value_12 : decode cX12_value 12 = .ok (.invokevirtual 69, 3) := by decide +kernel
theorem dX12_value_15 : decode cX12_value 15 = .ok (.ifCond .ne 38, 3) := by decide +kernel
theorem dX12_value_18 : decode cX12_value 18 = .ok (.aload_n 0, 1) := by decide +kernel
theorem dX12_value_19 : decode cX12_value 19 = .ok (.iload_n 2, 1) := by decide +kernel
theorem dX12_value_20 : decode cX12_value 20 = .ok (.bipush (-9), 2) := by decide +kernel
theorem dX12_value_22 : decode cX12_value 22 = .ok (.bipush 9, 2) := by decide +kernel
theorem dX12_value_24 : decode cX12_value 24 = .ok (.invokestatic 48, 3) := by decide +kernel
theorem dX12_value_27 : decode cX12_value 27 = .ok (.ifCond .eq 14, 3) := by decide +kernel
theorem dX12_value_30 : decode cX12_value 30 = .ok (.iload_n 3, 1) := by decide +kernel
theorem dX12_value_31 : decode cX12_value 31 = .ok (.bipush (-9), 2) := by decide +kernel
theorem dX12_value_33 : decode cX12_value 33 = .ok (.bipush 9, 2) := by decide +kernel
theorem dX12_value_35 : decode cX12_value 35 = .ok (.invokestatic 48, 3) := by decide +kernel
theorem dX12_value_38 : decode cX12_value 38 = .ok (.ifCond .ne 7, 3) := by decide +kernel
theorem dX12_value_41 : decode cX12_value 41 = .ok (.iconst 1, 1) := by decide +kernel
theorem dX12_value_42 : decode cX12_value 42 = .ok (.goto 4, 3) := by decide +kernel
theorem dX12_value_45 : decode cX12_value 45 = .ok (.iconst 0, 1) := by decide +kernel
theorem dX12_value_46 : decode cX12_value 46 = .ok (.iconst 2, 1) := by decide +kernel
theorem dX12_value_47 : decode cX12_value 47 = .ok (.invokevirtual 69, 3) := by decide +kernel
theorem dX12_value_50 : decode cX12_value 50 = .ok (.ifCond .eq 5, 3) := by decide +kernel
theorem dX12_value_53 : decode cX12_value 53 = .ok (.lconst 0, 1) := by decide +kernel
theorem dX12_value_54 : decode cX12_value 54 = .ok (.lreturn, 1) := by decide +kernel
theorem dX12_value_55 : decode cX12_value 55 = .ok (.aload_n 0, 1) := by decide +kernel
theorem dX12_value_56 : decode cX12_value 56 = .ok (.getfield 19, 3) := by decide +kernel
theorem dX12_value_59 : decode cX12_value 59 = .ok (.iload_n 1, 1) := by decide +kernel
theorem dX12_value_60 : decode cX12_value 60 = .ok (.invokevirtual 56, 3) := by decide +kernel
theorem dX12_value_63 : decode cX12_value 63 = .ok (.checkcast 33, 3) := by decide +kernel
theorem dX12_value_66 : decode cX12_value 66 = .ok (.astore 4, 2) := by decide +kernel
theorem dX12_value_68 : decode cX12_value 68 = .ok (.lconst 0, 1) := by decide +kernel
theorem dX12_value_69 : decode cX12_value 69 = .ok (.lstore 5, 2) := by decide +kernel
theorem dX12_value_71 : decode cX12_value 71 = .ok (.iconst 0, 1) := by decide +kernel
theorem dX12_value_72 : decode cX12_value 72 = .ok (.istore 7, 2) := by decide +kernel
theorem dX12_value_74 : decode cX12_value 74 = .ok (.iload 7, 2) := by decide +kernel
theorem dX12_value_76 : decode cX12_value 76 = .ok (.aload 4, 2) := by decide +kernel
theorem dX12_value_78 : decode cX12_value 78 = .ok (.invokevirtual 62, 3) := by decide +kernel
theorem dX12_value_81 : decode cX12_value 81 = .ok (.if_icmp .gt 57, 3) := by decide +kernel
theorem dX12_value_84 : decode cX12_value 84 = .ok (.lload 5, 2) := by decide +kernel
theorem dX12_value_86 : decode cX12_value 86 = .ok (.iload_n 2, 1) := by decide +kernel
theorem dX12_value_87 : decode cX12_value 87 = .ok (.i2l, 1) := by decide +kernel
theorem dX12_value_88 : decode cX12_value 88 = .ok (.lconst 1, 1) := by decide +kernel
theorem dX12_value_89 : decode cX12_value 89 = .ok (.lsub, 1) := by decide +kernel
theorem dX12_value_90 : decode cX12_value 90 = .ok (.aload 4, 2) := by decide +kernel
theorem dX12_value_92 : decode cX12_value 92 = .ok (.invokevirtual 135, 3) := by decide +kernel
theorem dX12_value_95 : decode cX12_value 95 = .ok (.aload 4, 2) := by decide +kernel
theorem dX12_value_97 : decode cX12_value 97 = .ok (.getfield 80, 3) := by decide +kernel
theorem dX12_value_100 : decode cX12_value 100 = .ok (.iload 7, 2) := by decide +kernel
theorem dX12_value_102 : decode cX12_value 102 = .ok (.iaload, 1) := by decide +kernel
theorem dX12_value_103 : decode cX12_value 103 = .ok (.isub, 1) := by decide +kernel
theorem dX12_value_104 : decode cX12_value 104 = .ok (.invokestatic 265, 3) := by decide +kernel
theorem dX12_value_107 : decode cX12_value 107 = .ok (.iload_n 3, 1) := by decide +kernel
theorem dX12_value_108 : decode cX12_value 108 = .ok (.i2l, 1) := by decide +kernel
theorem dX12_value_109 : decode cX12_value 109 = .ok (.lconst 1, 1) := by decide +kernel
theorem dX12_value_110 : decode cX12_value 110 = .ok (.lsub, 1) := by decide +kernel
theorem dX12_value_111 : decode cX12_value 111 = .ok (.iload 7, 2) := by decide +kernel
theorem dX12_value_113 : decode cX12_value 113 = .ok (.invokestatic 83, 3) := by decide +kernel
theorem dX12_value_116 : decode cX12_value 116 = .ok (.aload 4, 2) := by decide +kernel
theorem dX12_value_118 : decode cX12_value 118 = .ok (.getfield 80, 3) := by decide +kernel
theorem dX12_value_121 : decode cX12_value 121 = .ok (.iload 7, 2) := by decide +kernel
theorem dX12_value_123 : decode cX12_value 123 = .ok (.iaload, 1) := by decide +kernel
theorem dX12_value_124 : decode cX12_value 124 = .ok (.isub, 1) := by decide +kernel
theorem dX12_value_125 : decode cX12_value 125 = .ok (.invokestatic 265, 3) := by decide +kernel
theorem dX12_value_128 : decode cX12_value 128 = .ok (.lmul, 1) := by decide +kernel
theorem dX12_value_129 : decode cX12_value 129 = .ok (.ladd, 1) := by decide +kernel
theorem dX12_value_130 : decode cX12_value 130 = .ok (.lstore 5, 2) := by decide +kernel
theorem dX12_value_132 : decode cX12_value 132 = .ok (.iinc 7 1, 3) := by decide +kernel
theorem dX12_value_135 : decode cX12_value 135 = .ok (.goto (-61), 3) := by decide +kernel
theorem dX12_value_138 : decode cX12_value 138 = .ok (.lload 5, 2) := by decide +kernel
theorem dX12_value_140 : decode cX12_value 140 = .ok (.lreturn, 1) := by decide +kernel
theorem dX12_other_0 : decode cX12_other 0 = .ok (.aload_n 0, 1) := by decide +kernel
theorem dX12_other_1 : decode cX12_other 1 = .ok (.iconst 0, 1) := by decide +kernel
theorem dX12_other_2 : decode cX12_other 2 = .ok (.putfield 40, 3) := by decide +kernel
theorem dX12_other_5 : decode cX12_other 5 = .ok (.aload_n 0, 1) := by decide +kernel
theorem dX12_other_6 : decode cX12_other 6 = .ok (.aload_n 0, 1) := by decide +kernel
theorem dX12_other_7 : decode cX12_other 7 = .ok (.iload_n 1, 1) := by decide +kernel
theorem dX12_other_8 : decode cX12_other 8 = .ok (.invokevirtual 52, 3) := by decide +kernel
theorem dX12_other_11 : decode cX12_other 11 = .ok (.iconst 1, 1) := by decide +kernel
theorem dX12_other_12 : decode cX12_other 12 = .ok (.invokevirtual 69, 3) := by decide +kernel
theorem dX12_other_15 : decode cX12_other 15 = .ok (.ifCond .ne 26, 3) := by decide +kernel
theorem dX12_other_18 : decode cX12_other 18 = .ok (.aload_n 0, 1) := by decide +kernel
theorem dX12_other_19 : decode cX12_other 19 = .ok (.iload_n 2, 1) := by decide +kernel
theorem dX12_other_20 : decode cX12_other 20 = .ok (.iconst 0, 1) := by decide +kernel
theorem dX12_other_21 : decode cX12_other 21 = .ok (.bipush 10, 2) := by decide +kernel
theorem dX12_other_23 : decode cX12_other 23 = .ok (.invokestatic 48, 3) := by decide +kernel
theorem dX12_other_26 : decode cX12_other 26 = .ok (.ifCond .ne 7, 3) := by decide +kernel
theorem dX12_other_29 : decode cX12_other 29 = .ok (.iconst 1, 1) := by decide +kernel
theorem dX12_other_30 : decode cX12_other 30 = .ok (.goto 4, 3) := by decide +kernel
theorem dX12_other_33 : decode cX12_other 33 = .ok (.iconst 0, 1) := by decide +kernel
theorem dX12_other_34 : decode cX12_other 34 = .ok (.iconst 2, 1) := by decide +kernel
theorem dX12_other_35 : decode cX12_other 35 = .ok (.invokevirtual 69, 3) := by decide +kernel
theorem dX12_other_38 : decode cX12_other 38 = .ok (.ifCond .eq 5, 3) := by decide +kernel
theorem dX12_other_41 : decode cX12_other 41 = .ok (.iconst 0, 1) := by decide +kernel
theorem dX12_other_42 : decode cX12_other 42 = .ok (.ireturn, 1) := by decide +kernel
theorem dX12_other_43 : decode cX12_other 43 = .ok (.aload_n 0, 1) := by decide +kernel
theorem dX12_other_44 : decode cX12_other 44 = .ok (.getfield 19, 3) := by decide +kernel
theorem dX12_other_47 : decode cX12_other 47 = .ok (.iload_n 1, 1) := by decide +kernel
theorem dX12_other_48 : decode cX12_other 48 = .ok (.invokevirtual 56, 3) := by decide +kernel
theorem dX12_other_51 : decode cX12_other 51 = .ok (.checkcast 33, 3) := by decide +kernel
theorem dX12_other_54 : decode cX12_other 54 = .ok (.astore_n 3, 1) := by decide +kernel
theorem dX12_other_55 : decode cX12_other 55 = .ok (.iconst 0, 1) := by decide +kernel
theorem dX12_other_56 : decode cX12_other 56 = .ok (.istore 4, 2) := by decide +kernel
theorem dX12_other_58 : decode cX12_other 58 = .ok (.iconst 0, 1) := by decide +kernel
theorem dX12_other_59 : decode cX12_other 59 = .ok (.istore 5, 2) := by decide +kernel
theorem dX12_other_61 : decode cX12_other 61 = .ok (.iload 5, 2) := by decide +kernel
theorem dX12_other_63 : decode cX12_other 63 = .ok (.aload_n 3, 1) := by decide +kernel
theorem dX12_other_64 : decode cX12_other 64 = .ok (.invokevirtual 62, 3) := by decide +kernel
theorem dX12_other_67 : decode cX12_other 67 = .ok (.if_icmp .gt 61, 3) := by decide +kernel
theorem dX12_other_70 : decode cX12_other 70 = .ok (.aload_n 3, 1) := by decide +kernel
theorem dX12_other_71 : decode cX12_other 71 = .ok (.invokevirtual 135, 3) := by decide +kernel
theorem dX12_other_74 : decode cX12_other 74 = .ok (.aload_n 3, 1) := by decide +kernel
theorem dX12_other_75 : decode cX12_other 75 = .ok (.getfield 80, 3) := by decide +kernel
theorem dX12_other_78 : decode cX12_other 78 = .ok (.iload 5, 2) := by decide +kernel
theorem dX12_other_80 : decode cX12_other 80 = .ok (.iaload, 1) := by decide +kernel
theorem dX12_other_81 : decode cX12_other 81 = .ok (.isub, 1) := by decide +kernel
theorem dX12_other_82 : decode cX12_other 82 = .ok (.iload_n 2, 1) := by decide +kernel
theorem dX12_other_83 : decode cX12_other 83 = .ok (.if_icmp .ne 7, 3) := by decide +kernel
theorem dX12_other_86 : decode cX12_other 86 = .ok (.iconst 1, 1) := by decide +kernel
theorem dX12_other_87 : decode cX12_other 87 = .ok (.goto 4, 3) := by decide +kernel
theorem dX12_other_90 : decode cX12_other 90 = .ok (.iconst 0, 1) := by decide +kernel
theorem dX12_other_91 : decode cX12_other 91 = .ok (.istore 6, 2) := by decide +kernel
theorem dX12_other_93 : decode cX12_other 93 = .ok (.iload 4, 2) := by decide +kernel
theorem dX12_other_95 : decode cX12_other 95 = .ok (.iload 6, 2) := by decide +kernel
theorem dX12_other_97 : decode cX12_other 97 = .ok (.ifCond .ne 7, 3) := by decide +kernel
theorem dX12_other_100 : decode cX12_other 100 = .ok (.iconst 0, 1) := by decide +kernel
theorem dX12_other_101 : decode cX12_other 101 = .ok (.goto 18, 3) := by decide +kernel
theorem dX12_other_104 : decode cX12_other 104 = .ok (.iload 5, 2) := by decide +kernel
theorem dX12_other_106 : decode cX12_other 106 = .ok (.invokestatic 83, 3) := by decide +kernel
theorem dX12_other_109 : decode cX12_other 109 = .ok (.iconst 2, 1) := by decide +kernel
theorem dX12_other_110 : decode cX12_other 110 = .ok (.irem, 1) := by decide +kernel
theorem dX12_other_111 : decode cX12_other 111 = .ok (.ifCond .ne 7, 3) := by decide +kernel
theorem dX12_other_114 : decode cX12_other 114 = .ok (.iconst 1, 1) := by decide +kernel
theorem dX12_other_115 : decode cX12_other 115 = .ok (.goto 4, 3) := by decide +kernel
theorem dX12_other_118 : decode cX12_other 118 = .ok (.iconst (-1), 1) := by decide +kernel
theorem dX12_other_119 : decode cX12_other 119 = .ok (.iadd, 1) := by decide +kernel
theorem dX12_other_120 : decode cX12_other 120 = .ok (.istore 4, 2) := by decide +kernel
theorem dX12_other_122 : decode cX12_other 122 = .ok (.iinc 5 1, 3) := by decide +kernel
theorem dX12_other_125 : decode cX12_other 125 = .ok (.goto (-64), 3) := by decide +kernel
theorem dX12_other_128 : decode cX12_other 128 = .ok (.iload 4, 2) := by decide +kernel
theorem dX12_other_130 : decode cX12_other 130 = .ok (.ireturn, 1) := by decide +kernel
theorem dX12_matroids_0 : decode cX12_matroids 0 = .ok (.aload_n 0, 1) := by decide +kernel
theorem dX12_matroids_1 : decode cX12_matroids 1 = .ok (.iconst 0, 1) := by decide +kernel
theorem dX12_matroids_2 : decode cX12_matroids 2 = .ok (.putfield 40, 3) := by decide +kernel
theorem dX12_matroids_5 : decode cX12_matroids 5 = .ok (.aload_n 0, 1) := by decide +kernel
theorem dX12_matroids_6 : decode cX12_matroids 6 = .ok (.getfield 19, 3) := by decide +kernel
theorem dX12_matroids_9 : decode cX12_matroids 9 = .ok (.invokevirtual 44, 3) := by decide +kernel
theorem dX12_matroids_12 : decode cX12_matroids 12 = .ok (.ireturn, 1) := by decide +kernel
theorem dX12_binaryShare_0 : decode cX12_binaryShare 0 = .ok (.aload_n 0, 1) := by decide +kernel
theorem dX12_binaryShare_1 : decode cX12_binaryShare 1 = .ok (.iconst 0, 1) := by decide +kernel
theorem dX12_binaryShare_2 : decode cX12_binaryShare 2 = .ok (.putfield 40, 3) := by decide +kernel
theorem dX12_binaryShare_5 : decode cX12_binaryShare 5 = .ok (.iconst 0, 1) := by decide +kernel
theorem dX12_binaryShare_6 : decode cX12_binaryShare 6 = .ok (.istore_n 1, 1) := by decide +kernel
theorem dX12_binaryShare_7 : decode cX12_binaryShare 7 = .ok (.aload_n 0, 1) := by decide +kernel
theorem dX12_binaryShare_8 : decode cX12_binaryShare 8 = .ok (.getfield 19, 3) := by decide +kernel
theorem dX12_binaryShare_11 : decode cX12_binaryShare 11 = .ok (.invokevirtual 269, 3) := by decide +kernel
theorem dX12_binaryShare_14 : decode cX12_binaryShare 14 = .ok (.astore_n 2, 1) := by decide +kernel
theorem dX12_binaryShare_15 : decode cX12_binaryShare 15 = .ok (.aload_n 2, 1) := by decide +kernel
theorem dX12_binaryShare_16 : decode cX12_binaryShare 16 = .ok (.invokeinterface 273 1, 5) := by decide +kernel
theorem dX12_binaryShare_21 : decode cX12_binaryShare 21 = .ok (.ifCond .eq 33, 3) := by decide +kernel
theorem dX12_binaryShare_24 : decode cX12_binaryShare 24 = .ok (.aload_n 2, 1) := by decide +kernel
theorem dX12_binaryShare_25 : decode cX12_binaryShare 25 = .ok (.invokeinterface 279 1, 5) := by decide +kernel
theorem dX12_binaryShare_30 : decode cX12_binaryShare 30 = .ok (.checkcast 33, 3) := by decide +kernel
theorem dX12_binaryShare_33 : decode cX12_binaryShare 33 = .ok (.astore_n 3, 1) := by decide +kernel
theorem dX12_binaryShare_34 : decode cX12_binaryShare 34 = .ok (.iload_n 1, 1) := by decide +kernel
theorem dX12_binaryShare_35 : decode cX12_binaryShare 35 = .ok (.aload_n 0, 1) := by decide +kernel
theorem dX12_binaryShare_36 : decode cX12_binaryShare 36 = .ok (.aload_n 3, 1) := by decide +kernel
theorem dX12_binaryShare_37 : decode cX12_binaryShare 37 = .ok (.iconst 2, 1) := by decide +kernel
theorem dX12_binaryShare_38 : decode cX12_binaryShare 38 = .ok (.invokevirtual 228, 3) := by decide +kernel
theorem dX12_binaryShare_41 : decode cX12_binaryShare 41 = .ok (.ifnull 7, 3) := by decide +kernel
theorem dX12_binaryShare_44 : decode cX12_binaryShare 44 = .ok (.iconst 1, 1) := by decide +kernel
theorem dX12_binaryShare_45 : decode cX12_binaryShare 45 = .ok (.goto 4, 3) := by decide +kernel
theorem dX12_binaryShare_48 : decode cX12_binaryShare 48 = .ok (.iconst 0, 1) := by decide +kernel
theorem dX12_binaryShare_49 : decode cX12_binaryShare 49 = .ok (.iadd, 1) := by decide +kernel
theorem dX12_binaryShare_50 : decode cX12_binaryShare 50 = .ok (.istore_n 1, 1) := by decide +kernel
theorem dX12_binaryShare_51 : decode cX12_binaryShare 51 = .ok (.goto (-36), 3) := by decide +kernel
theorem dX12_binaryShare_54 : decode cX12_binaryShare 54 = .ok (.aload_n 0, 1) := by decide +kernel
theorem dX12_binaryShare_55 : decode cX12_binaryShare 55 = .ok (.aload_n 0, 1) := by decide +kernel
theorem dX12_binaryShare_56 : decode cX12_binaryShare 56 = .ok (.getfield 19, 3) := by decide +kernel
theorem dX12_binaryShare_59 : decode cX12_binaryShare 59 = .ok (.invokevirtual 283, 3) := by decide +kernel
theorem dX12_binaryShare_62 : decode cX12_binaryShare 62 = .ok (.iconst 1, 1) := by decide +kernel
theorem dX12_binaryShare_63 : decode cX12_binaryShare 63 = .ok (.invokevirtual 69, 3) := by decide +kernel
theorem dX12_binaryShare_66 : decode cX12_binaryShare 66 = .ok (.ifCond .eq 7, 3) := by decide +kernel
theorem dX12_binaryShare_69 : decode cX12_binaryShare 69 = .ok (.fconst 0, 1) := by decide +kernel
theorem dX12_binaryShare_70 : decode cX12_binaryShare 70 = .ok (.goto 14, 3) := by decide +kernel
theorem dX12_binaryShare_73 : decode cX12_binaryShare 73 = .ok (.iload_n 1, 1) := by decide +kernel
theorem dX12_binaryShare_74 : decode cX12_binaryShare 74 = .ok (.i2f, 1) := by decide +kernel
theorem dX12_binaryShare_75 : decode cX12_binaryShare 75 = .ok (.aload_n 0, 1) := by decide +kernel
theorem dX12_binaryShare_76 : decode cX12_binaryShare 76 = .ok (.getfield 19, 3) := by decide +kernel
theorem dX12_binaryShare_79 : decode cX12_binaryShare 79 = .ok (.invokevirtual 44, 3) := by decide +kernel
theorem dX12_binaryShare_82 : decode cX12_binaryShare 82 = .ok (.i2f, 1) := by decide +kernel
theorem dX12_binaryShare_83 : decode cX12_binaryShare 83 = .ok (.fdiv, 1) := by decide +kernel
theorem dX12_binaryShare_84 : decode cX12_binaryShare 84 = .ok (.freturn, 1) := by decide +kernel
theorem dX12_meanBases_0 : decode cX12_meanBases 0 = .ok (.aload_n 0, 1) := by decide +kernel
theorem dX12_meanBases_1 : decode cX12_meanBases 1 = .ok (.iconst 0, 1) := by decide +kernel
theorem dX12_meanBases_2 : decode cX12_meanBases 2 = .ok (.putfield 40, 3) := by decide +kernel
theorem dX12_meanBases_5 : decode cX12_meanBases 5 = .ok (.iconst 0, 1) := by decide +kernel
theorem dX12_meanBases_6 : decode cX12_meanBases 6 = .ok (.istore_n 1, 1) := by decide +kernel
theorem dX12_meanBases_7 : decode cX12_meanBases 7 = .ok (.aload_n 0, 1) := by decide +kernel
theorem dX12_meanBases_8 : decode cX12_meanBases 8 = .ok (.getfield 19, 3) := by decide +kernel
theorem dX12_meanBases_11 : decode cX12_meanBases 11 = .ok (.invokevirtual 269, 3) := by decide +kernel
theorem dX12_meanBases_14 : decode cX12_meanBases 14 = .ok (.astore_n 2, 1) := by decide +kernel
theorem dX12_meanBases_15 : decode cX12_meanBases 15 = .ok (.aload_n 2, 1) := by decide +kernel
theorem dX12_meanBases_16 : decode cX12_meanBases 16 = .ok (.invokeinterface 273 1, 5) := by decide +kernel
theorem dX12_meanBases_21 : decode cX12_meanBases 21 = .ok (.ifCond .eq 25, 3) := by decide +kernel
theorem dX12_meanBases_24 : decode cX12_meanBases 24 = .ok (.aload_n 2, 1) := by decide +kernel
theorem dX12_meanBases_25 : decode cX12_meanBases 25 = .ok (.invokeinterface 279 1, 5) := by decide +kernel
theorem dX12_meanBases_30 : decode cX12_meanBases 30 = .ok (.checkcast 33, 3) := by decide +kernel
theorem dX12_meanBases_33 : decode cX12_meanBases 33 = .ok (.astore_n 3, 1) := by decide +kernel
theorem dX12_meanBases_34 : decode cX12_meanBases 34 = .ok (.iload_n 1, 1) := by decide +kernel
theorem dX12_meanBases_35 : decode cX12_meanBases 35 = .ok (.aload_n 3, 1) := by decide +kernel
theorem dX12_meanBases_36 : decode cX12_meanBases 36 = .ok (.bipush 98, 2) := by decide +kernel
theorem dX12_meanBases_38 : decode cX12_meanBases 38 = .ok (.invokestatic 173, 3) := by decide +kernel
theorem dX12_meanBases_41 : decode cX12_meanBases 41 = .ok (.iadd, 1) := by decide +kernel
theorem dX12_meanBases_42 : decode cX12_meanBases 42 = .ok (.istore_n 1, 1) := by decide +kernel
theorem dX12_meanBases_43 : decode cX12_meanBases 43 = .ok (.goto (-28), 3) := by decide +kernel
theorem dX12_meanBases_46 : decode cX12_meanBases 46 = .ok (.aload_n 0, 1) := by decide +kernel
theorem dX12_meanBases_47 : decode cX12_meanBases 47 = .ok (.aload_n 0, 1) := by decide +kernel
theorem dX12_meanBases_48 : decode cX12_meanBases 48 = .ok (.getfield 19, 3) := by decide +kernel
theorem dX12_meanBases_51 : decode cX12_meanBases 51 = .ok (.invokevirtual 283, 3) := by decide +kernel
theorem dX12_meanBases_54 : decode cX12_meanBases 54 = .ok (.iconst 1, 1) := by decide +kernel
theorem dX12_meanBases_55 : decode cX12_meanBases 55 = .ok (.invokevirtual 69, 3) := by decide +kernel
theorem dX12_meanBases_58 : decode cX12_meanBases 58 = .ok (.ifCond .eq 7, 3) := by decide +kernel
theorem dX12_meanBases_61 : decode cX12_meanBases 61 = .ok (.dconst 0, 1) := by decide +kernel
theorem dX12_meanBases_62 : decode cX12_meanBases 62 = .ok (.goto 14, 3) := by decide +kernel
theorem dX12_meanBases_65 : decode cX12_meanBases 65 = .ok (.iload_n 1, 1) := by decide +kernel
theorem dX12_meanBases_66 : decode cX12_meanBases 66 = .ok (.i2d, 1) := by decide +kernel
theorem dX12_meanBases_67 : decode cX12_meanBases 67 = .ok (.aload_n 0, 1) := by decide +kernel
theorem dX12_meanBases_68 : decode cX12_meanBases 68 = .ok (.getfield 19, 3) := by decide +kernel
theorem dX12_meanBases_71 : decode cX12_meanBases 71 = .ok (.invokevirtual 44, 3) := by decide +kernel
theorem dX12_meanBases_74 : decode cX12_meanBases 74 = .ok (.i2d, 1) := by decide +kernel
theorem dX12_meanBases_75 : decode cX12_meanBases 75 = .ok (.ddiv, 1) := by decide +kernel
theorem dX12_meanBases_76 : decode cX12_meanBases 76 = .ok (.dreturn, 1) := by decide +kernel
theorem dX12_isSound_0 : decode cX12_isSound 0 = .ok (.aload_n 0, 1) := by decide +kernel
theorem dX12_isSound_1 : decode cX12_isSound 1 = .ok (.iconst 0, 1) := by decide +kernel
theorem dX12_isSound_2 : decode cX12_isSound 2 = .ok (.putfield 40, 3) := by decide +kernel
theorem dX12_isSound_5 : decode cX12_isSound 5 = .ok (.iconst 1, 1) := by decide +kernel
theorem dX12_isSound_6 : decode cX12_isSound 6 = .ok (.ireturn, 1) := by decide +kernel
