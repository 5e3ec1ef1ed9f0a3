theorem dX10_init_0 : decode cX10_init 0 = .ok (.aload_n 0, 1) := by decide +kernel
theorem dX10_init_1 : decode cX10_init 1 = .ok (.invokespecial 1, 3) := by decide +kernel
theorem dX10_init_4 : decode cX10_init 4 = .ok (.aload_n 0, 1) := by decide +kernel
theorem dX10_init_5 : decode cX10_init 5 = .ok (.new 7, 3) := by decide +kernel
theorem dX10_init_8 : decode cX10_init 8 = .ok (.dup, 1) := by decide +kernel
theorem dX10_init_9 : decode cX10_init 9 = .ok (.invokespecial 9, 3) := by decide +kernel
theorem dX10_init_12 : decode cX10_init 12 = .ok (.putfield 10, 3) := by decide +kernel
theorem dX10_init_15 : decode cX10_init 15 = .ok (.aload_n 0, 1) := by decide +kernel
theorem dX10_init_16 : decode cX10_init 16 = .ok (.bipush 24, 2) := by decide +kernel
theorem dX10_init_18 : decode cX10_init 18 = .ok (.anewarray 16, 3) := by decide +kernel
theorem dX10_init_21 : decode cX10_init 21 = .ok (.putfield 18, 3) := by decide +kernel
theorem dX10_init_24 : decode cX10_init 24 = .ok (.aload_n 0, 1) := by decide +kernel
theorem dX10_init_25 : decode cX10_init 25 = .ok (.new 22, 3) := by decide +kernel
theorem dX10_init_28 : decode cX10_init 28 = .ok (.dup, 1) := by decide +kernel
theorem dX10_init_29 : decode cX10_init 29 = .ok (.invokespecial 24, 3) := by decide +kernel
theorem dX10_init_32 : decode cX10_init 32 = .ok (.putfield 25, 3) := by decide +kernel
theorem dX10_init_35 : decode cX10_init 35 = .ok (.aload_n 0, 1) := by decide +kernel
theorem dX10_init_36 : decode cX10_init 36 = .ok (.new 22, 3) := by decide +kernel
theorem dX10_init_39 : decode cX10_init 39 = .ok (.dup, 1) := by decide +kernel
theorem dX10_init_40 : decode cX10_init 40 = .ok (.invokespecial 24, 3) := by decide +kernel
theorem dX10_init_43 : decode cX10_init 43 = .ok (.putfield 29, 3) := by decide +kernel
theorem dX10_init_46 : decode cX10_init 46 = .ok (.aload_n 0, 1) := by decide +kernel
theorem dX10_init_47 : decode cX10_init 47 = .ok (.new 32, 3) := by decide +kernel
theorem dX10_init_50 : decode cX10_init 50 = .ok (.dup, 1) := by decide +kernel
theorem dX10_init_51 : decode cX10_init 51 = .ok (.invokespecial 34, 3) := by decide +kernel
theorem dX10_init_54 : decode cX10_init 54 = .ok (.putfield 35, 3) := by decide +kernel
theorem dX10_init_57 : decode cX10_init 57 = .ok (.aload_n 0, 1) := by decide +kernel
theorem dX10_init_58 : decode cX10_init 58 = .ok (.new 32, 3) := by decide +kernel
theorem dX10_init_61 : decode cX10_init 61 = .ok (.dup, 1) := by decide +kernel
theorem dX10_init_62 : decode cX10_init 62 = .ok (.invokespecial 34, 3) := by decide +kernel
theorem dX10_init_65 : decode cX10_init 65 = .ok (.putfield 39, 3) := by decide +kernel
theorem dX10_init_68 : decode cX10_init 68 = .ok (.aload_n 0, 1) := by decide +kernel
theorem dX10_init_69 : decode cX10_init 69 = .ok (.new 42, 3) := by decide +kernel
theorem dX10_init_72 : decode cX10_init 72 = .ok (.dup, 1) := by decide +kernel
theorem dX10_init_73 : decode cX10_init 73 = .ok (.aload_n 0, 1) := by decide +kernel
theorem dX10_init_74 : decode cX10_init 74 = .ok (.getfield 39, 3) := by decide +kernel
theorem dX10_init_77 : decode cX10_init 77 = .ok (.invokespecial 44, 3) := by decide +kernel
theorem dX10_init_80 : decode cX10_init 80 = .ok (.putfield 47, 3) := by decide +kernel
theorem dX10_init_83 : decode cX10_init 83 = .ok (.aload_n 0, 1) := by decide +kernel
theorem dX10_init_84 : decode cX10_init 84 = .ok (.iconst (-1), 1) := by decide +kernel
theorem dX10_init_85 : decode cX10_init 85 = .ok (.putfield 51, 3) := by decide +kernel
theorem dX10_init_88 : decode cX10_init 88 = .ok (.aload_n 0, 1) := by decide +kernel
theorem dX10_init_89 : decode cX10_init 89 = .ok (.iconst (-1), 1) := by decide +kernel
theorem dX10_init_90 : decode cX10_init 90 = .ok (.putfield 55, 3) := by decide +kernel
theorem dX10_init_93 : decode cX10_init 93 = .ok (.return_, 1) := by decide +kernel
theorem dX10_type_0 : decode cX10_type 0 = .ok (.iload_n 1, 1) := by decide +kernel
theorem dX10_type_1 : decode cX10_type 1 = .ok (.ifCond .lt 10, 3) := by decide +kernel
theorem dX10_type_4 : decode cX10_type 4 = .ok (.iload_n 1, 1) := by decide +kernel
theorem dX10_type_5 : decode cX10_type 5 = .ok (.sipush 1023, 3) := by decide +kernel
theorem dX10_type_8 : decode cX10_type 8 = .ok (.if_icmp .le 13, 3) := by decide +kernel
theorem dX10_type_11 : decode cX10_type 11 = .ok (.new 58, 3) := by decide +kernel
theorem dX10_type_14 : decode cX10_type 14 = .ok (.dup, 1) := by decide +kernel
theorem dX10_type_15 : decode cX10_type 15 = .ok (.ldc 60, 2) := by decide +kernel
theorem dX10_type_17 : decode cX10_type 17 = .ok (.invokespecial 62, 3) := by decide +kernel
theorem dX10_type_20 : decode cX10_type 20 = .ok (.athrow, 1) := by decide +kernel
theorem dX10_type_21 : decode cX10_type 21 = .ok (.aload_n 0, 1) := by decide +kernel
theorem dX10_type_22 : decode cX10_type 22 = .ok (.getfield 10, 3) := by decide +kernel
theorem dX10_type_25 : decode cX10_type 25 = .ok (.invokevirtual 65, 3) := by decide +kernel
theorem dX10_type_28 : decode cX10_type 28 = .ok (.ifCond .eq 13, 3) := by decide +kernel
theorem dX10_type_31 : decode cX10_type 31 = .ok (.new 69, 3) := by decide +kernel
theorem dX10_type_34 : decode cX10_type 34 = .ok (.dup, 1) := by decide +kernel
theorem dX10_type_35 : decode cX10_type 35 = .ok (.ldc 71, 2) := by decide +kernel
theorem dX10_type_37 : decode cX10_type 37 = .ok (.invokespecial 73, 3) := by decide +kernel
theorem dX10_type_40 : decode cX10_type 40 = .ok (.athrow, 1) := by decide +kernel
theorem dX10_type_41 : decode cX10_type 41 = .ok (.aload_n 0, 1) := by decide +kernel
theorem dX10_type_42 : decode cX10_type 42 = .ok (.getfield 10, 3) := by decide +kernel
theorem dX10_type_45 : decode cX10_type 45 = .ok (.iload_n 1, 1) := by decide +kernel
theorem dX10_type_46 : decode cX10_type 46 = .ok (.invokevirtual 74, 3) := by decide +kernel
theorem dX10_type_49 : decode cX10_type 49 = .ok (.aload_n 0, 1) := by decide +kernel
theorem dX10_type_50 : decode cX10_type 50 = .ok (.getfield 10, 3) := by decide +kernel
theorem dX10_type_53 : decode cX10_type 53 = .ok (.invokevirtual 78, 3) := by decide +kernel
theorem dX10_type_56 : decode cX10_type 56 = .ok (.ireturn, 1) := by decide +kernel
theorem dX10_erase_0 : decode cX10_erase 0 = .ok (.aload_n 0, 1) := by decide +kernel
theorem dX10_erase_1 : decode cX10_erase 1 = .ok (.getfield 10, 3) := by decide +kernel
theorem dX10_erase_4 : decode cX10_erase 4 = .ok (.invokevirtual 78, 3) := by decide +kernel
theorem dX10_erase_7 : decode cX10_erase 7 = .ok (.istore_n 1, 1) := by decide +kernel
theorem dX10_erase_8 : decode cX10_erase 8 = .ok (.aload_n 0, 1) := by decide +kernel
theorem dX10_erase_9 : decode cX10_erase 9 = .ok (.getfield 10, 3) := by decide +kernel
theorem dX10_erase_12 : decode cX10_erase 12 = .ok (.invokevirtual 82, 3) := by decide +kernel
theorem dX10_erase_15 : decode cX10_erase 15 = .ok (.iload_n 1, 1) := by decide +kernel
theorem dX10_erase_16 : decode cX10_erase 16 = .ok (.ireturn, 1) := by decide +kernel
theorem dX10_uniform_0 : decode cX10_uniform 0 = .ok (.iload_n 1, 1) := by decide +kernel
theorem dX10_uniform_1 : decode cX10_uniform 1 = .ok (.ifCond .lt 20, 3) := by decide +kernel
theorem dX10_uniform_4 : decode cX10_uniform 4 = .ok (.iload_n 1, 1) := by decide +kernel
theorem dX10_uniform_5 : decode cX10_uniform 5 = .ok (.bipush 10, 2) := by decide +kernel
theorem dX10_uniform_7 : decode cX10_uniform 7 = .ok (.if_icmp .gt 14, 3) := by decide +kernel
theorem dX10_uniform_10 : decode cX10_uniform 10 = .ok (.iload_n 2, 1) := by decide +kernel
theorem dX10_uniform_11 : decode cX10_uniform 11 = .ok (.iload_n 1, 1) := by decide +kernel
theorem dX10_uniform_12 : decode cX10_uniform 12 = .ok (.if_icmp .lt 9, 3) := by decide +kernel
theorem dX10_uniform_15 : decode cX10_uniform 15 = .ok (.iload_n 2, 1) := by decide +kernel
theorem dX10_uniform_16 : decode cX10_uniform 16 = .ok (.bipush 10, 2) := by decide +kernel
theorem dX10_uniform_18 : decode cX10_uniform 18 = .ok (.if_icmp .le 13, 3) := by decide +kernel
theorem dX10_uniform_21 : decode cX10_uniform 21 = .ok (.new 58, 3) := by decide +kernel
theorem dX10_uniform_24 : decode cX10_uniform 24 = .ok (.dup, 1) := by decide +kernel
theorem dX10_uniform_25 : decode cX10_uniform 25 = .ok (.ldc 85, 2) := by decide +kernel
theorem dX10_uniform_27 : decode cX10_uniform 27 = .ok (.invokespecial 62, 3) := by decide +kernel
theorem dX10_uniform_30 : decode cX10_uniform 30 = .ok (.athrow, 1) := by decide +kernel
theorem dX10_uniform_31 : decode cX10_uniform 31 = .ok (.aload_n 0, 1) := by decide +kernel
theorem dX10_uniform_32 : decode cX10_uniform 32 = .ok (.invokevirtual 87, 3) := by decide +kernel
theorem dX10_uniform_35 : decode cX10_uniform 35 = .ok (.aload_n 0, 1) := by decide +kernel
theorem dX10_uniform_36 : decode cX10_uniform 36 = .ok (.iload_n 1, 1) := by decide +kernel
theorem dX10_uniform_37 : decode cX10_uniform 37 = .ok (.iload_n 2, 1) := by decide +kernel
theorem dX10_uniform_38 : decode cX10_uniform 38 = .ok (.invokestatic 90, 3) := by decide +kernel
theorem dX10_uniform_41 : decode cX10_uniform 41 = .ok (.invokevirtual 96, 3) := by decide +kernel
theorem dX10_uniform_44 : decode cX10_uniform 44 = .ok (.ireturn, 1) := by decide +kernel
theorem dX10_graph_0 : decode cX10_graph 0 = .ok (.aload_n 0, 1) := by decide +kernel
theorem dX10_graph_1 : decode cX10_graph 1 = .ok (.getfield 10, 3) := by decide +kernel
theorem dX10_graph_4 : decode cX10_graph 4 = .ok (.invokevirtual 78, 3) := by decide +kernel
theorem dX10_graph_7 : decode cX10_graph 7 = .ok (.istore_n 1, 1) := by decide +kernel
theorem dX10_graph_8 : decode cX10_graph 8 = .ok (.iload_n 1, 1) := by decide +kernel
theorem dX10_graph_9 : decode cX10_graph 9 = .ok (.iconst 2, 1) := by decide +kernel
theorem dX10_graph_10 : decode cX10_graph 10 = .ok (.irem, 1) := by decide +kernel
theorem dX10_graph_11 : decode cX10_graph 11 = .ok (.ifCond .ne 21, 3) := by decide +kernel
theorem dX10_graph_14 : decode cX10_graph 14 = .ok (.iload_n 1, 1) := by decide +kernel
theorem dX10_graph_15 : decode cX10_graph 15 = .ok (.bipush 20, 2) := by decide +kernel
theorem dX10_graph_17 : decode cX10_graph 17 = .ok (.if_icmp .gt 15, 3) := by decide +kernel
theorem dX10_graph_20 : decode cX10_graph 20 = .ok (.aload_n 0, 1) := by decide +kernel
theorem dX10_graph_21 : decode cX10_graph 21 = .ok (.getfield 10, 3) := by decide +kernel
theorem dX10_graph_24 : decode cX10_graph 24 = .ok (.invokevirtual 100, 3) := by decide +kernel
theorem dX10_graph_27 : decode cX10_graph 27 = .ok (.bipush 10, 2) := by decide +kernel
theorem dX10_graph_29 : decode cX10_graph 29 = .ok (.if_icmp .lt 13, 3) := by decide +kernel
theorem dX10_graph_32 : decode cX10_graph 32 = .ok (.new 103, 3) := by decide +kernel
theorem dX10_graph_35 : decode cX10_graph 35 = .ok (.dup, 1) := by decide +kernel
theorem dX10_graph_36 : decode cX10_graph 36 = .ok (.ldc 105, 2) := by decide +kernel
theorem dX10_graph_38 : decode cX10_graph 38 = .ok (.invokespecial 107, 3) := by decide +kernel
theorem dX10_graph_41 : decode cX10_graph 41 = .ok (.athrow, 1) := by decide +kernel
theorem dX10_graph_42 : decode cX10_graph 42 = .ok (.aload_n 0, 1) := by decide +kernel
theorem dX10_graph_43 : decode cX10_graph 43 = .ok (.invokevirtual 87, 3) := by decide +kernel
theorem dX10_graph_46 : decode cX10_graph 46 = .ok (.aload_n 0, 1) := by decide +kernel
theorem dX10_graph_47 : decode cX10_graph 47 = .ok (.aload_n 0, 1) := by decide +kernel
theorem dX10_graph_48 : decode cX10_graph 48 = .ok (.getfield 10, 3) := by decide +kernel
theorem dX10_graph_51 : decode cX10_graph 51 = .ok (.invokestatic 108, 3) := by decide +kernel
theorem dX10_graph_54 : decode cX10_graph 54 = .ok (.invokevirtual 112, 3) := by decide +kernel
theorem dX10_graph_57 : decode cX10_graph 57 = .ok (.ireturn, 1) := by decide +kernel
theorem dX10_columns_0 : decode cX10_columns 0 = .ok (.iload_n 1, 1) := by decide +kernel
theorem dX10_columns_1 : decode cX10_columns 1 = .ok (.iconst 2, 1) := by decide +kernel
theorem dX10_columns_2 : decode cX10_columns 2 = .ok (.if_icmp .eq 13, 3) := by decide +kernel
theorem dX10_columns_5 : decode cX10_columns 5 = .ok (.iload_n 1, 1) := by decide +kernel
theorem dX10_columns_6 : decode cX10_columns 6 = .ok (.iconst 3, 1) := by decide +kernel
theorem dX10_columns_7 : decode cX10_columns 7 = .ok (.if_icmp .eq 8, 3) := by decide +kernel
theorem dX10_columns_10 : decode cX10_columns 10 = .ok (.iload_n 1, 1) := by decide +kernel
theorem dX10_columns_11 : decode cX10_columns 11 = .ok (.iconst 5, 1) := by decide +kernel
theorem dX10_columns_12 : decode cX10_columns 12 = .ok (.if_icmp .ne 14, 3) := by decide +kernel
theorem dX10_columns_15 : decode cX10_columns 15 = .ok (.iload_n 2, 1) := by decide +kernel
theorem dX10_columns_16 : decode cX10_columns 16 = .ok (.iconst 1, 1) := by decide +kernel
theorem dX10_columns_17 : decode cX10_columns 17 = .ok (.if_icmp .lt 9, 3) := by decide +kernel
theorem dX10_columns_20 : decode cX10_columns 20 = .ok (.iload_n 2, 1) := by decide +kernel
theorem dX10_columns_21 : decode cX10_columns 21 = .ok (.bipush 6, 2) := by decide +kernel
theorem dX10_columns_23 : decode cX10_columns 23 = .ok (.if_icmp .le 13, 3) := by decide +kernel
theorem dX10_columns_26 : decode cX10_columns 26 = .ok (.new 58, 3) := by decide +kernel
theorem dX10_columns_29 : decode cX10_columns 29 = .ok (.dup, 1) := by decide +kernel
theorem dX10_columns_30 : decode cX10_columns 30 = .ok (.ldc 115, 2) := by decide +kernel
theorem dX10_columns_32 : decode cX10_columns 32 = .ok (.invokespecial 62, 3) := by decide +kernel
theorem dX10_columns_35 : decode cX10_columns 35 = .ok (.athrow, 1) := by decide +kernel
theorem dX10_columns_36 : decode cX10_columns 36 = .ok (.aload_n 0, 1) := by decide +kernel
theorem dX10_columns_37 : decode cX10_columns 37 = .ok (.getfield 10, 3) := by decide +kernel
theorem dX10_columns_40 : decode cX10_columns 40 = .ok (.invokevirtual 78, 3) := by decide +kernel
theorem dX10_columns_43 : decode cX10_columns 43 = .ok (.istore_n 3, 1) := by decide +kernel
theorem dX10_columns_44 : decode cX10_columns 44 = .ok (.iload_n 3, 1) := by decide +kernel
theorem dX10_columns_45 : decode cX10_columns 45 = .ok (.iload_n 2, 1) := by decide +kernel
theorem dX10_columns_46 : decode cX10_columns 46 = .ok (.irem, 1) := by decide +kernel
theorem dX10_columns_47 : decode cX10_columns 47 = .ok (.ifCond .ne 22, 3) := by decide +kernel
theorem dX10_columns_50 : decode cX10_columns 50 = .ok (.iload_n 3, 1) := by decide +kernel
theorem dX10_columns_51 : decode cX10_columns 51 = .ok (.iload_n 2, 1) := by decide +kernel
theorem dX10_columns_52 : decode cX10_columns 52 = .ok (.bipush 10, 2) := by decide +kernel
theorem dX10_columns_54 : decode cX10_columns 54 = .ok (.imul, 1) := by decide +kernel
theorem dX10_columns_55 : decode cX10_columns 55 = .ok (.if_icmp .gt 14, 3) := by decide +kernel
theorem dX10_columns_58 : decode cX10_columns 58 = .ok (.aload_n 0, 1) := by decide +kernel
theorem dX10_columns_59 : decode cX10_columns 59 = .ok (.getfield 10, 3) := by decide +kernel
theorem dX10_columns_62 : decode cX10_columns 62 = .ok (.invokevirtual 100, 3) := by decide +kernel
theorem dX10_columns_65 : decode cX10_columns 65 = .ok (.iload_n 1, 1) := by decide +kernel
theorem dX10_columns_66 : decode cX10_columns 66 = .ok (.if_icmp .lt 13, 3) := by decide +kernel
theorem dX10_columns_69 : decode cX10_columns 69 = .ok (.new 103, 3) := by decide +kernel
theorem dX10_columns_72 : decode cX10_columns 72 = .ok (.dup, 1) := by decide +kernel
theorem dX10_columns_73 : decode cX10_columns 73 = .ok (.ldc 117, 2) := by decide +kernel
theorem dX10_columns_75 : decode cX10_columns 75 = .ok (.invokespecial 107, 3) := by decide +kernel
theorem dX10_columns_78 : decode cX10_columns 78 = .ok (.athrow, 1) := by decide +kernel
theorem dX10_columns_79 : decode cX10_columns 79 = .ok (.aload_n 0, 1) := by decide +kernel
theorem dX10_columns_80 : decode cX10_columns 80 = .ok (.invokevirtual 87, 3) := by decide +kernel
theorem dX10_columns_83 : decode cX10_columns 83 = .ok (.aload_n 0, 1) := by decide +kernel
theorem dX10_columns_84 : decode cX10_columns 84 = .ok (.aload_n 0, 1) := by decide +kernel
theorem dX10_columns_85 : decode cX10_columns 85 = .ok (.getfield 10, 3) := by decide +kernel
theorem dX10_columns_88 : decode cX10_columns 88 = .ok (.iload_n 1, 1) := by decide +kernel
theorem dX10_columns_89 : decode cX10_columns 89 = .ok (.iload_n 2, 1) := by decide +kernel
theorem dX10_columns_90 : decode cX10_columns 90 = .ok (.invokestatic 119, 3) := by decide +kernel
theorem dX10_columns_93 : decode cX10_columns 93 = .ok (.invokevirtual 112, 3) := by decide +kernel
theorem dX10_columns_96 : decode cX10_columns 96 = .ok (.ireturn, 1) := by decide +kernel
theorem dX10_meeting_0 : decode cX10_meeting 0 = .ok (.iload_n 1, 1) := by decide +kernel
theorem dX10_meeting_1 : decode cX10_meeting 1 = .ok (.invokestatic 123, 3) := by decide +kernel
theorem dX10_meeting_4 : decode cX10_meeting 4 = .ok (.aload_n 0, 1) := by decide +kernel
theorem dX10_meeting_5 : decode cX10_meeting 5 = .ok (.getfield 10, 3) := by decide +kernel
theorem dX10_meeting_8 : decode cX10_meeting 8 = .ok (.invokevirtual 78, 3) := by decide +kernel
theorem dX10_meeting_11 : decode cX10_meeting 11 = .ok (.bipush 10, 2) := by decide +kernel
theorem dX10_meeting_13 : decode cX10_meeting 13 = .ok (.if_icmp .gt 16, 3) := by decide +kernel
theorem dX10_meeting_16 : decode cX10_meeting 16 = .ok (.aload_n 0, 1) := by decide +kernel
theorem dX10_meeting_17 : decode cX10_meeting 17 = .ok (.getfield 10, 3) := by decide +kernel
theorem dX10_meeting_20 : decode cX10_meeting 20 = .ok (.invokevirtual 100, 3) := by decide +kernel
theorem dX10_meeting_23 : decode cX10_meeting 23 = .ok (.iconst 1, 1) := by decide +kernel
theorem dX10_meeting_24 : decode cX10_meeting 24 = .ok (.iload_n 1, 1) := by decide +kernel
theorem dX10_meeting_25 : decode cX10_meeting 25 = .ok (.ishl, 1) := by decide +kernel
theorem dX10_meeting_26 : decode cX10_meeting 26 = .ok (.if_icmp .lt 13, 3) := by decide +kernel
theorem dX10_meeting_29 : decode cX10_meeting 29 = .ok (.new 103, 3) := by decide +kernel
theorem dX10_meeting_32 : decode cX10_meeting 32 = .ok (.dup, 1) := by decide +kernel
theorem dX10_meeting_33 : decode cX10_meeting 33 = .ok (.ldc 126, 2) := by decide +kernel
theorem dX10_meeting_35 : decode cX10_meeting 35 = .ok (.invokespecial 107, 3) := by decide +kernel
theorem dX10_meeting_38 : decode cX10_meeting 38 = .ok (.athrow, 1) := by decide +kernel
theorem dX10_meeting_39 : decode cX10_meeting 39 = .ok (.aload_n 0, 1) := by decide +kernel
theorem dX10_meeting_40 : decode cX10_meeting 40 = .ok (.invokevirtual 87, 3) := by decide +kernel
theorem dX10_meeting_43 : decode cX10_meeting 43 = .ok (.aload_n 0, 1) := by decide +kernel
theorem dX10_meeting_44 : decode cX10_meeting 44 = .ok (.aload_n 0, 1) := by decide +kernel
theorem dX10_meeting_45 : decode cX10_meeting 45 = .ok (.getfield 10, 3) := by decide +kernel
theorem dX10_meeting_48 : decode cX10_meeting 48 = .ok (.iload_n 1, 1) := by decide +kernel
theorem dX10_meeting_49 : decode cX10_meeting 49 = .ok (.invokestatic 128, 3) := by decide +kernel
theorem dX10_meeting_52 : decode cX10_meeting 52 = .ok (.invokevirtual 112, 3) := by decide +kernel
theorem dX10_meeting_55 : decode cX10_meeting 55 = .ok (.ireturn, 1) := by decide +kernel
theorem dX10_bases_0 : decode cX10_bases 0 = .ok (.iload_n 1, 1) := by decide +kernel
theorem dX10_bases_1 : decode cX10_bases 1 = .ok (.invokestatic 123, 3) := by decide +kernel
theorem dX10_bases_4 : decode cX10_bases 4 = .ok (.aload_n 0, 1) := by decide +kernel
theorem dX10_bases_5 : decode cX10_bases 5 = .ok (.getfield 25, 3) := by decide +kernel
theorem dX10_bases_8 : decode cX10_bases 8 = .ok (.iload_n 1, 1) := by decide +kernel
theorem dX10_bases_9 : decode cX10_bases 9 = .ok (.invokevirtual 132, 3) := by decide +kernel
theorem dX10_bases_12 : decode cX10_bases 12 = .ok (.aload_n 0, 1) := by decide +kernel
theorem dX10_bases_13 : decode cX10_bases 13 = .ok (.getfield 10, 3) := by decide +kernel
theorem dX10_bases_16 : decode cX10_bases 16 = .ok (.invokevirtual 100, 3) := by decide +kernel
theorem dX10_bases_19 : decode cX10_bases 19 = .ok (.iconst 1, 1) := by decide +kernel
theorem dX10_bases_20 : decode cX10_bases 20 = .ok (.iload_n 1, 1) := by decide +kernel
theorem dX10_bases_21 : decode cX10_bases 21 = .ok (.ishl, 1) := by decide +kernel
theorem dX10_bases_22 : decode cX10_bases 22 = .ok (.if_icmp .lt 13, 3) := by decide +kernel
theorem dX10_bases_25 : decode cX10_bases 25 = .ok (.new 103, 3) := by decide +kernel
theorem dX10_bases_28 : decode cX10_bases 28 = .ok (.dup, 1) := by decide +kernel
theorem dX10_bases_29 : decode cX10_bases 29 = .ok (.ldc 135, 2) := by decide +kernel
theorem dX10_bases_31 : decode cX10_bases 31 = .ok (.invokespecial 107, 3) := by decide +kernel
theorem dX10_bases_34 : decode cX10_bases 34 = .ok (.athrow, 1) := by decide +kernel
theorem dX10_bases_35 : decode cX10_bases 35 = .ok (.iconst 0, 1) := by decide +kernel
theorem dX10_bases_36 : decode cX10_bases 36 = .ok (.istore_n 2, 1) := by decide +kernel
theorem dX10_bases_37 : decode cX10_bases 37 = .ok (.iload_n 2, 1) := by decide +kernel
theorem dX10_bases_38 : decode cX10_bases 38 = .ok (.aload_n 0, 1) := by decide +kernel
theorem dX10_bases_39 : decode cX10_bases 39 = .ok (.getfield 10, 3) := by decide +kernel
theorem dX10_bases_42 : decode cX10_bases 42 = .ok (.invokevirtual 78, 3) := by decide +kernel
theorem dX10_bases_45 : decode cX10_bases 45 = .ok (.if_icmp .ge 24, 3) := by decide +kernel
theorem dX10_bases_48 : decode cX10_bases 48 = .ok (.aload_n 0, 1) := by decide +kernel
theorem dX10_bases_49 : decode cX10_bases 49 = .ok (.getfield 25, 3) := by decide +kernel
theorem dX10_bases_52 : decode cX10_bases 52 = .ok (.aload_n 0, 1) := by decide +kernel
theorem dX10_bases_53 : decode cX10_bases 53 = .ok (.getfield 10, 3) := by decide +kernel
theorem dX10_bases_56 : decode cX10_bases 56 = .ok (.iload_n 2, 1) := by decide +kernel
theorem dX10_bases_57 : decode cX10_bases 57 = .ok (.invokevirtual 137, 3) := by decide +kernel
theorem dX10_bases_60 : decode cX10_bases 60 = .ok (.invokevirtual 141, 3) := by decide +kernel
theorem dX10_bases_63 : decode cX10_bases 63 = .ok (.iinc 2 1, 3) := by decide +kernel
theorem dX10_bases_66 : decode cX10_bases 66 = .ok (.goto (-29), 3) := by decide +kernel
theorem dX10_bases_69 : decode cX10_bases 69 = .ok (.aload_n 0, 1) := by decide +kernel
theorem dX10_bases_70 : decode cX10_bases 70 = .ok (.getfield 25, 3) := by decide +kernel
theorem dX10_bases_73 : decode cX10_bases 73 = .ok (.invokevirtual 144, 3) := by decide +kernel
theorem dX10_bases_76 : decode cX10_bases 76 = .ok (.ifCond .ne 13, 3) := by decide +kernel
theorem dX10_bases_79 : decode cX10_bases 79 = .ok (.new 103, 3) := by decide +kernel
theorem dX10_bases_82 : decode cX10_bases 82 = .ok (.dup, 1) := by decide +kernel
theorem dX10_bases_83 : decode cX10_bases 83 = .ok (.ldc 147, 2) := by decide +kernel
theorem dX10_bases_85 : decode cX10_bases 85 = .ok (.invokespecial 107, 3) := by decide +kernel
theorem dX10_bases_88 : decode cX10_bases 88 = .ok (.athrow, 1) := by decide +kernel
theorem dX10_bases_89 : decode cX10_bases 89 = .ok (.aload_n 0, 1) := by decide +kernel
theorem dX10_bases_90 : decode cX10_bases 90 = .ok (.invokevirtual 87, 3) := by decide +kernel
theorem dX10_bases_93 : decode cX10_bases 93 = .ok (.aload_n 0, 1) := by decide +kernel
theorem dX10_bases_94 : decode cX10_bases 94 = .ok (.aload_n 0, 1) := by decide +kernel
theorem dX10_bases_95 : decode cX10_bases 95 = .ok (.getfield 10, 3) := by decide +kernel
theorem dX10_bases_98 : decode cX10_bases 98 = .ok (.iload_n 1, 1) := by decide +kernel
theorem dX10_bases_99 : decode cX10_bases 99 = .ok (.invokestatic 149, 3) := by decide +kernel
theorem dX10_bases_102 : decode cX10_bases 102 = .ok (.invokevirtual 112, 3) := by decide +kernel
theorem dX10_bases_105 : decode cX10_bases 105 = .ok (.ireturn, 1) := by decide +kernel
theorem dX10_broken_0 : decode cX10_broken 0 = .ok (.iload_n 1, 1) := by decide +kernel
theorem dX10_broken_1 : decode cX10_broken 1 = .ok (.bipush 97, 2) := by decide +kernel
theorem dX10_broken_3 : decode cX10_broken 3 = .ok (.if_icmp .eq 25, 3) := by decide +kernel
theorem dX10_broken_6 : decode cX10_broken 6 = .ok (.iload_n 1, 1) := by decide +kernel
theorem dX10_broken_7 : decode cX10_broken 7 = .ok (.bipush 98, 2) := by decide +kernel
theorem dX10_broken_9 : decode cX10_broken 9 = .ok (.if_icmp .eq 19, 3) := by decide +kernel
theorem dX10_broken_12 : decode cX10_broken 12 = .ok (.iload_n 1, 1) := by decide +kernel
theorem dX10_broken_13 : decode cX10_broken 13 = .ok (.bipush 120, 2) := by decide +kernel
theorem dX10_broken_15 : decode cX10_broken 15 = .ok (.if_icmp .eq 13, 3) := by decide +kernel
theorem dX10_broken_18 : decode cX10_broken 18 = .ok (.new 58, 3) := by decide +kernel
theorem dX10_broken_21 : decode cX10_broken 21 = .ok (.dup, 1) := by decide +kernel
theorem dX10_broken_22 : decode cX10_broken 22 = .ok (.ldc 152, 2) := by decide +kernel
theorem dX10_broken_24 : decode cX10_broken 24 = .ok (.invokespecial 62, 3) := by decide +kernel
theorem dX10_broken_27 : decode cX10_broken 27 = .ok (.athrow, 1) := by decide +kernel
theorem dX10_broken_28 : decode cX10_broken 28 = .ok (.aload_n 0, 1) := by decide +kernel
theorem dX10_broken_29 : decode cX10_broken 29 = .ok (.getfield 25, 3) := by decide +kernel
theorem dX10_broken_32 : decode cX10_broken 32 = .ok (.invokevirtual 154, 3) := by decide +kernel
theorem dX10_broken_35 : decode cX10_broken 35 = .ok (.ifCond .ne 13, 3) := by decide +kernel
theorem dX10_broken_38 : decode cX10_broken 38 = .ok (.new 157, 3) := by decide +kernel
theorem dX10_broken_41 : decode cX10_broken 41 = .ok (.dup, 1) := by decide +kernel
theorem dX10_broken_42 : decode cX10_broken 42 = .ok (.ldc 159, 2) := by decide +kernel
theorem dX10_broken_44 : decode cX10_broken 44 = .ok (.invokespecial 161, 3) := by decide +kernel
theorem dX10_broken_47 : decode cX10_broken 47 = .ok (.athrow, 1) := by decide +kernel
theorem dX10_broken_48 : decode cX10_broken 48 = .ok (.iload_n 1, 1) := by decide +kernel
theorem dX10_broken_49 : decode cX10_broken 49 = .ok (.bipush 97, 2) := by decide +kernel
theorem dX10_broken_51 : decode cX10_broken 51 = .ok (.if_icmp .ne 11, 3) := by decide +kernel
theorem dX10_broken_54 : decode cX10_broken 54 = .ok (.aload_n 0, 1) := by decide +kernel
theorem dX10_broken_55 : decode cX10_broken 55 = .ok (.getfield 25, 3) := by decide +kernel
theorem dX10_broken_58 : decode cX10_broken 58 = .ok (.invokevirtual 162, 3) := by decide +kernel
theorem dX10_broken_61 : decode cX10_broken 61 = .ok (.ireturn, 1) := by decide +kernel
theorem dX10_broken_62 : decode cX10_broken 62 = .ok (.iload_n 1, 1) := by decide +kernel
theorem dX10_broken_63 : decode cX10_broken 63 = .ok (.bipush 98, 2) := by decide +kernel
theorem dX10_broken_65 : decode cX10_broken 65 = .ok (.if_icmp .ne 13, 3) := by decide +kernel
theorem dX10_broken_68 : decode cX10_broken 68 = .ok (.aload_n 0, 1) := by decide +kernel
theorem dX10_broken_69 : decode cX10_broken 69 = .ok (.getfield 25, 3) := by decide +kernel
theorem dX10_broken_72 : decode cX10_broken 72 = .ok (.invokevirtual 165, 3) := by decide +kernel
theorem dX10_broken_75 : decode cX10_broken 75 = .ok (.goto 10, 3) := by decide +kernel
theorem dX10_broken_78 : decode cX10_broken 78 = .ok (.aload_n 0, 1) := by decide +kernel
theorem dX10_broken_79 : decode cX10_broken 79 = .ok (.getfield 25, 3) := by decide +kernel
theorem dX10_broken_82 : decode cX10_broken 82 = .ok (.invokevirtual 168, 3) := by decide +kernel
theorem dX10_broken_85 : decode cX10_broken 85 = .ok (.ireturn, 1) := by decide +kernel
theorem dX10_dual_0 : decode cX10_dual 0 = .ok (.aload_n 0, 1) := by decide +kernel
theorem dX10_dual_1 : decode cX10_dual 1 = .ok (.iload_n 1, 1) := by decide +kernel
theorem dX10_dual_2 : decode cX10_dual 2 = .ok (.invokevirtual 171, 3) := by decide +kernel
theorem dX10_dual_5 : decode cX10_dual 5 = .ok (.astore_n 2, 1) := by decide +kernel
theorem dX10_dual_6 : decode cX10_dual 6 = .ok (.aload_n 0, 1) := by decide +kernel
theorem dX10_dual_7 : decode cX10_dual 7 = .ok (.invokevirtual 87, 3) := by decide +kernel
theorem dX10_dual_10 : decode cX10_dual 10 = .ok (.aload_n 0, 1) := by decide +kernel
theorem dX10_dual_11 : decode cX10_dual 11 = .ok (.aload_n 2, 1) := by decide +kernel
theorem dX10_dual_12 : decode cX10_dual 12 = .ok (.getfield 175, 3) := by decide +kernel
theorem dX10_dual_15 : decode cX10_dual 15 = .ok (.invokestatic 179, 3) := by decide +kernel
theorem dX10_dual_18 : decode cX10_dual 18 = .ok (.invokevirtual 96, 3) := by decide +kernel
theorem dX10_dual_21 : decode cX10_dual 21 = .ok (.ireturn, 1) := by decide +kernel
theorem dX10_delete_0 : decode cX10_delete 0 = .ok (.aload_n 0, 1) := by decide +kernel
theorem dX10_delete_1 : decode cX10_delete 1 = .ok (.iload_n 1, 1) := by decide +kernel
theorem dX10_delete_2 : decode cX10_delete 2 = .ok (.invokevirtual 171, 3) := by decide +kernel
theorem dX10_delete_5 : decode cX10_delete 5 = .ok (.astore_n 3, 1) := by decide +kernel
theorem dX10_delete_6 : decode cX10_delete 6 = .ok (.aload_n 3, 1) := by decide +kernel
theorem dX10_delete_7 : decode cX10_delete 7 = .ok (.iload_n 2, 1) := by decide +kernel
theorem dX10_delete_8 : decode cX10_delete 8 = .ok (.invokestatic 183, 3) := by decide +kernel
theorem dX10_delete_11 : decode cX10_delete 11 = .ok (.aload_n 0, 1) := by decide +kernel
theorem dX10_delete_12 : decode cX10_delete 12 = .ok (.invokevirtual 87, 3) := by decide +kernel
theorem dX10_delete_15 : decode cX10_delete 15 = .ok (.aload_n 0, 1) := by decide +kernel
theorem dX10_delete_16 : decode cX10_delete 16 = .ok (.aload_n 3, 1) := by decide +kernel
theorem dX10_delete_17 : decode cX10_delete 17 = .ok (.iload_n 2, 1) := by decide +kernel
theorem dX10_delete_18 : decode cX10_delete 18 = .ok (.iconst 0, 1) := by decide +kernel
theorem dX10_delete_19 : decode cX10_delete 19 = .ok (.invokestatic 187, 3) := by decide +kernel
theorem dX10_delete_22 : decode cX10_delete 22 = .ok (.invokevirtual 96, 3) := by decide +kernel
theorem dX10_delete_25 : decode cX10_delete 25 = .ok (.ireturn, 1) := by decide +kernel
theorem dX10_contract_0 : decode cX10_contract 0 = .ok (.aload_n 0, 1) := by decide +kernel
theorem dX10_contract_1 : decode cX10_contract 1 = .ok (.iload_n 1, 1) := by decide +kernel
theorem dX10_contract_2 : decode cX10_contract 2 = .ok (.invokevirtual 171, 3) := by decide +kernel
theorem dX10_contract_5 : decode cX10_contract 5 = .ok (.astore_n 3, 1) := by decide +kernel
theorem dX10_contract_6 : decode cX10_contract 6 = .ok (.aload_n 3, 1) := by decide +kernel
theorem dX10_contract_7 : decode cX10_contract 7 = .ok (.iload_n 2, 1) := by decide +kernel
theorem dX10_contract_8 : decode cX10_contract 8 = .ok (.invokestatic 183, 3) := by decide +kernel
theorem dX10_contract_11 : decode cX10_contract 11 = .ok (.aload_n 0, 1) := by decide +kernel
theorem dX10_contract_12 : decode cX10_contract 12 = .ok (.invokevirtual 87, 3) := by decide +kernel
theorem dX10_contract_15 : decode cX10_contract 15 = .ok (.aload_n 0, 1) := by decide +kernel
theorem dX10_contract_16 : decode cX10_contract 16 = .ok (.aload_n 3, 1) := by decide +kernel
theorem dX10_contract_17 : decode cX10_contract 17 = .ok (.iload_n 2, 1) := by decide +kernel
theorem dX10_contract_18 : decode cX10_contract 18 = .ok (.iconst 1, 1) := by decide +kernel
theorem dX10_contract_19 : decode cX10_contract 19 = .ok (.invokestatic 187, 3) := by decide +kernel
theorem dX10_contract_22 : decode cX10_contract 22 = .ok (.invokevirtual 96, 3) := by decide +kernel
theorem dX10_contract_25 : decode cX10_contract 25 = .ok (.ireturn, 1) := by decide +kernel
theorem dX10_sum_0 : decode cX10_sum 0 = .ok (.aload_n 0, 1) := by decide +kernel
theorem dX10_sum_1 : decode cX10_sum 1 = .ok (.iload_n 1, 1) := by decide +kernel
theorem dX10_sum_2 : decode cX10_sum 2 = .ok (.invokevirtual 171, 3) := by decide +kernel
theorem dX10_sum_5 : decode cX10_sum 5 = .ok (.astore_n 3, 1) := by decide +kernel
theorem dX10_sum_6 : decode cX10_sum 6 = .ok (.aload_n 0, 1) := by decide +kernel
theorem dX10_sum_7 : decode cX10_sum 7 = .ok (.iload_n 2, 1) := by decide +kernel
theorem dX10_sum_8 : decode cX10_sum 8 = .ok (.invokevirtual 171, 3) := by decide +kernel
theorem dX10_sum_11 : decode cX10_sum 11 = .ok (.astore 4, 2) := by decide +kernel
theorem dX10_sum_13 : decode cX10_sum 13 = .ok (.aload_n 3, 1) := by decide +kernel
theorem dX10_sum_14 : decode cX10_sum 14 = .ok (.getfield 191, 3) := by decide +kernel
theorem dX10_sum_17 : decode cX10_sum 17 = .ok (.aload 4, 2) := by decide +kernel
theorem dX10_sum_19 : decode cX10_sum 19 = .ok (.getfield 191, 3) := by decide +kernel
theorem dX10_sum_22 : decode cX10_sum 22 = .ok (.iadd, 1) := by decide +kernel
theorem dX10_sum_23 : decode cX10_sum 23 = .ok (.bipush 10, 2) := by decide +kernel
theorem dX10_sum_25 : decode cX10_sum 25 = .ok (.if_icmp .le 13, 3) := by decide +kernel
theorem dX10_sum_28 : decode cX10_sum 28 = .ok (.new 103, 3) := by decide +kernel
theorem dX10_sum_31 : decode cX10_sum 31 = .ok (.dup, 1) := by decide +kernel
theorem dX10_sum_32 : decode cX10_sum 32 = .ok (.ldc 194, 2) := by decide +kernel
theorem dX10_sum_34 : decode cX10_sum 34 = .ok (.invokespecial 107, 3) := by decide +kernel
theorem dX10_sum_37 : decode cX10_sum 37 = .ok (.athrow, 1) := by decide +kernel
theorem dX10_sum_38 : decode cX10_sum 38 = .ok (.aload_n 0, 1) := by decide +kernel
theorem dX10_sum_39 : decode cX10_sum 39 = .ok (.invokevirtual 87, 3) := by decide +kernel
theorem dX10_sum_42 : decode cX10_sum 42 = .ok (.aload_n 0, 1) := by decide +kernel
theorem dX10_sum_43 : decode cX10_sum 43 = .ok (.aload_n 3, 1) := by decide +kernel
theorem dX10_sum_44 : decode cX10_sum 44 = .ok (.aload 4, 2) := by decide +kernel
theorem dX10_sum_46 : decode cX10_sum 46 = .ok (.invokestatic 196, 3) := by decide +kernel
theorem dX10_sum_49 : decode cX10_sum 49 = .ok (.invokevirtual 96, 3) := by decide +kernel
theorem dX10_sum_52 : decode cX10_sum 52 = .ok (.ireturn, 1) := by decide +kernel
theorem dX10_union_0 : decode cX10_union 0 = .ok (.aload_n 0, 1) := by decide +kernel
theorem dX10_union_1 : decode cX10_union 1 = .ok (.iload_n 1, 1) := by decide +kernel
theorem dX10_union_2 : decode cX10_union 2 = .ok (.invokevirtual 171, 3) := by decide +kernel
theorem dX10_union_5 : decode cX10_union 5 = .ok (.astore_n 3, 1) := by decide +kernel
theorem dX10_union_6 : decode cX10_union 6 = .ok (.aload_n 0, 1) := by decide +kernel
theorem dX10_union_7 : decode cX10_union 7 = .ok (.iload_n 2, 1) := by decide +kernel
theorem dX10_union_8 : decode cX10_union 8 = .ok (.invokevirtual 171, 3) := by decide +kernel
theorem dX10_union_11 : decode cX10_union 11 = .ok (.astore 4, 2) := by decide +kernel
theorem dX10_union_13 : decode cX10_union 13 = .ok (.aload_n 3, 1) := by decide +kernel
theorem dX10_union_14 : decode cX10_union 14 = .ok (.aload 4, 2) := by decide +kernel
theorem dX10_union_16 : decode cX10_union 16 = .ok (.invokestatic 200, 3) := by decide +kernel
theorem dX10_union_19 : decode cX10_union 19 = .ok (.aload_n 0, 1) := by decide +kernel
theorem dX10_union_20 : decode cX10_union 20 = .ok (.invokevirtual 87, 3) := by decide +kernel
theorem dX10_union_23 : decode cX10_union 23 = .ok (.aload_n 0, 1) := by decide +kernel
theorem dX10_union_24 : decode cX10_union 24 = .ok (.aload_n 3, 1) := by decide +kernel
theorem dX10_union_25 : decode cX10_union 25 = .ok (.aload 4, 2) := by decide +kernel
theorem dX10_union_27 : decode cX10_union 27 = .ok (.invokestatic 204, 3) := by decide +kernel
theorem dX10_union_30 : decode cX10_union 30 = .ok (.invokevirtual 96, 3) := by decide +kernel
theorem dX10_union_33 : decode cX10_union 33 = .ok (.ireturn, 1) := by decide +kernel
theorem dX10_truncate_0 : decode cX10_truncate 0 = .ok (.aload_n 0, 1) := by decide +kernel
theorem dX10_truncate_1 : decode cX10_truncate 1 = .ok (.iload_n 1, 1) := by decide +kernel
theorem dX10_truncate_2 : decode cX10_truncate 2 = .ok (.invokevirtual 171, 3) := by decide +kernel
theorem dX10_truncate_5 : decode cX10_truncate 5 = .ok (.astore_n 2, 1) := by decide +kernel
theorem dX10_truncate_6 : decode cX10_truncate 6 = .ok (.aload_n 2, 1) := by decide +kernel
theorem dX10_truncate_7 : decode cX10_truncate 7 = .ok (.invokestatic 207, 3) := by decide +kernel
theorem dX10_truncate_10 : decode cX10_truncate 10 = .ok (.aload_n 0, 1) := by decide +kernel
theorem dX10_truncate_11 : decode cX10_truncate 11 = .ok (.invokevirtual 87, 3) := by decide +kernel
theorem dX10_truncate_14 : decode cX10_truncate 14 = .ok (.aload_n 0, 1) := by decide +kernel
theorem dX10_truncate_15 : decode cX10_truncate 15 = .ok (.aload_n 2, 1) := by decide +kernel
theorem dX10_truncate_16 : decode cX10_truncate 16 = .ok (.invokestatic 211, 3) := by decide +kernel
theorem dX10_truncate_19 : decode cX10_truncate 19 = .ok (.invokevirtual 96, 3) := by decide +kernel
theorem dX10_truncate_22 : decode cX10_truncate 22 = .ok (.ireturn, 1) := by decide +kernel
theorem dX10_relax_0 : decode cX10_relax 0 = .ok (.aload_n 0, 1) := by decide +kernel
theorem dX10_relax_1 : decode cX10_relax 1 = .ok (.iload_n 1, 1) := by decide +kernel
theorem dX10_relax_2 : decode cX10_relax 2 = .ok (.invokevirtual 171, 3) := by decide +kernel
theorem dX10_relax_5 : decode cX10_relax 5 = .ok (.astore_n 3, 1) := by decide +kernel
theorem dX10_relax_6 : decode cX10_relax 6 = .ok (.aload_n 3, 1) := by decide +kernel
theorem dX10_relax_7 : decode cX10_relax 7 = .ok (.iload_n 2, 1) := by decide +kernel
theorem dX10_relax_8 : decode cX10_relax 8 = .ok (.invokestatic 215, 3) := by decide +kernel
theorem dX10_relax_11 : decode cX10_relax 11 = .ok (.aload_n 3, 1) := by decide +kernel
theorem dX10_relax_12 : decode cX10_relax 12 = .ok (.iload_n 2, 1) := by decide +kernel
theorem dX10_relax_13 : decode cX10_relax 13 = .ok (.iconst 4, 1) := by decide +kernel
theorem dX10_relax_14 : decode cX10_relax 14 = .ok (.invokevirtual 218, 3) := by decide +kernel
theorem dX10_relax_17 : decode cX10_relax 17 = .ok (.ifCond .eq 13, 3) := by decide +kernel
theorem dX10_relax_20 : decode cX10_relax 20 = .ok (.aload_n 3, 1) := by decide +kernel
theorem dX10_relax_21 : decode cX10_relax 21 = .ok (.iload_n 2, 1) := by decide +kernel
theorem dX10_relax_22 : decode cX10_relax 22 = .ok (.bipush 16, 2) := by decide +kernel
theorem dX10_relax_24 : decode cX10_relax 24 = .ok (.invokevirtual 218, 3) := by decide +kernel
theorem dX10_relax_27 : decode cX10_relax 27 = .ok (.ifCond .ne 13, 3) := by decide +kernel
theorem dX10_relax_30 : decode cX10_relax 30 = .ok (.new 103, 3) := by decide +kernel
theorem dX10_relax_33 : decode cX10_relax 33 = .ok (.dup, 1) := by decide +kernel
theorem dX10_relax_34 : decode cX10_relax 34 = .ok (.ldc 222, 2) := by decide +kernel
theorem dX10_relax_36 : decode cX10_relax 36 = .ok (.invokespecial 107, 3) := by decide +kernel
theorem dX10_relax_39 : decode cX10_relax 39 = .ok (.athrow, 1) := by decide +kernel
theorem dX10_relax_40 : decode cX10_relax 40 = .ok (.aload_n 0, 1) := by decide +kernel
theorem dX10_relax_41 : decode cX10_relax 41 = .ok (.invokevirtual 87, 3) := by decide +kernel
theorem dX10_relax_44 : decode cX10_relax 44 = .ok (.aload_n 0, 1) := by decide +kernel
theorem dX10_relax_45 : decode cX10_relax 45 = .ok (.aload_n 3, 1) := by decide +kernel
theorem dX10_relax_46 : decode cX10_relax 46 = .ok (.iload_n 2, 1) := by decide +kernel
theorem dX10_relax_47 : decode cX10_relax 47 = .ok (.invokestatic 224, 3) := by decide +kernel
theorem dX10_relax_50 : decode cX10_relax 50 = .ok (.invokevirtual 96, 3) := by decide +kernel
theorem dX10_relax_53 : decode cX10_relax 53 = .ok (.ireturn, 1) := by decide +kernel
theorem dX10_extend_0 : decode cX10_extend 0 = .ok (.aload_n 0, 1) := by decide +kernel
theorem dX10_extend_1 : decode cX10_extend 1 = .ok (.iload_n 1, 1) := by decide +kernel
theorem dX10_extend_2 : decode cX10_extend 2 = .ok (.invokevirtual 171, 3) := by decide +kernel
theorem dX10_extend_5 : decode cX10_extend 5 = .ok (.astore_n 3, 1) := by decide +kernel
theorem dX10_extend_6 : decode cX10_extend 6 = .ok (.aload_n 3, 1) := by decide +kernel
theorem dX10_extend_7 : decode cX10_extend 7 = .ok (.iload_n 2, 1) := by decide +kernel
theorem dX10_extend_8 : decode cX10_extend 8 = .ok (.invokestatic 215, 3) := by decide +kernel
theorem dX10_extend_11 : decode cX10_extend 11 = .ok (.aload_n 3, 1) := by decide +kernel
theorem dX10_extend_12 : decode cX10_extend 12 = .ok (.getfield 191, 3) := by decide +kernel
theorem dX10_extend_15 : decode cX10_extend 15 = .ok (.bipush 10, 2) := by decide +kernel
theorem dX10_extend_17 : decode cX10_extend 17 = .ok (.if_icmp .lt 13, 3) := by decide +kernel
theorem dX10_extend_20 : decode cX10_extend 20 = .ok (.new 103, 3) := by decide +kernel
theorem dX10_extend_23 : decode cX10_extend 23 = .ok (.dup, 1) := by decide +kernel
theorem dX10_extend_24 : decode cX10_extend 24 = .ok (.ldc 228, 2) := by decide +kernel
theorem dX10_extend_26 : decode cX10_extend 26 = .ok (.invokespecial 107, 3) := by decide +kernel
theorem dX10_extend_29 : decode cX10_extend 29 = .ok (.athrow, 1) := by decide +kernel
theorem dX10_extend_30 : decode cX10_extend 30 = .ok (.aload_n 0, 1) := by decide +kernel
theorem dX10_extend_31 : decode cX10_extend 31 = .ok (.invokevirtual 87, 3) := by decide +kernel
theorem dX10_extend_34 : decode cX10_extend 34 = .ok (.aload_n 0, 1) := by decide +kernel
theorem dX10_extend_35 : decode cX10_extend 35 = .ok (.aload_n 3, 1) := by decide +kernel
theorem dX10_extend_36 : decode cX10_extend 36 = .ok (.iload_n 2, 1) := by decide +kernel
theorem dX10_extend_37 : decode cX10_extend 37 = .ok (.invokestatic 230, 3) := by decide +kernel
theorem dX10_extend_40 : decode cX10_extend 40 = .ok (.invokevirtual 96, 3) := by decide +kernel
theorem dX10_extend_43 : decode cX10_extend 43 = .ok (.ireturn, 1) := by decide +kernel
theorem dX10_size_0 : decode cX10_size 0 = .ok (.aload_n 0, 1) := by decide +kernel
theorem dX10_size_1 : decode cX10_size 1 = .ok (.iload_n 1, 1) := by decide +kernel
theorem dX10_size_2 : decode cX10_size 2 = .ok (.invokevirtual 171, 3) := by decide +kernel
theorem dX10_size_5 : decode cX10_size 5 = .ok (.getfield 191, 3) := by decide +kernel
theorem dX10_size_8 : decode cX10_size 8 = .ok (.ireturn, 1) := by decide +kernel
theorem dX10_rank_0 : decode cX10_rank 0 = .ok (.aload_n 0, 1) := by decide +kernel
theorem dX10_rank_1 : decode cX10_rank 1 = .ok (.iload_n 1, 1) := by decide +kernel
theorem dX10_rank_2 : decode cX10_rank 2 = .ok (.invokevirtual 171, 3) := by decide +kernel
theorem dX10_rank_5 : decode cX10_rank 5 = .ok (.astore_n 3, 1) := by decide +kernel
theorem dX10_rank_6 : decode cX10_rank 6 = .ok (.aload_n 3, 1) := by decide +kernel
theorem dX10_rank_7 : decode cX10_rank 7 = .ok (.iload_n 2, 1) := by decide +kernel
theorem dX10_rank_8 : decode cX10_rank 8 = .ok (.invokestatic 215, 3) := by decide +kernel
theorem dX10_rank_11 : decode cX10_rank 11 = .ok (.aload_n 3, 1) := by decide +kernel
theorem dX10_rank_12 : decode cX10_rank 12 = .ok (.iload_n 2, 1) := by decide +kernel
theorem dX10_rank_13 : decode cX10_rank 13 = .ok (.invokevirtual 233, 3) := by decide +kernel
theorem dX10_rank_16 : decode cX10_rank 16 = .ok (.ireturn, 1) := by decide +kernel
theorem dX10_closure_0 : decode cX10_closure 0 = .ok (.aload_n 0, 1) := by decide +kernel
theorem dX10_closure_1 : decode cX10_closure 1 = .ok (.iload_n 1, 1) := by decide +kernel
theorem dX10_closure_2 : decode cX10_closure 2 = .ok (.invokevirtual 171, 3) := by decide +kernel
theorem dX10_closure_5 : decode cX10_closure 5 = .ok (.astore_n 3, 1) := by decide +kernel
theorem dX10_closure_6 : decode cX10_closure 6 = .ok (.aload_n 3, 1) := by decide +kernel
theorem dX10_closure_7 : decode cX10_closure 7 = .ok (.iload_n 2, 1) := by decide +kernel
theorem dX10_closure_8 : decode cX10_closure 8 = .ok (.invokestatic 215, 3) := by decide +kernel
theorem dX10_closure_11 : decode cX10_closure 11 = .ok (.aload_n 3, 1) := by decide +kernel
theorem dX10_closure_12 : decode cX10_closure 12 = .ok (.iload_n 2, 1) := by decide +kernel
theorem dX10_closure_13 : decode cX10_closure 13 = .ok (.invokevirtual 236, 3) := by decide +kernel
theorem dX10_closure_16 : decode cX10_closure 16 = .ok (.ireturn, 1) := by decide +kernel
theorem dX10_count_0 : decode cX10_count 0 = .ok (.aload_n 0, 1) := by decide +kernel
theorem dX10_count_1 : decode cX10_count 1 = .ok (.iload_n 1, 1) := by decide +kernel
theorem dX10_count_2 : decode cX10_count 2 = .ok (.invokevirtual 171, 3) := by decide +kernel
theorem dX10_count_5 : decode cX10_count 5 = .ok (.astore_n 3, 1) := by decide +kernel
theorem dX10_count_6 : decode cX10_count 6 = .ok (.aload_n 3, 1) := by decide +kernel
theorem dX10_count_7 : decode cX10_count 7 = .ok (.iload_n 2, 1) := by decide +kernel
theorem dX10_count_8 : decode cX10_count 8 = .ok (.invokestatic 239, 3) := by decide +kernel
theorem dX10_count_11 : decode cX10_count 11 = .ok (.invokevirtual 243, 3) := by decide +kernel
theorem dX10_count_14 : decode cX10_count 14 = .ok (.ireturn, 1) := by decide +kernel
theorem dX10_setAt_0 : decode cX10_setAt 0 = .ok (.aload_n 0, 1) := by decide +kernel
theorem dX10_setAt_1 : decode cX10_setAt 1 = .ok (.iload_n 1, 1) := by decide +kernel
theorem dX10_setAt_2 : decode cX10_setAt 2 = .ok (.invokevirtual 171, 3) := by decide +kernel
theorem dX10_setAt_5 : decode cX10_setAt 5 = .ok (.astore 4, 2) := by decide +kernel
theorem dX10_setAt_7 : decode cX10_setAt 7 = .ok (.aload 4, 2) := by decide +kernel
theorem dX10_setAt_9 : decode cX10_setAt 9 = .ok (.iload_n 2, 1) := by decide +kernel
theorem dX10_setAt_10 : decode cX10_setAt 10 = .ok (.invokestatic 239, 3) := by decide +kernel
theorem dX10_setAt_13 : decode cX10_setAt 13 = .ok (.iload_n 3, 1) := by decide +kernel
theorem dX10_setAt_14 : decode cX10_setAt 14 = .ok (.invokevirtual 246, 3) := by decide +kernel
theorem dX10_setAt_17 : decode cX10_setAt 17 = .ok (.istore 5, 2) := by decide +kernel
theorem dX10_setAt_19 : decode cX10_setAt 19 = .ok (.iload 5, 2) := by decide +kernel
theorem dX10_setAt_21 : decode cX10_setAt 21 = .ok (.ifCond .ge 13, 3) := by decide +kernel
theorem dX10_setAt_24 : decode cX10_setAt 24 = .ok (.new 157, 3) := by decide +kernel
theorem dX10_setAt_27 : decode cX10_setAt 27 = .ok (.dup, 1) := by decide +kernel
theorem dX10_setAt_28 : decode cX10_setAt 28 = .ok (.ldc 250, 2) := by decide +kernel
theorem dX10_setAt_30 : decode cX10_setAt 30 = .ok (.invokespecial 161, 3) := by decide +kernel
theorem dX10_setAt_33 : decode cX10_setAt 33 = .ok (.athrow, 1) := by decide +kernel
theorem dX10_setAt_34 : decode cX10_setAt 34 = .ok (.iload 5, 2) := by decide +kernel
theorem dX10_setAt_36 : decode cX10_setAt 36 = .ok (.ireturn, 1) := by decide +kernel
theorem dX10_circuitWith_0 : decode cX10_circuitWith 0 = .ok (.aload_n 0, 1) := by decide +kernel
theorem dX10_circuitWith_1 : decode cX10_circuitWith 1 = .ok (.iload_n 1, 1) := by decide +kernel
theorem dX10_circuitWith_2 : decode cX10_circuitWith 2 = .ok (.invokevirtual 171, 3) := by decide +kernel
theorem dX10_circuitWith_5 : decode cX10_circuitWith 5 = .ok (.astore 4, 2) := by decide +kernel
theorem dX10_circuitWith_7 : decode cX10_circuitWith 7 = .ok (.aload 4, 2) := by decide +kernel
theorem dX10_circuitWith_9 : decode cX10_circuitWith 9 = .ok (.iload_n 3, 1) := by decide +kernel
theorem dX10_circuitWith_10 : decode cX10_circuitWith 10 = .ok (.invokestatic 183, 3) := by decide +kernel
theorem dX10_circuitWith_13 : decode cX10_circuitWith 13 = .ok (.aload 4, 2) := by decide +kernel
theorem dX10_circuitWith_15 : decode cX10_circuitWith 15 = .ok (.iload_n 2, 1) := by decide +kernel
theorem dX10_circuitWith_16 : decode cX10_circuitWith 16 = .ok (.iconst 2, 1) := by decide +kernel
theorem dX10_circuitWith_17 : decode cX10_circuitWith 17 = .ok (.invokevirtual 218, 3) := by decide +kernel
theorem dX10_circuitWith_20 : decode cX10_circuitWith 20 = .ok (.ifCond .ne 13, 3) := by decide +kernel
theorem dX10_circuitWith_23 : decode cX10_circuitWith 23 = .ok (.new 103, 3) := by decide +kernel
theorem dX10_circuitWith_26 : decode cX10_circuitWith 26 = .ok (.dup, 1) := by decide +kernel
theorem dX10_circuitWith_27 : decode cX10_circuitWith 27 = .ok (.ldc 252, 2) := by decide +kernel
theorem dX10_circuitWith_29 : decode cX10_circuitWith 29 = .ok (.invokespecial 107, 3) := by decide +kernel
theorem dX10_circuitWith_32 : decode cX10_circuitWith 32 = .ok (.athrow, 1) := by decide +kernel
theorem dX10_circuitWith_33 : decode cX10_circuitWith 33 = .ok (.iload_n 2, 1) := by decide +kernel
theorem dX10_circuitWith_34 : decode cX10_circuitWith 34 = .ok (.iconst 1, 1) := by decide +kernel
theorem dX10_circuitWith_35 : decode cX10_circuitWith 35 = .ok (.iload_n 3, 1) := by decide +kernel
theorem dX10_circuitWith_36 : decode cX10_circuitWith 36 = .ok (.ishl, 1) := by decide +kernel
theorem dX10_circuitWith_37 : decode cX10_circuitWith 37 = .ok (.iand, 1) := by decide +kernel
theorem dX10_circuitWith_38 : decode cX10_circuitWith 38 = .ok (.ifCond .eq 13, 3) := by decide +kernel
theorem dX10_circuitWith_41 : decode cX10_circuitWith 41 = .ok (.new 157, 3) := by decide +kernel
theorem dX10_circuitWith_44 : decode cX10_circuitWith 44 = .ok (.dup, 1) := by decide +kernel
theorem dX10_circuitWith_45 : decode cX10_circuitWith 45 = .ok (.ldc 254, 2) := by decide +kernel
theorem dX10_circuitWith_47 : decode cX10_circuitWith 47 = .ok (.invokespecial 161, 3) := by decide +kernel
theorem dX10_circuitWith_50 : decode cX10_circuitWith 50 = .ok (.athrow, 1) := by decide +kernel
theorem dX10_circuitWith_51 : decode cX10_circuitWith 51 = .ok (.aload 4, 2) := by decide +kernel
theorem dX10_circuitWith_53 : decode cX10_circuitWith 53 = .ok (.iload_n 2, 1) := by decide +kernel
theorem dX10_circuitWith_54 : decode cX10_circuitWith 54 = .ok (.iload_n 3, 1) := by decide +kernel
theorem dX10_circuitWith_55 : decode cX10_circuitWith 55 = .ok (.invokevirtual 256, 3) := by decide +kernel
theorem dX10_circuitWith_58 : decode cX10_circuitWith 58 = .ok (.ireturn, 1) := by decide +kernel
theorem dX10_component_0 : decode cX10_component 0 = .ok (.aload_n 0, 1) := by decide +kernel
theorem dX10_component_1 : decode cX10_component 1 = .ok (.iload_n 1, 1) := by decide +kernel
theorem dX10_component_2 : decode cX10_component 2 = .ok (.invokevirtual 171, 3) := by decide +kernel
theorem dX10_component_5 : decode cX10_component 5 = .ok (.astore_n 3, 1) := by decide +kernel
theorem dX10_component_6 : decode cX10_component 6 = .ok (.aload_n 3, 1) := by decide +kernel
theorem dX10_component_7 : decode cX10_component 7 = .ok (.iload_n 2, 1) := by decide +kernel
theorem dX10_component_8 : decode cX10_component 8 = .ok (.invokestatic 183, 3) := by decide +kernel
theorem dX10_component_11 : decode cX10_component 11 = .ok (.aload_n 3, 1) := by decide +kernel
theorem dX10_component_12 : decode cX10_component 12 = .ok (.iload_n 2, 1) := by decide +kernel
theorem dX10_component_13 : decode cX10_component 13 = .ok (.invokevirtual 259, 3) := by decide +kernel
theorem dX10_component_16 : decode cX10_component 16 = .ok (.ireturn, 1) := by decide +kernel
theorem dX10_areAlike_0 : decode cX10_areAlike 0 = .ok (.aload_n 0, 1) := by decide +kernel
theorem dX10_areAlike_1 : decode cX10_areAlike 1 = .ok (.iload_n 1, 1) := by decide +kernel
theorem dX10_areAlike_2 : decode cX10_areAlike 2 = .ok (.invokevirtual 171, 3) := by decide +kernel
theorem dX10_areAlike_5 : decode cX10_areAlike 5 = .ok (.astore_n 3, 1) := by decide +kernel
theorem dX10_areAlike_6 : decode cX10_areAlike 6 = .ok (.aload_n 0, 1) := by decide +kernel
theorem dX10_areAlike_7 : decode cX10_areAlike 7 = .ok (.iload_n 2, 1) := by decide +kernel
theorem dX10_areAlike_8 : decode cX10_areAlike 8 = .ok (.invokevirtual 171, 3) := by decide +kernel
theorem dX10_areAlike_11 : decode cX10_areAlike 11 = .ok (.astore 4, 2) := by decide +kernel
theorem dX10_areAlike_13 : decode cX10_areAlike 13 = .ok (.iload_n 1, 1) := by decide +kernel
theorem dX10_areAlike_14 : decode cX10_areAlike 14 = .ok (.aload_n 0, 1) := by decide +kernel
theorem dX10_areAlike_15 : decode cX10_areAlike 15 = .ok (.getfield 51, 3) := by decide +kernel
theorem dX10_areAlike_18 : decode cX10_areAlike 18 = .ok (.if_icmp .ne 11, 3) := by decide +kernel
theorem dX10_areAlike_21 : decode cX10_areAlike 21 = .ok (.iload_n 2, 1) := by decide +kernel
theorem dX10_areAlike_22 : decode cX10_areAlike 22 = .ok (.aload_n 0, 1) := by decide +kernel
theorem dX10_areAlike_23 : decode cX10_areAlike 23 = .ok (.getfield 55, 3) := by decide +kernel
theorem dX10_areAlike_26 : decode cX10_areAlike 26 = .ok (.if_icmp .eq 36, 3) := by decide +kernel
theorem dX10_areAlike_29 : decode cX10_areAlike 29 = .ok (.aload_n 0, 1) := by decide +kernel
theorem dX10_areAlike_30 : decode cX10_areAlike 30 = .ok (.getfield 35, 3) := by decide +kernel
theorem dX10_areAlike_33 : decode cX10_areAlike 33 = .ok (.aload 4, 2) := by decide +kernel
theorem dX10_areAlike_35 : decode cX10_areAlike 35 = .ok (.invokevirtual 262, 3) := by decide +kernel
theorem dX10_areAlike_38 : decode cX10_areAlike 38 = .ok (.aload_n 0, 1) := by decide +kernel
theorem dX10_areAlike_39 : decode cX10_areAlike 39 = .ok (.aload_n 0, 1) := by decide +kernel
theorem dX10_areAlike_40 : decode cX10_areAlike 40 = .ok (.getfield 35, 3) := by decide +kernel
theorem dX10_areAlike_43 : decode cX10_areAlike 43 = .ok (.aload_n 3, 1) := by decide +kernel
theorem dX10_areAlike_44 : decode cX10_areAlike 44 = .ok (.iconst 0, 1) := by decide +kernel
theorem dX10_areAlike_45 : decode cX10_areAlike 45 = .ok (.iconst 0, 1) := by decide +kernel
theorem dX10_areAlike_46 : decode cX10_areAlike 46 = .ok (.invokevirtual 265, 3) := by decide +kernel
theorem dX10_areAlike_49 : decode cX10_areAlike 49 = .ok (.putfield 269, 3) := by decide +kernel
theorem dX10_areAlike_52 : decode cX10_areAlike 52 = .ok (.aload_n 0, 1) := by decide +kernel
theorem dX10_areAlike_53 : decode cX10_areAlike 53 = .ok (.iload_n 1, 1) := by decide +kernel
theorem dX10_areAlike_54 : decode cX10_areAlike 54 = .ok (.putfield 51, 3) := by decide +kernel
theorem dX10_areAlike_57 : decode cX10_areAlike 57 = .ok (.aload_n 0, 1) := by decide +kernel
theorem dX10_areAlike_58 : decode cX10_areAlike 58 = .ok (.iload_n 2, 1) := by decide +kernel
theorem dX10_areAlike_59 : decode cX10_areAlike 59 = .ok (.putfield 55, 3) := by decide +kernel
theorem dX10_areAlike_62 : decode cX10_areAlike 62 = .ok (.aload_n 0, 1) := by decide +kernel
theorem dX10_areAlike_63 : decode cX10_areAlike 63 = .ok (.getfield 269, 3) := by decide +kernel
theorem dX10_areAlike_66 : decode cX10_areAlike 66 = .ok (.ireturn, 1) := by decide +kernel
theorem dX10_image_0 : decode cX10_image 0 = .ok (.aload_n 0, 1) := by decide +kernel
theorem dX10_image_1 : decode cX10_image 1 = .ok (.iload_n 1, 1) := by decide +kernel
theorem dX10_image_2 : decode cX10_image 2 = .ok (.invokevirtual 171, 3) := by decide +kernel
theorem dX10_image_5 : decode cX10_image 5 = .ok (.astore 4, 2) := by decide +kernel
theorem dX10_image_7 : decode cX10_image 7 = .ok (.aload_n 0, 1) := by decide +kernel
theorem dX10_image_8 : decode cX10_image 8 = .ok (.iload_n 2, 1) := by decide +kernel
theorem dX10_image_9 : decode cX10_image 9 = .ok (.invokevirtual 171, 3) := by decide +kernel
theorem dX10_image_12 : decode cX10_image 12 = .ok (.pop, 1) := by decide +kernel
theorem dX10_image_13 : decode cX10_image 13 = .ok (.aload 4, 2) := by decide +kernel
theorem dX10_image_15 : decode cX10_image 15 = .ok (.iload_n 3, 1) := by decide +kernel
theorem dX10_image_16 : decode cX10_image 16 = .ok (.invokestatic 183, 3) := by decide +kernel
theorem dX10_image_19 : decode cX10_image 19 = .ok (.aload_n 0, 1) := by decide +kernel
theorem dX10_image_20 : decode cX10_image 20 = .ok (.iload_n 1, 1) := by decide +kernel
theorem dX10_image_21 : decode cX10_image 21 = .ok (.iload_n 2, 1) := by decide +kernel
theorem dX10_image_22 : decode cX10_image 22 = .ok (.invokevirtual 273, 3) := by decide +kernel
theorem dX10_image_25 : decode cX10_image 25 = .ok (.ifCond .ne 14, 3) := by decide +kernel
theorem dX10_image_28 : decode cX10_image 28 = .ok (.new 157, 3) := by decide +kernel
theorem dX10_image_31 : decode cX10_image 31 = .ok (.dup, 1) := by decide +kernel
theorem dX10_image_32 : decode cX10_image 32 = .ok (.ldc_w 276, 3) := by decide +kernel
theorem dX10_image_35 : decode cX10_image 35 = .ok (.invokespecial 161, 3) := by decide +kernel
theorem dX10_image_38 : decode cX10_image 38 = .ok (.athrow, 1) := by decide +kernel
theorem dX10_image_39 : decode cX10_image 39 = .ok (.aload_n 0, 1) := by decide +kernel
theorem dX10_image_40 : decode cX10_image 40 = .ok (.getfield 35, 3) := by decide +kernel
theorem dX10_image_43 : decode cX10_image 43 = .ok (.iload_n 3, 1) := by decide +kernel
theorem dX10_image_44 : decode cX10_image 44 = .ok (.invokevirtual 278, 3) := by decide +kernel
theorem dX10_image_47 : decode cX10_image 47 = .ok (.ireturn, 1) := by decide +kernel
theorem dX10_symmetries_0 : decode cX10_symmetries 0 = .ok (.aload_n 0, 1) := by decide +kernel
theorem dX10_symmetries_1 : decode cX10_symmetries 1 = .ok (.iload_n 1, 1) := by decide +kernel
theorem dX10_symmetries_2 : decode cX10_symmetries 2 = .ok (.invokevirtual 171, 3) := by decide +kernel
theorem dX10_symmetries_5 : decode cX10_symmetries 5 = .ok (.astore_n 2, 1) := by decide +kernel
theorem dX10_symmetries_6 : decode cX10_symmetries 6 = .ok (.aload_n 2, 1) := by decide +kernel
theorem dX10_symmetries_7 : decode cX10_symmetries 7 = .ok (.getfield 281, 3) := by decide +kernel
theorem dX10_symmetries_10 : decode cX10_symmetries 10 = .ok (.ifCond .ne 15, 3) := by decide +kernel
theorem dX10_symmetries_13 : decode cX10_symmetries 13 = .ok (.aload_n 2, 1) := by decide +kernel
theorem dX10_symmetries_14 : decode cX10_symmetries 14 = .ok (.aload_n 0, 1) := by decide +kernel
theorem dX10_symmetries_15 : decode cX10_symmetries 15 = .ok (.getfield 39, 3) := by decide +kernel
theorem dX10_symmetries_18 : decode cX10_symmetries 18 = .ok (.aload_n 2, 1) := by decide +kernel
theorem dX10_symmetries_19 : decode cX10_symmetries 19 = .ok (.invokevirtual 284, 3) := by decide +kernel
theorem dX10_symmetries_22 : decode cX10_symmetries 22 = .ok (.putfield 281, 3) := by decide +kernel
theorem dX10_symmetries_25 : decode cX10_symmetries 25 = .ok (.aload_n 2, 1) := by decide +kernel
theorem dX10_symmetries_26 : decode cX10_symmetries 26 = .ok (.getfield 281, 3) := by decide +kernel
theorem dX10_symmetries_29 : decode cX10_symmetries 29 = .ok (.ireturn, 1) := by decide +kernel
theorem dX10_minorBy_0 : decode cX10_minorBy 0 = .ok (.aload_n 0, 1) := by decide +kernel
theorem dX10_minorBy_1 : decode cX10_minorBy 1 = .ok (.getfield 47, 3) := by decide +kernel
theorem dX10_minorBy_4 : decode cX10_minorBy 4 = .ok (.aload_n 0, 1) := by decide +kernel
theorem dX10_minorBy_5 : decode cX10_minorBy 5 = .ok (.iload_n 1, 1) := by decide +kernel
theorem dX10_minorBy_6 : decode cX10_minorBy 6 = .ok (.invokevirtual 171, 3) := by decide +kernel
theorem dX10_minorBy_9 : decode cX10_minorBy 9 = .ok (.aload_n 0, 1) := by decide +kernel
theorem dX10_minorBy_10 : decode cX10_minorBy 10 = .ok (.iload_n 2, 1) := by decide +kernel
theorem dX10_minorBy_11 : decode cX10_minorBy 11 = .ok (.invokevirtual 171, 3) := by decide +kernel
theorem dX10_minorBy_14 : decode cX10_minorBy 14 = .ok (.invokevirtual 288, 3) := by decide +kernel
theorem dX10_minorBy_17 : decode cX10_minorBy 17 = .ok (.ifCond .ne 14, 3) := by decide +kernel
theorem dX10_minorBy_20 : decode cX10_minorBy 20 = .ok (.new 157, 3) := by decide +kernel
theorem dX10_minorBy_23 : decode cX10_minorBy 23 = .ok (.dup, 1) := by decide +kernel
theorem dX10_minorBy_24 : decode cX10_minorBy 24 = .ok (.ldc_w 292, 3) := by decide +kernel
theorem dX10_minorBy_27 : decode cX10_minorBy 27 = .ok (.invokespecial 161, 3) := by decide +kernel
theorem dX10_minorBy_30 : decode cX10_minorBy 30 = .ok (.athrow, 1) := by decide +kernel
theorem dX10_minorBy_31 : decode cX10_minorBy 31 = .ok (.aload_n 0, 1) := by decide +kernel
theorem dX10_minorBy_32 : decode cX10_minorBy 32 = .ok (.getfield 47, 3) := by decide +kernel
theorem dX10_minorBy_35 : decode cX10_minorBy 35 = .ok (.invokevirtual 294, 3) := by decide +kernel
theorem dX10_minorBy_38 : decode cX10_minorBy 38 = .ok (.ireturn, 1) := by decide +kernel
theorem dX10_minorWithout_0 : decode cX10_minorWithout 0 = .ok (.aload_n 0, 1) := by decide +kernel
theorem dX10_minorWithout_1 : decode cX10_minorWithout 1 = .ok (.getfield 47, 3) := by decide +kernel
theorem dX10_minorWithout_4 : decode cX10_minorWithout 4 = .ok (.aload_n 0, 1) := by decide +kernel
theorem dX10_minorWithout_5 : decode cX10_minorWithout 5 = .ok (.iload_n 1, 1) := by decide +kernel
theorem dX10_minorWithout_6 : decode cX10_minorWithout 6 = .ok (.invokevirtual 171, 3) := by decide +kernel
theorem dX10_minorWithout_9 : decode cX10_minorWithout 9 = .ok (.aload_n 0, 1) := by decide +kernel
theorem dX10_minorWithout_10 : decode cX10_minorWithout 10 = .ok (.iload_n 2, 1) := by decide +kernel
theorem dX10_minorWithout_11 : decode cX10_minorWithout 11 = .ok (.invokevirtual 171, 3) := by decide +kernel
theorem dX10_minorWithout_14 : decode cX10_minorWithout 14 = .ok (.invokevirtual 288, 3) := by decide +kernel
theorem dX10_minorWithout_17 : decode cX10_minorWithout 17 = .ok (.ifCond .ne 14, 3) := by decide +kernel
theorem dX10_minorWithout_20 : decode cX10_minorWithout 20 = .ok (.new 157, 3) := by decide +kernel
theorem dX10_minorWithout_23 : decode cX10_minorWithout 23 = .ok (.dup, 1) := by decide +kernel
theorem dX10_minorWithout_24 : decode cX10_minorWithout 24 = .ok (.ldc_w 292, 3) := by decide +kernel
theorem dX10_minorWithout_27 : decode cX10_minorWithout 27 = .ok (.invokespecial 161, 3) := by decide +kernel
theorem dX10_minorWithout_30 : decode cX10_minorWithout 30 = .ok (.athrow, 1) := by decide +kernel
theorem dX10_minorWithout_31 : decode cX10_minorWithout 31 = .ok (.aload_n 0, 1) := by decide +kernel
theorem dX10_minorWithout_32 : decode cX10_minorWithout 32 = .ok (.getfield 47, 3) := by decide +kernel
theorem dX10_minorWithout_35 : decode cX10_minorWithout 35 = .ok (.invokevirtual 297, 3) := by decide +kernel
theorem dX10_minorWithout_38 : decode cX10_minorWithout 38 = .ok (.ireturn, 1) := by decide +kernel
theorem dX10_canBeDrawn_0 : decode cX10_canBeDrawn 0 = .ok (.aload_n 0, 1) := by decide +kernel
theorem dX10_canBeDrawn_1 : decode cX10_canBeDrawn 1 = .ok (.iload_n 1, 1) := by decide +kernel
theorem dX10_canBeDrawn_2 : decode cX10_canBeDrawn 2 = .ok (.invokevirtual 171, 3) := by decide +kernel
theorem dX10_canBeDrawn_5 : decode cX10_canBeDrawn 5 = .ok (.iload_n 2, 1) := by decide +kernel
theorem dX10_canBeDrawn_6 : decode cX10_canBeDrawn 6 = .ok (.invokestatic 300, 3) := by decide +kernel
theorem dX10_canBeDrawn_9 : decode cX10_canBeDrawn 9 = .ok (.invokevirtual 304, 3) := by decide +kernel
theorem dX10_canBeDrawn_12 : decode cX10_canBeDrawn 12 = .ok (.ireturn, 1) := by decide +kernel
theorem dX10_entry_0 : decode cX10_entry 0 = .ok (.aload_n 0, 1) := by decide +kernel
theorem dX10_entry_1 : decode cX10_entry 1 = .ok (.iload_n 1, 1) := by decide +kernel
theorem dX10_entry_2 : decode cX10_entry 2 = .ok (.invokevirtual 171, 3) := by decide +kernel
theorem dX10_entry_5 : decode cX10_entry 5 = .ok (.astore 5, 2) := by decide +kernel
theorem dX10_entry_7 : decode cX10_entry 7 = .ok (.aload 5, 2) := by decide +kernel
theorem dX10_entry_9 : decode cX10_entry 9 = .ok (.iload 4, 2) := by decide +kernel
theorem dX10_entry_11 : decode cX10_entry 11 = .ok (.invokestatic 183, 3) := by decide +kernel
theorem dX10_entry_14 : decode cX10_entry 14 = .ok (.aload 5, 2) := by decide +kernel
theorem dX10_entry_16 : decode cX10_entry 16 = .ok (.iload_n 2, 1) := by decide +kernel
theorem dX10_entry_17 : decode cX10_entry 17 = .ok (.invokestatic 300, 3) := by decide +kernel
theorem dX10_entry_20 : decode cX10_entry 20 = .ok (.astore 6, 2) := by decide +kernel
theorem dX10_entry_22 : decode cX10_entry 22 = .ok (.iload_n 3, 1) := by decide +kernel
theorem dX10_entry_23 : decode cX10_entry 23 = .ok (.ifCond .lt 20, 3) := by decide +kernel
theorem dX10_entry_26 : decode cX10_entry 26 = .ok (.iload_n 3, 1) := by decide +kernel
theorem dX10_entry_27 : decode cX10_entry 27 = .ok (.aload 5, 2) := by decide +kernel
theorem dX10_entry_29 : decode cX10_entry 29 = .ok (.getfield 309, 3) := by decide +kernel
theorem dX10_entry_32 : decode cX10_entry 32 = .ok (.if_icmp .ge 11, 3) := by decide +kernel
theorem dX10_entry_35 : decode cX10_entry 35 = .ok (.aload 6, 2) := by decide +kernel
theorem dX10_entry_37 : decode cX10_entry 37 = .ok (.invokevirtual 304, 3) := by decide +kernel
theorem dX10_entry_40 : decode cX10_entry 40 = .ok (.ifCond .ne 14, 3) := by decide +kernel
theorem dX10_entry_43 : decode cX10_entry 43 = .ok (.new 157, 3) := by decide +kernel
theorem dX10_entry_46 : decode cX10_entry 46 = .ok (.dup, 1) := by decide +kernel
theorem dX10_entry_47 : decode cX10_entry 47 = .ok (.ldc_w 312, 3) := by decide +kernel
theorem dX10_entry_50 : decode cX10_entry 50 = .ok (.invokespecial 161, 3) := by decide +kernel
theorem dX10_entry_53 : decode cX10_entry 53 = .ok (.athrow, 1) := by decide +kernel
theorem dX10_entry_54 : decode cX10_entry 54 = .ok (.aload 6, 2) := by decide +kernel
theorem dX10_entry_56 : decode cX10_entry 56 = .ok (.iload_n 3, 1) := by decide +kernel
theorem dX10_entry_57 : decode cX10_entry 57 = .ok (.iload 4, 2) := by decide +kernel
theorem dX10_entry_59 : decode cX10_entry 59 = .ok (.invokevirtual 314, 3) := by decide +kernel
theorem dX10_entry_62 : decode cX10_entry 62 = .ok (.ireturn, 1) := by decide +kernel
theorem dX10_greedy_0 : decode cX10_greedy 0 = .ok (.aload_n 0, 1) := by decide +kernel
theorem dX10_greedy_1 : decode cX10_greedy 1 = .ok (.iload_n 1, 1) := by decide +kernel
theorem dX10_greedy_2 : decode cX10_greedy 2 = .ok (.invokevirtual 171, 3) := by decide +kernel
theorem dX10_greedy_5 : decode cX10_greedy 5 = .ok (.astore_n 2, 1) := by decide +kernel
theorem dX10_greedy_6 : decode cX10_greedy 6 = .ok (.aload_n 0, 1) := by decide +kernel
theorem dX10_greedy_7 : decode cX10_greedy 7 = .ok (.getfield 10, 3) := by decide +kernel
theorem dX10_greedy_10 : decode cX10_greedy 10 = .ok (.invokevirtual 78, 3) := by decide +kernel
theorem dX10_greedy_13 : decode cX10_greedy 13 = .ok (.aload_n 2, 1) := by decide +kernel
theorem dX10_greedy_14 : decode cX10_greedy 14 = .ok (.getfield 191, 3) := by decide +kernel
theorem dX10_greedy_17 : decode cX10_greedy 17 = .ok (.if_icmp .eq 14, 3) := by decide +kernel
theorem dX10_greedy_20 : decode cX10_greedy 20 = .ok (.new 103, 3) := by decide +kernel
theorem dX10_greedy_23 : decode cX10_greedy 23 = .ok (.dup, 1) := by decide +kernel
theorem dX10_greedy_24 : decode cX10_greedy 24 = .ok (.ldc_w 317, 3) := by decide +kernel
theorem dX10_greedy_27 : decode cX10_greedy 27 = .ok (.invokespecial 107, 3) := by decide +kernel
theorem dX10_greedy_30 : decode cX10_greedy 30 = .ok (.athrow, 1) := by decide +kernel
theorem dX10_greedy_31 : decode cX10_greedy 31 = .ok (.aload_n 2, 1) := by decide +kernel
theorem dX10_greedy_32 : decode cX10_greedy 32 = .ok (.aload_n 0, 1) := by decide +kernel
theorem dX10_greedy_33 : decode cX10_greedy 33 = .ok (.getfield 10, 3) := by decide +kernel
theorem dX10_greedy_36 : decode cX10_greedy 36 = .ok (.invokestatic 319, 3) := by decide +kernel
theorem dX10_greedy_39 : decode cX10_greedy 39 = .ok (.ireturn, 1) := by decide +kernel
theorem dX10_common_0 : decode cX10_common 0 = .ok (.aload_n 0, 1) := by decide +kernel
theorem dX10_common_1 : decode cX10_common 1 = .ok (.iload_n 1, 1) := by decide +kernel
theorem dX10_common_2 : decode cX10_common 2 = .ok (.iload_n 2, 1) := by decide +kernel
theorem dX10_common_3 : decode cX10_common 3 = .ok (.invokevirtual 325, 3) := by decide +kernel
theorem dX10_common_6 : decode cX10_common 6 = .ok (.invokestatic 328, 3) := by decide +kernel
theorem dX10_common_9 : decode cX10_common 9 = .ok (.ireturn, 1) := by decide +kernel
theorem dX10_commonSet_0 : decode cX10_commonSet 0 = .ok (.aload_n 0, 1) := by decide +kernel
theorem dX10_commonSet_1 : decode cX10_commonSet 1 = .ok (.iload_n 1, 1) := by decide +kernel
theorem dX10_commonSet_2 : decode cX10_commonSet 2 = .ok (.invokevirtual 171, 3) := by decide +kernel
theorem dX10_commonSet_5 : decode cX10_commonSet 5 = .ok (.astore_n 3, 1) := by decide +kernel
theorem dX10_commonSet_6 : decode cX10_commonSet 6 = .ok (.aload_n 0, 1) := by decide +kernel
theorem dX10_commonSet_7 : decode cX10_commonSet 7 = .ok (.iload_n 2, 1) := by decide +kernel
theorem dX10_commonSet_8 : decode cX10_commonSet 8 = .ok (.invokevirtual 171, 3) := by decide +kernel
theorem dX10_commonSet_11 : decode cX10_commonSet 11 = .ok (.astore 4, 2) := by decide +kernel
theorem dX10_commonSet_13 : decode cX10_commonSet 13 = .ok (.aload_n 3, 1) := by decide +kernel
theorem dX10_commonSet_14 : decode cX10_commonSet 14 = .ok (.aload 4, 2) := by decide +kernel
theorem dX10_commonSet_16 : decode cX10_commonSet 16 = .ok (.invokestatic 200, 3) := by decide +kernel
theorem dX10_commonSet_19 : decode cX10_commonSet 19 = .ok (.aload_n 3, 1) := by decide +kernel
theorem dX10_commonSet_20 : decode cX10_commonSet 20 = .ok (.aload 4, 2) := by decide +kernel
theorem dX10_commonSet_22 : decode cX10_commonSet 22 = .ok (.invokestatic 333, 3) := by decide +kernel
theorem dX10_commonSet_25 : decode cX10_commonSet 25 = .ok (.ireturn, 1) := by decide +kernel
theorem dX10_commonBound_0 : decode cX10_commonBound 0 = .ok (.aload_n 0, 1) := by decide +kernel
theorem dX10_commonBound_1 : decode cX10_commonBound 1 = .ok (.iload_n 1, 1) := by decide +kernel
theorem dX10_commonBound_2 : decode cX10_commonBound 2 = .ok (.invokevirtual 171, 3) := by decide +kernel
theorem dX10_commonBound_5 : decode cX10_commonBound 5 = .ok (.astore_n 3, 1) := by decide +kernel
theorem dX10_commonBound_6 : decode cX10_commonBound 6 = .ok (.aload_n 0, 1) := by decide +kernel
theorem dX10_commonBound_7 : decode cX10_commonBound 7 = .ok (.iload_n 2, 1) := by decide +kernel
theorem dX10_commonBound_8 : decode cX10_commonBound 8 = .ok (.invokevirtual 171, 3) := by decide +kernel
theorem dX10_commonBound_11 : decode cX10_commonBound 11 = .ok (.astore 4, 2) := by decide +kernel
theorem dX10_commonBound_13 : decode cX10_commonBound 13 = .ok (.aload_n 3, 1) := by decide +kernel
theorem dX10_commonBound_14 : decode cX10_commonBound 14 = .ok (.aload 4, 2) := by decide +kernel
theorem dX10_commonBound_16 : decode cX10_commonBound 16 = .ok (.invokestatic 200, 3) := by decide +kernel
theorem dX10_commonBound_19 : decode cX10_commonBound 19 = .ok (.aload_n 3, 1) := by decide +kernel
theorem dX10_commonBound_20 : decode cX10_commonBound 20 = .ok (.aload 4, 2) := by decide +kernel
theorem dX10_commonBound_22 : decode cX10_commonBound 22 = .ok (.invokestatic 337, 3) := by decide +kernel
theorem dX10_commonBound_25 : decode cX10_commonBound 25 = .ok (.ireturn, 1) := by decide +kernel
theorem dX10_cover_0 : decode cX10_cover 0 = .ok (.aload_n 0, 1) := by decide +kernel
theorem dX10_cover_1 : decode cX10_cover 1 = .ok (.iload_n 1, 1) := by decide +kernel
theorem dX10_cover_2 : decode cX10_cover 2 = .ok (.invokevirtual 171, 3) := by decide +kernel
theorem dX10_cover_5 : decode cX10_cover 5 = .ok (.astore_n 2, 1) := by decide +kernel
theorem dX10_cover_6 : decode cX10_cover 6 = .ok (.aload_n 2, 1) := by decide +kernel
theorem dX10_cover_7 : decode cX10_cover 7 = .ok (.invokestatic 340, 3) := by decide +kernel
theorem dX10_cover_10 : decode cX10_cover 10 = .ok (.aload_n 2, 1) := by decide +kernel
theorem dX10_cover_11 : decode cX10_cover 11 = .ok (.aload_n 2, 1) := by decide +kernel
theorem dX10_cover_12 : decode cX10_cover 12 = .ok (.invokestatic 343, 3) := by decide +kernel
theorem dX10_cover_15 : decode cX10_cover 15 = .ok (.invokestatic 346, 3) := by decide +kernel
theorem dX10_cover_18 : decode cX10_cover 18 = .ok (.ireturn, 1) := by decide +kernel
theorem dX10_coverBound_0 : decode cX10_coverBound 0 = .ok (.aload_n 0, 1) := by decide +kernel
theorem dX10_coverBound_1 : decode cX10_coverBound 1 = .ok (.iload_n 1, 1) := by decide +kernel
theorem dX10_coverBound_2 : decode cX10_coverBound 2 = .ok (.invokevirtual 171, 3) := by decide +kernel
theorem dX10_coverBound_5 : decode cX10_coverBound 5 = .ok (.astore_n 2, 1) := by decide +kernel
theorem dX10_coverBound_6 : decode cX10_coverBound 6 = .ok (.aload_n 2, 1) := by decide +kernel
theorem dX10_coverBound_7 : decode cX10_coverBound 7 = .ok (.invokestatic 340, 3) := by decide +kernel
theorem dX10_coverBound_10 : decode cX10_coverBound 10 = .ok (.aload_n 2, 1) := by decide +kernel
theorem dX10_coverBound_11 : decode cX10_coverBound 11 = .ok (.getfield 191, 3) := by decide +kernel
theorem dX10_coverBound_14 : decode cX10_coverBound 14 = .ok (.ifCond .ne 14, 3) := by decide +kernel
theorem dX10_coverBound_17 : decode cX10_coverBound 17 = .ok (.new 157, 3) := by decide +kernel
theorem dX10_coverBound_20 : decode cX10_coverBound 20 = .ok (.dup, 1) := by decide +kernel
theorem dX10_coverBound_21 : decode cX10_coverBound 21 = .ok (.ldc_w 350, 3) := by decide +kernel
theorem dX10_coverBound_24 : decode cX10_coverBound 24 = .ok (.invokespecial 161, 3) := by decide +kernel
theorem dX10_coverBound_27 : decode cX10_coverBound 27 = .ok (.athrow, 1) := by decide +kernel
theorem dX10_coverBound_28 : decode cX10_coverBound 28 = .ok (.aload_n 2, 1) := by decide +kernel
theorem dX10_coverBound_29 : decode cX10_coverBound 29 = .ok (.invokestatic 343, 3) := by decide +kernel
theorem dX10_coverBound_32 : decode cX10_coverBound 32 = .ok (.ireturn, 1) := by decide +kernel
theorem dX10_packing_0 : decode cX10_packing 0 = .ok (.aload_n 0, 1) := by decide +kernel
theorem dX10_packing_1 : decode cX10_packing 1 = .ok (.iload_n 1, 1) := by decide +kernel
theorem dX10_packing_2 : decode cX10_packing 2 = .ok (.invokevirtual 171, 3) := by decide +kernel
theorem dX10_packing_5 : decode cX10_packing 5 = .ok (.astore_n 2, 1) := by decide +kernel
theorem dX10_packing_6 : decode cX10_packing 6 = .ok (.aload_n 2, 1) := by decide +kernel
theorem dX10_packing_7 : decode cX10_packing 7 = .ok (.invokestatic 207, 3) := by decide +kernel
theorem dX10_packing_10 : decode cX10_packing 10 = .ok (.aload_n 2, 1) := by decide +kernel
theorem dX10_packing_11 : decode cX10_packing 11 = .ok (.aload_n 2, 1) := by decide +kernel
theorem dX10_packing_12 : decode cX10_packing 12 = .ok (.invokestatic 352, 3) := by decide +kernel
theorem dX10_packing_15 : decode cX10_packing 15 = .ok (.invokestatic 355, 3) := by decide +kernel
theorem dX10_packing_18 : decode cX10_packing 18 = .ok (.ireturn, 1) := by decide +kernel
theorem dX10_packingBound_0 : decode cX10_packingBound 0 = .ok (.aload_n 0, 1) := by decide +kernel
theorem dX10_packingBound_1 : decode cX10_packingBound 1 = .ok (.iload_n 1, 1) := by decide +kernel
theorem dX10_packingBound_2 : decode cX10_packingBound 2 = .ok (.invokevirtual 171, 3) := by decide +kernel
theorem dX10_packingBound_5 : decode cX10_packingBound 5 = .ok (.astore_n 2, 1) := by decide +kernel
theorem dX10_packingBound_6 : decode cX10_packingBound 6 = .ok (.aload_n 2, 1) := by decide +kernel
theorem dX10_packingBound_7 : decode cX10_packingBound 7 = .ok (.invokestatic 207, 3) := by decide +kernel
theorem dX10_packingBound_10 : decode cX10_packingBound 10 = .ok (.aload_n 2, 1) := by decide +kernel
theorem dX10_packingBound_11 : decode cX10_packingBound 11 = .ok (.invokestatic 352, 3) := by decide +kernel
theorem dX10_packingBound_14 : decode cX10_packingBound 14 = .ok (.ireturn, 1) := by decide +kernel
theorem dX10_coefficient_0 : decode cX10_coefficient 0 = .ok (.aload_n 0, 1) := by decide +kernel
theorem dX10_coefficient_1 : decode cX10_coefficient 1 = .ok (.iload_n 1, 1) := by decide +kernel
theorem dX10_coefficient_2 : decode cX10_coefficient 2 = .ok (.invokevirtual 171, 3) := by decide +kernel
theorem dX10_coefficient_5 : decode cX10_coefficient 5 = .ok (.astore 4, 2) := by decide +kernel
theorem dX10_coefficient_7 : decode cX10_coefficient 7 = .ok (.iload_n 2, 1) := by decide +kernel
theorem dX10_coefficient_8 : decode cX10_coefficient 8 = .ok (.invokestatic 358, 3) := by decide +kernel
theorem dX10_coefficient_11 : decode cX10_coefficient 11 = .ok (.iload_n 3, 1) := by decide +kernel
theorem dX10_coefficient_12 : decode cX10_coefficient 12 = .ok (.invokestatic 358, 3) := by decide +kernel
theorem dX10_coefficient_15 : decode cX10_coefficient 15 = .ok (.aload 4, 2) := by decide +kernel
theorem dX10_coefficient_17 : decode cX10_coefficient 17 = .ok (.getfield 361, 3) := by decide +kernel
theorem dX10_coefficient_20 : decode cX10_coefficient 20 = .ok (.iload_n 2, 1) := by decide +kernel
theorem dX10_coefficient_21 : decode cX10_coefficient 21 = .ok (.iload_n 3, 1) := by decide +kernel
theorem dX10_coefficient_22 : decode cX10_coefficient 22 = .ok (.invokestatic 365, 3) := by decide +kernel
theorem dX10_coefficient_25 : decode cX10_coefficient 25 = .ok (.ireturn, 1) := by decide +kernel
theorem dX10_value_0 : decode cX10_value 0 = .ok (.aload_n 0, 1) := by decide +kernel
theorem dX10_value_1 : decode cX10_value 1 = .ok (.iload_n 1, 1) := by decide +kernel
theorem dX10_value_2 : decode cX10_value 2 = .ok (.invokevirtual 171, 3) := by decide +kernel
theorem dX10_value_5 : decode cX10_value 5 = .ok (.astore 4, 2) := by decide +kernel
theorem dX10_value_7 : decode cX10_value 7 = .ok (.iload_n 2, 1) := by decide +kernel
theorem dX10_value_8 : decode cX10_value 8 = .ok (.bipush (-9), 2) := by decide +kernel
theorem dX10_value_10 : decode cX10_value 10 = .ok (.if_icmp .lt 21, 3) := by decide +kernel
theorem dX10_value_13 : decode cX10_value 13 = .ok (.iload_n 2, 1) := by decide +kernel
theorem dX10_value_14 : decode cX10_value 14 = .ok (.bipush 9, 2) := by decide +kernel
theorem dX10_value_16 : decode cX10_value 16 = .ok (.if_icmp .gt 15, 3) := by decide +kernel
theorem dX10_value_19 : decode cX10_value 19 = .ok (.iload_n 3, 1) := by decide +kernel
theorem dX10_value_20 : decode cX10_value 20 = .ok (.bipush (-9), 2) := by decide +kernel
theorem dX10_value_22 : decode cX10_value 22 = .ok (.if_icmp .lt 9, 3) := by decide +kernel
theorem dX10_value_25 : decode cX10_value 25 = .ok (.iload_n 3, 1) := by decide +kernel
theorem dX10_value_26 : decode cX10_value 26 = .ok (.bipush 9, 2) := by decide +kernel
theorem dX10_value_28 : decode cX10_value 28 = .ok (.if_icmp .le 14, 3) := by decide +kernel
theorem dX10_value_31 : decode cX10_value 31 = .ok (.new 58, 3) := by decide +kernel
theorem dX10_value_34 : decode cX10_value 34 = .ok (.dup, 1) := by decide +kernel
theorem dX10_value_35 : decode cX10_value 35 = .ok (.ldc_w 371, 3) := by decide +kernel
theorem dX10_value_38 : decode cX10_value 38 = .ok (.invokespecial 62, 3) := by decide +kernel
theorem dX10_value_41 : decode cX10_value 41 = .ok (.athrow, 1) := by decide +kernel
theorem dX10_value_42 : decode cX10_value 42 = .ok (.aload 4, 2) := by decide +kernel
theorem dX10_value_44 : decode cX10_value 44 = .ok (.getfield 361, 3) := by decide +kernel
theorem dX10_value_47 : decode cX10_value 47 = .ok (.iload_n 2, 1) := by decide +kernel
theorem dX10_value_48 : decode cX10_value 48 = .ok (.iload_n 3, 1) := by decide +kernel
theorem dX10_value_49 : decode cX10_value 49 = .ok (.invokestatic 373, 3) := by decide +kernel
theorem dX10_value_52 : decode cX10_value 52 = .ok (.lreturn, 1) := by decide +kernel
theorem dX10_other_0 : decode cX10_other 0 = .ok (.aload_n 0, 1) := by decide +kernel
theorem dX10_other_1 : decode cX10_other 1 = .ok (.iload_n 1, 1) := by decide +kernel
theorem dX10_other_2 : decode cX10_other 2 = .ok (.invokevirtual 171, 3) := by decide +kernel
theorem dX10_other_5 : decode cX10_other 5 = .ok (.astore_n 3, 1) := by decide +kernel
theorem dX10_other_6 : decode cX10_other 6 = .ok (.iload_n 2, 1) := by decide +kernel
theorem dX10_other_7 : decode cX10_other 7 = .ok (.invokestatic 358, 3) := by decide +kernel
theorem dX10_other_10 : decode cX10_other 10 = .ok (.aload_n 3, 1) := by decide +kernel
theorem dX10_other_11 : decode cX10_other 11 = .ok (.getfield 361, 3) := by decide +kernel
theorem dX10_other_14 : decode cX10_other 14 = .ok (.aload_n 3, 1) := by decide +kernel
theorem dX10_other_15 : decode cX10_other 15 = .ok (.getfield 309, 3) := by decide +kernel
theorem dX10_other_18 : decode cX10_other 18 = .ok (.iload_n 2, 1) := by decide +kernel
theorem dX10_other_19 : decode cX10_other 19 = .ok (.invokestatic 377, 3) := by decide +kernel
theorem dX10_other_22 : decode cX10_other 22 = .ok (.ireturn, 1) := by decide +kernel
theorem dX10_matroids_0 : decode cX10_matroids 0 = .ok (.aload_n 0, 1) := by decide +kernel
theorem dX10_matroids_1 : decode cX10_matroids 1 = .ok (.getfield 380, 3) := by decide +kernel
theorem dX10_matroids_4 : decode cX10_matroids 4 = .ok (.ireturn, 1) := by decide +kernel
theorem dX10_binaryShare_0 : decode cX10_binaryShare 0 = .ok (.aload_n 0, 1) := by decide +kernel
theorem dX10_binaryShare_1 : decode cX10_binaryShare 1 = .ok (.getfield 380, 3) := by decide +kernel
theorem dX10_binaryShare_4 : decode cX10_binaryShare 4 = .ok (.ifCond .gt 14, 3) := by decide +kernel
theorem dX10_binaryShare_7 : decode cX10_binaryShare 7 = .ok (.new 383, 3) := by decide +kernel
theorem dX10_binaryShare_10 : decode cX10_binaryShare 10 = .ok (.dup, 1) := by decide +kernel
theorem dX10_binaryShare_11 : decode cX10_binaryShare 11 = .ok (.ldc_w 385, 3) := by decide +kernel
theorem dX10_binaryShare_14 : decode cX10_binaryShare 14 = .ok (.invokespecial 387, 3) := by decide +kernel
theorem dX10_binaryShare_17 : decode cX10_binaryShare 17 = .ok (.athrow, 1) := by decide +kernel
theorem dX10_binaryShare_18 : decode cX10_binaryShare 18 = .ok (.iconst 0, 1) := by decide +kernel
theorem dX10_binaryShare_19 : decode cX10_binaryShare 19 = .ok (.istore_n 1, 1) := by decide +kernel
theorem dX10_binaryShare_20 : decode cX10_binaryShare 20 = .ok (.iconst 0, 1) := by decide +kernel
theorem dX10_binaryShare_21 : decode cX10_binaryShare 21 = .ok (.istore_n 2, 1) := by decide +kernel
theorem dX10_binaryShare_22 : decode cX10_binaryShare 22 = .ok (.iload_n 2, 1) := by decide +kernel
theorem dX10_binaryShare_23 : decode cX10_binaryShare 23 = .ok (.aload_n 0, 1) := by decide +kernel
theorem dX10_binaryShare_24 : decode cX10_binaryShare 24 = .ok (.getfield 380, 3) := by decide +kernel
theorem dX10_binaryShare_27 : decode cX10_binaryShare 27 = .ok (.if_icmp .ge 27, 3) := by decide +kernel
theorem dX10_binaryShare_30 : decode cX10_binaryShare 30 = .ok (.aload_n 0, 1) := by decide +kernel
theorem dX10_binaryShare_31 : decode cX10_binaryShare 31 = .ok (.iload_n 2, 1) := by decide +kernel
theorem dX10_binaryShare_32 : decode cX10_binaryShare 32 = .ok (.invokevirtual 171, 3) := by decide +kernel
theorem dX10_binaryShare_35 : decode cX10_binaryShare 35 = .ok (.iconst 2, 1) := by decide +kernel
theorem dX10_binaryShare_36 : decode cX10_binaryShare 36 = .ok (.invokestatic 300, 3) := by decide +kernel
theorem dX10_binaryShare_39 : decode cX10_binaryShare 39 = .ok (.invokevirtual 304, 3) := by decide +kernel
theorem dX10_binaryShare_42 : decode cX10_binaryShare 42 = .ok (.ifCond .eq 6, 3) := by decide +kernel
theorem dX10_binaryShare_45 : decode cX10_binaryShare 45 = .ok (.iinc 1 1, 3) := by decide +kernel
theorem dX10_binaryShare_48 : decode cX10_binaryShare 48 = .ok (.iinc 2 1, 3) := by decide +kernel
theorem dX10_binaryShare_51 : decode cX10_binaryShare 51 = .ok (.goto (-29), 3) := by decide +kernel
theorem dX10_binaryShare_54 : decode cX10_binaryShare 54 = .ok (.iload_n 1, 1) := by decide +kernel
theorem dX10_binaryShare_55 : decode cX10_binaryShare 55 = .ok (.i2f, 1) := by decide +kernel
theorem dX10_binaryShare_56 : decode cX10_binaryShare 56 = .ok (.aload_n 0, 1) := by decide +kernel
theorem dX10_binaryShare_57 : decode cX10_binaryShare 57 = .ok (.getfield 380, 3) := by decide +kernel
theorem dX10_binaryShare_60 : decode cX10_binaryShare 60 = .ok (.i2f, 1) := by decide +kernel
theorem dX10_binaryShare_61 : decode cX10_binaryShare 61 = .ok (.fdiv, 1) := by decide +kernel
theorem dX10_binaryShare_62 : decode cX10_binaryShare 62 = .ok (.freturn, 1) := by decide +kernel
theorem dX10_meanBases_0 : decode cX10_meanBases 0 = .ok (.aload_n 0, 1) := by decide +kernel
theorem dX10_meanBases_1 : decode cX10_meanBases 1 = .ok (.getfield 380, 3) := by decide +kernel
theorem dX10_meanBases_4 : decode cX10_meanBases 4 = .ok (.ifCond .gt 14, 3) := by decide +kernel
theorem dX10_meanBases_7 : decode cX10_meanBases 7 = .ok (.new 383, 3) := by decide +kernel
theorem dX10_meanBases_10 : decode cX10_meanBases 10 = .ok (.dup, 1) := by decide +kernel
theorem dX10_meanBases_11 : decode cX10_meanBases 11 = .ok (.ldc_w 385, 3) := by decide +kernel
theorem dX10_meanBases_14 : decode cX10_meanBases 14 = .ok (.invokespecial 387, 3) := by decide +kernel
theorem dX10_meanBases_17 : decode cX10_meanBases 17 = .ok (.athrow, 1) := by decide +kernel
theorem dX10_meanBases_18 : decode cX10_meanBases 18 = .ok (.iconst 0, 1) := by decide +kernel
theorem dX10_meanBases_19 : decode cX10_meanBases 19 = .ok (.istore_n 1, 1) := by decide +kernel
theorem dX10_meanBases_20 : decode cX10_meanBases 20 = .ok (.iconst 0, 1) := by decide +kernel
theorem dX10_meanBases_21 : decode cX10_meanBases 21 = .ok (.istore_n 2, 1) := by decide +kernel
theorem dX10_meanBases_22 : decode cX10_meanBases 22 = .ok (.iload_n 2, 1) := by decide +kernel
theorem dX10_meanBases_23 : decode cX10_meanBases 23 = .ok (.aload_n 0, 1) := by decide +kernel
theorem dX10_meanBases_24 : decode cX10_meanBases 24 = .ok (.getfield 380, 3) := by decide +kernel
theorem dX10_meanBases_27 : decode cX10_meanBases 27 = .ok (.if_icmp .ge 21, 3) := by decide +kernel
theorem dX10_meanBases_30 : decode cX10_meanBases 30 = .ok (.iload_n 1, 1) := by decide +kernel
theorem dX10_meanBases_31 : decode cX10_meanBases 31 = .ok (.aload_n 0, 1) := by decide +kernel
theorem dX10_meanBases_32 : decode cX10_meanBases 32 = .ok (.iload_n 2, 1) := by decide +kernel
theorem dX10_meanBases_33 : decode cX10_meanBases 33 = .ok (.invokevirtual 171, 3) := by decide +kernel
theorem dX10_meanBases_36 : decode cX10_meanBases 36 = .ok (.iconst 2, 1) := by decide +kernel
theorem dX10_meanBases_37 : decode cX10_meanBases 37 = .ok (.invokevirtual 243, 3) := by decide +kernel
theorem dX10_meanBases_40 : decode cX10_meanBases 40 = .ok (.iadd, 1) := by decide +kernel
theorem dX10_meanBases_41 : decode cX10_meanBases 41 = .ok (.istore_n 1, 1) := by decide +kernel
theorem dX10_meanBases_42 : decode cX10_meanBases 42 = .ok (.iinc 2 1, 3) := by decide +kernel
theorem dX10_meanBases_45 : decode cX10_meanBases 45 = .ok (.goto (-23), 3) := by decide +kernel
theorem dX10_meanBases_48 : decode cX10_meanBases 48 = .ok (.iload_n 1, 1) := by decide +kernel
theorem dX10_meanBases_49 : decode cX10_meanBases 49 = .ok (.i2d, 1) := by decide +kernel
theorem dX10_meanBases_50 : decode cX10_meanBases 50 = .ok (.aload_n 0, 1) := by decide +kernel
theorem dX10_meanBases_51 : decode cX10_meanBases 51 = .ok (.getfield 380, 3) := by decide +kernel
theorem dX10_meanBases_54 : decode cX10_meanBases 54 = .ok (.i2d, 1) := by decide +kernel
theorem dX10_meanBases_55 : decode cX10_meanBases 55 = .ok (.ddiv, 1) := by decide +kernel
theorem dX10_meanBases_56 : decode cX10_meanBases 56 = .ok (.dreturn, 1) := by decide +kernel
theorem dX10_isSound_0 : decode cX10_isSound 0 = .ok (.aload_n 0, 1) := by decide +kernel
theorem dX10_isSound_1 : decode cX10_isSound 1 = .ok (.getfield 388, 3) := by decide +kernel
theorem dX10_isSound_4 : decode cX10_isSound 4 = .ok (.istore_n 1, 1) := by decide +kernel
theorem dX10_isSound_5 : decode cX10_isSound 5 = .ok (.iload_n 1, 1) := by decide +kernel
theorem dX10_isSound_6 : decode cX10_isSound 6 = .ok (.aload_n 0, 1) := by decide +kernel
theorem dX10_isSound_7 : decode cX10_isSound 7 = .ok (.getfield 380, 3) := by decide +kernel
theorem dX10_isSound_10 : decode cX10_isSound 10 = .ok (.if_icmp .ge 46, 3) := by decide +kernel
theorem dX10_isSound_13 : decode cX10_isSound 13 = .ok (.aload_n 0, 1) := by decide +kernel
theorem dX10_isSound_14 : decode cX10_isSound 14 = .ok (.iload_n 1, 1) := by decide +kernel
theorem dX10_isSound_15 : decode cX10_isSound 15 = .ok (.invokevirtual 171, 3) := by decide +kernel
theorem dX10_isSound_18 : decode cX10_isSound 18 = .ok (.astore_n 2, 1) := by decide +kernel
theorem dX10_isSound_19 : decode cX10_isSound 19 = .ok (.aload_n 0, 1) := by decide +kernel
theorem dX10_isSound_20 : decode cX10_isSound 20 = .ok (.aload_n 2, 1) := by decide +kernel
theorem dX10_isSound_21 : decode cX10_isSound 21 = .ok (.invokevirtual 391, 3) := by decide +kernel
theorem dX10_isSound_24 : decode cX10_isSound 24 = .ok (.ifCond .eq 17, 3) := by decide +kernel
theorem dX10_isSound_27 : decode cX10_isSound 27 = .ok (.aload_n 2, 1) := by decide +kernel
theorem dX10_isSound_28 : decode cX10_isSound 28 = .ok (.invokestatic 395, 3) := by decide +kernel
theorem dX10_isSound_31 : decode cX10_isSound 31 = .ok (.ifCond .eq 10, 3) := by decide +kernel
theorem dX10_isSound_34 : decode cX10_isSound 34 = .ok (.aload_n 2, 1) := by decide +kernel
theorem dX10_isSound_35 : decode cX10_isSound 35 = .ok (.invokestatic 398, 3) := by decide +kernel
theorem dX10_isSound_38 : decode cX10_isSound 38 = .ok (.ifCond .ne 5, 3) := by decide +kernel
theorem dX10_isSound_41 : decode cX10_isSound 41 = .ok (.iconst 0, 1) := by decide +kernel
theorem dX10_isSound_42 : decode cX10_isSound 42 = .ok (.ireturn, 1) := by decide +kernel
theorem dX10_isSound_43 : decode cX10_isSound 43 = .ok (.aload_n 0, 1) := by decide +kernel
theorem dX10_isSound_44 : decode cX10_isSound 44 = .ok (.iload_n 1, 1) := by decide +kernel
theorem dX10_isSound_45 : decode cX10_isSound 45 = .ok (.iconst 1, 1) := by decide +kernel
theorem dX10_isSound_46 : decode cX10_isSound 46 = .ok (.iadd, 1) := by decide +kernel
theorem dX10_isSound_47 : decode cX10_isSound 47 = .ok (.putfield 388, 3) := by decide +kernel
theorem dX10_isSound_50 : decode cX10_isSound 50 = .ok (.iinc 1 1, 3) := by decide +kernel
theorem dX10_isSound_53 : decode cX10_isSound 53 = .ok (.goto (-48), 3) := by decide +kernel
theorem dX10_isSound_56 : decode cX10_isSound 56 = .ok (.iconst 1, 1) := by decide +kernel
theorem dX10_isSound_57 : decode cX10_isSound 57 = .ok (.ireturn, 1) := by decide +kernel
theorem dX10_find_0 : decode cX10_find 0 = .ok (.iload_n 1, 1) := by decide +kernel
theorem dX10_find_1 : decode cX10_find 1 = .ok (.ifCond .lt 18, 3) := by decide +kernel
theorem dX10_find_4 : decode cX10_find 4 = .ok (.iload_n 1, 1) := by decide +kernel
theorem dX10_find_5 : decode cX10_find 5 = .ok (.bipush 24, 2) := by decide +kernel
theorem dX10_find_7 : decode cX10_find 7 = .ok (.if_icmp .ge 12, 3) := by decide +kernel
theorem dX10_find_10 : decode cX10_find 10 = .ok (.aload_n 0, 1) := by decide +kernel
theorem dX10_find_11 : decode cX10_find 11 = .ok (.getfield 18, 3) := by decide +kernel
theorem dX10_find_14 : decode cX10_find 14 = .ok (.iload_n 1, 1) := by decide +kernel
theorem dX10_find_15 : decode cX10_find 15 = .ok (.aaload, 1) := by decide +kernel
theorem dX10_find_16 : decode cX10_find 16 = .ok (.ifnonnull 14, 3) := by decide +kernel
theorem dX10_find_19 : decode cX10_find 19 = .ok (.new 401, 3) := by decide +kernel
theorem dX10_find_22 : decode cX10_find 22 = .ok (.dup, 1) := by decide +kernel
theorem dX10_find_23 : decode cX10_find 23 = .ok (.ldc_w 403, 3) := by decide +kernel
theorem dX10_find_26 : decode cX10_find 26 = .ok (.invokespecial 405, 3) := by decide +kernel
theorem dX10_find_29 : decode cX10_find 29 = .ok (.athrow, 1) := by decide +kernel
theorem dX10_find_30 : decode cX10_find 30 = .ok (.aload_n 0, 1) := by decide +kernel
theorem dX10_find_31 : decode cX10_find 31 = .ok (.getfield 18, 3) := by decide +kernel
theorem dX10_find_34 : decode cX10_find 34 = .ok (.iload_n 1, 1) := by decide +kernel
theorem dX10_find_35 : decode cX10_find 35 = .ok (.aaload, 1) := by decide +kernel
theorem dX10_find_36 : decode cX10_find 36 = .ok (.areturn, 1) := by decide +kernel
theorem dX10_needRoom_0 : decode cX10_needRoom 0 = .ok (.aload_n 0, 1) := by decide +kernel
theorem dX10_needRoom_1 : decode cX10_needRoom 1 = .ok (.getfield 380, 3) := by decide +kernel
theorem dX10_needRoom_4 : decode cX10_needRoom 4 = .ok (.bipush 24, 2) := by decide +kernel
theorem dX10_needRoom_6 : decode cX10_needRoom 6 = .ok (.if_icmp .lt 14, 3) := by decide +kernel
theorem dX10_needRoom_9 : decode cX10_needRoom 9 = .ok (.new 69, 3) := by decide +kernel
theorem dX10_needRoom_12 : decode cX10_needRoom 12 = .ok (.dup, 1) := by decide +kernel
theorem dX10_needRoom_13 : decode cX10_needRoom 13 = .ok (.ldc_w 406, 3) := by decide +kernel
theorem dX10_needRoom_16 : decode cX10_needRoom 16 = .ok (.invokespecial 73, 3) := by decide +kernel
theorem dX10_needRoom_19 : decode cX10_needRoom 19 = .ok (.athrow, 1) := by decide +kernel
theorem dX10_needRoom_20 : decode cX10_needRoom 20 = .ok (.return_, 1) := by decide +kernel
theorem dX10_needSize_0 : decode cX10_needSize 0 = .ok (.iload_n 0, 1) := by decide +kernel
theorem dX10_needSize_1 : decode cX10_needSize 1 = .ok (.ifCond .lt 9, 3) := by decide +kernel
theorem dX10_needSize_4 : decode cX10_needSize 4 = .ok (.iload_n 0, 1) := by decide +kernel
theorem dX10_needSize_5 : decode cX10_needSize 5 = .ok (.bipush 10, 2) := by decide +kernel
theorem dX10_needSize_7 : decode cX10_needSize 7 = .ok (.if_icmp .le 14, 3) := by decide +kernel
theorem dX10_needSize_10 : decode cX10_needSize 10 = .ok (.new 58, 3) := by decide +kernel
theorem dX10_needSize_13 : decode cX10_needSize 13 = .ok (.dup, 1) := by decide +kernel
theorem dX10_needSize_14 : decode cX10_needSize 14 = .ok (.ldc_w 408, 3) := by decide +kernel
theorem dX10_needSize_17 : decode cX10_needSize 17 = .ok (.invokespecial 62, 3) := by decide +kernel
theorem dX10_needSize_20 : decode cX10_needSize 20 = .ok (.athrow, 1) := by decide +kernel
theorem dX10_needSize_21 : decode cX10_needSize 21 = .ok (.return_, 1) := by decide +kernel
theorem dX10_needElement_0 : decode cX10_needElement 0 = .ok (.iload_n 1, 1) := by decide +kernel
theorem dX10_needElement_1 : decode cX10_needElement 1 = .ok (.ifCond .lt 11, 3) := by decide +kernel
theorem dX10_needElement_4 : decode cX10_needElement 4 = .ok (.iload_n 1, 1) := by decide +kernel
theorem dX10_needElement_5 : decode cX10_needElement 5 = .ok (.aload_n 0, 1) := by decide +kernel
theorem dX10_needElement_6 : decode cX10_needElement 6 = .ok (.getfield 191, 3) := by decide +kernel
theorem dX10_needElement_9 : decode cX10_needElement 9 = .ok (.if_icmp .lt 14, 3) := by decide +kernel
theorem dX10_needElement_12 : decode cX10_needElement 12 = .ok (.new 401, 3) := by decide +kernel
theorem dX10_needElement_15 : decode cX10_needElement 15 = .ok (.dup, 1) := by decide +kernel
theorem dX10_needElement_16 : decode cX10_needElement 16 = .ok (.ldc_w 410, 3) := by decide +kernel
theorem dX10_needElement_19 : decode cX10_needElement 19 = .ok (.invokespecial 405, 3) := by decide +kernel
theorem dX10_needElement_22 : decode cX10_needElement 22 = .ok (.athrow, 1) := by decide +kernel
theorem dX10_needElement_23 : decode cX10_needElement 23 = .ok (.return_, 1) := by decide +kernel
theorem dX10_needSet_0 : decode cX10_needSet 0 = .ok (.iload_n 1, 1) := by decide +kernel
theorem dX10_needSet_1 : decode cX10_needSet 1 = .ok (.ifCond .lt 11, 3) := by decide +kernel
theorem dX10_needSet_4 : decode cX10_needSet 4 = .ok (.iload_n 1, 1) := by decide +kernel
theorem dX10_needSet_5 : decode cX10_needSet 5 = .ok (.aload_n 0, 1) := by decide +kernel
theorem dX10_needSet_6 : decode cX10_needSet 6 = .ok (.getfield 412, 3) := by decide +kernel
theorem dX10_needSet_9 : decode cX10_needSet 9 = .ok (.if_icmp .le 14, 3) := by decide +kernel
theorem dX10_needSet_12 : decode cX10_needSet 12 = .ok (.new 58, 3) := by decide +kernel
theorem dX10_needSet_15 : decode cX10_needSet 15 = .ok (.dup, 1) := by decide +kernel
theorem dX10_needSet_16 : decode cX10_needSet 16 = .ok (.ldc_w 415, 3) := by decide +kernel
theorem dX10_needSet_19 : decode cX10_needSet 19 = .ok (.invokespecial 62, 3) := by decide +kernel
theorem dX10_needSet_22 : decode cX10_needSet 22 = .ok (.athrow, 1) := by decide +kernel
theorem dX10_needSet_23 : decode cX10_needSet 23 = .ok (.return_, 1) := by decide +kernel
theorem dX10_needSameSize_0 : decode cX10_needSameSize 0 = .ok (.aload_n 0, 1) := by decide +kernel
theorem dX10_needSameSize_1 : decode cX10_needSameSize 1 = .ok (.getfield 191, 3) := by decide +kernel
theorem dX10_needSameSize_4 : decode cX10_needSameSize 4 = .ok (.aload_n 1, 1) := by decide +kernel
theorem dX10_needSameSize_5 : decode cX10_needSameSize 5 = .ok (.getfield 191, 3) := by decide +kernel
theorem dX10_needSameSize_8 : decode cX10_needSameSize 8 = .ok (.if_icmp .eq 14, 3) := by decide +kernel
theorem dX10_needSameSize_11 : decode cX10_needSameSize 11 = .ok (.new 103, 3) := by decide +kernel
theorem dX10_needSameSize_14 : decode cX10_needSameSize 14 = .ok (.dup, 1) := by decide +kernel
theorem dX10_needSameSize_15 : decode cX10_needSameSize 15 = .ok (.ldc_w 417, 3) := by decide +kernel
theorem dX10_needSameSize_18 : decode cX10_needSameSize 18 = .ok (.invokespecial 107, 3) := by decide +kernel
theorem dX10_needSameSize_21 : decode cX10_needSameSize 21 = .ok (.athrow, 1) := by decide +kernel
theorem dX10_needSameSize_22 : decode cX10_needSameSize 22 = .ok (.return_, 1) := by decide +kernel
theorem dX10_needRank_0 : decode cX10_needRank 0 = .ok (.aload_n 0, 1) := by decide +kernel
theorem dX10_needRank_1 : decode cX10_needRank 1 = .ok (.getfield 309, 3) := by decide +kernel
theorem dX10_needRank_4 : decode cX10_needRank 4 = .ok (.ifCond .ne 14, 3) := by decide +kernel
theorem dX10_needRank_7 : decode cX10_needRank 7 = .ok (.new 103, 3) := by decide +kernel
theorem dX10_needRank_10 : decode cX10_needRank 10 = .ok (.dup, 1) := by decide +kernel
theorem dX10_needRank_11 : decode cX10_needRank 11 = .ok (.ldc_w 419, 3) := by decide +kernel
theorem dX10_needRank_14 : decode cX10_needRank 14 = .ok (.invokespecial 107, 3) := by decide +kernel
theorem dX10_needRank_17 : decode cX10_needRank 17 = .ok (.athrow, 1) := by decide +kernel
theorem dX10_needRank_18 : decode cX10_needRank 18 = .ok (.return_, 1) := by decide +kernel
theorem dX10_needNoLoop_0 : decode cX10_needNoLoop 0 = .ok (.iconst 0, 1) := by decide +kernel
theorem dX10_needNoLoop_1 : decode cX10_needNoLoop 1 = .ok (.istore_n 1, 1) := by decide +kernel
theorem dX10_needNoLoop_2 : decode cX10_needNoLoop 2 = .ok (.iload_n 1, 1) := by decide +kernel
theorem dX10_needNoLoop_3 : decode cX10_needNoLoop 3 = .ok (.aload_n 0, 1) := by decide +kernel
theorem dX10_needNoLoop_4 : decode cX10_needNoLoop 4 = .ok (.getfield 191, 3) := by decide +kernel
theorem dX10_needNoLoop_7 : decode cX10_needNoLoop 7 = .ok (.if_icmp .ge 30, 3) := by decide +kernel
theorem dX10_needNoLoop_10 : decode cX10_needNoLoop 10 = .ok (.aload_n 0, 1) := by decide +kernel
theorem dX10_needNoLoop_11 : decode cX10_needNoLoop 11 = .ok (.iconst 1, 1) := by decide +kernel
theorem dX10_needNoLoop_12 : decode cX10_needNoLoop 12 = .ok (.iload_n 1, 1) := by decide +kernel
theorem dX10_needNoLoop_13 : decode cX10_needNoLoop 13 = .ok (.ishl, 1) := by decide +kernel
theorem dX10_needNoLoop_14 : decode cX10_needNoLoop 14 = .ok (.invokevirtual 233, 3) := by decide +kernel
theorem dX10_needNoLoop_17 : decode cX10_needNoLoop 17 = .ok (.ifCond .ne 14, 3) := by decide +kernel
theorem dX10_needNoLoop_20 : decode cX10_needNoLoop 20 = .ok (.new 103, 3) := by decide +kernel
theorem dX10_needNoLoop_23 : decode cX10_needNoLoop 23 = .ok (.dup, 1) := by decide +kernel
theorem dX10_needNoLoop_24 : decode cX10_needNoLoop 24 = .ok (.ldc_w 421, 3) := by decide +kernel
theorem dX10_needNoLoop_27 : decode cX10_needNoLoop 27 = .ok (.invokespecial 107, 3) := by decide +kernel
theorem dX10_needNoLoop_30 : decode cX10_needNoLoop 30 = .ok (.athrow, 1) := by decide +kernel
theorem dX10_needNoLoop_31 : decode cX10_needNoLoop 31 = .ok (.iinc 1 1, 3) := by decide +kernel
theorem dX10_needNoLoop_34 : decode cX10_needNoLoop 34 = .ok (.goto (-32), 3) := by decide +kernel
theorem dX10_needNoLoop_37 : decode cX10_needNoLoop 37 = .ok (.return_, 1) := by decide +kernel
theorem dX10_needPower_0 : decode cX10_needPower 0 = .ok (.iload_n 0, 1) := by decide +kernel
theorem dX10_needPower_1 : decode cX10_needPower 1 = .ok (.ifCond .lt 9, 3) := by decide +kernel
theorem dX10_needPower_4 : decode cX10_needPower 4 = .ok (.iload_n 0, 1) := by decide +kernel
theorem dX10_needPower_5 : decode cX10_needPower 5 = .ok (.bipush 10, 2) := by decide +kernel
theorem dX10_needPower_7 : decode cX10_needPower 7 = .ok (.if_icmp .le 14, 3) := by decide +kernel
theorem dX10_needPower_10 : decode cX10_needPower 10 = .ok (.new 58, 3) := by decide +kernel
theorem dX10_needPower_13 : decode cX10_needPower 13 = .ok (.dup, 1) := by decide +kernel
theorem dX10_needPower_14 : decode cX10_needPower 14 = .ok (.ldc_w 423, 3) := by decide +kernel
theorem dX10_needPower_17 : decode cX10_needPower 17 = .ok (.invokespecial 62, 3) := by decide +kernel
theorem dX10_needPower_20 : decode cX10_needPower 20 = .ok (.athrow, 1) := by decide +kernel
theorem dX10_needPower_21 : decode cX10_needPower 21 = .ok (.return_, 1) := by decide +kernel
theorem dX10_sortNamed_0 : decode cX10_sortNamed 0 = .ok (.iload_n 0, 1) := by decide +kernel
theorem dX10_sortNamed_1 : decode cX10_sortNamed 1 = .ok (.tableswitch 59 98 105 #[49, 51, 59, 59, 53, 59, 56, 47], 47) := by decide +kernel
theorem dX10_sortNamed_48 : decode cX10_sortNamed 48 = .ok (.iconst 1, 1) := by decide +kernel
theorem dX10_sortNamed_49 : decode cX10_sortNamed 49 = .ok (.ireturn, 1) := by decide +kernel
theorem dX10_sortNamed_50 : decode cX10_sortNamed 50 = .ok (.iconst 2, 1) := by decide +kernel
theorem dX10_sortNamed_51 : decode cX10_sortNamed 51 = .ok (.ireturn, 1) := by decide +kernel
theorem dX10_sortNamed_52 : decode cX10_sortNamed 52 = .ok (.iconst 4, 1) := by decide +kernel
theorem dX10_sortNamed_53 : decode cX10_sortNamed 53 = .ok (.ireturn, 1) := by decide +kernel
theorem dX10_sortNamed_54 : decode cX10_sortNamed 54 = .ok (.bipush 8, 2) := by decide +kernel
theorem dX10_sortNamed_56 : decode cX10_sortNamed 56 = .ok (.ireturn, 1) := by decide +kernel
theorem dX10_sortNamed_57 : decode cX10_sortNamed 57 = .ok (.bipush 16, 2) := by decide +kernel
theorem dX10_sortNamed_59 : decode cX10_sortNamed 59 = .ok (.ireturn, 1) := by decide +kernel
theorem dX10_sortNamed_60 : decode cX10_sortNamed 60 = .ok (.new 58, 3) := by decide +kernel
theorem dX10_sortNamed_63 : decode cX10_sortNamed 63 = .ok (.dup, 1) := by decide +kernel
theorem dX10_sortNamed_64 : decode cX10_sortNamed 64 = .ok (.ldc_w 425, 3) := by decide +kernel
theorem dX10_sortNamed_67 : decode cX10_sortNamed 67 = .ok (.invokespecial 62, 3) := by decide +kernel
theorem dX10_sortNamed_70 : decode cX10_sortNamed 70 = .ok (.athrow, 1) := by decide +kernel
theorem dX10_keep_0 : decode cX10_keep 0 = .ok (.aload_n 0, 1) := by decide +kernel
theorem dX10_keep_1 : decode cX10_keep 1 = .ok (.getfield 380, 3) := by decide +kernel
theorem dX10_keep_4 : decode cX10_keep 4 = .ok (.istore_n 2, 1) := by decide +kernel
theorem dX10_keep_5 : decode cX10_keep 5 = .ok (.iload_n 2, 1) := by decide +kernel
theorem dX10_keep_6 : decode cX10_keep 6 = .ok (.ifCond .lt 33, 3) := by decide +kernel
theorem dX10_keep_9 : decode cX10_keep 9 = .ok (.iload_n 2, 1) := by decide +kernel
theorem dX10_keep_10 : decode cX10_keep 10 = .ok (.aload_n 0, 1) := by decide +kernel
theorem dX10_keep_11 : decode cX10_keep 11 = .ok (.getfield 18, 3) := by decide +kernel
theorem dX10_keep_14 : decode cX10_keep 14 = .ok (.arraylength, 1) := by decide +kernel
theorem dX10_keep_15 : decode cX10_keep 15 = .ok (.if_icmp .ge 24, 3) := by decide +kernel
theorem dX10_keep_18 : decode cX10_keep 18 = .ok (.aload_n 0, 1) := by decide +kernel
theorem dX10_keep_19 : decode cX10_keep 19 = .ok (.getfield 18, 3) := by decide +kernel
theorem dX10_keep_22 : decode cX10_keep 22 = .ok (.iload_n 2, 1) := by decide +kernel
theorem dX10_keep_23 : decode cX10_keep 23 = .ok (.new 16, 3) := by decide +kernel
theorem dX10_keep_26 : decode cX10_keep 26 = .ok (.dup, 1) := by decide +kernel
theorem dX10_keep_27 : decode cX10_keep 27 = .ok (.aload_n 1, 1) := by decide +kernel
theorem dX10_keep_28 : decode cX10_keep 28 = .ok (.invokespecial 427, 3) := by decide +kernel
theorem dX10_keep_31 : decode cX10_keep 31 = .ok (.aastore, 1) := by decide +kernel
theorem dX10_keep_32 : decode cX10_keep 32 = .ok (.aload_n 0, 1) := by decide +kernel
theorem dX10_keep_33 : decode cX10_keep 33 = .ok (.iload_n 2, 1) := by decide +kernel
theorem dX10_keep_34 : decode cX10_keep 34 = .ok (.iconst 1, 1) := by decide +kernel
theorem dX10_keep_35 : decode cX10_keep 35 = .ok (.iadd, 1) := by decide +kernel
theorem dX10_keep_36 : decode cX10_keep 36 = .ok (.putfield 380, 3) := by decide +kernel
theorem dX10_keep_39 : decode cX10_keep 39 = .ok (.iload_n 2, 1) := by decide +kernel
theorem dX10_keep_40 : decode cX10_keep 40 = .ok (.ireturn, 1) := by decide +kernel
theorem dX10_keepTyped_0 : decode cX10_keepTyped 0 = .ok (.aload_n 0, 1) := by decide +kernel
theorem dX10_keepTyped_1 : decode cX10_keepTyped 1 = .ok (.getfield 10, 3) := by decide +kernel
theorem dX10_keepTyped_4 : decode cX10_keepTyped 4 = .ok (.invokevirtual 82, 3) := by decide +kernel
theorem dX10_keepTyped_7 : decode cX10_keepTyped 7 = .ok (.aload_n 0, 1) := by decide +kernel
theorem dX10_keepTyped_8 : decode cX10_keepTyped 8 = .ok (.aload_n 1, 1) := by decide +kernel
theorem dX10_keepTyped_9 : decode cX10_keepTyped 9 = .ok (.invokevirtual 96, 3) := by decide +kernel
theorem dX10_keepTyped_12 : decode cX10_keepTyped 12 = .ok (.ireturn, 1) := by decide +kernel
theorem dX10_drawingOf_0 : decode cX10_drawingOf 0 = .ok (.iload_n 1, 1) := by decide +kernel
theorem dX10_drawingOf_1 : decode cX10_drawingOf 1 = .ok (.iconst 2, 1) := by decide +kernel
theorem dX10_drawingOf_2 : decode cX10_drawingOf 2 = .ok (.if_icmp .eq 19, 3) := by decide +kernel
theorem dX10_drawingOf_5 : decode cX10_drawingOf 5 = .ok (.iload_n 1, 1) := by decide +kernel
theorem dX10_drawingOf_6 : decode cX10_drawingOf 6 = .ok (.iconst 3, 1) := by decide +kernel
theorem dX10_drawingOf_7 : decode cX10_drawingOf 7 = .ok (.if_icmp .eq 14, 3) := by decide +kernel
theorem dX10_drawingOf_10 : decode cX10_drawingOf 10 = .ok (.new 58, 3) := by decide +kernel
theorem dX10_drawingOf_13 : decode cX10_drawingOf 13 = .ok (.dup, 1) := by decide +kernel
theorem dX10_drawingOf_14 : decode cX10_drawingOf 14 = .ok (.ldc_w 430, 3) := by decide +kernel
theorem dX10_drawingOf_17 : decode cX10_drawingOf 17 = .ok (.invokespecial 62, 3) := by decide +kernel
theorem dX10_drawingOf_20 : decode cX10_drawingOf 20 = .ok (.athrow, 1) := by decide +kernel
theorem dX10_drawingOf_21 : decode cX10_drawingOf 21 = .ok (.iload_n 1, 1) := by decide +kernel
theorem dX10_drawingOf_22 : decode cX10_drawingOf 22 = .ok (.iconst 2, 1) := by decide +kernel
theorem dX10_drawingOf_23 : decode cX10_drawingOf 23 = .ok (.if_icmp .ne 28, 3) := by decide +kernel
theorem dX10_drawingOf_26 : decode cX10_drawingOf 26 = .ok (.aload_n 0, 1) := by decide +kernel
theorem dX10_drawingOf_27 : decode cX10_drawingOf 27 = .ok (.getfield 432, 3) := by decide +kernel
theorem dX10_drawingOf_30 : decode cX10_drawingOf 30 = .ok (.ifnonnull 16, 3) := by decide +kernel
theorem dX10_drawingOf_33 : decode cX10_drawingOf 33 = .ok (.aload_n 0, 1) := by decide +kernel
theorem dX10_drawingOf_34 : decode cX10_drawingOf 34 = .ok (.new 305, 3) := by decide +kernel
theorem dX10_drawingOf_37 : decode cX10_drawingOf 37 = .ok (.dup, 1) := by decide +kernel
theorem dX10_drawingOf_38 : decode cX10_drawingOf 38 = .ok (.aload_n 0, 1) := by decide +kernel
theorem dX10_drawingOf_39 : decode cX10_drawingOf 39 = .ok (.iconst 2, 1) := by decide +kernel
theorem dX10_drawingOf_40 : decode cX10_drawingOf 40 = .ok (.invokespecial 436, 3) := by decide +kernel
theorem dX10_drawingOf_43 : decode cX10_drawingOf 43 = .ok (.putfield 432, 3) := by decide +kernel
theorem dX10_drawingOf_46 : decode cX10_drawingOf 46 = .ok (.aload_n 0, 1) := by decide +kernel
theorem dX10_drawingOf_47 : decode cX10_drawingOf 47 = .ok (.getfield 432, 3) := by decide +kernel
theorem dX10_drawingOf_50 : decode cX10_drawingOf 50 = .ok (.areturn, 1) := by decide +kernel
theorem dX10_drawingOf_51 : decode cX10_drawingOf 51 = .ok (.aload_n 0, 1) := by decide +kernel
theorem dX10_drawingOf_52 : decode cX10_drawingOf 52 = .ok (.getfield 438, 3) := by decide +kernel
theorem dX10_drawingOf_55 : decode cX10_drawingOf 55 = .ok (.ifnonnull 16, 3) := by decide +kernel
theorem dX10_drawingOf_58 : decode cX10_drawingOf 58 = .ok (.aload_n 0, 1) := by decide +kernel
theorem dX10_drawingOf_59 : decode cX10_drawingOf 59 = .ok (.new 305, 3) := by decide +kernel
theorem dX10_drawingOf_62 : decode cX10_drawingOf 62 = .ok (.dup, 1) := by decide +kernel
theorem dX10_drawingOf_63 : decode cX10_drawingOf 63 = .ok (.aload_n 0, 1) := by decide +kernel
theorem dX10_drawingOf_64 : decode cX10_drawingOf 64 = .ok (.iconst 3, 1) := by decide +kernel
theorem dX10_drawingOf_65 : decode cX10_drawingOf 65 = .ok (.invokespecial 436, 3) := by decide +kernel
theorem dX10_drawingOf_68 : decode cX10_drawingOf 68 = .ok (.putfield 438, 3) := by decide +kernel
theorem dX10_drawingOf_71 : decode cX10_drawingOf 71 = .ok (.aload_n 0, 1) := by decide +kernel
theorem dX10_drawingOf_72 : decode cX10_drawingOf 72 = .ok (.getfield 438, 3) := by decide +kernel
theorem dX10_drawingOf_75 : decode cX10_drawingOf 75 = .ok (.areturn, 1) := by decide +kernel
theorem dX10_keepsRuleOfBases_0 : decode cX10_keepsRuleOfBases 0 = .ok (.aload_n 0, 1) := by decide +kernel
theorem dX10_keepsRuleOfBases_1 : decode cX10_keepsRuleOfBases 1 = .ok (.getfield 29, 3) := by decide +kernel
theorem dX10_keepsRuleOfBases_4 : decode cX10_keepsRuleOfBases 4 = .ok (.aload_n 1, 1) := by decide +kernel
theorem dX10_keepsRuleOfBases_5 : decode cX10_keepsRuleOfBases 5 = .ok (.getfield 191, 3) := by decide +kernel
theorem dX10_keepsRuleOfBases_8 : decode cX10_keepsRuleOfBases 8 = .ok (.invokevirtual 132, 3) := by decide +kernel
theorem dX10_keepsRuleOfBases_11 : decode cX10_keepsRuleOfBases 11 = .ok (.iconst 0, 1) := by decide +kernel
theorem dX10_keepsRuleOfBases_12 : decode cX10_keepsRuleOfBases 12 = .ok (.istore_n 2, 1) := by decide +kernel
theorem dX10_keepsRuleOfBases_13 : decode cX10_keepsRuleOfBases 13 = .ok (.iload_n 2, 1) := by decide +kernel
theorem dX10_keepsRuleOfBases_14 : decode cX10_keepsRuleOfBases 14 = .ok (.aload_n 1, 1) := by decide +kernel
theorem dX10_keepsRuleOfBases_15 : decode cX10_keepsRuleOfBases 15 = .ok (.getfield 412, 3) := by decide +kernel
theorem dX10_keepsRuleOfBases_18 : decode cX10_keepsRuleOfBases 18 = .ok (.if_icmp .gt 26, 3) := by decide +kernel
theorem dX10_keepsRuleOfBases_21 : decode cX10_keepsRuleOfBases 21 = .ok (.aload_n 1, 1) := by decide +kernel
theorem dX10_keepsRuleOfBases_22 : decode cX10_keepsRuleOfBases 22 = .ok (.iload_n 2, 1) := by decide +kernel
theorem dX10_keepsRuleOfBases_23 : decode cX10_keepsRuleOfBases 23 = .ok (.iconst 2, 1) := by decide +kernel
theorem dX10_keepsRuleOfBases_24 : decode cX10_keepsRuleOfBases 24 = .ok (.invokevirtual 218, 3) := by decide +kernel
theorem dX10_keepsRuleOfBases_27 : decode cX10_keepsRuleOfBases 27 = .ok (.ifCond .eq 11, 3) := by decide +kernel
theorem dX10_keepsRuleOfBases_30 : decode cX10_keepsRuleOfBases 30 = .ok (.aload_n 0, 1) := by decide +kernel
theorem dX10_keepsRuleOfBases_31 : decode cX10_keepsRuleOfBases 31 = .ok (.getfield 29, 3) := by decide +kernel
theorem dX10_keepsRuleOfBases_34 : decode cX10_keepsRuleOfBases 34 = .ok (.iload_n 2, 1) := by decide +kernel
theorem dX10_keepsRuleOfBases_35 : decode cX10_keepsRuleOfBases 35 = .ok (.invokevirtual 141, 3) := by decide +kernel
theorem dX10_keepsRuleOfBases_38 : decode cX10_keepsRuleOfBases 38 = .ok (.iinc 2 1, 3) := by decide +kernel
theorem dX10_keepsRuleOfBases_41 : decode cX10_keepsRuleOfBases 41 = .ok (.goto (-28), 3) := by decide +kernel
theorem dX10_keepsRuleOfBases_44 : decode cX10_keepsRuleOfBases 44 = .ok (.aload_n 0, 1) := by decide +kernel
theorem dX10_keepsRuleOfBases_45 : decode cX10_keepsRuleOfBases 45 = .ok (.getfield 29, 3) := by decide +kernel
theorem dX10_keepsRuleOfBases_48 : decode cX10_keepsRuleOfBases 48 = .ok (.invokevirtual 144, 3) := by decide +kernel
theorem dX10_keepsRuleOfBases_51 : decode cX10_keepsRuleOfBases 51 = .ok (.ireturn, 1) := by decide +kernel
theorem dX10_isDualOfDual_0 : decode cX10_isDualOfDual 0 = .ok (.aload_n 0, 1) := by decide +kernel
theorem dX10_isDualOfDual_1 : decode cX10_isDualOfDual 1 = .ok (.getfield 175, 3) := by decide +kernel
theorem dX10_isDualOfDual_4 : decode cX10_isDualOfDual 4 = .ok (.aload_n 0, 1) := by decide +kernel
theorem dX10_isDualOfDual_5 : decode cX10_isDualOfDual 5 = .ok (.getfield 175, 3) := by decide +kernel
theorem dX10_isDualOfDual_8 : decode cX10_isDualOfDual 8 = .ok (.invokestatic 179, 3) := by decide +kernel
theorem dX10_isDualOfDual_11 : decode cX10_isDualOfDual 11 = .ok (.invokestatic 179, 3) := by decide +kernel
theorem dX10_isDualOfDual_14 : decode cX10_isDualOfDual 14 = .ok (.invokestatic 441, 3) := by decide +kernel
theorem dX10_isDualOfDual_17 : decode cX10_isDualOfDual 17 = .ok (.ireturn, 1) := by decide +kernel
theorem dX10_agreesWithPolynomial_0 : decode cX10_agreesWithPolynomial 0 = .ok (.aload_n 0, 1) := by decide +kernel
theorem dX10_agreesWithPolynomial_1 : decode cX10_agreesWithPolynomial 1 = .ok (.getfield 361, 3) := by decide +kernel
theorem dX10_agreesWithPolynomial_4 : decode cX10_agreesWithPolynomial 4 = .ok (.iconst 1, 1) := by decide +kernel
theorem dX10_agreesWithPolynomial_5 : decode cX10_agreesWithPolynomial 5 = .ok (.iconst 1, 1) := by decide +kernel
theorem dX10_agreesWithPolynomial_6 : decode cX10_agreesWithPolynomial 6 = .ok (.invokestatic 373, 3) := by decide +kernel
theorem dX10_agreesWithPolynomial_9 : decode cX10_agreesWithPolynomial 9 = .ok (.aload_n 0, 1) := by decide +kernel
theorem dX10_agreesWithPolynomial_10 : decode cX10_agreesWithPolynomial 10 = .ok (.iconst 2, 1) := by decide +kernel
theorem dX10_agreesWithPolynomial_11 : decode cX10_agreesWithPolynomial 11 = .ok (.invokevirtual 243, 3) := by decide +kernel
theorem dX10_agreesWithPolynomial_14 : decode cX10_agreesWithPolynomial 14 = .ok (.i2l, 1) := by decide +kernel
theorem dX10_agreesWithPolynomial_15 : decode cX10_agreesWithPolynomial 15 = .ok (.lcmp, 1) := by decide +kernel
theorem dX10_agreesWithPolynomial_16 : decode cX10_agreesWithPolynomial 16 = .ok (.ifCond .ne 46, 3) := by decide +kernel
theorem dX10_agreesWithPolynomial_19 : decode cX10_agreesWithPolynomial 19 = .ok (.aload_n 0, 1) := by decide +kernel
theorem dX10_agreesWithPolynomial_20 : decode cX10_agreesWithPolynomial 20 = .ok (.getfield 361, 3) := by decide +kernel
theorem dX10_agreesWithPolynomial_23 : decode cX10_agreesWithPolynomial 23 = .ok (.iconst 2, 1) := by decide +kernel
theorem dX10_agreesWithPolynomial_24 : decode cX10_agreesWithPolynomial 24 = .ok (.iconst 2, 1) := by decide +kernel
theorem dX10_agreesWithPolynomial_25 : decode cX10_agreesWithPolynomial 25 = .ok (.invokestatic 373, 3) := by decide +kernel
theorem dX10_agreesWithPolynomial_28 : decode cX10_agreesWithPolynomial 28 = .ok (.aload_n 0, 1) := by decide +kernel
theorem dX10_agreesWithPolynomial_29 : decode cX10_agreesWithPolynomial 29 = .ok (.getfield 412, 3) := by decide +kernel
theorem dX10_agreesWithPolynomial_32 : decode cX10_agreesWithPolynomial 32 = .ok (.iconst 1, 1) := by decide +kernel
theorem dX10_agreesWithPolynomial_33 : decode cX10_agreesWithPolynomial 33 = .ok (.iadd, 1) := by decide +kernel
theorem dX10_agreesWithPolynomial_34 : decode cX10_agreesWithPolynomial 34 = .ok (.i2l, 1) := by decide +kernel
theorem dX10_agreesWithPolynomial_35 : decode cX10_agreesWithPolynomial 35 = .ok (.lcmp, 1) := by decide +kernel
theorem dX10_agreesWithPolynomial_36 : decode cX10_agreesWithPolynomial 36 = .ok (.ifCond .ne 26, 3) := by decide +kernel
theorem dX10_agreesWithPolynomial_39 : decode cX10_agreesWithPolynomial 39 = .ok (.aload_n 0, 1) := by decide +kernel
theorem dX10_agreesWithPolynomial_40 : decode cX10_agreesWithPolynomial 40 = .ok (.getfield 361, 3) := by decide +kernel
theorem dX10_agreesWithPolynomial_43 : decode cX10_agreesWithPolynomial 43 = .ok (.iconst 2, 1) := by decide +kernel
theorem dX10_agreesWithPolynomial_44 : decode cX10_agreesWithPolynomial 44 = .ok (.iconst 1, 1) := by decide +kernel
theorem dX10_agreesWithPolynomial_45 : decode cX10_agreesWithPolynomial 45 = .ok (.invokestatic 373, 3) := by decide +kernel
theorem dX10_agreesWithPolynomial_48 : decode cX10_agreesWithPolynomial 48 = .ok (.aload_n 0, 1) := by decide +kernel
theorem dX10_agreesWithPolynomial_49 : decode cX10_agreesWithPolynomial 49 = .ok (.iconst 1, 1) := by decide +kernel
theorem dX10_agreesWithPolynomial_50 : decode cX10_agreesWithPolynomial 50 = .ok (.invokevirtual 243, 3) := by decide +kernel
theorem dX10_agreesWithPolynomial_53 : decode cX10_agreesWithPolynomial 53 = .ok (.i2l, 1) := by decide +kernel
theorem dX10_agreesWithPolynomial_54 : decode cX10_agreesWithPolynomial 54 = .ok (.lcmp, 1) := by decide +kernel
theorem dX10_agreesWithPolynomial_55 : decode cX10_agreesWithPolynomial 55 = .ok (.ifCond .ne 7, 3) := by decide +kernel
theorem dX10_agreesWithPolynomial_58 : decode cX10_agreesWithPolynomial 58 = .ok (.iconst 1, 1) := by decide +kernel
theorem dX10_agreesWithPolynomial_59 : decode cX10_agreesWithPolynomial 59 = .ok (.goto 4, 3) := by decide +kernel
theorem dX10_agreesWithPolynomial_62 : decode cX10_agreesWithPolynomial 62 = .ok (.iconst 0, 1) := by decide +kernel
theorem dX10_agreesWithPolynomial_63 : decode cX10_agreesWithPolynomial 63 = .ok (.ireturn, 1) := by decide +kernel
theorem dX11_init_0 : decode cX11_init 0 = .ok (.aload_n 0, 1) := by decide +kernel
theorem dX11_init_1 : decode cX11_init 1 = .ok (.invokespecial 1, 3) := by decide +kernel
theorem dX11_init_4 : decode cX11_init 4 = .ok (.aload_n 0, 1) := by decide +kernel
theorem dX11_init_5 : decode cX11_init 5 = .ok (.sipush 1024, 3) := by decide +kernel
theorem dX11_init_8 : decode cX11_init 8 = .ok (.newarray .int, 2) := by decide +kernel
theorem dX11_init_10 : decode cX11_init 10 = .ok (.putfield 7, 3) := by decide +kernel
theorem dX11_init_13 : decode cX11_init 13 = .ok (.return_, 1) := by decide +kernel
theorem dX11_full_0 : decode cX11_full 0 = .ok (.iconst 1, 1) := by decide +kernel
theorem dX11_full_1 : decode cX11_full 1 = .ok (.aload_n 0, 1) := by decide +kernel
theorem dX11_full_2 : decode cX11_full 2 = .ok (.getfield 13, 3) := by decide +kernel
theorem dX11_full_5 : decode cX11_full 5 = .ok (.ishl, 1) := by decide +kernel
theorem dX11_full_6 : decode cX11_full 6 = .ok (.iconst 1, 1) := by decide +kernel
theorem dX11_full_7 : decode cX11_full 7 = .ok (.isub, 1) := by decide +kernel
theorem dX11_full_8 : decode cX11_full 8 = .ok (.ireturn, 1) := by decide +kernel
theorem dX11_rank_0 : decode cX11_rank 0 = .ok (.aload_n 0, 1) := by decide +kernel
theorem dX11_rank_1 : decode cX11_rank 1 = .ok (.getfield 7, 3) := by decide +kernel
theorem dX11_rank_4 : decode cX11_rank 4 = .ok (.aload_n 0, 1) := by decide +kernel
theorem dX11_rank_5 : decode cX11_rank 5 = .ok (.invokevirtual 17, 3) := by decide +kernel
theorem dX11_rank_8 : decode cX11_rank 8 = .ok (.iaload, 1) := by decide +kernel
theorem dX11_rank_9 : decode cX11_rank 9 = .ok (.ireturn, 1) := by decide +kernel
theorem dX11_isFree_0 : decode cX11_isFree 0 = .ok (.aload_n 0, 1) := by decide +kernel
theorem dX11_isFree_1 : decode cX11_isFree 1 = .ok (.getfield 7, 3) := by decide +kernel
theorem dX11_isFree_4 : decode cX11_isFree 4 = .ok (.iload_n 1, 1) := by decide +kernel
theorem dX11_isFree_5 : decode cX11_isFree 5 = .ok (.iaload, 1) := by decide +kernel
theorem dX11_isFree_6 : decode cX11_isFree 6 = .ok (.iload_n 1, 1) := by decide +kernel
theorem dX11_isFree_7 : decode cX11_isFree 7 = .ok (.invokestatic 21, 3) := by decide +kernel
theorem dX11_isFree_10 : decode cX11_isFree 10 = .ok (.if_icmp .ne 7, 3) := by decide +kernel
theorem dX11_isFree_13 : decode cX11_isFree 13 = .ok (.iconst 1, 1) := by decide +kernel
theorem dX11_isFree_14 : decode cX11_isFree 14 = .ok (.goto 4, 3) := by decide +kernel
theorem dX11_isFree_17 : decode cX11_isFree 17 = .ok (.iconst 0, 1) := by decide +kernel
theorem dX11_isFree_18 : decode cX11_isFree 18 = .ok (.ireturn, 1) := by decide +kernel
theorem dX11_isBasis_0 : decode cX11_isBasis 0 = .ok (.aload_n 0, 1) := by decide +kernel
theorem dX11_isBasis_1 : decode cX11_isBasis 1 = .ok (.iload_n 1, 1) := by decide +kernel
theorem dX11_isBasis_2 : decode cX11_isBasis 2 = .ok (.invokevirtual 27, 3) := by decide +kernel
theorem dX11_isBasis_5 : decode cX11_isBasis 5 = .ok (.ifCond .eq 20, 3) := by decide +kernel
theorem dX11_isBasis_8 : decode cX11_isBasis 8 = .ok (.aload_n 0, 1) := by decide +kernel
theorem dX11_isBasis_9 : decode cX11_isBasis 9 = .ok (.getfield 7, 3) := by decide +kernel
theorem dX11_isBasis_12 : decode cX11_isBasis 12 = .ok (.iload_n 1, 1) := by decide +kernel
theorem dX11_isBasis_13 : decode cX11_isBasis 13 = .ok (.iaload, 1) := by decide +kernel
theorem dX11_isBasis_14 : decode cX11_isBasis 14 = .ok (.aload_n 0, 1) := by decide +kernel
theorem dX11_isBasis_15 : decode cX11_isBasis 15 = .ok (.invokevirtual 31, 3) := by decide +kernel
theorem dX11_isBasis_18 : decode cX11_isBasis 18 = .ok (.if_icmp .ne 7, 3) := by decide +kernel
theorem dX11_isBasis_21 : decode cX11_isBasis 21 = .ok (.iconst 1, 1) := by decide +kernel
theorem dX11_isBasis_22 : decode cX11_isBasis 22 = .ok (.goto 4, 3) := by decide +kernel
theorem dX11_isBasis_25 : decode cX11_isBasis 25 = .ok (.iconst 0, 1) := by decide +kernel
theorem dX11_isBasis_26 : decode cX11_isBasis 26 = .ok (.ireturn, 1) := by decide +kernel
theorem dX11_closure_0 : decode cX11_closure 0 = .ok (.iload_n 1, 1) := by decide +kernel
theorem dX11_closure_1 : decode cX11_closure 1 = .ok (.istore_n 2, 1) := by decide +kernel
theorem dX11_closure_2 : decode cX11_closure 2 = .ok (.iconst 0, 1) := by decide +kernel
theorem dX11_closure_3 : decode cX11_closure 3 = .ok (.istore_n 3, 1) := by decide +kernel
theorem dX11_closure_4 : decode cX11_closure 4 = .ok (.iload_n 3, 1) := by decide +kernel
theorem dX11_closure_5 : decode cX11_closure 5 = .ok (.aload_n 0, 1) := by decide +kernel
theorem dX11_closure_6 : decode cX11_closure 6 = .ok (.getfield 13, 3) := by decide +kernel
theorem dX11_closure_9 : decode cX11_closure 9 = .ok (.if_icmp .ge 38, 3) := by decide +kernel
theorem dX11_closure_12 : decode cX11_closure 12 = .ok (.iload_n 2, 1) := by decide +kernel
theorem dX11_closure_13 : decode cX11_closure 13 = .ok (.aload_n 0, 1) := by decide +kernel
theorem dX11_closure_14 : decode cX11_closure 14 = .ok (.getfield 7, 3) := by decide +kernel
theorem dX11_closure_17 : decode cX11_closure 17 = .ok (.iload_n 1, 1) := by decide +kernel
theorem dX11_closure_18 : decode cX11_closure 18 = .ok (.iconst 1, 1) := by decide +kernel
theorem dX11_closure_19 : decode cX11_closure 19 = .ok (.iload_n 3, 1) := by decide +kernel
theorem dX11_closure_20 : decode cX11_closure 20 = .ok (.ishl, 1) := by decide +kernel
theorem dX11_closure_21 : decode cX11_closure 21 = .ok (.ior, 1) := by decide +kernel
theorem dX11_closure_22 : decode cX11_closure 22 = .ok (.iaload, 1) := by decide +kernel
theorem dX11_closure_23 : decode cX11_closure 23 = .ok (.aload_n 0, 1) := by decide +kernel
theorem dX11_closure_24 : decode cX11_closure 24 = .ok (.getfield 7, 3) := by decide +kernel
theorem dX11_closure_27 : decode cX11_closure 27 = .ok (.iload_n 1, 1) := by decide +kernel
theorem dX11_closure_28 : decode cX11_closure 28 = .ok (.iaload, 1) := by decide +kernel
theorem dX11_closure_29 : decode cX11_closure 29 = .ok (.if_icmp .ne 9, 3) := by decide +kernel
theorem dX11_closure_32 : decode cX11_closure 32 = .ok (.iconst 1, 1) := by decide +kernel
theorem dX11_closure_33 : decode cX11_closure 33 = .ok (.iload_n 3, 1) := by decide +kernel
theorem dX11_closure_34 : decode cX11_closure 34 = .ok (.ishl, 1) := by decide +kernel
theorem dX11_closure_35 : decode cX11_closure 35 = .ok (.goto 4, 3) := by decide +kernel
theorem dX11_closure_38 : decode cX11_closure 38 = .ok (.iconst 0, 1) := by decide +kernel
theorem dX11_closure_39 : decode cX11_closure 39 = .ok (.ior, 1) := by decide +kernel
theorem dX11_closure_40 : decode cX11_closure 40 = .ok (.istore_n 2, 1) := by decide +kernel
theorem dX11_closure_41 : decode cX11_closure 41 = .ok (.iinc 3 1, 3) := by decide +kernel
theorem dX11_closure_44 : decode cX11_closure 44 = .ok (.goto (-40), 3) := by decide +kernel
theorem dX11_closure_47 : decode cX11_closure 47 = .ok (.iload_n 2, 1) := by decide +kernel
theorem dX11_closure_48 : decode cX11_closure 48 = .ok (.ireturn, 1) := by decide +kernel
theorem dX11_isCircuit_0 : decode cX11_isCircuit 0 = .ok (.aload_n 0, 1) := by decide +kernel
theorem dX11_isCircuit_1 : decode cX11_isCircuit 1 = .ok (.iload_n 1, 1) := by decide +kernel
theorem dX11_isCircuit_2 : decode cX11_isCircuit 2 = .ok (.invokevirtual 27, 3) := by decide +kernel
theorem dX11_isCircuit_5 : decode cX11_isCircuit 5 = .ok (.ifCond .ne 7, 3) := by decide +kernel
theorem dX11_isCircuit_8 : decode cX11_isCircuit 8 = .ok (.iconst 1, 1) := by decide +kernel
theorem dX11_isCircuit_9 : decode cX11_isCircuit 9 = .ok (.goto 4, 3) := by decide +kernel
theorem dX11_isCircuit_12 : decode cX11_isCircuit 12 = .ok (.iconst 0, 1) := by decide +kernel
theorem dX11_isCircuit_13 : decode cX11_isCircuit 13 = .ok (.istore_n 2, 1) := by decide +kernel
theorem dX11_isCircuit_14 : decode cX11_isCircuit 14 = .ok (.iconst 0, 1) := by decide +kernel
theorem dX11_isCircuit_15 : decode cX11_isCircuit 15 = .ok (.istore_n 3, 1) := by decide +kernel
theorem dX11_isCircuit_16 : decode cX11_isCircuit 16 = .ok (.iload_n 3, 1) := by decide +kernel
theorem dX11_isCircuit_17 : decode cX11_isCircuit 17 = .ok (.aload_n 0, 1) := by decide +kernel
theorem dX11_isCircuit_18 : decode cX11_isCircuit 18 = .ok (.getfield 13, 3) := by decide +kernel
theorem dX11_isCircuit_21 : decode cX11_isCircuit 21 = .ok (.if_icmp .ge 41, 3) := by decide +kernel
theorem dX11_isCircuit_24 : decode cX11_isCircuit 24 = .ok (.iload_n 2, 1) := by decide +kernel
theorem dX11_isCircuit_25 : decode cX11_isCircuit 25 = .ok (.ifCond .eq 29, 3) := by decide +kernel
theorem dX11_isCircuit_28 : decode cX11_isCircuit 28 = .ok (.iload_n 1, 1) := by decide +kernel
theorem dX11_isCircuit_29 : decode cX11_isCircuit 29 = .ok (.iload_n 3, 1) := by decide +kernel
theorem dX11_isCircuit_30 : decode cX11_isCircuit 30 = .ok (.ishr, 1) := by decide +kernel
theorem dX11_isCircuit_31 : decode cX11_isCircuit 31 = .ok (.iconst 1, 1) := by decide +kernel
theorem dX11_isCircuit_32 : decode cX11_isCircuit 32 = .ok (.iand, 1) := by decide +kernel
theorem dX11_isCircuit_33 : decode cX11_isCircuit 33 = .ok (.ifCond .eq 17, 3) := by decide +kernel
theorem dX11_isCircuit_36 : decode cX11_isCircuit 36 = .ok (.aload_n 0, 1) := by decide +kernel
theorem dX11_isCircuit_37 : decode cX11_isCircuit 37 = .ok (.iload_n 1, 1) := by decide +kernel
theorem dX11_isCircuit_38 : decode cX11_isCircuit 38 = .ok (.iconst 1, 1) := by decide +kernel
theorem dX11_isCircuit_39 : decode cX11_isCircuit 39 = .ok (.iload_n 3, 1) := by decide +kernel
theorem dX11_isCircuit_40 : decode cX11_isCircuit 40 = .ok (.ishl, 1) := by decide +kernel
theorem dX11_isCircuit_41 : decode cX11_isCircuit 41 = .ok (.iconst (-1), 1) := by decide +kernel
theorem dX11_isCircuit_42 : decode cX11_isCircuit 42 = .ok (.ixor, 1) := by decide +kernel
theorem dX11_isCircuit_43 : decode cX11_isCircuit 43 = .ok (.iand, 1) := by decide +kernel
theorem dX11_isCircuit_44 : decode cX11_isCircuit 44 = .ok (.invokevirtual 27, 3) := by decide +kernel
theorem dX11_isCircuit_47 : decode cX11_isCircuit 47 = .ok (.ifCond .eq 7, 3) := by decide +kernel
theorem dX11_isCircuit_50 : decode cX11_isCircuit 50 = .ok (.iconst 1, 1) := by decide +kernel
theorem dX11_isCircuit_51 : decode cX11_isCircuit 51 = .ok (.goto 4, 3) := by decide +kernel
theorem dX11_isCircuit_54 : decode cX11_isCircuit 54 = .ok (.iconst 0, 1) := by decide +kernel
theorem dX11_isCircuit_55 : decode cX11_isCircuit 55 = .ok (.istore_n 2, 1) := by decide +kernel
theorem dX11_isCircuit_56 : decode cX11_isCircuit 56 = .ok (.iinc 3 1, 3) := by decide +kernel
theorem dX11_isCircuit_59 : decode cX11_isCircuit 59 = .ok (.goto (-43), 3) := by decide +kernel
theorem dX11_isCircuit_62 : decode cX11_isCircuit 62 = .ok (.iload_n 2, 1) := by decide +kernel
theorem dX11_isCircuit_63 : decode cX11_isCircuit 63 = .ok (.ireturn, 1) := by decide +kernel
theorem dX11_isFlat_0 : decode cX11_isFlat 0 = .ok (.aload_n 0, 1) := by decide +kernel
theorem dX11_isFlat_1 : decode cX11_isFlat 1 = .ok (.iload_n 1, 1) := by decide +kernel
theorem dX11_isFlat_2 : decode cX11_isFlat 2 = .ok (.invokevirtual 34, 3) := by decide +kernel
theorem dX11_isFlat_5 : decode cX11_isFlat 5 = .ok (.iload_n 1, 1) := by decide +kernel
theorem dX11_isFlat_6 : decode cX11_isFlat 6 = .ok (.if_icmp .ne 7, 3) := by decide +kernel
theorem dX11_isFlat_9 : decode cX11_isFlat 9 = .ok (.iconst 1, 1) := by decide +kernel
theorem dX11_isFlat_10 : decode cX11_isFlat 10 = .ok (.goto 4, 3) := by decide +kernel
theorem dX11_isFlat_13 : decode cX11_isFlat 13 = .ok (.iconst 0, 1) := by decide +kernel
theorem dX11_isFlat_14 : decode cX11_isFlat 14 = .ok (.ireturn, 1) := by decide +kernel
theorem dX11_isHyperplane_0 : decode cX11_isHyperplane 0 = .ok (.aload_n 0, 1) := by decide +kernel
theorem dX11_isHyperplane_1 : decode cX11_isHyperplane 1 = .ok (.iload_n 1, 1) := by decide +kernel
theorem dX11_isHyperplane_2 : decode cX11_isHyperplane 2 = .ok (.invokevirtual 37, 3) := by decide +kernel
theorem dX11_isHyperplane_5 : decode cX11_isHyperplane 5 = .ok (.ifCond .eq 22, 3) := by decide +kernel
theorem dX11_isHyperplane_8 : decode cX11_isHyperplane 8 = .ok (.aload_n 0, 1) := by decide +kernel
theorem dX11_isHyperplane_9 : decode cX11_isHyperplane 9 = .ok (.getfield 7, 3) := by decide +kernel
theorem dX11_isHyperplane_12 : decode cX11_isHyperplane 12 = .ok (.iload_n 1, 1) := by decide +kernel
theorem dX11_isHyperplane_13 : decode cX11_isHyperplane 13 = .ok (.iaload, 1) := by decide +kernel
theorem dX11_isHyperplane_14 : decode cX11_isHyperplane 14 = .ok (.aload_n 0, 1) := by decide +kernel
theorem dX11_isHyperplane_15 : decode cX11_isHyperplane 15 = .ok (.invokevirtual 31, 3) := by decide +kernel
theorem dX11_isHyperplane_18 : decode cX11_isHyperplane 18 = .ok (.iconst 1, 1) := by decide +kernel
theorem dX11_isHyperplane_19 : decode cX11_isHyperplane 19 = .ok (.isub, 1) := by decide +kernel
theorem dX11_isHyperplane_20 : decode cX11_isHyperplane 20 = .ok (.if_icmp .ne 7, 3) := by decide +kernel
theorem dX11_isHyperplane_23 : decode cX11_isHyperplane 23 = .ok (.iconst 1, 1) := by decide +kernel
theorem dX11_isHyperplane_24 : decode cX11_isHyperplane 24 = .ok (.goto 4, 3) := by decide +kernel
theorem dX11_isHyperplane_27 : decode cX11_isHyperplane 27 = .ok (.iconst 0, 1) := by decide +kernel
theorem dX11_isHyperplane_28 : decode cX11_isHyperplane 28 = .ok (.ireturn, 1) := by decide +kernel
theorem dX11_is_0 : decode cX11_is 0 = .ok (.iload_n 1, 1) := by decide +kernel
theorem dX11_is_1 : decode cX11_is 1 = .ok (.bipush 105, 2) := by decide +kernel
theorem dX11_is_3 : decode cX11_is 3 = .ok (.if_icmp .ne 11, 3) := by decide +kernel
theorem dX11_is_6 : decode cX11_is 6 = .ok (.aload_n 0, 1) := by decide +kernel
theorem dX11_is_7 : decode cX11_is 7 = .ok (.iload_n 2, 1) := by decide +kernel
theorem dX11_is_8 : decode cX11_is 8 = .ok (.invokevirtual 27, 3) := by decide +kernel
theorem dX11_is_11 : decode cX11_is 11 = .ok (.goto 50, 3) := by decide +kernel
theorem dX11_is_14 : decode cX11_is 14 = .ok (.iload_n 1, 1) := by decide +kernel
theorem dX11_is_15 : decode cX11_is 15 = .ok (.bipush 98, 2) := by decide +kernel
theorem dX11_is_17 : decode cX11_is 17 = .ok (.if_icmp .ne 11, 3) := by decide +kernel
theorem dX11_is_20 : decode cX11_is 20 = .ok (.aload_n 0, 1) := by decide +kernel
theorem dX11_is_21 : decode cX11_is 21 = .ok (.iload_n 2, 1) := by decide +kernel
theorem dX11_is_22 : decode cX11_is 22 = .ok (.invokevirtual 40, 3) := by decide +kernel
theorem dX11_is_25 : decode cX11_is 25 = .ok (.goto 36, 3) := by decide +kernel
theorem dX11_is_28 : decode cX11_is 28 = .ok (.iload_n 1, 1) := by decide +kernel
theorem dX11_is_29 : decode cX11_is 29 = .ok (.bipush 99, 2) := by decide +kernel
theorem dX11_is_31 : decode cX11_is 31 = .ok (.if_icmp .ne 11, 3) := by decide +kernel
theorem dX11_is_34 : decode cX11_is 34 = .ok (.aload_n 0, 1) := by decide +kernel
theorem dX11_is_35 : decode cX11_is 35 = .ok (.iload_n 2, 1) := by decide +kernel
theorem dX11_is_36 : decode cX11_is 36 = .ok (.invokevirtual 43, 3) := by decide +kernel
theorem dX11_is_39 : decode cX11_is 39 = .ok (.goto 22, 3) := by decide +kernel
theorem dX11_is_42 : decode cX11_is 42 = .ok (.iload_n 1, 1) := by decide +kernel
theorem dX11_is_43 : decode cX11_is 43 = .ok (.bipush 102, 2) := by decide +kernel
theorem dX11_is_45 : decode cX11_is 45 = .ok (.if_icmp .ne 11, 3) := by decide +kernel
theorem dX11_is_48 : decode cX11_is 48 = .ok (.aload_n 0, 1) := by decide +kernel
theorem dX11_is_49 : decode cX11_is 49 = .ok (.iload_n 2, 1) := by decide +kernel
theorem dX11_is_50 : decode cX11_is 50 = .ok (.invokevirtual 37, 3) := by decide +kernel
theorem dX11_is_53 : decode cX11_is 53 = .ok (.goto 8, 3) := by decide +kernel
theorem dX11_is_56 : decode cX11_is 56 = .ok (.aload_n 0, 1) := by decide +kernel
theorem dX11_is_57 : decode cX11_is 57 = .ok (.iload_n 2, 1) := by decide +kernel
theorem dX11_is_58 : decode cX11_is 58 = .ok (.invokevirtual 46, 3) := by decide +kernel
theorem dX11_is_61 : decode cX11_is 61 = .ok (.ireturn, 1) := by decide +kernel
theorem dX11_fill_0 : decode cX11_fill 0 = .ok (.iconst 0, 1) := by decide +kernel
theorem dX11_fill_1 : decode cX11_fill 1 = .ok (.istore_n 2, 1) := by decide +kernel
theorem dX11_fill_2 : decode cX11_fill 2 = .ok (.iload_n 2, 1) := by decide +kernel
theorem dX11_fill_3 : decode cX11_fill 3 = .ok (.aload_n 0, 1) := by decide +kernel
theorem dX11_fill_4 : decode cX11_fill 4 = .ok (.invokevirtual 17, 3) := by decide +kernel
theorem dX11_fill_7 : decode cX11_fill 7 = .ok (.if_icmp .gt 81, 3) := by decide +kernel
theorem dX11_fill_10 : decode cX11_fill 10 = .ok (.aload_n 1, 1) := by decide +kernel
theorem dX11_fill_11 : decode cX11_fill 11 = .ok (.iload_n 2, 1) := by decide +kernel
theorem dX11_fill_12 : decode cX11_fill 12 = .ok (.baload, 1) := by decide +kernel
theorem dX11_fill_13 : decode cX11_fill 13 = .ok (.ifCond .eq 10, 3) := by decide +kernel
theorem dX11_fill_16 : decode cX11_fill 16 = .ok (.iload_n 2, 1) := by decide +kernel
theorem dX11_fill_17 : decode cX11_fill 17 = .ok (.invokestatic 21, 3) := by decide +kernel
theorem dX11_fill_20 : decode cX11_fill 20 = .ok (.goto 4, 3) := by decide +kernel
theorem dX11_fill_23 : decode cX11_fill 23 = .ok (.iconst 0, 1) := by decide +kernel
theorem dX11_fill_24 : decode cX11_fill 24 = .ok (.istore_n 3, 1) := by decide +kernel
theorem dX11_fill_25 : decode cX11_fill 25 = .ok (.iconst 0, 1) := by decide +kernel
theorem dX11_fill_26 : decode cX11_fill 26 = .ok (.istore 4, 2) := by decide +kernel
theorem dX11_fill_28 : decode cX11_fill 28 = .ok (.iload 4, 2) := by decide +kernel
theorem dX11_fill_30 : decode cX11_fill 30 = .ok (.aload_n 0, 1) := by decide +kernel
theorem dX11_fill_31 : decode cX11_fill 31 = .ok (.getfield 13, 3) := by decide +kernel
theorem dX11_fill_34 : decode cX11_fill 34 = .ok (.if_icmp .ge 41, 3) := by decide +kernel
theorem dX11_fill_37 : decode cX11_fill 37 = .ok (.iload_n 2, 1) := by decide +kernel
theorem dX11_fill_38 : decode cX11_fill 38 = .ok (.iload 4, 2) := by decide +kernel
theorem dX11_fill_40 : decode cX11_fill 40 = .ok (.ishr, 1) := by decide +kernel
theorem dX11_fill_41 : decode cX11_fill 41 = .ok (.iconst 1, 1) := by decide +kernel
theorem dX11_fill_42 : decode cX11_fill 42 = .ok (.iand, 1) := by decide +kernel
theorem dX11_fill_43 : decode cX11_fill 43 = .ok (.iconst 1, 1) := by decide +kernel
theorem dX11_fill_44 : decode cX11_fill 44 = .ok (.if_icmp .ne 23, 3) := by decide +kernel
theorem dX11_fill_47 : decode cX11_fill 47 = .ok (.iload_n 3, 1) := by decide +kernel
theorem dX11_fill_48 : decode cX11_fill 48 = .ok (.aload_n 0, 1) := by decide +kernel
theorem dX11_fill_49 : decode cX11_fill 49 = .ok (.getfield 7, 3) := by decide +kernel
theorem dX11_fill_52 : decode cX11_fill 52 = .ok (.iload_n 2, 1) := by decide +kernel
theorem dX11_fill_53 : decode cX11_fill 53 = .ok (.iconst 1, 1) := by decide +kernel
theorem dX11_fill_54 : decode cX11_fill 54 = .ok (.iload 4, 2) := by decide +kernel
theorem dX11_fill_56 : decode cX11_fill 56 = .ok (.ishl, 1) := by decide +kernel
theorem dX11_fill_57 : decode cX11_fill 57 = .ok (.iconst (-1), 1) := by decide +kernel
theorem dX11_fill_58 : decode cX11_fill 58 = .ok (.ixor, 1) := by decide +kernel
theorem dX11_fill_59 : decode cX11_fill 59 = .ok (.iand, 1) := by decide +kernel
theorem dX11_fill_60 : decode cX11_fill 60 = .ok (.iaload, 1) := by decide +kernel
theorem dX11_fill_61 : decode cX11_fill 61 = .ok (.invokestatic 49, 3) := by decide +kernel
theorem dX11_fill_64 : decode cX11_fill 64 = .ok (.goto 4, 3) := by decide +kernel
theorem dX11_fill_67 : decode cX11_fill 67 = .ok (.iload_n 3, 1) := by decide +kernel
theorem dX11_fill_68 : decode cX11_fill 68 = .ok (.istore_n 3, 1) := by decide +kernel
theorem dX11_fill_69 : decode cX11_fill 69 = .ok (.iinc 4 1, 3) := by decide +kernel
theorem dX11_fill_72 : decode cX11_fill 72 = .ok (.goto (-44), 3) := by decide +kernel
theorem dX11_fill_75 : decode cX11_fill 75 = .ok (.aload_n 0, 1) := by decide +kernel
theorem dX11_fill_76 : decode cX11_fill 76 = .ok (.getfield 7, 3) := by decide +kernel
theorem dX11_fill_79 : decode cX11_fill 79 = .ok (.iload_n 2, 1) := by decide +kernel
theorem dX11_fill_80 : decode cX11_fill 80 = .ok (.iload_n 3, 1) := by decide +kernel
theorem dX11_fill_81 : decode cX11_fill 81 = .ok (.iastore, 1) := by decide +kernel
theorem dX11_fill_82 : decode cX11_fill 82 = .ok (.iinc 2 1, 3) := by decide +kernel
theorem dX11_fill_85 : decode cX11_fill 85 = .ok (.goto (-83), 3) := by decide +kernel
theorem dX11_fill_88 : decode cX11_fill 88 = .ok (.return_, 1) := by decide +kernel
theorem dJx00060_init_a7421_0 : decode cJx00060_init_a7421 0 = .ok (.aload_n 0, 1) := by decide +kernel
theorem dJx00060_init_a7421_1 : decode cJx00060_init_a7421 1 = .ok (.aload_n 1, 1) := by decide +kernel
theorem dJx00060_init_a7421_2 : decode cJx00060_init_a7421 2 = .ok (.invokespecial 7, 3) := by decide +kernel
theorem dJx00060_init_a7421_5 : decode cJx00060_init_a7421 5 = .ok (.return_, 1) := by decide +kernel
theorem dJ11_isValidCodePoint_9a6ad_0 : decode cJ11_isValidCodePoint_9a6ad 0 = .ok (.iload_n 0, 1) := by decide +kernel
theorem dJ11_isValidCodePoint_9a6ad_1 : decode cJ11_isValidCodePoint_9a6ad 1 = .ok (.bipush 16, 2) := by decide +kernel
theorem dJ11_isValidCodePoint_9a6ad_3 : decode cJ11_isValidCodePoint_9a6ad 3 = .ok (.iushr, 1) := by decide +kernel
theorem dJ11_isValidCodePoint_9a6ad_4 : decode cJ11_isValidCodePoint_9a6ad 4 = .ok (.istore_n 1, 1) := by decide +kernel
theorem dJ11_isValidCodePoint_9a6ad_5 : decode cJ11_isValidCodePoint_9a6ad 5 = .ok (.iload_n 1, 1) := by decide +kernel
theorem dJ11_isValidCodePoint_9a6ad_6 : decode cJ11_isValidCodePoint_9a6ad 6 = .ok (.bipush 17, 2) := by decide +kernel
theorem dJ11_isValidCodePoint_9a6ad_8 : decode cJ11_isValidCodePoint_9a6ad 8 = .ok (.if_icmp .ge 7, 3) := by decide +kernel
theorem dJ11_isValidCodePoint_9a6ad_11 : decode cJ11_isValidCodePoint_9a6ad 11 = .ok (.iconst 1, 1) := by decide +kernel
theorem dJ11_isValidCodePoint_9a6ad_12 : decode cJ11_isValidCodePoint_9a6ad 12 = .ok (.goto 4, 3) := by decide +kernel
theorem dJ11_isValidCodePoint_9a6ad_15 : decode cJ11_isValidCodePoint_9a6ad 15 = .ok (.iconst 0, 1) := by decide +kernel
theorem dJ11_isValidCodePoint_9a6ad_16 : decode cJ11_isValidCodePoint_9a6ad 16 = .ok (.ireturn, 1) := by decide +kernel
theorem dJ11_highSurrogate_5068e_0 : decode cJ11_highSurrogate_5068e 0 = .ok (.iload_n 0, 1) := by decide +kernel
theorem dJ11_highSurrogate_5068e_1 : decode cJ11_highSurrogate_5068e 1 = .ok (.bipush 10, 2) := by decide +kernel
theorem dJ11_highSurrogate_5068e_3 : decode cJ11_highSurrogate_5068e 3 = .ok (.iushr, 1) := by decide +kernel
theorem dJ11_highSurrogate_5068e_4 : decode cJ11_highSurrogate_5068e 4 = .ok (.ldc 110, 2) := by decide +kernel
theorem dJ11_highSurrogate_5068e_6 : decode cJ11_highSurrogate_5068e 6 = .ok (.iadd, 1) := by decide +kernel
theorem dJ11_highSurrogate_5068e_7 : decode cJ11_highSurrogate_5068e 7 = .ok (.i2c, 1) := by decide +kernel
theorem dJ11_highSurrogate_5068e_8 : decode cJ11_highSurrogate_5068e 8 = .ok (.ireturn, 1) := by decide +kernel
theorem dJ11_lowSurrogate_5068e_0 : decode cJ11_lowSurrogate_5068e 0 = .ok (.iload_n 0, 1) := by decide +kernel
theorem dJ11_lowSurrogate_5068e_1 : decode cJ11_lowSurrogate_5068e 1 = .ok (.sipush 1023, 3) := by decide +kernel
theorem dJ11_lowSurrogate_5068e_4 : decode cJ11_lowSurrogate_5068e 4 = .ok (.iand, 1) := by decide +kernel
theorem dJ11_lowSurrogate_5068e_5 : decode cJ11_lowSurrogate_5068e 5 = .ok (.ldc 76, 2) := by decide +kernel
theorem dJ11_lowSurrogate_5068e_7 : decode cJ11_lowSurrogate_5068e 7 = .ok (.iadd, 1) := by decide +kernel
theorem dJ11_lowSurrogate_5068e_8 : decode cJ11_lowSurrogate_5068e 8 = .ok (.i2c, 1) := by decide +kernel
theorem dJ11_lowSurrogate_5068e_9 : decode cJ11_lowSurrogate_5068e 9 = .ok (.ireturn, 1) := by decide +kernel
theorem dJ6_numberOfTrailingZeros_0f7a4_0 : decode cJ6_numberOfTrailingZeros_0f7a4 0 = .ok (.iload_n 0, 1) := by decide +kernel
theorem dJ6_numberOfTrailingZeros_0f7a4_1 : decode cJ6_numberOfTrailingZeros_0f7a4 1 = .ok (.iconst (-1), 1) := by decide +kernel
theorem dJ6_numberOfTrailingZeros_0f7a4_2 : decode cJ6_numberOfTrailingZeros_0f7a4 2 = .ok (.ixor, 1) := by decide +kernel
theorem dJ6_numberOfTrailingZeros_0f7a4_3 : decode cJ6_numberOfTrailingZeros_0f7a4 3 = .ok (.iload_n 0, 1) := by decide +kernel
theorem dJ6_numberOfTrailingZeros_0f7a4_4 : decode cJ6_numberOfTrailingZeros_0f7a4 4 = .ok (.iconst 1, 1) := by decide +kernel
theorem dJ6_numberOfTrailingZeros_0f7a4_5 : decode cJ6_numberOfTrailingZeros_0f7a4 5 = .ok (.isub, 1) := by decide +kernel
theorem dJ6_numberOfTrailingZeros_0f7a4_6 : decode cJ6_numberOfTrailingZeros_0f7a4 6 = .ok (.iand, 1) := by decide +kernel
theorem dJ6_numberOfTrailingZeros_0f7a4_7 : decode cJ6_numberOfTrailingZeros_0f7a4 7 = .ok (.istore_n 0, 1) := by decide +kernel
theorem dJ6_numberOfTrailingZeros_0f7a4_8 : decode cJ6_numberOfTrailingZeros_0f7a4 8 = .ok (.iload_n 0, 1) := by decide +kernel
theorem dJ6_numberOfTrailingZeros_0f7a4_9 : decode cJ6_numberOfTrailingZeros_0f7a4 9 = .ok (.ifCond .gt 8, 3) := by decide +kernel
theorem dJ6_numberOfTrailingZeros_0f7a4_12 : decode cJ6_numberOfTrailingZeros_0f7a4 12 = .ok (.iload_n 0, 1) := by decide +kernel
theorem dJ6_numberOfTrailingZeros_0f7a4_13 : decode cJ6_numberOfTrailingZeros_0f7a4 13 = .ok (.bipush 32, 2) := by decide +kernel
theorem dJ6_numberOfTrailingZeros_0f7a4_15 : decode cJ6_numberOfTrailingZeros_0f7a4 15 = .ok (.iand, 1) := by decide +kernel
theorem dJ6_numberOfTrailingZeros_0f7a4_16 : decode cJ6_numberOfTrailingZeros_0f7a4 16 = .ok (.ireturn, 1) := by decide +kernel
theorem dJ6_numberOfTrailingZeros_0f7a4_17 : decode cJ6_numberOfTrailingZeros_0f7a4 17 = .ok (.iconst 1, 1) := by decide +kernel
theorem dJ6_numberOfTrailingZeros_0f7a4_18 : decode cJ6_numberOfTrailingZeros_0f7a4 18 = .ok (.istore_n 1, 1) := by decide +kernel
theorem dJ6_numberOfTrailingZeros_0f7a4_19 : decode cJ6_numberOfTrailingZeros_0f7a4 19 = .ok (.iload_n 0, 1) := by decide +kernel
theorem dJ6_numberOfTrailingZeros_0f7a4_20 : decode cJ6_numberOfTrailingZeros_0f7a4 20 = .ok (.ldc_w 264, 3) := by decide +kernel
theorem dJ6_numberOfTrailingZeros_0f7a4_23 : decode cJ6_numberOfTrailingZeros_0f7a4 23 = .ok (.if_icmp .le 11, 3) := by decide +kernel
theorem dJ6_numberOfTrailingZeros_0f7a4_26 : decode cJ6_numberOfTrailingZeros_0f7a4 26 = .ok (.iinc 1 16, 3) := by decide +kernel
theorem dJ6_numberOfTrailingZeros_0f7a4_29 : decode cJ6_numberOfTrailingZeros_0f7a4 29 = .ok (.iload_n 0, 1) := by decide +kernel
theorem dJ6_numberOfTrailingZeros_0f7a4_30 : decode cJ6_numberOfTrailingZeros_0f7a4 30 = .ok (.bipush 16, 2) := by decide +kernel
theorem dJ6_numberOfTrailingZeros_0f7a4_32 : decode cJ6_numberOfTrailingZeros_0f7a4 32 = .ok (.iushr, 1) := by decide +kernel
theorem dJ6_numberOfTrailingZeros_0f7a4_33 : decode cJ6_numberOfTrailingZeros_0f7a4 33 = .ok (.istore_n 0, 1) := by decide +kernel
theorem dJ6_numberOfTrailingZeros_0f7a4_34 : decode cJ6_numberOfTrailingZeros_0f7a4 34 = .ok (.iload_n 0, 1) := by decide +kernel
theorem dJ6_numberOfTrailingZeros_0f7a4_35 : decode cJ6_numberOfTrailingZeros_0f7a4 35 = .ok (.sipush 256, 3) := by decide +kernel
theorem dJ6_numberOfTrailingZeros_0f7a4_38 : decode cJ6_numberOfTrailingZeros_0f7a4 38 = .ok (.if_icmp .le 11, 3) := by decide +kernel
theorem dJ6_numberOfTrailingZeros_0f7a4_41 : decode cJ6_numberOfTrailingZeros_0f7a4 41 = .ok (.iinc 1 8, 3) := by decide +kernel
theorem dJ6_numberOfTrailingZeros_0f7a4_44 : decode cJ6_numberOfTrailingZeros_0f7a4 44 = .ok (.iload_n 0, 1) := by decide +kernel
theorem dJ6_numberOfTrailingZeros_0f7a4_45 : decode cJ6_numberOfTrailingZeros_0f7a4 45 = .ok (.bipush 8, 2) := by decide +kernel
theorem dJ6_numberOfTrailingZeros_0f7a4_47 : decode cJ6_numberOfTrailingZeros_0f7a4 47 = .ok (.iushr, 1) := by decide +kernel
theorem dJ6_numberOfTrailingZeros_0f7a4_48 : decode cJ6_numberOfTrailingZeros_0f7a4 48 = .ok (.istore_n 0, 1) := by decide +kernel
theorem dJ6_numberOfTrailingZeros_0f7a4_49 : decode cJ6_numberOfTrailingZeros_0f7a4 49 = .ok (.iload_n 0, 1) := by decide +kernel
theorem dJ6_numberOfTrailingZeros_0f7a4_50 : decode cJ6_numberOfTrailingZeros_0f7a4 50 = .ok (.bipush 16, 2) := by decide +kernel
theorem dJ6_numberOfTrailingZeros_0f7a4_52 : decode cJ6_numberOfTrailingZeros_0f7a4 52 = .ok (.if_icmp .le 10, 3) := by decide +kernel
theorem dJ6_numberOfTrailingZeros_0f7a4_55 : decode cJ6_numberOfTrailingZeros_0f7a4 55 = .ok (.iinc 1 4, 3) := by decide +kernel
theorem dJ6_numberOfTrailingZeros_0f7a4_58 : decode cJ6_numberOfTrailingZeros_0f7a4 58 = .ok (.iload_n 0, 1) := by decide +kernel
theorem dJ6_numberOfTrailingZeros_0f7a4_59 : decode cJ6_numberOfTrailingZeros_0f7a4 59 = .ok (.iconst 4, 1) := by decide +kernel
theorem dJ6_numberOfTrailingZeros_0f7a4_60 : decode cJ6_numberOfTrailingZeros_0f7a4 60 = .ok (.iushr, 1) := by decide +kernel
theorem dJ6_numberOfTrailingZeros_0f7a4_61 : decode cJ6_numberOfTrailingZeros_0f7a4 61 = .ok (.istore_n 0, 1) := by decide +kernel
theorem dJ6_numberOfTrailingZeros_0f7a4_62 : decode cJ6_numberOfTrailingZeros_0f7a4 62 = .ok (.iload_n 0, 1) := by decide +kernel
theorem dJ6_numberOfTrailingZeros_0f7a4_63 : decode cJ6_numberOfTrailingZeros_0f7a4 63 = .ok (.iconst 4, 1) := by decide +kernel
theorem dJ6_numberOfTrailingZeros_0f7a4_64 : decode cJ6_numberOfTrailingZeros_0f7a4 64 = .ok (.if_icmp .le 10, 3) := by decide +kernel
theorem dJ6_numberOfTrailingZeros_0f7a4_67 : decode cJ6_numberOfTrailingZeros_0f7a4 67 = .ok (.iinc 1 2, 3) := by decide +kernel
theorem dJ6_numberOfTrailingZeros_0f7a4_70 : decode cJ6_numberOfTrailingZeros_0f7a4 70 = .ok (.iload_n 0, 1) := by decide +kernel
theorem dJ6_numberOfTrailingZeros_0f7a4_71 : decode cJ6_numberOfTrailingZeros_0f7a4 71 = .ok (.iconst 2, 1) := by decide +kernel
theorem dJ6_numberOfTrailingZeros_0f7a4_72 : decode cJ6_numberOfTrailingZeros_0f7a4 72 = .ok (.iushr, 1) := by decide +kernel
theorem dJ6_numberOfTrailingZeros_0f7a4_73 : decode cJ6_numberOfTrailingZeros_0f7a4 73 = .ok (.istore_n 0, 1) := by decide +kernel
theorem dJ6_numberOfTrailingZeros_0f7a4_74 : decode cJ6_numberOfTrailingZeros_0f7a4 74 = .ok (.iload_n 1, 1) := by decide +kernel
theorem dJ6_numberOfTrailingZeros_0f7a4_75 : decode cJ6_numberOfTrailingZeros_0f7a4 75 = .ok (.iload_n 0, 1) := by decide +kernel
theorem dJ6_numberOfTrailingZeros_0f7a4_76 : decode cJ6_numberOfTrailingZeros_0f7a4 76 = .ok (.iconst 1, 1) := by decide +kernel
theorem dJ6_numberOfTrailingZeros_0f7a4_77 : decode cJ6_numberOfTrailingZeros_0f7a4 77 = .ok (.iushr, 1) := by decide +kernel
theorem dJ6_numberOfTrailingZeros_0f7a4_78 : decode cJ6_numberOfTrailingZeros_0f7a4 78 = .ok (.iadd, 1) := by decide +kernel
theorem dJ6_numberOfTrailingZeros_0f7a4_79 : decode cJ6_numberOfTrailingZeros_0f7a4 79 = .ok (.ireturn, 1) := by decide +kernel
theorem dJ6_bitCount_0f7a4_0 : decode cJ6_bitCount_0f7a4 0 = .ok (.iload_n 0, 1) := by decide +kernel
theorem dJ6_bitCount_0f7a4_1 : decode cJ6_bitCount_0f7a4 1 = .ok (.iload_n 0, 1) := by decide +kernel
theorem dJ6_bitCount_0f7a4_2 : decode cJ6_bitCount_0f7a4 2 = .ok (.iconst 1, 1) := by decide +kernel
theorem dJ6_bitCount_0f7a4_3 : decode cJ6_bitCount_0f7a4 3 = .ok (.iushr, 1) := by decide +kernel
theorem dJ6_bitCount_0f7a4_4 : decode cJ6_bitCount_0f7a4 4 = .ok (.ldc_w 265, 3) := by decide +kernel
theorem dJ6_bitCount_0f7a4_7 : decode cJ6_bitCount_0f7a4 7 = .ok (.iand, 1) := by decide +kernel
theorem dJ6_bitCount_0f7a4_8 : decode cJ6_bitCount_0f7a4 8 = .ok (.isub, 1) := by decide +kernel
theorem dJ6_bitCount_0f7a4_9 : decode cJ6_bitCount_0f7a4 9 = .ok (.istore_n 0, 1) := by decide +kernel
theorem dJ6_bitCount_0f7a4_10 : decode cJ6_bitCount_0f7a4 10 = .ok (.iload_n 0, 1) := by decide +kernel
theorem dJ6_bitCount_0f7a4_11 : decode cJ6_bitCount_0f7a4 11 = .ok (.ldc_w 266, 3) := by decide +kernel
theorem dJ6_bitCount_0f7a4_14 : decode cJ6_bitCount_0f7a4 14 = .ok (.iand, 1) := by decide +kernel
theorem dJ6_bitCount_0f7a4_15 : decode cJ6_bitCount_0f7a4 15 = .ok (.iload_n 0, 1) := by decide +kernel
theorem dJ6_bitCount_0f7a4_16 : decode cJ6_bitCount_0f7a4 16 = .ok (.iconst 2, 1) := by decide +kernel
theorem dJ6_bitCount_0f7a4_17 : decode cJ6_bitCount_0f7a4 17 = .ok (.iushr, 1) := by decide +kernel
theorem dJ6_bitCount_0f7a4_18 : decode cJ6_bitCount_0f7a4 18 = .ok (.ldc_w 266, 3) := by decide +kernel
theorem dJ6_bitCount_0f7a4_21 : decode cJ6_bitCount_0f7a4 21 = .ok (.iand, 1) := by decide +kernel
theorem dJ6_bitCount_0f7a4_22 : decode cJ6_bitCount_0f7a4 22 = .ok (.iadd, 1) := by decide +kernel
theorem dJ6_bitCount_0f7a4_23 : decode cJ6_bitCount_0f7a4 23 = .ok (.istore_n 0, 1) := by decide +kernel
theorem dJ6_bitCount_0f7a4_24 : decode cJ6_bitCount_0f7a4 24 = .ok (.iload_n 0, 1) := by decide +kernel
theorem dJ6_bitCount_0f7a4_25 : decode cJ6_bitCount_0f7a4 25 = .ok (.iload_n 0, 1) := by decide +kernel
theorem dJ6_bitCount_0f7a4_26 : decode cJ6_bitCount_0f7a4 26 = .ok (.iconst 4, 1) := by decide +kernel
theorem dJ6_bitCount_0f7a4_27 : decode cJ6_bitCount_0f7a4 27 = .ok (.iushr, 1) := by decide +kernel
theorem dJ6_bitCount_0f7a4_28 : decode cJ6_bitCount_0f7a4 28 = .ok (.iadd, 1) := by decide +kernel
theorem dJ6_bitCount_0f7a4_29 : decode cJ6_bitCount_0f7a4 29 = .ok (.ldc_w 267, 3) := by decide +kernel
theorem dJ6_bitCount_0f7a4_32 : decode cJ6_bitCount_0f7a4 32 = .ok (.iand, 1) := by decide +kernel
theorem dJ6_bitCount_0f7a4_33 : decode cJ6_bitCount_0f7a4 33 = .ok (.istore_n 0, 1) := by decide +kernel
theorem dJ6_bitCount_0f7a4_34 : decode cJ6_bitCount_0f7a4 34 = .ok (.iload_n 0, 1) := by decide +kernel
theorem dJ6_bitCount_0f7a4_35 : decode cJ6_bitCount_0f7a4 35 = .ok (.iload_n 0, 1) := by decide +kernel
theorem dJ6_bitCount_0f7a4_36 : decode cJ6_bitCount_0f7a4 36 = .ok (.bipush 8, 2) := by decide +kernel
theorem dJ6_bitCount_0f7a4_38 : decode cJ6_bitCount_0f7a4 38 = .ok (.iushr, 1) := by decide +kernel
theorem dJ6_bitCount_0f7a4_39 : decode cJ6_bitCount_0f7a4 39 = .ok (.iadd, 1) := by decide +kernel
theorem dJ6_bitCount_0f7a4_40 : decode cJ6_bitCount_0f7a4 40 = .ok (.istore_n 0, 1) := by decide +kernel
theorem dJ6_bitCount_0f7a4_41 : decode cJ6_bitCount_0f7a4 41 = .ok (.iload_n 0, 1) := by decide +kernel
theorem dJ6_bitCount_0f7a4_42 : decode cJ6_bitCount_0f7a4 42 = .ok (.iload_n 0, 1) := by decide +kernel
theorem dJ6_bitCount_0f7a4_43 : decode cJ6_bitCount_0f7a4 43 = .ok (.bipush 16, 2) := by decide +kernel
theorem dJ6_bitCount_0f7a4_45 : decode cJ6_bitCount_0f7a4 45 = .ok (.iushr, 1) := by decide +kernel
theorem dJ6_bitCount_0f7a4_46 : decode cJ6_bitCount_0f7a4 46 = .ok (.iadd, 1) := by decide +kernel
theorem dJ6_bitCount_0f7a4_47 : decode cJ6_bitCount_0f7a4 47 = .ok (.istore_n 0, 1) := by decide +kernel
theorem dJ6_bitCount_0f7a4_48 : decode cJ6_bitCount_0f7a4 48 = .ok (.iload_n 0, 1) := by decide +kernel
theorem dJ6_bitCount_0f7a4_49 : decode cJ6_bitCount_0f7a4 49 = .ok (.bipush 63, 2) := by decide +kernel
theorem dJ6_bitCount_0f7a4_51 : decode cJ6_bitCount_0f7a4 51 = .ok (.iand, 1) := by decide +kernel
theorem dJ6_bitCount_0f7a4_52 : decode cJ6_bitCount_0f7a4 52 = .ok (.ireturn, 1) := by decide +kernel
theorem dJ9_floorMod_7cf53_0 : decode cJ9_floorMod_7cf53 0 = .ok (.iload_n 0, 1) := by decide +kernel
theorem dJ9_floorMod_7cf53_1 : decode cJ9_floorMod_7cf53 1 = .ok (.iload_n 1, 1) := by decide +kernel
theorem dJ9_floorMod_7cf53_2 : decode cJ9_floorMod_7cf53 2 = .ok (.irem, 1) := by decide +kernel
theorem dJ9_floorMod_7cf53_3 : decode cJ9_floorMod_7cf53 3 = .ok (.istore_n 2, 1) := by decide +kernel
theorem dJ9_floorMod_7cf53_4 : decode cJ9_floorMod_7cf53 4 = .ok (.iload_n 0, 1) := by decide +kernel
theorem dJ9_floorMod_7cf53_5 : decode cJ9_floorMod_7cf53 5 = .ok (.iload_n 1, 1) := by decide +kernel
theorem dJ9_floorMod_7cf53_6 : decode cJ9_floorMod_7cf53 6 = .ok (.ixor, 1) := by decide +kernel
theorem dJ9_floorMod_7cf53_7 : decode cJ9_floorMod_7cf53 7 = .ok (.ifCond .ge 11, 3) := by decide +kernel
theorem dJ9_floorMod_7cf53_10 : decode cJ9_floorMod_7cf53 10 = .ok (.iload_n 2, 1) := by decide +kernel
theorem dJ9_floorMod_7cf53_11 : decode cJ9_floorMod_7cf53 11 = .ok (.ifCond .eq 7, 3) := by decide +kernel
theorem dJ9_floorMod_7cf53_14 : decode cJ9_floorMod_7cf53 14 = .ok (.iload_n 2, 1) := by decide +kernel
theorem dJ9_floorMod_7cf53_15 : decode cJ9_floorMod_7cf53 15 = .ok (.iload_n 1, 1) := by decide +kernel
theorem dJ9_floorMod_7cf53_16 : decode cJ9_floorMod_7cf53 16 = .ok (.iadd, 1) := by decide +kernel
theorem dJ9_floorMod_7cf53_17 : decode cJ9_floorMod_7cf53 17 = .ok (.ireturn, 1) := by decide +kernel
theorem dJ9_floorMod_7cf53_18 : decode cJ9_floorMod_7cf53 18 = .ok (.iload_n 2, 1) := by decide +kernel
theorem dJ9_floorMod_7cf53_19 : decode cJ9_floorMod_7cf53 19 = .ok (.ireturn, 1) := by decide +kernel
theorem dJ9_max_7cf53_0 : decode cJ9_max_7cf53 0 = .ok (.iload_n 0, 1) := by decide +kernel
theorem dJ9_max_7cf53_1 : decode cJ9_max_7cf53 1 = .ok (.iload_n 1, 1) := by decide +kernel
theorem dJ9_max_7cf53_2 : decode cJ9_max_7cf53 2 = .ok (.if_icmp .lt 7, 3) := by decide +kernel
theorem dJ9_max_7cf53_5 : decode cJ9_max_7cf53 5 = .ok (.iload_n 0, 1) := by decide +kernel
theorem dJ9_max_7cf53_6 : decode cJ9_max_7cf53 6 = .ok (.goto 4, 3) := by decide +kernel
theorem dJ9_max_7cf53_9 : decode cJ9_max_7cf53 9 = .ok (.iload_n 1, 1) := by decide +kernel
theorem dJ9_max_7cf53_10 : decode cJ9_max_7cf53 10 = .ok (.ireturn, 1) := by decide +kernel
theorem dJ9_min_7cf53_0 : decode cJ9_min_7cf53 0 = .ok (.iload_n 0, 1) := by decide +kernel
theorem dJ9_min_7cf53_1 : decode cJ9_min_7cf53 1 = .ok (.iload_n 1, 1) := by decide +kernel
theorem dJ9_min_7cf53_2 : decode cJ9_min_7cf53 2 = .ok (.if_icmp .gt 7, 3) := by decide +kernel
theorem dJ9_min_7cf53_5 : decode cJ9_min_7cf53 5 = .ok (.iload_n 0, 1) := by decide +kernel
theorem dJ9_min_7cf53_6 : decode cJ9_min_7cf53 6 = .ok (.goto 4, 3) := by decide +kernel
theorem dJ9_min_7cf53_9 : decode cJ9_min_7cf53 9 = .ok (.iload_n 1, 1) := by decide +kernel
theorem dJ9_min_7cf53_10 : decode cJ9_min_7cf53 10 = .ok (.ireturn, 1) := by decide +kernel
theorem dJ0_length_8abf5_0 : decode cJ0_length_8abf5 0 = .ok (.aload_n 0, 1) := by decide +kernel
theorem dJ0_length_8abf5_1 : decode cJ0_length_8abf5 1 = .ok (.getfield 9, 3) := by decide +kernel
theorem dJ0_length_8abf5_4 : decode cJ0_length_8abf5 4 = .ok (.arraylength, 1) := by decide +kernel
theorem dJ0_length_8abf5_5 : decode cJ0_length_8abf5 5 = .ok (.aload_n 0, 1) := by decide +kernel
theorem dJ0_length_8abf5_6 : decode cJ0_length_8abf5 6 = .ok (.invokevirtual 335, 3) := by decide +kernel
theorem dJ0_length_8abf5_9 : decode cJ0_length_8abf5 9 = .ok (.ishr, 1) := by decide +kernel
theorem dJ0_length_8abf5_10 : decode cJ0_length_8abf5 10 = .ok (.ireturn, 1) := by decide +kernel
theorem dJ0_indexOf_0f7a4_0 : decode cJ0_indexOf_0f7a4 0 = .ok (.aload_n 0, 1) := by decide +kernel
theorem dJ0_indexOf_0f7a4_1 : decode cJ0_indexOf_0f7a4 1 = .ok (.iload_n 1, 1) := by decide +kernel
theorem dJ0_indexOf_0f7a4_2 : decode cJ0_indexOf_0f7a4 2 = .ok (.iconst 0, 1) := by decide +kernel
theorem dJ0_indexOf_0f7a4_3 : decode cJ0_indexOf_0f7a4 3 = .ok (.invokevirtual 633, 3) := by decide +kernel
theorem dJ0_indexOf_0f7a4_6 : decode cJ0_indexOf_0f7a4 6 = .ok (.ireturn, 1) := by decide +kernel
theorem dJ0_indexOf_7cf53_0 : decode cJ0_indexOf_7cf53 0 = .ok (.aload_n 0, 1) := by decide +kernel
theorem dJ0_indexOf_7cf53_1 : decode cJ0_indexOf_7cf53 1 = .ok (.invokevirtual 492, 3) := by decide +kernel
theorem dJ0_indexOf_7cf53_4 : decode cJ0_indexOf_7cf53 4 = .ok (.ifCond .eq 19, 3) := by decide +kernel
theorem dJ0_indexOf_7cf53_7 : decode cJ0_indexOf_7cf53 7 = .ok (.aload_n 0, 1) := by decide +kernel
theorem dJ0_indexOf_7cf53_8 : decode cJ0_indexOf_7cf53 8 = .ok (.getfield 9, 3) := by decide +kernel
theorem dJ0_indexOf_7cf53_11 : decode cJ0_indexOf_7cf53 11 = .ok (.iload_n 1, 1) := by decide +kernel
theorem dJ0_indexOf_7cf53_12 : decode cJ0_indexOf_7cf53 12 = .ok (.iload_n 2, 1) := by decide +kernel
theorem dJ0_indexOf_7cf53_13 : decode cJ0_indexOf_7cf53 13 = .ok (.aload_n 0, 1) := by decide +kernel
theorem dJ0_indexOf_7cf53_14 : decode cJ0_indexOf_7cf53 14 = .ok (.invokevirtual 505, 3) := by decide +kernel
theorem dJ0_indexOf_7cf53_17 : decode cJ0_indexOf_7cf53 17 = .ok (.invokestatic 637, 3) := by decide +kernel
theorem dJ0_indexOf_7cf53_20 : decode cJ0_indexOf_7cf53 20 = .ok (.goto 16, 3) := by decide +kernel
theorem dJ0_indexOf_7cf53_23 : decode cJ0_indexOf_7cf53 23 = .ok (.aload_n 0, 1) := by decide +kernel
theorem dJ0_indexOf_7cf53_24 : decode cJ0_indexOf_7cf53 24 = .ok (.getfield 9, 3) := by decide +kernel
theorem dJ0_indexOf_7cf53_27 : decode cJ0_indexOf_7cf53 27 = .ok (.iload_n 1, 1) := by decide +kernel
theorem dJ0_indexOf_7cf53_28 : decode cJ0_indexOf_7cf53 28 = .ok (.iload_n 2, 1) := by decide +kernel
theorem dJ0_indexOf_7cf53_29 : decode cJ0_indexOf_7cf53 29 = .ok (.aload_n 0, 1) := by decide +kernel
theorem dJ0_indexOf_7cf53_30 : decode cJ0_indexOf_7cf53 30 = .ok (.invokevirtual 505, 3) := by decide +kernel
theorem dJ0_indexOf_7cf53_33 : decode cJ0_indexOf_7cf53 33 = .ok (.invokestatic 640, 3) := by decide +kernel
theorem dJ0_indexOf_7cf53_36 : decode cJ0_indexOf_7cf53 36 = .ok (.ireturn, 1) := by decide +kernel
theorem dJ0_coder_7d493_0 : decode cJ0_coder_7d493 0 = .ok (.getstatic 38, 3) := by decide +kernel
theorem dJ0_coder_7d493_3 : decode cJ0_coder_7d493 3 = .ok (.ifCond .eq 10, 3) := by decide +kernel
theorem dJ0_coder_7d493_6 : decode cJ0_coder_7d493 6 = .ok (.aload_n 0, 1) := by decide +kernel
theorem dJ0_coder_7d493_7 : decode cJ0_coder_7d493 7 = .ok (.getfield 15, 3) := by decide +kernel
theorem dJ0_coder_7d493_10 : decode cJ0_coder_7d493 10 = .ok (.goto 4, 3) := by decide +kernel
theorem dJ0_coder_7d493_13 : decode cJ0_coder_7d493 13 = .ok (.iconst 1, 1) := by decide +kernel
theorem dJ0_coder_7d493_14 : decode cJ0_coder_7d493 14 = .ok (.ireturn, 1) := by decide +kernel
theorem dJ0_isLatin1_aae02_0 : decode cJ0_isLatin1_aae02 0 = .ok (.getstatic 38, 3) := by decide +kernel
theorem dJ0_isLatin1_aae02_3 : decode cJ0_isLatin1_aae02 3 = .ok (.ifCond .eq 14, 3) := by decide +kernel
theorem dJ0_isLatin1_aae02_6 : decode cJ0_isLatin1_aae02 6 = .ok (.aload_n 0, 1) := by decide +kernel
theorem dJ0_isLatin1_aae02_7 : decode cJ0_isLatin1_aae02 7 = .ok (.getfield 15, 3) := by decide +kernel
theorem dJ0_isLatin1_aae02_10 : decode cJ0_isLatin1_aae02 10 = .ok (.ifCond .ne 7, 3) := by decide +kernel
theorem dJ0_isLatin1_aae02_13 : decode cJ0_isLatin1_aae02 13 = .ok (.iconst 1, 1) := by decide +kernel
theorem dJ0_isLatin1_aae02_14 : decode cJ0_isLatin1_aae02 14 = .ok (.goto 4, 3) := by decide +kernel
theorem dJ0_isLatin1_aae02_17 : decode cJ0_isLatin1_aae02 17 = .ok (.iconst 0, 1) := by decide +kernel
theorem dJ0_isLatin1_aae02_18 : decode cJ0_isLatin1_aae02 18 = .ok (.ireturn, 1) := by decide +kernel
theorem dJ0_checkBoundsBeginEnd_23922_0 : decode cJ0_checkBoundsBeginEnd_23922 0 = .ok (.iload_n 0, 1) := by decide +kernel
theorem dJ0_checkBoundsBeginEnd_23922_1 : decode cJ0_checkBoundsBeginEnd_23922 1 = .ok (.iload_n 1, 1) := by decide +kernel
theorem dJ0_checkBoundsBeginEnd_23922_2 : decode cJ0_checkBoundsBeginEnd_23922 2 = .ok (.iload_n 2, 1) := by decide +kernel
theorem dJ0_checkBoundsBeginEnd_23922_3 : decode cJ0_checkBoundsBeginEnd_23922 3 = .ok (.getstatic 1053, 3) := by decide +kernel
theorem dJ0_checkBoundsBeginEnd_23922_6 : decode cJ0_checkBoundsBeginEnd_23922 6 = .ok (.invokestatic 1062, 3) := by decide +kernel
theorem dJ0_checkBoundsBeginEnd_23922_9 : decode cJ0_checkBoundsBeginEnd_23922 9 = .ok (.pop, 1) := by decide +kernel
theorem dJ0_checkBoundsBeginEnd_23922_10 : decode cJ0_checkBoundsBeginEnd_23922 10 = .ok (.return_, 1) := by decide +kernel
theorem dJ1_canEncode_9a6ad_0 : decode cJ1_canEncode_9a6ad 0 = .ok (.iload_n 0, 1) := by decide +kernel
theorem dJ1_canEncode_9a6ad_1 : decode cJ1_canEncode_9a6ad 1 = .ok (.ifCond .lt 14, 3) := by decide +kernel
theorem dJ1_canEncode_9a6ad_4 : decode cJ1_canEncode_9a6ad 4 = .ok (.iload_n 0, 1) := by decide +kernel
theorem dJ1_canEncode_9a6ad_5 : decode cJ1_canEncode_9a6ad 5 = .ok (.sipush 255, 3) := by decide +kernel
theorem dJ1_canEncode_9a6ad_8 : decode cJ1_canEncode_9a6ad 8 = .ok (.if_icmp .gt 7, 3) := by decide +kernel
theorem dJ1_canEncode_9a6ad_11 : decode cJ1_canEncode_9a6ad 11 = .ok (.iconst 1, 1) := by decide +kernel
theorem dJ1_canEncode_9a6ad_12 : decode cJ1_canEncode_9a6ad 12 = .ok (.goto 4, 3) := by decide +kernel
theorem dJ1_canEncode_9a6ad_15 : decode cJ1_canEncode_9a6ad 15 = .ok (.iconst 0, 1) := by decide +kernel
theorem dJ1_canEncode_9a6ad_16 : decode cJ1_canEncode_9a6ad 16 = .ok (.ireturn, 1) := by decide +kernel
theorem dJ1_indexOf_4cfef_0 : decode cJ1_indexOf_4cfef 0 = .ok (.iload_n 1, 1) := by decide +kernel
theorem dJ1_indexOf_4cfef_1 : decode cJ1_indexOf_4cfef 1 = .ok (.invokestatic 88, 3) := by decide +kernel
theorem dJ1_indexOf_4cfef_4 : decode cJ1_indexOf_4cfef 4 = .ok (.ifCond .ne 5, 3) := by decide +kernel
theorem dJ1_indexOf_4cfef_7 : decode cJ1_indexOf_4cfef 7 = .ok (.iconst (-1), 1) := by decide +kernel
theorem dJ1_indexOf_4cfef_8 : decode cJ1_indexOf_4cfef 8 = .ok (.ireturn, 1) := by decide +kernel
theorem dJ1_indexOf_4cfef_9 : decode cJ1_indexOf_4cfef 9 = .ok (.iload_n 2, 1) := by decide +kernel
theorem dJ1_indexOf_4cfef_10 : decode cJ1_indexOf_4cfef 10 = .ok (.iconst 0, 1) := by decide +kernel
theorem dJ1_indexOf_4cfef_11 : decode cJ1_indexOf_4cfef 11 = .ok (.invokestatic 92, 3) := by decide +kernel
theorem dJ1_indexOf_4cfef_14 : decode cJ1_indexOf_4cfef 14 = .ok (.istore_n 2, 1) := by decide +kernel
theorem dJ1_indexOf_4cfef_15 : decode cJ1_indexOf_4cfef 15 = .ok (.iload_n 3, 1) := by decide +kernel
theorem dJ1_indexOf_4cfef_16 : decode cJ1_indexOf_4cfef 16 = .ok (.aload_n 0, 1) := by decide +kernel
theorem dJ1_indexOf_4cfef_17 : decode cJ1_indexOf_4cfef 17 = .ok (.arraylength, 1) := by decide +kernel
theorem dJ1_indexOf_4cfef_18 : decode cJ1_indexOf_4cfef 18 = .ok (.invokestatic 38, 3) := by decide +kernel
theorem dJ1_indexOf_4cfef_21 : decode cJ1_indexOf_4cfef 21 = .ok (.istore_n 3, 1) := by decide +kernel
theorem dJ1_indexOf_4cfef_22 : decode cJ1_indexOf_4cfef 22 = .ok (.iload_n 2, 1) := by decide +kernel
theorem dJ1_indexOf_4cfef_23 : decode cJ1_indexOf_4cfef 23 = .ok (.iload_n 3, 1) := by decide +kernel
theorem dJ1_indexOf_4cfef_24 : decode cJ1_indexOf_4cfef 24 = .ok (.if_icmp .lt 5, 3) := by decide +kernel
theorem dJ1_indexOf_4cfef_27 : decode cJ1_indexOf_4cfef 27 = .ok (.iconst (-1), 1) := by decide +kernel
theorem dJ1_indexOf_4cfef_28 : decode cJ1_indexOf_4cfef 28 = .ok (.ireturn, 1) := by decide +kernel
theorem dJ1_indexOf_4cfef_29 : decode cJ1_indexOf_4cfef 29 = .ok (.aload_n 0, 1) := by decide +kernel
theorem dJ1_indexOf_4cfef_30 : decode cJ1_indexOf_4cfef 30 = .ok (.iload_n 1, 1) := by decide +kernel
theorem dJ1_indexOf_4cfef_31 : decode cJ1_indexOf_4cfef 31 = .ok (.iload_n 2, 1) := by decide +kernel
theorem dJ1_indexOf_4cfef_32 : decode cJ1_indexOf_4cfef 32 = .ok (.iload_n 3, 1) := by decide +kernel
theorem dJ1_indexOf_4cfef_33 : decode cJ1_indexOf_4cfef 33 = .ok (.invokestatic 95, 3) := by decide +kernel
theorem dJ1_indexOf_4cfef_36 : decode cJ1_indexOf_4cfef 36 = .ok (.ireturn, 1) := by decide +kernel
theorem dJ1_indexOfChar_4cfef_0 : decode cJ1_indexOfChar_4cfef 0 = .ok (.iload_n 1, 1) := by decide +kernel
theorem dJ1_indexOfChar_4cfef_1 : decode cJ1_indexOfChar_4cfef 1 = .ok (.i2b, 1) := by decide +kernel
theorem dJ1_indexOfChar_4cfef_2 : decode cJ1_indexOfChar_4cfef 2 = .ok (.istore 4, 2) := by decide +kernel
theorem dJ1_indexOfChar_4cfef_4 : decode cJ1_indexOfChar_4cfef 4 = .ok (.iload_n 2, 1) := by decide +kernel
theorem dJ1_indexOfChar_4cfef_5 : decode cJ1_indexOfChar_4cfef 5 = .ok (.istore 5, 2) := by decide +kernel
theorem dJ1_indexOfChar_4cfef_7 : decode cJ1_indexOfChar_4cfef 7 = .ok (.iload 5, 2) := by decide +kernel
theorem dJ1_indexOfChar_4cfef_9 : decode cJ1_indexOfChar_4cfef 9 = .ok (.iload_n 3, 1) := by decide +kernel
theorem dJ1_indexOfChar_4cfef_10 : decode cJ1_indexOfChar_4cfef 10 = .ok (.if_icmp .ge 21, 3) := by decide +kernel
theorem dJ1_indexOfChar_4cfef_13 : decode cJ1_indexOfChar_4cfef 13 = .ok (.aload_n 0, 1) := by decide +kernel
theorem dJ1_indexOfChar_4cfef_14 : decode cJ1_indexOfChar_4cfef 14 = .ok (.iload 5, 2) := by decide +kernel
theorem dJ1_indexOfChar_4cfef_16 : decode cJ1_indexOfChar_4cfef 16 = .ok (.baload, 1) := by decide +kernel
theorem dJ1_indexOfChar_4cfef_17 : decode cJ1_indexOfChar_4cfef 17 = .ok (.iload 4, 2) := by decide +kernel
theorem dJ1_indexOfChar_4cfef_19 : decode cJ1_indexOfChar_4cfef 19 = .ok (.if_icmp .ne 6, 3) := by decide +kernel
theorem dJ1_indexOfChar_4cfef_22 : decode cJ1_indexOfChar_4cfef 22 = .ok (.iload 5, 2) := by decide +kernel
theorem dJ1_indexOfChar_4cfef_24 : decode cJ1_indexOfChar_4cfef 24 = .ok (.ireturn, 1) := by decide +kernel
theorem dJ1_indexOfChar_4cfef_25 : decode cJ1_indexOfChar_4cfef 25 = .ok (.iinc 5 1, 3) := by decide +kernel
theorem dJ1_indexOfChar_4cfef_28 : decode cJ1_indexOfChar_4cfef 28 = .ok (.goto (-21), 3) := by decide +kernel
theorem dJ1_indexOfChar_4cfef_31 : decode cJ1_indexOfChar_4cfef 31 = .ok (.iconst (-1), 1) := by decide +kernel
theorem dJ1_indexOfChar_4cfef_32 : decode cJ1_indexOfChar_4cfef 32 = .ok (.ireturn, 1) := by decide +kernel
theorem dJ2_getChar_3b067_0 : decode cJ2_getChar_3b067 0 = .ok (.getstatic 44, 3) := by decide +kernel
theorem dJ2_getChar_3b067_3 : decode cJ2_getChar_3b067 3 = .ok (.ifCond .ne 25, 3) := by decide +kernel
theorem dJ2_getChar_3b067_6 : decode cJ2_getChar_3b067 6 = .ok (.iload_n 1, 1) := by decide +kernel
theorem dJ2_getChar_3b067_7 : decode cJ2_getChar_3b067 7 = .ok (.ifCond .lt 11, 3) := by decide +kernel
theorem dJ2_getChar_3b067_10 : decode cJ2_getChar_3b067 10 = .ok (.iload_n 1, 1) := by decide +kernel
theorem dJ2_getChar_3b067_11 : decode cJ2_getChar_3b067 11 = .ok (.aload_n 0, 1) := by decide +kernel
theorem dJ2_getChar_3b067_12 : decode cJ2_getChar_3b067 12 = .ok (.invokestatic 48, 3) := by decide +kernel
theorem dJ2_getChar_3b067_15 : decode cJ2_getChar_3b067 15 = .ok (.if_icmp .lt 13, 3) := by decide +kernel
theorem dJ2_getChar_3b067_18 : decode cJ2_getChar_3b067 18 = .ok (.new 52, 3) := by decide +kernel
theorem dJ2_getChar_3b067_21 : decode cJ2_getChar_3b067 21 = .ok (.dup, 1) := by decide +kernel
theorem dJ2_getChar_3b067_22 : decode cJ2_getChar_3b067 22 = .ok (.ldc 54, 2) := by decide +kernel
theorem dJ2_getChar_3b067_24 : decode cJ2_getChar_3b067 24 = .ok (.invokespecial 56, 3) := by decide +kernel
theorem dJ2_getChar_3b067_27 : decode cJ2_getChar_3b067 27 = .ok (.athrow, 1) := by decide +kernel
theorem dJ2_getChar_3b067_28 : decode cJ2_getChar_3b067 28 = .ok (.iload_n 1, 1) := by decide +kernel
theorem dJ2_getChar_3b067_29 : decode cJ2_getChar_3b067 29 = .ok (.iconst 1, 1) := by decide +kernel
theorem dJ2_getChar_3b067_30 : decode cJ2_getChar_3b067 30 = .ok (.ishl, 1) := by decide +kernel
theorem dJ2_getChar_3b067_31 : decode cJ2_getChar_3b067 31 = .ok (.istore_n 1, 1) := by decide +kernel
theorem dJ2_getChar_3b067_32 : decode cJ2_getChar_3b067 32 = .ok (.aload_n 0, 1) := by decide +kernel
theorem dJ2_getChar_3b067_33 : decode cJ2_getChar_3b067 33 = .ok (.iload_n 1, 1) := by decide +kernel
theorem dJ2_getChar_3b067_34 : decode cJ2_getChar_3b067 34 = .ok (.iinc 1 1, 3) := by decide +kernel
theorem dJ2_getChar_3b067_37 : decode cJ2_getChar_3b067 37 = .ok (.baload, 1) := by decide +kernel
theorem dJ2_getChar_3b067_38 : decode cJ2_getChar_3b067 38 = .ok (.sipush 255, 3) := by decide +kernel
theorem dJ2_getChar_3b067_41 : decode cJ2_getChar_3b067 41 = .ok (.iand, 1) := by decide +kernel
theorem dJ2_getChar_3b067_42 : decode cJ2_getChar_3b067 42 = .ok (.getstatic 59, 3) := by decide +kernel
theorem dJ2_getChar_3b067_45 : decode cJ2_getChar_3b067 45 = .ok (.ishl, 1) := by decide +kernel
theorem dJ2_getChar_3b067_46 : decode cJ2_getChar_3b067 46 = .ok (.aload_n 0, 1) := by decide +kernel
theorem dJ2_getChar_3b067_47 : decode cJ2_getChar_3b067 47 = .ok (.iload_n 1, 1) := by decide +kernel
theorem dJ2_getChar_3b067_48 : decode cJ2_getChar_3b067 48 = .ok (.baload, 1) := by decide +kernel
theorem dJ2_getChar_3b067_49 : decode cJ2_getChar_3b067 49 = .ok (.sipush 255, 3) := by decide +kernel
theorem dJ2_getChar_3b067_52 : decode cJ2_getChar_3b067 52 = .ok (.iand, 1) := by decide +kernel
theorem dJ2_getChar_3b067_53 : decode cJ2_getChar_3b067 53 = .ok (.getstatic 63, 3) := by decide +kernel
theorem dJ2_getChar_3b067_56 : decode cJ2_getChar_3b067 56 = .ok (.ishl, 1) := by decide +kernel
theorem dJ2_getChar_3b067_57 : decode cJ2_getChar_3b067 57 = .ok (.ior, 1) := by decide +kernel
theorem dJ2_getChar_3b067_58 : decode cJ2_getChar_3b067 58 = .ok (.i2c, 1) := by decide +kernel
theorem dJ2_getChar_3b067_59 : decode cJ2_getChar_3b067 59 = .ok (.ireturn, 1) := by decide +kernel
theorem dJ2_length_9d52b_0 : decode cJ2_length_9d52b 0 = .ok (.aload_n 0, 1) := by decide +kernel
theorem dJ2_length_9d52b_1 : decode cJ2_length_9d52b 1 = .ok (.arraylength, 1) := by decide +kernel
theorem dJ2_length_9d52b_2 : decode cJ2_length_9d52b 2 = .ok (.iconst 1, 1) := by decide +kernel
theorem dJ2_length_9d52b_3 : decode cJ2_length_9d52b 3 = .ok (.ishr, 1) := by decide +kernel
theorem dJ2_length_9d52b_4 : decode cJ2_length_9d52b 4 = .ok (.ireturn, 1) := by decide +kernel
theorem dJ2_indexOf_4cfef_0 : decode cJ2_indexOf_4cfef 0 = .ok (.iload_n 2, 1) := by decide +kernel
theorem dJ2_indexOf_4cfef_1 : decode cJ2_indexOf_4cfef 1 = .ok (.iconst 0, 1) := by decide +kernel
theorem dJ2_indexOf_4cfef_2 : decode cJ2_indexOf_4cfef 2 = .ok (.invokestatic 224, 3) := by decide +kernel
theorem dJ2_indexOf_4cfef_5 : decode cJ2_indexOf_4cfef 5 = .ok (.istore_n 2, 1) := by decide +kernel
theorem dJ2_indexOf_4cfef_6 : decode cJ2_indexOf_4cfef 6 = .ok (.iload_n 3, 1) := by decide +kernel
theorem dJ2_indexOf_4cfef_7 : decode cJ2_indexOf_4cfef 7 = .ok (.aload_n 0, 1) := by decide +kernel
theorem dJ2_indexOf_4cfef_8 : decode cJ2_indexOf_4cfef 8 = .ok (.arraylength, 1) := by decide +kernel
theorem dJ2_indexOf_4cfef_9 : decode cJ2_indexOf_4cfef 9 = .ok (.iconst 1, 1) := by decide +kernel
theorem dJ2_indexOf_4cfef_10 : decode cJ2_indexOf_4cfef 10 = .ok (.ishr, 1) := by decide +kernel
theorem dJ2_indexOf_4cfef_11 : decode cJ2_indexOf_4cfef 11 = .ok (.invokestatic 183, 3) := by decide +kernel
theorem dJ2_indexOf_4cfef_14 : decode cJ2_indexOf_4cfef 14 = .ok (.istore_n 3, 1) := by decide +kernel
theorem dJ2_indexOf_4cfef_15 : decode cJ2_indexOf_4cfef 15 = .ok (.iload_n 2, 1) := by decide +kernel
theorem dJ2_indexOf_4cfef_16 : decode cJ2_indexOf_4cfef 16 = .ok (.iload_n 3, 1) := by decide +kernel
theorem dJ2_indexOf_4cfef_17 : decode cJ2_indexOf_4cfef 17 = .ok (.if_icmp .lt 5, 3) := by decide +kernel
theorem dJ2_indexOf_4cfef_20 : decode cJ2_indexOf_4cfef 20 = .ok (.iconst (-1), 1) := by decide +kernel
theorem dJ2_indexOf_4cfef_21 : decode cJ2_indexOf_4cfef 21 = .ok (.ireturn, 1) := by decide +kernel
theorem dJ2_indexOf_4cfef_22 : decode cJ2_indexOf_4cfef 22 = .ok (.iload_n 1, 1) := by decide +kernel
theorem dJ2_indexOf_4cfef_23 : decode cJ2_indexOf_4cfef 23 = .ok (.ldc 227, 2) := by decide +kernel
theorem dJ2_indexOf_4cfef_25 : decode cJ2_indexOf_4cfef 25 = .ok (.if_icmp .ge 11, 3) := by decide +kernel
theorem dJ2_indexOf_4cfef_28 : decode cJ2_indexOf_4cfef 28 = .ok (.aload_n 0, 1) := by decide +kernel
theorem dJ2_indexOf_4cfef_29 : decode cJ2_indexOf_4cfef 29 = .ok (.iload_n 1, 1) := by decide +kernel
theorem dJ2_indexOf_4cfef_30 : decode cJ2_indexOf_4cfef 30 = .ok (.iload_n 2, 1) := by decide +kernel
theorem dJ2_indexOf_4cfef_31 : decode cJ2_indexOf_4cfef 31 = .ok (.iload_n 3, 1) := by decide +kernel
theorem dJ2_indexOf_4cfef_32 : decode cJ2_indexOf_4cfef 32 = .ok (.invokestatic 228, 3) := by decide +kernel
theorem dJ2_indexOf_4cfef_35 : decode cJ2_indexOf_4cfef 35 = .ok (.ireturn, 1) := by decide +kernel
theorem dJ2_indexOf_4cfef_36 : decode cJ2_indexOf_4cfef 36 = .ok (.aload_n 0, 1) := by decide +kernel
theorem dJ2_indexOf_4cfef_37 : decode cJ2_indexOf_4cfef 37 = .ok (.iload_n 1, 1) := by decide +kernel
theorem dJ2_indexOf_4cfef_38 : decode cJ2_indexOf_4cfef 38 = .ok (.iload_n 2, 1) := by decide +kernel
theorem dJ2_indexOf_4cfef_39 : decode cJ2_indexOf_4cfef 39 = .ok (.iload_n 3, 1) := by decide +kernel
theorem dJ2_indexOf_4cfef_40 : decode cJ2_indexOf_4cfef 40 = .ok (.invokestatic 232, 3) := by decide +kernel
theorem dJ2_indexOf_4cfef_43 : decode cJ2_indexOf_4cfef 43 = .ok (.ireturn, 1) := by decide +kernel
theorem dJ2_indexOfChar_4cfef_0 : decode cJ2_indexOfChar_4cfef 0 = .ok (.iload_n 2, 1) := by decide +kernel
theorem dJ2_indexOfChar_4cfef_1 : decode cJ2_indexOfChar_4cfef 1 = .ok (.iload_n 3, 1) := by decide +kernel
theorem dJ2_indexOfChar_4cfef_2 : decode cJ2_indexOfChar_4cfef 2 = .ok (.aload_n 0, 1) := by decide +kernel
theorem dJ2_indexOfChar_4cfef_3 : decode cJ2_indexOfChar_4cfef 3 = .ok (.invokestatic 96, 3) := by decide +kernel
theorem dJ2_indexOfChar_4cfef_6 : decode cJ2_indexOfChar_4cfef 6 = .ok (.aload_n 0, 1) := by decide +kernel
theorem dJ2_indexOfChar_4cfef_7 : decode cJ2_indexOfChar_4cfef 7 = .ok (.iload_n 1, 1) := by decide +kernel
theorem dJ2_indexOfChar_4cfef_8 : decode cJ2_indexOfChar_4cfef 8 = .ok (.iload_n 2, 1) := by decide +kernel
theorem dJ2_indexOfChar_4cfef_9 : decode cJ2_indexOfChar_4cfef 9 = .ok (.iload_n 3, 1) := by decide +kernel
theorem dJ2_indexOfChar_4cfef_10 : decode cJ2_indexOfChar_4cfef 10 = .ok (.invokestatic 244, 3) := by decide +kernel
theorem dJ2_indexOfChar_4cfef_13 : decode cJ2_indexOfChar_4cfef 13 = .ok (.ireturn, 1) := by decide +kernel
theorem dJ2_indexOfCharUnsafe_4cfef_0 : decode cJ2_indexOfCharUnsafe_4cfef 0 = .ok (.iload_n 2, 1) := by decide +kernel
theorem dJ2_indexOfCharUnsafe_4cfef_1 : decode cJ2_indexOfCharUnsafe_4cfef 1 = .ok (.istore 4, 2) := by decide +kernel
theorem dJ2_indexOfCharUnsafe_4cfef_3 : decode cJ2_indexOfCharUnsafe_4cfef 3 = .ok (.iload 4, 2) := by decide +kernel
theorem dJ2_indexOfCharUnsafe_4cfef_5 : decode cJ2_indexOfCharUnsafe_4cfef 5 = .ok (.iload_n 3, 1) := by decide +kernel
theorem dJ2_indexOfCharUnsafe_4cfef_6 : decode cJ2_indexOfCharUnsafe_4cfef 6 = .ok (.if_icmp .ge 22, 3) := by decide +kernel
theorem dJ2_indexOfCharUnsafe_4cfef_9 : decode cJ2_indexOfCharUnsafe_4cfef 9 = .ok (.aload_n 0, 1) := by decide +kernel
theorem dJ2_indexOfCharUnsafe_4cfef_10 : decode cJ2_indexOfCharUnsafe_4cfef 10 = .ok (.iload 4, 2) := by decide +kernel
theorem dJ2_indexOfCharUnsafe_4cfef_12 : decode cJ2_indexOfCharUnsafe_4cfef 12 = .ok (.invokestatic 71, 3) := by decide +kernel
theorem dJ2_indexOfCharUnsafe_4cfef_15 : decode cJ2_indexOfCharUnsafe_4cfef 15 = .ok (.iload_n 1, 1) := by decide +kernel
theorem dJ2_indexOfCharUnsafe_4cfef_16 : decode cJ2_indexOfCharUnsafe_4cfef 16 = .ok (.if_icmp .ne 6, 3) := by decide +kernel
theorem dJ2_indexOfCharUnsafe_4cfef_19 : decode cJ2_indexOfCharUnsafe_4cfef 19 = .ok (.iload 4, 2) := by decide +kernel
theorem dJ2_indexOfCharUnsafe_4cfef_21 : decode cJ2_indexOfCharUnsafe_4cfef 21 = .ok (.ireturn, 1) := by decide +kernel
theorem dJ2_indexOfCharUnsafe_4cfef_22 : decode cJ2_indexOfCharUnsafe_4cfef 22 = .ok (.iinc 4 1, 3) := by decide +kernel
theorem dJ2_indexOfCharUnsafe_4cfef_25 : decode cJ2_indexOfCharUnsafe_4cfef 25 = .ok (.goto (-22), 3) := by decide +kernel
theorem dJ2_indexOfCharUnsafe_4cfef_28 : decode cJ2_indexOfCharUnsafe_4cfef 28 = .ok (.iconst (-1), 1) := by decide +kernel
theorem dJ2_indexOfCharUnsafe_4cfef_29 : decode cJ2_indexOfCharUnsafe_4cfef 29 = .ok (.ireturn, 1) := by decide +kernel
theorem dJ2_indexOfSupplementary_4cfef_0 : decode cJ2_indexOfSupplementary_4cfef 0 = .ok (.iload_n 1, 1) := by decide +kernel
theorem dJ2_indexOfSupplementary_4cfef_1 : decode cJ2_indexOfSupplementary_4cfef 1 = .ok (.invokestatic 164, 3) := by decide +kernel
theorem dJ2_indexOfSupplementary_4cfef_4 : decode cJ2_indexOfSupplementary_4cfef 4 = .ok (.ifCond .eq 65, 3) := by decide +kernel
theorem dJ2_indexOfSupplementary_4cfef_7 : decode cJ2_indexOfSupplementary_4cfef 7 = .ok (.iload_n 1, 1) := by decide +kernel
theorem dJ2_indexOfSupplementary_4cfef_8 : decode cJ2_indexOfSupplementary_4cfef 8 = .ok (.invokestatic 157, 3) := by decide +kernel
theorem dJ2_indexOfSupplementary_4cfef_11 : decode cJ2_indexOfSupplementary_4cfef 11 = .ok (.istore 4, 2) := by decide +kernel
theorem dJ2_indexOfSupplementary_4cfef_13 : decode cJ2_indexOfSupplementary_4cfef 13 = .ok (.iload_n 1, 1) := by decide +kernel
theorem dJ2_indexOfSupplementary_4cfef_14 : decode cJ2_indexOfSupplementary_4cfef 14 = .ok (.invokestatic 161, 3) := by decide +kernel
theorem dJ2_indexOfSupplementary_4cfef_17 : decode cJ2_indexOfSupplementary_4cfef 17 = .ok (.istore 5, 2) := by decide +kernel
theorem dJ2_indexOfSupplementary_4cfef_19 : decode cJ2_indexOfSupplementary_4cfef 19 = .ok (.iload_n 2, 1) := by decide +kernel
theorem dJ2_indexOfSupplementary_4cfef_20 : decode cJ2_indexOfSupplementary_4cfef 20 = .ok (.iload_n 3, 1) := by decide +kernel
theorem dJ2_indexOfSupplementary_4cfef_21 : decode cJ2_indexOfSupplementary_4cfef 21 = .ok (.aload_n 0, 1) := by decide +kernel
theorem dJ2_indexOfSupplementary_4cfef_22 : decode cJ2_indexOfSupplementary_4cfef 22 = .ok (.invokestatic 96, 3) := by decide +kernel
theorem dJ2_indexOfSupplementary_4cfef_25 : decode cJ2_indexOfSupplementary_4cfef 25 = .ok (.iload_n 2, 1) := by decide +kernel
theorem dJ2_indexOfSupplementary_4cfef_26 : decode cJ2_indexOfSupplementary_4cfef 26 = .ok (.istore 6, 2) := by decide +kernel
theorem dJ2_indexOfSupplementary_4cfef_28 : decode cJ2_indexOfSupplementary_4cfef 28 = .ok (.iload 6, 2) := by decide +kernel
theorem dJ2_indexOfSupplementary_4cfef_30 : decode cJ2_indexOfSupplementary_4cfef 30 = .ok (.iload_n 3, 1) := by decide +kernel
theorem dJ2_indexOfSupplementary_4cfef_31 : decode cJ2_indexOfSupplementary_4cfef 31 = .ok (.iconst 1, 1) := by decide +kernel
theorem dJ2_indexOfSupplementary_4cfef_32 : decode cJ2_indexOfSupplementary_4cfef 32 = .ok (.isub, 1) := by decide +kernel
theorem dJ2_indexOfSupplementary_4cfef_33 : decode cJ2_indexOfSupplementary_4cfef 33 = .ok (.if_icmp .ge 36, 3) := by decide +kernel
theorem dJ2_indexOfSupplementary_4cfef_36 : decode cJ2_indexOfSupplementary_4cfef 36 = .ok (.aload_n 0, 1) := by decide +kernel
theorem dJ2_indexOfSupplementary_4cfef_37 : decode cJ2_indexOfSupplementary_4cfef 37 = .ok (.iload 6, 2) := by decide +kernel
theorem dJ2_indexOfSupplementary_4cfef_39 : decode cJ2_indexOfSupplementary_4cfef 39 = .ok (.invokestatic 71, 3) := by decide +kernel
theorem dJ2_indexOfSupplementary_4cfef_42 : decode cJ2_indexOfSupplementary_4cfef 42 = .ok (.iload 4, 2) := by decide +kernel
theorem dJ2_indexOfSupplementary_4cfef_44 : decode cJ2_indexOfSupplementary_4cfef 44 = .ok (.if_icmp .ne 19, 3) := by decide +kernel
theorem dJ2_indexOfSupplementary_4cfef_47 : decode cJ2_indexOfSupplementary_4cfef 47 = .ok (.aload_n 0, 1) := by decide +kernel
theorem dJ2_indexOfSupplementary_4cfef_48 : decode cJ2_indexOfSupplementary_4cfef 48 = .ok (.iload 6, 2) := by decide +kernel
theorem dJ2_indexOfSupplementary_4cfef_50 : decode cJ2_indexOfSupplementary_4cfef 50 = .ok (.iconst 1, 1) := by decide +kernel
theorem dJ2_indexOfSupplementary_4cfef_51 : decode cJ2_indexOfSupplementary_4cfef 51 = .ok (.iadd, 1) := by decide +kernel
theorem dJ2_indexOfSupplementary_4cfef_52 : decode cJ2_indexOfSupplementary_4cfef 52 = .ok (.invokestatic 71, 3) := by decide +kernel
theorem dJ2_indexOfSupplementary_4cfef_55 : decode cJ2_indexOfSupplementary_4cfef 55 = .ok (.iload 5, 2) := by decide +kernel
theorem dJ2_indexOfSupplementary_4cfef_57 : decode cJ2_indexOfSupplementary_4cfef 57 = .ok (.if_icmp .ne 6, 3) := by decide +kernel
theorem dJ2_indexOfSupplementary_4cfef_60 : decode cJ2_indexOfSupplementary_4cfef 60 = .ok (.iload 6, 2) := by decide +kernel
theorem dJ2_indexOfSupplementary_4cfef_62 : decode cJ2_indexOfSupplementary_4cfef 62 = .ok (.ireturn, 1) := by decide +kernel
theorem dJ2_indexOfSupplementary_4cfef_63 : decode cJ2_indexOfSupplementary_4cfef 63 = .ok (.iinc 6 1, 3) := by decide +kernel
theorem dJ2_indexOfSupplementary_4cfef_66 : decode cJ2_indexOfSupplementary_4cfef 66 = .ok (.goto (-38), 3) := by decide +kernel
theorem dJ2_indexOfSupplementary_4cfef_69 : decode cJ2_indexOfSupplementary_4cfef 69 = .ok (.iconst (-1), 1) := by decide +kernel
theorem dJ2_indexOfSupplementary_4cfef_70 : decode cJ2_indexOfSupplementary_4cfef 70 = .ok (.ireturn, 1) := by decide +kernel
theorem dJ2_checkBoundsBeginEnd_d044e_0 : decode cJ2_checkBoundsBeginEnd_d044e 0 = .ok (.iload_n 0, 1) := by decide +kernel
theorem dJ2_checkBoundsBeginEnd_d044e_1 : decode cJ2_checkBoundsBeginEnd_d044e 1 = .ok (.iload_n 1, 1) := by decide +kernel
theorem dJ2_checkBoundsBeginEnd_d044e_2 : decode cJ2_checkBoundsBeginEnd_d044e 2 = .ok (.aload_n 2, 1) := by decide +kernel
theorem dJ2_checkBoundsBeginEnd_d044e_3 : decode cJ2_checkBoundsBeginEnd_d044e 3 = .ok (.invokestatic 48, 3) := by decide +kernel
theorem dJ2_checkBoundsBeginEnd_d044e_6 : decode cJ2_checkBoundsBeginEnd_d044e 6 = .ok (.invokestatic 241, 3) := by decide +kernel
theorem dJ2_checkBoundsBeginEnd_d044e_9 : decode cJ2_checkBoundsBeginEnd_d044e 9 = .ok (.return_, 1) := by decide +kernel
theorem dJxa1e45_init_da8c8_0 : decode cJxa1e45_init_da8c8 0 = .ok (.aload_n 0, 1) := by decide +kernel
theorem dJxa1e45_init_da8c8_1 : decode cJxa1e45_init_da8c8 1 = .ok (.invokespecial 1, 3) := by decide +kernel
theorem dJxa1e45_init_da8c8_4 : decode cJxa1e45_init_da8c8 4 = .ok (.return_, 1) := by decide +kernel
theorem dJxc12de_init_da8c8_0 : decode cJxc12de_init_da8c8 0 = .ok (.aload_n 0, 1) := by decide +kernel
theorem dJxc12de_init_da8c8_1 : decode cJxc12de_init_da8c8 1 = .ok (.invokespecial 1, 3) := by decide +kernel
theorem dJxc12de_init_da8c8_4 : decode cJxc12de_init_da8c8 4 = .ok (.aload_n 0, 1) := by decide +kernel
theorem dJxc12de_init_da8c8_5 : decode cJxc12de_init_da8c8 5 = .ok (.iconst 0, 1) := by decide +kernel
theorem dJxc12de_init_da8c8_6 : decode cJxc12de_init_da8c8 6 = .ok (.putfield 7, 3) := by decide +kernel
theorem dJxc12de_init_da8c8_9 : decode cJxc12de_init_da8c8 9 = .ok (.return_, 1) := by decide +kernel
theorem dJx35411_init_45d68_0 : decode cJx35411_init_45d68 0 = .ok (.aload_n 0, 1) := by decide +kernel
theorem dJx35411_init_45d68_1 : decode cJx35411_init_45d68 1 = .ok (.aload_n 1, 1) := by decide +kernel
theorem dJx35411_init_45d68_2 : decode cJx35411_init_45d68 2 = .ok (.putfield 1, 3) := by decide +kernel
theorem dJx35411_init_45d68_5 : decode cJx35411_init_45d68 5 = .ok (.aload_n 0, 1) := by decide +kernel
theorem dJx35411_init_45d68_6 : decode cJx35411_init_45d68 6 = .ok (.invokespecial 7, 3) := by decide +kernel
theorem dJx35411_init_45d68_9 : decode cJx35411_init_45d68 9 = .ok (.aload_n 0, 1) := by decide +kernel
theorem dJx35411_init_45d68_10 : decode cJx35411_init_45d68 10 = .ok (.iconst (-1), 1) := by decide +kernel
theorem dJx35411_init_45d68_11 : decode cJx35411_init_45d68 11 = .ok (.putfield 13, 3) := by decide +kernel
theorem dJx35411_init_45d68_14 : decode cJx35411_init_45d68 14 = .ok (.aload_n 0, 1) := by decide +kernel
theorem dJx35411_init_45d68_15 : decode cJx35411_init_45d68 15 = .ok (.aload_n 0, 1) := by decide +kernel
theorem dJx35411_init_45d68_16 : decode cJx35411_init_45d68 16 = .ok (.getfield 1, 3) := by decide +kernel
theorem dJx35411_init_45d68_19 : decode cJx35411_init_45d68 19 = .ok (.getfield 17, 3) := by decide +kernel
theorem dJx35411_init_45d68_22 : decode cJx35411_init_45d68 22 = .ok (.putfield 22, 3) := by decide +kernel
theorem dJx35411_init_45d68_25 : decode cJx35411_init_45d68 25 = .ok (.return_, 1) := by decide +kernel
theorem dJx35411_hasNext_aae02_0 : decode cJx35411_hasNext_aae02 0 = .ok (.aload_n 0, 1) := by decide +kernel
theorem dJx35411_hasNext_aae02_1 : decode cJx35411_hasNext_aae02 1 = .ok (.getfield 25, 3) := by decide +kernel
theorem dJx35411_hasNext_aae02_4 : decode cJx35411_hasNext_aae02 4 = .ok (.aload_n 0, 1) := by decide +kernel
theorem dJx35411_hasNext_aae02_5 : decode cJx35411_hasNext_aae02 5 = .ok (.getfield 1, 3) := by decide +kernel
theorem dJx35411_hasNext_aae02_8 : decode cJx35411_hasNext_aae02 8 = .ok (.getfield 28, 3) := by decide +kernel
theorem dJx35411_hasNext_aae02_11 : decode cJx35411_hasNext_aae02 11 = .ok (.if_icmp .eq 7, 3) := by decide +kernel
theorem dJx35411_hasNext_aae02_14 : decode cJx35411_hasNext_aae02 14 = .ok (.iconst 1, 1) := by decide +kernel
theorem dJx35411_hasNext_aae02_15 : decode cJx35411_hasNext_aae02 15 = .ok (.goto 4, 3) := by decide +kernel
theorem dJx35411_hasNext_aae02_18 : decode cJx35411_hasNext_aae02 18 = .ok (.iconst 0, 1) := by decide +kernel
theorem dJx35411_hasNext_aae02_19 : decode cJx35411_hasNext_aae02 19 = .ok (.ireturn, 1) := by decide +kernel
theorem dJx35411_next_0502b_0 : decode cJx35411_next_0502b 0 = .ok (.aload_n 0, 1) := by decide +kernel
theorem dJx35411_next_0502b_1 : decode cJx35411_next_0502b 1 = .ok (.invokevirtual 31, 3) := by decide +kernel
theorem dJx35411_next_0502b_4 : decode cJx35411_next_0502b 4 = .ok (.aload_n 0, 1) := by decide +kernel
theorem dJx35411_next_0502b_5 : decode cJx35411_next_0502b 5 = .ok (.getfield 25, 3) := by decide +kernel
theorem dJx35411_next_0502b_8 : decode cJx35411_next_0502b 8 = .ok (.istore_n 1, 1) := by decide +kernel
theorem dJx35411_next_0502b_9 : decode cJx35411_next_0502b 9 = .ok (.iload_n 1, 1) := by decide +kernel
theorem dJx35411_next_0502b_10 : decode cJx35411_next_0502b 10 = .ok (.aload_n 0, 1) := by decide +kernel
theorem dJx35411_next_0502b_11 : decode cJx35411_next_0502b 11 = .ok (.getfield 1, 3) := by decide +kernel
theorem dJx35411_next_0502b_14 : decode cJx35411_next_0502b 14 = .ok (.getfield 28, 3) := by decide +kernel
theorem dJx35411_next_0502b_17 : decode cJx35411_next_0502b 17 = .ok (.if_icmp .lt 11, 3) := by decide +kernel
theorem dJx35411_next_0502b_20 : decode cJx35411_next_0502b 20 = .ok (.new 34, 3) := by decide +kernel
theorem dJx35411_next_0502b_23 : decode cJx35411_next_0502b 23 = .ok (.dup, 1) := by decide +kernel
theorem dJx35411_next_0502b_24 : decode cJx35411_next_0502b 24 = .ok (.invokespecial 36, 3) := by decide +kernel
theorem dJx35411_next_0502b_27 : decode cJx35411_next_0502b 27 = .ok (.athrow, 1) := by decide +kernel
theorem dJx35411_next_0502b_28 : decode cJx35411_next_0502b 28 = .ok (.aload_n 0, 1) := by decide +kernel
theorem dJx35411_next_0502b_29 : decode cJx35411_next_0502b 29 = .ok (.getfield 1, 3) := by decide +kernel
theorem dJx35411_next_0502b_32 : decode cJx35411_next_0502b 32 = .ok (.getfield 37, 3) := by decide +kernel
theorem dJx35411_next_0502b_35 : decode cJx35411_next_0502b 35 = .ok (.astore_n 2, 1) := by decide +kernel
theorem dJx35411_next_0502b_36 : decode cJx35411_next_0502b 36 = .ok (.iload_n 1, 1) := by decide +kernel
theorem dJx35411_next_0502b_37 : decode cJx35411_next_0502b 37 = .ok (.aload_n 2, 1) := by decide +kernel
theorem dJx35411_next_0502b_38 : decode cJx35411_next_0502b 38 = .ok (.arraylength, 1) := by decide +kernel
theorem dJx35411_next_0502b_39 : decode cJx35411_next_0502b 39 = .ok (.if_icmp .lt 11, 3) := by decide +kernel
theorem dJx35411_next_0502b_42 : decode cJx35411_next_0502b 42 = .ok (.new 41, 3) := by decide +kernel
theorem dJx35411_next_0502b_45 : decode cJx35411_next_0502b 45 = .ok (.dup, 1) := by decide +kernel
theorem dJx35411_next_0502b_46 : decode cJx35411_next_0502b 46 = .ok (.invokespecial 43, 3) := by decide +kernel
theorem dJx35411_next_0502b_49 : decode cJx35411_next_0502b 49 = .ok (.athrow, 1) := by decide +kernel
theorem dJx35411_next_0502b_50 : decode cJx35411_next_0502b 50 = .ok (.aload_n 0, 1) := by decide +kernel
theorem dJx35411_next_0502b_51 : decode cJx35411_next_0502b 51 = .ok (.iload_n 1, 1) := by decide +kernel
theorem dJx35411_next_0502b_52 : decode cJx35411_next_0502b 52 = .ok (.iconst 1, 1) := by decide +kernel
theorem dJx35411_next_0502b_53 : decode cJx35411_next_0502b 53 = .ok (.iadd, 1) := by decide +kernel
theorem dJx35411_next_0502b_54 : decode cJx35411_next_0502b 54 = .ok (.putfield 25, 3) := by decide +kernel
theorem dJx35411_next_0502b_57 : decode cJx35411_next_0502b 57 = .ok (.aload_n 2, 1) := by decide +kernel
theorem dJx35411_next_0502b_58 : decode cJx35411_next_0502b 58 = .ok (.aload_n 0, 1) := by decide +kernel
theorem dJx35411_next_0502b_59 : decode cJx35411_next_0502b 59 = .ok (.iload_n 1, 1) := by decide +kernel
theorem dJx35411_next_0502b_60 : decode cJx35411_next_0502b 60 = .ok (.dup_x1, 1) := by decide +kernel
theorem dJx35411_next_0502b_61 : decode cJx35411_next_0502b 61 = .ok (.putfield 13, 3) := by decide +kernel
theorem dJx35411_next_0502b_64 : decode cJx35411_next_0502b 64 = .ok (.aaload, 1) := by decide +kernel
theorem dJx35411_next_0502b_65 : decode cJx35411_next_0502b 65 = .ok (.areturn, 1) := by decide +kernel
theorem dJx35411_checkForComodification_da8c8_0 : decode cJx35411_checkForComodification_da8c8 0 = .ok (.aload_n 0, 1) := by decide +kernel
theorem dJx35411_checkForComodification_da8c8_1 : decode cJx35411_checkForComodification_da8c8 1 = .ok (.getfield 1, 3) := by decide +kernel
theorem dJx35411_checkForComodification_da8c8_4 : decode cJx35411_checkForComodification_da8c8 4 = .ok (.getfield 17, 3) := by decide +kernel
theorem dJx35411_checkForComodification_da8c8_7 : decode cJx35411_checkForComodification_da8c8 7 = .ok (.aload_n 0, 1) := by decide +kernel
theorem dJx35411_checkForComodification_da8c8_8 : decode cJx35411_checkForComodification_da8c8 8 = .ok (.getfield 22, 3) := by decide +kernel
theorem dJx35411_checkForComodification_da8c8_11 : decode cJx35411_checkForComodification_da8c8 11 = .ok (.if_icmp .eq 11, 3) := by decide +kernel
theorem dJx35411_checkForComodification_da8c8_14 : decode cJx35411_checkForComodification_da8c8 14 = .ok (.new 41, 3) := by decide +kernel
theorem dJx35411_checkForComodification_da8c8_17 : decode cJx35411_checkForComodification_da8c8 17 = .ok (.dup, 1) := by decide +kernel
theorem dJx35411_checkForComodification_da8c8_18 : decode cJx35411_checkForComodification_da8c8 18 = .ok (.invokespecial 43, 3) := by decide +kernel
theorem dJx35411_checkForComodification_da8c8_21 : decode cJx35411_checkForComodification_da8c8 21 = .ok (.athrow, 1) := by decide +kernel
theorem dJx35411_checkForComodification_da8c8_22 : decode cJx35411_checkForComodification_da8c8 22 = .ok (.return_, 1) := by decide +kernel
theorem dJx4a65c_init_da8c8_0 : decode cJx4a65c_init_da8c8 0 = .ok (.aload_n 0, 1) := by decide +kernel
theorem dJx4a65c_init_da8c8_1 : decode cJx4a65c_init_da8c8 1 = .ok (.invokespecial 1, 3) := by decide +kernel
theorem dJx4a65c_init_da8c8_4 : decode cJx4a65c_init_da8c8 4 = .ok (.aload_n 0, 1) := by decide +kernel
theorem dJx4a65c_init_da8c8_5 : decode cJx4a65c_init_da8c8 5 = .ok (.getstatic 39, 3) := by decide +kernel
theorem dJx4a65c_init_da8c8_8 : decode cJx4a65c_init_da8c8 8 = .ok (.putfield 9, 3) := by decide +kernel
theorem dJx4a65c_init_da8c8_11 : decode cJx4a65c_init_da8c8 11 = .ok (.return_, 1) := by decide +kernel
theorem dJx4a65c_grow_92f84_0 : decode cJx4a65c_grow_92f84 0 = .ok (.aload_n 0, 1) := by decide +kernel
theorem dJx4a65c_grow_92f84_1 : decode cJx4a65c_grow_92f84 1 = .ok (.getfield 9, 3) := by decide +kernel
theorem dJx4a65c_grow_92f84_4 : decode cJx4a65c_grow_92f84 4 = .ok (.arraylength, 1) := by decide +kernel
theorem dJx4a65c_grow_92f84_5 : decode cJx4a65c_grow_92f84 5 = .ok (.istore_n 2, 1) := by decide +kernel
theorem dJx4a65c_grow_92f84_6 : decode cJx4a65c_grow_92f84 6 = .ok (.iload_n 2, 1) := by decide +kernel
theorem dJx4a65c_grow_92f84_7 : decode cJx4a65c_grow_92f84 7 = .ok (.ifCond .gt 13, 3) := by decide +kernel
theorem dJx4a65c_grow_92f84_10 : decode cJx4a65c_grow_92f84 10 = .ok (.aload_n 0, 1) := by decide +kernel
theorem dJx4a65c_grow_92f84_11 : decode cJx4a65c_grow_92f84 11 = .ok (.getfield 9, 3) := by decide +kernel
theorem dJx4a65c_grow_92f84_14 : decode cJx4a65c_grow_92f84 14 = .ok (.getstatic 39, 3) := by decide +kernel
theorem dJx4a65c_grow_92f84_17 : decode cJx4a65c_grow_92f84 17 = .ok (.if_acmp .eq 28, 3) := by decide +kernel
theorem dJx4a65c_grow_92f84_20 : decode cJx4a65c_grow_92f84 20 = .ok (.iload_n 2, 1) := by decide +kernel
theorem dJx4a65c_grow_92f84_21 : decode cJx4a65c_grow_92f84 21 = .ok (.iload_n 1, 1) := by decide +kernel
theorem dJx4a65c_grow_92f84_22 : decode cJx4a65c_grow_92f84 22 = .ok (.iload_n 2, 1) := by decide +kernel
theorem dJx4a65c_grow_92f84_23 : decode cJx4a65c_grow_92f84 23 = .ok (.isub, 1) := by decide +kernel
theorem dJx4a65c_grow_92f84_24 : decode cJx4a65c_grow_92f84 24 = .ok (.iload_n 2, 1) := by decide +kernel
theorem dJx4a65c_grow_92f84_25 : decode cJx4a65c_grow_92f84 25 = .ok (.iconst 1, 1) := by decide +kernel
theorem dJx4a65c_grow_92f84_26 : decode cJx4a65c_grow_92f84 26 = .ok (.ishr, 1) := by decide +kernel
theorem dJx4a65c_grow_92f84_27 : decode cJx4a65c_grow_92f84 27 = .ok (.invokestatic 73, 3) := by decide +kernel
theorem dJx4a65c_grow_92f84_30 : decode cJx4a65c_grow_92f84 30 = .ok (.istore_n 3, 1) := by decide +kernel
theorem dJx4a65c_grow_92f84_31 : decode cJx4a65c_grow_92f84 31 = .ok (.aload_n 0, 1) := by decide +kernel
theorem dJx4a65c_grow_92f84_32 : decode cJx4a65c_grow_92f84 32 = .ok (.aload_n 0, 1) := by decide +kernel
theorem dJx4a65c_grow_92f84_33 : decode cJx4a65c_grow_92f84 33 = .ok (.getfield 9, 3) := by decide +kernel
theorem dJx4a65c_grow_92f84_36 : decode cJx4a65c_grow_92f84 36 = .ok (.iload_n 3, 1) := by decide +kernel
theorem dJx4a65c_grow_92f84_37 : decode cJx4a65c_grow_92f84 37 = .ok (.invokestatic 66, 3) := by decide +kernel
theorem dJx4a65c_grow_92f84_40 : decode cJx4a65c_grow_92f84 40 = .ok (.dup_x1, 1) := by decide +kernel
theorem dJx4a65c_grow_92f84_41 : decode cJx4a65c_grow_92f84 41 = .ok (.putfield 9, 3) := by decide +kernel
theorem dJx4a65c_grow_92f84_44 : decode cJx4a65c_grow_92f84 44 = .ok (.areturn, 1) := by decide +kernel
theorem dJx4a65c_grow_92f84_45 : decode cJx4a65c_grow_92f84 45 = .ok (.aload_n 0, 1) := by decide +kernel
theorem dJx4a65c_grow_92f84_46 : decode cJx4a65c_grow_92f84 46 = .ok (.bipush 10, 2) := by decide +kernel
theorem dJx4a65c_grow_92f84_48 : decode cJx4a65c_grow_92f84 48 = .ok (.iload_n 1, 1) := by decide +kernel
theorem dJx4a65c_grow_92f84_49 : decode cJx4a65c_grow_92f84 49 = .ok (.invokestatic 79, 3) := by decide +kernel
theorem dJx4a65c_grow_92f84_52 : decode cJx4a65c_grow_92f84 52 = .ok (.anewarray 7, 3) := by decide +kernel
theorem dJx4a65c_grow_92f84_55 : decode cJx4a65c_grow_92f84 55 = .ok (.dup_x1, 1) := by decide +kernel
theorem dJx4a65c_grow_92f84_56 : decode cJx4a65c_grow_92f84 56 = .ok (.putfield 9, 3) := by decide +kernel
theorem dJx4a65c_grow_92f84_59 : decode cJx4a65c_grow_92f84 59 = .ok (.areturn, 1) := by decide +kernel
theorem dJx4a65c_grow_d5877_0 : decode cJx4a65c_grow_d5877 0 = .ok (.aload_n 0, 1) := by decide +kernel
theorem dJx4a65c_grow_d5877_1 : decode cJx4a65c_grow_d5877 1 = .ok (.aload_n 0, 1) := by decide +kernel
theorem dJx4a65c_grow_d5877_2 : decode cJx4a65c_grow_d5877 2 = .ok (.getfield 48, 3) := by decide +kernel
theorem dJx4a65c_grow_d5877_5 : decode cJx4a65c_grow_d5877 5 = .ok (.iconst 1, 1) := by decide +kernel
theorem dJx4a65c_grow_d5877_6 : decode cJx4a65c_grow_d5877 6 = .ok (.iadd, 1) := by decide +kernel
theorem dJx4a65c_grow_d5877_7 : decode cJx4a65c_grow_d5877 7 = .ok (.invokevirtual 69, 3) := by decide +kernel
theorem dJx4a65c_grow_d5877_10 : decode cJx4a65c_grow_d5877 10 = .ok (.areturn, 1) := by decide +kernel
theorem dJx4a65c_size_8abf5_0 : decode cJx4a65c_size_8abf5 0 = .ok (.aload_n 0, 1) := by decide +kernel
theorem dJx4a65c_size_8abf5_1 : decode cJx4a65c_size_8abf5 1 = .ok (.getfield 48, 3) := by decide +kernel
theorem dJx4a65c_size_8abf5_4 : decode cJx4a65c_size_8abf5 4 = .ok (.ireturn, 1) := by decide +kernel
theorem dJx4a65c_isEmpty_aae02_0 : decode cJx4a65c_isEmpty_aae02 0 = .ok (.aload_n 0, 1) := by decide +kernel
theorem dJx4a65c_isEmpty_aae02_1 : decode cJx4a65c_isEmpty_aae02 1 = .ok (.getfield 48, 3) := by decide +kernel
theorem dJx4a65c_isEmpty_aae02_4 : decode cJx4a65c_isEmpty_aae02 4 = .ok (.ifCond .ne 7, 3) := by decide +kernel
theorem dJx4a65c_isEmpty_aae02_7 : decode cJx4a65c_isEmpty_aae02 7 = .ok (.iconst 1, 1) := by decide +kernel
theorem dJx4a65c_isEmpty_aae02_8 : decode cJx4a65c_isEmpty_aae02 8 = .ok (.goto 4, 3) := by decide +kernel
theorem dJx4a65c_isEmpty_aae02_11 : decode cJx4a65c_isEmpty_aae02 11 = .ok (.iconst 0, 1) := by decide +kernel
theorem dJx4a65c_isEmpty_aae02_12 : decode cJx4a65c_isEmpty_aae02 12 = .ok (.ireturn, 1) := by decide +kernel
theorem dJx4a65c_elementData_915e3_0 : decode cJx4a65c_elementData_915e3 0 = .ok (.aload_n 0, 1) := by decide +kernel
theorem dJx4a65c_elementData_915e3_1 : decode cJx4a65c_elementData_915e3 1 = .ok (.getfield 9, 3) := by decide +kernel
theorem dJx4a65c_elementData_915e3_4 : decode cJx4a65c_elementData_915e3 4 = .ok (.iload_n 1, 1) := by decide +kernel
theorem dJx4a65c_elementData_915e3_5 : decode cJx4a65c_elementData_915e3 5 = .ok (.aaload, 1) := by decide +kernel
theorem dJx4a65c_elementData_915e3_6 : decode cJx4a65c_elementData_915e3 6 = .ok (.areturn, 1) := by decide +kernel
theorem dJx4a65c_get_915e3_0 : decode cJx4a65c_get_915e3 0 = .ok (.iload_n 1, 1) := by decide +kernel
theorem dJx4a65c_get_915e3_1 : decode cJx4a65c_get_915e3 1 = .ok (.aload_n 0, 1) := by decide +kernel
theorem dJx4a65c_get_915e3_2 : decode cJx4a65c_get_915e3 2 = .ok (.getfield 48, 3) := by decide +kernel
theorem dJx4a65c_get_915e3_5 : decode cJx4a65c_get_915e3 5 = .ok (.invokestatic 118, 3) := by decide +kernel
theorem dJx4a65c_get_915e3_8 : decode cJx4a65c_get_915e3 8 = .ok (.pop, 1) := by decide +kernel
theorem dJx4a65c_get_915e3_9 : decode cJx4a65c_get_915e3 9 = .ok (.aload_n 0, 1) := by decide +kernel
theorem dJx4a65c_get_915e3_10 : decode cJx4a65c_get_915e3 10 = .ok (.iload_n 1, 1) := by decide +kernel
theorem dJx4a65c_get_915e3_11 : decode cJx4a65c_get_915e3 11 = .ok (.invokevirtual 123, 3) := by decide +kernel
theorem dJx4a65c_get_915e3_14 : decode cJx4a65c_get_915e3 14 = .ok (.areturn, 1) := by decide +kernel
theorem dJx4a65c_add_72be8_0 : decode cJx4a65c_add_72be8 0 = .ok (.iload_n 3, 1) := by decide +kernel
theorem dJx4a65c_add_72be8_1 : decode cJx4a65c_add_72be8 1 = .ok (.aload_n 2, 1) := by decide +kernel
theorem dJx4a65c_add_72be8_2 : decode cJx4a65c_add_72be8 2 = .ok (.arraylength, 1) := by decide +kernel
theorem dJx4a65c_add_72be8_3 : decode cJx4a65c_add_72be8 3 = .ok (.if_icmp .ne 8, 3) := by decide +kernel
theorem dJx4a65c_add_72be8_6 : decode cJx4a65c_add_72be8 6 = .ok (.aload_n 0, 1) := by decide +kernel
theorem dJx4a65c_add_72be8_7 : decode cJx4a65c_add_72be8 7 = .ok (.invokevirtual 129, 3) := by decide +kernel
theorem dJx4a65c_add_72be8_10 : decode cJx4a65c_add_72be8 10 = .ok (.astore_n 2, 1) := by decide +kernel
theorem dJx4a65c_add_72be8_11 : decode cJx4a65c_add_72be8 11 = .ok (.aload_n 2, 1) := by decide +kernel
theorem dJx4a65c_add_72be8_12 : decode cJx4a65c_add_72be8 12 = .ok (.iload_n 3, 1) := by decide +kernel
theorem dJx4a65c_add_72be8_13 : decode cJx4a65c_add_72be8 13 = .ok (.aload_n 1, 1) := by decide +kernel
theorem dJx4a65c_add_72be8_14 : decode cJx4a65c_add_72be8 14 = .ok (.aastore, 1) := by decide +kernel
theorem dJx4a65c_add_72be8_15 : decode cJx4a65c_add_72be8 15 = .ok (.aload_n 0, 1) := by decide +kernel
theorem dJx4a65c_add_72be8_16 : decode cJx4a65c_add_72be8 16 = .ok (.iload_n 3, 1) := by decide +kernel
theorem dJx4a65c_add_72be8_17 : decode cJx4a65c_add_72be8 17 = .ok (.iconst 1, 1) := by decide +kernel
theorem dJx4a65c_add_72be8_18 : decode cJx4a65c_add_72be8 18 = .ok (.iadd, 1) := by decide +kernel
theorem dJx4a65c_add_72be8_19 : decode cJx4a65c_add_72be8 19 = .ok (.putfield 48, 3) := by decide +kernel
theorem dJx4a65c_add_72be8_22 : decode cJx4a65c_add_72be8 22 = .ok (.return_, 1) := by decide +kernel
theorem dJx4a65c_add_9ea2d_0 : decode cJx4a65c_add_9ea2d 0 = .ok (.aload_n 0, 1) := by decide +kernel
theorem dJx4a65c_add_9ea2d_1 : decode cJx4a65c_add_9ea2d 1 = .ok (.dup, 1) := by decide +kernel
theorem dJx4a65c_add_9ea2d_2 : decode cJx4a65c_add_9ea2d 2 = .ok (.getfield 63, 3) := by decide +kernel
theorem dJx4a65c_add_9ea2d_5 : decode cJx4a65c_add_9ea2d 5 = .ok (.iconst 1, 1) := by decide +kernel
theorem dJx4a65c_add_9ea2d_6 : decode cJx4a65c_add_9ea2d 6 = .ok (.iadd, 1) := by decide +kernel
theorem dJx4a65c_add_9ea2d_7 : decode cJx4a65c_add_9ea2d 7 = .ok (.putfield 63, 3) := by decide +kernel
theorem dJx4a65c_add_9ea2d_10 : decode cJx4a65c_add_9ea2d 10 = .ok (.aload_n 0, 1) := by decide +kernel
theorem dJx4a65c_add_9ea2d_11 : decode cJx4a65c_add_9ea2d 11 = .ok (.aload_n 1, 1) := by decide +kernel
theorem dJx4a65c_add_9ea2d_12 : decode cJx4a65c_add_9ea2d 12 = .ok (.aload_n 0, 1) := by decide +kernel
theorem dJx4a65c_add_9ea2d_13 : decode cJx4a65c_add_9ea2d 13 = .ok (.getfield 9, 3) := by decide +kernel
theorem dJx4a65c_add_9ea2d_16 : decode cJx4a65c_add_9ea2d 16 = .ok (.aload_n 0, 1) := by decide +kernel
theorem dJx4a65c_add_9ea2d_17 : decode cJx4a65c_add_9ea2d 17 = .ok (.getfield 48, 3) := by decide +kernel
theorem dJx4a65c_add_9ea2d_20 : decode cJx4a65c_add_9ea2d 20 = .ok (.invokevirtual 131, 3) := by decide +kernel
theorem dJx4a65c_add_9ea2d_23 : decode cJx4a65c_add_9ea2d 23 = .ok (.iconst 1, 1) := by decide +kernel
theorem dJx4a65c_add_9ea2d_24 : decode cJx4a65c_add_9ea2d 24 = .ok (.ireturn, 1) := by decide +kernel
theorem dJx4a65c_iterator_32c93_0 : decode cJx4a65c_iterator_32c93 0 = .ok (.new 267, 3) := by decide +kernel
theorem dJx4a65c_iterator_32c93_3 : decode cJx4a65c_iterator_32c93 3 = .ok (.dup, 1) := by decide +kernel
theorem dJx4a65c_iterator_32c93_4 : decode cJx4a65c_iterator_32c93 4 = .ok (.aload_n 0, 1) := by decide +kernel
theorem dJx4a65c_iterator_32c93_5 : decode cJx4a65c_iterator_32c93 5 = .ok (.invokespecial 269, 3) := by decide +kernel
theorem dJx4a65c_iterator_32c93_8 : decode cJx4a65c_iterator_32c93 8 = .ok (.areturn, 1) := by decide +kernel
theorem dJ7_fill_53178_0 : decode cJ7_fill_53178 0 = .ok (.iconst 0, 1) := by decide +kernel
theorem dJ7_fill_53178_1 : decode cJ7_fill_53178 1 = .ok (.istore_n 2, 1) := by decide +kernel
theorem dJ7_fill_53178_2 : decode cJ7_fill_53178 2 = .ok (.aload_n 0, 1) := by decide +kernel
theorem dJ7_fill_53178_3 : decode cJ7_fill_53178 3 = .ok (.arraylength, 1) := by decide +kernel
theorem dJ7_fill_53178_4 : decode cJ7_fill_53178 4 = .ok (.istore_n 3, 1) := by decide +kernel
theorem dJ7_fill_53178_5 : decode cJ7_fill_53178 5 = .ok (.iload_n 2, 1) := by decide +kernel
theorem dJ7_fill_53178_6 : decode cJ7_fill_53178 6 = .ok (.iload_n 3, 1) := by decide +kernel
theorem dJ7_fill_53178_7 : decode cJ7_fill_53178 7 = .ok (.if_icmp .ge 13, 3) := by decide +kernel
theorem dJ7_fill_53178_10 : decode cJ7_fill_53178 10 = .ok (.aload_n 0, 1) := by decide +kernel
theorem dJ7_fill_53178_11 : decode cJ7_fill_53178 11 = .ok (.iload_n 2, 1) := by decide +kernel
theorem dJ7_fill_53178_12 : decode cJ7_fill_53178 12 = .ok (.iload_n 1, 1) := by decide +kernel
theorem dJ7_fill_53178_13 : decode cJ7_fill_53178 13 = .ok (.iastore, 1) := by decide +kernel
theorem dJ7_fill_53178_14 : decode cJ7_fill_53178 14 = .ok (.iinc 2 1, 3) := by decide +kernel
theorem dJ7_fill_53178_17 : decode cJ7_fill_53178 17 = .ok (.goto (-12), 3) := by decide +kernel
theorem dJ7_fill_53178_20 : decode cJ7_fill_53178 20 = .ok (.return_, 1) := by decide +kernel
theorem dJ7_fill_031fb_0 : decode cJ7_fill_031fb 0 = .ok (.iconst 0, 1) := by decide +kernel
theorem dJ7_fill_031fb_1 : decode cJ7_fill_031fb 1 = .ok (.istore_n 2, 1) := by decide +kernel
theorem dJ7_fill_031fb_2 : decode cJ7_fill_031fb 2 = .ok (.aload_n 0, 1) := by decide +kernel
theorem dJ7_fill_031fb_3 : decode cJ7_fill_031fb 3 = .ok (.arraylength, 1) := by decide +kernel
theorem dJ7_fill_031fb_4 : decode cJ7_fill_031fb 4 = .ok (.istore_n 3, 1) := by decide +kernel
theorem dJ7_fill_031fb_5 : decode cJ7_fill_031fb 5 = .ok (.iload_n 2, 1) := by decide +kernel
theorem dJ7_fill_031fb_6 : decode cJ7_fill_031fb 6 = .ok (.iload_n 3, 1) := by decide +kernel
theorem dJ7_fill_031fb_7 : decode cJ7_fill_031fb 7 = .ok (.if_icmp .ge 13, 3) := by decide +kernel
theorem dJ7_fill_031fb_10 : decode cJ7_fill_031fb 10 = .ok (.aload_n 0, 1) := by decide +kernel
theorem dJ7_fill_031fb_11 : decode cJ7_fill_031fb 11 = .ok (.iload_n 2, 1) := by decide +kernel
theorem dJ7_fill_031fb_12 : decode cJ7_fill_031fb 12 = .ok (.iload_n 1, 1) := by decide +kernel
theorem dJ7_fill_031fb_13 : decode cJ7_fill_031fb 13 = .ok (.bastore, 1) := by decide +kernel
theorem dJ7_fill_031fb_14 : decode cJ7_fill_031fb 14 = .ok (.iinc 2 1, 3) := by decide +kernel
theorem dJ7_fill_031fb_17 : decode cJ7_fill_031fb 17 = .ok (.goto (-12), 3) := by decide +kernel
theorem dJ7_fill_031fb_20 : decode cJ7_fill_031fb 20 = .ok (.return_, 1) := by decide +kernel
theorem dJ7_copyOf_1904c_0 : decode cJ7_copyOf_1904c 0 = .ok (.aload_n 0, 1) := by decide +kernel
theorem dJ7_copyOf_1904c_1 : decode cJ7_copyOf_1904c 1 = .ok (.iload_n 1, 1) := by decide +kernel
theorem dJ7_copyOf_1904c_2 : decode cJ7_copyOf_1904c 2 = .ok (.aload_n 0, 1) := by decide +kernel
theorem dJ7_copyOf_1904c_3 : decode cJ7_copyOf_1904c 3 = .ok (.invokevirtual 86, 3) := by decide +kernel
theorem dJ7_copyOf_1904c_6 : decode cJ7_copyOf_1904c 6 = .ok (.invokestatic 300, 3) := by decide +kernel
theorem dJ7_copyOf_1904c_9 : decode cJ7_copyOf_1904c 9 = .ok (.areturn, 1) := by decide +kernel
theorem dJ7_copyOf_6403c_0 : decode cJ7_copyOf_6403c 0 = .ok (.aload_n 2, 1) := by decide +kernel
theorem dJ7_copyOf_6403c_1 : decode cJ7_copyOf_6403c 1 = .ok (.ldc 110, 2) := by decide +kernel
theorem dJ7_copyOf_6403c_3 : decode cJ7_copyOf_6403c 3 = .ok (.if_acmp .ne 10, 3) := by decide +kernel
theorem dJ7_copyOf_6403c_6 : decode cJ7_copyOf_6403c 6 = .ok (.iload_n 1, 1) := by decide +kernel
theorem dJ7_copyOf_6403c_7 : decode cJ7_copyOf_6403c 7 = .ok (.anewarray 2, 3) := by decide +kernel
theorem dJ7_copyOf_6403c_10 : decode cJ7_copyOf_6403c 10 = .ok (.goto 14, 3) := by decide +kernel
theorem dJ7_copyOf_6403c_13 : decode cJ7_copyOf_6403c 13 = .ok (.aload_n 2, 1) := by decide +kernel
theorem dJ7_copyOf_6403c_14 : decode cJ7_copyOf_6403c 14 = .ok (.invokevirtual 90, 3) := by decide +kernel
theorem dJ7_copyOf_6403c_17 : decode cJ7_copyOf_6403c 17 = .ok (.iload_n 1, 1) := by decide +kernel
theorem dJ7_copyOf_6403c_18 : decode cJ7_copyOf_6403c 18 = .ok (.invokestatic 95, 3) := by decide +kernel
theorem dJ7_copyOf_6403c_21 : decode cJ7_copyOf_6403c 21 = .ok (.checkcast 110, 3) := by decide +kernel
theorem dJ7_copyOf_6403c_24 : decode cJ7_copyOf_6403c 24 = .ok (.astore_n 3, 1) := by decide +kernel
theorem dJ7_copyOf_6403c_25 : decode cJ7_copyOf_6403c 25 = .ok (.aload_n 0, 1) := by decide +kernel
theorem dJ7_copyOf_6403c_26 : decode cJ7_copyOf_6403c 26 = .ok (.iconst 0, 1) := by decide +kernel
theorem dJ7_copyOf_6403c_27 : decode cJ7_copyOf_6403c 27 = .ok (.aload_n 3, 1) := by decide +kernel
theorem dJ7_copyOf_6403c_28 : decode cJ7_copyOf_6403c 28 = .ok (.iconst 0, 1) := by decide +kernel
theorem dJ7_copyOf_6403c_29 : decode cJ7_copyOf_6403c 29 = .ok (.aload_n 0, 1) := by decide +kernel
theorem dJ7_copyOf_6403c_30 : decode cJ7_copyOf_6403c 30 = .ok (.arraylength, 1) := by decide +kernel
theorem dJ7_copyOf_6403c_31 : decode cJ7_copyOf_6403c 31 = .ok (.iload_n 1, 1) := by decide +kernel
theorem dJ7_copyOf_6403c_32 : decode cJ7_copyOf_6403c 32 = .ok (.invokestatic 304, 3) := by decide +kernel
theorem dJ7_copyOf_6403c_35 : decode cJ7_copyOf_6403c 35 = .ok (.invokestatic 150, 3) := by decide +kernel
theorem dJ7_copyOf_6403c_38 : decode cJ7_copyOf_6403c 38 = .ok (.aload_n 3, 1) := by decide +kernel
theorem dJ7_copyOf_6403c_39 : decode cJ7_copyOf_6403c 39 = .ok (.areturn, 1) := by decide +kernel
theorem dJ15_checkIndex_7cf53_0 : decode cJ15_checkIndex_7cf53 0 = .ok (.iload_n 0, 1) := by decide +kernel
theorem dJ15_checkIndex_7cf53_1 : decode cJ15_checkIndex_7cf53 1 = .ok (.iload_n 1, 1) := by decide +kernel
theorem dJ15_checkIndex_7cf53_2 : decode cJ15_checkIndex_7cf53 2 = .ok (.aconst_null, 1) := by decide +kernel
theorem dJ15_checkIndex_7cf53_3 : decode cJ15_checkIndex_7cf53 3 = .ok (.invokestatic 105, 3) := by decide +kernel
theorem dJ15_checkIndex_7cf53_6 : decode cJ15_checkIndex_7cf53 6 = .ok (.ireturn, 1) := by decide +kernel
theorem dJ8_newLength_cabcc_0 : decode cJ8_newLength_cabcc 0 = .ok (.iload_n 0, 1) := by decide +kernel
theorem dJ8_newLength_cabcc_1 : decode cJ8_newLength_cabcc 1 = .ok (.iload_n 1, 1) := by decide +kernel
theorem dJ8_newLength_cabcc_2 : decode cJ8_newLength_cabcc 2 = .ok (.iload_n 2, 1) := by decide +kernel
theorem dJ8_newLength_cabcc_3 : decode cJ8_newLength_cabcc 3 = .ok (.invokestatic 194, 3) := by decide +kernel
theorem dJ8_newLength_cabcc_6 : decode cJ8_newLength_cabcc 6 = .ok (.iadd, 1) := by decide +kernel
theorem dJ8_newLength_cabcc_7 : decode cJ8_newLength_cabcc 7 = .ok (.istore_n 3, 1) := by decide +kernel
theorem dJ8_newLength_cabcc_8 : decode cJ8_newLength_cabcc 8 = .ok (.iconst 0, 1) := by decide +kernel
theorem dJ8_newLength_cabcc_9 : decode cJ8_newLength_cabcc 9 = .ok (.iload_n 3, 1) := by decide +kernel
theorem dJ8_newLength_cabcc_10 : decode cJ8_newLength_cabcc 10 = .ok (.if_icmp .ge 11, 3) := by decide +kernel
theorem dJ8_newLength_cabcc_13 : decode cJ8_newLength_cabcc 13 = .ok (.iload_n 3, 1) := by decide +kernel
theorem dJ8_newLength_cabcc_14 : decode cJ8_newLength_cabcc 14 = .ok (.ldc 200, 2) := by decide +kernel
theorem dJ8_newLength_cabcc_16 : decode cJ8_newLength_cabcc 16 = .ok (.if_icmp .gt 5, 3) := by decide +kernel
theorem dJ8_newLength_cabcc_19 : decode cJ8_newLength_cabcc 19 = .ok (.iload_n 3, 1) := by decide +kernel
theorem dJ8_newLength_cabcc_20 : decode cJ8_newLength_cabcc 20 = .ok (.ireturn, 1) := by decide +kernel
theorem dJ8_newLength_cabcc_21 : decode cJ8_newLength_cabcc 21 = .ok (.iload_n 0, 1) := by decide +kernel
theorem dJ8_newLength_cabcc_22 : decode cJ8_newLength_cabcc 22 = .ok (.iload_n 1, 1) := by decide +kernel
theorem dJ8_newLength_cabcc_23 : decode cJ8_newLength_cabcc 23 = .ok (.invokestatic 201, 3) := by decide +kernel
theorem dJ8_newLength_cabcc_26 : decode cJ8_newLength_cabcc 26 = .ok (.ireturn, 1) := by decide +kernel
theorem dJ8_hugeLength_7cf53_0 : decode cJ8_hugeLength_7cf53 0 = .ok (.iload_n 0, 1) := by decide +kernel
theorem dJ8_hugeLength_7cf53_1 : decode cJ8_hugeLength_7cf53 1 = .ok (.iload_n 1, 1) := by decide +kernel
theorem dJ8_hugeLength_7cf53_2 : decode cJ8_hugeLength_7cf53 2 = .ok (.iadd, 1) := by decide +kernel
theorem dJ8_hugeLength_7cf53_3 : decode cJ8_hugeLength_7cf53 3 = .ok (.istore_n 2, 1) := by decide +kernel
theorem dJ8_hugeLength_7cf53_4 : decode cJ8_hugeLength_7cf53 4 = .ok (.iload_n 2, 1) := by decide +kernel
theorem dJ8_hugeLength_7cf53_5 : decode cJ8_hugeLength_7cf53 5 = .ok (.ifCond .ge 44, 3) := by decide +kernel
theorem dJ8_hugeLength_7cf53_8 : decode cJ8_hugeLength_7cf53 8 = .ok (.new 204, 3) := by decide +kernel
theorem dJ8_hugeLength_7cf53_11 : decode cJ8_hugeLength_7cf53 11 = .ok (.dup, 1) := by decide +kernel
theorem dJ8_hugeLength_7cf53_12 : decode cJ8_hugeLength_7cf53 12 = .ok (.new 89, 3) := by decide +kernel
theorem dJ8_hugeLength_7cf53_15 : decode cJ8_hugeLength_7cf53 15 = .ok (.dup, 1) := by decide +kernel
theorem dJ8_hugeLength_7cf53_16 : decode cJ8_hugeLength_7cf53 16 = .ok (.invokespecial 91, 3) := by decide +kernel
theorem dJ8_hugeLength_7cf53_19 : decode cJ8_hugeLength_7cf53 19 = .ok (.ldc 206, 2) := by decide +kernel
theorem dJ8_hugeLength_7cf53_21 : decode cJ8_hugeLength_7cf53 21 = .ok (.invokevirtual 94, 3) := by decide +kernel
theorem dJ8_hugeLength_7cf53_24 : decode cJ8_hugeLength_7cf53 24 = .ok (.iload_n 0, 1) := by decide +kernel
theorem dJ8_hugeLength_7cf53_25 : decode cJ8_hugeLength_7cf53 25 = .ok (.invokevirtual 98, 3) := by decide +kernel
theorem dJ8_hugeLength_7cf53_28 : decode cJ8_hugeLength_7cf53 28 = .ok (.ldc 208, 2) := by decide +kernel
theorem dJ8_hugeLength_7cf53_30 : decode cJ8_hugeLength_7cf53 30 = .ok (.invokevirtual 94, 3) := by decide +kernel
theorem dJ8_hugeLength_7cf53_33 : decode cJ8_hugeLength_7cf53 33 = .ok (.iload_n 1, 1) := by decide +kernel
theorem dJ8_hugeLength_7cf53_34 : decode cJ8_hugeLength_7cf53 34 = .ok (.invokevirtual 98, 3) := by decide +kernel
theorem dJ8_hugeLength_7cf53_37 : decode cJ8_hugeLength_7cf53 37 = .ok (.ldc 210, 2) := by decide +kernel
theorem dJ8_hugeLength_7cf53_39 : decode cJ8_hugeLength_7cf53 39 = .ok (.invokevirtual 94, 3) := by decide +kernel
theorem dJ8_hugeLength_7cf53_42 : decode cJ8_hugeLength_7cf53 42 = .ok (.invokevirtual 101, 3) := by decide +kernel
theorem dJ8_hugeLength_7cf53_45 : decode cJ8_hugeLength_7cf53 45 = .ok (.invokespecial 212, 3) := by decide +kernel
theorem dJ8_hugeLength_7cf53_48 : decode cJ8_hugeLength_7cf53 48 = .ok (.athrow, 1) := by decide +kernel
theorem dJ8_hugeLength_7cf53_49 : decode cJ8_hugeLength_7cf53 49 = .ok (.iload_n 2, 1) := by decide +kernel
theorem dJ8_hugeLength_7cf53_50 : decode cJ8_hugeLength_7cf53 50 = .ok (.ldc 200, 2) := by decide +kernel
theorem dJ8_hugeLength_7cf53_52 : decode cJ8_hugeLength_7cf53 52 = .ok (.if_icmp .gt 6, 3) := by decide +kernel
theorem dJ8_hugeLength_7cf53_55 : decode cJ8_hugeLength_7cf53 55 = .ok (.ldc 200, 2) := by decide +kernel
theorem dJ8_hugeLength_7cf53_57 : decode cJ8_hugeLength_7cf53 57 = .ok (.ireturn, 1) := by decide +kernel
theorem dJ8_hugeLength_7cf53_58 : decode cJ8_hugeLength_7cf53 58 = .ok (.iload_n 2, 1) := by decide +kernel
theorem dJ8_hugeLength_7cf53_59 : decode cJ8_hugeLength_7cf53 59 = .ok (.ireturn, 1) := by decide +kernel
theorem dJ3_checkIndex_8e157_0 : decode cJ3_checkIndex_8e157 0 = .ok (.iload_n 0, 1) := by decide +kernel
theorem dJ3_checkIndex_8e157_1 : decode cJ3_checkIndex_8e157 1 = .ok (.ifCond .lt 8, 3) := by decide +kernel
theorem dJ3_checkIndex_8e157_4 : decode cJ3_checkIndex_8e157 4 = .ok (.iload_n 0, 1) := by decide +kernel
theorem dJ3_checkIndex_8e157_5 : decode cJ3_checkIndex_8e157 5 = .ok (.iload_n 1, 1) := by decide +kernel
theorem dJ3_checkIndex_8e157_6 : decode cJ3_checkIndex_8e157 6 = .ok (.if_icmp .lt 10, 3) := by decide +kernel
theorem dJ3_checkIndex_8e157_9 : decode cJ3_checkIndex_8e157 9 = .ok (.aload_n 2, 1) := by decide +kernel
theorem dJ3_checkIndex_8e157_10 : decode cJ3_checkIndex_8e157 10 = .ok (.iload_n 0, 1) := by decide +kernel
theorem dJ3_checkIndex_8e157_11 : decode cJ3_checkIndex_8e157 11 = .ok (.iload_n 1, 1) := by decide +kernel
theorem dJ3_checkIndex_8e157_12 : decode cJ3_checkIndex_8e157 12 = .ok (.invokestatic 95, 3) := by decide +kernel
theorem dJ3_checkIndex_8e157_15 : decode cJ3_checkIndex_8e157 15 = .ok (.athrow, 1) := by decide +kernel
theorem dJ3_checkIndex_8e157_16 : decode cJ3_checkIndex_8e157 16 = .ok (.iload_n 0, 1) := by decide +kernel
theorem dJ3_checkIndex_8e157_17 : decode cJ3_checkIndex_8e157 17 = .ok (.ireturn, 1) := by decide +kernel
theorem dJ3_checkFromToIndex_8c36e_0 : decode cJ3_checkFromToIndex_8c36e 0 = .ok (.iload_n 0, 1) := by decide +kernel
theorem dJ3_checkFromToIndex_8c36e_1 : decode cJ3_checkFromToIndex_8c36e 1 = .ok (.ifCond .lt 13, 3) := by decide +kernel
theorem dJ3_checkFromToIndex_8c36e_4 : decode cJ3_checkFromToIndex_8c36e 4 = .ok (.iload_n 0, 1) := by decide +kernel
theorem dJ3_checkFromToIndex_8c36e_5 : decode cJ3_checkFromToIndex_8c36e 5 = .ok (.iload_n 1, 1) := by decide +kernel
theorem dJ3_checkFromToIndex_8c36e_6 : decode cJ3_checkFromToIndex_8c36e 6 = .ok (.if_icmp .gt 8, 3) := by decide +kernel
theorem dJ3_checkFromToIndex_8c36e_9 : decode cJ3_checkFromToIndex_8c36e 9 = .ok (.iload_n 1, 1) := by decide +kernel
theorem dJ3_checkFromToIndex_8c36e_10 : decode cJ3_checkFromToIndex_8c36e 10 = .ok (.iload_n 2, 1) := by decide +kernel
theorem dJ3_checkFromToIndex_8c36e_11 : decode cJ3_checkFromToIndex_8c36e 11 = .ok (.if_icmp .le 11, 3) := by decide +kernel
theorem dJ3_checkFromToIndex_8c36e_14 : decode cJ3_checkFromToIndex_8c36e 14 = .ok (.aload_n 3, 1) := by decide +kernel
theorem dJ3_checkFromToIndex_8c36e_15 : decode cJ3_checkFromToIndex_8c36e 15 = .ok (.iload_n 0, 1) := by decide +kernel
theorem dJ3_checkFromToIndex_8c36e_16 : decode cJ3_checkFromToIndex_8c36e 16 = .ok (.iload_n 1, 1) := by decide +kernel
theorem dJ3_checkFromToIndex_8c36e_17 : decode cJ3_checkFromToIndex_8c36e 17 = .ok (.iload_n 2, 1) := by decide +kernel
theorem dJ3_checkFromToIndex_8c36e_18 : decode cJ3_checkFromToIndex_8c36e 18 = .ok (.invokestatic 99, 3) := by decide +kernel
theorem dJ3_checkFromToIndex_8c36e_21 : decode cJ3_checkFromToIndex_8c36e 21 = .ok (.athrow, 1) := by decide +kernel
theorem dJ3_checkFromToIndex_8c36e_22 : decode cJ3_checkFromToIndex_8c36e 22 = .ok (.iload_n 0, 1) := by decide +kernel
theorem dJ3_checkFromToIndex_8c36e_23 : decode cJ3_checkFromToIndex_8c36e 23 = .ok (.ireturn, 1) := by decide +kernel
theorem dL_type_0 : decode cL_type 0 = .ok (.aload_n 2, 1) := by decide +kernel
theorem dL_type_1 : decode cL_type 1 = .ok (.iconst 0, 1) := by decide +kernel
theorem dL_type_2 : decode cL_type 2 = .ok (.aload_n 0, 1) := by decide +kernel
theorem dL_type_3 : decode cL_type 3 = .ok (.iload_n 1, 1) := by decide +kernel
theorem dL_type_4 : decode cL_type 4 = .ok (.invokevirtual 7, 3) := by decide +kernel
theorem dL_type_7 : decode cL_type 7 = .ok (.i2l, 1) := by decide +kernel
theorem dL_type_8 : decode cL_type 8 = .ok (.lastore, 1) := by decide +kernel
theorem dL_type_9 : decode cL_type 9 = .ok (.goto 9, 3) := by decide +kernel
theorem dL_type_12 : decode cL_type 12 = .ok (.astore_n 3, 1) := by decide +kernel
theorem dL_type_13 : decode cL_type 13 = .ok (.iconst 1, 1) := by decide +kernel
theorem dL_type_14 : decode cL_type 14 = .ok (.ireturn, 1) := by decide +kernel
theorem dL_type_15 : decode cL_type 15 = .ok (.astore_n 3, 1) := by decide +kernel
theorem dL_type_16 : decode cL_type 16 = .ok (.iconst 2, 1) := by decide +kernel
theorem dL_type_17 : decode cL_type 17 = .ok (.ireturn, 1) := by decide +kernel
theorem dL_type_18 : decode cL_type 18 = .ok (.iconst 0, 1) := by decide +kernel
theorem dL_type_19 : decode cL_type 19 = .ok (.ireturn, 1) := by decide +kernel
theorem dL_uniform_0 : decode cL_uniform 0 = .ok (.aload_n 3, 1) := by decide +kernel
theorem dL_uniform_1 : decode cL_uniform 1 = .ok (.iconst 0, 1) := by decide +kernel
theorem dL_uniform_2 : decode cL_uniform 2 = .ok (.aload_n 0, 1) := by decide +kernel
theorem dL_uniform_3 : decode cL_uniform 3 = .ok (.iload_n 1, 1) := by decide +kernel
theorem dL_uniform_4 : decode cL_uniform 4 = .ok (.iload_n 2, 1) := by decide +kernel
theorem dL_uniform_5 : decode cL_uniform 5 = .ok (.invokevirtual 17, 3) := by decide +kernel
theorem dL_uniform_8 : decode cL_uniform 8 = .ok (.i2l, 1) := by decide +kernel
theorem dL_uniform_9 : decode cL_uniform 9 = .ok (.lastore, 1) := by decide +kernel
theorem dL_uniform_10 : decode cL_uniform 10 = .ok (.goto 11, 3) := by decide +kernel
theorem dL_uniform_13 : decode cL_uniform 13 = .ok (.astore 4, 2) := by decide +kernel
theorem dL_uniform_15 : decode cL_uniform 15 = .ok (.iconst 1, 1) := by decide +kernel
theorem dL_uniform_16 : decode cL_uniform 16 = .ok (.ireturn, 1) := by decide +kernel
theorem dL_uniform_17 : decode cL_uniform 17 = .ok (.astore 4, 2) := by decide +kernel
theorem dL_uniform_19 : decode cL_uniform 19 = .ok (.iconst 2, 1) := by decide +kernel
theorem dL_uniform_20 : decode cL_uniform 20 = .ok (.ireturn, 1) := by decide +kernel
theorem dL_uniform_21 : decode cL_uniform 21 = .ok (.iconst 0, 1) := by decide +kernel
theorem dL_uniform_22 : decode cL_uniform 22 = .ok (.ireturn, 1) := by decide +kernel
theorem dL_graph_0 : decode cL_graph 0 = .ok (.aload_n 1, 1) := by decide +kernel
theorem dL_graph_1 : decode cL_graph 1 = .ok (.iconst 0, 1) := by decide +kernel
theorem dL_graph_2 : decode cL_graph 2 = .ok (.aload_n 0, 1) := by decide +kernel
theorem dL_graph_3 : decode cL_graph 3 = .ok (.invokevirtual 21, 3) := by decide +kernel
theorem dL_graph_6 : decode cL_graph 6 = .ok (.i2l, 1) := by decide +kernel
theorem dL_graph_7 : decode cL_graph 7 = .ok (.lastore, 1) := by decide +kernel
theorem dL_graph_8 : decode cL_graph 8 = .ok (.goto 9, 3) := by decide +kernel
theorem dL_graph_11 : decode cL_graph 11 = .ok (.astore_n 2, 1) := by decide +kernel
theorem dL_graph_12 : decode cL_graph 12 = .ok (.iconst 1, 1) := by decide +kernel
theorem dL_graph_13 : decode cL_graph 13 = .ok (.ireturn, 1) := by decide +kernel
theorem dL_graph_14 : decode cL_graph 14 = .ok (.astore_n 2, 1) := by decide +kernel
theorem dL_graph_15 : decode cL_graph 15 = .ok (.iconst 2, 1) := by decide +kernel
theorem dL_graph_16 : decode cL_graph 16 = .ok (.ireturn, 1) := by decide +kernel
theorem dL_graph_17 : decode cL_graph 17 = .ok (.iconst 0, 1) := by decide +kernel
theorem dL_graph_18 : decode cL_graph 18 = .ok (.ireturn, 1) := by decide +kernel
theorem dL_columns_0 : decode cL_columns 0 = .ok (.aload_n 3, 1) := by decide +kernel
theorem dL_columns_1 : decode cL_columns 1 = .ok (.iconst 0, 1) := by decide +kernel
theorem dL_columns_2 : decode cL_columns 2 = .ok (.aload_n 0, 1) := by decide +kernel
theorem dL_columns_3 : decode cL_columns 3 = .ok (.iload_n 1, 1) := by decide +kernel
theorem dL_columns_4 : decode cL_columns 4 = .ok (.iload_n 2, 1) := by decide +kernel
theorem dL_columns_5 : decode cL_columns 5 = .ok (.invokevirtual 27, 3) := by decide +kernel
theorem dL_columns_8 : decode cL_columns 8 = .ok (.i2l, 1) := by decide +kernel
theorem dL_columns_9 : decode cL_columns 9 = .ok (.lastore, 1) := by decide +kernel
theorem dL_columns_10 : decode cL_columns 10 = .ok (.goto 15, 3) := by decide +kernel
theorem dL_columns_13 : decode cL_columns 13 = .ok (.astore 4, 2) := by decide +kernel
theorem dL_columns_15 : decode cL_columns 15 = .ok (.iconst 1, 1) := by decide +kernel
theorem dL_columns_16 : decode cL_columns 16 = .ok (.ireturn, 1) := by decide +kernel
theorem dL_columns_17 : decode cL_columns 17 = .ok (.astore 4, 2) := by decide +kernel
theorem dL_columns_19 : decode cL_columns 19 = .ok (.iconst 2, 1) := by decide +kernel
theorem dL_columns_20 : decode cL_columns 20 = .ok (.ireturn, 1) := by decide +kernel
theorem dL_columns_21 : decode cL_columns 21 = .ok (.astore 4, 2) := by decide +kernel
theorem dL_columns_23 : decode cL_columns 23 = .ok (.iconst 3, 1) := by decide +kernel
theorem dL_columns_24 : decode cL_columns 24 = .ok (.ireturn, 1) := by decide +kernel
theorem dL_columns_25 : decode cL_columns 25 = .ok (.iconst 0, 1) := by decide +kernel
theorem dL_columns_26 : decode cL_columns 26 = .ok (.ireturn, 1) := by decide +kernel
theorem dL_meeting_0 : decode cL_meeting 0 = .ok (.aload_n 2, 1) := by decide +kernel
theorem dL_meeting_1 : decode cL_meeting 1 = .ok (.iconst 0, 1) := by decide +kernel
theorem dL_meeting_2 : decode cL_meeting 2 = .ok (.aload_n 0, 1) := by decide +kernel
theorem dL_meeting_3 : decode cL_meeting 3 = .ok (.iload_n 1, 1) := by decide +kernel
theorem dL_meeting_4 : decode cL_meeting 4 = .ok (.invokevirtual 30, 3) := by decide +kernel
theorem dL_meeting_7 : decode cL_meeting 7 = .ok (.i2l, 1) := by decide +kernel
theorem dL_meeting_8 : decode cL_meeting 8 = .ok (.lastore, 1) := by decide +kernel
theorem dL_meeting_9 : decode cL_meeting 9 = .ok (.goto 12, 3) := by decide +kernel
theorem dL_meeting_12 : decode cL_meeting 12 = .ok (.astore_n 3, 1) := by decide +kernel
theorem dL_meeting_13 : decode cL_meeting 13 = .ok (.iconst 1, 1) := by decide +kernel
theorem dL_meeting_14 : decode cL_meeting 14 = .ok (.ireturn, 1) := by decide +kernel
theorem dL_meeting_15 : decode cL_meeting 15 = .ok (.astore_n 3, 1) := by decide +kernel
theorem dL_meeting_16 : decode cL_meeting 16 = .ok (.iconst 2, 1) := by decide +kernel
theorem dL_meeting_17 : decode cL_meeting 17 = .ok (.ireturn, 1) := by decide +kernel
theorem dL_meeting_18 : decode cL_meeting 18 = .ok (.astore_n 3, 1) := by decide +kernel
theorem dL_meeting_19 : decode cL_meeting 19 = .ok (.iconst 3, 1) := by decide +kernel
theorem dL_meeting_20 : decode cL_meeting 20 = .ok (.ireturn, 1) := by decide +kernel
theorem dL_meeting_21 : decode cL_meeting 21 = .ok (.iconst 0, 1) := by decide +kernel
theorem dL_meeting_22 : decode cL_meeting 22 = .ok (.ireturn, 1) := by decide +kernel
theorem dL_bases_0 : decode cL_bases 0 = .ok (.aload_n 2, 1) := by decide +kernel
theorem dL_bases_1 : decode cL_bases 1 = .ok (.iconst 0, 1) := by decide +kernel
theorem dL_bases_2 : decode cL_bases 2 = .ok (.aload_n 0, 1) := by decide +kernel
theorem dL_bases_3 : decode cL_bases 3 = .ok (.iload_n 1, 1) := by decide +kernel
theorem dL_bases_4 : decode cL_bases 4 = .ok (.invokevirtual 33, 3) := by decide +kernel
theorem dL_bases_7 : decode cL_bases 7 = .ok (.i2l, 1) := by decide +kernel
theorem dL_bases_8 : decode cL_bases 8 = .ok (.lastore, 1) := by decide +kernel
theorem dL_bases_9 : decode cL_bases 9 = .ok (.goto 12, 3) := by decide +kernel
theorem dL_bases_12 : decode cL_bases 12 = .ok (.astore_n 3, 1) := by decide +kernel
theorem dL_bases_13 : decode cL_bases 13 = .ok (.iconst 1, 1) := by decide +kernel
theorem dL_bases_14 : decode cL_bases 14 = .ok (.ireturn, 1) := by decide +kernel
theorem dL_bases_15 : decode cL_bases 15 = .ok (.astore_n 3, 1) := by decide +kernel
theorem dL_bases_16 : decode cL_bases 16 = .ok (.iconst 2, 1) := by decide +kernel
theorem dL_bases_17 : decode cL_bases 17 = .ok (.ireturn, 1) := by decide +kernel
theorem dL_bases_18 : decode cL_bases 18 = .ok (.astore_n 3, 1) := by decide +kernel
theorem dL_bases_19 : decode cL_bases 19 = .ok (.iconst 3, 1) := by decide +kernel
theorem dL_bases_20 : decode cL_bases 20 = .ok (.ireturn, 1) := by decide +kernel
theorem dL_bases_21 : decode cL_bases 21 = .ok (.iconst 0, 1) := by decide +kernel
theorem dL_bases_22 : decode cL_bases 22 = .ok (.ireturn, 1) := by decide +kernel
theorem dL_broken_0 : decode cL_broken 0 = .ok (.aload_n 2, 1) := by decide +kernel
theorem dL_broken_1 : decode cL_broken 1 = .ok (.iconst 0, 1) := by decide +kernel
theorem dL_broken_2 : decode cL_broken 2 = .ok (.aload_n 0, 1) := by decide +kernel
theorem dL_broken_3 : decode cL_broken 3 = .ok (.iload_n 1, 1) := by decide +kernel
theorem dL_broken_4 : decode cL_broken 4 = .ok (.invokevirtual 36, 3) := by decide +kernel
theorem dL_broken_7 : decode cL_broken 7 = .ok (.i2l, 1) := by decide +kernel
theorem dL_broken_8 : decode cL_broken 8 = .ok (.lastore, 1) := by decide +kernel
theorem dL_broken_9 : decode cL_broken 9 = .ok (.goto 9, 3) := by decide +kernel
theorem dL_broken_12 : decode cL_broken 12 = .ok (.astore_n 3, 1) := by decide +kernel
theorem dL_broken_13 : decode cL_broken 13 = .ok (.iconst 1, 1) := by decide +kernel
theorem dL_broken_14 : decode cL_broken 14 = .ok (.ireturn, 1) := by decide +kernel
theorem dL_broken_15 : decode cL_broken 15 = .ok (.astore_n 3, 1) := by decide +kernel
theorem dL_broken_16 : decode cL_broken 16 = .ok (.iconst 2, 1) := by decide +kernel
theorem dL_broken_17 : decode cL_broken 17 = .ok (.ireturn, 1) := by decide +kernel
theorem dL_broken_18 : decode cL_broken 18 = .ok (.iconst 0, 1) := by decide +kernel
theorem dL_broken_19 : decode cL_broken 19 = .ok (.ireturn, 1) := by decide +kernel
theorem dL_dual_0 : decode cL_dual 0 = .ok (.aload_n 2, 1) := by decide +kernel
theorem dL_dual_1 : decode cL_dual 1 = .ok (.iconst 0, 1) := by decide +kernel
theorem dL_dual_2 : decode cL_dual 2 = .ok (.aload_n 0, 1) := by decide +kernel
theorem dL_dual_3 : decode cL_dual 3 = .ok (.iload_n 1, 1) := by decide +kernel
theorem dL_dual_4 : decode cL_dual 4 = .ok (.invokevirtual 42, 3) := by decide +kernel
theorem dL_dual_7 : decode cL_dual 7 = .ok (.i2l, 1) := by decide +kernel
theorem dL_dual_8 : decode cL_dual 8 = .ok (.lastore, 1) := by decide +kernel
theorem dL_dual_9 : decode cL_dual 9 = .ok (.goto 9, 3) := by decide +kernel
theorem dL_dual_12 : decode cL_dual 12 = .ok (.astore_n 3, 1) := by decide +kernel
theorem dL_dual_13 : decode cL_dual 13 = .ok (.iconst 1, 1) := by decide +kernel
theorem dL_dual_14 : decode cL_dual 14 = .ok (.ireturn, 1) := by decide +kernel
theorem dL_dual_15 : decode cL_dual 15 = .ok (.astore_n 3, 1) := by decide +kernel
theorem dL_dual_16 : decode cL_dual 16 = .ok (.iconst 2, 1) := by decide +kernel
theorem dL_dual_17 : decode cL_dual 17 = .ok (.ireturn, 1) := by decide +kernel
theorem dL_dual_18 : decode cL_dual 18 = .ok (.iconst 0, 1) := by decide +kernel
theorem dL_dual_19 : decode cL_dual 19 = .ok (.ireturn, 1) := by decide +kernel
theorem dL_delete_0 : decode cL_delete 0 = .ok (.aload_n 3, 1) := by decide +kernel
theorem dL_delete_1 : decode cL_delete 1 = .ok (.iconst 0, 1) := by decide +kernel
theorem dL_delete_2 : decode cL_delete 2 = .ok (.aload_n 0, 1) := by decide +kernel
theorem dL_delete_3 : decode cL_delete 3 = .ok (.iload_n 1, 1) := by decide +kernel
theorem dL_delete_4 : decode cL_delete 4 = .ok (.iload_n 2, 1) := by decide +kernel
theorem dL_delete_5 : decode cL_delete 5 = .ok (.invokevirtual 47, 3) := by decide +kernel
theorem dL_delete_8 : decode cL_delete 8 = .ok (.i2l, 1) := by decide +kernel
theorem dL_delete_9 : decode cL_delete 9 = .ok (.lastore, 1) := by decide +kernel
theorem dL_delete_10 : decode cL_delete 10 = .ok (.goto 11, 3) := by decide +kernel
theorem dL_delete_13 : decode cL_delete 13 = .ok (.astore 4, 2) := by decide +kernel
theorem dL_delete_15 : decode cL_delete 15 = .ok (.iconst 1, 1) := by decide +kernel
theorem dL_delete_16 : decode cL_delete 16 = .ok (.ireturn, 1) := by decide +kernel
theorem dL_delete_17 : decode cL_delete 17 = .ok (.astore 4, 2) := by decide +kernel
theorem dL_delete_19 : decode cL_delete 19 = .ok (.iconst 2, 1) := by decide +kernel
theorem dL_delete_20 : decode cL_delete 20 = .ok (.ireturn, 1) := by decide +kernel
theorem dL_delete_21 : decode cL_delete 21 = .ok (.iconst 0, 1) := by decide +kernel
theorem dL_delete_22 : decode cL_delete 22 = .ok (.ireturn, 1) := by decide +kernel
theorem dL_contract_0 : decode cL_contract 0 = .ok (.aload_n 3, 1) := by decide +kernel
theorem dL_contract_1 : decode cL_contract 1 = .ok (.iconst 0, 1) := by decide +kernel
theorem dL_contract_2 : decode cL_contract 2 = .ok (.aload_n 0, 1) := by decide +kernel
theorem dL_contract_3 : decode cL_contract 3 = .ok (.iload_n 1, 1) := by decide +kernel
theorem dL_contract_4 : decode cL_contract 4 = .ok (.iload_n 2, 1) := by decide +kernel
theorem dL_contract_5 : decode cL_contract 5 = .ok (.invokevirtual 50, 3) := by decide +kernel
theorem dL_contract_8 : decode cL_contract 8 = .ok (.i2l, 1) := by decide +kernel
theorem dL_contract_9 : decode cL_contract 9 = .ok (.lastore, 1) := by decide +kernel
theorem dL_contract_10 : decode cL_contract 10 = .ok (.goto 11, 3) := by decide +kernel
theorem dL_contract_13 : decode cL_contract 13 = .ok (.astore 4, 2) := by decide +kernel
theorem dL_contract_15 : decode cL_contract 15 = .ok (.iconst 1, 1) := by decide +kernel
theorem dL_contract_16 : decode cL_contract 16 = .ok (.ireturn, 1) := by decide +kernel
theorem dL_contract_17 : decode cL_contract 17 = .ok (.astore 4, 2) := by decide +kernel
theorem dL_contract_19 : decode cL_contract 19 = .ok (.iconst 2, 1) := by decide +kernel
theorem dL_contract_20 : decode cL_contract 20 = .ok (.ireturn, 1) := by decide +kernel
theorem dL_contract_21 : decode cL_contract 21 = .ok (.iconst 0, 1) := by decide +kernel
theorem dL_contract_22 : decode cL_contract 22 = .ok (.ireturn, 1) := by decide +kernel
theorem dL_sum_0 : decode cL_sum 0 = .ok (.aload_n 3, 1) := by decide +kernel
theorem dL_sum_1 : decode cL_sum 1 = .ok (.iconst 0, 1) := by decide +kernel
theorem dL_sum_2 : decode cL_sum 2 = .ok (.aload_n 0, 1) := by decide +kernel
theorem dL_sum_3 : decode cL_sum 3 = .ok (.iload_n 1, 1) := by decide +kernel
theorem dL_sum_4 : decode cL_sum 4 = .ok (.iload_n 2, 1) := by decide +kernel
theorem dL_sum_5 : decode cL_sum 5 = .ok (.invokevirtual 53, 3) := by decide +kernel
theorem dL_sum_8 : decode cL_sum 8 = .ok (.i2l, 1) := by decide +kernel
theorem dL_sum_9 : decode cL_sum 9 = .ok (.lastore, 1) := by decide +kernel
theorem dL_sum_10 : decode cL_sum 10 = .ok (.goto 15, 3) := by decide +kernel
theorem dL_sum_13 : decode cL_sum 13 = .ok (.astore 4, 2) := by decide +kernel
theorem dL_sum_15 : decode cL_sum 15 = .ok (.iconst 1, 1) := by decide +kernel
theorem dL_sum_16 : decode cL_sum 16 = .ok (.ireturn, 1) := by decide +kernel
theorem dL_sum_17 : decode cL_sum 17 = .ok (.astore 4, 2) := by decide +kernel
theorem dL_sum_19 : decode cL_sum 19 = .ok (.iconst 2, 1) := by decide +kernel
theorem dL_sum_20 : decode cL_sum 20 = .ok (.ireturn, 1) := by decide +kernel
theorem dL_sum_21 : decode cL_sum 21 = .ok (.astore 4, 2) := by decide +kernel
theorem dL_sum_23 : decode cL_sum 23 = .ok (.iconst 3, 1) := by decide +kernel
theorem dL_sum_24 : decode cL_sum 24 = .ok (.ireturn, 1) := by decide +kernel
theorem dL_sum_25 : decode cL_sum 25 = .ok (.iconst 0, 1) := by decide +kernel
theorem dL_sum_26 : decode cL_sum 26 = .ok (.ireturn, 1) := by decide +kernel
theorem dL_union_0 : decode cL_union 0 = .ok (.aload_n 3, 1) := by decide +kernel
theorem dL_union_1 : decode cL_union 1 = .ok (.iconst 0, 1) := by decide +kernel
theorem dL_union_2 : decode cL_union 2 = .ok (.aload_n 0, 1) := by decide +kernel
theorem dL_union_3 : decode cL_union 3 = .ok (.iload_n 1, 1) := by decide +kernel
theorem dL_union_4 : decode cL_union 4 = .ok (.iload_n 2, 1) := by decide +kernel
theorem dL_union_5 : decode cL_union 5 = .ok (.invokevirtual 56, 3) := by decide +kernel
theorem dL_union_8 : decode cL_union 8 = .ok (.i2l, 1) := by decide +kernel
theorem dL_union_9 : decode cL_union 9 = .ok (.lastore, 1) := by decide +kernel
theorem dL_union_10 : decode cL_union 10 = .ok (.goto 15, 3) := by decide +kernel
theorem dL_union_13 : decode cL_union 13 = .ok (.astore 4, 2) := by decide +kernel
theorem dL_union_15 : decode cL_union 15 = .ok (.iconst 1, 1) := by decide +kernel
theorem dL_union_16 : decode cL_union 16 = .ok (.ireturn, 1) := by decide +kernel
theorem dL_union_17 : decode cL_union 17 = .ok (.astore 4, 2) := by decide +kernel
theorem dL_union_19 : decode cL_union 19 = .ok (.iconst 2, 1) := by decide +kernel
theorem dL_union_20 : decode cL_union 20 = .ok (.ireturn, 1) := by decide +kernel
theorem dL_union_21 : decode cL_union 21 = .ok (.astore 4, 2) := by decide +kernel
theorem dL_union_23 : decode cL_union 23 = .ok (.iconst 3, 1) := by decide +kernel
theorem dL_union_24 : decode cL_union 24 = .ok (.ireturn, 1) := by decide +kernel
theorem dL_union_25 : decode cL_union 25 = .ok (.iconst 0, 1) := by decide +kernel
theorem dL_union_26 : decode cL_union 26 = .ok (.ireturn, 1) := by decide +kernel
theorem dL_truncate_0 : decode cL_truncate 0 = .ok (.aload_n 2, 1) := by decide +kernel
theorem dL_truncate_1 : decode cL_truncate 1 = .ok (.iconst 0, 1) := by decide +kernel
theorem dL_truncate_2 : decode cL_truncate 2 = .ok (.aload_n 0, 1) := by decide +kernel
theorem dL_truncate_3 : decode cL_truncate 3 = .ok (.iload_n 1, 1) := by decide +kernel
theorem dL_truncate_4 : decode cL_truncate 4 = .ok (.invokevirtual 59, 3) := by decide +kernel
theorem dL_truncate_7 : decode cL_truncate 7 = .ok (.i2l, 1) := by decide +kernel
theorem dL_truncate_8 : decode cL_truncate 8 = .ok (.lastore, 1) := by decide +kernel
theorem dL_truncate_9 : decode cL_truncate 9 = .ok (.goto 12, 3) := by decide +kernel
theorem dL_truncate_12 : decode cL_truncate 12 = .ok (.astore_n 3, 1) := by decide +kernel
theorem dL_truncate_13 : decode cL_truncate 13 = .ok (.iconst 1, 1) := by decide +kernel
theorem dL_truncate_14 : decode cL_truncate 14 = .ok (.ireturn, 1) := by decide +kernel
theorem dL_truncate_15 : decode cL_truncate 15 = .ok (.astore_n 3, 1) := by decide +kernel
theorem dL_truncate_16 : decode cL_truncate 16 = .ok (.iconst 2, 1) := by decide +kernel
theorem dL_truncate_17 : decode cL_truncate 17 = .ok (.ireturn, 1) := by decide +kernel
theorem dL_truncate_18 : decode cL_truncate 18 = .ok (.astore_n 3, 1) := by decide +kernel
theorem dL_truncate_19 : decode cL_truncate 19 = .ok (.iconst 3, 1) := by decide +kernel
theorem dL_truncate_20 : decode cL_truncate 20 = .ok (.ireturn, 1) := by decide +kernel
theorem dL_truncate_21 : decode cL_truncate 21 = .ok (.iconst 0, 1) := by decide +kernel
theorem dL_truncate_22 : decode cL_truncate 22 = .ok (.ireturn, 1) := by decide +kernel
theorem dL_relax_0 : decode cL_relax 0 = .ok (.aload_n 3, 1) := by decide +kernel
theorem dL_relax_1 : decode cL_relax 1 = .ok (.iconst 0, 1) := by decide +kernel
theorem dL_relax_2 : decode cL_relax 2 = .ok (.aload_n 0, 1) := by decide +kernel
theorem dL_relax_3 : decode cL_relax 3 = .ok (.iload_n 1, 1) := by decide +kernel
theorem dL_relax_4 : decode cL_relax 4 = .ok (.iload_n 2, 1) := by decide +kernel
theorem dL_relax_5 : decode cL_relax 5 = .ok (.invokevirtual 62, 3) := by decide +kernel
theorem dL_relax_8 : decode cL_relax 8 = .ok (.i2l, 1) := by decide +kernel
theorem dL_relax_9 : decode cL_relax 9 = .ok (.lastore, 1) := by decide +kernel
theorem dL_relax_10 : decode cL_relax 10 = .ok (.goto 19, 3) := by decide +kernel
theorem dL_relax_13 : decode cL_relax 13 = .ok (.astore 4, 2) := by decide +kernel
theorem dL_relax_15 : decode cL_relax 15 = .ok (.iconst 1, 1) := by decide +kernel
theorem dL_relax_16 : decode cL_relax 16 = .ok (.ireturn, 1) := by decide +kernel
theorem dL_relax_17 : decode cL_relax 17 = .ok (.astore 4, 2) := by decide +kernel
theorem dL_relax_19 : decode cL_relax 19 = .ok (.iconst 2, 1) := by decide +kernel
theorem dL_relax_20 : decode cL_relax 20 = .ok (.ireturn, 1) := by decide +kernel
theorem dL_relax_21 : decode cL_relax 21 = .ok (.astore 4, 2) := by decide +kernel
theorem dL_relax_23 : decode cL_relax 23 = .ok (.iconst 3, 1) := by decide +kernel
theorem dL_relax_24 : decode cL_relax 24 = .ok (.ireturn, 1) := by decide +kernel
theorem dL_relax_25 : decode cL_relax 25 = .ok (.astore 4, 2) := by decide +kernel
theorem dL_relax_27 : decode cL_relax 27 = .ok (.iconst 4, 1) := by decide +kernel
theorem dL_relax_28 : decode cL_relax 28 = .ok (.ireturn, 1) := by decide +kernel
theorem dL_relax_29 : decode cL_relax 29 = .ok (.iconst 0, 1) := by decide +kernel
theorem dL_relax_30 : decode cL_relax 30 = .ok (.ireturn, 1) := by decide +kernel
theorem dL_extend_0 : decode cL_extend 0 = .ok (.aload_n 3, 1) := by decide +kernel
theorem dL_extend_1 : decode cL_extend 1 = .ok (.iconst 0, 1) := by decide +kernel
theorem dL_extend_2 : decode cL_extend 2 = .ok (.aload_n 0, 1) := by decide +kernel
theorem dL_extend_3 : decode cL_extend 3 = .ok (.iload_n 1, 1) := by decide +kernel
theorem dL_extend_4 : decode cL_extend 4 = .ok (.iload_n 2, 1) := by decide +kernel
theorem dL_extend_5 : decode cL_extend 5 = .ok (.invokevirtual 65, 3) := by decide +kernel
theorem dL_extend_8 : decode cL_extend 8 = .ok (.i2l, 1) := by decide +kernel
theorem dL_extend_9 : decode cL_extend 9 = .ok (.lastore, 1) := by decide +kernel
theorem dL_extend_10 : decode cL_extend 10 = .ok (.goto 19, 3) := by decide +kernel
theorem dL_extend_13 : decode cL_extend 13 = .ok (.astore 4, 2) := by decide +kernel
theorem dL_extend_15 : decode cL_extend 15 = .ok (.iconst 1, 1) := by decide +kernel
theorem dL_extend_16 : decode cL_extend 16 = .ok (.ireturn, 1) := by decide +kernel
theorem dL_extend_17 : decode cL_extend 17 = .ok (.astore 4, 2) := by decide +kernel
theorem dL_extend_19 : decode cL_extend 19 = .ok (.iconst 2, 1) := by decide +kernel
theorem dL_extend_20 : decode cL_extend 20 = .ok (.ireturn, 1) := by decide +kernel
theorem dL_extend_21 : decode cL_extend 21 = .ok (.astore 4, 2) := by decide +kernel
theorem dL_extend_23 : decode cL_extend 23 = .ok (.iconst 3, 1) := by decide +kernel
theorem dL_extend_24 : decode cL_extend 24 = .ok (.ireturn, 1) := by decide +kernel
theorem dL_extend_25 : decode cL_extend 25 = .ok (.astore 4, 2) := by decide +kernel
theorem dL_extend_27 : decode cL_extend 27 = .ok (.iconst 4, 1) := by decide +kernel
theorem dL_extend_28 : decode cL_extend 28 = .ok (.ireturn, 1) := by decide +kernel
theorem dL_extend_29 : decode cL_extend 29 = .ok (.iconst 0, 1) := by decide +kernel
theorem dL_extend_30 : decode cL_extend 30 = .ok (.ireturn, 1) := by decide +kernel
theorem dL_size_0 : decode cL_size 0 = .ok (.aload_n 2, 1) := by decide +kernel
theorem dL_size_1 : decode cL_size 1 = .ok (.iconst 0, 1) := by decide +kernel
theorem dL_size_2 : decode cL_size 2 = .ok (.aload_n 0, 1) := by decide +kernel
theorem dL_size_3 : decode cL_size 3 = .ok (.iload_n 1, 1) := by decide +kernel
theorem dL_size_4 : decode cL_size 4 = .ok (.invokevirtual 68, 3) := by decide +kernel
theorem dL_size_7 : decode cL_size 7 = .ok (.i2l, 1) := by decide +kernel
theorem dL_size_8 : decode cL_size 8 = .ok (.lastore, 1) := by decide +kernel
theorem dL_size_9 : decode cL_size 9 = .ok (.goto 6, 3) := by decide +kernel
theorem dL_size_12 : decode cL_size 12 = .ok (.astore_n 3, 1) := by decide +kernel
theorem dL_size_13 : decode cL_size 13 = .ok (.iconst 1, 1) := by decide +kernel
theorem dL_size_14 : decode cL_size 14 = .ok (.ireturn, 1) := by decide +kernel
theorem dL_size_15 : decode cL_size 15 = .ok (.iconst 0, 1) := by decide +kernel
theorem dL_size_16 : decode cL_size 16 = .ok (.ireturn, 1) := by decide +kernel
theorem dL_rank_0 : decode cL_rank 0 = .ok (.aload_n 3, 1) := by decide +kernel
theorem dL_rank_1 : decode cL_rank 1 = .ok (.iconst 0, 1) := by decide +kernel
theorem dL_rank_2 : decode cL_rank 2 = .ok (.aload_n 0, 1) := by decide +kernel
theorem dL_rank_3 : decode cL_rank 3 = .ok (.iload_n 1, 1) := by decide +kernel
theorem dL_rank_4 : decode cL_rank 4 = .ok (.iload_n 2, 1) := by decide +kernel
theorem dL_rank_5 : decode cL_rank 5 = .ok (.invokevirtual 71, 3) := by decide +kernel
theorem dL_rank_8 : decode cL_rank 8 = .ok (.i2l, 1) := by decide +kernel
theorem dL_rank_9 : decode cL_rank 9 = .ok (.lastore, 1) := by decide +kernel
theorem dL_rank_10 : decode cL_rank 10 = .ok (.goto 11, 3) := by decide +kernel
theorem dL_rank_13 : decode cL_rank 13 = .ok (.astore 4, 2) := by decide +kernel
theorem dL_rank_15 : decode cL_rank 15 = .ok (.iconst 1, 1) := by decide +kernel
theorem dL_rank_16 : decode cL_rank 16 = .ok (.ireturn, 1) := by decide +kernel
theorem dL_rank_17 : decode cL_rank 17 = .ok (.astore 4, 2) := by decide +kernel
theorem dL_rank_19 : decode cL_rank 19 = .ok (.iconst 2, 1) := by decide +kernel
theorem dL_rank_20 : decode cL_rank 20 = .ok (.ireturn, 1) := by decide +kernel
theorem dL_rank_21 : decode cL_rank 21 = .ok (.iconst 0, 1) := by decide +kernel
theorem dL_rank_22 : decode cL_rank 22 = .ok (.ireturn, 1) := by decide +kernel
theorem dL_closure_0 : decode cL_closure 0 = .ok (.aload_n 3, 1) := by decide +kernel
theorem dL_closure_1 : decode cL_closure 1 = .ok (.iconst 0, 1) := by decide +kernel
theorem dL_closure_2 : decode cL_closure 2 = .ok (.aload_n 0, 1) := by decide +kernel
theorem dL_closure_3 : decode cL_closure 3 = .ok (.iload_n 1, 1) := by decide +kernel
theorem dL_closure_4 : decode cL_closure 4 = .ok (.iload_n 2, 1) := by decide +kernel
theorem dL_closure_5 : decode cL_closure 5 = .ok (.invokevirtual 74, 3) := by decide +kernel
theorem dL_closure_8 : decode cL_closure 8 = .ok (.i2l, 1) := by decide +kernel
theorem dL_closure_9 : decode cL_closure 9 = .ok (.lastore, 1) := by decide +kernel
theorem dL_closure_10 : decode cL_closure 10 = .ok (.goto 11, 3) := by decide +kernel
theorem dL_closure_13 : decode cL_closure 13 = .ok (.astore 4, 2) := by decide +kernel
theorem dL_closure_15 : decode cL_closure 15 = .ok (.iconst 1, 1) := by decide +kernel
theorem dL_closure_16 : decode cL_closure 16 = .ok (.ireturn, 1) := by decide +kernel
theorem dL_closure_17 : decode cL_closure 17 = .ok (.astore 4, 2) := by decide +kernel
theorem dL_closure_19 : decode cL_closure 19 = .ok (.iconst 2, 1) := by decide +kernel
theorem dL_closure_20 : decode cL_closure 20 = .ok (.ireturn, 1) := by decide +kernel
theorem dL_closure_21 : decode cL_closure 21 = .ok (.iconst 0, 1) := by decide +kernel
theorem dL_closure_22 : decode cL_closure 22 = .ok (.ireturn, 1) := by decide +kernel
theorem dL_count_0 : decode cL_count 0 = .ok (.aload_n 3, 1) := by decide +kernel
theorem dL_count_1 : decode cL_count 1 = .ok (.iconst 0, 1) := by decide +kernel
theorem dL_count_2 : decode cL_count 2 = .ok (.aload_n 0, 1) := by decide +kernel
theorem dL_count_3 : decode cL_count 3 = .ok (.iload_n 1, 1) := by decide +kernel
theorem dL_count_4 : decode cL_count 4 = .ok (.iload_n 2, 1) := by decide +kernel
theorem dL_count_5 : decode cL_count 5 = .ok (.invokevirtual 77, 3) := by decide +kernel
theorem dL_count_8 : decode cL_count 8 = .ok (.i2l, 1) := by decide +kernel
theorem dL_count_9 : decode cL_count 9 = .ok (.lastore, 1) := by decide +kernel
theorem dL_count_10 : decode cL_count 10 = .ok (.goto 11, 3) := by decide +kernel
theorem dL_count_13 : decode cL_count 13 = .ok (.astore 4, 2) := by decide +kernel
theorem dL_count_15 : decode cL_count 15 = .ok (.iconst 1, 1) := by decide +kernel
theorem dL_count_16 : decode cL_count 16 = .ok (.ireturn, 1) := by decide +kernel
theorem dL_count_17 : decode cL_count 17 = .ok (.astore 4, 2) := by decide +kernel
theorem dL_count_19 : decode cL_count 19 = .ok (.iconst 2, 1) := by decide +kernel
theorem dL_count_20 : decode cL_count 20 = .ok (.ireturn, 1) := by decide +kernel
theorem dL_count_21 : decode cL_count 21 = .ok (.iconst 0, 1) := by decide +kernel
theorem dL_count_22 : decode cL_count 22 = .ok (.ireturn, 1) := by decide +kernel
theorem dL_setAt_0 : decode cL_setAt 0 = .ok (.aload 4, 2) := by decide +kernel
theorem dL_setAt_2 : decode cL_setAt 2 = .ok (.iconst 0, 1) := by decide +kernel
theorem dL_setAt_3 : decode cL_setAt 3 = .ok (.aload_n 0, 1) := by decide +kernel
theorem dL_setAt_4 : decode cL_setAt 4 = .ok (.iload_n 1, 1) := by decide +kernel
theorem dL_setAt_5 : decode cL_setAt 5 = .ok (.iload_n 2, 1) := by decide +kernel
theorem dL_setAt_6 : decode cL_setAt 6 = .ok (.iload_n 3, 1) := by decide +kernel
theorem dL_setAt_7 : decode cL_setAt 7 = .ok (.invokevirtual 81, 3) := by decide +kernel
theorem dL_setAt_10 : decode cL_setAt 10 = .ok (.i2l, 1) := by decide +kernel
theorem dL_setAt_11 : decode cL_setAt 11 = .ok (.lastore, 1) := by decide +kernel
theorem dL_setAt_12 : decode cL_setAt 12 = .ok (.goto 15, 3) := by decide +kernel
theorem dL_setAt_15 : decode cL_setAt 15 = .ok (.astore 5, 2) := by decide +kernel
theorem dL_setAt_17 : decode cL_setAt 17 = .ok (.iconst 1, 1) := by decide +kernel
theorem dL_setAt_18 : decode cL_setAt 18 = .ok (.ireturn, 1) := by decide +kernel
theorem dL_setAt_19 : decode cL_setAt 19 = .ok (.astore 5, 2) := by decide +kernel
theorem dL_setAt_21 : decode cL_setAt 21 = .ok (.iconst 2, 1) := by decide +kernel
theorem dL_setAt_22 : decode cL_setAt 22 = .ok (.ireturn, 1) := by decide +kernel
theorem dL_setAt_23 : decode cL_setAt 23 = .ok (.astore 5, 2) := by decide +kernel
theorem dL_setAt_25 : decode cL_setAt 25 = .ok (.iconst 3, 1) := by decide +kernel
theorem dL_setAt_26 : decode cL_setAt 26 = .ok (.ireturn, 1) := by decide +kernel
theorem dL_setAt_27 : decode cL_setAt 27 = .ok (.iconst 0, 1) := by decide +kernel
theorem dL_setAt_28 : decode cL_setAt 28 = .ok (.ireturn, 1) := by decide +kernel
theorem dL_circuitWith_0 : decode cL_circuitWith 0 = .ok (.aload 4, 2) := by decide +kernel
theorem dL_circuitWith_2 : decode cL_circuitWith 2 = .ok (.iconst 0, 1) := by decide +kernel
theorem dL_circuitWith_3 : decode cL_circuitWith 3 = .ok (.aload_n 0, 1) := by decide +kernel
theorem dL_circuitWith_4 : decode cL_circuitWith 4 = .ok (.iload_n 1, 1) := by decide +kernel
theorem dL_circuitWith_5 : decode cL_circuitWith 5 = .ok (.iload_n 2, 1) := by decide +kernel
theorem dL_circuitWith_6 : decode cL_circuitWith 6 = .ok (.iload_n 3, 1) := by decide +kernel
theorem dL_circuitWith_7 : decode cL_circuitWith 7 = .ok (.invokevirtual 85, 3) := by decide +kernel
theorem dL_circuitWith_10 : decode cL_circuitWith 10 = .ok (.i2l, 1) := by decide +kernel
theorem dL_circuitWith_11 : decode cL_circuitWith 11 = .ok (.lastore, 1) := by decide +kernel
theorem dL_circuitWith_12 : decode cL_circuitWith 12 = .ok (.goto 15, 3) := by decide +kernel
theorem dL_circuitWith_15 : decode cL_circuitWith 15 = .ok (.astore 5, 2) := by decide +kernel
theorem dL_circuitWith_17 : decode cL_circuitWith 17 = .ok (.iconst 1, 1) := by decide +kernel
theorem dL_circuitWith_18 : decode cL_circuitWith 18 = .ok (.ireturn, 1) := by decide +kernel
theorem dL_circuitWith_19 : decode cL_circuitWith 19 = .ok (.astore 5, 2) := by decide +kernel
theorem dL_circuitWith_21 : decode cL_circuitWith 21 = .ok (.iconst 2, 1) := by decide +kernel
theorem dL_circuitWith_22 : decode cL_circuitWith 22 = .ok (.ireturn, 1) := by decide +kernel
theorem dL_circuitWith_23 : decode cL_circuitWith 23 = .ok (.astore 5, 2) := by decide +kernel
theorem dL_circuitWith_25 : decode cL_circuitWith 25 = .ok (.iconst 3, 1) := by decide +kernel
theorem dL_circuitWith_26 : decode cL_circuitWith 26 = .ok (.ireturn, 1) := by decide +kernel
theorem dL_circuitWith_27 : decode cL_circuitWith 27 = .ok (.iconst 0, 1) := by decide +kernel
theorem dL_circuitWith_28 : decode cL_circuitWith 28 = .ok (.ireturn, 1) := by decide +kernel
theorem dL_component_0 : decode cL_component 0 = .ok (.aload_n 3, 1) := by decide +kernel
theorem dL_component_1 : decode cL_component 1 = .ok (.iconst 0, 1) := by decide +kernel
theorem dL_component_2 : decode cL_component 2 = .ok (.aload_n 0, 1) := by decide +kernel
theorem dL_component_3 : decode cL_component 3 = .ok (.iload_n 1, 1) := by decide +kernel
theorem dL_component_4 : decode cL_component 4 = .ok (.iload_n 2, 1) := by decide +kernel
theorem dL_component_5 : decode cL_component 5 = .ok (.invokevirtual 89, 3) := by decide +kernel
theorem dL_component_8 : decode cL_component 8 = .ok (.i2l, 1) := by decide +kernel
theorem dL_component_9 : decode cL_component 9 = .ok (.lastore, 1) := by decide +kernel
theorem dL_component_10 : decode cL_component 10 = .ok (.goto 7, 3) := by decide +kernel
theorem dL_component_13 : decode cL_component 13 = .ok (.astore 4, 2) := by decide +kernel
theorem dL_component_15 : decode cL_component 15 = .ok (.iconst 1, 1) := by decide +kernel
theorem dL_component_16 : decode cL_component 16 = .ok (.ireturn, 1) := by decide +kernel
theorem dL_component_17 : decode cL_component 17 = .ok (.iconst 0, 1) := by decide +kernel
theorem dL_component_18 : decode cL_component 18 = .ok (.ireturn, 1) := by decide +kernel
theorem dL_areAlike_0 : decode cL_areAlike 0 = .ok (.aload_n 3, 1) := by decide +kernel
theorem dL_areAlike_1 : decode cL_areAlike 1 = .ok (.iconst 0, 1) := by decide +kernel
theorem dL_areAlike_2 : decode cL_areAlike 2 = .ok (.aload_n 0, 1) := by decide +kernel
theorem dL_areAlike_3 : decode cL_areAlike 3 = .ok (.iload_n 1, 1) := by decide +kernel
theorem dL_areAlike_4 : decode cL_areAlike 4 = .ok (.iload_n 2, 1) := by decide +kernel
theorem dL_areAlike_5 : decode cL_areAlike 5 = .ok (.invokevirtual 92, 3) := by decide +kernel
theorem dL_areAlike_8 : decode cL_areAlike 8 = .ok (.ifCond .eq 7, 3) := by decide +kernel
theorem dL_areAlike_11 : decode cL_areAlike 11 = .ok (.lconst 1, 1) := by decide +kernel
theorem dL_areAlike_12 : decode cL_areAlike 12 = .ok (.goto 4, 3) := by decide +kernel
theorem dL_areAlike_15 : decode cL_areAlike 15 = .ok (.lconst 0, 1) := by decide +kernel
theorem dL_areAlike_16 : decode cL_areAlike 16 = .ok (.lastore, 1) := by decide +kernel
theorem dL_areAlike_17 : decode cL_areAlike 17 = .ok (.goto 7, 3) := by decide +kernel
theorem dL_areAlike_20 : decode cL_areAlike 20 = .ok (.astore 4, 2) := by decide +kernel
theorem dL_areAlike_22 : decode cL_areAlike 22 = .ok (.iconst 1, 1) := by decide +kernel
theorem dL_areAlike_23 : decode cL_areAlike 23 = .ok (.ireturn, 1) := by decide +kernel
theorem dL_areAlike_24 : decode cL_areAlike 24 = .ok (.iconst 0, 1) := by decide +kernel
theorem dL_areAlike_25 : decode cL_areAlike 25 = .ok (.ireturn, 1) := by decide +kernel
theorem dL_image_0 : decode cL_image 0 = .ok (.aload 4, 2) := by decide +kernel
theorem dL_image_2 : decode cL_image 2 = .ok (.iconst 0, 1) := by decide +kernel
theorem dL_image_3 : decode cL_image 3 = .ok (.aload_n 0, 1) := by decide +kernel
theorem dL_image_4 : decode cL_image 4 = .ok (.iload_n 1, 1) := by decide +kernel
theorem dL_image_5 : decode cL_image 5 = .ok (.iload_n 2, 1) := by decide +kernel
theorem dL_image_6 : decode cL_image 6 = .ok (.iload_n 3, 1) := by decide +kernel
theorem dL_image_7 : decode cL_image 7 = .ok (.invokevirtual 96, 3) := by decide +kernel
theorem dL_image_10 : decode cL_image 10 = .ok (.i2l, 1) := by decide +kernel
theorem dL_image_11 : decode cL_image 11 = .ok (.lastore, 1) := by decide +kernel
theorem dL_image_12 : decode cL_image 12 = .ok (.goto 11, 3) := by decide +kernel
theorem dL_image_15 : decode cL_image 15 = .ok (.astore 5, 2) := by decide +kernel
theorem dL_image_17 : decode cL_image 17 = .ok (.iconst 1, 1) := by decide +kernel
theorem dL_image_18 : decode cL_image 18 = .ok (.ireturn, 1) := by decide +kernel
theorem dL_image_19 : decode cL_image 19 = .ok (.astore 5, 2) := by decide +kernel
theorem dL_image_21 : decode cL_image 21 = .ok (.iconst 2, 1) := by decide +kernel
theorem dL_image_22 : decode cL_image 22 = .ok (.ireturn, 1) := by decide +kernel
theorem dL_image_23 : decode cL_image 23 = .ok (.iconst 0, 1) := by decide +kernel
theorem dL_image_24 : decode cL_image 24 = .ok (.ireturn, 1) := by decide +kernel
theorem dL_symmetries_0 : decode cL_symmetries 0 = .ok (.aload_n 2, 1) := by decide +kernel
theorem dL_symmetries_1 : decode cL_symmetries 1 = .ok (.iconst 0, 1) := by decide +kernel
theorem dL_symmetries_2 : decode cL_symmetries 2 = .ok (.aload_n 0, 1) := by decide +kernel
theorem dL_symmetries_3 : decode cL_symmetries 3 = .ok (.iload_n 1, 1) := by decide +kernel
theorem dL_symmetries_4 : decode cL_symmetries 4 = .ok (.invokevirtual 99, 3) := by decide +kernel
theorem dL_symmetries_7 : decode cL_symmetries 7 = .ok (.i2l, 1) := by decide +kernel
theorem dL_symmetries_8 : decode cL_symmetries 8 = .ok (.lastore, 1) := by decide +kernel
theorem dL_symmetries_9 : decode cL_symmetries 9 = .ok (.goto 6, 3) := by decide +kernel
theorem dL_symmetries_12 : decode cL_symmetries 12 = .ok (.astore_n 3, 1) := by decide +kernel
theorem dL_symmetries_13 : decode cL_symmetries 13 = .ok (.iconst 1, 1) := by decide +kernel
theorem dL_symmetries_14 : decode cL_symmetries 14 = .ok (.ireturn, 1) := by decide +kernel
theorem dL_symmetries_15 : decode cL_symmetries 15 = .ok (.iconst 0, 1) := by decide +kernel
theorem dL_symmetries_16 : decode cL_symmetries 16 = .ok (.ireturn, 1) := by decide +kernel
theorem dL_minorBy_0 : decode cL_minorBy 0 = .ok (.aload_n 3, 1) := by decide +kernel
theorem dL_minorBy_1 : decode cL_minorBy 1 = .ok (.iconst 0, 1) := by decide +kernel
theorem dL_minorBy_2 : decode cL_minorBy 2 = .ok (.aload_n 0, 1) := by decide +kernel
theorem dL_minorBy_3 : decode cL_minorBy 3 = .ok (.iload_n 1, 1) := by decide +kernel
theorem dL_minorBy_4 : decode cL_minorBy 4 = .ok (.iload_n 2, 1) := by decide +kernel
theorem dL_minorBy_5 : decode cL_minorBy 5 = .ok (.invokevirtual 102, 3) := by decide +kernel
theorem dL_minorBy_8 : decode cL_minorBy 8 = .ok (.i2l, 1) := by decide +kernel
theorem dL_minorBy_9 : decode cL_minorBy 9 = .ok (.lastore, 1) := by decide +kernel
theorem dL_minorBy_10 : decode cL_minorBy 10 = .ok (.goto 11, 3) := by decide +kernel
theorem dL_minorBy_13 : decode cL_minorBy 13 = .ok (.astore 4, 2) := by decide +kernel
theorem dL_minorBy_15 : decode cL_minorBy 15 = .ok (.iconst 1, 1) := by decide +kernel
theorem dL_minorBy_16 : decode cL_minorBy 16 = .ok (.ireturn, 1) := by decide +kernel
theorem dL_minorBy_17 : decode cL_minorBy 17 = .ok (.astore 4, 2) := by decide +kernel
theorem dL_minorBy_19 : decode cL_minorBy 19 = .ok (.iconst 2, 1) := by decide +kernel
theorem dL_minorBy_20 : decode cL_minorBy 20 = .ok (.ireturn, 1) := by decide +kernel
theorem dL_minorBy_21 : decode cL_minorBy 21 = .ok (.iconst 0, 1) := by decide +kernel
theorem dL_minorBy_22 : decode cL_minorBy 22 = .ok (.ireturn, 1) := by decide +kernel
theorem dL_minorWithout_0 : decode cL_minorWithout 0 = .ok (.aload_n 3, 1) := by decide +kernel
theorem dL_minorWithout_1 : decode cL_minorWithout 1 = .ok (.iconst 0, 1) := by decide +kernel
theorem dL_minorWithout_2 : decode cL_minorWithout 2 = .ok (.aload_n 0, 1) := by decide +kernel
theorem dL_minorWithout_3 : decode cL_minorWithout 3 = .ok (.iload_n 1, 1) := by decide +kernel
theorem dL_minorWithout_4 : decode cL_minorWithout 4 = .ok (.iload_n 2, 1) := by decide +kernel
theorem dL_minorWithout_5 : decode cL_minorWithout 5 = .ok (.invokevirtual 105, 3) := by decide +kernel
theorem dL_minorWithout_8 : decode cL_minorWithout 8 = .ok (.i2l, 1) := by decide +kernel
theorem dL_minorWithout_9 : decode cL_minorWithout 9 = .ok (.lastore, 1) := by decide +kernel
theorem dL_minorWithout_10 : decode cL_minorWithout 10 = .ok (.goto 11, 3) := by decide +kernel
theorem dL_minorWithout_13 : decode cL_minorWithout 13 = .ok (.astore 4, 2) := by decide +kernel
theorem dL_minorWithout_15 : decode cL_minorWithout 15 = .ok (.iconst 1, 1) := by decide +kernel
theorem dL_minorWithout_16 : decode cL_minorWithout 16 = .ok (.ireturn, 1) := by decide +kernel
theorem dL_minorWithout_17 : decode cL_minorWithout 17 = .ok (.astore 4, 2) := by decide +kernel
theorem dL_minorWithout_19 : decode cL_minorWithout 19 = .ok (.iconst 2, 1) := by decide +kernel
theorem dL_minorWithout_20 : decode cL_minorWithout 20 = .ok (.ireturn, 1) := by decide +kernel
theorem dL_minorWithout_21 : decode cL_minorWithout 21 = .ok (.iconst 0, 1) := by decide +kernel
theorem dL_minorWithout_22 : decode cL_minorWithout 22 = .ok (.ireturn, 1) := by decide +kernel
theorem dL_canBeDrawn_0 : decode cL_canBeDrawn 0 = .ok (.aload_n 3, 1) := by decide +kernel
theorem dL_canBeDrawn_1 : decode cL_canBeDrawn 1 = .ok (.iconst 0, 1) := by decide +kernel
theorem dL_canBeDrawn_2 : decode cL_canBeDrawn 2 = .ok (.aload_n 0, 1) := by decide +kernel
theorem dL_canBeDrawn_3 : decode cL_canBeDrawn 3 = .ok (.iload_n 1, 1) := by decide +kernel
theorem dL_canBeDrawn_4 : decode cL_canBeDrawn 4 = .ok (.iload_n 2, 1) := by decide +kernel
theorem dL_canBeDrawn_5 : decode cL_canBeDrawn 5 = .ok (.invokevirtual 108, 3) := by decide +kernel
theorem dL_canBeDrawn_8 : decode cL_canBeDrawn 8 = .ok (.ifCond .eq 7, 3) := by decide +kernel
theorem dL_canBeDrawn_11 : decode cL_canBeDrawn 11 = .ok (.lconst 1, 1) := by decide +kernel
theorem dL_canBeDrawn_12 : decode cL_canBeDrawn 12 = .ok (.goto 4, 3) := by decide +kernel
theorem dL_canBeDrawn_15 : decode cL_canBeDrawn 15 = .ok (.lconst 0, 1) := by decide +kernel
theorem dL_canBeDrawn_16 : decode cL_canBeDrawn 16 = .ok (.lastore, 1) := by decide +kernel
theorem dL_canBeDrawn_17 : decode cL_canBeDrawn 17 = .ok (.goto 11, 3) := by decide +kernel
theorem dL_canBeDrawn_20 : decode cL_canBeDrawn 20 = .ok (.astore 4, 2) := by decide +kernel
theorem dL_canBeDrawn_22 : decode cL_canBeDrawn 22 = .ok (.iconst 1, 1) := by decide +kernel
theorem dL_canBeDrawn_23 : decode cL_canBeDrawn 23 = .ok (.ireturn, 1) := by decide +kernel
theorem dL_canBeDrawn_24 : decode cL_canBeDrawn 24 = .ok (.astore 4, 2) := by decide +kernel
theorem dL_canBeDrawn_26 : decode cL_canBeDrawn 26 = .ok (.iconst 2, 1) := by decide +kernel
theorem dL_canBeDrawn_27 : decode cL_canBeDrawn 27 = .ok (.ireturn, 1) := by decide +kernel
theorem dL_canBeDrawn_28 : decode cL_canBeDrawn 28 = .ok (.iconst 0, 1) := by decide +kernel
theorem dL_canBeDrawn_29 : decode cL_canBeDrawn 29 = .ok (.ireturn, 1) := by decide +kernel
theorem dL_entry_0 : decode cL_entry 0 = .ok (.aload 5, 2) := by decide +kernel
theorem dL_entry_2 : decode cL_entry 2 = .ok (.iconst 0, 1) := by decide +kernel
theorem dL_entry_3 : decode cL_entry 3 = .ok (.aload_n 0, 1) := by decide +kernel
theorem dL_entry_4 : decode cL_entry 4 = .ok (.iload_n 1, 1) := by decide +kernel
theorem dL_entry_5 : decode cL_entry 5 = .ok (.iload_n 2, 1) := by decide +kernel
theorem dL_entry_6 : decode cL_entry 6 = .ok (.iload_n 3, 1) := by decide +kernel
theorem dL_entry_7 : decode cL_entry 7 = .ok (.iload 4, 2) := by decide +kernel
theorem dL_entry_9 : decode cL_entry 9 = .ok (.invokevirtual 111, 3) := by decide +kernel
theorem dL_entry_12 : decode cL_entry 12 = .ok (.i2l, 1) := by decide +kernel
theorem dL_entry_13 : decode cL_entry 13 = .ok (.lastore, 1) := by decide +kernel
theorem dL_entry_14 : decode cL_entry 14 = .ok (.goto 15, 3) := by decide +kernel
theorem dL_entry_17 : decode cL_entry 17 = .ok (.astore 6, 2) := by decide +kernel
theorem dL_entry_19 : decode cL_entry 19 = .ok (.iconst 1, 1) := by decide +kernel
theorem dL_entry_20 : decode cL_entry 20 = .ok (.ireturn, 1) := by decide +kernel
theorem dL_entry_21 : decode cL_entry 21 = .ok (.astore 6, 2) := by decide +kernel
theorem dL_entry_23 : decode cL_entry 23 = .ok (.iconst 2, 1) := by decide +kernel
theorem dL_entry_24 : decode cL_entry 24 = .ok (.ireturn, 1) := by decide +kernel
theorem dL_entry_25 : decode cL_entry 25 = .ok (.astore 6, 2) := by decide +kernel
theorem dL_entry_27 : decode cL_entry 27 = .ok (.iconst 3, 1) := by decide +kernel
theorem dL_entry_28 : decode cL_entry 28 = .ok (.ireturn, 1) := by decide +kernel
theorem dL_entry_29 : decode cL_entry 29 = .ok (.iconst 0, 1) := by decide +kernel
theorem dL_entry_30 : decode cL_entry 30 = .ok (.ireturn, 1) := by decide +kernel
theorem dL_greedy_0 : decode cL_greedy 0 = .ok (.aload_n 2, 1) := by decide +kernel
theorem dL_greedy_1 : decode cL_greedy 1 = .ok (.iconst 0, 1) := by decide +kernel
theorem dL_greedy_2 : decode cL_greedy 2 = .ok (.aload_n 0, 1) := by decide +kernel
theorem dL_greedy_3 : decode cL_greedy 3 = .ok (.iload_n 1, 1) := by decide +kernel
theorem dL_greedy_4 : decode cL_greedy 4 = .ok (.invokevirtual 115, 3) := by decide +kernel
theorem dL_greedy_7 : decode cL_greedy 7 = .ok (.i2l, 1) := by decide +kernel
theorem dL_greedy_8 : decode cL_greedy 8 = .ok (.lastore, 1) := by decide +kernel
theorem dL_greedy_9 : decode cL_greedy 9 = .ok (.goto 9, 3) := by decide +kernel
theorem dL_greedy_12 : decode cL_greedy 12 = .ok (.astore_n 3, 1) := by decide +kernel
theorem dL_greedy_13 : decode cL_greedy 13 = .ok (.iconst 1, 1) := by decide +kernel
theorem dL_greedy_14 : decode cL_greedy 14 = .ok (.ireturn, 1) := by decide +kernel
theorem dL_greedy_15 : decode cL_greedy 15 = .ok (.astore_n 3, 1) := by decide +kernel
theorem dL_greedy_16 : decode cL_greedy 16 = .ok (.iconst 2, 1) := by decide +kernel
theorem dL_greedy_17 : decode cL_greedy 17 = .ok (.ireturn, 1) := by decide +kernel
theorem dL_greedy_18 : decode cL_greedy 18 = .ok (.iconst 0, 1) := by decide +kernel
theorem dL_greedy_19 : decode cL_greedy 19 = .ok (.ireturn, 1) := by decide +kernel
theorem dL_common_0 : decode cL_common 0 = .ok (.aload_n 3, 1) := by decide +kernel
theorem dL_common_1 : decode cL_common 1 = .ok (.iconst 0, 1) := by decide +kernel
theorem dL_common_2 : decode cL_common 2 = .ok (.aload_n 0, 1) := by decide +kernel
theorem dL_common_3 : decode cL_common 3 = .ok (.iload_n 1, 1) := by decide +kernel
theorem dL_common_4 : decode cL_common 4 = .ok (.iload_n 2, 1) := by decide +kernel
theorem dL_common_5 : decode cL_common 5 = .ok (.invokevirtual 118, 3) := by decide +kernel
theorem dL_common_8 : decode cL_common 8 = .ok (.i2l, 1) := by decide +kernel
theorem dL_common_9 : decode cL_common 9 = .ok (.lastore, 1) := by decide +kernel
theorem dL_common_10 : decode cL_common 10 = .ok (.goto 11, 3) := by decide +kernel
theorem dL_common_13 : decode cL_common 13 = .ok (.astore 4, 2) := by decide +kernel
theorem dL_common_15 : decode cL_common 15 = .ok (.iconst 1, 1) := by decide +kernel
theorem dL_common_16 : decode cL_common 16 = .ok (.ireturn, 1) := by decide +kernel
theorem dL_common_17 : decode cL_common 17 = .ok (.astore 4, 2) := by decide +kernel
theorem dL_common_19 : decode cL_common 19 = .ok (.iconst 2, 1) := by decide +kernel
theorem dL_common_20 : decode cL_common 20 = .ok (.ireturn, 1) := by decide +kernel
theorem dL_common_21 : decode cL_common 21 = .ok (.iconst 0, 1) := by decide +kernel
theorem dL_common_22 : decode cL_common 22 = .ok (.ireturn, 1) := by decide +kernel
theorem dL_commonSet_0 : decode cL_commonSet 0 = .ok (.aload_n 3, 1) := by decide +kernel
theorem dL_commonSet_1 : decode cL_commonSet 1 = .ok (.iconst 0, 1) := by decide +kernel
theorem dL_commonSet_2 : decode cL_commonSet 2 = .ok (.aload_n 0, 1) := by decide +kernel
theorem dL_commonSet_3 : decode cL_commonSet 3 = .ok (.iload_n 1, 1) := by decide +kernel
theorem dL_commonSet_4 : decode cL_commonSet 4 = .ok (.iload_n 2, 1) := by decide +kernel
theorem dL_commonSet_5 : decode cL_commonSet 5 = .ok (.invokevirtual 121, 3) := by decide +kernel
theorem dL_commonSet_8 : decode cL_commonSet 8 = .ok (.i2l, 1) := by decide +kernel
theorem dL_commonSet_9 : decode cL_commonSet 9 = .ok (.lastore, 1) := by decide +kernel
theorem dL_commonSet_10 : decode cL_commonSet 10 = .ok (.goto 11, 3) := by decide +kernel
theorem dL_commonSet_13 : decode cL_commonSet 13 = .ok (.astore 4, 2) := by decide +kernel
theorem dL_commonSet_15 : decode cL_commonSet 15 = .ok (.iconst 1, 1) := by decide +kernel
theorem dL_commonSet_16 : decode cL_commonSet 16 = .ok (.ireturn, 1) := by decide +kernel
theorem dL_commonSet_17 : decode cL_commonSet 17 = .ok (.astore 4, 2) := by decide +kernel
theorem dL_commonSet_19 : decode cL_commonSet 19 = .ok (.iconst 2, 1) := by decide +kernel
theorem dL_commonSet_20 : decode cL_commonSet 20 = .ok (.ireturn, 1) := by decide +kernel
theorem dL_commonSet_21 : decode cL_commonSet 21 = .ok (.iconst 0, 1) := by decide +kernel
theorem dL_commonSet_22 : decode cL_commonSet 22 = .ok (.ireturn, 1) := by decide +kernel
theorem dL_commonBound_0 : decode cL_commonBound 0 = .ok (.aload_n 3, 1) := by decide +kernel
theorem dL_commonBound_1 : decode cL_commonBound 1 = .ok (.iconst 0, 1) := by decide +kernel
theorem dL_commonBound_2 : decode cL_commonBound 2 = .ok (.aload_n 0, 1) := by decide +kernel
theorem dL_commonBound_3 : decode cL_commonBound 3 = .ok (.iload_n 1, 1) := by decide +kernel
theorem dL_commonBound_4 : decode cL_commonBound 4 = .ok (.iload_n 2, 1) := by decide +kernel
theorem dL_commonBound_5 : decode cL_commonBound 5 = .ok (.invokevirtual 124, 3) := by decide +kernel
theorem dL_commonBound_8 : decode cL_commonBound 8 = .ok (.i2l, 1) := by decide +kernel
theorem dL_commonBound_9 : decode cL_commonBound 9 = .ok (.lastore, 1) := by decide +kernel
theorem dL_commonBound_10 : decode cL_commonBound 10 = .ok (.goto 11, 3) := by decide +kernel
theorem dL_commonBound_13 : decode cL_commonBound 13 = .ok (.astore 4, 2) := by decide +kernel
theorem dL_commonBound_15 : decode cL_commonBound 15 = .ok (.iconst 1, 1) := by decide +kernel
theorem dL_commonBound_16 : decode cL_commonBound 16 = .ok (.ireturn, 1) := by decide +kernel
theorem dL_commonBound_17 : decode cL_commonBound 17 = .ok (.astore 4, 2) := by decide +kernel
theorem dL_commonBound_19 : decode cL_commonBound 19 = .ok (.iconst 2, 1) := by decide +kernel
theorem dL_commonBound_20 : decode cL_commonBound 20 = .ok (.ireturn, 1) := by decide +kernel
theorem dL_commonBound_21 : decode cL_commonBound 21 = .ok (.iconst 0, 1) := by decide +kernel
theorem dL_commonBound_22 : decode cL_commonBound 22 = .ok (.ireturn, 1) := by decide +kernel
theorem dL_cover_0 : decode cL_cover 0 = .ok (.aload_n 2, 1) := by decide +kernel
theorem dL_cover_1 : decode cL_cover 1 = .ok (.iconst 0, 1) := by decide +kernel
theorem dL_cover_2 : decode cL_cover 2 = .ok (.aload_n 0, 1) := by decide +kernel
theorem dL_cover_3 : decode cL_cover 3 = .ok (.iload_n 1, 1) := by decide +kernel
theorem dL_cover_4 : decode cL_cover 4 = .ok (.invokevirtual 127, 3) := by decide +kernel
theorem dL_cover_7 : decode cL_cover 7 = .ok (.i2l, 1) := by decide +kernel
theorem dL_cover_8 : decode cL_cover 8 = .ok (.lastore, 1) := by decide +kernel
theorem dL_cover_9 : decode cL_cover 9 = .ok (.goto 9, 3) := by decide +kernel
theorem dL_cover_12 : decode cL_cover 12 = .ok (.astore_n 3, 1) := by decide +kernel
theorem dL_cover_13 : decode cL_cover 13 = .ok (.iconst 1, 1) := by decide +kernel
theorem dL_cover_14 : decode cL_cover 14 = .ok (.ireturn, 1) := by decide +kernel
theorem dL_cover_15 : decode cL_cover 15 = .ok (.astore_n 3, 1) := by decide +kernel
theorem dL_cover_16 : decode cL_cover 16 = .ok (.iconst 2, 1) := by decide +kernel
theorem dL_cover_17 : decode cL_cover 17 = .ok (.ireturn, 1) := by decide +kernel
theorem dL_cover_18 : decode cL_cover 18 = .ok (.iconst 0, 1) := by decide +kernel
theorem dL_cover_19 : decode cL_cover 19 = .ok (.ireturn, 1) := by decide +kernel
theorem dL_coverBound_0 : decode cL_coverBound 0 = .ok (.aload_n 2, 1) := by decide +kernel
theorem dL_coverBound_1 : decode cL_coverBound 1 = .ok (.iconst 0, 1) := by decide +kernel
theorem dL_coverBound_2 : decode cL_coverBound 2 = .ok (.aload_n 0, 1) := by decide +kernel
theorem dL_coverBound_3 : decode cL_coverBound 3 = .ok (.iload_n 1, 1) := by decide +kernel
theorem dL_coverBound_4 : decode cL_coverBound 4 = .ok (.invokevirtual 130, 3) := by decide +kernel
theorem dL_coverBound_7 : decode cL_coverBound 7 = .ok (.i2l, 1) := by decide +kernel
theorem dL_coverBound_8 : decode cL_coverBound 8 = .ok (.lastore, 1) := by decide +kernel
theorem dL_coverBound_9 : decode cL_coverBound 9 = .ok (.goto 12, 3) := by decide +kernel
theorem dL_coverBound_12 : decode cL_coverBound 12 = .ok (.astore_n 3, 1) := by decide +kernel
theorem dL_coverBound_13 : decode cL_coverBound 13 = .ok (.iconst 1, 1) := by decide +kernel
theorem dL_coverBound_14 : decode cL_coverBound 14 = .ok (.ireturn, 1) := by decide +kernel
theorem dL_coverBound_15 : decode cL_coverBound 15 = .ok (.astore_n 3, 1) := by decide +kernel
theorem dL_coverBound_16 : decode cL_coverBound 16 = .ok (.iconst 2, 1) := by decide +kernel
theorem dL_coverBound_17 : decode cL_coverBound 17 = .ok (.ireturn, 1) := by decide +kernel
theorem dL_coverBound_18 : decode cL_coverBound 18 = .ok (.astore_n 3, 1) := by decide +kernel
theorem dL_coverBound_19 : decode cL_coverBound 19 = .ok (.iconst 3, 1) := by decide +kernel
theorem dL_coverBound_20 : decode cL_coverBound 20 = .ok (.ireturn, 1) := by decide +kernel
theorem dL_coverBound_21 : decode cL_coverBound 21 = .ok (.iconst 0, 1) := by decide +kernel
theorem dL_coverBound_22 : decode cL_coverBound 22 = .ok (.ireturn, 1) := by decide +kernel
theorem dL_packing_0 : decode cL_packing 0 = .ok (.aload_n 2, 1) := by decide +kernel
theorem dL_packing_1 : decode cL_packing 1 = .ok (.iconst 0, 1) := by decide +kernel
theorem dL_packing_2 : decode cL_packing 2 = .ok (.aload_n 0, 1) := by decide +kernel
theorem dL_packing_3 : decode cL_packing 3 = .ok (.iload_n 1, 1) := by decide +kernel
theorem dL_packing_4 : decode cL_packing 4 = .ok (.invokevirtual 133, 3) := by decide +kernel
theorem dL_packing_7 : decode cL_packing 7 = .ok (.i2l, 1) := by decide +kernel
theorem dL_packing_8 : decode cL_packing 8 = .ok (.lastore, 1) := by decide +kernel
theorem dL_packing_9 : decode cL_packing 9 = .ok (.goto 9, 3) := by decide +kernel
theorem dL_packing_12 : decode cL_packing 12 = .ok (.astore_n 3, 1) := by decide +kernel
theorem dL_packing_13 : decode cL_packing 13 = .ok (.iconst 1, 1) := by decide +kernel
theorem dL_packing_14 : decode cL_packing 14 = .ok (.ireturn, 1) := by decide +kernel
theorem dL_packing_15 : decode cL_packing 15 = .ok (.astore_n 3, 1) := by decide +kernel
theorem dL_packing_16 : decode cL_packing 16 = .ok (.iconst 2, 1) := by decide +kernel
theorem dL_packing_17 : decode cL_packing 17 = .ok (.ireturn, 1) := by decide +kernel
theorem dL_packing_18 : decode cL_packing 18 = .ok (.iconst 0, 1) := by decide +kernel
theorem dL_packing_19 : decode cL_packing 19 = .ok (.ireturn, 1) := by decide +kernel
theorem dL_packingBound_0 : decode cL_packingBound 0 = .ok (.aload_n 2, 1) := by decide +kernel
theorem dL_packingBound_1 : decode cL_packingBound 1 = .ok (.iconst 0, 1) := by decide +kernel
theorem dL_packingBound_2 : decode cL_packingBound 2 = .ok (.aload_n 0, 1) := by decide +kernel
theorem dL_packingBound_3 : decode cL_packingBound 3 = .ok (.iload_n 1, 1) := by decide +kernel
theorem dL_packingBound_4 : decode cL_packingBound 4 = .ok (.invokevirtual 136, 3) := by decide +kernel
theorem dL_packingBound_7 : decode cL_packingBound 7 = .ok (.i2l, 1) := by decide +kernel
theorem dL_packingBound_8 : decode cL_packingBound 8 = .ok (.lastore, 1) := by decide +kernel
theorem dL_packingBound_9 : decode cL_packingBound 9 = .ok (.goto 9, 3) := by decide +kernel
theorem dL_packingBound_12 : decode cL_packingBound 12 = .ok (.astore_n 3, 1) := by decide +kernel
theorem dL_packingBound_13 : decode cL_packingBound 13 = .ok (.iconst 1, 1) := by decide +kernel
theorem dL_packingBound_14 : decode cL_packingBound 14 = .ok (.ireturn, 1) := by decide +kernel
theorem dL_packingBound_15 : decode cL_packingBound 15 = .ok (.astore_n 3, 1) := by decide +kernel
theorem dL_packingBound_16 : decode cL_packingBound 16 = .ok (.iconst 2, 1) := by decide +kernel
theorem dL_packingBound_17 : decode cL_packingBound 17 = .ok (.ireturn, 1) := by decide +kernel
theorem dL_packingBound_18 : decode cL_packingBound 18 = .ok (.iconst 0, 1) := by decide +kernel
theorem dL_packingBound_19 : decode cL_packingBound 19 = .ok (.ireturn, 1) := by decide +kernel
theorem dL_coefficient_0 : decode cL_coefficient 0 = .ok (.aload 4, 2) := by decide +kernel
theorem dL_coefficient_2 : decode cL_coefficient 2 = .ok (.iconst 0, 1) := by decide +kernel
theorem dL_coefficient_3 : decode cL_coefficient 3 = .ok (.aload_n 0, 1) := by decide +kernel
theorem dL_coefficient_4 : decode cL_coefficient 4 = .ok (.iload_n 1, 1) := by decide +kernel
theorem dL_coefficient_5 : decode cL_coefficient 5 = .ok (.iload_n 2, 1) := by decide +kernel
theorem dL_coefficient_6 : decode cL_coefficient 6 = .ok (.iload_n 3, 1) := by decide +kernel
theorem dL_coefficient_7 : decode cL_coefficient 7 = .ok (.invokevirtual 139, 3) := by decide +kernel
theorem dL_coefficient_10 : decode cL_coefficient 10 = .ok (.i2l, 1) := by decide +kernel
theorem dL_coefficient_11 : decode cL_coefficient 11 = .ok (.lastore, 1) := by decide +kernel
theorem dL_coefficient_12 : decode cL_coefficient 12 = .ok (.goto 11, 3) := by decide +kernel
theorem dL_coefficient_15 : decode cL_coefficient 15 = .ok (.astore 5, 2) := by decide +kernel
theorem dL_coefficient_17 : decode cL_coefficient 17 = .ok (.iconst 1, 1) := by decide +kernel
theorem dL_coefficient_18 : decode cL_coefficient 18 = .ok (.ireturn, 1) := by decide +kernel
theorem dL_coefficient_19 : decode cL_coefficient 19 = .ok (.astore 5, 2) := by decide +kernel
theorem dL_coefficient_21 : decode cL_coefficient 21 = .ok (.iconst 2, 1) := by decide +kernel
theorem dL_coefficient_22 : decode cL_coefficient 22 = .ok (.ireturn, 1) := by decide +kernel
theorem dL_coefficient_23 : decode cL_coefficient 23 = .ok (.iconst 0, 1) := by decide +kernel
theorem dL_coefficient_24 : decode cL_coefficient 24 = .ok (.ireturn, 1) := by decide +kernel
theorem dL_value_0 : decode cL_value 0 = .ok (.aload 4, 2) := by decide +kernel
theorem dL_value_2 : decode cL_value 2 = .ok (.iconst 0, 1) := by decide +kernel
theorem dL_value_3 : decode cL_value 3 = .ok (.aload_n 0, 1) := by decide +kernel
theorem dL_value_4 : decode cL_value 4 = .ok (.iload_n 1, 1) := by decide +kernel
theorem dL_value_5 : decode cL_value 5 = .ok (.iload_n 2, 1) := by decide +kernel
theorem dL_value_6 : decode cL_value 6 = .ok (.iload_n 3, 1) := by decide +kernel
theorem dL_value_7 : decode cL_value 7 = .ok (.invokevirtual 142, 3) := by decide +kernel
theorem dL_value_10 : decode cL_value 10 = .ok (.lastore, 1) := by decide +kernel
theorem dL_value_11 : decode cL_value 11 = .ok (.goto 11, 3) := by decide +kernel
theorem dL_value_14 : decode cL_value 14 = .ok (.astore 5, 2) := by decide +kernel
theorem dL_value_16 : decode cL_value 16 = .ok (.iconst 1, 1) := by decide +kernel
theorem dL_value_17 : decode cL_value 17 = .ok (.ireturn, 1) := by decide +kernel
theorem dL_value_18 : decode cL_value 18 = .ok (.astore 5, 2) := by decide +kernel
theorem dL_value_20 : decode cL_value 20 = .ok (.iconst 2, 1) := by decide +kernel
theorem dL_value_21 : decode cL_value 21 = .ok (.ireturn, 1) := by decide +kernel
theorem dL_value_22 : decode cL_value 22 = .ok (.iconst 0, 1) := by decide +kernel
theorem dL_value_23 : decode cL_value 23 = .ok (.ireturn, 1) := by decide +kernel
theorem dL_other_0 : decode cL_other 0 = .ok (.aload_n 3, 1) := by decide +kernel
theorem dL_other_1 : decode cL_other 1 = .ok (.iconst 0, 1) := by decide +kernel
theorem dL_other_2 : decode cL_other 2 = .ok (.aload_n 0, 1) := by decide +kernel
theorem dL_other_3 : decode cL_other 3 = .ok (.iload_n 1, 1) := by decide +kernel
theorem dL_other_4 : decode cL_other 4 = .ok (.iload_n 2, 1) := by decide +kernel
theorem dL_other_5 : decode cL_other 5 = .ok (.invokevirtual 146, 3) := by decide +kernel
theorem dL_other_8 : decode cL_other 8 = .ok (.i2l, 1) := by decide +kernel
theorem dL_other_9 : decode cL_other 9 = .ok (.lastore, 1) := by decide +kernel
theorem dL_other_10 : decode cL_other 10 = .ok (.goto 11, 3) := by decide +kernel
theorem dL_other_13 : decode cL_other 13 = .ok (.astore 4, 2) := by decide +kernel
theorem dL_other_15 : decode cL_other 15 = .ok (.iconst 1, 1) := by decide +kernel
theorem dL_other_16 : decode cL_other 16 = .ok (.ireturn, 1) := by decide +kernel
theorem dL_other_17 : decode cL_other 17 = .ok (.astore 4, 2) := by decide +kernel
theorem dL_other_19 : decode cL_other 19 = .ok (.iconst 2, 1) := by decide +kernel
theorem dL_other_20 : decode cL_other 20 = .ok (.ireturn, 1) := by decide +kernel
theorem dL_other_21 : decode cL_other 21 = .ok (.iconst 0, 1) := by decide +kernel
theorem dL_other_22 : decode cL_other 22 = .ok (.ireturn, 1) := by decide +kernel
theorem dL_binaryShare_0 : decode cL_binaryShare 0 = .ok (.aload_n 1, 1) := by decide +kernel
theorem dL_binaryShare_1 : decode cL_binaryShare 1 = .ok (.iconst 0, 1) := by decide +kernel
theorem dL_binaryShare_2 : decode cL_binaryShare 2 = .ok (.aload_n 0, 1) := by decide +kernel
theorem dL_binaryShare_3 : decode cL_binaryShare 3 = .ok (.invokevirtual 149, 3) := by decide +kernel
theorem dL_binaryShare_6 : decode cL_binaryShare 6 = .ok (.f2d, 1) := by decide +kernel
theorem dL_binaryShare_7 : decode cL_binaryShare 7 = .ok (.dastore, 1) := by decide +kernel
theorem dL_binaryShare_8 : decode cL_binaryShare 8 = .ok (.goto 6, 3) := by decide +kernel
theorem dL_binaryShare_11 : decode cL_binaryShare 11 = .ok (.astore_n 2, 1) := by decide +kernel
theorem dL_binaryShare_12 : decode cL_binaryShare 12 = .ok (.iconst 1, 1) := by decide +kernel
theorem dL_binaryShare_13 : decode cL_binaryShare 13 = .ok (.ireturn, 1) := by decide +kernel
theorem dL_binaryShare_14 : decode cL_binaryShare 14 = .ok (.iconst 0, 1) := by decide +kernel
theorem dL_binaryShare_15 : decode cL_binaryShare 15 = .ok (.ireturn, 1) := by decide +kernel
theorem dL_meanBases_0 : decode cL_meanBases 0 = .ok (.aload_n 1, 1) := by decide +kernel
theorem dL_meanBases_1 : decode cL_meanBases 1 = .ok (.iconst 0, 1) := by decide +kernel
theorem dL_meanBases_2 : decode cL_meanBases 2 = .ok (.aload_n 0, 1) := by decide +kernel
theorem dL_meanBases_3 : decode cL_meanBases 3 = .ok (.invokevirtual 155, 3) := by decide +kernel
theorem dL_meanBases_6 : decode cL_meanBases 6 = .ok (.dastore, 1) := by decide +kernel
theorem dL_meanBases_7 : decode cL_meanBases 7 = .ok (.goto 6, 3) := by decide +kernel
theorem dL_meanBases_10 : decode cL_meanBases 10 = .ok (.astore_n 2, 1) := by decide +kernel
theorem dL_meanBases_11 : decode cL_meanBases 11 = .ok (.iconst 1, 1) := by decide +kernel
theorem dL_meanBases_12 : decode cL_meanBases 12 = .ok (.ireturn, 1) := by decide +kernel
theorem dL_meanBases_13 : decode cL_meanBases 13 = .ok (.iconst 0, 1) := by decide +kernel
theorem dL_meanBases_14 : decode cL_meanBases 14 = .ok (.ireturn, 1) := by decide +kernel
