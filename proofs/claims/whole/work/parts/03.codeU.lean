theorem dd_U_init_0 : decode cd_U_init 0 = .ok (.aload_n 0, 1) := by decide +kernel
theorem dd_U_init_1 : decode cd_U_init 1 = .ok (.invokespecial 1, 3) := by decide +kernel
theorem dd_U_init_4 : decode cd_U_init 4 = .ok (.aload_n 0, 1) := by decide +kernel
theorem dd_U_init_5 : decode cd_U_init 5 = .ok (.new 7, 3) := by decide +kernel
theorem dd_U_init_8 : decode cd_U_init 8 = .ok (.dup, 1) := by decide +kernel
theorem dd_U_init_9 : decode cd_U_init 9 = .ok (.invokespecial 9, 3) := by decide +kernel
theorem dd_U_init_12 : decode cd_U_init 12 = .ok (.putfield 10, 3) := by decide +kernel
theorem dd_U_init_15 : decode cd_U_init 15 = .ok (.aload_n 0, 1) := by decide +kernel
theorem dd_U_init_16 : decode cd_U_init 16 = .ok (.new 16, 3) := by decide +kernel
theorem dd_U_init_19 : decode cd_U_init 19 = .ok (.dup, 1) := by decide +kernel
theorem dd_U_init_20 : decode cd_U_init 20 = .ok (.invokespecial 18, 3) := by decide +kernel
theorem dd_U_init_23 : decode cd_U_init 23 = .ok (.putfield 19, 3) := by decide +kernel
theorem dd_U_init_26 : decode cd_U_init 26 = .ok (.aload_n 0, 1) := by decide +kernel
theorem dd_U_init_27 : decode cd_U_init 27 = .ok (.new 23, 3) := by decide +kernel
theorem dd_U_init_30 : decode cd_U_init 30 = .ok (.dup, 1) := by decide +kernel
theorem dd_U_init_31 : decode cd_U_init 31 = .ok (.invokespecial 25, 3) := by decide +kernel
theorem dd_U_init_34 : decode cd_U_init 34 = .ok (.putfield 26, 3) := by decide +kernel
theorem dd_U_init_37 : decode cd_U_init 37 = .ok (.aload_n 0, 1) := by decide +kernel
theorem dd_U_init_38 : decode cd_U_init 38 = .ok (.new 30, 3) := by decide +kernel
theorem dd_U_init_41 : decode cd_U_init 41 = .ok (.dup, 1) := by decide +kernel
theorem dd_U_init_42 : decode cd_U_init 42 = .ok (.invokespecial 32, 3) := by decide +kernel
theorem dd_U_init_45 : decode cd_U_init 45 = .ok (.putfield 33, 3) := by decide +kernel
theorem dd_U_init_48 : decode cd_U_init 48 = .ok (.aload_n 0, 1) := by decide +kernel
theorem dd_U_init_49 : decode cd_U_init 49 = .ok (.new 37, 3) := by decide +kernel
theorem dd_U_init_52 : decode cd_U_init 52 = .ok (.dup, 1) := by decide +kernel
theorem dd_U_init_53 : decode cd_U_init 53 = .ok (.invokespecial 39, 3) := by decide +kernel
theorem dd_U_init_56 : decode cd_U_init 56 = .ok (.putfield 40, 3) := by decide +kernel
theorem dd_U_init_59 : decode cd_U_init 59 = .ok (.aload_n 0, 1) := by decide +kernel
theorem dd_U_init_60 : decode cd_U_init 60 = .ok (.iconst 1, 1) := by decide +kernel
theorem dd_U_init_61 : decode cd_U_init 61 = .ok (.putfield 44, 3) := by decide +kernel
theorem dd_U_init_64 : decode cd_U_init 64 = .ok (.aload_n 0, 1) := by decide +kernel
theorem dd_U_init_65 : decode cd_U_init 65 = .ok (.bipush 100, 2) := by decide +kernel
theorem dd_U_init_67 : decode cd_U_init 67 = .ok (.putfield 48, 3) := by decide +kernel
theorem dd_U_init_70 : decode cd_U_init 70 = .ok (.aload_n 0, 1) := by decide +kernel
theorem dd_U_init_71 : decode cd_U_init 71 = .ok (.bipush 8, 2) := by decide +kernel
theorem dd_U_init_73 : decode cd_U_init 73 = .ok (.bipush 61, 2) := by decide +kernel
theorem dd_U_init_75 : decode cd_U_init 75 = .ok (.multianewarray 51 2, 4) := by decide +kernel
theorem dd_U_init_79 : decode cd_U_init 79 = .ok (.putfield 53, 3) := by decide +kernel
theorem dd_U_init_82 : decode cd_U_init 82 = .ok (.aload_n 0, 1) := by decide +kernel
theorem dd_U_init_83 : decode cd_U_init 83 = .ok (.bipush 20, 2) := by decide +kernel
theorem dd_U_init_85 : decode cd_U_init 85 = .ok (.newarray .long, 2) := by decide +kernel
theorem dd_U_init_87 : decode cd_U_init 87 = .ok (.putfield 56, 3) := by decide +kernel
theorem dd_U_init_90 : decode cd_U_init 90 = .ok (.aload_n 0, 1) := by decide +kernel
theorem dd_U_init_91 : decode cd_U_init 91 = .ok (.invokevirtual 60, 3) := by decide +kernel
theorem dd_U_init_94 : decode cd_U_init 94 = .ok (.return_, 1) := by decide +kernel
theorem dd_U_forgetCounts_0 : decode cd_U_forgetCounts 0 = .ok (.iconst 0, 1) := by decide +kernel
theorem dd_U_forgetCounts_1 : decode cd_U_forgetCounts 1 = .ok (.istore_n 1, 1) := by decide +kernel
theorem dd_U_forgetCounts_2 : decode cd_U_forgetCounts 2 = .ok (.iload_n 1, 1) := by decide +kernel
theorem dd_U_forgetCounts_3 : decode cd_U_forgetCounts 3 = .ok (.bipush 8, 2) := by decide +kernel
theorem dd_U_forgetCounts_5 : decode cd_U_forgetCounts 5 = .ok (.if_icmp .ge 19, 3) := by decide +kernel
theorem dd_U_forgetCounts_8 : decode cd_U_forgetCounts 8 = .ok (.aload_n 0, 1) := by decide +kernel
theorem dd_U_forgetCounts_9 : decode cd_U_forgetCounts 9 = .ok (.getfield 53, 3) := by decide +kernel
theorem dd_U_forgetCounts_12 : decode cd_U_forgetCounts 12 = .ok (.iload_n 1, 1) := by decide +kernel
theorem dd_U_forgetCounts_13 : decode cd_U_forgetCounts 13 = .ok (.aaload, 1) := by decide +kernel
theorem dd_U_forgetCounts_14 : decode cd_U_forgetCounts 14 = .ok (.iconst (-1), 1) := by decide +kernel
theorem dd_U_forgetCounts_15 : decode cd_U_forgetCounts 15 = .ok (.invokestatic 210, 3) := by decide +kernel
theorem dd_U_forgetCounts_18 : decode cd_U_forgetCounts 18 = .ok (.iinc 1 1, 3) := by decide +kernel
theorem dd_U_forgetCounts_21 : decode cd_U_forgetCounts 21 = .ok (.goto (-19), 3) := by decide +kernel
theorem dd_U_forgetCounts_24 : decode cd_U_forgetCounts 24 = .ok (.return_, 1) := by decide +kernel
theorem dd_U_cost_0 : decode cd_U_cost 0 = .ok (.iconst 0, 1) := by decide +kernel
theorem dd_U_cost_1 : decode cd_U_cost 1 = .ok (.istore_n 1, 1) := by decide +kernel
theorem dd_U_cost_2 : decode cd_U_cost 2 = .ok (.iconst 0, 1) := by decide +kernel
theorem dd_U_cost_3 : decode cd_U_cost 3 = .ok (.istore_n 2, 1) := by decide +kernel
theorem dd_U_cost_4 : decode cd_U_cost 4 = .ok (.iload_n 2, 1) := by decide +kernel
theorem dd_U_cost_5 : decode cd_U_cost 5 = .ok (.aload_n 0, 1) := by decide +kernel
theorem dd_U_cost_6 : decode cd_U_cost 6 = .ok (.getfield 19, 3) := by decide +kernel
theorem dd_U_cost_9 : decode cd_U_cost 9 = .ok (.getfield 85, 3) := by decide +kernel
theorem dd_U_cost_12 : decode cd_U_cost 12 = .ok (.if_icmp .ge 51, 3) := by decide +kernel
theorem dd_U_cost_15 : decode cd_U_cost 15 = .ok (.aload_n 0, 1) := by decide +kernel
theorem dd_U_cost_16 : decode cd_U_cost 16 = .ok (.getfield 26, 3) := by decide +kernel
theorem dd_U_cost_19 : decode cd_U_cost 19 = .ok (.aload_n 0, 1) := by decide +kernel
theorem dd_U_cost_20 : decode cd_U_cost 20 = .ok (.iload_n 2, 1) := by decide +kernel
theorem dd_U_cost_21 : decode cd_U_cost 21 = .ok (.invokevirtual 181, 3) := by decide +kernel
theorem dd_U_cost_24 : decode cd_U_cost 24 = .ok (.invokevirtual 184, 3) := by decide +kernel
theorem dd_U_cost_27 : decode cd_U_cost 27 = .ok (.istore_n 3, 1) := by decide +kernel
theorem dd_U_cost_28 : decode cd_U_cost 28 = .ok (.iload_n 3, 1) := by decide +kernel
theorem dd_U_cost_29 : decode cd_U_cost 29 = .ok (.iconst (-1), 1) := by decide +kernel
theorem dd_U_cost_30 : decode cd_U_cost 30 = .ok (.if_icmp .ne 5, 3) := by decide +kernel
theorem dd_U_cost_33 : decode cd_U_cost 33 = .ok (.iconst (-1), 1) := by decide +kernel
theorem dd_U_cost_34 : decode cd_U_cost 34 = .ok (.ireturn, 1) := by decide +kernel
theorem dd_U_cost_35 : decode cd_U_cost 35 = .ok (.iload_n 1, 1) := by decide +kernel
theorem dd_U_cost_36 : decode cd_U_cost 36 = .ok (.aload_n 0, 1) := by decide +kernel
theorem dd_U_cost_37 : decode cd_U_cost 37 = .ok (.getfield 19, 3) := by decide +kernel
theorem dd_U_cost_40 : decode cd_U_cost 40 = .ok (.getfield 187, 3) := by decide +kernel
theorem dd_U_cost_43 : decode cd_U_cost 43 = .ok (.iload_n 2, 1) := by decide +kernel
theorem dd_U_cost_44 : decode cd_U_cost 44 = .ok (.iaload, 1) := by decide +kernel
theorem dd_U_cost_45 : decode cd_U_cost 45 = .ok (.aload_n 0, 1) := by decide +kernel
theorem dd_U_cost_46 : decode cd_U_cost 46 = .ok (.getfield 26, 3) := by decide +kernel
theorem dd_U_cost_49 : decode cd_U_cost 49 = .ok (.getfield 190, 3) := by decide +kernel
theorem dd_U_cost_52 : decode cd_U_cost 52 = .ok (.iload_n 3, 1) := by decide +kernel
theorem dd_U_cost_53 : decode cd_U_cost 53 = .ok (.iaload, 1) := by decide +kernel
theorem dd_U_cost_54 : decode cd_U_cost 54 = .ok (.imul, 1) := by decide +kernel
theorem dd_U_cost_55 : decode cd_U_cost 55 = .ok (.iadd, 1) := by decide +kernel
theorem dd_U_cost_56 : decode cd_U_cost 56 = .ok (.istore_n 1, 1) := by decide +kernel
theorem dd_U_cost_57 : decode cd_U_cost 57 = .ok (.iinc 2 1, 3) := by decide +kernel
theorem dd_U_cost_60 : decode cd_U_cost 60 = .ok (.goto (-56), 3) := by decide +kernel
theorem dd_U_cost_63 : decode cd_U_cost 63 = .ok (.iload_n 1, 1) := by decide +kernel
theorem dd_U_cost_64 : decode cd_U_cost 64 = .ok (.ireturn, 1) := by decide +kernel
theorem dd_U_flowOf_0 : decode cd_U_flowOf 0 = .ok (.iconst 0, 1) := by decide +kernel
theorem dd_U_flowOf_1 : decode cd_U_flowOf 1 = .ok (.istore_n 2, 1) := by decide +kernel
theorem dd_U_flowOf_2 : decode cd_U_flowOf 2 = .ok (.iconst 0, 1) := by decide +kernel
theorem dd_U_flowOf_3 : decode cd_U_flowOf 3 = .ok (.istore_n 3, 1) := by decide +kernel
theorem dd_U_flowOf_4 : decode cd_U_flowOf 4 = .ok (.iload_n 3, 1) := by decide +kernel
theorem dd_U_flowOf_5 : decode cd_U_flowOf 5 = .ok (.aload_n 0, 1) := by decide +kernel
theorem dd_U_flowOf_6 : decode cd_U_flowOf 6 = .ok (.getfield 10, 3) := by decide +kernel
theorem dd_U_flowOf_9 : decode cd_U_flowOf 9 = .ok (.getfield 71, 3) := by decide +kernel
theorem dd_U_flowOf_12 : decode cd_U_flowOf 12 = .ok (.if_icmp .ge 28, 3) := by decide +kernel
theorem dd_U_flowOf_15 : decode cd_U_flowOf 15 = .ok (.iload_n 2, 1) := by decide +kernel
theorem dd_U_flowOf_16 : decode cd_U_flowOf 16 = .ok (.aload_n 0, 1) := by decide +kernel
theorem dd_U_flowOf_17 : decode cd_U_flowOf 17 = .ok (.iload_n 1, 1) := by decide +kernel
theorem dd_U_flowOf_18 : decode cd_U_flowOf 18 = .ok (.iload_n 3, 1) := by decide +kernel
theorem dd_U_flowOf_19 : decode cd_U_flowOf 19 = .ok (.invokevirtual 116, 3) := by decide +kernel
theorem dd_U_flowOf_22 : decode cd_U_flowOf 22 = .ok (.aload_n 0, 1) := by decide +kernel
theorem dd_U_flowOf_23 : decode cd_U_flowOf 23 = .ok (.getfield 10, 3) := by decide +kernel
theorem dd_U_flowOf_26 : decode cd_U_flowOf 26 = .ok (.getfield 219, 3) := by decide +kernel
theorem dd_U_flowOf_29 : decode cd_U_flowOf 29 = .ok (.iload_n 3, 1) := by decide +kernel
theorem dd_U_flowOf_30 : decode cd_U_flowOf 30 = .ok (.iaload, 1) := by decide +kernel
theorem dd_U_flowOf_31 : decode cd_U_flowOf 31 = .ok (.imul, 1) := by decide +kernel
theorem dd_U_flowOf_32 : decode cd_U_flowOf 32 = .ok (.iadd, 1) := by decide +kernel
theorem dd_U_flowOf_33 : decode cd_U_flowOf 33 = .ok (.istore_n 2, 1) := by decide +kernel
theorem dd_U_flowOf_34 : decode cd_U_flowOf 34 = .ok (.iinc 3 1, 3) := by decide +kernel
theorem dd_U_flowOf_37 : decode cd_U_flowOf 37 = .ok (.goto (-33), 3) := by decide +kernel
theorem dd_U_flowOf_40 : decode cd_U_flowOf 40 = .ok (.iload_n 2, 1) := by decide +kernel
theorem dd_U_flowOf_41 : decode cd_U_flowOf 41 = .ok (.ireturn, 1) := by decide +kernel
theorem dd_U_countOf_0 : decode cd_U_countOf 0 = .ok (.aload_n 0, 1) := by decide +kernel
theorem dd_U_countOf_1 : decode cd_U_countOf 1 = .ok (.getfield 19, 3) := by decide +kernel
theorem dd_U_countOf_4 : decode cd_U_countOf 4 = .ok (.getfield 99, 3) := by decide +kernel
theorem dd_U_countOf_7 : decode cd_U_countOf 7 = .ok (.iload_n 1, 1) := by decide +kernel
theorem dd_U_countOf_8 : decode cd_U_countOf 8 = .ok (.aaload, 1) := by decide +kernel
theorem dd_U_countOf_9 : decode cd_U_countOf 9 = .ok (.iload_n 2, 1) := by decide +kernel
theorem dd_U_countOf_10 : decode cd_U_countOf 10 = .ok (.iaload, 1) := by decide +kernel
theorem dd_U_countOf_11 : decode cd_U_countOf 11 = .ok (.istore_n 3, 1) := by decide +kernel
theorem dd_U_countOf_12 : decode cd_U_countOf 12 = .ok (.aload_n 0, 1) := by decide +kernel
theorem dd_U_countOf_13 : decode cd_U_countOf 13 = .ok (.getfield 53, 3) := by decide +kernel
theorem dd_U_countOf_16 : decode cd_U_countOf 16 = .ok (.iload_n 2, 1) := by decide +kernel
theorem dd_U_countOf_17 : decode cd_U_countOf 17 = .ok (.aaload, 1) := by decide +kernel
theorem dd_U_countOf_18 : decode cd_U_countOf 18 = .ok (.iload_n 3, 1) := by decide +kernel
theorem dd_U_countOf_19 : decode cd_U_countOf 19 = .ok (.iaload, 1) := by decide +kernel
theorem dd_U_countOf_20 : decode cd_U_countOf 20 = .ok (.iconst (-1), 1) := by decide +kernel
theorem dd_U_countOf_21 : decode cd_U_countOf 21 = .ok (.if_icmp .ne 52, 3) := by decide +kernel
theorem dd_U_countOf_24 : decode cd_U_countOf 24 = .ok (.aload_n 0, 1) := by decide +kernel
theorem dd_U_countOf_25 : decode cd_U_countOf 25 = .ok (.getfield 33, 3) := by decide +kernel
theorem dd_U_countOf_28 : decode cd_U_countOf 28 = .ok (.aload_n 0, 1) := by decide +kernel
theorem dd_U_countOf_29 : decode cd_U_countOf 29 = .ok (.getfield 10, 3) := by decide +kernel
theorem dd_U_countOf_32 : decode cd_U_countOf 32 = .ok (.getfield 123, 3) := by decide +kernel
theorem dd_U_countOf_35 : decode cd_U_countOf 35 = .ok (.iload_n 2, 1) := by decide +kernel
theorem dd_U_countOf_36 : decode cd_U_countOf 36 = .ok (.iaload, 1) := by decide +kernel
theorem dd_U_countOf_37 : decode cd_U_countOf 37 = .ok (.aload_n 0, 1) := by decide +kernel
theorem dd_U_countOf_38 : decode cd_U_countOf 38 = .ok (.getfield 10, 3) := by decide +kernel
theorem dd_U_countOf_41 : decode cd_U_countOf 41 = .ok (.getfield 119, 3) := by decide +kernel
theorem dd_U_countOf_44 : decode cd_U_countOf 44 = .ok (.iload_n 2, 1) := by decide +kernel
theorem dd_U_countOf_45 : decode cd_U_countOf 45 = .ok (.iaload, 1) := by decide +kernel
theorem dd_U_countOf_46 : decode cd_U_countOf 46 = .ok (.iload_n 3, 1) := by decide +kernel
theorem dd_U_countOf_47 : decode cd_U_countOf 47 = .ok (.invokevirtual 126, 3) := by decide +kernel
theorem dd_U_countOf_50 : decode cd_U_countOf 50 = .ok (.aload_n 0, 1) := by decide +kernel
theorem dd_U_countOf_51 : decode cd_U_countOf 51 = .ok (.getfield 53, 3) := by decide +kernel
theorem dd_U_countOf_54 : decode cd_U_countOf 54 = .ok (.iload_n 2, 1) := by decide +kernel
theorem dd_U_countOf_55 : decode cd_U_countOf 55 = .ok (.aaload, 1) := by decide +kernel
theorem dd_U_countOf_56 : decode cd_U_countOf 56 = .ok (.iload_n 3, 1) := by decide +kernel
theorem dd_U_countOf_57 : decode cd_U_countOf 57 = .ok (.aload_n 0, 1) := by decide +kernel
theorem dd_U_countOf_58 : decode cd_U_countOf 58 = .ok (.getfield 33, 3) := by decide +kernel
theorem dd_U_countOf_61 : decode cd_U_countOf 61 = .ok (.aload_n 0, 1) := by decide +kernel
theorem dd_U_countOf_62 : decode cd_U_countOf 62 = .ok (.getfield 44, 3) := by decide +kernel
theorem dd_U_countOf_65 : decode cd_U_countOf 65 = .ok (.aload_n 0, 1) := by decide +kernel
theorem dd_U_countOf_66 : decode cd_U_countOf 66 = .ok (.getfield 48, 3) := by decide +kernel
theorem dd_U_countOf_69 : decode cd_U_countOf 69 = .ok (.invokevirtual 216, 3) := by decide +kernel
theorem dd_U_countOf_72 : decode cd_U_countOf 72 = .ok (.iastore, 1) := by decide +kernel
theorem dd_U_countOf_73 : decode cd_U_countOf 73 = .ok (.aload_n 0, 1) := by decide +kernel
theorem dd_U_countOf_74 : decode cd_U_countOf 74 = .ok (.getfield 53, 3) := by decide +kernel
theorem dd_U_countOf_77 : decode cd_U_countOf 77 = .ok (.iload_n 2, 1) := by decide +kernel
theorem dd_U_countOf_78 : decode cd_U_countOf 78 = .ok (.aaload, 1) := by decide +kernel
theorem dd_U_countOf_79 : decode cd_U_countOf 79 = .ok (.iload_n 3, 1) := by decide +kernel
theorem dd_U_countOf_80 : decode cd_U_countOf 80 = .ok (.iaload, 1) := by decide +kernel
theorem dd_U_countOf_81 : decode cd_U_countOf 81 = .ok (.ireturn, 1) := by decide +kernel
theorem dd_U_kind_0 : decode cd_U_kind 0 = .ok (.iload_n 1, 1) := by decide +kernel
theorem dd_U_kind_1 : decode cd_U_kind 1 = .ok (.iconst 1, 1) := by decide +kernel
theorem dd_U_kind_2 : decode cd_U_kind 2 = .ok (.sipush 10000, 3) := by decide +kernel
theorem dd_U_kind_5 : decode cd_U_kind 5 = .ok (.invokestatic 63, 3) := by decide +kernel
theorem dd_U_kind_8 : decode cd_U_kind 8 = .ok (.invokestatic 67, 3) := by decide +kernel
theorem dd_U_kind_11 : decode cd_U_kind 11 = .ok (.iload_n 3, 1) := by decide +kernel
theorem dd_U_kind_12 : decode cd_U_kind 12 = .ok (.iconst 1, 1) := by decide +kernel
theorem dd_U_kind_13 : decode cd_U_kind 13 = .ok (.sipush 1000, 3) := by decide +kernel
theorem dd_U_kind_16 : decode cd_U_kind 16 = .ok (.invokestatic 63, 3) := by decide +kernel
theorem dd_U_kind_19 : decode cd_U_kind 19 = .ok (.invokestatic 67, 3) := by decide +kernel
theorem dd_U_kind_22 : decode cd_U_kind 22 = .ok (.iload_n 2, 1) := by decide +kernel
theorem dd_U_kind_23 : decode cd_U_kind 23 = .ok (.ifCond .le 12, 3) := by decide +kernel
theorem dd_U_kind_26 : decode cd_U_kind 26 = .ok (.iload_n 2, 1) := by decide +kernel
theorem dd_U_kind_27 : decode cd_U_kind 27 = .ok (.iload_n 3, 1) := by decide +kernel
theorem dd_U_kind_28 : decode cd_U_kind 28 = .ok (.if_icmp .ge 7, 3) := by decide +kernel
theorem dd_U_kind_31 : decode cd_U_kind 31 = .ok (.iconst 1, 1) := by decide +kernel
theorem dd_U_kind_32 : decode cd_U_kind 32 = .ok (.goto 4, 3) := by decide +kernel
theorem dd_U_kind_35 : decode cd_U_kind 35 = .ok (.iconst 0, 1) := by decide +kernel
theorem dd_U_kind_36 : decode cd_U_kind 36 = .ok (.invokestatic 67, 3) := by decide +kernel
theorem dd_U_kind_39 : decode cd_U_kind 39 = .ok (.aload_n 0, 1) := by decide +kernel
theorem dd_U_kind_40 : decode cd_U_kind 40 = .ok (.getfield 10, 3) := by decide +kernel
theorem dd_U_kind_43 : decode cd_U_kind 43 = .ok (.getfield 71, 3) := by decide +kernel
theorem dd_U_kind_46 : decode cd_U_kind 46 = .ok (.bipush 8, 2) := by decide +kernel
theorem dd_U_kind_48 : decode cd_U_kind 48 = .ok (.if_icmp .lt 13, 3) := by decide +kernel
theorem dd_U_kind_51 : decode cd_U_kind 51 = .ok (.new 74, 3) := by decide +kernel
theorem dd_U_kind_54 : decode cd_U_kind 54 = .ok (.dup, 1) := by decide +kernel
theorem dd_U_kind_55 : decode cd_U_kind 55 = .ok (.ldc 76, 2) := by decide +kernel
theorem dd_U_kind_57 : decode cd_U_kind 57 = .ok (.invokespecial 78, 3) := by decide +kernel
theorem dd_U_kind_60 : decode cd_U_kind 60 = .ok (.athrow, 1) := by decide +kernel
theorem dd_U_kind_61 : decode cd_U_kind 61 = .ok (.aload_n 0, 1) := by decide +kernel
theorem dd_U_kind_62 : decode cd_U_kind 62 = .ok (.getfield 10, 3) := by decide +kernel
theorem dd_U_kind_65 : decode cd_U_kind 65 = .ok (.iload_n 1, 1) := by decide +kernel
theorem dd_U_kind_66 : decode cd_U_kind 66 = .ok (.iload_n 2, 1) := by decide +kernel
theorem dd_U_kind_67 : decode cd_U_kind 67 = .ok (.iload_n 3, 1) := by decide +kernel
theorem dd_U_kind_68 : decode cd_U_kind 68 = .ok (.invokevirtual 81, 3) := by decide +kernel
theorem dd_U_kind_71 : decode cd_U_kind 71 = .ok (.ireturn, 1) := by decide +kernel
theorem dd_U_isWithin_0 : decode cd_U_isWithin 0 = .ok (.iload_n 0, 1) := by decide +kernel
theorem dd_U_isWithin_1 : decode cd_U_isWithin 1 = .ok (.iload_n 1, 1) := by decide +kernel
theorem dd_U_isWithin_2 : decode cd_U_isWithin 2 = .ok (.if_icmp .lt 12, 3) := by decide +kernel
theorem dd_U_isWithin_5 : decode cd_U_isWithin 5 = .ok (.iload_n 0, 1) := by decide +kernel
theorem dd_U_isWithin_6 : decode cd_U_isWithin 6 = .ok (.iload_n 2, 1) := by decide +kernel
theorem dd_U_isWithin_7 : decode cd_U_isWithin 7 = .ok (.if_icmp .gt 7, 3) := by decide +kernel
theorem dd_U_isWithin_10 : decode cd_U_isWithin 10 = .ok (.iconst 1, 1) := by decide +kernel
theorem dd_U_isWithin_11 : decode cd_U_isWithin 11 = .ok (.goto 4, 3) := by decide +kernel
theorem dd_U_isWithin_14 : decode cd_U_isWithin 14 = .ok (.iconst 0, 1) := by decide +kernel
theorem dd_U_isWithin_15 : decode cd_U_isWithin 15 = .ok (.ireturn, 1) := by decide +kernel
theorem dd_U_require_0 : decode cd_U_require 0 = .ok (.iload_n 0, 1) := by decide +kernel
theorem dd_U_require_1 : decode cd_U_require 1 = .ok (.ifCond .ne 13, 3) := by decide +kernel
theorem dd_U_require_4 : decode cd_U_require 4 = .ok (.new 226, 3) := by decide +kernel
theorem dd_U_require_7 : decode cd_U_require 7 = .ok (.dup, 1) := by decide +kernel
theorem dd_U_require_8 : decode cd_U_require 8 = .ok (.ldc 228, 2) := by decide +kernel
theorem dd_U_require_10 : decode cd_U_require 10 = .ok (.invokespecial 230, 3) := by decide +kernel
theorem dd_U_require_13 : decode cd_U_require 13 = .ok (.athrow, 1) := by decide +kernel
theorem dd_U_require_14 : decode cd_U_require 14 = .ok (.return_, 1) := by decide +kernel
theorem dd_U_commonDivisor_0 : decode cd_U_commonDivisor 0 = .ok (.iload_n 0, 1) := by decide +kernel
theorem dd_U_commonDivisor_1 : decode cd_U_commonDivisor 1 = .ok (.istore_n 2, 1) := by decide +kernel
theorem dd_U_commonDivisor_2 : decode cd_U_commonDivisor 2 = .ok (.iload_n 1, 1) := by decide +kernel
theorem dd_U_commonDivisor_3 : decode cd_U_commonDivisor 3 = .ok (.istore_n 3, 1) := by decide +kernel
theorem dd_U_commonDivisor_4 : decode cd_U_commonDivisor 4 = .ok (.iconst 0, 1) := by decide +kernel
theorem dd_U_commonDivisor_5 : decode cd_U_commonDivisor 5 = .ok (.istore 4, 2) := by decide +kernel
theorem dd_U_commonDivisor_7 : decode cd_U_commonDivisor 7 = .ok (.iload 4, 2) := by decide +kernel
theorem dd_U_commonDivisor_9 : decode cd_U_commonDivisor 9 = .ok (.bipush 64, 2) := by decide +kernel
theorem dd_U_commonDivisor_11 : decode cd_U_commonDivisor 11 = .ok (.if_icmp .ge 23, 3) := by decide +kernel
theorem dd_U_commonDivisor_14 : decode cd_U_commonDivisor 14 = .ok (.iload_n 2, 1) := by decide +kernel
theorem dd_U_commonDivisor_15 : decode cd_U_commonDivisor 15 = .ok (.ifCond .le 19, 3) := by decide +kernel
theorem dd_U_commonDivisor_18 : decode cd_U_commonDivisor 18 = .ok (.iload_n 3, 1) := by decide +kernel
theorem dd_U_commonDivisor_19 : decode cd_U_commonDivisor 19 = .ok (.iload_n 2, 1) := by decide +kernel
theorem dd_U_commonDivisor_20 : decode cd_U_commonDivisor 20 = .ok (.irem, 1) := by decide +kernel
theorem dd_U_commonDivisor_21 : decode cd_U_commonDivisor 21 = .ok (.istore 5, 2) := by decide +kernel
theorem dd_U_commonDivisor_23 : decode cd_U_commonDivisor 23 = .ok (.iload_n 2, 1) := by decide +kernel
theorem dd_U_commonDivisor_24 : decode cd_U_commonDivisor 24 = .ok (.istore_n 3, 1) := by decide +kernel
theorem dd_U_commonDivisor_25 : decode cd_U_commonDivisor 25 = .ok (.iload 5, 2) := by decide +kernel
theorem dd_U_commonDivisor_27 : decode cd_U_commonDivisor 27 = .ok (.istore_n 2, 1) := by decide +kernel
theorem dd_U_commonDivisor_28 : decode cd_U_commonDivisor 28 = .ok (.iinc 4 1, 3) := by decide +kernel
theorem dd_U_commonDivisor_31 : decode cd_U_commonDivisor 31 = .ok (.goto (-24), 3) := by decide +kernel
theorem dd_U_commonDivisor_34 : decode cd_U_commonDivisor 34 = .ok (.iload_n 3, 1) := by decide +kernel
theorem dd_U_commonDivisor_35 : decode cd_U_commonDivisor 35 = .ok (.ireturn, 1) := by decide +kernel
theorem dd_U_pipe_0 : decode cd_U_pipe 0 = .ok (.aload_n 0, 1) := by decide +kernel
theorem dd_U_pipe_1 : decode cd_U_pipe 1 = .ok (.getfield 19, 3) := by decide +kernel
theorem dd_U_pipe_4 : decode cd_U_pipe 4 = .ok (.getfield 85, 3) := by decide +kernel
theorem dd_U_pipe_7 : decode cd_U_pipe 7 = .ok (.ifCond .ne 16, 3) := by decide +kernel
theorem dd_U_pipe_10 : decode cd_U_pipe 10 = .ok (.iload_n 1, 1) := by decide +kernel
theorem dd_U_pipe_11 : decode cd_U_pipe 11 = .ok (.iconst (-1), 1) := by decide +kernel
theorem dd_U_pipe_12 : decode cd_U_pipe 12 = .ok (.if_icmp .ne 7, 3) := by decide +kernel
theorem dd_U_pipe_15 : decode cd_U_pipe 15 = .ok (.iconst 1, 1) := by decide +kernel
theorem dd_U_pipe_16 : decode cd_U_pipe 16 = .ok (.goto 15, 3) := by decide +kernel
theorem dd_U_pipe_19 : decode cd_U_pipe 19 = .ok (.iconst 0, 1) := by decide +kernel
theorem dd_U_pipe_20 : decode cd_U_pipe 20 = .ok (.goto 11, 3) := by decide +kernel
theorem dd_U_pipe_23 : decode cd_U_pipe 23 = .ok (.aload_n 0, 1) := by decide +kernel
theorem dd_U_pipe_24 : decode cd_U_pipe 24 = .ok (.getfield 19, 3) := by decide +kernel
theorem dd_U_pipe_27 : decode cd_U_pipe 27 = .ok (.iload_n 1, 1) := by decide +kernel
theorem dd_U_pipe_28 : decode cd_U_pipe 28 = .ok (.invokevirtual 86, 3) := by decide +kernel
theorem dd_U_pipe_31 : decode cd_U_pipe 31 = .ok (.invokestatic 67, 3) := by decide +kernel
theorem dd_U_pipe_34 : decode cd_U_pipe 34 = .ok (.iload_n 2, 1) := by decide +kernel
theorem dd_U_pipe_35 : decode cd_U_pipe 35 = .ok (.iconst 1, 1) := by decide +kernel
theorem dd_U_pipe_36 : decode cd_U_pipe 36 = .ok (.sipush 1000, 3) := by decide +kernel
theorem dd_U_pipe_39 : decode cd_U_pipe 39 = .ok (.invokestatic 63, 3) := by decide +kernel
theorem dd_U_pipe_42 : decode cd_U_pipe 42 = .ok (.invokestatic 67, 3) := by decide +kernel
theorem dd_U_pipe_45 : decode cd_U_pipe 45 = .ok (.aload_n 0, 1) := by decide +kernel
theorem dd_U_pipe_46 : decode cd_U_pipe 46 = .ok (.getfield 19, 3) := by decide +kernel
theorem dd_U_pipe_49 : decode cd_U_pipe 49 = .ok (.getfield 85, 3) := by decide +kernel
theorem dd_U_pipe_52 : decode cd_U_pipe 52 = .ok (.bipush 20, 2) := by decide +kernel
theorem dd_U_pipe_54 : decode cd_U_pipe 54 = .ok (.if_icmp .lt 13, 3) := by decide +kernel
theorem dd_U_pipe_57 : decode cd_U_pipe 57 = .ok (.new 74, 3) := by decide +kernel
theorem dd_U_pipe_60 : decode cd_U_pipe 60 = .ok (.dup, 1) := by decide +kernel
theorem dd_U_pipe_61 : decode cd_U_pipe 61 = .ok (.ldc 90, 2) := by decide +kernel
theorem dd_U_pipe_63 : decode cd_U_pipe 63 = .ok (.invokespecial 78, 3) := by decide +kernel
theorem dd_U_pipe_66 : decode cd_U_pipe 66 = .ok (.athrow, 1) := by decide +kernel
theorem dd_U_pipe_67 : decode cd_U_pipe 67 = .ok (.aload_n 0, 1) := by decide +kernel
theorem dd_U_pipe_68 : decode cd_U_pipe 68 = .ok (.getfield 19, 3) := by decide +kernel
theorem dd_U_pipe_71 : decode cd_U_pipe 71 = .ok (.iload_n 1, 1) := by decide +kernel
theorem dd_U_pipe_72 : decode cd_U_pipe 72 = .ok (.iload_n 2, 1) := by decide +kernel
theorem dd_U_pipe_73 : decode cd_U_pipe 73 = .ok (.invokevirtual 92, 3) := by decide +kernel
theorem dd_U_pipe_76 : decode cd_U_pipe 76 = .ok (.ireturn, 1) := by decide +kernel
theorem dd_U_taps_0 : decode cd_U_taps 0 = .ok (.aload_n 0, 1) := by decide +kernel
theorem dd_U_taps_1 : decode cd_U_taps 1 = .ok (.iload_n 1, 1) := by decide +kernel
theorem dd_U_taps_2 : decode cd_U_taps 2 = .ok (.iload_n 2, 1) := by decide +kernel
theorem dd_U_taps_3 : decode cd_U_taps 3 = .ok (.invokevirtual 95, 3) := by decide +kernel
theorem dd_U_taps_6 : decode cd_U_taps 6 = .ok (.iload_n 3, 1) := by decide +kernel
theorem dd_U_taps_7 : decode cd_U_taps 7 = .ok (.iconst 1, 1) := by decide +kernel
theorem dd_U_taps_8 : decode cd_U_taps 8 = .ok (.bipush 60, 2) := by decide +kernel
theorem dd_U_taps_10 : decode cd_U_taps 10 = .ok (.invokestatic 63, 3) := by decide +kernel
theorem dd_U_taps_13 : decode cd_U_taps 13 = .ok (.invokestatic 67, 3) := by decide +kernel
theorem dd_U_taps_16 : decode cd_U_taps 16 = .ok (.aload_n 0, 1) := by decide +kernel
theorem dd_U_taps_17 : decode cd_U_taps 17 = .ok (.getfield 19, 3) := by decide +kernel
theorem dd_U_taps_20 : decode cd_U_taps 20 = .ok (.getfield 99, 3) := by decide +kernel
theorem dd_U_taps_23 : decode cd_U_taps 23 = .ok (.iconst 0, 1) := by decide +kernel
theorem dd_U_taps_24 : decode cd_U_taps 24 = .ok (.aaload, 1) := by decide +kernel
theorem dd_U_taps_25 : decode cd_U_taps 25 = .ok (.iload_n 2, 1) := by decide +kernel
theorem dd_U_taps_26 : decode cd_U_taps 26 = .ok (.iaload, 1) := by decide +kernel
theorem dd_U_taps_27 : decode cd_U_taps 27 = .ok (.iload_n 3, 1) := by decide +kernel
theorem dd_U_taps_28 : decode cd_U_taps 28 = .ok (.iadd, 1) := by decide +kernel
theorem dd_U_taps_29 : decode cd_U_taps 29 = .ok (.bipush 60, 2) := by decide +kernel
theorem dd_U_taps_31 : decode cd_U_taps 31 = .ok (.if_icmp .le 13, 3) := by decide +kernel
theorem dd_U_taps_34 : decode cd_U_taps 34 = .ok (.new 74, 3) := by decide +kernel
theorem dd_U_taps_37 : decode cd_U_taps 37 = .ok (.dup, 1) := by decide +kernel
theorem dd_U_taps_38 : decode cd_U_taps 38 = .ok (.ldc 102, 2) := by decide +kernel
theorem dd_U_taps_40 : decode cd_U_taps 40 = .ok (.invokespecial 78, 3) := by decide +kernel
theorem dd_U_taps_43 : decode cd_U_taps 43 = .ok (.athrow, 1) := by decide +kernel
theorem dd_U_taps_44 : decode cd_U_taps 44 = .ok (.aload_n 0, 1) := by decide +kernel
theorem dd_U_taps_45 : decode cd_U_taps 45 = .ok (.getfield 19, 3) := by decide +kernel
theorem dd_U_taps_48 : decode cd_U_taps 48 = .ok (.iload_n 1, 1) := by decide +kernel
theorem dd_U_taps_49 : decode cd_U_taps 49 = .ok (.iload_n 2, 1) := by decide +kernel
theorem dd_U_taps_50 : decode cd_U_taps 50 = .ok (.iload_n 3, 1) := by decide +kernel
theorem dd_U_taps_51 : decode cd_U_taps 51 = .ok (.invokevirtual 104, 3) := by decide +kernel
theorem dd_U_taps_54 : decode cd_U_taps 54 = .ok (.aload_n 0, 1) := by decide +kernel
theorem dd_U_taps_55 : decode cd_U_taps 55 = .ok (.getfield 19, 3) := by decide +kernel
theorem dd_U_taps_58 : decode cd_U_taps 58 = .ok (.getfield 108, 3) := by decide +kernel
theorem dd_U_taps_61 : decode cd_U_taps 61 = .ok (.iload_n 1, 1) := by decide +kernel
theorem dd_U_taps_62 : decode cd_U_taps 62 = .ok (.aaload, 1) := by decide +kernel
theorem dd_U_taps_63 : decode cd_U_taps 63 = .ok (.iload_n 2, 1) := by decide +kernel
theorem dd_U_taps_64 : decode cd_U_taps 64 = .ok (.iaload, 1) := by decide +kernel
theorem dd_U_taps_65 : decode cd_U_taps 65 = .ok (.ireturn, 1) := by decide +kernel
theorem dd_U_requirePipeAndKind_0 : decode cd_U_requirePipeAndKind 0 = .ok (.aload_n 0, 1) := by decide +kernel
theorem dd_U_requirePipeAndKind_1 : decode cd_U_requirePipeAndKind 1 = .ok (.getfield 19, 3) := by decide +kernel
theorem dd_U_requirePipeAndKind_4 : decode cd_U_requirePipeAndKind 4 = .ok (.iload_n 1, 1) := by decide +kernel
theorem dd_U_requirePipeAndKind_5 : decode cd_U_requirePipeAndKind 5 = .ok (.invokevirtual 86, 3) := by decide +kernel
theorem dd_U_requirePipeAndKind_8 : decode cd_U_requirePipeAndKind 8 = .ok (.ifCond .eq 18, 3) := by decide +kernel
theorem dd_U_requirePipeAndKind_11 : decode cd_U_requirePipeAndKind 11 = .ok (.aload_n 0, 1) := by decide +kernel
theorem dd_U_requirePipeAndKind_12 : decode cd_U_requirePipeAndKind 12 = .ok (.getfield 10, 3) := by decide +kernel
theorem dd_U_requirePipeAndKind_15 : decode cd_U_requirePipeAndKind 15 = .ok (.iload_n 2, 1) := by decide +kernel
theorem dd_U_requirePipeAndKind_16 : decode cd_U_requirePipeAndKind 16 = .ok (.invokevirtual 225, 3) := by decide +kernel
theorem dd_U_requirePipeAndKind_19 : decode cd_U_requirePipeAndKind 19 = .ok (.ifCond .eq 7, 3) := by decide +kernel
theorem dd_U_requirePipeAndKind_22 : decode cd_U_requirePipeAndKind 22 = .ok (.iconst 1, 1) := by decide +kernel
theorem dd_U_requirePipeAndKind_23 : decode cd_U_requirePipeAndKind 23 = .ok (.goto 4, 3) := by decide +kernel
theorem dd_U_requirePipeAndKind_26 : decode cd_U_requirePipeAndKind 26 = .ok (.iconst 0, 1) := by decide +kernel
theorem dd_U_requirePipeAndKind_27 : decode cd_U_requirePipeAndKind 27 = .ok (.invokestatic 67, 3) := by decide +kernel
theorem dd_U_requirePipeAndKind_30 : decode cd_U_requirePipeAndKind 30 = .ok (.return_, 1) := by decide +kernel
theorem dd_U_gone_0 : decode cd_U_gone 0 = .ok (.aload_n 0, 1) := by decide +kernel
theorem dd_U_gone_1 : decode cd_U_gone 1 = .ok (.iload_n 1, 1) := by decide +kernel
theorem dd_U_gone_2 : decode cd_U_gone 2 = .ok (.iload_n 2, 1) := by decide +kernel
theorem dd_U_gone_3 : decode cd_U_gone 3 = .ok (.invokevirtual 95, 3) := by decide +kernel
theorem dd_U_gone_6 : decode cd_U_gone 6 = .ok (.iload_n 3, 1) := by decide +kernel
theorem dd_U_gone_7 : decode cd_U_gone 7 = .ok (.iconst 1, 1) := by decide +kernel
theorem dd_U_gone_8 : decode cd_U_gone 8 = .ok (.aload_n 0, 1) := by decide +kernel
theorem dd_U_gone_9 : decode cd_U_gone 9 = .ok (.getfield 19, 3) := by decide +kernel
theorem dd_U_gone_12 : decode cd_U_gone 12 = .ok (.getfield 108, 3) := by decide +kernel
theorem dd_U_gone_15 : decode cd_U_gone 15 = .ok (.iload_n 1, 1) := by decide +kernel
theorem dd_U_gone_16 : decode cd_U_gone 16 = .ok (.aaload, 1) := by decide +kernel
theorem dd_U_gone_17 : decode cd_U_gone 17 = .ok (.iload_n 2, 1) := by decide +kernel
theorem dd_U_gone_18 : decode cd_U_gone 18 = .ok (.iaload, 1) := by decide +kernel
theorem dd_U_gone_19 : decode cd_U_gone 19 = .ok (.invokestatic 63, 3) := by decide +kernel
theorem dd_U_gone_22 : decode cd_U_gone 22 = .ok (.invokestatic 67, 3) := by decide +kernel
theorem dd_U_gone_25 : decode cd_U_gone 25 = .ok (.aload_n 0, 1) := by decide +kernel
theorem dd_U_gone_26 : decode cd_U_gone 26 = .ok (.getfield 19, 3) := by decide +kernel
theorem dd_U_gone_29 : decode cd_U_gone 29 = .ok (.iload_n 1, 1) := by decide +kernel
theorem dd_U_gone_30 : decode cd_U_gone 30 = .ok (.iload_n 2, 1) := by decide +kernel
theorem dd_U_gone_31 : decode cd_U_gone 31 = .ok (.iload_n 3, 1) := by decide +kernel
theorem dd_U_gone_32 : decode cd_U_gone 32 = .ok (.ineg, 1) := by decide +kernel
theorem dd_U_gone_33 : decode cd_U_gone 33 = .ok (.invokevirtual 104, 3) := by decide +kernel
theorem dd_U_gone_36 : decode cd_U_gone 36 = .ok (.aload_n 0, 1) := by decide +kernel
theorem dd_U_gone_37 : decode cd_U_gone 37 = .ok (.getfield 19, 3) := by decide +kernel
theorem dd_U_gone_40 : decode cd_U_gone 40 = .ok (.getfield 108, 3) := by decide +kernel
theorem dd_U_gone_43 : decode cd_U_gone 43 = .ok (.iload_n 1, 1) := by decide +kernel
theorem dd_U_gone_44 : decode cd_U_gone 44 = .ok (.aaload, 1) := by decide +kernel
theorem dd_U_gone_45 : decode cd_U_gone 45 = .ok (.iload_n 2, 1) := by decide +kernel
theorem dd_U_gone_46 : decode cd_U_gone 46 = .ok (.iaload, 1) := by decide +kernel
theorem dd_U_gone_47 : decode cd_U_gone 47 = .ok (.ireturn, 1) := by decide +kernel
theorem dd_U_share_0 : decode cd_U_share 0 = .ok (.iload_n 2, 1) := by decide +kernel
theorem dd_U_share_1 : decode cd_U_share 1 = .ok (.iconst 1, 1) := by decide +kernel
theorem dd_U_share_2 : decode cd_U_share 2 = .ok (.ldc 111, 2) := by decide +kernel
theorem dd_U_share_4 : decode cd_U_share 4 = .ok (.invokestatic 63, 3) := by decide +kernel
theorem dd_U_share_7 : decode cd_U_share 7 = .ok (.invokestatic 67, 3) := by decide +kernel
theorem dd_U_share_10 : decode cd_U_share 10 = .ok (.iload_n 1, 1) := by decide +kernel
theorem dd_U_share_11 : decode cd_U_share 11 = .ok (.iconst 0, 1) := by decide +kernel
theorem dd_U_share_12 : decode cd_U_share 12 = .ok (.iload_n 2, 1) := by decide +kernel
theorem dd_U_share_13 : decode cd_U_share 13 = .ok (.invokestatic 63, 3) := by decide +kernel
theorem dd_U_share_16 : decode cd_U_share 16 = .ok (.invokestatic 67, 3) := by decide +kernel
theorem dd_U_share_19 : decode cd_U_share 19 = .ok (.aload_n 0, 1) := by decide +kernel
theorem dd_U_share_20 : decode cd_U_share 20 = .ok (.iload_n 1, 1) := by decide +kernel
theorem dd_U_share_21 : decode cd_U_share 21 = .ok (.putfield 44, 3) := by decide +kernel
theorem dd_U_share_24 : decode cd_U_share 24 = .ok (.aload_n 0, 1) := by decide +kernel
theorem dd_U_share_25 : decode cd_U_share 25 = .ok (.iload_n 2, 1) := by decide +kernel
theorem dd_U_share_26 : decode cd_U_share 26 = .ok (.putfield 48, 3) := by decide +kernel
theorem dd_U_share_29 : decode cd_U_share 29 = .ok (.aload_n 0, 1) := by decide +kernel
theorem dd_U_share_30 : decode cd_U_share 30 = .ok (.invokevirtual 60, 3) := by decide +kernel
theorem dd_U_share_33 : decode cd_U_share 33 = .ok (.return_, 1) := by decide +kernel
theorem dd_U_entry_0 : decode cd_U_entry 0 = .ok (.iload_n 1, 1) := by decide +kernel
theorem dd_U_entry_1 : decode cd_U_entry 1 = .ok (.iconst 1, 1) := by decide +kernel
theorem dd_U_entry_2 : decode cd_U_entry 2 = .ok (.ldc 111, 2) := by decide +kernel
theorem dd_U_entry_4 : decode cd_U_entry 4 = .ok (.invokestatic 63, 3) := by decide +kernel
theorem dd_U_entry_7 : decode cd_U_entry 7 = .ok (.invokestatic 67, 3) := by decide +kernel
theorem dd_U_entry_10 : decode cd_U_entry 10 = .ok (.iload_n 2, 1) := by decide +kernel
theorem dd_U_entry_11 : decode cd_U_entry 11 = .ok (.iconst 1, 1) := by decide +kernel
theorem dd_U_entry_12 : decode cd_U_entry 12 = .ok (.sipush 1000, 3) := by decide +kernel
theorem dd_U_entry_15 : decode cd_U_entry 15 = .ok (.invokestatic 63, 3) := by decide +kernel
theorem dd_U_entry_18 : decode cd_U_entry 18 = .ok (.invokestatic 67, 3) := by decide +kernel
theorem dd_U_entry_21 : decode cd_U_entry 21 = .ok (.iload_n 3, 1) := by decide +kernel
theorem dd_U_entry_22 : decode cd_U_entry 22 = .ok (.iconst 1, 1) := by decide +kernel
theorem dd_U_entry_23 : decode cd_U_entry 23 = .ok (.sipush 10000, 3) := by decide +kernel
theorem dd_U_entry_26 : decode cd_U_entry 26 = .ok (.invokestatic 63, 3) := by decide +kernel
theorem dd_U_entry_29 : decode cd_U_entry 29 = .ok (.invokestatic 67, 3) := by decide +kernel
theorem dd_U_entry_32 : decode cd_U_entry 32 = .ok (.aload_n 0, 1) := by decide +kernel
theorem dd_U_entry_33 : decode cd_U_entry 33 = .ok (.getfield 26, 3) := by decide +kernel
theorem dd_U_entry_36 : decode cd_U_entry 36 = .ok (.getfield 112, 3) := by decide +kernel
theorem dd_U_entry_39 : decode cd_U_entry 39 = .ok (.bipush 20, 2) := by decide +kernel
theorem dd_U_entry_41 : decode cd_U_entry 41 = .ok (.if_icmp .lt 13, 3) := by decide +kernel
theorem dd_U_entry_44 : decode cd_U_entry 44 = .ok (.new 74, 3) := by decide +kernel
theorem dd_U_entry_47 : decode cd_U_entry 47 = .ok (.dup, 1) := by decide +kernel
theorem dd_U_entry_48 : decode cd_U_entry 48 = .ok (.ldc 113, 2) := by decide +kernel
theorem dd_U_entry_50 : decode cd_U_entry 50 = .ok (.invokespecial 78, 3) := by decide +kernel
theorem dd_U_entry_53 : decode cd_U_entry 53 = .ok (.athrow, 1) := by decide +kernel
theorem dd_U_entry_54 : decode cd_U_entry 54 = .ok (.aload_n 0, 1) := by decide +kernel
theorem dd_U_entry_55 : decode cd_U_entry 55 = .ok (.getfield 26, 3) := by decide +kernel
theorem dd_U_entry_58 : decode cd_U_entry 58 = .ok (.iload_n 1, 1) := by decide +kernel
theorem dd_U_entry_59 : decode cd_U_entry 59 = .ok (.iload_n 2, 1) := by decide +kernel
theorem dd_U_entry_60 : decode cd_U_entry 60 = .ok (.iload_n 3, 1) := by decide +kernel
theorem dd_U_entry_61 : decode cd_U_entry 61 = .ok (.invokevirtual 115, 3) := by decide +kernel
theorem dd_U_entry_64 : decode cd_U_entry 64 = .ok (.ireturn, 1) := by decide +kernel
theorem dd_U_many_0 : decode cd_U_many 0 = .ok (.aload_n 0, 1) := by decide +kernel
theorem dd_U_many_1 : decode cd_U_many 1 = .ok (.iload_n 1, 1) := by decide +kernel
theorem dd_U_many_2 : decode cd_U_many 2 = .ok (.iload_n 2, 1) := by decide +kernel
theorem dd_U_many_3 : decode cd_U_many 3 = .ok (.invokevirtual 95, 3) := by decide +kernel
theorem dd_U_many_6 : decode cd_U_many 6 = .ok (.aload_n 0, 1) := by decide +kernel
theorem dd_U_many_7 : decode cd_U_many 7 = .ok (.getfield 19, 3) := by decide +kernel
theorem dd_U_many_10 : decode cd_U_many 10 = .ok (.getfield 99, 3) := by decide +kernel
theorem dd_U_many_13 : decode cd_U_many 13 = .ok (.iload_n 1, 1) := by decide +kernel
theorem dd_U_many_14 : decode cd_U_many 14 = .ok (.aaload, 1) := by decide +kernel
theorem dd_U_many_15 : decode cd_U_many 15 = .ok (.iload_n 2, 1) := by decide +kernel
theorem dd_U_many_16 : decode cd_U_many 16 = .ok (.iaload, 1) := by decide +kernel
theorem dd_U_many_17 : decode cd_U_many 17 = .ok (.ireturn, 1) := by decide +kernel
theorem dd_U_count_0 : decode cd_U_count 0 = .ok (.aload_n 0, 1) := by decide +kernel
theorem dd_U_count_1 : decode cd_U_count 1 = .ok (.iload_n 1, 1) := by decide +kernel
theorem dd_U_count_2 : decode cd_U_count 2 = .ok (.iload_n 2, 1) := by decide +kernel
theorem dd_U_count_3 : decode cd_U_count 3 = .ok (.invokevirtual 95, 3) := by decide +kernel
theorem dd_U_count_6 : decode cd_U_count 6 = .ok (.aload_n 0, 1) := by decide +kernel
theorem dd_U_count_7 : decode cd_U_count 7 = .ok (.iload_n 1, 1) := by decide +kernel
theorem dd_U_count_8 : decode cd_U_count 8 = .ok (.iload_n 2, 1) := by decide +kernel
theorem dd_U_count_9 : decode cd_U_count 9 = .ok (.invokevirtual 116, 3) := by decide +kernel
theorem dd_U_count_12 : decode cd_U_count 12 = .ok (.ireturn, 1) := by decide +kernel
theorem dd_U_write_0 : decode cd_U_write 0 = .ok (.aload_n 0, 1) := by decide +kernel
theorem dd_U_write_1 : decode cd_U_write 1 = .ok (.iload_n 1, 1) := by decide +kernel
theorem dd_U_write_2 : decode cd_U_write 2 = .ok (.iload_n 2, 1) := by decide +kernel
theorem dd_U_write_3 : decode cd_U_write 3 = .ok (.invokevirtual 95, 3) := by decide +kernel
theorem dd_U_write_6 : decode cd_U_write 6 = .ok (.aload_n 0, 1) := by decide +kernel
theorem dd_U_write_7 : decode cd_U_write 7 = .ok (.getfield 19, 3) := by decide +kernel
theorem dd_U_write_10 : decode cd_U_write 10 = .ok (.getfield 99, 3) := by decide +kernel
theorem dd_U_write_13 : decode cd_U_write 13 = .ok (.iload_n 1, 1) := by decide +kernel
theorem dd_U_write_14 : decode cd_U_write 14 = .ok (.aaload, 1) := by decide +kernel
theorem dd_U_write_15 : decode cd_U_write 15 = .ok (.iload_n 2, 1) := by decide +kernel
theorem dd_U_write_16 : decode cd_U_write 16 = .ok (.iaload, 1) := by decide +kernel
theorem dd_U_write_17 : decode cd_U_write 17 = .ok (.istore 5, 2) := by decide +kernel
theorem dd_U_write_19 : decode cd_U_write 19 = .ok (.iload_n 3, 1) := by decide +kernel
theorem dd_U_write_20 : decode cd_U_write 20 = .ok (.iconst 0, 1) := by decide +kernel
theorem dd_U_write_21 : decode cd_U_write 21 = .ok (.iload 5, 2) := by decide +kernel
theorem dd_U_write_23 : decode cd_U_write 23 = .ok (.invokestatic 63, 3) := by decide +kernel
theorem dd_U_write_26 : decode cd_U_write 26 = .ok (.invokestatic 67, 3) := by decide +kernel
theorem dd_U_write_29 : decode cd_U_write 29 = .ok (.aload_n 0, 1) := by decide +kernel
theorem dd_U_write_30 : decode cd_U_write 30 = .ok (.getfield 10, 3) := by decide +kernel
theorem dd_U_write_33 : decode cd_U_write 33 = .ok (.getfield 119, 3) := by decide +kernel
theorem dd_U_write_36 : decode cd_U_write 36 = .ok (.iload_n 2, 1) := by decide +kernel
theorem dd_U_write_37 : decode cd_U_write 37 = .ok (.iaload, 1) := by decide +kernel
theorem dd_U_write_38 : decode cd_U_write 38 = .ok (.istore 6, 2) := by decide +kernel
theorem dd_U_write_40 : decode cd_U_write 40 = .ok (.aload_n 0, 1) := by decide +kernel
theorem dd_U_write_41 : decode cd_U_write 41 = .ok (.getfield 33, 3) := by decide +kernel
theorem dd_U_write_44 : decode cd_U_write 44 = .ok (.aload_n 0, 1) := by decide +kernel
theorem dd_U_write_45 : decode cd_U_write 45 = .ok (.getfield 10, 3) := by decide +kernel
theorem dd_U_write_48 : decode cd_U_write 48 = .ok (.getfield 123, 3) := by decide +kernel
theorem dd_U_write_51 : decode cd_U_write 51 = .ok (.iload_n 2, 1) := by decide +kernel
theorem dd_U_write_52 : decode cd_U_write 52 = .ok (.iaload, 1) := by decide +kernel
theorem dd_U_write_53 : decode cd_U_write 53 = .ok (.iload 6, 2) := by decide +kernel
theorem dd_U_write_55 : decode cd_U_write 55 = .ok (.iload 5, 2) := by decide +kernel
theorem dd_U_write_57 : decode cd_U_write 57 = .ok (.invokevirtual 126, 3) := by decide +kernel
theorem dd_U_write_60 : decode cd_U_write 60 = .ok (.iload 5, 2) := by decide +kernel
theorem dd_U_write_62 : decode cd_U_write 62 = .ok (.istore 7, 2) := by decide +kernel
theorem dd_U_write_64 : decode cd_U_write 64 = .ok (.iload 7, 2) := by decide +kernel
theorem dd_U_write_66 : decode cd_U_write 66 = .ok (.iload_n 3, 1) := by decide +kernel
theorem dd_U_write_67 : decode cd_U_write 67 = .ok (.if_icmp .le 16, 3) := by decide +kernel
theorem dd_U_write_70 : decode cd_U_write 70 = .ok (.aload_n 0, 1) := by decide +kernel
theorem dd_U_write_71 : decode cd_U_write 71 = .ok (.getfield 33, 3) := by decide +kernel
theorem dd_U_write_74 : decode cd_U_write 74 = .ok (.invokevirtual 129, 3) := by decide +kernel
theorem dd_U_write_77 : decode cd_U_write 77 = .ok (.iinc 7 (-1), 3) := by decide +kernel
theorem dd_U_write_80 : decode cd_U_write 80 = .ok (.goto (-16), 3) := by decide +kernel
theorem dd_U_write_83 : decode cd_U_write 83 = .ok (.aload_n 0, 1) := by decide +kernel
theorem dd_U_write_84 : decode cd_U_write 84 = .ok (.getfield 40, 3) := by decide +kernel
theorem dd_U_write_87 : decode cd_U_write 87 = .ok (.iload 4, 2) := by decide +kernel
theorem dd_U_write_89 : decode cd_U_write 89 = .ok (.ifCond .eq 13, 3) := by decide +kernel
theorem dd_U_write_92 : decode cd_U_write 92 = .ok (.aload_n 0, 1) := by decide +kernel
theorem dd_U_write_93 : decode cd_U_write 93 = .ok (.getfield 33, 3) := by decide +kernel
theorem dd_U_write_96 : decode cd_U_write 96 = .ok (.getfield 132, 3) := by decide +kernel
theorem dd_U_write_99 : decode cd_U_write 99 = .ok (.goto 10, 3) := by decide +kernel
theorem dd_U_write_102 : decode cd_U_write 102 = .ok (.aload_n 0, 1) := by decide +kernel
theorem dd_U_write_103 : decode cd_U_write 103 = .ok (.getfield 33, 3) := by decide +kernel
theorem dd_U_write_106 : decode cd_U_write 106 = .ok (.getfield 136, 3) := by decide +kernel
theorem dd_U_write_109 : decode cd_U_write 109 = .ok (.aload_n 0, 1) := by decide +kernel
theorem dd_U_write_110 : decode cd_U_write 110 = .ok (.getfield 33, 3) := by decide +kernel
theorem dd_U_write_113 : decode cd_U_write 113 = .ok (.getfield 139, 3) := by decide +kernel
theorem dd_U_write_116 : decode cd_U_write 116 = .ok (.iload 6, 2) := by decide +kernel
theorem dd_U_write_118 : decode cd_U_write 118 = .ok (.invokevirtual 142, 3) := by decide +kernel
theorem dd_U_write_121 : decode cd_U_write 121 = .ok (.aload_n 0, 1) := by decide +kernel
theorem dd_U_write_122 : decode cd_U_write 122 = .ok (.getfield 40, 3) := by decide +kernel
theorem dd_U_write_125 : decode cd_U_write 125 = .ok (.getfield 146, 3) := by decide +kernel
theorem dd_U_write_128 : decode cd_U_write 128 = .ok (.invokevirtual 149, 3) := by decide +kernel
theorem dd_U_write_131 : decode cd_U_write 131 = .ok (.aload_n 0, 1) := by decide +kernel
theorem dd_U_write_132 : decode cd_U_write 132 = .ok (.getfield 40, 3) := by decide +kernel
theorem dd_U_write_135 : decode cd_U_write 135 = .ok (.getfield 155, 3) := by decide +kernel
theorem dd_U_write_138 : decode cd_U_write 138 = .ok (.invokevirtual 149, 3) := by decide +kernel
theorem dd_U_write_141 : decode cd_U_write 141 = .ok (.iadd, 1) := by decide +kernel
theorem dd_U_write_142 : decode cd_U_write 142 = .ok (.ireturn, 1) := by decide +kernel
theorem dd_U_digits_0 : decode cd_U_digits 0 = .ok (.iload_n 1, 1) := by decide +kernel
theorem dd_U_digits_1 : decode cd_U_digits 1 = .ok (.iconst 0, 1) := by decide +kernel
theorem dd_U_digits_2 : decode cd_U_digits 2 = .ok (.iconst 1, 1) := by decide +kernel
theorem dd_U_digits_3 : decode cd_U_digits 3 = .ok (.invokestatic 63, 3) := by decide +kernel
theorem dd_U_digits_6 : decode cd_U_digits 6 = .ok (.invokestatic 67, 3) := by decide +kernel
theorem dd_U_digits_9 : decode cd_U_digits 9 = .ok (.aload_n 0, 1) := by decide +kernel
theorem dd_U_digits_10 : decode cd_U_digits 10 = .ok (.getfield 40, 3) := by decide +kernel
theorem dd_U_digits_13 : decode cd_U_digits 13 = .ok (.iload_n 1, 1) := by decide +kernel
theorem dd_U_digits_14 : decode cd_U_digits 14 = .ok (.invokevirtual 158, 3) := by decide +kernel
theorem dd_U_digits_17 : decode cd_U_digits 17 = .ok (.ireturn, 1) := by decide +kernel
theorem dd_U_digit_0 : decode cd_U_digit 0 = .ok (.iload_n 1, 1) := by decide +kernel
theorem dd_U_digit_1 : decode cd_U_digit 1 = .ok (.iconst 0, 1) := by decide +kernel
theorem dd_U_digit_2 : decode cd_U_digit 2 = .ok (.iconst 1, 1) := by decide +kernel
theorem dd_U_digit_3 : decode cd_U_digit 3 = .ok (.invokestatic 63, 3) := by decide +kernel
theorem dd_U_digit_6 : decode cd_U_digit 6 = .ok (.invokestatic 67, 3) := by decide +kernel
theorem dd_U_digit_9 : decode cd_U_digit 9 = .ok (.aload_n 0, 1) := by decide +kernel
theorem dd_U_digit_10 : decode cd_U_digit 10 = .ok (.getfield 40, 3) := by decide +kernel
theorem dd_U_digit_13 : decode cd_U_digit 13 = .ok (.iload_n 1, 1) := by decide +kernel
theorem dd_U_digit_14 : decode cd_U_digit 14 = .ok (.invokevirtual 158, 3) := by decide +kernel
theorem dd_U_digit_17 : decode cd_U_digit 17 = .ok (.istore_n 3, 1) := by decide +kernel
theorem dd_U_digit_18 : decode cd_U_digit 18 = .ok (.iload_n 2, 1) := by decide +kernel
theorem dd_U_digit_19 : decode cd_U_digit 19 = .ok (.iconst 0, 1) := by decide +kernel
theorem dd_U_digit_20 : decode cd_U_digit 20 = .ok (.iload_n 3, 1) := by decide +kernel
theorem dd_U_digit_21 : decode cd_U_digit 21 = .ok (.iconst 1, 1) := by decide +kernel
theorem dd_U_digit_22 : decode cd_U_digit 22 = .ok (.isub, 1) := by decide +kernel
theorem dd_U_digit_23 : decode cd_U_digit 23 = .ok (.invokestatic 63, 3) := by decide +kernel
theorem dd_U_digit_26 : decode cd_U_digit 26 = .ok (.invokestatic 67, 3) := by decide +kernel
theorem dd_U_digit_29 : decode cd_U_digit 29 = .ok (.aload_n 0, 1) := by decide +kernel
theorem dd_U_digit_30 : decode cd_U_digit 30 = .ok (.getfield 40, 3) := by decide +kernel
theorem dd_U_digit_33 : decode cd_U_digit 33 = .ok (.iload_n 1, 1) := by decide +kernel
theorem dd_U_digit_34 : decode cd_U_digit 34 = .ok (.invokevirtual 162, 3) := by decide +kernel
theorem dd_U_digit_37 : decode cd_U_digit 37 = .ok (.iload_n 3, 1) := by decide +kernel
theorem dd_U_digit_38 : decode cd_U_digit 38 = .ok (.iconst 1, 1) := by decide +kernel
theorem dd_U_digit_39 : decode cd_U_digit 39 = .ok (.isub, 1) := by decide +kernel
theorem dd_U_digit_40 : decode cd_U_digit 40 = .ok (.iload_n 2, 1) := by decide +kernel
theorem dd_U_digit_41 : decode cd_U_digit 41 = .ok (.isub, 1) := by decide +kernel
theorem dd_U_digit_42 : decode cd_U_digit 42 = .ok (.invokevirtual 165, 3) := by decide +kernel
theorem dd_U_digit_45 : decode cd_U_digit 45 = .ok (.ireturn, 1) := by decide +kernel
theorem dd_U_rest_0 : decode cd_U_rest 0 = .ok (.iload_n 1, 1) := by decide +kernel
theorem dd_U_rest_1 : decode cd_U_rest 1 = .ok (.iconst 0, 1) := by decide +kernel
theorem dd_U_rest_2 : decode cd_U_rest 2 = .ok (.iconst 1, 1) := by decide +kernel
theorem dd_U_rest_3 : decode cd_U_rest 3 = .ok (.invokestatic 63, 3) := by decide +kernel
theorem dd_U_rest_6 : decode cd_U_rest 6 = .ok (.invokestatic 67, 3) := by decide +kernel
theorem dd_U_rest_9 : decode cd_U_rest 9 = .ok (.iload_n 2, 1) := by decide +kernel
theorem dd_U_rest_10 : decode cd_U_rest 10 = .ok (.iconst 2, 1) := by decide +kernel
theorem dd_U_rest_11 : decode cd_U_rest 11 = .ok (.ldc 111, 2) := by decide +kernel
theorem dd_U_rest_13 : decode cd_U_rest 13 = .ok (.invokestatic 63, 3) := by decide +kernel
theorem dd_U_rest_16 : decode cd_U_rest 16 = .ok (.invokestatic 67, 3) := by decide +kernel
theorem dd_U_rest_19 : decode cd_U_rest 19 = .ok (.aload_n 0, 1) := by decide +kernel
theorem dd_U_rest_20 : decode cd_U_rest 20 = .ok (.getfield 40, 3) := by decide +kernel
theorem dd_U_rest_23 : decode cd_U_rest 23 = .ok (.getfield 168, 3) := by decide +kernel
theorem dd_U_rest_26 : decode cd_U_rest 26 = .ok (.ifCond .ne 13, 3) := by decide +kernel
theorem dd_U_rest_29 : decode cd_U_rest 29 = .ok (.new 74, 3) := by decide +kernel
theorem dd_U_rest_32 : decode cd_U_rest 32 = .ok (.dup, 1) := by decide +kernel
theorem dd_U_rest_33 : decode cd_U_rest 33 = .ok (.ldc 172, 2) := by decide +kernel
theorem dd_U_rest_35 : decode cd_U_rest 35 = .ok (.invokespecial 78, 3) := by decide +kernel
theorem dd_U_rest_38 : decode cd_U_rest 38 = .ok (.athrow, 1) := by decide +kernel
theorem dd_U_rest_39 : decode cd_U_rest 39 = .ok (.aload_n 0, 1) := by decide +kernel
theorem dd_U_rest_40 : decode cd_U_rest 40 = .ok (.getfield 40, 3) := by decide +kernel
theorem dd_U_rest_43 : decode cd_U_rest 43 = .ok (.iload_n 1, 1) := by decide +kernel
theorem dd_U_rest_44 : decode cd_U_rest 44 = .ok (.invokevirtual 162, 3) := by decide +kernel
theorem dd_U_rest_47 : decode cd_U_rest 47 = .ok (.iload_n 2, 1) := by decide +kernel
theorem dd_U_rest_48 : decode cd_U_rest 48 = .ok (.invokevirtual 174, 3) := by decide +kernel
theorem dd_U_rest_51 : decode cd_U_rest 51 = .ok (.ireturn, 1) := by decide +kernel
theorem dd_U_flow_0 : decode cd_U_flow 0 = .ok (.aload_n 0, 1) := by decide +kernel
theorem dd_U_flow_1 : decode cd_U_flow 1 = .ok (.iload_n 1, 1) := by decide +kernel
theorem dd_U_flow_2 : decode cd_U_flow 2 = .ok (.invokevirtual 177, 3) := by decide +kernel
theorem dd_U_flow_5 : decode cd_U_flow 5 = .ok (.aload_n 0, 1) := by decide +kernel
theorem dd_U_flow_6 : decode cd_U_flow 6 = .ok (.iload_n 1, 1) := by decide +kernel
theorem dd_U_flow_7 : decode cd_U_flow 7 = .ok (.invokevirtual 181, 3) := by decide +kernel
theorem dd_U_flow_10 : decode cd_U_flow 10 = .ok (.ireturn, 1) := by decide +kernel
theorem dd_U_requirePipe_0 : decode cd_U_requirePipe 0 = .ok (.aload_n 0, 1) := by decide +kernel
theorem dd_U_requirePipe_1 : decode cd_U_requirePipe 1 = .ok (.getfield 19, 3) := by decide +kernel
theorem dd_U_requirePipe_4 : decode cd_U_requirePipe 4 = .ok (.iload_n 1, 1) := by decide +kernel
theorem dd_U_requirePipe_5 : decode cd_U_requirePipe 5 = .ok (.invokevirtual 86, 3) := by decide +kernel
theorem dd_U_requirePipe_8 : decode cd_U_requirePipe 8 = .ok (.invokestatic 67, 3) := by decide +kernel
theorem dd_U_requirePipe_11 : decode cd_U_requirePipe 11 = .ok (.return_, 1) := by decide +kernel
theorem dd_U_size_0 : decode cd_U_size 0 = .ok (.aload_n 0, 1) := by decide +kernel
theorem dd_U_size_1 : decode cd_U_size 1 = .ok (.iload_n 1, 1) := by decide +kernel
theorem dd_U_size_2 : decode cd_U_size 2 = .ok (.invokevirtual 177, 3) := by decide +kernel
theorem dd_U_size_5 : decode cd_U_size 5 = .ok (.aload_n 0, 1) := by decide +kernel
theorem dd_U_size_6 : decode cd_U_size 6 = .ok (.getfield 26, 3) := by decide +kernel
theorem dd_U_size_9 : decode cd_U_size 9 = .ok (.aload_n 0, 1) := by decide +kernel
theorem dd_U_size_10 : decode cd_U_size 10 = .ok (.iload_n 1, 1) := by decide +kernel
theorem dd_U_size_11 : decode cd_U_size 11 = .ok (.invokevirtual 181, 3) := by decide +kernel
theorem dd_U_size_14 : decode cd_U_size 14 = .ok (.invokevirtual 184, 3) := by decide +kernel
theorem dd_U_size_17 : decode cd_U_size 17 = .ok (.ireturn, 1) := by decide +kernel
theorem dd_U_loss_0 : decode cd_U_loss 0 = .ok (.aload_n 0, 1) := by decide +kernel
theorem dd_U_loss_1 : decode cd_U_loss 1 = .ok (.iload_n 1, 1) := by decide +kernel
theorem dd_U_loss_2 : decode cd_U_loss 2 = .ok (.invokevirtual 177, 3) := by decide +kernel
theorem dd_U_loss_5 : decode cd_U_loss 5 = .ok (.aload_n 0, 1) := by decide +kernel
theorem dd_U_loss_6 : decode cd_U_loss 6 = .ok (.iload_n 1, 1) := by decide +kernel
theorem dd_U_loss_7 : decode cd_U_loss 7 = .ok (.invokevirtual 193, 3) := by decide +kernel
theorem dd_U_loss_10 : decode cd_U_loss 10 = .ok (.lreturn, 1) := by decide +kernel
theorem dd_U_lossOf_0 : decode cd_U_lossOf 0 = .ok (.aload_n 0, 1) := by decide +kernel
theorem dd_U_lossOf_1 : decode cd_U_lossOf 1 = .ok (.iload_n 1, 1) := by decide +kernel
theorem dd_U_lossOf_2 : decode cd_U_lossOf 2 = .ok (.invokevirtual 181, 3) := by decide +kernel
theorem dd_U_lossOf_5 : decode cd_U_lossOf 5 = .ok (.istore_n 2, 1) := by decide +kernel
theorem dd_U_lossOf_6 : decode cd_U_lossOf 6 = .ok (.aload_n 0, 1) := by decide +kernel
theorem dd_U_lossOf_7 : decode cd_U_lossOf 7 = .ok (.getfield 26, 3) := by decide +kernel
theorem dd_U_lossOf_10 : decode cd_U_lossOf 10 = .ok (.iload_n 2, 1) := by decide +kernel
theorem dd_U_lossOf_11 : decode cd_U_lossOf 11 = .ok (.invokevirtual 184, 3) := by decide +kernel
theorem dd_U_lossOf_14 : decode cd_U_lossOf 14 = .ok (.istore_n 3, 1) := by decide +kernel
theorem dd_U_lossOf_15 : decode cd_U_lossOf 15 = .ok (.iload_n 3, 1) := by decide +kernel
theorem dd_U_lossOf_16 : decode cd_U_lossOf 16 = .ok (.iconst (-1), 1) := by decide +kernel
theorem dd_U_lossOf_17 : decode cd_U_lossOf 17 = .ok (.if_icmp .ne 7, 3) := by decide +kernel
theorem dd_U_lossOf_20 : decode cd_U_lossOf 20 = .ok (.ldc2_w 199, 3) := by decide +kernel
theorem dd_U_lossOf_23 : decode cd_U_lossOf 23 = .ok (.lreturn, 1) := by decide +kernel
theorem dd_U_lossOf_24 : decode cd_U_lossOf 24 = .ok (.aload_n 0, 1) := by decide +kernel
theorem dd_U_lossOf_25 : decode cd_U_lossOf 25 = .ok (.getfield 26, 3) := by decide +kernel
theorem dd_U_lossOf_28 : decode cd_U_lossOf 28 = .ok (.getfield 222, 3) := by decide +kernel
theorem dd_U_lossOf_31 : decode cd_U_lossOf 31 = .ok (.iload_n 3, 1) := by decide +kernel
theorem dd_U_lossOf_32 : decode cd_U_lossOf 32 = .ok (.iaload, 1) := by decide +kernel
theorem dd_U_lossOf_33 : decode cd_U_lossOf 33 = .ok (.i2l, 1) := by decide +kernel
theorem dd_U_lossOf_34 : decode cd_U_lossOf 34 = .ok (.lstore 4, 2) := by decide +kernel
theorem dd_U_lossOf_36 : decode cd_U_lossOf 36 = .ok (.lload 4, 2) := by decide +kernel
theorem dd_U_lossOf_38 : decode cd_U_lossOf 38 = .ok (.lload 4, 2) := by decide +kernel
theorem dd_U_lossOf_40 : decode cd_U_lossOf 40 = .ok (.lmul, 1) := by decide +kernel
theorem dd_U_lossOf_41 : decode cd_U_lossOf 41 = .ok (.lload 4, 2) := by decide +kernel
theorem dd_U_lossOf_43 : decode cd_U_lossOf 43 = .ok (.lmul, 1) := by decide +kernel
theorem dd_U_lossOf_44 : decode cd_U_lossOf 44 = .ok (.lstore 6, 2) := by decide +kernel
theorem dd_U_lossOf_46 : decode cd_U_lossOf 46 = .ok (.lload 6, 2) := by decide +kernel
theorem dd_U_lossOf_48 : decode cd_U_lossOf 48 = .ok (.lconst 1, 1) := by decide +kernel
theorem dd_U_lossOf_49 : decode cd_U_lossOf 49 = .ok (.lcmp, 1) := by decide +kernel
theorem dd_U_lossOf_50 : decode cd_U_lossOf 50 = .ok (.ifCond .ge 7, 3) := by decide +kernel
theorem dd_U_lossOf_53 : decode cd_U_lossOf 53 = .ok (.ldc2_w 199, 3) := by decide +kernel
theorem dd_U_lossOf_56 : decode cd_U_lossOf 56 = .ok (.lreturn, 1) := by decide +kernel
theorem dd_U_lossOf_57 : decode cd_U_lossOf 57 = .ok (.aload_n 0, 1) := by decide +kernel
theorem dd_U_lossOf_58 : decode cd_U_lossOf 58 = .ok (.getfield 19, 3) := by decide +kernel
theorem dd_U_lossOf_61 : decode cd_U_lossOf 61 = .ok (.getfield 187, 3) := by decide +kernel
theorem dd_U_lossOf_64 : decode cd_U_lossOf 64 = .ok (.iload_n 1, 1) := by decide +kernel
theorem dd_U_lossOf_65 : decode cd_U_lossOf 65 = .ok (.iaload, 1) := by decide +kernel
theorem dd_U_lossOf_66 : decode cd_U_lossOf 66 = .ok (.i2l, 1) := by decide +kernel
theorem dd_U_lossOf_67 : decode cd_U_lossOf 67 = .ok (.iload_n 2, 1) := by decide +kernel
theorem dd_U_lossOf_68 : decode cd_U_lossOf 68 = .ok (.i2l, 1) := by decide +kernel
theorem dd_U_lossOf_69 : decode cd_U_lossOf 69 = .ok (.lmul, 1) := by decide +kernel
theorem dd_U_lossOf_70 : decode cd_U_lossOf 70 = .ok (.iload_n 2, 1) := by decide +kernel
theorem dd_U_lossOf_71 : decode cd_U_lossOf 71 = .ok (.i2l, 1) := by decide +kernel
theorem dd_U_lossOf_72 : decode cd_U_lossOf 72 = .ok (.lmul, 1) := by decide +kernel
theorem dd_U_lossOf_73 : decode cd_U_lossOf 73 = .ok (.lload 6, 2) := by decide +kernel
theorem dd_U_lossOf_75 : decode cd_U_lossOf 75 = .ok (.ldiv, 1) := by decide +kernel
theorem dd_U_lossOf_76 : decode cd_U_lossOf 76 = .ok (.lreturn, 1) := by decide +kernel
theorem dd_U_pressure_0 : decode cd_U_pressure 0 = .ok (.aload_n 0, 1) := by decide +kernel
theorem dd_U_pressure_1 : decode cd_U_pressure 1 = .ok (.iload_n 1, 1) := by decide +kernel
theorem dd_U_pressure_2 : decode cd_U_pressure 2 = .ok (.invokevirtual 177, 3) := by decide +kernel
theorem dd_U_pressure_5 : decode cd_U_pressure 5 = .ok (.lload_n 2, 1) := by decide +kernel
theorem dd_U_pressure_6 : decode cd_U_pressure 6 = .ok (.lconst 0, 1) := by decide +kernel
theorem dd_U_pressure_7 : decode cd_U_pressure 7 = .ok (.lcmp, 1) := by decide +kernel
theorem dd_U_pressure_8 : decode cd_U_pressure 8 = .ok (.ifCond .lt 15, 3) := by decide +kernel
theorem dd_U_pressure_11 : decode cd_U_pressure 11 = .ok (.lload_n 2, 1) := by decide +kernel
theorem dd_U_pressure_12 : decode cd_U_pressure 12 = .ok (.ldc2_w 197, 3) := by decide +kernel
theorem dd_U_pressure_15 : decode cd_U_pressure 15 = .ok (.lcmp, 1) := by decide +kernel
theorem dd_U_pressure_16 : decode cd_U_pressure 16 = .ok (.ifCond .gt 7, 3) := by decide +kernel
theorem dd_U_pressure_19 : decode cd_U_pressure 19 = .ok (.iconst 1, 1) := by decide +kernel
theorem dd_U_pressure_20 : decode cd_U_pressure 20 = .ok (.goto 4, 3) := by decide +kernel
theorem dd_U_pressure_23 : decode cd_U_pressure 23 = .ok (.iconst 0, 1) := by decide +kernel
theorem dd_U_pressure_24 : decode cd_U_pressure 24 = .ok (.invokestatic 67, 3) := by decide +kernel
theorem dd_U_pressure_27 : decode cd_U_pressure 27 = .ok (.lload_n 2, 1) := by decide +kernel
theorem dd_U_pressure_28 : decode cd_U_pressure 28 = .ok (.lstore 4, 2) := by decide +kernel
theorem dd_U_pressure_30 : decode cd_U_pressure 30 = .ok (.iload_n 1, 1) := by decide +kernel
theorem dd_U_pressure_31 : decode cd_U_pressure 31 = .ok (.istore 6, 2) := by decide +kernel
theorem dd_U_pressure_33 : decode cd_U_pressure 33 = .ok (.iconst 0, 1) := by decide +kernel
theorem dd_U_pressure_34 : decode cd_U_pressure 34 = .ok (.istore 7, 2) := by decide +kernel
theorem dd_U_pressure_36 : decode cd_U_pressure 36 = .ok (.iload 7, 2) := by decide +kernel
theorem dd_U_pressure_38 : decode cd_U_pressure 38 = .ok (.bipush 20, 2) := by decide +kernel
theorem dd_U_pressure_40 : decode cd_U_pressure 40 = .ok (.if_icmp .ge 67, 3) := by decide +kernel
theorem dd_U_pressure_43 : decode cd_U_pressure 43 = .ok (.aload_n 0, 1) := by decide +kernel
theorem dd_U_pressure_44 : decode cd_U_pressure 44 = .ok (.getfield 19, 3) := by decide +kernel
theorem dd_U_pressure_47 : decode cd_U_pressure 47 = .ok (.iload 6, 2) := by decide +kernel
theorem dd_U_pressure_49 : decode cd_U_pressure 49 = .ok (.invokevirtual 86, 3) := by decide +kernel
theorem dd_U_pressure_52 : decode cd_U_pressure 52 = .ok (.ifCond .eq 55, 3) := by decide +kernel
theorem dd_U_pressure_55 : decode cd_U_pressure 55 = .ok (.aload_n 0, 1) := by decide +kernel
theorem dd_U_pressure_56 : decode cd_U_pressure 56 = .ok (.iload 6, 2) := by decide +kernel
theorem dd_U_pressure_58 : decode cd_U_pressure 58 = .ok (.invokevirtual 193, 3) := by decide +kernel
theorem dd_U_pressure_61 : decode cd_U_pressure 61 = .ok (.lstore 8, 2) := by decide +kernel
theorem dd_U_pressure_63 : decode cd_U_pressure 63 = .ok (.lload 8, 2) := by decide +kernel
theorem dd_U_pressure_65 : decode cd_U_pressure 65 = .ok (.ldc2_w 199, 3) := by decide +kernel
theorem dd_U_pressure_68 : decode cd_U_pressure 68 = .ok (.lcmp, 1) := by decide +kernel
theorem dd_U_pressure_69 : decode cd_U_pressure 69 = .ok (.ifCond .ne 13, 3) := by decide +kernel
theorem dd_U_pressure_72 : decode cd_U_pressure 72 = .ok (.new 74, 3) := by decide +kernel
theorem dd_U_pressure_75 : decode cd_U_pressure 75 = .ok (.dup, 1) := by decide +kernel
theorem dd_U_pressure_76 : decode cd_U_pressure 76 = .ok (.ldc 201, 2) := by decide +kernel
theorem dd_U_pressure_78 : decode cd_U_pressure 78 = .ok (.invokespecial 78, 3) := by decide +kernel
theorem dd_U_pressure_81 : decode cd_U_pressure 81 = .ok (.athrow, 1) := by decide +kernel
theorem dd_U_pressure_82 : decode cd_U_pressure 82 = .ok (.lload 4, 2) := by decide +kernel
theorem dd_U_pressure_84 : decode cd_U_pressure 84 = .ok (.lload 8, 2) := by decide +kernel
theorem dd_U_pressure_86 : decode cd_U_pressure 86 = .ok (.lsub, 1) := by decide +kernel
theorem dd_U_pressure_87 : decode cd_U_pressure 87 = .ok (.lstore 4, 2) := by decide +kernel
theorem dd_U_pressure_89 : decode cd_U_pressure 89 = .ok (.aload_n 0, 1) := by decide +kernel
theorem dd_U_pressure_90 : decode cd_U_pressure 90 = .ok (.getfield 19, 3) := by decide +kernel
theorem dd_U_pressure_93 : decode cd_U_pressure 93 = .ok (.getfield 203, 3) := by decide +kernel
theorem dd_U_pressure_96 : decode cd_U_pressure 96 = .ok (.iload 6, 2) := by decide +kernel
theorem dd_U_pressure_98 : decode cd_U_pressure 98 = .ok (.iaload, 1) := by decide +kernel
theorem dd_U_pressure_99 : decode cd_U_pressure 99 = .ok (.istore 6, 2) := by decide +kernel
theorem dd_U_pressure_101 : decode cd_U_pressure 101 = .ok (.iinc 7 1, 3) := by decide +kernel
theorem dd_U_pressure_104 : decode cd_U_pressure 104 = .ok (.goto (-68), 3) := by decide +kernel
theorem dd_U_pressure_107 : decode cd_U_pressure 107 = .ok (.lload 4, 2) := by decide +kernel
theorem dd_U_pressure_109 : decode cd_U_pressure 109 = .ok (.lreturn, 1) := by decide +kernel
theorem dd_U_farthest_0 : decode cd_U_farthest 0 = .ok (.aload_n 0, 1) := by decide +kernel
theorem dd_U_farthest_1 : decode cd_U_farthest 1 = .ok (.getfield 19, 3) := by decide +kernel
theorem dd_U_farthest_4 : decode cd_U_farthest 4 = .ok (.getfield 85, 3) := by decide +kernel
theorem dd_U_farthest_7 : decode cd_U_farthest 7 = .ok (.ifCond .ne 13, 3) := by decide +kernel
theorem dd_U_farthest_10 : decode cd_U_farthest 10 = .ok (.new 74, 3) := by decide +kernel
theorem dd_U_farthest_13 : decode cd_U_farthest 13 = .ok (.dup, 1) := by decide +kernel
theorem dd_U_farthest_14 : decode cd_U_farthest 14 = .ok (.ldc 206, 2) := by decide +kernel
theorem dd_U_farthest_16 : decode cd_U_farthest 16 = .ok (.invokespecial 78, 3) := by decide +kernel
theorem dd_U_farthest_19 : decode cd_U_farthest 19 = .ok (.athrow, 1) := by decide +kernel
theorem dd_U_farthest_20 : decode cd_U_farthest 20 = .ok (.iconst 0, 1) := by decide +kernel
theorem dd_U_farthest_21 : decode cd_U_farthest 21 = .ok (.istore_n 1, 1) := by decide +kernel
theorem dd_U_farthest_22 : decode cd_U_farthest 22 = .ok (.iconst 0, 1) := by decide +kernel
theorem dd_U_farthest_23 : decode cd_U_farthest 23 = .ok (.istore_n 2, 1) := by decide +kernel
theorem dd_U_farthest_24 : decode cd_U_farthest 24 = .ok (.iload_n 2, 1) := by decide +kernel
theorem dd_U_farthest_25 : decode cd_U_farthest 25 = .ok (.aload_n 0, 1) := by decide +kernel
theorem dd_U_farthest_26 : decode cd_U_farthest 26 = .ok (.getfield 19, 3) := by decide +kernel
theorem dd_U_farthest_29 : decode cd_U_farthest 29 = .ok (.getfield 85, 3) := by decide +kernel
theorem dd_U_farthest_32 : decode cd_U_farthest 32 = .ok (.if_icmp .ge 93, 3) := by decide +kernel
theorem dd_U_farthest_35 : decode cd_U_farthest 35 = .ok (.aload_n 0, 1) := by decide +kernel
theorem dd_U_farthest_36 : decode cd_U_farthest 36 = .ok (.iload_n 2, 1) := by decide +kernel
theorem dd_U_farthest_37 : decode cd_U_farthest 37 = .ok (.invokevirtual 193, 3) := by decide +kernel
theorem dd_U_farthest_40 : decode cd_U_farthest 40 = .ok (.lstore_n 3, 1) := by decide +kernel
theorem dd_U_farthest_41 : decode cd_U_farthest 41 = .ok (.lload_n 3, 1) := by decide +kernel
theorem dd_U_farthest_42 : decode cd_U_farthest 42 = .ok (.ldc2_w 199, 3) := by decide +kernel
theorem dd_U_farthest_45 : decode cd_U_farthest 45 = .ok (.lcmp, 1) := by decide +kernel
theorem dd_U_farthest_46 : decode cd_U_farthest 46 = .ok (.ifCond .ne 13, 3) := by decide +kernel
theorem dd_U_farthest_49 : decode cd_U_farthest 49 = .ok (.new 74, 3) := by decide +kernel
theorem dd_U_farthest_52 : decode cd_U_farthest 52 = .ok (.dup, 1) := by decide +kernel
theorem dd_U_farthest_53 : decode cd_U_farthest 53 = .ok (.ldc 208, 2) := by decide +kernel
theorem dd_U_farthest_55 : decode cd_U_farthest 55 = .ok (.invokespecial 78, 3) := by decide +kernel
theorem dd_U_farthest_58 : decode cd_U_farthest 58 = .ok (.athrow, 1) := by decide +kernel
theorem dd_U_farthest_59 : decode cd_U_farthest 59 = .ok (.aload_n 0, 1) := by decide +kernel
theorem dd_U_farthest_60 : decode cd_U_farthest 60 = .ok (.getfield 19, 3) := by decide +kernel
theorem dd_U_farthest_63 : decode cd_U_farthest 63 = .ok (.getfield 203, 3) := by decide +kernel
theorem dd_U_farthest_66 : decode cd_U_farthest 66 = .ok (.iload_n 2, 1) := by decide +kernel
theorem dd_U_farthest_67 : decode cd_U_farthest 67 = .ok (.iaload, 1) := by decide +kernel
theorem dd_U_farthest_68 : decode cd_U_farthest 68 = .ok (.istore 5, 2) := by decide +kernel
theorem dd_U_farthest_70 : decode cd_U_farthest 70 = .ok (.aload_n 0, 1) := by decide +kernel
theorem dd_U_farthest_71 : decode cd_U_farthest 71 = .ok (.getfield 56, 3) := by decide +kernel
theorem dd_U_farthest_74 : decode cd_U_farthest 74 = .ok (.iload_n 2, 1) := by decide +kernel
theorem dd_U_farthest_75 : decode cd_U_farthest 75 = .ok (.lload_n 3, 1) := by decide +kernel
theorem dd_U_farthest_76 : decode cd_U_farthest 76 = .ok (.aload_n 0, 1) := by decide +kernel
theorem dd_U_farthest_77 : decode cd_U_farthest 77 = .ok (.getfield 19, 3) := by decide +kernel
theorem dd_U_farthest_80 : decode cd_U_farthest 80 = .ok (.iload 5, 2) := by decide +kernel
theorem dd_U_farthest_82 : decode cd_U_farthest 82 = .ok (.invokevirtual 86, 3) := by decide +kernel
theorem dd_U_farthest_85 : decode cd_U_farthest 85 = .ok (.ifCond .eq 13, 3) := by decide +kernel
theorem dd_U_farthest_88 : decode cd_U_farthest 88 = .ok (.aload_n 0, 1) := by decide +kernel
theorem dd_U_farthest_89 : decode cd_U_farthest 89 = .ok (.getfield 56, 3) := by decide +kernel
theorem dd_U_farthest_92 : decode cd_U_farthest 92 = .ok (.iload 5, 2) := by decide +kernel
theorem dd_U_farthest_94 : decode cd_U_farthest 94 = .ok (.laload, 1) := by decide +kernel
theorem dd_U_farthest_95 : decode cd_U_farthest 95 = .ok (.goto 4, 3) := by decide +kernel
theorem dd_U_farthest_98 : decode cd_U_farthest 98 = .ok (.lconst 0, 1) := by decide +kernel
theorem dd_U_farthest_99 : decode cd_U_farthest 99 = .ok (.ladd, 1) := by decide +kernel
theorem dd_U_farthest_100 : decode cd_U_farthest 100 = .ok (.lastore, 1) := by decide +kernel
theorem dd_U_farthest_101 : decode cd_U_farthest 101 = .ok (.aload_n 0, 1) := by decide +kernel
theorem dd_U_farthest_102 : decode cd_U_farthest 102 = .ok (.getfield 56, 3) := by decide +kernel
theorem dd_U_farthest_105 : decode cd_U_farthest 105 = .ok (.iload_n 2, 1) := by decide +kernel
theorem dd_U_farthest_106 : decode cd_U_farthest 106 = .ok (.laload, 1) := by decide +kernel
theorem dd_U_farthest_107 : decode cd_U_farthest 107 = .ok (.aload_n 0, 1) := by decide +kernel
theorem dd_U_farthest_108 : decode cd_U_farthest 108 = .ok (.getfield 56, 3) := by decide +kernel
theorem dd_U_farthest_111 : decode cd_U_farthest 111 = .ok (.iload_n 1, 1) := by decide +kernel
theorem dd_U_farthest_112 : decode cd_U_farthest 112 = .ok (.laload, 1) := by decide +kernel
theorem dd_U_farthest_113 : decode cd_U_farthest 113 = .ok (.lcmp, 1) := by decide +kernel
theorem dd_U_farthest_114 : decode cd_U_farthest 114 = .ok (.ifCond .le 5, 3) := by decide +kernel
theorem dd_U_farthest_117 : decode cd_U_farthest 117 = .ok (.iload_n 2, 1) := by decide +kernel
theorem dd_U_farthest_118 : decode cd_U_farthest 118 = .ok (.istore_n 1, 1) := by decide +kernel
theorem dd_U_farthest_119 : decode cd_U_farthest 119 = .ok (.iinc 2 1, 3) := by decide +kernel
theorem dd_U_farthest_122 : decode cd_U_farthest 122 = .ok (.goto (-98), 3) := by decide +kernel
theorem dd_U_farthest_125 : decode cd_U_farthest 125 = .ok (.iload_n 1, 1) := by decide +kernel
theorem dd_U_farthest_126 : decode cd_U_farthest 126 = .ok (.ireturn, 1) := by decide +kernel
