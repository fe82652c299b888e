theorem dd_M_init_0 : decode cd_M_init 0 = .ok (.aload_n 0, 1) := by decide +kernel
theorem dd_M_init_1 : decode cd_M_init 1 = .ok (.invokespecial 1, 3) := by decide +kernel
theorem dd_M_init_4 : decode cd_M_init 4 = .ok (.aload_n 0, 1) := by decide +kernel
theorem dd_M_init_5 : decode cd_M_init 5 = .ok (.bipush 8, 2) := by decide +kernel
theorem dd_M_init_7 : decode cd_M_init 7 = .ok (.newarray .int, 2) := by decide +kernel
theorem dd_M_init_9 : decode cd_M_init 9 = .ok (.putfield 7, 3) := by decide +kernel
theorem dd_M_init_12 : decode cd_M_init 12 = .ok (.aload_n 0, 1) := by decide +kernel
theorem dd_M_init_13 : decode cd_M_init 13 = .ok (.bipush 8, 2) := by decide +kernel
theorem dd_M_init_15 : decode cd_M_init 15 = .ok (.newarray .int, 2) := by decide +kernel
theorem dd_M_init_17 : decode cd_M_init 17 = .ok (.putfield 13, 3) := by decide +kernel
theorem dd_M_init_20 : decode cd_M_init 20 = .ok (.aload_n 0, 1) := by decide +kernel
theorem dd_M_init_21 : decode cd_M_init 21 = .ok (.bipush 8, 2) := by decide +kernel
theorem dd_M_init_23 : decode cd_M_init 23 = .ok (.newarray .int, 2) := by decide +kernel
theorem dd_M_init_25 : decode cd_M_init 25 = .ok (.putfield 16, 3) := by decide +kernel
theorem dd_M_init_28 : decode cd_M_init 28 = .ok (.aload_n 0, 1) := by decide +kernel
theorem dd_M_init_29 : decode cd_M_init 29 = .ok (.bipush 20, 2) := by decide +kernel
theorem dd_M_init_31 : decode cd_M_init 31 = .ok (.newarray .int, 2) := by decide +kernel
theorem dd_M_init_33 : decode cd_M_init 33 = .ok (.putfield 19, 3) := by decide +kernel
theorem dd_M_init_36 : decode cd_M_init 36 = .ok (.aload_n 0, 1) := by decide +kernel
theorem dd_M_init_37 : decode cd_M_init 37 = .ok (.bipush 20, 2) := by decide +kernel
theorem dd_M_init_39 : decode cd_M_init 39 = .ok (.newarray .int, 2) := by decide +kernel
theorem dd_M_init_41 : decode cd_M_init 41 = .ok (.putfield 22, 3) := by decide +kernel
theorem dd_M_init_44 : decode cd_M_init 44 = .ok (.aload_n 0, 1) := by decide +kernel
theorem dd_M_init_45 : decode cd_M_init 45 = .ok (.sipush 160, 3) := by decide +kernel
theorem dd_M_init_48 : decode cd_M_init 48 = .ok (.newarray .int, 2) := by decide +kernel
theorem dd_M_init_50 : decode cd_M_init 50 = .ok (.putfield 25, 3) := by decide +kernel
theorem dd_M_init_53 : decode cd_M_init 53 = .ok (.aload_n 0, 1) := by decide +kernel
theorem dd_M_init_54 : decode cd_M_init 54 = .ok (.iconst 1, 1) := by decide +kernel
theorem dd_M_init_55 : decode cd_M_init 55 = .ok (.putfield 28, 3) := by decide +kernel
theorem dd_M_init_58 : decode cd_M_init 58 = .ok (.aload_n 0, 1) := by decide +kernel
theorem dd_M_init_59 : decode cd_M_init 59 = .ok (.bipush 100, 2) := by decide +kernel
theorem dd_M_init_61 : decode cd_M_init 61 = .ok (.putfield 32, 3) := by decide +kernel
theorem dd_M_init_64 : decode cd_M_init 64 = .ok (.aload_n 0, 1) := by decide +kernel
theorem dd_M_init_65 : decode cd_M_init 65 = .ok (.bipush 20, 2) := by decide +kernel
theorem dd_M_init_67 : decode cd_M_init 67 = .ok (.newarray .int, 2) := by decide +kernel
theorem dd_M_init_69 : decode cd_M_init 69 = .ok (.putfield 35, 3) := by decide +kernel
theorem dd_M_init_72 : decode cd_M_init 72 = .ok (.aload_n 0, 1) := by decide +kernel
theorem dd_M_init_73 : decode cd_M_init 73 = .ok (.bipush 20, 2) := by decide +kernel
theorem dd_M_init_75 : decode cd_M_init 75 = .ok (.newarray .int, 2) := by decide +kernel
theorem dd_M_init_77 : decode cd_M_init 77 = .ok (.putfield 38, 3) := by decide +kernel
theorem dd_M_init_80 : decode cd_M_init 80 = .ok (.aload_n 0, 1) := by decide +kernel
theorem dd_M_init_81 : decode cd_M_init 81 = .ok (.bipush 20, 2) := by decide +kernel
theorem dd_M_init_83 : decode cd_M_init 83 = .ok (.newarray .int, 2) := by decide +kernel
theorem dd_M_init_85 : decode cd_M_init 85 = .ok (.putfield 41, 3) := by decide +kernel
theorem dd_M_init_88 : decode cd_M_init 88 = .ok (.aload_n 0, 1) := by decide +kernel
theorem dd_M_init_89 : decode cd_M_init 89 = .ok (.sipush 420, 3) := by decide +kernel
theorem dd_M_init_92 : decode cd_M_init 92 = .ok (.newarray .long, 2) := by decide +kernel
theorem dd_M_init_94 : decode cd_M_init 94 = .ok (.putfield 44, 3) := by decide +kernel
theorem dd_M_init_97 : decode cd_M_init 97 = .ok (.aload_n 0, 1) := by decide +kernel
theorem dd_M_init_98 : decode cd_M_init 98 = .ok (.sipush 488, 3) := by decide +kernel
theorem dd_M_init_101 : decode cd_M_init 101 = .ok (.newarray .int, 2) := by decide +kernel
theorem dd_M_init_103 : decode cd_M_init 103 = .ok (.putfield 48, 3) := by decide +kernel
theorem dd_M_init_106 : decode cd_M_init 106 = .ok (.return_, 1) := by decide +kernel
theorem dd_M_thrown_0 : decode cd_M_thrown 0 = .ok (.aload_n 0, 1) := by decide +kernel
theorem dd_M_thrown_1 : decode cd_M_thrown 1 = .ok (.getfield 51, 3) := by decide +kernel
theorem dd_M_thrown_4 : decode cd_M_thrown 4 = .ok (.ireturn, 1) := by decide +kernel
theorem dd_M_kind_0 : decode cd_M_kind 0 = .ok (.aload_n 0, 1) := by decide +kernel
theorem dd_M_kind_1 : decode cd_M_kind 1 = .ok (.iload_n 1, 1) := by decide +kernel
theorem dd_M_kind_2 : decode cd_M_kind 2 = .ok (.i2l, 1) := by decide +kernel
theorem dd_M_kind_3 : decode cd_M_kind 3 = .ok (.lconst 1, 1) := by decide +kernel
theorem dd_M_kind_4 : decode cd_M_kind 4 = .ok (.ldc2_w 63, 3) := by decide +kernel
theorem dd_M_kind_7 : decode cd_M_kind 7 = .ok (.invokestatic 65, 3) := by decide +kernel
theorem dd_M_kind_10 : decode cd_M_kind 10 = .ok (.ifCond .eq 20, 3) := by decide +kernel
theorem dd_M_kind_13 : decode cd_M_kind 13 = .ok (.iload_n 2, 1) := by decide +kernel
theorem dd_M_kind_14 : decode cd_M_kind 14 = .ok (.iconst 1, 1) := by decide +kernel
theorem dd_M_kind_15 : decode cd_M_kind 15 = .ok (.if_icmp .lt 15, 3) := by decide +kernel
theorem dd_M_kind_18 : decode cd_M_kind 18 = .ok (.iload_n 2, 1) := by decide +kernel
theorem dd_M_kind_19 : decode cd_M_kind 19 = .ok (.iload_n 3, 1) := by decide +kernel
theorem dd_M_kind_20 : decode cd_M_kind 20 = .ok (.if_icmp .ge 10, 3) := by decide +kernel
theorem dd_M_kind_23 : decode cd_M_kind 23 = .ok (.iload_n 3, 1) := by decide +kernel
theorem dd_M_kind_24 : decode cd_M_kind 24 = .ok (.sipush 1000, 3) := by decide +kernel
theorem dd_M_kind_27 : decode cd_M_kind 27 = .ok (.if_icmp .le 7, 3) := by decide +kernel
theorem dd_M_kind_30 : decode cd_M_kind 30 = .ok (.iconst 1, 1) := by decide +kernel
theorem dd_M_kind_31 : decode cd_M_kind 31 = .ok (.goto 17, 3) := by decide +kernel
theorem dd_M_kind_34 : decode cd_M_kind 34 = .ok (.aload_n 0, 1) := by decide +kernel
theorem dd_M_kind_35 : decode cd_M_kind 35 = .ok (.getfield 69, 3) := by decide +kernel
theorem dd_M_kind_38 : decode cd_M_kind 38 = .ok (.bipush 8, 2) := by decide +kernel
theorem dd_M_kind_40 : decode cd_M_kind 40 = .ok (.if_icmp .ne 7, 3) := by decide +kernel
theorem dd_M_kind_43 : decode cd_M_kind 43 = .ok (.iconst 2, 1) := by decide +kernel
theorem dd_M_kind_44 : decode cd_M_kind 44 = .ok (.goto 4, 3) := by decide +kernel
theorem dd_M_kind_47 : decode cd_M_kind 47 = .ok (.iconst 0, 1) := by decide +kernel
theorem dd_M_kind_48 : decode cd_M_kind 48 = .ok (.putfield 51, 3) := by decide +kernel
theorem dd_M_kind_51 : decode cd_M_kind 51 = .ok (.aload_n 0, 1) := by decide +kernel
theorem dd_M_kind_52 : decode cd_M_kind 52 = .ok (.getfield 51, 3) := by decide +kernel
theorem dd_M_kind_55 : decode cd_M_kind 55 = .ok (.ifCond .le 5, 3) := by decide +kernel
theorem dd_M_kind_58 : decode cd_M_kind 58 = .ok (.iconst 0, 1) := by decide +kernel
theorem dd_M_kind_59 : decode cd_M_kind 59 = .ok (.ireturn, 1) := by decide +kernel
theorem dd_M_kind_60 : decode cd_M_kind 60 = .ok (.aload_n 0, 1) := by decide +kernel
theorem dd_M_kind_61 : decode cd_M_kind 61 = .ok (.getfield 7, 3) := by decide +kernel
theorem dd_M_kind_64 : decode cd_M_kind 64 = .ok (.aload_n 0, 1) := by decide +kernel
theorem dd_M_kind_65 : decode cd_M_kind 65 = .ok (.getfield 69, 3) := by decide +kernel
theorem dd_M_kind_68 : decode cd_M_kind 68 = .ok (.iload_n 1, 1) := by decide +kernel
theorem dd_M_kind_69 : decode cd_M_kind 69 = .ok (.iastore, 1) := by decide +kernel
theorem dd_M_kind_70 : decode cd_M_kind 70 = .ok (.aload_n 0, 1) := by decide +kernel
theorem dd_M_kind_71 : decode cd_M_kind 71 = .ok (.getfield 13, 3) := by decide +kernel
theorem dd_M_kind_74 : decode cd_M_kind 74 = .ok (.aload_n 0, 1) := by decide +kernel
theorem dd_M_kind_75 : decode cd_M_kind 75 = .ok (.getfield 69, 3) := by decide +kernel
theorem dd_M_kind_78 : decode cd_M_kind 78 = .ok (.iload_n 2, 1) := by decide +kernel
theorem dd_M_kind_79 : decode cd_M_kind 79 = .ok (.iastore, 1) := by decide +kernel
theorem dd_M_kind_80 : decode cd_M_kind 80 = .ok (.aload_n 0, 1) := by decide +kernel
theorem dd_M_kind_81 : decode cd_M_kind 81 = .ok (.getfield 16, 3) := by decide +kernel
theorem dd_M_kind_84 : decode cd_M_kind 84 = .ok (.aload_n 0, 1) := by decide +kernel
theorem dd_M_kind_85 : decode cd_M_kind 85 = .ok (.getfield 69, 3) := by decide +kernel
theorem dd_M_kind_88 : decode cd_M_kind 88 = .ok (.iload_n 3, 1) := by decide +kernel
theorem dd_M_kind_89 : decode cd_M_kind 89 = .ok (.iastore, 1) := by decide +kernel
theorem dd_M_kind_90 : decode cd_M_kind 90 = .ok (.aload_n 0, 1) := by decide +kernel
theorem dd_M_kind_91 : decode cd_M_kind 91 = .ok (.dup, 1) := by decide +kernel
theorem dd_M_kind_92 : decode cd_M_kind 92 = .ok (.getfield 69, 3) := by decide +kernel
theorem dd_M_kind_95 : decode cd_M_kind 95 = .ok (.iconst 1, 1) := by decide +kernel
theorem dd_M_kind_96 : decode cd_M_kind 96 = .ok (.iadd, 1) := by decide +kernel
theorem dd_M_kind_97 : decode cd_M_kind 97 = .ok (.putfield 69, 3) := by decide +kernel
theorem dd_M_kind_100 : decode cd_M_kind 100 = .ok (.aload_n 0, 1) := by decide +kernel
theorem dd_M_kind_101 : decode cd_M_kind 101 = .ok (.getfield 69, 3) := by decide +kernel
theorem dd_M_kind_104 : decode cd_M_kind 104 = .ok (.iconst 1, 1) := by decide +kernel
theorem dd_M_kind_105 : decode cd_M_kind 105 = .ok (.isub, 1) := by decide +kernel
theorem dd_M_kind_106 : decode cd_M_kind 106 = .ok (.ireturn, 1) := by decide +kernel
theorem dd_M_isIn_0 : decode cd_M_isIn 0 = .ok (.lload_n 0, 1) := by decide +kernel
theorem dd_M_isIn_1 : decode cd_M_isIn 1 = .ok (.lload_n 2, 1) := by decide +kernel
theorem dd_M_isIn_2 : decode cd_M_isIn 2 = .ok (.lcmp, 1) := by decide +kernel
theorem dd_M_isIn_3 : decode cd_M_isIn 3 = .ok (.ifCond .lt 14, 3) := by decide +kernel
theorem dd_M_isIn_6 : decode cd_M_isIn 6 = .ok (.lload_n 0, 1) := by decide +kernel
theorem dd_M_isIn_7 : decode cd_M_isIn 7 = .ok (.lload 4, 2) := by decide +kernel
theorem dd_M_isIn_9 : decode cd_M_isIn 9 = .ok (.lcmp, 1) := by decide +kernel
theorem dd_M_isIn_10 : decode cd_M_isIn 10 = .ok (.ifCond .gt 7, 3) := by decide +kernel
theorem dd_M_isIn_13 : decode cd_M_isIn 13 = .ok (.iconst 1, 1) := by decide +kernel
theorem dd_M_isIn_14 : decode cd_M_isIn 14 = .ok (.goto 4, 3) := by decide +kernel
theorem dd_M_isIn_17 : decode cd_M_isIn 17 = .ok (.iconst 0, 1) := by decide +kernel
theorem dd_M_isIn_18 : decode cd_M_isIn 18 = .ok (.ireturn, 1) := by decide +kernel
theorem dd_M_pipe_0 : decode cd_M_pipe 0 = .ok (.iload_n 2, 1) := by decide +kernel
theorem dd_M_pipe_1 : decode cd_M_pipe 1 = .ok (.i2l, 1) := by decide +kernel
theorem dd_M_pipe_2 : decode cd_M_pipe 2 = .ok (.lconst 1, 1) := by decide +kernel
theorem dd_M_pipe_3 : decode cd_M_pipe 3 = .ok (.ldc2_w 72, 3) := by decide +kernel
theorem dd_M_pipe_6 : decode cd_M_pipe 6 = .ok (.invokestatic 65, 3) := by decide +kernel
theorem dd_M_pipe_9 : decode cd_M_pipe 9 = .ok (.ifCond .eq 38, 3) := by decide +kernel
theorem dd_M_pipe_12 : decode cd_M_pipe 12 = .ok (.aload_n 0, 1) := by decide +kernel
theorem dd_M_pipe_13 : decode cd_M_pipe 13 = .ok (.getfield 74, 3) := by decide +kernel
theorem dd_M_pipe_16 : decode cd_M_pipe 16 = .ok (.ifCond .ne 11, 3) := by decide +kernel
theorem dd_M_pipe_19 : decode cd_M_pipe 19 = .ok (.iload_n 1, 1) := by decide +kernel
theorem dd_M_pipe_20 : decode cd_M_pipe 20 = .ok (.iconst (-1), 1) := by decide +kernel
theorem dd_M_pipe_21 : decode cd_M_pipe 21 = .ok (.if_icmp .ne 26, 3) := by decide +kernel
theorem dd_M_pipe_24 : decode cd_M_pipe 24 = .ok (.goto 19, 3) := by decide +kernel
theorem dd_M_pipe_27 : decode cd_M_pipe 27 = .ok (.iload_n 1, 1) := by decide +kernel
theorem dd_M_pipe_28 : decode cd_M_pipe 28 = .ok (.i2l, 1) := by decide +kernel
theorem dd_M_pipe_29 : decode cd_M_pipe 29 = .ok (.lconst 0, 1) := by decide +kernel
theorem dd_M_pipe_30 : decode cd_M_pipe 30 = .ok (.aload_n 0, 1) := by decide +kernel
theorem dd_M_pipe_31 : decode cd_M_pipe 31 = .ok (.getfield 74, 3) := by decide +kernel
theorem dd_M_pipe_34 : decode cd_M_pipe 34 = .ok (.i2l, 1) := by decide +kernel
theorem dd_M_pipe_35 : decode cd_M_pipe 35 = .ok (.lconst 1, 1) := by decide +kernel
theorem dd_M_pipe_36 : decode cd_M_pipe 36 = .ok (.lsub, 1) := by decide +kernel
theorem dd_M_pipe_37 : decode cd_M_pipe 37 = .ok (.invokestatic 65, 3) := by decide +kernel
theorem dd_M_pipe_40 : decode cd_M_pipe 40 = .ok (.ifCond .eq 7, 3) := by decide +kernel
theorem dd_M_pipe_43 : decode cd_M_pipe 43 = .ok (.iconst 1, 1) := by decide +kernel
theorem dd_M_pipe_44 : decode cd_M_pipe 44 = .ok (.goto 4, 3) := by decide +kernel
theorem dd_M_pipe_47 : decode cd_M_pipe 47 = .ok (.iconst 0, 1) := by decide +kernel
theorem dd_M_pipe_48 : decode cd_M_pipe 48 = .ok (.istore_n 3, 1) := by decide +kernel
theorem dd_M_pipe_49 : decode cd_M_pipe 49 = .ok (.aload_n 0, 1) := by decide +kernel
theorem dd_M_pipe_50 : decode cd_M_pipe 50 = .ok (.iload_n 3, 1) := by decide +kernel
theorem dd_M_pipe_51 : decode cd_M_pipe 51 = .ok (.ifCond .ne 7, 3) := by decide +kernel
theorem dd_M_pipe_54 : decode cd_M_pipe 54 = .ok (.iconst 1, 1) := by decide +kernel
theorem dd_M_pipe_55 : decode cd_M_pipe 55 = .ok (.goto 17, 3) := by decide +kernel
theorem dd_M_pipe_58 : decode cd_M_pipe 58 = .ok (.aload_n 0, 1) := by decide +kernel
theorem dd_M_pipe_59 : decode cd_M_pipe 59 = .ok (.getfield 74, 3) := by decide +kernel
theorem dd_M_pipe_62 : decode cd_M_pipe 62 = .ok (.bipush 20, 2) := by decide +kernel
theorem dd_M_pipe_64 : decode cd_M_pipe 64 = .ok (.if_icmp .ne 7, 3) := by decide +kernel
theorem dd_M_pipe_67 : decode cd_M_pipe 67 = .ok (.iconst 2, 1) := by decide +kernel
theorem dd_M_pipe_68 : decode cd_M_pipe 68 = .ok (.goto 4, 3) := by decide +kernel
theorem dd_M_pipe_71 : decode cd_M_pipe 71 = .ok (.iconst 0, 1) := by decide +kernel
theorem dd_M_pipe_72 : decode cd_M_pipe 72 = .ok (.putfield 51, 3) := by decide +kernel
theorem dd_M_pipe_75 : decode cd_M_pipe 75 = .ok (.aload_n 0, 1) := by decide +kernel
theorem dd_M_pipe_76 : decode cd_M_pipe 76 = .ok (.getfield 51, 3) := by decide +kernel
theorem dd_M_pipe_79 : decode cd_M_pipe 79 = .ok (.ifCond .le 5, 3) := by decide +kernel
theorem dd_M_pipe_82 : decode cd_M_pipe 82 = .ok (.iconst 0, 1) := by decide +kernel
theorem dd_M_pipe_83 : decode cd_M_pipe 83 = .ok (.ireturn, 1) := by decide +kernel
theorem dd_M_pipe_84 : decode cd_M_pipe 84 = .ok (.aload_n 0, 1) := by decide +kernel
theorem dd_M_pipe_85 : decode cd_M_pipe 85 = .ok (.getfield 19, 3) := by decide +kernel
theorem dd_M_pipe_88 : decode cd_M_pipe 88 = .ok (.aload_n 0, 1) := by decide +kernel
theorem dd_M_pipe_89 : decode cd_M_pipe 89 = .ok (.getfield 74, 3) := by decide +kernel
theorem dd_M_pipe_92 : decode cd_M_pipe 92 = .ok (.iload_n 1, 1) := by decide +kernel
theorem dd_M_pipe_93 : decode cd_M_pipe 93 = .ok (.iastore, 1) := by decide +kernel
theorem dd_M_pipe_94 : decode cd_M_pipe 94 = .ok (.aload_n 0, 1) := by decide +kernel
theorem dd_M_pipe_95 : decode cd_M_pipe 95 = .ok (.getfield 22, 3) := by decide +kernel
theorem dd_M_pipe_98 : decode cd_M_pipe 98 = .ok (.aload_n 0, 1) := by decide +kernel
theorem dd_M_pipe_99 : decode cd_M_pipe 99 = .ok (.getfield 74, 3) := by decide +kernel
theorem dd_M_pipe_102 : decode cd_M_pipe 102 = .ok (.iload_n 2, 1) := by decide +kernel
theorem dd_M_pipe_103 : decode cd_M_pipe 103 = .ok (.iastore, 1) := by decide +kernel
theorem dd_M_pipe_104 : decode cd_M_pipe 104 = .ok (.aload_n 0, 1) := by decide +kernel
theorem dd_M_pipe_105 : decode cd_M_pipe 105 = .ok (.dup, 1) := by decide +kernel
theorem dd_M_pipe_106 : decode cd_M_pipe 106 = .ok (.getfield 74, 3) := by decide +kernel
theorem dd_M_pipe_109 : decode cd_M_pipe 109 = .ok (.iconst 1, 1) := by decide +kernel
theorem dd_M_pipe_110 : decode cd_M_pipe 110 = .ok (.iadd, 1) := by decide +kernel
theorem dd_M_pipe_111 : decode cd_M_pipe 111 = .ok (.putfield 74, 3) := by decide +kernel
theorem dd_M_pipe_114 : decode cd_M_pipe 114 = .ok (.aload_n 0, 1) := by decide +kernel
theorem dd_M_pipe_115 : decode cd_M_pipe 115 = .ok (.getfield 74, 3) := by decide +kernel
theorem dd_M_pipe_118 : decode cd_M_pipe 118 = .ok (.iconst 1, 1) := by decide +kernel
theorem dd_M_pipe_119 : decode cd_M_pipe 119 = .ok (.isub, 1) := by decide +kernel
theorem dd_M_pipe_120 : decode cd_M_pipe 120 = .ok (.ireturn, 1) := by decide +kernel
theorem dd_M_taps_0 : decode cd_M_taps 0 = .ok (.aload_n 0, 1) := by decide +kernel
theorem dd_M_taps_1 : decode cd_M_taps 1 = .ok (.aload_n 0, 1) := by decide +kernel
theorem dd_M_taps_2 : decode cd_M_taps 2 = .ok (.iload_n 1, 1) := by decide +kernel
theorem dd_M_taps_3 : decode cd_M_taps 3 = .ok (.iload_n 2, 1) := by decide +kernel
theorem dd_M_taps_4 : decode cd_M_taps 4 = .ok (.invokevirtual 77, 3) := by decide +kernel
theorem dd_M_taps_7 : decode cd_M_taps 7 = .ok (.ifCond .ne 15, 3) := by decide +kernel
theorem dd_M_taps_10 : decode cd_M_taps 10 = .ok (.iload_n 3, 1) := by decide +kernel
theorem dd_M_taps_11 : decode cd_M_taps 11 = .ok (.i2l, 1) := by decide +kernel
theorem dd_M_taps_12 : decode cd_M_taps 12 = .ok (.lconst 1, 1) := by decide +kernel
theorem dd_M_taps_13 : decode cd_M_taps 13 = .ok (.ldc2_w 81, 3) := by decide +kernel
theorem dd_M_taps_16 : decode cd_M_taps 16 = .ok (.invokestatic 65, 3) := by decide +kernel
theorem dd_M_taps_19 : decode cd_M_taps 19 = .ok (.ifCond .ne 7, 3) := by decide +kernel
theorem dd_M_taps_22 : decode cd_M_taps 22 = .ok (.iconst 1, 1) := by decide +kernel
theorem dd_M_taps_23 : decode cd_M_taps 23 = .ok (.goto 4, 3) := by decide +kernel
theorem dd_M_taps_26 : decode cd_M_taps 26 = .ok (.iconst 0, 1) := by decide +kernel
theorem dd_M_taps_27 : decode cd_M_taps 27 = .ok (.putfield 51, 3) := by decide +kernel
theorem dd_M_taps_30 : decode cd_M_taps 30 = .ok (.iconst 0, 1) := by decide +kernel
theorem dd_M_taps_31 : decode cd_M_taps 31 = .ok (.istore 4, 2) := by decide +kernel
theorem dd_M_taps_33 : decode cd_M_taps 33 = .ok (.iconst 0, 1) := by decide +kernel
theorem dd_M_taps_34 : decode cd_M_taps 34 = .ok (.istore 5, 2) := by decide +kernel
theorem dd_M_taps_36 : decode cd_M_taps 36 = .ok (.iload 5, 2) := by decide +kernel
theorem dd_M_taps_38 : decode cd_M_taps 38 = .ok (.aload_n 0, 1) := by decide +kernel
theorem dd_M_taps_39 : decode cd_M_taps 39 = .ok (.getfield 74, 3) := by decide +kernel
theorem dd_M_taps_42 : decode cd_M_taps 42 = .ok (.if_icmp .ge 33, 3) := by decide +kernel
theorem dd_M_taps_45 : decode cd_M_taps 45 = .ok (.aload_n 0, 1) := by decide +kernel
theorem dd_M_taps_46 : decode cd_M_taps 46 = .ok (.getfield 51, 3) := by decide +kernel
theorem dd_M_taps_49 : decode cd_M_taps 49 = .ok (.ifCond .ne 26, 3) := by decide +kernel
theorem dd_M_taps_52 : decode cd_M_taps 52 = .ok (.iload 4, 2) := by decide +kernel
theorem dd_M_taps_54 : decode cd_M_taps 54 = .ok (.aload_n 0, 1) := by decide +kernel
theorem dd_M_taps_55 : decode cd_M_taps 55 = .ok (.getfield 25, 3) := by decide +kernel
theorem dd_M_taps_58 : decode cd_M_taps 58 = .ok (.bipush 8, 2) := by decide +kernel
theorem dd_M_taps_60 : decode cd_M_taps 60 = .ok (.iload 5, 2) := by decide +kernel
theorem dd_M_taps_62 : decode cd_M_taps 62 = .ok (.imul, 1) := by decide +kernel
theorem dd_M_taps_63 : decode cd_M_taps 63 = .ok (.iload_n 2, 1) := by decide +kernel
theorem dd_M_taps_64 : decode cd_M_taps 64 = .ok (.iadd, 1) := by decide +kernel
theorem dd_M_taps_65 : decode cd_M_taps 65 = .ok (.iaload, 1) := by decide +kernel
theorem dd_M_taps_66 : decode cd_M_taps 66 = .ok (.iadd, 1) := by decide +kernel
theorem dd_M_taps_67 : decode cd_M_taps 67 = .ok (.istore 4, 2) := by decide +kernel
theorem dd_M_taps_69 : decode cd_M_taps 69 = .ok (.iinc 5 1, 3) := by decide +kernel
theorem dd_M_taps_72 : decode cd_M_taps 72 = .ok (.goto (-36), 3) := by decide +kernel
theorem dd_M_taps_75 : decode cd_M_taps 75 = .ok (.aload_n 0, 1) := by decide +kernel
theorem dd_M_taps_76 : decode cd_M_taps 76 = .ok (.aload_n 0, 1) := by decide +kernel
theorem dd_M_taps_77 : decode cd_M_taps 77 = .ok (.getfield 51, 3) := by decide +kernel
theorem dd_M_taps_80 : decode cd_M_taps 80 = .ok (.ifCond .ne 16, 3) := by decide +kernel
theorem dd_M_taps_83 : decode cd_M_taps 83 = .ok (.iload 4, 2) := by decide +kernel
theorem dd_M_taps_85 : decode cd_M_taps 85 = .ok (.iload_n 3, 1) := by decide +kernel
theorem dd_M_taps_86 : decode cd_M_taps 86 = .ok (.iadd, 1) := by decide +kernel
theorem dd_M_taps_87 : decode cd_M_taps 87 = .ok (.bipush 60, 2) := by decide +kernel
theorem dd_M_taps_89 : decode cd_M_taps 89 = .ok (.if_icmp .le 7, 3) := by decide +kernel
theorem dd_M_taps_92 : decode cd_M_taps 92 = .ok (.iconst 2, 1) := by decide +kernel
theorem dd_M_taps_93 : decode cd_M_taps 93 = .ok (.goto 7, 3) := by decide +kernel
theorem dd_M_taps_96 : decode cd_M_taps 96 = .ok (.aload_n 0, 1) := by decide +kernel
theorem dd_M_taps_97 : decode cd_M_taps 97 = .ok (.getfield 51, 3) := by decide +kernel
theorem dd_M_taps_100 : decode cd_M_taps 100 = .ok (.putfield 51, 3) := by decide +kernel
theorem dd_M_taps_103 : decode cd_M_taps 103 = .ok (.aload_n 0, 1) := by decide +kernel
theorem dd_M_taps_104 : decode cd_M_taps 104 = .ok (.getfield 51, 3) := by decide +kernel
theorem dd_M_taps_107 : decode cd_M_taps 107 = .ok (.ifCond .le 5, 3) := by decide +kernel
theorem dd_M_taps_110 : decode cd_M_taps 110 = .ok (.iconst 0, 1) := by decide +kernel
theorem dd_M_taps_111 : decode cd_M_taps 111 = .ok (.ireturn, 1) := by decide +kernel
theorem dd_M_taps_112 : decode cd_M_taps 112 = .ok (.aload_n 0, 1) := by decide +kernel
theorem dd_M_taps_113 : decode cd_M_taps 113 = .ok (.getfield 25, 3) := by decide +kernel
theorem dd_M_taps_116 : decode cd_M_taps 116 = .ok (.bipush 8, 2) := by decide +kernel
theorem dd_M_taps_118 : decode cd_M_taps 118 = .ok (.iload_n 1, 1) := by decide +kernel
theorem dd_M_taps_119 : decode cd_M_taps 119 = .ok (.imul, 1) := by decide +kernel
theorem dd_M_taps_120 : decode cd_M_taps 120 = .ok (.iload_n 2, 1) := by decide +kernel
theorem dd_M_taps_121 : decode cd_M_taps 121 = .ok (.iadd, 1) := by decide +kernel
theorem dd_M_taps_122 : decode cd_M_taps 122 = .ok (.aload_n 0, 1) := by decide +kernel
theorem dd_M_taps_123 : decode cd_M_taps 123 = .ok (.getfield 25, 3) := by decide +kernel
theorem dd_M_taps_126 : decode cd_M_taps 126 = .ok (.bipush 8, 2) := by decide +kernel
theorem dd_M_taps_128 : decode cd_M_taps 128 = .ok (.iload_n 1, 1) := by decide +kernel
theorem dd_M_taps_129 : decode cd_M_taps 129 = .ok (.imul, 1) := by decide +kernel
theorem dd_M_taps_130 : decode cd_M_taps 130 = .ok (.iload_n 2, 1) := by decide +kernel
theorem dd_M_taps_131 : decode cd_M_taps 131 = .ok (.iadd, 1) := by decide +kernel
theorem dd_M_taps_132 : decode cd_M_taps 132 = .ok (.iaload, 1) := by decide +kernel
theorem dd_M_taps_133 : decode cd_M_taps 133 = .ok (.iload_n 3, 1) := by decide +kernel
theorem dd_M_taps_134 : decode cd_M_taps 134 = .ok (.iadd, 1) := by decide +kernel
theorem dd_M_taps_135 : decode cd_M_taps 135 = .ok (.iastore, 1) := by decide +kernel
theorem dd_M_taps_136 : decode cd_M_taps 136 = .ok (.aload_n 0, 1) := by decide +kernel
theorem dd_M_taps_137 : decode cd_M_taps 137 = .ok (.getfield 25, 3) := by decide +kernel
theorem dd_M_taps_140 : decode cd_M_taps 140 = .ok (.bipush 8, 2) := by decide +kernel
theorem dd_M_taps_142 : decode cd_M_taps 142 = .ok (.iload_n 1, 1) := by decide +kernel
theorem dd_M_taps_143 : decode cd_M_taps 143 = .ok (.imul, 1) := by decide +kernel
theorem dd_M_taps_144 : decode cd_M_taps 144 = .ok (.iload_n 2, 1) := by decide +kernel
theorem dd_M_taps_145 : decode cd_M_taps 145 = .ok (.iadd, 1) := by decide +kernel
theorem dd_M_taps_146 : decode cd_M_taps 146 = .ok (.iaload, 1) := by decide +kernel
theorem dd_M_taps_147 : decode cd_M_taps 147 = .ok (.ireturn, 1) := by decide +kernel
theorem dd_M_no_0 : decode cd_M_no 0 = .ok (.iload_n 1, 1) := by decide +kernel
theorem dd_M_no_1 : decode cd_M_no 1 = .ok (.i2l, 1) := by decide +kernel
theorem dd_M_no_2 : decode cd_M_no 2 = .ok (.lconst 0, 1) := by decide +kernel
theorem dd_M_no_3 : decode cd_M_no 3 = .ok (.aload_n 0, 1) := by decide +kernel
theorem dd_M_no_4 : decode cd_M_no 4 = .ok (.getfield 74, 3) := by decide +kernel
theorem dd_M_no_7 : decode cd_M_no 7 = .ok (.i2l, 1) := by decide +kernel
theorem dd_M_no_8 : decode cd_M_no 8 = .ok (.lconst 1, 1) := by decide +kernel
theorem dd_M_no_9 : decode cd_M_no 9 = .ok (.lsub, 1) := by decide +kernel
theorem dd_M_no_10 : decode cd_M_no 10 = .ok (.invokestatic 65, 3) := by decide +kernel
theorem dd_M_no_13 : decode cd_M_no 13 = .ok (.ifCond .eq 19, 3) := by decide +kernel
theorem dd_M_no_16 : decode cd_M_no 16 = .ok (.iload_n 2, 1) := by decide +kernel
theorem dd_M_no_17 : decode cd_M_no 17 = .ok (.i2l, 1) := by decide +kernel
theorem dd_M_no_18 : decode cd_M_no 18 = .ok (.lconst 0, 1) := by decide +kernel
theorem dd_M_no_19 : decode cd_M_no 19 = .ok (.aload_n 0, 1) := by decide +kernel
theorem dd_M_no_20 : decode cd_M_no 20 = .ok (.getfield 69, 3) := by decide +kernel
theorem dd_M_no_23 : decode cd_M_no 23 = .ok (.i2l, 1) := by decide +kernel
theorem dd_M_no_24 : decode cd_M_no 24 = .ok (.lconst 1, 1) := by decide +kernel
theorem dd_M_no_25 : decode cd_M_no 25 = .ok (.lsub, 1) := by decide +kernel
theorem dd_M_no_26 : decode cd_M_no 26 = .ok (.invokestatic 65, 3) := by decide +kernel
theorem dd_M_no_29 : decode cd_M_no 29 = .ok (.ifCond .ne 7, 3) := by decide +kernel
theorem dd_M_no_32 : decode cd_M_no 32 = .ok (.iconst 1, 1) := by decide +kernel
theorem dd_M_no_33 : decode cd_M_no 33 = .ok (.goto 4, 3) := by decide +kernel
theorem dd_M_no_36 : decode cd_M_no 36 = .ok (.iconst 0, 1) := by decide +kernel
theorem dd_M_no_37 : decode cd_M_no 37 = .ok (.ireturn, 1) := by decide +kernel
theorem dd_M_gone_0 : decode cd_M_gone 0 = .ok (.aload_n 0, 1) := by decide +kernel
theorem dd_M_gone_1 : decode cd_M_gone 1 = .ok (.aload_n 0, 1) := by decide +kernel
theorem dd_M_gone_2 : decode cd_M_gone 2 = .ok (.iload_n 1, 1) := by decide +kernel
theorem dd_M_gone_3 : decode cd_M_gone 3 = .ok (.iload_n 2, 1) := by decide +kernel
theorem dd_M_gone_4 : decode cd_M_gone 4 = .ok (.invokevirtual 77, 3) := by decide +kernel
theorem dd_M_gone_7 : decode cd_M_gone 7 = .ok (.ifCond .ne 23, 3) := by decide +kernel
theorem dd_M_gone_10 : decode cd_M_gone 10 = .ok (.iload_n 3, 1) := by decide +kernel
theorem dd_M_gone_11 : decode cd_M_gone 11 = .ok (.iconst 1, 1) := by decide +kernel
theorem dd_M_gone_12 : decode cd_M_gone 12 = .ok (.if_icmp .lt 18, 3) := by decide +kernel
theorem dd_M_gone_15 : decode cd_M_gone 15 = .ok (.iload_n 3, 1) := by decide +kernel
theorem dd_M_gone_16 : decode cd_M_gone 16 = .ok (.aload_n 0, 1) := by decide +kernel
theorem dd_M_gone_17 : decode cd_M_gone 17 = .ok (.getfield 25, 3) := by decide +kernel
theorem dd_M_gone_20 : decode cd_M_gone 20 = .ok (.bipush 8, 2) := by decide +kernel
theorem dd_M_gone_22 : decode cd_M_gone 22 = .ok (.iload_n 1, 1) := by decide +kernel
theorem dd_M_gone_23 : decode cd_M_gone 23 = .ok (.imul, 1) := by decide +kernel
theorem dd_M_gone_24 : decode cd_M_gone 24 = .ok (.iload_n 2, 1) := by decide +kernel
theorem dd_M_gone_25 : decode cd_M_gone 25 = .ok (.iadd, 1) := by decide +kernel
theorem dd_M_gone_26 : decode cd_M_gone 26 = .ok (.iaload, 1) := by decide +kernel
theorem dd_M_gone_27 : decode cd_M_gone 27 = .ok (.if_icmp .le 7, 3) := by decide +kernel
theorem dd_M_gone_30 : decode cd_M_gone 30 = .ok (.iconst 1, 1) := by decide +kernel
theorem dd_M_gone_31 : decode cd_M_gone 31 = .ok (.goto 4, 3) := by decide +kernel
theorem dd_M_gone_34 : decode cd_M_gone 34 = .ok (.iconst 0, 1) := by decide +kernel
theorem dd_M_gone_35 : decode cd_M_gone 35 = .ok (.putfield 51, 3) := by decide +kernel
theorem dd_M_gone_38 : decode cd_M_gone 38 = .ok (.aload_n 0, 1) := by decide +kernel
theorem dd_M_gone_39 : decode cd_M_gone 39 = .ok (.getfield 51, 3) := by decide +kernel
theorem dd_M_gone_42 : decode cd_M_gone 42 = .ok (.ifCond .le 5, 3) := by decide +kernel
theorem dd_M_gone_45 : decode cd_M_gone 45 = .ok (.iconst 0, 1) := by decide +kernel
theorem dd_M_gone_46 : decode cd_M_gone 46 = .ok (.ireturn, 1) := by decide +kernel
theorem dd_M_gone_47 : decode cd_M_gone 47 = .ok (.aload_n 0, 1) := by decide +kernel
theorem dd_M_gone_48 : decode cd_M_gone 48 = .ok (.getfield 25, 3) := by decide +kernel
theorem dd_M_gone_51 : decode cd_M_gone 51 = .ok (.bipush 8, 2) := by decide +kernel
theorem dd_M_gone_53 : decode cd_M_gone 53 = .ok (.iload_n 1, 1) := by decide +kernel
theorem dd_M_gone_54 : decode cd_M_gone 54 = .ok (.imul, 1) := by decide +kernel
theorem dd_M_gone_55 : decode cd_M_gone 55 = .ok (.iload_n 2, 1) := by decide +kernel
theorem dd_M_gone_56 : decode cd_M_gone 56 = .ok (.iadd, 1) := by decide +kernel
theorem dd_M_gone_57 : decode cd_M_gone 57 = .ok (.aload_n 0, 1) := by decide +kernel
theorem dd_M_gone_58 : decode cd_M_gone 58 = .ok (.getfield 25, 3) := by decide +kernel
theorem dd_M_gone_61 : decode cd_M_gone 61 = .ok (.bipush 8, 2) := by decide +kernel
theorem dd_M_gone_63 : decode cd_M_gone 63 = .ok (.iload_n 1, 1) := by decide +kernel
theorem dd_M_gone_64 : decode cd_M_gone 64 = .ok (.imul, 1) := by decide +kernel
theorem dd_M_gone_65 : decode cd_M_gone 65 = .ok (.iload_n 2, 1) := by decide +kernel
theorem dd_M_gone_66 : decode cd_M_gone 66 = .ok (.iadd, 1) := by decide +kernel
theorem dd_M_gone_67 : decode cd_M_gone 67 = .ok (.iaload, 1) := by decide +kernel
theorem dd_M_gone_68 : decode cd_M_gone 68 = .ok (.iload_n 3, 1) := by decide +kernel
theorem dd_M_gone_69 : decode cd_M_gone 69 = .ok (.isub, 1) := by decide +kernel
theorem dd_M_gone_70 : decode cd_M_gone 70 = .ok (.iastore, 1) := by decide +kernel
theorem dd_M_gone_71 : decode cd_M_gone 71 = .ok (.aload_n 0, 1) := by decide +kernel
theorem dd_M_gone_72 : decode cd_M_gone 72 = .ok (.getfield 25, 3) := by decide +kernel
theorem dd_M_gone_75 : decode cd_M_gone 75 = .ok (.bipush 8, 2) := by decide +kernel
theorem dd_M_gone_77 : decode cd_M_gone 77 = .ok (.iload_n 1, 1) := by decide +kernel
theorem dd_M_gone_78 : decode cd_M_gone 78 = .ok (.imul, 1) := by decide +kernel
theorem dd_M_gone_79 : decode cd_M_gone 79 = .ok (.iload_n 2, 1) := by decide +kernel
theorem dd_M_gone_80 : decode cd_M_gone 80 = .ok (.iadd, 1) := by decide +kernel
theorem dd_M_gone_81 : decode cd_M_gone 81 = .ok (.iaload, 1) := by decide +kernel
theorem dd_M_gone_82 : decode cd_M_gone 82 = .ok (.ireturn, 1) := by decide +kernel
theorem dd_M_share_0 : decode cd_M_share 0 = .ok (.aload_n 0, 1) := by decide +kernel
theorem dd_M_share_1 : decode cd_M_share 1 = .ok (.iload_n 2, 1) := by decide +kernel
theorem dd_M_share_2 : decode cd_M_share 2 = .ok (.i2l, 1) := by decide +kernel
theorem dd_M_share_3 : decode cd_M_share 3 = .ok (.lconst 1, 1) := by decide +kernel
theorem dd_M_share_4 : decode cd_M_share 4 = .ok (.ldc2_w 54, 3) := by decide +kernel
theorem dd_M_share_7 : decode cd_M_share 7 = .ok (.invokestatic 65, 3) := by decide +kernel
theorem dd_M_share_10 : decode cd_M_share 10 = .ok (.ifCond .eq 14, 3) := by decide +kernel
theorem dd_M_share_13 : decode cd_M_share 13 = .ok (.iload_n 1, 1) := by decide +kernel
theorem dd_M_share_14 : decode cd_M_share 14 = .ok (.i2l, 1) := by decide +kernel
theorem dd_M_share_15 : decode cd_M_share 15 = .ok (.lconst 0, 1) := by decide +kernel
theorem dd_M_share_16 : decode cd_M_share 16 = .ok (.iload_n 2, 1) := by decide +kernel
theorem dd_M_share_17 : decode cd_M_share 17 = .ok (.i2l, 1) := by decide +kernel
theorem dd_M_share_18 : decode cd_M_share 18 = .ok (.invokestatic 65, 3) := by decide +kernel
theorem dd_M_share_21 : decode cd_M_share 21 = .ok (.ifCond .ne 7, 3) := by decide +kernel
theorem dd_M_share_24 : decode cd_M_share 24 = .ok (.iconst 1, 1) := by decide +kernel
theorem dd_M_share_25 : decode cd_M_share 25 = .ok (.goto 4, 3) := by decide +kernel
theorem dd_M_share_28 : decode cd_M_share 28 = .ok (.iconst 0, 1) := by decide +kernel
theorem dd_M_share_29 : decode cd_M_share 29 = .ok (.putfield 51, 3) := by decide +kernel
theorem dd_M_share_32 : decode cd_M_share 32 = .ok (.aload_n 0, 1) := by decide +kernel
theorem dd_M_share_33 : decode cd_M_share 33 = .ok (.getfield 51, 3) := by decide +kernel
theorem dd_M_share_36 : decode cd_M_share 36 = .ok (.ifCond .ne 35, 3) := by decide +kernel
theorem dd_M_share_39 : decode cd_M_share 39 = .ok (.aload_n 0, 1) := by decide +kernel
theorem dd_M_share_40 : decode cd_M_share 40 = .ok (.iload_n 1, 1) := by decide +kernel
theorem dd_M_share_41 : decode cd_M_share 41 = .ok (.putfield 28, 3) := by decide +kernel
theorem dd_M_share_44 : decode cd_M_share 44 = .ok (.aload_n 0, 1) := by decide +kernel
theorem dd_M_share_45 : decode cd_M_share 45 = .ok (.iload_n 2, 1) := by decide +kernel
theorem dd_M_share_46 : decode cd_M_share 46 = .ok (.putfield 32, 3) := by decide +kernel
theorem dd_M_share_49 : decode cd_M_share 49 = .ok (.iconst 0, 1) := by decide +kernel
theorem dd_M_share_50 : decode cd_M_share 50 = .ok (.istore_n 3, 1) := by decide +kernel
theorem dd_M_share_51 : decode cd_M_share 51 = .ok (.iload_n 3, 1) := by decide +kernel
theorem dd_M_share_52 : decode cd_M_share 52 = .ok (.sipush 488, 3) := by decide +kernel
theorem dd_M_share_55 : decode cd_M_share 55 = .ok (.if_icmp .ge 16, 3) := by decide +kernel
theorem dd_M_share_58 : decode cd_M_share 58 = .ok (.aload_n 0, 1) := by decide +kernel
theorem dd_M_share_59 : decode cd_M_share 59 = .ok (.getfield 48, 3) := by decide +kernel
theorem dd_M_share_62 : decode cd_M_share 62 = .ok (.iload_n 3, 1) := by decide +kernel
theorem dd_M_share_63 : decode cd_M_share 63 = .ok (.iconst 0, 1) := by decide +kernel
theorem dd_M_share_64 : decode cd_M_share 64 = .ok (.iastore, 1) := by decide +kernel
theorem dd_M_share_65 : decode cd_M_share 65 = .ok (.iinc 3 1, 3) := by decide +kernel
theorem dd_M_share_68 : decode cd_M_share 68 = .ok (.goto (-17), 3) := by decide +kernel
theorem dd_M_share_71 : decode cd_M_share 71 = .ok (.return_, 1) := by decide +kernel
theorem dd_M_entry_0 : decode cd_M_entry 0 = .ok (.aload_n 0, 1) := by decide +kernel
theorem dd_M_entry_1 : decode cd_M_entry 1 = .ok (.iload_n 1, 1) := by decide +kernel
theorem dd_M_entry_2 : decode cd_M_entry 2 = .ok (.i2l, 1) := by decide +kernel
theorem dd_M_entry_3 : decode cd_M_entry 3 = .ok (.lconst 1, 1) := by decide +kernel
theorem dd_M_entry_4 : decode cd_M_entry 4 = .ok (.ldc2_w 54, 3) := by decide +kernel
theorem dd_M_entry_7 : decode cd_M_entry 7 = .ok (.invokestatic 65, 3) := by decide +kernel
theorem dd_M_entry_10 : decode cd_M_entry 10 = .ok (.ifCond .eq 27, 3) := by decide +kernel
theorem dd_M_entry_13 : decode cd_M_entry 13 = .ok (.iload_n 2, 1) := by decide +kernel
theorem dd_M_entry_14 : decode cd_M_entry 14 = .ok (.i2l, 1) := by decide +kernel
theorem dd_M_entry_15 : decode cd_M_entry 15 = .ok (.lconst 1, 1) := by decide +kernel
theorem dd_M_entry_16 : decode cd_M_entry 16 = .ok (.ldc2_w 72, 3) := by decide +kernel
theorem dd_M_entry_19 : decode cd_M_entry 19 = .ok (.invokestatic 65, 3) := by decide +kernel
theorem dd_M_entry_22 : decode cd_M_entry 22 = .ok (.ifCond .eq 15, 3) := by decide +kernel
theorem dd_M_entry_25 : decode cd_M_entry 25 = .ok (.iload_n 3, 1) := by decide +kernel
theorem dd_M_entry_26 : decode cd_M_entry 26 = .ok (.i2l, 1) := by decide +kernel
theorem dd_M_entry_27 : decode cd_M_entry 27 = .ok (.lconst 1, 1) := by decide +kernel
theorem dd_M_entry_28 : decode cd_M_entry 28 = .ok (.ldc2_w 63, 3) := by decide +kernel
theorem dd_M_entry_31 : decode cd_M_entry 31 = .ok (.invokestatic 65, 3) := by decide +kernel
theorem dd_M_entry_34 : decode cd_M_entry 34 = .ok (.ifCond .ne 7, 3) := by decide +kernel
theorem dd_M_entry_37 : decode cd_M_entry 37 = .ok (.iconst 1, 1) := by decide +kernel
theorem dd_M_entry_38 : decode cd_M_entry 38 = .ok (.goto 17, 3) := by decide +kernel
theorem dd_M_entry_41 : decode cd_M_entry 41 = .ok (.aload_n 0, 1) := by decide +kernel
theorem dd_M_entry_42 : decode cd_M_entry 42 = .ok (.getfield 83, 3) := by decide +kernel
theorem dd_M_entry_45 : decode cd_M_entry 45 = .ok (.bipush 20, 2) := by decide +kernel
theorem dd_M_entry_47 : decode cd_M_entry 47 = .ok (.if_icmp .ne 7, 3) := by decide +kernel
theorem dd_M_entry_50 : decode cd_M_entry 50 = .ok (.iconst 2, 1) := by decide +kernel
theorem dd_M_entry_51 : decode cd_M_entry 51 = .ok (.goto 4, 3) := by decide +kernel
theorem dd_M_entry_54 : decode cd_M_entry 54 = .ok (.iconst 0, 1) := by decide +kernel
theorem dd_M_entry_55 : decode cd_M_entry 55 = .ok (.putfield 51, 3) := by decide +kernel
theorem dd_M_entry_58 : decode cd_M_entry 58 = .ok (.aload_n 0, 1) := by decide +kernel
theorem dd_M_entry_59 : decode cd_M_entry 59 = .ok (.getfield 51, 3) := by decide +kernel
theorem dd_M_entry_62 : decode cd_M_entry 62 = .ok (.ifCond .le 5, 3) := by decide +kernel
theorem dd_M_entry_65 : decode cd_M_entry 65 = .ok (.iconst 0, 1) := by decide +kernel
theorem dd_M_entry_66 : decode cd_M_entry 66 = .ok (.ireturn, 1) := by decide +kernel
theorem dd_M_entry_67 : decode cd_M_entry 67 = .ok (.aload_n 0, 1) := by decide +kernel
theorem dd_M_entry_68 : decode cd_M_entry 68 = .ok (.getfield 35, 3) := by decide +kernel
theorem dd_M_entry_71 : decode cd_M_entry 71 = .ok (.aload_n 0, 1) := by decide +kernel
theorem dd_M_entry_72 : decode cd_M_entry 72 = .ok (.getfield 83, 3) := by decide +kernel
theorem dd_M_entry_75 : decode cd_M_entry 75 = .ok (.iload_n 1, 1) := by decide +kernel
theorem dd_M_entry_76 : decode cd_M_entry 76 = .ok (.iastore, 1) := by decide +kernel
theorem dd_M_entry_77 : decode cd_M_entry 77 = .ok (.aload_n 0, 1) := by decide +kernel
theorem dd_M_entry_78 : decode cd_M_entry 78 = .ok (.getfield 38, 3) := by decide +kernel
theorem dd_M_entry_81 : decode cd_M_entry 81 = .ok (.aload_n 0, 1) := by decide +kernel
theorem dd_M_entry_82 : decode cd_M_entry 82 = .ok (.getfield 83, 3) := by decide +kernel
theorem dd_M_entry_85 : decode cd_M_entry 85 = .ok (.iload_n 2, 1) := by decide +kernel
theorem dd_M_entry_86 : decode cd_M_entry 86 = .ok (.iastore, 1) := by decide +kernel
theorem dd_M_entry_87 : decode cd_M_entry 87 = .ok (.aload_n 0, 1) := by decide +kernel
theorem dd_M_entry_88 : decode cd_M_entry 88 = .ok (.getfield 41, 3) := by decide +kernel
theorem dd_M_entry_91 : decode cd_M_entry 91 = .ok (.aload_n 0, 1) := by decide +kernel
theorem dd_M_entry_92 : decode cd_M_entry 92 = .ok (.getfield 83, 3) := by decide +kernel
theorem dd_M_entry_95 : decode cd_M_entry 95 = .ok (.iload_n 3, 1) := by decide +kernel
theorem dd_M_entry_96 : decode cd_M_entry 96 = .ok (.iastore, 1) := by decide +kernel
theorem dd_M_entry_97 : decode cd_M_entry 97 = .ok (.aload_n 0, 1) := by decide +kernel
theorem dd_M_entry_98 : decode cd_M_entry 98 = .ok (.dup, 1) := by decide +kernel
theorem dd_M_entry_99 : decode cd_M_entry 99 = .ok (.getfield 83, 3) := by decide +kernel
theorem dd_M_entry_102 : decode cd_M_entry 102 = .ok (.iconst 1, 1) := by decide +kernel
theorem dd_M_entry_103 : decode cd_M_entry 103 = .ok (.iadd, 1) := by decide +kernel
theorem dd_M_entry_104 : decode cd_M_entry 104 = .ok (.putfield 83, 3) := by decide +kernel
theorem dd_M_entry_107 : decode cd_M_entry 107 = .ok (.aload_n 0, 1) := by decide +kernel
theorem dd_M_entry_108 : decode cd_M_entry 108 = .ok (.getfield 83, 3) := by decide +kernel
theorem dd_M_entry_111 : decode cd_M_entry 111 = .ok (.iconst 1, 1) := by decide +kernel
theorem dd_M_entry_112 : decode cd_M_entry 112 = .ok (.isub, 1) := by decide +kernel
theorem dd_M_entry_113 : decode cd_M_entry 113 = .ok (.ireturn, 1) := by decide +kernel
theorem dd_M_many_0 : decode cd_M_many 0 = .ok (.aload_n 0, 1) := by decide +kernel
theorem dd_M_many_1 : decode cd_M_many 1 = .ok (.aload_n 0, 1) := by decide +kernel
theorem dd_M_many_2 : decode cd_M_many 2 = .ok (.iload_n 1, 1) := by decide +kernel
theorem dd_M_many_3 : decode cd_M_many 3 = .ok (.iload_n 2, 1) := by decide +kernel
theorem dd_M_many_4 : decode cd_M_many 4 = .ok (.invokevirtual 77, 3) := by decide +kernel
theorem dd_M_many_7 : decode cd_M_many 7 = .ok (.ifCond .eq 7, 3) := by decide +kernel
theorem dd_M_many_10 : decode cd_M_many 10 = .ok (.iconst 1, 1) := by decide +kernel
theorem dd_M_many_11 : decode cd_M_many 11 = .ok (.goto 4, 3) := by decide +kernel
theorem dd_M_many_14 : decode cd_M_many 14 = .ok (.iconst 0, 1) := by decide +kernel
theorem dd_M_many_15 : decode cd_M_many 15 = .ok (.putfield 51, 3) := by decide +kernel
theorem dd_M_many_18 : decode cd_M_many 18 = .ok (.aload_n 0, 1) := by decide +kernel
theorem dd_M_many_19 : decode cd_M_many 19 = .ok (.getfield 51, 3) := by decide +kernel
theorem dd_M_many_22 : decode cd_M_many 22 = .ok (.ifCond .le 7, 3) := by decide +kernel
theorem dd_M_many_25 : decode cd_M_many 25 = .ok (.iconst 0, 1) := by decide +kernel
theorem dd_M_many_26 : decode cd_M_many 26 = .ok (.goto 9, 3) := by decide +kernel
theorem dd_M_many_29 : decode cd_M_many 29 = .ok (.aload_n 0, 1) := by decide +kernel
theorem dd_M_many_30 : decode cd_M_many 30 = .ok (.iload_n 1, 1) := by decide +kernel
theorem dd_M_many_31 : decode cd_M_many 31 = .ok (.iload_n 2, 1) := by decide +kernel
theorem dd_M_many_32 : decode cd_M_many 32 = .ok (.invokevirtual 89, 3) := by decide +kernel
theorem dd_M_many_35 : decode cd_M_many 35 = .ok (.ireturn, 1) := by decide +kernel
theorem dd_M_carries_0 : decode cd_M_carries 0 = .ok (.iconst 0, 1) := by decide +kernel
theorem dd_M_carries_1 : decode cd_M_carries 1 = .ok (.istore_n 3, 1) := by decide +kernel
theorem dd_M_carries_2 : decode cd_M_carries 2 = .ok (.iload_n 1, 1) := by decide +kernel
theorem dd_M_carries_3 : decode cd_M_carries 3 = .ok (.istore 4, 2) := by decide +kernel
theorem dd_M_carries_5 : decode cd_M_carries 5 = .ok (.iload 4, 2) := by decide +kernel
theorem dd_M_carries_7 : decode cd_M_carries 7 = .ok (.aload_n 0, 1) := by decide +kernel
theorem dd_M_carries_8 : decode cd_M_carries 8 = .ok (.getfield 74, 3) := by decide +kernel
theorem dd_M_carries_11 : decode cd_M_carries 11 = .ok (.if_icmp .ge 38, 3) := by decide +kernel
theorem dd_M_carries_14 : decode cd_M_carries 14 = .ok (.aload_n 0, 1) := by decide +kernel
theorem dd_M_carries_15 : decode cd_M_carries 15 = .ok (.iload 4, 2) := by decide +kernel
theorem dd_M_carries_17 : decode cd_M_carries 17 = .ok (.iload_n 1, 1) := by decide +kernel
theorem dd_M_carries_18 : decode cd_M_carries 18 = .ok (.invokevirtual 86, 3) := by decide +kernel
theorem dd_M_carries_21 : decode cd_M_carries 21 = .ok (.ifCond .eq 20, 3) := by decide +kernel
theorem dd_M_carries_24 : decode cd_M_carries 24 = .ok (.iload_n 3, 1) := by decide +kernel
theorem dd_M_carries_25 : decode cd_M_carries 25 = .ok (.aload_n 0, 1) := by decide +kernel
theorem dd_M_carries_26 : decode cd_M_carries 26 = .ok (.getfield 25, 3) := by decide +kernel
theorem dd_M_carries_29 : decode cd_M_carries 29 = .ok (.bipush 8, 2) := by decide +kernel
theorem dd_M_carries_31 : decode cd_M_carries 31 = .ok (.iload 4, 2) := by decide +kernel
theorem dd_M_carries_33 : decode cd_M_carries 33 = .ok (.imul, 1) := by decide +kernel
theorem dd_M_carries_34 : decode cd_M_carries 34 = .ok (.iload_n 2, 1) := by decide +kernel
theorem dd_M_carries_35 : decode cd_M_carries 35 = .ok (.iadd, 1) := by decide +kernel
theorem dd_M_carries_36 : decode cd_M_carries 36 = .ok (.iaload, 1) := by decide +kernel
theorem dd_M_carries_37 : decode cd_M_carries 37 = .ok (.iadd, 1) := by decide +kernel
theorem dd_M_carries_38 : decode cd_M_carries 38 = .ok (.goto 4, 3) := by decide +kernel
theorem dd_M_carries_41 : decode cd_M_carries 41 = .ok (.iload_n 3, 1) := by decide +kernel
theorem dd_M_carries_42 : decode cd_M_carries 42 = .ok (.istore_n 3, 1) := by decide +kernel
theorem dd_M_carries_43 : decode cd_M_carries 43 = .ok (.iinc 4 1, 3) := by decide +kernel
theorem dd_M_carries_46 : decode cd_M_carries 46 = .ok (.goto (-41), 3) := by decide +kernel
theorem dd_M_carries_49 : decode cd_M_carries 49 = .ok (.iload_n 3, 1) := by decide +kernel
theorem dd_M_carries_50 : decode cd_M_carries 50 = .ok (.ireturn, 1) := by decide +kernel
theorem dd_M_hangs_0 : decode cd_M_hangs 0 = .ok (.iload_n 1, 1) := by decide +kernel
theorem dd_M_hangs_1 : decode cd_M_hangs 1 = .ok (.istore_n 3, 1) := by decide +kernel
theorem dd_M_hangs_2 : decode cd_M_hangs 2 = .ok (.iload_n 3, 1) := by decide +kernel
theorem dd_M_hangs_3 : decode cd_M_hangs 3 = .ok (.iload_n 2, 1) := by decide +kernel
theorem dd_M_hangs_4 : decode cd_M_hangs 4 = .ok (.if_icmp .le 13, 3) := by decide +kernel
theorem dd_M_hangs_7 : decode cd_M_hangs 7 = .ok (.aload_n 0, 1) := by decide +kernel
theorem dd_M_hangs_8 : decode cd_M_hangs 8 = .ok (.getfield 19, 3) := by decide +kernel
theorem dd_M_hangs_11 : decode cd_M_hangs 11 = .ok (.iload_n 3, 1) := by decide +kernel
theorem dd_M_hangs_12 : decode cd_M_hangs 12 = .ok (.iaload, 1) := by decide +kernel
theorem dd_M_hangs_13 : decode cd_M_hangs 13 = .ok (.istore_n 3, 1) := by decide +kernel
theorem dd_M_hangs_14 : decode cd_M_hangs 14 = .ok (.goto (-12), 3) := by decide +kernel
theorem dd_M_hangs_17 : decode cd_M_hangs 17 = .ok (.iload_n 3, 1) := by decide +kernel
theorem dd_M_hangs_18 : decode cd_M_hangs 18 = .ok (.iload_n 2, 1) := by decide +kernel
theorem dd_M_hangs_19 : decode cd_M_hangs 19 = .ok (.if_icmp .ne 7, 3) := by decide +kernel
theorem dd_M_hangs_22 : decode cd_M_hangs 22 = .ok (.iconst 1, 1) := by decide +kernel
theorem dd_M_hangs_23 : decode cd_M_hangs 23 = .ok (.goto 4, 3) := by decide +kernel
theorem dd_M_hangs_26 : decode cd_M_hangs 26 = .ok (.iconst 0, 1) := by decide +kernel
theorem dd_M_hangs_27 : decode cd_M_hangs 27 = .ok (.ireturn, 1) := by decide +kernel
theorem dd_M_count_0 : decode cd_M_count 0 = .ok (.aload_n 0, 1) := by decide +kernel
theorem dd_M_count_1 : decode cd_M_count 1 = .ok (.aload_n 0, 1) := by decide +kernel
theorem dd_M_count_2 : decode cd_M_count 2 = .ok (.iload_n 1, 1) := by decide +kernel
theorem dd_M_count_3 : decode cd_M_count 3 = .ok (.iload_n 2, 1) := by decide +kernel
theorem dd_M_count_4 : decode cd_M_count 4 = .ok (.invokevirtual 77, 3) := by decide +kernel
theorem dd_M_count_7 : decode cd_M_count 7 = .ok (.ifCond .eq 7, 3) := by decide +kernel
theorem dd_M_count_10 : decode cd_M_count 10 = .ok (.iconst 1, 1) := by decide +kernel
theorem dd_M_count_11 : decode cd_M_count 11 = .ok (.goto 4, 3) := by decide +kernel
theorem dd_M_count_14 : decode cd_M_count 14 = .ok (.iconst 0, 1) := by decide +kernel
theorem dd_M_count_15 : decode cd_M_count 15 = .ok (.putfield 51, 3) := by decide +kernel
theorem dd_M_count_18 : decode cd_M_count 18 = .ok (.aload_n 0, 1) := by decide +kernel
theorem dd_M_count_19 : decode cd_M_count 19 = .ok (.getfield 51, 3) := by decide +kernel
theorem dd_M_count_22 : decode cd_M_count 22 = .ok (.ifCond .le 7, 3) := by decide +kernel
theorem dd_M_count_25 : decode cd_M_count 25 = .ok (.iconst 0, 1) := by decide +kernel
theorem dd_M_count_26 : decode cd_M_count 26 = .ok (.goto 14, 3) := by decide +kernel
theorem dd_M_count_29 : decode cd_M_count 29 = .ok (.aload_n 0, 1) := by decide +kernel
theorem dd_M_count_30 : decode cd_M_count 30 = .ok (.iload_n 2, 1) := by decide +kernel
theorem dd_M_count_31 : decode cd_M_count 31 = .ok (.aload_n 0, 1) := by decide +kernel
theorem dd_M_count_32 : decode cd_M_count 32 = .ok (.iload_n 1, 1) := by decide +kernel
theorem dd_M_count_33 : decode cd_M_count 33 = .ok (.iload_n 2, 1) := by decide +kernel
theorem dd_M_count_34 : decode cd_M_count 34 = .ok (.invokevirtual 89, 3) := by decide +kernel
theorem dd_M_count_37 : decode cd_M_count 37 = .ok (.invokevirtual 115, 3) := by decide +kernel
theorem dd_M_count_40 : decode cd_M_count 40 = .ok (.ireturn, 1) := by decide +kernel
theorem dd_M_countOf_0 : decode cd_M_countOf 0 = .ok (.bipush 61, 2) := by decide +kernel
theorem dd_M_countOf_2 : decode cd_M_countOf 2 = .ok (.iload_n 1, 1) := by decide +kernel
theorem dd_M_countOf_3 : decode cd_M_countOf 3 = .ok (.imul, 1) := by decide +kernel
theorem dd_M_countOf_4 : decode cd_M_countOf 4 = .ok (.iload_n 2, 1) := by decide +kernel
theorem dd_M_countOf_5 : decode cd_M_countOf 5 = .ok (.iadd, 1) := by decide +kernel
theorem dd_M_countOf_6 : decode cd_M_countOf 6 = .ok (.istore_n 3, 1) := by decide +kernel
theorem dd_M_countOf_7 : decode cd_M_countOf 7 = .ok (.aload_n 0, 1) := by decide +kernel
theorem dd_M_countOf_8 : decode cd_M_countOf 8 = .ok (.getfield 48, 3) := by decide +kernel
theorem dd_M_countOf_11 : decode cd_M_countOf 11 = .ok (.iload_n 3, 1) := by decide +kernel
theorem dd_M_countOf_12 : decode cd_M_countOf 12 = .ok (.iaload, 1) := by decide +kernel
theorem dd_M_countOf_13 : decode cd_M_countOf 13 = .ok (.ifCond .le 12, 3) := by decide +kernel
theorem dd_M_countOf_16 : decode cd_M_countOf 16 = .ok (.aload_n 0, 1) := by decide +kernel
theorem dd_M_countOf_17 : decode cd_M_countOf 17 = .ok (.getfield 48, 3) := by decide +kernel
theorem dd_M_countOf_20 : decode cd_M_countOf 20 = .ok (.iload_n 3, 1) := by decide +kernel
theorem dd_M_countOf_21 : decode cd_M_countOf 21 = .ok (.iaload, 1) := by decide +kernel
theorem dd_M_countOf_22 : decode cd_M_countOf 22 = .ok (.iconst 1, 1) := by decide +kernel
theorem dd_M_countOf_23 : decode cd_M_countOf 23 = .ok (.isub, 1) := by decide +kernel
theorem dd_M_countOf_24 : decode cd_M_countOf 24 = .ok (.ireturn, 1) := by decide +kernel
theorem dd_M_countOf_25 : decode cd_M_countOf 25 = .ok (.aload_n 0, 1) := by decide +kernel
theorem dd_M_countOf_26 : decode cd_M_countOf 26 = .ok (.bipush 120, 2) := by decide +kernel
theorem dd_M_countOf_28 : decode cd_M_countOf 28 = .ok (.aload_n 0, 1) := by decide +kernel
theorem dd_M_countOf_29 : decode cd_M_countOf 29 = .ok (.getfield 16, 3) := by decide +kernel
theorem dd_M_countOf_32 : decode cd_M_countOf 32 = .ok (.iload_n 1, 1) := by decide +kernel
theorem dd_M_countOf_33 : decode cd_M_countOf 33 = .ok (.iaload, 1) := by decide +kernel
theorem dd_M_countOf_34 : decode cd_M_countOf 34 = .ok (.i2l, 1) := by decide +kernel
theorem dd_M_countOf_35 : decode cd_M_countOf 35 = .ok (.iload_n 2, 1) := by decide +kernel
theorem dd_M_countOf_36 : decode cd_M_countOf 36 = .ok (.invokevirtual 97, 3) := by decide +kernel
theorem dd_M_countOf_39 : decode cd_M_countOf 39 = .ok (.aload_n 0, 1) := by decide +kernel
theorem dd_M_countOf_40 : decode cd_M_countOf 40 = .ok (.iconst 0, 1) := by decide +kernel
theorem dd_M_countOf_41 : decode cd_M_countOf 41 = .ok (.aload_n 0, 1) := by decide +kernel
theorem dd_M_countOf_42 : decode cd_M_countOf 42 = .ok (.getfield 13, 3) := by decide +kernel
theorem dd_M_countOf_45 : decode cd_M_countOf 45 = .ok (.iload_n 1, 1) := by decide +kernel
theorem dd_M_countOf_46 : decode cd_M_countOf 46 = .ok (.iaload, 1) := by decide +kernel
theorem dd_M_countOf_47 : decode cd_M_countOf 47 = .ok (.i2l, 1) := by decide +kernel
theorem dd_M_countOf_48 : decode cd_M_countOf 48 = .ok (.iload_n 2, 1) := by decide +kernel
theorem dd_M_countOf_49 : decode cd_M_countOf 49 = .ok (.invokevirtual 97, 3) := by decide +kernel
theorem dd_M_countOf_52 : decode cd_M_countOf 52 = .ok (.aload_n 0, 1) := by decide +kernel
theorem dd_M_countOf_53 : decode cd_M_countOf 53 = .ok (.bipush 60, 2) := by decide +kernel
theorem dd_M_countOf_55 : decode cd_M_countOf 55 = .ok (.lconst 0, 1) := by decide +kernel
theorem dd_M_countOf_56 : decode cd_M_countOf 56 = .ok (.invokevirtual 56, 3) := by decide +kernel
theorem dd_M_countOf_59 : decode cd_M_countOf 59 = .ok (.aload_n 0, 1) := by decide +kernel
theorem dd_M_countOf_60 : decode cd_M_countOf 60 = .ok (.bipush 120, 2) := by decide +kernel
theorem dd_M_countOf_62 : decode cd_M_countOf 62 = .ok (.sipush 240, 3) := by decide +kernel
theorem dd_M_countOf_65 : decode cd_M_countOf 65 = .ok (.invokevirtual 101, 3) := by decide +kernel
theorem dd_M_countOf_68 : decode cd_M_countOf 68 = .ok (.aload_n 0, 1) := by decide +kernel
theorem dd_M_countOf_69 : decode cd_M_countOf 69 = .ok (.sipush 240, 3) := by decide +kernel
theorem dd_M_countOf_72 : decode cd_M_countOf 72 = .ok (.aload_n 0, 1) := by decide +kernel
theorem dd_M_countOf_73 : decode cd_M_countOf 73 = .ok (.getfield 28, 3) := by decide +kernel
theorem dd_M_countOf_76 : decode cd_M_countOf 76 = .ok (.i2l, 1) := by decide +kernel
theorem dd_M_countOf_77 : decode cd_M_countOf 77 = .ok (.invokevirtual 60, 3) := by decide +kernel
theorem dd_M_countOf_80 : decode cd_M_countOf 80 = .ok (.iload_n 2, 1) := by decide +kernel
theorem dd_M_countOf_81 : decode cd_M_countOf 81 = .ok (.istore 4, 2) := by decide +kernel
theorem dd_M_countOf_83 : decode cd_M_countOf 83 = .ok (.iload_n 2, 1) := by decide +kernel
theorem dd_M_countOf_84 : decode cd_M_countOf 84 = .ok (.iconst 1, 1) := by decide +kernel
theorem dd_M_countOf_85 : decode cd_M_countOf 85 = .ok (.isub, 1) := by decide +kernel
theorem dd_M_countOf_86 : decode cd_M_countOf 86 = .ok (.istore 5, 2) := by decide +kernel
theorem dd_M_countOf_88 : decode cd_M_countOf 88 = .ok (.iload 5, 2) := by decide +kernel
theorem dd_M_countOf_90 : decode cd_M_countOf 90 = .ok (.ifCond .lt 76, 3) := by decide +kernel
theorem dd_M_countOf_93 : decode cd_M_countOf 93 = .ok (.aload_n 0, 1) := by decide +kernel
theorem dd_M_countOf_94 : decode cd_M_countOf 94 = .ok (.iconst 0, 1) := by decide +kernel
theorem dd_M_countOf_95 : decode cd_M_countOf 95 = .ok (.bipush 60, 2) := by decide +kernel
theorem dd_M_countOf_97 : decode cd_M_countOf 97 = .ok (.invokevirtual 105, 3) := by decide +kernel
theorem dd_M_countOf_100 : decode cd_M_countOf 100 = .ok (.aload_n 0, 1) := by decide +kernel
theorem dd_M_countOf_101 : decode cd_M_countOf 101 = .ok (.bipush 60, 2) := by decide +kernel
theorem dd_M_countOf_103 : decode cd_M_countOf 103 = .ok (.sipush 180, 3) := by decide +kernel
theorem dd_M_countOf_106 : decode cd_M_countOf 106 = .ok (.invokevirtual 101, 3) := by decide +kernel
theorem dd_M_countOf_109 : decode cd_M_countOf 109 = .ok (.aload_n 0, 1) := by decide +kernel
theorem dd_M_countOf_110 : decode cd_M_countOf 110 = .ok (.sipush 180, 3) := by decide +kernel
theorem dd_M_countOf_113 : decode cd_M_countOf 113 = .ok (.aload_n 0, 1) := by decide +kernel
theorem dd_M_countOf_114 : decode cd_M_countOf 114 = .ok (.getfield 32, 3) := by decide +kernel
theorem dd_M_countOf_117 : decode cd_M_countOf 117 = .ok (.i2l, 1) := by decide +kernel
theorem dd_M_countOf_118 : decode cd_M_countOf 118 = .ok (.invokevirtual 60, 3) := by decide +kernel
theorem dd_M_countOf_121 : decode cd_M_countOf 121 = .ok (.iload 4, 2) := by decide +kernel
theorem dd_M_countOf_123 : decode cd_M_countOf 123 = .ok (.iload 5, 2) := by decide +kernel
theorem dd_M_countOf_125 : decode cd_M_countOf 125 = .ok (.iconst 1, 1) := by decide +kernel
theorem dd_M_countOf_126 : decode cd_M_countOf 126 = .ok (.iadd, 1) := by decide +kernel
theorem dd_M_countOf_127 : decode cd_M_countOf 127 = .ok (.if_icmp .ne 21, 3) := by decide +kernel
theorem dd_M_countOf_130 : decode cd_M_countOf 130 = .ok (.aload_n 0, 1) := by decide +kernel
theorem dd_M_countOf_131 : decode cd_M_countOf 131 = .ok (.sipush 180, 3) := by decide +kernel
theorem dd_M_countOf_134 : decode cd_M_countOf 134 = .ok (.sipush 240, 3) := by decide +kernel
theorem dd_M_countOf_137 : decode cd_M_countOf 137 = .ok (.invokevirtual 108, 3) := by decide +kernel
theorem dd_M_countOf_140 : decode cd_M_countOf 140 = .ok (.ifCond .ne 8, 3) := by decide +kernel
theorem dd_M_countOf_143 : decode cd_M_countOf 143 = .ok (.iload 5, 2) := by decide +kernel
theorem dd_M_countOf_145 : decode cd_M_countOf 145 = .ok (.goto 5, 3) := by decide +kernel
theorem dd_M_countOf_148 : decode cd_M_countOf 148 = .ok (.iload 4, 2) := by decide +kernel
theorem dd_M_countOf_150 : decode cd_M_countOf 150 = .ok (.istore 4, 2) := by decide +kernel
theorem dd_M_countOf_152 : decode cd_M_countOf 152 = .ok (.aload_n 0, 1) := by decide +kernel
theorem dd_M_countOf_153 : decode cd_M_countOf 153 = .ok (.iload_n 1, 1) := by decide +kernel
theorem dd_M_countOf_154 : decode cd_M_countOf 154 = .ok (.iload_n 2, 1) := by decide +kernel
theorem dd_M_countOf_155 : decode cd_M_countOf 155 = .ok (.iload 5, 2) := by decide +kernel
theorem dd_M_countOf_157 : decode cd_M_countOf 157 = .ok (.invokevirtual 111, 3) := by decide +kernel
theorem dd_M_countOf_160 : decode cd_M_countOf 160 = .ok (.iinc 5 (-1), 3) := by decide +kernel
theorem dd_M_countOf_163 : decode cd_M_countOf 163 = .ok (.goto (-75), 3) := by decide +kernel
theorem dd_M_countOf_166 : decode cd_M_countOf 166 = .ok (.aload_n 0, 1) := by decide +kernel
theorem dd_M_countOf_167 : decode cd_M_countOf 167 = .ok (.getfield 48, 3) := by decide +kernel
theorem dd_M_countOf_170 : decode cd_M_countOf 170 = .ok (.iload_n 3, 1) := by decide +kernel
theorem dd_M_countOf_171 : decode cd_M_countOf 171 = .ok (.iload 4, 2) := by decide +kernel
theorem dd_M_countOf_173 : decode cd_M_countOf 173 = .ok (.iconst 1, 1) := by decide +kernel
theorem dd_M_countOf_174 : decode cd_M_countOf 174 = .ok (.iadd, 1) := by decide +kernel
theorem dd_M_countOf_175 : decode cd_M_countOf 175 = .ok (.iastore, 1) := by decide +kernel
theorem dd_M_countOf_176 : decode cd_M_countOf 176 = .ok (.iload 4, 2) := by decide +kernel
theorem dd_M_countOf_178 : decode cd_M_countOf 178 = .ok (.ireturn, 1) := by decide +kernel
theorem dd_M_power_0 : decode cd_M_power 0 = .ok (.aload_n 0, 1) := by decide +kernel
theorem dd_M_power_1 : decode cd_M_power 1 = .ok (.iload_n 1, 1) := by decide +kernel
theorem dd_M_power_2 : decode cd_M_power 2 = .ok (.lconst 1, 1) := by decide +kernel
theorem dd_M_power_3 : decode cd_M_power 3 = .ok (.invokevirtual 56, 3) := by decide +kernel
theorem dd_M_power_6 : decode cd_M_power 6 = .ok (.iconst 0, 1) := by decide +kernel
theorem dd_M_power_7 : decode cd_M_power 7 = .ok (.istore 5, 2) := by decide +kernel
theorem dd_M_power_9 : decode cd_M_power 9 = .ok (.iload 5, 2) := by decide +kernel
theorem dd_M_power_11 : decode cd_M_power 11 = .ok (.iload 4, 2) := by decide +kernel
theorem dd_M_power_13 : decode cd_M_power 13 = .ok (.if_icmp .ge 15, 3) := by decide +kernel
theorem dd_M_power_16 : decode cd_M_power 16 = .ok (.aload_n 0, 1) := by decide +kernel
theorem dd_M_power_17 : decode cd_M_power 17 = .ok (.iload_n 1, 1) := by decide +kernel
theorem dd_M_power_18 : decode cd_M_power 18 = .ok (.lload_n 2, 1) := by decide +kernel
theorem dd_M_power_19 : decode cd_M_power 19 = .ok (.invokevirtual 60, 3) := by decide +kernel
theorem dd_M_power_22 : decode cd_M_power 22 = .ok (.iinc 5 1, 3) := by decide +kernel
theorem dd_M_power_25 : decode cd_M_power 25 = .ok (.goto (-16), 3) := by decide +kernel
theorem dd_M_power_28 : decode cd_M_power 28 = .ok (.return_, 1) := by decide +kernel
theorem dd_M_set_0 : decode cd_M_set 0 = .ok (.iconst 0, 1) := by decide +kernel
theorem dd_M_set_1 : decode cd_M_set 1 = .ok (.istore 4, 2) := by decide +kernel
theorem dd_M_set_3 : decode cd_M_set 3 = .ok (.iload 4, 2) := by decide +kernel
theorem dd_M_set_5 : decode cd_M_set 5 = .ok (.bipush 60, 2) := by decide +kernel
theorem dd_M_set_7 : decode cd_M_set 7 = .ok (.if_icmp .ge 28, 3) := by decide +kernel
theorem dd_M_set_10 : decode cd_M_set 10 = .ok (.aload_n 0, 1) := by decide +kernel
theorem dd_M_set_11 : decode cd_M_set 11 = .ok (.getfield 44, 3) := by decide +kernel
theorem dd_M_set_14 : decode cd_M_set 14 = .ok (.iload_n 1, 1) := by decide +kernel
theorem dd_M_set_15 : decode cd_M_set 15 = .ok (.iload 4, 2) := by decide +kernel
theorem dd_M_set_17 : decode cd_M_set 17 = .ok (.iadd, 1) := by decide +kernel
theorem dd_M_set_18 : decode cd_M_set 18 = .ok (.iload 4, 2) := by decide +kernel
theorem dd_M_set_20 : decode cd_M_set 20 = .ok (.ifCond .ne 7, 3) := by decide +kernel
theorem dd_M_set_23 : decode cd_M_set 23 = .ok (.lload_n 2, 1) := by decide +kernel
theorem dd_M_set_24 : decode cd_M_set 24 = .ok (.goto 4, 3) := by decide +kernel
theorem dd_M_set_27 : decode cd_M_set 27 = .ok (.lconst 0, 1) := by decide +kernel
theorem dd_M_set_28 : decode cd_M_set 28 = .ok (.lastore, 1) := by decide +kernel
theorem dd_M_set_29 : decode cd_M_set 29 = .ok (.iinc 4 1, 3) := by decide +kernel
theorem dd_M_set_32 : decode cd_M_set 32 = .ok (.goto (-29), 3) := by decide +kernel
theorem dd_M_set_35 : decode cd_M_set 35 = .ok (.return_, 1) := by decide +kernel
theorem dd_M_times_0 : decode cd_M_times 0 = .ok (.lconst 0, 1) := by decide +kernel
theorem dd_M_times_1 : decode cd_M_times 1 = .ok (.lstore 4, 2) := by decide +kernel
theorem dd_M_times_3 : decode cd_M_times 3 = .ok (.iconst 0, 1) := by decide +kernel
theorem dd_M_times_4 : decode cd_M_times 4 = .ok (.istore 6, 2) := by decide +kernel
theorem dd_M_times_6 : decode cd_M_times 6 = .ok (.iload 6, 2) := by decide +kernel
theorem dd_M_times_8 : decode cd_M_times 8 = .ok (.bipush 60, 2) := by decide +kernel
theorem dd_M_times_10 : decode cd_M_times 10 = .ok (.if_icmp .ge 48, 3) := by decide +kernel
theorem dd_M_times_13 : decode cd_M_times 13 = .ok (.aload_n 0, 1) := by decide +kernel
theorem dd_M_times_14 : decode cd_M_times 14 = .ok (.getfield 44, 3) := by decide +kernel
theorem dd_M_times_17 : decode cd_M_times 17 = .ok (.iload_n 1, 1) := by decide +kernel
theorem dd_M_times_18 : decode cd_M_times 18 = .ok (.iload 6, 2) := by decide +kernel
theorem dd_M_times_20 : decode cd_M_times 20 = .ok (.iadd, 1) := by decide +kernel
theorem dd_M_times_21 : decode cd_M_times 21 = .ok (.laload, 1) := by decide +kernel
theorem dd_M_times_22 : decode cd_M_times 22 = .ok (.lload_n 2, 1) := by decide +kernel
theorem dd_M_times_23 : decode cd_M_times 23 = .ok (.lmul, 1) := by decide +kernel
theorem dd_M_times_24 : decode cd_M_times 24 = .ok (.lload 4, 2) := by decide +kernel
theorem dd_M_times_26 : decode cd_M_times 26 = .ok (.ladd, 1) := by decide +kernel
theorem dd_M_times_27 : decode cd_M_times 27 = .ok (.lstore 7, 2) := by decide +kernel
theorem dd_M_times_29 : decode cd_M_times 29 = .ok (.aload_n 0, 1) := by decide +kernel
theorem dd_M_times_30 : decode cd_M_times 30 = .ok (.getfield 44, 3) := by decide +kernel
theorem dd_M_times_33 : decode cd_M_times 33 = .ok (.iload_n 1, 1) := by decide +kernel
theorem dd_M_times_34 : decode cd_M_times 34 = .ok (.iload 6, 2) := by decide +kernel
theorem dd_M_times_36 : decode cd_M_times 36 = .ok (.iadd, 1) := by decide +kernel
theorem dd_M_times_37 : decode cd_M_times 37 = .ok (.lload 7, 2) := by decide +kernel
theorem dd_M_times_39 : decode cd_M_times 39 = .ok (.ldc2_w 54, 3) := by decide +kernel
theorem dd_M_times_42 : decode cd_M_times 42 = .ok (.lrem, 1) := by decide +kernel
theorem dd_M_times_43 : decode cd_M_times 43 = .ok (.lastore, 1) := by decide +kernel
theorem dd_M_times_44 : decode cd_M_times 44 = .ok (.lload 7, 2) := by decide +kernel
theorem dd_M_times_46 : decode cd_M_times 46 = .ok (.ldc2_w 54, 3) := by decide +kernel
theorem dd_M_times_49 : decode cd_M_times 49 = .ok (.ldiv, 1) := by decide +kernel
theorem dd_M_times_50 : decode cd_M_times 50 = .ok (.lstore 4, 2) := by decide +kernel
theorem dd_M_times_52 : decode cd_M_times 52 = .ok (.iinc 6 1, 3) := by decide +kernel
theorem dd_M_times_55 : decode cd_M_times 55 = .ok (.goto (-49), 3) := by decide +kernel
theorem dd_M_times_58 : decode cd_M_times 58 = .ok (.return_, 1) := by decide +kernel
theorem dd_M_copy_0 : decode cd_M_copy 0 = .ok (.iconst 0, 1) := by decide +kernel
theorem dd_M_copy_1 : decode cd_M_copy 1 = .ok (.istore_n 3, 1) := by decide +kernel
theorem dd_M_copy_2 : decode cd_M_copy 2 = .ok (.iload_n 3, 1) := by decide +kernel
theorem dd_M_copy_3 : decode cd_M_copy 3 = .ok (.bipush 60, 2) := by decide +kernel
theorem dd_M_copy_5 : decode cd_M_copy 5 = .ok (.if_icmp .ge 25, 3) := by decide +kernel
theorem dd_M_copy_8 : decode cd_M_copy 8 = .ok (.aload_n 0, 1) := by decide +kernel
theorem dd_M_copy_9 : decode cd_M_copy 9 = .ok (.getfield 44, 3) := by decide +kernel
theorem dd_M_copy_12 : decode cd_M_copy 12 = .ok (.iload_n 2, 1) := by decide +kernel
theorem dd_M_copy_13 : decode cd_M_copy 13 = .ok (.iload_n 3, 1) := by decide +kernel
theorem dd_M_copy_14 : decode cd_M_copy 14 = .ok (.iadd, 1) := by decide +kernel
theorem dd_M_copy_15 : decode cd_M_copy 15 = .ok (.aload_n 0, 1) := by decide +kernel
theorem dd_M_copy_16 : decode cd_M_copy 16 = .ok (.getfield 44, 3) := by decide +kernel
theorem dd_M_copy_19 : decode cd_M_copy 19 = .ok (.iload_n 1, 1) := by decide +kernel
theorem dd_M_copy_20 : decode cd_M_copy 20 = .ok (.iload_n 3, 1) := by decide +kernel
theorem dd_M_copy_21 : decode cd_M_copy 21 = .ok (.iadd, 1) := by decide +kernel
theorem dd_M_copy_22 : decode cd_M_copy 22 = .ok (.laload, 1) := by decide +kernel
theorem dd_M_copy_23 : decode cd_M_copy 23 = .ok (.lastore, 1) := by decide +kernel
theorem dd_M_copy_24 : decode cd_M_copy 24 = .ok (.iinc 3 1, 3) := by decide +kernel
theorem dd_M_copy_27 : decode cd_M_copy 27 = .ok (.goto (-25), 3) := by decide +kernel
theorem dd_M_copy_30 : decode cd_M_copy 30 = .ok (.return_, 1) := by decide +kernel
theorem dd_M_add_0 : decode cd_M_add 0 = .ok (.lconst 0, 1) := by decide +kernel
theorem dd_M_add_1 : decode cd_M_add 1 = .ok (.lstore_n 3, 1) := by decide +kernel
theorem dd_M_add_2 : decode cd_M_add 2 = .ok (.iconst 0, 1) := by decide +kernel
theorem dd_M_add_3 : decode cd_M_add 3 = .ok (.istore 5, 2) := by decide +kernel
theorem dd_M_add_5 : decode cd_M_add 5 = .ok (.iload 5, 2) := by decide +kernel
theorem dd_M_add_7 : decode cd_M_add 7 = .ok (.bipush 60, 2) := by decide +kernel
theorem dd_M_add_9 : decode cd_M_add 9 = .ok (.if_icmp .ge 54, 3) := by decide +kernel
theorem dd_M_add_12 : decode cd_M_add 12 = .ok (.aload_n 0, 1) := by decide +kernel
theorem dd_M_add_13 : decode cd_M_add 13 = .ok (.getfield 44, 3) := by decide +kernel
theorem dd_M_add_16 : decode cd_M_add 16 = .ok (.iload_n 2, 1) := by decide +kernel
theorem dd_M_add_17 : decode cd_M_add 17 = .ok (.iload 5, 2) := by decide +kernel
theorem dd_M_add_19 : decode cd_M_add 19 = .ok (.iadd, 1) := by decide +kernel
theorem dd_M_add_20 : decode cd_M_add 20 = .ok (.laload, 1) := by decide +kernel
theorem dd_M_add_21 : decode cd_M_add 21 = .ok (.aload_n 0, 1) := by decide +kernel
theorem dd_M_add_22 : decode cd_M_add 22 = .ok (.getfield 44, 3) := by decide +kernel
theorem dd_M_add_25 : decode cd_M_add 25 = .ok (.iload_n 1, 1) := by decide +kernel
theorem dd_M_add_26 : decode cd_M_add 26 = .ok (.iload 5, 2) := by decide +kernel
theorem dd_M_add_28 : decode cd_M_add 28 = .ok (.iadd, 1) := by decide +kernel
theorem dd_M_add_29 : decode cd_M_add 29 = .ok (.laload, 1) := by decide +kernel
theorem dd_M_add_30 : decode cd_M_add 30 = .ok (.ladd, 1) := by decide +kernel
theorem dd_M_add_31 : decode cd_M_add 31 = .ok (.lload_n 3, 1) := by decide +kernel
theorem dd_M_add_32 : decode cd_M_add 32 = .ok (.ladd, 1) := by decide +kernel
theorem dd_M_add_33 : decode cd_M_add 33 = .ok (.lstore 6, 2) := by decide +kernel
theorem dd_M_add_35 : decode cd_M_add 35 = .ok (.aload_n 0, 1) := by decide +kernel
theorem dd_M_add_36 : decode cd_M_add 36 = .ok (.getfield 44, 3) := by decide +kernel
theorem dd_M_add_39 : decode cd_M_add 39 = .ok (.iload_n 2, 1) := by decide +kernel
theorem dd_M_add_40 : decode cd_M_add 40 = .ok (.iload 5, 2) := by decide +kernel
theorem dd_M_add_42 : decode cd_M_add 42 = .ok (.iadd, 1) := by decide +kernel
theorem dd_M_add_43 : decode cd_M_add 43 = .ok (.lload 6, 2) := by decide +kernel
theorem dd_M_add_45 : decode cd_M_add 45 = .ok (.ldc2_w 54, 3) := by decide +kernel
theorem dd_M_add_48 : decode cd_M_add 48 = .ok (.lrem, 1) := by decide +kernel
theorem dd_M_add_49 : decode cd_M_add 49 = .ok (.lastore, 1) := by decide +kernel
theorem dd_M_add_50 : decode cd_M_add 50 = .ok (.lload 6, 2) := by decide +kernel
theorem dd_M_add_52 : decode cd_M_add 52 = .ok (.ldc2_w 54, 3) := by decide +kernel
theorem dd_M_add_55 : decode cd_M_add 55 = .ok (.ldiv, 1) := by decide +kernel
theorem dd_M_add_56 : decode cd_M_add 56 = .ok (.lstore_n 3, 1) := by decide +kernel
theorem dd_M_add_57 : decode cd_M_add 57 = .ok (.iinc 5 1, 3) := by decide +kernel
theorem dd_M_add_60 : decode cd_M_add 60 = .ok (.goto (-55), 3) := by decide +kernel
theorem dd_M_add_63 : decode cd_M_add 63 = .ok (.return_, 1) := by decide +kernel
theorem dd_M_isAbove_0 : decode cd_M_isAbove 0 = .ok (.bipush 59, 2) := by decide +kernel
theorem dd_M_isAbove_2 : decode cd_M_isAbove 2 = .ok (.istore_n 3, 1) := by decide +kernel
theorem dd_M_isAbove_3 : decode cd_M_isAbove 3 = .ok (.iload_n 3, 1) := by decide +kernel
theorem dd_M_isAbove_4 : decode cd_M_isAbove 4 = .ok (.ifCond .lt 55, 3) := by decide +kernel
theorem dd_M_isAbove_7 : decode cd_M_isAbove 7 = .ok (.aload_n 0, 1) := by decide +kernel
theorem dd_M_isAbove_8 : decode cd_M_isAbove 8 = .ok (.getfield 44, 3) := by decide +kernel
theorem dd_M_isAbove_11 : decode cd_M_isAbove 11 = .ok (.iload_n 1, 1) := by decide +kernel
theorem dd_M_isAbove_12 : decode cd_M_isAbove 12 = .ok (.iload_n 3, 1) := by decide +kernel
theorem dd_M_isAbove_13 : decode cd_M_isAbove 13 = .ok (.iadd, 1) := by decide +kernel
theorem dd_M_isAbove_14 : decode cd_M_isAbove 14 = .ok (.laload, 1) := by decide +kernel
theorem dd_M_isAbove_15 : decode cd_M_isAbove 15 = .ok (.aload_n 0, 1) := by decide +kernel
theorem dd_M_isAbove_16 : decode cd_M_isAbove 16 = .ok (.getfield 44, 3) := by decide +kernel
theorem dd_M_isAbove_19 : decode cd_M_isAbove 19 = .ok (.iload_n 2, 1) := by decide +kernel
theorem dd_M_isAbove_20 : decode cd_M_isAbove 20 = .ok (.iload_n 3, 1) := by decide +kernel
theorem dd_M_isAbove_21 : decode cd_M_isAbove 21 = .ok (.iadd, 1) := by decide +kernel
theorem dd_M_isAbove_22 : decode cd_M_isAbove 22 = .ok (.laload, 1) := by decide +kernel
theorem dd_M_isAbove_23 : decode cd_M_isAbove 23 = .ok (.lcmp, 1) := by decide +kernel
theorem dd_M_isAbove_24 : decode cd_M_isAbove 24 = .ok (.ifCond .eq 29, 3) := by decide +kernel
theorem dd_M_isAbove_27 : decode cd_M_isAbove 27 = .ok (.aload_n 0, 1) := by decide +kernel
theorem dd_M_isAbove_28 : decode cd_M_isAbove 28 = .ok (.getfield 44, 3) := by decide +kernel
theorem dd_M_isAbove_31 : decode cd_M_isAbove 31 = .ok (.iload_n 1, 1) := by decide +kernel
theorem dd_M_isAbove_32 : decode cd_M_isAbove 32 = .ok (.iload_n 3, 1) := by decide +kernel
theorem dd_M_isAbove_33 : decode cd_M_isAbove 33 = .ok (.iadd, 1) := by decide +kernel
theorem dd_M_isAbove_34 : decode cd_M_isAbove 34 = .ok (.laload, 1) := by decide +kernel
theorem dd_M_isAbove_35 : decode cd_M_isAbove 35 = .ok (.aload_n 0, 1) := by decide +kernel
theorem dd_M_isAbove_36 : decode cd_M_isAbove 36 = .ok (.getfield 44, 3) := by decide +kernel
theorem dd_M_isAbove_39 : decode cd_M_isAbove 39 = .ok (.iload_n 2, 1) := by decide +kernel
theorem dd_M_isAbove_40 : decode cd_M_isAbove 40 = .ok (.iload_n 3, 1) := by decide +kernel
theorem dd_M_isAbove_41 : decode cd_M_isAbove 41 = .ok (.iadd, 1) := by decide +kernel
theorem dd_M_isAbove_42 : decode cd_M_isAbove 42 = .ok (.laload, 1) := by decide +kernel
theorem dd_M_isAbove_43 : decode cd_M_isAbove 43 = .ok (.lcmp, 1) := by decide +kernel
theorem dd_M_isAbove_44 : decode cd_M_isAbove 44 = .ok (.ifCond .le 7, 3) := by decide +kernel
theorem dd_M_isAbove_47 : decode cd_M_isAbove 47 = .ok (.iconst 1, 1) := by decide +kernel
theorem dd_M_isAbove_48 : decode cd_M_isAbove 48 = .ok (.goto 4, 3) := by decide +kernel
theorem dd_M_isAbove_51 : decode cd_M_isAbove 51 = .ok (.iconst 0, 1) := by decide +kernel
theorem dd_M_isAbove_52 : decode cd_M_isAbove 52 = .ok (.ireturn, 1) := by decide +kernel
theorem dd_M_isAbove_53 : decode cd_M_isAbove 53 = .ok (.iinc 3 (-1), 3) := by decide +kernel
theorem dd_M_isAbove_56 : decode cd_M_isAbove 56 = .ok (.goto (-53), 3) := by decide +kernel
theorem dd_M_isAbove_59 : decode cd_M_isAbove 59 = .ok (.iconst 0, 1) := by decide +kernel
theorem dd_M_isAbove_60 : decode cd_M_isAbove 60 = .ok (.ireturn, 1) := by decide +kernel
theorem dd_M_down_0 : decode cd_M_down 0 = .ok (.aload_n 0, 1) := by decide +kernel
theorem dd_M_down_1 : decode cd_M_down 1 = .ok (.iconst 0, 1) := by decide +kernel
theorem dd_M_down_2 : decode cd_M_down 2 = .ok (.iload_n 3, 1) := by decide +kernel
theorem dd_M_down_3 : decode cd_M_down 3 = .ok (.i2l, 1) := by decide +kernel
theorem dd_M_down_4 : decode cd_M_down 4 = .ok (.lconst 1, 1) := by decide +kernel
theorem dd_M_down_5 : decode cd_M_down 5 = .ok (.ladd, 1) := by decide +kernel
theorem dd_M_down_6 : decode cd_M_down 6 = .ok (.invokevirtual 60, 3) := by decide +kernel
theorem dd_M_down_9 : decode cd_M_down 9 = .ok (.aload_n 0, 1) := by decide +kernel
theorem dd_M_down_10 : decode cd_M_down 10 = .ok (.iconst 0, 1) := by decide +kernel
theorem dd_M_down_11 : decode cd_M_down 11 = .ok (.aload_n 0, 1) := by decide +kernel
theorem dd_M_down_12 : decode cd_M_down 12 = .ok (.getfield 16, 3) := by decide +kernel
theorem dd_M_down_15 : decode cd_M_down 15 = .ok (.iload_n 1, 1) := by decide +kernel
theorem dd_M_down_16 : decode cd_M_down 16 = .ok (.iaload, 1) := by decide +kernel
theorem dd_M_down_17 : decode cd_M_down 17 = .ok (.aload_n 0, 1) := by decide +kernel
theorem dd_M_down_18 : decode cd_M_down 18 = .ok (.getfield 13, 3) := by decide +kernel
theorem dd_M_down_21 : decode cd_M_down 21 = .ok (.iload_n 1, 1) := by decide +kernel
theorem dd_M_down_22 : decode cd_M_down 22 = .ok (.iaload, 1) := by decide +kernel
theorem dd_M_down_23 : decode cd_M_down 23 = .ok (.isub, 1) := by decide +kernel
theorem dd_M_down_24 : decode cd_M_down 24 = .ok (.i2l, 1) := by decide +kernel
theorem dd_M_down_25 : decode cd_M_down 25 = .ok (.invokevirtual 60, 3) := by decide +kernel
theorem dd_M_down_28 : decode cd_M_down 28 = .ok (.aload_n 0, 1) := by decide +kernel
theorem dd_M_down_29 : decode cd_M_down 29 = .ok (.iconst 0, 1) := by decide +kernel
theorem dd_M_down_30 : decode cd_M_down 30 = .ok (.iload_n 2, 1) := by decide +kernel
theorem dd_M_down_31 : decode cd_M_down 31 = .ok (.iload_n 3, 1) := by decide +kernel
theorem dd_M_down_32 : decode cd_M_down 32 = .ok (.isub, 1) := by decide +kernel
theorem dd_M_down_33 : decode cd_M_down 33 = .ok (.i2l, 1) := by decide +kernel
theorem dd_M_down_34 : decode cd_M_down 34 = .ok (.invokevirtual 93, 3) := by decide +kernel
theorem dd_M_down_37 : decode cd_M_down 37 = .ok (.lstore 4, 2) := by decide +kernel
theorem dd_M_down_39 : decode cd_M_down 39 = .ok (.aload_n 0, 1) := by decide +kernel
theorem dd_M_down_40 : decode cd_M_down 40 = .ok (.iconst 0, 1) := by decide +kernel
theorem dd_M_down_41 : decode cd_M_down 41 = .ok (.aload_n 0, 1) := by decide +kernel
theorem dd_M_down_42 : decode cd_M_down 42 = .ok (.getfield 13, 3) := by decide +kernel
theorem dd_M_down_45 : decode cd_M_down 45 = .ok (.iload_n 1, 1) := by decide +kernel
theorem dd_M_down_46 : decode cd_M_down 46 = .ok (.iaload, 1) := by decide +kernel
theorem dd_M_down_47 : decode cd_M_down 47 = .ok (.i2l, 1) := by decide +kernel
theorem dd_M_down_48 : decode cd_M_down 48 = .ok (.invokevirtual 93, 3) := by decide +kernel
theorem dd_M_down_51 : decode cd_M_down 51 = .ok (.lstore 4, 2) := by decide +kernel
theorem dd_M_down_53 : decode cd_M_down 53 = .ok (.return_, 1) := by decide +kernel
theorem dd_M_divide_0 : decode cd_M_divide 0 = .ok (.lconst 0, 1) := by decide +kernel
theorem dd_M_divide_1 : decode cd_M_divide 1 = .ok (.lstore 4, 2) := by decide +kernel
theorem dd_M_divide_3 : decode cd_M_divide 3 = .ok (.bipush 59, 2) := by decide +kernel
theorem dd_M_divide_5 : decode cd_M_divide 5 = .ok (.istore 6, 2) := by decide +kernel
theorem dd_M_divide_7 : decode cd_M_divide 7 = .ok (.iload 6, 2) := by decide +kernel
theorem dd_M_divide_9 : decode cd_M_divide 9 = .ok (.ifCond .lt 46, 3) := by decide +kernel
theorem dd_M_divide_12 : decode cd_M_divide 12 = .ok (.lload 4, 2) := by decide +kernel
theorem dd_M_divide_14 : decode cd_M_divide 14 = .ok (.ldc2_w 54, 3) := by decide +kernel
theorem dd_M_divide_17 : decode cd_M_divide 17 = .ok (.lmul, 1) := by decide +kernel
theorem dd_M_divide_18 : decode cd_M_divide 18 = .ok (.aload_n 0, 1) := by decide +kernel
theorem dd_M_divide_19 : decode cd_M_divide 19 = .ok (.getfield 44, 3) := by decide +kernel
theorem dd_M_divide_22 : decode cd_M_divide 22 = .ok (.iload_n 1, 1) := by decide +kernel
theorem dd_M_divide_23 : decode cd_M_divide 23 = .ok (.iload 6, 2) := by decide +kernel
theorem dd_M_divide_25 : decode cd_M_divide 25 = .ok (.iadd, 1) := by decide +kernel
theorem dd_M_divide_26 : decode cd_M_divide 26 = .ok (.laload, 1) := by decide +kernel
theorem dd_M_divide_27 : decode cd_M_divide 27 = .ok (.ladd, 1) := by decide +kernel
theorem dd_M_divide_28 : decode cd_M_divide 28 = .ok (.lstore 7, 2) := by decide +kernel
theorem dd_M_divide_30 : decode cd_M_divide 30 = .ok (.aload_n 0, 1) := by decide +kernel
theorem dd_M_divide_31 : decode cd_M_divide 31 = .ok (.getfield 44, 3) := by decide +kernel
theorem dd_M_divide_34 : decode cd_M_divide 34 = .ok (.iload_n 1, 1) := by decide +kernel
theorem dd_M_divide_35 : decode cd_M_divide 35 = .ok (.iload 6, 2) := by decide +kernel
theorem dd_M_divide_37 : decode cd_M_divide 37 = .ok (.iadd, 1) := by decide +kernel
theorem dd_M_divide_38 : decode cd_M_divide 38 = .ok (.lload 7, 2) := by decide +kernel
theorem dd_M_divide_40 : decode cd_M_divide 40 = .ok (.lload_n 2, 1) := by decide +kernel
theorem dd_M_divide_41 : decode cd_M_divide 41 = .ok (.ldiv, 1) := by decide +kernel
theorem dd_M_divide_42 : decode cd_M_divide 42 = .ok (.lastore, 1) := by decide +kernel
theorem dd_M_divide_43 : decode cd_M_divide 43 = .ok (.lload 7, 2) := by decide +kernel
theorem dd_M_divide_45 : decode cd_M_divide 45 = .ok (.lload_n 2, 1) := by decide +kernel
theorem dd_M_divide_46 : decode cd_M_divide 46 = .ok (.lrem, 1) := by decide +kernel
theorem dd_M_divide_47 : decode cd_M_divide 47 = .ok (.lstore 4, 2) := by decide +kernel
theorem dd_M_divide_49 : decode cd_M_divide 49 = .ok (.iinc 6 (-1), 3) := by decide +kernel
theorem dd_M_divide_52 : decode cd_M_divide 52 = .ok (.goto (-45), 3) := by decide +kernel
theorem dd_M_divide_55 : decode cd_M_divide 55 = .ok (.lload 4, 2) := by decide +kernel
theorem dd_M_divide_57 : decode cd_M_divide 57 = .ok (.lreturn, 1) := by decide +kernel
theorem dd_M_write_0 : decode cd_M_write 0 = .ok (.aload_n 0, 1) := by decide +kernel
theorem dd_M_write_1 : decode cd_M_write 1 = .ok (.aload_n 0, 1) := by decide +kernel
theorem dd_M_write_2 : decode cd_M_write 2 = .ok (.iload_n 1, 1) := by decide +kernel
theorem dd_M_write_3 : decode cd_M_write 3 = .ok (.iload_n 2, 1) := by decide +kernel
theorem dd_M_write_4 : decode cd_M_write 4 = .ok (.invokevirtual 77, 3) := by decide +kernel
theorem dd_M_write_7 : decode cd_M_write 7 = .ok (.ifCond .eq 7, 3) := by decide +kernel
theorem dd_M_write_10 : decode cd_M_write 10 = .ok (.iconst 1, 1) := by decide +kernel
theorem dd_M_write_11 : decode cd_M_write 11 = .ok (.goto 4, 3) := by decide +kernel
theorem dd_M_write_14 : decode cd_M_write 14 = .ok (.iconst 0, 1) := by decide +kernel
theorem dd_M_write_15 : decode cd_M_write 15 = .ok (.putfield 51, 3) := by decide +kernel
theorem dd_M_write_18 : decode cd_M_write 18 = .ok (.aload_n 0, 1) := by decide +kernel
theorem dd_M_write_19 : decode cd_M_write 19 = .ok (.getfield 51, 3) := by decide +kernel
theorem dd_M_write_22 : decode cd_M_write 22 = .ok (.ifCond .le 7, 3) := by decide +kernel
theorem dd_M_write_25 : decode cd_M_write 25 = .ok (.iconst 0, 1) := by decide +kernel
theorem dd_M_write_26 : decode cd_M_write 26 = .ok (.goto 9, 3) := by decide +kernel
theorem dd_M_write_29 : decode cd_M_write 29 = .ok (.aload_n 0, 1) := by decide +kernel
theorem dd_M_write_30 : decode cd_M_write 30 = .ok (.iload_n 1, 1) := by decide +kernel
theorem dd_M_write_31 : decode cd_M_write 31 = .ok (.iload_n 2, 1) := by decide +kernel
theorem dd_M_write_32 : decode cd_M_write 32 = .ok (.invokevirtual 89, 3) := by decide +kernel
theorem dd_M_write_35 : decode cd_M_write 35 = .ok (.istore 5, 2) := by decide +kernel
theorem dd_M_write_37 : decode cd_M_write 37 = .ok (.aload_n 0, 1) := by decide +kernel
theorem dd_M_write_38 : decode cd_M_write 38 = .ok (.aload_n 0, 1) := by decide +kernel
theorem dd_M_write_39 : decode cd_M_write 39 = .ok (.getfield 51, 3) := by decide +kernel
theorem dd_M_write_42 : decode cd_M_write 42 = .ok (.ifCond .gt 15, 3) := by decide +kernel
theorem dd_M_write_45 : decode cd_M_write 45 = .ok (.iload_n 3, 1) := by decide +kernel
theorem dd_M_write_46 : decode cd_M_write 46 = .ok (.i2l, 1) := by decide +kernel
theorem dd_M_write_47 : decode cd_M_write 47 = .ok (.lconst 0, 1) := by decide +kernel
theorem dd_M_write_48 : decode cd_M_write 48 = .ok (.iload 5, 2) := by decide +kernel
theorem dd_M_write_50 : decode cd_M_write 50 = .ok (.i2l, 1) := by decide +kernel
theorem dd_M_write_51 : decode cd_M_write 51 = .ok (.invokestatic 65, 3) := by decide +kernel
theorem dd_M_write_54 : decode cd_M_write 54 = .ok (.ifCond .ne 7, 3) := by decide +kernel
theorem dd_M_write_57 : decode cd_M_write 57 = .ok (.iconst 1, 1) := by decide +kernel
theorem dd_M_write_58 : decode cd_M_write 58 = .ok (.goto 4, 3) := by decide +kernel
theorem dd_M_write_61 : decode cd_M_write 61 = .ok (.iconst 0, 1) := by decide +kernel
theorem dd_M_write_62 : decode cd_M_write 62 = .ok (.putfield 51, 3) := by decide +kernel
theorem dd_M_write_65 : decode cd_M_write 65 = .ok (.aload_n 0, 1) := by decide +kernel
theorem dd_M_write_66 : decode cd_M_write 66 = .ok (.getfield 51, 3) := by decide +kernel
theorem dd_M_write_69 : decode cd_M_write 69 = .ok (.ifCond .le 5, 3) := by decide +kernel
theorem dd_M_write_72 : decode cd_M_write 72 = .ok (.iconst 0, 1) := by decide +kernel
theorem dd_M_write_73 : decode cd_M_write 73 = .ok (.ireturn, 1) := by decide +kernel
theorem dd_M_write_74 : decode cd_M_write 74 = .ok (.aload_n 0, 1) := by decide +kernel
theorem dd_M_write_75 : decode cd_M_write 75 = .ok (.iconst 0, 1) := by decide +kernel
theorem dd_M_write_76 : decode cd_M_write 76 = .ok (.aload_n 0, 1) := by decide +kernel
theorem dd_M_write_77 : decode cd_M_write 77 = .ok (.getfield 13, 3) := by decide +kernel
theorem dd_M_write_80 : decode cd_M_write 80 = .ok (.iload_n 2, 1) := by decide +kernel
theorem dd_M_write_81 : decode cd_M_write 81 = .ok (.iaload, 1) := by decide +kernel
theorem dd_M_write_82 : decode cd_M_write 82 = .ok (.i2l, 1) := by decide +kernel
theorem dd_M_write_83 : decode cd_M_write 83 = .ok (.iload 5, 2) := by decide +kernel
theorem dd_M_write_85 : decode cd_M_write 85 = .ok (.invokevirtual 97, 3) := by decide +kernel
theorem dd_M_write_88 : decode cd_M_write 88 = .ok (.aload_n 0, 1) := by decide +kernel
theorem dd_M_write_89 : decode cd_M_write 89 = .ok (.bipush 60, 2) := by decide +kernel
theorem dd_M_write_91 : decode cd_M_write 91 = .ok (.lconst 0, 1) := by decide +kernel
theorem dd_M_write_92 : decode cd_M_write 92 = .ok (.invokevirtual 56, 3) := by decide +kernel
theorem dd_M_write_95 : decode cd_M_write 95 = .ok (.iload 5, 2) := by decide +kernel
theorem dd_M_write_97 : decode cd_M_write 97 = .ok (.iconst 1, 1) := by decide +kernel
theorem dd_M_write_98 : decode cd_M_write 98 = .ok (.isub, 1) := by decide +kernel
theorem dd_M_write_99 : decode cd_M_write 99 = .ok (.istore 6, 2) := by decide +kernel
theorem dd_M_write_101 : decode cd_M_write 101 = .ok (.iload 6, 2) := by decide +kernel
theorem dd_M_write_103 : decode cd_M_write 103 = .ok (.iload_n 3, 1) := by decide +kernel
theorem dd_M_write_104 : decode cd_M_write 104 = .ok (.if_icmp .lt 25, 3) := by decide +kernel
theorem dd_M_write_107 : decode cd_M_write 107 = .ok (.aload_n 0, 1) := by decide +kernel
theorem dd_M_write_108 : decode cd_M_write 108 = .ok (.iconst 0, 1) := by decide +kernel
theorem dd_M_write_109 : decode cd_M_write 109 = .ok (.bipush 60, 2) := by decide +kernel
theorem dd_M_write_111 : decode cd_M_write 111 = .ok (.invokevirtual 105, 3) := by decide +kernel
theorem dd_M_write_114 : decode cd_M_write 114 = .ok (.aload_n 0, 1) := by decide +kernel
theorem dd_M_write_115 : decode cd_M_write 115 = .ok (.iload_n 2, 1) := by decide +kernel
theorem dd_M_write_116 : decode cd_M_write 116 = .ok (.iload 5, 2) := by decide +kernel
theorem dd_M_write_118 : decode cd_M_write 118 = .ok (.iload 6, 2) := by decide +kernel
theorem dd_M_write_120 : decode cd_M_write 120 = .ok (.invokevirtual 111, 3) := by decide +kernel
theorem dd_M_write_123 : decode cd_M_write 123 = .ok (.iinc 6 (-1), 3) := by decide +kernel
theorem dd_M_write_126 : decode cd_M_write 126 = .ok (.goto (-25), 3) := by decide +kernel
theorem dd_M_write_129 : decode cd_M_write 129 = .ok (.aload_n 0, 1) := by decide +kernel
theorem dd_M_write_130 : decode cd_M_write 130 = .ok (.iload 4, 2) := by decide +kernel
theorem dd_M_write_132 : decode cd_M_write 132 = .ok (.ifCond .eq 8, 3) := by decide +kernel
theorem dd_M_write_135 : decode cd_M_write 135 = .ok (.bipush 60, 2) := by decide +kernel
theorem dd_M_write_137 : decode cd_M_write 137 = .ok (.goto 4, 3) := by decide +kernel
theorem dd_M_write_140 : decode cd_M_write 140 = .ok (.iconst 0, 1) := by decide +kernel
theorem dd_M_write_141 : decode cd_M_write 141 = .ok (.sipush 300, 3) := by decide +kernel
theorem dd_M_write_144 : decode cd_M_write 144 = .ok (.invokevirtual 101, 3) := by decide +kernel
theorem dd_M_write_147 : decode cd_M_write 147 = .ok (.aload_n 0, 1) := by decide +kernel
theorem dd_M_write_148 : decode cd_M_write 148 = .ok (.sipush 360, 3) := by decide +kernel
theorem dd_M_write_151 : decode cd_M_write 151 = .ok (.aload_n 0, 1) := by decide +kernel
theorem dd_M_write_152 : decode cd_M_write 152 = .ok (.getfield 16, 3) := by decide +kernel
theorem dd_M_write_155 : decode cd_M_write 155 = .ok (.iload_n 2, 1) := by decide +kernel
theorem dd_M_write_156 : decode cd_M_write 156 = .ok (.iaload, 1) := by decide +kernel
theorem dd_M_write_157 : decode cd_M_write 157 = .ok (.i2l, 1) := by decide +kernel
theorem dd_M_write_158 : decode cd_M_write 158 = .ok (.iload 5, 2) := by decide +kernel
theorem dd_M_write_160 : decode cd_M_write 160 = .ok (.invokevirtual 97, 3) := by decide +kernel
theorem dd_M_write_163 : decode cd_M_write 163 = .ok (.aload_n 0, 1) := by decide +kernel
theorem dd_M_write_164 : decode cd_M_write 164 = .ok (.sipush 300, 3) := by decide +kernel
theorem dd_M_write_167 : decode cd_M_write 167 = .ok (.invokevirtual 122, 3) := by decide +kernel
theorem dd_M_write_170 : decode cd_M_write 170 = .ok (.ifCond .eq 11, 3) := by decide +kernel
theorem dd_M_write_173 : decode cd_M_write 173 = .ok (.aload_n 0, 1) := by decide +kernel
theorem dd_M_write_174 : decode cd_M_write 174 = .ok (.sipush 360, 3) := by decide +kernel
theorem dd_M_write_177 : decode cd_M_write 177 = .ok (.lconst 1, 1) := by decide +kernel
theorem dd_M_write_178 : decode cd_M_write 178 = .ok (.invokevirtual 56, 3) := by decide +kernel
theorem dd_M_write_181 : decode cd_M_write 181 = .ok (.iconst 2, 1) := by decide +kernel
theorem dd_M_write_182 : decode cd_M_write 182 = .ok (.istore 6, 2) := by decide +kernel
theorem dd_M_write_184 : decode cd_M_write 184 = .ok (.iload 6, 2) := by decide +kernel
theorem dd_M_write_186 : decode cd_M_write 186 = .ok (.aload_n 0, 1) := by decide +kernel
theorem dd_M_write_187 : decode cd_M_write 187 = .ok (.getfield 16, 3) := by decide +kernel
theorem dd_M_write_190 : decode cd_M_write 190 = .ok (.iload_n 2, 1) := by decide +kernel
theorem dd_M_write_191 : decode cd_M_write 191 = .ok (.iaload, 1) := by decide +kernel
theorem dd_M_write_192 : decode cd_M_write 192 = .ok (.if_icmp .gt 76, 3) := by decide +kernel
theorem dd_M_write_195 : decode cd_M_write 195 = .ok (.aload_n 0, 1) := by decide +kernel
theorem dd_M_write_196 : decode cd_M_write 196 = .ok (.sipush 300, 3) := by decide +kernel
theorem dd_M_write_199 : decode cd_M_write 199 = .ok (.invokevirtual 122, 3) := by decide +kernel
theorem dd_M_write_202 : decode cd_M_write 202 = .ok (.ifCond .ne 60, 3) := by decide +kernel
theorem dd_M_write_205 : decode cd_M_write 205 = .ok (.aload_n 0, 1) := by decide +kernel
theorem dd_M_write_206 : decode cd_M_write 206 = .ok (.sipush 300, 3) := by decide +kernel
theorem dd_M_write_209 : decode cd_M_write 209 = .ok (.iload 6, 2) := by decide +kernel
theorem dd_M_write_211 : decode cd_M_write 211 = .ok (.i2l, 1) := by decide +kernel
theorem dd_M_write_212 : decode cd_M_write 212 = .ok (.invokevirtual 126, 3) := by decide +kernel
theorem dd_M_write_215 : decode cd_M_write 215 = .ok (.lconst 0, 1) := by decide +kernel
theorem dd_M_write_216 : decode cd_M_write 216 = .ok (.lcmp, 1) := by decide +kernel
theorem dd_M_write_217 : decode cd_M_write 217 = .ok (.ifCond .ne 45, 3) := by decide +kernel
theorem dd_M_write_220 : decode cd_M_write 220 = .ok (.aload_n 0, 1) := by decide +kernel
theorem dd_M_write_221 : decode cd_M_write 221 = .ok (.sipush 360, 3) := by decide +kernel
theorem dd_M_write_224 : decode cd_M_write 224 = .ok (.iload 6, 2) := by decide +kernel
theorem dd_M_write_226 : decode cd_M_write 226 = .ok (.i2l, 1) := by decide +kernel
theorem dd_M_write_227 : decode cd_M_write 227 = .ok (.invokevirtual 126, 3) := by decide +kernel
theorem dd_M_write_230 : decode cd_M_write 230 = .ok (.lconst 0, 1) := by decide +kernel
theorem dd_M_write_231 : decode cd_M_write 231 = .ok (.lcmp, 1) := by decide +kernel
theorem dd_M_write_232 : decode cd_M_write 232 = .ok (.ifCond .ne 30, 3) := by decide +kernel
theorem dd_M_write_235 : decode cd_M_write 235 = .ok (.aload_n 0, 1) := by decide +kernel
theorem dd_M_write_236 : decode cd_M_write 236 = .ok (.sipush 300, 3) := by decide +kernel
theorem dd_M_write_239 : decode cd_M_write 239 = .ok (.iload 6, 2) := by decide +kernel
theorem dd_M_write_241 : decode cd_M_write 241 = .ok (.i2l, 1) := by decide +kernel
theorem dd_M_write_242 : decode cd_M_write 242 = .ok (.invokevirtual 93, 3) := by decide +kernel
theorem dd_M_write_245 : decode cd_M_write 245 = .ok (.lstore 7, 2) := by decide +kernel
theorem dd_M_write_247 : decode cd_M_write 247 = .ok (.aload_n 0, 1) := by decide +kernel
theorem dd_M_write_248 : decode cd_M_write 248 = .ok (.sipush 360, 3) := by decide +kernel
theorem dd_M_write_251 : decode cd_M_write 251 = .ok (.iload 6, 2) := by decide +kernel
theorem dd_M_write_253 : decode cd_M_write 253 = .ok (.i2l, 1) := by decide +kernel
theorem dd_M_write_254 : decode cd_M_write 254 = .ok (.invokevirtual 93, 3) := by decide +kernel
theorem dd_M_write_257 : decode cd_M_write 257 = .ok (.lstore 7, 2) := by decide +kernel
theorem dd_M_write_259 : decode cd_M_write 259 = .ok (.goto (-64), 3) := by decide +kernel
theorem dd_M_write_262 : decode cd_M_write 262 = .ok (.iinc 6 1, 3) := by decide +kernel
theorem dd_M_write_265 : decode cd_M_write 265 = .ok (.goto (-81), 3) := by decide +kernel
theorem dd_M_write_268 : decode cd_M_write 268 = .ok (.aload_n 0, 1) := by decide +kernel
theorem dd_M_write_269 : decode cd_M_write 269 = .ok (.iconst 1, 1) := by decide +kernel
theorem dd_M_write_270 : decode cd_M_write 270 = .ok (.putfield 129, 3) := by decide +kernel
theorem dd_M_write_273 : decode cd_M_write 273 = .ok (.aload_n 0, 1) := by decide +kernel
theorem dd_M_write_274 : decode cd_M_write 274 = .ok (.sipush 300, 3) := by decide +kernel
theorem dd_M_write_277 : decode cd_M_write 277 = .ok (.invokevirtual 133, 3) := by decide +kernel
theorem dd_M_write_280 : decode cd_M_write 280 = .ok (.aload_n 0, 1) := by decide +kernel
theorem dd_M_write_281 : decode cd_M_write 281 = .ok (.sipush 360, 3) := by decide +kernel
theorem dd_M_write_284 : decode cd_M_write 284 = .ok (.invokevirtual 133, 3) := by decide +kernel
theorem dd_M_write_287 : decode cd_M_write 287 = .ok (.iadd, 1) := by decide +kernel
theorem dd_M_write_288 : decode cd_M_write 288 = .ok (.ireturn, 1) := by decide +kernel
theorem dd_M_isNone_0 : decode cd_M_isNone 0 = .ok (.iconst 1, 1) := by decide +kernel
theorem dd_M_isNone_1 : decode cd_M_isNone 1 = .ok (.istore_n 2, 1) := by decide +kernel
theorem dd_M_isNone_2 : decode cd_M_isNone 2 = .ok (.iconst 0, 1) := by decide +kernel
theorem dd_M_isNone_3 : decode cd_M_isNone 3 = .ok (.istore_n 3, 1) := by decide +kernel
theorem dd_M_isNone_4 : decode cd_M_isNone 4 = .ok (.iload_n 3, 1) := by decide +kernel
theorem dd_M_isNone_5 : decode cd_M_isNone 5 = .ok (.bipush 60, 2) := by decide +kernel
theorem dd_M_isNone_7 : decode cd_M_isNone 7 = .ok (.if_icmp .ge 32, 3) := by decide +kernel
theorem dd_M_isNone_10 : decode cd_M_isNone 10 = .ok (.iload_n 2, 1) := by decide +kernel
theorem dd_M_isNone_11 : decode cd_M_isNone 11 = .ok (.ifCond .eq 20, 3) := by decide +kernel
theorem dd_M_isNone_14 : decode cd_M_isNone 14 = .ok (.aload_n 0, 1) := by decide +kernel
theorem dd_M_isNone_15 : decode cd_M_isNone 15 = .ok (.getfield 44, 3) := by decide +kernel
theorem dd_M_isNone_18 : decode cd_M_isNone 18 = .ok (.iload_n 1, 1) := by decide +kernel
theorem dd_M_isNone_19 : decode cd_M_isNone 19 = .ok (.iload_n 3, 1) := by decide +kernel
theorem dd_M_isNone_20 : decode cd_M_isNone 20 = .ok (.iadd, 1) := by decide +kernel
theorem dd_M_isNone_21 : decode cd_M_isNone 21 = .ok (.laload, 1) := by decide +kernel
theorem dd_M_isNone_22 : decode cd_M_isNone 22 = .ok (.lconst 0, 1) := by decide +kernel
theorem dd_M_isNone_23 : decode cd_M_isNone 23 = .ok (.lcmp, 1) := by decide +kernel
theorem dd_M_isNone_24 : decode cd_M_isNone 24 = .ok (.ifCond .ne 7, 3) := by decide +kernel
theorem dd_M_isNone_27 : decode cd_M_isNone 27 = .ok (.iconst 1, 1) := by decide +kernel
theorem dd_M_isNone_28 : decode cd_M_isNone 28 = .ok (.goto 4, 3) := by decide +kernel
theorem dd_M_isNone_31 : decode cd_M_isNone 31 = .ok (.iconst 0, 1) := by decide +kernel
theorem dd_M_isNone_32 : decode cd_M_isNone 32 = .ok (.istore_n 2, 1) := by decide +kernel
theorem dd_M_isNone_33 : decode cd_M_isNone 33 = .ok (.iinc 3 1, 3) := by decide +kernel
theorem dd_M_isNone_36 : decode cd_M_isNone 36 = .ok (.goto (-32), 3) := by decide +kernel
theorem dd_M_isNone_39 : decode cd_M_isNone 39 = .ok (.iload_n 2, 1) := by decide +kernel
theorem dd_M_isNone_40 : decode cd_M_isNone 40 = .ok (.ireturn, 1) := by decide +kernel
theorem dd_M_leaves_0 : decode cd_M_leaves 0 = .ok (.lconst 0, 1) := by decide +kernel
theorem dd_M_leaves_1 : decode cd_M_leaves 1 = .ok (.lstore 4, 2) := by decide +kernel
theorem dd_M_leaves_3 : decode cd_M_leaves 3 = .ok (.bipush 59, 2) := by decide +kernel
theorem dd_M_leaves_5 : decode cd_M_leaves 5 = .ok (.istore 6, 2) := by decide +kernel
theorem dd_M_leaves_7 : decode cd_M_leaves 7 = .ok (.iload 6, 2) := by decide +kernel
theorem dd_M_leaves_9 : decode cd_M_leaves 9 = .ok (.ifCond .lt 29, 3) := by decide +kernel
theorem dd_M_leaves_12 : decode cd_M_leaves 12 = .ok (.lload 4, 2) := by decide +kernel
theorem dd_M_leaves_14 : decode cd_M_leaves 14 = .ok (.ldc2_w 54, 3) := by decide +kernel
theorem dd_M_leaves_17 : decode cd_M_leaves 17 = .ok (.lmul, 1) := by decide +kernel
theorem dd_M_leaves_18 : decode cd_M_leaves 18 = .ok (.aload_n 0, 1) := by decide +kernel
theorem dd_M_leaves_19 : decode cd_M_leaves 19 = .ok (.getfield 44, 3) := by decide +kernel
theorem dd_M_leaves_22 : decode cd_M_leaves 22 = .ok (.iload_n 1, 1) := by decide +kernel
theorem dd_M_leaves_23 : decode cd_M_leaves 23 = .ok (.iload 6, 2) := by decide +kernel
theorem dd_M_leaves_25 : decode cd_M_leaves 25 = .ok (.iadd, 1) := by decide +kernel
theorem dd_M_leaves_26 : decode cd_M_leaves 26 = .ok (.laload, 1) := by decide +kernel
theorem dd_M_leaves_27 : decode cd_M_leaves 27 = .ok (.ladd, 1) := by decide +kernel
theorem dd_M_leaves_28 : decode cd_M_leaves 28 = .ok (.lload_n 2, 1) := by decide +kernel
theorem dd_M_leaves_29 : decode cd_M_leaves 29 = .ok (.lrem, 1) := by decide +kernel
theorem dd_M_leaves_30 : decode cd_M_leaves 30 = .ok (.lstore 4, 2) := by decide +kernel
theorem dd_M_leaves_32 : decode cd_M_leaves 32 = .ok (.iinc 6 (-1), 3) := by decide +kernel
theorem dd_M_leaves_35 : decode cd_M_leaves 35 = .ok (.goto (-28), 3) := by decide +kernel
theorem dd_M_leaves_38 : decode cd_M_leaves 38 = .ok (.lload 4, 2) := by decide +kernel
theorem dd_M_leaves_40 : decode cd_M_leaves 40 = .ok (.lreturn, 1) := by decide +kernel
theorem dd_M_digitsOf_0 : decode cd_M_digitsOf 0 = .ok (.bipush 59, 2) := by decide +kernel
theorem dd_M_digitsOf_2 : decode cd_M_digitsOf 2 = .ok (.istore_n 2, 1) := by decide +kernel
theorem dd_M_digitsOf_3 : decode cd_M_digitsOf 3 = .ok (.iload_n 2, 1) := by decide +kernel
theorem dd_M_digitsOf_4 : decode cd_M_digitsOf 4 = .ok (.ifCond .le 22, 3) := by decide +kernel
theorem dd_M_digitsOf_7 : decode cd_M_digitsOf 7 = .ok (.aload_n 0, 1) := by decide +kernel
theorem dd_M_digitsOf_8 : decode cd_M_digitsOf 8 = .ok (.getfield 44, 3) := by decide +kernel
theorem dd_M_digitsOf_11 : decode cd_M_digitsOf 11 = .ok (.iload_n 1, 1) := by decide +kernel
theorem dd_M_digitsOf_12 : decode cd_M_digitsOf 12 = .ok (.iload_n 2, 1) := by decide +kernel
theorem dd_M_digitsOf_13 : decode cd_M_digitsOf 13 = .ok (.iadd, 1) := by decide +kernel
theorem dd_M_digitsOf_14 : decode cd_M_digitsOf 14 = .ok (.laload, 1) := by decide +kernel
theorem dd_M_digitsOf_15 : decode cd_M_digitsOf 15 = .ok (.lconst 0, 1) := by decide +kernel
theorem dd_M_digitsOf_16 : decode cd_M_digitsOf 16 = .ok (.lcmp, 1) := by decide +kernel
theorem dd_M_digitsOf_17 : decode cd_M_digitsOf 17 = .ok (.ifCond .ne 9, 3) := by decide +kernel
theorem dd_M_digitsOf_20 : decode cd_M_digitsOf 20 = .ok (.iinc 2 (-1), 3) := by decide +kernel
theorem dd_M_digitsOf_23 : decode cd_M_digitsOf 23 = .ok (.goto (-20), 3) := by decide +kernel
theorem dd_M_digitsOf_26 : decode cd_M_digitsOf 26 = .ok (.bipush 6, 2) := by decide +kernel
theorem dd_M_digitsOf_28 : decode cd_M_digitsOf 28 = .ok (.iload_n 2, 1) := by decide +kernel
theorem dd_M_digitsOf_29 : decode cd_M_digitsOf 29 = .ok (.imul, 1) := by decide +kernel
theorem dd_M_digitsOf_30 : decode cd_M_digitsOf 30 = .ok (.iconst 1, 1) := by decide +kernel
theorem dd_M_digitsOf_31 : decode cd_M_digitsOf 31 = .ok (.iadd, 1) := by decide +kernel
theorem dd_M_digitsOf_32 : decode cd_M_digitsOf 32 = .ok (.istore_n 3, 1) := by decide +kernel
theorem dd_M_digitsOf_33 : decode cd_M_digitsOf 33 = .ok (.aload_n 0, 1) := by decide +kernel
theorem dd_M_digitsOf_34 : decode cd_M_digitsOf 34 = .ok (.getfield 44, 3) := by decide +kernel
theorem dd_M_digitsOf_37 : decode cd_M_digitsOf 37 = .ok (.iload_n 1, 1) := by decide +kernel
theorem dd_M_digitsOf_38 : decode cd_M_digitsOf 38 = .ok (.iload_n 2, 1) := by decide +kernel
theorem dd_M_digitsOf_39 : decode cd_M_digitsOf 39 = .ok (.iadd, 1) := by decide +kernel
theorem dd_M_digitsOf_40 : decode cd_M_digitsOf 40 = .ok (.laload, 1) := by decide +kernel
theorem dd_M_digitsOf_41 : decode cd_M_digitsOf 41 = .ok (.lstore 4, 2) := by decide +kernel
theorem dd_M_digitsOf_43 : decode cd_M_digitsOf 43 = .ok (.lload 4, 2) := by decide +kernel
theorem dd_M_digitsOf_45 : decode cd_M_digitsOf 45 = .ok (.ldc2_w 118, 3) := by decide +kernel
theorem dd_M_digitsOf_48 : decode cd_M_digitsOf 48 = .ok (.lcmp, 1) := by decide +kernel
theorem dd_M_digitsOf_49 : decode cd_M_digitsOf 49 = .ok (.ifCond .le 17, 3) := by decide +kernel
theorem dd_M_digitsOf_52 : decode cd_M_digitsOf 52 = .ok (.iinc 3 1, 3) := by decide +kernel
theorem dd_M_digitsOf_55 : decode cd_M_digitsOf 55 = .ok (.lload 4, 2) := by decide +kernel
theorem dd_M_digitsOf_57 : decode cd_M_digitsOf 57 = .ok (.ldc2_w 120, 3) := by decide +kernel
theorem dd_M_digitsOf_60 : decode cd_M_digitsOf 60 = .ok (.ldiv, 1) := by decide +kernel
theorem dd_M_digitsOf_61 : decode cd_M_digitsOf 61 = .ok (.lstore 4, 2) := by decide +kernel
theorem dd_M_digitsOf_63 : decode cd_M_digitsOf 63 = .ok (.goto (-20), 3) := by decide +kernel
theorem dd_M_digitsOf_66 : decode cd_M_digitsOf 66 = .ok (.iload_n 3, 1) := by decide +kernel
theorem dd_M_digitsOf_67 : decode cd_M_digitsOf 67 = .ok (.ireturn, 1) := by decide +kernel
theorem dd_M_digits_0 : decode cd_M_digits 0 = .ok (.aload_n 0, 1) := by decide +kernel
theorem dd_M_digits_1 : decode cd_M_digits 1 = .ok (.iload_n 1, 1) := by decide +kernel
theorem dd_M_digits_2 : decode cd_M_digits 2 = .ok (.i2l, 1) := by decide +kernel
theorem dd_M_digits_3 : decode cd_M_digits 3 = .ok (.lconst 0, 1) := by decide +kernel
theorem dd_M_digits_4 : decode cd_M_digits 4 = .ok (.lconst 1, 1) := by decide +kernel
theorem dd_M_digits_5 : decode cd_M_digits 5 = .ok (.invokestatic 65, 3) := by decide +kernel
theorem dd_M_digits_8 : decode cd_M_digits 8 = .ok (.ifCond .eq 7, 3) := by decide +kernel
theorem dd_M_digits_11 : decode cd_M_digits 11 = .ok (.iconst 0, 1) := by decide +kernel
theorem dd_M_digits_12 : decode cd_M_digits 12 = .ok (.goto 4, 3) := by decide +kernel
theorem dd_M_digits_15 : decode cd_M_digits 15 = .ok (.iconst 1, 1) := by decide +kernel
theorem dd_M_digits_16 : decode cd_M_digits 16 = .ok (.putfield 51, 3) := by decide +kernel
theorem dd_M_digits_19 : decode cd_M_digits 19 = .ok (.aload_n 0, 1) := by decide +kernel
theorem dd_M_digits_20 : decode cd_M_digits 20 = .ok (.getfield 51, 3) := by decide +kernel
theorem dd_M_digits_23 : decode cd_M_digits 23 = .ok (.ifCond .gt 10, 3) := by decide +kernel
theorem dd_M_digits_26 : decode cd_M_digits 26 = .ok (.aload_n 0, 1) := by decide +kernel
theorem dd_M_digits_27 : decode cd_M_digits 27 = .ok (.getfield 129, 3) := by decide +kernel
theorem dd_M_digits_30 : decode cd_M_digits 30 = .ok (.ifCond .ne 7, 3) := by decide +kernel
theorem dd_M_digits_33 : decode cd_M_digits 33 = .ok (.iconst 0, 1) := by decide +kernel
theorem dd_M_digits_34 : decode cd_M_digits 34 = .ok (.goto 11, 3) := by decide +kernel
theorem dd_M_digits_37 : decode cd_M_digits 37 = .ok (.aload_n 0, 1) := by decide +kernel
theorem dd_M_digits_38 : decode cd_M_digits 38 = .ok (.iload_n 1, 1) := by decide +kernel
theorem dd_M_digits_39 : decode cd_M_digits 39 = .ok (.invokestatic 137, 3) := by decide +kernel
theorem dd_M_digits_42 : decode cd_M_digits 42 = .ok (.invokevirtual 133, 3) := by decide +kernel
theorem dd_M_digits_45 : decode cd_M_digits 45 = .ok (.ireturn, 1) := by decide +kernel
theorem dd_M_numberOf_0 : decode cd_M_numberOf 0 = .ok (.iload_n 0, 1) := by decide +kernel
theorem dd_M_numberOf_1 : decode cd_M_numberOf 1 = .ok (.ifCond .ne 9, 3) := by decide +kernel
theorem dd_M_numberOf_4 : decode cd_M_numberOf 4 = .ok (.sipush 300, 3) := by decide +kernel
theorem dd_M_numberOf_7 : decode cd_M_numberOf 7 = .ok (.goto 6, 3) := by decide +kernel
theorem dd_M_numberOf_10 : decode cd_M_numberOf 10 = .ok (.sipush 360, 3) := by decide +kernel
theorem dd_M_numberOf_13 : decode cd_M_numberOf 13 = .ok (.ireturn, 1) := by decide +kernel
theorem dd_M_digit_0 : decode cd_M_digit 0 = .ok (.iload_n 1, 1) := by decide +kernel
theorem dd_M_digit_1 : decode cd_M_digit 1 = .ok (.i2l, 1) := by decide +kernel
theorem dd_M_digit_2 : decode cd_M_digit 2 = .ok (.lconst 0, 1) := by decide +kernel
theorem dd_M_digit_3 : decode cd_M_digit 3 = .ok (.lconst 1, 1) := by decide +kernel
theorem dd_M_digit_4 : decode cd_M_digit 4 = .ok (.invokestatic 65, 3) := by decide +kernel
theorem dd_M_digit_7 : decode cd_M_digit 7 = .ok (.ifCond .eq 34, 3) := by decide +kernel
theorem dd_M_digit_10 : decode cd_M_digit 10 = .ok (.aload_n 0, 1) := by decide +kernel
theorem dd_M_digit_11 : decode cd_M_digit 11 = .ok (.getfield 129, 3) := by decide +kernel
theorem dd_M_digit_14 : decode cd_M_digit 14 = .ok (.ifCond .eq 27, 3) := by decide +kernel
theorem dd_M_digit_17 : decode cd_M_digit 17 = .ok (.iload_n 2, 1) := by decide +kernel
theorem dd_M_digit_18 : decode cd_M_digit 18 = .ok (.i2l, 1) := by decide +kernel
theorem dd_M_digit_19 : decode cd_M_digit 19 = .ok (.lconst 0, 1) := by decide +kernel
theorem dd_M_digit_20 : decode cd_M_digit 20 = .ok (.aload_n 0, 1) := by decide +kernel
theorem dd_M_digit_21 : decode cd_M_digit 21 = .ok (.iload_n 1, 1) := by decide +kernel
theorem dd_M_digit_22 : decode cd_M_digit 22 = .ok (.invokestatic 137, 3) := by decide +kernel
theorem dd_M_digit_25 : decode cd_M_digit 25 = .ok (.invokevirtual 133, 3) := by decide +kernel
theorem dd_M_digit_28 : decode cd_M_digit 28 = .ok (.i2l, 1) := by decide +kernel
theorem dd_M_digit_29 : decode cd_M_digit 29 = .ok (.lconst 1, 1) := by decide +kernel
theorem dd_M_digit_30 : decode cd_M_digit 30 = .ok (.lsub, 1) := by decide +kernel
theorem dd_M_digit_31 : decode cd_M_digit 31 = .ok (.invokestatic 65, 3) := by decide +kernel
theorem dd_M_digit_34 : decode cd_M_digit 34 = .ok (.ifCond .eq 7, 3) := by decide +kernel
theorem dd_M_digit_37 : decode cd_M_digit 37 = .ok (.iconst 1, 1) := by decide +kernel
theorem dd_M_digit_38 : decode cd_M_digit 38 = .ok (.goto 4, 3) := by decide +kernel
theorem dd_M_digit_41 : decode cd_M_digit 41 = .ok (.iconst 0, 1) := by decide +kernel
theorem dd_M_digit_42 : decode cd_M_digit 42 = .ok (.istore_n 3, 1) := by decide +kernel
theorem dd_M_digit_43 : decode cd_M_digit 43 = .ok (.aload_n 0, 1) := by decide +kernel
theorem dd_M_digit_44 : decode cd_M_digit 44 = .ok (.iload_n 3, 1) := by decide +kernel
theorem dd_M_digit_45 : decode cd_M_digit 45 = .ok (.ifCond .eq 7, 3) := by decide +kernel
theorem dd_M_digit_48 : decode cd_M_digit 48 = .ok (.iconst 0, 1) := by decide +kernel
theorem dd_M_digit_49 : decode cd_M_digit 49 = .ok (.goto 4, 3) := by decide +kernel
theorem dd_M_digit_52 : decode cd_M_digit 52 = .ok (.iconst 1, 1) := by decide +kernel
theorem dd_M_digit_53 : decode cd_M_digit 53 = .ok (.putfield 51, 3) := by decide +kernel
theorem dd_M_digit_56 : decode cd_M_digit 56 = .ok (.aload_n 0, 1) := by decide +kernel
theorem dd_M_digit_57 : decode cd_M_digit 57 = .ok (.getfield 51, 3) := by decide +kernel
theorem dd_M_digit_60 : decode cd_M_digit 60 = .ok (.ifCond .le 5, 3) := by decide +kernel
theorem dd_M_digit_63 : decode cd_M_digit 63 = .ok (.iconst 0, 1) := by decide +kernel
theorem dd_M_digit_64 : decode cd_M_digit 64 = .ok (.ireturn, 1) := by decide +kernel
theorem dd_M_digit_65 : decode cd_M_digit 65 = .ok (.aload_n 0, 1) := by decide +kernel
theorem dd_M_digit_66 : decode cd_M_digit 66 = .ok (.iload_n 1, 1) := by decide +kernel
theorem dd_M_digit_67 : decode cd_M_digit 67 = .ok (.invokestatic 137, 3) := by decide +kernel
theorem dd_M_digit_70 : decode cd_M_digit 70 = .ok (.invokevirtual 133, 3) := by decide +kernel
theorem dd_M_digit_73 : decode cd_M_digit 73 = .ok (.iconst 1, 1) := by decide +kernel
theorem dd_M_digit_74 : decode cd_M_digit 74 = .ok (.isub, 1) := by decide +kernel
theorem dd_M_digit_75 : decode cd_M_digit 75 = .ok (.iload_n 2, 1) := by decide +kernel
theorem dd_M_digit_76 : decode cd_M_digit 76 = .ok (.isub, 1) := by decide +kernel
theorem dd_M_digit_77 : decode cd_M_digit 77 = .ok (.istore 4, 2) := by decide +kernel
theorem dd_M_digit_79 : decode cd_M_digit 79 = .ok (.aload_n 0, 1) := by decide +kernel
theorem dd_M_digit_80 : decode cd_M_digit 80 = .ok (.getfield 44, 3) := by decide +kernel
theorem dd_M_digit_83 : decode cd_M_digit 83 = .ok (.iload_n 1, 1) := by decide +kernel
theorem dd_M_digit_84 : decode cd_M_digit 84 = .ok (.invokestatic 137, 3) := by decide +kernel
theorem dd_M_digit_87 : decode cd_M_digit 87 = .ok (.iload 4, 2) := by decide +kernel
theorem dd_M_digit_89 : decode cd_M_digit 89 = .ok (.bipush 6, 2) := by decide +kernel
theorem dd_M_digit_91 : decode cd_M_digit 91 = .ok (.idiv, 1) := by decide +kernel
theorem dd_M_digit_92 : decode cd_M_digit 92 = .ok (.iadd, 1) := by decide +kernel
theorem dd_M_digit_93 : decode cd_M_digit 93 = .ok (.laload, 1) := by decide +kernel
theorem dd_M_digit_94 : decode cd_M_digit 94 = .ok (.lstore 5, 2) := by decide +kernel
theorem dd_M_digit_96 : decode cd_M_digit 96 = .ok (.iconst 0, 1) := by decide +kernel
theorem dd_M_digit_97 : decode cd_M_digit 97 = .ok (.istore 7, 2) := by decide +kernel
theorem dd_M_digit_99 : decode cd_M_digit 99 = .ok (.iload 7, 2) := by decide +kernel
theorem dd_M_digit_101 : decode cd_M_digit 101 = .ok (.iload 4, 2) := by decide +kernel
theorem dd_M_digit_103 : decode cd_M_digit 103 = .ok (.bipush 6, 2) := by decide +kernel
theorem dd_M_digit_105 : decode cd_M_digit 105 = .ok (.irem, 1) := by decide +kernel
theorem dd_M_digit_106 : decode cd_M_digit 106 = .ok (.if_icmp .ge 17, 3) := by decide +kernel
theorem dd_M_digit_109 : decode cd_M_digit 109 = .ok (.lload 5, 2) := by decide +kernel
theorem dd_M_digit_111 : decode cd_M_digit 111 = .ok (.ldc2_w 120, 3) := by decide +kernel
theorem dd_M_digit_114 : decode cd_M_digit 114 = .ok (.ldiv, 1) := by decide +kernel
theorem dd_M_digit_115 : decode cd_M_digit 115 = .ok (.lstore 5, 2) := by decide +kernel
theorem dd_M_digit_117 : decode cd_M_digit 117 = .ok (.iinc 7 1, 3) := by decide +kernel
theorem dd_M_digit_120 : decode cd_M_digit 120 = .ok (.goto (-21), 3) := by decide +kernel
theorem dd_M_digit_123 : decode cd_M_digit 123 = .ok (.lload 5, 2) := by decide +kernel
theorem dd_M_digit_125 : decode cd_M_digit 125 = .ok (.ldc2_w 120, 3) := by decide +kernel
theorem dd_M_digit_128 : decode cd_M_digit 128 = .ok (.lrem, 1) := by decide +kernel
theorem dd_M_digit_129 : decode cd_M_digit 129 = .ok (.l2i, 1) := by decide +kernel
theorem dd_M_digit_130 : decode cd_M_digit 130 = .ok (.ireturn, 1) := by decide +kernel
theorem dd_M_rest_0 : decode cd_M_rest 0 = .ok (.aload_n 0, 1) := by decide +kernel
theorem dd_M_rest_1 : decode cd_M_rest 1 = .ok (.iload_n 1, 1) := by decide +kernel
theorem dd_M_rest_2 : decode cd_M_rest 2 = .ok (.i2l, 1) := by decide +kernel
theorem dd_M_rest_3 : decode cd_M_rest 3 = .ok (.lconst 0, 1) := by decide +kernel
theorem dd_M_rest_4 : decode cd_M_rest 4 = .ok (.lconst 1, 1) := by decide +kernel
theorem dd_M_rest_5 : decode cd_M_rest 5 = .ok (.invokestatic 65, 3) := by decide +kernel
theorem dd_M_rest_8 : decode cd_M_rest 8 = .ok (.ifCond .eq 17, 3) := by decide +kernel
theorem dd_M_rest_11 : decode cd_M_rest 11 = .ok (.iload_n 2, 1) := by decide +kernel
theorem dd_M_rest_12 : decode cd_M_rest 12 = .ok (.i2l, 1) := by decide +kernel
theorem dd_M_rest_13 : decode cd_M_rest 13 = .ok (.ldc2_w 140, 3) := by decide +kernel
theorem dd_M_rest_16 : decode cd_M_rest 16 = .ok (.ldc2_w 54, 3) := by decide +kernel
theorem dd_M_rest_19 : decode cd_M_rest 19 = .ok (.invokestatic 65, 3) := by decide +kernel
theorem dd_M_rest_22 : decode cd_M_rest 22 = .ok (.ifCond .ne 7, 3) := by decide +kernel
theorem dd_M_rest_25 : decode cd_M_rest 25 = .ok (.iconst 1, 1) := by decide +kernel
theorem dd_M_rest_26 : decode cd_M_rest 26 = .ok (.goto 15, 3) := by decide +kernel
theorem dd_M_rest_29 : decode cd_M_rest 29 = .ok (.aload_n 0, 1) := by decide +kernel
theorem dd_M_rest_30 : decode cd_M_rest 30 = .ok (.getfield 129, 3) := by decide +kernel
theorem dd_M_rest_33 : decode cd_M_rest 33 = .ok (.ifCond .ne 7, 3) := by decide +kernel
theorem dd_M_rest_36 : decode cd_M_rest 36 = .ok (.iconst 2, 1) := by decide +kernel
theorem dd_M_rest_37 : decode cd_M_rest 37 = .ok (.goto 4, 3) := by decide +kernel
theorem dd_M_rest_40 : decode cd_M_rest 40 = .ok (.iconst 0, 1) := by decide +kernel
theorem dd_M_rest_41 : decode cd_M_rest 41 = .ok (.putfield 51, 3) := by decide +kernel
theorem dd_M_rest_44 : decode cd_M_rest 44 = .ok (.aload_n 0, 1) := by decide +kernel
theorem dd_M_rest_45 : decode cd_M_rest 45 = .ok (.getfield 51, 3) := by decide +kernel
theorem dd_M_rest_48 : decode cd_M_rest 48 = .ok (.ifCond .le 7, 3) := by decide +kernel
theorem dd_M_rest_51 : decode cd_M_rest 51 = .ok (.iconst 0, 1) := by decide +kernel
theorem dd_M_rest_52 : decode cd_M_rest 52 = .ok (.goto 14, 3) := by decide +kernel
theorem dd_M_rest_55 : decode cd_M_rest 55 = .ok (.aload_n 0, 1) := by decide +kernel
theorem dd_M_rest_56 : decode cd_M_rest 56 = .ok (.iload_n 1, 1) := by decide +kernel
theorem dd_M_rest_57 : decode cd_M_rest 57 = .ok (.invokestatic 137, 3) := by decide +kernel
theorem dd_M_rest_60 : decode cd_M_rest 60 = .ok (.iload_n 2, 1) := by decide +kernel
theorem dd_M_rest_61 : decode cd_M_rest 61 = .ok (.i2l, 1) := by decide +kernel
theorem dd_M_rest_62 : decode cd_M_rest 62 = .ok (.invokevirtual 126, 3) := by decide +kernel
theorem dd_M_rest_65 : decode cd_M_rest 65 = .ok (.l2i, 1) := by decide +kernel
theorem dd_M_rest_66 : decode cd_M_rest 66 = .ok (.ireturn, 1) := by decide +kernel
theorem dd_M_flow_0 : decode cd_M_flow 0 = .ok (.aload_n 0, 1) := by decide +kernel
theorem dd_M_flow_1 : decode cd_M_flow 1 = .ok (.aload_n 0, 1) := by decide +kernel
theorem dd_M_flow_2 : decode cd_M_flow 2 = .ok (.iload_n 1, 1) := by decide +kernel
theorem dd_M_flow_3 : decode cd_M_flow 3 = .ok (.invokevirtual 148, 3) := by decide +kernel
theorem dd_M_flow_6 : decode cd_M_flow 6 = .ok (.ifCond .eq 7, 3) := by decide +kernel
theorem dd_M_flow_9 : decode cd_M_flow 9 = .ok (.iconst 1, 1) := by decide +kernel
theorem dd_M_flow_10 : decode cd_M_flow 10 = .ok (.goto 4, 3) := by decide +kernel
theorem dd_M_flow_13 : decode cd_M_flow 13 = .ok (.iconst 0, 1) := by decide +kernel
theorem dd_M_flow_14 : decode cd_M_flow 14 = .ok (.putfield 51, 3) := by decide +kernel
theorem dd_M_flow_17 : decode cd_M_flow 17 = .ok (.aload_n 0, 1) := by decide +kernel
theorem dd_M_flow_18 : decode cd_M_flow 18 = .ok (.getfield 51, 3) := by decide +kernel
theorem dd_M_flow_21 : decode cd_M_flow 21 = .ok (.ifCond .le 7, 3) := by decide +kernel
theorem dd_M_flow_24 : decode cd_M_flow 24 = .ok (.iconst 0, 1) := by decide +kernel
theorem dd_M_flow_25 : decode cd_M_flow 25 = .ok (.goto 8, 3) := by decide +kernel
theorem dd_M_flow_28 : decode cd_M_flow 28 = .ok (.aload_n 0, 1) := by decide +kernel
theorem dd_M_flow_29 : decode cd_M_flow 29 = .ok (.iload_n 1, 1) := by decide +kernel
theorem dd_M_flow_30 : decode cd_M_flow 30 = .ok (.invokevirtual 142, 3) := by decide +kernel
theorem dd_M_flow_33 : decode cd_M_flow 33 = .ok (.ireturn, 1) := by decide +kernel
theorem dd_M_noPipe_0 : decode cd_M_noPipe 0 = .ok (.iload_n 1, 1) := by decide +kernel
theorem dd_M_noPipe_1 : decode cd_M_noPipe 1 = .ok (.i2l, 1) := by decide +kernel
theorem dd_M_noPipe_2 : decode cd_M_noPipe 2 = .ok (.lconst 0, 1) := by decide +kernel
theorem dd_M_noPipe_3 : decode cd_M_noPipe 3 = .ok (.aload_n 0, 1) := by decide +kernel
theorem dd_M_noPipe_4 : decode cd_M_noPipe 4 = .ok (.getfield 74, 3) := by decide +kernel
theorem dd_M_noPipe_7 : decode cd_M_noPipe 7 = .ok (.i2l, 1) := by decide +kernel
theorem dd_M_noPipe_8 : decode cd_M_noPipe 8 = .ok (.lconst 1, 1) := by decide +kernel
theorem dd_M_noPipe_9 : decode cd_M_noPipe 9 = .ok (.lsub, 1) := by decide +kernel
theorem dd_M_noPipe_10 : decode cd_M_noPipe 10 = .ok (.invokestatic 65, 3) := by decide +kernel
theorem dd_M_noPipe_13 : decode cd_M_noPipe 13 = .ok (.ifCond .ne 7, 3) := by decide +kernel
theorem dd_M_noPipe_16 : decode cd_M_noPipe 16 = .ok (.iconst 1, 1) := by decide +kernel
theorem dd_M_noPipe_17 : decode cd_M_noPipe 17 = .ok (.goto 4, 3) := by decide +kernel
theorem dd_M_noPipe_20 : decode cd_M_noPipe 20 = .ok (.iconst 0, 1) := by decide +kernel
theorem dd_M_noPipe_21 : decode cd_M_noPipe 21 = .ok (.ireturn, 1) := by decide +kernel
theorem dd_M_flowOf_0 : decode cd_M_flowOf 0 = .ok (.iconst 0, 1) := by decide +kernel
theorem dd_M_flowOf_1 : decode cd_M_flowOf 1 = .ok (.istore_n 2, 1) := by decide +kernel
theorem dd_M_flowOf_2 : decode cd_M_flowOf 2 = .ok (.iconst 0, 1) := by decide +kernel
theorem dd_M_flowOf_3 : decode cd_M_flowOf 3 = .ok (.istore_n 3, 1) := by decide +kernel
theorem dd_M_flowOf_4 : decode cd_M_flowOf 4 = .ok (.iload_n 3, 1) := by decide +kernel
theorem dd_M_flowOf_5 : decode cd_M_flowOf 5 = .ok (.aload_n 0, 1) := by decide +kernel
theorem dd_M_flowOf_6 : decode cd_M_flowOf 6 = .ok (.getfield 69, 3) := by decide +kernel
theorem dd_M_flowOf_9 : decode cd_M_flowOf 9 = .ok (.if_icmp .ge 30, 3) := by decide +kernel
theorem dd_M_flowOf_12 : decode cd_M_flowOf 12 = .ok (.iload_n 2, 1) := by decide +kernel
theorem dd_M_flowOf_13 : decode cd_M_flowOf 13 = .ok (.aload_n 0, 1) := by decide +kernel
theorem dd_M_flowOf_14 : decode cd_M_flowOf 14 = .ok (.iload_n 3, 1) := by decide +kernel
theorem dd_M_flowOf_15 : decode cd_M_flowOf 15 = .ok (.aload_n 0, 1) := by decide +kernel
theorem dd_M_flowOf_16 : decode cd_M_flowOf 16 = .ok (.iload_n 1, 1) := by decide +kernel
theorem dd_M_flowOf_17 : decode cd_M_flowOf 17 = .ok (.iload_n 3, 1) := by decide +kernel
theorem dd_M_flowOf_18 : decode cd_M_flowOf 18 = .ok (.invokevirtual 89, 3) := by decide +kernel
theorem dd_M_flowOf_21 : decode cd_M_flowOf 21 = .ok (.invokevirtual 115, 3) := by decide +kernel
theorem dd_M_flowOf_24 : decode cd_M_flowOf 24 = .ok (.aload_n 0, 1) := by decide +kernel
theorem dd_M_flowOf_25 : decode cd_M_flowOf 25 = .ok (.getfield 7, 3) := by decide +kernel
theorem dd_M_flowOf_28 : decode cd_M_flowOf 28 = .ok (.iload_n 3, 1) := by decide +kernel
theorem dd_M_flowOf_29 : decode cd_M_flowOf 29 = .ok (.iaload, 1) := by decide +kernel
theorem dd_M_flowOf_30 : decode cd_M_flowOf 30 = .ok (.imul, 1) := by decide +kernel
theorem dd_M_flowOf_31 : decode cd_M_flowOf 31 = .ok (.iadd, 1) := by decide +kernel
theorem dd_M_flowOf_32 : decode cd_M_flowOf 32 = .ok (.istore_n 2, 1) := by decide +kernel
theorem dd_M_flowOf_33 : decode cd_M_flowOf 33 = .ok (.iinc 3 1, 3) := by decide +kernel
theorem dd_M_flowOf_36 : decode cd_M_flowOf 36 = .ok (.goto (-32), 3) := by decide +kernel
theorem dd_M_flowOf_39 : decode cd_M_flowOf 39 = .ok (.iload_n 2, 1) := by decide +kernel
theorem dd_M_flowOf_40 : decode cd_M_flowOf 40 = .ok (.ireturn, 1) := by decide +kernel
theorem dd_M_size_0 : decode cd_M_size 0 = .ok (.aload_n 0, 1) := by decide +kernel
theorem dd_M_size_1 : decode cd_M_size 1 = .ok (.aload_n 0, 1) := by decide +kernel
theorem dd_M_size_2 : decode cd_M_size 2 = .ok (.iload_n 1, 1) := by decide +kernel
theorem dd_M_size_3 : decode cd_M_size 3 = .ok (.invokevirtual 148, 3) := by decide +kernel
theorem dd_M_size_6 : decode cd_M_size 6 = .ok (.ifCond .eq 7, 3) := by decide +kernel
theorem dd_M_size_9 : decode cd_M_size 9 = .ok (.iconst 1, 1) := by decide +kernel
theorem dd_M_size_10 : decode cd_M_size 10 = .ok (.goto 4, 3) := by decide +kernel
theorem dd_M_size_13 : decode cd_M_size 13 = .ok (.iconst 0, 1) := by decide +kernel
theorem dd_M_size_14 : decode cd_M_size 14 = .ok (.putfield 51, 3) := by decide +kernel
theorem dd_M_size_17 : decode cd_M_size 17 = .ok (.aload_n 0, 1) := by decide +kernel
theorem dd_M_size_18 : decode cd_M_size 18 = .ok (.getfield 51, 3) := by decide +kernel
theorem dd_M_size_21 : decode cd_M_size 21 = .ok (.ifCond .le 7, 3) := by decide +kernel
theorem dd_M_size_24 : decode cd_M_size 24 = .ok (.iconst 0, 1) := by decide +kernel
theorem dd_M_size_25 : decode cd_M_size 25 = .ok (.goto 8, 3) := by decide +kernel
theorem dd_M_size_28 : decode cd_M_size 28 = .ok (.aload_n 0, 1) := by decide +kernel
theorem dd_M_size_29 : decode cd_M_size 29 = .ok (.iload_n 1, 1) := by decide +kernel
theorem dd_M_size_30 : decode cd_M_size 30 = .ok (.invokevirtual 145, 3) := by decide +kernel
theorem dd_M_size_33 : decode cd_M_size 33 = .ok (.ireturn, 1) := by decide +kernel
theorem dd_M_sizeOf_0 : decode cd_M_sizeOf 0 = .ok (.aload_n 0, 1) := by decide +kernel
theorem dd_M_sizeOf_1 : decode cd_M_sizeOf 1 = .ok (.iload_n 1, 1) := by decide +kernel
theorem dd_M_sizeOf_2 : decode cd_M_sizeOf 2 = .ok (.invokevirtual 142, 3) := by decide +kernel
theorem dd_M_sizeOf_5 : decode cd_M_sizeOf 5 = .ok (.istore_n 2, 1) := by decide +kernel
theorem dd_M_sizeOf_6 : decode cd_M_sizeOf 6 = .ok (.iconst (-1), 1) := by decide +kernel
theorem dd_M_sizeOf_7 : decode cd_M_sizeOf 7 = .ok (.istore_n 3, 1) := by decide +kernel
theorem dd_M_sizeOf_8 : decode cd_M_sizeOf 8 = .ok (.iconst 0, 1) := by decide +kernel
theorem dd_M_sizeOf_9 : decode cd_M_sizeOf 9 = .ok (.istore 4, 2) := by decide +kernel
theorem dd_M_sizeOf_11 : decode cd_M_sizeOf 11 = .ok (.iload 4, 2) := by decide +kernel
theorem dd_M_sizeOf_13 : decode cd_M_sizeOf 13 = .ok (.aload_n 0, 1) := by decide +kernel
theorem dd_M_sizeOf_14 : decode cd_M_sizeOf 14 = .ok (.getfield 83, 3) := by decide +kernel
theorem dd_M_sizeOf_17 : decode cd_M_sizeOf 17 = .ok (.if_icmp .ge 48, 3) := by decide +kernel
theorem dd_M_sizeOf_20 : decode cd_M_sizeOf 20 = .ok (.aload_n 0, 1) := by decide +kernel
theorem dd_M_sizeOf_21 : decode cd_M_sizeOf 21 = .ok (.getfield 35, 3) := by decide +kernel
theorem dd_M_sizeOf_24 : decode cd_M_sizeOf 24 = .ok (.iload 4, 2) := by decide +kernel
theorem dd_M_sizeOf_26 : decode cd_M_sizeOf 26 = .ok (.iaload, 1) := by decide +kernel
theorem dd_M_sizeOf_27 : decode cd_M_sizeOf 27 = .ok (.iload_n 2, 1) := by decide +kernel
theorem dd_M_sizeOf_28 : decode cd_M_sizeOf 28 = .ok (.if_icmp .lt 29, 3) := by decide +kernel
theorem dd_M_sizeOf_31 : decode cd_M_sizeOf 31 = .ok (.iload_n 3, 1) := by decide +kernel
theorem dd_M_sizeOf_32 : decode cd_M_sizeOf 32 = .ok (.iconst (-1), 1) := by decide +kernel
theorem dd_M_sizeOf_33 : decode cd_M_sizeOf 33 = .ok (.if_icmp .eq 19, 3) := by decide +kernel
theorem dd_M_sizeOf_36 : decode cd_M_sizeOf 36 = .ok (.aload_n 0, 1) := by decide +kernel
theorem dd_M_sizeOf_37 : decode cd_M_sizeOf 37 = .ok (.getfield 41, 3) := by decide +kernel
theorem dd_M_sizeOf_40 : decode cd_M_sizeOf 40 = .ok (.iload 4, 2) := by decide +kernel
theorem dd_M_sizeOf_42 : decode cd_M_sizeOf 42 = .ok (.iaload, 1) := by decide +kernel
theorem dd_M_sizeOf_43 : decode cd_M_sizeOf 43 = .ok (.aload_n 0, 1) := by decide +kernel
theorem dd_M_sizeOf_44 : decode cd_M_sizeOf 44 = .ok (.getfield 41, 3) := by decide +kernel
theorem dd_M_sizeOf_47 : decode cd_M_sizeOf 47 = .ok (.iload_n 3, 1) := by decide +kernel
theorem dd_M_sizeOf_48 : decode cd_M_sizeOf 48 = .ok (.iaload, 1) := by decide +kernel
theorem dd_M_sizeOf_49 : decode cd_M_sizeOf 49 = .ok (.if_icmp .ge 8, 3) := by decide +kernel
theorem dd_M_sizeOf_52 : decode cd_M_sizeOf 52 = .ok (.iload 4, 2) := by decide +kernel
theorem dd_M_sizeOf_54 : decode cd_M_sizeOf 54 = .ok (.goto 4, 3) := by decide +kernel
theorem dd_M_sizeOf_57 : decode cd_M_sizeOf 57 = .ok (.iload_n 3, 1) := by decide +kernel
theorem dd_M_sizeOf_58 : decode cd_M_sizeOf 58 = .ok (.istore_n 3, 1) := by decide +kernel
theorem dd_M_sizeOf_59 : decode cd_M_sizeOf 59 = .ok (.iinc 4 1, 3) := by decide +kernel
theorem dd_M_sizeOf_62 : decode cd_M_sizeOf 62 = .ok (.goto (-51), 3) := by decide +kernel
theorem dd_M_sizeOf_65 : decode cd_M_sizeOf 65 = .ok (.iload_n 3, 1) := by decide +kernel
theorem dd_M_sizeOf_66 : decode cd_M_sizeOf 66 = .ok (.ireturn, 1) := by decide +kernel
theorem dd_M_cost_0 : decode cd_M_cost 0 = .ok (.aload_n 0, 1) := by decide +kernel
theorem dd_M_cost_1 : decode cd_M_cost 1 = .ok (.iconst 0, 1) := by decide +kernel
theorem dd_M_cost_2 : decode cd_M_cost 2 = .ok (.putfield 51, 3) := by decide +kernel
theorem dd_M_cost_5 : decode cd_M_cost 5 = .ok (.iconst 0, 1) := by decide +kernel
theorem dd_M_cost_6 : decode cd_M_cost 6 = .ok (.istore_n 1, 1) := by decide +kernel
theorem dd_M_cost_7 : decode cd_M_cost 7 = .ok (.iconst 0, 1) := by decide +kernel
theorem dd_M_cost_8 : decode cd_M_cost 8 = .ok (.istore_n 2, 1) := by decide +kernel
theorem dd_M_cost_9 : decode cd_M_cost 9 = .ok (.iload_n 2, 1) := by decide +kernel
theorem dd_M_cost_10 : decode cd_M_cost 10 = .ok (.aload_n 0, 1) := by decide +kernel
theorem dd_M_cost_11 : decode cd_M_cost 11 = .ok (.getfield 74, 3) := by decide +kernel
theorem dd_M_cost_14 : decode cd_M_cost 14 = .ok (.if_icmp .ge 38, 3) := by decide +kernel
theorem dd_M_cost_17 : decode cd_M_cost 17 = .ok (.aload_n 0, 1) := by decide +kernel
theorem dd_M_cost_18 : decode cd_M_cost 18 = .ok (.iload_n 2, 1) := by decide +kernel
theorem dd_M_cost_19 : decode cd_M_cost 19 = .ok (.invokevirtual 145, 3) := by decide +kernel
theorem dd_M_cost_22 : decode cd_M_cost 22 = .ok (.istore_n 3, 1) := by decide +kernel
theorem dd_M_cost_23 : decode cd_M_cost 23 = .ok (.iload_n 3, 1) := by decide +kernel
theorem dd_M_cost_24 : decode cd_M_cost 24 = .ok (.iconst (-1), 1) := by decide +kernel
theorem dd_M_cost_25 : decode cd_M_cost 25 = .ok (.if_icmp .ne 5, 3) := by decide +kernel
theorem dd_M_cost_28 : decode cd_M_cost 28 = .ok (.iconst (-1), 1) := by decide +kernel
theorem dd_M_cost_29 : decode cd_M_cost 29 = .ok (.ireturn, 1) := by decide +kernel
theorem dd_M_cost_30 : decode cd_M_cost 30 = .ok (.iload_n 1, 1) := by decide +kernel
theorem dd_M_cost_31 : decode cd_M_cost 31 = .ok (.aload_n 0, 1) := by decide +kernel
theorem dd_M_cost_32 : decode cd_M_cost 32 = .ok (.getfield 22, 3) := by decide +kernel
theorem dd_M_cost_35 : decode cd_M_cost 35 = .ok (.iload_n 2, 1) := by decide +kernel
theorem dd_M_cost_36 : decode cd_M_cost 36 = .ok (.iaload, 1) := by decide +kernel
theorem dd_M_cost_37 : decode cd_M_cost 37 = .ok (.aload_n 0, 1) := by decide +kernel
theorem dd_M_cost_38 : decode cd_M_cost 38 = .ok (.getfield 41, 3) := by decide +kernel
theorem dd_M_cost_41 : decode cd_M_cost 41 = .ok (.iload_n 3, 1) := by decide +kernel
theorem dd_M_cost_42 : decode cd_M_cost 42 = .ok (.iaload, 1) := by decide +kernel
theorem dd_M_cost_43 : decode cd_M_cost 43 = .ok (.imul, 1) := by decide +kernel
theorem dd_M_cost_44 : decode cd_M_cost 44 = .ok (.iadd, 1) := by decide +kernel
theorem dd_M_cost_45 : decode cd_M_cost 45 = .ok (.istore_n 1, 1) := by decide +kernel
theorem dd_M_cost_46 : decode cd_M_cost 46 = .ok (.iinc 2 1, 3) := by decide +kernel
theorem dd_M_cost_49 : decode cd_M_cost 49 = .ok (.goto (-40), 3) := by decide +kernel
theorem dd_M_cost_52 : decode cd_M_cost 52 = .ok (.iload_n 1, 1) := by decide +kernel
theorem dd_M_cost_53 : decode cd_M_cost 53 = .ok (.ireturn, 1) := by decide +kernel
theorem dd_M_loss_0 : decode cd_M_loss 0 = .ok (.aload_n 0, 1) := by decide +kernel
theorem dd_M_loss_1 : decode cd_M_loss 1 = .ok (.aload_n 0, 1) := by decide +kernel
theorem dd_M_loss_2 : decode cd_M_loss 2 = .ok (.iload_n 1, 1) := by decide +kernel
theorem dd_M_loss_3 : decode cd_M_loss 3 = .ok (.invokevirtual 148, 3) := by decide +kernel
theorem dd_M_loss_6 : decode cd_M_loss 6 = .ok (.ifCond .eq 7, 3) := by decide +kernel
theorem dd_M_loss_9 : decode cd_M_loss 9 = .ok (.iconst 1, 1) := by decide +kernel
theorem dd_M_loss_10 : decode cd_M_loss 10 = .ok (.goto 4, 3) := by decide +kernel
theorem dd_M_loss_13 : decode cd_M_loss 13 = .ok (.iconst 0, 1) := by decide +kernel
theorem dd_M_loss_14 : decode cd_M_loss 14 = .ok (.putfield 51, 3) := by decide +kernel
theorem dd_M_loss_17 : decode cd_M_loss 17 = .ok (.aload_n 0, 1) := by decide +kernel
theorem dd_M_loss_18 : decode cd_M_loss 18 = .ok (.getfield 51, 3) := by decide +kernel
theorem dd_M_loss_21 : decode cd_M_loss 21 = .ok (.ifCond .le 7, 3) := by decide +kernel
theorem dd_M_loss_24 : decode cd_M_loss 24 = .ok (.lconst 0, 1) := by decide +kernel
theorem dd_M_loss_25 : decode cd_M_loss 25 = .ok (.goto 23, 3) := by decide +kernel
theorem dd_M_loss_28 : decode cd_M_loss 28 = .ok (.aload_n 0, 1) := by decide +kernel
theorem dd_M_loss_29 : decode cd_M_loss 29 = .ok (.iload_n 1, 1) := by decide +kernel
theorem dd_M_loss_30 : decode cd_M_loss 30 = .ok (.invokevirtual 145, 3) := by decide +kernel
theorem dd_M_loss_33 : decode cd_M_loss 33 = .ok (.iconst (-1), 1) := by decide +kernel
theorem dd_M_loss_34 : decode cd_M_loss 34 = .ok (.if_icmp .ne 9, 3) := by decide +kernel
theorem dd_M_loss_37 : decode cd_M_loss 37 = .ok (.ldc2_w 151, 3) := by decide +kernel
theorem dd_M_loss_40 : decode cd_M_loss 40 = .ok (.goto 8, 3) := by decide +kernel
theorem dd_M_loss_43 : decode cd_M_loss 43 = .ok (.aload_n 0, 1) := by decide +kernel
theorem dd_M_loss_44 : decode cd_M_loss 44 = .ok (.iload_n 1, 1) := by decide +kernel
theorem dd_M_loss_45 : decode cd_M_loss 45 = .ok (.invokevirtual 153, 3) := by decide +kernel
theorem dd_M_loss_48 : decode cd_M_loss 48 = .ok (.lreturn, 1) := by decide +kernel
theorem dd_M_lossOf_0 : decode cd_M_lossOf 0 = .ok (.aload_n 0, 1) := by decide +kernel
theorem dd_M_lossOf_1 : decode cd_M_lossOf 1 = .ok (.iload_n 1, 1) := by decide +kernel
theorem dd_M_lossOf_2 : decode cd_M_lossOf 2 = .ok (.invokevirtual 142, 3) := by decide +kernel
theorem dd_M_lossOf_5 : decode cd_M_lossOf 5 = .ok (.i2l, 1) := by decide +kernel
theorem dd_M_lossOf_6 : decode cd_M_lossOf 6 = .ok (.lstore_n 2, 1) := by decide +kernel
theorem dd_M_lossOf_7 : decode cd_M_lossOf 7 = .ok (.aload_n 0, 1) := by decide +kernel
theorem dd_M_lossOf_8 : decode cd_M_lossOf 8 = .ok (.getfield 38, 3) := by decide +kernel
theorem dd_M_lossOf_11 : decode cd_M_lossOf 11 = .ok (.aload_n 0, 1) := by decide +kernel
theorem dd_M_lossOf_12 : decode cd_M_lossOf 12 = .ok (.iload_n 1, 1) := by decide +kernel
theorem dd_M_lossOf_13 : decode cd_M_lossOf 13 = .ok (.invokevirtual 145, 3) := by decide +kernel
theorem dd_M_lossOf_16 : decode cd_M_lossOf 16 = .ok (.iaload, 1) := by decide +kernel
theorem dd_M_lossOf_17 : decode cd_M_lossOf 17 = .ok (.i2l, 1) := by decide +kernel
theorem dd_M_lossOf_18 : decode cd_M_lossOf 18 = .ok (.lstore 4, 2) := by decide +kernel
theorem dd_M_lossOf_20 : decode cd_M_lossOf 20 = .ok (.aload_n 0, 1) := by decide +kernel
theorem dd_M_lossOf_21 : decode cd_M_lossOf 21 = .ok (.getfield 22, 3) := by decide +kernel
theorem dd_M_lossOf_24 : decode cd_M_lossOf 24 = .ok (.iload_n 1, 1) := by decide +kernel
theorem dd_M_lossOf_25 : decode cd_M_lossOf 25 = .ok (.iaload, 1) := by decide +kernel
theorem dd_M_lossOf_26 : decode cd_M_lossOf 26 = .ok (.i2l, 1) := by decide +kernel
theorem dd_M_lossOf_27 : decode cd_M_lossOf 27 = .ok (.lload_n 2, 1) := by decide +kernel
theorem dd_M_lossOf_28 : decode cd_M_lossOf 28 = .ok (.lmul, 1) := by decide +kernel
theorem dd_M_lossOf_29 : decode cd_M_lossOf 29 = .ok (.lload_n 2, 1) := by decide +kernel
theorem dd_M_lossOf_30 : decode cd_M_lossOf 30 = .ok (.lmul, 1) := by decide +kernel
theorem dd_M_lossOf_31 : decode cd_M_lossOf 31 = .ok (.lload 4, 2) := by decide +kernel
theorem dd_M_lossOf_33 : decode cd_M_lossOf 33 = .ok (.lload 4, 2) := by decide +kernel
theorem dd_M_lossOf_35 : decode cd_M_lossOf 35 = .ok (.lmul, 1) := by decide +kernel
theorem dd_M_lossOf_36 : decode cd_M_lossOf 36 = .ok (.lload 4, 2) := by decide +kernel
theorem dd_M_lossOf_38 : decode cd_M_lossOf 38 = .ok (.lmul, 1) := by decide +kernel
theorem dd_M_lossOf_39 : decode cd_M_lossOf 39 = .ok (.ldiv, 1) := by decide +kernel
theorem dd_M_lossOf_40 : decode cd_M_lossOf 40 = .ok (.lreturn, 1) := by decide +kernel
theorem dd_M_pressure_0 : decode cd_M_pressure 0 = .ok (.aload_n 0, 1) := by decide +kernel
theorem dd_M_pressure_1 : decode cd_M_pressure 1 = .ok (.aload_n 0, 1) := by decide +kernel
theorem dd_M_pressure_2 : decode cd_M_pressure 2 = .ok (.iload_n 1, 1) := by decide +kernel
theorem dd_M_pressure_3 : decode cd_M_pressure 3 = .ok (.invokevirtual 148, 3) := by decide +kernel
theorem dd_M_pressure_6 : decode cd_M_pressure 6 = .ok (.ifCond .ne 14, 3) := by decide +kernel
theorem dd_M_pressure_9 : decode cd_M_pressure 9 = .ok (.lload_n 2, 1) := by decide +kernel
theorem dd_M_pressure_10 : decode cd_M_pressure 10 = .ok (.lconst 0, 1) := by decide +kernel
theorem dd_M_pressure_11 : decode cd_M_pressure 11 = .ok (.ldc2_w 157, 3) := by decide +kernel
theorem dd_M_pressure_14 : decode cd_M_pressure 14 = .ok (.invokestatic 65, 3) := by decide +kernel
theorem dd_M_pressure_17 : decode cd_M_pressure 17 = .ok (.ifCond .ne 7, 3) := by decide +kernel
theorem dd_M_pressure_20 : decode cd_M_pressure 20 = .ok (.iconst 1, 1) := by decide +kernel
theorem dd_M_pressure_21 : decode cd_M_pressure 21 = .ok (.goto 4, 3) := by decide +kernel
theorem dd_M_pressure_24 : decode cd_M_pressure 24 = .ok (.iconst 0, 1) := by decide +kernel
theorem dd_M_pressure_25 : decode cd_M_pressure 25 = .ok (.putfield 51, 3) := by decide +kernel
theorem dd_M_pressure_28 : decode cd_M_pressure 28 = .ok (.aload_n 0, 1) := by decide +kernel
theorem dd_M_pressure_29 : decode cd_M_pressure 29 = .ok (.getfield 51, 3) := by decide +kernel
theorem dd_M_pressure_32 : decode cd_M_pressure 32 = .ok (.ifCond .le 5, 3) := by decide +kernel
theorem dd_M_pressure_35 : decode cd_M_pressure 35 = .ok (.lconst 0, 1) := by decide +kernel
theorem dd_M_pressure_36 : decode cd_M_pressure 36 = .ok (.lreturn, 1) := by decide +kernel
theorem dd_M_pressure_37 : decode cd_M_pressure 37 = .ok (.aload_n 0, 1) := by decide +kernel
theorem dd_M_pressure_38 : decode cd_M_pressure 38 = .ok (.iload_n 1, 1) := by decide +kernel
theorem dd_M_pressure_39 : decode cd_M_pressure 39 = .ok (.invokevirtual 159, 3) := by decide +kernel
theorem dd_M_pressure_42 : decode cd_M_pressure 42 = .ok (.lstore 4, 2) := by decide +kernel
theorem dd_M_pressure_44 : decode cd_M_pressure 44 = .ok (.aload_n 0, 1) := by decide +kernel
theorem dd_M_pressure_45 : decode cd_M_pressure 45 = .ok (.lload 4, 2) := by decide +kernel
theorem dd_M_pressure_47 : decode cd_M_pressure 47 = .ok (.lconst 0, 1) := by decide +kernel
theorem dd_M_pressure_48 : decode cd_M_pressure 48 = .ok (.lcmp, 1) := by decide +kernel
theorem dd_M_pressure_49 : decode cd_M_pressure 49 = .ok (.ifCond .ge 7, 3) := by decide +kernel
theorem dd_M_pressure_52 : decode cd_M_pressure 52 = .ok (.iconst 2, 1) := by decide +kernel
theorem dd_M_pressure_53 : decode cd_M_pressure 53 = .ok (.goto 4, 3) := by decide +kernel
theorem dd_M_pressure_56 : decode cd_M_pressure 56 = .ok (.iconst 0, 1) := by decide +kernel
theorem dd_M_pressure_57 : decode cd_M_pressure 57 = .ok (.putfield 51, 3) := by decide +kernel
theorem dd_M_pressure_60 : decode cd_M_pressure 60 = .ok (.aload_n 0, 1) := by decide +kernel
theorem dd_M_pressure_61 : decode cd_M_pressure 61 = .ok (.getfield 51, 3) := by decide +kernel
theorem dd_M_pressure_64 : decode cd_M_pressure 64 = .ok (.ifCond .le 7, 3) := by decide +kernel
theorem dd_M_pressure_67 : decode cd_M_pressure 67 = .ok (.lconst 0, 1) := by decide +kernel
theorem dd_M_pressure_68 : decode cd_M_pressure 68 = .ok (.goto 7, 3) := by decide +kernel
theorem dd_M_pressure_71 : decode cd_M_pressure 71 = .ok (.lload_n 2, 1) := by decide +kernel
theorem dd_M_pressure_72 : decode cd_M_pressure 72 = .ok (.lload 4, 2) := by decide +kernel
theorem dd_M_pressure_74 : decode cd_M_pressure 74 = .ok (.lsub, 1) := by decide +kernel
theorem dd_M_pressure_75 : decode cd_M_pressure 75 = .ok (.lreturn, 1) := by decide +kernel
theorem dd_M_lost_0 : decode cd_M_lost 0 = .ok (.lconst 0, 1) := by decide +kernel
theorem dd_M_lost_1 : decode cd_M_lost 1 = .ok (.lstore_n 2, 1) := by decide +kernel
theorem dd_M_lost_2 : decode cd_M_lost 2 = .ok (.iload_n 1, 1) := by decide +kernel
theorem dd_M_lost_3 : decode cd_M_lost 3 = .ok (.istore 4, 2) := by decide +kernel
theorem dd_M_lost_5 : decode cd_M_lost 5 = .ok (.iload 4, 2) := by decide +kernel
theorem dd_M_lost_7 : decode cd_M_lost 7 = .ok (.iconst (-1), 1) := by decide +kernel
theorem dd_M_lost_8 : decode cd_M_lost 8 = .ok (.if_icmp .eq 38, 3) := by decide +kernel
theorem dd_M_lost_11 : decode cd_M_lost 11 = .ok (.aload_n 0, 1) := by decide +kernel
theorem dd_M_lost_12 : decode cd_M_lost 12 = .ok (.iload 4, 2) := by decide +kernel
theorem dd_M_lost_14 : decode cd_M_lost 14 = .ok (.invokevirtual 145, 3) := by decide +kernel
theorem dd_M_lost_17 : decode cd_M_lost 17 = .ok (.iconst (-1), 1) := by decide +kernel
theorem dd_M_lost_18 : decode cd_M_lost 18 = .ok (.if_icmp .ne 7, 3) := by decide +kernel
theorem dd_M_lost_21 : decode cd_M_lost 21 = .ok (.ldc2_w 151, 3) := by decide +kernel
theorem dd_M_lost_24 : decode cd_M_lost 24 = .ok (.lreturn, 1) := by decide +kernel
theorem dd_M_lost_25 : decode cd_M_lost 25 = .ok (.lload_n 2, 1) := by decide +kernel
theorem dd_M_lost_26 : decode cd_M_lost 26 = .ok (.aload_n 0, 1) := by decide +kernel
theorem dd_M_lost_27 : decode cd_M_lost 27 = .ok (.iload 4, 2) := by decide +kernel
theorem dd_M_lost_29 : decode cd_M_lost 29 = .ok (.invokevirtual 153, 3) := by decide +kernel
theorem dd_M_lost_32 : decode cd_M_lost 32 = .ok (.ladd, 1) := by decide +kernel
theorem dd_M_lost_33 : decode cd_M_lost 33 = .ok (.lstore_n 2, 1) := by decide +kernel
theorem dd_M_lost_34 : decode cd_M_lost 34 = .ok (.aload_n 0, 1) := by decide +kernel
theorem dd_M_lost_35 : decode cd_M_lost 35 = .ok (.getfield 19, 3) := by decide +kernel
theorem dd_M_lost_38 : decode cd_M_lost 38 = .ok (.iload 4, 2) := by decide +kernel
theorem dd_M_lost_40 : decode cd_M_lost 40 = .ok (.iaload, 1) := by decide +kernel
theorem dd_M_lost_41 : decode cd_M_lost 41 = .ok (.istore 4, 2) := by decide +kernel
theorem dd_M_lost_43 : decode cd_M_lost 43 = .ok (.goto (-38), 3) := by decide +kernel
theorem dd_M_lost_46 : decode cd_M_lost 46 = .ok (.lload_n 2, 1) := by decide +kernel
theorem dd_M_lost_47 : decode cd_M_lost 47 = .ok (.lreturn, 1) := by decide +kernel
theorem dd_M_farthest_0 : decode cd_M_farthest 0 = .ok (.aload_n 0, 1) := by decide +kernel
theorem dd_M_farthest_1 : decode cd_M_farthest 1 = .ok (.aload_n 0, 1) := by decide +kernel
theorem dd_M_farthest_2 : decode cd_M_farthest 2 = .ok (.getfield 74, 3) := by decide +kernel
theorem dd_M_farthest_5 : decode cd_M_farthest 5 = .ok (.ifCond .ne 7, 3) := by decide +kernel
theorem dd_M_farthest_8 : decode cd_M_farthest 8 = .ok (.iconst 1, 1) := by decide +kernel
theorem dd_M_farthest_9 : decode cd_M_farthest 9 = .ok (.goto 4, 3) := by decide +kernel
theorem dd_M_farthest_12 : decode cd_M_farthest 12 = .ok (.iconst 0, 1) := by decide +kernel
theorem dd_M_farthest_13 : decode cd_M_farthest 13 = .ok (.putfield 51, 3) := by decide +kernel
theorem dd_M_farthest_16 : decode cd_M_farthest 16 = .ok (.iconst (-1), 1) := by decide +kernel
theorem dd_M_farthest_17 : decode cd_M_farthest 17 = .ok (.istore_n 1, 1) := by decide +kernel
theorem dd_M_farthest_18 : decode cd_M_farthest 18 = .ok (.ldc2_w 151, 3) := by decide +kernel
theorem dd_M_farthest_21 : decode cd_M_farthest 21 = .ok (.lstore_n 2, 1) := by decide +kernel
theorem dd_M_farthest_22 : decode cd_M_farthest 22 = .ok (.iconst 0, 1) := by decide +kernel
theorem dd_M_farthest_23 : decode cd_M_farthest 23 = .ok (.istore 4, 2) := by decide +kernel
theorem dd_M_farthest_25 : decode cd_M_farthest 25 = .ok (.iload 4, 2) := by decide +kernel
theorem dd_M_farthest_27 : decode cd_M_farthest 27 = .ok (.aload_n 0, 1) := by decide +kernel
theorem dd_M_farthest_28 : decode cd_M_farthest 28 = .ok (.getfield 74, 3) := by decide +kernel
theorem dd_M_farthest_31 : decode cd_M_farthest 31 = .ok (.if_icmp .ge 68, 3) := by decide +kernel
theorem dd_M_farthest_34 : decode cd_M_farthest 34 = .ok (.aload_n 0, 1) := by decide +kernel
theorem dd_M_farthest_35 : decode cd_M_farthest 35 = .ok (.getfield 51, 3) := by decide +kernel
theorem dd_M_farthest_38 : decode cd_M_farthest 38 = .ok (.ifCond .ne 61, 3) := by decide +kernel
theorem dd_M_farthest_41 : decode cd_M_farthest 41 = .ok (.aload_n 0, 1) := by decide +kernel
theorem dd_M_farthest_42 : decode cd_M_farthest 42 = .ok (.iload 4, 2) := by decide +kernel
theorem dd_M_farthest_44 : decode cd_M_farthest 44 = .ok (.invokevirtual 159, 3) := by decide +kernel
theorem dd_M_farthest_47 : decode cd_M_farthest 47 = .ok (.lstore 5, 2) := by decide +kernel
theorem dd_M_farthest_49 : decode cd_M_farthest 49 = .ok (.aload_n 0, 1) := by decide +kernel
theorem dd_M_farthest_50 : decode cd_M_farthest 50 = .ok (.lload 5, 2) := by decide +kernel
theorem dd_M_farthest_52 : decode cd_M_farthest 52 = .ok (.lconst 0, 1) := by decide +kernel
theorem dd_M_farthest_53 : decode cd_M_farthest 53 = .ok (.lcmp, 1) := by decide +kernel
theorem dd_M_farthest_54 : decode cd_M_farthest 54 = .ok (.ifCond .ge 7, 3) := by decide +kernel
theorem dd_M_farthest_57 : decode cd_M_farthest 57 = .ok (.iconst 1, 1) := by decide +kernel
theorem dd_M_farthest_58 : decode cd_M_farthest 58 = .ok (.goto 4, 3) := by decide +kernel
theorem dd_M_farthest_61 : decode cd_M_farthest 61 = .ok (.iconst 0, 1) := by decide +kernel
theorem dd_M_farthest_62 : decode cd_M_farthest 62 = .ok (.putfield 51, 3) := by decide +kernel
theorem dd_M_farthest_65 : decode cd_M_farthest 65 = .ok (.lload 5, 2) := by decide +kernel
theorem dd_M_farthest_67 : decode cd_M_farthest 67 = .ok (.lload_n 2, 1) := by decide +kernel
theorem dd_M_farthest_68 : decode cd_M_farthest 68 = .ok (.lcmp, 1) := by decide +kernel
theorem dd_M_farthest_69 : decode cd_M_farthest 69 = .ok (.ifCond .le 8, 3) := by decide +kernel
theorem dd_M_farthest_72 : decode cd_M_farthest 72 = .ok (.iload 4, 2) := by decide +kernel
theorem dd_M_farthest_74 : decode cd_M_farthest 74 = .ok (.goto 4, 3) := by decide +kernel
theorem dd_M_farthest_77 : decode cd_M_farthest 77 = .ok (.iload_n 1, 1) := by decide +kernel
theorem dd_M_farthest_78 : decode cd_M_farthest 78 = .ok (.istore_n 1, 1) := by decide +kernel
theorem dd_M_farthest_79 : decode cd_M_farthest 79 = .ok (.lload 5, 2) := by decide +kernel
theorem dd_M_farthest_81 : decode cd_M_farthest 81 = .ok (.lload_n 2, 1) := by decide +kernel
theorem dd_M_farthest_82 : decode cd_M_farthest 82 = .ok (.lcmp, 1) := by decide +kernel
theorem dd_M_farthest_83 : decode cd_M_farthest 83 = .ok (.ifCond .le 8, 3) := by decide +kernel
theorem dd_M_farthest_86 : decode cd_M_farthest 86 = .ok (.lload 5, 2) := by decide +kernel
theorem dd_M_farthest_88 : decode cd_M_farthest 88 = .ok (.goto 4, 3) := by decide +kernel
theorem dd_M_farthest_91 : decode cd_M_farthest 91 = .ok (.lload_n 2, 1) := by decide +kernel
theorem dd_M_farthest_92 : decode cd_M_farthest 92 = .ok (.lstore_n 2, 1) := by decide +kernel
theorem dd_M_farthest_93 : decode cd_M_farthest 93 = .ok (.iinc 4 1, 3) := by decide +kernel
theorem dd_M_farthest_96 : decode cd_M_farthest 96 = .ok (.goto (-71), 3) := by decide +kernel
theorem dd_M_farthest_99 : decode cd_M_farthest 99 = .ok (.aload_n 0, 1) := by decide +kernel
theorem dd_M_farthest_100 : decode cd_M_farthest 100 = .ok (.getfield 51, 3) := by decide +kernel
theorem dd_M_farthest_103 : decode cd_M_farthest 103 = .ok (.ifCond .le 7, 3) := by decide +kernel
theorem dd_M_farthest_106 : decode cd_M_farthest 106 = .ok (.iconst 0, 1) := by decide +kernel
theorem dd_M_farthest_107 : decode cd_M_farthest 107 = .ok (.goto 4, 3) := by decide +kernel
theorem dd_M_farthest_110 : decode cd_M_farthest 110 = .ok (.iload_n 1, 1) := by decide +kernel
theorem dd_M_farthest_111 : decode cd_M_farthest 111 = .ok (.ireturn, 1) := by decide +kernel
