theorem dd_K_init_0 : decode cd_K_init 0 = .ok (.aload_n 0, 1) := by decide +kernel
theorem dd_K_init_1 : decode cd_K_init 1 = .ok (.invokespecial 3, 3) := by decide +kernel
theorem dd_K_init_4 : decode cd_K_init 4 = .ok (.aload_n 0, 1) := by decide +kernel
theorem dd_K_init_5 : decode cd_K_init 5 = .ok (.iconst 0, 1) := by decide +kernel
theorem dd_K_init_6 : decode cd_K_init 6 = .ok (.putfield 9, 3) := by decide +kernel
theorem dd_K_init_9 : decode cd_K_init 9 = .ok (.aload_n 0, 1) := by decide +kernel
theorem dd_K_init_10 : decode cd_K_init 10 = .ok (.bipush 8, 2) := by decide +kernel
theorem dd_K_init_12 : decode cd_K_init 12 = .ok (.newarray .int, 2) := by decide +kernel
theorem dd_K_init_14 : decode cd_K_init 14 = .ok (.putfield 15, 3) := by decide +kernel
theorem dd_K_init_17 : decode cd_K_init 17 = .ok (.aload_n 0, 1) := by decide +kernel
theorem dd_K_init_18 : decode cd_K_init 18 = .ok (.bipush 8, 2) := by decide +kernel
theorem dd_K_init_20 : decode cd_K_init 20 = .ok (.newarray .int, 2) := by decide +kernel
theorem dd_K_init_22 : decode cd_K_init 22 = .ok (.putfield 19, 3) := by decide +kernel
theorem dd_K_init_25 : decode cd_K_init 25 = .ok (.aload_n 0, 1) := by decide +kernel
theorem dd_K_init_26 : decode cd_K_init 26 = .ok (.bipush 8, 2) := by decide +kernel
theorem dd_K_init_28 : decode cd_K_init 28 = .ok (.newarray .int, 2) := by decide +kernel
theorem dd_K_init_30 : decode cd_K_init 30 = .ok (.putfield 22, 3) := by decide +kernel
theorem dd_K_init_33 : decode cd_K_init 33 = .ok (.return_, 1) := by decide +kernel
theorem dd_T_init_0 : decode cd_T_init 0 = .ok (.aload_n 0, 1) := by decide +kernel
theorem dd_T_init_1 : decode cd_T_init 1 = .ok (.invokespecial 3, 3) := by decide +kernel
theorem dd_T_init_4 : decode cd_T_init 4 = .ok (.aload_n 0, 1) := by decide +kernel
theorem dd_T_init_5 : decode cd_T_init 5 = .ok (.iconst 0, 1) := by decide +kernel
theorem dd_T_init_6 : decode cd_T_init 6 = .ok (.putfield 9, 3) := by decide +kernel
theorem dd_T_init_9 : decode cd_T_init 9 = .ok (.aload_n 0, 1) := by decide +kernel
theorem dd_T_init_10 : decode cd_T_init 10 = .ok (.bipush 20, 2) := by decide +kernel
theorem dd_T_init_12 : decode cd_T_init 12 = .ok (.newarray .int, 2) := by decide +kernel
theorem dd_T_init_14 : decode cd_T_init 14 = .ok (.putfield 15, 3) := by decide +kernel
theorem dd_T_init_17 : decode cd_T_init 17 = .ok (.aload_n 0, 1) := by decide +kernel
theorem dd_T_init_18 : decode cd_T_init 18 = .ok (.bipush 20, 2) := by decide +kernel
theorem dd_T_init_20 : decode cd_T_init 20 = .ok (.newarray .int, 2) := by decide +kernel
theorem dd_T_init_22 : decode cd_T_init 22 = .ok (.putfield 19, 3) := by decide +kernel
theorem dd_T_init_25 : decode cd_T_init 25 = .ok (.aload_n 0, 1) := by decide +kernel
theorem dd_T_init_26 : decode cd_T_init 26 = .ok (.bipush 20, 2) := by decide +kernel
theorem dd_T_init_28 : decode cd_T_init 28 = .ok (.bipush 8, 2) := by decide +kernel
theorem dd_T_init_30 : decode cd_T_init 30 = .ok (.multianewarray 22 2, 4) := by decide +kernel
theorem dd_T_init_34 : decode cd_T_init 34 = .ok (.putfield 24, 3) := by decide +kernel
theorem dd_T_init_37 : decode cd_T_init 37 = .ok (.aload_n 0, 1) := by decide +kernel
theorem dd_T_init_38 : decode cd_T_init 38 = .ok (.bipush 20, 2) := by decide +kernel
theorem dd_T_init_40 : decode cd_T_init 40 = .ok (.bipush 8, 2) := by decide +kernel
theorem dd_T_init_42 : decode cd_T_init 42 = .ok (.multianewarray 22 2, 4) := by decide +kernel
theorem dd_T_init_46 : decode cd_T_init 46 = .ok (.putfield 27, 3) := by decide +kernel
theorem dd_T_init_49 : decode cd_T_init 49 = .ok (.return_, 1) := by decide +kernel
theorem dd_L_init_0 : decode cd_L_init 0 = .ok (.aload_n 0, 1) := by decide +kernel
theorem dd_L_init_1 : decode cd_L_init 1 = .ok (.invokespecial 3, 3) := by decide +kernel
theorem dd_L_init_4 : decode cd_L_init 4 = .ok (.aload_n 0, 1) := by decide +kernel
theorem dd_L_init_5 : decode cd_L_init 5 = .ok (.iconst 0, 1) := by decide +kernel
theorem dd_L_init_6 : decode cd_L_init 6 = .ok (.putfield 9, 3) := by decide +kernel
theorem dd_L_init_9 : decode cd_L_init 9 = .ok (.aload_n 0, 1) := by decide +kernel
theorem dd_L_init_10 : decode cd_L_init 10 = .ok (.bipush 20, 2) := by decide +kernel
theorem dd_L_init_12 : decode cd_L_init 12 = .ok (.newarray .int, 2) := by decide +kernel
theorem dd_L_init_14 : decode cd_L_init 14 = .ok (.putfield 15, 3) := by decide +kernel
theorem dd_L_init_17 : decode cd_L_init 17 = .ok (.aload_n 0, 1) := by decide +kernel
theorem dd_L_init_18 : decode cd_L_init 18 = .ok (.bipush 20, 2) := by decide +kernel
theorem dd_L_init_20 : decode cd_L_init 20 = .ok (.newarray .int, 2) := by decide +kernel
theorem dd_L_init_22 : decode cd_L_init 22 = .ok (.putfield 19, 3) := by decide +kernel
theorem dd_L_init_25 : decode cd_L_init 25 = .ok (.aload_n 0, 1) := by decide +kernel
theorem dd_L_init_26 : decode cd_L_init 26 = .ok (.bipush 20, 2) := by decide +kernel
theorem dd_L_init_28 : decode cd_L_init 28 = .ok (.newarray .int, 2) := by decide +kernel
theorem dd_L_init_30 : decode cd_L_init 30 = .ok (.putfield 22, 3) := by decide +kernel
theorem dd_L_init_33 : decode cd_L_init 33 = .ok (.return_, 1) := by decide +kernel
theorem dd_O_init_0 : decode cd_O_init 0 = .ok (.aload_n 0, 1) := by decide +kernel
theorem dd_O_init_1 : decode cd_O_init 1 = .ok (.invokespecial 1, 3) := by decide +kernel
theorem dd_O_init_4 : decode cd_O_init 4 = .ok (.aload_n 0, 1) := by decide +kernel
theorem dd_O_init_5 : decode cd_O_init 5 = .ok (.new 7, 3) := by decide +kernel
theorem dd_O_init_8 : decode cd_O_init 8 = .ok (.dup, 1) := by decide +kernel
theorem dd_O_init_9 : decode cd_O_init 9 = .ok (.invokespecial 9, 3) := by decide +kernel
theorem dd_O_init_12 : decode cd_O_init 12 = .ok (.putfield 10, 3) := by decide +kernel
theorem dd_O_init_15 : decode cd_O_init 15 = .ok (.aload_n 0, 1) := by decide +kernel
theorem dd_O_init_16 : decode cd_O_init 16 = .ok (.new 7, 3) := by decide +kernel
theorem dd_O_init_19 : decode cd_O_init 19 = .ok (.dup, 1) := by decide +kernel
theorem dd_O_init_20 : decode cd_O_init 20 = .ok (.invokespecial 9, 3) := by decide +kernel
theorem dd_O_init_23 : decode cd_O_init 23 = .ok (.putfield 16, 3) := by decide +kernel
theorem dd_O_init_26 : decode cd_O_init 26 = .ok (.aload_n 0, 1) := by decide +kernel
theorem dd_O_init_27 : decode cd_O_init 27 = .ok (.new 7, 3) := by decide +kernel
theorem dd_O_init_30 : decode cd_O_init 30 = .ok (.dup, 1) := by decide +kernel
theorem dd_O_init_31 : decode cd_O_init 31 = .ok (.invokespecial 9, 3) := by decide +kernel
theorem dd_O_init_34 : decode cd_O_init 34 = .ok (.putfield 19, 3) := by decide +kernel
theorem dd_O_init_37 : decode cd_O_init 37 = .ok (.aload_n 0, 1) := by decide +kernel
theorem dd_O_init_38 : decode cd_O_init 38 = .ok (.iconst 1, 1) := by decide +kernel
theorem dd_O_init_39 : decode cd_O_init 39 = .ok (.putfield 22, 3) := by decide +kernel
theorem dd_O_init_42 : decode cd_O_init 42 = .ok (.aload_n 0, 1) := by decide +kernel
theorem dd_O_init_43 : decode cd_O_init 43 = .ok (.iconst 1, 1) := by decide +kernel
theorem dd_O_init_44 : decode cd_O_init 44 = .ok (.putfield 26, 3) := by decide +kernel
theorem dd_O_init_47 : decode cd_O_init 47 = .ok (.aload_n 0, 1) := by decide +kernel
theorem dd_O_init_48 : decode cd_O_init 48 = .ok (.iconst 0, 1) := by decide +kernel
theorem dd_O_init_49 : decode cd_O_init 49 = .ok (.putfield 29, 3) := by decide +kernel
theorem dd_O_init_52 : decode cd_O_init 52 = .ok (.aload_n 0, 1) := by decide +kernel
theorem dd_O_init_53 : decode cd_O_init 53 = .ok (.iconst 0, 1) := by decide +kernel
theorem dd_O_init_54 : decode cd_O_init 54 = .ok (.putfield 32, 3) := by decide +kernel
theorem dd_O_init_57 : decode cd_O_init 57 = .ok (.return_, 1) := by decide +kernel
theorem dd_H_init_0 : decode cd_H_init 0 = .ok (.aload_n 0, 1) := by decide +kernel
theorem dd_H_init_1 : decode cd_H_init 1 = .ok (.invokespecial 1, 3) := by decide +kernel
theorem dd_H_init_4 : decode cd_H_init 4 = .ok (.aload_n 0, 1) := by decide +kernel
theorem dd_H_init_5 : decode cd_H_init 5 = .ok (.bipush 16, 2) := by decide +kernel
theorem dd_H_init_7 : decode cd_H_init 7 = .ok (.newarray .long, 2) := by decide +kernel
theorem dd_H_init_9 : decode cd_H_init 9 = .ok (.putfield 9, 3) := by decide +kernel
theorem dd_H_init_12 : decode cd_H_init 12 = .ok (.aload_n 0, 1) := by decide +kernel
theorem dd_H_init_13 : decode cd_H_init 13 = .ok (.iconst 1, 1) := by decide +kernel
theorem dd_H_init_14 : decode cd_H_init 14 = .ok (.putfield 13, 3) := by decide +kernel
theorem dd_H_init_17 : decode cd_H_init 17 = .ok (.return_, 1) := by decide +kernel
theorem dd_P_init_0 : decode cd_P_init 0 = .ok (.aload_n 0, 1) := by decide +kernel
theorem dd_P_init_1 : decode cd_P_init 1 = .ok (.invokespecial 1, 3) := by decide +kernel
theorem dd_P_init_4 : decode cd_P_init 4 = .ok (.aload_n 0, 1) := by decide +kernel
theorem dd_P_init_5 : decode cd_P_init 5 = .ok (.iconst 0, 1) := by decide +kernel
theorem dd_P_init_6 : decode cd_P_init 6 = .ok (.putfield 7, 3) := by decide +kernel
theorem dd_P_init_9 : decode cd_P_init 9 = .ok (.aload_n 0, 1) := by decide +kernel
theorem dd_P_init_10 : decode cd_P_init 10 = .ok (.new 13, 3) := by decide +kernel
theorem dd_P_init_13 : decode cd_P_init 13 = .ok (.dup, 1) := by decide +kernel
theorem dd_P_init_14 : decode cd_P_init 14 = .ok (.invokespecial 15, 3) := by decide +kernel
theorem dd_P_init_17 : decode cd_P_init 17 = .ok (.putfield 16, 3) := by decide +kernel
theorem dd_P_init_20 : decode cd_P_init 20 = .ok (.aload_n 0, 1) := by decide +kernel
theorem dd_P_init_21 : decode cd_P_init 21 = .ok (.new 13, 3) := by decide +kernel
theorem dd_P_init_24 : decode cd_P_init 24 = .ok (.dup, 1) := by decide +kernel
theorem dd_P_init_25 : decode cd_P_init 25 = .ok (.invokespecial 15, 3) := by decide +kernel
theorem dd_P_init_28 : decode cd_P_init 28 = .ok (.putfield 20, 3) := by decide +kernel
theorem dd_P_init_31 : decode cd_P_init 31 = .ok (.return_, 1) := by decide +kernel
theorem dd_A_fillI_0 : decode cd_A_fillI 0 = .ok (.iconst 0, 1) := by decide +kernel
theorem dd_A_fillI_1 : decode cd_A_fillI 1 = .ok (.istore_n 2, 1) := by decide +kernel
theorem dd_A_fillI_2 : decode cd_A_fillI 2 = .ok (.aload_n 0, 1) := by decide +kernel
theorem dd_A_fillI_3 : decode cd_A_fillI 3 = .ok (.arraylength, 1) := by decide +kernel
theorem dd_A_fillI_4 : decode cd_A_fillI 4 = .ok (.istore_n 3, 1) := by decide +kernel
theorem dd_A_fillI_5 : decode cd_A_fillI 5 = .ok (.iload_n 2, 1) := by decide +kernel
theorem dd_A_fillI_6 : decode cd_A_fillI 6 = .ok (.iload_n 3, 1) := by decide +kernel
theorem dd_A_fillI_7 : decode cd_A_fillI 7 = .ok (.if_icmp .ge 13, 3) := by decide +kernel
theorem dd_A_fillI_10 : decode cd_A_fillI 10 = .ok (.aload_n 0, 1) := by decide +kernel
theorem dd_A_fillI_11 : decode cd_A_fillI 11 = .ok (.iload_n 2, 1) := by decide +kernel
theorem dd_A_fillI_12 : decode cd_A_fillI 12 = .ok (.iload_n 1, 1) := by decide +kernel
theorem dd_A_fillI_13 : decode cd_A_fillI 13 = .ok (.iastore, 1) := by decide +kernel
theorem dd_A_fillI_14 : decode cd_A_fillI 14 = .ok (.iinc 2 1, 3) := by decide +kernel
theorem dd_A_fillI_17 : decode cd_A_fillI 17 = .ok (.goto (-12), 3) := by decide +kernel
theorem dd_A_fillI_20 : decode cd_A_fillI 20 = .ok (.return_, 1) := by decide +kernel
theorem dd_O_begin_0 : decode cd_O_begin 0 = .ok (.aload_n 0, 1) := by decide +kernel
theorem dd_O_begin_1 : decode cd_O_begin 1 = .ok (.iload_n 1, 1) := by decide +kernel
theorem dd_O_begin_2 : decode cd_O_begin 2 = .ok (.putfield 22, 3) := by decide +kernel
theorem dd_O_begin_5 : decode cd_O_begin 5 = .ok (.aload_n 0, 1) := by decide +kernel
theorem dd_O_begin_6 : decode cd_O_begin 6 = .ok (.iload_n 2, 1) := by decide +kernel
theorem dd_O_begin_7 : decode cd_O_begin 7 = .ok (.iload_n 1, 1) := by decide +kernel
theorem dd_O_begin_8 : decode cd_O_begin 8 = .ok (.isub, 1) := by decide +kernel
theorem dd_O_begin_9 : decode cd_O_begin 9 = .ok (.putfield 26, 3) := by decide +kernel
theorem dd_O_begin_12 : decode cd_O_begin 12 = .ok (.aload_n 0, 1) := by decide +kernel
theorem dd_O_begin_13 : decode cd_O_begin 13 = .ok (.iload_n 3, 1) := by decide +kernel
theorem dd_O_begin_14 : decode cd_O_begin 14 = .ok (.putfield 29, 3) := by decide +kernel
theorem dd_O_begin_17 : decode cd_O_begin 17 = .ok (.aload_n 0, 1) := by decide +kernel
theorem dd_O_begin_18 : decode cd_O_begin 18 = .ok (.iload_n 3, 1) := by decide +kernel
theorem dd_O_begin_19 : decode cd_O_begin 19 = .ok (.putfield 32, 3) := by decide +kernel
theorem dd_O_begin_22 : decode cd_O_begin 22 = .ok (.aload_n 0, 1) := by decide +kernel
theorem dd_O_begin_23 : decode cd_O_begin 23 = .ok (.getfield 10, 3) := by decide +kernel
theorem dd_O_begin_26 : decode cd_O_begin 26 = .ok (.iload_n 2, 1) := by decide +kernel
theorem dd_O_begin_27 : decode cd_O_begin 27 = .ok (.iload_n 3, 1) := by decide +kernel
theorem dd_O_begin_28 : decode cd_O_begin 28 = .ok (.invokevirtual 35, 3) := by decide +kernel
theorem dd_O_begin_31 : decode cd_O_begin 31 = .ok (.aload_n 0, 1) := by decide +kernel
theorem dd_O_begin_32 : decode cd_O_begin 32 = .ok (.getfield 16, 3) := by decide +kernel
theorem dd_O_begin_35 : decode cd_O_begin 35 = .ok (.iload_n 1, 1) := by decide +kernel
theorem dd_O_begin_36 : decode cd_O_begin 36 = .ok (.iload_n 3, 1) := by decide +kernel
theorem dd_O_begin_37 : decode cd_O_begin 37 = .ok (.invokevirtual 35, 3) := by decide +kernel
theorem dd_O_begin_40 : decode cd_O_begin 40 = .ok (.aload_n 0, 1) := by decide +kernel
theorem dd_O_begin_41 : decode cd_O_begin 41 = .ok (.getfield 19, 3) := by decide +kernel
theorem dd_O_begin_44 : decode cd_O_begin 44 = .ok (.iconst 0, 1) := by decide +kernel
theorem dd_O_begin_45 : decode cd_O_begin 45 = .ok (.invokevirtual 39, 3) := by decide +kernel
theorem dd_O_begin_48 : decode cd_O_begin 48 = .ok (.return_, 1) := by decide +kernel
theorem dd_H_becomePower_0 : decode cd_H_becomePower 0 = .ok (.aload_n 0, 1) := by decide +kernel
theorem dd_H_becomePower_1 : decode cd_H_becomePower 1 = .ok (.iconst 1, 1) := by decide +kernel
theorem dd_H_becomePower_2 : decode cd_H_becomePower 2 = .ok (.invokevirtual 29, 3) := by decide +kernel
theorem dd_H_becomePower_5 : decode cd_H_becomePower 5 = .ok (.iconst 0, 1) := by decide +kernel
theorem dd_H_becomePower_6 : decode cd_H_becomePower 6 = .ok (.istore_n 3, 1) := by decide +kernel
theorem dd_H_becomePower_7 : decode cd_H_becomePower 7 = .ok (.iload_n 3, 1) := by decide +kernel
theorem dd_H_becomePower_8 : decode cd_H_becomePower 8 = .ok (.iload_n 2, 1) := by decide +kernel
theorem dd_H_becomePower_9 : decode cd_H_becomePower 9 = .ok (.if_icmp .ge 14, 3) := by decide +kernel
theorem dd_H_becomePower_12 : decode cd_H_becomePower 12 = .ok (.aload_n 0, 1) := by decide +kernel
theorem dd_H_becomePower_13 : decode cd_H_becomePower 13 = .ok (.iload_n 1, 1) := by decide +kernel
theorem dd_H_becomePower_14 : decode cd_H_becomePower 14 = .ok (.invokevirtual 33, 3) := by decide +kernel
theorem dd_H_becomePower_17 : decode cd_H_becomePower 17 = .ok (.iinc 3 1, 3) := by decide +kernel
theorem dd_H_becomePower_20 : decode cd_H_becomePower 20 = .ok (.goto (-13), 3) := by decide +kernel
theorem dd_H_becomePower_23 : decode cd_H_becomePower 23 = .ok (.return_, 1) := by decide +kernel
theorem dd_H_become_0 : decode cd_H_become 0 = .ok (.aload_n 0, 1) := by decide +kernel
theorem dd_H_become_1 : decode cd_H_become 1 = .ok (.getfield 9, 3) := by decide +kernel
theorem dd_H_become_4 : decode cd_H_become 4 = .ok (.lconst 0, 1) := by decide +kernel
theorem dd_H_become_5 : decode cd_H_become 5 = .ok (.invokestatic 17, 3) := by decide +kernel
theorem dd_H_become_8 : decode cd_H_become 8 = .ok (.aload_n 0, 1) := by decide +kernel
theorem dd_H_become_9 : decode cd_H_become 9 = .ok (.getfield 9, 3) := by decide +kernel
theorem dd_H_become_12 : decode cd_H_become 12 = .ok (.iconst 0, 1) := by decide +kernel
theorem dd_H_become_13 : decode cd_H_become 13 = .ok (.iload_n 1, 1) := by decide +kernel
theorem dd_H_become_14 : decode cd_H_become 14 = .ok (.i2l, 1) := by decide +kernel
theorem dd_H_become_15 : decode cd_H_become 15 = .ok (.lastore, 1) := by decide +kernel
theorem dd_H_become_16 : decode cd_H_become 16 = .ok (.aload_n 0, 1) := by decide +kernel
theorem dd_H_become_17 : decode cd_H_become 17 = .ok (.iconst 1, 1) := by decide +kernel
theorem dd_H_become_18 : decode cd_H_become 18 = .ok (.putfield 13, 3) := by decide +kernel
theorem dd_H_become_21 : decode cd_H_become 21 = .ok (.return_, 1) := by decide +kernel
theorem dd_A_fillJ_0 : decode cd_A_fillJ 0 = .ok (.iconst 0, 1) := by decide +kernel
theorem dd_A_fillJ_1 : decode cd_A_fillJ 1 = .ok (.istore_n 3, 1) := by decide +kernel
theorem dd_A_fillJ_2 : decode cd_A_fillJ 2 = .ok (.aload_n 0, 1) := by decide +kernel
theorem dd_A_fillJ_3 : decode cd_A_fillJ 3 = .ok (.arraylength, 1) := by decide +kernel
theorem dd_A_fillJ_4 : decode cd_A_fillJ 4 = .ok (.istore 4, 2) := by decide +kernel
theorem dd_A_fillJ_6 : decode cd_A_fillJ 6 = .ok (.iload_n 3, 1) := by decide +kernel
theorem dd_A_fillJ_7 : decode cd_A_fillJ 7 = .ok (.iload 4, 2) := by decide +kernel
theorem dd_A_fillJ_9 : decode cd_A_fillJ 9 = .ok (.if_icmp .ge 13, 3) := by decide +kernel
theorem dd_A_fillJ_12 : decode cd_A_fillJ 12 = .ok (.aload_n 0, 1) := by decide +kernel
theorem dd_A_fillJ_13 : decode cd_A_fillJ 13 = .ok (.iload_n 3, 1) := by decide +kernel
theorem dd_A_fillJ_14 : decode cd_A_fillJ 14 = .ok (.lload_n 1, 1) := by decide +kernel
theorem dd_A_fillJ_15 : decode cd_A_fillJ 15 = .ok (.lastore, 1) := by decide +kernel
theorem dd_A_fillJ_16 : decode cd_A_fillJ 16 = .ok (.iinc 3 1, 3) := by decide +kernel
theorem dd_A_fillJ_19 : decode cd_A_fillJ 19 = .ok (.goto (-13), 3) := by decide +kernel
theorem dd_A_fillJ_22 : decode cd_A_fillJ 22 = .ok (.return_, 1) := by decide +kernel
theorem dd_H_multiply_0 : decode cd_H_multiply 0 = .ok (.lconst 0, 1) := by decide +kernel
theorem dd_H_multiply_1 : decode cd_H_multiply 1 = .ok (.lstore_n 2, 1) := by decide +kernel
theorem dd_H_multiply_2 : decode cd_H_multiply 2 = .ok (.iconst 0, 1) := by decide +kernel
theorem dd_H_multiply_3 : decode cd_H_multiply 3 = .ok (.istore 4, 2) := by decide +kernel
theorem dd_H_multiply_5 : decode cd_H_multiply 5 = .ok (.iload 4, 2) := by decide +kernel
theorem dd_H_multiply_7 : decode cd_H_multiply 7 = .ok (.aload_n 0, 1) := by decide +kernel
theorem dd_H_multiply_8 : decode cd_H_multiply 8 = .ok (.getfield 13, 3) := by decide +kernel
theorem dd_H_multiply_11 : decode cd_H_multiply 11 = .ok (.if_icmp .ge 45, 3) := by decide +kernel
theorem dd_H_multiply_14 : decode cd_H_multiply 14 = .ok (.aload_n 0, 1) := by decide +kernel
theorem dd_H_multiply_15 : decode cd_H_multiply 15 = .ok (.getfield 9, 3) := by decide +kernel
theorem dd_H_multiply_18 : decode cd_H_multiply 18 = .ok (.iload 4, 2) := by decide +kernel
theorem dd_H_multiply_20 : decode cd_H_multiply 20 = .ok (.laload, 1) := by decide +kernel
theorem dd_H_multiply_21 : decode cd_H_multiply 21 = .ok (.iload_n 1, 1) := by decide +kernel
theorem dd_H_multiply_22 : decode cd_H_multiply 22 = .ok (.i2l, 1) := by decide +kernel
theorem dd_H_multiply_23 : decode cd_H_multiply 23 = .ok (.lmul, 1) := by decide +kernel
theorem dd_H_multiply_24 : decode cd_H_multiply 24 = .ok (.lload_n 2, 1) := by decide +kernel
theorem dd_H_multiply_25 : decode cd_H_multiply 25 = .ok (.ladd, 1) := by decide +kernel
theorem dd_H_multiply_26 : decode cd_H_multiply 26 = .ok (.lstore 5, 2) := by decide +kernel
theorem dd_H_multiply_28 : decode cd_H_multiply 28 = .ok (.lload 5, 2) := by decide +kernel
theorem dd_H_multiply_30 : decode cd_H_multiply 30 = .ok (.ldc2_w 36, 3) := by decide +kernel
theorem dd_H_multiply_33 : decode cd_H_multiply 33 = .ok (.ldiv, 1) := by decide +kernel
theorem dd_H_multiply_34 : decode cd_H_multiply 34 = .ok (.lstore_n 2, 1) := by decide +kernel
theorem dd_H_multiply_35 : decode cd_H_multiply 35 = .ok (.aload_n 0, 1) := by decide +kernel
theorem dd_H_multiply_36 : decode cd_H_multiply 36 = .ok (.getfield 9, 3) := by decide +kernel
theorem dd_H_multiply_39 : decode cd_H_multiply 39 = .ok (.iload 4, 2) := by decide +kernel
theorem dd_H_multiply_41 : decode cd_H_multiply 41 = .ok (.lload 5, 2) := by decide +kernel
theorem dd_H_multiply_43 : decode cd_H_multiply 43 = .ok (.lload_n 2, 1) := by decide +kernel
theorem dd_H_multiply_44 : decode cd_H_multiply 44 = .ok (.ldc2_w 36, 3) := by decide +kernel
theorem dd_H_multiply_47 : decode cd_H_multiply 47 = .ok (.lmul, 1) := by decide +kernel
theorem dd_H_multiply_48 : decode cd_H_multiply 48 = .ok (.lsub, 1) := by decide +kernel
theorem dd_H_multiply_49 : decode cd_H_multiply 49 = .ok (.lastore, 1) := by decide +kernel
theorem dd_H_multiply_50 : decode cd_H_multiply 50 = .ok (.iinc 4 1, 3) := by decide +kernel
theorem dd_H_multiply_53 : decode cd_H_multiply 53 = .ok (.goto (-48), 3) := by decide +kernel
theorem dd_H_multiply_56 : decode cd_H_multiply 56 = .ok (.lload_n 2, 1) := by decide +kernel
theorem dd_H_multiply_57 : decode cd_H_multiply 57 = .ok (.lconst 0, 1) := by decide +kernel
theorem dd_H_multiply_58 : decode cd_H_multiply 58 = .ok (.lcmp, 1) := by decide +kernel
theorem dd_H_multiply_59 : decode cd_H_multiply 59 = .ok (.ifCond .le 32, 3) := by decide +kernel
theorem dd_H_multiply_62 : decode cd_H_multiply 62 = .ok (.aload_n 0, 1) := by decide +kernel
theorem dd_H_multiply_63 : decode cd_H_multiply 63 = .ok (.getfield 13, 3) := by decide +kernel
theorem dd_H_multiply_66 : decode cd_H_multiply 66 = .ok (.bipush 16, 2) := by decide +kernel
theorem dd_H_multiply_68 : decode cd_H_multiply 68 = .ok (.if_icmp .ge 23, 3) := by decide +kernel
theorem dd_H_multiply_71 : decode cd_H_multiply 71 = .ok (.aload_n 0, 1) := by decide +kernel
theorem dd_H_multiply_72 : decode cd_H_multiply 72 = .ok (.getfield 9, 3) := by decide +kernel
theorem dd_H_multiply_75 : decode cd_H_multiply 75 = .ok (.aload_n 0, 1) := by decide +kernel
theorem dd_H_multiply_76 : decode cd_H_multiply 76 = .ok (.getfield 13, 3) := by decide +kernel
theorem dd_H_multiply_79 : decode cd_H_multiply 79 = .ok (.lload_n 2, 1) := by decide +kernel
theorem dd_H_multiply_80 : decode cd_H_multiply 80 = .ok (.lastore, 1) := by decide +kernel
theorem dd_H_multiply_81 : decode cd_H_multiply 81 = .ok (.aload_n 0, 1) := by decide +kernel
theorem dd_H_multiply_82 : decode cd_H_multiply 82 = .ok (.dup, 1) := by decide +kernel
theorem dd_H_multiply_83 : decode cd_H_multiply 83 = .ok (.getfield 13, 3) := by decide +kernel
theorem dd_H_multiply_86 : decode cd_H_multiply 86 = .ok (.iconst 1, 1) := by decide +kernel
theorem dd_H_multiply_87 : decode cd_H_multiply 87 = .ok (.iadd, 1) := by decide +kernel
theorem dd_H_multiply_88 : decode cd_H_multiply 88 = .ok (.putfield 13, 3) := by decide +kernel
theorem dd_H_multiply_91 : decode cd_H_multiply 91 = .ok (.iload_n 1, 1) := by decide +kernel
theorem dd_H_multiply_92 : decode cd_H_multiply 92 = .ok (.ifCond .ne 8, 3) := by decide +kernel
theorem dd_H_multiply_95 : decode cd_H_multiply 95 = .ok (.aload_n 0, 1) := by decide +kernel
theorem dd_H_multiply_96 : decode cd_H_multiply 96 = .ok (.iconst 1, 1) := by decide +kernel
theorem dd_H_multiply_97 : decode cd_H_multiply 97 = .ok (.putfield 13, 3) := by decide +kernel
theorem dd_H_multiply_100 : decode cd_H_multiply 100 = .ok (.return_, 1) := by decide +kernel
theorem dd_O_leastCount_0 : decode cd_O_leastCount 0 = .ok (.aload_n 0, 1) := by decide +kernel
theorem dd_O_leastCount_1 : decode cd_O_leastCount 1 = .ok (.getfield 10, 3) := by decide +kernel
theorem dd_O_leastCount_4 : decode cd_O_leastCount 4 = .ok (.iload_n 1, 1) := by decide +kernel
theorem dd_O_leastCount_5 : decode cd_O_leastCount 5 = .ok (.invokevirtual 47, 3) := by decide +kernel
theorem dd_O_leastCount_8 : decode cd_O_leastCount 8 = .ok (.aload_n 0, 1) := by decide +kernel
theorem dd_O_leastCount_9 : decode cd_O_leastCount 9 = .ok (.getfield 10, 3) := by decide +kernel
theorem dd_O_leastCount_12 : decode cd_O_leastCount 12 = .ok (.iload_n 2, 1) := by decide +kernel
theorem dd_O_leastCount_13 : decode cd_O_leastCount 13 = .ok (.invokevirtual 50, 3) := by decide +kernel
theorem dd_O_leastCount_16 : decode cd_O_leastCount 16 = .ok (.aload_n 0, 1) := by decide +kernel
theorem dd_O_leastCount_17 : decode cd_O_leastCount 17 = .ok (.getfield 29, 3) := by decide +kernel
theorem dd_O_leastCount_20 : decode cd_O_leastCount 20 = .ok (.istore_n 3, 1) := by decide +kernel
theorem dd_O_leastCount_21 : decode cd_O_leastCount 21 = .ok (.iload_n 3, 1) := by decide +kernel
theorem dd_O_leastCount_22 : decode cd_O_leastCount 22 = .ok (.ifCond .le 29, 3) := by decide +kernel
theorem dd_O_leastCount_25 : decode cd_O_leastCount 25 = .ok (.aload_n 0, 1) := by decide +kernel
theorem dd_O_leastCount_26 : decode cd_O_leastCount 26 = .ok (.invokevirtual 53, 3) := by decide +kernel
theorem dd_O_leastCount_29 : decode cd_O_leastCount 29 = .ok (.aload_n 0, 1) := by decide +kernel
theorem dd_O_leastCount_30 : decode cd_O_leastCount 30 = .ok (.getfield 19, 3) := by decide +kernel
theorem dd_O_leastCount_33 : decode cd_O_leastCount 33 = .ok (.aload_n 0, 1) := by decide +kernel
theorem dd_O_leastCount_34 : decode cd_O_leastCount 34 = .ok (.getfield 10, 3) := by decide +kernel
theorem dd_O_leastCount_37 : decode cd_O_leastCount 37 = .ok (.invokevirtual 56, 3) := by decide +kernel
theorem dd_O_leastCount_40 : decode cd_O_leastCount 40 = .ok (.ifCond .eq 5, 3) := by decide +kernel
theorem dd_O_leastCount_43 : decode cd_O_leastCount 43 = .ok (.iload_n 3, 1) := by decide +kernel
theorem dd_O_leastCount_44 : decode cd_O_leastCount 44 = .ok (.ireturn, 1) := by decide +kernel
theorem dd_O_leastCount_45 : decode cd_O_leastCount 45 = .ok (.iinc 3 (-1), 3) := by decide +kernel
theorem dd_O_leastCount_48 : decode cd_O_leastCount 48 = .ok (.goto (-27), 3) := by decide +kernel
theorem dd_O_leastCount_51 : decode cd_O_leastCount 51 = .ok (.iconst 0, 1) := by decide +kernel
theorem dd_O_leastCount_52 : decode cd_O_leastCount 52 = .ok (.ireturn, 1) := by decide +kernel
theorem dd_H_divide_0 : decode cd_H_divide 0 = .ok (.iload_n 1, 1) := by decide +kernel
theorem dd_H_divide_1 : decode cd_H_divide 1 = .ok (.iconst 1, 1) := by decide +kernel
theorem dd_H_divide_2 : decode cd_H_divide 2 = .ok (.if_icmp .ge 4, 3) := by decide +kernel
theorem dd_H_divide_5 : decode cd_H_divide 5 = .ok (.return_, 1) := by decide +kernel
theorem dd_H_divide_6 : decode cd_H_divide 6 = .ok (.lconst 0, 1) := by decide +kernel
theorem dd_H_divide_7 : decode cd_H_divide 7 = .ok (.lstore_n 2, 1) := by decide +kernel
theorem dd_H_divide_8 : decode cd_H_divide 8 = .ok (.aload_n 0, 1) := by decide +kernel
theorem dd_H_divide_9 : decode cd_H_divide 9 = .ok (.getfield 13, 3) := by decide +kernel
theorem dd_H_divide_12 : decode cd_H_divide 12 = .ok (.iconst 1, 1) := by decide +kernel
theorem dd_H_divide_13 : decode cd_H_divide 13 = .ok (.isub, 1) := by decide +kernel
theorem dd_H_divide_14 : decode cd_H_divide 14 = .ok (.istore 4, 2) := by decide +kernel
theorem dd_H_divide_16 : decode cd_H_divide 16 = .ok (.iload 4, 2) := by decide +kernel
theorem dd_H_divide_18 : decode cd_H_divide 18 = .ok (.ifCond .lt 50, 3) := by decide +kernel
theorem dd_H_divide_21 : decode cd_H_divide 21 = .ok (.lload_n 2, 1) := by decide +kernel
theorem dd_H_divide_22 : decode cd_H_divide 22 = .ok (.ldc2_w 36, 3) := by decide +kernel
theorem dd_H_divide_25 : decode cd_H_divide 25 = .ok (.lmul, 1) := by decide +kernel
theorem dd_H_divide_26 : decode cd_H_divide 26 = .ok (.aload_n 0, 1) := by decide +kernel
theorem dd_H_divide_27 : decode cd_H_divide 27 = .ok (.getfield 9, 3) := by decide +kernel
theorem dd_H_divide_30 : decode cd_H_divide 30 = .ok (.iload 4, 2) := by decide +kernel
theorem dd_H_divide_32 : decode cd_H_divide 32 = .ok (.laload, 1) := by decide +kernel
theorem dd_H_divide_33 : decode cd_H_divide 33 = .ok (.ladd, 1) := by decide +kernel
theorem dd_H_divide_34 : decode cd_H_divide 34 = .ok (.lstore 5, 2) := by decide +kernel
theorem dd_H_divide_36 : decode cd_H_divide 36 = .ok (.aload_n 0, 1) := by decide +kernel
theorem dd_H_divide_37 : decode cd_H_divide 37 = .ok (.getfield 9, 3) := by decide +kernel
theorem dd_H_divide_40 : decode cd_H_divide 40 = .ok (.iload 4, 2) := by decide +kernel
theorem dd_H_divide_42 : decode cd_H_divide 42 = .ok (.lload 5, 2) := by decide +kernel
theorem dd_H_divide_44 : decode cd_H_divide 44 = .ok (.iload_n 1, 1) := by decide +kernel
theorem dd_H_divide_45 : decode cd_H_divide 45 = .ok (.i2l, 1) := by decide +kernel
theorem dd_H_divide_46 : decode cd_H_divide 46 = .ok (.ldiv, 1) := by decide +kernel
theorem dd_H_divide_47 : decode cd_H_divide 47 = .ok (.lastore, 1) := by decide +kernel
theorem dd_H_divide_48 : decode cd_H_divide 48 = .ok (.lload 5, 2) := by decide +kernel
theorem dd_H_divide_50 : decode cd_H_divide 50 = .ok (.aload_n 0, 1) := by decide +kernel
theorem dd_H_divide_51 : decode cd_H_divide 51 = .ok (.getfield 9, 3) := by decide +kernel
theorem dd_H_divide_54 : decode cd_H_divide 54 = .ok (.iload 4, 2) := by decide +kernel
theorem dd_H_divide_56 : decode cd_H_divide 56 = .ok (.laload, 1) := by decide +kernel
theorem dd_H_divide_57 : decode cd_H_divide 57 = .ok (.iload_n 1, 1) := by decide +kernel
theorem dd_H_divide_58 : decode cd_H_divide 58 = .ok (.i2l, 1) := by decide +kernel
theorem dd_H_divide_59 : decode cd_H_divide 59 = .ok (.lmul, 1) := by decide +kernel
theorem dd_H_divide_60 : decode cd_H_divide 60 = .ok (.lsub, 1) := by decide +kernel
theorem dd_H_divide_61 : decode cd_H_divide 61 = .ok (.lstore_n 2, 1) := by decide +kernel
theorem dd_H_divide_62 : decode cd_H_divide 62 = .ok (.iinc 4 (-1), 3) := by decide +kernel
theorem dd_H_divide_65 : decode cd_H_divide 65 = .ok (.goto (-49), 3) := by decide +kernel
theorem dd_H_divide_68 : decode cd_H_divide 68 = .ok (.aload_n 0, 1) := by decide +kernel
theorem dd_H_divide_69 : decode cd_H_divide 69 = .ok (.getfield 13, 3) := by decide +kernel
theorem dd_H_divide_72 : decode cd_H_divide 72 = .ok (.iconst 1, 1) := by decide +kernel
theorem dd_H_divide_73 : decode cd_H_divide 73 = .ok (.if_icmp .le 29, 3) := by decide +kernel
theorem dd_H_divide_76 : decode cd_H_divide 76 = .ok (.aload_n 0, 1) := by decide +kernel
theorem dd_H_divide_77 : decode cd_H_divide 77 = .ok (.getfield 9, 3) := by decide +kernel
theorem dd_H_divide_80 : decode cd_H_divide 80 = .ok (.aload_n 0, 1) := by decide +kernel
theorem dd_H_divide_81 : decode cd_H_divide 81 = .ok (.getfield 13, 3) := by decide +kernel
theorem dd_H_divide_84 : decode cd_H_divide 84 = .ok (.iconst 1, 1) := by decide +kernel
theorem dd_H_divide_85 : decode cd_H_divide 85 = .ok (.isub, 1) := by decide +kernel
theorem dd_H_divide_86 : decode cd_H_divide 86 = .ok (.laload, 1) := by decide +kernel
theorem dd_H_divide_87 : decode cd_H_divide 87 = .ok (.lconst 0, 1) := by decide +kernel
theorem dd_H_divide_88 : decode cd_H_divide 88 = .ok (.lcmp, 1) := by decide +kernel
theorem dd_H_divide_89 : decode cd_H_divide 89 = .ok (.ifCond .ne 13, 3) := by decide +kernel
theorem dd_H_divide_92 : decode cd_H_divide 92 = .ok (.aload_n 0, 1) := by decide +kernel
theorem dd_H_divide_93 : decode cd_H_divide 93 = .ok (.dup, 1) := by decide +kernel
theorem dd_H_divide_94 : decode cd_H_divide 94 = .ok (.getfield 13, 3) := by decide +kernel
theorem dd_H_divide_97 : decode cd_H_divide 97 = .ok (.iconst 1, 1) := by decide +kernel
theorem dd_H_divide_98 : decode cd_H_divide 98 = .ok (.isub, 1) := by decide +kernel
theorem dd_H_divide_99 : decode cd_H_divide 99 = .ok (.putfield 13, 3) := by decide +kernel
theorem dd_H_divide_102 : decode cd_H_divide 102 = .ok (.return_, 1) := by decide +kernel
theorem dd_O_oneFewer_0 : decode cd_O_oneFewer 0 = .ok (.aload_n 0, 1) := by decide +kernel
theorem dd_O_oneFewer_1 : decode cd_O_oneFewer 1 = .ok (.getfield 32, 3) := by decide +kernel
theorem dd_O_oneFewer_4 : decode cd_O_oneFewer 4 = .ok (.iconst 1, 1) := by decide +kernel
theorem dd_O_oneFewer_5 : decode cd_O_oneFewer 5 = .ok (.if_icmp .ge 4, 3) := by decide +kernel
theorem dd_O_oneFewer_8 : decode cd_O_oneFewer 8 = .ok (.return_, 1) := by decide +kernel
theorem dd_O_oneFewer_9 : decode cd_O_oneFewer 9 = .ok (.aload_n 0, 1) := by decide +kernel
theorem dd_O_oneFewer_10 : decode cd_O_oneFewer 10 = .ok (.getfield 19, 3) := by decide +kernel
theorem dd_O_oneFewer_13 : decode cd_O_oneFewer 13 = .ok (.aload_n 0, 1) := by decide +kernel
theorem dd_O_oneFewer_14 : decode cd_O_oneFewer 14 = .ok (.getfield 16, 3) := by decide +kernel
theorem dd_O_oneFewer_17 : decode cd_O_oneFewer 17 = .ok (.invokevirtual 43, 3) := by decide +kernel
theorem dd_O_oneFewer_20 : decode cd_O_oneFewer 20 = .ok (.aload_n 0, 1) := by decide +kernel
theorem dd_O_oneFewer_21 : decode cd_O_oneFewer 21 = .ok (.getfield 16, 3) := by decide +kernel
theorem dd_O_oneFewer_24 : decode cd_O_oneFewer 24 = .ok (.aload_n 0, 1) := by decide +kernel
theorem dd_O_oneFewer_25 : decode cd_O_oneFewer 25 = .ok (.getfield 32, 3) := by decide +kernel
theorem dd_O_oneFewer_28 : decode cd_O_oneFewer 28 = .ok (.aload_n 0, 1) := by decide +kernel
theorem dd_O_oneFewer_29 : decode cd_O_oneFewer 29 = .ok (.getfield 26, 3) := by decide +kernel
theorem dd_O_oneFewer_32 : decode cd_O_oneFewer 32 = .ok (.imul, 1) := by decide +kernel
theorem dd_O_oneFewer_33 : decode cd_O_oneFewer 33 = .ok (.invokevirtual 47, 3) := by decide +kernel
theorem dd_O_oneFewer_36 : decode cd_O_oneFewer 36 = .ok (.aload_n 0, 1) := by decide +kernel
theorem dd_O_oneFewer_37 : decode cd_O_oneFewer 37 = .ok (.getfield 16, 3) := by decide +kernel
theorem dd_O_oneFewer_40 : decode cd_O_oneFewer 40 = .ok (.aload_n 0, 1) := by decide +kernel
theorem dd_O_oneFewer_41 : decode cd_O_oneFewer 41 = .ok (.getfield 29, 3) := by decide +kernel
theorem dd_O_oneFewer_44 : decode cd_O_oneFewer 44 = .ok (.aload_n 0, 1) := by decide +kernel
theorem dd_O_oneFewer_45 : decode cd_O_oneFewer 45 = .ok (.getfield 32, 3) := by decide +kernel
theorem dd_O_oneFewer_48 : decode cd_O_oneFewer 48 = .ok (.isub, 1) := by decide +kernel
theorem dd_O_oneFewer_49 : decode cd_O_oneFewer 49 = .ok (.iconst 1, 1) := by decide +kernel
theorem dd_O_oneFewer_50 : decode cd_O_oneFewer 50 = .ok (.iadd, 1) := by decide +kernel
theorem dd_O_oneFewer_51 : decode cd_O_oneFewer 51 = .ok (.aload_n 0, 1) := by decide +kernel
theorem dd_O_oneFewer_52 : decode cd_O_oneFewer 52 = .ok (.getfield 22, 3) := by decide +kernel
theorem dd_O_oneFewer_55 : decode cd_O_oneFewer 55 = .ok (.imul, 1) := by decide +kernel
theorem dd_O_oneFewer_56 : decode cd_O_oneFewer 56 = .ok (.invokevirtual 50, 3) := by decide +kernel
theorem dd_O_oneFewer_59 : decode cd_O_oneFewer 59 = .ok (.aload_n 0, 1) := by decide +kernel
theorem dd_O_oneFewer_60 : decode cd_O_oneFewer 60 = .ok (.dup, 1) := by decide +kernel
theorem dd_O_oneFewer_61 : decode cd_O_oneFewer 61 = .ok (.getfield 32, 3) := by decide +kernel
theorem dd_O_oneFewer_64 : decode cd_O_oneFewer 64 = .ok (.iconst 1, 1) := by decide +kernel
theorem dd_O_oneFewer_65 : decode cd_O_oneFewer 65 = .ok (.isub, 1) := by decide +kernel
theorem dd_O_oneFewer_66 : decode cd_O_oneFewer 66 = .ok (.putfield 32, 3) := by decide +kernel
theorem dd_O_oneFewer_69 : decode cd_O_oneFewer 69 = .ok (.return_, 1) := by decide +kernel
theorem dd_H_add_0 : decode cd_H_add 0 = .ok (.aload_n 0, 1) := by decide +kernel
theorem dd_H_add_1 : decode cd_H_add 1 = .ok (.aload_n 0, 1) := by decide +kernel
theorem dd_H_add_2 : decode cd_H_add 2 = .ok (.getfield 13, 3) := by decide +kernel
theorem dd_H_add_5 : decode cd_H_add 5 = .ok (.aload_n 1, 1) := by decide +kernel
theorem dd_H_add_6 : decode cd_H_add 6 = .ok (.getfield 13, 3) := by decide +kernel
theorem dd_H_add_9 : decode cd_H_add 9 = .ok (.invokestatic 38, 3) := by decide +kernel
theorem dd_H_add_12 : decode cd_H_add 12 = .ok (.putfield 13, 3) := by decide +kernel
theorem dd_H_add_15 : decode cd_H_add 15 = .ok (.lconst 0, 1) := by decide +kernel
theorem dd_H_add_16 : decode cd_H_add 16 = .ok (.lstore_n 2, 1) := by decide +kernel
theorem dd_H_add_17 : decode cd_H_add 17 = .ok (.iconst 0, 1) := by decide +kernel
theorem dd_H_add_18 : decode cd_H_add 18 = .ok (.istore 4, 2) := by decide +kernel
theorem dd_H_add_20 : decode cd_H_add 20 = .ok (.iload 4, 2) := by decide +kernel
theorem dd_H_add_22 : decode cd_H_add 22 = .ok (.aload_n 0, 1) := by decide +kernel
theorem dd_H_add_23 : decode cd_H_add 23 = .ok (.getfield 13, 3) := by decide +kernel
theorem dd_H_add_26 : decode cd_H_add 26 = .ok (.if_icmp .ge 58, 3) := by decide +kernel
theorem dd_H_add_29 : decode cd_H_add 29 = .ok (.aload_n 0, 1) := by decide +kernel
theorem dd_H_add_30 : decode cd_H_add 30 = .ok (.getfield 9, 3) := by decide +kernel
theorem dd_H_add_33 : decode cd_H_add 33 = .ok (.iload 4, 2) := by decide +kernel
theorem dd_H_add_35 : decode cd_H_add 35 = .ok (.laload, 1) := by decide +kernel
theorem dd_H_add_36 : decode cd_H_add 36 = .ok (.aload_n 1, 1) := by decide +kernel
theorem dd_H_add_37 : decode cd_H_add 37 = .ok (.getfield 9, 3) := by decide +kernel
theorem dd_H_add_40 : decode cd_H_add 40 = .ok (.iload 4, 2) := by decide +kernel
theorem dd_H_add_42 : decode cd_H_add 42 = .ok (.laload, 1) := by decide +kernel
theorem dd_H_add_43 : decode cd_H_add 43 = .ok (.ladd, 1) := by decide +kernel
theorem dd_H_add_44 : decode cd_H_add 44 = .ok (.lload_n 2, 1) := by decide +kernel
theorem dd_H_add_45 : decode cd_H_add 45 = .ok (.ladd, 1) := by decide +kernel
theorem dd_H_add_46 : decode cd_H_add 46 = .ok (.lstore 5, 2) := by decide +kernel
theorem dd_H_add_48 : decode cd_H_add 48 = .ok (.lload 5, 2) := by decide +kernel
theorem dd_H_add_50 : decode cd_H_add 50 = .ok (.ldc2_w 36, 3) := by decide +kernel
theorem dd_H_add_53 : decode cd_H_add 53 = .ok (.lcmp, 1) := by decide +kernel
theorem dd_H_add_54 : decode cd_H_add 54 = .ok (.ifCond .lt 7, 3) := by decide +kernel
theorem dd_H_add_57 : decode cd_H_add 57 = .ok (.lconst 1, 1) := by decide +kernel
theorem dd_H_add_58 : decode cd_H_add 58 = .ok (.goto 4, 3) := by decide +kernel
theorem dd_H_add_61 : decode cd_H_add 61 = .ok (.lconst 0, 1) := by decide +kernel
theorem dd_H_add_62 : decode cd_H_add 62 = .ok (.lstore_n 2, 1) := by decide +kernel
theorem dd_H_add_63 : decode cd_H_add 63 = .ok (.aload_n 0, 1) := by decide +kernel
theorem dd_H_add_64 : decode cd_H_add 64 = .ok (.getfield 9, 3) := by decide +kernel
theorem dd_H_add_67 : decode cd_H_add 67 = .ok (.iload 4, 2) := by decide +kernel
theorem dd_H_add_69 : decode cd_H_add 69 = .ok (.lload 5, 2) := by decide +kernel
theorem dd_H_add_71 : decode cd_H_add 71 = .ok (.lload_n 2, 1) := by decide +kernel
theorem dd_H_add_72 : decode cd_H_add 72 = .ok (.ldc2_w 36, 3) := by decide +kernel
theorem dd_H_add_75 : decode cd_H_add 75 = .ok (.lmul, 1) := by decide +kernel
theorem dd_H_add_76 : decode cd_H_add 76 = .ok (.lsub, 1) := by decide +kernel
theorem dd_H_add_77 : decode cd_H_add 77 = .ok (.lastore, 1) := by decide +kernel
theorem dd_H_add_78 : decode cd_H_add 78 = .ok (.iinc 4 1, 3) := by decide +kernel
theorem dd_H_add_81 : decode cd_H_add 81 = .ok (.goto (-61), 3) := by decide +kernel
theorem dd_H_add_84 : decode cd_H_add 84 = .ok (.lload_n 2, 1) := by decide +kernel
theorem dd_H_add_85 : decode cd_H_add 85 = .ok (.lconst 0, 1) := by decide +kernel
theorem dd_H_add_86 : decode cd_H_add 86 = .ok (.lcmp, 1) := by decide +kernel
theorem dd_H_add_87 : decode cd_H_add 87 = .ok (.ifCond .le 32, 3) := by decide +kernel
theorem dd_H_add_90 : decode cd_H_add 90 = .ok (.aload_n 0, 1) := by decide +kernel
theorem dd_H_add_91 : decode cd_H_add 91 = .ok (.getfield 13, 3) := by decide +kernel
theorem dd_H_add_94 : decode cd_H_add 94 = .ok (.bipush 16, 2) := by decide +kernel
theorem dd_H_add_96 : decode cd_H_add 96 = .ok (.if_icmp .ge 23, 3) := by decide +kernel
theorem dd_H_add_99 : decode cd_H_add 99 = .ok (.aload_n 0, 1) := by decide +kernel
theorem dd_H_add_100 : decode cd_H_add 100 = .ok (.getfield 9, 3) := by decide +kernel
theorem dd_H_add_103 : decode cd_H_add 103 = .ok (.aload_n 0, 1) := by decide +kernel
theorem dd_H_add_104 : decode cd_H_add 104 = .ok (.getfield 13, 3) := by decide +kernel
theorem dd_H_add_107 : decode cd_H_add 107 = .ok (.lload_n 2, 1) := by decide +kernel
theorem dd_H_add_108 : decode cd_H_add 108 = .ok (.lastore, 1) := by decide +kernel
theorem dd_H_add_109 : decode cd_H_add 109 = .ok (.aload_n 0, 1) := by decide +kernel
theorem dd_H_add_110 : decode cd_H_add 110 = .ok (.dup, 1) := by decide +kernel
theorem dd_H_add_111 : decode cd_H_add 111 = .ok (.getfield 13, 3) := by decide +kernel
theorem dd_H_add_114 : decode cd_H_add 114 = .ok (.iconst 1, 1) := by decide +kernel
theorem dd_H_add_115 : decode cd_H_add 115 = .ok (.iadd, 1) := by decide +kernel
theorem dd_H_add_116 : decode cd_H_add 116 = .ok (.putfield 13, 3) := by decide +kernel
theorem dd_H_add_119 : decode cd_H_add 119 = .ok (.return_, 1) := by decide +kernel
theorem dd_H_exceeds_0 : decode cd_H_exceeds 0 = .ok (.aload_n 0, 1) := by decide +kernel
theorem dd_H_exceeds_1 : decode cd_H_exceeds 1 = .ok (.getfield 13, 3) := by decide +kernel
theorem dd_H_exceeds_4 : decode cd_H_exceeds 4 = .ok (.aload_n 1, 1) := by decide +kernel
theorem dd_H_exceeds_5 : decode cd_H_exceeds 5 = .ok (.getfield 13, 3) := by decide +kernel
theorem dd_H_exceeds_8 : decode cd_H_exceeds 8 = .ok (.if_icmp .eq 20, 3) := by decide +kernel
theorem dd_H_exceeds_11 : decode cd_H_exceeds 11 = .ok (.aload_n 0, 1) := by decide +kernel
theorem dd_H_exceeds_12 : decode cd_H_exceeds 12 = .ok (.getfield 13, 3) := by decide +kernel
theorem dd_H_exceeds_15 : decode cd_H_exceeds 15 = .ok (.aload_n 1, 1) := by decide +kernel
theorem dd_H_exceeds_16 : decode cd_H_exceeds 16 = .ok (.getfield 13, 3) := by decide +kernel
theorem dd_H_exceeds_19 : decode cd_H_exceeds 19 = .ok (.if_icmp .le 7, 3) := by decide +kernel
theorem dd_H_exceeds_22 : decode cd_H_exceeds 22 = .ok (.iconst 1, 1) := by decide +kernel
theorem dd_H_exceeds_23 : decode cd_H_exceeds 23 = .ok (.goto 4, 3) := by decide +kernel
theorem dd_H_exceeds_26 : decode cd_H_exceeds 26 = .ok (.iconst 0, 1) := by decide +kernel
theorem dd_H_exceeds_27 : decode cd_H_exceeds 27 = .ok (.ireturn, 1) := by decide +kernel
theorem dd_H_exceeds_28 : decode cd_H_exceeds 28 = .ok (.aload_n 0, 1) := by decide +kernel
theorem dd_H_exceeds_29 : decode cd_H_exceeds 29 = .ok (.getfield 13, 3) := by decide +kernel
theorem dd_H_exceeds_32 : decode cd_H_exceeds 32 = .ok (.iconst 1, 1) := by decide +kernel
theorem dd_H_exceeds_33 : decode cd_H_exceeds 33 = .ok (.isub, 1) := by decide +kernel
theorem dd_H_exceeds_34 : decode cd_H_exceeds 34 = .ok (.istore_n 2, 1) := by decide +kernel
theorem dd_H_exceeds_35 : decode cd_H_exceeds 35 = .ok (.iload_n 2, 1) := by decide +kernel
theorem dd_H_exceeds_36 : decode cd_H_exceeds 36 = .ok (.ifCond .lt 47, 3) := by decide +kernel
theorem dd_H_exceeds_39 : decode cd_H_exceeds 39 = .ok (.aload_n 0, 1) := by decide +kernel
theorem dd_H_exceeds_40 : decode cd_H_exceeds 40 = .ok (.getfield 9, 3) := by decide +kernel
theorem dd_H_exceeds_43 : decode cd_H_exceeds 43 = .ok (.iload_n 2, 1) := by decide +kernel
theorem dd_H_exceeds_44 : decode cd_H_exceeds 44 = .ok (.laload, 1) := by decide +kernel
theorem dd_H_exceeds_45 : decode cd_H_exceeds 45 = .ok (.aload_n 1, 1) := by decide +kernel
theorem dd_H_exceeds_46 : decode cd_H_exceeds 46 = .ok (.getfield 9, 3) := by decide +kernel
theorem dd_H_exceeds_49 : decode cd_H_exceeds 49 = .ok (.iload_n 2, 1) := by decide +kernel
theorem dd_H_exceeds_50 : decode cd_H_exceeds 50 = .ok (.laload, 1) := by decide +kernel
theorem dd_H_exceeds_51 : decode cd_H_exceeds 51 = .ok (.lcmp, 1) := by decide +kernel
theorem dd_H_exceeds_52 : decode cd_H_exceeds 52 = .ok (.ifCond .eq 25, 3) := by decide +kernel
theorem dd_H_exceeds_55 : decode cd_H_exceeds 55 = .ok (.aload_n 0, 1) := by decide +kernel
theorem dd_H_exceeds_56 : decode cd_H_exceeds 56 = .ok (.getfield 9, 3) := by decide +kernel
theorem dd_H_exceeds_59 : decode cd_H_exceeds 59 = .ok (.iload_n 2, 1) := by decide +kernel
theorem dd_H_exceeds_60 : decode cd_H_exceeds 60 = .ok (.laload, 1) := by decide +kernel
theorem dd_H_exceeds_61 : decode cd_H_exceeds 61 = .ok (.aload_n 1, 1) := by decide +kernel
theorem dd_H_exceeds_62 : decode cd_H_exceeds 62 = .ok (.getfield 9, 3) := by decide +kernel
theorem dd_H_exceeds_65 : decode cd_H_exceeds 65 = .ok (.iload_n 2, 1) := by decide +kernel
theorem dd_H_exceeds_66 : decode cd_H_exceeds 66 = .ok (.laload, 1) := by decide +kernel
theorem dd_H_exceeds_67 : decode cd_H_exceeds 67 = .ok (.lcmp, 1) := by decide +kernel
theorem dd_H_exceeds_68 : decode cd_H_exceeds 68 = .ok (.ifCond .le 7, 3) := by decide +kernel
theorem dd_H_exceeds_71 : decode cd_H_exceeds 71 = .ok (.iconst 1, 1) := by decide +kernel
theorem dd_H_exceeds_72 : decode cd_H_exceeds 72 = .ok (.goto 4, 3) := by decide +kernel
theorem dd_H_exceeds_75 : decode cd_H_exceeds 75 = .ok (.iconst 0, 1) := by decide +kernel
theorem dd_H_exceeds_76 : decode cd_H_exceeds 76 = .ok (.ireturn, 1) := by decide +kernel
theorem dd_H_exceeds_77 : decode cd_H_exceeds 77 = .ok (.iinc 2 (-1), 3) := by decide +kernel
theorem dd_H_exceeds_80 : decode cd_H_exceeds 80 = .ok (.goto (-45), 3) := by decide +kernel
theorem dd_H_exceeds_83 : decode cd_H_exceeds 83 = .ok (.iconst 0, 1) := by decide +kernel
theorem dd_H_exceeds_84 : decode cd_H_exceeds 84 = .ok (.ireturn, 1) := by decide +kernel
theorem dd_L_cheapestFor_0 : decode cd_L_cheapestFor 0 = .ok (.iconst (-1), 1) := by decide +kernel
theorem dd_L_cheapestFor_1 : decode cd_L_cheapestFor 1 = .ok (.istore_n 2, 1) := by decide +kernel
theorem dd_L_cheapestFor_2 : decode cd_L_cheapestFor 2 = .ok (.iconst 0, 1) := by decide +kernel
theorem dd_L_cheapestFor_3 : decode cd_L_cheapestFor 3 = .ok (.istore_n 3, 1) := by decide +kernel
theorem dd_L_cheapestFor_4 : decode cd_L_cheapestFor 4 = .ok (.iload_n 3, 1) := by decide +kernel
theorem dd_L_cheapestFor_5 : decode cd_L_cheapestFor 5 = .ok (.aload_n 0, 1) := by decide +kernel
theorem dd_L_cheapestFor_6 : decode cd_L_cheapestFor 6 = .ok (.getfield 9, 3) := by decide +kernel
theorem dd_L_cheapestFor_9 : decode cd_L_cheapestFor 9 = .ok (.if_icmp .ge 41, 3) := by decide +kernel
theorem dd_L_cheapestFor_12 : decode cd_L_cheapestFor 12 = .ok (.aload_n 0, 1) := by decide +kernel
theorem dd_L_cheapestFor_13 : decode cd_L_cheapestFor 13 = .ok (.getfield 15, 3) := by decide +kernel
theorem dd_L_cheapestFor_16 : decode cd_L_cheapestFor 16 = .ok (.iload_n 3, 1) := by decide +kernel
theorem dd_L_cheapestFor_17 : decode cd_L_cheapestFor 17 = .ok (.iaload, 1) := by decide +kernel
theorem dd_L_cheapestFor_18 : decode cd_L_cheapestFor 18 = .ok (.iload_n 1, 1) := by decide +kernel
theorem dd_L_cheapestFor_19 : decode cd_L_cheapestFor 19 = .ok (.if_icmp .lt 25, 3) := by decide +kernel
theorem dd_L_cheapestFor_22 : decode cd_L_cheapestFor 22 = .ok (.iload_n 2, 1) := by decide +kernel
theorem dd_L_cheapestFor_23 : decode cd_L_cheapestFor 23 = .ok (.iconst (-1), 1) := by decide +kernel
theorem dd_L_cheapestFor_24 : decode cd_L_cheapestFor 24 = .ok (.if_icmp .eq 18, 3) := by decide +kernel
theorem dd_L_cheapestFor_27 : decode cd_L_cheapestFor 27 = .ok (.aload_n 0, 1) := by decide +kernel
theorem dd_L_cheapestFor_28 : decode cd_L_cheapestFor 28 = .ok (.getfield 22, 3) := by decide +kernel
theorem dd_L_cheapestFor_31 : decode cd_L_cheapestFor 31 = .ok (.iload_n 3, 1) := by decide +kernel
theorem dd_L_cheapestFor_32 : decode cd_L_cheapestFor 32 = .ok (.iaload, 1) := by decide +kernel
theorem dd_L_cheapestFor_33 : decode cd_L_cheapestFor 33 = .ok (.aload_n 0, 1) := by decide +kernel
theorem dd_L_cheapestFor_34 : decode cd_L_cheapestFor 34 = .ok (.getfield 22, 3) := by decide +kernel
theorem dd_L_cheapestFor_37 : decode cd_L_cheapestFor 37 = .ok (.iload_n 2, 1) := by decide +kernel
theorem dd_L_cheapestFor_38 : decode cd_L_cheapestFor 38 = .ok (.iaload, 1) := by decide +kernel
theorem dd_L_cheapestFor_39 : decode cd_L_cheapestFor 39 = .ok (.if_icmp .ge 5, 3) := by decide +kernel
theorem dd_L_cheapestFor_42 : decode cd_L_cheapestFor 42 = .ok (.iload_n 3, 1) := by decide +kernel
theorem dd_L_cheapestFor_43 : decode cd_L_cheapestFor 43 = .ok (.istore_n 2, 1) := by decide +kernel
theorem dd_L_cheapestFor_44 : decode cd_L_cheapestFor 44 = .ok (.iinc 3 1, 3) := by decide +kernel
theorem dd_L_cheapestFor_47 : decode cd_L_cheapestFor 47 = .ok (.goto (-43), 3) := by decide +kernel
theorem dd_L_cheapestFor_50 : decode cd_L_cheapestFor 50 = .ok (.iload_n 2, 1) := by decide +kernel
theorem dd_L_cheapestFor_51 : decode cd_L_cheapestFor 51 = .ok (.ireturn, 1) := by decide +kernel
theorem dd_K_append_0 : decode cd_K_append 0 = .ok (.iload_n 2, 1) := by decide +kernel
theorem dd_K_append_1 : decode cd_K_append 1 = .ok (.iload_n 3, 1) := by decide +kernel
theorem dd_K_append_2 : decode cd_K_append 2 = .ok (.invokestatic 25, 3) := by decide +kernel
theorem dd_K_append_5 : decode cd_K_append 5 = .ok (.istore 4, 2) := by decide +kernel
theorem dd_K_append_7 : decode cd_K_append 7 = .ok (.aload_n 0, 1) := by decide +kernel
theorem dd_K_append_8 : decode cd_K_append 8 = .ok (.getfield 9, 3) := by decide +kernel
theorem dd_K_append_11 : decode cd_K_append 11 = .ok (.bipush 8, 2) := by decide +kernel
theorem dd_K_append_13 : decode cd_K_append 13 = .ok (.if_icmp .ge 9, 3) := by decide +kernel
theorem dd_K_append_16 : decode cd_K_append 16 = .ok (.iload 4, 2) := by decide +kernel
theorem dd_K_append_18 : decode cd_K_append 18 = .ok (.iconst 1, 1) := by decide +kernel
theorem dd_K_append_19 : decode cd_K_append 19 = .ok (.if_icmp .ge 5, 3) := by decide +kernel
theorem dd_K_append_22 : decode cd_K_append 22 = .ok (.iconst (-1), 1) := by decide +kernel
theorem dd_K_append_23 : decode cd_K_append 23 = .ok (.ireturn, 1) := by decide +kernel
theorem dd_K_append_24 : decode cd_K_append 24 = .ok (.aload_n 0, 1) := by decide +kernel
theorem dd_K_append_25 : decode cd_K_append 25 = .ok (.getfield 15, 3) := by decide +kernel
theorem dd_K_append_28 : decode cd_K_append 28 = .ok (.aload_n 0, 1) := by decide +kernel
theorem dd_K_append_29 : decode cd_K_append 29 = .ok (.getfield 9, 3) := by decide +kernel
theorem dd_K_append_32 : decode cd_K_append 32 = .ok (.iload_n 1, 1) := by decide +kernel
theorem dd_K_append_33 : decode cd_K_append 33 = .ok (.iastore, 1) := by decide +kernel
theorem dd_K_append_34 : decode cd_K_append 34 = .ok (.aload_n 0, 1) := by decide +kernel
theorem dd_K_append_35 : decode cd_K_append 35 = .ok (.getfield 19, 3) := by decide +kernel
theorem dd_K_append_38 : decode cd_K_append 38 = .ok (.aload_n 0, 1) := by decide +kernel
theorem dd_K_append_39 : decode cd_K_append 39 = .ok (.getfield 9, 3) := by decide +kernel
theorem dd_K_append_42 : decode cd_K_append 42 = .ok (.iload_n 2, 1) := by decide +kernel
theorem dd_K_append_43 : decode cd_K_append 43 = .ok (.iload 4, 2) := by decide +kernel
theorem dd_K_append_45 : decode cd_K_append 45 = .ok (.idiv, 1) := by decide +kernel
theorem dd_K_append_46 : decode cd_K_append 46 = .ok (.iastore, 1) := by decide +kernel
theorem dd_K_append_47 : decode cd_K_append 47 = .ok (.aload_n 0, 1) := by decide +kernel
theorem dd_K_append_48 : decode cd_K_append 48 = .ok (.getfield 22, 3) := by decide +kernel
theorem dd_K_append_51 : decode cd_K_append 51 = .ok (.aload_n 0, 1) := by decide +kernel
theorem dd_K_append_52 : decode cd_K_append 52 = .ok (.getfield 9, 3) := by decide +kernel
theorem dd_K_append_55 : decode cd_K_append 55 = .ok (.iload_n 3, 1) := by decide +kernel
theorem dd_K_append_56 : decode cd_K_append 56 = .ok (.iload 4, 2) := by decide +kernel
theorem dd_K_append_58 : decode cd_K_append 58 = .ok (.idiv, 1) := by decide +kernel
theorem dd_K_append_59 : decode cd_K_append 59 = .ok (.iastore, 1) := by decide +kernel
theorem dd_K_append_60 : decode cd_K_append 60 = .ok (.aload_n 0, 1) := by decide +kernel
theorem dd_K_append_61 : decode cd_K_append 61 = .ok (.dup, 1) := by decide +kernel
theorem dd_K_append_62 : decode cd_K_append 62 = .ok (.getfield 9, 3) := by decide +kernel
theorem dd_K_append_65 : decode cd_K_append 65 = .ok (.iconst 1, 1) := by decide +kernel
theorem dd_K_append_66 : decode cd_K_append 66 = .ok (.iadd, 1) := by decide +kernel
theorem dd_K_append_67 : decode cd_K_append 67 = .ok (.putfield 9, 3) := by decide +kernel
theorem dd_K_append_70 : decode cd_K_append 70 = .ok (.aload_n 0, 1) := by decide +kernel
theorem dd_K_append_71 : decode cd_K_append 71 = .ok (.getfield 9, 3) := by decide +kernel
theorem dd_K_append_74 : decode cd_K_append 74 = .ok (.iconst 1, 1) := by decide +kernel
theorem dd_K_append_75 : decode cd_K_append 75 = .ok (.isub, 1) := by decide +kernel
theorem dd_K_append_76 : decode cd_K_append 76 = .ok (.ireturn, 1) := by decide +kernel
theorem dd_T_has_0 : decode cd_T_has 0 = .ok (.iload_n 1, 1) := by decide +kernel
theorem dd_T_has_1 : decode cd_T_has 1 = .ok (.ifCond .lt 15, 3) := by decide +kernel
theorem dd_T_has_4 : decode cd_T_has 4 = .ok (.iload_n 1, 1) := by decide +kernel
theorem dd_T_has_5 : decode cd_T_has 5 = .ok (.aload_n 0, 1) := by decide +kernel
theorem dd_T_has_6 : decode cd_T_has 6 = .ok (.getfield 9, 3) := by decide +kernel
theorem dd_T_has_9 : decode cd_T_has 9 = .ok (.if_icmp .ge 7, 3) := by decide +kernel
theorem dd_T_has_12 : decode cd_T_has 12 = .ok (.iconst 1, 1) := by decide +kernel
theorem dd_T_has_13 : decode cd_T_has 13 = .ok (.goto 4, 3) := by decide +kernel
theorem dd_T_has_16 : decode cd_T_has 16 = .ok (.iconst 0, 1) := by decide +kernel
theorem dd_T_has_17 : decode cd_T_has 17 = .ok (.ireturn, 1) := by decide +kernel
theorem dd_T_append_0 : decode cd_T_append 0 = .ok (.aload_n 0, 1) := by decide +kernel
theorem dd_T_append_1 : decode cd_T_append 1 = .ok (.getfield 9, 3) := by decide +kernel
theorem dd_T_append_4 : decode cd_T_append 4 = .ok (.bipush 20, 2) := by decide +kernel
theorem dd_T_append_6 : decode cd_T_append 6 = .ok (.if_icmp .lt 5, 3) := by decide +kernel
theorem dd_T_append_9 : decode cd_T_append 9 = .ok (.iconst (-1), 1) := by decide +kernel
theorem dd_T_append_10 : decode cd_T_append 10 = .ok (.ireturn, 1) := by decide +kernel
theorem dd_T_append_11 : decode cd_T_append 11 = .ok (.aload_n 0, 1) := by decide +kernel
theorem dd_T_append_12 : decode cd_T_append 12 = .ok (.getfield 15, 3) := by decide +kernel
theorem dd_T_append_15 : decode cd_T_append 15 = .ok (.aload_n 0, 1) := by decide +kernel
theorem dd_T_append_16 : decode cd_T_append 16 = .ok (.getfield 9, 3) := by decide +kernel
theorem dd_T_append_19 : decode cd_T_append 19 = .ok (.iload_n 1, 1) := by decide +kernel
theorem dd_T_append_20 : decode cd_T_append 20 = .ok (.iastore, 1) := by decide +kernel
theorem dd_T_append_21 : decode cd_T_append 21 = .ok (.aload_n 0, 1) := by decide +kernel
theorem dd_T_append_22 : decode cd_T_append 22 = .ok (.getfield 19, 3) := by decide +kernel
theorem dd_T_append_25 : decode cd_T_append 25 = .ok (.aload_n 0, 1) := by decide +kernel
theorem dd_T_append_26 : decode cd_T_append 26 = .ok (.getfield 9, 3) := by decide +kernel
theorem dd_T_append_29 : decode cd_T_append 29 = .ok (.iload_n 2, 1) := by decide +kernel
theorem dd_T_append_30 : decode cd_T_append 30 = .ok (.iastore, 1) := by decide +kernel
theorem dd_T_append_31 : decode cd_T_append 31 = .ok (.aload_n 0, 1) := by decide +kernel
theorem dd_T_append_32 : decode cd_T_append 32 = .ok (.dup, 1) := by decide +kernel
theorem dd_T_append_33 : decode cd_T_append 33 = .ok (.getfield 9, 3) := by decide +kernel
theorem dd_T_append_36 : decode cd_T_append 36 = .ok (.iconst 1, 1) := by decide +kernel
theorem dd_T_append_37 : decode cd_T_append 37 = .ok (.iadd, 1) := by decide +kernel
theorem dd_T_append_38 : decode cd_T_append 38 = .ok (.putfield 9, 3) := by decide +kernel
theorem dd_T_append_41 : decode cd_T_append 41 = .ok (.aload_n 0, 1) := by decide +kernel
theorem dd_T_append_42 : decode cd_T_append 42 = .ok (.getfield 9, 3) := by decide +kernel
theorem dd_T_append_45 : decode cd_T_append 45 = .ok (.iconst 1, 1) := by decide +kernel
theorem dd_T_append_46 : decode cd_T_append 46 = .ok (.isub, 1) := by decide +kernel
theorem dd_T_append_47 : decode cd_T_append 47 = .ok (.ireturn, 1) := by decide +kernel
theorem dd_K_has_0 : decode cd_K_has 0 = .ok (.iload_n 1, 1) := by decide +kernel
theorem dd_K_has_1 : decode cd_K_has 1 = .ok (.ifCond .lt 15, 3) := by decide +kernel
theorem dd_K_has_4 : decode cd_K_has 4 = .ok (.iload_n 1, 1) := by decide +kernel
theorem dd_K_has_5 : decode cd_K_has 5 = .ok (.aload_n 0, 1) := by decide +kernel
theorem dd_K_has_6 : decode cd_K_has 6 = .ok (.getfield 9, 3) := by decide +kernel
theorem dd_K_has_9 : decode cd_K_has 9 = .ok (.if_icmp .ge 7, 3) := by decide +kernel
theorem dd_K_has_12 : decode cd_K_has 12 = .ok (.iconst 1, 1) := by decide +kernel
theorem dd_K_has_13 : decode cd_K_has 13 = .ok (.goto 4, 3) := by decide +kernel
theorem dd_K_has_16 : decode cd_K_has 16 = .ok (.iconst 0, 1) := by decide +kernel
theorem dd_K_has_17 : decode cd_K_has 17 = .ok (.ireturn, 1) := by decide +kernel
theorem dd_T_change_0 : decode cd_T_change 0 = .ok (.aload_n 0, 1) := by decide +kernel
theorem dd_T_change_1 : decode cd_T_change 1 = .ok (.getfield 24, 3) := by decide +kernel
theorem dd_T_change_4 : decode cd_T_change 4 = .ok (.iload_n 1, 1) := by decide +kernel
theorem dd_T_change_5 : decode cd_T_change 5 = .ok (.aaload, 1) := by decide +kernel
theorem dd_T_change_6 : decode cd_T_change 6 = .ok (.iload_n 2, 1) := by decide +kernel
theorem dd_T_change_7 : decode cd_T_change 7 = .ok (.dup2, 1) := by decide +kernel
theorem dd_T_change_8 : decode cd_T_change 8 = .ok (.iaload, 1) := by decide +kernel
theorem dd_T_change_9 : decode cd_T_change 9 = .ok (.iload_n 3, 1) := by decide +kernel
theorem dd_T_change_10 : decode cd_T_change 10 = .ok (.iadd, 1) := by decide +kernel
theorem dd_T_change_11 : decode cd_T_change 11 = .ok (.iastore, 1) := by decide +kernel
theorem dd_T_change_12 : decode cd_T_change 12 = .ok (.iload_n 1, 1) := by decide +kernel
theorem dd_T_change_13 : decode cd_T_change 13 = .ok (.istore 4, 2) := by decide +kernel
theorem dd_T_change_15 : decode cd_T_change 15 = .ok (.iconst 0, 1) := by decide +kernel
theorem dd_T_change_16 : decode cd_T_change 16 = .ok (.istore 5, 2) := by decide +kernel
theorem dd_T_change_18 : decode cd_T_change 18 = .ok (.iload 5, 2) := by decide +kernel
theorem dd_T_change_20 : decode cd_T_change 20 = .ok (.bipush 20, 2) := by decide +kernel
theorem dd_T_change_22 : decode cd_T_change 22 = .ok (.if_icmp .ge 40, 3) := by decide +kernel
theorem dd_T_change_25 : decode cd_T_change 25 = .ok (.aload_n 0, 1) := by decide +kernel
theorem dd_T_change_26 : decode cd_T_change 26 = .ok (.iload 4, 2) := by decide +kernel
theorem dd_T_change_28 : decode cd_T_change 28 = .ok (.invokevirtual 30, 3) := by decide +kernel
theorem dd_T_change_31 : decode cd_T_change 31 = .ok (.ifCond .eq 31, 3) := by decide +kernel
theorem dd_T_change_34 : decode cd_T_change 34 = .ok (.aload_n 0, 1) := by decide +kernel
theorem dd_T_change_35 : decode cd_T_change 35 = .ok (.getfield 27, 3) := by decide +kernel
theorem dd_T_change_38 : decode cd_T_change 38 = .ok (.iload 4, 2) := by decide +kernel
theorem dd_T_change_40 : decode cd_T_change 40 = .ok (.aaload, 1) := by decide +kernel
theorem dd_T_change_41 : decode cd_T_change 41 = .ok (.iload_n 2, 1) := by decide +kernel
theorem dd_T_change_42 : decode cd_T_change 42 = .ok (.dup2, 1) := by decide +kernel
theorem dd_T_change_43 : decode cd_T_change 43 = .ok (.iaload, 1) := by decide +kernel
theorem dd_T_change_44 : decode cd_T_change 44 = .ok (.iload_n 3, 1) := by decide +kernel
theorem dd_T_change_45 : decode cd_T_change 45 = .ok (.iadd, 1) := by decide +kernel
theorem dd_T_change_46 : decode cd_T_change 46 = .ok (.iastore, 1) := by decide +kernel
theorem dd_T_change_47 : decode cd_T_change 47 = .ok (.aload_n 0, 1) := by decide +kernel
theorem dd_T_change_48 : decode cd_T_change 48 = .ok (.getfield 15, 3) := by decide +kernel
theorem dd_T_change_51 : decode cd_T_change 51 = .ok (.iload 4, 2) := by decide +kernel
theorem dd_T_change_53 : decode cd_T_change 53 = .ok (.iaload, 1) := by decide +kernel
theorem dd_T_change_54 : decode cd_T_change 54 = .ok (.istore 4, 2) := by decide +kernel
theorem dd_T_change_56 : decode cd_T_change 56 = .ok (.iinc 5 1, 3) := by decide +kernel
theorem dd_T_change_59 : decode cd_T_change 59 = .ok (.goto (-41), 3) := by decide +kernel
theorem dd_T_change_62 : decode cd_T_change 62 = .ok (.return_, 1) := by decide +kernel
theorem dd_L_append_0 : decode cd_L_append 0 = .ok (.aload_n 0, 1) := by decide +kernel
theorem dd_L_append_1 : decode cd_L_append 1 = .ok (.getfield 9, 3) := by decide +kernel
theorem dd_L_append_4 : decode cd_L_append 4 = .ok (.bipush 20, 2) := by decide +kernel
theorem dd_L_append_6 : decode cd_L_append 6 = .ok (.if_icmp .lt 5, 3) := by decide +kernel
theorem dd_L_append_9 : decode cd_L_append 9 = .ok (.iconst (-1), 1) := by decide +kernel
theorem dd_L_append_10 : decode cd_L_append 10 = .ok (.ireturn, 1) := by decide +kernel
theorem dd_L_append_11 : decode cd_L_append 11 = .ok (.aload_n 0, 1) := by decide +kernel
theorem dd_L_append_12 : decode cd_L_append 12 = .ok (.getfield 15, 3) := by decide +kernel
theorem dd_L_append_15 : decode cd_L_append 15 = .ok (.aload_n 0, 1) := by decide +kernel
theorem dd_L_append_16 : decode cd_L_append 16 = .ok (.getfield 9, 3) := by decide +kernel
theorem dd_L_append_19 : decode cd_L_append 19 = .ok (.iload_n 1, 1) := by decide +kernel
theorem dd_L_append_20 : decode cd_L_append 20 = .ok (.iastore, 1) := by decide +kernel
theorem dd_L_append_21 : decode cd_L_append 21 = .ok (.aload_n 0, 1) := by decide +kernel
theorem dd_L_append_22 : decode cd_L_append 22 = .ok (.getfield 19, 3) := by decide +kernel
theorem dd_L_append_25 : decode cd_L_append 25 = .ok (.aload_n 0, 1) := by decide +kernel
theorem dd_L_append_26 : decode cd_L_append 26 = .ok (.getfield 9, 3) := by decide +kernel
theorem dd_L_append_29 : decode cd_L_append 29 = .ok (.iload_n 2, 1) := by decide +kernel
theorem dd_L_append_30 : decode cd_L_append 30 = .ok (.iastore, 1) := by decide +kernel
theorem dd_L_append_31 : decode cd_L_append 31 = .ok (.aload_n 0, 1) := by decide +kernel
theorem dd_L_append_32 : decode cd_L_append 32 = .ok (.getfield 22, 3) := by decide +kernel
theorem dd_L_append_35 : decode cd_L_append 35 = .ok (.aload_n 0, 1) := by decide +kernel
theorem dd_L_append_36 : decode cd_L_append 36 = .ok (.getfield 9, 3) := by decide +kernel
theorem dd_L_append_39 : decode cd_L_append 39 = .ok (.iload_n 3, 1) := by decide +kernel
theorem dd_L_append_40 : decode cd_L_append 40 = .ok (.iastore, 1) := by decide +kernel
theorem dd_L_append_41 : decode cd_L_append 41 = .ok (.aload_n 0, 1) := by decide +kernel
theorem dd_L_append_42 : decode cd_L_append 42 = .ok (.dup, 1) := by decide +kernel
theorem dd_L_append_43 : decode cd_L_append 43 = .ok (.getfield 9, 3) := by decide +kernel
theorem dd_L_append_46 : decode cd_L_append 46 = .ok (.iconst 1, 1) := by decide +kernel
theorem dd_L_append_47 : decode cd_L_append 47 = .ok (.iadd, 1) := by decide +kernel
theorem dd_L_append_48 : decode cd_L_append 48 = .ok (.putfield 9, 3) := by decide +kernel
theorem dd_L_append_51 : decode cd_L_append 51 = .ok (.aload_n 0, 1) := by decide +kernel
theorem dd_L_append_52 : decode cd_L_append 52 = .ok (.getfield 9, 3) := by decide +kernel
theorem dd_L_append_55 : decode cd_L_append 55 = .ok (.iconst 1, 1) := by decide +kernel
theorem dd_L_append_56 : decode cd_L_append 56 = .ok (.isub, 1) := by decide +kernel
theorem dd_L_append_57 : decode cd_L_append 57 = .ok (.ireturn, 1) := by decide +kernel
theorem dd_P_take_0 : decode cd_P_take 0 = .ok (.aload_n 0, 1) := by decide +kernel
theorem dd_P_take_1 : decode cd_P_take 1 = .ok (.getfield 16, 3) := by decide +kernel
theorem dd_P_take_4 : decode cd_P_take 4 = .ok (.aload_n 1, 1) := by decide +kernel
theorem dd_P_take_5 : decode cd_P_take 5 = .ok (.invokevirtual 23, 3) := by decide +kernel
theorem dd_P_take_8 : decode cd_P_take 8 = .ok (.aload_n 0, 1) := by decide +kernel
theorem dd_P_take_9 : decode cd_P_take 9 = .ok (.getfield 20, 3) := by decide +kernel
theorem dd_P_take_12 : decode cd_P_take 12 = .ok (.aload_n 2, 1) := by decide +kernel
theorem dd_P_take_13 : decode cd_P_take 13 = .ok (.invokevirtual 23, 3) := by decide +kernel
theorem dd_P_take_16 : decode cd_P_take 16 = .ok (.aload_n 0, 1) := by decide +kernel
theorem dd_P_take_17 : decode cd_P_take 17 = .ok (.iconst 1, 1) := by decide +kernel
theorem dd_P_take_18 : decode cd_P_take 18 = .ok (.putfield 7, 3) := by decide +kernel
theorem dd_P_take_21 : decode cd_P_take 21 = .ok (.iconst 0, 1) := by decide +kernel
theorem dd_P_take_22 : decode cd_P_take 22 = .ok (.istore 4, 2) := by decide +kernel
theorem dd_P_take_24 : decode cd_P_take 24 = .ok (.iload 4, 2) := by decide +kernel
theorem dd_P_take_26 : decode cd_P_take 26 = .ok (.sipush 600, 3) := by decide +kernel
theorem dd_P_take_29 : decode cd_P_take 29 = .ok (.if_icmp .ge 64, 3) := by decide +kernel
theorem dd_P_take_32 : decode cd_P_take 32 = .ok (.aload_n 0, 1) := by decide +kernel
theorem dd_P_take_33 : decode cd_P_take 33 = .ok (.getfield 16, 3) := by decide +kernel
theorem dd_P_take_36 : decode cd_P_take 36 = .ok (.iload_n 3, 1) := by decide +kernel
theorem dd_P_take_37 : decode cd_P_take 37 = .ok (.invokevirtual 27, 3) := by decide +kernel
theorem dd_P_take_40 : decode cd_P_take 40 = .ok (.iload_n 3, 1) := by decide +kernel
theorem dd_P_take_41 : decode cd_P_take 41 = .ok (.invokestatic 31, 3) := by decide +kernel
theorem dd_P_take_44 : decode cd_P_take 44 = .ok (.istore 5, 2) := by decide +kernel
theorem dd_P_take_46 : decode cd_P_take 46 = .ok (.aload_n 0, 1) := by decide +kernel
theorem dd_P_take_47 : decode cd_P_take 47 = .ok (.getfield 20, 3) := by decide +kernel
theorem dd_P_take_50 : decode cd_P_take 50 = .ok (.iload 5, 2) := by decide +kernel
theorem dd_P_take_52 : decode cd_P_take 52 = .ok (.invokevirtual 27, 3) := by decide +kernel
theorem dd_P_take_55 : decode cd_P_take 55 = .ok (.iload 5, 2) := by decide +kernel
theorem dd_P_take_57 : decode cd_P_take 57 = .ok (.invokestatic 31, 3) := by decide +kernel
theorem dd_P_take_60 : decode cd_P_take 60 = .ok (.istore 5, 2) := by decide +kernel
theorem dd_P_take_62 : decode cd_P_take 62 = .ok (.iload 5, 2) := by decide +kernel
theorem dd_P_take_64 : decode cd_P_take 64 = .ok (.iconst 1, 1) := by decide +kernel
theorem dd_P_take_65 : decode cd_P_take 65 = .ok (.if_icmp .gt 4, 3) := by decide +kernel
theorem dd_P_take_68 : decode cd_P_take 68 = .ok (.return_, 1) := by decide +kernel
theorem dd_P_take_69 : decode cd_P_take 69 = .ok (.aload_n 0, 1) := by decide +kernel
theorem dd_P_take_70 : decode cd_P_take 70 = .ok (.getfield 16, 3) := by decide +kernel
theorem dd_P_take_73 : decode cd_P_take 73 = .ok (.iload 5, 2) := by decide +kernel
theorem dd_P_take_75 : decode cd_P_take 75 = .ok (.invokevirtual 37, 3) := by decide +kernel
theorem dd_P_take_78 : decode cd_P_take 78 = .ok (.aload_n 0, 1) := by decide +kernel
theorem dd_P_take_79 : decode cd_P_take 79 = .ok (.getfield 20, 3) := by decide +kernel
theorem dd_P_take_82 : decode cd_P_take 82 = .ok (.iload 5, 2) := by decide +kernel
theorem dd_P_take_84 : decode cd_P_take 84 = .ok (.invokevirtual 37, 3) := by decide +kernel
theorem dd_P_take_87 : decode cd_P_take 87 = .ok (.iinc 4 1, 3) := by decide +kernel
theorem dd_P_take_90 : decode cd_P_take 90 = .ok (.goto (-66), 3) := by decide +kernel
theorem dd_P_take_93 : decode cd_P_take 93 = .ok (.return_, 1) := by decide +kernel
theorem dd_H_becomeW_0 : decode cd_H_becomeW 0 = .ok (.aload_n 1, 1) := by decide +kernel
theorem dd_H_becomeW_1 : decode cd_H_becomeW 1 = .ok (.getfield 9, 3) := by decide +kernel
theorem dd_H_becomeW_4 : decode cd_H_becomeW 4 = .ok (.iconst 0, 1) := by decide +kernel
theorem dd_H_becomeW_5 : decode cd_H_becomeW 5 = .ok (.aload_n 0, 1) := by decide +kernel
theorem dd_H_becomeW_6 : decode cd_H_becomeW 6 = .ok (.getfield 9, 3) := by decide +kernel
theorem dd_H_becomeW_9 : decode cd_H_becomeW 9 = .ok (.iconst 0, 1) := by decide +kernel
theorem dd_H_becomeW_10 : decode cd_H_becomeW 10 = .ok (.bipush 16, 2) := by decide +kernel
theorem dd_H_becomeW_12 : decode cd_H_becomeW 12 = .ok (.invokestatic 23, 3) := by decide +kernel
theorem dd_H_becomeW_15 : decode cd_H_becomeW 15 = .ok (.aload_n 0, 1) := by decide +kernel
theorem dd_H_becomeW_16 : decode cd_H_becomeW 16 = .ok (.aload_n 1, 1) := by decide +kernel
theorem dd_H_becomeW_17 : decode cd_H_becomeW 17 = .ok (.getfield 13, 3) := by decide +kernel
theorem dd_H_becomeW_20 : decode cd_H_becomeW 20 = .ok (.putfield 13, 3) := by decide +kernel
theorem dd_H_becomeW_23 : decode cd_H_becomeW 23 = .ok (.return_, 1) := by decide +kernel
theorem dd_H_remainder_0 : decode cd_H_remainder 0 = .ok (.iload_n 1, 1) := by decide +kernel
theorem dd_H_remainder_1 : decode cd_H_remainder 1 = .ok (.iconst 1, 1) := by decide +kernel
theorem dd_H_remainder_2 : decode cd_H_remainder 2 = .ok (.if_icmp .ge 5, 3) := by decide +kernel
theorem dd_H_remainder_5 : decode cd_H_remainder 5 = .ok (.iconst 0, 1) := by decide +kernel
theorem dd_H_remainder_6 : decode cd_H_remainder 6 = .ok (.ireturn, 1) := by decide +kernel
theorem dd_H_remainder_7 : decode cd_H_remainder 7 = .ok (.lconst 0, 1) := by decide +kernel
theorem dd_H_remainder_8 : decode cd_H_remainder 8 = .ok (.lstore_n 2, 1) := by decide +kernel
theorem dd_H_remainder_9 : decode cd_H_remainder 9 = .ok (.aload_n 0, 1) := by decide +kernel
theorem dd_H_remainder_10 : decode cd_H_remainder 10 = .ok (.getfield 13, 3) := by decide +kernel
theorem dd_H_remainder_13 : decode cd_H_remainder 13 = .ok (.iconst 1, 1) := by decide +kernel
theorem dd_H_remainder_14 : decode cd_H_remainder 14 = .ok (.isub, 1) := by decide +kernel
theorem dd_H_remainder_15 : decode cd_H_remainder 15 = .ok (.istore 4, 2) := by decide +kernel
theorem dd_H_remainder_17 : decode cd_H_remainder 17 = .ok (.iload 4, 2) := by decide +kernel
theorem dd_H_remainder_19 : decode cd_H_remainder 19 = .ok (.ifCond .lt 26, 3) := by decide +kernel
theorem dd_H_remainder_22 : decode cd_H_remainder 22 = .ok (.lload_n 2, 1) := by decide +kernel
theorem dd_H_remainder_23 : decode cd_H_remainder 23 = .ok (.ldc2_w 36, 3) := by decide +kernel
theorem dd_H_remainder_26 : decode cd_H_remainder 26 = .ok (.lmul, 1) := by decide +kernel
theorem dd_H_remainder_27 : decode cd_H_remainder 27 = .ok (.aload_n 0, 1) := by decide +kernel
theorem dd_H_remainder_28 : decode cd_H_remainder 28 = .ok (.getfield 9, 3) := by decide +kernel
theorem dd_H_remainder_31 : decode cd_H_remainder 31 = .ok (.iload 4, 2) := by decide +kernel
theorem dd_H_remainder_33 : decode cd_H_remainder 33 = .ok (.laload, 1) := by decide +kernel
theorem dd_H_remainder_34 : decode cd_H_remainder 34 = .ok (.ladd, 1) := by decide +kernel
theorem dd_H_remainder_35 : decode cd_H_remainder 35 = .ok (.iload_n 1, 1) := by decide +kernel
theorem dd_H_remainder_36 : decode cd_H_remainder 36 = .ok (.i2l, 1) := by decide +kernel
theorem dd_H_remainder_37 : decode cd_H_remainder 37 = .ok (.lrem, 1) := by decide +kernel
theorem dd_H_remainder_38 : decode cd_H_remainder 38 = .ok (.lstore_n 2, 1) := by decide +kernel
theorem dd_H_remainder_39 : decode cd_H_remainder 39 = .ok (.iinc 4 (-1), 3) := by decide +kernel
theorem dd_H_remainder_42 : decode cd_H_remainder 42 = .ok (.goto (-25), 3) := by decide +kernel
theorem dd_H_remainder_45 : decode cd_H_remainder 45 = .ok (.lload_n 2, 1) := by decide +kernel
theorem dd_H_remainder_46 : decode cd_H_remainder 46 = .ok (.l2i, 1) := by decide +kernel
theorem dd_H_remainder_47 : decode cd_H_remainder 47 = .ok (.ireturn, 1) := by decide +kernel
theorem dd_H_length_0 : decode cd_H_length 0 = .ok (.aload_n 0, 1) := by decide +kernel
theorem dd_H_length_1 : decode cd_H_length 1 = .ok (.getfield 13, 3) := by decide +kernel
theorem dd_H_length_4 : decode cd_H_length 4 = .ok (.iconst 1, 1) := by decide +kernel
theorem dd_H_length_5 : decode cd_H_length 5 = .ok (.isub, 1) := by decide +kernel
theorem dd_H_length_6 : decode cd_H_length 6 = .ok (.bipush 12, 2) := by decide +kernel
theorem dd_H_length_8 : decode cd_H_length 8 = .ok (.imul, 1) := by decide +kernel
theorem dd_H_length_9 : decode cd_H_length 9 = .ok (.iconst 1, 1) := by decide +kernel
theorem dd_H_length_10 : decode cd_H_length 10 = .ok (.iadd, 1) := by decide +kernel
theorem dd_H_length_11 : decode cd_H_length 11 = .ok (.istore_n 1, 1) := by decide +kernel
theorem dd_H_length_12 : decode cd_H_length 12 = .ok (.aload_n 0, 1) := by decide +kernel
theorem dd_H_length_13 : decode cd_H_length 13 = .ok (.getfield 9, 3) := by decide +kernel
theorem dd_H_length_16 : decode cd_H_length 16 = .ok (.aload_n 0, 1) := by decide +kernel
theorem dd_H_length_17 : decode cd_H_length 17 = .ok (.getfield 13, 3) := by decide +kernel
theorem dd_H_length_20 : decode cd_H_length 20 = .ok (.iconst 1, 1) := by decide +kernel
theorem dd_H_length_21 : decode cd_H_length 21 = .ok (.isub, 1) := by decide +kernel
theorem dd_H_length_22 : decode cd_H_length 22 = .ok (.laload, 1) := by decide +kernel
theorem dd_H_length_23 : decode cd_H_length 23 = .ok (.lstore_n 2, 1) := by decide +kernel
theorem dd_H_length_24 : decode cd_H_length 24 = .ok (.iconst 1, 1) := by decide +kernel
theorem dd_H_length_25 : decode cd_H_length 25 = .ok (.istore 4, 2) := by decide +kernel
theorem dd_H_length_27 : decode cd_H_length 27 = .ok (.iload 4, 2) := by decide +kernel
theorem dd_H_length_29 : decode cd_H_length 29 = .ok (.bipush 12, 2) := by decide +kernel
theorem dd_H_length_31 : decode cd_H_length 31 = .ok (.if_icmp .ge 26, 3) := by decide +kernel
theorem dd_H_length_34 : decode cd_H_length 34 = .ok (.lload_n 2, 1) := by decide +kernel
theorem dd_H_length_35 : decode cd_H_length 35 = .ok (.ldc2_w 44, 3) := by decide +kernel
theorem dd_H_length_38 : decode cd_H_length 38 = .ok (.lcmp, 1) := by decide +kernel
theorem dd_H_length_39 : decode cd_H_length 39 = .ok (.ifCond .lt 18, 3) := by decide +kernel
theorem dd_H_length_42 : decode cd_H_length 42 = .ok (.lload_n 2, 1) := by decide +kernel
theorem dd_H_length_43 : decode cd_H_length 43 = .ok (.ldc2_w 44, 3) := by decide +kernel
theorem dd_H_length_46 : decode cd_H_length 46 = .ok (.ldiv, 1) := by decide +kernel
theorem dd_H_length_47 : decode cd_H_length 47 = .ok (.lstore_n 2, 1) := by decide +kernel
theorem dd_H_length_48 : decode cd_H_length 48 = .ok (.iinc 1 1, 3) := by decide +kernel
theorem dd_H_length_51 : decode cd_H_length 51 = .ok (.iinc 4 1, 3) := by decide +kernel
theorem dd_H_length_54 : decode cd_H_length 54 = .ok (.goto (-27), 3) := by decide +kernel
theorem dd_H_length_57 : decode cd_H_length 57 = .ok (.iload_n 1, 1) := by decide +kernel
theorem dd_H_length_58 : decode cd_H_length 58 = .ok (.ireturn, 1) := by decide +kernel
theorem dd_P_lengthOf_0 : decode cd_P_lengthOf 0 = .ok (.aload_n 0, 1) := by decide +kernel
theorem dd_P_lengthOf_1 : decode cd_P_lengthOf 1 = .ok (.getfield 7, 3) := by decide +kernel
theorem dd_P_lengthOf_4 : decode cd_P_lengthOf 4 = .ok (.ifCond .eq 14, 3) := by decide +kernel
theorem dd_P_lengthOf_7 : decode cd_P_lengthOf 7 = .ok (.aload_n 0, 1) := by decide +kernel
theorem dd_P_lengthOf_8 : decode cd_P_lengthOf 8 = .ok (.iload_n 1, 1) := by decide +kernel
theorem dd_P_lengthOf_9 : decode cd_P_lengthOf 9 = .ok (.invokevirtual 41, 3) := by decide +kernel
theorem dd_P_lengthOf_12 : decode cd_P_lengthOf 12 = .ok (.invokevirtual 45, 3) := by decide +kernel
theorem dd_P_lengthOf_15 : decode cd_P_lengthOf 15 = .ok (.goto 4, 3) := by decide +kernel
theorem dd_P_lengthOf_18 : decode cd_P_lengthOf 18 = .ok (.iconst 0, 1) := by decide +kernel
theorem dd_P_lengthOf_19 : decode cd_P_lengthOf 19 = .ok (.ireturn, 1) := by decide +kernel
theorem dd_P_number_0 : decode cd_P_number 0 = .ok (.iload_n 1, 1) := by decide +kernel
theorem dd_P_number_1 : decode cd_P_number 1 = .ok (.ifCond .ne 10, 3) := by decide +kernel
theorem dd_P_number_4 : decode cd_P_number 4 = .ok (.aload_n 0, 1) := by decide +kernel
theorem dd_P_number_5 : decode cd_P_number 5 = .ok (.getfield 16, 3) := by decide +kernel
theorem dd_P_number_8 : decode cd_P_number 8 = .ok (.goto 7, 3) := by decide +kernel
theorem dd_P_number_11 : decode cd_P_number 11 = .ok (.aload_n 0, 1) := by decide +kernel
theorem dd_P_number_12 : decode cd_P_number 12 = .ok (.getfield 20, 3) := by decide +kernel
theorem dd_P_number_15 : decode cd_P_number 15 = .ok (.areturn, 1) := by decide +kernel
theorem dd_H_digitAt_0 : decode cd_H_digitAt 0 = .ok (.iload_n 1, 1) := by decide +kernel
theorem dd_H_digitAt_1 : decode cd_H_digitAt 1 = .ok (.ifCond .lt 10, 3) := by decide +kernel
theorem dd_H_digitAt_4 : decode cd_H_digitAt 4 = .ok (.iload_n 1, 1) := by decide +kernel
theorem dd_H_digitAt_5 : decode cd_H_digitAt 5 = .ok (.sipush 192, 3) := by decide +kernel
theorem dd_H_digitAt_8 : decode cd_H_digitAt 8 = .ok (.if_icmp .lt 5, 3) := by decide +kernel
theorem dd_H_digitAt_11 : decode cd_H_digitAt 11 = .ok (.iconst 0, 1) := by decide +kernel
theorem dd_H_digitAt_12 : decode cd_H_digitAt 12 = .ok (.ireturn, 1) := by decide +kernel
theorem dd_H_digitAt_13 : decode cd_H_digitAt 13 = .ok (.aload_n 0, 1) := by decide +kernel
theorem dd_H_digitAt_14 : decode cd_H_digitAt 14 = .ok (.getfield 9, 3) := by decide +kernel
theorem dd_H_digitAt_17 : decode cd_H_digitAt 17 = .ok (.iload_n 1, 1) := by decide +kernel
theorem dd_H_digitAt_18 : decode cd_H_digitAt 18 = .ok (.bipush 12, 2) := by decide +kernel
theorem dd_H_digitAt_20 : decode cd_H_digitAt 20 = .ok (.idiv, 1) := by decide +kernel
theorem dd_H_digitAt_21 : decode cd_H_digitAt 21 = .ok (.laload, 1) := by decide +kernel
theorem dd_H_digitAt_22 : decode cd_H_digitAt 22 = .ok (.lstore_n 2, 1) := by decide +kernel
theorem dd_H_digitAt_23 : decode cd_H_digitAt 23 = .ok (.iload_n 1, 1) := by decide +kernel
theorem dd_H_digitAt_24 : decode cd_H_digitAt 24 = .ok (.bipush 12, 2) := by decide +kernel
theorem dd_H_digitAt_26 : decode cd_H_digitAt 26 = .ok (.irem, 1) := by decide +kernel
theorem dd_H_digitAt_27 : decode cd_H_digitAt 27 = .ok (.istore 4, 2) := by decide +kernel
theorem dd_H_digitAt_29 : decode cd_H_digitAt 29 = .ok (.iload 4, 2) := by decide +kernel
theorem dd_H_digitAt_31 : decode cd_H_digitAt 31 = .ok (.ifCond .le 15, 3) := by decide +kernel
theorem dd_H_digitAt_34 : decode cd_H_digitAt 34 = .ok (.lload_n 2, 1) := by decide +kernel
theorem dd_H_digitAt_35 : decode cd_H_digitAt 35 = .ok (.ldc2_w 44, 3) := by decide +kernel
theorem dd_H_digitAt_38 : decode cd_H_digitAt 38 = .ok (.ldiv, 1) := by decide +kernel
theorem dd_H_digitAt_39 : decode cd_H_digitAt 39 = .ok (.lstore_n 2, 1) := by decide +kernel
theorem dd_H_digitAt_40 : decode cd_H_digitAt 40 = .ok (.iinc 4 (-1), 3) := by decide +kernel
theorem dd_H_digitAt_43 : decode cd_H_digitAt 43 = .ok (.goto (-14), 3) := by decide +kernel
theorem dd_H_digitAt_46 : decode cd_H_digitAt 46 = .ok (.lload_n 2, 1) := by decide +kernel
theorem dd_H_digitAt_47 : decode cd_H_digitAt 47 = .ok (.ldc2_w 44, 3) := by decide +kernel
theorem dd_H_digitAt_50 : decode cd_H_digitAt 50 = .ok (.lrem, 1) := by decide +kernel
theorem dd_H_digitAt_51 : decode cd_H_digitAt 51 = .ok (.l2i, 1) := by decide +kernel
theorem dd_H_digitAt_52 : decode cd_H_digitAt 52 = .ok (.ireturn, 1) := by decide +kernel
