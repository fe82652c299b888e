theorem dd_W_kind_0 : decode cd_W_kind 0 = .ok (.aload 4, 2) := by decide +kernel
theorem dd_W_kind_2 : decode cd_W_kind 2 = .ok (.iconst 0, 1) := by decide +kernel
theorem dd_W_kind_3 : decode cd_W_kind 3 = .ok (.aload_n 0, 1) := by decide +kernel
theorem dd_W_kind_4 : decode cd_W_kind 4 = .ok (.iload_n 1, 1) := by decide +kernel
theorem dd_W_kind_5 : decode cd_W_kind 5 = .ok (.iload_n 2, 1) := by decide +kernel
theorem dd_W_kind_6 : decode cd_W_kind 6 = .ok (.iload_n 3, 1) := by decide +kernel
theorem dd_W_kind_7 : decode cd_W_kind 7 = .ok (.invokevirtual 7, 3) := by decide +kernel
theorem dd_W_kind_10 : decode cd_W_kind 10 = .ok (.i2l, 1) := by decide +kernel
theorem dd_W_kind_11 : decode cd_W_kind 11 = .ok (.lastore, 1) := by decide +kernel
theorem dd_W_kind_12 : decode cd_W_kind 12 = .ok (.goto 11, 3) := by decide +kernel
theorem dd_W_kind_15 : decode cd_W_kind 15 = .ok (.astore 5, 2) := by decide +kernel
theorem dd_W_kind_17 : decode cd_W_kind 17 = .ok (.iconst 1, 1) := by decide +kernel
theorem dd_W_kind_18 : decode cd_W_kind 18 = .ok (.ireturn, 1) := by decide +kernel
theorem dd_W_kind_19 : decode cd_W_kind 19 = .ok (.astore 5, 2) := by decide +kernel
theorem dd_W_kind_21 : decode cd_W_kind 21 = .ok (.iconst 2, 1) := by decide +kernel
theorem dd_W_kind_22 : decode cd_W_kind 22 = .ok (.ireturn, 1) := by decide +kernel
theorem dd_W_kind_23 : decode cd_W_kind 23 = .ok (.iconst 0, 1) := by decide +kernel
theorem dd_W_kind_24 : decode cd_W_kind 24 = .ok (.ireturn, 1) := by decide +kernel
theorem dd_W_pipe_0 : decode cd_W_pipe 0 = .ok (.aload_n 3, 1) := by decide +kernel
theorem dd_W_pipe_1 : decode cd_W_pipe 1 = .ok (.iconst 0, 1) := by decide +kernel
theorem dd_W_pipe_2 : decode cd_W_pipe 2 = .ok (.aload_n 0, 1) := by decide +kernel
theorem dd_W_pipe_3 : decode cd_W_pipe 3 = .ok (.iload_n 1, 1) := by decide +kernel
theorem dd_W_pipe_4 : decode cd_W_pipe 4 = .ok (.iload_n 2, 1) := by decide +kernel
theorem dd_W_pipe_5 : decode cd_W_pipe 5 = .ok (.invokevirtual 17, 3) := by decide +kernel
theorem dd_W_pipe_8 : decode cd_W_pipe 8 = .ok (.i2l, 1) := by decide +kernel
theorem dd_W_pipe_9 : decode cd_W_pipe 9 = .ok (.lastore, 1) := by decide +kernel
theorem dd_W_pipe_10 : decode cd_W_pipe 10 = .ok (.goto 11, 3) := by decide +kernel
theorem dd_W_pipe_13 : decode cd_W_pipe 13 = .ok (.astore 4, 2) := by decide +kernel
theorem dd_W_pipe_15 : decode cd_W_pipe 15 = .ok (.iconst 1, 1) := by decide +kernel
theorem dd_W_pipe_16 : decode cd_W_pipe 16 = .ok (.ireturn, 1) := by decide +kernel
theorem dd_W_pipe_17 : decode cd_W_pipe 17 = .ok (.astore 4, 2) := by decide +kernel
theorem dd_W_pipe_19 : decode cd_W_pipe 19 = .ok (.iconst 2, 1) := by decide +kernel
theorem dd_W_pipe_20 : decode cd_W_pipe 20 = .ok (.ireturn, 1) := by decide +kernel
theorem dd_W_pipe_21 : decode cd_W_pipe 21 = .ok (.iconst 0, 1) := by decide +kernel
theorem dd_W_pipe_22 : decode cd_W_pipe 22 = .ok (.ireturn, 1) := by decide +kernel
theorem dd_W_taps_0 : decode cd_W_taps 0 = .ok (.aload 4, 2) := by decide +kernel
theorem dd_W_taps_2 : decode cd_W_taps 2 = .ok (.iconst 0, 1) := by decide +kernel
theorem dd_W_taps_3 : decode cd_W_taps 3 = .ok (.aload_n 0, 1) := by decide +kernel
theorem dd_W_taps_4 : decode cd_W_taps 4 = .ok (.iload_n 1, 1) := by decide +kernel
theorem dd_W_taps_5 : decode cd_W_taps 5 = .ok (.iload_n 2, 1) := by decide +kernel
theorem dd_W_taps_6 : decode cd_W_taps 6 = .ok (.iload_n 3, 1) := by decide +kernel
theorem dd_W_taps_7 : decode cd_W_taps 7 = .ok (.invokevirtual 21, 3) := by decide +kernel
theorem dd_W_taps_10 : decode cd_W_taps 10 = .ok (.i2l, 1) := by decide +kernel
theorem dd_W_taps_11 : decode cd_W_taps 11 = .ok (.lastore, 1) := by decide +kernel
theorem dd_W_taps_12 : decode cd_W_taps 12 = .ok (.goto 11, 3) := by decide +kernel
theorem dd_W_taps_15 : decode cd_W_taps 15 = .ok (.astore 5, 2) := by decide +kernel
theorem dd_W_taps_17 : decode cd_W_taps 17 = .ok (.iconst 1, 1) := by decide +kernel
theorem dd_W_taps_18 : decode cd_W_taps 18 = .ok (.ireturn, 1) := by decide +kernel
theorem dd_W_taps_19 : decode cd_W_taps 19 = .ok (.astore 5, 2) := by decide +kernel
theorem dd_W_taps_21 : decode cd_W_taps 21 = .ok (.iconst 2, 1) := by decide +kernel
theorem dd_W_taps_22 : decode cd_W_taps 22 = .ok (.ireturn, 1) := by decide +kernel
theorem dd_W_taps_23 : decode cd_W_taps 23 = .ok (.iconst 0, 1) := by decide +kernel
theorem dd_W_taps_24 : decode cd_W_taps 24 = .ok (.ireturn, 1) := by decide +kernel
theorem dd_W_gone_0 : decode cd_W_gone 0 = .ok (.aload 4, 2) := by decide +kernel
theorem dd_W_gone_2 : decode cd_W_gone 2 = .ok (.iconst 0, 1) := by decide +kernel
theorem dd_W_gone_3 : decode cd_W_gone 3 = .ok (.aload_n 0, 1) := by decide +kernel
theorem dd_W_gone_4 : decode cd_W_gone 4 = .ok (.iload_n 1, 1) := by decide +kernel
theorem dd_W_gone_5 : decode cd_W_gone 5 = .ok (.iload_n 2, 1) := by decide +kernel
theorem dd_W_gone_6 : decode cd_W_gone 6 = .ok (.iload_n 3, 1) := by decide +kernel
theorem dd_W_gone_7 : decode cd_W_gone 7 = .ok (.invokevirtual 24, 3) := by decide +kernel
theorem dd_W_gone_10 : decode cd_W_gone 10 = .ok (.i2l, 1) := by decide +kernel
theorem dd_W_gone_11 : decode cd_W_gone 11 = .ok (.lastore, 1) := by decide +kernel
theorem dd_W_gone_12 : decode cd_W_gone 12 = .ok (.goto 7, 3) := by decide +kernel
theorem dd_W_gone_15 : decode cd_W_gone 15 = .ok (.astore 5, 2) := by decide +kernel
theorem dd_W_gone_17 : decode cd_W_gone 17 = .ok (.iconst 1, 1) := by decide +kernel
theorem dd_W_gone_18 : decode cd_W_gone 18 = .ok (.ireturn, 1) := by decide +kernel
theorem dd_W_gone_19 : decode cd_W_gone 19 = .ok (.iconst 0, 1) := by decide +kernel
theorem dd_W_gone_20 : decode cd_W_gone 20 = .ok (.ireturn, 1) := by decide +kernel
theorem dd_W_share_0 : decode cd_W_share 0 = .ok (.aload_n 0, 1) := by decide +kernel
theorem dd_W_share_1 : decode cd_W_share 1 = .ok (.iload_n 1, 1) := by decide +kernel
theorem dd_W_share_2 : decode cd_W_share 2 = .ok (.iload_n 2, 1) := by decide +kernel
theorem dd_W_share_3 : decode cd_W_share 3 = .ok (.invokevirtual 27, 3) := by decide +kernel
theorem dd_W_share_6 : decode cd_W_share 6 = .ok (.goto 6, 3) := by decide +kernel
theorem dd_W_share_9 : decode cd_W_share 9 = .ok (.astore_n 3, 1) := by decide +kernel
theorem dd_W_share_10 : decode cd_W_share 10 = .ok (.iconst 1, 1) := by decide +kernel
theorem dd_W_share_11 : decode cd_W_share 11 = .ok (.ireturn, 1) := by decide +kernel
theorem dd_W_share_12 : decode cd_W_share 12 = .ok (.iconst 0, 1) := by decide +kernel
theorem dd_W_share_13 : decode cd_W_share 13 = .ok (.ireturn, 1) := by decide +kernel
theorem dd_W_entry_0 : decode cd_W_entry 0 = .ok (.aload 4, 2) := by decide +kernel
theorem dd_W_entry_2 : decode cd_W_entry 2 = .ok (.iconst 0, 1) := by decide +kernel
theorem dd_W_entry_3 : decode cd_W_entry 3 = .ok (.aload_n 0, 1) := by decide +kernel
theorem dd_W_entry_4 : decode cd_W_entry 4 = .ok (.iload_n 1, 1) := by decide +kernel
theorem dd_W_entry_5 : decode cd_W_entry 5 = .ok (.iload_n 2, 1) := by decide +kernel
theorem dd_W_entry_6 : decode cd_W_entry 6 = .ok (.iload_n 3, 1) := by decide +kernel
theorem dd_W_entry_7 : decode cd_W_entry 7 = .ok (.invokevirtual 31, 3) := by decide +kernel
theorem dd_W_entry_10 : decode cd_W_entry 10 = .ok (.i2l, 1) := by decide +kernel
theorem dd_W_entry_11 : decode cd_W_entry 11 = .ok (.lastore, 1) := by decide +kernel
theorem dd_W_entry_12 : decode cd_W_entry 12 = .ok (.goto 11, 3) := by decide +kernel
theorem dd_W_entry_15 : decode cd_W_entry 15 = .ok (.astore 5, 2) := by decide +kernel
theorem dd_W_entry_17 : decode cd_W_entry 17 = .ok (.iconst 1, 1) := by decide +kernel
theorem dd_W_entry_18 : decode cd_W_entry 18 = .ok (.ireturn, 1) := by decide +kernel
theorem dd_W_entry_19 : decode cd_W_entry 19 = .ok (.astore 5, 2) := by decide +kernel
theorem dd_W_entry_21 : decode cd_W_entry 21 = .ok (.iconst 2, 1) := by decide +kernel
theorem dd_W_entry_22 : decode cd_W_entry 22 = .ok (.ireturn, 1) := by decide +kernel
theorem dd_W_entry_23 : decode cd_W_entry 23 = .ok (.iconst 0, 1) := by decide +kernel
theorem dd_W_entry_24 : decode cd_W_entry 24 = .ok (.ireturn, 1) := by decide +kernel
theorem dd_W_many_0 : decode cd_W_many 0 = .ok (.aload_n 3, 1) := by decide +kernel
theorem dd_W_many_1 : decode cd_W_many 1 = .ok (.iconst 0, 1) := by decide +kernel
theorem dd_W_many_2 : decode cd_W_many 2 = .ok (.aload_n 0, 1) := by decide +kernel
theorem dd_W_many_3 : decode cd_W_many 3 = .ok (.iload_n 1, 1) := by decide +kernel
theorem dd_W_many_4 : decode cd_W_many 4 = .ok (.iload_n 2, 1) := by decide +kernel
theorem dd_W_many_5 : decode cd_W_many 5 = .ok (.invokevirtual 34, 3) := by decide +kernel
theorem dd_W_many_8 : decode cd_W_many 8 = .ok (.i2l, 1) := by decide +kernel
theorem dd_W_many_9 : decode cd_W_many 9 = .ok (.lastore, 1) := by decide +kernel
theorem dd_W_many_10 : decode cd_W_many 10 = .ok (.goto 7, 3) := by decide +kernel
theorem dd_W_many_13 : decode cd_W_many 13 = .ok (.astore 4, 2) := by decide +kernel
theorem dd_W_many_15 : decode cd_W_many 15 = .ok (.iconst 1, 1) := by decide +kernel
theorem dd_W_many_16 : decode cd_W_many 16 = .ok (.ireturn, 1) := by decide +kernel
theorem dd_W_many_17 : decode cd_W_many 17 = .ok (.iconst 0, 1) := by decide +kernel
theorem dd_W_many_18 : decode cd_W_many 18 = .ok (.ireturn, 1) := by decide +kernel
theorem dd_W_count_0 : decode cd_W_count 0 = .ok (.aload_n 3, 1) := by decide +kernel
theorem dd_W_count_1 : decode cd_W_count 1 = .ok (.iconst 0, 1) := by decide +kernel
theorem dd_W_count_2 : decode cd_W_count 2 = .ok (.aload_n 0, 1) := by decide +kernel
theorem dd_W_count_3 : decode cd_W_count 3 = .ok (.iload_n 1, 1) := by decide +kernel
theorem dd_W_count_4 : decode cd_W_count 4 = .ok (.iload_n 2, 1) := by decide +kernel
theorem dd_W_count_5 : decode cd_W_count 5 = .ok (.invokevirtual 37, 3) := by decide +kernel
theorem dd_W_count_8 : decode cd_W_count 8 = .ok (.i2l, 1) := by decide +kernel
theorem dd_W_count_9 : decode cd_W_count 9 = .ok (.lastore, 1) := by decide +kernel
theorem dd_W_count_10 : decode cd_W_count 10 = .ok (.goto 7, 3) := by decide +kernel
theorem dd_W_count_13 : decode cd_W_count 13 = .ok (.astore 4, 2) := by decide +kernel
theorem dd_W_count_15 : decode cd_W_count 15 = .ok (.iconst 1, 1) := by decide +kernel
theorem dd_W_count_16 : decode cd_W_count 16 = .ok (.ireturn, 1) := by decide +kernel
theorem dd_W_count_17 : decode cd_W_count 17 = .ok (.iconst 0, 1) := by decide +kernel
theorem dd_W_count_18 : decode cd_W_count 18 = .ok (.ireturn, 1) := by decide +kernel
theorem dd_W_write_0 : decode cd_W_write 0 = .ok (.aload 5, 2) := by decide +kernel
theorem dd_W_write_2 : decode cd_W_write 2 = .ok (.iconst 0, 1) := by decide +kernel
theorem dd_W_write_3 : decode cd_W_write 3 = .ok (.aload_n 0, 1) := by decide +kernel
theorem dd_W_write_4 : decode cd_W_write 4 = .ok (.iload_n 1, 1) := by decide +kernel
theorem dd_W_write_5 : decode cd_W_write 5 = .ok (.iload_n 2, 1) := by decide +kernel
theorem dd_W_write_6 : decode cd_W_write 6 = .ok (.iload_n 3, 1) := by decide +kernel
theorem dd_W_write_7 : decode cd_W_write 7 = .ok (.iload 4, 2) := by decide +kernel
theorem dd_W_write_9 : decode cd_W_write 9 = .ok (.invokevirtual 40, 3) := by decide +kernel
theorem dd_W_write_12 : decode cd_W_write 12 = .ok (.i2l, 1) := by decide +kernel
theorem dd_W_write_13 : decode cd_W_write 13 = .ok (.lastore, 1) := by decide +kernel
theorem dd_W_write_14 : decode cd_W_write 14 = .ok (.goto 7, 3) := by decide +kernel
theorem dd_W_write_17 : decode cd_W_write 17 = .ok (.astore 6, 2) := by decide +kernel
theorem dd_W_write_19 : decode cd_W_write 19 = .ok (.iconst 1, 1) := by decide +kernel
theorem dd_W_write_20 : decode cd_W_write 20 = .ok (.ireturn, 1) := by decide +kernel
theorem dd_W_write_21 : decode cd_W_write 21 = .ok (.iconst 0, 1) := by decide +kernel
theorem dd_W_write_22 : decode cd_W_write 22 = .ok (.ireturn, 1) := by decide +kernel
theorem dd_W_digits_0 : decode cd_W_digits 0 = .ok (.aload_n 2, 1) := by decide +kernel
theorem dd_W_digits_1 : decode cd_W_digits 1 = .ok (.iconst 0, 1) := by decide +kernel
theorem dd_W_digits_2 : decode cd_W_digits 2 = .ok (.aload_n 0, 1) := by decide +kernel
theorem dd_W_digits_3 : decode cd_W_digits 3 = .ok (.iload_n 1, 1) := by decide +kernel
theorem dd_W_digits_4 : decode cd_W_digits 4 = .ok (.invokevirtual 44, 3) := by decide +kernel
theorem dd_W_digits_7 : decode cd_W_digits 7 = .ok (.i2l, 1) := by decide +kernel
theorem dd_W_digits_8 : decode cd_W_digits 8 = .ok (.lastore, 1) := by decide +kernel
theorem dd_W_digits_9 : decode cd_W_digits 9 = .ok (.goto 6, 3) := by decide +kernel
theorem dd_W_digits_12 : decode cd_W_digits 12 = .ok (.astore_n 3, 1) := by decide +kernel
theorem dd_W_digits_13 : decode cd_W_digits 13 = .ok (.iconst 1, 1) := by decide +kernel
theorem dd_W_digits_14 : decode cd_W_digits 14 = .ok (.ireturn, 1) := by decide +kernel
theorem dd_W_digits_15 : decode cd_W_digits 15 = .ok (.iconst 0, 1) := by decide +kernel
theorem dd_W_digits_16 : decode cd_W_digits 16 = .ok (.ireturn, 1) := by decide +kernel
theorem dd_W_digit_0 : decode cd_W_digit 0 = .ok (.aload_n 3, 1) := by decide +kernel
theorem dd_W_digit_1 : decode cd_W_digit 1 = .ok (.iconst 0, 1) := by decide +kernel
theorem dd_W_digit_2 : decode cd_W_digit 2 = .ok (.aload_n 0, 1) := by decide +kernel
theorem dd_W_digit_3 : decode cd_W_digit 3 = .ok (.iload_n 1, 1) := by decide +kernel
theorem dd_W_digit_4 : decode cd_W_digit 4 = .ok (.iload_n 2, 1) := by decide +kernel
theorem dd_W_digit_5 : decode cd_W_digit 5 = .ok (.invokevirtual 48, 3) := by decide +kernel
theorem dd_W_digit_8 : decode cd_W_digit 8 = .ok (.i2l, 1) := by decide +kernel
theorem dd_W_digit_9 : decode cd_W_digit 9 = .ok (.lastore, 1) := by decide +kernel
theorem dd_W_digit_10 : decode cd_W_digit 10 = .ok (.goto 7, 3) := by decide +kernel
theorem dd_W_digit_13 : decode cd_W_digit 13 = .ok (.astore 4, 2) := by decide +kernel
theorem dd_W_digit_15 : decode cd_W_digit 15 = .ok (.iconst 1, 1) := by decide +kernel
theorem dd_W_digit_16 : decode cd_W_digit 16 = .ok (.ireturn, 1) := by decide +kernel
theorem dd_W_digit_17 : decode cd_W_digit 17 = .ok (.iconst 0, 1) := by decide +kernel
theorem dd_W_digit_18 : decode cd_W_digit 18 = .ok (.ireturn, 1) := by decide +kernel
theorem dd_W_rest_0 : decode cd_W_rest 0 = .ok (.aload_n 3, 1) := by decide +kernel
theorem dd_W_rest_1 : decode cd_W_rest 1 = .ok (.iconst 0, 1) := by decide +kernel
theorem dd_W_rest_2 : decode cd_W_rest 2 = .ok (.aload_n 0, 1) := by decide +kernel
theorem dd_W_rest_3 : decode cd_W_rest 3 = .ok (.iload_n 1, 1) := by decide +kernel
theorem dd_W_rest_4 : decode cd_W_rest 4 = .ok (.iload_n 2, 1) := by decide +kernel
theorem dd_W_rest_5 : decode cd_W_rest 5 = .ok (.invokevirtual 51, 3) := by decide +kernel
theorem dd_W_rest_8 : decode cd_W_rest 8 = .ok (.i2l, 1) := by decide +kernel
theorem dd_W_rest_9 : decode cd_W_rest 9 = .ok (.lastore, 1) := by decide +kernel
theorem dd_W_rest_10 : decode cd_W_rest 10 = .ok (.goto 11, 3) := by decide +kernel
theorem dd_W_rest_13 : decode cd_W_rest 13 = .ok (.astore 4, 2) := by decide +kernel
theorem dd_W_rest_15 : decode cd_W_rest 15 = .ok (.iconst 1, 1) := by decide +kernel
theorem dd_W_rest_16 : decode cd_W_rest 16 = .ok (.ireturn, 1) := by decide +kernel
theorem dd_W_rest_17 : decode cd_W_rest 17 = .ok (.astore 4, 2) := by decide +kernel
theorem dd_W_rest_19 : decode cd_W_rest 19 = .ok (.iconst 2, 1) := by decide +kernel
theorem dd_W_rest_20 : decode cd_W_rest 20 = .ok (.ireturn, 1) := by decide +kernel
theorem dd_W_rest_21 : decode cd_W_rest 21 = .ok (.iconst 0, 1) := by decide +kernel
theorem dd_W_rest_22 : decode cd_W_rest 22 = .ok (.ireturn, 1) := by decide +kernel
theorem dd_W_flow_0 : decode cd_W_flow 0 = .ok (.aload_n 2, 1) := by decide +kernel
theorem dd_W_flow_1 : decode cd_W_flow 1 = .ok (.iconst 0, 1) := by decide +kernel
theorem dd_W_flow_2 : decode cd_W_flow 2 = .ok (.aload_n 0, 1) := by decide +kernel
theorem dd_W_flow_3 : decode cd_W_flow 3 = .ok (.iload_n 1, 1) := by decide +kernel
theorem dd_W_flow_4 : decode cd_W_flow 4 = .ok (.invokevirtual 54, 3) := by decide +kernel
theorem dd_W_flow_7 : decode cd_W_flow 7 = .ok (.i2l, 1) := by decide +kernel
theorem dd_W_flow_8 : decode cd_W_flow 8 = .ok (.lastore, 1) := by decide +kernel
theorem dd_W_flow_9 : decode cd_W_flow 9 = .ok (.goto 6, 3) := by decide +kernel
theorem dd_W_flow_12 : decode cd_W_flow 12 = .ok (.astore_n 3, 1) := by decide +kernel
theorem dd_W_flow_13 : decode cd_W_flow 13 = .ok (.iconst 1, 1) := by decide +kernel
theorem dd_W_flow_14 : decode cd_W_flow 14 = .ok (.ireturn, 1) := by decide +kernel
theorem dd_W_flow_15 : decode cd_W_flow 15 = .ok (.iconst 0, 1) := by decide +kernel
theorem dd_W_flow_16 : decode cd_W_flow 16 = .ok (.ireturn, 1) := by decide +kernel
theorem dd_W_size_0 : decode cd_W_size 0 = .ok (.aload_n 2, 1) := by decide +kernel
theorem dd_W_size_1 : decode cd_W_size 1 = .ok (.iconst 0, 1) := by decide +kernel
theorem dd_W_size_2 : decode cd_W_size 2 = .ok (.aload_n 0, 1) := by decide +kernel
theorem dd_W_size_3 : decode cd_W_size 3 = .ok (.iload_n 1, 1) := by decide +kernel
theorem dd_W_size_4 : decode cd_W_size 4 = .ok (.invokevirtual 57, 3) := by decide +kernel
theorem dd_W_size_7 : decode cd_W_size 7 = .ok (.i2l, 1) := by decide +kernel
theorem dd_W_size_8 : decode cd_W_size 8 = .ok (.lastore, 1) := by decide +kernel
theorem dd_W_size_9 : decode cd_W_size 9 = .ok (.goto 6, 3) := by decide +kernel
theorem dd_W_size_12 : decode cd_W_size 12 = .ok (.astore_n 3, 1) := by decide +kernel
theorem dd_W_size_13 : decode cd_W_size 13 = .ok (.iconst 1, 1) := by decide +kernel
theorem dd_W_size_14 : decode cd_W_size 14 = .ok (.ireturn, 1) := by decide +kernel
theorem dd_W_size_15 : decode cd_W_size 15 = .ok (.iconst 0, 1) := by decide +kernel
theorem dd_W_size_16 : decode cd_W_size 16 = .ok (.ireturn, 1) := by decide +kernel
theorem dd_W_loss_0 : decode cd_W_loss 0 = .ok (.aload_n 2, 1) := by decide +kernel
theorem dd_W_loss_1 : decode cd_W_loss 1 = .ok (.iconst 0, 1) := by decide +kernel
theorem dd_W_loss_2 : decode cd_W_loss 2 = .ok (.aload_n 0, 1) := by decide +kernel
theorem dd_W_loss_3 : decode cd_W_loss 3 = .ok (.iload_n 1, 1) := by decide +kernel
theorem dd_W_loss_4 : decode cd_W_loss 4 = .ok (.invokevirtual 60, 3) := by decide +kernel
theorem dd_W_loss_7 : decode cd_W_loss 7 = .ok (.lastore, 1) := by decide +kernel
theorem dd_W_loss_8 : decode cd_W_loss 8 = .ok (.goto 6, 3) := by decide +kernel
theorem dd_W_loss_11 : decode cd_W_loss 11 = .ok (.astore_n 3, 1) := by decide +kernel
theorem dd_W_loss_12 : decode cd_W_loss 12 = .ok (.iconst 1, 1) := by decide +kernel
theorem dd_W_loss_13 : decode cd_W_loss 13 = .ok (.ireturn, 1) := by decide +kernel
theorem dd_W_loss_14 : decode cd_W_loss 14 = .ok (.iconst 0, 1) := by decide +kernel
theorem dd_W_loss_15 : decode cd_W_loss 15 = .ok (.ireturn, 1) := by decide +kernel
theorem dd_W_pressure_0 : decode cd_W_pressure 0 = .ok (.aload 4, 2) := by decide +kernel
theorem dd_W_pressure_2 : decode cd_W_pressure 2 = .ok (.iconst 0, 1) := by decide +kernel
theorem dd_W_pressure_3 : decode cd_W_pressure 3 = .ok (.aload_n 0, 1) := by decide +kernel
theorem dd_W_pressure_4 : decode cd_W_pressure 4 = .ok (.iload_n 1, 1) := by decide +kernel
theorem dd_W_pressure_5 : decode cd_W_pressure 5 = .ok (.lload_n 2, 1) := by decide +kernel
theorem dd_W_pressure_6 : decode cd_W_pressure 6 = .ok (.invokevirtual 64, 3) := by decide +kernel
theorem dd_W_pressure_9 : decode cd_W_pressure 9 = .ok (.lastore, 1) := by decide +kernel
theorem dd_W_pressure_10 : decode cd_W_pressure 10 = .ok (.goto 11, 3) := by decide +kernel
theorem dd_W_pressure_13 : decode cd_W_pressure 13 = .ok (.astore 5, 2) := by decide +kernel
theorem dd_W_pressure_15 : decode cd_W_pressure 15 = .ok (.iconst 1, 1) := by decide +kernel
theorem dd_W_pressure_16 : decode cd_W_pressure 16 = .ok (.ireturn, 1) := by decide +kernel
theorem dd_W_pressure_17 : decode cd_W_pressure 17 = .ok (.astore 5, 2) := by decide +kernel
theorem dd_W_pressure_19 : decode cd_W_pressure 19 = .ok (.iconst 2, 1) := by decide +kernel
theorem dd_W_pressure_20 : decode cd_W_pressure 20 = .ok (.ireturn, 1) := by decide +kernel
theorem dd_W_pressure_21 : decode cd_W_pressure 21 = .ok (.iconst 0, 1) := by decide +kernel
theorem dd_W_pressure_22 : decode cd_W_pressure 22 = .ok (.ireturn, 1) := by decide +kernel
theorem dd_W_farthest_0 : decode cd_W_farthest 0 = .ok (.aload_n 1, 1) := by decide +kernel
theorem dd_W_farthest_1 : decode cd_W_farthest 1 = .ok (.iconst 0, 1) := by decide +kernel
theorem dd_W_farthest_2 : decode cd_W_farthest 2 = .ok (.aload_n 0, 1) := by decide +kernel
theorem dd_W_farthest_3 : decode cd_W_farthest 3 = .ok (.invokevirtual 68, 3) := by decide +kernel
theorem dd_W_farthest_6 : decode cd_W_farthest 6 = .ok (.i2l, 1) := by decide +kernel
theorem dd_W_farthest_7 : decode cd_W_farthest 7 = .ok (.lastore, 1) := by decide +kernel
theorem dd_W_farthest_8 : decode cd_W_farthest 8 = .ok (.goto 6, 3) := by decide +kernel
theorem dd_W_farthest_11 : decode cd_W_farthest 11 = .ok (.astore_n 2, 1) := by decide +kernel
theorem dd_W_farthest_12 : decode cd_W_farthest 12 = .ok (.iconst 1, 1) := by decide +kernel
theorem dd_W_farthest_13 : decode cd_W_farthest 13 = .ok (.ireturn, 1) := by decide +kernel
theorem dd_W_farthest_14 : decode cd_W_farthest 14 = .ok (.iconst 0, 1) := by decide +kernel
theorem dd_W_farthest_15 : decode cd_W_farthest 15 = .ok (.ireturn, 1) := by decide +kernel
