theorem d_Bytes_init_0 : decode b_Bytes_init 0 = .ok (.aload_n 0, 1) := by decide +kernel
theorem d_Bytes_init_1 : decode b_Bytes_init 1 = .ok (.invokespecial 3, 3) := by decide +kernel
theorem d_Bytes_init_4 : decode b_Bytes_init 4 = .ok (.aload_n 0, 1) := by decide +kernel
theorem d_Bytes_init_5 : decode b_Bytes_init 5 = .ok (.iload_n 1, 1) := by decide +kernel
theorem d_Bytes_init_6 : decode b_Bytes_init 6 = .ok (.putfield 9, 3) := by decide +kernel
theorem d_Bytes_init_9 : decode b_Bytes_init 9 = .ok (.aload_n 0, 1) := by decide +kernel
theorem d_Bytes_init_10 : decode b_Bytes_init 10 = .ok (.bipush 64, 2) := by decide +kernel
theorem d_Bytes_init_12 : decode b_Bytes_init 12 = .ok (.newarray .byte, 2) := by decide +kernel
theorem d_Bytes_init_14 : decode b_Bytes_init 14 = .ok (.putfield 15, 3) := by decide +kernel
theorem d_Bytes_init_17 : decode b_Bytes_init 17 = .ok (.aload_n 0, 1) := by decide +kernel
theorem d_Bytes_init_18 : decode b_Bytes_init 18 = .ok (.iconst 0, 1) := by decide +kernel
theorem d_Bytes_init_19 : decode b_Bytes_init 19 = .ok (.putfield 19, 3) := by decide +kernel
theorem d_Bytes_init_22 : decode b_Bytes_init 22 = .ok (.return_, 1) := by decide +kernel
theorem d_Bytes_size_0 : decode b_Bytes_size 0 = .ok (.aload_n 0, 1) := by decide +kernel
theorem d_Bytes_size_1 : decode b_Bytes_size 1 = .ok (.getfield 19, 3) := by decide +kernel
theorem d_Bytes_size_4 : decode b_Bytes_size 4 = .ok (.ireturn, 1) := by decide +kernel
theorem d_Bytes_clear_0 : decode b_Bytes_clear 0 = .ok (.aload_n 0, 1) := by decide +kernel
theorem d_Bytes_clear_1 : decode b_Bytes_clear 1 = .ok (.iconst 0, 1) := by decide +kernel
theorem d_Bytes_clear_2 : decode b_Bytes_clear 2 = .ok (.putfield 19, 3) := by decide +kernel
theorem d_Bytes_clear_5 : decode b_Bytes_clear 5 = .ok (.return_, 1) := by decide +kernel
theorem d_Bytes_has_0 : decode b_Bytes_has 0 = .ok (.iload_n 1, 1) := by decide +kernel
theorem d_Bytes_has_1 : decode b_Bytes_has 1 = .ok (.ifCond .lt 29, 3) := by decide +kernel
theorem d_Bytes_has_4 : decode b_Bytes_has 4 = .ok (.iload_n 2, 1) := by decide +kernel
theorem d_Bytes_has_5 : decode b_Bytes_has 5 = .ok (.ifCond .lt 25, 3) := by decide +kernel
theorem d_Bytes_has_8 : decode b_Bytes_has 8 = .ok (.iload_n 1, 1) := by decide +kernel
theorem d_Bytes_has_9 : decode b_Bytes_has 9 = .ok (.aload_n 0, 1) := by decide +kernel
theorem d_Bytes_has_10 : decode b_Bytes_has 10 = .ok (.getfield 19, 3) := by decide +kernel
theorem d_Bytes_has_13 : decode b_Bytes_has 13 = .ok (.if_icmp .gt 17, 3) := by decide +kernel
theorem d_Bytes_has_16 : decode b_Bytes_has 16 = .ok (.iload_n 2, 1) := by decide +kernel
theorem d_Bytes_has_17 : decode b_Bytes_has 17 = .ok (.aload_n 0, 1) := by decide +kernel
theorem d_Bytes_has_18 : decode b_Bytes_has 18 = .ok (.getfield 19, 3) := by decide +kernel
theorem d_Bytes_has_21 : decode b_Bytes_has 21 = .ok (.iload_n 1, 1) := by decide +kernel
theorem d_Bytes_has_22 : decode b_Bytes_has 22 = .ok (.isub, 1) := by decide +kernel
theorem d_Bytes_has_23 : decode b_Bytes_has 23 = .ok (.if_icmp .gt 7, 3) := by decide +kernel
theorem d_Bytes_has_26 : decode b_Bytes_has 26 = .ok (.iconst 1, 1) := by decide +kernel
theorem d_Bytes_has_27 : decode b_Bytes_has 27 = .ok (.goto 4, 3) := by decide +kernel
theorem d_Bytes_has_30 : decode b_Bytes_has 30 = .ok (.iconst 0, 1) := by decide +kernel
theorem d_Bytes_has_31 : decode b_Bytes_has 31 = .ok (.ireturn, 1) := by decide +kernel
theorem d_Bytes_get_0 : decode b_Bytes_get 0 = .ok (.iload_n 1, 1) := by decide +kernel
theorem d_Bytes_get_1 : decode b_Bytes_get 1 = .ok (.ifCond .lt 24, 3) := by decide +kernel
theorem d_Bytes_get_4 : decode b_Bytes_get 4 = .ok (.iload_n 1, 1) := by decide +kernel
theorem d_Bytes_get_5 : decode b_Bytes_get 5 = .ok (.aload_n 0, 1) := by decide +kernel
theorem d_Bytes_get_6 : decode b_Bytes_get 6 = .ok (.getfield 19, 3) := by decide +kernel
theorem d_Bytes_get_9 : decode b_Bytes_get 9 = .ok (.if_icmp .ge 16, 3) := by decide +kernel
theorem d_Bytes_get_12 : decode b_Bytes_get 12 = .ok (.aload_n 0, 1) := by decide +kernel
theorem d_Bytes_get_13 : decode b_Bytes_get 13 = .ok (.getfield 15, 3) := by decide +kernel
theorem d_Bytes_get_16 : decode b_Bytes_get 16 = .ok (.iload_n 1, 1) := by decide +kernel
theorem d_Bytes_get_17 : decode b_Bytes_get 17 = .ok (.baload, 1) := by decide +kernel
theorem d_Bytes_get_18 : decode b_Bytes_get 18 = .ok (.sipush 255, 3) := by decide +kernel
theorem d_Bytes_get_21 : decode b_Bytes_get 21 = .ok (.iand, 1) := by decide +kernel
theorem d_Bytes_get_22 : decode b_Bytes_get 22 = .ok (.goto 4, 3) := by decide +kernel
theorem d_Bytes_get_25 : decode b_Bytes_get 25 = .ok (.iconst (-1), 1) := by decide +kernel
theorem d_Bytes_get_26 : decode b_Bytes_get 26 = .ok (.ireturn, 1) := by decide +kernel
theorem d_Bytes_put_0 : decode b_Bytes_put 0 = .ok (.iload_n 1, 1) := by decide +kernel
theorem d_Bytes_put_1 : decode b_Bytes_put 1 = .ok (.ifCond .lt 19, 3) := by decide +kernel
theorem d_Bytes_put_4 : decode b_Bytes_put 4 = .ok (.iload_n 1, 1) := by decide +kernel
theorem d_Bytes_put_5 : decode b_Bytes_put 5 = .ok (.aload_n 0, 1) := by decide +kernel
theorem d_Bytes_put_6 : decode b_Bytes_put 6 = .ok (.getfield 19, 3) := by decide +kernel
theorem d_Bytes_put_9 : decode b_Bytes_put 9 = .ok (.if_icmp .ge 11, 3) := by decide +kernel
theorem d_Bytes_put_12 : decode b_Bytes_put 12 = .ok (.aload_n 0, 1) := by decide +kernel
theorem d_Bytes_put_13 : decode b_Bytes_put 13 = .ok (.getfield 15, 3) := by decide +kernel
theorem d_Bytes_put_16 : decode b_Bytes_put 16 = .ok (.iload_n 1, 1) := by decide +kernel
theorem d_Bytes_put_17 : decode b_Bytes_put 17 = .ok (.iload_n 2, 1) := by decide +kernel
theorem d_Bytes_put_18 : decode b_Bytes_put 18 = .ok (.i2b, 1) := by decide +kernel
theorem d_Bytes_put_19 : decode b_Bytes_put 19 = .ok (.bastore, 1) := by decide +kernel
theorem d_Bytes_put_20 : decode b_Bytes_put 20 = .ok (.return_, 1) := by decide +kernel
theorem d_Bytes_firstZero_0 : decode b_Bytes_firstZero 0 = .ok (.iload_n 1, 1) := by decide +kernel
theorem d_Bytes_firstZero_1 : decode b_Bytes_firstZero 1 = .ok (.istore_n 3, 1) := by decide +kernel
theorem d_Bytes_firstZero_2 : decode b_Bytes_firstZero 2 = .ok (.iload_n 3, 1) := by decide +kernel
theorem d_Bytes_firstZero_3 : decode b_Bytes_firstZero 3 = .ok (.iload_n 2, 1) := by decide +kernel
theorem d_Bytes_firstZero_4 : decode b_Bytes_firstZero 4 = .ok (.if_icmp .ge 19, 3) := by decide +kernel
theorem d_Bytes_firstZero_7 : decode b_Bytes_firstZero 7 = .ok (.aload_n 0, 1) := by decide +kernel
theorem d_Bytes_firstZero_8 : decode b_Bytes_firstZero 8 = .ok (.iload_n 3, 1) := by decide +kernel
theorem d_Bytes_firstZero_9 : decode b_Bytes_firstZero 9 = .ok (.invokevirtual 22, 3) := by decide +kernel
theorem d_Bytes_firstZero_12 : decode b_Bytes_firstZero 12 = .ok (.ifCond .ne 5, 3) := by decide +kernel
theorem d_Bytes_firstZero_15 : decode b_Bytes_firstZero 15 = .ok (.iload_n 3, 1) := by decide +kernel
theorem d_Bytes_firstZero_16 : decode b_Bytes_firstZero 16 = .ok (.ireturn, 1) := by decide +kernel
theorem d_Bytes_firstZero_17 : decode b_Bytes_firstZero 17 = .ok (.iinc 3 1, 3) := by decide +kernel
theorem d_Bytes_firstZero_20 : decode b_Bytes_firstZero 20 = .ok (.goto (-18), 3) := by decide +kernel
theorem d_Bytes_firstZero_23 : decode b_Bytes_firstZero 23 = .ok (.iconst (-1), 1) := by decide +kernel
theorem d_Bytes_firstZero_24 : decode b_Bytes_firstZero 24 = .ok (.ireturn, 1) := by decide +kernel
theorem d_Bytes_numberAt_0 : decode b_Bytes_numberAt 0 = .ok (.lconst 0, 1) := by decide +kernel
theorem d_Bytes_numberAt_1 : decode b_Bytes_numberAt 1 = .ok (.lstore_n 3, 1) := by decide +kernel
theorem d_Bytes_numberAt_2 : decode b_Bytes_numberAt 2 = .ok (.iload_n 2, 1) := by decide +kernel
theorem d_Bytes_numberAt_3 : decode b_Bytes_numberAt 3 = .ok (.iconst 1, 1) := by decide +kernel
theorem d_Bytes_numberAt_4 : decode b_Bytes_numberAt 4 = .ok (.isub, 1) := by decide +kernel
theorem d_Bytes_numberAt_5 : decode b_Bytes_numberAt 5 = .ok (.istore 5, 2) := by decide +kernel
theorem d_Bytes_numberAt_7 : decode b_Bytes_numberAt 7 = .ok (.iload 5, 2) := by decide +kernel
theorem d_Bytes_numberAt_9 : decode b_Bytes_numberAt 9 = .ok (.ifCond .lt 28, 3) := by decide +kernel
theorem d_Bytes_numberAt_12 : decode b_Bytes_numberAt 12 = .ok (.lload_n 3, 1) := by decide +kernel
theorem d_Bytes_numberAt_13 : decode b_Bytes_numberAt 13 = .ok (.bipush 8, 2) := by decide +kernel
theorem d_Bytes_numberAt_15 : decode b_Bytes_numberAt 15 = .ok (.lshl, 1) := by decide +kernel
theorem d_Bytes_numberAt_16 : decode b_Bytes_numberAt 16 = .ok (.aload_n 0, 1) := by decide +kernel
theorem d_Bytes_numberAt_17 : decode b_Bytes_numberAt 17 = .ok (.iload_n 1, 1) := by decide +kernel
theorem d_Bytes_numberAt_18 : decode b_Bytes_numberAt 18 = .ok (.iload 5, 2) := by decide +kernel
theorem d_Bytes_numberAt_20 : decode b_Bytes_numberAt 20 = .ok (.iadd, 1) := by decide +kernel
theorem d_Bytes_numberAt_21 : decode b_Bytes_numberAt 21 = .ok (.invokevirtual 22, 3) := by decide +kernel
theorem d_Bytes_numberAt_24 : decode b_Bytes_numberAt 24 = .ok (.sipush 255, 3) := by decide +kernel
theorem d_Bytes_numberAt_27 : decode b_Bytes_numberAt 27 = .ok (.iand, 1) := by decide +kernel
theorem d_Bytes_numberAt_28 : decode b_Bytes_numberAt 28 = .ok (.i2l, 1) := by decide +kernel
theorem d_Bytes_numberAt_29 : decode b_Bytes_numberAt 29 = .ok (.lor, 1) := by decide +kernel
theorem d_Bytes_numberAt_30 : decode b_Bytes_numberAt 30 = .ok (.lstore_n 3, 1) := by decide +kernel
theorem d_Bytes_numberAt_31 : decode b_Bytes_numberAt 31 = .ok (.iinc 5 (-1), 3) := by decide +kernel
theorem d_Bytes_numberAt_34 : decode b_Bytes_numberAt 34 = .ok (.goto (-27), 3) := by decide +kernel
theorem d_Bytes_numberAt_37 : decode b_Bytes_numberAt 37 = .ok (.lload_n 3, 1) := by decide +kernel
theorem d_Bytes_numberAt_38 : decode b_Bytes_numberAt 38 = .ok (.lreturn, 1) := by decide +kernel
theorem d_Bytes_putNumber_0 : decode b_Bytes_putNumber 0 = .ok (.iconst 0, 1) := by decide +kernel
theorem d_Bytes_putNumber_1 : decode b_Bytes_putNumber 1 = .ok (.istore 5, 2) := by decide +kernel
theorem d_Bytes_putNumber_3 : decode b_Bytes_putNumber 3 = .ok (.iload 5, 2) := by decide +kernel
theorem d_Bytes_putNumber_5 : decode b_Bytes_putNumber 5 = .ok (.iload_n 2, 1) := by decide +kernel
theorem d_Bytes_putNumber_6 : decode b_Bytes_putNumber 6 = .ok (.if_icmp .ge 25, 3) := by decide +kernel
theorem d_Bytes_putNumber_9 : decode b_Bytes_putNumber 9 = .ok (.aload_n 0, 1) := by decide +kernel
theorem d_Bytes_putNumber_10 : decode b_Bytes_putNumber 10 = .ok (.iload_n 1, 1) := by decide +kernel
theorem d_Bytes_putNumber_11 : decode b_Bytes_putNumber 11 = .ok (.iload 5, 2) := by decide +kernel
theorem d_Bytes_putNumber_13 : decode b_Bytes_putNumber 13 = .ok (.iadd, 1) := by decide +kernel
theorem d_Bytes_putNumber_14 : decode b_Bytes_putNumber 14 = .ok (.lload_n 3, 1) := by decide +kernel
theorem d_Bytes_putNumber_15 : decode b_Bytes_putNumber 15 = .ok (.bipush 8, 2) := by decide +kernel
theorem d_Bytes_putNumber_17 : decode b_Bytes_putNumber 17 = .ok (.iload 5, 2) := by decide +kernel
theorem d_Bytes_putNumber_19 : decode b_Bytes_putNumber 19 = .ok (.imul, 1) := by decide +kernel
theorem d_Bytes_putNumber_20 : decode b_Bytes_putNumber 20 = .ok (.lshr, 1) := by decide +kernel
theorem d_Bytes_putNumber_21 : decode b_Bytes_putNumber 21 = .ok (.l2i, 1) := by decide +kernel
theorem d_Bytes_putNumber_22 : decode b_Bytes_putNumber 22 = .ok (.invokevirtual 26, 3) := by decide +kernel
theorem d_Bytes_putNumber_25 : decode b_Bytes_putNumber 25 = .ok (.iinc 5 1, 3) := by decide +kernel
theorem d_Bytes_putNumber_28 : decode b_Bytes_putNumber 28 = .ok (.goto (-25), 3) := by decide +kernel
theorem d_Bytes_putNumber_31 : decode b_Bytes_putNumber 31 = .ok (.return_, 1) := by decide +kernel
theorem d_Bytes_digits_0 : decode b_Bytes_digits 0 = .ok (.iload_n 0, 1) := by decide +kernel
theorem d_Bytes_digits_1 : decode b_Bytes_digits 1 = .ok (.bipush 10, 2) := by decide +kernel
theorem d_Bytes_digits_3 : decode b_Bytes_digits 3 = .ok (.if_icmp .ge 7, 3) := by decide +kernel
theorem d_Bytes_digits_6 : decode b_Bytes_digits 6 = .ok (.iconst 1, 1) := by decide +kernel
theorem d_Bytes_digits_7 : decode b_Bytes_digits 7 = .ok (.goto 25, 3) := by decide +kernel
theorem d_Bytes_digits_10 : decode b_Bytes_digits 10 = .ok (.iload_n 0, 1) := by decide +kernel
theorem d_Bytes_digits_11 : decode b_Bytes_digits 11 = .ok (.bipush 100, 2) := by decide +kernel
theorem d_Bytes_digits_13 : decode b_Bytes_digits 13 = .ok (.if_icmp .ge 7, 3) := by decide +kernel
theorem d_Bytes_digits_16 : decode b_Bytes_digits 16 = .ok (.iconst 2, 1) := by decide +kernel
theorem d_Bytes_digits_17 : decode b_Bytes_digits 17 = .ok (.goto 15, 3) := by decide +kernel
theorem d_Bytes_digits_20 : decode b_Bytes_digits 20 = .ok (.iload_n 0, 1) := by decide +kernel
theorem d_Bytes_digits_21 : decode b_Bytes_digits 21 = .ok (.sipush 1000, 3) := by decide +kernel
theorem d_Bytes_digits_24 : decode b_Bytes_digits 24 = .ok (.if_icmp .ge 7, 3) := by decide +kernel
theorem d_Bytes_digits_27 : decode b_Bytes_digits 27 = .ok (.iconst 3, 1) := by decide +kernel
theorem d_Bytes_digits_28 : decode b_Bytes_digits 28 = .ok (.goto 4, 3) := by decide +kernel
theorem d_Bytes_digits_31 : decode b_Bytes_digits 31 = .ok (.iconst 4, 1) := by decide +kernel
theorem d_Bytes_digits_32 : decode b_Bytes_digits 32 = .ok (.ireturn, 1) := by decide +kernel
theorem d_Bytes_putDecimal_0 : decode b_Bytes_putDecimal 0 = .ok (.iload_n 3, 1) := by decide +kernel
theorem d_Bytes_putDecimal_1 : decode b_Bytes_putDecimal 1 = .ok (.istore 4, 2) := by decide +kernel
theorem d_Bytes_putDecimal_3 : decode b_Bytes_putDecimal 3 = .ok (.iload_n 2, 1) := by decide +kernel
theorem d_Bytes_putDecimal_4 : decode b_Bytes_putDecimal 4 = .ok (.iconst 1, 1) := by decide +kernel
theorem d_Bytes_putDecimal_5 : decode b_Bytes_putDecimal 5 = .ok (.isub, 1) := by decide +kernel
theorem d_Bytes_putDecimal_6 : decode b_Bytes_putDecimal 6 = .ok (.istore 5, 2) := by decide +kernel
theorem d_Bytes_putDecimal_8 : decode b_Bytes_putDecimal 8 = .ok (.iload 5, 2) := by decide +kernel
theorem d_Bytes_putDecimal_10 : decode b_Bytes_putDecimal 10 = .ok (.ifCond .lt 32, 3) := by decide +kernel
theorem d_Bytes_putDecimal_13 : decode b_Bytes_putDecimal 13 = .ok (.aload_n 0, 1) := by decide +kernel
theorem d_Bytes_putDecimal_14 : decode b_Bytes_putDecimal 14 = .ok (.iload_n 1, 1) := by decide +kernel
theorem d_Bytes_putDecimal_15 : decode b_Bytes_putDecimal 15 = .ok (.iload 5, 2) := by decide +kernel
theorem d_Bytes_putDecimal_17 : decode b_Bytes_putDecimal 17 = .ok (.iadd, 1) := by decide +kernel
theorem d_Bytes_putDecimal_18 : decode b_Bytes_putDecimal 18 = .ok (.bipush 48, 2) := by decide +kernel
theorem d_Bytes_putDecimal_20 : decode b_Bytes_putDecimal 20 = .ok (.iload 4, 2) := by decide +kernel
theorem d_Bytes_putDecimal_22 : decode b_Bytes_putDecimal 22 = .ok (.bipush 10, 2) := by decide +kernel
theorem d_Bytes_putDecimal_24 : decode b_Bytes_putDecimal 24 = .ok (.irem, 1) := by decide +kernel
theorem d_Bytes_putDecimal_25 : decode b_Bytes_putDecimal 25 = .ok (.iadd, 1) := by decide +kernel
theorem d_Bytes_putDecimal_26 : decode b_Bytes_putDecimal 26 = .ok (.invokevirtual 26, 3) := by decide +kernel
theorem d_Bytes_putDecimal_29 : decode b_Bytes_putDecimal 29 = .ok (.iload 4, 2) := by decide +kernel
theorem d_Bytes_putDecimal_31 : decode b_Bytes_putDecimal 31 = .ok (.bipush 10, 2) := by decide +kernel
theorem d_Bytes_putDecimal_33 : decode b_Bytes_putDecimal 33 = .ok (.idiv, 1) := by decide +kernel
theorem d_Bytes_putDecimal_34 : decode b_Bytes_putDecimal 34 = .ok (.istore 4, 2) := by decide +kernel
theorem d_Bytes_putDecimal_36 : decode b_Bytes_putDecimal 36 = .ok (.iinc 5 (-1), 3) := by decide +kernel
theorem d_Bytes_putDecimal_39 : decode b_Bytes_putDecimal 39 = .ok (.goto (-31), 3) := by decide +kernel
theorem d_Bytes_putDecimal_42 : decode b_Bytes_putDecimal 42 = .ok (.return_, 1) := by decide +kernel
theorem d_Bytes_hasDecimal_0 : decode b_Bytes_hasDecimal 0 = .ok (.iload_n 3, 1) := by decide +kernel
theorem d_Bytes_hasDecimal_1 : decode b_Bytes_hasDecimal 1 = .ok (.istore 4, 2) := by decide +kernel
theorem d_Bytes_hasDecimal_3 : decode b_Bytes_hasDecimal 3 = .ok (.iload_n 2, 1) := by decide +kernel
theorem d_Bytes_hasDecimal_4 : decode b_Bytes_hasDecimal 4 = .ok (.iconst 1, 1) := by decide +kernel
theorem d_Bytes_hasDecimal_5 : decode b_Bytes_hasDecimal 5 = .ok (.isub, 1) := by decide +kernel
theorem d_Bytes_hasDecimal_6 : decode b_Bytes_hasDecimal 6 = .ok (.istore 5, 2) := by decide +kernel
theorem d_Bytes_hasDecimal_8 : decode b_Bytes_hasDecimal 8 = .ok (.iload 5, 2) := by decide +kernel
theorem d_Bytes_hasDecimal_10 : decode b_Bytes_hasDecimal 10 = .ok (.ifCond .lt 37, 3) := by decide +kernel
theorem d_Bytes_hasDecimal_13 : decode b_Bytes_hasDecimal 13 = .ok (.aload_n 0, 1) := by decide +kernel
theorem d_Bytes_hasDecimal_14 : decode b_Bytes_hasDecimal 14 = .ok (.iload_n 1, 1) := by decide +kernel
theorem d_Bytes_hasDecimal_15 : decode b_Bytes_hasDecimal 15 = .ok (.iload 5, 2) := by decide +kernel
theorem d_Bytes_hasDecimal_17 : decode b_Bytes_hasDecimal 17 = .ok (.iadd, 1) := by decide +kernel
theorem d_Bytes_hasDecimal_18 : decode b_Bytes_hasDecimal 18 = .ok (.invokevirtual 22, 3) := by decide +kernel
theorem d_Bytes_hasDecimal_21 : decode b_Bytes_hasDecimal 21 = .ok (.bipush 48, 2) := by decide +kernel
theorem d_Bytes_hasDecimal_23 : decode b_Bytes_hasDecimal 23 = .ok (.iload 4, 2) := by decide +kernel
theorem d_Bytes_hasDecimal_25 : decode b_Bytes_hasDecimal 25 = .ok (.bipush 10, 2) := by decide +kernel
theorem d_Bytes_hasDecimal_27 : decode b_Bytes_hasDecimal 27 = .ok (.irem, 1) := by decide +kernel
theorem d_Bytes_hasDecimal_28 : decode b_Bytes_hasDecimal 28 = .ok (.iadd, 1) := by decide +kernel
theorem d_Bytes_hasDecimal_29 : decode b_Bytes_hasDecimal 29 = .ok (.if_icmp .eq 5, 3) := by decide +kernel
theorem d_Bytes_hasDecimal_32 : decode b_Bytes_hasDecimal 32 = .ok (.iconst 0, 1) := by decide +kernel
theorem d_Bytes_hasDecimal_33 : decode b_Bytes_hasDecimal 33 = .ok (.ireturn, 1) := by decide +kernel
theorem d_Bytes_hasDecimal_34 : decode b_Bytes_hasDecimal 34 = .ok (.iload 4, 2) := by decide +kernel
theorem d_Bytes_hasDecimal_36 : decode b_Bytes_hasDecimal 36 = .ok (.bipush 10, 2) := by decide +kernel
theorem d_Bytes_hasDecimal_38 : decode b_Bytes_hasDecimal 38 = .ok (.idiv, 1) := by decide +kernel
theorem d_Bytes_hasDecimal_39 : decode b_Bytes_hasDecimal 39 = .ok (.istore 4, 2) := by decide +kernel
theorem d_Bytes_hasDecimal_41 : decode b_Bytes_hasDecimal 41 = .ok (.iinc 5 (-1), 3) := by decide +kernel
theorem d_Bytes_hasDecimal_44 : decode b_Bytes_hasDecimal 44 = .ok (.goto (-36), 3) := by decide +kernel
theorem d_Bytes_hasDecimal_47 : decode b_Bytes_hasDecimal 47 = .ok (.iload_n 2, 1) := by decide +kernel
theorem d_Bytes_hasDecimal_48 : decode b_Bytes_hasDecimal 48 = .ok (.iload_n 3, 1) := by decide +kernel
theorem d_Bytes_hasDecimal_49 : decode b_Bytes_hasDecimal 49 = .ok (.invokestatic 30, 3) := by decide +kernel
theorem d_Bytes_hasDecimal_52 : decode b_Bytes_hasDecimal 52 = .ok (.if_icmp .ne 7, 3) := by decide +kernel
theorem d_Bytes_hasDecimal_55 : decode b_Bytes_hasDecimal 55 = .ok (.iconst 1, 1) := by decide +kernel
theorem d_Bytes_hasDecimal_56 : decode b_Bytes_hasDecimal 56 = .ok (.goto 4, 3) := by decide +kernel
theorem d_Bytes_hasDecimal_59 : decode b_Bytes_hasDecimal 59 = .ok (.iconst 0, 1) := by decide +kernel
theorem d_Bytes_hasDecimal_60 : decode b_Bytes_hasDecimal 60 = .ok (.ireturn, 1) := by decide +kernel
theorem d_Bytes_equalsAt_0 : decode b_Bytes_equalsAt 0 = .ok (.iconst 0, 1) := by decide +kernel
theorem d_Bytes_equalsAt_1 : decode b_Bytes_equalsAt 1 = .ok (.istore 5, 2) := by decide +kernel
theorem d_Bytes_equalsAt_3 : decode b_Bytes_equalsAt 3 = .ok (.iload 5, 2) := by decide +kernel
theorem d_Bytes_equalsAt_5 : decode b_Bytes_equalsAt 5 = .ok (.iload 4, 2) := by decide +kernel
theorem d_Bytes_equalsAt_7 : decode b_Bytes_equalsAt 7 = .ok (.if_icmp .ge 30, 3) := by decide +kernel
theorem d_Bytes_equalsAt_10 : decode b_Bytes_equalsAt 10 = .ok (.aload_n 0, 1) := by decide +kernel
theorem d_Bytes_equalsAt_11 : decode b_Bytes_equalsAt 11 = .ok (.iload_n 1, 1) := by decide +kernel
theorem d_Bytes_equalsAt_12 : decode b_Bytes_equalsAt 12 = .ok (.iload 5, 2) := by decide +kernel
theorem d_Bytes_equalsAt_14 : decode b_Bytes_equalsAt 14 = .ok (.iadd, 1) := by decide +kernel
theorem d_Bytes_equalsAt_15 : decode b_Bytes_equalsAt 15 = .ok (.invokevirtual 22, 3) := by decide +kernel
theorem d_Bytes_equalsAt_18 : decode b_Bytes_equalsAt 18 = .ok (.aload_n 2, 1) := by decide +kernel
theorem d_Bytes_equalsAt_19 : decode b_Bytes_equalsAt 19 = .ok (.iload_n 3, 1) := by decide +kernel
theorem d_Bytes_equalsAt_20 : decode b_Bytes_equalsAt 20 = .ok (.iload 5, 2) := by decide +kernel
theorem d_Bytes_equalsAt_22 : decode b_Bytes_equalsAt 22 = .ok (.iadd, 1) := by decide +kernel
theorem d_Bytes_equalsAt_23 : decode b_Bytes_equalsAt 23 = .ok (.invokevirtual 22, 3) := by decide +kernel
theorem d_Bytes_equalsAt_26 : decode b_Bytes_equalsAt 26 = .ok (.if_icmp .eq 5, 3) := by decide +kernel
theorem d_Bytes_equalsAt_29 : decode b_Bytes_equalsAt 29 = .ok (.iconst 0, 1) := by decide +kernel
theorem d_Bytes_equalsAt_30 : decode b_Bytes_equalsAt 30 = .ok (.ireturn, 1) := by decide +kernel
theorem d_Bytes_equalsAt_31 : decode b_Bytes_equalsAt 31 = .ok (.iinc 5 1, 3) := by decide +kernel
theorem d_Bytes_equalsAt_34 : decode b_Bytes_equalsAt 34 = .ok (.goto (-31), 3) := by decide +kernel
theorem d_Bytes_equalsAt_37 : decode b_Bytes_equalsAt 37 = .ok (.iconst 1, 1) := by decide +kernel
theorem d_Bytes_equalsAt_38 : decode b_Bytes_equalsAt 38 = .ok (.ireturn, 1) := by decide +kernel
theorem d_Bytes_openGap_0 : decode b_Bytes_openGap 0 = .ok (.iload_n 1, 1) := by decide +kernel
theorem d_Bytes_openGap_1 : decode b_Bytes_openGap 1 = .ok (.ifCond .lt 28, 3) := by decide +kernel
theorem d_Bytes_openGap_4 : decode b_Bytes_openGap 4 = .ok (.iload_n 1, 1) := by decide +kernel
theorem d_Bytes_openGap_5 : decode b_Bytes_openGap 5 = .ok (.aload_n 0, 1) := by decide +kernel
theorem d_Bytes_openGap_6 : decode b_Bytes_openGap 6 = .ok (.getfield 19, 3) := by decide +kernel
theorem d_Bytes_openGap_9 : decode b_Bytes_openGap 9 = .ok (.if_icmp .gt 20, 3) := by decide +kernel
theorem d_Bytes_openGap_12 : decode b_Bytes_openGap 12 = .ok (.iload_n 2, 1) := by decide +kernel
theorem d_Bytes_openGap_13 : decode b_Bytes_openGap 13 = .ok (.ifCond .lt 16, 3) := by decide +kernel
theorem d_Bytes_openGap_16 : decode b_Bytes_openGap 16 = .ok (.iload_n 2, 1) := by decide +kernel
theorem d_Bytes_openGap_17 : decode b_Bytes_openGap 17 = .ok (.aload_n 0, 1) := by decide +kernel
theorem d_Bytes_openGap_18 : decode b_Bytes_openGap 18 = .ok (.getfield 9, 3) := by decide +kernel
theorem d_Bytes_openGap_21 : decode b_Bytes_openGap 21 = .ok (.aload_n 0, 1) := by decide +kernel
theorem d_Bytes_openGap_22 : decode b_Bytes_openGap 22 = .ok (.getfield 19, 3) := by decide +kernel
theorem d_Bytes_openGap_25 : decode b_Bytes_openGap 25 = .ok (.isub, 1) := by decide +kernel
theorem d_Bytes_openGap_26 : decode b_Bytes_openGap 26 = .ok (.if_icmp .le 4, 3) := by decide +kernel
theorem d_Bytes_openGap_29 : decode b_Bytes_openGap 29 = .ok (.return_, 1) := by decide +kernel
theorem d_Bytes_openGap_30 : decode b_Bytes_openGap 30 = .ok (.aload_n 0, 1) := by decide +kernel
theorem d_Bytes_openGap_31 : decode b_Bytes_openGap 31 = .ok (.getfield 19, 3) := by decide +kernel
theorem d_Bytes_openGap_34 : decode b_Bytes_openGap 34 = .ok (.iload_n 2, 1) := by decide +kernel
theorem d_Bytes_openGap_35 : decode b_Bytes_openGap 35 = .ok (.iadd, 1) := by decide +kernel
theorem d_Bytes_openGap_36 : decode b_Bytes_openGap 36 = .ok (.aload_n 0, 1) := by decide +kernel
theorem d_Bytes_openGap_37 : decode b_Bytes_openGap 37 = .ok (.getfield 15, 3) := by decide +kernel
theorem d_Bytes_openGap_40 : decode b_Bytes_openGap 40 = .ok (.arraylength, 1) := by decide +kernel
theorem d_Bytes_openGap_41 : decode b_Bytes_openGap 41 = .ok (.if_icmp .le 18, 3) := by decide +kernel
theorem d_Bytes_openGap_44 : decode b_Bytes_openGap 44 = .ok (.aload_n 0, 1) := by decide +kernel
theorem d_Bytes_openGap_45 : decode b_Bytes_openGap 45 = .ok (.aload_n 0, 1) := by decide +kernel
theorem d_Bytes_openGap_46 : decode b_Bytes_openGap 46 = .ok (.getfield 15, 3) := by decide +kernel
theorem d_Bytes_openGap_49 : decode b_Bytes_openGap 49 = .ok (.aload_n 0, 1) := by decide +kernel
theorem d_Bytes_openGap_50 : decode b_Bytes_openGap 50 = .ok (.getfield 9, 3) := by decide +kernel
theorem d_Bytes_openGap_53 : decode b_Bytes_openGap 53 = .ok (.invokestatic 33, 3) := by decide +kernel
theorem d_Bytes_openGap_56 : decode b_Bytes_openGap 56 = .ok (.putfield 15, 3) := by decide +kernel
theorem d_Bytes_openGap_59 : decode b_Bytes_openGap 59 = .ok (.aload_n 0, 1) := by decide +kernel
theorem d_Bytes_openGap_60 : decode b_Bytes_openGap 60 = .ok (.getfield 15, 3) := by decide +kernel
theorem d_Bytes_openGap_63 : decode b_Bytes_openGap 63 = .ok (.iload_n 1, 1) := by decide +kernel
theorem d_Bytes_openGap_64 : decode b_Bytes_openGap 64 = .ok (.aload_n 0, 1) := by decide +kernel
theorem d_Bytes_openGap_65 : decode b_Bytes_openGap 65 = .ok (.getfield 15, 3) := by decide +kernel
theorem d_Bytes_openGap_68 : decode b_Bytes_openGap 68 = .ok (.iload_n 1, 1) := by decide +kernel
theorem d_Bytes_openGap_69 : decode b_Bytes_openGap 69 = .ok (.iload_n 2, 1) := by decide +kernel
theorem d_Bytes_openGap_70 : decode b_Bytes_openGap 70 = .ok (.iadd, 1) := by decide +kernel
theorem d_Bytes_openGap_71 : decode b_Bytes_openGap 71 = .ok (.aload_n 0, 1) := by decide +kernel
theorem d_Bytes_openGap_72 : decode b_Bytes_openGap 72 = .ok (.getfield 19, 3) := by decide +kernel
theorem d_Bytes_openGap_75 : decode b_Bytes_openGap 75 = .ok (.iload_n 1, 1) := by decide +kernel
theorem d_Bytes_openGap_76 : decode b_Bytes_openGap 76 = .ok (.isub, 1) := by decide +kernel
theorem d_Bytes_openGap_77 : decode b_Bytes_openGap 77 = .ok (.invokestatic 39, 3) := by decide +kernel
theorem d_Bytes_openGap_80 : decode b_Bytes_openGap 80 = .ok (.aload_n 0, 1) := by decide +kernel
theorem d_Bytes_openGap_81 : decode b_Bytes_openGap 81 = .ok (.dup, 1) := by decide +kernel
theorem d_Bytes_openGap_82 : decode b_Bytes_openGap 82 = .ok (.getfield 19, 3) := by decide +kernel
theorem d_Bytes_openGap_85 : decode b_Bytes_openGap 85 = .ok (.iload_n 2, 1) := by decide +kernel
theorem d_Bytes_openGap_86 : decode b_Bytes_openGap 86 = .ok (.iadd, 1) := by decide +kernel
theorem d_Bytes_openGap_87 : decode b_Bytes_openGap 87 = .ok (.putfield 19, 3) := by decide +kernel
theorem d_Bytes_openGap_90 : decode b_Bytes_openGap 90 = .ok (.return_, 1) := by decide +kernel
theorem d_Bytes_cut_0 : decode b_Bytes_cut 0 = .ok (.iload_n 1, 1) := by decide +kernel
theorem d_Bytes_cut_1 : decode b_Bytes_cut 1 = .ok (.ifCond .lt 17, 3) := by decide +kernel
theorem d_Bytes_cut_4 : decode b_Bytes_cut 4 = .ok (.iload_n 2, 1) := by decide +kernel
theorem d_Bytes_cut_5 : decode b_Bytes_cut 5 = .ok (.ifCond .lt 13, 3) := by decide +kernel
theorem d_Bytes_cut_8 : decode b_Bytes_cut 8 = .ok (.iload_n 1, 1) := by decide +kernel
theorem d_Bytes_cut_9 : decode b_Bytes_cut 9 = .ok (.aload_n 0, 1) := by decide +kernel
theorem d_Bytes_cut_10 : decode b_Bytes_cut 10 = .ok (.getfield 19, 3) := by decide +kernel
theorem d_Bytes_cut_13 : decode b_Bytes_cut 13 = .ok (.iload_n 2, 1) := by decide +kernel
theorem d_Bytes_cut_14 : decode b_Bytes_cut 14 = .ok (.isub, 1) := by decide +kernel
theorem d_Bytes_cut_15 : decode b_Bytes_cut 15 = .ok (.if_icmp .le 4, 3) := by decide +kernel
theorem d_Bytes_cut_18 : decode b_Bytes_cut 18 = .ok (.return_, 1) := by decide +kernel
theorem d_Bytes_cut_19 : decode b_Bytes_cut 19 = .ok (.aload_n 0, 1) := by decide +kernel
theorem d_Bytes_cut_20 : decode b_Bytes_cut 20 = .ok (.getfield 15, 3) := by decide +kernel
theorem d_Bytes_cut_23 : decode b_Bytes_cut 23 = .ok (.iload_n 1, 1) := by decide +kernel
theorem d_Bytes_cut_24 : decode b_Bytes_cut 24 = .ok (.iload_n 2, 1) := by decide +kernel
theorem d_Bytes_cut_25 : decode b_Bytes_cut 25 = .ok (.iadd, 1) := by decide +kernel
theorem d_Bytes_cut_26 : decode b_Bytes_cut 26 = .ok (.aload_n 0, 1) := by decide +kernel
theorem d_Bytes_cut_27 : decode b_Bytes_cut 27 = .ok (.getfield 15, 3) := by decide +kernel
theorem d_Bytes_cut_30 : decode b_Bytes_cut 30 = .ok (.iload_n 1, 1) := by decide +kernel
theorem d_Bytes_cut_31 : decode b_Bytes_cut 31 = .ok (.aload_n 0, 1) := by decide +kernel
theorem d_Bytes_cut_32 : decode b_Bytes_cut 32 = .ok (.getfield 19, 3) := by decide +kernel
theorem d_Bytes_cut_35 : decode b_Bytes_cut 35 = .ok (.iload_n 1, 1) := by decide +kernel
theorem d_Bytes_cut_36 : decode b_Bytes_cut 36 = .ok (.isub, 1) := by decide +kernel
theorem d_Bytes_cut_37 : decode b_Bytes_cut 37 = .ok (.iload_n 2, 1) := by decide +kernel
theorem d_Bytes_cut_38 : decode b_Bytes_cut 38 = .ok (.isub, 1) := by decide +kernel
theorem d_Bytes_cut_39 : decode b_Bytes_cut 39 = .ok (.invokestatic 39, 3) := by decide +kernel
theorem d_Bytes_cut_42 : decode b_Bytes_cut 42 = .ok (.aload_n 0, 1) := by decide +kernel
theorem d_Bytes_cut_43 : decode b_Bytes_cut 43 = .ok (.dup, 1) := by decide +kernel
theorem d_Bytes_cut_44 : decode b_Bytes_cut 44 = .ok (.getfield 19, 3) := by decide +kernel
theorem d_Bytes_cut_47 : decode b_Bytes_cut 47 = .ok (.iload_n 2, 1) := by decide +kernel
theorem d_Bytes_cut_48 : decode b_Bytes_cut 48 = .ok (.isub, 1) := by decide +kernel
theorem d_Bytes_cut_49 : decode b_Bytes_cut 49 = .ok (.putfield 19, 3) := by decide +kernel
theorem d_Bytes_cut_52 : decode b_Bytes_cut 52 = .ok (.return_, 1) := by decide +kernel
theorem d_Bytes_putFrom_0 : decode b_Bytes_putFrom 0 = .ok (.iload_n 1, 1) := by decide +kernel
theorem d_Bytes_putFrom_1 : decode b_Bytes_putFrom 1 = .ok (.ifCond .lt 34, 3) := by decide +kernel
theorem d_Bytes_putFrom_4 : decode b_Bytes_putFrom 4 = .ok (.iload_n 3, 1) := by decide +kernel
theorem d_Bytes_putFrom_5 : decode b_Bytes_putFrom 5 = .ok (.ifCond .lt 30, 3) := by decide +kernel
theorem d_Bytes_putFrom_8 : decode b_Bytes_putFrom 8 = .ok (.iload 4, 2) := by decide +kernel
theorem d_Bytes_putFrom_10 : decode b_Bytes_putFrom 10 = .ok (.ifCond .lt 25, 3) := by decide +kernel
theorem d_Bytes_putFrom_13 : decode b_Bytes_putFrom 13 = .ok (.iload_n 1, 1) := by decide +kernel
theorem d_Bytes_putFrom_14 : decode b_Bytes_putFrom 14 = .ok (.aload_n 0, 1) := by decide +kernel
theorem d_Bytes_putFrom_15 : decode b_Bytes_putFrom 15 = .ok (.getfield 19, 3) := by decide +kernel
theorem d_Bytes_putFrom_18 : decode b_Bytes_putFrom 18 = .ok (.iload 4, 2) := by decide +kernel
theorem d_Bytes_putFrom_20 : decode b_Bytes_putFrom 20 = .ok (.isub, 1) := by decide +kernel
theorem d_Bytes_putFrom_21 : decode b_Bytes_putFrom 21 = .ok (.if_icmp .gt 14, 3) := by decide +kernel
theorem d_Bytes_putFrom_24 : decode b_Bytes_putFrom 24 = .ok (.iload_n 3, 1) := by decide +kernel
theorem d_Bytes_putFrom_25 : decode b_Bytes_putFrom 25 = .ok (.aload_n 2, 1) := by decide +kernel
theorem d_Bytes_putFrom_26 : decode b_Bytes_putFrom 26 = .ok (.getfield 19, 3) := by decide +kernel
theorem d_Bytes_putFrom_29 : decode b_Bytes_putFrom 29 = .ok (.iload 4, 2) := by decide +kernel
theorem d_Bytes_putFrom_31 : decode b_Bytes_putFrom 31 = .ok (.isub, 1) := by decide +kernel
theorem d_Bytes_putFrom_32 : decode b_Bytes_putFrom 32 = .ok (.if_icmp .le 4, 3) := by decide +kernel
theorem d_Bytes_putFrom_35 : decode b_Bytes_putFrom 35 = .ok (.return_, 1) := by decide +kernel
theorem d_Bytes_putFrom_36 : decode b_Bytes_putFrom 36 = .ok (.aload_n 2, 1) := by decide +kernel
theorem d_Bytes_putFrom_37 : decode b_Bytes_putFrom 37 = .ok (.getfield 15, 3) := by decide +kernel
theorem d_Bytes_putFrom_40 : decode b_Bytes_putFrom 40 = .ok (.iload_n 3, 1) := by decide +kernel
theorem d_Bytes_putFrom_41 : decode b_Bytes_putFrom 41 = .ok (.aload_n 0, 1) := by decide +kernel
theorem d_Bytes_putFrom_42 : decode b_Bytes_putFrom 42 = .ok (.getfield 15, 3) := by decide +kernel
theorem d_Bytes_putFrom_45 : decode b_Bytes_putFrom 45 = .ok (.iload_n 1, 1) := by decide +kernel
theorem d_Bytes_putFrom_46 : decode b_Bytes_putFrom 46 = .ok (.iload 4, 2) := by decide +kernel
theorem d_Bytes_putFrom_48 : decode b_Bytes_putFrom 48 = .ok (.invokestatic 39, 3) := by decide +kernel
theorem d_Bytes_putFrom_51 : decode b_Bytes_putFrom 51 = .ok (.return_, 1) := by decide +kernel
theorem d_Bytes_appendFrom_0 : decode b_Bytes_appendFrom 0 = .ok (.aload_n 0, 1) := by decide +kernel
theorem d_Bytes_appendFrom_1 : decode b_Bytes_appendFrom 1 = .ok (.getfield 19, 3) := by decide +kernel
theorem d_Bytes_appendFrom_4 : decode b_Bytes_appendFrom 4 = .ok (.istore 4, 2) := by decide +kernel
theorem d_Bytes_appendFrom_6 : decode b_Bytes_appendFrom 6 = .ok (.aload_n 0, 1) := by decide +kernel
theorem d_Bytes_appendFrom_7 : decode b_Bytes_appendFrom 7 = .ok (.iload 4, 2) := by decide +kernel
theorem d_Bytes_appendFrom_9 : decode b_Bytes_appendFrom 9 = .ok (.iload_n 3, 1) := by decide +kernel
theorem d_Bytes_appendFrom_10 : decode b_Bytes_appendFrom 10 = .ok (.invokevirtual 45, 3) := by decide +kernel
theorem d_Bytes_appendFrom_13 : decode b_Bytes_appendFrom 13 = .ok (.aload_n 0, 1) := by decide +kernel
theorem d_Bytes_appendFrom_14 : decode b_Bytes_appendFrom 14 = .ok (.iload 4, 2) := by decide +kernel
theorem d_Bytes_appendFrom_16 : decode b_Bytes_appendFrom 16 = .ok (.aload_n 1, 1) := by decide +kernel
theorem d_Bytes_appendFrom_17 : decode b_Bytes_appendFrom 17 = .ok (.iload_n 2, 1) := by decide +kernel
theorem d_Bytes_appendFrom_18 : decode b_Bytes_appendFrom 18 = .ok (.iload_n 3, 1) := by decide +kernel
theorem d_Bytes_appendFrom_19 : decode b_Bytes_appendFrom 19 = .ok (.invokevirtual 48, 3) := by decide +kernel
theorem d_Bytes_appendFrom_22 : decode b_Bytes_appendFrom 22 = .ok (.return_, 1) := by decide +kernel
theorem d_Bytes_appendNumber_0 : decode b_Bytes_appendNumber 0 = .ok (.aload_n 0, 1) := by decide +kernel
theorem d_Bytes_appendNumber_1 : decode b_Bytes_appendNumber 1 = .ok (.getfield 19, 3) := by decide +kernel
theorem d_Bytes_appendNumber_4 : decode b_Bytes_appendNumber 4 = .ok (.istore 4, 2) := by decide +kernel
theorem d_Bytes_appendNumber_6 : decode b_Bytes_appendNumber 6 = .ok (.aload_n 0, 1) := by decide +kernel
theorem d_Bytes_appendNumber_7 : decode b_Bytes_appendNumber 7 = .ok (.iload 4, 2) := by decide +kernel
theorem d_Bytes_appendNumber_9 : decode b_Bytes_appendNumber 9 = .ok (.iload_n 3, 1) := by decide +kernel
theorem d_Bytes_appendNumber_10 : decode b_Bytes_appendNumber 10 = .ok (.invokevirtual 45, 3) := by decide +kernel
theorem d_Bytes_appendNumber_13 : decode b_Bytes_appendNumber 13 = .ok (.aload_n 0, 1) := by decide +kernel
theorem d_Bytes_appendNumber_14 : decode b_Bytes_appendNumber 14 = .ok (.iload 4, 2) := by decide +kernel
theorem d_Bytes_appendNumber_16 : decode b_Bytes_appendNumber 16 = .ok (.iload_n 3, 1) := by decide +kernel
theorem d_Bytes_appendNumber_17 : decode b_Bytes_appendNumber 17 = .ok (.lload_n 1, 1) := by decide +kernel
theorem d_Bytes_appendNumber_18 : decode b_Bytes_appendNumber 18 = .ok (.invokevirtual 52, 3) := by decide +kernel
theorem d_Bytes_appendNumber_21 : decode b_Bytes_appendNumber 21 = .ok (.return_, 1) := by decide +kernel
theorem d_Bytes_appendHighestFirst_0 : decode b_Bytes_appendHighestFirst 0 = .ok (.aload_n 0, 1) := by decide +kernel
theorem d_Bytes_appendHighestFirst_1 : decode b_Bytes_appendHighestFirst 1 = .ok (.getfield 19, 3) := by decide +kernel
theorem d_Bytes_appendHighestFirst_4 : decode b_Bytes_appendHighestFirst 4 = .ok (.istore_n 2, 1) := by decide +kernel
theorem d_Bytes_appendHighestFirst_5 : decode b_Bytes_appendHighestFirst 5 = .ok (.aload_n 0, 1) := by decide +kernel
theorem d_Bytes_appendHighestFirst_6 : decode b_Bytes_appendHighestFirst 6 = .ok (.iload_n 2, 1) := by decide +kernel
theorem d_Bytes_appendHighestFirst_7 : decode b_Bytes_appendHighestFirst 7 = .ok (.iconst 4, 1) := by decide +kernel
theorem d_Bytes_appendHighestFirst_8 : decode b_Bytes_appendHighestFirst 8 = .ok (.invokevirtual 45, 3) := by decide +kernel
theorem d_Bytes_appendHighestFirst_11 : decode b_Bytes_appendHighestFirst 11 = .ok (.iconst 0, 1) := by decide +kernel
theorem d_Bytes_appendHighestFirst_12 : decode b_Bytes_appendHighestFirst 12 = .ok (.istore_n 3, 1) := by decide +kernel
theorem d_Bytes_appendHighestFirst_13 : decode b_Bytes_appendHighestFirst 13 = .ok (.iload_n 3, 1) := by decide +kernel
theorem d_Bytes_appendHighestFirst_14 : decode b_Bytes_appendHighestFirst 14 = .ok (.iconst 4, 1) := by decide +kernel
theorem d_Bytes_appendHighestFirst_15 : decode b_Bytes_appendHighestFirst 15 = .ok (.if_icmp .ge 25, 3) := by decide +kernel
theorem d_Bytes_appendHighestFirst_18 : decode b_Bytes_appendHighestFirst 18 = .ok (.aload_n 0, 1) := by decide +kernel
theorem d_Bytes_appendHighestFirst_19 : decode b_Bytes_appendHighestFirst 19 = .ok (.iload_n 2, 1) := by decide +kernel
theorem d_Bytes_appendHighestFirst_20 : decode b_Bytes_appendHighestFirst 20 = .ok (.iload_n 3, 1) := by decide +kernel
theorem d_Bytes_appendHighestFirst_21 : decode b_Bytes_appendHighestFirst 21 = .ok (.iadd, 1) := by decide +kernel
theorem d_Bytes_appendHighestFirst_22 : decode b_Bytes_appendHighestFirst 22 = .ok (.iload_n 1, 1) := by decide +kernel
theorem d_Bytes_appendHighestFirst_23 : decode b_Bytes_appendHighestFirst 23 = .ok (.bipush 24, 2) := by decide +kernel
theorem d_Bytes_appendHighestFirst_25 : decode b_Bytes_appendHighestFirst 25 = .ok (.bipush 8, 2) := by decide +kernel
theorem d_Bytes_appendHighestFirst_27 : decode b_Bytes_appendHighestFirst 27 = .ok (.iload_n 3, 1) := by decide +kernel
theorem d_Bytes_appendHighestFirst_28 : decode b_Bytes_appendHighestFirst 28 = .ok (.imul, 1) := by decide +kernel
theorem d_Bytes_appendHighestFirst_29 : decode b_Bytes_appendHighestFirst 29 = .ok (.isub, 1) := by decide +kernel
theorem d_Bytes_appendHighestFirst_30 : decode b_Bytes_appendHighestFirst 30 = .ok (.ishr, 1) := by decide +kernel
theorem d_Bytes_appendHighestFirst_31 : decode b_Bytes_appendHighestFirst 31 = .ok (.invokevirtual 26, 3) := by decide +kernel
theorem d_Bytes_appendHighestFirst_34 : decode b_Bytes_appendHighestFirst 34 = .ok (.iinc 3 1, 3) := by decide +kernel
theorem d_Bytes_appendHighestFirst_37 : decode b_Bytes_appendHighestFirst 37 = .ok (.goto (-24), 3) := by decide +kernel
theorem d_Bytes_appendHighestFirst_40 : decode b_Bytes_appendHighestFirst 40 = .ok (.return_, 1) := by decide +kernel
theorem d_Bytes_appendEmptyDocument_0 : decode b_Bytes_appendEmptyDocument 0 = .ok (.aload_n 0, 1) := by decide +kernel
theorem d_Bytes_appendEmptyDocument_1 : decode b_Bytes_appendEmptyDocument 1 = .ok (.ldc2_w 56, 3) := by decide +kernel
theorem d_Bytes_appendEmptyDocument_4 : decode b_Bytes_appendEmptyDocument 4 = .ok (.iconst 4, 1) := by decide +kernel
theorem d_Bytes_appendEmptyDocument_5 : decode b_Bytes_appendEmptyDocument 5 = .ok (.invokevirtual 58, 3) := by decide +kernel
theorem d_Bytes_appendEmptyDocument_8 : decode b_Bytes_appendEmptyDocument 8 = .ok (.aload_n 0, 1) := by decide +kernel
theorem d_Bytes_appendEmptyDocument_9 : decode b_Bytes_appendEmptyDocument 9 = .ok (.lconst 0, 1) := by decide +kernel
theorem d_Bytes_appendEmptyDocument_10 : decode b_Bytes_appendEmptyDocument 10 = .ok (.iconst 1, 1) := by decide +kernel
theorem d_Bytes_appendEmptyDocument_11 : decode b_Bytes_appendEmptyDocument 11 = .ok (.invokevirtual 58, 3) := by decide +kernel
theorem d_Bytes_appendEmptyDocument_14 : decode b_Bytes_appendEmptyDocument 14 = .ok (.return_, 1) := by decide +kernel
theorem d_Bytes_appendText_0 : decode b_Bytes_appendText 0 = .ok (.aload_n 0, 1) := by decide +kernel
theorem d_Bytes_appendText_1 : decode b_Bytes_appendText 1 = .ok (.iload_n 3, 1) := by decide +kernel
theorem d_Bytes_appendText_2 : decode b_Bytes_appendText 2 = .ok (.iconst 1, 1) := by decide +kernel
theorem d_Bytes_appendText_3 : decode b_Bytes_appendText 3 = .ok (.iadd, 1) := by decide +kernel
theorem d_Bytes_appendText_4 : decode b_Bytes_appendText 4 = .ok (.i2l, 1) := by decide +kernel
theorem d_Bytes_appendText_5 : decode b_Bytes_appendText 5 = .ok (.iconst 4, 1) := by decide +kernel
theorem d_Bytes_appendText_6 : decode b_Bytes_appendText 6 = .ok (.invokevirtual 58, 3) := by decide +kernel
theorem d_Bytes_appendText_9 : decode b_Bytes_appendText 9 = .ok (.aload_n 0, 1) := by decide +kernel
theorem d_Bytes_appendText_10 : decode b_Bytes_appendText 10 = .ok (.aload_n 1, 1) := by decide +kernel
theorem d_Bytes_appendText_11 : decode b_Bytes_appendText 11 = .ok (.iload_n 2, 1) := by decide +kernel
theorem d_Bytes_appendText_12 : decode b_Bytes_appendText 12 = .ok (.iload_n 3, 1) := by decide +kernel
theorem d_Bytes_appendText_13 : decode b_Bytes_appendText 13 = .ok (.invokevirtual 62, 3) := by decide +kernel
theorem d_Bytes_appendText_16 : decode b_Bytes_appendText 16 = .ok (.aload_n 0, 1) := by decide +kernel
theorem d_Bytes_appendText_17 : decode b_Bytes_appendText 17 = .ok (.lconst 0, 1) := by decide +kernel
theorem d_Bytes_appendText_18 : decode b_Bytes_appendText 18 = .ok (.iconst 1, 1) := by decide +kernel
theorem d_Bytes_appendText_19 : decode b_Bytes_appendText 19 = .ok (.invokevirtual 58, 3) := by decide +kernel
theorem d_Bytes_appendText_22 : decode b_Bytes_appendText 22 = .ok (.return_, 1) := by decide +kernel
theorem d_Kinds_isKind_0 : decode b_Kinds_isKind 0 = .ok (.iload_n 0, 1) := by decide +kernel
theorem d_Kinds_isKind_1 : decode b_Kinds_isKind 1 = .ok (.iconst 2, 1) := by decide +kernel
theorem d_Kinds_isKind_2 : decode b_Kinds_isKind 2 = .ok (.if_icmp .eq 23, 3) := by decide +kernel
theorem d_Kinds_isKind_5 : decode b_Kinds_isKind 5 = .ok (.iload_n 0, 1) := by decide +kernel
theorem d_Kinds_isKind_6 : decode b_Kinds_isKind 6 = .ok (.bipush 10, 2) := by decide +kernel
theorem d_Kinds_isKind_8 : decode b_Kinds_isKind 8 = .ok (.if_icmp .eq 17, 3) := by decide +kernel
theorem d_Kinds_isKind_11 : decode b_Kinds_isKind 11 = .ok (.iload_n 0, 1) := by decide +kernel
theorem d_Kinds_isKind_12 : decode b_Kinds_isKind 12 = .ok (.invokestatic 9, 3) := by decide +kernel
theorem d_Kinds_isKind_15 : decode b_Kinds_isKind 15 = .ok (.ifCond .ne 10, 3) := by decide +kernel
theorem d_Kinds_isKind_18 : decode b_Kinds_isKind 18 = .ok (.iload_n 0, 1) := by decide +kernel
theorem d_Kinds_isKind_19 : decode b_Kinds_isKind 19 = .ok (.invokestatic 15, 3) := by decide +kernel
theorem d_Kinds_isKind_22 : decode b_Kinds_isKind 22 = .ok (.ifCond .le 7, 3) := by decide +kernel
theorem d_Kinds_isKind_25 : decode b_Kinds_isKind 25 = .ok (.iconst 1, 1) := by decide +kernel
theorem d_Kinds_isKind_26 : decode b_Kinds_isKind 26 = .ok (.goto 4, 3) := by decide +kernel
theorem d_Kinds_isKind_29 : decode b_Kinds_isKind 29 = .ok (.iconst 0, 1) := by decide +kernel
theorem d_Kinds_isKind_30 : decode b_Kinds_isKind 30 = .ok (.ireturn, 1) := by decide +kernel
theorem d_Kinds_holdsElements_0 : decode b_Kinds_holdsElements 0 = .ok (.iload_n 0, 1) := by decide +kernel
theorem d_Kinds_holdsElements_1 : decode b_Kinds_holdsElements 1 = .ok (.iconst 3, 1) := by decide +kernel
theorem d_Kinds_holdsElements_2 : decode b_Kinds_holdsElements 2 = .ok (.if_icmp .eq 8, 3) := by decide +kernel
theorem d_Kinds_holdsElements_5 : decode b_Kinds_holdsElements 5 = .ok (.iload_n 0, 1) := by decide +kernel
theorem d_Kinds_holdsElements_6 : decode b_Kinds_holdsElements 6 = .ok (.iconst 4, 1) := by decide +kernel
theorem d_Kinds_holdsElements_7 : decode b_Kinds_holdsElements 7 = .ok (.if_icmp .ne 7, 3) := by decide +kernel
theorem d_Kinds_holdsElements_10 : decode b_Kinds_holdsElements 10 = .ok (.iconst 1, 1) := by decide +kernel
theorem d_Kinds_holdsElements_11 : decode b_Kinds_holdsElements 11 = .ok (.goto 4, 3) := by decide +kernel
theorem d_Kinds_holdsElements_14 : decode b_Kinds_holdsElements 14 = .ok (.iconst 0, 1) := by decide +kernel
theorem d_Kinds_holdsElements_15 : decode b_Kinds_holdsElements 15 = .ok (.ireturn, 1) := by decide +kernel
theorem d_Kinds_width_0 : decode b_Kinds_width 0 = .ok (.iload_n 0, 1) := by decide +kernel
theorem d_Kinds_width_1 : decode b_Kinds_width 1 = .ok (.lookupswitch 42 #[(8, 35), (16, 37), (18, 39)], 35) := by decide +kernel
theorem d_Kinds_width_36 : decode b_Kinds_width 36 = .ok (.iconst 1, 1) := by decide +kernel
theorem d_Kinds_width_37 : decode b_Kinds_width 37 = .ok (.ireturn, 1) := by decide +kernel
theorem d_Kinds_width_38 : decode b_Kinds_width 38 = .ok (.iconst 4, 1) := by decide +kernel
theorem d_Kinds_width_39 : decode b_Kinds_width 39 = .ok (.ireturn, 1) := by decide +kernel
theorem d_Kinds_width_40 : decode b_Kinds_width 40 = .ok (.bipush 8, 2) := by decide +kernel
theorem d_Kinds_width_42 : decode b_Kinds_width 42 = .ok (.ireturn, 1) := by decide +kernel
theorem d_Kinds_width_43 : decode b_Kinds_width 43 = .ok (.iconst 0, 1) := by decide +kernel
theorem d_Kinds_width_44 : decode b_Kinds_width 44 = .ok (.ireturn, 1) := by decide +kernel
theorem d_Kinds_valueLength_0 : decode b_Kinds_valueLength 0 = .ok (.iload_n 0, 1) := by decide +kernel
theorem d_Kinds_valueLength_1 : decode b_Kinds_valueLength 1 = .ok (.iconst 2, 1) := by decide +kernel
theorem d_Kinds_valueLength_2 : decode b_Kinds_valueLength 2 = .ok (.if_icmp .ne 13, 3) := by decide +kernel
theorem d_Kinds_valueLength_5 : decode b_Kinds_valueLength 5 = .ok (.iconst 4, 1) := by decide +kernel
theorem d_Kinds_valueLength_6 : decode b_Kinds_valueLength 6 = .ok (.aload_n 1, 1) := by decide +kernel
theorem d_Kinds_valueLength_7 : decode b_Kinds_valueLength 7 = .ok (.iload_n 2, 1) := by decide +kernel
theorem d_Kinds_valueLength_8 : decode b_Kinds_valueLength 8 = .ok (.iconst 4, 1) := by decide +kernel
theorem d_Kinds_valueLength_9 : decode b_Kinds_valueLength 9 = .ok (.invokevirtual 19, 3) := by decide +kernel
theorem d_Kinds_valueLength_12 : decode b_Kinds_valueLength 12 = .ok (.l2i, 1) := by decide +kernel
theorem d_Kinds_valueLength_13 : decode b_Kinds_valueLength 13 = .ok (.iadd, 1) := by decide +kernel
theorem d_Kinds_valueLength_14 : decode b_Kinds_valueLength 14 = .ok (.ireturn, 1) := by decide +kernel
theorem d_Kinds_valueLength_15 : decode b_Kinds_valueLength 15 = .ok (.iload_n 0, 1) := by decide +kernel
theorem d_Kinds_valueLength_16 : decode b_Kinds_valueLength 16 = .ok (.invokestatic 9, 3) := by decide +kernel
theorem d_Kinds_valueLength_19 : decode b_Kinds_valueLength 19 = .ok (.ifCond .eq 13, 3) := by decide +kernel
theorem d_Kinds_valueLength_22 : decode b_Kinds_valueLength 22 = .ok (.aload_n 1, 1) := by decide +kernel
theorem d_Kinds_valueLength_23 : decode b_Kinds_valueLength 23 = .ok (.iload_n 2, 1) := by decide +kernel
theorem d_Kinds_valueLength_24 : decode b_Kinds_valueLength 24 = .ok (.iconst 4, 1) := by decide +kernel
theorem d_Kinds_valueLength_25 : decode b_Kinds_valueLength 25 = .ok (.invokevirtual 19, 3) := by decide +kernel
theorem d_Kinds_valueLength_28 : decode b_Kinds_valueLength 28 = .ok (.l2i, 1) := by decide +kernel
theorem d_Kinds_valueLength_29 : decode b_Kinds_valueLength 29 = .ok (.goto 7, 3) := by decide +kernel
theorem d_Kinds_valueLength_32 : decode b_Kinds_valueLength 32 = .ok (.iload_n 0, 1) := by decide +kernel
theorem d_Kinds_valueLength_33 : decode b_Kinds_valueLength 33 = .ok (.invokestatic 15, 3) := by decide +kernel
theorem d_Kinds_valueLength_36 : decode b_Kinds_valueLength 36 = .ok (.ireturn, 1) := by decide +kernel
theorem d_Kinds_allows_0 : decode b_Kinds_allows 0 = .ok (.iload_n 0, 1) := by decide +kernel
theorem d_Kinds_allows_1 : decode b_Kinds_allows 1 = .ok (.lookupswitch 69 #[(8, 35), (16, 53), (18, 67)], 35) := by decide +kernel
theorem d_Kinds_allows_36 : decode b_Kinds_allows 36 = .ok (.lload_n 1, 1) := by decide +kernel
theorem d_Kinds_allows_37 : decode b_Kinds_allows 37 = .ok (.lconst 0, 1) := by decide +kernel
theorem d_Kinds_allows_38 : decode b_Kinds_allows 38 = .ok (.lcmp, 1) := by decide +kernel
theorem d_Kinds_allows_39 : decode b_Kinds_allows 39 = .ok (.ifCond .eq 9, 3) := by decide +kernel
theorem d_Kinds_allows_42 : decode b_Kinds_allows 42 = .ok (.lload_n 1, 1) := by decide +kernel
theorem d_Kinds_allows_43 : decode b_Kinds_allows 43 = .ok (.lconst 1, 1) := by decide +kernel
theorem d_Kinds_allows_44 : decode b_Kinds_allows 44 = .ok (.lcmp, 1) := by decide +kernel
theorem d_Kinds_allows_45 : decode b_Kinds_allows 45 = .ok (.ifCond .ne 7, 3) := by decide +kernel
theorem d_Kinds_allows_48 : decode b_Kinds_allows 48 = .ok (.iconst 1, 1) := by decide +kernel
theorem d_Kinds_allows_49 : decode b_Kinds_allows 49 = .ok (.goto 4, 3) := by decide +kernel
theorem d_Kinds_allows_52 : decode b_Kinds_allows 52 = .ok (.iconst 0, 1) := by decide +kernel
theorem d_Kinds_allows_53 : decode b_Kinds_allows 53 = .ok (.ireturn, 1) := by decide +kernel
theorem d_Kinds_allows_54 : decode b_Kinds_allows 54 = .ok (.lload_n 1, 1) := by decide +kernel
theorem d_Kinds_allows_55 : decode b_Kinds_allows 55 = .ok (.lload_n 1, 1) := by decide +kernel
theorem d_Kinds_allows_56 : decode b_Kinds_allows 56 = .ok (.l2i, 1) := by decide +kernel
theorem d_Kinds_allows_57 : decode b_Kinds_allows 57 = .ok (.i2l, 1) := by decide +kernel
theorem d_Kinds_allows_58 : decode b_Kinds_allows 58 = .ok (.lcmp, 1) := by decide +kernel
theorem d_Kinds_allows_59 : decode b_Kinds_allows 59 = .ok (.ifCond .ne 7, 3) := by decide +kernel
theorem d_Kinds_allows_62 : decode b_Kinds_allows 62 = .ok (.iconst 1, 1) := by decide +kernel
theorem d_Kinds_allows_63 : decode b_Kinds_allows 63 = .ok (.goto 4, 3) := by decide +kernel
theorem d_Kinds_allows_66 : decode b_Kinds_allows 66 = .ok (.iconst 0, 1) := by decide +kernel
theorem d_Kinds_allows_67 : decode b_Kinds_allows 67 = .ok (.ireturn, 1) := by decide +kernel
theorem d_Kinds_allows_68 : decode b_Kinds_allows 68 = .ok (.iconst 1, 1) := by decide +kernel
theorem d_Kinds_allows_69 : decode b_Kinds_allows 69 = .ok (.ireturn, 1) := by decide +kernel
theorem d_Kinds_allows_70 : decode b_Kinds_allows 70 = .ok (.lload_n 1, 1) := by decide +kernel
theorem d_Kinds_allows_71 : decode b_Kinds_allows 71 = .ok (.lconst 0, 1) := by decide +kernel
theorem d_Kinds_allows_72 : decode b_Kinds_allows 72 = .ok (.lcmp, 1) := by decide +kernel
theorem d_Kinds_allows_73 : decode b_Kinds_allows 73 = .ok (.ifCond .ne 7, 3) := by decide +kernel
theorem d_Kinds_allows_76 : decode b_Kinds_allows 76 = .ok (.iconst 1, 1) := by decide +kernel
theorem d_Kinds_allows_77 : decode b_Kinds_allows 77 = .ok (.goto 4, 3) := by decide +kernel
theorem d_Kinds_allows_80 : decode b_Kinds_allows 80 = .ok (.iconst 0, 1) := by decide +kernel
theorem d_Kinds_allows_81 : decode b_Kinds_allows 81 = .ok (.ireturn, 1) := by decide +kernel
theorem d_Utf8_firstWrong_0 : decode b_Utf8_firstWrong 0 = .ok (.iload_n 1, 1) := by decide +kernel
theorem d_Utf8_firstWrong_1 : decode b_Utf8_firstWrong 1 = .ok (.istore_n 3, 1) := by decide +kernel
theorem d_Utf8_firstWrong_2 : decode b_Utf8_firstWrong 2 = .ok (.iload_n 1, 1) := by decide +kernel
theorem d_Utf8_firstWrong_3 : decode b_Utf8_firstWrong 3 = .ok (.istore 4, 2) := by decide +kernel
theorem d_Utf8_firstWrong_5 : decode b_Utf8_firstWrong 5 = .ok (.iload 4, 2) := by decide +kernel
theorem d_Utf8_firstWrong_7 : decode b_Utf8_firstWrong 7 = .ok (.iload_n 2, 1) := by decide +kernel
theorem d_Utf8_firstWrong_8 : decode b_Utf8_firstWrong 8 = .ok (.if_icmp .ge 54, 3) := by decide +kernel
theorem d_Utf8_firstWrong_11 : decode b_Utf8_firstWrong 11 = .ok (.iload_n 3, 1) := by decide +kernel
theorem d_Utf8_firstWrong_12 : decode b_Utf8_firstWrong 12 = .ok (.iload_n 2, 1) := by decide +kernel
theorem d_Utf8_firstWrong_13 : decode b_Utf8_firstWrong 13 = .ok (.if_icmp .ge 49, 3) := by decide +kernel
theorem d_Utf8_firstWrong_16 : decode b_Utf8_firstWrong 16 = .ok (.aload_n 0, 1) := by decide +kernel
theorem d_Utf8_firstWrong_17 : decode b_Utf8_firstWrong 17 = .ok (.iload_n 3, 1) := by decide +kernel
theorem d_Utf8_firstWrong_18 : decode b_Utf8_firstWrong 18 = .ok (.invokevirtual 9, 3) := by decide +kernel
theorem d_Utf8_firstWrong_21 : decode b_Utf8_firstWrong 21 = .ok (.invokestatic 15, 3) := by decide +kernel
theorem d_Utf8_firstWrong_24 : decode b_Utf8_firstWrong 24 = .ok (.istore 5, 2) := by decide +kernel
theorem d_Utf8_firstWrong_26 : decode b_Utf8_firstWrong 26 = .ok (.iload 5, 2) := by decide +kernel
theorem d_Utf8_firstWrong_28 : decode b_Utf8_firstWrong 28 = .ok (.ifCond .eq 21, 3) := by decide +kernel
theorem d_Utf8_firstWrong_31 : decode b_Utf8_firstWrong 31 = .ok (.iload 5, 2) := by decide +kernel
theorem d_Utf8_firstWrong_33 : decode b_Utf8_firstWrong 33 = .ok (.iload_n 2, 1) := by decide +kernel
theorem d_Utf8_firstWrong_34 : decode b_Utf8_firstWrong 34 = .ok (.iload_n 3, 1) := by decide +kernel
theorem d_Utf8_firstWrong_35 : decode b_Utf8_firstWrong 35 = .ok (.isub, 1) := by decide +kernel
theorem d_Utf8_firstWrong_36 : decode b_Utf8_firstWrong 36 = .ok (.if_icmp .gt 13, 3) := by decide +kernel
theorem d_Utf8_firstWrong_39 : decode b_Utf8_firstWrong 39 = .ok (.aload_n 0, 1) := by decide +kernel
theorem d_Utf8_firstWrong_40 : decode b_Utf8_firstWrong 40 = .ok (.iload_n 3, 1) := by decide +kernel
theorem d_Utf8_firstWrong_41 : decode b_Utf8_firstWrong 41 = .ok (.iload 5, 2) := by decide +kernel
theorem d_Utf8_firstWrong_43 : decode b_Utf8_firstWrong 43 = .ok (.invokestatic 20, 3) := by decide +kernel
theorem d_Utf8_firstWrong_46 : decode b_Utf8_firstWrong 46 = .ok (.ifCond .ne 5, 3) := by decide +kernel
theorem d_Utf8_firstWrong_49 : decode b_Utf8_firstWrong 49 = .ok (.iload_n 3, 1) := by decide +kernel
theorem d_Utf8_firstWrong_50 : decode b_Utf8_firstWrong 50 = .ok (.ireturn, 1) := by decide +kernel
theorem d_Utf8_firstWrong_51 : decode b_Utf8_firstWrong 51 = .ok (.iload_n 3, 1) := by decide +kernel
theorem d_Utf8_firstWrong_52 : decode b_Utf8_firstWrong 52 = .ok (.iload 5, 2) := by decide +kernel
theorem d_Utf8_firstWrong_54 : decode b_Utf8_firstWrong 54 = .ok (.iadd, 1) := by decide +kernel
theorem d_Utf8_firstWrong_55 : decode b_Utf8_firstWrong 55 = .ok (.istore_n 3, 1) := by decide +kernel
theorem d_Utf8_firstWrong_56 : decode b_Utf8_firstWrong 56 = .ok (.iinc 4 1, 3) := by decide +kernel
theorem d_Utf8_firstWrong_59 : decode b_Utf8_firstWrong 59 = .ok (.goto (-54), 3) := by decide +kernel
theorem d_Utf8_firstWrong_62 : decode b_Utf8_firstWrong 62 = .ok (.iconst (-1), 1) := by decide +kernel
theorem d_Utf8_firstWrong_63 : decode b_Utf8_firstWrong 63 = .ok (.ireturn, 1) := by decide +kernel
theorem d_Utf8_lengthBehind_0 : decode b_Utf8_lengthBehind 0 = .ok (.iload_n 0, 1) := by decide +kernel
theorem d_Utf8_lengthBehind_1 : decode b_Utf8_lengthBehind 1 = .ok (.sipush 128, 3) := by decide +kernel
theorem d_Utf8_lengthBehind_4 : decode b_Utf8_lengthBehind 4 = .ok (.if_icmp .ge 5, 3) := by decide +kernel
theorem d_Utf8_lengthBehind_7 : decode b_Utf8_lengthBehind 7 = .ok (.iconst 1, 1) := by decide +kernel
theorem d_Utf8_lengthBehind_8 : decode b_Utf8_lengthBehind 8 = .ok (.ireturn, 1) := by decide +kernel
theorem d_Utf8_lengthBehind_9 : decode b_Utf8_lengthBehind 9 = .ok (.iload_n 0, 1) := by decide +kernel
theorem d_Utf8_lengthBehind_10 : decode b_Utf8_lengthBehind 10 = .ok (.sipush 194, 3) := by decide +kernel
theorem d_Utf8_lengthBehind_13 : decode b_Utf8_lengthBehind 13 = .ok (.if_icmp .lt 10, 3) := by decide +kernel
theorem d_Utf8_lengthBehind_16 : decode b_Utf8_lengthBehind 16 = .ok (.iload_n 0, 1) := by decide +kernel
theorem d_Utf8_lengthBehind_17 : decode b_Utf8_lengthBehind 17 = .ok (.sipush 244, 3) := by decide +kernel
theorem d_Utf8_lengthBehind_20 : decode b_Utf8_lengthBehind 20 = .ok (.if_icmp .le 5, 3) := by decide +kernel
theorem d_Utf8_lengthBehind_23 : decode b_Utf8_lengthBehind 23 = .ok (.iconst 0, 1) := by decide +kernel
theorem d_Utf8_lengthBehind_24 : decode b_Utf8_lengthBehind 24 = .ok (.ireturn, 1) := by decide +kernel
theorem d_Utf8_lengthBehind_25 : decode b_Utf8_lengthBehind 25 = .ok (.iload_n 0, 1) := by decide +kernel
theorem d_Utf8_lengthBehind_26 : decode b_Utf8_lengthBehind 26 = .ok (.sipush 224, 3) := by decide +kernel
theorem d_Utf8_lengthBehind_29 : decode b_Utf8_lengthBehind 29 = .ok (.if_icmp .ge 7, 3) := by decide +kernel
theorem d_Utf8_lengthBehind_32 : decode b_Utf8_lengthBehind 32 = .ok (.iconst 2, 1) := by decide +kernel
theorem d_Utf8_lengthBehind_33 : decode b_Utf8_lengthBehind 33 = .ok (.goto 15, 3) := by decide +kernel
theorem d_Utf8_lengthBehind_36 : decode b_Utf8_lengthBehind 36 = .ok (.iload_n 0, 1) := by decide +kernel
theorem d_Utf8_lengthBehind_37 : decode b_Utf8_lengthBehind 37 = .ok (.sipush 240, 3) := by decide +kernel
theorem d_Utf8_lengthBehind_40 : decode b_Utf8_lengthBehind 40 = .ok (.if_icmp .ge 7, 3) := by decide +kernel
theorem d_Utf8_lengthBehind_43 : decode b_Utf8_lengthBehind 43 = .ok (.iconst 3, 1) := by decide +kernel
theorem d_Utf8_lengthBehind_44 : decode b_Utf8_lengthBehind 44 = .ok (.goto 4, 3) := by decide +kernel
theorem d_Utf8_lengthBehind_47 : decode b_Utf8_lengthBehind 47 = .ok (.iconst 4, 1) := by decide +kernel
theorem d_Utf8_lengthBehind_48 : decode b_Utf8_lengthBehind 48 = .ok (.ireturn, 1) := by decide +kernel
theorem d_Utf8_isRight_0 : decode b_Utf8_isRight 0 = .ok (.aload_n 0, 1) := by decide +kernel
theorem d_Utf8_isRight_1 : decode b_Utf8_isRight 1 = .ok (.iload_n 1, 1) := by decide +kernel
theorem d_Utf8_isRight_2 : decode b_Utf8_isRight 2 = .ok (.invokevirtual 9, 3) := by decide +kernel
theorem d_Utf8_isRight_5 : decode b_Utf8_isRight 5 = .ok (.istore_n 3, 1) := by decide +kernel
theorem d_Utf8_isRight_6 : decode b_Utf8_isRight 6 = .ok (.iload_n 3, 1) := by decide +kernel
theorem d_Utf8_isRight_7 : decode b_Utf8_isRight 7 = .ok (.sipush 224, 3) := by decide +kernel
theorem d_Utf8_isRight_10 : decode b_Utf8_isRight 10 = .ok (.if_icmp .ne 9, 3) := by decide +kernel
theorem d_Utf8_isRight_13 : decode b_Utf8_isRight 13 = .ok (.sipush 160, 3) := by decide +kernel
theorem d_Utf8_isRight_16 : decode b_Utf8_isRight 16 = .ok (.goto 19, 3) := by decide +kernel
theorem d_Utf8_isRight_19 : decode b_Utf8_isRight 19 = .ok (.iload_n 3, 1) := by decide +kernel
theorem d_Utf8_isRight_20 : decode b_Utf8_isRight 20 = .ok (.sipush 240, 3) := by decide +kernel
theorem d_Utf8_isRight_23 : decode b_Utf8_isRight 23 = .ok (.if_icmp .ne 9, 3) := by decide +kernel
theorem d_Utf8_isRight_26 : decode b_Utf8_isRight 26 = .ok (.sipush 144, 3) := by decide +kernel
theorem d_Utf8_isRight_29 : decode b_Utf8_isRight 29 = .ok (.goto 6, 3) := by decide +kernel
theorem d_Utf8_isRight_32 : decode b_Utf8_isRight 32 = .ok (.sipush 128, 3) := by decide +kernel
theorem d_Utf8_isRight_35 : decode b_Utf8_isRight 35 = .ok (.istore 4, 2) := by decide +kernel
theorem d_Utf8_isRight_37 : decode b_Utf8_isRight 37 = .ok (.iload_n 3, 1) := by decide +kernel
theorem d_Utf8_isRight_38 : decode b_Utf8_isRight 38 = .ok (.sipush 237, 3) := by decide +kernel
theorem d_Utf8_isRight_41 : decode b_Utf8_isRight 41 = .ok (.if_icmp .ne 9, 3) := by decide +kernel
theorem d_Utf8_isRight_44 : decode b_Utf8_isRight 44 = .ok (.sipush 159, 3) := by decide +kernel
theorem d_Utf8_isRight_47 : decode b_Utf8_isRight 47 = .ok (.goto 19, 3) := by decide +kernel
theorem d_Utf8_isRight_50 : decode b_Utf8_isRight 50 = .ok (.iload_n 3, 1) := by decide +kernel
theorem d_Utf8_isRight_51 : decode b_Utf8_isRight 51 = .ok (.sipush 244, 3) := by decide +kernel
theorem d_Utf8_isRight_54 : decode b_Utf8_isRight 54 = .ok (.if_icmp .ne 9, 3) := by decide +kernel
theorem d_Utf8_isRight_57 : decode b_Utf8_isRight 57 = .ok (.sipush 143, 3) := by decide +kernel
theorem d_Utf8_isRight_60 : decode b_Utf8_isRight 60 = .ok (.goto 6, 3) := by decide +kernel
theorem d_Utf8_isRight_63 : decode b_Utf8_isRight 63 = .ok (.sipush 191, 3) := by decide +kernel
theorem d_Utf8_isRight_66 : decode b_Utf8_isRight 66 = .ok (.istore 5, 2) := by decide +kernel
theorem d_Utf8_isRight_68 : decode b_Utf8_isRight 68 = .ok (.iconst 1, 1) := by decide +kernel
theorem d_Utf8_isRight_69 : decode b_Utf8_isRight 69 = .ok (.istore 6, 2) := by decide +kernel
theorem d_Utf8_isRight_71 : decode b_Utf8_isRight 71 = .ok (.iload 6, 2) := by decide +kernel
theorem d_Utf8_isRight_73 : decode b_Utf8_isRight 73 = .ok (.iload_n 2, 1) := by decide +kernel
theorem d_Utf8_isRight_74 : decode b_Utf8_isRight 74 = .ok (.if_icmp .ge 45, 3) := by decide +kernel
theorem d_Utf8_isRight_77 : decode b_Utf8_isRight 77 = .ok (.aload_n 0, 1) := by decide +kernel
theorem d_Utf8_isRight_78 : decode b_Utf8_isRight 78 = .ok (.iload_n 1, 1) := by decide +kernel
theorem d_Utf8_isRight_79 : decode b_Utf8_isRight 79 = .ok (.iload 6, 2) := by decide +kernel
theorem d_Utf8_isRight_81 : decode b_Utf8_isRight 81 = .ok (.iadd, 1) := by decide +kernel
theorem d_Utf8_isRight_82 : decode b_Utf8_isRight 82 = .ok (.invokevirtual 9, 3) := by decide +kernel
theorem d_Utf8_isRight_85 : decode b_Utf8_isRight 85 = .ok (.istore 7, 2) := by decide +kernel
theorem d_Utf8_isRight_87 : decode b_Utf8_isRight 87 = .ok (.iload 7, 2) := by decide +kernel
theorem d_Utf8_isRight_89 : decode b_Utf8_isRight 89 = .ok (.iload 4, 2) := by decide +kernel
theorem d_Utf8_isRight_91 : decode b_Utf8_isRight 91 = .ok (.if_icmp .lt 10, 3) := by decide +kernel
theorem d_Utf8_isRight_94 : decode b_Utf8_isRight 94 = .ok (.iload 7, 2) := by decide +kernel
theorem d_Utf8_isRight_96 : decode b_Utf8_isRight 96 = .ok (.iload 5, 2) := by decide +kernel
theorem d_Utf8_isRight_98 : decode b_Utf8_isRight 98 = .ok (.if_icmp .le 5, 3) := by decide +kernel
theorem d_Utf8_isRight_101 : decode b_Utf8_isRight 101 = .ok (.iconst 0, 1) := by decide +kernel
theorem d_Utf8_isRight_102 : decode b_Utf8_isRight 102 = .ok (.ireturn, 1) := by decide +kernel
theorem d_Utf8_isRight_103 : decode b_Utf8_isRight 103 = .ok (.sipush 128, 3) := by decide +kernel
theorem d_Utf8_isRight_106 : decode b_Utf8_isRight 106 = .ok (.istore 4, 2) := by decide +kernel
theorem d_Utf8_isRight_108 : decode b_Utf8_isRight 108 = .ok (.sipush 191, 3) := by decide +kernel
theorem d_Utf8_isRight_111 : decode b_Utf8_isRight 111 = .ok (.istore 5, 2) := by decide +kernel
theorem d_Utf8_isRight_113 : decode b_Utf8_isRight 113 = .ok (.iinc 6 1, 3) := by decide +kernel
theorem d_Utf8_isRight_116 : decode b_Utf8_isRight 116 = .ok (.goto (-45), 3) := by decide +kernel
theorem d_Utf8_isRight_119 : decode b_Utf8_isRight 119 = .ok (.iconst 1, 1) := by decide +kernel
theorem d_Utf8_isRight_120 : decode b_Utf8_isRight 120 = .ok (.ireturn, 1) := by decide +kernel
theorem d_Nodes_init_0 : decode b_Nodes_init 0 = .ok (.aload_n 0, 1) := by decide +kernel
theorem d_Nodes_init_1 : decode b_Nodes_init 1 = .ok (.invokespecial 3, 3) := by decide +kernel
theorem d_Nodes_init_4 : decode b_Nodes_init 4 = .ok (.aload_n 0, 1) := by decide +kernel
theorem d_Nodes_init_5 : decode b_Nodes_init 5 = .ok (.sipush 700, 3) := by decide +kernel
theorem d_Nodes_init_8 : decode b_Nodes_init 8 = .ok (.newarray .int, 2) := by decide +kernel
theorem d_Nodes_init_10 : decode b_Nodes_init 10 = .ok (.putfield 9, 3) := by decide +kernel
theorem d_Nodes_init_13 : decode b_Nodes_init 13 = .ok (.aload_n 0, 1) := by decide +kernel
theorem d_Nodes_init_14 : decode b_Nodes_init 14 = .ok (.sipush 700, 3) := by decide +kernel
theorem d_Nodes_init_17 : decode b_Nodes_init 17 = .ok (.newarray .int, 2) := by decide +kernel
theorem d_Nodes_init_19 : decode b_Nodes_init 19 = .ok (.putfield 15, 3) := by decide +kernel
theorem d_Nodes_init_22 : decode b_Nodes_init 22 = .ok (.aload_n 0, 1) := by decide +kernel
theorem d_Nodes_init_23 : decode b_Nodes_init 23 = .ok (.sipush 700, 3) := by decide +kernel
theorem d_Nodes_init_26 : decode b_Nodes_init 26 = .ok (.newarray .int, 2) := by decide +kernel
theorem d_Nodes_init_28 : decode b_Nodes_init 28 = .ok (.putfield 18, 3) := by decide +kernel
theorem d_Nodes_init_31 : decode b_Nodes_init 31 = .ok (.aload_n 0, 1) := by decide +kernel
theorem d_Nodes_init_32 : decode b_Nodes_init 32 = .ok (.sipush 700, 3) := by decide +kernel
theorem d_Nodes_init_35 : decode b_Nodes_init 35 = .ok (.newarray .int, 2) := by decide +kernel
theorem d_Nodes_init_37 : decode b_Nodes_init 37 = .ok (.putfield 21, 3) := by decide +kernel
theorem d_Nodes_init_40 : decode b_Nodes_init 40 = .ok (.aload_n 0, 1) := by decide +kernel
theorem d_Nodes_init_41 : decode b_Nodes_init 41 = .ok (.sipush 700, 3) := by decide +kernel
theorem d_Nodes_init_44 : decode b_Nodes_init 44 = .ok (.newarray .int, 2) := by decide +kernel
theorem d_Nodes_init_46 : decode b_Nodes_init 46 = .ok (.putfield 24, 3) := by decide +kernel
theorem d_Nodes_init_49 : decode b_Nodes_init 49 = .ok (.aload_n 0, 1) := by decide +kernel
theorem d_Nodes_init_50 : decode b_Nodes_init 50 = .ok (.sipush 700, 3) := by decide +kernel
theorem d_Nodes_init_53 : decode b_Nodes_init 53 = .ok (.newarray .int, 2) := by decide +kernel
theorem d_Nodes_init_55 : decode b_Nodes_init 55 = .ok (.putfield 27, 3) := by decide +kernel
theorem d_Nodes_init_58 : decode b_Nodes_init 58 = .ok (.aload_n 0, 1) := by decide +kernel
theorem d_Nodes_init_59 : decode b_Nodes_init 59 = .ok (.sipush 700, 3) := by decide +kernel
theorem d_Nodes_init_62 : decode b_Nodes_init 62 = .ok (.newarray .int, 2) := by decide +kernel
theorem d_Nodes_init_64 : decode b_Nodes_init 64 = .ok (.putfield 30, 3) := by decide +kernel
theorem d_Nodes_init_67 : decode b_Nodes_init 67 = .ok (.aload_n 0, 1) := by decide +kernel
theorem d_Nodes_init_68 : decode b_Nodes_init 68 = .ok (.aload_n 1, 1) := by decide +kernel
theorem d_Nodes_init_69 : decode b_Nodes_init 69 = .ok (.putfield 33, 3) := by decide +kernel
theorem d_Nodes_init_72 : decode b_Nodes_init 72 = .ok (.aload_n 0, 1) := by decide +kernel
theorem d_Nodes_init_73 : decode b_Nodes_init 73 = .ok (.iconst 0, 1) := by decide +kernel
theorem d_Nodes_init_74 : decode b_Nodes_init 74 = .ok (.putfield 37, 3) := by decide +kernel
theorem d_Nodes_init_77 : decode b_Nodes_init 77 = .ok (.return_, 1) := by decide +kernel
theorem d_Nodes_begin_0 : decode b_Nodes_begin 0 = .ok (.aload_n 0, 1) := by decide +kernel
theorem d_Nodes_begin_1 : decode b_Nodes_begin 1 = .ok (.aload_n 1, 1) := by decide +kernel
theorem d_Nodes_begin_2 : decode b_Nodes_begin 2 = .ok (.putfield 33, 3) := by decide +kernel
theorem d_Nodes_begin_5 : decode b_Nodes_begin 5 = .ok (.aload_n 0, 1) := by decide +kernel
theorem d_Nodes_begin_6 : decode b_Nodes_begin 6 = .ok (.iconst 0, 1) := by decide +kernel
theorem d_Nodes_begin_7 : decode b_Nodes_begin 7 = .ok (.putfield 37, 3) := by decide +kernel
theorem d_Nodes_begin_10 : decode b_Nodes_begin 10 = .ok (.return_, 1) := by decide +kernel
theorem d_Nodes_append_0 : decode b_Nodes_append 0 = .ok (.aload_n 0, 1) := by decide +kernel
theorem d_Nodes_append_1 : decode b_Nodes_append 1 = .ok (.getfield 37, 3) := by decide +kernel
theorem d_Nodes_append_4 : decode b_Nodes_append 4 = .ok (.sipush 700, 3) := by decide +kernel
theorem d_Nodes_append_7 : decode b_Nodes_append 7 = .ok (.if_icmp .lt 5, 3) := by decide +kernel
theorem d_Nodes_append_10 : decode b_Nodes_append 10 = .ok (.iconst (-1), 1) := by decide +kernel
theorem d_Nodes_append_11 : decode b_Nodes_append 11 = .ok (.ireturn, 1) := by decide +kernel
theorem d_Nodes_append_12 : decode b_Nodes_append 12 = .ok (.aload_n 0, 1) := by decide +kernel
theorem d_Nodes_append_13 : decode b_Nodes_append 13 = .ok (.getfield 37, 3) := by decide +kernel
theorem d_Nodes_append_16 : decode b_Nodes_append 16 = .ok (.istore 6, 2) := by decide +kernel
theorem d_Nodes_append_18 : decode b_Nodes_append 18 = .ok (.aload_n 0, 1) := by decide +kernel
theorem d_Nodes_append_19 : decode b_Nodes_append 19 = .ok (.dup, 1) := by decide +kernel
theorem d_Nodes_append_20 : decode b_Nodes_append 20 = .ok (.getfield 37, 3) := by decide +kernel
theorem d_Nodes_append_23 : decode b_Nodes_append 23 = .ok (.iconst 1, 1) := by decide +kernel
theorem d_Nodes_append_24 : decode b_Nodes_append 24 = .ok (.iadd, 1) := by decide +kernel
theorem d_Nodes_append_25 : decode b_Nodes_append 25 = .ok (.putfield 37, 3) := by decide +kernel
theorem d_Nodes_append_28 : decode b_Nodes_append 28 = .ok (.aload_n 0, 1) := by decide +kernel
theorem d_Nodes_append_29 : decode b_Nodes_append 29 = .ok (.getfield 9, 3) := by decide +kernel
theorem d_Nodes_append_32 : decode b_Nodes_append 32 = .ok (.iload 6, 2) := by decide +kernel
theorem d_Nodes_append_34 : decode b_Nodes_append 34 = .ok (.iload_n 1, 1) := by decide +kernel
theorem d_Nodes_append_35 : decode b_Nodes_append 35 = .ok (.iastore, 1) := by decide +kernel
theorem d_Nodes_append_36 : decode b_Nodes_append 36 = .ok (.aload_n 0, 1) := by decide +kernel
theorem d_Nodes_append_37 : decode b_Nodes_append 37 = .ok (.getfield 15, 3) := by decide +kernel
theorem d_Nodes_append_40 : decode b_Nodes_append 40 = .ok (.iload 6, 2) := by decide +kernel
theorem d_Nodes_append_42 : decode b_Nodes_append 42 = .ok (.iload_n 2, 1) := by decide +kernel
theorem d_Nodes_append_43 : decode b_Nodes_append 43 = .ok (.iastore, 1) := by decide +kernel
theorem d_Nodes_append_44 : decode b_Nodes_append 44 = .ok (.aload_n 0, 1) := by decide +kernel
theorem d_Nodes_append_45 : decode b_Nodes_append 45 = .ok (.getfield 18, 3) := by decide +kernel
theorem d_Nodes_append_48 : decode b_Nodes_append 48 = .ok (.iload 6, 2) := by decide +kernel
theorem d_Nodes_append_50 : decode b_Nodes_append 50 = .ok (.iload_n 1, 1) := by decide +kernel
theorem d_Nodes_append_51 : decode b_Nodes_append 51 = .ok (.invokestatic 41, 3) := by decide +kernel
theorem d_Nodes_append_54 : decode b_Nodes_append 54 = .ok (.ifCond .eq 7, 3) := by decide +kernel
theorem d_Nodes_append_57 : decode b_Nodes_append 57 = .ok (.iconst 1, 1) := by decide +kernel
theorem d_Nodes_append_58 : decode b_Nodes_append 58 = .ok (.goto 4, 3) := by decide +kernel
theorem d_Nodes_append_61 : decode b_Nodes_append 61 = .ok (.iconst 0, 1) := by decide +kernel
theorem d_Nodes_append_62 : decode b_Nodes_append 62 = .ok (.iastore, 1) := by decide +kernel
theorem d_Nodes_append_63 : decode b_Nodes_append 63 = .ok (.aload_n 0, 1) := by decide +kernel
theorem d_Nodes_append_64 : decode b_Nodes_append 64 = .ok (.getfield 21, 3) := by decide +kernel
theorem d_Nodes_append_67 : decode b_Nodes_append 67 = .ok (.iload 6, 2) := by decide +kernel
theorem d_Nodes_append_69 : decode b_Nodes_append 69 = .ok (.iload_n 3, 1) := by decide +kernel
theorem d_Nodes_append_70 : decode b_Nodes_append 70 = .ok (.iastore, 1) := by decide +kernel
theorem d_Nodes_append_71 : decode b_Nodes_append 71 = .ok (.aload_n 0, 1) := by decide +kernel
theorem d_Nodes_append_72 : decode b_Nodes_append 72 = .ok (.getfield 24, 3) := by decide +kernel
theorem d_Nodes_append_75 : decode b_Nodes_append 75 = .ok (.iload 6, 2) := by decide +kernel
theorem d_Nodes_append_77 : decode b_Nodes_append 77 = .ok (.iload 4, 2) := by decide +kernel
theorem d_Nodes_append_79 : decode b_Nodes_append 79 = .ok (.iastore, 1) := by decide +kernel
theorem d_Nodes_append_80 : decode b_Nodes_append 80 = .ok (.aload_n 0, 1) := by decide +kernel
theorem d_Nodes_append_81 : decode b_Nodes_append 81 = .ok (.getfield 27, 3) := by decide +kernel
theorem d_Nodes_append_84 : decode b_Nodes_append 84 = .ok (.iload 6, 2) := by decide +kernel
theorem d_Nodes_append_86 : decode b_Nodes_append 86 = .ok (.iload 5, 2) := by decide +kernel
theorem d_Nodes_append_88 : decode b_Nodes_append 88 = .ok (.iastore, 1) := by decide +kernel
theorem d_Nodes_append_89 : decode b_Nodes_append 89 = .ok (.aload_n 0, 1) := by decide +kernel
theorem d_Nodes_append_90 : decode b_Nodes_append 90 = .ok (.getfield 30, 3) := by decide +kernel
theorem d_Nodes_append_93 : decode b_Nodes_append 93 = .ok (.iload 6, 2) := by decide +kernel
theorem d_Nodes_append_95 : decode b_Nodes_append 95 = .ok (.iconst 0, 1) := by decide +kernel
theorem d_Nodes_append_96 : decode b_Nodes_append 96 = .ok (.iastore, 1) := by decide +kernel
theorem d_Nodes_append_97 : decode b_Nodes_append 97 = .ok (.iload_n 2, 1) := by decide +kernel
theorem d_Nodes_append_98 : decode b_Nodes_append 98 = .ok (.ifCond .lt 35, 3) := by decide +kernel
theorem d_Nodes_append_101 : decode b_Nodes_append 101 = .ok (.iload_n 2, 1) := by decide +kernel
theorem d_Nodes_append_102 : decode b_Nodes_append 102 = .ok (.iload 6, 2) := by decide +kernel
theorem d_Nodes_append_104 : decode b_Nodes_append 104 = .ok (.if_icmp .ge 29, 3) := by decide +kernel
theorem d_Nodes_append_107 : decode b_Nodes_append 107 = .ok (.aload_n 0, 1) := by decide +kernel
theorem d_Nodes_append_108 : decode b_Nodes_append 108 = .ok (.getfield 18, 3) := by decide +kernel
theorem d_Nodes_append_111 : decode b_Nodes_append 111 = .ok (.iload 6, 2) := by decide +kernel
theorem d_Nodes_append_113 : decode b_Nodes_append 113 = .ok (.dup2, 1) := by decide +kernel
theorem d_Nodes_append_114 : decode b_Nodes_append 114 = .ok (.iaload, 1) := by decide +kernel
theorem d_Nodes_append_115 : decode b_Nodes_append 115 = .ok (.aload_n 0, 1) := by decide +kernel
theorem d_Nodes_append_116 : decode b_Nodes_append 116 = .ok (.getfield 18, 3) := by decide +kernel
theorem d_Nodes_append_119 : decode b_Nodes_append 119 = .ok (.iload_n 2, 1) := by decide +kernel
theorem d_Nodes_append_120 : decode b_Nodes_append 120 = .ok (.iaload, 1) := by decide +kernel
theorem d_Nodes_append_121 : decode b_Nodes_append 121 = .ok (.iadd, 1) := by decide +kernel
theorem d_Nodes_append_122 : decode b_Nodes_append 122 = .ok (.iastore, 1) := by decide +kernel
theorem d_Nodes_append_123 : decode b_Nodes_append 123 = .ok (.aload_n 0, 1) := by decide +kernel
theorem d_Nodes_append_124 : decode b_Nodes_append 124 = .ok (.getfield 30, 3) := by decide +kernel
theorem d_Nodes_append_127 : decode b_Nodes_append 127 = .ok (.iload_n 2, 1) := by decide +kernel
theorem d_Nodes_append_128 : decode b_Nodes_append 128 = .ok (.dup2, 1) := by decide +kernel
theorem d_Nodes_append_129 : decode b_Nodes_append 129 = .ok (.iaload, 1) := by decide +kernel
theorem d_Nodes_append_130 : decode b_Nodes_append 130 = .ok (.iconst 1, 1) := by decide +kernel
theorem d_Nodes_append_131 : decode b_Nodes_append 131 = .ok (.iadd, 1) := by decide +kernel
theorem d_Nodes_append_132 : decode b_Nodes_append 132 = .ok (.iastore, 1) := by decide +kernel
theorem d_Nodes_append_133 : decode b_Nodes_append 133 = .ok (.iload 6, 2) := by decide +kernel
theorem d_Nodes_append_135 : decode b_Nodes_append 135 = .ok (.ireturn, 1) := by decide +kernel
theorem d_Nodes_scan_0 : decode b_Nodes_scan 0 = .ok (.aload_n 0, 1) := by decide +kernel
theorem d_Nodes_scan_1 : decode b_Nodes_scan 1 = .ok (.aload_n 1, 1) := by decide +kernel
theorem d_Nodes_scan_2 : decode b_Nodes_scan 2 = .ok (.invokevirtual 47, 3) := by decide +kernel
theorem d_Nodes_scan_5 : decode b_Nodes_scan 5 = .ok (.aload_n 0, 1) := by decide +kernel
theorem d_Nodes_scan_6 : decode b_Nodes_scan 6 = .ok (.iconst 3, 1) := by decide +kernel
theorem d_Nodes_scan_7 : decode b_Nodes_scan 7 = .ok (.iconst (-1), 1) := by decide +kernel
theorem d_Nodes_scan_8 : decode b_Nodes_scan 8 = .ok (.iconst (-1), 1) := by decide +kernel
theorem d_Nodes_scan_9 : decode b_Nodes_scan 9 = .ok (.iconst 0, 1) := by decide +kernel
theorem d_Nodes_scan_10 : decode b_Nodes_scan 10 = .ok (.aload_n 1, 1) := by decide +kernel
theorem d_Nodes_scan_11 : decode b_Nodes_scan 11 = .ok (.invokevirtual 51, 3) := by decide +kernel
theorem d_Nodes_scan_14 : decode b_Nodes_scan 14 = .ok (.invokevirtual 57, 3) := by decide +kernel
theorem d_Nodes_scan_17 : decode b_Nodes_scan 17 = .ok (.istore_n 2, 1) := by decide +kernel
theorem d_Nodes_scan_18 : decode b_Nodes_scan 18 = .ok (.iconst 4, 1) := by decide +kernel
theorem d_Nodes_scan_19 : decode b_Nodes_scan 19 = .ok (.istore_n 3, 1) := by decide +kernel
theorem d_Nodes_scan_20 : decode b_Nodes_scan 20 = .ok (.iconst 0, 1) := by decide +kernel
theorem d_Nodes_scan_21 : decode b_Nodes_scan 21 = .ok (.istore 4, 2) := by decide +kernel
theorem d_Nodes_scan_23 : decode b_Nodes_scan 23 = .ok (.iload 4, 2) := by decide +kernel
theorem d_Nodes_scan_25 : decode b_Nodes_scan 25 = .ok (.sipush 2000, 3) := by decide +kernel
theorem d_Nodes_scan_28 : decode b_Nodes_scan 28 = .ok (.if_icmp .ge 116, 3) := by decide +kernel
theorem d_Nodes_scan_31 : decode b_Nodes_scan 31 = .ok (.iload_n 2, 1) := by decide +kernel
theorem d_Nodes_scan_32 : decode b_Nodes_scan 32 = .ok (.ifCond .lt 112, 3) := by decide +kernel
theorem d_Nodes_scan_35 : decode b_Nodes_scan 35 = .ok (.iload_n 3, 1) := by decide +kernel
theorem d_Nodes_scan_36 : decode b_Nodes_scan 36 = .ok (.aload_n 0, 1) := by decide +kernel
theorem d_Nodes_scan_37 : decode b_Nodes_scan 37 = .ok (.iload_n 2, 1) := by decide +kernel
theorem d_Nodes_scan_38 : decode b_Nodes_scan 38 = .ok (.invokevirtual 61, 3) := by decide +kernel
theorem d_Nodes_scan_41 : decode b_Nodes_scan 41 = .ok (.if_icmp .lt 15, 3) := by decide +kernel
theorem d_Nodes_scan_44 : decode b_Nodes_scan 44 = .ok (.iinc 3 1, 3) := by decide +kernel
theorem d_Nodes_scan_47 : decode b_Nodes_scan 47 = .ok (.aload_n 0, 1) := by decide +kernel
theorem d_Nodes_scan_48 : decode b_Nodes_scan 48 = .ok (.iload_n 2, 1) := by decide +kernel
theorem d_Nodes_scan_49 : decode b_Nodes_scan 49 = .ok (.invokevirtual 65, 3) := by decide +kernel
theorem d_Nodes_scan_52 : decode b_Nodes_scan 52 = .ok (.istore_n 2, 1) := by decide +kernel
theorem d_Nodes_scan_53 : decode b_Nodes_scan 53 = .ok (.goto 85, 3) := by decide +kernel
theorem d_Nodes_scan_56 : decode b_Nodes_scan 56 = .ok (.aload_n 1, 1) := by decide +kernel
theorem d_Nodes_scan_57 : decode b_Nodes_scan 57 = .ok (.iload_n 3, 1) := by decide +kernel
theorem d_Nodes_scan_58 : decode b_Nodes_scan 58 = .ok (.invokevirtual 68, 3) := by decide +kernel
theorem d_Nodes_scan_61 : decode b_Nodes_scan 61 = .ok (.istore 5, 2) := by decide +kernel
theorem d_Nodes_scan_63 : decode b_Nodes_scan 63 = .ok (.aload_n 1, 1) := by decide +kernel
theorem d_Nodes_scan_64 : decode b_Nodes_scan 64 = .ok (.iload_n 3, 1) := by decide +kernel
theorem d_Nodes_scan_65 : decode b_Nodes_scan 65 = .ok (.iconst 1, 1) := by decide +kernel
theorem d_Nodes_scan_66 : decode b_Nodes_scan 66 = .ok (.iadd, 1) := by decide +kernel
theorem d_Nodes_scan_67 : decode b_Nodes_scan 67 = .ok (.aload_n 1, 1) := by decide +kernel
theorem d_Nodes_scan_68 : decode b_Nodes_scan 68 = .ok (.invokevirtual 51, 3) := by decide +kernel
theorem d_Nodes_scan_71 : decode b_Nodes_scan 71 = .ok (.invokevirtual 71, 3) := by decide +kernel
theorem d_Nodes_scan_74 : decode b_Nodes_scan 74 = .ok (.iconst 1, 1) := by decide +kernel
theorem d_Nodes_scan_75 : decode b_Nodes_scan 75 = .ok (.iadd, 1) := by decide +kernel
theorem d_Nodes_scan_76 : decode b_Nodes_scan 76 = .ok (.istore 6, 2) := by decide +kernel
theorem d_Nodes_scan_78 : decode b_Nodes_scan 78 = .ok (.iload 5, 2) := by decide +kernel
theorem d_Nodes_scan_80 : decode b_Nodes_scan 80 = .ok (.aload_n 1, 1) := by decide +kernel
theorem d_Nodes_scan_81 : decode b_Nodes_scan 81 = .ok (.iload 6, 2) := by decide +kernel
theorem d_Nodes_scan_83 : decode b_Nodes_scan 83 = .ok (.invokestatic 75, 3) := by decide +kernel
theorem d_Nodes_scan_86 : decode b_Nodes_scan 86 = .ok (.istore 7, 2) := by decide +kernel
theorem d_Nodes_scan_88 : decode b_Nodes_scan 88 = .ok (.aload_n 0, 1) := by decide +kernel
theorem d_Nodes_scan_89 : decode b_Nodes_scan 89 = .ok (.iload 5, 2) := by decide +kernel
theorem d_Nodes_scan_91 : decode b_Nodes_scan 91 = .ok (.iload_n 2, 1) := by decide +kernel
theorem d_Nodes_scan_92 : decode b_Nodes_scan 92 = .ok (.iload_n 3, 1) := by decide +kernel
theorem d_Nodes_scan_93 : decode b_Nodes_scan 93 = .ok (.iconst 1, 1) := by decide +kernel
theorem d_Nodes_scan_94 : decode b_Nodes_scan 94 = .ok (.iadd, 1) := by decide +kernel
theorem d_Nodes_scan_95 : decode b_Nodes_scan 95 = .ok (.iload 6, 2) := by decide +kernel
theorem d_Nodes_scan_97 : decode b_Nodes_scan 97 = .ok (.iload 7, 2) := by decide +kernel
theorem d_Nodes_scan_99 : decode b_Nodes_scan 99 = .ok (.invokevirtual 57, 3) := by decide +kernel
theorem d_Nodes_scan_102 : decode b_Nodes_scan 102 = .ok (.istore 8, 2) := by decide +kernel
theorem d_Nodes_scan_104 : decode b_Nodes_scan 104 = .ok (.iload 5, 2) := by decide +kernel
theorem d_Nodes_scan_106 : decode b_Nodes_scan 106 = .ok (.invokestatic 41, 3) := by decide +kernel
theorem d_Nodes_scan_109 : decode b_Nodes_scan 109 = .ok (.istore 9, 2) := by decide +kernel
theorem d_Nodes_scan_111 : decode b_Nodes_scan 111 = .ok (.iload 6, 2) := by decide +kernel
theorem d_Nodes_scan_113 : decode b_Nodes_scan 113 = .ok (.iload 9, 2) := by decide +kernel
theorem d_Nodes_scan_115 : decode b_Nodes_scan 115 = .ok (.ifCond .eq 7, 3) := by decide +kernel
theorem d_Nodes_scan_118 : decode b_Nodes_scan 118 = .ok (.iconst 4, 1) := by decide +kernel
theorem d_Nodes_scan_119 : decode b_Nodes_scan 119 = .ok (.goto 5, 3) := by decide +kernel
theorem d_Nodes_scan_122 : decode b_Nodes_scan 122 = .ok (.iload 7, 2) := by decide +kernel
theorem d_Nodes_scan_124 : decode b_Nodes_scan 124 = .ok (.iadd, 1) := by decide +kernel
theorem d_Nodes_scan_125 : decode b_Nodes_scan 125 = .ok (.istore_n 3, 1) := by decide +kernel
theorem d_Nodes_scan_126 : decode b_Nodes_scan 126 = .ok (.iload 9, 2) := by decide +kernel
theorem d_Nodes_scan_128 : decode b_Nodes_scan 128 = .ok (.ifCond .eq 8, 3) := by decide +kernel
theorem d_Nodes_scan_131 : decode b_Nodes_scan 131 = .ok (.iload 8, 2) := by decide +kernel
theorem d_Nodes_scan_133 : decode b_Nodes_scan 133 = .ok (.goto 4, 3) := by decide +kernel
theorem d_Nodes_scan_136 : decode b_Nodes_scan 136 = .ok (.iload_n 2, 1) := by decide +kernel
theorem d_Nodes_scan_137 : decode b_Nodes_scan 137 = .ok (.istore_n 2, 1) := by decide +kernel
theorem d_Nodes_scan_138 : decode b_Nodes_scan 138 = .ok (.iinc 4 1, 3) := by decide +kernel
theorem d_Nodes_scan_141 : decode b_Nodes_scan 141 = .ok (.goto (-118), 3) := by decide +kernel
theorem d_Nodes_scan_144 : decode b_Nodes_scan 144 = .ok (.return_, 1) := by decide +kernel
theorem d_Nodes_count_0 : decode b_Nodes_count 0 = .ok (.aload_n 0, 1) := by decide +kernel
theorem d_Nodes_count_1 : decode b_Nodes_count 1 = .ok (.getfield 37, 3) := by decide +kernel
theorem d_Nodes_count_4 : decode b_Nodes_count 4 = .ok (.ireturn, 1) := by decide +kernel
theorem d_Nodes_cell_0 : decode b_Nodes_cell 0 = .ok (.iload_n 2, 1) := by decide +kernel
theorem d_Nodes_cell_1 : decode b_Nodes_cell 1 = .ok (.ifCond .lt 23, 3) := by decide +kernel
theorem d_Nodes_cell_4 : decode b_Nodes_cell 4 = .ok (.iload_n 2, 1) := by decide +kernel
theorem d_Nodes_cell_5 : decode b_Nodes_cell 5 = .ok (.aload_n 0, 1) := by decide +kernel
theorem d_Nodes_cell_6 : decode b_Nodes_cell 6 = .ok (.getfield 37, 3) := by decide +kernel
theorem d_Nodes_cell_9 : decode b_Nodes_cell 9 = .ok (.if_icmp .ge 15, 3) := by decide +kernel
theorem d_Nodes_cell_12 : decode b_Nodes_cell 12 = .ok (.iload_n 2, 1) := by decide +kernel
theorem d_Nodes_cell_13 : decode b_Nodes_cell 13 = .ok (.aload_n 1, 1) := by decide +kernel
theorem d_Nodes_cell_14 : decode b_Nodes_cell 14 = .ok (.arraylength, 1) := by decide +kernel
theorem d_Nodes_cell_15 : decode b_Nodes_cell 15 = .ok (.if_icmp .ge 9, 3) := by decide +kernel
theorem d_Nodes_cell_18 : decode b_Nodes_cell 18 = .ok (.aload_n 1, 1) := by decide +kernel
theorem d_Nodes_cell_19 : decode b_Nodes_cell 19 = .ok (.iload_n 2, 1) := by decide +kernel
theorem d_Nodes_cell_20 : decode b_Nodes_cell 20 = .ok (.iaload, 1) := by decide +kernel
theorem d_Nodes_cell_21 : decode b_Nodes_cell 21 = .ok (.goto 4, 3) := by decide +kernel
theorem d_Nodes_cell_24 : decode b_Nodes_cell 24 = .ok (.iconst (-1), 1) := by decide +kernel
theorem d_Nodes_cell_25 : decode b_Nodes_cell 25 = .ok (.ireturn, 1) := by decide +kernel
theorem d_Nodes_kind_0 : decode b_Nodes_kind 0 = .ok (.aload_n 0, 1) := by decide +kernel
theorem d_Nodes_kind_1 : decode b_Nodes_kind 1 = .ok (.aload_n 0, 1) := by decide +kernel
theorem d_Nodes_kind_2 : decode b_Nodes_kind 2 = .ok (.getfield 9, 3) := by decide +kernel
theorem d_Nodes_kind_5 : decode b_Nodes_kind 5 = .ok (.iload_n 1, 1) := by decide +kernel
theorem d_Nodes_kind_6 : decode b_Nodes_kind 6 = .ok (.invokevirtual 79, 3) := by decide +kernel
theorem d_Nodes_kind_9 : decode b_Nodes_kind 9 = .ok (.ireturn, 1) := by decide +kernel
theorem d_Nodes_parent_0 : decode b_Nodes_parent 0 = .ok (.aload_n 0, 1) := by decide +kernel
theorem d_Nodes_parent_1 : decode b_Nodes_parent 1 = .ok (.aload_n 0, 1) := by decide +kernel
theorem d_Nodes_parent_2 : decode b_Nodes_parent 2 = .ok (.getfield 15, 3) := by decide +kernel
theorem d_Nodes_parent_5 : decode b_Nodes_parent 5 = .ok (.iload_n 1, 1) := by decide +kernel
theorem d_Nodes_parent_6 : decode b_Nodes_parent 6 = .ok (.invokevirtual 79, 3) := by decide +kernel
theorem d_Nodes_parent_9 : decode b_Nodes_parent 9 = .ok (.ireturn, 1) := by decide +kernel
theorem d_Nodes_depth_0 : decode b_Nodes_depth 0 = .ok (.aload_n 0, 1) := by decide +kernel
theorem d_Nodes_depth_1 : decode b_Nodes_depth 1 = .ok (.aload_n 0, 1) := by decide +kernel
theorem d_Nodes_depth_2 : decode b_Nodes_depth 2 = .ok (.getfield 18, 3) := by decide +kernel
theorem d_Nodes_depth_5 : decode b_Nodes_depth 5 = .ok (.iload_n 1, 1) := by decide +kernel
theorem d_Nodes_depth_6 : decode b_Nodes_depth 6 = .ok (.invokevirtual 79, 3) := by decide +kernel
theorem d_Nodes_depth_9 : decode b_Nodes_depth 9 = .ok (.ireturn, 1) := by decide +kernel
theorem d_Nodes_name_0 : decode b_Nodes_name 0 = .ok (.aload_n 0, 1) := by decide +kernel
theorem d_Nodes_name_1 : decode b_Nodes_name 1 = .ok (.aload_n 0, 1) := by decide +kernel
theorem d_Nodes_name_2 : decode b_Nodes_name 2 = .ok (.getfield 21, 3) := by decide +kernel
theorem d_Nodes_name_5 : decode b_Nodes_name 5 = .ok (.iload_n 1, 1) := by decide +kernel
theorem d_Nodes_name_6 : decode b_Nodes_name 6 = .ok (.invokevirtual 79, 3) := by decide +kernel
theorem d_Nodes_name_9 : decode b_Nodes_name 9 = .ok (.ireturn, 1) := by decide +kernel
theorem d_Nodes_nameLength_0 : decode b_Nodes_nameLength 0 = .ok (.aload_n 0, 1) := by decide +kernel
theorem d_Nodes_nameLength_1 : decode b_Nodes_nameLength 1 = .ok (.aload_n 0, 1) := by decide +kernel
theorem d_Nodes_nameLength_2 : decode b_Nodes_nameLength 2 = .ok (.getfield 24, 3) := by decide +kernel
theorem d_Nodes_nameLength_5 : decode b_Nodes_nameLength 5 = .ok (.iload_n 1, 1) := by decide +kernel
theorem d_Nodes_nameLength_6 : decode b_Nodes_nameLength 6 = .ok (.invokevirtual 79, 3) := by decide +kernel
theorem d_Nodes_nameLength_9 : decode b_Nodes_nameLength 9 = .ok (.iconst 1, 1) := by decide +kernel
theorem d_Nodes_nameLength_10 : decode b_Nodes_nameLength 10 = .ok (.isub, 1) := by decide +kernel
theorem d_Nodes_nameLength_11 : decode b_Nodes_nameLength 11 = .ok (.aload_n 0, 1) := by decide +kernel
theorem d_Nodes_nameLength_12 : decode b_Nodes_nameLength 12 = .ok (.aload_n 0, 1) := by decide +kernel
theorem d_Nodes_nameLength_13 : decode b_Nodes_nameLength 13 = .ok (.getfield 21, 3) := by decide +kernel
theorem d_Nodes_nameLength_16 : decode b_Nodes_nameLength 16 = .ok (.iload_n 1, 1) := by decide +kernel
theorem d_Nodes_nameLength_17 : decode b_Nodes_nameLength 17 = .ok (.invokevirtual 79, 3) := by decide +kernel
theorem d_Nodes_nameLength_20 : decode b_Nodes_nameLength 20 = .ok (.isub, 1) := by decide +kernel
theorem d_Nodes_nameLength_21 : decode b_Nodes_nameLength 21 = .ok (.ireturn, 1) := by decide +kernel
theorem d_Nodes_value_0 : decode b_Nodes_value 0 = .ok (.aload_n 0, 1) := by decide +kernel
theorem d_Nodes_value_1 : decode b_Nodes_value 1 = .ok (.aload_n 0, 1) := by decide +kernel
theorem d_Nodes_value_2 : decode b_Nodes_value 2 = .ok (.getfield 24, 3) := by decide +kernel
theorem d_Nodes_value_5 : decode b_Nodes_value 5 = .ok (.iload_n 1, 1) := by decide +kernel
theorem d_Nodes_value_6 : decode b_Nodes_value 6 = .ok (.invokevirtual 79, 3) := by decide +kernel
theorem d_Nodes_value_9 : decode b_Nodes_value 9 = .ok (.ireturn, 1) := by decide +kernel
theorem d_Nodes_valueLength_0 : decode b_Nodes_valueLength 0 = .ok (.aload_n 0, 1) := by decide +kernel
theorem d_Nodes_valueLength_1 : decode b_Nodes_valueLength 1 = .ok (.aload_n 0, 1) := by decide +kernel
theorem d_Nodes_valueLength_2 : decode b_Nodes_valueLength 2 = .ok (.getfield 27, 3) := by decide +kernel
theorem d_Nodes_valueLength_5 : decode b_Nodes_valueLength 5 = .ok (.iload_n 1, 1) := by decide +kernel
theorem d_Nodes_valueLength_6 : decode b_Nodes_valueLength 6 = .ok (.invokevirtual 79, 3) := by decide +kernel
theorem d_Nodes_valueLength_9 : decode b_Nodes_valueLength 9 = .ok (.ireturn, 1) := by decide +kernel
theorem d_Nodes_textLength_0 : decode b_Nodes_textLength 0 = .ok (.aload_n 0, 1) := by decide +kernel
theorem d_Nodes_textLength_1 : decode b_Nodes_textLength 1 = .ok (.aload_n 0, 1) := by decide +kernel
theorem d_Nodes_textLength_2 : decode b_Nodes_textLength 2 = .ok (.getfield 9, 3) := by decide +kernel
theorem d_Nodes_textLength_5 : decode b_Nodes_textLength 5 = .ok (.iload_n 1, 1) := by decide +kernel
theorem d_Nodes_textLength_6 : decode b_Nodes_textLength 6 = .ok (.invokevirtual 79, 3) := by decide +kernel
theorem d_Nodes_textLength_9 : decode b_Nodes_textLength 9 = .ok (.iconst 2, 1) := by decide +kernel
theorem d_Nodes_textLength_10 : decode b_Nodes_textLength 10 = .ok (.if_icmp .ne 17, 3) := by decide +kernel
theorem d_Nodes_textLength_13 : decode b_Nodes_textLength 13 = .ok (.aload_n 0, 1) := by decide +kernel
theorem d_Nodes_textLength_14 : decode b_Nodes_textLength 14 = .ok (.aload_n 0, 1) := by decide +kernel
theorem d_Nodes_textLength_15 : decode b_Nodes_textLength 15 = .ok (.getfield 27, 3) := by decide +kernel
theorem d_Nodes_textLength_18 : decode b_Nodes_textLength 18 = .ok (.iload_n 1, 1) := by decide +kernel
theorem d_Nodes_textLength_19 : decode b_Nodes_textLength 19 = .ok (.invokevirtual 79, 3) := by decide +kernel
theorem d_Nodes_textLength_22 : decode b_Nodes_textLength 22 = .ok (.iconst 5, 1) := by decide +kernel
theorem d_Nodes_textLength_23 : decode b_Nodes_textLength 23 = .ok (.isub, 1) := by decide +kernel
theorem d_Nodes_textLength_24 : decode b_Nodes_textLength 24 = .ok (.goto 4, 3) := by decide +kernel
theorem d_Nodes_textLength_27 : decode b_Nodes_textLength 27 = .ok (.iconst 0, 1) := by decide +kernel
theorem d_Nodes_textLength_28 : decode b_Nodes_textLength 28 = .ok (.ireturn, 1) := by decide +kernel
theorem d_Nodes_elements_0 : decode b_Nodes_elements 0 = .ok (.aload_n 0, 1) := by decide +kernel
theorem d_Nodes_elements_1 : decode b_Nodes_elements 1 = .ok (.aload_n 0, 1) := by decide +kernel
theorem d_Nodes_elements_2 : decode b_Nodes_elements 2 = .ok (.getfield 30, 3) := by decide +kernel
theorem d_Nodes_elements_5 : decode b_Nodes_elements 5 = .ok (.iload_n 1, 1) := by decide +kernel
theorem d_Nodes_elements_6 : decode b_Nodes_elements 6 = .ok (.invokevirtual 79, 3) := by decide +kernel
theorem d_Nodes_elements_9 : decode b_Nodes_elements 9 = .ok (.ireturn, 1) := by decide +kernel
theorem d_Nodes_lastByte_0 : decode b_Nodes_lastByte 0 = .ok (.aload_n 0, 1) := by decide +kernel
theorem d_Nodes_lastByte_1 : decode b_Nodes_lastByte 1 = .ok (.aload_n 0, 1) := by decide +kernel
theorem d_Nodes_lastByte_2 : decode b_Nodes_lastByte 2 = .ok (.getfield 24, 3) := by decide +kernel
theorem d_Nodes_lastByte_5 : decode b_Nodes_lastByte 5 = .ok (.iload_n 1, 1) := by decide +kernel
theorem d_Nodes_lastByte_6 : decode b_Nodes_lastByte 6 = .ok (.invokevirtual 79, 3) := by decide +kernel
theorem d_Nodes_lastByte_9 : decode b_Nodes_lastByte 9 = .ok (.aload_n 0, 1) := by decide +kernel
theorem d_Nodes_lastByte_10 : decode b_Nodes_lastByte 10 = .ok (.aload_n 0, 1) := by decide +kernel
theorem d_Nodes_lastByte_11 : decode b_Nodes_lastByte 11 = .ok (.getfield 27, 3) := by decide +kernel
theorem d_Nodes_lastByte_14 : decode b_Nodes_lastByte 14 = .ok (.iload_n 1, 1) := by decide +kernel
theorem d_Nodes_lastByte_15 : decode b_Nodes_lastByte 15 = .ok (.invokevirtual 79, 3) := by decide +kernel
theorem d_Nodes_lastByte_18 : decode b_Nodes_lastByte 18 = .ok (.iadd, 1) := by decide +kernel
theorem d_Nodes_lastByte_19 : decode b_Nodes_lastByte 19 = .ok (.iconst 1, 1) := by decide +kernel
theorem d_Nodes_lastByte_20 : decode b_Nodes_lastByte 20 = .ok (.isub, 1) := by decide +kernel
theorem d_Nodes_lastByte_21 : decode b_Nodes_lastByte 21 = .ok (.ireturn, 1) := by decide +kernel
theorem d_Nodes_behind_0 : decode b_Nodes_behind 0 = .ok (.iload_n 1, 1) := by decide +kernel
theorem d_Nodes_behind_1 : decode b_Nodes_behind 1 = .ok (.iconst 1, 1) := by decide +kernel
theorem d_Nodes_behind_2 : decode b_Nodes_behind 2 = .ok (.iadd, 1) := by decide +kernel
theorem d_Nodes_behind_3 : decode b_Nodes_behind 3 = .ok (.istore_n 2, 1) := by decide +kernel
theorem d_Nodes_behind_4 : decode b_Nodes_behind 4 = .ok (.iload_n 2, 1) := by decide +kernel
theorem d_Nodes_behind_5 : decode b_Nodes_behind 5 = .ok (.aload_n 0, 1) := by decide +kernel
theorem d_Nodes_behind_6 : decode b_Nodes_behind 6 = .ok (.getfield 37, 3) := by decide +kernel
theorem d_Nodes_behind_9 : decode b_Nodes_behind 9 = .ok (.if_icmp .ge 24, 3) := by decide +kernel
theorem d_Nodes_behind_12 : decode b_Nodes_behind 12 = .ok (.aload_n 0, 1) := by decide +kernel
theorem d_Nodes_behind_13 : decode b_Nodes_behind 13 = .ok (.aload_n 0, 1) := by decide +kernel
theorem d_Nodes_behind_14 : decode b_Nodes_behind 14 = .ok (.getfield 15, 3) := by decide +kernel
theorem d_Nodes_behind_17 : decode b_Nodes_behind 17 = .ok (.iload_n 2, 1) := by decide +kernel
theorem d_Nodes_behind_18 : decode b_Nodes_behind 18 = .ok (.invokevirtual 79, 3) := by decide +kernel
theorem d_Nodes_behind_21 : decode b_Nodes_behind 21 = .ok (.iload_n 1, 1) := by decide +kernel
theorem d_Nodes_behind_22 : decode b_Nodes_behind 22 = .ok (.if_icmp .ge 5, 3) := by decide +kernel
theorem d_Nodes_behind_25 : decode b_Nodes_behind 25 = .ok (.iload_n 2, 1) := by decide +kernel
theorem d_Nodes_behind_26 : decode b_Nodes_behind 26 = .ok (.ireturn, 1) := by decide +kernel
theorem d_Nodes_behind_27 : decode b_Nodes_behind 27 = .ok (.iinc 2 1, 3) := by decide +kernel
theorem d_Nodes_behind_30 : decode b_Nodes_behind 30 = .ok (.goto (-26), 3) := by decide +kernel
theorem d_Nodes_behind_33 : decode b_Nodes_behind 33 = .ok (.aload_n 0, 1) := by decide +kernel
theorem d_Nodes_behind_34 : decode b_Nodes_behind 34 = .ok (.getfield 37, 3) := by decide +kernel
theorem d_Nodes_behind_37 : decode b_Nodes_behind 37 = .ok (.ireturn, 1) := by decide +kernel
theorem d_Nodes_nextBeside_0 : decode b_Nodes_nextBeside 0 = .ok (.aload_n 0, 1) := by decide +kernel
theorem d_Nodes_nextBeside_1 : decode b_Nodes_nextBeside 1 = .ok (.iload_n 1, 1) := by decide +kernel
theorem d_Nodes_nextBeside_2 : decode b_Nodes_nextBeside 2 = .ok (.invokevirtual 83, 3) := by decide +kernel
theorem d_Nodes_nextBeside_5 : decode b_Nodes_nextBeside 5 = .ok (.istore_n 2, 1) := by decide +kernel
theorem d_Nodes_nextBeside_6 : decode b_Nodes_nextBeside 6 = .ok (.iload_n 2, 1) := by decide +kernel
theorem d_Nodes_nextBeside_7 : decode b_Nodes_nextBeside 7 = .ok (.aload_n 0, 1) := by decide +kernel
theorem d_Nodes_nextBeside_8 : decode b_Nodes_nextBeside 8 = .ok (.getfield 37, 3) := by decide +kernel
theorem d_Nodes_nextBeside_11 : decode b_Nodes_nextBeside 11 = .ok (.if_icmp .ge 20, 3) := by decide +kernel
theorem d_Nodes_nextBeside_14 : decode b_Nodes_nextBeside 14 = .ok (.aload_n 0, 1) := by decide +kernel
theorem d_Nodes_nextBeside_15 : decode b_Nodes_nextBeside 15 = .ok (.iload_n 2, 1) := by decide +kernel
theorem d_Nodes_nextBeside_16 : decode b_Nodes_nextBeside 16 = .ok (.invokevirtual 65, 3) := by decide +kernel
theorem d_Nodes_nextBeside_19 : decode b_Nodes_nextBeside 19 = .ok (.aload_n 0, 1) := by decide +kernel
theorem d_Nodes_nextBeside_20 : decode b_Nodes_nextBeside 20 = .ok (.iload_n 1, 1) := by decide +kernel
theorem d_Nodes_nextBeside_21 : decode b_Nodes_nextBeside 21 = .ok (.invokevirtual 65, 3) := by decide +kernel
theorem d_Nodes_nextBeside_24 : decode b_Nodes_nextBeside 24 = .ok (.if_icmp .ne 7, 3) := by decide +kernel
theorem d_Nodes_nextBeside_27 : decode b_Nodes_nextBeside 27 = .ok (.iload_n 2, 1) := by decide +kernel
theorem d_Nodes_nextBeside_28 : decode b_Nodes_nextBeside 28 = .ok (.goto 4, 3) := by decide +kernel
theorem d_Nodes_nextBeside_31 : decode b_Nodes_nextBeside 31 = .ok (.iconst (-1), 1) := by decide +kernel
theorem d_Nodes_nextBeside_32 : decode b_Nodes_nextBeside 32 = .ok (.ireturn, 1) := by decide +kernel
theorem d_Nodes_deepestIn_0 : decode b_Nodes_deepestIn 0 = .ok (.aload_n 0, 1) := by decide +kernel
theorem d_Nodes_deepestIn_1 : decode b_Nodes_deepestIn 1 = .ok (.iload_n 1, 1) := by decide +kernel
theorem d_Nodes_deepestIn_2 : decode b_Nodes_deepestIn 2 = .ok (.invokevirtual 86, 3) := by decide +kernel
theorem d_Nodes_deepestIn_5 : decode b_Nodes_deepestIn 5 = .ok (.istore_n 2, 1) := by decide +kernel
theorem d_Nodes_deepestIn_6 : decode b_Nodes_deepestIn 6 = .ok (.aload_n 0, 1) := by decide +kernel
theorem d_Nodes_deepestIn_7 : decode b_Nodes_deepestIn 7 = .ok (.iload_n 1, 1) := by decide +kernel
theorem d_Nodes_deepestIn_8 : decode b_Nodes_deepestIn 8 = .ok (.invokevirtual 83, 3) := by decide +kernel
theorem d_Nodes_deepestIn_11 : decode b_Nodes_deepestIn 11 = .ok (.istore_n 3, 1) := by decide +kernel
theorem d_Nodes_deepestIn_12 : decode b_Nodes_deepestIn 12 = .ok (.iload_n 1, 1) := by decide +kernel
theorem d_Nodes_deepestIn_13 : decode b_Nodes_deepestIn 13 = .ok (.iconst 1, 1) := by decide +kernel
theorem d_Nodes_deepestIn_14 : decode b_Nodes_deepestIn 14 = .ok (.iadd, 1) := by decide +kernel
theorem d_Nodes_deepestIn_15 : decode b_Nodes_deepestIn 15 = .ok (.istore 4, 2) := by decide +kernel
theorem d_Nodes_deepestIn_17 : decode b_Nodes_deepestIn 17 = .ok (.iload 4, 2) := by decide +kernel
theorem d_Nodes_deepestIn_19 : decode b_Nodes_deepestIn 19 = .ok (.iload_n 3, 1) := by decide +kernel
theorem d_Nodes_deepestIn_20 : decode b_Nodes_deepestIn 20 = .ok (.if_icmp .ge 20, 3) := by decide +kernel
theorem d_Nodes_deepestIn_23 : decode b_Nodes_deepestIn 23 = .ok (.iload_n 2, 1) := by decide +kernel
theorem d_Nodes_deepestIn_24 : decode b_Nodes_deepestIn 24 = .ok (.aload_n 0, 1) := by decide +kernel
theorem d_Nodes_deepestIn_25 : decode b_Nodes_deepestIn 25 = .ok (.iload 4, 2) := by decide +kernel
theorem d_Nodes_deepestIn_27 : decode b_Nodes_deepestIn 27 = .ok (.invokevirtual 86, 3) := by decide +kernel
theorem d_Nodes_deepestIn_30 : decode b_Nodes_deepestIn 30 = .ok (.invokestatic 89, 3) := by decide +kernel
theorem d_Nodes_deepestIn_33 : decode b_Nodes_deepestIn 33 = .ok (.istore_n 2, 1) := by decide +kernel
theorem d_Nodes_deepestIn_34 : decode b_Nodes_deepestIn 34 = .ok (.iinc 4 1, 3) := by decide +kernel
theorem d_Nodes_deepestIn_37 : decode b_Nodes_deepestIn 37 = .ok (.goto (-20), 3) := by decide +kernel
theorem d_Nodes_deepestIn_40 : decode b_Nodes_deepestIn 40 = .ok (.iload_n 2, 1) := by decide +kernel
theorem d_Nodes_deepestIn_41 : decode b_Nodes_deepestIn 41 = .ok (.ireturn, 1) := by decide +kernel
theorem d_Nodes_levels_0 : decode b_Nodes_levels 0 = .ok (.aload_n 0, 1) := by decide +kernel
theorem d_Nodes_levels_1 : decode b_Nodes_levels 1 = .ok (.iload_n 1, 1) := by decide +kernel
theorem d_Nodes_levels_2 : decode b_Nodes_levels 2 = .ok (.invokevirtual 94, 3) := by decide +kernel
theorem d_Nodes_levels_5 : decode b_Nodes_levels 5 = .ok (.invokestatic 41, 3) := by decide +kernel
theorem d_Nodes_levels_8 : decode b_Nodes_levels 8 = .ok (.ifCond .eq 7, 3) := by decide +kernel
theorem d_Nodes_levels_11 : decode b_Nodes_levels 11 = .ok (.iconst 1, 1) := by decide +kernel
theorem d_Nodes_levels_12 : decode b_Nodes_levels 12 = .ok (.goto 4, 3) := by decide +kernel
theorem d_Nodes_levels_15 : decode b_Nodes_levels 15 = .ok (.iconst 0, 1) := by decide +kernel
theorem d_Nodes_levels_16 : decode b_Nodes_levels 16 = .ok (.istore_n 2, 1) := by decide +kernel
theorem d_Nodes_levels_17 : decode b_Nodes_levels 17 = .ok (.aload_n 0, 1) := by decide +kernel
theorem d_Nodes_levels_18 : decode b_Nodes_levels 18 = .ok (.iload_n 1, 1) := by decide +kernel
theorem d_Nodes_levels_19 : decode b_Nodes_levels 19 = .ok (.invokevirtual 97, 3) := by decide +kernel
theorem d_Nodes_levels_22 : decode b_Nodes_levels 22 = .ok (.aload_n 0, 1) := by decide +kernel
theorem d_Nodes_levels_23 : decode b_Nodes_levels 23 = .ok (.iload_n 1, 1) := by decide +kernel
theorem d_Nodes_levels_24 : decode b_Nodes_levels 24 = .ok (.invokevirtual 86, 3) := by decide +kernel
theorem d_Nodes_levels_27 : decode b_Nodes_levels 27 = .ok (.isub, 1) := by decide +kernel
theorem d_Nodes_levels_28 : decode b_Nodes_levels 28 = .ok (.iload_n 2, 1) := by decide +kernel
theorem d_Nodes_levels_29 : decode b_Nodes_levels 29 = .ok (.iadd, 1) := by decide +kernel
theorem d_Nodes_levels_30 : decode b_Nodes_levels 30 = .ok (.ireturn, 1) := by decide +kernel
theorem d_Nodes_named_0 : decode b_Nodes_named 0 = .ok (.iload_n 1, 1) := by decide +kernel
theorem d_Nodes_named_1 : decode b_Nodes_named 1 = .ok (.iconst 1, 1) := by decide +kernel
theorem d_Nodes_named_2 : decode b_Nodes_named 2 = .ok (.iadd, 1) := by decide +kernel
theorem d_Nodes_named_3 : decode b_Nodes_named 3 = .ok (.istore 5, 2) := by decide +kernel
theorem d_Nodes_named_5 : decode b_Nodes_named 5 = .ok (.iload 5, 2) := by decide +kernel
theorem d_Nodes_named_7 : decode b_Nodes_named 7 = .ok (.aload_n 0, 1) := by decide +kernel
theorem d_Nodes_named_8 : decode b_Nodes_named 8 = .ok (.getfield 37, 3) := by decide +kernel
theorem d_Nodes_named_11 : decode b_Nodes_named 11 = .ok (.if_icmp .ge 53, 3) := by decide +kernel
theorem d_Nodes_named_14 : decode b_Nodes_named 14 = .ok (.aload_n 0, 1) := by decide +kernel
theorem d_Nodes_named_15 : decode b_Nodes_named 15 = .ok (.iload 5, 2) := by decide +kernel
theorem d_Nodes_named_17 : decode b_Nodes_named 17 = .ok (.invokevirtual 65, 3) := by decide +kernel
theorem d_Nodes_named_20 : decode b_Nodes_named 20 = .ok (.iload_n 1, 1) := by decide +kernel
theorem d_Nodes_named_21 : decode b_Nodes_named 21 = .ok (.if_icmp .ne 37, 3) := by decide +kernel
theorem d_Nodes_named_24 : decode b_Nodes_named 24 = .ok (.aload_n 0, 1) := by decide +kernel
theorem d_Nodes_named_25 : decode b_Nodes_named 25 = .ok (.iload 5, 2) := by decide +kernel
theorem d_Nodes_named_27 : decode b_Nodes_named 27 = .ok (.invokevirtual 100, 3) := by decide +kernel
theorem d_Nodes_named_30 : decode b_Nodes_named 30 = .ok (.iload 4, 2) := by decide +kernel
theorem d_Nodes_named_32 : decode b_Nodes_named 32 = .ok (.if_icmp .ne 26, 3) := by decide +kernel
theorem d_Nodes_named_35 : decode b_Nodes_named 35 = .ok (.aload_n 0, 1) := by decide +kernel
theorem d_Nodes_named_36 : decode b_Nodes_named 36 = .ok (.getfield 33, 3) := by decide +kernel
theorem d_Nodes_named_39 : decode b_Nodes_named 39 = .ok (.aload_n 0, 1) := by decide +kernel
theorem d_Nodes_named_40 : decode b_Nodes_named 40 = .ok (.iload 5, 2) := by decide +kernel
theorem d_Nodes_named_42 : decode b_Nodes_named 42 = .ok (.invokevirtual 103, 3) := by decide +kernel
theorem d_Nodes_named_45 : decode b_Nodes_named 45 = .ok (.aload_n 2, 1) := by decide +kernel
theorem d_Nodes_named_46 : decode b_Nodes_named 46 = .ok (.iload_n 3, 1) := by decide +kernel
theorem d_Nodes_named_47 : decode b_Nodes_named 47 = .ok (.iload 4, 2) := by decide +kernel
theorem d_Nodes_named_49 : decode b_Nodes_named 49 = .ok (.invokevirtual 106, 3) := by decide +kernel
theorem d_Nodes_named_52 : decode b_Nodes_named 52 = .ok (.ifCond .eq 6, 3) := by decide +kernel
theorem d_Nodes_named_55 : decode b_Nodes_named 55 = .ok (.iload 5, 2) := by decide +kernel
theorem d_Nodes_named_57 : decode b_Nodes_named 57 = .ok (.ireturn, 1) := by decide +kernel
theorem d_Nodes_named_58 : decode b_Nodes_named 58 = .ok (.iinc 5 1, 3) := by decide +kernel
theorem d_Nodes_named_61 : decode b_Nodes_named 61 = .ok (.goto (-56), 3) := by decide +kernel
theorem d_Nodes_named_64 : decode b_Nodes_named 64 = .ok (.iconst (-1), 1) := by decide +kernel
theorem d_Nodes_named_65 : decode b_Nodes_named 65 = .ok (.ireturn, 1) := by decide +kernel
theorem d_Arrays_copyOf_0 : decode b_Arrays_copyOf 0 = .ok (.iload_n 1, 1) := by decide +kernel
theorem d_Arrays_copyOf_1 : decode b_Arrays_copyOf 1 = .ok (.aload_n 0, 1) := by decide +kernel
theorem d_Arrays_copyOf_2 : decode b_Arrays_copyOf 2 = .ok (.arraylength, 1) := by decide +kernel
theorem d_Arrays_copyOf_3 : decode b_Arrays_copyOf 3 = .ok (.if_icmp .ne 11, 3) := by decide +kernel
theorem d_Arrays_copyOf_6 : decode b_Arrays_copyOf 6 = .ok (.aload_n 0, 1) := by decide +kernel
theorem d_Arrays_copyOf_7 : decode b_Arrays_copyOf 7 = .ok (.invokevirtual 310, 3) := by decide +kernel
theorem d_Arrays_copyOf_10 : decode b_Arrays_copyOf 10 = .ok (.checkcast 311, 3) := by decide +kernel
theorem d_Arrays_copyOf_13 : decode b_Arrays_copyOf 13 = .ok (.areturn, 1) := by decide +kernel
theorem d_Arrays_copyOf_14 : decode b_Arrays_copyOf 14 = .ok (.iload_n 1, 1) := by decide +kernel
theorem d_Arrays_copyOf_15 : decode b_Arrays_copyOf 15 = .ok (.newarray .byte, 2) := by decide +kernel
theorem d_Arrays_copyOf_17 : decode b_Arrays_copyOf 17 = .ok (.astore_n 2, 1) := by decide +kernel
theorem d_Arrays_copyOf_18 : decode b_Arrays_copyOf 18 = .ok (.aload_n 0, 1) := by decide +kernel
theorem d_Arrays_copyOf_19 : decode b_Arrays_copyOf 19 = .ok (.iconst 0, 1) := by decide +kernel
theorem d_Arrays_copyOf_20 : decode b_Arrays_copyOf 20 = .ok (.aload_n 2, 1) := by decide +kernel
theorem d_Arrays_copyOf_21 : decode b_Arrays_copyOf 21 = .ok (.iconst 0, 1) := by decide +kernel
theorem d_Arrays_copyOf_22 : decode b_Arrays_copyOf 22 = .ok (.aload_n 0, 1) := by decide +kernel
theorem d_Arrays_copyOf_23 : decode b_Arrays_copyOf 23 = .ok (.arraylength, 1) := by decide +kernel
theorem d_Arrays_copyOf_24 : decode b_Arrays_copyOf 24 = .ok (.iload_n 1, 1) := by decide +kernel
theorem d_Arrays_copyOf_25 : decode b_Arrays_copyOf 25 = .ok (.invokestatic 304, 3) := by decide +kernel
theorem d_Arrays_copyOf_28 : decode b_Arrays_copyOf 28 = .ok (.invokestatic 150, 3) := by decide +kernel
theorem d_Arrays_copyOf_31 : decode b_Arrays_copyOf 31 = .ok (.aload_n 2, 1) := by decide +kernel
theorem d_Arrays_copyOf_32 : decode b_Arrays_copyOf 32 = .ok (.areturn, 1) := by decide +kernel
