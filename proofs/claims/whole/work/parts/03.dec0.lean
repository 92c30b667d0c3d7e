theorem d_Wd_init_0 : decode c_Wd_init 0 = .ok (.aload_n 0, 1) := by decide +kernel
theorem d_Wd_init_1 : decode c_Wd_init 1 = .ok (.invokespecial 3, 3) := by decide +kernel
theorem d_Wd_init_4 : decode c_Wd_init 4 = .ok (.aload_n 0, 1) := by decide +kernel
theorem d_Wd_init_5 : decode c_Wd_init 5 = .ok (.new 9, 3) := by decide +kernel
theorem d_Wd_init_8 : decode c_Wd_init 8 = .ok (.dup, 1) := by decide +kernel
theorem d_Wd_init_9 : decode c_Wd_init 9 = .ok (.invokespecial 11, 3) := by decide +kernel
theorem d_Wd_init_12 : decode c_Wd_init 12 = .ok (.putfield 12, 3) := by decide +kernel
theorem d_Wd_init_15 : decode c_Wd_init 15 = .ok (.aload_n 0, 1) := by decide +kernel
theorem d_Wd_init_16 : decode c_Wd_init 16 = .ok (.new 16, 3) := by decide +kernel
theorem d_Wd_init_19 : decode c_Wd_init 19 = .ok (.dup, 1) := by decide +kernel
theorem d_Wd_init_20 : decode c_Wd_init 20 = .ok (.invokespecial 18, 3) := by decide +kernel
theorem d_Wd_init_23 : decode c_Wd_init 23 = .ok (.putfield 19, 3) := by decide +kernel
theorem d_Wd_init_26 : decode c_Wd_init 26 = .ok (.aload_n 0, 1) := by decide +kernel
theorem d_Wd_init_27 : decode c_Wd_init 27 = .ok (.new 16, 3) := by decide +kernel
theorem d_Wd_init_30 : decode c_Wd_init 30 = .ok (.dup, 1) := by decide +kernel
theorem d_Wd_init_31 : decode c_Wd_init 31 = .ok (.invokespecial 18, 3) := by decide +kernel
theorem d_Wd_init_34 : decode c_Wd_init 34 = .ok (.putfield 23, 3) := by decide +kernel
theorem d_Wd_init_37 : decode c_Wd_init 37 = .ok (.aload_n 0, 1) := by decide +kernel
theorem d_Wd_init_38 : decode c_Wd_init 38 = .ok (.new 26, 3) := by decide +kernel
theorem d_Wd_init_41 : decode c_Wd_init 41 = .ok (.dup, 1) := by decide +kernel
theorem d_Wd_init_42 : decode c_Wd_init 42 = .ok (.invokespecial 28, 3) := by decide +kernel
theorem d_Wd_init_45 : decode c_Wd_init 45 = .ok (.putfield 29, 3) := by decide +kernel
theorem d_Wd_init_48 : decode c_Wd_init 48 = .ok (.aload_n 0, 1) := by decide +kernel
theorem d_Wd_init_49 : decode c_Wd_init 49 = .ok (.iconst 0, 1) := by decide +kernel
theorem d_Wd_init_50 : decode c_Wd_init 50 = .ok (.putfield 33, 3) := by decide +kernel
theorem d_Wd_init_53 : decode c_Wd_init 53 = .ok (.return_, 1) := by decide +kernel
theorem d_Wd_raw_0 : decode c_Wd_raw 0 = .ok (.iload_n 3, 1) := by decide +kernel
theorem d_Wd_raw_1 : decode c_Wd_raw 1 = .ok (.iconst 1, 1) := by decide +kernel
theorem d_Wd_raw_2 : decode c_Wd_raw 2 = .ok (.if_icmp .lt 9, 3) := by decide +kernel
theorem d_Wd_raw_5 : decode c_Wd_raw 5 = .ok (.iload_n 3, 1) := by decide +kernel
theorem d_Wd_raw_6 : decode c_Wd_raw 6 = .ok (.bipush 8, 2) := by decide +kernel
theorem d_Wd_raw_8 : decode c_Wd_raw 8 = .ok (.if_icmp .le 13, 3) := by decide +kernel
theorem d_Wd_raw_11 : decode c_Wd_raw 11 = .ok (.new 37, 3) := by decide +kernel
theorem d_Wd_raw_14 : decode c_Wd_raw 14 = .ok (.dup, 1) := by decide +kernel
theorem d_Wd_raw_15 : decode c_Wd_raw 15 = .ok (.ldc 39, 2) := by decide +kernel
theorem d_Wd_raw_17 : decode c_Wd_raw 17 = .ok (.invokespecial 41, 3) := by decide +kernel
theorem d_Wd_raw_20 : decode c_Wd_raw 20 = .ok (.athrow, 1) := by decide +kernel
theorem d_Wd_raw_21 : decode c_Wd_raw 21 = .ok (.aload_n 0, 1) := by decide +kernel
theorem d_Wd_raw_22 : decode c_Wd_raw 22 = .ok (.getfield 12, 3) := by decide +kernel
theorem d_Wd_raw_25 : decode c_Wd_raw 25 = .ok (.getfield 44, 3) := by decide +kernel
theorem d_Wd_raw_28 : decode c_Wd_raw 28 = .ok (.ifCond .eq 13, 3) := by decide +kernel
theorem d_Wd_raw_31 : decode c_Wd_raw 31 = .ok (.new 47, 3) := by decide +kernel
theorem d_Wd_raw_34 : decode c_Wd_raw 34 = .ok (.dup, 1) := by decide +kernel
theorem d_Wd_raw_35 : decode c_Wd_raw 35 = .ok (.ldc 49, 2) := by decide +kernel
theorem d_Wd_raw_37 : decode c_Wd_raw 37 = .ok (.invokespecial 51, 3) := by decide +kernel
theorem d_Wd_raw_40 : decode c_Wd_raw 40 = .ok (.athrow, 1) := by decide +kernel
theorem d_Wd_raw_41 : decode c_Wd_raw 41 = .ok (.aload_n 0, 1) := by decide +kernel
theorem d_Wd_raw_42 : decode c_Wd_raw 42 = .ok (.lload_n 1, 1) := by decide +kernel
theorem d_Wd_raw_43 : decode c_Wd_raw 43 = .ok (.iload_n 3, 1) := by decide +kernel
theorem d_Wd_raw_44 : decode c_Wd_raw 44 = .ok (.invokevirtual 52, 3) := by decide +kernel
theorem d_Wd_raw_47 : decode c_Wd_raw 47 = .ok (.bipush (-2), 2) := by decide +kernel
theorem d_Wd_raw_49 : decode c_Wd_raw 49 = .ok (.if_icmp .ne 8, 3) := by decide +kernel
theorem d_Wd_raw_52 : decode c_Wd_raw 52 = .ok (.bipush (-2), 2) := by decide +kernel
theorem d_Wd_raw_54 : decode c_Wd_raw 54 = .ok (.goto 10, 3) := by decide +kernel
theorem d_Wd_raw_57 : decode c_Wd_raw 57 = .ok (.aload_n 0, 1) := by decide +kernel
theorem d_Wd_raw_58 : decode c_Wd_raw 58 = .ok (.getfield 12, 3) := by decide +kernel
theorem d_Wd_raw_61 : decode c_Wd_raw 61 = .ok (.getfield 56, 3) := by decide +kernel
theorem d_Wd_raw_64 : decode c_Wd_raw 64 = .ok (.ireturn, 1) := by decide +kernel
theorem d_Wd_blocks_0 : decode c_Wd_blocks 0 = .ok (.iload_n 1, 1) := by decide +kernel
theorem d_Wd_blocks_1 : decode c_Wd_blocks 1 = .ok (.aload_n 0, 1) := by decide +kernel
theorem d_Wd_blocks_2 : decode c_Wd_blocks 2 = .ok (.getfield 12, 3) := by decide +kernel
theorem d_Wd_blocks_5 : decode c_Wd_blocks 5 = .ok (.getfield 44, 3) := by decide +kernel
theorem d_Wd_blocks_8 : decode c_Wd_blocks 8 = .ok (.if_icmp .eq 18, 3) := by decide +kernel
theorem d_Wd_blocks_11 : decode c_Wd_blocks 11 = .ok (.aload_n 0, 1) := by decide +kernel
theorem d_Wd_blocks_12 : decode c_Wd_blocks 12 = .ok (.getfield 12, 3) := by decide +kernel
theorem d_Wd_blocks_15 : decode c_Wd_blocks 15 = .ok (.invokevirtual 60, 3) := by decide +kernel
theorem d_Wd_blocks_18 : decode c_Wd_blocks 18 = .ok (.aload_n 0, 1) := by decide +kernel
theorem d_Wd_blocks_19 : decode c_Wd_blocks 19 = .ok (.getfield 12, 3) := by decide +kernel
theorem d_Wd_blocks_22 : decode c_Wd_blocks 22 = .ok (.iload_n 1, 1) := by decide +kernel
theorem d_Wd_blocks_23 : decode c_Wd_blocks 23 = .ok (.putfield 44, 3) := by decide +kernel
theorem d_Wd_blocks_26 : decode c_Wd_blocks 26 = .ok (.aload_n 0, 1) := by decide +kernel
theorem d_Wd_blocks_27 : decode c_Wd_blocks 27 = .ok (.getfield 12, 3) := by decide +kernel
theorem d_Wd_blocks_30 : decode c_Wd_blocks 30 = .ok (.getfield 56, 3) := by decide +kernel
theorem d_Wd_blocks_33 : decode c_Wd_blocks 33 = .ok (.ireturn, 1) := by decide +kernel
theorem d_Wd_write_0 : decode c_Wd_write 0 = .ok (.iload_n 1, 1) := by decide +kernel
theorem d_Wd_write_1 : decode c_Wd_write 1 = .ok (.invokestatic 63, 3) := by decide +kernel
theorem d_Wd_write_4 : decode c_Wd_write 4 = .ok (.istore 4, 2) := by decide +kernel
theorem d_Wd_write_6 : decode c_Wd_write 6 = .ok (.iload_n 1, 1) := by decide +kernel
theorem d_Wd_write_7 : decode c_Wd_write 7 = .ok (.ifCond .ne 21, 3) := by decide +kernel
theorem d_Wd_write_10 : decode c_Wd_write 10 = .ok (.aload_n 0, 1) := by decide +kernel
theorem d_Wd_write_11 : decode c_Wd_write 11 = .ok (.lload_n 2, 1) := by decide +kernel
theorem d_Wd_write_12 : decode c_Wd_write 12 = .ok (.lconst 0, 1) := by decide +kernel
theorem d_Wd_write_13 : decode c_Wd_write 13 = .ok (.lcmp, 1) := by decide +kernel
theorem d_Wd_write_14 : decode c_Wd_write 14 = .ok (.ifCond .eq 7, 3) := by decide +kernel
theorem d_Wd_write_17 : decode c_Wd_write 17 = .ok (.lconst 1, 1) := by decide +kernel
theorem d_Wd_write_18 : decode c_Wd_write 18 = .ok (.goto 4, 3) := by decide +kernel
theorem d_Wd_write_21 : decode c_Wd_write 21 = .ok (.lconst 0, 1) := by decide +kernel
theorem d_Wd_write_22 : decode c_Wd_write 22 = .ok (.iload 4, 2) := by decide +kernel
theorem d_Wd_write_24 : decode c_Wd_write 24 = .ok (.invokevirtual 52, 3) := by decide +kernel
theorem d_Wd_write_27 : decode c_Wd_write 27 = .ok (.ireturn, 1) := by decide +kernel
theorem d_Wd_write_28 : decode c_Wd_write 28 = .ok (.aload_n 0, 1) := by decide +kernel
theorem d_Wd_write_29 : decode c_Wd_write 29 = .ok (.lload_n 2, 1) := by decide +kernel
theorem d_Wd_write_30 : decode c_Wd_write 30 = .ok (.iload 4, 2) := by decide +kernel
theorem d_Wd_write_32 : decode c_Wd_write 32 = .ok (.invokevirtual 52, 3) := by decide +kernel
theorem d_Wd_write_35 : decode c_Wd_write 35 = .ok (.ireturn, 1) := by decide +kernel
theorem d_Wd_writeFloat_0 : decode c_Wd_writeFloat 0 = .ok (.iload_n 2, 1) := by decide +kernel
theorem d_Wd_writeFloat_1 : decode c_Wd_writeFloat 1 = .ok (.sipush (-300), 3) := by decide +kernel
theorem d_Wd_writeFloat_4 : decode c_Wd_writeFloat 4 = .ok (.if_icmp .lt 10, 3) := by decide +kernel
theorem d_Wd_writeFloat_7 : decode c_Wd_writeFloat 7 = .ok (.iload_n 2, 1) := by decide +kernel
theorem d_Wd_writeFloat_8 : decode c_Wd_writeFloat 8 = .ok (.sipush 300, 3) := by decide +kernel
theorem d_Wd_writeFloat_11 : decode c_Wd_writeFloat 11 = .ok (.if_icmp .le 13, 3) := by decide +kernel
theorem d_Wd_writeFloat_14 : decode c_Wd_writeFloat 14 = .ok (.new 37, 3) := by decide +kernel
theorem d_Wd_writeFloat_17 : decode c_Wd_writeFloat 17 = .ok (.dup, 1) := by decide +kernel
theorem d_Wd_writeFloat_18 : decode c_Wd_writeFloat 18 = .ok (.ldc 67, 2) := by decide +kernel
theorem d_Wd_writeFloat_20 : decode c_Wd_writeFloat 20 = .ok (.invokespecial 41, 3) := by decide +kernel
theorem d_Wd_writeFloat_23 : decode c_Wd_writeFloat 23 = .ok (.athrow, 1) := by decide +kernel
theorem d_Wd_writeFloat_24 : decode c_Wd_writeFloat 24 = .ok (.fload_n 1, 1) := by decide +kernel
theorem d_Wd_writeFloat_25 : decode c_Wd_writeFloat 25 = .ok (.fload_n 1, 1) := by decide +kernel
theorem d_Wd_writeFloat_26 : decode c_Wd_writeFloat 26 = .ok (.fcmp .l, 1) := by decide +kernel
theorem d_Wd_writeFloat_27 : decode c_Wd_writeFloat 27 = .ok (.ifCond .eq 12, 3) := by decide +kernel
theorem d_Wd_writeFloat_30 : decode c_Wd_writeFloat 30 = .ok (.getstatic 69, 3) := by decide +kernel
theorem d_Wd_writeFloat_33 : decode c_Wd_writeFloat 33 = .ok (.invokevirtual 75, 3) := by decide +kernel
theorem d_Wd_writeFloat_36 : decode c_Wd_writeFloat 36 = .ok (.goto 15, 3) := by decide +kernel
theorem d_Wd_writeFloat_39 : decode c_Wd_writeFloat 39 = .ok (.getstatic 69, 3) := by decide +kernel
theorem d_Wd_writeFloat_42 : decode c_Wd_writeFloat 42 = .ok (.fload_n 1, 1) := by decide +kernel
theorem d_Wd_writeFloat_43 : decode c_Wd_writeFloat 43 = .ok (.iload_n 2, 1) := by decide +kernel
theorem d_Wd_writeFloat_44 : decode c_Wd_writeFloat 44 = .ok (.invokestatic 79, 3) := by decide +kernel
theorem d_Wd_writeFloat_47 : decode c_Wd_writeFloat 47 = .ok (.f2d, 1) := by decide +kernel
theorem d_Wd_writeFloat_48 : decode c_Wd_writeFloat 48 = .ok (.invokevirtual 83, 3) := by decide +kernel
theorem d_Wd_writeFloat_51 : decode c_Wd_writeFloat 51 = .ok (.lstore_n 3, 1) := by decide +kernel
theorem d_Wd_writeFloat_52 : decode c_Wd_writeFloat 52 = .ok (.aload_n 0, 1) := by decide +kernel
theorem d_Wd_writeFloat_53 : decode c_Wd_writeFloat 53 = .ok (.lload_n 3, 1) := by decide +kernel
theorem d_Wd_writeFloat_54 : decode c_Wd_writeFloat 54 = .ok (.getstatic 69, 3) := by decide +kernel
theorem d_Wd_writeFloat_57 : decode c_Wd_writeFloat 57 = .ok (.getfield 87, 3) := by decide +kernel
theorem d_Wd_writeFloat_60 : decode c_Wd_writeFloat 60 = .ok (.invokevirtual 52, 3) := by decide +kernel
theorem d_Wd_writeFloat_63 : decode c_Wd_writeFloat 63 = .ok (.ireturn, 1) := by decide +kernel
theorem d_Wd_writeDouble_0 : decode c_Wd_writeDouble 0 = .ok (.iload_n 3, 1) := by decide +kernel
theorem d_Wd_writeDouble_1 : decode c_Wd_writeDouble 1 = .ok (.sipush (-2200), 3) := by decide +kernel
theorem d_Wd_writeDouble_4 : decode c_Wd_writeDouble 4 = .ok (.if_icmp .lt 10, 3) := by decide +kernel
theorem d_Wd_writeDouble_7 : decode c_Wd_writeDouble 7 = .ok (.iload_n 3, 1) := by decide +kernel
theorem d_Wd_writeDouble_8 : decode c_Wd_writeDouble 8 = .ok (.sipush 2200, 3) := by decide +kernel
theorem d_Wd_writeDouble_11 : decode c_Wd_writeDouble 11 = .ok (.if_icmp .le 13, 3) := by decide +kernel
theorem d_Wd_writeDouble_14 : decode c_Wd_writeDouble 14 = .ok (.new 37, 3) := by decide +kernel
theorem d_Wd_writeDouble_17 : decode c_Wd_writeDouble 17 = .ok (.dup, 1) := by decide +kernel
theorem d_Wd_writeDouble_18 : decode c_Wd_writeDouble 18 = .ok (.ldc 90, 2) := by decide +kernel
theorem d_Wd_writeDouble_20 : decode c_Wd_writeDouble 20 = .ok (.invokespecial 41, 3) := by decide +kernel
theorem d_Wd_writeDouble_23 : decode c_Wd_writeDouble 23 = .ok (.athrow, 1) := by decide +kernel
theorem d_Wd_writeDouble_24 : decode c_Wd_writeDouble 24 = .ok (.dload_n 1, 1) := by decide +kernel
theorem d_Wd_writeDouble_25 : decode c_Wd_writeDouble 25 = .ok (.dload_n 1, 1) := by decide +kernel
theorem d_Wd_writeDouble_26 : decode c_Wd_writeDouble 26 = .ok (.dcmp .l, 1) := by decide +kernel
theorem d_Wd_writeDouble_27 : decode c_Wd_writeDouble 27 = .ok (.ifCond .eq 12, 3) := by decide +kernel
theorem d_Wd_writeDouble_30 : decode c_Wd_writeDouble 30 = .ok (.getstatic 92, 3) := by decide +kernel
theorem d_Wd_writeDouble_33 : decode c_Wd_writeDouble 33 = .ok (.invokevirtual 75, 3) := by decide +kernel
theorem d_Wd_writeDouble_36 : decode c_Wd_writeDouble 36 = .ok (.goto 14, 3) := by decide +kernel
theorem d_Wd_writeDouble_39 : decode c_Wd_writeDouble 39 = .ok (.getstatic 92, 3) := by decide +kernel
theorem d_Wd_writeDouble_42 : decode c_Wd_writeDouble 42 = .ok (.dload_n 1, 1) := by decide +kernel
theorem d_Wd_writeDouble_43 : decode c_Wd_writeDouble 43 = .ok (.iload_n 3, 1) := by decide +kernel
theorem d_Wd_writeDouble_44 : decode c_Wd_writeDouble 44 = .ok (.invokestatic 95, 3) := by decide +kernel
theorem d_Wd_writeDouble_47 : decode c_Wd_writeDouble 47 = .ok (.invokevirtual 83, 3) := by decide +kernel
theorem d_Wd_writeDouble_50 : decode c_Wd_writeDouble 50 = .ok (.lstore 4, 2) := by decide +kernel
theorem d_Wd_writeDouble_52 : decode c_Wd_writeDouble 52 = .ok (.aload_n 0, 1) := by decide +kernel
theorem d_Wd_writeDouble_53 : decode c_Wd_writeDouble 53 = .ok (.lload 4, 2) := by decide +kernel
theorem d_Wd_writeDouble_55 : decode c_Wd_writeDouble 55 = .ok (.getstatic 92, 3) := by decide +kernel
theorem d_Wd_writeDouble_58 : decode c_Wd_writeDouble 58 = .ok (.getfield 87, 3) := by decide +kernel
theorem d_Wd_writeDouble_61 : decode c_Wd_writeDouble 61 = .ok (.invokevirtual 52, 3) := by decide +kernel
theorem d_Wd_writeDouble_64 : decode c_Wd_writeDouble 64 = .ok (.ireturn, 1) := by decide +kernel
theorem d_Wd_put_0 : decode c_Wd_put 0 = .ok (.iload_n 1, 1) := by decide +kernel
theorem d_Wd_put_1 : decode c_Wd_put 1 = .ok (.invokestatic 99, 3) := by decide +kernel
theorem d_Wd_put_4 : decode c_Wd_put 4 = .ok (.iload_n 2, 1) := by decide +kernel
theorem d_Wd_put_5 : decode c_Wd_put 5 = .ok (.ifCond .lt 9, 3) := by decide +kernel
theorem d_Wd_put_8 : decode c_Wd_put 8 = .ok (.iload_n 2, 1) := by decide +kernel
theorem d_Wd_put_9 : decode c_Wd_put 9 = .ok (.ldc 103, 2) := by decide +kernel
theorem d_Wd_put_11 : decode c_Wd_put 11 = .ok (.if_icmp .le 13, 3) := by decide +kernel
theorem d_Wd_put_14 : decode c_Wd_put 14 = .ok (.new 37, 3) := by decide +kernel
theorem d_Wd_put_17 : decode c_Wd_put 17 = .ok (.dup, 1) := by decide +kernel
theorem d_Wd_put_18 : decode c_Wd_put 18 = .ok (.ldc 104, 2) := by decide +kernel
theorem d_Wd_put_20 : decode c_Wd_put 20 = .ok (.invokespecial 41, 3) := by decide +kernel
theorem d_Wd_put_23 : decode c_Wd_put 23 = .ok (.athrow, 1) := by decide +kernel
theorem d_Wd_put_24 : decode c_Wd_put 24 = .ok (.aload_n 0, 1) := by decide +kernel
theorem d_Wd_put_25 : decode c_Wd_put 25 = .ok (.getfield 29, 3) := by decide +kernel
theorem d_Wd_put_28 : decode c_Wd_put 28 = .ok (.getfield 106, 3) := by decide +kernel
theorem d_Wd_put_31 : decode c_Wd_put 31 = .ok (.iload_n 1, 1) := by decide +kernel
theorem d_Wd_put_32 : decode c_Wd_put 32 = .ok (.iload_n 2, 1) := by decide +kernel
theorem d_Wd_put_33 : decode c_Wd_put 33 = .ok (.iastore, 1) := by decide +kernel
theorem d_Wd_put_34 : decode c_Wd_put 34 = .ok (.iload_n 2, 1) := by decide +kernel
theorem d_Wd_put_35 : decode c_Wd_put 35 = .ok (.ireturn, 1) := by decide +kernel
theorem d_Wd_writeText_0 : decode c_Wd_writeText 0 = .ok (.iload_n 1, 1) := by decide +kernel
theorem d_Wd_writeText_1 : decode c_Wd_writeText 1 = .ok (.ifCond .lt 9, 3) := by decide +kernel
theorem d_Wd_writeText_4 : decode c_Wd_writeText 4 = .ok (.iload_n 1, 1) := by decide +kernel
theorem d_Wd_writeText_5 : decode c_Wd_writeText 5 = .ok (.bipush 40, 2) := by decide +kernel
theorem d_Wd_writeText_7 : decode c_Wd_writeText 7 = .ok (.if_icmp .le 13, 3) := by decide +kernel
theorem d_Wd_writeText_10 : decode c_Wd_writeText 10 = .ok (.new 37, 3) := by decide +kernel
theorem d_Wd_writeText_13 : decode c_Wd_writeText 13 = .ok (.dup, 1) := by decide +kernel
theorem d_Wd_writeText_14 : decode c_Wd_writeText 14 = .ok (.ldc 110, 2) := by decide +kernel
theorem d_Wd_writeText_16 : decode c_Wd_writeText 16 = .ok (.invokespecial 41, 3) := by decide +kernel
theorem d_Wd_writeText_19 : decode c_Wd_writeText 19 = .ok (.athrow, 1) := by decide +kernel
theorem d_Wd_writeText_20 : decode c_Wd_writeText 20 = .ok (.aload_n 0, 1) := by decide +kernel
theorem d_Wd_writeText_21 : decode c_Wd_writeText 21 = .ok (.getfield 29, 3) := by decide +kernel
theorem d_Wd_writeText_24 : decode c_Wd_writeText 24 = .ok (.iload_n 1, 1) := by decide +kernel
theorem d_Wd_writeText_25 : decode c_Wd_writeText 25 = .ok (.invokevirtual 112, 3) := by decide +kernel
theorem d_Wd_writeText_28 : decode c_Wd_writeText 28 = .ok (.istore_n 2, 1) := by decide +kernel
theorem d_Wd_writeText_29 : decode c_Wd_writeText 29 = .ok (.aload_n 0, 1) := by decide +kernel
theorem d_Wd_writeText_30 : decode c_Wd_writeText 30 = .ok (.getfield 12, 3) := by decide +kernel
theorem d_Wd_writeText_33 : decode c_Wd_writeText 33 = .ok (.iconst 2, 1) := by decide +kernel
theorem d_Wd_writeText_34 : decode c_Wd_writeText 34 = .ok (.iload_n 2, 1) := by decide +kernel
theorem d_Wd_writeText_35 : decode c_Wd_writeText 35 = .ok (.iadd, 1) := by decide +kernel
theorem d_Wd_writeText_36 : decode c_Wd_writeText 36 = .ok (.invokevirtual 115, 3) := by decide +kernel
theorem d_Wd_writeText_39 : decode c_Wd_writeText 39 = .ok (.ifCond .ne 6, 3) := by decide +kernel
theorem d_Wd_writeText_42 : decode c_Wd_writeText 42 = .ok (.bipush (-2), 2) := by decide +kernel
theorem d_Wd_writeText_44 : decode c_Wd_writeText 44 = .ok (.ireturn, 1) := by decide +kernel
theorem d_Wd_writeText_45 : decode c_Wd_writeText 45 = .ok (.aload_n 0, 1) := by decide +kernel
theorem d_Wd_writeText_46 : decode c_Wd_writeText 46 = .ok (.getfield 12, 3) := by decide +kernel
theorem d_Wd_writeText_49 : decode c_Wd_writeText 49 = .ok (.iload_n 2, 1) := by decide +kernel
theorem d_Wd_writeText_50 : decode c_Wd_writeText 50 = .ok (.i2l, 1) := by decide +kernel
theorem d_Wd_writeText_51 : decode c_Wd_writeText 51 = .ok (.iconst 2, 1) := by decide +kernel
theorem d_Wd_writeText_52 : decode c_Wd_writeText 52 = .ok (.invokevirtual 119, 3) := by decide +kernel
theorem d_Wd_writeText_55 : decode c_Wd_writeText 55 = .ok (.aload_n 0, 1) := by decide +kernel
theorem d_Wd_writeText_56 : decode c_Wd_writeText 56 = .ok (.getfield 29, 3) := by decide +kernel
theorem d_Wd_writeText_59 : decode c_Wd_writeText 59 = .ok (.iload_n 1, 1) := by decide +kernel
theorem d_Wd_writeText_60 : decode c_Wd_writeText 60 = .ok (.aload_n 0, 1) := by decide +kernel
theorem d_Wd_writeText_61 : decode c_Wd_writeText 61 = .ok (.getfield 12, 3) := by decide +kernel
theorem d_Wd_writeText_64 : decode c_Wd_writeText 64 = .ok (.invokevirtual 123, 3) := by decide +kernel
theorem d_Wd_writeText_67 : decode c_Wd_writeText 67 = .ok (.iconst 2, 1) := by decide +kernel
theorem d_Wd_writeText_68 : decode c_Wd_writeText 68 = .ok (.iload_n 2, 1) := by decide +kernel
theorem d_Wd_writeText_69 : decode c_Wd_writeText 69 = .ok (.iadd, 1) := by decide +kernel
theorem d_Wd_writeText_70 : decode c_Wd_writeText 70 = .ok (.ireturn, 1) := by decide +kernel
theorem d_Wd_flush_0 : decode c_Wd_flush 0 = .ok (.aload_n 0, 1) := by decide +kernel
theorem d_Wd_flush_1 : decode c_Wd_flush 1 = .ok (.getfield 12, 3) := by decide +kernel
theorem d_Wd_flush_4 : decode c_Wd_flush 4 = .ok (.invokevirtual 60, 3) := by decide +kernel
theorem d_Wd_flush_7 : decode c_Wd_flush 7 = .ok (.aload_n 0, 1) := by decide +kernel
theorem d_Wd_flush_8 : decode c_Wd_flush 8 = .ok (.getfield 12, 3) := by decide +kernel
theorem d_Wd_flush_11 : decode c_Wd_flush 11 = .ok (.getfield 56, 3) := by decide +kernel
theorem d_Wd_flush_14 : decode c_Wd_flush 14 = .ok (.ireturn, 1) := by decide +kernel
theorem d_Wd_read_0 : decode c_Wd_read 0 = .ok (.aload_n 0, 1) := by decide +kernel
theorem d_Wd_read_1 : decode c_Wd_read 1 = .ok (.iload_n 1, 1) := by decide +kernel
theorem d_Wd_read_2 : decode c_Wd_read 2 = .ok (.invokestatic 63, 3) := by decide +kernel
theorem d_Wd_read_5 : decode c_Wd_read 5 = .ok (.invokevirtual 127, 3) := by decide +kernel
theorem d_Wd_read_8 : decode c_Wd_read 8 = .ok (.lstore_n 2, 1) := by decide +kernel
theorem d_Wd_read_9 : decode c_Wd_read 9 = .ok (.iload_n 1, 1) := by decide +kernel
theorem d_Wd_read_10 : decode c_Wd_read 10 = .ok (.tableswitch 60 0 4 #[34, 46, 60, 51, 56], 34) := by decide +kernel
theorem d_Wd_read_44 : decode c_Wd_read 44 = .ok (.lload_n 2, 1) := by decide +kernel
theorem d_Wd_read_45 : decode c_Wd_read 45 = .ok (.lconst 0, 1) := by decide +kernel
theorem d_Wd_read_46 : decode c_Wd_read 46 = .ok (.lcmp, 1) := by decide +kernel
theorem d_Wd_read_47 : decode c_Wd_read 47 = .ok (.ifCond .eq 7, 3) := by decide +kernel
theorem d_Wd_read_50 : decode c_Wd_read 50 = .ok (.lconst 1, 1) := by decide +kernel
theorem d_Wd_read_51 : decode c_Wd_read 51 = .ok (.goto 4, 3) := by decide +kernel
theorem d_Wd_read_54 : decode c_Wd_read 54 = .ok (.lconst 0, 1) := by decide +kernel
theorem d_Wd_read_55 : decode c_Wd_read 55 = .ok (.lreturn, 1) := by decide +kernel
theorem d_Wd_read_56 : decode c_Wd_read 56 = .ok (.lload_n 2, 1) := by decide +kernel
theorem d_Wd_read_57 : decode c_Wd_read 57 = .ok (.l2i, 1) := by decide +kernel
theorem d_Wd_read_58 : decode c_Wd_read 58 = .ok (.i2b, 1) := by decide +kernel
theorem d_Wd_read_59 : decode c_Wd_read 59 = .ok (.i2l, 1) := by decide +kernel
theorem d_Wd_read_60 : decode c_Wd_read 60 = .ok (.lreturn, 1) := by decide +kernel
theorem d_Wd_read_61 : decode c_Wd_read 61 = .ok (.lload_n 2, 1) := by decide +kernel
theorem d_Wd_read_62 : decode c_Wd_read 62 = .ok (.l2i, 1) := by decide +kernel
theorem d_Wd_read_63 : decode c_Wd_read 63 = .ok (.i2s, 1) := by decide +kernel
theorem d_Wd_read_64 : decode c_Wd_read 64 = .ok (.i2l, 1) := by decide +kernel
theorem d_Wd_read_65 : decode c_Wd_read 65 = .ok (.lreturn, 1) := by decide +kernel
theorem d_Wd_read_66 : decode c_Wd_read 66 = .ok (.lload_n 2, 1) := by decide +kernel
theorem d_Wd_read_67 : decode c_Wd_read 67 = .ok (.l2i, 1) := by decide +kernel
theorem d_Wd_read_68 : decode c_Wd_read 68 = .ok (.i2l, 1) := by decide +kernel
theorem d_Wd_read_69 : decode c_Wd_read 69 = .ok (.lreturn, 1) := by decide +kernel
theorem d_Wd_read_70 : decode c_Wd_read 70 = .ok (.lload_n 2, 1) := by decide +kernel
theorem d_Wd_read_71 : decode c_Wd_read 71 = .ok (.lreturn, 1) := by decide +kernel
theorem d_Wd_readFloat_0 : decode c_Wd_readFloat 0 = .ok (.aload_n 0, 1) := by decide +kernel
theorem d_Wd_readFloat_1 : decode c_Wd_readFloat 1 = .ok (.getstatic 69, 3) := by decide +kernel
theorem d_Wd_readFloat_4 : decode c_Wd_readFloat 4 = .ok (.aload_n 0, 1) := by decide +kernel
theorem d_Wd_readFloat_5 : decode c_Wd_readFloat 5 = .ok (.getstatic 69, 3) := by decide +kernel
theorem d_Wd_readFloat_8 : decode c_Wd_readFloat 8 = .ok (.getfield 87, 3) := by decide +kernel
theorem d_Wd_readFloat_11 : decode c_Wd_readFloat 11 = .ok (.invokevirtual 127, 3) := by decide +kernel
theorem d_Wd_readFloat_14 : decode c_Wd_readFloat 14 = .ok (.invokevirtual 131, 3) := by decide +kernel
theorem d_Wd_readFloat_17 : decode c_Wd_readFloat 17 = .ok (.d2f, 1) := by decide +kernel
theorem d_Wd_readFloat_18 : decode c_Wd_readFloat 18 = .ok (.freturn, 1) := by decide +kernel
theorem d_Wd_readDouble_0 : decode c_Wd_readDouble 0 = .ok (.aload_n 0, 1) := by decide +kernel
theorem d_Wd_readDouble_1 : decode c_Wd_readDouble 1 = .ok (.getstatic 92, 3) := by decide +kernel
theorem d_Wd_readDouble_4 : decode c_Wd_readDouble 4 = .ok (.aload_n 0, 1) := by decide +kernel
theorem d_Wd_readDouble_5 : decode c_Wd_readDouble 5 = .ok (.getstatic 92, 3) := by decide +kernel
theorem d_Wd_readDouble_8 : decode c_Wd_readDouble 8 = .ok (.getfield 87, 3) := by decide +kernel
theorem d_Wd_readDouble_11 : decode c_Wd_readDouble 11 = .ok (.invokevirtual 127, 3) := by decide +kernel
theorem d_Wd_readDouble_14 : decode c_Wd_readDouble 14 = .ok (.invokevirtual 131, 3) := by decide +kernel
theorem d_Wd_readDouble_17 : decode c_Wd_readDouble 17 = .ok (.dreturn, 1) := by decide +kernel
theorem d_Wd_readText_0 : decode c_Wd_readText 0 = .ok (.aload_n 0, 1) := by decide +kernel
theorem d_Wd_readText_1 : decode c_Wd_readText 1 = .ok (.getfield 23, 3) := by decide +kernel
theorem d_Wd_readText_4 : decode c_Wd_readText 4 = .ok (.aload_n 0, 1) := by decide +kernel
theorem d_Wd_readText_5 : decode c_Wd_readText 5 = .ok (.getfield 19, 3) := by decide +kernel
theorem d_Wd_readText_8 : decode c_Wd_readText 8 = .ok (.invokevirtual 135, 3) := by decide +kernel
theorem d_Wd_readText_11 : decode c_Wd_readText 11 = .ok (.aload_n 0, 1) := by decide +kernel
theorem d_Wd_readText_12 : decode c_Wd_readText 12 = .ok (.invokevirtual 139, 3) := by decide +kernel
theorem d_Wd_readText_15 : decode c_Wd_readText 15 = .ok (.bipush 8, 2) := by decide +kernel
theorem d_Wd_readText_17 : decode c_Wd_readText 17 = .ok (.ishl, 1) := by decide +kernel
theorem d_Wd_readText_18 : decode c_Wd_readText 18 = .ok (.aload_n 0, 1) := by decide +kernel
theorem d_Wd_readText_19 : decode c_Wd_readText 19 = .ok (.invokevirtual 139, 3) := by decide +kernel
theorem d_Wd_readText_22 : decode c_Wd_readText 22 = .ok (.ior, 1) := by decide +kernel
theorem d_Wd_readText_23 : decode c_Wd_readText 23 = .ok (.istore_n 1, 1) := by decide +kernel
theorem d_Wd_readText_24 : decode c_Wd_readText 24 = .ok (.iconst 0, 1) := by decide +kernel
theorem d_Wd_readText_25 : decode c_Wd_readText 25 = .ok (.istore_n 2, 1) := by decide +kernel
theorem d_Wd_readText_26 : decode c_Wd_readText 26 = .ok (.iload_n 2, 1) := by decide +kernel
theorem d_Wd_readText_27 : decode c_Wd_readText 27 = .ok (.iload_n 1, 1) := by decide +kernel
theorem d_Wd_readText_28 : decode c_Wd_readText 28 = .ok (.if_icmp .ge 21, 3) := by decide +kernel
theorem d_Wd_readText_31 : decode c_Wd_readText 31 = .ok (.aload_n 0, 1) := by decide +kernel
theorem d_Wd_readText_32 : decode c_Wd_readText 32 = .ok (.getfield 29, 3) := by decide +kernel
theorem d_Wd_readText_35 : decode c_Wd_readText 35 = .ok (.iload_n 2, 1) := by decide +kernel
theorem d_Wd_readText_36 : decode c_Wd_readText 36 = .ok (.aload_n 0, 1) := by decide +kernel
theorem d_Wd_readText_37 : decode c_Wd_readText 37 = .ok (.invokevirtual 139, 3) := by decide +kernel
theorem d_Wd_readText_40 : decode c_Wd_readText 40 = .ok (.invokevirtual 143, 3) := by decide +kernel
theorem d_Wd_readText_43 : decode c_Wd_readText 43 = .ok (.iinc 2 1, 3) := by decide +kernel
theorem d_Wd_readText_46 : decode c_Wd_readText 46 = .ok (.goto (-20), 3) := by decide +kernel
theorem d_Wd_readText_49 : decode c_Wd_readText 49 = .ok (.aload_n 0, 1) := by decide +kernel
theorem d_Wd_readText_50 : decode c_Wd_readText 50 = .ok (.getfield 29, 3) := by decide +kernel
theorem d_Wd_readText_53 : decode c_Wd_readText 53 = .ok (.iload_n 1, 1) := by decide +kernel
theorem d_Wd_readText_54 : decode c_Wd_readText 54 = .ok (.invokevirtual 147, 3) := by decide +kernel
theorem d_Wd_readText_57 : decode c_Wd_readText 57 = .ok (.istore_n 2, 1) := by decide +kernel
theorem d_Wd_readText_58 : decode c_Wd_readText 58 = .ok (.iload_n 2, 1) := by decide +kernel
theorem d_Wd_readText_59 : decode c_Wd_readText 59 = .ok (.iconst (-1), 1) := by decide +kernel
theorem d_Wd_readText_60 : decode c_Wd_readText 60 = .ok (.if_icmp .ne 13, 3) := by decide +kernel
theorem d_Wd_readText_63 : decode c_Wd_readText 63 = .ok (.new 37, 3) := by decide +kernel
theorem d_Wd_readText_66 : decode c_Wd_readText 66 = .ok (.dup, 1) := by decide +kernel
theorem d_Wd_readText_67 : decode c_Wd_readText 67 = .ok (.ldc 150, 2) := by decide +kernel
theorem d_Wd_readText_69 : decode c_Wd_readText 69 = .ok (.invokespecial 41, 3) := by decide +kernel
theorem d_Wd_readText_72 : decode c_Wd_readText 72 = .ok (.athrow, 1) := by decide +kernel
theorem d_Wd_readText_73 : decode c_Wd_readText 73 = .ok (.aload_n 0, 1) := by decide +kernel
theorem d_Wd_readText_74 : decode c_Wd_readText 74 = .ok (.getfield 29, 3) := by decide +kernel
theorem d_Wd_readText_77 : decode c_Wd_readText 77 = .ok (.iload_n 2, 1) := by decide +kernel
theorem d_Wd_readText_78 : decode c_Wd_readText 78 = .ok (.invokevirtual 152, 3) := by decide +kernel
theorem d_Wd_readText_81 : decode c_Wd_readText 81 = .ok (.aload_n 0, 1) := by decide +kernel
theorem d_Wd_readText_82 : decode c_Wd_readText 82 = .ok (.getfield 19, 3) := by decide +kernel
theorem d_Wd_readText_85 : decode c_Wd_readText 85 = .ok (.aload_n 0, 1) := by decide +kernel
theorem d_Wd_readText_86 : decode c_Wd_readText 86 = .ok (.getfield 23, 3) := by decide +kernel
theorem d_Wd_readText_89 : decode c_Wd_readText 89 = .ok (.invokevirtual 135, 3) := by decide +kernel
theorem d_Wd_readText_92 : decode c_Wd_readText 92 = .ok (.iload_n 2, 1) := by decide +kernel
theorem d_Wd_readText_93 : decode c_Wd_readText 93 = .ok (.ireturn, 1) := by decide +kernel
theorem d_Wd_readBlocks_0 : decode c_Wd_readBlocks 0 = .ok (.iload_n 1, 1) := by decide +kernel
theorem d_Wd_readBlocks_1 : decode c_Wd_readBlocks 1 = .ok (.aload_n 0, 1) := by decide +kernel
theorem d_Wd_readBlocks_2 : decode c_Wd_readBlocks 2 = .ok (.getfield 19, 3) := by decide +kernel
theorem d_Wd_readBlocks_5 : decode c_Wd_readBlocks 5 = .ok (.getfield 155, 3) := by decide +kernel
theorem d_Wd_readBlocks_8 : decode c_Wd_readBlocks 8 = .ok (.if_icmp .eq 31, 3) := by decide +kernel
theorem d_Wd_readBlocks_11 : decode c_Wd_readBlocks 11 = .ok (.aload_n 0, 1) := by decide +kernel
theorem d_Wd_readBlocks_12 : decode c_Wd_readBlocks 12 = .ok (.getfield 19, 3) := by decide +kernel
theorem d_Wd_readBlocks_15 : decode c_Wd_readBlocks 15 = .ok (.getfield 156, 3) := by decide +kernel
theorem d_Wd_readBlocks_18 : decode c_Wd_readBlocks 18 = .ok (.ifCond .eq 13, 3) := by decide +kernel
theorem d_Wd_readBlocks_21 : decode c_Wd_readBlocks 21 = .ok (.new 47, 3) := by decide +kernel
theorem d_Wd_readBlocks_24 : decode c_Wd_readBlocks 24 = .ok (.dup, 1) := by decide +kernel
theorem d_Wd_readBlocks_25 : decode c_Wd_readBlocks 25 = .ok (.ldc 159, 2) := by decide +kernel
theorem d_Wd_readBlocks_27 : decode c_Wd_readBlocks 27 = .ok (.invokespecial 51, 3) := by decide +kernel
theorem d_Wd_readBlocks_30 : decode c_Wd_readBlocks 30 = .ok (.athrow, 1) := by decide +kernel
theorem d_Wd_readBlocks_31 : decode c_Wd_readBlocks 31 = .ok (.aload_n 0, 1) := by decide +kernel
theorem d_Wd_readBlocks_32 : decode c_Wd_readBlocks 32 = .ok (.getfield 19, 3) := by decide +kernel
theorem d_Wd_readBlocks_35 : decode c_Wd_readBlocks 35 = .ok (.iload_n 1, 1) := by decide +kernel
theorem d_Wd_readBlocks_36 : decode c_Wd_readBlocks 36 = .ok (.putfield 155, 3) := by decide +kernel
theorem d_Wd_readBlocks_39 : decode c_Wd_readBlocks 39 = .ok (.aload_n 0, 1) := by decide +kernel
theorem d_Wd_readBlocks_40 : decode c_Wd_readBlocks 40 = .ok (.getfield 19, 3) := by decide +kernel
theorem d_Wd_readBlocks_43 : decode c_Wd_readBlocks 43 = .ok (.getfield 161, 3) := by decide +kernel
theorem d_Wd_readBlocks_46 : decode c_Wd_readBlocks 46 = .ok (.ireturn, 1) := by decide +kernel
theorem d_Wd_skip_0 : decode c_Wd_skip 0 = .ok (.iload_n 1, 1) := by decide +kernel
theorem d_Wd_skip_1 : decode c_Wd_skip 1 = .ok (.ifCond .lt 10, 3) := by decide +kernel
theorem d_Wd_skip_4 : decode c_Wd_skip 4 = .ok (.iload_n 1, 1) := by decide +kernel
theorem d_Wd_skip_5 : decode c_Wd_skip 5 = .ok (.sipush 1500, 3) := by decide +kernel
theorem d_Wd_skip_8 : decode c_Wd_skip 8 = .ok (.if_icmp .le 13, 3) := by decide +kernel
theorem d_Wd_skip_11 : decode c_Wd_skip 11 = .ok (.new 37, 3) := by decide +kernel
theorem d_Wd_skip_14 : decode c_Wd_skip 14 = .ok (.dup, 1) := by decide +kernel
theorem d_Wd_skip_15 : decode c_Wd_skip 15 = .ok (.ldc 164, 2) := by decide +kernel
theorem d_Wd_skip_17 : decode c_Wd_skip 17 = .ok (.invokespecial 41, 3) := by decide +kernel
theorem d_Wd_skip_20 : decode c_Wd_skip 20 = .ok (.athrow, 1) := by decide +kernel
theorem d_Wd_skip_21 : decode c_Wd_skip 21 = .ok (.aload_n 0, 1) := by decide +kernel
theorem d_Wd_skip_22 : decode c_Wd_skip 22 = .ok (.getfield 23, 3) := by decide +kernel
theorem d_Wd_skip_25 : decode c_Wd_skip 25 = .ok (.aload_n 0, 1) := by decide +kernel
theorem d_Wd_skip_26 : decode c_Wd_skip 26 = .ok (.getfield 19, 3) := by decide +kernel
theorem d_Wd_skip_29 : decode c_Wd_skip 29 = .ok (.invokevirtual 135, 3) := by decide +kernel
theorem d_Wd_skip_32 : decode c_Wd_skip 32 = .ok (.iconst 0, 1) := by decide +kernel
theorem d_Wd_skip_33 : decode c_Wd_skip 33 = .ok (.istore_n 2, 1) := by decide +kernel
theorem d_Wd_skip_34 : decode c_Wd_skip 34 = .ok (.iload_n 2, 1) := by decide +kernel
theorem d_Wd_skip_35 : decode c_Wd_skip 35 = .ok (.iload_n 1, 1) := by decide +kernel
theorem d_Wd_skip_36 : decode c_Wd_skip 36 = .ok (.if_icmp .ge 45, 3) := by decide +kernel
theorem d_Wd_skip_39 : decode c_Wd_skip 39 = .ok (.aload_n 0, 1) := by decide +kernel
theorem d_Wd_skip_40 : decode c_Wd_skip 40 = .ok (.getfield 23, 3) := by decide +kernel
theorem d_Wd_skip_43 : decode c_Wd_skip 43 = .ok (.aload_n 0, 1) := by decide +kernel
theorem d_Wd_skip_44 : decode c_Wd_skip 44 = .ok (.getfield 12, 3) := by decide +kernel
theorem d_Wd_skip_47 : decode c_Wd_skip 47 = .ok (.invokevirtual 166, 3) := by decide +kernel
theorem d_Wd_skip_50 : decode c_Wd_skip 50 = .ok (.istore_n 3, 1) := by decide +kernel
theorem d_Wd_skip_51 : decode c_Wd_skip 51 = .ok (.iload_n 3, 1) := by decide +kernel
theorem d_Wd_skip_52 : decode c_Wd_skip 52 = .ok (.bipush (-2), 2) := by decide +kernel
theorem d_Wd_skip_54 : decode c_Wd_skip 54 = .ok (.if_icmp .ne 13, 3) := by decide +kernel
theorem d_Wd_skip_57 : decode c_Wd_skip 57 = .ok (.new 47, 3) := by decide +kernel
theorem d_Wd_skip_60 : decode c_Wd_skip 60 = .ok (.dup, 1) := by decide +kernel
theorem d_Wd_skip_61 : decode c_Wd_skip 61 = .ok (.ldc 170, 2) := by decide +kernel
theorem d_Wd_skip_63 : decode c_Wd_skip 63 = .ok (.invokespecial 51, 3) := by decide +kernel
theorem d_Wd_skip_66 : decode c_Wd_skip 66 = .ok (.athrow, 1) := by decide +kernel
theorem d_Wd_skip_67 : decode c_Wd_skip 67 = .ok (.iload_n 3, 1) := by decide +kernel
theorem d_Wd_skip_68 : decode c_Wd_skip 68 = .ok (.iconst (-1), 1) := by decide +kernel
theorem d_Wd_skip_69 : decode c_Wd_skip 69 = .ok (.if_icmp .ne 6, 3) := by decide +kernel
theorem d_Wd_skip_72 : decode c_Wd_skip 72 = .ok (.goto 9, 3) := by decide +kernel
theorem d_Wd_skip_75 : decode c_Wd_skip 75 = .ok (.iinc 2 1, 3) := by decide +kernel
theorem d_Wd_skip_78 : decode c_Wd_skip 78 = .ok (.goto (-44), 3) := by decide +kernel
theorem d_Wd_skip_81 : decode c_Wd_skip 81 = .ok (.aload_n 0, 1) := by decide +kernel
theorem d_Wd_skip_82 : decode c_Wd_skip 82 = .ok (.getfield 19, 3) := by decide +kernel
theorem d_Wd_skip_85 : decode c_Wd_skip 85 = .ok (.aload_n 0, 1) := by decide +kernel
theorem d_Wd_skip_86 : decode c_Wd_skip 86 = .ok (.getfield 23, 3) := by decide +kernel
theorem d_Wd_skip_89 : decode c_Wd_skip 89 = .ok (.invokevirtual 135, 3) := by decide +kernel
theorem d_Wd_skip_92 : decode c_Wd_skip 92 = .ok (.iload_n 2, 1) := by decide +kernel
theorem d_Wd_skip_93 : decode c_Wd_skip 93 = .ok (.ireturn, 1) := by decide +kernel
theorem d_Wd_rewind_0 : decode c_Wd_rewind 0 = .ok (.aload_n 0, 1) := by decide +kernel
theorem d_Wd_rewind_1 : decode c_Wd_rewind 1 = .ok (.getfield 19, 3) := by decide +kernel
theorem d_Wd_rewind_4 : decode c_Wd_rewind 4 = .ok (.iconst 0, 1) := by decide +kernel
theorem d_Wd_rewind_5 : decode c_Wd_rewind 5 = .ok (.putfield 161, 3) := by decide +kernel
theorem d_Wd_rewind_8 : decode c_Wd_rewind 8 = .ok (.aload_n 0, 1) := by decide +kernel
theorem d_Wd_rewind_9 : decode c_Wd_rewind 9 = .ok (.getfield 19, 3) := by decide +kernel
theorem d_Wd_rewind_12 : decode c_Wd_rewind 12 = .ok (.iconst 0, 1) := by decide +kernel
theorem d_Wd_rewind_13 : decode c_Wd_rewind 13 = .ok (.putfield 156, 3) := by decide +kernel
theorem d_Wd_rewind_16 : decode c_Wd_rewind 16 = .ok (.aload_n 0, 1) := by decide +kernel
theorem d_Wd_rewind_17 : decode c_Wd_rewind 17 = .ok (.getfield 19, 3) := by decide +kernel
theorem d_Wd_rewind_20 : decode c_Wd_rewind 20 = .ok (.iconst 0, 1) := by decide +kernel
theorem d_Wd_rewind_21 : decode c_Wd_rewind 21 = .ok (.putfield 155, 3) := by decide +kernel
theorem d_Wd_rewind_24 : decode c_Wd_rewind 24 = .ok (.aload_n 0, 1) := by decide +kernel
theorem d_Wd_rewind_25 : decode c_Wd_rewind 25 = .ok (.getfield 12, 3) := by decide +kernel
theorem d_Wd_rewind_28 : decode c_Wd_rewind 28 = .ok (.getfield 56, 3) := by decide +kernel
theorem d_Wd_rewind_31 : decode c_Wd_rewind 31 = .ok (.ireturn, 1) := by decide +kernel
theorem d_Wd_byteAt_0 : decode c_Wd_byteAt 0 = .ok (.aload_n 0, 1) := by decide +kernel
theorem d_Wd_byteAt_1 : decode c_Wd_byteAt 1 = .ok (.getfield 12, 3) := by decide +kernel
theorem d_Wd_byteAt_4 : decode c_Wd_byteAt 4 = .ok (.iload_n 1, 1) := by decide +kernel
theorem d_Wd_byteAt_5 : decode c_Wd_byteAt 5 = .ok (.invokevirtual 172, 3) := by decide +kernel
theorem d_Wd_byteAt_8 : decode c_Wd_byteAt 8 = .ok (.ireturn, 1) := by decide +kernel
theorem d_Wd_code_0 : decode c_Wd_code 0 = .ok (.iload_n 1, 1) := by decide +kernel
theorem d_Wd_code_1 : decode c_Wd_code 1 = .ok (.invokestatic 99, 3) := by decide +kernel
theorem d_Wd_code_4 : decode c_Wd_code 4 = .ok (.aload_n 0, 1) := by decide +kernel
theorem d_Wd_code_5 : decode c_Wd_code 5 = .ok (.getfield 29, 3) := by decide +kernel
theorem d_Wd_code_8 : decode c_Wd_code 8 = .ok (.getfield 106, 3) := by decide +kernel
theorem d_Wd_code_11 : decode c_Wd_code 11 = .ok (.iload_n 1, 1) := by decide +kernel
theorem d_Wd_code_12 : decode c_Wd_code 12 = .ok (.iaload, 1) := by decide +kernel
theorem d_Wd_code_13 : decode c_Wd_code 13 = .ok (.ireturn, 1) := by decide +kernel
theorem d_Wd_state_0 : decode c_Wd_state 0 = .ok (.iload_n 1, 1) := by decide +kernel
theorem d_Wd_state_1 : decode c_Wd_state 1 = .ok (.tableswitch 92 0 5 #[39, 47, 55, 63, 71, 79], 39) := by decide +kernel
theorem d_Wd_state_40 : decode c_Wd_state 40 = .ok (.aload_n 0, 1) := by decide +kernel
theorem d_Wd_state_41 : decode c_Wd_state 41 = .ok (.getfield 12, 3) := by decide +kernel
theorem d_Wd_state_44 : decode c_Wd_state 44 = .ok (.getfield 56, 3) := by decide +kernel
theorem d_Wd_state_47 : decode c_Wd_state 47 = .ok (.ireturn, 1) := by decide +kernel
theorem d_Wd_state_48 : decode c_Wd_state 48 = .ok (.aload_n 0, 1) := by decide +kernel
theorem d_Wd_state_49 : decode c_Wd_state 49 = .ok (.getfield 12, 3) := by decide +kernel
theorem d_Wd_state_52 : decode c_Wd_state 52 = .ok (.getfield 175, 3) := by decide +kernel
theorem d_Wd_state_55 : decode c_Wd_state 55 = .ok (.ireturn, 1) := by decide +kernel
theorem d_Wd_state_56 : decode c_Wd_state 56 = .ok (.aload_n 0, 1) := by decide +kernel
theorem d_Wd_state_57 : decode c_Wd_state 57 = .ok (.getfield 19, 3) := by decide +kernel
theorem d_Wd_state_60 : decode c_Wd_state 60 = .ok (.getfield 161, 3) := by decide +kernel
theorem d_Wd_state_63 : decode c_Wd_state 63 = .ok (.ireturn, 1) := by decide +kernel
theorem d_Wd_state_64 : decode c_Wd_state 64 = .ok (.aload_n 0, 1) := by decide +kernel
theorem d_Wd_state_65 : decode c_Wd_state 65 = .ok (.getfield 19, 3) := by decide +kernel
theorem d_Wd_state_68 : decode c_Wd_state 68 = .ok (.getfield 156, 3) := by decide +kernel
theorem d_Wd_state_71 : decode c_Wd_state 71 = .ok (.ireturn, 1) := by decide +kernel
theorem d_Wd_state_72 : decode c_Wd_state 72 = .ok (.aload_n 0, 1) := by decide +kernel
theorem d_Wd_state_73 : decode c_Wd_state 73 = .ok (.getfield 19, 3) := by decide +kernel
theorem d_Wd_state_76 : decode c_Wd_state 76 = .ok (.getfield 178, 3) := by decide +kernel
theorem d_Wd_state_79 : decode c_Wd_state 79 = .ok (.ireturn, 1) := by decide +kernel
theorem d_Wd_state_80 : decode c_Wd_state 80 = .ok (.aload_n 0, 1) := by decide +kernel
theorem d_Wd_state_81 : decode c_Wd_state 81 = .ok (.getfield 33, 3) := by decide +kernel
theorem d_Wd_state_84 : decode c_Wd_state 84 = .ok (.ifCond .eq 7, 3) := by decide +kernel
theorem d_Wd_state_87 : decode c_Wd_state 87 = .ok (.iconst 1, 1) := by decide +kernel
theorem d_Wd_state_88 : decode c_Wd_state 88 = .ok (.goto 4, 3) := by decide +kernel
theorem d_Wd_state_91 : decode c_Wd_state 91 = .ok (.iconst 0, 1) := by decide +kernel
theorem d_Wd_state_92 : decode c_Wd_state 92 = .ok (.ireturn, 1) := by decide +kernel
theorem d_Wd_state_93 : decode c_Wd_state 93 = .ok (.new 37, 3) := by decide +kernel
theorem d_Wd_state_96 : decode c_Wd_state 96 = .ok (.dup, 1) := by decide +kernel
theorem d_Wd_state_97 : decode c_Wd_state 97 = .ok (.ldc 181, 2) := by decide +kernel
theorem d_Wd_state_99 : decode c_Wd_state 99 = .ok (.invokespecial 41, 3) := by decide +kernel
theorem d_Wd_state_102 : decode c_Wd_state 102 = .ok (.athrow, 1) := by decide +kernel
theorem d_Wd_sizeOfKind_0 : decode c_Wd_sizeOfKind 0 = .ok (.iload_n 0, 1) := by decide +kernel
theorem d_Wd_sizeOfKind_1 : decode c_Wd_sizeOfKind 1 = .ok (.ifCond .lt 11, 3) := by decide +kernel
theorem d_Wd_sizeOfKind_4 : decode c_Wd_sizeOfKind 4 = .ok (.iload_n 0, 1) := by decide +kernel
theorem d_Wd_sizeOfKind_5 : decode c_Wd_sizeOfKind 5 = .ok (.getstatic 183, 3) := by decide +kernel
theorem d_Wd_sizeOfKind_8 : decode c_Wd_sizeOfKind 8 = .ok (.arraylength, 1) := by decide +kernel
theorem d_Wd_sizeOfKind_9 : decode c_Wd_sizeOfKind 9 = .ok (.if_icmp .lt 13, 3) := by decide +kernel
theorem d_Wd_sizeOfKind_12 : decode c_Wd_sizeOfKind 12 = .ok (.new 37, 3) := by decide +kernel
theorem d_Wd_sizeOfKind_15 : decode c_Wd_sizeOfKind 15 = .ok (.dup, 1) := by decide +kernel
theorem d_Wd_sizeOfKind_16 : decode c_Wd_sizeOfKind 16 = .ok (.ldc 186, 2) := by decide +kernel
theorem d_Wd_sizeOfKind_18 : decode c_Wd_sizeOfKind 18 = .ok (.invokespecial 41, 3) := by decide +kernel
theorem d_Wd_sizeOfKind_21 : decode c_Wd_sizeOfKind 21 = .ok (.athrow, 1) := by decide +kernel
theorem d_Wd_sizeOfKind_22 : decode c_Wd_sizeOfKind 22 = .ok (.getstatic 183, 3) := by decide +kernel
theorem d_Wd_sizeOfKind_25 : decode c_Wd_sizeOfKind 25 = .ok (.iload_n 0, 1) := by decide +kernel
theorem d_Wd_sizeOfKind_26 : decode c_Wd_sizeOfKind 26 = .ok (.iaload, 1) := by decide +kernel
theorem d_Wd_sizeOfKind_27 : decode c_Wd_sizeOfKind 27 = .ok (.ireturn, 1) := by decide +kernel
theorem d_Wd_requireTextPlace_0 : decode c_Wd_requireTextPlace 0 = .ok (.iload_n 0, 1) := by decide +kernel
theorem d_Wd_requireTextPlace_1 : decode c_Wd_requireTextPlace 1 = .ok (.ifCond .lt 9, 3) := by decide +kernel
theorem d_Wd_requireTextPlace_4 : decode c_Wd_requireTextPlace 4 = .ok (.iload_n 0, 1) := by decide +kernel
theorem d_Wd_requireTextPlace_5 : decode c_Wd_requireTextPlace 5 = .ok (.bipush 40, 2) := by decide +kernel
theorem d_Wd_requireTextPlace_7 : decode c_Wd_requireTextPlace 7 = .ok (.if_icmp .lt 13, 3) := by decide +kernel
theorem d_Wd_requireTextPlace_10 : decode c_Wd_requireTextPlace 10 = .ok (.new 37, 3) := by decide +kernel
theorem d_Wd_requireTextPlace_13 : decode c_Wd_requireTextPlace 13 = .ok (.dup, 1) := by decide +kernel
theorem d_Wd_requireTextPlace_14 : decode c_Wd_requireTextPlace 14 = .ok (.ldc 188, 2) := by decide +kernel
theorem d_Wd_requireTextPlace_16 : decode c_Wd_requireTextPlace 16 = .ok (.invokespecial 41, 3) := by decide +kernel
theorem d_Wd_requireTextPlace_19 : decode c_Wd_requireTextPlace 19 = .ok (.athrow, 1) := by decide +kernel
theorem d_Wd_requireTextPlace_20 : decode c_Wd_requireTextPlace 20 = .ok (.return_, 1) := by decide +kernel
theorem d_Wd_writeNumber_0 : decode c_Wd_writeNumber 0 = .ok (.aload_n 0, 1) := by decide +kernel
theorem d_Wd_writeNumber_1 : decode c_Wd_writeNumber 1 = .ok (.getfield 12, 3) := by decide +kernel
theorem d_Wd_writeNumber_4 : decode c_Wd_writeNumber 4 = .ok (.iload_n 3, 1) := by decide +kernel
theorem d_Wd_writeNumber_5 : decode c_Wd_writeNumber 5 = .ok (.invokevirtual 115, 3) := by decide +kernel
theorem d_Wd_writeNumber_8 : decode c_Wd_writeNumber 8 = .ok (.ifCond .ne 6, 3) := by decide +kernel
theorem d_Wd_writeNumber_11 : decode c_Wd_writeNumber 11 = .ok (.bipush (-2), 2) := by decide +kernel
theorem d_Wd_writeNumber_13 : decode c_Wd_writeNumber 13 = .ok (.ireturn, 1) := by decide +kernel
theorem d_Wd_writeNumber_14 : decode c_Wd_writeNumber 14 = .ok (.aload_n 0, 1) := by decide +kernel
theorem d_Wd_writeNumber_15 : decode c_Wd_writeNumber 15 = .ok (.getfield 12, 3) := by decide +kernel
theorem d_Wd_writeNumber_18 : decode c_Wd_writeNumber 18 = .ok (.lload_n 1, 1) := by decide +kernel
theorem d_Wd_writeNumber_19 : decode c_Wd_writeNumber 19 = .ok (.iload_n 3, 1) := by decide +kernel
theorem d_Wd_writeNumber_20 : decode c_Wd_writeNumber 20 = .ok (.invokevirtual 119, 3) := by decide +kernel
theorem d_Wd_writeNumber_23 : decode c_Wd_writeNumber 23 = .ok (.iload_n 3, 1) := by decide +kernel
theorem d_Wd_writeNumber_24 : decode c_Wd_writeNumber 24 = .ok (.ireturn, 1) := by decide +kernel
theorem d_Wd_scaledFloat_0 : decode c_Wd_scaledFloat 0 = .ok (.iload_n 1, 1) := by decide +kernel
theorem d_Wd_scaledFloat_1 : decode c_Wd_scaledFloat 1 = .ok (.ifCond .le 7, 3) := by decide +kernel
theorem d_Wd_scaledFloat_4 : decode c_Wd_scaledFloat 4 = .ok (.fconst 2, 1) := by decide +kernel
theorem d_Wd_scaledFloat_5 : decode c_Wd_scaledFloat 5 = .ok (.goto 5, 3) := by decide +kernel
theorem d_Wd_scaledFloat_8 : decode c_Wd_scaledFloat 8 = .ok (.ldc 190, 2) := by decide +kernel
theorem d_Wd_scaledFloat_10 : decode c_Wd_scaledFloat 10 = .ok (.fstore_n 2, 1) := by decide +kernel
theorem d_Wd_scaledFloat_11 : decode c_Wd_scaledFloat 11 = .ok (.iload_n 1, 1) := by decide +kernel
theorem d_Wd_scaledFloat_12 : decode c_Wd_scaledFloat 12 = .ok (.invokestatic 191, 3) := by decide +kernel
theorem d_Wd_scaledFloat_15 : decode c_Wd_scaledFloat 15 = .ok (.istore_n 3, 1) := by decide +kernel
theorem d_Wd_scaledFloat_16 : decode c_Wd_scaledFloat 16 = .ok (.fload_n 0, 1) := by decide +kernel
theorem d_Wd_scaledFloat_17 : decode c_Wd_scaledFloat 17 = .ok (.fstore 4, 2) := by decide +kernel
theorem d_Wd_scaledFloat_19 : decode c_Wd_scaledFloat 19 = .ok (.iconst 0, 1) := by decide +kernel
theorem d_Wd_scaledFloat_20 : decode c_Wd_scaledFloat 20 = .ok (.istore 5, 2) := by decide +kernel
theorem d_Wd_scaledFloat_22 : decode c_Wd_scaledFloat 22 = .ok (.iload 5, 2) := by decide +kernel
theorem d_Wd_scaledFloat_24 : decode c_Wd_scaledFloat 24 = .ok (.iload_n 3, 1) := by decide +kernel
theorem d_Wd_scaledFloat_25 : decode c_Wd_scaledFloat 25 = .ok (.if_icmp .ge 15, 3) := by decide +kernel
theorem d_Wd_scaledFloat_28 : decode c_Wd_scaledFloat 28 = .ok (.fload 4, 2) := by decide +kernel
theorem d_Wd_scaledFloat_30 : decode c_Wd_scaledFloat 30 = .ok (.fload_n 2, 1) := by decide +kernel
theorem d_Wd_scaledFloat_31 : decode c_Wd_scaledFloat 31 = .ok (.fmul, 1) := by decide +kernel
theorem d_Wd_scaledFloat_32 : decode c_Wd_scaledFloat 32 = .ok (.fstore 4, 2) := by decide +kernel
theorem d_Wd_scaledFloat_34 : decode c_Wd_scaledFloat 34 = .ok (.iinc 5 1, 3) := by decide +kernel
theorem d_Wd_scaledFloat_37 : decode c_Wd_scaledFloat 37 = .ok (.goto (-15), 3) := by decide +kernel
theorem d_Wd_scaledFloat_40 : decode c_Wd_scaledFloat 40 = .ok (.fload 4, 2) := by decide +kernel
theorem d_Wd_scaledFloat_42 : decode c_Wd_scaledFloat 42 = .ok (.freturn, 1) := by decide +kernel
theorem d_Wd_scaledDouble_0 : decode c_Wd_scaledDouble 0 = .ok (.iload_n 2, 1) := by decide +kernel
theorem d_Wd_scaledDouble_1 : decode c_Wd_scaledDouble 1 = .ok (.ifCond .le 9, 3) := by decide +kernel
theorem d_Wd_scaledDouble_4 : decode c_Wd_scaledDouble 4 = .ok (.ldc2_w 196, 3) := by decide +kernel
theorem d_Wd_scaledDouble_7 : decode c_Wd_scaledDouble 7 = .ok (.goto 6, 3) := by decide +kernel
theorem d_Wd_scaledDouble_10 : decode c_Wd_scaledDouble 10 = .ok (.ldc2_w 198, 3) := by decide +kernel
theorem d_Wd_scaledDouble_13 : decode c_Wd_scaledDouble 13 = .ok (.dstore_n 3, 1) := by decide +kernel
theorem d_Wd_scaledDouble_14 : decode c_Wd_scaledDouble 14 = .ok (.iload_n 2, 1) := by decide +kernel
theorem d_Wd_scaledDouble_15 : decode c_Wd_scaledDouble 15 = .ok (.invokestatic 191, 3) := by decide +kernel
theorem d_Wd_scaledDouble_18 : decode c_Wd_scaledDouble 18 = .ok (.istore 5, 2) := by decide +kernel
theorem d_Wd_scaledDouble_20 : decode c_Wd_scaledDouble 20 = .ok (.dload_n 0, 1) := by decide +kernel
theorem d_Wd_scaledDouble_21 : decode c_Wd_scaledDouble 21 = .ok (.dstore 6, 2) := by decide +kernel
theorem d_Wd_scaledDouble_23 : decode c_Wd_scaledDouble 23 = .ok (.iconst 0, 1) := by decide +kernel
theorem d_Wd_scaledDouble_24 : decode c_Wd_scaledDouble 24 = .ok (.istore 8, 2) := by decide +kernel
theorem d_Wd_scaledDouble_26 : decode c_Wd_scaledDouble 26 = .ok (.iload 8, 2) := by decide +kernel
theorem d_Wd_scaledDouble_28 : decode c_Wd_scaledDouble 28 = .ok (.iload 5, 2) := by decide +kernel
theorem d_Wd_scaledDouble_30 : decode c_Wd_scaledDouble 30 = .ok (.if_icmp .ge 15, 3) := by decide +kernel
theorem d_Wd_scaledDouble_33 : decode c_Wd_scaledDouble 33 = .ok (.dload 6, 2) := by decide +kernel
theorem d_Wd_scaledDouble_35 : decode c_Wd_scaledDouble 35 = .ok (.dload_n 3, 1) := by decide +kernel
theorem d_Wd_scaledDouble_36 : decode c_Wd_scaledDouble 36 = .ok (.dmul, 1) := by decide +kernel
theorem d_Wd_scaledDouble_37 : decode c_Wd_scaledDouble 37 = .ok (.dstore 6, 2) := by decide +kernel
theorem d_Wd_scaledDouble_39 : decode c_Wd_scaledDouble 39 = .ok (.iinc 8 1, 3) := by decide +kernel
theorem d_Wd_scaledDouble_42 : decode c_Wd_scaledDouble 42 = .ok (.goto (-16), 3) := by decide +kernel
theorem d_Wd_scaledDouble_45 : decode c_Wd_scaledDouble 45 = .ok (.dload 6, 2) := by decide +kernel
theorem d_Wd_scaledDouble_47 : decode c_Wd_scaledDouble 47 = .ok (.dreturn, 1) := by decide +kernel
theorem d_Wd_readNumber_0 : decode c_Wd_readNumber 0 = .ok (.aload_n 0, 1) := by decide +kernel
theorem d_Wd_readNumber_1 : decode c_Wd_readNumber 1 = .ok (.getfield 23, 3) := by decide +kernel
theorem d_Wd_readNumber_4 : decode c_Wd_readNumber 4 = .ok (.aload_n 0, 1) := by decide +kernel
theorem d_Wd_readNumber_5 : decode c_Wd_readNumber 5 = .ok (.getfield 19, 3) := by decide +kernel
theorem d_Wd_readNumber_8 : decode c_Wd_readNumber 8 = .ok (.invokevirtual 135, 3) := by decide +kernel
theorem d_Wd_readNumber_11 : decode c_Wd_readNumber 11 = .ok (.lconst 0, 1) := by decide +kernel
theorem d_Wd_readNumber_12 : decode c_Wd_readNumber 12 = .ok (.lstore_n 2, 1) := by decide +kernel
theorem d_Wd_readNumber_13 : decode c_Wd_readNumber 13 = .ok (.iconst 0, 1) := by decide +kernel
theorem d_Wd_readNumber_14 : decode c_Wd_readNumber 14 = .ok (.istore 4, 2) := by decide +kernel
theorem d_Wd_readNumber_16 : decode c_Wd_readNumber 16 = .ok (.iload 4, 2) := by decide +kernel
theorem d_Wd_readNumber_18 : decode c_Wd_readNumber 18 = .ok (.iload_n 1, 1) := by decide +kernel
theorem d_Wd_readNumber_19 : decode c_Wd_readNumber 19 = .ok (.if_icmp .ge 20, 3) := by decide +kernel
theorem d_Wd_readNumber_22 : decode c_Wd_readNumber 22 = .ok (.lload_n 2, 1) := by decide +kernel
theorem d_Wd_readNumber_23 : decode c_Wd_readNumber 23 = .ok (.bipush 8, 2) := by decide +kernel
theorem d_Wd_readNumber_25 : decode c_Wd_readNumber 25 = .ok (.lshl, 1) := by decide +kernel
theorem d_Wd_readNumber_26 : decode c_Wd_readNumber 26 = .ok (.aload_n 0, 1) := by decide +kernel
theorem d_Wd_readNumber_27 : decode c_Wd_readNumber 27 = .ok (.invokevirtual 139, 3) := by decide +kernel
theorem d_Wd_readNumber_30 : decode c_Wd_readNumber 30 = .ok (.i2l, 1) := by decide +kernel
theorem d_Wd_readNumber_31 : decode c_Wd_readNumber 31 = .ok (.lor, 1) := by decide +kernel
theorem d_Wd_readNumber_32 : decode c_Wd_readNumber 32 = .ok (.lstore_n 2, 1) := by decide +kernel
theorem d_Wd_readNumber_33 : decode c_Wd_readNumber 33 = .ok (.iinc 4 1, 3) := by decide +kernel
theorem d_Wd_readNumber_36 : decode c_Wd_readNumber 36 = .ok (.goto (-20), 3) := by decide +kernel
theorem d_Wd_readNumber_39 : decode c_Wd_readNumber 39 = .ok (.aload_n 0, 1) := by decide +kernel
theorem d_Wd_readNumber_40 : decode c_Wd_readNumber 40 = .ok (.getfield 19, 3) := by decide +kernel
theorem d_Wd_readNumber_43 : decode c_Wd_readNumber 43 = .ok (.aload_n 0, 1) := by decide +kernel
theorem d_Wd_readNumber_44 : decode c_Wd_readNumber 44 = .ok (.getfield 23, 3) := by decide +kernel
theorem d_Wd_readNumber_47 : decode c_Wd_readNumber 47 = .ok (.invokevirtual 135, 3) := by decide +kernel
theorem d_Wd_readNumber_50 : decode c_Wd_readNumber 50 = .ok (.lload_n 2, 1) := by decide +kernel
theorem d_Wd_readNumber_51 : decode c_Wd_readNumber 51 = .ok (.lreturn, 1) := by decide +kernel
theorem d_Wd_valueRead_0 : decode c_Wd_valueRead 0 = .ok (.aload_n 0, 1) := by decide +kernel
theorem d_Wd_valueRead_1 : decode c_Wd_valueRead 1 = .ok (.aload_n 1, 1) := by decide +kernel
theorem d_Wd_valueRead_2 : decode c_Wd_valueRead 2 = .ok (.lload_n 2, 1) := by decide +kernel
theorem d_Wd_valueRead_3 : decode c_Wd_valueRead 3 = .ok (.invokevirtual 200, 3) := by decide +kernel
theorem d_Wd_valueRead_6 : decode c_Wd_valueRead 6 = .ok (.putfield 33, 3) := by decide +kernel
theorem d_Wd_valueRead_9 : decode c_Wd_valueRead 9 = .ok (.aload_n 0, 1) := by decide +kernel
theorem d_Wd_valueRead_10 : decode c_Wd_valueRead 10 = .ok (.getfield 33, 3) := by decide +kernel
theorem d_Wd_valueRead_13 : decode c_Wd_valueRead 13 = .ok (.ifCond .eq 7, 3) := by decide +kernel
theorem d_Wd_valueRead_16 : decode c_Wd_valueRead 16 = .ok (.dconst 0, 1) := by decide +kernel
theorem d_Wd_valueRead_17 : decode c_Wd_valueRead 17 = .ok (.goto 8, 3) := by decide +kernel
theorem d_Wd_valueRead_20 : decode c_Wd_valueRead 20 = .ok (.aload_n 1, 1) := by decide +kernel
theorem d_Wd_valueRead_21 : decode c_Wd_valueRead 21 = .ok (.lload_n 2, 1) := by decide +kernel
theorem d_Wd_valueRead_22 : decode c_Wd_valueRead 22 = .ok (.invokevirtual 204, 3) := by decide +kernel
theorem d_Wd_valueRead_25 : decode c_Wd_valueRead 25 = .ok (.dreturn, 1) := by decide +kernel
theorem d_Wd_takeByte_0 : decode c_Wd_takeByte 0 = .ok (.aload_n 0, 1) := by decide +kernel
theorem d_Wd_takeByte_1 : decode c_Wd_takeByte 1 = .ok (.getfield 23, 3) := by decide +kernel
theorem d_Wd_takeByte_4 : decode c_Wd_takeByte 4 = .ok (.aload_n 0, 1) := by decide +kernel
theorem d_Wd_takeByte_5 : decode c_Wd_takeByte 5 = .ok (.getfield 12, 3) := by decide +kernel
theorem d_Wd_takeByte_8 : decode c_Wd_takeByte 8 = .ok (.invokevirtual 166, 3) := by decide +kernel
theorem d_Wd_takeByte_11 : decode c_Wd_takeByte 11 = .ok (.istore_n 1, 1) := by decide +kernel
theorem d_Wd_takeByte_12 : decode c_Wd_takeByte 12 = .ok (.iload_n 1, 1) := by decide +kernel
theorem d_Wd_takeByte_13 : decode c_Wd_takeByte 13 = .ok (.bipush (-2), 2) := by decide +kernel
theorem d_Wd_takeByte_15 : decode c_Wd_takeByte 15 = .ok (.if_icmp .ne 13, 3) := by decide +kernel
theorem d_Wd_takeByte_18 : decode c_Wd_takeByte 18 = .ok (.new 47, 3) := by decide +kernel
theorem d_Wd_takeByte_21 : decode c_Wd_takeByte 21 = .ok (.dup, 1) := by decide +kernel
theorem d_Wd_takeByte_22 : decode c_Wd_takeByte 22 = .ok (.ldc 170, 2) := by decide +kernel
theorem d_Wd_takeByte_24 : decode c_Wd_takeByte 24 = .ok (.invokespecial 51, 3) := by decide +kernel
theorem d_Wd_takeByte_27 : decode c_Wd_takeByte 27 = .ok (.athrow, 1) := by decide +kernel
theorem d_Wd_takeByte_28 : decode c_Wd_takeByte 28 = .ok (.iload_n 1, 1) := by decide +kernel
theorem d_Wd_takeByte_29 : decode c_Wd_takeByte 29 = .ok (.iconst (-1), 1) := by decide +kernel
theorem d_Wd_takeByte_30 : decode c_Wd_takeByte 30 = .ok (.if_icmp .ne 13, 3) := by decide +kernel
theorem d_Wd_takeByte_33 : decode c_Wd_takeByte 33 = .ok (.new 208, 3) := by decide +kernel
theorem d_Wd_takeByte_36 : decode c_Wd_takeByte 36 = .ok (.dup, 1) := by decide +kernel
theorem d_Wd_takeByte_37 : decode c_Wd_takeByte 37 = .ok (.ldc 210, 2) := by decide +kernel
theorem d_Wd_takeByte_39 : decode c_Wd_takeByte 39 = .ok (.invokespecial 212, 3) := by decide +kernel
theorem d_Wd_takeByte_42 : decode c_Wd_takeByte 42 = .ok (.athrow, 1) := by decide +kernel
theorem d_Wd_takeByte_43 : decode c_Wd_takeByte 43 = .ok (.iload_n 1, 1) := by decide +kernel
theorem d_Wd_takeByte_44 : decode c_Wd_takeByte 44 = .ok (.ireturn, 1) := by decide +kernel
theorem d_Mo_init_0 : decode c_Mo_init 0 = .ok (.aload_n 0, 1) := by decide +kernel
theorem d_Mo_init_1 : decode c_Mo_init 1 = .ok (.invokespecial 1, 3) := by decide +kernel
theorem d_Mo_init_4 : decode c_Mo_init 4 = .ok (.aload_n 0, 1) := by decide +kernel
theorem d_Mo_init_5 : decode c_Mo_init 5 = .ok (.sipush 1600, 3) := by decide +kernel
theorem d_Mo_init_8 : decode c_Mo_init 8 = .ok (.newarray .int, 2) := by decide +kernel
theorem d_Mo_init_10 : decode c_Mo_init 10 = .ok (.putfield 7, 3) := by decide +kernel
theorem d_Mo_init_13 : decode c_Mo_init 13 = .ok (.aload_n 0, 1) := by decide +kernel
theorem d_Mo_init_14 : decode c_Mo_init 14 = .ok (.sipush 1024, 3) := by decide +kernel
theorem d_Mo_init_17 : decode c_Mo_init 17 = .ok (.newarray .int, 2) := by decide +kernel
theorem d_Mo_init_19 : decode c_Mo_init 19 = .ok (.putfield 13, 3) := by decide +kernel
theorem d_Mo_init_22 : decode c_Mo_init 22 = .ok (.aload_n 0, 1) := by decide +kernel
theorem d_Mo_init_23 : decode c_Mo_init 23 = .ok (.bipush 40, 2) := by decide +kernel
theorem d_Mo_init_25 : decode c_Mo_init 25 = .ok (.newarray .int, 2) := by decide +kernel
theorem d_Mo_init_27 : decode c_Mo_init 27 = .ok (.putfield 16, 3) := by decide +kernel
theorem d_Mo_init_30 : decode c_Mo_init 30 = .ok (.aload_n 0, 1) := by decide +kernel
theorem d_Mo_init_31 : decode c_Mo_init 31 = .ok (.sipush 1600, 3) := by decide +kernel
theorem d_Mo_init_34 : decode c_Mo_init 34 = .ok (.newarray .int, 2) := by decide +kernel
theorem d_Mo_init_36 : decode c_Mo_init 36 = .ok (.putfield 19, 3) := by decide +kernel
theorem d_Mo_init_39 : decode c_Mo_init 39 = .ok (.aload_n 0, 1) := by decide +kernel
theorem d_Mo_init_40 : decode c_Mo_init 40 = .ok (.bipush 40, 2) := by decide +kernel
theorem d_Mo_init_42 : decode c_Mo_init 42 = .ok (.newarray .int, 2) := by decide +kernel
theorem d_Mo_init_44 : decode c_Mo_init 44 = .ok (.putfield 22, 3) := by decide +kernel
theorem d_Mo_init_47 : decode c_Mo_init 47 = .ok (.return_, 1) := by decide +kernel
theorem d_Mo_thrown_0 : decode c_Mo_thrown 0 = .ok (.aload_n 0, 1) := by decide +kernel
theorem d_Mo_thrown_1 : decode c_Mo_thrown 1 = .ok (.getfield 25, 3) := by decide +kernel
theorem d_Mo_thrown_4 : decode c_Mo_thrown 4 = .ok (.ireturn, 1) := by decide +kernel
theorem d_Mo_fail_0 : decode c_Mo_fail 0 = .ok (.aload_n 0, 1) := by decide +kernel
theorem d_Mo_fail_1 : decode c_Mo_fail 1 = .ok (.iload_n 1, 1) := by decide +kernel
theorem d_Mo_fail_2 : decode c_Mo_fail 2 = .ok (.putfield 25, 3) := by decide +kernel
theorem d_Mo_fail_5 : decode c_Mo_fail 5 = .ok (.iconst 0, 1) := by decide +kernel
theorem d_Mo_fail_6 : decode c_Mo_fail 6 = .ok (.ireturn, 1) := by decide +kernel
theorem d_Mo_append_0 : decode c_Mo_append 0 = .ok (.aload_n 0, 1) := by decide +kernel
theorem d_Mo_append_1 : decode c_Mo_append 1 = .ok (.getfield 7, 3) := by decide +kernel
theorem d_Mo_append_4 : decode c_Mo_append 4 = .ok (.aload_n 0, 1) := by decide +kernel
theorem d_Mo_append_5 : decode c_Mo_append 5 = .ok (.getfield 29, 3) := by decide +kernel
theorem d_Mo_append_8 : decode c_Mo_append 8 = .ok (.iload_n 1, 1) := by decide +kernel
theorem d_Mo_append_9 : decode c_Mo_append 9 = .ok (.sipush 255, 3) := by decide +kernel
theorem d_Mo_append_12 : decode c_Mo_append 12 = .ok (.iand, 1) := by decide +kernel
theorem d_Mo_append_13 : decode c_Mo_append 13 = .ok (.iastore, 1) := by decide +kernel
theorem d_Mo_append_14 : decode c_Mo_append 14 = .ok (.aload_n 0, 1) := by decide +kernel
theorem d_Mo_append_15 : decode c_Mo_append 15 = .ok (.dup, 1) := by decide +kernel
theorem d_Mo_append_16 : decode c_Mo_append 16 = .ok (.getfield 29, 3) := by decide +kernel
theorem d_Mo_append_19 : decode c_Mo_append 19 = .ok (.iconst 1, 1) := by decide +kernel
theorem d_Mo_append_20 : decode c_Mo_append 20 = .ok (.iadd, 1) := by decide +kernel
theorem d_Mo_append_21 : decode c_Mo_append 21 = .ok (.putfield 29, 3) := by decide +kernel
theorem d_Mo_append_24 : decode c_Mo_append 24 = .ok (.return_, 1) := by decide +kernel
theorem d_Mo_flushAll_0 : decode c_Mo_flushAll 0 = .ok (.aload_n 0, 1) := by decide +kernel
theorem d_Mo_flushAll_1 : decode c_Mo_flushAll 1 = .ok (.getfield 32, 3) := by decide +kernel
theorem d_Mo_flushAll_4 : decode c_Mo_flushAll 4 = .ok (.ifCond .ne 4, 3) := by decide +kernel
theorem d_Mo_flushAll_7 : decode c_Mo_flushAll 7 = .ok (.return_, 1) := by decide +kernel
theorem d_Mo_flushAll_8 : decode c_Mo_flushAll 8 = .ok (.aload_n 0, 1) := by decide +kernel
theorem d_Mo_flushAll_9 : decode c_Mo_flushAll 9 = .ok (.getfield 32, 3) := by decide +kernel
theorem d_Mo_flushAll_12 : decode c_Mo_flushAll 12 = .ok (.sipush 255, 3) := by decide +kernel
theorem d_Mo_flushAll_15 : decode c_Mo_flushAll 15 = .ok (.if_icmp .le 46, 3) := by decide +kernel
theorem d_Mo_flushAll_18 : decode c_Mo_flushAll 18 = .ok (.aload_n 0, 1) := by decide +kernel
theorem d_Mo_flushAll_19 : decode c_Mo_flushAll 19 = .ok (.bipush 122, 2) := by decide +kernel
theorem d_Mo_flushAll_21 : decode c_Mo_flushAll 21 = .ok (.invokevirtual 35, 3) := by decide +kernel
theorem d_Mo_flushAll_24 : decode c_Mo_flushAll 24 = .ok (.aload_n 0, 1) := by decide +kernel
theorem d_Mo_flushAll_25 : decode c_Mo_flushAll 25 = .ok (.iconst 0, 1) := by decide +kernel
theorem d_Mo_flushAll_26 : decode c_Mo_flushAll 26 = .ok (.invokevirtual 35, 3) := by decide +kernel
theorem d_Mo_flushAll_29 : decode c_Mo_flushAll 29 = .ok (.aload_n 0, 1) := by decide +kernel
theorem d_Mo_flushAll_30 : decode c_Mo_flushAll 30 = .ok (.iconst 0, 1) := by decide +kernel
theorem d_Mo_flushAll_31 : decode c_Mo_flushAll 31 = .ok (.invokevirtual 35, 3) := by decide +kernel
theorem d_Mo_flushAll_34 : decode c_Mo_flushAll 34 = .ok (.aload_n 0, 1) := by decide +kernel
theorem d_Mo_flushAll_35 : decode c_Mo_flushAll 35 = .ok (.aload_n 0, 1) := by decide +kernel
theorem d_Mo_flushAll_36 : decode c_Mo_flushAll 36 = .ok (.getfield 32, 3) := by decide +kernel
theorem d_Mo_flushAll_39 : decode c_Mo_flushAll 39 = .ok (.sipush 256, 3) := by decide +kernel
theorem d_Mo_flushAll_42 : decode c_Mo_flushAll 42 = .ok (.idiv, 1) := by decide +kernel
theorem d_Mo_flushAll_43 : decode c_Mo_flushAll 43 = .ok (.invokevirtual 35, 3) := by decide +kernel
theorem d_Mo_flushAll_46 : decode c_Mo_flushAll 46 = .ok (.aload_n 0, 1) := by decide +kernel
theorem d_Mo_flushAll_47 : decode c_Mo_flushAll 47 = .ok (.aload_n 0, 1) := by decide +kernel
theorem d_Mo_flushAll_48 : decode c_Mo_flushAll 48 = .ok (.getfield 32, 3) := by decide +kernel
theorem d_Mo_flushAll_51 : decode c_Mo_flushAll 51 = .ok (.sipush 256, 3) := by decide +kernel
theorem d_Mo_flushAll_54 : decode c_Mo_flushAll 54 = .ok (.irem, 1) := by decide +kernel
theorem d_Mo_flushAll_55 : decode c_Mo_flushAll 55 = .ok (.invokevirtual 35, 3) := by decide +kernel
theorem d_Mo_flushAll_58 : decode c_Mo_flushAll 58 = .ok (.goto 17, 3) := by decide +kernel
theorem d_Mo_flushAll_61 : decode c_Mo_flushAll 61 = .ok (.aload_n 0, 1) := by decide +kernel
theorem d_Mo_flushAll_62 : decode c_Mo_flushAll 62 = .ok (.bipush 119, 2) := by decide +kernel
theorem d_Mo_flushAll_64 : decode c_Mo_flushAll 64 = .ok (.invokevirtual 35, 3) := by decide +kernel
theorem d_Mo_flushAll_67 : decode c_Mo_flushAll 67 = .ok (.aload_n 0, 1) := by decide +kernel
theorem d_Mo_flushAll_68 : decode c_Mo_flushAll 68 = .ok (.aload_n 0, 1) := by decide +kernel
theorem d_Mo_flushAll_69 : decode c_Mo_flushAll 69 = .ok (.getfield 32, 3) := by decide +kernel
theorem d_Mo_flushAll_72 : decode c_Mo_flushAll 72 = .ok (.invokevirtual 35, 3) := by decide +kernel
theorem d_Mo_flushAll_75 : decode c_Mo_flushAll 75 = .ok (.iconst 0, 1) := by decide +kernel
theorem d_Mo_flushAll_76 : decode c_Mo_flushAll 76 = .ok (.istore_n 1, 1) := by decide +kernel
theorem d_Mo_flushAll_77 : decode c_Mo_flushAll 77 = .ok (.iload_n 1, 1) := by decide +kernel
theorem d_Mo_flushAll_78 : decode c_Mo_flushAll 78 = .ok (.aload_n 0, 1) := by decide +kernel
theorem d_Mo_flushAll_79 : decode c_Mo_flushAll 79 = .ok (.getfield 32, 3) := by decide +kernel
theorem d_Mo_flushAll_82 : decode c_Mo_flushAll 82 = .ok (.if_icmp .ge 19, 3) := by decide +kernel
theorem d_Mo_flushAll_85 : decode c_Mo_flushAll 85 = .ok (.aload_n 0, 1) := by decide +kernel
theorem d_Mo_flushAll_86 : decode c_Mo_flushAll 86 = .ok (.aload_n 0, 1) := by decide +kernel
theorem d_Mo_flushAll_87 : decode c_Mo_flushAll 87 = .ok (.getfield 13, 3) := by decide +kernel
theorem d_Mo_flushAll_90 : decode c_Mo_flushAll 90 = .ok (.iload_n 1, 1) := by decide +kernel
theorem d_Mo_flushAll_91 : decode c_Mo_flushAll 91 = .ok (.iaload, 1) := by decide +kernel
theorem d_Mo_flushAll_92 : decode c_Mo_flushAll 92 = .ok (.invokevirtual 35, 3) := by decide +kernel
theorem d_Mo_flushAll_95 : decode c_Mo_flushAll 95 = .ok (.iinc 1 1, 3) := by decide +kernel
theorem d_Mo_flushAll_98 : decode c_Mo_flushAll 98 = .ok (.goto (-21), 3) := by decide +kernel
theorem d_Mo_flushAll_101 : decode c_Mo_flushAll 101 = .ok (.aload_n 0, 1) := by decide +kernel
theorem d_Mo_flushAll_102 : decode c_Mo_flushAll 102 = .ok (.iconst 0, 1) := by decide +kernel
theorem d_Mo_flushAll_103 : decode c_Mo_flushAll 103 = .ok (.putfield 32, 3) := by decide +kernel
theorem d_Mo_flushAll_106 : decode c_Mo_flushAll 106 = .ok (.return_, 1) := by decide +kernel
theorem d_Mo_data_0 : decode c_Mo_data 0 = .ok (.aload_n 0, 1) := by decide +kernel
theorem d_Mo_data_1 : decode c_Mo_data 1 = .ok (.getfield 39, 3) := by decide +kernel
theorem d_Mo_data_4 : decode c_Mo_data 4 = .ok (.ifCond .ne 9, 3) := by decide +kernel
theorem d_Mo_data_7 : decode c_Mo_data 7 = .ok (.aload_n 0, 1) := by decide +kernel
theorem d_Mo_data_8 : decode c_Mo_data 8 = .ok (.iload_n 1, 1) := by decide +kernel
theorem d_Mo_data_9 : decode c_Mo_data 9 = .ok (.invokevirtual 35, 3) := by decide +kernel
theorem d_Mo_data_12 : decode c_Mo_data 12 = .ok (.return_, 1) := by decide +kernel
theorem d_Mo_data_13 : decode c_Mo_data 13 = .ok (.aload_n 0, 1) := by decide +kernel
theorem d_Mo_data_14 : decode c_Mo_data 14 = .ok (.getfield 13, 3) := by decide +kernel
theorem d_Mo_data_17 : decode c_Mo_data 17 = .ok (.aload_n 0, 1) := by decide +kernel
theorem d_Mo_data_18 : decode c_Mo_data 18 = .ok (.getfield 32, 3) := by decide +kernel
theorem d_Mo_data_21 : decode c_Mo_data 21 = .ok (.iload_n 1, 1) := by decide +kernel
theorem d_Mo_data_22 : decode c_Mo_data 22 = .ok (.sipush 255, 3) := by decide +kernel
theorem d_Mo_data_25 : decode c_Mo_data 25 = .ok (.iand, 1) := by decide +kernel
theorem d_Mo_data_26 : decode c_Mo_data 26 = .ok (.iastore, 1) := by decide +kernel
theorem d_Mo_data_27 : decode c_Mo_data 27 = .ok (.aload_n 0, 1) := by decide +kernel
theorem d_Mo_data_28 : decode c_Mo_data 28 = .ok (.dup, 1) := by decide +kernel
theorem d_Mo_data_29 : decode c_Mo_data 29 = .ok (.getfield 32, 3) := by decide +kernel
theorem d_Mo_data_32 : decode c_Mo_data 32 = .ok (.iconst 1, 1) := by decide +kernel
theorem d_Mo_data_33 : decode c_Mo_data 33 = .ok (.iadd, 1) := by decide +kernel
theorem d_Mo_data_34 : decode c_Mo_data 34 = .ok (.putfield 32, 3) := by decide +kernel
theorem d_Mo_data_37 : decode c_Mo_data 37 = .ok (.aload_n 0, 1) := by decide +kernel
theorem d_Mo_data_38 : decode c_Mo_data 38 = .ok (.getfield 32, 3) := by decide +kernel
theorem d_Mo_data_41 : decode c_Mo_data 41 = .ok (.sipush 1024, 3) := by decide +kernel
theorem d_Mo_data_44 : decode c_Mo_data 44 = .ok (.if_icmp .ne 7, 3) := by decide +kernel
theorem d_Mo_data_47 : decode c_Mo_data 47 = .ok (.aload_n 0, 1) := by decide +kernel
theorem d_Mo_data_48 : decode c_Mo_data 48 = .ok (.invokevirtual 43, 3) := by decide +kernel
theorem d_Mo_data_51 : decode c_Mo_data 51 = .ok (.return_, 1) := by decide +kernel
theorem d_Mo_noRoom_0 : decode c_Mo_noRoom 0 = .ok (.aload_n 0, 1) := by decide +kernel
theorem d_Mo_noRoom_1 : decode c_Mo_noRoom 1 = .ok (.getfield 29, 3) := by decide +kernel
theorem d_Mo_noRoom_4 : decode c_Mo_noRoom 4 = .ok (.aload_n 0, 1) := by decide +kernel
theorem d_Mo_noRoom_5 : decode c_Mo_noRoom 5 = .ok (.getfield 32, 3) := by decide +kernel
theorem d_Mo_noRoom_8 : decode c_Mo_noRoom 8 = .ok (.iadd, 1) := by decide +kernel
theorem d_Mo_noRoom_9 : decode c_Mo_noRoom 9 = .ok (.iload_n 1, 1) := by decide +kernel
theorem d_Mo_noRoom_10 : decode c_Mo_noRoom 10 = .ok (.iadd, 1) := by decide +kernel
theorem d_Mo_noRoom_11 : decode c_Mo_noRoom 11 = .ok (.sipush 1500, 3) := by decide +kernel
theorem d_Mo_noRoom_14 : decode c_Mo_noRoom 14 = .ok (.if_icmp .le 7, 3) := by decide +kernel
theorem d_Mo_noRoom_17 : decode c_Mo_noRoom 17 = .ok (.iconst 1, 1) := by decide +kernel
theorem d_Mo_noRoom_18 : decode c_Mo_noRoom 18 = .ok (.goto 4, 3) := by decide +kernel
theorem d_Mo_noRoom_21 : decode c_Mo_noRoom 21 = .ok (.iconst 0, 1) := by decide +kernel
theorem d_Mo_noRoom_22 : decode c_Mo_noRoom 22 = .ok (.ireturn, 1) := by decide +kernel
theorem d_Mo_bytes_0 : decode c_Mo_bytes 0 = .ok (.aload_n 0, 1) := by decide +kernel
theorem d_Mo_bytes_1 : decode c_Mo_bytes 1 = .ok (.iload_n 3, 1) := by decide +kernel
theorem d_Mo_bytes_2 : decode c_Mo_bytes 2 = .ok (.invokevirtual 46, 3) := by decide +kernel
theorem d_Mo_bytes_5 : decode c_Mo_bytes 5 = .ok (.ifCond .eq 6, 3) := by decide +kernel
theorem d_Mo_bytes_8 : decode c_Mo_bytes 8 = .ok (.bipush (-2), 2) := by decide +kernel
theorem d_Mo_bytes_10 : decode c_Mo_bytes 10 = .ok (.ireturn, 1) := by decide +kernel
theorem d_Mo_bytes_11 : decode c_Mo_bytes 11 = .ok (.iload_n 3, 1) := by decide +kernel
theorem d_Mo_bytes_12 : decode c_Mo_bytes 12 = .ok (.iconst 1, 1) := by decide +kernel
theorem d_Mo_bytes_13 : decode c_Mo_bytes 13 = .ok (.isub, 1) := by decide +kernel
theorem d_Mo_bytes_14 : decode c_Mo_bytes 14 = .ok (.istore 4, 2) := by decide +kernel
theorem d_Mo_bytes_16 : decode c_Mo_bytes 16 = .ok (.iload 4, 2) := by decide +kernel
theorem d_Mo_bytes_18 : decode c_Mo_bytes 18 = .ok (.ifCond .lt 21, 3) := by decide +kernel
theorem d_Mo_bytes_21 : decode c_Mo_bytes 21 = .ok (.aload_n 0, 1) := by decide +kernel
theorem d_Mo_bytes_22 : decode c_Mo_bytes 22 = .ok (.lload_n 1, 1) := by decide +kernel
theorem d_Mo_bytes_23 : decode c_Mo_bytes 23 = .ok (.bipush 8, 2) := by decide +kernel
theorem d_Mo_bytes_25 : decode c_Mo_bytes 25 = .ok (.iload 4, 2) := by decide +kernel
theorem d_Mo_bytes_27 : decode c_Mo_bytes 27 = .ok (.imul, 1) := by decide +kernel
theorem d_Mo_bytes_28 : decode c_Mo_bytes 28 = .ok (.lshr, 1) := by decide +kernel
theorem d_Mo_bytes_29 : decode c_Mo_bytes 29 = .ok (.l2i, 1) := by decide +kernel
theorem d_Mo_bytes_30 : decode c_Mo_bytes 30 = .ok (.invokevirtual 50, 3) := by decide +kernel
theorem d_Mo_bytes_33 : decode c_Mo_bytes 33 = .ok (.iinc 4 (-1), 3) := by decide +kernel
theorem d_Mo_bytes_36 : decode c_Mo_bytes 36 = .ok (.goto (-20), 3) := by decide +kernel
theorem d_Mo_bytes_39 : decode c_Mo_bytes 39 = .ok (.iload_n 3, 1) := by decide +kernel
theorem d_Mo_bytes_40 : decode c_Mo_bytes 40 = .ok (.ireturn, 1) := by decide +kernel
theorem d_Mo_raw_0 : decode c_Mo_raw 0 = .ok (.aload_n 0, 1) := by decide +kernel
theorem d_Mo_raw_1 : decode c_Mo_raw 1 = .ok (.iconst 0, 1) := by decide +kernel
theorem d_Mo_raw_2 : decode c_Mo_raw 2 = .ok (.putfield 25, 3) := by decide +kernel
theorem d_Mo_raw_5 : decode c_Mo_raw 5 = .ok (.iload_n 3, 1) := by decide +kernel
theorem d_Mo_raw_6 : decode c_Mo_raw 6 = .ok (.iconst 1, 1) := by decide +kernel
theorem d_Mo_raw_7 : decode c_Mo_raw 7 = .ok (.if_icmp .lt 9, 3) := by decide +kernel
theorem d_Mo_raw_10 : decode c_Mo_raw 10 = .ok (.iload_n 3, 1) := by decide +kernel
theorem d_Mo_raw_11 : decode c_Mo_raw 11 = .ok (.bipush 8, 2) := by decide +kernel
theorem d_Mo_raw_13 : decode c_Mo_raw 13 = .ok (.if_icmp .le 9, 3) := by decide +kernel
theorem d_Mo_raw_16 : decode c_Mo_raw 16 = .ok (.aload_n 0, 1) := by decide +kernel
theorem d_Mo_raw_17 : decode c_Mo_raw 17 = .ok (.iconst 2, 1) := by decide +kernel
theorem d_Mo_raw_18 : decode c_Mo_raw 18 = .ok (.invokevirtual 53, 3) := by decide +kernel
theorem d_Mo_raw_21 : decode c_Mo_raw 21 = .ok (.ireturn, 1) := by decide +kernel
theorem d_Mo_raw_22 : decode c_Mo_raw 22 = .ok (.aload_n 0, 1) := by decide +kernel
theorem d_Mo_raw_23 : decode c_Mo_raw 23 = .ok (.getfield 39, 3) := by decide +kernel
theorem d_Mo_raw_26 : decode c_Mo_raw 26 = .ok (.ifCond .eq 9, 3) := by decide +kernel
theorem d_Mo_raw_29 : decode c_Mo_raw 29 = .ok (.aload_n 0, 1) := by decide +kernel
theorem d_Mo_raw_30 : decode c_Mo_raw 30 = .ok (.iconst 1, 1) := by decide +kernel
theorem d_Mo_raw_31 : decode c_Mo_raw 31 = .ok (.invokevirtual 53, 3) := by decide +kernel
theorem d_Mo_raw_34 : decode c_Mo_raw 34 = .ok (.ireturn, 1) := by decide +kernel
theorem d_Mo_raw_35 : decode c_Mo_raw 35 = .ok (.aload_n 0, 1) := by decide +kernel
theorem d_Mo_raw_36 : decode c_Mo_raw 36 = .ok (.lload_n 1, 1) := by decide +kernel
theorem d_Mo_raw_37 : decode c_Mo_raw 37 = .ok (.iload_n 3, 1) := by decide +kernel
theorem d_Mo_raw_38 : decode c_Mo_raw 38 = .ok (.invokevirtual 57, 3) := by decide +kernel
theorem d_Mo_raw_41 : decode c_Mo_raw 41 = .ok (.bipush (-2), 2) := by decide +kernel
theorem d_Mo_raw_43 : decode c_Mo_raw 43 = .ok (.if_icmp .ne 8, 3) := by decide +kernel
