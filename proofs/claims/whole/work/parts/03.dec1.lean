theorem d_Mo_raw_46 : decode c_Mo_raw 46 = .ok (.bipush (-2), 2) := by decide +kernel
theorem d_Mo_raw_48 : decode c_Mo_raw 48 = .ok (.goto 7, 3) := by decide +kernel
theorem d_Mo_raw_51 : decode c_Mo_raw 51 = .ok (.aload_n 0, 1) := by decide +kernel
theorem d_Mo_raw_52 : decode c_Mo_raw 52 = .ok (.getfield 29, 3) := by decide +kernel
theorem d_Mo_raw_55 : decode c_Mo_raw 55 = .ok (.ireturn, 1) := by decide +kernel
theorem d_Mo_blocks_0 : decode c_Mo_blocks 0 = .ok (.aload_n 0, 1) := by decide +kernel
theorem d_Mo_blocks_1 : decode c_Mo_blocks 1 = .ok (.iconst 0, 1) := by decide +kernel
theorem d_Mo_blocks_2 : decode c_Mo_blocks 2 = .ok (.putfield 25, 3) := by decide +kernel
theorem d_Mo_blocks_5 : decode c_Mo_blocks 5 = .ok (.iload_n 1, 1) := by decide +kernel
theorem d_Mo_blocks_6 : decode c_Mo_blocks 6 = .ok (.aload_n 0, 1) := by decide +kernel
theorem d_Mo_blocks_7 : decode c_Mo_blocks 7 = .ok (.getfield 39, 3) := by decide +kernel
theorem d_Mo_blocks_10 : decode c_Mo_blocks 10 = .ok (.if_icmp .eq 7, 3) := by decide +kernel
theorem d_Mo_blocks_13 : decode c_Mo_blocks 13 = .ok (.aload_n 0, 1) := by decide +kernel
theorem d_Mo_blocks_14 : decode c_Mo_blocks 14 = .ok (.invokevirtual 43, 3) := by decide +kernel
theorem d_Mo_blocks_17 : decode c_Mo_blocks 17 = .ok (.aload_n 0, 1) := by decide +kernel
theorem d_Mo_blocks_18 : decode c_Mo_blocks 18 = .ok (.iload_n 1, 1) := by decide +kernel
theorem d_Mo_blocks_19 : decode c_Mo_blocks 19 = .ok (.putfield 39, 3) := by decide +kernel
theorem d_Mo_blocks_22 : decode c_Mo_blocks 22 = .ok (.aload_n 0, 1) := by decide +kernel
theorem d_Mo_blocks_23 : decode c_Mo_blocks 23 = .ok (.getfield 29, 3) := by decide +kernel
theorem d_Mo_blocks_26 : decode c_Mo_blocks 26 = .ok (.ireturn, 1) := by decide +kernel
theorem d_Mo_width_0 : decode c_Mo_width 0 = .ok (.iload_n 1, 1) := by decide +kernel
theorem d_Mo_width_1 : decode c_Mo_width 1 = .ok (.iconst 2, 1) := by decide +kernel
theorem d_Mo_width_2 : decode c_Mo_width 2 = .ok (.if_icmp .ge 7, 3) := by decide +kernel
theorem d_Mo_width_5 : decode c_Mo_width 5 = .ok (.iconst 1, 1) := by decide +kernel
theorem d_Mo_width_6 : decode c_Mo_width 6 = .ok (.goto 23, 3) := by decide +kernel
theorem d_Mo_width_9 : decode c_Mo_width 9 = .ok (.iload_n 1, 1) := by decide +kernel
theorem d_Mo_width_10 : decode c_Mo_width 10 = .ok (.iconst 4, 1) := by decide +kernel
theorem d_Mo_width_11 : decode c_Mo_width 11 = .ok (.if_icmp .ge 7, 3) := by decide +kernel
theorem d_Mo_width_14 : decode c_Mo_width 14 = .ok (.iconst 2, 1) := by decide +kernel
theorem d_Mo_width_15 : decode c_Mo_width 15 = .ok (.goto 14, 3) := by decide +kernel
theorem d_Mo_width_18 : decode c_Mo_width 18 = .ok (.iload_n 1, 1) := by decide +kernel
theorem d_Mo_width_19 : decode c_Mo_width 19 = .ok (.iconst 4, 1) := by decide +kernel
theorem d_Mo_width_20 : decode c_Mo_width 20 = .ok (.if_icmp .ne 7, 3) := by decide +kernel
theorem d_Mo_width_23 : decode c_Mo_width 23 = .ok (.iconst 4, 1) := by decide +kernel
theorem d_Mo_width_24 : decode c_Mo_width 24 = .ok (.goto 5, 3) := by decide +kernel
theorem d_Mo_width_27 : decode c_Mo_width 27 = .ok (.bipush 8, 2) := by decide +kernel
theorem d_Mo_width_29 : decode c_Mo_width 29 = .ok (.ireturn, 1) := by decide +kernel
theorem d_Mo_write_0 : decode c_Mo_write 0 = .ok (.aload_n 0, 1) := by decide +kernel
theorem d_Mo_write_1 : decode c_Mo_write 1 = .ok (.iconst 0, 1) := by decide +kernel
theorem d_Mo_write_2 : decode c_Mo_write 2 = .ok (.putfield 25, 3) := by decide +kernel
theorem d_Mo_write_5 : decode c_Mo_write 5 = .ok (.iload_n 1, 1) := by decide +kernel
theorem d_Mo_write_6 : decode c_Mo_write 6 = .ok (.ifCond .lt 8, 3) := by decide +kernel
theorem d_Mo_write_9 : decode c_Mo_write 9 = .ok (.iload_n 1, 1) := by decide +kernel
theorem d_Mo_write_10 : decode c_Mo_write 10 = .ok (.iconst 5, 1) := by decide +kernel
theorem d_Mo_write_11 : decode c_Mo_write 11 = .ok (.if_icmp .le 9, 3) := by decide +kernel
theorem d_Mo_write_14 : decode c_Mo_write 14 = .ok (.aload_n 0, 1) := by decide +kernel
theorem d_Mo_write_15 : decode c_Mo_write 15 = .ok (.iconst 1, 1) := by decide +kernel
theorem d_Mo_write_16 : decode c_Mo_write 16 = .ok (.invokevirtual 53, 3) := by decide +kernel
theorem d_Mo_write_19 : decode c_Mo_write 19 = .ok (.ireturn, 1) := by decide +kernel
theorem d_Mo_write_20 : decode c_Mo_write 20 = .ok (.iload_n 1, 1) := by decide +kernel
theorem d_Mo_write_21 : decode c_Mo_write 21 = .ok (.ifCond .ne 17, 3) := by decide +kernel
theorem d_Mo_write_24 : decode c_Mo_write 24 = .ok (.lload_n 2, 1) := by decide +kernel
theorem d_Mo_write_25 : decode c_Mo_write 25 = .ok (.lconst 0, 1) := by decide +kernel
theorem d_Mo_write_26 : decode c_Mo_write 26 = .ok (.lcmp, 1) := by decide +kernel
theorem d_Mo_write_27 : decode c_Mo_write 27 = .ok (.ifCond .ne 7, 3) := by decide +kernel
theorem d_Mo_write_30 : decode c_Mo_write 30 = .ok (.lconst 0, 1) := by decide +kernel
theorem d_Mo_write_31 : decode c_Mo_write 31 = .ok (.goto 8, 3) := by decide +kernel
theorem d_Mo_write_34 : decode c_Mo_write 34 = .ok (.lconst 1, 1) := by decide +kernel
theorem d_Mo_write_35 : decode c_Mo_write 35 = .ok (.goto 4, 3) := by decide +kernel
theorem d_Mo_write_38 : decode c_Mo_write 38 = .ok (.lload_n 2, 1) := by decide +kernel
theorem d_Mo_write_39 : decode c_Mo_write 39 = .ok (.lstore 4, 2) := by decide +kernel
theorem d_Mo_write_41 : decode c_Mo_write 41 = .ok (.aload_n 0, 1) := by decide +kernel
theorem d_Mo_write_42 : decode c_Mo_write 42 = .ok (.lload 4, 2) := by decide +kernel
theorem d_Mo_write_44 : decode c_Mo_write 44 = .ok (.aload_n 0, 1) := by decide +kernel
theorem d_Mo_write_45 : decode c_Mo_write 45 = .ok (.iload_n 1, 1) := by decide +kernel
theorem d_Mo_write_46 : decode c_Mo_write 46 = .ok (.invokevirtual 61, 3) := by decide +kernel
theorem d_Mo_write_49 : decode c_Mo_write 49 = .ok (.invokevirtual 57, 3) := by decide +kernel
theorem d_Mo_write_52 : decode c_Mo_write 52 = .ok (.ireturn, 1) := by decide +kernel
theorem d_Mo_bitsOf_0 : decode c_Mo_bitsOf 0 = .ok (.dload_n 1, 1) := by decide +kernel
theorem d_Mo_bitsOf_1 : decode c_Mo_bitsOf 1 = .ok (.dconst 0, 1) := by decide +kernel
theorem d_Mo_bitsOf_2 : decode c_Mo_bitsOf 2 = .ok (.dcmp .l, 1) := by decide +kernel
theorem d_Mo_bitsOf_3 : decode c_Mo_bitsOf 3 = .ok (.ifCond .ne 5, 3) := by decide +kernel
theorem d_Mo_bitsOf_6 : decode c_Mo_bitsOf 6 = .ok (.lconst 0, 1) := by decide +kernel
theorem d_Mo_bitsOf_7 : decode c_Mo_bitsOf 7 = .ok (.lreturn, 1) := by decide +kernel
theorem d_Mo_bitsOf_8 : decode c_Mo_bitsOf 8 = .ok (.dload_n 1, 1) := by decide +kernel
theorem d_Mo_bitsOf_9 : decode c_Mo_bitsOf 9 = .ok (.dconst 0, 1) := by decide +kernel
theorem d_Mo_bitsOf_10 : decode c_Mo_bitsOf 10 = .ok (.dcmp .g, 1) := by decide +kernel
theorem d_Mo_bitsOf_11 : decode c_Mo_bitsOf 11 = .ok (.ifCond .ge 8, 3) := by decide +kernel
theorem d_Mo_bitsOf_14 : decode c_Mo_bitsOf 14 = .ok (.dload_n 1, 1) := by decide +kernel
theorem d_Mo_bitsOf_15 : decode c_Mo_bitsOf 15 = .ok (.dneg, 1) := by decide +kernel
theorem d_Mo_bitsOf_16 : decode c_Mo_bitsOf 16 = .ok (.goto 4, 3) := by decide +kernel
theorem d_Mo_bitsOf_19 : decode c_Mo_bitsOf 19 = .ok (.dload_n 1, 1) := by decide +kernel
theorem d_Mo_bitsOf_20 : decode c_Mo_bitsOf 20 = .ok (.dstore 7, 2) := by decide +kernel
theorem d_Mo_bitsOf_22 : decode c_Mo_bitsOf 22 = .ok (.lload 5, 2) := by decide +kernel
theorem d_Mo_bitsOf_24 : decode c_Mo_bitsOf 24 = .ok (.lstore 9, 2) := by decide +kernel
theorem d_Mo_bitsOf_26 : decode c_Mo_bitsOf 26 = .ok (.lconst 0, 1) := by decide +kernel
theorem d_Mo_bitsOf_27 : decode c_Mo_bitsOf 27 = .ok (.lstore 11, 2) := by decide +kernel
theorem d_Mo_bitsOf_29 : decode c_Mo_bitsOf 29 = .ok (.dload 7, 2) := by decide +kernel
theorem d_Mo_bitsOf_31 : decode c_Mo_bitsOf 31 = .ok (.ldc2_w 64, 3) := by decide +kernel
theorem d_Mo_bitsOf_34 : decode c_Mo_bitsOf 34 = .ok (.dcmp .g, 1) := by decide +kernel
theorem d_Mo_bitsOf_35 : decode c_Mo_bitsOf 35 = .ok (.ifCond .gt 110, 3) := by decide +kernel
theorem d_Mo_bitsOf_38 : decode c_Mo_bitsOf 38 = .ok (.iconst 0, 1) := by decide +kernel
theorem d_Mo_bitsOf_39 : decode c_Mo_bitsOf 39 = .ok (.istore 13, 2) := by decide +kernel
theorem d_Mo_bitsOf_41 : decode c_Mo_bitsOf 41 = .ok (.dload 7, 2) := by decide +kernel
theorem d_Mo_bitsOf_43 : decode c_Mo_bitsOf 43 = .ok (.ldc2_w 66, 3) := by decide +kernel
theorem d_Mo_bitsOf_46 : decode c_Mo_bitsOf 46 = .ok (.dcmp .l, 1) := by decide +kernel
theorem d_Mo_bitsOf_47 : decode c_Mo_bitsOf 47 = .ok (.ifCond .lt 25, 3) := by decide +kernel
theorem d_Mo_bitsOf_50 : decode c_Mo_bitsOf 50 = .ok (.iload 13, 2) := by decide +kernel
theorem d_Mo_bitsOf_52 : decode c_Mo_bitsOf 52 = .ok (.sipush 2000, 3) := by decide +kernel
theorem d_Mo_bitsOf_55 : decode c_Mo_bitsOf 55 = .ok (.if_icmp .ge 17, 3) := by decide +kernel
theorem d_Mo_bitsOf_58 : decode c_Mo_bitsOf 58 = .ok (.dload 7, 2) := by decide +kernel
theorem d_Mo_bitsOf_60 : decode c_Mo_bitsOf 60 = .ok (.ldc2_w 68, 3) := by decide +kernel
theorem d_Mo_bitsOf_63 : decode c_Mo_bitsOf 63 = .ok (.dmul, 1) := by decide +kernel
theorem d_Mo_bitsOf_64 : decode c_Mo_bitsOf 64 = .ok (.dstore 7, 2) := by decide +kernel
theorem d_Mo_bitsOf_66 : decode c_Mo_bitsOf 66 = .ok (.iinc 13 1, 3) := by decide +kernel
theorem d_Mo_bitsOf_69 : decode c_Mo_bitsOf 69 = .ok (.goto (-28), 3) := by decide +kernel
theorem d_Mo_bitsOf_72 : decode c_Mo_bitsOf 72 = .ok (.dload 7, 2) := by decide +kernel
theorem d_Mo_bitsOf_74 : decode c_Mo_bitsOf 74 = .ok (.dconst 1, 1) := by decide +kernel
theorem d_Mo_bitsOf_75 : decode c_Mo_bitsOf 75 = .ok (.dcmp .g, 1) := by decide +kernel
theorem d_Mo_bitsOf_76 : decode c_Mo_bitsOf 76 = .ok (.ifCond .ge 24, 3) := by decide +kernel
theorem d_Mo_bitsOf_79 : decode c_Mo_bitsOf 79 = .ok (.iload 13, 2) := by decide +kernel
theorem d_Mo_bitsOf_81 : decode c_Mo_bitsOf 81 = .ok (.iload 4, 2) := by decide +kernel
theorem d_Mo_bitsOf_83 : decode c_Mo_bitsOf 83 = .ok (.if_icmp .le 17, 3) := by decide +kernel
theorem d_Mo_bitsOf_86 : decode c_Mo_bitsOf 86 = .ok (.dload 7, 2) := by decide +kernel
theorem d_Mo_bitsOf_88 : decode c_Mo_bitsOf 88 = .ok (.ldc2_w 66, 3) := by decide +kernel
theorem d_Mo_bitsOf_91 : decode c_Mo_bitsOf 91 = .ok (.dmul, 1) := by decide +kernel
theorem d_Mo_bitsOf_92 : decode c_Mo_bitsOf 92 = .ok (.dstore 7, 2) := by decide +kernel
theorem d_Mo_bitsOf_94 : decode c_Mo_bitsOf 94 = .ok (.iinc 13 (-1), 3) := by decide +kernel
theorem d_Mo_bitsOf_97 : decode c_Mo_bitsOf 97 = .ok (.goto (-25), 3) := by decide +kernel
theorem d_Mo_bitsOf_100 : decode c_Mo_bitsOf 100 = .ok (.dload 7, 2) := by decide +kernel
theorem d_Mo_bitsOf_102 : decode c_Mo_bitsOf 102 = .ok (.dconst 1, 1) := by decide +kernel
theorem d_Mo_bitsOf_103 : decode c_Mo_bitsOf 103 = .ok (.dcmp .g, 1) := by decide +kernel
theorem d_Mo_bitsOf_104 : decode c_Mo_bitsOf 104 = .ok (.ifCond .ge 7, 3) := by decide +kernel
theorem d_Mo_bitsOf_107 : decode c_Mo_bitsOf 107 = .ok (.lconst 0, 1) := by decide +kernel
theorem d_Mo_bitsOf_108 : decode c_Mo_bitsOf 108 = .ok (.goto 11, 3) := by decide +kernel
theorem d_Mo_bitsOf_111 : decode c_Mo_bitsOf 111 = .ok (.iload 13, 2) := by decide +kernel
theorem d_Mo_bitsOf_113 : decode c_Mo_bitsOf 113 = .ok (.iload 4, 2) := by decide +kernel
theorem d_Mo_bitsOf_115 : decode c_Mo_bitsOf 115 = .ok (.isub, 1) := by decide +kernel
theorem d_Mo_bitsOf_116 : decode c_Mo_bitsOf 116 = .ok (.i2l, 1) := by decide +kernel
theorem d_Mo_bitsOf_117 : decode c_Mo_bitsOf 117 = .ok (.lconst 1, 1) := by decide +kernel
theorem d_Mo_bitsOf_118 : decode c_Mo_bitsOf 118 = .ok (.ladd, 1) := by decide +kernel
theorem d_Mo_bitsOf_119 : decode c_Mo_bitsOf 119 = .ok (.lstore 9, 2) := by decide +kernel
theorem d_Mo_bitsOf_121 : decode c_Mo_bitsOf 121 = .ok (.dload 7, 2) := by decide +kernel
theorem d_Mo_bitsOf_123 : decode c_Mo_bitsOf 123 = .ok (.dconst 1, 1) := by decide +kernel
theorem d_Mo_bitsOf_124 : decode c_Mo_bitsOf 124 = .ok (.dcmp .g, 1) := by decide +kernel
theorem d_Mo_bitsOf_125 : decode c_Mo_bitsOf 125 = .ok (.ifCond .ge 8, 3) := by decide +kernel
theorem d_Mo_bitsOf_128 : decode c_Mo_bitsOf 128 = .ok (.dload 7, 2) := by decide +kernel
theorem d_Mo_bitsOf_130 : decode c_Mo_bitsOf 130 = .ok (.goto 7, 3) := by decide +kernel
theorem d_Mo_bitsOf_133 : decode c_Mo_bitsOf 133 = .ok (.dload 7, 2) := by decide +kernel
theorem d_Mo_bitsOf_135 : decode c_Mo_bitsOf 135 = .ok (.dconst 1, 1) := by decide +kernel
theorem d_Mo_bitsOf_136 : decode c_Mo_bitsOf 136 = .ok (.dsub, 1) := by decide +kernel
theorem d_Mo_bitsOf_137 : decode c_Mo_bitsOf 137 = .ok (.lconst 1, 1) := by decide +kernel
theorem d_Mo_bitsOf_138 : decode c_Mo_bitsOf 138 = .ok (.iload_n 3, 1) := by decide +kernel
theorem d_Mo_bitsOf_139 : decode c_Mo_bitsOf 139 = .ok (.lshl, 1) := by decide +kernel
theorem d_Mo_bitsOf_140 : decode c_Mo_bitsOf 140 = .ok (.l2d, 1) := by decide +kernel
theorem d_Mo_bitsOf_141 : decode c_Mo_bitsOf 141 = .ok (.dmul, 1) := by decide +kernel
theorem d_Mo_bitsOf_142 : decode c_Mo_bitsOf 142 = .ok (.d2l, 1) := by decide +kernel
theorem d_Mo_bitsOf_143 : decode c_Mo_bitsOf 143 = .ok (.lstore 11, 2) := by decide +kernel
theorem d_Mo_bitsOf_145 : decode c_Mo_bitsOf 145 = .ok (.dload_n 1, 1) := by decide +kernel
theorem d_Mo_bitsOf_146 : decode c_Mo_bitsOf 146 = .ok (.dconst 0, 1) := by decide +kernel
theorem d_Mo_bitsOf_147 : decode c_Mo_bitsOf 147 = .ok (.dcmp .g, 1) := by decide +kernel
theorem d_Mo_bitsOf_148 : decode c_Mo_bitsOf 148 = .ok (.ifCond .ge 12, 3) := by decide +kernel
theorem d_Mo_bitsOf_151 : decode c_Mo_bitsOf 151 = .ok (.lload 5, 2) := by decide +kernel
theorem d_Mo_bitsOf_153 : decode c_Mo_bitsOf 153 = .ok (.lconst 1, 1) := by decide +kernel
theorem d_Mo_bitsOf_154 : decode c_Mo_bitsOf 154 = .ok (.ladd, 1) := by decide +kernel
theorem d_Mo_bitsOf_155 : decode c_Mo_bitsOf 155 = .ok (.iload_n 3, 1) := by decide +kernel
theorem d_Mo_bitsOf_156 : decode c_Mo_bitsOf 156 = .ok (.lshl, 1) := by decide +kernel
theorem d_Mo_bitsOf_157 : decode c_Mo_bitsOf 157 = .ok (.goto 4, 3) := by decide +kernel
theorem d_Mo_bitsOf_160 : decode c_Mo_bitsOf 160 = .ok (.lconst 0, 1) := by decide +kernel
theorem d_Mo_bitsOf_161 : decode c_Mo_bitsOf 161 = .ok (.lload 9, 2) := by decide +kernel
theorem d_Mo_bitsOf_163 : decode c_Mo_bitsOf 163 = .ok (.iload_n 3, 1) := by decide +kernel
theorem d_Mo_bitsOf_164 : decode c_Mo_bitsOf 164 = .ok (.lshl, 1) := by decide +kernel
theorem d_Mo_bitsOf_165 : decode c_Mo_bitsOf 165 = .ok (.lor, 1) := by decide +kernel
theorem d_Mo_bitsOf_166 : decode c_Mo_bitsOf 166 = .ok (.lload 11, 2) := by decide +kernel
theorem d_Mo_bitsOf_168 : decode c_Mo_bitsOf 168 = .ok (.lor, 1) := by decide +kernel
theorem d_Mo_bitsOf_169 : decode c_Mo_bitsOf 169 = .ok (.lreturn, 1) := by decide +kernel
theorem d_Mo_writeFloat_0 : decode c_Mo_writeFloat 0 = .ok (.aload_n 0, 1) := by decide +kernel
theorem d_Mo_writeFloat_1 : decode c_Mo_writeFloat 1 = .ok (.iconst 0, 1) := by decide +kernel
theorem d_Mo_writeFloat_2 : decode c_Mo_writeFloat 2 = .ok (.putfield 25, 3) := by decide +kernel
theorem d_Mo_writeFloat_5 : decode c_Mo_writeFloat 5 = .ok (.iload_n 2, 1) := by decide +kernel
theorem d_Mo_writeFloat_6 : decode c_Mo_writeFloat 6 = .ok (.sipush (-300), 3) := by decide +kernel
theorem d_Mo_writeFloat_9 : decode c_Mo_writeFloat 9 = .ok (.if_icmp .lt 10, 3) := by decide +kernel
theorem d_Mo_writeFloat_12 : decode c_Mo_writeFloat 12 = .ok (.iload_n 2, 1) := by decide +kernel
theorem d_Mo_writeFloat_13 : decode c_Mo_writeFloat 13 = .ok (.sipush 300, 3) := by decide +kernel
theorem d_Mo_writeFloat_16 : decode c_Mo_writeFloat 16 = .ok (.if_icmp .le 9, 3) := by decide +kernel
theorem d_Mo_writeFloat_19 : decode c_Mo_writeFloat 19 = .ok (.aload_n 0, 1) := by decide +kernel
theorem d_Mo_writeFloat_20 : decode c_Mo_writeFloat 20 = .ok (.iconst 1, 1) := by decide +kernel
theorem d_Mo_writeFloat_21 : decode c_Mo_writeFloat 21 = .ok (.invokevirtual 53, 3) := by decide +kernel
theorem d_Mo_writeFloat_24 : decode c_Mo_writeFloat 24 = .ok (.ireturn, 1) := by decide +kernel
theorem d_Mo_writeFloat_25 : decode c_Mo_writeFloat 25 = .ok (.fload_n 1, 1) := by decide +kernel
theorem d_Mo_writeFloat_26 : decode c_Mo_writeFloat 26 = .ok (.fstore_n 3, 1) := by decide +kernel
theorem d_Mo_writeFloat_27 : decode c_Mo_writeFloat 27 = .ok (.iconst 0, 1) := by decide +kernel
theorem d_Mo_writeFloat_28 : decode c_Mo_writeFloat 28 = .ok (.istore 4, 2) := by decide +kernel
theorem d_Mo_writeFloat_30 : decode c_Mo_writeFloat 30 = .ok (.iload 4, 2) := by decide +kernel
theorem d_Mo_writeFloat_32 : decode c_Mo_writeFloat 32 = .ok (.iload_n 2, 1) := by decide +kernel
theorem d_Mo_writeFloat_33 : decode c_Mo_writeFloat 33 = .ok (.if_icmp .ge 13, 3) := by decide +kernel
theorem d_Mo_writeFloat_36 : decode c_Mo_writeFloat 36 = .ok (.fload_n 3, 1) := by decide +kernel
theorem d_Mo_writeFloat_37 : decode c_Mo_writeFloat 37 = .ok (.fconst 2, 1) := by decide +kernel
theorem d_Mo_writeFloat_38 : decode c_Mo_writeFloat 38 = .ok (.fmul, 1) := by decide +kernel
theorem d_Mo_writeFloat_39 : decode c_Mo_writeFloat 39 = .ok (.fstore_n 3, 1) := by decide +kernel
theorem d_Mo_writeFloat_40 : decode c_Mo_writeFloat 40 = .ok (.iinc 4 1, 3) := by decide +kernel
theorem d_Mo_writeFloat_43 : decode c_Mo_writeFloat 43 = .ok (.goto (-13), 3) := by decide +kernel
theorem d_Mo_writeFloat_46 : decode c_Mo_writeFloat 46 = .ok (.iconst 0, 1) := by decide +kernel
theorem d_Mo_writeFloat_47 : decode c_Mo_writeFloat 47 = .ok (.istore 4, 2) := by decide +kernel
theorem d_Mo_writeFloat_49 : decode c_Mo_writeFloat 49 = .ok (.iload 4, 2) := by decide +kernel
theorem d_Mo_writeFloat_51 : decode c_Mo_writeFloat 51 = .ok (.iload_n 2, 1) := by decide +kernel
theorem d_Mo_writeFloat_52 : decode c_Mo_writeFloat 52 = .ok (.if_icmp .le 14, 3) := by decide +kernel
theorem d_Mo_writeFloat_55 : decode c_Mo_writeFloat 55 = .ok (.fload_n 3, 1) := by decide +kernel
theorem d_Mo_writeFloat_56 : decode c_Mo_writeFloat 56 = .ok (.ldc 70, 2) := by decide +kernel
theorem d_Mo_writeFloat_58 : decode c_Mo_writeFloat 58 = .ok (.fmul, 1) := by decide +kernel
theorem d_Mo_writeFloat_59 : decode c_Mo_writeFloat 59 = .ok (.fstore_n 3, 1) := by decide +kernel
theorem d_Mo_writeFloat_60 : decode c_Mo_writeFloat 60 = .ok (.iinc 4 (-1), 3) := by decide +kernel
theorem d_Mo_writeFloat_63 : decode c_Mo_writeFloat 63 = .ok (.goto (-14), 3) := by decide +kernel
theorem d_Mo_writeFloat_66 : decode c_Mo_writeFloat 66 = .ok (.aload_n 0, 1) := by decide +kernel
theorem d_Mo_writeFloat_67 : decode c_Mo_writeFloat 67 = .ok (.aload_n 0, 1) := by decide +kernel
theorem d_Mo_writeFloat_68 : decode c_Mo_writeFloat 68 = .ok (.fload_n 3, 1) := by decide +kernel
theorem d_Mo_writeFloat_69 : decode c_Mo_writeFloat 69 = .ok (.f2d, 1) := by decide +kernel
theorem d_Mo_writeFloat_70 : decode c_Mo_writeFloat 70 = .ok (.bipush 23, 2) := by decide +kernel
theorem d_Mo_writeFloat_72 : decode c_Mo_writeFloat 72 = .ok (.bipush (-126), 2) := by decide +kernel
theorem d_Mo_writeFloat_74 : decode c_Mo_writeFloat 74 = .ok (.ldc2_w 71, 3) := by decide +kernel
theorem d_Mo_writeFloat_77 : decode c_Mo_writeFloat 77 = .ok (.invokevirtual 73, 3) := by decide +kernel
theorem d_Mo_writeFloat_80 : decode c_Mo_writeFloat 80 = .ok (.iconst 4, 1) := by decide +kernel
theorem d_Mo_writeFloat_81 : decode c_Mo_writeFloat 81 = .ok (.invokevirtual 57, 3) := by decide +kernel
theorem d_Mo_writeFloat_84 : decode c_Mo_writeFloat 84 = .ok (.ireturn, 1) := by decide +kernel
theorem d_Mo_writeDouble_0 : decode c_Mo_writeDouble 0 = .ok (.aload_n 0, 1) := by decide +kernel
theorem d_Mo_writeDouble_1 : decode c_Mo_writeDouble 1 = .ok (.iconst 0, 1) := by decide +kernel
theorem d_Mo_writeDouble_2 : decode c_Mo_writeDouble 2 = .ok (.putfield 25, 3) := by decide +kernel
theorem d_Mo_writeDouble_5 : decode c_Mo_writeDouble 5 = .ok (.iload_n 3, 1) := by decide +kernel
theorem d_Mo_writeDouble_6 : decode c_Mo_writeDouble 6 = .ok (.sipush (-2200), 3) := by decide +kernel
theorem d_Mo_writeDouble_9 : decode c_Mo_writeDouble 9 = .ok (.if_icmp .lt 10, 3) := by decide +kernel
theorem d_Mo_writeDouble_12 : decode c_Mo_writeDouble 12 = .ok (.iload_n 3, 1) := by decide +kernel
theorem d_Mo_writeDouble_13 : decode c_Mo_writeDouble 13 = .ok (.sipush 2200, 3) := by decide +kernel
theorem d_Mo_writeDouble_16 : decode c_Mo_writeDouble 16 = .ok (.if_icmp .le 9, 3) := by decide +kernel
theorem d_Mo_writeDouble_19 : decode c_Mo_writeDouble 19 = .ok (.aload_n 0, 1) := by decide +kernel
theorem d_Mo_writeDouble_20 : decode c_Mo_writeDouble 20 = .ok (.iconst 1, 1) := by decide +kernel
theorem d_Mo_writeDouble_21 : decode c_Mo_writeDouble 21 = .ok (.invokevirtual 53, 3) := by decide +kernel
theorem d_Mo_writeDouble_24 : decode c_Mo_writeDouble 24 = .ok (.ireturn, 1) := by decide +kernel
theorem d_Mo_writeDouble_25 : decode c_Mo_writeDouble 25 = .ok (.dload_n 1, 1) := by decide +kernel
theorem d_Mo_writeDouble_26 : decode c_Mo_writeDouble 26 = .ok (.dstore 4, 2) := by decide +kernel
theorem d_Mo_writeDouble_28 : decode c_Mo_writeDouble 28 = .ok (.iconst 0, 1) := by decide +kernel
theorem d_Mo_writeDouble_29 : decode c_Mo_writeDouble 29 = .ok (.istore 6, 2) := by decide +kernel
theorem d_Mo_writeDouble_31 : decode c_Mo_writeDouble 31 = .ok (.iload 6, 2) := by decide +kernel
theorem d_Mo_writeDouble_33 : decode c_Mo_writeDouble 33 = .ok (.iload_n 3, 1) := by decide +kernel
theorem d_Mo_writeDouble_34 : decode c_Mo_writeDouble 34 = .ok (.if_icmp .ge 17, 3) := by decide +kernel
theorem d_Mo_writeDouble_37 : decode c_Mo_writeDouble 37 = .ok (.dload 4, 2) := by decide +kernel
theorem d_Mo_writeDouble_39 : decode c_Mo_writeDouble 39 = .ok (.ldc2_w 66, 3) := by decide +kernel
theorem d_Mo_writeDouble_42 : decode c_Mo_writeDouble 42 = .ok (.dmul, 1) := by decide +kernel
theorem d_Mo_writeDouble_43 : decode c_Mo_writeDouble 43 = .ok (.dstore 4, 2) := by decide +kernel
theorem d_Mo_writeDouble_45 : decode c_Mo_writeDouble 45 = .ok (.iinc 6 1, 3) := by decide +kernel
theorem d_Mo_writeDouble_48 : decode c_Mo_writeDouble 48 = .ok (.goto (-17), 3) := by decide +kernel
theorem d_Mo_writeDouble_51 : decode c_Mo_writeDouble 51 = .ok (.iconst 0, 1) := by decide +kernel
theorem d_Mo_writeDouble_52 : decode c_Mo_writeDouble 52 = .ok (.istore 6, 2) := by decide +kernel
theorem d_Mo_writeDouble_54 : decode c_Mo_writeDouble 54 = .ok (.iload 6, 2) := by decide +kernel
theorem d_Mo_writeDouble_56 : decode c_Mo_writeDouble 56 = .ok (.iload_n 3, 1) := by decide +kernel
theorem d_Mo_writeDouble_57 : decode c_Mo_writeDouble 57 = .ok (.if_icmp .le 17, 3) := by decide +kernel
theorem d_Mo_writeDouble_60 : decode c_Mo_writeDouble 60 = .ok (.dload 4, 2) := by decide +kernel
theorem d_Mo_writeDouble_62 : decode c_Mo_writeDouble 62 = .ok (.ldc2_w 68, 3) := by decide +kernel
theorem d_Mo_writeDouble_65 : decode c_Mo_writeDouble 65 = .ok (.dmul, 1) := by decide +kernel
theorem d_Mo_writeDouble_66 : decode c_Mo_writeDouble 66 = .ok (.dstore 4, 2) := by decide +kernel
theorem d_Mo_writeDouble_68 : decode c_Mo_writeDouble 68 = .ok (.iinc 6 (-1), 3) := by decide +kernel
theorem d_Mo_writeDouble_71 : decode c_Mo_writeDouble 71 = .ok (.goto (-17), 3) := by decide +kernel
theorem d_Mo_writeDouble_74 : decode c_Mo_writeDouble 74 = .ok (.aload_n 0, 1) := by decide +kernel
theorem d_Mo_writeDouble_75 : decode c_Mo_writeDouble 75 = .ok (.aload_n 0, 1) := by decide +kernel
theorem d_Mo_writeDouble_76 : decode c_Mo_writeDouble 76 = .ok (.dload 4, 2) := by decide +kernel
theorem d_Mo_writeDouble_78 : decode c_Mo_writeDouble 78 = .ok (.bipush 52, 2) := by decide +kernel
theorem d_Mo_writeDouble_80 : decode c_Mo_writeDouble 80 = .ok (.sipush (-1022), 3) := by decide +kernel
theorem d_Mo_writeDouble_83 : decode c_Mo_writeDouble 83 = .ok (.ldc2_w 77, 3) := by decide +kernel
theorem d_Mo_writeDouble_86 : decode c_Mo_writeDouble 86 = .ok (.invokevirtual 73, 3) := by decide +kernel
theorem d_Mo_writeDouble_89 : decode c_Mo_writeDouble 89 = .ok (.bipush 8, 2) := by decide +kernel
theorem d_Mo_writeDouble_91 : decode c_Mo_writeDouble 91 = .ok (.invokevirtual 57, 3) := by decide +kernel
theorem d_Mo_writeDouble_94 : decode c_Mo_writeDouble 94 = .ok (.ireturn, 1) := by decide +kernel
theorem d_Mo_put_0 : decode c_Mo_put 0 = .ok (.aload_n 0, 1) := by decide +kernel
theorem d_Mo_put_1 : decode c_Mo_put 1 = .ok (.iconst 0, 1) := by decide +kernel
theorem d_Mo_put_2 : decode c_Mo_put 2 = .ok (.putfield 25, 3) := by decide +kernel
theorem d_Mo_put_5 : decode c_Mo_put 5 = .ok (.iload_n 1, 1) := by decide +kernel
theorem d_Mo_put_6 : decode c_Mo_put 6 = .ok (.ifCond .lt 19, 3) := by decide +kernel
theorem d_Mo_put_9 : decode c_Mo_put 9 = .ok (.iload_n 1, 1) := by decide +kernel
theorem d_Mo_put_10 : decode c_Mo_put 10 = .ok (.bipush 39, 2) := by decide +kernel
theorem d_Mo_put_12 : decode c_Mo_put 12 = .ok (.if_icmp .gt 13, 3) := by decide +kernel
theorem d_Mo_put_15 : decode c_Mo_put 15 = .ok (.iload_n 2, 1) := by decide +kernel
theorem d_Mo_put_16 : decode c_Mo_put 16 = .ok (.ifCond .lt 9, 3) := by decide +kernel
theorem d_Mo_put_19 : decode c_Mo_put 19 = .ok (.iload_n 2, 1) := by decide +kernel
theorem d_Mo_put_20 : decode c_Mo_put 20 = .ok (.ldc 79, 2) := by decide +kernel
theorem d_Mo_put_22 : decode c_Mo_put 22 = .ok (.if_icmp .le 9, 3) := by decide +kernel
theorem d_Mo_put_25 : decode c_Mo_put 25 = .ok (.aload_n 0, 1) := by decide +kernel
theorem d_Mo_put_26 : decode c_Mo_put 26 = .ok (.iconst 1, 1) := by decide +kernel
theorem d_Mo_put_27 : decode c_Mo_put 27 = .ok (.invokevirtual 53, 3) := by decide +kernel
theorem d_Mo_put_30 : decode c_Mo_put 30 = .ok (.ireturn, 1) := by decide +kernel
theorem d_Mo_put_31 : decode c_Mo_put 31 = .ok (.aload_n 0, 1) := by decide +kernel
theorem d_Mo_put_32 : decode c_Mo_put 32 = .ok (.getfield 16, 3) := by decide +kernel
theorem d_Mo_put_35 : decode c_Mo_put 35 = .ok (.iload_n 1, 1) := by decide +kernel
theorem d_Mo_put_36 : decode c_Mo_put 36 = .ok (.iload_n 2, 1) := by decide +kernel
theorem d_Mo_put_37 : decode c_Mo_put 37 = .ok (.iastore, 1) := by decide +kernel
theorem d_Mo_put_38 : decode c_Mo_put 38 = .ok (.iload_n 2, 1) := by decide +kernel
theorem d_Mo_put_39 : decode c_Mo_put 39 = .ok (.ireturn, 1) := by decide +kernel
theorem d_Mo_size_0 : decode c_Mo_size 0 = .ok (.iload_n 1, 1) := by decide +kernel
theorem d_Mo_size_1 : decode c_Mo_size 1 = .ok (.iconst 1, 1) := by decide +kernel
theorem d_Mo_size_2 : decode c_Mo_size 2 = .ok (.if_icmp .lt 13, 3) := by decide +kernel
theorem d_Mo_size_5 : decode c_Mo_size 5 = .ok (.iload_n 1, 1) := by decide +kernel
theorem d_Mo_size_6 : decode c_Mo_size 6 = .ok (.bipush 127, 2) := by decide +kernel
theorem d_Mo_size_8 : decode c_Mo_size 8 = .ok (.if_icmp .gt 7, 3) := by decide +kernel
theorem d_Mo_size_11 : decode c_Mo_size 11 = .ok (.iconst 1, 1) := by decide +kernel
theorem d_Mo_size_12 : decode c_Mo_size 12 = .ok (.goto 15, 3) := by decide +kernel
theorem d_Mo_size_15 : decode c_Mo_size 15 = .ok (.iload_n 1, 1) := by decide +kernel
theorem d_Mo_size_16 : decode c_Mo_size 16 = .ok (.sipush 2048, 3) := by decide +kernel
theorem d_Mo_size_19 : decode c_Mo_size 19 = .ok (.if_icmp .ge 7, 3) := by decide +kernel
theorem d_Mo_size_22 : decode c_Mo_size 22 = .ok (.iconst 2, 1) := by decide +kernel
theorem d_Mo_size_23 : decode c_Mo_size 23 = .ok (.goto 4, 3) := by decide +kernel
theorem d_Mo_size_26 : decode c_Mo_size 26 = .ok (.iconst 3, 1) := by decide +kernel
theorem d_Mo_size_27 : decode c_Mo_size 27 = .ok (.ireturn, 1) := by decide +kernel
theorem d_Mo_writeText_0 : decode c_Mo_writeText 0 = .ok (.aload_n 0, 1) := by decide +kernel
theorem d_Mo_writeText_1 : decode c_Mo_writeText 1 = .ok (.iconst 0, 1) := by decide +kernel
theorem d_Mo_writeText_2 : decode c_Mo_writeText 2 = .ok (.putfield 25, 3) := by decide +kernel
theorem d_Mo_writeText_5 : decode c_Mo_writeText 5 = .ok (.iload_n 1, 1) := by decide +kernel
theorem d_Mo_writeText_6 : decode c_Mo_writeText 6 = .ok (.ifCond .lt 9, 3) := by decide +kernel
theorem d_Mo_writeText_9 : decode c_Mo_writeText 9 = .ok (.iload_n 1, 1) := by decide +kernel
theorem d_Mo_writeText_10 : decode c_Mo_writeText 10 = .ok (.bipush 40, 2) := by decide +kernel
theorem d_Mo_writeText_12 : decode c_Mo_writeText 12 = .ok (.if_icmp .le 9, 3) := by decide +kernel
theorem d_Mo_writeText_15 : decode c_Mo_writeText 15 = .ok (.aload_n 0, 1) := by decide +kernel
theorem d_Mo_writeText_16 : decode c_Mo_writeText 16 = .ok (.iconst 1, 1) := by decide +kernel
theorem d_Mo_writeText_17 : decode c_Mo_writeText 17 = .ok (.invokevirtual 53, 3) := by decide +kernel
theorem d_Mo_writeText_20 : decode c_Mo_writeText 20 = .ok (.ireturn, 1) := by decide +kernel
theorem d_Mo_writeText_21 : decode c_Mo_writeText 21 = .ok (.iconst 0, 1) := by decide +kernel
theorem d_Mo_writeText_22 : decode c_Mo_writeText 22 = .ok (.istore_n 2, 1) := by decide +kernel
theorem d_Mo_writeText_23 : decode c_Mo_writeText 23 = .ok (.iconst 0, 1) := by decide +kernel
theorem d_Mo_writeText_24 : decode c_Mo_writeText 24 = .ok (.istore_n 3, 1) := by decide +kernel
theorem d_Mo_writeText_25 : decode c_Mo_writeText 25 = .ok (.iload_n 3, 1) := by decide +kernel
theorem d_Mo_writeText_26 : decode c_Mo_writeText 26 = .ok (.iload_n 1, 1) := by decide +kernel
theorem d_Mo_writeText_27 : decode c_Mo_writeText 27 = .ok (.if_icmp .ge 22, 3) := by decide +kernel
theorem d_Mo_writeText_30 : decode c_Mo_writeText 30 = .ok (.iload_n 2, 1) := by decide +kernel
theorem d_Mo_writeText_31 : decode c_Mo_writeText 31 = .ok (.aload_n 0, 1) := by decide +kernel
theorem d_Mo_writeText_32 : decode c_Mo_writeText 32 = .ok (.aload_n 0, 1) := by decide +kernel
theorem d_Mo_writeText_33 : decode c_Mo_writeText 33 = .ok (.getfield 16, 3) := by decide +kernel
theorem d_Mo_writeText_36 : decode c_Mo_writeText 36 = .ok (.iload_n 3, 1) := by decide +kernel
theorem d_Mo_writeText_37 : decode c_Mo_writeText 37 = .ok (.iaload, 1) := by decide +kernel
theorem d_Mo_writeText_38 : decode c_Mo_writeText 38 = .ok (.invokevirtual 80, 3) := by decide +kernel
theorem d_Mo_writeText_41 : decode c_Mo_writeText 41 = .ok (.iadd, 1) := by decide +kernel
theorem d_Mo_writeText_42 : decode c_Mo_writeText 42 = .ok (.istore_n 2, 1) := by decide +kernel
theorem d_Mo_writeText_43 : decode c_Mo_writeText 43 = .ok (.iinc 3 1, 3) := by decide +kernel
theorem d_Mo_writeText_46 : decode c_Mo_writeText 46 = .ok (.goto (-21), 3) := by decide +kernel
theorem d_Mo_writeText_49 : decode c_Mo_writeText 49 = .ok (.aload_n 0, 1) := by decide +kernel
theorem d_Mo_writeText_50 : decode c_Mo_writeText 50 = .ok (.iload_n 2, 1) := by decide +kernel
theorem d_Mo_writeText_51 : decode c_Mo_writeText 51 = .ok (.iconst 2, 1) := by decide +kernel
theorem d_Mo_writeText_52 : decode c_Mo_writeText 52 = .ok (.iadd, 1) := by decide +kernel
theorem d_Mo_writeText_53 : decode c_Mo_writeText 53 = .ok (.invokevirtual 46, 3) := by decide +kernel
theorem d_Mo_writeText_56 : decode c_Mo_writeText 56 = .ok (.ifCond .eq 6, 3) := by decide +kernel
theorem d_Mo_writeText_59 : decode c_Mo_writeText 59 = .ok (.bipush (-2), 2) := by decide +kernel
theorem d_Mo_writeText_61 : decode c_Mo_writeText 61 = .ok (.ireturn, 1) := by decide +kernel
theorem d_Mo_writeText_62 : decode c_Mo_writeText 62 = .ok (.aload_n 0, 1) := by decide +kernel
theorem d_Mo_writeText_63 : decode c_Mo_writeText 63 = .ok (.iload_n 2, 1) := by decide +kernel
theorem d_Mo_writeText_64 : decode c_Mo_writeText 64 = .ok (.sipush 256, 3) := by decide +kernel
theorem d_Mo_writeText_67 : decode c_Mo_writeText 67 = .ok (.idiv, 1) := by decide +kernel
theorem d_Mo_writeText_68 : decode c_Mo_writeText 68 = .ok (.invokevirtual 50, 3) := by decide +kernel
theorem d_Mo_writeText_71 : decode c_Mo_writeText 71 = .ok (.aload_n 0, 1) := by decide +kernel
theorem d_Mo_writeText_72 : decode c_Mo_writeText 72 = .ok (.iload_n 2, 1) := by decide +kernel
theorem d_Mo_writeText_73 : decode c_Mo_writeText 73 = .ok (.sipush 256, 3) := by decide +kernel
theorem d_Mo_writeText_76 : decode c_Mo_writeText 76 = .ok (.irem, 1) := by decide +kernel
theorem d_Mo_writeText_77 : decode c_Mo_writeText 77 = .ok (.invokevirtual 50, 3) := by decide +kernel
theorem d_Mo_writeText_80 : decode c_Mo_writeText 80 = .ok (.iconst 0, 1) := by decide +kernel
theorem d_Mo_writeText_81 : decode c_Mo_writeText 81 = .ok (.istore_n 3, 1) := by decide +kernel
theorem d_Mo_writeText_82 : decode c_Mo_writeText 82 = .ok (.iload_n 3, 1) := by decide +kernel
theorem d_Mo_writeText_83 : decode c_Mo_writeText 83 = .ok (.iload_n 1, 1) := by decide +kernel
theorem d_Mo_writeText_84 : decode c_Mo_writeText 84 = .ok (.if_icmp .ge 119, 3) := by decide +kernel
theorem d_Mo_writeText_87 : decode c_Mo_writeText 87 = .ok (.aload_n 0, 1) := by decide +kernel
theorem d_Mo_writeText_88 : decode c_Mo_writeText 88 = .ok (.getfield 16, 3) := by decide +kernel
theorem d_Mo_writeText_91 : decode c_Mo_writeText 91 = .ok (.iload_n 3, 1) := by decide +kernel
theorem d_Mo_writeText_92 : decode c_Mo_writeText 92 = .ok (.iaload, 1) := by decide +kernel
theorem d_Mo_writeText_93 : decode c_Mo_writeText 93 = .ok (.istore 4, 2) := by decide +kernel
theorem d_Mo_writeText_95 : decode c_Mo_writeText 95 = .ok (.aload_n 0, 1) := by decide +kernel
theorem d_Mo_writeText_96 : decode c_Mo_writeText 96 = .ok (.iload 4, 2) := by decide +kernel
theorem d_Mo_writeText_98 : decode c_Mo_writeText 98 = .ok (.invokevirtual 80, 3) := by decide +kernel
theorem d_Mo_writeText_101 : decode c_Mo_writeText 101 = .ok (.iconst 1, 1) := by decide +kernel
theorem d_Mo_writeText_102 : decode c_Mo_writeText 102 = .ok (.if_icmp .ne 9, 3) := by decide +kernel
theorem d_Mo_writeText_105 : decode c_Mo_writeText 105 = .ok (.aload_n 0, 1) := by decide +kernel
theorem d_Mo_writeText_106 : decode c_Mo_writeText 106 = .ok (.iload 4, 2) := by decide +kernel
theorem d_Mo_writeText_108 : decode c_Mo_writeText 108 = .ok (.invokevirtual 50, 3) := by decide +kernel
theorem d_Mo_writeText_111 : decode c_Mo_writeText 111 = .ok (.aload_n 0, 1) := by decide +kernel
theorem d_Mo_writeText_112 : decode c_Mo_writeText 112 = .ok (.iload 4, 2) := by decide +kernel
theorem d_Mo_writeText_114 : decode c_Mo_writeText 114 = .ok (.invokevirtual 80, 3) := by decide +kernel
theorem d_Mo_writeText_117 : decode c_Mo_writeText 117 = .ok (.iconst 2, 1) := by decide +kernel
theorem d_Mo_writeText_118 : decode c_Mo_writeText 118 = .ok (.if_icmp .ne 16, 3) := by decide +kernel
theorem d_Mo_writeText_121 : decode c_Mo_writeText 121 = .ok (.aload_n 0, 1) := by decide +kernel
theorem d_Mo_writeText_122 : decode c_Mo_writeText 122 = .ok (.sipush 192, 3) := by decide +kernel
theorem d_Mo_writeText_125 : decode c_Mo_writeText 125 = .ok (.iload 4, 2) := by decide +kernel
theorem d_Mo_writeText_127 : decode c_Mo_writeText 127 = .ok (.bipush 64, 2) := by decide +kernel
theorem d_Mo_writeText_129 : decode c_Mo_writeText 129 = .ok (.idiv, 1) := by decide +kernel
theorem d_Mo_writeText_130 : decode c_Mo_writeText 130 = .ok (.iadd, 1) := by decide +kernel
theorem d_Mo_writeText_131 : decode c_Mo_writeText 131 = .ok (.invokevirtual 50, 3) := by decide +kernel
theorem d_Mo_writeText_134 : decode c_Mo_writeText 134 = .ok (.aload_n 0, 1) := by decide +kernel
theorem d_Mo_writeText_135 : decode c_Mo_writeText 135 = .ok (.iload 4, 2) := by decide +kernel
theorem d_Mo_writeText_137 : decode c_Mo_writeText 137 = .ok (.invokevirtual 80, 3) := by decide +kernel
theorem d_Mo_writeText_140 : decode c_Mo_writeText 140 = .ok (.iconst 3, 1) := by decide +kernel
theorem d_Mo_writeText_141 : decode c_Mo_writeText 141 = .ok (.if_icmp .ne 33, 3) := by decide +kernel
theorem d_Mo_writeText_144 : decode c_Mo_writeText 144 = .ok (.aload_n 0, 1) := by decide +kernel
theorem d_Mo_writeText_145 : decode c_Mo_writeText 145 = .ok (.sipush 224, 3) := by decide +kernel
theorem d_Mo_writeText_148 : decode c_Mo_writeText 148 = .ok (.iload 4, 2) := by decide +kernel
theorem d_Mo_writeText_150 : decode c_Mo_writeText 150 = .ok (.sipush 4096, 3) := by decide +kernel
theorem d_Mo_writeText_153 : decode c_Mo_writeText 153 = .ok (.idiv, 1) := by decide +kernel
theorem d_Mo_writeText_154 : decode c_Mo_writeText 154 = .ok (.iadd, 1) := by decide +kernel
theorem d_Mo_writeText_155 : decode c_Mo_writeText 155 = .ok (.invokevirtual 50, 3) := by decide +kernel
theorem d_Mo_writeText_158 : decode c_Mo_writeText 158 = .ok (.aload_n 0, 1) := by decide +kernel
theorem d_Mo_writeText_159 : decode c_Mo_writeText 159 = .ok (.sipush 128, 3) := by decide +kernel
theorem d_Mo_writeText_162 : decode c_Mo_writeText 162 = .ok (.iload 4, 2) := by decide +kernel
theorem d_Mo_writeText_164 : decode c_Mo_writeText 164 = .ok (.bipush 64, 2) := by decide +kernel
theorem d_Mo_writeText_166 : decode c_Mo_writeText 166 = .ok (.idiv, 1) := by decide +kernel
theorem d_Mo_writeText_167 : decode c_Mo_writeText 167 = .ok (.bipush 64, 2) := by decide +kernel
theorem d_Mo_writeText_169 : decode c_Mo_writeText 169 = .ok (.irem, 1) := by decide +kernel
theorem d_Mo_writeText_170 : decode c_Mo_writeText 170 = .ok (.iadd, 1) := by decide +kernel
theorem d_Mo_writeText_171 : decode c_Mo_writeText 171 = .ok (.invokevirtual 50, 3) := by decide +kernel
theorem d_Mo_writeText_174 : decode c_Mo_writeText 174 = .ok (.aload_n 0, 1) := by decide +kernel
theorem d_Mo_writeText_175 : decode c_Mo_writeText 175 = .ok (.iload 4, 2) := by decide +kernel
theorem d_Mo_writeText_177 : decode c_Mo_writeText 177 = .ok (.invokevirtual 80, 3) := by decide +kernel
theorem d_Mo_writeText_180 : decode c_Mo_writeText 180 = .ok (.iconst 1, 1) := by decide +kernel
theorem d_Mo_writeText_181 : decode c_Mo_writeText 181 = .ok (.if_icmp .le 16, 3) := by decide +kernel
theorem d_Mo_writeText_184 : decode c_Mo_writeText 184 = .ok (.aload_n 0, 1) := by decide +kernel
theorem d_Mo_writeText_185 : decode c_Mo_writeText 185 = .ok (.sipush 128, 3) := by decide +kernel
theorem d_Mo_writeText_188 : decode c_Mo_writeText 188 = .ok (.iload 4, 2) := by decide +kernel
theorem d_Mo_writeText_190 : decode c_Mo_writeText 190 = .ok (.bipush 64, 2) := by decide +kernel
theorem d_Mo_writeText_192 : decode c_Mo_writeText 192 = .ok (.irem, 1) := by decide +kernel
theorem d_Mo_writeText_193 : decode c_Mo_writeText 193 = .ok (.iadd, 1) := by decide +kernel
theorem d_Mo_writeText_194 : decode c_Mo_writeText 194 = .ok (.invokevirtual 50, 3) := by decide +kernel
theorem d_Mo_writeText_197 : decode c_Mo_writeText 197 = .ok (.iinc 3 1, 3) := by decide +kernel
theorem d_Mo_writeText_200 : decode c_Mo_writeText 200 = .ok (.goto (-118), 3) := by decide +kernel
theorem d_Mo_writeText_203 : decode c_Mo_writeText 203 = .ok (.iload_n 2, 1) := by decide +kernel
theorem d_Mo_writeText_204 : decode c_Mo_writeText 204 = .ok (.iconst 2, 1) := by decide +kernel
theorem d_Mo_writeText_205 : decode c_Mo_writeText 205 = .ok (.iadd, 1) := by decide +kernel
theorem d_Mo_writeText_206 : decode c_Mo_writeText 206 = .ok (.ireturn, 1) := by decide +kernel
theorem d_Mo_flush_0 : decode c_Mo_flush 0 = .ok (.aload_n 0, 1) := by decide +kernel
theorem d_Mo_flush_1 : decode c_Mo_flush 1 = .ok (.iconst 0, 1) := by decide +kernel
theorem d_Mo_flush_2 : decode c_Mo_flush 2 = .ok (.putfield 25, 3) := by decide +kernel
theorem d_Mo_flush_5 : decode c_Mo_flush 5 = .ok (.aload_n 0, 1) := by decide +kernel
theorem d_Mo_flush_6 : decode c_Mo_flush 6 = .ok (.invokevirtual 43, 3) := by decide +kernel
theorem d_Mo_flush_9 : decode c_Mo_flush 9 = .ok (.aload_n 0, 1) := by decide +kernel
theorem d_Mo_flush_10 : decode c_Mo_flush 10 = .ok (.getfield 29, 3) := by decide +kernel
theorem d_Mo_flush_13 : decode c_Mo_flush 13 = .ok (.ireturn, 1) := by decide +kernel
theorem d_Mo_beginRead_0 : decode c_Mo_beginRead 0 = .ok (.aload_n 0, 1) := by decide +kernel
theorem d_Mo_beginRead_1 : decode c_Mo_beginRead 1 = .ok (.iconst 0, 1) := by decide +kernel
theorem d_Mo_beginRead_2 : decode c_Mo_beginRead 2 = .ok (.putfield 25, 3) := by decide +kernel
theorem d_Mo_beginRead_5 : decode c_Mo_beginRead 5 = .ok (.aload_n 0, 1) := by decide +kernel
theorem d_Mo_beginRead_6 : decode c_Mo_beginRead 6 = .ok (.aload_n 0, 1) := by decide +kernel
theorem d_Mo_beginRead_7 : decode c_Mo_beginRead 7 = .ok (.getfield 83, 3) := by decide +kernel
theorem d_Mo_beginRead_10 : decode c_Mo_beginRead 10 = .ok (.putfield 86, 3) := by decide +kernel
theorem d_Mo_beginRead_13 : decode c_Mo_beginRead 13 = .ok (.aload_n 0, 1) := by decide +kernel
theorem d_Mo_beginRead_14 : decode c_Mo_beginRead 14 = .ok (.aload_n 0, 1) := by decide +kernel
theorem d_Mo_beginRead_15 : decode c_Mo_beginRead 15 = .ok (.getfield 89, 3) := by decide +kernel
theorem d_Mo_beginRead_18 : decode c_Mo_beginRead 18 = .ok (.putfield 92, 3) := by decide +kernel
theorem d_Mo_beginRead_21 : decode c_Mo_beginRead 21 = .ok (.aload_n 0, 1) := by decide +kernel
theorem d_Mo_beginRead_22 : decode c_Mo_beginRead 22 = .ok (.aload_n 0, 1) := by decide +kernel
theorem d_Mo_beginRead_23 : decode c_Mo_beginRead 23 = .ok (.getfield 95, 3) := by decide +kernel
theorem d_Mo_beginRead_26 : decode c_Mo_beginRead 26 = .ok (.putfield 98, 3) := by decide +kernel
theorem d_Mo_beginRead_29 : decode c_Mo_beginRead 29 = .ok (.aload_n 0, 1) := by decide +kernel
theorem d_Mo_beginRead_30 : decode c_Mo_beginRead 30 = .ok (.iconst 0, 1) := by decide +kernel
theorem d_Mo_beginRead_31 : decode c_Mo_beginRead 31 = .ok (.putfield 101, 3) := by decide +kernel
theorem d_Mo_beginRead_34 : decode c_Mo_beginRead 34 = .ok (.return_, 1) := by decide +kernel
theorem d_Mo_keep_0 : decode c_Mo_keep 0 = .ok (.aload_n 0, 1) := by decide +kernel
theorem d_Mo_keep_1 : decode c_Mo_keep 1 = .ok (.aload_n 0, 1) := by decide +kernel
theorem d_Mo_keep_2 : decode c_Mo_keep 2 = .ok (.getfield 86, 3) := by decide +kernel
theorem d_Mo_keep_5 : decode c_Mo_keep 5 = .ok (.putfield 83, 3) := by decide +kernel
theorem d_Mo_keep_8 : decode c_Mo_keep 8 = .ok (.aload_n 0, 1) := by decide +kernel
theorem d_Mo_keep_9 : decode c_Mo_keep 9 = .ok (.aload_n 0, 1) := by decide +kernel
theorem d_Mo_keep_10 : decode c_Mo_keep 10 = .ok (.getfield 92, 3) := by decide +kernel
theorem d_Mo_keep_13 : decode c_Mo_keep 13 = .ok (.putfield 89, 3) := by decide +kernel
theorem d_Mo_keep_16 : decode c_Mo_keep 16 = .ok (.aload_n 0, 1) := by decide +kernel
theorem d_Mo_keep_17 : decode c_Mo_keep 17 = .ok (.aload_n 0, 1) := by decide +kernel
theorem d_Mo_keep_18 : decode c_Mo_keep 18 = .ok (.getfield 98, 3) := by decide +kernel
theorem d_Mo_keep_21 : decode c_Mo_keep 21 = .ok (.putfield 95, 3) := by decide +kernel
theorem d_Mo_keep_24 : decode c_Mo_keep 24 = .ok (.return_, 1) := by decide +kernel
theorem d_Mo_header_0 : decode c_Mo_header 0 = .ok (.aload_n 0, 1) := by decide +kernel
theorem d_Mo_header_1 : decode c_Mo_header 1 = .ok (.getfield 86, 3) := by decide +kernel
theorem d_Mo_header_4 : decode c_Mo_header 4 = .ok (.aload_n 0, 1) := by decide +kernel
theorem d_Mo_header_5 : decode c_Mo_header 5 = .ok (.getfield 29, 3) := by decide +kernel
theorem d_Mo_header_8 : decode c_Mo_header 8 = .ok (.if_icmp .ge 15, 3) := by decide +kernel
theorem d_Mo_header_11 : decode c_Mo_header 11 = .ok (.aload_n 0, 1) := by decide +kernel
theorem d_Mo_header_12 : decode c_Mo_header 12 = .ok (.getfield 7, 3) := by decide +kernel
theorem d_Mo_header_15 : decode c_Mo_header 15 = .ok (.aload_n 0, 1) := by decide +kernel
theorem d_Mo_header_16 : decode c_Mo_header 16 = .ok (.getfield 86, 3) := by decide +kernel
theorem d_Mo_header_19 : decode c_Mo_header 19 = .ok (.iaload, 1) := by decide +kernel
theorem d_Mo_header_20 : decode c_Mo_header 20 = .ok (.goto 4, 3) := by decide +kernel
theorem d_Mo_header_23 : decode c_Mo_header 23 = .ok (.iconst (-1), 1) := by decide +kernel
theorem d_Mo_header_24 : decode c_Mo_header 24 = .ok (.istore_n 1, 1) := by decide +kernel
theorem d_Mo_header_25 : decode c_Mo_header 25 = .ok (.iload_n 1, 1) := by decide +kernel
theorem d_Mo_header_26 : decode c_Mo_header 26 = .ok (.bipush 121, 2) := by decide +kernel
theorem d_Mo_header_28 : decode c_Mo_header 28 = .ok (.if_icmp .ne 26, 3) := by decide +kernel
theorem d_Mo_header_31 : decode c_Mo_header 31 = .ok (.aload_n 0, 1) := by decide +kernel
theorem d_Mo_header_32 : decode c_Mo_header 32 = .ok (.dup, 1) := by decide +kernel
theorem d_Mo_header_33 : decode c_Mo_header 33 = .ok (.getfield 86, 3) := by decide +kernel
theorem d_Mo_header_36 : decode c_Mo_header 36 = .ok (.iconst 1, 1) := by decide +kernel
theorem d_Mo_header_37 : decode c_Mo_header 37 = .ok (.iadd, 1) := by decide +kernel
theorem d_Mo_header_38 : decode c_Mo_header 38 = .ok (.putfield 86, 3) := by decide +kernel
theorem d_Mo_header_41 : decode c_Mo_header 41 = .ok (.aload_n 0, 1) := by decide +kernel
theorem d_Mo_header_42 : decode c_Mo_header 42 = .ok (.dup, 1) := by decide +kernel
theorem d_Mo_header_43 : decode c_Mo_header 43 = .ok (.getfield 98, 3) := by decide +kernel
theorem d_Mo_header_46 : decode c_Mo_header 46 = .ok (.iconst 1, 1) := by decide +kernel
theorem d_Mo_header_47 : decode c_Mo_header 47 = .ok (.iadd, 1) := by decide +kernel
theorem d_Mo_header_48 : decode c_Mo_header 48 = .ok (.putfield 98, 3) := by decide +kernel
theorem d_Mo_header_51 : decode c_Mo_header 51 = .ok (.goto 149, 3) := by decide +kernel
theorem d_Mo_header_54 : decode c_Mo_header 54 = .ok (.iload_n 1, 1) := by decide +kernel
theorem d_Mo_header_55 : decode c_Mo_header 55 = .ok (.bipush 119, 2) := by decide +kernel
theorem d_Mo_header_57 : decode c_Mo_header 57 = .ok (.if_icmp .eq 9, 3) := by decide +kernel
theorem d_Mo_header_60 : decode c_Mo_header 60 = .ok (.iload_n 1, 1) := by decide +kernel
theorem d_Mo_header_61 : decode c_Mo_header 61 = .ok (.bipush 122, 2) := by decide +kernel
theorem d_Mo_header_63 : decode c_Mo_header 63 = .ok (.if_icmp .ne 112, 3) := by decide +kernel
theorem d_Mo_header_66 : decode c_Mo_header 66 = .ok (.iload_n 1, 1) := by decide +kernel
theorem d_Mo_header_67 : decode c_Mo_header 67 = .ok (.bipush 119, 2) := by decide +kernel
theorem d_Mo_header_69 : decode c_Mo_header 69 = .ok (.if_icmp .ne 7, 3) := by decide +kernel
theorem d_Mo_header_72 : decode c_Mo_header 72 = .ok (.iconst 1, 1) := by decide +kernel
theorem d_Mo_header_73 : decode c_Mo_header 73 = .ok (.goto 4, 3) := by decide +kernel
theorem d_Mo_header_76 : decode c_Mo_header 76 = .ok (.iconst 4, 1) := by decide +kernel
theorem d_Mo_header_77 : decode c_Mo_header 77 = .ok (.istore_n 2, 1) := by decide +kernel
theorem d_Mo_header_78 : decode c_Mo_header 78 = .ok (.iconst 0, 1) := by decide +kernel
theorem d_Mo_header_79 : decode c_Mo_header 79 = .ok (.istore_n 3, 1) := by decide +kernel
theorem d_Mo_header_80 : decode c_Mo_header 80 = .ok (.aload_n 0, 1) := by decide +kernel
theorem d_Mo_header_81 : decode c_Mo_header 81 = .ok (.getfield 86, 3) := by decide +kernel
theorem d_Mo_header_84 : decode c_Mo_header 84 = .ok (.iload_n 2, 1) := by decide +kernel
theorem d_Mo_header_85 : decode c_Mo_header 85 = .ok (.iadd, 1) := by decide +kernel
theorem d_Mo_header_86 : decode c_Mo_header 86 = .ok (.aload_n 0, 1) := by decide +kernel
theorem d_Mo_header_87 : decode c_Mo_header 87 = .ok (.getfield 29, 3) := by decide +kernel
theorem d_Mo_header_90 : decode c_Mo_header 90 = .ok (.if_icmp .lt 8, 3) := by decide +kernel
theorem d_Mo_header_93 : decode c_Mo_header 93 = .ok (.aload_n 0, 1) := by decide +kernel
theorem d_Mo_header_94 : decode c_Mo_header 94 = .ok (.iconst 2, 1) := by decide +kernel
theorem d_Mo_header_95 : decode c_Mo_header 95 = .ok (.putfield 101, 3) := by decide +kernel
theorem d_Mo_header_98 : decode c_Mo_header 98 = .ok (.iconst 1, 1) := by decide +kernel
theorem d_Mo_header_99 : decode c_Mo_header 99 = .ok (.istore 4, 2) := by decide +kernel
theorem d_Mo_header_101 : decode c_Mo_header 101 = .ok (.iload 4, 2) := by decide +kernel
theorem d_Mo_header_103 : decode c_Mo_header 103 = .ok (.iload_n 2, 1) := by decide +kernel
theorem d_Mo_header_104 : decode c_Mo_header 104 = .ok (.if_icmp .gt 35, 3) := by decide +kernel
theorem d_Mo_header_107 : decode c_Mo_header 107 = .ok (.aload_n 0, 1) := by decide +kernel
theorem d_Mo_header_108 : decode c_Mo_header 108 = .ok (.getfield 101, 3) := by decide +kernel
theorem d_Mo_header_111 : decode c_Mo_header 111 = .ok (.ifCond .ne 28, 3) := by decide +kernel
theorem d_Mo_header_114 : decode c_Mo_header 114 = .ok (.iload_n 3, 1) := by decide +kernel
theorem d_Mo_header_115 : decode c_Mo_header 115 = .ok (.sipush 256, 3) := by decide +kernel
theorem d_Mo_header_118 : decode c_Mo_header 118 = .ok (.imul, 1) := by decide +kernel
theorem d_Mo_header_119 : decode c_Mo_header 119 = .ok (.aload_n 0, 1) := by decide +kernel
theorem d_Mo_header_120 : decode c_Mo_header 120 = .ok (.getfield 7, 3) := by decide +kernel
theorem d_Mo_header_123 : decode c_Mo_header 123 = .ok (.aload_n 0, 1) := by decide +kernel
theorem d_Mo_header_124 : decode c_Mo_header 124 = .ok (.getfield 86, 3) := by decide +kernel
theorem d_Mo_header_127 : decode c_Mo_header 127 = .ok (.iload 4, 2) := by decide +kernel
theorem d_Mo_header_129 : decode c_Mo_header 129 = .ok (.iadd, 1) := by decide +kernel
theorem d_Mo_header_130 : decode c_Mo_header 130 = .ok (.iaload, 1) := by decide +kernel
theorem d_Mo_header_131 : decode c_Mo_header 131 = .ok (.iadd, 1) := by decide +kernel
theorem d_Mo_header_132 : decode c_Mo_header 132 = .ok (.istore_n 3, 1) := by decide +kernel
theorem d_Mo_header_133 : decode c_Mo_header 133 = .ok (.iinc 4 1, 3) := by decide +kernel
theorem d_Mo_header_136 : decode c_Mo_header 136 = .ok (.goto (-35), 3) := by decide +kernel
theorem d_Mo_header_139 : decode c_Mo_header 139 = .ok (.iload_n 3, 1) := by decide +kernel
theorem d_Mo_header_140 : decode c_Mo_header 140 = .ok (.ifCond .ge 8, 3) := by decide +kernel
theorem d_Mo_header_143 : decode c_Mo_header 143 = .ok (.aload_n 0, 1) := by decide +kernel
theorem d_Mo_header_144 : decode c_Mo_header 144 = .ok (.iconst 2, 1) := by decide +kernel
theorem d_Mo_header_145 : decode c_Mo_header 145 = .ok (.putfield 101, 3) := by decide +kernel
theorem d_Mo_header_148 : decode c_Mo_header 148 = .ok (.aload_n 0, 1) := by decide +kernel
theorem d_Mo_header_149 : decode c_Mo_header 149 = .ok (.getfield 101, 3) := by decide +kernel
theorem d_Mo_header_152 : decode c_Mo_header 152 = .ok (.ifCond .ne 20, 3) := by decide +kernel
theorem d_Mo_header_155 : decode c_Mo_header 155 = .ok (.aload_n 0, 1) := by decide +kernel
theorem d_Mo_header_156 : decode c_Mo_header 156 = .ok (.dup, 1) := by decide +kernel
theorem d_Mo_header_157 : decode c_Mo_header 157 = .ok (.getfield 86, 3) := by decide +kernel
theorem d_Mo_header_160 : decode c_Mo_header 160 = .ok (.iload_n 2, 1) := by decide +kernel
theorem d_Mo_header_161 : decode c_Mo_header 161 = .ok (.iconst 1, 1) := by decide +kernel
theorem d_Mo_header_162 : decode c_Mo_header 162 = .ok (.iadd, 1) := by decide +kernel
theorem d_Mo_header_163 : decode c_Mo_header 163 = .ok (.iadd, 1) := by decide +kernel
theorem d_Mo_header_164 : decode c_Mo_header 164 = .ok (.putfield 86, 3) := by decide +kernel
theorem d_Mo_header_167 : decode c_Mo_header 167 = .ok (.aload_n 0, 1) := by decide +kernel
theorem d_Mo_header_168 : decode c_Mo_header 168 = .ok (.iload_n 3, 1) := by decide +kernel
theorem d_Mo_header_169 : decode c_Mo_header 169 = .ok (.putfield 92, 3) := by decide +kernel
theorem d_Mo_header_172 : decode c_Mo_header 172 = .ok (.goto 28, 3) := by decide +kernel
theorem d_Mo_header_175 : decode c_Mo_header 175 = .ok (.aload_n 0, 1) := by decide +kernel
theorem d_Mo_header_176 : decode c_Mo_header 176 = .ok (.iload_n 1, 1) := by decide +kernel
theorem d_Mo_header_177 : decode c_Mo_header 177 = .ok (.ifCond .lt 19, 3) := by decide +kernel
theorem d_Mo_header_180 : decode c_Mo_header 180 = .ok (.iload_n 1, 1) := by decide +kernel
theorem d_Mo_header_181 : decode c_Mo_header 181 = .ok (.bipush 112, 2) := by decide +kernel
theorem d_Mo_header_183 : decode c_Mo_header 183 = .ok (.if_icmp .lt 9, 3) := by decide +kernel
theorem d_Mo_header_186 : decode c_Mo_header 186 = .ok (.iload_n 1, 1) := by decide +kernel
theorem d_Mo_header_187 : decode c_Mo_header 187 = .ok (.bipush 126, 2) := by decide +kernel
theorem d_Mo_header_189 : decode c_Mo_header 189 = .ok (.if_icmp .le 7, 3) := by decide +kernel
theorem d_Mo_header_192 : decode c_Mo_header 192 = .ok (.iconst 2, 1) := by decide +kernel
theorem d_Mo_header_193 : decode c_Mo_header 193 = .ok (.goto 4, 3) := by decide +kernel
theorem d_Mo_header_196 : decode c_Mo_header 196 = .ok (.iconst 1, 1) := by decide +kernel
theorem d_Mo_header_197 : decode c_Mo_header 197 = .ok (.putfield 101, 3) := by decide +kernel
theorem d_Mo_header_200 : decode c_Mo_header 200 = .ok (.return_, 1) := by decide +kernel
theorem d_Mo_nextByte_0 : decode c_Mo_nextByte 0 = .ok (.iconst 0, 1) := by decide +kernel
theorem d_Mo_nextByte_1 : decode c_Mo_nextByte 1 = .ok (.istore_n 1, 1) := by decide +kernel
theorem d_Mo_nextByte_2 : decode c_Mo_nextByte 2 = .ok (.aload_n 0, 1) := by decide +kernel
theorem d_Mo_nextByte_3 : decode c_Mo_nextByte 3 = .ok (.getfield 104, 3) := by decide +kernel
theorem d_Mo_nextByte_6 : decode c_Mo_nextByte 6 = .ok (.ifCond .eq 34, 3) := by decide +kernel
theorem d_Mo_nextByte_9 : decode c_Mo_nextByte 9 = .ok (.aload_n 0, 1) := by decide +kernel
theorem d_Mo_nextByte_10 : decode c_Mo_nextByte 10 = .ok (.getfield 92, 3) := by decide +kernel
theorem d_Mo_nextByte_13 : decode c_Mo_nextByte 13 = .ok (.ifCond .ne 27, 3) := by decide +kernel
theorem d_Mo_nextByte_16 : decode c_Mo_nextByte 16 = .ok (.aload_n 0, 1) := by decide +kernel
theorem d_Mo_nextByte_17 : decode c_Mo_nextByte 17 = .ok (.getfield 101, 3) := by decide +kernel
theorem d_Mo_nextByte_20 : decode c_Mo_nextByte 20 = .ok (.ifCond .ne 20, 3) := by decide +kernel
theorem d_Mo_nextByte_23 : decode c_Mo_nextByte 23 = .ok (.iload_n 1, 1) := by decide +kernel
theorem d_Mo_nextByte_24 : decode c_Mo_nextByte 24 = .ok (.sipush 1600, 3) := by decide +kernel
theorem d_Mo_nextByte_27 : decode c_Mo_nextByte 27 = .ok (.if_icmp .ge 13, 3) := by decide +kernel
theorem d_Mo_nextByte_30 : decode c_Mo_nextByte 30 = .ok (.aload_n 0, 1) := by decide +kernel
theorem d_Mo_nextByte_31 : decode c_Mo_nextByte 31 = .ok (.invokevirtual 107, 3) := by decide +kernel
theorem d_Mo_nextByte_34 : decode c_Mo_nextByte 34 = .ok (.iinc 1 1, 3) := by decide +kernel
theorem d_Mo_nextByte_37 : decode c_Mo_nextByte 37 = .ok (.goto (-35), 3) := by decide +kernel
theorem d_Mo_nextByte_40 : decode c_Mo_nextByte 40 = .ok (.aload_n 0, 1) := by decide +kernel
theorem d_Mo_nextByte_41 : decode c_Mo_nextByte 41 = .ok (.getfield 101, 3) := by decide +kernel
theorem d_Mo_nextByte_44 : decode c_Mo_nextByte 44 = .ok (.ifCond .ne 19, 3) := by decide +kernel
theorem d_Mo_nextByte_47 : decode c_Mo_nextByte 47 = .ok (.aload_n 0, 1) := by decide +kernel
theorem d_Mo_nextByte_48 : decode c_Mo_nextByte 48 = .ok (.getfield 86, 3) := by decide +kernel
theorem d_Mo_nextByte_51 : decode c_Mo_nextByte 51 = .ok (.aload_n 0, 1) := by decide +kernel
theorem d_Mo_nextByte_52 : decode c_Mo_nextByte 52 = .ok (.getfield 29, 3) := by decide +kernel
theorem d_Mo_nextByte_55 : decode c_Mo_nextByte 55 = .ok (.if_icmp .lt 8, 3) := by decide +kernel
theorem d_Mo_nextByte_58 : decode c_Mo_nextByte 58 = .ok (.aload_n 0, 1) := by decide +kernel
theorem d_Mo_nextByte_59 : decode c_Mo_nextByte 59 = .ok (.iconst 1, 1) := by decide +kernel
theorem d_Mo_nextByte_60 : decode c_Mo_nextByte 60 = .ok (.putfield 101, 3) := by decide +kernel
theorem d_Mo_nextByte_63 : decode c_Mo_nextByte 63 = .ok (.aload_n 0, 1) := by decide +kernel
theorem d_Mo_nextByte_64 : decode c_Mo_nextByte 64 = .ok (.getfield 101, 3) := by decide +kernel
theorem d_Mo_nextByte_67 : decode c_Mo_nextByte 67 = .ok (.ifCond .le 5, 3) := by decide +kernel
theorem d_Mo_nextByte_70 : decode c_Mo_nextByte 70 = .ok (.iconst 0, 1) := by decide +kernel
theorem d_Mo_nextByte_71 : decode c_Mo_nextByte 71 = .ok (.ireturn, 1) := by decide +kernel
theorem d_Mo_nextByte_72 : decode c_Mo_nextByte 72 = .ok (.aload_n 0, 1) := by decide +kernel
theorem d_Mo_nextByte_73 : decode c_Mo_nextByte 73 = .ok (.getfield 104, 3) := by decide +kernel
theorem d_Mo_nextByte_76 : decode c_Mo_nextByte 76 = .ok (.ifCond .eq 13, 3) := by decide +kernel
theorem d_Mo_nextByte_79 : decode c_Mo_nextByte 79 = .ok (.aload_n 0, 1) := by decide +kernel
theorem d_Mo_nextByte_80 : decode c_Mo_nextByte 80 = .ok (.dup, 1) := by decide +kernel
theorem d_Mo_nextByte_81 : decode c_Mo_nextByte 81 = .ok (.getfield 92, 3) := by decide +kernel
theorem d_Mo_nextByte_84 : decode c_Mo_nextByte 84 = .ok (.iconst 1, 1) := by decide +kernel
theorem d_Mo_nextByte_85 : decode c_Mo_nextByte 85 = .ok (.isub, 1) := by decide +kernel
theorem d_Mo_nextByte_86 : decode c_Mo_nextByte 86 = .ok (.putfield 92, 3) := by decide +kernel
theorem d_Mo_nextByte_89 : decode c_Mo_nextByte 89 = .ok (.aload_n 0, 1) := by decide +kernel
theorem d_Mo_nextByte_90 : decode c_Mo_nextByte 90 = .ok (.dup, 1) := by decide +kernel
theorem d_Mo_nextByte_91 : decode c_Mo_nextByte 91 = .ok (.getfield 86, 3) := by decide +kernel
theorem d_Mo_nextByte_94 : decode c_Mo_nextByte 94 = .ok (.iconst 1, 1) := by decide +kernel
theorem d_Mo_nextByte_95 : decode c_Mo_nextByte 95 = .ok (.iadd, 1) := by decide +kernel
theorem d_Mo_nextByte_96 : decode c_Mo_nextByte 96 = .ok (.putfield 86, 3) := by decide +kernel
theorem d_Mo_nextByte_99 : decode c_Mo_nextByte 99 = .ok (.aload_n 0, 1) := by decide +kernel
theorem d_Mo_nextByte_100 : decode c_Mo_nextByte 100 = .ok (.getfield 7, 3) := by decide +kernel
theorem d_Mo_nextByte_103 : decode c_Mo_nextByte 103 = .ok (.aload_n 0, 1) := by decide +kernel
theorem d_Mo_nextByte_104 : decode c_Mo_nextByte 104 = .ok (.getfield 86, 3) := by decide +kernel
theorem d_Mo_nextByte_107 : decode c_Mo_nextByte 107 = .ok (.iconst 1, 1) := by decide +kernel
theorem d_Mo_nextByte_108 : decode c_Mo_nextByte 108 = .ok (.isub, 1) := by decide +kernel
theorem d_Mo_nextByte_109 : decode c_Mo_nextByte 109 = .ok (.iaload, 1) := by decide +kernel
theorem d_Mo_nextByte_110 : decode c_Mo_nextByte 110 = .ok (.ireturn, 1) := by decide +kernel
theorem d_Mo_number_0 : decode c_Mo_number 0 = .ok (.lconst 0, 1) := by decide +kernel
theorem d_Mo_number_1 : decode c_Mo_number 1 = .ok (.lstore_n 2, 1) := by decide +kernel
theorem d_Mo_number_2 : decode c_Mo_number 2 = .ok (.iconst 0, 1) := by decide +kernel
theorem d_Mo_number_3 : decode c_Mo_number 3 = .ok (.istore 4, 2) := by decide +kernel
theorem d_Mo_number_5 : decode c_Mo_number 5 = .ok (.iload 4, 2) := by decide +kernel
theorem d_Mo_number_7 : decode c_Mo_number 7 = .ok (.iload_n 1, 1) := by decide +kernel
theorem d_Mo_number_8 : decode c_Mo_number 8 = .ok (.if_icmp .ge 27, 3) := by decide +kernel
theorem d_Mo_number_11 : decode c_Mo_number 11 = .ok (.aload_n 0, 1) := by decide +kernel
theorem d_Mo_number_12 : decode c_Mo_number 12 = .ok (.getfield 101, 3) := by decide +kernel
theorem d_Mo_number_15 : decode c_Mo_number 15 = .ok (.ifCond .ne 20, 3) := by decide +kernel
theorem d_Mo_number_18 : decode c_Mo_number 18 = .ok (.lload_n 2, 1) := by decide +kernel
theorem d_Mo_number_19 : decode c_Mo_number 19 = .ok (.bipush 8, 2) := by decide +kernel
theorem d_Mo_number_21 : decode c_Mo_number 21 = .ok (.lshl, 1) := by decide +kernel
theorem d_Mo_number_22 : decode c_Mo_number 22 = .ok (.aload_n 0, 1) := by decide +kernel
theorem d_Mo_number_23 : decode c_Mo_number 23 = .ok (.invokevirtual 110, 3) := by decide +kernel
theorem d_Mo_number_26 : decode c_Mo_number 26 = .ok (.i2l, 1) := by decide +kernel
theorem d_Mo_number_27 : decode c_Mo_number 27 = .ok (.lor, 1) := by decide +kernel
theorem d_Mo_number_28 : decode c_Mo_number 28 = .ok (.lstore_n 2, 1) := by decide +kernel
theorem d_Mo_number_29 : decode c_Mo_number 29 = .ok (.iinc 4 1, 3) := by decide +kernel
theorem d_Mo_number_32 : decode c_Mo_number 32 = .ok (.goto (-27), 3) := by decide +kernel
theorem d_Mo_number_35 : decode c_Mo_number 35 = .ok (.lload_n 2, 1) := by decide +kernel
theorem d_Mo_number_36 : decode c_Mo_number 36 = .ok (.lreturn, 1) := by decide +kernel
theorem d_Mo_read_0 : decode c_Mo_read 0 = .ok (.aload_n 0, 1) := by decide +kernel
theorem d_Mo_read_1 : decode c_Mo_read 1 = .ok (.invokevirtual 114, 3) := by decide +kernel
theorem d_Mo_read_4 : decode c_Mo_read 4 = .ok (.iload_n 1, 1) := by decide +kernel
theorem d_Mo_read_5 : decode c_Mo_read 5 = .ok (.ifCond .lt 8, 3) := by decide +kernel
theorem d_Mo_read_8 : decode c_Mo_read 8 = .ok (.iload_n 1, 1) := by decide +kernel
theorem d_Mo_read_9 : decode c_Mo_read 9 = .ok (.iconst 5, 1) := by decide +kernel
theorem d_Mo_read_10 : decode c_Mo_read 10 = .ok (.if_icmp .le 10, 3) := by decide +kernel
theorem d_Mo_read_13 : decode c_Mo_read 13 = .ok (.aload_n 0, 1) := by decide +kernel
theorem d_Mo_read_14 : decode c_Mo_read 14 = .ok (.iconst 2, 1) := by decide +kernel
theorem d_Mo_read_15 : decode c_Mo_read 15 = .ok (.invokevirtual 53, 3) := by decide +kernel
theorem d_Mo_read_18 : decode c_Mo_read 18 = .ok (.i2l, 1) := by decide +kernel
theorem d_Mo_read_19 : decode c_Mo_read 19 = .ok (.lreturn, 1) := by decide +kernel
theorem d_Mo_read_20 : decode c_Mo_read 20 = .ok (.aload_n 0, 1) := by decide +kernel
theorem d_Mo_read_21 : decode c_Mo_read 21 = .ok (.aload_n 0, 1) := by decide +kernel
theorem d_Mo_read_22 : decode c_Mo_read 22 = .ok (.iload_n 1, 1) := by decide +kernel
theorem d_Mo_read_23 : decode c_Mo_read 23 = .ok (.invokevirtual 61, 3) := by decide +kernel
theorem d_Mo_read_26 : decode c_Mo_read 26 = .ok (.invokevirtual 117, 3) := by decide +kernel
theorem d_Mo_read_29 : decode c_Mo_read 29 = .ok (.lstore_n 2, 1) := by decide +kernel
theorem d_Mo_read_30 : decode c_Mo_read 30 = .ok (.aload_n 0, 1) := by decide +kernel
theorem d_Mo_read_31 : decode c_Mo_read 31 = .ok (.getfield 101, 3) := by decide +kernel
theorem d_Mo_read_34 : decode c_Mo_read 34 = .ok (.ifCond .le 22, 3) := by decide +kernel
theorem d_Mo_read_37 : decode c_Mo_read 37 = .ok (.aload_n 0, 1) := by decide +kernel
theorem d_Mo_read_38 : decode c_Mo_read 38 = .ok (.aload_n 0, 1) := by decide +kernel
theorem d_Mo_read_39 : decode c_Mo_read 39 = .ok (.getfield 101, 3) := by decide +kernel
theorem d_Mo_read_42 : decode c_Mo_read 42 = .ok (.iconst 2, 1) := by decide +kernel
theorem d_Mo_read_43 : decode c_Mo_read 43 = .ok (.if_icmp .ne 7, 3) := by decide +kernel
theorem d_Mo_read_46 : decode c_Mo_read 46 = .ok (.iconst 1, 1) := by decide +kernel
theorem d_Mo_read_47 : decode c_Mo_read 47 = .ok (.goto 4, 3) := by decide +kernel
theorem d_Mo_read_50 : decode c_Mo_read 50 = .ok (.iconst 3, 1) := by decide +kernel
theorem d_Mo_read_51 : decode c_Mo_read 51 = .ok (.invokevirtual 53, 3) := by decide +kernel
theorem d_Mo_read_54 : decode c_Mo_read 54 = .ok (.i2l, 1) := by decide +kernel
theorem d_Mo_read_55 : decode c_Mo_read 55 = .ok (.lreturn, 1) := by decide +kernel
theorem d_Mo_read_56 : decode c_Mo_read 56 = .ok (.aload_n 0, 1) := by decide +kernel
theorem d_Mo_read_57 : decode c_Mo_read 57 = .ok (.invokevirtual 121, 3) := by decide +kernel
theorem d_Mo_read_60 : decode c_Mo_read 60 = .ok (.iload_n 1, 1) := by decide +kernel
theorem d_Mo_read_61 : decode c_Mo_read 61 = .ok (.ifCond .ne 15, 3) := by decide +kernel
theorem d_Mo_read_64 : decode c_Mo_read 64 = .ok (.lload_n 2, 1) := by decide +kernel
theorem d_Mo_read_65 : decode c_Mo_read 65 = .ok (.lconst 0, 1) := by decide +kernel
theorem d_Mo_read_66 : decode c_Mo_read 66 = .ok (.lcmp, 1) := by decide +kernel
theorem d_Mo_read_67 : decode c_Mo_read 67 = .ok (.ifCond .ne 7, 3) := by decide +kernel
theorem d_Mo_read_70 : decode c_Mo_read 70 = .ok (.lconst 0, 1) := by decide +kernel
theorem d_Mo_read_71 : decode c_Mo_read 71 = .ok (.goto 4, 3) := by decide +kernel
theorem d_Mo_read_74 : decode c_Mo_read 74 = .ok (.lconst 1, 1) := by decide +kernel
theorem d_Mo_read_75 : decode c_Mo_read 75 = .ok (.lreturn, 1) := by decide +kernel
theorem d_Mo_read_76 : decode c_Mo_read 76 = .ok (.iload_n 1, 1) := by decide +kernel
theorem d_Mo_read_77 : decode c_Mo_read 77 = .ok (.iconst 1, 1) := by decide +kernel
theorem d_Mo_read_78 : decode c_Mo_read 78 = .ok (.if_icmp .ne 17, 3) := by decide +kernel
theorem d_Mo_read_81 : decode c_Mo_read 81 = .ok (.lload_n 2, 1) := by decide +kernel
theorem d_Mo_read_82 : decode c_Mo_read 82 = .ok (.ldc2_w 124, 3) := by decide +kernel
theorem d_Mo_read_85 : decode c_Mo_read 85 = .ok (.lcmp, 1) := by decide +kernel
theorem d_Mo_read_86 : decode c_Mo_read 86 = .ok (.ifCond .le 9, 3) := by decide +kernel
theorem d_Mo_read_89 : decode c_Mo_read 89 = .ok (.lload_n 2, 1) := by decide +kernel
theorem d_Mo_read_90 : decode c_Mo_read 90 = .ok (.ldc2_w 126, 3) := by decide +kernel
theorem d_Mo_read_93 : decode c_Mo_read 93 = .ok (.lsub, 1) := by decide +kernel
theorem d_Mo_read_94 : decode c_Mo_read 94 = .ok (.lreturn, 1) := by decide +kernel
theorem d_Mo_read_95 : decode c_Mo_read 95 = .ok (.iload_n 1, 1) := by decide +kernel
theorem d_Mo_read_96 : decode c_Mo_read 96 = .ok (.iconst 3, 1) := by decide +kernel
theorem d_Mo_read_97 : decode c_Mo_read 97 = .ok (.if_icmp .ne 17, 3) := by decide +kernel
theorem d_Mo_read_100 : decode c_Mo_read 100 = .ok (.lload_n 2, 1) := by decide +kernel
theorem d_Mo_read_101 : decode c_Mo_read 101 = .ok (.ldc2_w 128, 3) := by decide +kernel
theorem d_Mo_read_104 : decode c_Mo_read 104 = .ok (.lcmp, 1) := by decide +kernel
theorem d_Mo_read_105 : decode c_Mo_read 105 = .ok (.ifCond .le 9, 3) := by decide +kernel
theorem d_Mo_read_108 : decode c_Mo_read 108 = .ok (.lload_n 2, 1) := by decide +kernel
theorem d_Mo_read_109 : decode c_Mo_read 109 = .ok (.ldc2_w 130, 3) := by decide +kernel
theorem d_Mo_read_112 : decode c_Mo_read 112 = .ok (.lsub, 1) := by decide +kernel
theorem d_Mo_read_113 : decode c_Mo_read 113 = .ok (.lreturn, 1) := by decide +kernel
theorem d_Mo_read_114 : decode c_Mo_read 114 = .ok (.iload_n 1, 1) := by decide +kernel
theorem d_Mo_read_115 : decode c_Mo_read 115 = .ok (.iconst 4, 1) := by decide +kernel
theorem d_Mo_read_116 : decode c_Mo_read 116 = .ok (.if_icmp .ne 19, 3) := by decide +kernel
theorem d_Mo_read_119 : decode c_Mo_read 119 = .ok (.lload_n 2, 1) := by decide +kernel
theorem d_Mo_read_120 : decode c_Mo_read 120 = .ok (.ldc2_w 132, 3) := by decide +kernel
theorem d_Mo_read_123 : decode c_Mo_read 123 = .ok (.lcmp, 1) := by decide +kernel
theorem d_Mo_read_124 : decode c_Mo_read 124 = .ok (.ifCond .le 11, 3) := by decide +kernel
theorem d_Mo_read_127 : decode c_Mo_read 127 = .ok (.lload_n 2, 1) := by decide +kernel
theorem d_Mo_read_128 : decode c_Mo_read 128 = .ok (.ldc2_w 134, 3) := by decide +kernel
theorem d_Mo_read_131 : decode c_Mo_read 131 = .ok (.lsub, 1) := by decide +kernel
theorem d_Mo_read_132 : decode c_Mo_read 132 = .ok (.goto 4, 3) := by decide +kernel
theorem d_Mo_read_135 : decode c_Mo_read 135 = .ok (.lload_n 2, 1) := by decide +kernel
theorem d_Mo_read_136 : decode c_Mo_read 136 = .ok (.lreturn, 1) := by decide +kernel
theorem d_Mo_valueOf_0 : decode c_Mo_valueOf 0 = .ok (.lload_n 1, 1) := by decide +kernel
theorem d_Mo_valueOf_1 : decode c_Mo_valueOf 1 = .ok (.iload_n 3, 1) := by decide +kernel
theorem d_Mo_valueOf_2 : decode c_Mo_valueOf 2 = .ok (.lshr, 1) := by decide +kernel
theorem d_Mo_valueOf_3 : decode c_Mo_valueOf 3 = .ok (.lload 5, 2) := by decide +kernel
theorem d_Mo_valueOf_5 : decode c_Mo_valueOf 5 = .ok (.land, 1) := by decide +kernel
theorem d_Mo_valueOf_6 : decode c_Mo_valueOf 6 = .ok (.lstore 7, 2) := by decide +kernel
theorem d_Mo_valueOf_8 : decode c_Mo_valueOf 8 = .ok (.lload_n 1, 1) := by decide +kernel
theorem d_Mo_valueOf_9 : decode c_Mo_valueOf 9 = .ok (.lconst 1, 1) := by decide +kernel
theorem d_Mo_valueOf_10 : decode c_Mo_valueOf 10 = .ok (.iload_n 3, 1) := by decide +kernel
theorem d_Mo_valueOf_11 : decode c_Mo_valueOf 11 = .ok (.lshl, 1) := by decide +kernel
theorem d_Mo_valueOf_12 : decode c_Mo_valueOf 12 = .ok (.lconst 1, 1) := by decide +kernel
theorem d_Mo_valueOf_13 : decode c_Mo_valueOf 13 = .ok (.lsub, 1) := by decide +kernel
theorem d_Mo_valueOf_14 : decode c_Mo_valueOf 14 = .ok (.land, 1) := by decide +kernel
theorem d_Mo_valueOf_15 : decode c_Mo_valueOf 15 = .ok (.lstore 9, 2) := by decide +kernel
theorem d_Mo_valueOf_17 : decode c_Mo_valueOf 17 = .ok (.lload_n 1, 1) := by decide +kernel
theorem d_Mo_valueOf_18 : decode c_Mo_valueOf 18 = .ok (.iload_n 3, 1) := by decide +kernel
theorem d_Mo_valueOf_19 : decode c_Mo_valueOf 19 = .ok (.lshr, 1) := by decide +kernel
theorem d_Mo_valueOf_20 : decode c_Mo_valueOf 20 = .ok (.lload 5, 2) := by decide +kernel
theorem d_Mo_valueOf_22 : decode c_Mo_valueOf 22 = .ok (.lconst 1, 1) := by decide +kernel
theorem d_Mo_valueOf_23 : decode c_Mo_valueOf 23 = .ok (.ladd, 1) := by decide +kernel
theorem d_Mo_valueOf_24 : decode c_Mo_valueOf 24 = .ok (.land, 1) := by decide +kernel
theorem d_Mo_valueOf_25 : decode c_Mo_valueOf 25 = .ok (.lconst 0, 1) := by decide +kernel
theorem d_Mo_valueOf_26 : decode c_Mo_valueOf 26 = .ok (.lcmp, 1) := by decide +kernel
theorem d_Mo_valueOf_27 : decode c_Mo_valueOf 27 = .ok (.ifCond .eq 7, 3) := by decide +kernel
theorem d_Mo_valueOf_30 : decode c_Mo_valueOf 30 = .ok (.iconst 1, 1) := by decide +kernel
theorem d_Mo_valueOf_31 : decode c_Mo_valueOf 31 = .ok (.goto 4, 3) := by decide +kernel
theorem d_Mo_valueOf_34 : decode c_Mo_valueOf 34 = .ok (.iconst 0, 1) := by decide +kernel
theorem d_Mo_valueOf_35 : decode c_Mo_valueOf 35 = .ok (.istore 11, 2) := by decide +kernel
theorem d_Mo_valueOf_37 : decode c_Mo_valueOf 37 = .ok (.aload_n 0, 1) := by decide +kernel
theorem d_Mo_valueOf_38 : decode c_Mo_valueOf 38 = .ok (.lload 7, 2) := by decide +kernel
theorem d_Mo_valueOf_40 : decode c_Mo_valueOf 40 = .ok (.lload 5, 2) := by decide +kernel
theorem d_Mo_valueOf_42 : decode c_Mo_valueOf 42 = .ok (.lcmp, 1) := by decide +kernel
theorem d_Mo_valueOf_43 : decode c_Mo_valueOf 43 = .ok (.ifCond .ne 14, 3) := by decide +kernel
theorem d_Mo_valueOf_46 : decode c_Mo_valueOf 46 = .ok (.lload 9, 2) := by decide +kernel
theorem d_Mo_valueOf_48 : decode c_Mo_valueOf 48 = .ok (.lconst 0, 1) := by decide +kernel
theorem d_Mo_valueOf_49 : decode c_Mo_valueOf 49 = .ok (.lcmp, 1) := by decide +kernel
theorem d_Mo_valueOf_50 : decode c_Mo_valueOf 50 = .ok (.ifCond .eq 7, 3) := by decide +kernel
theorem d_Mo_valueOf_53 : decode c_Mo_valueOf 53 = .ok (.iconst 1, 1) := by decide +kernel
theorem d_Mo_valueOf_54 : decode c_Mo_valueOf 54 = .ok (.goto 4, 3) := by decide +kernel
theorem d_Mo_valueOf_57 : decode c_Mo_valueOf 57 = .ok (.iconst 0, 1) := by decide +kernel
theorem d_Mo_valueOf_58 : decode c_Mo_valueOf 58 = .ok (.putfield 136, 3) := by decide +kernel
theorem d_Mo_valueOf_61 : decode c_Mo_valueOf 61 = .ok (.aload_n 0, 1) := by decide +kernel
theorem d_Mo_valueOf_62 : decode c_Mo_valueOf 62 = .ok (.getfield 136, 3) := by decide +kernel
theorem d_Mo_valueOf_65 : decode c_Mo_valueOf 65 = .ok (.ifCond .eq 5, 3) := by decide +kernel
theorem d_Mo_valueOf_68 : decode c_Mo_valueOf 68 = .ok (.dconst 0, 1) := by decide +kernel
theorem d_Mo_valueOf_69 : decode c_Mo_valueOf 69 = .ok (.dreturn, 1) := by decide +kernel
theorem d_Mo_valueOf_70 : decode c_Mo_valueOf 70 = .ok (.lload 7, 2) := by decide +kernel
theorem d_Mo_valueOf_72 : decode c_Mo_valueOf 72 = .ok (.lload 5, 2) := by decide +kernel
theorem d_Mo_valueOf_74 : decode c_Mo_valueOf 74 = .ok (.lcmp, 1) := by decide +kernel
theorem d_Mo_valueOf_75 : decode c_Mo_valueOf 75 = .ok (.ifCond .ne 9, 3) := by decide +kernel
theorem d_Mo_valueOf_78 : decode c_Mo_valueOf 78 = .ok (.ldc2_w 139, 3) := by decide +kernel
theorem d_Mo_valueOf_81 : decode c_Mo_valueOf 81 = .ok (.goto 6, 3) := by decide +kernel
theorem d_Mo_valueOf_84 : decode c_Mo_valueOf 84 = .ok (.lload 9, 2) := by decide +kernel
theorem d_Mo_valueOf_86 : decode c_Mo_valueOf 86 = .ok (.l2d, 1) := by decide +kernel
theorem d_Mo_valueOf_87 : decode c_Mo_valueOf 87 = .ok (.dstore 12, 2) := by decide +kernel
theorem d_Mo_valueOf_89 : decode c_Mo_valueOf 89 = .ok (.lload 7, 2) := by decide +kernel
theorem d_Mo_valueOf_91 : decode c_Mo_valueOf 91 = .ok (.lload 5, 2) := by decide +kernel
theorem d_Mo_valueOf_93 : decode c_Mo_valueOf 93 = .ok (.lcmp, 1) := by decide +kernel
theorem d_Mo_valueOf_94 : decode c_Mo_valueOf 94 = .ok (.ifCond .ge 90, 3) := by decide +kernel
theorem d_Mo_valueOf_97 : decode c_Mo_valueOf 97 = .ok (.lload 7, 2) := by decide +kernel
theorem d_Mo_valueOf_99 : decode c_Mo_valueOf 99 = .ok (.lconst 0, 1) := by decide +kernel
theorem d_Mo_valueOf_100 : decode c_Mo_valueOf 100 = .ok (.lcmp, 1) := by decide +kernel
theorem d_Mo_valueOf_101 : decode c_Mo_valueOf 101 = .ok (.ifCond .le 12, 3) := by decide +kernel
theorem d_Mo_valueOf_104 : decode c_Mo_valueOf 104 = .ok (.dload 12, 2) := by decide +kernel
theorem d_Mo_valueOf_106 : decode c_Mo_valueOf 106 = .ok (.lconst 1, 1) := by decide +kernel
theorem d_Mo_valueOf_107 : decode c_Mo_valueOf 107 = .ok (.iload_n 3, 1) := by decide +kernel
theorem d_Mo_valueOf_108 : decode c_Mo_valueOf 108 = .ok (.lshl, 1) := by decide +kernel
theorem d_Mo_valueOf_109 : decode c_Mo_valueOf 109 = .ok (.l2d, 1) := by decide +kernel
theorem d_Mo_valueOf_110 : decode c_Mo_valueOf 110 = .ok (.dadd, 1) := by decide +kernel
theorem d_Mo_valueOf_111 : decode c_Mo_valueOf 111 = .ok (.dstore 12, 2) := by decide +kernel
theorem d_Mo_valueOf_113 : decode c_Mo_valueOf 113 = .ok (.lload 7, 2) := by decide +kernel
theorem d_Mo_valueOf_115 : decode c_Mo_valueOf 115 = .ok (.lconst 0, 1) := by decide +kernel
theorem d_Mo_valueOf_116 : decode c_Mo_valueOf 116 = .ok (.lcmp, 1) := by decide +kernel
theorem d_Mo_valueOf_117 : decode c_Mo_valueOf 117 = .ok (.ifCond .ne 7, 3) := by decide +kernel
theorem d_Mo_valueOf_120 : decode c_Mo_valueOf 120 = .ok (.iconst 0, 1) := by decide +kernel
