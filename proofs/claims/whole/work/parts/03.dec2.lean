theorem d_Mo_valueOf_121 : decode c_Mo_valueOf 121 = .ok (.goto 8, 3) := by decide +kernel
theorem d_Mo_valueOf_124 : decode c_Mo_valueOf 124 = .ok (.lload 7, 2) := by decide +kernel
theorem d_Mo_valueOf_126 : decode c_Mo_valueOf 126 = .ok (.l2i, 1) := by decide +kernel
theorem d_Mo_valueOf_127 : decode c_Mo_valueOf 127 = .ok (.iconst 1, 1) := by decide +kernel
theorem d_Mo_valueOf_128 : decode c_Mo_valueOf 128 = .ok (.isub, 1) := by decide +kernel
theorem d_Mo_valueOf_129 : decode c_Mo_valueOf 129 = .ok (.iload 4, 2) := by decide +kernel
theorem d_Mo_valueOf_131 : decode c_Mo_valueOf 131 = .ok (.iadd, 1) := by decide +kernel
theorem d_Mo_valueOf_132 : decode c_Mo_valueOf 132 = .ok (.iload_n 3, 1) := by decide +kernel
theorem d_Mo_valueOf_133 : decode c_Mo_valueOf 133 = .ok (.isub, 1) := by decide +kernel
theorem d_Mo_valueOf_134 : decode c_Mo_valueOf 134 = .ok (.istore 14, 2) := by decide +kernel
theorem d_Mo_valueOf_136 : decode c_Mo_valueOf 136 = .ok (.iconst 0, 1) := by decide +kernel
theorem d_Mo_valueOf_137 : decode c_Mo_valueOf 137 = .ok (.istore 15, 2) := by decide +kernel
theorem d_Mo_valueOf_139 : decode c_Mo_valueOf 139 = .ok (.iload 15, 2) := by decide +kernel
theorem d_Mo_valueOf_141 : decode c_Mo_valueOf 141 = .ok (.iload 14, 2) := by decide +kernel
theorem d_Mo_valueOf_143 : decode c_Mo_valueOf 143 = .ok (.if_icmp .ge 17, 3) := by decide +kernel
theorem d_Mo_valueOf_146 : decode c_Mo_valueOf 146 = .ok (.dload 12, 2) := by decide +kernel
theorem d_Mo_valueOf_148 : decode c_Mo_valueOf 148 = .ok (.ldc2_w 66, 3) := by decide +kernel
theorem d_Mo_valueOf_151 : decode c_Mo_valueOf 151 = .ok (.dmul, 1) := by decide +kernel
theorem d_Mo_valueOf_152 : decode c_Mo_valueOf 152 = .ok (.dstore 12, 2) := by decide +kernel
theorem d_Mo_valueOf_154 : decode c_Mo_valueOf 154 = .ok (.iinc 15 1, 3) := by decide +kernel
theorem d_Mo_valueOf_157 : decode c_Mo_valueOf 157 = .ok (.goto (-18), 3) := by decide +kernel
theorem d_Mo_valueOf_160 : decode c_Mo_valueOf 160 = .ok (.iconst 0, 1) := by decide +kernel
theorem d_Mo_valueOf_161 : decode c_Mo_valueOf 161 = .ok (.istore 15, 2) := by decide +kernel
theorem d_Mo_valueOf_163 : decode c_Mo_valueOf 163 = .ok (.iload 15, 2) := by decide +kernel
theorem d_Mo_valueOf_165 : decode c_Mo_valueOf 165 = .ok (.iload 14, 2) := by decide +kernel
theorem d_Mo_valueOf_167 : decode c_Mo_valueOf 167 = .ok (.if_icmp .le 17, 3) := by decide +kernel
theorem d_Mo_valueOf_170 : decode c_Mo_valueOf 170 = .ok (.dload 12, 2) := by decide +kernel
theorem d_Mo_valueOf_172 : decode c_Mo_valueOf 172 = .ok (.ldc2_w 68, 3) := by decide +kernel
theorem d_Mo_valueOf_175 : decode c_Mo_valueOf 175 = .ok (.dmul, 1) := by decide +kernel
theorem d_Mo_valueOf_176 : decode c_Mo_valueOf 176 = .ok (.dstore 12, 2) := by decide +kernel
theorem d_Mo_valueOf_178 : decode c_Mo_valueOf 178 = .ok (.iinc 15 (-1), 3) := by decide +kernel
theorem d_Mo_valueOf_181 : decode c_Mo_valueOf 181 = .ok (.goto (-18), 3) := by decide +kernel
theorem d_Mo_valueOf_184 : decode c_Mo_valueOf 184 = .ok (.iload 11, 2) := by decide +kernel
theorem d_Mo_valueOf_186 : decode c_Mo_valueOf 186 = .ok (.ifCond .eq 9, 3) := by decide +kernel
theorem d_Mo_valueOf_189 : decode c_Mo_valueOf 189 = .ok (.dload 12, 2) := by decide +kernel
theorem d_Mo_valueOf_191 : decode c_Mo_valueOf 191 = .ok (.dneg, 1) := by decide +kernel
theorem d_Mo_valueOf_192 : decode c_Mo_valueOf 192 = .ok (.goto 5, 3) := by decide +kernel
theorem d_Mo_valueOf_195 : decode c_Mo_valueOf 195 = .ok (.dload 12, 2) := by decide +kernel
theorem d_Mo_valueOf_197 : decode c_Mo_valueOf 197 = .ok (.dreturn, 1) := by decide +kernel
theorem d_Mo_readFloat_0 : decode c_Mo_readFloat 0 = .ok (.aload_n 0, 1) := by decide +kernel
theorem d_Mo_readFloat_1 : decode c_Mo_readFloat 1 = .ok (.invokevirtual 114, 3) := by decide +kernel
theorem d_Mo_readFloat_4 : decode c_Mo_readFloat 4 = .ok (.aload_n 0, 1) := by decide +kernel
theorem d_Mo_readFloat_5 : decode c_Mo_readFloat 5 = .ok (.iconst 4, 1) := by decide +kernel
theorem d_Mo_readFloat_6 : decode c_Mo_readFloat 6 = .ok (.invokevirtual 117, 3) := by decide +kernel
theorem d_Mo_readFloat_9 : decode c_Mo_readFloat 9 = .ok (.lstore_n 1, 1) := by decide +kernel
theorem d_Mo_readFloat_10 : decode c_Mo_readFloat 10 = .ok (.aload_n 0, 1) := by decide +kernel
theorem d_Mo_readFloat_11 : decode c_Mo_readFloat 11 = .ok (.getfield 101, 3) := by decide +kernel
theorem d_Mo_readFloat_14 : decode c_Mo_readFloat 14 = .ok (.ifCond .le 22, 3) := by decide +kernel
theorem d_Mo_readFloat_17 : decode c_Mo_readFloat 17 = .ok (.aload_n 0, 1) := by decide +kernel
theorem d_Mo_readFloat_18 : decode c_Mo_readFloat 18 = .ok (.aload_n 0, 1) := by decide +kernel
theorem d_Mo_readFloat_19 : decode c_Mo_readFloat 19 = .ok (.getfield 101, 3) := by decide +kernel
theorem d_Mo_readFloat_22 : decode c_Mo_readFloat 22 = .ok (.iconst 2, 1) := by decide +kernel
theorem d_Mo_readFloat_23 : decode c_Mo_readFloat 23 = .ok (.if_icmp .ne 7, 3) := by decide +kernel
theorem d_Mo_readFloat_26 : decode c_Mo_readFloat 26 = .ok (.iconst 1, 1) := by decide +kernel
theorem d_Mo_readFloat_27 : decode c_Mo_readFloat 27 = .ok (.goto 4, 3) := by decide +kernel
theorem d_Mo_readFloat_30 : decode c_Mo_readFloat 30 = .ok (.iconst 2, 1) := by decide +kernel
theorem d_Mo_readFloat_31 : decode c_Mo_readFloat 31 = .ok (.invokevirtual 53, 3) := by decide +kernel
theorem d_Mo_readFloat_34 : decode c_Mo_readFloat 34 = .ok (.i2f, 1) := by decide +kernel
theorem d_Mo_readFloat_35 : decode c_Mo_readFloat 35 = .ok (.freturn, 1) := by decide +kernel
theorem d_Mo_readFloat_36 : decode c_Mo_readFloat 36 = .ok (.aload_n 0, 1) := by decide +kernel
theorem d_Mo_readFloat_37 : decode c_Mo_readFloat 37 = .ok (.invokevirtual 121, 3) := by decide +kernel
theorem d_Mo_readFloat_40 : decode c_Mo_readFloat 40 = .ok (.aload_n 0, 1) := by decide +kernel
theorem d_Mo_readFloat_41 : decode c_Mo_readFloat 41 = .ok (.lload_n 1, 1) := by decide +kernel
theorem d_Mo_readFloat_42 : decode c_Mo_readFloat 42 = .ok (.bipush 23, 2) := by decide +kernel
theorem d_Mo_readFloat_44 : decode c_Mo_readFloat 44 = .ok (.bipush (-126), 2) := by decide +kernel
theorem d_Mo_readFloat_46 : decode c_Mo_readFloat 46 = .ok (.ldc2_w 71, 3) := by decide +kernel
theorem d_Mo_readFloat_49 : decode c_Mo_readFloat 49 = .ok (.invokevirtual 141, 3) := by decide +kernel
theorem d_Mo_readFloat_52 : decode c_Mo_readFloat 52 = .ok (.d2f, 1) := by decide +kernel
theorem d_Mo_readFloat_53 : decode c_Mo_readFloat 53 = .ok (.freturn, 1) := by decide +kernel
theorem d_Mo_readDouble_0 : decode c_Mo_readDouble 0 = .ok (.aload_n 0, 1) := by decide +kernel
theorem d_Mo_readDouble_1 : decode c_Mo_readDouble 1 = .ok (.invokevirtual 114, 3) := by decide +kernel
theorem d_Mo_readDouble_4 : decode c_Mo_readDouble 4 = .ok (.aload_n 0, 1) := by decide +kernel
theorem d_Mo_readDouble_5 : decode c_Mo_readDouble 5 = .ok (.bipush 8, 2) := by decide +kernel
theorem d_Mo_readDouble_7 : decode c_Mo_readDouble 7 = .ok (.invokevirtual 117, 3) := by decide +kernel
theorem d_Mo_readDouble_10 : decode c_Mo_readDouble 10 = .ok (.lstore_n 1, 1) := by decide +kernel
theorem d_Mo_readDouble_11 : decode c_Mo_readDouble 11 = .ok (.aload_n 0, 1) := by decide +kernel
theorem d_Mo_readDouble_12 : decode c_Mo_readDouble 12 = .ok (.getfield 101, 3) := by decide +kernel
theorem d_Mo_readDouble_15 : decode c_Mo_readDouble 15 = .ok (.ifCond .le 22, 3) := by decide +kernel
theorem d_Mo_readDouble_18 : decode c_Mo_readDouble 18 = .ok (.aload_n 0, 1) := by decide +kernel
theorem d_Mo_readDouble_19 : decode c_Mo_readDouble 19 = .ok (.aload_n 0, 1) := by decide +kernel
theorem d_Mo_readDouble_20 : decode c_Mo_readDouble 20 = .ok (.getfield 101, 3) := by decide +kernel
theorem d_Mo_readDouble_23 : decode c_Mo_readDouble 23 = .ok (.iconst 2, 1) := by decide +kernel
theorem d_Mo_readDouble_24 : decode c_Mo_readDouble 24 = .ok (.if_icmp .ne 7, 3) := by decide +kernel
theorem d_Mo_readDouble_27 : decode c_Mo_readDouble 27 = .ok (.iconst 1, 1) := by decide +kernel
theorem d_Mo_readDouble_28 : decode c_Mo_readDouble 28 = .ok (.goto 4, 3) := by decide +kernel
theorem d_Mo_readDouble_31 : decode c_Mo_readDouble 31 = .ok (.iconst 2, 1) := by decide +kernel
theorem d_Mo_readDouble_32 : decode c_Mo_readDouble 32 = .ok (.invokevirtual 53, 3) := by decide +kernel
theorem d_Mo_readDouble_35 : decode c_Mo_readDouble 35 = .ok (.i2d, 1) := by decide +kernel
theorem d_Mo_readDouble_36 : decode c_Mo_readDouble 36 = .ok (.dreturn, 1) := by decide +kernel
theorem d_Mo_readDouble_37 : decode c_Mo_readDouble 37 = .ok (.aload_n 0, 1) := by decide +kernel
theorem d_Mo_readDouble_38 : decode c_Mo_readDouble 38 = .ok (.invokevirtual 121, 3) := by decide +kernel
theorem d_Mo_readDouble_41 : decode c_Mo_readDouble 41 = .ok (.aload_n 0, 1) := by decide +kernel
theorem d_Mo_readDouble_42 : decode c_Mo_readDouble 42 = .ok (.lload_n 1, 1) := by decide +kernel
theorem d_Mo_readDouble_43 : decode c_Mo_readDouble 43 = .ok (.bipush 52, 2) := by decide +kernel
theorem d_Mo_readDouble_45 : decode c_Mo_readDouble 45 = .ok (.sipush (-1022), 3) := by decide +kernel
theorem d_Mo_readDouble_48 : decode c_Mo_readDouble 48 = .ok (.ldc2_w 77, 3) := by decide +kernel
theorem d_Mo_readDouble_51 : decode c_Mo_readDouble 51 = .ok (.invokevirtual 141, 3) := by decide +kernel
theorem d_Mo_readDouble_54 : decode c_Mo_readDouble 54 = .ok (.dreturn, 1) := by decide +kernel
theorem d_Mo_tail_0 : decode c_Mo_tail 0 = .ok (.iload_n 1, 1) := by decide +kernel
theorem d_Mo_tail_1 : decode c_Mo_tail 1 = .ok (.iload_n 2, 1) := by decide +kernel
theorem d_Mo_tail_2 : decode c_Mo_tail 2 = .ok (.if_icmp .ge 31, 3) := by decide +kernel
theorem d_Mo_tail_5 : decode c_Mo_tail 5 = .ok (.aload_n 0, 1) := by decide +kernel
theorem d_Mo_tail_6 : decode c_Mo_tail 6 = .ok (.getfield 19, 3) := by decide +kernel
theorem d_Mo_tail_9 : decode c_Mo_tail 9 = .ok (.iload_n 1, 1) := by decide +kernel
theorem d_Mo_tail_10 : decode c_Mo_tail 10 = .ok (.iaload, 1) := by decide +kernel
theorem d_Mo_tail_11 : decode c_Mo_tail 11 = .ok (.sipush 128, 3) := by decide +kernel
theorem d_Mo_tail_14 : decode c_Mo_tail 14 = .ok (.if_icmp .lt 19, 3) := by decide +kernel
theorem d_Mo_tail_17 : decode c_Mo_tail 17 = .ok (.aload_n 0, 1) := by decide +kernel
theorem d_Mo_tail_18 : decode c_Mo_tail 18 = .ok (.getfield 19, 3) := by decide +kernel
theorem d_Mo_tail_21 : decode c_Mo_tail 21 = .ok (.iload_n 1, 1) := by decide +kernel
theorem d_Mo_tail_22 : decode c_Mo_tail 22 = .ok (.iaload, 1) := by decide +kernel
theorem d_Mo_tail_23 : decode c_Mo_tail 23 = .ok (.sipush 191, 3) := by decide +kernel
theorem d_Mo_tail_26 : decode c_Mo_tail 26 = .ok (.if_icmp .gt 7, 3) := by decide +kernel
theorem d_Mo_tail_29 : decode c_Mo_tail 29 = .ok (.iconst 1, 1) := by decide +kernel
theorem d_Mo_tail_30 : decode c_Mo_tail 30 = .ok (.goto 4, 3) := by decide +kernel
theorem d_Mo_tail_33 : decode c_Mo_tail 33 = .ok (.iconst 0, 1) := by decide +kernel
theorem d_Mo_tail_34 : decode c_Mo_tail 34 = .ok (.ireturn, 1) := by decide +kernel
theorem d_Mo_decode_0 : decode c_Mo_decode 0 = .ok (.iconst 0, 1) := by decide +kernel
theorem d_Mo_decode_1 : decode c_Mo_decode 1 = .ok (.istore_n 2, 1) := by decide +kernel
theorem d_Mo_decode_2 : decode c_Mo_decode 2 = .ok (.iconst 0, 1) := by decide +kernel
theorem d_Mo_decode_3 : decode c_Mo_decode 3 = .ok (.istore_n 3, 1) := by decide +kernel
theorem d_Mo_decode_4 : decode c_Mo_decode 4 = .ok (.iload_n 3, 1) := by decide +kernel
theorem d_Mo_decode_5 : decode c_Mo_decode 5 = .ok (.iload_n 1, 1) := by decide +kernel
theorem d_Mo_decode_6 : decode c_Mo_decode 6 = .ok (.if_icmp .ge 197, 3) := by decide +kernel
theorem d_Mo_decode_9 : decode c_Mo_decode 9 = .ok (.aload_n 0, 1) := by decide +kernel
theorem d_Mo_decode_10 : decode c_Mo_decode 10 = .ok (.getfield 19, 3) := by decide +kernel
theorem d_Mo_decode_13 : decode c_Mo_decode 13 = .ok (.iload_n 3, 1) := by decide +kernel
theorem d_Mo_decode_14 : decode c_Mo_decode 14 = .ok (.iaload, 1) := by decide +kernel
theorem d_Mo_decode_15 : decode c_Mo_decode 15 = .ok (.istore 4, 2) := by decide +kernel
theorem d_Mo_decode_17 : decode c_Mo_decode 17 = .ok (.iload 4, 2) := by decide +kernel
theorem d_Mo_decode_19 : decode c_Mo_decode 19 = .ok (.sipush 128, 3) := by decide +kernel
theorem d_Mo_decode_22 : decode c_Mo_decode 22 = .ok (.if_icmp .ge 7, 3) := by decide +kernel
theorem d_Mo_decode_25 : decode c_Mo_decode 25 = .ok (.iconst 0, 1) := by decide +kernel
theorem d_Mo_decode_26 : decode c_Mo_decode 26 = .ok (.goto 36, 3) := by decide +kernel
theorem d_Mo_decode_29 : decode c_Mo_decode 29 = .ok (.iload 4, 2) := by decide +kernel
theorem d_Mo_decode_31 : decode c_Mo_decode 31 = .ok (.sipush 192, 3) := by decide +kernel
theorem d_Mo_decode_34 : decode c_Mo_decode 34 = .ok (.if_icmp .lt 11, 3) := by decide +kernel
theorem d_Mo_decode_37 : decode c_Mo_decode 37 = .ok (.iload 4, 2) := by decide +kernel
theorem d_Mo_decode_39 : decode c_Mo_decode 39 = .ok (.sipush 239, 3) := by decide +kernel
theorem d_Mo_decode_42 : decode c_Mo_decode 42 = .ok (.if_icmp .le 7, 3) := by decide +kernel
theorem d_Mo_decode_45 : decode c_Mo_decode 45 = .ok (.iconst (-1), 1) := by decide +kernel
theorem d_Mo_decode_46 : decode c_Mo_decode 46 = .ok (.goto 16, 3) := by decide +kernel
theorem d_Mo_decode_49 : decode c_Mo_decode 49 = .ok (.iload 4, 2) := by decide +kernel
theorem d_Mo_decode_51 : decode c_Mo_decode 51 = .ok (.sipush 224, 3) := by decide +kernel
theorem d_Mo_decode_54 : decode c_Mo_decode 54 = .ok (.if_icmp .ge 7, 3) := by decide +kernel
theorem d_Mo_decode_57 : decode c_Mo_decode 57 = .ok (.iconst 1, 1) := by decide +kernel
theorem d_Mo_decode_58 : decode c_Mo_decode 58 = .ok (.goto 4, 3) := by decide +kernel
theorem d_Mo_decode_61 : decode c_Mo_decode 61 = .ok (.iconst 2, 1) := by decide +kernel
theorem d_Mo_decode_62 : decode c_Mo_decode 62 = .ok (.istore 5, 2) := by decide +kernel
theorem d_Mo_decode_64 : decode c_Mo_decode 64 = .ok (.iload 5, 2) := by decide +kernel
theorem d_Mo_decode_66 : decode c_Mo_decode 66 = .ok (.ifCond .lt 9, 3) := by decide +kernel
theorem d_Mo_decode_69 : decode c_Mo_decode 69 = .ok (.iload_n 2, 1) := by decide +kernel
theorem d_Mo_decode_70 : decode c_Mo_decode 70 = .ok (.bipush 40, 2) := by decide +kernel
theorem d_Mo_decode_72 : decode c_Mo_decode 72 = .ok (.if_icmp .ne 5, 3) := by decide +kernel
theorem d_Mo_decode_75 : decode c_Mo_decode 75 = .ok (.iconst (-1), 1) := by decide +kernel
theorem d_Mo_decode_76 : decode c_Mo_decode 76 = .ok (.ireturn, 1) := by decide +kernel
theorem d_Mo_decode_77 : decode c_Mo_decode 77 = .ok (.iload 5, 2) := by decide +kernel
theorem d_Mo_decode_79 : decode c_Mo_decode 79 = .ok (.ifCond .le 14, 3) := by decide +kernel
theorem d_Mo_decode_82 : decode c_Mo_decode 82 = .ok (.aload_n 0, 1) := by decide +kernel
theorem d_Mo_decode_83 : decode c_Mo_decode 83 = .ok (.iload_n 3, 1) := by decide +kernel
theorem d_Mo_decode_84 : decode c_Mo_decode 84 = .ok (.iconst 1, 1) := by decide +kernel
theorem d_Mo_decode_85 : decode c_Mo_decode 85 = .ok (.iadd, 1) := by decide +kernel
theorem d_Mo_decode_86 : decode c_Mo_decode 86 = .ok (.iload_n 1, 1) := by decide +kernel
theorem d_Mo_decode_87 : decode c_Mo_decode 87 = .ok (.invokevirtual 145, 3) := by decide +kernel
theorem d_Mo_decode_90 : decode c_Mo_decode 90 = .ok (.ifCond .eq 20, 3) := by decide +kernel
theorem d_Mo_decode_93 : decode c_Mo_decode 93 = .ok (.iload 5, 2) := by decide +kernel
theorem d_Mo_decode_95 : decode c_Mo_decode 95 = .ok (.iconst 1, 1) := by decide +kernel
theorem d_Mo_decode_96 : decode c_Mo_decode 96 = .ok (.if_icmp .le 16, 3) := by decide +kernel
theorem d_Mo_decode_99 : decode c_Mo_decode 99 = .ok (.aload_n 0, 1) := by decide +kernel
theorem d_Mo_decode_100 : decode c_Mo_decode 100 = .ok (.iload_n 3, 1) := by decide +kernel
theorem d_Mo_decode_101 : decode c_Mo_decode 101 = .ok (.iconst 2, 1) := by decide +kernel
theorem d_Mo_decode_102 : decode c_Mo_decode 102 = .ok (.iadd, 1) := by decide +kernel
theorem d_Mo_decode_103 : decode c_Mo_decode 103 = .ok (.iload_n 1, 1) := by decide +kernel
theorem d_Mo_decode_104 : decode c_Mo_decode 104 = .ok (.invokevirtual 145, 3) := by decide +kernel
theorem d_Mo_decode_107 : decode c_Mo_decode 107 = .ok (.ifCond .ne 5, 3) := by decide +kernel
theorem d_Mo_decode_110 : decode c_Mo_decode 110 = .ok (.iconst (-1), 1) := by decide +kernel
theorem d_Mo_decode_111 : decode c_Mo_decode 111 = .ok (.ireturn, 1) := by decide +kernel
theorem d_Mo_decode_112 : decode c_Mo_decode 112 = .ok (.iload 5, 2) := by decide +kernel
theorem d_Mo_decode_114 : decode c_Mo_decode 114 = .ok (.ifCond .ne 8, 3) := by decide +kernel
theorem d_Mo_decode_117 : decode c_Mo_decode 117 = .ok (.iload 4, 2) := by decide +kernel
theorem d_Mo_decode_119 : decode c_Mo_decode 119 = .ok (.goto 24, 3) := by decide +kernel
theorem d_Mo_decode_122 : decode c_Mo_decode 122 = .ok (.iload 5, 2) := by decide +kernel
theorem d_Mo_decode_124 : decode c_Mo_decode 124 = .ok (.iconst 1, 1) := by decide +kernel
theorem d_Mo_decode_125 : decode c_Mo_decode 125 = .ok (.if_icmp .ne 12, 3) := by decide +kernel
theorem d_Mo_decode_128 : decode c_Mo_decode 128 = .ok (.iload 4, 2) := by decide +kernel
theorem d_Mo_decode_130 : decode c_Mo_decode 130 = .ok (.sipush 192, 3) := by decide +kernel
theorem d_Mo_decode_133 : decode c_Mo_decode 133 = .ok (.isub, 1) := by decide +kernel
theorem d_Mo_decode_134 : decode c_Mo_decode 134 = .ok (.goto 9, 3) := by decide +kernel
theorem d_Mo_decode_137 : decode c_Mo_decode 137 = .ok (.iload 4, 2) := by decide +kernel
theorem d_Mo_decode_139 : decode c_Mo_decode 139 = .ok (.sipush 224, 3) := by decide +kernel
theorem d_Mo_decode_142 : decode c_Mo_decode 142 = .ok (.isub, 1) := by decide +kernel
theorem d_Mo_decode_143 : decode c_Mo_decode 143 = .ok (.istore 6, 2) := by decide +kernel
theorem d_Mo_decode_145 : decode c_Mo_decode 145 = .ok (.iconst 1, 1) := by decide +kernel
theorem d_Mo_decode_146 : decode c_Mo_decode 146 = .ok (.istore 7, 2) := by decide +kernel
theorem d_Mo_decode_148 : decode c_Mo_decode 148 = .ok (.iload 7, 2) := by decide +kernel
theorem d_Mo_decode_150 : decode c_Mo_decode 150 = .ok (.iload 5, 2) := by decide +kernel
theorem d_Mo_decode_152 : decode c_Mo_decode 152 = .ok (.if_icmp .gt 30, 3) := by decide +kernel
theorem d_Mo_decode_155 : decode c_Mo_decode 155 = .ok (.iload 6, 2) := by decide +kernel
theorem d_Mo_decode_157 : decode c_Mo_decode 157 = .ok (.bipush 64, 2) := by decide +kernel
theorem d_Mo_decode_159 : decode c_Mo_decode 159 = .ok (.imul, 1) := by decide +kernel
theorem d_Mo_decode_160 : decode c_Mo_decode 160 = .ok (.aload_n 0, 1) := by decide +kernel
theorem d_Mo_decode_161 : decode c_Mo_decode 161 = .ok (.getfield 19, 3) := by decide +kernel
theorem d_Mo_decode_164 : decode c_Mo_decode 164 = .ok (.iload_n 3, 1) := by decide +kernel
theorem d_Mo_decode_165 : decode c_Mo_decode 165 = .ok (.iload 7, 2) := by decide +kernel
theorem d_Mo_decode_167 : decode c_Mo_decode 167 = .ok (.iadd, 1) := by decide +kernel
theorem d_Mo_decode_168 : decode c_Mo_decode 168 = .ok (.iaload, 1) := by decide +kernel
theorem d_Mo_decode_169 : decode c_Mo_decode 169 = .ok (.iadd, 1) := by decide +kernel
theorem d_Mo_decode_170 : decode c_Mo_decode 170 = .ok (.sipush 128, 3) := by decide +kernel
theorem d_Mo_decode_173 : decode c_Mo_decode 173 = .ok (.isub, 1) := by decide +kernel
theorem d_Mo_decode_174 : decode c_Mo_decode 174 = .ok (.istore 6, 2) := by decide +kernel
theorem d_Mo_decode_176 : decode c_Mo_decode 176 = .ok (.iinc 7 1, 3) := by decide +kernel
theorem d_Mo_decode_179 : decode c_Mo_decode 179 = .ok (.goto (-31), 3) := by decide +kernel
theorem d_Mo_decode_182 : decode c_Mo_decode 182 = .ok (.aload_n 0, 1) := by decide +kernel
theorem d_Mo_decode_183 : decode c_Mo_decode 183 = .ok (.getfield 22, 3) := by decide +kernel
theorem d_Mo_decode_186 : decode c_Mo_decode 186 = .ok (.iload_n 2, 1) := by decide +kernel
theorem d_Mo_decode_187 : decode c_Mo_decode 187 = .ok (.iload 6, 2) := by decide +kernel
theorem d_Mo_decode_189 : decode c_Mo_decode 189 = .ok (.iastore, 1) := by decide +kernel
theorem d_Mo_decode_190 : decode c_Mo_decode 190 = .ok (.iinc 2 1, 3) := by decide +kernel
theorem d_Mo_decode_193 : decode c_Mo_decode 193 = .ok (.iload_n 3, 1) := by decide +kernel
theorem d_Mo_decode_194 : decode c_Mo_decode 194 = .ok (.iload 5, 2) := by decide +kernel
theorem d_Mo_decode_196 : decode c_Mo_decode 196 = .ok (.iconst 1, 1) := by decide +kernel
theorem d_Mo_decode_197 : decode c_Mo_decode 197 = .ok (.iadd, 1) := by decide +kernel
theorem d_Mo_decode_198 : decode c_Mo_decode 198 = .ok (.iadd, 1) := by decide +kernel
theorem d_Mo_decode_199 : decode c_Mo_decode 199 = .ok (.istore_n 3, 1) := by decide +kernel
theorem d_Mo_decode_200 : decode c_Mo_decode 200 = .ok (.goto (-196), 3) := by decide +kernel
theorem d_Mo_decode_203 : decode c_Mo_decode 203 = .ok (.iload_n 2, 1) := by decide +kernel
theorem d_Mo_decode_204 : decode c_Mo_decode 204 = .ok (.ireturn, 1) := by decide +kernel
theorem d_Mo_readText_0 : decode c_Mo_readText 0 = .ok (.aload_n 0, 1) := by decide +kernel
theorem d_Mo_readText_1 : decode c_Mo_readText 1 = .ok (.invokevirtual 114, 3) := by decide +kernel
theorem d_Mo_readText_4 : decode c_Mo_readText 4 = .ok (.aload_n 0, 1) := by decide +kernel
theorem d_Mo_readText_5 : decode c_Mo_readText 5 = .ok (.iconst 2, 1) := by decide +kernel
theorem d_Mo_readText_6 : decode c_Mo_readText 6 = .ok (.invokevirtual 117, 3) := by decide +kernel
theorem d_Mo_readText_9 : decode c_Mo_readText 9 = .ok (.l2i, 1) := by decide +kernel
theorem d_Mo_readText_10 : decode c_Mo_readText 10 = .ok (.istore_n 1, 1) := by decide +kernel
theorem d_Mo_readText_11 : decode c_Mo_readText 11 = .ok (.iconst 0, 1) := by decide +kernel
theorem d_Mo_readText_12 : decode c_Mo_readText 12 = .ok (.istore_n 2, 1) := by decide +kernel
theorem d_Mo_readText_13 : decode c_Mo_readText 13 = .ok (.iload_n 2, 1) := by decide +kernel
theorem d_Mo_readText_14 : decode c_Mo_readText 14 = .ok (.iload_n 1, 1) := by decide +kernel
theorem d_Mo_readText_15 : decode c_Mo_readText 15 = .ok (.if_icmp .ge 26, 3) := by decide +kernel
theorem d_Mo_readText_18 : decode c_Mo_readText 18 = .ok (.aload_n 0, 1) := by decide +kernel
theorem d_Mo_readText_19 : decode c_Mo_readText 19 = .ok (.getfield 101, 3) := by decide +kernel
theorem d_Mo_readText_22 : decode c_Mo_readText 22 = .ok (.ifCond .ne 19, 3) := by decide +kernel
theorem d_Mo_readText_25 : decode c_Mo_readText 25 = .ok (.aload_n 0, 1) := by decide +kernel
theorem d_Mo_readText_26 : decode c_Mo_readText 26 = .ok (.getfield 19, 3) := by decide +kernel
theorem d_Mo_readText_29 : decode c_Mo_readText 29 = .ok (.iload_n 2, 1) := by decide +kernel
theorem d_Mo_readText_30 : decode c_Mo_readText 30 = .ok (.aload_n 0, 1) := by decide +kernel
theorem d_Mo_readText_31 : decode c_Mo_readText 31 = .ok (.invokevirtual 110, 3) := by decide +kernel
theorem d_Mo_readText_34 : decode c_Mo_readText 34 = .ok (.iastore, 1) := by decide +kernel
theorem d_Mo_readText_35 : decode c_Mo_readText 35 = .ok (.iinc 2 1, 3) := by decide +kernel
theorem d_Mo_readText_38 : decode c_Mo_readText 38 = .ok (.goto (-25), 3) := by decide +kernel
theorem d_Mo_readText_41 : decode c_Mo_readText 41 = .ok (.aload_n 0, 1) := by decide +kernel
theorem d_Mo_readText_42 : decode c_Mo_readText 42 = .ok (.getfield 101, 3) := by decide +kernel
theorem d_Mo_readText_45 : decode c_Mo_readText 45 = .ok (.ifCond .le 21, 3) := by decide +kernel
theorem d_Mo_readText_48 : decode c_Mo_readText 48 = .ok (.aload_n 0, 1) := by decide +kernel
theorem d_Mo_readText_49 : decode c_Mo_readText 49 = .ok (.aload_n 0, 1) := by decide +kernel
theorem d_Mo_readText_50 : decode c_Mo_readText 50 = .ok (.getfield 101, 3) := by decide +kernel
theorem d_Mo_readText_53 : decode c_Mo_readText 53 = .ok (.iconst 2, 1) := by decide +kernel
theorem d_Mo_readText_54 : decode c_Mo_readText 54 = .ok (.if_icmp .ne 7, 3) := by decide +kernel
theorem d_Mo_readText_57 : decode c_Mo_readText 57 = .ok (.iconst 1, 1) := by decide +kernel
theorem d_Mo_readText_58 : decode c_Mo_readText 58 = .ok (.goto 4, 3) := by decide +kernel
theorem d_Mo_readText_61 : decode c_Mo_readText 61 = .ok (.iconst 3, 1) := by decide +kernel
theorem d_Mo_readText_62 : decode c_Mo_readText 62 = .ok (.invokevirtual 53, 3) := by decide +kernel
theorem d_Mo_readText_65 : decode c_Mo_readText 65 = .ok (.ireturn, 1) := by decide +kernel
theorem d_Mo_readText_66 : decode c_Mo_readText 66 = .ok (.aload_n 0, 1) := by decide +kernel
theorem d_Mo_readText_67 : decode c_Mo_readText 67 = .ok (.iload_n 1, 1) := by decide +kernel
theorem d_Mo_readText_68 : decode c_Mo_readText 68 = .ok (.invokevirtual 149, 3) := by decide +kernel
theorem d_Mo_readText_71 : decode c_Mo_readText 71 = .ok (.istore_n 2, 1) := by decide +kernel
theorem d_Mo_readText_72 : decode c_Mo_readText 72 = .ok (.iload_n 2, 1) := by decide +kernel
theorem d_Mo_readText_73 : decode c_Mo_readText 73 = .ok (.ifCond .ge 9, 3) := by decide +kernel
theorem d_Mo_readText_76 : decode c_Mo_readText 76 = .ok (.aload_n 0, 1) := by decide +kernel
theorem d_Mo_readText_77 : decode c_Mo_readText 77 = .ok (.iconst 2, 1) := by decide +kernel
theorem d_Mo_readText_78 : decode c_Mo_readText 78 = .ok (.invokevirtual 53, 3) := by decide +kernel
theorem d_Mo_readText_81 : decode c_Mo_readText 81 = .ok (.ireturn, 1) := by decide +kernel
theorem d_Mo_readText_82 : decode c_Mo_readText 82 = .ok (.aload_n 0, 1) := by decide +kernel
theorem d_Mo_readText_83 : decode c_Mo_readText 83 = .ok (.invokevirtual 121, 3) := by decide +kernel
theorem d_Mo_readText_86 : decode c_Mo_readText 86 = .ok (.iconst 0, 1) := by decide +kernel
theorem d_Mo_readText_87 : decode c_Mo_readText 87 = .ok (.istore_n 3, 1) := by decide +kernel
theorem d_Mo_readText_88 : decode c_Mo_readText 88 = .ok (.iload_n 3, 1) := by decide +kernel
theorem d_Mo_readText_89 : decode c_Mo_readText 89 = .ok (.iload_n 2, 1) := by decide +kernel
theorem d_Mo_readText_90 : decode c_Mo_readText 90 = .ok (.if_icmp .ge 21, 3) := by decide +kernel
theorem d_Mo_readText_93 : decode c_Mo_readText 93 = .ok (.aload_n 0, 1) := by decide +kernel
theorem d_Mo_readText_94 : decode c_Mo_readText 94 = .ok (.getfield 16, 3) := by decide +kernel
theorem d_Mo_readText_97 : decode c_Mo_readText 97 = .ok (.iload_n 3, 1) := by decide +kernel
theorem d_Mo_readText_98 : decode c_Mo_readText 98 = .ok (.aload_n 0, 1) := by decide +kernel
theorem d_Mo_readText_99 : decode c_Mo_readText 99 = .ok (.getfield 22, 3) := by decide +kernel
theorem d_Mo_readText_102 : decode c_Mo_readText 102 = .ok (.iload_n 3, 1) := by decide +kernel
theorem d_Mo_readText_103 : decode c_Mo_readText 103 = .ok (.iaload, 1) := by decide +kernel
theorem d_Mo_readText_104 : decode c_Mo_readText 104 = .ok (.iastore, 1) := by decide +kernel
theorem d_Mo_readText_105 : decode c_Mo_readText 105 = .ok (.iinc 3 1, 3) := by decide +kernel
theorem d_Mo_readText_108 : decode c_Mo_readText 108 = .ok (.goto (-20), 3) := by decide +kernel
theorem d_Mo_readText_111 : decode c_Mo_readText 111 = .ok (.iload_n 2, 1) := by decide +kernel
theorem d_Mo_readText_112 : decode c_Mo_readText 112 = .ok (.ireturn, 1) := by decide +kernel
theorem d_Mo_readBlocks_0 : decode c_Mo_readBlocks 0 = .ok (.aload_n 0, 1) := by decide +kernel
theorem d_Mo_readBlocks_1 : decode c_Mo_readBlocks 1 = .ok (.iconst 0, 1) := by decide +kernel
theorem d_Mo_readBlocks_2 : decode c_Mo_readBlocks 2 = .ok (.putfield 25, 3) := by decide +kernel
theorem d_Mo_readBlocks_5 : decode c_Mo_readBlocks 5 = .ok (.iload_n 1, 1) := by decide +kernel
theorem d_Mo_readBlocks_6 : decode c_Mo_readBlocks 6 = .ok (.aload_n 0, 1) := by decide +kernel
theorem d_Mo_readBlocks_7 : decode c_Mo_readBlocks 7 = .ok (.getfield 104, 3) := by decide +kernel
theorem d_Mo_readBlocks_10 : decode c_Mo_readBlocks 10 = .ok (.if_icmp .ne 8, 3) := by decide +kernel
theorem d_Mo_readBlocks_13 : decode c_Mo_readBlocks 13 = .ok (.aload_n 0, 1) := by decide +kernel
theorem d_Mo_readBlocks_14 : decode c_Mo_readBlocks 14 = .ok (.getfield 83, 3) := by decide +kernel
theorem d_Mo_readBlocks_17 : decode c_Mo_readBlocks 17 = .ok (.ireturn, 1) := by decide +kernel
theorem d_Mo_readBlocks_18 : decode c_Mo_readBlocks 18 = .ok (.iload_n 1, 1) := by decide +kernel
theorem d_Mo_readBlocks_19 : decode c_Mo_readBlocks 19 = .ok (.ifCond .ne 16, 3) := by decide +kernel
theorem d_Mo_readBlocks_22 : decode c_Mo_readBlocks 22 = .ok (.aload_n 0, 1) := by decide +kernel
theorem d_Mo_readBlocks_23 : decode c_Mo_readBlocks 23 = .ok (.getfield 89, 3) := by decide +kernel
theorem d_Mo_readBlocks_26 : decode c_Mo_readBlocks 26 = .ok (.ifCond .eq 9, 3) := by decide +kernel
theorem d_Mo_readBlocks_29 : decode c_Mo_readBlocks 29 = .ok (.aload_n 0, 1) := by decide +kernel
theorem d_Mo_readBlocks_30 : decode c_Mo_readBlocks 30 = .ok (.iconst 1, 1) := by decide +kernel
theorem d_Mo_readBlocks_31 : decode c_Mo_readBlocks 31 = .ok (.invokevirtual 53, 3) := by decide +kernel
theorem d_Mo_readBlocks_34 : decode c_Mo_readBlocks 34 = .ok (.ireturn, 1) := by decide +kernel
theorem d_Mo_readBlocks_35 : decode c_Mo_readBlocks 35 = .ok (.aload_n 0, 1) := by decide +kernel
theorem d_Mo_readBlocks_36 : decode c_Mo_readBlocks 36 = .ok (.iload_n 1, 1) := by decide +kernel
theorem d_Mo_readBlocks_37 : decode c_Mo_readBlocks 37 = .ok (.putfield 104, 3) := by decide +kernel
theorem d_Mo_readBlocks_40 : decode c_Mo_readBlocks 40 = .ok (.aload_n 0, 1) := by decide +kernel
theorem d_Mo_readBlocks_41 : decode c_Mo_readBlocks 41 = .ok (.getfield 83, 3) := by decide +kernel
theorem d_Mo_readBlocks_44 : decode c_Mo_readBlocks 44 = .ok (.ireturn, 1) := by decide +kernel
theorem d_Mo_skip_0 : decode c_Mo_skip 0 = .ok (.aload_n 0, 1) := by decide +kernel
theorem d_Mo_skip_1 : decode c_Mo_skip 1 = .ok (.invokevirtual 114, 3) := by decide +kernel
theorem d_Mo_skip_4 : decode c_Mo_skip 4 = .ok (.iload_n 1, 1) := by decide +kernel
theorem d_Mo_skip_5 : decode c_Mo_skip 5 = .ok (.ifCond .lt 10, 3) := by decide +kernel
theorem d_Mo_skip_8 : decode c_Mo_skip 8 = .ok (.iload_n 1, 1) := by decide +kernel
theorem d_Mo_skip_9 : decode c_Mo_skip 9 = .ok (.sipush 1500, 3) := by decide +kernel
theorem d_Mo_skip_12 : decode c_Mo_skip 12 = .ok (.if_icmp .le 9, 3) := by decide +kernel
theorem d_Mo_skip_15 : decode c_Mo_skip 15 = .ok (.aload_n 0, 1) := by decide +kernel
theorem d_Mo_skip_16 : decode c_Mo_skip 16 = .ok (.iconst 2, 1) := by decide +kernel
theorem d_Mo_skip_17 : decode c_Mo_skip 17 = .ok (.invokevirtual 53, 3) := by decide +kernel
theorem d_Mo_skip_20 : decode c_Mo_skip 20 = .ok (.ireturn, 1) := by decide +kernel
theorem d_Mo_skip_21 : decode c_Mo_skip 21 = .ok (.iconst 0, 1) := by decide +kernel
theorem d_Mo_skip_22 : decode c_Mo_skip 22 = .ok (.istore_n 2, 1) := by decide +kernel
theorem d_Mo_skip_23 : decode c_Mo_skip 23 = .ok (.iload_n 2, 1) := by decide +kernel
theorem d_Mo_skip_24 : decode c_Mo_skip 24 = .ok (.iload_n 1, 1) := by decide +kernel
theorem d_Mo_skip_25 : decode c_Mo_skip 25 = .ok (.if_icmp .ge 28, 3) := by decide +kernel
theorem d_Mo_skip_28 : decode c_Mo_skip 28 = .ok (.aload_n 0, 1) := by decide +kernel
theorem d_Mo_skip_29 : decode c_Mo_skip 29 = .ok (.getfield 101, 3) := by decide +kernel
theorem d_Mo_skip_32 : decode c_Mo_skip 32 = .ok (.ifCond .ne 21, 3) := by decide +kernel
theorem d_Mo_skip_35 : decode c_Mo_skip 35 = .ok (.aload_n 0, 1) := by decide +kernel
theorem d_Mo_skip_36 : decode c_Mo_skip 36 = .ok (.invokevirtual 110, 3) := by decide +kernel
theorem d_Mo_skip_39 : decode c_Mo_skip 39 = .ok (.istore_n 3, 1) := by decide +kernel
theorem d_Mo_skip_40 : decode c_Mo_skip 40 = .ok (.aload_n 0, 1) := by decide +kernel
theorem d_Mo_skip_41 : decode c_Mo_skip 41 = .ok (.getfield 101, 3) := by decide +kernel
theorem d_Mo_skip_44 : decode c_Mo_skip 44 = .ok (.ifCond .ne 6, 3) := by decide +kernel
theorem d_Mo_skip_47 : decode c_Mo_skip 47 = .ok (.iinc 2 1, 3) := by decide +kernel
theorem d_Mo_skip_50 : decode c_Mo_skip 50 = .ok (.goto (-27), 3) := by decide +kernel
theorem d_Mo_skip_53 : decode c_Mo_skip 53 = .ok (.aload_n 0, 1) := by decide +kernel
theorem d_Mo_skip_54 : decode c_Mo_skip 54 = .ok (.getfield 101, 3) := by decide +kernel
theorem d_Mo_skip_57 : decode c_Mo_skip 57 = .ok (.iconst 2, 1) := by decide +kernel
theorem d_Mo_skip_58 : decode c_Mo_skip 58 = .ok (.if_icmp .ne 9, 3) := by decide +kernel
theorem d_Mo_skip_61 : decode c_Mo_skip 61 = .ok (.aload_n 0, 1) := by decide +kernel
theorem d_Mo_skip_62 : decode c_Mo_skip 62 = .ok (.iconst 1, 1) := by decide +kernel
theorem d_Mo_skip_63 : decode c_Mo_skip 63 = .ok (.invokevirtual 53, 3) := by decide +kernel
theorem d_Mo_skip_66 : decode c_Mo_skip 66 = .ok (.ireturn, 1) := by decide +kernel
theorem d_Mo_skip_67 : decode c_Mo_skip 67 = .ok (.aload_n 0, 1) := by decide +kernel
theorem d_Mo_skip_68 : decode c_Mo_skip 68 = .ok (.invokevirtual 121, 3) := by decide +kernel
theorem d_Mo_skip_71 : decode c_Mo_skip 71 = .ok (.iload_n 2, 1) := by decide +kernel
theorem d_Mo_skip_72 : decode c_Mo_skip 72 = .ok (.ireturn, 1) := by decide +kernel
theorem d_Mo_rewind_0 : decode c_Mo_rewind 0 = .ok (.aload_n 0, 1) := by decide +kernel
theorem d_Mo_rewind_1 : decode c_Mo_rewind 1 = .ok (.iconst 0, 1) := by decide +kernel
theorem d_Mo_rewind_2 : decode c_Mo_rewind 2 = .ok (.putfield 25, 3) := by decide +kernel
theorem d_Mo_rewind_5 : decode c_Mo_rewind 5 = .ok (.aload_n 0, 1) := by decide +kernel
theorem d_Mo_rewind_6 : decode c_Mo_rewind 6 = .ok (.iconst 0, 1) := by decide +kernel
theorem d_Mo_rewind_7 : decode c_Mo_rewind 7 = .ok (.putfield 83, 3) := by decide +kernel
theorem d_Mo_rewind_10 : decode c_Mo_rewind 10 = .ok (.aload_n 0, 1) := by decide +kernel
theorem d_Mo_rewind_11 : decode c_Mo_rewind 11 = .ok (.iconst 0, 1) := by decide +kernel
theorem d_Mo_rewind_12 : decode c_Mo_rewind 12 = .ok (.putfield 89, 3) := by decide +kernel
theorem d_Mo_rewind_15 : decode c_Mo_rewind 15 = .ok (.aload_n 0, 1) := by decide +kernel
theorem d_Mo_rewind_16 : decode c_Mo_rewind 16 = .ok (.iconst 0, 1) := by decide +kernel
theorem d_Mo_rewind_17 : decode c_Mo_rewind 17 = .ok (.putfield 104, 3) := by decide +kernel
theorem d_Mo_rewind_20 : decode c_Mo_rewind 20 = .ok (.aload_n 0, 1) := by decide +kernel
theorem d_Mo_rewind_21 : decode c_Mo_rewind 21 = .ok (.getfield 29, 3) := by decide +kernel
theorem d_Mo_rewind_24 : decode c_Mo_rewind 24 = .ok (.ireturn, 1) := by decide +kernel
theorem d_Mo_byteAt_0 : decode c_Mo_byteAt 0 = .ok (.aload_n 0, 1) := by decide +kernel
theorem d_Mo_byteAt_1 : decode c_Mo_byteAt 1 = .ok (.iconst 0, 1) := by decide +kernel
theorem d_Mo_byteAt_2 : decode c_Mo_byteAt 2 = .ok (.putfield 25, 3) := by decide +kernel
theorem d_Mo_byteAt_5 : decode c_Mo_byteAt 5 = .ok (.iload_n 1, 1) := by decide +kernel
theorem d_Mo_byteAt_6 : decode c_Mo_byteAt 6 = .ok (.ifCond .lt 11, 3) := by decide +kernel
theorem d_Mo_byteAt_9 : decode c_Mo_byteAt 9 = .ok (.iload_n 1, 1) := by decide +kernel
theorem d_Mo_byteAt_10 : decode c_Mo_byteAt 10 = .ok (.aload_n 0, 1) := by decide +kernel
theorem d_Mo_byteAt_11 : decode c_Mo_byteAt 11 = .ok (.getfield 29, 3) := by decide +kernel
theorem d_Mo_byteAt_14 : decode c_Mo_byteAt 14 = .ok (.if_icmp .lt 7, 3) := by decide +kernel
theorem d_Mo_byteAt_17 : decode c_Mo_byteAt 17 = .ok (.iconst (-1), 1) := by decide +kernel
theorem d_Mo_byteAt_18 : decode c_Mo_byteAt 18 = .ok (.goto 9, 3) := by decide +kernel
theorem d_Mo_byteAt_21 : decode c_Mo_byteAt 21 = .ok (.aload_n 0, 1) := by decide +kernel
theorem d_Mo_byteAt_22 : decode c_Mo_byteAt 22 = .ok (.getfield 7, 3) := by decide +kernel
theorem d_Mo_byteAt_25 : decode c_Mo_byteAt 25 = .ok (.iload_n 1, 1) := by decide +kernel
theorem d_Mo_byteAt_26 : decode c_Mo_byteAt 26 = .ok (.iaload, 1) := by decide +kernel
theorem d_Mo_byteAt_27 : decode c_Mo_byteAt 27 = .ok (.ireturn, 1) := by decide +kernel
theorem d_Mo_code_0 : decode c_Mo_code 0 = .ok (.aload_n 0, 1) := by decide +kernel
theorem d_Mo_code_1 : decode c_Mo_code 1 = .ok (.iconst 0, 1) := by decide +kernel
theorem d_Mo_code_2 : decode c_Mo_code 2 = .ok (.putfield 25, 3) := by decide +kernel
theorem d_Mo_code_5 : decode c_Mo_code 5 = .ok (.iload_n 1, 1) := by decide +kernel
theorem d_Mo_code_6 : decode c_Mo_code 6 = .ok (.ifCond .lt 9, 3) := by decide +kernel
theorem d_Mo_code_9 : decode c_Mo_code 9 = .ok (.iload_n 1, 1) := by decide +kernel
theorem d_Mo_code_10 : decode c_Mo_code 10 = .ok (.bipush 39, 2) := by decide +kernel
theorem d_Mo_code_12 : decode c_Mo_code 12 = .ok (.if_icmp .le 11, 3) := by decide +kernel
theorem d_Mo_code_15 : decode c_Mo_code 15 = .ok (.aload_n 0, 1) := by decide +kernel
theorem d_Mo_code_16 : decode c_Mo_code 16 = .ok (.iconst 1, 1) := by decide +kernel
theorem d_Mo_code_17 : decode c_Mo_code 17 = .ok (.invokevirtual 53, 3) := by decide +kernel
theorem d_Mo_code_20 : decode c_Mo_code 20 = .ok (.goto 9, 3) := by decide +kernel
theorem d_Mo_code_23 : decode c_Mo_code 23 = .ok (.aload_n 0, 1) := by decide +kernel
theorem d_Mo_code_24 : decode c_Mo_code 24 = .ok (.getfield 16, 3) := by decide +kernel
theorem d_Mo_code_27 : decode c_Mo_code 27 = .ok (.iload_n 1, 1) := by decide +kernel
theorem d_Mo_code_28 : decode c_Mo_code 28 = .ok (.iaload, 1) := by decide +kernel
theorem d_Mo_code_29 : decode c_Mo_code 29 = .ok (.ireturn, 1) := by decide +kernel
theorem d_Mo_state_0 : decode c_Mo_state 0 = .ok (.aload_n 0, 1) := by decide +kernel
theorem d_Mo_state_1 : decode c_Mo_state 1 = .ok (.iconst 0, 1) := by decide +kernel
theorem d_Mo_state_2 : decode c_Mo_state 2 = .ok (.putfield 25, 3) := by decide +kernel
theorem d_Mo_state_5 : decode c_Mo_state 5 = .ok (.iload_n 1, 1) := by decide +kernel
theorem d_Mo_state_6 : decode c_Mo_state 6 = .ok (.tableswitch 76 0 5 #[38, 43, 48, 53, 58, 63], 38) := by decide +kernel
theorem d_Mo_state_44 : decode c_Mo_state 44 = .ok (.aload_n 0, 1) := by decide +kernel
theorem d_Mo_state_45 : decode c_Mo_state 45 = .ok (.getfield 29, 3) := by decide +kernel
theorem d_Mo_state_48 : decode c_Mo_state 48 = .ok (.ireturn, 1) := by decide +kernel
theorem d_Mo_state_49 : decode c_Mo_state 49 = .ok (.aload_n 0, 1) := by decide +kernel
theorem d_Mo_state_50 : decode c_Mo_state 50 = .ok (.getfield 32, 3) := by decide +kernel
theorem d_Mo_state_53 : decode c_Mo_state 53 = .ok (.ireturn, 1) := by decide +kernel
theorem d_Mo_state_54 : decode c_Mo_state 54 = .ok (.aload_n 0, 1) := by decide +kernel
theorem d_Mo_state_55 : decode c_Mo_state 55 = .ok (.getfield 83, 3) := by decide +kernel
theorem d_Mo_state_58 : decode c_Mo_state 58 = .ok (.ireturn, 1) := by decide +kernel
theorem d_Mo_state_59 : decode c_Mo_state 59 = .ok (.aload_n 0, 1) := by decide +kernel
theorem d_Mo_state_60 : decode c_Mo_state 60 = .ok (.getfield 89, 3) := by decide +kernel
theorem d_Mo_state_63 : decode c_Mo_state 63 = .ok (.ireturn, 1) := by decide +kernel
theorem d_Mo_state_64 : decode c_Mo_state 64 = .ok (.aload_n 0, 1) := by decide +kernel
theorem d_Mo_state_65 : decode c_Mo_state 65 = .ok (.getfield 95, 3) := by decide +kernel
theorem d_Mo_state_68 : decode c_Mo_state 68 = .ok (.ireturn, 1) := by decide +kernel
theorem d_Mo_state_69 : decode c_Mo_state 69 = .ok (.aload_n 0, 1) := by decide +kernel
theorem d_Mo_state_70 : decode c_Mo_state 70 = .ok (.getfield 136, 3) := by decide +kernel
theorem d_Mo_state_73 : decode c_Mo_state 73 = .ok (.ifCond .eq 7, 3) := by decide +kernel
theorem d_Mo_state_76 : decode c_Mo_state 76 = .ok (.iconst 1, 1) := by decide +kernel
theorem d_Mo_state_77 : decode c_Mo_state 77 = .ok (.goto 4, 3) := by decide +kernel
theorem d_Mo_state_80 : decode c_Mo_state 80 = .ok (.iconst 0, 1) := by decide +kernel
theorem d_Mo_state_81 : decode c_Mo_state 81 = .ok (.ireturn, 1) := by decide +kernel
theorem d_Mo_state_82 : decode c_Mo_state 82 = .ok (.aload_n 0, 1) := by decide +kernel
theorem d_Mo_state_83 : decode c_Mo_state 83 = .ok (.iconst 1, 1) := by decide +kernel
theorem d_Mo_state_84 : decode c_Mo_state 84 = .ok (.invokevirtual 53, 3) := by decide +kernel
theorem d_Mo_state_87 : decode c_Mo_state 87 = .ok (.ireturn, 1) := by decide +kernel
theorem d_Cu_init_0 : decode c_Cu_init 0 = .ok (.aload_n 0, 1) := by decide +kernel
theorem d_Cu_init_1 : decode c_Cu_init 1 = .ok (.invokespecial 3, 3) := by decide +kernel
theorem d_Cu_init_4 : decode c_Cu_init 4 = .ok (.aload_n 0, 1) := by decide +kernel
theorem d_Cu_init_5 : decode c_Cu_init 5 = .ok (.iconst 0, 1) := by decide +kernel
theorem d_Cu_init_6 : decode c_Cu_init 6 = .ok (.putfield 9, 3) := by decide +kernel
theorem d_Cu_init_9 : decode c_Cu_init 9 = .ok (.aload_n 0, 1) := by decide +kernel
theorem d_Cu_init_10 : decode c_Cu_init 10 = .ok (.iconst 0, 1) := by decide +kernel
theorem d_Cu_init_11 : decode c_Cu_init 11 = .ok (.putfield 15, 3) := by decide +kernel
theorem d_Cu_init_14 : decode c_Cu_init 14 = .ok (.aload_n 0, 1) := by decide +kernel
theorem d_Cu_init_15 : decode c_Cu_init 15 = .ok (.iconst 0, 1) := by decide +kernel
theorem d_Cu_init_16 : decode c_Cu_init 16 = .ok (.putfield 18, 3) := by decide +kernel
theorem d_Cu_init_19 : decode c_Cu_init 19 = .ok (.aload_n 0, 1) := by decide +kernel
theorem d_Cu_init_20 : decode c_Cu_init 20 = .ok (.iconst 0, 1) := by decide +kernel
theorem d_Cu_init_21 : decode c_Cu_init 21 = .ok (.putfield 21, 3) := by decide +kernel
theorem d_Cu_init_24 : decode c_Cu_init 24 = .ok (.return_, 1) := by decide +kernel
theorem d_Cu_copyFrom_0 : decode c_Cu_copyFrom 0 = .ok (.aload_n 0, 1) := by decide +kernel
theorem d_Cu_copyFrom_1 : decode c_Cu_copyFrom 1 = .ok (.aload_n 1, 1) := by decide +kernel
theorem d_Cu_copyFrom_2 : decode c_Cu_copyFrom 2 = .ok (.getfield 9, 3) := by decide +kernel
theorem d_Cu_copyFrom_5 : decode c_Cu_copyFrom 5 = .ok (.putfield 9, 3) := by decide +kernel
theorem d_Cu_copyFrom_8 : decode c_Cu_copyFrom 8 = .ok (.aload_n 0, 1) := by decide +kernel
theorem d_Cu_copyFrom_9 : decode c_Cu_copyFrom 9 = .ok (.aload_n 1, 1) := by decide +kernel
theorem d_Cu_copyFrom_10 : decode c_Cu_copyFrom 10 = .ok (.getfield 15, 3) := by decide +kernel
theorem d_Cu_copyFrom_13 : decode c_Cu_copyFrom 13 = .ok (.putfield 15, 3) := by decide +kernel
theorem d_Cu_copyFrom_16 : decode c_Cu_copyFrom 16 = .ok (.aload_n 0, 1) := by decide +kernel
theorem d_Cu_copyFrom_17 : decode c_Cu_copyFrom 17 = .ok (.aload_n 1, 1) := by decide +kernel
theorem d_Cu_copyFrom_18 : decode c_Cu_copyFrom 18 = .ok (.getfield 18, 3) := by decide +kernel
theorem d_Cu_copyFrom_21 : decode c_Cu_copyFrom 21 = .ok (.putfield 18, 3) := by decide +kernel
theorem d_Cu_copyFrom_24 : decode c_Cu_copyFrom 24 = .ok (.aload_n 0, 1) := by decide +kernel
theorem d_Cu_copyFrom_25 : decode c_Cu_copyFrom 25 = .ok (.aload_n 1, 1) := by decide +kernel
theorem d_Cu_copyFrom_26 : decode c_Cu_copyFrom 26 = .ok (.getfield 21, 3) := by decide +kernel
theorem d_Cu_copyFrom_29 : decode c_Cu_copyFrom 29 = .ok (.putfield 21, 3) := by decide +kernel
theorem d_Cu_copyFrom_32 : decode c_Cu_copyFrom 32 = .ok (.return_, 1) := by decide +kernel
theorem d_Cu_next_0 : decode c_Cu_next 0 = .ok (.aload_n 0, 1) := by decide +kernel
theorem d_Cu_next_1 : decode c_Cu_next 1 = .ok (.getfield 21, 3) := by decide +kernel
theorem d_Cu_next_4 : decode c_Cu_next 4 = .ok (.ifCond .eq 15, 3) := by decide +kernel
theorem d_Cu_next_7 : decode c_Cu_next 7 = .ok (.aload_n 0, 1) := by decide +kernel
theorem d_Cu_next_8 : decode c_Cu_next 8 = .ok (.aload_n 1, 1) := by decide +kernel
theorem d_Cu_next_9 : decode c_Cu_next 9 = .ok (.invokevirtual 25, 3) := by decide +kernel
theorem d_Cu_next_12 : decode c_Cu_next 12 = .ok (.istore_n 2, 1) := by decide +kernel
theorem d_Cu_next_13 : decode c_Cu_next 13 = .ok (.iload_n 2, 1) := by decide +kernel
theorem d_Cu_next_14 : decode c_Cu_next 14 = .ok (.ifCond .eq 5, 3) := by decide +kernel
theorem d_Cu_next_17 : decode c_Cu_next 17 = .ok (.iload_n 2, 1) := by decide +kernel
theorem d_Cu_next_18 : decode c_Cu_next 18 = .ok (.ireturn, 1) := by decide +kernel
theorem d_Cu_next_19 : decode c_Cu_next 19 = .ok (.aload_n 0, 1) := by decide +kernel
theorem d_Cu_next_20 : decode c_Cu_next 20 = .ok (.getfield 9, 3) := by decide +kernel
theorem d_Cu_next_23 : decode c_Cu_next 23 = .ok (.aload_n 1, 1) := by decide +kernel
theorem d_Cu_next_24 : decode c_Cu_next 24 = .ok (.getfield 29, 3) := by decide +kernel
theorem d_Cu_next_27 : decode c_Cu_next 27 = .ok (.if_icmp .lt 5, 3) := by decide +kernel
theorem d_Cu_next_30 : decode c_Cu_next 30 = .ok (.iconst (-1), 1) := by decide +kernel
theorem d_Cu_next_31 : decode c_Cu_next 31 = .ok (.ireturn, 1) := by decide +kernel
theorem d_Cu_next_32 : decode c_Cu_next 32 = .ok (.aload_n 0, 1) := by decide +kernel
theorem d_Cu_next_33 : decode c_Cu_next 33 = .ok (.getfield 21, 3) := by decide +kernel
theorem d_Cu_next_36 : decode c_Cu_next 36 = .ok (.ifCond .eq 13, 3) := by decide +kernel
theorem d_Cu_next_39 : decode c_Cu_next 39 = .ok (.aload_n 0, 1) := by decide +kernel
theorem d_Cu_next_40 : decode c_Cu_next 40 = .ok (.dup, 1) := by decide +kernel
theorem d_Cu_next_41 : decode c_Cu_next 41 = .ok (.getfield 15, 3) := by decide +kernel
theorem d_Cu_next_44 : decode c_Cu_next 44 = .ok (.iconst 1, 1) := by decide +kernel
theorem d_Cu_next_45 : decode c_Cu_next 45 = .ok (.isub, 1) := by decide +kernel
theorem d_Cu_next_46 : decode c_Cu_next 46 = .ok (.putfield 15, 3) := by decide +kernel
theorem d_Cu_next_49 : decode c_Cu_next 49 = .ok (.aload_n 0, 1) := by decide +kernel
theorem d_Cu_next_50 : decode c_Cu_next 50 = .ok (.dup, 1) := by decide +kernel
theorem d_Cu_next_51 : decode c_Cu_next 51 = .ok (.getfield 9, 3) := by decide +kernel
theorem d_Cu_next_54 : decode c_Cu_next 54 = .ok (.iconst 1, 1) := by decide +kernel
theorem d_Cu_next_55 : decode c_Cu_next 55 = .ok (.iadd, 1) := by decide +kernel
theorem d_Cu_next_56 : decode c_Cu_next 56 = .ok (.putfield 9, 3) := by decide +kernel
theorem d_Cu_next_59 : decode c_Cu_next 59 = .ok (.aload_n 1, 1) := by decide +kernel
theorem d_Cu_next_60 : decode c_Cu_next 60 = .ok (.aload_n 0, 1) := by decide +kernel
theorem d_Cu_next_61 : decode c_Cu_next 61 = .ok (.getfield 9, 3) := by decide +kernel
theorem d_Cu_next_64 : decode c_Cu_next 64 = .ok (.iconst 1, 1) := by decide +kernel
theorem d_Cu_next_65 : decode c_Cu_next 65 = .ok (.isub, 1) := by decide +kernel
theorem d_Cu_next_66 : decode c_Cu_next 66 = .ok (.invokevirtual 34, 3) := by decide +kernel
theorem d_Cu_next_69 : decode c_Cu_next 69 = .ok (.ireturn, 1) := by decide +kernel
theorem d_Cu_findBlock_0 : decode c_Cu_findBlock 0 = .ok (.aload_n 1, 1) := by decide +kernel
theorem d_Cu_findBlock_1 : decode c_Cu_findBlock 1 = .ok (.getfield 29, 3) := by decide +kernel
theorem d_Cu_findBlock_4 : decode c_Cu_findBlock 4 = .ok (.aload_n 0, 1) := by decide +kernel
theorem d_Cu_findBlock_5 : decode c_Cu_findBlock 5 = .ok (.getfield 9, 3) := by decide +kernel
theorem d_Cu_findBlock_8 : decode c_Cu_findBlock 8 = .ok (.isub, 1) := by decide +kernel
theorem d_Cu_findBlock_9 : decode c_Cu_findBlock 9 = .ok (.istore_n 2, 1) := by decide +kernel
theorem d_Cu_findBlock_10 : decode c_Cu_findBlock 10 = .ok (.iload_n 2, 1) := by decide +kernel
theorem d_Cu_findBlock_11 : decode c_Cu_findBlock 11 = .ok (.ifCond .le 93, 3) := by decide +kernel
theorem d_Cu_findBlock_14 : decode c_Cu_findBlock 14 = .ok (.aload_n 0, 1) := by decide +kernel
theorem d_Cu_findBlock_15 : decode c_Cu_findBlock 15 = .ok (.getfield 15, 3) := by decide +kernel
theorem d_Cu_findBlock_18 : decode c_Cu_findBlock 18 = .ok (.ifCond .ne 86, 3) := by decide +kernel
theorem d_Cu_findBlock_21 : decode c_Cu_findBlock 21 = .ok (.aload_n 1, 1) := by decide +kernel
theorem d_Cu_findBlock_22 : decode c_Cu_findBlock 22 = .ok (.aload_n 0, 1) := by decide +kernel
theorem d_Cu_findBlock_23 : decode c_Cu_findBlock 23 = .ok (.getfield 9, 3) := by decide +kernel
theorem d_Cu_findBlock_26 : decode c_Cu_findBlock 26 = .ok (.invokevirtual 34, 3) := by decide +kernel
theorem d_Cu_findBlock_29 : decode c_Cu_findBlock 29 = .ok (.istore_n 3, 1) := by decide +kernel
theorem d_Cu_findBlock_30 : decode c_Cu_findBlock 30 = .ok (.iload_n 3, 1) := by decide +kernel
theorem d_Cu_findBlock_31 : decode c_Cu_findBlock 31 = .ok (.bipush 121, 2) := by decide +kernel
theorem d_Cu_findBlock_33 : decode c_Cu_findBlock 33 = .ok (.if_icmp .ne 26, 3) := by decide +kernel
theorem d_Cu_findBlock_36 : decode c_Cu_findBlock 36 = .ok (.aload_n 0, 1) := by decide +kernel
theorem d_Cu_findBlock_37 : decode c_Cu_findBlock 37 = .ok (.dup, 1) := by decide +kernel
theorem d_Cu_findBlock_38 : decode c_Cu_findBlock 38 = .ok (.getfield 9, 3) := by decide +kernel
theorem d_Cu_findBlock_41 : decode c_Cu_findBlock 41 = .ok (.iconst 1, 1) := by decide +kernel
theorem d_Cu_findBlock_42 : decode c_Cu_findBlock 42 = .ok (.iadd, 1) := by decide +kernel
theorem d_Cu_findBlock_43 : decode c_Cu_findBlock 43 = .ok (.putfield 9, 3) := by decide +kernel
theorem d_Cu_findBlock_46 : decode c_Cu_findBlock 46 = .ok (.aload_n 0, 1) := by decide +kernel
theorem d_Cu_findBlock_47 : decode c_Cu_findBlock 47 = .ok (.dup, 1) := by decide +kernel
theorem d_Cu_findBlock_48 : decode c_Cu_findBlock 48 = .ok (.getfield 18, 3) := by decide +kernel
theorem d_Cu_findBlock_51 : decode c_Cu_findBlock 51 = .ok (.iconst 1, 1) := by decide +kernel
theorem d_Cu_findBlock_52 : decode c_Cu_findBlock 52 = .ok (.iadd, 1) := by decide +kernel
theorem d_Cu_findBlock_53 : decode c_Cu_findBlock 53 = .ok (.putfield 18, 3) := by decide +kernel
theorem d_Cu_findBlock_56 : decode c_Cu_findBlock 56 = .ok (.goto 42, 3) := by decide +kernel
theorem d_Cu_findBlock_59 : decode c_Cu_findBlock 59 = .ok (.iload_n 3, 1) := by decide +kernel
theorem d_Cu_findBlock_60 : decode c_Cu_findBlock 60 = .ok (.bipush 119, 2) := by decide +kernel
theorem d_Cu_findBlock_62 : decode c_Cu_findBlock 62 = .ok (.if_icmp .eq 9, 3) := by decide +kernel
theorem d_Cu_findBlock_65 : decode c_Cu_findBlock 65 = .ok (.iload_n 3, 1) := by decide +kernel
theorem d_Cu_findBlock_66 : decode c_Cu_findBlock 66 = .ok (.bipush 122, 2) := by decide +kernel
theorem d_Cu_findBlock_68 : decode c_Cu_findBlock 68 = .ok (.if_icmp .ne 25, 3) := by decide +kernel
theorem d_Cu_findBlock_71 : decode c_Cu_findBlock 71 = .ok (.aload_n 0, 1) := by decide +kernel
theorem d_Cu_findBlock_72 : decode c_Cu_findBlock 72 = .ok (.aload_n 1, 1) := by decide +kernel
theorem d_Cu_findBlock_73 : decode c_Cu_findBlock 73 = .ok (.iload_n 3, 1) := by decide +kernel
theorem d_Cu_findBlock_74 : decode c_Cu_findBlock 74 = .ok (.bipush 119, 2) := by decide +kernel
theorem d_Cu_findBlock_76 : decode c_Cu_findBlock 76 = .ok (.if_icmp .ne 7, 3) := by decide +kernel
theorem d_Cu_findBlock_79 : decode c_Cu_findBlock 79 = .ok (.iconst 1, 1) := by decide +kernel
theorem d_Cu_findBlock_80 : decode c_Cu_findBlock 80 = .ok (.goto 4, 3) := by decide +kernel
theorem d_Cu_findBlock_83 : decode c_Cu_findBlock 83 = .ok (.iconst 4, 1) := by decide +kernel
theorem d_Cu_findBlock_84 : decode c_Cu_findBlock 84 = .ok (.invokevirtual 38, 3) := by decide +kernel
theorem d_Cu_findBlock_87 : decode c_Cu_findBlock 87 = .ok (.ifCond .ne 11, 3) := by decide +kernel
theorem d_Cu_findBlock_90 : decode c_Cu_findBlock 90 = .ok (.bipush (-2), 2) := by decide +kernel
theorem d_Cu_findBlock_92 : decode c_Cu_findBlock 92 = .ok (.ireturn, 1) := by decide +kernel
theorem d_Cu_findBlock_93 : decode c_Cu_findBlock 93 = .ok (.iload_n 3, 1) := by decide +kernel
theorem d_Cu_findBlock_94 : decode c_Cu_findBlock 94 = .ok (.invokestatic 42, 3) := by decide +kernel
theorem d_Cu_findBlock_97 : decode c_Cu_findBlock 97 = .ok (.ireturn, 1) := by decide +kernel
theorem d_Cu_findBlock_98 : decode c_Cu_findBlock 98 = .ok (.iinc 2 (-1), 3) := by decide +kernel
theorem d_Cu_findBlock_101 : decode c_Cu_findBlock 101 = .ok (.goto (-91), 3) := by decide +kernel
theorem d_Cu_findBlock_104 : decode c_Cu_findBlock 104 = .ok (.aload_n 0, 1) := by decide +kernel
theorem d_Cu_findBlock_105 : decode c_Cu_findBlock 105 = .ok (.getfield 15, 3) := by decide +kernel
theorem d_Cu_findBlock_108 : decode c_Cu_findBlock 108 = .ok (.ifCond .ne 7, 3) := by decide +kernel
theorem d_Cu_findBlock_111 : decode c_Cu_findBlock 111 = .ok (.iconst (-1), 1) := by decide +kernel
theorem d_Cu_findBlock_112 : decode c_Cu_findBlock 112 = .ok (.goto 4, 3) := by decide +kernel
theorem d_Cu_findBlock_115 : decode c_Cu_findBlock 115 = .ok (.iconst 0, 1) := by decide +kernel
theorem d_Cu_findBlock_116 : decode c_Cu_findBlock 116 = .ok (.ireturn, 1) := by decide +kernel
theorem d_Cu_openBlock_0 : decode c_Cu_openBlock 0 = .ok (.aload_n 1, 1) := by decide +kernel
theorem d_Cu_openBlock_1 : decode c_Cu_openBlock 1 = .ok (.getfield 29, 3) := by decide +kernel
theorem d_Cu_openBlock_4 : decode c_Cu_openBlock 4 = .ok (.aload_n 0, 1) := by decide +kernel
theorem d_Cu_openBlock_5 : decode c_Cu_openBlock 5 = .ok (.getfield 9, 3) := by decide +kernel
theorem d_Cu_openBlock_8 : decode c_Cu_openBlock 8 = .ok (.isub, 1) := by decide +kernel
theorem d_Cu_openBlock_9 : decode c_Cu_openBlock 9 = .ok (.iconst 1, 1) := by decide +kernel
theorem d_Cu_openBlock_10 : decode c_Cu_openBlock 10 = .ok (.isub, 1) := by decide +kernel
theorem d_Cu_openBlock_11 : decode c_Cu_openBlock 11 = .ok (.iload_n 2, 1) := by decide +kernel
theorem d_Cu_openBlock_12 : decode c_Cu_openBlock 12 = .ok (.if_icmp .ge 5, 3) := by decide +kernel
theorem d_Cu_openBlock_15 : decode c_Cu_openBlock 15 = .ok (.iconst 0, 1) := by decide +kernel
theorem d_Cu_openBlock_16 : decode c_Cu_openBlock 16 = .ok (.ireturn, 1) := by decide +kernel
theorem d_Cu_openBlock_17 : decode c_Cu_openBlock 17 = .ok (.iconst 0, 1) := by decide +kernel
theorem d_Cu_openBlock_18 : decode c_Cu_openBlock 18 = .ok (.istore_n 3, 1) := by decide +kernel
theorem d_Cu_openBlock_19 : decode c_Cu_openBlock 19 = .ok (.iconst 1, 1) := by decide +kernel
theorem d_Cu_openBlock_20 : decode c_Cu_openBlock 20 = .ok (.istore 4, 2) := by decide +kernel
theorem d_Cu_openBlock_22 : decode c_Cu_openBlock 22 = .ok (.iload 4, 2) := by decide +kernel
theorem d_Cu_openBlock_24 : decode c_Cu_openBlock 24 = .ok (.iload_n 2, 1) := by decide +kernel
theorem d_Cu_openBlock_25 : decode c_Cu_openBlock 25 = .ok (.if_icmp .gt 26, 3) := by decide +kernel
theorem d_Cu_openBlock_28 : decode c_Cu_openBlock 28 = .ok (.iload_n 3, 1) := by decide +kernel
theorem d_Cu_openBlock_29 : decode c_Cu_openBlock 29 = .ok (.bipush 8, 2) := by decide +kernel
theorem d_Cu_openBlock_31 : decode c_Cu_openBlock 31 = .ok (.ishl, 1) := by decide +kernel
theorem d_Cu_openBlock_32 : decode c_Cu_openBlock 32 = .ok (.aload_n 1, 1) := by decide +kernel
theorem d_Cu_openBlock_33 : decode c_Cu_openBlock 33 = .ok (.aload_n 0, 1) := by decide +kernel
theorem d_Cu_openBlock_34 : decode c_Cu_openBlock 34 = .ok (.getfield 9, 3) := by decide +kernel
theorem d_Cu_openBlock_37 : decode c_Cu_openBlock 37 = .ok (.iload 4, 2) := by decide +kernel
theorem d_Cu_openBlock_39 : decode c_Cu_openBlock 39 = .ok (.iadd, 1) := by decide +kernel
theorem d_Cu_openBlock_40 : decode c_Cu_openBlock 40 = .ok (.invokevirtual 34, 3) := by decide +kernel
theorem d_Cu_openBlock_43 : decode c_Cu_openBlock 43 = .ok (.ior, 1) := by decide +kernel
theorem d_Cu_openBlock_44 : decode c_Cu_openBlock 44 = .ok (.istore_n 3, 1) := by decide +kernel
theorem d_Cu_openBlock_45 : decode c_Cu_openBlock 45 = .ok (.iinc 4 1, 3) := by decide +kernel
theorem d_Cu_openBlock_48 : decode c_Cu_openBlock 48 = .ok (.goto (-26), 3) := by decide +kernel
theorem d_Cu_openBlock_51 : decode c_Cu_openBlock 51 = .ok (.iload_n 3, 1) := by decide +kernel
theorem d_Cu_openBlock_52 : decode c_Cu_openBlock 52 = .ok (.ifCond .ge 5, 3) := by decide +kernel
theorem d_Cu_openBlock_55 : decode c_Cu_openBlock 55 = .ok (.iconst 0, 1) := by decide +kernel
theorem d_Cu_openBlock_56 : decode c_Cu_openBlock 56 = .ok (.ireturn, 1) := by decide +kernel
theorem d_Cu_openBlock_57 : decode c_Cu_openBlock 57 = .ok (.aload_n 0, 1) := by decide +kernel
theorem d_Cu_openBlock_58 : decode c_Cu_openBlock 58 = .ok (.dup, 1) := by decide +kernel
theorem d_Cu_openBlock_59 : decode c_Cu_openBlock 59 = .ok (.getfield 9, 3) := by decide +kernel
theorem d_Cu_openBlock_62 : decode c_Cu_openBlock 62 = .ok (.iconst 1, 1) := by decide +kernel
theorem d_Cu_openBlock_63 : decode c_Cu_openBlock 63 = .ok (.iload_n 2, 1) := by decide +kernel
theorem d_Cu_openBlock_64 : decode c_Cu_openBlock 64 = .ok (.iadd, 1) := by decide +kernel
theorem d_Cu_openBlock_65 : decode c_Cu_openBlock 65 = .ok (.iadd, 1) := by decide +kernel
theorem d_Cu_openBlock_66 : decode c_Cu_openBlock 66 = .ok (.putfield 9, 3) := by decide +kernel
theorem d_Cu_openBlock_69 : decode c_Cu_openBlock 69 = .ok (.aload_n 0, 1) := by decide +kernel
theorem d_Cu_openBlock_70 : decode c_Cu_openBlock 70 = .ok (.iload_n 3, 1) := by decide +kernel
theorem d_Cu_openBlock_71 : decode c_Cu_openBlock 71 = .ok (.putfield 15, 3) := by decide +kernel
theorem d_Cu_openBlock_74 : decode c_Cu_openBlock 74 = .ok (.iconst 1, 1) := by decide +kernel
theorem d_Cu_openBlock_75 : decode c_Cu_openBlock 75 = .ok (.ireturn, 1) := by decide +kernel
theorem d_Cu_endAt_0 : decode c_Cu_endAt 0 = .ok (.iload_n 0, 1) := by decide +kernel
theorem d_Cu_endAt_1 : decode c_Cu_endAt 1 = .ok (.iconst (-1), 1) := by decide +kernel
theorem d_Cu_endAt_2 : decode c_Cu_endAt 2 = .ok (.if_icmp .eq 15, 3) := by decide +kernel
theorem d_Cu_endAt_5 : decode c_Cu_endAt 5 = .ok (.iload_n 0, 1) := by decide +kernel
theorem d_Cu_endAt_6 : decode c_Cu_endAt 6 = .ok (.bipush 112, 2) := by decide +kernel
theorem d_Cu_endAt_8 : decode c_Cu_endAt 8 = .ok (.if_icmp .lt 13, 3) := by decide +kernel
theorem d_Cu_endAt_11 : decode c_Cu_endAt 11 = .ok (.iload_n 0, 1) := by decide +kernel
theorem d_Cu_endAt_12 : decode c_Cu_endAt 12 = .ok (.bipush 126, 2) := by decide +kernel
theorem d_Cu_endAt_14 : decode c_Cu_endAt 14 = .ok (.if_icmp .gt 7, 3) := by decide +kernel
theorem d_Cu_endAt_17 : decode c_Cu_endAt 17 = .ok (.iconst 1, 1) := by decide +kernel
theorem d_Cu_endAt_18 : decode c_Cu_endAt 18 = .ok (.goto 4, 3) := by decide +kernel
theorem d_Cu_endAt_21 : decode c_Cu_endAt 21 = .ok (.iconst 0, 1) := by decide +kernel
theorem d_Cu_endAt_22 : decode c_Cu_endAt 22 = .ok (.istore_n 1, 1) := by decide +kernel
theorem d_Cu_endAt_23 : decode c_Cu_endAt 23 = .ok (.iload_n 1, 1) := by decide +kernel
theorem d_Cu_endAt_24 : decode c_Cu_endAt 24 = .ok (.ifCond .eq 7, 3) := by decide +kernel
theorem d_Cu_endAt_27 : decode c_Cu_endAt 27 = .ok (.iconst (-1), 1) := by decide +kernel
theorem d_Cu_endAt_28 : decode c_Cu_endAt 28 = .ok (.goto 5, 3) := by decide +kernel
theorem d_Cu_endAt_31 : decode c_Cu_endAt 31 = .ok (.bipush (-2), 2) := by decide +kernel
theorem d_Cu_endAt_33 : decode c_Cu_endAt 33 = .ok (.ireturn, 1) := by decide +kernel
theorem d_La_allOnes_0 : decode c_La_allOnes 0 = .ok (.iconst 2, 1) := by decide +kernel
theorem d_La_allOnes_1 : decode c_La_allOnes 1 = .ok (.aload_n 0, 1) := by decide +kernel
theorem d_La_allOnes_2 : decode c_La_allOnes 2 = .ok (.getfield 33, 3) := by decide +kernel
theorem d_La_allOnes_5 : decode c_La_allOnes 5 = .ok (.imul, 1) := by decide +kernel
theorem d_La_allOnes_6 : decode c_La_allOnes 6 = .ok (.iconst 1, 1) := by decide +kernel
theorem d_La_allOnes_7 : decode c_La_allOnes 7 = .ok (.iadd, 1) := by decide +kernel
theorem d_La_allOnes_8 : decode c_La_allOnes 8 = .ok (.ireturn, 1) := by decide +kernel
theorem d_La_one_0 : decode c_La_one 0 = .ok (.lconst 1, 1) := by decide +kernel
theorem d_La_one_1 : decode c_La_one 1 = .ok (.aload_n 0, 1) := by decide +kernel
theorem d_La_one_2 : decode c_La_one 2 = .ok (.getfield 36, 3) := by decide +kernel
theorem d_La_one_5 : decode c_La_one 5 = .ok (.lshl, 1) := by decide +kernel
theorem d_La_one_6 : decode c_La_one 6 = .ok (.lreturn, 1) := by decide +kernel
theorem d_La_exponentIn_0 : decode c_La_exponentIn 0 = .ok (.lload_n 1, 1) := by decide +kernel
theorem d_La_exponentIn_1 : decode c_La_exponentIn 1 = .ok (.aload_n 0, 1) := by decide +kernel
theorem d_La_exponentIn_2 : decode c_La_exponentIn 2 = .ok (.getfield 36, 3) := by decide +kernel
theorem d_La_exponentIn_5 : decode c_La_exponentIn 5 = .ok (.lushr, 1) := by decide +kernel
theorem d_La_exponentIn_6 : decode c_La_exponentIn 6 = .ok (.aload_n 0, 1) := by decide +kernel
theorem d_La_exponentIn_7 : decode c_La_exponentIn 7 = .ok (.invokevirtual 39, 3) := by decide +kernel
theorem d_La_exponentIn_10 : decode c_La_exponentIn 10 = .ok (.i2l, 1) := by decide +kernel
theorem d_La_exponentIn_11 : decode c_La_exponentIn 11 = .ok (.land, 1) := by decide +kernel
theorem d_La_exponentIn_12 : decode c_La_exponentIn 12 = .ok (.lreturn, 1) := by decide +kernel
theorem d_La_fractionIn_0 : decode c_La_fractionIn 0 = .ok (.lload_n 1, 1) := by decide +kernel
theorem d_La_fractionIn_1 : decode c_La_fractionIn 1 = .ok (.aload_n 0, 1) := by decide +kernel
theorem d_La_fractionIn_2 : decode c_La_fractionIn 2 = .ok (.invokevirtual 43, 3) := by decide +kernel
theorem d_La_fractionIn_5 : decode c_La_fractionIn 5 = .ok (.lconst 1, 1) := by decide +kernel
theorem d_La_fractionIn_6 : decode c_La_fractionIn 6 = .ok (.lsub, 1) := by decide +kernel
theorem d_La_fractionIn_7 : decode c_La_fractionIn 7 = .ok (.land, 1) := by decide +kernel
theorem d_La_fractionIn_8 : decode c_La_fractionIn 8 = .ok (.lreturn, 1) := by decide +kernel
theorem d_La_isNoNumber_0 : decode c_La_isNoNumber 0 = .ok (.aload_n 0, 1) := by decide +kernel
theorem d_La_isNoNumber_1 : decode c_La_isNoNumber 1 = .ok (.lload_n 1, 1) := by decide +kernel
theorem d_La_isNoNumber_2 : decode c_La_isNoNumber 2 = .ok (.invokevirtual 47, 3) := by decide +kernel
theorem d_La_isNoNumber_5 : decode c_La_isNoNumber 5 = .ok (.aload_n 0, 1) := by decide +kernel
theorem d_La_isNoNumber_6 : decode c_La_isNoNumber 6 = .ok (.invokevirtual 39, 3) := by decide +kernel
theorem d_La_isNoNumber_9 : decode c_La_isNoNumber 9 = .ok (.i2l, 1) := by decide +kernel
theorem d_La_isNoNumber_10 : decode c_La_isNoNumber 10 = .ok (.lcmp, 1) := by decide +kernel
theorem d_La_isNoNumber_11 : decode c_La_isNoNumber 11 = .ok (.ifCond .ne 17, 3) := by decide +kernel
theorem d_La_isNoNumber_14 : decode c_La_isNoNumber 14 = .ok (.aload_n 0, 1) := by decide +kernel
theorem d_La_isNoNumber_15 : decode c_La_isNoNumber 15 = .ok (.lload_n 1, 1) := by decide +kernel
theorem d_La_isNoNumber_16 : decode c_La_isNoNumber 16 = .ok (.invokevirtual 51, 3) := by decide +kernel
theorem d_La_isNoNumber_19 : decode c_La_isNoNumber 19 = .ok (.lconst 0, 1) := by decide +kernel
theorem d_La_isNoNumber_20 : decode c_La_isNoNumber 20 = .ok (.lcmp, 1) := by decide +kernel
theorem d_La_isNoNumber_21 : decode c_La_isNoNumber 21 = .ok (.ifCond .eq 7, 3) := by decide +kernel
theorem d_La_isNoNumber_24 : decode c_La_isNoNumber 24 = .ok (.iconst 1, 1) := by decide +kernel
theorem d_La_isNoNumber_25 : decode c_La_isNoNumber 25 = .ok (.goto 4, 3) := by decide +kernel
theorem d_La_isNoNumber_28 : decode c_La_isNoNumber 28 = .ok (.iconst 0, 1) := by decide +kernel
theorem d_La_isNoNumber_29 : decode c_La_isNoNumber 29 = .ok (.ireturn, 1) := by decide +kernel
theorem d_La_noNumber_0 : decode c_La_noNumber 0 = .ok (.aload_n 0, 1) := by decide +kernel
theorem d_La_noNumber_1 : decode c_La_noNumber 1 = .ok (.invokevirtual 39, 3) := by decide +kernel
theorem d_La_noNumber_4 : decode c_La_noNumber 4 = .ok (.i2l, 1) := by decide +kernel
theorem d_La_noNumber_5 : decode c_La_noNumber 5 = .ok (.aload_n 0, 1) := by decide +kernel
theorem d_La_noNumber_6 : decode c_La_noNumber 6 = .ok (.invokevirtual 43, 3) := by decide +kernel
theorem d_La_noNumber_9 : decode c_La_noNumber 9 = .ok (.lmul, 1) := by decide +kernel
theorem d_La_noNumber_10 : decode c_La_noNumber 10 = .ok (.aload_n 0, 1) := by decide +kernel
theorem d_La_noNumber_11 : decode c_La_noNumber 11 = .ok (.invokevirtual 43, 3) := by decide +kernel
theorem d_La_noNumber_14 : decode c_La_noNumber 14 = .ok (.ldc2_w 54, 3) := by decide +kernel
theorem d_La_noNumber_17 : decode c_La_noNumber 17 = .ok (.ldiv, 1) := by decide +kernel
theorem d_La_noNumber_18 : decode c_La_noNumber 18 = .ok (.ladd, 1) := by decide +kernel
theorem d_La_noNumber_19 : decode c_La_noNumber 19 = .ok (.lreturn, 1) := by decide +kernel
theorem d_La_bitsOf_0 : decode c_La_bitsOf 0 = .ok (.dload_n 1, 1) := by decide +kernel
theorem d_La_bitsOf_1 : decode c_La_bitsOf 1 = .ok (.dconst 0, 1) := by decide +kernel
theorem d_La_bitsOf_2 : decode c_La_bitsOf 2 = .ok (.dcmp .l, 1) := by decide +kernel
theorem d_La_bitsOf_3 : decode c_La_bitsOf 3 = .ok (.ifCond .ne 5, 3) := by decide +kernel
theorem d_La_bitsOf_6 : decode c_La_bitsOf 6 = .ok (.lconst 0, 1) := by decide +kernel
theorem d_La_bitsOf_7 : decode c_La_bitsOf 7 = .ok (.lreturn, 1) := by decide +kernel
theorem d_La_bitsOf_8 : decode c_La_bitsOf 8 = .ok (.dload_n 1, 1) := by decide +kernel
theorem d_La_bitsOf_9 : decode c_La_bitsOf 9 = .ok (.dconst 0, 1) := by decide +kernel
theorem d_La_bitsOf_10 : decode c_La_bitsOf 10 = .ok (.dcmp .g, 1) := by decide +kernel
theorem d_La_bitsOf_11 : decode c_La_bitsOf 11 = .ok (.ifCond .ge 22, 3) := by decide +kernel
theorem d_La_bitsOf_14 : decode c_La_bitsOf 14 = .ok (.lconst 1, 1) := by decide +kernel
theorem d_La_bitsOf_15 : decode c_La_bitsOf 15 = .ok (.bipush 8, 2) := by decide +kernel
theorem d_La_bitsOf_17 : decode c_La_bitsOf 17 = .ok (.aload_n 0, 1) := by decide +kernel
theorem d_La_bitsOf_18 : decode c_La_bitsOf 18 = .ok (.getfield 29, 3) := by decide +kernel
theorem d_La_bitsOf_21 : decode c_La_bitsOf 21 = .ok (.imul, 1) := by decide +kernel
theorem d_La_bitsOf_22 : decode c_La_bitsOf 22 = .ok (.iconst 1, 1) := by decide +kernel
theorem d_La_bitsOf_23 : decode c_La_bitsOf 23 = .ok (.isub, 1) := by decide +kernel
theorem d_La_bitsOf_24 : decode c_La_bitsOf 24 = .ok (.lshl, 1) := by decide +kernel
theorem d_La_bitsOf_25 : decode c_La_bitsOf 25 = .ok (.aload_n 0, 1) := by decide +kernel
theorem d_La_bitsOf_26 : decode c_La_bitsOf 26 = .ok (.dload_n 1, 1) := by decide +kernel
theorem d_La_bitsOf_27 : decode c_La_bitsOf 27 = .ok (.dneg, 1) := by decide +kernel
theorem d_La_bitsOf_28 : decode c_La_bitsOf 28 = .ok (.invokevirtual 56, 3) := by decide +kernel
theorem d_La_bitsOf_31 : decode c_La_bitsOf 31 = .ok (.lor, 1) := by decide +kernel
theorem d_La_bitsOf_32 : decode c_La_bitsOf 32 = .ok (.lreturn, 1) := by decide +kernel
theorem d_La_bitsOf_33 : decode c_La_bitsOf 33 = .ok (.aload_n 0, 1) := by decide +kernel
theorem d_La_bitsOf_34 : decode c_La_bitsOf 34 = .ok (.dload_n 1, 1) := by decide +kernel
theorem d_La_bitsOf_35 : decode c_La_bitsOf 35 = .ok (.invokevirtual 56, 3) := by decide +kernel
theorem d_La_bitsOf_38 : decode c_La_bitsOf 38 = .ok (.lreturn, 1) := by decide +kernel
theorem d_La_magnitudeBits_0 : decode c_La_magnitudeBits 0 = .ok (.dload_n 1, 1) := by decide +kernel
theorem d_La_magnitudeBits_1 : decode c_La_magnitudeBits 1 = .ok (.ldc2_w 60, 3) := by decide +kernel
theorem d_La_magnitudeBits_4 : decode c_La_magnitudeBits 4 = .ok (.dcmp .l, 1) := by decide +kernel
theorem d_La_magnitudeBits_5 : decode c_La_magnitudeBits 5 = .ok (.ifCond .le 14, 3) := by decide +kernel
theorem d_La_magnitudeBits_8 : decode c_La_magnitudeBits 8 = .ok (.aload_n 0, 1) := by decide +kernel
theorem d_La_magnitudeBits_9 : decode c_La_magnitudeBits 9 = .ok (.invokevirtual 39, 3) := by decide +kernel
theorem d_La_magnitudeBits_12 : decode c_La_magnitudeBits 12 = .ok (.i2l, 1) := by decide +kernel
theorem d_La_magnitudeBits_13 : decode c_La_magnitudeBits 13 = .ok (.aload_n 0, 1) := by decide +kernel
theorem d_La_magnitudeBits_14 : decode c_La_magnitudeBits 14 = .ok (.invokevirtual 43, 3) := by decide +kernel
theorem d_La_magnitudeBits_17 : decode c_La_magnitudeBits 17 = .ok (.lmul, 1) := by decide +kernel
theorem d_La_magnitudeBits_18 : decode c_La_magnitudeBits 18 = .ok (.lreturn, 1) := by decide +kernel
theorem d_La_magnitudeBits_19 : decode c_La_magnitudeBits 19 = .ok (.dload_n 1, 1) := by decide +kernel
theorem d_La_magnitudeBits_20 : decode c_La_magnitudeBits 20 = .ok (.dstore_n 3, 1) := by decide +kernel
theorem d_La_magnitudeBits_21 : decode c_La_magnitudeBits 21 = .ok (.aload_n 0, 1) := by decide +kernel
theorem d_La_magnitudeBits_22 : decode c_La_magnitudeBits 22 = .ok (.getfield 33, 3) := by decide +kernel
theorem d_La_magnitudeBits_25 : decode c_La_magnitudeBits 25 = .ok (.istore 5, 2) := by decide +kernel
theorem d_La_magnitudeBits_27 : decode c_La_magnitudeBits 27 = .ok (.dload_n 3, 1) := by decide +kernel
theorem d_La_magnitudeBits_28 : decode c_La_magnitudeBits 28 = .ok (.ldc2_w 62, 3) := by decide +kernel
theorem d_La_magnitudeBits_31 : decode c_La_magnitudeBits 31 = .ok (.dcmp .l, 1) := by decide +kernel
theorem d_La_magnitudeBits_32 : decode c_La_magnitudeBits 32 = .ok (.ifCond .lt 26, 3) := by decide +kernel
theorem d_La_magnitudeBits_35 : decode c_La_magnitudeBits 35 = .ok (.iload 5, 2) := by decide +kernel
theorem d_La_magnitudeBits_37 : decode c_La_magnitudeBits 37 = .ok (.aload_n 0, 1) := by decide +kernel
theorem d_La_magnitudeBits_38 : decode c_La_magnitudeBits 38 = .ok (.invokevirtual 39, 3) := by decide +kernel
theorem d_La_magnitudeBits_41 : decode c_La_magnitudeBits 41 = .ok (.iconst 1, 1) := by decide +kernel
theorem d_La_magnitudeBits_42 : decode c_La_magnitudeBits 42 = .ok (.isub, 1) := by decide +kernel
theorem d_La_magnitudeBits_43 : decode c_La_magnitudeBits 43 = .ok (.if_icmp .ge 15, 3) := by decide +kernel
theorem d_La_magnitudeBits_46 : decode c_La_magnitudeBits 46 = .ok (.dload_n 3, 1) := by decide +kernel
theorem d_La_magnitudeBits_47 : decode c_La_magnitudeBits 47 = .ok (.ldc2_w 64, 3) := by decide +kernel
theorem d_La_magnitudeBits_50 : decode c_La_magnitudeBits 50 = .ok (.dmul, 1) := by decide +kernel
theorem d_La_magnitudeBits_51 : decode c_La_magnitudeBits 51 = .ok (.dstore_n 3, 1) := by decide +kernel
theorem d_La_magnitudeBits_52 : decode c_La_magnitudeBits 52 = .ok (.iinc 5 1, 3) := by decide +kernel
theorem d_La_magnitudeBits_55 : decode c_La_magnitudeBits 55 = .ok (.goto (-28), 3) := by decide +kernel
theorem d_La_magnitudeBits_58 : decode c_La_magnitudeBits 58 = .ok (.dload_n 3, 1) := by decide +kernel
theorem d_La_magnitudeBits_59 : decode c_La_magnitudeBits 59 = .ok (.dconst 1, 1) := by decide +kernel
theorem d_La_magnitudeBits_60 : decode c_La_magnitudeBits 60 = .ok (.dcmp .g, 1) := by decide +kernel
theorem d_La_magnitudeBits_61 : decode c_La_magnitudeBits 61 = .ok (.ifCond .ge 21, 3) := by decide +kernel
theorem d_La_magnitudeBits_64 : decode c_La_magnitudeBits 64 = .ok (.iload 5, 2) := by decide +kernel
theorem d_La_magnitudeBits_66 : decode c_La_magnitudeBits 66 = .ok (.iconst 1, 1) := by decide +kernel
theorem d_La_magnitudeBits_67 : decode c_La_magnitudeBits 67 = .ok (.if_icmp .le 15, 3) := by decide +kernel
theorem d_La_magnitudeBits_70 : decode c_La_magnitudeBits 70 = .ok (.dload_n 3, 1) := by decide +kernel
theorem d_La_magnitudeBits_71 : decode c_La_magnitudeBits 71 = .ok (.ldc2_w 62, 3) := by decide +kernel
theorem d_La_magnitudeBits_74 : decode c_La_magnitudeBits 74 = .ok (.dmul, 1) := by decide +kernel
theorem d_La_magnitudeBits_75 : decode c_La_magnitudeBits 75 = .ok (.dstore_n 3, 1) := by decide +kernel
theorem d_La_magnitudeBits_76 : decode c_La_magnitudeBits 76 = .ok (.iinc 5 (-1), 3) := by decide +kernel
theorem d_La_magnitudeBits_79 : decode c_La_magnitudeBits 79 = .ok (.goto (-21), 3) := by decide +kernel
theorem d_La_magnitudeBits_82 : decode c_La_magnitudeBits 82 = .ok (.dload_n 3, 1) := by decide +kernel
theorem d_La_magnitudeBits_83 : decode c_La_magnitudeBits 83 = .ok (.dconst 1, 1) := by decide +kernel
theorem d_La_magnitudeBits_84 : decode c_La_magnitudeBits 84 = .ok (.dcmp .g, 1) := by decide +kernel
theorem d_La_magnitudeBits_85 : decode c_La_magnitudeBits 85 = .ok (.ifCond .ge 12, 3) := by decide +kernel
theorem d_La_magnitudeBits_88 : decode c_La_magnitudeBits 88 = .ok (.dload_n 3, 1) := by decide +kernel
theorem d_La_magnitudeBits_89 : decode c_La_magnitudeBits 89 = .ok (.aload_n 0, 1) := by decide +kernel
theorem d_La_magnitudeBits_90 : decode c_La_magnitudeBits 90 = .ok (.invokevirtual 43, 3) := by decide +kernel
theorem d_La_magnitudeBits_93 : decode c_La_magnitudeBits 93 = .ok (.l2d, 1) := by decide +kernel
theorem d_La_magnitudeBits_94 : decode c_La_magnitudeBits 94 = .ok (.dmul, 1) := by decide +kernel
theorem d_La_magnitudeBits_95 : decode c_La_magnitudeBits 95 = .ok (.d2l, 1) := by decide +kernel
theorem d_La_magnitudeBits_96 : decode c_La_magnitudeBits 96 = .ok (.lreturn, 1) := by decide +kernel
theorem d_La_magnitudeBits_97 : decode c_La_magnitudeBits 97 = .ok (.iload 5, 2) := by decide +kernel
theorem d_La_magnitudeBits_99 : decode c_La_magnitudeBits 99 = .ok (.i2l, 1) := by decide +kernel
theorem d_La_magnitudeBits_100 : decode c_La_magnitudeBits 100 = .ok (.aload_n 0, 1) := by decide +kernel
theorem d_La_magnitudeBits_101 : decode c_La_magnitudeBits 101 = .ok (.invokevirtual 43, 3) := by decide +kernel
theorem d_La_magnitudeBits_104 : decode c_La_magnitudeBits 104 = .ok (.lmul, 1) := by decide +kernel
theorem d_La_magnitudeBits_105 : decode c_La_magnitudeBits 105 = .ok (.dload_n 3, 1) := by decide +kernel
theorem d_La_magnitudeBits_106 : decode c_La_magnitudeBits 106 = .ok (.dconst 1, 1) := by decide +kernel
theorem d_La_magnitudeBits_107 : decode c_La_magnitudeBits 107 = .ok (.dsub, 1) := by decide +kernel
theorem d_La_magnitudeBits_108 : decode c_La_magnitudeBits 108 = .ok (.aload_n 0, 1) := by decide +kernel
theorem d_La_magnitudeBits_109 : decode c_La_magnitudeBits 109 = .ok (.invokevirtual 43, 3) := by decide +kernel
theorem d_La_magnitudeBits_112 : decode c_La_magnitudeBits 112 = .ok (.l2d, 1) := by decide +kernel
theorem d_La_magnitudeBits_113 : decode c_La_magnitudeBits 113 = .ok (.dmul, 1) := by decide +kernel
theorem d_La_magnitudeBits_114 : decode c_La_magnitudeBits 114 = .ok (.d2l, 1) := by decide +kernel
theorem d_La_magnitudeBits_115 : decode c_La_magnitudeBits 115 = .ok (.ladd, 1) := by decide +kernel
theorem d_La_magnitudeBits_116 : decode c_La_magnitudeBits 116 = .ok (.lreturn, 1) := by decide +kernel
theorem d_La_valueIn_0 : decode c_La_valueIn 0 = .ok (.aload_n 0, 1) := by decide +kernel
theorem d_La_valueIn_1 : decode c_La_valueIn 1 = .ok (.aload_n 0, 1) := by decide +kernel
theorem d_La_valueIn_2 : decode c_La_valueIn 2 = .ok (.lload_n 1, 1) := by decide +kernel
theorem d_La_valueIn_3 : decode c_La_valueIn 3 = .ok (.invokevirtual 47, 3) := by decide +kernel
theorem d_La_valueIn_6 : decode c_La_valueIn 6 = .ok (.aload_n 0, 1) := by decide +kernel
theorem d_La_valueIn_7 : decode c_La_valueIn 7 = .ok (.lload_n 1, 1) := by decide +kernel
theorem d_La_valueIn_8 : decode c_La_valueIn 8 = .ok (.invokevirtual 51, 3) := by decide +kernel
