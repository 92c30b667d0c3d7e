theorem d_La_valueIn_11 : decode c_La_valueIn 11 = .ok (.invokevirtual 66, 3) := by decide +kernel
theorem d_La_valueIn_14 : decode c_La_valueIn 14 = .ok (.dstore_n 3, 1) := by decide +kernel
theorem d_La_valueIn_15 : decode c_La_valueIn 15 = .ok (.lload_n 1, 1) := by decide +kernel
theorem d_La_valueIn_16 : decode c_La_valueIn 16 = .ok (.bipush 8, 2) := by decide +kernel
theorem d_La_valueIn_18 : decode c_La_valueIn 18 = .ok (.aload_n 0, 1) := by decide +kernel
theorem d_La_valueIn_19 : decode c_La_valueIn 19 = .ok (.getfield 29, 3) := by decide +kernel
theorem d_La_valueIn_22 : decode c_La_valueIn 22 = .ok (.imul, 1) := by decide +kernel
theorem d_La_valueIn_23 : decode c_La_valueIn 23 = .ok (.iconst 1, 1) := by decide +kernel
theorem d_La_valueIn_24 : decode c_La_valueIn 24 = .ok (.isub, 1) := by decide +kernel
theorem d_La_valueIn_25 : decode c_La_valueIn 25 = .ok (.lushr, 1) := by decide +kernel
theorem d_La_valueIn_26 : decode c_La_valueIn 26 = .ok (.lconst 1, 1) := by decide +kernel
theorem d_La_valueIn_27 : decode c_La_valueIn 27 = .ok (.land, 1) := by decide +kernel
theorem d_La_valueIn_28 : decode c_La_valueIn 28 = .ok (.lconst 0, 1) := by decide +kernel
theorem d_La_valueIn_29 : decode c_La_valueIn 29 = .ok (.lcmp, 1) := by decide +kernel
theorem d_La_valueIn_30 : decode c_La_valueIn 30 = .ok (.ifCond .eq 7, 3) := by decide +kernel
theorem d_La_valueIn_33 : decode c_La_valueIn 33 = .ok (.iconst 1, 1) := by decide +kernel
theorem d_La_valueIn_34 : decode c_La_valueIn 34 = .ok (.goto 4, 3) := by decide +kernel
theorem d_La_valueIn_37 : decode c_La_valueIn 37 = .ok (.iconst 0, 1) := by decide +kernel
theorem d_La_valueIn_38 : decode c_La_valueIn 38 = .ok (.istore 5, 2) := by decide +kernel
theorem d_La_valueIn_40 : decode c_La_valueIn 40 = .ok (.iload 5, 2) := by decide +kernel
theorem d_La_valueIn_42 : decode c_La_valueIn 42 = .ok (.ifCond .eq 8, 3) := by decide +kernel
theorem d_La_valueIn_45 : decode c_La_valueIn 45 = .ok (.dload_n 3, 1) := by decide +kernel
theorem d_La_valueIn_46 : decode c_La_valueIn 46 = .ok (.dneg, 1) := by decide +kernel
theorem d_La_valueIn_47 : decode c_La_valueIn 47 = .ok (.goto 4, 3) := by decide +kernel
theorem d_La_valueIn_50 : decode c_La_valueIn 50 = .ok (.dload_n 3, 1) := by decide +kernel
theorem d_La_valueIn_51 : decode c_La_valueIn 51 = .ok (.dreturn, 1) := by decide +kernel
theorem d_La_magnitudeOf_0 : decode c_La_magnitudeOf 0 = .ok (.lload_n 1, 1) := by decide +kernel
theorem d_La_magnitudeOf_1 : decode c_La_magnitudeOf 1 = .ok (.aload_n 0, 1) := by decide +kernel
theorem d_La_magnitudeOf_2 : decode c_La_magnitudeOf 2 = .ok (.invokevirtual 39, 3) := by decide +kernel
theorem d_La_magnitudeOf_5 : decode c_La_magnitudeOf 5 = .ok (.i2l, 1) := by decide +kernel
theorem d_La_magnitudeOf_6 : decode c_La_magnitudeOf 6 = .ok (.lcmp, 1) := by decide +kernel
theorem d_La_magnitudeOf_7 : decode c_La_magnitudeOf 7 = .ok (.ifCond .ne 7, 3) := by decide +kernel
theorem d_La_magnitudeOf_10 : decode c_La_magnitudeOf 10 = .ok (.ldc2_w 70, 3) := by decide +kernel
theorem d_La_magnitudeOf_13 : decode c_La_magnitudeOf 13 = .ok (.dreturn, 1) := by decide +kernel
theorem d_La_magnitudeOf_14 : decode c_La_magnitudeOf 14 = .ok (.lload_n 1, 1) := by decide +kernel
theorem d_La_magnitudeOf_15 : decode c_La_magnitudeOf 15 = .ok (.lconst 0, 1) := by decide +kernel
theorem d_La_magnitudeOf_16 : decode c_La_magnitudeOf 16 = .ok (.lcmp, 1) := by decide +kernel
theorem d_La_magnitudeOf_17 : decode c_La_magnitudeOf 17 = .ok (.ifCond .ne 20, 3) := by decide +kernel
theorem d_La_magnitudeOf_20 : decode c_La_magnitudeOf 20 = .ok (.lload_n 3, 1) := by decide +kernel
theorem d_La_magnitudeOf_21 : decode c_La_magnitudeOf 21 = .ok (.l2d, 1) := by decide +kernel
theorem d_La_magnitudeOf_22 : decode c_La_magnitudeOf 22 = .ok (.iconst 1, 1) := by decide +kernel
theorem d_La_magnitudeOf_23 : decode c_La_magnitudeOf 23 = .ok (.aload_n 0, 1) := by decide +kernel
theorem d_La_magnitudeOf_24 : decode c_La_magnitudeOf 24 = .ok (.getfield 33, 3) := by decide +kernel
theorem d_La_magnitudeOf_27 : decode c_La_magnitudeOf 27 = .ok (.isub, 1) := by decide +kernel
theorem d_La_magnitudeOf_28 : decode c_La_magnitudeOf 28 = .ok (.aload_n 0, 1) := by decide +kernel
theorem d_La_magnitudeOf_29 : decode c_La_magnitudeOf 29 = .ok (.getfield 36, 3) := by decide +kernel
theorem d_La_magnitudeOf_32 : decode c_La_magnitudeOf 32 = .ok (.isub, 1) := by decide +kernel
theorem d_La_magnitudeOf_33 : decode c_La_magnitudeOf 33 = .ok (.invokestatic 72, 3) := by decide +kernel
theorem d_La_magnitudeOf_36 : decode c_La_magnitudeOf 36 = .ok (.dreturn, 1) := by decide +kernel
theorem d_La_magnitudeOf_37 : decode c_La_magnitudeOf 37 = .ok (.aload_n 0, 1) := by decide +kernel
theorem d_La_magnitudeOf_38 : decode c_La_magnitudeOf 38 = .ok (.invokevirtual 43, 3) := by decide +kernel
theorem d_La_magnitudeOf_41 : decode c_La_magnitudeOf 41 = .ok (.lload_n 3, 1) := by decide +kernel
theorem d_La_magnitudeOf_42 : decode c_La_magnitudeOf 42 = .ok (.ladd, 1) := by decide +kernel
theorem d_La_magnitudeOf_43 : decode c_La_magnitudeOf 43 = .ok (.l2d, 1) := by decide +kernel
theorem d_La_magnitudeOf_44 : decode c_La_magnitudeOf 44 = .ok (.lload_n 1, 1) := by decide +kernel
theorem d_La_magnitudeOf_45 : decode c_La_magnitudeOf 45 = .ok (.l2i, 1) := by decide +kernel
theorem d_La_magnitudeOf_46 : decode c_La_magnitudeOf 46 = .ok (.aload_n 0, 1) := by decide +kernel
theorem d_La_magnitudeOf_47 : decode c_La_magnitudeOf 47 = .ok (.getfield 33, 3) := by decide +kernel
theorem d_La_magnitudeOf_50 : decode c_La_magnitudeOf 50 = .ok (.isub, 1) := by decide +kernel
theorem d_La_magnitudeOf_51 : decode c_La_magnitudeOf 51 = .ok (.aload_n 0, 1) := by decide +kernel
theorem d_La_magnitudeOf_52 : decode c_La_magnitudeOf 52 = .ok (.getfield 36, 3) := by decide +kernel
theorem d_La_magnitudeOf_55 : decode c_La_magnitudeOf 55 = .ok (.isub, 1) := by decide +kernel
theorem d_La_magnitudeOf_56 : decode c_La_magnitudeOf 56 = .ok (.invokestatic 72, 3) := by decide +kernel
theorem d_La_magnitudeOf_59 : decode c_La_magnitudeOf 59 = .ok (.dreturn, 1) := by decide +kernel
theorem d_Ou_init_0 : decode c_Ou_init 0 = .ok (.aload_n 0, 1) := by decide +kernel
theorem d_Ou_init_1 : decode c_Ou_init 1 = .ok (.invokespecial 3, 3) := by decide +kernel
theorem d_Ou_init_4 : decode c_Ou_init 4 = .ok (.aload_n 0, 1) := by decide +kernel
theorem d_Ou_init_5 : decode c_Ou_init 5 = .ok (.sipush 1507, 3) := by decide +kernel
theorem d_Ou_init_8 : decode c_Ou_init 8 = .ok (.newarray .int, 2) := by decide +kernel
theorem d_Ou_init_10 : decode c_Ou_init 10 = .ok (.putfield 9, 3) := by decide +kernel
theorem d_Ou_init_13 : decode c_Ou_init 13 = .ok (.aload_n 0, 1) := by decide +kernel
theorem d_Ou_init_14 : decode c_Ou_init 14 = .ok (.iconst 0, 1) := by decide +kernel
theorem d_Ou_init_15 : decode c_Ou_init 15 = .ok (.putfield 15, 3) := by decide +kernel
theorem d_Ou_init_18 : decode c_Ou_init 18 = .ok (.aload_n 0, 1) := by decide +kernel
theorem d_Ou_init_19 : decode c_Ou_init 19 = .ok (.sipush 1024, 3) := by decide +kernel
theorem d_Ou_init_22 : decode c_Ou_init 22 = .ok (.newarray .int, 2) := by decide +kernel
theorem d_Ou_init_24 : decode c_Ou_init 24 = .ok (.putfield 19, 3) := by decide +kernel
theorem d_Ou_init_27 : decode c_Ou_init 27 = .ok (.aload_n 0, 1) := by decide +kernel
theorem d_Ou_init_28 : decode c_Ou_init 28 = .ok (.iconst 0, 1) := by decide +kernel
theorem d_Ou_init_29 : decode c_Ou_init 29 = .ok (.putfield 22, 3) := by decide +kernel
theorem d_Ou_init_32 : decode c_Ou_init 32 = .ok (.aload_n 0, 1) := by decide +kernel
theorem d_Ou_init_33 : decode c_Ou_init 33 = .ok (.iconst 0, 1) := by decide +kernel
theorem d_Ou_init_34 : decode c_Ou_init 34 = .ok (.putfield 25, 3) := by decide +kernel
theorem d_Ou_init_37 : decode c_Ou_init 37 = .ok (.return_, 1) := by decide +kernel
theorem d_Ou_hasRoomFor_0 : decode c_Ou_hasRoomFor 0 = .ok (.aload_n 0, 1) := by decide +kernel
theorem d_Ou_hasRoomFor_1 : decode c_Ou_hasRoomFor 1 = .ok (.getfield 15, 3) := by decide +kernel
theorem d_Ou_hasRoomFor_4 : decode c_Ou_hasRoomFor 4 = .ok (.aload_n 0, 1) := by decide +kernel
theorem d_Ou_hasRoomFor_5 : decode c_Ou_hasRoomFor 5 = .ok (.getfield 22, 3) := by decide +kernel
theorem d_Ou_hasRoomFor_8 : decode c_Ou_hasRoomFor 8 = .ok (.iadd, 1) := by decide +kernel
theorem d_Ou_hasRoomFor_9 : decode c_Ou_hasRoomFor 9 = .ok (.iload_n 1, 1) := by decide +kernel
theorem d_Ou_hasRoomFor_10 : decode c_Ou_hasRoomFor 10 = .ok (.iadd, 1) := by decide +kernel
theorem d_Ou_hasRoomFor_11 : decode c_Ou_hasRoomFor 11 = .ok (.sipush 1500, 3) := by decide +kernel
theorem d_Ou_hasRoomFor_14 : decode c_Ou_hasRoomFor 14 = .ok (.if_icmp .gt 7, 3) := by decide +kernel
theorem d_Ou_hasRoomFor_17 : decode c_Ou_hasRoomFor 17 = .ok (.iconst 1, 1) := by decide +kernel
theorem d_Ou_hasRoomFor_18 : decode c_Ou_hasRoomFor 18 = .ok (.goto 4, 3) := by decide +kernel
theorem d_Ou_hasRoomFor_21 : decode c_Ou_hasRoomFor 21 = .ok (.iconst 0, 1) := by decide +kernel
theorem d_Ou_hasRoomFor_22 : decode c_Ou_hasRoomFor 22 = .ok (.ireturn, 1) := by decide +kernel
theorem d_Ou_logged_0 : decode c_Ou_logged 0 = .ok (.iload_n 1, 1) := by decide +kernel
theorem d_Ou_logged_1 : decode c_Ou_logged 1 = .ok (.ifCond .lt 20, 3) := by decide +kernel
theorem d_Ou_logged_4 : decode c_Ou_logged 4 = .ok (.iload_n 1, 1) := by decide +kernel
theorem d_Ou_logged_5 : decode c_Ou_logged 5 = .ok (.aload_n 0, 1) := by decide +kernel
theorem d_Ou_logged_6 : decode c_Ou_logged 6 = .ok (.getfield 15, 3) := by decide +kernel
theorem d_Ou_logged_9 : decode c_Ou_logged 9 = .ok (.if_icmp .ge 12, 3) := by decide +kernel
theorem d_Ou_logged_12 : decode c_Ou_logged 12 = .ok (.aload_n 0, 1) := by decide +kernel
theorem d_Ou_logged_13 : decode c_Ou_logged 13 = .ok (.getfield 9, 3) := by decide +kernel
theorem d_Ou_logged_16 : decode c_Ou_logged 16 = .ok (.iload_n 1, 1) := by decide +kernel
theorem d_Ou_logged_17 : decode c_Ou_logged 17 = .ok (.iaload, 1) := by decide +kernel
theorem d_Ou_logged_18 : decode c_Ou_logged 18 = .ok (.goto 4, 3) := by decide +kernel
theorem d_Ou_logged_21 : decode c_Ou_logged 21 = .ok (.iconst (-1), 1) := by decide +kernel
theorem d_Ou_logged_22 : decode c_Ou_logged 22 = .ok (.ireturn, 1) := by decide +kernel
theorem d_Ou_addNumber_0 : decode c_Ou_addNumber 0 = .ok (.bipush 8, 2) := by decide +kernel
theorem d_Ou_addNumber_2 : decode c_Ou_addNumber 2 = .ok (.iload_n 3, 1) := by decide +kernel
theorem d_Ou_addNumber_3 : decode c_Ou_addNumber 3 = .ok (.iconst 1, 1) := by decide +kernel
theorem d_Ou_addNumber_4 : decode c_Ou_addNumber 4 = .ok (.isub, 1) := by decide +kernel
theorem d_Ou_addNumber_5 : decode c_Ou_addNumber 5 = .ok (.imul, 1) := by decide +kernel
theorem d_Ou_addNumber_6 : decode c_Ou_addNumber 6 = .ok (.istore 4, 2) := by decide +kernel
theorem d_Ou_addNumber_8 : decode c_Ou_addNumber 8 = .ok (.iload 4, 2) := by decide +kernel
theorem d_Ou_addNumber_10 : decode c_Ou_addNumber 10 = .ok (.ifCond .lt 22, 3) := by decide +kernel
theorem d_Ou_addNumber_13 : decode c_Ou_addNumber 13 = .ok (.aload_n 0, 1) := by decide +kernel
theorem d_Ou_addNumber_14 : decode c_Ou_addNumber 14 = .ok (.lload_n 1, 1) := by decide +kernel
theorem d_Ou_addNumber_15 : decode c_Ou_addNumber 15 = .ok (.iload 4, 2) := by decide +kernel
theorem d_Ou_addNumber_17 : decode c_Ou_addNumber 17 = .ok (.lushr, 1) := by decide +kernel
theorem d_Ou_addNumber_18 : decode c_Ou_addNumber 18 = .ok (.l2i, 1) := by decide +kernel
theorem d_Ou_addNumber_19 : decode c_Ou_addNumber 19 = .ok (.sipush 255, 3) := by decide +kernel
theorem d_Ou_addNumber_22 : decode c_Ou_addNumber 22 = .ok (.iand, 1) := by decide +kernel
theorem d_Ou_addNumber_23 : decode c_Ou_addNumber 23 = .ok (.invokevirtual 29, 3) := by decide +kernel
theorem d_Ou_addNumber_26 : decode c_Ou_addNumber 26 = .ok (.iinc 4 (-8), 3) := by decide +kernel
theorem d_Ou_addNumber_29 : decode c_Ou_addNumber 29 = .ok (.goto (-21), 3) := by decide +kernel
theorem d_Ou_addNumber_32 : decode c_Ou_addNumber 32 = .ok (.return_, 1) := by decide +kernel
theorem d_Ou_addByte_0 : decode c_Ou_addByte 0 = .ok (.aload_n 0, 1) := by decide +kernel
theorem d_Ou_addByte_1 : decode c_Ou_addByte 1 = .ok (.getfield 25, 3) := by decide +kernel
theorem d_Ou_addByte_4 : decode c_Ou_addByte 4 = .ok (.ifCond .ne 9, 3) := by decide +kernel
theorem d_Ou_addByte_7 : decode c_Ou_addByte 7 = .ok (.aload_n 0, 1) := by decide +kernel
theorem d_Ou_addByte_8 : decode c_Ou_addByte 8 = .ok (.iload_n 1, 1) := by decide +kernel
theorem d_Ou_addByte_9 : decode c_Ou_addByte 9 = .ok (.invokevirtual 33, 3) := by decide +kernel
theorem d_Ou_addByte_12 : decode c_Ou_addByte 12 = .ok (.return_, 1) := by decide +kernel
theorem d_Ou_addByte_13 : decode c_Ou_addByte 13 = .ok (.aload_n 0, 1) := by decide +kernel
theorem d_Ou_addByte_14 : decode c_Ou_addByte 14 = .ok (.getfield 22, 3) := by decide +kernel
theorem d_Ou_addByte_17 : decode c_Ou_addByte 17 = .ok (.sipush 1024, 3) := by decide +kernel
theorem d_Ou_addByte_20 : decode c_Ou_addByte 20 = .ok (.if_icmp .ge 23, 3) := by decide +kernel
theorem d_Ou_addByte_23 : decode c_Ou_addByte 23 = .ok (.aload_n 0, 1) := by decide +kernel
theorem d_Ou_addByte_24 : decode c_Ou_addByte 24 = .ok (.getfield 19, 3) := by decide +kernel
theorem d_Ou_addByte_27 : decode c_Ou_addByte 27 = .ok (.aload_n 0, 1) := by decide +kernel
theorem d_Ou_addByte_28 : decode c_Ou_addByte 28 = .ok (.getfield 22, 3) := by decide +kernel
theorem d_Ou_addByte_31 : decode c_Ou_addByte 31 = .ok (.iload_n 1, 1) := by decide +kernel
theorem d_Ou_addByte_32 : decode c_Ou_addByte 32 = .ok (.iastore, 1) := by decide +kernel
theorem d_Ou_addByte_33 : decode c_Ou_addByte 33 = .ok (.aload_n 0, 1) := by decide +kernel
theorem d_Ou_addByte_34 : decode c_Ou_addByte 34 = .ok (.dup, 1) := by decide +kernel
theorem d_Ou_addByte_35 : decode c_Ou_addByte 35 = .ok (.getfield 22, 3) := by decide +kernel
theorem d_Ou_addByte_38 : decode c_Ou_addByte 38 = .ok (.iconst 1, 1) := by decide +kernel
theorem d_Ou_addByte_39 : decode c_Ou_addByte 39 = .ok (.iadd, 1) := by decide +kernel
theorem d_Ou_addByte_40 : decode c_Ou_addByte 40 = .ok (.putfield 22, 3) := by decide +kernel
theorem d_Ou_addByte_43 : decode c_Ou_addByte 43 = .ok (.aload_n 0, 1) := by decide +kernel
theorem d_Ou_addByte_44 : decode c_Ou_addByte 44 = .ok (.getfield 22, 3) := by decide +kernel
theorem d_Ou_addByte_47 : decode c_Ou_addByte 47 = .ok (.sipush 1024, 3) := by decide +kernel
theorem d_Ou_addByte_50 : decode c_Ou_addByte 50 = .ok (.if_icmp .lt 7, 3) := by decide +kernel
theorem d_Ou_addByte_53 : decode c_Ou_addByte 53 = .ok (.aload_n 0, 1) := by decide +kernel
theorem d_Ou_addByte_54 : decode c_Ou_addByte 54 = .ok (.invokevirtual 36, 3) := by decide +kernel
theorem d_Ou_addByte_57 : decode c_Ou_addByte 57 = .ok (.return_, 1) := by decide +kernel
theorem d_Ou_makeBlock_0 : decode c_Ou_makeBlock 0 = .ok (.aload_n 0, 1) := by decide +kernel
theorem d_Ou_makeBlock_1 : decode c_Ou_makeBlock 1 = .ok (.getfield 22, 3) := by decide +kernel
theorem d_Ou_makeBlock_4 : decode c_Ou_makeBlock 4 = .ok (.ifCond .ne 4, 3) := by decide +kernel
theorem d_Ou_makeBlock_7 : decode c_Ou_makeBlock 7 = .ok (.return_, 1) := by decide +kernel
theorem d_Ou_makeBlock_8 : decode c_Ou_makeBlock 8 = .ok (.aload_n 0, 1) := by decide +kernel
theorem d_Ou_makeBlock_9 : decode c_Ou_makeBlock 9 = .ok (.aload_n 0, 1) := by decide +kernel
theorem d_Ou_makeBlock_10 : decode c_Ou_makeBlock 10 = .ok (.getfield 22, 3) := by decide +kernel
theorem d_Ou_makeBlock_13 : decode c_Ou_makeBlock 13 = .ok (.invokevirtual 39, 3) := by decide +kernel
theorem d_Ou_makeBlock_16 : decode c_Ou_makeBlock 16 = .ok (.iconst 0, 1) := by decide +kernel
theorem d_Ou_makeBlock_17 : decode c_Ou_makeBlock 17 = .ok (.istore_n 1, 1) := by decide +kernel
theorem d_Ou_makeBlock_18 : decode c_Ou_makeBlock 18 = .ok (.iload_n 1, 1) := by decide +kernel
theorem d_Ou_makeBlock_19 : decode c_Ou_makeBlock 19 = .ok (.aload_n 0, 1) := by decide +kernel
theorem d_Ou_makeBlock_20 : decode c_Ou_makeBlock 20 = .ok (.getfield 22, 3) := by decide +kernel
theorem d_Ou_makeBlock_23 : decode c_Ou_makeBlock 23 = .ok (.if_icmp .ge 19, 3) := by decide +kernel
theorem d_Ou_makeBlock_26 : decode c_Ou_makeBlock 26 = .ok (.aload_n 0, 1) := by decide +kernel
theorem d_Ou_makeBlock_27 : decode c_Ou_makeBlock 27 = .ok (.aload_n 0, 1) := by decide +kernel
theorem d_Ou_makeBlock_28 : decode c_Ou_makeBlock 28 = .ok (.getfield 19, 3) := by decide +kernel
theorem d_Ou_makeBlock_31 : decode c_Ou_makeBlock 31 = .ok (.iload_n 1, 1) := by decide +kernel
theorem d_Ou_makeBlock_32 : decode c_Ou_makeBlock 32 = .ok (.iaload, 1) := by decide +kernel
theorem d_Ou_makeBlock_33 : decode c_Ou_makeBlock 33 = .ok (.invokevirtual 33, 3) := by decide +kernel
theorem d_Ou_makeBlock_36 : decode c_Ou_makeBlock 36 = .ok (.iinc 1 1, 3) := by decide +kernel
theorem d_Ou_makeBlock_39 : decode c_Ou_makeBlock 39 = .ok (.goto (-21), 3) := by decide +kernel
theorem d_Ou_makeBlock_42 : decode c_Ou_makeBlock 42 = .ok (.aload_n 0, 1) := by decide +kernel
theorem d_Ou_makeBlock_43 : decode c_Ou_makeBlock 43 = .ok (.iconst 0, 1) := by decide +kernel
theorem d_Ou_makeBlock_44 : decode c_Ou_makeBlock 44 = .ok (.putfield 22, 3) := by decide +kernel
theorem d_Ou_makeBlock_47 : decode c_Ou_makeBlock 47 = .ok (.return_, 1) := by decide +kernel
theorem d_Ou_addHeader_0 : decode c_Ou_addHeader 0 = .ok (.iload_n 1, 1) := by decide +kernel
theorem d_Ou_addHeader_1 : decode c_Ou_addHeader 1 = .ok (.sipush 255, 3) := by decide +kernel
theorem d_Ou_addHeader_4 : decode c_Ou_addHeader 4 = .ok (.if_icmp .gt 15, 3) := by decide +kernel
theorem d_Ou_addHeader_7 : decode c_Ou_addHeader 7 = .ok (.aload_n 0, 1) := by decide +kernel
theorem d_Ou_addHeader_8 : decode c_Ou_addHeader 8 = .ok (.bipush 119, 2) := by decide +kernel
theorem d_Ou_addHeader_10 : decode c_Ou_addHeader 10 = .ok (.invokevirtual 33, 3) := by decide +kernel
theorem d_Ou_addHeader_13 : decode c_Ou_addHeader 13 = .ok (.aload_n 0, 1) := by decide +kernel
theorem d_Ou_addHeader_14 : decode c_Ou_addHeader 14 = .ok (.iload_n 1, 1) := by decide +kernel
theorem d_Ou_addHeader_15 : decode c_Ou_addHeader 15 = .ok (.invokevirtual 33, 3) := by decide +kernel
theorem d_Ou_addHeader_18 : decode c_Ou_addHeader 18 = .ok (.return_, 1) := by decide +kernel
theorem d_Ou_addHeader_19 : decode c_Ou_addHeader 19 = .ok (.aload_n 0, 1) := by decide +kernel
theorem d_Ou_addHeader_20 : decode c_Ou_addHeader 20 = .ok (.bipush 122, 2) := by decide +kernel
theorem d_Ou_addHeader_22 : decode c_Ou_addHeader 22 = .ok (.invokevirtual 33, 3) := by decide +kernel
theorem d_Ou_addHeader_25 : decode c_Ou_addHeader 25 = .ok (.bipush 24, 2) := by decide +kernel
theorem d_Ou_addHeader_27 : decode c_Ou_addHeader 27 = .ok (.istore_n 2, 1) := by decide +kernel
theorem d_Ou_addHeader_28 : decode c_Ou_addHeader 28 = .ok (.iload_n 2, 1) := by decide +kernel
theorem d_Ou_addHeader_29 : decode c_Ou_addHeader 29 = .ok (.ifCond .lt 20, 3) := by decide +kernel
theorem d_Ou_addHeader_32 : decode c_Ou_addHeader 32 = .ok (.aload_n 0, 1) := by decide +kernel
theorem d_Ou_addHeader_33 : decode c_Ou_addHeader 33 = .ok (.iload_n 1, 1) := by decide +kernel
theorem d_Ou_addHeader_34 : decode c_Ou_addHeader 34 = .ok (.iload_n 2, 1) := by decide +kernel
theorem d_Ou_addHeader_35 : decode c_Ou_addHeader 35 = .ok (.iushr, 1) := by decide +kernel
theorem d_Ou_addHeader_36 : decode c_Ou_addHeader 36 = .ok (.sipush 255, 3) := by decide +kernel
theorem d_Ou_addHeader_39 : decode c_Ou_addHeader 39 = .ok (.iand, 1) := by decide +kernel
theorem d_Ou_addHeader_40 : decode c_Ou_addHeader 40 = .ok (.invokevirtual 33, 3) := by decide +kernel
theorem d_Ou_addHeader_43 : decode c_Ou_addHeader 43 = .ok (.iinc 2 (-8), 3) := by decide +kernel
theorem d_Ou_addHeader_46 : decode c_Ou_addHeader 46 = .ok (.goto (-18), 3) := by decide +kernel
theorem d_Ou_addHeader_49 : decode c_Ou_addHeader 49 = .ok (.return_, 1) := by decide +kernel
theorem d_Ou_addToLog_0 : decode c_Ou_addToLog 0 = .ok (.aload_n 0, 1) := by decide +kernel
theorem d_Ou_addToLog_1 : decode c_Ou_addToLog 1 = .ok (.getfield 15, 3) := by decide +kernel
theorem d_Ou_addToLog_4 : decode c_Ou_addToLog 4 = .ok (.sipush 1507, 3) := by decide +kernel
theorem d_Ou_addToLog_7 : decode c_Ou_addToLog 7 = .ok (.if_icmp .ge 23, 3) := by decide +kernel
theorem d_Ou_addToLog_10 : decode c_Ou_addToLog 10 = .ok (.aload_n 0, 1) := by decide +kernel
theorem d_Ou_addToLog_11 : decode c_Ou_addToLog 11 = .ok (.getfield 9, 3) := by decide +kernel
theorem d_Ou_addToLog_14 : decode c_Ou_addToLog 14 = .ok (.aload_n 0, 1) := by decide +kernel
theorem d_Ou_addToLog_15 : decode c_Ou_addToLog 15 = .ok (.getfield 15, 3) := by decide +kernel
theorem d_Ou_addToLog_18 : decode c_Ou_addToLog 18 = .ok (.iload_n 1, 1) := by decide +kernel
theorem d_Ou_addToLog_19 : decode c_Ou_addToLog 19 = .ok (.iastore, 1) := by decide +kernel
theorem d_Ou_addToLog_20 : decode c_Ou_addToLog 20 = .ok (.aload_n 0, 1) := by decide +kernel
theorem d_Ou_addToLog_21 : decode c_Ou_addToLog 21 = .ok (.dup, 1) := by decide +kernel
theorem d_Ou_addToLog_22 : decode c_Ou_addToLog 22 = .ok (.getfield 15, 3) := by decide +kernel
theorem d_Ou_addToLog_25 : decode c_Ou_addToLog 25 = .ok (.iconst 1, 1) := by decide +kernel
theorem d_Ou_addToLog_26 : decode c_Ou_addToLog 26 = .ok (.iadd, 1) := by decide +kernel
theorem d_Ou_addToLog_27 : decode c_Ou_addToLog 27 = .ok (.putfield 15, 3) := by decide +kernel
theorem d_Ou_addToLog_30 : decode c_Ou_addToLog 30 = .ok (.return_, 1) := by decide +kernel
theorem d_Te_init_0 : decode c_Te_init 0 = .ok (.aload_n 0, 1) := by decide +kernel
theorem d_Te_init_1 : decode c_Te_init 1 = .ok (.invokespecial 3, 3) := by decide +kernel
theorem d_Te_init_4 : decode c_Te_init 4 = .ok (.aload_n 0, 1) := by decide +kernel
theorem d_Te_init_5 : decode c_Te_init 5 = .ok (.bipush 40, 2) := by decide +kernel
theorem d_Te_init_7 : decode c_Te_init 7 = .ok (.newarray .int, 2) := by decide +kernel
theorem d_Te_init_9 : decode c_Te_init 9 = .ok (.putfield 9, 3) := by decide +kernel
theorem d_Te_init_12 : decode c_Te_init 12 = .ok (.aload_n 0, 1) := by decide +kernel
theorem d_Te_init_13 : decode c_Te_init 13 = .ok (.bipush 120, 2) := by decide +kernel
theorem d_Te_init_15 : decode c_Te_init 15 = .ok (.newarray .int, 2) := by decide +kernel
theorem d_Te_init_17 : decode c_Te_init 17 = .ok (.putfield 15, 3) := by decide +kernel
theorem d_Te_init_20 : decode c_Te_init 20 = .ok (.aload_n 0, 1) := by decide +kernel
theorem d_Te_init_21 : decode c_Te_init 21 = .ok (.bipush 40, 2) := by decide +kernel
theorem d_Te_init_23 : decode c_Te_init 23 = .ok (.newarray .int, 2) := by decide +kernel
theorem d_Te_init_25 : decode c_Te_init 25 = .ok (.putfield 18, 3) := by decide +kernel
theorem d_Te_init_28 : decode c_Te_init 28 = .ok (.return_, 1) := by decide +kernel
theorem d_Te_sizeOf_0 : decode c_Te_sizeOf 0 = .ok (.iconst 0, 1) := by decide +kernel
theorem d_Te_sizeOf_1 : decode c_Te_sizeOf 1 = .ok (.istore_n 2, 1) := by decide +kernel
theorem d_Te_sizeOf_2 : decode c_Te_sizeOf 2 = .ok (.iconst 0, 1) := by decide +kernel
theorem d_Te_sizeOf_3 : decode c_Te_sizeOf 3 = .ok (.istore_n 3, 1) := by decide +kernel
theorem d_Te_sizeOf_4 : decode c_Te_sizeOf 4 = .ok (.iload_n 3, 1) := by decide +kernel
theorem d_Te_sizeOf_5 : decode c_Te_sizeOf 5 = .ok (.iload_n 1, 1) := by decide +kernel
theorem d_Te_sizeOf_6 : decode c_Te_sizeOf 6 = .ok (.if_icmp .ge 21, 3) := by decide +kernel
theorem d_Te_sizeOf_9 : decode c_Te_sizeOf 9 = .ok (.iload_n 2, 1) := by decide +kernel
theorem d_Te_sizeOf_10 : decode c_Te_sizeOf 10 = .ok (.aload_n 0, 1) := by decide +kernel
theorem d_Te_sizeOf_11 : decode c_Te_sizeOf 11 = .ok (.getfield 9, 3) := by decide +kernel
theorem d_Te_sizeOf_14 : decode c_Te_sizeOf 14 = .ok (.iload_n 3, 1) := by decide +kernel
theorem d_Te_sizeOf_15 : decode c_Te_sizeOf 15 = .ok (.iaload, 1) := by decide +kernel
theorem d_Te_sizeOf_16 : decode c_Te_sizeOf 16 = .ok (.invokestatic 21, 3) := by decide +kernel
theorem d_Te_sizeOf_19 : decode c_Te_sizeOf 19 = .ok (.iadd, 1) := by decide +kernel
theorem d_Te_sizeOf_20 : decode c_Te_sizeOf 20 = .ok (.istore_n 2, 1) := by decide +kernel
theorem d_Te_sizeOf_21 : decode c_Te_sizeOf 21 = .ok (.iinc 3 1, 3) := by decide +kernel
theorem d_Te_sizeOf_24 : decode c_Te_sizeOf 24 = .ok (.goto (-20), 3) := by decide +kernel
theorem d_Te_sizeOf_27 : decode c_Te_sizeOf 27 = .ok (.iload_n 2, 1) := by decide +kernel
theorem d_Te_sizeOf_28 : decode c_Te_sizeOf 28 = .ok (.ireturn, 1) := by decide +kernel
theorem d_Te_sizeOfCode_0 : decode c_Te_sizeOfCode 0 = .ok (.iload_n 0, 1) := by decide +kernel
theorem d_Te_sizeOfCode_1 : decode c_Te_sizeOfCode 1 = .ok (.iconst 1, 1) := by decide +kernel
theorem d_Te_sizeOfCode_2 : decode c_Te_sizeOfCode 2 = .ok (.if_icmp .lt 11, 3) := by decide +kernel
theorem d_Te_sizeOfCode_5 : decode c_Te_sizeOfCode 5 = .ok (.iload_n 0, 1) := by decide +kernel
theorem d_Te_sizeOfCode_6 : decode c_Te_sizeOfCode 6 = .ok (.bipush 127, 2) := by decide +kernel
theorem d_Te_sizeOfCode_8 : decode c_Te_sizeOfCode 8 = .ok (.if_icmp .gt 5, 3) := by decide +kernel
theorem d_Te_sizeOfCode_11 : decode c_Te_sizeOfCode 11 = .ok (.iconst 1, 1) := by decide +kernel
theorem d_Te_sizeOfCode_12 : decode c_Te_sizeOfCode 12 = .ok (.ireturn, 1) := by decide +kernel
theorem d_Te_sizeOfCode_13 : decode c_Te_sizeOfCode 13 = .ok (.iload_n 0, 1) := by decide +kernel
theorem d_Te_sizeOfCode_14 : decode c_Te_sizeOfCode 14 = .ok (.sipush 2047, 3) := by decide +kernel
theorem d_Te_sizeOfCode_17 : decode c_Te_sizeOfCode 17 = .ok (.if_icmp .gt 7, 3) := by decide +kernel
theorem d_Te_sizeOfCode_20 : decode c_Te_sizeOfCode 20 = .ok (.iconst 2, 1) := by decide +kernel
theorem d_Te_sizeOfCode_21 : decode c_Te_sizeOfCode 21 = .ok (.goto 4, 3) := by decide +kernel
theorem d_Te_sizeOfCode_24 : decode c_Te_sizeOfCode 24 = .ok (.iconst 3, 1) := by decide +kernel
theorem d_Te_sizeOfCode_25 : decode c_Te_sizeOfCode 25 = .ok (.ireturn, 1) := by decide +kernel
theorem d_Te_encode_0 : decode c_Te_encode 0 = .ok (.iconst 0, 1) := by decide +kernel
theorem d_Te_encode_1 : decode c_Te_encode 1 = .ok (.istore_n 3, 1) := by decide +kernel
theorem d_Te_encode_2 : decode c_Te_encode 2 = .ok (.iload_n 3, 1) := by decide +kernel
theorem d_Te_encode_3 : decode c_Te_encode 3 = .ok (.iload_n 1, 1) := by decide +kernel
theorem d_Te_encode_4 : decode c_Te_encode 4 = .ok (.if_icmp .ge 19, 3) := by decide +kernel
theorem d_Te_encode_7 : decode c_Te_encode 7 = .ok (.aload_n 0, 1) := by decide +kernel
theorem d_Te_encode_8 : decode c_Te_encode 8 = .ok (.getfield 9, 3) := by decide +kernel
theorem d_Te_encode_11 : decode c_Te_encode 11 = .ok (.iload_n 3, 1) := by decide +kernel
theorem d_Te_encode_12 : decode c_Te_encode 12 = .ok (.iaload, 1) := by decide +kernel
theorem d_Te_encode_13 : decode c_Te_encode 13 = .ok (.aload_n 2, 1) := by decide +kernel
theorem d_Te_encode_14 : decode c_Te_encode 14 = .ok (.invokestatic 25, 3) := by decide +kernel
theorem d_Te_encode_17 : decode c_Te_encode 17 = .ok (.iinc 3 1, 3) := by decide +kernel
theorem d_Te_encode_20 : decode c_Te_encode 20 = .ok (.goto (-18), 3) := by decide +kernel
theorem d_Te_encode_23 : decode c_Te_encode 23 = .ok (.return_, 1) := by decide +kernel
theorem d_Te_encodeCode_0 : decode c_Te_encodeCode 0 = .ok (.iload_n 0, 1) := by decide +kernel
theorem d_Te_encodeCode_1 : decode c_Te_encodeCode 1 = .ok (.invokestatic 21, 3) := by decide +kernel
theorem d_Te_encodeCode_4 : decode c_Te_encodeCode 4 = .ok (.istore_n 2, 1) := by decide +kernel
theorem d_Te_encodeCode_5 : decode c_Te_encodeCode 5 = .ok (.iload_n 2, 1) := by decide +kernel
theorem d_Te_encodeCode_6 : decode c_Te_encodeCode 6 = .ok (.iconst 1, 1) := by decide +kernel
theorem d_Te_encodeCode_7 : decode c_Te_encodeCode 7 = .ok (.if_icmp .ne 9, 3) := by decide +kernel
theorem d_Te_encodeCode_10 : decode c_Te_encodeCode 10 = .ok (.aload_n 1, 1) := by decide +kernel
theorem d_Te_encodeCode_11 : decode c_Te_encodeCode 11 = .ok (.iload_n 0, 1) := by decide +kernel
theorem d_Te_encodeCode_12 : decode c_Te_encodeCode 12 = .ok (.invokevirtual 29, 3) := by decide +kernel
theorem d_Te_encodeCode_15 : decode c_Te_encodeCode 15 = .ok (.return_, 1) := by decide +kernel
theorem d_Te_encodeCode_16 : decode c_Te_encodeCode 16 = .ok (.iload_n 2, 1) := by decide +kernel
theorem d_Te_encodeCode_17 : decode c_Te_encodeCode 17 = .ok (.iconst 2, 1) := by decide +kernel
theorem d_Te_encodeCode_18 : decode c_Te_encodeCode 18 = .ok (.if_icmp .ne 18, 3) := by decide +kernel
theorem d_Te_encodeCode_21 : decode c_Te_encodeCode 21 = .ok (.aload_n 1, 1) := by decide +kernel
theorem d_Te_encodeCode_22 : decode c_Te_encodeCode 22 = .ok (.sipush 192, 3) := by decide +kernel
theorem d_Te_encodeCode_25 : decode c_Te_encodeCode 25 = .ok (.iload_n 0, 1) := by decide +kernel
theorem d_Te_encodeCode_26 : decode c_Te_encodeCode 26 = .ok (.bipush 64, 2) := by decide +kernel
theorem d_Te_encodeCode_28 : decode c_Te_encodeCode 28 = .ok (.idiv, 1) := by decide +kernel
theorem d_Te_encodeCode_29 : decode c_Te_encodeCode 29 = .ok (.iadd, 1) := by decide +kernel
theorem d_Te_encodeCode_30 : decode c_Te_encodeCode 30 = .ok (.invokevirtual 29, 3) := by decide +kernel
theorem d_Te_encodeCode_33 : decode c_Te_encodeCode 33 = .ok (.goto 31, 3) := by decide +kernel
theorem d_Te_encodeCode_36 : decode c_Te_encodeCode 36 = .ok (.aload_n 1, 1) := by decide +kernel
theorem d_Te_encodeCode_37 : decode c_Te_encodeCode 37 = .ok (.sipush 224, 3) := by decide +kernel
theorem d_Te_encodeCode_40 : decode c_Te_encodeCode 40 = .ok (.iload_n 0, 1) := by decide +kernel
theorem d_Te_encodeCode_41 : decode c_Te_encodeCode 41 = .ok (.sipush 4096, 3) := by decide +kernel
theorem d_Te_encodeCode_44 : decode c_Te_encodeCode 44 = .ok (.idiv, 1) := by decide +kernel
theorem d_Te_encodeCode_45 : decode c_Te_encodeCode 45 = .ok (.iadd, 1) := by decide +kernel
theorem d_Te_encodeCode_46 : decode c_Te_encodeCode 46 = .ok (.invokevirtual 29, 3) := by decide +kernel
theorem d_Te_encodeCode_49 : decode c_Te_encodeCode 49 = .ok (.aload_n 1, 1) := by decide +kernel
theorem d_Te_encodeCode_50 : decode c_Te_encodeCode 50 = .ok (.sipush 128, 3) := by decide +kernel
theorem d_Te_encodeCode_53 : decode c_Te_encodeCode 53 = .ok (.iload_n 0, 1) := by decide +kernel
theorem d_Te_encodeCode_54 : decode c_Te_encodeCode 54 = .ok (.bipush 64, 2) := by decide +kernel
theorem d_Te_encodeCode_56 : decode c_Te_encodeCode 56 = .ok (.idiv, 1) := by decide +kernel
theorem d_Te_encodeCode_57 : decode c_Te_encodeCode 57 = .ok (.bipush 64, 2) := by decide +kernel
theorem d_Te_encodeCode_59 : decode c_Te_encodeCode 59 = .ok (.irem, 1) := by decide +kernel
theorem d_Te_encodeCode_60 : decode c_Te_encodeCode 60 = .ok (.iadd, 1) := by decide +kernel
theorem d_Te_encodeCode_61 : decode c_Te_encodeCode 61 = .ok (.invokevirtual 29, 3) := by decide +kernel
theorem d_Te_encodeCode_64 : decode c_Te_encodeCode 64 = .ok (.aload_n 1, 1) := by decide +kernel
theorem d_Te_encodeCode_65 : decode c_Te_encodeCode 65 = .ok (.sipush 128, 3) := by decide +kernel
theorem d_Te_encodeCode_68 : decode c_Te_encodeCode 68 = .ok (.iload_n 0, 1) := by decide +kernel
theorem d_Te_encodeCode_69 : decode c_Te_encodeCode 69 = .ok (.bipush 64, 2) := by decide +kernel
theorem d_Te_encodeCode_71 : decode c_Te_encodeCode 71 = .ok (.irem, 1) := by decide +kernel
theorem d_Te_encodeCode_72 : decode c_Te_encodeCode 72 = .ok (.iadd, 1) := by decide +kernel
theorem d_Te_encodeCode_73 : decode c_Te_encodeCode 73 = .ok (.invokevirtual 29, 3) := by decide +kernel
theorem d_Te_encodeCode_76 : decode c_Te_encodeCode 76 = .ok (.return_, 1) := by decide +kernel
theorem d_Te_keepByte_0 : decode c_Te_keepByte 0 = .ok (.iload_n 1, 1) := by decide +kernel
theorem d_Te_keepByte_1 : decode c_Te_keepByte 1 = .ok (.ifCond .lt 16, 3) := by decide +kernel
theorem d_Te_keepByte_4 : decode c_Te_keepByte 4 = .ok (.iload_n 1, 1) := by decide +kernel
theorem d_Te_keepByte_5 : decode c_Te_keepByte 5 = .ok (.bipush 120, 2) := by decide +kernel
theorem d_Te_keepByte_7 : decode c_Te_keepByte 7 = .ok (.if_icmp .ge 10, 3) := by decide +kernel
theorem d_Te_keepByte_10 : decode c_Te_keepByte 10 = .ok (.aload_n 0, 1) := by decide +kernel
theorem d_Te_keepByte_11 : decode c_Te_keepByte 11 = .ok (.getfield 15, 3) := by decide +kernel
theorem d_Te_keepByte_14 : decode c_Te_keepByte 14 = .ok (.iload_n 1, 1) := by decide +kernel
theorem d_Te_keepByte_15 : decode c_Te_keepByte 15 = .ok (.iload_n 2, 1) := by decide +kernel
theorem d_Te_keepByte_16 : decode c_Te_keepByte 16 = .ok (.iastore, 1) := by decide +kernel
theorem d_Te_keepByte_17 : decode c_Te_keepByte 17 = .ok (.return_, 1) := by decide +kernel
theorem d_Te_decode_0 : decode c_Te_decode 0 = .ok (.iload_n 1, 1) := by decide +kernel
theorem d_Te_decode_1 : decode c_Te_decode 1 = .ok (.bipush 120, 2) := by decide +kernel
theorem d_Te_decode_3 : decode c_Te_decode 3 = .ok (.if_icmp .le 5, 3) := by decide +kernel
theorem d_Te_decode_6 : decode c_Te_decode 6 = .ok (.iconst (-1), 1) := by decide +kernel
theorem d_Te_decode_7 : decode c_Te_decode 7 = .ok (.ireturn, 1) := by decide +kernel
theorem d_Te_decode_8 : decode c_Te_decode 8 = .ok (.iconst 0, 1) := by decide +kernel
theorem d_Te_decode_9 : decode c_Te_decode 9 = .ok (.istore_n 2, 1) := by decide +kernel
theorem d_Te_decode_10 : decode c_Te_decode 10 = .ok (.iconst 0, 1) := by decide +kernel
theorem d_Te_decode_11 : decode c_Te_decode 11 = .ok (.istore_n 3, 1) := by decide +kernel
theorem d_Te_decode_12 : decode c_Te_decode 12 = .ok (.iload_n 3, 1) := by decide +kernel
theorem d_Te_decode_13 : decode c_Te_decode 13 = .ok (.iload_n 1, 1) := by decide +kernel
theorem d_Te_decode_14 : decode c_Te_decode 14 = .ok (.if_icmp .ge 71, 3) := by decide +kernel
theorem d_Te_decode_17 : decode c_Te_decode 17 = .ok (.aload_n 0, 1) := by decide +kernel
theorem d_Te_decode_18 : decode c_Te_decode 18 = .ok (.getfield 15, 3) := by decide +kernel
theorem d_Te_decode_21 : decode c_Te_decode 21 = .ok (.iload_n 3, 1) := by decide +kernel
theorem d_Te_decode_22 : decode c_Te_decode 22 = .ok (.iaload, 1) := by decide +kernel
theorem d_Te_decode_23 : decode c_Te_decode 23 = .ok (.invokestatic 35, 3) := by decide +kernel
theorem d_Te_decode_26 : decode c_Te_decode 26 = .ok (.istore 4, 2) := by decide +kernel
theorem d_Te_decode_28 : decode c_Te_decode 28 = .ok (.iload 4, 2) := by decide +kernel
theorem d_Te_decode_30 : decode c_Te_decode 30 = .ok (.ifCond .eq 17, 3) := by decide +kernel
theorem d_Te_decode_33 : decode c_Te_decode 33 = .ok (.iload 4, 2) := by decide +kernel
theorem d_Te_decode_35 : decode c_Te_decode 35 = .ok (.iload_n 1, 1) := by decide +kernel
theorem d_Te_decode_36 : decode c_Te_decode 36 = .ok (.iload_n 3, 1) := by decide +kernel
theorem d_Te_decode_37 : decode c_Te_decode 37 = .ok (.isub, 1) := by decide +kernel
theorem d_Te_decode_38 : decode c_Te_decode 38 = .ok (.if_icmp .gt 9, 3) := by decide +kernel
theorem d_Te_decode_41 : decode c_Te_decode 41 = .ok (.iload_n 2, 1) := by decide +kernel
theorem d_Te_decode_42 : decode c_Te_decode 42 = .ok (.bipush 40, 2) := by decide +kernel
theorem d_Te_decode_44 : decode c_Te_decode 44 = .ok (.if_icmp .lt 5, 3) := by decide +kernel
theorem d_Te_decode_47 : decode c_Te_decode 47 = .ok (.iconst (-1), 1) := by decide +kernel
theorem d_Te_decode_48 : decode c_Te_decode 48 = .ok (.ireturn, 1) := by decide +kernel
theorem d_Te_decode_49 : decode c_Te_decode 49 = .ok (.aload_n 0, 1) := by decide +kernel
theorem d_Te_decode_50 : decode c_Te_decode 50 = .ok (.iload_n 3, 1) := by decide +kernel
theorem d_Te_decode_51 : decode c_Te_decode 51 = .ok (.iload 4, 2) := by decide +kernel
theorem d_Te_decode_53 : decode c_Te_decode 53 = .ok (.invokevirtual 38, 3) := by decide +kernel
theorem d_Te_decode_56 : decode c_Te_decode 56 = .ok (.istore 5, 2) := by decide +kernel
theorem d_Te_decode_58 : decode c_Te_decode 58 = .ok (.iload 5, 2) := by decide +kernel
theorem d_Te_decode_60 : decode c_Te_decode 60 = .ok (.iconst (-1), 1) := by decide +kernel
theorem d_Te_decode_61 : decode c_Te_decode 61 = .ok (.if_icmp .ne 5, 3) := by decide +kernel
theorem d_Te_decode_64 : decode c_Te_decode 64 = .ok (.iconst (-1), 1) := by decide +kernel
theorem d_Te_decode_65 : decode c_Te_decode 65 = .ok (.ireturn, 1) := by decide +kernel
theorem d_Te_decode_66 : decode c_Te_decode 66 = .ok (.aload_n 0, 1) := by decide +kernel
theorem d_Te_decode_67 : decode c_Te_decode 67 = .ok (.getfield 18, 3) := by decide +kernel
theorem d_Te_decode_70 : decode c_Te_decode 70 = .ok (.iload_n 2, 1) := by decide +kernel
theorem d_Te_decode_71 : decode c_Te_decode 71 = .ok (.iload 5, 2) := by decide +kernel
theorem d_Te_decode_73 : decode c_Te_decode 73 = .ok (.iastore, 1) := by decide +kernel
theorem d_Te_decode_74 : decode c_Te_decode 74 = .ok (.iinc 2 1, 3) := by decide +kernel
theorem d_Te_decode_77 : decode c_Te_decode 77 = .ok (.iload_n 3, 1) := by decide +kernel
theorem d_Te_decode_78 : decode c_Te_decode 78 = .ok (.iload 4, 2) := by decide +kernel
theorem d_Te_decode_80 : decode c_Te_decode 80 = .ok (.iadd, 1) := by decide +kernel
theorem d_Te_decode_81 : decode c_Te_decode 81 = .ok (.istore_n 3, 1) := by decide +kernel
theorem d_Te_decode_82 : decode c_Te_decode 82 = .ok (.goto (-70), 3) := by decide +kernel
theorem d_Te_decode_85 : decode c_Te_decode 85 = .ok (.iload_n 2, 1) := by decide +kernel
theorem d_Te_decode_86 : decode c_Te_decode 86 = .ok (.ireturn, 1) := by decide +kernel
theorem d_Te_sizeBehind_0 : decode c_Te_sizeBehind 0 = .ok (.iload_n 0, 1) := by decide +kernel
theorem d_Te_sizeBehind_1 : decode c_Te_sizeBehind 1 = .ok (.sipush 128, 3) := by decide +kernel
theorem d_Te_sizeBehind_4 : decode c_Te_sizeBehind 4 = .ok (.if_icmp .ge 5, 3) := by decide +kernel
theorem d_Te_sizeBehind_7 : decode c_Te_sizeBehind 7 = .ok (.iconst 1, 1) := by decide +kernel
theorem d_Te_sizeBehind_8 : decode c_Te_sizeBehind 8 = .ok (.ireturn, 1) := by decide +kernel
theorem d_Te_sizeBehind_9 : decode c_Te_sizeBehind 9 = .ok (.iload_n 0, 1) := by decide +kernel
theorem d_Te_sizeBehind_10 : decode c_Te_sizeBehind 10 = .ok (.sipush 192, 3) := by decide +kernel
theorem d_Te_sizeBehind_13 : decode c_Te_sizeBehind 13 = .ok (.if_icmp .lt 10, 3) := by decide +kernel
theorem d_Te_sizeBehind_16 : decode c_Te_sizeBehind 16 = .ok (.iload_n 0, 1) := by decide +kernel
theorem d_Te_sizeBehind_17 : decode c_Te_sizeBehind 17 = .ok (.sipush 239, 3) := by decide +kernel
theorem d_Te_sizeBehind_20 : decode c_Te_sizeBehind 20 = .ok (.if_icmp .le 5, 3) := by decide +kernel
theorem d_Te_sizeBehind_23 : decode c_Te_sizeBehind 23 = .ok (.iconst 0, 1) := by decide +kernel
theorem d_Te_sizeBehind_24 : decode c_Te_sizeBehind 24 = .ok (.ireturn, 1) := by decide +kernel
theorem d_Te_sizeBehind_25 : decode c_Te_sizeBehind 25 = .ok (.iload_n 0, 1) := by decide +kernel
theorem d_Te_sizeBehind_26 : decode c_Te_sizeBehind 26 = .ok (.sipush 224, 3) := by decide +kernel
theorem d_Te_sizeBehind_29 : decode c_Te_sizeBehind 29 = .ok (.if_icmp .ge 7, 3) := by decide +kernel
theorem d_Te_sizeBehind_32 : decode c_Te_sizeBehind 32 = .ok (.iconst 2, 1) := by decide +kernel
theorem d_Te_sizeBehind_33 : decode c_Te_sizeBehind 33 = .ok (.goto 4, 3) := by decide +kernel
theorem d_Te_sizeBehind_36 : decode c_Te_sizeBehind 36 = .ok (.iconst 3, 1) := by decide +kernel
theorem d_Te_sizeBehind_37 : decode c_Te_sizeBehind 37 = .ok (.ireturn, 1) := by decide +kernel
theorem d_Te_decodeCode_0 : decode c_Te_decodeCode 0 = .ok (.aload_n 0, 1) := by decide +kernel
theorem d_Te_decodeCode_1 : decode c_Te_decodeCode 1 = .ok (.getfield 15, 3) := by decide +kernel
theorem d_Te_decodeCode_4 : decode c_Te_decodeCode 4 = .ok (.iload_n 1, 1) := by decide +kernel
theorem d_Te_decodeCode_5 : decode c_Te_decodeCode 5 = .ok (.iaload, 1) := by decide +kernel
theorem d_Te_decodeCode_6 : decode c_Te_decodeCode 6 = .ok (.istore_n 3, 1) := by decide +kernel
theorem d_Te_decodeCode_7 : decode c_Te_decodeCode 7 = .ok (.iload_n 2, 1) := by decide +kernel
theorem d_Te_decodeCode_8 : decode c_Te_decodeCode 8 = .ok (.iconst 1, 1) := by decide +kernel
theorem d_Te_decodeCode_9 : decode c_Te_decodeCode 9 = .ok (.if_icmp .le 18, 3) := by decide +kernel
theorem d_Te_decodeCode_12 : decode c_Te_decodeCode 12 = .ok (.iload_n 3, 1) := by decide +kernel
theorem d_Te_decodeCode_13 : decode c_Te_decodeCode 13 = .ok (.iload_n 2, 1) := by decide +kernel
theorem d_Te_decodeCode_14 : decode c_Te_decodeCode 14 = .ok (.iconst 2, 1) := by decide +kernel
theorem d_Te_decodeCode_15 : decode c_Te_decodeCode 15 = .ok (.if_icmp .ne 8, 3) := by decide +kernel
theorem d_Te_decodeCode_18 : decode c_Te_decodeCode 18 = .ok (.bipush 31, 2) := by decide +kernel
theorem d_Te_decodeCode_20 : decode c_Te_decodeCode 20 = .ok (.goto 5, 3) := by decide +kernel
theorem d_Te_decodeCode_23 : decode c_Te_decodeCode 23 = .ok (.bipush 15, 2) := by decide +kernel
theorem d_Te_decodeCode_25 : decode c_Te_decodeCode 25 = .ok (.iand, 1) := by decide +kernel
theorem d_Te_decodeCode_26 : decode c_Te_decodeCode 26 = .ok (.istore_n 3, 1) := by decide +kernel
theorem d_Te_decodeCode_27 : decode c_Te_decodeCode 27 = .ok (.iconst 1, 1) := by decide +kernel
theorem d_Te_decodeCode_28 : decode c_Te_decodeCode 28 = .ok (.istore 4, 2) := by decide +kernel
theorem d_Te_decodeCode_30 : decode c_Te_decodeCode 30 = .ok (.iload 4, 2) := by decide +kernel
theorem d_Te_decodeCode_32 : decode c_Te_decodeCode 32 = .ok (.iload_n 2, 1) := by decide +kernel
theorem d_Te_decodeCode_33 : decode c_Te_decodeCode 33 = .ok (.if_icmp .ge 49, 3) := by decide +kernel
theorem d_Te_decodeCode_36 : decode c_Te_decodeCode 36 = .ok (.aload_n 0, 1) := by decide +kernel
theorem d_Te_decodeCode_37 : decode c_Te_decodeCode 37 = .ok (.getfield 15, 3) := by decide +kernel
theorem d_Te_decodeCode_40 : decode c_Te_decodeCode 40 = .ok (.iload_n 1, 1) := by decide +kernel
theorem d_Te_decodeCode_41 : decode c_Te_decodeCode 41 = .ok (.iload 4, 2) := by decide +kernel
theorem d_Te_decodeCode_43 : decode c_Te_decodeCode 43 = .ok (.iadd, 1) := by decide +kernel
theorem d_Te_decodeCode_44 : decode c_Te_decodeCode 44 = .ok (.iaload, 1) := by decide +kernel
theorem d_Te_decodeCode_45 : decode c_Te_decodeCode 45 = .ok (.istore 5, 2) := by decide +kernel
theorem d_Te_decodeCode_47 : decode c_Te_decodeCode 47 = .ok (.iload 5, 2) := by decide +kernel
theorem d_Te_decodeCode_49 : decode c_Te_decodeCode 49 = .ok (.sipush 128, 3) := by decide +kernel
theorem d_Te_decodeCode_52 : decode c_Te_decodeCode 52 = .ok (.if_icmp .lt 11, 3) := by decide +kernel
theorem d_Te_decodeCode_55 : decode c_Te_decodeCode 55 = .ok (.iload 5, 2) := by decide +kernel
theorem d_Te_decodeCode_57 : decode c_Te_decodeCode 57 = .ok (.sipush 191, 3) := by decide +kernel
theorem d_Te_decodeCode_60 : decode c_Te_decodeCode 60 = .ok (.if_icmp .le 5, 3) := by decide +kernel
theorem d_Te_decodeCode_63 : decode c_Te_decodeCode 63 = .ok (.iconst (-1), 1) := by decide +kernel
theorem d_Te_decodeCode_64 : decode c_Te_decodeCode 64 = .ok (.ireturn, 1) := by decide +kernel
theorem d_Te_decodeCode_65 : decode c_Te_decodeCode 65 = .ok (.iload_n 3, 1) := by decide +kernel
theorem d_Te_decodeCode_66 : decode c_Te_decodeCode 66 = .ok (.bipush 64, 2) := by decide +kernel
theorem d_Te_decodeCode_68 : decode c_Te_decodeCode 68 = .ok (.imul, 1) := by decide +kernel
theorem d_Te_decodeCode_69 : decode c_Te_decodeCode 69 = .ok (.iload 5, 2) := by decide +kernel
theorem d_Te_decodeCode_71 : decode c_Te_decodeCode 71 = .ok (.bipush 64, 2) := by decide +kernel
theorem d_Te_decodeCode_73 : decode c_Te_decodeCode 73 = .ok (.irem, 1) := by decide +kernel
theorem d_Te_decodeCode_74 : decode c_Te_decodeCode 74 = .ok (.iadd, 1) := by decide +kernel
theorem d_Te_decodeCode_75 : decode c_Te_decodeCode 75 = .ok (.istore_n 3, 1) := by decide +kernel
theorem d_Te_decodeCode_76 : decode c_Te_decodeCode 76 = .ok (.iinc 4 1, 3) := by decide +kernel
theorem d_Te_decodeCode_79 : decode c_Te_decodeCode 79 = .ok (.goto (-49), 3) := by decide +kernel
theorem d_Te_decodeCode_82 : decode c_Te_decodeCode 82 = .ok (.iload_n 3, 1) := by decide +kernel
theorem d_Te_decodeCode_83 : decode c_Te_decodeCode 83 = .ok (.ireturn, 1) := by decide +kernel
theorem d_Te_keepDecoded_0 : decode c_Te_keepDecoded 0 = .ok (.aload_n 0, 1) := by decide +kernel
theorem d_Te_keepDecoded_1 : decode c_Te_keepDecoded 1 = .ok (.getfield 18, 3) := by decide +kernel
theorem d_Te_keepDecoded_4 : decode c_Te_keepDecoded 4 = .ok (.iconst 0, 1) := by decide +kernel
theorem d_Te_keepDecoded_5 : decode c_Te_keepDecoded 5 = .ok (.aload_n 0, 1) := by decide +kernel
theorem d_Te_keepDecoded_6 : decode c_Te_keepDecoded 6 = .ok (.getfield 9, 3) := by decide +kernel
theorem d_Te_keepDecoded_9 : decode c_Te_keepDecoded 9 = .ok (.iconst 0, 1) := by decide +kernel
theorem d_Te_keepDecoded_10 : decode c_Te_keepDecoded 10 = .ok (.iload_n 1, 1) := by decide +kernel
theorem d_Te_keepDecoded_11 : decode c_Te_keepDecoded 11 = .ok (.invokestatic 42, 3) := by decide +kernel
theorem d_Te_keepDecoded_14 : decode c_Te_keepDecoded 14 = .ok (.return_, 1) := by decide +kernel
theorem d_L_raw_0 : decode c_L_raw 0 = .ok (.aload 4, 2) := by decide +kernel
theorem d_L_raw_2 : decode c_L_raw 2 = .ok (.iconst 0, 1) := by decide +kernel
theorem d_L_raw_3 : decode c_L_raw 3 = .ok (.aload_n 0, 1) := by decide +kernel
theorem d_L_raw_4 : decode c_L_raw 4 = .ok (.lload_n 1, 1) := by decide +kernel
theorem d_L_raw_5 : decode c_L_raw 5 = .ok (.iload_n 3, 1) := by decide +kernel
theorem d_L_raw_6 : decode c_L_raw 6 = .ok (.invokevirtual 7, 3) := by decide +kernel
theorem d_L_raw_9 : decode c_L_raw 9 = .ok (.i2l, 1) := by decide +kernel
theorem d_L_raw_10 : decode c_L_raw 10 = .ok (.lastore, 1) := by decide +kernel
theorem d_L_raw_11 : decode c_L_raw 11 = .ok (.goto 11, 3) := by decide +kernel
theorem d_L_raw_14 : decode c_L_raw 14 = .ok (.astore 5, 2) := by decide +kernel
theorem d_L_raw_16 : decode c_L_raw 16 = .ok (.iconst 1, 1) := by decide +kernel
theorem d_L_raw_17 : decode c_L_raw 17 = .ok (.ireturn, 1) := by decide +kernel
theorem d_L_raw_18 : decode c_L_raw 18 = .ok (.astore 5, 2) := by decide +kernel
theorem d_L_raw_20 : decode c_L_raw 20 = .ok (.iconst 2, 1) := by decide +kernel
theorem d_L_raw_21 : decode c_L_raw 21 = .ok (.ireturn, 1) := by decide +kernel
theorem d_L_raw_22 : decode c_L_raw 22 = .ok (.iconst 0, 1) := by decide +kernel
theorem d_L_raw_23 : decode c_L_raw 23 = .ok (.ireturn, 1) := by decide +kernel
theorem d_L_write_0 : decode c_L_write 0 = .ok (.aload 4, 2) := by decide +kernel
theorem d_L_write_2 : decode c_L_write 2 = .ok (.iconst 0, 1) := by decide +kernel
theorem d_L_write_3 : decode c_L_write 3 = .ok (.aload_n 0, 1) := by decide +kernel
theorem d_L_write_4 : decode c_L_write 4 = .ok (.iload_n 1, 1) := by decide +kernel
theorem d_L_write_5 : decode c_L_write 5 = .ok (.lload_n 2, 1) := by decide +kernel
theorem d_L_write_6 : decode c_L_write 6 = .ok (.invokevirtual 17, 3) := by decide +kernel
theorem d_L_write_9 : decode c_L_write 9 = .ok (.i2l, 1) := by decide +kernel
theorem d_L_write_10 : decode c_L_write 10 = .ok (.lastore, 1) := by decide +kernel
theorem d_L_write_11 : decode c_L_write 11 = .ok (.goto 7, 3) := by decide +kernel
theorem d_L_write_14 : decode c_L_write 14 = .ok (.astore 5, 2) := by decide +kernel
theorem d_L_write_16 : decode c_L_write 16 = .ok (.iconst 1, 1) := by decide +kernel
theorem d_L_write_17 : decode c_L_write 17 = .ok (.ireturn, 1) := by decide +kernel
theorem d_L_write_18 : decode c_L_write 18 = .ok (.iconst 0, 1) := by decide +kernel
theorem d_L_write_19 : decode c_L_write 19 = .ok (.ireturn, 1) := by decide +kernel
theorem d_L_writeFloat_0 : decode c_L_writeFloat 0 = .ok (.aload_n 3, 1) := by decide +kernel
theorem d_L_writeFloat_1 : decode c_L_writeFloat 1 = .ok (.iconst 0, 1) := by decide +kernel
theorem d_L_writeFloat_2 : decode c_L_writeFloat 2 = .ok (.aload_n 0, 1) := by decide +kernel
theorem d_L_writeFloat_3 : decode c_L_writeFloat 3 = .ok (.fload_n 1, 1) := by decide +kernel
theorem d_L_writeFloat_4 : decode c_L_writeFloat 4 = .ok (.iload_n 2, 1) := by decide +kernel
theorem d_L_writeFloat_5 : decode c_L_writeFloat 5 = .ok (.invokevirtual 21, 3) := by decide +kernel
theorem d_L_writeFloat_8 : decode c_L_writeFloat 8 = .ok (.i2l, 1) := by decide +kernel
theorem d_L_writeFloat_9 : decode c_L_writeFloat 9 = .ok (.lastore, 1) := by decide +kernel
theorem d_L_writeFloat_10 : decode c_L_writeFloat 10 = .ok (.goto 7, 3) := by decide +kernel
theorem d_L_writeFloat_13 : decode c_L_writeFloat 13 = .ok (.astore 4, 2) := by decide +kernel
theorem d_L_writeFloat_15 : decode c_L_writeFloat 15 = .ok (.iconst 1, 1) := by decide +kernel
theorem d_L_writeFloat_16 : decode c_L_writeFloat 16 = .ok (.ireturn, 1) := by decide +kernel
theorem d_L_writeFloat_17 : decode c_L_writeFloat 17 = .ok (.iconst 0, 1) := by decide +kernel
theorem d_L_writeFloat_18 : decode c_L_writeFloat 18 = .ok (.ireturn, 1) := by decide +kernel
theorem d_L_writeDouble_0 : decode c_L_writeDouble 0 = .ok (.aload 4, 2) := by decide +kernel
theorem d_L_writeDouble_2 : decode c_L_writeDouble 2 = .ok (.iconst 0, 1) := by decide +kernel
theorem d_L_writeDouble_3 : decode c_L_writeDouble 3 = .ok (.aload_n 0, 1) := by decide +kernel
theorem d_L_writeDouble_4 : decode c_L_writeDouble 4 = .ok (.dload_n 1, 1) := by decide +kernel
theorem d_L_writeDouble_5 : decode c_L_writeDouble 5 = .ok (.iload_n 3, 1) := by decide +kernel
theorem d_L_writeDouble_6 : decode c_L_writeDouble 6 = .ok (.invokevirtual 25, 3) := by decide +kernel
theorem d_L_writeDouble_9 : decode c_L_writeDouble 9 = .ok (.i2l, 1) := by decide +kernel
theorem d_L_writeDouble_10 : decode c_L_writeDouble 10 = .ok (.lastore, 1) := by decide +kernel
theorem d_L_writeDouble_11 : decode c_L_writeDouble 11 = .ok (.goto 7, 3) := by decide +kernel
theorem d_L_writeDouble_14 : decode c_L_writeDouble 14 = .ok (.astore 5, 2) := by decide +kernel
theorem d_L_writeDouble_16 : decode c_L_writeDouble 16 = .ok (.iconst 1, 1) := by decide +kernel
theorem d_L_writeDouble_17 : decode c_L_writeDouble 17 = .ok (.ireturn, 1) := by decide +kernel
theorem d_L_writeDouble_18 : decode c_L_writeDouble 18 = .ok (.iconst 0, 1) := by decide +kernel
theorem d_L_writeDouble_19 : decode c_L_writeDouble 19 = .ok (.ireturn, 1) := by decide +kernel
theorem d_L_put_0 : decode c_L_put 0 = .ok (.aload_n 3, 1) := by decide +kernel
theorem d_L_put_1 : decode c_L_put 1 = .ok (.iconst 0, 1) := by decide +kernel
theorem d_L_put_2 : decode c_L_put 2 = .ok (.aload_n 0, 1) := by decide +kernel
theorem d_L_put_3 : decode c_L_put 3 = .ok (.iload_n 1, 1) := by decide +kernel
theorem d_L_put_4 : decode c_L_put 4 = .ok (.iload_n 2, 1) := by decide +kernel
theorem d_L_put_5 : decode c_L_put 5 = .ok (.invokevirtual 29, 3) := by decide +kernel
theorem d_L_put_8 : decode c_L_put 8 = .ok (.i2l, 1) := by decide +kernel
theorem d_L_put_9 : decode c_L_put 9 = .ok (.lastore, 1) := by decide +kernel
theorem d_L_put_10 : decode c_L_put 10 = .ok (.goto 7, 3) := by decide +kernel
theorem d_L_put_13 : decode c_L_put 13 = .ok (.astore 4, 2) := by decide +kernel
theorem d_L_put_15 : decode c_L_put 15 = .ok (.iconst 1, 1) := by decide +kernel
theorem d_L_put_16 : decode c_L_put 16 = .ok (.ireturn, 1) := by decide +kernel
theorem d_L_put_17 : decode c_L_put 17 = .ok (.iconst 0, 1) := by decide +kernel
theorem d_L_put_18 : decode c_L_put 18 = .ok (.ireturn, 1) := by decide +kernel
theorem d_L_writeText_0 : decode c_L_writeText 0 = .ok (.aload_n 2, 1) := by decide +kernel
theorem d_L_writeText_1 : decode c_L_writeText 1 = .ok (.iconst 0, 1) := by decide +kernel
theorem d_L_writeText_2 : decode c_L_writeText 2 = .ok (.aload_n 0, 1) := by decide +kernel
theorem d_L_writeText_3 : decode c_L_writeText 3 = .ok (.iload_n 1, 1) := by decide +kernel
theorem d_L_writeText_4 : decode c_L_writeText 4 = .ok (.invokevirtual 33, 3) := by decide +kernel
theorem d_L_writeText_7 : decode c_L_writeText 7 = .ok (.i2l, 1) := by decide +kernel
theorem d_L_writeText_8 : decode c_L_writeText 8 = .ok (.lastore, 1) := by decide +kernel
theorem d_L_writeText_9 : decode c_L_writeText 9 = .ok (.goto 6, 3) := by decide +kernel
theorem d_L_writeText_12 : decode c_L_writeText 12 = .ok (.astore_n 3, 1) := by decide +kernel
theorem d_L_writeText_13 : decode c_L_writeText 13 = .ok (.iconst 1, 1) := by decide +kernel
theorem d_L_writeText_14 : decode c_L_writeText 14 = .ok (.ireturn, 1) := by decide +kernel
theorem d_L_writeText_15 : decode c_L_writeText 15 = .ok (.iconst 0, 1) := by decide +kernel
theorem d_L_writeText_16 : decode c_L_writeText 16 = .ok (.ireturn, 1) := by decide +kernel
theorem d_L_read_0 : decode c_L_read 0 = .ok (.aload_n 2, 1) := by decide +kernel
theorem d_L_read_1 : decode c_L_read 1 = .ok (.iconst 0, 1) := by decide +kernel
theorem d_L_read_2 : decode c_L_read 2 = .ok (.aload_n 0, 1) := by decide +kernel
theorem d_L_read_3 : decode c_L_read 3 = .ok (.iload_n 1, 1) := by decide +kernel
theorem d_L_read_4 : decode c_L_read 4 = .ok (.invokevirtual 37, 3) := by decide +kernel
theorem d_L_read_7 : decode c_L_read 7 = .ok (.lastore, 1) := by decide +kernel
theorem d_L_read_8 : decode c_L_read 8 = .ok (.goto 12, 3) := by decide +kernel
theorem d_L_read_11 : decode c_L_read 11 = .ok (.astore_n 3, 1) := by decide +kernel
theorem d_L_read_12 : decode c_L_read 12 = .ok (.iconst 1, 1) := by decide +kernel
theorem d_L_read_13 : decode c_L_read 13 = .ok (.ireturn, 1) := by decide +kernel
theorem d_L_read_14 : decode c_L_read 14 = .ok (.astore_n 3, 1) := by decide +kernel
theorem d_L_read_15 : decode c_L_read 15 = .ok (.iconst 2, 1) := by decide +kernel
theorem d_L_read_16 : decode c_L_read 16 = .ok (.ireturn, 1) := by decide +kernel
theorem d_L_read_17 : decode c_L_read 17 = .ok (.astore_n 3, 1) := by decide +kernel
theorem d_L_read_18 : decode c_L_read 18 = .ok (.iconst 3, 1) := by decide +kernel
theorem d_L_read_19 : decode c_L_read 19 = .ok (.ireturn, 1) := by decide +kernel
theorem d_L_read_20 : decode c_L_read 20 = .ok (.iconst 0, 1) := by decide +kernel
theorem d_L_read_21 : decode c_L_read 21 = .ok (.ireturn, 1) := by decide +kernel
theorem d_L_readFloat_0 : decode c_L_readFloat 0 = .ok (.aload_n 1, 1) := by decide +kernel
theorem d_L_readFloat_1 : decode c_L_readFloat 1 = .ok (.iconst 0, 1) := by decide +kernel
theorem d_L_readFloat_2 : decode c_L_readFloat 2 = .ok (.aload_n 0, 1) := by decide +kernel
theorem d_L_readFloat_3 : decode c_L_readFloat 3 = .ok (.invokevirtual 43, 3) := by decide +kernel
theorem d_L_readFloat_6 : decode c_L_readFloat 6 = .ok (.f2d, 1) := by decide +kernel
theorem d_L_readFloat_7 : decode c_L_readFloat 7 = .ok (.dastore, 1) := by decide +kernel
theorem d_L_readFloat_8 : decode c_L_readFloat 8 = .ok (.goto 9, 3) := by decide +kernel
theorem d_L_readFloat_11 : decode c_L_readFloat 11 = .ok (.astore_n 2, 1) := by decide +kernel
theorem d_L_readFloat_12 : decode c_L_readFloat 12 = .ok (.iconst 1, 1) := by decide +kernel
theorem d_L_readFloat_13 : decode c_L_readFloat 13 = .ok (.ireturn, 1) := by decide +kernel
theorem d_L_readFloat_14 : decode c_L_readFloat 14 = .ok (.astore_n 2, 1) := by decide +kernel
theorem d_L_readFloat_15 : decode c_L_readFloat 15 = .ok (.iconst 2, 1) := by decide +kernel
theorem d_L_readFloat_16 : decode c_L_readFloat 16 = .ok (.ireturn, 1) := by decide +kernel
theorem d_L_readFloat_17 : decode c_L_readFloat 17 = .ok (.iconst 0, 1) := by decide +kernel
theorem d_L_readFloat_18 : decode c_L_readFloat 18 = .ok (.ireturn, 1) := by decide +kernel
theorem d_L_readDouble_0 : decode c_L_readDouble 0 = .ok (.aload_n 1, 1) := by decide +kernel
theorem d_L_readDouble_1 : decode c_L_readDouble 1 = .ok (.iconst 0, 1) := by decide +kernel
theorem d_L_readDouble_2 : decode c_L_readDouble 2 = .ok (.aload_n 0, 1) := by decide +kernel
theorem d_L_readDouble_3 : decode c_L_readDouble 3 = .ok (.invokevirtual 47, 3) := by decide +kernel
theorem d_L_readDouble_6 : decode c_L_readDouble 6 = .ok (.dastore, 1) := by decide +kernel
theorem d_L_readDouble_7 : decode c_L_readDouble 7 = .ok (.goto 9, 3) := by decide +kernel
theorem d_L_readDouble_10 : decode c_L_readDouble 10 = .ok (.astore_n 2, 1) := by decide +kernel
theorem d_L_readDouble_11 : decode c_L_readDouble 11 = .ok (.iconst 1, 1) := by decide +kernel
theorem d_L_readDouble_12 : decode c_L_readDouble 12 = .ok (.ireturn, 1) := by decide +kernel
theorem d_L_readDouble_13 : decode c_L_readDouble 13 = .ok (.astore_n 2, 1) := by decide +kernel
theorem d_L_readDouble_14 : decode c_L_readDouble 14 = .ok (.iconst 2, 1) := by decide +kernel
theorem d_L_readDouble_15 : decode c_L_readDouble 15 = .ok (.ireturn, 1) := by decide +kernel
theorem d_L_readDouble_16 : decode c_L_readDouble 16 = .ok (.iconst 0, 1) := by decide +kernel
theorem d_L_readDouble_17 : decode c_L_readDouble 17 = .ok (.ireturn, 1) := by decide +kernel
theorem d_L_readText_0 : decode c_L_readText 0 = .ok (.aload_n 1, 1) := by decide +kernel
theorem d_L_readText_1 : decode c_L_readText 1 = .ok (.iconst 0, 1) := by decide +kernel
theorem d_L_readText_2 : decode c_L_readText 2 = .ok (.aload_n 0, 1) := by decide +kernel
theorem d_L_readText_3 : decode c_L_readText 3 = .ok (.invokevirtual 51, 3) := by decide +kernel
theorem d_L_readText_6 : decode c_L_readText 6 = .ok (.i2l, 1) := by decide +kernel
theorem d_L_readText_7 : decode c_L_readText 7 = .ok (.lastore, 1) := by decide +kernel
theorem d_L_readText_8 : decode c_L_readText 8 = .ok (.goto 12, 3) := by decide +kernel
theorem d_L_readText_11 : decode c_L_readText 11 = .ok (.astore_n 2, 1) := by decide +kernel
theorem d_L_readText_12 : decode c_L_readText 12 = .ok (.iconst 1, 1) := by decide +kernel
theorem d_L_readText_13 : decode c_L_readText 13 = .ok (.ireturn, 1) := by decide +kernel
theorem d_L_readText_14 : decode c_L_readText 14 = .ok (.astore_n 2, 1) := by decide +kernel
theorem d_L_readText_15 : decode c_L_readText 15 = .ok (.iconst 2, 1) := by decide +kernel
theorem d_L_readText_16 : decode c_L_readText 16 = .ok (.ireturn, 1) := by decide +kernel
theorem d_L_readText_17 : decode c_L_readText 17 = .ok (.astore_n 2, 1) := by decide +kernel
theorem d_L_readText_18 : decode c_L_readText 18 = .ok (.iconst 3, 1) := by decide +kernel
theorem d_L_readText_19 : decode c_L_readText 19 = .ok (.ireturn, 1) := by decide +kernel
theorem d_L_readText_20 : decode c_L_readText 20 = .ok (.iconst 0, 1) := by decide +kernel
theorem d_L_readText_21 : decode c_L_readText 21 = .ok (.ireturn, 1) := by decide +kernel
theorem d_L_readBlocks_0 : decode c_L_readBlocks 0 = .ok (.aload_n 2, 1) := by decide +kernel
theorem d_L_readBlocks_1 : decode c_L_readBlocks 1 = .ok (.iconst 0, 1) := by decide +kernel
theorem d_L_readBlocks_2 : decode c_L_readBlocks 2 = .ok (.aload_n 0, 1) := by decide +kernel
theorem d_L_readBlocks_3 : decode c_L_readBlocks 3 = .ok (.iload_n 1, 1) := by decide +kernel
theorem d_L_readBlocks_4 : decode c_L_readBlocks 4 = .ok (.invokevirtual 55, 3) := by decide +kernel
theorem d_L_readBlocks_7 : decode c_L_readBlocks 7 = .ok (.i2l, 1) := by decide +kernel
theorem d_L_readBlocks_8 : decode c_L_readBlocks 8 = .ok (.lastore, 1) := by decide +kernel
theorem d_L_readBlocks_9 : decode c_L_readBlocks 9 = .ok (.goto 6, 3) := by decide +kernel
theorem d_L_readBlocks_12 : decode c_L_readBlocks 12 = .ok (.astore_n 3, 1) := by decide +kernel
theorem d_L_readBlocks_13 : decode c_L_readBlocks 13 = .ok (.iconst 1, 1) := by decide +kernel
theorem d_L_readBlocks_14 : decode c_L_readBlocks 14 = .ok (.ireturn, 1) := by decide +kernel
theorem d_L_readBlocks_15 : decode c_L_readBlocks 15 = .ok (.iconst 0, 1) := by decide +kernel
theorem d_L_readBlocks_16 : decode c_L_readBlocks 16 = .ok (.ireturn, 1) := by decide +kernel
theorem d_L_skip_0 : decode c_L_skip 0 = .ok (.aload_n 2, 1) := by decide +kernel
theorem d_L_skip_1 : decode c_L_skip 1 = .ok (.iconst 0, 1) := by decide +kernel
theorem d_L_skip_2 : decode c_L_skip 2 = .ok (.aload_n 0, 1) := by decide +kernel
theorem d_L_skip_3 : decode c_L_skip 3 = .ok (.iload_n 1, 1) := by decide +kernel
theorem d_L_skip_4 : decode c_L_skip 4 = .ok (.invokevirtual 59, 3) := by decide +kernel
theorem d_L_skip_7 : decode c_L_skip 7 = .ok (.i2l, 1) := by decide +kernel
theorem d_L_skip_8 : decode c_L_skip 8 = .ok (.lastore, 1) := by decide +kernel
theorem d_L_skip_9 : decode c_L_skip 9 = .ok (.goto 9, 3) := by decide +kernel
theorem d_L_skip_12 : decode c_L_skip 12 = .ok (.astore_n 3, 1) := by decide +kernel
theorem d_L_skip_13 : decode c_L_skip 13 = .ok (.iconst 1, 1) := by decide +kernel
theorem d_L_skip_14 : decode c_L_skip 14 = .ok (.ireturn, 1) := by decide +kernel
theorem d_L_skip_15 : decode c_L_skip 15 = .ok (.astore_n 3, 1) := by decide +kernel
theorem d_L_skip_16 : decode c_L_skip 16 = .ok (.iconst 2, 1) := by decide +kernel
theorem d_L_skip_17 : decode c_L_skip 17 = .ok (.ireturn, 1) := by decide +kernel
theorem d_L_skip_18 : decode c_L_skip 18 = .ok (.iconst 0, 1) := by decide +kernel
theorem d_L_skip_19 : decode c_L_skip 19 = .ok (.ireturn, 1) := by decide +kernel
theorem d_L_code_0 : decode c_L_code 0 = .ok (.aload_n 2, 1) := by decide +kernel
theorem d_L_code_1 : decode c_L_code 1 = .ok (.iconst 0, 1) := by decide +kernel
theorem d_L_code_2 : decode c_L_code 2 = .ok (.aload_n 0, 1) := by decide +kernel
theorem d_L_code_3 : decode c_L_code 3 = .ok (.iload_n 1, 1) := by decide +kernel
theorem d_L_code_4 : decode c_L_code 4 = .ok (.invokevirtual 62, 3) := by decide +kernel
theorem d_L_code_7 : decode c_L_code 7 = .ok (.i2l, 1) := by decide +kernel
theorem d_L_code_8 : decode c_L_code 8 = .ok (.lastore, 1) := by decide +kernel
theorem d_L_code_9 : decode c_L_code 9 = .ok (.goto 6, 3) := by decide +kernel
theorem d_L_code_12 : decode c_L_code 12 = .ok (.astore_n 3, 1) := by decide +kernel
theorem d_L_code_13 : decode c_L_code 13 = .ok (.iconst 1, 1) := by decide +kernel
theorem d_L_code_14 : decode c_L_code 14 = .ok (.ireturn, 1) := by decide +kernel
theorem d_L_code_15 : decode c_L_code 15 = .ok (.iconst 0, 1) := by decide +kernel
theorem d_L_code_16 : decode c_L_code 16 = .ok (.ireturn, 1) := by decide +kernel
theorem d_L_state_0 : decode c_L_state 0 = .ok (.aload_n 2, 1) := by decide +kernel
theorem d_L_state_1 : decode c_L_state 1 = .ok (.iconst 0, 1) := by decide +kernel
theorem d_L_state_2 : decode c_L_state 2 = .ok (.aload_n 0, 1) := by decide +kernel
theorem d_L_state_3 : decode c_L_state 3 = .ok (.iload_n 1, 1) := by decide +kernel
theorem d_L_state_4 : decode c_L_state 4 = .ok (.invokevirtual 65, 3) := by decide +kernel
theorem d_L_state_7 : decode c_L_state 7 = .ok (.i2l, 1) := by decide +kernel
theorem d_L_state_8 : decode c_L_state 8 = .ok (.lastore, 1) := by decide +kernel
theorem d_L_state_9 : decode c_L_state 9 = .ok (.goto 6, 3) := by decide +kernel
theorem d_L_state_12 : decode c_L_state 12 = .ok (.astore_n 3, 1) := by decide +kernel
theorem d_L_state_13 : decode c_L_state 13 = .ok (.iconst 1, 1) := by decide +kernel
theorem d_L_state_14 : decode c_L_state 14 = .ok (.ireturn, 1) := by decide +kernel
theorem d_L_state_15 : decode c_L_state 15 = .ok (.iconst 0, 1) := by decide +kernel
theorem d_L_state_16 : decode c_L_state 16 = .ok (.ireturn, 1) := by decide +kernel
