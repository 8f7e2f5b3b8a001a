def y_Bits_bit : MethodName := ⟨R_Bits, "bit", "(I)I"⟩
abbrev b_Bits_init : ByteArray := prog_3_method_1_code
def y_Bits_init : MethodName := ⟨R_Bits, "<init>", "()V"⟩
theorem d_Bits_init_0 : decode b_Bits_init 0 = .ok (.aload_n 0, 1) := by decide +kernel
theorem d_Bits_init_1 : decode b_Bits_init 1 = .ok (.invokespecial 1, 3) := by decide +kernel
theorem d_Bits_init_4 : decode b_Bits_init 4 = .ok (.return_, 1) := by decide +kernel
abbrev b_Sink_init : ByteArray := prog_5_method_1_code
def y_Sink_init : MethodName := ⟨R_Sink, "<init>", "(LPacketHeads$Store;)V"⟩
theorem d_Sink_init_0 : decode b_Sink_init 0 = .ok (.aload_n 0, 1) := by decide +kernel
theorem d_Sink_init_1 : decode b_Sink_init 1 = .ok (.invokespecial 3, 3) := by decide +kernel
theorem d_Sink_init_4 : decode b_Sink_init 4 = .ok (.aload_n 0, 1) := by decide +kernel
theorem d_Sink_init_5 : decode b_Sink_init 5 = .ok (.aload_n 1, 1) := by decide +kernel
theorem d_Sink_init_6 : decode b_Sink_init 6 = .ok (.putfield 9, 3) := by decide +kernel
theorem d_Sink_init_9 : decode b_Sink_init 9 = .ok (.return_, 1) := by decide +kernel
abbrev b_Sink_open : ByteArray := prog_5_method_2_code
def y_Sink_open : MethodName := ⟨R_Sink, "op" ++ "en", "()V"⟩
theorem d_Sink_open_0 : decode b_Sink_open 0 = .ok (.aload_n 0, 1) := by decide +kernel
theorem d_Sink_open_1 : decode b_Sink_open 1 = .ok (.iconst 0, 1) := by decide +kernel
theorem d_Sink_open_2 : decode b_Sink_open 2 = .ok (.putfield 15, 3) := by decide +kernel
theorem d_Sink_open_5 : decode b_Sink_open 5 = .ok (.aload_n 0, 1) := by decide +kernel
theorem d_Sink_open_6 : decode b_Sink_open 6 = .ok (.bipush 8, 2) := by decide +kernel
theorem d_Sink_open_8 : decode b_Sink_open 8 = .ok (.putfield 19, 3) := by decide +kernel
theorem d_Sink_open_11 : decode b_Sink_open 11 = .ok (.return_, 1) := by decide +kernel
abbrev b_Sink_bit : ByteArray := prog_5_method_3_code
def y_Sink_bit : MethodName := ⟨R_Sink, "bit", "(I)I"⟩
theorem d_Sink_bit_0 : decode b_Sink_bit 0 = .ok (.aload_n 0, 1) := by decide +kernel
theorem d_Sink_bit_1 : decode b_Sink_bit 1 = .ok (.dup, 1) := by decide +kernel
theorem d_Sink_bit_2 : decode b_Sink_bit 2 = .ok (.getfield 19, 3) := by decide +kernel
theorem d_Sink_bit_5 : decode b_Sink_bit 5 = .ok (.iconst 1, 1) := by decide +kernel
theorem d_Sink_bit_6 : decode b_Sink_bit 6 = .ok (.isub, 1) := by decide +kernel
theorem d_Sink_bit_7 : decode b_Sink_bit 7 = .ok (.putfield 19, 3) := by decide +kernel
theorem d_Sink_bit_10 : decode b_Sink_bit 10 = .ok (.aload_n 0, 1) := by decide +kernel
theorem d_Sink_bit_11 : decode b_Sink_bit 11 = .ok (.aload_n 0, 1) := by decide +kernel
theorem d_Sink_bit_12 : decode b_Sink_bit 12 = .ok (.getfield 15, 3) := by decide +kernel
theorem d_Sink_bit_15 : decode b_Sink_bit 15 = .ok (.iconst 2, 1) := by decide +kernel
theorem d_Sink_bit_16 : decode b_Sink_bit 16 = .ok (.imul, 1) := by decide +kernel
theorem d_Sink_bit_17 : decode b_Sink_bit 17 = .ok (.iload_n 1, 1) := by decide +kernel
theorem d_Sink_bit_18 : decode b_Sink_bit 18 = .ok (.iadd, 1) := by decide +kernel
theorem d_Sink_bit_19 : decode b_Sink_bit 19 = .ok (.putfield 15, 3) := by decide +kernel
theorem d_Sink_bit_22 : decode b_Sink_bit 22 = .ok (.aload_n 0, 1) := by decide +kernel
theorem d_Sink_bit_23 : decode b_Sink_bit 23 = .ok (.getfield 19, 3) := by decide +kernel
theorem d_Sink_bit_26 : decode b_Sink_bit 26 = .ok (.ifCond .ne 40, 3) := by decide +kernel
theorem d_Sink_bit_29 : decode b_Sink_bit 29 = .ok (.aload_n 0, 1) := by decide +kernel
theorem d_Sink_bit_30 : decode b_Sink_bit 30 = .ok (.getfield 9, 3) := by decide +kernel
theorem d_Sink_bit_33 : decode b_Sink_bit 33 = .ok (.aload_n 0, 1) := by decide +kernel
theorem d_Sink_bit_34 : decode b_Sink_bit 34 = .ok (.getfield 15, 3) := by decide +kernel
theorem d_Sink_bit_37 : decode b_Sink_bit 37 = .ok (.invokevirtual 22, 3) := by decide +kernel
theorem d_Sink_bit_40 : decode b_Sink_bit 40 = .ok (.aload_n 0, 1) := by decide +kernel
theorem d_Sink_bit_41 : decode b_Sink_bit 41 = .ok (.aload_n 0, 1) := by decide +kernel
theorem d_Sink_bit_42 : decode b_Sink_bit 42 = .ok (.getfield 15, 3) := by decide +kernel
theorem d_Sink_bit_45 : decode b_Sink_bit 45 = .ok (.sipush 255, 3) := by decide +kernel
theorem d_Sink_bit_48 : decode b_Sink_bit 48 = .ok (.if_icmp .ne 8, 3) := by decide +kernel
theorem d_Sink_bit_51 : decode b_Sink_bit 51 = .ok (.bipush 7, 2) := by decide +kernel
theorem d_Sink_bit_53 : decode b_Sink_bit 53 = .ok (.goto 5, 3) := by decide +kernel
theorem d_Sink_bit_56 : decode b_Sink_bit 56 = .ok (.bipush 8, 2) := by decide +kernel
theorem d_Sink_bit_58 : decode b_Sink_bit 58 = .ok (.putfield 19, 3) := by decide +kernel
theorem d_Sink_bit_61 : decode b_Sink_bit 61 = .ok (.aload_n 0, 1) := by decide +kernel
theorem d_Sink_bit_62 : decode b_Sink_bit 62 = .ok (.iconst 0, 1) := by decide +kernel
theorem d_Sink_bit_63 : decode b_Sink_bit 63 = .ok (.putfield 15, 3) := by decide +kernel
theorem d_Sink_bit_66 : decode b_Sink_bit 66 = .ok (.iload_n 1, 1) := by decide +kernel
theorem d_Sink_bit_67 : decode b_Sink_bit 67 = .ok (.ireturn, 1) := by decide +kernel
abbrev b_Sink_close : ByteArray := prog_5_method_4_code
def y_Sink_close : MethodName := ⟨R_Sink, "close", "()V"⟩
theorem d_Sink_close_0 : decode b_Sink_close 0 = .ok (.aload_n 0, 1) := by decide +kernel
theorem d_Sink_close_1 : decode b_Sink_close 1 = .ok (.getfield 19, 3) := by decide +kernel
theorem d_Sink_close_4 : decode b_Sink_close 4 = .ok (.bipush 8, 2) := by decide +kernel
theorem d_Sink_close_6 : decode b_Sink_close 6 = .ok (.if_icmp .ge 19, 3) := by decide +kernel
theorem d_Sink_close_9 : decode b_Sink_close 9 = .ok (.aload_n 0, 1) := by decide +kernel
theorem d_Sink_close_10 : decode b_Sink_close 10 = .ok (.getfield 9, 3) := by decide +kernel
theorem d_Sink_close_13 : decode b_Sink_close 13 = .ok (.aload_n 0, 1) := by decide +kernel
theorem d_Sink_close_14 : decode b_Sink_close 14 = .ok (.getfield 15, 3) := by decide +kernel
theorem d_Sink_close_17 : decode b_Sink_close 17 = .ok (.aload_n 0, 1) := by decide +kernel
theorem d_Sink_close_18 : decode b_Sink_close 18 = .ok (.getfield 19, 3) := by decide +kernel
theorem d_Sink_close_21 : decode b_Sink_close 21 = .ok (.ishl, 1) := by decide +kernel
theorem d_Sink_close_22 : decode b_Sink_close 22 = .ok (.invokevirtual 22, 3) := by decide +kernel
theorem d_Sink_close_25 : decode b_Sink_close 25 = .ok (.return_, 1) := by decide +kernel
abbrev b_Source_init : ByteArray := prog_6_method_1_code
def y_Source_init : MethodName := ⟨R_Source, "<init>", "(LPacketHeads$Store;)V"⟩
theorem d_Source_init_0 : decode b_Source_init 0 = .ok (.aload_n 0, 1) := by decide +kernel
theorem d_Source_init_1 : decode b_Source_init 1 = .ok (.invokespecial 3, 3) := by decide +kernel
theorem d_Source_init_4 : decode b_Source_init 4 = .ok (.aload_n 0, 1) := by decide +kernel
theorem d_Source_init_5 : decode b_Source_init 5 = .ok (.aload_n 1, 1) := by decide +kernel
theorem d_Source_init_6 : decode b_Source_init 6 = .ok (.putfield 9, 3) := by decide +kernel
theorem d_Source_init_9 : decode b_Source_init 9 = .ok (.return_, 1) := by decide +kernel
abbrev b_Source_open : ByteArray := prog_6_method_2_code
def y_Source_open : MethodName := ⟨R_Source, "op" ++ "en", "(II)V"⟩
theorem d_Source_open_0 : decode b_Source_open 0 = .ok (.aload_n 0, 1) := by decide +kernel
theorem d_Source_open_1 : decode b_Source_open 1 = .ok (.iload_n 1, 1) := by decide +kernel
theorem d_Source_open_2 : decode b_Source_open 2 = .ok (.putfield 15, 3) := by decide +kernel
theorem d_Source_open_5 : decode b_Source_open 5 = .ok (.aload_n 0, 1) := by decide +kernel
theorem d_Source_open_6 : decode b_Source_open 6 = .ok (.iload_n 1, 1) := by decide +kernel
theorem d_Source_open_7 : decode b_Source_open 7 = .ok (.putfield 19, 3) := by decide +kernel
theorem d_Source_open_10 : decode b_Source_open 10 = .ok (.aload_n 0, 1) := by decide +kernel
theorem d_Source_open_11 : decode b_Source_open 11 = .ok (.iload_n 1, 1) := by decide +kernel
theorem d_Source_open_12 : decode b_Source_open 12 = .ok (.iload_n 2, 1) := by decide +kernel
theorem d_Source_open_13 : decode b_Source_open 13 = .ok (.iadd, 1) := by decide +kernel
theorem d_Source_open_14 : decode b_Source_open 14 = .ok (.putfield 22, 3) := by decide +kernel
theorem d_Source_open_17 : decode b_Source_open 17 = .ok (.aload_n 0, 1) := by decide +kernel
theorem d_Source_open_18 : decode b_Source_open 18 = .ok (.iconst 0, 1) := by decide +kernel
theorem d_Source_open_19 : decode b_Source_open 19 = .ok (.putfield 25, 3) := by decide +kernel
theorem d_Source_open_22 : decode b_Source_open 22 = .ok (.aload_n 0, 1) := by decide +kernel
theorem d_Source_open_23 : decode b_Source_open 23 = .ok (.iconst 0, 1) := by decide +kernel
theorem d_Source_open_24 : decode b_Source_open 24 = .ok (.putfield 28, 3) := by decide +kernel
theorem d_Source_open_27 : decode b_Source_open 27 = .ok (.aload_n 0, 1) := by decide +kernel
theorem d_Source_open_28 : decode b_Source_open 28 = .ok (.iconst 0, 1) := by decide +kernel
theorem d_Source_open_29 : decode b_Source_open 29 = .ok (.putfield 31, 3) := by decide +kernel
theorem d_Source_open_32 : decode b_Source_open 32 = .ok (.return_, 1) := by decide +kernel
abbrev b_Source_takeByte : ByteArray := prog_6_method_4_code
def y_Source_takeByte : MethodName := ⟨R_Source, "takeByte", "()V"⟩
theorem d_Source_takeByte_0 : decode b_Source_takeByte 0 = .ok (.aload_n 0, 1) := by decide +kernel
theorem d_Source_takeByte_1 : decode b_Source_takeByte 1 = .ok (.getfield 19, 3) := by decide +kernel
theorem d_Source_takeByte_4 : decode b_Source_takeByte 4 = .ok (.aload_n 0, 1) := by decide +kernel
theorem d_Source_takeByte_5 : decode b_Source_takeByte 5 = .ok (.getfield 22, 3) := by decide +kernel
theorem d_Source_takeByte_8 : decode b_Source_takeByte 8 = .ok (.if_icmp .lt 9, 3) := by decide +kernel
theorem d_Source_takeByte_11 : decode b_Source_takeByte 11 = .ok (.aload_n 0, 1) := by decide +kernel
theorem d_Source_takeByte_12 : decode b_Source_takeByte 12 = .ok (.iconst 1, 1) := by decide +kernel
theorem d_Source_takeByte_13 : decode b_Source_takeByte 13 = .ok (.putfield 31, 3) := by decide +kernel
theorem d_Source_takeByte_16 : decode b_Source_takeByte 16 = .ok (.return_, 1) := by decide +kernel
theorem d_Source_takeByte_17 : decode b_Source_takeByte 17 = .ok (.aload_n 0, 1) := by decide +kernel
theorem d_Source_takeByte_18 : decode b_Source_takeByte 18 = .ok (.aload_n 0, 1) := by decide +kernel
theorem d_Source_takeByte_19 : decode b_Source_takeByte 19 = .ok (.getfield 25, 3) := by decide +kernel
theorem d_Source_takeByte_22 : decode b_Source_takeByte 22 = .ok (.sipush 255, 3) := by decide +kernel
theorem d_Source_takeByte_25 : decode b_Source_takeByte 25 = .ok (.if_icmp .ne 8, 3) := by decide +kernel
theorem d_Source_takeByte_28 : decode b_Source_takeByte 28 = .ok (.bipush 7, 2) := by decide +kernel
theorem d_Source_takeByte_30 : decode b_Source_takeByte 30 = .ok (.goto 5, 3) := by decide +kernel
theorem d_Source_takeByte_33 : decode b_Source_takeByte 33 = .ok (.bipush 8, 2) := by decide +kernel
theorem d_Source_takeByte_35 : decode b_Source_takeByte 35 = .ok (.putfield 28, 3) := by decide +kernel
theorem d_Source_takeByte_38 : decode b_Source_takeByte 38 = .ok (.aload_n 0, 1) := by decide +kernel
theorem d_Source_takeByte_39 : decode b_Source_takeByte 39 = .ok (.aload_n 0, 1) := by decide +kernel
theorem d_Source_takeByte_40 : decode b_Source_takeByte 40 = .ok (.getfield 9, 3) := by decide +kernel
theorem d_Source_takeByte_43 : decode b_Source_takeByte 43 = .ok (.aload_n 0, 1) := by decide +kernel
theorem d_Source_takeByte_44 : decode b_Source_takeByte 44 = .ok (.getfield 19, 3) := by decide +kernel
theorem d_Source_takeByte_47 : decode b_Source_takeByte 47 = .ok (.invokevirtual 38, 3) := by decide +kernel
theorem d_Source_takeByte_50 : decode b_Source_takeByte 50 = .ok (.putfield 25, 3) := by decide +kernel
theorem d_Source_takeByte_53 : decode b_Source_takeByte 53 = .ok (.aload_n 0, 1) := by decide +kernel
theorem d_Source_takeByte_54 : decode b_Source_takeByte 54 = .ok (.dup, 1) := by decide +kernel
theorem d_Source_takeByte_55 : decode b_Source_takeByte 55 = .ok (.getfield 19, 3) := by decide +kernel
theorem d_Source_takeByte_58 : decode b_Source_takeByte 58 = .ok (.iconst 1, 1) := by decide +kernel
theorem d_Source_takeByte_59 : decode b_Source_takeByte 59 = .ok (.iadd, 1) := by decide +kernel
theorem d_Source_takeByte_60 : decode b_Source_takeByte 60 = .ok (.putfield 19, 3) := by decide +kernel
theorem d_Source_takeByte_63 : decode b_Source_takeByte 63 = .ok (.return_, 1) := by decide +kernel
abbrev b_Source_bit : ByteArray := prog_6_method_3_code
def y_Source_bit : MethodName := ⟨R_Source, "bit", "(I)I"⟩
theorem d_Source_bit_0 : decode b_Source_bit 0 = .ok (.aload_n 0, 1) := by decide +kernel
theorem d_Source_bit_1 : decode b_Source_bit 1 = .ok (.getfield 28, 3) := by decide +kernel
theorem d_Source_bit_4 : decode b_Source_bit 4 = .ok (.ifCond .ne 7, 3) := by decide +kernel
theorem d_Source_bit_7 : decode b_Source_bit 7 = .ok (.aload_n 0, 1) := by decide +kernel
theorem d_Source_bit_8 : decode b_Source_bit 8 = .ok (.invokevirtual 35, 3) := by decide +kernel
theorem d_Source_bit_11 : decode b_Source_bit 11 = .ok (.aload_n 0, 1) := by decide +kernel
theorem d_Source_bit_12 : decode b_Source_bit 12 = .ok (.getfield 31, 3) := by decide +kernel
theorem d_Source_bit_15 : decode b_Source_bit 15 = .ok (.ifCond .eq 5, 3) := by decide +kernel
theorem d_Source_bit_18 : decode b_Source_bit 18 = .ok (.iconst 0, 1) := by decide +kernel
theorem d_Source_bit_19 : decode b_Source_bit 19 = .ok (.ireturn, 1) := by decide +kernel
theorem d_Source_bit_20 : decode b_Source_bit 20 = .ok (.aload_n 0, 1) := by decide +kernel
theorem d_Source_bit_21 : decode b_Source_bit 21 = .ok (.dup, 1) := by decide +kernel
theorem d_Source_bit_22 : decode b_Source_bit 22 = .ok (.getfield 28, 3) := by decide +kernel
theorem d_Source_bit_25 : decode b_Source_bit 25 = .ok (.iconst 1, 1) := by decide +kernel
theorem d_Source_bit_26 : decode b_Source_bit 26 = .ok (.isub, 1) := by decide +kernel
theorem d_Source_bit_27 : decode b_Source_bit 27 = .ok (.putfield 28, 3) := by decide +kernel
theorem d_Source_bit_30 : decode b_Source_bit 30 = .ok (.aload_n 0, 1) := by decide +kernel
theorem d_Source_bit_31 : decode b_Source_bit 31 = .ok (.getfield 25, 3) := by decide +kernel
theorem d_Source_bit_34 : decode b_Source_bit 34 = .ok (.aload_n 0, 1) := by decide +kernel
theorem d_Source_bit_35 : decode b_Source_bit 35 = .ok (.getfield 28, 3) := by decide +kernel
theorem d_Source_bit_38 : decode b_Source_bit 38 = .ok (.ishr, 1) := by decide +kernel
theorem d_Source_bit_39 : decode b_Source_bit 39 = .ok (.iconst 1, 1) := by decide +kernel
theorem d_Source_bit_40 : decode b_Source_bit 40 = .ok (.iand, 1) := by decide +kernel
theorem d_Source_bit_41 : decode b_Source_bit 41 = .ok (.ireturn, 1) := by decide +kernel
abbrev b_Source_close : ByteArray := prog_6_method_5_code
def y_Source_close : MethodName := ⟨R_Source, "close", "()I"⟩
theorem d_Source_close_0 : decode b_Source_close 0 = .ok (.aload_n 0, 1) := by decide +kernel
theorem d_Source_close_1 : decode b_Source_close 1 = .ok (.getfield 25, 3) := by decide +kernel
theorem d_Source_close_4 : decode b_Source_close 4 = .ok (.sipush 255, 3) := by decide +kernel
theorem d_Source_close_7 : decode b_Source_close 7 = .ok (.if_icmp .ne 7, 3) := by decide +kernel
theorem d_Source_close_10 : decode b_Source_close 10 = .ok (.aload_n 0, 1) := by decide +kernel
theorem d_Source_close_11 : decode b_Source_close 11 = .ok (.invokevirtual 35, 3) := by decide +kernel
theorem d_Source_close_14 : decode b_Source_close 14 = .ok (.aload_n 0, 1) := by decide +kernel
theorem d_Source_close_15 : decode b_Source_close 15 = .ok (.getfield 31, 3) := by decide +kernel
theorem d_Source_close_18 : decode b_Source_close 18 = .ok (.ifCond .eq 7, 3) := by decide +kernel
theorem d_Source_close_21 : decode b_Source_close 21 = .ok (.iconst (-1), 1) := by decide +kernel
theorem d_Source_close_22 : decode b_Source_close 22 = .ok (.goto 12, 3) := by decide +kernel
theorem d_Source_close_25 : decode b_Source_close 25 = .ok (.aload_n 0, 1) := by decide +kernel
theorem d_Source_close_26 : decode b_Source_close 26 = .ok (.getfield 19, 3) := by decide +kernel
theorem d_Source_close_29 : decode b_Source_close 29 = .ok (.aload_n 0, 1) := by decide +kernel
theorem d_Source_close_30 : decode b_Source_close 30 = .ok (.getfield 15, 3) := by decide +kernel
theorem d_Source_close_33 : decode b_Source_close 33 = .ok (.isub, 1) := by decide +kernel
theorem d_Source_close_34 : decode b_Source_close 34 = .ok (.ireturn, 1) := by decide +kernel
abbrev b_Bits_number : ByteArray := prog_3_method_3_code
def y_Bits_number : MethodName := ⟨R_Bits, "number", "(JI)J"⟩
theorem d_Bits_number_0 : decode b_Bits_number 0 = .ok (.lconst 0, 1) := by decide +kernel
theorem d_Bits_number_1 : decode b_Bits_number 1 = .ok (.lstore 4, 2) := by decide +kernel
theorem d_Bits_number_3 : decode b_Bits_number 3 = .ok (.iload_n 3, 1) := by decide +kernel
theorem d_Bits_number_4 : decode b_Bits_number 4 = .ok (.iconst 1, 1) := by decide +kernel
theorem d_Bits_number_5 : decode b_Bits_number 5 = .ok (.isub, 1) := by decide +kernel
theorem d_Bits_number_6 : decode b_Bits_number 6 = .ok (.istore 6, 2) := by decide +kernel
theorem d_Bits_number_8 : decode b_Bits_number 8 = .ok (.iload 6, 2) := by decide +kernel
theorem d_Bits_number_10 : decode b_Bits_number 10 = .ok (.ifCond .lt 30, 3) := by decide +kernel
theorem d_Bits_number_13 : decode b_Bits_number 13 = .ok (.lload 4, 2) := by decide +kernel
theorem d_Bits_number_15 : decode b_Bits_number 15 = .ok (.ldc2_w 7, 3) := by decide +kernel
theorem d_Bits_number_18 : decode b_Bits_number 18 = .ok (.lmul, 1) := by decide +kernel
theorem d_Bits_number_19 : decode b_Bits_number 19 = .ok (.aload_n 0, 1) := by decide +kernel
theorem d_Bits_number_20 : decode b_Bits_number 20 = .ok (.lload_n 1, 1) := by decide +kernel
theorem d_Bits_number_21 : decode b_Bits_number 21 = .ok (.iload 6, 2) := by decide +kernel
theorem d_Bits_number_23 : decode b_Bits_number 23 = .ok (.lshr, 1) := by decide +kernel
theorem d_Bits_number_24 : decode b_Bits_number 24 = .ok (.l2i, 1) := by decide +kernel
theorem d_Bits_number_25 : decode b_Bits_number 25 = .ok (.iconst 1, 1) := by decide +kernel
theorem d_Bits_number_26 : decode b_Bits_number 26 = .ok (.iand, 1) := by decide +kernel
theorem d_Bits_number_27 : decode b_Bits_number 27 = .ok (.invokevirtual 9, 3) := by decide +kernel
theorem d_Bits_number_30 : decode b_Bits_number 30 = .ok (.i2l, 1) := by decide +kernel
theorem d_Bits_number_31 : decode b_Bits_number 31 = .ok (.ladd, 1) := by decide +kernel
theorem d_Bits_number_32 : decode b_Bits_number 32 = .ok (.lstore 4, 2) := by decide +kernel
theorem d_Bits_number_34 : decode b_Bits_number 34 = .ok (.iinc 6 (-1), 3) := by decide +kernel
theorem d_Bits_number_37 : decode b_Bits_number 37 = .ok (.goto (-29), 3) := by decide +kernel
theorem d_Bits_number_40 : decode b_Bits_number 40 = .ok (.lload 4, 2) := by decide +kernel
theorem d_Bits_number_42 : decode b_Bits_number 42 = .ok (.lreturn, 1) := by decide +kernel
abbrev b_Bits_passes : ByteArray := prog_3_method_4_code
def y_Bits_passes : MethodName := ⟨R_Bits, "passes", "(I)I"⟩
theorem d_Bits_passes_0 : decode b_Bits_passes 0 = .ok (.aload_n 0, 1) := by decide +kernel
theorem d_Bits_passes_1 : decode b_Bits_passes 1 = .ok (.iload_n 1, 1) := by decide +kernel
theorem d_Bits_passes_2 : decode b_Bits_passes 2 = .ok (.iconst 1, 1) := by decide +kernel
theorem d_Bits_passes_3 : decode b_Bits_passes 3 = .ok (.if_icmp .le 7, 3) := by decide +kernel
theorem d_Bits_passes_6 : decode b_Bits_passes 6 = .ok (.iconst 1, 1) := by decide +kernel
theorem d_Bits_passes_7 : decode b_Bits_passes 7 = .ok (.goto 4, 3) := by decide +kernel
theorem d_Bits_passes_10 : decode b_Bits_passes 10 = .ok (.iconst 0, 1) := by decide +kernel
theorem d_Bits_passes_11 : decode b_Bits_passes 11 = .ok (.invokevirtual 9, 3) := by decide +kernel
theorem d_Bits_passes_14 : decode b_Bits_passes 14 = .ok (.ifCond .ne 5, 3) := by decide +kernel
theorem d_Bits_passes_17 : decode b_Bits_passes 17 = .ok (.iconst 1, 1) := by decide +kernel
theorem d_Bits_passes_18 : decode b_Bits_passes 18 = .ok (.ireturn, 1) := by decide +kernel
theorem d_Bits_passes_19 : decode b_Bits_passes 19 = .ok (.aload_n 0, 1) := by decide +kernel
theorem d_Bits_passes_20 : decode b_Bits_passes 20 = .ok (.iload_n 1, 1) := by decide +kernel
theorem d_Bits_passes_21 : decode b_Bits_passes 21 = .ok (.iconst 2, 1) := by decide +kernel
theorem d_Bits_passes_22 : decode b_Bits_passes 22 = .ok (.if_icmp .le 7, 3) := by decide +kernel
theorem d_Bits_passes_25 : decode b_Bits_passes 25 = .ok (.iconst 1, 1) := by decide +kernel
theorem d_Bits_passes_26 : decode b_Bits_passes 26 = .ok (.goto 4, 3) := by decide +kernel
theorem d_Bits_passes_29 : decode b_Bits_passes 29 = .ok (.iconst 0, 1) := by decide +kernel
theorem d_Bits_passes_30 : decode b_Bits_passes 30 = .ok (.invokevirtual 9, 3) := by decide +kernel
theorem d_Bits_passes_33 : decode b_Bits_passes 33 = .ok (.ifCond .ne 5, 3) := by decide +kernel
theorem d_Bits_passes_36 : decode b_Bits_passes 36 = .ok (.iconst 2, 1) := by decide +kernel
theorem d_Bits_passes_37 : decode b_Bits_passes 37 = .ok (.ireturn, 1) := by decide +kernel
theorem d_Bits_passes_38 : decode b_Bits_passes 38 = .ok (.aload_n 0, 1) := by decide +kernel
theorem d_Bits_passes_39 : decode b_Bits_passes 39 = .ok (.iload_n 1, 1) := by decide +kernel
theorem d_Bits_passes_40 : decode b_Bits_passes 40 = .ok (.iconst 3, 1) := by decide +kernel
theorem d_Bits_passes_41 : decode b_Bits_passes 41 = .ok (.isub, 1) := by decide +kernel
theorem d_Bits_passes_42 : decode b_Bits_passes 42 = .ok (.iconst 3, 1) := by decide +kernel
theorem d_Bits_passes_43 : decode b_Bits_passes 43 = .ok (.invokestatic 15, 3) := by decide +kernel
theorem d_Bits_passes_46 : decode b_Bits_passes 46 = .ok (.i2l, 1) := by decide +kernel
theorem d_Bits_passes_47 : decode b_Bits_passes 47 = .ok (.iconst 2, 1) := by decide +kernel
theorem d_Bits_passes_48 : decode b_Bits_passes 48 = .ok (.invokevirtual 21, 3) := by decide +kernel
theorem d_Bits_passes_51 : decode b_Bits_passes 51 = .ok (.l2i, 1) := by decide +kernel
theorem d_Bits_passes_52 : decode b_Bits_passes 52 = .ok (.istore_n 2, 1) := by decide +kernel
theorem d_Bits_passes_53 : decode b_Bits_passes 53 = .ok (.iload_n 2, 1) := by decide +kernel
theorem d_Bits_passes_54 : decode b_Bits_passes 54 = .ok (.iconst 3, 1) := by decide +kernel
theorem d_Bits_passes_55 : decode b_Bits_passes 55 = .ok (.if_icmp .ge 7, 3) := by decide +kernel
theorem d_Bits_passes_58 : decode b_Bits_passes 58 = .ok (.iconst 3, 1) := by decide +kernel
theorem d_Bits_passes_59 : decode b_Bits_passes 59 = .ok (.iload_n 2, 1) := by decide +kernel
theorem d_Bits_passes_60 : decode b_Bits_passes 60 = .ok (.iadd, 1) := by decide +kernel
theorem d_Bits_passes_61 : decode b_Bits_passes 61 = .ok (.ireturn, 1) := by decide +kernel
theorem d_Bits_passes_62 : decode b_Bits_passes 62 = .ok (.aload_n 0, 1) := by decide +kernel
theorem d_Bits_passes_63 : decode b_Bits_passes 63 = .ok (.iload_n 1, 1) := by decide +kernel
theorem d_Bits_passes_64 : decode b_Bits_passes 64 = .ok (.bipush 6, 2) := by decide +kernel
theorem d_Bits_passes_66 : decode b_Bits_passes 66 = .ok (.isub, 1) := by decide +kernel
theorem d_Bits_passes_67 : decode b_Bits_passes 67 = .ok (.bipush 31, 2) := by decide +kernel
theorem d_Bits_passes_69 : decode b_Bits_passes 69 = .ok (.invokestatic 15, 3) := by decide +kernel
theorem d_Bits_passes_72 : decode b_Bits_passes 72 = .ok (.i2l, 1) := by decide +kernel
theorem d_Bits_passes_73 : decode b_Bits_passes 73 = .ok (.iconst 5, 1) := by decide +kernel
theorem d_Bits_passes_74 : decode b_Bits_passes 74 = .ok (.invokevirtual 21, 3) := by decide +kernel
theorem d_Bits_passes_77 : decode b_Bits_passes 77 = .ok (.l2i, 1) := by decide +kernel
theorem d_Bits_passes_78 : decode b_Bits_passes 78 = .ok (.istore_n 3, 1) := by decide +kernel
theorem d_Bits_passes_79 : decode b_Bits_passes 79 = .ok (.iload_n 3, 1) := by decide +kernel
theorem d_Bits_passes_80 : decode b_Bits_passes 80 = .ok (.bipush 31, 2) := by decide +kernel
theorem d_Bits_passes_82 : decode b_Bits_passes 82 = .ok (.if_icmp .ge 8, 3) := by decide +kernel
theorem d_Bits_passes_85 : decode b_Bits_passes 85 = .ok (.bipush 6, 2) := by decide +kernel
theorem d_Bits_passes_87 : decode b_Bits_passes 87 = .ok (.iload_n 3, 1) := by decide +kernel
theorem d_Bits_passes_88 : decode b_Bits_passes 88 = .ok (.iadd, 1) := by decide +kernel
theorem d_Bits_passes_89 : decode b_Bits_passes 89 = .ok (.ireturn, 1) := by decide +kernel
theorem d_Bits_passes_90 : decode b_Bits_passes 90 = .ok (.bipush 37, 2) := by decide +kernel
theorem d_Bits_passes_92 : decode b_Bits_passes 92 = .ok (.aload_n 0, 1) := by decide +kernel
theorem d_Bits_passes_93 : decode b_Bits_passes 93 = .ok (.iload_n 1, 1) := by decide +kernel
theorem d_Bits_passes_94 : decode b_Bits_passes 94 = .ok (.bipush 37, 2) := by decide +kernel
theorem d_Bits_passes_96 : decode b_Bits_passes 96 = .ok (.isub, 1) := by decide +kernel
theorem d_Bits_passes_97 : decode b_Bits_passes 97 = .ok (.i2l, 1) := by decide +kernel
theorem d_Bits_passes_98 : decode b_Bits_passes 98 = .ok (.bipush 7, 2) := by decide +kernel
theorem d_Bits_passes_100 : decode b_Bits_passes 100 = .ok (.invokevirtual 21, 3) := by decide +kernel
theorem d_Bits_passes_103 : decode b_Bits_passes 103 = .ok (.l2i, 1) := by decide +kernel
theorem d_Bits_passes_104 : decode b_Bits_passes 104 = .ok (.iadd, 1) := by decide +kernel
theorem d_Bits_passes_105 : decode b_Bits_passes 105 = .ok (.ireturn, 1) := by decide +kernel
theorem q_30 : (Cond.methodLink R_Bits 1 objectInit) ∈ TB := in_TB (List.mem_append_right _ (List.mem_of_getElem? (i := 161) (by decide +kernel))) (by decide +kernel)
theorem q_31 : (Cond.code y_Bits_init b_Bits_init 1 none) ∈ TB := in_TB (List.mem_append_right _ (List.mem_of_getElem? (i := 160) (by decide +kernel))) (by decide +kernel)
theorem q_32 : (Cond.initialized R_Bits) ∈ TB := in_TB (List.mem_append_right _ (List.mem_of_getElem? (i := 6) (by decide +kernel))) (by decide +kernel)
theorem q_33 : (Cond.methodLink R_Sink 3 y_Bits_init) ∈ TB := in_TB (List.mem_append_right _ (List.mem_of_getElem? (i := 158) (by decide +kernel))) (by decide +kernel)
theorem q_34 : (Cond.instanceMethod y_Bits_init) ∈ TB := in_TB (List.mem_append_right _ (List.mem_of_getElem? (i := 159) (by decide +kernel))) (by decide +kernel)
theorem q_35 : (Cond.fieldLink R_Sink 9 "PacketHeads$Sink" "store" "LPacketHeads$Store;") ∈ TB := in_TB (List.mem_append_right _ (List.mem_of_getElem? (i := 162) (by decide +kernel))) (by decide +kernel)
theorem q_36 : (Cond.fieldLink R_Sink 15 "PacketHeads$Sink" "gathered" "I") ∈ TB := in_TB (List.mem_append_right _ (List.mem_of_getElem? (i := 163) (by decide +kernel))) (by decide +kernel)
theorem q_37 : (Cond.fieldLink R_Sink 19 "PacketHeads$Sink" "room" "I") ∈ TB := in_TB (List.mem_append_right _ (List.mem_of_getElem? (i := 164) (by decide +kernel))) (by decide +kernel)
theorem q_38 : (Cond.code y_Store_add b_Store_add 2 none) ∈ TB := in_TB (List.mem_append_right _ (List.mem_of_getElem? (i := 501) (by decide +kernel))) (by decide +kernel)
theorem q_39 : (Cond.initialized R_Store) ∈ TB := in_TB (List.mem_append_right _ (List.mem_of_getElem? (i := 2) (by decide +kernel))) (by decide +kernel)
theorem q_40 : (Cond.methodLink R_Sink 22 y_Store_add) ∈ TB := in_TB (List.mem_append_right _ (List.mem_of_getElem? (i := 498) (by decide +kernel))) (by decide +kernel)
theorem q_41 : (Cond.instanceMethod y_Store_add) ∈ TB := in_TB (List.mem_append_right _ (List.mem_of_getElem? (i := 499) (by decide +kernel))) (by decide +kernel)
theorem q_42 : (Cond.selects R_Store y_Store_add y_Store_add) ∈ TB := in_TB (List.mem_append_right _ (List.mem_of_getElem? (i := 500) (by decide +kernel))) (by decide +kernel)
theorem q_43 : (Cond.methodLink R_Source 3 y_Bits_init) ∈ TB := in_TB (List.mem_append_right _ (List.mem_of_getElem? (i := 177) (by decide +kernel))) (by decide +kernel)
theorem q_44 : (Cond.fieldLink R_Source 9 "PacketHeads$Source" "store" "LPacketHeads$Store;") ∈ TB := in_TB (List.mem_append_right _ (List.mem_of_getElem? (i := 178) (by decide +kernel))) (by decide +kernel)
theorem q_45 : (Cond.fieldLink R_Source 15 "PacketHeads$Source" "start" "I") ∈ TB := in_TB (List.mem_append_right _ (List.mem_of_getElem? (i := 179) (by decide +kernel))) (by decide +kernel)
theorem q_46 : (Cond.fieldLink R_Source 19 "PacketHeads$Source" "next" "I") ∈ TB := in_TB (List.mem_append_right _ (List.mem_of_getElem? (i := 180) (by decide +kernel))) (by decide +kernel)
theorem q_47 : (Cond.fieldLink R_Source 22 "PacketHeads$Source" "end" "I") ∈ TB := in_TB (List.mem_append_right _ (List.mem_of_getElem? (i := 181) (by decide +kernel))) (by decide +kernel)
theorem q_48 : (Cond.fieldLink R_Source 25 "PacketHeads$Source" "latest" "I") ∈ TB := in_TB (List.mem_append_right _ (List.mem_of_getElem? (i := 182) (by decide +kernel))) (by decide +kernel)
theorem q_49 : (Cond.fieldLink R_Source 28 "PacketHeads$Source" "left" "I") ∈ TB := in_TB (List.mem_append_right _ (List.mem_of_getElem? (i := 183) (by decide +kernel))) (by decide +kernel)
theorem q_50 : (Cond.fieldLink R_Source 31 "PacketHeads$Source" "lacking" "Z") ∈ TB := in_TB (List.mem_append_right _ (List.mem_of_getElem? (i := 184) (by decide +kernel))) (by decide +kernel)
theorem q_51 : (Cond.code y_Store_get b_Store_get 2 (some .int)) ∈ TB := in_TB (List.mem_append_right _ (List.mem_of_getElem? (i := 521) (by decide +kernel))) (by decide +kernel)
theorem q_52 : (Cond.methodLink R_Source 38 y_Store_get) ∈ TB := in_TB (List.mem_append_right _ (List.mem_of_getElem? (i := 518) (by decide +kernel))) (by decide +kernel)
theorem q_53 : (Cond.instanceMethod y_Store_get) ∈ TB := in_TB (List.mem_append_right _ (List.mem_of_getElem? (i := 519) (by decide +kernel))) (by decide +kernel)
theorem q_54 : (Cond.selects R_Store y_Store_get y_Store_get) ∈ TB := in_TB (List.mem_append_right _ (List.mem_of_getElem? (i := 520) (by decide +kernel))) (by decide +kernel)
theorem q_55 : (Cond.code y_Source_takeByte b_Source_takeByte 1 none) ∈ TB := in_TB (List.mem_append_right _ (List.mem_of_getElem? (i := 517) (by decide +kernel))) (by decide +kernel)
theorem q_56 : (Cond.initialized R_Source) ∈ TB := in_TB (List.mem_append_right _ (List.mem_of_getElem? (i := 8) (by decide +kernel))) (by decide +kernel)
theorem q_57 : (Cond.methodLink R_Source 35 y_Source_takeByte) ∈ TB := in_TB (List.mem_append_right _ (List.mem_of_getElem? (i := 514) (by decide +kernel))) (by decide +kernel)
theorem q_58 : (Cond.instanceMethod y_Source_takeByte) ∈ TB := in_TB (List.mem_append_right _ (List.mem_of_getElem? (i := 516) (by decide +kernel))) (by decide +kernel)
theorem q_59 : (Cond.selects R_Source y_Source_takeByte y_Source_takeByte) ∈ TB := in_TB (List.mem_append_left _ (List.mem_of_getElem? (i := 6) (by decide +kernel))) (by decide +kernel)
theorem q_60 : (Cond.constantLong R_Bits 7 2) ∈ TB := in_TB (List.mem_append_right _ (List.mem_of_getElem? (i := 550) (by decide +kernel))) (by decide +kernel)
theorem q_61 : (Cond.code y_Sink_bit b_Sink_bit 2 (some .int)) ∈ TB := in_TB (List.mem_append_right _ (List.mem_of_getElem? (i := 497) (by decide +kernel))) (by decide +kernel)
theorem q_62 : (Cond.initialized R_Sink) ∈ TB := in_TB (List.mem_append_right _ (List.mem_of_getElem? (i := 7) (by decide +kernel))) (by decide +kernel)
theorem q_63 : (Cond.methodLink R_Bits 9 y_Bits_bit) ∈ TB := in_TB (List.mem_append_right _ (List.mem_of_getElem? (i := 542) (by decide +kernel))) (by decide +kernel)
theorem q_64 : (Cond.instanceMethod y_Sink_bit) ∈ TB := in_TB (List.mem_append_right _ (List.mem_of_getElem? (i := 496) (by decide +kernel))) (by decide +kernel)
theorem q_65 : (Cond.sameMethod R_Bits R_Bits "bit" "(I)I") ∈ TB := in_TB (List.mem_append_right _ (List.mem_of_getElem? (i := 494) (by decide +kernel))) (by decide +kernel)
theorem q_66 : (Cond.selects R_Sink y_Bits_bit y_Sink_bit) ∈ TB := in_TB (List.mem_append_right _ (List.mem_of_getElem? (i := 495) (by decide +kernel))) (by decide +kernel)
theorem q_67 : (Cond.declares y_Bits_bit) ∈ lw_tbl := List.mem_append_right _ (List.mem_of_getElem? (i := 493) (by decide +kernel))
theorem q_68 : (Cond.methodLink R_Bits 15 Lib.Math.min.name) ∈ TB := in_TB (List.mem_append_right _ (List.mem_of_getElem? (i := 543) (by decide +kernel))) (by decide +kernel)
theorem q_69 : (Cond.code y_Bits_number b_Bits_number 7 (some .long)) ∈ TB := in_TB (List.mem_append_right _ (List.mem_of_getElem? (i := 549) (by decide +kernel))) (by decide +kernel)
theorem q_70 : (Cond.methodLink R_Bits 21 y_Bits_number) ∈ TB := in_TB (List.mem_append_right _ (List.mem_of_getElem? (i := 544) (by decide +kernel))) (by decide +kernel)
theorem q_71 : (Cond.instanceMethod y_Bits_number) ∈ TB := in_TB (List.mem_append_right _ (List.mem_of_getElem? (i := 545) (by decide +kernel))) (by decide +kernel)
theorem q_72 : (Cond.sameMethod R_Bits R_Bits "number" "(JI)J") ∈ TB := in_TB (List.mem_append_right _ (List.mem_of_getElem? (i := 546) (by decide +kernel))) (by decide +kernel)
theorem q_73 : (Cond.selects R_Sink y_Bits_number y_Bits_number) ∈ TB := in_TB (List.mem_append_right _ (List.mem_of_getElem? (i := 547) (by decide +kernel))) (by decide +kernel)
theorem q_74 : (Cond.code y_Source_bit b_Source_bit 2 (some .int)) ∈ TB := in_TB (List.mem_append_right _ (List.mem_of_getElem? (i := 513) (by decide +kernel))) (by decide +kernel)
theorem q_75 : (Cond.instanceMethod y_Source_bit) ∈ TB := in_TB (List.mem_append_right _ (List.mem_of_getElem? (i := 512) (by decide +kernel))) (by decide +kernel)
theorem q_76 : (Cond.selects R_Source y_Bits_bit y_Source_bit) ∈ TB := in_TB (List.mem_append_right _ (List.mem_of_getElem? (i := 511) (by decide +kernel))) (by decide +kernel)
theorem q_77 : (Cond.selects R_Source y_Bits_number y_Bits_number) ∈ TB := in_TB (List.mem_append_right _ (List.mem_of_getElem? (i := 548) (by decide +kernel))) (by decide +kernel)
theorem hd_Bits_init : y_Bits_init.cls ≠ "java/lang/invoke/MethodHandle" ∧ y_Bits_init.cls ≠ "java/lang/invoke/VarHandle" ∧ (parseMethodDescriptor y_Bits_init.desc).map (fun d => d.parameters.length) = some 0 := by decide +kernel
theorem hd_Store_add : y_Store_add.cls ≠ "java/lang/invoke/MethodHandle" ∧ y_Store_add.cls ≠ "java/lang/invoke/VarHandle" ∧ (parseMethodDescriptor y_Store_add.desc).map (fun d => d.parameters.length) = some 1 := by decide +kernel
theorem hd_Store_get : y_Store_get.cls ≠ "java/lang/invoke/MethodHandle" ∧ y_Store_get.cls ≠ "java/lang/invoke/VarHandle" ∧ (parseMethodDescriptor y_Store_get.desc).map (fun d => d.parameters.length) = some 1 := by decide +kernel
theorem hd_Source_takeByte : y_Source_takeByte.cls ≠ "java/lang/invoke/MethodHandle" ∧ y_Source_takeByte.cls ≠ "java/lang/invoke/VarHandle" ∧ (parseMethodDescriptor y_Source_takeByte.desc).map (fun d => d.parameters.length) = some 0 := by decide +kernel
theorem hd_Sink_bit : y_Sink_bit.cls ≠ "java/lang/invoke/MethodHandle" ∧ y_Sink_bit.cls ≠ "java/lang/invoke/VarHandle" ∧ (parseMethodDescriptor y_Sink_bit.desc).map (fun d => d.parameters.length) = some 1 := by decide +kernel
theorem hd_Bits_bit : y_Bits_bit.cls ≠ "java/lang/invoke/MethodHandle" ∧ y_Bits_bit.cls ≠ "java/lang/invoke/VarHandle" ∧ (parseMethodDescriptor y_Bits_bit.desc).map (fun d => d.parameters.length) = some 1 := by decide +kernel
theorem hd_Bits_number : y_Bits_number.cls ≠ "java/lang/invoke/MethodHandle" ∧ y_Bits_number.cls ≠ "java/lang/invoke/VarHandle" ∧ (parseMethodDescriptor y_Bits_number.desc).map (fun d => d.parameters.length) = some 2 := by decide +kernel
theorem hd_Source_bit : y_Source_bit.cls ≠ "java/lang/invoke/MethodHandle" ∧ y_Source_bit.cls ≠ "java/lang/invoke/VarHandle" ∧ (parseMethodDescriptor y_Source_bit.desc).map (fun d => d.parameters.length) = some 1 := by decide +kernel
noncomputable def f_Bits_initW (F : Nat) : Option (Unit) :=
some ()
set_option maxHeartbeats 4000000 in
set_option maxRecDepth 100000 in
theorem c_Bits_initW (l : Launch) (dC : Nat → ClassId) (dI : Nat → Nat → Nat) (tI tB tL tZ : ClassId) (a_t : Nat) (sz : Nat) (F : Nat) (u : Unit) (hf : f_Bits_initW F  = some u) : CTv l y_Bits_init b_Bits_init 1 1 12 (dC, dI) classes [(tI, .int), (tB, .byte), (tL, .long), (tZ, .boolean)] [.ref a_t] [(a_t, .inr (2, [.null, .int 0, .int 0]))] sz (fun q : Unit => [(a_t, .inr (2, [.null, .int 0, .int 0]))]) 0 0 := by
  refine mk_v (by decide) (Nat.le_of_ble_eq_true rfl) ?_
  intro p e s m args below meth c ls A Q hx hb hml hts hown hin hK hN hP hD hA hl ret
  obtain ⟨H, hH⟩ : ∃ H : Heap, H = s.heap := ⟨_, rfl⟩
  have hS : va_S A s.heap H [] := by rw [hH]; exact va_S.rf
  rw [← hH] at hP ⊢
  have hl : lv_has ls 1 [(0, .ref a_t)] := hl
  have hc : 0 ≤ 0 ∧ 0 ≤ 0 := ⟨Nat.le_refl 0, Nat.le_refl 0⟩
  unfold f_Bits_initW at hf
  refine lv_aload_n hx hb d_Bits_init_0 rfl (lv_at hl 0 rfl) ?_
  refine W.objInit hx hb hown (hts _ q_30) (hts _ q_22) (hts _ q_23) rfl (by rw [hml]; exact hl.1) rfl d_Bits_init_1 (Nat.le_of_ble_eq_true rfl) (Nat.le_of_ble_eq_true rfl) ?_
  refine W.eq (g2 := F0 m 4 ls []) rfl ?_
  have hf := Option.some.inj hf
  subst u
  exact ret _ _ _ _ _ _ () d_Bits_init_4 hP hD hS hc.1 hc.2
noncomputable def f_Bits_initR (F : Nat) : Option (Unit) :=
some ()
set_option maxHeartbeats 4000000 in
set_option maxRecDepth 100000 in
theorem c_Bits_initR (l : Launch) (dC : Nat → ClassId) (dI : Nat → Nat → Nat) (tI tB tL tZ : ClassId) (a_t : Nat) (sz : Nat) (F : Nat) (u : Unit) (hf : f_Bits_initR F  = some u) : CTv l y_Bits_init b_Bits_init 1 1 12 (dC, dI) classes [(tI, .int), (tB, .byte), (tL, .long), (tZ, .boolean)] [.ref a_t] [(a_t, .inr (3, [.null, .int 0, .int 0, .int 0, .int 0, .int 0, .int 0]))] sz (fun q : Unit => [(a_t, .inr (3, [.null, .int 0, .int 0, .int 0, .int 0, .int 0, .int 0]))]) 0 0 := by
  refine mk_v (by decide) (Nat.le_of_ble_eq_true rfl) ?_
  intro p e s m args below meth c ls A Q hx hb hml hts hown hin hK hN hP hD hA hl ret
  obtain ⟨H, hH⟩ : ∃ H : Heap, H = s.heap := ⟨_, rfl⟩
  have hS : va_S A s.heap H [] := by rw [hH]; exact va_S.rf
  rw [← hH] at hP ⊢
  have hl : lv_has ls 1 [(0, .ref a_t)] := hl
  have hc : 0 ≤ 0 ∧ 0 ≤ 0 := ⟨Nat.le_refl 0, Nat.le_refl 0⟩
  unfold f_Bits_initR at hf
  refine lv_aload_n hx hb d_Bits_init_0 rfl (lv_at hl 0 rfl) ?_
  refine W.objInit hx hb hown (hts _ q_30) (hts _ q_22) (hts _ q_23) rfl (by rw [hml]; exact hl.1) rfl d_Bits_init_1 (Nat.le_of_ble_eq_true rfl) (Nat.le_of_ble_eq_true rfl) ?_
  refine W.eq (g2 := F0 m 4 ls []) rfl ?_
  have hf := Option.some.inj hf
  subst u
  exact ret _ _ _ _ _ _ () d_Bits_init_4 hP hD hS hc.1 hc.2
noncomputable def f_Sink_init (F : Nat) : Option (Unit) :=
bd (f_Bits_initW F) fun u2 =>
some ()
set_option maxHeartbeats 4000000 in
set_option maxRecDepth 100000 in
theorem c_Sink_init (l : Launch) (dC : Nat → ClassId) (dI : Nat → Nat → Nat) (tI tB tL tZ : ClassId) (a_t : Nat) (o_p0 : Nat) (sz : Nat) (F : Nat) (u : Unit) (hf : f_Sink_init F  = some u) : CTv l y_Sink_init b_Sink_init 2 2 32 (dC, dI) classes [(tI, .int), (tB, .byte), (tL, .long), (tZ, .boolean)] [.ref a_t, .ref o_p0] [(a_t, .inr (2, [.null, .int 0, .int 0]))] sz (fun q : Unit => [(a_t, .inr (2, [.ref o_p0, .int 0, .int 0]))]) 0 0 := by
  refine mk_v (by decide) (Nat.le_of_ble_eq_true rfl) ?_
  intro p e s m args below meth c ls A Q hx hb hml hts hown hin hK hN hP hD hA hl ret
  obtain ⟨H, hH⟩ : ∃ H : Heap, H = s.heap := ⟨_, rfl⟩
  have hS : va_S A s.heap H [] := by rw [hH]; exact va_S.rf
  rw [← hH] at hP ⊢
  have hl : lv_has ls 2 [(0, .ref a_t), (1, .ref o_p0)] := hl
  have hc : 0 ≤ 0 ∧ 0 ≤ 0 := ⟨Nat.le_refl 0, Nat.le_refl 0⟩
  unfold f_Sink_init at hf
  refine lv_aload_n hx hb d_Sink_init_0 rfl (lv_at hl 0 rfl) ?_
  obtain ⟨u2, hu, hf⟩ := bd_of hf
  refine jn_v (wc := [(a_t, .inr (2, [.null, .int 0, .int 0]))]) (wr := []) (va_runI (As := []) (rest := []) ⟨hx, hb, hml, hown, hts⟩ (c_Bits_initW l dC dI tI tB tL tZ a_t H.size F u2 hu) (ci_of hts q_33 q_32 q_31 q_34 rfl hd_Bits_init ⟨Nat.le_of_ble_eq_true rfl, Nat.le_of_ble_eq_true rfl⟩) (pr_S hK hN (hP.sub [0] rfl) (hD.sub [0] (by decide) rfl)) rfl rfl hl.1 rfl (lv_room (Nat.le_of_ble_eq_true rfl)) d_Sink_init_1 hc) hP hD hS hA [0] [] rfl rfl (by decide) (by decide) (fun _ H locs hP hD hS => ?_)
  have hP : va_P (dC, dI) classes [(a_t, .inr (2, [.null, .int 0, .int 0]))] H := hP
  have hD : va_D A [(a_t, .inr (2, [.null, .int 0, .int 0]))] := hD
  refine lv_aload_n hx hb d_Sink_init_4 rfl (lv_at hl 0 rfl) ?_
  refine lv_aload_n hx hb d_Sink_init_5 rfl (lv_at hl 1 rfl) ?_
  refine va_putF (D := (dC, dI)) (ci := 2) (v := .ref o_p0) (ty := t_Sink 0) (C := R_Sink) (T := F_Sink) (N := 3) hx hb hts i_Sink t_Sink t_Sink_ok n_Sink hown hK hP hD hS 0 rfl rfl 0 (by decide) (hts _ q_35) (fun _ h9 => h9) rfl hin rfl (t_Sink_ok 0 (by decide)) rfl rfl (Nat.le_of_ble_eq_true rfl) d_Sink_init_6 (fun H locs hP hD hS => ?_)
  have hP : va_P (dC, dI) classes [(a_t, .inr (2, [.ref o_p0, .int 0, .int 0]))] H := hP
  have hD : va_D A [(a_t, .inr (2, [.ref o_p0, .int 0, .int 0]))] := hD
  have hf := Option.some.inj hf
  subst u
  exact ret _ _ _ _ _ _ () d_Sink_init_9 hP hD hS hc.1 hc.2
noncomputable def f_Sink_open (F : Nat) : Option (Int32 × Int32) :=
some (0, 8)
set_option maxHeartbeats 4000000 in
set_option maxRecDepth 100000 in
theorem c_Sink_open (l : Launch) (dC : Nat → ClassId) (dI : Nat → Nat → Nat) (tI tB tL tZ : ClassId) (a_t : Nat) (o_t_store : Nat) (sz : Nat) (t_gathered : Int32) (t_room : Int32) (F : Nat) (u : Int32 × Int32) (hf : f_Sink_open F  = some u) : CTv l y_Sink_open b_Sink_open 1 0 0 (dC, dI) classes [(tI, .int), (tB, .byte), (tL, .long), (tZ, .boolean)] [.ref a_t] [(a_t, .inr (2, [.ref o_t_store, .int t_gathered, .int t_room]))] sz (fun q : Unit => [(a_t, .inr (2, [.ref o_t_store, .int u.1, .int u.2]))]) 0 0 := by
  refine mk_v (by decide) (Nat.le_of_ble_eq_true rfl) ?_
  intro p e s m args below meth c ls A Q hx hb hml hts hown hin hK hN hP hD hA hl ret
  obtain ⟨H, hH⟩ : ∃ H : Heap, H = s.heap := ⟨_, rfl⟩
  have hS : va_S A s.heap H [] := by rw [hH]; exact va_S.rf
  rw [← hH] at hP ⊢
  have hl : lv_has ls 1 [(0, .ref a_t)] := hl
  have hc : 0 ≤ 0 ∧ 0 ≤ 0 := ⟨Nat.le_refl 0, Nat.le_refl 0⟩
  unfold f_Sink_open at hf
  refine lv_aload_n hx hb d_Sink_open_0 rfl (lv_at hl 0 rfl) ?_
  refine lv_iconst (v := 0) hx hb d_Sink_open_1 (by decide) ?_
  refine va_put (D := (dC, dI)) (ci := 2) (v := .int 0) (ty := .int) (C := R_Sink) (T := F_Sink) (N := 3) hx hb hts i_Sink t_Sink t_Sink_ok n_Sink hown hK hP hD hS 0 rfl rfl 1 (by decide) (hts _ q_36) (fun _ h9 => h9) rfl (t_Sink_ok 1 (by decide)) rfl rfl (Nat.le_of_ble_eq_true rfl) d_Sink_open_2 (fun H locs hP hD hS => ?_)
  have hP : va_P (dC, dI) classes [(a_t, .inr (2, [.ref o_t_store, .int 0, .int t_room]))] H := hP
  have hD : va_D A [(a_t, .inr (2, [.ref o_t_store, .int 0, .int t_room]))] := hD
  refine lv_aload_n hx hb d_Sink_open_5 rfl (lv_at hl 0 rfl) ?_
  refine lv_bipush (v := 8) hx hb d_Sink_open_6 (by decide) ?_
  refine va_put (D := (dC, dI)) (ci := 2) (v := .int 8) (ty := .int) (C := R_Sink) (T := F_Sink) (N := 3) hx hb hts i_Sink t_Sink t_Sink_ok n_Sink hown hK hP hD hS 0 rfl rfl 2 (by decide) (hts _ q_37) (fun _ h9 => h9) rfl (t_Sink_ok 2 (by decide)) rfl rfl (Nat.le_of_ble_eq_true rfl) d_Sink_open_8 (fun H locs hP hD hS => ?_)
  have hP : va_P (dC, dI) classes [(a_t, .inr (2, [.ref o_t_store, .int 0, .int 8]))] H := hP
  have hD : va_D A [(a_t, .inr (2, [.ref o_t_store, .int 0, .int 8]))] := hD
  have hf := Option.some.inj hf
  subst u
  exact ret _ _ _ _ _ _ () d_Sink_open_11 hP hD hS hc.1 hc.2
noncomputable def g_Sink_bit_66 (F : Nat) (t_gathered : Int32) (t_room : Int32) (t_store_count : Int32) (t_store_row_N : Nat) (t_store_row_F : Nat → Int32) (v1 : Int32) : Option (Nat × Nat × Int32 × Int32 × Int32 × Int32 × Nat × (Nat → Int32)) :=
some (0, 0, v1, t_gathered, t_room, t_store_count, t_store_row_N, t_store_row_F)
noncomputable def g_Sink_bit_58 (F : Nat) (t_gathered : Int32) (t_room : Int32) (t_store_count : Int32) (t_store_row_N : Nat) (t_store_row_F : Nat → Int32) (v1 : Int32) (s0 : Int32) : Option (Nat × Nat × Int32 × Int32 × Int32 × Int32 × Nat × (Nat → Int32)) :=
g_Sink_bit_66 F 0 s0 t_store_count t_store_row_N t_store_row_F v1
noncomputable def f_Sink_bit (F : Nat) (t_gathered : Int32) (t_room : Int32) (t_store_count : Int32) (t_store_row_N : Nat) (t_store_row_F : Nat → Int32) (p0 : Int32) : Option (Nat × Nat × Int32 × Int32 × Int32 × Int32 × Nat × (Nat → Int32)) :=
letb (t_room - 1) fun x8 =>
letb (t_gathered * 2) fun x9 =>
letb (x9 + p0) fun x10 =>
if x8 = 0 then (
bd (f_Store_add F t_store_count t_store_row_N t_store_row_F x10) fun u11 =>
addc u11.1 u11.2.1 (
if x10 = 255 then (
g_Sink_bit_58 F x10 x8 u11.2.2.1 u11.2.2.2.1 u11.2.2.2.2 p0 7) else (
g_Sink_bit_58 F x10 x8 u11.2.2.1 u11.2.2.2.1 u11.2.2.2.2 p0 8))) else (
g_Sink_bit_66 F x10 x8 t_store_count t_store_row_N t_store_row_F p0)
set_option maxHeartbeats 4000000 in
set_option maxRecDepth 100000 in
theorem c_Sink_bit (l : Launch) (dC : Nat → ClassId) (dI : Nat → Nat → Nat) (tI tB tL tZ : ClassId) (a_t : Nat) (a_t_store : Nat) (a_t_store_row : Nat) (sz : Nat) (t_gathered : Int32) (t_room : Int32) (t_store_count : Int32) (t_store_row_N : Nat) (t_store_row_F : Nat → Int32) (p0 : Int32) (F : Nat) (nc ns : Nat) (u : Int32 × Int32 × Int32 × Int32 × Nat × (Nat → Int32)) (hf : f_Sink_bit F t_gathered t_room t_store_count t_store_row_N t_store_row_F p0 = some (nc, ns, u)) : CTi l y_Sink_bit b_Sink_bit 2 .int 3 83 (dC, dI) classes [(tI, .int), (tB, .byte), (tL, .long), (tZ, .boolean)] [.ref a_t, .int p0] [(a_t, .inr (2, [.ref a_t_store, .int t_gathered, .int t_room])), (a_t_store, .inr (4, [.ref a_t_store_row, .int t_store_count])), (a_t_store_row, .inl (tB, t_store_row_N, .inl t_store_row_F))] sz (fun q : Nat => [(a_t, .inr (2, [.ref a_t_store, .int u.2.1, .int u.2.2.1])), (a_t_store, .inr (4, [.ref q, .int u.2.2.2.1])), (q, .inl (tB, u.2.2.2.2.1, .inl u.2.2.2.2.2))]) (u.1) nc ns := by
  refine mk_i (by decide) (Nat.le_of_ble_eq_true rfl) ?_
  intro p e s m args below meth c ls A Q hx hb hml hts hown hin hK hN hP hD hA hl ret
  obtain ⟨H, hH⟩ : ∃ H : Heap, H = s.heap := ⟨_, rfl⟩
  have hS : va_S A s.heap H [] := by rw [hH]; exact va_S.rf
  rw [← hH] at hP ⊢
  have hl : lv_has ls 2 [(0, .ref a_t), (1, .int p0)] := hl
  have k_66 : ∀ (t_gathered : Int32) (t_room : Int32) (t_store_count : Int32) (t_store_row_N : Nat) (t_store_row_F : Nat → Int32) (v1 : Int32) (a_t_store_row : Nat) (H : Heap) (locs : List Loc) (cells slots nB sB : Nat) (ls : Array Slot), va_P (dC, dI) classes [(a_t, .inr (2, [.ref a_t_store, .int t_gathered, .int t_room])), (a_t_store, .inr (4, [.ref a_t_store_row, .int t_store_count])), (a_t_store_row, .inl (tB, t_store_row_N, .inl t_store_row_F))] H → va_D A [(a_t, .inr (2, [.ref a_t_store, .int t_gathered, .int t_room])), (a_t_store, .inr (4, [.ref a_t_store_row, .int t_store_count])), (a_t_store_row, .inl (tB, t_store_row_N, .inl t_store_row_F))] → va_S A s.heap H locs → lv_has ls 2 [(1, .int v1)] → (cells + nB ≤ nc ∧ slots + sB ≤ ns) → g_Sink_bit_66 F t_gathered t_room t_store_count t_store_row_N t_store_row_F v1 = some (nB, sB, u) → W p l e ({ frames := 3, cells := nc, slots := ns, locals := 83 } : Room) s m args below meth c H locs cells slots Q (F0 m 66 ls []) := by
    intro t_gathered t_room t_store_count t_store_row_N t_store_row_F v1 a_t_store_row H locs cells slots nB sB ls hP hD hS hl hc hf
    unfold g_Sink_bit_66 at hf
    refine lv_iload_n hx hb d_Sink_bit_66 rfl (lv_at hl 0 rfl) ?_
    have hf := Option.some.inj hf
    have hf : _ = u := congrArg (fun z => z.2.2) hf
    subst u
    exact ret _ _ _ _ _ _ a_t_store_row d_Sink_bit_67 rfl hP hD hS (Nat.le_trans (Nat.le_add_right _ _) hc.1) (Nat.le_trans (Nat.le_add_right _ _) hc.2)
  have k_58 : ∀ (t_gathered : Int32) (t_room : Int32) (t_store_count : Int32) (t_store_row_N : Nat) (t_store_row_F : Nat → Int32) (v1 : Int32) (s0 : Int32) (a_t_store_row : Nat) (H : Heap) (locs : List Loc) (cells slots nB sB : Nat) (ls : Array Slot), va_P (dC, dI) classes [(a_t, .inr (2, [.ref a_t_store, .int t_gathered, .int t_room])), (a_t_store, .inr (4, [.ref a_t_store_row, .int t_store_count])), (a_t_store_row, .inl (tB, t_store_row_N, .inl t_store_row_F))] H → va_D A [(a_t, .inr (2, [.ref a_t_store, .int t_gathered, .int t_room])), (a_t_store, .inr (4, [.ref a_t_store_row, .int t_store_count])), (a_t_store_row, .inl (tB, t_store_row_N, .inl t_store_row_F))] → va_S A s.heap H locs → lv_has ls 2 [(0, .ref a_t), (1, .int v1)] → (cells + nB ≤ nc ∧ slots + sB ≤ ns) → g_Sink_bit_58 F t_gathered t_room t_store_count t_store_row_N t_store_row_F v1 s0 = some (nB, sB, u) → W p l e ({ frames := 3, cells := nc, slots := ns, locals := 83 } : Room) s m args below meth c H locs cells slots Q (F0 m 58 ls [.int s0, .ref a_t]) := by
    intro t_gathered t_room t_store_count t_store_row_N t_store_row_F v1 s0 a_t_store_row H locs cells slots nB sB ls hP hD hS hl hc hf
    unfold g_Sink_bit_58 at hf
    refine va_put (D := (dC, dI)) (ci := 2) (v := .int s0) (ty := .int) (C := R_Sink) (T := F_Sink) (N := 3) hx hb hts i_Sink t_Sink t_Sink_ok n_Sink hown hK hP hD hS 0 rfl rfl 2 (by decide) (hts _ q_37) (fun _ h9 => h9) rfl (t_Sink_ok 2 (by decide)) rfl rfl (Nat.le_of_ble_eq_true rfl) d_Sink_bit_58 (fun H locs hP hD hS => ?_)
    have hP : va_P (dC, dI) classes [(a_t, .inr (2, [.ref a_t_store, .int t_gathered, .int s0])), (a_t_store, .inr (4, [.ref a_t_store_row, .int t_store_count])), (a_t_store_row, .inl (tB, t_store_row_N, .inl t_store_row_F))] H := hP
    have hD : va_D A [(a_t, .inr (2, [.ref a_t_store, .int t_gathered, .int s0])), (a_t_store, .inr (4, [.ref a_t_store_row, .int t_store_count])), (a_t_store_row, .inl (tB, t_store_row_N, .inl t_store_row_F))] := hD
    refine lv_aload_n hx hb d_Sink_bit_61 rfl (lv_at hl 0 rfl) ?_
    refine lv_iconst (v := 0) hx hb d_Sink_bit_62 (by decide) ?_
    refine va_put (D := (dC, dI)) (ci := 2) (v := .int 0) (ty := .int) (C := R_Sink) (T := F_Sink) (N := 3) hx hb hts i_Sink t_Sink t_Sink_ok n_Sink hown hK hP hD hS 0 rfl rfl 1 (by decide) (hts _ q_36) (fun _ h9 => h9) rfl (t_Sink_ok 1 (by decide)) rfl rfl (Nat.le_of_ble_eq_true rfl) d_Sink_bit_63 (fun H locs hP hD hS => ?_)
    have hP : va_P (dC, dI) classes [(a_t, .inr (2, [.ref a_t_store, .int 0, .int s0])), (a_t_store, .inr (4, [.ref a_t_store_row, .int t_store_count])), (a_t_store_row, .inl (tB, t_store_row_N, .inl t_store_row_F))] H := hP
    have hD : va_D A [(a_t, .inr (2, [.ref a_t_store, .int 0, .int s0])), (a_t_store, .inr (4, [.ref a_t_store_row, .int t_store_count])), (a_t_store_row, .inl (tB, t_store_row_N, .inl t_store_row_F))] := hD
    exact k_66 0 s0 t_store_count t_store_row_N t_store_row_F v1 a_t_store_row _ _ _ _ _ _ ls hP hD hS (lv_sub hl [1] rfl) hc hf
  have hc : 0 + nc ≤ nc ∧ 0 + ns ≤ ns := ⟨by omega, by omega⟩
  unfold f_Sink_bit at hf
  refine lv_aload_n hx hb d_Sink_bit_0 rfl (lv_at hl 0 rfl) ?_
  refine lv_dup hx hb d_Sink_bit_1 rfl ?_
  refine va_get (D := (dC, dI)) (ci := 2) (v := .int t_room) (C := R_Sink) (T := F_Sink) (N := 3) hx hb hts i_Sink hown hK hP 0 rfl rfl 2 (by decide) (hts _ q_37) (fun _ h9 => h9) rfl d_Sink_bit_2 ?_
  refine lv_iconst (v := 1) hx hb d_Sink_bit_5 (by decide) ?_
  refine lv_isub hx hb d_Sink_bit_6 ?_
  refine lv_topi (fun x8 ex8 => ?_)
  have hf := letb_of hf ex8
  refine va_put (D := (dC, dI)) (ci := 2) (v := .int x8) (ty := .int) (C := R_Sink) (T := F_Sink) (N := 3) hx hb hts i_Sink t_Sink t_Sink_ok n_Sink hown hK hP hD hS 0 rfl rfl 2 (by decide) (hts _ q_37) (fun _ h9 => h9) rfl (t_Sink_ok 2 (by decide)) rfl rfl (Nat.le_of_ble_eq_true rfl) d_Sink_bit_7 (fun H locs hP hD hS => ?_)
  have hP : va_P (dC, dI) classes [(a_t, .inr (2, [.ref a_t_store, .int t_gathered, .int x8])), (a_t_store, .inr (4, [.ref a_t_store_row, .int t_store_count])), (a_t_store_row, .inl (tB, t_store_row_N, .inl t_store_row_F))] H := hP
  have hD : va_D A [(a_t, .inr (2, [.ref a_t_store, .int t_gathered, .int x8])), (a_t_store, .inr (4, [.ref a_t_store_row, .int t_store_count])), (a_t_store_row, .inl (tB, t_store_row_N, .inl t_store_row_F))] := hD
  refine lv_aload_n hx hb d_Sink_bit_10 rfl (lv_at hl 0 rfl) ?_
  refine lv_aload_n hx hb d_Sink_bit_11 rfl (lv_at hl 0 rfl) ?_
  refine va_get (D := (dC, dI)) (ci := 2) (v := .int t_gathered) (C := R_Sink) (T := F_Sink) (N := 3) hx hb hts i_Sink hown hK hP 0 rfl rfl 1 (by decide) (hts _ q_36) (fun _ h9 => h9) rfl d_Sink_bit_12 ?_
  refine lv_iconst (v := 2) hx hb d_Sink_bit_15 (by decide) ?_
  refine lv_imul hx hb d_Sink_bit_16 ?_
  refine lv_topi (fun x9 ex9 => ?_)
  have hf := letb_of hf ex9
  refine lv_iload_n hx hb d_Sink_bit_17 rfl (lv_at hl 1 rfl) ?_
  refine lv_iadd hx hb d_Sink_bit_18 ?_
  refine lv_topi (fun x10 ex10 => ?_)
  have hf := letb_of hf ex10
  refine va_put (D := (dC, dI)) (ci := 2) (v := .int x10) (ty := .int) (C := R_Sink) (T := F_Sink) (N := 3) hx hb hts i_Sink t_Sink t_Sink_ok n_Sink hown hK hP hD hS 0 rfl rfl 1 (by decide) (hts _ q_36) (fun _ h9 => h9) rfl (t_Sink_ok 1 (by decide)) rfl rfl (Nat.le_of_ble_eq_true rfl) d_Sink_bit_19 (fun H locs hP hD hS => ?_)
  have hP : va_P (dC, dI) classes [(a_t, .inr (2, [.ref a_t_store, .int x10, .int x8])), (a_t_store, .inr (4, [.ref a_t_store_row, .int t_store_count])), (a_t_store_row, .inl (tB, t_store_row_N, .inl t_store_row_F))] H := hP
  have hD : va_D A [(a_t, .inr (2, [.ref a_t_store, .int x10, .int x8])), (a_t_store, .inr (4, [.ref a_t_store_row, .int t_store_count])), (a_t_store_row, .inl (tB, t_store_row_N, .inl t_store_row_F))] := hD
  refine lv_aload_n hx hb d_Sink_bit_22 rfl (lv_at hl 0 rfl) ?_
  refine va_get (D := (dC, dI)) (ci := 2) (v := .int x8) (C := R_Sink) (T := F_Sink) (N := 3) hx hb hts i_Sink hown hK hP 0 rfl rfl 2 (by decide) (hts _ q_37) (fun _ h9 => h9) rfl d_Sink_bit_23 ?_
  refine lv_if_ne (tgt := 66) hx hb d_Sink_bit_26 (by decide) (fun c0 => ?_) (fun c0 => ?_)
  · have hf := ite_f c0 hf
    exact k_66 x10 x8 t_store_count t_store_row_N t_store_row_F p0 a_t_store_row _ _ _ _ _ _ ls hP hD hS (lv_sub hl [1] rfl) hc hf
  · have hf := ite_t c0 hf
    refine lv_aload_n hx hb d_Sink_bit_29 rfl (lv_at hl 0 rfl) ?_
    refine va_get (D := (dC, dI)) (ci := 2) (v := .ref a_t_store) (C := R_Sink) (T := F_Sink) (N := 3) hx hb hts i_Sink hown hK hP 0 rfl rfl 0 (by decide) (hts _ q_35) (fun _ h9 => h9) rfl d_Sink_bit_30 ?_
    refine lv_aload_n hx hb d_Sink_bit_33 rfl (lv_at hl 0 rfl) ?_
    refine va_get (D := (dC, dI)) (ci := 2) (v := .int x10) (C := R_Sink) (T := F_Sink) (N := 3) hx hb hts i_Sink hown hK hP 0 rfl rfl 1 (by decide) (hts _ q_36) (fun _ h9 => h9) rfl d_Sink_bit_34 ?_
    obtain ⟨u11, hu, hf⟩ := bd_of hf
    obtain ⟨nB12, sB13, hf, ha9, hb9⟩ := addc_of hf
    have hcc : 0 + u11.1 ≤ nc ∧ 0 + u11.2.1 ≤ ns := ⟨by omega, by omega⟩
    have hc : 0 + u11.1 + nB12 ≤ nc ∧ 0 + u11.2.1 + sB13 ≤ ns := ⟨by omega, by omega⟩
    refine jn_v (wc := [(a_t_store, .inr (4, [.ref a_t_store_row, .int t_store_count])), (a_t_store_row, .inl (tB, t_store_row_N, .inl t_store_row_F))]) (wr := [(a_t, .inr (2, [.ref a_t_store, .int x10, .int x8]))]) (va_runV (As := [.int x10]) (rest := []) ⟨hx, hb, hml, hown, hts⟩ (c_Store_add l dC dI tI tB tL tZ a_t_store a_t_store_row H.size t_store_count t_store_row_N t_store_row_F x10 F u11.1 u11.2.1 u11.2.2 hu) (cv_of hts q_40 q_39 q_38 q_41 q_42 hd_Store_add ⟨Nat.le_of_ble_eq_true rfl, Nat.le_of_ble_eq_true rfl⟩) (pr_V (ci := 4) (C := R_Store) (q0 := 0) hK hN (hP.sub [1, 2] rfl) (hD.sub [1, 2] (by decide) rfl) rfl rfl) rfl rfl hl.1 rfl (lv_room (Nat.le_of_ble_eq_true rfl)) d_Sink_bit_37 hcc) hP hD hS hA [1, 2] [0] rfl rfl (by decide) (by decide) (fun ad14 H locs hP hD hS => ?_)
    have hP : va_P (dC, dI) classes [(a_t, .inr (2, [.ref a_t_store, .int x10, .int x8])), (a_t_store, .inr (4, [.ref ad14, .int u11.2.2.1])), (ad14, .inl (tB, u11.2.2.2.1, .inl u11.2.2.2.2))] H := hP
    have hD : va_D A [(a_t, .inr (2, [.ref a_t_store, .int x10, .int x8])), (a_t_store, .inr (4, [.ref ad14, .int u11.2.2.1])), (ad14, .inl (tB, u11.2.2.2.1, .inl u11.2.2.2.2))] := hD
    refine lv_aload_n hx hb d_Sink_bit_40 rfl (lv_at hl 0 rfl) ?_
    refine lv_aload_n hx hb d_Sink_bit_41 rfl (lv_at hl 0 rfl) ?_
    refine va_get (D := (dC, dI)) (ci := 2) (v := .int x10) (C := R_Sink) (T := F_Sink) (N := 3) hx hb hts i_Sink hown hK hP 0 rfl rfl 1 (by decide) (hts _ q_36) (fun _ h9 => h9) rfl d_Sink_bit_42 ?_
    refine lv_sipush (v := 255) hx hb d_Sink_bit_45 (by decide) ?_
    refine lv_icmp_ne (tgt := 56) hx hb d_Sink_bit_48 (by decide) (fun c0 => ?_) (fun c0 => ?_)
    · have hf := ite_f c0 hf
      refine lv_bipush (v := 8) hx hb d_Sink_bit_56 (by decide) ?_
      exact k_58 x10 x8 u11.2.2.1 u11.2.2.2.1 u11.2.2.2.2 p0 8 ad14 _ _ _ _ _ _ ls hP hD hS hl hc hf
    · have hf := ite_t c0 hf
      refine lv_bipush (v := 7) hx hb d_Sink_bit_51 (by decide) ?_
      refine lv_goto (tgt := 58) hx hb d_Sink_bit_53 (by decide) ?_
      exact k_58 x10 x8 u11.2.2.1 u11.2.2.2.1 u11.2.2.2.2 p0 7 ad14 _ _ _ _ _ _ ls hP hD hS hl hc hf
noncomputable def g_Sink_close_25 (F : Nat) (t_store_count : Int32) (t_store_row_N : Nat) (t_store_row_F : Nat → Int32) : Option (Nat × Nat × Int32 × Nat × (Nat → Int32)) :=
some (0, 0, t_store_count, t_store_row_N, t_store_row_F)
noncomputable def f_Sink_close (F : Nat) (t_gathered : Int32) (t_room : Int32) (t_store_count : Int32) (t_store_row_N : Nat) (t_store_row_F : Nat → Int32) : Option (Nat × Nat × Int32 × Nat × (Nat → Int32)) :=
if 8 ≤ t_room then (
g_Sink_close_25 F t_store_count t_store_row_N t_store_row_F) else (
letb (t_gathered <<< (t_room &&& 31)) fun x6 =>
bd (f_Store_add F t_store_count t_store_row_N t_store_row_F x6) fun u7 =>
addc u7.1 u7.2.1 (
g_Sink_close_25 F u7.2.2.1 u7.2.2.2.1 u7.2.2.2.2))
set_option maxHeartbeats 4000000 in
set_option maxRecDepth 100000 in
theorem c_Sink_close (l : Launch) (dC : Nat → ClassId) (dI : Nat → Nat → Nat) (tI tB tL tZ : ClassId) (a_t : Nat) (a_t_store : Nat) (a_t_store_row : Nat) (sz : Nat) (t_gathered : Int32) (t_room : Int32) (t_store_count : Int32) (t_store_row_N : Nat) (t_store_row_F : Nat → Int32) (F : Nat) (nc ns : Nat) (u : Int32 × Nat × (Nat → Int32)) (hf : f_Sink_close F t_gathered t_room t_store_count t_store_row_N t_store_row_F = some (nc, ns, u)) : CTv l y_Sink_close b_Sink_close 1 3 83 (dC, dI) classes [(tI, .int), (tB, .byte), (tL, .long), (tZ, .boolean)] [.ref a_t] [(a_t, .inr (2, [.ref a_t_store, .int t_gathered, .int t_room])), (a_t_store, .inr (4, [.ref a_t_store_row, .int t_store_count])), (a_t_store_row, .inl (tB, t_store_row_N, .inl t_store_row_F))] sz (fun q : Nat => [(a_t, .inr (2, [.ref a_t_store, .int t_gathered, .int t_room])), (a_t_store, .inr (4, [.ref q, .int u.1])), (q, .inl (tB, u.2.1, .inl u.2.2))]) nc ns := by
  refine mk_v (by decide) (Nat.le_of_ble_eq_true rfl) ?_
  intro p e s m args below meth c ls A Q hx hb hml hts hown hin hK hN hP hD hA hl ret
  obtain ⟨H, hH⟩ : ∃ H : Heap, H = s.heap := ⟨_, rfl⟩
  have hS : va_S A s.heap H [] := by rw [hH]; exact va_S.rf
  rw [← hH] at hP ⊢
  have hl : lv_has ls 1 [(0, .ref a_t)] := hl
  have k_25 : ∀ (t_store_count : Int32) (t_store_row_N : Nat) (t_store_row_F : Nat → Int32) (a_t_store_row : Nat) (H : Heap) (locs : List Loc) (cells slots nB sB : Nat) (ls : Array Slot), va_P (dC, dI) classes [(a_t, .inr (2, [.ref a_t_store, .int t_gathered, .int t_room])), (a_t_store, .inr (4, [.ref a_t_store_row, .int t_store_count])), (a_t_store_row, .inl (tB, t_store_row_N, .inl t_store_row_F))] H → va_D A [(a_t, .inr (2, [.ref a_t_store, .int t_gathered, .int t_room])), (a_t_store, .inr (4, [.ref a_t_store_row, .int t_store_count])), (a_t_store_row, .inl (tB, t_store_row_N, .inl t_store_row_F))] → va_S A s.heap H locs → lv_has ls 1 [] → (cells + nB ≤ nc ∧ slots + sB ≤ ns) → g_Sink_close_25 F t_store_count t_store_row_N t_store_row_F = some (nB, sB, u) → W p l e ({ frames := 3, cells := nc, slots := ns, locals := 83 } : Room) s m args below meth c H locs cells slots Q (F0 m 25 ls []) := by
    intro t_store_count t_store_row_N t_store_row_F a_t_store_row H locs cells slots nB sB ls hP hD hS hl hc hf
    unfold g_Sink_close_25 at hf
    have hf := Option.some.inj hf
    have hf : _ = u := congrArg (fun z => z.2.2) hf
    subst u
    exact ret _ _ _ _ _ _ a_t_store_row d_Sink_close_25 hP hD hS (Nat.le_trans (Nat.le_add_right _ _) hc.1) (Nat.le_trans (Nat.le_add_right _ _) hc.2)
  have hc : 0 + nc ≤ nc ∧ 0 + ns ≤ ns := ⟨by omega, by omega⟩
  unfold f_Sink_close at hf
  refine lv_aload_n hx hb d_Sink_close_0 rfl (lv_at hl 0 rfl) ?_
  refine va_get (D := (dC, dI)) (ci := 2) (v := .int t_room) (C := R_Sink) (T := F_Sink) (N := 3) hx hb hts i_Sink hown hK hP 0 rfl rfl 2 (by decide) (hts _ q_37) (fun _ h9 => h9) rfl d_Sink_close_1 ?_
  refine lv_bipush (v := 8) hx hb d_Sink_close_4 (by decide) ?_
  refine lv_icmp_ge (tgt := 25) hx hb d_Sink_close_6 (by decide) (fun c0 => ?_) (fun c0 => ?_)
  · have hf := ite_t c0 hf
    exact k_25 t_store_count t_store_row_N t_store_row_F a_t_store_row _ _ _ _ _ _ ls hP hD hS (lv_sub hl [] rfl) hc hf
  · have hf := ite_f c0 hf
    refine lv_aload_n hx hb d_Sink_close_9 rfl (lv_at hl 0 rfl) ?_
    refine va_get (D := (dC, dI)) (ci := 2) (v := .ref a_t_store) (C := R_Sink) (T := F_Sink) (N := 3) hx hb hts i_Sink hown hK hP 0 rfl rfl 0 (by decide) (hts _ q_35) (fun _ h9 => h9) rfl d_Sink_close_10 ?_
    refine lv_aload_n hx hb d_Sink_close_13 rfl (lv_at hl 0 rfl) ?_
    refine va_get (D := (dC, dI)) (ci := 2) (v := .int t_gathered) (C := R_Sink) (T := F_Sink) (N := 3) hx hb hts i_Sink hown hK hP 0 rfl rfl 1 (by decide) (hts _ q_36) (fun _ h9 => h9) rfl d_Sink_close_14 ?_
    refine lv_aload_n hx hb d_Sink_close_17 rfl (lv_at hl 0 rfl) ?_
    refine va_get (D := (dC, dI)) (ci := 2) (v := .int t_room) (C := R_Sink) (T := F_Sink) (N := 3) hx hb hts i_Sink hown hK hP 0 rfl rfl 2 (by decide) (hts _ q_37) (fun _ h9 => h9) rfl d_Sink_close_18 ?_
    refine lv_ishl hx hb d_Sink_close_21 ?_
    refine lv_topi (fun x6 ex6 => ?_)
    have hf := letb_of hf ex6
    obtain ⟨u7, hu, hf⟩ := bd_of hf
    obtain ⟨nB8, sB9, hf, ha9, hb9⟩ := addc_of hf
    have hcc : 0 + u7.1 ≤ nc ∧ 0 + u7.2.1 ≤ ns := ⟨by omega, by omega⟩
    have hc : 0 + u7.1 + nB8 ≤ nc ∧ 0 + u7.2.1 + sB9 ≤ ns := ⟨by omega, by omega⟩
    refine jn_v (wc := [(a_t_store, .inr (4, [.ref a_t_store_row, .int t_store_count])), (a_t_store_row, .inl (tB, t_store_row_N, .inl t_store_row_F))]) (wr := [(a_t, .inr (2, [.ref a_t_store, .int t_gathered, .int t_room]))]) (va_runV (As := [.int x6]) (rest := []) ⟨hx, hb, hml, hown, hts⟩ (c_Store_add l dC dI tI tB tL tZ a_t_store a_t_store_row H.size t_store_count t_store_row_N t_store_row_F x6 F u7.1 u7.2.1 u7.2.2 hu) (cv_of hts q_40 q_39 q_38 q_41 q_42 hd_Store_add ⟨Nat.le_of_ble_eq_true rfl, Nat.le_of_ble_eq_true rfl⟩) (pr_V (ci := 4) (C := R_Store) (q0 := 0) hK hN (hP.sub [1, 2] rfl) (hD.sub [1, 2] (by decide) rfl) rfl rfl) rfl rfl hl.1 rfl (lv_room (Nat.le_of_ble_eq_true rfl)) d_Sink_close_22 hcc) hP hD hS hA [1, 2] [0] rfl rfl (by decide) (by decide) (fun ad10 H locs hP hD hS => ?_)
    have hP : va_P (dC, dI) classes [(a_t, .inr (2, [.ref a_t_store, .int t_gathered, .int t_room])), (a_t_store, .inr (4, [.ref ad10, .int u7.2.2.1])), (ad10, .inl (tB, u7.2.2.2.1, .inl u7.2.2.2.2))] H := hP
    have hD : va_D A [(a_t, .inr (2, [.ref a_t_store, .int t_gathered, .int t_room])), (a_t_store, .inr (4, [.ref ad10, .int u7.2.2.1])), (ad10, .inl (tB, u7.2.2.2.1, .inl u7.2.2.2.2))] := hD
    exact k_25 u7.2.2.1 u7.2.2.2.1 u7.2.2.2.2 ad10 _ _ _ _ _ _ ls hP hD hS (lv_sub hl [] rfl) hc hf
noncomputable def f_Source_init (F : Nat) : Option (Unit) :=
bd (f_Bits_initR F) fun u2 =>
some ()
set_option maxHeartbeats 4000000 in
set_option maxRecDepth 100000 in
theorem c_Source_init (l : Launch) (dC : Nat → ClassId) (dI : Nat → Nat → Nat) (tI tB tL tZ : ClassId) (a_t : Nat) (o_p0 : Nat) (sz : Nat) (F : Nat) (u : Unit) (hf : f_Source_init F  = some u) : CTv l y_Source_init b_Source_init 2 2 32 (dC, dI) classes [(tI, .int), (tB, .byte), (tL, .long), (tZ, .boolean)] [.ref a_t, .ref o_p0] [(a_t, .inr (3, [.null, .int 0, .int 0, .int 0, .int 0, .int 0, .int 0]))] sz (fun q : Unit => [(a_t, .inr (3, [.ref o_p0, .int 0, .int 0, .int 0, .int 0, .int 0, .int 0]))]) 0 0 := by
  refine mk_v (by decide) (Nat.le_of_ble_eq_true rfl) ?_
  intro p e s m args below meth c ls A Q hx hb hml hts hown hin hK hN hP hD hA hl ret
  obtain ⟨H, hH⟩ : ∃ H : Heap, H = s.heap := ⟨_, rfl⟩
  have hS : va_S A s.heap H [] := by rw [hH]; exact va_S.rf
  rw [← hH] at hP ⊢
  have hl : lv_has ls 2 [(0, .ref a_t), (1, .ref o_p0)] := hl
  have hc : 0 ≤ 0 ∧ 0 ≤ 0 := ⟨Nat.le_refl 0, Nat.le_refl 0⟩
  unfold f_Source_init at hf
  refine lv_aload_n hx hb d_Source_init_0 rfl (lv_at hl 0 rfl) ?_
  obtain ⟨u2, hu, hf⟩ := bd_of hf
  refine jn_v (wc := [(a_t, .inr (3, [.null, .int 0, .int 0, .int 0, .int 0, .int 0, .int 0]))]) (wr := []) (va_runI (As := []) (rest := []) ⟨hx, hb, hml, hown, hts⟩ (c_Bits_initR l dC dI tI tB tL tZ a_t H.size F u2 hu) (ci_of hts q_43 q_32 q_31 q_34 rfl hd_Bits_init ⟨Nat.le_of_ble_eq_true rfl, Nat.le_of_ble_eq_true rfl⟩) (pr_S hK hN (hP.sub [0] rfl) (hD.sub [0] (by decide) rfl)) rfl rfl hl.1 rfl (lv_room (Nat.le_of_ble_eq_true rfl)) d_Source_init_1 hc) hP hD hS hA [0] [] rfl rfl (by decide) (by decide) (fun _ H locs hP hD hS => ?_)
  have hP : va_P (dC, dI) classes [(a_t, .inr (3, [.null, .int 0, .int 0, .int 0, .int 0, .int 0, .int 0]))] H := hP
  have hD : va_D A [(a_t, .inr (3, [.null, .int 0, .int 0, .int 0, .int 0, .int 0, .int 0]))] := hD
  refine lv_aload_n hx hb d_Source_init_4 rfl (lv_at hl 0 rfl) ?_
  refine lv_aload_n hx hb d_Source_init_5 rfl (lv_at hl 1 rfl) ?_
  refine va_putF (D := (dC, dI)) (ci := 3) (v := .ref o_p0) (ty := t_Source 0) (C := R_Source) (T := F_Source) (N := 7) hx hb hts i_Source t_Source t_Source_ok n_Source hown hK hP hD hS 0 rfl rfl 0 (by decide) (hts _ q_44) (fun _ h9 => h9) rfl hin rfl (t_Source_ok 0 (by decide)) rfl rfl (Nat.le_of_ble_eq_true rfl) d_Source_init_6 (fun H locs hP hD hS => ?_)
  have hP : va_P (dC, dI) classes [(a_t, .inr (3, [.ref o_p0, .int 0, .int 0, .int 0, .int 0, .int 0, .int 0]))] H := hP
  have hD : va_D A [(a_t, .inr (3, [.ref o_p0, .int 0, .int 0, .int 0, .int 0, .int 0, .int 0]))] := hD
  have hf := Option.some.inj hf
  subst u
  exact ret _ _ _ _ _ _ () d_Source_init_9 hP hD hS hc.1 hc.2
noncomputable def f_Source_open (F : Nat) (p0 : Int32) (p1 : Int32) : Option (Int32 × Int32 × Int32 × Int32 × Int32 × Int32) :=
letb (p0 + p1) fun x2 =>
some (p0, p0, x2, 0, 0, 0)
set_option maxHeartbeats 4000000 in
set_option maxRecDepth 100000 in
theorem c_Source_open (l : Launch) (dC : Nat → ClassId) (dI : Nat → Nat → Nat) (tI tB tL tZ : ClassId) (a_t : Nat) (o_t_store : Nat) (sz : Nat) (t_start : Int32) (t_next : Int32) (t_end : Int32) (t_latest : Int32) (t_left : Int32) (t_lacking : Int32) (p0 : Int32) (p1 : Int32) (F : Nat) (u : Int32 × Int32 × Int32 × Int32 × Int32 × Int32) (hf : f_Source_open F p0 p1 = some u) : CTv l y_Source_open b_Source_open 3 0 0 (dC, dI) classes [(tI, .int), (tB, .byte), (tL, .long), (tZ, .boolean)] [.ref a_t, .int p0, .int p1] [(a_t, .inr (3, [.ref o_t_store, .int t_start, .int t_next, .int t_end, .int t_latest, .int t_left, .int t_lacking]))] sz (fun q : Unit => [(a_t, .inr (3, [.ref o_t_store, .int u.1, .int u.2.1, .int u.2.2.1, .int u.2.2.2.1, .int u.2.2.2.2.1, .int u.2.2.2.2.2]))]) 0 0 := by
  refine mk_v (by decide) (Nat.le_of_ble_eq_true rfl) ?_
  intro p e s m args below meth c ls A Q hx hb hml hts hown hin hK hN hP hD hA hl ret
  obtain ⟨H, hH⟩ : ∃ H : Heap, H = s.heap := ⟨_, rfl⟩
  have hS : va_S A s.heap H [] := by rw [hH]; exact va_S.rf
  rw [← hH] at hP ⊢
  have hl : lv_has ls 3 [(0, .ref a_t), (1, .int p0), (2, .int p1)] := hl
  have hc : 0 ≤ 0 ∧ 0 ≤ 0 := ⟨Nat.le_refl 0, Nat.le_refl 0⟩
  unfold f_Source_open at hf
  refine lv_aload_n hx hb d_Source_open_0 rfl (lv_at hl 0 rfl) ?_
  refine lv_iload_n hx hb d_Source_open_1 rfl (lv_at hl 1 rfl) ?_
  refine va_put (D := (dC, dI)) (ci := 3) (v := .int p0) (ty := .int) (C := R_Source) (T := F_Source) (N := 7) hx hb hts i_Source t_Source t_Source_ok n_Source hown hK hP hD hS 0 rfl rfl 1 (by decide) (hts _ q_45) (fun _ h9 => h9) rfl (t_Source_ok 1 (by decide)) rfl rfl (Nat.le_of_ble_eq_true rfl) d_Source_open_2 (fun H locs hP hD hS => ?_)
  have hP : va_P (dC, dI) classes [(a_t, .inr (3, [.ref o_t_store, .int p0, .int t_next, .int t_end, .int t_latest, .int t_left, .int t_lacking]))] H := hP
  have hD : va_D A [(a_t, .inr (3, [.ref o_t_store, .int p0, .int t_next, .int t_end, .int t_latest, .int t_left, .int t_lacking]))] := hD
  refine lv_aload_n hx hb d_Source_open_5 rfl (lv_at hl 0 rfl) ?_
  refine lv_iload_n hx hb d_Source_open_6 rfl (lv_at hl 1 rfl) ?_
  refine va_put (D := (dC, dI)) (ci := 3) (v := .int p0) (ty := .int) (C := R_Source) (T := F_Source) (N := 7) hx hb hts i_Source t_Source t_Source_ok n_Source hown hK hP hD hS 0 rfl rfl 2 (by decide) (hts _ q_46) (fun _ h9 => h9) rfl (t_Source_ok 2 (by decide)) rfl rfl (Nat.le_of_ble_eq_true rfl) d_Source_open_7 (fun H locs hP hD hS => ?_)
  have hP : va_P (dC, dI) classes [(a_t, .inr (3, [.ref o_t_store, .int p0, .int p0, .int t_end, .int t_latest, .int t_left, .int t_lacking]))] H := hP
  have hD : va_D A [(a_t, .inr (3, [.ref o_t_store, .int p0, .int p0, .int t_end, .int t_latest, .int t_left, .int t_lacking]))] := hD
  refine lv_aload_n hx hb d_Source_open_10 rfl (lv_at hl 0 rfl) ?_
  refine lv_iload_n hx hb d_Source_open_11 rfl (lv_at hl 1 rfl) ?_
  refine lv_iload_n hx hb d_Source_open_12 rfl (lv_at hl 2 rfl) ?_
  refine lv_iadd hx hb d_Source_open_13 ?_
  refine lv_topi (fun x2 ex2 => ?_)
  have hf := letb_of hf ex2
  refine va_put (D := (dC, dI)) (ci := 3) (v := .int x2) (ty := .int) (C := R_Source) (T := F_Source) (N := 7) hx hb hts i_Source t_Source t_Source_ok n_Source hown hK hP hD hS 0 rfl rfl 3 (by decide) (hts _ q_47) (fun _ h9 => h9) rfl (t_Source_ok 3 (by decide)) rfl rfl (Nat.le_of_ble_eq_true rfl) d_Source_open_14 (fun H locs hP hD hS => ?_)
  have hP : va_P (dC, dI) classes [(a_t, .inr (3, [.ref o_t_store, .int p0, .int p0, .int x2, .int t_latest, .int t_left, .int t_lacking]))] H := hP
  have hD : va_D A [(a_t, .inr (3, [.ref o_t_store, .int p0, .int p0, .int x2, .int t_latest, .int t_left, .int t_lacking]))] := hD
  refine lv_aload_n hx hb d_Source_open_17 rfl (lv_at hl 0 rfl) ?_
  refine lv_iconst (v := 0) hx hb d_Source_open_18 (by decide) ?_
  refine va_put (D := (dC, dI)) (ci := 3) (v := .int 0) (ty := .int) (C := R_Source) (T := F_Source) (N := 7) hx hb hts i_Source t_Source t_Source_ok n_Source hown hK hP hD hS 0 rfl rfl 4 (by decide) (hts _ q_48) (fun _ h9 => h9) rfl (t_Source_ok 4 (by decide)) rfl rfl (Nat.le_of_ble_eq_true rfl) d_Source_open_19 (fun H locs hP hD hS => ?_)
  have hP : va_P (dC, dI) classes [(a_t, .inr (3, [.ref o_t_store, .int p0, .int p0, .int x2, .int 0, .int t_left, .int t_lacking]))] H := hP
  have hD : va_D A [(a_t, .inr (3, [.ref o_t_store, .int p0, .int p0, .int x2, .int 0, .int t_left, .int t_lacking]))] := hD
  refine lv_aload_n hx hb d_Source_open_22 rfl (lv_at hl 0 rfl) ?_
  refine lv_iconst (v := 0) hx hb d_Source_open_23 (by decide) ?_
  refine va_put (D := (dC, dI)) (ci := 3) (v := .int 0) (ty := .int) (C := R_Source) (T := F_Source) (N := 7) hx hb hts i_Source t_Source t_Source_ok n_Source hown hK hP hD hS 0 rfl rfl 5 (by decide) (hts _ q_49) (fun _ h9 => h9) rfl (t_Source_ok 5 (by decide)) rfl rfl (Nat.le_of_ble_eq_true rfl) d_Source_open_24 (fun H locs hP hD hS => ?_)
  have hP : va_P (dC, dI) classes [(a_t, .inr (3, [.ref o_t_store, .int p0, .int p0, .int x2, .int 0, .int 0, .int t_lacking]))] H := hP
  have hD : va_D A [(a_t, .inr (3, [.ref o_t_store, .int p0, .int p0, .int x2, .int 0, .int 0, .int t_lacking]))] := hD
  refine lv_aload_n hx hb d_Source_open_27 rfl (lv_at hl 0 rfl) ?_
  refine lv_iconst (v := 0) hx hb d_Source_open_28 (by decide) ?_
  refine va_put (D := (dC, dI)) (ci := 3) (v := .int 0) (ty := .boolean) (C := R_Source) (T := F_Source) (N := 7) hx hb hts i_Source t_Source t_Source_ok n_Source hown hK hP hD hS 0 rfl rfl 6 (by decide) (hts _ q_50) (fun _ h9 => h9) rfl (t_Source_ok 6 (by decide)) rfl rfl (Nat.le_of_ble_eq_true rfl) d_Source_open_29 (fun H locs hP hD hS => ?_)
  have hP : va_P (dC, dI) classes [(a_t, .inr (3, [.ref o_t_store, .int p0, .int p0, .int x2, .int 0, .int 0, .int 0]))] H := hP
  have hD : va_D A [(a_t, .inr (3, [.ref o_t_store, .int p0, .int p0, .int x2, .int 0, .int 0, .int 0]))] := hD
  have hf := Option.some.inj hf
  subst u
  exact ret _ _ _ _ _ _ () d_Source_open_32 hP hD hS hc.1 hc.2
noncomputable def g_Source_takeByte_35 (F : Nat) (t_store_count : Int32) (t_store_row_N : Nat) (t_store_row_F : Nat → Int32) (t_next : Int32) (t_latest : Int32) (t_left : Int32) (t_lacking : Int32) (s0 : Int32) : Option (Int32 × Int32 × Int32 × Int32) :=
bd (f_Store_get F t_store_count t_store_row_N t_store_row_F t_next) fun u3 =>
letb (t_next + 1) fun x4 =>
some (x4, u3, s0, t_lacking)
noncomputable def f_Source_takeByte (F : Nat) (t_next : Int32) (t_end : Int32) (t_latest : Int32) (t_left : Int32) (t_lacking : Int32) (t_store_count : Int32) (t_store_row_N : Nat) (t_store_row_F : Nat → Int32) : Option (Int32 × Int32 × Int32 × Int32) :=
if t_next < t_end then (
if t_latest = 255 then (
g_Source_takeByte_35 F t_store_count t_store_row_N t_store_row_F t_next t_latest t_left t_lacking 7) else (
g_Source_takeByte_35 F t_store_count t_store_row_N t_store_row_F t_next t_latest t_left t_lacking 8)) else (
some (t_next, t_latest, t_left, 1))
set_option maxHeartbeats 4000000 in
set_option maxRecDepth 100000 in
theorem c_Source_takeByte (l : Launch) (dC : Nat → ClassId) (dI : Nat → Nat → Nat) (tI tB tL tZ : ClassId) (a_t : Nat) (a_t_store : Nat) (a_t_store_row : Nat) (sz : Nat) (t_start : Int32) (t_next : Int32) (t_end : Int32) (t_latest : Int32) (t_left : Int32) (t_lacking : Int32) (t_store_count : Int32) (t_store_row_N : Nat) (t_store_row_F : Nat → Int32) (F : Nat) (u : Int32 × Int32 × Int32 × Int32) (hf : f_Source_takeByte F t_next t_end t_latest t_left t_lacking t_store_count t_store_row_N t_store_row_F = some u) : CTv l y_Source_takeByte b_Source_takeByte 1 1 21 (dC, dI) classes [(tI, .int), (tB, .byte), (tL, .long), (tZ, .boolean)] [.ref a_t] [(a_t, .inr (3, [.ref a_t_store, .int t_start, .int t_next, .int t_end, .int t_latest, .int t_left, .int t_lacking])), (a_t_store, .inr (4, [.ref a_t_store_row, .int t_store_count])), (a_t_store_row, .inl (tB, t_store_row_N, .inl t_store_row_F))] sz (fun q : Unit => [(a_t, .inr (3, [.ref a_t_store, .int t_start, .int u.1, .int t_end, .int u.2.1, .int u.2.2.1, .int u.2.2.2])), (a_t_store, .inr (4, [.ref a_t_store_row, .int t_store_count])), (a_t_store_row, .inl (tB, t_store_row_N, .inl t_store_row_F))]) 0 0 := by
  refine mk_v (by decide) (Nat.le_of_ble_eq_true rfl) ?_
  intro p e s m args below meth c ls A Q hx hb hml hts hown hin hK hN hP hD hA hl ret
  obtain ⟨H, hH⟩ : ∃ H : Heap, H = s.heap := ⟨_, rfl⟩
  have hS : va_S A s.heap H [] := by rw [hH]; exact va_S.rf
  rw [← hH] at hP ⊢
  have hl : lv_has ls 1 [(0, .ref a_t)] := hl
  have k_35 : ∀ (t_next : Int32) (t_latest : Int32) (t_left : Int32) (t_lacking : Int32) (s0 : Int32) (H : Heap) (locs : List Loc) (cells slots : Nat) (ls : Array Slot), va_P (dC, dI) classes [(a_t, .inr (3, [.ref a_t_store, .int t_start, .int t_next, .int t_end, .int t_latest, .int t_left, .int t_lacking])), (a_t_store, .inr (4, [.ref a_t_store_row, .int t_store_count])), (a_t_store_row, .inl (tB, t_store_row_N, .inl t_store_row_F))] H → va_D A [(a_t, .inr (3, [.ref a_t_store, .int t_start, .int t_next, .int t_end, .int t_latest, .int t_left, .int t_lacking])), (a_t_store, .inr (4, [.ref a_t_store_row, .int t_store_count])), (a_t_store_row, .inl (tB, t_store_row_N, .inl t_store_row_F))] → va_S A s.heap H locs → lv_has ls 1 [(0, .ref a_t)] → (cells ≤ 0 ∧ slots ≤ 0) → g_Source_takeByte_35 F t_store_count t_store_row_N t_store_row_F t_next t_latest t_left t_lacking s0 = some u → W p l e ({ frames := 1, cells := 0, slots := 0, locals := 21 } : Room) s m args below meth c H locs cells slots Q (F0 m 35 ls [.int s0, .ref a_t]) := by
    intro t_next t_latest t_left t_lacking s0 H locs cells slots ls hP hD hS hl hc hf
    unfold g_Source_takeByte_35 at hf
    refine va_put (D := (dC, dI)) (ci := 3) (v := .int s0) (ty := .int) (C := R_Source) (T := F_Source) (N := 7) hx hb hts i_Source t_Source t_Source_ok n_Source hown hK hP hD hS 0 rfl rfl 5 (by decide) (hts _ q_49) (fun _ h9 => h9) rfl (t_Source_ok 5 (by decide)) rfl rfl (Nat.le_of_ble_eq_true rfl) d_Source_takeByte_35 (fun H locs hP hD hS => ?_)
    have hP : va_P (dC, dI) classes [(a_t, .inr (3, [.ref a_t_store, .int t_start, .int t_next, .int t_end, .int t_latest, .int s0, .int t_lacking])), (a_t_store, .inr (4, [.ref a_t_store_row, .int t_store_count])), (a_t_store_row, .inl (tB, t_store_row_N, .inl t_store_row_F))] H := hP
    have hD : va_D A [(a_t, .inr (3, [.ref a_t_store, .int t_start, .int t_next, .int t_end, .int t_latest, .int s0, .int t_lacking])), (a_t_store, .inr (4, [.ref a_t_store_row, .int t_store_count])), (a_t_store_row, .inl (tB, t_store_row_N, .inl t_store_row_F))] := hD
    refine lv_aload_n hx hb d_Source_takeByte_38 rfl (lv_at hl 0 rfl) ?_
    refine lv_aload_n hx hb d_Source_takeByte_39 rfl (lv_at hl 0 rfl) ?_
    refine va_get (D := (dC, dI)) (ci := 3) (v := .ref a_t_store) (C := R_Source) (T := F_Source) (N := 7) hx hb hts i_Source hown hK hP 0 rfl rfl 0 (by decide) (hts _ q_44) (fun _ h9 => h9) rfl d_Source_takeByte_40 ?_
    refine lv_aload_n hx hb d_Source_takeByte_43 rfl (lv_at hl 0 rfl) ?_
    refine va_get (D := (dC, dI)) (ci := 3) (v := .int t_next) (C := R_Source) (T := F_Source) (N := 7) hx hb hts i_Source hown hK hP 0 rfl rfl 2 (by decide) (hts _ q_46) (fun _ h9 => h9) rfl d_Source_takeByte_44 ?_
    obtain ⟨u3, hu, hf⟩ := bd_of hf
    refine jn_i (wc := [(a_t_store, .inr (4, [.ref a_t_store_row, .int t_store_count])), (a_t_store_row, .inl (tB, t_store_row_N, .inl t_store_row_F))]) (wr := [(a_t, .inr (3, [.ref a_t_store, .int t_start, .int t_next, .int t_end, .int t_latest, .int s0, .int t_lacking]))]) (va_runV (As := [.int t_next]) (rest := [.ref a_t]) ⟨hx, hb, hml, hown, hts⟩ (c_Store_get l dC dI tI tB tL tZ a_t_store a_t_store_row H.size t_store_count t_store_row_N t_store_row_F t_next F u3 hu) (cv_of hts q_52 q_39 q_51 q_53 q_54 hd_Store_get ⟨Nat.le_of_ble_eq_true rfl, Nat.le_of_ble_eq_true rfl⟩) (pr_V (ci := 4) (C := R_Store) (q0 := 0) hK hN (hP.sub [1, 2] rfl) (hD.sub [1, 2] (by decide) rfl) rfl rfl) rfl rfl hl.1 rfl (lv_room (Nat.le_of_ble_eq_true rfl)) d_Source_takeByte_47 hc) hP hD hS hA [1, 2] [0] rfl rfl (by decide) (by decide) (fun r9 _ H locs hw hP hD hS => ?_)
    subst r9
    have hP : va_P (dC, dI) classes [(a_t, .inr (3, [.ref a_t_store, .int t_start, .int t_next, .int t_end, .int t_latest, .int s0, .int t_lacking])), (a_t_store, .inr (4, [.ref a_t_store_row, .int t_store_count])), (a_t_store_row, .inl (tB, t_store_row_N, .inl t_store_row_F))] H := hP
    have hD : va_D A [(a_t, .inr (3, [.ref a_t_store, .int t_start, .int t_next, .int t_end, .int t_latest, .int s0, .int t_lacking])), (a_t_store, .inr (4, [.ref a_t_store_row, .int t_store_count])), (a_t_store_row, .inl (tB, t_store_row_N, .inl t_store_row_F))] := hD
    refine va_put (D := (dC, dI)) (ci := 3) (v := .int u3) (ty := .int) (C := R_Source) (T := F_Source) (N := 7) hx hb hts i_Source t_Source t_Source_ok n_Source hown hK hP hD hS 0 rfl rfl 4 (by decide) (hts _ q_48) (fun _ h9 => h9) rfl (t_Source_ok 4 (by decide)) rfl rfl (Nat.le_of_ble_eq_true rfl) d_Source_takeByte_50 (fun H locs hP hD hS => ?_)
    have hP : va_P (dC, dI) classes [(a_t, .inr (3, [.ref a_t_store, .int t_start, .int t_next, .int t_end, .int u3, .int s0, .int t_lacking])), (a_t_store, .inr (4, [.ref a_t_store_row, .int t_store_count])), (a_t_store_row, .inl (tB, t_store_row_N, .inl t_store_row_F))] H := hP
    have hD : va_D A [(a_t, .inr (3, [.ref a_t_store, .int t_start, .int t_next, .int t_end, .int u3, .int s0, .int t_lacking])), (a_t_store, .inr (4, [.ref a_t_store_row, .int t_store_count])), (a_t_store_row, .inl (tB, t_store_row_N, .inl t_store_row_F))] := hD
    refine lv_aload_n hx hb d_Source_takeByte_53 rfl (lv_at hl 0 rfl) ?_
    refine lv_dup hx hb d_Source_takeByte_54 rfl ?_
    refine va_get (D := (dC, dI)) (ci := 3) (v := .int t_next) (C := R_Source) (T := F_Source) (N := 7) hx hb hts i_Source hown hK hP 0 rfl rfl 2 (by decide) (hts _ q_46) (fun _ h9 => h9) rfl d_Source_takeByte_55 ?_
    refine lv_iconst (v := 1) hx hb d_Source_takeByte_58 (by decide) ?_
    refine lv_iadd hx hb d_Source_takeByte_59 ?_
    refine lv_topi (fun x4 ex4 => ?_)
    have hf := letb_of hf ex4
    refine va_put (D := (dC, dI)) (ci := 3) (v := .int x4) (ty := .int) (C := R_Source) (T := F_Source) (N := 7) hx hb hts i_Source t_Source t_Source_ok n_Source hown hK hP hD hS 0 rfl rfl 2 (by decide) (hts _ q_46) (fun _ h9 => h9) rfl (t_Source_ok 2 (by decide)) rfl rfl (Nat.le_of_ble_eq_true rfl) d_Source_takeByte_60 (fun H locs hP hD hS => ?_)
    have hP : va_P (dC, dI) classes [(a_t, .inr (3, [.ref a_t_store, .int t_start, .int x4, .int t_end, .int u3, .int s0, .int t_lacking])), (a_t_store, .inr (4, [.ref a_t_store_row, .int t_store_count])), (a_t_store_row, .inl (tB, t_store_row_N, .inl t_store_row_F))] H := hP
    have hD : va_D A [(a_t, .inr (3, [.ref a_t_store, .int t_start, .int x4, .int t_end, .int u3, .int s0, .int t_lacking])), (a_t_store, .inr (4, [.ref a_t_store_row, .int t_store_count])), (a_t_store_row, .inl (tB, t_store_row_N, .inl t_store_row_F))] := hD
    have hf := Option.some.inj hf
    subst u
    exact ret _ _ _ _ _ _ () d_Source_takeByte_63 hP hD hS hc.1 hc.2
  have hc : 0 ≤ 0 ∧ 0 ≤ 0 := ⟨Nat.le_refl 0, Nat.le_refl 0⟩
  unfold f_Source_takeByte at hf
  refine lv_aload_n hx hb d_Source_takeByte_0 rfl (lv_at hl 0 rfl) ?_
  refine va_get (D := (dC, dI)) (ci := 3) (v := .int t_next) (C := R_Source) (T := F_Source) (N := 7) hx hb hts i_Source hown hK hP 0 rfl rfl 2 (by decide) (hts _ q_46) (fun _ h9 => h9) rfl d_Source_takeByte_1 ?_
  refine lv_aload_n hx hb d_Source_takeByte_4 rfl (lv_at hl 0 rfl) ?_
  refine va_get (D := (dC, dI)) (ci := 3) (v := .int t_end) (C := R_Source) (T := F_Source) (N := 7) hx hb hts i_Source hown hK hP 0 rfl rfl 3 (by decide) (hts _ q_47) (fun _ h9 => h9) rfl d_Source_takeByte_5 ?_
  refine lv_icmp_lt (tgt := 17) hx hb d_Source_takeByte_8 (by decide) (fun c0 => ?_) (fun c0 => ?_)
  · have hf := ite_t c0 hf
    refine lv_aload_n hx hb d_Source_takeByte_17 rfl (lv_at hl 0 rfl) ?_
    refine lv_aload_n hx hb d_Source_takeByte_18 rfl (lv_at hl 0 rfl) ?_
    refine va_get (D := (dC, dI)) (ci := 3) (v := .int t_latest) (C := R_Source) (T := F_Source) (N := 7) hx hb hts i_Source hown hK hP 0 rfl rfl 4 (by decide) (hts _ q_48) (fun _ h9 => h9) rfl d_Source_takeByte_19 ?_
    refine lv_sipush (v := 255) hx hb d_Source_takeByte_22 (by decide) ?_
    refine lv_icmp_ne (tgt := 33) hx hb d_Source_takeByte_25 (by decide) (fun c0 => ?_) (fun c0 => ?_)
    · have hf := ite_f c0 hf
      refine lv_bipush (v := 8) hx hb d_Source_takeByte_33 (by decide) ?_
      exact k_35 t_next t_latest t_left t_lacking 8 _ _ _ _ ls hP hD hS hl hc hf
    · have hf := ite_t c0 hf
      refine lv_bipush (v := 7) hx hb d_Source_takeByte_28 (by decide) ?_
      refine lv_goto (tgt := 35) hx hb d_Source_takeByte_30 (by decide) ?_
      exact k_35 t_next t_latest t_left t_lacking 7 _ _ _ _ ls hP hD hS hl hc hf
  · have hf := ite_f c0 hf
    refine lv_aload_n hx hb d_Source_takeByte_11 rfl (lv_at hl 0 rfl) ?_
    refine lv_iconst (v := 1) hx hb d_Source_takeByte_12 (by decide) ?_
    refine va_put (D := (dC, dI)) (ci := 3) (v := .int 1) (ty := .boolean) (C := R_Source) (T := F_Source) (N := 7) hx hb hts i_Source t_Source t_Source_ok n_Source hown hK hP hD hS 0 rfl rfl 6 (by decide) (hts _ q_50) (fun _ h9 => h9) rfl (t_Source_ok 6 (by decide)) rfl rfl (Nat.le_of_ble_eq_true rfl) d_Source_takeByte_13 (fun H locs hP hD hS => ?_)
    have hP : va_P (dC, dI) classes [(a_t, .inr (3, [.ref a_t_store, .int t_start, .int t_next, .int t_end, .int t_latest, .int t_left, .int 1])), (a_t_store, .inr (4, [.ref a_t_store_row, .int t_store_count])), (a_t_store_row, .inl (tB, t_store_row_N, .inl t_store_row_F))] H := hP
    have hD : va_D A [(a_t, .inr (3, [.ref a_t_store, .int t_start, .int t_next, .int t_end, .int t_latest, .int t_left, .int 1])), (a_t_store, .inr (4, [.ref a_t_store_row, .int t_store_count])), (a_t_store_row, .inl (tB, t_store_row_N, .inl t_store_row_F))] := hD
    have hf := Option.some.inj hf
    subst u
    exact ret _ _ _ _ _ _ () d_Source_takeByte_16 hP hD hS hc.1 hc.2
noncomputable def g_Source_bit_11 (F : Nat) (t_next : Int32) (t_latest : Int32) (t_left : Int32) (t_lacking : Int32) : Option (Int32 × Int32 × Int32 × Int32 × Int32) :=
if t_lacking = 0 then (
letb (t_left - 1) fun x5 =>
letb (t_latest >>> (x5 &&& 31)) fun x6 =>
letb (x6 &&& 1) fun x7 =>
some (x7, t_next, t_latest, x5, t_lacking)) else (
some (0, t_next, t_latest, t_left, t_lacking))
noncomputable def f_Source_bit (F : Nat) (t_next : Int32) (t_end : Int32) (t_latest : Int32) (t_left : Int32) (t_lacking : Int32) (t_store_count : Int32) (t_store_row_N : Nat) (t_store_row_F : Nat → Int32) : Option (Int32 × Int32 × Int32 × Int32 × Int32) :=
if t_left = 0 then (
bd (f_Source_takeByte F t_next t_end t_latest t_left t_lacking t_store_count t_store_row_N t_store_row_F) fun u8 =>
g_Source_bit_11 F u8.1 u8.2.1 u8.2.2.1 u8.2.2.2) else (
g_Source_bit_11 F t_next t_latest t_left t_lacking)
set_option maxHeartbeats 4000000 in
set_option maxRecDepth 100000 in
theorem c_Source_bit (l : Launch) (dC : Nat → ClassId) (dI : Nat → Nat → Nat) (tI tB tL tZ : ClassId) (a_t : Nat) (a_t_store : Nat) (a_t_store_row : Nat) (sz : Nat) (t_start : Int32) (t_next : Int32) (t_end : Int32) (t_latest : Int32) (t_left : Int32) (t_lacking : Int32) (t_store_count : Int32) (t_store_row_N : Nat) (t_store_row_F : Nat → Int32) (p0 : Int32) (F : Nat) (u : Int32 × Int32 × Int32 × Int32 × Int32) (hf : f_Source_bit F t_next t_end t_latest t_left t_lacking t_store_count t_store_row_N t_store_row_F = some u) : CTi l y_Source_bit b_Source_bit 2 .int 2 41 (dC, dI) classes [(tI, .int), (tB, .byte), (tL, .long), (tZ, .boolean)] [.ref a_t, .int p0] [(a_t, .inr (3, [.ref a_t_store, .int t_start, .int t_next, .int t_end, .int t_latest, .int t_left, .int t_lacking])), (a_t_store, .inr (4, [.ref a_t_store_row, .int t_store_count])), (a_t_store_row, .inl (tB, t_store_row_N, .inl t_store_row_F))] sz (fun q : Unit => [(a_t, .inr (3, [.ref a_t_store, .int t_start, .int u.2.1, .int t_end, .int u.2.2.1, .int u.2.2.2.1, .int u.2.2.2.2])), (a_t_store, .inr (4, [.ref a_t_store_row, .int t_store_count])), (a_t_store_row, .inl (tB, t_store_row_N, .inl t_store_row_F))]) (u.1) 0 0 := by
  refine mk_i (by decide) (Nat.le_of_ble_eq_true rfl) ?_
  intro p e s m args below meth c ls A Q hx hb hml hts hown hin hK hN hP hD hA hl ret
  obtain ⟨H, hH⟩ : ∃ H : Heap, H = s.heap := ⟨_, rfl⟩
  have hS : va_S A s.heap H [] := by rw [hH]; exact va_S.rf
  rw [← hH] at hP ⊢
  have hl : lv_has ls 2 [(0, .ref a_t), (1, .int p0)] := hl
  have k_11 : ∀ (t_next : Int32) (t_latest : Int32) (t_left : Int32) (t_lacking : Int32) (H : Heap) (locs : List Loc) (cells slots : Nat) (ls : Array Slot), va_P (dC, dI) classes [(a_t, .inr (3, [.ref a_t_store, .int t_start, .int t_next, .int t_end, .int t_latest, .int t_left, .int t_lacking])), (a_t_store, .inr (4, [.ref a_t_store_row, .int t_store_count])), (a_t_store_row, .inl (tB, t_store_row_N, .inl t_store_row_F))] H → va_D A [(a_t, .inr (3, [.ref a_t_store, .int t_start, .int t_next, .int t_end, .int t_latest, .int t_left, .int t_lacking])), (a_t_store, .inr (4, [.ref a_t_store_row, .int t_store_count])), (a_t_store_row, .inl (tB, t_store_row_N, .inl t_store_row_F))] → va_S A s.heap H locs → lv_has ls 2 [(0, .ref a_t)] → (cells ≤ 0 ∧ slots ≤ 0) → g_Source_bit_11 F t_next t_latest t_left t_lacking = some u → W p l e ({ frames := 2, cells := 0, slots := 0, locals := 41 } : Room) s m args below meth c H locs cells slots Q (F0 m 11 ls []) := by
    intro t_next t_latest t_left t_lacking H locs cells slots ls hP hD hS hl hc hf
    unfold g_Source_bit_11 at hf
    refine lv_aload_n hx hb d_Source_bit_11 rfl (lv_at hl 0 rfl) ?_
    refine va_get (D := (dC, dI)) (ci := 3) (v := .int t_lacking) (C := R_Source) (T := F_Source) (N := 7) hx hb hts i_Source hown hK hP 0 rfl rfl 6 (by decide) (hts _ q_50) (fun _ h9 => h9) rfl d_Source_bit_12 ?_
    refine lv_if_eq (tgt := 20) hx hb d_Source_bit_15 (by decide) (fun c0 => ?_) (fun c0 => ?_)
    · have hf := ite_t c0 hf
      refine lv_aload_n hx hb d_Source_bit_20 rfl (lv_at hl 0 rfl) ?_
      refine lv_dup hx hb d_Source_bit_21 rfl ?_
      refine va_get (D := (dC, dI)) (ci := 3) (v := .int t_left) (C := R_Source) (T := F_Source) (N := 7) hx hb hts i_Source hown hK hP 0 rfl rfl 5 (by decide) (hts _ q_49) (fun _ h9 => h9) rfl d_Source_bit_22 ?_
      refine lv_iconst (v := 1) hx hb d_Source_bit_25 (by decide) ?_
      refine lv_isub hx hb d_Source_bit_26 ?_
      refine lv_topi (fun x5 ex5 => ?_)
      have hf := letb_of hf ex5
      refine va_put (D := (dC, dI)) (ci := 3) (v := .int x5) (ty := .int) (C := R_Source) (T := F_Source) (N := 7) hx hb hts i_Source t_Source t_Source_ok n_Source hown hK hP hD hS 0 rfl rfl 5 (by decide) (hts _ q_49) (fun _ h9 => h9) rfl (t_Source_ok 5 (by decide)) rfl rfl (Nat.le_of_ble_eq_true rfl) d_Source_bit_27 (fun H locs hP hD hS => ?_)
      have hP : va_P (dC, dI) classes [(a_t, .inr (3, [.ref a_t_store, .int t_start, .int t_next, .int t_end, .int t_latest, .int x5, .int t_lacking])), (a_t_store, .inr (4, [.ref a_t_store_row, .int t_store_count])), (a_t_store_row, .inl (tB, t_store_row_N, .inl t_store_row_F))] H := hP
      have hD : va_D A [(a_t, .inr (3, [.ref a_t_store, .int t_start, .int t_next, .int t_end, .int t_latest, .int x5, .int t_lacking])), (a_t_store, .inr (4, [.ref a_t_store_row, .int t_store_count])), (a_t_store_row, .inl (tB, t_store_row_N, .inl t_store_row_F))] := hD
      refine lv_aload_n hx hb d_Source_bit_30 rfl (lv_at hl 0 rfl) ?_
      refine va_get (D := (dC, dI)) (ci := 3) (v := .int t_latest) (C := R_Source) (T := F_Source) (N := 7) hx hb hts i_Source hown hK hP 0 rfl rfl 4 (by decide) (hts _ q_48) (fun _ h9 => h9) rfl d_Source_bit_31 ?_
      refine lv_aload_n hx hb d_Source_bit_34 rfl (lv_at hl 0 rfl) ?_
      refine va_get (D := (dC, dI)) (ci := 3) (v := .int x5) (C := R_Source) (T := F_Source) (N := 7) hx hb hts i_Source hown hK hP 0 rfl rfl 5 (by decide) (hts _ q_49) (fun _ h9 => h9) rfl d_Source_bit_35 ?_
      refine lv_ishr hx hb d_Source_bit_38 ?_
      refine lv_topi (fun x6 ex6 => ?_)
      have hf := letb_of hf ex6
      refine lv_iconst (v := 1) hx hb d_Source_bit_39 (by decide) ?_
      refine lv_iand hx hb d_Source_bit_40 ?_
      refine lv_topi (fun x7 ex7 => ?_)
      have hf := letb_of hf ex7
      have hf := Option.some.inj hf
      subst u
      exact ret _ _ _ _ _ _ () d_Source_bit_41 rfl hP hD hS hc.1 hc.2
    · have hf := ite_f c0 hf
      refine lv_iconst (v := 0) hx hb d_Source_bit_18 (by decide) ?_
      have hf := Option.some.inj hf
      subst u
      exact ret _ _ _ _ _ _ () d_Source_bit_19 rfl hP hD hS hc.1 hc.2
  have hc : 0 ≤ 0 ∧ 0 ≤ 0 := ⟨Nat.le_refl 0, Nat.le_refl 0⟩
  unfold f_Source_bit at hf
  refine lv_aload_n hx hb d_Source_bit_0 rfl (lv_at hl 0 rfl) ?_
  refine va_get (D := (dC, dI)) (ci := 3) (v := .int t_left) (C := R_Source) (T := F_Source) (N := 7) hx hb hts i_Source hown hK hP 0 rfl rfl 5 (by decide) (hts _ q_49) (fun _ h9 => h9) rfl d_Source_bit_1 ?_
  refine lv_if_ne (tgt := 11) hx hb d_Source_bit_4 (by decide) (fun c0 => ?_) (fun c0 => ?_)
  · have hf := ite_f c0 hf
    exact k_11 t_next t_latest t_left t_lacking _ _ _ _ ls hP hD hS (lv_sub hl [0] rfl) hc hf
  · have hf := ite_t c0 hf
    refine lv_aload_n hx hb d_Source_bit_7 rfl (lv_at hl 0 rfl) ?_
    obtain ⟨u8, hu, hf⟩ := bd_of hf
    refine jn_v (wc := [(a_t, .inr (3, [.ref a_t_store, .int t_start, .int t_next, .int t_end, .int t_latest, .int t_left, .int t_lacking])), (a_t_store, .inr (4, [.ref a_t_store_row, .int t_store_count])), (a_t_store_row, .inl (tB, t_store_row_N, .inl t_store_row_F))]) (wr := []) (va_runV (As := []) (rest := []) ⟨hx, hb, hml, hown, hts⟩ (c_Source_takeByte l dC dI tI tB tL tZ a_t a_t_store a_t_store_row H.size t_start t_next t_end t_latest t_left t_lacking t_store_count t_store_row_N t_store_row_F F u8 hu) (cv_of hts q_57 q_56 q_55 q_58 q_59 hd_Source_takeByte ⟨Nat.le_of_ble_eq_true rfl, Nat.le_of_ble_eq_true rfl⟩) (pr_V (ci := 3) (C := R_Source) (q0 := 0) hK hN (hP.sub [0, 1, 2] rfl) (hD.sub [0, 1, 2] (by decide) rfl) rfl rfl) rfl rfl hl.1 rfl (lv_room (Nat.le_of_ble_eq_true rfl)) d_Source_bit_8 hc) hP hD hS hA [0, 1, 2] [] rfl rfl (by decide) (by decide) (fun _ H locs hP hD hS => ?_)
    have hP : va_P (dC, dI) classes [(a_t, .inr (3, [.ref a_t_store, .int t_start, .int u8.1, .int t_end, .int u8.2.1, .int u8.2.2.1, .int u8.2.2.2])), (a_t_store, .inr (4, [.ref a_t_store_row, .int t_store_count])), (a_t_store_row, .inl (tB, t_store_row_N, .inl t_store_row_F))] H := hP
    have hD : va_D A [(a_t, .inr (3, [.ref a_t_store, .int t_start, .int u8.1, .int t_end, .int u8.2.1, .int u8.2.2.1, .int u8.2.2.2])), (a_t_store, .inr (4, [.ref a_t_store_row, .int t_store_count])), (a_t_store_row, .inl (tB, t_store_row_N, .inl t_store_row_F))] := hD
    exact k_11 u8.1 u8.2.1 u8.2.2.1 u8.2.2.2 _ _ _ _ ls hP hD hS (lv_sub hl [0] rfl) hc hf
noncomputable def g_Source_close_34 (F : Nat) (t_next : Int32) (t_latest : Int32) (t_left : Int32) (t_lacking : Int32) (s0 : Int32) : Option (Int32 × Int32 × Int32 × Int32 × Int32) :=
some (s0, t_next, t_latest, t_left, t_lacking)
noncomputable def g_Source_close_14 (F : Nat) (t_start : Int32) (t_next : Int32) (t_latest : Int32) (t_left : Int32) (t_lacking : Int32) : Option (Int32 × Int32 × Int32 × Int32 × Int32) :=
if t_lacking = 0 then (
letb (t_next - t_start) fun x3 =>
g_Source_close_34 F t_next t_latest t_left t_lacking x3) else (
g_Source_close_34 F t_next t_latest t_left t_lacking (-1))
noncomputable def f_Source_close (F : Nat) (t_start : Int32) (t_next : Int32) (t_end : Int32) (t_latest : Int32) (t_left : Int32) (t_lacking : Int32) (t_store_count : Int32) (t_store_row_N : Nat) (t_store_row_F : Nat → Int32) : Option (Int32 × Int32 × Int32 × Int32 × Int32) :=
if t_latest = 255 then (
bd (f_Source_takeByte F t_next t_end t_latest t_left t_lacking t_store_count t_store_row_N t_store_row_F) fun u4 =>
g_Source_close_14 F t_start u4.1 u4.2.1 u4.2.2.1 u4.2.2.2) else (
g_Source_close_14 F t_start t_next t_latest t_left t_lacking)
set_option maxHeartbeats 4000000 in
set_option maxRecDepth 100000 in
theorem c_Source_close (l : Launch) (dC : Nat → ClassId) (dI : Nat → Nat → Nat) (tI tB tL tZ : ClassId) (a_t : Nat) (a_t_store : Nat) (a_t_store_row : Nat) (sz : Nat) (t_start : Int32) (t_next : Int32) (t_end : Int32) (t_latest : Int32) (t_left : Int32) (t_lacking : Int32) (t_store_count : Int32) (t_store_row_N : Nat) (t_store_row_F : Nat → Int32) (F : Nat) (u : Int32 × Int32 × Int32 × Int32 × Int32) (hf : f_Source_close F t_start t_next t_end t_latest t_left t_lacking t_store_count t_store_row_N t_store_row_F = some u) : CTi l y_Source_close b_Source_close 1 .int 2 41 (dC, dI) classes [(tI, .int), (tB, .byte), (tL, .long), (tZ, .boolean)] [.ref a_t] [(a_t, .inr (3, [.ref a_t_store, .int t_start, .int t_next, .int t_end, .int t_latest, .int t_left, .int t_lacking])), (a_t_store, .inr (4, [.ref a_t_store_row, .int t_store_count])), (a_t_store_row, .inl (tB, t_store_row_N, .inl t_store_row_F))] sz (fun q : Unit => [(a_t, .inr (3, [.ref a_t_store, .int t_start, .int u.2.1, .int t_end, .int u.2.2.1, .int u.2.2.2.1, .int u.2.2.2.2])), (a_t_store, .inr (4, [.ref a_t_store_row, .int t_store_count])), (a_t_store_row, .inl (tB, t_store_row_N, .inl t_store_row_F))]) (u.1) 0 0 := by
  refine mk_i (by decide) (Nat.le_of_ble_eq_true rfl) ?_
  intro p e s m args below meth c ls A Q hx hb hml hts hown hin hK hN hP hD hA hl ret
  obtain ⟨H, hH⟩ : ∃ H : Heap, H = s.heap := ⟨_, rfl⟩
  have hS : va_S A s.heap H [] := by rw [hH]; exact va_S.rf
  rw [← hH] at hP ⊢
  have hl : lv_has ls 1 [(0, .ref a_t)] := hl
  have k_34 : ∀ (t_next : Int32) (t_latest : Int32) (t_left : Int32) (t_lacking : Int32) (s0 : Int32) (H : Heap) (locs : List Loc) (cells slots : Nat) (ls : Array Slot), va_P (dC, dI) classes [(a_t, .inr (3, [.ref a_t_store, .int t_start, .int t_next, .int t_end, .int t_latest, .int t_left, .int t_lacking])), (a_t_store, .inr (4, [.ref a_t_store_row, .int t_store_count])), (a_t_store_row, .inl (tB, t_store_row_N, .inl t_store_row_F))] H → va_D A [(a_t, .inr (3, [.ref a_t_store, .int t_start, .int t_next, .int t_end, .int t_latest, .int t_left, .int t_lacking])), (a_t_store, .inr (4, [.ref a_t_store_row, .int t_store_count])), (a_t_store_row, .inl (tB, t_store_row_N, .inl t_store_row_F))] → va_S A s.heap H locs → lv_has ls 1 [] → (cells ≤ 0 ∧ slots ≤ 0) → g_Source_close_34 F t_next t_latest t_left t_lacking s0 = some u → W p l e ({ frames := 2, cells := 0, slots := 0, locals := 41 } : Room) s m args below meth c H locs cells slots Q (F0 m 34 ls [.int s0]) := by
    intro t_next t_latest t_left t_lacking s0 H locs cells slots ls hP hD hS hl hc hf
    unfold g_Source_close_34 at hf
    have hf := Option.some.inj hf
    subst u
    exact ret _ _ _ _ _ _ () d_Source_close_34 rfl hP hD hS hc.1 hc.2
  have k_14 : ∀ (t_next : Int32) (t_latest : Int32) (t_left : Int32) (t_lacking : Int32) (H : Heap) (locs : List Loc) (cells slots : Nat) (ls : Array Slot), va_P (dC, dI) classes [(a_t, .inr (3, [.ref a_t_store, .int t_start, .int t_next, .int t_end, .int t_latest, .int t_left, .int t_lacking])), (a_t_store, .inr (4, [.ref a_t_store_row, .int t_store_count])), (a_t_store_row, .inl (tB, t_store_row_N, .inl t_store_row_F))] H → va_D A [(a_t, .inr (3, [.ref a_t_store, .int t_start, .int t_next, .int t_end, .int t_latest, .int t_left, .int t_lacking])), (a_t_store, .inr (4, [.ref a_t_store_row, .int t_store_count])), (a_t_store_row, .inl (tB, t_store_row_N, .inl t_store_row_F))] → va_S A s.heap H locs → lv_has ls 1 [(0, .ref a_t)] → (cells ≤ 0 ∧ slots ≤ 0) → g_Source_close_14 F t_start t_next t_latest t_left t_lacking = some u → W p l e ({ frames := 2, cells := 0, slots := 0, locals := 41 } : Room) s m args below meth c H locs cells slots Q (F0 m 14 ls []) := by
    intro t_next t_latest t_left t_lacking H locs cells slots ls hP hD hS hl hc hf
    unfold g_Source_close_14 at hf
    refine lv_aload_n hx hb d_Source_close_14 rfl (lv_at hl 0 rfl) ?_
    refine va_get (D := (dC, dI)) (ci := 3) (v := .int t_lacking) (C := R_Source) (T := F_Source) (N := 7) hx hb hts i_Source hown hK hP 0 rfl rfl 6 (by decide) (hts _ q_50) (fun _ h9 => h9) rfl d_Source_close_15 ?_
    refine lv_if_eq (tgt := 25) hx hb d_Source_close_18 (by decide) (fun c0 => ?_) (fun c0 => ?_)
    · have hf := ite_t c0 hf
      refine lv_aload_n hx hb d_Source_close_25 rfl (lv_at hl 0 rfl) ?_
      refine va_get (D := (dC, dI)) (ci := 3) (v := .int t_next) (C := R_Source) (T := F_Source) (N := 7) hx hb hts i_Source hown hK hP 0 rfl rfl 2 (by decide) (hts _ q_46) (fun _ h9 => h9) rfl d_Source_close_26 ?_
      refine lv_aload_n hx hb d_Source_close_29 rfl (lv_at hl 0 rfl) ?_
      refine va_get (D := (dC, dI)) (ci := 3) (v := .int t_start) (C := R_Source) (T := F_Source) (N := 7) hx hb hts i_Source hown hK hP 0 rfl rfl 1 (by decide) (hts _ q_45) (fun _ h9 => h9) rfl d_Source_close_30 ?_
      refine lv_isub hx hb d_Source_close_33 ?_
      refine lv_topi (fun x3 ex3 => ?_)
      have hf := letb_of hf ex3
      exact k_34 t_next t_latest t_left t_lacking x3 _ _ _ _ ls hP hD hS (lv_sub hl [] rfl) hc hf
    · have hf := ite_f c0 hf
      refine lv_iconst (v := (-1)) hx hb d_Source_close_21 (by decide) ?_
      refine lv_goto (tgt := 34) hx hb d_Source_close_22 (by decide) ?_
      exact k_34 t_next t_latest t_left t_lacking (-1) _ _ _ _ ls hP hD hS (lv_sub hl [] rfl) hc hf
  have hc : 0 ≤ 0 ∧ 0 ≤ 0 := ⟨Nat.le_refl 0, Nat.le_refl 0⟩
  unfold f_Source_close at hf
  refine lv_aload_n hx hb d_Source_close_0 rfl (lv_at hl 0 rfl) ?_
  refine va_get (D := (dC, dI)) (ci := 3) (v := .int t_latest) (C := R_Source) (T := F_Source) (N := 7) hx hb hts i_Source hown hK hP 0 rfl rfl 4 (by decide) (hts _ q_48) (fun _ h9 => h9) rfl d_Source_close_1 ?_
  refine lv_sipush (v := 255) hx hb d_Source_close_4 (by decide) ?_
  refine lv_icmp_ne (tgt := 14) hx hb d_Source_close_7 (by decide) (fun c0 => ?_) (fun c0 => ?_)
  · have hf := ite_f c0 hf
    exact k_14 t_next t_latest t_left t_lacking _ _ _ _ ls hP hD hS hl hc hf
  · have hf := ite_t c0 hf
    refine lv_aload_n hx hb d_Source_close_10 rfl (lv_at hl 0 rfl) ?_
    obtain ⟨u4, hu, hf⟩ := bd_of hf
    refine jn_v (wc := [(a_t, .inr (3, [.ref a_t_store, .int t_start, .int t_next, .int t_end, .int t_latest, .int t_left, .int t_lacking])), (a_t_store, .inr (4, [.ref a_t_store_row, .int t_store_count])), (a_t_store_row, .inl (tB, t_store_row_N, .inl t_store_row_F))]) (wr := []) (va_runV (As := []) (rest := []) ⟨hx, hb, hml, hown, hts⟩ (c_Source_takeByte l dC dI tI tB tL tZ a_t a_t_store a_t_store_row H.size t_start t_next t_end t_latest t_left t_lacking t_store_count t_store_row_N t_store_row_F F u4 hu) (cv_of hts q_57 q_56 q_55 q_58 q_59 hd_Source_takeByte ⟨Nat.le_of_ble_eq_true rfl, Nat.le_of_ble_eq_true rfl⟩) (pr_V (ci := 3) (C := R_Source) (q0 := 0) hK hN (hP.sub [0, 1, 2] rfl) (hD.sub [0, 1, 2] (by decide) rfl) rfl rfl) rfl rfl hl.1 rfl (lv_room (Nat.le_of_ble_eq_true rfl)) d_Source_close_11 hc) hP hD hS hA [0, 1, 2] [] rfl rfl (by decide) (by decide) (fun _ H locs hP hD hS => ?_)
    have hP : va_P (dC, dI) classes [(a_t, .inr (3, [.ref a_t_store, .int t_start, .int u4.1, .int t_end, .int u4.2.1, .int u4.2.2.1, .int u4.2.2.2])), (a_t_store, .inr (4, [.ref a_t_store_row, .int t_store_count])), (a_t_store_row, .inl (tB, t_store_row_N, .inl t_store_row_F))] H := hP
    have hD : va_D A [(a_t, .inr (3, [.ref a_t_store, .int t_start, .int u4.1, .int t_end, .int u4.2.1, .int u4.2.2.1, .int u4.2.2.2])), (a_t_store, .inr (4, [.ref a_t_store_row, .int t_store_count])), (a_t_store_row, .inl (tB, t_store_row_N, .inl t_store_row_F))] := hD
    exact k_14 u4.1 u4.2.1 u4.2.2.1 u4.2.2.2 _ _ _ _ ls hP hD hS hl hc hf
noncomputable def g_Bits_numberW_8 (F : Nat) (rec8 : Int32 → Int32 → Int32 → Nat → (Nat → Int32) → Int64 → Int64 → Int32 → Option (Nat × Nat × Int64 × Int32 × Int32 × Int32 × Nat × (Nat → Int32))) (t_gathered : Int32) (t_room : Int32) (t_store_count : Int32) (t_store_row_N : Nat) (t_store_row_F : Nat → Int32) (v1 : Int64) (v4 : Int64) (v6 : Int32) : Option (Nat × Nat × Int64 × Int32 × Int32 × Int32 × Nat × (Nat → Int32)) :=
if v6 < 0 then (
some (0, 0, v4, t_gathered, t_room, t_store_count, t_store_row_N, t_store_row_F)) else (
letb (v4 * 2) fun x13 =>
letb (v1 >>> (v6.toInt64 &&& 63)) fun x14 =>
letb (x14.toInt32) fun x15 =>
letb (x15 &&& 1) fun x16 =>
bd (f_Sink_bit F t_gathered t_room t_store_count t_store_row_N t_store_row_F x16) fun u17 =>
addc u17.1 u17.2.1 (
letb (u17.2.2.1.toInt64) fun x21 =>
letb (x13 + x21) fun x22 =>
letb (v6 + (-1)) fun x23 =>
rec8 u17.2.2.2.1 u17.2.2.2.2.1 u17.2.2.2.2.2.1 u17.2.2.2.2.2.2.1 u17.2.2.2.2.2.2.2 v1 x22 x23))
noncomputable def f_Bits_numberW_8 (F : Nat) : Nat → Int32 → Int32 → Int32 → Nat → (Nat → Int32) → Int64 → Int64 → Int32 → Option (Nat × Nat × Int64 × Int32 × Int32 × Int32 × Nat × (Nat → Int32))
  | 0 => fun _ _ _ _ _ _ _ _ => none
  | n + 1 => fun t_gathered t_room t_store_count t_store_row_N t_store_row_F v1 v4 v6 => g_Bits_numberW_8 F (f_Bits_numberW_8 F n) t_gathered t_room t_store_count t_store_row_N t_store_row_F v1 v4 v6
noncomputable def f_Bits_numberW (F : Nat) (t_gathered : Int32) (t_room : Int32) (t_store_count : Int32) (t_store_row_N : Nat) (t_store_row_F : Nat → Int32) (p0 : Int64) (p1 : Int32) : Option (Nat × Nat × Int64 × Int32 × Int32 × Int32 × Nat × (Nat → Int32)) :=
letb (p1 - 1) fun x24 =>
f_Bits_numberW_8 F F t_gathered t_room t_store_count t_store_row_N t_store_row_F p0 0 x24
set_option maxHeartbeats 4000000 in
set_option maxRecDepth 100000 in
theorem c_Bits_numberW (l : Launch) (dC : Nat → ClassId) (dI : Nat → Nat → Nat) (tI tB tL tZ : ClassId) (a_t : Nat) (a_t_store : Nat) (a_t_store_row : Nat) (sz : Nat) (t_gathered : Int32) (t_room : Int32) (t_store_count : Int32) (t_store_row_N : Nat) (t_store_row_F : Nat → Int32) (p0 : Int64) (p1 : Int32) (F : Nat) (nc ns : Nat) (u : Int64 × Int32 × Int32 × Int32 × Nat × (Nat → Int32)) (hf : f_Bits_numberW F t_gathered t_room t_store_count t_store_row_N t_store_row_F p0 p1 = some (nc, ns, u)) : CTl l y_Bits_number b_Bits_number 7 4 104 (dC, dI) classes [(tI, .int), (tB, .byte), (tL, .long), (tZ, .boolean)] [.ref a_t, .long p0, .int p1] [(a_t, .inr (2, [.ref a_t_store, .int t_gathered, .int t_room])), (a_t_store, .inr (4, [.ref a_t_store_row, .int t_store_count])), (a_t_store_row, .inl (tB, t_store_row_N, .inl t_store_row_F))] sz (fun q : Nat => [(a_t, .inr (2, [.ref a_t_store, .int u.2.1, .int u.2.2.1])), (a_t_store, .inr (4, [.ref q, .int u.2.2.2.1])), (q, .inl (tB, u.2.2.2.2.1, .inl u.2.2.2.2.2))]) (u.1) nc ns := by
  refine mk_l (by decide) (Nat.le_of_ble_eq_true rfl) ?_
  intro p e s m args below meth c ls A Q hx hb hml hts hown hin hK hN hP hD hA hl ret
  obtain ⟨H, hH⟩ : ∃ H : Heap, H = s.heap := ⟨_, rfl⟩
  have hS : va_S A s.heap H [] := by rw [hH]; exact va_S.rf
  rw [← hH] at hP ⊢
  have hl : lv_has ls 7 [(0, .ref a_t), (1, .long p0), (3, .int p1)] := hl
  have k_8 : ∀ n : Nat, ∀ (t_gathered : Int32) (t_room : Int32) (t_store_count : Int32) (t_store_row_N : Nat) (t_store_row_F : Nat → Int32) (v1 : Int64) (v4 : Int64) (v6 : Int32) (a_t_store_row : Nat) (H : Heap) (locs : List Loc) (cells slots nB sB : Nat) (ls : Array Slot), va_P (dC, dI) classes [(a_t, .inr (2, [.ref a_t_store, .int t_gathered, .int t_room])), (a_t_store, .inr (4, [.ref a_t_store_row, .int t_store_count])), (a_t_store_row, .inl (tB, t_store_row_N, .inl t_store_row_F))] H → va_D A [(a_t, .inr (2, [.ref a_t_store, .int t_gathered, .int t_room])), (a_t_store, .inr (4, [.ref a_t_store_row, .int t_store_count])), (a_t_store_row, .inl (tB, t_store_row_N, .inl t_store_row_F))] → va_S A s.heap H locs → lv_has ls 7 [(0, .ref a_t), (1, .long v1), (4, .long v4), (6, .int v6)] → (cells + nB ≤ nc ∧ slots + sB ≤ ns) → f_Bits_numberW_8 F n t_gathered t_room t_store_count t_store_row_N t_store_row_F v1 v4 v6 = some (nB, sB, u) → W p l e ({ frames := 4, cells := nc, slots := ns, locals := 104 } : Room) s m args below meth c H locs cells slots Q (F0 m 8 ls []) := by
    intro n
    induction n with
    | zero => intro t_gathered t_room t_store_count t_store_row_N t_store_row_F v1 v4 v6 a_t_store_row H locs cells slots nB sB ls hP hD hS hl hc hf; exact absurd hf (by intro h9; cases h9)
    | succ n h8 =>
      intro t_gathered t_room t_store_count t_store_row_N t_store_row_F v1 v4 v6 a_t_store_row H locs cells slots nB sB ls hP hD hS hl hc hf
      have hf : g_Bits_numberW_8 F (f_Bits_numberW_8 F n) t_gathered t_room t_store_count t_store_row_N t_store_row_F v1 v4 v6 = some (nB, sB, u) := hf
      generalize (f_Bits_numberW_8 F n) = rec8 at hf h8
      unfold g_Bits_numberW_8 at hf
      refine lv_iload hx hb d_Bits_number_8 (lv_at hl 3 rfl) ?_
      refine lv_if_lt (tgt := 40) hx hb d_Bits_number_10 (by decide) (fun c0 => ?_) (fun c0 => ?_)
      · have hf := ite_t c0 hf
        refine lv_lload hx hb d_Bits_number_40 (lv_at hl 2 rfl) ?_
        have hf := Option.some.inj hf
        have hf : _ = u := congrArg (fun z => z.2.2) hf
        subst u
        exact ret _ _ _ _ _ _ a_t_store_row d_Bits_number_42 hP hD hS (Nat.le_trans (Nat.le_add_right _ _) hc.1) (Nat.le_trans (Nat.le_add_right _ _) hc.2)
      · have hf := ite_f c0 hf
        refine lv_lload hx hb d_Bits_number_13 (lv_at hl 2 rfl) ?_
        refine lv_ldc2 (v := 2) hx hb hown (hts _ q_60) d_Bits_number_15 ?_
        refine lv_lmul hx hb d_Bits_number_18 ?_
        refine lv_topl (fun x13 ex13 => ?_)
        have hf := letb_of hf ex13
        refine lv_aload_n hx hb d_Bits_number_19 rfl (lv_at hl 0 rfl) ?_
        refine lv_lload_n hx hb d_Bits_number_20 rfl (lv_at hl 1 rfl) ?_
        refine lv_iload hx hb d_Bits_number_21 (lv_at hl 3 rfl) ?_
        refine lv_lshr hx hb d_Bits_number_23 rfl ?_
        refine lv_topl (fun x14 ex14 => ?_)
        have hf := letb_of hf ex14
        refine lv_l2i hx hb d_Bits_number_24 rfl ?_
        refine lv_topi (fun x15 ex15 => ?_)
        have hf := letb_of hf ex15
        refine lv_iconst (v := 1) hx hb d_Bits_number_25 (by decide) ?_
        refine lv_iand hx hb d_Bits_number_26 ?_
        refine lv_topi (fun x16 ex16 => ?_)
        have hf := letb_of hf ex16
        obtain ⟨u17, hu, hf⟩ := bd_of hf
        obtain ⟨nB18, sB19, hf, ha9, hb9⟩ := addc_of hf
        have hcc : cells + u17.1 ≤ nc ∧ slots + u17.2.1 ≤ ns := ⟨by omega, by omega⟩
        have hc : cells + u17.1 + nB18 ≤ nc ∧ slots + u17.2.1 + sB19 ≤ ns := ⟨by omega, by omega⟩
        refine jn_i (wc := [(a_t, .inr (2, [.ref a_t_store, .int t_gathered, .int t_room])), (a_t_store, .inr (4, [.ref a_t_store_row, .int t_store_count])), (a_t_store_row, .inl (tB, t_store_row_N, .inl t_store_row_F))]) (wr := []) (va_runU (As := [.int x16]) (rest := [.long x13]) ⟨hx, hb, hml, hown, hts⟩ (c_Sink_bit l dC dI tI tB tL tZ a_t a_t_store a_t_store_row H.size t_gathered t_room t_store_count t_store_row_N t_store_row_F x16 F u17.1 u17.2.1 u17.2.2 hu) (ca_of hts hN q_67 q_63 q_65 q_62 q_61 q_64 q_66 hd_Bits_bit ⟨Nat.le_of_ble_eq_true rfl, Nat.le_of_ble_eq_true rfl⟩) (pr_V (ci := 2) (C := R_Sink) (q0 := 0) hK hN (hP.sub [0, 1, 2] rfl) (hD.sub [0, 1, 2] (by decide) rfl) rfl rfl) rfl rfl hl.1 rfl (lv_room (Nat.le_of_ble_eq_true rfl)) d_Bits_number_27 hcc) hP hD hS hA [0, 1, 2] [] rfl rfl (by decide) (by decide) (fun r9 ad20 H locs hw hP hD hS => ?_)
        subst r9
        have hP : va_P (dC, dI) classes [(a_t, .inr (2, [.ref a_t_store, .int u17.2.2.2.1, .int u17.2.2.2.2.1])), (a_t_store, .inr (4, [.ref ad20, .int u17.2.2.2.2.2.1])), (ad20, .inl (tB, u17.2.2.2.2.2.2.1, .inl u17.2.2.2.2.2.2.2))] H := hP
        have hD : va_D A [(a_t, .inr (2, [.ref a_t_store, .int u17.2.2.2.1, .int u17.2.2.2.2.1])), (a_t_store, .inr (4, [.ref ad20, .int u17.2.2.2.2.2.1])), (ad20, .inl (tB, u17.2.2.2.2.2.2.1, .inl u17.2.2.2.2.2.2.2))] := hD
        refine lv_i2l hx hb d_Bits_number_30 rfl ?_
        refine lv_topl (fun x21 ex21 => ?_)
        have hf := letb_of hf ex21
        refine lv_ladd hx hb d_Bits_number_31 ?_
        refine lv_topl (fun x22 ex22 => ?_)
        have hf := letb_of hf ex22
        refine lv_lstore (lv' := [(4, .long x22), (0, .ref a_t), (1, .long v1), (6, .int v6)]) hx hb d_Bits_number_32 hl (by decide) rfl (fun ls hl => ?_)
        obtain ⟨x23, ex23⟩ : ∃ y : Int32, y = v6 + (-1) := ⟨_, rfl⟩
        have hf := letb_of hf ex23
        refine lv_iinc (v := x23) (lv' := [(6, .int x23), (4, .long x22), (0, .ref a_t), (1, .long v1)]) hx hb d_Bits_number_34 hl (k := 3) rfl (by rw [ex23]; rfl) (by decide) rfl (fun ls hl => ?_)
        refine lv_goto (tgt := 8) hx hb d_Bits_number_37 (by decide) ?_
        exact h8 u17.2.2.2.1 u17.2.2.2.2.1 u17.2.2.2.2.2.1 u17.2.2.2.2.2.2.1 u17.2.2.2.2.2.2.2 v1 x22 x23 ad20 _ _ _ _ _ _ ls hP hD hS (lv_sub hl [2, 3, 1, 0] rfl) hc hf
  have hc : 0 + nc ≤ nc ∧ 0 + ns ≤ ns := ⟨by omega, by omega⟩
  unfold f_Bits_numberW at hf
  refine lv_lconst (v := 0) hx hb d_Bits_number_0 (by decide) ?_
  refine lv_lstore (lv' := [(4, .long 0), (0, .ref a_t), (1, .long p0), (3, .int p1)]) hx hb d_Bits_number_1 hl (by decide) rfl (fun ls hl => ?_)
  refine lv_iload_n hx hb d_Bits_number_3 rfl (lv_at hl 3 rfl) ?_
  refine lv_iconst (v := 1) hx hb d_Bits_number_4 (by decide) ?_
  refine lv_isub hx hb d_Bits_number_5 ?_
  refine lv_topi (fun x24 ex24 => ?_)
  have hf := letb_of hf ex24
  refine lv_istore (lv' := [(6, .int x24), (4, .long 0), (0, .ref a_t), (1, .long p0), (3, .int p1)]) hx hb d_Bits_number_6 hl (by decide) rfl (fun ls hl => ?_)
  exact k_8 F t_gathered t_room t_store_count t_store_row_N t_store_row_F p0 0 x24 a_t_store_row _ _ _ _ _ _ ls hP hD hS (lv_sub hl [2, 3, 1, 0] rfl) hc hf
noncomputable def g_Bits_passesW_30 (F : Nat) (t_gathered : Int32) (t_room : Int32) (t_store_count : Int32) (t_store_row_N : Nat) (t_store_row_F : Nat → Int32) (v1 : Int32) (s0 : Int32) : Option (Nat × Nat × Int32 × Int32 × Int32 × Int32 × Nat × (Nat → Int32)) :=
bd (f_Sink_bit F t_gathered t_room t_store_count t_store_row_N t_store_row_F s0) fun u35 =>
addc u35.1 u35.2.1 (
if u35.2.2.1 = 0 then (
some (0, 0, 2, u35.2.2.2.1, u35.2.2.2.2.1, u35.2.2.2.2.2.1, u35.2.2.2.2.2.2.1, u35.2.2.2.2.2.2.2)) else (
letb (v1 - 3) fun x39 =>
letb (if 3 < x39 then 3 else x39) fun x40 =>
letb (x40.toInt64) fun x41 =>
bd (f_Bits_numberW F u35.2.2.2.1 u35.2.2.2.2.1 u35.2.2.2.2.2.1 u35.2.2.2.2.2.2.1 u35.2.2.2.2.2.2.2 x41 2) fun u42 =>
addc u42.1 u42.2.1 (
letb (u42.2.2.1.toInt32) fun x46 =>
if 3 ≤ x46 then (
letb (v1 - 6) fun x47 =>
letb (if 31 < x47 then 31 else x47) fun x48 =>
letb (x48.toInt64) fun x49 =>
bd (f_Bits_numberW F u42.2.2.2.1 u42.2.2.2.2.1 u42.2.2.2.2.2.1 u42.2.2.2.2.2.2.1 u42.2.2.2.2.2.2.2 x49 5) fun u50 =>
addc u50.1 u50.2.1 (
letb (u50.2.2.1.toInt32) fun x54 =>
if 31 ≤ x54 then (
letb (v1 - 37) fun x55 =>
letb (x55.toInt64) fun x56 =>
bd (f_Bits_numberW F u50.2.2.2.1 u50.2.2.2.2.1 u50.2.2.2.2.2.1 u50.2.2.2.2.2.2.1 u50.2.2.2.2.2.2.2 x56 7) fun u57 =>
addc u57.1 u57.2.1 (
letb (u57.2.2.1.toInt32) fun x61 =>
letb (37 + x61) fun x62 =>
some (0, 0, x62, u57.2.2.2.1, u57.2.2.2.2.1, u57.2.2.2.2.2.1, u57.2.2.2.2.2.2.1, u57.2.2.2.2.2.2.2))) else (
letb (6 + x54) fun x63 =>
some (0, 0, x63, u50.2.2.2.1, u50.2.2.2.2.1, u50.2.2.2.2.2.1, u50.2.2.2.2.2.2.1, u50.2.2.2.2.2.2.2)))) else (
letb (3 + x46) fun x64 =>
some (0, 0, x64, u42.2.2.2.1, u42.2.2.2.2.1, u42.2.2.2.2.2.1, u42.2.2.2.2.2.2.1, u42.2.2.2.2.2.2.2)))))
noncomputable def g_Bits_passesW_11 (F : Nat) (t_gathered : Int32) (t_room : Int32) (t_store_count : Int32) (t_store_row_N : Nat) (t_store_row_F : Nat → Int32) (v1 : Int32) (s0 : Int32) : Option (Nat × Nat × Int32 × Int32 × Int32 × Int32 × Nat × (Nat → Int32)) :=
bd (f_Sink_bit F t_gathered t_room t_store_count t_store_row_N t_store_row_F s0) fun u65 =>
addc u65.1 u65.2.1 (
if u65.2.2.1 = 0 then (
some (0, 0, 1, u65.2.2.2.1, u65.2.2.2.2.1, u65.2.2.2.2.2.1, u65.2.2.2.2.2.2.1, u65.2.2.2.2.2.2.2)) else (
if v1 ≤ 2 then (
g_Bits_passesW_30 F u65.2.2.2.1 u65.2.2.2.2.1 u65.2.2.2.2.2.1 u65.2.2.2.2.2.2.1 u65.2.2.2.2.2.2.2 v1 0) else (
g_Bits_passesW_30 F u65.2.2.2.1 u65.2.2.2.2.1 u65.2.2.2.2.2.1 u65.2.2.2.2.2.2.1 u65.2.2.2.2.2.2.2 v1 1)))
noncomputable def f_Bits_passesW (F : Nat) (t_gathered : Int32) (t_room : Int32) (t_store_count : Int32) (t_store_row_N : Nat) (t_store_row_F : Nat → Int32) (p0 : Int32) : Option (Nat × Nat × Int32 × Int32 × Int32 × Int32 × Nat × (Nat → Int32)) :=
if p0 ≤ 1 then (
g_Bits_passesW_11 F t_gathered t_room t_store_count t_store_row_N t_store_row_F p0 0) else (
g_Bits_passesW_11 F t_gathered t_room t_store_count t_store_row_N t_store_row_F p0 1)
set_option maxHeartbeats 4000000 in
set_option maxRecDepth 100000 in
theorem c_Bits_passesW (l : Launch) (dC : Nat → ClassId) (dI : Nat → Nat → Nat) (tI tB tL tZ : ClassId) (a_t : Nat) (a_t_store : Nat) (a_t_store_row : Nat) (sz : Nat) (t_gathered : Int32) (t_room : Int32) (t_store_count : Int32) (t_store_row_N : Nat) (t_store_row_F : Nat → Int32) (p0 : Int32) (F : Nat) (nc ns : Nat) (u : Int32 × Int32 × Int32 × Int32 × Nat × (Nat → Int32)) (hf : f_Bits_passesW F t_gathered t_room t_store_count t_store_row_N t_store_row_F p0 = some (nc, ns, u)) : CTi l y_Bits_passes b_Bits_passes 4 .int 5 130 (dC, dI) classes [(tI, .int), (tB, .byte), (tL, .long), (tZ, .boolean)] [.ref a_t, .int p0] [(a_t, .inr (2, [.ref a_t_store, .int t_gathered, .int t_room])), (a_t_store, .inr (4, [.ref a_t_store_row, .int t_store_count])), (a_t_store_row, .inl (tB, t_store_row_N, .inl t_store_row_F))] sz (fun q : Nat => [(a_t, .inr (2, [.ref a_t_store, .int u.2.1, .int u.2.2.1])), (a_t_store, .inr (4, [.ref q, .int u.2.2.2.1])), (q, .inl (tB, u.2.2.2.2.1, .inl u.2.2.2.2.2))]) (u.1) nc ns := by
  refine mk_i (by decide) (Nat.le_of_ble_eq_true rfl) ?_
  intro p e s m args below meth c ls A Q hx hb hml hts hown hin hK hN hP hD hA hl ret
  obtain ⟨H, hH⟩ : ∃ H : Heap, H = s.heap := ⟨_, rfl⟩
  have hS : va_S A s.heap H [] := by rw [hH]; exact va_S.rf
  rw [← hH] at hP ⊢
  have hl : lv_has ls 4 [(0, .ref a_t), (1, .int p0)] := hl
  have k_30 : ∀ (t_gathered : Int32) (t_room : Int32) (t_store_count : Int32) (t_store_row_N : Nat) (t_store_row_F : Nat → Int32) (v1 : Int32) (s0 : Int32) (a_t_store_row : Nat) (H : Heap) (locs : List Loc) (cells slots nB sB : Nat) (ls : Array Slot), va_P (dC, dI) classes [(a_t, .inr (2, [.ref a_t_store, .int t_gathered, .int t_room])), (a_t_store, .inr (4, [.ref a_t_store_row, .int t_store_count])), (a_t_store_row, .inl (tB, t_store_row_N, .inl t_store_row_F))] H → va_D A [(a_t, .inr (2, [.ref a_t_store, .int t_gathered, .int t_room])), (a_t_store, .inr (4, [.ref a_t_store_row, .int t_store_count])), (a_t_store_row, .inl (tB, t_store_row_N, .inl t_store_row_F))] → va_S A s.heap H locs → lv_has ls 4 [(0, .ref a_t), (1, .int v1)] → (cells + nB ≤ nc ∧ slots + sB ≤ ns) → g_Bits_passesW_30 F t_gathered t_room t_store_count t_store_row_N t_store_row_F v1 s0 = some (nB, sB, u) → W p l e ({ frames := 5, cells := nc, slots := ns, locals := 130 } : Room) s m args below meth c H locs cells slots Q (F0 m 30 ls [.int s0, .ref a_t]) := by
    intro t_gathered t_room t_store_count t_store_row_N t_store_row_F v1 s0 a_t_store_row H locs cells slots nB sB ls hP hD hS hl hc hf
    unfold g_Bits_passesW_30 at hf
    obtain ⟨u35, hu, hf⟩ := bd_of hf
    obtain ⟨nB36, sB37, hf, ha9, hb9⟩ := addc_of hf
    have hcc : cells + u35.1 ≤ nc ∧ slots + u35.2.1 ≤ ns := ⟨by omega, by omega⟩
    have hc : cells + u35.1 + nB36 ≤ nc ∧ slots + u35.2.1 + sB37 ≤ ns := ⟨by omega, by omega⟩
    refine jn_i (wc := [(a_t, .inr (2, [.ref a_t_store, .int t_gathered, .int t_room])), (a_t_store, .inr (4, [.ref a_t_store_row, .int t_store_count])), (a_t_store_row, .inl (tB, t_store_row_N, .inl t_store_row_F))]) (wr := []) (va_runU (As := [.int s0]) (rest := []) ⟨hx, hb, hml, hown, hts⟩ (c_Sink_bit l dC dI tI tB tL tZ a_t a_t_store a_t_store_row H.size t_gathered t_room t_store_count t_store_row_N t_store_row_F s0 F u35.1 u35.2.1 u35.2.2 hu) (ca_of hts hN q_67 q_63 q_65 q_62 q_61 q_64 q_66 hd_Bits_bit ⟨Nat.le_of_ble_eq_true rfl, Nat.le_of_ble_eq_true rfl⟩) (pr_V (ci := 2) (C := R_Sink) (q0 := 0) hK hN (hP.sub [0, 1, 2] rfl) (hD.sub [0, 1, 2] (by decide) rfl) rfl rfl) rfl rfl hl.1 rfl (lv_room (Nat.le_of_ble_eq_true rfl)) d_Bits_passes_30 hcc) hP hD hS hA [0, 1, 2] [] rfl rfl (by decide) (by decide) (fun r9 ad38 H locs hw hP hD hS => ?_)
    subst r9
    have hP : va_P (dC, dI) classes [(a_t, .inr (2, [.ref a_t_store, .int u35.2.2.2.1, .int u35.2.2.2.2.1])), (a_t_store, .inr (4, [.ref ad38, .int u35.2.2.2.2.2.1])), (ad38, .inl (tB, u35.2.2.2.2.2.2.1, .inl u35.2.2.2.2.2.2.2))] H := hP
    have hD : va_D A [(a_t, .inr (2, [.ref a_t_store, .int u35.2.2.2.1, .int u35.2.2.2.2.1])), (a_t_store, .inr (4, [.ref ad38, .int u35.2.2.2.2.2.1])), (ad38, .inl (tB, u35.2.2.2.2.2.2.1, .inl u35.2.2.2.2.2.2.2))] := hD
    refine lv_if_ne (tgt := 38) hx hb d_Bits_passes_33 (by decide) (fun c0 => ?_) (fun c0 => ?_)
    · have hf := ite_f c0 hf
      refine lv_aload_n hx hb d_Bits_passes_38 rfl (lv_at hl 0 rfl) ?_
      refine lv_iload_n hx hb d_Bits_passes_39 rfl (lv_at hl 1 rfl) ?_
      refine lv_iconst (v := 3) hx hb d_Bits_passes_40 (by decide) ?_
      refine lv_isub hx hb d_Bits_passes_41 ?_
      refine lv_topi (fun x39 ex39 => ?_)
      have hf := letb_of hf ex39
      refine lv_iconst (v := 3) hx hb d_Bits_passes_42 (by decide) ?_
      refine va_mmin hx hb (by rw [hml]; exact hl.1.symm) hown (hts _ q_68) (hts _ q_2) (hts _ q_3) (hts _ q_4) (Nat.le_of_ble_eq_true rfl) (Nat.le_of_ble_eq_true rfl) (Nat.le_trans (Nat.le_add_right _ _) hc.1) (Nat.le_trans (Nat.le_add_right _ _) hc.2) d_Bits_passes_43 ?_
      refine lv_topi (fun x40 ex40 => ?_)
      have hf := letb_of hf ex40
      refine lv_i2l hx hb d_Bits_passes_46 rfl ?_
      refine lv_topl (fun x41 ex41 => ?_)
      have hf := letb_of hf ex41
      refine lv_iconst (v := 2) hx hb d_Bits_passes_47 (by decide) ?_
      obtain ⟨u42, hu, hf⟩ := bd_of hf
      obtain ⟨nB43, sB44, hf, ha9, hb9⟩ := addc_of hf
      have hcc : cells + u35.1 + u42.1 ≤ nc ∧ slots + u35.2.1 + u42.2.1 ≤ ns := ⟨by omega, by omega⟩
      have hc : cells + u35.1 + u42.1 + nB43 ≤ nc ∧ slots + u35.2.1 + u42.2.1 + sB44 ≤ ns := ⟨by omega, by omega⟩
      refine jn_l (wc := [(a_t, .inr (2, [.ref a_t_store, .int u35.2.2.2.1, .int u35.2.2.2.2.1])), (a_t_store, .inr (4, [.ref ad38, .int u35.2.2.2.2.2.1])), (ad38, .inl (tB, u35.2.2.2.2.2.2.1, .inl u35.2.2.2.2.2.2.2))]) (wr := []) (va_runU (As := [.long x41, .int 2]) (rest := []) ⟨hx, hb, hml, hown, hts⟩ (c_Bits_numberW l dC dI tI tB tL tZ a_t a_t_store ad38 H.size u35.2.2.2.1 u35.2.2.2.2.1 u35.2.2.2.2.2.1 u35.2.2.2.2.2.2.1 u35.2.2.2.2.2.2.2 x41 2 F u42.1 u42.2.1 u42.2.2 hu) (cu_of hts q_70 q_72 q_32 q_69 q_71 q_73 hd_Bits_number ⟨Nat.le_of_ble_eq_true rfl, Nat.le_of_ble_eq_true rfl⟩) (pr_V (ci := 2) (C := R_Sink) (q0 := 0) hK hN (hP.sub [0, 1, 2] rfl) (hD.sub [0, 1, 2] (by decide) rfl) rfl rfl) rfl rfl hl.1 rfl (lv_room (Nat.le_of_ble_eq_true rfl)) d_Bits_passes_48 hcc) hP hD hS hA [0, 1, 2] [] rfl rfl (by decide) (by decide) (fun r9 ad45 H locs hw hP hD hS => ?_)
      subst r9
      have hP : va_P (dC, dI) classes [(a_t, .inr (2, [.ref a_t_store, .int u42.2.2.2.1, .int u42.2.2.2.2.1])), (a_t_store, .inr (4, [.ref ad45, .int u42.2.2.2.2.2.1])), (ad45, .inl (tB, u42.2.2.2.2.2.2.1, .inl u42.2.2.2.2.2.2.2))] H := hP
      have hD : va_D A [(a_t, .inr (2, [.ref a_t_store, .int u42.2.2.2.1, .int u42.2.2.2.2.1])), (a_t_store, .inr (4, [.ref ad45, .int u42.2.2.2.2.2.1])), (ad45, .inl (tB, u42.2.2.2.2.2.2.1, .inl u42.2.2.2.2.2.2.2))] := hD
      refine lv_l2i hx hb d_Bits_passes_51 rfl ?_
      refine lv_topi (fun x46 ex46 => ?_)
      have hf := letb_of hf ex46
      refine lv_istore_n (lv' := [(2, .int x46), (0, .ref a_t), (1, .int v1)]) hx hb d_Bits_passes_52 rfl hl (by decide) rfl (fun ls hl => ?_)
      refine lv_iload_n hx hb d_Bits_passes_53 rfl (lv_at hl 0 rfl) ?_
      refine lv_iconst (v := 3) hx hb d_Bits_passes_54 (by decide) ?_
      refine lv_icmp_ge (tgt := 62) hx hb d_Bits_passes_55 (by decide) (fun c0 => ?_) (fun c0 => ?_)
      · have hf := ite_t c0 hf
        refine lv_aload_n hx hb d_Bits_passes_62 rfl (lv_at hl 1 rfl) ?_
        refine lv_iload_n hx hb d_Bits_passes_63 rfl (lv_at hl 2 rfl) ?_
        refine lv_bipush (v := 6) hx hb d_Bits_passes_64 (by decide) ?_
        refine lv_isub hx hb d_Bits_passes_66 ?_
        refine lv_topi (fun x47 ex47 => ?_)
        have hf := letb_of hf ex47
        refine lv_bipush (v := 31) hx hb d_Bits_passes_67 (by decide) ?_
        refine va_mmin hx hb (by rw [hml]; exact hl.1.symm) hown (hts _ q_68) (hts _ q_2) (hts _ q_3) (hts _ q_4) (Nat.le_of_ble_eq_true rfl) (Nat.le_of_ble_eq_true rfl) (Nat.le_trans (Nat.le_add_right _ _) hc.1) (Nat.le_trans (Nat.le_add_right _ _) hc.2) d_Bits_passes_69 ?_
        refine lv_topi (fun x48 ex48 => ?_)
        have hf := letb_of hf ex48
        refine lv_i2l hx hb d_Bits_passes_72 rfl ?_
        refine lv_topl (fun x49 ex49 => ?_)
        have hf := letb_of hf ex49
        refine lv_iconst (v := 5) hx hb d_Bits_passes_73 (by decide) ?_
        obtain ⟨u50, hu, hf⟩ := bd_of hf
        obtain ⟨nB51, sB52, hf, ha9, hb9⟩ := addc_of hf
        have hcc : cells + u35.1 + u42.1 + u50.1 ≤ nc ∧ slots + u35.2.1 + u42.2.1 + u50.2.1 ≤ ns := ⟨by omega, by omega⟩
        have hc : cells + u35.1 + u42.1 + u50.1 + nB51 ≤ nc ∧ slots + u35.2.1 + u42.2.1 + u50.2.1 + sB52 ≤ ns := ⟨by omega, by omega⟩
        refine jn_l (wc := [(a_t, .inr (2, [.ref a_t_store, .int u42.2.2.2.1, .int u42.2.2.2.2.1])), (a_t_store, .inr (4, [.ref ad45, .int u42.2.2.2.2.2.1])), (ad45, .inl (tB, u42.2.2.2.2.2.2.1, .inl u42.2.2.2.2.2.2.2))]) (wr := []) (va_runU (As := [.long x49, .int 5]) (rest := []) ⟨hx, hb, hml, hown, hts⟩ (c_Bits_numberW l dC dI tI tB tL tZ a_t a_t_store ad45 H.size u42.2.2.2.1 u42.2.2.2.2.1 u42.2.2.2.2.2.1 u42.2.2.2.2.2.2.1 u42.2.2.2.2.2.2.2 x49 5 F u50.1 u50.2.1 u50.2.2 hu) (cu_of hts q_70 q_72 q_32 q_69 q_71 q_73 hd_Bits_number ⟨Nat.le_of_ble_eq_true rfl, Nat.le_of_ble_eq_true rfl⟩) (pr_V (ci := 2) (C := R_Sink) (q0 := 0) hK hN (hP.sub [0, 1, 2] rfl) (hD.sub [0, 1, 2] (by decide) rfl) rfl rfl) rfl rfl hl.1 rfl (lv_room (Nat.le_of_ble_eq_true rfl)) d_Bits_passes_74 hcc) hP hD hS hA [0, 1, 2] [] rfl rfl (by decide) (by decide) (fun r9 ad53 H locs hw hP hD hS => ?_)
        subst r9
        have hP : va_P (dC, dI) classes [(a_t, .inr (2, [.ref a_t_store, .int u50.2.2.2.1, .int u50.2.2.2.2.1])), (a_t_store, .inr (4, [.ref ad53, .int u50.2.2.2.2.2.1])), (ad53, .inl (tB, u50.2.2.2.2.2.2.1, .inl u50.2.2.2.2.2.2.2))] H := hP
        have hD : va_D A [(a_t, .inr (2, [.ref a_t_store, .int u50.2.2.2.1, .int u50.2.2.2.2.1])), (a_t_store, .inr (4, [.ref ad53, .int u50.2.2.2.2.2.1])), (ad53, .inl (tB, u50.2.2.2.2.2.2.1, .inl u50.2.2.2.2.2.2.2))] := hD
        refine lv_l2i hx hb d_Bits_passes_77 rfl ?_
        refine lv_topi (fun x54 ex54 => ?_)
        have hf := letb_of hf ex54
        refine lv_istore_n (lv' := [(3, .int x54), (2, .int x46), (0, .ref a_t), (1, .int v1)]) hx hb d_Bits_passes_78 rfl hl (by decide) rfl (fun ls hl => ?_)
        refine lv_iload_n hx hb d_Bits_passes_79 rfl (lv_at hl 0 rfl) ?_
        refine lv_bipush (v := 31) hx hb d_Bits_passes_80 (by decide) ?_
        refine lv_icmp_ge (tgt := 90) hx hb d_Bits_passes_82 (by decide) (fun c0 => ?_) (fun c0 => ?_)
        · have hf := ite_t c0 hf
          refine lv_bipush (v := 37) hx hb d_Bits_passes_90 (by decide) ?_
          refine lv_aload_n hx hb d_Bits_passes_92 rfl (lv_at hl 2 rfl) ?_
          refine lv_iload_n hx hb d_Bits_passes_93 rfl (lv_at hl 3 rfl) ?_
          refine lv_bipush (v := 37) hx hb d_Bits_passes_94 (by decide) ?_
          refine lv_isub hx hb d_Bits_passes_96 ?_
          refine lv_topi (fun x55 ex55 => ?_)
          have hf := letb_of hf ex55
          refine lv_i2l hx hb d_Bits_passes_97 rfl ?_
          refine lv_topl (fun x56 ex56 => ?_)
          have hf := letb_of hf ex56
          refine lv_bipush (v := 7) hx hb d_Bits_passes_98 (by decide) ?_
          obtain ⟨u57, hu, hf⟩ := bd_of hf
          obtain ⟨nB58, sB59, hf, ha9, hb9⟩ := addc_of hf
          have hcc : cells + u35.1 + u42.1 + u50.1 + u57.1 ≤ nc ∧ slots + u35.2.1 + u42.2.1 + u50.2.1 + u57.2.1 ≤ ns := ⟨by omega, by omega⟩
          have hc : cells + u35.1 + u42.1 + u50.1 + u57.1 + nB58 ≤ nc ∧ slots + u35.2.1 + u42.2.1 + u50.2.1 + u57.2.1 + sB59 ≤ ns := ⟨by omega, by omega⟩
          refine jn_l (wc := [(a_t, .inr (2, [.ref a_t_store, .int u50.2.2.2.1, .int u50.2.2.2.2.1])), (a_t_store, .inr (4, [.ref ad53, .int u50.2.2.2.2.2.1])), (ad53, .inl (tB, u50.2.2.2.2.2.2.1, .inl u50.2.2.2.2.2.2.2))]) (wr := []) (va_runU (As := [.long x56, .int 7]) (rest := [.int 37]) ⟨hx, hb, hml, hown, hts⟩ (c_Bits_numberW l dC dI tI tB tL tZ a_t a_t_store ad53 H.size u50.2.2.2.1 u50.2.2.2.2.1 u50.2.2.2.2.2.1 u50.2.2.2.2.2.2.1 u50.2.2.2.2.2.2.2 x56 7 F u57.1 u57.2.1 u57.2.2 hu) (cu_of hts q_70 q_72 q_32 q_69 q_71 q_73 hd_Bits_number ⟨Nat.le_of_ble_eq_true rfl, Nat.le_of_ble_eq_true rfl⟩) (pr_V (ci := 2) (C := R_Sink) (q0 := 0) hK hN (hP.sub [0, 1, 2] rfl) (hD.sub [0, 1, 2] (by decide) rfl) rfl rfl) rfl rfl hl.1 rfl (lv_room (Nat.le_of_ble_eq_true rfl)) d_Bits_passes_100 hcc) hP hD hS hA [0, 1, 2] [] rfl rfl (by decide) (by decide) (fun r9 ad60 H locs hw hP hD hS => ?_)
          subst r9
          have hP : va_P (dC, dI) classes [(a_t, .inr (2, [.ref a_t_store, .int u57.2.2.2.1, .int u57.2.2.2.2.1])), (a_t_store, .inr (4, [.ref ad60, .int u57.2.2.2.2.2.1])), (ad60, .inl (tB, u57.2.2.2.2.2.2.1, .inl u57.2.2.2.2.2.2.2))] H := hP
          have hD : va_D A [(a_t, .inr (2, [.ref a_t_store, .int u57.2.2.2.1, .int u57.2.2.2.2.1])), (a_t_store, .inr (4, [.ref ad60, .int u57.2.2.2.2.2.1])), (ad60, .inl (tB, u57.2.2.2.2.2.2.1, .inl u57.2.2.2.2.2.2.2))] := hD
          refine lv_l2i hx hb d_Bits_passes_103 rfl ?_
          refine lv_topi (fun x61 ex61 => ?_)
          have hf := letb_of hf ex61
          refine lv_iadd hx hb d_Bits_passes_104 ?_
          refine lv_topi (fun x62 ex62 => ?_)
          have hf := letb_of hf ex62
          have hf := Option.some.inj hf
          have hf : _ = u := congrArg (fun z => z.2.2) hf
          subst u
          exact ret _ _ _ _ _ _ ad60 d_Bits_passes_105 rfl hP hD hS (Nat.le_trans (Nat.le_add_right _ _) hc.1) (Nat.le_trans (Nat.le_add_right _ _) hc.2)
        · have hf := ite_f c0 hf
          refine lv_bipush (v := 6) hx hb d_Bits_passes_85 (by decide) ?_
          refine lv_iload_n hx hb d_Bits_passes_87 rfl (lv_at hl 0 rfl) ?_
          refine lv_iadd hx hb d_Bits_passes_88 ?_
          refine lv_topi (fun x63 ex63 => ?_)
          have hf := letb_of hf ex63
          have hf := Option.some.inj hf
          have hf : _ = u := congrArg (fun z => z.2.2) hf
          subst u
          exact ret _ _ _ _ _ _ ad53 d_Bits_passes_89 rfl hP hD hS (Nat.le_trans (Nat.le_add_right _ _) hc.1) (Nat.le_trans (Nat.le_add_right _ _) hc.2)
      · have hf := ite_f c0 hf
        refine lv_iconst (v := 3) hx hb d_Bits_passes_58 (by decide) ?_
        refine lv_iload_n hx hb d_Bits_passes_59 rfl (lv_at hl 0 rfl) ?_
        refine lv_iadd hx hb d_Bits_passes_60 ?_
        refine lv_topi (fun x64 ex64 => ?_)
        have hf := letb_of hf ex64
        have hf := Option.some.inj hf
        have hf : _ = u := congrArg (fun z => z.2.2) hf
        subst u
        exact ret _ _ _ _ _ _ ad45 d_Bits_passes_61 rfl hP hD hS (Nat.le_trans (Nat.le_add_right _ _) hc.1) (Nat.le_trans (Nat.le_add_right _ _) hc.2)
    · have hf := ite_t c0 hf
      refine lv_iconst (v := 2) hx hb d_Bits_passes_36 (by decide) ?_
      have hf := Option.some.inj hf
      have hf : _ = u := congrArg (fun z => z.2.2) hf
      subst u
      exact ret _ _ _ _ _ _ ad38 d_Bits_passes_37 rfl hP hD hS (Nat.le_trans (Nat.le_add_right _ _) hc.1) (Nat.le_trans (Nat.le_add_right _ _) hc.2)
  have k_11 : ∀ (t_gathered : Int32) (t_room : Int32) (t_store_count : Int32) (t_store_row_N : Nat) (t_store_row_F : Nat → Int32) (v1 : Int32) (s0 : Int32) (a_t_store_row : Nat) (H : Heap) (locs : List Loc) (cells slots nB sB : Nat) (ls : Array Slot), va_P (dC, dI) classes [(a_t, .inr (2, [.ref a_t_store, .int t_gathered, .int t_room])), (a_t_store, .inr (4, [.ref a_t_store_row, .int t_store_count])), (a_t_store_row, .inl (tB, t_store_row_N, .inl t_store_row_F))] H → va_D A [(a_t, .inr (2, [.ref a_t_store, .int t_gathered, .int t_room])), (a_t_store, .inr (4, [.ref a_t_store_row, .int t_store_count])), (a_t_store_row, .inl (tB, t_store_row_N, .inl t_store_row_F))] → va_S A s.heap H locs → lv_has ls 4 [(0, .ref a_t), (1, .int v1)] → (cells + nB ≤ nc ∧ slots + sB ≤ ns) → g_Bits_passesW_11 F t_gathered t_room t_store_count t_store_row_N t_store_row_F v1 s0 = some (nB, sB, u) → W p l e ({ frames := 5, cells := nc, slots := ns, locals := 130 } : Room) s m args below meth c H locs cells slots Q (F0 m 11 ls [.int s0, .ref a_t]) := by
    intro t_gathered t_room t_store_count t_store_row_N t_store_row_F v1 s0 a_t_store_row H locs cells slots nB sB ls hP hD hS hl hc hf
    unfold g_Bits_passesW_11 at hf
    obtain ⟨u65, hu, hf⟩ := bd_of hf
    obtain ⟨nB66, sB67, hf, ha9, hb9⟩ := addc_of hf
    have hcc : cells + u65.1 ≤ nc ∧ slots + u65.2.1 ≤ ns := ⟨by omega, by omega⟩
    have hc : cells + u65.1 + nB66 ≤ nc ∧ slots + u65.2.1 + sB67 ≤ ns := ⟨by omega, by omega⟩
    refine jn_i (wc := [(a_t, .inr (2, [.ref a_t_store, .int t_gathered, .int t_room])), (a_t_store, .inr (4, [.ref a_t_store_row, .int t_store_count])), (a_t_store_row, .inl (tB, t_store_row_N, .inl t_store_row_F))]) (wr := []) (va_runU (As := [.int s0]) (rest := []) ⟨hx, hb, hml, hown, hts⟩ (c_Sink_bit l dC dI tI tB tL tZ a_t a_t_store a_t_store_row H.size t_gathered t_room t_store_count t_store_row_N t_store_row_F s0 F u65.1 u65.2.1 u65.2.2 hu) (ca_of hts hN q_67 q_63 q_65 q_62 q_61 q_64 q_66 hd_Bits_bit ⟨Nat.le_of_ble_eq_true rfl, Nat.le_of_ble_eq_true rfl⟩) (pr_V (ci := 2) (C := R_Sink) (q0 := 0) hK hN (hP.sub [0, 1, 2] rfl) (hD.sub [0, 1, 2] (by decide) rfl) rfl rfl) rfl rfl hl.1 rfl (lv_room (Nat.le_of_ble_eq_true rfl)) d_Bits_passes_11 hcc) hP hD hS hA [0, 1, 2] [] rfl rfl (by decide) (by decide) (fun r9 ad68 H locs hw hP hD hS => ?_)
    subst r9
    have hP : va_P (dC, dI) classes [(a_t, .inr (2, [.ref a_t_store, .int u65.2.2.2.1, .int u65.2.2.2.2.1])), (a_t_store, .inr (4, [.ref ad68, .int u65.2.2.2.2.2.1])), (ad68, .inl (tB, u65.2.2.2.2.2.2.1, .inl u65.2.2.2.2.2.2.2))] H := hP
    have hD : va_D A [(a_t, .inr (2, [.ref a_t_store, .int u65.2.2.2.1, .int u65.2.2.2.2.1])), (a_t_store, .inr (4, [.ref ad68, .int u65.2.2.2.2.2.1])), (ad68, .inl (tB, u65.2.2.2.2.2.2.1, .inl u65.2.2.2.2.2.2.2))] := hD
    refine lv_if_ne (tgt := 19) hx hb d_Bits_passes_14 (by decide) (fun c0 => ?_) (fun c0 => ?_)
    · have hf := ite_f c0 hf
      refine lv_aload_n hx hb d_Bits_passes_19 rfl (lv_at hl 0 rfl) ?_
      refine lv_iload_n hx hb d_Bits_passes_20 rfl (lv_at hl 1 rfl) ?_
      refine lv_iconst (v := 2) hx hb d_Bits_passes_21 (by decide) ?_
      refine lv_icmp_le (tgt := 29) hx hb d_Bits_passes_22 (by decide) (fun c0 => ?_) (fun c0 => ?_)
      · have hf := ite_t c0 hf
        refine lv_iconst (v := 0) hx hb d_Bits_passes_29 (by decide) ?_
        exact k_30 u65.2.2.2.1 u65.2.2.2.2.1 u65.2.2.2.2.2.1 u65.2.2.2.2.2.2.1 u65.2.2.2.2.2.2.2 v1 0 ad68 _ _ _ _ _ _ ls hP hD hS hl hc hf
      · have hf := ite_f c0 hf
        refine lv_iconst (v := 1) hx hb d_Bits_passes_25 (by decide) ?_
        refine lv_goto (tgt := 30) hx hb d_Bits_passes_26 (by decide) ?_
        exact k_30 u65.2.2.2.1 u65.2.2.2.2.1 u65.2.2.2.2.2.1 u65.2.2.2.2.2.2.1 u65.2.2.2.2.2.2.2 v1 1 ad68 _ _ _ _ _ _ ls hP hD hS hl hc hf
    · have hf := ite_t c0 hf
      refine lv_iconst (v := 1) hx hb d_Bits_passes_17 (by decide) ?_
      have hf := Option.some.inj hf
      have hf : _ = u := congrArg (fun z => z.2.2) hf
      subst u
      exact ret _ _ _ _ _ _ ad68 d_Bits_passes_18 rfl hP hD hS (Nat.le_trans (Nat.le_add_right _ _) hc.1) (Nat.le_trans (Nat.le_add_right _ _) hc.2)
  have hc : 0 + nc ≤ nc ∧ 0 + ns ≤ ns := ⟨by omega, by omega⟩
  unfold f_Bits_passesW at hf
  refine lv_aload_n hx hb d_Bits_passes_0 rfl (lv_at hl 0 rfl) ?_
  refine lv_iload_n hx hb d_Bits_passes_1 rfl (lv_at hl 1 rfl) ?_
  refine lv_iconst (v := 1) hx hb d_Bits_passes_2 (by decide) ?_
  refine lv_icmp_le (tgt := 10) hx hb d_Bits_passes_3 (by decide) (fun c0 => ?_) (fun c0 => ?_)
  · have hf := ite_t c0 hf
    refine lv_iconst (v := 0) hx hb d_Bits_passes_10 (by decide) ?_
    exact k_11 t_gathered t_room t_store_count t_store_row_N t_store_row_F p0 0 a_t_store_row _ _ _ _ _ _ ls hP hD hS hl hc hf
  · have hf := ite_f c0 hf
    refine lv_iconst (v := 1) hx hb d_Bits_passes_6 (by decide) ?_
    refine lv_goto (tgt := 11) hx hb d_Bits_passes_7 (by decide) ?_
    exact k_11 t_gathered t_room t_store_count t_store_row_N t_store_row_F p0 1 a_t_store_row _ _ _ _ _ _ ls hP hD hS hl hc hf
noncomputable def g_Bits_numberR_8 (F : Nat) (rec8 : Int32 → Int32 → Int32 → Int32 → Int64 → Int64 → Int32 → Option (Int64 × Int32 × Int32 × Int32 × Int32)) (t_end : Int32) (t_store_count : Int32) (t_store_row_N : Nat) (t_store_row_F : Nat → Int32) (t_next : Int32) (t_latest : Int32) (t_left : Int32) (t_lacking : Int32) (v1 : Int64) (v4 : Int64) (v6 : Int32) : Option (Int64 × Int32 × Int32 × Int32 × Int32) :=
if v6 < 0 then (
some (v4, t_next, t_latest, t_left, t_lacking)) else (
letb (v4 * 2) fun x10 =>
letb (v1 >>> (v6.toInt64 &&& 63)) fun x11 =>
letb (x11.toInt32) fun x12 =>
letb (x12 &&& 1) fun x13 =>
bd (f_Source_bit F t_next t_end t_latest t_left t_lacking t_store_count t_store_row_N t_store_row_F) fun u14 =>
letb (u14.1.toInt64) fun x15 =>
letb (x10 + x15) fun x16 =>
letb (v6 + (-1)) fun x17 =>
rec8 u14.2.1 u14.2.2.1 u14.2.2.2.1 u14.2.2.2.2 v1 x16 x17)
noncomputable def f_Bits_numberR_8 (F : Nat) (t_end : Int32) (t_store_count : Int32) (t_store_row_N : Nat) (t_store_row_F : Nat → Int32) : Nat → Int32 → Int32 → Int32 → Int32 → Int64 → Int64 → Int32 → Option (Int64 × Int32 × Int32 × Int32 × Int32)
  | 0 => fun _ _ _ _ _ _ _ => none
  | n + 1 => fun t_next t_latest t_left t_lacking v1 v4 v6 => g_Bits_numberR_8 F (f_Bits_numberR_8 F t_end t_store_count t_store_row_N t_store_row_F n) t_end t_store_count t_store_row_N t_store_row_F t_next t_latest t_left t_lacking v1 v4 v6
noncomputable def f_Bits_numberR (F : Nat) (t_next : Int32) (t_end : Int32) (t_latest : Int32) (t_left : Int32) (t_lacking : Int32) (t_store_count : Int32) (t_store_row_N : Nat) (t_store_row_F : Nat → Int32) (p0 : Int64) (p1 : Int32) : Option (Int64 × Int32 × Int32 × Int32 × Int32) :=
letb (p1 - 1) fun x18 =>
f_Bits_numberR_8 F t_end t_store_count t_store_row_N t_store_row_F F t_next t_latest t_left t_lacking p0 0 x18
set_option maxHeartbeats 4000000 in
set_option maxRecDepth 100000 in
theorem c_Bits_numberR (l : Launch) (dC : Nat → ClassId) (dI : Nat → Nat → Nat) (tI tB tL tZ : ClassId) (a_t : Nat) (a_t_store : Nat) (a_t_store_row : Nat) (sz : Nat) (t_start : Int32) (t_next : Int32) (t_end : Int32) (t_latest : Int32) (t_left : Int32) (t_lacking : Int32) (t_store_count : Int32) (t_store_row_N : Nat) (t_store_row_F : Nat → Int32) (p0 : Int64) (p1 : Int32) (F : Nat) (u : Int64 × Int32 × Int32 × Int32 × Int32) (hf : f_Bits_numberR F t_next t_end t_latest t_left t_lacking t_store_count t_store_row_N t_store_row_F p0 p1 = some u) : CTl l y_Bits_number b_Bits_number 7 3 62 (dC, dI) classes [(tI, .int), (tB, .byte), (tL, .long), (tZ, .boolean)] [.ref a_t, .long p0, .int p1] [(a_t, .inr (3, [.ref a_t_store, .int t_start, .int t_next, .int t_end, .int t_latest, .int t_left, .int t_lacking])), (a_t_store, .inr (4, [.ref a_t_store_row, .int t_store_count])), (a_t_store_row, .inl (tB, t_store_row_N, .inl t_store_row_F))] sz (fun q : Unit => [(a_t, .inr (3, [.ref a_t_store, .int t_start, .int u.2.1, .int t_end, .int u.2.2.1, .int u.2.2.2.1, .int u.2.2.2.2])), (a_t_store, .inr (4, [.ref a_t_store_row, .int t_store_count])), (a_t_store_row, .inl (tB, t_store_row_N, .inl t_store_row_F))]) (u.1) 0 0 := by
  refine mk_l (by decide) (Nat.le_of_ble_eq_true rfl) ?_
  intro p e s m args below meth c ls A Q hx hb hml hts hown hin hK hN hP hD hA hl ret
  obtain ⟨H, hH⟩ : ∃ H : Heap, H = s.heap := ⟨_, rfl⟩
  have hS : va_S A s.heap H [] := by rw [hH]; exact va_S.rf
  rw [← hH] at hP ⊢
  have hl : lv_has ls 7 [(0, .ref a_t), (1, .long p0), (3, .int p1)] := hl
  have k_8 : ∀ n : Nat, ∀ (t_next : Int32) (t_latest : Int32) (t_left : Int32) (t_lacking : Int32) (v1 : Int64) (v4 : Int64) (v6 : Int32) (H : Heap) (locs : List Loc) (cells slots : Nat) (ls : Array Slot), va_P (dC, dI) classes [(a_t, .inr (3, [.ref a_t_store, .int t_start, .int t_next, .int t_end, .int t_latest, .int t_left, .int t_lacking])), (a_t_store, .inr (4, [.ref a_t_store_row, .int t_store_count])), (a_t_store_row, .inl (tB, t_store_row_N, .inl t_store_row_F))] H → va_D A [(a_t, .inr (3, [.ref a_t_store, .int t_start, .int t_next, .int t_end, .int t_latest, .int t_left, .int t_lacking])), (a_t_store, .inr (4, [.ref a_t_store_row, .int t_store_count])), (a_t_store_row, .inl (tB, t_store_row_N, .inl t_store_row_F))] → va_S A s.heap H locs → lv_has ls 7 [(0, .ref a_t), (1, .long v1), (4, .long v4), (6, .int v6)] → (cells ≤ 0 ∧ slots ≤ 0) → f_Bits_numberR_8 F t_end t_store_count t_store_row_N t_store_row_F n t_next t_latest t_left t_lacking v1 v4 v6 = some u → W p l e ({ frames := 3, cells := 0, slots := 0, locals := 62 } : Room) s m args below meth c H locs cells slots Q (F0 m 8 ls []) := by
    intro n
    induction n with
    | zero => intro t_next t_latest t_left t_lacking v1 v4 v6 H locs cells slots ls hP hD hS hl hc hf; exact absurd hf (by intro h9; cases h9)
    | succ n h8 =>
      intro t_next t_latest t_left t_lacking v1 v4 v6 H locs cells slots ls hP hD hS hl hc hf
      have hf : g_Bits_numberR_8 F (f_Bits_numberR_8 F t_end t_store_count t_store_row_N t_store_row_F n) t_end t_store_count t_store_row_N t_store_row_F t_next t_latest t_left t_lacking v1 v4 v6 = some u := hf
      generalize (f_Bits_numberR_8 F t_end t_store_count t_store_row_N t_store_row_F n) = rec8 at hf h8
      unfold g_Bits_numberR_8 at hf
      refine lv_iload hx hb d_Bits_number_8 (lv_at hl 3 rfl) ?_
      refine lv_if_lt (tgt := 40) hx hb d_Bits_number_10 (by decide) (fun c0 => ?_) (fun c0 => ?_)
      · have hf := ite_t c0 hf
        refine lv_lload hx hb d_Bits_number_40 (lv_at hl 2 rfl) ?_
        have hf := Option.some.inj hf
        subst u
        exact ret _ _ _ _ _ _ () d_Bits_number_42 hP hD hS hc.1 hc.2
      · have hf := ite_f c0 hf
        refine lv_lload hx hb d_Bits_number_13 (lv_at hl 2 rfl) ?_
        refine lv_ldc2 (v := 2) hx hb hown (hts _ q_60) d_Bits_number_15 ?_
        refine lv_lmul hx hb d_Bits_number_18 ?_
        refine lv_topl (fun x10 ex10 => ?_)
        have hf := letb_of hf ex10
        refine lv_aload_n hx hb d_Bits_number_19 rfl (lv_at hl 0 rfl) ?_
        refine lv_lload_n hx hb d_Bits_number_20 rfl (lv_at hl 1 rfl) ?_
        refine lv_iload hx hb d_Bits_number_21 (lv_at hl 3 rfl) ?_
        refine lv_lshr hx hb d_Bits_number_23 rfl ?_
        refine lv_topl (fun x11 ex11 => ?_)
        have hf := letb_of hf ex11
        refine lv_l2i hx hb d_Bits_number_24 rfl ?_
        refine lv_topi (fun x12 ex12 => ?_)
        have hf := letb_of hf ex12
        refine lv_iconst (v := 1) hx hb d_Bits_number_25 (by decide) ?_
        refine lv_iand hx hb d_Bits_number_26 ?_
        refine lv_topi (fun x13 ex13 => ?_)
        have hf := letb_of hf ex13
        obtain ⟨u14, hu, hf⟩ := bd_of hf
        refine jn_i (wc := [(a_t, .inr (3, [.ref a_t_store, .int t_start, .int t_next, .int t_end, .int t_latest, .int t_left, .int t_lacking])), (a_t_store, .inr (4, [.ref a_t_store_row, .int t_store_count])), (a_t_store_row, .inl (tB, t_store_row_N, .inl t_store_row_F))]) (wr := []) (va_runU (As := [.int x13]) (rest := [.long x10]) ⟨hx, hb, hml, hown, hts⟩ (c_Source_bit l dC dI tI tB tL tZ a_t a_t_store a_t_store_row H.size t_start t_next t_end t_latest t_left t_lacking t_store_count t_store_row_N t_store_row_F x13 F u14 hu) (ca_of hts hN q_67 q_63 q_65 q_56 q_74 q_75 q_76 hd_Bits_bit ⟨Nat.le_of_ble_eq_true rfl, Nat.le_of_ble_eq_true rfl⟩) (pr_V (ci := 3) (C := R_Source) (q0 := 0) hK hN (hP.sub [0, 1, 2] rfl) (hD.sub [0, 1, 2] (by decide) rfl) rfl rfl) rfl rfl hl.1 rfl (lv_room (Nat.le_of_ble_eq_true rfl)) d_Bits_number_27 hc) hP hD hS hA [0, 1, 2] [] rfl rfl (by decide) (by decide) (fun r9 _ H locs hw hP hD hS => ?_)
        subst r9
        have hP : va_P (dC, dI) classes [(a_t, .inr (3, [.ref a_t_store, .int t_start, .int u14.2.1, .int t_end, .int u14.2.2.1, .int u14.2.2.2.1, .int u14.2.2.2.2])), (a_t_store, .inr (4, [.ref a_t_store_row, .int t_store_count])), (a_t_store_row, .inl (tB, t_store_row_N, .inl t_store_row_F))] H := hP
        have hD : va_D A [(a_t, .inr (3, [.ref a_t_store, .int t_start, .int u14.2.1, .int t_end, .int u14.2.2.1, .int u14.2.2.2.1, .int u14.2.2.2.2])), (a_t_store, .inr (4, [.ref a_t_store_row, .int t_store_count])), (a_t_store_row, .inl (tB, t_store_row_N, .inl t_store_row_F))] := hD
        refine lv_i2l hx hb d_Bits_number_30 rfl ?_
        refine lv_topl (fun x15 ex15 => ?_)
        have hf := letb_of hf ex15
        refine lv_ladd hx hb d_Bits_number_31 ?_
        refine lv_topl (fun x16 ex16 => ?_)
        have hf := letb_of hf ex16
        refine lv_lstore (lv' := [(4, .long x16), (0, .ref a_t), (1, .long v1), (6, .int v6)]) hx hb d_Bits_number_32 hl (by decide) rfl (fun ls hl => ?_)
        obtain ⟨x17, ex17⟩ : ∃ y : Int32, y = v6 + (-1) := ⟨_, rfl⟩
        have hf := letb_of hf ex17
        refine lv_iinc (v := x17) (lv' := [(6, .int x17), (4, .long x16), (0, .ref a_t), (1, .long v1)]) hx hb d_Bits_number_34 hl (k := 3) rfl (by rw [ex17]; rfl) (by decide) rfl (fun ls hl => ?_)
        refine lv_goto (tgt := 8) hx hb d_Bits_number_37 (by decide) ?_
        exact h8 u14.2.1 u14.2.2.1 u14.2.2.2.1 u14.2.2.2.2 v1 x16 x17 _ _ _ _ ls hP hD hS (lv_sub hl [2, 3, 1, 0] rfl) hc hf
  have hc : 0 ≤ 0 ∧ 0 ≤ 0 := ⟨Nat.le_refl 0, Nat.le_refl 0⟩
  unfold f_Bits_numberR at hf
  refine lv_lconst (v := 0) hx hb d_Bits_number_0 (by decide) ?_
  refine lv_lstore (lv' := [(4, .long 0), (0, .ref a_t), (1, .long p0), (3, .int p1)]) hx hb d_Bits_number_1 hl (by decide) rfl (fun ls hl => ?_)
  refine lv_iload_n hx hb d_Bits_number_3 rfl (lv_at hl 3 rfl) ?_
  refine lv_iconst (v := 1) hx hb d_Bits_number_4 (by decide) ?_
  refine lv_isub hx hb d_Bits_number_5 ?_
  refine lv_topi (fun x18 ex18 => ?_)
  have hf := letb_of hf ex18
  refine lv_istore (lv' := [(6, .int x18), (4, .long 0), (0, .ref a_t), (1, .long p0), (3, .int p1)]) hx hb d_Bits_number_6 hl (by decide) rfl (fun ls hl => ?_)
  exact k_8 F t_next t_latest t_left t_lacking p0 0 x18 _ _ _ _ ls hP hD hS (lv_sub hl [2, 3, 1, 0] rfl) hc hf
noncomputable def g_Bits_passesR_30 (F : Nat) (t_end : Int32) (t_store_count : Int32) (t_store_row_N : Nat) (t_store_row_F : Nat → Int32) (t_next : Int32) (t_latest : Int32) (t_left : Int32) (t_lacking : Int32) (v1 : Int32) (s0 : Int32) : Option (Int32 × Int32 × Int32 × Int32 × Int32) :=
bd (f_Source_bit F t_next t_end t_latest t_left t_lacking t_store_count t_store_row_N t_store_row_F) fun u20 =>
if u20.1 = 0 then (
some (2, u20.2.1, u20.2.2.1, u20.2.2.2.1, u20.2.2.2.2)) else (
letb (v1 - 3) fun x21 =>
letb (if 3 < x21 then 3 else x21) fun x22 =>
letb (x22.toInt64) fun x23 =>
bd (f_Bits_numberR F u20.2.1 t_end u20.2.2.1 u20.2.2.2.1 u20.2.2.2.2 t_store_count t_store_row_N t_store_row_F x23 2) fun u24 =>
letb (u24.1.toInt32) fun x25 =>
if 3 ≤ x25 then (
letb (v1 - 6) fun x26 =>
letb (if 31 < x26 then 31 else x26) fun x27 =>
letb (x27.toInt64) fun x28 =>
bd (f_Bits_numberR F u24.2.1 t_end u24.2.2.1 u24.2.2.2.1 u24.2.2.2.2 t_store_count t_store_row_N t_store_row_F x28 5) fun u29 =>
letb (u29.1.toInt32) fun x30 =>
if 31 ≤ x30 then (
letb (v1 - 37) fun x31 =>
letb (x31.toInt64) fun x32 =>
bd (f_Bits_numberR F u29.2.1 t_end u29.2.2.1 u29.2.2.2.1 u29.2.2.2.2 t_store_count t_store_row_N t_store_row_F x32 7) fun u33 =>
letb (u33.1.toInt32) fun x34 =>
letb (37 + x34) fun x35 =>
some (x35, u33.2.1, u33.2.2.1, u33.2.2.2.1, u33.2.2.2.2)) else (
letb (6 + x30) fun x36 =>
some (x36, u29.2.1, u29.2.2.1, u29.2.2.2.1, u29.2.2.2.2))) else (
letb (3 + x25) fun x37 =>
some (x37, u24.2.1, u24.2.2.1, u24.2.2.2.1, u24.2.2.2.2)))
noncomputable def g_Bits_passesR_11 (F : Nat) (t_end : Int32) (t_store_count : Int32) (t_store_row_N : Nat) (t_store_row_F : Nat → Int32) (t_next : Int32) (t_latest : Int32) (t_left : Int32) (t_lacking : Int32) (v1 : Int32) (s0 : Int32) : Option (Int32 × Int32 × Int32 × Int32 × Int32) :=
bd (f_Source_bit F t_next t_end t_latest t_left t_lacking t_store_count t_store_row_N t_store_row_F) fun u38 =>
if u38.1 = 0 then (
some (1, u38.2.1, u38.2.2.1, u38.2.2.2.1, u38.2.2.2.2)) else (
if v1 ≤ 2 then (
g_Bits_passesR_30 F t_end t_store_count t_store_row_N t_store_row_F u38.2.1 u38.2.2.1 u38.2.2.2.1 u38.2.2.2.2 v1 0) else (
g_Bits_passesR_30 F t_end t_store_count t_store_row_N t_store_row_F u38.2.1 u38.2.2.1 u38.2.2.2.1 u38.2.2.2.2 v1 1))
noncomputable def f_Bits_passesR (F : Nat) (t_next : Int32) (t_end : Int32) (t_latest : Int32) (t_left : Int32) (t_lacking : Int32) (t_store_count : Int32) (t_store_row_N : Nat) (t_store_row_F : Nat → Int32) (p0 : Int32) : Option (Int32 × Int32 × Int32 × Int32 × Int32) :=
if p0 ≤ 1 then (
g_Bits_passesR_11 F t_end t_store_count t_store_row_N t_store_row_F t_next t_latest t_left t_lacking p0 0) else (
g_Bits_passesR_11 F t_end t_store_count t_store_row_N t_store_row_F t_next t_latest t_left t_lacking p0 1)
set_option maxHeartbeats 4000000 in
set_option maxRecDepth 100000 in
theorem c_Bits_passesR (l : Launch) (dC : Nat → ClassId) (dI : Nat → Nat → Nat) (tI tB tL tZ : ClassId) (a_t : Nat) (a_t_store : Nat) (a_t_store_row : Nat) (sz : Nat) (t_start : Int32) (t_next : Int32) (t_end : Int32) (t_latest : Int32) (t_left : Int32) (t_lacking : Int32) (t_store_count : Int32) (t_store_row_N : Nat) (t_store_row_F : Nat → Int32) (p0 : Int32) (F : Nat) (u : Int32 × Int32 × Int32 × Int32 × Int32) (hf : f_Bits_passesR F t_next t_end t_latest t_left t_lacking t_store_count t_store_row_N t_store_row_F p0 = some u) : CTi l y_Bits_passes b_Bits_passes 4 .int 4 88 (dC, dI) classes [(tI, .int), (tB, .byte), (tL, .long), (tZ, .boolean)] [.ref a_t, .int p0] [(a_t, .inr (3, [.ref a_t_store, .int t_start, .int t_next, .int t_end, .int t_latest, .int t_left, .int t_lacking])), (a_t_store, .inr (4, [.ref a_t_store_row, .int t_store_count])), (a_t_store_row, .inl (tB, t_store_row_N, .inl t_store_row_F))] sz (fun q : Unit => [(a_t, .inr (3, [.ref a_t_store, .int t_start, .int u.2.1, .int t_end, .int u.2.2.1, .int u.2.2.2.1, .int u.2.2.2.2])), (a_t_store, .inr (4, [.ref a_t_store_row, .int t_store_count])), (a_t_store_row, .inl (tB, t_store_row_N, .inl t_store_row_F))]) (u.1) 0 0 := by
  refine mk_i (by decide) (Nat.le_of_ble_eq_true rfl) ?_
  intro p e s m args below meth c ls A Q hx hb hml hts hown hin hK hN hP hD hA hl ret
  obtain ⟨H, hH⟩ : ∃ H : Heap, H = s.heap := ⟨_, rfl⟩
  have hS : va_S A s.heap H [] := by rw [hH]; exact va_S.rf
  rw [← hH] at hP ⊢
  have hl : lv_has ls 4 [(0, .ref a_t), (1, .int p0)] := hl
  have k_30 : ∀ (t_next : Int32) (t_latest : Int32) (t_left : Int32) (t_lacking : Int32) (v1 : Int32) (s0 : Int32) (H : Heap) (locs : List Loc) (cells slots : Nat) (ls : Array Slot), va_P (dC, dI) classes [(a_t, .inr (3, [.ref a_t_store, .int t_start, .int t_next, .int t_end, .int t_latest, .int t_left, .int t_lacking])), (a_t_store, .inr (4, [.ref a_t_store_row, .int t_store_count])), (a_t_store_row, .inl (tB, t_store_row_N, .inl t_store_row_F))] H → va_D A [(a_t, .inr (3, [.ref a_t_store, .int t_start, .int t_next, .int t_end, .int t_latest, .int t_left, .int t_lacking])), (a_t_store, .inr (4, [.ref a_t_store_row, .int t_store_count])), (a_t_store_row, .inl (tB, t_store_row_N, .inl t_store_row_F))] → va_S A s.heap H locs → lv_has ls 4 [(0, .ref a_t), (1, .int v1)] → (cells ≤ 0 ∧ slots ≤ 0) → g_Bits_passesR_30 F t_end t_store_count t_store_row_N t_store_row_F t_next t_latest t_left t_lacking v1 s0 = some u → W p l e ({ frames := 4, cells := 0, slots := 0, locals := 88 } : Room) s m args below meth c H locs cells slots Q (F0 m 30 ls [.int s0, .ref a_t]) := by
    intro t_next t_latest t_left t_lacking v1 s0 H locs cells slots ls hP hD hS hl hc hf
    unfold g_Bits_passesR_30 at hf
    obtain ⟨u20, hu, hf⟩ := bd_of hf
    refine jn_i (wc := [(a_t, .inr (3, [.ref a_t_store, .int t_start, .int t_next, .int t_end, .int t_latest, .int t_left, .int t_lacking])), (a_t_store, .inr (4, [.ref a_t_store_row, .int t_store_count])), (a_t_store_row, .inl (tB, t_store_row_N, .inl t_store_row_F))]) (wr := []) (va_runU (As := [.int s0]) (rest := []) ⟨hx, hb, hml, hown, hts⟩ (c_Source_bit l dC dI tI tB tL tZ a_t a_t_store a_t_store_row H.size t_start t_next t_end t_latest t_left t_lacking t_store_count t_store_row_N t_store_row_F s0 F u20 hu) (ca_of hts hN q_67 q_63 q_65 q_56 q_74 q_75 q_76 hd_Bits_bit ⟨Nat.le_of_ble_eq_true rfl, Nat.le_of_ble_eq_true rfl⟩) (pr_V (ci := 3) (C := R_Source) (q0 := 0) hK hN (hP.sub [0, 1, 2] rfl) (hD.sub [0, 1, 2] (by decide) rfl) rfl rfl) rfl rfl hl.1 rfl (lv_room (Nat.le_of_ble_eq_true rfl)) d_Bits_passes_30 hc) hP hD hS hA [0, 1, 2] [] rfl rfl (by decide) (by decide) (fun r9 _ H locs hw hP hD hS => ?_)
    subst r9
    have hP : va_P (dC, dI) classes [(a_t, .inr (3, [.ref a_t_store, .int t_start, .int u20.2.1, .int t_end, .int u20.2.2.1, .int u20.2.2.2.1, .int u20.2.2.2.2])), (a_t_store, .inr (4, [.ref a_t_store_row, .int t_store_count])), (a_t_store_row, .inl (tB, t_store_row_N, .inl t_store_row_F))] H := hP
    have hD : va_D A [(a_t, .inr (3, [.ref a_t_store, .int t_start, .int u20.2.1, .int t_end, .int u20.2.2.1, .int u20.2.2.2.1, .int u20.2.2.2.2])), (a_t_store, .inr (4, [.ref a_t_store_row, .int t_store_count])), (a_t_store_row, .inl (tB, t_store_row_N, .inl t_store_row_F))] := hD
    refine lv_if_ne (tgt := 38) hx hb d_Bits_passes_33 (by decide) (fun c0 => ?_) (fun c0 => ?_)
    · have hf := ite_f c0 hf
      refine lv_aload_n hx hb d_Bits_passes_38 rfl (lv_at hl 0 rfl) ?_
      refine lv_iload_n hx hb d_Bits_passes_39 rfl (lv_at hl 1 rfl) ?_
      refine lv_iconst (v := 3) hx hb d_Bits_passes_40 (by decide) ?_
      refine lv_isub hx hb d_Bits_passes_41 ?_
      refine lv_topi (fun x21 ex21 => ?_)
      have hf := letb_of hf ex21
      refine lv_iconst (v := 3) hx hb d_Bits_passes_42 (by decide) ?_
      refine va_mmin hx hb (by rw [hml]; exact hl.1.symm) hown (hts _ q_68) (hts _ q_2) (hts _ q_3) (hts _ q_4) (Nat.le_of_ble_eq_true rfl) (Nat.le_of_ble_eq_true rfl) hc.1 hc.2 d_Bits_passes_43 ?_
      refine lv_topi (fun x22 ex22 => ?_)
      have hf := letb_of hf ex22
      refine lv_i2l hx hb d_Bits_passes_46 rfl ?_
      refine lv_topl (fun x23 ex23 => ?_)
      have hf := letb_of hf ex23
      refine lv_iconst (v := 2) hx hb d_Bits_passes_47 (by decide) ?_
      obtain ⟨u24, hu, hf⟩ := bd_of hf
      refine jn_l (wc := [(a_t, .inr (3, [.ref a_t_store, .int t_start, .int u20.2.1, .int t_end, .int u20.2.2.1, .int u20.2.2.2.1, .int u20.2.2.2.2])), (a_t_store, .inr (4, [.ref a_t_store_row, .int t_store_count])), (a_t_store_row, .inl (tB, t_store_row_N, .inl t_store_row_F))]) (wr := []) (va_runU (As := [.long x23, .int 2]) (rest := []) ⟨hx, hb, hml, hown, hts⟩ (c_Bits_numberR l dC dI tI tB tL tZ a_t a_t_store a_t_store_row H.size t_start u20.2.1 t_end u20.2.2.1 u20.2.2.2.1 u20.2.2.2.2 t_store_count t_store_row_N t_store_row_F x23 2 F u24 hu) (cu_of hts q_70 q_72 q_32 q_69 q_71 q_77 hd_Bits_number ⟨Nat.le_of_ble_eq_true rfl, Nat.le_of_ble_eq_true rfl⟩) (pr_V (ci := 3) (C := R_Source) (q0 := 0) hK hN (hP.sub [0, 1, 2] rfl) (hD.sub [0, 1, 2] (by decide) rfl) rfl rfl) rfl rfl hl.1 rfl (lv_room (Nat.le_of_ble_eq_true rfl)) d_Bits_passes_48 hc) hP hD hS hA [0, 1, 2] [] rfl rfl (by decide) (by decide) (fun r9 _ H locs hw hP hD hS => ?_)
      subst r9
      have hP : va_P (dC, dI) classes [(a_t, .inr (3, [.ref a_t_store, .int t_start, .int u24.2.1, .int t_end, .int u24.2.2.1, .int u24.2.2.2.1, .int u24.2.2.2.2])), (a_t_store, .inr (4, [.ref a_t_store_row, .int t_store_count])), (a_t_store_row, .inl (tB, t_store_row_N, .inl t_store_row_F))] H := hP
      have hD : va_D A [(a_t, .inr (3, [.ref a_t_store, .int t_start, .int u24.2.1, .int t_end, .int u24.2.2.1, .int u24.2.2.2.1, .int u24.2.2.2.2])), (a_t_store, .inr (4, [.ref a_t_store_row, .int t_store_count])), (a_t_store_row, .inl (tB, t_store_row_N, .inl t_store_row_F))] := hD
      refine lv_l2i hx hb d_Bits_passes_51 rfl ?_
      refine lv_topi (fun x25 ex25 => ?_)
      have hf := letb_of hf ex25
      refine lv_istore_n (lv' := [(2, .int x25), (0, .ref a_t), (1, .int v1)]) hx hb d_Bits_passes_52 rfl hl (by decide) rfl (fun ls hl => ?_)
      refine lv_iload_n hx hb d_Bits_passes_53 rfl (lv_at hl 0 rfl) ?_
      refine lv_iconst (v := 3) hx hb d_Bits_passes_54 (by decide) ?_
      refine lv_icmp_ge (tgt := 62) hx hb d_Bits_passes_55 (by decide) (fun c0 => ?_) (fun c0 => ?_)
      · have hf := ite_t c0 hf
        refine lv_aload_n hx hb d_Bits_passes_62 rfl (lv_at hl 1 rfl) ?_
        refine lv_iload_n hx hb d_Bits_passes_63 rfl (lv_at hl 2 rfl) ?_
        refine lv_bipush (v := 6) hx hb d_Bits_passes_64 (by decide) ?_
        refine lv_isub hx hb d_Bits_passes_66 ?_
        refine lv_topi (fun x26 ex26 => ?_)
        have hf := letb_of hf ex26
        refine lv_bipush (v := 31) hx hb d_Bits_passes_67 (by decide) ?_
        refine va_mmin hx hb (by rw [hml]; exact hl.1.symm) hown (hts _ q_68) (hts _ q_2) (hts _ q_3) (hts _ q_4) (Nat.le_of_ble_eq_true rfl) (Nat.le_of_ble_eq_true rfl) hc.1 hc.2 d_Bits_passes_69 ?_
        refine lv_topi (fun x27 ex27 => ?_)
        have hf := letb_of hf ex27
        refine lv_i2l hx hb d_Bits_passes_72 rfl ?_
        refine lv_topl (fun x28 ex28 => ?_)
        have hf := letb_of hf ex28
        refine lv_iconst (v := 5) hx hb d_Bits_passes_73 (by decide) ?_
        obtain ⟨u29, hu, hf⟩ := bd_of hf
        refine jn_l (wc := [(a_t, .inr (3, [.ref a_t_store, .int t_start, .int u24.2.1, .int t_end, .int u24.2.2.1, .int u24.2.2.2.1, .int u24.2.2.2.2])), (a_t_store, .inr (4, [.ref a_t_store_row, .int t_store_count])), (a_t_store_row, .inl (tB, t_store_row_N, .inl t_store_row_F))]) (wr := []) (va_runU (As := [.long x28, .int 5]) (rest := []) ⟨hx, hb, hml, hown, hts⟩ (c_Bits_numberR l dC dI tI tB tL tZ a_t a_t_store a_t_store_row H.size t_start u24.2.1 t_end u24.2.2.1 u24.2.2.2.1 u24.2.2.2.2 t_store_count t_store_row_N t_store_row_F x28 5 F u29 hu) (cu_of hts q_70 q_72 q_32 q_69 q_71 q_77 hd_Bits_number ⟨Nat.le_of_ble_eq_true rfl, Nat.le_of_ble_eq_true rfl⟩) (pr_V (ci := 3) (C := R_Source) (q0 := 0) hK hN (hP.sub [0, 1, 2] rfl) (hD.sub [0, 1, 2] (by decide) rfl) rfl rfl) rfl rfl hl.1 rfl (lv_room (Nat.le_of_ble_eq_true rfl)) d_Bits_passes_74 hc) hP hD hS hA [0, 1, 2] [] rfl rfl (by decide) (by decide) (fun r9 _ H locs hw hP hD hS => ?_)
        subst r9
        have hP : va_P (dC, dI) classes [(a_t, .inr (3, [.ref a_t_store, .int t_start, .int u29.2.1, .int t_end, .int u29.2.2.1, .int u29.2.2.2.1, .int u29.2.2.2.2])), (a_t_store, .inr (4, [.ref a_t_store_row, .int t_store_count])), (a_t_store_row, .inl (tB, t_store_row_N, .inl t_store_row_F))] H := hP
        have hD : va_D A [(a_t, .inr (3, [.ref a_t_store, .int t_start, .int u29.2.1, .int t_end, .int u29.2.2.1, .int u29.2.2.2.1, .int u29.2.2.2.2])), (a_t_store, .inr (4, [.ref a_t_store_row, .int t_store_count])), (a_t_store_row, .inl (tB, t_store_row_N, .inl t_store_row_F))] := hD
        refine lv_l2i hx hb d_Bits_passes_77 rfl ?_
        refine lv_topi (fun x30 ex30 => ?_)
        have hf := letb_of hf ex30
        refine lv_istore_n (lv' := [(3, .int x30), (2, .int x25), (0, .ref a_t), (1, .int v1)]) hx hb d_Bits_passes_78 rfl hl (by decide) rfl (fun ls hl => ?_)
        refine lv_iload_n hx hb d_Bits_passes_79 rfl (lv_at hl 0 rfl) ?_
        refine lv_bipush (v := 31) hx hb d_Bits_passes_80 (by decide) ?_
        refine lv_icmp_ge (tgt := 90) hx hb d_Bits_passes_82 (by decide) (fun c0 => ?_) (fun c0 => ?_)
        · have hf := ite_t c0 hf
          refine lv_bipush (v := 37) hx hb d_Bits_passes_90 (by decide) ?_
          refine lv_aload_n hx hb d_Bits_passes_92 rfl (lv_at hl 2 rfl) ?_
          refine lv_iload_n hx hb d_Bits_passes_93 rfl (lv_at hl 3 rfl) ?_
          refine lv_bipush (v := 37) hx hb d_Bits_passes_94 (by decide) ?_
          refine lv_isub hx hb d_Bits_passes_96 ?_
          refine lv_topi (fun x31 ex31 => ?_)
          have hf := letb_of hf ex31
          refine lv_i2l hx hb d_Bits_passes_97 rfl ?_
          refine lv_topl (fun x32 ex32 => ?_)
          have hf := letb_of hf ex32
          refine lv_bipush (v := 7) hx hb d_Bits_passes_98 (by decide) ?_
          obtain ⟨u33, hu, hf⟩ := bd_of hf
          refine jn_l (wc := [(a_t, .inr (3, [.ref a_t_store, .int t_start, .int u29.2.1, .int t_end, .int u29.2.2.1, .int u29.2.2.2.1, .int u29.2.2.2.2])), (a_t_store, .inr (4, [.ref a_t_store_row, .int t_store_count])), (a_t_store_row, .inl (tB, t_store_row_N, .inl t_store_row_F))]) (wr := []) (va_runU (As := [.long x32, .int 7]) (rest := [.int 37]) ⟨hx, hb, hml, hown, hts⟩ (c_Bits_numberR l dC dI tI tB tL tZ a_t a_t_store a_t_store_row H.size t_start u29.2.1 t_end u29.2.2.1 u29.2.2.2.1 u29.2.2.2.2 t_store_count t_store_row_N t_store_row_F x32 7 F u33 hu) (cu_of hts q_70 q_72 q_32 q_69 q_71 q_77 hd_Bits_number ⟨Nat.le_of_ble_eq_true rfl, Nat.le_of_ble_eq_true rfl⟩) (pr_V (ci := 3) (C := R_Source) (q0 := 0) hK hN (hP.sub [0, 1, 2] rfl) (hD.sub [0, 1, 2] (by decide) rfl) rfl rfl) rfl rfl hl.1 rfl (lv_room (Nat.le_of_ble_eq_true rfl)) d_Bits_passes_100 hc) hP hD hS hA [0, 1, 2] [] rfl rfl (by decide) (by decide) (fun r9 _ H locs hw hP hD hS => ?_)
          subst r9
          have hP : va_P (dC, dI) classes [(a_t, .inr (3, [.ref a_t_store, .int t_start, .int u33.2.1, .int t_end, .int u33.2.2.1, .int u33.2.2.2.1, .int u33.2.2.2.2])), (a_t_store, .inr (4, [.ref a_t_store_row, .int t_store_count])), (a_t_store_row, .inl (tB, t_store_row_N, .inl t_store_row_F))] H := hP
          have hD : va_D A [(a_t, .inr (3, [.ref a_t_store, .int t_start, .int u33.2.1, .int t_end, .int u33.2.2.1, .int u33.2.2.2.1, .int u33.2.2.2.2])), (a_t_store, .inr (4, [.ref a_t_store_row, .int t_store_count])), (a_t_store_row, .inl (tB, t_store_row_N, .inl t_store_row_F))] := hD
          refine lv_l2i hx hb d_Bits_passes_103 rfl ?_
          refine lv_topi (fun x34 ex34 => ?_)
          have hf := letb_of hf ex34
          refine lv_iadd hx hb d_Bits_passes_104 ?_
          refine lv_topi (fun x35 ex35 => ?_)
          have hf := letb_of hf ex35
          have hf := Option.some.inj hf
          subst u
          exact ret _ _ _ _ _ _ () d_Bits_passes_105 rfl hP hD hS hc.1 hc.2
        · have hf := ite_f c0 hf
          refine lv_bipush (v := 6) hx hb d_Bits_passes_85 (by decide) ?_
          refine lv_iload_n hx hb d_Bits_passes_87 rfl (lv_at hl 0 rfl) ?_
          refine lv_iadd hx hb d_Bits_passes_88 ?_
          refine lv_topi (fun x36 ex36 => ?_)
          have hf := letb_of hf ex36
          have hf := Option.some.inj hf
          subst u
          exact ret _ _ _ _ _ _ () d_Bits_passes_89 rfl hP hD hS hc.1 hc.2
      · have hf := ite_f c0 hf
        refine lv_iconst (v := 3) hx hb d_Bits_passes_58 (by decide) ?_
        refine lv_iload_n hx hb d_Bits_passes_59 rfl (lv_at hl 0 rfl) ?_
        refine lv_iadd hx hb d_Bits_passes_60 ?_
        refine lv_topi (fun x37 ex37 => ?_)
        have hf := letb_of hf ex37
        have hf := Option.some.inj hf
        subst u
        exact ret _ _ _ _ _ _ () d_Bits_passes_61 rfl hP hD hS hc.1 hc.2
    · have hf := ite_t c0 hf
      refine lv_iconst (v := 2) hx hb d_Bits_passes_36 (by decide) ?_
      have hf := Option.some.inj hf
      subst u
      exact ret _ _ _ _ _ _ () d_Bits_passes_37 rfl hP hD hS hc.1 hc.2
  have k_11 : ∀ (t_next : Int32) (t_latest : Int32) (t_left : Int32) (t_lacking : Int32) (v1 : Int32) (s0 : Int32) (H : Heap) (locs : List Loc) (cells slots : Nat) (ls : Array Slot), va_P (dC, dI) classes [(a_t, .inr (3, [.ref a_t_store, .int t_start, .int t_next, .int t_end, .int t_latest, .int t_left, .int t_lacking])), (a_t_store, .inr (4, [.ref a_t_store_row, .int t_store_count])), (a_t_store_row, .inl (tB, t_store_row_N, .inl t_store_row_F))] H → va_D A [(a_t, .inr (3, [.ref a_t_store, .int t_start, .int t_next, .int t_end, .int t_latest, .int t_left, .int t_lacking])), (a_t_store, .inr (4, [.ref a_t_store_row, .int t_store_count])), (a_t_store_row, .inl (tB, t_store_row_N, .inl t_store_row_F))] → va_S A s.heap H locs → lv_has ls 4 [(0, .ref a_t), (1, .int v1)] → (cells ≤ 0 ∧ slots ≤ 0) → g_Bits_passesR_11 F t_end t_store_count t_store_row_N t_store_row_F t_next t_latest t_left t_lacking v1 s0 = some u → W p l e ({ frames := 4, cells := 0, slots := 0, locals := 88 } : Room) s m args below meth c H locs cells slots Q (F0 m 11 ls [.int s0, .ref a_t]) := by
    intro t_next t_latest t_left t_lacking v1 s0 H locs cells slots ls hP hD hS hl hc hf
    unfold g_Bits_passesR_11 at hf
    obtain ⟨u38, hu, hf⟩ := bd_of hf
    refine jn_i (wc := [(a_t, .inr (3, [.ref a_t_store, .int t_start, .int t_next, .int t_end, .int t_latest, .int t_left, .int t_lacking])), (a_t_store, .inr (4, [.ref a_t_store_row, .int t_store_count])), (a_t_store_row, .inl (tB, t_store_row_N, .inl t_store_row_F))]) (wr := []) (va_runU (As := [.int s0]) (rest := []) ⟨hx, hb, hml, hown, hts⟩ (c_Source_bit l dC dI tI tB tL tZ a_t a_t_store a_t_store_row H.size t_start t_next t_end t_latest t_left t_lacking t_store_count t_store_row_N t_store_row_F s0 F u38 hu) (ca_of hts hN q_67 q_63 q_65 q_56 q_74 q_75 q_76 hd_Bits_bit ⟨Nat.le_of_ble_eq_true rfl, Nat.le_of_ble_eq_true rfl⟩) (pr_V (ci := 3) (C := R_Source) (q0 := 0) hK hN (hP.sub [0, 1, 2] rfl) (hD.sub [0, 1, 2] (by decide) rfl) rfl rfl) rfl rfl hl.1 rfl (lv_room (Nat.le_of_ble_eq_true rfl)) d_Bits_passes_11 hc) hP hD hS hA [0, 1, 2] [] rfl rfl (by decide) (by decide) (fun r9 _ H locs hw hP hD hS => ?_)
    subst r9
    have hP : va_P (dC, dI) classes [(a_t, .inr (3, [.ref a_t_store, .int t_start, .int u38.2.1, .int t_end, .int u38.2.2.1, .int u38.2.2.2.1, .int u38.2.2.2.2])), (a_t_store, .inr (4, [.ref a_t_store_row, .int t_store_count])), (a_t_store_row, .inl (tB, t_store_row_N, .inl t_store_row_F))] H := hP
    have hD : va_D A [(a_t, .inr (3, [.ref a_t_store, .int t_start, .int u38.2.1, .int t_end, .int u38.2.2.1, .int u38.2.2.2.1, .int u38.2.2.2.2])), (a_t_store, .inr (4, [.ref a_t_store_row, .int t_store_count])), (a_t_store_row, .inl (tB, t_store_row_N, .inl t_store_row_F))] := hD
    refine lv_if_ne (tgt := 19) hx hb d_Bits_passes_14 (by decide) (fun c0 => ?_) (fun c0 => ?_)
    · have hf := ite_f c0 hf
      refine lv_aload_n hx hb d_Bits_passes_19 rfl (lv_at hl 0 rfl) ?_
      refine lv_iload_n hx hb d_Bits_passes_20 rfl (lv_at hl 1 rfl) ?_
      refine lv_iconst (v := 2) hx hb d_Bits_passes_21 (by decide) ?_
      refine lv_icmp_le (tgt := 29) hx hb d_Bits_passes_22 (by decide) (fun c0 => ?_) (fun c0 => ?_)
      · have hf := ite_t c0 hf
        refine lv_iconst (v := 0) hx hb d_Bits_passes_29 (by decide) ?_
        exact k_30 u38.2.1 u38.2.2.1 u38.2.2.2.1 u38.2.2.2.2 v1 0 _ _ _ _ ls hP hD hS hl hc hf
      · have hf := ite_f c0 hf
        refine lv_iconst (v := 1) hx hb d_Bits_passes_25 (by decide) ?_
        refine lv_goto (tgt := 30) hx hb d_Bits_passes_26 (by decide) ?_
        exact k_30 u38.2.1 u38.2.2.1 u38.2.2.2.1 u38.2.2.2.2 v1 1 _ _ _ _ ls hP hD hS hl hc hf
    · have hf := ite_t c0 hf
      refine lv_iconst (v := 1) hx hb d_Bits_passes_17 (by decide) ?_
      have hf := Option.some.inj hf
      subst u
      exact ret _ _ _ _ _ _ () d_Bits_passes_18 rfl hP hD hS hc.1 hc.2
  have hc : 0 ≤ 0 ∧ 0 ≤ 0 := ⟨Nat.le_refl 0, Nat.le_refl 0⟩
  unfold f_Bits_passesR at hf
  refine lv_aload_n hx hb d_Bits_passes_0 rfl (lv_at hl 0 rfl) ?_
  refine lv_iload_n hx hb d_Bits_passes_1 rfl (lv_at hl 1 rfl) ?_
  refine lv_iconst (v := 1) hx hb d_Bits_passes_2 (by decide) ?_
  refine lv_icmp_le (tgt := 10) hx hb d_Bits_passes_3 (by decide) (fun c0 => ?_) (fun c0 => ?_)
  · have hf := ite_t c0 hf
    refine lv_iconst (v := 0) hx hb d_Bits_passes_10 (by decide) ?_
    exact k_11 t_next t_latest t_left t_lacking p0 0 _ _ _ _ ls hP hD hS hl hc hf
  · have hf := ite_f c0 hf
    refine lv_iconst (v := 1) hx hb d_Bits_passes_6 (by decide) ?_
    refine lv_goto (tgt := 11) hx hb d_Bits_passes_7 (by decide) ?_
    exact k_11 t_next t_latest t_left t_lacking p0 1 _ _ _ _ ls hP hD hS hl hc hf
