abbrev b_Mo_out : ByteArray := prog_10_method_4_code
def y_Mo_out : MethodName := ⟨R_Mo, "out", "(III)Z"⟩
theorem d_Mo_out_0 : decode b_Mo_out 0 = .ok (.iload_n 0, 1) := by decide +kernel
theorem d_Mo_out_1 : decode b_Mo_out 1 = .ok (.iload_n 1, 1) := by decide +kernel
theorem d_Mo_out_2 : decode b_Mo_out 2 = .ok (.if_icmp .lt 8, 3) := by decide +kernel
theorem d_Mo_out_5 : decode b_Mo_out 5 = .ok (.iload_n 0, 1) := by decide +kernel
theorem d_Mo_out_6 : decode b_Mo_out 6 = .ok (.iload_n 2, 1) := by decide +kernel
theorem d_Mo_out_7 : decode b_Mo_out 7 = .ok (.if_icmp .le 7, 3) := by decide +kernel
theorem d_Mo_out_10 : decode b_Mo_out 10 = .ok (.iconst 1, 1) := by decide +kernel
theorem d_Mo_out_11 : decode b_Mo_out 11 = .ok (.goto 4, 3) := by decide +kernel
theorem d_Mo_out_14 : decode b_Mo_out 14 = .ok (.iconst 0, 1) := by decide +kernel
theorem d_Mo_out_15 : decode b_Mo_out 15 = .ok (.ireturn, 1) := by decide +kernel
abbrev b_Mo_logarithm : ByteArray := prog_10_method_15_code
def y_Mo_logarithm : MethodName := ⟨R_Mo, "logarithm", "(I)I"⟩
theorem d_Mo_logarithm_0 : decode b_Mo_logarithm 0 = .ok (.iconst 0, 1) := by decide +kernel
theorem d_Mo_logarithm_1 : decode b_Mo_logarithm 1 = .ok (.istore_n 1, 1) := by decide +kernel
theorem d_Mo_logarithm_2 : decode b_Mo_logarithm 2 = .ok (.iload_n 0, 1) := by decide +kernel
theorem d_Mo_logarithm_3 : decode b_Mo_logarithm 3 = .ok (.iload_n 1, 1) := by decide +kernel
theorem d_Mo_logarithm_4 : decode b_Mo_logarithm 4 = .ok (.ishr, 1) := by decide +kernel
theorem d_Mo_logarithm_5 : decode b_Mo_logarithm 5 = .ok (.iconst 1, 1) := by decide +kernel
theorem d_Mo_logarithm_6 : decode b_Mo_logarithm 6 = .ok (.if_icmp .le 9, 3) := by decide +kernel
theorem d_Mo_logarithm_9 : decode b_Mo_logarithm 9 = .ok (.iinc 1 1, 3) := by decide +kernel
theorem d_Mo_logarithm_12 : decode b_Mo_logarithm 12 = .ok (.goto (-10), 3) := by decide +kernel
theorem d_Mo_logarithm_15 : decode b_Mo_logarithm 15 = .ok (.iload_n 1, 1) := by decide +kernel
theorem d_Mo_logarithm_16 : decode b_Mo_logarithm 16 = .ok (.ireturn, 1) := by decide +kernel
abbrev b_Mo_half : ByteArray := prog_10_method_23_code
def y_Mo_half : MethodName := ⟨R_Mo, "half", "(II)I"⟩
theorem d_Mo_half_0 : decode b_Mo_half 0 = .ok (.iload_n 0, 1) := by decide +kernel
theorem d_Mo_half_1 : decode b_Mo_half 1 = .ok (.iconst 1, 1) := by decide +kernel
theorem d_Mo_half_2 : decode b_Mo_half 2 = .ok (.iload_n 1, 1) := by decide +kernel
theorem d_Mo_half_3 : decode b_Mo_half 3 = .ok (.ishl, 1) := by decide +kernel
theorem d_Mo_half_4 : decode b_Mo_half 4 = .ok (.iadd, 1) := by decide +kernel
theorem d_Mo_half_5 : decode b_Mo_half 5 = .ok (.iconst 1, 1) := by decide +kernel
theorem d_Mo_half_6 : decode b_Mo_half 6 = .ok (.isub, 1) := by decide +kernel
theorem d_Mo_half_7 : decode b_Mo_half 7 = .ok (.iload_n 1, 1) := by decide +kernel
theorem d_Mo_half_8 : decode b_Mo_half 8 = .ok (.ishr, 1) := by decide +kernel
theorem d_Mo_half_9 : decode b_Mo_half 9 = .ok (.ireturn, 1) := by decide +kernel
abbrev b_Mo_thrown : ByteArray := prog_10_method_2_code
def y_Mo_thrown : MethodName := ⟨R_Mo, "thrown", "()I"⟩
theorem d_Mo_thrown_0 : decode b_Mo_thrown 0 = .ok (.aload_n 0, 1) := by decide +kernel
theorem d_Mo_thrown_1 : decode b_Mo_thrown 1 = .ok (.getfield 62, 3) := by decide +kernel
theorem d_Mo_thrown_4 : decode b_Mo_thrown 4 = .ok (.ireturn, 1) := by decide +kernel
abbrev b_Mo_throwing : ByteArray := prog_10_method_3_code
def y_Mo_throwing : MethodName := ⟨R_Mo, "throwing", "(ZZZ)Z"⟩
theorem d_Mo_throwing_0 : decode b_Mo_throwing 0 = .ok (.aload_n 0, 1) := by decide +kernel
theorem d_Mo_throwing_1 : decode b_Mo_throwing 1 = .ok (.iload_n 1, 1) := by decide +kernel
theorem d_Mo_throwing_2 : decode b_Mo_throwing 2 = .ok (.ifCond .eq 7, 3) := by decide +kernel
theorem d_Mo_throwing_5 : decode b_Mo_throwing 5 = .ok (.iconst 1, 1) := by decide +kernel
theorem d_Mo_throwing_6 : decode b_Mo_throwing 6 = .ok (.goto 20, 3) := by decide +kernel
theorem d_Mo_throwing_9 : decode b_Mo_throwing 9 = .ok (.iload_n 2, 1) := by decide +kernel
theorem d_Mo_throwing_10 : decode b_Mo_throwing 10 = .ok (.ifCond .eq 7, 3) := by decide +kernel
theorem d_Mo_throwing_13 : decode b_Mo_throwing 13 = .ok (.iconst 2, 1) := by decide +kernel
theorem d_Mo_throwing_14 : decode b_Mo_throwing 14 = .ok (.goto 12, 3) := by decide +kernel
theorem d_Mo_throwing_17 : decode b_Mo_throwing 17 = .ok (.iload_n 3, 1) := by decide +kernel
theorem d_Mo_throwing_18 : decode b_Mo_throwing 18 = .ok (.ifCond .eq 7, 3) := by decide +kernel
theorem d_Mo_throwing_21 : decode b_Mo_throwing 21 = .ok (.iconst 3, 1) := by decide +kernel
theorem d_Mo_throwing_22 : decode b_Mo_throwing 22 = .ok (.goto 4, 3) := by decide +kernel
theorem d_Mo_throwing_25 : decode b_Mo_throwing 25 = .ok (.iconst 0, 1) := by decide +kernel
theorem d_Mo_throwing_26 : decode b_Mo_throwing 26 = .ok (.putfield 62, 3) := by decide +kernel
theorem d_Mo_throwing_29 : decode b_Mo_throwing 29 = .ok (.aload_n 0, 1) := by decide +kernel
theorem d_Mo_throwing_30 : decode b_Mo_throwing 30 = .ok (.getfield 62, 3) := by decide +kernel
theorem d_Mo_throwing_33 : decode b_Mo_throwing 33 = .ok (.ifCond .le 7, 3) := by decide +kernel
theorem d_Mo_throwing_36 : decode b_Mo_throwing 36 = .ok (.iconst 1, 1) := by decide +kernel
theorem d_Mo_throwing_37 : decode b_Mo_throwing 37 = .ok (.goto 4, 3) := by decide +kernel
theorem d_Mo_throwing_40 : decode b_Mo_throwing 40 = .ok (.iconst 0, 1) := by decide +kernel
theorem d_Mo_throwing_41 : decode b_Mo_throwing 41 = .ok (.ireturn, 1) := by decide +kernel
abbrev b_Mo_forget : ByteArray := prog_10_method_6_code
def y_Mo_forget : MethodName := ⟨R_Mo, "forget", "(II)V"⟩
theorem d_Mo_forget_0 : decode b_Mo_forget 0 = .ok (.iconst 0, 1) := by decide +kernel
theorem d_Mo_forget_1 : decode b_Mo_forget 1 = .ok (.istore_n 3, 1) := by decide +kernel
theorem d_Mo_forget_2 : decode b_Mo_forget 2 = .ok (.iconst 0, 1) := by decide +kernel
theorem d_Mo_forget_3 : decode b_Mo_forget 3 = .ok (.istore 4, 2) := by decide +kernel
theorem d_Mo_forget_5 : decode b_Mo_forget 5 = .ok (.iload 4, 2) := by decide +kernel
theorem d_Mo_forget_7 : decode b_Mo_forget 7 = .ok (.aload_n 0, 1) := by decide +kernel
theorem d_Mo_forget_8 : decode b_Mo_forget 8 = .ok (.getfield 70, 3) := by decide +kernel
theorem d_Mo_forget_11 : decode b_Mo_forget 11 = .ok (.if_icmp .ge 77, 3) := by decide +kernel
theorem d_Mo_forget_14 : decode b_Mo_forget 14 = .ok (.aload_n 0, 1) := by decide +kernel
theorem d_Mo_forget_15 : decode b_Mo_forget 15 = .ok (.getfield 42, 3) := by decide +kernel
theorem d_Mo_forget_18 : decode b_Mo_forget 18 = .ok (.iload 4, 2) := by decide +kernel
theorem d_Mo_forget_20 : decode b_Mo_forget 20 = .ok (.iaload, 1) := by decide +kernel
theorem d_Mo_forget_21 : decode b_Mo_forget 21 = .ok (.iload_n 1, 1) := by decide +kernel
theorem d_Mo_forget_22 : decode b_Mo_forget 22 = .ok (.if_icmp .lt 18, 3) := by decide +kernel
theorem d_Mo_forget_25 : decode b_Mo_forget 25 = .ok (.aload_n 0, 1) := by decide +kernel
theorem d_Mo_forget_26 : decode b_Mo_forget 26 = .ok (.getfield 42, 3) := by decide +kernel
theorem d_Mo_forget_29 : decode b_Mo_forget 29 = .ok (.iload 4, 2) := by decide +kernel
theorem d_Mo_forget_31 : decode b_Mo_forget 31 = .ok (.iaload, 1) := by decide +kernel
theorem d_Mo_forget_32 : decode b_Mo_forget 32 = .ok (.iload_n 2, 1) := by decide +kernel
theorem d_Mo_forget_33 : decode b_Mo_forget 33 = .ok (.if_icmp .ge 7, 3) := by decide +kernel
theorem d_Mo_forget_36 : decode b_Mo_forget 36 = .ok (.iconst 1, 1) := by decide +kernel
theorem d_Mo_forget_37 : decode b_Mo_forget 37 = .ok (.goto 4, 3) := by decide +kernel
theorem d_Mo_forget_40 : decode b_Mo_forget 40 = .ok (.iconst 0, 1) := by decide +kernel
theorem d_Mo_forget_41 : decode b_Mo_forget 41 = .ok (.istore 5, 2) := by decide +kernel
theorem d_Mo_forget_43 : decode b_Mo_forget 43 = .ok (.aload_n 0, 1) := by decide +kernel
theorem d_Mo_forget_44 : decode b_Mo_forget 44 = .ok (.getfield 42, 3) := by decide +kernel
theorem d_Mo_forget_47 : decode b_Mo_forget 47 = .ok (.iload_n 3, 1) := by decide +kernel
theorem d_Mo_forget_48 : decode b_Mo_forget 48 = .ok (.aload_n 0, 1) := by decide +kernel
theorem d_Mo_forget_49 : decode b_Mo_forget 49 = .ok (.getfield 42, 3) := by decide +kernel
theorem d_Mo_forget_52 : decode b_Mo_forget 52 = .ok (.iload 4, 2) := by decide +kernel
theorem d_Mo_forget_54 : decode b_Mo_forget 54 = .ok (.iaload, 1) := by decide +kernel
theorem d_Mo_forget_55 : decode b_Mo_forget 55 = .ok (.iastore, 1) := by decide +kernel
theorem d_Mo_forget_56 : decode b_Mo_forget 56 = .ok (.aload_n 0, 1) := by decide +kernel
theorem d_Mo_forget_57 : decode b_Mo_forget 57 = .ok (.getfield 45, 3) := by decide +kernel
theorem d_Mo_forget_60 : decode b_Mo_forget 60 = .ok (.iload_n 3, 1) := by decide +kernel
theorem d_Mo_forget_61 : decode b_Mo_forget 61 = .ok (.aload_n 0, 1) := by decide +kernel
theorem d_Mo_forget_62 : decode b_Mo_forget 62 = .ok (.getfield 45, 3) := by decide +kernel
theorem d_Mo_forget_65 : decode b_Mo_forget 65 = .ok (.iload 4, 2) := by decide +kernel
theorem d_Mo_forget_67 : decode b_Mo_forget 67 = .ok (.iaload, 1) := by decide +kernel
theorem d_Mo_forget_68 : decode b_Mo_forget 68 = .ok (.iastore, 1) := by decide +kernel
theorem d_Mo_forget_69 : decode b_Mo_forget 69 = .ok (.iload 5, 2) := by decide +kernel
theorem d_Mo_forget_71 : decode b_Mo_forget 71 = .ok (.ifCond .eq 7, 3) := by decide +kernel
theorem d_Mo_forget_74 : decode b_Mo_forget 74 = .ok (.iload_n 3, 1) := by decide +kernel
theorem d_Mo_forget_75 : decode b_Mo_forget 75 = .ok (.goto 6, 3) := by decide +kernel
theorem d_Mo_forget_78 : decode b_Mo_forget 78 = .ok (.iload_n 3, 1) := by decide +kernel
theorem d_Mo_forget_79 : decode b_Mo_forget 79 = .ok (.iconst 1, 1) := by decide +kernel
theorem d_Mo_forget_80 : decode b_Mo_forget 80 = .ok (.iadd, 1) := by decide +kernel
theorem d_Mo_forget_81 : decode b_Mo_forget 81 = .ok (.istore_n 3, 1) := by decide +kernel
theorem d_Mo_forget_82 : decode b_Mo_forget 82 = .ok (.iinc 4 1, 3) := by decide +kernel
theorem d_Mo_forget_85 : decode b_Mo_forget 85 = .ok (.goto (-80), 3) := by decide +kernel
theorem d_Mo_forget_88 : decode b_Mo_forget 88 = .ok (.aload_n 0, 1) := by decide +kernel
theorem d_Mo_forget_89 : decode b_Mo_forget 89 = .ok (.iload_n 3, 1) := by decide +kernel
theorem d_Mo_forget_90 : decode b_Mo_forget 90 = .ok (.putfield 70, 3) := by decide +kernel
theorem d_Mo_forget_93 : decode b_Mo_forget 93 = .ok (.iload_n 1, 1) := by decide +kernel
theorem d_Mo_forget_94 : decode b_Mo_forget 94 = .ok (.istore 4, 2) := by decide +kernel
theorem d_Mo_forget_96 : decode b_Mo_forget 96 = .ok (.iload 4, 2) := by decide +kernel
theorem d_Mo_forget_98 : decode b_Mo_forget 98 = .ok (.iload_n 2, 1) := by decide +kernel
theorem d_Mo_forget_99 : decode b_Mo_forget 99 = .ok (.if_icmp .ge 17, 3) := by decide +kernel
theorem d_Mo_forget_102 : decode b_Mo_forget 102 = .ok (.aload_n 0, 1) := by decide +kernel
theorem d_Mo_forget_103 : decode b_Mo_forget 103 = .ok (.getfield 39, 3) := by decide +kernel
theorem d_Mo_forget_106 : decode b_Mo_forget 106 = .ok (.iload 4, 2) := by decide +kernel
theorem d_Mo_forget_108 : decode b_Mo_forget 108 = .ok (.iconst 0, 1) := by decide +kernel
theorem d_Mo_forget_109 : decode b_Mo_forget 109 = .ok (.iastore, 1) := by decide +kernel
theorem d_Mo_forget_110 : decode b_Mo_forget 110 = .ok (.iinc 4 1, 3) := by decide +kernel
theorem d_Mo_forget_113 : decode b_Mo_forget 113 = .ok (.goto (-17), 3) := by decide +kernel
theorem d_Mo_forget_116 : decode b_Mo_forget 116 = .ok (.return_, 1) := by decide +kernel
abbrev b_Mo_fresh : ByteArray := prog_10_method_5_code
def y_Mo_fresh : MethodName := ⟨R_Mo, "fresh", "(I)V"⟩
theorem d_Mo_fresh_0 : decode b_Mo_fresh 0 = .ok (.iload_n 1, 1) := by decide +kernel
theorem d_Mo_fresh_1 : decode b_Mo_fresh 1 = .ok (.istore_n 2, 1) := by decide +kernel
theorem d_Mo_fresh_2 : decode b_Mo_fresh 2 = .ok (.iload_n 2, 1) := by decide +kernel
theorem d_Mo_fresh_3 : decode b_Mo_fresh 3 = .ok (.iload_n 1, 1) := by decide +kernel
theorem d_Mo_fresh_4 : decode b_Mo_fresh 4 = .ok (.sipush 1024, 3) := by decide +kernel
theorem d_Mo_fresh_7 : decode b_Mo_fresh 7 = .ok (.iadd, 1) := by decide +kernel
theorem d_Mo_fresh_8 : decode b_Mo_fresh 8 = .ok (.if_icmp .ge 52, 3) := by decide +kernel
theorem d_Mo_fresh_11 : decode b_Mo_fresh 11 = .ok (.aload_n 0, 1) := by decide +kernel
theorem d_Mo_fresh_12 : decode b_Mo_fresh 12 = .ok (.getfield 24, 3) := by decide +kernel
theorem d_Mo_fresh_15 : decode b_Mo_fresh 15 = .ok (.iload_n 2, 1) := by decide +kernel
theorem d_Mo_fresh_16 : decode b_Mo_fresh 16 = .ok (.iconst 0, 1) := by decide +kernel
theorem d_Mo_fresh_17 : decode b_Mo_fresh 17 = .ok (.iastore, 1) := by decide +kernel
theorem d_Mo_fresh_18 : decode b_Mo_fresh 18 = .ok (.aload_n 0, 1) := by decide +kernel
theorem d_Mo_fresh_19 : decode b_Mo_fresh 19 = .ok (.getfield 27, 3) := by decide +kernel
theorem d_Mo_fresh_22 : decode b_Mo_fresh 22 = .ok (.iload_n 2, 1) := by decide +kernel
theorem d_Mo_fresh_23 : decode b_Mo_fresh 23 = .ok (.iconst 3, 1) := by decide +kernel
theorem d_Mo_fresh_24 : decode b_Mo_fresh 24 = .ok (.iastore, 1) := by decide +kernel
theorem d_Mo_fresh_25 : decode b_Mo_fresh 25 = .ok (.aload_n 0, 1) := by decide +kernel
theorem d_Mo_fresh_26 : decode b_Mo_fresh 26 = .ok (.getfield 30, 3) := by decide +kernel
theorem d_Mo_fresh_29 : decode b_Mo_fresh 29 = .ok (.iload_n 2, 1) := by decide +kernel
theorem d_Mo_fresh_30 : decode b_Mo_fresh 30 = .ok (.iconst 0, 1) := by decide +kernel
theorem d_Mo_fresh_31 : decode b_Mo_fresh 31 = .ok (.iastore, 1) := by decide +kernel
theorem d_Mo_fresh_32 : decode b_Mo_fresh 32 = .ok (.aload_n 0, 1) := by decide +kernel
theorem d_Mo_fresh_33 : decode b_Mo_fresh 33 = .ok (.getfield 33, 3) := by decide +kernel
theorem d_Mo_fresh_36 : decode b_Mo_fresh 36 = .ok (.iload_n 2, 1) := by decide +kernel
theorem d_Mo_fresh_37 : decode b_Mo_fresh 37 = .ok (.iconst (-1), 1) := by decide +kernel
theorem d_Mo_fresh_38 : decode b_Mo_fresh 38 = .ok (.iastore, 1) := by decide +kernel
theorem d_Mo_fresh_39 : decode b_Mo_fresh 39 = .ok (.aload_n 0, 1) := by decide +kernel
theorem d_Mo_fresh_40 : decode b_Mo_fresh 40 = .ok (.getfield 36, 3) := by decide +kernel
theorem d_Mo_fresh_43 : decode b_Mo_fresh 43 = .ok (.iload_n 2, 1) := by decide +kernel
theorem d_Mo_fresh_44 : decode b_Mo_fresh 44 = .ok (.iload_n 1, 1) := by decide +kernel
theorem d_Mo_fresh_45 : decode b_Mo_fresh 45 = .ok (.ifCond .ne 7, 3) := by decide +kernel
theorem d_Mo_fresh_48 : decode b_Mo_fresh 48 = .ok (.iconst 0, 1) := by decide +kernel
theorem d_Mo_fresh_49 : decode b_Mo_fresh 49 = .ok (.goto 4, 3) := by decide +kernel
theorem d_Mo_fresh_52 : decode b_Mo_fresh 52 = .ok (.iconst (-1), 1) := by decide +kernel
theorem d_Mo_fresh_53 : decode b_Mo_fresh 53 = .ok (.iastore, 1) := by decide +kernel
theorem d_Mo_fresh_54 : decode b_Mo_fresh 54 = .ok (.iinc 2 1, 3) := by decide +kernel
theorem d_Mo_fresh_57 : decode b_Mo_fresh 57 = .ok (.goto (-55), 3) := by decide +kernel
theorem d_Mo_fresh_60 : decode b_Mo_fresh 60 = .ok (.aload_n 0, 1) := by decide +kernel
theorem d_Mo_fresh_61 : decode b_Mo_fresh 61 = .ok (.iload_n 1, 1) := by decide +kernel
theorem d_Mo_fresh_62 : decode b_Mo_fresh 62 = .ok (.iload_n 1, 1) := by decide +kernel
theorem d_Mo_fresh_63 : decode b_Mo_fresh 63 = .ok (.sipush 1024, 3) := by decide +kernel
theorem d_Mo_fresh_66 : decode b_Mo_fresh 66 = .ok (.iadd, 1) := by decide +kernel
theorem d_Mo_fresh_67 : decode b_Mo_fresh 67 = .ok (.invokevirtual 66, 3) := by decide +kernel
theorem d_Mo_fresh_70 : decode b_Mo_fresh 70 = .ok (.return_, 1) := by decide +kernel
abbrev b_Mo_init : ByteArray := prog_10_method_1_code
def y_Mo_init : MethodName := ⟨R_Mo, "<init>", "()V"⟩
theorem d_Mo_init_0 : decode b_Mo_init 0 = .ok (.aload_n 0, 1) := by decide +kernel
theorem d_Mo_init_1 : decode b_Mo_init 1 = .ok (.invokespecial 1, 3) := by decide +kernel
theorem d_Mo_init_4 : decode b_Mo_init 4 = .ok (.aload_n 0, 1) := by decide +kernel
theorem d_Mo_init_5 : decode b_Mo_init 5 = .ok (.iconst 3, 1) := by decide +kernel
theorem d_Mo_init_6 : decode b_Mo_init 6 = .ok (.newarray .int, 2) := by decide +kernel
theorem d_Mo_init_8 : decode b_Mo_init 8 = .ok (.putfield 7, 3) := by decide +kernel
theorem d_Mo_init_11 : decode b_Mo_init 11 = .ok (.aload_n 0, 1) := by decide +kernel
theorem d_Mo_init_12 : decode b_Mo_init 12 = .ok (.iconst 3, 1) := by decide +kernel
theorem d_Mo_init_13 : decode b_Mo_init 13 = .ok (.newarray .int, 2) := by decide +kernel
theorem d_Mo_init_15 : decode b_Mo_init 15 = .ok (.putfield 13, 3) := by decide +kernel
theorem d_Mo_init_18 : decode b_Mo_init 18 = .ok (.aload_n 0, 1) := by decide +kernel
theorem d_Mo_init_19 : decode b_Mo_init 19 = .ok (.iconst 4, 1) := by decide +kernel
theorem d_Mo_init_20 : decode b_Mo_init 20 = .ok (.newarray .int, 2) := by decide +kernel
theorem d_Mo_init_22 : decode b_Mo_init 22 = .ok (.putfield 16, 3) := by decide +kernel
theorem d_Mo_init_25 : decode b_Mo_init 25 = .ok (.aload_n 0, 1) := by decide +kernel
theorem d_Mo_init_26 : decode b_Mo_init 26 = .ok (.ldc 19, 2) := by decide +kernel
theorem d_Mo_init_28 : decode b_Mo_init 28 = .ok (.newarray .byte, 2) := by decide +kernel
theorem d_Mo_init_30 : decode b_Mo_init 30 = .ok (.putfield 20, 3) := by decide +kernel
theorem d_Mo_init_33 : decode b_Mo_init 33 = .ok (.aload_n 0, 1) := by decide +kernel
theorem d_Mo_init_34 : decode b_Mo_init 34 = .ok (.sipush 2048, 3) := by decide +kernel
theorem d_Mo_init_37 : decode b_Mo_init 37 = .ok (.newarray .int, 2) := by decide +kernel
theorem d_Mo_init_39 : decode b_Mo_init 39 = .ok (.putfield 24, 3) := by decide +kernel
theorem d_Mo_init_42 : decode b_Mo_init 42 = .ok (.aload_n 0, 1) := by decide +kernel
theorem d_Mo_init_43 : decode b_Mo_init 43 = .ok (.sipush 2048, 3) := by decide +kernel
theorem d_Mo_init_46 : decode b_Mo_init 46 = .ok (.newarray .int, 2) := by decide +kernel
theorem d_Mo_init_48 : decode b_Mo_init 48 = .ok (.putfield 27, 3) := by decide +kernel
theorem d_Mo_init_51 : decode b_Mo_init 51 = .ok (.aload_n 0, 1) := by decide +kernel
theorem d_Mo_init_52 : decode b_Mo_init 52 = .ok (.sipush 2048, 3) := by decide +kernel
theorem d_Mo_init_55 : decode b_Mo_init 55 = .ok (.newarray .int, 2) := by decide +kernel
theorem d_Mo_init_57 : decode b_Mo_init 57 = .ok (.putfield 30, 3) := by decide +kernel
theorem d_Mo_init_60 : decode b_Mo_init 60 = .ok (.aload_n 0, 1) := by decide +kernel
theorem d_Mo_init_61 : decode b_Mo_init 61 = .ok (.sipush 2048, 3) := by decide +kernel
theorem d_Mo_init_64 : decode b_Mo_init 64 = .ok (.newarray .int, 2) := by decide +kernel
theorem d_Mo_init_66 : decode b_Mo_init 66 = .ok (.putfield 33, 3) := by decide +kernel
theorem d_Mo_init_69 : decode b_Mo_init 69 = .ok (.aload_n 0, 1) := by decide +kernel
theorem d_Mo_init_70 : decode b_Mo_init 70 = .ok (.sipush 2048, 3) := by decide +kernel
theorem d_Mo_init_73 : decode b_Mo_init 73 = .ok (.newarray .int, 2) := by decide +kernel
theorem d_Mo_init_75 : decode b_Mo_init 75 = .ok (.putfield 36, 3) := by decide +kernel
theorem d_Mo_init_78 : decode b_Mo_init 78 = .ok (.aload_n 0, 1) := by decide +kernel
theorem d_Mo_init_79 : decode b_Mo_init 79 = .ok (.sipush 2048, 3) := by decide +kernel
theorem d_Mo_init_82 : decode b_Mo_init 82 = .ok (.newarray .int, 2) := by decide +kernel
theorem d_Mo_init_84 : decode b_Mo_init 84 = .ok (.putfield 39, 3) := by decide +kernel
theorem d_Mo_init_87 : decode b_Mo_init 87 = .ok (.aload_n 0, 1) := by decide +kernel
theorem d_Mo_init_88 : decode b_Mo_init 88 = .ok (.sipush 8200, 3) := by decide +kernel
theorem d_Mo_init_91 : decode b_Mo_init 91 = .ok (.newarray .int, 2) := by decide +kernel
theorem d_Mo_init_93 : decode b_Mo_init 93 = .ok (.putfield 42, 3) := by decide +kernel
theorem d_Mo_init_96 : decode b_Mo_init 96 = .ok (.aload_n 0, 1) := by decide +kernel
theorem d_Mo_init_97 : decode b_Mo_init 97 = .ok (.sipush 8200, 3) := by decide +kernel
theorem d_Mo_init_100 : decode b_Mo_init 100 = .ok (.newarray .int, 2) := by decide +kernel
theorem d_Mo_init_102 : decode b_Mo_init 102 = .ok (.putfield 45, 3) := by decide +kernel
theorem d_Mo_init_105 : decode b_Mo_init 105 = .ok (.aload_n 0, 1) := by decide +kernel
theorem d_Mo_init_106 : decode b_Mo_init 106 = .ok (.iconst 2, 1) := by decide +kernel
theorem d_Mo_init_107 : decode b_Mo_init 107 = .ok (.newarray .int, 2) := by decide +kernel
theorem d_Mo_init_109 : decode b_Mo_init 109 = .ok (.putfield 48, 3) := by decide +kernel
theorem d_Mo_init_112 : decode b_Mo_init 112 = .ok (.aload_n 0, 1) := by decide +kernel
theorem d_Mo_init_113 : decode b_Mo_init 113 = .ok (.sipush 24576, 3) := by decide +kernel
theorem d_Mo_init_116 : decode b_Mo_init 116 = .ok (.newarray .int, 2) := by decide +kernel
theorem d_Mo_init_118 : decode b_Mo_init 118 = .ok (.putfield 51, 3) := by decide +kernel
theorem d_Mo_init_121 : decode b_Mo_init 121 = .ok (.aload_n 0, 1) := by decide +kernel
theorem d_Mo_init_122 : decode b_Mo_init 122 = .ok (.sipush 24576, 3) := by decide +kernel
theorem d_Mo_init_125 : decode b_Mo_init 125 = .ok (.newarray .boolean, 2) := by decide +kernel
theorem d_Mo_init_127 : decode b_Mo_init 127 = .ok (.putfield 54, 3) := by decide +kernel
theorem d_Mo_init_130 : decode b_Mo_init 130 = .ok (.aload_n 0, 1) := by decide +kernel
theorem d_Mo_init_131 : decode b_Mo_init 131 = .ok (.iconst 0, 1) := by decide +kernel
theorem d_Mo_init_132 : decode b_Mo_init 132 = .ok (.invokevirtual 58, 3) := by decide +kernel
theorem d_Mo_init_135 : decode b_Mo_init 135 = .ok (.aload_n 0, 1) := by decide +kernel
theorem d_Mo_init_136 : decode b_Mo_init 136 = .ok (.sipush 1024, 3) := by decide +kernel
theorem d_Mo_init_139 : decode b_Mo_init 139 = .ok (.invokevirtual 58, 3) := by decide +kernel
theorem d_Mo_init_142 : decode b_Mo_init 142 = .ok (.return_, 1) := by decide +kernel
abbrev b_Mo_add : ByteArray := prog_10_method_7_code
def y_Mo_add : MethodName := ⟨R_Mo, "add", "(II)V"⟩
theorem d_Mo_add_0 : decode b_Mo_add 0 = .ok (.aload_n 0, 1) := by decide +kernel
theorem d_Mo_add_1 : decode b_Mo_add 1 = .ok (.getfield 42, 3) := by decide +kernel
theorem d_Mo_add_4 : decode b_Mo_add 4 = .ok (.aload_n 0, 1) := by decide +kernel
theorem d_Mo_add_5 : decode b_Mo_add 5 = .ok (.getfield 70, 3) := by decide +kernel
theorem d_Mo_add_8 : decode b_Mo_add 8 = .ok (.iload_n 1, 1) := by decide +kernel
theorem d_Mo_add_9 : decode b_Mo_add 9 = .ok (.iastore, 1) := by decide +kernel
theorem d_Mo_add_10 : decode b_Mo_add 10 = .ok (.aload_n 0, 1) := by decide +kernel
theorem d_Mo_add_11 : decode b_Mo_add 11 = .ok (.getfield 45, 3) := by decide +kernel
theorem d_Mo_add_14 : decode b_Mo_add 14 = .ok (.aload_n 0, 1) := by decide +kernel
theorem d_Mo_add_15 : decode b_Mo_add 15 = .ok (.getfield 70, 3) := by decide +kernel
theorem d_Mo_add_18 : decode b_Mo_add 18 = .ok (.iload_n 2, 1) := by decide +kernel
theorem d_Mo_add_19 : decode b_Mo_add 19 = .ok (.iastore, 1) := by decide +kernel
theorem d_Mo_add_20 : decode b_Mo_add 20 = .ok (.aload_n 0, 1) := by decide +kernel
theorem d_Mo_add_21 : decode b_Mo_add 21 = .ok (.dup, 1) := by decide +kernel
theorem d_Mo_add_22 : decode b_Mo_add 22 = .ok (.getfield 70, 3) := by decide +kernel
theorem d_Mo_add_25 : decode b_Mo_add 25 = .ok (.iconst 1, 1) := by decide +kernel
theorem d_Mo_add_26 : decode b_Mo_add 26 = .ok (.iadd, 1) := by decide +kernel
theorem d_Mo_add_27 : decode b_Mo_add 27 = .ok (.putfield 70, 3) := by decide +kernel
theorem d_Mo_add_30 : decode b_Mo_add 30 = .ok (.aload_n 0, 1) := by decide +kernel
theorem d_Mo_add_31 : decode b_Mo_add 31 = .ok (.getfield 39, 3) := by decide +kernel
theorem d_Mo_add_34 : decode b_Mo_add 34 = .ok (.iload_n 1, 1) := by decide +kernel
theorem d_Mo_add_35 : decode b_Mo_add 35 = .ok (.dup2, 1) := by decide +kernel
theorem d_Mo_add_36 : decode b_Mo_add 36 = .ok (.iaload, 1) := by decide +kernel
theorem d_Mo_add_37 : decode b_Mo_add 37 = .ok (.iconst 1, 1) := by decide +kernel
theorem d_Mo_add_38 : decode b_Mo_add 38 = .ok (.iadd, 1) := by decide +kernel
theorem d_Mo_add_39 : decode b_Mo_add 39 = .ok (.iastore, 1) := by decide +kernel
theorem d_Mo_add_40 : decode b_Mo_add 40 = .ok (.return_, 1) := by decide +kernel
abbrev b_Mo_lengthOf : ByteArray := prog_10_method_8_code
def y_Mo_lengthOf : MethodName := ⟨R_Mo, "lengthOf", "(II)I"⟩
theorem d_Mo_lengthOf_0 : decode b_Mo_lengthOf 0 = .ok (.iload_n 2, 1) := by decide +kernel
theorem d_Mo_lengthOf_1 : decode b_Mo_lengthOf 1 = .ok (.istore_n 3, 1) := by decide +kernel
theorem d_Mo_lengthOf_2 : decode b_Mo_lengthOf 2 = .ok (.iconst 0, 1) := by decide +kernel
theorem d_Mo_lengthOf_3 : decode b_Mo_lengthOf 3 = .ok (.istore 4, 2) := by decide +kernel
theorem d_Mo_lengthOf_5 : decode b_Mo_lengthOf 5 = .ok (.aload_n 0, 1) := by decide +kernel
theorem d_Mo_lengthOf_6 : decode b_Mo_lengthOf 6 = .ok (.getfield 42, 3) := by decide +kernel
theorem d_Mo_lengthOf_9 : decode b_Mo_lengthOf 9 = .ok (.iload 4, 2) := by decide +kernel
theorem d_Mo_lengthOf_11 : decode b_Mo_lengthOf 11 = .ok (.iaload, 1) := by decide +kernel
theorem d_Mo_lengthOf_12 : decode b_Mo_lengthOf 12 = .ok (.iload_n 1, 1) := by decide +kernel
theorem d_Mo_lengthOf_13 : decode b_Mo_lengthOf 13 = .ok (.if_icmp .ne 7, 3) := by decide +kernel
theorem d_Mo_lengthOf_16 : decode b_Mo_lengthOf 16 = .ok (.iload_n 3, 1) := by decide +kernel
theorem d_Mo_lengthOf_17 : decode b_Mo_lengthOf 17 = .ok (.ifCond .le 28, 3) := by decide +kernel
theorem d_Mo_lengthOf_20 : decode b_Mo_lengthOf 20 = .ok (.aload_n 0, 1) := by decide +kernel
theorem d_Mo_lengthOf_21 : decode b_Mo_lengthOf 21 = .ok (.getfield 42, 3) := by decide +kernel
theorem d_Mo_lengthOf_24 : decode b_Mo_lengthOf 24 = .ok (.iload 4, 2) := by decide +kernel
theorem d_Mo_lengthOf_26 : decode b_Mo_lengthOf 26 = .ok (.iaload, 1) := by decide +kernel
theorem d_Mo_lengthOf_27 : decode b_Mo_lengthOf 27 = .ok (.iload_n 1, 1) := by decide +kernel
theorem d_Mo_lengthOf_28 : decode b_Mo_lengthOf 28 = .ok (.if_icmp .ne 9, 3) := by decide +kernel
theorem d_Mo_lengthOf_31 : decode b_Mo_lengthOf 31 = .ok (.iload_n 3, 1) := by decide +kernel
theorem d_Mo_lengthOf_32 : decode b_Mo_lengthOf 32 = .ok (.iconst 1, 1) := by decide +kernel
theorem d_Mo_lengthOf_33 : decode b_Mo_lengthOf 33 = .ok (.isub, 1) := by decide +kernel
theorem d_Mo_lengthOf_34 : decode b_Mo_lengthOf 34 = .ok (.goto 4, 3) := by decide +kernel
theorem d_Mo_lengthOf_37 : decode b_Mo_lengthOf 37 = .ok (.iload_n 3, 1) := by decide +kernel
theorem d_Mo_lengthOf_38 : decode b_Mo_lengthOf 38 = .ok (.istore_n 3, 1) := by decide +kernel
theorem d_Mo_lengthOf_39 : decode b_Mo_lengthOf 39 = .ok (.iinc 4 1, 3) := by decide +kernel
theorem d_Mo_lengthOf_42 : decode b_Mo_lengthOf 42 = .ok (.goto (-37), 3) := by decide +kernel
theorem d_Mo_lengthOf_45 : decode b_Mo_lengthOf 45 = .ok (.aload_n 0, 1) := by decide +kernel
theorem d_Mo_lengthOf_46 : decode b_Mo_lengthOf 46 = .ok (.getfield 45, 3) := by decide +kernel
theorem d_Mo_lengthOf_49 : decode b_Mo_lengthOf 49 = .ok (.iload 4, 2) := by decide +kernel
theorem d_Mo_lengthOf_51 : decode b_Mo_lengthOf 51 = .ok (.iaload, 1) := by decide +kernel
theorem d_Mo_lengthOf_52 : decode b_Mo_lengthOf 52 = .ok (.ireturn, 1) := by decide +kernel
abbrev b_Mo_begin : ByteArray := prog_10_method_9_code
def y_Mo_begin : MethodName := ⟨R_Mo, "begin", "(I)V"⟩
theorem d_Mo_begin_0 : decode b_Mo_begin 0 = .ok (.aload_n 0, 1) := by decide +kernel
theorem d_Mo_begin_1 : decode b_Mo_begin 1 = .ok (.iload_n 1, 1) := by decide +kernel
theorem d_Mo_begin_2 : decode b_Mo_begin 2 = .ok (.ifCond .eq 22, 3) := by decide +kernel
theorem d_Mo_begin_5 : decode b_Mo_begin 5 = .ok (.iload_n 1, 1) := by decide +kernel
theorem d_Mo_begin_6 : decode b_Mo_begin 6 = .ok (.iconst 1, 1) := by decide +kernel
theorem d_Mo_begin_7 : decode b_Mo_begin 7 = .ok (.if_icmp .eq 17, 3) := by decide +kernel
theorem d_Mo_begin_10 : decode b_Mo_begin 10 = .ok (.iload_n 1, 1) := by decide +kernel
theorem d_Mo_begin_11 : decode b_Mo_begin 11 = .ok (.iconst 4, 1) := by decide +kernel
theorem d_Mo_begin_12 : decode b_Mo_begin 12 = .ok (.if_icmp .eq 12, 3) := by decide +kernel
theorem d_Mo_begin_15 : decode b_Mo_begin 15 = .ok (.iload_n 1, 1) := by decide +kernel
theorem d_Mo_begin_16 : decode b_Mo_begin 16 = .ok (.iconst 5, 1) := by decide +kernel
theorem d_Mo_begin_17 : decode b_Mo_begin 17 = .ok (.if_icmp .eq 7, 3) := by decide +kernel
theorem d_Mo_begin_20 : decode b_Mo_begin 20 = .ok (.iconst 1, 1) := by decide +kernel
theorem d_Mo_begin_21 : decode b_Mo_begin 21 = .ok (.goto 4, 3) := by decide +kernel
theorem d_Mo_begin_24 : decode b_Mo_begin 24 = .ok (.iconst 0, 1) := by decide +kernel
theorem d_Mo_begin_25 : decode b_Mo_begin 25 = .ok (.iconst 0, 1) := by decide +kernel
theorem d_Mo_begin_26 : decode b_Mo_begin 26 = .ok (.iconst 0, 1) := by decide +kernel
theorem d_Mo_begin_27 : decode b_Mo_begin 27 = .ok (.invokevirtual 73, 3) := by decide +kernel
theorem d_Mo_begin_30 : decode b_Mo_begin 30 = .ok (.ifCond .eq 4, 3) := by decide +kernel
theorem d_Mo_begin_33 : decode b_Mo_begin 33 = .ok (.return_, 1) := by decide +kernel
theorem d_Mo_begin_34 : decode b_Mo_begin 34 = .ok (.aload_n 0, 1) := by decide +kernel
theorem d_Mo_begin_35 : decode b_Mo_begin 35 = .ok (.iload_n 1, 1) := by decide +kernel
theorem d_Mo_begin_36 : decode b_Mo_begin 36 = .ok (.putfield 77, 3) := by decide +kernel
theorem d_Mo_begin_39 : decode b_Mo_begin 39 = .ok (.aload_n 0, 1) := by decide +kernel
theorem d_Mo_begin_40 : decode b_Mo_begin 40 = .ok (.iconst 0, 1) := by decide +kernel
theorem d_Mo_begin_41 : decode b_Mo_begin 41 = .ok (.putfield 80, 3) := by decide +kernel
theorem d_Mo_begin_44 : decode b_Mo_begin 44 = .ok (.aload_n 0, 1) := by decide +kernel
theorem d_Mo_begin_45 : decode b_Mo_begin 45 = .ok (.getfield 16, 3) := by decide +kernel
theorem d_Mo_begin_48 : decode b_Mo_begin 48 = .ok (.iconst 0, 1) := by decide +kernel
theorem d_Mo_begin_49 : decode b_Mo_begin 49 = .ok (.iconst 0, 1) := by decide +kernel
theorem d_Mo_begin_50 : decode b_Mo_begin 50 = .ok (.iastore, 1) := by decide +kernel
theorem d_Mo_begin_51 : decode b_Mo_begin 51 = .ok (.aload_n 0, 1) := by decide +kernel
theorem d_Mo_begin_52 : decode b_Mo_begin 52 = .ok (.iconst 0, 1) := by decide +kernel
theorem d_Mo_begin_53 : decode b_Mo_begin 53 = .ok (.invokevirtual 58, 3) := by decide +kernel
theorem d_Mo_begin_56 : decode b_Mo_begin 56 = .ok (.aload_n 0, 1) := by decide +kernel
theorem d_Mo_begin_57 : decode b_Mo_begin 57 = .ok (.sipush 1024, 3) := by decide +kernel
theorem d_Mo_begin_60 : decode b_Mo_begin 60 = .ok (.invokevirtual 58, 3) := by decide +kernel
theorem d_Mo_begin_63 : decode b_Mo_begin 63 = .ok (.aload_n 0, 1) := by decide +kernel
theorem d_Mo_begin_64 : decode b_Mo_begin 64 = .ok (.getfield 48, 3) := by decide +kernel
theorem d_Mo_begin_67 : decode b_Mo_begin 67 = .ok (.iconst 0, 1) := by decide +kernel
theorem d_Mo_begin_68 : decode b_Mo_begin 68 = .ok (.iconst 0, 1) := by decide +kernel
theorem d_Mo_begin_69 : decode b_Mo_begin 69 = .ok (.iastore, 1) := by decide +kernel
theorem d_Mo_begin_70 : decode b_Mo_begin 70 = .ok (.aload_n 0, 1) := by decide +kernel
theorem d_Mo_begin_71 : decode b_Mo_begin 71 = .ok (.getfield 48, 3) := by decide +kernel
theorem d_Mo_begin_74 : decode b_Mo_begin 74 = .ok (.iconst 1, 1) := by decide +kernel
theorem d_Mo_begin_75 : decode b_Mo_begin 75 = .ok (.iconst 0, 1) := by decide +kernel
theorem d_Mo_begin_76 : decode b_Mo_begin 76 = .ok (.iastore, 1) := by decide +kernel
theorem d_Mo_begin_77 : decode b_Mo_begin 77 = .ok (.aload_n 0, 1) := by decide +kernel
theorem d_Mo_begin_78 : decode b_Mo_begin 78 = .ok (.iconst 0, 1) := by decide +kernel
theorem d_Mo_begin_79 : decode b_Mo_begin 79 = .ok (.putfield 83, 3) := by decide +kernel
theorem d_Mo_begin_82 : decode b_Mo_begin 82 = .ok (.iconst 0, 1) := by decide +kernel
theorem d_Mo_begin_83 : decode b_Mo_begin 83 = .ok (.istore_n 2, 1) := by decide +kernel
theorem d_Mo_begin_84 : decode b_Mo_begin 84 = .ok (.iload_n 2, 1) := by decide +kernel
theorem d_Mo_begin_85 : decode b_Mo_begin 85 = .ok (.sipush 24576, 3) := by decide +kernel
theorem d_Mo_begin_88 : decode b_Mo_begin 88 = .ok (.if_icmp .ge 23, 3) := by decide +kernel
theorem d_Mo_begin_91 : decode b_Mo_begin 91 = .ok (.aload_n 0, 1) := by decide +kernel
theorem d_Mo_begin_92 : decode b_Mo_begin 92 = .ok (.getfield 51, 3) := by decide +kernel
theorem d_Mo_begin_95 : decode b_Mo_begin 95 = .ok (.iload_n 2, 1) := by decide +kernel
theorem d_Mo_begin_96 : decode b_Mo_begin 96 = .ok (.iconst 0, 1) := by decide +kernel
theorem d_Mo_begin_97 : decode b_Mo_begin 97 = .ok (.iastore, 1) := by decide +kernel
theorem d_Mo_begin_98 : decode b_Mo_begin 98 = .ok (.aload_n 0, 1) := by decide +kernel
theorem d_Mo_begin_99 : decode b_Mo_begin 99 = .ok (.getfield 54, 3) := by decide +kernel
theorem d_Mo_begin_102 : decode b_Mo_begin 102 = .ok (.iload_n 2, 1) := by decide +kernel
theorem d_Mo_begin_103 : decode b_Mo_begin 103 = .ok (.iconst 0, 1) := by decide +kernel
theorem d_Mo_begin_104 : decode b_Mo_begin 104 = .ok (.bastore, 1) := by decide +kernel
theorem d_Mo_begin_105 : decode b_Mo_begin 105 = .ok (.iinc 2 1, 3) := by decide +kernel
theorem d_Mo_begin_108 : decode b_Mo_begin 108 = .ok (.goto (-24), 3) := by decide +kernel
theorem d_Mo_begin_111 : decode b_Mo_begin 111 = .ok (.return_, 1) := by decide +kernel
abbrev b_Mo_band : ByteArray := prog_10_method_10_code
def y_Mo_band : MethodName := ⟨R_Mo, "band", "(II)I"⟩
theorem d_Mo_band_0 : decode b_Mo_band 0 = .ok (.iload_n 1, 1) := by decide +kernel
theorem d_Mo_band_1 : decode b_Mo_band 1 = .ok (.iconst 0, 1) := by decide +kernel
theorem d_Mo_band_2 : decode b_Mo_band 2 = .ok (.bipush 64, 2) := by decide +kernel
theorem d_Mo_band_4 : decode b_Mo_band 4 = .ok (.invokestatic 87, 3) := by decide +kernel
theorem d_Mo_band_7 : decode b_Mo_band 7 = .ok (.ifCond .ne 32, 3) := by decide +kernel
theorem d_Mo_band_10 : decode b_Mo_band 10 = .ok (.iload_n 2, 1) := by decide +kernel
theorem d_Mo_band_11 : decode b_Mo_band 11 = .ok (.iconst 0, 1) := by decide +kernel
theorem d_Mo_band_12 : decode b_Mo_band 12 = .ok (.bipush 64, 2) := by decide +kernel
theorem d_Mo_band_14 : decode b_Mo_band 14 = .ok (.invokestatic 87, 3) := by decide +kernel
theorem d_Mo_band_17 : decode b_Mo_band 17 = .ok (.ifCond .ne 22, 3) := by decide +kernel
theorem d_Mo_band_20 : decode b_Mo_band 20 = .ok (.iload_n 1, 1) := by decide +kernel
theorem d_Mo_band_21 : decode b_Mo_band 21 = .ok (.iload_n 2, 1) := by decide +kernel
theorem d_Mo_band_22 : decode b_Mo_band 22 = .ok (.imul, 1) := by decide +kernel
theorem d_Mo_band_23 : decode b_Mo_band 23 = .ok (.sipush 1024, 3) := by decide +kernel
theorem d_Mo_band_26 : decode b_Mo_band 26 = .ok (.aload_n 0, 1) := by decide +kernel
theorem d_Mo_band_27 : decode b_Mo_band 27 = .ok (.getfield 16, 3) := by decide +kernel
theorem d_Mo_band_30 : decode b_Mo_band 30 = .ok (.aload_n 0, 1) := by decide +kernel
theorem d_Mo_band_31 : decode b_Mo_band 31 = .ok (.getfield 80, 3) := by decide +kernel
theorem d_Mo_band_34 : decode b_Mo_band 34 = .ok (.iaload, 1) := by decide +kernel
theorem d_Mo_band_35 : decode b_Mo_band 35 = .ok (.isub, 1) := by decide +kernel
theorem d_Mo_band_36 : decode b_Mo_band 36 = .ok (.if_icmp .le 7, 3) := by decide +kernel
theorem d_Mo_band_39 : decode b_Mo_band 39 = .ok (.iconst 1, 1) := by decide +kernel
theorem d_Mo_band_40 : decode b_Mo_band 40 = .ok (.goto 4, 3) := by decide +kernel
theorem d_Mo_band_43 : decode b_Mo_band 43 = .ok (.iconst 0, 1) := by decide +kernel
theorem d_Mo_band_44 : decode b_Mo_band 44 = .ok (.istore_n 3, 1) := by decide +kernel
theorem d_Mo_band_45 : decode b_Mo_band 45 = .ok (.aload_n 0, 1) := by decide +kernel
theorem d_Mo_band_46 : decode b_Mo_band 46 = .ok (.iload_n 3, 1) := by decide +kernel
theorem d_Mo_band_47 : decode b_Mo_band 47 = .ok (.iload_n 3, 1) := by decide +kernel
theorem d_Mo_band_48 : decode b_Mo_band 48 = .ok (.ifCond .ne 38, 3) := by decide +kernel
theorem d_Mo_band_51 : decode b_Mo_band 51 = .ok (.aload_n 0, 1) := by decide +kernel
theorem d_Mo_band_52 : decode b_Mo_band 52 = .ok (.getfield 80, 3) := by decide +kernel
theorem d_Mo_band_55 : decode b_Mo_band 55 = .ok (.iconst 3, 1) := by decide +kernel
theorem d_Mo_band_56 : decode b_Mo_band 56 = .ok (.if_icmp .eq 26, 3) := by decide +kernel
theorem d_Mo_band_59 : decode b_Mo_band 59 = .ok (.aload_n 0, 1) := by decide +kernel
theorem d_Mo_band_60 : decode b_Mo_band 60 = .ok (.getfield 48, 3) := by decide +kernel
theorem d_Mo_band_63 : decode b_Mo_band 63 = .ok (.iconst 0, 1) := by decide +kernel
theorem d_Mo_band_64 : decode b_Mo_band 64 = .ok (.iaload, 1) := by decide +kernel
theorem d_Mo_band_65 : decode b_Mo_band 65 = .ok (.aload_n 0, 1) := by decide +kernel
theorem d_Mo_band_66 : decode b_Mo_band 66 = .ok (.getfield 48, 3) := by decide +kernel
theorem d_Mo_band_69 : decode b_Mo_band 69 = .ok (.iconst 1, 1) := by decide +kernel
theorem d_Mo_band_70 : decode b_Mo_band 70 = .ok (.iaload, 1) := by decide +kernel
theorem d_Mo_band_71 : decode b_Mo_band 71 = .ok (.iadd, 1) := by decide +kernel
theorem d_Mo_band_72 : decode b_Mo_band 72 = .ok (.ifCond .gt 10, 3) := by decide +kernel
theorem d_Mo_band_75 : decode b_Mo_band 75 = .ok (.aload_n 0, 1) := by decide +kernel
theorem d_Mo_band_76 : decode b_Mo_band 76 = .ok (.getfield 83, 3) := by decide +kernel
theorem d_Mo_band_79 : decode b_Mo_band 79 = .ok (.ifCond .eq 7, 3) := by decide +kernel
theorem d_Mo_band_82 : decode b_Mo_band 82 = .ok (.iconst 1, 1) := by decide +kernel
theorem d_Mo_band_83 : decode b_Mo_band 83 = .ok (.goto 4, 3) := by decide +kernel
theorem d_Mo_band_86 : decode b_Mo_band 86 = .ok (.iconst 0, 1) := by decide +kernel
theorem d_Mo_band_87 : decode b_Mo_band 87 = .ok (.iconst 0, 1) := by decide +kernel
theorem d_Mo_band_88 : decode b_Mo_band 88 = .ok (.invokevirtual 73, 3) := by decide +kernel
theorem d_Mo_band_91 : decode b_Mo_band 91 = .ok (.ifCond .eq 5, 3) := by decide +kernel
theorem d_Mo_band_94 : decode b_Mo_band 94 = .ok (.iconst 0, 1) := by decide +kernel
theorem d_Mo_band_95 : decode b_Mo_band 95 = .ok (.ireturn, 1) := by decide +kernel
theorem d_Mo_band_96 : decode b_Mo_band 96 = .ok (.aload_n 0, 1) := by decide +kernel
theorem d_Mo_band_97 : decode b_Mo_band 97 = .ok (.getfield 7, 3) := by decide +kernel
theorem d_Mo_band_100 : decode b_Mo_band 100 = .ok (.aload_n 0, 1) := by decide +kernel
theorem d_Mo_band_101 : decode b_Mo_band 101 = .ok (.getfield 80, 3) := by decide +kernel
theorem d_Mo_band_104 : decode b_Mo_band 104 = .ok (.iload_n 1, 1) := by decide +kernel
theorem d_Mo_band_105 : decode b_Mo_band 105 = .ok (.iastore, 1) := by decide +kernel
theorem d_Mo_band_106 : decode b_Mo_band 106 = .ok (.aload_n 0, 1) := by decide +kernel
theorem d_Mo_band_107 : decode b_Mo_band 107 = .ok (.getfield 13, 3) := by decide +kernel
theorem d_Mo_band_110 : decode b_Mo_band 110 = .ok (.aload_n 0, 1) := by decide +kernel
theorem d_Mo_band_111 : decode b_Mo_band 111 = .ok (.getfield 80, 3) := by decide +kernel
theorem d_Mo_band_114 : decode b_Mo_band 114 = .ok (.iload_n 2, 1) := by decide +kernel
theorem d_Mo_band_115 : decode b_Mo_band 115 = .ok (.iastore, 1) := by decide +kernel
theorem d_Mo_band_116 : decode b_Mo_band 116 = .ok (.aload_n 0, 1) := by decide +kernel
theorem d_Mo_band_117 : decode b_Mo_band 117 = .ok (.getfield 16, 3) := by decide +kernel
theorem d_Mo_band_120 : decode b_Mo_band 120 = .ok (.aload_n 0, 1) := by decide +kernel
theorem d_Mo_band_121 : decode b_Mo_band 121 = .ok (.getfield 80, 3) := by decide +kernel
theorem d_Mo_band_124 : decode b_Mo_band 124 = .ok (.iconst 1, 1) := by decide +kernel
theorem d_Mo_band_125 : decode b_Mo_band 125 = .ok (.iadd, 1) := by decide +kernel
theorem d_Mo_band_126 : decode b_Mo_band 126 = .ok (.aload_n 0, 1) := by decide +kernel
theorem d_Mo_band_127 : decode b_Mo_band 127 = .ok (.getfield 16, 3) := by decide +kernel
theorem d_Mo_band_130 : decode b_Mo_band 130 = .ok (.aload_n 0, 1) := by decide +kernel
theorem d_Mo_band_131 : decode b_Mo_band 131 = .ok (.getfield 80, 3) := by decide +kernel
theorem d_Mo_band_134 : decode b_Mo_band 134 = .ok (.iaload, 1) := by decide +kernel
theorem d_Mo_band_135 : decode b_Mo_band 135 = .ok (.iload_n 1, 1) := by decide +kernel
theorem d_Mo_band_136 : decode b_Mo_band 136 = .ok (.iload_n 2, 1) := by decide +kernel
theorem d_Mo_band_137 : decode b_Mo_band 137 = .ok (.imul, 1) := by decide +kernel
theorem d_Mo_band_138 : decode b_Mo_band 138 = .ok (.iadd, 1) := by decide +kernel
theorem d_Mo_band_139 : decode b_Mo_band 139 = .ok (.iastore, 1) := by decide +kernel
theorem d_Mo_band_140 : decode b_Mo_band 140 = .ok (.aload_n 0, 1) := by decide +kernel
theorem d_Mo_band_141 : decode b_Mo_band 141 = .ok (.dup, 1) := by decide +kernel
theorem d_Mo_band_142 : decode b_Mo_band 142 = .ok (.getfield 80, 3) := by decide +kernel
theorem d_Mo_band_145 : decode b_Mo_band 145 = .ok (.iconst 1, 1) := by decide +kernel
theorem d_Mo_band_146 : decode b_Mo_band 146 = .ok (.iadd, 1) := by decide +kernel
theorem d_Mo_band_147 : decode b_Mo_band 147 = .ok (.putfield 80, 3) := by decide +kernel
theorem d_Mo_band_150 : decode b_Mo_band 150 = .ok (.aload_n 0, 1) := by decide +kernel
theorem d_Mo_band_151 : decode b_Mo_band 151 = .ok (.getfield 80, 3) := by decide +kernel
theorem d_Mo_band_154 : decode b_Mo_band 154 = .ok (.iconst 1, 1) := by decide +kernel
theorem d_Mo_band_155 : decode b_Mo_band 155 = .ok (.isub, 1) := by decide +kernel
theorem d_Mo_band_156 : decode b_Mo_band 156 = .ok (.ireturn, 1) := by decide +kernel
abbrev b_Mo_isBlock : ByteArray := prog_10_method_11_code
def y_Mo_isBlock : MethodName := ⟨R_Mo, "isBlock", "(II)Z"⟩
theorem d_Mo_isBlock_0 : decode b_Mo_isBlock 0 = .ok (.iload_n 1, 1) := by decide +kernel
theorem d_Mo_isBlock_1 : decode b_Mo_isBlock 1 = .ok (.iconst 0, 1) := by decide +kernel
theorem d_Mo_isBlock_2 : decode b_Mo_isBlock 2 = .ok (.aload_n 0, 1) := by decide +kernel
theorem d_Mo_isBlock_3 : decode b_Mo_isBlock 3 = .ok (.getfield 80, 3) := by decide +kernel
theorem d_Mo_isBlock_6 : decode b_Mo_isBlock 6 = .ok (.iconst 1, 1) := by decide +kernel
theorem d_Mo_isBlock_7 : decode b_Mo_isBlock 7 = .ok (.isub, 1) := by decide +kernel
theorem d_Mo_isBlock_8 : decode b_Mo_isBlock 8 = .ok (.invokestatic 87, 3) := by decide +kernel
theorem d_Mo_isBlock_11 : decode b_Mo_isBlock 11 = .ok (.ifCond .ne 30, 3) := by decide +kernel
theorem d_Mo_isBlock_14 : decode b_Mo_isBlock 14 = .ok (.iload_n 2, 1) := by decide +kernel
theorem d_Mo_isBlock_15 : decode b_Mo_isBlock 15 = .ok (.iconst 0, 1) := by decide +kernel
theorem d_Mo_isBlock_16 : decode b_Mo_isBlock 16 = .ok (.aload_n 0, 1) := by decide +kernel
theorem d_Mo_isBlock_17 : decode b_Mo_isBlock 17 = .ok (.getfield 7, 3) := by decide +kernel
theorem d_Mo_isBlock_20 : decode b_Mo_isBlock 20 = .ok (.iload_n 1, 1) := by decide +kernel
theorem d_Mo_isBlock_21 : decode b_Mo_isBlock 21 = .ok (.iaload, 1) := by decide +kernel
theorem d_Mo_isBlock_22 : decode b_Mo_isBlock 22 = .ok (.aload_n 0, 1) := by decide +kernel
theorem d_Mo_isBlock_23 : decode b_Mo_isBlock 23 = .ok (.getfield 13, 3) := by decide +kernel
theorem d_Mo_isBlock_26 : decode b_Mo_isBlock 26 = .ok (.iload_n 1, 1) := by decide +kernel
theorem d_Mo_isBlock_27 : decode b_Mo_isBlock 27 = .ok (.iaload, 1) := by decide +kernel
theorem d_Mo_isBlock_28 : decode b_Mo_isBlock 28 = .ok (.imul, 1) := by decide +kernel
theorem d_Mo_isBlock_29 : decode b_Mo_isBlock 29 = .ok (.iconst 1, 1) := by decide +kernel
theorem d_Mo_isBlock_30 : decode b_Mo_isBlock 30 = .ok (.isub, 1) := by decide +kernel
theorem d_Mo_isBlock_31 : decode b_Mo_isBlock 31 = .ok (.invokestatic 87, 3) := by decide +kernel
theorem d_Mo_isBlock_34 : decode b_Mo_isBlock 34 = .ok (.ifCond .ne 7, 3) := by decide +kernel
theorem d_Mo_isBlock_37 : decode b_Mo_isBlock 37 = .ok (.iconst 1, 1) := by decide +kernel
theorem d_Mo_isBlock_38 : decode b_Mo_isBlock 38 = .ok (.goto 4, 3) := by decide +kernel
theorem d_Mo_isBlock_41 : decode b_Mo_isBlock 41 = .ok (.iconst 0, 1) := by decide +kernel
theorem d_Mo_isBlock_42 : decode b_Mo_isBlock 42 = .ok (.ireturn, 1) := by decide +kernel
abbrev b_Mo_endsBehind : ByteArray := prog_10_method_12_code
def y_Mo_endsBehind : MethodName := ⟨R_Mo, "endsBehind", "(I)Z"⟩
theorem d_Mo_endsBehind_0 : decode b_Mo_endsBehind 0 = .ok (.aload_n 0, 1) := by decide +kernel
theorem d_Mo_endsBehind_1 : decode b_Mo_endsBehind 1 = .ok (.getfield 77, 3) := by decide +kernel
theorem d_Mo_endsBehind_4 : decode b_Mo_endsBehind 4 = .ok (.iconst 4, 1) := by decide +kernel
theorem d_Mo_endsBehind_5 : decode b_Mo_endsBehind 5 = .ok (.iand, 1) := by decide +kernel
theorem d_Mo_endsBehind_6 : decode b_Mo_endsBehind 6 = .ok (.ifCond .eq 5, 3) := by decide +kernel
theorem d_Mo_endsBehind_9 : decode b_Mo_endsBehind 9 = .ok (.iconst 1, 1) := by decide +kernel
theorem d_Mo_endsBehind_10 : decode b_Mo_endsBehind 10 = .ok (.ireturn, 1) := by decide +kernel
theorem d_Mo_endsBehind_11 : decode b_Mo_endsBehind 11 = .ok (.aload_n 0, 1) := by decide +kernel
theorem d_Mo_endsBehind_12 : decode b_Mo_endsBehind 12 = .ok (.getfield 77, 3) := by decide +kernel
theorem d_Mo_endsBehind_15 : decode b_Mo_endsBehind 15 = .ok (.iconst 1, 1) := by decide +kernel
theorem d_Mo_endsBehind_16 : decode b_Mo_endsBehind 16 = .ok (.iand, 1) := by decide +kernel
theorem d_Mo_endsBehind_17 : decode b_Mo_endsBehind 17 = .ok (.ifCond .eq 32, 3) := by decide +kernel
theorem d_Mo_endsBehind_20 : decode b_Mo_endsBehind 20 = .ok (.iload_n 1, 1) := by decide +kernel
theorem d_Mo_endsBehind_21 : decode b_Mo_endsBehind 21 = .ok (.bipush 8, 2) := by decide +kernel
theorem d_Mo_endsBehind_23 : decode b_Mo_endsBehind 23 = .ok (.if_icmp .le 9, 3) := by decide +kernel
theorem d_Mo_endsBehind_26 : decode b_Mo_endsBehind 26 = .ok (.iload_n 1, 1) := by decide +kernel
theorem d_Mo_endsBehind_27 : decode b_Mo_endsBehind 27 = .ok (.iconst 3, 1) := by decide +kernel
theorem d_Mo_endsBehind_28 : decode b_Mo_endsBehind 28 = .ok (.irem, 1) := by decide +kernel
theorem d_Mo_endsBehind_29 : decode b_Mo_endsBehind 29 = .ok (.ifCond .eq 16, 3) := by decide +kernel
theorem d_Mo_endsBehind_32 : decode b_Mo_endsBehind 32 = .ok (.iload_n 1, 1) := by decide +kernel
theorem d_Mo_endsBehind_33 : decode b_Mo_endsBehind 33 = .ok (.bipush 9, 2) := by decide +kernel
theorem d_Mo_endsBehind_35 : decode b_Mo_endsBehind 35 = .ok (.if_icmp .le 14, 3) := by decide +kernel
theorem d_Mo_endsBehind_38 : decode b_Mo_endsBehind 38 = .ok (.iload_n 1, 1) := by decide +kernel
theorem d_Mo_endsBehind_39 : decode b_Mo_endsBehind 39 = .ok (.iconst 3, 1) := by decide +kernel
theorem d_Mo_endsBehind_40 : decode b_Mo_endsBehind 40 = .ok (.irem, 1) := by decide +kernel
theorem d_Mo_endsBehind_41 : decode b_Mo_endsBehind 41 = .ok (.iconst 2, 1) := by decide +kernel
theorem d_Mo_endsBehind_42 : decode b_Mo_endsBehind 42 = .ok (.if_icmp .ne 7, 3) := by decide +kernel
theorem d_Mo_endsBehind_45 : decode b_Mo_endsBehind 45 = .ok (.iconst 1, 1) := by decide +kernel
theorem d_Mo_endsBehind_46 : decode b_Mo_endsBehind 46 = .ok (.goto 4, 3) := by decide +kernel
theorem d_Mo_endsBehind_49 : decode b_Mo_endsBehind 49 = .ok (.iconst 0, 1) := by decide +kernel
theorem d_Mo_endsBehind_50 : decode b_Mo_endsBehind 50 = .ok (.ireturn, 1) := by decide +kernel
abbrev b_Mo_firstPiece : ByteArray := prog_10_method_13_code
def y_Mo_firstPiece : MethodName := ⟨R_Mo, "firstPiece", "(II)I"⟩
theorem d_Mo_firstPiece_0 : decode b_Mo_firstPiece 0 = .ok (.iload_n 1, 1) := by decide +kernel
theorem d_Mo_firstPiece_1 : decode b_Mo_firstPiece 1 = .ok (.istore_n 3, 1) := by decide +kernel
theorem d_Mo_firstPiece_2 : decode b_Mo_firstPiece 2 = .ok (.iload_n 3, 1) := by decide +kernel
theorem d_Mo_firstPiece_3 : decode b_Mo_firstPiece 3 = .ok (.iload_n 2, 1) := by decide +kernel
theorem d_Mo_firstPiece_4 : decode b_Mo_firstPiece 4 = .ok (.iconst 1, 1) := by decide +kernel
theorem d_Mo_firstPiece_5 : decode b_Mo_firstPiece 5 = .ok (.isub, 1) := by decide +kernel
theorem d_Mo_firstPiece_6 : decode b_Mo_firstPiece 6 = .ok (.if_icmp .ge 17, 3) := by decide +kernel
theorem d_Mo_firstPiece_9 : decode b_Mo_firstPiece 9 = .ok (.aload_n 0, 1) := by decide +kernel
theorem d_Mo_firstPiece_10 : decode b_Mo_firstPiece 10 = .ok (.iload_n 3, 1) := by decide +kernel
theorem d_Mo_firstPiece_11 : decode b_Mo_firstPiece 11 = .ok (.invokevirtual 91, 3) := by decide +kernel
theorem d_Mo_firstPiece_14 : decode b_Mo_firstPiece 14 = .ok (.ifCond .ne 9, 3) := by decide +kernel
theorem d_Mo_firstPiece_17 : decode b_Mo_firstPiece 17 = .ok (.iinc 3 1, 3) := by decide +kernel
theorem d_Mo_firstPiece_20 : decode b_Mo_firstPiece 20 = .ok (.goto (-18), 3) := by decide +kernel
theorem d_Mo_firstPiece_23 : decode b_Mo_firstPiece 23 = .ok (.iload_n 3, 1) := by decide +kernel
theorem d_Mo_firstPiece_24 : decode b_Mo_firstPiece 24 = .ok (.iconst 1, 1) := by decide +kernel
theorem d_Mo_firstPiece_25 : decode b_Mo_firstPiece 25 = .ok (.iadd, 1) := by decide +kernel
theorem d_Mo_firstPiece_26 : decode b_Mo_firstPiece 26 = .ok (.iload_n 1, 1) := by decide +kernel
theorem d_Mo_firstPiece_27 : decode b_Mo_firstPiece 27 = .ok (.isub, 1) := by decide +kernel
theorem d_Mo_firstPiece_28 : decode b_Mo_firstPiece 28 = .ok (.ireturn, 1) := by decide +kernel
abbrev b_Mo_piecesOf : ByteArray := prog_10_method_14_code
def y_Mo_piecesOf : MethodName := ⟨R_Mo, "piecesOf", "(II)I"⟩
theorem d_Mo_piecesOf_0 : decode b_Mo_piecesOf 0 = .ok (.aload_n 0, 1) := by decide +kernel
theorem d_Mo_piecesOf_1 : decode b_Mo_piecesOf 1 = .ok (.getfield 24, 3) := by decide +kernel
theorem d_Mo_piecesOf_4 : decode b_Mo_piecesOf 4 = .ok (.iload_n 1, 1) := by decide +kernel
theorem d_Mo_piecesOf_5 : decode b_Mo_piecesOf 5 = .ok (.iaload, 1) := by decide +kernel
theorem d_Mo_piecesOf_6 : decode b_Mo_piecesOf 6 = .ok (.istore_n 3, 1) := by decide +kernel
theorem d_Mo_piecesOf_7 : decode b_Mo_piecesOf 7 = .ok (.iconst 0, 1) := by decide +kernel
theorem d_Mo_piecesOf_8 : decode b_Mo_piecesOf 8 = .ok (.istore 4, 2) := by decide +kernel
theorem d_Mo_piecesOf_10 : decode b_Mo_piecesOf 10 = .ok (.iload_n 3, 1) := by decide +kernel
theorem d_Mo_piecesOf_11 : decode b_Mo_piecesOf 11 = .ok (.aload_n 0, 1) := by decide +kernel
theorem d_Mo_piecesOf_12 : decode b_Mo_piecesOf 12 = .ok (.getfield 24, 3) := by decide +kernel
theorem d_Mo_piecesOf_15 : decode b_Mo_piecesOf 15 = .ok (.iload_n 1, 1) := by decide +kernel
theorem d_Mo_piecesOf_16 : decode b_Mo_piecesOf 16 = .ok (.iaload, 1) := by decide +kernel
theorem d_Mo_piecesOf_17 : decode b_Mo_piecesOf 17 = .ok (.iload_n 2, 1) := by decide +kernel
theorem d_Mo_piecesOf_18 : decode b_Mo_piecesOf 18 = .ok (.iadd, 1) := by decide +kernel
theorem d_Mo_piecesOf_19 : decode b_Mo_piecesOf 19 = .ok (.if_icmp .ge 25, 3) := by decide +kernel
theorem d_Mo_piecesOf_22 : decode b_Mo_piecesOf 22 = .ok (.iload_n 3, 1) := by decide +kernel
theorem d_Mo_piecesOf_23 : decode b_Mo_piecesOf 23 = .ok (.aload_n 0, 1) := by decide +kernel
theorem d_Mo_piecesOf_24 : decode b_Mo_piecesOf 24 = .ok (.iload_n 3, 1) := by decide +kernel
theorem d_Mo_piecesOf_25 : decode b_Mo_piecesOf 25 = .ok (.aload_n 0, 1) := by decide +kernel
theorem d_Mo_piecesOf_26 : decode b_Mo_piecesOf 26 = .ok (.getfield 24, 3) := by decide +kernel
theorem d_Mo_piecesOf_29 : decode b_Mo_piecesOf 29 = .ok (.iload_n 1, 1) := by decide +kernel
theorem d_Mo_piecesOf_30 : decode b_Mo_piecesOf 30 = .ok (.iaload, 1) := by decide +kernel
theorem d_Mo_piecesOf_31 : decode b_Mo_piecesOf 31 = .ok (.iload_n 2, 1) := by decide +kernel
theorem d_Mo_piecesOf_32 : decode b_Mo_piecesOf 32 = .ok (.iadd, 1) := by decide +kernel
theorem d_Mo_piecesOf_33 : decode b_Mo_piecesOf 33 = .ok (.invokevirtual 95, 3) := by decide +kernel
theorem d_Mo_piecesOf_36 : decode b_Mo_piecesOf 36 = .ok (.iadd, 1) := by decide +kernel
theorem d_Mo_piecesOf_37 : decode b_Mo_piecesOf 37 = .ok (.istore_n 3, 1) := by decide +kernel
theorem d_Mo_piecesOf_38 : decode b_Mo_piecesOf 38 = .ok (.iinc 4 1, 3) := by decide +kernel
theorem d_Mo_piecesOf_41 : decode b_Mo_piecesOf 41 = .ok (.goto (-31), 3) := by decide +kernel
theorem d_Mo_piecesOf_44 : decode b_Mo_piecesOf 44 = .ok (.iload 4, 2) := by decide +kernel
theorem d_Mo_piecesOf_46 : decode b_Mo_piecesOf 46 = .ok (.ireturn, 1) := by decide +kernel
abbrev b_Mo_first : ByteArray := prog_10_method_16_code
def y_Mo_first : MethodName := ⟨R_Mo, "first", "(IIII)V"⟩
theorem d_Mo_first_0 : decode b_Mo_first 0 = .ok (.aload_n 0, 1) := by decide +kernel
theorem d_Mo_first_1 : decode b_Mo_first 1 = .ok (.iload_n 1, 1) := by decide +kernel
theorem d_Mo_first_2 : decode b_Mo_first 2 = .ok (.iload_n 2, 1) := by decide +kernel
theorem d_Mo_first_3 : decode b_Mo_first 3 = .ok (.invokevirtual 99, 3) := by decide +kernel
theorem d_Mo_first_6 : decode b_Mo_first 6 = .ok (.ifCond .eq 25, 3) := by decide +kernel
theorem d_Mo_first_9 : decode b_Mo_first 9 = .ok (.iload_n 3, 1) := by decide +kernel
theorem d_Mo_first_10 : decode b_Mo_first 10 = .ok (.iconst (-1), 1) := by decide +kernel
theorem d_Mo_first_11 : decode b_Mo_first 11 = .ok (.sipush 254, 3) := by decide +kernel
theorem d_Mo_first_14 : decode b_Mo_first 14 = .ok (.invokestatic 87, 3) := by decide +kernel
theorem d_Mo_first_17 : decode b_Mo_first 17 = .ok (.ifCond .ne 14, 3) := by decide +kernel
theorem d_Mo_first_20 : decode b_Mo_first 20 = .ok (.iload 4, 2) := by decide +kernel
theorem d_Mo_first_22 : decode b_Mo_first 22 = .ok (.iconst 0, 1) := by decide +kernel
theorem d_Mo_first_23 : decode b_Mo_first 23 = .ok (.bipush 73, 2) := by decide +kernel
theorem d_Mo_first_25 : decode b_Mo_first 25 = .ok (.invokestatic 87, 3) := by decide +kernel
theorem d_Mo_first_28 : decode b_Mo_first 28 = .ok (.ifCond .eq 7, 3) := by decide +kernel
theorem d_Mo_first_31 : decode b_Mo_first 31 = .ok (.iconst 1, 1) := by decide +kernel
theorem d_Mo_first_32 : decode b_Mo_first 32 = .ok (.goto 4, 3) := by decide +kernel
theorem d_Mo_first_35 : decode b_Mo_first 35 = .ok (.iconst 0, 1) := by decide +kernel
theorem d_Mo_first_36 : decode b_Mo_first 36 = .ok (.istore 5, 2) := by decide +kernel
theorem d_Mo_first_38 : decode b_Mo_first 38 = .ok (.aload_n 0, 1) := by decide +kernel
theorem d_Mo_first_39 : decode b_Mo_first 39 = .ok (.iload 5, 2) := by decide +kernel
theorem d_Mo_first_41 : decode b_Mo_first 41 = .ok (.iload 5, 2) := by decide +kernel
theorem d_Mo_first_43 : decode b_Mo_first 43 = .ok (.ifCond .ne 16, 3) := by decide +kernel
theorem d_Mo_first_46 : decode b_Mo_first 46 = .ok (.aload_n 0, 1) := by decide +kernel
theorem d_Mo_first_47 : decode b_Mo_first 47 = .ok (.getfield 48, 3) := by decide +kernel
theorem d_Mo_first_50 : decode b_Mo_first 50 = .ok (.iconst 0, 1) := by decide +kernel
theorem d_Mo_first_51 : decode b_Mo_first 51 = .ok (.iaload, 1) := by decide +kernel
theorem d_Mo_first_52 : decode b_Mo_first 52 = .ok (.ifCond .le 7, 3) := by decide +kernel
theorem d_Mo_first_55 : decode b_Mo_first 55 = .ok (.iconst 1, 1) := by decide +kernel
theorem d_Mo_first_56 : decode b_Mo_first 56 = .ok (.goto 4, 3) := by decide +kernel
theorem d_Mo_first_59 : decode b_Mo_first 59 = .ok (.iconst 0, 1) := by decide +kernel
theorem d_Mo_first_60 : decode b_Mo_first 60 = .ok (.iconst 0, 1) := by decide +kernel
theorem d_Mo_first_61 : decode b_Mo_first 61 = .ok (.invokevirtual 73, 3) := by decide +kernel
theorem d_Mo_first_64 : decode b_Mo_first 64 = .ok (.ifCond .eq 4, 3) := by decide +kernel
theorem d_Mo_first_67 : decode b_Mo_first 67 = .ok (.return_, 1) := by decide +kernel
theorem d_Mo_first_68 : decode b_Mo_first 68 = .ok (.aload_n 0, 1) := by decide +kernel
theorem d_Mo_first_69 : decode b_Mo_first 69 = .ok (.getfield 33, 3) := by decide +kernel
theorem d_Mo_first_72 : decode b_Mo_first 72 = .ok (.aload_n 0, 1) := by decide +kernel
theorem d_Mo_first_73 : decode b_Mo_first 73 = .ok (.getfield 16, 3) := by decide +kernel
theorem d_Mo_first_76 : decode b_Mo_first 76 = .ok (.iload_n 1, 1) := by decide +kernel
theorem d_Mo_first_77 : decode b_Mo_first 77 = .ok (.iaload, 1) := by decide +kernel
theorem d_Mo_first_78 : decode b_Mo_first 78 = .ok (.iload_n 2, 1) := by decide +kernel
theorem d_Mo_first_79 : decode b_Mo_first 79 = .ok (.iadd, 1) := by decide +kernel
theorem d_Mo_first_80 : decode b_Mo_first 80 = .ok (.iload_n 3, 1) := by decide +kernel
theorem d_Mo_first_81 : decode b_Mo_first 81 = .ok (.iastore, 1) := by decide +kernel
theorem d_Mo_first_82 : decode b_Mo_first 82 = .ok (.aload_n 0, 1) := by decide +kernel
theorem d_Mo_first_83 : decode b_Mo_first 83 = .ok (.getfield 36, 3) := by decide +kernel
theorem d_Mo_first_86 : decode b_Mo_first 86 = .ok (.aload_n 0, 1) := by decide +kernel
theorem d_Mo_first_87 : decode b_Mo_first 87 = .ok (.getfield 16, 3) := by decide +kernel
theorem d_Mo_first_90 : decode b_Mo_first 90 = .ok (.iload_n 1, 1) := by decide +kernel
theorem d_Mo_first_91 : decode b_Mo_first 91 = .ok (.iaload, 1) := by decide +kernel
theorem d_Mo_first_92 : decode b_Mo_first 92 = .ok (.iload_n 2, 1) := by decide +kernel
theorem d_Mo_first_93 : decode b_Mo_first 93 = .ok (.iadd, 1) := by decide +kernel
theorem d_Mo_first_94 : decode b_Mo_first 94 = .ok (.iload 4, 2) := by decide +kernel
theorem d_Mo_first_96 : decode b_Mo_first 96 = .ok (.iastore, 1) := by decide +kernel
theorem d_Mo_first_97 : decode b_Mo_first 97 = .ok (.return_, 1) := by decide +kernel
abbrev b_Mo_bring : ByteArray := prog_10_method_17_code
def y_Mo_bring : MethodName := ⟨R_Mo, "bring", "(III)I"⟩
theorem d_Mo_bring_0 : decode b_Mo_bring 0 = .ok (.aload_n 0, 1) := by decide +kernel
theorem d_Mo_bring_1 : decode b_Mo_bring 1 = .ok (.iload_n 1, 1) := by decide +kernel
theorem d_Mo_bring_2 : decode b_Mo_bring 2 = .ok (.iload_n 2, 1) := by decide +kernel
theorem d_Mo_bring_3 : decode b_Mo_bring 3 = .ok (.invokevirtual 99, 3) := by decide +kernel
theorem d_Mo_bring_6 : decode b_Mo_bring 6 = .ok (.ifCond .eq 14, 3) := by decide +kernel
theorem d_Mo_bring_9 : decode b_Mo_bring 9 = .ok (.iload_n 3, 1) := by decide +kernel
theorem d_Mo_bring_10 : decode b_Mo_bring 10 = .ok (.iconst 0, 1) := by decide +kernel
theorem d_Mo_bring_11 : decode b_Mo_bring 11 = .ok (.sipush 164, 3) := by decide +kernel
theorem d_Mo_bring_14 : decode b_Mo_bring 14 = .ok (.invokestatic 87, 3) := by decide +kernel
theorem d_Mo_bring_17 : decode b_Mo_bring 17 = .ok (.ifCond .eq 7, 3) := by decide +kernel
theorem d_Mo_bring_20 : decode b_Mo_bring 20 = .ok (.iconst 1, 1) := by decide +kernel
theorem d_Mo_bring_21 : decode b_Mo_bring 21 = .ok (.goto 4, 3) := by decide +kernel
theorem d_Mo_bring_24 : decode b_Mo_bring 24 = .ok (.iconst 0, 1) := by decide +kernel
theorem d_Mo_bring_25 : decode b_Mo_bring 25 = .ok (.istore 4, 2) := by decide +kernel
theorem d_Mo_bring_27 : decode b_Mo_bring 27 = .ok (.iload 4, 2) := by decide +kernel
theorem d_Mo_bring_29 : decode b_Mo_bring 29 = .ok (.ifCond .eq 7, 3) := by decide +kernel
theorem d_Mo_bring_32 : decode b_Mo_bring 32 = .ok (.iconst 0, 1) := by decide +kernel
theorem d_Mo_bring_33 : decode b_Mo_bring 33 = .ok (.goto 11, 3) := by decide +kernel
theorem d_Mo_bring_36 : decode b_Mo_bring 36 = .ok (.aload_n 0, 1) := by decide +kernel
theorem d_Mo_bring_37 : decode b_Mo_bring 37 = .ok (.getfield 16, 3) := by decide +kernel
theorem d_Mo_bring_40 : decode b_Mo_bring 40 = .ok (.iload_n 1, 1) := by decide +kernel
theorem d_Mo_bring_41 : decode b_Mo_bring 41 = .ok (.iaload, 1) := by decide +kernel
theorem d_Mo_bring_42 : decode b_Mo_bring 42 = .ok (.iload_n 2, 1) := by decide +kernel
theorem d_Mo_bring_43 : decode b_Mo_bring 43 = .ok (.iadd, 1) := by decide +kernel
theorem d_Mo_bring_44 : decode b_Mo_bring 44 = .ok (.istore 5, 2) := by decide +kernel
theorem d_Mo_bring_46 : decode b_Mo_bring 46 = .ok (.iload 4, 2) := by decide +kernel
theorem d_Mo_bring_48 : decode b_Mo_bring 48 = .ok (.ifCond .ne 18, 3) := by decide +kernel
theorem d_Mo_bring_51 : decode b_Mo_bring 51 = .ok (.aload_n 0, 1) := by decide +kernel
theorem d_Mo_bring_52 : decode b_Mo_bring 52 = .ok (.getfield 24, 3) := by decide +kernel
theorem d_Mo_bring_55 : decode b_Mo_bring 55 = .ok (.iload 5, 2) := by decide +kernel
theorem d_Mo_bring_57 : decode b_Mo_bring 57 = .ok (.iaload, 1) := by decide +kernel
theorem d_Mo_bring_58 : decode b_Mo_bring 58 = .ok (.iload_n 3, 1) := by decide +kernel
theorem d_Mo_bring_59 : decode b_Mo_bring 59 = .ok (.iadd, 1) := by decide +kernel
theorem d_Mo_bring_60 : decode b_Mo_bring 60 = .ok (.sipush 200, 3) := by decide +kernel
theorem d_Mo_bring_63 : decode b_Mo_bring 63 = .ok (.if_icmp .le 7, 3) := by decide +kernel
theorem d_Mo_bring_66 : decode b_Mo_bring 66 = .ok (.iconst 1, 1) := by decide +kernel
theorem d_Mo_bring_67 : decode b_Mo_bring 67 = .ok (.goto 4, 3) := by decide +kernel
theorem d_Mo_bring_70 : decode b_Mo_bring 70 = .ok (.iconst 0, 1) := by decide +kernel
theorem d_Mo_bring_71 : decode b_Mo_bring 71 = .ok (.istore 4, 2) := by decide +kernel
theorem d_Mo_bring_73 : decode b_Mo_bring 73 = .ok (.iconst 0, 1) := by decide +kernel
theorem d_Mo_bring_74 : decode b_Mo_bring 74 = .ok (.istore 6, 2) := by decide +kernel
theorem d_Mo_bring_76 : decode b_Mo_bring 76 = .ok (.iconst 0, 1) := by decide +kernel
theorem d_Mo_bring_77 : decode b_Mo_bring 77 = .ok (.istore 7, 2) := by decide +kernel
theorem d_Mo_bring_79 : decode b_Mo_bring 79 = .ok (.iload 7, 2) := by decide +kernel
theorem d_Mo_bring_81 : decode b_Mo_bring 81 = .ok (.aload_n 0, 1) := by decide +kernel
theorem d_Mo_bring_82 : decode b_Mo_bring 82 = .ok (.getfield 16, 3) := by decide +kernel
theorem d_Mo_bring_85 : decode b_Mo_bring 85 = .ok (.aload_n 0, 1) := by decide +kernel
theorem d_Mo_bring_86 : decode b_Mo_bring 86 = .ok (.getfield 80, 3) := by decide +kernel
theorem d_Mo_bring_89 : decode b_Mo_bring 89 = .ok (.iaload, 1) := by decide +kernel
theorem d_Mo_bring_90 : decode b_Mo_bring 90 = .ok (.if_icmp .ge 43, 3) := by decide +kernel
theorem d_Mo_bring_93 : decode b_Mo_bring 93 = .ok (.iload 4, 2) := by decide +kernel
theorem d_Mo_bring_95 : decode b_Mo_bring 95 = .ok (.ifCond .ne 38, 3) := by decide +kernel
theorem d_Mo_bring_98 : decode b_Mo_bring 98 = .ok (.iload 6, 2) := by decide +kernel
theorem d_Mo_bring_100 : decode b_Mo_bring 100 = .ok (.aload_n 0, 1) := by decide +kernel
theorem d_Mo_bring_101 : decode b_Mo_bring 101 = .ok (.iload 7, 2) := by decide +kernel
theorem d_Mo_bring_103 : decode b_Mo_bring 103 = .ok (.iload 7, 2) := by decide +kernel
theorem d_Mo_bring_105 : decode b_Mo_bring 105 = .ok (.iload 5, 2) := by decide +kernel
theorem d_Mo_bring_107 : decode b_Mo_bring 107 = .ok (.if_icmp .ne 7, 3) := by decide +kernel
theorem d_Mo_bring_110 : decode b_Mo_bring 110 = .ok (.iload_n 3, 1) := by decide +kernel
theorem d_Mo_bring_111 : decode b_Mo_bring 111 = .ok (.goto 10, 3) := by decide +kernel
theorem d_Mo_bring_114 : decode b_Mo_bring 114 = .ok (.aload_n 0, 1) := by decide +kernel
theorem d_Mo_bring_115 : decode b_Mo_bring 115 = .ok (.getfield 30, 3) := by decide +kernel
theorem d_Mo_bring_118 : decode b_Mo_bring 118 = .ok (.iload 7, 2) := by decide +kernel
theorem d_Mo_bring_120 : decode b_Mo_bring 120 = .ok (.iaload, 1) := by decide +kernel
theorem d_Mo_bring_121 : decode b_Mo_bring 121 = .ok (.invokevirtual 103, 3) := by decide +kernel
theorem d_Mo_bring_124 : decode b_Mo_bring 124 = .ok (.iadd, 1) := by decide +kernel
theorem d_Mo_bring_125 : decode b_Mo_bring 125 = .ok (.istore 6, 2) := by decide +kernel
theorem d_Mo_bring_127 : decode b_Mo_bring 127 = .ok (.iinc 7 1, 3) := by decide +kernel
theorem d_Mo_bring_130 : decode b_Mo_bring 130 = .ok (.goto (-51), 3) := by decide +kernel
theorem d_Mo_bring_133 : decode b_Mo_bring 133 = .ok (.aload_n 0, 1) := by decide +kernel
theorem d_Mo_bring_134 : decode b_Mo_bring 134 = .ok (.iload 4, 2) := by decide +kernel
theorem d_Mo_bring_136 : decode b_Mo_bring 136 = .ok (.ifCond .ne 11, 3) := by decide +kernel
theorem d_Mo_bring_139 : decode b_Mo_bring 139 = .ok (.iload 6, 2) := by decide +kernel
theorem d_Mo_bring_141 : decode b_Mo_bring 141 = .ok (.sipush 4096, 3) := by decide +kernel
theorem d_Mo_bring_144 : decode b_Mo_bring 144 = .ok (.if_icmp .le 7, 3) := by decide +kernel
theorem d_Mo_bring_147 : decode b_Mo_bring 147 = .ok (.iconst 1, 1) := by decide +kernel
theorem d_Mo_bring_148 : decode b_Mo_bring 148 = .ok (.goto 4, 3) := by decide +kernel
theorem d_Mo_bring_151 : decode b_Mo_bring 151 = .ok (.iconst 0, 1) := by decide +kernel
theorem d_Mo_bring_152 : decode b_Mo_bring 152 = .ok (.iconst 0, 1) := by decide +kernel
theorem d_Mo_bring_153 : decode b_Mo_bring 153 = .ok (.iconst 0, 1) := by decide +kernel
theorem d_Mo_bring_154 : decode b_Mo_bring 154 = .ok (.invokevirtual 73, 3) := by decide +kernel
theorem d_Mo_bring_157 : decode b_Mo_bring 157 = .ok (.ifCond .eq 5, 3) := by decide +kernel
theorem d_Mo_bring_160 : decode b_Mo_bring 160 = .ok (.iconst 0, 1) := by decide +kernel
theorem d_Mo_bring_161 : decode b_Mo_bring 161 = .ok (.ireturn, 1) := by decide +kernel
theorem d_Mo_bring_162 : decode b_Mo_bring 162 = .ok (.aload_n 0, 1) := by decide +kernel
theorem d_Mo_bring_163 : decode b_Mo_bring 163 = .ok (.getfield 30, 3) := by decide +kernel
theorem d_Mo_bring_166 : decode b_Mo_bring 166 = .ok (.iload 5, 2) := by decide +kernel
theorem d_Mo_bring_168 : decode b_Mo_bring 168 = .ok (.iload_n 3, 1) := by decide +kernel
theorem d_Mo_bring_169 : decode b_Mo_bring 169 = .ok (.iastore, 1) := by decide +kernel
theorem d_Mo_bring_170 : decode b_Mo_bring 170 = .ok (.aload_n 0, 1) := by decide +kernel
theorem d_Mo_bring_171 : decode b_Mo_bring 171 = .ok (.iload 5, 2) := by decide +kernel
theorem d_Mo_bring_173 : decode b_Mo_bring 173 = .ok (.iload 5, 2) := by decide +kernel
theorem d_Mo_bring_175 : decode b_Mo_bring 175 = .ok (.iconst 1, 1) := by decide +kernel
theorem d_Mo_bring_176 : decode b_Mo_bring 176 = .ok (.iadd, 1) := by decide +kernel
theorem d_Mo_bring_177 : decode b_Mo_bring 177 = .ok (.invokevirtual 66, 3) := by decide +kernel
theorem d_Mo_bring_180 : decode b_Mo_bring 180 = .ok (.aload_n 0, 1) := by decide +kernel
theorem d_Mo_bring_181 : decode b_Mo_bring 181 = .ok (.iload 5, 2) := by decide +kernel
theorem d_Mo_bring_183 : decode b_Mo_bring 183 = .ok (.iload_n 3, 1) := by decide +kernel
theorem d_Mo_bring_184 : decode b_Mo_bring 184 = .ok (.invokevirtual 103, 3) := by decide +kernel
theorem d_Mo_bring_187 : decode b_Mo_bring 187 = .ok (.ireturn, 1) := by decide +kernel
abbrev b_Mo_piece : ByteArray := prog_10_method_18_code
def y_Mo_piece : MethodName := ⟨R_Mo, "piece", "(III)I"⟩
theorem d_Mo_piece_0 : decode b_Mo_piece 0 = .ok (.aload_n 0, 1) := by decide +kernel
theorem d_Mo_piece_1 : decode b_Mo_piece 1 = .ok (.iload_n 1, 1) := by decide +kernel
theorem d_Mo_piece_2 : decode b_Mo_piece 2 = .ok (.iload_n 2, 1) := by decide +kernel
theorem d_Mo_piece_3 : decode b_Mo_piece 3 = .ok (.invokevirtual 99, 3) := by decide +kernel
theorem d_Mo_piece_6 : decode b_Mo_piece 6 = .ok (.ifCond .eq 13, 3) := by decide +kernel
theorem d_Mo_piece_9 : decode b_Mo_piece 9 = .ok (.iload_n 3, 1) := by decide +kernel
theorem d_Mo_piece_10 : decode b_Mo_piece 10 = .ok (.iconst 0, 1) := by decide +kernel
theorem d_Mo_piece_11 : decode b_Mo_piece 11 = .ok (.ldc 106, 2) := by decide +kernel
theorem d_Mo_piece_13 : decode b_Mo_piece 13 = .ok (.invokestatic 87, 3) := by decide +kernel
theorem d_Mo_piece_16 : decode b_Mo_piece 16 = .ok (.ifCond .eq 7, 3) := by decide +kernel
theorem d_Mo_piece_19 : decode b_Mo_piece 19 = .ok (.iconst 1, 1) := by decide +kernel
theorem d_Mo_piece_20 : decode b_Mo_piece 20 = .ok (.goto 4, 3) := by decide +kernel
theorem d_Mo_piece_23 : decode b_Mo_piece 23 = .ok (.iconst 0, 1) := by decide +kernel
theorem d_Mo_piece_24 : decode b_Mo_piece 24 = .ok (.istore 4, 2) := by decide +kernel
theorem d_Mo_piece_26 : decode b_Mo_piece 26 = .ok (.iload 4, 2) := by decide +kernel
theorem d_Mo_piece_28 : decode b_Mo_piece 28 = .ok (.ifCond .eq 7, 3) := by decide +kernel
theorem d_Mo_piece_31 : decode b_Mo_piece 31 = .ok (.iconst 0, 1) := by decide +kernel
theorem d_Mo_piece_32 : decode b_Mo_piece 32 = .ok (.goto 11, 3) := by decide +kernel
theorem d_Mo_piece_35 : decode b_Mo_piece 35 = .ok (.aload_n 0, 1) := by decide +kernel
theorem d_Mo_piece_36 : decode b_Mo_piece 36 = .ok (.getfield 16, 3) := by decide +kernel
theorem d_Mo_piece_39 : decode b_Mo_piece 39 = .ok (.iload_n 1, 1) := by decide +kernel
theorem d_Mo_piece_40 : decode b_Mo_piece 40 = .ok (.iaload, 1) := by decide +kernel
theorem d_Mo_piece_41 : decode b_Mo_piece 41 = .ok (.iload_n 2, 1) := by decide +kernel
theorem d_Mo_piece_42 : decode b_Mo_piece 42 = .ok (.iadd, 1) := by decide +kernel
theorem d_Mo_piece_43 : decode b_Mo_piece 43 = .ok (.istore 5, 2) := by decide +kernel
theorem d_Mo_piece_45 : decode b_Mo_piece 45 = .ok (.aload_n 0, 1) := by decide +kernel
theorem d_Mo_piece_46 : decode b_Mo_piece 46 = .ok (.iload 4, 2) := by decide +kernel
theorem d_Mo_piece_48 : decode b_Mo_piece 48 = .ok (.iload 4, 2) := by decide +kernel
theorem d_Mo_piece_50 : decode b_Mo_piece 50 = .ok (.ifCond .ne 30, 3) := by decide +kernel
theorem d_Mo_piece_53 : decode b_Mo_piece 53 = .ok (.aload_n 0, 1) := by decide +kernel
theorem d_Mo_piece_54 : decode b_Mo_piece 54 = .ok (.getfield 39, 3) := by decide +kernel
theorem d_Mo_piece_57 : decode b_Mo_piece 57 = .ok (.iload 5, 2) := by decide +kernel
theorem d_Mo_piece_59 : decode b_Mo_piece 59 = .ok (.iaload, 1) := by decide +kernel
theorem d_Mo_piece_60 : decode b_Mo_piece 60 = .ok (.aload_n 0, 1) := by decide +kernel
theorem d_Mo_piece_61 : decode b_Mo_piece 61 = .ok (.iload 5, 2) := by decide +kernel
theorem d_Mo_piece_63 : decode b_Mo_piece 63 = .ok (.aload_n 0, 1) := by decide +kernel
theorem d_Mo_piece_64 : decode b_Mo_piece 64 = .ok (.getfield 30, 3) := by decide +kernel
theorem d_Mo_piece_67 : decode b_Mo_piece 67 = .ok (.iload 5, 2) := by decide +kernel
theorem d_Mo_piece_69 : decode b_Mo_piece 69 = .ok (.iaload, 1) := by decide +kernel
theorem d_Mo_piece_70 : decode b_Mo_piece 70 = .ok (.invokevirtual 103, 3) := by decide +kernel
theorem d_Mo_piece_73 : decode b_Mo_piece 73 = .ok (.if_icmp .ne 7, 3) := by decide +kernel
theorem d_Mo_piece_76 : decode b_Mo_piece 76 = .ok (.iconst 1, 1) := by decide +kernel
theorem d_Mo_piece_77 : decode b_Mo_piece 77 = .ok (.goto 4, 3) := by decide +kernel
theorem d_Mo_piece_80 : decode b_Mo_piece 80 = .ok (.iconst 0, 1) := by decide +kernel
theorem d_Mo_piece_81 : decode b_Mo_piece 81 = .ok (.iconst 0, 1) := by decide +kernel
theorem d_Mo_piece_82 : decode b_Mo_piece 82 = .ok (.invokevirtual 73, 3) := by decide +kernel
theorem d_Mo_piece_85 : decode b_Mo_piece 85 = .ok (.ifCond .eq 5, 3) := by decide +kernel
theorem d_Mo_piece_88 : decode b_Mo_piece 88 = .ok (.iconst 0, 1) := by decide +kernel
theorem d_Mo_piece_89 : decode b_Mo_piece 89 = .ok (.ireturn, 1) := by decide +kernel
theorem d_Mo_piece_90 : decode b_Mo_piece 90 = .ok (.aload_n 0, 1) := by decide +kernel
theorem d_Mo_piece_91 : decode b_Mo_piece 91 = .ok (.iload 5, 2) := by decide +kernel
theorem d_Mo_piece_93 : decode b_Mo_piece 93 = .ok (.iload_n 3, 1) := by decide +kernel
theorem d_Mo_piece_94 : decode b_Mo_piece 94 = .ok (.invokevirtual 107, 3) := by decide +kernel
theorem d_Mo_piece_97 : decode b_Mo_piece 97 = .ok (.aload_n 0, 1) := by decide +kernel
theorem d_Mo_piece_98 : decode b_Mo_piece 98 = .ok (.getfield 39, 3) := by decide +kernel
theorem d_Mo_piece_101 : decode b_Mo_piece 101 = .ok (.iload 5, 2) := by decide +kernel
theorem d_Mo_piece_103 : decode b_Mo_piece 103 = .ok (.iaload, 1) := by decide +kernel
theorem d_Mo_piece_104 : decode b_Mo_piece 104 = .ok (.ireturn, 1) := by decide +kernel
theorem q_208 : (Cond.fieldLink R_Mo 62 "PacketHeadsModel" "thrown" "I") ∈ TB := in_TB (List.mem_append_right _ (List.mem_of_getElem? (i := 677) (by decide +kernel))) (by decide +kernel)
theorem q_209 : (Cond.fieldLink R_Mo 70 "PacketHeadsModel" "pieces" "I") ∈ TB := in_TB (List.mem_append_right _ (List.mem_of_getElem? (i := 691) (by decide +kernel))) (by decide +kernel)
theorem q_210 : (Cond.fieldLink R_Mo 42 "PacketHeadsModel" "owner" "[I") ∈ TB := in_TB (List.mem_append_right _ (List.mem_of_getElem? (i := 692) (by decide +kernel))) (by decide +kernel)
theorem q_211 : (Cond.fieldLink R_Mo 45 "PacketHeadsModel" "length" "[I") ∈ TB := in_TB (List.mem_append_right _ (List.mem_of_getElem? (i := 693) (by decide +kernel))) (by decide +kernel)
theorem q_212 : (Cond.fieldLink R_Mo 39 "PacketHeadsModel" "told" "[I") ∈ TB := in_TB (List.mem_append_right _ (List.mem_of_getElem? (i := 690) (by decide +kernel))) (by decide +kernel)
theorem q_213 : (Cond.code y_Mo_forget b_Mo_forget 6 none) ∈ TB := in_TB (List.mem_append_right _ (List.mem_of_getElem? (i := 676) (by decide +kernel))) (by decide +kernel)
theorem q_214 : (Cond.initialized R_Mo) ∈ TB := in_TB (List.mem_append_right _ (List.mem_of_getElem? (i := 9) (by decide +kernel))) (by decide +kernel)
theorem q_215 : (Cond.methodLink R_Mo 66 y_Mo_forget) ∈ TB := in_TB (List.mem_append_right _ (List.mem_of_getElem? (i := 673) (by decide +kernel))) (by decide +kernel)
theorem q_216 : (Cond.instanceMethod y_Mo_forget) ∈ TB := in_TB (List.mem_append_right _ (List.mem_of_getElem? (i := 675) (by decide +kernel))) (by decide +kernel)
theorem q_217 : (Cond.selects R_Mo y_Mo_forget y_Mo_forget) ∈ TB := in_TB (List.mem_append_left _ (List.mem_of_getElem? (i := 13) (by decide +kernel))) (by decide +kernel)
theorem q_218 : (Cond.fieldLink R_Mo 24 "PacketHeadsModel" "came" "[I") ∈ TB := in_TB (List.mem_append_right _ (List.mem_of_getElem? (i := 685) (by decide +kernel))) (by decide +kernel)
theorem q_219 : (Cond.fieldLink R_Mo 27 "PacketHeadsModel" "width" "[I") ∈ TB := in_TB (List.mem_append_right _ (List.mem_of_getElem? (i := 686) (by decide +kernel))) (by decide +kernel)
theorem q_220 : (Cond.fieldLink R_Mo 30 "PacketHeadsModel" "brings" "[I") ∈ TB := in_TB (List.mem_append_right _ (List.mem_of_getElem? (i := 687) (by decide +kernel))) (by decide +kernel)
theorem q_221 : (Cond.fieldLink R_Mo 33 "PacketHeadsModel" "first" "[I") ∈ TB := in_TB (List.mem_append_right _ (List.mem_of_getElem? (i := 688) (by decide +kernel))) (by decide +kernel)
theorem q_222 : (Cond.fieldLink R_Mo 36 "PacketHeadsModel" "missing" "[I") ∈ TB := in_TB (List.mem_append_right _ (List.mem_of_getElem? (i := 689) (by decide +kernel))) (by decide +kernel)
theorem q_223 : (Cond.methodLink R_Mo 1 objectInit) ∈ TB := in_TB (List.mem_append_right _ (List.mem_of_getElem? (i := 667) (by decide +kernel))) (by decide +kernel)
theorem q_224 : (Cond.fieldLink R_Mo 7 "PacketHeadsModel" "wide" "[I") ∈ TB := in_TB (List.mem_append_right _ (List.mem_of_getElem? (i := 680) (by decide +kernel))) (by decide +kernel)
theorem q_225 : (Cond.fieldLink R_Mo 13 "PacketHeadsModel" "high" "[I") ∈ TB := in_TB (List.mem_append_right _ (List.mem_of_getElem? (i := 681) (by decide +kernel))) (by decide +kernel)
theorem q_226 : (Cond.fieldLink R_Mo 16 "PacketHeadsModel" "begins" "[I") ∈ TB := in_TB (List.mem_append_right _ (List.mem_of_getElem? (i := 682) (by decide +kernel))) (by decide +kernel)
theorem q_227 : (Cond.constant R_Mo 19 262144) ∈ TB := in_TB (List.mem_append_right _ (List.mem_of_getElem? (i := 668) (by decide +kernel))) (by decide +kernel)
theorem q_228 : (Cond.fieldLink R_Mo 20 "PacketHeadsModel" "bytes" "[B") ∈ TB := in_TB (List.mem_append_right _ (List.mem_of_getElem? (i := 684) (by decide +kernel))) (by decide +kernel)
theorem q_229 : (Cond.fieldLink R_Mo 48 "PacketHeadsModel" "layers" "[I") ∈ TB := in_TB (List.mem_append_right _ (List.mem_of_getElem? (i := 694) (by decide +kernel))) (by decide +kernel)
theorem q_230 : (Cond.fieldLink R_Mo 51 "PacketHeadsModel" "low" "[I") ∈ TB := in_TB (List.mem_append_right _ (List.mem_of_getElem? (i := 696) (by decide +kernel))) (by decide +kernel)
theorem q_231 : (Cond.arrayClass .boolean) ∈ TB := in_TB (List.mem_append_right _ (List.mem_of_getElem? (i := 759) (by decide +kernel))) (by decide +kernel)
theorem q_232 : (Cond.fieldLink R_Mo 54 "PacketHeadsModel" "known" "[Z") ∈ TB := in_TB (List.mem_append_right _ (List.mem_of_getElem? (i := 697) (by decide +kernel))) (by decide +kernel)
theorem q_233 : (Cond.code y_Mo_fresh b_Mo_fresh 3 none) ∈ TB := in_TB (List.mem_append_right _ (List.mem_of_getElem? (i := 672) (by decide +kernel))) (by decide +kernel)
theorem q_234 : (Cond.methodLink R_Mo 58 y_Mo_fresh) ∈ TB := in_TB (List.mem_append_right _ (List.mem_of_getElem? (i := 669) (by decide +kernel))) (by decide +kernel)
theorem q_235 : (Cond.instanceMethod y_Mo_fresh) ∈ TB := in_TB (List.mem_append_right _ (List.mem_of_getElem? (i := 671) (by decide +kernel))) (by decide +kernel)
theorem q_236 : (Cond.selects R_Mo y_Mo_fresh y_Mo_fresh) ∈ TB := in_TB (List.mem_append_left _ (List.mem_of_getElem? (i := 12) (by decide +kernel))) (by decide +kernel)
theorem q_237 : (Cond.code y_Mo_throwing b_Mo_throwing 4 (some .boolean)) ∈ TB := in_TB (List.mem_append_right _ (List.mem_of_getElem? (i := 771) (by decide +kernel))) (by decide +kernel)
theorem q_238 : (Cond.methodLink R_Mo 73 y_Mo_throwing) ∈ TB := in_TB (List.mem_append_right _ (List.mem_of_getElem? (i := 768) (by decide +kernel))) (by decide +kernel)
theorem q_239 : (Cond.instanceMethod y_Mo_throwing) ∈ TB := in_TB (List.mem_append_right _ (List.mem_of_getElem? (i := 770) (by decide +kernel))) (by decide +kernel)
theorem q_240 : (Cond.selects R_Mo y_Mo_throwing y_Mo_throwing) ∈ TB := in_TB (List.mem_append_left _ (List.mem_of_getElem? (i := 14) (by decide +kernel))) (by decide +kernel)
theorem q_241 : (Cond.fieldLink R_Mo 77 "PacketHeadsModel" "style" "I") ∈ TB := in_TB (List.mem_append_right _ (List.mem_of_getElem? (i := 678) (by decide +kernel))) (by decide +kernel)
theorem q_242 : (Cond.fieldLink R_Mo 80 "PacketHeadsModel" "bands" "I") ∈ TB := in_TB (List.mem_append_right _ (List.mem_of_getElem? (i := 679) (by decide +kernel))) (by decide +kernel)
theorem q_243 : (Cond.fieldLink R_Mo 83 "PacketHeadsModel" "over" "Z") ∈ TB := in_TB (List.mem_append_right _ (List.mem_of_getElem? (i := 695) (by decide +kernel))) (by decide +kernel)
theorem q_244 : (Cond.code y_Mo_out b_Mo_out 3 (some .boolean)) ∈ TB := in_TB (List.mem_append_right _ (List.mem_of_getElem? (i := 778) (by decide +kernel))) (by decide +kernel)
theorem q_245 : (Cond.methodLink R_Mo 87 y_Mo_out) ∈ TB := in_TB (List.mem_append_right _ (List.mem_of_getElem? (i := 776) (by decide +kernel))) (by decide +kernel)
theorem q_246 : (Cond.static y_Mo_out) ∈ TB := in_TB (List.mem_append_right _ (List.mem_of_getElem? (i := 777) (by decide +kernel))) (by decide +kernel)
theorem q_247 : (Cond.code y_Mo_endsBehind b_Mo_endsBehind 2 (some .boolean)) ∈ TB := in_TB (List.mem_append_right _ (List.mem_of_getElem? (i := 802) (by decide +kernel))) (by decide +kernel)
theorem q_248 : (Cond.methodLink R_Mo 91 y_Mo_endsBehind) ∈ TB := in_TB (List.mem_append_right _ (List.mem_of_getElem? (i := 799) (by decide +kernel))) (by decide +kernel)
theorem q_249 : (Cond.instanceMethod y_Mo_endsBehind) ∈ TB := in_TB (List.mem_append_right _ (List.mem_of_getElem? (i := 801) (by decide +kernel))) (by decide +kernel)
theorem q_250 : (Cond.selects R_Mo y_Mo_endsBehind y_Mo_endsBehind) ∈ TB := in_TB (List.mem_append_left _ (List.mem_of_getElem? (i := 18) (by decide +kernel))) (by decide +kernel)
theorem q_251 : (Cond.code y_Mo_firstPiece b_Mo_firstPiece 4 (some .int)) ∈ TB := in_TB (List.mem_append_right _ (List.mem_of_getElem? (i := 798) (by decide +kernel))) (by decide +kernel)
theorem q_252 : (Cond.methodLink R_Mo 95 y_Mo_firstPiece) ∈ TB := in_TB (List.mem_append_right _ (List.mem_of_getElem? (i := 795) (by decide +kernel))) (by decide +kernel)
theorem q_253 : (Cond.instanceMethod y_Mo_firstPiece) ∈ TB := in_TB (List.mem_append_right _ (List.mem_of_getElem? (i := 797) (by decide +kernel))) (by decide +kernel)
theorem q_254 : (Cond.selects R_Mo y_Mo_firstPiece y_Mo_firstPiece) ∈ TB := in_TB (List.mem_append_left _ (List.mem_of_getElem? (i := 17) (by decide +kernel))) (by decide +kernel)
theorem q_255 : (Cond.code y_Mo_isBlock b_Mo_isBlock 3 (some .boolean)) ∈ TB := in_TB (List.mem_append_right _ (List.mem_of_getElem? (i := 786) (by decide +kernel))) (by decide +kernel)
theorem q_256 : (Cond.methodLink R_Mo 99 y_Mo_isBlock) ∈ TB := in_TB (List.mem_append_right _ (List.mem_of_getElem? (i := 783) (by decide +kernel))) (by decide +kernel)
theorem q_257 : (Cond.instanceMethod y_Mo_isBlock) ∈ TB := in_TB (List.mem_append_right _ (List.mem_of_getElem? (i := 785) (by decide +kernel))) (by decide +kernel)
theorem q_258 : (Cond.selects R_Mo y_Mo_isBlock y_Mo_isBlock) ∈ TB := in_TB (List.mem_append_left _ (List.mem_of_getElem? (i := 15) (by decide +kernel))) (by decide +kernel)
theorem q_259 : (Cond.code y_Mo_piecesOf b_Mo_piecesOf 5 (some .int)) ∈ TB := in_TB (List.mem_append_right _ (List.mem_of_getElem? (i := 794) (by decide +kernel))) (by decide +kernel)
theorem q_260 : (Cond.methodLink R_Mo 103 y_Mo_piecesOf) ∈ TB := in_TB (List.mem_append_right _ (List.mem_of_getElem? (i := 791) (by decide +kernel))) (by decide +kernel)
theorem q_261 : (Cond.instanceMethod y_Mo_piecesOf) ∈ TB := in_TB (List.mem_append_right _ (List.mem_of_getElem? (i := 793) (by decide +kernel))) (by decide +kernel)
theorem q_262 : (Cond.selects R_Mo y_Mo_piecesOf y_Mo_piecesOf) ∈ TB := in_TB (List.mem_append_left _ (List.mem_of_getElem? (i := 16) (by decide +kernel))) (by decide +kernel)
theorem q_263 : (Cond.constant R_Mo 106 65535) ∈ TB := in_TB (List.mem_append_right _ (List.mem_of_getElem? (i := 807) (by decide +kernel))) (by decide +kernel)
theorem q_264 : (Cond.code y_Mo_add b_Mo_add 3 none) ∈ TB := in_TB (List.mem_append_right _ (List.mem_of_getElem? (i := 811) (by decide +kernel))) (by decide +kernel)
theorem q_265 : (Cond.methodLink R_Mo 107 y_Mo_add) ∈ TB := in_TB (List.mem_append_right _ (List.mem_of_getElem? (i := 808) (by decide +kernel))) (by decide +kernel)
theorem q_266 : (Cond.instanceMethod y_Mo_add) ∈ TB := in_TB (List.mem_append_right _ (List.mem_of_getElem? (i := 810) (by decide +kernel))) (by decide +kernel)
theorem q_267 : (Cond.selects R_Mo y_Mo_add y_Mo_add) ∈ TB := in_TB (List.mem_append_left _ (List.mem_of_getElem? (i := 19) (by decide +kernel))) (by decide +kernel)
theorem hd_Mo_forget : y_Mo_forget.cls ≠ "java/lang/invoke/MethodHandle" ∧ y_Mo_forget.cls ≠ "java/lang/invoke/VarHandle" ∧ (parseMethodDescriptor y_Mo_forget.desc).map (fun d => d.parameters.length) = some 2 := by decide +kernel
theorem hd_Mo_fresh : y_Mo_fresh.cls ≠ "java/lang/invoke/MethodHandle" ∧ y_Mo_fresh.cls ≠ "java/lang/invoke/VarHandle" ∧ (parseMethodDescriptor y_Mo_fresh.desc).map (fun d => d.parameters.length) = some 1 := by decide +kernel
theorem hd_Mo_throwing : y_Mo_throwing.cls ≠ "java/lang/invoke/MethodHandle" ∧ y_Mo_throwing.cls ≠ "java/lang/invoke/VarHandle" ∧ (parseMethodDescriptor y_Mo_throwing.desc).map (fun d => d.parameters.length) = some 3 := by decide +kernel
theorem hd_Mo_out : y_Mo_out.cls ≠ "java/lang/invoke/MethodHandle" ∧ y_Mo_out.cls ≠ "java/lang/invoke/VarHandle" ∧ (parseMethodDescriptor y_Mo_out.desc).map (fun d => d.parameters.length) = some 3 := by decide +kernel
theorem hd_Mo_endsBehind : y_Mo_endsBehind.cls ≠ "java/lang/invoke/MethodHandle" ∧ y_Mo_endsBehind.cls ≠ "java/lang/invoke/VarHandle" ∧ (parseMethodDescriptor y_Mo_endsBehind.desc).map (fun d => d.parameters.length) = some 1 := by decide +kernel
theorem hd_Mo_firstPiece : y_Mo_firstPiece.cls ≠ "java/lang/invoke/MethodHandle" ∧ y_Mo_firstPiece.cls ≠ "java/lang/invoke/VarHandle" ∧ (parseMethodDescriptor y_Mo_firstPiece.desc).map (fun d => d.parameters.length) = some 2 := by decide +kernel
theorem hd_Mo_isBlock : y_Mo_isBlock.cls ≠ "java/lang/invoke/MethodHandle" ∧ y_Mo_isBlock.cls ≠ "java/lang/invoke/VarHandle" ∧ (parseMethodDescriptor y_Mo_isBlock.desc).map (fun d => d.parameters.length) = some 2 := by decide +kernel
theorem hd_Mo_piecesOf : y_Mo_piecesOf.cls ≠ "java/lang/invoke/MethodHandle" ∧ y_Mo_piecesOf.cls ≠ "java/lang/invoke/VarHandle" ∧ (parseMethodDescriptor y_Mo_piecesOf.desc).map (fun d => d.parameters.length) = some 2 := by decide +kernel
theorem hd_Mo_add : y_Mo_add.cls ≠ "java/lang/invoke/MethodHandle" ∧ y_Mo_add.cls ≠ "java/lang/invoke/VarHandle" ∧ (parseMethodDescriptor y_Mo_add.desc).map (fun d => d.parameters.length) = some 2 := by decide +kernel
noncomputable def g_Mo_out_15 (F : Nat) (s0 : Int32) : Option (Int32) :=
asm (narrow .boolean (.int s0) = .int s0) (some s0)
noncomputable def g_Mo_out_10 (F : Nat)  : Option (Int32) :=
g_Mo_out_15 F 1
noncomputable def f_Mo_out (F : Nat) (p0 : Int32) (p1 : Int32) (p2 : Int32) : Option (Int32) :=
if p0 < p1 then (
g_Mo_out_10 F) else (
if p0 ≤ p2 then (
g_Mo_out_15 F 0) else (
g_Mo_out_10 F))
set_option maxHeartbeats 4000000 in
set_option maxRecDepth 100000 in
theorem c_Mo_out (l : Launch) (dC : Nat → ClassId) (dI : Nat → Nat → Nat) (tI tB tL tZ : ClassId) (sz : Nat) (p0 : Int32) (p1 : Int32) (p2 : Int32) (F : Nat) (u : Int32) (hf : f_Mo_out F p0 p1 p2 = some u) : CTi l y_Mo_out b_Mo_out 3 .boolean 0 0 (dC, dI) classes [(tI, .int), (tB, .byte), (tL, .long), (tZ, .boolean)] [.int p0, .int p1, .int p2] [] sz (fun q : Unit => []) (u) 0 0 := by
  refine mk_i (by decide) (Nat.le_of_ble_eq_true rfl) ?_
  intro p e s m args below meth c ls A Q hx hb hml hts hown hin hK hN hP hD hA hl ret
  obtain ⟨H, hH⟩ : ∃ H : Heap, H = s.heap := ⟨_, rfl⟩
  have hS : va_S A s.heap H [] := by rw [hH]; exact va_S.rf
  rw [← hH] at hP ⊢
  have hl : lv_has ls 3 [(0, .int p0), (1, .int p1), (2, .int p2)] := hl
  have k_15 : ∀ (s0 : Int32) (H : Heap) (locs : List Loc) (cells slots : Nat) (ls : Array Slot), va_P (dC, dI) classes [] H → va_D A [] → va_S A s.heap H locs → lv_has ls 3 [] → (cells ≤ 0 ∧ slots ≤ 0) → g_Mo_out_15 F s0 = some u → W p l e ({ frames := 0, cells := 0, slots := 0, locals := 0 } : Room) s m args below meth c H locs cells slots Q (F0 m 15 ls [.int s0]) := by
    intro s0 H locs cells slots ls hP hD hS hl hc hf
    unfold g_Mo_out_15 at hf
    obtain ⟨hn9, hf⟩ := asm_of hf
    have hf := Option.some.inj hf
    subst u
    exact ret _ _ _ _ _ _ () d_Mo_out_15 hn9 hP hD hS hc.1 hc.2
  have k_10 : ∀  (H : Heap) (locs : List Loc) (cells slots : Nat) (ls : Array Slot), va_P (dC, dI) classes [] H → va_D A [] → va_S A s.heap H locs → lv_has ls 3 [] → (cells ≤ 0 ∧ slots ≤ 0) → g_Mo_out_10 F = some u → W p l e ({ frames := 0, cells := 0, slots := 0, locals := 0 } : Room) s m args below meth c H locs cells slots Q (F0 m 10 ls []) := by
    intro H locs cells slots ls hP hD hS hl hc hf
    unfold g_Mo_out_10 at hf
    refine lv_iconst (v := 1) hx hb d_Mo_out_10 (by decide) ?_
    refine lv_goto (tgt := 15) hx hb d_Mo_out_11 (by decide) ?_
    exact k_15 1 _ _ _ _ ls hP hD hS hl hc hf
  have hc : 0 ≤ 0 ∧ 0 ≤ 0 := ⟨Nat.le_refl 0, Nat.le_refl 0⟩
  unfold f_Mo_out at hf
  refine lv_iload_n hx hb d_Mo_out_0 rfl (lv_at hl 0 rfl) ?_
  refine lv_iload_n hx hb d_Mo_out_1 rfl (lv_at hl 1 rfl) ?_
  refine lv_icmp_lt (tgt := 10) hx hb d_Mo_out_2 (by decide) (fun c0 => ?_) (fun c0 => ?_)
  · have hf := ite_t c0 hf
    exact k_10 _ _ _ _ ls hP hD hS (lv_sub hl [] rfl) hc hf
  · have hf := ite_f c0 hf
    refine lv_iload_n hx hb d_Mo_out_5 rfl (lv_at hl 0 rfl) ?_
    refine lv_iload_n hx hb d_Mo_out_6 rfl (lv_at hl 2 rfl) ?_
    refine lv_icmp_le (tgt := 14) hx hb d_Mo_out_7 (by decide) (fun c0 => ?_) (fun c0 => ?_)
    · have hf := ite_t c0 hf
      refine lv_iconst (v := 0) hx hb d_Mo_out_14 (by decide) ?_
      exact k_15 0 _ _ _ _ ls hP hD hS (lv_sub hl [] rfl) hc hf
    · have hf := ite_f c0 hf
      exact k_10 _ _ _ _ ls hP hD hS (lv_sub hl [] rfl) hc hf
noncomputable def g_Mo_logarithm_2 (F : Nat) (rec2 : Int32 → Int32 → Option (Int32)) (v0 : Int32) (v1 : Int32) : Option (Int32) :=
letb (v0 >>> (v1 &&& 31)) fun x3 =>
if x3 ≤ 1 then (
some v1) else (
letb (v1 + 1) fun x4 =>
rec2 v0 x4)
noncomputable def f_Mo_logarithm_2 (F : Nat) : Nat → Int32 → Int32 → Option (Int32)
  | 0 => fun _ _ => none
  | n + 1 => fun v0 v1 => g_Mo_logarithm_2 F (f_Mo_logarithm_2 F n) v0 v1
noncomputable def f_Mo_logarithm (F : Nat) (p0 : Int32) : Option (Int32) :=
f_Mo_logarithm_2 F F p0 0
set_option maxHeartbeats 4000000 in
set_option maxRecDepth 100000 in
theorem c_Mo_logarithm (l : Launch) (dC : Nat → ClassId) (dI : Nat → Nat → Nat) (tI tB tL tZ : ClassId) (sz : Nat) (p0 : Int32) (F : Nat) (u : Int32) (hf : f_Mo_logarithm F p0 = some u) : CTi l y_Mo_logarithm b_Mo_logarithm 2 .int 0 0 (dC, dI) classes [(tI, .int), (tB, .byte), (tL, .long), (tZ, .boolean)] [.int p0] [] sz (fun q : Unit => []) (u) 0 0 := by
  refine mk_i (by decide) (Nat.le_of_ble_eq_true rfl) ?_
  intro p e s m args below meth c ls A Q hx hb hml hts hown hin hK hN hP hD hA hl ret
  obtain ⟨H, hH⟩ : ∃ H : Heap, H = s.heap := ⟨_, rfl⟩
  have hS : va_S A s.heap H [] := by rw [hH]; exact va_S.rf
  rw [← hH] at hP ⊢
  have hl : lv_has ls 2 [(0, .int p0)] := hl
  have k_2 : ∀ n : Nat, ∀ (v0 : Int32) (v1 : Int32) (H : Heap) (locs : List Loc) (cells slots : Nat) (ls : Array Slot), va_P (dC, dI) classes [] H → va_D A [] → va_S A s.heap H locs → lv_has ls 2 [(0, .int v0), (1, .int v1)] → (cells ≤ 0 ∧ slots ≤ 0) → f_Mo_logarithm_2 F n v0 v1 = some u → W p l e ({ frames := 0, cells := 0, slots := 0, locals := 0 } : Room) s m args below meth c H locs cells slots Q (F0 m 2 ls []) := by
    intro n
    induction n with
    | zero => intro v0 v1 H locs cells slots ls hP hD hS hl hc hf; exact absurd hf (by intro h9; cases h9)
    | succ n h2 =>
      intro v0 v1 H locs cells slots ls hP hD hS hl hc hf
      have hf : g_Mo_logarithm_2 F (f_Mo_logarithm_2 F n) v0 v1 = some u := hf
      generalize (f_Mo_logarithm_2 F n) = rec2 at hf h2
      unfold g_Mo_logarithm_2 at hf
      refine lv_iload_n hx hb d_Mo_logarithm_2 rfl (lv_at hl 0 rfl) ?_
      refine lv_iload_n hx hb d_Mo_logarithm_3 rfl (lv_at hl 1 rfl) ?_
      refine lv_ishr hx hb d_Mo_logarithm_4 ?_
      refine lv_topi (fun x3 ex3 => ?_)
      have hf := letb_of hf ex3
      refine lv_iconst (v := 1) hx hb d_Mo_logarithm_5 (by decide) ?_
      refine lv_icmp_le (tgt := 15) hx hb d_Mo_logarithm_6 (by decide) (fun c0 => ?_) (fun c0 => ?_)
      · have hf := ite_t c0 hf
        refine lv_iload_n hx hb d_Mo_logarithm_15 rfl (lv_at hl 1 rfl) ?_
        have hf := Option.some.inj hf
        subst u
        exact ret _ _ _ _ _ _ () d_Mo_logarithm_16 rfl hP hD hS hc.1 hc.2
      · have hf := ite_f c0 hf
        obtain ⟨x4, ex4⟩ : ∃ y : Int32, y = v1 + 1 := ⟨_, rfl⟩
        have hf := letb_of hf ex4
        refine lv_iinc (v := x4) (lv' := [(1, .int x4), (0, .int v0)]) hx hb d_Mo_logarithm_9 hl (k := 1) rfl (by rw [ex4]; rfl) (by decide) rfl (fun ls hl => ?_)
        refine lv_goto (tgt := 2) hx hb d_Mo_logarithm_12 (by decide) ?_
        exact h2 v0 x4 _ _ _ _ ls hP hD hS (lv_sub hl [1, 0] rfl) hc hf
  have hc : 0 ≤ 0 ∧ 0 ≤ 0 := ⟨Nat.le_refl 0, Nat.le_refl 0⟩
  unfold f_Mo_logarithm at hf
  refine lv_iconst (v := 0) hx hb d_Mo_logarithm_0 (by decide) ?_
  refine lv_istore_n (lv' := [(1, .int 0), (0, .int p0)]) hx hb d_Mo_logarithm_1 rfl hl (by decide) rfl (fun ls hl => ?_)
  exact k_2 F p0 0 _ _ _ _ ls hP hD hS (lv_sub hl [1, 0] rfl) hc hf
noncomputable def f_Mo_half (F : Nat) (p0 : Int32) (p1 : Int32) : Option (Int32) :=
letb (1 <<< (p1 &&& 31)) fun x5 =>
letb (p0 + x5) fun x6 =>
letb (x6 - 1) fun x7 =>
letb (x7 >>> (p1 &&& 31)) fun x8 =>
some x8
set_option maxHeartbeats 4000000 in
set_option maxRecDepth 100000 in
theorem c_Mo_half (l : Launch) (dC : Nat → ClassId) (dI : Nat → Nat → Nat) (tI tB tL tZ : ClassId) (sz : Nat) (p0 : Int32) (p1 : Int32) (F : Nat) (u : Int32) (hf : f_Mo_half F p0 p1 = some u) : CTi l y_Mo_half b_Mo_half 2 .int 0 0 (dC, dI) classes [(tI, .int), (tB, .byte), (tL, .long), (tZ, .boolean)] [.int p0, .int p1] [] sz (fun q : Unit => []) (u) 0 0 := by
  refine mk_i (by decide) (Nat.le_of_ble_eq_true rfl) ?_
  intro p e s m args below meth c ls A Q hx hb hml hts hown hin hK hN hP hD hA hl ret
  obtain ⟨H, hH⟩ : ∃ H : Heap, H = s.heap := ⟨_, rfl⟩
  have hS : va_S A s.heap H [] := by rw [hH]; exact va_S.rf
  rw [← hH] at hP ⊢
  have hl : lv_has ls 2 [(0, .int p0), (1, .int p1)] := hl
  have hc : 0 ≤ 0 ∧ 0 ≤ 0 := ⟨Nat.le_refl 0, Nat.le_refl 0⟩
  unfold f_Mo_half at hf
  refine lv_iload_n hx hb d_Mo_half_0 rfl (lv_at hl 0 rfl) ?_
  refine lv_iconst (v := 1) hx hb d_Mo_half_1 (by decide) ?_
  refine lv_iload_n hx hb d_Mo_half_2 rfl (lv_at hl 1 rfl) ?_
  refine lv_ishl hx hb d_Mo_half_3 ?_
  refine lv_topi (fun x5 ex5 => ?_)
  have hf := letb_of hf ex5
  refine lv_iadd hx hb d_Mo_half_4 ?_
  refine lv_topi (fun x6 ex6 => ?_)
  have hf := letb_of hf ex6
  refine lv_iconst (v := 1) hx hb d_Mo_half_5 (by decide) ?_
  refine lv_isub hx hb d_Mo_half_6 ?_
  refine lv_topi (fun x7 ex7 => ?_)
  have hf := letb_of hf ex7
  refine lv_iload_n hx hb d_Mo_half_7 rfl (lv_at hl 1 rfl) ?_
  refine lv_ishr hx hb d_Mo_half_8 ?_
  refine lv_topi (fun x8 ex8 => ?_)
  have hf := letb_of hf ex8
  have hf := Option.some.inj hf
  subst u
  exact ret _ _ _ _ _ _ () d_Mo_half_9 rfl hP hD hS hc.1 hc.2
noncomputable def f_Mo_thrown (F : Nat) (t_thrown : Int32) : Option (Int32) :=
some t_thrown
set_option maxHeartbeats 4000000 in
set_option maxRecDepth 100000 in
theorem c_Mo_thrown (l : Launch) (dC : Nat → ClassId) (dI : Nat → Nat → Nat) (tI tB tL tZ : ClassId) (a_t : Nat) (o_t_wide : Nat) (o_t_high : Nat) (o_t_begins : Nat) (o_t_bytes : Nat) (o_t_came : Nat) (o_t_width : Nat) (o_t_brings : Nat) (o_t_first : Nat) (o_t_missing : Nat) (o_t_told : Nat) (o_t_owner : Nat) (o_t_length : Nat) (o_t_layers : Nat) (o_t_low : Nat) (o_t_known : Nat) (sz : Nat) (t_thrown : Int32) (t_style : Int32) (t_bands : Int32) (t_size : Int32) (t_pieces : Int32) (t_over : Int32) (t_writing : Int32) (t_begin : Int32) (t_end : Int32) (t_room : Int32) (t_wrong : Int32) (t_count : Int32) (F : Nat) (u : Int32) (hf : f_Mo_thrown F t_thrown = some u) : CTi l y_Mo_thrown b_Mo_thrown 1 .int 0 0 (dC, dI) classes [(tI, .int), (tB, .byte), (tL, .long), (tZ, .boolean)] [.ref a_t] [(a_t, .inr (7, [.int t_thrown, .int t_style, .int t_bands, .ref o_t_wide, .ref o_t_high, .ref o_t_begins, .int t_size, .ref o_t_bytes, .ref o_t_came, .ref o_t_width, .ref o_t_brings, .ref o_t_first, .ref o_t_missing, .ref o_t_told, .int t_pieces, .ref o_t_owner, .ref o_t_length, .ref o_t_layers, .int t_over, .ref o_t_low, .ref o_t_known, .int t_writing, .int t_begin, .int t_end, .int t_room, .int t_wrong, .int t_count]))] sz (fun q : Unit => [(a_t, .inr (7, [.int t_thrown, .int t_style, .int t_bands, .ref o_t_wide, .ref o_t_high, .ref o_t_begins, .int t_size, .ref o_t_bytes, .ref o_t_came, .ref o_t_width, .ref o_t_brings, .ref o_t_first, .ref o_t_missing, .ref o_t_told, .int t_pieces, .ref o_t_owner, .ref o_t_length, .ref o_t_layers, .int t_over, .ref o_t_low, .ref o_t_known, .int t_writing, .int t_begin, .int t_end, .int t_room, .int t_wrong, .int t_count]))]) (u) 0 0 := by
  refine mk_i (by decide) (Nat.le_of_ble_eq_true rfl) ?_
  intro p e s m args below meth c ls A Q hx hb hml hts hown hin hK hN hP hD hA hl ret
  obtain ⟨H, hH⟩ : ∃ H : Heap, H = s.heap := ⟨_, rfl⟩
  have hS : va_S A s.heap H [] := by rw [hH]; exact va_S.rf
  rw [← hH] at hP ⊢
  have hl : lv_has ls 1 [(0, .ref a_t)] := hl
  have hc : 0 ≤ 0 ∧ 0 ≤ 0 := ⟨Nat.le_refl 0, Nat.le_refl 0⟩
  unfold f_Mo_thrown at hf
  refine lv_aload_n hx hb d_Mo_thrown_0 rfl (lv_at hl 0 rfl) ?_
  refine va_get (D := (dC, dI)) (ci := 7) (v := .int t_thrown) (C := R_Mo) (T := F_Mo) (N := 27) hx hb hts i_Mo hown hK hP 0 rfl rfl 0 (by decide) (hts _ q_208) (fun _ h9 => h9) rfl d_Mo_thrown_1 ?_
  have hf := Option.some.inj hf
  subst u
  exact ret _ _ _ _ _ _ () d_Mo_thrown_4 rfl hP hD hS hc.1 hc.2
noncomputable def g_Mo_throwing_41 (F : Nat) (t_thrown : Int32) (s0 : Int32) : Option (Int32 × Int32) :=
asm (narrow .boolean (.int s0) = .int s0) (some (s0, t_thrown))
noncomputable def g_Mo_throwing_26 (F : Nat) (t_thrown : Int32) (s0 : Int32) : Option (Int32 × Int32) :=
if s0 ≤ 0 then (
g_Mo_throwing_41 F s0 0) else (
g_Mo_throwing_41 F s0 1)
noncomputable def f_Mo_throwing (F : Nat) (t_thrown : Int32) (p0 : Int32) (p1 : Int32) (p2 : Int32) : Option (Int32 × Int32) :=
if p0 = 0 then (
if p1 = 0 then (
if p2 = 0 then (
g_Mo_throwing_26 F t_thrown 0) else (
g_Mo_throwing_26 F t_thrown 3)) else (
g_Mo_throwing_26 F t_thrown 2)) else (
g_Mo_throwing_26 F t_thrown 1)
set_option maxHeartbeats 4000000 in
set_option maxRecDepth 100000 in
theorem c_Mo_throwing (l : Launch) (dC : Nat → ClassId) (dI : Nat → Nat → Nat) (tI tB tL tZ : ClassId) (a_t : Nat) (o_t_wide : Nat) (o_t_high : Nat) (o_t_begins : Nat) (o_t_bytes : Nat) (o_t_came : Nat) (o_t_width : Nat) (o_t_brings : Nat) (o_t_first : Nat) (o_t_missing : Nat) (o_t_told : Nat) (o_t_owner : Nat) (o_t_length : Nat) (o_t_layers : Nat) (o_t_low : Nat) (o_t_known : Nat) (sz : Nat) (t_thrown : Int32) (t_style : Int32) (t_bands : Int32) (t_size : Int32) (t_pieces : Int32) (t_over : Int32) (t_writing : Int32) (t_begin : Int32) (t_end : Int32) (t_room : Int32) (t_wrong : Int32) (t_count : Int32) (p0 : Int32) (p1 : Int32) (p2 : Int32) (F : Nat) (u : Int32 × Int32) (hf : f_Mo_throwing F t_thrown p0 p1 p2 = some u) : CTi l y_Mo_throwing b_Mo_throwing 4 .boolean 0 0 (dC, dI) classes [(tI, .int), (tB, .byte), (tL, .long), (tZ, .boolean)] [.ref a_t, .int p0, .int p1, .int p2] [(a_t, .inr (7, [.int t_thrown, .int t_style, .int t_bands, .ref o_t_wide, .ref o_t_high, .ref o_t_begins, .int t_size, .ref o_t_bytes, .ref o_t_came, .ref o_t_width, .ref o_t_brings, .ref o_t_first, .ref o_t_missing, .ref o_t_told, .int t_pieces, .ref o_t_owner, .ref o_t_length, .ref o_t_layers, .int t_over, .ref o_t_low, .ref o_t_known, .int t_writing, .int t_begin, .int t_end, .int t_room, .int t_wrong, .int t_count]))] sz (fun q : Unit => [(a_t, .inr (7, [.int u.2, .int t_style, .int t_bands, .ref o_t_wide, .ref o_t_high, .ref o_t_begins, .int t_size, .ref o_t_bytes, .ref o_t_came, .ref o_t_width, .ref o_t_brings, .ref o_t_first, .ref o_t_missing, .ref o_t_told, .int t_pieces, .ref o_t_owner, .ref o_t_length, .ref o_t_layers, .int t_over, .ref o_t_low, .ref o_t_known, .int t_writing, .int t_begin, .int t_end, .int t_room, .int t_wrong, .int t_count]))]) (u.1) 0 0 := by
  refine mk_i (by decide) (Nat.le_of_ble_eq_true rfl) ?_
  intro p e s m args below meth c ls A Q hx hb hml hts hown hin hK hN hP hD hA hl ret
  obtain ⟨H, hH⟩ : ∃ H : Heap, H = s.heap := ⟨_, rfl⟩
  have hS : va_S A s.heap H [] := by rw [hH]; exact va_S.rf
  rw [← hH] at hP ⊢
  have hl : lv_has ls 4 [(0, .ref a_t), (1, .int p0), (2, .int p1), (3, .int p2)] := hl
  have k_41 : ∀ (t_thrown : Int32) (s0 : Int32) (H : Heap) (locs : List Loc) (cells slots : Nat) (ls : Array Slot), va_P (dC, dI) classes [(a_t, .inr (7, [.int t_thrown, .int t_style, .int t_bands, .ref o_t_wide, .ref o_t_high, .ref o_t_begins, .int t_size, .ref o_t_bytes, .ref o_t_came, .ref o_t_width, .ref o_t_brings, .ref o_t_first, .ref o_t_missing, .ref o_t_told, .int t_pieces, .ref o_t_owner, .ref o_t_length, .ref o_t_layers, .int t_over, .ref o_t_low, .ref o_t_known, .int t_writing, .int t_begin, .int t_end, .int t_room, .int t_wrong, .int t_count]))] H → va_D A [(a_t, .inr (7, [.int t_thrown, .int t_style, .int t_bands, .ref o_t_wide, .ref o_t_high, .ref o_t_begins, .int t_size, .ref o_t_bytes, .ref o_t_came, .ref o_t_width, .ref o_t_brings, .ref o_t_first, .ref o_t_missing, .ref o_t_told, .int t_pieces, .ref o_t_owner, .ref o_t_length, .ref o_t_layers, .int t_over, .ref o_t_low, .ref o_t_known, .int t_writing, .int t_begin, .int t_end, .int t_room, .int t_wrong, .int t_count]))] → va_S A s.heap H locs → lv_has ls 4 [] → (cells ≤ 0 ∧ slots ≤ 0) → g_Mo_throwing_41 F t_thrown s0 = some u → W p l e ({ frames := 0, cells := 0, slots := 0, locals := 0 } : Room) s m args below meth c H locs cells slots Q (F0 m 41 ls [.int s0]) := by
    intro t_thrown s0 H locs cells slots ls hP hD hS hl hc hf
    unfold g_Mo_throwing_41 at hf
    obtain ⟨hn9, hf⟩ := asm_of hf
    have hf := Option.some.inj hf
    subst u
    exact ret _ _ _ _ _ _ () d_Mo_throwing_41 hn9 hP hD hS hc.1 hc.2
  have k_26 : ∀ (t_thrown : Int32) (s0 : Int32) (H : Heap) (locs : List Loc) (cells slots : Nat) (ls : Array Slot), va_P (dC, dI) classes [(a_t, .inr (7, [.int t_thrown, .int t_style, .int t_bands, .ref o_t_wide, .ref o_t_high, .ref o_t_begins, .int t_size, .ref o_t_bytes, .ref o_t_came, .ref o_t_width, .ref o_t_brings, .ref o_t_first, .ref o_t_missing, .ref o_t_told, .int t_pieces, .ref o_t_owner, .ref o_t_length, .ref o_t_layers, .int t_over, .ref o_t_low, .ref o_t_known, .int t_writing, .int t_begin, .int t_end, .int t_room, .int t_wrong, .int t_count]))] H → va_D A [(a_t, .inr (7, [.int t_thrown, .int t_style, .int t_bands, .ref o_t_wide, .ref o_t_high, .ref o_t_begins, .int t_size, .ref o_t_bytes, .ref o_t_came, .ref o_t_width, .ref o_t_brings, .ref o_t_first, .ref o_t_missing, .ref o_t_told, .int t_pieces, .ref o_t_owner, .ref o_t_length, .ref o_t_layers, .int t_over, .ref o_t_low, .ref o_t_known, .int t_writing, .int t_begin, .int t_end, .int t_room, .int t_wrong, .int t_count]))] → va_S A s.heap H locs → lv_has ls 4 [(0, .ref a_t)] → (cells ≤ 0 ∧ slots ≤ 0) → g_Mo_throwing_26 F t_thrown s0 = some u → W p l e ({ frames := 0, cells := 0, slots := 0, locals := 0 } : Room) s m args below meth c H locs cells slots Q (F0 m 26 ls [.int s0, .ref a_t]) := by
    intro t_thrown s0 H locs cells slots ls hP hD hS hl hc hf
    unfold g_Mo_throwing_26 at hf
    refine va_put (D := (dC, dI)) (ci := 7) (v := .int s0) (ty := .int) (C := R_Mo) (T := F_Mo) (N := 27) hx hb hts i_Mo t_Mo t_Mo_ok n_Mo hown hK hP hD hS 0 rfl rfl 0 (by decide) (hts _ q_208) (fun _ h9 => h9) rfl (t_Mo_ok 0 (by decide)) rfl rfl (Nat.le_of_ble_eq_true rfl) d_Mo_throwing_26 (fun H locs hP hD hS => ?_)
    have hP : va_P (dC, dI) classes [(a_t, .inr (7, [.int s0, .int t_style, .int t_bands, .ref o_t_wide, .ref o_t_high, .ref o_t_begins, .int t_size, .ref o_t_bytes, .ref o_t_came, .ref o_t_width, .ref o_t_brings, .ref o_t_first, .ref o_t_missing, .ref o_t_told, .int t_pieces, .ref o_t_owner, .ref o_t_length, .ref o_t_layers, .int t_over, .ref o_t_low, .ref o_t_known, .int t_writing, .int t_begin, .int t_end, .int t_room, .int t_wrong, .int t_count]))] H := hP
    have hD : va_D A [(a_t, .inr (7, [.int s0, .int t_style, .int t_bands, .ref o_t_wide, .ref o_t_high, .ref o_t_begins, .int t_size, .ref o_t_bytes, .ref o_t_came, .ref o_t_width, .ref o_t_brings, .ref o_t_first, .ref o_t_missing, .ref o_t_told, .int t_pieces, .ref o_t_owner, .ref o_t_length, .ref o_t_layers, .int t_over, .ref o_t_low, .ref o_t_known, .int t_writing, .int t_begin, .int t_end, .int t_room, .int t_wrong, .int t_count]))] := hD
    refine lv_aload_n hx hb d_Mo_throwing_29 rfl (lv_at hl 0 rfl) ?_
    refine va_get (D := (dC, dI)) (ci := 7) (v := .int s0) (C := R_Mo) (T := F_Mo) (N := 27) hx hb hts i_Mo hown hK hP 0 rfl rfl 0 (by decide) (hts _ q_208) (fun _ h9 => h9) rfl d_Mo_throwing_30 ?_
    refine lv_if_le (tgt := 40) hx hb d_Mo_throwing_33 (by decide) (fun c0 => ?_) (fun c0 => ?_)
    · have hf := ite_t c0 hf
      refine lv_iconst (v := 0) hx hb d_Mo_throwing_40 (by decide) ?_
      exact k_41 s0 0 _ _ _ _ ls hP hD hS (lv_sub hl [] rfl) hc hf
    · have hf := ite_f c0 hf
      refine lv_iconst (v := 1) hx hb d_Mo_throwing_36 (by decide) ?_
      refine lv_goto (tgt := 41) hx hb d_Mo_throwing_37 (by decide) ?_
      exact k_41 s0 1 _ _ _ _ ls hP hD hS (lv_sub hl [] rfl) hc hf
  have hc : 0 ≤ 0 ∧ 0 ≤ 0 := ⟨Nat.le_refl 0, Nat.le_refl 0⟩
  unfold f_Mo_throwing at hf
  refine lv_aload_n hx hb d_Mo_throwing_0 rfl (lv_at hl 0 rfl) ?_
  refine lv_iload_n hx hb d_Mo_throwing_1 rfl (lv_at hl 1 rfl) ?_
  refine lv_if_eq (tgt := 9) hx hb d_Mo_throwing_2 (by decide) (fun c0 => ?_) (fun c0 => ?_)
  · have hf := ite_t c0 hf
    refine lv_iload_n hx hb d_Mo_throwing_9 rfl (lv_at hl 2 rfl) ?_
    refine lv_if_eq (tgt := 17) hx hb d_Mo_throwing_10 (by decide) (fun c0 => ?_) (fun c0 => ?_)
    · have hf := ite_t c0 hf
      refine lv_iload_n hx hb d_Mo_throwing_17 rfl (lv_at hl 3 rfl) ?_
      refine lv_if_eq (tgt := 25) hx hb d_Mo_throwing_18 (by decide) (fun c0 => ?_) (fun c0 => ?_)
      · have hf := ite_t c0 hf
        refine lv_iconst (v := 0) hx hb d_Mo_throwing_25 (by decide) ?_
        exact k_26 t_thrown 0 _ _ _ _ ls hP hD hS (lv_sub hl [0] rfl) hc hf
      · have hf := ite_f c0 hf
        refine lv_iconst (v := 3) hx hb d_Mo_throwing_21 (by decide) ?_
        refine lv_goto (tgt := 26) hx hb d_Mo_throwing_22 (by decide) ?_
        exact k_26 t_thrown 3 _ _ _ _ ls hP hD hS (lv_sub hl [0] rfl) hc hf
    · have hf := ite_f c0 hf
      refine lv_iconst (v := 2) hx hb d_Mo_throwing_13 (by decide) ?_
      refine lv_goto (tgt := 26) hx hb d_Mo_throwing_14 (by decide) ?_
      exact k_26 t_thrown 2 _ _ _ _ ls hP hD hS (lv_sub hl [0] rfl) hc hf
  · have hf := ite_f c0 hf
    refine lv_iconst (v := 1) hx hb d_Mo_throwing_5 (by decide) ?_
    refine lv_goto (tgt := 26) hx hb d_Mo_throwing_6 (by decide) ?_
    exact k_26 t_thrown 1 _ _ _ _ ls hP hD hS (lv_sub hl [0] rfl) hc hf
noncomputable def g_Mo_forget_96 (F : Nat) (rec96 : Int32 → (Nat → Int32) → (Nat → Int32) → (Nat → Int32) → Int32 → Int32 → Option (Int32 × (Nat → Int32) × (Nat → Int32) × (Nat → Int32))) (t_told_N : Nat) (t_pieces : Int32) (t_owner_F : Nat → Int32) (t_length_F : Nat → Int32) (t_told_F : Nat → Int32) (v2 : Int32) (v4 : Int32) : Option (Int32 × (Nat → Int32) × (Nat → Int32) × (Nat → Int32)) :=
if v2 ≤ v4 then (
some (t_pieces, t_owner_F, t_length_F, t_told_F)) else (
asm (vp_in v4 t_told_N) (letb (v4 + 1) fun x8 =>
rec96 t_pieces t_owner_F t_length_F (upd t_told_F v4.toNatClampNeg 0) v2 x8))
noncomputable def f_Mo_forget_96 (F : Nat) (t_told_N : Nat) : Nat → Int32 → (Nat → Int32) → (Nat → Int32) → (Nat → Int32) → Int32 → Int32 → Option (Int32 × (Nat → Int32) × (Nat → Int32) × (Nat → Int32))
  | 0 => fun _ _ _ _ _ _ => none
  | n + 1 => fun t_pieces t_owner_F t_length_F t_told_F v2 v4 => g_Mo_forget_96 F (f_Mo_forget_96 F t_told_N n) t_told_N t_pieces t_owner_F t_length_F t_told_F v2 v4
noncomputable def g_Mo_forget_81 (F : Nat) (rec5 : Int32 → (Nat → Int32) → (Nat → Int32) → (Nat → Int32) → Int32 → Int32 → Int32 → Int32 → Option (Int32 × (Nat → Int32) × (Nat → Int32) × (Nat → Int32))) (t_pieces : Int32) (t_owner_F : Nat → Int32) (t_length_F : Nat → Int32) (t_told_F : Nat → Int32) (v1 : Int32) (v2 : Int32) (v4 : Int32) (s0 : Int32) : Option (Int32 × (Nat → Int32) × (Nat → Int32) × (Nat → Int32)) :=
letb (v4 + 1) fun x9 =>
rec5 t_pieces t_owner_F t_length_F t_told_F v1 v2 s0 x9
noncomputable def g_Mo_forget_41 (F : Nat) (rec5 : Int32 → (Nat → Int32) → (Nat → Int32) → (Nat → Int32) → Int32 → Int32 → Int32 → Int32 → Option (Int32 × (Nat → Int32) × (Nat → Int32) × (Nat → Int32))) (t_owner_N : Nat) (t_length_N : Nat) (t_pieces : Int32) (t_owner_F : Nat → Int32) (t_length_F : Nat → Int32) (t_told_F : Nat → Int32) (v1 : Int32) (v2 : Int32) (v3 : Int32) (v4 : Int32) (s0 : Int32) : Option (Int32 × (Nat → Int32) × (Nat → Int32) × (Nat → Int32)) :=
asm (vp_in v4 t_owner_N) (letb (t_owner_F v4.toNatClampNeg) fun x10 =>
asm (vp_in v3 t_owner_N) (asm (vp_in v4 t_length_N) (letb (t_length_F v4.toNatClampNeg) fun x11 =>
asm (vp_in v3 t_length_N) (if s0 = 0 then (
letb (v3 + 1) fun x12 =>
g_Mo_forget_81 F rec5 t_pieces (upd t_owner_F v3.toNatClampNeg x10) (upd t_length_F v3.toNatClampNeg x11) t_told_F v1 v2 v4 x12) else (
g_Mo_forget_81 F rec5 t_pieces (upd t_owner_F v3.toNatClampNeg x10) (upd t_length_F v3.toNatClampNeg x11) t_told_F v1 v2 v4 v3)))))
noncomputable def g_Mo_forget_40 (F : Nat) (rec5 : Int32 → (Nat → Int32) → (Nat → Int32) → (Nat → Int32) → Int32 → Int32 → Int32 → Int32 → Option (Int32 × (Nat → Int32) × (Nat → Int32) × (Nat → Int32))) (t_owner_N : Nat) (t_length_N : Nat) (t_pieces : Int32) (t_owner_F : Nat → Int32) (t_length_F : Nat → Int32) (t_told_F : Nat → Int32) (v1 : Int32) (v2 : Int32) (v3 : Int32) (v4 : Int32) : Option (Int32 × (Nat → Int32) × (Nat → Int32) × (Nat → Int32)) :=
g_Mo_forget_41 F rec5 t_owner_N t_length_N t_pieces t_owner_F t_length_F t_told_F v1 v2 v3 v4 0
noncomputable def g_Mo_forget_5 (F : Nat) (rec5 : Int32 → (Nat → Int32) → (Nat → Int32) → (Nat → Int32) → Int32 → Int32 → Int32 → Int32 → Option (Int32 × (Nat → Int32) × (Nat → Int32) × (Nat → Int32))) (t_owner_N : Nat) (t_length_N : Nat) (t_told_N : Nat) (t_pieces : Int32) (t_owner_F : Nat → Int32) (t_length_F : Nat → Int32) (t_told_F : Nat → Int32) (v1 : Int32) (v2 : Int32) (v3 : Int32) (v4 : Int32) : Option (Int32 × (Nat → Int32) × (Nat → Int32) × (Nat → Int32)) :=
if t_pieces ≤ v4 then (
f_Mo_forget_96 F t_told_N F v3 t_owner_F t_length_F t_told_F v2 v1) else (
asm (vp_in v4 t_owner_N) (letb (t_owner_F v4.toNatClampNeg) fun x13 =>
if x13 < v1 then (
g_Mo_forget_40 F rec5 t_owner_N t_length_N t_pieces t_owner_F t_length_F t_told_F v1 v2 v3 v4) else (
asm (vp_in v4 t_owner_N) (letb (t_owner_F v4.toNatClampNeg) fun x14 =>
if v2 ≤ x14 then (
g_Mo_forget_40 F rec5 t_owner_N t_length_N t_pieces t_owner_F t_length_F t_told_F v1 v2 v3 v4) else (
g_Mo_forget_41 F rec5 t_owner_N t_length_N t_pieces t_owner_F t_length_F t_told_F v1 v2 v3 v4 1)))))
noncomputable def f_Mo_forget_5 (F : Nat) (t_owner_N : Nat) (t_length_N : Nat) (t_told_N : Nat) : Nat → Int32 → (Nat → Int32) → (Nat → Int32) → (Nat → Int32) → Int32 → Int32 → Int32 → Int32 → Option (Int32 × (Nat → Int32) × (Nat → Int32) × (Nat → Int32))
  | 0 => fun _ _ _ _ _ _ _ _ => none
  | n + 1 => fun t_pieces t_owner_F t_length_F t_told_F v1 v2 v3 v4 => g_Mo_forget_5 F (f_Mo_forget_5 F t_owner_N t_length_N t_told_N n) t_owner_N t_length_N t_told_N t_pieces t_owner_F t_length_F t_told_F v1 v2 v3 v4
noncomputable def f_Mo_forget (F : Nat) (t_pieces : Int32) (t_owner_N : Nat) (t_owner_F : Nat → Int32) (t_length_N : Nat) (t_length_F : Nat → Int32) (t_told_N : Nat) (t_told_F : Nat → Int32) (p0 : Int32) (p1 : Int32) : Option (Int32 × (Nat → Int32) × (Nat → Int32) × (Nat → Int32)) :=
f_Mo_forget_5 F t_owner_N t_length_N t_told_N F t_pieces t_owner_F t_length_F t_told_F p0 p1 0 0
set_option maxHeartbeats 4000000 in
set_option maxRecDepth 100000 in
theorem c_Mo_forget (l : Launch) (dC : Nat → ClassId) (dI : Nat → Nat → Nat) (tI tB tL tZ : ClassId) (a_t : Nat) (a_t_owner : Nat) (a_t_length : Nat) (a_t_told : Nat) (o_t_wide : Nat) (o_t_high : Nat) (o_t_begins : Nat) (o_t_bytes : Nat) (o_t_came : Nat) (o_t_width : Nat) (o_t_brings : Nat) (o_t_first : Nat) (o_t_missing : Nat) (o_t_layers : Nat) (o_t_low : Nat) (o_t_known : Nat) (sz : Nat) (t_thrown : Int32) (t_style : Int32) (t_bands : Int32) (t_size : Int32) (t_pieces : Int32) (t_over : Int32) (t_writing : Int32) (t_begin : Int32) (t_end : Int32) (t_room : Int32) (t_wrong : Int32) (t_count : Int32) (t_owner_N : Nat) (t_owner_F : Nat → Int32) (t_length_N : Nat) (t_length_F : Nat → Int32) (t_told_N : Nat) (t_told_F : Nat → Int32) (p0 : Int32) (p1 : Int32) (F : Nat) (u : Int32 × (Nat → Int32) × (Nat → Int32) × (Nat → Int32)) (hf : f_Mo_forget F t_pieces t_owner_N t_owner_F t_length_N t_length_F t_told_N t_told_F p0 p1 = some u) : CTv l y_Mo_forget b_Mo_forget 6 0 0 (dC, dI) classes [(tI, .int), (tB, .byte), (tL, .long), (tZ, .boolean)] [.ref a_t, .int p0, .int p1] [(a_t, .inr (7, [.int t_thrown, .int t_style, .int t_bands, .ref o_t_wide, .ref o_t_high, .ref o_t_begins, .int t_size, .ref o_t_bytes, .ref o_t_came, .ref o_t_width, .ref o_t_brings, .ref o_t_first, .ref o_t_missing, .ref a_t_told, .int t_pieces, .ref a_t_owner, .ref a_t_length, .ref o_t_layers, .int t_over, .ref o_t_low, .ref o_t_known, .int t_writing, .int t_begin, .int t_end, .int t_room, .int t_wrong, .int t_count])), (a_t_owner, .inl (tI, t_owner_N, .inl t_owner_F)), (a_t_length, .inl (tI, t_length_N, .inl t_length_F)), (a_t_told, .inl (tI, t_told_N, .inl t_told_F))] sz (fun q : Unit => [(a_t, .inr (7, [.int t_thrown, .int t_style, .int t_bands, .ref o_t_wide, .ref o_t_high, .ref o_t_begins, .int t_size, .ref o_t_bytes, .ref o_t_came, .ref o_t_width, .ref o_t_brings, .ref o_t_first, .ref o_t_missing, .ref a_t_told, .int u.1, .ref a_t_owner, .ref a_t_length, .ref o_t_layers, .int t_over, .ref o_t_low, .ref o_t_known, .int t_writing, .int t_begin, .int t_end, .int t_room, .int t_wrong, .int t_count])), (a_t_owner, .inl (tI, t_owner_N, .inl u.2.1)), (a_t_length, .inl (tI, t_length_N, .inl u.2.2.1)), (a_t_told, .inl (tI, t_told_N, .inl u.2.2.2))]) 0 0 := by
  refine mk_v (by decide) (Nat.le_of_ble_eq_true rfl) ?_
  intro p e s m args below meth c ls A Q hx hb hml hts hown hin hK hN hP hD hA hl ret
  obtain ⟨H, hH⟩ : ∃ H : Heap, H = s.heap := ⟨_, rfl⟩
  have hS : va_S A s.heap H [] := by rw [hH]; exact va_S.rf
  rw [← hH] at hP ⊢
  have hl : lv_has ls 6 [(0, .ref a_t), (1, .int p0), (2, .int p1)] := hl
  have k_96 : ∀ n : Nat, ∀ (t_pieces : Int32) (t_owner_F : Nat → Int32) (t_length_F : Nat → Int32) (t_told_F : Nat → Int32) (v2 : Int32) (v4 : Int32) (H : Heap) (locs : List Loc) (cells slots : Nat) (ls : Array Slot), va_P (dC, dI) classes [(a_t, .inr (7, [.int t_thrown, .int t_style, .int t_bands, .ref o_t_wide, .ref o_t_high, .ref o_t_begins, .int t_size, .ref o_t_bytes, .ref o_t_came, .ref o_t_width, .ref o_t_brings, .ref o_t_first, .ref o_t_missing, .ref a_t_told, .int t_pieces, .ref a_t_owner, .ref a_t_length, .ref o_t_layers, .int t_over, .ref o_t_low, .ref o_t_known, .int t_writing, .int t_begin, .int t_end, .int t_room, .int t_wrong, .int t_count])), (a_t_owner, .inl (tI, t_owner_N, .inl t_owner_F)), (a_t_length, .inl (tI, t_length_N, .inl t_length_F)), (a_t_told, .inl (tI, t_told_N, .inl t_told_F))] H → va_D A [(a_t, .inr (7, [.int t_thrown, .int t_style, .int t_bands, .ref o_t_wide, .ref o_t_high, .ref o_t_begins, .int t_size, .ref o_t_bytes, .ref o_t_came, .ref o_t_width, .ref o_t_brings, .ref o_t_first, .ref o_t_missing, .ref a_t_told, .int t_pieces, .ref a_t_owner, .ref a_t_length, .ref o_t_layers, .int t_over, .ref o_t_low, .ref o_t_known, .int t_writing, .int t_begin, .int t_end, .int t_room, .int t_wrong, .int t_count])), (a_t_owner, .inl (tI, t_owner_N, .inl t_owner_F)), (a_t_length, .inl (tI, t_length_N, .inl t_length_F)), (a_t_told, .inl (tI, t_told_N, .inl t_told_F))] → va_S A s.heap H locs → lv_has ls 6 [(0, .ref a_t), (2, .int v2), (4, .int v4)] → (cells ≤ 0 ∧ slots ≤ 0) → f_Mo_forget_96 F t_told_N n t_pieces t_owner_F t_length_F t_told_F v2 v4 = some u → W p l e ({ frames := 0, cells := 0, slots := 0, locals := 0 } : Room) s m args below meth c H locs cells slots Q (F0 m 96 ls []) := by
    intro n
    induction n with
    | zero => intro t_pieces t_owner_F t_length_F t_told_F v2 v4 H locs cells slots ls hP hD hS hl hc hf; exact absurd hf (by intro h9; cases h9)
    | succ n h96 =>
      intro t_pieces t_owner_F t_length_F t_told_F v2 v4 H locs cells slots ls hP hD hS hl hc hf
      have hf : g_Mo_forget_96 F (f_Mo_forget_96 F t_told_N n) t_told_N t_pieces t_owner_F t_length_F t_told_F v2 v4 = some u := hf
      generalize (f_Mo_forget_96 F t_told_N n) = rec96 at hf h96
      unfold g_Mo_forget_96 at hf
      refine lv_iload hx hb d_Mo_forget_96 (lv_at hl 2 rfl) ?_
      refine lv_iload_n hx hb d_Mo_forget_98 rfl (lv_at hl 1 rfl) ?_
      refine lv_icmp_ge (tgt := 116) hx hb d_Mo_forget_99 (by decide) (fun c0 => ?_) (fun c0 => ?_)
      · have hf := ite_t c0 hf
        have hf := Option.some.inj hf
        subst u
        exact ret _ _ _ _ _ _ () d_Mo_forget_116 hP hD hS hc.1 hc.2
      · have hf := ite_f c0 hf
        refine lv_aload_n hx hb d_Mo_forget_102 rfl (lv_at hl 0 rfl) ?_
        refine va_get (D := (dC, dI)) (ci := 7) (v := .ref a_t_told) (C := R_Mo) (T := F_Mo) (N := 27) hx hb hts i_Mo hown hK hP 0 rfl rfl 13 (by decide) (hts _ q_212) (fun _ h9 => h9) rfl d_Mo_forget_103 ?_
        refine lv_iload hx hb d_Mo_forget_106 (lv_at hl 2 rfl) ?_
        refine lv_iconst (v := 0) hx hb d_Mo_forget_108 (by decide) ?_
        obtain ⟨hin9, hf⟩ := asm_of hf
        refine va_iast hx hb hK hP hD hS 3 0 rfl rfl hin9 d_Mo_forget_109 (fun H locs hP hD hS => ?_)
        have hP : va_P (dC, dI) classes [(a_t, .inr (7, [.int t_thrown, .int t_style, .int t_bands, .ref o_t_wide, .ref o_t_high, .ref o_t_begins, .int t_size, .ref o_t_bytes, .ref o_t_came, .ref o_t_width, .ref o_t_brings, .ref o_t_first, .ref o_t_missing, .ref a_t_told, .int t_pieces, .ref a_t_owner, .ref a_t_length, .ref o_t_layers, .int t_over, .ref o_t_low, .ref o_t_known, .int t_writing, .int t_begin, .int t_end, .int t_room, .int t_wrong, .int t_count])), (a_t_owner, .inl (tI, t_owner_N, .inl t_owner_F)), (a_t_length, .inl (tI, t_length_N, .inl t_length_F)), (a_t_told, .inl (tI, t_told_N, .inl (upd t_told_F v4.toNatClampNeg 0)))] H := hP
        have hD : va_D A [(a_t, .inr (7, [.int t_thrown, .int t_style, .int t_bands, .ref o_t_wide, .ref o_t_high, .ref o_t_begins, .int t_size, .ref o_t_bytes, .ref o_t_came, .ref o_t_width, .ref o_t_brings, .ref o_t_first, .ref o_t_missing, .ref a_t_told, .int t_pieces, .ref a_t_owner, .ref a_t_length, .ref o_t_layers, .int t_over, .ref o_t_low, .ref o_t_known, .int t_writing, .int t_begin, .int t_end, .int t_room, .int t_wrong, .int t_count])), (a_t_owner, .inl (tI, t_owner_N, .inl t_owner_F)), (a_t_length, .inl (tI, t_length_N, .inl t_length_F)), (a_t_told, .inl (tI, t_told_N, .inl (upd t_told_F v4.toNatClampNeg 0)))] := hD
        obtain ⟨x8, ex8⟩ : ∃ y : Int32, y = v4 + 1 := ⟨_, rfl⟩
        have hf := letb_of hf ex8
        refine lv_iinc (v := x8) (lv' := [(4, .int x8), (0, .ref a_t), (2, .int v2)]) hx hb d_Mo_forget_110 hl (k := 2) rfl (by rw [ex8]; rfl) (by decide) rfl (fun ls hl => ?_)
        refine lv_goto (tgt := 96) hx hb d_Mo_forget_113 (by decide) ?_
        exact h96 t_pieces t_owner_F t_length_F (upd t_told_F v4.toNatClampNeg 0) v2 x8 _ _ _ _ ls hP hD hS (lv_sub hl [1, 2, 0] rfl) hc hf
  have k_81 : ∀ (rec5 : Int32 → (Nat → Int32) → (Nat → Int32) → (Nat → Int32) → Int32 → Int32 → Int32 → Int32 → Option (Int32 × (Nat → Int32) × (Nat → Int32) × (Nat → Int32))), (∀ (t_pieces : Int32) (t_owner_F : Nat → Int32) (t_length_F : Nat → Int32) (t_told_F : Nat → Int32) (v1 : Int32) (v2 : Int32) (v3 : Int32) (v4 : Int32) (H : Heap) (locs : List Loc) (cells slots : Nat) (ls : Array Slot), va_P (dC, dI) classes [(a_t, .inr (7, [.int t_thrown, .int t_style, .int t_bands, .ref o_t_wide, .ref o_t_high, .ref o_t_begins, .int t_size, .ref o_t_bytes, .ref o_t_came, .ref o_t_width, .ref o_t_brings, .ref o_t_first, .ref o_t_missing, .ref a_t_told, .int t_pieces, .ref a_t_owner, .ref a_t_length, .ref o_t_layers, .int t_over, .ref o_t_low, .ref o_t_known, .int t_writing, .int t_begin, .int t_end, .int t_room, .int t_wrong, .int t_count])), (a_t_owner, .inl (tI, t_owner_N, .inl t_owner_F)), (a_t_length, .inl (tI, t_length_N, .inl t_length_F)), (a_t_told, .inl (tI, t_told_N, .inl t_told_F))] H → va_D A [(a_t, .inr (7, [.int t_thrown, .int t_style, .int t_bands, .ref o_t_wide, .ref o_t_high, .ref o_t_begins, .int t_size, .ref o_t_bytes, .ref o_t_came, .ref o_t_width, .ref o_t_brings, .ref o_t_first, .ref o_t_missing, .ref a_t_told, .int t_pieces, .ref a_t_owner, .ref a_t_length, .ref o_t_layers, .int t_over, .ref o_t_low, .ref o_t_known, .int t_writing, .int t_begin, .int t_end, .int t_room, .int t_wrong, .int t_count])), (a_t_owner, .inl (tI, t_owner_N, .inl t_owner_F)), (a_t_length, .inl (tI, t_length_N, .inl t_length_F)), (a_t_told, .inl (tI, t_told_N, .inl t_told_F))] → va_S A s.heap H locs → lv_has ls 6 [(0, .ref a_t), (1, .int v1), (2, .int v2), (3, .int v3), (4, .int v4)] → (cells ≤ 0 ∧ slots ≤ 0) → rec5 t_pieces t_owner_F t_length_F t_told_F v1 v2 v3 v4 = some u → W p l e ({ frames := 0, cells := 0, slots := 0, locals := 0 } : Room) s m args below meth c H locs cells slots Q (F0 m 5 ls [])) → ∀ (t_pieces : Int32) (t_owner_F : Nat → Int32) (t_length_F : Nat → Int32) (t_told_F : Nat → Int32) (v1 : Int32) (v2 : Int32) (v4 : Int32) (s0 : Int32) (H : Heap) (locs : List Loc) (cells slots : Nat) (ls : Array Slot), va_P (dC, dI) classes [(a_t, .inr (7, [.int t_thrown, .int t_style, .int t_bands, .ref o_t_wide, .ref o_t_high, .ref o_t_begins, .int t_size, .ref o_t_bytes, .ref o_t_came, .ref o_t_width, .ref o_t_brings, .ref o_t_first, .ref o_t_missing, .ref a_t_told, .int t_pieces, .ref a_t_owner, .ref a_t_length, .ref o_t_layers, .int t_over, .ref o_t_low, .ref o_t_known, .int t_writing, .int t_begin, .int t_end, .int t_room, .int t_wrong, .int t_count])), (a_t_owner, .inl (tI, t_owner_N, .inl t_owner_F)), (a_t_length, .inl (tI, t_length_N, .inl t_length_F)), (a_t_told, .inl (tI, t_told_N, .inl t_told_F))] H → va_D A [(a_t, .inr (7, [.int t_thrown, .int t_style, .int t_bands, .ref o_t_wide, .ref o_t_high, .ref o_t_begins, .int t_size, .ref o_t_bytes, .ref o_t_came, .ref o_t_width, .ref o_t_brings, .ref o_t_first, .ref o_t_missing, .ref a_t_told, .int t_pieces, .ref a_t_owner, .ref a_t_length, .ref o_t_layers, .int t_over, .ref o_t_low, .ref o_t_known, .int t_writing, .int t_begin, .int t_end, .int t_room, .int t_wrong, .int t_count])), (a_t_owner, .inl (tI, t_owner_N, .inl t_owner_F)), (a_t_length, .inl (tI, t_length_N, .inl t_length_F)), (a_t_told, .inl (tI, t_told_N, .inl t_told_F))] → va_S A s.heap H locs → lv_has ls 6 [(0, .ref a_t), (1, .int v1), (2, .int v2), (4, .int v4)] → (cells ≤ 0 ∧ slots ≤ 0) → g_Mo_forget_81 F rec5 t_pieces t_owner_F t_length_F t_told_F v1 v2 v4 s0 = some u → W p l e ({ frames := 0, cells := 0, slots := 0, locals := 0 } : Room) s m args below meth c H locs cells slots Q (F0 m 81 ls [.int s0]) := by
    intro rec5 h5 t_pieces t_owner_F t_length_F t_told_F v1 v2 v4 s0 H locs cells slots ls hP hD hS hl hc hf
    unfold g_Mo_forget_81 at hf
    refine lv_istore_n (lv' := [(3, .int s0), (0, .ref a_t), (1, .int v1), (2, .int v2), (4, .int v4)]) hx hb d_Mo_forget_81 rfl hl (by decide) rfl (fun ls hl => ?_)
    obtain ⟨x9, ex9⟩ : ∃ y : Int32, y = v4 + 1 := ⟨_, rfl⟩
    have hf := letb_of hf ex9
    refine lv_iinc (v := x9) (lv' := [(4, .int x9), (3, .int s0), (0, .ref a_t), (1, .int v1), (2, .int v2)]) hx hb d_Mo_forget_82 hl (k := 4) rfl (by rw [ex9]; rfl) (by decide) rfl (fun ls hl => ?_)
    refine lv_goto (tgt := 5) hx hb d_Mo_forget_85 (by decide) ?_
    exact h5 t_pieces t_owner_F t_length_F t_told_F v1 v2 s0 x9 _ _ _ _ ls hP hD hS (lv_sub hl [2, 3, 4, 1, 0] rfl) hc hf
  have k_41 : ∀ (rec5 : Int32 → (Nat → Int32) → (Nat → Int32) → (Nat → Int32) → Int32 → Int32 → Int32 → Int32 → Option (Int32 × (Nat → Int32) × (Nat → Int32) × (Nat → Int32))), (∀ (t_pieces : Int32) (t_owner_F : Nat → Int32) (t_length_F : Nat → Int32) (t_told_F : Nat → Int32) (v1 : Int32) (v2 : Int32) (v3 : Int32) (v4 : Int32) (H : Heap) (locs : List Loc) (cells slots : Nat) (ls : Array Slot), va_P (dC, dI) classes [(a_t, .inr (7, [.int t_thrown, .int t_style, .int t_bands, .ref o_t_wide, .ref o_t_high, .ref o_t_begins, .int t_size, .ref o_t_bytes, .ref o_t_came, .ref o_t_width, .ref o_t_brings, .ref o_t_first, .ref o_t_missing, .ref a_t_told, .int t_pieces, .ref a_t_owner, .ref a_t_length, .ref o_t_layers, .int t_over, .ref o_t_low, .ref o_t_known, .int t_writing, .int t_begin, .int t_end, .int t_room, .int t_wrong, .int t_count])), (a_t_owner, .inl (tI, t_owner_N, .inl t_owner_F)), (a_t_length, .inl (tI, t_length_N, .inl t_length_F)), (a_t_told, .inl (tI, t_told_N, .inl t_told_F))] H → va_D A [(a_t, .inr (7, [.int t_thrown, .int t_style, .int t_bands, .ref o_t_wide, .ref o_t_high, .ref o_t_begins, .int t_size, .ref o_t_bytes, .ref o_t_came, .ref o_t_width, .ref o_t_brings, .ref o_t_first, .ref o_t_missing, .ref a_t_told, .int t_pieces, .ref a_t_owner, .ref a_t_length, .ref o_t_layers, .int t_over, .ref o_t_low, .ref o_t_known, .int t_writing, .int t_begin, .int t_end, .int t_room, .int t_wrong, .int t_count])), (a_t_owner, .inl (tI, t_owner_N, .inl t_owner_F)), (a_t_length, .inl (tI, t_length_N, .inl t_length_F)), (a_t_told, .inl (tI, t_told_N, .inl t_told_F))] → va_S A s.heap H locs → lv_has ls 6 [(0, .ref a_t), (1, .int v1), (2, .int v2), (3, .int v3), (4, .int v4)] → (cells ≤ 0 ∧ slots ≤ 0) → rec5 t_pieces t_owner_F t_length_F t_told_F v1 v2 v3 v4 = some u → W p l e ({ frames := 0, cells := 0, slots := 0, locals := 0 } : Room) s m args below meth c H locs cells slots Q (F0 m 5 ls [])) → ∀ (t_pieces : Int32) (t_owner_F : Nat → Int32) (t_length_F : Nat → Int32) (t_told_F : Nat → Int32) (v1 : Int32) (v2 : Int32) (v3 : Int32) (v4 : Int32) (s0 : Int32) (H : Heap) (locs : List Loc) (cells slots : Nat) (ls : Array Slot), va_P (dC, dI) classes [(a_t, .inr (7, [.int t_thrown, .int t_style, .int t_bands, .ref o_t_wide, .ref o_t_high, .ref o_t_begins, .int t_size, .ref o_t_bytes, .ref o_t_came, .ref o_t_width, .ref o_t_brings, .ref o_t_first, .ref o_t_missing, .ref a_t_told, .int t_pieces, .ref a_t_owner, .ref a_t_length, .ref o_t_layers, .int t_over, .ref o_t_low, .ref o_t_known, .int t_writing, .int t_begin, .int t_end, .int t_room, .int t_wrong, .int t_count])), (a_t_owner, .inl (tI, t_owner_N, .inl t_owner_F)), (a_t_length, .inl (tI, t_length_N, .inl t_length_F)), (a_t_told, .inl (tI, t_told_N, .inl t_told_F))] H → va_D A [(a_t, .inr (7, [.int t_thrown, .int t_style, .int t_bands, .ref o_t_wide, .ref o_t_high, .ref o_t_begins, .int t_size, .ref o_t_bytes, .ref o_t_came, .ref o_t_width, .ref o_t_brings, .ref o_t_first, .ref o_t_missing, .ref a_t_told, .int t_pieces, .ref a_t_owner, .ref a_t_length, .ref o_t_layers, .int t_over, .ref o_t_low, .ref o_t_known, .int t_writing, .int t_begin, .int t_end, .int t_room, .int t_wrong, .int t_count])), (a_t_owner, .inl (tI, t_owner_N, .inl t_owner_F)), (a_t_length, .inl (tI, t_length_N, .inl t_length_F)), (a_t_told, .inl (tI, t_told_N, .inl t_told_F))] → va_S A s.heap H locs → lv_has ls 6 [(0, .ref a_t), (1, .int v1), (2, .int v2), (3, .int v3), (4, .int v4)] → (cells ≤ 0 ∧ slots ≤ 0) → g_Mo_forget_41 F rec5 t_owner_N t_length_N t_pieces t_owner_F t_length_F t_told_F v1 v2 v3 v4 s0 = some u → W p l e ({ frames := 0, cells := 0, slots := 0, locals := 0 } : Room) s m args below meth c H locs cells slots Q (F0 m 41 ls [.int s0]) := by
    intro rec5 h5 t_pieces t_owner_F t_length_F t_told_F v1 v2 v3 v4 s0 H locs cells slots ls hP hD hS hl hc hf
    unfold g_Mo_forget_41 at hf
    refine lv_istore (lv' := [(5, .int s0), (0, .ref a_t), (1, .int v1), (2, .int v2), (3, .int v3), (4, .int v4)]) hx hb d_Mo_forget_41 hl (by decide) rfl (fun ls hl => ?_)
    refine lv_aload_n hx hb d_Mo_forget_43 rfl (lv_at hl 1 rfl) ?_
    refine va_get (D := (dC, dI)) (ci := 7) (v := .ref a_t_owner) (C := R_Mo) (T := F_Mo) (N := 27) hx hb hts i_Mo hown hK hP 0 rfl rfl 15 (by decide) (hts _ q_210) (fun _ h9 => h9) rfl d_Mo_forget_44 ?_
    refine lv_iload_n hx hb d_Mo_forget_47 rfl (lv_at hl 4 rfl) ?_
    refine lv_aload_n hx hb d_Mo_forget_48 rfl (lv_at hl 1 rfl) ?_
    refine va_get (D := (dC, dI)) (ci := 7) (v := .ref a_t_owner) (C := R_Mo) (T := F_Mo) (N := 27) hx hb hts i_Mo hown hK hP 0 rfl rfl 15 (by decide) (hts _ q_210) (fun _ h9 => h9) rfl d_Mo_forget_49 ?_
    refine lv_iload hx hb d_Mo_forget_52 (lv_at hl 5 rfl) ?_
    obtain ⟨hin9, hf⟩ := asm_of hf
    refine va_iald hx hb hK hP 1 0 rfl rfl hin9 d_Mo_forget_54 ?_
    refine lv_topi (fun x10 ex10 => ?_)
    have hf := letb_of hf ex10
    obtain ⟨hin9, hf⟩ := asm_of hf
    refine va_iast hx hb hK hP hD hS 1 0 rfl rfl hin9 d_Mo_forget_55 (fun H locs hP hD hS => ?_)
    have hP : va_P (dC, dI) classes [(a_t, .inr (7, [.int t_thrown, .int t_style, .int t_bands, .ref o_t_wide, .ref o_t_high, .ref o_t_begins, .int t_size, .ref o_t_bytes, .ref o_t_came, .ref o_t_width, .ref o_t_brings, .ref o_t_first, .ref o_t_missing, .ref a_t_told, .int t_pieces, .ref a_t_owner, .ref a_t_length, .ref o_t_layers, .int t_over, .ref o_t_low, .ref o_t_known, .int t_writing, .int t_begin, .int t_end, .int t_room, .int t_wrong, .int t_count])), (a_t_owner, .inl (tI, t_owner_N, .inl (upd t_owner_F v3.toNatClampNeg x10))), (a_t_length, .inl (tI, t_length_N, .inl t_length_F)), (a_t_told, .inl (tI, t_told_N, .inl t_told_F))] H := hP
    have hD : va_D A [(a_t, .inr (7, [.int t_thrown, .int t_style, .int t_bands, .ref o_t_wide, .ref o_t_high, .ref o_t_begins, .int t_size, .ref o_t_bytes, .ref o_t_came, .ref o_t_width, .ref o_t_brings, .ref o_t_first, .ref o_t_missing, .ref a_t_told, .int t_pieces, .ref a_t_owner, .ref a_t_length, .ref o_t_layers, .int t_over, .ref o_t_low, .ref o_t_known, .int t_writing, .int t_begin, .int t_end, .int t_room, .int t_wrong, .int t_count])), (a_t_owner, .inl (tI, t_owner_N, .inl (upd t_owner_F v3.toNatClampNeg x10))), (a_t_length, .inl (tI, t_length_N, .inl t_length_F)), (a_t_told, .inl (tI, t_told_N, .inl t_told_F))] := hD
    refine lv_aload_n hx hb d_Mo_forget_56 rfl (lv_at hl 1 rfl) ?_
    refine va_get (D := (dC, dI)) (ci := 7) (v := .ref a_t_length) (C := R_Mo) (T := F_Mo) (N := 27) hx hb hts i_Mo hown hK hP 0 rfl rfl 16 (by decide) (hts _ q_211) (fun _ h9 => h9) rfl d_Mo_forget_57 ?_
    refine lv_iload_n hx hb d_Mo_forget_60 rfl (lv_at hl 4 rfl) ?_
    refine lv_aload_n hx hb d_Mo_forget_61 rfl (lv_at hl 1 rfl) ?_
    refine va_get (D := (dC, dI)) (ci := 7) (v := .ref a_t_length) (C := R_Mo) (T := F_Mo) (N := 27) hx hb hts i_Mo hown hK hP 0 rfl rfl 16 (by decide) (hts _ q_211) (fun _ h9 => h9) rfl d_Mo_forget_62 ?_
    refine lv_iload hx hb d_Mo_forget_65 (lv_at hl 5 rfl) ?_
    obtain ⟨hin9, hf⟩ := asm_of hf
    refine va_iald hx hb hK hP 2 0 rfl rfl hin9 d_Mo_forget_67 ?_
    refine lv_topi (fun x11 ex11 => ?_)
    have hf := letb_of hf ex11
    obtain ⟨hin9, hf⟩ := asm_of hf
    refine va_iast hx hb hK hP hD hS 2 0 rfl rfl hin9 d_Mo_forget_68 (fun H locs hP hD hS => ?_)
    have hP : va_P (dC, dI) classes [(a_t, .inr (7, [.int t_thrown, .int t_style, .int t_bands, .ref o_t_wide, .ref o_t_high, .ref o_t_begins, .int t_size, .ref o_t_bytes, .ref o_t_came, .ref o_t_width, .ref o_t_brings, .ref o_t_first, .ref o_t_missing, .ref a_t_told, .int t_pieces, .ref a_t_owner, .ref a_t_length, .ref o_t_layers, .int t_over, .ref o_t_low, .ref o_t_known, .int t_writing, .int t_begin, .int t_end, .int t_room, .int t_wrong, .int t_count])), (a_t_owner, .inl (tI, t_owner_N, .inl (upd t_owner_F v3.toNatClampNeg x10))), (a_t_length, .inl (tI, t_length_N, .inl (upd t_length_F v3.toNatClampNeg x11))), (a_t_told, .inl (tI, t_told_N, .inl t_told_F))] H := hP
    have hD : va_D A [(a_t, .inr (7, [.int t_thrown, .int t_style, .int t_bands, .ref o_t_wide, .ref o_t_high, .ref o_t_begins, .int t_size, .ref o_t_bytes, .ref o_t_came, .ref o_t_width, .ref o_t_brings, .ref o_t_first, .ref o_t_missing, .ref a_t_told, .int t_pieces, .ref a_t_owner, .ref a_t_length, .ref o_t_layers, .int t_over, .ref o_t_low, .ref o_t_known, .int t_writing, .int t_begin, .int t_end, .int t_room, .int t_wrong, .int t_count])), (a_t_owner, .inl (tI, t_owner_N, .inl (upd t_owner_F v3.toNatClampNeg x10))), (a_t_length, .inl (tI, t_length_N, .inl (upd t_length_F v3.toNatClampNeg x11))), (a_t_told, .inl (tI, t_told_N, .inl t_told_F))] := hD
    refine lv_iload hx hb d_Mo_forget_69 (lv_at hl 0 rfl) ?_
    refine lv_if_eq (tgt := 78) hx hb d_Mo_forget_71 (by decide) (fun c0 => ?_) (fun c0 => ?_)
    · have hf := ite_t c0 hf
      refine lv_iload_n hx hb d_Mo_forget_78 rfl (lv_at hl 4 rfl) ?_
      refine lv_iconst (v := 1) hx hb d_Mo_forget_79 (by decide) ?_
      refine lv_iadd hx hb d_Mo_forget_80 ?_
      refine lv_topi (fun x12 ex12 => ?_)
      have hf := letb_of hf ex12
      exact k_81 rec5 h5 t_pieces (upd t_owner_F v3.toNatClampNeg x10) (upd t_length_F v3.toNatClampNeg x11) t_told_F v1 v2 v4 x12 _ _ _ _ ls hP hD hS (lv_sub hl [1, 2, 3, 5] rfl) hc hf
    · have hf := ite_f c0 hf
      refine lv_iload_n hx hb d_Mo_forget_74 rfl (lv_at hl 4 rfl) ?_
      refine lv_goto (tgt := 81) hx hb d_Mo_forget_75 (by decide) ?_
      exact k_81 rec5 h5 t_pieces (upd t_owner_F v3.toNatClampNeg x10) (upd t_length_F v3.toNatClampNeg x11) t_told_F v1 v2 v4 v3 _ _ _ _ ls hP hD hS (lv_sub hl [1, 2, 3, 5] rfl) hc hf
  have k_40 : ∀ (rec5 : Int32 → (Nat → Int32) → (Nat → Int32) → (Nat → Int32) → Int32 → Int32 → Int32 → Int32 → Option (Int32 × (Nat → Int32) × (Nat → Int32) × (Nat → Int32))), (∀ (t_pieces : Int32) (t_owner_F : Nat → Int32) (t_length_F : Nat → Int32) (t_told_F : Nat → Int32) (v1 : Int32) (v2 : Int32) (v3 : Int32) (v4 : Int32) (H : Heap) (locs : List Loc) (cells slots : Nat) (ls : Array Slot), va_P (dC, dI) classes [(a_t, .inr (7, [.int t_thrown, .int t_style, .int t_bands, .ref o_t_wide, .ref o_t_high, .ref o_t_begins, .int t_size, .ref o_t_bytes, .ref o_t_came, .ref o_t_width, .ref o_t_brings, .ref o_t_first, .ref o_t_missing, .ref a_t_told, .int t_pieces, .ref a_t_owner, .ref a_t_length, .ref o_t_layers, .int t_over, .ref o_t_low, .ref o_t_known, .int t_writing, .int t_begin, .int t_end, .int t_room, .int t_wrong, .int t_count])), (a_t_owner, .inl (tI, t_owner_N, .inl t_owner_F)), (a_t_length, .inl (tI, t_length_N, .inl t_length_F)), (a_t_told, .inl (tI, t_told_N, .inl t_told_F))] H → va_D A [(a_t, .inr (7, [.int t_thrown, .int t_style, .int t_bands, .ref o_t_wide, .ref o_t_high, .ref o_t_begins, .int t_size, .ref o_t_bytes, .ref o_t_came, .ref o_t_width, .ref o_t_brings, .ref o_t_first, .ref o_t_missing, .ref a_t_told, .int t_pieces, .ref a_t_owner, .ref a_t_length, .ref o_t_layers, .int t_over, .ref o_t_low, .ref o_t_known, .int t_writing, .int t_begin, .int t_end, .int t_room, .int t_wrong, .int t_count])), (a_t_owner, .inl (tI, t_owner_N, .inl t_owner_F)), (a_t_length, .inl (tI, t_length_N, .inl t_length_F)), (a_t_told, .inl (tI, t_told_N, .inl t_told_F))] → va_S A s.heap H locs → lv_has ls 6 [(0, .ref a_t), (1, .int v1), (2, .int v2), (3, .int v3), (4, .int v4)] → (cells ≤ 0 ∧ slots ≤ 0) → rec5 t_pieces t_owner_F t_length_F t_told_F v1 v2 v3 v4 = some u → W p l e ({ frames := 0, cells := 0, slots := 0, locals := 0 } : Room) s m args below meth c H locs cells slots Q (F0 m 5 ls [])) → ∀ (t_pieces : Int32) (t_owner_F : Nat → Int32) (t_length_F : Nat → Int32) (t_told_F : Nat → Int32) (v1 : Int32) (v2 : Int32) (v3 : Int32) (v4 : Int32) (H : Heap) (locs : List Loc) (cells slots : Nat) (ls : Array Slot), va_P (dC, dI) classes [(a_t, .inr (7, [.int t_thrown, .int t_style, .int t_bands, .ref o_t_wide, .ref o_t_high, .ref o_t_begins, .int t_size, .ref o_t_bytes, .ref o_t_came, .ref o_t_width, .ref o_t_brings, .ref o_t_first, .ref o_t_missing, .ref a_t_told, .int t_pieces, .ref a_t_owner, .ref a_t_length, .ref o_t_layers, .int t_over, .ref o_t_low, .ref o_t_known, .int t_writing, .int t_begin, .int t_end, .int t_room, .int t_wrong, .int t_count])), (a_t_owner, .inl (tI, t_owner_N, .inl t_owner_F)), (a_t_length, .inl (tI, t_length_N, .inl t_length_F)), (a_t_told, .inl (tI, t_told_N, .inl t_told_F))] H → va_D A [(a_t, .inr (7, [.int t_thrown, .int t_style, .int t_bands, .ref o_t_wide, .ref o_t_high, .ref o_t_begins, .int t_size, .ref o_t_bytes, .ref o_t_came, .ref o_t_width, .ref o_t_brings, .ref o_t_first, .ref o_t_missing, .ref a_t_told, .int t_pieces, .ref a_t_owner, .ref a_t_length, .ref o_t_layers, .int t_over, .ref o_t_low, .ref o_t_known, .int t_writing, .int t_begin, .int t_end, .int t_room, .int t_wrong, .int t_count])), (a_t_owner, .inl (tI, t_owner_N, .inl t_owner_F)), (a_t_length, .inl (tI, t_length_N, .inl t_length_F)), (a_t_told, .inl (tI, t_told_N, .inl t_told_F))] → va_S A s.heap H locs → lv_has ls 6 [(0, .ref a_t), (1, .int v1), (2, .int v2), (3, .int v3), (4, .int v4)] → (cells ≤ 0 ∧ slots ≤ 0) → g_Mo_forget_40 F rec5 t_owner_N t_length_N t_pieces t_owner_F t_length_F t_told_F v1 v2 v3 v4 = some u → W p l e ({ frames := 0, cells := 0, slots := 0, locals := 0 } : Room) s m args below meth c H locs cells slots Q (F0 m 40 ls []) := by
    intro rec5 h5 t_pieces t_owner_F t_length_F t_told_F v1 v2 v3 v4 H locs cells slots ls hP hD hS hl hc hf
    unfold g_Mo_forget_40 at hf
    refine lv_iconst (v := 0) hx hb d_Mo_forget_40 (by decide) ?_
    exact k_41 rec5 h5 t_pieces t_owner_F t_length_F t_told_F v1 v2 v3 v4 0 _ _ _ _ ls hP hD hS hl hc hf
  have k_5 : ∀ n : Nat, ∀ (t_pieces : Int32) (t_owner_F : Nat → Int32) (t_length_F : Nat → Int32) (t_told_F : Nat → Int32) (v1 : Int32) (v2 : Int32) (v3 : Int32) (v4 : Int32) (H : Heap) (locs : List Loc) (cells slots : Nat) (ls : Array Slot), va_P (dC, dI) classes [(a_t, .inr (7, [.int t_thrown, .int t_style, .int t_bands, .ref o_t_wide, .ref o_t_high, .ref o_t_begins, .int t_size, .ref o_t_bytes, .ref o_t_came, .ref o_t_width, .ref o_t_brings, .ref o_t_first, .ref o_t_missing, .ref a_t_told, .int t_pieces, .ref a_t_owner, .ref a_t_length, .ref o_t_layers, .int t_over, .ref o_t_low, .ref o_t_known, .int t_writing, .int t_begin, .int t_end, .int t_room, .int t_wrong, .int t_count])), (a_t_owner, .inl (tI, t_owner_N, .inl t_owner_F)), (a_t_length, .inl (tI, t_length_N, .inl t_length_F)), (a_t_told, .inl (tI, t_told_N, .inl t_told_F))] H → va_D A [(a_t, .inr (7, [.int t_thrown, .int t_style, .int t_bands, .ref o_t_wide, .ref o_t_high, .ref o_t_begins, .int t_size, .ref o_t_bytes, .ref o_t_came, .ref o_t_width, .ref o_t_brings, .ref o_t_first, .ref o_t_missing, .ref a_t_told, .int t_pieces, .ref a_t_owner, .ref a_t_length, .ref o_t_layers, .int t_over, .ref o_t_low, .ref o_t_known, .int t_writing, .int t_begin, .int t_end, .int t_room, .int t_wrong, .int t_count])), (a_t_owner, .inl (tI, t_owner_N, .inl t_owner_F)), (a_t_length, .inl (tI, t_length_N, .inl t_length_F)), (a_t_told, .inl (tI, t_told_N, .inl t_told_F))] → va_S A s.heap H locs → lv_has ls 6 [(0, .ref a_t), (1, .int v1), (2, .int v2), (3, .int v3), (4, .int v4)] → (cells ≤ 0 ∧ slots ≤ 0) → f_Mo_forget_5 F t_owner_N t_length_N t_told_N n t_pieces t_owner_F t_length_F t_told_F v1 v2 v3 v4 = some u → W p l e ({ frames := 0, cells := 0, slots := 0, locals := 0 } : Room) s m args below meth c H locs cells slots Q (F0 m 5 ls []) := by
    intro n
    induction n with
    | zero => intro t_pieces t_owner_F t_length_F t_told_F v1 v2 v3 v4 H locs cells slots ls hP hD hS hl hc hf; exact absurd hf (by intro h9; cases h9)
    | succ n h5 =>
      intro t_pieces t_owner_F t_length_F t_told_F v1 v2 v3 v4 H locs cells slots ls hP hD hS hl hc hf
      have hf : g_Mo_forget_5 F (f_Mo_forget_5 F t_owner_N t_length_N t_told_N n) t_owner_N t_length_N t_told_N t_pieces t_owner_F t_length_F t_told_F v1 v2 v3 v4 = some u := hf
      generalize (f_Mo_forget_5 F t_owner_N t_length_N t_told_N n) = rec5 at hf h5
      unfold g_Mo_forget_5 at hf
      refine lv_iload hx hb d_Mo_forget_5 (lv_at hl 4 rfl) ?_
      refine lv_aload_n hx hb d_Mo_forget_7 rfl (lv_at hl 0 rfl) ?_
      refine va_get (D := (dC, dI)) (ci := 7) (v := .int t_pieces) (C := R_Mo) (T := F_Mo) (N := 27) hx hb hts i_Mo hown hK hP 0 rfl rfl 14 (by decide) (hts _ q_209) (fun _ h9 => h9) rfl d_Mo_forget_8 ?_
      refine lv_icmp_ge (tgt := 88) hx hb d_Mo_forget_11 (by decide) (fun c0 => ?_) (fun c0 => ?_)
      · have hf := ite_t c0 hf
        refine lv_aload_n hx hb d_Mo_forget_88 rfl (lv_at hl 0 rfl) ?_
        refine lv_iload_n hx hb d_Mo_forget_89 rfl (lv_at hl 3 rfl) ?_
        refine va_put (D := (dC, dI)) (ci := 7) (v := .int v3) (ty := .int) (C := R_Mo) (T := F_Mo) (N := 27) hx hb hts i_Mo t_Mo t_Mo_ok n_Mo hown hK hP hD hS 0 rfl rfl 14 (by decide) (hts _ q_209) (fun _ h9 => h9) rfl (t_Mo_ok 14 (by decide)) rfl rfl (Nat.le_of_ble_eq_true rfl) d_Mo_forget_90 (fun H locs hP hD hS => ?_)
        have hP : va_P (dC, dI) classes [(a_t, .inr (7, [.int t_thrown, .int t_style, .int t_bands, .ref o_t_wide, .ref o_t_high, .ref o_t_begins, .int t_size, .ref o_t_bytes, .ref o_t_came, .ref o_t_width, .ref o_t_brings, .ref o_t_first, .ref o_t_missing, .ref a_t_told, .int v3, .ref a_t_owner, .ref a_t_length, .ref o_t_layers, .int t_over, .ref o_t_low, .ref o_t_known, .int t_writing, .int t_begin, .int t_end, .int t_room, .int t_wrong, .int t_count])), (a_t_owner, .inl (tI, t_owner_N, .inl t_owner_F)), (a_t_length, .inl (tI, t_length_N, .inl t_length_F)), (a_t_told, .inl (tI, t_told_N, .inl t_told_F))] H := hP
        have hD : va_D A [(a_t, .inr (7, [.int t_thrown, .int t_style, .int t_bands, .ref o_t_wide, .ref o_t_high, .ref o_t_begins, .int t_size, .ref o_t_bytes, .ref o_t_came, .ref o_t_width, .ref o_t_brings, .ref o_t_first, .ref o_t_missing, .ref a_t_told, .int v3, .ref a_t_owner, .ref a_t_length, .ref o_t_layers, .int t_over, .ref o_t_low, .ref o_t_known, .int t_writing, .int t_begin, .int t_end, .int t_room, .int t_wrong, .int t_count])), (a_t_owner, .inl (tI, t_owner_N, .inl t_owner_F)), (a_t_length, .inl (tI, t_length_N, .inl t_length_F)), (a_t_told, .inl (tI, t_told_N, .inl t_told_F))] := hD
        refine lv_iload_n hx hb d_Mo_forget_93 rfl (lv_at hl 1 rfl) ?_
        refine lv_istore (lv' := [(4, .int v1), (0, .ref a_t), (1, .int v1), (2, .int v2), (3, .int v3)]) hx hb d_Mo_forget_94 hl (by decide) rfl (fun ls hl => ?_)
        exact k_96 F v3 t_owner_F t_length_F t_told_F v2 v1 _ _ _ _ ls hP hD hS (lv_sub hl [1, 3, 0] rfl) hc hf
      · have hf := ite_f c0 hf
        refine lv_aload_n hx hb d_Mo_forget_14 rfl (lv_at hl 0 rfl) ?_
        refine va_get (D := (dC, dI)) (ci := 7) (v := .ref a_t_owner) (C := R_Mo) (T := F_Mo) (N := 27) hx hb hts i_Mo hown hK hP 0 rfl rfl 15 (by decide) (hts _ q_210) (fun _ h9 => h9) rfl d_Mo_forget_15 ?_
        refine lv_iload hx hb d_Mo_forget_18 (lv_at hl 4 rfl) ?_
        obtain ⟨hin9, hf⟩ := asm_of hf
        refine va_iald hx hb hK hP 1 0 rfl rfl hin9 d_Mo_forget_20 ?_
        refine lv_topi (fun x13 ex13 => ?_)
        have hf := letb_of hf ex13
        refine lv_iload_n hx hb d_Mo_forget_21 rfl (lv_at hl 1 rfl) ?_
        refine lv_icmp_lt (tgt := 40) hx hb d_Mo_forget_22 (by decide) (fun c0 => ?_) (fun c0 => ?_)
        · have hf := ite_t c0 hf
          exact k_40 rec5 h5 t_pieces t_owner_F t_length_F t_told_F v1 v2 v3 v4 _ _ _ _ ls hP hD hS hl hc hf
        · have hf := ite_f c0 hf
          refine lv_aload_n hx hb d_Mo_forget_25 rfl (lv_at hl 0 rfl) ?_
          refine va_get (D := (dC, dI)) (ci := 7) (v := .ref a_t_owner) (C := R_Mo) (T := F_Mo) (N := 27) hx hb hts i_Mo hown hK hP 0 rfl rfl 15 (by decide) (hts _ q_210) (fun _ h9 => h9) rfl d_Mo_forget_26 ?_
          refine lv_iload hx hb d_Mo_forget_29 (lv_at hl 4 rfl) ?_
          obtain ⟨hin9, hf⟩ := asm_of hf
          refine va_iald hx hb hK hP 1 0 rfl rfl hin9 d_Mo_forget_31 ?_
          refine lv_topi (fun x14 ex14 => ?_)
          have hf := letb_of hf ex14
          refine lv_iload_n hx hb d_Mo_forget_32 rfl (lv_at hl 2 rfl) ?_
          refine lv_icmp_ge (tgt := 40) hx hb d_Mo_forget_33 (by decide) (fun c0 => ?_) (fun c0 => ?_)
          · have hf := ite_t c0 hf
            exact k_40 rec5 h5 t_pieces t_owner_F t_length_F t_told_F v1 v2 v3 v4 _ _ _ _ ls hP hD hS hl hc hf
          · have hf := ite_f c0 hf
            refine lv_iconst (v := 1) hx hb d_Mo_forget_36 (by decide) ?_
            refine lv_goto (tgt := 41) hx hb d_Mo_forget_37 (by decide) ?_
            exact k_41 rec5 h5 t_pieces t_owner_F t_length_F t_told_F v1 v2 v3 v4 1 _ _ _ _ ls hP hD hS hl hc hf
  have hc : 0 ≤ 0 ∧ 0 ≤ 0 := ⟨Nat.le_refl 0, Nat.le_refl 0⟩
  unfold f_Mo_forget at hf
  refine lv_iconst (v := 0) hx hb d_Mo_forget_0 (by decide) ?_
  refine lv_istore_n (lv' := [(3, .int 0), (0, .ref a_t), (1, .int p0), (2, .int p1)]) hx hb d_Mo_forget_1 rfl hl (by decide) rfl (fun ls hl => ?_)
  refine lv_iconst (v := 0) hx hb d_Mo_forget_2 (by decide) ?_
  refine lv_istore (lv' := [(4, .int 0), (3, .int 0), (0, .ref a_t), (1, .int p0), (2, .int p1)]) hx hb d_Mo_forget_3 hl (by decide) rfl (fun ls hl => ?_)
  exact k_5 F t_pieces t_owner_F t_length_F t_told_F p0 p1 0 0 _ _ _ _ ls hP hD hS (lv_sub hl [2, 3, 4, 1, 0] rfl) hc hf
noncomputable def g_Mo_fresh_53 (F : Nat) (rec2 : Int32 → (Nat → Int32) → (Nat → Int32) → (Nat → Int32) → (Nat → Int32) → (Nat → Int32) → (Nat → Int32) → (Nat → Int32) → (Nat → Int32) → Int32 → Int32 → Option (Int32 × (Nat → Int32) × (Nat → Int32) × (Nat → Int32) × (Nat → Int32) × (Nat → Int32) × (Nat → Int32) × (Nat → Int32) × (Nat → Int32))) (t_missing_N : Nat) (t_pieces : Int32) (t_came_F : Nat → Int32) (t_width_F : Nat → Int32) (t_brings_F : Nat → Int32) (t_first_F : Nat → Int32) (t_missing_F : Nat → Int32) (t_owner_F : Nat → Int32) (t_length_F : Nat → Int32) (t_told_F : Nat → Int32) (v1 : Int32) (v2 : Int32) (s0 : Int32) (s1 : Int32) : Option (Int32 × (Nat → Int32) × (Nat → Int32) × (Nat → Int32) × (Nat → Int32) × (Nat → Int32) × (Nat → Int32) × (Nat → Int32) × (Nat → Int32)) :=
asm (vp_in s1 t_missing_N) (letb (v2 + 1) fun x5 =>
rec2 t_pieces t_came_F t_width_F t_brings_F t_first_F (upd t_missing_F s1.toNatClampNeg s0) t_owner_F t_length_F t_told_F v1 x5)
noncomputable def g_Mo_fresh_2 (F : Nat) (rec2 : Int32 → (Nat → Int32) → (Nat → Int32) → (Nat → Int32) → (Nat → Int32) → (Nat → Int32) → (Nat → Int32) → (Nat → Int32) → (Nat → Int32) → Int32 → Int32 → Option (Int32 × (Nat → Int32) × (Nat → Int32) × (Nat → Int32) × (Nat → Int32) × (Nat → Int32) × (Nat → Int32) × (Nat → Int32) × (Nat → Int32))) (t_came_N : Nat) (t_width_N : Nat) (t_brings_N : Nat) (t_first_N : Nat) (t_missing_N : Nat) (t_owner_N : Nat) (t_length_N : Nat) (t_told_N : Nat) (t_pieces : Int32) (t_came_F : Nat → Int32) (t_width_F : Nat → Int32) (t_brings_F : Nat → Int32) (t_first_F : Nat → Int32) (t_missing_F : Nat → Int32) (t_owner_F : Nat → Int32) (t_length_F : Nat → Int32) (t_told_F : Nat → Int32) (v1 : Int32) (v2 : Int32) : Option (Int32 × (Nat → Int32) × (Nat → Int32) × (Nat → Int32) × (Nat → Int32) × (Nat → Int32) × (Nat → Int32) × (Nat → Int32) × (Nat → Int32)) :=
letb (v1 + 1024) fun x6 =>
if x6 ≤ v2 then (
letb (v1 + 1024) fun x7 =>
bd (f_Mo_forget F t_pieces t_owner_N t_owner_F t_length_N t_length_F t_told_N t_told_F v1 x7) fun u8 =>
some (u8.1, t_came_F, t_width_F, t_brings_F, t_first_F, t_missing_F, u8.2.1, u8.2.2.1, u8.2.2.2)) else (
asm (vp_in v2 t_came_N) (asm (vp_in v2 t_width_N) (asm (vp_in v2 t_brings_N) (asm (vp_in v2 t_first_N) (if v1 = 0 then (
g_Mo_fresh_53 F rec2 t_missing_N t_pieces (upd t_came_F v2.toNatClampNeg 0) (upd t_width_F v2.toNatClampNeg 3) (upd t_brings_F v2.toNatClampNeg 0) (upd t_first_F v2.toNatClampNeg (-1)) t_missing_F t_owner_F t_length_F t_told_F v1 v2 0 v2) else (
g_Mo_fresh_53 F rec2 t_missing_N t_pieces (upd t_came_F v2.toNatClampNeg 0) (upd t_width_F v2.toNatClampNeg 3) (upd t_brings_F v2.toNatClampNeg 0) (upd t_first_F v2.toNatClampNeg (-1)) t_missing_F t_owner_F t_length_F t_told_F v1 v2 (-1) v2))))))
noncomputable def f_Mo_fresh_2 (F : Nat) (t_came_N : Nat) (t_width_N : Nat) (t_brings_N : Nat) (t_first_N : Nat) (t_missing_N : Nat) (t_owner_N : Nat) (t_length_N : Nat) (t_told_N : Nat) : Nat → Int32 → (Nat → Int32) → (Nat → Int32) → (Nat → Int32) → (Nat → Int32) → (Nat → Int32) → (Nat → Int32) → (Nat → Int32) → (Nat → Int32) → Int32 → Int32 → Option (Int32 × (Nat → Int32) × (Nat → Int32) × (Nat → Int32) × (Nat → Int32) × (Nat → Int32) × (Nat → Int32) × (Nat → Int32) × (Nat → Int32))
  | 0 => fun _ _ _ _ _ _ _ _ _ _ _ => none
  | n + 1 => fun t_pieces t_came_F t_width_F t_brings_F t_first_F t_missing_F t_owner_F t_length_F t_told_F v1 v2 => g_Mo_fresh_2 F (f_Mo_fresh_2 F t_came_N t_width_N t_brings_N t_first_N t_missing_N t_owner_N t_length_N t_told_N n) t_came_N t_width_N t_brings_N t_first_N t_missing_N t_owner_N t_length_N t_told_N t_pieces t_came_F t_width_F t_brings_F t_first_F t_missing_F t_owner_F t_length_F t_told_F v1 v2
noncomputable def f_Mo_fresh (F : Nat) (t_pieces : Int32) (t_came_N : Nat) (t_came_F : Nat → Int32) (t_width_N : Nat) (t_width_F : Nat → Int32) (t_brings_N : Nat) (t_brings_F : Nat → Int32) (t_first_N : Nat) (t_first_F : Nat → Int32) (t_missing_N : Nat) (t_missing_F : Nat → Int32) (t_owner_N : Nat) (t_owner_F : Nat → Int32) (t_length_N : Nat) (t_length_F : Nat → Int32) (t_told_N : Nat) (t_told_F : Nat → Int32) (p0 : Int32) : Option (Int32 × (Nat → Int32) × (Nat → Int32) × (Nat → Int32) × (Nat → Int32) × (Nat → Int32) × (Nat → Int32) × (Nat → Int32) × (Nat → Int32)) :=
f_Mo_fresh_2 F t_came_N t_width_N t_brings_N t_first_N t_missing_N t_owner_N t_length_N t_told_N F t_pieces t_came_F t_width_F t_brings_F t_first_F t_missing_F t_owner_F t_length_F t_told_F p0 p0
set_option maxHeartbeats 4000000 in
set_option maxRecDepth 100000 in
theorem c_Mo_fresh (l : Launch) (dC : Nat → ClassId) (dI : Nat → Nat → Nat) (tI tB tL tZ : ClassId) (a_t : Nat) (a_t_came : Nat) (a_t_width : Nat) (a_t_brings : Nat) (a_t_first : Nat) (a_t_missing : Nat) (a_t_owner : Nat) (a_t_length : Nat) (a_t_told : Nat) (o_t_wide : Nat) (o_t_high : Nat) (o_t_begins : Nat) (o_t_bytes : Nat) (o_t_layers : Nat) (o_t_low : Nat) (o_t_known : Nat) (sz : Nat) (t_thrown : Int32) (t_style : Int32) (t_bands : Int32) (t_size : Int32) (t_pieces : Int32) (t_over : Int32) (t_writing : Int32) (t_begin : Int32) (t_end : Int32) (t_room : Int32) (t_wrong : Int32) (t_count : Int32) (t_came_N : Nat) (t_came_F : Nat → Int32) (t_width_N : Nat) (t_width_F : Nat → Int32) (t_brings_N : Nat) (t_brings_F : Nat → Int32) (t_first_N : Nat) (t_first_F : Nat → Int32) (t_missing_N : Nat) (t_missing_F : Nat → Int32) (t_owner_N : Nat) (t_owner_F : Nat → Int32) (t_length_N : Nat) (t_length_F : Nat → Int32) (t_told_N : Nat) (t_told_F : Nat → Int32) (p0 : Int32) (F : Nat) (u : Int32 × (Nat → Int32) × (Nat → Int32) × (Nat → Int32) × (Nat → Int32) × (Nat → Int32) × (Nat → Int32) × (Nat → Int32) × (Nat → Int32)) (hf : f_Mo_fresh F t_pieces t_came_N t_came_F t_width_N t_width_F t_brings_N t_brings_F t_first_N t_first_F t_missing_N t_missing_F t_owner_N t_owner_F t_length_N t_length_F t_told_N t_told_F p0 = some u) : CTv l y_Mo_fresh b_Mo_fresh 3 1 25 (dC, dI) classes [(tI, .int), (tB, .byte), (tL, .long), (tZ, .boolean)] [.ref a_t, .int p0] [(a_t, .inr (7, [.int t_thrown, .int t_style, .int t_bands, .ref o_t_wide, .ref o_t_high, .ref o_t_begins, .int t_size, .ref o_t_bytes, .ref a_t_came, .ref a_t_width, .ref a_t_brings, .ref a_t_first, .ref a_t_missing, .ref a_t_told, .int t_pieces, .ref a_t_owner, .ref a_t_length, .ref o_t_layers, .int t_over, .ref o_t_low, .ref o_t_known, .int t_writing, .int t_begin, .int t_end, .int t_room, .int t_wrong, .int t_count])), (a_t_came, .inl (tI, t_came_N, .inl t_came_F)), (a_t_width, .inl (tI, t_width_N, .inl t_width_F)), (a_t_brings, .inl (tI, t_brings_N, .inl t_brings_F)), (a_t_first, .inl (tI, t_first_N, .inl t_first_F)), (a_t_missing, .inl (tI, t_missing_N, .inl t_missing_F)), (a_t_owner, .inl (tI, t_owner_N, .inl t_owner_F)), (a_t_length, .inl (tI, t_length_N, .inl t_length_F)), (a_t_told, .inl (tI, t_told_N, .inl t_told_F))] sz (fun q : Unit => [(a_t, .inr (7, [.int t_thrown, .int t_style, .int t_bands, .ref o_t_wide, .ref o_t_high, .ref o_t_begins, .int t_size, .ref o_t_bytes, .ref a_t_came, .ref a_t_width, .ref a_t_brings, .ref a_t_first, .ref a_t_missing, .ref a_t_told, .int u.1, .ref a_t_owner, .ref a_t_length, .ref o_t_layers, .int t_over, .ref o_t_low, .ref o_t_known, .int t_writing, .int t_begin, .int t_end, .int t_room, .int t_wrong, .int t_count])), (a_t_came, .inl (tI, t_came_N, .inl u.2.1)), (a_t_width, .inl (tI, t_width_N, .inl u.2.2.1)), (a_t_brings, .inl (tI, t_brings_N, .inl u.2.2.2.1)), (a_t_first, .inl (tI, t_first_N, .inl u.2.2.2.2.1)), (a_t_missing, .inl (tI, t_missing_N, .inl u.2.2.2.2.2.1)), (a_t_owner, .inl (tI, t_owner_N, .inl u.2.2.2.2.2.2.1)), (a_t_length, .inl (tI, t_length_N, .inl u.2.2.2.2.2.2.2.1)), (a_t_told, .inl (tI, t_told_N, .inl u.2.2.2.2.2.2.2.2))]) 0 0 := by
  refine mk_v (by decide) (Nat.le_of_ble_eq_true rfl) ?_
  intro p e s m args below meth c ls A Q hx hb hml hts hown hin hK hN hP hD hA hl ret
  obtain ⟨H, hH⟩ : ∃ H : Heap, H = s.heap := ⟨_, rfl⟩
  have hS : va_S A s.heap H [] := by rw [hH]; exact va_S.rf
  rw [← hH] at hP ⊢
  have hl : lv_has ls 3 [(0, .ref a_t), (1, .int p0)] := hl
  have k_53 : ∀ (rec2 : Int32 → (Nat → Int32) → (Nat → Int32) → (Nat → Int32) → (Nat → Int32) → (Nat → Int32) → (Nat → Int32) → (Nat → Int32) → (Nat → Int32) → Int32 → Int32 → Option (Int32 × (Nat → Int32) × (Nat → Int32) × (Nat → Int32) × (Nat → Int32) × (Nat → Int32) × (Nat → Int32) × (Nat → Int32) × (Nat → Int32))), (∀ (t_pieces : Int32) (t_came_F : Nat → Int32) (t_width_F : Nat → Int32) (t_brings_F : Nat → Int32) (t_first_F : Nat → Int32) (t_missing_F : Nat → Int32) (t_owner_F : Nat → Int32) (t_length_F : Nat → Int32) (t_told_F : Nat → Int32) (v1 : Int32) (v2 : Int32) (H : Heap) (locs : List Loc) (cells slots : Nat) (ls : Array Slot), va_P (dC, dI) classes [(a_t, .inr (7, [.int t_thrown, .int t_style, .int t_bands, .ref o_t_wide, .ref o_t_high, .ref o_t_begins, .int t_size, .ref o_t_bytes, .ref a_t_came, .ref a_t_width, .ref a_t_brings, .ref a_t_first, .ref a_t_missing, .ref a_t_told, .int t_pieces, .ref a_t_owner, .ref a_t_length, .ref o_t_layers, .int t_over, .ref o_t_low, .ref o_t_known, .int t_writing, .int t_begin, .int t_end, .int t_room, .int t_wrong, .int t_count])), (a_t_came, .inl (tI, t_came_N, .inl t_came_F)), (a_t_width, .inl (tI, t_width_N, .inl t_width_F)), (a_t_brings, .inl (tI, t_brings_N, .inl t_brings_F)), (a_t_first, .inl (tI, t_first_N, .inl t_first_F)), (a_t_missing, .inl (tI, t_missing_N, .inl t_missing_F)), (a_t_owner, .inl (tI, t_owner_N, .inl t_owner_F)), (a_t_length, .inl (tI, t_length_N, .inl t_length_F)), (a_t_told, .inl (tI, t_told_N, .inl t_told_F))] H → va_D A [(a_t, .inr (7, [.int t_thrown, .int t_style, .int t_bands, .ref o_t_wide, .ref o_t_high, .ref o_t_begins, .int t_size, .ref o_t_bytes, .ref a_t_came, .ref a_t_width, .ref a_t_brings, .ref a_t_first, .ref a_t_missing, .ref a_t_told, .int t_pieces, .ref a_t_owner, .ref a_t_length, .ref o_t_layers, .int t_over, .ref o_t_low, .ref o_t_known, .int t_writing, .int t_begin, .int t_end, .int t_room, .int t_wrong, .int t_count])), (a_t_came, .inl (tI, t_came_N, .inl t_came_F)), (a_t_width, .inl (tI, t_width_N, .inl t_width_F)), (a_t_brings, .inl (tI, t_brings_N, .inl t_brings_F)), (a_t_first, .inl (tI, t_first_N, .inl t_first_F)), (a_t_missing, .inl (tI, t_missing_N, .inl t_missing_F)), (a_t_owner, .inl (tI, t_owner_N, .inl t_owner_F)), (a_t_length, .inl (tI, t_length_N, .inl t_length_F)), (a_t_told, .inl (tI, t_told_N, .inl t_told_F))] → va_S A s.heap H locs → lv_has ls 3 [(0, .ref a_t), (1, .int v1), (2, .int v2)] → (cells ≤ 0 ∧ slots ≤ 0) → rec2 t_pieces t_came_F t_width_F t_brings_F t_first_F t_missing_F t_owner_F t_length_F t_told_F v1 v2 = some u → W p l e ({ frames := 1, cells := 0, slots := 0, locals := 25 } : Room) s m args below meth c H locs cells slots Q (F0 m 2 ls [])) → ∀ (t_pieces : Int32) (t_came_F : Nat → Int32) (t_width_F : Nat → Int32) (t_brings_F : Nat → Int32) (t_first_F : Nat → Int32) (t_missing_F : Nat → Int32) (t_owner_F : Nat → Int32) (t_length_F : Nat → Int32) (t_told_F : Nat → Int32) (v1 : Int32) (v2 : Int32) (s0 : Int32) (s1 : Int32) (H : Heap) (locs : List Loc) (cells slots : Nat) (ls : Array Slot), va_P (dC, dI) classes [(a_t, .inr (7, [.int t_thrown, .int t_style, .int t_bands, .ref o_t_wide, .ref o_t_high, .ref o_t_begins, .int t_size, .ref o_t_bytes, .ref a_t_came, .ref a_t_width, .ref a_t_brings, .ref a_t_first, .ref a_t_missing, .ref a_t_told, .int t_pieces, .ref a_t_owner, .ref a_t_length, .ref o_t_layers, .int t_over, .ref o_t_low, .ref o_t_known, .int t_writing, .int t_begin, .int t_end, .int t_room, .int t_wrong, .int t_count])), (a_t_came, .inl (tI, t_came_N, .inl t_came_F)), (a_t_width, .inl (tI, t_width_N, .inl t_width_F)), (a_t_brings, .inl (tI, t_brings_N, .inl t_brings_F)), (a_t_first, .inl (tI, t_first_N, .inl t_first_F)), (a_t_missing, .inl (tI, t_missing_N, .inl t_missing_F)), (a_t_owner, .inl (tI, t_owner_N, .inl t_owner_F)), (a_t_length, .inl (tI, t_length_N, .inl t_length_F)), (a_t_told, .inl (tI, t_told_N, .inl t_told_F))] H → va_D A [(a_t, .inr (7, [.int t_thrown, .int t_style, .int t_bands, .ref o_t_wide, .ref o_t_high, .ref o_t_begins, .int t_size, .ref o_t_bytes, .ref a_t_came, .ref a_t_width, .ref a_t_brings, .ref a_t_first, .ref a_t_missing, .ref a_t_told, .int t_pieces, .ref a_t_owner, .ref a_t_length, .ref o_t_layers, .int t_over, .ref o_t_low, .ref o_t_known, .int t_writing, .int t_begin, .int t_end, .int t_room, .int t_wrong, .int t_count])), (a_t_came, .inl (tI, t_came_N, .inl t_came_F)), (a_t_width, .inl (tI, t_width_N, .inl t_width_F)), (a_t_brings, .inl (tI, t_brings_N, .inl t_brings_F)), (a_t_first, .inl (tI, t_first_N, .inl t_first_F)), (a_t_missing, .inl (tI, t_missing_N, .inl t_missing_F)), (a_t_owner, .inl (tI, t_owner_N, .inl t_owner_F)), (a_t_length, .inl (tI, t_length_N, .inl t_length_F)), (a_t_told, .inl (tI, t_told_N, .inl t_told_F))] → va_S A s.heap H locs → lv_has ls 3 [(0, .ref a_t), (1, .int v1), (2, .int v2)] → (cells ≤ 0 ∧ slots ≤ 0) → g_Mo_fresh_53 F rec2 t_missing_N t_pieces t_came_F t_width_F t_brings_F t_first_F t_missing_F t_owner_F t_length_F t_told_F v1 v2 s0 s1 = some u → W p l e ({ frames := 1, cells := 0, slots := 0, locals := 25 } : Room) s m args below meth c H locs cells slots Q (F0 m 53 ls [.int s0, .int s1, .ref a_t_missing]) := by
    intro rec2 h2 t_pieces t_came_F t_width_F t_brings_F t_first_F t_missing_F t_owner_F t_length_F t_told_F v1 v2 s0 s1 H locs cells slots ls hP hD hS hl hc hf
    unfold g_Mo_fresh_53 at hf
    obtain ⟨hin9, hf⟩ := asm_of hf
    refine va_iast hx hb hK hP hD hS 5 0 rfl rfl hin9 d_Mo_fresh_53 (fun H locs hP hD hS => ?_)
    have hP : va_P (dC, dI) classes [(a_t, .inr (7, [.int t_thrown, .int t_style, .int t_bands, .ref o_t_wide, .ref o_t_high, .ref o_t_begins, .int t_size, .ref o_t_bytes, .ref a_t_came, .ref a_t_width, .ref a_t_brings, .ref a_t_first, .ref a_t_missing, .ref a_t_told, .int t_pieces, .ref a_t_owner, .ref a_t_length, .ref o_t_layers, .int t_over, .ref o_t_low, .ref o_t_known, .int t_writing, .int t_begin, .int t_end, .int t_room, .int t_wrong, .int t_count])), (a_t_came, .inl (tI, t_came_N, .inl t_came_F)), (a_t_width, .inl (tI, t_width_N, .inl t_width_F)), (a_t_brings, .inl (tI, t_brings_N, .inl t_brings_F)), (a_t_first, .inl (tI, t_first_N, .inl t_first_F)), (a_t_missing, .inl (tI, t_missing_N, .inl (upd t_missing_F s1.toNatClampNeg s0))), (a_t_owner, .inl (tI, t_owner_N, .inl t_owner_F)), (a_t_length, .inl (tI, t_length_N, .inl t_length_F)), (a_t_told, .inl (tI, t_told_N, .inl t_told_F))] H := hP
    have hD : va_D A [(a_t, .inr (7, [.int t_thrown, .int t_style, .int t_bands, .ref o_t_wide, .ref o_t_high, .ref o_t_begins, .int t_size, .ref o_t_bytes, .ref a_t_came, .ref a_t_width, .ref a_t_brings, .ref a_t_first, .ref a_t_missing, .ref a_t_told, .int t_pieces, .ref a_t_owner, .ref a_t_length, .ref o_t_layers, .int t_over, .ref o_t_low, .ref o_t_known, .int t_writing, .int t_begin, .int t_end, .int t_room, .int t_wrong, .int t_count])), (a_t_came, .inl (tI, t_came_N, .inl t_came_F)), (a_t_width, .inl (tI, t_width_N, .inl t_width_F)), (a_t_brings, .inl (tI, t_brings_N, .inl t_brings_F)), (a_t_first, .inl (tI, t_first_N, .inl t_first_F)), (a_t_missing, .inl (tI, t_missing_N, .inl (upd t_missing_F s1.toNatClampNeg s0))), (a_t_owner, .inl (tI, t_owner_N, .inl t_owner_F)), (a_t_length, .inl (tI, t_length_N, .inl t_length_F)), (a_t_told, .inl (tI, t_told_N, .inl t_told_F))] := hD
    obtain ⟨x5, ex5⟩ : ∃ y : Int32, y = v2 + 1 := ⟨_, rfl⟩
    have hf := letb_of hf ex5
    refine lv_iinc (v := x5) (lv' := [(2, .int x5), (0, .ref a_t), (1, .int v1)]) hx hb d_Mo_fresh_54 hl (k := 2) rfl (by rw [ex5]; rfl) (by decide) rfl (fun ls hl => ?_)
    refine lv_goto (tgt := 2) hx hb d_Mo_fresh_57 (by decide) ?_
    exact h2 t_pieces t_came_F t_width_F t_brings_F t_first_F (upd t_missing_F s1.toNatClampNeg s0) t_owner_F t_length_F t_told_F v1 x5 _ _ _ _ ls hP hD hS (lv_sub hl [1, 2, 0] rfl) hc hf
  have k_2 : ∀ n : Nat, ∀ (t_pieces : Int32) (t_came_F : Nat → Int32) (t_width_F : Nat → Int32) (t_brings_F : Nat → Int32) (t_first_F : Nat → Int32) (t_missing_F : Nat → Int32) (t_owner_F : Nat → Int32) (t_length_F : Nat → Int32) (t_told_F : Nat → Int32) (v1 : Int32) (v2 : Int32) (H : Heap) (locs : List Loc) (cells slots : Nat) (ls : Array Slot), va_P (dC, dI) classes [(a_t, .inr (7, [.int t_thrown, .int t_style, .int t_bands, .ref o_t_wide, .ref o_t_high, .ref o_t_begins, .int t_size, .ref o_t_bytes, .ref a_t_came, .ref a_t_width, .ref a_t_brings, .ref a_t_first, .ref a_t_missing, .ref a_t_told, .int t_pieces, .ref a_t_owner, .ref a_t_length, .ref o_t_layers, .int t_over, .ref o_t_low, .ref o_t_known, .int t_writing, .int t_begin, .int t_end, .int t_room, .int t_wrong, .int t_count])), (a_t_came, .inl (tI, t_came_N, .inl t_came_F)), (a_t_width, .inl (tI, t_width_N, .inl t_width_F)), (a_t_brings, .inl (tI, t_brings_N, .inl t_brings_F)), (a_t_first, .inl (tI, t_first_N, .inl t_first_F)), (a_t_missing, .inl (tI, t_missing_N, .inl t_missing_F)), (a_t_owner, .inl (tI, t_owner_N, .inl t_owner_F)), (a_t_length, .inl (tI, t_length_N, .inl t_length_F)), (a_t_told, .inl (tI, t_told_N, .inl t_told_F))] H → va_D A [(a_t, .inr (7, [.int t_thrown, .int t_style, .int t_bands, .ref o_t_wide, .ref o_t_high, .ref o_t_begins, .int t_size, .ref o_t_bytes, .ref a_t_came, .ref a_t_width, .ref a_t_brings, .ref a_t_first, .ref a_t_missing, .ref a_t_told, .int t_pieces, .ref a_t_owner, .ref a_t_length, .ref o_t_layers, .int t_over, .ref o_t_low, .ref o_t_known, .int t_writing, .int t_begin, .int t_end, .int t_room, .int t_wrong, .int t_count])), (a_t_came, .inl (tI, t_came_N, .inl t_came_F)), (a_t_width, .inl (tI, t_width_N, .inl t_width_F)), (a_t_brings, .inl (tI, t_brings_N, .inl t_brings_F)), (a_t_first, .inl (tI, t_first_N, .inl t_first_F)), (a_t_missing, .inl (tI, t_missing_N, .inl t_missing_F)), (a_t_owner, .inl (tI, t_owner_N, .inl t_owner_F)), (a_t_length, .inl (tI, t_length_N, .inl t_length_F)), (a_t_told, .inl (tI, t_told_N, .inl t_told_F))] → va_S A s.heap H locs → lv_has ls 3 [(0, .ref a_t), (1, .int v1), (2, .int v2)] → (cells ≤ 0 ∧ slots ≤ 0) → f_Mo_fresh_2 F t_came_N t_width_N t_brings_N t_first_N t_missing_N t_owner_N t_length_N t_told_N n t_pieces t_came_F t_width_F t_brings_F t_first_F t_missing_F t_owner_F t_length_F t_told_F v1 v2 = some u → W p l e ({ frames := 1, cells := 0, slots := 0, locals := 25 } : Room) s m args below meth c H locs cells slots Q (F0 m 2 ls []) := by
    intro n
    induction n with
    | zero => intro t_pieces t_came_F t_width_F t_brings_F t_first_F t_missing_F t_owner_F t_length_F t_told_F v1 v2 H locs cells slots ls hP hD hS hl hc hf; exact absurd hf (by intro h9; cases h9)
    | succ n h2 =>
      intro t_pieces t_came_F t_width_F t_brings_F t_first_F t_missing_F t_owner_F t_length_F t_told_F v1 v2 H locs cells slots ls hP hD hS hl hc hf
      have hf : g_Mo_fresh_2 F (f_Mo_fresh_2 F t_came_N t_width_N t_brings_N t_first_N t_missing_N t_owner_N t_length_N t_told_N n) t_came_N t_width_N t_brings_N t_first_N t_missing_N t_owner_N t_length_N t_told_N t_pieces t_came_F t_width_F t_brings_F t_first_F t_missing_F t_owner_F t_length_F t_told_F v1 v2 = some u := hf
      generalize (f_Mo_fresh_2 F t_came_N t_width_N t_brings_N t_first_N t_missing_N t_owner_N t_length_N t_told_N n) = rec2 at hf h2
      unfold g_Mo_fresh_2 at hf
      refine lv_iload_n hx hb d_Mo_fresh_2 rfl (lv_at hl 2 rfl) ?_
      refine lv_iload_n hx hb d_Mo_fresh_3 rfl (lv_at hl 1 rfl) ?_
      refine lv_sipush (v := 1024) hx hb d_Mo_fresh_4 (by decide) ?_
      refine lv_iadd hx hb d_Mo_fresh_7 ?_
      refine lv_topi (fun x6 ex6 => ?_)
      have hf := letb_of hf ex6
      refine lv_icmp_ge (tgt := 60) hx hb d_Mo_fresh_8 (by decide) (fun c0 => ?_) (fun c0 => ?_)
      · have hf := ite_t c0 hf
        refine lv_aload_n hx hb d_Mo_fresh_60 rfl (lv_at hl 0 rfl) ?_
        refine lv_iload_n hx hb d_Mo_fresh_61 rfl (lv_at hl 1 rfl) ?_
        refine lv_iload_n hx hb d_Mo_fresh_62 rfl (lv_at hl 1 rfl) ?_
        refine lv_sipush (v := 1024) hx hb d_Mo_fresh_63 (by decide) ?_
        refine lv_iadd hx hb d_Mo_fresh_66 ?_
        refine lv_topi (fun x7 ex7 => ?_)
        have hf := letb_of hf ex7
        obtain ⟨u8, hu, hf⟩ := bd_of hf
        refine jn_v (wc := [(a_t, .inr (7, [.int t_thrown, .int t_style, .int t_bands, .ref o_t_wide, .ref o_t_high, .ref o_t_begins, .int t_size, .ref o_t_bytes, .ref a_t_came, .ref a_t_width, .ref a_t_brings, .ref a_t_first, .ref a_t_missing, .ref a_t_told, .int t_pieces, .ref a_t_owner, .ref a_t_length, .ref o_t_layers, .int t_over, .ref o_t_low, .ref o_t_known, .int t_writing, .int t_begin, .int t_end, .int t_room, .int t_wrong, .int t_count])), (a_t_owner, .inl (tI, t_owner_N, .inl t_owner_F)), (a_t_length, .inl (tI, t_length_N, .inl t_length_F)), (a_t_told, .inl (tI, t_told_N, .inl t_told_F))]) (wr := [(a_t_came, .inl (tI, t_came_N, .inl t_came_F)), (a_t_width, .inl (tI, t_width_N, .inl t_width_F)), (a_t_brings, .inl (tI, t_brings_N, .inl t_brings_F)), (a_t_first, .inl (tI, t_first_N, .inl t_first_F)), (a_t_missing, .inl (tI, t_missing_N, .inl t_missing_F))]) (va_runV (As := [.int v1, .int x7]) (rest := []) ⟨hx, hb, hml, hown, hts⟩ (c_Mo_forget l dC dI tI tB tL tZ a_t a_t_owner a_t_length a_t_told o_t_wide o_t_high o_t_begins o_t_bytes a_t_came a_t_width a_t_brings a_t_first a_t_missing o_t_layers o_t_low o_t_known H.size t_thrown t_style t_bands t_size t_pieces t_over t_writing t_begin t_end t_room t_wrong t_count t_owner_N t_owner_F t_length_N t_length_F t_told_N t_told_F v1 x7 F u8 hu) (cv_of hts q_215 q_214 q_213 q_216 q_217 hd_Mo_forget ⟨Nat.le_of_ble_eq_true rfl, Nat.le_of_ble_eq_true rfl⟩) (pr_V (ci := 7) (C := R_Mo) (q0 := 0) hK hN (hP.sub [0, 6, 7, 8] rfl) (hD.sub [0, 6, 7, 8] (by decide) rfl) rfl rfl) rfl rfl hl.1 rfl (lv_room (Nat.le_of_ble_eq_true rfl)) d_Mo_fresh_67 hc) hP hD hS hA [0, 6, 7, 8] [1, 2, 3, 4, 5] rfl rfl (by decide) (by decide) (fun _ H locs hP hD hS => ?_)
        have hP : va_P (dC, dI) classes [(a_t_came, .inl (tI, t_came_N, .inl t_came_F)), (a_t_width, .inl (tI, t_width_N, .inl t_width_F)), (a_t_brings, .inl (tI, t_brings_N, .inl t_brings_F)), (a_t_first, .inl (tI, t_first_N, .inl t_first_F)), (a_t_missing, .inl (tI, t_missing_N, .inl t_missing_F)), (a_t, .inr (7, [.int t_thrown, .int t_style, .int t_bands, .ref o_t_wide, .ref o_t_high, .ref o_t_begins, .int t_size, .ref o_t_bytes, .ref a_t_came, .ref a_t_width, .ref a_t_brings, .ref a_t_first, .ref a_t_missing, .ref a_t_told, .int u8.1, .ref a_t_owner, .ref a_t_length, .ref o_t_layers, .int t_over, .ref o_t_low, .ref o_t_known, .int t_writing, .int t_begin, .int t_end, .int t_room, .int t_wrong, .int t_count])), (a_t_owner, .inl (tI, t_owner_N, .inl u8.2.1)), (a_t_length, .inl (tI, t_length_N, .inl u8.2.2.1)), (a_t_told, .inl (tI, t_told_N, .inl u8.2.2.2))] H := hP
        have hD : va_D A [(a_t_came, .inl (tI, t_came_N, .inl t_came_F)), (a_t_width, .inl (tI, t_width_N, .inl t_width_F)), (a_t_brings, .inl (tI, t_brings_N, .inl t_brings_F)), (a_t_first, .inl (tI, t_first_N, .inl t_first_F)), (a_t_missing, .inl (tI, t_missing_N, .inl t_missing_F)), (a_t, .inr (7, [.int t_thrown, .int t_style, .int t_bands, .ref o_t_wide, .ref o_t_high, .ref o_t_begins, .int t_size, .ref o_t_bytes, .ref a_t_came, .ref a_t_width, .ref a_t_brings, .ref a_t_first, .ref a_t_missing, .ref a_t_told, .int u8.1, .ref a_t_owner, .ref a_t_length, .ref o_t_layers, .int t_over, .ref o_t_low, .ref o_t_known, .int t_writing, .int t_begin, .int t_end, .int t_room, .int t_wrong, .int t_count])), (a_t_owner, .inl (tI, t_owner_N, .inl u8.2.1)), (a_t_length, .inl (tI, t_length_N, .inl u8.2.2.1)), (a_t_told, .inl (tI, t_told_N, .inl u8.2.2.2))] := hD
        have hf := Option.some.inj hf
        subst u
        exact ret _ _ _ _ _ _ () d_Mo_fresh_70 (hP.sub [5, 0, 1, 2, 3, 4, 6, 7, 8] rfl) (hD.sub [5, 0, 1, 2, 3, 4, 6, 7, 8] (by decide) rfl) hS hc.1 hc.2
      · have hf := ite_f c0 hf
        refine lv_aload_n hx hb d_Mo_fresh_11 rfl (lv_at hl 0 rfl) ?_
        refine va_get (D := (dC, dI)) (ci := 7) (v := .ref a_t_came) (C := R_Mo) (T := F_Mo) (N := 27) hx hb hts i_Mo hown hK hP 0 rfl rfl 8 (by decide) (hts _ q_218) (fun _ h9 => h9) rfl d_Mo_fresh_12 ?_
        refine lv_iload_n hx hb d_Mo_fresh_15 rfl (lv_at hl 2 rfl) ?_
        refine lv_iconst (v := 0) hx hb d_Mo_fresh_16 (by decide) ?_
        obtain ⟨hin9, hf⟩ := asm_of hf
        refine va_iast hx hb hK hP hD hS 1 0 rfl rfl hin9 d_Mo_fresh_17 (fun H locs hP hD hS => ?_)
        have hP : va_P (dC, dI) classes [(a_t, .inr (7, [.int t_thrown, .int t_style, .int t_bands, .ref o_t_wide, .ref o_t_high, .ref o_t_begins, .int t_size, .ref o_t_bytes, .ref a_t_came, .ref a_t_width, .ref a_t_brings, .ref a_t_first, .ref a_t_missing, .ref a_t_told, .int t_pieces, .ref a_t_owner, .ref a_t_length, .ref o_t_layers, .int t_over, .ref o_t_low, .ref o_t_known, .int t_writing, .int t_begin, .int t_end, .int t_room, .int t_wrong, .int t_count])), (a_t_came, .inl (tI, t_came_N, .inl (upd t_came_F v2.toNatClampNeg 0))), (a_t_width, .inl (tI, t_width_N, .inl t_width_F)), (a_t_brings, .inl (tI, t_brings_N, .inl t_brings_F)), (a_t_first, .inl (tI, t_first_N, .inl t_first_F)), (a_t_missing, .inl (tI, t_missing_N, .inl t_missing_F)), (a_t_owner, .inl (tI, t_owner_N, .inl t_owner_F)), (a_t_length, .inl (tI, t_length_N, .inl t_length_F)), (a_t_told, .inl (tI, t_told_N, .inl t_told_F))] H := hP
        have hD : va_D A [(a_t, .inr (7, [.int t_thrown, .int t_style, .int t_bands, .ref o_t_wide, .ref o_t_high, .ref o_t_begins, .int t_size, .ref o_t_bytes, .ref a_t_came, .ref a_t_width, .ref a_t_brings, .ref a_t_first, .ref a_t_missing, .ref a_t_told, .int t_pieces, .ref a_t_owner, .ref a_t_length, .ref o_t_layers, .int t_over, .ref o_t_low, .ref o_t_known, .int t_writing, .int t_begin, .int t_end, .int t_room, .int t_wrong, .int t_count])), (a_t_came, .inl (tI, t_came_N, .inl (upd t_came_F v2.toNatClampNeg 0))), (a_t_width, .inl (tI, t_width_N, .inl t_width_F)), (a_t_brings, .inl (tI, t_brings_N, .inl t_brings_F)), (a_t_first, .inl (tI, t_first_N, .inl t_first_F)), (a_t_missing, .inl (tI, t_missing_N, .inl t_missing_F)), (a_t_owner, .inl (tI, t_owner_N, .inl t_owner_F)), (a_t_length, .inl (tI, t_length_N, .inl t_length_F)), (a_t_told, .inl (tI, t_told_N, .inl t_told_F))] := hD
        refine lv_aload_n hx hb d_Mo_fresh_18 rfl (lv_at hl 0 rfl) ?_
        refine va_get (D := (dC, dI)) (ci := 7) (v := .ref a_t_width) (C := R_Mo) (T := F_Mo) (N := 27) hx hb hts i_Mo hown hK hP 0 rfl rfl 9 (by decide) (hts _ q_219) (fun _ h9 => h9) rfl d_Mo_fresh_19 ?_
        refine lv_iload_n hx hb d_Mo_fresh_22 rfl (lv_at hl 2 rfl) ?_
        refine lv_iconst (v := 3) hx hb d_Mo_fresh_23 (by decide) ?_
        obtain ⟨hin9, hf⟩ := asm_of hf
        refine va_iast hx hb hK hP hD hS 2 0 rfl rfl hin9 d_Mo_fresh_24 (fun H locs hP hD hS => ?_)
        have hP : va_P (dC, dI) classes [(a_t, .inr (7, [.int t_thrown, .int t_style, .int t_bands, .ref o_t_wide, .ref o_t_high, .ref o_t_begins, .int t_size, .ref o_t_bytes, .ref a_t_came, .ref a_t_width, .ref a_t_brings, .ref a_t_first, .ref a_t_missing, .ref a_t_told, .int t_pieces, .ref a_t_owner, .ref a_t_length, .ref o_t_layers, .int t_over, .ref o_t_low, .ref o_t_known, .int t_writing, .int t_begin, .int t_end, .int t_room, .int t_wrong, .int t_count])), (a_t_came, .inl (tI, t_came_N, .inl (upd t_came_F v2.toNatClampNeg 0))), (a_t_width, .inl (tI, t_width_N, .inl (upd t_width_F v2.toNatClampNeg 3))), (a_t_brings, .inl (tI, t_brings_N, .inl t_brings_F)), (a_t_first, .inl (tI, t_first_N, .inl t_first_F)), (a_t_missing, .inl (tI, t_missing_N, .inl t_missing_F)), (a_t_owner, .inl (tI, t_owner_N, .inl t_owner_F)), (a_t_length, .inl (tI, t_length_N, .inl t_length_F)), (a_t_told, .inl (tI, t_told_N, .inl t_told_F))] H := hP
        have hD : va_D A [(a_t, .inr (7, [.int t_thrown, .int t_style, .int t_bands, .ref o_t_wide, .ref o_t_high, .ref o_t_begins, .int t_size, .ref o_t_bytes, .ref a_t_came, .ref a_t_width, .ref a_t_brings, .ref a_t_first, .ref a_t_missing, .ref a_t_told, .int t_pieces, .ref a_t_owner, .ref a_t_length, .ref o_t_layers, .int t_over, .ref o_t_low, .ref o_t_known, .int t_writing, .int t_begin, .int t_end, .int t_room, .int t_wrong, .int t_count])), (a_t_came, .inl (tI, t_came_N, .inl (upd t_came_F v2.toNatClampNeg 0))), (a_t_width, .inl (tI, t_width_N, .inl (upd t_width_F v2.toNatClampNeg 3))), (a_t_brings, .inl (tI, t_brings_N, .inl t_brings_F)), (a_t_first, .inl (tI, t_first_N, .inl t_first_F)), (a_t_missing, .inl (tI, t_missing_N, .inl t_missing_F)), (a_t_owner, .inl (tI, t_owner_N, .inl t_owner_F)), (a_t_length, .inl (tI, t_length_N, .inl t_length_F)), (a_t_told, .inl (tI, t_told_N, .inl t_told_F))] := hD
        refine lv_aload_n hx hb d_Mo_fresh_25 rfl (lv_at hl 0 rfl) ?_
        refine va_get (D := (dC, dI)) (ci := 7) (v := .ref a_t_brings) (C := R_Mo) (T := F_Mo) (N := 27) hx hb hts i_Mo hown hK hP 0 rfl rfl 10 (by decide) (hts _ q_220) (fun _ h9 => h9) rfl d_Mo_fresh_26 ?_
        refine lv_iload_n hx hb d_Mo_fresh_29 rfl (lv_at hl 2 rfl) ?_
        refine lv_iconst (v := 0) hx hb d_Mo_fresh_30 (by decide) ?_
        obtain ⟨hin9, hf⟩ := asm_of hf
        refine va_iast hx hb hK hP hD hS 3 0 rfl rfl hin9 d_Mo_fresh_31 (fun H locs hP hD hS => ?_)
        have hP : va_P (dC, dI) classes [(a_t, .inr (7, [.int t_thrown, .int t_style, .int t_bands, .ref o_t_wide, .ref o_t_high, .ref o_t_begins, .int t_size, .ref o_t_bytes, .ref a_t_came, .ref a_t_width, .ref a_t_brings, .ref a_t_first, .ref a_t_missing, .ref a_t_told, .int t_pieces, .ref a_t_owner, .ref a_t_length, .ref o_t_layers, .int t_over, .ref o_t_low, .ref o_t_known, .int t_writing, .int t_begin, .int t_end, .int t_room, .int t_wrong, .int t_count])), (a_t_came, .inl (tI, t_came_N, .inl (upd t_came_F v2.toNatClampNeg 0))), (a_t_width, .inl (tI, t_width_N, .inl (upd t_width_F v2.toNatClampNeg 3))), (a_t_brings, .inl (tI, t_brings_N, .inl (upd t_brings_F v2.toNatClampNeg 0))), (a_t_first, .inl (tI, t_first_N, .inl t_first_F)), (a_t_missing, .inl (tI, t_missing_N, .inl t_missing_F)), (a_t_owner, .inl (tI, t_owner_N, .inl t_owner_F)), (a_t_length, .inl (tI, t_length_N, .inl t_length_F)), (a_t_told, .inl (tI, t_told_N, .inl t_told_F))] H := hP
        have hD : va_D A [(a_t, .inr (7, [.int t_thrown, .int t_style, .int t_bands, .ref o_t_wide, .ref o_t_high, .ref o_t_begins, .int t_size, .ref o_t_bytes, .ref a_t_came, .ref a_t_width, .ref a_t_brings, .ref a_t_first, .ref a_t_missing, .ref a_t_told, .int t_pieces, .ref a_t_owner, .ref a_t_length, .ref o_t_layers, .int t_over, .ref o_t_low, .ref o_t_known, .int t_writing, .int t_begin, .int t_end, .int t_room, .int t_wrong, .int t_count])), (a_t_came, .inl (tI, t_came_N, .inl (upd t_came_F v2.toNatClampNeg 0))), (a_t_width, .inl (tI, t_width_N, .inl (upd t_width_F v2.toNatClampNeg 3))), (a_t_brings, .inl (tI, t_brings_N, .inl (upd t_brings_F v2.toNatClampNeg 0))), (a_t_first, .inl (tI, t_first_N, .inl t_first_F)), (a_t_missing, .inl (tI, t_missing_N, .inl t_missing_F)), (a_t_owner, .inl (tI, t_owner_N, .inl t_owner_F)), (a_t_length, .inl (tI, t_length_N, .inl t_length_F)), (a_t_told, .inl (tI, t_told_N, .inl t_told_F))] := hD
        refine lv_aload_n hx hb d_Mo_fresh_32 rfl (lv_at hl 0 rfl) ?_
        refine va_get (D := (dC, dI)) (ci := 7) (v := .ref a_t_first) (C := R_Mo) (T := F_Mo) (N := 27) hx hb hts i_Mo hown hK hP 0 rfl rfl 11 (by decide) (hts _ q_221) (fun _ h9 => h9) rfl d_Mo_fresh_33 ?_
        refine lv_iload_n hx hb d_Mo_fresh_36 rfl (lv_at hl 2 rfl) ?_
        refine lv_iconst (v := (-1)) hx hb d_Mo_fresh_37 (by decide) ?_
        obtain ⟨hin9, hf⟩ := asm_of hf
        refine va_iast hx hb hK hP hD hS 4 0 rfl rfl hin9 d_Mo_fresh_38 (fun H locs hP hD hS => ?_)
        have hP : va_P (dC, dI) classes [(a_t, .inr (7, [.int t_thrown, .int t_style, .int t_bands, .ref o_t_wide, .ref o_t_high, .ref o_t_begins, .int t_size, .ref o_t_bytes, .ref a_t_came, .ref a_t_width, .ref a_t_brings, .ref a_t_first, .ref a_t_missing, .ref a_t_told, .int t_pieces, .ref a_t_owner, .ref a_t_length, .ref o_t_layers, .int t_over, .ref o_t_low, .ref o_t_known, .int t_writing, .int t_begin, .int t_end, .int t_room, .int t_wrong, .int t_count])), (a_t_came, .inl (tI, t_came_N, .inl (upd t_came_F v2.toNatClampNeg 0))), (a_t_width, .inl (tI, t_width_N, .inl (upd t_width_F v2.toNatClampNeg 3))), (a_t_brings, .inl (tI, t_brings_N, .inl (upd t_brings_F v2.toNatClampNeg 0))), (a_t_first, .inl (tI, t_first_N, .inl (upd t_first_F v2.toNatClampNeg (-1)))), (a_t_missing, .inl (tI, t_missing_N, .inl t_missing_F)), (a_t_owner, .inl (tI, t_owner_N, .inl t_owner_F)), (a_t_length, .inl (tI, t_length_N, .inl t_length_F)), (a_t_told, .inl (tI, t_told_N, .inl t_told_F))] H := hP
        have hD : va_D A [(a_t, .inr (7, [.int t_thrown, .int t_style, .int t_bands, .ref o_t_wide, .ref o_t_high, .ref o_t_begins, .int t_size, .ref o_t_bytes, .ref a_t_came, .ref a_t_width, .ref a_t_brings, .ref a_t_first, .ref a_t_missing, .ref a_t_told, .int t_pieces, .ref a_t_owner, .ref a_t_length, .ref o_t_layers, .int t_over, .ref o_t_low, .ref o_t_known, .int t_writing, .int t_begin, .int t_end, .int t_room, .int t_wrong, .int t_count])), (a_t_came, .inl (tI, t_came_N, .inl (upd t_came_F v2.toNatClampNeg 0))), (a_t_width, .inl (tI, t_width_N, .inl (upd t_width_F v2.toNatClampNeg 3))), (a_t_brings, .inl (tI, t_brings_N, .inl (upd t_brings_F v2.toNatClampNeg 0))), (a_t_first, .inl (tI, t_first_N, .inl (upd t_first_F v2.toNatClampNeg (-1)))), (a_t_missing, .inl (tI, t_missing_N, .inl t_missing_F)), (a_t_owner, .inl (tI, t_owner_N, .inl t_owner_F)), (a_t_length, .inl (tI, t_length_N, .inl t_length_F)), (a_t_told, .inl (tI, t_told_N, .inl t_told_F))] := hD
        refine lv_aload_n hx hb d_Mo_fresh_39 rfl (lv_at hl 0 rfl) ?_
        refine va_get (D := (dC, dI)) (ci := 7) (v := .ref a_t_missing) (C := R_Mo) (T := F_Mo) (N := 27) hx hb hts i_Mo hown hK hP 0 rfl rfl 12 (by decide) (hts _ q_222) (fun _ h9 => h9) rfl d_Mo_fresh_40 ?_
        refine lv_iload_n hx hb d_Mo_fresh_43 rfl (lv_at hl 2 rfl) ?_
        refine lv_iload_n hx hb d_Mo_fresh_44 rfl (lv_at hl 1 rfl) ?_
        refine lv_if_ne (tgt := 52) hx hb d_Mo_fresh_45 (by decide) (fun c0 => ?_) (fun c0 => ?_)
        · have hf := ite_f c0 hf
          refine lv_iconst (v := (-1)) hx hb d_Mo_fresh_52 (by decide) ?_
          exact k_53 rec2 h2 t_pieces (upd t_came_F v2.toNatClampNeg 0) (upd t_width_F v2.toNatClampNeg 3) (upd t_brings_F v2.toNatClampNeg 0) (upd t_first_F v2.toNatClampNeg (-1)) t_missing_F t_owner_F t_length_F t_told_F v1 v2 (-1) v2 _ _ _ _ ls hP hD hS hl hc hf
        · have hf := ite_t c0 hf
          refine lv_iconst (v := 0) hx hb d_Mo_fresh_48 (by decide) ?_
          refine lv_goto (tgt := 53) hx hb d_Mo_fresh_49 (by decide) ?_
          exact k_53 rec2 h2 t_pieces (upd t_came_F v2.toNatClampNeg 0) (upd t_width_F v2.toNatClampNeg 3) (upd t_brings_F v2.toNatClampNeg 0) (upd t_first_F v2.toNatClampNeg (-1)) t_missing_F t_owner_F t_length_F t_told_F v1 v2 0 v2 _ _ _ _ ls hP hD hS hl hc hf
  have hc : 0 ≤ 0 ∧ 0 ≤ 0 := ⟨Nat.le_refl 0, Nat.le_refl 0⟩
  unfold f_Mo_fresh at hf
  refine lv_iload_n hx hb d_Mo_fresh_0 rfl (lv_at hl 1 rfl) ?_
  refine lv_istore_n (lv' := [(2, .int p0), (0, .ref a_t), (1, .int p0)]) hx hb d_Mo_fresh_1 rfl hl (by decide) rfl (fun ls hl => ?_)
  exact k_2 F t_pieces t_came_F t_width_F t_brings_F t_first_F t_missing_F t_owner_F t_length_F t_told_F p0 p0 _ _ _ _ ls hP hD hS (lv_sub hl [1, 2, 0] rfl) hc hf
noncomputable def f_Mo_init (F : Nat) : Option (Nat × Nat × Int32 × Nat × (Nat → Int32) × Nat × (Nat → Int32) × Nat × (Nat → Int32) × Nat × (Nat → Int32) × Nat × (Nat → Int32) × Nat × (Nat → Int32) × Nat × (Nat → Int32) × Nat × (Nat → Int32) × Nat × (Nat → Int32) × Nat × (Nat → Int32) × Nat × (Nat → Int32) × Nat × (Nat → Int32) × Nat × (Nat → Int32) × Nat × (Nat → Int32) × Nat × (Nat → Int32)) :=
addc 1 3 (
addc 1 3 (
addc 1 4 (
addc 1 262144 (
addc 1 2048 (
addc 1 2048 (
addc 1 2048 (
addc 1 2048 (
addc 1 2048 (
addc 1 2048 (
addc 1 8200 (
addc 1 8200 (
addc 1 2 (
addc 1 24576 (
addc 1 24576 (
bd (f_Mo_fresh F 0 2048 (fun _ => 0) 2048 (fun _ => 0) 2048 (fun _ => 0) 2048 (fun _ => 0) 2048 (fun _ => 0) 8200 (fun _ => 0) 8200 (fun _ => 0) 2048 (fun _ => 0) 0) fun u93 =>
bd (f_Mo_fresh F u93.1 2048 u93.2.1 2048 u93.2.2.1 2048 u93.2.2.2.1 2048 u93.2.2.2.2.1 2048 u93.2.2.2.2.2.1 8200 u93.2.2.2.2.2.2.1 8200 u93.2.2.2.2.2.2.2.1 2048 u93.2.2.2.2.2.2.2.2 1024) fun u94 =>
some (0, 0, u94.1, 3, (fun _ => 0), 3, (fun _ => 0), 4, (fun _ => 0), 262144, (fun _ => 0), 2048, u94.2.1, 2048, u94.2.2.1, 2048, u94.2.2.2.1, 2048, u94.2.2.2.2.1, 2048, u94.2.2.2.2.2.1, 2048, u94.2.2.2.2.2.2.2.2, 8200, u94.2.2.2.2.2.2.1, 8200, u94.2.2.2.2.2.2.2.1, 2, (fun _ => 0), 24576, (fun _ => 0), 24576, (fun _ => 0)))))))))))))))))
set_option maxHeartbeats 4000000 in
set_option maxRecDepth 100000 in
theorem c_Mo_init (l : Launch) (dC : Nat → ClassId) (dI : Nat → Nat → Nat) (tI tB tL tZ : ClassId) (a_t : Nat) (sz : Nat) (F : Nat) (nc ns : Nat) (u : Int32 × Nat × (Nat → Int32) × Nat × (Nat → Int32) × Nat × (Nat → Int32) × Nat × (Nat → Int32) × Nat × (Nat → Int32) × Nat × (Nat → Int32) × Nat × (Nat → Int32) × Nat × (Nat → Int32) × Nat × (Nat → Int32) × Nat × (Nat → Int32) × Nat × (Nat → Int32) × Nat × (Nat → Int32) × Nat × (Nat → Int32) × Nat × (Nat → Int32) × Nat × (Nat → Int32)) (hf : f_Mo_init F  = some (nc, ns, u)) : CTv l y_Mo_init b_Mo_init 1 2 47 (dC, dI) classes [(tI, .int), (tB, .byte), (tL, .long), (tZ, .boolean)] [.ref a_t] [(a_t, .inr (7, [.int 0, .int 0, .int 0, .null, .null, .null, .int 0, .null, .null, .null, .null, .null, .null, .null, .int 0, .null, .null, .null, .int 0, .null, .null, .int 0, .int 0, .int 0, .int 0, .int 0, .int 0]))] sz (fun q : Nat × Nat × Nat × Nat × Nat × Nat × Nat × Nat × Nat × Nat × Nat × Nat × Nat × Nat × Nat => [(a_t, .inr (7, [.int 0, .int 0, .int 0, .ref q.1, .ref q.2.1, .ref q.2.2.1, .int 0, .ref q.2.2.2.1, .ref q.2.2.2.2.1, .ref q.2.2.2.2.2.1, .ref q.2.2.2.2.2.2.1, .ref q.2.2.2.2.2.2.2.1, .ref q.2.2.2.2.2.2.2.2.1, .ref q.2.2.2.2.2.2.2.2.2.1, .int u.1, .ref q.2.2.2.2.2.2.2.2.2.2.1, .ref q.2.2.2.2.2.2.2.2.2.2.2.1, .ref q.2.2.2.2.2.2.2.2.2.2.2.2.1, .int 0, .ref q.2.2.2.2.2.2.2.2.2.2.2.2.2.1, .ref q.2.2.2.2.2.2.2.2.2.2.2.2.2.2, .int 0, .int 0, .int 0, .int 0, .int 0, .int 0])), (q.1, .inl (tI, u.2.1, .inl u.2.2.1)), (q.2.1, .inl (tI, u.2.2.2.1, .inl u.2.2.2.2.1)), (q.2.2.1, .inl (tI, u.2.2.2.2.2.1, .inl u.2.2.2.2.2.2.1)), (q.2.2.2.1, .inl (tB, u.2.2.2.2.2.2.2.1, .inl u.2.2.2.2.2.2.2.2.1)), (q.2.2.2.2.1, .inl (tI, u.2.2.2.2.2.2.2.2.2.1, .inl u.2.2.2.2.2.2.2.2.2.2.1)), (q.2.2.2.2.2.1, .inl (tI, u.2.2.2.2.2.2.2.2.2.2.2.1, .inl u.2.2.2.2.2.2.2.2.2.2.2.2.1)), (q.2.2.2.2.2.2.1, .inl (tI, u.2.2.2.2.2.2.2.2.2.2.2.2.2.1, .inl u.2.2.2.2.2.2.2.2.2.2.2.2.2.2.1)), (q.2.2.2.2.2.2.2.1, .inl (tI, u.2.2.2.2.2.2.2.2.2.2.2.2.2.2.2.1, .inl u.2.2.2.2.2.2.2.2.2.2.2.2.2.2.2.2.1)), (q.2.2.2.2.2.2.2.2.1, .inl (tI, u.2.2.2.2.2.2.2.2.2.2.2.2.2.2.2.2.2.1, .inl u.2.2.2.2.2.2.2.2.2.2.2.2.2.2.2.2.2.2.1)), (q.2.2.2.2.2.2.2.2.2.1, .inl (tI, u.2.2.2.2.2.2.2.2.2.2.2.2.2.2.2.2.2.2.2.1, .inl u.2.2.2.2.2.2.2.2.2.2.2.2.2.2.2.2.2.2.2.2.1)), (q.2.2.2.2.2.2.2.2.2.2.1, .inl (tI, u.2.2.2.2.2.2.2.2.2.2.2.2.2.2.2.2.2.2.2.2.2.1, .inl u.2.2.2.2.2.2.2.2.2.2.2.2.2.2.2.2.2.2.2.2.2.2.1)), (q.2.2.2.2.2.2.2.2.2.2.2.1, .inl (tI, u.2.2.2.2.2.2.2.2.2.2.2.2.2.2.2.2.2.2.2.2.2.2.2.1, .inl u.2.2.2.2.2.2.2.2.2.2.2.2.2.2.2.2.2.2.2.2.2.2.2.2.1)), (q.2.2.2.2.2.2.2.2.2.2.2.2.1, .inl (tI, u.2.2.2.2.2.2.2.2.2.2.2.2.2.2.2.2.2.2.2.2.2.2.2.2.2.1, .inl u.2.2.2.2.2.2.2.2.2.2.2.2.2.2.2.2.2.2.2.2.2.2.2.2.2.2.1)), (q.2.2.2.2.2.2.2.2.2.2.2.2.2.1, .inl (tI, u.2.2.2.2.2.2.2.2.2.2.2.2.2.2.2.2.2.2.2.2.2.2.2.2.2.2.2.1, .inl u.2.2.2.2.2.2.2.2.2.2.2.2.2.2.2.2.2.2.2.2.2.2.2.2.2.2.2.2.1)), (q.2.2.2.2.2.2.2.2.2.2.2.2.2.2, .inl (tZ, u.2.2.2.2.2.2.2.2.2.2.2.2.2.2.2.2.2.2.2.2.2.2.2.2.2.2.2.2.2.1, .inl u.2.2.2.2.2.2.2.2.2.2.2.2.2.2.2.2.2.2.2.2.2.2.2.2.2.2.2.2.2.2))]) nc ns := by
  refine mk_v (by decide) (Nat.le_of_ble_eq_true rfl) ?_
  intro p e s m args below meth c ls A Q hx hb hml hts hown hin hK hN hP hD hA hl ret
  obtain ⟨H, hH⟩ : ∃ H : Heap, H = s.heap := ⟨_, rfl⟩
  have hS : va_S A s.heap H [] := by rw [hH]; exact va_S.rf
  rw [← hH] at hP ⊢
  have hl : lv_has ls 1 [(0, .ref a_t)] := hl
  have hc : 0 + nc ≤ nc ∧ 0 + ns ≤ ns := ⟨by omega, by omega⟩
  unfold f_Mo_init at hf
  refine lv_aload_n hx hb d_Mo_init_0 rfl (lv_at hl 0 rfl) ?_
  refine W.objInit hx hb hown (hts _ q_223) (hts _ q_22) (hts _ q_23) rfl (by rw [hml]; exact hl.1) rfl d_Mo_init_1 (Nat.le_of_ble_eq_true rfl) (Nat.le_of_ble_eq_true rfl) ?_
  refine W.eq (g2 := F0 m 4 ls []) rfl ?_
  refine lv_aload_n hx hb d_Mo_init_4 rfl (lv_at hl 0 rfl) ?_
  refine lv_iconst (v := 3) hx hb d_Mo_init_5 (by decide) ?_
  obtain ⟨nB49, sB50, hf, ha9, hb9⟩ := addc_of hf
  have hcc : 0 + 1 ≤ nc ∧ 0 + 3 ≤ ns := ⟨by omega, by omega⟩
  have hc : 0 + 1 + nB49 ≤ nc ∧ 0 + 3 + sB50 ≤ ns := ⟨by omega, by omega⟩
  refine va_newa (atype := .int) (ty := .int) (N' := 3) (a0 := (3, .inl (fun _ => 0))) hx hb (hts _ q_0) rfl hK hP hD hS hA (fun _ => rfl) (by decide) (by decide) (by decide) hcc.1 hcc.2 d_Mo_init_6 (fun ad48 cA9 H hK9 hP hD hS => ?_)
  obtain rfl := ty_one (i := 0) (j := 4) hK hK9 rfl rfl (by intro _ h9; cases h9)
  have hP : va_P (dC, dI) classes [(a_t, .inr (7, [.int 0, .int 0, .int 0, .null, .null, .null, .int 0, .null, .null, .null, .null, .null, .null, .null, .int 0, .null, .null, .null, .int 0, .null, .null, .int 0, .int 0, .int 0, .int 0, .int 0, .int 0])), (ad48, .inl (tI, 3, .inl (fun _ => 0)))] H := hP
  have hD : va_D A [(a_t, .inr (7, [.int 0, .int 0, .int 0, .null, .null, .null, .int 0, .null, .null, .null, .null, .null, .null, .null, .int 0, .null, .null, .null, .int 0, .null, .null, .int 0, .int 0, .int 0, .int 0, .int 0, .int 0])), (ad48, .inl (tI, 3, .inl (fun _ => 0)))] := hD
  refine va_putF (D := (dC, dI)) (ci := 7) (v := .ref ad48) (ty := t_Mo 3) (C := R_Mo) (T := F_Mo) (N := 27) hx hb hts i_Mo t_Mo t_Mo_ok n_Mo hown hK hP hD hS 0 rfl rfl 3 (by decide) (hts _ q_224) (fun _ h9 => h9) rfl hin rfl (t_Mo_ok 3 (by decide)) rfl rfl (Nat.le_of_ble_eq_true rfl) d_Mo_init_8 (fun H locs hP hD hS => ?_)
  have hP : va_P (dC, dI) classes [(a_t, .inr (7, [.int 0, .int 0, .int 0, .ref ad48, .null, .null, .int 0, .null, .null, .null, .null, .null, .null, .null, .int 0, .null, .null, .null, .int 0, .null, .null, .int 0, .int 0, .int 0, .int 0, .int 0, .int 0])), (ad48, .inl (tI, 3, .inl (fun _ => 0)))] H := hP
  have hD : va_D A [(a_t, .inr (7, [.int 0, .int 0, .int 0, .ref ad48, .null, .null, .int 0, .null, .null, .null, .null, .null, .null, .null, .int 0, .null, .null, .null, .int 0, .null, .null, .int 0, .int 0, .int 0, .int 0, .int 0, .int 0])), (ad48, .inl (tI, 3, .inl (fun _ => 0)))] := hD
  refine lv_aload_n hx hb d_Mo_init_11 rfl (lv_at hl 0 rfl) ?_
  refine lv_iconst (v := 3) hx hb d_Mo_init_12 (by decide) ?_
  obtain ⟨nB52, sB53, hf, ha9, hb9⟩ := addc_of hf
  have hcc : 0 + 1 + 1 ≤ nc ∧ 0 + 3 + 3 ≤ ns := ⟨by omega, by omega⟩
  have hc : 0 + 1 + 1 + nB52 ≤ nc ∧ 0 + 3 + 3 + sB53 ≤ ns := ⟨by omega, by omega⟩
  refine va_newa (atype := .int) (ty := .int) (N' := 3) (a0 := (3, .inl (fun _ => 0))) hx hb (hts _ q_0) rfl hK hP hD hS hA (fun _ => rfl) (by decide) (by decide) (by decide) hcc.1 hcc.2 d_Mo_init_13 (fun ad51 cA9 H hK9 hP hD hS => ?_)
  obtain rfl := ty_one (i := 0) (j := 4) hK hK9 rfl rfl (by intro _ h9; cases h9)
  have hP : va_P (dC, dI) classes [(a_t, .inr (7, [.int 0, .int 0, .int 0, .ref ad48, .null, .null, .int 0, .null, .null, .null, .null, .null, .null, .null, .int 0, .null, .null, .null, .int 0, .null, .null, .int 0, .int 0, .int 0, .int 0, .int 0, .int 0])), (ad48, .inl (tI, 3, .inl (fun _ => 0))), (ad51, .inl (tI, 3, .inl (fun _ => 0)))] H := hP
  have hD : va_D A [(a_t, .inr (7, [.int 0, .int 0, .int 0, .ref ad48, .null, .null, .int 0, .null, .null, .null, .null, .null, .null, .null, .int 0, .null, .null, .null, .int 0, .null, .null, .int 0, .int 0, .int 0, .int 0, .int 0, .int 0])), (ad48, .inl (tI, 3, .inl (fun _ => 0))), (ad51, .inl (tI, 3, .inl (fun _ => 0)))] := hD
  refine va_putF (D := (dC, dI)) (ci := 7) (v := .ref ad51) (ty := t_Mo 4) (C := R_Mo) (T := F_Mo) (N := 27) hx hb hts i_Mo t_Mo t_Mo_ok n_Mo hown hK hP hD hS 0 rfl rfl 4 (by decide) (hts _ q_225) (fun _ h9 => h9) rfl hin rfl (t_Mo_ok 4 (by decide)) rfl rfl (Nat.le_of_ble_eq_true rfl) d_Mo_init_15 (fun H locs hP hD hS => ?_)
  have hP : va_P (dC, dI) classes [(a_t, .inr (7, [.int 0, .int 0, .int 0, .ref ad48, .ref ad51, .null, .int 0, .null, .null, .null, .null, .null, .null, .null, .int 0, .null, .null, .null, .int 0, .null, .null, .int 0, .int 0, .int 0, .int 0, .int 0, .int 0])), (ad48, .inl (tI, 3, .inl (fun _ => 0))), (ad51, .inl (tI, 3, .inl (fun _ => 0)))] H := hP
  have hD : va_D A [(a_t, .inr (7, [.int 0, .int 0, .int 0, .ref ad48, .ref ad51, .null, .int 0, .null, .null, .null, .null, .null, .null, .null, .int 0, .null, .null, .null, .int 0, .null, .null, .int 0, .int 0, .int 0, .int 0, .int 0, .int 0])), (ad48, .inl (tI, 3, .inl (fun _ => 0))), (ad51, .inl (tI, 3, .inl (fun _ => 0)))] := hD
  refine lv_aload_n hx hb d_Mo_init_18 rfl (lv_at hl 0 rfl) ?_
  refine lv_iconst (v := 4) hx hb d_Mo_init_19 (by decide) ?_
  obtain ⟨nB55, sB56, hf, ha9, hb9⟩ := addc_of hf
  have hcc : 0 + 1 + 1 + 1 ≤ nc ∧ 0 + 3 + 3 + 4 ≤ ns := ⟨by omega, by omega⟩
  have hc : 0 + 1 + 1 + 1 + nB55 ≤ nc ∧ 0 + 3 + 3 + 4 + sB56 ≤ ns := ⟨by omega, by omega⟩
  refine va_newa (atype := .int) (ty := .int) (N' := 4) (a0 := (4, .inl (fun _ => 0))) hx hb (hts _ q_0) rfl hK hP hD hS hA (fun _ => rfl) (by decide) (by decide) (by decide) hcc.1 hcc.2 d_Mo_init_20 (fun ad54 cA9 H hK9 hP hD hS => ?_)
  obtain rfl := ty_one (i := 0) (j := 4) hK hK9 rfl rfl (by intro _ h9; cases h9)
  have hP : va_P (dC, dI) classes [(a_t, .inr (7, [.int 0, .int 0, .int 0, .ref ad48, .ref ad51, .null, .int 0, .null, .null, .null, .null, .null, .null, .null, .int 0, .null, .null, .null, .int 0, .null, .null, .int 0, .int 0, .int 0, .int 0, .int 0, .int 0])), (ad48, .inl (tI, 3, .inl (fun _ => 0))), (ad51, .inl (tI, 3, .inl (fun _ => 0))), (ad54, .inl (tI, 4, .inl (fun _ => 0)))] H := hP
  have hD : va_D A [(a_t, .inr (7, [.int 0, .int 0, .int 0, .ref ad48, .ref ad51, .null, .int 0, .null, .null, .null, .null, .null, .null, .null, .int 0, .null, .null, .null, .int 0, .null, .null, .int 0, .int 0, .int 0, .int 0, .int 0, .int 0])), (ad48, .inl (tI, 3, .inl (fun _ => 0))), (ad51, .inl (tI, 3, .inl (fun _ => 0))), (ad54, .inl (tI, 4, .inl (fun _ => 0)))] := hD
  refine va_putF (D := (dC, dI)) (ci := 7) (v := .ref ad54) (ty := t_Mo 5) (C := R_Mo) (T := F_Mo) (N := 27) hx hb hts i_Mo t_Mo t_Mo_ok n_Mo hown hK hP hD hS 0 rfl rfl 5 (by decide) (hts _ q_226) (fun _ h9 => h9) rfl hin rfl (t_Mo_ok 5 (by decide)) rfl rfl (Nat.le_of_ble_eq_true rfl) d_Mo_init_22 (fun H locs hP hD hS => ?_)
  have hP : va_P (dC, dI) classes [(a_t, .inr (7, [.int 0, .int 0, .int 0, .ref ad48, .ref ad51, .ref ad54, .int 0, .null, .null, .null, .null, .null, .null, .null, .int 0, .null, .null, .null, .int 0, .null, .null, .int 0, .int 0, .int 0, .int 0, .int 0, .int 0])), (ad48, .inl (tI, 3, .inl (fun _ => 0))), (ad51, .inl (tI, 3, .inl (fun _ => 0))), (ad54, .inl (tI, 4, .inl (fun _ => 0)))] H := hP
  have hD : va_D A [(a_t, .inr (7, [.int 0, .int 0, .int 0, .ref ad48, .ref ad51, .ref ad54, .int 0, .null, .null, .null, .null, .null, .null, .null, .int 0, .null, .null, .null, .int 0, .null, .null, .int 0, .int 0, .int 0, .int 0, .int 0, .int 0])), (ad48, .inl (tI, 3, .inl (fun _ => 0))), (ad51, .inl (tI, 3, .inl (fun _ => 0))), (ad54, .inl (tI, 4, .inl (fun _ => 0)))] := hD
  refine lv_aload_n hx hb d_Mo_init_25 rfl (lv_at hl 0 rfl) ?_
  refine lv_ldc (v := 262144) hx hb hown (hts _ q_227) d_Mo_init_26 ?_
  obtain ⟨nB58, sB59, hf, ha9, hb9⟩ := addc_of hf
  have hcc : 0 + 1 + 1 + 1 + 1 ≤ nc ∧ 0 + 3 + 3 + 4 + 262144 ≤ ns := ⟨by omega, by omega⟩
  have hc : 0 + 1 + 1 + 1 + 1 + nB58 ≤ nc ∧ 0 + 3 + 3 + 4 + 262144 + sB59 ≤ ns := ⟨by omega, by omega⟩
  refine va_newa (atype := .byte) (ty := .byte) (N' := 262144) (a0 := (262144, .inl (fun _ => 0))) hx hb (hts _ q_9) rfl hK hP hD hS hA (fun _ => rfl) (by decide) (by decide) (by decide) hcc.1 hcc.2 d_Mo_init_28 (fun ad57 cA9 H hK9 hP hD hS => ?_)
  obtain rfl := ty_one (i := 1) (j := 4) hK hK9 rfl rfl (by intro _ h9; cases h9)
  have hP : va_P (dC, dI) classes [(a_t, .inr (7, [.int 0, .int 0, .int 0, .ref ad48, .ref ad51, .ref ad54, .int 0, .null, .null, .null, .null, .null, .null, .null, .int 0, .null, .null, .null, .int 0, .null, .null, .int 0, .int 0, .int 0, .int 0, .int 0, .int 0])), (ad48, .inl (tI, 3, .inl (fun _ => 0))), (ad51, .inl (tI, 3, .inl (fun _ => 0))), (ad54, .inl (tI, 4, .inl (fun _ => 0))), (ad57, .inl (tB, 262144, .inl (fun _ => 0)))] H := hP
  have hD : va_D A [(a_t, .inr (7, [.int 0, .int 0, .int 0, .ref ad48, .ref ad51, .ref ad54, .int 0, .null, .null, .null, .null, .null, .null, .null, .int 0, .null, .null, .null, .int 0, .null, .null, .int 0, .int 0, .int 0, .int 0, .int 0, .int 0])), (ad48, .inl (tI, 3, .inl (fun _ => 0))), (ad51, .inl (tI, 3, .inl (fun _ => 0))), (ad54, .inl (tI, 4, .inl (fun _ => 0))), (ad57, .inl (tB, 262144, .inl (fun _ => 0)))] := hD
  refine va_putF (D := (dC, dI)) (ci := 7) (v := .ref ad57) (ty := t_Mo 7) (C := R_Mo) (T := F_Mo) (N := 27) hx hb hts i_Mo t_Mo t_Mo_ok n_Mo hown hK hP hD hS 0 rfl rfl 7 (by decide) (hts _ q_228) (fun _ h9 => h9) rfl hin rfl (t_Mo_ok 7 (by decide)) rfl rfl (Nat.le_of_ble_eq_true rfl) d_Mo_init_30 (fun H locs hP hD hS => ?_)
  have hP : va_P (dC, dI) classes [(a_t, .inr (7, [.int 0, .int 0, .int 0, .ref ad48, .ref ad51, .ref ad54, .int 0, .ref ad57, .null, .null, .null, .null, .null, .null, .int 0, .null, .null, .null, .int 0, .null, .null, .int 0, .int 0, .int 0, .int 0, .int 0, .int 0])), (ad48, .inl (tI, 3, .inl (fun _ => 0))), (ad51, .inl (tI, 3, .inl (fun _ => 0))), (ad54, .inl (tI, 4, .inl (fun _ => 0))), (ad57, .inl (tB, 262144, .inl (fun _ => 0)))] H := hP
  have hD : va_D A [(a_t, .inr (7, [.int 0, .int 0, .int 0, .ref ad48, .ref ad51, .ref ad54, .int 0, .ref ad57, .null, .null, .null, .null, .null, .null, .int 0, .null, .null, .null, .int 0, .null, .null, .int 0, .int 0, .int 0, .int 0, .int 0, .int 0])), (ad48, .inl (tI, 3, .inl (fun _ => 0))), (ad51, .inl (tI, 3, .inl (fun _ => 0))), (ad54, .inl (tI, 4, .inl (fun _ => 0))), (ad57, .inl (tB, 262144, .inl (fun _ => 0)))] := hD
  refine lv_aload_n hx hb d_Mo_init_33 rfl (lv_at hl 0 rfl) ?_
  refine lv_sipush (v := 2048) hx hb d_Mo_init_34 (by decide) ?_
  obtain ⟨nB61, sB62, hf, ha9, hb9⟩ := addc_of hf
  have hcc : 0 + 1 + 1 + 1 + 1 + 1 ≤ nc ∧ 0 + 3 + 3 + 4 + 262144 + 2048 ≤ ns := ⟨by omega, by omega⟩
  have hc : 0 + 1 + 1 + 1 + 1 + 1 + nB61 ≤ nc ∧ 0 + 3 + 3 + 4 + 262144 + 2048 + sB62 ≤ ns := ⟨by omega, by omega⟩
  refine va_newa (atype := .int) (ty := .int) (N' := 2048) (a0 := (2048, .inl (fun _ => 0))) hx hb (hts _ q_0) rfl hK hP hD hS hA (fun _ => rfl) (by decide) (by decide) (by decide) hcc.1 hcc.2 d_Mo_init_37 (fun ad60 cA9 H hK9 hP hD hS => ?_)
  obtain rfl := ty_one (i := 0) (j := 4) hK hK9 rfl rfl (by intro _ h9; cases h9)
  have hP : va_P (dC, dI) classes [(a_t, .inr (7, [.int 0, .int 0, .int 0, .ref ad48, .ref ad51, .ref ad54, .int 0, .ref ad57, .null, .null, .null, .null, .null, .null, .int 0, .null, .null, .null, .int 0, .null, .null, .int 0, .int 0, .int 0, .int 0, .int 0, .int 0])), (ad48, .inl (tI, 3, .inl (fun _ => 0))), (ad51, .inl (tI, 3, .inl (fun _ => 0))), (ad54, .inl (tI, 4, .inl (fun _ => 0))), (ad57, .inl (tB, 262144, .inl (fun _ => 0))), (ad60, .inl (tI, 2048, .inl (fun _ => 0)))] H := hP
  have hD : va_D A [(a_t, .inr (7, [.int 0, .int 0, .int 0, .ref ad48, .ref ad51, .ref ad54, .int 0, .ref ad57, .null, .null, .null, .null, .null, .null, .int 0, .null, .null, .null, .int 0, .null, .null, .int 0, .int 0, .int 0, .int 0, .int 0, .int 0])), (ad48, .inl (tI, 3, .inl (fun _ => 0))), (ad51, .inl (tI, 3, .inl (fun _ => 0))), (ad54, .inl (tI, 4, .inl (fun _ => 0))), (ad57, .inl (tB, 262144, .inl (fun _ => 0))), (ad60, .inl (tI, 2048, .inl (fun _ => 0)))] := hD
  refine va_putF (D := (dC, dI)) (ci := 7) (v := .ref ad60) (ty := t_Mo 8) (C := R_Mo) (T := F_Mo) (N := 27) hx hb hts i_Mo t_Mo t_Mo_ok n_Mo hown hK hP hD hS 0 rfl rfl 8 (by decide) (hts _ q_218) (fun _ h9 => h9) rfl hin rfl (t_Mo_ok 8 (by decide)) rfl rfl (Nat.le_of_ble_eq_true rfl) d_Mo_init_39 (fun H locs hP hD hS => ?_)
  have hP : va_P (dC, dI) classes [(a_t, .inr (7, [.int 0, .int 0, .int 0, .ref ad48, .ref ad51, .ref ad54, .int 0, .ref ad57, .ref ad60, .null, .null, .null, .null, .null, .int 0, .null, .null, .null, .int 0, .null, .null, .int 0, .int 0, .int 0, .int 0, .int 0, .int 0])), (ad48, .inl (tI, 3, .inl (fun _ => 0))), (ad51, .inl (tI, 3, .inl (fun _ => 0))), (ad54, .inl (tI, 4, .inl (fun _ => 0))), (ad57, .inl (tB, 262144, .inl (fun _ => 0))), (ad60, .inl (tI, 2048, .inl (fun _ => 0)))] H := hP
  have hD : va_D A [(a_t, .inr (7, [.int 0, .int 0, .int 0, .ref ad48, .ref ad51, .ref ad54, .int 0, .ref ad57, .ref ad60, .null, .null, .null, .null, .null, .int 0, .null, .null, .null, .int 0, .null, .null, .int 0, .int 0, .int 0, .int 0, .int 0, .int 0])), (ad48, .inl (tI, 3, .inl (fun _ => 0))), (ad51, .inl (tI, 3, .inl (fun _ => 0))), (ad54, .inl (tI, 4, .inl (fun _ => 0))), (ad57, .inl (tB, 262144, .inl (fun _ => 0))), (ad60, .inl (tI, 2048, .inl (fun _ => 0)))] := hD
  refine lv_aload_n hx hb d_Mo_init_42 rfl (lv_at hl 0 rfl) ?_
  refine lv_sipush (v := 2048) hx hb d_Mo_init_43 (by decide) ?_
  obtain ⟨nB64, sB65, hf, ha9, hb9⟩ := addc_of hf
  have hcc : 0 + 1 + 1 + 1 + 1 + 1 + 1 ≤ nc ∧ 0 + 3 + 3 + 4 + 262144 + 2048 + 2048 ≤ ns := ⟨by omega, by omega⟩
  have hc : 0 + 1 + 1 + 1 + 1 + 1 + 1 + nB64 ≤ nc ∧ 0 + 3 + 3 + 4 + 262144 + 2048 + 2048 + sB65 ≤ ns := ⟨by omega, by omega⟩
  refine va_newa (atype := .int) (ty := .int) (N' := 2048) (a0 := (2048, .inl (fun _ => 0))) hx hb (hts _ q_0) rfl hK hP hD hS hA (fun _ => rfl) (by decide) (by decide) (by decide) hcc.1 hcc.2 d_Mo_init_46 (fun ad63 cA9 H hK9 hP hD hS => ?_)
  obtain rfl := ty_one (i := 0) (j := 4) hK hK9 rfl rfl (by intro _ h9; cases h9)
  have hP : va_P (dC, dI) classes [(a_t, .inr (7, [.int 0, .int 0, .int 0, .ref ad48, .ref ad51, .ref ad54, .int 0, .ref ad57, .ref ad60, .null, .null, .null, .null, .null, .int 0, .null, .null, .null, .int 0, .null, .null, .int 0, .int 0, .int 0, .int 0, .int 0, .int 0])), (ad48, .inl (tI, 3, .inl (fun _ => 0))), (ad51, .inl (tI, 3, .inl (fun _ => 0))), (ad54, .inl (tI, 4, .inl (fun _ => 0))), (ad57, .inl (tB, 262144, .inl (fun _ => 0))), (ad60, .inl (tI, 2048, .inl (fun _ => 0))), (ad63, .inl (tI, 2048, .inl (fun _ => 0)))] H := hP
  have hD : va_D A [(a_t, .inr (7, [.int 0, .int 0, .int 0, .ref ad48, .ref ad51, .ref ad54, .int 0, .ref ad57, .ref ad60, .null, .null, .null, .null, .null, .int 0, .null, .null, .null, .int 0, .null, .null, .int 0, .int 0, .int 0, .int 0, .int 0, .int 0])), (ad48, .inl (tI, 3, .inl (fun _ => 0))), (ad51, .inl (tI, 3, .inl (fun _ => 0))), (ad54, .inl (tI, 4, .inl (fun _ => 0))), (ad57, .inl (tB, 262144, .inl (fun _ => 0))), (ad60, .inl (tI, 2048, .inl (fun _ => 0))), (ad63, .inl (tI, 2048, .inl (fun _ => 0)))] := hD
  refine va_putF (D := (dC, dI)) (ci := 7) (v := .ref ad63) (ty := t_Mo 9) (C := R_Mo) (T := F_Mo) (N := 27) hx hb hts i_Mo t_Mo t_Mo_ok n_Mo hown hK hP hD hS 0 rfl rfl 9 (by decide) (hts _ q_219) (fun _ h9 => h9) rfl hin rfl (t_Mo_ok 9 (by decide)) rfl rfl (Nat.le_of_ble_eq_true rfl) d_Mo_init_48 (fun H locs hP hD hS => ?_)
  have hP : va_P (dC, dI) classes [(a_t, .inr (7, [.int 0, .int 0, .int 0, .ref ad48, .ref ad51, .ref ad54, .int 0, .ref ad57, .ref ad60, .ref ad63, .null, .null, .null, .null, .int 0, .null, .null, .null, .int 0, .null, .null, .int 0, .int 0, .int 0, .int 0, .int 0, .int 0])), (ad48, .inl (tI, 3, .inl (fun _ => 0))), (ad51, .inl (tI, 3, .inl (fun _ => 0))), (ad54, .inl (tI, 4, .inl (fun _ => 0))), (ad57, .inl (tB, 262144, .inl (fun _ => 0))), (ad60, .inl (tI, 2048, .inl (fun _ => 0))), (ad63, .inl (tI, 2048, .inl (fun _ => 0)))] H := hP
  have hD : va_D A [(a_t, .inr (7, [.int 0, .int 0, .int 0, .ref ad48, .ref ad51, .ref ad54, .int 0, .ref ad57, .ref ad60, .ref ad63, .null, .null, .null, .null, .int 0, .null, .null, .null, .int 0, .null, .null, .int 0, .int 0, .int 0, .int 0, .int 0, .int 0])), (ad48, .inl (tI, 3, .inl (fun _ => 0))), (ad51, .inl (tI, 3, .inl (fun _ => 0))), (ad54, .inl (tI, 4, .inl (fun _ => 0))), (ad57, .inl (tB, 262144, .inl (fun _ => 0))), (ad60, .inl (tI, 2048, .inl (fun _ => 0))), (ad63, .inl (tI, 2048, .inl (fun _ => 0)))] := hD
  refine lv_aload_n hx hb d_Mo_init_51 rfl (lv_at hl 0 rfl) ?_
  refine lv_sipush (v := 2048) hx hb d_Mo_init_52 (by decide) ?_
  obtain ⟨nB67, sB68, hf, ha9, hb9⟩ := addc_of hf
  have hcc : 0 + 1 + 1 + 1 + 1 + 1 + 1 + 1 ≤ nc ∧ 0 + 3 + 3 + 4 + 262144 + 2048 + 2048 + 2048 ≤ ns := ⟨by omega, by omega⟩
  have hc : 0 + 1 + 1 + 1 + 1 + 1 + 1 + 1 + nB67 ≤ nc ∧ 0 + 3 + 3 + 4 + 262144 + 2048 + 2048 + 2048 + sB68 ≤ ns := ⟨by omega, by omega⟩
  refine va_newa (atype := .int) (ty := .int) (N' := 2048) (a0 := (2048, .inl (fun _ => 0))) hx hb (hts _ q_0) rfl hK hP hD hS hA (fun _ => rfl) (by decide) (by decide) (by decide) hcc.1 hcc.2 d_Mo_init_55 (fun ad66 cA9 H hK9 hP hD hS => ?_)
  obtain rfl := ty_one (i := 0) (j := 4) hK hK9 rfl rfl (by intro _ h9; cases h9)
  have hP : va_P (dC, dI) classes [(a_t, .inr (7, [.int 0, .int 0, .int 0, .ref ad48, .ref ad51, .ref ad54, .int 0, .ref ad57, .ref ad60, .ref ad63, .null, .null, .null, .null, .int 0, .null, .null, .null, .int 0, .null, .null, .int 0, .int 0, .int 0, .int 0, .int 0, .int 0])), (ad48, .inl (tI, 3, .inl (fun _ => 0))), (ad51, .inl (tI, 3, .inl (fun _ => 0))), (ad54, .inl (tI, 4, .inl (fun _ => 0))), (ad57, .inl (tB, 262144, .inl (fun _ => 0))), (ad60, .inl (tI, 2048, .inl (fun _ => 0))), (ad63, .inl (tI, 2048, .inl (fun _ => 0))), (ad66, .inl (tI, 2048, .inl (fun _ => 0)))] H := hP
  have hD : va_D A [(a_t, .inr (7, [.int 0, .int 0, .int 0, .ref ad48, .ref ad51, .ref ad54, .int 0, .ref ad57, .ref ad60, .ref ad63, .null, .null, .null, .null, .int 0, .null, .null, .null, .int 0, .null, .null, .int 0, .int 0, .int 0, .int 0, .int 0, .int 0])), (ad48, .inl (tI, 3, .inl (fun _ => 0))), (ad51, .inl (tI, 3, .inl (fun _ => 0))), (ad54, .inl (tI, 4, .inl (fun _ => 0))), (ad57, .inl (tB, 262144, .inl (fun _ => 0))), (ad60, .inl (tI, 2048, .inl (fun _ => 0))), (ad63, .inl (tI, 2048, .inl (fun _ => 0))), (ad66, .inl (tI, 2048, .inl (fun _ => 0)))] := hD
  refine va_putF (D := (dC, dI)) (ci := 7) (v := .ref ad66) (ty := t_Mo 10) (C := R_Mo) (T := F_Mo) (N := 27) hx hb hts i_Mo t_Mo t_Mo_ok n_Mo hown hK hP hD hS 0 rfl rfl 10 (by decide) (hts _ q_220) (fun _ h9 => h9) rfl hin rfl (t_Mo_ok 10 (by decide)) rfl rfl (Nat.le_of_ble_eq_true rfl) d_Mo_init_57 (fun H locs hP hD hS => ?_)
  have hP : va_P (dC, dI) classes [(a_t, .inr (7, [.int 0, .int 0, .int 0, .ref ad48, .ref ad51, .ref ad54, .int 0, .ref ad57, .ref ad60, .ref ad63, .ref ad66, .null, .null, .null, .int 0, .null, .null, .null, .int 0, .null, .null, .int 0, .int 0, .int 0, .int 0, .int 0, .int 0])), (ad48, .inl (tI, 3, .inl (fun _ => 0))), (ad51, .inl (tI, 3, .inl (fun _ => 0))), (ad54, .inl (tI, 4, .inl (fun _ => 0))), (ad57, .inl (tB, 262144, .inl (fun _ => 0))), (ad60, .inl (tI, 2048, .inl (fun _ => 0))), (ad63, .inl (tI, 2048, .inl (fun _ => 0))), (ad66, .inl (tI, 2048, .inl (fun _ => 0)))] H := hP
  have hD : va_D A [(a_t, .inr (7, [.int 0, .int 0, .int 0, .ref ad48, .ref ad51, .ref ad54, .int 0, .ref ad57, .ref ad60, .ref ad63, .ref ad66, .null, .null, .null, .int 0, .null, .null, .null, .int 0, .null, .null, .int 0, .int 0, .int 0, .int 0, .int 0, .int 0])), (ad48, .inl (tI, 3, .inl (fun _ => 0))), (ad51, .inl (tI, 3, .inl (fun _ => 0))), (ad54, .inl (tI, 4, .inl (fun _ => 0))), (ad57, .inl (tB, 262144, .inl (fun _ => 0))), (ad60, .inl (tI, 2048, .inl (fun _ => 0))), (ad63, .inl (tI, 2048, .inl (fun _ => 0))), (ad66, .inl (tI, 2048, .inl (fun _ => 0)))] := hD
  refine lv_aload_n hx hb d_Mo_init_60 rfl (lv_at hl 0 rfl) ?_
  refine lv_sipush (v := 2048) hx hb d_Mo_init_61 (by decide) ?_
  obtain ⟨nB70, sB71, hf, ha9, hb9⟩ := addc_of hf
  have hcc : 0 + 1 + 1 + 1 + 1 + 1 + 1 + 1 + 1 ≤ nc ∧ 0 + 3 + 3 + 4 + 262144 + 2048 + 2048 + 2048 + 2048 ≤ ns := ⟨by omega, by omega⟩
  have hc : 0 + 1 + 1 + 1 + 1 + 1 + 1 + 1 + 1 + nB70 ≤ nc ∧ 0 + 3 + 3 + 4 + 262144 + 2048 + 2048 + 2048 + 2048 + sB71 ≤ ns := ⟨by omega, by omega⟩
  refine va_newa (atype := .int) (ty := .int) (N' := 2048) (a0 := (2048, .inl (fun _ => 0))) hx hb (hts _ q_0) rfl hK hP hD hS hA (fun _ => rfl) (by decide) (by decide) (by decide) hcc.1 hcc.2 d_Mo_init_64 (fun ad69 cA9 H hK9 hP hD hS => ?_)
  obtain rfl := ty_one (i := 0) (j := 4) hK hK9 rfl rfl (by intro _ h9; cases h9)
  have hP : va_P (dC, dI) classes [(a_t, .inr (7, [.int 0, .int 0, .int 0, .ref ad48, .ref ad51, .ref ad54, .int 0, .ref ad57, .ref ad60, .ref ad63, .ref ad66, .null, .null, .null, .int 0, .null, .null, .null, .int 0, .null, .null, .int 0, .int 0, .int 0, .int 0, .int 0, .int 0])), (ad48, .inl (tI, 3, .inl (fun _ => 0))), (ad51, .inl (tI, 3, .inl (fun _ => 0))), (ad54, .inl (tI, 4, .inl (fun _ => 0))), (ad57, .inl (tB, 262144, .inl (fun _ => 0))), (ad60, .inl (tI, 2048, .inl (fun _ => 0))), (ad63, .inl (tI, 2048, .inl (fun _ => 0))), (ad66, .inl (tI, 2048, .inl (fun _ => 0))), (ad69, .inl (tI, 2048, .inl (fun _ => 0)))] H := hP
  have hD : va_D A [(a_t, .inr (7, [.int 0, .int 0, .int 0, .ref ad48, .ref ad51, .ref ad54, .int 0, .ref ad57, .ref ad60, .ref ad63, .ref ad66, .null, .null, .null, .int 0, .null, .null, .null, .int 0, .null, .null, .int 0, .int 0, .int 0, .int 0, .int 0, .int 0])), (ad48, .inl (tI, 3, .inl (fun _ => 0))), (ad51, .inl (tI, 3, .inl (fun _ => 0))), (ad54, .inl (tI, 4, .inl (fun _ => 0))), (ad57, .inl (tB, 262144, .inl (fun _ => 0))), (ad60, .inl (tI, 2048, .inl (fun _ => 0))), (ad63, .inl (tI, 2048, .inl (fun _ => 0))), (ad66, .inl (tI, 2048, .inl (fun _ => 0))), (ad69, .inl (tI, 2048, .inl (fun _ => 0)))] := hD
  refine va_putF (D := (dC, dI)) (ci := 7) (v := .ref ad69) (ty := t_Mo 11) (C := R_Mo) (T := F_Mo) (N := 27) hx hb hts i_Mo t_Mo t_Mo_ok n_Mo hown hK hP hD hS 0 rfl rfl 11 (by decide) (hts _ q_221) (fun _ h9 => h9) rfl hin rfl (t_Mo_ok 11 (by decide)) rfl rfl (Nat.le_of_ble_eq_true rfl) d_Mo_init_66 (fun H locs hP hD hS => ?_)
  have hP : va_P (dC, dI) classes [(a_t, .inr (7, [.int 0, .int 0, .int 0, .ref ad48, .ref ad51, .ref ad54, .int 0, .ref ad57, .ref ad60, .ref ad63, .ref ad66, .ref ad69, .null, .null, .int 0, .null, .null, .null, .int 0, .null, .null, .int 0, .int 0, .int 0, .int 0, .int 0, .int 0])), (ad48, .inl (tI, 3, .inl (fun _ => 0))), (ad51, .inl (tI, 3, .inl (fun _ => 0))), (ad54, .inl (tI, 4, .inl (fun _ => 0))), (ad57, .inl (tB, 262144, .inl (fun _ => 0))), (ad60, .inl (tI, 2048, .inl (fun _ => 0))), (ad63, .inl (tI, 2048, .inl (fun _ => 0))), (ad66, .inl (tI, 2048, .inl (fun _ => 0))), (ad69, .inl (tI, 2048, .inl (fun _ => 0)))] H := hP
  have hD : va_D A [(a_t, .inr (7, [.int 0, .int 0, .int 0, .ref ad48, .ref ad51, .ref ad54, .int 0, .ref ad57, .ref ad60, .ref ad63, .ref ad66, .ref ad69, .null, .null, .int 0, .null, .null, .null, .int 0, .null, .null, .int 0, .int 0, .int 0, .int 0, .int 0, .int 0])), (ad48, .inl (tI, 3, .inl (fun _ => 0))), (ad51, .inl (tI, 3, .inl (fun _ => 0))), (ad54, .inl (tI, 4, .inl (fun _ => 0))), (ad57, .inl (tB, 262144, .inl (fun _ => 0))), (ad60, .inl (tI, 2048, .inl (fun _ => 0))), (ad63, .inl (tI, 2048, .inl (fun _ => 0))), (ad66, .inl (tI, 2048, .inl (fun _ => 0))), (ad69, .inl (tI, 2048, .inl (fun _ => 0)))] := hD
  refine lv_aload_n hx hb d_Mo_init_69 rfl (lv_at hl 0 rfl) ?_
  refine lv_sipush (v := 2048) hx hb d_Mo_init_70 (by decide) ?_
  obtain ⟨nB73, sB74, hf, ha9, hb9⟩ := addc_of hf
  have hcc : 0 + 1 + 1 + 1 + 1 + 1 + 1 + 1 + 1 + 1 ≤ nc ∧ 0 + 3 + 3 + 4 + 262144 + 2048 + 2048 + 2048 + 2048 + 2048 ≤ ns := ⟨by omega, by omega⟩
  have hc : 0 + 1 + 1 + 1 + 1 + 1 + 1 + 1 + 1 + 1 + nB73 ≤ nc ∧ 0 + 3 + 3 + 4 + 262144 + 2048 + 2048 + 2048 + 2048 + 2048 + sB74 ≤ ns := ⟨by omega, by omega⟩
  refine va_newa (atype := .int) (ty := .int) (N' := 2048) (a0 := (2048, .inl (fun _ => 0))) hx hb (hts _ q_0) rfl hK hP hD hS hA (fun _ => rfl) (by decide) (by decide) (by decide) hcc.1 hcc.2 d_Mo_init_73 (fun ad72 cA9 H hK9 hP hD hS => ?_)
  obtain rfl := ty_one (i := 0) (j := 4) hK hK9 rfl rfl (by intro _ h9; cases h9)
  have hP : va_P (dC, dI) classes [(a_t, .inr (7, [.int 0, .int 0, .int 0, .ref ad48, .ref ad51, .ref ad54, .int 0, .ref ad57, .ref ad60, .ref ad63, .ref ad66, .ref ad69, .null, .null, .int 0, .null, .null, .null, .int 0, .null, .null, .int 0, .int 0, .int 0, .int 0, .int 0, .int 0])), (ad48, .inl (tI, 3, .inl (fun _ => 0))), (ad51, .inl (tI, 3, .inl (fun _ => 0))), (ad54, .inl (tI, 4, .inl (fun _ => 0))), (ad57, .inl (tB, 262144, .inl (fun _ => 0))), (ad60, .inl (tI, 2048, .inl (fun _ => 0))), (ad63, .inl (tI, 2048, .inl (fun _ => 0))), (ad66, .inl (tI, 2048, .inl (fun _ => 0))), (ad69, .inl (tI, 2048, .inl (fun _ => 0))), (ad72, .inl (tI, 2048, .inl (fun _ => 0)))] H := hP
  have hD : va_D A [(a_t, .inr (7, [.int 0, .int 0, .int 0, .ref ad48, .ref ad51, .ref ad54, .int 0, .ref ad57, .ref ad60, .ref ad63, .ref ad66, .ref ad69, .null, .null, .int 0, .null, .null, .null, .int 0, .null, .null, .int 0, .int 0, .int 0, .int 0, .int 0, .int 0])), (ad48, .inl (tI, 3, .inl (fun _ => 0))), (ad51, .inl (tI, 3, .inl (fun _ => 0))), (ad54, .inl (tI, 4, .inl (fun _ => 0))), (ad57, .inl (tB, 262144, .inl (fun _ => 0))), (ad60, .inl (tI, 2048, .inl (fun _ => 0))), (ad63, .inl (tI, 2048, .inl (fun _ => 0))), (ad66, .inl (tI, 2048, .inl (fun _ => 0))), (ad69, .inl (tI, 2048, .inl (fun _ => 0))), (ad72, .inl (tI, 2048, .inl (fun _ => 0)))] := hD
  refine va_putF (D := (dC, dI)) (ci := 7) (v := .ref ad72) (ty := t_Mo 12) (C := R_Mo) (T := F_Mo) (N := 27) hx hb hts i_Mo t_Mo t_Mo_ok n_Mo hown hK hP hD hS 0 rfl rfl 12 (by decide) (hts _ q_222) (fun _ h9 => h9) rfl hin rfl (t_Mo_ok 12 (by decide)) rfl rfl (Nat.le_of_ble_eq_true rfl) d_Mo_init_75 (fun H locs hP hD hS => ?_)
  have hP : va_P (dC, dI) classes [(a_t, .inr (7, [.int 0, .int 0, .int 0, .ref ad48, .ref ad51, .ref ad54, .int 0, .ref ad57, .ref ad60, .ref ad63, .ref ad66, .ref ad69, .ref ad72, .null, .int 0, .null, .null, .null, .int 0, .null, .null, .int 0, .int 0, .int 0, .int 0, .int 0, .int 0])), (ad48, .inl (tI, 3, .inl (fun _ => 0))), (ad51, .inl (tI, 3, .inl (fun _ => 0))), (ad54, .inl (tI, 4, .inl (fun _ => 0))), (ad57, .inl (tB, 262144, .inl (fun _ => 0))), (ad60, .inl (tI, 2048, .inl (fun _ => 0))), (ad63, .inl (tI, 2048, .inl (fun _ => 0))), (ad66, .inl (tI, 2048, .inl (fun _ => 0))), (ad69, .inl (tI, 2048, .inl (fun _ => 0))), (ad72, .inl (tI, 2048, .inl (fun _ => 0)))] H := hP
  have hD : va_D A [(a_t, .inr (7, [.int 0, .int 0, .int 0, .ref ad48, .ref ad51, .ref ad54, .int 0, .ref ad57, .ref ad60, .ref ad63, .ref ad66, .ref ad69, .ref ad72, .null, .int 0, .null, .null, .null, .int 0, .null, .null, .int 0, .int 0, .int 0, .int 0, .int 0, .int 0])), (ad48, .inl (tI, 3, .inl (fun _ => 0))), (ad51, .inl (tI, 3, .inl (fun _ => 0))), (ad54, .inl (tI, 4, .inl (fun _ => 0))), (ad57, .inl (tB, 262144, .inl (fun _ => 0))), (ad60, .inl (tI, 2048, .inl (fun _ => 0))), (ad63, .inl (tI, 2048, .inl (fun _ => 0))), (ad66, .inl (tI, 2048, .inl (fun _ => 0))), (ad69, .inl (tI, 2048, .inl (fun _ => 0))), (ad72, .inl (tI, 2048, .inl (fun _ => 0)))] := hD
  refine lv_aload_n hx hb d_Mo_init_78 rfl (lv_at hl 0 rfl) ?_
  refine lv_sipush (v := 2048) hx hb d_Mo_init_79 (by decide) ?_
  obtain ⟨nB76, sB77, hf, ha9, hb9⟩ := addc_of hf
  have hcc : 0 + 1 + 1 + 1 + 1 + 1 + 1 + 1 + 1 + 1 + 1 ≤ nc ∧ 0 + 3 + 3 + 4 + 262144 + 2048 + 2048 + 2048 + 2048 + 2048 + 2048 ≤ ns := ⟨by omega, by omega⟩
  have hc : 0 + 1 + 1 + 1 + 1 + 1 + 1 + 1 + 1 + 1 + 1 + nB76 ≤ nc ∧ 0 + 3 + 3 + 4 + 262144 + 2048 + 2048 + 2048 + 2048 + 2048 + 2048 + sB77 ≤ ns := ⟨by omega, by omega⟩
  refine va_newa (atype := .int) (ty := .int) (N' := 2048) (a0 := (2048, .inl (fun _ => 0))) hx hb (hts _ q_0) rfl hK hP hD hS hA (fun _ => rfl) (by decide) (by decide) (by decide) hcc.1 hcc.2 d_Mo_init_82 (fun ad75 cA9 H hK9 hP hD hS => ?_)
  obtain rfl := ty_one (i := 0) (j := 4) hK hK9 rfl rfl (by intro _ h9; cases h9)
  have hP : va_P (dC, dI) classes [(a_t, .inr (7, [.int 0, .int 0, .int 0, .ref ad48, .ref ad51, .ref ad54, .int 0, .ref ad57, .ref ad60, .ref ad63, .ref ad66, .ref ad69, .ref ad72, .null, .int 0, .null, .null, .null, .int 0, .null, .null, .int 0, .int 0, .int 0, .int 0, .int 0, .int 0])), (ad48, .inl (tI, 3, .inl (fun _ => 0))), (ad51, .inl (tI, 3, .inl (fun _ => 0))), (ad54, .inl (tI, 4, .inl (fun _ => 0))), (ad57, .inl (tB, 262144, .inl (fun _ => 0))), (ad60, .inl (tI, 2048, .inl (fun _ => 0))), (ad63, .inl (tI, 2048, .inl (fun _ => 0))), (ad66, .inl (tI, 2048, .inl (fun _ => 0))), (ad69, .inl (tI, 2048, .inl (fun _ => 0))), (ad72, .inl (tI, 2048, .inl (fun _ => 0))), (ad75, .inl (tI, 2048, .inl (fun _ => 0)))] H := hP
  have hD : va_D A [(a_t, .inr (7, [.int 0, .int 0, .int 0, .ref ad48, .ref ad51, .ref ad54, .int 0, .ref ad57, .ref ad60, .ref ad63, .ref ad66, .ref ad69, .ref ad72, .null, .int 0, .null, .null, .null, .int 0, .null, .null, .int 0, .int 0, .int 0, .int 0, .int 0, .int 0])), (ad48, .inl (tI, 3, .inl (fun _ => 0))), (ad51, .inl (tI, 3, .inl (fun _ => 0))), (ad54, .inl (tI, 4, .inl (fun _ => 0))), (ad57, .inl (tB, 262144, .inl (fun _ => 0))), (ad60, .inl (tI, 2048, .inl (fun _ => 0))), (ad63, .inl (tI, 2048, .inl (fun _ => 0))), (ad66, .inl (tI, 2048, .inl (fun _ => 0))), (ad69, .inl (tI, 2048, .inl (fun _ => 0))), (ad72, .inl (tI, 2048, .inl (fun _ => 0))), (ad75, .inl (tI, 2048, .inl (fun _ => 0)))] := hD
  refine va_putF (D := (dC, dI)) (ci := 7) (v := .ref ad75) (ty := t_Mo 13) (C := R_Mo) (T := F_Mo) (N := 27) hx hb hts i_Mo t_Mo t_Mo_ok n_Mo hown hK hP hD hS 0 rfl rfl 13 (by decide) (hts _ q_212) (fun _ h9 => h9) rfl hin rfl (t_Mo_ok 13 (by decide)) rfl rfl (Nat.le_of_ble_eq_true rfl) d_Mo_init_84 (fun H locs hP hD hS => ?_)
  have hP : va_P (dC, dI) classes [(a_t, .inr (7, [.int 0, .int 0, .int 0, .ref ad48, .ref ad51, .ref ad54, .int 0, .ref ad57, .ref ad60, .ref ad63, .ref ad66, .ref ad69, .ref ad72, .ref ad75, .int 0, .null, .null, .null, .int 0, .null, .null, .int 0, .int 0, .int 0, .int 0, .int 0, .int 0])), (ad48, .inl (tI, 3, .inl (fun _ => 0))), (ad51, .inl (tI, 3, .inl (fun _ => 0))), (ad54, .inl (tI, 4, .inl (fun _ => 0))), (ad57, .inl (tB, 262144, .inl (fun _ => 0))), (ad60, .inl (tI, 2048, .inl (fun _ => 0))), (ad63, .inl (tI, 2048, .inl (fun _ => 0))), (ad66, .inl (tI, 2048, .inl (fun _ => 0))), (ad69, .inl (tI, 2048, .inl (fun _ => 0))), (ad72, .inl (tI, 2048, .inl (fun _ => 0))), (ad75, .inl (tI, 2048, .inl (fun _ => 0)))] H := hP
  have hD : va_D A [(a_t, .inr (7, [.int 0, .int 0, .int 0, .ref ad48, .ref ad51, .ref ad54, .int 0, .ref ad57, .ref ad60, .ref ad63, .ref ad66, .ref ad69, .ref ad72, .ref ad75, .int 0, .null, .null, .null, .int 0, .null, .null, .int 0, .int 0, .int 0, .int 0, .int 0, .int 0])), (ad48, .inl (tI, 3, .inl (fun _ => 0))), (ad51, .inl (tI, 3, .inl (fun _ => 0))), (ad54, .inl (tI, 4, .inl (fun _ => 0))), (ad57, .inl (tB, 262144, .inl (fun _ => 0))), (ad60, .inl (tI, 2048, .inl (fun _ => 0))), (ad63, .inl (tI, 2048, .inl (fun _ => 0))), (ad66, .inl (tI, 2048, .inl (fun _ => 0))), (ad69, .inl (tI, 2048, .inl (fun _ => 0))), (ad72, .inl (tI, 2048, .inl (fun _ => 0))), (ad75, .inl (tI, 2048, .inl (fun _ => 0)))] := hD
  refine lv_aload_n hx hb d_Mo_init_87 rfl (lv_at hl 0 rfl) ?_
  refine lv_sipush (v := 8200) hx hb d_Mo_init_88 (by decide) ?_
  obtain ⟨nB79, sB80, hf, ha9, hb9⟩ := addc_of hf
  have hcc : 0 + 1 + 1 + 1 + 1 + 1 + 1 + 1 + 1 + 1 + 1 + 1 ≤ nc ∧ 0 + 3 + 3 + 4 + 262144 + 2048 + 2048 + 2048 + 2048 + 2048 + 2048 + 8200 ≤ ns := ⟨by omega, by omega⟩
  have hc : 0 + 1 + 1 + 1 + 1 + 1 + 1 + 1 + 1 + 1 + 1 + 1 + nB79 ≤ nc ∧ 0 + 3 + 3 + 4 + 262144 + 2048 + 2048 + 2048 + 2048 + 2048 + 2048 + 8200 + sB80 ≤ ns := ⟨by omega, by omega⟩
  refine va_newa (atype := .int) (ty := .int) (N' := 8200) (a0 := (8200, .inl (fun _ => 0))) hx hb (hts _ q_0) rfl hK hP hD hS hA (fun _ => rfl) (by decide) (by decide) (by decide) hcc.1 hcc.2 d_Mo_init_91 (fun ad78 cA9 H hK9 hP hD hS => ?_)
  obtain rfl := ty_one (i := 0) (j := 4) hK hK9 rfl rfl (by intro _ h9; cases h9)
  have hP : va_P (dC, dI) classes [(a_t, .inr (7, [.int 0, .int 0, .int 0, .ref ad48, .ref ad51, .ref ad54, .int 0, .ref ad57, .ref ad60, .ref ad63, .ref ad66, .ref ad69, .ref ad72, .ref ad75, .int 0, .null, .null, .null, .int 0, .null, .null, .int 0, .int 0, .int 0, .int 0, .int 0, .int 0])), (ad48, .inl (tI, 3, .inl (fun _ => 0))), (ad51, .inl (tI, 3, .inl (fun _ => 0))), (ad54, .inl (tI, 4, .inl (fun _ => 0))), (ad57, .inl (tB, 262144, .inl (fun _ => 0))), (ad60, .inl (tI, 2048, .inl (fun _ => 0))), (ad63, .inl (tI, 2048, .inl (fun _ => 0))), (ad66, .inl (tI, 2048, .inl (fun _ => 0))), (ad69, .inl (tI, 2048, .inl (fun _ => 0))), (ad72, .inl (tI, 2048, .inl (fun _ => 0))), (ad75, .inl (tI, 2048, .inl (fun _ => 0))), (ad78, .inl (tI, 8200, .inl (fun _ => 0)))] H := hP
  have hD : va_D A [(a_t, .inr (7, [.int 0, .int 0, .int 0, .ref ad48, .ref ad51, .ref ad54, .int 0, .ref ad57, .ref ad60, .ref ad63, .ref ad66, .ref ad69, .ref ad72, .ref ad75, .int 0, .null, .null, .null, .int 0, .null, .null, .int 0, .int 0, .int 0, .int 0, .int 0, .int 0])), (ad48, .inl (tI, 3, .inl (fun _ => 0))), (ad51, .inl (tI, 3, .inl (fun _ => 0))), (ad54, .inl (tI, 4, .inl (fun _ => 0))), (ad57, .inl (tB, 262144, .inl (fun _ => 0))), (ad60, .inl (tI, 2048, .inl (fun _ => 0))), (ad63, .inl (tI, 2048, .inl (fun _ => 0))), (ad66, .inl (tI, 2048, .inl (fun _ => 0))), (ad69, .inl (tI, 2048, .inl (fun _ => 0))), (ad72, .inl (tI, 2048, .inl (fun _ => 0))), (ad75, .inl (tI, 2048, .inl (fun _ => 0))), (ad78, .inl (tI, 8200, .inl (fun _ => 0)))] := hD
  refine va_putF (D := (dC, dI)) (ci := 7) (v := .ref ad78) (ty := t_Mo 15) (C := R_Mo) (T := F_Mo) (N := 27) hx hb hts i_Mo t_Mo t_Mo_ok n_Mo hown hK hP hD hS 0 rfl rfl 15 (by decide) (hts _ q_210) (fun _ h9 => h9) rfl hin rfl (t_Mo_ok 15 (by decide)) rfl rfl (Nat.le_of_ble_eq_true rfl) d_Mo_init_93 (fun H locs hP hD hS => ?_)
  have hP : va_P (dC, dI) classes [(a_t, .inr (7, [.int 0, .int 0, .int 0, .ref ad48, .ref ad51, .ref ad54, .int 0, .ref ad57, .ref ad60, .ref ad63, .ref ad66, .ref ad69, .ref ad72, .ref ad75, .int 0, .ref ad78, .null, .null, .int 0, .null, .null, .int 0, .int 0, .int 0, .int 0, .int 0, .int 0])), (ad48, .inl (tI, 3, .inl (fun _ => 0))), (ad51, .inl (tI, 3, .inl (fun _ => 0))), (ad54, .inl (tI, 4, .inl (fun _ => 0))), (ad57, .inl (tB, 262144, .inl (fun _ => 0))), (ad60, .inl (tI, 2048, .inl (fun _ => 0))), (ad63, .inl (tI, 2048, .inl (fun _ => 0))), (ad66, .inl (tI, 2048, .inl (fun _ => 0))), (ad69, .inl (tI, 2048, .inl (fun _ => 0))), (ad72, .inl (tI, 2048, .inl (fun _ => 0))), (ad75, .inl (tI, 2048, .inl (fun _ => 0))), (ad78, .inl (tI, 8200, .inl (fun _ => 0)))] H := hP
  have hD : va_D A [(a_t, .inr (7, [.int 0, .int 0, .int 0, .ref ad48, .ref ad51, .ref ad54, .int 0, .ref ad57, .ref ad60, .ref ad63, .ref ad66, .ref ad69, .ref ad72, .ref ad75, .int 0, .ref ad78, .null, .null, .int 0, .null, .null, .int 0, .int 0, .int 0, .int 0, .int 0, .int 0])), (ad48, .inl (tI, 3, .inl (fun _ => 0))), (ad51, .inl (tI, 3, .inl (fun _ => 0))), (ad54, .inl (tI, 4, .inl (fun _ => 0))), (ad57, .inl (tB, 262144, .inl (fun _ => 0))), (ad60, .inl (tI, 2048, .inl (fun _ => 0))), (ad63, .inl (tI, 2048, .inl (fun _ => 0))), (ad66, .inl (tI, 2048, .inl (fun _ => 0))), (ad69, .inl (tI, 2048, .inl (fun _ => 0))), (ad72, .inl (tI, 2048, .inl (fun _ => 0))), (ad75, .inl (tI, 2048, .inl (fun _ => 0))), (ad78, .inl (tI, 8200, .inl (fun _ => 0)))] := hD
  refine lv_aload_n hx hb d_Mo_init_96 rfl (lv_at hl 0 rfl) ?_
  refine lv_sipush (v := 8200) hx hb d_Mo_init_97 (by decide) ?_
  obtain ⟨nB82, sB83, hf, ha9, hb9⟩ := addc_of hf
  have hcc : 0 + 1 + 1 + 1 + 1 + 1 + 1 + 1 + 1 + 1 + 1 + 1 + 1 ≤ nc ∧ 0 + 3 + 3 + 4 + 262144 + 2048 + 2048 + 2048 + 2048 + 2048 + 2048 + 8200 + 8200 ≤ ns := ⟨by omega, by omega⟩
  have hc : 0 + 1 + 1 + 1 + 1 + 1 + 1 + 1 + 1 + 1 + 1 + 1 + 1 + nB82 ≤ nc ∧ 0 + 3 + 3 + 4 + 262144 + 2048 + 2048 + 2048 + 2048 + 2048 + 2048 + 8200 + 8200 + sB83 ≤ ns := ⟨by omega, by omega⟩
  refine va_newa (atype := .int) (ty := .int) (N' := 8200) (a0 := (8200, .inl (fun _ => 0))) hx hb (hts _ q_0) rfl hK hP hD hS hA (fun _ => rfl) (by decide) (by decide) (by decide) hcc.1 hcc.2 d_Mo_init_100 (fun ad81 cA9 H hK9 hP hD hS => ?_)
  obtain rfl := ty_one (i := 0) (j := 4) hK hK9 rfl rfl (by intro _ h9; cases h9)
  have hP : va_P (dC, dI) classes [(a_t, .inr (7, [.int 0, .int 0, .int 0, .ref ad48, .ref ad51, .ref ad54, .int 0, .ref ad57, .ref ad60, .ref ad63, .ref ad66, .ref ad69, .ref ad72, .ref ad75, .int 0, .ref ad78, .null, .null, .int 0, .null, .null, .int 0, .int 0, .int 0, .int 0, .int 0, .int 0])), (ad48, .inl (tI, 3, .inl (fun _ => 0))), (ad51, .inl (tI, 3, .inl (fun _ => 0))), (ad54, .inl (tI, 4, .inl (fun _ => 0))), (ad57, .inl (tB, 262144, .inl (fun _ => 0))), (ad60, .inl (tI, 2048, .inl (fun _ => 0))), (ad63, .inl (tI, 2048, .inl (fun _ => 0))), (ad66, .inl (tI, 2048, .inl (fun _ => 0))), (ad69, .inl (tI, 2048, .inl (fun _ => 0))), (ad72, .inl (tI, 2048, .inl (fun _ => 0))), (ad75, .inl (tI, 2048, .inl (fun _ => 0))), (ad78, .inl (tI, 8200, .inl (fun _ => 0))), (ad81, .inl (tI, 8200, .inl (fun _ => 0)))] H := hP
  have hD : va_D A [(a_t, .inr (7, [.int 0, .int 0, .int 0, .ref ad48, .ref ad51, .ref ad54, .int 0, .ref ad57, .ref ad60, .ref ad63, .ref ad66, .ref ad69, .ref ad72, .ref ad75, .int 0, .ref ad78, .null, .null, .int 0, .null, .null, .int 0, .int 0, .int 0, .int 0, .int 0, .int 0])), (ad48, .inl (tI, 3, .inl (fun _ => 0))), (ad51, .inl (tI, 3, .inl (fun _ => 0))), (ad54, .inl (tI, 4, .inl (fun _ => 0))), (ad57, .inl (tB, 262144, .inl (fun _ => 0))), (ad60, .inl (tI, 2048, .inl (fun _ => 0))), (ad63, .inl (tI, 2048, .inl (fun _ => 0))), (ad66, .inl (tI, 2048, .inl (fun _ => 0))), (ad69, .inl (tI, 2048, .inl (fun _ => 0))), (ad72, .inl (tI, 2048, .inl (fun _ => 0))), (ad75, .inl (tI, 2048, .inl (fun _ => 0))), (ad78, .inl (tI, 8200, .inl (fun _ => 0))), (ad81, .inl (tI, 8200, .inl (fun _ => 0)))] := hD
  refine va_putF (D := (dC, dI)) (ci := 7) (v := .ref ad81) (ty := t_Mo 16) (C := R_Mo) (T := F_Mo) (N := 27) hx hb hts i_Mo t_Mo t_Mo_ok n_Mo hown hK hP hD hS 0 rfl rfl 16 (by decide) (hts _ q_211) (fun _ h9 => h9) rfl hin rfl (t_Mo_ok 16 (by decide)) rfl rfl (Nat.le_of_ble_eq_true rfl) d_Mo_init_102 (fun H locs hP hD hS => ?_)
  have hP : va_P (dC, dI) classes [(a_t, .inr (7, [.int 0, .int 0, .int 0, .ref ad48, .ref ad51, .ref ad54, .int 0, .ref ad57, .ref ad60, .ref ad63, .ref ad66, .ref ad69, .ref ad72, .ref ad75, .int 0, .ref ad78, .ref ad81, .null, .int 0, .null, .null, .int 0, .int 0, .int 0, .int 0, .int 0, .int 0])), (ad48, .inl (tI, 3, .inl (fun _ => 0))), (ad51, .inl (tI, 3, .inl (fun _ => 0))), (ad54, .inl (tI, 4, .inl (fun _ => 0))), (ad57, .inl (tB, 262144, .inl (fun _ => 0))), (ad60, .inl (tI, 2048, .inl (fun _ => 0))), (ad63, .inl (tI, 2048, .inl (fun _ => 0))), (ad66, .inl (tI, 2048, .inl (fun _ => 0))), (ad69, .inl (tI, 2048, .inl (fun _ => 0))), (ad72, .inl (tI, 2048, .inl (fun _ => 0))), (ad75, .inl (tI, 2048, .inl (fun _ => 0))), (ad78, .inl (tI, 8200, .inl (fun _ => 0))), (ad81, .inl (tI, 8200, .inl (fun _ => 0)))] H := hP
  have hD : va_D A [(a_t, .inr (7, [.int 0, .int 0, .int 0, .ref ad48, .ref ad51, .ref ad54, .int 0, .ref ad57, .ref ad60, .ref ad63, .ref ad66, .ref ad69, .ref ad72, .ref ad75, .int 0, .ref ad78, .ref ad81, .null, .int 0, .null, .null, .int 0, .int 0, .int 0, .int 0, .int 0, .int 0])), (ad48, .inl (tI, 3, .inl (fun _ => 0))), (ad51, .inl (tI, 3, .inl (fun _ => 0))), (ad54, .inl (tI, 4, .inl (fun _ => 0))), (ad57, .inl (tB, 262144, .inl (fun _ => 0))), (ad60, .inl (tI, 2048, .inl (fun _ => 0))), (ad63, .inl (tI, 2048, .inl (fun _ => 0))), (ad66, .inl (tI, 2048, .inl (fun _ => 0))), (ad69, .inl (tI, 2048, .inl (fun _ => 0))), (ad72, .inl (tI, 2048, .inl (fun _ => 0))), (ad75, .inl (tI, 2048, .inl (fun _ => 0))), (ad78, .inl (tI, 8200, .inl (fun _ => 0))), (ad81, .inl (tI, 8200, .inl (fun _ => 0)))] := hD
  refine lv_aload_n hx hb d_Mo_init_105 rfl (lv_at hl 0 rfl) ?_
  refine lv_iconst (v := 2) hx hb d_Mo_init_106 (by decide) ?_
  obtain ⟨nB85, sB86, hf, ha9, hb9⟩ := addc_of hf
  have hcc : 0 + 1 + 1 + 1 + 1 + 1 + 1 + 1 + 1 + 1 + 1 + 1 + 1 + 1 ≤ nc ∧ 0 + 3 + 3 + 4 + 262144 + 2048 + 2048 + 2048 + 2048 + 2048 + 2048 + 8200 + 8200 + 2 ≤ ns := ⟨by omega, by omega⟩
  have hc : 0 + 1 + 1 + 1 + 1 + 1 + 1 + 1 + 1 + 1 + 1 + 1 + 1 + 1 + nB85 ≤ nc ∧ 0 + 3 + 3 + 4 + 262144 + 2048 + 2048 + 2048 + 2048 + 2048 + 2048 + 8200 + 8200 + 2 + sB86 ≤ ns := ⟨by omega, by omega⟩
  refine va_newa (atype := .int) (ty := .int) (N' := 2) (a0 := (2, .inl (fun _ => 0))) hx hb (hts _ q_0) rfl hK hP hD hS hA (fun _ => rfl) (by decide) (by decide) (by decide) hcc.1 hcc.2 d_Mo_init_107 (fun ad84 cA9 H hK9 hP hD hS => ?_)
  obtain rfl := ty_one (i := 0) (j := 4) hK hK9 rfl rfl (by intro _ h9; cases h9)
  have hP : va_P (dC, dI) classes [(a_t, .inr (7, [.int 0, .int 0, .int 0, .ref ad48, .ref ad51, .ref ad54, .int 0, .ref ad57, .ref ad60, .ref ad63, .ref ad66, .ref ad69, .ref ad72, .ref ad75, .int 0, .ref ad78, .ref ad81, .null, .int 0, .null, .null, .int 0, .int 0, .int 0, .int 0, .int 0, .int 0])), (ad48, .inl (tI, 3, .inl (fun _ => 0))), (ad51, .inl (tI, 3, .inl (fun _ => 0))), (ad54, .inl (tI, 4, .inl (fun _ => 0))), (ad57, .inl (tB, 262144, .inl (fun _ => 0))), (ad60, .inl (tI, 2048, .inl (fun _ => 0))), (ad63, .inl (tI, 2048, .inl (fun _ => 0))), (ad66, .inl (tI, 2048, .inl (fun _ => 0))), (ad69, .inl (tI, 2048, .inl (fun _ => 0))), (ad72, .inl (tI, 2048, .inl (fun _ => 0))), (ad75, .inl (tI, 2048, .inl (fun _ => 0))), (ad78, .inl (tI, 8200, .inl (fun _ => 0))), (ad81, .inl (tI, 8200, .inl (fun _ => 0))), (ad84, .inl (tI, 2, .inl (fun _ => 0)))] H := hP
  have hD : va_D A [(a_t, .inr (7, [.int 0, .int 0, .int 0, .ref ad48, .ref ad51, .ref ad54, .int 0, .ref ad57, .ref ad60, .ref ad63, .ref ad66, .ref ad69, .ref ad72, .ref ad75, .int 0, .ref ad78, .ref ad81, .null, .int 0, .null, .null, .int 0, .int 0, .int 0, .int 0, .int 0, .int 0])), (ad48, .inl (tI, 3, .inl (fun _ => 0))), (ad51, .inl (tI, 3, .inl (fun _ => 0))), (ad54, .inl (tI, 4, .inl (fun _ => 0))), (ad57, .inl (tB, 262144, .inl (fun _ => 0))), (ad60, .inl (tI, 2048, .inl (fun _ => 0))), (ad63, .inl (tI, 2048, .inl (fun _ => 0))), (ad66, .inl (tI, 2048, .inl (fun _ => 0))), (ad69, .inl (tI, 2048, .inl (fun _ => 0))), (ad72, .inl (tI, 2048, .inl (fun _ => 0))), (ad75, .inl (tI, 2048, .inl (fun _ => 0))), (ad78, .inl (tI, 8200, .inl (fun _ => 0))), (ad81, .inl (tI, 8200, .inl (fun _ => 0))), (ad84, .inl (tI, 2, .inl (fun _ => 0)))] := hD
  refine va_putF (D := (dC, dI)) (ci := 7) (v := .ref ad84) (ty := t_Mo 17) (C := R_Mo) (T := F_Mo) (N := 27) hx hb hts i_Mo t_Mo t_Mo_ok n_Mo hown hK hP hD hS 0 rfl rfl 17 (by decide) (hts _ q_229) (fun _ h9 => h9) rfl hin rfl (t_Mo_ok 17 (by decide)) rfl rfl (Nat.le_of_ble_eq_true rfl) d_Mo_init_109 (fun H locs hP hD hS => ?_)
  have hP : va_P (dC, dI) classes [(a_t, .inr (7, [.int 0, .int 0, .int 0, .ref ad48, .ref ad51, .ref ad54, .int 0, .ref ad57, .ref ad60, .ref ad63, .ref ad66, .ref ad69, .ref ad72, .ref ad75, .int 0, .ref ad78, .ref ad81, .ref ad84, .int 0, .null, .null, .int 0, .int 0, .int 0, .int 0, .int 0, .int 0])), (ad48, .inl (tI, 3, .inl (fun _ => 0))), (ad51, .inl (tI, 3, .inl (fun _ => 0))), (ad54, .inl (tI, 4, .inl (fun _ => 0))), (ad57, .inl (tB, 262144, .inl (fun _ => 0))), (ad60, .inl (tI, 2048, .inl (fun _ => 0))), (ad63, .inl (tI, 2048, .inl (fun _ => 0))), (ad66, .inl (tI, 2048, .inl (fun _ => 0))), (ad69, .inl (tI, 2048, .inl (fun _ => 0))), (ad72, .inl (tI, 2048, .inl (fun _ => 0))), (ad75, .inl (tI, 2048, .inl (fun _ => 0))), (ad78, .inl (tI, 8200, .inl (fun _ => 0))), (ad81, .inl (tI, 8200, .inl (fun _ => 0))), (ad84, .inl (tI, 2, .inl (fun _ => 0)))] H := hP
  have hD : va_D A [(a_t, .inr (7, [.int 0, .int 0, .int 0, .ref ad48, .ref ad51, .ref ad54, .int 0, .ref ad57, .ref ad60, .ref ad63, .ref ad66, .ref ad69, .ref ad72, .ref ad75, .int 0, .ref ad78, .ref ad81, .ref ad84, .int 0, .null, .null, .int 0, .int 0, .int 0, .int 0, .int 0, .int 0])), (ad48, .inl (tI, 3, .inl (fun _ => 0))), (ad51, .inl (tI, 3, .inl (fun _ => 0))), (ad54, .inl (tI, 4, .inl (fun _ => 0))), (ad57, .inl (tB, 262144, .inl (fun _ => 0))), (ad60, .inl (tI, 2048, .inl (fun _ => 0))), (ad63, .inl (tI, 2048, .inl (fun _ => 0))), (ad66, .inl (tI, 2048, .inl (fun _ => 0))), (ad69, .inl (tI, 2048, .inl (fun _ => 0))), (ad72, .inl (tI, 2048, .inl (fun _ => 0))), (ad75, .inl (tI, 2048, .inl (fun _ => 0))), (ad78, .inl (tI, 8200, .inl (fun _ => 0))), (ad81, .inl (tI, 8200, .inl (fun _ => 0))), (ad84, .inl (tI, 2, .inl (fun _ => 0)))] := hD
  refine lv_aload_n hx hb d_Mo_init_112 rfl (lv_at hl 0 rfl) ?_
  refine lv_sipush (v := 24576) hx hb d_Mo_init_113 (by decide) ?_
  obtain ⟨nB88, sB89, hf, ha9, hb9⟩ := addc_of hf
  have hcc : 0 + 1 + 1 + 1 + 1 + 1 + 1 + 1 + 1 + 1 + 1 + 1 + 1 + 1 + 1 ≤ nc ∧ 0 + 3 + 3 + 4 + 262144 + 2048 + 2048 + 2048 + 2048 + 2048 + 2048 + 8200 + 8200 + 2 + 24576 ≤ ns := ⟨by omega, by omega⟩
  have hc : 0 + 1 + 1 + 1 + 1 + 1 + 1 + 1 + 1 + 1 + 1 + 1 + 1 + 1 + 1 + nB88 ≤ nc ∧ 0 + 3 + 3 + 4 + 262144 + 2048 + 2048 + 2048 + 2048 + 2048 + 2048 + 8200 + 8200 + 2 + 24576 + sB89 ≤ ns := ⟨by omega, by omega⟩
  refine va_newa (atype := .int) (ty := .int) (N' := 24576) (a0 := (24576, .inl (fun _ => 0))) hx hb (hts _ q_0) rfl hK hP hD hS hA (fun _ => rfl) (by decide) (by decide) (by decide) hcc.1 hcc.2 d_Mo_init_116 (fun ad87 cA9 H hK9 hP hD hS => ?_)
  obtain rfl := ty_one (i := 0) (j := 4) hK hK9 rfl rfl (by intro _ h9; cases h9)
  have hP : va_P (dC, dI) classes [(a_t, .inr (7, [.int 0, .int 0, .int 0, .ref ad48, .ref ad51, .ref ad54, .int 0, .ref ad57, .ref ad60, .ref ad63, .ref ad66, .ref ad69, .ref ad72, .ref ad75, .int 0, .ref ad78, .ref ad81, .ref ad84, .int 0, .null, .null, .int 0, .int 0, .int 0, .int 0, .int 0, .int 0])), (ad48, .inl (tI, 3, .inl (fun _ => 0))), (ad51, .inl (tI, 3, .inl (fun _ => 0))), (ad54, .inl (tI, 4, .inl (fun _ => 0))), (ad57, .inl (tB, 262144, .inl (fun _ => 0))), (ad60, .inl (tI, 2048, .inl (fun _ => 0))), (ad63, .inl (tI, 2048, .inl (fun _ => 0))), (ad66, .inl (tI, 2048, .inl (fun _ => 0))), (ad69, .inl (tI, 2048, .inl (fun _ => 0))), (ad72, .inl (tI, 2048, .inl (fun _ => 0))), (ad75, .inl (tI, 2048, .inl (fun _ => 0))), (ad78, .inl (tI, 8200, .inl (fun _ => 0))), (ad81, .inl (tI, 8200, .inl (fun _ => 0))), (ad84, .inl (tI, 2, .inl (fun _ => 0))), (ad87, .inl (tI, 24576, .inl (fun _ => 0)))] H := hP
  have hD : va_D A [(a_t, .inr (7, [.int 0, .int 0, .int 0, .ref ad48, .ref ad51, .ref ad54, .int 0, .ref ad57, .ref ad60, .ref ad63, .ref ad66, .ref ad69, .ref ad72, .ref ad75, .int 0, .ref ad78, .ref ad81, .ref ad84, .int 0, .null, .null, .int 0, .int 0, .int 0, .int 0, .int 0, .int 0])), (ad48, .inl (tI, 3, .inl (fun _ => 0))), (ad51, .inl (tI, 3, .inl (fun _ => 0))), (ad54, .inl (tI, 4, .inl (fun _ => 0))), (ad57, .inl (tB, 262144, .inl (fun _ => 0))), (ad60, .inl (tI, 2048, .inl (fun _ => 0))), (ad63, .inl (tI, 2048, .inl (fun _ => 0))), (ad66, .inl (tI, 2048, .inl (fun _ => 0))), (ad69, .inl (tI, 2048, .inl (fun _ => 0))), (ad72, .inl (tI, 2048, .inl (fun _ => 0))), (ad75, .inl (tI, 2048, .inl (fun _ => 0))), (ad78, .inl (tI, 8200, .inl (fun _ => 0))), (ad81, .inl (tI, 8200, .inl (fun _ => 0))), (ad84, .inl (tI, 2, .inl (fun _ => 0))), (ad87, .inl (tI, 24576, .inl (fun _ => 0)))] := hD
  refine va_putF (D := (dC, dI)) (ci := 7) (v := .ref ad87) (ty := t_Mo 19) (C := R_Mo) (T := F_Mo) (N := 27) hx hb hts i_Mo t_Mo t_Mo_ok n_Mo hown hK hP hD hS 0 rfl rfl 19 (by decide) (hts _ q_230) (fun _ h9 => h9) rfl hin rfl (t_Mo_ok 19 (by decide)) rfl rfl (Nat.le_of_ble_eq_true rfl) d_Mo_init_118 (fun H locs hP hD hS => ?_)
  have hP : va_P (dC, dI) classes [(a_t, .inr (7, [.int 0, .int 0, .int 0, .ref ad48, .ref ad51, .ref ad54, .int 0, .ref ad57, .ref ad60, .ref ad63, .ref ad66, .ref ad69, .ref ad72, .ref ad75, .int 0, .ref ad78, .ref ad81, .ref ad84, .int 0, .ref ad87, .null, .int 0, .int 0, .int 0, .int 0, .int 0, .int 0])), (ad48, .inl (tI, 3, .inl (fun _ => 0))), (ad51, .inl (tI, 3, .inl (fun _ => 0))), (ad54, .inl (tI, 4, .inl (fun _ => 0))), (ad57, .inl (tB, 262144, .inl (fun _ => 0))), (ad60, .inl (tI, 2048, .inl (fun _ => 0))), (ad63, .inl (tI, 2048, .inl (fun _ => 0))), (ad66, .inl (tI, 2048, .inl (fun _ => 0))), (ad69, .inl (tI, 2048, .inl (fun _ => 0))), (ad72, .inl (tI, 2048, .inl (fun _ => 0))), (ad75, .inl (tI, 2048, .inl (fun _ => 0))), (ad78, .inl (tI, 8200, .inl (fun _ => 0))), (ad81, .inl (tI, 8200, .inl (fun _ => 0))), (ad84, .inl (tI, 2, .inl (fun _ => 0))), (ad87, .inl (tI, 24576, .inl (fun _ => 0)))] H := hP
  have hD : va_D A [(a_t, .inr (7, [.int 0, .int 0, .int 0, .ref ad48, .ref ad51, .ref ad54, .int 0, .ref ad57, .ref ad60, .ref ad63, .ref ad66, .ref ad69, .ref ad72, .ref ad75, .int 0, .ref ad78, .ref ad81, .ref ad84, .int 0, .ref ad87, .null, .int 0, .int 0, .int 0, .int 0, .int 0, .int 0])), (ad48, .inl (tI, 3, .inl (fun _ => 0))), (ad51, .inl (tI, 3, .inl (fun _ => 0))), (ad54, .inl (tI, 4, .inl (fun _ => 0))), (ad57, .inl (tB, 262144, .inl (fun _ => 0))), (ad60, .inl (tI, 2048, .inl (fun _ => 0))), (ad63, .inl (tI, 2048, .inl (fun _ => 0))), (ad66, .inl (tI, 2048, .inl (fun _ => 0))), (ad69, .inl (tI, 2048, .inl (fun _ => 0))), (ad72, .inl (tI, 2048, .inl (fun _ => 0))), (ad75, .inl (tI, 2048, .inl (fun _ => 0))), (ad78, .inl (tI, 8200, .inl (fun _ => 0))), (ad81, .inl (tI, 8200, .inl (fun _ => 0))), (ad84, .inl (tI, 2, .inl (fun _ => 0))), (ad87, .inl (tI, 24576, .inl (fun _ => 0)))] := hD
  refine lv_aload_n hx hb d_Mo_init_121 rfl (lv_at hl 0 rfl) ?_
  refine lv_sipush (v := 24576) hx hb d_Mo_init_122 (by decide) ?_
  obtain ⟨nB91, sB92, hf, ha9, hb9⟩ := addc_of hf
  have hcc : 0 + 1 + 1 + 1 + 1 + 1 + 1 + 1 + 1 + 1 + 1 + 1 + 1 + 1 + 1 + 1 ≤ nc ∧ 0 + 3 + 3 + 4 + 262144 + 2048 + 2048 + 2048 + 2048 + 2048 + 2048 + 8200 + 8200 + 2 + 24576 + 24576 ≤ ns := ⟨by omega, by omega⟩
  have hc : 0 + 1 + 1 + 1 + 1 + 1 + 1 + 1 + 1 + 1 + 1 + 1 + 1 + 1 + 1 + 1 + nB91 ≤ nc ∧ 0 + 3 + 3 + 4 + 262144 + 2048 + 2048 + 2048 + 2048 + 2048 + 2048 + 8200 + 8200 + 2 + 24576 + 24576 + sB92 ≤ ns := ⟨by omega, by omega⟩
  refine va_newa (atype := .boolean) (ty := .boolean) (N' := 24576) (a0 := (24576, .inl (fun _ => 0))) hx hb (hts _ q_231) rfl hK hP hD hS hA (fun _ => rfl) (by decide) (by decide) (by decide) hcc.1 hcc.2 d_Mo_init_125 (fun ad90 cA9 H hK9 hP hD hS => ?_)
  obtain rfl := ty_one (i := 3) (j := 4) hK hK9 rfl rfl (by intro _ h9; cases h9)
  have hP : va_P (dC, dI) classes [(a_t, .inr (7, [.int 0, .int 0, .int 0, .ref ad48, .ref ad51, .ref ad54, .int 0, .ref ad57, .ref ad60, .ref ad63, .ref ad66, .ref ad69, .ref ad72, .ref ad75, .int 0, .ref ad78, .ref ad81, .ref ad84, .int 0, .ref ad87, .null, .int 0, .int 0, .int 0, .int 0, .int 0, .int 0])), (ad48, .inl (tI, 3, .inl (fun _ => 0))), (ad51, .inl (tI, 3, .inl (fun _ => 0))), (ad54, .inl (tI, 4, .inl (fun _ => 0))), (ad57, .inl (tB, 262144, .inl (fun _ => 0))), (ad60, .inl (tI, 2048, .inl (fun _ => 0))), (ad63, .inl (tI, 2048, .inl (fun _ => 0))), (ad66, .inl (tI, 2048, .inl (fun _ => 0))), (ad69, .inl (tI, 2048, .inl (fun _ => 0))), (ad72, .inl (tI, 2048, .inl (fun _ => 0))), (ad75, .inl (tI, 2048, .inl (fun _ => 0))), (ad78, .inl (tI, 8200, .inl (fun _ => 0))), (ad81, .inl (tI, 8200, .inl (fun _ => 0))), (ad84, .inl (tI, 2, .inl (fun _ => 0))), (ad87, .inl (tI, 24576, .inl (fun _ => 0))), (ad90, .inl (tZ, 24576, .inl (fun _ => 0)))] H := hP
  have hD : va_D A [(a_t, .inr (7, [.int 0, .int 0, .int 0, .ref ad48, .ref ad51, .ref ad54, .int 0, .ref ad57, .ref ad60, .ref ad63, .ref ad66, .ref ad69, .ref ad72, .ref ad75, .int 0, .ref ad78, .ref ad81, .ref ad84, .int 0, .ref ad87, .null, .int 0, .int 0, .int 0, .int 0, .int 0, .int 0])), (ad48, .inl (tI, 3, .inl (fun _ => 0))), (ad51, .inl (tI, 3, .inl (fun _ => 0))), (ad54, .inl (tI, 4, .inl (fun _ => 0))), (ad57, .inl (tB, 262144, .inl (fun _ => 0))), (ad60, .inl (tI, 2048, .inl (fun _ => 0))), (ad63, .inl (tI, 2048, .inl (fun _ => 0))), (ad66, .inl (tI, 2048, .inl (fun _ => 0))), (ad69, .inl (tI, 2048, .inl (fun _ => 0))), (ad72, .inl (tI, 2048, .inl (fun _ => 0))), (ad75, .inl (tI, 2048, .inl (fun _ => 0))), (ad78, .inl (tI, 8200, .inl (fun _ => 0))), (ad81, .inl (tI, 8200, .inl (fun _ => 0))), (ad84, .inl (tI, 2, .inl (fun _ => 0))), (ad87, .inl (tI, 24576, .inl (fun _ => 0))), (ad90, .inl (tZ, 24576, .inl (fun _ => 0)))] := hD
  refine va_putF (D := (dC, dI)) (ci := 7) (v := .ref ad90) (ty := t_Mo 20) (C := R_Mo) (T := F_Mo) (N := 27) hx hb hts i_Mo t_Mo t_Mo_ok n_Mo hown hK hP hD hS 0 rfl rfl 20 (by decide) (hts _ q_232) (fun _ h9 => h9) rfl hin rfl (t_Mo_ok 20 (by decide)) rfl rfl (Nat.le_of_ble_eq_true rfl) d_Mo_init_127 (fun H locs hP hD hS => ?_)
  have hP : va_P (dC, dI) classes [(a_t, .inr (7, [.int 0, .int 0, .int 0, .ref ad48, .ref ad51, .ref ad54, .int 0, .ref ad57, .ref ad60, .ref ad63, .ref ad66, .ref ad69, .ref ad72, .ref ad75, .int 0, .ref ad78, .ref ad81, .ref ad84, .int 0, .ref ad87, .ref ad90, .int 0, .int 0, .int 0, .int 0, .int 0, .int 0])), (ad48, .inl (tI, 3, .inl (fun _ => 0))), (ad51, .inl (tI, 3, .inl (fun _ => 0))), (ad54, .inl (tI, 4, .inl (fun _ => 0))), (ad57, .inl (tB, 262144, .inl (fun _ => 0))), (ad60, .inl (tI, 2048, .inl (fun _ => 0))), (ad63, .inl (tI, 2048, .inl (fun _ => 0))), (ad66, .inl (tI, 2048, .inl (fun _ => 0))), (ad69, .inl (tI, 2048, .inl (fun _ => 0))), (ad72, .inl (tI, 2048, .inl (fun _ => 0))), (ad75, .inl (tI, 2048, .inl (fun _ => 0))), (ad78, .inl (tI, 8200, .inl (fun _ => 0))), (ad81, .inl (tI, 8200, .inl (fun _ => 0))), (ad84, .inl (tI, 2, .inl (fun _ => 0))), (ad87, .inl (tI, 24576, .inl (fun _ => 0))), (ad90, .inl (tZ, 24576, .inl (fun _ => 0)))] H := hP
  have hD : va_D A [(a_t, .inr (7, [.int 0, .int 0, .int 0, .ref ad48, .ref ad51, .ref ad54, .int 0, .ref ad57, .ref ad60, .ref ad63, .ref ad66, .ref ad69, .ref ad72, .ref ad75, .int 0, .ref ad78, .ref ad81, .ref ad84, .int 0, .ref ad87, .ref ad90, .int 0, .int 0, .int 0, .int 0, .int 0, .int 0])), (ad48, .inl (tI, 3, .inl (fun _ => 0))), (ad51, .inl (tI, 3, .inl (fun _ => 0))), (ad54, .inl (tI, 4, .inl (fun _ => 0))), (ad57, .inl (tB, 262144, .inl (fun _ => 0))), (ad60, .inl (tI, 2048, .inl (fun _ => 0))), (ad63, .inl (tI, 2048, .inl (fun _ => 0))), (ad66, .inl (tI, 2048, .inl (fun _ => 0))), (ad69, .inl (tI, 2048, .inl (fun _ => 0))), (ad72, .inl (tI, 2048, .inl (fun _ => 0))), (ad75, .inl (tI, 2048, .inl (fun _ => 0))), (ad78, .inl (tI, 8200, .inl (fun _ => 0))), (ad81, .inl (tI, 8200, .inl (fun _ => 0))), (ad84, .inl (tI, 2, .inl (fun _ => 0))), (ad87, .inl (tI, 24576, .inl (fun _ => 0))), (ad90, .inl (tZ, 24576, .inl (fun _ => 0)))] := hD
  refine lv_aload_n hx hb d_Mo_init_130 rfl (lv_at hl 0 rfl) ?_
  refine lv_iconst (v := 0) hx hb d_Mo_init_131 (by decide) ?_
  obtain ⟨u93, hu, hf⟩ := bd_of hf
  refine jn_v (wc := [(a_t, .inr (7, [.int 0, .int 0, .int 0, .ref ad48, .ref ad51, .ref ad54, .int 0, .ref ad57, .ref ad60, .ref ad63, .ref ad66, .ref ad69, .ref ad72, .ref ad75, .int 0, .ref ad78, .ref ad81, .ref ad84, .int 0, .ref ad87, .ref ad90, .int 0, .int 0, .int 0, .int 0, .int 0, .int 0])), (ad60, .inl (tI, 2048, .inl (fun _ => 0))), (ad63, .inl (tI, 2048, .inl (fun _ => 0))), (ad66, .inl (tI, 2048, .inl (fun _ => 0))), (ad69, .inl (tI, 2048, .inl (fun _ => 0))), (ad72, .inl (tI, 2048, .inl (fun _ => 0))), (ad78, .inl (tI, 8200, .inl (fun _ => 0))), (ad81, .inl (tI, 8200, .inl (fun _ => 0))), (ad75, .inl (tI, 2048, .inl (fun _ => 0)))]) (wr := [(ad48, .inl (tI, 3, .inl (fun _ => 0))), (ad51, .inl (tI, 3, .inl (fun _ => 0))), (ad54, .inl (tI, 4, .inl (fun _ => 0))), (ad57, .inl (tB, 262144, .inl (fun _ => 0))), (ad84, .inl (tI, 2, .inl (fun _ => 0))), (ad87, .inl (tI, 24576, .inl (fun _ => 0))), (ad90, .inl (tZ, 24576, .inl (fun _ => 0)))]) (va_runV (As := [.int 0]) (rest := []) ⟨hx, hb, hml, hown, hts⟩ (c_Mo_fresh l dC dI tI tB tL tZ a_t ad60 ad63 ad66 ad69 ad72 ad78 ad81 ad75 ad48 ad51 ad54 ad57 ad84 ad87 ad90 H.size 0 0 0 0 0 0 0 0 0 0 0 0 2048 (fun _ => 0) 2048 (fun _ => 0) 2048 (fun _ => 0) 2048 (fun _ => 0) 2048 (fun _ => 0) 8200 (fun _ => 0) 8200 (fun _ => 0) 2048 (fun _ => 0) 0 F u93 hu) (cv_of hts q_234 q_214 q_233 q_235 q_236 hd_Mo_fresh ⟨Nat.le_of_ble_eq_true rfl, Nat.le_of_ble_eq_true rfl⟩) (pr_V (ci := 7) (C := R_Mo) (q0 := 0) hK hN (hP.sub [0, 5, 6, 7, 8, 9, 11, 12, 10] rfl) (hD.sub [0, 5, 6, 7, 8, 9, 11, 12, 10] (by decide) rfl) rfl rfl) rfl rfl hl.1 rfl (lv_room (Nat.le_of_ble_eq_true rfl)) d_Mo_init_132 ⟨Nat.le_trans (Nat.le_add_right _ _) hc.1, Nat.le_trans (Nat.le_add_right _ _) hc.2⟩) hP hD hS hA [0, 5, 6, 7, 8, 9, 11, 12, 10] [1, 2, 3, 4, 13, 14, 15] rfl rfl (by decide) (by decide) (fun _ H locs hP hD hS => ?_)
  have hP : va_P (dC, dI) classes [(ad48, .inl (tI, 3, .inl (fun _ => 0))), (ad51, .inl (tI, 3, .inl (fun _ => 0))), (ad54, .inl (tI, 4, .inl (fun _ => 0))), (ad57, .inl (tB, 262144, .inl (fun _ => 0))), (ad84, .inl (tI, 2, .inl (fun _ => 0))), (ad87, .inl (tI, 24576, .inl (fun _ => 0))), (ad90, .inl (tZ, 24576, .inl (fun _ => 0))), (a_t, .inr (7, [.int 0, .int 0, .int 0, .ref ad48, .ref ad51, .ref ad54, .int 0, .ref ad57, .ref ad60, .ref ad63, .ref ad66, .ref ad69, .ref ad72, .ref ad75, .int u93.1, .ref ad78, .ref ad81, .ref ad84, .int 0, .ref ad87, .ref ad90, .int 0, .int 0, .int 0, .int 0, .int 0, .int 0])), (ad60, .inl (tI, 2048, .inl u93.2.1)), (ad63, .inl (tI, 2048, .inl u93.2.2.1)), (ad66, .inl (tI, 2048, .inl u93.2.2.2.1)), (ad69, .inl (tI, 2048, .inl u93.2.2.2.2.1)), (ad72, .inl (tI, 2048, .inl u93.2.2.2.2.2.1)), (ad78, .inl (tI, 8200, .inl u93.2.2.2.2.2.2.1)), (ad81, .inl (tI, 8200, .inl u93.2.2.2.2.2.2.2.1)), (ad75, .inl (tI, 2048, .inl u93.2.2.2.2.2.2.2.2))] H := hP
  have hD : va_D A [(ad48, .inl (tI, 3, .inl (fun _ => 0))), (ad51, .inl (tI, 3, .inl (fun _ => 0))), (ad54, .inl (tI, 4, .inl (fun _ => 0))), (ad57, .inl (tB, 262144, .inl (fun _ => 0))), (ad84, .inl (tI, 2, .inl (fun _ => 0))), (ad87, .inl (tI, 24576, .inl (fun _ => 0))), (ad90, .inl (tZ, 24576, .inl (fun _ => 0))), (a_t, .inr (7, [.int 0, .int 0, .int 0, .ref ad48, .ref ad51, .ref ad54, .int 0, .ref ad57, .ref ad60, .ref ad63, .ref ad66, .ref ad69, .ref ad72, .ref ad75, .int u93.1, .ref ad78, .ref ad81, .ref ad84, .int 0, .ref ad87, .ref ad90, .int 0, .int 0, .int 0, .int 0, .int 0, .int 0])), (ad60, .inl (tI, 2048, .inl u93.2.1)), (ad63, .inl (tI, 2048, .inl u93.2.2.1)), (ad66, .inl (tI, 2048, .inl u93.2.2.2.1)), (ad69, .inl (tI, 2048, .inl u93.2.2.2.2.1)), (ad72, .inl (tI, 2048, .inl u93.2.2.2.2.2.1)), (ad78, .inl (tI, 8200, .inl u93.2.2.2.2.2.2.1)), (ad81, .inl (tI, 8200, .inl u93.2.2.2.2.2.2.2.1)), (ad75, .inl (tI, 2048, .inl u93.2.2.2.2.2.2.2.2))] := hD
  refine lv_aload_n hx hb d_Mo_init_135 rfl (lv_at hl 0 rfl) ?_
  refine lv_sipush (v := 1024) hx hb d_Mo_init_136 (by decide) ?_
  obtain ⟨u94, hu, hf⟩ := bd_of hf
  refine jn_v (wc := [(a_t, .inr (7, [.int 0, .int 0, .int 0, .ref ad48, .ref ad51, .ref ad54, .int 0, .ref ad57, .ref ad60, .ref ad63, .ref ad66, .ref ad69, .ref ad72, .ref ad75, .int u93.1, .ref ad78, .ref ad81, .ref ad84, .int 0, .ref ad87, .ref ad90, .int 0, .int 0, .int 0, .int 0, .int 0, .int 0])), (ad60, .inl (tI, 2048, .inl u93.2.1)), (ad63, .inl (tI, 2048, .inl u93.2.2.1)), (ad66, .inl (tI, 2048, .inl u93.2.2.2.1)), (ad69, .inl (tI, 2048, .inl u93.2.2.2.2.1)), (ad72, .inl (tI, 2048, .inl u93.2.2.2.2.2.1)), (ad78, .inl (tI, 8200, .inl u93.2.2.2.2.2.2.1)), (ad81, .inl (tI, 8200, .inl u93.2.2.2.2.2.2.2.1)), (ad75, .inl (tI, 2048, .inl u93.2.2.2.2.2.2.2.2))]) (wr := [(ad48, .inl (tI, 3, .inl (fun _ => 0))), (ad51, .inl (tI, 3, .inl (fun _ => 0))), (ad54, .inl (tI, 4, .inl (fun _ => 0))), (ad57, .inl (tB, 262144, .inl (fun _ => 0))), (ad84, .inl (tI, 2, .inl (fun _ => 0))), (ad87, .inl (tI, 24576, .inl (fun _ => 0))), (ad90, .inl (tZ, 24576, .inl (fun _ => 0)))]) (va_runV (As := [.int 1024]) (rest := []) ⟨hx, hb, hml, hown, hts⟩ (c_Mo_fresh l dC dI tI tB tL tZ a_t ad60 ad63 ad66 ad69 ad72 ad78 ad81 ad75 ad48 ad51 ad54 ad57 ad84 ad87 ad90 H.size 0 0 0 0 u93.1 0 0 0 0 0 0 0 2048 u93.2.1 2048 u93.2.2.1 2048 u93.2.2.2.1 2048 u93.2.2.2.2.1 2048 u93.2.2.2.2.2.1 8200 u93.2.2.2.2.2.2.1 8200 u93.2.2.2.2.2.2.2.1 2048 u93.2.2.2.2.2.2.2.2 1024 F u94 hu) (cv_of hts q_234 q_214 q_233 q_235 q_236 hd_Mo_fresh ⟨Nat.le_of_ble_eq_true rfl, Nat.le_of_ble_eq_true rfl⟩) (pr_V (ci := 7) (C := R_Mo) (q0 := 0) hK hN (hP.sub [7, 8, 9, 10, 11, 12, 13, 14, 15] rfl) (hD.sub [7, 8, 9, 10, 11, 12, 13, 14, 15] (by decide) rfl) rfl rfl) rfl rfl hl.1 rfl (lv_room (Nat.le_of_ble_eq_true rfl)) d_Mo_init_139 ⟨Nat.le_trans (Nat.le_add_right _ _) hc.1, Nat.le_trans (Nat.le_add_right _ _) hc.2⟩) hP hD hS hA [7, 8, 9, 10, 11, 12, 13, 14, 15] [0, 1, 2, 3, 4, 5, 6] rfl rfl (by decide) (by decide) (fun _ H locs hP hD hS => ?_)
  have hP : va_P (dC, dI) classes [(ad48, .inl (tI, 3, .inl (fun _ => 0))), (ad51, .inl (tI, 3, .inl (fun _ => 0))), (ad54, .inl (tI, 4, .inl (fun _ => 0))), (ad57, .inl (tB, 262144, .inl (fun _ => 0))), (ad84, .inl (tI, 2, .inl (fun _ => 0))), (ad87, .inl (tI, 24576, .inl (fun _ => 0))), (ad90, .inl (tZ, 24576, .inl (fun _ => 0))), (a_t, .inr (7, [.int 0, .int 0, .int 0, .ref ad48, .ref ad51, .ref ad54, .int 0, .ref ad57, .ref ad60, .ref ad63, .ref ad66, .ref ad69, .ref ad72, .ref ad75, .int u94.1, .ref ad78, .ref ad81, .ref ad84, .int 0, .ref ad87, .ref ad90, .int 0, .int 0, .int 0, .int 0, .int 0, .int 0])), (ad60, .inl (tI, 2048, .inl u94.2.1)), (ad63, .inl (tI, 2048, .inl u94.2.2.1)), (ad66, .inl (tI, 2048, .inl u94.2.2.2.1)), (ad69, .inl (tI, 2048, .inl u94.2.2.2.2.1)), (ad72, .inl (tI, 2048, .inl u94.2.2.2.2.2.1)), (ad78, .inl (tI, 8200, .inl u94.2.2.2.2.2.2.1)), (ad81, .inl (tI, 8200, .inl u94.2.2.2.2.2.2.2.1)), (ad75, .inl (tI, 2048, .inl u94.2.2.2.2.2.2.2.2))] H := hP
  have hD : va_D A [(ad48, .inl (tI, 3, .inl (fun _ => 0))), (ad51, .inl (tI, 3, .inl (fun _ => 0))), (ad54, .inl (tI, 4, .inl (fun _ => 0))), (ad57, .inl (tB, 262144, .inl (fun _ => 0))), (ad84, .inl (tI, 2, .inl (fun _ => 0))), (ad87, .inl (tI, 24576, .inl (fun _ => 0))), (ad90, .inl (tZ, 24576, .inl (fun _ => 0))), (a_t, .inr (7, [.int 0, .int 0, .int 0, .ref ad48, .ref ad51, .ref ad54, .int 0, .ref ad57, .ref ad60, .ref ad63, .ref ad66, .ref ad69, .ref ad72, .ref ad75, .int u94.1, .ref ad78, .ref ad81, .ref ad84, .int 0, .ref ad87, .ref ad90, .int 0, .int 0, .int 0, .int 0, .int 0, .int 0])), (ad60, .inl (tI, 2048, .inl u94.2.1)), (ad63, .inl (tI, 2048, .inl u94.2.2.1)), (ad66, .inl (tI, 2048, .inl u94.2.2.2.1)), (ad69, .inl (tI, 2048, .inl u94.2.2.2.2.1)), (ad72, .inl (tI, 2048, .inl u94.2.2.2.2.2.1)), (ad78, .inl (tI, 8200, .inl u94.2.2.2.2.2.2.1)), (ad81, .inl (tI, 8200, .inl u94.2.2.2.2.2.2.2.1)), (ad75, .inl (tI, 2048, .inl u94.2.2.2.2.2.2.2.2))] := hD
  have hf := Option.some.inj hf
  have hf : _ = u := congrArg (fun z => z.2.2) hf
  subst u
  exact ret _ _ _ _ _ _ (ad48, ad51, ad54, ad57, ad60, ad63, ad66, ad69, ad72, ad75, ad78, ad81, ad84, ad87, ad90) d_Mo_init_142 (hP.sub [7, 0, 1, 2, 3, 8, 9, 10, 11, 12, 15, 13, 14, 4, 5, 6] rfl) (hD.sub [7, 0, 1, 2, 3, 8, 9, 10, 11, 12, 15, 13, 14, 4, 5, 6] (by decide) rfl) hS (Nat.le_trans (Nat.le_add_right _ _) hc.1) (Nat.le_trans (Nat.le_add_right _ _) hc.2)
noncomputable def f_Mo_add (F : Nat) (t_pieces : Int32) (t_owner_N : Nat) (t_owner_F : Nat → Int32) (t_length_N : Nat) (t_length_F : Nat → Int32) (t_told_N : Nat) (t_told_F : Nat → Int32) (p0 : Int32) (p1 : Int32) : Option (Int32 × (Nat → Int32) × (Nat → Int32) × (Nat → Int32)) :=
asm (vp_in t_pieces t_owner_N) (asm (vp_in t_pieces t_length_N) (letb (t_pieces + 1) fun x4 =>
asm (vp_in p0 t_told_N) (letb (t_told_F p0.toNatClampNeg) fun x5 =>
letb (x5 + 1) fun x6 =>
asm (vp_in p0 t_told_N) (some (x4, (upd t_owner_F t_pieces.toNatClampNeg p0), (upd t_length_F t_pieces.toNatClampNeg p1), (upd t_told_F p0.toNatClampNeg x6))))))
set_option maxHeartbeats 4000000 in
set_option maxRecDepth 100000 in
theorem c_Mo_add (l : Launch) (dC : Nat → ClassId) (dI : Nat → Nat → Nat) (tI tB tL tZ : ClassId) (a_t : Nat) (a_t_owner : Nat) (a_t_length : Nat) (a_t_told : Nat) (o_t_wide : Nat) (o_t_high : Nat) (o_t_begins : Nat) (o_t_bytes : Nat) (o_t_came : Nat) (o_t_width : Nat) (o_t_brings : Nat) (o_t_first : Nat) (o_t_missing : Nat) (o_t_layers : Nat) (o_t_low : Nat) (o_t_known : Nat) (sz : Nat) (t_thrown : Int32) (t_style : Int32) (t_bands : Int32) (t_size : Int32) (t_pieces : Int32) (t_over : Int32) (t_writing : Int32) (t_begin : Int32) (t_end : Int32) (t_room : Int32) (t_wrong : Int32) (t_count : Int32) (t_owner_N : Nat) (t_owner_F : Nat → Int32) (t_length_N : Nat) (t_length_F : Nat → Int32) (t_told_N : Nat) (t_told_F : Nat → Int32) (p0 : Int32) (p1 : Int32) (F : Nat) (u : Int32 × (Nat → Int32) × (Nat → Int32) × (Nat → Int32)) (hf : f_Mo_add F t_pieces t_owner_N t_owner_F t_length_N t_length_F t_told_N t_told_F p0 p1 = some u) : CTv l y_Mo_add b_Mo_add 3 0 0 (dC, dI) classes [(tI, .int), (tB, .byte), (tL, .long), (tZ, .boolean)] [.ref a_t, .int p0, .int p1] [(a_t, .inr (7, [.int t_thrown, .int t_style, .int t_bands, .ref o_t_wide, .ref o_t_high, .ref o_t_begins, .int t_size, .ref o_t_bytes, .ref o_t_came, .ref o_t_width, .ref o_t_brings, .ref o_t_first, .ref o_t_missing, .ref a_t_told, .int t_pieces, .ref a_t_owner, .ref a_t_length, .ref o_t_layers, .int t_over, .ref o_t_low, .ref o_t_known, .int t_writing, .int t_begin, .int t_end, .int t_room, .int t_wrong, .int t_count])), (a_t_owner, .inl (tI, t_owner_N, .inl t_owner_F)), (a_t_length, .inl (tI, t_length_N, .inl t_length_F)), (a_t_told, .inl (tI, t_told_N, .inl t_told_F))] sz (fun q : Unit => [(a_t, .inr (7, [.int t_thrown, .int t_style, .int t_bands, .ref o_t_wide, .ref o_t_high, .ref o_t_begins, .int t_size, .ref o_t_bytes, .ref o_t_came, .ref o_t_width, .ref o_t_brings, .ref o_t_first, .ref o_t_missing, .ref a_t_told, .int u.1, .ref a_t_owner, .ref a_t_length, .ref o_t_layers, .int t_over, .ref o_t_low, .ref o_t_known, .int t_writing, .int t_begin, .int t_end, .int t_room, .int t_wrong, .int t_count])), (a_t_owner, .inl (tI, t_owner_N, .inl u.2.1)), (a_t_length, .inl (tI, t_length_N, .inl u.2.2.1)), (a_t_told, .inl (tI, t_told_N, .inl u.2.2.2))]) 0 0 := by
  refine mk_v (by decide) (Nat.le_of_ble_eq_true rfl) ?_
  intro p e s m args below meth c ls A Q hx hb hml hts hown hin hK hN hP hD hA hl ret
  obtain ⟨H, hH⟩ : ∃ H : Heap, H = s.heap := ⟨_, rfl⟩
  have hS : va_S A s.heap H [] := by rw [hH]; exact va_S.rf
  rw [← hH] at hP ⊢
  have hl : lv_has ls 3 [(0, .ref a_t), (1, .int p0), (2, .int p1)] := hl
  have hc : 0 ≤ 0 ∧ 0 ≤ 0 := ⟨Nat.le_refl 0, Nat.le_refl 0⟩
  unfold f_Mo_add at hf
  refine lv_aload_n hx hb d_Mo_add_0 rfl (lv_at hl 0 rfl) ?_
  refine va_get (D := (dC, dI)) (ci := 7) (v := .ref a_t_owner) (C := R_Mo) (T := F_Mo) (N := 27) hx hb hts i_Mo hown hK hP 0 rfl rfl 15 (by decide) (hts _ q_210) (fun _ h9 => h9) rfl d_Mo_add_1 ?_
  refine lv_aload_n hx hb d_Mo_add_4 rfl (lv_at hl 0 rfl) ?_
  refine va_get (D := (dC, dI)) (ci := 7) (v := .int t_pieces) (C := R_Mo) (T := F_Mo) (N := 27) hx hb hts i_Mo hown hK hP 0 rfl rfl 14 (by decide) (hts _ q_209) (fun _ h9 => h9) rfl d_Mo_add_5 ?_
  refine lv_iload_n hx hb d_Mo_add_8 rfl (lv_at hl 1 rfl) ?_
  obtain ⟨hin9, hf⟩ := asm_of hf
  refine va_iast hx hb hK hP hD hS 1 0 rfl rfl hin9 d_Mo_add_9 (fun H locs hP hD hS => ?_)
  have hP : va_P (dC, dI) classes [(a_t, .inr (7, [.int t_thrown, .int t_style, .int t_bands, .ref o_t_wide, .ref o_t_high, .ref o_t_begins, .int t_size, .ref o_t_bytes, .ref o_t_came, .ref o_t_width, .ref o_t_brings, .ref o_t_first, .ref o_t_missing, .ref a_t_told, .int t_pieces, .ref a_t_owner, .ref a_t_length, .ref o_t_layers, .int t_over, .ref o_t_low, .ref o_t_known, .int t_writing, .int t_begin, .int t_end, .int t_room, .int t_wrong, .int t_count])), (a_t_owner, .inl (tI, t_owner_N, .inl (upd t_owner_F t_pieces.toNatClampNeg p0))), (a_t_length, .inl (tI, t_length_N, .inl t_length_F)), (a_t_told, .inl (tI, t_told_N, .inl t_told_F))] H := hP
  have hD : va_D A [(a_t, .inr (7, [.int t_thrown, .int t_style, .int t_bands, .ref o_t_wide, .ref o_t_high, .ref o_t_begins, .int t_size, .ref o_t_bytes, .ref o_t_came, .ref o_t_width, .ref o_t_brings, .ref o_t_first, .ref o_t_missing, .ref a_t_told, .int t_pieces, .ref a_t_owner, .ref a_t_length, .ref o_t_layers, .int t_over, .ref o_t_low, .ref o_t_known, .int t_writing, .int t_begin, .int t_end, .int t_room, .int t_wrong, .int t_count])), (a_t_owner, .inl (tI, t_owner_N, .inl (upd t_owner_F t_pieces.toNatClampNeg p0))), (a_t_length, .inl (tI, t_length_N, .inl t_length_F)), (a_t_told, .inl (tI, t_told_N, .inl t_told_F))] := hD
  refine lv_aload_n hx hb d_Mo_add_10 rfl (lv_at hl 0 rfl) ?_
  refine va_get (D := (dC, dI)) (ci := 7) (v := .ref a_t_length) (C := R_Mo) (T := F_Mo) (N := 27) hx hb hts i_Mo hown hK hP 0 rfl rfl 16 (by decide) (hts _ q_211) (fun _ h9 => h9) rfl d_Mo_add_11 ?_
  refine lv_aload_n hx hb d_Mo_add_14 rfl (lv_at hl 0 rfl) ?_
  refine va_get (D := (dC, dI)) (ci := 7) (v := .int t_pieces) (C := R_Mo) (T := F_Mo) (N := 27) hx hb hts i_Mo hown hK hP 0 rfl rfl 14 (by decide) (hts _ q_209) (fun _ h9 => h9) rfl d_Mo_add_15 ?_
  refine lv_iload_n hx hb d_Mo_add_18 rfl (lv_at hl 2 rfl) ?_
  obtain ⟨hin9, hf⟩ := asm_of hf
  refine va_iast hx hb hK hP hD hS 2 0 rfl rfl hin9 d_Mo_add_19 (fun H locs hP hD hS => ?_)
  have hP : va_P (dC, dI) classes [(a_t, .inr (7, [.int t_thrown, .int t_style, .int t_bands, .ref o_t_wide, .ref o_t_high, .ref o_t_begins, .int t_size, .ref o_t_bytes, .ref o_t_came, .ref o_t_width, .ref o_t_brings, .ref o_t_first, .ref o_t_missing, .ref a_t_told, .int t_pieces, .ref a_t_owner, .ref a_t_length, .ref o_t_layers, .int t_over, .ref o_t_low, .ref o_t_known, .int t_writing, .int t_begin, .int t_end, .int t_room, .int t_wrong, .int t_count])), (a_t_owner, .inl (tI, t_owner_N, .inl (upd t_owner_F t_pieces.toNatClampNeg p0))), (a_t_length, .inl (tI, t_length_N, .inl (upd t_length_F t_pieces.toNatClampNeg p1))), (a_t_told, .inl (tI, t_told_N, .inl t_told_F))] H := hP
  have hD : va_D A [(a_t, .inr (7, [.int t_thrown, .int t_style, .int t_bands, .ref o_t_wide, .ref o_t_high, .ref o_t_begins, .int t_size, .ref o_t_bytes, .ref o_t_came, .ref o_t_width, .ref o_t_brings, .ref o_t_first, .ref o_t_missing, .ref a_t_told, .int t_pieces, .ref a_t_owner, .ref a_t_length, .ref o_t_layers, .int t_over, .ref o_t_low, .ref o_t_known, .int t_writing, .int t_begin, .int t_end, .int t_room, .int t_wrong, .int t_count])), (a_t_owner, .inl (tI, t_owner_N, .inl (upd t_owner_F t_pieces.toNatClampNeg p0))), (a_t_length, .inl (tI, t_length_N, .inl (upd t_length_F t_pieces.toNatClampNeg p1))), (a_t_told, .inl (tI, t_told_N, .inl t_told_F))] := hD
  refine lv_aload_n hx hb d_Mo_add_20 rfl (lv_at hl 0 rfl) ?_
  refine lv_dup hx hb d_Mo_add_21 rfl ?_
  refine va_get (D := (dC, dI)) (ci := 7) (v := .int t_pieces) (C := R_Mo) (T := F_Mo) (N := 27) hx hb hts i_Mo hown hK hP 0 rfl rfl 14 (by decide) (hts _ q_209) (fun _ h9 => h9) rfl d_Mo_add_22 ?_
  refine lv_iconst (v := 1) hx hb d_Mo_add_25 (by decide) ?_
  refine lv_iadd hx hb d_Mo_add_26 ?_
  refine lv_topi (fun x4 ex4 => ?_)
  have hf := letb_of hf ex4
  refine va_put (D := (dC, dI)) (ci := 7) (v := .int x4) (ty := .int) (C := R_Mo) (T := F_Mo) (N := 27) hx hb hts i_Mo t_Mo t_Mo_ok n_Mo hown hK hP hD hS 0 rfl rfl 14 (by decide) (hts _ q_209) (fun _ h9 => h9) rfl (t_Mo_ok 14 (by decide)) rfl rfl (Nat.le_of_ble_eq_true rfl) d_Mo_add_27 (fun H locs hP hD hS => ?_)
  have hP : va_P (dC, dI) classes [(a_t, .inr (7, [.int t_thrown, .int t_style, .int t_bands, .ref o_t_wide, .ref o_t_high, .ref o_t_begins, .int t_size, .ref o_t_bytes, .ref o_t_came, .ref o_t_width, .ref o_t_brings, .ref o_t_first, .ref o_t_missing, .ref a_t_told, .int x4, .ref a_t_owner, .ref a_t_length, .ref o_t_layers, .int t_over, .ref o_t_low, .ref o_t_known, .int t_writing, .int t_begin, .int t_end, .int t_room, .int t_wrong, .int t_count])), (a_t_owner, .inl (tI, t_owner_N, .inl (upd t_owner_F t_pieces.toNatClampNeg p0))), (a_t_length, .inl (tI, t_length_N, .inl (upd t_length_F t_pieces.toNatClampNeg p1))), (a_t_told, .inl (tI, t_told_N, .inl t_told_F))] H := hP
  have hD : va_D A [(a_t, .inr (7, [.int t_thrown, .int t_style, .int t_bands, .ref o_t_wide, .ref o_t_high, .ref o_t_begins, .int t_size, .ref o_t_bytes, .ref o_t_came, .ref o_t_width, .ref o_t_brings, .ref o_t_first, .ref o_t_missing, .ref a_t_told, .int x4, .ref a_t_owner, .ref a_t_length, .ref o_t_layers, .int t_over, .ref o_t_low, .ref o_t_known, .int t_writing, .int t_begin, .int t_end, .int t_room, .int t_wrong, .int t_count])), (a_t_owner, .inl (tI, t_owner_N, .inl (upd t_owner_F t_pieces.toNatClampNeg p0))), (a_t_length, .inl (tI, t_length_N, .inl (upd t_length_F t_pieces.toNatClampNeg p1))), (a_t_told, .inl (tI, t_told_N, .inl t_told_F))] := hD
  refine lv_aload_n hx hb d_Mo_add_30 rfl (lv_at hl 0 rfl) ?_
  refine va_get (D := (dC, dI)) (ci := 7) (v := .ref a_t_told) (C := R_Mo) (T := F_Mo) (N := 27) hx hb hts i_Mo hown hK hP 0 rfl rfl 13 (by decide) (hts _ q_212) (fun _ h9 => h9) rfl d_Mo_add_31 ?_
  refine lv_iload_n hx hb d_Mo_add_34 rfl (lv_at hl 1 rfl) ?_
  refine lv_dup2_11 hx hb d_Mo_add_35 rfl rfl ?_
  obtain ⟨hin9, hf⟩ := asm_of hf
  refine va_iald hx hb hK hP 3 0 rfl rfl hin9 d_Mo_add_36 ?_
  refine lv_topi (fun x5 ex5 => ?_)
  have hf := letb_of hf ex5
  refine lv_iconst (v := 1) hx hb d_Mo_add_37 (by decide) ?_
  refine lv_iadd hx hb d_Mo_add_38 ?_
  refine lv_topi (fun x6 ex6 => ?_)
  have hf := letb_of hf ex6
  obtain ⟨hin9, hf⟩ := asm_of hf
  refine va_iast hx hb hK hP hD hS 3 0 rfl rfl hin9 d_Mo_add_39 (fun H locs hP hD hS => ?_)
  have hP : va_P (dC, dI) classes [(a_t, .inr (7, [.int t_thrown, .int t_style, .int t_bands, .ref o_t_wide, .ref o_t_high, .ref o_t_begins, .int t_size, .ref o_t_bytes, .ref o_t_came, .ref o_t_width, .ref o_t_brings, .ref o_t_first, .ref o_t_missing, .ref a_t_told, .int x4, .ref a_t_owner, .ref a_t_length, .ref o_t_layers, .int t_over, .ref o_t_low, .ref o_t_known, .int t_writing, .int t_begin, .int t_end, .int t_room, .int t_wrong, .int t_count])), (a_t_owner, .inl (tI, t_owner_N, .inl (upd t_owner_F t_pieces.toNatClampNeg p0))), (a_t_length, .inl (tI, t_length_N, .inl (upd t_length_F t_pieces.toNatClampNeg p1))), (a_t_told, .inl (tI, t_told_N, .inl (upd t_told_F p0.toNatClampNeg x6)))] H := hP
  have hD : va_D A [(a_t, .inr (7, [.int t_thrown, .int t_style, .int t_bands, .ref o_t_wide, .ref o_t_high, .ref o_t_begins, .int t_size, .ref o_t_bytes, .ref o_t_came, .ref o_t_width, .ref o_t_brings, .ref o_t_first, .ref o_t_missing, .ref a_t_told, .int x4, .ref a_t_owner, .ref a_t_length, .ref o_t_layers, .int t_over, .ref o_t_low, .ref o_t_known, .int t_writing, .int t_begin, .int t_end, .int t_room, .int t_wrong, .int t_count])), (a_t_owner, .inl (tI, t_owner_N, .inl (upd t_owner_F t_pieces.toNatClampNeg p0))), (a_t_length, .inl (tI, t_length_N, .inl (upd t_length_F t_pieces.toNatClampNeg p1))), (a_t_told, .inl (tI, t_told_N, .inl (upd t_told_F p0.toNatClampNeg x6)))] := hD
  have hf := Option.some.inj hf
  subst u
  exact ret _ _ _ _ _ _ () d_Mo_add_40 hP hD hS hc.1 hc.2
noncomputable def g_Mo_lengthOf_38 (F : Nat) (rec5 : Int32 → Int32 → Int32 → Option (Int32)) (v1 : Int32) (v4 : Int32) (s0 : Int32) : Option (Int32) :=
letb (v4 + 1) fun x6 =>
rec5 v1 s0 x6
noncomputable def g_Mo_lengthOf_20 (F : Nat) (rec5 : Int32 → Int32 → Int32 → Option (Int32)) (t_owner_N : Nat) (t_owner_F : Nat → Int32) (v1 : Int32) (v3 : Int32) (v4 : Int32) : Option (Int32) :=
asm (vp_in v4 t_owner_N) (letb (t_owner_F v4.toNatClampNeg) fun x7 =>
if x7 = v1 then (
letb (v3 - 1) fun x8 =>
g_Mo_lengthOf_38 F rec5 v1 v4 x8) else (
g_Mo_lengthOf_38 F rec5 v1 v4 v3))
noncomputable def g_Mo_lengthOf_5 (F : Nat) (rec5 : Int32 → Int32 → Int32 → Option (Int32)) (t_owner_N : Nat) (t_owner_F : Nat → Int32) (t_length_N : Nat) (t_length_F : Nat → Int32) (v1 : Int32) (v3 : Int32) (v4 : Int32) : Option (Int32) :=
asm (vp_in v4 t_owner_N) (letb (t_owner_F v4.toNatClampNeg) fun x9 =>
if x9 = v1 then (
if v3 ≤ 0 then (
asm (vp_in v4 t_length_N) (letb (t_length_F v4.toNatClampNeg) fun x10 =>
some x10)) else (
g_Mo_lengthOf_20 F rec5 t_owner_N t_owner_F v1 v3 v4)) else (
g_Mo_lengthOf_20 F rec5 t_owner_N t_owner_F v1 v3 v4))
noncomputable def f_Mo_lengthOf_5 (F : Nat) (t_owner_N : Nat) (t_owner_F : Nat → Int32) (t_length_N : Nat) (t_length_F : Nat → Int32) : Nat → Int32 → Int32 → Int32 → Option (Int32)
  | 0 => fun _ _ _ => none
  | n + 1 => fun v1 v3 v4 => g_Mo_lengthOf_5 F (f_Mo_lengthOf_5 F t_owner_N t_owner_F t_length_N t_length_F n) t_owner_N t_owner_F t_length_N t_length_F v1 v3 v4
noncomputable def f_Mo_lengthOf (F : Nat) (t_owner_N : Nat) (t_owner_F : Nat → Int32) (t_length_N : Nat) (t_length_F : Nat → Int32) (p0 : Int32) (p1 : Int32) : Option (Int32) :=
f_Mo_lengthOf_5 F t_owner_N t_owner_F t_length_N t_length_F F p0 p1 0
set_option maxHeartbeats 4000000 in
set_option maxRecDepth 100000 in
theorem c_Mo_lengthOf (l : Launch) (dC : Nat → ClassId) (dI : Nat → Nat → Nat) (tI tB tL tZ : ClassId) (a_t : Nat) (a_t_owner : Nat) (a_t_length : Nat) (o_t_wide : Nat) (o_t_high : Nat) (o_t_begins : Nat) (o_t_bytes : Nat) (o_t_came : Nat) (o_t_width : Nat) (o_t_brings : Nat) (o_t_first : Nat) (o_t_missing : Nat) (o_t_told : Nat) (o_t_layers : Nat) (o_t_low : Nat) (o_t_known : Nat) (sz : Nat) (t_thrown : Int32) (t_style : Int32) (t_bands : Int32) (t_size : Int32) (t_pieces : Int32) (t_over : Int32) (t_writing : Int32) (t_begin : Int32) (t_end : Int32) (t_room : Int32) (t_wrong : Int32) (t_count : Int32) (t_owner_N : Nat) (t_owner_F : Nat → Int32) (t_length_N : Nat) (t_length_F : Nat → Int32) (p0 : Int32) (p1 : Int32) (F : Nat) (u : Int32) (hf : f_Mo_lengthOf F t_owner_N t_owner_F t_length_N t_length_F p0 p1 = some u) : CTi l y_Mo_lengthOf b_Mo_lengthOf 5 .int 0 0 (dC, dI) classes [(tI, .int), (tB, .byte), (tL, .long), (tZ, .boolean)] [.ref a_t, .int p0, .int p1] [(a_t, .inr (7, [.int t_thrown, .int t_style, .int t_bands, .ref o_t_wide, .ref o_t_high, .ref o_t_begins, .int t_size, .ref o_t_bytes, .ref o_t_came, .ref o_t_width, .ref o_t_brings, .ref o_t_first, .ref o_t_missing, .ref o_t_told, .int t_pieces, .ref a_t_owner, .ref a_t_length, .ref o_t_layers, .int t_over, .ref o_t_low, .ref o_t_known, .int t_writing, .int t_begin, .int t_end, .int t_room, .int t_wrong, .int t_count])), (a_t_owner, .inl (tI, t_owner_N, .inl t_owner_F)), (a_t_length, .inl (tI, t_length_N, .inl t_length_F))] sz (fun q : Unit => [(a_t, .inr (7, [.int t_thrown, .int t_style, .int t_bands, .ref o_t_wide, .ref o_t_high, .ref o_t_begins, .int t_size, .ref o_t_bytes, .ref o_t_came, .ref o_t_width, .ref o_t_brings, .ref o_t_first, .ref o_t_missing, .ref o_t_told, .int t_pieces, .ref a_t_owner, .ref a_t_length, .ref o_t_layers, .int t_over, .ref o_t_low, .ref o_t_known, .int t_writing, .int t_begin, .int t_end, .int t_room, .int t_wrong, .int t_count])), (a_t_owner, .inl (tI, t_owner_N, .inl t_owner_F)), (a_t_length, .inl (tI, t_length_N, .inl t_length_F))]) (u) 0 0 := by
  refine mk_i (by decide) (Nat.le_of_ble_eq_true rfl) ?_
  intro p e s m args below meth c ls A Q hx hb hml hts hown hin hK hN hP hD hA hl ret
  obtain ⟨H, hH⟩ : ∃ H : Heap, H = s.heap := ⟨_, rfl⟩
  have hS : va_S A s.heap H [] := by rw [hH]; exact va_S.rf
  rw [← hH] at hP ⊢
  have hl : lv_has ls 5 [(0, .ref a_t), (1, .int p0), (2, .int p1)] := hl
  have k_38 : ∀ (rec5 : Int32 → Int32 → Int32 → Option (Int32)), (∀ (v1 : Int32) (v3 : Int32) (v4 : Int32) (H : Heap) (locs : List Loc) (cells slots : Nat) (ls : Array Slot), va_P (dC, dI) classes [(a_t, .inr (7, [.int t_thrown, .int t_style, .int t_bands, .ref o_t_wide, .ref o_t_high, .ref o_t_begins, .int t_size, .ref o_t_bytes, .ref o_t_came, .ref o_t_width, .ref o_t_brings, .ref o_t_first, .ref o_t_missing, .ref o_t_told, .int t_pieces, .ref a_t_owner, .ref a_t_length, .ref o_t_layers, .int t_over, .ref o_t_low, .ref o_t_known, .int t_writing, .int t_begin, .int t_end, .int t_room, .int t_wrong, .int t_count])), (a_t_owner, .inl (tI, t_owner_N, .inl t_owner_F)), (a_t_length, .inl (tI, t_length_N, .inl t_length_F))] H → va_D A [(a_t, .inr (7, [.int t_thrown, .int t_style, .int t_bands, .ref o_t_wide, .ref o_t_high, .ref o_t_begins, .int t_size, .ref o_t_bytes, .ref o_t_came, .ref o_t_width, .ref o_t_brings, .ref o_t_first, .ref o_t_missing, .ref o_t_told, .int t_pieces, .ref a_t_owner, .ref a_t_length, .ref o_t_layers, .int t_over, .ref o_t_low, .ref o_t_known, .int t_writing, .int t_begin, .int t_end, .int t_room, .int t_wrong, .int t_count])), (a_t_owner, .inl (tI, t_owner_N, .inl t_owner_F)), (a_t_length, .inl (tI, t_length_N, .inl t_length_F))] → va_S A s.heap H locs → lv_has ls 5 [(0, .ref a_t), (1, .int v1), (3, .int v3), (4, .int v4)] → (cells ≤ 0 ∧ slots ≤ 0) → rec5 v1 v3 v4 = some u → W p l e ({ frames := 0, cells := 0, slots := 0, locals := 0 } : Room) s m args below meth c H locs cells slots Q (F0 m 5 ls [])) → ∀ (v1 : Int32) (v4 : Int32) (s0 : Int32) (H : Heap) (locs : List Loc) (cells slots : Nat) (ls : Array Slot), va_P (dC, dI) classes [(a_t, .inr (7, [.int t_thrown, .int t_style, .int t_bands, .ref o_t_wide, .ref o_t_high, .ref o_t_begins, .int t_size, .ref o_t_bytes, .ref o_t_came, .ref o_t_width, .ref o_t_brings, .ref o_t_first, .ref o_t_missing, .ref o_t_told, .int t_pieces, .ref a_t_owner, .ref a_t_length, .ref o_t_layers, .int t_over, .ref o_t_low, .ref o_t_known, .int t_writing, .int t_begin, .int t_end, .int t_room, .int t_wrong, .int t_count])), (a_t_owner, .inl (tI, t_owner_N, .inl t_owner_F)), (a_t_length, .inl (tI, t_length_N, .inl t_length_F))] H → va_D A [(a_t, .inr (7, [.int t_thrown, .int t_style, .int t_bands, .ref o_t_wide, .ref o_t_high, .ref o_t_begins, .int t_size, .ref o_t_bytes, .ref o_t_came, .ref o_t_width, .ref o_t_brings, .ref o_t_first, .ref o_t_missing, .ref o_t_told, .int t_pieces, .ref a_t_owner, .ref a_t_length, .ref o_t_layers, .int t_over, .ref o_t_low, .ref o_t_known, .int t_writing, .int t_begin, .int t_end, .int t_room, .int t_wrong, .int t_count])), (a_t_owner, .inl (tI, t_owner_N, .inl t_owner_F)), (a_t_length, .inl (tI, t_length_N, .inl t_length_F))] → va_S A s.heap H locs → lv_has ls 5 [(0, .ref a_t), (1, .int v1), (4, .int v4)] → (cells ≤ 0 ∧ slots ≤ 0) → g_Mo_lengthOf_38 F rec5 v1 v4 s0 = some u → W p l e ({ frames := 0, cells := 0, slots := 0, locals := 0 } : Room) s m args below meth c H locs cells slots Q (F0 m 38 ls [.int s0]) := by
    intro rec5 h5 v1 v4 s0 H locs cells slots ls hP hD hS hl hc hf
    unfold g_Mo_lengthOf_38 at hf
    refine lv_istore_n (lv' := [(3, .int s0), (0, .ref a_t), (1, .int v1), (4, .int v4)]) hx hb d_Mo_lengthOf_38 rfl hl (by decide) rfl (fun ls hl => ?_)
    obtain ⟨x6, ex6⟩ : ∃ y : Int32, y = v4 + 1 := ⟨_, rfl⟩
    have hf := letb_of hf ex6
    refine lv_iinc (v := x6) (lv' := [(4, .int x6), (3, .int s0), (0, .ref a_t), (1, .int v1)]) hx hb d_Mo_lengthOf_39 hl (k := 3) rfl (by rw [ex6]; rfl) (by decide) rfl (fun ls hl => ?_)
    refine lv_goto (tgt := 5) hx hb d_Mo_lengthOf_42 (by decide) ?_
    exact h5 v1 s0 x6 _ _ _ _ ls hP hD hS (lv_sub hl [2, 3, 1, 0] rfl) hc hf
  have k_20 : ∀ (rec5 : Int32 → Int32 → Int32 → Option (Int32)), (∀ (v1 : Int32) (v3 : Int32) (v4 : Int32) (H : Heap) (locs : List Loc) (cells slots : Nat) (ls : Array Slot), va_P (dC, dI) classes [(a_t, .inr (7, [.int t_thrown, .int t_style, .int t_bands, .ref o_t_wide, .ref o_t_high, .ref o_t_begins, .int t_size, .ref o_t_bytes, .ref o_t_came, .ref o_t_width, .ref o_t_brings, .ref o_t_first, .ref o_t_missing, .ref o_t_told, .int t_pieces, .ref a_t_owner, .ref a_t_length, .ref o_t_layers, .int t_over, .ref o_t_low, .ref o_t_known, .int t_writing, .int t_begin, .int t_end, .int t_room, .int t_wrong, .int t_count])), (a_t_owner, .inl (tI, t_owner_N, .inl t_owner_F)), (a_t_length, .inl (tI, t_length_N, .inl t_length_F))] H → va_D A [(a_t, .inr (7, [.int t_thrown, .int t_style, .int t_bands, .ref o_t_wide, .ref o_t_high, .ref o_t_begins, .int t_size, .ref o_t_bytes, .ref o_t_came, .ref o_t_width, .ref o_t_brings, .ref o_t_first, .ref o_t_missing, .ref o_t_told, .int t_pieces, .ref a_t_owner, .ref a_t_length, .ref o_t_layers, .int t_over, .ref o_t_low, .ref o_t_known, .int t_writing, .int t_begin, .int t_end, .int t_room, .int t_wrong, .int t_count])), (a_t_owner, .inl (tI, t_owner_N, .inl t_owner_F)), (a_t_length, .inl (tI, t_length_N, .inl t_length_F))] → va_S A s.heap H locs → lv_has ls 5 [(0, .ref a_t), (1, .int v1), (3, .int v3), (4, .int v4)] → (cells ≤ 0 ∧ slots ≤ 0) → rec5 v1 v3 v4 = some u → W p l e ({ frames := 0, cells := 0, slots := 0, locals := 0 } : Room) s m args below meth c H locs cells slots Q (F0 m 5 ls [])) → ∀ (v1 : Int32) (v3 : Int32) (v4 : Int32) (H : Heap) (locs : List Loc) (cells slots : Nat) (ls : Array Slot), va_P (dC, dI) classes [(a_t, .inr (7, [.int t_thrown, .int t_style, .int t_bands, .ref o_t_wide, .ref o_t_high, .ref o_t_begins, .int t_size, .ref o_t_bytes, .ref o_t_came, .ref o_t_width, .ref o_t_brings, .ref o_t_first, .ref o_t_missing, .ref o_t_told, .int t_pieces, .ref a_t_owner, .ref a_t_length, .ref o_t_layers, .int t_over, .ref o_t_low, .ref o_t_known, .int t_writing, .int t_begin, .int t_end, .int t_room, .int t_wrong, .int t_count])), (a_t_owner, .inl (tI, t_owner_N, .inl t_owner_F)), (a_t_length, .inl (tI, t_length_N, .inl t_length_F))] H → va_D A [(a_t, .inr (7, [.int t_thrown, .int t_style, .int t_bands, .ref o_t_wide, .ref o_t_high, .ref o_t_begins, .int t_size, .ref o_t_bytes, .ref o_t_came, .ref o_t_width, .ref o_t_brings, .ref o_t_first, .ref o_t_missing, .ref o_t_told, .int t_pieces, .ref a_t_owner, .ref a_t_length, .ref o_t_layers, .int t_over, .ref o_t_low, .ref o_t_known, .int t_writing, .int t_begin, .int t_end, .int t_room, .int t_wrong, .int t_count])), (a_t_owner, .inl (tI, t_owner_N, .inl t_owner_F)), (a_t_length, .inl (tI, t_length_N, .inl t_length_F))] → va_S A s.heap H locs → lv_has ls 5 [(0, .ref a_t), (1, .int v1), (3, .int v3), (4, .int v4)] → (cells ≤ 0 ∧ slots ≤ 0) → g_Mo_lengthOf_20 F rec5 t_owner_N t_owner_F v1 v3 v4 = some u → W p l e ({ frames := 0, cells := 0, slots := 0, locals := 0 } : Room) s m args below meth c H locs cells slots Q (F0 m 20 ls []) := by
    intro rec5 h5 v1 v3 v4 H locs cells slots ls hP hD hS hl hc hf
    unfold g_Mo_lengthOf_20 at hf
    refine lv_aload_n hx hb d_Mo_lengthOf_20 rfl (lv_at hl 0 rfl) ?_
    refine va_get (D := (dC, dI)) (ci := 7) (v := .ref a_t_owner) (C := R_Mo) (T := F_Mo) (N := 27) hx hb hts i_Mo hown hK hP 0 rfl rfl 15 (by decide) (hts _ q_210) (fun _ h9 => h9) rfl d_Mo_lengthOf_21 ?_
    refine lv_iload hx hb d_Mo_lengthOf_24 (lv_at hl 3 rfl) ?_
    obtain ⟨hin9, hf⟩ := asm_of hf
    refine va_iald hx hb hK hP 1 0 rfl rfl hin9 d_Mo_lengthOf_26 ?_
    refine lv_topi (fun x7 ex7 => ?_)
    have hf := letb_of hf ex7
    refine lv_iload_n hx hb d_Mo_lengthOf_27 rfl (lv_at hl 1 rfl) ?_
    refine lv_icmp_ne (tgt := 37) hx hb d_Mo_lengthOf_28 (by decide) (fun c0 => ?_) (fun c0 => ?_)
    · have hf := ite_f c0 hf
      refine lv_iload_n hx hb d_Mo_lengthOf_37 rfl (lv_at hl 2 rfl) ?_
      exact k_38 rec5 h5 v1 v4 v3 _ _ _ _ ls hP hD hS (lv_sub hl [0, 1, 3] rfl) hc hf
    · have hf := ite_t c0 hf
      refine lv_iload_n hx hb d_Mo_lengthOf_31 rfl (lv_at hl 2 rfl) ?_
      refine lv_iconst (v := 1) hx hb d_Mo_lengthOf_32 (by decide) ?_
      refine lv_isub hx hb d_Mo_lengthOf_33 ?_
      refine lv_topi (fun x8 ex8 => ?_)
      have hf := letb_of hf ex8
      refine lv_goto (tgt := 38) hx hb d_Mo_lengthOf_34 (by decide) ?_
      exact k_38 rec5 h5 v1 v4 x8 _ _ _ _ ls hP hD hS (lv_sub hl [0, 1, 3] rfl) hc hf
  have k_5 : ∀ n : Nat, ∀ (v1 : Int32) (v3 : Int32) (v4 : Int32) (H : Heap) (locs : List Loc) (cells slots : Nat) (ls : Array Slot), va_P (dC, dI) classes [(a_t, .inr (7, [.int t_thrown, .int t_style, .int t_bands, .ref o_t_wide, .ref o_t_high, .ref o_t_begins, .int t_size, .ref o_t_bytes, .ref o_t_came, .ref o_t_width, .ref o_t_brings, .ref o_t_first, .ref o_t_missing, .ref o_t_told, .int t_pieces, .ref a_t_owner, .ref a_t_length, .ref o_t_layers, .int t_over, .ref o_t_low, .ref o_t_known, .int t_writing, .int t_begin, .int t_end, .int t_room, .int t_wrong, .int t_count])), (a_t_owner, .inl (tI, t_owner_N, .inl t_owner_F)), (a_t_length, .inl (tI, t_length_N, .inl t_length_F))] H → va_D A [(a_t, .inr (7, [.int t_thrown, .int t_style, .int t_bands, .ref o_t_wide, .ref o_t_high, .ref o_t_begins, .int t_size, .ref o_t_bytes, .ref o_t_came, .ref o_t_width, .ref o_t_brings, .ref o_t_first, .ref o_t_missing, .ref o_t_told, .int t_pieces, .ref a_t_owner, .ref a_t_length, .ref o_t_layers, .int t_over, .ref o_t_low, .ref o_t_known, .int t_writing, .int t_begin, .int t_end, .int t_room, .int t_wrong, .int t_count])), (a_t_owner, .inl (tI, t_owner_N, .inl t_owner_F)), (a_t_length, .inl (tI, t_length_N, .inl t_length_F))] → va_S A s.heap H locs → lv_has ls 5 [(0, .ref a_t), (1, .int v1), (3, .int v3), (4, .int v4)] → (cells ≤ 0 ∧ slots ≤ 0) → f_Mo_lengthOf_5 F t_owner_N t_owner_F t_length_N t_length_F n v1 v3 v4 = some u → W p l e ({ frames := 0, cells := 0, slots := 0, locals := 0 } : Room) s m args below meth c H locs cells slots Q (F0 m 5 ls []) := by
    intro n
    induction n with
    | zero => intro v1 v3 v4 H locs cells slots ls hP hD hS hl hc hf; exact absurd hf (by intro h9; cases h9)
    | succ n h5 =>
      intro v1 v3 v4 H locs cells slots ls hP hD hS hl hc hf
      have hf : g_Mo_lengthOf_5 F (f_Mo_lengthOf_5 F t_owner_N t_owner_F t_length_N t_length_F n) t_owner_N t_owner_F t_length_N t_length_F v1 v3 v4 = some u := hf
      generalize (f_Mo_lengthOf_5 F t_owner_N t_owner_F t_length_N t_length_F n) = rec5 at hf h5
      unfold g_Mo_lengthOf_5 at hf
      refine lv_aload_n hx hb d_Mo_lengthOf_5 rfl (lv_at hl 0 rfl) ?_
      refine va_get (D := (dC, dI)) (ci := 7) (v := .ref a_t_owner) (C := R_Mo) (T := F_Mo) (N := 27) hx hb hts i_Mo hown hK hP 0 rfl rfl 15 (by decide) (hts _ q_210) (fun _ h9 => h9) rfl d_Mo_lengthOf_6 ?_
      refine lv_iload hx hb d_Mo_lengthOf_9 (lv_at hl 3 rfl) ?_
      obtain ⟨hin9, hf⟩ := asm_of hf
      refine va_iald hx hb hK hP 1 0 rfl rfl hin9 d_Mo_lengthOf_11 ?_
      refine lv_topi (fun x9 ex9 => ?_)
      have hf := letb_of hf ex9
      refine lv_iload_n hx hb d_Mo_lengthOf_12 rfl (lv_at hl 1 rfl) ?_
      refine lv_icmp_ne (tgt := 20) hx hb d_Mo_lengthOf_13 (by decide) (fun c0 => ?_) (fun c0 => ?_)
      · have hf := ite_f c0 hf
        exact k_20 rec5 h5 v1 v3 v4 _ _ _ _ ls hP hD hS hl hc hf
      · have hf := ite_t c0 hf
        refine lv_iload_n hx hb d_Mo_lengthOf_16 rfl (lv_at hl 2 rfl) ?_
        refine lv_if_le (tgt := 45) hx hb d_Mo_lengthOf_17 (by decide) (fun c0 => ?_) (fun c0 => ?_)
        · have hf := ite_t c0 hf
          refine lv_aload_n hx hb d_Mo_lengthOf_45 rfl (lv_at hl 0 rfl) ?_
          refine va_get (D := (dC, dI)) (ci := 7) (v := .ref a_t_length) (C := R_Mo) (T := F_Mo) (N := 27) hx hb hts i_Mo hown hK hP 0 rfl rfl 16 (by decide) (hts _ q_211) (fun _ h9 => h9) rfl d_Mo_lengthOf_46 ?_
          refine lv_iload hx hb d_Mo_lengthOf_49 (lv_at hl 3 rfl) ?_
          obtain ⟨hin9, hf⟩ := asm_of hf
          refine va_iald hx hb hK hP 2 0 rfl rfl hin9 d_Mo_lengthOf_51 ?_
          refine lv_topi (fun x10 ex10 => ?_)
          have hf := letb_of hf ex10
          have hf := Option.some.inj hf
          subst u
          exact ret _ _ _ _ _ _ () d_Mo_lengthOf_52 rfl hP hD hS hc.1 hc.2
        · have hf := ite_f c0 hf
          exact k_20 rec5 h5 v1 v3 v4 _ _ _ _ ls hP hD hS hl hc hf
  have hc : 0 ≤ 0 ∧ 0 ≤ 0 := ⟨Nat.le_refl 0, Nat.le_refl 0⟩
  unfold f_Mo_lengthOf at hf
  refine lv_iload_n hx hb d_Mo_lengthOf_0 rfl (lv_at hl 2 rfl) ?_
  refine lv_istore_n (lv' := [(3, .int p1), (0, .ref a_t), (1, .int p0), (2, .int p1)]) hx hb d_Mo_lengthOf_1 rfl hl (by decide) rfl (fun ls hl => ?_)
  refine lv_iconst (v := 0) hx hb d_Mo_lengthOf_2 (by decide) ?_
  refine lv_istore (lv' := [(4, .int 0), (3, .int p1), (0, .ref a_t), (1, .int p0), (2, .int p1)]) hx hb d_Mo_lengthOf_3 hl (by decide) rfl (fun ls hl => ?_)
  exact k_5 F p0 p1 0 _ _ _ _ ls hP hD hS (lv_sub hl [2, 3, 1, 0] rfl) hc hf
noncomputable def g_Mo_begin_84 (F : Nat) (rec84 : (Nat → Int32) → (Nat → Int32) → (Nat → Int32) → (Nat → Int32) → Int32 → Int32 → Int32 → Int32 → Int32 → (Nat → Int32) → (Nat → Int32) → (Nat → Int32) → (Nat → Int32) → (Nat → Int32) → (Nat → Int32) → (Nat → Int32) → (Nat → Int32) → Int32 → Option (Int32 × Int32 × Int32 × Int32 × Int32 × (Nat → Int32) × (Nat → Int32) × (Nat → Int32) × (Nat → Int32) × (Nat → Int32) × (Nat → Int32) × (Nat → Int32) × (Nat → Int32) × (Nat → Int32) × (Nat → Int32) × (Nat → Int32) × (Nat → Int32))) (t_low_N : Nat) (t_known_N : Nat) (t_begins_F : Nat → Int32) (t_layers_F : Nat → Int32) (t_low_F : Nat → Int32) (t_known_F : Nat → Int32) (t_thrown : Int32) (t_style : Int32) (t_bands : Int32) (t_pieces : Int32) (t_over : Int32) (t_came_F : Nat → Int32) (t_width_F : Nat → Int32) (t_brings_F : Nat → Int32) (t_first_F : Nat → Int32) (t_missing_F : Nat → Int32) (t_owner_F : Nat → Int32) (t_length_F : Nat → Int32) (t_told_F : Nat → Int32) (v2 : Int32) : Option (Int32 × Int32 × Int32 × Int32 × Int32 × (Nat → Int32) × (Nat → Int32) × (Nat → Int32) × (Nat → Int32) × (Nat → Int32) × (Nat → Int32) × (Nat → Int32) × (Nat → Int32) × (Nat → Int32) × (Nat → Int32) × (Nat → Int32) × (Nat → Int32)) :=
if 24576 ≤ v2 then (
some (t_thrown, t_style, t_bands, t_pieces, t_over, t_begins_F, t_layers_F, t_low_F, t_known_F, t_came_F, t_width_F, t_brings_F, t_first_F, t_missing_F, t_owner_F, t_length_F, t_told_F)) else (
asm (vp_in v2 t_low_N) (asm (vp_in v2 t_known_N) (letb (v2 + 1) fun x5 =>
rec84 t_begins_F t_layers_F (upd t_low_F v2.toNatClampNeg 0) (upd t_known_F v2.toNatClampNeg (vp_nar .boolean 0)) t_thrown t_style t_bands t_pieces t_over t_came_F t_width_F t_brings_F t_first_F t_missing_F t_owner_F t_length_F t_told_F x5)))
noncomputable def f_Mo_begin_84 (F : Nat) (t_low_N : Nat) (t_known_N : Nat) : Nat → (Nat → Int32) → (Nat → Int32) → (Nat → Int32) → (Nat → Int32) → Int32 → Int32 → Int32 → Int32 → Int32 → (Nat → Int32) → (Nat → Int32) → (Nat → Int32) → (Nat → Int32) → (Nat → Int32) → (Nat → Int32) → (Nat → Int32) → (Nat → Int32) → Int32 → Option (Int32 × Int32 × Int32 × Int32 × Int32 × (Nat → Int32) × (Nat → Int32) × (Nat → Int32) × (Nat → Int32) × (Nat → Int32) × (Nat → Int32) × (Nat → Int32) × (Nat → Int32) × (Nat → Int32) × (Nat → Int32) × (Nat → Int32) × (Nat → Int32))
  | 0 => fun _ _ _ _ _ _ _ _ _ _ _ _ _ _ _ _ _ _ => none
  | n + 1 => fun t_begins_F t_layers_F t_low_F t_known_F t_thrown t_style t_bands t_pieces t_over t_came_F t_width_F t_brings_F t_first_F t_missing_F t_owner_F t_length_F t_told_F v2 => g_Mo_begin_84 F (f_Mo_begin_84 F t_low_N t_known_N n) t_low_N t_known_N t_begins_F t_layers_F t_low_F t_known_F t_thrown t_style t_bands t_pieces t_over t_came_F t_width_F t_brings_F t_first_F t_missing_F t_owner_F t_length_F t_told_F v2
noncomputable def g_Mo_begin_25 (F : Nat) (t_begins_N : Nat) (t_layers_N : Nat) (t_low_N : Nat) (t_known_N : Nat) (t_came_N : Nat) (t_width_N : Nat) (t_brings_N : Nat) (t_first_N : Nat) (t_missing_N : Nat) (t_owner_N : Nat) (t_length_N : Nat) (t_told_N : Nat) (t_thrown : Int32) (t_style : Int32) (t_bands : Int32) (t_pieces : Int32) (t_over : Int32) (t_begins_F : Nat → Int32) (t_layers_F : Nat → Int32) (t_low_F : Nat → Int32) (t_known_F : Nat → Int32) (t_came_F : Nat → Int32) (t_width_F : Nat → Int32) (t_brings_F : Nat → Int32) (t_first_F : Nat → Int32) (t_missing_F : Nat → Int32) (t_owner_F : Nat → Int32) (t_length_F : Nat → Int32) (t_told_F : Nat → Int32) (v1 : Int32) (s0 : Int32) : Option (Int32 × Int32 × Int32 × Int32 × Int32 × (Nat → Int32) × (Nat → Int32) × (Nat → Int32) × (Nat → Int32) × (Nat → Int32) × (Nat → Int32) × (Nat → Int32) × (Nat → Int32) × (Nat → Int32) × (Nat → Int32) × (Nat → Int32) × (Nat → Int32)) :=
bd (f_Mo_throwing F t_thrown s0 0 0) fun u6 =>
if u6.1 = 0 then (
asm (vp_in 0 t_begins_N) (bd (f_Mo_fresh F t_pieces t_came_N t_came_F t_width_N t_width_F t_brings_N t_brings_F t_first_N t_first_F t_missing_N t_missing_F t_owner_N t_owner_F t_length_N t_length_F t_told_N t_told_F 0) fun u7 =>
bd (f_Mo_fresh F u7.1 t_came_N u7.2.1 t_width_N u7.2.2.1 t_brings_N u7.2.2.2.1 t_first_N u7.2.2.2.2.1 t_missing_N u7.2.2.2.2.2.1 t_owner_N u7.2.2.2.2.2.2.1 t_length_N u7.2.2.2.2.2.2.2.1 t_told_N u7.2.2.2.2.2.2.2.2 1024) fun u8 =>
asm (vp_in 0 t_layers_N) (asm (vp_in 1 t_layers_N) (f_Mo_begin_84 F t_low_N t_known_N F (upd t_begins_F (0 : Int32).toNatClampNeg 0) ((upd (upd t_layers_F (0 : Int32).toNatClampNeg 0) (1 : Int32).toNatClampNeg 0)) t_low_F t_known_F u6.2 v1 0 u8.1 0 u8.2.1 u8.2.2.1 u8.2.2.2.1 u8.2.2.2.2.1 u8.2.2.2.2.2.1 u8.2.2.2.2.2.2.1 u8.2.2.2.2.2.2.2.1 u8.2.2.2.2.2.2.2.2 0)))) else (
some (u6.2, t_style, t_bands, t_pieces, t_over, t_begins_F, t_layers_F, t_low_F, t_known_F, t_came_F, t_width_F, t_brings_F, t_first_F, t_missing_F, t_owner_F, t_length_F, t_told_F))
noncomputable def g_Mo_begin_24 (F : Nat) (t_begins_N : Nat) (t_layers_N : Nat) (t_low_N : Nat) (t_known_N : Nat) (t_came_N : Nat) (t_width_N : Nat) (t_brings_N : Nat) (t_first_N : Nat) (t_missing_N : Nat) (t_owner_N : Nat) (t_length_N : Nat) (t_told_N : Nat) (t_thrown : Int32) (t_style : Int32) (t_bands : Int32) (t_pieces : Int32) (t_over : Int32) (t_begins_F : Nat → Int32) (t_layers_F : Nat → Int32) (t_low_F : Nat → Int32) (t_known_F : Nat → Int32) (t_came_F : Nat → Int32) (t_width_F : Nat → Int32) (t_brings_F : Nat → Int32) (t_first_F : Nat → Int32) (t_missing_F : Nat → Int32) (t_owner_F : Nat → Int32) (t_length_F : Nat → Int32) (t_told_F : Nat → Int32) (v1 : Int32) : Option (Int32 × Int32 × Int32 × Int32 × Int32 × (Nat → Int32) × (Nat → Int32) × (Nat → Int32) × (Nat → Int32) × (Nat → Int32) × (Nat → Int32) × (Nat → Int32) × (Nat → Int32) × (Nat → Int32) × (Nat → Int32) × (Nat → Int32) × (Nat → Int32)) :=
g_Mo_begin_25 F t_begins_N t_layers_N t_low_N t_known_N t_came_N t_width_N t_brings_N t_first_N t_missing_N t_owner_N t_length_N t_told_N t_thrown t_style t_bands t_pieces t_over t_begins_F t_layers_F t_low_F t_known_F t_came_F t_width_F t_brings_F t_first_F t_missing_F t_owner_F t_length_F t_told_F v1 0
noncomputable def f_Mo_begin (F : Nat) (t_thrown : Int32) (t_style : Int32) (t_bands : Int32) (t_pieces : Int32) (t_over : Int32) (t_begins_N : Nat) (t_begins_F : Nat → Int32) (t_layers_N : Nat) (t_layers_F : Nat → Int32) (t_low_N : Nat) (t_low_F : Nat → Int32) (t_known_N : Nat) (t_known_F : Nat → Int32) (t_came_N : Nat) (t_came_F : Nat → Int32) (t_width_N : Nat) (t_width_F : Nat → Int32) (t_brings_N : Nat) (t_brings_F : Nat → Int32) (t_first_N : Nat) (t_first_F : Nat → Int32) (t_missing_N : Nat) (t_missing_F : Nat → Int32) (t_owner_N : Nat) (t_owner_F : Nat → Int32) (t_length_N : Nat) (t_length_F : Nat → Int32) (t_told_N : Nat) (t_told_F : Nat → Int32) (p0 : Int32) : Option (Int32 × Int32 × Int32 × Int32 × Int32 × (Nat → Int32) × (Nat → Int32) × (Nat → Int32) × (Nat → Int32) × (Nat → Int32) × (Nat → Int32) × (Nat → Int32) × (Nat → Int32) × (Nat → Int32) × (Nat → Int32) × (Nat → Int32) × (Nat → Int32)) :=
if p0 = 0 then (
g_Mo_begin_24 F t_begins_N t_layers_N t_low_N t_known_N t_came_N t_width_N t_brings_N t_first_N t_missing_N t_owner_N t_length_N t_told_N t_thrown t_style t_bands t_pieces t_over t_begins_F t_layers_F t_low_F t_known_F t_came_F t_width_F t_brings_F t_first_F t_missing_F t_owner_F t_length_F t_told_F p0) else (
if p0 = 1 then (
g_Mo_begin_24 F t_begins_N t_layers_N t_low_N t_known_N t_came_N t_width_N t_brings_N t_first_N t_missing_N t_owner_N t_length_N t_told_N t_thrown t_style t_bands t_pieces t_over t_begins_F t_layers_F t_low_F t_known_F t_came_F t_width_F t_brings_F t_first_F t_missing_F t_owner_F t_length_F t_told_F p0) else (
if p0 = 4 then (
g_Mo_begin_24 F t_begins_N t_layers_N t_low_N t_known_N t_came_N t_width_N t_brings_N t_first_N t_missing_N t_owner_N t_length_N t_told_N t_thrown t_style t_bands t_pieces t_over t_begins_F t_layers_F t_low_F t_known_F t_came_F t_width_F t_brings_F t_first_F t_missing_F t_owner_F t_length_F t_told_F p0) else (
if p0 = 5 then (
g_Mo_begin_24 F t_begins_N t_layers_N t_low_N t_known_N t_came_N t_width_N t_brings_N t_first_N t_missing_N t_owner_N t_length_N t_told_N t_thrown t_style t_bands t_pieces t_over t_begins_F t_layers_F t_low_F t_known_F t_came_F t_width_F t_brings_F t_first_F t_missing_F t_owner_F t_length_F t_told_F p0) else (
g_Mo_begin_25 F t_begins_N t_layers_N t_low_N t_known_N t_came_N t_width_N t_brings_N t_first_N t_missing_N t_owner_N t_length_N t_told_N t_thrown t_style t_bands t_pieces t_over t_begins_F t_layers_F t_low_F t_known_F t_came_F t_width_F t_brings_F t_first_F t_missing_F t_owner_F t_length_F t_told_F p0 1))))
set_option maxHeartbeats 4000000 in
set_option maxRecDepth 100000 in
theorem c_Mo_begin (l : Launch) (dC : Nat → ClassId) (dI : Nat → Nat → Nat) (tI tB tL tZ : ClassId) (a_t : Nat) (a_t_begins : Nat) (a_t_layers : Nat) (a_t_low : Nat) (a_t_known : Nat) (a_t_came : Nat) (a_t_width : Nat) (a_t_brings : Nat) (a_t_first : Nat) (a_t_missing : Nat) (a_t_owner : Nat) (a_t_length : Nat) (a_t_told : Nat) (o_t_wide : Nat) (o_t_high : Nat) (o_t_bytes : Nat) (sz : Nat) (t_thrown : Int32) (t_style : Int32) (t_bands : Int32) (t_size : Int32) (t_pieces : Int32) (t_over : Int32) (t_writing : Int32) (t_begin : Int32) (t_end : Int32) (t_room : Int32) (t_wrong : Int32) (t_count : Int32) (t_begins_N : Nat) (t_begins_F : Nat → Int32) (t_layers_N : Nat) (t_layers_F : Nat → Int32) (t_low_N : Nat) (t_low_F : Nat → Int32) (t_known_N : Nat) (t_known_F : Nat → Int32) (t_came_N : Nat) (t_came_F : Nat → Int32) (t_width_N : Nat) (t_width_F : Nat → Int32) (t_brings_N : Nat) (t_brings_F : Nat → Int32) (t_first_N : Nat) (t_first_F : Nat → Int32) (t_missing_N : Nat) (t_missing_F : Nat → Int32) (t_owner_N : Nat) (t_owner_F : Nat → Int32) (t_length_N : Nat) (t_length_F : Nat → Int32) (t_told_N : Nat) (t_told_F : Nat → Int32) (p0 : Int32) (F : Nat) (u : Int32 × Int32 × Int32 × Int32 × Int32 × (Nat → Int32) × (Nat → Int32) × (Nat → Int32) × (Nat → Int32) × (Nat → Int32) × (Nat → Int32) × (Nat → Int32) × (Nat → Int32) × (Nat → Int32) × (Nat → Int32) × (Nat → Int32) × (Nat → Int32)) (hf : f_Mo_begin F t_thrown t_style t_bands t_pieces t_over t_begins_N t_begins_F t_layers_N t_layers_F t_low_N t_low_F t_known_N t_known_F t_came_N t_came_F t_width_N t_width_F t_brings_N t_brings_F t_first_N t_first_F t_missing_N t_missing_F t_owner_N t_owner_F t_length_N t_length_F t_told_N t_told_F p0 = some u) : CTv l y_Mo_begin b_Mo_begin 3 2 47 (dC, dI) classes [(tI, .int), (tB, .byte), (tL, .long), (tZ, .boolean)] [.ref a_t, .int p0] [(a_t, .inr (7, [.int t_thrown, .int t_style, .int t_bands, .ref o_t_wide, .ref o_t_high, .ref a_t_begins, .int t_size, .ref o_t_bytes, .ref a_t_came, .ref a_t_width, .ref a_t_brings, .ref a_t_first, .ref a_t_missing, .ref a_t_told, .int t_pieces, .ref a_t_owner, .ref a_t_length, .ref a_t_layers, .int t_over, .ref a_t_low, .ref a_t_known, .int t_writing, .int t_begin, .int t_end, .int t_room, .int t_wrong, .int t_count])), (a_t_begins, .inl (tI, t_begins_N, .inl t_begins_F)), (a_t_layers, .inl (tI, t_layers_N, .inl t_layers_F)), (a_t_low, .inl (tI, t_low_N, .inl t_low_F)), (a_t_known, .inl (tZ, t_known_N, .inl t_known_F)), (a_t_came, .inl (tI, t_came_N, .inl t_came_F)), (a_t_width, .inl (tI, t_width_N, .inl t_width_F)), (a_t_brings, .inl (tI, t_brings_N, .inl t_brings_F)), (a_t_first, .inl (tI, t_first_N, .inl t_first_F)), (a_t_missing, .inl (tI, t_missing_N, .inl t_missing_F)), (a_t_owner, .inl (tI, t_owner_N, .inl t_owner_F)), (a_t_length, .inl (tI, t_length_N, .inl t_length_F)), (a_t_told, .inl (tI, t_told_N, .inl t_told_F))] sz (fun q : Unit => [(a_t, .inr (7, [.int u.1, .int u.2.1, .int u.2.2.1, .ref o_t_wide, .ref o_t_high, .ref a_t_begins, .int t_size, .ref o_t_bytes, .ref a_t_came, .ref a_t_width, .ref a_t_brings, .ref a_t_first, .ref a_t_missing, .ref a_t_told, .int u.2.2.2.1, .ref a_t_owner, .ref a_t_length, .ref a_t_layers, .int u.2.2.2.2.1, .ref a_t_low, .ref a_t_known, .int t_writing, .int t_begin, .int t_end, .int t_room, .int t_wrong, .int t_count])), (a_t_begins, .inl (tI, t_begins_N, .inl u.2.2.2.2.2.1)), (a_t_layers, .inl (tI, t_layers_N, .inl u.2.2.2.2.2.2.1)), (a_t_low, .inl (tI, t_low_N, .inl u.2.2.2.2.2.2.2.1)), (a_t_known, .inl (tZ, t_known_N, .inl u.2.2.2.2.2.2.2.2.1)), (a_t_came, .inl (tI, t_came_N, .inl u.2.2.2.2.2.2.2.2.2.1)), (a_t_width, .inl (tI, t_width_N, .inl u.2.2.2.2.2.2.2.2.2.2.1)), (a_t_brings, .inl (tI, t_brings_N, .inl u.2.2.2.2.2.2.2.2.2.2.2.1)), (a_t_first, .inl (tI, t_first_N, .inl u.2.2.2.2.2.2.2.2.2.2.2.2.1)), (a_t_missing, .inl (tI, t_missing_N, .inl u.2.2.2.2.2.2.2.2.2.2.2.2.2.1)), (a_t_owner, .inl (tI, t_owner_N, .inl u.2.2.2.2.2.2.2.2.2.2.2.2.2.2.1)), (a_t_length, .inl (tI, t_length_N, .inl u.2.2.2.2.2.2.2.2.2.2.2.2.2.2.2.1)), (a_t_told, .inl (tI, t_told_N, .inl u.2.2.2.2.2.2.2.2.2.2.2.2.2.2.2.2))]) 0 0 := by
  refine mk_v (by decide) (Nat.le_of_ble_eq_true rfl) ?_
  intro p e s m args below meth c ls A Q hx hb hml hts hown hin hK hN hP hD hA hl ret
  obtain ⟨H, hH⟩ : ∃ H : Heap, H = s.heap := ⟨_, rfl⟩
  have hS : va_S A s.heap H [] := by rw [hH]; exact va_S.rf
  rw [← hH] at hP ⊢
  have hl : lv_has ls 3 [(0, .ref a_t), (1, .int p0)] := hl
  have k_84 : ∀ n : Nat, ∀ (t_begins_F : Nat → Int32) (t_layers_F : Nat → Int32) (t_low_F : Nat → Int32) (t_known_F : Nat → Int32) (t_thrown : Int32) (t_style : Int32) (t_bands : Int32) (t_pieces : Int32) (t_over : Int32) (t_came_F : Nat → Int32) (t_width_F : Nat → Int32) (t_brings_F : Nat → Int32) (t_first_F : Nat → Int32) (t_missing_F : Nat → Int32) (t_owner_F : Nat → Int32) (t_length_F : Nat → Int32) (t_told_F : Nat → Int32) (v2 : Int32) (H : Heap) (locs : List Loc) (cells slots : Nat) (ls : Array Slot), va_P (dC, dI) classes [(a_t_begins, .inl (tI, t_begins_N, .inl t_begins_F)), (a_t_layers, .inl (tI, t_layers_N, .inl t_layers_F)), (a_t_low, .inl (tI, t_low_N, .inl t_low_F)), (a_t_known, .inl (tZ, t_known_N, .inl t_known_F)), (a_t, .inr (7, [.int t_thrown, .int t_style, .int t_bands, .ref o_t_wide, .ref o_t_high, .ref a_t_begins, .int t_size, .ref o_t_bytes, .ref a_t_came, .ref a_t_width, .ref a_t_brings, .ref a_t_first, .ref a_t_missing, .ref a_t_told, .int t_pieces, .ref a_t_owner, .ref a_t_length, .ref a_t_layers, .int t_over, .ref a_t_low, .ref a_t_known, .int t_writing, .int t_begin, .int t_end, .int t_room, .int t_wrong, .int t_count])), (a_t_came, .inl (tI, t_came_N, .inl t_came_F)), (a_t_width, .inl (tI, t_width_N, .inl t_width_F)), (a_t_brings, .inl (tI, t_brings_N, .inl t_brings_F)), (a_t_first, .inl (tI, t_first_N, .inl t_first_F)), (a_t_missing, .inl (tI, t_missing_N, .inl t_missing_F)), (a_t_owner, .inl (tI, t_owner_N, .inl t_owner_F)), (a_t_length, .inl (tI, t_length_N, .inl t_length_F)), (a_t_told, .inl (tI, t_told_N, .inl t_told_F))] H → va_D A [(a_t_begins, .inl (tI, t_begins_N, .inl t_begins_F)), (a_t_layers, .inl (tI, t_layers_N, .inl t_layers_F)), (a_t_low, .inl (tI, t_low_N, .inl t_low_F)), (a_t_known, .inl (tZ, t_known_N, .inl t_known_F)), (a_t, .inr (7, [.int t_thrown, .int t_style, .int t_bands, .ref o_t_wide, .ref o_t_high, .ref a_t_begins, .int t_size, .ref o_t_bytes, .ref a_t_came, .ref a_t_width, .ref a_t_brings, .ref a_t_first, .ref a_t_missing, .ref a_t_told, .int t_pieces, .ref a_t_owner, .ref a_t_length, .ref a_t_layers, .int t_over, .ref a_t_low, .ref a_t_known, .int t_writing, .int t_begin, .int t_end, .int t_room, .int t_wrong, .int t_count])), (a_t_came, .inl (tI, t_came_N, .inl t_came_F)), (a_t_width, .inl (tI, t_width_N, .inl t_width_F)), (a_t_brings, .inl (tI, t_brings_N, .inl t_brings_F)), (a_t_first, .inl (tI, t_first_N, .inl t_first_F)), (a_t_missing, .inl (tI, t_missing_N, .inl t_missing_F)), (a_t_owner, .inl (tI, t_owner_N, .inl t_owner_F)), (a_t_length, .inl (tI, t_length_N, .inl t_length_F)), (a_t_told, .inl (tI, t_told_N, .inl t_told_F))] → va_S A s.heap H locs → lv_has ls 3 [(0, .ref a_t), (2, .int v2)] → (cells ≤ 0 ∧ slots ≤ 0) → f_Mo_begin_84 F t_low_N t_known_N n t_begins_F t_layers_F t_low_F t_known_F t_thrown t_style t_bands t_pieces t_over t_came_F t_width_F t_brings_F t_first_F t_missing_F t_owner_F t_length_F t_told_F v2 = some u → W p l e ({ frames := 2, cells := 0, slots := 0, locals := 47 } : Room) s m args below meth c H locs cells slots Q (F0 m 84 ls []) := by
    intro n
    induction n with
    | zero => intro t_begins_F t_layers_F t_low_F t_known_F t_thrown t_style t_bands t_pieces t_over t_came_F t_width_F t_brings_F t_first_F t_missing_F t_owner_F t_length_F t_told_F v2 H locs cells slots ls hP hD hS hl hc hf; exact absurd hf (by intro h9; cases h9)
    | succ n h84 =>
      intro t_begins_F t_layers_F t_low_F t_known_F t_thrown t_style t_bands t_pieces t_over t_came_F t_width_F t_brings_F t_first_F t_missing_F t_owner_F t_length_F t_told_F v2 H locs cells slots ls hP hD hS hl hc hf
      have hf : g_Mo_begin_84 F (f_Mo_begin_84 F t_low_N t_known_N n) t_low_N t_known_N t_begins_F t_layers_F t_low_F t_known_F t_thrown t_style t_bands t_pieces t_over t_came_F t_width_F t_brings_F t_first_F t_missing_F t_owner_F t_length_F t_told_F v2 = some u := hf
      generalize (f_Mo_begin_84 F t_low_N t_known_N n) = rec84 at hf h84
      unfold g_Mo_begin_84 at hf
      refine lv_iload_n hx hb d_Mo_begin_84 rfl (lv_at hl 1 rfl) ?_
      refine lv_sipush (v := 24576) hx hb d_Mo_begin_85 (by decide) ?_
      refine lv_icmp_ge (tgt := 111) hx hb d_Mo_begin_88 (by decide) (fun c0 => ?_) (fun c0 => ?_)
      · have hf := ite_t c0 hf
        have hf := Option.some.inj hf
        subst u
        exact ret _ _ _ _ _ _ () d_Mo_begin_111 (hP.sub [4, 0, 1, 2, 3, 5, 6, 7, 8, 9, 10, 11, 12] rfl) (hD.sub [4, 0, 1, 2, 3, 5, 6, 7, 8, 9, 10, 11, 12] (by decide) rfl) hS hc.1 hc.2
      · have hf := ite_f c0 hf
        refine lv_aload_n hx hb d_Mo_begin_91 rfl (lv_at hl 0 rfl) ?_
        refine va_get (D := (dC, dI)) (ci := 7) (v := .ref a_t_low) (C := R_Mo) (T := F_Mo) (N := 27) hx hb hts i_Mo hown hK hP 4 rfl rfl 19 (by decide) (hts _ q_230) (fun _ h9 => h9) rfl d_Mo_begin_92 ?_
        refine lv_iload_n hx hb d_Mo_begin_95 rfl (lv_at hl 1 rfl) ?_
        refine lv_iconst (v := 0) hx hb d_Mo_begin_96 (by decide) ?_
        obtain ⟨hin9, hf⟩ := asm_of hf
        refine va_iast hx hb hK hP hD hS 2 0 rfl rfl hin9 d_Mo_begin_97 (fun H locs hP hD hS => ?_)
        have hP : va_P (dC, dI) classes [(a_t_begins, .inl (tI, t_begins_N, .inl t_begins_F)), (a_t_layers, .inl (tI, t_layers_N, .inl t_layers_F)), (a_t_low, .inl (tI, t_low_N, .inl (upd t_low_F v2.toNatClampNeg 0))), (a_t_known, .inl (tZ, t_known_N, .inl t_known_F)), (a_t, .inr (7, [.int t_thrown, .int t_style, .int t_bands, .ref o_t_wide, .ref o_t_high, .ref a_t_begins, .int t_size, .ref o_t_bytes, .ref a_t_came, .ref a_t_width, .ref a_t_brings, .ref a_t_first, .ref a_t_missing, .ref a_t_told, .int t_pieces, .ref a_t_owner, .ref a_t_length, .ref a_t_layers, .int t_over, .ref a_t_low, .ref a_t_known, .int t_writing, .int t_begin, .int t_end, .int t_room, .int t_wrong, .int t_count])), (a_t_came, .inl (tI, t_came_N, .inl t_came_F)), (a_t_width, .inl (tI, t_width_N, .inl t_width_F)), (a_t_brings, .inl (tI, t_brings_N, .inl t_brings_F)), (a_t_first, .inl (tI, t_first_N, .inl t_first_F)), (a_t_missing, .inl (tI, t_missing_N, .inl t_missing_F)), (a_t_owner, .inl (tI, t_owner_N, .inl t_owner_F)), (a_t_length, .inl (tI, t_length_N, .inl t_length_F)), (a_t_told, .inl (tI, t_told_N, .inl t_told_F))] H := hP
        have hD : va_D A [(a_t_begins, .inl (tI, t_begins_N, .inl t_begins_F)), (a_t_layers, .inl (tI, t_layers_N, .inl t_layers_F)), (a_t_low, .inl (tI, t_low_N, .inl (upd t_low_F v2.toNatClampNeg 0))), (a_t_known, .inl (tZ, t_known_N, .inl t_known_F)), (a_t, .inr (7, [.int t_thrown, .int t_style, .int t_bands, .ref o_t_wide, .ref o_t_high, .ref a_t_begins, .int t_size, .ref o_t_bytes, .ref a_t_came, .ref a_t_width, .ref a_t_brings, .ref a_t_first, .ref a_t_missing, .ref a_t_told, .int t_pieces, .ref a_t_owner, .ref a_t_length, .ref a_t_layers, .int t_over, .ref a_t_low, .ref a_t_known, .int t_writing, .int t_begin, .int t_end, .int t_room, .int t_wrong, .int t_count])), (a_t_came, .inl (tI, t_came_N, .inl t_came_F)), (a_t_width, .inl (tI, t_width_N, .inl t_width_F)), (a_t_brings, .inl (tI, t_brings_N, .inl t_brings_F)), (a_t_first, .inl (tI, t_first_N, .inl t_first_F)), (a_t_missing, .inl (tI, t_missing_N, .inl t_missing_F)), (a_t_owner, .inl (tI, t_owner_N, .inl t_owner_F)), (a_t_length, .inl (tI, t_length_N, .inl t_length_F)), (a_t_told, .inl (tI, t_told_N, .inl t_told_F))] := hD
        refine lv_aload_n hx hb d_Mo_begin_98 rfl (lv_at hl 0 rfl) ?_
        refine va_get (D := (dC, dI)) (ci := 7) (v := .ref a_t_known) (C := R_Mo) (T := F_Mo) (N := 27) hx hb hts i_Mo hown hK hP 4 rfl rfl 20 (by decide) (hts _ q_232) (fun _ h9 => h9) rfl d_Mo_begin_99 ?_
        refine lv_iload_n hx hb d_Mo_begin_102 rfl (lv_at hl 1 rfl) ?_
        refine lv_iconst (v := 0) hx hb d_Mo_begin_103 (by decide) ?_
        obtain ⟨hin9, hf⟩ := asm_of hf
        refine va_zast hx hb hK hP hD hS 3 3 rfl rfl hin9 d_Mo_begin_104 (fun H locs hP hD hS => ?_)
        have hP : va_P (dC, dI) classes [(a_t_begins, .inl (tI, t_begins_N, .inl t_begins_F)), (a_t_layers, .inl (tI, t_layers_N, .inl t_layers_F)), (a_t_low, .inl (tI, t_low_N, .inl (upd t_low_F v2.toNatClampNeg 0))), (a_t_known, .inl (tZ, t_known_N, .inl (upd t_known_F v2.toNatClampNeg (vp_nar .boolean 0)))), (a_t, .inr (7, [.int t_thrown, .int t_style, .int t_bands, .ref o_t_wide, .ref o_t_high, .ref a_t_begins, .int t_size, .ref o_t_bytes, .ref a_t_came, .ref a_t_width, .ref a_t_brings, .ref a_t_first, .ref a_t_missing, .ref a_t_told, .int t_pieces, .ref a_t_owner, .ref a_t_length, .ref a_t_layers, .int t_over, .ref a_t_low, .ref a_t_known, .int t_writing, .int t_begin, .int t_end, .int t_room, .int t_wrong, .int t_count])), (a_t_came, .inl (tI, t_came_N, .inl t_came_F)), (a_t_width, .inl (tI, t_width_N, .inl t_width_F)), (a_t_brings, .inl (tI, t_brings_N, .inl t_brings_F)), (a_t_first, .inl (tI, t_first_N, .inl t_first_F)), (a_t_missing, .inl (tI, t_missing_N, .inl t_missing_F)), (a_t_owner, .inl (tI, t_owner_N, .inl t_owner_F)), (a_t_length, .inl (tI, t_length_N, .inl t_length_F)), (a_t_told, .inl (tI, t_told_N, .inl t_told_F))] H := hP
        have hD : va_D A [(a_t_begins, .inl (tI, t_begins_N, .inl t_begins_F)), (a_t_layers, .inl (tI, t_layers_N, .inl t_layers_F)), (a_t_low, .inl (tI, t_low_N, .inl (upd t_low_F v2.toNatClampNeg 0))), (a_t_known, .inl (tZ, t_known_N, .inl (upd t_known_F v2.toNatClampNeg (vp_nar .boolean 0)))), (a_t, .inr (7, [.int t_thrown, .int t_style, .int t_bands, .ref o_t_wide, .ref o_t_high, .ref a_t_begins, .int t_size, .ref o_t_bytes, .ref a_t_came, .ref a_t_width, .ref a_t_brings, .ref a_t_first, .ref a_t_missing, .ref a_t_told, .int t_pieces, .ref a_t_owner, .ref a_t_length, .ref a_t_layers, .int t_over, .ref a_t_low, .ref a_t_known, .int t_writing, .int t_begin, .int t_end, .int t_room, .int t_wrong, .int t_count])), (a_t_came, .inl (tI, t_came_N, .inl t_came_F)), (a_t_width, .inl (tI, t_width_N, .inl t_width_F)), (a_t_brings, .inl (tI, t_brings_N, .inl t_brings_F)), (a_t_first, .inl (tI, t_first_N, .inl t_first_F)), (a_t_missing, .inl (tI, t_missing_N, .inl t_missing_F)), (a_t_owner, .inl (tI, t_owner_N, .inl t_owner_F)), (a_t_length, .inl (tI, t_length_N, .inl t_length_F)), (a_t_told, .inl (tI, t_told_N, .inl t_told_F))] := hD
        obtain ⟨x5, ex5⟩ : ∃ y : Int32, y = v2 + 1 := ⟨_, rfl⟩
        have hf := letb_of hf ex5
        refine lv_iinc (v := x5) (lv' := [(2, .int x5), (0, .ref a_t)]) hx hb d_Mo_begin_105 hl (k := 1) rfl (by rw [ex5]; rfl) (by decide) rfl (fun ls hl => ?_)
        refine lv_goto (tgt := 84) hx hb d_Mo_begin_108 (by decide) ?_
        exact h84 t_begins_F t_layers_F (upd t_low_F v2.toNatClampNeg 0) (upd t_known_F v2.toNatClampNeg (vp_nar .boolean 0)) t_thrown t_style t_bands t_pieces t_over t_came_F t_width_F t_brings_F t_first_F t_missing_F t_owner_F t_length_F t_told_F x5 _ _ _ _ ls hP hD hS (lv_sub hl [1, 0] rfl) hc hf
  have k_25 : ∀ (t_thrown : Int32) (t_style : Int32) (t_bands : Int32) (t_pieces : Int32) (t_over : Int32) (t_begins_F : Nat → Int32) (t_layers_F : Nat → Int32) (t_low_F : Nat → Int32) (t_known_F : Nat → Int32) (t_came_F : Nat → Int32) (t_width_F : Nat → Int32) (t_brings_F : Nat → Int32) (t_first_F : Nat → Int32) (t_missing_F : Nat → Int32) (t_owner_F : Nat → Int32) (t_length_F : Nat → Int32) (t_told_F : Nat → Int32) (v1 : Int32) (s0 : Int32) (H : Heap) (locs : List Loc) (cells slots : Nat) (ls : Array Slot), va_P (dC, dI) classes [(a_t, .inr (7, [.int t_thrown, .int t_style, .int t_bands, .ref o_t_wide, .ref o_t_high, .ref a_t_begins, .int t_size, .ref o_t_bytes, .ref a_t_came, .ref a_t_width, .ref a_t_brings, .ref a_t_first, .ref a_t_missing, .ref a_t_told, .int t_pieces, .ref a_t_owner, .ref a_t_length, .ref a_t_layers, .int t_over, .ref a_t_low, .ref a_t_known, .int t_writing, .int t_begin, .int t_end, .int t_room, .int t_wrong, .int t_count])), (a_t_begins, .inl (tI, t_begins_N, .inl t_begins_F)), (a_t_layers, .inl (tI, t_layers_N, .inl t_layers_F)), (a_t_low, .inl (tI, t_low_N, .inl t_low_F)), (a_t_known, .inl (tZ, t_known_N, .inl t_known_F)), (a_t_came, .inl (tI, t_came_N, .inl t_came_F)), (a_t_width, .inl (tI, t_width_N, .inl t_width_F)), (a_t_brings, .inl (tI, t_brings_N, .inl t_brings_F)), (a_t_first, .inl (tI, t_first_N, .inl t_first_F)), (a_t_missing, .inl (tI, t_missing_N, .inl t_missing_F)), (a_t_owner, .inl (tI, t_owner_N, .inl t_owner_F)), (a_t_length, .inl (tI, t_length_N, .inl t_length_F)), (a_t_told, .inl (tI, t_told_N, .inl t_told_F))] H → va_D A [(a_t, .inr (7, [.int t_thrown, .int t_style, .int t_bands, .ref o_t_wide, .ref o_t_high, .ref a_t_begins, .int t_size, .ref o_t_bytes, .ref a_t_came, .ref a_t_width, .ref a_t_brings, .ref a_t_first, .ref a_t_missing, .ref a_t_told, .int t_pieces, .ref a_t_owner, .ref a_t_length, .ref a_t_layers, .int t_over, .ref a_t_low, .ref a_t_known, .int t_writing, .int t_begin, .int t_end, .int t_room, .int t_wrong, .int t_count])), (a_t_begins, .inl (tI, t_begins_N, .inl t_begins_F)), (a_t_layers, .inl (tI, t_layers_N, .inl t_layers_F)), (a_t_low, .inl (tI, t_low_N, .inl t_low_F)), (a_t_known, .inl (tZ, t_known_N, .inl t_known_F)), (a_t_came, .inl (tI, t_came_N, .inl t_came_F)), (a_t_width, .inl (tI, t_width_N, .inl t_width_F)), (a_t_brings, .inl (tI, t_brings_N, .inl t_brings_F)), (a_t_first, .inl (tI, t_first_N, .inl t_first_F)), (a_t_missing, .inl (tI, t_missing_N, .inl t_missing_F)), (a_t_owner, .inl (tI, t_owner_N, .inl t_owner_F)), (a_t_length, .inl (tI, t_length_N, .inl t_length_F)), (a_t_told, .inl (tI, t_told_N, .inl t_told_F))] → va_S A s.heap H locs → lv_has ls 3 [(0, .ref a_t), (1, .int v1)] → (cells ≤ 0 ∧ slots ≤ 0) → g_Mo_begin_25 F t_begins_N t_layers_N t_low_N t_known_N t_came_N t_width_N t_brings_N t_first_N t_missing_N t_owner_N t_length_N t_told_N t_thrown t_style t_bands t_pieces t_over t_begins_F t_layers_F t_low_F t_known_F t_came_F t_width_F t_brings_F t_first_F t_missing_F t_owner_F t_length_F t_told_F v1 s0 = some u → W p l e ({ frames := 2, cells := 0, slots := 0, locals := 47 } : Room) s m args below meth c H locs cells slots Q (F0 m 25 ls [.int s0, .ref a_t]) := by
    intro t_thrown t_style t_bands t_pieces t_over t_begins_F t_layers_F t_low_F t_known_F t_came_F t_width_F t_brings_F t_first_F t_missing_F t_owner_F t_length_F t_told_F v1 s0 H locs cells slots ls hP hD hS hl hc hf
    unfold g_Mo_begin_25 at hf
    refine lv_iconst (v := 0) hx hb d_Mo_begin_25 (by decide) ?_
    refine lv_iconst (v := 0) hx hb d_Mo_begin_26 (by decide) ?_
    obtain ⟨u6, hu, hf⟩ := bd_of hf
    refine jn_i (wc := [(a_t, .inr (7, [.int t_thrown, .int t_style, .int t_bands, .ref o_t_wide, .ref o_t_high, .ref a_t_begins, .int t_size, .ref o_t_bytes, .ref a_t_came, .ref a_t_width, .ref a_t_brings, .ref a_t_first, .ref a_t_missing, .ref a_t_told, .int t_pieces, .ref a_t_owner, .ref a_t_length, .ref a_t_layers, .int t_over, .ref a_t_low, .ref a_t_known, .int t_writing, .int t_begin, .int t_end, .int t_room, .int t_wrong, .int t_count]))]) (wr := [(a_t_begins, .inl (tI, t_begins_N, .inl t_begins_F)), (a_t_layers, .inl (tI, t_layers_N, .inl t_layers_F)), (a_t_low, .inl (tI, t_low_N, .inl t_low_F)), (a_t_known, .inl (tZ, t_known_N, .inl t_known_F)), (a_t_came, .inl (tI, t_came_N, .inl t_came_F)), (a_t_width, .inl (tI, t_width_N, .inl t_width_F)), (a_t_brings, .inl (tI, t_brings_N, .inl t_brings_F)), (a_t_first, .inl (tI, t_first_N, .inl t_first_F)), (a_t_missing, .inl (tI, t_missing_N, .inl t_missing_F)), (a_t_owner, .inl (tI, t_owner_N, .inl t_owner_F)), (a_t_length, .inl (tI, t_length_N, .inl t_length_F)), (a_t_told, .inl (tI, t_told_N, .inl t_told_F))]) (va_runV (As := [.int s0, .int 0, .int 0]) (rest := []) ⟨hx, hb, hml, hown, hts⟩ (c_Mo_throwing l dC dI tI tB tL tZ a_t o_t_wide o_t_high a_t_begins o_t_bytes a_t_came a_t_width a_t_brings a_t_first a_t_missing a_t_told a_t_owner a_t_length a_t_layers a_t_low a_t_known H.size t_thrown t_style t_bands t_size t_pieces t_over t_writing t_begin t_end t_room t_wrong t_count s0 0 0 F u6 hu) (cv_of hts q_238 q_214 q_237 q_239 q_240 hd_Mo_throwing ⟨Nat.le_of_ble_eq_true rfl, Nat.le_of_ble_eq_true rfl⟩) (pr_V (ci := 7) (C := R_Mo) (q0 := 0) hK hN (hP.sub [0] rfl) (hD.sub [0] (by decide) rfl) rfl rfl) rfl rfl hl.1 rfl (lv_room (Nat.le_of_ble_eq_true rfl)) d_Mo_begin_27 hc) hP hD hS hA [0] [1, 2, 3, 4, 5, 6, 7, 8, 9, 10, 11, 12] rfl rfl (by decide) (by decide) (fun r9 _ H locs hw hP hD hS => ?_)
    subst r9
    have hP : va_P (dC, dI) classes [(a_t_begins, .inl (tI, t_begins_N, .inl t_begins_F)), (a_t_layers, .inl (tI, t_layers_N, .inl t_layers_F)), (a_t_low, .inl (tI, t_low_N, .inl t_low_F)), (a_t_known, .inl (tZ, t_known_N, .inl t_known_F)), (a_t_came, .inl (tI, t_came_N, .inl t_came_F)), (a_t_width, .inl (tI, t_width_N, .inl t_width_F)), (a_t_brings, .inl (tI, t_brings_N, .inl t_brings_F)), (a_t_first, .inl (tI, t_first_N, .inl t_first_F)), (a_t_missing, .inl (tI, t_missing_N, .inl t_missing_F)), (a_t_owner, .inl (tI, t_owner_N, .inl t_owner_F)), (a_t_length, .inl (tI, t_length_N, .inl t_length_F)), (a_t_told, .inl (tI, t_told_N, .inl t_told_F)), (a_t, .inr (7, [.int u6.2, .int t_style, .int t_bands, .ref o_t_wide, .ref o_t_high, .ref a_t_begins, .int t_size, .ref o_t_bytes, .ref a_t_came, .ref a_t_width, .ref a_t_brings, .ref a_t_first, .ref a_t_missing, .ref a_t_told, .int t_pieces, .ref a_t_owner, .ref a_t_length, .ref a_t_layers, .int t_over, .ref a_t_low, .ref a_t_known, .int t_writing, .int t_begin, .int t_end, .int t_room, .int t_wrong, .int t_count]))] H := hP
    have hD : va_D A [(a_t_begins, .inl (tI, t_begins_N, .inl t_begins_F)), (a_t_layers, .inl (tI, t_layers_N, .inl t_layers_F)), (a_t_low, .inl (tI, t_low_N, .inl t_low_F)), (a_t_known, .inl (tZ, t_known_N, .inl t_known_F)), (a_t_came, .inl (tI, t_came_N, .inl t_came_F)), (a_t_width, .inl (tI, t_width_N, .inl t_width_F)), (a_t_brings, .inl (tI, t_brings_N, .inl t_brings_F)), (a_t_first, .inl (tI, t_first_N, .inl t_first_F)), (a_t_missing, .inl (tI, t_missing_N, .inl t_missing_F)), (a_t_owner, .inl (tI, t_owner_N, .inl t_owner_F)), (a_t_length, .inl (tI, t_length_N, .inl t_length_F)), (a_t_told, .inl (tI, t_told_N, .inl t_told_F)), (a_t, .inr (7, [.int u6.2, .int t_style, .int t_bands, .ref o_t_wide, .ref o_t_high, .ref a_t_begins, .int t_size, .ref o_t_bytes, .ref a_t_came, .ref a_t_width, .ref a_t_brings, .ref a_t_first, .ref a_t_missing, .ref a_t_told, .int t_pieces, .ref a_t_owner, .ref a_t_length, .ref a_t_layers, .int t_over, .ref a_t_low, .ref a_t_known, .int t_writing, .int t_begin, .int t_end, .int t_room, .int t_wrong, .int t_count]))] := hD
    refine lv_if_eq (tgt := 34) hx hb d_Mo_begin_30 (by decide) (fun c0 => ?_) (fun c0 => ?_)
    · have hf := ite_t c0 hf
      refine lv_aload_n hx hb d_Mo_begin_34 rfl (lv_at hl 0 rfl) ?_
      refine lv_iload_n hx hb d_Mo_begin_35 rfl (lv_at hl 1 rfl) ?_
      refine va_put (D := (dC, dI)) (ci := 7) (v := .int v1) (ty := .int) (C := R_Mo) (T := F_Mo) (N := 27) hx hb hts i_Mo t_Mo t_Mo_ok n_Mo hown hK hP hD hS 12 rfl rfl 1 (by decide) (hts _ q_241) (fun _ h9 => h9) rfl (t_Mo_ok 1 (by decide)) rfl rfl (Nat.le_of_ble_eq_true rfl) d_Mo_begin_36 (fun H locs hP hD hS => ?_)
      have hP : va_P (dC, dI) classes [(a_t_begins, .inl (tI, t_begins_N, .inl t_begins_F)), (a_t_layers, .inl (tI, t_layers_N, .inl t_layers_F)), (a_t_low, .inl (tI, t_low_N, .inl t_low_F)), (a_t_known, .inl (tZ, t_known_N, .inl t_known_F)), (a_t_came, .inl (tI, t_came_N, .inl t_came_F)), (a_t_width, .inl (tI, t_width_N, .inl t_width_F)), (a_t_brings, .inl (tI, t_brings_N, .inl t_brings_F)), (a_t_first, .inl (tI, t_first_N, .inl t_first_F)), (a_t_missing, .inl (tI, t_missing_N, .inl t_missing_F)), (a_t_owner, .inl (tI, t_owner_N, .inl t_owner_F)), (a_t_length, .inl (tI, t_length_N, .inl t_length_F)), (a_t_told, .inl (tI, t_told_N, .inl t_told_F)), (a_t, .inr (7, [.int u6.2, .int v1, .int t_bands, .ref o_t_wide, .ref o_t_high, .ref a_t_begins, .int t_size, .ref o_t_bytes, .ref a_t_came, .ref a_t_width, .ref a_t_brings, .ref a_t_first, .ref a_t_missing, .ref a_t_told, .int t_pieces, .ref a_t_owner, .ref a_t_length, .ref a_t_layers, .int t_over, .ref a_t_low, .ref a_t_known, .int t_writing, .int t_begin, .int t_end, .int t_room, .int t_wrong, .int t_count]))] H := hP
      have hD : va_D A [(a_t_begins, .inl (tI, t_begins_N, .inl t_begins_F)), (a_t_layers, .inl (tI, t_layers_N, .inl t_layers_F)), (a_t_low, .inl (tI, t_low_N, .inl t_low_F)), (a_t_known, .inl (tZ, t_known_N, .inl t_known_F)), (a_t_came, .inl (tI, t_came_N, .inl t_came_F)), (a_t_width, .inl (tI, t_width_N, .inl t_width_F)), (a_t_brings, .inl (tI, t_brings_N, .inl t_brings_F)), (a_t_first, .inl (tI, t_first_N, .inl t_first_F)), (a_t_missing, .inl (tI, t_missing_N, .inl t_missing_F)), (a_t_owner, .inl (tI, t_owner_N, .inl t_owner_F)), (a_t_length, .inl (tI, t_length_N, .inl t_length_F)), (a_t_told, .inl (tI, t_told_N, .inl t_told_F)), (a_t, .inr (7, [.int u6.2, .int v1, .int t_bands, .ref o_t_wide, .ref o_t_high, .ref a_t_begins, .int t_size, .ref o_t_bytes, .ref a_t_came, .ref a_t_width, .ref a_t_brings, .ref a_t_first, .ref a_t_missing, .ref a_t_told, .int t_pieces, .ref a_t_owner, .ref a_t_length, .ref a_t_layers, .int t_over, .ref a_t_low, .ref a_t_known, .int t_writing, .int t_begin, .int t_end, .int t_room, .int t_wrong, .int t_count]))] := hD
      refine lv_aload_n hx hb d_Mo_begin_39 rfl (lv_at hl 0 rfl) ?_
      refine lv_iconst (v := 0) hx hb d_Mo_begin_40 (by decide) ?_
      refine va_put (D := (dC, dI)) (ci := 7) (v := .int 0) (ty := .int) (C := R_Mo) (T := F_Mo) (N := 27) hx hb hts i_Mo t_Mo t_Mo_ok n_Mo hown hK hP hD hS 12 rfl rfl 2 (by decide) (hts _ q_242) (fun _ h9 => h9) rfl (t_Mo_ok 2 (by decide)) rfl rfl (Nat.le_of_ble_eq_true rfl) d_Mo_begin_41 (fun H locs hP hD hS => ?_)
      have hP : va_P (dC, dI) classes [(a_t_begins, .inl (tI, t_begins_N, .inl t_begins_F)), (a_t_layers, .inl (tI, t_layers_N, .inl t_layers_F)), (a_t_low, .inl (tI, t_low_N, .inl t_low_F)), (a_t_known, .inl (tZ, t_known_N, .inl t_known_F)), (a_t_came, .inl (tI, t_came_N, .inl t_came_F)), (a_t_width, .inl (tI, t_width_N, .inl t_width_F)), (a_t_brings, .inl (tI, t_brings_N, .inl t_brings_F)), (a_t_first, .inl (tI, t_first_N, .inl t_first_F)), (a_t_missing, .inl (tI, t_missing_N, .inl t_missing_F)), (a_t_owner, .inl (tI, t_owner_N, .inl t_owner_F)), (a_t_length, .inl (tI, t_length_N, .inl t_length_F)), (a_t_told, .inl (tI, t_told_N, .inl t_told_F)), (a_t, .inr (7, [.int u6.2, .int v1, .int 0, .ref o_t_wide, .ref o_t_high, .ref a_t_begins, .int t_size, .ref o_t_bytes, .ref a_t_came, .ref a_t_width, .ref a_t_brings, .ref a_t_first, .ref a_t_missing, .ref a_t_told, .int t_pieces, .ref a_t_owner, .ref a_t_length, .ref a_t_layers, .int t_over, .ref a_t_low, .ref a_t_known, .int t_writing, .int t_begin, .int t_end, .int t_room, .int t_wrong, .int t_count]))] H := hP
      have hD : va_D A [(a_t_begins, .inl (tI, t_begins_N, .inl t_begins_F)), (a_t_layers, .inl (tI, t_layers_N, .inl t_layers_F)), (a_t_low, .inl (tI, t_low_N, .inl t_low_F)), (a_t_known, .inl (tZ, t_known_N, .inl t_known_F)), (a_t_came, .inl (tI, t_came_N, .inl t_came_F)), (a_t_width, .inl (tI, t_width_N, .inl t_width_F)), (a_t_brings, .inl (tI, t_brings_N, .inl t_brings_F)), (a_t_first, .inl (tI, t_first_N, .inl t_first_F)), (a_t_missing, .inl (tI, t_missing_N, .inl t_missing_F)), (a_t_owner, .inl (tI, t_owner_N, .inl t_owner_F)), (a_t_length, .inl (tI, t_length_N, .inl t_length_F)), (a_t_told, .inl (tI, t_told_N, .inl t_told_F)), (a_t, .inr (7, [.int u6.2, .int v1, .int 0, .ref o_t_wide, .ref o_t_high, .ref a_t_begins, .int t_size, .ref o_t_bytes, .ref a_t_came, .ref a_t_width, .ref a_t_brings, .ref a_t_first, .ref a_t_missing, .ref a_t_told, .int t_pieces, .ref a_t_owner, .ref a_t_length, .ref a_t_layers, .int t_over, .ref a_t_low, .ref a_t_known, .int t_writing, .int t_begin, .int t_end, .int t_room, .int t_wrong, .int t_count]))] := hD
      refine lv_aload_n hx hb d_Mo_begin_44 rfl (lv_at hl 0 rfl) ?_
      refine va_get (D := (dC, dI)) (ci := 7) (v := .ref a_t_begins) (C := R_Mo) (T := F_Mo) (N := 27) hx hb hts i_Mo hown hK hP 12 rfl rfl 5 (by decide) (hts _ q_226) (fun _ h9 => h9) rfl d_Mo_begin_45 ?_
      refine lv_iconst (v := 0) hx hb d_Mo_begin_48 (by decide) ?_
      refine lv_iconst (v := 0) hx hb d_Mo_begin_49 (by decide) ?_
      obtain ⟨hin9, hf⟩ := asm_of hf
      refine va_iast hx hb hK hP hD hS 0 0 rfl rfl hin9 d_Mo_begin_50 (fun H locs hP hD hS => ?_)
      have hP : va_P (dC, dI) classes [(a_t_begins, .inl (tI, t_begins_N, .inl (upd t_begins_F (0 : Int32).toNatClampNeg 0))), (a_t_layers, .inl (tI, t_layers_N, .inl t_layers_F)), (a_t_low, .inl (tI, t_low_N, .inl t_low_F)), (a_t_known, .inl (tZ, t_known_N, .inl t_known_F)), (a_t_came, .inl (tI, t_came_N, .inl t_came_F)), (a_t_width, .inl (tI, t_width_N, .inl t_width_F)), (a_t_brings, .inl (tI, t_brings_N, .inl t_brings_F)), (a_t_first, .inl (tI, t_first_N, .inl t_first_F)), (a_t_missing, .inl (tI, t_missing_N, .inl t_missing_F)), (a_t_owner, .inl (tI, t_owner_N, .inl t_owner_F)), (a_t_length, .inl (tI, t_length_N, .inl t_length_F)), (a_t_told, .inl (tI, t_told_N, .inl t_told_F)), (a_t, .inr (7, [.int u6.2, .int v1, .int 0, .ref o_t_wide, .ref o_t_high, .ref a_t_begins, .int t_size, .ref o_t_bytes, .ref a_t_came, .ref a_t_width, .ref a_t_brings, .ref a_t_first, .ref a_t_missing, .ref a_t_told, .int t_pieces, .ref a_t_owner, .ref a_t_length, .ref a_t_layers, .int t_over, .ref a_t_low, .ref a_t_known, .int t_writing, .int t_begin, .int t_end, .int t_room, .int t_wrong, .int t_count]))] H := hP
      have hD : va_D A [(a_t_begins, .inl (tI, t_begins_N, .inl (upd t_begins_F (0 : Int32).toNatClampNeg 0))), (a_t_layers, .inl (tI, t_layers_N, .inl t_layers_F)), (a_t_low, .inl (tI, t_low_N, .inl t_low_F)), (a_t_known, .inl (tZ, t_known_N, .inl t_known_F)), (a_t_came, .inl (tI, t_came_N, .inl t_came_F)), (a_t_width, .inl (tI, t_width_N, .inl t_width_F)), (a_t_brings, .inl (tI, t_brings_N, .inl t_brings_F)), (a_t_first, .inl (tI, t_first_N, .inl t_first_F)), (a_t_missing, .inl (tI, t_missing_N, .inl t_missing_F)), (a_t_owner, .inl (tI, t_owner_N, .inl t_owner_F)), (a_t_length, .inl (tI, t_length_N, .inl t_length_F)), (a_t_told, .inl (tI, t_told_N, .inl t_told_F)), (a_t, .inr (7, [.int u6.2, .int v1, .int 0, .ref o_t_wide, .ref o_t_high, .ref a_t_begins, .int t_size, .ref o_t_bytes, .ref a_t_came, .ref a_t_width, .ref a_t_brings, .ref a_t_first, .ref a_t_missing, .ref a_t_told, .int t_pieces, .ref a_t_owner, .ref a_t_length, .ref a_t_layers, .int t_over, .ref a_t_low, .ref a_t_known, .int t_writing, .int t_begin, .int t_end, .int t_room, .int t_wrong, .int t_count]))] := hD
      refine lv_aload_n hx hb d_Mo_begin_51 rfl (lv_at hl 0 rfl) ?_
      refine lv_iconst (v := 0) hx hb d_Mo_begin_52 (by decide) ?_
      obtain ⟨u7, hu, hf⟩ := bd_of hf
      refine jn_v (wc := [(a_t, .inr (7, [.int u6.2, .int v1, .int 0, .ref o_t_wide, .ref o_t_high, .ref a_t_begins, .int t_size, .ref o_t_bytes, .ref a_t_came, .ref a_t_width, .ref a_t_brings, .ref a_t_first, .ref a_t_missing, .ref a_t_told, .int t_pieces, .ref a_t_owner, .ref a_t_length, .ref a_t_layers, .int t_over, .ref a_t_low, .ref a_t_known, .int t_writing, .int t_begin, .int t_end, .int t_room, .int t_wrong, .int t_count])), (a_t_came, .inl (tI, t_came_N, .inl t_came_F)), (a_t_width, .inl (tI, t_width_N, .inl t_width_F)), (a_t_brings, .inl (tI, t_brings_N, .inl t_brings_F)), (a_t_first, .inl (tI, t_first_N, .inl t_first_F)), (a_t_missing, .inl (tI, t_missing_N, .inl t_missing_F)), (a_t_owner, .inl (tI, t_owner_N, .inl t_owner_F)), (a_t_length, .inl (tI, t_length_N, .inl t_length_F)), (a_t_told, .inl (tI, t_told_N, .inl t_told_F))]) (wr := [(a_t_begins, .inl (tI, t_begins_N, .inl (upd t_begins_F (0 : Int32).toNatClampNeg 0))), (a_t_layers, .inl (tI, t_layers_N, .inl t_layers_F)), (a_t_low, .inl (tI, t_low_N, .inl t_low_F)), (a_t_known, .inl (tZ, t_known_N, .inl t_known_F))]) (va_runV (As := [.int 0]) (rest := []) ⟨hx, hb, hml, hown, hts⟩ (c_Mo_fresh l dC dI tI tB tL tZ a_t a_t_came a_t_width a_t_brings a_t_first a_t_missing a_t_owner a_t_length a_t_told o_t_wide o_t_high a_t_begins o_t_bytes a_t_layers a_t_low a_t_known H.size u6.2 v1 0 t_size t_pieces t_over t_writing t_begin t_end t_room t_wrong t_count t_came_N t_came_F t_width_N t_width_F t_brings_N t_brings_F t_first_N t_first_F t_missing_N t_missing_F t_owner_N t_owner_F t_length_N t_length_F t_told_N t_told_F 0 F u7 hu) (cv_of hts q_234 q_214 q_233 q_235 q_236 hd_Mo_fresh ⟨Nat.le_of_ble_eq_true rfl, Nat.le_of_ble_eq_true rfl⟩) (pr_V (ci := 7) (C := R_Mo) (q0 := 0) hK hN (hP.sub [12, 4, 5, 6, 7, 8, 9, 10, 11] rfl) (hD.sub [12, 4, 5, 6, 7, 8, 9, 10, 11] (by decide) rfl) rfl rfl) rfl rfl hl.1 rfl (lv_room (Nat.le_of_ble_eq_true rfl)) d_Mo_begin_53 hc) hP hD hS hA [12, 4, 5, 6, 7, 8, 9, 10, 11] [0, 1, 2, 3] rfl rfl (by decide) (by decide) (fun _ H locs hP hD hS => ?_)
      have hP : va_P (dC, dI) classes [(a_t_begins, .inl (tI, t_begins_N, .inl (upd t_begins_F (0 : Int32).toNatClampNeg 0))), (a_t_layers, .inl (tI, t_layers_N, .inl t_layers_F)), (a_t_low, .inl (tI, t_low_N, .inl t_low_F)), (a_t_known, .inl (tZ, t_known_N, .inl t_known_F)), (a_t, .inr (7, [.int u6.2, .int v1, .int 0, .ref o_t_wide, .ref o_t_high, .ref a_t_begins, .int t_size, .ref o_t_bytes, .ref a_t_came, .ref a_t_width, .ref a_t_brings, .ref a_t_first, .ref a_t_missing, .ref a_t_told, .int u7.1, .ref a_t_owner, .ref a_t_length, .ref a_t_layers, .int t_over, .ref a_t_low, .ref a_t_known, .int t_writing, .int t_begin, .int t_end, .int t_room, .int t_wrong, .int t_count])), (a_t_came, .inl (tI, t_came_N, .inl u7.2.1)), (a_t_width, .inl (tI, t_width_N, .inl u7.2.2.1)), (a_t_brings, .inl (tI, t_brings_N, .inl u7.2.2.2.1)), (a_t_first, .inl (tI, t_first_N, .inl u7.2.2.2.2.1)), (a_t_missing, .inl (tI, t_missing_N, .inl u7.2.2.2.2.2.1)), (a_t_owner, .inl (tI, t_owner_N, .inl u7.2.2.2.2.2.2.1)), (a_t_length, .inl (tI, t_length_N, .inl u7.2.2.2.2.2.2.2.1)), (a_t_told, .inl (tI, t_told_N, .inl u7.2.2.2.2.2.2.2.2))] H := hP
      have hD : va_D A [(a_t_begins, .inl (tI, t_begins_N, .inl (upd t_begins_F (0 : Int32).toNatClampNeg 0))), (a_t_layers, .inl (tI, t_layers_N, .inl t_layers_F)), (a_t_low, .inl (tI, t_low_N, .inl t_low_F)), (a_t_known, .inl (tZ, t_known_N, .inl t_known_F)), (a_t, .inr (7, [.int u6.2, .int v1, .int 0, .ref o_t_wide, .ref o_t_high, .ref a_t_begins, .int t_size, .ref o_t_bytes, .ref a_t_came, .ref a_t_width, .ref a_t_brings, .ref a_t_first, .ref a_t_missing, .ref a_t_told, .int u7.1, .ref a_t_owner, .ref a_t_length, .ref a_t_layers, .int t_over, .ref a_t_low, .ref a_t_known, .int t_writing, .int t_begin, .int t_end, .int t_room, .int t_wrong, .int t_count])), (a_t_came, .inl (tI, t_came_N, .inl u7.2.1)), (a_t_width, .inl (tI, t_width_N, .inl u7.2.2.1)), (a_t_brings, .inl (tI, t_brings_N, .inl u7.2.2.2.1)), (a_t_first, .inl (tI, t_first_N, .inl u7.2.2.2.2.1)), (a_t_missing, .inl (tI, t_missing_N, .inl u7.2.2.2.2.2.1)), (a_t_owner, .inl (tI, t_owner_N, .inl u7.2.2.2.2.2.2.1)), (a_t_length, .inl (tI, t_length_N, .inl u7.2.2.2.2.2.2.2.1)), (a_t_told, .inl (tI, t_told_N, .inl u7.2.2.2.2.2.2.2.2))] := hD
      refine lv_aload_n hx hb d_Mo_begin_56 rfl (lv_at hl 0 rfl) ?_
      refine lv_sipush (v := 1024) hx hb d_Mo_begin_57 (by decide) ?_
      obtain ⟨u8, hu, hf⟩ := bd_of hf
      refine jn_v (wc := [(a_t, .inr (7, [.int u6.2, .int v1, .int 0, .ref o_t_wide, .ref o_t_high, .ref a_t_begins, .int t_size, .ref o_t_bytes, .ref a_t_came, .ref a_t_width, .ref a_t_brings, .ref a_t_first, .ref a_t_missing, .ref a_t_told, .int u7.1, .ref a_t_owner, .ref a_t_length, .ref a_t_layers, .int t_over, .ref a_t_low, .ref a_t_known, .int t_writing, .int t_begin, .int t_end, .int t_room, .int t_wrong, .int t_count])), (a_t_came, .inl (tI, t_came_N, .inl u7.2.1)), (a_t_width, .inl (tI, t_width_N, .inl u7.2.2.1)), (a_t_brings, .inl (tI, t_brings_N, .inl u7.2.2.2.1)), (a_t_first, .inl (tI, t_first_N, .inl u7.2.2.2.2.1)), (a_t_missing, .inl (tI, t_missing_N, .inl u7.2.2.2.2.2.1)), (a_t_owner, .inl (tI, t_owner_N, .inl u7.2.2.2.2.2.2.1)), (a_t_length, .inl (tI, t_length_N, .inl u7.2.2.2.2.2.2.2.1)), (a_t_told, .inl (tI, t_told_N, .inl u7.2.2.2.2.2.2.2.2))]) (wr := [(a_t_begins, .inl (tI, t_begins_N, .inl (upd t_begins_F (0 : Int32).toNatClampNeg 0))), (a_t_layers, .inl (tI, t_layers_N, .inl t_layers_F)), (a_t_low, .inl (tI, t_low_N, .inl t_low_F)), (a_t_known, .inl (tZ, t_known_N, .inl t_known_F))]) (va_runV (As := [.int 1024]) (rest := []) ⟨hx, hb, hml, hown, hts⟩ (c_Mo_fresh l dC dI tI tB tL tZ a_t a_t_came a_t_width a_t_brings a_t_first a_t_missing a_t_owner a_t_length a_t_told o_t_wide o_t_high a_t_begins o_t_bytes a_t_layers a_t_low a_t_known H.size u6.2 v1 0 t_size u7.1 t_over t_writing t_begin t_end t_room t_wrong t_count t_came_N u7.2.1 t_width_N u7.2.2.1 t_brings_N u7.2.2.2.1 t_first_N u7.2.2.2.2.1 t_missing_N u7.2.2.2.2.2.1 t_owner_N u7.2.2.2.2.2.2.1 t_length_N u7.2.2.2.2.2.2.2.1 t_told_N u7.2.2.2.2.2.2.2.2 1024 F u8 hu) (cv_of hts q_234 q_214 q_233 q_235 q_236 hd_Mo_fresh ⟨Nat.le_of_ble_eq_true rfl, Nat.le_of_ble_eq_true rfl⟩) (pr_V (ci := 7) (C := R_Mo) (q0 := 0) hK hN (hP.sub [4, 5, 6, 7, 8, 9, 10, 11, 12] rfl) (hD.sub [4, 5, 6, 7, 8, 9, 10, 11, 12] (by decide) rfl) rfl rfl) rfl rfl hl.1 rfl (lv_room (Nat.le_of_ble_eq_true rfl)) d_Mo_begin_60 hc) hP hD hS hA [4, 5, 6, 7, 8, 9, 10, 11, 12] [0, 1, 2, 3] rfl rfl (by decide) (by decide) (fun _ H locs hP hD hS => ?_)
      have hP : va_P (dC, dI) classes [(a_t_begins, .inl (tI, t_begins_N, .inl (upd t_begins_F (0 : Int32).toNatClampNeg 0))), (a_t_layers, .inl (tI, t_layers_N, .inl t_layers_F)), (a_t_low, .inl (tI, t_low_N, .inl t_low_F)), (a_t_known, .inl (tZ, t_known_N, .inl t_known_F)), (a_t, .inr (7, [.int u6.2, .int v1, .int 0, .ref o_t_wide, .ref o_t_high, .ref a_t_begins, .int t_size, .ref o_t_bytes, .ref a_t_came, .ref a_t_width, .ref a_t_brings, .ref a_t_first, .ref a_t_missing, .ref a_t_told, .int u8.1, .ref a_t_owner, .ref a_t_length, .ref a_t_layers, .int t_over, .ref a_t_low, .ref a_t_known, .int t_writing, .int t_begin, .int t_end, .int t_room, .int t_wrong, .int t_count])), (a_t_came, .inl (tI, t_came_N, .inl u8.2.1)), (a_t_width, .inl (tI, t_width_N, .inl u8.2.2.1)), (a_t_brings, .inl (tI, t_brings_N, .inl u8.2.2.2.1)), (a_t_first, .inl (tI, t_first_N, .inl u8.2.2.2.2.1)), (a_t_missing, .inl (tI, t_missing_N, .inl u8.2.2.2.2.2.1)), (a_t_owner, .inl (tI, t_owner_N, .inl u8.2.2.2.2.2.2.1)), (a_t_length, .inl (tI, t_length_N, .inl u8.2.2.2.2.2.2.2.1)), (a_t_told, .inl (tI, t_told_N, .inl u8.2.2.2.2.2.2.2.2))] H := hP
      have hD : va_D A [(a_t_begins, .inl (tI, t_begins_N, .inl (upd t_begins_F (0 : Int32).toNatClampNeg 0))), (a_t_layers, .inl (tI, t_layers_N, .inl t_layers_F)), (a_t_low, .inl (tI, t_low_N, .inl t_low_F)), (a_t_known, .inl (tZ, t_known_N, .inl t_known_F)), (a_t, .inr (7, [.int u6.2, .int v1, .int 0, .ref o_t_wide, .ref o_t_high, .ref a_t_begins, .int t_size, .ref o_t_bytes, .ref a_t_came, .ref a_t_width, .ref a_t_brings, .ref a_t_first, .ref a_t_missing, .ref a_t_told, .int u8.1, .ref a_t_owner, .ref a_t_length, .ref a_t_layers, .int t_over, .ref a_t_low, .ref a_t_known, .int t_writing, .int t_begin, .int t_end, .int t_room, .int t_wrong, .int t_count])), (a_t_came, .inl (tI, t_came_N, .inl u8.2.1)), (a_t_width, .inl (tI, t_width_N, .inl u8.2.2.1)), (a_t_brings, .inl (tI, t_brings_N, .inl u8.2.2.2.1)), (a_t_first, .inl (tI, t_first_N, .inl u8.2.2.2.2.1)), (a_t_missing, .inl (tI, t_missing_N, .inl u8.2.2.2.2.2.1)), (a_t_owner, .inl (tI, t_owner_N, .inl u8.2.2.2.2.2.2.1)), (a_t_length, .inl (tI, t_length_N, .inl u8.2.2.2.2.2.2.2.1)), (a_t_told, .inl (tI, t_told_N, .inl u8.2.2.2.2.2.2.2.2))] := hD
      refine lv_aload_n hx hb d_Mo_begin_63 rfl (lv_at hl 0 rfl) ?_
      refine va_get (D := (dC, dI)) (ci := 7) (v := .ref a_t_layers) (C := R_Mo) (T := F_Mo) (N := 27) hx hb hts i_Mo hown hK hP 4 rfl rfl 17 (by decide) (hts _ q_229) (fun _ h9 => h9) rfl d_Mo_begin_64 ?_
      refine lv_iconst (v := 0) hx hb d_Mo_begin_67 (by decide) ?_
      refine lv_iconst (v := 0) hx hb d_Mo_begin_68 (by decide) ?_
      obtain ⟨hin9, hf⟩ := asm_of hf
      refine va_iast hx hb hK hP hD hS 1 0 rfl rfl hin9 d_Mo_begin_69 (fun H locs hP hD hS => ?_)
      have hP : va_P (dC, dI) classes [(a_t_begins, .inl (tI, t_begins_N, .inl (upd t_begins_F (0 : Int32).toNatClampNeg 0))), (a_t_layers, .inl (tI, t_layers_N, .inl (upd t_layers_F (0 : Int32).toNatClampNeg 0))), (a_t_low, .inl (tI, t_low_N, .inl t_low_F)), (a_t_known, .inl (tZ, t_known_N, .inl t_known_F)), (a_t, .inr (7, [.int u6.2, .int v1, .int 0, .ref o_t_wide, .ref o_t_high, .ref a_t_begins, .int t_size, .ref o_t_bytes, .ref a_t_came, .ref a_t_width, .ref a_t_brings, .ref a_t_first, .ref a_t_missing, .ref a_t_told, .int u8.1, .ref a_t_owner, .ref a_t_length, .ref a_t_layers, .int t_over, .ref a_t_low, .ref a_t_known, .int t_writing, .int t_begin, .int t_end, .int t_room, .int t_wrong, .int t_count])), (a_t_came, .inl (tI, t_came_N, .inl u8.2.1)), (a_t_width, .inl (tI, t_width_N, .inl u8.2.2.1)), (a_t_brings, .inl (tI, t_brings_N, .inl u8.2.2.2.1)), (a_t_first, .inl (tI, t_first_N, .inl u8.2.2.2.2.1)), (a_t_missing, .inl (tI, t_missing_N, .inl u8.2.2.2.2.2.1)), (a_t_owner, .inl (tI, t_owner_N, .inl u8.2.2.2.2.2.2.1)), (a_t_length, .inl (tI, t_length_N, .inl u8.2.2.2.2.2.2.2.1)), (a_t_told, .inl (tI, t_told_N, .inl u8.2.2.2.2.2.2.2.2))] H := hP
      have hD : va_D A [(a_t_begins, .inl (tI, t_begins_N, .inl (upd t_begins_F (0 : Int32).toNatClampNeg 0))), (a_t_layers, .inl (tI, t_layers_N, .inl (upd t_layers_F (0 : Int32).toNatClampNeg 0))), (a_t_low, .inl (tI, t_low_N, .inl t_low_F)), (a_t_known, .inl (tZ, t_known_N, .inl t_known_F)), (a_t, .inr (7, [.int u6.2, .int v1, .int 0, .ref o_t_wide, .ref o_t_high, .ref a_t_begins, .int t_size, .ref o_t_bytes, .ref a_t_came, .ref a_t_width, .ref a_t_brings, .ref a_t_first, .ref a_t_missing, .ref a_t_told, .int u8.1, .ref a_t_owner, .ref a_t_length, .ref a_t_layers, .int t_over, .ref a_t_low, .ref a_t_known, .int t_writing, .int t_begin, .int t_end, .int t_room, .int t_wrong, .int t_count])), (a_t_came, .inl (tI, t_came_N, .inl u8.2.1)), (a_t_width, .inl (tI, t_width_N, .inl u8.2.2.1)), (a_t_brings, .inl (tI, t_brings_N, .inl u8.2.2.2.1)), (a_t_first, .inl (tI, t_first_N, .inl u8.2.2.2.2.1)), (a_t_missing, .inl (tI, t_missing_N, .inl u8.2.2.2.2.2.1)), (a_t_owner, .inl (tI, t_owner_N, .inl u8.2.2.2.2.2.2.1)), (a_t_length, .inl (tI, t_length_N, .inl u8.2.2.2.2.2.2.2.1)), (a_t_told, .inl (tI, t_told_N, .inl u8.2.2.2.2.2.2.2.2))] := hD
      refine lv_aload_n hx hb d_Mo_begin_70 rfl (lv_at hl 0 rfl) ?_
      refine va_get (D := (dC, dI)) (ci := 7) (v := .ref a_t_layers) (C := R_Mo) (T := F_Mo) (N := 27) hx hb hts i_Mo hown hK hP 4 rfl rfl 17 (by decide) (hts _ q_229) (fun _ h9 => h9) rfl d_Mo_begin_71 ?_
      refine lv_iconst (v := 1) hx hb d_Mo_begin_74 (by decide) ?_
      refine lv_iconst (v := 0) hx hb d_Mo_begin_75 (by decide) ?_
      obtain ⟨hin9, hf⟩ := asm_of hf
      refine va_iast hx hb hK hP hD hS 1 0 rfl rfl hin9 d_Mo_begin_76 (fun H locs hP hD hS => ?_)
      have hP : va_P (dC, dI) classes [(a_t_begins, .inl (tI, t_begins_N, .inl (upd t_begins_F (0 : Int32).toNatClampNeg 0))), (a_t_layers, .inl (tI, t_layers_N, .inl ((upd (upd t_layers_F (0 : Int32).toNatClampNeg 0) (1 : Int32).toNatClampNeg 0)))), (a_t_low, .inl (tI, t_low_N, .inl t_low_F)), (a_t_known, .inl (tZ, t_known_N, .inl t_known_F)), (a_t, .inr (7, [.int u6.2, .int v1, .int 0, .ref o_t_wide, .ref o_t_high, .ref a_t_begins, .int t_size, .ref o_t_bytes, .ref a_t_came, .ref a_t_width, .ref a_t_brings, .ref a_t_first, .ref a_t_missing, .ref a_t_told, .int u8.1, .ref a_t_owner, .ref a_t_length, .ref a_t_layers, .int t_over, .ref a_t_low, .ref a_t_known, .int t_writing, .int t_begin, .int t_end, .int t_room, .int t_wrong, .int t_count])), (a_t_came, .inl (tI, t_came_N, .inl u8.2.1)), (a_t_width, .inl (tI, t_width_N, .inl u8.2.2.1)), (a_t_brings, .inl (tI, t_brings_N, .inl u8.2.2.2.1)), (a_t_first, .inl (tI, t_first_N, .inl u8.2.2.2.2.1)), (a_t_missing, .inl (tI, t_missing_N, .inl u8.2.2.2.2.2.1)), (a_t_owner, .inl (tI, t_owner_N, .inl u8.2.2.2.2.2.2.1)), (a_t_length, .inl (tI, t_length_N, .inl u8.2.2.2.2.2.2.2.1)), (a_t_told, .inl (tI, t_told_N, .inl u8.2.2.2.2.2.2.2.2))] H := hP
      have hD : va_D A [(a_t_begins, .inl (tI, t_begins_N, .inl (upd t_begins_F (0 : Int32).toNatClampNeg 0))), (a_t_layers, .inl (tI, t_layers_N, .inl ((upd (upd t_layers_F (0 : Int32).toNatClampNeg 0) (1 : Int32).toNatClampNeg 0)))), (a_t_low, .inl (tI, t_low_N, .inl t_low_F)), (a_t_known, .inl (tZ, t_known_N, .inl t_known_F)), (a_t, .inr (7, [.int u6.2, .int v1, .int 0, .ref o_t_wide, .ref o_t_high, .ref a_t_begins, .int t_size, .ref o_t_bytes, .ref a_t_came, .ref a_t_width, .ref a_t_brings, .ref a_t_first, .ref a_t_missing, .ref a_t_told, .int u8.1, .ref a_t_owner, .ref a_t_length, .ref a_t_layers, .int t_over, .ref a_t_low, .ref a_t_known, .int t_writing, .int t_begin, .int t_end, .int t_room, .int t_wrong, .int t_count])), (a_t_came, .inl (tI, t_came_N, .inl u8.2.1)), (a_t_width, .inl (tI, t_width_N, .inl u8.2.2.1)), (a_t_brings, .inl (tI, t_brings_N, .inl u8.2.2.2.1)), (a_t_first, .inl (tI, t_first_N, .inl u8.2.2.2.2.1)), (a_t_missing, .inl (tI, t_missing_N, .inl u8.2.2.2.2.2.1)), (a_t_owner, .inl (tI, t_owner_N, .inl u8.2.2.2.2.2.2.1)), (a_t_length, .inl (tI, t_length_N, .inl u8.2.2.2.2.2.2.2.1)), (a_t_told, .inl (tI, t_told_N, .inl u8.2.2.2.2.2.2.2.2))] := hD
      refine lv_aload_n hx hb d_Mo_begin_77 rfl (lv_at hl 0 rfl) ?_
      refine lv_iconst (v := 0) hx hb d_Mo_begin_78 (by decide) ?_
      refine va_put (D := (dC, dI)) (ci := 7) (v := .int 0) (ty := .boolean) (C := R_Mo) (T := F_Mo) (N := 27) hx hb hts i_Mo t_Mo t_Mo_ok n_Mo hown hK hP hD hS 4 rfl rfl 18 (by decide) (hts _ q_243) (fun _ h9 => h9) rfl (t_Mo_ok 18 (by decide)) rfl rfl (Nat.le_of_ble_eq_true rfl) d_Mo_begin_79 (fun H locs hP hD hS => ?_)
      have hP : va_P (dC, dI) classes [(a_t_begins, .inl (tI, t_begins_N, .inl (upd t_begins_F (0 : Int32).toNatClampNeg 0))), (a_t_layers, .inl (tI, t_layers_N, .inl ((upd (upd t_layers_F (0 : Int32).toNatClampNeg 0) (1 : Int32).toNatClampNeg 0)))), (a_t_low, .inl (tI, t_low_N, .inl t_low_F)), (a_t_known, .inl (tZ, t_known_N, .inl t_known_F)), (a_t, .inr (7, [.int u6.2, .int v1, .int 0, .ref o_t_wide, .ref o_t_high, .ref a_t_begins, .int t_size, .ref o_t_bytes, .ref a_t_came, .ref a_t_width, .ref a_t_brings, .ref a_t_first, .ref a_t_missing, .ref a_t_told, .int u8.1, .ref a_t_owner, .ref a_t_length, .ref a_t_layers, .int 0, .ref a_t_low, .ref a_t_known, .int t_writing, .int t_begin, .int t_end, .int t_room, .int t_wrong, .int t_count])), (a_t_came, .inl (tI, t_came_N, .inl u8.2.1)), (a_t_width, .inl (tI, t_width_N, .inl u8.2.2.1)), (a_t_brings, .inl (tI, t_brings_N, .inl u8.2.2.2.1)), (a_t_first, .inl (tI, t_first_N, .inl u8.2.2.2.2.1)), (a_t_missing, .inl (tI, t_missing_N, .inl u8.2.2.2.2.2.1)), (a_t_owner, .inl (tI, t_owner_N, .inl u8.2.2.2.2.2.2.1)), (a_t_length, .inl (tI, t_length_N, .inl u8.2.2.2.2.2.2.2.1)), (a_t_told, .inl (tI, t_told_N, .inl u8.2.2.2.2.2.2.2.2))] H := hP
      have hD : va_D A [(a_t_begins, .inl (tI, t_begins_N, .inl (upd t_begins_F (0 : Int32).toNatClampNeg 0))), (a_t_layers, .inl (tI, t_layers_N, .inl ((upd (upd t_layers_F (0 : Int32).toNatClampNeg 0) (1 : Int32).toNatClampNeg 0)))), (a_t_low, .inl (tI, t_low_N, .inl t_low_F)), (a_t_known, .inl (tZ, t_known_N, .inl t_known_F)), (a_t, .inr (7, [.int u6.2, .int v1, .int 0, .ref o_t_wide, .ref o_t_high, .ref a_t_begins, .int t_size, .ref o_t_bytes, .ref a_t_came, .ref a_t_width, .ref a_t_brings, .ref a_t_first, .ref a_t_missing, .ref a_t_told, .int u8.1, .ref a_t_owner, .ref a_t_length, .ref a_t_layers, .int 0, .ref a_t_low, .ref a_t_known, .int t_writing, .int t_begin, .int t_end, .int t_room, .int t_wrong, .int t_count])), (a_t_came, .inl (tI, t_came_N, .inl u8.2.1)), (a_t_width, .inl (tI, t_width_N, .inl u8.2.2.1)), (a_t_brings, .inl (tI, t_brings_N, .inl u8.2.2.2.1)), (a_t_first, .inl (tI, t_first_N, .inl u8.2.2.2.2.1)), (a_t_missing, .inl (tI, t_missing_N, .inl u8.2.2.2.2.2.1)), (a_t_owner, .inl (tI, t_owner_N, .inl u8.2.2.2.2.2.2.1)), (a_t_length, .inl (tI, t_length_N, .inl u8.2.2.2.2.2.2.2.1)), (a_t_told, .inl (tI, t_told_N, .inl u8.2.2.2.2.2.2.2.2))] := hD
      refine lv_iconst (v := 0) hx hb d_Mo_begin_82 (by decide) ?_
      refine lv_istore_n (lv' := [(2, .int 0), (0, .ref a_t), (1, .int v1)]) hx hb d_Mo_begin_83 rfl hl (by decide) rfl (fun ls hl => ?_)
      exact k_84 F (upd t_begins_F (0 : Int32).toNatClampNeg 0) ((upd (upd t_layers_F (0 : Int32).toNatClampNeg 0) (1 : Int32).toNatClampNeg 0)) t_low_F t_known_F u6.2 v1 0 u8.1 0 u8.2.1 u8.2.2.1 u8.2.2.2.1 u8.2.2.2.2.1 u8.2.2.2.2.2.1 u8.2.2.2.2.2.2.1 u8.2.2.2.2.2.2.2.1 u8.2.2.2.2.2.2.2.2 0 _ _ _ _ ls hP hD hS (lv_sub hl [1, 0] rfl) hc hf
    · have hf := ite_f c0 hf
      have hf := Option.some.inj hf
      subst u
      exact ret _ _ _ _ _ _ () d_Mo_begin_33 (hP.sub [12, 0, 1, 2, 3, 4, 5, 6, 7, 8, 9, 10, 11] rfl) (hD.sub [12, 0, 1, 2, 3, 4, 5, 6, 7, 8, 9, 10, 11] (by decide) rfl) hS hc.1 hc.2
  have k_24 : ∀ (t_thrown : Int32) (t_style : Int32) (t_bands : Int32) (t_pieces : Int32) (t_over : Int32) (t_begins_F : Nat → Int32) (t_layers_F : Nat → Int32) (t_low_F : Nat → Int32) (t_known_F : Nat → Int32) (t_came_F : Nat → Int32) (t_width_F : Nat → Int32) (t_brings_F : Nat → Int32) (t_first_F : Nat → Int32) (t_missing_F : Nat → Int32) (t_owner_F : Nat → Int32) (t_length_F : Nat → Int32) (t_told_F : Nat → Int32) (v1 : Int32) (H : Heap) (locs : List Loc) (cells slots : Nat) (ls : Array Slot), va_P (dC, dI) classes [(a_t, .inr (7, [.int t_thrown, .int t_style, .int t_bands, .ref o_t_wide, .ref o_t_high, .ref a_t_begins, .int t_size, .ref o_t_bytes, .ref a_t_came, .ref a_t_width, .ref a_t_brings, .ref a_t_first, .ref a_t_missing, .ref a_t_told, .int t_pieces, .ref a_t_owner, .ref a_t_length, .ref a_t_layers, .int t_over, .ref a_t_low, .ref a_t_known, .int t_writing, .int t_begin, .int t_end, .int t_room, .int t_wrong, .int t_count])), (a_t_begins, .inl (tI, t_begins_N, .inl t_begins_F)), (a_t_layers, .inl (tI, t_layers_N, .inl t_layers_F)), (a_t_low, .inl (tI, t_low_N, .inl t_low_F)), (a_t_known, .inl (tZ, t_known_N, .inl t_known_F)), (a_t_came, .inl (tI, t_came_N, .inl t_came_F)), (a_t_width, .inl (tI, t_width_N, .inl t_width_F)), (a_t_brings, .inl (tI, t_brings_N, .inl t_brings_F)), (a_t_first, .inl (tI, t_first_N, .inl t_first_F)), (a_t_missing, .inl (tI, t_missing_N, .inl t_missing_F)), (a_t_owner, .inl (tI, t_owner_N, .inl t_owner_F)), (a_t_length, .inl (tI, t_length_N, .inl t_length_F)), (a_t_told, .inl (tI, t_told_N, .inl t_told_F))] H → va_D A [(a_t, .inr (7, [.int t_thrown, .int t_style, .int t_bands, .ref o_t_wide, .ref o_t_high, .ref a_t_begins, .int t_size, .ref o_t_bytes, .ref a_t_came, .ref a_t_width, .ref a_t_brings, .ref a_t_first, .ref a_t_missing, .ref a_t_told, .int t_pieces, .ref a_t_owner, .ref a_t_length, .ref a_t_layers, .int t_over, .ref a_t_low, .ref a_t_known, .int t_writing, .int t_begin, .int t_end, .int t_room, .int t_wrong, .int t_count])), (a_t_begins, .inl (tI, t_begins_N, .inl t_begins_F)), (a_t_layers, .inl (tI, t_layers_N, .inl t_layers_F)), (a_t_low, .inl (tI, t_low_N, .inl t_low_F)), (a_t_known, .inl (tZ, t_known_N, .inl t_known_F)), (a_t_came, .inl (tI, t_came_N, .inl t_came_F)), (a_t_width, .inl (tI, t_width_N, .inl t_width_F)), (a_t_brings, .inl (tI, t_brings_N, .inl t_brings_F)), (a_t_first, .inl (tI, t_first_N, .inl t_first_F)), (a_t_missing, .inl (tI, t_missing_N, .inl t_missing_F)), (a_t_owner, .inl (tI, t_owner_N, .inl t_owner_F)), (a_t_length, .inl (tI, t_length_N, .inl t_length_F)), (a_t_told, .inl (tI, t_told_N, .inl t_told_F))] → va_S A s.heap H locs → lv_has ls 3 [(0, .ref a_t), (1, .int v1)] → (cells ≤ 0 ∧ slots ≤ 0) → g_Mo_begin_24 F t_begins_N t_layers_N t_low_N t_known_N t_came_N t_width_N t_brings_N t_first_N t_missing_N t_owner_N t_length_N t_told_N t_thrown t_style t_bands t_pieces t_over t_begins_F t_layers_F t_low_F t_known_F t_came_F t_width_F t_brings_F t_first_F t_missing_F t_owner_F t_length_F t_told_F v1 = some u → W p l e ({ frames := 2, cells := 0, slots := 0, locals := 47 } : Room) s m args below meth c H locs cells slots Q (F0 m 24 ls [.ref a_t]) := by
    intro t_thrown t_style t_bands t_pieces t_over t_begins_F t_layers_F t_low_F t_known_F t_came_F t_width_F t_brings_F t_first_F t_missing_F t_owner_F t_length_F t_told_F v1 H locs cells slots ls hP hD hS hl hc hf
    unfold g_Mo_begin_24 at hf
    refine lv_iconst (v := 0) hx hb d_Mo_begin_24 (by decide) ?_
    exact k_25 t_thrown t_style t_bands t_pieces t_over t_begins_F t_layers_F t_low_F t_known_F t_came_F t_width_F t_brings_F t_first_F t_missing_F t_owner_F t_length_F t_told_F v1 0 _ _ _ _ ls hP hD hS hl hc hf
  have hc : 0 ≤ 0 ∧ 0 ≤ 0 := ⟨Nat.le_refl 0, Nat.le_refl 0⟩
  unfold f_Mo_begin at hf
  refine lv_aload_n hx hb d_Mo_begin_0 rfl (lv_at hl 0 rfl) ?_
  refine lv_iload_n hx hb d_Mo_begin_1 rfl (lv_at hl 1 rfl) ?_
  refine lv_if_eq (tgt := 24) hx hb d_Mo_begin_2 (by decide) (fun c0 => ?_) (fun c0 => ?_)
  · have hf := ite_t c0 hf
    exact k_24 t_thrown t_style t_bands t_pieces t_over t_begins_F t_layers_F t_low_F t_known_F t_came_F t_width_F t_brings_F t_first_F t_missing_F t_owner_F t_length_F t_told_F p0 _ _ _ _ ls hP hD hS hl hc hf
  · have hf := ite_f c0 hf
    refine lv_iload_n hx hb d_Mo_begin_5 rfl (lv_at hl 1 rfl) ?_
    refine lv_iconst (v := 1) hx hb d_Mo_begin_6 (by decide) ?_
    refine lv_icmp_eq (tgt := 24) hx hb d_Mo_begin_7 (by decide) (fun c0 => ?_) (fun c0 => ?_)
    · have hf := ite_t c0 hf
      exact k_24 t_thrown t_style t_bands t_pieces t_over t_begins_F t_layers_F t_low_F t_known_F t_came_F t_width_F t_brings_F t_first_F t_missing_F t_owner_F t_length_F t_told_F p0 _ _ _ _ ls hP hD hS hl hc hf
    · have hf := ite_f c0 hf
      refine lv_iload_n hx hb d_Mo_begin_10 rfl (lv_at hl 1 rfl) ?_
      refine lv_iconst (v := 4) hx hb d_Mo_begin_11 (by decide) ?_
      refine lv_icmp_eq (tgt := 24) hx hb d_Mo_begin_12 (by decide) (fun c0 => ?_) (fun c0 => ?_)
      · have hf := ite_t c0 hf
        exact k_24 t_thrown t_style t_bands t_pieces t_over t_begins_F t_layers_F t_low_F t_known_F t_came_F t_width_F t_brings_F t_first_F t_missing_F t_owner_F t_length_F t_told_F p0 _ _ _ _ ls hP hD hS hl hc hf
      · have hf := ite_f c0 hf
        refine lv_iload_n hx hb d_Mo_begin_15 rfl (lv_at hl 1 rfl) ?_
        refine lv_iconst (v := 5) hx hb d_Mo_begin_16 (by decide) ?_
        refine lv_icmp_eq (tgt := 24) hx hb d_Mo_begin_17 (by decide) (fun c0 => ?_) (fun c0 => ?_)
        · have hf := ite_t c0 hf
          exact k_24 t_thrown t_style t_bands t_pieces t_over t_begins_F t_layers_F t_low_F t_known_F t_came_F t_width_F t_brings_F t_first_F t_missing_F t_owner_F t_length_F t_told_F p0 _ _ _ _ ls hP hD hS hl hc hf
        · have hf := ite_f c0 hf
          refine lv_iconst (v := 1) hx hb d_Mo_begin_20 (by decide) ?_
          refine lv_goto (tgt := 25) hx hb d_Mo_begin_21 (by decide) ?_
          exact k_25 t_thrown t_style t_bands t_pieces t_over t_begins_F t_layers_F t_low_F t_known_F t_came_F t_width_F t_brings_F t_first_F t_missing_F t_owner_F t_length_F t_told_F p0 1 _ _ _ _ ls hP hD hS hl hc hf
noncomputable def g_Mo_band_87 (F : Nat) (t_begins_N : Nat) (t_wide_N : Nat) (t_high_N : Nat) (t_thrown : Int32) (t_bands : Int32) (t_begins_F : Nat → Int32) (t_wide_F : Nat → Int32) (t_high_F : Nat → Int32) (v1 : Int32) (v2 : Int32) (s0 : Int32) (s1 : Int32) : Option (Int32 × Int32 × Int32 × (Nat → Int32) × (Nat → Int32) × (Nat → Int32)) :=
bd (f_Mo_throwing F t_thrown s1 s0 0) fun u16 =>
if u16.1 = 0 then (
asm (vp_in t_bands t_wide_N) (asm (vp_in t_bands t_high_N) (letb (t_bands + 1) fun x17 =>
asm (vp_in t_bands t_begins_N) (letb (t_begins_F t_bands.toNatClampNeg) fun x18 =>
letb (v1 * v2) fun x19 =>
letb (x18 + x19) fun x20 =>
asm (vp_in x17 t_begins_N) (letb (t_bands + 1) fun x21 =>
letb (x21 - 1) fun x22 =>
some (x22, u16.2, x21, (upd t_begins_F x17.toNatClampNeg x20), (upd t_wide_F t_bands.toNatClampNeg v1), (upd t_high_F t_bands.toNatClampNeg v2))))))) else (
some (0, u16.2, t_bands, t_begins_F, t_wide_F, t_high_F))
noncomputable def g_Mo_band_86 (F : Nat) (t_begins_N : Nat) (t_wide_N : Nat) (t_high_N : Nat) (t_thrown : Int32) (t_bands : Int32) (t_begins_F : Nat → Int32) (t_wide_F : Nat → Int32) (t_high_F : Nat → Int32) (v1 : Int32) (v2 : Int32) (s0 : Int32) : Option (Int32 × Int32 × Int32 × (Nat → Int32) × (Nat → Int32) × (Nat → Int32)) :=
g_Mo_band_87 F t_begins_N t_wide_N t_high_N t_thrown t_bands t_begins_F t_wide_F t_high_F v1 v2 0 s0
noncomputable def g_Mo_band_82 (F : Nat) (t_begins_N : Nat) (t_wide_N : Nat) (t_high_N : Nat) (t_thrown : Int32) (t_bands : Int32) (t_begins_F : Nat → Int32) (t_wide_F : Nat → Int32) (t_high_F : Nat → Int32) (v1 : Int32) (v2 : Int32) (s0 : Int32) : Option (Int32 × Int32 × Int32 × (Nat → Int32) × (Nat → Int32) × (Nat → Int32)) :=
g_Mo_band_87 F t_begins_N t_wide_N t_high_N t_thrown t_bands t_begins_F t_wide_F t_high_F v1 v2 1 s0
noncomputable def g_Mo_band_44 (F : Nat) (t_over : Int32) (t_begins_N : Nat) (t_layers_N : Nat) (t_layers_F : Nat → Int32) (t_wide_N : Nat) (t_high_N : Nat) (t_thrown : Int32) (t_bands : Int32) (t_begins_F : Nat → Int32) (t_wide_F : Nat → Int32) (t_high_F : Nat → Int32) (v1 : Int32) (v2 : Int32) (s0 : Int32) : Option (Int32 × Int32 × Int32 × (Nat → Int32) × (Nat → Int32) × (Nat → Int32)) :=
if s0 = 0 then (
if t_bands = 3 then (
g_Mo_band_82 F t_begins_N t_wide_N t_high_N t_thrown t_bands t_begins_F t_wide_F t_high_F v1 v2 s0) else (
asm (vp_in 0 t_layers_N) (letb (t_layers_F (0 : Int32).toNatClampNeg) fun x23 =>
asm (vp_in 1 t_layers_N) (letb (t_layers_F (1 : Int32).toNatClampNeg) fun x24 =>
letb (x23 + x24) fun x25 =>
if 0 < x25 then (
g_Mo_band_82 F t_begins_N t_wide_N t_high_N t_thrown t_bands t_begins_F t_wide_F t_high_F v1 v2 s0) else (
if t_over = 0 then (
g_Mo_band_86 F t_begins_N t_wide_N t_high_N t_thrown t_bands t_begins_F t_wide_F t_high_F v1 v2 s0) else (
g_Mo_band_82 F t_begins_N t_wide_N t_high_N t_thrown t_bands t_begins_F t_wide_F t_high_F v1 v2 s0)))))) else (
g_Mo_band_86 F t_begins_N t_wide_N t_high_N t_thrown t_bands t_begins_F t_wide_F t_high_F v1 v2 s0)
noncomputable def g_Mo_band_39 (F : Nat) (t_over : Int32) (t_begins_N : Nat) (t_layers_N : Nat) (t_layers_F : Nat → Int32) (t_wide_N : Nat) (t_high_N : Nat) (t_thrown : Int32) (t_bands : Int32) (t_begins_F : Nat → Int32) (t_wide_F : Nat → Int32) (t_high_F : Nat → Int32) (v1 : Int32) (v2 : Int32) : Option (Int32 × Int32 × Int32 × (Nat → Int32) × (Nat → Int32) × (Nat → Int32)) :=
g_Mo_band_44 F t_over t_begins_N t_layers_N t_layers_F t_wide_N t_high_N t_thrown t_bands t_begins_F t_wide_F t_high_F v1 v2 1
noncomputable def f_Mo_band (F : Nat) (t_thrown : Int32) (t_bands : Int32) (t_over : Int32) (t_begins_N : Nat) (t_begins_F : Nat → Int32) (t_layers_N : Nat) (t_layers_F : Nat → Int32) (t_wide_N : Nat) (t_wide_F : Nat → Int32) (t_high_N : Nat) (t_high_F : Nat → Int32) (p0 : Int32) (p1 : Int32) : Option (Int32 × Int32 × Int32 × (Nat → Int32) × (Nat → Int32) × (Nat → Int32)) :=
bd (f_Mo_out F p0 0 64) fun u26 =>
if u26 = 0 then (
bd (f_Mo_out F p1 0 64) fun u27 =>
if u27 = 0 then (
letb (p0 * p1) fun x28 =>
asm (vp_in t_bands t_begins_N) (letb (t_begins_F t_bands.toNatClampNeg) fun x29 =>
letb (1024 - x29) fun x30 =>
if x28 ≤ x30 then (
g_Mo_band_44 F t_over t_begins_N t_layers_N t_layers_F t_wide_N t_high_N t_thrown t_bands t_begins_F t_wide_F t_high_F p0 p1 0) else (
g_Mo_band_39 F t_over t_begins_N t_layers_N t_layers_F t_wide_N t_high_N t_thrown t_bands t_begins_F t_wide_F t_high_F p0 p1))) else (
g_Mo_band_39 F t_over t_begins_N t_layers_N t_layers_F t_wide_N t_high_N t_thrown t_bands t_begins_F t_wide_F t_high_F p0 p1)) else (
g_Mo_band_39 F t_over t_begins_N t_layers_N t_layers_F t_wide_N t_high_N t_thrown t_bands t_begins_F t_wide_F t_high_F p0 p1)
set_option maxHeartbeats 4000000 in
set_option maxRecDepth 100000 in
theorem c_Mo_band (l : Launch) (dC : Nat → ClassId) (dI : Nat → Nat → Nat) (tI tB tL tZ : ClassId) (a_t : Nat) (a_t_begins : Nat) (a_t_layers : Nat) (a_t_wide : Nat) (a_t_high : Nat) (o_t_bytes : Nat) (o_t_came : Nat) (o_t_width : Nat) (o_t_brings : Nat) (o_t_first : Nat) (o_t_missing : Nat) (o_t_told : Nat) (o_t_owner : Nat) (o_t_length : Nat) (o_t_low : Nat) (o_t_known : Nat) (sz : Nat) (t_thrown : Int32) (t_style : Int32) (t_bands : Int32) (t_size : Int32) (t_pieces : Int32) (t_over : Int32) (t_writing : Int32) (t_begin : Int32) (t_end : Int32) (t_room : Int32) (t_wrong : Int32) (t_count : Int32) (t_begins_N : Nat) (t_begins_F : Nat → Int32) (t_layers_N : Nat) (t_layers_F : Nat → Int32) (t_wide_N : Nat) (t_wide_F : Nat → Int32) (t_high_N : Nat) (t_high_F : Nat → Int32) (p0 : Int32) (p1 : Int32) (F : Nat) (u : Int32 × Int32 × Int32 × (Nat → Int32) × (Nat → Int32) × (Nat → Int32)) (hf : f_Mo_band F t_thrown t_bands t_over t_begins_N t_begins_F t_layers_N t_layers_F t_wide_N t_wide_F t_high_N t_high_F p0 p1 = some u) : CTi l y_Mo_band b_Mo_band 4 .int 1 23 (dC, dI) classes [(tI, .int), (tB, .byte), (tL, .long), (tZ, .boolean)] [.ref a_t, .int p0, .int p1] [(a_t, .inr (7, [.int t_thrown, .int t_style, .int t_bands, .ref a_t_wide, .ref a_t_high, .ref a_t_begins, .int t_size, .ref o_t_bytes, .ref o_t_came, .ref o_t_width, .ref o_t_brings, .ref o_t_first, .ref o_t_missing, .ref o_t_told, .int t_pieces, .ref o_t_owner, .ref o_t_length, .ref a_t_layers, .int t_over, .ref o_t_low, .ref o_t_known, .int t_writing, .int t_begin, .int t_end, .int t_room, .int t_wrong, .int t_count])), (a_t_begins, .inl (tI, t_begins_N, .inl t_begins_F)), (a_t_layers, .inl (tI, t_layers_N, .inl t_layers_F)), (a_t_wide, .inl (tI, t_wide_N, .inl t_wide_F)), (a_t_high, .inl (tI, t_high_N, .inl t_high_F))] sz (fun q : Unit => [(a_t, .inr (7, [.int u.2.1, .int t_style, .int u.2.2.1, .ref a_t_wide, .ref a_t_high, .ref a_t_begins, .int t_size, .ref o_t_bytes, .ref o_t_came, .ref o_t_width, .ref o_t_brings, .ref o_t_first, .ref o_t_missing, .ref o_t_told, .int t_pieces, .ref o_t_owner, .ref o_t_length, .ref a_t_layers, .int t_over, .ref o_t_low, .ref o_t_known, .int t_writing, .int t_begin, .int t_end, .int t_room, .int t_wrong, .int t_count])), (a_t_begins, .inl (tI, t_begins_N, .inl u.2.2.2.1)), (a_t_layers, .inl (tI, t_layers_N, .inl t_layers_F)), (a_t_wide, .inl (tI, t_wide_N, .inl u.2.2.2.2.1)), (a_t_high, .inl (tI, t_high_N, .inl u.2.2.2.2.2))]) (u.1) 0 0 := by
  refine mk_i (by decide) (Nat.le_of_ble_eq_true rfl) ?_
  intro p e s m args below meth c ls A Q hx hb hml hts hown hin hK hN hP hD hA hl ret
  obtain ⟨H, hH⟩ : ∃ H : Heap, H = s.heap := ⟨_, rfl⟩
  have hS : va_S A s.heap H [] := by rw [hH]; exact va_S.rf
  rw [← hH] at hP ⊢
  have hl : lv_has ls 4 [(0, .ref a_t), (1, .int p0), (2, .int p1)] := hl
  have k_87 : ∀ (t_thrown : Int32) (t_bands : Int32) (t_begins_F : Nat → Int32) (t_wide_F : Nat → Int32) (t_high_F : Nat → Int32) (v1 : Int32) (v2 : Int32) (s0 : Int32) (s1 : Int32) (H : Heap) (locs : List Loc) (cells slots : Nat) (ls : Array Slot), va_P (dC, dI) classes [(a_t, .inr (7, [.int t_thrown, .int t_style, .int t_bands, .ref a_t_wide, .ref a_t_high, .ref a_t_begins, .int t_size, .ref o_t_bytes, .ref o_t_came, .ref o_t_width, .ref o_t_brings, .ref o_t_first, .ref o_t_missing, .ref o_t_told, .int t_pieces, .ref o_t_owner, .ref o_t_length, .ref a_t_layers, .int t_over, .ref o_t_low, .ref o_t_known, .int t_writing, .int t_begin, .int t_end, .int t_room, .int t_wrong, .int t_count])), (a_t_begins, .inl (tI, t_begins_N, .inl t_begins_F)), (a_t_layers, .inl (tI, t_layers_N, .inl t_layers_F)), (a_t_wide, .inl (tI, t_wide_N, .inl t_wide_F)), (a_t_high, .inl (tI, t_high_N, .inl t_high_F))] H → va_D A [(a_t, .inr (7, [.int t_thrown, .int t_style, .int t_bands, .ref a_t_wide, .ref a_t_high, .ref a_t_begins, .int t_size, .ref o_t_bytes, .ref o_t_came, .ref o_t_width, .ref o_t_brings, .ref o_t_first, .ref o_t_missing, .ref o_t_told, .int t_pieces, .ref o_t_owner, .ref o_t_length, .ref a_t_layers, .int t_over, .ref o_t_low, .ref o_t_known, .int t_writing, .int t_begin, .int t_end, .int t_room, .int t_wrong, .int t_count])), (a_t_begins, .inl (tI, t_begins_N, .inl t_begins_F)), (a_t_layers, .inl (tI, t_layers_N, .inl t_layers_F)), (a_t_wide, .inl (tI, t_wide_N, .inl t_wide_F)), (a_t_high, .inl (tI, t_high_N, .inl t_high_F))] → va_S A s.heap H locs → lv_has ls 4 [(0, .ref a_t), (1, .int v1), (2, .int v2)] → (cells ≤ 0 ∧ slots ≤ 0) → g_Mo_band_87 F t_begins_N t_wide_N t_high_N t_thrown t_bands t_begins_F t_wide_F t_high_F v1 v2 s0 s1 = some u → W p l e ({ frames := 1, cells := 0, slots := 0, locals := 23 } : Room) s m args below meth c H locs cells slots Q (F0 m 87 ls [.int s0, .int s1, .ref a_t]) := by
    intro t_thrown t_bands t_begins_F t_wide_F t_high_F v1 v2 s0 s1 H locs cells slots ls hP hD hS hl hc hf
    unfold g_Mo_band_87 at hf
    refine lv_iconst (v := 0) hx hb d_Mo_band_87 (by decide) ?_
    obtain ⟨u16, hu, hf⟩ := bd_of hf
    refine jn_i (wc := [(a_t, .inr (7, [.int t_thrown, .int t_style, .int t_bands, .ref a_t_wide, .ref a_t_high, .ref a_t_begins, .int t_size, .ref o_t_bytes, .ref o_t_came, .ref o_t_width, .ref o_t_brings, .ref o_t_first, .ref o_t_missing, .ref o_t_told, .int t_pieces, .ref o_t_owner, .ref o_t_length, .ref a_t_layers, .int t_over, .ref o_t_low, .ref o_t_known, .int t_writing, .int t_begin, .int t_end, .int t_room, .int t_wrong, .int t_count]))]) (wr := [(a_t_begins, .inl (tI, t_begins_N, .inl t_begins_F)), (a_t_layers, .inl (tI, t_layers_N, .inl t_layers_F)), (a_t_wide, .inl (tI, t_wide_N, .inl t_wide_F)), (a_t_high, .inl (tI, t_high_N, .inl t_high_F))]) (va_runV (As := [.int s1, .int s0, .int 0]) (rest := []) ⟨hx, hb, hml, hown, hts⟩ (c_Mo_throwing l dC dI tI tB tL tZ a_t a_t_wide a_t_high a_t_begins o_t_bytes o_t_came o_t_width o_t_brings o_t_first o_t_missing o_t_told o_t_owner o_t_length a_t_layers o_t_low o_t_known H.size t_thrown t_style t_bands t_size t_pieces t_over t_writing t_begin t_end t_room t_wrong t_count s1 s0 0 F u16 hu) (cv_of hts q_238 q_214 q_237 q_239 q_240 hd_Mo_throwing ⟨Nat.le_of_ble_eq_true rfl, Nat.le_of_ble_eq_true rfl⟩) (pr_V (ci := 7) (C := R_Mo) (q0 := 0) hK hN (hP.sub [0] rfl) (hD.sub [0] (by decide) rfl) rfl rfl) rfl rfl hl.1 rfl (lv_room (Nat.le_of_ble_eq_true rfl)) d_Mo_band_88 hc) hP hD hS hA [0] [1, 2, 3, 4] rfl rfl (by decide) (by decide) (fun r9 _ H locs hw hP hD hS => ?_)
    subst r9
    have hP : va_P (dC, dI) classes [(a_t_begins, .inl (tI, t_begins_N, .inl t_begins_F)), (a_t_layers, .inl (tI, t_layers_N, .inl t_layers_F)), (a_t_wide, .inl (tI, t_wide_N, .inl t_wide_F)), (a_t_high, .inl (tI, t_high_N, .inl t_high_F)), (a_t, .inr (7, [.int u16.2, .int t_style, .int t_bands, .ref a_t_wide, .ref a_t_high, .ref a_t_begins, .int t_size, .ref o_t_bytes, .ref o_t_came, .ref o_t_width, .ref o_t_brings, .ref o_t_first, .ref o_t_missing, .ref o_t_told, .int t_pieces, .ref o_t_owner, .ref o_t_length, .ref a_t_layers, .int t_over, .ref o_t_low, .ref o_t_known, .int t_writing, .int t_begin, .int t_end, .int t_room, .int t_wrong, .int t_count]))] H := hP
    have hD : va_D A [(a_t_begins, .inl (tI, t_begins_N, .inl t_begins_F)), (a_t_layers, .inl (tI, t_layers_N, .inl t_layers_F)), (a_t_wide, .inl (tI, t_wide_N, .inl t_wide_F)), (a_t_high, .inl (tI, t_high_N, .inl t_high_F)), (a_t, .inr (7, [.int u16.2, .int t_style, .int t_bands, .ref a_t_wide, .ref a_t_high, .ref a_t_begins, .int t_size, .ref o_t_bytes, .ref o_t_came, .ref o_t_width, .ref o_t_brings, .ref o_t_first, .ref o_t_missing, .ref o_t_told, .int t_pieces, .ref o_t_owner, .ref o_t_length, .ref a_t_layers, .int t_over, .ref o_t_low, .ref o_t_known, .int t_writing, .int t_begin, .int t_end, .int t_room, .int t_wrong, .int t_count]))] := hD
    refine lv_if_eq (tgt := 96) hx hb d_Mo_band_91 (by decide) (fun c0 => ?_) (fun c0 => ?_)
    · have hf := ite_t c0 hf
      refine lv_aload_n hx hb d_Mo_band_96 rfl (lv_at hl 0 rfl) ?_
      refine va_get (D := (dC, dI)) (ci := 7) (v := .ref a_t_wide) (C := R_Mo) (T := F_Mo) (N := 27) hx hb hts i_Mo hown hK hP 4 rfl rfl 3 (by decide) (hts _ q_224) (fun _ h9 => h9) rfl d_Mo_band_97 ?_
      refine lv_aload_n hx hb d_Mo_band_100 rfl (lv_at hl 0 rfl) ?_
      refine va_get (D := (dC, dI)) (ci := 7) (v := .int t_bands) (C := R_Mo) (T := F_Mo) (N := 27) hx hb hts i_Mo hown hK hP 4 rfl rfl 2 (by decide) (hts _ q_242) (fun _ h9 => h9) rfl d_Mo_band_101 ?_
      refine lv_iload_n hx hb d_Mo_band_104 rfl (lv_at hl 1 rfl) ?_
      obtain ⟨hin9, hf⟩ := asm_of hf
      refine va_iast hx hb hK hP hD hS 2 0 rfl rfl hin9 d_Mo_band_105 (fun H locs hP hD hS => ?_)
      have hP : va_P (dC, dI) classes [(a_t_begins, .inl (tI, t_begins_N, .inl t_begins_F)), (a_t_layers, .inl (tI, t_layers_N, .inl t_layers_F)), (a_t_wide, .inl (tI, t_wide_N, .inl (upd t_wide_F t_bands.toNatClampNeg v1))), (a_t_high, .inl (tI, t_high_N, .inl t_high_F)), (a_t, .inr (7, [.int u16.2, .int t_style, .int t_bands, .ref a_t_wide, .ref a_t_high, .ref a_t_begins, .int t_size, .ref o_t_bytes, .ref o_t_came, .ref o_t_width, .ref o_t_brings, .ref o_t_first, .ref o_t_missing, .ref o_t_told, .int t_pieces, .ref o_t_owner, .ref o_t_length, .ref a_t_layers, .int t_over, .ref o_t_low, .ref o_t_known, .int t_writing, .int t_begin, .int t_end, .int t_room, .int t_wrong, .int t_count]))] H := hP
      have hD : va_D A [(a_t_begins, .inl (tI, t_begins_N, .inl t_begins_F)), (a_t_layers, .inl (tI, t_layers_N, .inl t_layers_F)), (a_t_wide, .inl (tI, t_wide_N, .inl (upd t_wide_F t_bands.toNatClampNeg v1))), (a_t_high, .inl (tI, t_high_N, .inl t_high_F)), (a_t, .inr (7, [.int u16.2, .int t_style, .int t_bands, .ref a_t_wide, .ref a_t_high, .ref a_t_begins, .int t_size, .ref o_t_bytes, .ref o_t_came, .ref o_t_width, .ref o_t_brings, .ref o_t_first, .ref o_t_missing, .ref o_t_told, .int t_pieces, .ref o_t_owner, .ref o_t_length, .ref a_t_layers, .int t_over, .ref o_t_low, .ref o_t_known, .int t_writing, .int t_begin, .int t_end, .int t_room, .int t_wrong, .int t_count]))] := hD
      refine lv_aload_n hx hb d_Mo_band_106 rfl (lv_at hl 0 rfl) ?_
      refine va_get (D := (dC, dI)) (ci := 7) (v := .ref a_t_high) (C := R_Mo) (T := F_Mo) (N := 27) hx hb hts i_Mo hown hK hP 4 rfl rfl 4 (by decide) (hts _ q_225) (fun _ h9 => h9) rfl d_Mo_band_107 ?_
      refine lv_aload_n hx hb d_Mo_band_110 rfl (lv_at hl 0 rfl) ?_
      refine va_get (D := (dC, dI)) (ci := 7) (v := .int t_bands) (C := R_Mo) (T := F_Mo) (N := 27) hx hb hts i_Mo hown hK hP 4 rfl rfl 2 (by decide) (hts _ q_242) (fun _ h9 => h9) rfl d_Mo_band_111 ?_
      refine lv_iload_n hx hb d_Mo_band_114 rfl (lv_at hl 2 rfl) ?_
      obtain ⟨hin9, hf⟩ := asm_of hf
      refine va_iast hx hb hK hP hD hS 3 0 rfl rfl hin9 d_Mo_band_115 (fun H locs hP hD hS => ?_)
      have hP : va_P (dC, dI) classes [(a_t_begins, .inl (tI, t_begins_N, .inl t_begins_F)), (a_t_layers, .inl (tI, t_layers_N, .inl t_layers_F)), (a_t_wide, .inl (tI, t_wide_N, .inl (upd t_wide_F t_bands.toNatClampNeg v1))), (a_t_high, .inl (tI, t_high_N, .inl (upd t_high_F t_bands.toNatClampNeg v2))), (a_t, .inr (7, [.int u16.2, .int t_style, .int t_bands, .ref a_t_wide, .ref a_t_high, .ref a_t_begins, .int t_size, .ref o_t_bytes, .ref o_t_came, .ref o_t_width, .ref o_t_brings, .ref o_t_first, .ref o_t_missing, .ref o_t_told, .int t_pieces, .ref o_t_owner, .ref o_t_length, .ref a_t_layers, .int t_over, .ref o_t_low, .ref o_t_known, .int t_writing, .int t_begin, .int t_end, .int t_room, .int t_wrong, .int t_count]))] H := hP
      have hD : va_D A [(a_t_begins, .inl (tI, t_begins_N, .inl t_begins_F)), (a_t_layers, .inl (tI, t_layers_N, .inl t_layers_F)), (a_t_wide, .inl (tI, t_wide_N, .inl (upd t_wide_F t_bands.toNatClampNeg v1))), (a_t_high, .inl (tI, t_high_N, .inl (upd t_high_F t_bands.toNatClampNeg v2))), (a_t, .inr (7, [.int u16.2, .int t_style, .int t_bands, .ref a_t_wide, .ref a_t_high, .ref a_t_begins, .int t_size, .ref o_t_bytes, .ref o_t_came, .ref o_t_width, .ref o_t_brings, .ref o_t_first, .ref o_t_missing, .ref o_t_told, .int t_pieces, .ref o_t_owner, .ref o_t_length, .ref a_t_layers, .int t_over, .ref o_t_low, .ref o_t_known, .int t_writing, .int t_begin, .int t_end, .int t_room, .int t_wrong, .int t_count]))] := hD
      refine lv_aload_n hx hb d_Mo_band_116 rfl (lv_at hl 0 rfl) ?_
      refine va_get (D := (dC, dI)) (ci := 7) (v := .ref a_t_begins) (C := R_Mo) (T := F_Mo) (N := 27) hx hb hts i_Mo hown hK hP 4 rfl rfl 5 (by decide) (hts _ q_226) (fun _ h9 => h9) rfl d_Mo_band_117 ?_
      refine lv_aload_n hx hb d_Mo_band_120 rfl (lv_at hl 0 rfl) ?_
      refine va_get (D := (dC, dI)) (ci := 7) (v := .int t_bands) (C := R_Mo) (T := F_Mo) (N := 27) hx hb hts i_Mo hown hK hP 4 rfl rfl 2 (by decide) (hts _ q_242) (fun _ h9 => h9) rfl d_Mo_band_121 ?_
      refine lv_iconst (v := 1) hx hb d_Mo_band_124 (by decide) ?_
      refine lv_iadd hx hb d_Mo_band_125 ?_
      refine lv_topi (fun x17 ex17 => ?_)
      have hf := letb_of hf ex17
      refine lv_aload_n hx hb d_Mo_band_126 rfl (lv_at hl 0 rfl) ?_
      refine va_get (D := (dC, dI)) (ci := 7) (v := .ref a_t_begins) (C := R_Mo) (T := F_Mo) (N := 27) hx hb hts i_Mo hown hK hP 4 rfl rfl 5 (by decide) (hts _ q_226) (fun _ h9 => h9) rfl d_Mo_band_127 ?_
      refine lv_aload_n hx hb d_Mo_band_130 rfl (lv_at hl 0 rfl) ?_
      refine va_get (D := (dC, dI)) (ci := 7) (v := .int t_bands) (C := R_Mo) (T := F_Mo) (N := 27) hx hb hts i_Mo hown hK hP 4 rfl rfl 2 (by decide) (hts _ q_242) (fun _ h9 => h9) rfl d_Mo_band_131 ?_
      obtain ⟨hin9, hf⟩ := asm_of hf
      refine va_iald hx hb hK hP 0 0 rfl rfl hin9 d_Mo_band_134 ?_
      refine lv_topi (fun x18 ex18 => ?_)
      have hf := letb_of hf ex18
      refine lv_iload_n hx hb d_Mo_band_135 rfl (lv_at hl 1 rfl) ?_
      refine lv_iload_n hx hb d_Mo_band_136 rfl (lv_at hl 2 rfl) ?_
      refine lv_imul hx hb d_Mo_band_137 ?_
      refine lv_topi (fun x19 ex19 => ?_)
      have hf := letb_of hf ex19
      refine lv_iadd hx hb d_Mo_band_138 ?_
      refine lv_topi (fun x20 ex20 => ?_)
      have hf := letb_of hf ex20
      obtain ⟨hin9, hf⟩ := asm_of hf
      refine va_iast hx hb hK hP hD hS 0 0 rfl rfl hin9 d_Mo_band_139 (fun H locs hP hD hS => ?_)
      have hP : va_P (dC, dI) classes [(a_t_begins, .inl (tI, t_begins_N, .inl (upd t_begins_F x17.toNatClampNeg x20))), (a_t_layers, .inl (tI, t_layers_N, .inl t_layers_F)), (a_t_wide, .inl (tI, t_wide_N, .inl (upd t_wide_F t_bands.toNatClampNeg v1))), (a_t_high, .inl (tI, t_high_N, .inl (upd t_high_F t_bands.toNatClampNeg v2))), (a_t, .inr (7, [.int u16.2, .int t_style, .int t_bands, .ref a_t_wide, .ref a_t_high, .ref a_t_begins, .int t_size, .ref o_t_bytes, .ref o_t_came, .ref o_t_width, .ref o_t_brings, .ref o_t_first, .ref o_t_missing, .ref o_t_told, .int t_pieces, .ref o_t_owner, .ref o_t_length, .ref a_t_layers, .int t_over, .ref o_t_low, .ref o_t_known, .int t_writing, .int t_begin, .int t_end, .int t_room, .int t_wrong, .int t_count]))] H := hP
      have hD : va_D A [(a_t_begins, .inl (tI, t_begins_N, .inl (upd t_begins_F x17.toNatClampNeg x20))), (a_t_layers, .inl (tI, t_layers_N, .inl t_layers_F)), (a_t_wide, .inl (tI, t_wide_N, .inl (upd t_wide_F t_bands.toNatClampNeg v1))), (a_t_high, .inl (tI, t_high_N, .inl (upd t_high_F t_bands.toNatClampNeg v2))), (a_t, .inr (7, [.int u16.2, .int t_style, .int t_bands, .ref a_t_wide, .ref a_t_high, .ref a_t_begins, .int t_size, .ref o_t_bytes, .ref o_t_came, .ref o_t_width, .ref o_t_brings, .ref o_t_first, .ref o_t_missing, .ref o_t_told, .int t_pieces, .ref o_t_owner, .ref o_t_length, .ref a_t_layers, .int t_over, .ref o_t_low, .ref o_t_known, .int t_writing, .int t_begin, .int t_end, .int t_room, .int t_wrong, .int t_count]))] := hD
      refine lv_aload_n hx hb d_Mo_band_140 rfl (lv_at hl 0 rfl) ?_
      refine lv_dup hx hb d_Mo_band_141 rfl ?_
      refine va_get (D := (dC, dI)) (ci := 7) (v := .int t_bands) (C := R_Mo) (T := F_Mo) (N := 27) hx hb hts i_Mo hown hK hP 4 rfl rfl 2 (by decide) (hts _ q_242) (fun _ h9 => h9) rfl d_Mo_band_142 ?_
      refine lv_iconst (v := 1) hx hb d_Mo_band_145 (by decide) ?_
      refine lv_iadd hx hb d_Mo_band_146 ?_
      refine lv_topi (fun x21 ex21 => ?_)
      have hf := letb_of hf ex21
      refine va_put (D := (dC, dI)) (ci := 7) (v := .int x21) (ty := .int) (C := R_Mo) (T := F_Mo) (N := 27) hx hb hts i_Mo t_Mo t_Mo_ok n_Mo hown hK hP hD hS 4 rfl rfl 2 (by decide) (hts _ q_242) (fun _ h9 => h9) rfl (t_Mo_ok 2 (by decide)) rfl rfl (Nat.le_of_ble_eq_true rfl) d_Mo_band_147 (fun H locs hP hD hS => ?_)
      have hP : va_P (dC, dI) classes [(a_t_begins, .inl (tI, t_begins_N, .inl (upd t_begins_F x17.toNatClampNeg x20))), (a_t_layers, .inl (tI, t_layers_N, .inl t_layers_F)), (a_t_wide, .inl (tI, t_wide_N, .inl (upd t_wide_F t_bands.toNatClampNeg v1))), (a_t_high, .inl (tI, t_high_N, .inl (upd t_high_F t_bands.toNatClampNeg v2))), (a_t, .inr (7, [.int u16.2, .int t_style, .int x21, .ref a_t_wide, .ref a_t_high, .ref a_t_begins, .int t_size, .ref o_t_bytes, .ref o_t_came, .ref o_t_width, .ref o_t_brings, .ref o_t_first, .ref o_t_missing, .ref o_t_told, .int t_pieces, .ref o_t_owner, .ref o_t_length, .ref a_t_layers, .int t_over, .ref o_t_low, .ref o_t_known, .int t_writing, .int t_begin, .int t_end, .int t_room, .int t_wrong, .int t_count]))] H := hP
      have hD : va_D A [(a_t_begins, .inl (tI, t_begins_N, .inl (upd t_begins_F x17.toNatClampNeg x20))), (a_t_layers, .inl (tI, t_layers_N, .inl t_layers_F)), (a_t_wide, .inl (tI, t_wide_N, .inl (upd t_wide_F t_bands.toNatClampNeg v1))), (a_t_high, .inl (tI, t_high_N, .inl (upd t_high_F t_bands.toNatClampNeg v2))), (a_t, .inr (7, [.int u16.2, .int t_style, .int x21, .ref a_t_wide, .ref a_t_high, .ref a_t_begins, .int t_size, .ref o_t_bytes, .ref o_t_came, .ref o_t_width, .ref o_t_brings, .ref o_t_first, .ref o_t_missing, .ref o_t_told, .int t_pieces, .ref o_t_owner, .ref o_t_length, .ref a_t_layers, .int t_over, .ref o_t_low, .ref o_t_known, .int t_writing, .int t_begin, .int t_end, .int t_room, .int t_wrong, .int t_count]))] := hD
      refine lv_aload_n hx hb d_Mo_band_150 rfl (lv_at hl 0 rfl) ?_
      refine va_get (D := (dC, dI)) (ci := 7) (v := .int x21) (C := R_Mo) (T := F_Mo) (N := 27) hx hb hts i_Mo hown hK hP 4 rfl rfl 2 (by decide) (hts _ q_242) (fun _ h9 => h9) rfl d_Mo_band_151 ?_
      refine lv_iconst (v := 1) hx hb d_Mo_band_154 (by decide) ?_
      refine lv_isub hx hb d_Mo_band_155 ?_
      refine lv_topi (fun x22 ex22 => ?_)
      have hf := letb_of hf ex22
      have hf := Option.some.inj hf
      subst u
      exact ret _ _ _ _ _ _ () d_Mo_band_156 rfl (hP.sub [4, 0, 1, 2, 3] rfl) (hD.sub [4, 0, 1, 2, 3] (by decide) rfl) hS hc.1 hc.2
    · have hf := ite_f c0 hf
      refine lv_iconst (v := 0) hx hb d_Mo_band_94 (by decide) ?_
      have hf := Option.some.inj hf
      subst u
      exact ret _ _ _ _ _ _ () d_Mo_band_95 rfl (hP.sub [4, 0, 1, 2, 3] rfl) (hD.sub [4, 0, 1, 2, 3] (by decide) rfl) hS hc.1 hc.2
  have k_86 : ∀ (t_thrown : Int32) (t_bands : Int32) (t_begins_F : Nat → Int32) (t_wide_F : Nat → Int32) (t_high_F : Nat → Int32) (v1 : Int32) (v2 : Int32) (s0 : Int32) (H : Heap) (locs : List Loc) (cells slots : Nat) (ls : Array Slot), va_P (dC, dI) classes [(a_t, .inr (7, [.int t_thrown, .int t_style, .int t_bands, .ref a_t_wide, .ref a_t_high, .ref a_t_begins, .int t_size, .ref o_t_bytes, .ref o_t_came, .ref o_t_width, .ref o_t_brings, .ref o_t_first, .ref o_t_missing, .ref o_t_told, .int t_pieces, .ref o_t_owner, .ref o_t_length, .ref a_t_layers, .int t_over, .ref o_t_low, .ref o_t_known, .int t_writing, .int t_begin, .int t_end, .int t_room, .int t_wrong, .int t_count])), (a_t_begins, .inl (tI, t_begins_N, .inl t_begins_F)), (a_t_layers, .inl (tI, t_layers_N, .inl t_layers_F)), (a_t_wide, .inl (tI, t_wide_N, .inl t_wide_F)), (a_t_high, .inl (tI, t_high_N, .inl t_high_F))] H → va_D A [(a_t, .inr (7, [.int t_thrown, .int t_style, .int t_bands, .ref a_t_wide, .ref a_t_high, .ref a_t_begins, .int t_size, .ref o_t_bytes, .ref o_t_came, .ref o_t_width, .ref o_t_brings, .ref o_t_first, .ref o_t_missing, .ref o_t_told, .int t_pieces, .ref o_t_owner, .ref o_t_length, .ref a_t_layers, .int t_over, .ref o_t_low, .ref o_t_known, .int t_writing, .int t_begin, .int t_end, .int t_room, .int t_wrong, .int t_count])), (a_t_begins, .inl (tI, t_begins_N, .inl t_begins_F)), (a_t_layers, .inl (tI, t_layers_N, .inl t_layers_F)), (a_t_wide, .inl (tI, t_wide_N, .inl t_wide_F)), (a_t_high, .inl (tI, t_high_N, .inl t_high_F))] → va_S A s.heap H locs → lv_has ls 4 [(0, .ref a_t), (1, .int v1), (2, .int v2)] → (cells ≤ 0 ∧ slots ≤ 0) → g_Mo_band_86 F t_begins_N t_wide_N t_high_N t_thrown t_bands t_begins_F t_wide_F t_high_F v1 v2 s0 = some u → W p l e ({ frames := 1, cells := 0, slots := 0, locals := 23 } : Room) s m args below meth c H locs cells slots Q (F0 m 86 ls [.int s0, .ref a_t]) := by
    intro t_thrown t_bands t_begins_F t_wide_F t_high_F v1 v2 s0 H locs cells slots ls hP hD hS hl hc hf
    unfold g_Mo_band_86 at hf
    refine lv_iconst (v := 0) hx hb d_Mo_band_86 (by decide) ?_
    exact k_87 t_thrown t_bands t_begins_F t_wide_F t_high_F v1 v2 0 s0 _ _ _ _ ls hP hD hS hl hc hf
  have k_82 : ∀ (t_thrown : Int32) (t_bands : Int32) (t_begins_F : Nat → Int32) (t_wide_F : Nat → Int32) (t_high_F : Nat → Int32) (v1 : Int32) (v2 : Int32) (s0 : Int32) (H : Heap) (locs : List Loc) (cells slots : Nat) (ls : Array Slot), va_P (dC, dI) classes [(a_t, .inr (7, [.int t_thrown, .int t_style, .int t_bands, .ref a_t_wide, .ref a_t_high, .ref a_t_begins, .int t_size, .ref o_t_bytes, .ref o_t_came, .ref o_t_width, .ref o_t_brings, .ref o_t_first, .ref o_t_missing, .ref o_t_told, .int t_pieces, .ref o_t_owner, .ref o_t_length, .ref a_t_layers, .int t_over, .ref o_t_low, .ref o_t_known, .int t_writing, .int t_begin, .int t_end, .int t_room, .int t_wrong, .int t_count])), (a_t_begins, .inl (tI, t_begins_N, .inl t_begins_F)), (a_t_layers, .inl (tI, t_layers_N, .inl t_layers_F)), (a_t_wide, .inl (tI, t_wide_N, .inl t_wide_F)), (a_t_high, .inl (tI, t_high_N, .inl t_high_F))] H → va_D A [(a_t, .inr (7, [.int t_thrown, .int t_style, .int t_bands, .ref a_t_wide, .ref a_t_high, .ref a_t_begins, .int t_size, .ref o_t_bytes, .ref o_t_came, .ref o_t_width, .ref o_t_brings, .ref o_t_first, .ref o_t_missing, .ref o_t_told, .int t_pieces, .ref o_t_owner, .ref o_t_length, .ref a_t_layers, .int t_over, .ref o_t_low, .ref o_t_known, .int t_writing, .int t_begin, .int t_end, .int t_room, .int t_wrong, .int t_count])), (a_t_begins, .inl (tI, t_begins_N, .inl t_begins_F)), (a_t_layers, .inl (tI, t_layers_N, .inl t_layers_F)), (a_t_wide, .inl (tI, t_wide_N, .inl t_wide_F)), (a_t_high, .inl (tI, t_high_N, .inl t_high_F))] → va_S A s.heap H locs → lv_has ls 4 [(0, .ref a_t), (1, .int v1), (2, .int v2)] → (cells ≤ 0 ∧ slots ≤ 0) → g_Mo_band_82 F t_begins_N t_wide_N t_high_N t_thrown t_bands t_begins_F t_wide_F t_high_F v1 v2 s0 = some u → W p l e ({ frames := 1, cells := 0, slots := 0, locals := 23 } : Room) s m args below meth c H locs cells slots Q (F0 m 82 ls [.int s0, .ref a_t]) := by
    intro t_thrown t_bands t_begins_F t_wide_F t_high_F v1 v2 s0 H locs cells slots ls hP hD hS hl hc hf
    unfold g_Mo_band_82 at hf
    refine lv_iconst (v := 1) hx hb d_Mo_band_82 (by decide) ?_
    refine lv_goto (tgt := 87) hx hb d_Mo_band_83 (by decide) ?_
    exact k_87 t_thrown t_bands t_begins_F t_wide_F t_high_F v1 v2 1 s0 _ _ _ _ ls hP hD hS hl hc hf
  have k_44 : ∀ (t_thrown : Int32) (t_bands : Int32) (t_begins_F : Nat → Int32) (t_wide_F : Nat → Int32) (t_high_F : Nat → Int32) (v1 : Int32) (v2 : Int32) (s0 : Int32) (H : Heap) (locs : List Loc) (cells slots : Nat) (ls : Array Slot), va_P (dC, dI) classes [(a_t, .inr (7, [.int t_thrown, .int t_style, .int t_bands, .ref a_t_wide, .ref a_t_high, .ref a_t_begins, .int t_size, .ref o_t_bytes, .ref o_t_came, .ref o_t_width, .ref o_t_brings, .ref o_t_first, .ref o_t_missing, .ref o_t_told, .int t_pieces, .ref o_t_owner, .ref o_t_length, .ref a_t_layers, .int t_over, .ref o_t_low, .ref o_t_known, .int t_writing, .int t_begin, .int t_end, .int t_room, .int t_wrong, .int t_count])), (a_t_begins, .inl (tI, t_begins_N, .inl t_begins_F)), (a_t_layers, .inl (tI, t_layers_N, .inl t_layers_F)), (a_t_wide, .inl (tI, t_wide_N, .inl t_wide_F)), (a_t_high, .inl (tI, t_high_N, .inl t_high_F))] H → va_D A [(a_t, .inr (7, [.int t_thrown, .int t_style, .int t_bands, .ref a_t_wide, .ref a_t_high, .ref a_t_begins, .int t_size, .ref o_t_bytes, .ref o_t_came, .ref o_t_width, .ref o_t_brings, .ref o_t_first, .ref o_t_missing, .ref o_t_told, .int t_pieces, .ref o_t_owner, .ref o_t_length, .ref a_t_layers, .int t_over, .ref o_t_low, .ref o_t_known, .int t_writing, .int t_begin, .int t_end, .int t_room, .int t_wrong, .int t_count])), (a_t_begins, .inl (tI, t_begins_N, .inl t_begins_F)), (a_t_layers, .inl (tI, t_layers_N, .inl t_layers_F)), (a_t_wide, .inl (tI, t_wide_N, .inl t_wide_F)), (a_t_high, .inl (tI, t_high_N, .inl t_high_F))] → va_S A s.heap H locs → lv_has ls 4 [(0, .ref a_t), (1, .int v1), (2, .int v2)] → (cells ≤ 0 ∧ slots ≤ 0) → g_Mo_band_44 F t_over t_begins_N t_layers_N t_layers_F t_wide_N t_high_N t_thrown t_bands t_begins_F t_wide_F t_high_F v1 v2 s0 = some u → W p l e ({ frames := 1, cells := 0, slots := 0, locals := 23 } : Room) s m args below meth c H locs cells slots Q (F0 m 44 ls [.int s0]) := by
    intro t_thrown t_bands t_begins_F t_wide_F t_high_F v1 v2 s0 H locs cells slots ls hP hD hS hl hc hf
    unfold g_Mo_band_44 at hf
    refine lv_istore_n (lv' := [(3, .int s0), (0, .ref a_t), (1, .int v1), (2, .int v2)]) hx hb d_Mo_band_44 rfl hl (by decide) rfl (fun ls hl => ?_)
    refine lv_aload_n hx hb d_Mo_band_45 rfl (lv_at hl 1 rfl) ?_
    refine lv_iload_n hx hb d_Mo_band_46 rfl (lv_at hl 0 rfl) ?_
    refine lv_iload_n hx hb d_Mo_band_47 rfl (lv_at hl 0 rfl) ?_
    refine lv_if_ne (tgt := 86) hx hb d_Mo_band_48 (by decide) (fun c0 => ?_) (fun c0 => ?_)
    · have hf := ite_f c0 hf
      exact k_86 t_thrown t_bands t_begins_F t_wide_F t_high_F v1 v2 s0 _ _ _ _ ls hP hD hS (lv_sub hl [1, 2, 3] rfl) hc hf
    · have hf := ite_t c0 hf
      refine lv_aload_n hx hb d_Mo_band_51 rfl (lv_at hl 1 rfl) ?_
      refine va_get (D := (dC, dI)) (ci := 7) (v := .int t_bands) (C := R_Mo) (T := F_Mo) (N := 27) hx hb hts i_Mo hown hK hP 0 rfl rfl 2 (by decide) (hts _ q_242) (fun _ h9 => h9) rfl d_Mo_band_52 ?_
      refine lv_iconst (v := 3) hx hb d_Mo_band_55 (by decide) ?_
      refine lv_icmp_eq (tgt := 82) hx hb d_Mo_band_56 (by decide) (fun c0 => ?_) (fun c0 => ?_)
      · have hf := ite_t c0 hf
        exact k_82 t_thrown t_bands t_begins_F t_wide_F t_high_F v1 v2 s0 _ _ _ _ ls hP hD hS (lv_sub hl [1, 2, 3] rfl) hc hf
      · have hf := ite_f c0 hf
        refine lv_aload_n hx hb d_Mo_band_59 rfl (lv_at hl 1 rfl) ?_
        refine va_get (D := (dC, dI)) (ci := 7) (v := .ref a_t_layers) (C := R_Mo) (T := F_Mo) (N := 27) hx hb hts i_Mo hown hK hP 0 rfl rfl 17 (by decide) (hts _ q_229) (fun _ h9 => h9) rfl d_Mo_band_60 ?_
        refine lv_iconst (v := 0) hx hb d_Mo_band_63 (by decide) ?_
        obtain ⟨hin9, hf⟩ := asm_of hf
        refine va_iald hx hb hK hP 2 0 rfl rfl hin9 d_Mo_band_64 ?_
        refine lv_topi (fun x23 ex23 => ?_)
        have hf := letb_of hf ex23
        refine lv_aload_n hx hb d_Mo_band_65 rfl (lv_at hl 1 rfl) ?_
        refine va_get (D := (dC, dI)) (ci := 7) (v := .ref a_t_layers) (C := R_Mo) (T := F_Mo) (N := 27) hx hb hts i_Mo hown hK hP 0 rfl rfl 17 (by decide) (hts _ q_229) (fun _ h9 => h9) rfl d_Mo_band_66 ?_
        refine lv_iconst (v := 1) hx hb d_Mo_band_69 (by decide) ?_
        obtain ⟨hin9, hf⟩ := asm_of hf
        refine va_iald hx hb hK hP 2 0 rfl rfl hin9 d_Mo_band_70 ?_
        refine lv_topi (fun x24 ex24 => ?_)
        have hf := letb_of hf ex24
        refine lv_iadd hx hb d_Mo_band_71 ?_
        refine lv_topi (fun x25 ex25 => ?_)
        have hf := letb_of hf ex25
        refine lv_if_gt (tgt := 82) hx hb d_Mo_band_72 (by decide) (fun c0 => ?_) (fun c0 => ?_)
        · have hf := ite_t c0 hf
          exact k_82 t_thrown t_bands t_begins_F t_wide_F t_high_F v1 v2 s0 _ _ _ _ ls hP hD hS (lv_sub hl [1, 2, 3] rfl) hc hf
        · have hf := ite_f c0 hf
          refine lv_aload_n hx hb d_Mo_band_75 rfl (lv_at hl 1 rfl) ?_
          refine va_get (D := (dC, dI)) (ci := 7) (v := .int t_over) (C := R_Mo) (T := F_Mo) (N := 27) hx hb hts i_Mo hown hK hP 0 rfl rfl 18 (by decide) (hts _ q_243) (fun _ h9 => h9) rfl d_Mo_band_76 ?_
          refine lv_if_eq (tgt := 86) hx hb d_Mo_band_79 (by decide) (fun c0 => ?_) (fun c0 => ?_)
          · have hf := ite_t c0 hf
            exact k_86 t_thrown t_bands t_begins_F t_wide_F t_high_F v1 v2 s0 _ _ _ _ ls hP hD hS (lv_sub hl [1, 2, 3] rfl) hc hf
          · have hf := ite_f c0 hf
            exact k_82 t_thrown t_bands t_begins_F t_wide_F t_high_F v1 v2 s0 _ _ _ _ ls hP hD hS (lv_sub hl [1, 2, 3] rfl) hc hf
  have k_39 : ∀ (t_thrown : Int32) (t_bands : Int32) (t_begins_F : Nat → Int32) (t_wide_F : Nat → Int32) (t_high_F : Nat → Int32) (v1 : Int32) (v2 : Int32) (H : Heap) (locs : List Loc) (cells slots : Nat) (ls : Array Slot), va_P (dC, dI) classes [(a_t, .inr (7, [.int t_thrown, .int t_style, .int t_bands, .ref a_t_wide, .ref a_t_high, .ref a_t_begins, .int t_size, .ref o_t_bytes, .ref o_t_came, .ref o_t_width, .ref o_t_brings, .ref o_t_first, .ref o_t_missing, .ref o_t_told, .int t_pieces, .ref o_t_owner, .ref o_t_length, .ref a_t_layers, .int t_over, .ref o_t_low, .ref o_t_known, .int t_writing, .int t_begin, .int t_end, .int t_room, .int t_wrong, .int t_count])), (a_t_begins, .inl (tI, t_begins_N, .inl t_begins_F)), (a_t_layers, .inl (tI, t_layers_N, .inl t_layers_F)), (a_t_wide, .inl (tI, t_wide_N, .inl t_wide_F)), (a_t_high, .inl (tI, t_high_N, .inl t_high_F))] H → va_D A [(a_t, .inr (7, [.int t_thrown, .int t_style, .int t_bands, .ref a_t_wide, .ref a_t_high, .ref a_t_begins, .int t_size, .ref o_t_bytes, .ref o_t_came, .ref o_t_width, .ref o_t_brings, .ref o_t_first, .ref o_t_missing, .ref o_t_told, .int t_pieces, .ref o_t_owner, .ref o_t_length, .ref a_t_layers, .int t_over, .ref o_t_low, .ref o_t_known, .int t_writing, .int t_begin, .int t_end, .int t_room, .int t_wrong, .int t_count])), (a_t_begins, .inl (tI, t_begins_N, .inl t_begins_F)), (a_t_layers, .inl (tI, t_layers_N, .inl t_layers_F)), (a_t_wide, .inl (tI, t_wide_N, .inl t_wide_F)), (a_t_high, .inl (tI, t_high_N, .inl t_high_F))] → va_S A s.heap H locs → lv_has ls 4 [(0, .ref a_t), (1, .int v1), (2, .int v2)] → (cells ≤ 0 ∧ slots ≤ 0) → g_Mo_band_39 F t_over t_begins_N t_layers_N t_layers_F t_wide_N t_high_N t_thrown t_bands t_begins_F t_wide_F t_high_F v1 v2 = some u → W p l e ({ frames := 1, cells := 0, slots := 0, locals := 23 } : Room) s m args below meth c H locs cells slots Q (F0 m 39 ls []) := by
    intro t_thrown t_bands t_begins_F t_wide_F t_high_F v1 v2 H locs cells slots ls hP hD hS hl hc hf
    unfold g_Mo_band_39 at hf
    refine lv_iconst (v := 1) hx hb d_Mo_band_39 (by decide) ?_
    refine lv_goto (tgt := 44) hx hb d_Mo_band_40 (by decide) ?_
    exact k_44 t_thrown t_bands t_begins_F t_wide_F t_high_F v1 v2 1 _ _ _ _ ls hP hD hS hl hc hf
  have hc : 0 ≤ 0 ∧ 0 ≤ 0 := ⟨Nat.le_refl 0, Nat.le_refl 0⟩
  unfold f_Mo_band at hf
  refine lv_iload_n hx hb d_Mo_band_0 rfl (lv_at hl 1 rfl) ?_
  refine lv_iconst (v := 0) hx hb d_Mo_band_1 (by decide) ?_
  refine lv_bipush (v := 64) hx hb d_Mo_band_2 (by decide) ?_
  obtain ⟨u26, hu, hf⟩ := bd_of hf
  refine jn_i (wc := []) (wr := [(a_t, .inr (7, [.int t_thrown, .int t_style, .int t_bands, .ref a_t_wide, .ref a_t_high, .ref a_t_begins, .int t_size, .ref o_t_bytes, .ref o_t_came, .ref o_t_width, .ref o_t_brings, .ref o_t_first, .ref o_t_missing, .ref o_t_told, .int t_pieces, .ref o_t_owner, .ref o_t_length, .ref a_t_layers, .int t_over, .ref o_t_low, .ref o_t_known, .int t_writing, .int t_begin, .int t_end, .int t_room, .int t_wrong, .int t_count])), (a_t_begins, .inl (tI, t_begins_N, .inl t_begins_F)), (a_t_layers, .inl (tI, t_layers_N, .inl t_layers_F)), (a_t_wide, .inl (tI, t_wide_N, .inl t_wide_F)), (a_t_high, .inl (tI, t_high_N, .inl t_high_F))]) (va_runS (As := [.int p0, .int 0, .int 64]) (rest := []) ⟨hx, hb, hml, hown, hts⟩ (c_Mo_out l dC dI tI tB tL tZ H.size p0 0 64 F u26 hu) (cs_of hts q_245 q_214 q_244 q_246 hd_Mo_out ⟨Nat.le_of_ble_eq_true rfl, Nat.le_of_ble_eq_true rfl⟩) (pr_S hK hN (hP.sub [] rfl) (hD.sub [] (by decide) rfl)) rfl rfl hl.1 rfl (lv_room (Nat.le_of_ble_eq_true rfl)) d_Mo_band_4 hc) hP hD hS hA [] [0, 1, 2, 3, 4] rfl rfl (by decide) (by decide) (fun r9 _ H locs hw hP hD hS => ?_)
  subst r9
  have hP : va_P (dC, dI) classes [(a_t, .inr (7, [.int t_thrown, .int t_style, .int t_bands, .ref a_t_wide, .ref a_t_high, .ref a_t_begins, .int t_size, .ref o_t_bytes, .ref o_t_came, .ref o_t_width, .ref o_t_brings, .ref o_t_first, .ref o_t_missing, .ref o_t_told, .int t_pieces, .ref o_t_owner, .ref o_t_length, .ref a_t_layers, .int t_over, .ref o_t_low, .ref o_t_known, .int t_writing, .int t_begin, .int t_end, .int t_room, .int t_wrong, .int t_count])), (a_t_begins, .inl (tI, t_begins_N, .inl t_begins_F)), (a_t_layers, .inl (tI, t_layers_N, .inl t_layers_F)), (a_t_wide, .inl (tI, t_wide_N, .inl t_wide_F)), (a_t_high, .inl (tI, t_high_N, .inl t_high_F))] H := hP
  have hD : va_D A [(a_t, .inr (7, [.int t_thrown, .int t_style, .int t_bands, .ref a_t_wide, .ref a_t_high, .ref a_t_begins, .int t_size, .ref o_t_bytes, .ref o_t_came, .ref o_t_width, .ref o_t_brings, .ref o_t_first, .ref o_t_missing, .ref o_t_told, .int t_pieces, .ref o_t_owner, .ref o_t_length, .ref a_t_layers, .int t_over, .ref o_t_low, .ref o_t_known, .int t_writing, .int t_begin, .int t_end, .int t_room, .int t_wrong, .int t_count])), (a_t_begins, .inl (tI, t_begins_N, .inl t_begins_F)), (a_t_layers, .inl (tI, t_layers_N, .inl t_layers_F)), (a_t_wide, .inl (tI, t_wide_N, .inl t_wide_F)), (a_t_high, .inl (tI, t_high_N, .inl t_high_F))] := hD
  refine lv_if_ne (tgt := 39) hx hb d_Mo_band_7 (by decide) (fun c0 => ?_) (fun c0 => ?_)
  · have hf := ite_f c0 hf
    exact k_39 t_thrown t_bands t_begins_F t_wide_F t_high_F p0 p1 _ _ _ _ ls hP hD hS hl hc hf
  · have hf := ite_t c0 hf
    refine lv_iload_n hx hb d_Mo_band_10 rfl (lv_at hl 2 rfl) ?_
    refine lv_iconst (v := 0) hx hb d_Mo_band_11 (by decide) ?_
    refine lv_bipush (v := 64) hx hb d_Mo_band_12 (by decide) ?_
    obtain ⟨u27, hu, hf⟩ := bd_of hf
    refine jn_i (wc := []) (wr := [(a_t, .inr (7, [.int t_thrown, .int t_style, .int t_bands, .ref a_t_wide, .ref a_t_high, .ref a_t_begins, .int t_size, .ref o_t_bytes, .ref o_t_came, .ref o_t_width, .ref o_t_brings, .ref o_t_first, .ref o_t_missing, .ref o_t_told, .int t_pieces, .ref o_t_owner, .ref o_t_length, .ref a_t_layers, .int t_over, .ref o_t_low, .ref o_t_known, .int t_writing, .int t_begin, .int t_end, .int t_room, .int t_wrong, .int t_count])), (a_t_begins, .inl (tI, t_begins_N, .inl t_begins_F)), (a_t_layers, .inl (tI, t_layers_N, .inl t_layers_F)), (a_t_wide, .inl (tI, t_wide_N, .inl t_wide_F)), (a_t_high, .inl (tI, t_high_N, .inl t_high_F))]) (va_runS (As := [.int p1, .int 0, .int 64]) (rest := []) ⟨hx, hb, hml, hown, hts⟩ (c_Mo_out l dC dI tI tB tL tZ H.size p1 0 64 F u27 hu) (cs_of hts q_245 q_214 q_244 q_246 hd_Mo_out ⟨Nat.le_of_ble_eq_true rfl, Nat.le_of_ble_eq_true rfl⟩) (pr_S hK hN (hP.sub [] rfl) (hD.sub [] (by decide) rfl)) rfl rfl hl.1 rfl (lv_room (Nat.le_of_ble_eq_true rfl)) d_Mo_band_14 hc) hP hD hS hA [] [0, 1, 2, 3, 4] rfl rfl (by decide) (by decide) (fun r9 _ H locs hw hP hD hS => ?_)
    subst r9
    have hP : va_P (dC, dI) classes [(a_t, .inr (7, [.int t_thrown, .int t_style, .int t_bands, .ref a_t_wide, .ref a_t_high, .ref a_t_begins, .int t_size, .ref o_t_bytes, .ref o_t_came, .ref o_t_width, .ref o_t_brings, .ref o_t_first, .ref o_t_missing, .ref o_t_told, .int t_pieces, .ref o_t_owner, .ref o_t_length, .ref a_t_layers, .int t_over, .ref o_t_low, .ref o_t_known, .int t_writing, .int t_begin, .int t_end, .int t_room, .int t_wrong, .int t_count])), (a_t_begins, .inl (tI, t_begins_N, .inl t_begins_F)), (a_t_layers, .inl (tI, t_layers_N, .inl t_layers_F)), (a_t_wide, .inl (tI, t_wide_N, .inl t_wide_F)), (a_t_high, .inl (tI, t_high_N, .inl t_high_F))] H := hP
    have hD : va_D A [(a_t, .inr (7, [.int t_thrown, .int t_style, .int t_bands, .ref a_t_wide, .ref a_t_high, .ref a_t_begins, .int t_size, .ref o_t_bytes, .ref o_t_came, .ref o_t_width, .ref o_t_brings, .ref o_t_first, .ref o_t_missing, .ref o_t_told, .int t_pieces, .ref o_t_owner, .ref o_t_length, .ref a_t_layers, .int t_over, .ref o_t_low, .ref o_t_known, .int t_writing, .int t_begin, .int t_end, .int t_room, .int t_wrong, .int t_count])), (a_t_begins, .inl (tI, t_begins_N, .inl t_begins_F)), (a_t_layers, .inl (tI, t_layers_N, .inl t_layers_F)), (a_t_wide, .inl (tI, t_wide_N, .inl t_wide_F)), (a_t_high, .inl (tI, t_high_N, .inl t_high_F))] := hD
    refine lv_if_ne (tgt := 39) hx hb d_Mo_band_17 (by decide) (fun c0 => ?_) (fun c0 => ?_)
    · have hf := ite_f c0 hf
      exact k_39 t_thrown t_bands t_begins_F t_wide_F t_high_F p0 p1 _ _ _ _ ls hP hD hS hl hc hf
    · have hf := ite_t c0 hf
      refine lv_iload_n hx hb d_Mo_band_20 rfl (lv_at hl 1 rfl) ?_
      refine lv_iload_n hx hb d_Mo_band_21 rfl (lv_at hl 2 rfl) ?_
      refine lv_imul hx hb d_Mo_band_22 ?_
      refine lv_topi (fun x28 ex28 => ?_)
      have hf := letb_of hf ex28
      refine lv_sipush (v := 1024) hx hb d_Mo_band_23 (by decide) ?_
      refine lv_aload_n hx hb d_Mo_band_26 rfl (lv_at hl 0 rfl) ?_
      refine va_get (D := (dC, dI)) (ci := 7) (v := .ref a_t_begins) (C := R_Mo) (T := F_Mo) (N := 27) hx hb hts i_Mo hown hK hP 0 rfl rfl 5 (by decide) (hts _ q_226) (fun _ h9 => h9) rfl d_Mo_band_27 ?_
      refine lv_aload_n hx hb d_Mo_band_30 rfl (lv_at hl 0 rfl) ?_
      refine va_get (D := (dC, dI)) (ci := 7) (v := .int t_bands) (C := R_Mo) (T := F_Mo) (N := 27) hx hb hts i_Mo hown hK hP 0 rfl rfl 2 (by decide) (hts _ q_242) (fun _ h9 => h9) rfl d_Mo_band_31 ?_
      obtain ⟨hin9, hf⟩ := asm_of hf
      refine va_iald hx hb hK hP 1 0 rfl rfl hin9 d_Mo_band_34 ?_
      refine lv_topi (fun x29 ex29 => ?_)
      have hf := letb_of hf ex29
      refine lv_isub hx hb d_Mo_band_35 ?_
      refine lv_topi (fun x30 ex30 => ?_)
      have hf := letb_of hf ex30
      refine lv_icmp_le (tgt := 43) hx hb d_Mo_band_36 (by decide) (fun c0 => ?_) (fun c0 => ?_)
      · have hf := ite_t c0 hf
        refine lv_iconst (v := 0) hx hb d_Mo_band_43 (by decide) ?_
        exact k_44 t_thrown t_bands t_begins_F t_wide_F t_high_F p0 p1 0 _ _ _ _ ls hP hD hS hl hc hf
      · have hf := ite_f c0 hf
        exact k_39 t_thrown t_bands t_begins_F t_wide_F t_high_F p0 p1 _ _ _ _ ls hP hD hS hl hc hf
noncomputable def g_Mo_isBlock_42 (F : Nat) (s0 : Int32) : Option (Int32) :=
asm (narrow .boolean (.int s0) = .int s0) (some s0)
noncomputable def g_Mo_isBlock_41 (F : Nat)  : Option (Int32) :=
g_Mo_isBlock_42 F 0
noncomputable def f_Mo_isBlock (F : Nat) (t_bands : Int32) (t_wide_N : Nat) (t_wide_F : Nat → Int32) (t_high_N : Nat) (t_high_F : Nat → Int32) (p0 : Int32) (p1 : Int32) : Option (Int32) :=
letb (t_bands - 1) fun x8 =>
bd (f_Mo_out F p0 0 x8) fun u9 =>
if u9 = 0 then (
asm (vp_in p0 t_wide_N) (letb (t_wide_F p0.toNatClampNeg) fun x10 =>
asm (vp_in p0 t_high_N) (letb (t_high_F p0.toNatClampNeg) fun x11 =>
letb (x10 * x11) fun x12 =>
letb (x12 - 1) fun x13 =>
bd (f_Mo_out F p1 0 x13) fun u14 =>
if u14 = 0 then (
g_Mo_isBlock_42 F 1) else (
g_Mo_isBlock_41 F)))) else (
g_Mo_isBlock_41 F)
set_option maxHeartbeats 4000000 in
set_option maxRecDepth 100000 in
theorem c_Mo_isBlock (l : Launch) (dC : Nat → ClassId) (dI : Nat → Nat → Nat) (tI tB tL tZ : ClassId) (a_t : Nat) (a_t_wide : Nat) (a_t_high : Nat) (o_t_begins : Nat) (o_t_bytes : Nat) (o_t_came : Nat) (o_t_width : Nat) (o_t_brings : Nat) (o_t_first : Nat) (o_t_missing : Nat) (o_t_told : Nat) (o_t_owner : Nat) (o_t_length : Nat) (o_t_layers : Nat) (o_t_low : Nat) (o_t_known : Nat) (sz : Nat) (t_thrown : Int32) (t_style : Int32) (t_bands : Int32) (t_size : Int32) (t_pieces : Int32) (t_over : Int32) (t_writing : Int32) (t_begin : Int32) (t_end : Int32) (t_room : Int32) (t_wrong : Int32) (t_count : Int32) (t_wide_N : Nat) (t_wide_F : Nat → Int32) (t_high_N : Nat) (t_high_F : Nat → Int32) (p0 : Int32) (p1 : Int32) (F : Nat) (u : Int32) (hf : f_Mo_isBlock F t_bands t_wide_N t_wide_F t_high_N t_high_F p0 p1 = some u) : CTi l y_Mo_isBlock b_Mo_isBlock 3 .boolean 1 22 (dC, dI) classes [(tI, .int), (tB, .byte), (tL, .long), (tZ, .boolean)] [.ref a_t, .int p0, .int p1] [(a_t, .inr (7, [.int t_thrown, .int t_style, .int t_bands, .ref a_t_wide, .ref a_t_high, .ref o_t_begins, .int t_size, .ref o_t_bytes, .ref o_t_came, .ref o_t_width, .ref o_t_brings, .ref o_t_first, .ref o_t_missing, .ref o_t_told, .int t_pieces, .ref o_t_owner, .ref o_t_length, .ref o_t_layers, .int t_over, .ref o_t_low, .ref o_t_known, .int t_writing, .int t_begin, .int t_end, .int t_room, .int t_wrong, .int t_count])), (a_t_wide, .inl (tI, t_wide_N, .inl t_wide_F)), (a_t_high, .inl (tI, t_high_N, .inl t_high_F))] sz (fun q : Unit => [(a_t, .inr (7, [.int t_thrown, .int t_style, .int t_bands, .ref a_t_wide, .ref a_t_high, .ref o_t_begins, .int t_size, .ref o_t_bytes, .ref o_t_came, .ref o_t_width, .ref o_t_brings, .ref o_t_first, .ref o_t_missing, .ref o_t_told, .int t_pieces, .ref o_t_owner, .ref o_t_length, .ref o_t_layers, .int t_over, .ref o_t_low, .ref o_t_known, .int t_writing, .int t_begin, .int t_end, .int t_room, .int t_wrong, .int t_count])), (a_t_wide, .inl (tI, t_wide_N, .inl t_wide_F)), (a_t_high, .inl (tI, t_high_N, .inl t_high_F))]) (u) 0 0 := by
  refine mk_i (by decide) (Nat.le_of_ble_eq_true rfl) ?_
  intro p e s m args below meth c ls A Q hx hb hml hts hown hin hK hN hP hD hA hl ret
  obtain ⟨H, hH⟩ : ∃ H : Heap, H = s.heap := ⟨_, rfl⟩
  have hS : va_S A s.heap H [] := by rw [hH]; exact va_S.rf
  rw [← hH] at hP ⊢
  have hl : lv_has ls 3 [(0, .ref a_t), (1, .int p0), (2, .int p1)] := hl
  have k_42 : ∀ (s0 : Int32) (H : Heap) (locs : List Loc) (cells slots : Nat) (ls : Array Slot), va_P (dC, dI) classes [(a_t, .inr (7, [.int t_thrown, .int t_style, .int t_bands, .ref a_t_wide, .ref a_t_high, .ref o_t_begins, .int t_size, .ref o_t_bytes, .ref o_t_came, .ref o_t_width, .ref o_t_brings, .ref o_t_first, .ref o_t_missing, .ref o_t_told, .int t_pieces, .ref o_t_owner, .ref o_t_length, .ref o_t_layers, .int t_over, .ref o_t_low, .ref o_t_known, .int t_writing, .int t_begin, .int t_end, .int t_room, .int t_wrong, .int t_count])), (a_t_wide, .inl (tI, t_wide_N, .inl t_wide_F)), (a_t_high, .inl (tI, t_high_N, .inl t_high_F))] H → va_D A [(a_t, .inr (7, [.int t_thrown, .int t_style, .int t_bands, .ref a_t_wide, .ref a_t_high, .ref o_t_begins, .int t_size, .ref o_t_bytes, .ref o_t_came, .ref o_t_width, .ref o_t_brings, .ref o_t_first, .ref o_t_missing, .ref o_t_told, .int t_pieces, .ref o_t_owner, .ref o_t_length, .ref o_t_layers, .int t_over, .ref o_t_low, .ref o_t_known, .int t_writing, .int t_begin, .int t_end, .int t_room, .int t_wrong, .int t_count])), (a_t_wide, .inl (tI, t_wide_N, .inl t_wide_F)), (a_t_high, .inl (tI, t_high_N, .inl t_high_F))] → va_S A s.heap H locs → lv_has ls 3 [] → (cells ≤ 0 ∧ slots ≤ 0) → g_Mo_isBlock_42 F s0 = some u → W p l e ({ frames := 1, cells := 0, slots := 0, locals := 22 } : Room) s m args below meth c H locs cells slots Q (F0 m 42 ls [.int s0]) := by
    intro s0 H locs cells slots ls hP hD hS hl hc hf
    unfold g_Mo_isBlock_42 at hf
    obtain ⟨hn9, hf⟩ := asm_of hf
    have hf := Option.some.inj hf
    subst u
    exact ret _ _ _ _ _ _ () d_Mo_isBlock_42 hn9 hP hD hS hc.1 hc.2
  have k_41 : ∀  (H : Heap) (locs : List Loc) (cells slots : Nat) (ls : Array Slot), va_P (dC, dI) classes [(a_t, .inr (7, [.int t_thrown, .int t_style, .int t_bands, .ref a_t_wide, .ref a_t_high, .ref o_t_begins, .int t_size, .ref o_t_bytes, .ref o_t_came, .ref o_t_width, .ref o_t_brings, .ref o_t_first, .ref o_t_missing, .ref o_t_told, .int t_pieces, .ref o_t_owner, .ref o_t_length, .ref o_t_layers, .int t_over, .ref o_t_low, .ref o_t_known, .int t_writing, .int t_begin, .int t_end, .int t_room, .int t_wrong, .int t_count])), (a_t_wide, .inl (tI, t_wide_N, .inl t_wide_F)), (a_t_high, .inl (tI, t_high_N, .inl t_high_F))] H → va_D A [(a_t, .inr (7, [.int t_thrown, .int t_style, .int t_bands, .ref a_t_wide, .ref a_t_high, .ref o_t_begins, .int t_size, .ref o_t_bytes, .ref o_t_came, .ref o_t_width, .ref o_t_brings, .ref o_t_first, .ref o_t_missing, .ref o_t_told, .int t_pieces, .ref o_t_owner, .ref o_t_length, .ref o_t_layers, .int t_over, .ref o_t_low, .ref o_t_known, .int t_writing, .int t_begin, .int t_end, .int t_room, .int t_wrong, .int t_count])), (a_t_wide, .inl (tI, t_wide_N, .inl t_wide_F)), (a_t_high, .inl (tI, t_high_N, .inl t_high_F))] → va_S A s.heap H locs → lv_has ls 3 [] → (cells ≤ 0 ∧ slots ≤ 0) → g_Mo_isBlock_41 F = some u → W p l e ({ frames := 1, cells := 0, slots := 0, locals := 22 } : Room) s m args below meth c H locs cells slots Q (F0 m 41 ls []) := by
    intro H locs cells slots ls hP hD hS hl hc hf
    unfold g_Mo_isBlock_41 at hf
    refine lv_iconst (v := 0) hx hb d_Mo_isBlock_41 (by decide) ?_
    exact k_42 0 _ _ _ _ ls hP hD hS hl hc hf
  have hc : 0 ≤ 0 ∧ 0 ≤ 0 := ⟨Nat.le_refl 0, Nat.le_refl 0⟩
  unfold f_Mo_isBlock at hf
  refine lv_iload_n hx hb d_Mo_isBlock_0 rfl (lv_at hl 1 rfl) ?_
  refine lv_iconst (v := 0) hx hb d_Mo_isBlock_1 (by decide) ?_
  refine lv_aload_n hx hb d_Mo_isBlock_2 rfl (lv_at hl 0 rfl) ?_
  refine va_get (D := (dC, dI)) (ci := 7) (v := .int t_bands) (C := R_Mo) (T := F_Mo) (N := 27) hx hb hts i_Mo hown hK hP 0 rfl rfl 2 (by decide) (hts _ q_242) (fun _ h9 => h9) rfl d_Mo_isBlock_3 ?_
  refine lv_iconst (v := 1) hx hb d_Mo_isBlock_6 (by decide) ?_
  refine lv_isub hx hb d_Mo_isBlock_7 ?_
  refine lv_topi (fun x8 ex8 => ?_)
  have hf := letb_of hf ex8
  obtain ⟨u9, hu, hf⟩ := bd_of hf
  refine jn_i (wc := []) (wr := [(a_t, .inr (7, [.int t_thrown, .int t_style, .int t_bands, .ref a_t_wide, .ref a_t_high, .ref o_t_begins, .int t_size, .ref o_t_bytes, .ref o_t_came, .ref o_t_width, .ref o_t_brings, .ref o_t_first, .ref o_t_missing, .ref o_t_told, .int t_pieces, .ref o_t_owner, .ref o_t_length, .ref o_t_layers, .int t_over, .ref o_t_low, .ref o_t_known, .int t_writing, .int t_begin, .int t_end, .int t_room, .int t_wrong, .int t_count])), (a_t_wide, .inl (tI, t_wide_N, .inl t_wide_F)), (a_t_high, .inl (tI, t_high_N, .inl t_high_F))]) (va_runS (As := [.int p0, .int 0, .int x8]) (rest := []) ⟨hx, hb, hml, hown, hts⟩ (c_Mo_out l dC dI tI tB tL tZ H.size p0 0 x8 F u9 hu) (cs_of hts q_245 q_214 q_244 q_246 hd_Mo_out ⟨Nat.le_of_ble_eq_true rfl, Nat.le_of_ble_eq_true rfl⟩) (pr_S hK hN (hP.sub [] rfl) (hD.sub [] (by decide) rfl)) rfl rfl hl.1 rfl (lv_room (Nat.le_of_ble_eq_true rfl)) d_Mo_isBlock_8 hc) hP hD hS hA [] [0, 1, 2] rfl rfl (by decide) (by decide) (fun r9 _ H locs hw hP hD hS => ?_)
  subst r9
  have hP : va_P (dC, dI) classes [(a_t, .inr (7, [.int t_thrown, .int t_style, .int t_bands, .ref a_t_wide, .ref a_t_high, .ref o_t_begins, .int t_size, .ref o_t_bytes, .ref o_t_came, .ref o_t_width, .ref o_t_brings, .ref o_t_first, .ref o_t_missing, .ref o_t_told, .int t_pieces, .ref o_t_owner, .ref o_t_length, .ref o_t_layers, .int t_over, .ref o_t_low, .ref o_t_known, .int t_writing, .int t_begin, .int t_end, .int t_room, .int t_wrong, .int t_count])), (a_t_wide, .inl (tI, t_wide_N, .inl t_wide_F)), (a_t_high, .inl (tI, t_high_N, .inl t_high_F))] H := hP
  have hD : va_D A [(a_t, .inr (7, [.int t_thrown, .int t_style, .int t_bands, .ref a_t_wide, .ref a_t_high, .ref o_t_begins, .int t_size, .ref o_t_bytes, .ref o_t_came, .ref o_t_width, .ref o_t_brings, .ref o_t_first, .ref o_t_missing, .ref o_t_told, .int t_pieces, .ref o_t_owner, .ref o_t_length, .ref o_t_layers, .int t_over, .ref o_t_low, .ref o_t_known, .int t_writing, .int t_begin, .int t_end, .int t_room, .int t_wrong, .int t_count])), (a_t_wide, .inl (tI, t_wide_N, .inl t_wide_F)), (a_t_high, .inl (tI, t_high_N, .inl t_high_F))] := hD
  refine lv_if_ne (tgt := 41) hx hb d_Mo_isBlock_11 (by decide) (fun c0 => ?_) (fun c0 => ?_)
  · have hf := ite_f c0 hf
    exact k_41 _ _ _ _ ls hP hD hS (lv_sub hl [] rfl) hc hf
  · have hf := ite_t c0 hf
    refine lv_iload_n hx hb d_Mo_isBlock_14 rfl (lv_at hl 2 rfl) ?_
    refine lv_iconst (v := 0) hx hb d_Mo_isBlock_15 (by decide) ?_
    refine lv_aload_n hx hb d_Mo_isBlock_16 rfl (lv_at hl 0 rfl) ?_
    refine va_get (D := (dC, dI)) (ci := 7) (v := .ref a_t_wide) (C := R_Mo) (T := F_Mo) (N := 27) hx hb hts i_Mo hown hK hP 0 rfl rfl 3 (by decide) (hts _ q_224) (fun _ h9 => h9) rfl d_Mo_isBlock_17 ?_
    refine lv_iload_n hx hb d_Mo_isBlock_20 rfl (lv_at hl 1 rfl) ?_
    obtain ⟨hin9, hf⟩ := asm_of hf
    refine va_iald hx hb hK hP 1 0 rfl rfl hin9 d_Mo_isBlock_21 ?_
    refine lv_topi (fun x10 ex10 => ?_)
    have hf := letb_of hf ex10
    refine lv_aload_n hx hb d_Mo_isBlock_22 rfl (lv_at hl 0 rfl) ?_
    refine va_get (D := (dC, dI)) (ci := 7) (v := .ref a_t_high) (C := R_Mo) (T := F_Mo) (N := 27) hx hb hts i_Mo hown hK hP 0 rfl rfl 4 (by decide) (hts _ q_225) (fun _ h9 => h9) rfl d_Mo_isBlock_23 ?_
    refine lv_iload_n hx hb d_Mo_isBlock_26 rfl (lv_at hl 1 rfl) ?_
    obtain ⟨hin9, hf⟩ := asm_of hf
    refine va_iald hx hb hK hP 2 0 rfl rfl hin9 d_Mo_isBlock_27 ?_
    refine lv_topi (fun x11 ex11 => ?_)
    have hf := letb_of hf ex11
    refine lv_imul hx hb d_Mo_isBlock_28 ?_
    refine lv_topi (fun x12 ex12 => ?_)
    have hf := letb_of hf ex12
    refine lv_iconst (v := 1) hx hb d_Mo_isBlock_29 (by decide) ?_
    refine lv_isub hx hb d_Mo_isBlock_30 ?_
    refine lv_topi (fun x13 ex13 => ?_)
    have hf := letb_of hf ex13
    obtain ⟨u14, hu, hf⟩ := bd_of hf
    refine jn_i (wc := []) (wr := [(a_t, .inr (7, [.int t_thrown, .int t_style, .int t_bands, .ref a_t_wide, .ref a_t_high, .ref o_t_begins, .int t_size, .ref o_t_bytes, .ref o_t_came, .ref o_t_width, .ref o_t_brings, .ref o_t_first, .ref o_t_missing, .ref o_t_told, .int t_pieces, .ref o_t_owner, .ref o_t_length, .ref o_t_layers, .int t_over, .ref o_t_low, .ref o_t_known, .int t_writing, .int t_begin, .int t_end, .int t_room, .int t_wrong, .int t_count])), (a_t_wide, .inl (tI, t_wide_N, .inl t_wide_F)), (a_t_high, .inl (tI, t_high_N, .inl t_high_F))]) (va_runS (As := [.int p1, .int 0, .int x13]) (rest := []) ⟨hx, hb, hml, hown, hts⟩ (c_Mo_out l dC dI tI tB tL tZ H.size p1 0 x13 F u14 hu) (cs_of hts q_245 q_214 q_244 q_246 hd_Mo_out ⟨Nat.le_of_ble_eq_true rfl, Nat.le_of_ble_eq_true rfl⟩) (pr_S hK hN (hP.sub [] rfl) (hD.sub [] (by decide) rfl)) rfl rfl hl.1 rfl (lv_room (Nat.le_of_ble_eq_true rfl)) d_Mo_isBlock_31 hc) hP hD hS hA [] [0, 1, 2] rfl rfl (by decide) (by decide) (fun r9 _ H locs hw hP hD hS => ?_)
    subst r9
    have hP : va_P (dC, dI) classes [(a_t, .inr (7, [.int t_thrown, .int t_style, .int t_bands, .ref a_t_wide, .ref a_t_high, .ref o_t_begins, .int t_size, .ref o_t_bytes, .ref o_t_came, .ref o_t_width, .ref o_t_brings, .ref o_t_first, .ref o_t_missing, .ref o_t_told, .int t_pieces, .ref o_t_owner, .ref o_t_length, .ref o_t_layers, .int t_over, .ref o_t_low, .ref o_t_known, .int t_writing, .int t_begin, .int t_end, .int t_room, .int t_wrong, .int t_count])), (a_t_wide, .inl (tI, t_wide_N, .inl t_wide_F)), (a_t_high, .inl (tI, t_high_N, .inl t_high_F))] H := hP
    have hD : va_D A [(a_t, .inr (7, [.int t_thrown, .int t_style, .int t_bands, .ref a_t_wide, .ref a_t_high, .ref o_t_begins, .int t_size, .ref o_t_bytes, .ref o_t_came, .ref o_t_width, .ref o_t_brings, .ref o_t_first, .ref o_t_missing, .ref o_t_told, .int t_pieces, .ref o_t_owner, .ref o_t_length, .ref o_t_layers, .int t_over, .ref o_t_low, .ref o_t_known, .int t_writing, .int t_begin, .int t_end, .int t_room, .int t_wrong, .int t_count])), (a_t_wide, .inl (tI, t_wide_N, .inl t_wide_F)), (a_t_high, .inl (tI, t_high_N, .inl t_high_F))] := hD
    refine lv_if_ne (tgt := 41) hx hb d_Mo_isBlock_34 (by decide) (fun c0 => ?_) (fun c0 => ?_)
    · have hf := ite_f c0 hf
      exact k_41 _ _ _ _ ls hP hD hS (lv_sub hl [] rfl) hc hf
    · have hf := ite_t c0 hf
      refine lv_iconst (v := 1) hx hb d_Mo_isBlock_37 (by decide) ?_
      refine lv_goto (tgt := 42) hx hb d_Mo_isBlock_38 (by decide) ?_
      exact k_42 1 _ _ _ _ ls hP hD hS (lv_sub hl [] rfl) hc hf
noncomputable def g_Mo_endsBehind_50 (F : Nat) (s0 : Int32) : Option (Int32) :=
asm (narrow .boolean (.int s0) = .int s0) (some s0)
noncomputable def g_Mo_endsBehind_49 (F : Nat)  : Option (Int32) :=
g_Mo_endsBehind_50 F 0
noncomputable def g_Mo_endsBehind_45 (F : Nat)  : Option (Int32) :=
g_Mo_endsBehind_50 F 1
noncomputable def g_Mo_endsBehind_32 (F : Nat) (v1 : Int32) : Option (Int32) :=
if v1 ≤ 9 then (
g_Mo_endsBehind_49 F) else (
letb (v1 - v1 / 3 * 3) fun x5 =>
if x5 = 2 then (
g_Mo_endsBehind_45 F) else (
g_Mo_endsBehind_49 F))
noncomputable def f_Mo_endsBehind (F : Nat) (t_style : Int32) (p0 : Int32) : Option (Int32) :=
letb (t_style &&& 4) fun x6 =>
if x6 = 0 then (
letb (t_style &&& 1) fun x7 =>
if x7 = 0 then (
g_Mo_endsBehind_49 F) else (
if p0 ≤ 8 then (
g_Mo_endsBehind_32 F p0) else (
letb (p0 - p0 / 3 * 3) fun x8 =>
if x8 = 0 then (
g_Mo_endsBehind_45 F) else (
g_Mo_endsBehind_32 F p0)))) else (
some 1)
set_option maxHeartbeats 4000000 in
set_option maxRecDepth 100000 in
theorem c_Mo_endsBehind (l : Launch) (dC : Nat → ClassId) (dI : Nat → Nat → Nat) (tI tB tL tZ : ClassId) (a_t : Nat) (o_t_wide : Nat) (o_t_high : Nat) (o_t_begins : Nat) (o_t_bytes : Nat) (o_t_came : Nat) (o_t_width : Nat) (o_t_brings : Nat) (o_t_first : Nat) (o_t_missing : Nat) (o_t_told : Nat) (o_t_owner : Nat) (o_t_length : Nat) (o_t_layers : Nat) (o_t_low : Nat) (o_t_known : Nat) (sz : Nat) (t_thrown : Int32) (t_style : Int32) (t_bands : Int32) (t_size : Int32) (t_pieces : Int32) (t_over : Int32) (t_writing : Int32) (t_begin : Int32) (t_end : Int32) (t_room : Int32) (t_wrong : Int32) (t_count : Int32) (p0 : Int32) (F : Nat) (u : Int32) (hf : f_Mo_endsBehind F t_style p0 = some u) : CTi l y_Mo_endsBehind b_Mo_endsBehind 2 .boolean 0 0 (dC, dI) classes [(tI, .int), (tB, .byte), (tL, .long), (tZ, .boolean)] [.ref a_t, .int p0] [(a_t, .inr (7, [.int t_thrown, .int t_style, .int t_bands, .ref o_t_wide, .ref o_t_high, .ref o_t_begins, .int t_size, .ref o_t_bytes, .ref o_t_came, .ref o_t_width, .ref o_t_brings, .ref o_t_first, .ref o_t_missing, .ref o_t_told, .int t_pieces, .ref o_t_owner, .ref o_t_length, .ref o_t_layers, .int t_over, .ref o_t_low, .ref o_t_known, .int t_writing, .int t_begin, .int t_end, .int t_room, .int t_wrong, .int t_count]))] sz (fun q : Unit => [(a_t, .inr (7, [.int t_thrown, .int t_style, .int t_bands, .ref o_t_wide, .ref o_t_high, .ref o_t_begins, .int t_size, .ref o_t_bytes, .ref o_t_came, .ref o_t_width, .ref o_t_brings, .ref o_t_first, .ref o_t_missing, .ref o_t_told, .int t_pieces, .ref o_t_owner, .ref o_t_length, .ref o_t_layers, .int t_over, .ref o_t_low, .ref o_t_known, .int t_writing, .int t_begin, .int t_end, .int t_room, .int t_wrong, .int t_count]))]) (u) 0 0 := by
  refine mk_i (by decide) (Nat.le_of_ble_eq_true rfl) ?_
  intro p e s m args below meth c ls A Q hx hb hml hts hown hin hK hN hP hD hA hl ret
  obtain ⟨H, hH⟩ : ∃ H : Heap, H = s.heap := ⟨_, rfl⟩
  have hS : va_S A s.heap H [] := by rw [hH]; exact va_S.rf
  rw [← hH] at hP ⊢
  have hl : lv_has ls 2 [(0, .ref a_t), (1, .int p0)] := hl
  have k_50 : ∀ (s0 : Int32) (H : Heap) (locs : List Loc) (cells slots : Nat) (ls : Array Slot), va_P (dC, dI) classes [(a_t, .inr (7, [.int t_thrown, .int t_style, .int t_bands, .ref o_t_wide, .ref o_t_high, .ref o_t_begins, .int t_size, .ref o_t_bytes, .ref o_t_came, .ref o_t_width, .ref o_t_brings, .ref o_t_first, .ref o_t_missing, .ref o_t_told, .int t_pieces, .ref o_t_owner, .ref o_t_length, .ref o_t_layers, .int t_over, .ref o_t_low, .ref o_t_known, .int t_writing, .int t_begin, .int t_end, .int t_room, .int t_wrong, .int t_count]))] H → va_D A [(a_t, .inr (7, [.int t_thrown, .int t_style, .int t_bands, .ref o_t_wide, .ref o_t_high, .ref o_t_begins, .int t_size, .ref o_t_bytes, .ref o_t_came, .ref o_t_width, .ref o_t_brings, .ref o_t_first, .ref o_t_missing, .ref o_t_told, .int t_pieces, .ref o_t_owner, .ref o_t_length, .ref o_t_layers, .int t_over, .ref o_t_low, .ref o_t_known, .int t_writing, .int t_begin, .int t_end, .int t_room, .int t_wrong, .int t_count]))] → va_S A s.heap H locs → lv_has ls 2 [] → (cells ≤ 0 ∧ slots ≤ 0) → g_Mo_endsBehind_50 F s0 = some u → W p l e ({ frames := 0, cells := 0, slots := 0, locals := 0 } : Room) s m args below meth c H locs cells slots Q (F0 m 50 ls [.int s0]) := by
    intro s0 H locs cells slots ls hP hD hS hl hc hf
    unfold g_Mo_endsBehind_50 at hf
    obtain ⟨hn9, hf⟩ := asm_of hf
    have hf := Option.some.inj hf
    subst u
    exact ret _ _ _ _ _ _ () d_Mo_endsBehind_50 hn9 hP hD hS hc.1 hc.2
  have k_49 : ∀  (H : Heap) (locs : List Loc) (cells slots : Nat) (ls : Array Slot), va_P (dC, dI) classes [(a_t, .inr (7, [.int t_thrown, .int t_style, .int t_bands, .ref o_t_wide, .ref o_t_high, .ref o_t_begins, .int t_size, .ref o_t_bytes, .ref o_t_came, .ref o_t_width, .ref o_t_brings, .ref o_t_first, .ref o_t_missing, .ref o_t_told, .int t_pieces, .ref o_t_owner, .ref o_t_length, .ref o_t_layers, .int t_over, .ref o_t_low, .ref o_t_known, .int t_writing, .int t_begin, .int t_end, .int t_room, .int t_wrong, .int t_count]))] H → va_D A [(a_t, .inr (7, [.int t_thrown, .int t_style, .int t_bands, .ref o_t_wide, .ref o_t_high, .ref o_t_begins, .int t_size, .ref o_t_bytes, .ref o_t_came, .ref o_t_width, .ref o_t_brings, .ref o_t_first, .ref o_t_missing, .ref o_t_told, .int t_pieces, .ref o_t_owner, .ref o_t_length, .ref o_t_layers, .int t_over, .ref o_t_low, .ref o_t_known, .int t_writing, .int t_begin, .int t_end, .int t_room, .int t_wrong, .int t_count]))] → va_S A s.heap H locs → lv_has ls 2 [] → (cells ≤ 0 ∧ slots ≤ 0) → g_Mo_endsBehind_49 F = some u → W p l e ({ frames := 0, cells := 0, slots := 0, locals := 0 } : Room) s m args below meth c H locs cells slots Q (F0 m 49 ls []) := by
    intro H locs cells slots ls hP hD hS hl hc hf
    unfold g_Mo_endsBehind_49 at hf
    refine lv_iconst (v := 0) hx hb d_Mo_endsBehind_49 (by decide) ?_
    exact k_50 0 _ _ _ _ ls hP hD hS hl hc hf
  have k_45 : ∀  (H : Heap) (locs : List Loc) (cells slots : Nat) (ls : Array Slot), va_P (dC, dI) classes [(a_t, .inr (7, [.int t_thrown, .int t_style, .int t_bands, .ref o_t_wide, .ref o_t_high, .ref o_t_begins, .int t_size, .ref o_t_bytes, .ref o_t_came, .ref o_t_width, .ref o_t_brings, .ref o_t_first, .ref o_t_missing, .ref o_t_told, .int t_pieces, .ref o_t_owner, .ref o_t_length, .ref o_t_layers, .int t_over, .ref o_t_low, .ref o_t_known, .int t_writing, .int t_begin, .int t_end, .int t_room, .int t_wrong, .int t_count]))] H → va_D A [(a_t, .inr (7, [.int t_thrown, .int t_style, .int t_bands, .ref o_t_wide, .ref o_t_high, .ref o_t_begins, .int t_size, .ref o_t_bytes, .ref o_t_came, .ref o_t_width, .ref o_t_brings, .ref o_t_first, .ref o_t_missing, .ref o_t_told, .int t_pieces, .ref o_t_owner, .ref o_t_length, .ref o_t_layers, .int t_over, .ref o_t_low, .ref o_t_known, .int t_writing, .int t_begin, .int t_end, .int t_room, .int t_wrong, .int t_count]))] → va_S A s.heap H locs → lv_has ls 2 [] → (cells ≤ 0 ∧ slots ≤ 0) → g_Mo_endsBehind_45 F = some u → W p l e ({ frames := 0, cells := 0, slots := 0, locals := 0 } : Room) s m args below meth c H locs cells slots Q (F0 m 45 ls []) := by
    intro H locs cells slots ls hP hD hS hl hc hf
    unfold g_Mo_endsBehind_45 at hf
    refine lv_iconst (v := 1) hx hb d_Mo_endsBehind_45 (by decide) ?_
    refine lv_goto (tgt := 50) hx hb d_Mo_endsBehind_46 (by decide) ?_
    exact k_50 1 _ _ _ _ ls hP hD hS hl hc hf
  have k_32 : ∀ (v1 : Int32) (H : Heap) (locs : List Loc) (cells slots : Nat) (ls : Array Slot), va_P (dC, dI) classes [(a_t, .inr (7, [.int t_thrown, .int t_style, .int t_bands, .ref o_t_wide, .ref o_t_high, .ref o_t_begins, .int t_size, .ref o_t_bytes, .ref o_t_came, .ref o_t_width, .ref o_t_brings, .ref o_t_first, .ref o_t_missing, .ref o_t_told, .int t_pieces, .ref o_t_owner, .ref o_t_length, .ref o_t_layers, .int t_over, .ref o_t_low, .ref o_t_known, .int t_writing, .int t_begin, .int t_end, .int t_room, .int t_wrong, .int t_count]))] H → va_D A [(a_t, .inr (7, [.int t_thrown, .int t_style, .int t_bands, .ref o_t_wide, .ref o_t_high, .ref o_t_begins, .int t_size, .ref o_t_bytes, .ref o_t_came, .ref o_t_width, .ref o_t_brings, .ref o_t_first, .ref o_t_missing, .ref o_t_told, .int t_pieces, .ref o_t_owner, .ref o_t_length, .ref o_t_layers, .int t_over, .ref o_t_low, .ref o_t_known, .int t_writing, .int t_begin, .int t_end, .int t_room, .int t_wrong, .int t_count]))] → va_S A s.heap H locs → lv_has ls 2 [(1, .int v1)] → (cells ≤ 0 ∧ slots ≤ 0) → g_Mo_endsBehind_32 F v1 = some u → W p l e ({ frames := 0, cells := 0, slots := 0, locals := 0 } : Room) s m args below meth c H locs cells slots Q (F0 m 32 ls []) := by
    intro v1 H locs cells slots ls hP hD hS hl hc hf
    unfold g_Mo_endsBehind_32 at hf
    refine lv_iload_n hx hb d_Mo_endsBehind_32 rfl (lv_at hl 0 rfl) ?_
    refine lv_bipush (v := 9) hx hb d_Mo_endsBehind_33 (by decide) ?_
    refine lv_icmp_le (tgt := 49) hx hb d_Mo_endsBehind_35 (by decide) (fun c0 => ?_) (fun c0 => ?_)
    · have hf := ite_t c0 hf
      exact k_49 _ _ _ _ ls hP hD hS (lv_sub hl [] rfl) hc hf
    · have hf := ite_f c0 hf
      refine lv_iload_n hx hb d_Mo_endsBehind_38 rfl (lv_at hl 0 rfl) ?_
      refine lv_iconst (v := 3) hx hb d_Mo_endsBehind_39 (by decide) ?_
      refine lv_irem hx hb d_Mo_endsBehind_40 (by decide) ?_
      refine lv_topi (fun x5 ex5 => ?_)
      have hf := letb_of hf ex5
      refine lv_iconst (v := 2) hx hb d_Mo_endsBehind_41 (by decide) ?_
      refine lv_icmp_ne (tgt := 49) hx hb d_Mo_endsBehind_42 (by decide) (fun c0 => ?_) (fun c0 => ?_)
      · have hf := ite_f c0 hf
        exact k_49 _ _ _ _ ls hP hD hS (lv_sub hl [] rfl) hc hf
      · have hf := ite_t c0 hf
        exact k_45 _ _ _ _ ls hP hD hS (lv_sub hl [] rfl) hc hf
  have hc : 0 ≤ 0 ∧ 0 ≤ 0 := ⟨Nat.le_refl 0, Nat.le_refl 0⟩
  unfold f_Mo_endsBehind at hf
  refine lv_aload_n hx hb d_Mo_endsBehind_0 rfl (lv_at hl 0 rfl) ?_
  refine va_get (D := (dC, dI)) (ci := 7) (v := .int t_style) (C := R_Mo) (T := F_Mo) (N := 27) hx hb hts i_Mo hown hK hP 0 rfl rfl 1 (by decide) (hts _ q_241) (fun _ h9 => h9) rfl d_Mo_endsBehind_1 ?_
  refine lv_iconst (v := 4) hx hb d_Mo_endsBehind_4 (by decide) ?_
  refine lv_iand hx hb d_Mo_endsBehind_5 ?_
  refine lv_topi (fun x6 ex6 => ?_)
  have hf := letb_of hf ex6
  refine lv_if_eq (tgt := 11) hx hb d_Mo_endsBehind_6 (by decide) (fun c0 => ?_) (fun c0 => ?_)
  · have hf := ite_t c0 hf
    refine lv_aload_n hx hb d_Mo_endsBehind_11 rfl (lv_at hl 0 rfl) ?_
    refine va_get (D := (dC, dI)) (ci := 7) (v := .int t_style) (C := R_Mo) (T := F_Mo) (N := 27) hx hb hts i_Mo hown hK hP 0 rfl rfl 1 (by decide) (hts _ q_241) (fun _ h9 => h9) rfl d_Mo_endsBehind_12 ?_
    refine lv_iconst (v := 1) hx hb d_Mo_endsBehind_15 (by decide) ?_
    refine lv_iand hx hb d_Mo_endsBehind_16 ?_
    refine lv_topi (fun x7 ex7 => ?_)
    have hf := letb_of hf ex7
    refine lv_if_eq (tgt := 49) hx hb d_Mo_endsBehind_17 (by decide) (fun c0 => ?_) (fun c0 => ?_)
    · have hf := ite_t c0 hf
      exact k_49 _ _ _ _ ls hP hD hS (lv_sub hl [] rfl) hc hf
    · have hf := ite_f c0 hf
      refine lv_iload_n hx hb d_Mo_endsBehind_20 rfl (lv_at hl 1 rfl) ?_
      refine lv_bipush (v := 8) hx hb d_Mo_endsBehind_21 (by decide) ?_
      refine lv_icmp_le (tgt := 32) hx hb d_Mo_endsBehind_23 (by decide) (fun c0 => ?_) (fun c0 => ?_)
      · have hf := ite_t c0 hf
        exact k_32 p0 _ _ _ _ ls hP hD hS (lv_sub hl [1] rfl) hc hf
      · have hf := ite_f c0 hf
        refine lv_iload_n hx hb d_Mo_endsBehind_26 rfl (lv_at hl 1 rfl) ?_
        refine lv_iconst (v := 3) hx hb d_Mo_endsBehind_27 (by decide) ?_
        refine lv_irem hx hb d_Mo_endsBehind_28 (by decide) ?_
        refine lv_topi (fun x8 ex8 => ?_)
        have hf := letb_of hf ex8
        refine lv_if_eq (tgt := 45) hx hb d_Mo_endsBehind_29 (by decide) (fun c0 => ?_) (fun c0 => ?_)
        · have hf := ite_t c0 hf
          exact k_45 _ _ _ _ ls hP hD hS (lv_sub hl [] rfl) hc hf
        · have hf := ite_f c0 hf
          exact k_32 p0 _ _ _ _ ls hP hD hS (lv_sub hl [1] rfl) hc hf
  · have hf := ite_f c0 hf
    refine lv_iconst (v := 1) hx hb d_Mo_endsBehind_9 (by decide) ?_
    have hf := Option.some.inj hf
    subst u
    exact ret _ _ _ _ _ _ () d_Mo_endsBehind_10 (show narrow .boolean (.int 1) = .int 1 from rfl) hP hD hS hc.1 hc.2
noncomputable def g_Mo_firstPiece_23 (F : Nat) (v1 : Int32) (v3 : Int32) : Option (Int32) :=
letb (v3 + 1) fun x6 =>
letb (x6 - v1) fun x7 =>
some x7
noncomputable def g_Mo_firstPiece_2 (F : Nat) (rec2 : Int32 → Int32 → Int32 → Option (Int32)) (t_style : Int32) (v1 : Int32) (v2 : Int32) (v3 : Int32) : Option (Int32) :=
letb (v2 - 1) fun x8 =>
if x8 ≤ v3 then (
g_Mo_firstPiece_23 F v1 v3) else (
bd (f_Mo_endsBehind F t_style v3) fun u9 =>
if u9 = 0 then (
letb (v3 + 1) fun x10 =>
rec2 v1 v2 x10) else (
g_Mo_firstPiece_23 F v1 v3))
noncomputable def f_Mo_firstPiece_2 (F : Nat) (t_style : Int32) : Nat → Int32 → Int32 → Int32 → Option (Int32)
  | 0 => fun _ _ _ => none
  | n + 1 => fun v1 v2 v3 => g_Mo_firstPiece_2 F (f_Mo_firstPiece_2 F t_style n) t_style v1 v2 v3
noncomputable def f_Mo_firstPiece (F : Nat) (t_style : Int32) (p0 : Int32) (p1 : Int32) : Option (Int32) :=
f_Mo_firstPiece_2 F t_style F p0 p1 p0
set_option maxHeartbeats 4000000 in
set_option maxRecDepth 100000 in
theorem c_Mo_firstPiece (l : Launch) (dC : Nat → ClassId) (dI : Nat → Nat → Nat) (tI tB tL tZ : ClassId) (a_t : Nat) (o_t_wide : Nat) (o_t_high : Nat) (o_t_begins : Nat) (o_t_bytes : Nat) (o_t_came : Nat) (o_t_width : Nat) (o_t_brings : Nat) (o_t_first : Nat) (o_t_missing : Nat) (o_t_told : Nat) (o_t_owner : Nat) (o_t_length : Nat) (o_t_layers : Nat) (o_t_low : Nat) (o_t_known : Nat) (sz : Nat) (t_thrown : Int32) (t_style : Int32) (t_bands : Int32) (t_size : Int32) (t_pieces : Int32) (t_over : Int32) (t_writing : Int32) (t_begin : Int32) (t_end : Int32) (t_room : Int32) (t_wrong : Int32) (t_count : Int32) (p0 : Int32) (p1 : Int32) (F : Nat) (u : Int32) (hf : f_Mo_firstPiece F t_style p0 p1 = some u) : CTi l y_Mo_firstPiece b_Mo_firstPiece 4 .int 1 21 (dC, dI) classes [(tI, .int), (tB, .byte), (tL, .long), (tZ, .boolean)] [.ref a_t, .int p0, .int p1] [(a_t, .inr (7, [.int t_thrown, .int t_style, .int t_bands, .ref o_t_wide, .ref o_t_high, .ref o_t_begins, .int t_size, .ref o_t_bytes, .ref o_t_came, .ref o_t_width, .ref o_t_brings, .ref o_t_first, .ref o_t_missing, .ref o_t_told, .int t_pieces, .ref o_t_owner, .ref o_t_length, .ref o_t_layers, .int t_over, .ref o_t_low, .ref o_t_known, .int t_writing, .int t_begin, .int t_end, .int t_room, .int t_wrong, .int t_count]))] sz (fun q : Unit => [(a_t, .inr (7, [.int t_thrown, .int t_style, .int t_bands, .ref o_t_wide, .ref o_t_high, .ref o_t_begins, .int t_size, .ref o_t_bytes, .ref o_t_came, .ref o_t_width, .ref o_t_brings, .ref o_t_first, .ref o_t_missing, .ref o_t_told, .int t_pieces, .ref o_t_owner, .ref o_t_length, .ref o_t_layers, .int t_over, .ref o_t_low, .ref o_t_known, .int t_writing, .int t_begin, .int t_end, .int t_room, .int t_wrong, .int t_count]))]) (u) 0 0 := by
  refine mk_i (by decide) (Nat.le_of_ble_eq_true rfl) ?_
  intro p e s m args below meth c ls A Q hx hb hml hts hown hin hK hN hP hD hA hl ret
  obtain ⟨H, hH⟩ : ∃ H : Heap, H = s.heap := ⟨_, rfl⟩
  have hS : va_S A s.heap H [] := by rw [hH]; exact va_S.rf
  rw [← hH] at hP ⊢
  have hl : lv_has ls 4 [(0, .ref a_t), (1, .int p0), (2, .int p1)] := hl
  have k_23 : ∀ (v1 : Int32) (v3 : Int32) (H : Heap) (locs : List Loc) (cells slots : Nat) (ls : Array Slot), va_P (dC, dI) classes [(a_t, .inr (7, [.int t_thrown, .int t_style, .int t_bands, .ref o_t_wide, .ref o_t_high, .ref o_t_begins, .int t_size, .ref o_t_bytes, .ref o_t_came, .ref o_t_width, .ref o_t_brings, .ref o_t_first, .ref o_t_missing, .ref o_t_told, .int t_pieces, .ref o_t_owner, .ref o_t_length, .ref o_t_layers, .int t_over, .ref o_t_low, .ref o_t_known, .int t_writing, .int t_begin, .int t_end, .int t_room, .int t_wrong, .int t_count]))] H → va_D A [(a_t, .inr (7, [.int t_thrown, .int t_style, .int t_bands, .ref o_t_wide, .ref o_t_high, .ref o_t_begins, .int t_size, .ref o_t_bytes, .ref o_t_came, .ref o_t_width, .ref o_t_brings, .ref o_t_first, .ref o_t_missing, .ref o_t_told, .int t_pieces, .ref o_t_owner, .ref o_t_length, .ref o_t_layers, .int t_over, .ref o_t_low, .ref o_t_known, .int t_writing, .int t_begin, .int t_end, .int t_room, .int t_wrong, .int t_count]))] → va_S A s.heap H locs → lv_has ls 4 [(1, .int v1), (3, .int v3)] → (cells ≤ 0 ∧ slots ≤ 0) → g_Mo_firstPiece_23 F v1 v3 = some u → W p l e ({ frames := 1, cells := 0, slots := 0, locals := 21 } : Room) s m args below meth c H locs cells slots Q (F0 m 23 ls []) := by
    intro v1 v3 H locs cells slots ls hP hD hS hl hc hf
    unfold g_Mo_firstPiece_23 at hf
    refine lv_iload_n hx hb d_Mo_firstPiece_23 rfl (lv_at hl 1 rfl) ?_
    refine lv_iconst (v := 1) hx hb d_Mo_firstPiece_24 (by decide) ?_
    refine lv_iadd hx hb d_Mo_firstPiece_25 ?_
    refine lv_topi (fun x6 ex6 => ?_)
    have hf := letb_of hf ex6
    refine lv_iload_n hx hb d_Mo_firstPiece_26 rfl (lv_at hl 0 rfl) ?_
    refine lv_isub hx hb d_Mo_firstPiece_27 ?_
    refine lv_topi (fun x7 ex7 => ?_)
    have hf := letb_of hf ex7
    have hf := Option.some.inj hf
    subst u
    exact ret _ _ _ _ _ _ () d_Mo_firstPiece_28 rfl hP hD hS hc.1 hc.2
  have k_2 : ∀ n : Nat, ∀ (v1 : Int32) (v2 : Int32) (v3 : Int32) (H : Heap) (locs : List Loc) (cells slots : Nat) (ls : Array Slot), va_P (dC, dI) classes [(a_t, .inr (7, [.int t_thrown, .int t_style, .int t_bands, .ref o_t_wide, .ref o_t_high, .ref o_t_begins, .int t_size, .ref o_t_bytes, .ref o_t_came, .ref o_t_width, .ref o_t_brings, .ref o_t_first, .ref o_t_missing, .ref o_t_told, .int t_pieces, .ref o_t_owner, .ref o_t_length, .ref o_t_layers, .int t_over, .ref o_t_low, .ref o_t_known, .int t_writing, .int t_begin, .int t_end, .int t_room, .int t_wrong, .int t_count]))] H → va_D A [(a_t, .inr (7, [.int t_thrown, .int t_style, .int t_bands, .ref o_t_wide, .ref o_t_high, .ref o_t_begins, .int t_size, .ref o_t_bytes, .ref o_t_came, .ref o_t_width, .ref o_t_brings, .ref o_t_first, .ref o_t_missing, .ref o_t_told, .int t_pieces, .ref o_t_owner, .ref o_t_length, .ref o_t_layers, .int t_over, .ref o_t_low, .ref o_t_known, .int t_writing, .int t_begin, .int t_end, .int t_room, .int t_wrong, .int t_count]))] → va_S A s.heap H locs → lv_has ls 4 [(0, .ref a_t), (1, .int v1), (2, .int v2), (3, .int v3)] → (cells ≤ 0 ∧ slots ≤ 0) → f_Mo_firstPiece_2 F t_style n v1 v2 v3 = some u → W p l e ({ frames := 1, cells := 0, slots := 0, locals := 21 } : Room) s m args below meth c H locs cells slots Q (F0 m 2 ls []) := by
    intro n
    induction n with
    | zero => intro v1 v2 v3 H locs cells slots ls hP hD hS hl hc hf; exact absurd hf (by intro h9; cases h9)
    | succ n h2 =>
      intro v1 v2 v3 H locs cells slots ls hP hD hS hl hc hf
      have hf : g_Mo_firstPiece_2 F (f_Mo_firstPiece_2 F t_style n) t_style v1 v2 v3 = some u := hf
      generalize (f_Mo_firstPiece_2 F t_style n) = rec2 at hf h2
      unfold g_Mo_firstPiece_2 at hf
      refine lv_iload_n hx hb d_Mo_firstPiece_2 rfl (lv_at hl 3 rfl) ?_
      refine lv_iload_n hx hb d_Mo_firstPiece_3 rfl (lv_at hl 2 rfl) ?_
      refine lv_iconst (v := 1) hx hb d_Mo_firstPiece_4 (by decide) ?_
      refine lv_isub hx hb d_Mo_firstPiece_5 ?_
      refine lv_topi (fun x8 ex8 => ?_)
      have hf := letb_of hf ex8
      refine lv_icmp_ge (tgt := 23) hx hb d_Mo_firstPiece_6 (by decide) (fun c0 => ?_) (fun c0 => ?_)
      · have hf := ite_t c0 hf
        exact k_23 v1 v3 _ _ _ _ ls hP hD hS (lv_sub hl [1, 3] rfl) hc hf
      · have hf := ite_f c0 hf
        refine lv_aload_n hx hb d_Mo_firstPiece_9 rfl (lv_at hl 0 rfl) ?_
        refine lv_iload_n hx hb d_Mo_firstPiece_10 rfl (lv_at hl 3 rfl) ?_
        obtain ⟨u9, hu, hf⟩ := bd_of hf
        refine jn_i (wc := [(a_t, .inr (7, [.int t_thrown, .int t_style, .int t_bands, .ref o_t_wide, .ref o_t_high, .ref o_t_begins, .int t_size, .ref o_t_bytes, .ref o_t_came, .ref o_t_width, .ref o_t_brings, .ref o_t_first, .ref o_t_missing, .ref o_t_told, .int t_pieces, .ref o_t_owner, .ref o_t_length, .ref o_t_layers, .int t_over, .ref o_t_low, .ref o_t_known, .int t_writing, .int t_begin, .int t_end, .int t_room, .int t_wrong, .int t_count]))]) (wr := []) (va_runV (As := [.int v3]) (rest := []) ⟨hx, hb, hml, hown, hts⟩ (c_Mo_endsBehind l dC dI tI tB tL tZ a_t o_t_wide o_t_high o_t_begins o_t_bytes o_t_came o_t_width o_t_brings o_t_first o_t_missing o_t_told o_t_owner o_t_length o_t_layers o_t_low o_t_known H.size t_thrown t_style t_bands t_size t_pieces t_over t_writing t_begin t_end t_room t_wrong t_count v3 F u9 hu) (cv_of hts q_248 q_214 q_247 q_249 q_250 hd_Mo_endsBehind ⟨Nat.le_of_ble_eq_true rfl, Nat.le_of_ble_eq_true rfl⟩) (pr_V (ci := 7) (C := R_Mo) (q0 := 0) hK hN (hP.sub [0] rfl) (hD.sub [0] (by decide) rfl) rfl rfl) rfl rfl hl.1 rfl (lv_room (Nat.le_of_ble_eq_true rfl)) d_Mo_firstPiece_11 hc) hP hD hS hA [0] [] rfl rfl (by decide) (by decide) (fun r9 _ H locs hw hP hD hS => ?_)
        subst r9
        have hP : va_P (dC, dI) classes [(a_t, .inr (7, [.int t_thrown, .int t_style, .int t_bands, .ref o_t_wide, .ref o_t_high, .ref o_t_begins, .int t_size, .ref o_t_bytes, .ref o_t_came, .ref o_t_width, .ref o_t_brings, .ref o_t_first, .ref o_t_missing, .ref o_t_told, .int t_pieces, .ref o_t_owner, .ref o_t_length, .ref o_t_layers, .int t_over, .ref o_t_low, .ref o_t_known, .int t_writing, .int t_begin, .int t_end, .int t_room, .int t_wrong, .int t_count]))] H := hP
        have hD : va_D A [(a_t, .inr (7, [.int t_thrown, .int t_style, .int t_bands, .ref o_t_wide, .ref o_t_high, .ref o_t_begins, .int t_size, .ref o_t_bytes, .ref o_t_came, .ref o_t_width, .ref o_t_brings, .ref o_t_first, .ref o_t_missing, .ref o_t_told, .int t_pieces, .ref o_t_owner, .ref o_t_length, .ref o_t_layers, .int t_over, .ref o_t_low, .ref o_t_known, .int t_writing, .int t_begin, .int t_end, .int t_room, .int t_wrong, .int t_count]))] := hD
        refine lv_if_ne (tgt := 23) hx hb d_Mo_firstPiece_14 (by decide) (fun c0 => ?_) (fun c0 => ?_)
        · have hf := ite_f c0 hf
          exact k_23 v1 v3 _ _ _ _ ls hP hD hS (lv_sub hl [1, 3] rfl) hc hf
        · have hf := ite_t c0 hf
          obtain ⟨x10, ex10⟩ : ∃ y : Int32, y = v3 + 1 := ⟨_, rfl⟩
          have hf := letb_of hf ex10
          refine lv_iinc (v := x10) (lv' := [(3, .int x10), (0, .ref a_t), (1, .int v1), (2, .int v2)]) hx hb d_Mo_firstPiece_17 hl (k := 3) rfl (by rw [ex10]; rfl) (by decide) rfl (fun ls hl => ?_)
          refine lv_goto (tgt := 2) hx hb d_Mo_firstPiece_20 (by decide) ?_
          exact h2 v1 v2 x10 _ _ _ _ ls hP hD hS (lv_sub hl [1, 2, 3, 0] rfl) hc hf
  have hc : 0 ≤ 0 ∧ 0 ≤ 0 := ⟨Nat.le_refl 0, Nat.le_refl 0⟩
  unfold f_Mo_firstPiece at hf
  refine lv_iload_n hx hb d_Mo_firstPiece_0 rfl (lv_at hl 1 rfl) ?_
  refine lv_istore_n (lv' := [(3, .int p0), (0, .ref a_t), (1, .int p0), (2, .int p1)]) hx hb d_Mo_firstPiece_1 rfl hl (by decide) rfl (fun ls hl => ?_)
  exact k_2 F p0 p1 p0 _ _ _ _ ls hP hD hS (lv_sub hl [1, 2, 3, 0] rfl) hc hf
noncomputable def g_Mo_piecesOf_10 (F : Nat) (rec10 : Int32 → Int32 → Int32 → Int32 → Option (Int32)) (t_style : Int32) (t_came_N : Nat) (t_came_F : Nat → Int32) (v1 : Int32) (v2 : Int32) (v3 : Int32) (v4 : Int32) : Option (Int32) :=
asm (vp_in v1 t_came_N) (letb (t_came_F v1.toNatClampNeg) fun x9 =>
letb (x9 + v2) fun x10 =>
if x10 ≤ v3 then (
some v4) else (
asm (vp_in v1 t_came_N) (letb (t_came_F v1.toNatClampNeg) fun x11 =>
letb (x11 + v2) fun x12 =>
bd (f_Mo_firstPiece F t_style v3 x12) fun u13 =>
letb (v3 + u13) fun x14 =>
letb (v4 + 1) fun x15 =>
rec10 v1 v2 x14 x15)))
noncomputable def f_Mo_piecesOf_10 (F : Nat) (t_style : Int32) (t_came_N : Nat) (t_came_F : Nat → Int32) : Nat → Int32 → Int32 → Int32 → Int32 → Option (Int32)
  | 0 => fun _ _ _ _ => none
  | n + 1 => fun v1 v2 v3 v4 => g_Mo_piecesOf_10 F (f_Mo_piecesOf_10 F t_style t_came_N t_came_F n) t_style t_came_N t_came_F v1 v2 v3 v4
noncomputable def f_Mo_piecesOf (F : Nat) (t_style : Int32) (t_came_N : Nat) (t_came_F : Nat → Int32) (p0 : Int32) (p1 : Int32) : Option (Int32) :=
asm (vp_in p0 t_came_N) (letb (t_came_F p0.toNatClampNeg) fun x16 =>
f_Mo_piecesOf_10 F t_style t_came_N t_came_F F p0 p1 x16 0)
set_option maxHeartbeats 4000000 in
set_option maxRecDepth 100000 in
theorem c_Mo_piecesOf (l : Launch) (dC : Nat → ClassId) (dI : Nat → Nat → Nat) (tI tB tL tZ : ClassId) (a_t : Nat) (a_t_came : Nat) (o_t_wide : Nat) (o_t_high : Nat) (o_t_begins : Nat) (o_t_bytes : Nat) (o_t_width : Nat) (o_t_brings : Nat) (o_t_first : Nat) (o_t_missing : Nat) (o_t_told : Nat) (o_t_owner : Nat) (o_t_length : Nat) (o_t_layers : Nat) (o_t_low : Nat) (o_t_known : Nat) (sz : Nat) (t_thrown : Int32) (t_style : Int32) (t_bands : Int32) (t_size : Int32) (t_pieces : Int32) (t_over : Int32) (t_writing : Int32) (t_begin : Int32) (t_end : Int32) (t_room : Int32) (t_wrong : Int32) (t_count : Int32) (t_came_N : Nat) (t_came_F : Nat → Int32) (p0 : Int32) (p1 : Int32) (F : Nat) (u : Int32) (hf : f_Mo_piecesOf F t_style t_came_N t_came_F p0 p1 = some u) : CTi l y_Mo_piecesOf b_Mo_piecesOf 5 .int 2 44 (dC, dI) classes [(tI, .int), (tB, .byte), (tL, .long), (tZ, .boolean)] [.ref a_t, .int p0, .int p1] [(a_t, .inr (7, [.int t_thrown, .int t_style, .int t_bands, .ref o_t_wide, .ref o_t_high, .ref o_t_begins, .int t_size, .ref o_t_bytes, .ref a_t_came, .ref o_t_width, .ref o_t_brings, .ref o_t_first, .ref o_t_missing, .ref o_t_told, .int t_pieces, .ref o_t_owner, .ref o_t_length, .ref o_t_layers, .int t_over, .ref o_t_low, .ref o_t_known, .int t_writing, .int t_begin, .int t_end, .int t_room, .int t_wrong, .int t_count])), (a_t_came, .inl (tI, t_came_N, .inl t_came_F))] sz (fun q : Unit => [(a_t, .inr (7, [.int t_thrown, .int t_style, .int t_bands, .ref o_t_wide, .ref o_t_high, .ref o_t_begins, .int t_size, .ref o_t_bytes, .ref a_t_came, .ref o_t_width, .ref o_t_brings, .ref o_t_first, .ref o_t_missing, .ref o_t_told, .int t_pieces, .ref o_t_owner, .ref o_t_length, .ref o_t_layers, .int t_over, .ref o_t_low, .ref o_t_known, .int t_writing, .int t_begin, .int t_end, .int t_room, .int t_wrong, .int t_count])), (a_t_came, .inl (tI, t_came_N, .inl t_came_F))]) (u) 0 0 := by
  refine mk_i (by decide) (Nat.le_of_ble_eq_true rfl) ?_
  intro p e s m args below meth c ls A Q hx hb hml hts hown hin hK hN hP hD hA hl ret
  obtain ⟨H, hH⟩ : ∃ H : Heap, H = s.heap := ⟨_, rfl⟩
  have hS : va_S A s.heap H [] := by rw [hH]; exact va_S.rf
  rw [← hH] at hP ⊢
  have hl : lv_has ls 5 [(0, .ref a_t), (1, .int p0), (2, .int p1)] := hl
  have k_10 : ∀ n : Nat, ∀ (v1 : Int32) (v2 : Int32) (v3 : Int32) (v4 : Int32) (H : Heap) (locs : List Loc) (cells slots : Nat) (ls : Array Slot), va_P (dC, dI) classes [(a_t, .inr (7, [.int t_thrown, .int t_style, .int t_bands, .ref o_t_wide, .ref o_t_high, .ref o_t_begins, .int t_size, .ref o_t_bytes, .ref a_t_came, .ref o_t_width, .ref o_t_brings, .ref o_t_first, .ref o_t_missing, .ref o_t_told, .int t_pieces, .ref o_t_owner, .ref o_t_length, .ref o_t_layers, .int t_over, .ref o_t_low, .ref o_t_known, .int t_writing, .int t_begin, .int t_end, .int t_room, .int t_wrong, .int t_count])), (a_t_came, .inl (tI, t_came_N, .inl t_came_F))] H → va_D A [(a_t, .inr (7, [.int t_thrown, .int t_style, .int t_bands, .ref o_t_wide, .ref o_t_high, .ref o_t_begins, .int t_size, .ref o_t_bytes, .ref a_t_came, .ref o_t_width, .ref o_t_brings, .ref o_t_first, .ref o_t_missing, .ref o_t_told, .int t_pieces, .ref o_t_owner, .ref o_t_length, .ref o_t_layers, .int t_over, .ref o_t_low, .ref o_t_known, .int t_writing, .int t_begin, .int t_end, .int t_room, .int t_wrong, .int t_count])), (a_t_came, .inl (tI, t_came_N, .inl t_came_F))] → va_S A s.heap H locs → lv_has ls 5 [(0, .ref a_t), (1, .int v1), (2, .int v2), (3, .int v3), (4, .int v4)] → (cells ≤ 0 ∧ slots ≤ 0) → f_Mo_piecesOf_10 F t_style t_came_N t_came_F n v1 v2 v3 v4 = some u → W p l e ({ frames := 2, cells := 0, slots := 0, locals := 44 } : Room) s m args below meth c H locs cells slots Q (F0 m 10 ls []) := by
    intro n
    induction n with
    | zero => intro v1 v2 v3 v4 H locs cells slots ls hP hD hS hl hc hf; exact absurd hf (by intro h9; cases h9)
    | succ n h10 =>
      intro v1 v2 v3 v4 H locs cells slots ls hP hD hS hl hc hf
      have hf : g_Mo_piecesOf_10 F (f_Mo_piecesOf_10 F t_style t_came_N t_came_F n) t_style t_came_N t_came_F v1 v2 v3 v4 = some u := hf
      generalize (f_Mo_piecesOf_10 F t_style t_came_N t_came_F n) = rec10 at hf h10
      unfold g_Mo_piecesOf_10 at hf
      refine lv_iload_n hx hb d_Mo_piecesOf_10 rfl (lv_at hl 3 rfl) ?_
      refine lv_aload_n hx hb d_Mo_piecesOf_11 rfl (lv_at hl 0 rfl) ?_
      refine va_get (D := (dC, dI)) (ci := 7) (v := .ref a_t_came) (C := R_Mo) (T := F_Mo) (N := 27) hx hb hts i_Mo hown hK hP 0 rfl rfl 8 (by decide) (hts _ q_218) (fun _ h9 => h9) rfl d_Mo_piecesOf_12 ?_
      refine lv_iload_n hx hb d_Mo_piecesOf_15 rfl (lv_at hl 1 rfl) ?_
      obtain ⟨hin9, hf⟩ := asm_of hf
      refine va_iald hx hb hK hP 1 0 rfl rfl hin9 d_Mo_piecesOf_16 ?_
      refine lv_topi (fun x9 ex9 => ?_)
      have hf := letb_of hf ex9
      refine lv_iload_n hx hb d_Mo_piecesOf_17 rfl (lv_at hl 2 rfl) ?_
      refine lv_iadd hx hb d_Mo_piecesOf_18 ?_
      refine lv_topi (fun x10 ex10 => ?_)
      have hf := letb_of hf ex10
      refine lv_icmp_ge (tgt := 44) hx hb d_Mo_piecesOf_19 (by decide) (fun c0 => ?_) (fun c0 => ?_)
      · have hf := ite_t c0 hf
        refine lv_iload hx hb d_Mo_piecesOf_44 (lv_at hl 4 rfl) ?_
        have hf := Option.some.inj hf
        subst u
        exact ret _ _ _ _ _ _ () d_Mo_piecesOf_46 rfl hP hD hS hc.1 hc.2
      · have hf := ite_f c0 hf
        refine lv_iload_n hx hb d_Mo_piecesOf_22 rfl (lv_at hl 3 rfl) ?_
        refine lv_aload_n hx hb d_Mo_piecesOf_23 rfl (lv_at hl 0 rfl) ?_
        refine lv_iload_n hx hb d_Mo_piecesOf_24 rfl (lv_at hl 3 rfl) ?_
        refine lv_aload_n hx hb d_Mo_piecesOf_25 rfl (lv_at hl 0 rfl) ?_
        refine va_get (D := (dC, dI)) (ci := 7) (v := .ref a_t_came) (C := R_Mo) (T := F_Mo) (N := 27) hx hb hts i_Mo hown hK hP 0 rfl rfl 8 (by decide) (hts _ q_218) (fun _ h9 => h9) rfl d_Mo_piecesOf_26 ?_
        refine lv_iload_n hx hb d_Mo_piecesOf_29 rfl (lv_at hl 1 rfl) ?_
        obtain ⟨hin9, hf⟩ := asm_of hf
        refine va_iald hx hb hK hP 1 0 rfl rfl hin9 d_Mo_piecesOf_30 ?_
        refine lv_topi (fun x11 ex11 => ?_)
        have hf := letb_of hf ex11
        refine lv_iload_n hx hb d_Mo_piecesOf_31 rfl (lv_at hl 2 rfl) ?_
        refine lv_iadd hx hb d_Mo_piecesOf_32 ?_
        refine lv_topi (fun x12 ex12 => ?_)
        have hf := letb_of hf ex12
        obtain ⟨u13, hu, hf⟩ := bd_of hf
        refine jn_i (wc := [(a_t, .inr (7, [.int t_thrown, .int t_style, .int t_bands, .ref o_t_wide, .ref o_t_high, .ref o_t_begins, .int t_size, .ref o_t_bytes, .ref a_t_came, .ref o_t_width, .ref o_t_brings, .ref o_t_first, .ref o_t_missing, .ref o_t_told, .int t_pieces, .ref o_t_owner, .ref o_t_length, .ref o_t_layers, .int t_over, .ref o_t_low, .ref o_t_known, .int t_writing, .int t_begin, .int t_end, .int t_room, .int t_wrong, .int t_count]))]) (wr := [(a_t_came, .inl (tI, t_came_N, .inl t_came_F))]) (va_runV (As := [.int v3, .int x12]) (rest := [.int v3]) ⟨hx, hb, hml, hown, hts⟩ (c_Mo_firstPiece l dC dI tI tB tL tZ a_t o_t_wide o_t_high o_t_begins o_t_bytes a_t_came o_t_width o_t_brings o_t_first o_t_missing o_t_told o_t_owner o_t_length o_t_layers o_t_low o_t_known H.size t_thrown t_style t_bands t_size t_pieces t_over t_writing t_begin t_end t_room t_wrong t_count v3 x12 F u13 hu) (cv_of hts q_252 q_214 q_251 q_253 q_254 hd_Mo_firstPiece ⟨Nat.le_of_ble_eq_true rfl, Nat.le_of_ble_eq_true rfl⟩) (pr_V (ci := 7) (C := R_Mo) (q0 := 0) hK hN (hP.sub [0] rfl) (hD.sub [0] (by decide) rfl) rfl rfl) rfl rfl hl.1 rfl (lv_room (Nat.le_of_ble_eq_true rfl)) d_Mo_piecesOf_33 hc) hP hD hS hA [0] [1] rfl rfl (by decide) (by decide) (fun r9 _ H locs hw hP hD hS => ?_)
        subst r9
        have hP : va_P (dC, dI) classes [(a_t_came, .inl (tI, t_came_N, .inl t_came_F)), (a_t, .inr (7, [.int t_thrown, .int t_style, .int t_bands, .ref o_t_wide, .ref o_t_high, .ref o_t_begins, .int t_size, .ref o_t_bytes, .ref a_t_came, .ref o_t_width, .ref o_t_brings, .ref o_t_first, .ref o_t_missing, .ref o_t_told, .int t_pieces, .ref o_t_owner, .ref o_t_length, .ref o_t_layers, .int t_over, .ref o_t_low, .ref o_t_known, .int t_writing, .int t_begin, .int t_end, .int t_room, .int t_wrong, .int t_count]))] H := hP
        have hD : va_D A [(a_t_came, .inl (tI, t_came_N, .inl t_came_F)), (a_t, .inr (7, [.int t_thrown, .int t_style, .int t_bands, .ref o_t_wide, .ref o_t_high, .ref o_t_begins, .int t_size, .ref o_t_bytes, .ref a_t_came, .ref o_t_width, .ref o_t_brings, .ref o_t_first, .ref o_t_missing, .ref o_t_told, .int t_pieces, .ref o_t_owner, .ref o_t_length, .ref o_t_layers, .int t_over, .ref o_t_low, .ref o_t_known, .int t_writing, .int t_begin, .int t_end, .int t_room, .int t_wrong, .int t_count]))] := hD
        refine lv_iadd hx hb d_Mo_piecesOf_36 ?_
        refine lv_topi (fun x14 ex14 => ?_)
        have hf := letb_of hf ex14
        refine lv_istore_n (lv' := [(3, .int x14), (0, .ref a_t), (1, .int v1), (2, .int v2), (4, .int v4)]) hx hb d_Mo_piecesOf_37 rfl hl (by decide) rfl (fun ls hl => ?_)
        obtain ⟨x15, ex15⟩ : ∃ y : Int32, y = v4 + 1 := ⟨_, rfl⟩
        have hf := letb_of hf ex15
        refine lv_iinc (v := x15) (lv' := [(4, .int x15), (3, .int x14), (0, .ref a_t), (1, .int v1), (2, .int v2)]) hx hb d_Mo_piecesOf_38 hl (k := 4) rfl (by rw [ex15]; rfl) (by decide) rfl (fun ls hl => ?_)
        refine lv_goto (tgt := 10) hx hb d_Mo_piecesOf_41 (by decide) ?_
        exact h10 v1 v2 x14 x15 _ _ _ _ ls (hP.sub [1, 0] rfl) (hD.sub [1, 0] (by decide) rfl) hS (lv_sub hl [2, 3, 4, 1, 0] rfl) hc hf
  have hc : 0 ≤ 0 ∧ 0 ≤ 0 := ⟨Nat.le_refl 0, Nat.le_refl 0⟩
  unfold f_Mo_piecesOf at hf
  refine lv_aload_n hx hb d_Mo_piecesOf_0 rfl (lv_at hl 0 rfl) ?_
  refine va_get (D := (dC, dI)) (ci := 7) (v := .ref a_t_came) (C := R_Mo) (T := F_Mo) (N := 27) hx hb hts i_Mo hown hK hP 0 rfl rfl 8 (by decide) (hts _ q_218) (fun _ h9 => h9) rfl d_Mo_piecesOf_1 ?_
  refine lv_iload_n hx hb d_Mo_piecesOf_4 rfl (lv_at hl 1 rfl) ?_
  obtain ⟨hin9, hf⟩ := asm_of hf
  refine va_iald hx hb hK hP 1 0 rfl rfl hin9 d_Mo_piecesOf_5 ?_
  refine lv_topi (fun x16 ex16 => ?_)
  have hf := letb_of hf ex16
  refine lv_istore_n (lv' := [(3, .int x16), (0, .ref a_t), (1, .int p0), (2, .int p1)]) hx hb d_Mo_piecesOf_6 rfl hl (by decide) rfl (fun ls hl => ?_)
  refine lv_iconst (v := 0) hx hb d_Mo_piecesOf_7 (by decide) ?_
  refine lv_istore (lv' := [(4, .int 0), (3, .int x16), (0, .ref a_t), (1, .int p0), (2, .int p1)]) hx hb d_Mo_piecesOf_8 hl (by decide) rfl (fun ls hl => ?_)
  exact k_10 F p0 p1 x16 0 _ _ _ _ ls hP hD hS (lv_sub hl [2, 3, 4, 1, 0] rfl) hc hf
noncomputable def g_Mo_first_60 (F : Nat) (t_begins_N : Nat) (t_begins_F : Nat → Int32) (t_first_N : Nat) (t_missing_N : Nat) (t_first_F : Nat → Int32) (t_missing_F : Nat → Int32) (t_thrown : Int32) (v1 : Int32) (v2 : Int32) (v3 : Int32) (v4 : Int32) (s0 : Int32) (s1 : Int32) : Option (Int32 × (Nat → Int32) × (Nat → Int32)) :=
bd (f_Mo_throwing F t_thrown s1 s0 0) fun u10 =>
if u10.1 = 0 then (
asm (vp_in v1 t_begins_N) (letb (t_begins_F v1.toNatClampNeg) fun x11 =>
letb (x11 + v2) fun x12 =>
asm (vp_in x12 t_first_N) (asm (vp_in v1 t_begins_N) (letb (t_begins_F v1.toNatClampNeg) fun x13 =>
letb (x13 + v2) fun x14 =>
asm (vp_in x14 t_missing_N) (some (u10.2, (upd t_first_F x12.toNatClampNeg v3), (upd t_missing_F x14.toNatClampNeg v4))))))) else (
some (u10.2, t_first_F, t_missing_F))
noncomputable def g_Mo_first_59 (F : Nat) (t_begins_N : Nat) (t_begins_F : Nat → Int32) (t_first_N : Nat) (t_missing_N : Nat) (t_first_F : Nat → Int32) (t_missing_F : Nat → Int32) (t_thrown : Int32) (v1 : Int32) (v2 : Int32) (v3 : Int32) (v4 : Int32) (s0 : Int32) : Option (Int32 × (Nat → Int32) × (Nat → Int32)) :=
g_Mo_first_60 F t_begins_N t_begins_F t_first_N t_missing_N t_first_F t_missing_F t_thrown v1 v2 v3 v4 0 s0
noncomputable def g_Mo_first_36 (F : Nat) (t_layers_N : Nat) (t_layers_F : Nat → Int32) (t_begins_N : Nat) (t_begins_F : Nat → Int32) (t_first_N : Nat) (t_missing_N : Nat) (t_first_F : Nat → Int32) (t_missing_F : Nat → Int32) (t_thrown : Int32) (v1 : Int32) (v2 : Int32) (v3 : Int32) (v4 : Int32) (s0 : Int32) : Option (Int32 × (Nat → Int32) × (Nat → Int32)) :=
if s0 = 0 then (
asm (vp_in 0 t_layers_N) (letb (t_layers_F (0 : Int32).toNatClampNeg) fun x15 =>
if x15 ≤ 0 then (
g_Mo_first_59 F t_begins_N t_begins_F t_first_N t_missing_N t_first_F t_missing_F t_thrown v1 v2 v3 v4 s0) else (
g_Mo_first_60 F t_begins_N t_begins_F t_first_N t_missing_N t_first_F t_missing_F t_thrown v1 v2 v3 v4 1 s0))) else (
g_Mo_first_59 F t_begins_N t_begins_F t_first_N t_missing_N t_first_F t_missing_F t_thrown v1 v2 v3 v4 s0)
noncomputable def g_Mo_first_31 (F : Nat) (t_layers_N : Nat) (t_layers_F : Nat → Int32) (t_begins_N : Nat) (t_begins_F : Nat → Int32) (t_first_N : Nat) (t_missing_N : Nat) (t_first_F : Nat → Int32) (t_missing_F : Nat → Int32) (t_thrown : Int32) (v1 : Int32) (v2 : Int32) (v3 : Int32) (v4 : Int32) : Option (Int32 × (Nat → Int32) × (Nat → Int32)) :=
g_Mo_first_36 F t_layers_N t_layers_F t_begins_N t_begins_F t_first_N t_missing_N t_first_F t_missing_F t_thrown v1 v2 v3 v4 1
noncomputable def f_Mo_first (F : Nat) (t_thrown : Int32) (t_bands : Int32) (t_wide_N : Nat) (t_wide_F : Nat → Int32) (t_high_N : Nat) (t_high_F : Nat → Int32) (t_layers_N : Nat) (t_layers_F : Nat → Int32) (t_begins_N : Nat) (t_begins_F : Nat → Int32) (t_first_N : Nat) (t_first_F : Nat → Int32) (t_missing_N : Nat) (t_missing_F : Nat → Int32) (p0 : Int32) (p1 : Int32) (p2 : Int32) (p3 : Int32) : Option (Int32 × (Nat → Int32) × (Nat → Int32)) :=
bd (f_Mo_isBlock F t_bands t_wide_N t_wide_F t_high_N t_high_F p0 p1) fun u16 =>
if u16 = 0 then (
g_Mo_first_31 F t_layers_N t_layers_F t_begins_N t_begins_F t_first_N t_missing_N t_first_F t_missing_F t_thrown p0 p1 p2 p3) else (
bd (f_Mo_out F p2 (-1) 254) fun u17 =>
if u17 = 0 then (
bd (f_Mo_out F p3 0 73) fun u18 =>
if u18 = 0 then (
g_Mo_first_36 F t_layers_N t_layers_F t_begins_N t_begins_F t_first_N t_missing_N t_first_F t_missing_F t_thrown p0 p1 p2 p3 0) else (
g_Mo_first_31 F t_layers_N t_layers_F t_begins_N t_begins_F t_first_N t_missing_N t_first_F t_missing_F t_thrown p0 p1 p2 p3)) else (
g_Mo_first_31 F t_layers_N t_layers_F t_begins_N t_begins_F t_first_N t_missing_N t_first_F t_missing_F t_thrown p0 p1 p2 p3))
set_option maxHeartbeats 4000000 in
set_option maxRecDepth 100000 in
theorem c_Mo_first (l : Launch) (dC : Nat → ClassId) (dI : Nat → Nat → Nat) (tI tB tL tZ : ClassId) (a_t : Nat) (a_t_wide : Nat) (a_t_high : Nat) (a_t_layers : Nat) (a_t_begins : Nat) (a_t_first : Nat) (a_t_missing : Nat) (o_t_bytes : Nat) (o_t_came : Nat) (o_t_width : Nat) (o_t_brings : Nat) (o_t_told : Nat) (o_t_owner : Nat) (o_t_length : Nat) (o_t_low : Nat) (o_t_known : Nat) (sz : Nat) (t_thrown : Int32) (t_style : Int32) (t_bands : Int32) (t_size : Int32) (t_pieces : Int32) (t_over : Int32) (t_writing : Int32) (t_begin : Int32) (t_end : Int32) (t_room : Int32) (t_wrong : Int32) (t_count : Int32) (t_wide_N : Nat) (t_wide_F : Nat → Int32) (t_high_N : Nat) (t_high_F : Nat → Int32) (t_layers_N : Nat) (t_layers_F : Nat → Int32) (t_begins_N : Nat) (t_begins_F : Nat → Int32) (t_first_N : Nat) (t_first_F : Nat → Int32) (t_missing_N : Nat) (t_missing_F : Nat → Int32) (p0 : Int32) (p1 : Int32) (p2 : Int32) (p3 : Int32) (F : Nat) (u : Int32 × (Nat → Int32) × (Nat → Int32)) (hf : f_Mo_first F t_thrown t_bands t_wide_N t_wide_F t_high_N t_high_F t_layers_N t_layers_F t_begins_N t_begins_F t_first_N t_first_F t_missing_N t_missing_F p0 p1 p2 p3 = some u) : CTv l y_Mo_first b_Mo_first 6 2 44 (dC, dI) classes [(tI, .int), (tB, .byte), (tL, .long), (tZ, .boolean)] [.ref a_t, .int p0, .int p1, .int p2, .int p3] [(a_t, .inr (7, [.int t_thrown, .int t_style, .int t_bands, .ref a_t_wide, .ref a_t_high, .ref a_t_begins, .int t_size, .ref o_t_bytes, .ref o_t_came, .ref o_t_width, .ref o_t_brings, .ref a_t_first, .ref a_t_missing, .ref o_t_told, .int t_pieces, .ref o_t_owner, .ref o_t_length, .ref a_t_layers, .int t_over, .ref o_t_low, .ref o_t_known, .int t_writing, .int t_begin, .int t_end, .int t_room, .int t_wrong, .int t_count])), (a_t_wide, .inl (tI, t_wide_N, .inl t_wide_F)), (a_t_high, .inl (tI, t_high_N, .inl t_high_F)), (a_t_layers, .inl (tI, t_layers_N, .inl t_layers_F)), (a_t_begins, .inl (tI, t_begins_N, .inl t_begins_F)), (a_t_first, .inl (tI, t_first_N, .inl t_first_F)), (a_t_missing, .inl (tI, t_missing_N, .inl t_missing_F))] sz (fun q : Unit => [(a_t, .inr (7, [.int u.1, .int t_style, .int t_bands, .ref a_t_wide, .ref a_t_high, .ref a_t_begins, .int t_size, .ref o_t_bytes, .ref o_t_came, .ref o_t_width, .ref o_t_brings, .ref a_t_first, .ref a_t_missing, .ref o_t_told, .int t_pieces, .ref o_t_owner, .ref o_t_length, .ref a_t_layers, .int t_over, .ref o_t_low, .ref o_t_known, .int t_writing, .int t_begin, .int t_end, .int t_room, .int t_wrong, .int t_count])), (a_t_wide, .inl (tI, t_wide_N, .inl t_wide_F)), (a_t_high, .inl (tI, t_high_N, .inl t_high_F)), (a_t_layers, .inl (tI, t_layers_N, .inl t_layers_F)), (a_t_begins, .inl (tI, t_begins_N, .inl t_begins_F)), (a_t_first, .inl (tI, t_first_N, .inl u.2.1)), (a_t_missing, .inl (tI, t_missing_N, .inl u.2.2))]) 0 0 := by
  refine mk_v (by decide) (Nat.le_of_ble_eq_true rfl) ?_
  intro p e s m args below meth c ls A Q hx hb hml hts hown hin hK hN hP hD hA hl ret
  obtain ⟨H, hH⟩ : ∃ H : Heap, H = s.heap := ⟨_, rfl⟩
  have hS : va_S A s.heap H [] := by rw [hH]; exact va_S.rf
  rw [← hH] at hP ⊢
  have hl : lv_has ls 6 [(0, .ref a_t), (1, .int p0), (2, .int p1), (3, .int p2), (4, .int p3)] := hl
  have k_60 : ∀ (t_first_F : Nat → Int32) (t_missing_F : Nat → Int32) (t_thrown : Int32) (v1 : Int32) (v2 : Int32) (v3 : Int32) (v4 : Int32) (s0 : Int32) (s1 : Int32) (H : Heap) (locs : List Loc) (cells slots : Nat) (ls : Array Slot), va_P (dC, dI) classes [(a_t_layers, .inl (tI, t_layers_N, .inl t_layers_F)), (a_t_begins, .inl (tI, t_begins_N, .inl t_begins_F)), (a_t_first, .inl (tI, t_first_N, .inl t_first_F)), (a_t_missing, .inl (tI, t_missing_N, .inl t_missing_F)), (a_t, .inr (7, [.int t_thrown, .int t_style, .int t_bands, .ref a_t_wide, .ref a_t_high, .ref a_t_begins, .int t_size, .ref o_t_bytes, .ref o_t_came, .ref o_t_width, .ref o_t_brings, .ref a_t_first, .ref a_t_missing, .ref o_t_told, .int t_pieces, .ref o_t_owner, .ref o_t_length, .ref a_t_layers, .int t_over, .ref o_t_low, .ref o_t_known, .int t_writing, .int t_begin, .int t_end, .int t_room, .int t_wrong, .int t_count])), (a_t_wide, .inl (tI, t_wide_N, .inl t_wide_F)), (a_t_high, .inl (tI, t_high_N, .inl t_high_F))] H → va_D A [(a_t_layers, .inl (tI, t_layers_N, .inl t_layers_F)), (a_t_begins, .inl (tI, t_begins_N, .inl t_begins_F)), (a_t_first, .inl (tI, t_first_N, .inl t_first_F)), (a_t_missing, .inl (tI, t_missing_N, .inl t_missing_F)), (a_t, .inr (7, [.int t_thrown, .int t_style, .int t_bands, .ref a_t_wide, .ref a_t_high, .ref a_t_begins, .int t_size, .ref o_t_bytes, .ref o_t_came, .ref o_t_width, .ref o_t_brings, .ref a_t_first, .ref a_t_missing, .ref o_t_told, .int t_pieces, .ref o_t_owner, .ref o_t_length, .ref a_t_layers, .int t_over, .ref o_t_low, .ref o_t_known, .int t_writing, .int t_begin, .int t_end, .int t_room, .int t_wrong, .int t_count])), (a_t_wide, .inl (tI, t_wide_N, .inl t_wide_F)), (a_t_high, .inl (tI, t_high_N, .inl t_high_F))] → va_S A s.heap H locs → lv_has ls 6 [(0, .ref a_t), (1, .int v1), (2, .int v2), (3, .int v3), (4, .int v4)] → (cells ≤ 0 ∧ slots ≤ 0) → g_Mo_first_60 F t_begins_N t_begins_F t_first_N t_missing_N t_first_F t_missing_F t_thrown v1 v2 v3 v4 s0 s1 = some u → W p l e ({ frames := 2, cells := 0, slots := 0, locals := 44 } : Room) s m args below meth c H locs cells slots Q (F0 m 60 ls [.int s0, .int s1, .ref a_t]) := by
    intro t_first_F t_missing_F t_thrown v1 v2 v3 v4 s0 s1 H locs cells slots ls hP hD hS hl hc hf
    unfold g_Mo_first_60 at hf
    refine lv_iconst (v := 0) hx hb d_Mo_first_60 (by decide) ?_
    obtain ⟨u10, hu, hf⟩ := bd_of hf
    refine jn_i (wc := [(a_t, .inr (7, [.int t_thrown, .int t_style, .int t_bands, .ref a_t_wide, .ref a_t_high, .ref a_t_begins, .int t_size, .ref o_t_bytes, .ref o_t_came, .ref o_t_width, .ref o_t_brings, .ref a_t_first, .ref a_t_missing, .ref o_t_told, .int t_pieces, .ref o_t_owner, .ref o_t_length, .ref a_t_layers, .int t_over, .ref o_t_low, .ref o_t_known, .int t_writing, .int t_begin, .int t_end, .int t_room, .int t_wrong, .int t_count]))]) (wr := [(a_t_layers, .inl (tI, t_layers_N, .inl t_layers_F)), (a_t_begins, .inl (tI, t_begins_N, .inl t_begins_F)), (a_t_first, .inl (tI, t_first_N, .inl t_first_F)), (a_t_missing, .inl (tI, t_missing_N, .inl t_missing_F)), (a_t_wide, .inl (tI, t_wide_N, .inl t_wide_F)), (a_t_high, .inl (tI, t_high_N, .inl t_high_F))]) (va_runV (As := [.int s1, .int s0, .int 0]) (rest := []) ⟨hx, hb, hml, hown, hts⟩ (c_Mo_throwing l dC dI tI tB tL tZ a_t a_t_wide a_t_high a_t_begins o_t_bytes o_t_came o_t_width o_t_brings a_t_first a_t_missing o_t_told o_t_owner o_t_length a_t_layers o_t_low o_t_known H.size t_thrown t_style t_bands t_size t_pieces t_over t_writing t_begin t_end t_room t_wrong t_count s1 s0 0 F u10 hu) (cv_of hts q_238 q_214 q_237 q_239 q_240 hd_Mo_throwing ⟨Nat.le_of_ble_eq_true rfl, Nat.le_of_ble_eq_true rfl⟩) (pr_V (ci := 7) (C := R_Mo) (q0 := 0) hK hN (hP.sub [4] rfl) (hD.sub [4] (by decide) rfl) rfl rfl) rfl rfl hl.1 rfl (lv_room (Nat.le_of_ble_eq_true rfl)) d_Mo_first_61 hc) hP hD hS hA [4] [0, 1, 2, 3, 5, 6] rfl rfl (by decide) (by decide) (fun r9 _ H locs hw hP hD hS => ?_)
    subst r9
    have hP : va_P (dC, dI) classes [(a_t_layers, .inl (tI, t_layers_N, .inl t_layers_F)), (a_t_begins, .inl (tI, t_begins_N, .inl t_begins_F)), (a_t_first, .inl (tI, t_first_N, .inl t_first_F)), (a_t_missing, .inl (tI, t_missing_N, .inl t_missing_F)), (a_t_wide, .inl (tI, t_wide_N, .inl t_wide_F)), (a_t_high, .inl (tI, t_high_N, .inl t_high_F)), (a_t, .inr (7, [.int u10.2, .int t_style, .int t_bands, .ref a_t_wide, .ref a_t_high, .ref a_t_begins, .int t_size, .ref o_t_bytes, .ref o_t_came, .ref o_t_width, .ref o_t_brings, .ref a_t_first, .ref a_t_missing, .ref o_t_told, .int t_pieces, .ref o_t_owner, .ref o_t_length, .ref a_t_layers, .int t_over, .ref o_t_low, .ref o_t_known, .int t_writing, .int t_begin, .int t_end, .int t_room, .int t_wrong, .int t_count]))] H := hP
    have hD : va_D A [(a_t_layers, .inl (tI, t_layers_N, .inl t_layers_F)), (a_t_begins, .inl (tI, t_begins_N, .inl t_begins_F)), (a_t_first, .inl (tI, t_first_N, .inl t_first_F)), (a_t_missing, .inl (tI, t_missing_N, .inl t_missing_F)), (a_t_wide, .inl (tI, t_wide_N, .inl t_wide_F)), (a_t_high, .inl (tI, t_high_N, .inl t_high_F)), (a_t, .inr (7, [.int u10.2, .int t_style, .int t_bands, .ref a_t_wide, .ref a_t_high, .ref a_t_begins, .int t_size, .ref o_t_bytes, .ref o_t_came, .ref o_t_width, .ref o_t_brings, .ref a_t_first, .ref a_t_missing, .ref o_t_told, .int t_pieces, .ref o_t_owner, .ref o_t_length, .ref a_t_layers, .int t_over, .ref o_t_low, .ref o_t_known, .int t_writing, .int t_begin, .int t_end, .int t_room, .int t_wrong, .int t_count]))] := hD
    refine lv_if_eq (tgt := 68) hx hb d_Mo_first_64 (by decide) (fun c0 => ?_) (fun c0 => ?_)
    · have hf := ite_t c0 hf
      refine lv_aload_n hx hb d_Mo_first_68 rfl (lv_at hl 0 rfl) ?_
      refine va_get (D := (dC, dI)) (ci := 7) (v := .ref a_t_first) (C := R_Mo) (T := F_Mo) (N := 27) hx hb hts i_Mo hown hK hP 6 rfl rfl 11 (by decide) (hts _ q_221) (fun _ h9 => h9) rfl d_Mo_first_69 ?_
      refine lv_aload_n hx hb d_Mo_first_72 rfl (lv_at hl 0 rfl) ?_
      refine va_get (D := (dC, dI)) (ci := 7) (v := .ref a_t_begins) (C := R_Mo) (T := F_Mo) (N := 27) hx hb hts i_Mo hown hK hP 6 rfl rfl 5 (by decide) (hts _ q_226) (fun _ h9 => h9) rfl d_Mo_first_73 ?_
      refine lv_iload_n hx hb d_Mo_first_76 rfl (lv_at hl 1 rfl) ?_
      obtain ⟨hin9, hf⟩ := asm_of hf
      refine va_iald hx hb hK hP 1 0 rfl rfl hin9 d_Mo_first_77 ?_
      refine lv_topi (fun x11 ex11 => ?_)
      have hf := letb_of hf ex11
      refine lv_iload_n hx hb d_Mo_first_78 rfl (lv_at hl 2 rfl) ?_
      refine lv_iadd hx hb d_Mo_first_79 ?_
      refine lv_topi (fun x12 ex12 => ?_)
      have hf := letb_of hf ex12
      refine lv_iload_n hx hb d_Mo_first_80 rfl (lv_at hl 3 rfl) ?_
      obtain ⟨hin9, hf⟩ := asm_of hf
      refine va_iast hx hb hK hP hD hS 2 0 rfl rfl hin9 d_Mo_first_81 (fun H locs hP hD hS => ?_)
      have hP : va_P (dC, dI) classes [(a_t_layers, .inl (tI, t_layers_N, .inl t_layers_F)), (a_t_begins, .inl (tI, t_begins_N, .inl t_begins_F)), (a_t_first, .inl (tI, t_first_N, .inl (upd t_first_F x12.toNatClampNeg v3))), (a_t_missing, .inl (tI, t_missing_N, .inl t_missing_F)), (a_t_wide, .inl (tI, t_wide_N, .inl t_wide_F)), (a_t_high, .inl (tI, t_high_N, .inl t_high_F)), (a_t, .inr (7, [.int u10.2, .int t_style, .int t_bands, .ref a_t_wide, .ref a_t_high, .ref a_t_begins, .int t_size, .ref o_t_bytes, .ref o_t_came, .ref o_t_width, .ref o_t_brings, .ref a_t_first, .ref a_t_missing, .ref o_t_told, .int t_pieces, .ref o_t_owner, .ref o_t_length, .ref a_t_layers, .int t_over, .ref o_t_low, .ref o_t_known, .int t_writing, .int t_begin, .int t_end, .int t_room, .int t_wrong, .int t_count]))] H := hP
      have hD : va_D A [(a_t_layers, .inl (tI, t_layers_N, .inl t_layers_F)), (a_t_begins, .inl (tI, t_begins_N, .inl t_begins_F)), (a_t_first, .inl (tI, t_first_N, .inl (upd t_first_F x12.toNatClampNeg v3))), (a_t_missing, .inl (tI, t_missing_N, .inl t_missing_F)), (a_t_wide, .inl (tI, t_wide_N, .inl t_wide_F)), (a_t_high, .inl (tI, t_high_N, .inl t_high_F)), (a_t, .inr (7, [.int u10.2, .int t_style, .int t_bands, .ref a_t_wide, .ref a_t_high, .ref a_t_begins, .int t_size, .ref o_t_bytes, .ref o_t_came, .ref o_t_width, .ref o_t_brings, .ref a_t_first, .ref a_t_missing, .ref o_t_told, .int t_pieces, .ref o_t_owner, .ref o_t_length, .ref a_t_layers, .int t_over, .ref o_t_low, .ref o_t_known, .int t_writing, .int t_begin, .int t_end, .int t_room, .int t_wrong, .int t_count]))] := hD
      refine lv_aload_n hx hb d_Mo_first_82 rfl (lv_at hl 0 rfl) ?_
      refine va_get (D := (dC, dI)) (ci := 7) (v := .ref a_t_missing) (C := R_Mo) (T := F_Mo) (N := 27) hx hb hts i_Mo hown hK hP 6 rfl rfl 12 (by decide) (hts _ q_222) (fun _ h9 => h9) rfl d_Mo_first_83 ?_
      refine lv_aload_n hx hb d_Mo_first_86 rfl (lv_at hl 0 rfl) ?_
      refine va_get (D := (dC, dI)) (ci := 7) (v := .ref a_t_begins) (C := R_Mo) (T := F_Mo) (N := 27) hx hb hts i_Mo hown hK hP 6 rfl rfl 5 (by decide) (hts _ q_226) (fun _ h9 => h9) rfl d_Mo_first_87 ?_
      refine lv_iload_n hx hb d_Mo_first_90 rfl (lv_at hl 1 rfl) ?_
      obtain ⟨hin9, hf⟩ := asm_of hf
      refine va_iald hx hb hK hP 1 0 rfl rfl hin9 d_Mo_first_91 ?_
      refine lv_topi (fun x13 ex13 => ?_)
      have hf := letb_of hf ex13
      refine lv_iload_n hx hb d_Mo_first_92 rfl (lv_at hl 2 rfl) ?_
      refine lv_iadd hx hb d_Mo_first_93 ?_
      refine lv_topi (fun x14 ex14 => ?_)
      have hf := letb_of hf ex14
      refine lv_iload hx hb d_Mo_first_94 (lv_at hl 4 rfl) ?_
      obtain ⟨hin9, hf⟩ := asm_of hf
      refine va_iast hx hb hK hP hD hS 3 0 rfl rfl hin9 d_Mo_first_96 (fun H locs hP hD hS => ?_)
      have hP : va_P (dC, dI) classes [(a_t_layers, .inl (tI, t_layers_N, .inl t_layers_F)), (a_t_begins, .inl (tI, t_begins_N, .inl t_begins_F)), (a_t_first, .inl (tI, t_first_N, .inl (upd t_first_F x12.toNatClampNeg v3))), (a_t_missing, .inl (tI, t_missing_N, .inl (upd t_missing_F x14.toNatClampNeg v4))), (a_t_wide, .inl (tI, t_wide_N, .inl t_wide_F)), (a_t_high, .inl (tI, t_high_N, .inl t_high_F)), (a_t, .inr (7, [.int u10.2, .int t_style, .int t_bands, .ref a_t_wide, .ref a_t_high, .ref a_t_begins, .int t_size, .ref o_t_bytes, .ref o_t_came, .ref o_t_width, .ref o_t_brings, .ref a_t_first, .ref a_t_missing, .ref o_t_told, .int t_pieces, .ref o_t_owner, .ref o_t_length, .ref a_t_layers, .int t_over, .ref o_t_low, .ref o_t_known, .int t_writing, .int t_begin, .int t_end, .int t_room, .int t_wrong, .int t_count]))] H := hP
      have hD : va_D A [(a_t_layers, .inl (tI, t_layers_N, .inl t_layers_F)), (a_t_begins, .inl (tI, t_begins_N, .inl t_begins_F)), (a_t_first, .inl (tI, t_first_N, .inl (upd t_first_F x12.toNatClampNeg v3))), (a_t_missing, .inl (tI, t_missing_N, .inl (upd t_missing_F x14.toNatClampNeg v4))), (a_t_wide, .inl (tI, t_wide_N, .inl t_wide_F)), (a_t_high, .inl (tI, t_high_N, .inl t_high_F)), (a_t, .inr (7, [.int u10.2, .int t_style, .int t_bands, .ref a_t_wide, .ref a_t_high, .ref a_t_begins, .int t_size, .ref o_t_bytes, .ref o_t_came, .ref o_t_width, .ref o_t_brings, .ref a_t_first, .ref a_t_missing, .ref o_t_told, .int t_pieces, .ref o_t_owner, .ref o_t_length, .ref a_t_layers, .int t_over, .ref o_t_low, .ref o_t_known, .int t_writing, .int t_begin, .int t_end, .int t_room, .int t_wrong, .int t_count]))] := hD
      have hf := Option.some.inj hf
      subst u
      exact ret _ _ _ _ _ _ () d_Mo_first_97 (hP.sub [6, 4, 5, 0, 1, 2, 3] rfl) (hD.sub [6, 4, 5, 0, 1, 2, 3] (by decide) rfl) hS hc.1 hc.2
    · have hf := ite_f c0 hf
      have hf := Option.some.inj hf
      subst u
      exact ret _ _ _ _ _ _ () d_Mo_first_67 (hP.sub [6, 4, 5, 0, 1, 2, 3] rfl) (hD.sub [6, 4, 5, 0, 1, 2, 3] (by decide) rfl) hS hc.1 hc.2
  have k_59 : ∀ (t_first_F : Nat → Int32) (t_missing_F : Nat → Int32) (t_thrown : Int32) (v1 : Int32) (v2 : Int32) (v3 : Int32) (v4 : Int32) (s0 : Int32) (H : Heap) (locs : List Loc) (cells slots : Nat) (ls : Array Slot), va_P (dC, dI) classes [(a_t_layers, .inl (tI, t_layers_N, .inl t_layers_F)), (a_t_begins, .inl (tI, t_begins_N, .inl t_begins_F)), (a_t_first, .inl (tI, t_first_N, .inl t_first_F)), (a_t_missing, .inl (tI, t_missing_N, .inl t_missing_F)), (a_t, .inr (7, [.int t_thrown, .int t_style, .int t_bands, .ref a_t_wide, .ref a_t_high, .ref a_t_begins, .int t_size, .ref o_t_bytes, .ref o_t_came, .ref o_t_width, .ref o_t_brings, .ref a_t_first, .ref a_t_missing, .ref o_t_told, .int t_pieces, .ref o_t_owner, .ref o_t_length, .ref a_t_layers, .int t_over, .ref o_t_low, .ref o_t_known, .int t_writing, .int t_begin, .int t_end, .int t_room, .int t_wrong, .int t_count])), (a_t_wide, .inl (tI, t_wide_N, .inl t_wide_F)), (a_t_high, .inl (tI, t_high_N, .inl t_high_F))] H → va_D A [(a_t_layers, .inl (tI, t_layers_N, .inl t_layers_F)), (a_t_begins, .inl (tI, t_begins_N, .inl t_begins_F)), (a_t_first, .inl (tI, t_first_N, .inl t_first_F)), (a_t_missing, .inl (tI, t_missing_N, .inl t_missing_F)), (a_t, .inr (7, [.int t_thrown, .int t_style, .int t_bands, .ref a_t_wide, .ref a_t_high, .ref a_t_begins, .int t_size, .ref o_t_bytes, .ref o_t_came, .ref o_t_width, .ref o_t_brings, .ref a_t_first, .ref a_t_missing, .ref o_t_told, .int t_pieces, .ref o_t_owner, .ref o_t_length, .ref a_t_layers, .int t_over, .ref o_t_low, .ref o_t_known, .int t_writing, .int t_begin, .int t_end, .int t_room, .int t_wrong, .int t_count])), (a_t_wide, .inl (tI, t_wide_N, .inl t_wide_F)), (a_t_high, .inl (tI, t_high_N, .inl t_high_F))] → va_S A s.heap H locs → lv_has ls 6 [(0, .ref a_t), (1, .int v1), (2, .int v2), (3, .int v3), (4, .int v4)] → (cells ≤ 0 ∧ slots ≤ 0) → g_Mo_first_59 F t_begins_N t_begins_F t_first_N t_missing_N t_first_F t_missing_F t_thrown v1 v2 v3 v4 s0 = some u → W p l e ({ frames := 2, cells := 0, slots := 0, locals := 44 } : Room) s m args below meth c H locs cells slots Q (F0 m 59 ls [.int s0, .ref a_t]) := by
    intro t_first_F t_missing_F t_thrown v1 v2 v3 v4 s0 H locs cells slots ls hP hD hS hl hc hf
    unfold g_Mo_first_59 at hf
    refine lv_iconst (v := 0) hx hb d_Mo_first_59 (by decide) ?_
    exact k_60 t_first_F t_missing_F t_thrown v1 v2 v3 v4 0 s0 _ _ _ _ ls hP hD hS hl hc hf
  have k_36 : ∀ (t_first_F : Nat → Int32) (t_missing_F : Nat → Int32) (t_thrown : Int32) (v1 : Int32) (v2 : Int32) (v3 : Int32) (v4 : Int32) (s0 : Int32) (H : Heap) (locs : List Loc) (cells slots : Nat) (ls : Array Slot), va_P (dC, dI) classes [(a_t_layers, .inl (tI, t_layers_N, .inl t_layers_F)), (a_t_begins, .inl (tI, t_begins_N, .inl t_begins_F)), (a_t_first, .inl (tI, t_first_N, .inl t_first_F)), (a_t_missing, .inl (tI, t_missing_N, .inl t_missing_F)), (a_t, .inr (7, [.int t_thrown, .int t_style, .int t_bands, .ref a_t_wide, .ref a_t_high, .ref a_t_begins, .int t_size, .ref o_t_bytes, .ref o_t_came, .ref o_t_width, .ref o_t_brings, .ref a_t_first, .ref a_t_missing, .ref o_t_told, .int t_pieces, .ref o_t_owner, .ref o_t_length, .ref a_t_layers, .int t_over, .ref o_t_low, .ref o_t_known, .int t_writing, .int t_begin, .int t_end, .int t_room, .int t_wrong, .int t_count])), (a_t_wide, .inl (tI, t_wide_N, .inl t_wide_F)), (a_t_high, .inl (tI, t_high_N, .inl t_high_F))] H → va_D A [(a_t_layers, .inl (tI, t_layers_N, .inl t_layers_F)), (a_t_begins, .inl (tI, t_begins_N, .inl t_begins_F)), (a_t_first, .inl (tI, t_first_N, .inl t_first_F)), (a_t_missing, .inl (tI, t_missing_N, .inl t_missing_F)), (a_t, .inr (7, [.int t_thrown, .int t_style, .int t_bands, .ref a_t_wide, .ref a_t_high, .ref a_t_begins, .int t_size, .ref o_t_bytes, .ref o_t_came, .ref o_t_width, .ref o_t_brings, .ref a_t_first, .ref a_t_missing, .ref o_t_told, .int t_pieces, .ref o_t_owner, .ref o_t_length, .ref a_t_layers, .int t_over, .ref o_t_low, .ref o_t_known, .int t_writing, .int t_begin, .int t_end, .int t_room, .int t_wrong, .int t_count])), (a_t_wide, .inl (tI, t_wide_N, .inl t_wide_F)), (a_t_high, .inl (tI, t_high_N, .inl t_high_F))] → va_S A s.heap H locs → lv_has ls 6 [(0, .ref a_t), (1, .int v1), (2, .int v2), (3, .int v3), (4, .int v4)] → (cells ≤ 0 ∧ slots ≤ 0) → g_Mo_first_36 F t_layers_N t_layers_F t_begins_N t_begins_F t_first_N t_missing_N t_first_F t_missing_F t_thrown v1 v2 v3 v4 s0 = some u → W p l e ({ frames := 2, cells := 0, slots := 0, locals := 44 } : Room) s m args below meth c H locs cells slots Q (F0 m 36 ls [.int s0]) := by
    intro t_first_F t_missing_F t_thrown v1 v2 v3 v4 s0 H locs cells slots ls hP hD hS hl hc hf
    unfold g_Mo_first_36 at hf
    refine lv_istore (lv' := [(5, .int s0), (0, .ref a_t), (1, .int v1), (2, .int v2), (3, .int v3), (4, .int v4)]) hx hb d_Mo_first_36 hl (by decide) rfl (fun ls hl => ?_)
    refine lv_aload_n hx hb d_Mo_first_38 rfl (lv_at hl 1 rfl) ?_
    refine lv_iload hx hb d_Mo_first_39 (lv_at hl 0 rfl) ?_
    refine lv_iload hx hb d_Mo_first_41 (lv_at hl 0 rfl) ?_
    refine lv_if_ne (tgt := 59) hx hb d_Mo_first_43 (by decide) (fun c0 => ?_) (fun c0 => ?_)
    · have hf := ite_f c0 hf
      exact k_59 t_first_F t_missing_F t_thrown v1 v2 v3 v4 s0 _ _ _ _ ls hP hD hS (lv_sub hl [1, 2, 3, 4, 5] rfl) hc hf
    · have hf := ite_t c0 hf
      refine lv_aload_n hx hb d_Mo_first_46 rfl (lv_at hl 1 rfl) ?_
      refine va_get (D := (dC, dI)) (ci := 7) (v := .ref a_t_layers) (C := R_Mo) (T := F_Mo) (N := 27) hx hb hts i_Mo hown hK hP 4 rfl rfl 17 (by decide) (hts _ q_229) (fun _ h9 => h9) rfl d_Mo_first_47 ?_
      refine lv_iconst (v := 0) hx hb d_Mo_first_50 (by decide) ?_
      obtain ⟨hin9, hf⟩ := asm_of hf
      refine va_iald hx hb hK hP 0 0 rfl rfl hin9 d_Mo_first_51 ?_
      refine lv_topi (fun x15 ex15 => ?_)
      have hf := letb_of hf ex15
      refine lv_if_le (tgt := 59) hx hb d_Mo_first_52 (by decide) (fun c0 => ?_) (fun c0 => ?_)
      · have hf := ite_t c0 hf
        exact k_59 t_first_F t_missing_F t_thrown v1 v2 v3 v4 s0 _ _ _ _ ls hP hD hS (lv_sub hl [1, 2, 3, 4, 5] rfl) hc hf
      · have hf := ite_f c0 hf
        refine lv_iconst (v := 1) hx hb d_Mo_first_55 (by decide) ?_
        refine lv_goto (tgt := 60) hx hb d_Mo_first_56 (by decide) ?_
        exact k_60 t_first_F t_missing_F t_thrown v1 v2 v3 v4 1 s0 _ _ _ _ ls hP hD hS (lv_sub hl [1, 2, 3, 4, 5] rfl) hc hf
  have k_31 : ∀ (t_first_F : Nat → Int32) (t_missing_F : Nat → Int32) (t_thrown : Int32) (v1 : Int32) (v2 : Int32) (v3 : Int32) (v4 : Int32) (H : Heap) (locs : List Loc) (cells slots : Nat) (ls : Array Slot), va_P (dC, dI) classes [(a_t_layers, .inl (tI, t_layers_N, .inl t_layers_F)), (a_t_begins, .inl (tI, t_begins_N, .inl t_begins_F)), (a_t_first, .inl (tI, t_first_N, .inl t_first_F)), (a_t_missing, .inl (tI, t_missing_N, .inl t_missing_F)), (a_t, .inr (7, [.int t_thrown, .int t_style, .int t_bands, .ref a_t_wide, .ref a_t_high, .ref a_t_begins, .int t_size, .ref o_t_bytes, .ref o_t_came, .ref o_t_width, .ref o_t_brings, .ref a_t_first, .ref a_t_missing, .ref o_t_told, .int t_pieces, .ref o_t_owner, .ref o_t_length, .ref a_t_layers, .int t_over, .ref o_t_low, .ref o_t_known, .int t_writing, .int t_begin, .int t_end, .int t_room, .int t_wrong, .int t_count])), (a_t_wide, .inl (tI, t_wide_N, .inl t_wide_F)), (a_t_high, .inl (tI, t_high_N, .inl t_high_F))] H → va_D A [(a_t_layers, .inl (tI, t_layers_N, .inl t_layers_F)), (a_t_begins, .inl (tI, t_begins_N, .inl t_begins_F)), (a_t_first, .inl (tI, t_first_N, .inl t_first_F)), (a_t_missing, .inl (tI, t_missing_N, .inl t_missing_F)), (a_t, .inr (7, [.int t_thrown, .int t_style, .int t_bands, .ref a_t_wide, .ref a_t_high, .ref a_t_begins, .int t_size, .ref o_t_bytes, .ref o_t_came, .ref o_t_width, .ref o_t_brings, .ref a_t_first, .ref a_t_missing, .ref o_t_told, .int t_pieces, .ref o_t_owner, .ref o_t_length, .ref a_t_layers, .int t_over, .ref o_t_low, .ref o_t_known, .int t_writing, .int t_begin, .int t_end, .int t_room, .int t_wrong, .int t_count])), (a_t_wide, .inl (tI, t_wide_N, .inl t_wide_F)), (a_t_high, .inl (tI, t_high_N, .inl t_high_F))] → va_S A s.heap H locs → lv_has ls 6 [(0, .ref a_t), (1, .int v1), (2, .int v2), (3, .int v3), (4, .int v4)] → (cells ≤ 0 ∧ slots ≤ 0) → g_Mo_first_31 F t_layers_N t_layers_F t_begins_N t_begins_F t_first_N t_missing_N t_first_F t_missing_F t_thrown v1 v2 v3 v4 = some u → W p l e ({ frames := 2, cells := 0, slots := 0, locals := 44 } : Room) s m args below meth c H locs cells slots Q (F0 m 31 ls []) := by
    intro t_first_F t_missing_F t_thrown v1 v2 v3 v4 H locs cells slots ls hP hD hS hl hc hf
    unfold g_Mo_first_31 at hf
    refine lv_iconst (v := 1) hx hb d_Mo_first_31 (by decide) ?_
    refine lv_goto (tgt := 36) hx hb d_Mo_first_32 (by decide) ?_
    exact k_36 t_first_F t_missing_F t_thrown v1 v2 v3 v4 1 _ _ _ _ ls hP hD hS hl hc hf
  have hc : 0 ≤ 0 ∧ 0 ≤ 0 := ⟨Nat.le_refl 0, Nat.le_refl 0⟩
  unfold f_Mo_first at hf
  refine lv_aload_n hx hb d_Mo_first_0 rfl (lv_at hl 0 rfl) ?_
  refine lv_iload_n hx hb d_Mo_first_1 rfl (lv_at hl 1 rfl) ?_
  refine lv_iload_n hx hb d_Mo_first_2 rfl (lv_at hl 2 rfl) ?_
  obtain ⟨u16, hu, hf⟩ := bd_of hf
  refine jn_i (wc := [(a_t, .inr (7, [.int t_thrown, .int t_style, .int t_bands, .ref a_t_wide, .ref a_t_high, .ref a_t_begins, .int t_size, .ref o_t_bytes, .ref o_t_came, .ref o_t_width, .ref o_t_brings, .ref a_t_first, .ref a_t_missing, .ref o_t_told, .int t_pieces, .ref o_t_owner, .ref o_t_length, .ref a_t_layers, .int t_over, .ref o_t_low, .ref o_t_known, .int t_writing, .int t_begin, .int t_end, .int t_room, .int t_wrong, .int t_count])), (a_t_wide, .inl (tI, t_wide_N, .inl t_wide_F)), (a_t_high, .inl (tI, t_high_N, .inl t_high_F))]) (wr := [(a_t_layers, .inl (tI, t_layers_N, .inl t_layers_F)), (a_t_begins, .inl (tI, t_begins_N, .inl t_begins_F)), (a_t_first, .inl (tI, t_first_N, .inl t_first_F)), (a_t_missing, .inl (tI, t_missing_N, .inl t_missing_F))]) (va_runV (As := [.int p0, .int p1]) (rest := []) ⟨hx, hb, hml, hown, hts⟩ (c_Mo_isBlock l dC dI tI tB tL tZ a_t a_t_wide a_t_high a_t_begins o_t_bytes o_t_came o_t_width o_t_brings a_t_first a_t_missing o_t_told o_t_owner o_t_length a_t_layers o_t_low o_t_known H.size t_thrown t_style t_bands t_size t_pieces t_over t_writing t_begin t_end t_room t_wrong t_count t_wide_N t_wide_F t_high_N t_high_F p0 p1 F u16 hu) (cv_of hts q_256 q_214 q_255 q_257 q_258 hd_Mo_isBlock ⟨Nat.le_of_ble_eq_true rfl, Nat.le_of_ble_eq_true rfl⟩) (pr_V (ci := 7) (C := R_Mo) (q0 := 0) hK hN (hP.sub [0, 1, 2] rfl) (hD.sub [0, 1, 2] (by decide) rfl) rfl rfl) rfl rfl hl.1 rfl (lv_room (Nat.le_of_ble_eq_true rfl)) d_Mo_first_3 hc) hP hD hS hA [0, 1, 2] [3, 4, 5, 6] rfl rfl (by decide) (by decide) (fun r9 _ H locs hw hP hD hS => ?_)
  subst r9
  have hP : va_P (dC, dI) classes [(a_t_layers, .inl (tI, t_layers_N, .inl t_layers_F)), (a_t_begins, .inl (tI, t_begins_N, .inl t_begins_F)), (a_t_first, .inl (tI, t_first_N, .inl t_first_F)), (a_t_missing, .inl (tI, t_missing_N, .inl t_missing_F)), (a_t, .inr (7, [.int t_thrown, .int t_style, .int t_bands, .ref a_t_wide, .ref a_t_high, .ref a_t_begins, .int t_size, .ref o_t_bytes, .ref o_t_came, .ref o_t_width, .ref o_t_brings, .ref a_t_first, .ref a_t_missing, .ref o_t_told, .int t_pieces, .ref o_t_owner, .ref o_t_length, .ref a_t_layers, .int t_over, .ref o_t_low, .ref o_t_known, .int t_writing, .int t_begin, .int t_end, .int t_room, .int t_wrong, .int t_count])), (a_t_wide, .inl (tI, t_wide_N, .inl t_wide_F)), (a_t_high, .inl (tI, t_high_N, .inl t_high_F))] H := hP
  have hD : va_D A [(a_t_layers, .inl (tI, t_layers_N, .inl t_layers_F)), (a_t_begins, .inl (tI, t_begins_N, .inl t_begins_F)), (a_t_first, .inl (tI, t_first_N, .inl t_first_F)), (a_t_missing, .inl (tI, t_missing_N, .inl t_missing_F)), (a_t, .inr (7, [.int t_thrown, .int t_style, .int t_bands, .ref a_t_wide, .ref a_t_high, .ref a_t_begins, .int t_size, .ref o_t_bytes, .ref o_t_came, .ref o_t_width, .ref o_t_brings, .ref a_t_first, .ref a_t_missing, .ref o_t_told, .int t_pieces, .ref o_t_owner, .ref o_t_length, .ref a_t_layers, .int t_over, .ref o_t_low, .ref o_t_known, .int t_writing, .int t_begin, .int t_end, .int t_room, .int t_wrong, .int t_count])), (a_t_wide, .inl (tI, t_wide_N, .inl t_wide_F)), (a_t_high, .inl (tI, t_high_N, .inl t_high_F))] := hD
  refine lv_if_eq (tgt := 31) hx hb d_Mo_first_6 (by decide) (fun c0 => ?_) (fun c0 => ?_)
  · have hf := ite_t c0 hf
    exact k_31 t_first_F t_missing_F t_thrown p0 p1 p2 p3 _ _ _ _ ls hP hD hS hl hc hf
  · have hf := ite_f c0 hf
    refine lv_iload_n hx hb d_Mo_first_9 rfl (lv_at hl 3 rfl) ?_
    refine lv_iconst (v := (-1)) hx hb d_Mo_first_10 (by decide) ?_
    refine lv_sipush (v := 254) hx hb d_Mo_first_11 (by decide) ?_
    obtain ⟨u17, hu, hf⟩ := bd_of hf
    refine jn_i (wc := []) (wr := [(a_t_layers, .inl (tI, t_layers_N, .inl t_layers_F)), (a_t_begins, .inl (tI, t_begins_N, .inl t_begins_F)), (a_t_first, .inl (tI, t_first_N, .inl t_first_F)), (a_t_missing, .inl (tI, t_missing_N, .inl t_missing_F)), (a_t, .inr (7, [.int t_thrown, .int t_style, .int t_bands, .ref a_t_wide, .ref a_t_high, .ref a_t_begins, .int t_size, .ref o_t_bytes, .ref o_t_came, .ref o_t_width, .ref o_t_brings, .ref a_t_first, .ref a_t_missing, .ref o_t_told, .int t_pieces, .ref o_t_owner, .ref o_t_length, .ref a_t_layers, .int t_over, .ref o_t_low, .ref o_t_known, .int t_writing, .int t_begin, .int t_end, .int t_room, .int t_wrong, .int t_count])), (a_t_wide, .inl (tI, t_wide_N, .inl t_wide_F)), (a_t_high, .inl (tI, t_high_N, .inl t_high_F))]) (va_runS (As := [.int p2, .int (-1), .int 254]) (rest := []) ⟨hx, hb, hml, hown, hts⟩ (c_Mo_out l dC dI tI tB tL tZ H.size p2 (-1) 254 F u17 hu) (cs_of hts q_245 q_214 q_244 q_246 hd_Mo_out ⟨Nat.le_of_ble_eq_true rfl, Nat.le_of_ble_eq_true rfl⟩) (pr_S hK hN (hP.sub [] rfl) (hD.sub [] (by decide) rfl)) rfl rfl hl.1 rfl (lv_room (Nat.le_of_ble_eq_true rfl)) d_Mo_first_14 hc) hP hD hS hA [] [0, 1, 2, 3, 4, 5, 6] rfl rfl (by decide) (by decide) (fun r9 _ H locs hw hP hD hS => ?_)
    subst r9
    have hP : va_P (dC, dI) classes [(a_t_layers, .inl (tI, t_layers_N, .inl t_layers_F)), (a_t_begins, .inl (tI, t_begins_N, .inl t_begins_F)), (a_t_first, .inl (tI, t_first_N, .inl t_first_F)), (a_t_missing, .inl (tI, t_missing_N, .inl t_missing_F)), (a_t, .inr (7, [.int t_thrown, .int t_style, .int t_bands, .ref a_t_wide, .ref a_t_high, .ref a_t_begins, .int t_size, .ref o_t_bytes, .ref o_t_came, .ref o_t_width, .ref o_t_brings, .ref a_t_first, .ref a_t_missing, .ref o_t_told, .int t_pieces, .ref o_t_owner, .ref o_t_length, .ref a_t_layers, .int t_over, .ref o_t_low, .ref o_t_known, .int t_writing, .int t_begin, .int t_end, .int t_room, .int t_wrong, .int t_count])), (a_t_wide, .inl (tI, t_wide_N, .inl t_wide_F)), (a_t_high, .inl (tI, t_high_N, .inl t_high_F))] H := hP
    have hD : va_D A [(a_t_layers, .inl (tI, t_layers_N, .inl t_layers_F)), (a_t_begins, .inl (tI, t_begins_N, .inl t_begins_F)), (a_t_first, .inl (tI, t_first_N, .inl t_first_F)), (a_t_missing, .inl (tI, t_missing_N, .inl t_missing_F)), (a_t, .inr (7, [.int t_thrown, .int t_style, .int t_bands, .ref a_t_wide, .ref a_t_high, .ref a_t_begins, .int t_size, .ref o_t_bytes, .ref o_t_came, .ref o_t_width, .ref o_t_brings, .ref a_t_first, .ref a_t_missing, .ref o_t_told, .int t_pieces, .ref o_t_owner, .ref o_t_length, .ref a_t_layers, .int t_over, .ref o_t_low, .ref o_t_known, .int t_writing, .int t_begin, .int t_end, .int t_room, .int t_wrong, .int t_count])), (a_t_wide, .inl (tI, t_wide_N, .inl t_wide_F)), (a_t_high, .inl (tI, t_high_N, .inl t_high_F))] := hD
    refine lv_if_ne (tgt := 31) hx hb d_Mo_first_17 (by decide) (fun c0 => ?_) (fun c0 => ?_)
    · have hf := ite_f c0 hf
      exact k_31 t_first_F t_missing_F t_thrown p0 p1 p2 p3 _ _ _ _ ls hP hD hS hl hc hf
    · have hf := ite_t c0 hf
      refine lv_iload hx hb d_Mo_first_20 (lv_at hl 4 rfl) ?_
      refine lv_iconst (v := 0) hx hb d_Mo_first_22 (by decide) ?_
      refine lv_bipush (v := 73) hx hb d_Mo_first_23 (by decide) ?_
      obtain ⟨u18, hu, hf⟩ := bd_of hf
      refine jn_i (wc := []) (wr := [(a_t_layers, .inl (tI, t_layers_N, .inl t_layers_F)), (a_t_begins, .inl (tI, t_begins_N, .inl t_begins_F)), (a_t_first, .inl (tI, t_first_N, .inl t_first_F)), (a_t_missing, .inl (tI, t_missing_N, .inl t_missing_F)), (a_t, .inr (7, [.int t_thrown, .int t_style, .int t_bands, .ref a_t_wide, .ref a_t_high, .ref a_t_begins, .int t_size, .ref o_t_bytes, .ref o_t_came, .ref o_t_width, .ref o_t_brings, .ref a_t_first, .ref a_t_missing, .ref o_t_told, .int t_pieces, .ref o_t_owner, .ref o_t_length, .ref a_t_layers, .int t_over, .ref o_t_low, .ref o_t_known, .int t_writing, .int t_begin, .int t_end, .int t_room, .int t_wrong, .int t_count])), (a_t_wide, .inl (tI, t_wide_N, .inl t_wide_F)), (a_t_high, .inl (tI, t_high_N, .inl t_high_F))]) (va_runS (As := [.int p3, .int 0, .int 73]) (rest := []) ⟨hx, hb, hml, hown, hts⟩ (c_Mo_out l dC dI tI tB tL tZ H.size p3 0 73 F u18 hu) (cs_of hts q_245 q_214 q_244 q_246 hd_Mo_out ⟨Nat.le_of_ble_eq_true rfl, Nat.le_of_ble_eq_true rfl⟩) (pr_S hK hN (hP.sub [] rfl) (hD.sub [] (by decide) rfl)) rfl rfl hl.1 rfl (lv_room (Nat.le_of_ble_eq_true rfl)) d_Mo_first_25 hc) hP hD hS hA [] [0, 1, 2, 3, 4, 5, 6] rfl rfl (by decide) (by decide) (fun r9 _ H locs hw hP hD hS => ?_)
      subst r9
      have hP : va_P (dC, dI) classes [(a_t_layers, .inl (tI, t_layers_N, .inl t_layers_F)), (a_t_begins, .inl (tI, t_begins_N, .inl t_begins_F)), (a_t_first, .inl (tI, t_first_N, .inl t_first_F)), (a_t_missing, .inl (tI, t_missing_N, .inl t_missing_F)), (a_t, .inr (7, [.int t_thrown, .int t_style, .int t_bands, .ref a_t_wide, .ref a_t_high, .ref a_t_begins, .int t_size, .ref o_t_bytes, .ref o_t_came, .ref o_t_width, .ref o_t_brings, .ref a_t_first, .ref a_t_missing, .ref o_t_told, .int t_pieces, .ref o_t_owner, .ref o_t_length, .ref a_t_layers, .int t_over, .ref o_t_low, .ref o_t_known, .int t_writing, .int t_begin, .int t_end, .int t_room, .int t_wrong, .int t_count])), (a_t_wide, .inl (tI, t_wide_N, .inl t_wide_F)), (a_t_high, .inl (tI, t_high_N, .inl t_high_F))] H := hP
      have hD : va_D A [(a_t_layers, .inl (tI, t_layers_N, .inl t_layers_F)), (a_t_begins, .inl (tI, t_begins_N, .inl t_begins_F)), (a_t_first, .inl (tI, t_first_N, .inl t_first_F)), (a_t_missing, .inl (tI, t_missing_N, .inl t_missing_F)), (a_t, .inr (7, [.int t_thrown, .int t_style, .int t_bands, .ref a_t_wide, .ref a_t_high, .ref a_t_begins, .int t_size, .ref o_t_bytes, .ref o_t_came, .ref o_t_width, .ref o_t_brings, .ref a_t_first, .ref a_t_missing, .ref o_t_told, .int t_pieces, .ref o_t_owner, .ref o_t_length, .ref a_t_layers, .int t_over, .ref o_t_low, .ref o_t_known, .int t_writing, .int t_begin, .int t_end, .int t_room, .int t_wrong, .int t_count])), (a_t_wide, .inl (tI, t_wide_N, .inl t_wide_F)), (a_t_high, .inl (tI, t_high_N, .inl t_high_F))] := hD
      refine lv_if_eq (tgt := 35) hx hb d_Mo_first_28 (by decide) (fun c0 => ?_) (fun c0 => ?_)
      · have hf := ite_t c0 hf
        refine lv_iconst (v := 0) hx hb d_Mo_first_35 (by decide) ?_
        exact k_36 t_first_F t_missing_F t_thrown p0 p1 p2 p3 0 _ _ _ _ ls hP hD hS hl hc hf
      · have hf := ite_f c0 hf
        exact k_31 t_first_F t_missing_F t_thrown p0 p1 p2 p3 _ _ _ _ ls hP hD hS hl hc hf
noncomputable def g_Mo_bring_152 (F : Nat) (t_style : Int32) (t_came_N : Nat) (t_came_F : Nat → Int32) (t_brings_N : Nat) (t_owner_N : Nat) (t_length_N : Nat) (t_told_N : Nat) (t_brings_F : Nat → Int32) (t_owner_F : Nat → Int32) (t_length_F : Nat → Int32) (t_told_F : Nat → Int32) (t_thrown : Int32) (t_pieces : Int32) (v3 : Int32) (v5 : Int32) (s0 : Int32) : Option (Int32 × Int32 × Int32 × (Nat → Int32) × (Nat → Int32) × (Nat → Int32) × (Nat → Int32)) :=
bd (f_Mo_throwing F t_thrown s0 0 0) fun u16 =>
if u16.1 = 0 then (
asm (vp_in v5 t_brings_N) (letb (v5 + 1) fun x17 =>
bd (f_Mo_forget F t_pieces t_owner_N t_owner_F t_length_N t_length_F t_told_N t_told_F v5 x17) fun u18 =>
bd (f_Mo_piecesOf F t_style t_came_N t_came_F v5 v3) fun u19 =>
some (u19, u16.2, u18.1, (upd t_brings_F v5.toNatClampNeg v3), u18.2.1, u18.2.2.1, u18.2.2.2))) else (
some (0, u16.2, t_pieces, t_brings_F, t_owner_F, t_length_F, t_told_F))
noncomputable def g_Mo_bring_147 (F : Nat) (t_style : Int32) (t_came_N : Nat) (t_came_F : Nat → Int32) (t_brings_N : Nat) (t_owner_N : Nat) (t_length_N : Nat) (t_told_N : Nat) (t_brings_F : Nat → Int32) (t_owner_F : Nat → Int32) (t_length_F : Nat → Int32) (t_told_F : Nat → Int32) (t_thrown : Int32) (t_pieces : Int32) (v3 : Int32) (v5 : Int32) : Option (Int32 × Int32 × Int32 × (Nat → Int32) × (Nat → Int32) × (Nat → Int32) × (Nat → Int32)) :=
g_Mo_bring_152 F t_style t_came_N t_came_F t_brings_N t_owner_N t_length_N t_told_N t_brings_F t_owner_F t_length_F t_told_F t_thrown t_pieces v3 v5 1
noncomputable def g_Mo_bring_133 (F : Nat) (t_style : Int32) (t_came_N : Nat) (t_came_F : Nat → Int32) (t_brings_N : Nat) (t_owner_N : Nat) (t_length_N : Nat) (t_told_N : Nat) (t_brings_F : Nat → Int32) (t_owner_F : Nat → Int32) (t_length_F : Nat → Int32) (t_told_F : Nat → Int32) (t_thrown : Int32) (t_pieces : Int32) (v3 : Int32) (v4 : Int32) (v5 : Int32) (v6 : Int32) : Option (Int32 × Int32 × Int32 × (Nat → Int32) × (Nat → Int32) × (Nat → Int32) × (Nat → Int32)) :=
if v4 = 0 then (
if v6 ≤ 4096 then (
g_Mo_bring_152 F t_style t_came_N t_came_F t_brings_N t_owner_N t_length_N t_told_N t_brings_F t_owner_F t_length_F t_told_F t_thrown t_pieces v3 v5 0) else (
g_Mo_bring_147 F t_style t_came_N t_came_F t_brings_N t_owner_N t_length_N t_told_N t_brings_F t_owner_F t_length_F t_told_F t_thrown t_pieces v3 v5)) else (
g_Mo_bring_147 F t_style t_came_N t_came_F t_brings_N t_owner_N t_length_N t_told_N t_brings_F t_owner_F t_length_F t_told_F t_thrown t_pieces v3 v5)
noncomputable def g_Mo_bring_121 (F : Nat) (rec79 : (Nat → Int32) → (Nat → Int32) → (Nat → Int32) → (Nat → Int32) → Int32 → Int32 → Int32 → Int32 → Int32 → Int32 → Int32 → Option (Int32 × Int32 × Int32 × (Nat → Int32) × (Nat → Int32) × (Nat → Int32) × (Nat → Int32))) (t_style : Int32) (t_came_N : Nat) (t_came_F : Nat → Int32) (t_brings_F : Nat → Int32) (t_owner_F : Nat → Int32) (t_length_F : Nat → Int32) (t_told_F : Nat → Int32) (t_thrown : Int32) (t_pieces : Int32) (v3 : Int32) (v4 : Int32) (v5 : Int32) (v7 : Int32) (s0 : Int32) (s1 : Int32) (s3 : Int32) : Option (Int32 × Int32 × Int32 × (Nat → Int32) × (Nat → Int32) × (Nat → Int32) × (Nat → Int32)) :=
bd (f_Mo_piecesOf F t_style t_came_N t_came_F s1 s0) fun u20 =>
letb (s3 + u20) fun x21 =>
letb (v7 + 1) fun x22 =>
rec79 t_brings_F t_owner_F t_length_F t_told_F t_thrown t_pieces v3 v4 v5 x21 x22
noncomputable def g_Mo_bring_79 (F : Nat) (rec79 : (Nat → Int32) → (Nat → Int32) → (Nat → Int32) → (Nat → Int32) → Int32 → Int32 → Int32 → Int32 → Int32 → Int32 → Int32 → Option (Int32 × Int32 × Int32 × (Nat → Int32) × (Nat → Int32) × (Nat → Int32) × (Nat → Int32))) (t_style : Int32) (t_bands : Int32) (t_begins_N : Nat) (t_begins_F : Nat → Int32) (t_came_N : Nat) (t_came_F : Nat → Int32) (t_brings_N : Nat) (t_owner_N : Nat) (t_length_N : Nat) (t_told_N : Nat) (t_brings_F : Nat → Int32) (t_owner_F : Nat → Int32) (t_length_F : Nat → Int32) (t_told_F : Nat → Int32) (t_thrown : Int32) (t_pieces : Int32) (v3 : Int32) (v4 : Int32) (v5 : Int32) (v6 : Int32) (v7 : Int32) : Option (Int32 × Int32 × Int32 × (Nat → Int32) × (Nat → Int32) × (Nat → Int32) × (Nat → Int32)) :=
asm (vp_in t_bands t_begins_N) (letb (t_begins_F t_bands.toNatClampNeg) fun x23 =>
if x23 ≤ v7 then (
g_Mo_bring_133 F t_style t_came_N t_came_F t_brings_N t_owner_N t_length_N t_told_N t_brings_F t_owner_F t_length_F t_told_F t_thrown t_pieces v3 v4 v5 v6) else (
if v4 = 0 then (
if v7 = v5 then (
g_Mo_bring_121 F rec79 t_style t_came_N t_came_F t_brings_F t_owner_F t_length_F t_told_F t_thrown t_pieces v3 v4 v5 v7 v3 v7 v6) else (
asm (vp_in v7 t_brings_N) (letb (t_brings_F v7.toNatClampNeg) fun x24 =>
g_Mo_bring_121 F rec79 t_style t_came_N t_came_F t_brings_F t_owner_F t_length_F t_told_F t_thrown t_pieces v3 v4 v5 v7 x24 v7 v6))) else (
g_Mo_bring_133 F t_style t_came_N t_came_F t_brings_N t_owner_N t_length_N t_told_N t_brings_F t_owner_F t_length_F t_told_F t_thrown t_pieces v3 v4 v5 v6)))
noncomputable def f_Mo_bring_79 (F : Nat) (t_style : Int32) (t_bands : Int32) (t_begins_N : Nat) (t_begins_F : Nat → Int32) (t_came_N : Nat) (t_came_F : Nat → Int32) (t_brings_N : Nat) (t_owner_N : Nat) (t_length_N : Nat) (t_told_N : Nat) : Nat → (Nat → Int32) → (Nat → Int32) → (Nat → Int32) → (Nat → Int32) → Int32 → Int32 → Int32 → Int32 → Int32 → Int32 → Int32 → Option (Int32 × Int32 × Int32 × (Nat → Int32) × (Nat → Int32) × (Nat → Int32) × (Nat → Int32))
  | 0 => fun _ _ _ _ _ _ _ _ _ _ _ => none
  | n + 1 => fun t_brings_F t_owner_F t_length_F t_told_F t_thrown t_pieces v3 v4 v5 v6 v7 => g_Mo_bring_79 F (f_Mo_bring_79 F t_style t_bands t_begins_N t_begins_F t_came_N t_came_F t_brings_N t_owner_N t_length_N t_told_N n) t_style t_bands t_begins_N t_begins_F t_came_N t_came_F t_brings_N t_owner_N t_length_N t_told_N t_brings_F t_owner_F t_length_F t_told_F t_thrown t_pieces v3 v4 v5 v6 v7
noncomputable def g_Mo_bring_71 (F : Nat) (t_style : Int32) (t_bands : Int32) (t_begins_N : Nat) (t_begins_F : Nat → Int32) (t_came_N : Nat) (t_came_F : Nat → Int32) (t_brings_N : Nat) (t_owner_N : Nat) (t_length_N : Nat) (t_told_N : Nat) (t_brings_F : Nat → Int32) (t_owner_F : Nat → Int32) (t_length_F : Nat → Int32) (t_told_F : Nat → Int32) (t_thrown : Int32) (t_pieces : Int32) (v3 : Int32) (v5 : Int32) (s0 : Int32) : Option (Int32 × Int32 × Int32 × (Nat → Int32) × (Nat → Int32) × (Nat → Int32) × (Nat → Int32)) :=
f_Mo_bring_79 F t_style t_bands t_begins_N t_begins_F t_came_N t_came_F t_brings_N t_owner_N t_length_N t_told_N F t_brings_F t_owner_F t_length_F t_told_F t_thrown t_pieces v3 s0 v5 0 0
noncomputable def g_Mo_bring_66 (F : Nat) (t_style : Int32) (t_bands : Int32) (t_begins_N : Nat) (t_begins_F : Nat → Int32) (t_came_N : Nat) (t_came_F : Nat → Int32) (t_brings_N : Nat) (t_owner_N : Nat) (t_length_N : Nat) (t_told_N : Nat) (t_brings_F : Nat → Int32) (t_owner_F : Nat → Int32) (t_length_F : Nat → Int32) (t_told_F : Nat → Int32) (t_thrown : Int32) (t_pieces : Int32) (v3 : Int32) (v5 : Int32) : Option (Int32 × Int32 × Int32 × (Nat → Int32) × (Nat → Int32) × (Nat → Int32) × (Nat → Int32)) :=
g_Mo_bring_71 F t_style t_bands t_begins_N t_begins_F t_came_N t_came_F t_brings_N t_owner_N t_length_N t_told_N t_brings_F t_owner_F t_length_F t_told_F t_thrown t_pieces v3 v5 1
noncomputable def g_Mo_bring_44 (F : Nat) (t_style : Int32) (t_bands : Int32) (t_begins_N : Nat) (t_begins_F : Nat → Int32) (t_came_N : Nat) (t_came_F : Nat → Int32) (t_brings_N : Nat) (t_owner_N : Nat) (t_length_N : Nat) (t_told_N : Nat) (t_brings_F : Nat → Int32) (t_owner_F : Nat → Int32) (t_length_F : Nat → Int32) (t_told_F : Nat → Int32) (t_thrown : Int32) (t_pieces : Int32) (v3 : Int32) (v4 : Int32) (s0 : Int32) : Option (Int32 × Int32 × Int32 × (Nat → Int32) × (Nat → Int32) × (Nat → Int32) × (Nat → Int32)) :=
if v4 = 0 then (
asm (vp_in s0 t_came_N) (letb (t_came_F s0.toNatClampNeg) fun x25 =>
letb (x25 + v3) fun x26 =>
if x26 ≤ 200 then (
g_Mo_bring_71 F t_style t_bands t_begins_N t_begins_F t_came_N t_came_F t_brings_N t_owner_N t_length_N t_told_N t_brings_F t_owner_F t_length_F t_told_F t_thrown t_pieces v3 s0 0) else (
g_Mo_bring_66 F t_style t_bands t_begins_N t_begins_F t_came_N t_came_F t_brings_N t_owner_N t_length_N t_told_N t_brings_F t_owner_F t_length_F t_told_F t_thrown t_pieces v3 s0))) else (
g_Mo_bring_66 F t_style t_bands t_begins_N t_begins_F t_came_N t_came_F t_brings_N t_owner_N t_length_N t_told_N t_brings_F t_owner_F t_length_F t_told_F t_thrown t_pieces v3 s0)
noncomputable def g_Mo_bring_25 (F : Nat) (t_style : Int32) (t_bands : Int32) (t_begins_N : Nat) (t_begins_F : Nat → Int32) (t_came_N : Nat) (t_came_F : Nat → Int32) (t_brings_N : Nat) (t_owner_N : Nat) (t_length_N : Nat) (t_told_N : Nat) (t_brings_F : Nat → Int32) (t_owner_F : Nat → Int32) (t_length_F : Nat → Int32) (t_told_F : Nat → Int32) (t_thrown : Int32) (t_pieces : Int32) (v1 : Int32) (v2 : Int32) (v3 : Int32) (s0 : Int32) : Option (Int32 × Int32 × Int32 × (Nat → Int32) × (Nat → Int32) × (Nat → Int32) × (Nat → Int32)) :=
if s0 = 0 then (
asm (vp_in v1 t_begins_N) (letb (t_begins_F v1.toNatClampNeg) fun x27 =>
letb (x27 + v2) fun x28 =>
g_Mo_bring_44 F t_style t_bands t_begins_N t_begins_F t_came_N t_came_F t_brings_N t_owner_N t_length_N t_told_N t_brings_F t_owner_F t_length_F t_told_F t_thrown t_pieces v3 s0 x28)) else (
g_Mo_bring_44 F t_style t_bands t_begins_N t_begins_F t_came_N t_came_F t_brings_N t_owner_N t_length_N t_told_N t_brings_F t_owner_F t_length_F t_told_F t_thrown t_pieces v3 s0 0)
noncomputable def g_Mo_bring_20 (F : Nat) (t_style : Int32) (t_bands : Int32) (t_begins_N : Nat) (t_begins_F : Nat → Int32) (t_came_N : Nat) (t_came_F : Nat → Int32) (t_brings_N : Nat) (t_owner_N : Nat) (t_length_N : Nat) (t_told_N : Nat) (t_brings_F : Nat → Int32) (t_owner_F : Nat → Int32) (t_length_F : Nat → Int32) (t_told_F : Nat → Int32) (t_thrown : Int32) (t_pieces : Int32) (v1 : Int32) (v2 : Int32) (v3 : Int32) : Option (Int32 × Int32 × Int32 × (Nat → Int32) × (Nat → Int32) × (Nat → Int32) × (Nat → Int32)) :=
g_Mo_bring_25 F t_style t_bands t_begins_N t_begins_F t_came_N t_came_F t_brings_N t_owner_N t_length_N t_told_N t_brings_F t_owner_F t_length_F t_told_F t_thrown t_pieces v1 v2 v3 1
noncomputable def f_Mo_bring (F : Nat) (t_thrown : Int32) (t_style : Int32) (t_bands : Int32) (t_pieces : Int32) (t_wide_N : Nat) (t_wide_F : Nat → Int32) (t_high_N : Nat) (t_high_F : Nat → Int32) (t_begins_N : Nat) (t_begins_F : Nat → Int32) (t_came_N : Nat) (t_came_F : Nat → Int32) (t_brings_N : Nat) (t_brings_F : Nat → Int32) (t_owner_N : Nat) (t_owner_F : Nat → Int32) (t_length_N : Nat) (t_length_F : Nat → Int32) (t_told_N : Nat) (t_told_F : Nat → Int32) (p0 : Int32) (p1 : Int32) (p2 : Int32) : Option (Int32 × Int32 × Int32 × (Nat → Int32) × (Nat → Int32) × (Nat → Int32) × (Nat → Int32)) :=
bd (f_Mo_isBlock F t_bands t_wide_N t_wide_F t_high_N t_high_F p0 p1) fun u29 =>
if u29 = 0 then (
g_Mo_bring_20 F t_style t_bands t_begins_N t_begins_F t_came_N t_came_F t_brings_N t_owner_N t_length_N t_told_N t_brings_F t_owner_F t_length_F t_told_F t_thrown t_pieces p0 p1 p2) else (
bd (f_Mo_out F p2 0 164) fun u30 =>
if u30 = 0 then (
g_Mo_bring_25 F t_style t_bands t_begins_N t_begins_F t_came_N t_came_F t_brings_N t_owner_N t_length_N t_told_N t_brings_F t_owner_F t_length_F t_told_F t_thrown t_pieces p0 p1 p2 0) else (
g_Mo_bring_20 F t_style t_bands t_begins_N t_begins_F t_came_N t_came_F t_brings_N t_owner_N t_length_N t_told_N t_brings_F t_owner_F t_length_F t_told_F t_thrown t_pieces p0 p1 p2))
set_option maxHeartbeats 4000000 in
set_option maxRecDepth 100000 in
theorem c_Mo_bring (l : Launch) (dC : Nat → ClassId) (dI : Nat → Nat → Nat) (tI tB tL tZ : ClassId) (a_t : Nat) (a_t_wide : Nat) (a_t_high : Nat) (a_t_begins : Nat) (a_t_came : Nat) (a_t_brings : Nat) (a_t_owner : Nat) (a_t_length : Nat) (a_t_told : Nat) (o_t_bytes : Nat) (o_t_width : Nat) (o_t_first : Nat) (o_t_missing : Nat) (o_t_layers : Nat) (o_t_low : Nat) (o_t_known : Nat) (sz : Nat) (t_thrown : Int32) (t_style : Int32) (t_bands : Int32) (t_size : Int32) (t_pieces : Int32) (t_over : Int32) (t_writing : Int32) (t_begin : Int32) (t_end : Int32) (t_room : Int32) (t_wrong : Int32) (t_count : Int32) (t_wide_N : Nat) (t_wide_F : Nat → Int32) (t_high_N : Nat) (t_high_F : Nat → Int32) (t_begins_N : Nat) (t_begins_F : Nat → Int32) (t_came_N : Nat) (t_came_F : Nat → Int32) (t_brings_N : Nat) (t_brings_F : Nat → Int32) (t_owner_N : Nat) (t_owner_F : Nat → Int32) (t_length_N : Nat) (t_length_F : Nat → Int32) (t_told_N : Nat) (t_told_F : Nat → Int32) (p0 : Int32) (p1 : Int32) (p2 : Int32) (F : Nat) (u : Int32 × Int32 × Int32 × (Nat → Int32) × (Nat → Int32) × (Nat → Int32) × (Nat → Int32)) (hf : f_Mo_bring F t_thrown t_style t_bands t_pieces t_wide_N t_wide_F t_high_N t_high_F t_begins_N t_begins_F t_came_N t_came_F t_brings_N t_brings_F t_owner_N t_owner_F t_length_N t_length_F t_told_N t_told_F p0 p1 p2 = some u) : CTi l y_Mo_bring b_Mo_bring 8 .int 3 68 (dC, dI) classes [(tI, .int), (tB, .byte), (tL, .long), (tZ, .boolean)] [.ref a_t, .int p0, .int p1, .int p2] [(a_t, .inr (7, [.int t_thrown, .int t_style, .int t_bands, .ref a_t_wide, .ref a_t_high, .ref a_t_begins, .int t_size, .ref o_t_bytes, .ref a_t_came, .ref o_t_width, .ref a_t_brings, .ref o_t_first, .ref o_t_missing, .ref a_t_told, .int t_pieces, .ref a_t_owner, .ref a_t_length, .ref o_t_layers, .int t_over, .ref o_t_low, .ref o_t_known, .int t_writing, .int t_begin, .int t_end, .int t_room, .int t_wrong, .int t_count])), (a_t_wide, .inl (tI, t_wide_N, .inl t_wide_F)), (a_t_high, .inl (tI, t_high_N, .inl t_high_F)), (a_t_begins, .inl (tI, t_begins_N, .inl t_begins_F)), (a_t_came, .inl (tI, t_came_N, .inl t_came_F)), (a_t_brings, .inl (tI, t_brings_N, .inl t_brings_F)), (a_t_owner, .inl (tI, t_owner_N, .inl t_owner_F)), (a_t_length, .inl (tI, t_length_N, .inl t_length_F)), (a_t_told, .inl (tI, t_told_N, .inl t_told_F))] sz (fun q : Unit => [(a_t, .inr (7, [.int u.2.1, .int t_style, .int t_bands, .ref a_t_wide, .ref a_t_high, .ref a_t_begins, .int t_size, .ref o_t_bytes, .ref a_t_came, .ref o_t_width, .ref a_t_brings, .ref o_t_first, .ref o_t_missing, .ref a_t_told, .int u.2.2.1, .ref a_t_owner, .ref a_t_length, .ref o_t_layers, .int t_over, .ref o_t_low, .ref o_t_known, .int t_writing, .int t_begin, .int t_end, .int t_room, .int t_wrong, .int t_count])), (a_t_wide, .inl (tI, t_wide_N, .inl t_wide_F)), (a_t_high, .inl (tI, t_high_N, .inl t_high_F)), (a_t_begins, .inl (tI, t_begins_N, .inl t_begins_F)), (a_t_came, .inl (tI, t_came_N, .inl t_came_F)), (a_t_brings, .inl (tI, t_brings_N, .inl u.2.2.2.1)), (a_t_owner, .inl (tI, t_owner_N, .inl u.2.2.2.2.1)), (a_t_length, .inl (tI, t_length_N, .inl u.2.2.2.2.2.1)), (a_t_told, .inl (tI, t_told_N, .inl u.2.2.2.2.2.2))]) (u.1) 0 0 := by
  refine mk_i (by decide) (Nat.le_of_ble_eq_true rfl) ?_
  intro p e s m args below meth c ls A Q hx hb hml hts hown hin hK hN hP hD hA hl ret
  obtain ⟨H, hH⟩ : ∃ H : Heap, H = s.heap := ⟨_, rfl⟩
  have hS : va_S A s.heap H [] := by rw [hH]; exact va_S.rf
  rw [← hH] at hP ⊢
  have hl : lv_has ls 8 [(0, .ref a_t), (1, .int p0), (2, .int p1), (3, .int p2)] := hl
  have k_152 : ∀ (t_brings_F : Nat → Int32) (t_owner_F : Nat → Int32) (t_length_F : Nat → Int32) (t_told_F : Nat → Int32) (t_thrown : Int32) (t_pieces : Int32) (v3 : Int32) (v5 : Int32) (s0 : Int32) (H : Heap) (locs : List Loc) (cells slots : Nat) (ls : Array Slot), va_P (dC, dI) classes [(a_t_begins, .inl (tI, t_begins_N, .inl t_begins_F)), (a_t_came, .inl (tI, t_came_N, .inl t_came_F)), (a_t_brings, .inl (tI, t_brings_N, .inl t_brings_F)), (a_t_owner, .inl (tI, t_owner_N, .inl t_owner_F)), (a_t_length, .inl (tI, t_length_N, .inl t_length_F)), (a_t_told, .inl (tI, t_told_N, .inl t_told_F)), (a_t, .inr (7, [.int t_thrown, .int t_style, .int t_bands, .ref a_t_wide, .ref a_t_high, .ref a_t_begins, .int t_size, .ref o_t_bytes, .ref a_t_came, .ref o_t_width, .ref a_t_brings, .ref o_t_first, .ref o_t_missing, .ref a_t_told, .int t_pieces, .ref a_t_owner, .ref a_t_length, .ref o_t_layers, .int t_over, .ref o_t_low, .ref o_t_known, .int t_writing, .int t_begin, .int t_end, .int t_room, .int t_wrong, .int t_count])), (a_t_wide, .inl (tI, t_wide_N, .inl t_wide_F)), (a_t_high, .inl (tI, t_high_N, .inl t_high_F))] H → va_D A [(a_t_begins, .inl (tI, t_begins_N, .inl t_begins_F)), (a_t_came, .inl (tI, t_came_N, .inl t_came_F)), (a_t_brings, .inl (tI, t_brings_N, .inl t_brings_F)), (a_t_owner, .inl (tI, t_owner_N, .inl t_owner_F)), (a_t_length, .inl (tI, t_length_N, .inl t_length_F)), (a_t_told, .inl (tI, t_told_N, .inl t_told_F)), (a_t, .inr (7, [.int t_thrown, .int t_style, .int t_bands, .ref a_t_wide, .ref a_t_high, .ref a_t_begins, .int t_size, .ref o_t_bytes, .ref a_t_came, .ref o_t_width, .ref a_t_brings, .ref o_t_first, .ref o_t_missing, .ref a_t_told, .int t_pieces, .ref a_t_owner, .ref a_t_length, .ref o_t_layers, .int t_over, .ref o_t_low, .ref o_t_known, .int t_writing, .int t_begin, .int t_end, .int t_room, .int t_wrong, .int t_count])), (a_t_wide, .inl (tI, t_wide_N, .inl t_wide_F)), (a_t_high, .inl (tI, t_high_N, .inl t_high_F))] → va_S A s.heap H locs → lv_has ls 8 [(0, .ref a_t), (3, .int v3), (5, .int v5)] → (cells ≤ 0 ∧ slots ≤ 0) → g_Mo_bring_152 F t_style t_came_N t_came_F t_brings_N t_owner_N t_length_N t_told_N t_brings_F t_owner_F t_length_F t_told_F t_thrown t_pieces v3 v5 s0 = some u → W p l e ({ frames := 3, cells := 0, slots := 0, locals := 68 } : Room) s m args below meth c H locs cells slots Q (F0 m 152 ls [.int s0, .ref a_t]) := by
    intro t_brings_F t_owner_F t_length_F t_told_F t_thrown t_pieces v3 v5 s0 H locs cells slots ls hP hD hS hl hc hf
    unfold g_Mo_bring_152 at hf
    refine lv_iconst (v := 0) hx hb d_Mo_bring_152 (by decide) ?_
    refine lv_iconst (v := 0) hx hb d_Mo_bring_153 (by decide) ?_
    obtain ⟨u16, hu, hf⟩ := bd_of hf
    refine jn_i (wc := [(a_t, .inr (7, [.int t_thrown, .int t_style, .int t_bands, .ref a_t_wide, .ref a_t_high, .ref a_t_begins, .int t_size, .ref o_t_bytes, .ref a_t_came, .ref o_t_width, .ref a_t_brings, .ref o_t_first, .ref o_t_missing, .ref a_t_told, .int t_pieces, .ref a_t_owner, .ref a_t_length, .ref o_t_layers, .int t_over, .ref o_t_low, .ref o_t_known, .int t_writing, .int t_begin, .int t_end, .int t_room, .int t_wrong, .int t_count]))]) (wr := [(a_t_begins, .inl (tI, t_begins_N, .inl t_begins_F)), (a_t_came, .inl (tI, t_came_N, .inl t_came_F)), (a_t_brings, .inl (tI, t_brings_N, .inl t_brings_F)), (a_t_owner, .inl (tI, t_owner_N, .inl t_owner_F)), (a_t_length, .inl (tI, t_length_N, .inl t_length_F)), (a_t_told, .inl (tI, t_told_N, .inl t_told_F)), (a_t_wide, .inl (tI, t_wide_N, .inl t_wide_F)), (a_t_high, .inl (tI, t_high_N, .inl t_high_F))]) (va_runV (As := [.int s0, .int 0, .int 0]) (rest := []) ⟨hx, hb, hml, hown, hts⟩ (c_Mo_throwing l dC dI tI tB tL tZ a_t a_t_wide a_t_high a_t_begins o_t_bytes a_t_came o_t_width a_t_brings o_t_first o_t_missing a_t_told a_t_owner a_t_length o_t_layers o_t_low o_t_known H.size t_thrown t_style t_bands t_size t_pieces t_over t_writing t_begin t_end t_room t_wrong t_count s0 0 0 F u16 hu) (cv_of hts q_238 q_214 q_237 q_239 q_240 hd_Mo_throwing ⟨Nat.le_of_ble_eq_true rfl, Nat.le_of_ble_eq_true rfl⟩) (pr_V (ci := 7) (C := R_Mo) (q0 := 0) hK hN (hP.sub [6] rfl) (hD.sub [6] (by decide) rfl) rfl rfl) rfl rfl hl.1 rfl (lv_room (Nat.le_of_ble_eq_true rfl)) d_Mo_bring_154 hc) hP hD hS hA [6] [0, 1, 2, 3, 4, 5, 7, 8] rfl rfl (by decide) (by decide) (fun r9 _ H locs hw hP hD hS => ?_)
    subst r9
    have hP : va_P (dC, dI) classes [(a_t_begins, .inl (tI, t_begins_N, .inl t_begins_F)), (a_t_came, .inl (tI, t_came_N, .inl t_came_F)), (a_t_brings, .inl (tI, t_brings_N, .inl t_brings_F)), (a_t_owner, .inl (tI, t_owner_N, .inl t_owner_F)), (a_t_length, .inl (tI, t_length_N, .inl t_length_F)), (a_t_told, .inl (tI, t_told_N, .inl t_told_F)), (a_t_wide, .inl (tI, t_wide_N, .inl t_wide_F)), (a_t_high, .inl (tI, t_high_N, .inl t_high_F)), (a_t, .inr (7, [.int u16.2, .int t_style, .int t_bands, .ref a_t_wide, .ref a_t_high, .ref a_t_begins, .int t_size, .ref o_t_bytes, .ref a_t_came, .ref o_t_width, .ref a_t_brings, .ref o_t_first, .ref o_t_missing, .ref a_t_told, .int t_pieces, .ref a_t_owner, .ref a_t_length, .ref o_t_layers, .int t_over, .ref o_t_low, .ref o_t_known, .int t_writing, .int t_begin, .int t_end, .int t_room, .int t_wrong, .int t_count]))] H := hP
    have hD : va_D A [(a_t_begins, .inl (tI, t_begins_N, .inl t_begins_F)), (a_t_came, .inl (tI, t_came_N, .inl t_came_F)), (a_t_brings, .inl (tI, t_brings_N, .inl t_brings_F)), (a_t_owner, .inl (tI, t_owner_N, .inl t_owner_F)), (a_t_length, .inl (tI, t_length_N, .inl t_length_F)), (a_t_told, .inl (tI, t_told_N, .inl t_told_F)), (a_t_wide, .inl (tI, t_wide_N, .inl t_wide_F)), (a_t_high, .inl (tI, t_high_N, .inl t_high_F)), (a_t, .inr (7, [.int u16.2, .int t_style, .int t_bands, .ref a_t_wide, .ref a_t_high, .ref a_t_begins, .int t_size, .ref o_t_bytes, .ref a_t_came, .ref o_t_width, .ref a_t_brings, .ref o_t_first, .ref o_t_missing, .ref a_t_told, .int t_pieces, .ref a_t_owner, .ref a_t_length, .ref o_t_layers, .int t_over, .ref o_t_low, .ref o_t_known, .int t_writing, .int t_begin, .int t_end, .int t_room, .int t_wrong, .int t_count]))] := hD
    refine lv_if_eq (tgt := 162) hx hb d_Mo_bring_157 (by decide) (fun c0 => ?_) (fun c0 => ?_)
    · have hf := ite_t c0 hf
      refine lv_aload_n hx hb d_Mo_bring_162 rfl (lv_at hl 0 rfl) ?_
      refine va_get (D := (dC, dI)) (ci := 7) (v := .ref a_t_brings) (C := R_Mo) (T := F_Mo) (N := 27) hx hb hts i_Mo hown hK hP 8 rfl rfl 10 (by decide) (hts _ q_220) (fun _ h9 => h9) rfl d_Mo_bring_163 ?_
      refine lv_iload hx hb d_Mo_bring_166 (lv_at hl 2 rfl) ?_
      refine lv_iload_n hx hb d_Mo_bring_168 rfl (lv_at hl 1 rfl) ?_
      obtain ⟨hin9, hf⟩ := asm_of hf
      refine va_iast hx hb hK hP hD hS 2 0 rfl rfl hin9 d_Mo_bring_169 (fun H locs hP hD hS => ?_)
      have hP : va_P (dC, dI) classes [(a_t_begins, .inl (tI, t_begins_N, .inl t_begins_F)), (a_t_came, .inl (tI, t_came_N, .inl t_came_F)), (a_t_brings, .inl (tI, t_brings_N, .inl (upd t_brings_F v5.toNatClampNeg v3))), (a_t_owner, .inl (tI, t_owner_N, .inl t_owner_F)), (a_t_length, .inl (tI, t_length_N, .inl t_length_F)), (a_t_told, .inl (tI, t_told_N, .inl t_told_F)), (a_t_wide, .inl (tI, t_wide_N, .inl t_wide_F)), (a_t_high, .inl (tI, t_high_N, .inl t_high_F)), (a_t, .inr (7, [.int u16.2, .int t_style, .int t_bands, .ref a_t_wide, .ref a_t_high, .ref a_t_begins, .int t_size, .ref o_t_bytes, .ref a_t_came, .ref o_t_width, .ref a_t_brings, .ref o_t_first, .ref o_t_missing, .ref a_t_told, .int t_pieces, .ref a_t_owner, .ref a_t_length, .ref o_t_layers, .int t_over, .ref o_t_low, .ref o_t_known, .int t_writing, .int t_begin, .int t_end, .int t_room, .int t_wrong, .int t_count]))] H := hP
      have hD : va_D A [(a_t_begins, .inl (tI, t_begins_N, .inl t_begins_F)), (a_t_came, .inl (tI, t_came_N, .inl t_came_F)), (a_t_brings, .inl (tI, t_brings_N, .inl (upd t_brings_F v5.toNatClampNeg v3))), (a_t_owner, .inl (tI, t_owner_N, .inl t_owner_F)), (a_t_length, .inl (tI, t_length_N, .inl t_length_F)), (a_t_told, .inl (tI, t_told_N, .inl t_told_F)), (a_t_wide, .inl (tI, t_wide_N, .inl t_wide_F)), (a_t_high, .inl (tI, t_high_N, .inl t_high_F)), (a_t, .inr (7, [.int u16.2, .int t_style, .int t_bands, .ref a_t_wide, .ref a_t_high, .ref a_t_begins, .int t_size, .ref o_t_bytes, .ref a_t_came, .ref o_t_width, .ref a_t_brings, .ref o_t_first, .ref o_t_missing, .ref a_t_told, .int t_pieces, .ref a_t_owner, .ref a_t_length, .ref o_t_layers, .int t_over, .ref o_t_low, .ref o_t_known, .int t_writing, .int t_begin, .int t_end, .int t_room, .int t_wrong, .int t_count]))] := hD
      refine lv_aload_n hx hb d_Mo_bring_170 rfl (lv_at hl 0 rfl) ?_
      refine lv_iload hx hb d_Mo_bring_171 (lv_at hl 2 rfl) ?_
      refine lv_iload hx hb d_Mo_bring_173 (lv_at hl 2 rfl) ?_
      refine lv_iconst (v := 1) hx hb d_Mo_bring_175 (by decide) ?_
      refine lv_iadd hx hb d_Mo_bring_176 ?_
      refine lv_topi (fun x17 ex17 => ?_)
      have hf := letb_of hf ex17
      obtain ⟨u18, hu, hf⟩ := bd_of hf
      refine jn_v (wc := [(a_t, .inr (7, [.int u16.2, .int t_style, .int t_bands, .ref a_t_wide, .ref a_t_high, .ref a_t_begins, .int t_size, .ref o_t_bytes, .ref a_t_came, .ref o_t_width, .ref a_t_brings, .ref o_t_first, .ref o_t_missing, .ref a_t_told, .int t_pieces, .ref a_t_owner, .ref a_t_length, .ref o_t_layers, .int t_over, .ref o_t_low, .ref o_t_known, .int t_writing, .int t_begin, .int t_end, .int t_room, .int t_wrong, .int t_count])), (a_t_owner, .inl (tI, t_owner_N, .inl t_owner_F)), (a_t_length, .inl (tI, t_length_N, .inl t_length_F)), (a_t_told, .inl (tI, t_told_N, .inl t_told_F))]) (wr := [(a_t_begins, .inl (tI, t_begins_N, .inl t_begins_F)), (a_t_came, .inl (tI, t_came_N, .inl t_came_F)), (a_t_brings, .inl (tI, t_brings_N, .inl (upd t_brings_F v5.toNatClampNeg v3))), (a_t_wide, .inl (tI, t_wide_N, .inl t_wide_F)), (a_t_high, .inl (tI, t_high_N, .inl t_high_F))]) (va_runV (As := [.int v5, .int x17]) (rest := []) ⟨hx, hb, hml, hown, hts⟩ (c_Mo_forget l dC dI tI tB tL tZ a_t a_t_owner a_t_length a_t_told a_t_wide a_t_high a_t_begins o_t_bytes a_t_came o_t_width a_t_brings o_t_first o_t_missing o_t_layers o_t_low o_t_known H.size u16.2 t_style t_bands t_size t_pieces t_over t_writing t_begin t_end t_room t_wrong t_count t_owner_N t_owner_F t_length_N t_length_F t_told_N t_told_F v5 x17 F u18 hu) (cv_of hts q_215 q_214 q_213 q_216 q_217 hd_Mo_forget ⟨Nat.le_of_ble_eq_true rfl, Nat.le_of_ble_eq_true rfl⟩) (pr_V (ci := 7) (C := R_Mo) (q0 := 0) hK hN (hP.sub [8, 3, 4, 5] rfl) (hD.sub [8, 3, 4, 5] (by decide) rfl) rfl rfl) rfl rfl hl.1 rfl (lv_room (Nat.le_of_ble_eq_true rfl)) d_Mo_bring_177 hc) hP hD hS hA [8, 3, 4, 5] [0, 1, 2, 6, 7] rfl rfl (by decide) (by decide) (fun _ H locs hP hD hS => ?_)
      have hP : va_P (dC, dI) classes [(a_t_begins, .inl (tI, t_begins_N, .inl t_begins_F)), (a_t_came, .inl (tI, t_came_N, .inl t_came_F)), (a_t_brings, .inl (tI, t_brings_N, .inl (upd t_brings_F v5.toNatClampNeg v3))), (a_t_wide, .inl (tI, t_wide_N, .inl t_wide_F)), (a_t_high, .inl (tI, t_high_N, .inl t_high_F)), (a_t, .inr (7, [.int u16.2, .int t_style, .int t_bands, .ref a_t_wide, .ref a_t_high, .ref a_t_begins, .int t_size, .ref o_t_bytes, .ref a_t_came, .ref o_t_width, .ref a_t_brings, .ref o_t_first, .ref o_t_missing, .ref a_t_told, .int u18.1, .ref a_t_owner, .ref a_t_length, .ref o_t_layers, .int t_over, .ref o_t_low, .ref o_t_known, .int t_writing, .int t_begin, .int t_end, .int t_room, .int t_wrong, .int t_count])), (a_t_owner, .inl (tI, t_owner_N, .inl u18.2.1)), (a_t_length, .inl (tI, t_length_N, .inl u18.2.2.1)), (a_t_told, .inl (tI, t_told_N, .inl u18.2.2.2))] H := hP
      have hD : va_D A [(a_t_begins, .inl (tI, t_begins_N, .inl t_begins_F)), (a_t_came, .inl (tI, t_came_N, .inl t_came_F)), (a_t_brings, .inl (tI, t_brings_N, .inl (upd t_brings_F v5.toNatClampNeg v3))), (a_t_wide, .inl (tI, t_wide_N, .inl t_wide_F)), (a_t_high, .inl (tI, t_high_N, .inl t_high_F)), (a_t, .inr (7, [.int u16.2, .int t_style, .int t_bands, .ref a_t_wide, .ref a_t_high, .ref a_t_begins, .int t_size, .ref o_t_bytes, .ref a_t_came, .ref o_t_width, .ref a_t_brings, .ref o_t_first, .ref o_t_missing, .ref a_t_told, .int u18.1, .ref a_t_owner, .ref a_t_length, .ref o_t_layers, .int t_over, .ref o_t_low, .ref o_t_known, .int t_writing, .int t_begin, .int t_end, .int t_room, .int t_wrong, .int t_count])), (a_t_owner, .inl (tI, t_owner_N, .inl u18.2.1)), (a_t_length, .inl (tI, t_length_N, .inl u18.2.2.1)), (a_t_told, .inl (tI, t_told_N, .inl u18.2.2.2))] := hD
      refine lv_aload_n hx hb d_Mo_bring_180 rfl (lv_at hl 0 rfl) ?_
      refine lv_iload hx hb d_Mo_bring_181 (lv_at hl 2 rfl) ?_
      refine lv_iload_n hx hb d_Mo_bring_183 rfl (lv_at hl 1 rfl) ?_
      obtain ⟨u19, hu, hf⟩ := bd_of hf
      refine jn_i (wc := [(a_t, .inr (7, [.int u16.2, .int t_style, .int t_bands, .ref a_t_wide, .ref a_t_high, .ref a_t_begins, .int t_size, .ref o_t_bytes, .ref a_t_came, .ref o_t_width, .ref a_t_brings, .ref o_t_first, .ref o_t_missing, .ref a_t_told, .int u18.1, .ref a_t_owner, .ref a_t_length, .ref o_t_layers, .int t_over, .ref o_t_low, .ref o_t_known, .int t_writing, .int t_begin, .int t_end, .int t_room, .int t_wrong, .int t_count])), (a_t_came, .inl (tI, t_came_N, .inl t_came_F))]) (wr := [(a_t_begins, .inl (tI, t_begins_N, .inl t_begins_F)), (a_t_brings, .inl (tI, t_brings_N, .inl (upd t_brings_F v5.toNatClampNeg v3))), (a_t_wide, .inl (tI, t_wide_N, .inl t_wide_F)), (a_t_high, .inl (tI, t_high_N, .inl t_high_F)), (a_t_owner, .inl (tI, t_owner_N, .inl u18.2.1)), (a_t_length, .inl (tI, t_length_N, .inl u18.2.2.1)), (a_t_told, .inl (tI, t_told_N, .inl u18.2.2.2))]) (va_runV (As := [.int v5, .int v3]) (rest := []) ⟨hx, hb, hml, hown, hts⟩ (c_Mo_piecesOf l dC dI tI tB tL tZ a_t a_t_came a_t_wide a_t_high a_t_begins o_t_bytes o_t_width a_t_brings o_t_first o_t_missing a_t_told a_t_owner a_t_length o_t_layers o_t_low o_t_known H.size u16.2 t_style t_bands t_size u18.1 t_over t_writing t_begin t_end t_room t_wrong t_count t_came_N t_came_F v5 v3 F u19 hu) (cv_of hts q_260 q_214 q_259 q_261 q_262 hd_Mo_piecesOf ⟨Nat.le_of_ble_eq_true rfl, Nat.le_of_ble_eq_true rfl⟩) (pr_V (ci := 7) (C := R_Mo) (q0 := 0) hK hN (hP.sub [5, 1] rfl) (hD.sub [5, 1] (by decide) rfl) rfl rfl) rfl rfl hl.1 rfl (lv_room (Nat.le_of_ble_eq_true rfl)) d_Mo_bring_184 hc) hP hD hS hA [5, 1] [0, 2, 3, 4, 6, 7, 8] rfl rfl (by decide) (by decide) (fun r9 _ H locs hw hP hD hS => ?_)
      subst r9
      have hP : va_P (dC, dI) classes [(a_t_begins, .inl (tI, t_begins_N, .inl t_begins_F)), (a_t_brings, .inl (tI, t_brings_N, .inl (upd t_brings_F v5.toNatClampNeg v3))), (a_t_wide, .inl (tI, t_wide_N, .inl t_wide_F)), (a_t_high, .inl (tI, t_high_N, .inl t_high_F)), (a_t_owner, .inl (tI, t_owner_N, .inl u18.2.1)), (a_t_length, .inl (tI, t_length_N, .inl u18.2.2.1)), (a_t_told, .inl (tI, t_told_N, .inl u18.2.2.2)), (a_t, .inr (7, [.int u16.2, .int t_style, .int t_bands, .ref a_t_wide, .ref a_t_high, .ref a_t_begins, .int t_size, .ref o_t_bytes, .ref a_t_came, .ref o_t_width, .ref a_t_brings, .ref o_t_first, .ref o_t_missing, .ref a_t_told, .int u18.1, .ref a_t_owner, .ref a_t_length, .ref o_t_layers, .int t_over, .ref o_t_low, .ref o_t_known, .int t_writing, .int t_begin, .int t_end, .int t_room, .int t_wrong, .int t_count])), (a_t_came, .inl (tI, t_came_N, .inl t_came_F))] H := hP
      have hD : va_D A [(a_t_begins, .inl (tI, t_begins_N, .inl t_begins_F)), (a_t_brings, .inl (tI, t_brings_N, .inl (upd t_brings_F v5.toNatClampNeg v3))), (a_t_wide, .inl (tI, t_wide_N, .inl t_wide_F)), (a_t_high, .inl (tI, t_high_N, .inl t_high_F)), (a_t_owner, .inl (tI, t_owner_N, .inl u18.2.1)), (a_t_length, .inl (tI, t_length_N, .inl u18.2.2.1)), (a_t_told, .inl (tI, t_told_N, .inl u18.2.2.2)), (a_t, .inr (7, [.int u16.2, .int t_style, .int t_bands, .ref a_t_wide, .ref a_t_high, .ref a_t_begins, .int t_size, .ref o_t_bytes, .ref a_t_came, .ref o_t_width, .ref a_t_brings, .ref o_t_first, .ref o_t_missing, .ref a_t_told, .int u18.1, .ref a_t_owner, .ref a_t_length, .ref o_t_layers, .int t_over, .ref o_t_low, .ref o_t_known, .int t_writing, .int t_begin, .int t_end, .int t_room, .int t_wrong, .int t_count])), (a_t_came, .inl (tI, t_came_N, .inl t_came_F))] := hD
      have hf := Option.some.inj hf
      subst u
      exact ret _ _ _ _ _ _ () d_Mo_bring_187 rfl (hP.sub [7, 2, 3, 0, 8, 1, 4, 5, 6] rfl) (hD.sub [7, 2, 3, 0, 8, 1, 4, 5, 6] (by decide) rfl) hS hc.1 hc.2
    · have hf := ite_f c0 hf
      refine lv_iconst (v := 0) hx hb d_Mo_bring_160 (by decide) ?_
      have hf := Option.some.inj hf
      subst u
      exact ret _ _ _ _ _ _ () d_Mo_bring_161 rfl (hP.sub [8, 6, 7, 0, 1, 2, 3, 4, 5] rfl) (hD.sub [8, 6, 7, 0, 1, 2, 3, 4, 5] (by decide) rfl) hS hc.1 hc.2
  have k_147 : ∀ (t_brings_F : Nat → Int32) (t_owner_F : Nat → Int32) (t_length_F : Nat → Int32) (t_told_F : Nat → Int32) (t_thrown : Int32) (t_pieces : Int32) (v3 : Int32) (v5 : Int32) (H : Heap) (locs : List Loc) (cells slots : Nat) (ls : Array Slot), va_P (dC, dI) classes [(a_t_begins, .inl (tI, t_begins_N, .inl t_begins_F)), (a_t_came, .inl (tI, t_came_N, .inl t_came_F)), (a_t_brings, .inl (tI, t_brings_N, .inl t_brings_F)), (a_t_owner, .inl (tI, t_owner_N, .inl t_owner_F)), (a_t_length, .inl (tI, t_length_N, .inl t_length_F)), (a_t_told, .inl (tI, t_told_N, .inl t_told_F)), (a_t, .inr (7, [.int t_thrown, .int t_style, .int t_bands, .ref a_t_wide, .ref a_t_high, .ref a_t_begins, .int t_size, .ref o_t_bytes, .ref a_t_came, .ref o_t_width, .ref a_t_brings, .ref o_t_first, .ref o_t_missing, .ref a_t_told, .int t_pieces, .ref a_t_owner, .ref a_t_length, .ref o_t_layers, .int t_over, .ref o_t_low, .ref o_t_known, .int t_writing, .int t_begin, .int t_end, .int t_room, .int t_wrong, .int t_count])), (a_t_wide, .inl (tI, t_wide_N, .inl t_wide_F)), (a_t_high, .inl (tI, t_high_N, .inl t_high_F))] H → va_D A [(a_t_begins, .inl (tI, t_begins_N, .inl t_begins_F)), (a_t_came, .inl (tI, t_came_N, .inl t_came_F)), (a_t_brings, .inl (tI, t_brings_N, .inl t_brings_F)), (a_t_owner, .inl (tI, t_owner_N, .inl t_owner_F)), (a_t_length, .inl (tI, t_length_N, .inl t_length_F)), (a_t_told, .inl (tI, t_told_N, .inl t_told_F)), (a_t, .inr (7, [.int t_thrown, .int t_style, .int t_bands, .ref a_t_wide, .ref a_t_high, .ref a_t_begins, .int t_size, .ref o_t_bytes, .ref a_t_came, .ref o_t_width, .ref a_t_brings, .ref o_t_first, .ref o_t_missing, .ref a_t_told, .int t_pieces, .ref a_t_owner, .ref a_t_length, .ref o_t_layers, .int t_over, .ref o_t_low, .ref o_t_known, .int t_writing, .int t_begin, .int t_end, .int t_room, .int t_wrong, .int t_count])), (a_t_wide, .inl (tI, t_wide_N, .inl t_wide_F)), (a_t_high, .inl (tI, t_high_N, .inl t_high_F))] → va_S A s.heap H locs → lv_has ls 8 [(0, .ref a_t), (3, .int v3), (5, .int v5)] → (cells ≤ 0 ∧ slots ≤ 0) → g_Mo_bring_147 F t_style t_came_N t_came_F t_brings_N t_owner_N t_length_N t_told_N t_brings_F t_owner_F t_length_F t_told_F t_thrown t_pieces v3 v5 = some u → W p l e ({ frames := 3, cells := 0, slots := 0, locals := 68 } : Room) s m args below meth c H locs cells slots Q (F0 m 147 ls [.ref a_t]) := by
    intro t_brings_F t_owner_F t_length_F t_told_F t_thrown t_pieces v3 v5 H locs cells slots ls hP hD hS hl hc hf
    unfold g_Mo_bring_147 at hf
    refine lv_iconst (v := 1) hx hb d_Mo_bring_147 (by decide) ?_
    refine lv_goto (tgt := 152) hx hb d_Mo_bring_148 (by decide) ?_
    exact k_152 t_brings_F t_owner_F t_length_F t_told_F t_thrown t_pieces v3 v5 1 _ _ _ _ ls hP hD hS hl hc hf
  have k_133 : ∀ (t_brings_F : Nat → Int32) (t_owner_F : Nat → Int32) (t_length_F : Nat → Int32) (t_told_F : Nat → Int32) (t_thrown : Int32) (t_pieces : Int32) (v3 : Int32) (v4 : Int32) (v5 : Int32) (v6 : Int32) (H : Heap) (locs : List Loc) (cells slots : Nat) (ls : Array Slot), va_P (dC, dI) classes [(a_t_begins, .inl (tI, t_begins_N, .inl t_begins_F)), (a_t_came, .inl (tI, t_came_N, .inl t_came_F)), (a_t_brings, .inl (tI, t_brings_N, .inl t_brings_F)), (a_t_owner, .inl (tI, t_owner_N, .inl t_owner_F)), (a_t_length, .inl (tI, t_length_N, .inl t_length_F)), (a_t_told, .inl (tI, t_told_N, .inl t_told_F)), (a_t, .inr (7, [.int t_thrown, .int t_style, .int t_bands, .ref a_t_wide, .ref a_t_high, .ref a_t_begins, .int t_size, .ref o_t_bytes, .ref a_t_came, .ref o_t_width, .ref a_t_brings, .ref o_t_first, .ref o_t_missing, .ref a_t_told, .int t_pieces, .ref a_t_owner, .ref a_t_length, .ref o_t_layers, .int t_over, .ref o_t_low, .ref o_t_known, .int t_writing, .int t_begin, .int t_end, .int t_room, .int t_wrong, .int t_count])), (a_t_wide, .inl (tI, t_wide_N, .inl t_wide_F)), (a_t_high, .inl (tI, t_high_N, .inl t_high_F))] H → va_D A [(a_t_begins, .inl (tI, t_begins_N, .inl t_begins_F)), (a_t_came, .inl (tI, t_came_N, .inl t_came_F)), (a_t_brings, .inl (tI, t_brings_N, .inl t_brings_F)), (a_t_owner, .inl (tI, t_owner_N, .inl t_owner_F)), (a_t_length, .inl (tI, t_length_N, .inl t_length_F)), (a_t_told, .inl (tI, t_told_N, .inl t_told_F)), (a_t, .inr (7, [.int t_thrown, .int t_style, .int t_bands, .ref a_t_wide, .ref a_t_high, .ref a_t_begins, .int t_size, .ref o_t_bytes, .ref a_t_came, .ref o_t_width, .ref a_t_brings, .ref o_t_first, .ref o_t_missing, .ref a_t_told, .int t_pieces, .ref a_t_owner, .ref a_t_length, .ref o_t_layers, .int t_over, .ref o_t_low, .ref o_t_known, .int t_writing, .int t_begin, .int t_end, .int t_room, .int t_wrong, .int t_count])), (a_t_wide, .inl (tI, t_wide_N, .inl t_wide_F)), (a_t_high, .inl (tI, t_high_N, .inl t_high_F))] → va_S A s.heap H locs → lv_has ls 8 [(0, .ref a_t), (3, .int v3), (4, .int v4), (5, .int v5), (6, .int v6)] → (cells ≤ 0 ∧ slots ≤ 0) → g_Mo_bring_133 F t_style t_came_N t_came_F t_brings_N t_owner_N t_length_N t_told_N t_brings_F t_owner_F t_length_F t_told_F t_thrown t_pieces v3 v4 v5 v6 = some u → W p l e ({ frames := 3, cells := 0, slots := 0, locals := 68 } : Room) s m args below meth c H locs cells slots Q (F0 m 133 ls []) := by
    intro t_brings_F t_owner_F t_length_F t_told_F t_thrown t_pieces v3 v4 v5 v6 H locs cells slots ls hP hD hS hl hc hf
    unfold g_Mo_bring_133 at hf
    refine lv_aload_n hx hb d_Mo_bring_133 rfl (lv_at hl 0 rfl) ?_
    refine lv_iload hx hb d_Mo_bring_134 (lv_at hl 2 rfl) ?_
    refine lv_if_ne (tgt := 147) hx hb d_Mo_bring_136 (by decide) (fun c0 => ?_) (fun c0 => ?_)
    · have hf := ite_f c0 hf
      exact k_147 t_brings_F t_owner_F t_length_F t_told_F t_thrown t_pieces v3 v5 _ _ _ _ ls hP hD hS (lv_sub hl [0, 1, 3] rfl) hc hf
    · have hf := ite_t c0 hf
      refine lv_iload hx hb d_Mo_bring_139 (lv_at hl 4 rfl) ?_
      refine lv_sipush (v := 4096) hx hb d_Mo_bring_141 (by decide) ?_
      refine lv_icmp_le (tgt := 151) hx hb d_Mo_bring_144 (by decide) (fun c0 => ?_) (fun c0 => ?_)
      · have hf := ite_t c0 hf
        refine lv_iconst (v := 0) hx hb d_Mo_bring_151 (by decide) ?_
        exact k_152 t_brings_F t_owner_F t_length_F t_told_F t_thrown t_pieces v3 v5 0 _ _ _ _ ls hP hD hS (lv_sub hl [0, 1, 3] rfl) hc hf
      · have hf := ite_f c0 hf
        exact k_147 t_brings_F t_owner_F t_length_F t_told_F t_thrown t_pieces v3 v5 _ _ _ _ ls hP hD hS (lv_sub hl [0, 1, 3] rfl) hc hf
  have k_121 : ∀ (rec79 : (Nat → Int32) → (Nat → Int32) → (Nat → Int32) → (Nat → Int32) → Int32 → Int32 → Int32 → Int32 → Int32 → Int32 → Int32 → Option (Int32 × Int32 × Int32 × (Nat → Int32) × (Nat → Int32) × (Nat → Int32) × (Nat → Int32))), (∀ (t_brings_F : Nat → Int32) (t_owner_F : Nat → Int32) (t_length_F : Nat → Int32) (t_told_F : Nat → Int32) (t_thrown : Int32) (t_pieces : Int32) (v3 : Int32) (v4 : Int32) (v5 : Int32) (v6 : Int32) (v7 : Int32) (H : Heap) (locs : List Loc) (cells slots : Nat) (ls : Array Slot), va_P (dC, dI) classes [(a_t_begins, .inl (tI, t_begins_N, .inl t_begins_F)), (a_t_came, .inl (tI, t_came_N, .inl t_came_F)), (a_t_brings, .inl (tI, t_brings_N, .inl t_brings_F)), (a_t_owner, .inl (tI, t_owner_N, .inl t_owner_F)), (a_t_length, .inl (tI, t_length_N, .inl t_length_F)), (a_t_told, .inl (tI, t_told_N, .inl t_told_F)), (a_t, .inr (7, [.int t_thrown, .int t_style, .int t_bands, .ref a_t_wide, .ref a_t_high, .ref a_t_begins, .int t_size, .ref o_t_bytes, .ref a_t_came, .ref o_t_width, .ref a_t_brings, .ref o_t_first, .ref o_t_missing, .ref a_t_told, .int t_pieces, .ref a_t_owner, .ref a_t_length, .ref o_t_layers, .int t_over, .ref o_t_low, .ref o_t_known, .int t_writing, .int t_begin, .int t_end, .int t_room, .int t_wrong, .int t_count])), (a_t_wide, .inl (tI, t_wide_N, .inl t_wide_F)), (a_t_high, .inl (tI, t_high_N, .inl t_high_F))] H → va_D A [(a_t_begins, .inl (tI, t_begins_N, .inl t_begins_F)), (a_t_came, .inl (tI, t_came_N, .inl t_came_F)), (a_t_brings, .inl (tI, t_brings_N, .inl t_brings_F)), (a_t_owner, .inl (tI, t_owner_N, .inl t_owner_F)), (a_t_length, .inl (tI, t_length_N, .inl t_length_F)), (a_t_told, .inl (tI, t_told_N, .inl t_told_F)), (a_t, .inr (7, [.int t_thrown, .int t_style, .int t_bands, .ref a_t_wide, .ref a_t_high, .ref a_t_begins, .int t_size, .ref o_t_bytes, .ref a_t_came, .ref o_t_width, .ref a_t_brings, .ref o_t_first, .ref o_t_missing, .ref a_t_told, .int t_pieces, .ref a_t_owner, .ref a_t_length, .ref o_t_layers, .int t_over, .ref o_t_low, .ref o_t_known, .int t_writing, .int t_begin, .int t_end, .int t_room, .int t_wrong, .int t_count])), (a_t_wide, .inl (tI, t_wide_N, .inl t_wide_F)), (a_t_high, .inl (tI, t_high_N, .inl t_high_F))] → va_S A s.heap H locs → lv_has ls 8 [(0, .ref a_t), (3, .int v3), (4, .int v4), (5, .int v5), (6, .int v6), (7, .int v7)] → (cells ≤ 0 ∧ slots ≤ 0) → rec79 t_brings_F t_owner_F t_length_F t_told_F t_thrown t_pieces v3 v4 v5 v6 v7 = some u → W p l e ({ frames := 3, cells := 0, slots := 0, locals := 68 } : Room) s m args below meth c H locs cells slots Q (F0 m 79 ls [])) → ∀ (t_brings_F : Nat → Int32) (t_owner_F : Nat → Int32) (t_length_F : Nat → Int32) (t_told_F : Nat → Int32) (t_thrown : Int32) (t_pieces : Int32) (v3 : Int32) (v4 : Int32) (v5 : Int32) (v7 : Int32) (s0 : Int32) (s1 : Int32) (s3 : Int32) (H : Heap) (locs : List Loc) (cells slots : Nat) (ls : Array Slot), va_P (dC, dI) classes [(a_t_begins, .inl (tI, t_begins_N, .inl t_begins_F)), (a_t_came, .inl (tI, t_came_N, .inl t_came_F)), (a_t_brings, .inl (tI, t_brings_N, .inl t_brings_F)), (a_t_owner, .inl (tI, t_owner_N, .inl t_owner_F)), (a_t_length, .inl (tI, t_length_N, .inl t_length_F)), (a_t_told, .inl (tI, t_told_N, .inl t_told_F)), (a_t, .inr (7, [.int t_thrown, .int t_style, .int t_bands, .ref a_t_wide, .ref a_t_high, .ref a_t_begins, .int t_size, .ref o_t_bytes, .ref a_t_came, .ref o_t_width, .ref a_t_brings, .ref o_t_first, .ref o_t_missing, .ref a_t_told, .int t_pieces, .ref a_t_owner, .ref a_t_length, .ref o_t_layers, .int t_over, .ref o_t_low, .ref o_t_known, .int t_writing, .int t_begin, .int t_end, .int t_room, .int t_wrong, .int t_count])), (a_t_wide, .inl (tI, t_wide_N, .inl t_wide_F)), (a_t_high, .inl (tI, t_high_N, .inl t_high_F))] H → va_D A [(a_t_begins, .inl (tI, t_begins_N, .inl t_begins_F)), (a_t_came, .inl (tI, t_came_N, .inl t_came_F)), (a_t_brings, .inl (tI, t_brings_N, .inl t_brings_F)), (a_t_owner, .inl (tI, t_owner_N, .inl t_owner_F)), (a_t_length, .inl (tI, t_length_N, .inl t_length_F)), (a_t_told, .inl (tI, t_told_N, .inl t_told_F)), (a_t, .inr (7, [.int t_thrown, .int t_style, .int t_bands, .ref a_t_wide, .ref a_t_high, .ref a_t_begins, .int t_size, .ref o_t_bytes, .ref a_t_came, .ref o_t_width, .ref a_t_brings, .ref o_t_first, .ref o_t_missing, .ref a_t_told, .int t_pieces, .ref a_t_owner, .ref a_t_length, .ref o_t_layers, .int t_over, .ref o_t_low, .ref o_t_known, .int t_writing, .int t_begin, .int t_end, .int t_room, .int t_wrong, .int t_count])), (a_t_wide, .inl (tI, t_wide_N, .inl t_wide_F)), (a_t_high, .inl (tI, t_high_N, .inl t_high_F))] → va_S A s.heap H locs → lv_has ls 8 [(0, .ref a_t), (3, .int v3), (4, .int v4), (5, .int v5), (7, .int v7)] → (cells ≤ 0 ∧ slots ≤ 0) → g_Mo_bring_121 F rec79 t_style t_came_N t_came_F t_brings_F t_owner_F t_length_F t_told_F t_thrown t_pieces v3 v4 v5 v7 s0 s1 s3 = some u → W p l e ({ frames := 3, cells := 0, slots := 0, locals := 68 } : Room) s m args below meth c H locs cells slots Q (F0 m 121 ls [.int s0, .int s1, .ref a_t, .int s3]) := by
    intro rec79 h79 t_brings_F t_owner_F t_length_F t_told_F t_thrown t_pieces v3 v4 v5 v7 s0 s1 s3 H locs cells slots ls hP hD hS hl hc hf
    unfold g_Mo_bring_121 at hf
    obtain ⟨u20, hu, hf⟩ := bd_of hf
    refine jn_i (wc := [(a_t, .inr (7, [.int t_thrown, .int t_style, .int t_bands, .ref a_t_wide, .ref a_t_high, .ref a_t_begins, .int t_size, .ref o_t_bytes, .ref a_t_came, .ref o_t_width, .ref a_t_brings, .ref o_t_first, .ref o_t_missing, .ref a_t_told, .int t_pieces, .ref a_t_owner, .ref a_t_length, .ref o_t_layers, .int t_over, .ref o_t_low, .ref o_t_known, .int t_writing, .int t_begin, .int t_end, .int t_room, .int t_wrong, .int t_count])), (a_t_came, .inl (tI, t_came_N, .inl t_came_F))]) (wr := [(a_t_begins, .inl (tI, t_begins_N, .inl t_begins_F)), (a_t_brings, .inl (tI, t_brings_N, .inl t_brings_F)), (a_t_owner, .inl (tI, t_owner_N, .inl t_owner_F)), (a_t_length, .inl (tI, t_length_N, .inl t_length_F)), (a_t_told, .inl (tI, t_told_N, .inl t_told_F)), (a_t_wide, .inl (tI, t_wide_N, .inl t_wide_F)), (a_t_high, .inl (tI, t_high_N, .inl t_high_F))]) (va_runV (As := [.int s1, .int s0]) (rest := [.int s3]) ⟨hx, hb, hml, hown, hts⟩ (c_Mo_piecesOf l dC dI tI tB tL tZ a_t a_t_came a_t_wide a_t_high a_t_begins o_t_bytes o_t_width a_t_brings o_t_first o_t_missing a_t_told a_t_owner a_t_length o_t_layers o_t_low o_t_known H.size t_thrown t_style t_bands t_size t_pieces t_over t_writing t_begin t_end t_room t_wrong t_count t_came_N t_came_F s1 s0 F u20 hu) (cv_of hts q_260 q_214 q_259 q_261 q_262 hd_Mo_piecesOf ⟨Nat.le_of_ble_eq_true rfl, Nat.le_of_ble_eq_true rfl⟩) (pr_V (ci := 7) (C := R_Mo) (q0 := 0) hK hN (hP.sub [6, 1] rfl) (hD.sub [6, 1] (by decide) rfl) rfl rfl) rfl rfl hl.1 rfl (lv_room (Nat.le_of_ble_eq_true rfl)) d_Mo_bring_121 hc) hP hD hS hA [6, 1] [0, 2, 3, 4, 5, 7, 8] rfl rfl (by decide) (by decide) (fun r9 _ H locs hw hP hD hS => ?_)
    subst r9
    have hP : va_P (dC, dI) classes [(a_t_begins, .inl (tI, t_begins_N, .inl t_begins_F)), (a_t_brings, .inl (tI, t_brings_N, .inl t_brings_F)), (a_t_owner, .inl (tI, t_owner_N, .inl t_owner_F)), (a_t_length, .inl (tI, t_length_N, .inl t_length_F)), (a_t_told, .inl (tI, t_told_N, .inl t_told_F)), (a_t_wide, .inl (tI, t_wide_N, .inl t_wide_F)), (a_t_high, .inl (tI, t_high_N, .inl t_high_F)), (a_t, .inr (7, [.int t_thrown, .int t_style, .int t_bands, .ref a_t_wide, .ref a_t_high, .ref a_t_begins, .int t_size, .ref o_t_bytes, .ref a_t_came, .ref o_t_width, .ref a_t_brings, .ref o_t_first, .ref o_t_missing, .ref a_t_told, .int t_pieces, .ref a_t_owner, .ref a_t_length, .ref o_t_layers, .int t_over, .ref o_t_low, .ref o_t_known, .int t_writing, .int t_begin, .int t_end, .int t_room, .int t_wrong, .int t_count])), (a_t_came, .inl (tI, t_came_N, .inl t_came_F))] H := hP
    have hD : va_D A [(a_t_begins, .inl (tI, t_begins_N, .inl t_begins_F)), (a_t_brings, .inl (tI, t_brings_N, .inl t_brings_F)), (a_t_owner, .inl (tI, t_owner_N, .inl t_owner_F)), (a_t_length, .inl (tI, t_length_N, .inl t_length_F)), (a_t_told, .inl (tI, t_told_N, .inl t_told_F)), (a_t_wide, .inl (tI, t_wide_N, .inl t_wide_F)), (a_t_high, .inl (tI, t_high_N, .inl t_high_F)), (a_t, .inr (7, [.int t_thrown, .int t_style, .int t_bands, .ref a_t_wide, .ref a_t_high, .ref a_t_begins, .int t_size, .ref o_t_bytes, .ref a_t_came, .ref o_t_width, .ref a_t_brings, .ref o_t_first, .ref o_t_missing, .ref a_t_told, .int t_pieces, .ref a_t_owner, .ref a_t_length, .ref o_t_layers, .int t_over, .ref o_t_low, .ref o_t_known, .int t_writing, .int t_begin, .int t_end, .int t_room, .int t_wrong, .int t_count])), (a_t_came, .inl (tI, t_came_N, .inl t_came_F))] := hD
    refine lv_iadd hx hb d_Mo_bring_124 ?_
    refine lv_topi (fun x21 ex21 => ?_)
    have hf := letb_of hf ex21
    refine lv_istore (lv' := [(6, .int x21), (0, .ref a_t), (3, .int v3), (4, .int v4), (5, .int v5), (7, .int v7)]) hx hb d_Mo_bring_125 hl (by decide) rfl (fun ls hl => ?_)
    obtain ⟨x22, ex22⟩ : ∃ y : Int32, y = v7 + 1 := ⟨_, rfl⟩
    have hf := letb_of hf ex22
    refine lv_iinc (v := x22) (lv' := [(7, .int x22), (6, .int x21), (0, .ref a_t), (3, .int v3), (4, .int v4), (5, .int v5)]) hx hb d_Mo_bring_127 hl (k := 5) rfl (by rw [ex22]; rfl) (by decide) rfl (fun ls hl => ?_)
    refine lv_goto (tgt := 79) hx hb d_Mo_bring_130 (by decide) ?_
    exact h79 t_brings_F t_owner_F t_length_F t_told_F t_thrown t_pieces v3 v4 v5 x21 x22 _ _ _ _ ls (hP.sub [0, 8, 1, 2, 3, 4, 7, 5, 6] rfl) (hD.sub [0, 8, 1, 2, 3, 4, 7, 5, 6] (by decide) rfl) hS (lv_sub hl [2, 3, 4, 5, 1, 0] rfl) hc hf
  have k_79 : ∀ n : Nat, ∀ (t_brings_F : Nat → Int32) (t_owner_F : Nat → Int32) (t_length_F : Nat → Int32) (t_told_F : Nat → Int32) (t_thrown : Int32) (t_pieces : Int32) (v3 : Int32) (v4 : Int32) (v5 : Int32) (v6 : Int32) (v7 : Int32) (H : Heap) (locs : List Loc) (cells slots : Nat) (ls : Array Slot), va_P (dC, dI) classes [(a_t_begins, .inl (tI, t_begins_N, .inl t_begins_F)), (a_t_came, .inl (tI, t_came_N, .inl t_came_F)), (a_t_brings, .inl (tI, t_brings_N, .inl t_brings_F)), (a_t_owner, .inl (tI, t_owner_N, .inl t_owner_F)), (a_t_length, .inl (tI, t_length_N, .inl t_length_F)), (a_t_told, .inl (tI, t_told_N, .inl t_told_F)), (a_t, .inr (7, [.int t_thrown, .int t_style, .int t_bands, .ref a_t_wide, .ref a_t_high, .ref a_t_begins, .int t_size, .ref o_t_bytes, .ref a_t_came, .ref o_t_width, .ref a_t_brings, .ref o_t_first, .ref o_t_missing, .ref a_t_told, .int t_pieces, .ref a_t_owner, .ref a_t_length, .ref o_t_layers, .int t_over, .ref o_t_low, .ref o_t_known, .int t_writing, .int t_begin, .int t_end, .int t_room, .int t_wrong, .int t_count])), (a_t_wide, .inl (tI, t_wide_N, .inl t_wide_F)), (a_t_high, .inl (tI, t_high_N, .inl t_high_F))] H → va_D A [(a_t_begins, .inl (tI, t_begins_N, .inl t_begins_F)), (a_t_came, .inl (tI, t_came_N, .inl t_came_F)), (a_t_brings, .inl (tI, t_brings_N, .inl t_brings_F)), (a_t_owner, .inl (tI, t_owner_N, .inl t_owner_F)), (a_t_length, .inl (tI, t_length_N, .inl t_length_F)), (a_t_told, .inl (tI, t_told_N, .inl t_told_F)), (a_t, .inr (7, [.int t_thrown, .int t_style, .int t_bands, .ref a_t_wide, .ref a_t_high, .ref a_t_begins, .int t_size, .ref o_t_bytes, .ref a_t_came, .ref o_t_width, .ref a_t_brings, .ref o_t_first, .ref o_t_missing, .ref a_t_told, .int t_pieces, .ref a_t_owner, .ref a_t_length, .ref o_t_layers, .int t_over, .ref o_t_low, .ref o_t_known, .int t_writing, .int t_begin, .int t_end, .int t_room, .int t_wrong, .int t_count])), (a_t_wide, .inl (tI, t_wide_N, .inl t_wide_F)), (a_t_high, .inl (tI, t_high_N, .inl t_high_F))] → va_S A s.heap H locs → lv_has ls 8 [(0, .ref a_t), (3, .int v3), (4, .int v4), (5, .int v5), (6, .int v6), (7, .int v7)] → (cells ≤ 0 ∧ slots ≤ 0) → f_Mo_bring_79 F t_style t_bands t_begins_N t_begins_F t_came_N t_came_F t_brings_N t_owner_N t_length_N t_told_N n t_brings_F t_owner_F t_length_F t_told_F t_thrown t_pieces v3 v4 v5 v6 v7 = some u → W p l e ({ frames := 3, cells := 0, slots := 0, locals := 68 } : Room) s m args below meth c H locs cells slots Q (F0 m 79 ls []) := by
    intro n
    induction n with
    | zero => intro t_brings_F t_owner_F t_length_F t_told_F t_thrown t_pieces v3 v4 v5 v6 v7 H locs cells slots ls hP hD hS hl hc hf; exact absurd hf (by intro h9; cases h9)
    | succ n h79 =>
      intro t_brings_F t_owner_F t_length_F t_told_F t_thrown t_pieces v3 v4 v5 v6 v7 H locs cells slots ls hP hD hS hl hc hf
      have hf : g_Mo_bring_79 F (f_Mo_bring_79 F t_style t_bands t_begins_N t_begins_F t_came_N t_came_F t_brings_N t_owner_N t_length_N t_told_N n) t_style t_bands t_begins_N t_begins_F t_came_N t_came_F t_brings_N t_owner_N t_length_N t_told_N t_brings_F t_owner_F t_length_F t_told_F t_thrown t_pieces v3 v4 v5 v6 v7 = some u := hf
      generalize (f_Mo_bring_79 F t_style t_bands t_begins_N t_begins_F t_came_N t_came_F t_brings_N t_owner_N t_length_N t_told_N n) = rec79 at hf h79
      unfold g_Mo_bring_79 at hf
      refine lv_iload hx hb d_Mo_bring_79 (lv_at hl 5 rfl) ?_
      refine lv_aload_n hx hb d_Mo_bring_81 rfl (lv_at hl 0 rfl) ?_
      refine va_get (D := (dC, dI)) (ci := 7) (v := .ref a_t_begins) (C := R_Mo) (T := F_Mo) (N := 27) hx hb hts i_Mo hown hK hP 6 rfl rfl 5 (by decide) (hts _ q_226) (fun _ h9 => h9) rfl d_Mo_bring_82 ?_
      refine lv_aload_n hx hb d_Mo_bring_85 rfl (lv_at hl 0 rfl) ?_
      refine va_get (D := (dC, dI)) (ci := 7) (v := .int t_bands) (C := R_Mo) (T := F_Mo) (N := 27) hx hb hts i_Mo hown hK hP 6 rfl rfl 2 (by decide) (hts _ q_242) (fun _ h9 => h9) rfl d_Mo_bring_86 ?_
      obtain ⟨hin9, hf⟩ := asm_of hf
      refine va_iald hx hb hK hP 0 0 rfl rfl hin9 d_Mo_bring_89 ?_
      refine lv_topi (fun x23 ex23 => ?_)
      have hf := letb_of hf ex23
      refine lv_icmp_ge (tgt := 133) hx hb d_Mo_bring_90 (by decide) (fun c0 => ?_) (fun c0 => ?_)
      · have hf := ite_t c0 hf
        exact k_133 t_brings_F t_owner_F t_length_F t_told_F t_thrown t_pieces v3 v4 v5 v6 _ _ _ _ ls hP hD hS (lv_sub hl [0, 1, 2, 3, 4] rfl) hc hf
      · have hf := ite_f c0 hf
        refine lv_iload hx hb d_Mo_bring_93 (lv_at hl 2 rfl) ?_
        refine lv_if_ne (tgt := 133) hx hb d_Mo_bring_95 (by decide) (fun c0 => ?_) (fun c0 => ?_)
        · have hf := ite_f c0 hf
          exact k_133 t_brings_F t_owner_F t_length_F t_told_F t_thrown t_pieces v3 v4 v5 v6 _ _ _ _ ls hP hD hS (lv_sub hl [0, 1, 2, 3, 4] rfl) hc hf
        · have hf := ite_t c0 hf
          refine lv_iload hx hb d_Mo_bring_98 (lv_at hl 4 rfl) ?_
          refine lv_aload_n hx hb d_Mo_bring_100 rfl (lv_at hl 0 rfl) ?_
          refine lv_iload hx hb d_Mo_bring_101 (lv_at hl 5 rfl) ?_
          refine lv_iload hx hb d_Mo_bring_103 (lv_at hl 5 rfl) ?_
          refine lv_iload hx hb d_Mo_bring_105 (lv_at hl 3 rfl) ?_
          refine lv_icmp_ne (tgt := 114) hx hb d_Mo_bring_107 (by decide) (fun c0 => ?_) (fun c0 => ?_)
          · have hf := ite_f c0 hf
            refine lv_aload_n hx hb d_Mo_bring_114 rfl (lv_at hl 0 rfl) ?_
            refine va_get (D := (dC, dI)) (ci := 7) (v := .ref a_t_brings) (C := R_Mo) (T := F_Mo) (N := 27) hx hb hts i_Mo hown hK hP 6 rfl rfl 10 (by decide) (hts _ q_220) (fun _ h9 => h9) rfl d_Mo_bring_115 ?_
            refine lv_iload hx hb d_Mo_bring_118 (lv_at hl 5 rfl) ?_
            obtain ⟨hin9, hf⟩ := asm_of hf
            refine va_iald hx hb hK hP 2 0 rfl rfl hin9 d_Mo_bring_120 ?_
            refine lv_topi (fun x24 ex24 => ?_)
            have hf := letb_of hf ex24
            exact k_121 rec79 h79 t_brings_F t_owner_F t_length_F t_told_F t_thrown t_pieces v3 v4 v5 v7 x24 v7 v6 _ _ _ _ ls hP hD hS (lv_sub hl [0, 1, 2, 3, 5] rfl) hc hf
          · have hf := ite_t c0 hf
            refine lv_iload_n hx hb d_Mo_bring_110 rfl (lv_at hl 1 rfl) ?_
            refine lv_goto (tgt := 121) hx hb d_Mo_bring_111 (by decide) ?_
            exact k_121 rec79 h79 t_brings_F t_owner_F t_length_F t_told_F t_thrown t_pieces v3 v4 v5 v7 v3 v7 v6 _ _ _ _ ls hP hD hS (lv_sub hl [0, 1, 2, 3, 5] rfl) hc hf
  have k_71 : ∀ (t_brings_F : Nat → Int32) (t_owner_F : Nat → Int32) (t_length_F : Nat → Int32) (t_told_F : Nat → Int32) (t_thrown : Int32) (t_pieces : Int32) (v3 : Int32) (v5 : Int32) (s0 : Int32) (H : Heap) (locs : List Loc) (cells slots : Nat) (ls : Array Slot), va_P (dC, dI) classes [(a_t_begins, .inl (tI, t_begins_N, .inl t_begins_F)), (a_t_came, .inl (tI, t_came_N, .inl t_came_F)), (a_t_brings, .inl (tI, t_brings_N, .inl t_brings_F)), (a_t_owner, .inl (tI, t_owner_N, .inl t_owner_F)), (a_t_length, .inl (tI, t_length_N, .inl t_length_F)), (a_t_told, .inl (tI, t_told_N, .inl t_told_F)), (a_t, .inr (7, [.int t_thrown, .int t_style, .int t_bands, .ref a_t_wide, .ref a_t_high, .ref a_t_begins, .int t_size, .ref o_t_bytes, .ref a_t_came, .ref o_t_width, .ref a_t_brings, .ref o_t_first, .ref o_t_missing, .ref a_t_told, .int t_pieces, .ref a_t_owner, .ref a_t_length, .ref o_t_layers, .int t_over, .ref o_t_low, .ref o_t_known, .int t_writing, .int t_begin, .int t_end, .int t_room, .int t_wrong, .int t_count])), (a_t_wide, .inl (tI, t_wide_N, .inl t_wide_F)), (a_t_high, .inl (tI, t_high_N, .inl t_high_F))] H → va_D A [(a_t_begins, .inl (tI, t_begins_N, .inl t_begins_F)), (a_t_came, .inl (tI, t_came_N, .inl t_came_F)), (a_t_brings, .inl (tI, t_brings_N, .inl t_brings_F)), (a_t_owner, .inl (tI, t_owner_N, .inl t_owner_F)), (a_t_length, .inl (tI, t_length_N, .inl t_length_F)), (a_t_told, .inl (tI, t_told_N, .inl t_told_F)), (a_t, .inr (7, [.int t_thrown, .int t_style, .int t_bands, .ref a_t_wide, .ref a_t_high, .ref a_t_begins, .int t_size, .ref o_t_bytes, .ref a_t_came, .ref o_t_width, .ref a_t_brings, .ref o_t_first, .ref o_t_missing, .ref a_t_told, .int t_pieces, .ref a_t_owner, .ref a_t_length, .ref o_t_layers, .int t_over, .ref o_t_low, .ref o_t_known, .int t_writing, .int t_begin, .int t_end, .int t_room, .int t_wrong, .int t_count])), (a_t_wide, .inl (tI, t_wide_N, .inl t_wide_F)), (a_t_high, .inl (tI, t_high_N, .inl t_high_F))] → va_S A s.heap H locs → lv_has ls 8 [(0, .ref a_t), (3, .int v3), (5, .int v5)] → (cells ≤ 0 ∧ slots ≤ 0) → g_Mo_bring_71 F t_style t_bands t_begins_N t_begins_F t_came_N t_came_F t_brings_N t_owner_N t_length_N t_told_N t_brings_F t_owner_F t_length_F t_told_F t_thrown t_pieces v3 v5 s0 = some u → W p l e ({ frames := 3, cells := 0, slots := 0, locals := 68 } : Room) s m args below meth c H locs cells slots Q (F0 m 71 ls [.int s0]) := by
    intro t_brings_F t_owner_F t_length_F t_told_F t_thrown t_pieces v3 v5 s0 H locs cells slots ls hP hD hS hl hc hf
    unfold g_Mo_bring_71 at hf
    refine lv_istore (lv' := [(4, .int s0), (0, .ref a_t), (3, .int v3), (5, .int v5)]) hx hb d_Mo_bring_71 hl (by decide) rfl (fun ls hl => ?_)
    refine lv_iconst (v := 0) hx hb d_Mo_bring_73 (by decide) ?_
    refine lv_istore (lv' := [(6, .int 0), (4, .int s0), (0, .ref a_t), (3, .int v3), (5, .int v5)]) hx hb d_Mo_bring_74 hl (by decide) rfl (fun ls hl => ?_)
    refine lv_iconst (v := 0) hx hb d_Mo_bring_76 (by decide) ?_
    refine lv_istore (lv' := [(7, .int 0), (6, .int 0), (4, .int s0), (0, .ref a_t), (3, .int v3), (5, .int v5)]) hx hb d_Mo_bring_77 hl (by decide) rfl (fun ls hl => ?_)
    exact k_79 F t_brings_F t_owner_F t_length_F t_told_F t_thrown t_pieces v3 s0 v5 0 0 _ _ _ _ ls hP hD hS (lv_sub hl [3, 4, 2, 5, 1, 0] rfl) hc hf
  have k_66 : ∀ (t_brings_F : Nat → Int32) (t_owner_F : Nat → Int32) (t_length_F : Nat → Int32) (t_told_F : Nat → Int32) (t_thrown : Int32) (t_pieces : Int32) (v3 : Int32) (v5 : Int32) (H : Heap) (locs : List Loc) (cells slots : Nat) (ls : Array Slot), va_P (dC, dI) classes [(a_t_begins, .inl (tI, t_begins_N, .inl t_begins_F)), (a_t_came, .inl (tI, t_came_N, .inl t_came_F)), (a_t_brings, .inl (tI, t_brings_N, .inl t_brings_F)), (a_t_owner, .inl (tI, t_owner_N, .inl t_owner_F)), (a_t_length, .inl (tI, t_length_N, .inl t_length_F)), (a_t_told, .inl (tI, t_told_N, .inl t_told_F)), (a_t, .inr (7, [.int t_thrown, .int t_style, .int t_bands, .ref a_t_wide, .ref a_t_high, .ref a_t_begins, .int t_size, .ref o_t_bytes, .ref a_t_came, .ref o_t_width, .ref a_t_brings, .ref o_t_first, .ref o_t_missing, .ref a_t_told, .int t_pieces, .ref a_t_owner, .ref a_t_length, .ref o_t_layers, .int t_over, .ref o_t_low, .ref o_t_known, .int t_writing, .int t_begin, .int t_end, .int t_room, .int t_wrong, .int t_count])), (a_t_wide, .inl (tI, t_wide_N, .inl t_wide_F)), (a_t_high, .inl (tI, t_high_N, .inl t_high_F))] H → va_D A [(a_t_begins, .inl (tI, t_begins_N, .inl t_begins_F)), (a_t_came, .inl (tI, t_came_N, .inl t_came_F)), (a_t_brings, .inl (tI, t_brings_N, .inl t_brings_F)), (a_t_owner, .inl (tI, t_owner_N, .inl t_owner_F)), (a_t_length, .inl (tI, t_length_N, .inl t_length_F)), (a_t_told, .inl (tI, t_told_N, .inl t_told_F)), (a_t, .inr (7, [.int t_thrown, .int t_style, .int t_bands, .ref a_t_wide, .ref a_t_high, .ref a_t_begins, .int t_size, .ref o_t_bytes, .ref a_t_came, .ref o_t_width, .ref a_t_brings, .ref o_t_first, .ref o_t_missing, .ref a_t_told, .int t_pieces, .ref a_t_owner, .ref a_t_length, .ref o_t_layers, .int t_over, .ref o_t_low, .ref o_t_known, .int t_writing, .int t_begin, .int t_end, .int t_room, .int t_wrong, .int t_count])), (a_t_wide, .inl (tI, t_wide_N, .inl t_wide_F)), (a_t_high, .inl (tI, t_high_N, .inl t_high_F))] → va_S A s.heap H locs → lv_has ls 8 [(0, .ref a_t), (3, .int v3), (5, .int v5)] → (cells ≤ 0 ∧ slots ≤ 0) → g_Mo_bring_66 F t_style t_bands t_begins_N t_begins_F t_came_N t_came_F t_brings_N t_owner_N t_length_N t_told_N t_brings_F t_owner_F t_length_F t_told_F t_thrown t_pieces v3 v5 = some u → W p l e ({ frames := 3, cells := 0, slots := 0, locals := 68 } : Room) s m args below meth c H locs cells slots Q (F0 m 66 ls []) := by
    intro t_brings_F t_owner_F t_length_F t_told_F t_thrown t_pieces v3 v5 H locs cells slots ls hP hD hS hl hc hf
    unfold g_Mo_bring_66 at hf
    refine lv_iconst (v := 1) hx hb d_Mo_bring_66 (by decide) ?_
    refine lv_goto (tgt := 71) hx hb d_Mo_bring_67 (by decide) ?_
    exact k_71 t_brings_F t_owner_F t_length_F t_told_F t_thrown t_pieces v3 v5 1 _ _ _ _ ls hP hD hS hl hc hf
  have k_44 : ∀ (t_brings_F : Nat → Int32) (t_owner_F : Nat → Int32) (t_length_F : Nat → Int32) (t_told_F : Nat → Int32) (t_thrown : Int32) (t_pieces : Int32) (v3 : Int32) (v4 : Int32) (s0 : Int32) (H : Heap) (locs : List Loc) (cells slots : Nat) (ls : Array Slot), va_P (dC, dI) classes [(a_t_begins, .inl (tI, t_begins_N, .inl t_begins_F)), (a_t_came, .inl (tI, t_came_N, .inl t_came_F)), (a_t_brings, .inl (tI, t_brings_N, .inl t_brings_F)), (a_t_owner, .inl (tI, t_owner_N, .inl t_owner_F)), (a_t_length, .inl (tI, t_length_N, .inl t_length_F)), (a_t_told, .inl (tI, t_told_N, .inl t_told_F)), (a_t, .inr (7, [.int t_thrown, .int t_style, .int t_bands, .ref a_t_wide, .ref a_t_high, .ref a_t_begins, .int t_size, .ref o_t_bytes, .ref a_t_came, .ref o_t_width, .ref a_t_brings, .ref o_t_first, .ref o_t_missing, .ref a_t_told, .int t_pieces, .ref a_t_owner, .ref a_t_length, .ref o_t_layers, .int t_over, .ref o_t_low, .ref o_t_known, .int t_writing, .int t_begin, .int t_end, .int t_room, .int t_wrong, .int t_count])), (a_t_wide, .inl (tI, t_wide_N, .inl t_wide_F)), (a_t_high, .inl (tI, t_high_N, .inl t_high_F))] H → va_D A [(a_t_begins, .inl (tI, t_begins_N, .inl t_begins_F)), (a_t_came, .inl (tI, t_came_N, .inl t_came_F)), (a_t_brings, .inl (tI, t_brings_N, .inl t_brings_F)), (a_t_owner, .inl (tI, t_owner_N, .inl t_owner_F)), (a_t_length, .inl (tI, t_length_N, .inl t_length_F)), (a_t_told, .inl (tI, t_told_N, .inl t_told_F)), (a_t, .inr (7, [.int t_thrown, .int t_style, .int t_bands, .ref a_t_wide, .ref a_t_high, .ref a_t_begins, .int t_size, .ref o_t_bytes, .ref a_t_came, .ref o_t_width, .ref a_t_brings, .ref o_t_first, .ref o_t_missing, .ref a_t_told, .int t_pieces, .ref a_t_owner, .ref a_t_length, .ref o_t_layers, .int t_over, .ref o_t_low, .ref o_t_known, .int t_writing, .int t_begin, .int t_end, .int t_room, .int t_wrong, .int t_count])), (a_t_wide, .inl (tI, t_wide_N, .inl t_wide_F)), (a_t_high, .inl (tI, t_high_N, .inl t_high_F))] → va_S A s.heap H locs → lv_has ls 8 [(0, .ref a_t), (3, .int v3), (4, .int v4)] → (cells ≤ 0 ∧ slots ≤ 0) → g_Mo_bring_44 F t_style t_bands t_begins_N t_begins_F t_came_N t_came_F t_brings_N t_owner_N t_length_N t_told_N t_brings_F t_owner_F t_length_F t_told_F t_thrown t_pieces v3 v4 s0 = some u → W p l e ({ frames := 3, cells := 0, slots := 0, locals := 68 } : Room) s m args below meth c H locs cells slots Q (F0 m 44 ls [.int s0]) := by
    intro t_brings_F t_owner_F t_length_F t_told_F t_thrown t_pieces v3 v4 s0 H locs cells slots ls hP hD hS hl hc hf
    unfold g_Mo_bring_44 at hf
    refine lv_istore (lv' := [(5, .int s0), (0, .ref a_t), (3, .int v3), (4, .int v4)]) hx hb d_Mo_bring_44 hl (by decide) rfl (fun ls hl => ?_)
    refine lv_iload hx hb d_Mo_bring_46 (lv_at hl 3 rfl) ?_
    refine lv_if_ne (tgt := 66) hx hb d_Mo_bring_48 (by decide) (fun c0 => ?_) (fun c0 => ?_)
    · have hf := ite_f c0 hf
      exact k_66 t_brings_F t_owner_F t_length_F t_told_F t_thrown t_pieces v3 s0 _ _ _ _ ls hP hD hS (lv_sub hl [1, 2, 0] rfl) hc hf
    · have hf := ite_t c0 hf
      refine lv_aload_n hx hb d_Mo_bring_51 rfl (lv_at hl 1 rfl) ?_
      refine va_get (D := (dC, dI)) (ci := 7) (v := .ref a_t_came) (C := R_Mo) (T := F_Mo) (N := 27) hx hb hts i_Mo hown hK hP 6 rfl rfl 8 (by decide) (hts _ q_218) (fun _ h9 => h9) rfl d_Mo_bring_52 ?_
      refine lv_iload hx hb d_Mo_bring_55 (lv_at hl 0 rfl) ?_
      obtain ⟨hin9, hf⟩ := asm_of hf
      refine va_iald hx hb hK hP 1 0 rfl rfl hin9 d_Mo_bring_57 ?_
      refine lv_topi (fun x25 ex25 => ?_)
      have hf := letb_of hf ex25
      refine lv_iload_n hx hb d_Mo_bring_58 rfl (lv_at hl 2 rfl) ?_
      refine lv_iadd hx hb d_Mo_bring_59 ?_
      refine lv_topi (fun x26 ex26 => ?_)
      have hf := letb_of hf ex26
      refine lv_sipush (v := 200) hx hb d_Mo_bring_60 (by decide) ?_
      refine lv_icmp_le (tgt := 70) hx hb d_Mo_bring_63 (by decide) (fun c0 => ?_) (fun c0 => ?_)
      · have hf := ite_t c0 hf
        refine lv_iconst (v := 0) hx hb d_Mo_bring_70 (by decide) ?_
        exact k_71 t_brings_F t_owner_F t_length_F t_told_F t_thrown t_pieces v3 s0 0 _ _ _ _ ls hP hD hS (lv_sub hl [1, 2, 0] rfl) hc hf
      · have hf := ite_f c0 hf
        exact k_66 t_brings_F t_owner_F t_length_F t_told_F t_thrown t_pieces v3 s0 _ _ _ _ ls hP hD hS (lv_sub hl [1, 2, 0] rfl) hc hf
  have k_25 : ∀ (t_brings_F : Nat → Int32) (t_owner_F : Nat → Int32) (t_length_F : Nat → Int32) (t_told_F : Nat → Int32) (t_thrown : Int32) (t_pieces : Int32) (v1 : Int32) (v2 : Int32) (v3 : Int32) (s0 : Int32) (H : Heap) (locs : List Loc) (cells slots : Nat) (ls : Array Slot), va_P (dC, dI) classes [(a_t_begins, .inl (tI, t_begins_N, .inl t_begins_F)), (a_t_came, .inl (tI, t_came_N, .inl t_came_F)), (a_t_brings, .inl (tI, t_brings_N, .inl t_brings_F)), (a_t_owner, .inl (tI, t_owner_N, .inl t_owner_F)), (a_t_length, .inl (tI, t_length_N, .inl t_length_F)), (a_t_told, .inl (tI, t_told_N, .inl t_told_F)), (a_t, .inr (7, [.int t_thrown, .int t_style, .int t_bands, .ref a_t_wide, .ref a_t_high, .ref a_t_begins, .int t_size, .ref o_t_bytes, .ref a_t_came, .ref o_t_width, .ref a_t_brings, .ref o_t_first, .ref o_t_missing, .ref a_t_told, .int t_pieces, .ref a_t_owner, .ref a_t_length, .ref o_t_layers, .int t_over, .ref o_t_low, .ref o_t_known, .int t_writing, .int t_begin, .int t_end, .int t_room, .int t_wrong, .int t_count])), (a_t_wide, .inl (tI, t_wide_N, .inl t_wide_F)), (a_t_high, .inl (tI, t_high_N, .inl t_high_F))] H → va_D A [(a_t_begins, .inl (tI, t_begins_N, .inl t_begins_F)), (a_t_came, .inl (tI, t_came_N, .inl t_came_F)), (a_t_brings, .inl (tI, t_brings_N, .inl t_brings_F)), (a_t_owner, .inl (tI, t_owner_N, .inl t_owner_F)), (a_t_length, .inl (tI, t_length_N, .inl t_length_F)), (a_t_told, .inl (tI, t_told_N, .inl t_told_F)), (a_t, .inr (7, [.int t_thrown, .int t_style, .int t_bands, .ref a_t_wide, .ref a_t_high, .ref a_t_begins, .int t_size, .ref o_t_bytes, .ref a_t_came, .ref o_t_width, .ref a_t_brings, .ref o_t_first, .ref o_t_missing, .ref a_t_told, .int t_pieces, .ref a_t_owner, .ref a_t_length, .ref o_t_layers, .int t_over, .ref o_t_low, .ref o_t_known, .int t_writing, .int t_begin, .int t_end, .int t_room, .int t_wrong, .int t_count])), (a_t_wide, .inl (tI, t_wide_N, .inl t_wide_F)), (a_t_high, .inl (tI, t_high_N, .inl t_high_F))] → va_S A s.heap H locs → lv_has ls 8 [(0, .ref a_t), (1, .int v1), (2, .int v2), (3, .int v3)] → (cells ≤ 0 ∧ slots ≤ 0) → g_Mo_bring_25 F t_style t_bands t_begins_N t_begins_F t_came_N t_came_F t_brings_N t_owner_N t_length_N t_told_N t_brings_F t_owner_F t_length_F t_told_F t_thrown t_pieces v1 v2 v3 s0 = some u → W p l e ({ frames := 3, cells := 0, slots := 0, locals := 68 } : Room) s m args below meth c H locs cells slots Q (F0 m 25 ls [.int s0]) := by
    intro t_brings_F t_owner_F t_length_F t_told_F t_thrown t_pieces v1 v2 v3 s0 H locs cells slots ls hP hD hS hl hc hf
    unfold g_Mo_bring_25 at hf
    refine lv_istore (lv' := [(4, .int s0), (0, .ref a_t), (1, .int v1), (2, .int v2), (3, .int v3)]) hx hb d_Mo_bring_25 hl (by decide) rfl (fun ls hl => ?_)
    refine lv_iload hx hb d_Mo_bring_27 (lv_at hl 0 rfl) ?_
    refine lv_if_eq (tgt := 36) hx hb d_Mo_bring_29 (by decide) (fun c0 => ?_) (fun c0 => ?_)
    · have hf := ite_t c0 hf
      refine lv_aload_n hx hb d_Mo_bring_36 rfl (lv_at hl 1 rfl) ?_
      refine va_get (D := (dC, dI)) (ci := 7) (v := .ref a_t_begins) (C := R_Mo) (T := F_Mo) (N := 27) hx hb hts i_Mo hown hK hP 6 rfl rfl 5 (by decide) (hts _ q_226) (fun _ h9 => h9) rfl d_Mo_bring_37 ?_
      refine lv_iload_n hx hb d_Mo_bring_40 rfl (lv_at hl 2 rfl) ?_
      obtain ⟨hin9, hf⟩ := asm_of hf
      refine va_iald hx hb hK hP 0 0 rfl rfl hin9 d_Mo_bring_41 ?_
      refine lv_topi (fun x27 ex27 => ?_)
      have hf := letb_of hf ex27
      refine lv_iload_n hx hb d_Mo_bring_42 rfl (lv_at hl 3 rfl) ?_
      refine lv_iadd hx hb d_Mo_bring_43 ?_
      refine lv_topi (fun x28 ex28 => ?_)
      have hf := letb_of hf ex28
      exact k_44 t_brings_F t_owner_F t_length_F t_told_F t_thrown t_pieces v3 s0 x28 _ _ _ _ ls hP hD hS (lv_sub hl [1, 4, 0] rfl) hc hf
    · have hf := ite_f c0 hf
      refine lv_iconst (v := 0) hx hb d_Mo_bring_32 (by decide) ?_
      refine lv_goto (tgt := 44) hx hb d_Mo_bring_33 (by decide) ?_
      exact k_44 t_brings_F t_owner_F t_length_F t_told_F t_thrown t_pieces v3 s0 0 _ _ _ _ ls hP hD hS (lv_sub hl [1, 4, 0] rfl) hc hf
  have k_20 : ∀ (t_brings_F : Nat → Int32) (t_owner_F : Nat → Int32) (t_length_F : Nat → Int32) (t_told_F : Nat → Int32) (t_thrown : Int32) (t_pieces : Int32) (v1 : Int32) (v2 : Int32) (v3 : Int32) (H : Heap) (locs : List Loc) (cells slots : Nat) (ls : Array Slot), va_P (dC, dI) classes [(a_t_begins, .inl (tI, t_begins_N, .inl t_begins_F)), (a_t_came, .inl (tI, t_came_N, .inl t_came_F)), (a_t_brings, .inl (tI, t_brings_N, .inl t_brings_F)), (a_t_owner, .inl (tI, t_owner_N, .inl t_owner_F)), (a_t_length, .inl (tI, t_length_N, .inl t_length_F)), (a_t_told, .inl (tI, t_told_N, .inl t_told_F)), (a_t, .inr (7, [.int t_thrown, .int t_style, .int t_bands, .ref a_t_wide, .ref a_t_high, .ref a_t_begins, .int t_size, .ref o_t_bytes, .ref a_t_came, .ref o_t_width, .ref a_t_brings, .ref o_t_first, .ref o_t_missing, .ref a_t_told, .int t_pieces, .ref a_t_owner, .ref a_t_length, .ref o_t_layers, .int t_over, .ref o_t_low, .ref o_t_known, .int t_writing, .int t_begin, .int t_end, .int t_room, .int t_wrong, .int t_count])), (a_t_wide, .inl (tI, t_wide_N, .inl t_wide_F)), (a_t_high, .inl (tI, t_high_N, .inl t_high_F))] H → va_D A [(a_t_begins, .inl (tI, t_begins_N, .inl t_begins_F)), (a_t_came, .inl (tI, t_came_N, .inl t_came_F)), (a_t_brings, .inl (tI, t_brings_N, .inl t_brings_F)), (a_t_owner, .inl (tI, t_owner_N, .inl t_owner_F)), (a_t_length, .inl (tI, t_length_N, .inl t_length_F)), (a_t_told, .inl (tI, t_told_N, .inl t_told_F)), (a_t, .inr (7, [.int t_thrown, .int t_style, .int t_bands, .ref a_t_wide, .ref a_t_high, .ref a_t_begins, .int t_size, .ref o_t_bytes, .ref a_t_came, .ref o_t_width, .ref a_t_brings, .ref o_t_first, .ref o_t_missing, .ref a_t_told, .int t_pieces, .ref a_t_owner, .ref a_t_length, .ref o_t_layers, .int t_over, .ref o_t_low, .ref o_t_known, .int t_writing, .int t_begin, .int t_end, .int t_room, .int t_wrong, .int t_count])), (a_t_wide, .inl (tI, t_wide_N, .inl t_wide_F)), (a_t_high, .inl (tI, t_high_N, .inl t_high_F))] → va_S A s.heap H locs → lv_has ls 8 [(0, .ref a_t), (1, .int v1), (2, .int v2), (3, .int v3)] → (cells ≤ 0 ∧ slots ≤ 0) → g_Mo_bring_20 F t_style t_bands t_begins_N t_begins_F t_came_N t_came_F t_brings_N t_owner_N t_length_N t_told_N t_brings_F t_owner_F t_length_F t_told_F t_thrown t_pieces v1 v2 v3 = some u → W p l e ({ frames := 3, cells := 0, slots := 0, locals := 68 } : Room) s m args below meth c H locs cells slots Q (F0 m 20 ls []) := by
    intro t_brings_F t_owner_F t_length_F t_told_F t_thrown t_pieces v1 v2 v3 H locs cells slots ls hP hD hS hl hc hf
    unfold g_Mo_bring_20 at hf
    refine lv_iconst (v := 1) hx hb d_Mo_bring_20 (by decide) ?_
    refine lv_goto (tgt := 25) hx hb d_Mo_bring_21 (by decide) ?_
    exact k_25 t_brings_F t_owner_F t_length_F t_told_F t_thrown t_pieces v1 v2 v3 1 _ _ _ _ ls hP hD hS hl hc hf
  have hc : 0 ≤ 0 ∧ 0 ≤ 0 := ⟨Nat.le_refl 0, Nat.le_refl 0⟩
  unfold f_Mo_bring at hf
  refine lv_aload_n hx hb d_Mo_bring_0 rfl (lv_at hl 0 rfl) ?_
  refine lv_iload_n hx hb d_Mo_bring_1 rfl (lv_at hl 1 rfl) ?_
  refine lv_iload_n hx hb d_Mo_bring_2 rfl (lv_at hl 2 rfl) ?_
  obtain ⟨u29, hu, hf⟩ := bd_of hf
  refine jn_i (wc := [(a_t, .inr (7, [.int t_thrown, .int t_style, .int t_bands, .ref a_t_wide, .ref a_t_high, .ref a_t_begins, .int t_size, .ref o_t_bytes, .ref a_t_came, .ref o_t_width, .ref a_t_brings, .ref o_t_first, .ref o_t_missing, .ref a_t_told, .int t_pieces, .ref a_t_owner, .ref a_t_length, .ref o_t_layers, .int t_over, .ref o_t_low, .ref o_t_known, .int t_writing, .int t_begin, .int t_end, .int t_room, .int t_wrong, .int t_count])), (a_t_wide, .inl (tI, t_wide_N, .inl t_wide_F)), (a_t_high, .inl (tI, t_high_N, .inl t_high_F))]) (wr := [(a_t_begins, .inl (tI, t_begins_N, .inl t_begins_F)), (a_t_came, .inl (tI, t_came_N, .inl t_came_F)), (a_t_brings, .inl (tI, t_brings_N, .inl t_brings_F)), (a_t_owner, .inl (tI, t_owner_N, .inl t_owner_F)), (a_t_length, .inl (tI, t_length_N, .inl t_length_F)), (a_t_told, .inl (tI, t_told_N, .inl t_told_F))]) (va_runV (As := [.int p0, .int p1]) (rest := []) ⟨hx, hb, hml, hown, hts⟩ (c_Mo_isBlock l dC dI tI tB tL tZ a_t a_t_wide a_t_high a_t_begins o_t_bytes a_t_came o_t_width a_t_brings o_t_first o_t_missing a_t_told a_t_owner a_t_length o_t_layers o_t_low o_t_known H.size t_thrown t_style t_bands t_size t_pieces t_over t_writing t_begin t_end t_room t_wrong t_count t_wide_N t_wide_F t_high_N t_high_F p0 p1 F u29 hu) (cv_of hts q_256 q_214 q_255 q_257 q_258 hd_Mo_isBlock ⟨Nat.le_of_ble_eq_true rfl, Nat.le_of_ble_eq_true rfl⟩) (pr_V (ci := 7) (C := R_Mo) (q0 := 0) hK hN (hP.sub [0, 1, 2] rfl) (hD.sub [0, 1, 2] (by decide) rfl) rfl rfl) rfl rfl hl.1 rfl (lv_room (Nat.le_of_ble_eq_true rfl)) d_Mo_bring_3 hc) hP hD hS hA [0, 1, 2] [3, 4, 5, 6, 7, 8] rfl rfl (by decide) (by decide) (fun r9 _ H locs hw hP hD hS => ?_)
  subst r9
  have hP : va_P (dC, dI) classes [(a_t_begins, .inl (tI, t_begins_N, .inl t_begins_F)), (a_t_came, .inl (tI, t_came_N, .inl t_came_F)), (a_t_brings, .inl (tI, t_brings_N, .inl t_brings_F)), (a_t_owner, .inl (tI, t_owner_N, .inl t_owner_F)), (a_t_length, .inl (tI, t_length_N, .inl t_length_F)), (a_t_told, .inl (tI, t_told_N, .inl t_told_F)), (a_t, .inr (7, [.int t_thrown, .int t_style, .int t_bands, .ref a_t_wide, .ref a_t_high, .ref a_t_begins, .int t_size, .ref o_t_bytes, .ref a_t_came, .ref o_t_width, .ref a_t_brings, .ref o_t_first, .ref o_t_missing, .ref a_t_told, .int t_pieces, .ref a_t_owner, .ref a_t_length, .ref o_t_layers, .int t_over, .ref o_t_low, .ref o_t_known, .int t_writing, .int t_begin, .int t_end, .int t_room, .int t_wrong, .int t_count])), (a_t_wide, .inl (tI, t_wide_N, .inl t_wide_F)), (a_t_high, .inl (tI, t_high_N, .inl t_high_F))] H := hP
  have hD : va_D A [(a_t_begins, .inl (tI, t_begins_N, .inl t_begins_F)), (a_t_came, .inl (tI, t_came_N, .inl t_came_F)), (a_t_brings, .inl (tI, t_brings_N, .inl t_brings_F)), (a_t_owner, .inl (tI, t_owner_N, .inl t_owner_F)), (a_t_length, .inl (tI, t_length_N, .inl t_length_F)), (a_t_told, .inl (tI, t_told_N, .inl t_told_F)), (a_t, .inr (7, [.int t_thrown, .int t_style, .int t_bands, .ref a_t_wide, .ref a_t_high, .ref a_t_begins, .int t_size, .ref o_t_bytes, .ref a_t_came, .ref o_t_width, .ref a_t_brings, .ref o_t_first, .ref o_t_missing, .ref a_t_told, .int t_pieces, .ref a_t_owner, .ref a_t_length, .ref o_t_layers, .int t_over, .ref o_t_low, .ref o_t_known, .int t_writing, .int t_begin, .int t_end, .int t_room, .int t_wrong, .int t_count])), (a_t_wide, .inl (tI, t_wide_N, .inl t_wide_F)), (a_t_high, .inl (tI, t_high_N, .inl t_high_F))] := hD
  refine lv_if_eq (tgt := 20) hx hb d_Mo_bring_6 (by decide) (fun c0 => ?_) (fun c0 => ?_)
  · have hf := ite_t c0 hf
    exact k_20 t_brings_F t_owner_F t_length_F t_told_F t_thrown t_pieces p0 p1 p2 _ _ _ _ ls hP hD hS hl hc hf
  · have hf := ite_f c0 hf
    refine lv_iload_n hx hb d_Mo_bring_9 rfl (lv_at hl 3 rfl) ?_
    refine lv_iconst (v := 0) hx hb d_Mo_bring_10 (by decide) ?_
    refine lv_sipush (v := 164) hx hb d_Mo_bring_11 (by decide) ?_
    obtain ⟨u30, hu, hf⟩ := bd_of hf
    refine jn_i (wc := []) (wr := [(a_t_begins, .inl (tI, t_begins_N, .inl t_begins_F)), (a_t_came, .inl (tI, t_came_N, .inl t_came_F)), (a_t_brings, .inl (tI, t_brings_N, .inl t_brings_F)), (a_t_owner, .inl (tI, t_owner_N, .inl t_owner_F)), (a_t_length, .inl (tI, t_length_N, .inl t_length_F)), (a_t_told, .inl (tI, t_told_N, .inl t_told_F)), (a_t, .inr (7, [.int t_thrown, .int t_style, .int t_bands, .ref a_t_wide, .ref a_t_high, .ref a_t_begins, .int t_size, .ref o_t_bytes, .ref a_t_came, .ref o_t_width, .ref a_t_brings, .ref o_t_first, .ref o_t_missing, .ref a_t_told, .int t_pieces, .ref a_t_owner, .ref a_t_length, .ref o_t_layers, .int t_over, .ref o_t_low, .ref o_t_known, .int t_writing, .int t_begin, .int t_end, .int t_room, .int t_wrong, .int t_count])), (a_t_wide, .inl (tI, t_wide_N, .inl t_wide_F)), (a_t_high, .inl (tI, t_high_N, .inl t_high_F))]) (va_runS (As := [.int p2, .int 0, .int 164]) (rest := []) ⟨hx, hb, hml, hown, hts⟩ (c_Mo_out l dC dI tI tB tL tZ H.size p2 0 164 F u30 hu) (cs_of hts q_245 q_214 q_244 q_246 hd_Mo_out ⟨Nat.le_of_ble_eq_true rfl, Nat.le_of_ble_eq_true rfl⟩) (pr_S hK hN (hP.sub [] rfl) (hD.sub [] (by decide) rfl)) rfl rfl hl.1 rfl (lv_room (Nat.le_of_ble_eq_true rfl)) d_Mo_bring_14 hc) hP hD hS hA [] [0, 1, 2, 3, 4, 5, 6, 7, 8] rfl rfl (by decide) (by decide) (fun r9 _ H locs hw hP hD hS => ?_)
    subst r9
    have hP : va_P (dC, dI) classes [(a_t_begins, .inl (tI, t_begins_N, .inl t_begins_F)), (a_t_came, .inl (tI, t_came_N, .inl t_came_F)), (a_t_brings, .inl (tI, t_brings_N, .inl t_brings_F)), (a_t_owner, .inl (tI, t_owner_N, .inl t_owner_F)), (a_t_length, .inl (tI, t_length_N, .inl t_length_F)), (a_t_told, .inl (tI, t_told_N, .inl t_told_F)), (a_t, .inr (7, [.int t_thrown, .int t_style, .int t_bands, .ref a_t_wide, .ref a_t_high, .ref a_t_begins, .int t_size, .ref o_t_bytes, .ref a_t_came, .ref o_t_width, .ref a_t_brings, .ref o_t_first, .ref o_t_missing, .ref a_t_told, .int t_pieces, .ref a_t_owner, .ref a_t_length, .ref o_t_layers, .int t_over, .ref o_t_low, .ref o_t_known, .int t_writing, .int t_begin, .int t_end, .int t_room, .int t_wrong, .int t_count])), (a_t_wide, .inl (tI, t_wide_N, .inl t_wide_F)), (a_t_high, .inl (tI, t_high_N, .inl t_high_F))] H := hP
    have hD : va_D A [(a_t_begins, .inl (tI, t_begins_N, .inl t_begins_F)), (a_t_came, .inl (tI, t_came_N, .inl t_came_F)), (a_t_brings, .inl (tI, t_brings_N, .inl t_brings_F)), (a_t_owner, .inl (tI, t_owner_N, .inl t_owner_F)), (a_t_length, .inl (tI, t_length_N, .inl t_length_F)), (a_t_told, .inl (tI, t_told_N, .inl t_told_F)), (a_t, .inr (7, [.int t_thrown, .int t_style, .int t_bands, .ref a_t_wide, .ref a_t_high, .ref a_t_begins, .int t_size, .ref o_t_bytes, .ref a_t_came, .ref o_t_width, .ref a_t_brings, .ref o_t_first, .ref o_t_missing, .ref a_t_told, .int t_pieces, .ref a_t_owner, .ref a_t_length, .ref o_t_layers, .int t_over, .ref o_t_low, .ref o_t_known, .int t_writing, .int t_begin, .int t_end, .int t_room, .int t_wrong, .int t_count])), (a_t_wide, .inl (tI, t_wide_N, .inl t_wide_F)), (a_t_high, .inl (tI, t_high_N, .inl t_high_F))] := hD
    refine lv_if_eq (tgt := 24) hx hb d_Mo_bring_17 (by decide) (fun c0 => ?_) (fun c0 => ?_)
    · have hf := ite_t c0 hf
      refine lv_iconst (v := 0) hx hb d_Mo_bring_24 (by decide) ?_
      exact k_25 t_brings_F t_owner_F t_length_F t_told_F t_thrown t_pieces p0 p1 p2 0 _ _ _ _ ls hP hD hS hl hc hf
    · have hf := ite_f c0 hf
      exact k_20 t_brings_F t_owner_F t_length_F t_told_F t_thrown t_pieces p0 p1 p2 _ _ _ _ ls hP hD hS hl hc hf
noncomputable def g_Mo_piece_81 (F : Nat) (t_told_N : Nat) (t_owner_N : Nat) (t_length_N : Nat) (t_told_F : Nat → Int32) (t_owner_F : Nat → Int32) (t_length_F : Nat → Int32) (t_thrown : Int32) (t_pieces : Int32) (v3 : Int32) (v5 : Int32) (s0 : Int32) (s1 : Int32) : Option (Int32 × Int32 × Int32 × (Nat → Int32) × (Nat → Int32) × (Nat → Int32)) :=
bd (f_Mo_throwing F t_thrown s1 s0 0) fun u11 =>
if u11.1 = 0 then (
bd (f_Mo_add F t_pieces t_owner_N t_owner_F t_length_N t_length_F t_told_N t_told_F v5 v3) fun u12 =>
asm (vp_in v5 t_told_N) (letb (u12.2.2.2 v5.toNatClampNeg) fun x13 =>
some (x13, u11.2, u12.1, u12.2.2.2, u12.2.1, u12.2.2.1))) else (
some (0, u11.2, t_pieces, t_told_F, t_owner_F, t_length_F))
noncomputable def g_Mo_piece_80 (F : Nat) (t_told_N : Nat) (t_owner_N : Nat) (t_length_N : Nat) (t_told_F : Nat → Int32) (t_owner_F : Nat → Int32) (t_length_F : Nat → Int32) (t_thrown : Int32) (t_pieces : Int32) (v3 : Int32) (v5 : Int32) (s0 : Int32) : Option (Int32 × Int32 × Int32 × (Nat → Int32) × (Nat → Int32) × (Nat → Int32)) :=
g_Mo_piece_81 F t_told_N t_owner_N t_length_N t_told_F t_owner_F t_length_F t_thrown t_pieces v3 v5 0 s0
noncomputable def g_Mo_piece_43 (F : Nat) (t_style : Int32) (t_told_N : Nat) (t_came_N : Nat) (t_came_F : Nat → Int32) (t_brings_N : Nat) (t_brings_F : Nat → Int32) (t_owner_N : Nat) (t_length_N : Nat) (t_told_F : Nat → Int32) (t_owner_F : Nat → Int32) (t_length_F : Nat → Int32) (t_thrown : Int32) (t_pieces : Int32) (v3 : Int32) (v4 : Int32) (s0 : Int32) : Option (Int32 × Int32 × Int32 × (Nat → Int32) × (Nat → Int32) × (Nat → Int32)) :=
if v4 = 0 then (
asm (vp_in s0 t_told_N) (letb (t_told_F s0.toNatClampNeg) fun x14 =>
asm (vp_in s0 t_brings_N) (letb (t_brings_F s0.toNatClampNeg) fun x15 =>
bd (f_Mo_piecesOf F t_style t_came_N t_came_F s0 x15) fun u16 =>
if x14 = u16 then (
g_Mo_piece_81 F t_told_N t_owner_N t_length_N t_told_F t_owner_F t_length_F t_thrown t_pieces v3 s0 1 v4) else (
g_Mo_piece_80 F t_told_N t_owner_N t_length_N t_told_F t_owner_F t_length_F t_thrown t_pieces v3 s0 v4)))) else (
g_Mo_piece_80 F t_told_N t_owner_N t_length_N t_told_F t_owner_F t_length_F t_thrown t_pieces v3 s0 v4)
noncomputable def g_Mo_piece_24 (F : Nat) (t_style : Int32) (t_begins_N : Nat) (t_begins_F : Nat → Int32) (t_told_N : Nat) (t_came_N : Nat) (t_came_F : Nat → Int32) (t_brings_N : Nat) (t_brings_F : Nat → Int32) (t_owner_N : Nat) (t_length_N : Nat) (t_told_F : Nat → Int32) (t_owner_F : Nat → Int32) (t_length_F : Nat → Int32) (t_thrown : Int32) (t_pieces : Int32) (v1 : Int32) (v2 : Int32) (v3 : Int32) (s0 : Int32) : Option (Int32 × Int32 × Int32 × (Nat → Int32) × (Nat → Int32) × (Nat → Int32)) :=
if s0 = 0 then (
asm (vp_in v1 t_begins_N) (letb (t_begins_F v1.toNatClampNeg) fun x17 =>
letb (x17 + v2) fun x18 =>
g_Mo_piece_43 F t_style t_told_N t_came_N t_came_F t_brings_N t_brings_F t_owner_N t_length_N t_told_F t_owner_F t_length_F t_thrown t_pieces v3 s0 x18)) else (
g_Mo_piece_43 F t_style t_told_N t_came_N t_came_F t_brings_N t_brings_F t_owner_N t_length_N t_told_F t_owner_F t_length_F t_thrown t_pieces v3 s0 0)
noncomputable def g_Mo_piece_19 (F : Nat) (t_style : Int32) (t_begins_N : Nat) (t_begins_F : Nat → Int32) (t_told_N : Nat) (t_came_N : Nat) (t_came_F : Nat → Int32) (t_brings_N : Nat) (t_brings_F : Nat → Int32) (t_owner_N : Nat) (t_length_N : Nat) (t_told_F : Nat → Int32) (t_owner_F : Nat → Int32) (t_length_F : Nat → Int32) (t_thrown : Int32) (t_pieces : Int32) (v1 : Int32) (v2 : Int32) (v3 : Int32) : Option (Int32 × Int32 × Int32 × (Nat → Int32) × (Nat → Int32) × (Nat → Int32)) :=
g_Mo_piece_24 F t_style t_begins_N t_begins_F t_told_N t_came_N t_came_F t_brings_N t_brings_F t_owner_N t_length_N t_told_F t_owner_F t_length_F t_thrown t_pieces v1 v2 v3 1
noncomputable def f_Mo_piece (F : Nat) (t_thrown : Int32) (t_style : Int32) (t_bands : Int32) (t_pieces : Int32) (t_wide_N : Nat) (t_wide_F : Nat → Int32) (t_high_N : Nat) (t_high_F : Nat → Int32) (t_begins_N : Nat) (t_begins_F : Nat → Int32) (t_told_N : Nat) (t_told_F : Nat → Int32) (t_came_N : Nat) (t_came_F : Nat → Int32) (t_brings_N : Nat) (t_brings_F : Nat → Int32) (t_owner_N : Nat) (t_owner_F : Nat → Int32) (t_length_N : Nat) (t_length_F : Nat → Int32) (p0 : Int32) (p1 : Int32) (p2 : Int32) : Option (Int32 × Int32 × Int32 × (Nat → Int32) × (Nat → Int32) × (Nat → Int32)) :=
bd (f_Mo_isBlock F t_bands t_wide_N t_wide_F t_high_N t_high_F p0 p1) fun u19 =>
if u19 = 0 then (
g_Mo_piece_19 F t_style t_begins_N t_begins_F t_told_N t_came_N t_came_F t_brings_N t_brings_F t_owner_N t_length_N t_told_F t_owner_F t_length_F t_thrown t_pieces p0 p1 p2) else (
bd (f_Mo_out F p2 0 65535) fun u20 =>
if u20 = 0 then (
g_Mo_piece_24 F t_style t_begins_N t_begins_F t_told_N t_came_N t_came_F t_brings_N t_brings_F t_owner_N t_length_N t_told_F t_owner_F t_length_F t_thrown t_pieces p0 p1 p2 0) else (
g_Mo_piece_19 F t_style t_begins_N t_begins_F t_told_N t_came_N t_came_F t_brings_N t_brings_F t_owner_N t_length_N t_told_F t_owner_F t_length_F t_thrown t_pieces p0 p1 p2))
set_option maxHeartbeats 4000000 in
set_option maxRecDepth 100000 in
theorem c_Mo_piece (l : Launch) (dC : Nat → ClassId) (dI : Nat → Nat → Nat) (tI tB tL tZ : ClassId) (a_t : Nat) (a_t_wide : Nat) (a_t_high : Nat) (a_t_begins : Nat) (a_t_told : Nat) (a_t_came : Nat) (a_t_brings : Nat) (a_t_owner : Nat) (a_t_length : Nat) (o_t_bytes : Nat) (o_t_width : Nat) (o_t_first : Nat) (o_t_missing : Nat) (o_t_layers : Nat) (o_t_low : Nat) (o_t_known : Nat) (sz : Nat) (t_thrown : Int32) (t_style : Int32) (t_bands : Int32) (t_size : Int32) (t_pieces : Int32) (t_over : Int32) (t_writing : Int32) (t_begin : Int32) (t_end : Int32) (t_room : Int32) (t_wrong : Int32) (t_count : Int32) (t_wide_N : Nat) (t_wide_F : Nat → Int32) (t_high_N : Nat) (t_high_F : Nat → Int32) (t_begins_N : Nat) (t_begins_F : Nat → Int32) (t_told_N : Nat) (t_told_F : Nat → Int32) (t_came_N : Nat) (t_came_F : Nat → Int32) (t_brings_N : Nat) (t_brings_F : Nat → Int32) (t_owner_N : Nat) (t_owner_F : Nat → Int32) (t_length_N : Nat) (t_length_F : Nat → Int32) (p0 : Int32) (p1 : Int32) (p2 : Int32) (F : Nat) (u : Int32 × Int32 × Int32 × (Nat → Int32) × (Nat → Int32) × (Nat → Int32)) (hf : f_Mo_piece F t_thrown t_style t_bands t_pieces t_wide_N t_wide_F t_high_N t_high_F t_begins_N t_begins_F t_told_N t_told_F t_came_N t_came_F t_brings_N t_brings_F t_owner_N t_owner_F t_length_N t_length_F p0 p1 p2 = some u) : CTi l y_Mo_piece b_Mo_piece 6 .int 3 68 (dC, dI) classes [(tI, .int), (tB, .byte), (tL, .long), (tZ, .boolean)] [.ref a_t, .int p0, .int p1, .int p2] [(a_t, .inr (7, [.int t_thrown, .int t_style, .int t_bands, .ref a_t_wide, .ref a_t_high, .ref a_t_begins, .int t_size, .ref o_t_bytes, .ref a_t_came, .ref o_t_width, .ref a_t_brings, .ref o_t_first, .ref o_t_missing, .ref a_t_told, .int t_pieces, .ref a_t_owner, .ref a_t_length, .ref o_t_layers, .int t_over, .ref o_t_low, .ref o_t_known, .int t_writing, .int t_begin, .int t_end, .int t_room, .int t_wrong, .int t_count])), (a_t_wide, .inl (tI, t_wide_N, .inl t_wide_F)), (a_t_high, .inl (tI, t_high_N, .inl t_high_F)), (a_t_begins, .inl (tI, t_begins_N, .inl t_begins_F)), (a_t_told, .inl (tI, t_told_N, .inl t_told_F)), (a_t_came, .inl (tI, t_came_N, .inl t_came_F)), (a_t_brings, .inl (tI, t_brings_N, .inl t_brings_F)), (a_t_owner, .inl (tI, t_owner_N, .inl t_owner_F)), (a_t_length, .inl (tI, t_length_N, .inl t_length_F))] sz (fun q : Unit => [(a_t, .inr (7, [.int u.2.1, .int t_style, .int t_bands, .ref a_t_wide, .ref a_t_high, .ref a_t_begins, .int t_size, .ref o_t_bytes, .ref a_t_came, .ref o_t_width, .ref a_t_brings, .ref o_t_first, .ref o_t_missing, .ref a_t_told, .int u.2.2.1, .ref a_t_owner, .ref a_t_length, .ref o_t_layers, .int t_over, .ref o_t_low, .ref o_t_known, .int t_writing, .int t_begin, .int t_end, .int t_room, .int t_wrong, .int t_count])), (a_t_wide, .inl (tI, t_wide_N, .inl t_wide_F)), (a_t_high, .inl (tI, t_high_N, .inl t_high_F)), (a_t_begins, .inl (tI, t_begins_N, .inl t_begins_F)), (a_t_told, .inl (tI, t_told_N, .inl u.2.2.2.1)), (a_t_came, .inl (tI, t_came_N, .inl t_came_F)), (a_t_brings, .inl (tI, t_brings_N, .inl t_brings_F)), (a_t_owner, .inl (tI, t_owner_N, .inl u.2.2.2.2.1)), (a_t_length, .inl (tI, t_length_N, .inl u.2.2.2.2.2))]) (u.1) 0 0 := by
  refine mk_i (by decide) (Nat.le_of_ble_eq_true rfl) ?_
  intro p e s m args below meth c ls A Q hx hb hml hts hown hin hK hN hP hD hA hl ret
  obtain ⟨H, hH⟩ : ∃ H : Heap, H = s.heap := ⟨_, rfl⟩
  have hS : va_S A s.heap H [] := by rw [hH]; exact va_S.rf
  rw [← hH] at hP ⊢
  have hl : lv_has ls 6 [(0, .ref a_t), (1, .int p0), (2, .int p1), (3, .int p2)] := hl
  have k_81 : ∀ (t_told_F : Nat → Int32) (t_owner_F : Nat → Int32) (t_length_F : Nat → Int32) (t_thrown : Int32) (t_pieces : Int32) (v3 : Int32) (v5 : Int32) (s0 : Int32) (s1 : Int32) (H : Heap) (locs : List Loc) (cells slots : Nat) (ls : Array Slot), va_P (dC, dI) classes [(a_t_begins, .inl (tI, t_begins_N, .inl t_begins_F)), (a_t_told, .inl (tI, t_told_N, .inl t_told_F)), (a_t_brings, .inl (tI, t_brings_N, .inl t_brings_F)), (a_t_owner, .inl (tI, t_owner_N, .inl t_owner_F)), (a_t_length, .inl (tI, t_length_N, .inl t_length_F)), (a_t_wide, .inl (tI, t_wide_N, .inl t_wide_F)), (a_t_high, .inl (tI, t_high_N, .inl t_high_F)), (a_t, .inr (7, [.int t_thrown, .int t_style, .int t_bands, .ref a_t_wide, .ref a_t_high, .ref a_t_begins, .int t_size, .ref o_t_bytes, .ref a_t_came, .ref o_t_width, .ref a_t_brings, .ref o_t_first, .ref o_t_missing, .ref a_t_told, .int t_pieces, .ref a_t_owner, .ref a_t_length, .ref o_t_layers, .int t_over, .ref o_t_low, .ref o_t_known, .int t_writing, .int t_begin, .int t_end, .int t_room, .int t_wrong, .int t_count])), (a_t_came, .inl (tI, t_came_N, .inl t_came_F))] H → va_D A [(a_t_begins, .inl (tI, t_begins_N, .inl t_begins_F)), (a_t_told, .inl (tI, t_told_N, .inl t_told_F)), (a_t_brings, .inl (tI, t_brings_N, .inl t_brings_F)), (a_t_owner, .inl (tI, t_owner_N, .inl t_owner_F)), (a_t_length, .inl (tI, t_length_N, .inl t_length_F)), (a_t_wide, .inl (tI, t_wide_N, .inl t_wide_F)), (a_t_high, .inl (tI, t_high_N, .inl t_high_F)), (a_t, .inr (7, [.int t_thrown, .int t_style, .int t_bands, .ref a_t_wide, .ref a_t_high, .ref a_t_begins, .int t_size, .ref o_t_bytes, .ref a_t_came, .ref o_t_width, .ref a_t_brings, .ref o_t_first, .ref o_t_missing, .ref a_t_told, .int t_pieces, .ref a_t_owner, .ref a_t_length, .ref o_t_layers, .int t_over, .ref o_t_low, .ref o_t_known, .int t_writing, .int t_begin, .int t_end, .int t_room, .int t_wrong, .int t_count])), (a_t_came, .inl (tI, t_came_N, .inl t_came_F))] → va_S A s.heap H locs → lv_has ls 6 [(0, .ref a_t), (3, .int v3), (5, .int v5)] → (cells ≤ 0 ∧ slots ≤ 0) → g_Mo_piece_81 F t_told_N t_owner_N t_length_N t_told_F t_owner_F t_length_F t_thrown t_pieces v3 v5 s0 s1 = some u → W p l e ({ frames := 3, cells := 0, slots := 0, locals := 68 } : Room) s m args below meth c H locs cells slots Q (F0 m 81 ls [.int s0, .int s1, .ref a_t]) := by
    intro t_told_F t_owner_F t_length_F t_thrown t_pieces v3 v5 s0 s1 H locs cells slots ls hP hD hS hl hc hf
    unfold g_Mo_piece_81 at hf
    refine lv_iconst (v := 0) hx hb d_Mo_piece_81 (by decide) ?_
    obtain ⟨u11, hu, hf⟩ := bd_of hf
    refine jn_i (wc := [(a_t, .inr (7, [.int t_thrown, .int t_style, .int t_bands, .ref a_t_wide, .ref a_t_high, .ref a_t_begins, .int t_size, .ref o_t_bytes, .ref a_t_came, .ref o_t_width, .ref a_t_brings, .ref o_t_first, .ref o_t_missing, .ref a_t_told, .int t_pieces, .ref a_t_owner, .ref a_t_length, .ref o_t_layers, .int t_over, .ref o_t_low, .ref o_t_known, .int t_writing, .int t_begin, .int t_end, .int t_room, .int t_wrong, .int t_count]))]) (wr := [(a_t_begins, .inl (tI, t_begins_N, .inl t_begins_F)), (a_t_told, .inl (tI, t_told_N, .inl t_told_F)), (a_t_brings, .inl (tI, t_brings_N, .inl t_brings_F)), (a_t_owner, .inl (tI, t_owner_N, .inl t_owner_F)), (a_t_length, .inl (tI, t_length_N, .inl t_length_F)), (a_t_wide, .inl (tI, t_wide_N, .inl t_wide_F)), (a_t_high, .inl (tI, t_high_N, .inl t_high_F)), (a_t_came, .inl (tI, t_came_N, .inl t_came_F))]) (va_runV (As := [.int s1, .int s0, .int 0]) (rest := []) ⟨hx, hb, hml, hown, hts⟩ (c_Mo_throwing l dC dI tI tB tL tZ a_t a_t_wide a_t_high a_t_begins o_t_bytes a_t_came o_t_width a_t_brings o_t_first o_t_missing a_t_told a_t_owner a_t_length o_t_layers o_t_low o_t_known H.size t_thrown t_style t_bands t_size t_pieces t_over t_writing t_begin t_end t_room t_wrong t_count s1 s0 0 F u11 hu) (cv_of hts q_238 q_214 q_237 q_239 q_240 hd_Mo_throwing ⟨Nat.le_of_ble_eq_true rfl, Nat.le_of_ble_eq_true rfl⟩) (pr_V (ci := 7) (C := R_Mo) (q0 := 0) hK hN (hP.sub [7] rfl) (hD.sub [7] (by decide) rfl) rfl rfl) rfl rfl hl.1 rfl (lv_room (Nat.le_of_ble_eq_true rfl)) d_Mo_piece_82 hc) hP hD hS hA [7] [0, 1, 2, 3, 4, 5, 6, 8] rfl rfl (by decide) (by decide) (fun r9 _ H locs hw hP hD hS => ?_)
    subst r9
    have hP : va_P (dC, dI) classes [(a_t_begins, .inl (tI, t_begins_N, .inl t_begins_F)), (a_t_told, .inl (tI, t_told_N, .inl t_told_F)), (a_t_brings, .inl (tI, t_brings_N, .inl t_brings_F)), (a_t_owner, .inl (tI, t_owner_N, .inl t_owner_F)), (a_t_length, .inl (tI, t_length_N, .inl t_length_F)), (a_t_wide, .inl (tI, t_wide_N, .inl t_wide_F)), (a_t_high, .inl (tI, t_high_N, .inl t_high_F)), (a_t_came, .inl (tI, t_came_N, .inl t_came_F)), (a_t, .inr (7, [.int u11.2, .int t_style, .int t_bands, .ref a_t_wide, .ref a_t_high, .ref a_t_begins, .int t_size, .ref o_t_bytes, .ref a_t_came, .ref o_t_width, .ref a_t_brings, .ref o_t_first, .ref o_t_missing, .ref a_t_told, .int t_pieces, .ref a_t_owner, .ref a_t_length, .ref o_t_layers, .int t_over, .ref o_t_low, .ref o_t_known, .int t_writing, .int t_begin, .int t_end, .int t_room, .int t_wrong, .int t_count]))] H := hP
    have hD : va_D A [(a_t_begins, .inl (tI, t_begins_N, .inl t_begins_F)), (a_t_told, .inl (tI, t_told_N, .inl t_told_F)), (a_t_brings, .inl (tI, t_brings_N, .inl t_brings_F)), (a_t_owner, .inl (tI, t_owner_N, .inl t_owner_F)), (a_t_length, .inl (tI, t_length_N, .inl t_length_F)), (a_t_wide, .inl (tI, t_wide_N, .inl t_wide_F)), (a_t_high, .inl (tI, t_high_N, .inl t_high_F)), (a_t_came, .inl (tI, t_came_N, .inl t_came_F)), (a_t, .inr (7, [.int u11.2, .int t_style, .int t_bands, .ref a_t_wide, .ref a_t_high, .ref a_t_begins, .int t_size, .ref o_t_bytes, .ref a_t_came, .ref o_t_width, .ref a_t_brings, .ref o_t_first, .ref o_t_missing, .ref a_t_told, .int t_pieces, .ref a_t_owner, .ref a_t_length, .ref o_t_layers, .int t_over, .ref o_t_low, .ref o_t_known, .int t_writing, .int t_begin, .int t_end, .int t_room, .int t_wrong, .int t_count]))] := hD
    refine lv_if_eq (tgt := 90) hx hb d_Mo_piece_85 (by decide) (fun c0 => ?_) (fun c0 => ?_)
    · have hf := ite_t c0 hf
      refine lv_aload_n hx hb d_Mo_piece_90 rfl (lv_at hl 0 rfl) ?_
      refine lv_iload hx hb d_Mo_piece_91 (lv_at hl 2 rfl) ?_
      refine lv_iload_n hx hb d_Mo_piece_93 rfl (lv_at hl 1 rfl) ?_
      obtain ⟨u12, hu, hf⟩ := bd_of hf
      refine jn_v (wc := [(a_t, .inr (7, [.int u11.2, .int t_style, .int t_bands, .ref a_t_wide, .ref a_t_high, .ref a_t_begins, .int t_size, .ref o_t_bytes, .ref a_t_came, .ref o_t_width, .ref a_t_brings, .ref o_t_first, .ref o_t_missing, .ref a_t_told, .int t_pieces, .ref a_t_owner, .ref a_t_length, .ref o_t_layers, .int t_over, .ref o_t_low, .ref o_t_known, .int t_writing, .int t_begin, .int t_end, .int t_room, .int t_wrong, .int t_count])), (a_t_owner, .inl (tI, t_owner_N, .inl t_owner_F)), (a_t_length, .inl (tI, t_length_N, .inl t_length_F)), (a_t_told, .inl (tI, t_told_N, .inl t_told_F))]) (wr := [(a_t_begins, .inl (tI, t_begins_N, .inl t_begins_F)), (a_t_brings, .inl (tI, t_brings_N, .inl t_brings_F)), (a_t_wide, .inl (tI, t_wide_N, .inl t_wide_F)), (a_t_high, .inl (tI, t_high_N, .inl t_high_F)), (a_t_came, .inl (tI, t_came_N, .inl t_came_F))]) (va_runV (As := [.int v5, .int v3]) (rest := []) ⟨hx, hb, hml, hown, hts⟩ (c_Mo_add l dC dI tI tB tL tZ a_t a_t_owner a_t_length a_t_told a_t_wide a_t_high a_t_begins o_t_bytes a_t_came o_t_width a_t_brings o_t_first o_t_missing o_t_layers o_t_low o_t_known H.size u11.2 t_style t_bands t_size t_pieces t_over t_writing t_begin t_end t_room t_wrong t_count t_owner_N t_owner_F t_length_N t_length_F t_told_N t_told_F v5 v3 F u12 hu) (cv_of hts q_265 q_214 q_264 q_266 q_267 hd_Mo_add ⟨Nat.le_of_ble_eq_true rfl, Nat.le_of_ble_eq_true rfl⟩) (pr_V (ci := 7) (C := R_Mo) (q0 := 0) hK hN (hP.sub [8, 3, 4, 1] rfl) (hD.sub [8, 3, 4, 1] (by decide) rfl) rfl rfl) rfl rfl hl.1 rfl (lv_room (Nat.le_of_ble_eq_true rfl)) d_Mo_piece_94 hc) hP hD hS hA [8, 3, 4, 1] [0, 2, 5, 6, 7] rfl rfl (by decide) (by decide) (fun _ H locs hP hD hS => ?_)
      have hP : va_P (dC, dI) classes [(a_t_begins, .inl (tI, t_begins_N, .inl t_begins_F)), (a_t_brings, .inl (tI, t_brings_N, .inl t_brings_F)), (a_t_wide, .inl (tI, t_wide_N, .inl t_wide_F)), (a_t_high, .inl (tI, t_high_N, .inl t_high_F)), (a_t_came, .inl (tI, t_came_N, .inl t_came_F)), (a_t, .inr (7, [.int u11.2, .int t_style, .int t_bands, .ref a_t_wide, .ref a_t_high, .ref a_t_begins, .int t_size, .ref o_t_bytes, .ref a_t_came, .ref o_t_width, .ref a_t_brings, .ref o_t_first, .ref o_t_missing, .ref a_t_told, .int u12.1, .ref a_t_owner, .ref a_t_length, .ref o_t_layers, .int t_over, .ref o_t_low, .ref o_t_known, .int t_writing, .int t_begin, .int t_end, .int t_room, .int t_wrong, .int t_count])), (a_t_owner, .inl (tI, t_owner_N, .inl u12.2.1)), (a_t_length, .inl (tI, t_length_N, .inl u12.2.2.1)), (a_t_told, .inl (tI, t_told_N, .inl u12.2.2.2))] H := hP
      have hD : va_D A [(a_t_begins, .inl (tI, t_begins_N, .inl t_begins_F)), (a_t_brings, .inl (tI, t_brings_N, .inl t_brings_F)), (a_t_wide, .inl (tI, t_wide_N, .inl t_wide_F)), (a_t_high, .inl (tI, t_high_N, .inl t_high_F)), (a_t_came, .inl (tI, t_came_N, .inl t_came_F)), (a_t, .inr (7, [.int u11.2, .int t_style, .int t_bands, .ref a_t_wide, .ref a_t_high, .ref a_t_begins, .int t_size, .ref o_t_bytes, .ref a_t_came, .ref o_t_width, .ref a_t_brings, .ref o_t_first, .ref o_t_missing, .ref a_t_told, .int u12.1, .ref a_t_owner, .ref a_t_length, .ref o_t_layers, .int t_over, .ref o_t_low, .ref o_t_known, .int t_writing, .int t_begin, .int t_end, .int t_room, .int t_wrong, .int t_count])), (a_t_owner, .inl (tI, t_owner_N, .inl u12.2.1)), (a_t_length, .inl (tI, t_length_N, .inl u12.2.2.1)), (a_t_told, .inl (tI, t_told_N, .inl u12.2.2.2))] := hD
      refine lv_aload_n hx hb d_Mo_piece_97 rfl (lv_at hl 0 rfl) ?_
      refine va_get (D := (dC, dI)) (ci := 7) (v := .ref a_t_told) (C := R_Mo) (T := F_Mo) (N := 27) hx hb hts i_Mo hown hK hP 5 rfl rfl 13 (by decide) (hts _ q_212) (fun _ h9 => h9) rfl d_Mo_piece_98 ?_
      refine lv_iload hx hb d_Mo_piece_101 (lv_at hl 2 rfl) ?_
      obtain ⟨hin9, hf⟩ := asm_of hf
      refine va_iald hx hb hK hP 8 0 rfl rfl hin9 d_Mo_piece_103 ?_
      refine lv_topi (fun x13 ex13 => ?_)
      have hf := letb_of hf ex13
      have hf := Option.some.inj hf
      subst u
      exact ret _ _ _ _ _ _ () d_Mo_piece_104 rfl (hP.sub [5, 2, 3, 0, 8, 4, 1, 6, 7] rfl) (hD.sub [5, 2, 3, 0, 8, 4, 1, 6, 7] (by decide) rfl) hS hc.1 hc.2
    · have hf := ite_f c0 hf
      refine lv_iconst (v := 0) hx hb d_Mo_piece_88 (by decide) ?_
      have hf := Option.some.inj hf
      subst u
      exact ret _ _ _ _ _ _ () d_Mo_piece_89 rfl (hP.sub [8, 5, 6, 0, 1, 7, 2, 3, 4] rfl) (hD.sub [8, 5, 6, 0, 1, 7, 2, 3, 4] (by decide) rfl) hS hc.1 hc.2
  have k_80 : ∀ (t_told_F : Nat → Int32) (t_owner_F : Nat → Int32) (t_length_F : Nat → Int32) (t_thrown : Int32) (t_pieces : Int32) (v3 : Int32) (v5 : Int32) (s0 : Int32) (H : Heap) (locs : List Loc) (cells slots : Nat) (ls : Array Slot), va_P (dC, dI) classes [(a_t_begins, .inl (tI, t_begins_N, .inl t_begins_F)), (a_t_told, .inl (tI, t_told_N, .inl t_told_F)), (a_t_came, .inl (tI, t_came_N, .inl t_came_F)), (a_t_brings, .inl (tI, t_brings_N, .inl t_brings_F)), (a_t_owner, .inl (tI, t_owner_N, .inl t_owner_F)), (a_t_length, .inl (tI, t_length_N, .inl t_length_F)), (a_t, .inr (7, [.int t_thrown, .int t_style, .int t_bands, .ref a_t_wide, .ref a_t_high, .ref a_t_begins, .int t_size, .ref o_t_bytes, .ref a_t_came, .ref o_t_width, .ref a_t_brings, .ref o_t_first, .ref o_t_missing, .ref a_t_told, .int t_pieces, .ref a_t_owner, .ref a_t_length, .ref o_t_layers, .int t_over, .ref o_t_low, .ref o_t_known, .int t_writing, .int t_begin, .int t_end, .int t_room, .int t_wrong, .int t_count])), (a_t_wide, .inl (tI, t_wide_N, .inl t_wide_F)), (a_t_high, .inl (tI, t_high_N, .inl t_high_F))] H → va_D A [(a_t_begins, .inl (tI, t_begins_N, .inl t_begins_F)), (a_t_told, .inl (tI, t_told_N, .inl t_told_F)), (a_t_came, .inl (tI, t_came_N, .inl t_came_F)), (a_t_brings, .inl (tI, t_brings_N, .inl t_brings_F)), (a_t_owner, .inl (tI, t_owner_N, .inl t_owner_F)), (a_t_length, .inl (tI, t_length_N, .inl t_length_F)), (a_t, .inr (7, [.int t_thrown, .int t_style, .int t_bands, .ref a_t_wide, .ref a_t_high, .ref a_t_begins, .int t_size, .ref o_t_bytes, .ref a_t_came, .ref o_t_width, .ref a_t_brings, .ref o_t_first, .ref o_t_missing, .ref a_t_told, .int t_pieces, .ref a_t_owner, .ref a_t_length, .ref o_t_layers, .int t_over, .ref o_t_low, .ref o_t_known, .int t_writing, .int t_begin, .int t_end, .int t_room, .int t_wrong, .int t_count])), (a_t_wide, .inl (tI, t_wide_N, .inl t_wide_F)), (a_t_high, .inl (tI, t_high_N, .inl t_high_F))] → va_S A s.heap H locs → lv_has ls 6 [(0, .ref a_t), (3, .int v3), (5, .int v5)] → (cells ≤ 0 ∧ slots ≤ 0) → g_Mo_piece_80 F t_told_N t_owner_N t_length_N t_told_F t_owner_F t_length_F t_thrown t_pieces v3 v5 s0 = some u → W p l e ({ frames := 3, cells := 0, slots := 0, locals := 68 } : Room) s m args below meth c H locs cells slots Q (F0 m 80 ls [.int s0, .ref a_t]) := by
    intro t_told_F t_owner_F t_length_F t_thrown t_pieces v3 v5 s0 H locs cells slots ls hP hD hS hl hc hf
    unfold g_Mo_piece_80 at hf
    refine lv_iconst (v := 0) hx hb d_Mo_piece_80 (by decide) ?_
    exact k_81 t_told_F t_owner_F t_length_F t_thrown t_pieces v3 v5 0 s0 _ _ _ _ ls (hP.sub [0, 1, 3, 4, 5, 7, 8, 6, 2] rfl) (hD.sub [0, 1, 3, 4, 5, 7, 8, 6, 2] (by decide) rfl) hS hl hc hf
  have k_43 : ∀ (t_told_F : Nat → Int32) (t_owner_F : Nat → Int32) (t_length_F : Nat → Int32) (t_thrown : Int32) (t_pieces : Int32) (v3 : Int32) (v4 : Int32) (s0 : Int32) (H : Heap) (locs : List Loc) (cells slots : Nat) (ls : Array Slot), va_P (dC, dI) classes [(a_t_begins, .inl (tI, t_begins_N, .inl t_begins_F)), (a_t_told, .inl (tI, t_told_N, .inl t_told_F)), (a_t_came, .inl (tI, t_came_N, .inl t_came_F)), (a_t_brings, .inl (tI, t_brings_N, .inl t_brings_F)), (a_t_owner, .inl (tI, t_owner_N, .inl t_owner_F)), (a_t_length, .inl (tI, t_length_N, .inl t_length_F)), (a_t, .inr (7, [.int t_thrown, .int t_style, .int t_bands, .ref a_t_wide, .ref a_t_high, .ref a_t_begins, .int t_size, .ref o_t_bytes, .ref a_t_came, .ref o_t_width, .ref a_t_brings, .ref o_t_first, .ref o_t_missing, .ref a_t_told, .int t_pieces, .ref a_t_owner, .ref a_t_length, .ref o_t_layers, .int t_over, .ref o_t_low, .ref o_t_known, .int t_writing, .int t_begin, .int t_end, .int t_room, .int t_wrong, .int t_count])), (a_t_wide, .inl (tI, t_wide_N, .inl t_wide_F)), (a_t_high, .inl (tI, t_high_N, .inl t_high_F))] H → va_D A [(a_t_begins, .inl (tI, t_begins_N, .inl t_begins_F)), (a_t_told, .inl (tI, t_told_N, .inl t_told_F)), (a_t_came, .inl (tI, t_came_N, .inl t_came_F)), (a_t_brings, .inl (tI, t_brings_N, .inl t_brings_F)), (a_t_owner, .inl (tI, t_owner_N, .inl t_owner_F)), (a_t_length, .inl (tI, t_length_N, .inl t_length_F)), (a_t, .inr (7, [.int t_thrown, .int t_style, .int t_bands, .ref a_t_wide, .ref a_t_high, .ref a_t_begins, .int t_size, .ref o_t_bytes, .ref a_t_came, .ref o_t_width, .ref a_t_brings, .ref o_t_first, .ref o_t_missing, .ref a_t_told, .int t_pieces, .ref a_t_owner, .ref a_t_length, .ref o_t_layers, .int t_over, .ref o_t_low, .ref o_t_known, .int t_writing, .int t_begin, .int t_end, .int t_room, .int t_wrong, .int t_count])), (a_t_wide, .inl (tI, t_wide_N, .inl t_wide_F)), (a_t_high, .inl (tI, t_high_N, .inl t_high_F))] → va_S A s.heap H locs → lv_has ls 6 [(0, .ref a_t), (3, .int v3), (4, .int v4)] → (cells ≤ 0 ∧ slots ≤ 0) → g_Mo_piece_43 F t_style t_told_N t_came_N t_came_F t_brings_N t_brings_F t_owner_N t_length_N t_told_F t_owner_F t_length_F t_thrown t_pieces v3 v4 s0 = some u → W p l e ({ frames := 3, cells := 0, slots := 0, locals := 68 } : Room) s m args below meth c H locs cells slots Q (F0 m 43 ls [.int s0]) := by
    intro t_told_F t_owner_F t_length_F t_thrown t_pieces v3 v4 s0 H locs cells slots ls hP hD hS hl hc hf
    unfold g_Mo_piece_43 at hf
    refine lv_istore (lv' := [(5, .int s0), (0, .ref a_t), (3, .int v3), (4, .int v4)]) hx hb d_Mo_piece_43 hl (by decide) rfl (fun ls hl => ?_)
    refine lv_aload_n hx hb d_Mo_piece_45 rfl (lv_at hl 1 rfl) ?_
    refine lv_iload hx hb d_Mo_piece_46 (lv_at hl 3 rfl) ?_
    refine lv_iload hx hb d_Mo_piece_48 (lv_at hl 3 rfl) ?_
    refine lv_if_ne (tgt := 80) hx hb d_Mo_piece_50 (by decide) (fun c0 => ?_) (fun c0 => ?_)
    · have hf := ite_f c0 hf
      exact k_80 t_told_F t_owner_F t_length_F t_thrown t_pieces v3 s0 v4 _ _ _ _ ls hP hD hS (lv_sub hl [1, 2, 0] rfl) hc hf
    · have hf := ite_t c0 hf
      refine lv_aload_n hx hb d_Mo_piece_53 rfl (lv_at hl 1 rfl) ?_
      refine va_get (D := (dC, dI)) (ci := 7) (v := .ref a_t_told) (C := R_Mo) (T := F_Mo) (N := 27) hx hb hts i_Mo hown hK hP 6 rfl rfl 13 (by decide) (hts _ q_212) (fun _ h9 => h9) rfl d_Mo_piece_54 ?_
      refine lv_iload hx hb d_Mo_piece_57 (lv_at hl 0 rfl) ?_
      obtain ⟨hin9, hf⟩ := asm_of hf
      refine va_iald hx hb hK hP 1 0 rfl rfl hin9 d_Mo_piece_59 ?_
      refine lv_topi (fun x14 ex14 => ?_)
      have hf := letb_of hf ex14
      refine lv_aload_n hx hb d_Mo_piece_60 rfl (lv_at hl 1 rfl) ?_
      refine lv_iload hx hb d_Mo_piece_61 (lv_at hl 0 rfl) ?_
      refine lv_aload_n hx hb d_Mo_piece_63 rfl (lv_at hl 1 rfl) ?_
      refine va_get (D := (dC, dI)) (ci := 7) (v := .ref a_t_brings) (C := R_Mo) (T := F_Mo) (N := 27) hx hb hts i_Mo hown hK hP 6 rfl rfl 10 (by decide) (hts _ q_220) (fun _ h9 => h9) rfl d_Mo_piece_64 ?_
      refine lv_iload hx hb d_Mo_piece_67 (lv_at hl 0 rfl) ?_
      obtain ⟨hin9, hf⟩ := asm_of hf
      refine va_iald hx hb hK hP 3 0 rfl rfl hin9 d_Mo_piece_69 ?_
      refine lv_topi (fun x15 ex15 => ?_)
      have hf := letb_of hf ex15
      obtain ⟨u16, hu, hf⟩ := bd_of hf
      refine jn_i (wc := [(a_t, .inr (7, [.int t_thrown, .int t_style, .int t_bands, .ref a_t_wide, .ref a_t_high, .ref a_t_begins, .int t_size, .ref o_t_bytes, .ref a_t_came, .ref o_t_width, .ref a_t_brings, .ref o_t_first, .ref o_t_missing, .ref a_t_told, .int t_pieces, .ref a_t_owner, .ref a_t_length, .ref o_t_layers, .int t_over, .ref o_t_low, .ref o_t_known, .int t_writing, .int t_begin, .int t_end, .int t_room, .int t_wrong, .int t_count])), (a_t_came, .inl (tI, t_came_N, .inl t_came_F))]) (wr := [(a_t_begins, .inl (tI, t_begins_N, .inl t_begins_F)), (a_t_told, .inl (tI, t_told_N, .inl t_told_F)), (a_t_brings, .inl (tI, t_brings_N, .inl t_brings_F)), (a_t_owner, .inl (tI, t_owner_N, .inl t_owner_F)), (a_t_length, .inl (tI, t_length_N, .inl t_length_F)), (a_t_wide, .inl (tI, t_wide_N, .inl t_wide_F)), (a_t_high, .inl (tI, t_high_N, .inl t_high_F))]) (va_runV (As := [.int s0, .int x15]) (rest := [.int x14, .int v4, .ref a_t]) ⟨hx, hb, hml, hown, hts⟩ (c_Mo_piecesOf l dC dI tI tB tL tZ a_t a_t_came a_t_wide a_t_high a_t_begins o_t_bytes o_t_width a_t_brings o_t_first o_t_missing a_t_told a_t_owner a_t_length o_t_layers o_t_low o_t_known H.size t_thrown t_style t_bands t_size t_pieces t_over t_writing t_begin t_end t_room t_wrong t_count t_came_N t_came_F s0 x15 F u16 hu) (cv_of hts q_260 q_214 q_259 q_261 q_262 hd_Mo_piecesOf ⟨Nat.le_of_ble_eq_true rfl, Nat.le_of_ble_eq_true rfl⟩) (pr_V (ci := 7) (C := R_Mo) (q0 := 0) hK hN (hP.sub [6, 2] rfl) (hD.sub [6, 2] (by decide) rfl) rfl rfl) rfl rfl hl.1 rfl (lv_room (Nat.le_of_ble_eq_true rfl)) d_Mo_piece_70 hc) hP hD hS hA [6, 2] [0, 1, 3, 4, 5, 7, 8] rfl rfl (by decide) (by decide) (fun r9 _ H locs hw hP hD hS => ?_)
      subst r9
      have hP : va_P (dC, dI) classes [(a_t_begins, .inl (tI, t_begins_N, .inl t_begins_F)), (a_t_told, .inl (tI, t_told_N, .inl t_told_F)), (a_t_brings, .inl (tI, t_brings_N, .inl t_brings_F)), (a_t_owner, .inl (tI, t_owner_N, .inl t_owner_F)), (a_t_length, .inl (tI, t_length_N, .inl t_length_F)), (a_t_wide, .inl (tI, t_wide_N, .inl t_wide_F)), (a_t_high, .inl (tI, t_high_N, .inl t_high_F)), (a_t, .inr (7, [.int t_thrown, .int t_style, .int t_bands, .ref a_t_wide, .ref a_t_high, .ref a_t_begins, .int t_size, .ref o_t_bytes, .ref a_t_came, .ref o_t_width, .ref a_t_brings, .ref o_t_first, .ref o_t_missing, .ref a_t_told, .int t_pieces, .ref a_t_owner, .ref a_t_length, .ref o_t_layers, .int t_over, .ref o_t_low, .ref o_t_known, .int t_writing, .int t_begin, .int t_end, .int t_room, .int t_wrong, .int t_count])), (a_t_came, .inl (tI, t_came_N, .inl t_came_F))] H := hP
      have hD : va_D A [(a_t_begins, .inl (tI, t_begins_N, .inl t_begins_F)), (a_t_told, .inl (tI, t_told_N, .inl t_told_F)), (a_t_brings, .inl (tI, t_brings_N, .inl t_brings_F)), (a_t_owner, .inl (tI, t_owner_N, .inl t_owner_F)), (a_t_length, .inl (tI, t_length_N, .inl t_length_F)), (a_t_wide, .inl (tI, t_wide_N, .inl t_wide_F)), (a_t_high, .inl (tI, t_high_N, .inl t_high_F)), (a_t, .inr (7, [.int t_thrown, .int t_style, .int t_bands, .ref a_t_wide, .ref a_t_high, .ref a_t_begins, .int t_size, .ref o_t_bytes, .ref a_t_came, .ref o_t_width, .ref a_t_brings, .ref o_t_first, .ref o_t_missing, .ref a_t_told, .int t_pieces, .ref a_t_owner, .ref a_t_length, .ref o_t_layers, .int t_over, .ref o_t_low, .ref o_t_known, .int t_writing, .int t_begin, .int t_end, .int t_room, .int t_wrong, .int t_count])), (a_t_came, .inl (tI, t_came_N, .inl t_came_F))] := hD
      refine lv_icmp_ne (tgt := 80) hx hb d_Mo_piece_73 (by decide) (fun c0 => ?_) (fun c0 => ?_)
      · have hf := ite_f c0 hf
        exact k_80 t_told_F t_owner_F t_length_F t_thrown t_pieces v3 s0 v4 _ _ _ _ ls (hP.sub [0, 1, 8, 2, 3, 4, 7, 5, 6] rfl) (hD.sub [0, 1, 8, 2, 3, 4, 7, 5, 6] (by decide) rfl) hS (lv_sub hl [1, 2, 0] rfl) hc hf
      · have hf := ite_t c0 hf
        refine lv_iconst (v := 1) hx hb d_Mo_piece_76 (by decide) ?_
        refine lv_goto (tgt := 81) hx hb d_Mo_piece_77 (by decide) ?_
        exact k_81 t_told_F t_owner_F t_length_F t_thrown t_pieces v3 s0 1 v4 _ _ _ _ ls hP hD hS (lv_sub hl [1, 2, 0] rfl) hc hf
  have k_24 : ∀ (t_told_F : Nat → Int32) (t_owner_F : Nat → Int32) (t_length_F : Nat → Int32) (t_thrown : Int32) (t_pieces : Int32) (v1 : Int32) (v2 : Int32) (v3 : Int32) (s0 : Int32) (H : Heap) (locs : List Loc) (cells slots : Nat) (ls : Array Slot), va_P (dC, dI) classes [(a_t_begins, .inl (tI, t_begins_N, .inl t_begins_F)), (a_t_told, .inl (tI, t_told_N, .inl t_told_F)), (a_t_came, .inl (tI, t_came_N, .inl t_came_F)), (a_t_brings, .inl (tI, t_brings_N, .inl t_brings_F)), (a_t_owner, .inl (tI, t_owner_N, .inl t_owner_F)), (a_t_length, .inl (tI, t_length_N, .inl t_length_F)), (a_t, .inr (7, [.int t_thrown, .int t_style, .int t_bands, .ref a_t_wide, .ref a_t_high, .ref a_t_begins, .int t_size, .ref o_t_bytes, .ref a_t_came, .ref o_t_width, .ref a_t_brings, .ref o_t_first, .ref o_t_missing, .ref a_t_told, .int t_pieces, .ref a_t_owner, .ref a_t_length, .ref o_t_layers, .int t_over, .ref o_t_low, .ref o_t_known, .int t_writing, .int t_begin, .int t_end, .int t_room, .int t_wrong, .int t_count])), (a_t_wide, .inl (tI, t_wide_N, .inl t_wide_F)), (a_t_high, .inl (tI, t_high_N, .inl t_high_F))] H → va_D A [(a_t_begins, .inl (tI, t_begins_N, .inl t_begins_F)), (a_t_told, .inl (tI, t_told_N, .inl t_told_F)), (a_t_came, .inl (tI, t_came_N, .inl t_came_F)), (a_t_brings, .inl (tI, t_brings_N, .inl t_brings_F)), (a_t_owner, .inl (tI, t_owner_N, .inl t_owner_F)), (a_t_length, .inl (tI, t_length_N, .inl t_length_F)), (a_t, .inr (7, [.int t_thrown, .int t_style, .int t_bands, .ref a_t_wide, .ref a_t_high, .ref a_t_begins, .int t_size, .ref o_t_bytes, .ref a_t_came, .ref o_t_width, .ref a_t_brings, .ref o_t_first, .ref o_t_missing, .ref a_t_told, .int t_pieces, .ref a_t_owner, .ref a_t_length, .ref o_t_layers, .int t_over, .ref o_t_low, .ref o_t_known, .int t_writing, .int t_begin, .int t_end, .int t_room, .int t_wrong, .int t_count])), (a_t_wide, .inl (tI, t_wide_N, .inl t_wide_F)), (a_t_high, .inl (tI, t_high_N, .inl t_high_F))] → va_S A s.heap H locs → lv_has ls 6 [(0, .ref a_t), (1, .int v1), (2, .int v2), (3, .int v3)] → (cells ≤ 0 ∧ slots ≤ 0) → g_Mo_piece_24 F t_style t_begins_N t_begins_F t_told_N t_came_N t_came_F t_brings_N t_brings_F t_owner_N t_length_N t_told_F t_owner_F t_length_F t_thrown t_pieces v1 v2 v3 s0 = some u → W p l e ({ frames := 3, cells := 0, slots := 0, locals := 68 } : Room) s m args below meth c H locs cells slots Q (F0 m 24 ls [.int s0]) := by
    intro t_told_F t_owner_F t_length_F t_thrown t_pieces v1 v2 v3 s0 H locs cells slots ls hP hD hS hl hc hf
    unfold g_Mo_piece_24 at hf
    refine lv_istore (lv' := [(4, .int s0), (0, .ref a_t), (1, .int v1), (2, .int v2), (3, .int v3)]) hx hb d_Mo_piece_24 hl (by decide) rfl (fun ls hl => ?_)
    refine lv_iload hx hb d_Mo_piece_26 (lv_at hl 0 rfl) ?_
    refine lv_if_eq (tgt := 35) hx hb d_Mo_piece_28 (by decide) (fun c0 => ?_) (fun c0 => ?_)
    · have hf := ite_t c0 hf
      refine lv_aload_n hx hb d_Mo_piece_35 rfl (lv_at hl 1 rfl) ?_
      refine va_get (D := (dC, dI)) (ci := 7) (v := .ref a_t_begins) (C := R_Mo) (T := F_Mo) (N := 27) hx hb hts i_Mo hown hK hP 6 rfl rfl 5 (by decide) (hts _ q_226) (fun _ h9 => h9) rfl d_Mo_piece_36 ?_
      refine lv_iload_n hx hb d_Mo_piece_39 rfl (lv_at hl 2 rfl) ?_
      obtain ⟨hin9, hf⟩ := asm_of hf
      refine va_iald hx hb hK hP 0 0 rfl rfl hin9 d_Mo_piece_40 ?_
      refine lv_topi (fun x17 ex17 => ?_)
      have hf := letb_of hf ex17
      refine lv_iload_n hx hb d_Mo_piece_41 rfl (lv_at hl 3 rfl) ?_
      refine lv_iadd hx hb d_Mo_piece_42 ?_
      refine lv_topi (fun x18 ex18 => ?_)
      have hf := letb_of hf ex18
      exact k_43 t_told_F t_owner_F t_length_F t_thrown t_pieces v3 s0 x18 _ _ _ _ ls hP hD hS (lv_sub hl [1, 4, 0] rfl) hc hf
    · have hf := ite_f c0 hf
      refine lv_iconst (v := 0) hx hb d_Mo_piece_31 (by decide) ?_
      refine lv_goto (tgt := 43) hx hb d_Mo_piece_32 (by decide) ?_
      exact k_43 t_told_F t_owner_F t_length_F t_thrown t_pieces v3 s0 0 _ _ _ _ ls hP hD hS (lv_sub hl [1, 4, 0] rfl) hc hf
  have k_19 : ∀ (t_told_F : Nat → Int32) (t_owner_F : Nat → Int32) (t_length_F : Nat → Int32) (t_thrown : Int32) (t_pieces : Int32) (v1 : Int32) (v2 : Int32) (v3 : Int32) (H : Heap) (locs : List Loc) (cells slots : Nat) (ls : Array Slot), va_P (dC, dI) classes [(a_t_begins, .inl (tI, t_begins_N, .inl t_begins_F)), (a_t_told, .inl (tI, t_told_N, .inl t_told_F)), (a_t_came, .inl (tI, t_came_N, .inl t_came_F)), (a_t_brings, .inl (tI, t_brings_N, .inl t_brings_F)), (a_t_owner, .inl (tI, t_owner_N, .inl t_owner_F)), (a_t_length, .inl (tI, t_length_N, .inl t_length_F)), (a_t, .inr (7, [.int t_thrown, .int t_style, .int t_bands, .ref a_t_wide, .ref a_t_high, .ref a_t_begins, .int t_size, .ref o_t_bytes, .ref a_t_came, .ref o_t_width, .ref a_t_brings, .ref o_t_first, .ref o_t_missing, .ref a_t_told, .int t_pieces, .ref a_t_owner, .ref a_t_length, .ref o_t_layers, .int t_over, .ref o_t_low, .ref o_t_known, .int t_writing, .int t_begin, .int t_end, .int t_room, .int t_wrong, .int t_count])), (a_t_wide, .inl (tI, t_wide_N, .inl t_wide_F)), (a_t_high, .inl (tI, t_high_N, .inl t_high_F))] H → va_D A [(a_t_begins, .inl (tI, t_begins_N, .inl t_begins_F)), (a_t_told, .inl (tI, t_told_N, .inl t_told_F)), (a_t_came, .inl (tI, t_came_N, .inl t_came_F)), (a_t_brings, .inl (tI, t_brings_N, .inl t_brings_F)), (a_t_owner, .inl (tI, t_owner_N, .inl t_owner_F)), (a_t_length, .inl (tI, t_length_N, .inl t_length_F)), (a_t, .inr (7, [.int t_thrown, .int t_style, .int t_bands, .ref a_t_wide, .ref a_t_high, .ref a_t_begins, .int t_size, .ref o_t_bytes, .ref a_t_came, .ref o_t_width, .ref a_t_brings, .ref o_t_first, .ref o_t_missing, .ref a_t_told, .int t_pieces, .ref a_t_owner, .ref a_t_length, .ref o_t_layers, .int t_over, .ref o_t_low, .ref o_t_known, .int t_writing, .int t_begin, .int t_end, .int t_room, .int t_wrong, .int t_count])), (a_t_wide, .inl (tI, t_wide_N, .inl t_wide_F)), (a_t_high, .inl (tI, t_high_N, .inl t_high_F))] → va_S A s.heap H locs → lv_has ls 6 [(0, .ref a_t), (1, .int v1), (2, .int v2), (3, .int v3)] → (cells ≤ 0 ∧ slots ≤ 0) → g_Mo_piece_19 F t_style t_begins_N t_begins_F t_told_N t_came_N t_came_F t_brings_N t_brings_F t_owner_N t_length_N t_told_F t_owner_F t_length_F t_thrown t_pieces v1 v2 v3 = some u → W p l e ({ frames := 3, cells := 0, slots := 0, locals := 68 } : Room) s m args below meth c H locs cells slots Q (F0 m 19 ls []) := by
    intro t_told_F t_owner_F t_length_F t_thrown t_pieces v1 v2 v3 H locs cells slots ls hP hD hS hl hc hf
    unfold g_Mo_piece_19 at hf
    refine lv_iconst (v := 1) hx hb d_Mo_piece_19 (by decide) ?_
    refine lv_goto (tgt := 24) hx hb d_Mo_piece_20 (by decide) ?_
    exact k_24 t_told_F t_owner_F t_length_F t_thrown t_pieces v1 v2 v3 1 _ _ _ _ ls hP hD hS hl hc hf
  have hc : 0 ≤ 0 ∧ 0 ≤ 0 := ⟨Nat.le_refl 0, Nat.le_refl 0⟩
  unfold f_Mo_piece at hf
  refine lv_aload_n hx hb d_Mo_piece_0 rfl (lv_at hl 0 rfl) ?_
  refine lv_iload_n hx hb d_Mo_piece_1 rfl (lv_at hl 1 rfl) ?_
  refine lv_iload_n hx hb d_Mo_piece_2 rfl (lv_at hl 2 rfl) ?_
  obtain ⟨u19, hu, hf⟩ := bd_of hf
  refine jn_i (wc := [(a_t, .inr (7, [.int t_thrown, .int t_style, .int t_bands, .ref a_t_wide, .ref a_t_high, .ref a_t_begins, .int t_size, .ref o_t_bytes, .ref a_t_came, .ref o_t_width, .ref a_t_brings, .ref o_t_first, .ref o_t_missing, .ref a_t_told, .int t_pieces, .ref a_t_owner, .ref a_t_length, .ref o_t_layers, .int t_over, .ref o_t_low, .ref o_t_known, .int t_writing, .int t_begin, .int t_end, .int t_room, .int t_wrong, .int t_count])), (a_t_wide, .inl (tI, t_wide_N, .inl t_wide_F)), (a_t_high, .inl (tI, t_high_N, .inl t_high_F))]) (wr := [(a_t_begins, .inl (tI, t_begins_N, .inl t_begins_F)), (a_t_told, .inl (tI, t_told_N, .inl t_told_F)), (a_t_came, .inl (tI, t_came_N, .inl t_came_F)), (a_t_brings, .inl (tI, t_brings_N, .inl t_brings_F)), (a_t_owner, .inl (tI, t_owner_N, .inl t_owner_F)), (a_t_length, .inl (tI, t_length_N, .inl t_length_F))]) (va_runV (As := [.int p0, .int p1]) (rest := []) ⟨hx, hb, hml, hown, hts⟩ (c_Mo_isBlock l dC dI tI tB tL tZ a_t a_t_wide a_t_high a_t_begins o_t_bytes a_t_came o_t_width a_t_brings o_t_first o_t_missing a_t_told a_t_owner a_t_length o_t_layers o_t_low o_t_known H.size t_thrown t_style t_bands t_size t_pieces t_over t_writing t_begin t_end t_room t_wrong t_count t_wide_N t_wide_F t_high_N t_high_F p0 p1 F u19 hu) (cv_of hts q_256 q_214 q_255 q_257 q_258 hd_Mo_isBlock ⟨Nat.le_of_ble_eq_true rfl, Nat.le_of_ble_eq_true rfl⟩) (pr_V (ci := 7) (C := R_Mo) (q0 := 0) hK hN (hP.sub [0, 1, 2] rfl) (hD.sub [0, 1, 2] (by decide) rfl) rfl rfl) rfl rfl hl.1 rfl (lv_room (Nat.le_of_ble_eq_true rfl)) d_Mo_piece_3 hc) hP hD hS hA [0, 1, 2] [3, 4, 5, 6, 7, 8] rfl rfl (by decide) (by decide) (fun r9 _ H locs hw hP hD hS => ?_)
  subst r9
  have hP : va_P (dC, dI) classes [(a_t_begins, .inl (tI, t_begins_N, .inl t_begins_F)), (a_t_told, .inl (tI, t_told_N, .inl t_told_F)), (a_t_came, .inl (tI, t_came_N, .inl t_came_F)), (a_t_brings, .inl (tI, t_brings_N, .inl t_brings_F)), (a_t_owner, .inl (tI, t_owner_N, .inl t_owner_F)), (a_t_length, .inl (tI, t_length_N, .inl t_length_F)), (a_t, .inr (7, [.int t_thrown, .int t_style, .int t_bands, .ref a_t_wide, .ref a_t_high, .ref a_t_begins, .int t_size, .ref o_t_bytes, .ref a_t_came, .ref o_t_width, .ref a_t_brings, .ref o_t_first, .ref o_t_missing, .ref a_t_told, .int t_pieces, .ref a_t_owner, .ref a_t_length, .ref o_t_layers, .int t_over, .ref o_t_low, .ref o_t_known, .int t_writing, .int t_begin, .int t_end, .int t_room, .int t_wrong, .int t_count])), (a_t_wide, .inl (tI, t_wide_N, .inl t_wide_F)), (a_t_high, .inl (tI, t_high_N, .inl t_high_F))] H := hP
  have hD : va_D A [(a_t_begins, .inl (tI, t_begins_N, .inl t_begins_F)), (a_t_told, .inl (tI, t_told_N, .inl t_told_F)), (a_t_came, .inl (tI, t_came_N, .inl t_came_F)), (a_t_brings, .inl (tI, t_brings_N, .inl t_brings_F)), (a_t_owner, .inl (tI, t_owner_N, .inl t_owner_F)), (a_t_length, .inl (tI, t_length_N, .inl t_length_F)), (a_t, .inr (7, [.int t_thrown, .int t_style, .int t_bands, .ref a_t_wide, .ref a_t_high, .ref a_t_begins, .int t_size, .ref o_t_bytes, .ref a_t_came, .ref o_t_width, .ref a_t_brings, .ref o_t_first, .ref o_t_missing, .ref a_t_told, .int t_pieces, .ref a_t_owner, .ref a_t_length, .ref o_t_layers, .int t_over, .ref o_t_low, .ref o_t_known, .int t_writing, .int t_begin, .int t_end, .int t_room, .int t_wrong, .int t_count])), (a_t_wide, .inl (tI, t_wide_N, .inl t_wide_F)), (a_t_high, .inl (tI, t_high_N, .inl t_high_F))] := hD
  refine lv_if_eq (tgt := 19) hx hb d_Mo_piece_6 (by decide) (fun c0 => ?_) (fun c0 => ?_)
  · have hf := ite_t c0 hf
    exact k_19 t_told_F t_owner_F t_length_F t_thrown t_pieces p0 p1 p2 _ _ _ _ ls hP hD hS hl hc hf
  · have hf := ite_f c0 hf
    refine lv_iload_n hx hb d_Mo_piece_9 rfl (lv_at hl 3 rfl) ?_
    refine lv_iconst (v := 0) hx hb d_Mo_piece_10 (by decide) ?_
    refine lv_ldc (v := 65535) hx hb hown (hts _ q_263) d_Mo_piece_11 ?_
    obtain ⟨u20, hu, hf⟩ := bd_of hf
    refine jn_i (wc := []) (wr := [(a_t_begins, .inl (tI, t_begins_N, .inl t_begins_F)), (a_t_told, .inl (tI, t_told_N, .inl t_told_F)), (a_t_came, .inl (tI, t_came_N, .inl t_came_F)), (a_t_brings, .inl (tI, t_brings_N, .inl t_brings_F)), (a_t_owner, .inl (tI, t_owner_N, .inl t_owner_F)), (a_t_length, .inl (tI, t_length_N, .inl t_length_F)), (a_t, .inr (7, [.int t_thrown, .int t_style, .int t_bands, .ref a_t_wide, .ref a_t_high, .ref a_t_begins, .int t_size, .ref o_t_bytes, .ref a_t_came, .ref o_t_width, .ref a_t_brings, .ref o_t_first, .ref o_t_missing, .ref a_t_told, .int t_pieces, .ref a_t_owner, .ref a_t_length, .ref o_t_layers, .int t_over, .ref o_t_low, .ref o_t_known, .int t_writing, .int t_begin, .int t_end, .int t_room, .int t_wrong, .int t_count])), (a_t_wide, .inl (tI, t_wide_N, .inl t_wide_F)), (a_t_high, .inl (tI, t_high_N, .inl t_high_F))]) (va_runS (As := [.int p2, .int 0, .int 65535]) (rest := []) ⟨hx, hb, hml, hown, hts⟩ (c_Mo_out l dC dI tI tB tL tZ H.size p2 0 65535 F u20 hu) (cs_of hts q_245 q_214 q_244 q_246 hd_Mo_out ⟨Nat.le_of_ble_eq_true rfl, Nat.le_of_ble_eq_true rfl⟩) (pr_S hK hN (hP.sub [] rfl) (hD.sub [] (by decide) rfl)) rfl rfl hl.1 rfl (lv_room (Nat.le_of_ble_eq_true rfl)) d_Mo_piece_13 hc) hP hD hS hA [] [0, 1, 2, 3, 4, 5, 6, 7, 8] rfl rfl (by decide) (by decide) (fun r9 _ H locs hw hP hD hS => ?_)
    subst r9
    have hP : va_P (dC, dI) classes [(a_t_begins, .inl (tI, t_begins_N, .inl t_begins_F)), (a_t_told, .inl (tI, t_told_N, .inl t_told_F)), (a_t_came, .inl (tI, t_came_N, .inl t_came_F)), (a_t_brings, .inl (tI, t_brings_N, .inl t_brings_F)), (a_t_owner, .inl (tI, t_owner_N, .inl t_owner_F)), (a_t_length, .inl (tI, t_length_N, .inl t_length_F)), (a_t, .inr (7, [.int t_thrown, .int t_style, .int t_bands, .ref a_t_wide, .ref a_t_high, .ref a_t_begins, .int t_size, .ref o_t_bytes, .ref a_t_came, .ref o_t_width, .ref a_t_brings, .ref o_t_first, .ref o_t_missing, .ref a_t_told, .int t_pieces, .ref a_t_owner, .ref a_t_length, .ref o_t_layers, .int t_over, .ref o_t_low, .ref o_t_known, .int t_writing, .int t_begin, .int t_end, .int t_room, .int t_wrong, .int t_count])), (a_t_wide, .inl (tI, t_wide_N, .inl t_wide_F)), (a_t_high, .inl (tI, t_high_N, .inl t_high_F))] H := hP
    have hD : va_D A [(a_t_begins, .inl (tI, t_begins_N, .inl t_begins_F)), (a_t_told, .inl (tI, t_told_N, .inl t_told_F)), (a_t_came, .inl (tI, t_came_N, .inl t_came_F)), (a_t_brings, .inl (tI, t_brings_N, .inl t_brings_F)), (a_t_owner, .inl (tI, t_owner_N, .inl t_owner_F)), (a_t_length, .inl (tI, t_length_N, .inl t_length_F)), (a_t, .inr (7, [.int t_thrown, .int t_style, .int t_bands, .ref a_t_wide, .ref a_t_high, .ref a_t_begins, .int t_size, .ref o_t_bytes, .ref a_t_came, .ref o_t_width, .ref a_t_brings, .ref o_t_first, .ref o_t_missing, .ref a_t_told, .int t_pieces, .ref a_t_owner, .ref a_t_length, .ref o_t_layers, .int t_over, .ref o_t_low, .ref o_t_known, .int t_writing, .int t_begin, .int t_end, .int t_room, .int t_wrong, .int t_count])), (a_t_wide, .inl (tI, t_wide_N, .inl t_wide_F)), (a_t_high, .inl (tI, t_high_N, .inl t_high_F))] := hD
    refine lv_if_eq (tgt := 23) hx hb d_Mo_piece_16 (by decide) (fun c0 => ?_) (fun c0 => ?_)
    · have hf := ite_t c0 hf
      refine lv_iconst (v := 0) hx hb d_Mo_piece_23 (by decide) ?_
      exact k_24 t_told_F t_owner_F t_length_F t_thrown t_pieces p0 p1 p2 0 _ _ _ _ ls hP hD hS hl hc hf
    · have hf := ite_f c0 hf
      exact k_19 t_told_F t_owner_F t_length_F t_thrown t_pieces p0 p1 p2 _ _ _ _ ls hP hD hS hl hc hf
