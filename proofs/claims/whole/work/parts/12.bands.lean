abbrev b_Bands_init : ByteArray := prog_2_method_1_code
def y_Bands_init : MethodName := ⟨R_Bands, "<init>", "()V"⟩
theorem d_Bands_init_0 : decode b_Bands_init 0 = .ok (.aload_n 0, 1) := by decide +kernel
theorem d_Bands_init_1 : decode b_Bands_init 1 = .ok (.invokespecial 3, 3) := by decide +kernel
theorem d_Bands_init_4 : decode b_Bands_init 4 = .ok (.aload_n 0, 1) := by decide +kernel
theorem d_Bands_init_5 : decode b_Bands_init 5 = .ok (.iconst 4, 1) := by decide +kernel
theorem d_Bands_init_6 : decode b_Bands_init 6 = .ok (.newarray .int, 2) := by decide +kernel
theorem d_Bands_init_8 : decode b_Bands_init 8 = .ok (.putfield 9, 3) := by decide +kernel
theorem d_Bands_init_11 : decode b_Bands_init 11 = .ok (.aload_n 0, 1) := by decide +kernel
theorem d_Bands_init_12 : decode b_Bands_init 12 = .ok (.bipush 16, 2) := by decide +kernel
theorem d_Bands_init_14 : decode b_Bands_init 14 = .ok (.newarray .int, 2) := by decide +kernel
theorem d_Bands_init_16 : decode b_Bands_init 16 = .ok (.putfield 15, 3) := by decide +kernel
theorem d_Bands_init_19 : decode b_Bands_init 19 = .ok (.aload_n 0, 1) := by decide +kernel
theorem d_Bands_init_20 : decode b_Bands_init 20 = .ok (.bipush 16, 2) := by decide +kernel
theorem d_Bands_init_22 : decode b_Bands_init 22 = .ok (.newarray .int, 2) := by decide +kernel
theorem d_Bands_init_24 : decode b_Bands_init 24 = .ok (.putfield 18, 3) := by decide +kernel
theorem d_Bands_init_27 : decode b_Bands_init 27 = .ok (.return_, 1) := by decide +kernel
abbrev b_Bands_restart : ByteArray := prog_2_method_2_code
def y_Bands_restart : MethodName := ⟨R_Bands, "restart", "(I)V"⟩
theorem d_Bands_restart_0 : decode b_Bands_restart 0 = .ok (.aload_n 0, 1) := by decide +kernel
theorem d_Bands_restart_1 : decode b_Bands_restart 1 = .ok (.iconst 0, 1) := by decide +kernel
theorem d_Bands_restart_2 : decode b_Bands_restart 2 = .ok (.putfield 21, 3) := by decide +kernel
theorem d_Bands_restart_5 : decode b_Bands_restart 5 = .ok (.aload_n 0, 1) := by decide +kernel
theorem d_Bands_restart_6 : decode b_Bands_restart 6 = .ok (.iconst 0, 1) := by decide +kernel
theorem d_Bands_restart_7 : decode b_Bands_restart 7 = .ok (.putfield 25, 3) := by decide +kernel
theorem d_Bands_restart_10 : decode b_Bands_restart 10 = .ok (.aload_n 0, 1) := by decide +kernel
theorem d_Bands_restart_11 : decode b_Bands_restart 11 = .ok (.iload_n 1, 1) := by decide +kernel
theorem d_Bands_restart_12 : decode b_Bands_restart 12 = .ok (.putfield 28, 3) := by decide +kernel
theorem d_Bands_restart_15 : decode b_Bands_restart 15 = .ok (.return_, 1) := by decide +kernel
abbrev b_Bands_blocks : ByteArray := prog_2_method_3_code
def y_Bands_blocks : MethodName := ⟨R_Bands, "blocks", "()I"⟩
theorem d_Bands_blocks_0 : decode b_Bands_blocks 0 = .ok (.aload_n 0, 1) := by decide +kernel
theorem d_Bands_blocks_1 : decode b_Bands_blocks 1 = .ok (.getfield 9, 3) := by decide +kernel
theorem d_Bands_blocks_4 : decode b_Bands_blocks 4 = .ok (.aload_n 0, 1) := by decide +kernel
theorem d_Bands_blocks_5 : decode b_Bands_blocks 5 = .ok (.getfield 21, 3) := by decide +kernel
theorem d_Bands_blocks_8 : decode b_Bands_blocks 8 = .ok (.iaload, 1) := by decide +kernel
theorem d_Bands_blocks_9 : decode b_Bands_blocks 9 = .ok (.ireturn, 1) := by decide +kernel
abbrev b_Bands_find : ByteArray := prog_2_method_4_code
def y_Bands_find : MethodName := ⟨R_Bands, "find", "(II)I"⟩
theorem d_Bands_find_0 : decode b_Bands_find 0 = .ok (.iload_n 1, 1) := by decide +kernel
theorem d_Bands_find_1 : decode b_Bands_find 1 = .ok (.ifCond .lt 34, 3) := by decide +kernel
theorem d_Bands_find_4 : decode b_Bands_find 4 = .ok (.iload_n 1, 1) := by decide +kernel
theorem d_Bands_find_5 : decode b_Bands_find 5 = .ok (.aload_n 0, 1) := by decide +kernel
theorem d_Bands_find_6 : decode b_Bands_find 6 = .ok (.getfield 21, 3) := by decide +kernel
theorem d_Bands_find_9 : decode b_Bands_find 9 = .ok (.if_icmp .ge 26, 3) := by decide +kernel
theorem d_Bands_find_12 : decode b_Bands_find 12 = .ok (.iload_n 2, 1) := by decide +kernel
theorem d_Bands_find_13 : decode b_Bands_find 13 = .ok (.ifCond .lt 22, 3) := by decide +kernel
theorem d_Bands_find_16 : decode b_Bands_find 16 = .ok (.iload_n 2, 1) := by decide +kernel
theorem d_Bands_find_17 : decode b_Bands_find 17 = .ok (.aload_n 0, 1) := by decide +kernel
theorem d_Bands_find_18 : decode b_Bands_find 18 = .ok (.getfield 9, 3) := by decide +kernel
theorem d_Bands_find_21 : decode b_Bands_find 21 = .ok (.iload_n 1, 1) := by decide +kernel
theorem d_Bands_find_22 : decode b_Bands_find 22 = .ok (.iconst 1, 1) := by decide +kernel
theorem d_Bands_find_23 : decode b_Bands_find 23 = .ok (.iadd, 1) := by decide +kernel
theorem d_Bands_find_24 : decode b_Bands_find 24 = .ok (.iaload, 1) := by decide +kernel
theorem d_Bands_find_25 : decode b_Bands_find 25 = .ok (.aload_n 0, 1) := by decide +kernel
theorem d_Bands_find_26 : decode b_Bands_find 26 = .ok (.getfield 9, 3) := by decide +kernel
theorem d_Bands_find_29 : decode b_Bands_find 29 = .ok (.iload_n 1, 1) := by decide +kernel
theorem d_Bands_find_30 : decode b_Bands_find 30 = .ok (.iaload, 1) := by decide +kernel
theorem d_Bands_find_31 : decode b_Bands_find 31 = .ok (.isub, 1) := by decide +kernel
theorem d_Bands_find_32 : decode b_Bands_find 32 = .ok (.if_icmp .lt 5, 3) := by decide +kernel
theorem d_Bands_find_35 : decode b_Bands_find 35 = .ok (.iconst (-1), 1) := by decide +kernel
theorem d_Bands_find_36 : decode b_Bands_find 36 = .ok (.ireturn, 1) := by decide +kernel
theorem d_Bands_find_37 : decode b_Bands_find 37 = .ok (.aload_n 0, 1) := by decide +kernel
theorem d_Bands_find_38 : decode b_Bands_find 38 = .ok (.getfield 9, 3) := by decide +kernel
theorem d_Bands_find_41 : decode b_Bands_find 41 = .ok (.iload_n 1, 1) := by decide +kernel
theorem d_Bands_find_42 : decode b_Bands_find 42 = .ok (.iaload, 1) := by decide +kernel
theorem d_Bands_find_43 : decode b_Bands_find 43 = .ok (.iload_n 2, 1) := by decide +kernel
theorem d_Bands_find_44 : decode b_Bands_find 44 = .ok (.iadd, 1) := by decide +kernel
theorem d_Bands_find_45 : decode b_Bands_find 45 = .ok (.ireturn, 1) := by decide +kernel
abbrev b_Bands_addLevel : ByteArray := prog_2_method_6_code
def y_Bands_addLevel : MethodName := ⟨R_Bands, "addLevel", "(II)V"⟩
theorem d_Bands_addLevel_0 : decode b_Bands_addLevel 0 = .ok (.aload_n 0, 1) := by decide +kernel
theorem d_Bands_addLevel_1 : decode b_Bands_addLevel 1 = .ok (.getfield 25, 3) := by decide +kernel
theorem d_Bands_addLevel_4 : decode b_Bands_addLevel 4 = .ok (.iload_n 1, 1) := by decide +kernel
theorem d_Bands_addLevel_5 : decode b_Bands_addLevel 5 = .ok (.iload_n 2, 1) := by decide +kernel
theorem d_Bands_addLevel_6 : decode b_Bands_addLevel 6 = .ok (.imul, 1) := by decide +kernel
theorem d_Bands_addLevel_7 : decode b_Bands_addLevel 7 = .ok (.iadd, 1) := by decide +kernel
theorem d_Bands_addLevel_8 : decode b_Bands_addLevel 8 = .ok (.istore_n 3, 1) := by decide +kernel
theorem d_Bands_addLevel_9 : decode b_Bands_addLevel 9 = .ok (.iload_n 1, 1) := by decide +kernel
theorem d_Bands_addLevel_10 : decode b_Bands_addLevel 10 = .ok (.iconst 1, 1) := by decide +kernel
theorem d_Bands_addLevel_11 : decode b_Bands_addLevel 11 = .ok (.if_icmp .ne 12, 3) := by decide +kernel
theorem d_Bands_addLevel_14 : decode b_Bands_addLevel 14 = .ok (.iload_n 2, 1) := by decide +kernel
theorem d_Bands_addLevel_15 : decode b_Bands_addLevel 15 = .ok (.iconst 1, 1) := by decide +kernel
theorem d_Bands_addLevel_16 : decode b_Bands_addLevel 16 = .ok (.if_icmp .ne 7, 3) := by decide +kernel
theorem d_Bands_addLevel_19 : decode b_Bands_addLevel 19 = .ok (.iconst 1, 1) := by decide +kernel
theorem d_Bands_addLevel_20 : decode b_Bands_addLevel 20 = .ok (.goto 4, 3) := by decide +kernel
theorem d_Bands_addLevel_23 : decode b_Bands_addLevel 23 = .ok (.iconst 0, 1) := by decide +kernel
theorem d_Bands_addLevel_24 : decode b_Bands_addLevel 24 = .ok (.istore 4, 2) := by decide +kernel
theorem d_Bands_addLevel_26 : decode b_Bands_addLevel 26 = .ok (.aload_n 0, 1) := by decide +kernel
theorem d_Bands_addLevel_27 : decode b_Bands_addLevel 27 = .ok (.aload_n 0, 1) := by decide +kernel
theorem d_Bands_addLevel_28 : decode b_Bands_addLevel 28 = .ok (.getfield 18, 3) := by decide +kernel
theorem d_Bands_addLevel_31 : decode b_Bands_addLevel 31 = .ok (.iload_n 3, 1) := by decide +kernel
theorem d_Bands_addLevel_32 : decode b_Bands_addLevel 32 = .ok (.invokestatic 35, 3) := by decide +kernel
theorem d_Bands_addLevel_35 : decode b_Bands_addLevel 35 = .ok (.putfield 18, 3) := by decide +kernel
theorem d_Bands_addLevel_38 : decode b_Bands_addLevel 38 = .ok (.iconst 0, 1) := by decide +kernel
theorem d_Bands_addLevel_39 : decode b_Bands_addLevel 39 = .ok (.istore 5, 2) := by decide +kernel
theorem d_Bands_addLevel_41 : decode b_Bands_addLevel 41 = .ok (.iload 5, 2) := by decide +kernel
theorem d_Bands_addLevel_43 : decode b_Bands_addLevel 43 = .ok (.iload_n 2, 1) := by decide +kernel
theorem d_Bands_addLevel_44 : decode b_Bands_addLevel 44 = .ok (.if_icmp .ge 67, 3) := by decide +kernel
theorem d_Bands_addLevel_47 : decode b_Bands_addLevel 47 = .ok (.iconst 0, 1) := by decide +kernel
theorem d_Bands_addLevel_48 : decode b_Bands_addLevel 48 = .ok (.istore 6, 2) := by decide +kernel
theorem d_Bands_addLevel_50 : decode b_Bands_addLevel 50 = .ok (.iload 6, 2) := by decide +kernel
theorem d_Bands_addLevel_52 : decode b_Bands_addLevel 52 = .ok (.iload_n 1, 1) := by decide +kernel
theorem d_Bands_addLevel_53 : decode b_Bands_addLevel 53 = .ok (.if_icmp .ge 52, 3) := by decide +kernel
theorem d_Bands_addLevel_56 : decode b_Bands_addLevel 56 = .ok (.aload_n 0, 1) := by decide +kernel
theorem d_Bands_addLevel_57 : decode b_Bands_addLevel 57 = .ok (.getfield 18, 3) := by decide +kernel
theorem d_Bands_addLevel_60 : decode b_Bands_addLevel 60 = .ok (.aload_n 0, 1) := by decide +kernel
theorem d_Bands_addLevel_61 : decode b_Bands_addLevel 61 = .ok (.getfield 25, 3) := by decide +kernel
theorem d_Bands_addLevel_64 : decode b_Bands_addLevel 64 = .ok (.iload 5, 2) := by decide +kernel
theorem d_Bands_addLevel_66 : decode b_Bands_addLevel 66 = .ok (.iload_n 1, 1) := by decide +kernel
theorem d_Bands_addLevel_67 : decode b_Bands_addLevel 67 = .ok (.imul, 1) := by decide +kernel
theorem d_Bands_addLevel_68 : decode b_Bands_addLevel 68 = .ok (.iadd, 1) := by decide +kernel
theorem d_Bands_addLevel_69 : decode b_Bands_addLevel 69 = .ok (.iload 6, 2) := by decide +kernel
theorem d_Bands_addLevel_71 : decode b_Bands_addLevel 71 = .ok (.iadd, 1) := by decide +kernel
theorem d_Bands_addLevel_72 : decode b_Bands_addLevel 72 = .ok (.iload 4, 2) := by decide +kernel
theorem d_Bands_addLevel_74 : decode b_Bands_addLevel 74 = .ok (.ifCond .eq 7, 3) := by decide +kernel
theorem d_Bands_addLevel_77 : decode b_Bands_addLevel 77 = .ok (.iconst (-1), 1) := by decide +kernel
theorem d_Bands_addLevel_78 : decode b_Bands_addLevel 78 = .ok (.goto 20, 3) := by decide +kernel
theorem d_Bands_addLevel_81 : decode b_Bands_addLevel 81 = .ok (.iload_n 3, 1) := by decide +kernel
theorem d_Bands_addLevel_82 : decode b_Bands_addLevel 82 = .ok (.iload 5, 2) := by decide +kernel
theorem d_Bands_addLevel_84 : decode b_Bands_addLevel 84 = .ok (.iconst 2, 1) := by decide +kernel
theorem d_Bands_addLevel_85 : decode b_Bands_addLevel 85 = .ok (.idiv, 1) := by decide +kernel
theorem d_Bands_addLevel_86 : decode b_Bands_addLevel 86 = .ok (.iload_n 1, 1) := by decide +kernel
theorem d_Bands_addLevel_87 : decode b_Bands_addLevel 87 = .ok (.iconst 1, 1) := by decide +kernel
theorem d_Bands_addLevel_88 : decode b_Bands_addLevel 88 = .ok (.iadd, 1) := by decide +kernel
theorem d_Bands_addLevel_89 : decode b_Bands_addLevel 89 = .ok (.iconst 2, 1) := by decide +kernel
theorem d_Bands_addLevel_90 : decode b_Bands_addLevel 90 = .ok (.idiv, 1) := by decide +kernel
theorem d_Bands_addLevel_91 : decode b_Bands_addLevel 91 = .ok (.imul, 1) := by decide +kernel
theorem d_Bands_addLevel_92 : decode b_Bands_addLevel 92 = .ok (.iadd, 1) := by decide +kernel
theorem d_Bands_addLevel_93 : decode b_Bands_addLevel 93 = .ok (.iload 6, 2) := by decide +kernel
theorem d_Bands_addLevel_95 : decode b_Bands_addLevel 95 = .ok (.iconst 2, 1) := by decide +kernel
theorem d_Bands_addLevel_96 : decode b_Bands_addLevel 96 = .ok (.idiv, 1) := by decide +kernel
theorem d_Bands_addLevel_97 : decode b_Bands_addLevel 97 = .ok (.iadd, 1) := by decide +kernel
theorem d_Bands_addLevel_98 : decode b_Bands_addLevel 98 = .ok (.iastore, 1) := by decide +kernel
theorem d_Bands_addLevel_99 : decode b_Bands_addLevel 99 = .ok (.iinc 6 1, 3) := by decide +kernel
theorem d_Bands_addLevel_102 : decode b_Bands_addLevel 102 = .ok (.goto (-52), 3) := by decide +kernel
theorem d_Bands_addLevel_105 : decode b_Bands_addLevel 105 = .ok (.iinc 5 1, 3) := by decide +kernel
theorem d_Bands_addLevel_108 : decode b_Bands_addLevel 108 = .ok (.goto (-67), 3) := by decide +kernel
theorem d_Bands_addLevel_111 : decode b_Bands_addLevel 111 = .ok (.aload_n 0, 1) := by decide +kernel
theorem d_Bands_addLevel_112 : decode b_Bands_addLevel 112 = .ok (.iload_n 3, 1) := by decide +kernel
theorem d_Bands_addLevel_113 : decode b_Bands_addLevel 113 = .ok (.putfield 25, 3) := by decide +kernel
theorem d_Bands_addLevel_116 : decode b_Bands_addLevel 116 = .ok (.return_, 1) := by decide +kernel
abbrev b_Bands_add : ByteArray := prog_2_method_5_code
def y_Bands_add : MethodName := ⟨R_Bands, "add", "(II)V"⟩
theorem d_Bands_add_0 : decode b_Bands_add 0 = .ok (.aload_n 0, 1) := by decide +kernel
theorem d_Bands_add_1 : decode b_Bands_add 1 = .ok (.invokevirtual 31, 3) := by decide +kernel
theorem d_Bands_add_4 : decode b_Bands_add 4 = .ok (.istore_n 3, 1) := by decide +kernel
theorem d_Bands_add_5 : decode b_Bands_add 5 = .ok (.aload_n 0, 1) := by decide +kernel
theorem d_Bands_add_6 : decode b_Bands_add 6 = .ok (.aload_n 0, 1) := by decide +kernel
theorem d_Bands_add_7 : decode b_Bands_add 7 = .ok (.getfield 15, 3) := by decide +kernel
theorem d_Bands_add_10 : decode b_Bands_add 10 = .ok (.iload_n 3, 1) := by decide +kernel
theorem d_Bands_add_11 : decode b_Bands_add 11 = .ok (.iload_n 1, 1) := by decide +kernel
theorem d_Bands_add_12 : decode b_Bands_add 12 = .ok (.iload_n 2, 1) := by decide +kernel
theorem d_Bands_add_13 : decode b_Bands_add 13 = .ok (.imul, 1) := by decide +kernel
theorem d_Bands_add_14 : decode b_Bands_add 14 = .ok (.iadd, 1) := by decide +kernel
theorem d_Bands_add_15 : decode b_Bands_add 15 = .ok (.invokestatic 35, 3) := by decide +kernel
theorem d_Bands_add_18 : decode b_Bands_add 18 = .ok (.putfield 15, 3) := by decide +kernel
theorem d_Bands_add_21 : decode b_Bands_add 21 = .ok (.iconst 0, 1) := by decide +kernel
theorem d_Bands_add_22 : decode b_Bands_add 22 = .ok (.istore 4, 2) := by decide +kernel
theorem d_Bands_add_24 : decode b_Bands_add 24 = .ok (.iload 4, 2) := by decide +kernel
theorem d_Bands_add_26 : decode b_Bands_add 26 = .ok (.iload_n 1, 1) := by decide +kernel
theorem d_Bands_add_27 : decode b_Bands_add 27 = .ok (.iload_n 2, 1) := by decide +kernel
theorem d_Bands_add_28 : decode b_Bands_add 28 = .ok (.imul, 1) := by decide +kernel
theorem d_Bands_add_29 : decode b_Bands_add 29 = .ok (.if_icmp .ge 25, 3) := by decide +kernel
theorem d_Bands_add_32 : decode b_Bands_add 32 = .ok (.aload_n 0, 1) := by decide +kernel
theorem d_Bands_add_33 : decode b_Bands_add 33 = .ok (.getfield 15, 3) := by decide +kernel
theorem d_Bands_add_36 : decode b_Bands_add 36 = .ok (.iload_n 3, 1) := by decide +kernel
theorem d_Bands_add_37 : decode b_Bands_add 37 = .ok (.iload 4, 2) := by decide +kernel
theorem d_Bands_add_39 : decode b_Bands_add 39 = .ok (.iadd, 1) := by decide +kernel
theorem d_Bands_add_40 : decode b_Bands_add 40 = .ok (.aload_n 0, 1) := by decide +kernel
theorem d_Bands_add_41 : decode b_Bands_add 41 = .ok (.getfield 25, 3) := by decide +kernel
theorem d_Bands_add_44 : decode b_Bands_add 44 = .ok (.iload 4, 2) := by decide +kernel
theorem d_Bands_add_46 : decode b_Bands_add 46 = .ok (.iadd, 1) := by decide +kernel
theorem d_Bands_add_47 : decode b_Bands_add 47 = .ok (.iastore, 1) := by decide +kernel
theorem d_Bands_add_48 : decode b_Bands_add 48 = .ok (.iinc 4 1, 3) := by decide +kernel
theorem d_Bands_add_51 : decode b_Bands_add 51 = .ok (.goto (-27), 3) := by decide +kernel
theorem d_Bands_add_54 : decode b_Bands_add 54 = .ok (.iload_n 1, 1) := by decide +kernel
theorem d_Bands_add_55 : decode b_Bands_add 55 = .ok (.istore 4, 2) := by decide +kernel
theorem d_Bands_add_57 : decode b_Bands_add 57 = .ok (.iload_n 2, 1) := by decide +kernel
theorem d_Bands_add_58 : decode b_Bands_add 58 = .ok (.istore 5, 2) := by decide +kernel
theorem d_Bands_add_60 : decode b_Bands_add 60 = .ok (.iconst 0, 1) := by decide +kernel
theorem d_Bands_add_61 : decode b_Bands_add 61 = .ok (.istore 6, 2) := by decide +kernel
theorem d_Bands_add_63 : decode b_Bands_add 63 = .ok (.iload 6, 2) := by decide +kernel
theorem d_Bands_add_65 : decode b_Bands_add 65 = .ok (.bipush 7, 2) := by decide +kernel
theorem d_Bands_add_67 : decode b_Bands_add 67 = .ok (.if_icmp .ge 58, 3) := by decide +kernel
theorem d_Bands_add_70 : decode b_Bands_add 70 = .ok (.iload 4, 2) := by decide +kernel
theorem d_Bands_add_72 : decode b_Bands_add 72 = .ok (.ifCond .le 53, 3) := by decide +kernel
theorem d_Bands_add_75 : decode b_Bands_add 75 = .ok (.iload 5, 2) := by decide +kernel
theorem d_Bands_add_77 : decode b_Bands_add 77 = .ok (.ifCond .le 48, 3) := by decide +kernel
theorem d_Bands_add_80 : decode b_Bands_add 80 = .ok (.aload_n 0, 1) := by decide +kernel
theorem d_Bands_add_81 : decode b_Bands_add 81 = .ok (.iload 4, 2) := by decide +kernel
theorem d_Bands_add_83 : decode b_Bands_add 83 = .ok (.iload 5, 2) := by decide +kernel
theorem d_Bands_add_85 : decode b_Bands_add 85 = .ok (.invokevirtual 39, 3) := by decide +kernel
theorem d_Bands_add_88 : decode b_Bands_add 88 = .ok (.iload 4, 2) := by decide +kernel
theorem d_Bands_add_90 : decode b_Bands_add 90 = .ok (.iconst 1, 1) := by decide +kernel
theorem d_Bands_add_91 : decode b_Bands_add 91 = .ok (.if_icmp .ne 12, 3) := by decide +kernel
theorem d_Bands_add_94 : decode b_Bands_add 94 = .ok (.iload 5, 2) := by decide +kernel
theorem d_Bands_add_96 : decode b_Bands_add 96 = .ok (.iconst 1, 1) := by decide +kernel
theorem d_Bands_add_97 : decode b_Bands_add 97 = .ok (.if_icmp .ne 6, 3) := by decide +kernel
theorem d_Bands_add_100 : decode b_Bands_add 100 = .ok (.goto 25, 3) := by decide +kernel
theorem d_Bands_add_103 : decode b_Bands_add 103 = .ok (.iload 4, 2) := by decide +kernel
theorem d_Bands_add_105 : decode b_Bands_add 105 = .ok (.iconst 1, 1) := by decide +kernel
theorem d_Bands_add_106 : decode b_Bands_add 106 = .ok (.iadd, 1) := by decide +kernel
theorem d_Bands_add_107 : decode b_Bands_add 107 = .ok (.iconst 2, 1) := by decide +kernel
theorem d_Bands_add_108 : decode b_Bands_add 108 = .ok (.idiv, 1) := by decide +kernel
theorem d_Bands_add_109 : decode b_Bands_add 109 = .ok (.istore 4, 2) := by decide +kernel
theorem d_Bands_add_111 : decode b_Bands_add 111 = .ok (.iload 5, 2) := by decide +kernel
theorem d_Bands_add_113 : decode b_Bands_add 113 = .ok (.iconst 1, 1) := by decide +kernel
theorem d_Bands_add_114 : decode b_Bands_add 114 = .ok (.iadd, 1) := by decide +kernel
theorem d_Bands_add_115 : decode b_Bands_add 115 = .ok (.iconst 2, 1) := by decide +kernel
theorem d_Bands_add_116 : decode b_Bands_add 116 = .ok (.idiv, 1) := by decide +kernel
theorem d_Bands_add_117 : decode b_Bands_add 117 = .ok (.istore 5, 2) := by decide +kernel
theorem d_Bands_add_119 : decode b_Bands_add 119 = .ok (.iinc 6 1, 3) := by decide +kernel
theorem d_Bands_add_122 : decode b_Bands_add 122 = .ok (.goto (-59), 3) := by decide +kernel
theorem d_Bands_add_125 : decode b_Bands_add 125 = .ok (.aload_n 0, 1) := by decide +kernel
theorem d_Bands_add_126 : decode b_Bands_add 126 = .ok (.dup, 1) := by decide +kernel
theorem d_Bands_add_127 : decode b_Bands_add 127 = .ok (.getfield 21, 3) := by decide +kernel
theorem d_Bands_add_130 : decode b_Bands_add 130 = .ok (.iconst 1, 1) := by decide +kernel
theorem d_Bands_add_131 : decode b_Bands_add 131 = .ok (.iadd, 1) := by decide +kernel
theorem d_Bands_add_132 : decode b_Bands_add 132 = .ok (.putfield 21, 3) := by decide +kernel
theorem d_Bands_add_135 : decode b_Bands_add 135 = .ok (.aload_n 0, 1) := by decide +kernel
theorem d_Bands_add_136 : decode b_Bands_add 136 = .ok (.getfield 9, 3) := by decide +kernel
theorem d_Bands_add_139 : decode b_Bands_add 139 = .ok (.aload_n 0, 1) := by decide +kernel
theorem d_Bands_add_140 : decode b_Bands_add 140 = .ok (.getfield 21, 3) := by decide +kernel
theorem d_Bands_add_143 : decode b_Bands_add 143 = .ok (.iload_n 3, 1) := by decide +kernel
theorem d_Bands_add_144 : decode b_Bands_add 144 = .ok (.iload_n 1, 1) := by decide +kernel
theorem d_Bands_add_145 : decode b_Bands_add 145 = .ok (.iload_n 2, 1) := by decide +kernel
theorem d_Bands_add_146 : decode b_Bands_add 146 = .ok (.imul, 1) := by decide +kernel
theorem d_Bands_add_147 : decode b_Bands_add 147 = .ok (.iadd, 1) := by decide +kernel
theorem d_Bands_add_148 : decode b_Bands_add 148 = .ok (.iastore, 1) := by decide +kernel
theorem d_Bands_add_149 : decode b_Bands_add 149 = .ok (.return_, 1) := by decide +kernel
abbrev b_Bands_segmentEndsBehind : ByteArray := prog_2_method_7_code
def y_Bands_segmentEndsBehind : MethodName := ⟨R_Bands, "segmentEndsBehind", "(I)Z"⟩
theorem d_Bands_segmentEndsBehind_0 : decode b_Bands_segmentEndsBehind 0 = .ok (.aload_n 0, 1) := by decide +kernel
theorem d_Bands_segmentEndsBehind_1 : decode b_Bands_segmentEndsBehind 1 = .ok (.getfield 28, 3) := by decide +kernel
theorem d_Bands_segmentEndsBehind_4 : decode b_Bands_segmentEndsBehind 4 = .ok (.iconst 4, 1) := by decide +kernel
theorem d_Bands_segmentEndsBehind_5 : decode b_Bands_segmentEndsBehind 5 = .ok (.iand, 1) := by decide +kernel
theorem d_Bands_segmentEndsBehind_6 : decode b_Bands_segmentEndsBehind 6 = .ok (.ifCond .eq 5, 3) := by decide +kernel
theorem d_Bands_segmentEndsBehind_9 : decode b_Bands_segmentEndsBehind 9 = .ok (.iconst 1, 1) := by decide +kernel
theorem d_Bands_segmentEndsBehind_10 : decode b_Bands_segmentEndsBehind 10 = .ok (.ireturn, 1) := by decide +kernel
theorem d_Bands_segmentEndsBehind_11 : decode b_Bands_segmentEndsBehind 11 = .ok (.aload_n 0, 1) := by decide +kernel
theorem d_Bands_segmentEndsBehind_12 : decode b_Bands_segmentEndsBehind 12 = .ok (.getfield 28, 3) := by decide +kernel
theorem d_Bands_segmentEndsBehind_15 : decode b_Bands_segmentEndsBehind 15 = .ok (.iconst 1, 1) := by decide +kernel
theorem d_Bands_segmentEndsBehind_16 : decode b_Bands_segmentEndsBehind 16 = .ok (.iand, 1) := by decide +kernel
theorem d_Bands_segmentEndsBehind_17 : decode b_Bands_segmentEndsBehind 17 = .ok (.ifCond .ne 5, 3) := by decide +kernel
theorem d_Bands_segmentEndsBehind_20 : decode b_Bands_segmentEndsBehind 20 = .ok (.iconst 0, 1) := by decide +kernel
theorem d_Bands_segmentEndsBehind_21 : decode b_Bands_segmentEndsBehind 21 = .ok (.ireturn, 1) := by decide +kernel
theorem d_Bands_segmentEndsBehind_22 : decode b_Bands_segmentEndsBehind 22 = .ok (.iload_n 1, 1) := by decide +kernel
theorem d_Bands_segmentEndsBehind_23 : decode b_Bands_segmentEndsBehind 23 = .ok (.bipush 9, 2) := by decide +kernel
theorem d_Bands_segmentEndsBehind_25 : decode b_Bands_segmentEndsBehind 25 = .ok (.if_icmp .lt 9, 3) := by decide +kernel
theorem d_Bands_segmentEndsBehind_28 : decode b_Bands_segmentEndsBehind 28 = .ok (.iload_n 1, 1) := by decide +kernel
theorem d_Bands_segmentEndsBehind_29 : decode b_Bands_segmentEndsBehind 29 = .ok (.iconst 3, 1) := by decide +kernel
theorem d_Bands_segmentEndsBehind_30 : decode b_Bands_segmentEndsBehind 30 = .ok (.irem, 1) := by decide +kernel
theorem d_Bands_segmentEndsBehind_31 : decode b_Bands_segmentEndsBehind 31 = .ok (.ifCond .eq 16, 3) := by decide +kernel
theorem d_Bands_segmentEndsBehind_34 : decode b_Bands_segmentEndsBehind 34 = .ok (.iload_n 1, 1) := by decide +kernel
theorem d_Bands_segmentEndsBehind_35 : decode b_Bands_segmentEndsBehind 35 = .ok (.bipush 10, 2) := by decide +kernel
theorem d_Bands_segmentEndsBehind_37 : decode b_Bands_segmentEndsBehind 37 = .ok (.if_icmp .lt 14, 3) := by decide +kernel
theorem d_Bands_segmentEndsBehind_40 : decode b_Bands_segmentEndsBehind 40 = .ok (.iload_n 1, 1) := by decide +kernel
theorem d_Bands_segmentEndsBehind_41 : decode b_Bands_segmentEndsBehind 41 = .ok (.iconst 3, 1) := by decide +kernel
theorem d_Bands_segmentEndsBehind_42 : decode b_Bands_segmentEndsBehind 42 = .ok (.irem, 1) := by decide +kernel
theorem d_Bands_segmentEndsBehind_43 : decode b_Bands_segmentEndsBehind 43 = .ok (.iconst 2, 1) := by decide +kernel
theorem d_Bands_segmentEndsBehind_44 : decode b_Bands_segmentEndsBehind 44 = .ok (.if_icmp .ne 7, 3) := by decide +kernel
theorem d_Bands_segmentEndsBehind_47 : decode b_Bands_segmentEndsBehind 47 = .ok (.iconst 1, 1) := by decide +kernel
theorem d_Bands_segmentEndsBehind_48 : decode b_Bands_segmentEndsBehind 48 = .ok (.goto 4, 3) := by decide +kernel
theorem d_Bands_segmentEndsBehind_51 : decode b_Bands_segmentEndsBehind 51 = .ok (.iconst 0, 1) := by decide +kernel
theorem d_Bands_segmentEndsBehind_52 : decode b_Bands_segmentEndsBehind 52 = .ok (.ireturn, 1) := by decide +kernel
abbrev b_Bands_piecesOf : ByteArray := prog_2_method_8_code
def y_Bands_piecesOf : MethodName := ⟨R_Bands, "piecesOf", "(II)I"⟩
theorem d_Bands_piecesOf_0 : decode b_Bands_piecesOf 0 = .ok (.iconst 0, 1) := by decide +kernel
theorem d_Bands_piecesOf_1 : decode b_Bands_piecesOf 1 = .ok (.istore_n 3, 1) := by decide +kernel
theorem d_Bands_piecesOf_2 : decode b_Bands_piecesOf 2 = .ok (.iload_n 1, 1) := by decide +kernel
theorem d_Bands_piecesOf_3 : decode b_Bands_piecesOf 3 = .ok (.istore 4, 2) := by decide +kernel
theorem d_Bands_piecesOf_5 : decode b_Bands_piecesOf 5 = .ok (.iload 4, 2) := by decide +kernel
theorem d_Bands_piecesOf_7 : decode b_Bands_piecesOf 7 = .ok (.iload_n 2, 1) := by decide +kernel
theorem d_Bands_piecesOf_8 : decode b_Bands_piecesOf 8 = .ok (.if_icmp .ge 29, 3) := by decide +kernel
theorem d_Bands_piecesOf_11 : decode b_Bands_piecesOf 11 = .ok (.iload 4, 2) := by decide +kernel
theorem d_Bands_piecesOf_13 : decode b_Bands_piecesOf 13 = .ok (.iload_n 2, 1) := by decide +kernel
theorem d_Bands_piecesOf_14 : decode b_Bands_piecesOf 14 = .ok (.iconst 1, 1) := by decide +kernel
theorem d_Bands_piecesOf_15 : decode b_Bands_piecesOf 15 = .ok (.isub, 1) := by decide +kernel
theorem d_Bands_piecesOf_16 : decode b_Bands_piecesOf 16 = .ok (.if_icmp .eq 12, 3) := by decide +kernel
theorem d_Bands_piecesOf_19 : decode b_Bands_piecesOf 19 = .ok (.aload_n 0, 1) := by decide +kernel
theorem d_Bands_piecesOf_20 : decode b_Bands_piecesOf 20 = .ok (.iload 4, 2) := by decide +kernel
theorem d_Bands_piecesOf_22 : decode b_Bands_piecesOf 22 = .ok (.invokevirtual 43, 3) := by decide +kernel
theorem d_Bands_piecesOf_25 : decode b_Bands_piecesOf 25 = .ok (.ifCond .eq 6, 3) := by decide +kernel
theorem d_Bands_piecesOf_28 : decode b_Bands_piecesOf 28 = .ok (.iinc 3 1, 3) := by decide +kernel
theorem d_Bands_piecesOf_31 : decode b_Bands_piecesOf 31 = .ok (.iinc 4 1, 3) := by decide +kernel
theorem d_Bands_piecesOf_34 : decode b_Bands_piecesOf 34 = .ok (.goto (-29), 3) := by decide +kernel
theorem d_Bands_piecesOf_37 : decode b_Bands_piecesOf 37 = .ok (.iload_n 3, 1) := by decide +kernel
theorem d_Bands_piecesOf_38 : decode b_Bands_piecesOf 38 = .ok (.ireturn, 1) := by decide +kernel
abbrev b_Bands_passesOfPiece : ByteArray := prog_2_method_9_code
def y_Bands_passesOfPiece : MethodName := ⟨R_Bands, "passesOfPiece", "(II)I"⟩
theorem d_Bands_passesOfPiece_0 : decode b_Bands_passesOfPiece 0 = .ok (.iload_n 1, 1) := by decide +kernel
theorem d_Bands_passesOfPiece_1 : decode b_Bands_passesOfPiece 1 = .ok (.istore_n 3, 1) := by decide +kernel
theorem d_Bands_passesOfPiece_2 : decode b_Bands_passesOfPiece 2 = .ok (.iload_n 3, 1) := by decide +kernel
theorem d_Bands_passesOfPiece_3 : decode b_Bands_passesOfPiece 3 = .ok (.iload_n 2, 1) := by decide +kernel
theorem d_Bands_passesOfPiece_4 : decode b_Bands_passesOfPiece 4 = .ok (.if_icmp .ge 23, 3) := by decide +kernel
theorem d_Bands_passesOfPiece_7 : decode b_Bands_passesOfPiece 7 = .ok (.aload_n 0, 1) := by decide +kernel
theorem d_Bands_passesOfPiece_8 : decode b_Bands_passesOfPiece 8 = .ok (.iload_n 3, 1) := by decide +kernel
theorem d_Bands_passesOfPiece_9 : decode b_Bands_passesOfPiece 9 = .ok (.invokevirtual 43, 3) := by decide +kernel
theorem d_Bands_passesOfPiece_12 : decode b_Bands_passesOfPiece 12 = .ok (.ifCond .eq 9, 3) := by decide +kernel
theorem d_Bands_passesOfPiece_15 : decode b_Bands_passesOfPiece 15 = .ok (.iload_n 3, 1) := by decide +kernel
theorem d_Bands_passesOfPiece_16 : decode b_Bands_passesOfPiece 16 = .ok (.iload_n 1, 1) := by decide +kernel
theorem d_Bands_passesOfPiece_17 : decode b_Bands_passesOfPiece 17 = .ok (.isub, 1) := by decide +kernel
theorem d_Bands_passesOfPiece_18 : decode b_Bands_passesOfPiece 18 = .ok (.iconst 1, 1) := by decide +kernel
theorem d_Bands_passesOfPiece_19 : decode b_Bands_passesOfPiece 19 = .ok (.iadd, 1) := by decide +kernel
theorem d_Bands_passesOfPiece_20 : decode b_Bands_passesOfPiece 20 = .ok (.ireturn, 1) := by decide +kernel
theorem d_Bands_passesOfPiece_21 : decode b_Bands_passesOfPiece 21 = .ok (.iinc 3 1, 3) := by decide +kernel
theorem d_Bands_passesOfPiece_24 : decode b_Bands_passesOfPiece 24 = .ok (.goto (-22), 3) := by decide +kernel
theorem d_Bands_passesOfPiece_27 : decode b_Bands_passesOfPiece 27 = .ok (.iload_n 2, 1) := by decide +kernel
theorem d_Bands_passesOfPiece_28 : decode b_Bands_passesOfPiece 28 = .ok (.iload_n 1, 1) := by decide +kernel
theorem d_Bands_passesOfPiece_29 : decode b_Bands_passesOfPiece 29 = .ok (.isub, 1) := by decide +kernel
theorem d_Bands_passesOfPiece_30 : decode b_Bands_passesOfPiece 30 = .ok (.ireturn, 1) := by decide +kernel
theorem q_78 : (Cond.methodLink R_Bands 3 objectInit) ∈ TB := in_TB (List.mem_append_right _ (List.mem_of_getElem? (i := 48) (by decide +kernel))) (by decide +kernel)
theorem q_79 : (Cond.fieldLink R_Bands 9 "PacketHeads$Bands" "base" "[I") ∈ TB := in_TB (List.mem_append_right _ (List.mem_of_getElem? (i := 49) (by decide +kernel))) (by decide +kernel)
theorem q_80 : (Cond.fieldLink R_Bands 15 "PacketHeads$Bands" "leaf" "[I") ∈ TB := in_TB (List.mem_append_right _ (List.mem_of_getElem? (i := 50) (by decide +kernel))) (by decide +kernel)
theorem q_81 : (Cond.fieldLink R_Bands 18 "PacketHeads$Bands" "above" "[I") ∈ TB := in_TB (List.mem_append_right _ (List.mem_of_getElem? (i := 53) (by decide +kernel))) (by decide +kernel)
theorem q_82 : (Cond.fieldLink R_Bands 21 "PacketHeads$Bands" "count" "I") ∈ TB := in_TB (List.mem_append_right _ (List.mem_of_getElem? (i := 55) (by decide +kernel))) (by decide +kernel)
theorem q_83 : (Cond.fieldLink R_Bands 25 "PacketHeads$Bands" "nodes" "I") ∈ TB := in_TB (List.mem_append_right _ (List.mem_of_getElem? (i := 57) (by decide +kernel))) (by decide +kernel)
theorem q_84 : (Cond.fieldLink R_Bands 28 "PacketHeads$Bands" "style" "I") ∈ TB := in_TB (List.mem_append_right _ (List.mem_of_getElem? (i := 60) (by decide +kernel))) (by decide +kernel)
theorem q_85 : (Cond.code y_PH_withRoom b_PH_withRoom 2 (some (.array .int))) ∈ TB := in_TB (List.mem_append_right _ (List.mem_of_getElem? (i := 347) (by decide +kernel))) (by decide +kernel)
theorem q_86 : (Cond.methodLinkNest R_Bands 35 y_PH_withRoom "PacketHeads") ∈ lw_tbl := List.mem_append_right _ (List.mem_of_getElem? (i := 345) (by decide +kernel))
theorem q_87 : (Cond.static y_PH_withRoom) ∈ TB := in_TB (List.mem_append_right _ (List.mem_of_getElem? (i := 346) (by decide +kernel))) (by decide +kernel)
theorem q_88 : (Cond.code y_Bands_blocks b_Bands_blocks 1 (some .int)) ∈ TB := in_TB (List.mem_append_right _ (List.mem_of_getElem? (i := 322) (by decide +kernel))) (by decide +kernel)
theorem q_89 : (Cond.initialized R_Bands) ∈ TB := in_TB (List.mem_append_right _ (List.mem_of_getElem? (i := 3) (by decide +kernel))) (by decide +kernel)
theorem q_90 : (Cond.methodLink R_Bands 31 y_Bands_blocks) ∈ TB := in_TB (List.mem_append_right _ (List.mem_of_getElem? (i := 344) (by decide +kernel))) (by decide +kernel)
theorem q_91 : (Cond.instanceMethod y_Bands_blocks) ∈ TB := in_TB (List.mem_append_right _ (List.mem_of_getElem? (i := 320) (by decide +kernel))) (by decide +kernel)
theorem q_92 : (Cond.selects R_Bands y_Bands_blocks y_Bands_blocks) ∈ TB := in_TB (List.mem_append_right _ (List.mem_of_getElem? (i := 321) (by decide +kernel))) (by decide +kernel)
theorem q_93 : (Cond.code y_Bands_addLevel b_Bands_addLevel 7 none) ∈ TB := in_TB (List.mem_append_right _ (List.mem_of_getElem? (i := 370) (by decide +kernel))) (by decide +kernel)
theorem q_94 : (Cond.methodLink R_Bands 39 y_Bands_addLevel) ∈ TB := in_TB (List.mem_append_right _ (List.mem_of_getElem? (i := 367) (by decide +kernel))) (by decide +kernel)
theorem q_95 : (Cond.instanceMethod y_Bands_addLevel) ∈ TB := in_TB (List.mem_append_right _ (List.mem_of_getElem? (i := 369) (by decide +kernel))) (by decide +kernel)
theorem q_96 : (Cond.selects R_Bands y_Bands_addLevel y_Bands_addLevel) ∈ TB := in_TB (List.mem_append_left _ (List.mem_of_getElem? (i := 1) (by decide +kernel))) (by decide +kernel)
theorem q_97 : (Cond.code y_Bands_segmentEndsBehind b_Bands_segmentEndsBehind 2 (some .boolean)) ∈ TB := in_TB (List.mem_append_right _ (List.mem_of_getElem? (i := 428) (by decide +kernel))) (by decide +kernel)
theorem q_98 : (Cond.methodLink R_Bands 43 y_Bands_segmentEndsBehind) ∈ TB := in_TB (List.mem_append_right _ (List.mem_of_getElem? (i := 425) (by decide +kernel))) (by decide +kernel)
theorem q_99 : (Cond.instanceMethod y_Bands_segmentEndsBehind) ∈ TB := in_TB (List.mem_append_right _ (List.mem_of_getElem? (i := 426) (by decide +kernel))) (by decide +kernel)
theorem q_100 : (Cond.selects R_Bands y_Bands_segmentEndsBehind y_Bands_segmentEndsBehind) ∈ TB := in_TB (List.mem_append_right _ (List.mem_of_getElem? (i := 427) (by decide +kernel))) (by decide +kernel)
theorem hd_PH_withRoom : y_PH_withRoom.cls ≠ "java/lang/invoke/MethodHandle" ∧ y_PH_withRoom.cls ≠ "java/lang/invoke/VarHandle" ∧ (parseMethodDescriptor y_PH_withRoom.desc).map (fun d => d.parameters.length) = some 2 := by decide +kernel
theorem hd_Bands_blocks : y_Bands_blocks.cls ≠ "java/lang/invoke/MethodHandle" ∧ y_Bands_blocks.cls ≠ "java/lang/invoke/VarHandle" ∧ (parseMethodDescriptor y_Bands_blocks.desc).map (fun d => d.parameters.length) = some 0 := by decide +kernel
theorem hd_Bands_addLevel : y_Bands_addLevel.cls ≠ "java/lang/invoke/MethodHandle" ∧ y_Bands_addLevel.cls ≠ "java/lang/invoke/VarHandle" ∧ (parseMethodDescriptor y_Bands_addLevel.desc).map (fun d => d.parameters.length) = some 2 := by decide +kernel
theorem hd_Bands_segmentEndsBehind : y_Bands_segmentEndsBehind.cls ≠ "java/lang/invoke/MethodHandle" ∧ y_Bands_segmentEndsBehind.cls ≠ "java/lang/invoke/VarHandle" ∧ (parseMethodDescriptor y_Bands_segmentEndsBehind.desc).map (fun d => d.parameters.length) = some 1 := by decide +kernel
noncomputable def f_Bands_init (F : Nat) : Option (Nat × Nat × Nat × (Nat → Int32) × Nat × (Nat → Int32) × Nat × (Nat → Int32)) :=
addc 1 4 (
addc 1 16 (
addc 1 16 (
some (0, 0, 4, (fun _ => 0), 16, (fun _ => 0), 16, (fun _ => 0)))))
set_option maxHeartbeats 4000000 in
set_option maxRecDepth 100000 in
theorem c_Bands_init (l : Launch) (dC : Nat → ClassId) (dI : Nat → Nat → Nat) (tI tB tL tZ : ClassId) (a_t : Nat) (sz : Nat) (F : Nat) (nc ns : Nat) (u : Nat × (Nat → Int32) × Nat × (Nat → Int32) × Nat × (Nat → Int32)) (hf : f_Bands_init F  = some (nc, ns, u)) : CTv l y_Bands_init b_Bands_init 1 1 12 (dC, dI) classes [(tI, .int), (tB, .byte), (tL, .long), (tZ, .boolean)] [.ref a_t] [(a_t, .inr (0, [.null, .null, .null, .int 0, .int 0, .int 0]))] sz (fun q : Nat × Nat × Nat => [(a_t, .inr (0, [.ref q.1, .ref q.2.1, .ref q.2.2, .int 0, .int 0, .int 0])), (q.1, .inl (tI, u.1, .inl u.2.1)), (q.2.1, .inl (tI, u.2.2.1, .inl u.2.2.2.1)), (q.2.2, .inl (tI, u.2.2.2.2.1, .inl u.2.2.2.2.2))]) nc ns := by
  refine mk_v (by decide) (Nat.le_of_ble_eq_true rfl) ?_
  intro p e s m args below meth c ls A Q hx hb hml hts hown hin hK hN hP hD hA hl ret
  obtain ⟨H, hH⟩ : ∃ H : Heap, H = s.heap := ⟨_, rfl⟩
  have hS : va_S A s.heap H [] := by rw [hH]; exact va_S.rf
  rw [← hH] at hP ⊢
  have hl : lv_has ls 1 [(0, .ref a_t)] := hl
  have hc : 0 + nc ≤ nc ∧ 0 + ns ≤ ns := ⟨by omega, by omega⟩
  unfold f_Bands_init at hf
  refine lv_aload_n hx hb d_Bands_init_0 rfl (lv_at hl 0 rfl) ?_
  refine W.objInit hx hb hown (hts _ q_78) (hts _ q_22) (hts _ q_23) rfl (by rw [hml]; exact hl.1) rfl d_Bands_init_1 (Nat.le_of_ble_eq_true rfl) (Nat.le_of_ble_eq_true rfl) ?_
  refine W.eq (g2 := F0 m 4 ls []) rfl ?_
  refine lv_aload_n hx hb d_Bands_init_4 rfl (lv_at hl 0 rfl) ?_
  refine lv_iconst (v := 4) hx hb d_Bands_init_5 (by decide) ?_
  obtain ⟨nB11, sB12, hf, ha9, hb9⟩ := addc_of hf
  have hcc : 0 + 1 ≤ nc ∧ 0 + 4 ≤ ns := ⟨by omega, by omega⟩
  have hc : 0 + 1 + nB11 ≤ nc ∧ 0 + 4 + sB12 ≤ ns := ⟨by omega, by omega⟩
  refine va_newa (atype := .int) (ty := .int) (N' := 4) (a0 := (4, .inl (fun _ => 0))) hx hb (hts _ q_0) rfl hK hP hD hS hA (fun _ => rfl) (by decide) (by decide) (by decide) hcc.1 hcc.2 d_Bands_init_6 (fun ad10 cA9 H hK9 hP hD hS => ?_)
  obtain rfl := ty_one (i := 0) (j := 4) hK hK9 rfl rfl (by intro _ h9; cases h9)
  have hP : va_P (dC, dI) classes [(a_t, .inr (0, [.null, .null, .null, .int 0, .int 0, .int 0])), (ad10, .inl (tI, 4, .inl (fun _ => 0)))] H := hP
  have hD : va_D A [(a_t, .inr (0, [.null, .null, .null, .int 0, .int 0, .int 0])), (ad10, .inl (tI, 4, .inl (fun _ => 0)))] := hD
  refine va_putF (D := (dC, dI)) (ci := 0) (v := .ref ad10) (ty := t_Bands 0) (C := R_Bands) (T := F_Bands) (N := 6) hx hb hts i_Bands t_Bands t_Bands_ok n_Bands hown hK hP hD hS 0 rfl rfl 0 (by decide) (hts _ q_79) (fun _ h9 => h9) rfl hin rfl (t_Bands_ok 0 (by decide)) rfl rfl (Nat.le_of_ble_eq_true rfl) d_Bands_init_8 (fun H locs hP hD hS => ?_)
  have hP : va_P (dC, dI) classes [(a_t, .inr (0, [.ref ad10, .null, .null, .int 0, .int 0, .int 0])), (ad10, .inl (tI, 4, .inl (fun _ => 0)))] H := hP
  have hD : va_D A [(a_t, .inr (0, [.ref ad10, .null, .null, .int 0, .int 0, .int 0])), (ad10, .inl (tI, 4, .inl (fun _ => 0)))] := hD
  refine lv_aload_n hx hb d_Bands_init_11 rfl (lv_at hl 0 rfl) ?_
  refine lv_bipush (v := 16) hx hb d_Bands_init_12 (by decide) ?_
  obtain ⟨nB14, sB15, hf, ha9, hb9⟩ := addc_of hf
  have hcc : 0 + 1 + 1 ≤ nc ∧ 0 + 4 + 16 ≤ ns := ⟨by omega, by omega⟩
  have hc : 0 + 1 + 1 + nB14 ≤ nc ∧ 0 + 4 + 16 + sB15 ≤ ns := ⟨by omega, by omega⟩
  refine va_newa (atype := .int) (ty := .int) (N' := 16) (a0 := (16, .inl (fun _ => 0))) hx hb (hts _ q_0) rfl hK hP hD hS hA (fun _ => rfl) (by decide) (by decide) (by decide) hcc.1 hcc.2 d_Bands_init_14 (fun ad13 cA9 H hK9 hP hD hS => ?_)
  obtain rfl := ty_one (i := 0) (j := 4) hK hK9 rfl rfl (by intro _ h9; cases h9)
  have hP : va_P (dC, dI) classes [(a_t, .inr (0, [.ref ad10, .null, .null, .int 0, .int 0, .int 0])), (ad10, .inl (tI, 4, .inl (fun _ => 0))), (ad13, .inl (tI, 16, .inl (fun _ => 0)))] H := hP
  have hD : va_D A [(a_t, .inr (0, [.ref ad10, .null, .null, .int 0, .int 0, .int 0])), (ad10, .inl (tI, 4, .inl (fun _ => 0))), (ad13, .inl (tI, 16, .inl (fun _ => 0)))] := hD
  refine va_put (D := (dC, dI)) (ci := 0) (v := .ref ad13) (ty := t_Bands 1) (C := R_Bands) (T := F_Bands) (N := 6) hx hb hts i_Bands t_Bands t_Bands_ok n_Bands hown hK hP hD hS 0 rfl rfl 1 (by decide) (hts _ q_80) (fun _ h9 => h9) rfl (t_Bands_ok 1 (by decide)) rfl rfl (Nat.le_of_ble_eq_true rfl) d_Bands_init_16 (fun H locs hP hD hS => ?_)
  have hP : va_P (dC, dI) classes [(a_t, .inr (0, [.ref ad10, .ref ad13, .null, .int 0, .int 0, .int 0])), (ad10, .inl (tI, 4, .inl (fun _ => 0))), (ad13, .inl (tI, 16, .inl (fun _ => 0)))] H := hP
  have hD : va_D A [(a_t, .inr (0, [.ref ad10, .ref ad13, .null, .int 0, .int 0, .int 0])), (ad10, .inl (tI, 4, .inl (fun _ => 0))), (ad13, .inl (tI, 16, .inl (fun _ => 0)))] := hD
  refine lv_aload_n hx hb d_Bands_init_19 rfl (lv_at hl 0 rfl) ?_
  refine lv_bipush (v := 16) hx hb d_Bands_init_20 (by decide) ?_
  obtain ⟨nB17, sB18, hf, ha9, hb9⟩ := addc_of hf
  have hcc : 0 + 1 + 1 + 1 ≤ nc ∧ 0 + 4 + 16 + 16 ≤ ns := ⟨by omega, by omega⟩
  have hc : 0 + 1 + 1 + 1 + nB17 ≤ nc ∧ 0 + 4 + 16 + 16 + sB18 ≤ ns := ⟨by omega, by omega⟩
  refine va_newa (atype := .int) (ty := .int) (N' := 16) (a0 := (16, .inl (fun _ => 0))) hx hb (hts _ q_0) rfl hK hP hD hS hA (fun _ => rfl) (by decide) (by decide) (by decide) hcc.1 hcc.2 d_Bands_init_22 (fun ad16 cA9 H hK9 hP hD hS => ?_)
  obtain rfl := ty_one (i := 0) (j := 4) hK hK9 rfl rfl (by intro _ h9; cases h9)
  have hP : va_P (dC, dI) classes [(a_t, .inr (0, [.ref ad10, .ref ad13, .null, .int 0, .int 0, .int 0])), (ad10, .inl (tI, 4, .inl (fun _ => 0))), (ad13, .inl (tI, 16, .inl (fun _ => 0))), (ad16, .inl (tI, 16, .inl (fun _ => 0)))] H := hP
  have hD : va_D A [(a_t, .inr (0, [.ref ad10, .ref ad13, .null, .int 0, .int 0, .int 0])), (ad10, .inl (tI, 4, .inl (fun _ => 0))), (ad13, .inl (tI, 16, .inl (fun _ => 0))), (ad16, .inl (tI, 16, .inl (fun _ => 0)))] := hD
  refine va_put (D := (dC, dI)) (ci := 0) (v := .ref ad16) (ty := t_Bands 2) (C := R_Bands) (T := F_Bands) (N := 6) hx hb hts i_Bands t_Bands t_Bands_ok n_Bands hown hK hP hD hS 0 rfl rfl 2 (by decide) (hts _ q_81) (fun _ h9 => h9) rfl (t_Bands_ok 2 (by decide)) rfl rfl (Nat.le_of_ble_eq_true rfl) d_Bands_init_24 (fun H locs hP hD hS => ?_)
  have hP : va_P (dC, dI) classes [(a_t, .inr (0, [.ref ad10, .ref ad13, .ref ad16, .int 0, .int 0, .int 0])), (ad10, .inl (tI, 4, .inl (fun _ => 0))), (ad13, .inl (tI, 16, .inl (fun _ => 0))), (ad16, .inl (tI, 16, .inl (fun _ => 0)))] H := hP
  have hD : va_D A [(a_t, .inr (0, [.ref ad10, .ref ad13, .ref ad16, .int 0, .int 0, .int 0])), (ad10, .inl (tI, 4, .inl (fun _ => 0))), (ad13, .inl (tI, 16, .inl (fun _ => 0))), (ad16, .inl (tI, 16, .inl (fun _ => 0)))] := hD
  have hf := Option.some.inj hf
  have hf : _ = u := congrArg (fun z => z.2.2) hf
  subst u
  exact ret _ _ _ _ _ _ (ad10, ad13, ad16) d_Bands_init_27 hP hD hS (Nat.le_trans (Nat.le_add_right _ _) hc.1) (Nat.le_trans (Nat.le_add_right _ _) hc.2)
noncomputable def f_Bands_restart (F : Nat) (p0 : Int32) : Option (Int32 × Int32 × Int32) :=
some (0, 0, p0)
set_option maxHeartbeats 4000000 in
set_option maxRecDepth 100000 in
theorem c_Bands_restart (l : Launch) (dC : Nat → ClassId) (dI : Nat → Nat → Nat) (tI tB tL tZ : ClassId) (a_t : Nat) (o_t_base : Nat) (o_t_leaf : Nat) (o_t_above : Nat) (sz : Nat) (t_count : Int32) (t_nodes : Int32) (t_style : Int32) (p0 : Int32) (F : Nat) (u : Int32 × Int32 × Int32) (hf : f_Bands_restart F p0 = some u) : CTv l y_Bands_restart b_Bands_restart 2 0 0 (dC, dI) classes [(tI, .int), (tB, .byte), (tL, .long), (tZ, .boolean)] [.ref a_t, .int p0] [(a_t, .inr (0, [.ref o_t_base, .ref o_t_leaf, .ref o_t_above, .int t_count, .int t_nodes, .int t_style]))] sz (fun q : Unit => [(a_t, .inr (0, [.ref o_t_base, .ref o_t_leaf, .ref o_t_above, .int u.1, .int u.2.1, .int u.2.2]))]) 0 0 := by
  refine mk_v (by decide) (Nat.le_of_ble_eq_true rfl) ?_
  intro p e s m args below meth c ls A Q hx hb hml hts hown hin hK hN hP hD hA hl ret
  obtain ⟨H, hH⟩ : ∃ H : Heap, H = s.heap := ⟨_, rfl⟩
  have hS : va_S A s.heap H [] := by rw [hH]; exact va_S.rf
  rw [← hH] at hP ⊢
  have hl : lv_has ls 2 [(0, .ref a_t), (1, .int p0)] := hl
  have hc : 0 ≤ 0 ∧ 0 ≤ 0 := ⟨Nat.le_refl 0, Nat.le_refl 0⟩
  unfold f_Bands_restart at hf
  refine lv_aload_n hx hb d_Bands_restart_0 rfl (lv_at hl 0 rfl) ?_
  refine lv_iconst (v := 0) hx hb d_Bands_restart_1 (by decide) ?_
  refine va_put (D := (dC, dI)) (ci := 0) (v := .int 0) (ty := .int) (C := R_Bands) (T := F_Bands) (N := 6) hx hb hts i_Bands t_Bands t_Bands_ok n_Bands hown hK hP hD hS 0 rfl rfl 3 (by decide) (hts _ q_82) (fun _ h9 => h9) rfl (t_Bands_ok 3 (by decide)) rfl rfl (Nat.le_of_ble_eq_true rfl) d_Bands_restart_2 (fun H locs hP hD hS => ?_)
  have hP : va_P (dC, dI) classes [(a_t, .inr (0, [.ref o_t_base, .ref o_t_leaf, .ref o_t_above, .int 0, .int t_nodes, .int t_style]))] H := hP
  have hD : va_D A [(a_t, .inr (0, [.ref o_t_base, .ref o_t_leaf, .ref o_t_above, .int 0, .int t_nodes, .int t_style]))] := hD
  refine lv_aload_n hx hb d_Bands_restart_5 rfl (lv_at hl 0 rfl) ?_
  refine lv_iconst (v := 0) hx hb d_Bands_restart_6 (by decide) ?_
  refine va_put (D := (dC, dI)) (ci := 0) (v := .int 0) (ty := .int) (C := R_Bands) (T := F_Bands) (N := 6) hx hb hts i_Bands t_Bands t_Bands_ok n_Bands hown hK hP hD hS 0 rfl rfl 4 (by decide) (hts _ q_83) (fun _ h9 => h9) rfl (t_Bands_ok 4 (by decide)) rfl rfl (Nat.le_of_ble_eq_true rfl) d_Bands_restart_7 (fun H locs hP hD hS => ?_)
  have hP : va_P (dC, dI) classes [(a_t, .inr (0, [.ref o_t_base, .ref o_t_leaf, .ref o_t_above, .int 0, .int 0, .int t_style]))] H := hP
  have hD : va_D A [(a_t, .inr (0, [.ref o_t_base, .ref o_t_leaf, .ref o_t_above, .int 0, .int 0, .int t_style]))] := hD
  refine lv_aload_n hx hb d_Bands_restart_10 rfl (lv_at hl 0 rfl) ?_
  refine lv_iload_n hx hb d_Bands_restart_11 rfl (lv_at hl 1 rfl) ?_
  refine va_put (D := (dC, dI)) (ci := 0) (v := .int p0) (ty := .int) (C := R_Bands) (T := F_Bands) (N := 6) hx hb hts i_Bands t_Bands t_Bands_ok n_Bands hown hK hP hD hS 0 rfl rfl 5 (by decide) (hts _ q_84) (fun _ h9 => h9) rfl (t_Bands_ok 5 (by decide)) rfl rfl (Nat.le_of_ble_eq_true rfl) d_Bands_restart_12 (fun H locs hP hD hS => ?_)
  have hP : va_P (dC, dI) classes [(a_t, .inr (0, [.ref o_t_base, .ref o_t_leaf, .ref o_t_above, .int 0, .int 0, .int p0]))] H := hP
  have hD : va_D A [(a_t, .inr (0, [.ref o_t_base, .ref o_t_leaf, .ref o_t_above, .int 0, .int 0, .int p0]))] := hD
  have hf := Option.some.inj hf
  subst u
  exact ret _ _ _ _ _ _ () d_Bands_restart_15 hP hD hS hc.1 hc.2
noncomputable def f_Bands_blocks (F : Nat) (t_count : Int32) (t_base_N : Nat) (t_base_F : Nat → Int32) : Option (Int32) :=
asm (vp_in t_count t_base_N) (letb (t_base_F t_count.toNatClampNeg) fun x2 =>
some x2)
set_option maxHeartbeats 4000000 in
set_option maxRecDepth 100000 in
theorem c_Bands_blocks (l : Launch) (dC : Nat → ClassId) (dI : Nat → Nat → Nat) (tI tB tL tZ : ClassId) (a_t : Nat) (a_t_base : Nat) (o_t_leaf : Nat) (o_t_above : Nat) (sz : Nat) (t_count : Int32) (t_nodes : Int32) (t_style : Int32) (t_base_N : Nat) (t_base_F : Nat → Int32) (F : Nat) (u : Int32) (hf : f_Bands_blocks F t_count t_base_N t_base_F = some u) : CTi l y_Bands_blocks b_Bands_blocks 1 .int 0 0 (dC, dI) classes [(tI, .int), (tB, .byte), (tL, .long), (tZ, .boolean)] [.ref a_t] [(a_t, .inr (0, [.ref a_t_base, .ref o_t_leaf, .ref o_t_above, .int t_count, .int t_nodes, .int t_style])), (a_t_base, .inl (tI, t_base_N, .inl t_base_F))] sz (fun q : Unit => [(a_t, .inr (0, [.ref a_t_base, .ref o_t_leaf, .ref o_t_above, .int t_count, .int t_nodes, .int t_style])), (a_t_base, .inl (tI, t_base_N, .inl t_base_F))]) (u) 0 0 := by
  refine mk_i (by decide) (Nat.le_of_ble_eq_true rfl) ?_
  intro p e s m args below meth c ls A Q hx hb hml hts hown hin hK hN hP hD hA hl ret
  obtain ⟨H, hH⟩ : ∃ H : Heap, H = s.heap := ⟨_, rfl⟩
  have hS : va_S A s.heap H [] := by rw [hH]; exact va_S.rf
  rw [← hH] at hP ⊢
  have hl : lv_has ls 1 [(0, .ref a_t)] := hl
  have hc : 0 ≤ 0 ∧ 0 ≤ 0 := ⟨Nat.le_refl 0, Nat.le_refl 0⟩
  unfold f_Bands_blocks at hf
  refine lv_aload_n hx hb d_Bands_blocks_0 rfl (lv_at hl 0 rfl) ?_
  refine va_get (D := (dC, dI)) (ci := 0) (v := .ref a_t_base) (C := R_Bands) (T := F_Bands) (N := 6) hx hb hts i_Bands hown hK hP 0 rfl rfl 0 (by decide) (hts _ q_79) (fun _ h9 => h9) rfl d_Bands_blocks_1 ?_
  refine lv_aload_n hx hb d_Bands_blocks_4 rfl (lv_at hl 0 rfl) ?_
  refine va_get (D := (dC, dI)) (ci := 0) (v := .int t_count) (C := R_Bands) (T := F_Bands) (N := 6) hx hb hts i_Bands hown hK hP 0 rfl rfl 3 (by decide) (hts _ q_82) (fun _ h9 => h9) rfl d_Bands_blocks_5 ?_
  obtain ⟨hin9, hf⟩ := asm_of hf
  refine va_iald hx hb hK hP 1 0 rfl rfl hin9 d_Bands_blocks_8 ?_
  refine lv_topi (fun x2 ex2 => ?_)
  have hf := letb_of hf ex2
  have hf := Option.some.inj hf
  subst u
  exact ret _ _ _ _ _ _ () d_Bands_blocks_9 rfl hP hD hS hc.1 hc.2
noncomputable def g_Bands_find_35 (F : Nat)  : Option (Int32) :=
some (-1)
noncomputable def f_Bands_find (F : Nat) (t_count : Int32) (t_base_N : Nat) (t_base_F : Nat → Int32) (p0 : Int32) (p1 : Int32) : Option (Int32) :=
if p0 < 0 then (
g_Bands_find_35 F) else (
if t_count ≤ p0 then (
g_Bands_find_35 F) else (
if p1 < 0 then (
g_Bands_find_35 F) else (
letb (p0 + 1) fun x7 =>
asm (vp_in x7 t_base_N) (letb (t_base_F x7.toNatClampNeg) fun x8 =>
asm (vp_in p0 t_base_N) (letb (t_base_F p0.toNatClampNeg) fun x9 =>
letb (x8 - x9) fun x10 =>
if p1 < x10 then (
asm (vp_in p0 t_base_N) (letb (t_base_F p0.toNatClampNeg) fun x11 =>
letb (x11 + p1) fun x12 =>
some x12)) else (
g_Bands_find_35 F))))))
set_option maxHeartbeats 4000000 in
set_option maxRecDepth 100000 in
theorem c_Bands_find (l : Launch) (dC : Nat → ClassId) (dI : Nat → Nat → Nat) (tI tB tL tZ : ClassId) (a_t : Nat) (a_t_base : Nat) (o_t_leaf : Nat) (o_t_above : Nat) (sz : Nat) (t_count : Int32) (t_nodes : Int32) (t_style : Int32) (t_base_N : Nat) (t_base_F : Nat → Int32) (p0 : Int32) (p1 : Int32) (F : Nat) (u : Int32) (hf : f_Bands_find F t_count t_base_N t_base_F p0 p1 = some u) : CTi l y_Bands_find b_Bands_find 3 .int 0 0 (dC, dI) classes [(tI, .int), (tB, .byte), (tL, .long), (tZ, .boolean)] [.ref a_t, .int p0, .int p1] [(a_t, .inr (0, [.ref a_t_base, .ref o_t_leaf, .ref o_t_above, .int t_count, .int t_nodes, .int t_style])), (a_t_base, .inl (tI, t_base_N, .inl t_base_F))] sz (fun q : Unit => [(a_t, .inr (0, [.ref a_t_base, .ref o_t_leaf, .ref o_t_above, .int t_count, .int t_nodes, .int t_style])), (a_t_base, .inl (tI, t_base_N, .inl t_base_F))]) (u) 0 0 := by
  refine mk_i (by decide) (Nat.le_of_ble_eq_true rfl) ?_
  intro p e s m args below meth c ls A Q hx hb hml hts hown hin hK hN hP hD hA hl ret
  obtain ⟨H, hH⟩ : ∃ H : Heap, H = s.heap := ⟨_, rfl⟩
  have hS : va_S A s.heap H [] := by rw [hH]; exact va_S.rf
  rw [← hH] at hP ⊢
  have hl : lv_has ls 3 [(0, .ref a_t), (1, .int p0), (2, .int p1)] := hl
  have k_35 : ∀  (H : Heap) (locs : List Loc) (cells slots : Nat) (ls : Array Slot), va_P (dC, dI) classes [(a_t, .inr (0, [.ref a_t_base, .ref o_t_leaf, .ref o_t_above, .int t_count, .int t_nodes, .int t_style])), (a_t_base, .inl (tI, t_base_N, .inl t_base_F))] H → va_D A [(a_t, .inr (0, [.ref a_t_base, .ref o_t_leaf, .ref o_t_above, .int t_count, .int t_nodes, .int t_style])), (a_t_base, .inl (tI, t_base_N, .inl t_base_F))] → va_S A s.heap H locs → lv_has ls 3 [] → (cells ≤ 0 ∧ slots ≤ 0) → g_Bands_find_35 F = some u → W p l e ({ frames := 0, cells := 0, slots := 0, locals := 0 } : Room) s m args below meth c H locs cells slots Q (F0 m 35 ls []) := by
    intro H locs cells slots ls hP hD hS hl hc hf
    unfold g_Bands_find_35 at hf
    refine lv_iconst (v := (-1)) hx hb d_Bands_find_35 (by decide) ?_
    have hf := Option.some.inj hf
    subst u
    exact ret _ _ _ _ _ _ () d_Bands_find_36 rfl hP hD hS hc.1 hc.2
  have hc : 0 ≤ 0 ∧ 0 ≤ 0 := ⟨Nat.le_refl 0, Nat.le_refl 0⟩
  unfold f_Bands_find at hf
  refine lv_iload_n hx hb d_Bands_find_0 rfl (lv_at hl 1 rfl) ?_
  refine lv_if_lt (tgt := 35) hx hb d_Bands_find_1 (by decide) (fun c0 => ?_) (fun c0 => ?_)
  · have hf := ite_t c0 hf
    exact k_35 _ _ _ _ ls hP hD hS (lv_sub hl [] rfl) hc hf
  · have hf := ite_f c0 hf
    refine lv_iload_n hx hb d_Bands_find_4 rfl (lv_at hl 1 rfl) ?_
    refine lv_aload_n hx hb d_Bands_find_5 rfl (lv_at hl 0 rfl) ?_
    refine va_get (D := (dC, dI)) (ci := 0) (v := .int t_count) (C := R_Bands) (T := F_Bands) (N := 6) hx hb hts i_Bands hown hK hP 0 rfl rfl 3 (by decide) (hts _ q_82) (fun _ h9 => h9) rfl d_Bands_find_6 ?_
    refine lv_icmp_ge (tgt := 35) hx hb d_Bands_find_9 (by decide) (fun c0 => ?_) (fun c0 => ?_)
    · have hf := ite_t c0 hf
      exact k_35 _ _ _ _ ls hP hD hS (lv_sub hl [] rfl) hc hf
    · have hf := ite_f c0 hf
      refine lv_iload_n hx hb d_Bands_find_12 rfl (lv_at hl 2 rfl) ?_
      refine lv_if_lt (tgt := 35) hx hb d_Bands_find_13 (by decide) (fun c0 => ?_) (fun c0 => ?_)
      · have hf := ite_t c0 hf
        exact k_35 _ _ _ _ ls hP hD hS (lv_sub hl [] rfl) hc hf
      · have hf := ite_f c0 hf
        refine lv_iload_n hx hb d_Bands_find_16 rfl (lv_at hl 2 rfl) ?_
        refine lv_aload_n hx hb d_Bands_find_17 rfl (lv_at hl 0 rfl) ?_
        refine va_get (D := (dC, dI)) (ci := 0) (v := .ref a_t_base) (C := R_Bands) (T := F_Bands) (N := 6) hx hb hts i_Bands hown hK hP 0 rfl rfl 0 (by decide) (hts _ q_79) (fun _ h9 => h9) rfl d_Bands_find_18 ?_
        refine lv_iload_n hx hb d_Bands_find_21 rfl (lv_at hl 1 rfl) ?_
        refine lv_iconst (v := 1) hx hb d_Bands_find_22 (by decide) ?_
        refine lv_iadd hx hb d_Bands_find_23 ?_
        refine lv_topi (fun x7 ex7 => ?_)
        have hf := letb_of hf ex7
        obtain ⟨hin9, hf⟩ := asm_of hf
        refine va_iald hx hb hK hP 1 0 rfl rfl hin9 d_Bands_find_24 ?_
        refine lv_topi (fun x8 ex8 => ?_)
        have hf := letb_of hf ex8
        refine lv_aload_n hx hb d_Bands_find_25 rfl (lv_at hl 0 rfl) ?_
        refine va_get (D := (dC, dI)) (ci := 0) (v := .ref a_t_base) (C := R_Bands) (T := F_Bands) (N := 6) hx hb hts i_Bands hown hK hP 0 rfl rfl 0 (by decide) (hts _ q_79) (fun _ h9 => h9) rfl d_Bands_find_26 ?_
        refine lv_iload_n hx hb d_Bands_find_29 rfl (lv_at hl 1 rfl) ?_
        obtain ⟨hin9, hf⟩ := asm_of hf
        refine va_iald hx hb hK hP 1 0 rfl rfl hin9 d_Bands_find_30 ?_
        refine lv_topi (fun x9 ex9 => ?_)
        have hf := letb_of hf ex9
        refine lv_isub hx hb d_Bands_find_31 ?_
        refine lv_topi (fun x10 ex10 => ?_)
        have hf := letb_of hf ex10
        refine lv_icmp_lt (tgt := 37) hx hb d_Bands_find_32 (by decide) (fun c0 => ?_) (fun c0 => ?_)
        · have hf := ite_t c0 hf
          refine lv_aload_n hx hb d_Bands_find_37 rfl (lv_at hl 0 rfl) ?_
          refine va_get (D := (dC, dI)) (ci := 0) (v := .ref a_t_base) (C := R_Bands) (T := F_Bands) (N := 6) hx hb hts i_Bands hown hK hP 0 rfl rfl 0 (by decide) (hts _ q_79) (fun _ h9 => h9) rfl d_Bands_find_38 ?_
          refine lv_iload_n hx hb d_Bands_find_41 rfl (lv_at hl 1 rfl) ?_
          obtain ⟨hin9, hf⟩ := asm_of hf
          refine va_iald hx hb hK hP 1 0 rfl rfl hin9 d_Bands_find_42 ?_
          refine lv_topi (fun x11 ex11 => ?_)
          have hf := letb_of hf ex11
          refine lv_iload_n hx hb d_Bands_find_43 rfl (lv_at hl 2 rfl) ?_
          refine lv_iadd hx hb d_Bands_find_44 ?_
          refine lv_topi (fun x12 ex12 => ?_)
          have hf := letb_of hf ex12
          have hf := Option.some.inj hf
          subst u
          exact ret _ _ _ _ _ _ () d_Bands_find_45 rfl hP hD hS hc.1 hc.2
        · have hf := ite_f c0 hf
          exact k_35 _ _ _ _ ls hP hD hS (lv_sub hl [] rfl) hc hf
noncomputable def g_Bands_addLevel_98 (F : Nat) (rec41 : Int32 → Nat → (Nat → Int32) → Int32 → Int32 → Int32 → Int32 → Int32 → Option (Nat × Nat × Int32 × Nat × (Nat → Int32))) (rec50 : Int32 → Nat → (Nat → Int32) → Int32 → Int32 → Int32 → Int32 → Int32 → Int32 → Option (Nat × Nat × Int32 × Nat × (Nat → Int32))) (t_nodes : Int32) (t_above_N : Nat) (t_above_F : Nat → Int32) (v1 : Int32) (v2 : Int32) (v3 : Int32) (v4 : Int32) (v5 : Int32) (v6 : Int32) (s0 : Int32) (s1 : Int32) : Option (Nat × Nat × Int32 × Nat × (Nat → Int32)) :=
asm (vp_in s1 t_above_N) (letb (v6 + 1) fun x19 =>
rec50 t_nodes t_above_N (upd t_above_F s1.toNatClampNeg s0) v1 v2 v3 v4 v5 x19)
noncomputable def g_Bands_addLevel_50 (F : Nat) (rec41 : Int32 → Nat → (Nat → Int32) → Int32 → Int32 → Int32 → Int32 → Int32 → Option (Nat × Nat × Int32 × Nat × (Nat → Int32))) (rec50 : Int32 → Nat → (Nat → Int32) → Int32 → Int32 → Int32 → Int32 → Int32 → Int32 → Option (Nat × Nat × Int32 × Nat × (Nat → Int32))) (t_nodes : Int32) (t_above_N : Nat) (t_above_F : Nat → Int32) (v1 : Int32) (v2 : Int32) (v3 : Int32) (v4 : Int32) (v5 : Int32) (v6 : Int32) : Option (Nat × Nat × Int32 × Nat × (Nat → Int32)) :=
if v1 ≤ v6 then (
letb (v5 + 1) fun x20 =>
rec41 t_nodes t_above_N t_above_F v1 v2 v3 v4 x20) else (
letb (v5 * v1) fun x21 =>
letb (t_nodes + x21) fun x22 =>
letb (x22 + v6) fun x23 =>
if v4 = 0 then (
letb (v5 / 2) fun x24 =>
letb (v1 + 1) fun x25 =>
letb (x25 / 2) fun x26 =>
letb (x24 * x26) fun x27 =>
letb (v3 + x27) fun x28 =>
letb (v6 / 2) fun x29 =>
letb (x28 + x29) fun x30 =>
g_Bands_addLevel_98 F rec41 rec50 t_nodes t_above_N t_above_F v1 v2 v3 v4 v5 v6 x30 x23) else (
g_Bands_addLevel_98 F rec41 rec50 t_nodes t_above_N t_above_F v1 v2 v3 v4 v5 v6 (-1) x23))
noncomputable def f_Bands_addLevel_50 (F : Nat) (rec41 : Int32 → Nat → (Nat → Int32) → Int32 → Int32 → Int32 → Int32 → Int32 → Option (Nat × Nat × Int32 × Nat × (Nat → Int32))) : Nat → Int32 → Nat → (Nat → Int32) → Int32 → Int32 → Int32 → Int32 → Int32 → Int32 → Option (Nat × Nat × Int32 × Nat × (Nat → Int32))
  | 0 => fun _ _ _ _ _ _ _ _ _ => none
  | n + 1 => fun t_nodes t_above_N t_above_F v1 v2 v3 v4 v5 v6 => g_Bands_addLevel_50 F rec41 (f_Bands_addLevel_50 F rec41 n) t_nodes t_above_N t_above_F v1 v2 v3 v4 v5 v6
noncomputable def g_Bands_addLevel_41 (F : Nat) (rec41 : Int32 → Nat → (Nat → Int32) → Int32 → Int32 → Int32 → Int32 → Int32 → Option (Nat × Nat × Int32 × Nat × (Nat → Int32))) (t_nodes : Int32) (t_above_N : Nat) (t_above_F : Nat → Int32) (v1 : Int32) (v2 : Int32) (v3 : Int32) (v4 : Int32) (v5 : Int32) : Option (Nat × Nat × Int32 × Nat × (Nat → Int32)) :=
if v2 ≤ v5 then (
some (0, 0, v3, t_above_N, t_above_F)) else (
f_Bands_addLevel_50 F rec41 F t_nodes t_above_N t_above_F v1 v2 v3 v4 v5 0)
noncomputable def f_Bands_addLevel_41 (F : Nat) : Nat → Int32 → Nat → (Nat → Int32) → Int32 → Int32 → Int32 → Int32 → Int32 → Option (Nat × Nat × Int32 × Nat × (Nat → Int32))
  | 0 => fun _ _ _ _ _ _ _ _ => none
  | n + 1 => fun t_nodes t_above_N t_above_F v1 v2 v3 v4 v5 => g_Bands_addLevel_41 F (f_Bands_addLevel_41 F n) t_nodes t_above_N t_above_F v1 v2 v3 v4 v5
noncomputable def g_Bands_addLevel_24 (F : Nat) (t_nodes : Int32) (t_above_N : Nat) (t_above_F : Nat → Int32) (v1 : Int32) (v2 : Int32) (v3 : Int32) (s0 : Int32) : Option (Nat × Nat × Int32 × Nat × (Nat → Int32)) :=
bd (f_PH_withRoom F t_above_N t_above_F v3) fun u31 =>
addc u31.1 u31.2.1 (
f_Bands_addLevel_41 F F t_nodes u31.2.2.1 u31.2.2.2 v1 v2 v3 s0 0)
noncomputable def g_Bands_addLevel_23 (F : Nat) (t_nodes : Int32) (t_above_N : Nat) (t_above_F : Nat → Int32) (v1 : Int32) (v2 : Int32) (v3 : Int32) : Option (Nat × Nat × Int32 × Nat × (Nat → Int32)) :=
g_Bands_addLevel_24 F t_nodes t_above_N t_above_F v1 v2 v3 0
noncomputable def f_Bands_addLevel (F : Nat) (t_nodes : Int32) (t_above_N : Nat) (t_above_F : Nat → Int32) (p0 : Int32) (p1 : Int32) : Option (Nat × Nat × Int32 × Nat × (Nat → Int32)) :=
letb (p0 * p1) fun x35 =>
letb (t_nodes + x35) fun x36 =>
if p0 = 1 then (
if p1 = 1 then (
g_Bands_addLevel_24 F t_nodes t_above_N t_above_F p0 p1 x36 1) else (
g_Bands_addLevel_23 F t_nodes t_above_N t_above_F p0 p1 x36)) else (
g_Bands_addLevel_23 F t_nodes t_above_N t_above_F p0 p1 x36)
set_option maxHeartbeats 4000000 in
set_option maxRecDepth 100000 in
theorem c_Bands_addLevel (l : Launch) (dC : Nat → ClassId) (dI : Nat → Nat → Nat) (tI tB tL tZ : ClassId) (a_t : Nat) (a_t_above : Nat) (o_t_base : Nat) (o_t_leaf : Nat) (sz : Nat) (t_count : Int32) (t_nodes : Int32) (t_style : Int32) (t_above_N : Nat) (t_above_F : Nat → Int32) (p0 : Int32) (p1 : Int32) (F : Nat) (nc ns : Nat) (u : Int32 × Nat × (Nat → Int32)) (hf : f_Bands_addLevel F t_nodes t_above_N t_above_F p0 p1 = some (nc, ns, u)) : CTv l y_Bands_addLevel b_Bands_addLevel 7 3 83 (dC, dI) classes [(tI, .int), (tB, .byte), (tL, .long), (tZ, .boolean)] [.ref a_t, .int p0, .int p1] [(a_t, .inr (0, [.ref o_t_base, .ref o_t_leaf, .ref a_t_above, .int t_count, .int t_nodes, .int t_style])), (a_t_above, .inl (tI, t_above_N, .inl t_above_F))] sz (fun q : Nat => [(a_t, .inr (0, [.ref o_t_base, .ref o_t_leaf, .ref q, .int t_count, .int u.1, .int t_style])), (q, .inl (tI, u.2.1, .inl u.2.2))]) nc ns := by
  refine mk_v (by decide) (Nat.le_of_ble_eq_true rfl) ?_
  intro p e s m args below meth c ls A Q hx hb hml hts hown hin hK hN hP hD hA hl ret
  obtain ⟨H, hH⟩ : ∃ H : Heap, H = s.heap := ⟨_, rfl⟩
  have hS : va_S A s.heap H [] := by rw [hH]; exact va_S.rf
  rw [← hH] at hP ⊢
  have hl : lv_has ls 7 [(0, .ref a_t), (1, .int p0), (2, .int p1)] := hl
  have k_98 : ∀ (rec41 : Int32 → Nat → (Nat → Int32) → Int32 → Int32 → Int32 → Int32 → Int32 → Option (Nat × Nat × Int32 × Nat × (Nat → Int32))), (∀ (t_nodes : Int32) (t_above_N : Nat) (t_above_F : Nat → Int32) (v1 : Int32) (v2 : Int32) (v3 : Int32) (v4 : Int32) (v5 : Int32) (a_t_above : Nat) (H : Heap) (locs : List Loc) (cells slots nB sB : Nat) (ls : Array Slot), va_P (dC, dI) classes [(a_t, .inr (0, [.ref o_t_base, .ref o_t_leaf, .ref a_t_above, .int t_count, .int t_nodes, .int t_style])), (a_t_above, .inl (tI, t_above_N, .inl t_above_F))] H → va_D A [(a_t, .inr (0, [.ref o_t_base, .ref o_t_leaf, .ref a_t_above, .int t_count, .int t_nodes, .int t_style])), (a_t_above, .inl (tI, t_above_N, .inl t_above_F))] → va_S A s.heap H locs → lv_has ls 7 [(0, .ref a_t), (1, .int v1), (2, .int v2), (3, .int v3), (4, .int v4), (5, .int v5)] → (cells + nB ≤ nc ∧ slots + sB ≤ ns) → rec41 t_nodes t_above_N t_above_F v1 v2 v3 v4 v5 = some (nB, sB, u) → W p l e ({ frames := 3, cells := nc, slots := ns, locals := 83 } : Room) s m args below meth c H locs cells slots Q (F0 m 41 ls [])) → ∀ (rec50 : Int32 → Nat → (Nat → Int32) → Int32 → Int32 → Int32 → Int32 → Int32 → Int32 → Option (Nat × Nat × Int32 × Nat × (Nat → Int32))), (∀ (t_nodes : Int32) (t_above_N : Nat) (t_above_F : Nat → Int32) (v1 : Int32) (v2 : Int32) (v3 : Int32) (v4 : Int32) (v5 : Int32) (v6 : Int32) (a_t_above : Nat) (H : Heap) (locs : List Loc) (cells slots nB sB : Nat) (ls : Array Slot), va_P (dC, dI) classes [(a_t, .inr (0, [.ref o_t_base, .ref o_t_leaf, .ref a_t_above, .int t_count, .int t_nodes, .int t_style])), (a_t_above, .inl (tI, t_above_N, .inl t_above_F))] H → va_D A [(a_t, .inr (0, [.ref o_t_base, .ref o_t_leaf, .ref a_t_above, .int t_count, .int t_nodes, .int t_style])), (a_t_above, .inl (tI, t_above_N, .inl t_above_F))] → va_S A s.heap H locs → lv_has ls 7 [(0, .ref a_t), (1, .int v1), (2, .int v2), (3, .int v3), (4, .int v4), (5, .int v5), (6, .int v6)] → (cells + nB ≤ nc ∧ slots + sB ≤ ns) → rec50 t_nodes t_above_N t_above_F v1 v2 v3 v4 v5 v6 = some (nB, sB, u) → W p l e ({ frames := 3, cells := nc, slots := ns, locals := 83 } : Room) s m args below meth c H locs cells slots Q (F0 m 50 ls [])) → ∀ (t_nodes : Int32) (t_above_N : Nat) (t_above_F : Nat → Int32) (v1 : Int32) (v2 : Int32) (v3 : Int32) (v4 : Int32) (v5 : Int32) (v6 : Int32) (s0 : Int32) (s1 : Int32) (a_t_above : Nat) (H : Heap) (locs : List Loc) (cells slots nB sB : Nat) (ls : Array Slot), va_P (dC, dI) classes [(a_t, .inr (0, [.ref o_t_base, .ref o_t_leaf, .ref a_t_above, .int t_count, .int t_nodes, .int t_style])), (a_t_above, .inl (tI, t_above_N, .inl t_above_F))] H → va_D A [(a_t, .inr (0, [.ref o_t_base, .ref o_t_leaf, .ref a_t_above, .int t_count, .int t_nodes, .int t_style])), (a_t_above, .inl (tI, t_above_N, .inl t_above_F))] → va_S A s.heap H locs → lv_has ls 7 [(0, .ref a_t), (1, .int v1), (2, .int v2), (3, .int v3), (4, .int v4), (5, .int v5), (6, .int v6)] → (cells + nB ≤ nc ∧ slots + sB ≤ ns) → g_Bands_addLevel_98 F rec41 rec50 t_nodes t_above_N t_above_F v1 v2 v3 v4 v5 v6 s0 s1 = some (nB, sB, u) → W p l e ({ frames := 3, cells := nc, slots := ns, locals := 83 } : Room) s m args below meth c H locs cells slots Q (F0 m 98 ls [.int s0, .int s1, .ref a_t_above]) := by
    intro rec41 h41 rec50 h50 t_nodes t_above_N t_above_F v1 v2 v3 v4 v5 v6 s0 s1 a_t_above H locs cells slots nB sB ls hP hD hS hl hc hf
    unfold g_Bands_addLevel_98 at hf
    obtain ⟨hin9, hf⟩ := asm_of hf
    refine va_iast hx hb hK hP hD hS 1 0 rfl rfl hin9 d_Bands_addLevel_98 (fun H locs hP hD hS => ?_)
    have hP : va_P (dC, dI) classes [(a_t, .inr (0, [.ref o_t_base, .ref o_t_leaf, .ref a_t_above, .int t_count, .int t_nodes, .int t_style])), (a_t_above, .inl (tI, t_above_N, .inl (upd t_above_F s1.toNatClampNeg s0)))] H := hP
    have hD : va_D A [(a_t, .inr (0, [.ref o_t_base, .ref o_t_leaf, .ref a_t_above, .int t_count, .int t_nodes, .int t_style])), (a_t_above, .inl (tI, t_above_N, .inl (upd t_above_F s1.toNatClampNeg s0)))] := hD
    obtain ⟨x19, ex19⟩ : ∃ y : Int32, y = v6 + 1 := ⟨_, rfl⟩
    have hf := letb_of hf ex19
    refine lv_iinc (v := x19) (lv' := [(6, .int x19), (0, .ref a_t), (1, .int v1), (2, .int v2), (3, .int v3), (4, .int v4), (5, .int v5)]) hx hb d_Bands_addLevel_99 hl (k := 6) rfl (by rw [ex19]; rfl) (by decide) rfl (fun ls hl => ?_)
    refine lv_goto (tgt := 50) hx hb d_Bands_addLevel_102 (by decide) ?_
    exact h50 t_nodes t_above_N (upd t_above_F s1.toNatClampNeg s0) v1 v2 v3 v4 v5 x19 a_t_above _ _ _ _ _ _ ls hP hD hS (lv_sub hl [1, 2, 3, 4, 5, 6, 0] rfl) hc hf
  have k_50 : ∀ (rec41 : Int32 → Nat → (Nat → Int32) → Int32 → Int32 → Int32 → Int32 → Int32 → Option (Nat × Nat × Int32 × Nat × (Nat → Int32))), (∀ (t_nodes : Int32) (t_above_N : Nat) (t_above_F : Nat → Int32) (v1 : Int32) (v2 : Int32) (v3 : Int32) (v4 : Int32) (v5 : Int32) (a_t_above : Nat) (H : Heap) (locs : List Loc) (cells slots nB sB : Nat) (ls : Array Slot), va_P (dC, dI) classes [(a_t, .inr (0, [.ref o_t_base, .ref o_t_leaf, .ref a_t_above, .int t_count, .int t_nodes, .int t_style])), (a_t_above, .inl (tI, t_above_N, .inl t_above_F))] H → va_D A [(a_t, .inr (0, [.ref o_t_base, .ref o_t_leaf, .ref a_t_above, .int t_count, .int t_nodes, .int t_style])), (a_t_above, .inl (tI, t_above_N, .inl t_above_F))] → va_S A s.heap H locs → lv_has ls 7 [(0, .ref a_t), (1, .int v1), (2, .int v2), (3, .int v3), (4, .int v4), (5, .int v5)] → (cells + nB ≤ nc ∧ slots + sB ≤ ns) → rec41 t_nodes t_above_N t_above_F v1 v2 v3 v4 v5 = some (nB, sB, u) → W p l e ({ frames := 3, cells := nc, slots := ns, locals := 83 } : Room) s m args below meth c H locs cells slots Q (F0 m 41 ls [])) → ∀ n : Nat, ∀ (t_nodes : Int32) (t_above_N : Nat) (t_above_F : Nat → Int32) (v1 : Int32) (v2 : Int32) (v3 : Int32) (v4 : Int32) (v5 : Int32) (v6 : Int32) (a_t_above : Nat) (H : Heap) (locs : List Loc) (cells slots nB sB : Nat) (ls : Array Slot), va_P (dC, dI) classes [(a_t, .inr (0, [.ref o_t_base, .ref o_t_leaf, .ref a_t_above, .int t_count, .int t_nodes, .int t_style])), (a_t_above, .inl (tI, t_above_N, .inl t_above_F))] H → va_D A [(a_t, .inr (0, [.ref o_t_base, .ref o_t_leaf, .ref a_t_above, .int t_count, .int t_nodes, .int t_style])), (a_t_above, .inl (tI, t_above_N, .inl t_above_F))] → va_S A s.heap H locs → lv_has ls 7 [(0, .ref a_t), (1, .int v1), (2, .int v2), (3, .int v3), (4, .int v4), (5, .int v5), (6, .int v6)] → (cells + nB ≤ nc ∧ slots + sB ≤ ns) → f_Bands_addLevel_50 F rec41 n t_nodes t_above_N t_above_F v1 v2 v3 v4 v5 v6 = some (nB, sB, u) → W p l e ({ frames := 3, cells := nc, slots := ns, locals := 83 } : Room) s m args below meth c H locs cells slots Q (F0 m 50 ls []) := by
    intro rec41 h41 n
    induction n with
    | zero => intro t_nodes t_above_N t_above_F v1 v2 v3 v4 v5 v6 a_t_above H locs cells slots nB sB ls hP hD hS hl hc hf; exact absurd hf (by intro h9; cases h9)
    | succ n h50 =>
      intro t_nodes t_above_N t_above_F v1 v2 v3 v4 v5 v6 a_t_above H locs cells slots nB sB ls hP hD hS hl hc hf
      have hf : g_Bands_addLevel_50 F rec41 (f_Bands_addLevel_50 F rec41 n) t_nodes t_above_N t_above_F v1 v2 v3 v4 v5 v6 = some (nB, sB, u) := hf
      generalize (f_Bands_addLevel_50 F rec41 n) = rec50 at hf h50
      unfold g_Bands_addLevel_50 at hf
      refine lv_iload hx hb d_Bands_addLevel_50 (lv_at hl 6 rfl) ?_
      refine lv_iload_n hx hb d_Bands_addLevel_52 rfl (lv_at hl 1 rfl) ?_
      refine lv_icmp_ge (tgt := 105) hx hb d_Bands_addLevel_53 (by decide) (fun c0 => ?_) (fun c0 => ?_)
      · have hf := ite_t c0 hf
        obtain ⟨x20, ex20⟩ : ∃ y : Int32, y = v5 + 1 := ⟨_, rfl⟩
        have hf := letb_of hf ex20
        refine lv_iinc (v := x20) (lv' := [(5, .int x20), (0, .ref a_t), (1, .int v1), (2, .int v2), (3, .int v3), (4, .int v4), (6, .int v6)]) hx hb d_Bands_addLevel_105 hl (k := 5) rfl (by rw [ex20]; rfl) (by decide) rfl (fun ls hl => ?_)
        refine lv_goto (tgt := 41) hx hb d_Bands_addLevel_108 (by decide) ?_
        exact h41 t_nodes t_above_N t_above_F v1 v2 v3 v4 x20 a_t_above _ _ _ _ _ _ ls hP hD hS (lv_sub hl [1, 2, 3, 4, 5, 0] rfl) hc hf
      · have hf := ite_f c0 hf
        refine lv_aload_n hx hb d_Bands_addLevel_56 rfl (lv_at hl 0 rfl) ?_
        refine va_get (D := (dC, dI)) (ci := 0) (v := .ref a_t_above) (C := R_Bands) (T := F_Bands) (N := 6) hx hb hts i_Bands hown hK hP 0 rfl rfl 2 (by decide) (hts _ q_81) (fun _ h9 => h9) rfl d_Bands_addLevel_57 ?_
        refine lv_aload_n hx hb d_Bands_addLevel_60 rfl (lv_at hl 0 rfl) ?_
        refine va_get (D := (dC, dI)) (ci := 0) (v := .int t_nodes) (C := R_Bands) (T := F_Bands) (N := 6) hx hb hts i_Bands hown hK hP 0 rfl rfl 4 (by decide) (hts _ q_83) (fun _ h9 => h9) rfl d_Bands_addLevel_61 ?_
        refine lv_iload hx hb d_Bands_addLevel_64 (lv_at hl 5 rfl) ?_
        refine lv_iload_n hx hb d_Bands_addLevel_66 rfl (lv_at hl 1 rfl) ?_
        refine lv_imul hx hb d_Bands_addLevel_67 ?_
        refine lv_topi (fun x21 ex21 => ?_)
        have hf := letb_of hf ex21
        refine lv_iadd hx hb d_Bands_addLevel_68 ?_
        refine lv_topi (fun x22 ex22 => ?_)
        have hf := letb_of hf ex22
        refine lv_iload hx hb d_Bands_addLevel_69 (lv_at hl 6 rfl) ?_
        refine lv_iadd hx hb d_Bands_addLevel_71 ?_
        refine lv_topi (fun x23 ex23 => ?_)
        have hf := letb_of hf ex23
        refine lv_iload hx hb d_Bands_addLevel_72 (lv_at hl 4 rfl) ?_
        refine lv_if_eq (tgt := 81) hx hb d_Bands_addLevel_74 (by decide) (fun c0 => ?_) (fun c0 => ?_)
        · have hf := ite_t c0 hf
          refine lv_iload_n hx hb d_Bands_addLevel_81 rfl (lv_at hl 3 rfl) ?_
          refine lv_iload hx hb d_Bands_addLevel_82 (lv_at hl 5 rfl) ?_
          refine lv_iconst (v := 2) hx hb d_Bands_addLevel_84 (by decide) ?_
          refine lv_idiv hx hb d_Bands_addLevel_85 (by decide) ?_
          refine lv_topi (fun x24 ex24 => ?_)
          have hf := letb_of hf ex24
          refine lv_iload_n hx hb d_Bands_addLevel_86 rfl (lv_at hl 1 rfl) ?_
          refine lv_iconst (v := 1) hx hb d_Bands_addLevel_87 (by decide) ?_
          refine lv_iadd hx hb d_Bands_addLevel_88 ?_
          refine lv_topi (fun x25 ex25 => ?_)
          have hf := letb_of hf ex25
          refine lv_iconst (v := 2) hx hb d_Bands_addLevel_89 (by decide) ?_
          refine lv_idiv hx hb d_Bands_addLevel_90 (by decide) ?_
          refine lv_topi (fun x26 ex26 => ?_)
          have hf := letb_of hf ex26
          refine lv_imul hx hb d_Bands_addLevel_91 ?_
          refine lv_topi (fun x27 ex27 => ?_)
          have hf := letb_of hf ex27
          refine lv_iadd hx hb d_Bands_addLevel_92 ?_
          refine lv_topi (fun x28 ex28 => ?_)
          have hf := letb_of hf ex28
          refine lv_iload hx hb d_Bands_addLevel_93 (lv_at hl 6 rfl) ?_
          refine lv_iconst (v := 2) hx hb d_Bands_addLevel_95 (by decide) ?_
          refine lv_idiv hx hb d_Bands_addLevel_96 (by decide) ?_
          refine lv_topi (fun x29 ex29 => ?_)
          have hf := letb_of hf ex29
          refine lv_iadd hx hb d_Bands_addLevel_97 ?_
          refine lv_topi (fun x30 ex30 => ?_)
          have hf := letb_of hf ex30
          exact k_98 rec41 h41 rec50 h50 t_nodes t_above_N t_above_F v1 v2 v3 v4 v5 v6 x30 x23 a_t_above _ _ _ _ _ _ ls hP hD hS hl hc hf
        · have hf := ite_f c0 hf
          refine lv_iconst (v := (-1)) hx hb d_Bands_addLevel_77 (by decide) ?_
          refine lv_goto (tgt := 98) hx hb d_Bands_addLevel_78 (by decide) ?_
          exact k_98 rec41 h41 rec50 h50 t_nodes t_above_N t_above_F v1 v2 v3 v4 v5 v6 (-1) x23 a_t_above _ _ _ _ _ _ ls hP hD hS hl hc hf
  have k_41 : ∀ n : Nat, ∀ (t_nodes : Int32) (t_above_N : Nat) (t_above_F : Nat → Int32) (v1 : Int32) (v2 : Int32) (v3 : Int32) (v4 : Int32) (v5 : Int32) (a_t_above : Nat) (H : Heap) (locs : List Loc) (cells slots nB sB : Nat) (ls : Array Slot), va_P (dC, dI) classes [(a_t, .inr (0, [.ref o_t_base, .ref o_t_leaf, .ref a_t_above, .int t_count, .int t_nodes, .int t_style])), (a_t_above, .inl (tI, t_above_N, .inl t_above_F))] H → va_D A [(a_t, .inr (0, [.ref o_t_base, .ref o_t_leaf, .ref a_t_above, .int t_count, .int t_nodes, .int t_style])), (a_t_above, .inl (tI, t_above_N, .inl t_above_F))] → va_S A s.heap H locs → lv_has ls 7 [(0, .ref a_t), (1, .int v1), (2, .int v2), (3, .int v3), (4, .int v4), (5, .int v5)] → (cells + nB ≤ nc ∧ slots + sB ≤ ns) → f_Bands_addLevel_41 F n t_nodes t_above_N t_above_F v1 v2 v3 v4 v5 = some (nB, sB, u) → W p l e ({ frames := 3, cells := nc, slots := ns, locals := 83 } : Room) s m args below meth c H locs cells slots Q (F0 m 41 ls []) := by
    intro n
    induction n with
    | zero => intro t_nodes t_above_N t_above_F v1 v2 v3 v4 v5 a_t_above H locs cells slots nB sB ls hP hD hS hl hc hf; exact absurd hf (by intro h9; cases h9)
    | succ n h41 =>
      intro t_nodes t_above_N t_above_F v1 v2 v3 v4 v5 a_t_above H locs cells slots nB sB ls hP hD hS hl hc hf
      have hf : g_Bands_addLevel_41 F (f_Bands_addLevel_41 F n) t_nodes t_above_N t_above_F v1 v2 v3 v4 v5 = some (nB, sB, u) := hf
      generalize (f_Bands_addLevel_41 F n) = rec41 at hf h41
      unfold g_Bands_addLevel_41 at hf
      refine lv_iload hx hb d_Bands_addLevel_41 (lv_at hl 5 rfl) ?_
      refine lv_iload_n hx hb d_Bands_addLevel_43 rfl (lv_at hl 2 rfl) ?_
      refine lv_icmp_ge (tgt := 111) hx hb d_Bands_addLevel_44 (by decide) (fun c0 => ?_) (fun c0 => ?_)
      · have hf := ite_t c0 hf
        refine lv_aload_n hx hb d_Bands_addLevel_111 rfl (lv_at hl 0 rfl) ?_
        refine lv_iload_n hx hb d_Bands_addLevel_112 rfl (lv_at hl 3 rfl) ?_
        refine va_put (D := (dC, dI)) (ci := 0) (v := .int v3) (ty := .int) (C := R_Bands) (T := F_Bands) (N := 6) hx hb hts i_Bands t_Bands t_Bands_ok n_Bands hown hK hP hD hS 0 rfl rfl 4 (by decide) (hts _ q_83) (fun _ h9 => h9) rfl (t_Bands_ok 4 (by decide)) rfl rfl (Nat.le_of_ble_eq_true rfl) d_Bands_addLevel_113 (fun H locs hP hD hS => ?_)
        have hP : va_P (dC, dI) classes [(a_t, .inr (0, [.ref o_t_base, .ref o_t_leaf, .ref a_t_above, .int t_count, .int v3, .int t_style])), (a_t_above, .inl (tI, t_above_N, .inl t_above_F))] H := hP
        have hD : va_D A [(a_t, .inr (0, [.ref o_t_base, .ref o_t_leaf, .ref a_t_above, .int t_count, .int v3, .int t_style])), (a_t_above, .inl (tI, t_above_N, .inl t_above_F))] := hD
        have hf := Option.some.inj hf
        have hf : _ = u := congrArg (fun z => z.2.2) hf
        subst u
        exact ret _ _ _ _ _ _ a_t_above d_Bands_addLevel_116 hP hD hS (Nat.le_trans (Nat.le_add_right _ _) hc.1) (Nat.le_trans (Nat.le_add_right _ _) hc.2)
      · have hf := ite_f c0 hf
        refine lv_iconst (v := 0) hx hb d_Bands_addLevel_47 (by decide) ?_
        refine lv_istore (lv' := [(6, .int 0), (0, .ref a_t), (1, .int v1), (2, .int v2), (3, .int v3), (4, .int v4), (5, .int v5)]) hx hb d_Bands_addLevel_48 hl (by decide) rfl (fun ls hl => ?_)
        exact k_50 rec41 h41 F t_nodes t_above_N t_above_F v1 v2 v3 v4 v5 0 a_t_above _ _ _ _ _ _ ls hP hD hS (lv_sub hl [1, 2, 3, 4, 5, 6, 0] rfl) hc hf
  have k_24 : ∀ (t_nodes : Int32) (t_above_N : Nat) (t_above_F : Nat → Int32) (v1 : Int32) (v2 : Int32) (v3 : Int32) (s0 : Int32) (a_t_above : Nat) (H : Heap) (locs : List Loc) (cells slots nB sB : Nat) (ls : Array Slot), va_P (dC, dI) classes [(a_t, .inr (0, [.ref o_t_base, .ref o_t_leaf, .ref a_t_above, .int t_count, .int t_nodes, .int t_style])), (a_t_above, .inl (tI, t_above_N, .inl t_above_F))] H → va_D A [(a_t, .inr (0, [.ref o_t_base, .ref o_t_leaf, .ref a_t_above, .int t_count, .int t_nodes, .int t_style])), (a_t_above, .inl (tI, t_above_N, .inl t_above_F))] → va_S A s.heap H locs → lv_has ls 7 [(0, .ref a_t), (1, .int v1), (2, .int v2), (3, .int v3)] → (cells + nB ≤ nc ∧ slots + sB ≤ ns) → g_Bands_addLevel_24 F t_nodes t_above_N t_above_F v1 v2 v3 s0 = some (nB, sB, u) → W p l e ({ frames := 3, cells := nc, slots := ns, locals := 83 } : Room) s m args below meth c H locs cells slots Q (F0 m 24 ls [.int s0]) := by
    intro t_nodes t_above_N t_above_F v1 v2 v3 s0 a_t_above H locs cells slots nB sB ls hP hD hS hl hc hf
    unfold g_Bands_addLevel_24 at hf
    refine lv_istore (lv' := [(4, .int s0), (0, .ref a_t), (1, .int v1), (2, .int v2), (3, .int v3)]) hx hb d_Bands_addLevel_24 hl (by decide) rfl (fun ls hl => ?_)
    refine lv_aload_n hx hb d_Bands_addLevel_26 rfl (lv_at hl 1 rfl) ?_
    refine lv_aload_n hx hb d_Bands_addLevel_27 rfl (lv_at hl 1 rfl) ?_
    refine va_get (D := (dC, dI)) (ci := 0) (v := .ref a_t_above) (C := R_Bands) (T := F_Bands) (N := 6) hx hb hts i_Bands hown hK hP 0 rfl rfl 2 (by decide) (hts _ q_81) (fun _ h9 => h9) rfl d_Bands_addLevel_28 ?_
    refine lv_iload_n hx hb d_Bands_addLevel_31 rfl (lv_at hl 4 rfl) ?_
    obtain ⟨u31, hu, hf⟩ := bd_of hf
    obtain ⟨nB32, sB33, hf, ha9, hb9⟩ := addc_of hf
    have hcc : cells + u31.1 ≤ nc ∧ slots + u31.2.1 ≤ ns := ⟨by omega, by omega⟩
    have hc : cells + u31.1 + nB32 ≤ nc ∧ slots + u31.2.1 + sB33 ≤ ns := ⟨by omega, by omega⟩
    refine jn_r (wc := [(a_t_above, .inl (tI, t_above_N, .inl t_above_F))]) (wr := [(a_t, .inr (0, [.ref o_t_base, .ref o_t_leaf, .ref a_t_above, .int t_count, .int t_nodes, .int t_style]))]) (va_runSN (As := [.ref a_t_above, .int v3]) (rest := [.ref a_t]) ⟨hx, hb, hml, hown, hts⟩ (c_PH_withRoom l dC dI tI tB tL tZ a_t_above H.size t_above_N t_above_F v3 F u31.1 u31.2.1 u31.2.2 hu) ⟨cn_of hts hN q_86 q_18 q_85 hd_PH_withRoom ⟨Nat.le_of_ble_eq_true rfl, Nat.le_of_ble_eq_true rfl⟩, hts _ q_87, trivial⟩ (pr_S hK hN (hP.sub [1] rfl) (hD.sub [1] (by decide) rfl)) rfl rfl hl.1 rfl (lv_room (Nat.le_of_ble_eq_true rfl)) d_Bands_addLevel_32 hcc) hP hD hS hA [1] [0] rfl rfl (by decide) (by decide) (fun _ ad34 H locs hP hD hS => ?_)
    have hP : va_P (dC, dI) classes [(a_t, .inr (0, [.ref o_t_base, .ref o_t_leaf, .ref a_t_above, .int t_count, .int t_nodes, .int t_style])), (ad34, .inl (tI, u31.2.2.1, .inl u31.2.2.2))] H := hP
    have hD : va_D A [(a_t, .inr (0, [.ref o_t_base, .ref o_t_leaf, .ref a_t_above, .int t_count, .int t_nodes, .int t_style])), (ad34, .inl (tI, u31.2.2.1, .inl u31.2.2.2))] := hD
    refine va_put (D := (dC, dI)) (ci := 0) (v := .ref ad34) (ty := t_Bands 2) (C := R_Bands) (T := F_Bands) (N := 6) hx hb hts i_Bands t_Bands t_Bands_ok n_Bands hown hK hP hD hS 0 rfl rfl 2 (by decide) (hts _ q_81) (fun _ h9 => h9) rfl (t_Bands_ok 2 (by decide)) rfl rfl (Nat.le_of_ble_eq_true rfl) d_Bands_addLevel_35 (fun H locs hP hD hS => ?_)
    have hP : va_P (dC, dI) classes [(a_t, .inr (0, [.ref o_t_base, .ref o_t_leaf, .ref ad34, .int t_count, .int t_nodes, .int t_style])), (ad34, .inl (tI, u31.2.2.1, .inl u31.2.2.2))] H := hP
    have hD : va_D A [(a_t, .inr (0, [.ref o_t_base, .ref o_t_leaf, .ref ad34, .int t_count, .int t_nodes, .int t_style])), (ad34, .inl (tI, u31.2.2.1, .inl u31.2.2.2))] := hD
    refine lv_iconst (v := 0) hx hb d_Bands_addLevel_38 (by decide) ?_
    refine lv_istore (lv' := [(5, .int 0), (4, .int s0), (0, .ref a_t), (1, .int v1), (2, .int v2), (3, .int v3)]) hx hb d_Bands_addLevel_39 hl (by decide) rfl (fun ls hl => ?_)
    exact k_41 F t_nodes u31.2.2.1 u31.2.2.2 v1 v2 v3 s0 0 ad34 _ _ _ _ _ _ ls hP hD hS (lv_sub hl [2, 3, 4, 5, 1, 0] rfl) hc hf
  have k_23 : ∀ (t_nodes : Int32) (t_above_N : Nat) (t_above_F : Nat → Int32) (v1 : Int32) (v2 : Int32) (v3 : Int32) (a_t_above : Nat) (H : Heap) (locs : List Loc) (cells slots nB sB : Nat) (ls : Array Slot), va_P (dC, dI) classes [(a_t, .inr (0, [.ref o_t_base, .ref o_t_leaf, .ref a_t_above, .int t_count, .int t_nodes, .int t_style])), (a_t_above, .inl (tI, t_above_N, .inl t_above_F))] H → va_D A [(a_t, .inr (0, [.ref o_t_base, .ref o_t_leaf, .ref a_t_above, .int t_count, .int t_nodes, .int t_style])), (a_t_above, .inl (tI, t_above_N, .inl t_above_F))] → va_S A s.heap H locs → lv_has ls 7 [(0, .ref a_t), (1, .int v1), (2, .int v2), (3, .int v3)] → (cells + nB ≤ nc ∧ slots + sB ≤ ns) → g_Bands_addLevel_23 F t_nodes t_above_N t_above_F v1 v2 v3 = some (nB, sB, u) → W p l e ({ frames := 3, cells := nc, slots := ns, locals := 83 } : Room) s m args below meth c H locs cells slots Q (F0 m 23 ls []) := by
    intro t_nodes t_above_N t_above_F v1 v2 v3 a_t_above H locs cells slots nB sB ls hP hD hS hl hc hf
    unfold g_Bands_addLevel_23 at hf
    refine lv_iconst (v := 0) hx hb d_Bands_addLevel_23 (by decide) ?_
    exact k_24 t_nodes t_above_N t_above_F v1 v2 v3 0 a_t_above _ _ _ _ _ _ ls hP hD hS hl hc hf
  have hc : 0 + nc ≤ nc ∧ 0 + ns ≤ ns := ⟨by omega, by omega⟩
  unfold f_Bands_addLevel at hf
  refine lv_aload_n hx hb d_Bands_addLevel_0 rfl (lv_at hl 0 rfl) ?_
  refine va_get (D := (dC, dI)) (ci := 0) (v := .int t_nodes) (C := R_Bands) (T := F_Bands) (N := 6) hx hb hts i_Bands hown hK hP 0 rfl rfl 4 (by decide) (hts _ q_83) (fun _ h9 => h9) rfl d_Bands_addLevel_1 ?_
  refine lv_iload_n hx hb d_Bands_addLevel_4 rfl (lv_at hl 1 rfl) ?_
  refine lv_iload_n hx hb d_Bands_addLevel_5 rfl (lv_at hl 2 rfl) ?_
  refine lv_imul hx hb d_Bands_addLevel_6 ?_
  refine lv_topi (fun x35 ex35 => ?_)
  have hf := letb_of hf ex35
  refine lv_iadd hx hb d_Bands_addLevel_7 ?_
  refine lv_topi (fun x36 ex36 => ?_)
  have hf := letb_of hf ex36
  refine lv_istore_n (lv' := [(3, .int x36), (0, .ref a_t), (1, .int p0), (2, .int p1)]) hx hb d_Bands_addLevel_8 rfl hl (by decide) rfl (fun ls hl => ?_)
  refine lv_iload_n hx hb d_Bands_addLevel_9 rfl (lv_at hl 2 rfl) ?_
  refine lv_iconst (v := 1) hx hb d_Bands_addLevel_10 (by decide) ?_
  refine lv_icmp_ne (tgt := 23) hx hb d_Bands_addLevel_11 (by decide) (fun c0 => ?_) (fun c0 => ?_)
  · have hf := ite_f c0 hf
    exact k_23 t_nodes t_above_N t_above_F p0 p1 x36 a_t_above _ _ _ _ _ _ ls hP hD hS (lv_sub hl [1, 2, 3, 0] rfl) hc hf
  · have hf := ite_t c0 hf
    refine lv_iload_n hx hb d_Bands_addLevel_14 rfl (lv_at hl 3 rfl) ?_
    refine lv_iconst (v := 1) hx hb d_Bands_addLevel_15 (by decide) ?_
    refine lv_icmp_ne (tgt := 23) hx hb d_Bands_addLevel_16 (by decide) (fun c0 => ?_) (fun c0 => ?_)
    · have hf := ite_f c0 hf
      exact k_23 t_nodes t_above_N t_above_F p0 p1 x36 a_t_above _ _ _ _ _ _ ls hP hD hS (lv_sub hl [1, 2, 3, 0] rfl) hc hf
    · have hf := ite_t c0 hf
      refine lv_iconst (v := 1) hx hb d_Bands_addLevel_19 (by decide) ?_
      refine lv_goto (tgt := 24) hx hb d_Bands_addLevel_20 (by decide) ?_
      exact k_24 t_nodes t_above_N t_above_F p0 p1 x36 1 a_t_above _ _ _ _ _ _ ls hP hD hS (lv_sub hl [1, 2, 3, 0] rfl) hc hf
noncomputable def g_Bands_add_125 (F : Nat) (t_base_N : Nat) (t_above_N : Nat) (t_above_F : Nat → Int32) (t_count : Int32) (t_nodes : Int32) (t_base_F : Nat → Int32) (t_leaf_N : Nat) (t_leaf_F : Nat → Int32) (v1 : Int32) (v2 : Int32) (v3 : Int32) : Option (Nat × Nat × Int32 × Int32 × (Nat → Int32) × Nat × (Nat → Int32) × Nat × (Nat → Int32)) :=
letb (t_count + 1) fun x24 =>
letb (v1 * v2) fun x25 =>
letb (v3 + x25) fun x26 =>
asm (vp_in x24 t_base_N) (some (0, 0, x24, t_nodes, (upd t_base_F x24.toNatClampNeg x26), t_leaf_N, t_leaf_F, t_above_N, t_above_F))
noncomputable def g_Bands_add_103 (F : Nat) (rec63 : Nat → (Nat → Int32) → Int32 → Int32 → (Nat → Int32) → Nat → (Nat → Int32) → Int32 → Int32 → Int32 → Int32 → Int32 → Int32 → Option (Nat × Nat × Int32 × Int32 × (Nat → Int32) × Nat × (Nat → Int32) × Nat × (Nat → Int32))) (t_base_F : Nat → Int32) (t_leaf_N : Nat) (t_leaf_F : Nat → Int32) (t_count : Int32) (t_nodes : Int32) (t_above_N : Nat) (t_above_F : Nat → Int32) (v1 : Int32) (v2 : Int32) (v3 : Int32) (v4 : Int32) (v5 : Int32) (v6 : Int32) : Option (Nat × Nat × Int32 × Int32 × (Nat → Int32) × Nat × (Nat → Int32) × Nat × (Nat → Int32)) :=
letb (v4 + 1) fun x27 =>
letb (x27 / 2) fun x28 =>
letb (v5 + 1) fun x29 =>
letb (x29 / 2) fun x30 =>
letb (v6 + 1) fun x31 =>
rec63 t_above_N t_above_F t_count t_nodes t_base_F t_leaf_N t_leaf_F v1 v2 v3 x28 x30 x31
noncomputable def g_Bands_add_63 (F : Nat) (rec63 : Nat → (Nat → Int32) → Int32 → Int32 → (Nat → Int32) → Nat → (Nat → Int32) → Int32 → Int32 → Int32 → Int32 → Int32 → Int32 → Option (Nat × Nat × Int32 × Int32 × (Nat → Int32) × Nat × (Nat → Int32) × Nat × (Nat → Int32))) (t_base_N : Nat) (t_above_N : Nat) (t_above_F : Nat → Int32) (t_count : Int32) (t_nodes : Int32) (t_base_F : Nat → Int32) (t_leaf_N : Nat) (t_leaf_F : Nat → Int32) (v1 : Int32) (v2 : Int32) (v3 : Int32) (v4 : Int32) (v5 : Int32) (v6 : Int32) : Option (Nat × Nat × Int32 × Int32 × (Nat → Int32) × Nat × (Nat → Int32) × Nat × (Nat → Int32)) :=
if 7 ≤ v6 then (
g_Bands_add_125 F t_base_N t_above_N t_above_F t_count t_nodes t_base_F t_leaf_N t_leaf_F v1 v2 v3) else (
if v4 ≤ 0 then (
g_Bands_add_125 F t_base_N t_above_N t_above_F t_count t_nodes t_base_F t_leaf_N t_leaf_F v1 v2 v3) else (
if v5 ≤ 0 then (
g_Bands_add_125 F t_base_N t_above_N t_above_F t_count t_nodes t_base_F t_leaf_N t_leaf_F v1 v2 v3) else (
bd (f_Bands_addLevel F t_nodes t_above_N t_above_F v4 v5) fun u32 =>
addc u32.1 u32.2.1 (
if v4 = 1 then (
if v5 = 1 then (
g_Bands_add_125 F t_base_N u32.2.2.2.1 u32.2.2.2.2 t_count u32.2.2.1 t_base_F t_leaf_N t_leaf_F v1 v2 v3) else (
g_Bands_add_103 F rec63 t_base_F t_leaf_N t_leaf_F t_count u32.2.2.1 u32.2.2.2.1 u32.2.2.2.2 v1 v2 v3 v4 v5 v6)) else (
g_Bands_add_103 F rec63 t_base_F t_leaf_N t_leaf_F t_count u32.2.2.1 u32.2.2.2.1 u32.2.2.2.2 v1 v2 v3 v4 v5 v6)))))
noncomputable def f_Bands_add_63 (F : Nat) (t_base_N : Nat) : Nat → Nat → (Nat → Int32) → Int32 → Int32 → (Nat → Int32) → Nat → (Nat → Int32) → Int32 → Int32 → Int32 → Int32 → Int32 → Int32 → Option (Nat × Nat × Int32 × Int32 × (Nat → Int32) × Nat × (Nat → Int32) × Nat × (Nat → Int32))
  | 0 => fun _ _ _ _ _ _ _ _ _ _ _ _ _ => none
  | n + 1 => fun t_above_N t_above_F t_count t_nodes t_base_F t_leaf_N t_leaf_F v1 v2 v3 v4 v5 v6 => g_Bands_add_63 F (f_Bands_add_63 F t_base_N n) t_base_N t_above_N t_above_F t_count t_nodes t_base_F t_leaf_N t_leaf_F v1 v2 v3 v4 v5 v6
noncomputable def g_Bands_add_24 (F : Nat) (rec24 : Nat → (Nat → Int32) → Int32 → Int32 → (Nat → Int32) → Nat → (Nat → Int32) → Int32 → Int32 → Int32 → Int32 → Option (Nat × Nat × Int32 × Int32 × (Nat → Int32) × Nat × (Nat → Int32) × Nat × (Nat → Int32))) (t_base_N : Nat) (t_above_N : Nat) (t_above_F : Nat → Int32) (t_count : Int32) (t_nodes : Int32) (t_base_F : Nat → Int32) (t_leaf_N : Nat) (t_leaf_F : Nat → Int32) (v1 : Int32) (v2 : Int32) (v3 : Int32) (v4 : Int32) : Option (Nat × Nat × Int32 × Int32 × (Nat → Int32) × Nat × (Nat → Int32) × Nat × (Nat → Int32)) :=
letb (v1 * v2) fun x36 =>
if x36 ≤ v4 then (
f_Bands_add_63 F t_base_N F t_above_N t_above_F t_count t_nodes t_base_F t_leaf_N t_leaf_F v1 v2 v3 v1 v2 0) else (
letb (v3 + v4) fun x37 =>
letb (t_nodes + v4) fun x38 =>
asm (vp_in x37 t_leaf_N) (letb (v4 + 1) fun x39 =>
rec24 t_above_N t_above_F t_count t_nodes t_base_F t_leaf_N (upd t_leaf_F x37.toNatClampNeg x38) v1 v2 v3 x39))
noncomputable def f_Bands_add_24 (F : Nat) (t_base_N : Nat) : Nat → Nat → (Nat → Int32) → Int32 → Int32 → (Nat → Int32) → Nat → (Nat → Int32) → Int32 → Int32 → Int32 → Int32 → Option (Nat × Nat × Int32 × Int32 × (Nat → Int32) × Nat × (Nat → Int32) × Nat × (Nat → Int32))
  | 0 => fun _ _ _ _ _ _ _ _ _ _ _ => none
  | n + 1 => fun t_above_N t_above_F t_count t_nodes t_base_F t_leaf_N t_leaf_F v1 v2 v3 v4 => g_Bands_add_24 F (f_Bands_add_24 F t_base_N n) t_base_N t_above_N t_above_F t_count t_nodes t_base_F t_leaf_N t_leaf_F v1 v2 v3 v4
noncomputable def f_Bands_add (F : Nat) (t_count : Int32) (t_nodes : Int32) (t_base_N : Nat) (t_base_F : Nat → Int32) (t_leaf_N : Nat) (t_leaf_F : Nat → Int32) (t_above_N : Nat) (t_above_F : Nat → Int32) (p0 : Int32) (p1 : Int32) : Option (Nat × Nat × Int32 × Int32 × (Nat → Int32) × Nat × (Nat → Int32) × Nat × (Nat → Int32)) :=
bd (f_Bands_blocks F t_count t_base_N t_base_F) fun u40 =>
letb (p0 * p1) fun x41 =>
letb (u40 + x41) fun x42 =>
bd (f_PH_withRoom F t_leaf_N t_leaf_F x42) fun u43 =>
addc u43.1 u43.2.1 (
f_Bands_add_24 F t_base_N F t_above_N t_above_F t_count t_nodes t_base_F u43.2.2.1 u43.2.2.2 p0 p1 u40 0)
set_option maxHeartbeats 4000000 in
set_option maxRecDepth 100000 in
theorem c_Bands_add (l : Launch) (dC : Nat → ClassId) (dI : Nat → Nat → Nat) (tI tB tL tZ : ClassId) (a_t : Nat) (a_t_base : Nat) (a_t_leaf : Nat) (a_t_above : Nat) (sz : Nat) (t_count : Int32) (t_nodes : Int32) (t_style : Int32) (t_base_N : Nat) (t_base_F : Nat → Int32) (t_leaf_N : Nat) (t_leaf_F : Nat → Int32) (t_above_N : Nat) (t_above_F : Nat → Int32) (p0 : Int32) (p1 : Int32) (F : Nat) (nc ns : Nat) (u : Int32 × Int32 × (Nat → Int32) × Nat × (Nat → Int32) × Nat × (Nat → Int32)) (hf : f_Bands_add F t_count t_nodes t_base_N t_base_F t_leaf_N t_leaf_F t_above_N t_above_F p0 p1 = some (nc, ns, u)) : CTv l y_Bands_add b_Bands_add 7 4 109 (dC, dI) classes [(tI, .int), (tB, .byte), (tL, .long), (tZ, .boolean)] [.ref a_t, .int p0, .int p1] [(a_t, .inr (0, [.ref a_t_base, .ref a_t_leaf, .ref a_t_above, .int t_count, .int t_nodes, .int t_style])), (a_t_base, .inl (tI, t_base_N, .inl t_base_F)), (a_t_leaf, .inl (tI, t_leaf_N, .inl t_leaf_F)), (a_t_above, .inl (tI, t_above_N, .inl t_above_F))] sz (fun q : Nat × Nat => [(a_t, .inr (0, [.ref a_t_base, .ref q.1, .ref q.2, .int u.1, .int u.2.1, .int t_style])), (a_t_base, .inl (tI, t_base_N, .inl u.2.2.1)), (q.1, .inl (tI, u.2.2.2.1, .inl u.2.2.2.2.1)), (q.2, .inl (tI, u.2.2.2.2.2.1, .inl u.2.2.2.2.2.2))]) nc ns := by
  refine mk_v (by decide) (Nat.le_of_ble_eq_true rfl) ?_
  intro p e s m args below meth c ls A Q hx hb hml hts hown hin hK hN hP hD hA hl ret
  obtain ⟨H, hH⟩ : ∃ H : Heap, H = s.heap := ⟨_, rfl⟩
  have hS : va_S A s.heap H [] := by rw [hH]; exact va_S.rf
  rw [← hH] at hP ⊢
  have hl : lv_has ls 7 [(0, .ref a_t), (1, .int p0), (2, .int p1)] := hl
  have k_125 : ∀ (t_above_N : Nat) (t_above_F : Nat → Int32) (t_count : Int32) (t_nodes : Int32) (t_base_F : Nat → Int32) (t_leaf_N : Nat) (t_leaf_F : Nat → Int32) (v1 : Int32) (v2 : Int32) (v3 : Int32) (a_t_above : Nat) (a_t_leaf : Nat) (H : Heap) (locs : List Loc) (cells slots nB sB : Nat) (ls : Array Slot), va_P (dC, dI) classes [(a_t_above, .inl (tI, t_above_N, .inl t_above_F)), (a_t, .inr (0, [.ref a_t_base, .ref a_t_leaf, .ref a_t_above, .int t_count, .int t_nodes, .int t_style])), (a_t_base, .inl (tI, t_base_N, .inl t_base_F)), (a_t_leaf, .inl (tI, t_leaf_N, .inl t_leaf_F))] H → va_D A [(a_t_above, .inl (tI, t_above_N, .inl t_above_F)), (a_t, .inr (0, [.ref a_t_base, .ref a_t_leaf, .ref a_t_above, .int t_count, .int t_nodes, .int t_style])), (a_t_base, .inl (tI, t_base_N, .inl t_base_F)), (a_t_leaf, .inl (tI, t_leaf_N, .inl t_leaf_F))] → va_S A s.heap H locs → lv_has ls 7 [(0, .ref a_t), (1, .int v1), (2, .int v2), (3, .int v3)] → (cells + nB ≤ nc ∧ slots + sB ≤ ns) → g_Bands_add_125 F t_base_N t_above_N t_above_F t_count t_nodes t_base_F t_leaf_N t_leaf_F v1 v2 v3 = some (nB, sB, u) → W p l e ({ frames := 4, cells := nc, slots := ns, locals := 109 } : Room) s m args below meth c H locs cells slots Q (F0 m 125 ls []) := by
    intro t_above_N t_above_F t_count t_nodes t_base_F t_leaf_N t_leaf_F v1 v2 v3 a_t_above a_t_leaf H locs cells slots nB sB ls hP hD hS hl hc hf
    unfold g_Bands_add_125 at hf
    refine lv_aload_n hx hb d_Bands_add_125 rfl (lv_at hl 0 rfl) ?_
    refine lv_dup hx hb d_Bands_add_126 rfl ?_
    refine va_get (D := (dC, dI)) (ci := 0) (v := .int t_count) (C := R_Bands) (T := F_Bands) (N := 6) hx hb hts i_Bands hown hK hP 1 rfl rfl 3 (by decide) (hts _ q_82) (fun _ h9 => h9) rfl d_Bands_add_127 ?_
    refine lv_iconst (v := 1) hx hb d_Bands_add_130 (by decide) ?_
    refine lv_iadd hx hb d_Bands_add_131 ?_
    refine lv_topi (fun x24 ex24 => ?_)
    have hf := letb_of hf ex24
    refine va_put (D := (dC, dI)) (ci := 0) (v := .int x24) (ty := .int) (C := R_Bands) (T := F_Bands) (N := 6) hx hb hts i_Bands t_Bands t_Bands_ok n_Bands hown hK hP hD hS 1 rfl rfl 3 (by decide) (hts _ q_82) (fun _ h9 => h9) rfl (t_Bands_ok 3 (by decide)) rfl rfl (Nat.le_of_ble_eq_true rfl) d_Bands_add_132 (fun H locs hP hD hS => ?_)
    have hP : va_P (dC, dI) classes [(a_t_above, .inl (tI, t_above_N, .inl t_above_F)), (a_t, .inr (0, [.ref a_t_base, .ref a_t_leaf, .ref a_t_above, .int x24, .int t_nodes, .int t_style])), (a_t_base, .inl (tI, t_base_N, .inl t_base_F)), (a_t_leaf, .inl (tI, t_leaf_N, .inl t_leaf_F))] H := hP
    have hD : va_D A [(a_t_above, .inl (tI, t_above_N, .inl t_above_F)), (a_t, .inr (0, [.ref a_t_base, .ref a_t_leaf, .ref a_t_above, .int x24, .int t_nodes, .int t_style])), (a_t_base, .inl (tI, t_base_N, .inl t_base_F)), (a_t_leaf, .inl (tI, t_leaf_N, .inl t_leaf_F))] := hD
    refine lv_aload_n hx hb d_Bands_add_135 rfl (lv_at hl 0 rfl) ?_
    refine va_get (D := (dC, dI)) (ci := 0) (v := .ref a_t_base) (C := R_Bands) (T := F_Bands) (N := 6) hx hb hts i_Bands hown hK hP 1 rfl rfl 0 (by decide) (hts _ q_79) (fun _ h9 => h9) rfl d_Bands_add_136 ?_
    refine lv_aload_n hx hb d_Bands_add_139 rfl (lv_at hl 0 rfl) ?_
    refine va_get (D := (dC, dI)) (ci := 0) (v := .int x24) (C := R_Bands) (T := F_Bands) (N := 6) hx hb hts i_Bands hown hK hP 1 rfl rfl 3 (by decide) (hts _ q_82) (fun _ h9 => h9) rfl d_Bands_add_140 ?_
    refine lv_iload_n hx hb d_Bands_add_143 rfl (lv_at hl 3 rfl) ?_
    refine lv_iload_n hx hb d_Bands_add_144 rfl (lv_at hl 1 rfl) ?_
    refine lv_iload_n hx hb d_Bands_add_145 rfl (lv_at hl 2 rfl) ?_
    refine lv_imul hx hb d_Bands_add_146 ?_
    refine lv_topi (fun x25 ex25 => ?_)
    have hf := letb_of hf ex25
    refine lv_iadd hx hb d_Bands_add_147 ?_
    refine lv_topi (fun x26 ex26 => ?_)
    have hf := letb_of hf ex26
    obtain ⟨hin9, hf⟩ := asm_of hf
    refine va_iast hx hb hK hP hD hS 2 0 rfl rfl hin9 d_Bands_add_148 (fun H locs hP hD hS => ?_)
    have hP : va_P (dC, dI) classes [(a_t_above, .inl (tI, t_above_N, .inl t_above_F)), (a_t, .inr (0, [.ref a_t_base, .ref a_t_leaf, .ref a_t_above, .int x24, .int t_nodes, .int t_style])), (a_t_base, .inl (tI, t_base_N, .inl (upd t_base_F x24.toNatClampNeg x26))), (a_t_leaf, .inl (tI, t_leaf_N, .inl t_leaf_F))] H := hP
    have hD : va_D A [(a_t_above, .inl (tI, t_above_N, .inl t_above_F)), (a_t, .inr (0, [.ref a_t_base, .ref a_t_leaf, .ref a_t_above, .int x24, .int t_nodes, .int t_style])), (a_t_base, .inl (tI, t_base_N, .inl (upd t_base_F x24.toNatClampNeg x26))), (a_t_leaf, .inl (tI, t_leaf_N, .inl t_leaf_F))] := hD
    have hf := Option.some.inj hf
    have hf : _ = u := congrArg (fun z => z.2.2) hf
    subst u
    exact ret _ _ _ _ _ _ (a_t_leaf, a_t_above) d_Bands_add_149 (hP.sub [1, 2, 3, 0] rfl) (hD.sub [1, 2, 3, 0] (by decide) rfl) hS (Nat.le_trans (Nat.le_add_right _ _) hc.1) (Nat.le_trans (Nat.le_add_right _ _) hc.2)
  have k_103 : ∀ (rec63 : Nat → (Nat → Int32) → Int32 → Int32 → (Nat → Int32) → Nat → (Nat → Int32) → Int32 → Int32 → Int32 → Int32 → Int32 → Int32 → Option (Nat × Nat × Int32 × Int32 × (Nat → Int32) × Nat × (Nat → Int32) × Nat × (Nat → Int32))), (∀ (t_above_N : Nat) (t_above_F : Nat → Int32) (t_count : Int32) (t_nodes : Int32) (t_base_F : Nat → Int32) (t_leaf_N : Nat) (t_leaf_F : Nat → Int32) (v1 : Int32) (v2 : Int32) (v3 : Int32) (v4 : Int32) (v5 : Int32) (v6 : Int32) (a_t_above : Nat) (a_t_leaf : Nat) (H : Heap) (locs : List Loc) (cells slots nB sB : Nat) (ls : Array Slot), va_P (dC, dI) classes [(a_t_above, .inl (tI, t_above_N, .inl t_above_F)), (a_t, .inr (0, [.ref a_t_base, .ref a_t_leaf, .ref a_t_above, .int t_count, .int t_nodes, .int t_style])), (a_t_base, .inl (tI, t_base_N, .inl t_base_F)), (a_t_leaf, .inl (tI, t_leaf_N, .inl t_leaf_F))] H → va_D A [(a_t_above, .inl (tI, t_above_N, .inl t_above_F)), (a_t, .inr (0, [.ref a_t_base, .ref a_t_leaf, .ref a_t_above, .int t_count, .int t_nodes, .int t_style])), (a_t_base, .inl (tI, t_base_N, .inl t_base_F)), (a_t_leaf, .inl (tI, t_leaf_N, .inl t_leaf_F))] → va_S A s.heap H locs → lv_has ls 7 [(0, .ref a_t), (1, .int v1), (2, .int v2), (3, .int v3), (4, .int v4), (5, .int v5), (6, .int v6)] → (cells + nB ≤ nc ∧ slots + sB ≤ ns) → rec63 t_above_N t_above_F t_count t_nodes t_base_F t_leaf_N t_leaf_F v1 v2 v3 v4 v5 v6 = some (nB, sB, u) → W p l e ({ frames := 4, cells := nc, slots := ns, locals := 109 } : Room) s m args below meth c H locs cells slots Q (F0 m 63 ls [])) → ∀ (t_base_F : Nat → Int32) (t_leaf_N : Nat) (t_leaf_F : Nat → Int32) (t_count : Int32) (t_nodes : Int32) (t_above_N : Nat) (t_above_F : Nat → Int32) (v1 : Int32) (v2 : Int32) (v3 : Int32) (v4 : Int32) (v5 : Int32) (v6 : Int32) (a_t_leaf : Nat) (a_t_above : Nat) (H : Heap) (locs : List Loc) (cells slots nB sB : Nat) (ls : Array Slot), va_P (dC, dI) classes [(a_t_base, .inl (tI, t_base_N, .inl t_base_F)), (a_t_leaf, .inl (tI, t_leaf_N, .inl t_leaf_F)), (a_t, .inr (0, [.ref a_t_base, .ref a_t_leaf, .ref a_t_above, .int t_count, .int t_nodes, .int t_style])), (a_t_above, .inl (tI, t_above_N, .inl t_above_F))] H → va_D A [(a_t_base, .inl (tI, t_base_N, .inl t_base_F)), (a_t_leaf, .inl (tI, t_leaf_N, .inl t_leaf_F)), (a_t, .inr (0, [.ref a_t_base, .ref a_t_leaf, .ref a_t_above, .int t_count, .int t_nodes, .int t_style])), (a_t_above, .inl (tI, t_above_N, .inl t_above_F))] → va_S A s.heap H locs → lv_has ls 7 [(0, .ref a_t), (1, .int v1), (2, .int v2), (3, .int v3), (4, .int v4), (5, .int v5), (6, .int v6)] → (cells + nB ≤ nc ∧ slots + sB ≤ ns) → g_Bands_add_103 F rec63 t_base_F t_leaf_N t_leaf_F t_count t_nodes t_above_N t_above_F v1 v2 v3 v4 v5 v6 = some (nB, sB, u) → W p l e ({ frames := 4, cells := nc, slots := ns, locals := 109 } : Room) s m args below meth c H locs cells slots Q (F0 m 103 ls []) := by
    intro rec63 h63 t_base_F t_leaf_N t_leaf_F t_count t_nodes t_above_N t_above_F v1 v2 v3 v4 v5 v6 a_t_leaf a_t_above H locs cells slots nB sB ls hP hD hS hl hc hf
    unfold g_Bands_add_103 at hf
    refine lv_iload hx hb d_Bands_add_103 (lv_at hl 4 rfl) ?_
    refine lv_iconst (v := 1) hx hb d_Bands_add_105 (by decide) ?_
    refine lv_iadd hx hb d_Bands_add_106 ?_
    refine lv_topi (fun x27 ex27 => ?_)
    have hf := letb_of hf ex27
    refine lv_iconst (v := 2) hx hb d_Bands_add_107 (by decide) ?_
    refine lv_idiv hx hb d_Bands_add_108 (by decide) ?_
    refine lv_topi (fun x28 ex28 => ?_)
    have hf := letb_of hf ex28
    refine lv_istore (lv' := [(4, .int x28), (0, .ref a_t), (1, .int v1), (2, .int v2), (3, .int v3), (5, .int v5), (6, .int v6)]) hx hb d_Bands_add_109 hl (by decide) rfl (fun ls hl => ?_)
    refine lv_iload hx hb d_Bands_add_111 (lv_at hl 5 rfl) ?_
    refine lv_iconst (v := 1) hx hb d_Bands_add_113 (by decide) ?_
    refine lv_iadd hx hb d_Bands_add_114 ?_
    refine lv_topi (fun x29 ex29 => ?_)
    have hf := letb_of hf ex29
    refine lv_iconst (v := 2) hx hb d_Bands_add_115 (by decide) ?_
    refine lv_idiv hx hb d_Bands_add_116 (by decide) ?_
    refine lv_topi (fun x30 ex30 => ?_)
    have hf := letb_of hf ex30
    refine lv_istore (lv' := [(5, .int x30), (4, .int x28), (0, .ref a_t), (1, .int v1), (2, .int v2), (3, .int v3), (6, .int v6)]) hx hb d_Bands_add_117 hl (by decide) rfl (fun ls hl => ?_)
    obtain ⟨x31, ex31⟩ : ∃ y : Int32, y = v6 + 1 := ⟨_, rfl⟩
    have hf := letb_of hf ex31
    refine lv_iinc (v := x31) (lv' := [(6, .int x31), (5, .int x30), (4, .int x28), (0, .ref a_t), (1, .int v1), (2, .int v2), (3, .int v3)]) hx hb d_Bands_add_119 hl (k := 6) rfl (by rw [ex31]; rfl) (by decide) rfl (fun ls hl => ?_)
    refine lv_goto (tgt := 63) hx hb d_Bands_add_122 (by decide) ?_
    exact h63 t_above_N t_above_F t_count t_nodes t_base_F t_leaf_N t_leaf_F v1 v2 v3 x28 x30 x31 a_t_above a_t_leaf _ _ _ _ _ _ ls (hP.sub [3, 2, 0, 1] rfl) (hD.sub [3, 2, 0, 1] (by decide) rfl) hS (lv_sub hl [3, 4, 5, 6, 2, 1, 0] rfl) hc hf
  have k_63 : ∀ n : Nat, ∀ (t_above_N : Nat) (t_above_F : Nat → Int32) (t_count : Int32) (t_nodes : Int32) (t_base_F : Nat → Int32) (t_leaf_N : Nat) (t_leaf_F : Nat → Int32) (v1 : Int32) (v2 : Int32) (v3 : Int32) (v4 : Int32) (v5 : Int32) (v6 : Int32) (a_t_above : Nat) (a_t_leaf : Nat) (H : Heap) (locs : List Loc) (cells slots nB sB : Nat) (ls : Array Slot), va_P (dC, dI) classes [(a_t_above, .inl (tI, t_above_N, .inl t_above_F)), (a_t, .inr (0, [.ref a_t_base, .ref a_t_leaf, .ref a_t_above, .int t_count, .int t_nodes, .int t_style])), (a_t_base, .inl (tI, t_base_N, .inl t_base_F)), (a_t_leaf, .inl (tI, t_leaf_N, .inl t_leaf_F))] H → va_D A [(a_t_above, .inl (tI, t_above_N, .inl t_above_F)), (a_t, .inr (0, [.ref a_t_base, .ref a_t_leaf, .ref a_t_above, .int t_count, .int t_nodes, .int t_style])), (a_t_base, .inl (tI, t_base_N, .inl t_base_F)), (a_t_leaf, .inl (tI, t_leaf_N, .inl t_leaf_F))] → va_S A s.heap H locs → lv_has ls 7 [(0, .ref a_t), (1, .int v1), (2, .int v2), (3, .int v3), (4, .int v4), (5, .int v5), (6, .int v6)] → (cells + nB ≤ nc ∧ slots + sB ≤ ns) → f_Bands_add_63 F t_base_N n t_above_N t_above_F t_count t_nodes t_base_F t_leaf_N t_leaf_F v1 v2 v3 v4 v5 v6 = some (nB, sB, u) → W p l e ({ frames := 4, cells := nc, slots := ns, locals := 109 } : Room) s m args below meth c H locs cells slots Q (F0 m 63 ls []) := by
    intro n
    induction n with
    | zero => intro t_above_N t_above_F t_count t_nodes t_base_F t_leaf_N t_leaf_F v1 v2 v3 v4 v5 v6 a_t_above a_t_leaf H locs cells slots nB sB ls hP hD hS hl hc hf; exact absurd hf (by intro h9; cases h9)
    | succ n h63 =>
      intro t_above_N t_above_F t_count t_nodes t_base_F t_leaf_N t_leaf_F v1 v2 v3 v4 v5 v6 a_t_above a_t_leaf H locs cells slots nB sB ls hP hD hS hl hc hf
      have hf : g_Bands_add_63 F (f_Bands_add_63 F t_base_N n) t_base_N t_above_N t_above_F t_count t_nodes t_base_F t_leaf_N t_leaf_F v1 v2 v3 v4 v5 v6 = some (nB, sB, u) := hf
      generalize (f_Bands_add_63 F t_base_N n) = rec63 at hf h63
      unfold g_Bands_add_63 at hf
      refine lv_iload hx hb d_Bands_add_63 (lv_at hl 6 rfl) ?_
      refine lv_bipush (v := 7) hx hb d_Bands_add_65 (by decide) ?_
      refine lv_icmp_ge (tgt := 125) hx hb d_Bands_add_67 (by decide) (fun c0 => ?_) (fun c0 => ?_)
      · have hf := ite_t c0 hf
        exact k_125 t_above_N t_above_F t_count t_nodes t_base_F t_leaf_N t_leaf_F v1 v2 v3 a_t_above a_t_leaf _ _ _ _ _ _ ls hP hD hS (lv_sub hl [0, 1, 2, 3] rfl) hc hf
      · have hf := ite_f c0 hf
        refine lv_iload hx hb d_Bands_add_70 (lv_at hl 4 rfl) ?_
        refine lv_if_le (tgt := 125) hx hb d_Bands_add_72 (by decide) (fun c0 => ?_) (fun c0 => ?_)
        · have hf := ite_t c0 hf
          exact k_125 t_above_N t_above_F t_count t_nodes t_base_F t_leaf_N t_leaf_F v1 v2 v3 a_t_above a_t_leaf _ _ _ _ _ _ ls hP hD hS (lv_sub hl [0, 1, 2, 3] rfl) hc hf
        · have hf := ite_f c0 hf
          refine lv_iload hx hb d_Bands_add_75 (lv_at hl 5 rfl) ?_
          refine lv_if_le (tgt := 125) hx hb d_Bands_add_77 (by decide) (fun c0 => ?_) (fun c0 => ?_)
          · have hf := ite_t c0 hf
            exact k_125 t_above_N t_above_F t_count t_nodes t_base_F t_leaf_N t_leaf_F v1 v2 v3 a_t_above a_t_leaf _ _ _ _ _ _ ls hP hD hS (lv_sub hl [0, 1, 2, 3] rfl) hc hf
          · have hf := ite_f c0 hf
            refine lv_aload_n hx hb d_Bands_add_80 rfl (lv_at hl 0 rfl) ?_
            refine lv_iload hx hb d_Bands_add_81 (lv_at hl 4 rfl) ?_
            refine lv_iload hx hb d_Bands_add_83 (lv_at hl 5 rfl) ?_
            obtain ⟨u32, hu, hf⟩ := bd_of hf
            obtain ⟨nB33, sB34, hf, ha9, hb9⟩ := addc_of hf
            have hcc : cells + u32.1 ≤ nc ∧ slots + u32.2.1 ≤ ns := ⟨by omega, by omega⟩
            have hc : cells + u32.1 + nB33 ≤ nc ∧ slots + u32.2.1 + sB34 ≤ ns := ⟨by omega, by omega⟩
            refine jn_v (wc := [(a_t, .inr (0, [.ref a_t_base, .ref a_t_leaf, .ref a_t_above, .int t_count, .int t_nodes, .int t_style])), (a_t_above, .inl (tI, t_above_N, .inl t_above_F))]) (wr := [(a_t_base, .inl (tI, t_base_N, .inl t_base_F)), (a_t_leaf, .inl (tI, t_leaf_N, .inl t_leaf_F))]) (va_runV (As := [.int v4, .int v5]) (rest := []) ⟨hx, hb, hml, hown, hts⟩ (c_Bands_addLevel l dC dI tI tB tL tZ a_t a_t_above a_t_base a_t_leaf H.size t_count t_nodes t_style t_above_N t_above_F v4 v5 F u32.1 u32.2.1 u32.2.2 hu) (cv_of hts q_94 q_89 q_93 q_95 q_96 hd_Bands_addLevel ⟨Nat.le_of_ble_eq_true rfl, Nat.le_of_ble_eq_true rfl⟩) (pr_V (ci := 0) (C := R_Bands) (q0 := 0) hK hN (hP.sub [1, 0] rfl) (hD.sub [1, 0] (by decide) rfl) rfl rfl) rfl rfl hl.1 rfl (lv_room (Nat.le_of_ble_eq_true rfl)) d_Bands_add_85 hcc) hP hD hS hA [1, 0] [2, 3] rfl rfl (by decide) (by decide) (fun ad35 H locs hP hD hS => ?_)
            have hP : va_P (dC, dI) classes [(a_t_base, .inl (tI, t_base_N, .inl t_base_F)), (a_t_leaf, .inl (tI, t_leaf_N, .inl t_leaf_F)), (a_t, .inr (0, [.ref a_t_base, .ref a_t_leaf, .ref ad35, .int t_count, .int u32.2.2.1, .int t_style])), (ad35, .inl (tI, u32.2.2.2.1, .inl u32.2.2.2.2))] H := hP
            have hD : va_D A [(a_t_base, .inl (tI, t_base_N, .inl t_base_F)), (a_t_leaf, .inl (tI, t_leaf_N, .inl t_leaf_F)), (a_t, .inr (0, [.ref a_t_base, .ref a_t_leaf, .ref ad35, .int t_count, .int u32.2.2.1, .int t_style])), (ad35, .inl (tI, u32.2.2.2.1, .inl u32.2.2.2.2))] := hD
            refine lv_iload hx hb d_Bands_add_88 (lv_at hl 4 rfl) ?_
            refine lv_iconst (v := 1) hx hb d_Bands_add_90 (by decide) ?_
            refine lv_icmp_ne (tgt := 103) hx hb d_Bands_add_91 (by decide) (fun c0 => ?_) (fun c0 => ?_)
            · have hf := ite_f c0 hf
              exact k_103 rec63 h63 t_base_F t_leaf_N t_leaf_F t_count u32.2.2.1 u32.2.2.2.1 u32.2.2.2.2 v1 v2 v3 v4 v5 v6 a_t_leaf ad35 _ _ _ _ _ _ ls hP hD hS hl hc hf
            · have hf := ite_t c0 hf
              refine lv_iload hx hb d_Bands_add_94 (lv_at hl 5 rfl) ?_
              refine lv_iconst (v := 1) hx hb d_Bands_add_96 (by decide) ?_
              refine lv_icmp_ne (tgt := 103) hx hb d_Bands_add_97 (by decide) (fun c0 => ?_) (fun c0 => ?_)
              · have hf := ite_f c0 hf
                exact k_103 rec63 h63 t_base_F t_leaf_N t_leaf_F t_count u32.2.2.1 u32.2.2.2.1 u32.2.2.2.2 v1 v2 v3 v4 v5 v6 a_t_leaf ad35 _ _ _ _ _ _ ls hP hD hS hl hc hf
              · have hf := ite_t c0 hf
                refine lv_goto (tgt := 125) hx hb d_Bands_add_100 (by decide) ?_
                exact k_125 u32.2.2.2.1 u32.2.2.2.2 t_count u32.2.2.1 t_base_F t_leaf_N t_leaf_F v1 v2 v3 ad35 a_t_leaf _ _ _ _ _ _ ls (hP.sub [3, 2, 0, 1] rfl) (hD.sub [3, 2, 0, 1] (by decide) rfl) hS (lv_sub hl [0, 1, 2, 3] rfl) hc hf
  have k_24 : ∀ n : Nat, ∀ (t_above_N : Nat) (t_above_F : Nat → Int32) (t_count : Int32) (t_nodes : Int32) (t_base_F : Nat → Int32) (t_leaf_N : Nat) (t_leaf_F : Nat → Int32) (v1 : Int32) (v2 : Int32) (v3 : Int32) (v4 : Int32) (a_t_above : Nat) (a_t_leaf : Nat) (H : Heap) (locs : List Loc) (cells slots nB sB : Nat) (ls : Array Slot), va_P (dC, dI) classes [(a_t_above, .inl (tI, t_above_N, .inl t_above_F)), (a_t, .inr (0, [.ref a_t_base, .ref a_t_leaf, .ref a_t_above, .int t_count, .int t_nodes, .int t_style])), (a_t_base, .inl (tI, t_base_N, .inl t_base_F)), (a_t_leaf, .inl (tI, t_leaf_N, .inl t_leaf_F))] H → va_D A [(a_t_above, .inl (tI, t_above_N, .inl t_above_F)), (a_t, .inr (0, [.ref a_t_base, .ref a_t_leaf, .ref a_t_above, .int t_count, .int t_nodes, .int t_style])), (a_t_base, .inl (tI, t_base_N, .inl t_base_F)), (a_t_leaf, .inl (tI, t_leaf_N, .inl t_leaf_F))] → va_S A s.heap H locs → lv_has ls 7 [(0, .ref a_t), (1, .int v1), (2, .int v2), (3, .int v3), (4, .int v4)] → (cells + nB ≤ nc ∧ slots + sB ≤ ns) → f_Bands_add_24 F t_base_N n t_above_N t_above_F t_count t_nodes t_base_F t_leaf_N t_leaf_F v1 v2 v3 v4 = some (nB, sB, u) → W p l e ({ frames := 4, cells := nc, slots := ns, locals := 109 } : Room) s m args below meth c H locs cells slots Q (F0 m 24 ls []) := by
    intro n
    induction n with
    | zero => intro t_above_N t_above_F t_count t_nodes t_base_F t_leaf_N t_leaf_F v1 v2 v3 v4 a_t_above a_t_leaf H locs cells slots nB sB ls hP hD hS hl hc hf; exact absurd hf (by intro h9; cases h9)
    | succ n h24 =>
      intro t_above_N t_above_F t_count t_nodes t_base_F t_leaf_N t_leaf_F v1 v2 v3 v4 a_t_above a_t_leaf H locs cells slots nB sB ls hP hD hS hl hc hf
      have hf : g_Bands_add_24 F (f_Bands_add_24 F t_base_N n) t_base_N t_above_N t_above_F t_count t_nodes t_base_F t_leaf_N t_leaf_F v1 v2 v3 v4 = some (nB, sB, u) := hf
      generalize (f_Bands_add_24 F t_base_N n) = rec24 at hf h24
      unfold g_Bands_add_24 at hf
      refine lv_iload hx hb d_Bands_add_24 (lv_at hl 4 rfl) ?_
      refine lv_iload_n hx hb d_Bands_add_26 rfl (lv_at hl 1 rfl) ?_
      refine lv_iload_n hx hb d_Bands_add_27 rfl (lv_at hl 2 rfl) ?_
      refine lv_imul hx hb d_Bands_add_28 ?_
      refine lv_topi (fun x36 ex36 => ?_)
      have hf := letb_of hf ex36
      refine lv_icmp_ge (tgt := 54) hx hb d_Bands_add_29 (by decide) (fun c0 => ?_) (fun c0 => ?_)
      · have hf := ite_t c0 hf
        refine lv_iload_n hx hb d_Bands_add_54 rfl (lv_at hl 1 rfl) ?_
        refine lv_istore (lv' := [(4, .int v1), (0, .ref a_t), (1, .int v1), (2, .int v2), (3, .int v3)]) hx hb d_Bands_add_55 hl (by decide) rfl (fun ls hl => ?_)
        refine lv_iload_n hx hb d_Bands_add_57 rfl (lv_at hl 3 rfl) ?_
        refine lv_istore (lv' := [(5, .int v2), (4, .int v1), (0, .ref a_t), (1, .int v1), (2, .int v2), (3, .int v3)]) hx hb d_Bands_add_58 hl (by decide) rfl (fun ls hl => ?_)
        refine lv_iconst (v := 0) hx hb d_Bands_add_60 (by decide) ?_
        refine lv_istore (lv' := [(6, .int 0), (5, .int v2), (4, .int v1), (0, .ref a_t), (1, .int v1), (2, .int v2), (3, .int v3)]) hx hb d_Bands_add_61 hl (by decide) rfl (fun ls hl => ?_)
        exact k_63 F t_above_N t_above_F t_count t_nodes t_base_F t_leaf_N t_leaf_F v1 v2 v3 v1 v2 0 a_t_above a_t_leaf _ _ _ _ _ _ ls hP hD hS (lv_sub hl [3, 4, 5, 6, 2, 1, 0] rfl) hc hf
      · have hf := ite_f c0 hf
        refine lv_aload_n hx hb d_Bands_add_32 rfl (lv_at hl 0 rfl) ?_
        refine va_get (D := (dC, dI)) (ci := 0) (v := .ref a_t_leaf) (C := R_Bands) (T := F_Bands) (N := 6) hx hb hts i_Bands hown hK hP 1 rfl rfl 1 (by decide) (hts _ q_80) (fun _ h9 => h9) rfl d_Bands_add_33 ?_
        refine lv_iload_n hx hb d_Bands_add_36 rfl (lv_at hl 3 rfl) ?_
        refine lv_iload hx hb d_Bands_add_37 (lv_at hl 4 rfl) ?_
        refine lv_iadd hx hb d_Bands_add_39 ?_
        refine lv_topi (fun x37 ex37 => ?_)
        have hf := letb_of hf ex37
        refine lv_aload_n hx hb d_Bands_add_40 rfl (lv_at hl 0 rfl) ?_
        refine va_get (D := (dC, dI)) (ci := 0) (v := .int t_nodes) (C := R_Bands) (T := F_Bands) (N := 6) hx hb hts i_Bands hown hK hP 1 rfl rfl 4 (by decide) (hts _ q_83) (fun _ h9 => h9) rfl d_Bands_add_41 ?_
        refine lv_iload hx hb d_Bands_add_44 (lv_at hl 4 rfl) ?_
        refine lv_iadd hx hb d_Bands_add_46 ?_
        refine lv_topi (fun x38 ex38 => ?_)
        have hf := letb_of hf ex38
        obtain ⟨hin9, hf⟩ := asm_of hf
        refine va_iast hx hb hK hP hD hS 3 0 rfl rfl hin9 d_Bands_add_47 (fun H locs hP hD hS => ?_)
        have hP : va_P (dC, dI) classes [(a_t_above, .inl (tI, t_above_N, .inl t_above_F)), (a_t, .inr (0, [.ref a_t_base, .ref a_t_leaf, .ref a_t_above, .int t_count, .int t_nodes, .int t_style])), (a_t_base, .inl (tI, t_base_N, .inl t_base_F)), (a_t_leaf, .inl (tI, t_leaf_N, .inl (upd t_leaf_F x37.toNatClampNeg x38)))] H := hP
        have hD : va_D A [(a_t_above, .inl (tI, t_above_N, .inl t_above_F)), (a_t, .inr (0, [.ref a_t_base, .ref a_t_leaf, .ref a_t_above, .int t_count, .int t_nodes, .int t_style])), (a_t_base, .inl (tI, t_base_N, .inl t_base_F)), (a_t_leaf, .inl (tI, t_leaf_N, .inl (upd t_leaf_F x37.toNatClampNeg x38)))] := hD
        obtain ⟨x39, ex39⟩ : ∃ y : Int32, y = v4 + 1 := ⟨_, rfl⟩
        have hf := letb_of hf ex39
        refine lv_iinc (v := x39) (lv' := [(4, .int x39), (0, .ref a_t), (1, .int v1), (2, .int v2), (3, .int v3)]) hx hb d_Bands_add_48 hl (k := 4) rfl (by rw [ex39]; rfl) (by decide) rfl (fun ls hl => ?_)
        refine lv_goto (tgt := 24) hx hb d_Bands_add_51 (by decide) ?_
        exact h24 t_above_N t_above_F t_count t_nodes t_base_F t_leaf_N (upd t_leaf_F x37.toNatClampNeg x38) v1 v2 v3 x39 a_t_above a_t_leaf _ _ _ _ _ _ ls hP hD hS (lv_sub hl [1, 2, 3, 4, 0] rfl) hc hf
  have hc : 0 + nc ≤ nc ∧ 0 + ns ≤ ns := ⟨by omega, by omega⟩
  unfold f_Bands_add at hf
  refine lv_aload_n hx hb d_Bands_add_0 rfl (lv_at hl 0 rfl) ?_
  obtain ⟨u40, hu, hf⟩ := bd_of hf
  refine jn_i (wc := [(a_t, .inr (0, [.ref a_t_base, .ref a_t_leaf, .ref a_t_above, .int t_count, .int t_nodes, .int t_style])), (a_t_base, .inl (tI, t_base_N, .inl t_base_F))]) (wr := [(a_t_leaf, .inl (tI, t_leaf_N, .inl t_leaf_F)), (a_t_above, .inl (tI, t_above_N, .inl t_above_F))]) (va_runV (As := []) (rest := []) ⟨hx, hb, hml, hown, hts⟩ (c_Bands_blocks l dC dI tI tB tL tZ a_t a_t_base a_t_leaf a_t_above H.size t_count t_nodes t_style t_base_N t_base_F F u40 hu) (cv_of hts q_90 q_89 q_88 q_91 q_92 hd_Bands_blocks ⟨Nat.le_of_ble_eq_true rfl, Nat.le_of_ble_eq_true rfl⟩) (pr_V (ci := 0) (C := R_Bands) (q0 := 0) hK hN (hP.sub [0, 1] rfl) (hD.sub [0, 1] (by decide) rfl) rfl rfl) rfl rfl hl.1 rfl (lv_room (Nat.le_of_ble_eq_true rfl)) d_Bands_add_1 ⟨Nat.le_trans (Nat.le_add_right _ _) hc.1, Nat.le_trans (Nat.le_add_right _ _) hc.2⟩) hP hD hS hA [0, 1] [2, 3] rfl rfl (by decide) (by decide) (fun r9 _ H locs hw hP hD hS => ?_)
  subst r9
  have hP : va_P (dC, dI) classes [(a_t_leaf, .inl (tI, t_leaf_N, .inl t_leaf_F)), (a_t_above, .inl (tI, t_above_N, .inl t_above_F)), (a_t, .inr (0, [.ref a_t_base, .ref a_t_leaf, .ref a_t_above, .int t_count, .int t_nodes, .int t_style])), (a_t_base, .inl (tI, t_base_N, .inl t_base_F))] H := hP
  have hD : va_D A [(a_t_leaf, .inl (tI, t_leaf_N, .inl t_leaf_F)), (a_t_above, .inl (tI, t_above_N, .inl t_above_F)), (a_t, .inr (0, [.ref a_t_base, .ref a_t_leaf, .ref a_t_above, .int t_count, .int t_nodes, .int t_style])), (a_t_base, .inl (tI, t_base_N, .inl t_base_F))] := hD
  refine lv_istore_n (lv' := [(3, .int u40), (0, .ref a_t), (1, .int p0), (2, .int p1)]) hx hb d_Bands_add_4 rfl hl (by decide) rfl (fun ls hl => ?_)
  refine lv_aload_n hx hb d_Bands_add_5 rfl (lv_at hl 1 rfl) ?_
  refine lv_aload_n hx hb d_Bands_add_6 rfl (lv_at hl 1 rfl) ?_
  refine va_get (D := (dC, dI)) (ci := 0) (v := .ref a_t_leaf) (C := R_Bands) (T := F_Bands) (N := 6) hx hb hts i_Bands hown hK hP 2 rfl rfl 1 (by decide) (hts _ q_80) (fun _ h9 => h9) rfl d_Bands_add_7 ?_
  refine lv_iload_n hx hb d_Bands_add_10 rfl (lv_at hl 0 rfl) ?_
  refine lv_iload_n hx hb d_Bands_add_11 rfl (lv_at hl 2 rfl) ?_
  refine lv_iload_n hx hb d_Bands_add_12 rfl (lv_at hl 3 rfl) ?_
  refine lv_imul hx hb d_Bands_add_13 ?_
  refine lv_topi (fun x41 ex41 => ?_)
  have hf := letb_of hf ex41
  refine lv_iadd hx hb d_Bands_add_14 ?_
  refine lv_topi (fun x42 ex42 => ?_)
  have hf := letb_of hf ex42
  obtain ⟨u43, hu, hf⟩ := bd_of hf
  obtain ⟨nB44, sB45, hf, ha9, hb9⟩ := addc_of hf
  have hcc : 0 + u43.1 ≤ nc ∧ 0 + u43.2.1 ≤ ns := ⟨by omega, by omega⟩
  have hc : 0 + u43.1 + nB44 ≤ nc ∧ 0 + u43.2.1 + sB45 ≤ ns := ⟨by omega, by omega⟩
  refine jn_r (wc := [(a_t_leaf, .inl (tI, t_leaf_N, .inl t_leaf_F))]) (wr := [(a_t_above, .inl (tI, t_above_N, .inl t_above_F)), (a_t, .inr (0, [.ref a_t_base, .ref a_t_leaf, .ref a_t_above, .int t_count, .int t_nodes, .int t_style])), (a_t_base, .inl (tI, t_base_N, .inl t_base_F))]) (va_runSN (As := [.ref a_t_leaf, .int x42]) (rest := [.ref a_t]) ⟨hx, hb, hml, hown, hts⟩ (c_PH_withRoom l dC dI tI tB tL tZ a_t_leaf H.size t_leaf_N t_leaf_F x42 F u43.1 u43.2.1 u43.2.2 hu) ⟨cn_of hts hN q_86 q_18 q_85 hd_PH_withRoom ⟨Nat.le_of_ble_eq_true rfl, Nat.le_of_ble_eq_true rfl⟩, hts _ q_87, trivial⟩ (pr_S hK hN (hP.sub [0] rfl) (hD.sub [0] (by decide) rfl)) rfl rfl hl.1 rfl (lv_room (Nat.le_of_ble_eq_true rfl)) d_Bands_add_15 hcc) hP hD hS hA [0] [1, 2, 3] rfl rfl (by decide) (by decide) (fun _ ad46 H locs hP hD hS => ?_)
  have hP : va_P (dC, dI) classes [(a_t_above, .inl (tI, t_above_N, .inl t_above_F)), (a_t, .inr (0, [.ref a_t_base, .ref a_t_leaf, .ref a_t_above, .int t_count, .int t_nodes, .int t_style])), (a_t_base, .inl (tI, t_base_N, .inl t_base_F)), (ad46, .inl (tI, u43.2.2.1, .inl u43.2.2.2))] H := hP
  have hD : va_D A [(a_t_above, .inl (tI, t_above_N, .inl t_above_F)), (a_t, .inr (0, [.ref a_t_base, .ref a_t_leaf, .ref a_t_above, .int t_count, .int t_nodes, .int t_style])), (a_t_base, .inl (tI, t_base_N, .inl t_base_F)), (ad46, .inl (tI, u43.2.2.1, .inl u43.2.2.2))] := hD
  refine va_put (D := (dC, dI)) (ci := 0) (v := .ref ad46) (ty := t_Bands 1) (C := R_Bands) (T := F_Bands) (N := 6) hx hb hts i_Bands t_Bands t_Bands_ok n_Bands hown hK hP hD hS 1 rfl rfl 1 (by decide) (hts _ q_80) (fun _ h9 => h9) rfl (t_Bands_ok 1 (by decide)) rfl rfl (Nat.le_of_ble_eq_true rfl) d_Bands_add_18 (fun H locs hP hD hS => ?_)
  have hP : va_P (dC, dI) classes [(a_t_above, .inl (tI, t_above_N, .inl t_above_F)), (a_t, .inr (0, [.ref a_t_base, .ref ad46, .ref a_t_above, .int t_count, .int t_nodes, .int t_style])), (a_t_base, .inl (tI, t_base_N, .inl t_base_F)), (ad46, .inl (tI, u43.2.2.1, .inl u43.2.2.2))] H := hP
  have hD : va_D A [(a_t_above, .inl (tI, t_above_N, .inl t_above_F)), (a_t, .inr (0, [.ref a_t_base, .ref ad46, .ref a_t_above, .int t_count, .int t_nodes, .int t_style])), (a_t_base, .inl (tI, t_base_N, .inl t_base_F)), (ad46, .inl (tI, u43.2.2.1, .inl u43.2.2.2))] := hD
  refine lv_iconst (v := 0) hx hb d_Bands_add_21 (by decide) ?_
  refine lv_istore (lv' := [(4, .int 0), (3, .int u40), (0, .ref a_t), (1, .int p0), (2, .int p1)]) hx hb d_Bands_add_22 hl (by decide) rfl (fun ls hl => ?_)
  exact k_24 F t_above_N t_above_F t_count t_nodes t_base_F u43.2.2.1 u43.2.2.2 p0 p1 u40 0 a_t_above ad46 _ _ _ _ _ _ ls hP hD hS (lv_sub hl [2, 3, 4, 1, 0] rfl) hc hf
noncomputable def g_Bands_segmentEndsBehind_52 (F : Nat) (s0 : Int32) : Option (Int32) :=
asm (narrow .boolean (.int s0) = .int s0) (some s0)
noncomputable def g_Bands_segmentEndsBehind_51 (F : Nat)  : Option (Int32) :=
g_Bands_segmentEndsBehind_52 F 0
noncomputable def g_Bands_segmentEndsBehind_47 (F : Nat)  : Option (Int32) :=
g_Bands_segmentEndsBehind_52 F 1
noncomputable def g_Bands_segmentEndsBehind_34 (F : Nat) (v1 : Int32) : Option (Int32) :=
if v1 < 10 then (
g_Bands_segmentEndsBehind_51 F) else (
letb (v1 - v1 / 3 * 3) fun x5 =>
if x5 = 2 then (
g_Bands_segmentEndsBehind_47 F) else (
g_Bands_segmentEndsBehind_51 F))
noncomputable def f_Bands_segmentEndsBehind (F : Nat) (t_style : Int32) (p0 : Int32) : Option (Int32) :=
letb (t_style &&& 4) fun x6 =>
if x6 = 0 then (
letb (t_style &&& 1) fun x7 =>
if x7 = 0 then (
some 0) else (
if p0 < 9 then (
g_Bands_segmentEndsBehind_34 F p0) else (
letb (p0 - p0 / 3 * 3) fun x8 =>
if x8 = 0 then (
g_Bands_segmentEndsBehind_47 F) else (
g_Bands_segmentEndsBehind_34 F p0)))) else (
some 1)
set_option maxHeartbeats 4000000 in
set_option maxRecDepth 100000 in
theorem c_Bands_segmentEndsBehind (l : Launch) (dC : Nat → ClassId) (dI : Nat → Nat → Nat) (tI tB tL tZ : ClassId) (a_t : Nat) (o_t_base : Nat) (o_t_leaf : Nat) (o_t_above : Nat) (sz : Nat) (t_count : Int32) (t_nodes : Int32) (t_style : Int32) (p0 : Int32) (F : Nat) (u : Int32) (hf : f_Bands_segmentEndsBehind F t_style p0 = some u) : CTi l y_Bands_segmentEndsBehind b_Bands_segmentEndsBehind 2 .boolean 0 0 (dC, dI) classes [(tI, .int), (tB, .byte), (tL, .long), (tZ, .boolean)] [.ref a_t, .int p0] [(a_t, .inr (0, [.ref o_t_base, .ref o_t_leaf, .ref o_t_above, .int t_count, .int t_nodes, .int t_style]))] sz (fun q : Unit => [(a_t, .inr (0, [.ref o_t_base, .ref o_t_leaf, .ref o_t_above, .int t_count, .int t_nodes, .int t_style]))]) (u) 0 0 := by
  refine mk_i (by decide) (Nat.le_of_ble_eq_true rfl) ?_
  intro p e s m args below meth c ls A Q hx hb hml hts hown hin hK hN hP hD hA hl ret
  obtain ⟨H, hH⟩ : ∃ H : Heap, H = s.heap := ⟨_, rfl⟩
  have hS : va_S A s.heap H [] := by rw [hH]; exact va_S.rf
  rw [← hH] at hP ⊢
  have hl : lv_has ls 2 [(0, .ref a_t), (1, .int p0)] := hl
  have k_52 : ∀ (s0 : Int32) (H : Heap) (locs : List Loc) (cells slots : Nat) (ls : Array Slot), va_P (dC, dI) classes [(a_t, .inr (0, [.ref o_t_base, .ref o_t_leaf, .ref o_t_above, .int t_count, .int t_nodes, .int t_style]))] H → va_D A [(a_t, .inr (0, [.ref o_t_base, .ref o_t_leaf, .ref o_t_above, .int t_count, .int t_nodes, .int t_style]))] → va_S A s.heap H locs → lv_has ls 2 [] → (cells ≤ 0 ∧ slots ≤ 0) → g_Bands_segmentEndsBehind_52 F s0 = some u → W p l e ({ frames := 0, cells := 0, slots := 0, locals := 0 } : Room) s m args below meth c H locs cells slots Q (F0 m 52 ls [.int s0]) := by
    intro s0 H locs cells slots ls hP hD hS hl hc hf
    unfold g_Bands_segmentEndsBehind_52 at hf
    obtain ⟨hn9, hf⟩ := asm_of hf
    have hf := Option.some.inj hf
    subst u
    exact ret _ _ _ _ _ _ () d_Bands_segmentEndsBehind_52 hn9 hP hD hS hc.1 hc.2
  have k_51 : ∀  (H : Heap) (locs : List Loc) (cells slots : Nat) (ls : Array Slot), va_P (dC, dI) classes [(a_t, .inr (0, [.ref o_t_base, .ref o_t_leaf, .ref o_t_above, .int t_count, .int t_nodes, .int t_style]))] H → va_D A [(a_t, .inr (0, [.ref o_t_base, .ref o_t_leaf, .ref o_t_above, .int t_count, .int t_nodes, .int t_style]))] → va_S A s.heap H locs → lv_has ls 2 [] → (cells ≤ 0 ∧ slots ≤ 0) → g_Bands_segmentEndsBehind_51 F = some u → W p l e ({ frames := 0, cells := 0, slots := 0, locals := 0 } : Room) s m args below meth c H locs cells slots Q (F0 m 51 ls []) := by
    intro H locs cells slots ls hP hD hS hl hc hf
    unfold g_Bands_segmentEndsBehind_51 at hf
    refine lv_iconst (v := 0) hx hb d_Bands_segmentEndsBehind_51 (by decide) ?_
    exact k_52 0 _ _ _ _ ls hP hD hS hl hc hf
  have k_47 : ∀  (H : Heap) (locs : List Loc) (cells slots : Nat) (ls : Array Slot), va_P (dC, dI) classes [(a_t, .inr (0, [.ref o_t_base, .ref o_t_leaf, .ref o_t_above, .int t_count, .int t_nodes, .int t_style]))] H → va_D A [(a_t, .inr (0, [.ref o_t_base, .ref o_t_leaf, .ref o_t_above, .int t_count, .int t_nodes, .int t_style]))] → va_S A s.heap H locs → lv_has ls 2 [] → (cells ≤ 0 ∧ slots ≤ 0) → g_Bands_segmentEndsBehind_47 F = some u → W p l e ({ frames := 0, cells := 0, slots := 0, locals := 0 } : Room) s m args below meth c H locs cells slots Q (F0 m 47 ls []) := by
    intro H locs cells slots ls hP hD hS hl hc hf
    unfold g_Bands_segmentEndsBehind_47 at hf
    refine lv_iconst (v := 1) hx hb d_Bands_segmentEndsBehind_47 (by decide) ?_
    refine lv_goto (tgt := 52) hx hb d_Bands_segmentEndsBehind_48 (by decide) ?_
    exact k_52 1 _ _ _ _ ls hP hD hS hl hc hf
  have k_34 : ∀ (v1 : Int32) (H : Heap) (locs : List Loc) (cells slots : Nat) (ls : Array Slot), va_P (dC, dI) classes [(a_t, .inr (0, [.ref o_t_base, .ref o_t_leaf, .ref o_t_above, .int t_count, .int t_nodes, .int t_style]))] H → va_D A [(a_t, .inr (0, [.ref o_t_base, .ref o_t_leaf, .ref o_t_above, .int t_count, .int t_nodes, .int t_style]))] → va_S A s.heap H locs → lv_has ls 2 [(1, .int v1)] → (cells ≤ 0 ∧ slots ≤ 0) → g_Bands_segmentEndsBehind_34 F v1 = some u → W p l e ({ frames := 0, cells := 0, slots := 0, locals := 0 } : Room) s m args below meth c H locs cells slots Q (F0 m 34 ls []) := by
    intro v1 H locs cells slots ls hP hD hS hl hc hf
    unfold g_Bands_segmentEndsBehind_34 at hf
    refine lv_iload_n hx hb d_Bands_segmentEndsBehind_34 rfl (lv_at hl 0 rfl) ?_
    refine lv_bipush (v := 10) hx hb d_Bands_segmentEndsBehind_35 (by decide) ?_
    refine lv_icmp_lt (tgt := 51) hx hb d_Bands_segmentEndsBehind_37 (by decide) (fun c0 => ?_) (fun c0 => ?_)
    · have hf := ite_t c0 hf
      exact k_51 _ _ _ _ ls hP hD hS (lv_sub hl [] rfl) hc hf
    · have hf := ite_f c0 hf
      refine lv_iload_n hx hb d_Bands_segmentEndsBehind_40 rfl (lv_at hl 0 rfl) ?_
      refine lv_iconst (v := 3) hx hb d_Bands_segmentEndsBehind_41 (by decide) ?_
      refine lv_irem hx hb d_Bands_segmentEndsBehind_42 (by decide) ?_
      refine lv_topi (fun x5 ex5 => ?_)
      have hf := letb_of hf ex5
      refine lv_iconst (v := 2) hx hb d_Bands_segmentEndsBehind_43 (by decide) ?_
      refine lv_icmp_ne (tgt := 51) hx hb d_Bands_segmentEndsBehind_44 (by decide) (fun c0 => ?_) (fun c0 => ?_)
      · have hf := ite_f c0 hf
        exact k_51 _ _ _ _ ls hP hD hS (lv_sub hl [] rfl) hc hf
      · have hf := ite_t c0 hf
        exact k_47 _ _ _ _ ls hP hD hS (lv_sub hl [] rfl) hc hf
  have hc : 0 ≤ 0 ∧ 0 ≤ 0 := ⟨Nat.le_refl 0, Nat.le_refl 0⟩
  unfold f_Bands_segmentEndsBehind at hf
  refine lv_aload_n hx hb d_Bands_segmentEndsBehind_0 rfl (lv_at hl 0 rfl) ?_
  refine va_get (D := (dC, dI)) (ci := 0) (v := .int t_style) (C := R_Bands) (T := F_Bands) (N := 6) hx hb hts i_Bands hown hK hP 0 rfl rfl 5 (by decide) (hts _ q_84) (fun _ h9 => h9) rfl d_Bands_segmentEndsBehind_1 ?_
  refine lv_iconst (v := 4) hx hb d_Bands_segmentEndsBehind_4 (by decide) ?_
  refine lv_iand hx hb d_Bands_segmentEndsBehind_5 ?_
  refine lv_topi (fun x6 ex6 => ?_)
  have hf := letb_of hf ex6
  refine lv_if_eq (tgt := 11) hx hb d_Bands_segmentEndsBehind_6 (by decide) (fun c0 => ?_) (fun c0 => ?_)
  · have hf := ite_t c0 hf
    refine lv_aload_n hx hb d_Bands_segmentEndsBehind_11 rfl (lv_at hl 0 rfl) ?_
    refine va_get (D := (dC, dI)) (ci := 0) (v := .int t_style) (C := R_Bands) (T := F_Bands) (N := 6) hx hb hts i_Bands hown hK hP 0 rfl rfl 5 (by decide) (hts _ q_84) (fun _ h9 => h9) rfl d_Bands_segmentEndsBehind_12 ?_
    refine lv_iconst (v := 1) hx hb d_Bands_segmentEndsBehind_15 (by decide) ?_
    refine lv_iand hx hb d_Bands_segmentEndsBehind_16 ?_
    refine lv_topi (fun x7 ex7 => ?_)
    have hf := letb_of hf ex7
    refine lv_if_ne (tgt := 22) hx hb d_Bands_segmentEndsBehind_17 (by decide) (fun c0 => ?_) (fun c0 => ?_)
    · have hf := ite_f c0 hf
      refine lv_iload_n hx hb d_Bands_segmentEndsBehind_22 rfl (lv_at hl 1 rfl) ?_
      refine lv_bipush (v := 9) hx hb d_Bands_segmentEndsBehind_23 (by decide) ?_
      refine lv_icmp_lt (tgt := 34) hx hb d_Bands_segmentEndsBehind_25 (by decide) (fun c0 => ?_) (fun c0 => ?_)
      · have hf := ite_t c0 hf
        exact k_34 p0 _ _ _ _ ls hP hD hS (lv_sub hl [1] rfl) hc hf
      · have hf := ite_f c0 hf
        refine lv_iload_n hx hb d_Bands_segmentEndsBehind_28 rfl (lv_at hl 1 rfl) ?_
        refine lv_iconst (v := 3) hx hb d_Bands_segmentEndsBehind_29 (by decide) ?_
        refine lv_irem hx hb d_Bands_segmentEndsBehind_30 (by decide) ?_
        refine lv_topi (fun x8 ex8 => ?_)
        have hf := letb_of hf ex8
        refine lv_if_eq (tgt := 47) hx hb d_Bands_segmentEndsBehind_31 (by decide) (fun c0 => ?_) (fun c0 => ?_)
        · have hf := ite_t c0 hf
          exact k_47 _ _ _ _ ls hP hD hS (lv_sub hl [] rfl) hc hf
        · have hf := ite_f c0 hf
          exact k_34 p0 _ _ _ _ ls hP hD hS (lv_sub hl [1] rfl) hc hf
    · have hf := ite_t c0 hf
      refine lv_iconst (v := 0) hx hb d_Bands_segmentEndsBehind_20 (by decide) ?_
      have hf := Option.some.inj hf
      subst u
      exact ret _ _ _ _ _ _ () d_Bands_segmentEndsBehind_21 (show narrow .boolean (.int 0) = .int 0 from rfl) hP hD hS hc.1 hc.2
  · have hf := ite_f c0 hf
    refine lv_iconst (v := 1) hx hb d_Bands_segmentEndsBehind_9 (by decide) ?_
    have hf := Option.some.inj hf
    subst u
    exact ret _ _ _ _ _ _ () d_Bands_segmentEndsBehind_10 (show narrow .boolean (.int 1) = .int 1 from rfl) hP hD hS hc.1 hc.2
noncomputable def g_Bands_piecesOf_31 (F : Nat) (rec5 : Int32 → Int32 → Int32 → Option (Int32)) (v2 : Int32) (v3 : Int32) (v4 : Int32) : Option (Int32) :=
letb (v4 + 1) fun x5 =>
rec5 v2 v3 x5
noncomputable def g_Bands_piecesOf_28 (F : Nat) (rec5 : Int32 → Int32 → Int32 → Option (Int32)) (v2 : Int32) (v3 : Int32) (v4 : Int32) : Option (Int32) :=
letb (v3 + 1) fun x6 =>
g_Bands_piecesOf_31 F rec5 v2 x6 v4
noncomputable def g_Bands_piecesOf_5 (F : Nat) (rec5 : Int32 → Int32 → Int32 → Option (Int32)) (t_style : Int32) (v2 : Int32) (v3 : Int32) (v4 : Int32) : Option (Int32) :=
if v2 ≤ v4 then (
some v3) else (
letb (v2 - 1) fun x7 =>
if v4 = x7 then (
g_Bands_piecesOf_28 F rec5 v2 v3 v4) else (
bd (f_Bands_segmentEndsBehind F t_style v4) fun u8 =>
if u8 = 0 then (
g_Bands_piecesOf_31 F rec5 v2 v3 v4) else (
g_Bands_piecesOf_28 F rec5 v2 v3 v4)))
noncomputable def f_Bands_piecesOf_5 (F : Nat) (t_style : Int32) : Nat → Int32 → Int32 → Int32 → Option (Int32)
  | 0 => fun _ _ _ => none
  | n + 1 => fun v2 v3 v4 => g_Bands_piecesOf_5 F (f_Bands_piecesOf_5 F t_style n) t_style v2 v3 v4
noncomputable def f_Bands_piecesOf (F : Nat) (t_style : Int32) (p0 : Int32) (p1 : Int32) : Option (Int32) :=
f_Bands_piecesOf_5 F t_style F p1 0 p0
set_option maxHeartbeats 4000000 in
set_option maxRecDepth 100000 in
theorem c_Bands_piecesOf (l : Launch) (dC : Nat → ClassId) (dI : Nat → Nat → Nat) (tI tB tL tZ : ClassId) (a_t : Nat) (o_t_base : Nat) (o_t_leaf : Nat) (o_t_above : Nat) (sz : Nat) (t_count : Int32) (t_nodes : Int32) (t_style : Int32) (p0 : Int32) (p1 : Int32) (F : Nat) (u : Int32) (hf : f_Bands_piecesOf F t_style p0 p1 = some u) : CTi l y_Bands_piecesOf b_Bands_piecesOf 5 .int 1 21 (dC, dI) classes [(tI, .int), (tB, .byte), (tL, .long), (tZ, .boolean)] [.ref a_t, .int p0, .int p1] [(a_t, .inr (0, [.ref o_t_base, .ref o_t_leaf, .ref o_t_above, .int t_count, .int t_nodes, .int t_style]))] sz (fun q : Unit => [(a_t, .inr (0, [.ref o_t_base, .ref o_t_leaf, .ref o_t_above, .int t_count, .int t_nodes, .int t_style]))]) (u) 0 0 := by
  refine mk_i (by decide) (Nat.le_of_ble_eq_true rfl) ?_
  intro p e s m args below meth c ls A Q hx hb hml hts hown hin hK hN hP hD hA hl ret
  obtain ⟨H, hH⟩ : ∃ H : Heap, H = s.heap := ⟨_, rfl⟩
  have hS : va_S A s.heap H [] := by rw [hH]; exact va_S.rf
  rw [← hH] at hP ⊢
  have hl : lv_has ls 5 [(0, .ref a_t), (1, .int p0), (2, .int p1)] := hl
  have k_31 : ∀ (rec5 : Int32 → Int32 → Int32 → Option (Int32)), (∀ (v2 : Int32) (v3 : Int32) (v4 : Int32) (H : Heap) (locs : List Loc) (cells slots : Nat) (ls : Array Slot), va_P (dC, dI) classes [(a_t, .inr (0, [.ref o_t_base, .ref o_t_leaf, .ref o_t_above, .int t_count, .int t_nodes, .int t_style]))] H → va_D A [(a_t, .inr (0, [.ref o_t_base, .ref o_t_leaf, .ref o_t_above, .int t_count, .int t_nodes, .int t_style]))] → va_S A s.heap H locs → lv_has ls 5 [(0, .ref a_t), (2, .int v2), (3, .int v3), (4, .int v4)] → (cells ≤ 0 ∧ slots ≤ 0) → rec5 v2 v3 v4 = some u → W p l e ({ frames := 1, cells := 0, slots := 0, locals := 21 } : Room) s m args below meth c H locs cells slots Q (F0 m 5 ls [])) → ∀ (v2 : Int32) (v3 : Int32) (v4 : Int32) (H : Heap) (locs : List Loc) (cells slots : Nat) (ls : Array Slot), va_P (dC, dI) classes [(a_t, .inr (0, [.ref o_t_base, .ref o_t_leaf, .ref o_t_above, .int t_count, .int t_nodes, .int t_style]))] H → va_D A [(a_t, .inr (0, [.ref o_t_base, .ref o_t_leaf, .ref o_t_above, .int t_count, .int t_nodes, .int t_style]))] → va_S A s.heap H locs → lv_has ls 5 [(0, .ref a_t), (2, .int v2), (3, .int v3), (4, .int v4)] → (cells ≤ 0 ∧ slots ≤ 0) → g_Bands_piecesOf_31 F rec5 v2 v3 v4 = some u → W p l e ({ frames := 1, cells := 0, slots := 0, locals := 21 } : Room) s m args below meth c H locs cells slots Q (F0 m 31 ls []) := by
    intro rec5 h5 v2 v3 v4 H locs cells slots ls hP hD hS hl hc hf
    unfold g_Bands_piecesOf_31 at hf
    obtain ⟨x5, ex5⟩ : ∃ y : Int32, y = v4 + 1 := ⟨_, rfl⟩
    have hf := letb_of hf ex5
    refine lv_iinc (v := x5) (lv' := [(4, .int x5), (0, .ref a_t), (2, .int v2), (3, .int v3)]) hx hb d_Bands_piecesOf_31 hl (k := 3) rfl (by rw [ex5]; rfl) (by decide) rfl (fun ls hl => ?_)
    refine lv_goto (tgt := 5) hx hb d_Bands_piecesOf_34 (by decide) ?_
    exact h5 v2 v3 x5 _ _ _ _ ls hP hD hS (lv_sub hl [1, 2, 3, 0] rfl) hc hf
  have k_28 : ∀ (rec5 : Int32 → Int32 → Int32 → Option (Int32)), (∀ (v2 : Int32) (v3 : Int32) (v4 : Int32) (H : Heap) (locs : List Loc) (cells slots : Nat) (ls : Array Slot), va_P (dC, dI) classes [(a_t, .inr (0, [.ref o_t_base, .ref o_t_leaf, .ref o_t_above, .int t_count, .int t_nodes, .int t_style]))] H → va_D A [(a_t, .inr (0, [.ref o_t_base, .ref o_t_leaf, .ref o_t_above, .int t_count, .int t_nodes, .int t_style]))] → va_S A s.heap H locs → lv_has ls 5 [(0, .ref a_t), (2, .int v2), (3, .int v3), (4, .int v4)] → (cells ≤ 0 ∧ slots ≤ 0) → rec5 v2 v3 v4 = some u → W p l e ({ frames := 1, cells := 0, slots := 0, locals := 21 } : Room) s m args below meth c H locs cells slots Q (F0 m 5 ls [])) → ∀ (v2 : Int32) (v3 : Int32) (v4 : Int32) (H : Heap) (locs : List Loc) (cells slots : Nat) (ls : Array Slot), va_P (dC, dI) classes [(a_t, .inr (0, [.ref o_t_base, .ref o_t_leaf, .ref o_t_above, .int t_count, .int t_nodes, .int t_style]))] H → va_D A [(a_t, .inr (0, [.ref o_t_base, .ref o_t_leaf, .ref o_t_above, .int t_count, .int t_nodes, .int t_style]))] → va_S A s.heap H locs → lv_has ls 5 [(0, .ref a_t), (2, .int v2), (3, .int v3), (4, .int v4)] → (cells ≤ 0 ∧ slots ≤ 0) → g_Bands_piecesOf_28 F rec5 v2 v3 v4 = some u → W p l e ({ frames := 1, cells := 0, slots := 0, locals := 21 } : Room) s m args below meth c H locs cells slots Q (F0 m 28 ls []) := by
    intro rec5 h5 v2 v3 v4 H locs cells slots ls hP hD hS hl hc hf
    unfold g_Bands_piecesOf_28 at hf
    obtain ⟨x6, ex6⟩ : ∃ y : Int32, y = v3 + 1 := ⟨_, rfl⟩
    have hf := letb_of hf ex6
    refine lv_iinc (v := x6) (lv' := [(3, .int x6), (0, .ref a_t), (2, .int v2), (4, .int v4)]) hx hb d_Bands_piecesOf_28 hl (k := 2) rfl (by rw [ex6]; rfl) (by decide) rfl (fun ls hl => ?_)
    exact k_31 rec5 h5 v2 x6 v4 _ _ _ _ ls hP hD hS (lv_sub hl [1, 2, 0, 3] rfl) hc hf
  have k_5 : ∀ n : Nat, ∀ (v2 : Int32) (v3 : Int32) (v4 : Int32) (H : Heap) (locs : List Loc) (cells slots : Nat) (ls : Array Slot), va_P (dC, dI) classes [(a_t, .inr (0, [.ref o_t_base, .ref o_t_leaf, .ref o_t_above, .int t_count, .int t_nodes, .int t_style]))] H → va_D A [(a_t, .inr (0, [.ref o_t_base, .ref o_t_leaf, .ref o_t_above, .int t_count, .int t_nodes, .int t_style]))] → va_S A s.heap H locs → lv_has ls 5 [(0, .ref a_t), (2, .int v2), (3, .int v3), (4, .int v4)] → (cells ≤ 0 ∧ slots ≤ 0) → f_Bands_piecesOf_5 F t_style n v2 v3 v4 = some u → W p l e ({ frames := 1, cells := 0, slots := 0, locals := 21 } : Room) s m args below meth c H locs cells slots Q (F0 m 5 ls []) := by
    intro n
    induction n with
    | zero => intro v2 v3 v4 H locs cells slots ls hP hD hS hl hc hf; exact absurd hf (by intro h9; cases h9)
    | succ n h5 =>
      intro v2 v3 v4 H locs cells slots ls hP hD hS hl hc hf
      have hf : g_Bands_piecesOf_5 F (f_Bands_piecesOf_5 F t_style n) t_style v2 v3 v4 = some u := hf
      generalize (f_Bands_piecesOf_5 F t_style n) = rec5 at hf h5
      unfold g_Bands_piecesOf_5 at hf
      refine lv_iload hx hb d_Bands_piecesOf_5 (lv_at hl 3 rfl) ?_
      refine lv_iload_n hx hb d_Bands_piecesOf_7 rfl (lv_at hl 1 rfl) ?_
      refine lv_icmp_ge (tgt := 37) hx hb d_Bands_piecesOf_8 (by decide) (fun c0 => ?_) (fun c0 => ?_)
      · have hf := ite_t c0 hf
        refine lv_iload_n hx hb d_Bands_piecesOf_37 rfl (lv_at hl 2 rfl) ?_
        have hf := Option.some.inj hf
        subst u
        exact ret _ _ _ _ _ _ () d_Bands_piecesOf_38 rfl hP hD hS hc.1 hc.2
      · have hf := ite_f c0 hf
        refine lv_iload hx hb d_Bands_piecesOf_11 (lv_at hl 3 rfl) ?_
        refine lv_iload_n hx hb d_Bands_piecesOf_13 rfl (lv_at hl 1 rfl) ?_
        refine lv_iconst (v := 1) hx hb d_Bands_piecesOf_14 (by decide) ?_
        refine lv_isub hx hb d_Bands_piecesOf_15 ?_
        refine lv_topi (fun x7 ex7 => ?_)
        have hf := letb_of hf ex7
        refine lv_icmp_eq (tgt := 28) hx hb d_Bands_piecesOf_16 (by decide) (fun c0 => ?_) (fun c0 => ?_)
        · have hf := ite_t c0 hf
          exact k_28 rec5 h5 v2 v3 v4 _ _ _ _ ls hP hD hS hl hc hf
        · have hf := ite_f c0 hf
          refine lv_aload_n hx hb d_Bands_piecesOf_19 rfl (lv_at hl 0 rfl) ?_
          refine lv_iload hx hb d_Bands_piecesOf_20 (lv_at hl 3 rfl) ?_
          obtain ⟨u8, hu, hf⟩ := bd_of hf
          refine jn_i (wc := [(a_t, .inr (0, [.ref o_t_base, .ref o_t_leaf, .ref o_t_above, .int t_count, .int t_nodes, .int t_style]))]) (wr := []) (va_runV (As := [.int v4]) (rest := []) ⟨hx, hb, hml, hown, hts⟩ (c_Bands_segmentEndsBehind l dC dI tI tB tL tZ a_t o_t_base o_t_leaf o_t_above H.size t_count t_nodes t_style v4 F u8 hu) (cv_of hts q_98 q_89 q_97 q_99 q_100 hd_Bands_segmentEndsBehind ⟨Nat.le_of_ble_eq_true rfl, Nat.le_of_ble_eq_true rfl⟩) (pr_V (ci := 0) (C := R_Bands) (q0 := 0) hK hN (hP.sub [0] rfl) (hD.sub [0] (by decide) rfl) rfl rfl) rfl rfl hl.1 rfl (lv_room (Nat.le_of_ble_eq_true rfl)) d_Bands_piecesOf_22 hc) hP hD hS hA [0] [] rfl rfl (by decide) (by decide) (fun r9 _ H locs hw hP hD hS => ?_)
          subst r9
          have hP : va_P (dC, dI) classes [(a_t, .inr (0, [.ref o_t_base, .ref o_t_leaf, .ref o_t_above, .int t_count, .int t_nodes, .int t_style]))] H := hP
          have hD : va_D A [(a_t, .inr (0, [.ref o_t_base, .ref o_t_leaf, .ref o_t_above, .int t_count, .int t_nodes, .int t_style]))] := hD
          refine lv_if_eq (tgt := 31) hx hb d_Bands_piecesOf_25 (by decide) (fun c0 => ?_) (fun c0 => ?_)
          · have hf := ite_t c0 hf
            exact k_31 rec5 h5 v2 v3 v4 _ _ _ _ ls hP hD hS hl hc hf
          · have hf := ite_f c0 hf
            exact k_28 rec5 h5 v2 v3 v4 _ _ _ _ ls hP hD hS hl hc hf
  have hc : 0 ≤ 0 ∧ 0 ≤ 0 := ⟨Nat.le_refl 0, Nat.le_refl 0⟩
  unfold f_Bands_piecesOf at hf
  refine lv_iconst (v := 0) hx hb d_Bands_piecesOf_0 (by decide) ?_
  refine lv_istore_n (lv' := [(3, .int 0), (0, .ref a_t), (1, .int p0), (2, .int p1)]) hx hb d_Bands_piecesOf_1 rfl hl (by decide) rfl (fun ls hl => ?_)
  refine lv_iload_n hx hb d_Bands_piecesOf_2 rfl (lv_at hl 2 rfl) ?_
  refine lv_istore (lv' := [(4, .int p0), (3, .int 0), (0, .ref a_t), (1, .int p0), (2, .int p1)]) hx hb d_Bands_piecesOf_3 hl (by decide) rfl (fun ls hl => ?_)
  exact k_5 F p1 0 p0 _ _ _ _ ls hP hD hS (lv_sub hl [2, 4, 1, 0] rfl) hc hf
noncomputable def g_Bands_passesOfPiece_2 (F : Nat) (rec2 : Int32 → Int32 → Int32 → Option (Int32)) (t_style : Int32) (v1 : Int32) (v2 : Int32) (v3 : Int32) : Option (Int32) :=
if v2 ≤ v3 then (
letb (v2 - v1) fun x6 =>
some x6) else (
bd (f_Bands_segmentEndsBehind F t_style v3) fun u7 =>
if u7 = 0 then (
letb (v3 + 1) fun x8 =>
rec2 v1 v2 x8) else (
letb (v3 - v1) fun x9 =>
letb (x9 + 1) fun x10 =>
some x10))
noncomputable def f_Bands_passesOfPiece_2 (F : Nat) (t_style : Int32) : Nat → Int32 → Int32 → Int32 → Option (Int32)
  | 0 => fun _ _ _ => none
  | n + 1 => fun v1 v2 v3 => g_Bands_passesOfPiece_2 F (f_Bands_passesOfPiece_2 F t_style n) t_style v1 v2 v3
noncomputable def f_Bands_passesOfPiece (F : Nat) (t_style : Int32) (p0 : Int32) (p1 : Int32) : Option (Int32) :=
f_Bands_passesOfPiece_2 F t_style F p0 p1 p0
set_option maxHeartbeats 4000000 in
set_option maxRecDepth 100000 in
theorem c_Bands_passesOfPiece (l : Launch) (dC : Nat → ClassId) (dI : Nat → Nat → Nat) (tI tB tL tZ : ClassId) (a_t : Nat) (o_t_base : Nat) (o_t_leaf : Nat) (o_t_above : Nat) (sz : Nat) (t_count : Int32) (t_nodes : Int32) (t_style : Int32) (p0 : Int32) (p1 : Int32) (F : Nat) (u : Int32) (hf : f_Bands_passesOfPiece F t_style p0 p1 = some u) : CTi l y_Bands_passesOfPiece b_Bands_passesOfPiece 4 .int 1 21 (dC, dI) classes [(tI, .int), (tB, .byte), (tL, .long), (tZ, .boolean)] [.ref a_t, .int p0, .int p1] [(a_t, .inr (0, [.ref o_t_base, .ref o_t_leaf, .ref o_t_above, .int t_count, .int t_nodes, .int t_style]))] sz (fun q : Unit => [(a_t, .inr (0, [.ref o_t_base, .ref o_t_leaf, .ref o_t_above, .int t_count, .int t_nodes, .int t_style]))]) (u) 0 0 := by
  refine mk_i (by decide) (Nat.le_of_ble_eq_true rfl) ?_
  intro p e s m args below meth c ls A Q hx hb hml hts hown hin hK hN hP hD hA hl ret
  obtain ⟨H, hH⟩ : ∃ H : Heap, H = s.heap := ⟨_, rfl⟩
  have hS : va_S A s.heap H [] := by rw [hH]; exact va_S.rf
  rw [← hH] at hP ⊢
  have hl : lv_has ls 4 [(0, .ref a_t), (1, .int p0), (2, .int p1)] := hl
  have k_2 : ∀ n : Nat, ∀ (v1 : Int32) (v2 : Int32) (v3 : Int32) (H : Heap) (locs : List Loc) (cells slots : Nat) (ls : Array Slot), va_P (dC, dI) classes [(a_t, .inr (0, [.ref o_t_base, .ref o_t_leaf, .ref o_t_above, .int t_count, .int t_nodes, .int t_style]))] H → va_D A [(a_t, .inr (0, [.ref o_t_base, .ref o_t_leaf, .ref o_t_above, .int t_count, .int t_nodes, .int t_style]))] → va_S A s.heap H locs → lv_has ls 4 [(0, .ref a_t), (1, .int v1), (2, .int v2), (3, .int v3)] → (cells ≤ 0 ∧ slots ≤ 0) → f_Bands_passesOfPiece_2 F t_style n v1 v2 v3 = some u → W p l e ({ frames := 1, cells := 0, slots := 0, locals := 21 } : Room) s m args below meth c H locs cells slots Q (F0 m 2 ls []) := by
    intro n
    induction n with
    | zero => intro v1 v2 v3 H locs cells slots ls hP hD hS hl hc hf; exact absurd hf (by intro h9; cases h9)
    | succ n h2 =>
      intro v1 v2 v3 H locs cells slots ls hP hD hS hl hc hf
      have hf : g_Bands_passesOfPiece_2 F (f_Bands_passesOfPiece_2 F t_style n) t_style v1 v2 v3 = some u := hf
      generalize (f_Bands_passesOfPiece_2 F t_style n) = rec2 at hf h2
      unfold g_Bands_passesOfPiece_2 at hf
      refine lv_iload_n hx hb d_Bands_passesOfPiece_2 rfl (lv_at hl 3 rfl) ?_
      refine lv_iload_n hx hb d_Bands_passesOfPiece_3 rfl (lv_at hl 2 rfl) ?_
      refine lv_icmp_ge (tgt := 27) hx hb d_Bands_passesOfPiece_4 (by decide) (fun c0 => ?_) (fun c0 => ?_)
      · have hf := ite_t c0 hf
        refine lv_iload_n hx hb d_Bands_passesOfPiece_27 rfl (lv_at hl 2 rfl) ?_
        refine lv_iload_n hx hb d_Bands_passesOfPiece_28 rfl (lv_at hl 1 rfl) ?_
        refine lv_isub hx hb d_Bands_passesOfPiece_29 ?_
        refine lv_topi (fun x6 ex6 => ?_)
        have hf := letb_of hf ex6
        have hf := Option.some.inj hf
        subst u
        exact ret _ _ _ _ _ _ () d_Bands_passesOfPiece_30 rfl hP hD hS hc.1 hc.2
      · have hf := ite_f c0 hf
        refine lv_aload_n hx hb d_Bands_passesOfPiece_7 rfl (lv_at hl 0 rfl) ?_
        refine lv_iload_n hx hb d_Bands_passesOfPiece_8 rfl (lv_at hl 3 rfl) ?_
        obtain ⟨u7, hu, hf⟩ := bd_of hf
        refine jn_i (wc := [(a_t, .inr (0, [.ref o_t_base, .ref o_t_leaf, .ref o_t_above, .int t_count, .int t_nodes, .int t_style]))]) (wr := []) (va_runV (As := [.int v3]) (rest := []) ⟨hx, hb, hml, hown, hts⟩ (c_Bands_segmentEndsBehind l dC dI tI tB tL tZ a_t o_t_base o_t_leaf o_t_above H.size t_count t_nodes t_style v3 F u7 hu) (cv_of hts q_98 q_89 q_97 q_99 q_100 hd_Bands_segmentEndsBehind ⟨Nat.le_of_ble_eq_true rfl, Nat.le_of_ble_eq_true rfl⟩) (pr_V (ci := 0) (C := R_Bands) (q0 := 0) hK hN (hP.sub [0] rfl) (hD.sub [0] (by decide) rfl) rfl rfl) rfl rfl hl.1 rfl (lv_room (Nat.le_of_ble_eq_true rfl)) d_Bands_passesOfPiece_9 hc) hP hD hS hA [0] [] rfl rfl (by decide) (by decide) (fun r9 _ H locs hw hP hD hS => ?_)
        subst r9
        have hP : va_P (dC, dI) classes [(a_t, .inr (0, [.ref o_t_base, .ref o_t_leaf, .ref o_t_above, .int t_count, .int t_nodes, .int t_style]))] H := hP
        have hD : va_D A [(a_t, .inr (0, [.ref o_t_base, .ref o_t_leaf, .ref o_t_above, .int t_count, .int t_nodes, .int t_style]))] := hD
        refine lv_if_eq (tgt := 21) hx hb d_Bands_passesOfPiece_12 (by decide) (fun c0 => ?_) (fun c0 => ?_)
        · have hf := ite_t c0 hf
          obtain ⟨x8, ex8⟩ : ∃ y : Int32, y = v3 + 1 := ⟨_, rfl⟩
          have hf := letb_of hf ex8
          refine lv_iinc (v := x8) (lv' := [(3, .int x8), (0, .ref a_t), (1, .int v1), (2, .int v2)]) hx hb d_Bands_passesOfPiece_21 hl (k := 3) rfl (by rw [ex8]; rfl) (by decide) rfl (fun ls hl => ?_)
          refine lv_goto (tgt := 2) hx hb d_Bands_passesOfPiece_24 (by decide) ?_
          exact h2 v1 v2 x8 _ _ _ _ ls hP hD hS (lv_sub hl [1, 2, 3, 0] rfl) hc hf
        · have hf := ite_f c0 hf
          refine lv_iload_n hx hb d_Bands_passesOfPiece_15 rfl (lv_at hl 3 rfl) ?_
          refine lv_iload_n hx hb d_Bands_passesOfPiece_16 rfl (lv_at hl 1 rfl) ?_
          refine lv_isub hx hb d_Bands_passesOfPiece_17 ?_
          refine lv_topi (fun x9 ex9 => ?_)
          have hf := letb_of hf ex9
          refine lv_iconst (v := 1) hx hb d_Bands_passesOfPiece_18 (by decide) ?_
          refine lv_iadd hx hb d_Bands_passesOfPiece_19 ?_
          refine lv_topi (fun x10 ex10 => ?_)
          have hf := letb_of hf ex10
          have hf := Option.some.inj hf
          subst u
          exact ret _ _ _ _ _ _ () d_Bands_passesOfPiece_20 rfl hP hD hS hc.1 hc.2
  have hc : 0 ≤ 0 ∧ 0 ≤ 0 := ⟨Nat.le_refl 0, Nat.le_refl 0⟩
  unfold f_Bands_passesOfPiece at hf
  refine lv_iload_n hx hb d_Bands_passesOfPiece_0 rfl (lv_at hl 1 rfl) ?_
  refine lv_istore_n (lv' := [(3, .int p0), (0, .ref a_t), (1, .int p0), (2, .int p1)]) hx hb d_Bands_passesOfPiece_1 rfl hl (by decide) rfl (fun ls hl => ?_)
  exact k_2 F p0 p1 p0 _ _ _ _ ls hP hD hS (lv_sub hl [1, 2, 3, 0] rfl) hc hf
