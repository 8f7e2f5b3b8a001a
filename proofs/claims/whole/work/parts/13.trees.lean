abbrev b_Trees_init : ByteArray := prog_8_method_1_code
def y_Trees_init : MethodName := ⟨R_Trees, "<init>", "(LPacketHeads$Bands;)V"⟩
theorem d_Trees_init_0 : decode b_Trees_init 0 = .ok (.aload_n 0, 1) := by decide +kernel
theorem d_Trees_init_1 : decode b_Trees_init 1 = .ok (.invokespecial 3, 3) := by decide +kernel
theorem d_Trees_init_4 : decode b_Trees_init 4 = .ok (.aload_n 0, 1) := by decide +kernel
theorem d_Trees_init_5 : decode b_Trees_init 5 = .ok (.bipush 7, 2) := by decide +kernel
theorem d_Trees_init_7 : decode b_Trees_init 7 = .ok (.newarray .int, 2) := by decide +kernel
theorem d_Trees_init_9 : decode b_Trees_init 9 = .ok (.putfield 9, 3) := by decide +kernel
theorem d_Trees_init_12 : decode b_Trees_init 12 = .ok (.aload_n 0, 1) := by decide +kernel
theorem d_Trees_init_13 : decode b_Trees_init 13 = .ok (.bipush 16, 2) := by decide +kernel
theorem d_Trees_init_15 : decode b_Trees_init 15 = .ok (.newarray .int, 2) := by decide +kernel
theorem d_Trees_init_17 : decode b_Trees_init 17 = .ok (.putfield 15, 3) := by decide +kernel
theorem d_Trees_init_20 : decode b_Trees_init 20 = .ok (.aload_n 0, 1) := by decide +kernel
theorem d_Trees_init_21 : decode b_Trees_init 21 = .ok (.bipush 16, 2) := by decide +kernel
theorem d_Trees_init_23 : decode b_Trees_init 23 = .ok (.newarray .int, 2) := by decide +kernel
theorem d_Trees_init_25 : decode b_Trees_init 25 = .ok (.putfield 18, 3) := by decide +kernel
theorem d_Trees_init_28 : decode b_Trees_init 28 = .ok (.aload_n 0, 1) := by decide +kernel
theorem d_Trees_init_29 : decode b_Trees_init 29 = .ok (.bipush 16, 2) := by decide +kernel
theorem d_Trees_init_31 : decode b_Trees_init 31 = .ok (.newarray .int, 2) := by decide +kernel
theorem d_Trees_init_33 : decode b_Trees_init 33 = .ok (.putfield 21, 3) := by decide +kernel
theorem d_Trees_init_36 : decode b_Trees_init 36 = .ok (.aload_n 0, 1) := by decide +kernel
theorem d_Trees_init_37 : decode b_Trees_init 37 = .ok (.aload_n 1, 1) := by decide +kernel
theorem d_Trees_init_38 : decode b_Trees_init 38 = .ok (.putfield 24, 3) := by decide +kernel
theorem d_Trees_init_41 : decode b_Trees_init 41 = .ok (.return_, 1) := by decide +kernel
abbrev b_Trees_forget : ByteArray := prog_8_method_2_code
def y_Trees_forget : MethodName := ⟨R_Trees, "forget", "(II)V"⟩
theorem d_Trees_forget_0 : decode b_Trees_forget 0 = .ok (.aload_n 0, 1) := by decide +kernel
theorem d_Trees_forget_1 : decode b_Trees_forget 1 = .ok (.aload_n 0, 1) := by decide +kernel
theorem d_Trees_forget_2 : decode b_Trees_forget 2 = .ok (.getfield 15, 3) := by decide +kernel
theorem d_Trees_forget_5 : decode b_Trees_forget 5 = .ok (.aload_n 0, 1) := by decide +kernel
theorem d_Trees_forget_6 : decode b_Trees_forget 6 = .ok (.getfield 24, 3) := by decide +kernel
theorem d_Trees_forget_9 : decode b_Trees_forget 9 = .ok (.getfield 28, 3) := by decide +kernel
theorem d_Trees_forget_12 : decode b_Trees_forget 12 = .ok (.invokestatic 34, 3) := by decide +kernel
theorem d_Trees_forget_15 : decode b_Trees_forget 15 = .ok (.putfield 15, 3) := by decide +kernel
theorem d_Trees_forget_18 : decode b_Trees_forget 18 = .ok (.aload_n 0, 1) := by decide +kernel
theorem d_Trees_forget_19 : decode b_Trees_forget 19 = .ok (.aload_n 0, 1) := by decide +kernel
theorem d_Trees_forget_20 : decode b_Trees_forget 20 = .ok (.getfield 18, 3) := by decide +kernel
theorem d_Trees_forget_23 : decode b_Trees_forget 23 = .ok (.aload_n 0, 1) := by decide +kernel
theorem d_Trees_forget_24 : decode b_Trees_forget 24 = .ok (.getfield 24, 3) := by decide +kernel
theorem d_Trees_forget_27 : decode b_Trees_forget 27 = .ok (.getfield 28, 3) := by decide +kernel
theorem d_Trees_forget_30 : decode b_Trees_forget 30 = .ok (.invokestatic 34, 3) := by decide +kernel
theorem d_Trees_forget_33 : decode b_Trees_forget 33 = .ok (.putfield 18, 3) := by decide +kernel
theorem d_Trees_forget_36 : decode b_Trees_forget 36 = .ok (.aload_n 0, 1) := by decide +kernel
theorem d_Trees_forget_37 : decode b_Trees_forget 37 = .ok (.aload_n 0, 1) := by decide +kernel
theorem d_Trees_forget_38 : decode b_Trees_forget 38 = .ok (.getfield 21, 3) := by decide +kernel
theorem d_Trees_forget_41 : decode b_Trees_forget 41 = .ok (.aload_n 0, 1) := by decide +kernel
theorem d_Trees_forget_42 : decode b_Trees_forget 42 = .ok (.getfield 24, 3) := by decide +kernel
theorem d_Trees_forget_45 : decode b_Trees_forget 45 = .ok (.getfield 28, 3) := by decide +kernel
theorem d_Trees_forget_48 : decode b_Trees_forget 48 = .ok (.invokestatic 34, 3) := by decide +kernel
theorem d_Trees_forget_51 : decode b_Trees_forget 51 = .ok (.putfield 21, 3) := by decide +kernel
theorem d_Trees_forget_54 : decode b_Trees_forget 54 = .ok (.iload_n 1, 1) := by decide +kernel
theorem d_Trees_forget_55 : decode b_Trees_forget 55 = .ok (.istore_n 3, 1) := by decide +kernel
theorem d_Trees_forget_56 : decode b_Trees_forget 56 = .ok (.iload_n 3, 1) := by decide +kernel
theorem d_Trees_forget_57 : decode b_Trees_forget 57 = .ok (.aload_n 0, 1) := by decide +kernel
theorem d_Trees_forget_58 : decode b_Trees_forget 58 = .ok (.getfield 24, 3) := by decide +kernel
theorem d_Trees_forget_61 : decode b_Trees_forget 61 = .ok (.getfield 28, 3) := by decide +kernel
theorem d_Trees_forget_64 : decode b_Trees_forget 64 = .ok (.if_icmp .ge 30, 3) := by decide +kernel
theorem d_Trees_forget_67 : decode b_Trees_forget 67 = .ok (.aload_n 0, 1) := by decide +kernel
theorem d_Trees_forget_68 : decode b_Trees_forget 68 = .ok (.getfield 15, 3) := by decide +kernel
theorem d_Trees_forget_71 : decode b_Trees_forget 71 = .ok (.iload_n 3, 1) := by decide +kernel
theorem d_Trees_forget_72 : decode b_Trees_forget 72 = .ok (.iload_n 2, 1) := by decide +kernel
theorem d_Trees_forget_73 : decode b_Trees_forget 73 = .ok (.iastore, 1) := by decide +kernel
theorem d_Trees_forget_74 : decode b_Trees_forget 74 = .ok (.aload_n 0, 1) := by decide +kernel
theorem d_Trees_forget_75 : decode b_Trees_forget 75 = .ok (.getfield 18, 3) := by decide +kernel
theorem d_Trees_forget_78 : decode b_Trees_forget 78 = .ok (.iload_n 3, 1) := by decide +kernel
theorem d_Trees_forget_79 : decode b_Trees_forget 79 = .ok (.iconst 0, 1) := by decide +kernel
theorem d_Trees_forget_80 : decode b_Trees_forget 80 = .ok (.iastore, 1) := by decide +kernel
theorem d_Trees_forget_81 : decode b_Trees_forget 81 = .ok (.aload_n 0, 1) := by decide +kernel
theorem d_Trees_forget_82 : decode b_Trees_forget 82 = .ok (.getfield 21, 3) := by decide +kernel
theorem d_Trees_forget_85 : decode b_Trees_forget 85 = .ok (.iload_n 3, 1) := by decide +kernel
theorem d_Trees_forget_86 : decode b_Trees_forget 86 = .ok (.iconst 0, 1) := by decide +kernel
theorem d_Trees_forget_87 : decode b_Trees_forget 87 = .ok (.iastore, 1) := by decide +kernel
theorem d_Trees_forget_88 : decode b_Trees_forget 88 = .ok (.iinc 3 1, 3) := by decide +kernel
theorem d_Trees_forget_91 : decode b_Trees_forget 91 = .ok (.goto (-35), 3) := by decide +kernel
theorem d_Trees_forget_94 : decode b_Trees_forget 94 = .ok (.return_, 1) := by decide +kernel
abbrev b_Trees_settle : ByteArray := prog_8_method_3_code
def y_Trees_settle : MethodName := ⟨R_Trees, "settle", "()V"⟩
theorem d_Trees_settle_0 : decode b_Trees_settle 0 = .ok (.iconst 0, 1) := by decide +kernel
theorem d_Trees_settle_1 : decode b_Trees_settle 1 = .ok (.istore_n 1, 1) := by decide +kernel
theorem d_Trees_settle_2 : decode b_Trees_settle 2 = .ok (.iload_n 1, 1) := by decide +kernel
theorem d_Trees_settle_3 : decode b_Trees_settle 3 = .ok (.aload_n 0, 1) := by decide +kernel
theorem d_Trees_settle_4 : decode b_Trees_settle 4 = .ok (.getfield 24, 3) := by decide +kernel
theorem d_Trees_settle_7 : decode b_Trees_settle 7 = .ok (.getfield 28, 3) := by decide +kernel
theorem d_Trees_settle_10 : decode b_Trees_settle 10 = .ok (.if_icmp .ge 39, 3) := by decide +kernel
theorem d_Trees_settle_13 : decode b_Trees_settle 13 = .ok (.aload_n 0, 1) := by decide +kernel
theorem d_Trees_settle_14 : decode b_Trees_settle 14 = .ok (.getfield 24, 3) := by decide +kernel
theorem d_Trees_settle_17 : decode b_Trees_settle 17 = .ok (.getfield 38, 3) := by decide +kernel
theorem d_Trees_settle_20 : decode b_Trees_settle 20 = .ok (.iload_n 1, 1) := by decide +kernel
theorem d_Trees_settle_21 : decode b_Trees_settle 21 = .ok (.iaload, 1) := by decide +kernel
theorem d_Trees_settle_22 : decode b_Trees_settle 22 = .ok (.iconst (-1), 1) := by decide +kernel
theorem d_Trees_settle_23 : decode b_Trees_settle 23 = .ok (.if_icmp .eq 20, 3) := by decide +kernel
theorem d_Trees_settle_26 : decode b_Trees_settle 26 = .ok (.aload_n 0, 1) := by decide +kernel
theorem d_Trees_settle_27 : decode b_Trees_settle 27 = .ok (.getfield 15, 3) := by decide +kernel
theorem d_Trees_settle_30 : decode b_Trees_settle 30 = .ok (.aload_n 0, 1) := by decide +kernel
theorem d_Trees_settle_31 : decode b_Trees_settle 31 = .ok (.getfield 24, 3) := by decide +kernel
theorem d_Trees_settle_34 : decode b_Trees_settle 34 = .ok (.getfield 38, 3) := by decide +kernel
theorem d_Trees_settle_37 : decode b_Trees_settle 37 = .ok (.iload_n 1, 1) := by decide +kernel
theorem d_Trees_settle_38 : decode b_Trees_settle 38 = .ok (.iaload, 1) := by decide +kernel
theorem d_Trees_settle_39 : decode b_Trees_settle 39 = .ok (.sipush 1000, 3) := by decide +kernel
theorem d_Trees_settle_42 : decode b_Trees_settle 42 = .ok (.iastore, 1) := by decide +kernel
theorem d_Trees_settle_43 : decode b_Trees_settle 43 = .ok (.iinc 1 1, 3) := by decide +kernel
theorem d_Trees_settle_46 : decode b_Trees_settle 46 = .ok (.goto (-44), 3) := by decide +kernel
theorem d_Trees_settle_49 : decode b_Trees_settle 49 = .ok (.iconst 0, 1) := by decide +kernel
theorem d_Trees_settle_50 : decode b_Trees_settle 50 = .ok (.istore_n 1, 1) := by decide +kernel
theorem d_Trees_settle_51 : decode b_Trees_settle 51 = .ok (.iload_n 1, 1) := by decide +kernel
theorem d_Trees_settle_52 : decode b_Trees_settle 52 = .ok (.aload_n 0, 1) := by decide +kernel
theorem d_Trees_settle_53 : decode b_Trees_settle 53 = .ok (.getfield 24, 3) := by decide +kernel
theorem d_Trees_settle_56 : decode b_Trees_settle 56 = .ok (.getfield 28, 3) := by decide +kernel
theorem d_Trees_settle_59 : decode b_Trees_settle 59 = .ok (.if_icmp .ge 45, 3) := by decide +kernel
theorem d_Trees_settle_62 : decode b_Trees_settle 62 = .ok (.aload_n 0, 1) := by decide +kernel
theorem d_Trees_settle_63 : decode b_Trees_settle 63 = .ok (.getfield 24, 3) := by decide +kernel
theorem d_Trees_settle_66 : decode b_Trees_settle 66 = .ok (.getfield 38, 3) := by decide +kernel
theorem d_Trees_settle_69 : decode b_Trees_settle 69 = .ok (.iload_n 1, 1) := by decide +kernel
theorem d_Trees_settle_70 : decode b_Trees_settle 70 = .ok (.iaload, 1) := by decide +kernel
theorem d_Trees_settle_71 : decode b_Trees_settle 71 = .ok (.istore_n 2, 1) := by decide +kernel
theorem d_Trees_settle_72 : decode b_Trees_settle 72 = .ok (.iload_n 2, 1) := by decide +kernel
theorem d_Trees_settle_73 : decode b_Trees_settle 73 = .ok (.iconst (-1), 1) := by decide +kernel
theorem d_Trees_settle_74 : decode b_Trees_settle 74 = .ok (.if_icmp .eq 24, 3) := by decide +kernel
theorem d_Trees_settle_77 : decode b_Trees_settle 77 = .ok (.aload_n 0, 1) := by decide +kernel
theorem d_Trees_settle_78 : decode b_Trees_settle 78 = .ok (.getfield 15, 3) := by decide +kernel
theorem d_Trees_settle_81 : decode b_Trees_settle 81 = .ok (.iload_n 2, 1) := by decide +kernel
theorem d_Trees_settle_82 : decode b_Trees_settle 82 = .ok (.aload_n 0, 1) := by decide +kernel
theorem d_Trees_settle_83 : decode b_Trees_settle 83 = .ok (.getfield 15, 3) := by decide +kernel
theorem d_Trees_settle_86 : decode b_Trees_settle 86 = .ok (.iload_n 2, 1) := by decide +kernel
theorem d_Trees_settle_87 : decode b_Trees_settle 87 = .ok (.iaload, 1) := by decide +kernel
theorem d_Trees_settle_88 : decode b_Trees_settle 88 = .ok (.aload_n 0, 1) := by decide +kernel
theorem d_Trees_settle_89 : decode b_Trees_settle 89 = .ok (.getfield 15, 3) := by decide +kernel
theorem d_Trees_settle_92 : decode b_Trees_settle 92 = .ok (.iload_n 1, 1) := by decide +kernel
theorem d_Trees_settle_93 : decode b_Trees_settle 93 = .ok (.iaload, 1) := by decide +kernel
theorem d_Trees_settle_94 : decode b_Trees_settle 94 = .ok (.invokestatic 41, 3) := by decide +kernel
theorem d_Trees_settle_97 : decode b_Trees_settle 97 = .ok (.iastore, 1) := by decide +kernel
theorem d_Trees_settle_98 : decode b_Trees_settle 98 = .ok (.iinc 1 1, 3) := by decide +kernel
theorem d_Trees_settle_101 : decode b_Trees_settle 101 = .ok (.goto (-50), 3) := by decide +kernel
theorem d_Trees_settle_104 : decode b_Trees_settle 104 = .ok (.return_, 1) := by decide +kernel
abbrev b_Trees_tell : ByteArray := prog_8_method_4_code
def y_Trees_tell : MethodName := ⟨R_Trees, "tell", "(IILPacketHeads$Bits;)Z"⟩
theorem d_Trees_tell_0 : decode b_Trees_tell 0 = .ok (.iconst 0, 1) := by decide +kernel
theorem d_Trees_tell_1 : decode b_Trees_tell 1 = .ok (.istore 4, 2) := by decide +kernel
theorem d_Trees_tell_3 : decode b_Trees_tell 3 = .ok (.iload_n 1, 1) := by decide +kernel
theorem d_Trees_tell_4 : decode b_Trees_tell 4 = .ok (.istore 5, 2) := by decide +kernel
theorem d_Trees_tell_6 : decode b_Trees_tell 6 = .ok (.iload 5, 2) := by decide +kernel
theorem d_Trees_tell_8 : decode b_Trees_tell 8 = .ok (.iconst (-1), 1) := by decide +kernel
theorem d_Trees_tell_9 : decode b_Trees_tell 9 = .ok (.if_icmp .eq 37, 3) := by decide +kernel
theorem d_Trees_tell_12 : decode b_Trees_tell 12 = .ok (.iload 4, 2) := by decide +kernel
theorem d_Trees_tell_14 : decode b_Trees_tell 14 = .ok (.bipush 7, 2) := by decide +kernel
theorem d_Trees_tell_16 : decode b_Trees_tell 16 = .ok (.if_icmp .ge 30, 3) := by decide +kernel
theorem d_Trees_tell_19 : decode b_Trees_tell 19 = .ok (.aload_n 0, 1) := by decide +kernel
theorem d_Trees_tell_20 : decode b_Trees_tell 20 = .ok (.getfield 9, 3) := by decide +kernel
theorem d_Trees_tell_23 : decode b_Trees_tell 23 = .ok (.iload 4, 2) := by decide +kernel
theorem d_Trees_tell_25 : decode b_Trees_tell 25 = .ok (.iload 5, 2) := by decide +kernel
theorem d_Trees_tell_27 : decode b_Trees_tell 27 = .ok (.iastore, 1) := by decide +kernel
theorem d_Trees_tell_28 : decode b_Trees_tell 28 = .ok (.iinc 4 1, 3) := by decide +kernel
theorem d_Trees_tell_31 : decode b_Trees_tell 31 = .ok (.aload_n 0, 1) := by decide +kernel
theorem d_Trees_tell_32 : decode b_Trees_tell 32 = .ok (.getfield 24, 3) := by decide +kernel
theorem d_Trees_tell_35 : decode b_Trees_tell 35 = .ok (.getfield 38, 3) := by decide +kernel
theorem d_Trees_tell_38 : decode b_Trees_tell 38 = .ok (.iload 5, 2) := by decide +kernel
theorem d_Trees_tell_40 : decode b_Trees_tell 40 = .ok (.iaload, 1) := by decide +kernel
theorem d_Trees_tell_41 : decode b_Trees_tell 41 = .ok (.istore 5, 2) := by decide +kernel
theorem d_Trees_tell_43 : decode b_Trees_tell 43 = .ok (.goto (-37), 3) := by decide +kernel
theorem d_Trees_tell_46 : decode b_Trees_tell 46 = .ok (.iconst 0, 1) := by decide +kernel
theorem d_Trees_tell_47 : decode b_Trees_tell 47 = .ok (.istore 5, 2) := by decide +kernel
theorem d_Trees_tell_49 : decode b_Trees_tell 49 = .ok (.iload 4, 2) := by decide +kernel
theorem d_Trees_tell_51 : decode b_Trees_tell 51 = .ok (.iconst 1, 1) := by decide +kernel
theorem d_Trees_tell_52 : decode b_Trees_tell 52 = .ok (.isub, 1) := by decide +kernel
theorem d_Trees_tell_53 : decode b_Trees_tell 53 = .ok (.istore 6, 2) := by decide +kernel
theorem d_Trees_tell_55 : decode b_Trees_tell 55 = .ok (.iload 6, 2) := by decide +kernel
theorem d_Trees_tell_57 : decode b_Trees_tell 57 = .ok (.ifCond .lt 124, 3) := by decide +kernel
theorem d_Trees_tell_60 : decode b_Trees_tell 60 = .ok (.aload_n 0, 1) := by decide +kernel
theorem d_Trees_tell_61 : decode b_Trees_tell 61 = .ok (.getfield 9, 3) := by decide +kernel
theorem d_Trees_tell_64 : decode b_Trees_tell 64 = .ok (.iload 6, 2) := by decide +kernel
theorem d_Trees_tell_66 : decode b_Trees_tell 66 = .ok (.iaload, 1) := by decide +kernel
theorem d_Trees_tell_67 : decode b_Trees_tell 67 = .ok (.istore 7, 2) := by decide +kernel
theorem d_Trees_tell_69 : decode b_Trees_tell 69 = .ok (.aload_n 0, 1) := by decide +kernel
theorem d_Trees_tell_70 : decode b_Trees_tell 70 = .ok (.getfield 18, 3) := by decide +kernel
theorem d_Trees_tell_73 : decode b_Trees_tell 73 = .ok (.iload 7, 2) := by decide +kernel
theorem d_Trees_tell_75 : decode b_Trees_tell 75 = .ok (.aload_n 0, 1) := by decide +kernel
theorem d_Trees_tell_76 : decode b_Trees_tell 76 = .ok (.getfield 18, 3) := by decide +kernel
theorem d_Trees_tell_79 : decode b_Trees_tell 79 = .ok (.iload 7, 2) := by decide +kernel
theorem d_Trees_tell_81 : decode b_Trees_tell 81 = .ok (.iaload, 1) := by decide +kernel
theorem d_Trees_tell_82 : decode b_Trees_tell 82 = .ok (.iload 5, 2) := by decide +kernel
theorem d_Trees_tell_84 : decode b_Trees_tell 84 = .ok (.invokestatic 47, 3) := by decide +kernel
theorem d_Trees_tell_87 : decode b_Trees_tell 87 = .ok (.iastore, 1) := by decide +kernel
theorem d_Trees_tell_88 : decode b_Trees_tell 88 = .ok (.aload_n 0, 1) := by decide +kernel
theorem d_Trees_tell_89 : decode b_Trees_tell 89 = .ok (.getfield 18, 3) := by decide +kernel
theorem d_Trees_tell_92 : decode b_Trees_tell 92 = .ok (.iload 7, 2) := by decide +kernel
theorem d_Trees_tell_94 : decode b_Trees_tell 94 = .ok (.iaload, 1) := by decide +kernel
theorem d_Trees_tell_95 : decode b_Trees_tell 95 = .ok (.istore 8, 2) := by decide +kernel
theorem d_Trees_tell_97 : decode b_Trees_tell 97 = .ok (.iload 8, 2) := by decide +kernel
theorem d_Trees_tell_99 : decode b_Trees_tell 99 = .ok (.iload_n 2, 1) := by decide +kernel
theorem d_Trees_tell_100 : decode b_Trees_tell 100 = .ok (.if_icmp .ge 66, 3) := by decide +kernel
theorem d_Trees_tell_103 : decode b_Trees_tell 103 = .ok (.aload_n 0, 1) := by decide +kernel
theorem d_Trees_tell_104 : decode b_Trees_tell 104 = .ok (.getfield 21, 3) := by decide +kernel
theorem d_Trees_tell_107 : decode b_Trees_tell 107 = .ok (.iload 7, 2) := by decide +kernel
theorem d_Trees_tell_109 : decode b_Trees_tell 109 = .ok (.iaload, 1) := by decide +kernel
theorem d_Trees_tell_110 : decode b_Trees_tell 110 = .ok (.ifCond .ne 56, 3) := by decide +kernel
theorem d_Trees_tell_113 : decode b_Trees_tell 113 = .ok (.aload_n 0, 1) := by decide +kernel
theorem d_Trees_tell_114 : decode b_Trees_tell 114 = .ok (.getfield 21, 3) := by decide +kernel
theorem d_Trees_tell_117 : decode b_Trees_tell 117 = .ok (.iload 7, 2) := by decide +kernel
theorem d_Trees_tell_119 : decode b_Trees_tell 119 = .ok (.aload_n 3, 1) := by decide +kernel
theorem d_Trees_tell_120 : decode b_Trees_tell 120 = .ok (.aload_n 0, 1) := by decide +kernel
theorem d_Trees_tell_121 : decode b_Trees_tell 121 = .ok (.getfield 15, 3) := by decide +kernel
theorem d_Trees_tell_124 : decode b_Trees_tell 124 = .ok (.iload 7, 2) := by decide +kernel
theorem d_Trees_tell_126 : decode b_Trees_tell 126 = .ok (.iaload, 1) := by decide +kernel
theorem d_Trees_tell_127 : decode b_Trees_tell 127 = .ok (.iload 8, 2) := by decide +kernel
theorem d_Trees_tell_129 : decode b_Trees_tell 129 = .ok (.if_icmp .ne 7, 3) := by decide +kernel
theorem d_Trees_tell_132 : decode b_Trees_tell 132 = .ok (.iconst 1, 1) := by decide +kernel
theorem d_Trees_tell_133 : decode b_Trees_tell 133 = .ok (.goto 4, 3) := by decide +kernel
theorem d_Trees_tell_136 : decode b_Trees_tell 136 = .ok (.iconst 0, 1) := by decide +kernel
theorem d_Trees_tell_137 : decode b_Trees_tell 137 = .ok (.invokevirtual 50, 3) := by decide +kernel
theorem d_Trees_tell_140 : decode b_Trees_tell 140 = .ok (.iastore, 1) := by decide +kernel
theorem d_Trees_tell_141 : decode b_Trees_tell 141 = .ok (.aload_n 0, 1) := by decide +kernel
theorem d_Trees_tell_142 : decode b_Trees_tell 142 = .ok (.getfield 18, 3) := by decide +kernel
theorem d_Trees_tell_145 : decode b_Trees_tell 145 = .ok (.iload 7, 2) := by decide +kernel
theorem d_Trees_tell_147 : decode b_Trees_tell 147 = .ok (.iload 8, 2) := by decide +kernel
theorem d_Trees_tell_149 : decode b_Trees_tell 149 = .ok (.iconst 1, 1) := by decide +kernel
theorem d_Trees_tell_150 : decode b_Trees_tell 150 = .ok (.iadd, 1) := by decide +kernel
theorem d_Trees_tell_151 : decode b_Trees_tell 151 = .ok (.aload_n 0, 1) := by decide +kernel
theorem d_Trees_tell_152 : decode b_Trees_tell 152 = .ok (.getfield 21, 3) := by decide +kernel
theorem d_Trees_tell_155 : decode b_Trees_tell 155 = .ok (.iload 7, 2) := by decide +kernel
theorem d_Trees_tell_157 : decode b_Trees_tell 157 = .ok (.iaload, 1) := by decide +kernel
theorem d_Trees_tell_158 : decode b_Trees_tell 158 = .ok (.isub, 1) := by decide +kernel
theorem d_Trees_tell_159 : decode b_Trees_tell 159 = .ok (.iastore, 1) := by decide +kernel
theorem d_Trees_tell_160 : decode b_Trees_tell 160 = .ok (.iinc 8 1, 3) := by decide +kernel
theorem d_Trees_tell_163 : decode b_Trees_tell 163 = .ok (.goto (-66), 3) := by decide +kernel
theorem d_Trees_tell_166 : decode b_Trees_tell 166 = .ok (.aload_n 0, 1) := by decide +kernel
theorem d_Trees_tell_167 : decode b_Trees_tell 167 = .ok (.getfield 18, 3) := by decide +kernel
theorem d_Trees_tell_170 : decode b_Trees_tell 170 = .ok (.iload 7, 2) := by decide +kernel
theorem d_Trees_tell_172 : decode b_Trees_tell 172 = .ok (.iaload, 1) := by decide +kernel
theorem d_Trees_tell_173 : decode b_Trees_tell 173 = .ok (.istore 5, 2) := by decide +kernel
theorem d_Trees_tell_175 : decode b_Trees_tell 175 = .ok (.iinc 6 (-1), 3) := by decide +kernel
theorem d_Trees_tell_178 : decode b_Trees_tell 178 = .ok (.goto (-123), 3) := by decide +kernel
theorem d_Trees_tell_181 : decode b_Trees_tell 181 = .ok (.aload_n 0, 1) := by decide +kernel
theorem d_Trees_tell_182 : decode b_Trees_tell 182 = .ok (.getfield 21, 3) := by decide +kernel
theorem d_Trees_tell_185 : decode b_Trees_tell 185 = .ok (.iload_n 1, 1) := by decide +kernel
theorem d_Trees_tell_186 : decode b_Trees_tell 186 = .ok (.iaload, 1) := by decide +kernel
theorem d_Trees_tell_187 : decode b_Trees_tell 187 = .ok (.iconst 1, 1) := by decide +kernel
theorem d_Trees_tell_188 : decode b_Trees_tell 188 = .ok (.if_icmp .ne 7, 3) := by decide +kernel
theorem d_Trees_tell_191 : decode b_Trees_tell 191 = .ok (.iconst 1, 1) := by decide +kernel
theorem d_Trees_tell_192 : decode b_Trees_tell 192 = .ok (.goto 4, 3) := by decide +kernel
theorem d_Trees_tell_195 : decode b_Trees_tell 195 = .ok (.iconst 0, 1) := by decide +kernel
theorem d_Trees_tell_196 : decode b_Trees_tell 196 = .ok (.ireturn, 1) := by decide +kernel
theorem q_101 : (Cond.methodLink R_Trees 3 objectInit) ∈ TB := in_TB (List.mem_append_right _ (List.mem_of_getElem? (i := 86) (by decide +kernel))) (by decide +kernel)
theorem q_102 : (Cond.fieldLink R_Trees 9 "PacketHeads$Trees" "path" "[I") ∈ TB := in_TB (List.mem_append_right _ (List.mem_of_getElem? (i := 88) (by decide +kernel))) (by decide +kernel)
theorem q_103 : (Cond.fieldLink R_Trees 15 "PacketHeads$Trees" "number" "[I") ∈ TB := in_TB (List.mem_append_right _ (List.mem_of_getElem? (i := 89) (by decide +kernel))) (by decide +kernel)
theorem q_104 : (Cond.fieldLink R_Trees 18 "PacketHeads$Trees" "low" "[I") ∈ TB := in_TB (List.mem_append_right _ (List.mem_of_getElem? (i := 92) (by decide +kernel))) (by decide +kernel)
theorem q_105 : (Cond.fieldLink R_Trees 21 "PacketHeads$Trees" "known" "[I") ∈ TB := in_TB (List.mem_append_right _ (List.mem_of_getElem? (i := 94) (by decide +kernel))) (by decide +kernel)
theorem q_106 : (Cond.fieldLink R_Trees 24 "PacketHeads$Trees" "bands" "LPacketHeads$Bands;") ∈ TB := in_TB (List.mem_append_right _ (List.mem_of_getElem? (i := 87) (by decide +kernel))) (by decide +kernel)
theorem q_107 : (Cond.fieldLinkNest R_Trees 28 "PacketHeads$Bands" "nodes" "I" "PacketHeads") ∈ lw_tbl := List.mem_append_right _ (List.mem_of_getElem? (i := 58) (by decide +kernel))
theorem q_108 : (Cond.methodLinkNest R_Trees 34 y_PH_withRoom "PacketHeads") ∈ lw_tbl := List.mem_append_right _ (List.mem_of_getElem? (i := 385) (by decide +kernel))
theorem q_109 : (Cond.fieldLinkNest R_Trees 38 "PacketHeads$Bands" "above" "[I" "PacketHeads") ∈ lw_tbl := List.mem_append_right _ (List.mem_of_getElem? (i := 54) (by decide +kernel))
theorem q_110 : (Cond.methodLink R_Trees 41 Lib.Math.min.name) ∈ TB := in_TB (List.mem_append_right _ (List.mem_of_getElem? (i := 479) (by decide +kernel))) (by decide +kernel)
theorem q_111 : (Cond.methodLink R_Trees 47 Lib.Math.max.name) ∈ TB := in_TB (List.mem_append_right _ (List.mem_of_getElem? (i := 530) (by decide +kernel))) (by decide +kernel)
theorem q_112 : (Cond.methodLink R_Trees 50 y_Bits_bit) ∈ TB := in_TB (List.mem_append_right _ (List.mem_of_getElem? (i := 531) (by decide +kernel))) (by decide +kernel)
noncomputable def f_Trees_init (F : Nat) : Option (Nat × Nat × Nat × (Nat → Int32) × Nat × (Nat → Int32) × Nat × (Nat → Int32) × Nat × (Nat → Int32)) :=
addc 1 7 (
addc 1 16 (
addc 1 16 (
addc 1 16 (
some (0, 0, 7, (fun _ => 0), 16, (fun _ => 0), 16, (fun _ => 0), 16, (fun _ => 0))))))
set_option maxHeartbeats 4000000 in
set_option maxRecDepth 100000 in
theorem c_Trees_init (l : Launch) (dC : Nat → ClassId) (dI : Nat → Nat → Nat) (tI tB tL tZ : ClassId) (a_t : Nat) (o_p0 : Nat) (sz : Nat) (F : Nat) (nc ns : Nat) (u : Nat × (Nat → Int32) × Nat × (Nat → Int32) × Nat × (Nat → Int32) × Nat × (Nat → Int32)) (hf : f_Trees_init F  = some (nc, ns, u)) : CTv l y_Trees_init b_Trees_init 2 1 12 (dC, dI) classes [(tI, .int), (tB, .byte), (tL, .long), (tZ, .boolean)] [.ref a_t, .ref o_p0] [(a_t, .inr (5, [.null, .null, .null, .null, .null]))] sz (fun q : Nat × Nat × Nat × Nat => [(a_t, .inr (5, [.ref o_p0, .ref q.1, .ref q.2.1, .ref q.2.2.1, .ref q.2.2.2])), (q.1, .inl (tI, u.1, .inl u.2.1)), (q.2.1, .inl (tI, u.2.2.1, .inl u.2.2.2.1)), (q.2.2.1, .inl (tI, u.2.2.2.2.1, .inl u.2.2.2.2.2.1)), (q.2.2.2, .inl (tI, u.2.2.2.2.2.2.1, .inl u.2.2.2.2.2.2.2))]) nc ns := by
  refine mk_v (by decide) (Nat.le_of_ble_eq_true rfl) ?_
  intro p e s m args below meth c ls A Q hx hb hml hts hown hin hK hN hP hD hA hl ret
  obtain ⟨H, hH⟩ : ∃ H : Heap, H = s.heap := ⟨_, rfl⟩
  have hS : va_S A s.heap H [] := by rw [hH]; exact va_S.rf
  rw [← hH] at hP ⊢
  have hl : lv_has ls 2 [(0, .ref a_t), (1, .ref o_p0)] := hl
  have hc : 0 + nc ≤ nc ∧ 0 + ns ≤ ns := ⟨by omega, by omega⟩
  unfold f_Trees_init at hf
  refine lv_aload_n hx hb d_Trees_init_0 rfl (lv_at hl 0 rfl) ?_
  refine W.objInit hx hb hown (hts _ q_101) (hts _ q_22) (hts _ q_23) rfl (by rw [hml]; exact hl.1) rfl d_Trees_init_1 (Nat.le_of_ble_eq_true rfl) (Nat.le_of_ble_eq_true rfl) ?_
  refine W.eq (g2 := F0 m 4 ls []) rfl ?_
  refine lv_aload_n hx hb d_Trees_init_4 rfl (lv_at hl 0 rfl) ?_
  refine lv_bipush (v := 7) hx hb d_Trees_init_5 (by decide) ?_
  obtain ⟨nB14, sB15, hf, ha9, hb9⟩ := addc_of hf
  have hcc : 0 + 1 ≤ nc ∧ 0 + 7 ≤ ns := ⟨by omega, by omega⟩
  have hc : 0 + 1 + nB14 ≤ nc ∧ 0 + 7 + sB15 ≤ ns := ⟨by omega, by omega⟩
  refine va_newa (atype := .int) (ty := .int) (N' := 7) (a0 := (7, .inl (fun _ => 0))) hx hb (hts _ q_0) rfl hK hP hD hS hA (fun _ => rfl) (by decide) (by decide) (by decide) hcc.1 hcc.2 d_Trees_init_7 (fun ad13 cA9 H hK9 hP hD hS => ?_)
  obtain rfl := ty_one (i := 0) (j := 4) hK hK9 rfl rfl (by intro _ h9; cases h9)
  have hP : va_P (dC, dI) classes [(a_t, .inr (5, [.null, .null, .null, .null, .null])), (ad13, .inl (tI, 7, .inl (fun _ => 0)))] H := hP
  have hD : va_D A [(a_t, .inr (5, [.null, .null, .null, .null, .null])), (ad13, .inl (tI, 7, .inl (fun _ => 0)))] := hD
  refine va_putF (D := (dC, dI)) (ci := 5) (v := .ref ad13) (ty := t_Trees 1) (C := R_Trees) (T := F_Trees) (N := 5) hx hb hts i_Trees t_Trees t_Trees_ok n_Trees hown hK hP hD hS 0 rfl rfl 1 (by decide) (hts _ q_102) (fun _ h9 => h9) rfl hin rfl (t_Trees_ok 1 (by decide)) rfl rfl (Nat.le_of_ble_eq_true rfl) d_Trees_init_9 (fun H locs hP hD hS => ?_)
  have hP : va_P (dC, dI) classes [(a_t, .inr (5, [.null, .ref ad13, .null, .null, .null])), (ad13, .inl (tI, 7, .inl (fun _ => 0)))] H := hP
  have hD : va_D A [(a_t, .inr (5, [.null, .ref ad13, .null, .null, .null])), (ad13, .inl (tI, 7, .inl (fun _ => 0)))] := hD
  refine lv_aload_n hx hb d_Trees_init_12 rfl (lv_at hl 0 rfl) ?_
  refine lv_bipush (v := 16) hx hb d_Trees_init_13 (by decide) ?_
  obtain ⟨nB17, sB18, hf, ha9, hb9⟩ := addc_of hf
  have hcc : 0 + 1 + 1 ≤ nc ∧ 0 + 7 + 16 ≤ ns := ⟨by omega, by omega⟩
  have hc : 0 + 1 + 1 + nB17 ≤ nc ∧ 0 + 7 + 16 + sB18 ≤ ns := ⟨by omega, by omega⟩
  refine va_newa (atype := .int) (ty := .int) (N' := 16) (a0 := (16, .inl (fun _ => 0))) hx hb (hts _ q_0) rfl hK hP hD hS hA (fun _ => rfl) (by decide) (by decide) (by decide) hcc.1 hcc.2 d_Trees_init_15 (fun ad16 cA9 H hK9 hP hD hS => ?_)
  obtain rfl := ty_one (i := 0) (j := 4) hK hK9 rfl rfl (by intro _ h9; cases h9)
  have hP : va_P (dC, dI) classes [(a_t, .inr (5, [.null, .ref ad13, .null, .null, .null])), (ad13, .inl (tI, 7, .inl (fun _ => 0))), (ad16, .inl (tI, 16, .inl (fun _ => 0)))] H := hP
  have hD : va_D A [(a_t, .inr (5, [.null, .ref ad13, .null, .null, .null])), (ad13, .inl (tI, 7, .inl (fun _ => 0))), (ad16, .inl (tI, 16, .inl (fun _ => 0)))] := hD
  refine va_put (D := (dC, dI)) (ci := 5) (v := .ref ad16) (ty := t_Trees 2) (C := R_Trees) (T := F_Trees) (N := 5) hx hb hts i_Trees t_Trees t_Trees_ok n_Trees hown hK hP hD hS 0 rfl rfl 2 (by decide) (hts _ q_103) (fun _ h9 => h9) rfl (t_Trees_ok 2 (by decide)) rfl rfl (Nat.le_of_ble_eq_true rfl) d_Trees_init_17 (fun H locs hP hD hS => ?_)
  have hP : va_P (dC, dI) classes [(a_t, .inr (5, [.null, .ref ad13, .ref ad16, .null, .null])), (ad13, .inl (tI, 7, .inl (fun _ => 0))), (ad16, .inl (tI, 16, .inl (fun _ => 0)))] H := hP
  have hD : va_D A [(a_t, .inr (5, [.null, .ref ad13, .ref ad16, .null, .null])), (ad13, .inl (tI, 7, .inl (fun _ => 0))), (ad16, .inl (tI, 16, .inl (fun _ => 0)))] := hD
  refine lv_aload_n hx hb d_Trees_init_20 rfl (lv_at hl 0 rfl) ?_
  refine lv_bipush (v := 16) hx hb d_Trees_init_21 (by decide) ?_
  obtain ⟨nB20, sB21, hf, ha9, hb9⟩ := addc_of hf
  have hcc : 0 + 1 + 1 + 1 ≤ nc ∧ 0 + 7 + 16 + 16 ≤ ns := ⟨by omega, by omega⟩
  have hc : 0 + 1 + 1 + 1 + nB20 ≤ nc ∧ 0 + 7 + 16 + 16 + sB21 ≤ ns := ⟨by omega, by omega⟩
  refine va_newa (atype := .int) (ty := .int) (N' := 16) (a0 := (16, .inl (fun _ => 0))) hx hb (hts _ q_0) rfl hK hP hD hS hA (fun _ => rfl) (by decide) (by decide) (by decide) hcc.1 hcc.2 d_Trees_init_23 (fun ad19 cA9 H hK9 hP hD hS => ?_)
  obtain rfl := ty_one (i := 0) (j := 4) hK hK9 rfl rfl (by intro _ h9; cases h9)
  have hP : va_P (dC, dI) classes [(a_t, .inr (5, [.null, .ref ad13, .ref ad16, .null, .null])), (ad13, .inl (tI, 7, .inl (fun _ => 0))), (ad16, .inl (tI, 16, .inl (fun _ => 0))), (ad19, .inl (tI, 16, .inl (fun _ => 0)))] H := hP
  have hD : va_D A [(a_t, .inr (5, [.null, .ref ad13, .ref ad16, .null, .null])), (ad13, .inl (tI, 7, .inl (fun _ => 0))), (ad16, .inl (tI, 16, .inl (fun _ => 0))), (ad19, .inl (tI, 16, .inl (fun _ => 0)))] := hD
  refine va_put (D := (dC, dI)) (ci := 5) (v := .ref ad19) (ty := t_Trees 3) (C := R_Trees) (T := F_Trees) (N := 5) hx hb hts i_Trees t_Trees t_Trees_ok n_Trees hown hK hP hD hS 0 rfl rfl 3 (by decide) (hts _ q_104) (fun _ h9 => h9) rfl (t_Trees_ok 3 (by decide)) rfl rfl (Nat.le_of_ble_eq_true rfl) d_Trees_init_25 (fun H locs hP hD hS => ?_)
  have hP : va_P (dC, dI) classes [(a_t, .inr (5, [.null, .ref ad13, .ref ad16, .ref ad19, .null])), (ad13, .inl (tI, 7, .inl (fun _ => 0))), (ad16, .inl (tI, 16, .inl (fun _ => 0))), (ad19, .inl (tI, 16, .inl (fun _ => 0)))] H := hP
  have hD : va_D A [(a_t, .inr (5, [.null, .ref ad13, .ref ad16, .ref ad19, .null])), (ad13, .inl (tI, 7, .inl (fun _ => 0))), (ad16, .inl (tI, 16, .inl (fun _ => 0))), (ad19, .inl (tI, 16, .inl (fun _ => 0)))] := hD
  refine lv_aload_n hx hb d_Trees_init_28 rfl (lv_at hl 0 rfl) ?_
  refine lv_bipush (v := 16) hx hb d_Trees_init_29 (by decide) ?_
  obtain ⟨nB23, sB24, hf, ha9, hb9⟩ := addc_of hf
  have hcc : 0 + 1 + 1 + 1 + 1 ≤ nc ∧ 0 + 7 + 16 + 16 + 16 ≤ ns := ⟨by omega, by omega⟩
  have hc : 0 + 1 + 1 + 1 + 1 + nB23 ≤ nc ∧ 0 + 7 + 16 + 16 + 16 + sB24 ≤ ns := ⟨by omega, by omega⟩
  refine va_newa (atype := .int) (ty := .int) (N' := 16) (a0 := (16, .inl (fun _ => 0))) hx hb (hts _ q_0) rfl hK hP hD hS hA (fun _ => rfl) (by decide) (by decide) (by decide) hcc.1 hcc.2 d_Trees_init_31 (fun ad22 cA9 H hK9 hP hD hS => ?_)
  obtain rfl := ty_one (i := 0) (j := 4) hK hK9 rfl rfl (by intro _ h9; cases h9)
  have hP : va_P (dC, dI) classes [(a_t, .inr (5, [.null, .ref ad13, .ref ad16, .ref ad19, .null])), (ad13, .inl (tI, 7, .inl (fun _ => 0))), (ad16, .inl (tI, 16, .inl (fun _ => 0))), (ad19, .inl (tI, 16, .inl (fun _ => 0))), (ad22, .inl (tI, 16, .inl (fun _ => 0)))] H := hP
  have hD : va_D A [(a_t, .inr (5, [.null, .ref ad13, .ref ad16, .ref ad19, .null])), (ad13, .inl (tI, 7, .inl (fun _ => 0))), (ad16, .inl (tI, 16, .inl (fun _ => 0))), (ad19, .inl (tI, 16, .inl (fun _ => 0))), (ad22, .inl (tI, 16, .inl (fun _ => 0)))] := hD
  refine va_put (D := (dC, dI)) (ci := 5) (v := .ref ad22) (ty := t_Trees 4) (C := R_Trees) (T := F_Trees) (N := 5) hx hb hts i_Trees t_Trees t_Trees_ok n_Trees hown hK hP hD hS 0 rfl rfl 4 (by decide) (hts _ q_105) (fun _ h9 => h9) rfl (t_Trees_ok 4 (by decide)) rfl rfl (Nat.le_of_ble_eq_true rfl) d_Trees_init_33 (fun H locs hP hD hS => ?_)
  have hP : va_P (dC, dI) classes [(a_t, .inr (5, [.null, .ref ad13, .ref ad16, .ref ad19, .ref ad22])), (ad13, .inl (tI, 7, .inl (fun _ => 0))), (ad16, .inl (tI, 16, .inl (fun _ => 0))), (ad19, .inl (tI, 16, .inl (fun _ => 0))), (ad22, .inl (tI, 16, .inl (fun _ => 0)))] H := hP
  have hD : va_D A [(a_t, .inr (5, [.null, .ref ad13, .ref ad16, .ref ad19, .ref ad22])), (ad13, .inl (tI, 7, .inl (fun _ => 0))), (ad16, .inl (tI, 16, .inl (fun _ => 0))), (ad19, .inl (tI, 16, .inl (fun _ => 0))), (ad22, .inl (tI, 16, .inl (fun _ => 0)))] := hD
  refine lv_aload_n hx hb d_Trees_init_36 rfl (lv_at hl 0 rfl) ?_
  refine lv_aload_n hx hb d_Trees_init_37 rfl (lv_at hl 1 rfl) ?_
  refine va_putF (D := (dC, dI)) (ci := 5) (v := .ref o_p0) (ty := t_Trees 0) (C := R_Trees) (T := F_Trees) (N := 5) hx hb hts i_Trees t_Trees t_Trees_ok n_Trees hown hK hP hD hS 0 rfl rfl 0 (by decide) (hts _ q_106) (fun _ h9 => h9) rfl hin rfl (t_Trees_ok 0 (by decide)) rfl rfl (Nat.le_of_ble_eq_true rfl) d_Trees_init_38 (fun H locs hP hD hS => ?_)
  have hP : va_P (dC, dI) classes [(a_t, .inr (5, [.ref o_p0, .ref ad13, .ref ad16, .ref ad19, .ref ad22])), (ad13, .inl (tI, 7, .inl (fun _ => 0))), (ad16, .inl (tI, 16, .inl (fun _ => 0))), (ad19, .inl (tI, 16, .inl (fun _ => 0))), (ad22, .inl (tI, 16, .inl (fun _ => 0)))] H := hP
  have hD : va_D A [(a_t, .inr (5, [.ref o_p0, .ref ad13, .ref ad16, .ref ad19, .ref ad22])), (ad13, .inl (tI, 7, .inl (fun _ => 0))), (ad16, .inl (tI, 16, .inl (fun _ => 0))), (ad19, .inl (tI, 16, .inl (fun _ => 0))), (ad22, .inl (tI, 16, .inl (fun _ => 0)))] := hD
  have hf := Option.some.inj hf
  have hf : _ = u := congrArg (fun z => z.2.2) hf
  subst u
  exact ret _ _ _ _ _ _ (ad13, ad16, ad19, ad22) d_Trees_init_41 hP hD hS (Nat.le_trans (Nat.le_add_right _ _) hc.1) (Nat.le_trans (Nat.le_add_right _ _) hc.2)
noncomputable def g_Trees_forget_56 (F : Nat) (rec56 : Nat → (Nat → Int32) → Nat → (Nat → Int32) → Nat → (Nat → Int32) → Int32 → Int32 → Option (Nat × Nat × Nat × (Nat → Int32) × Nat × (Nat → Int32) × Nat × (Nat → Int32))) (t_bands_nodes : Int32) (t_number_N : Nat) (t_number_F : Nat → Int32) (t_low_N : Nat) (t_low_F : Nat → Int32) (t_known_N : Nat) (t_known_F : Nat → Int32) (v2 : Int32) (v3 : Int32) : Option (Nat × Nat × Nat × (Nat → Int32) × Nat × (Nat → Int32) × Nat × (Nat → Int32)) :=
if t_bands_nodes ≤ v3 then (
some (0, 0, t_number_N, t_number_F, t_low_N, t_low_F, t_known_N, t_known_F)) else (
asm (vp_in v3 t_number_N) (asm (vp_in v3 t_low_N) (asm (vp_in v3 t_known_N) (letb (v3 + 1) fun x14 =>
rec56 t_number_N (upd t_number_F v3.toNatClampNeg v2) t_low_N (upd t_low_F v3.toNatClampNeg 0) t_known_N (upd t_known_F v3.toNatClampNeg 0) v2 x14))))
noncomputable def f_Trees_forget_56 (F : Nat) (t_bands_nodes : Int32) : Nat → Nat → (Nat → Int32) → Nat → (Nat → Int32) → Nat → (Nat → Int32) → Int32 → Int32 → Option (Nat × Nat × Nat × (Nat → Int32) × Nat × (Nat → Int32) × Nat × (Nat → Int32))
  | 0 => fun _ _ _ _ _ _ _ _ => none
  | n + 1 => fun t_number_N t_number_F t_low_N t_low_F t_known_N t_known_F v2 v3 => g_Trees_forget_56 F (f_Trees_forget_56 F t_bands_nodes n) t_bands_nodes t_number_N t_number_F t_low_N t_low_F t_known_N t_known_F v2 v3
noncomputable def f_Trees_forget (F : Nat) (t_bands_nodes : Int32) (t_number_N : Nat) (t_number_F : Nat → Int32) (t_low_N : Nat) (t_low_F : Nat → Int32) (t_known_N : Nat) (t_known_F : Nat → Int32) (p0 : Int32) (p1 : Int32) : Option (Nat × Nat × Nat × (Nat → Int32) × Nat × (Nat → Int32) × Nat × (Nat → Int32)) :=
bd (f_PH_withRoom F t_number_N t_number_F t_bands_nodes) fun u15 =>
addc u15.1 u15.2.1 (
bd (f_PH_withRoom F t_low_N t_low_F t_bands_nodes) fun u19 =>
addc u19.1 u19.2.1 (
bd (f_PH_withRoom F t_known_N t_known_F t_bands_nodes) fun u23 =>
addc u23.1 u23.2.1 (
f_Trees_forget_56 F t_bands_nodes F u15.2.2.1 u15.2.2.2 u19.2.2.1 u19.2.2.2 u23.2.2.1 u23.2.2.2 p1 p0)))
set_option maxHeartbeats 4000000 in
set_option maxRecDepth 100000 in
theorem c_Trees_forget (l : Launch) (dC : Nat → ClassId) (dI : Nat → Nat → Nat) (tI tB tL tZ : ClassId) (a_t : Nat) (a_t_bands : Nat) (a_t_number : Nat) (a_t_low : Nat) (a_t_known : Nat) (o_t_path : Nat) (o_t_bands_base : Nat) (o_t_bands_leaf : Nat) (o_t_bands_above : Nat) (sz : Nat) (t_bands_count : Int32) (t_bands_nodes : Int32) (t_bands_style : Int32) (t_number_N : Nat) (t_number_F : Nat → Int32) (t_low_N : Nat) (t_low_F : Nat → Int32) (t_known_N : Nat) (t_known_F : Nat → Int32) (p0 : Int32) (p1 : Int32) (F : Nat) (nc ns : Nat) (u : Nat × (Nat → Int32) × Nat × (Nat → Int32) × Nat × (Nat → Int32)) (hf : f_Trees_forget F t_bands_nodes t_number_N t_number_F t_low_N t_low_F t_known_N t_known_F p0 p1 = some (nc, ns, u)) : CTv l y_Trees_forget b_Trees_forget 4 3 83 (dC, dI) classes [(tI, .int), (tB, .byte), (tL, .long), (tZ, .boolean)] [.ref a_t, .int p0, .int p1] [(a_t, .inr (5, [.ref a_t_bands, .ref o_t_path, .ref a_t_number, .ref a_t_low, .ref a_t_known])), (a_t_bands, .inr (0, [.ref o_t_bands_base, .ref o_t_bands_leaf, .ref o_t_bands_above, .int t_bands_count, .int t_bands_nodes, .int t_bands_style])), (a_t_number, .inl (tI, t_number_N, .inl t_number_F)), (a_t_low, .inl (tI, t_low_N, .inl t_low_F)), (a_t_known, .inl (tI, t_known_N, .inl t_known_F))] sz (fun q : Nat × Nat × Nat => [(a_t, .inr (5, [.ref a_t_bands, .ref o_t_path, .ref q.1, .ref q.2.1, .ref q.2.2])), (a_t_bands, .inr (0, [.ref o_t_bands_base, .ref o_t_bands_leaf, .ref o_t_bands_above, .int t_bands_count, .int t_bands_nodes, .int t_bands_style])), (q.1, .inl (tI, u.1, .inl u.2.1)), (q.2.1, .inl (tI, u.2.2.1, .inl u.2.2.2.1)), (q.2.2, .inl (tI, u.2.2.2.2.1, .inl u.2.2.2.2.2))]) nc ns := by
  refine mk_v (by decide) (Nat.le_of_ble_eq_true rfl) ?_
  intro p e s m args below meth c ls A Q hx hb hml hts hown hin hK hN hP hD hA hl ret
  obtain ⟨H, hH⟩ : ∃ H : Heap, H = s.heap := ⟨_, rfl⟩
  have hS : va_S A s.heap H [] := by rw [hH]; exact va_S.rf
  rw [← hH] at hP ⊢
  have hl : lv_has ls 4 [(0, .ref a_t), (1, .int p0), (2, .int p1)] := hl
  have k_56 : ∀ n : Nat, ∀ (t_number_N : Nat) (t_number_F : Nat → Int32) (t_low_N : Nat) (t_low_F : Nat → Int32) (t_known_N : Nat) (t_known_F : Nat → Int32) (v2 : Int32) (v3 : Int32) (a_t_number : Nat) (a_t_low : Nat) (a_t_known : Nat) (H : Heap) (locs : List Loc) (cells slots nB sB : Nat) (ls : Array Slot), va_P (dC, dI) classes [(a_t, .inr (5, [.ref a_t_bands, .ref o_t_path, .ref a_t_number, .ref a_t_low, .ref a_t_known])), (a_t_bands, .inr (0, [.ref o_t_bands_base, .ref o_t_bands_leaf, .ref o_t_bands_above, .int t_bands_count, .int t_bands_nodes, .int t_bands_style])), (a_t_number, .inl (tI, t_number_N, .inl t_number_F)), (a_t_low, .inl (tI, t_low_N, .inl t_low_F)), (a_t_known, .inl (tI, t_known_N, .inl t_known_F))] H → va_D A [(a_t, .inr (5, [.ref a_t_bands, .ref o_t_path, .ref a_t_number, .ref a_t_low, .ref a_t_known])), (a_t_bands, .inr (0, [.ref o_t_bands_base, .ref o_t_bands_leaf, .ref o_t_bands_above, .int t_bands_count, .int t_bands_nodes, .int t_bands_style])), (a_t_number, .inl (tI, t_number_N, .inl t_number_F)), (a_t_low, .inl (tI, t_low_N, .inl t_low_F)), (a_t_known, .inl (tI, t_known_N, .inl t_known_F))] → va_S A s.heap H locs → lv_has ls 4 [(0, .ref a_t), (2, .int v2), (3, .int v3)] → (cells + nB ≤ nc ∧ slots + sB ≤ ns) → f_Trees_forget_56 F t_bands_nodes n t_number_N t_number_F t_low_N t_low_F t_known_N t_known_F v2 v3 = some (nB, sB, u) → W p l e ({ frames := 3, cells := nc, slots := ns, locals := 83 } : Room) s m args below meth c H locs cells slots Q (F0 m 56 ls []) := by
    intro n
    induction n with
    | zero => intro t_number_N t_number_F t_low_N t_low_F t_known_N t_known_F v2 v3 a_t_number a_t_low a_t_known H locs cells slots nB sB ls hP hD hS hl hc hf; exact absurd hf (by intro h9; cases h9)
    | succ n h56 =>
      intro t_number_N t_number_F t_low_N t_low_F t_known_N t_known_F v2 v3 a_t_number a_t_low a_t_known H locs cells slots nB sB ls hP hD hS hl hc hf
      have hf : g_Trees_forget_56 F (f_Trees_forget_56 F t_bands_nodes n) t_bands_nodes t_number_N t_number_F t_low_N t_low_F t_known_N t_known_F v2 v3 = some (nB, sB, u) := hf
      generalize (f_Trees_forget_56 F t_bands_nodes n) = rec56 at hf h56
      unfold g_Trees_forget_56 at hf
      refine lv_iload_n hx hb d_Trees_forget_56 rfl (lv_at hl 2 rfl) ?_
      refine lv_aload_n hx hb d_Trees_forget_57 rfl (lv_at hl 0 rfl) ?_
      refine va_get (D := (dC, dI)) (ci := 5) (v := .ref a_t_bands) (C := R_Trees) (T := F_Trees) (N := 5) hx hb hts i_Trees hown hK hP 0 rfl rfl 0 (by decide) (hts _ q_106) (fun _ h9 => h9) rfl d_Trees_forget_58 ?_
      refine va_getN (D := (dC, dI)) (ci := 0) (v := .int t_bands_nodes) (C := R_Bands) (T := F_Bands) (N := 6) hx hb hts i_Bands hown hK hP 1 rfl rfl 4 (by decide) (va_Nw.use rfl (hN _ q_107 rfl)) (fun _ h9 => h9) rfl d_Trees_forget_61 ?_
      refine lv_icmp_ge (tgt := 94) hx hb d_Trees_forget_64 (by decide) (fun c0 => ?_) (fun c0 => ?_)
      · have hf := ite_t c0 hf
        have hf := Option.some.inj hf
        have hf : _ = u := congrArg (fun z => z.2.2) hf
        subst u
        exact ret _ _ _ _ _ _ (a_t_number, a_t_low, a_t_known) d_Trees_forget_94 hP hD hS (Nat.le_trans (Nat.le_add_right _ _) hc.1) (Nat.le_trans (Nat.le_add_right _ _) hc.2)
      · have hf := ite_f c0 hf
        refine lv_aload_n hx hb d_Trees_forget_67 rfl (lv_at hl 0 rfl) ?_
        refine va_get (D := (dC, dI)) (ci := 5) (v := .ref a_t_number) (C := R_Trees) (T := F_Trees) (N := 5) hx hb hts i_Trees hown hK hP 0 rfl rfl 2 (by decide) (hts _ q_103) (fun _ h9 => h9) rfl d_Trees_forget_68 ?_
        refine lv_iload_n hx hb d_Trees_forget_71 rfl (lv_at hl 2 rfl) ?_
        refine lv_iload_n hx hb d_Trees_forget_72 rfl (lv_at hl 1 rfl) ?_
        obtain ⟨hin9, hf⟩ := asm_of hf
        refine va_iast hx hb hK hP hD hS 2 0 rfl rfl hin9 d_Trees_forget_73 (fun H locs hP hD hS => ?_)
        have hP : va_P (dC, dI) classes [(a_t, .inr (5, [.ref a_t_bands, .ref o_t_path, .ref a_t_number, .ref a_t_low, .ref a_t_known])), (a_t_bands, .inr (0, [.ref o_t_bands_base, .ref o_t_bands_leaf, .ref o_t_bands_above, .int t_bands_count, .int t_bands_nodes, .int t_bands_style])), (a_t_number, .inl (tI, t_number_N, .inl (upd t_number_F v3.toNatClampNeg v2))), (a_t_low, .inl (tI, t_low_N, .inl t_low_F)), (a_t_known, .inl (tI, t_known_N, .inl t_known_F))] H := hP
        have hD : va_D A [(a_t, .inr (5, [.ref a_t_bands, .ref o_t_path, .ref a_t_number, .ref a_t_low, .ref a_t_known])), (a_t_bands, .inr (0, [.ref o_t_bands_base, .ref o_t_bands_leaf, .ref o_t_bands_above, .int t_bands_count, .int t_bands_nodes, .int t_bands_style])), (a_t_number, .inl (tI, t_number_N, .inl (upd t_number_F v3.toNatClampNeg v2))), (a_t_low, .inl (tI, t_low_N, .inl t_low_F)), (a_t_known, .inl (tI, t_known_N, .inl t_known_F))] := hD
        refine lv_aload_n hx hb d_Trees_forget_74 rfl (lv_at hl 0 rfl) ?_
        refine va_get (D := (dC, dI)) (ci := 5) (v := .ref a_t_low) (C := R_Trees) (T := F_Trees) (N := 5) hx hb hts i_Trees hown hK hP 0 rfl rfl 3 (by decide) (hts _ q_104) (fun _ h9 => h9) rfl d_Trees_forget_75 ?_
        refine lv_iload_n hx hb d_Trees_forget_78 rfl (lv_at hl 2 rfl) ?_
        refine lv_iconst (v := 0) hx hb d_Trees_forget_79 (by decide) ?_
        obtain ⟨hin9, hf⟩ := asm_of hf
        refine va_iast hx hb hK hP hD hS 3 0 rfl rfl hin9 d_Trees_forget_80 (fun H locs hP hD hS => ?_)
        have hP : va_P (dC, dI) classes [(a_t, .inr (5, [.ref a_t_bands, .ref o_t_path, .ref a_t_number, .ref a_t_low, .ref a_t_known])), (a_t_bands, .inr (0, [.ref o_t_bands_base, .ref o_t_bands_leaf, .ref o_t_bands_above, .int t_bands_count, .int t_bands_nodes, .int t_bands_style])), (a_t_number, .inl (tI, t_number_N, .inl (upd t_number_F v3.toNatClampNeg v2))), (a_t_low, .inl (tI, t_low_N, .inl (upd t_low_F v3.toNatClampNeg 0))), (a_t_known, .inl (tI, t_known_N, .inl t_known_F))] H := hP
        have hD : va_D A [(a_t, .inr (5, [.ref a_t_bands, .ref o_t_path, .ref a_t_number, .ref a_t_low, .ref a_t_known])), (a_t_bands, .inr (0, [.ref o_t_bands_base, .ref o_t_bands_leaf, .ref o_t_bands_above, .int t_bands_count, .int t_bands_nodes, .int t_bands_style])), (a_t_number, .inl (tI, t_number_N, .inl (upd t_number_F v3.toNatClampNeg v2))), (a_t_low, .inl (tI, t_low_N, .inl (upd t_low_F v3.toNatClampNeg 0))), (a_t_known, .inl (tI, t_known_N, .inl t_known_F))] := hD
        refine lv_aload_n hx hb d_Trees_forget_81 rfl (lv_at hl 0 rfl) ?_
        refine va_get (D := (dC, dI)) (ci := 5) (v := .ref a_t_known) (C := R_Trees) (T := F_Trees) (N := 5) hx hb hts i_Trees hown hK hP 0 rfl rfl 4 (by decide) (hts _ q_105) (fun _ h9 => h9) rfl d_Trees_forget_82 ?_
        refine lv_iload_n hx hb d_Trees_forget_85 rfl (lv_at hl 2 rfl) ?_
        refine lv_iconst (v := 0) hx hb d_Trees_forget_86 (by decide) ?_
        obtain ⟨hin9, hf⟩ := asm_of hf
        refine va_iast hx hb hK hP hD hS 4 0 rfl rfl hin9 d_Trees_forget_87 (fun H locs hP hD hS => ?_)
        have hP : va_P (dC, dI) classes [(a_t, .inr (5, [.ref a_t_bands, .ref o_t_path, .ref a_t_number, .ref a_t_low, .ref a_t_known])), (a_t_bands, .inr (0, [.ref o_t_bands_base, .ref o_t_bands_leaf, .ref o_t_bands_above, .int t_bands_count, .int t_bands_nodes, .int t_bands_style])), (a_t_number, .inl (tI, t_number_N, .inl (upd t_number_F v3.toNatClampNeg v2))), (a_t_low, .inl (tI, t_low_N, .inl (upd t_low_F v3.toNatClampNeg 0))), (a_t_known, .inl (tI, t_known_N, .inl (upd t_known_F v3.toNatClampNeg 0)))] H := hP
        have hD : va_D A [(a_t, .inr (5, [.ref a_t_bands, .ref o_t_path, .ref a_t_number, .ref a_t_low, .ref a_t_known])), (a_t_bands, .inr (0, [.ref o_t_bands_base, .ref o_t_bands_leaf, .ref o_t_bands_above, .int t_bands_count, .int t_bands_nodes, .int t_bands_style])), (a_t_number, .inl (tI, t_number_N, .inl (upd t_number_F v3.toNatClampNeg v2))), (a_t_low, .inl (tI, t_low_N, .inl (upd t_low_F v3.toNatClampNeg 0))), (a_t_known, .inl (tI, t_known_N, .inl (upd t_known_F v3.toNatClampNeg 0)))] := hD
        obtain ⟨x14, ex14⟩ : ∃ y : Int32, y = v3 + 1 := ⟨_, rfl⟩
        have hf := letb_of hf ex14
        refine lv_iinc (v := x14) (lv' := [(3, .int x14), (0, .ref a_t), (2, .int v2)]) hx hb d_Trees_forget_88 hl (k := 2) rfl (by rw [ex14]; rfl) (by decide) rfl (fun ls hl => ?_)
        refine lv_goto (tgt := 56) hx hb d_Trees_forget_91 (by decide) ?_
        exact h56 t_number_N (upd t_number_F v3.toNatClampNeg v2) t_low_N (upd t_low_F v3.toNatClampNeg 0) t_known_N (upd t_known_F v3.toNatClampNeg 0) v2 x14 a_t_number a_t_low a_t_known _ _ _ _ _ _ ls hP hD hS (lv_sub hl [1, 2, 0] rfl) hc hf
  have hc : 0 + nc ≤ nc ∧ 0 + ns ≤ ns := ⟨by omega, by omega⟩
  unfold f_Trees_forget at hf
  refine lv_aload_n hx hb d_Trees_forget_0 rfl (lv_at hl 0 rfl) ?_
  refine lv_aload_n hx hb d_Trees_forget_1 rfl (lv_at hl 0 rfl) ?_
  refine va_get (D := (dC, dI)) (ci := 5) (v := .ref a_t_number) (C := R_Trees) (T := F_Trees) (N := 5) hx hb hts i_Trees hown hK hP 0 rfl rfl 2 (by decide) (hts _ q_103) (fun _ h9 => h9) rfl d_Trees_forget_2 ?_
  refine lv_aload_n hx hb d_Trees_forget_5 rfl (lv_at hl 0 rfl) ?_
  refine va_get (D := (dC, dI)) (ci := 5) (v := .ref a_t_bands) (C := R_Trees) (T := F_Trees) (N := 5) hx hb hts i_Trees hown hK hP 0 rfl rfl 0 (by decide) (hts _ q_106) (fun _ h9 => h9) rfl d_Trees_forget_6 ?_
  refine va_getN (D := (dC, dI)) (ci := 0) (v := .int t_bands_nodes) (C := R_Bands) (T := F_Bands) (N := 6) hx hb hts i_Bands hown hK hP 1 rfl rfl 4 (by decide) (va_Nw.use rfl (hN _ q_107 rfl)) (fun _ h9 => h9) rfl d_Trees_forget_9 ?_
  obtain ⟨u15, hu, hf⟩ := bd_of hf
  obtain ⟨nB16, sB17, hf, ha9, hb9⟩ := addc_of hf
  have hcc : 0 + u15.1 ≤ nc ∧ 0 + u15.2.1 ≤ ns := ⟨by omega, by omega⟩
  have hc : 0 + u15.1 + nB16 ≤ nc ∧ 0 + u15.2.1 + sB17 ≤ ns := ⟨by omega, by omega⟩
  refine jn_r (wc := [(a_t_number, .inl (tI, t_number_N, .inl t_number_F))]) (wr := [(a_t, .inr (5, [.ref a_t_bands, .ref o_t_path, .ref a_t_number, .ref a_t_low, .ref a_t_known])), (a_t_bands, .inr (0, [.ref o_t_bands_base, .ref o_t_bands_leaf, .ref o_t_bands_above, .int t_bands_count, .int t_bands_nodes, .int t_bands_style])), (a_t_low, .inl (tI, t_low_N, .inl t_low_F)), (a_t_known, .inl (tI, t_known_N, .inl t_known_F))]) (va_runSN (As := [.ref a_t_number, .int t_bands_nodes]) (rest := [.ref a_t]) ⟨hx, hb, hml, hown, hts⟩ (c_PH_withRoom l dC dI tI tB tL tZ a_t_number H.size t_number_N t_number_F t_bands_nodes F u15.1 u15.2.1 u15.2.2 hu) ⟨cn_of hts hN q_108 q_18 q_85 hd_PH_withRoom ⟨Nat.le_of_ble_eq_true rfl, Nat.le_of_ble_eq_true rfl⟩, hts _ q_87, trivial⟩ (pr_S hK hN (hP.sub [2] rfl) (hD.sub [2] (by decide) rfl)) rfl rfl hl.1 rfl (lv_room (Nat.le_of_ble_eq_true rfl)) d_Trees_forget_12 hcc) hP hD hS hA [2] [0, 1, 3, 4] rfl rfl (by decide) (by decide) (fun _ ad18 H locs hP hD hS => ?_)
  have hP : va_P (dC, dI) classes [(a_t, .inr (5, [.ref a_t_bands, .ref o_t_path, .ref a_t_number, .ref a_t_low, .ref a_t_known])), (a_t_bands, .inr (0, [.ref o_t_bands_base, .ref o_t_bands_leaf, .ref o_t_bands_above, .int t_bands_count, .int t_bands_nodes, .int t_bands_style])), (a_t_low, .inl (tI, t_low_N, .inl t_low_F)), (a_t_known, .inl (tI, t_known_N, .inl t_known_F)), (ad18, .inl (tI, u15.2.2.1, .inl u15.2.2.2))] H := hP
  have hD : va_D A [(a_t, .inr (5, [.ref a_t_bands, .ref o_t_path, .ref a_t_number, .ref a_t_low, .ref a_t_known])), (a_t_bands, .inr (0, [.ref o_t_bands_base, .ref o_t_bands_leaf, .ref o_t_bands_above, .int t_bands_count, .int t_bands_nodes, .int t_bands_style])), (a_t_low, .inl (tI, t_low_N, .inl t_low_F)), (a_t_known, .inl (tI, t_known_N, .inl t_known_F)), (ad18, .inl (tI, u15.2.2.1, .inl u15.2.2.2))] := hD
  refine va_put (D := (dC, dI)) (ci := 5) (v := .ref ad18) (ty := t_Trees 2) (C := R_Trees) (T := F_Trees) (N := 5) hx hb hts i_Trees t_Trees t_Trees_ok n_Trees hown hK hP hD hS 0 rfl rfl 2 (by decide) (hts _ q_103) (fun _ h9 => h9) rfl (t_Trees_ok 2 (by decide)) rfl rfl (Nat.le_of_ble_eq_true rfl) d_Trees_forget_15 (fun H locs hP hD hS => ?_)
  have hP : va_P (dC, dI) classes [(a_t, .inr (5, [.ref a_t_bands, .ref o_t_path, .ref ad18, .ref a_t_low, .ref a_t_known])), (a_t_bands, .inr (0, [.ref o_t_bands_base, .ref o_t_bands_leaf, .ref o_t_bands_above, .int t_bands_count, .int t_bands_nodes, .int t_bands_style])), (a_t_low, .inl (tI, t_low_N, .inl t_low_F)), (a_t_known, .inl (tI, t_known_N, .inl t_known_F)), (ad18, .inl (tI, u15.2.2.1, .inl u15.2.2.2))] H := hP
  have hD : va_D A [(a_t, .inr (5, [.ref a_t_bands, .ref o_t_path, .ref ad18, .ref a_t_low, .ref a_t_known])), (a_t_bands, .inr (0, [.ref o_t_bands_base, .ref o_t_bands_leaf, .ref o_t_bands_above, .int t_bands_count, .int t_bands_nodes, .int t_bands_style])), (a_t_low, .inl (tI, t_low_N, .inl t_low_F)), (a_t_known, .inl (tI, t_known_N, .inl t_known_F)), (ad18, .inl (tI, u15.2.2.1, .inl u15.2.2.2))] := hD
  refine lv_aload_n hx hb d_Trees_forget_18 rfl (lv_at hl 0 rfl) ?_
  refine lv_aload_n hx hb d_Trees_forget_19 rfl (lv_at hl 0 rfl) ?_
  refine va_get (D := (dC, dI)) (ci := 5) (v := .ref a_t_low) (C := R_Trees) (T := F_Trees) (N := 5) hx hb hts i_Trees hown hK hP 0 rfl rfl 3 (by decide) (hts _ q_104) (fun _ h9 => h9) rfl d_Trees_forget_20 ?_
  refine lv_aload_n hx hb d_Trees_forget_23 rfl (lv_at hl 0 rfl) ?_
  refine va_get (D := (dC, dI)) (ci := 5) (v := .ref a_t_bands) (C := R_Trees) (T := F_Trees) (N := 5) hx hb hts i_Trees hown hK hP 0 rfl rfl 0 (by decide) (hts _ q_106) (fun _ h9 => h9) rfl d_Trees_forget_24 ?_
  refine va_getN (D := (dC, dI)) (ci := 0) (v := .int t_bands_nodes) (C := R_Bands) (T := F_Bands) (N := 6) hx hb hts i_Bands hown hK hP 1 rfl rfl 4 (by decide) (va_Nw.use rfl (hN _ q_107 rfl)) (fun _ h9 => h9) rfl d_Trees_forget_27 ?_
  obtain ⟨u19, hu, hf⟩ := bd_of hf
  obtain ⟨nB20, sB21, hf, ha9, hb9⟩ := addc_of hf
  have hcc : 0 + u15.1 + u19.1 ≤ nc ∧ 0 + u15.2.1 + u19.2.1 ≤ ns := ⟨by omega, by omega⟩
  have hc : 0 + u15.1 + u19.1 + nB20 ≤ nc ∧ 0 + u15.2.1 + u19.2.1 + sB21 ≤ ns := ⟨by omega, by omega⟩
  refine jn_r (wc := [(a_t_low, .inl (tI, t_low_N, .inl t_low_F))]) (wr := [(a_t, .inr (5, [.ref a_t_bands, .ref o_t_path, .ref ad18, .ref a_t_low, .ref a_t_known])), (a_t_bands, .inr (0, [.ref o_t_bands_base, .ref o_t_bands_leaf, .ref o_t_bands_above, .int t_bands_count, .int t_bands_nodes, .int t_bands_style])), (a_t_known, .inl (tI, t_known_N, .inl t_known_F)), (ad18, .inl (tI, u15.2.2.1, .inl u15.2.2.2))]) (va_runSN (As := [.ref a_t_low, .int t_bands_nodes]) (rest := [.ref a_t]) ⟨hx, hb, hml, hown, hts⟩ (c_PH_withRoom l dC dI tI tB tL tZ a_t_low H.size t_low_N t_low_F t_bands_nodes F u19.1 u19.2.1 u19.2.2 hu) ⟨cn_of hts hN q_108 q_18 q_85 hd_PH_withRoom ⟨Nat.le_of_ble_eq_true rfl, Nat.le_of_ble_eq_true rfl⟩, hts _ q_87, trivial⟩ (pr_S hK hN (hP.sub [2] rfl) (hD.sub [2] (by decide) rfl)) rfl rfl hl.1 rfl (lv_room (Nat.le_of_ble_eq_true rfl)) d_Trees_forget_30 hcc) hP hD hS hA [2] [0, 1, 3, 4] rfl rfl (by decide) (by decide) (fun _ ad22 H locs hP hD hS => ?_)
  have hP : va_P (dC, dI) classes [(a_t, .inr (5, [.ref a_t_bands, .ref o_t_path, .ref ad18, .ref a_t_low, .ref a_t_known])), (a_t_bands, .inr (0, [.ref o_t_bands_base, .ref o_t_bands_leaf, .ref o_t_bands_above, .int t_bands_count, .int t_bands_nodes, .int t_bands_style])), (a_t_known, .inl (tI, t_known_N, .inl t_known_F)), (ad18, .inl (tI, u15.2.2.1, .inl u15.2.2.2)), (ad22, .inl (tI, u19.2.2.1, .inl u19.2.2.2))] H := hP
  have hD : va_D A [(a_t, .inr (5, [.ref a_t_bands, .ref o_t_path, .ref ad18, .ref a_t_low, .ref a_t_known])), (a_t_bands, .inr (0, [.ref o_t_bands_base, .ref o_t_bands_leaf, .ref o_t_bands_above, .int t_bands_count, .int t_bands_nodes, .int t_bands_style])), (a_t_known, .inl (tI, t_known_N, .inl t_known_F)), (ad18, .inl (tI, u15.2.2.1, .inl u15.2.2.2)), (ad22, .inl (tI, u19.2.2.1, .inl u19.2.2.2))] := hD
  refine va_put (D := (dC, dI)) (ci := 5) (v := .ref ad22) (ty := t_Trees 3) (C := R_Trees) (T := F_Trees) (N := 5) hx hb hts i_Trees t_Trees t_Trees_ok n_Trees hown hK hP hD hS 0 rfl rfl 3 (by decide) (hts _ q_104) (fun _ h9 => h9) rfl (t_Trees_ok 3 (by decide)) rfl rfl (Nat.le_of_ble_eq_true rfl) d_Trees_forget_33 (fun H locs hP hD hS => ?_)
  have hP : va_P (dC, dI) classes [(a_t, .inr (5, [.ref a_t_bands, .ref o_t_path, .ref ad18, .ref ad22, .ref a_t_known])), (a_t_bands, .inr (0, [.ref o_t_bands_base, .ref o_t_bands_leaf, .ref o_t_bands_above, .int t_bands_count, .int t_bands_nodes, .int t_bands_style])), (a_t_known, .inl (tI, t_known_N, .inl t_known_F)), (ad18, .inl (tI, u15.2.2.1, .inl u15.2.2.2)), (ad22, .inl (tI, u19.2.2.1, .inl u19.2.2.2))] H := hP
  have hD : va_D A [(a_t, .inr (5, [.ref a_t_bands, .ref o_t_path, .ref ad18, .ref ad22, .ref a_t_known])), (a_t_bands, .inr (0, [.ref o_t_bands_base, .ref o_t_bands_leaf, .ref o_t_bands_above, .int t_bands_count, .int t_bands_nodes, .int t_bands_style])), (a_t_known, .inl (tI, t_known_N, .inl t_known_F)), (ad18, .inl (tI, u15.2.2.1, .inl u15.2.2.2)), (ad22, .inl (tI, u19.2.2.1, .inl u19.2.2.2))] := hD
  refine lv_aload_n hx hb d_Trees_forget_36 rfl (lv_at hl 0 rfl) ?_
  refine lv_aload_n hx hb d_Trees_forget_37 rfl (lv_at hl 0 rfl) ?_
  refine va_get (D := (dC, dI)) (ci := 5) (v := .ref a_t_known) (C := R_Trees) (T := F_Trees) (N := 5) hx hb hts i_Trees hown hK hP 0 rfl rfl 4 (by decide) (hts _ q_105) (fun _ h9 => h9) rfl d_Trees_forget_38 ?_
  refine lv_aload_n hx hb d_Trees_forget_41 rfl (lv_at hl 0 rfl) ?_
  refine va_get (D := (dC, dI)) (ci := 5) (v := .ref a_t_bands) (C := R_Trees) (T := F_Trees) (N := 5) hx hb hts i_Trees hown hK hP 0 rfl rfl 0 (by decide) (hts _ q_106) (fun _ h9 => h9) rfl d_Trees_forget_42 ?_
  refine va_getN (D := (dC, dI)) (ci := 0) (v := .int t_bands_nodes) (C := R_Bands) (T := F_Bands) (N := 6) hx hb hts i_Bands hown hK hP 1 rfl rfl 4 (by decide) (va_Nw.use rfl (hN _ q_107 rfl)) (fun _ h9 => h9) rfl d_Trees_forget_45 ?_
  obtain ⟨u23, hu, hf⟩ := bd_of hf
  obtain ⟨nB24, sB25, hf, ha9, hb9⟩ := addc_of hf
  have hcc : 0 + u15.1 + u19.1 + u23.1 ≤ nc ∧ 0 + u15.2.1 + u19.2.1 + u23.2.1 ≤ ns := ⟨by omega, by omega⟩
  have hc : 0 + u15.1 + u19.1 + u23.1 + nB24 ≤ nc ∧ 0 + u15.2.1 + u19.2.1 + u23.2.1 + sB25 ≤ ns := ⟨by omega, by omega⟩
  refine jn_r (wc := [(a_t_known, .inl (tI, t_known_N, .inl t_known_F))]) (wr := [(a_t, .inr (5, [.ref a_t_bands, .ref o_t_path, .ref ad18, .ref ad22, .ref a_t_known])), (a_t_bands, .inr (0, [.ref o_t_bands_base, .ref o_t_bands_leaf, .ref o_t_bands_above, .int t_bands_count, .int t_bands_nodes, .int t_bands_style])), (ad18, .inl (tI, u15.2.2.1, .inl u15.2.2.2)), (ad22, .inl (tI, u19.2.2.1, .inl u19.2.2.2))]) (va_runSN (As := [.ref a_t_known, .int t_bands_nodes]) (rest := [.ref a_t]) ⟨hx, hb, hml, hown, hts⟩ (c_PH_withRoom l dC dI tI tB tL tZ a_t_known H.size t_known_N t_known_F t_bands_nodes F u23.1 u23.2.1 u23.2.2 hu) ⟨cn_of hts hN q_108 q_18 q_85 hd_PH_withRoom ⟨Nat.le_of_ble_eq_true rfl, Nat.le_of_ble_eq_true rfl⟩, hts _ q_87, trivial⟩ (pr_S hK hN (hP.sub [2] rfl) (hD.sub [2] (by decide) rfl)) rfl rfl hl.1 rfl (lv_room (Nat.le_of_ble_eq_true rfl)) d_Trees_forget_48 hcc) hP hD hS hA [2] [0, 1, 3, 4] rfl rfl (by decide) (by decide) (fun _ ad26 H locs hP hD hS => ?_)
  have hP : va_P (dC, dI) classes [(a_t, .inr (5, [.ref a_t_bands, .ref o_t_path, .ref ad18, .ref ad22, .ref a_t_known])), (a_t_bands, .inr (0, [.ref o_t_bands_base, .ref o_t_bands_leaf, .ref o_t_bands_above, .int t_bands_count, .int t_bands_nodes, .int t_bands_style])), (ad18, .inl (tI, u15.2.2.1, .inl u15.2.2.2)), (ad22, .inl (tI, u19.2.2.1, .inl u19.2.2.2)), (ad26, .inl (tI, u23.2.2.1, .inl u23.2.2.2))] H := hP
  have hD : va_D A [(a_t, .inr (5, [.ref a_t_bands, .ref o_t_path, .ref ad18, .ref ad22, .ref a_t_known])), (a_t_bands, .inr (0, [.ref o_t_bands_base, .ref o_t_bands_leaf, .ref o_t_bands_above, .int t_bands_count, .int t_bands_nodes, .int t_bands_style])), (ad18, .inl (tI, u15.2.2.1, .inl u15.2.2.2)), (ad22, .inl (tI, u19.2.2.1, .inl u19.2.2.2)), (ad26, .inl (tI, u23.2.2.1, .inl u23.2.2.2))] := hD
  refine va_put (D := (dC, dI)) (ci := 5) (v := .ref ad26) (ty := t_Trees 4) (C := R_Trees) (T := F_Trees) (N := 5) hx hb hts i_Trees t_Trees t_Trees_ok n_Trees hown hK hP hD hS 0 rfl rfl 4 (by decide) (hts _ q_105) (fun _ h9 => h9) rfl (t_Trees_ok 4 (by decide)) rfl rfl (Nat.le_of_ble_eq_true rfl) d_Trees_forget_51 (fun H locs hP hD hS => ?_)
  have hP : va_P (dC, dI) classes [(a_t, .inr (5, [.ref a_t_bands, .ref o_t_path, .ref ad18, .ref ad22, .ref ad26])), (a_t_bands, .inr (0, [.ref o_t_bands_base, .ref o_t_bands_leaf, .ref o_t_bands_above, .int t_bands_count, .int t_bands_nodes, .int t_bands_style])), (ad18, .inl (tI, u15.2.2.1, .inl u15.2.2.2)), (ad22, .inl (tI, u19.2.2.1, .inl u19.2.2.2)), (ad26, .inl (tI, u23.2.2.1, .inl u23.2.2.2))] H := hP
  have hD : va_D A [(a_t, .inr (5, [.ref a_t_bands, .ref o_t_path, .ref ad18, .ref ad22, .ref ad26])), (a_t_bands, .inr (0, [.ref o_t_bands_base, .ref o_t_bands_leaf, .ref o_t_bands_above, .int t_bands_count, .int t_bands_nodes, .int t_bands_style])), (ad18, .inl (tI, u15.2.2.1, .inl u15.2.2.2)), (ad22, .inl (tI, u19.2.2.1, .inl u19.2.2.2)), (ad26, .inl (tI, u23.2.2.1, .inl u23.2.2.2))] := hD
  refine lv_iload_n hx hb d_Trees_forget_54 rfl (lv_at hl 1 rfl) ?_
  refine lv_istore_n (lv' := [(3, .int p0), (0, .ref a_t), (1, .int p0), (2, .int p1)]) hx hb d_Trees_forget_55 rfl hl (by decide) rfl (fun ls hl => ?_)
  exact k_56 F u15.2.2.1 u15.2.2.2 u19.2.2.1 u19.2.2.2 u23.2.2.1 u23.2.2.2 p1 p0 ad18 ad22 ad26 _ _ _ _ _ _ ls hP hD hS (lv_sub hl [1, 3, 0] rfl) hc hf
noncomputable def g_Trees_settle_98 (F : Nat) (rec51 : (Nat → Int32) → Int32 → Option ((Nat → Int32))) (t_number_F : Nat → Int32) (v1 : Int32) : Option ((Nat → Int32)) :=
letb (v1 + 1) fun x9 =>
rec51 t_number_F x9
noncomputable def g_Trees_settle_51 (F : Nat) (rec51 : (Nat → Int32) → Int32 → Option ((Nat → Int32))) (t_bands_nodes : Int32) (t_bands_above_N : Nat) (t_bands_above_F : Nat → Int32) (t_number_N : Nat) (t_number_F : Nat → Int32) (v1 : Int32) : Option ((Nat → Int32)) :=
if t_bands_nodes ≤ v1 then (
some t_number_F) else (
asm (vp_in v1 t_bands_above_N) (letb (t_bands_above_F v1.toNatClampNeg) fun x10 =>
if x10 = (-1) then (
g_Trees_settle_98 F rec51 t_number_F v1) else (
asm (vp_in x10 t_number_N) (letb (t_number_F x10.toNatClampNeg) fun x11 =>
asm (vp_in v1 t_number_N) (letb (t_number_F v1.toNatClampNeg) fun x12 =>
letb (if x12 < x11 then x12 else x11) fun x13 =>
asm (vp_in x10 t_number_N) (g_Trees_settle_98 F rec51 (upd t_number_F x10.toNatClampNeg x13) v1))))))
noncomputable def f_Trees_settle_51 (F : Nat) (t_bands_nodes : Int32) (t_bands_above_N : Nat) (t_bands_above_F : Nat → Int32) (t_number_N : Nat) : Nat → (Nat → Int32) → Int32 → Option ((Nat → Int32))
  | 0 => fun _ _ => none
  | n + 1 => fun t_number_F v1 => g_Trees_settle_51 F (f_Trees_settle_51 F t_bands_nodes t_bands_above_N t_bands_above_F t_number_N n) t_bands_nodes t_bands_above_N t_bands_above_F t_number_N t_number_F v1
noncomputable def g_Trees_settle_43 (F : Nat) (rec2 : (Nat → Int32) → Int32 → Option ((Nat → Int32))) (t_number_F : Nat → Int32) (v1 : Int32) : Option ((Nat → Int32)) :=
letb (v1 + 1) fun x14 =>
rec2 t_number_F x14
noncomputable def g_Trees_settle_2 (F : Nat) (rec2 : (Nat → Int32) → Int32 → Option ((Nat → Int32))) (t_bands_nodes : Int32) (t_bands_above_N : Nat) (t_bands_above_F : Nat → Int32) (t_number_N : Nat) (t_number_F : Nat → Int32) (v1 : Int32) : Option ((Nat → Int32)) :=
if t_bands_nodes ≤ v1 then (
f_Trees_settle_51 F t_bands_nodes t_bands_above_N t_bands_above_F t_number_N F t_number_F 0) else (
asm (vp_in v1 t_bands_above_N) (letb (t_bands_above_F v1.toNatClampNeg) fun x15 =>
if x15 = (-1) then (
g_Trees_settle_43 F rec2 t_number_F v1) else (
asm (vp_in v1 t_bands_above_N) (letb (t_bands_above_F v1.toNatClampNeg) fun x16 =>
asm (vp_in x16 t_number_N) (g_Trees_settle_43 F rec2 (upd t_number_F x16.toNatClampNeg 1000) v1)))))
noncomputable def f_Trees_settle_2 (F : Nat) (t_bands_nodes : Int32) (t_bands_above_N : Nat) (t_bands_above_F : Nat → Int32) (t_number_N : Nat) : Nat → (Nat → Int32) → Int32 → Option ((Nat → Int32))
  | 0 => fun _ _ => none
  | n + 1 => fun t_number_F v1 => g_Trees_settle_2 F (f_Trees_settle_2 F t_bands_nodes t_bands_above_N t_bands_above_F t_number_N n) t_bands_nodes t_bands_above_N t_bands_above_F t_number_N t_number_F v1
noncomputable def f_Trees_settle (F : Nat) (t_bands_nodes : Int32) (t_bands_above_N : Nat) (t_bands_above_F : Nat → Int32) (t_number_N : Nat) (t_number_F : Nat → Int32) : Option ((Nat → Int32)) :=
f_Trees_settle_2 F t_bands_nodes t_bands_above_N t_bands_above_F t_number_N F t_number_F 0
set_option maxHeartbeats 4000000 in
set_option maxRecDepth 100000 in
theorem c_Trees_settle (l : Launch) (dC : Nat → ClassId) (dI : Nat → Nat → Nat) (tI tB tL tZ : ClassId) (a_t : Nat) (a_t_bands : Nat) (a_t_bands_above : Nat) (a_t_number : Nat) (o_t_path : Nat) (o_t_low : Nat) (o_t_known : Nat) (o_t_bands_base : Nat) (o_t_bands_leaf : Nat) (sz : Nat) (t_bands_count : Int32) (t_bands_nodes : Int32) (t_bands_style : Int32) (t_bands_above_N : Nat) (t_bands_above_F : Nat → Int32) (t_number_N : Nat) (t_number_F : Nat → Int32) (F : Nat) (u : (Nat → Int32)) (hf : f_Trees_settle F t_bands_nodes t_bands_above_N t_bands_above_F t_number_N t_number_F = some u) : CTv l y_Trees_settle b_Trees_settle 3 1 15 (dC, dI) classes [(tI, .int), (tB, .byte), (tL, .long), (tZ, .boolean)] [.ref a_t] [(a_t, .inr (5, [.ref a_t_bands, .ref o_t_path, .ref a_t_number, .ref o_t_low, .ref o_t_known])), (a_t_bands, .inr (0, [.ref o_t_bands_base, .ref o_t_bands_leaf, .ref a_t_bands_above, .int t_bands_count, .int t_bands_nodes, .int t_bands_style])), (a_t_bands_above, .inl (tI, t_bands_above_N, .inl t_bands_above_F)), (a_t_number, .inl (tI, t_number_N, .inl t_number_F))] sz (fun q : Unit => [(a_t, .inr (5, [.ref a_t_bands, .ref o_t_path, .ref a_t_number, .ref o_t_low, .ref o_t_known])), (a_t_bands, .inr (0, [.ref o_t_bands_base, .ref o_t_bands_leaf, .ref a_t_bands_above, .int t_bands_count, .int t_bands_nodes, .int t_bands_style])), (a_t_bands_above, .inl (tI, t_bands_above_N, .inl t_bands_above_F)), (a_t_number, .inl (tI, t_number_N, .inl u))]) 0 0 := by
  refine mk_v (by decide) (Nat.le_of_ble_eq_true rfl) ?_
  intro p e s m args below meth c ls A Q hx hb hml hts hown hin hK hN hP hD hA hl ret
  obtain ⟨H, hH⟩ : ∃ H : Heap, H = s.heap := ⟨_, rfl⟩
  have hS : va_S A s.heap H [] := by rw [hH]; exact va_S.rf
  rw [← hH] at hP ⊢
  have hl : lv_has ls 3 [(0, .ref a_t)] := hl
  have k_98 : ∀ (rec51 : (Nat → Int32) → Int32 → Option ((Nat → Int32))), (∀ (t_number_F : Nat → Int32) (v1 : Int32) (H : Heap) (locs : List Loc) (cells slots : Nat) (ls : Array Slot), va_P (dC, dI) classes [(a_t, .inr (5, [.ref a_t_bands, .ref o_t_path, .ref a_t_number, .ref o_t_low, .ref o_t_known])), (a_t_bands, .inr (0, [.ref o_t_bands_base, .ref o_t_bands_leaf, .ref a_t_bands_above, .int t_bands_count, .int t_bands_nodes, .int t_bands_style])), (a_t_bands_above, .inl (tI, t_bands_above_N, .inl t_bands_above_F)), (a_t_number, .inl (tI, t_number_N, .inl t_number_F))] H → va_D A [(a_t, .inr (5, [.ref a_t_bands, .ref o_t_path, .ref a_t_number, .ref o_t_low, .ref o_t_known])), (a_t_bands, .inr (0, [.ref o_t_bands_base, .ref o_t_bands_leaf, .ref a_t_bands_above, .int t_bands_count, .int t_bands_nodes, .int t_bands_style])), (a_t_bands_above, .inl (tI, t_bands_above_N, .inl t_bands_above_F)), (a_t_number, .inl (tI, t_number_N, .inl t_number_F))] → va_S A s.heap H locs → lv_has ls 3 [(0, .ref a_t), (1, .int v1)] → (cells ≤ 0 ∧ slots ≤ 0) → rec51 t_number_F v1 = some u → W p l e ({ frames := 1, cells := 0, slots := 0, locals := 15 } : Room) s m args below meth c H locs cells slots Q (F0 m 51 ls [])) → ∀ (t_number_F : Nat → Int32) (v1 : Int32) (H : Heap) (locs : List Loc) (cells slots : Nat) (ls : Array Slot), va_P (dC, dI) classes [(a_t, .inr (5, [.ref a_t_bands, .ref o_t_path, .ref a_t_number, .ref o_t_low, .ref o_t_known])), (a_t_bands, .inr (0, [.ref o_t_bands_base, .ref o_t_bands_leaf, .ref a_t_bands_above, .int t_bands_count, .int t_bands_nodes, .int t_bands_style])), (a_t_bands_above, .inl (tI, t_bands_above_N, .inl t_bands_above_F)), (a_t_number, .inl (tI, t_number_N, .inl t_number_F))] H → va_D A [(a_t, .inr (5, [.ref a_t_bands, .ref o_t_path, .ref a_t_number, .ref o_t_low, .ref o_t_known])), (a_t_bands, .inr (0, [.ref o_t_bands_base, .ref o_t_bands_leaf, .ref a_t_bands_above, .int t_bands_count, .int t_bands_nodes, .int t_bands_style])), (a_t_bands_above, .inl (tI, t_bands_above_N, .inl t_bands_above_F)), (a_t_number, .inl (tI, t_number_N, .inl t_number_F))] → va_S A s.heap H locs → lv_has ls 3 [(0, .ref a_t), (1, .int v1)] → (cells ≤ 0 ∧ slots ≤ 0) → g_Trees_settle_98 F rec51 t_number_F v1 = some u → W p l e ({ frames := 1, cells := 0, slots := 0, locals := 15 } : Room) s m args below meth c H locs cells slots Q (F0 m 98 ls []) := by
    intro rec51 h51 t_number_F v1 H locs cells slots ls hP hD hS hl hc hf
    unfold g_Trees_settle_98 at hf
    obtain ⟨x9, ex9⟩ : ∃ y : Int32, y = v1 + 1 := ⟨_, rfl⟩
    have hf := letb_of hf ex9
    refine lv_iinc (v := x9) (lv' := [(1, .int x9), (0, .ref a_t)]) hx hb d_Trees_settle_98 hl (k := 1) rfl (by rw [ex9]; rfl) (by decide) rfl (fun ls hl => ?_)
    refine lv_goto (tgt := 51) hx hb d_Trees_settle_101 (by decide) ?_
    exact h51 t_number_F x9 _ _ _ _ ls hP hD hS (lv_sub hl [1, 0] rfl) hc hf
  have k_51 : ∀ n : Nat, ∀ (t_number_F : Nat → Int32) (v1 : Int32) (H : Heap) (locs : List Loc) (cells slots : Nat) (ls : Array Slot), va_P (dC, dI) classes [(a_t, .inr (5, [.ref a_t_bands, .ref o_t_path, .ref a_t_number, .ref o_t_low, .ref o_t_known])), (a_t_bands, .inr (0, [.ref o_t_bands_base, .ref o_t_bands_leaf, .ref a_t_bands_above, .int t_bands_count, .int t_bands_nodes, .int t_bands_style])), (a_t_bands_above, .inl (tI, t_bands_above_N, .inl t_bands_above_F)), (a_t_number, .inl (tI, t_number_N, .inl t_number_F))] H → va_D A [(a_t, .inr (5, [.ref a_t_bands, .ref o_t_path, .ref a_t_number, .ref o_t_low, .ref o_t_known])), (a_t_bands, .inr (0, [.ref o_t_bands_base, .ref o_t_bands_leaf, .ref a_t_bands_above, .int t_bands_count, .int t_bands_nodes, .int t_bands_style])), (a_t_bands_above, .inl (tI, t_bands_above_N, .inl t_bands_above_F)), (a_t_number, .inl (tI, t_number_N, .inl t_number_F))] → va_S A s.heap H locs → lv_has ls 3 [(0, .ref a_t), (1, .int v1)] → (cells ≤ 0 ∧ slots ≤ 0) → f_Trees_settle_51 F t_bands_nodes t_bands_above_N t_bands_above_F t_number_N n t_number_F v1 = some u → W p l e ({ frames := 1, cells := 0, slots := 0, locals := 15 } : Room) s m args below meth c H locs cells slots Q (F0 m 51 ls []) := by
    intro n
    induction n with
    | zero => intro t_number_F v1 H locs cells slots ls hP hD hS hl hc hf; exact absurd hf (by intro h9; cases h9)
    | succ n h51 =>
      intro t_number_F v1 H locs cells slots ls hP hD hS hl hc hf
      have hf : g_Trees_settle_51 F (f_Trees_settle_51 F t_bands_nodes t_bands_above_N t_bands_above_F t_number_N n) t_bands_nodes t_bands_above_N t_bands_above_F t_number_N t_number_F v1 = some u := hf
      generalize (f_Trees_settle_51 F t_bands_nodes t_bands_above_N t_bands_above_F t_number_N n) = rec51 at hf h51
      unfold g_Trees_settle_51 at hf
      refine lv_iload_n hx hb d_Trees_settle_51 rfl (lv_at hl 1 rfl) ?_
      refine lv_aload_n hx hb d_Trees_settle_52 rfl (lv_at hl 0 rfl) ?_
      refine va_get (D := (dC, dI)) (ci := 5) (v := .ref a_t_bands) (C := R_Trees) (T := F_Trees) (N := 5) hx hb hts i_Trees hown hK hP 0 rfl rfl 0 (by decide) (hts _ q_106) (fun _ h9 => h9) rfl d_Trees_settle_53 ?_
      refine va_getN (D := (dC, dI)) (ci := 0) (v := .int t_bands_nodes) (C := R_Bands) (T := F_Bands) (N := 6) hx hb hts i_Bands hown hK hP 1 rfl rfl 4 (by decide) (va_Nw.use rfl (hN _ q_107 rfl)) (fun _ h9 => h9) rfl d_Trees_settle_56 ?_
      refine lv_icmp_ge (tgt := 104) hx hb d_Trees_settle_59 (by decide) (fun c0 => ?_) (fun c0 => ?_)
      · have hf := ite_t c0 hf
        have hf := Option.some.inj hf
        subst u
        exact ret _ _ _ _ _ _ () d_Trees_settle_104 hP hD hS hc.1 hc.2
      · have hf := ite_f c0 hf
        refine lv_aload_n hx hb d_Trees_settle_62 rfl (lv_at hl 0 rfl) ?_
        refine va_get (D := (dC, dI)) (ci := 5) (v := .ref a_t_bands) (C := R_Trees) (T := F_Trees) (N := 5) hx hb hts i_Trees hown hK hP 0 rfl rfl 0 (by decide) (hts _ q_106) (fun _ h9 => h9) rfl d_Trees_settle_63 ?_
        refine va_getN (D := (dC, dI)) (ci := 0) (v := .ref a_t_bands_above) (C := R_Bands) (T := F_Bands) (N := 6) hx hb hts i_Bands hown hK hP 1 rfl rfl 2 (by decide) (va_Nw.use rfl (hN _ q_109 rfl)) (fun _ h9 => h9) rfl d_Trees_settle_66 ?_
        refine lv_iload_n hx hb d_Trees_settle_69 rfl (lv_at hl 1 rfl) ?_
        obtain ⟨hin9, hf⟩ := asm_of hf
        refine va_iald hx hb hK hP 2 0 rfl rfl hin9 d_Trees_settle_70 ?_
        refine lv_topi (fun x10 ex10 => ?_)
        have hf := letb_of hf ex10
        refine lv_istore_n (lv' := [(2, .int x10), (0, .ref a_t), (1, .int v1)]) hx hb d_Trees_settle_71 rfl hl (by decide) rfl (fun ls hl => ?_)
        refine lv_iload_n hx hb d_Trees_settle_72 rfl (lv_at hl 0 rfl) ?_
        refine lv_iconst (v := (-1)) hx hb d_Trees_settle_73 (by decide) ?_
        refine lv_icmp_eq (tgt := 98) hx hb d_Trees_settle_74 (by decide) (fun c0 => ?_) (fun c0 => ?_)
        · have hf := ite_t c0 hf
          exact k_98 rec51 h51 t_number_F v1 _ _ _ _ ls hP hD hS (lv_sub hl [1, 2] rfl) hc hf
        · have hf := ite_f c0 hf
          refine lv_aload_n hx hb d_Trees_settle_77 rfl (lv_at hl 1 rfl) ?_
          refine va_get (D := (dC, dI)) (ci := 5) (v := .ref a_t_number) (C := R_Trees) (T := F_Trees) (N := 5) hx hb hts i_Trees hown hK hP 0 rfl rfl 2 (by decide) (hts _ q_103) (fun _ h9 => h9) rfl d_Trees_settle_78 ?_
          refine lv_iload_n hx hb d_Trees_settle_81 rfl (lv_at hl 0 rfl) ?_
          refine lv_aload_n hx hb d_Trees_settle_82 rfl (lv_at hl 1 rfl) ?_
          refine va_get (D := (dC, dI)) (ci := 5) (v := .ref a_t_number) (C := R_Trees) (T := F_Trees) (N := 5) hx hb hts i_Trees hown hK hP 0 rfl rfl 2 (by decide) (hts _ q_103) (fun _ h9 => h9) rfl d_Trees_settle_83 ?_
          refine lv_iload_n hx hb d_Trees_settle_86 rfl (lv_at hl 0 rfl) ?_
          obtain ⟨hin9, hf⟩ := asm_of hf
          refine va_iald hx hb hK hP 3 0 rfl rfl hin9 d_Trees_settle_87 ?_
          refine lv_topi (fun x11 ex11 => ?_)
          have hf := letb_of hf ex11
          refine lv_aload_n hx hb d_Trees_settle_88 rfl (lv_at hl 1 rfl) ?_
          refine va_get (D := (dC, dI)) (ci := 5) (v := .ref a_t_number) (C := R_Trees) (T := F_Trees) (N := 5) hx hb hts i_Trees hown hK hP 0 rfl rfl 2 (by decide) (hts _ q_103) (fun _ h9 => h9) rfl d_Trees_settle_89 ?_
          refine lv_iload_n hx hb d_Trees_settle_92 rfl (lv_at hl 2 rfl) ?_
          obtain ⟨hin9, hf⟩ := asm_of hf
          refine va_iald hx hb hK hP 3 0 rfl rfl hin9 d_Trees_settle_93 ?_
          refine lv_topi (fun x12 ex12 => ?_)
          have hf := letb_of hf ex12
          refine va_mmin hx hb (by rw [hml]; exact hl.1.symm) hown (hts _ q_110) (hts _ q_2) (hts _ q_3) (hts _ q_4) (Nat.le_of_ble_eq_true rfl) (Nat.le_of_ble_eq_true rfl) hc.1 hc.2 d_Trees_settle_94 ?_
          refine lv_topi (fun x13 ex13 => ?_)
          have hf := letb_of hf ex13
          obtain ⟨hin9, hf⟩ := asm_of hf
          refine va_iast hx hb hK hP hD hS 3 0 rfl rfl hin9 d_Trees_settle_97 (fun H locs hP hD hS => ?_)
          have hP : va_P (dC, dI) classes [(a_t, .inr (5, [.ref a_t_bands, .ref o_t_path, .ref a_t_number, .ref o_t_low, .ref o_t_known])), (a_t_bands, .inr (0, [.ref o_t_bands_base, .ref o_t_bands_leaf, .ref a_t_bands_above, .int t_bands_count, .int t_bands_nodes, .int t_bands_style])), (a_t_bands_above, .inl (tI, t_bands_above_N, .inl t_bands_above_F)), (a_t_number, .inl (tI, t_number_N, .inl (upd t_number_F x10.toNatClampNeg x13)))] H := hP
          have hD : va_D A [(a_t, .inr (5, [.ref a_t_bands, .ref o_t_path, .ref a_t_number, .ref o_t_low, .ref o_t_known])), (a_t_bands, .inr (0, [.ref o_t_bands_base, .ref o_t_bands_leaf, .ref a_t_bands_above, .int t_bands_count, .int t_bands_nodes, .int t_bands_style])), (a_t_bands_above, .inl (tI, t_bands_above_N, .inl t_bands_above_F)), (a_t_number, .inl (tI, t_number_N, .inl (upd t_number_F x10.toNatClampNeg x13)))] := hD
          exact k_98 rec51 h51 (upd t_number_F x10.toNatClampNeg x13) v1 _ _ _ _ ls hP hD hS (lv_sub hl [1, 2] rfl) hc hf
  have k_43 : ∀ (rec2 : (Nat → Int32) → Int32 → Option ((Nat → Int32))), (∀ (t_number_F : Nat → Int32) (v1 : Int32) (H : Heap) (locs : List Loc) (cells slots : Nat) (ls : Array Slot), va_P (dC, dI) classes [(a_t, .inr (5, [.ref a_t_bands, .ref o_t_path, .ref a_t_number, .ref o_t_low, .ref o_t_known])), (a_t_bands, .inr (0, [.ref o_t_bands_base, .ref o_t_bands_leaf, .ref a_t_bands_above, .int t_bands_count, .int t_bands_nodes, .int t_bands_style])), (a_t_bands_above, .inl (tI, t_bands_above_N, .inl t_bands_above_F)), (a_t_number, .inl (tI, t_number_N, .inl t_number_F))] H → va_D A [(a_t, .inr (5, [.ref a_t_bands, .ref o_t_path, .ref a_t_number, .ref o_t_low, .ref o_t_known])), (a_t_bands, .inr (0, [.ref o_t_bands_base, .ref o_t_bands_leaf, .ref a_t_bands_above, .int t_bands_count, .int t_bands_nodes, .int t_bands_style])), (a_t_bands_above, .inl (tI, t_bands_above_N, .inl t_bands_above_F)), (a_t_number, .inl (tI, t_number_N, .inl t_number_F))] → va_S A s.heap H locs → lv_has ls 3 [(0, .ref a_t), (1, .int v1)] → (cells ≤ 0 ∧ slots ≤ 0) → rec2 t_number_F v1 = some u → W p l e ({ frames := 1, cells := 0, slots := 0, locals := 15 } : Room) s m args below meth c H locs cells slots Q (F0 m 2 ls [])) → ∀ (t_number_F : Nat → Int32) (v1 : Int32) (H : Heap) (locs : List Loc) (cells slots : Nat) (ls : Array Slot), va_P (dC, dI) classes [(a_t, .inr (5, [.ref a_t_bands, .ref o_t_path, .ref a_t_number, .ref o_t_low, .ref o_t_known])), (a_t_bands, .inr (0, [.ref o_t_bands_base, .ref o_t_bands_leaf, .ref a_t_bands_above, .int t_bands_count, .int t_bands_nodes, .int t_bands_style])), (a_t_bands_above, .inl (tI, t_bands_above_N, .inl t_bands_above_F)), (a_t_number, .inl (tI, t_number_N, .inl t_number_F))] H → va_D A [(a_t, .inr (5, [.ref a_t_bands, .ref o_t_path, .ref a_t_number, .ref o_t_low, .ref o_t_known])), (a_t_bands, .inr (0, [.ref o_t_bands_base, .ref o_t_bands_leaf, .ref a_t_bands_above, .int t_bands_count, .int t_bands_nodes, .int t_bands_style])), (a_t_bands_above, .inl (tI, t_bands_above_N, .inl t_bands_above_F)), (a_t_number, .inl (tI, t_number_N, .inl t_number_F))] → va_S A s.heap H locs → lv_has ls 3 [(0, .ref a_t), (1, .int v1)] → (cells ≤ 0 ∧ slots ≤ 0) → g_Trees_settle_43 F rec2 t_number_F v1 = some u → W p l e ({ frames := 1, cells := 0, slots := 0, locals := 15 } : Room) s m args below meth c H locs cells slots Q (F0 m 43 ls []) := by
    intro rec2 h2 t_number_F v1 H locs cells slots ls hP hD hS hl hc hf
    unfold g_Trees_settle_43 at hf
    obtain ⟨x14, ex14⟩ : ∃ y : Int32, y = v1 + 1 := ⟨_, rfl⟩
    have hf := letb_of hf ex14
    refine lv_iinc (v := x14) (lv' := [(1, .int x14), (0, .ref a_t)]) hx hb d_Trees_settle_43 hl (k := 1) rfl (by rw [ex14]; rfl) (by decide) rfl (fun ls hl => ?_)
    refine lv_goto (tgt := 2) hx hb d_Trees_settle_46 (by decide) ?_
    exact h2 t_number_F x14 _ _ _ _ ls hP hD hS (lv_sub hl [1, 0] rfl) hc hf
  have k_2 : ∀ n : Nat, ∀ (t_number_F : Nat → Int32) (v1 : Int32) (H : Heap) (locs : List Loc) (cells slots : Nat) (ls : Array Slot), va_P (dC, dI) classes [(a_t, .inr (5, [.ref a_t_bands, .ref o_t_path, .ref a_t_number, .ref o_t_low, .ref o_t_known])), (a_t_bands, .inr (0, [.ref o_t_bands_base, .ref o_t_bands_leaf, .ref a_t_bands_above, .int t_bands_count, .int t_bands_nodes, .int t_bands_style])), (a_t_bands_above, .inl (tI, t_bands_above_N, .inl t_bands_above_F)), (a_t_number, .inl (tI, t_number_N, .inl t_number_F))] H → va_D A [(a_t, .inr (5, [.ref a_t_bands, .ref o_t_path, .ref a_t_number, .ref o_t_low, .ref o_t_known])), (a_t_bands, .inr (0, [.ref o_t_bands_base, .ref o_t_bands_leaf, .ref a_t_bands_above, .int t_bands_count, .int t_bands_nodes, .int t_bands_style])), (a_t_bands_above, .inl (tI, t_bands_above_N, .inl t_bands_above_F)), (a_t_number, .inl (tI, t_number_N, .inl t_number_F))] → va_S A s.heap H locs → lv_has ls 3 [(0, .ref a_t), (1, .int v1)] → (cells ≤ 0 ∧ slots ≤ 0) → f_Trees_settle_2 F t_bands_nodes t_bands_above_N t_bands_above_F t_number_N n t_number_F v1 = some u → W p l e ({ frames := 1, cells := 0, slots := 0, locals := 15 } : Room) s m args below meth c H locs cells slots Q (F0 m 2 ls []) := by
    intro n
    induction n with
    | zero => intro t_number_F v1 H locs cells slots ls hP hD hS hl hc hf; exact absurd hf (by intro h9; cases h9)
    | succ n h2 =>
      intro t_number_F v1 H locs cells slots ls hP hD hS hl hc hf
      have hf : g_Trees_settle_2 F (f_Trees_settle_2 F t_bands_nodes t_bands_above_N t_bands_above_F t_number_N n) t_bands_nodes t_bands_above_N t_bands_above_F t_number_N t_number_F v1 = some u := hf
      generalize (f_Trees_settle_2 F t_bands_nodes t_bands_above_N t_bands_above_F t_number_N n) = rec2 at hf h2
      unfold g_Trees_settle_2 at hf
      refine lv_iload_n hx hb d_Trees_settle_2 rfl (lv_at hl 1 rfl) ?_
      refine lv_aload_n hx hb d_Trees_settle_3 rfl (lv_at hl 0 rfl) ?_
      refine va_get (D := (dC, dI)) (ci := 5) (v := .ref a_t_bands) (C := R_Trees) (T := F_Trees) (N := 5) hx hb hts i_Trees hown hK hP 0 rfl rfl 0 (by decide) (hts _ q_106) (fun _ h9 => h9) rfl d_Trees_settle_4 ?_
      refine va_getN (D := (dC, dI)) (ci := 0) (v := .int t_bands_nodes) (C := R_Bands) (T := F_Bands) (N := 6) hx hb hts i_Bands hown hK hP 1 rfl rfl 4 (by decide) (va_Nw.use rfl (hN _ q_107 rfl)) (fun _ h9 => h9) rfl d_Trees_settle_7 ?_
      refine lv_icmp_ge (tgt := 49) hx hb d_Trees_settle_10 (by decide) (fun c0 => ?_) (fun c0 => ?_)
      · have hf := ite_t c0 hf
        refine lv_iconst (v := 0) hx hb d_Trees_settle_49 (by decide) ?_
        refine lv_istore_n (lv' := [(1, .int 0), (0, .ref a_t)]) hx hb d_Trees_settle_50 rfl hl (by decide) rfl (fun ls hl => ?_)
        exact k_51 F t_number_F 0 _ _ _ _ ls hP hD hS (lv_sub hl [1, 0] rfl) hc hf
      · have hf := ite_f c0 hf
        refine lv_aload_n hx hb d_Trees_settle_13 rfl (lv_at hl 0 rfl) ?_
        refine va_get (D := (dC, dI)) (ci := 5) (v := .ref a_t_bands) (C := R_Trees) (T := F_Trees) (N := 5) hx hb hts i_Trees hown hK hP 0 rfl rfl 0 (by decide) (hts _ q_106) (fun _ h9 => h9) rfl d_Trees_settle_14 ?_
        refine va_getN (D := (dC, dI)) (ci := 0) (v := .ref a_t_bands_above) (C := R_Bands) (T := F_Bands) (N := 6) hx hb hts i_Bands hown hK hP 1 rfl rfl 2 (by decide) (va_Nw.use rfl (hN _ q_109 rfl)) (fun _ h9 => h9) rfl d_Trees_settle_17 ?_
        refine lv_iload_n hx hb d_Trees_settle_20 rfl (lv_at hl 1 rfl) ?_
        obtain ⟨hin9, hf⟩ := asm_of hf
        refine va_iald hx hb hK hP 2 0 rfl rfl hin9 d_Trees_settle_21 ?_
        refine lv_topi (fun x15 ex15 => ?_)
        have hf := letb_of hf ex15
        refine lv_iconst (v := (-1)) hx hb d_Trees_settle_22 (by decide) ?_
        refine lv_icmp_eq (tgt := 43) hx hb d_Trees_settle_23 (by decide) (fun c0 => ?_) (fun c0 => ?_)
        · have hf := ite_t c0 hf
          exact k_43 rec2 h2 t_number_F v1 _ _ _ _ ls hP hD hS hl hc hf
        · have hf := ite_f c0 hf
          refine lv_aload_n hx hb d_Trees_settle_26 rfl (lv_at hl 0 rfl) ?_
          refine va_get (D := (dC, dI)) (ci := 5) (v := .ref a_t_number) (C := R_Trees) (T := F_Trees) (N := 5) hx hb hts i_Trees hown hK hP 0 rfl rfl 2 (by decide) (hts _ q_103) (fun _ h9 => h9) rfl d_Trees_settle_27 ?_
          refine lv_aload_n hx hb d_Trees_settle_30 rfl (lv_at hl 0 rfl) ?_
          refine va_get (D := (dC, dI)) (ci := 5) (v := .ref a_t_bands) (C := R_Trees) (T := F_Trees) (N := 5) hx hb hts i_Trees hown hK hP 0 rfl rfl 0 (by decide) (hts _ q_106) (fun _ h9 => h9) rfl d_Trees_settle_31 ?_
          refine va_getN (D := (dC, dI)) (ci := 0) (v := .ref a_t_bands_above) (C := R_Bands) (T := F_Bands) (N := 6) hx hb hts i_Bands hown hK hP 1 rfl rfl 2 (by decide) (va_Nw.use rfl (hN _ q_109 rfl)) (fun _ h9 => h9) rfl d_Trees_settle_34 ?_
          refine lv_iload_n hx hb d_Trees_settle_37 rfl (lv_at hl 1 rfl) ?_
          obtain ⟨hin9, hf⟩ := asm_of hf
          refine va_iald hx hb hK hP 2 0 rfl rfl hin9 d_Trees_settle_38 ?_
          refine lv_topi (fun x16 ex16 => ?_)
          have hf := letb_of hf ex16
          refine lv_sipush (v := 1000) hx hb d_Trees_settle_39 (by decide) ?_
          obtain ⟨hin9, hf⟩ := asm_of hf
          refine va_iast hx hb hK hP hD hS 3 0 rfl rfl hin9 d_Trees_settle_42 (fun H locs hP hD hS => ?_)
          have hP : va_P (dC, dI) classes [(a_t, .inr (5, [.ref a_t_bands, .ref o_t_path, .ref a_t_number, .ref o_t_low, .ref o_t_known])), (a_t_bands, .inr (0, [.ref o_t_bands_base, .ref o_t_bands_leaf, .ref a_t_bands_above, .int t_bands_count, .int t_bands_nodes, .int t_bands_style])), (a_t_bands_above, .inl (tI, t_bands_above_N, .inl t_bands_above_F)), (a_t_number, .inl (tI, t_number_N, .inl (upd t_number_F x16.toNatClampNeg 1000)))] H := hP
          have hD : va_D A [(a_t, .inr (5, [.ref a_t_bands, .ref o_t_path, .ref a_t_number, .ref o_t_low, .ref o_t_known])), (a_t_bands, .inr (0, [.ref o_t_bands_base, .ref o_t_bands_leaf, .ref a_t_bands_above, .int t_bands_count, .int t_bands_nodes, .int t_bands_style])), (a_t_bands_above, .inl (tI, t_bands_above_N, .inl t_bands_above_F)), (a_t_number, .inl (tI, t_number_N, .inl (upd t_number_F x16.toNatClampNeg 1000)))] := hD
          exact k_43 rec2 h2 (upd t_number_F x16.toNatClampNeg 1000) v1 _ _ _ _ ls hP hD hS hl hc hf
  have hc : 0 ≤ 0 ∧ 0 ≤ 0 := ⟨Nat.le_refl 0, Nat.le_refl 0⟩
  unfold f_Trees_settle at hf
  refine lv_iconst (v := 0) hx hb d_Trees_settle_0 (by decide) ?_
  refine lv_istore_n (lv' := [(1, .int 0), (0, .ref a_t)]) hx hb d_Trees_settle_1 rfl hl (by decide) rfl (fun ls hl => ?_)
  exact k_2 F t_number_F 0 _ _ _ _ ls hP hD hS (lv_sub hl [1, 0] rfl) hc hf
noncomputable def g_Trees_tellW_196 (F : Nat) (t_path_F : Nat → Int32) (t_low_F : Nat → Int32) (t_known_F : Nat → Int32) (p2_gathered : Int32) (p2_room : Int32) (p2_store_count : Int32) (p2_store_row_N : Nat) (p2_store_row_F : Nat → Int32) (s0 : Int32) : Option (Nat × Nat × Int32 × (Nat → Int32) × (Nat → Int32) × (Nat → Int32) × Int32 × Int32 × Int32 × Nat × (Nat → Int32)) :=
asm (narrow .boolean (.int s0) = .int s0) (some (0, 0, s0, t_path_F, t_low_F, t_known_F, p2_gathered, p2_room, p2_store_count, p2_store_row_N, p2_store_row_F))
noncomputable def g_Trees_tellW_166 (F : Nat) (rec55 : (Nat → Int32) → (Nat → Int32) → (Nat → Int32) → Int32 → Int32 → Int32 → Nat → (Nat → Int32) → Int32 → Int32 → Int32 → Int32 → Option (Nat × Nat × Int32 × (Nat → Int32) × (Nat → Int32) × (Nat → Int32) × Int32 × Int32 × Int32 × Nat × (Nat → Int32))) (t_low_N : Nat) (t_path_F : Nat → Int32) (t_low_F : Nat → Int32) (t_known_F : Nat → Int32) (p2_gathered : Int32) (p2_room : Int32) (p2_store_count : Int32) (p2_store_row_N : Nat) (p2_store_row_F : Nat → Int32) (v1 : Int32) (v2 : Int32) (v6 : Int32) (v7 : Int32) : Option (Nat × Nat × Int32 × (Nat → Int32) × (Nat → Int32) × (Nat → Int32) × Int32 × Int32 × Int32 × Nat × (Nat → Int32)) :=
asm (vp_in v7 t_low_N) (letb (t_low_F v7.toNatClampNeg) fun x21 =>
letb (v6 + (-1)) fun x22 =>
rec55 t_path_F t_low_F t_known_F p2_gathered p2_room p2_store_count p2_store_row_N p2_store_row_F v1 v2 x21 x22)
noncomputable def g_Trees_tellW_137 (F : Nat) (rec55 : (Nat → Int32) → (Nat → Int32) → (Nat → Int32) → Int32 → Int32 → Int32 → Nat → (Nat → Int32) → Int32 → Int32 → Int32 → Int32 → Option (Nat × Nat × Int32 × (Nat → Int32) × (Nat → Int32) × (Nat → Int32) × Int32 × Int32 × Int32 × Nat × (Nat → Int32))) (rec97 : (Nat → Int32) → (Nat → Int32) → (Nat → Int32) → Int32 → Int32 → Int32 → Nat → (Nat → Int32) → Int32 → Int32 → Int32 → Int32 → Int32 → Option (Nat × Nat × Int32 × (Nat → Int32) × (Nat → Int32) × (Nat → Int32) × Int32 × Int32 × Int32 × Nat × (Nat → Int32))) (t_low_N : Nat) (t_known_N : Nat) (t_path_F : Nat → Int32) (t_low_F : Nat → Int32) (t_known_F : Nat → Int32) (p2_gathered : Int32) (p2_room : Int32) (p2_store_count : Int32) (p2_store_row_N : Nat) (p2_store_row_F : Nat → Int32) (v1 : Int32) (v2 : Int32) (v6 : Int32) (v7 : Int32) (v8 : Int32) (s0 : Int32) (s2 : Int32) : Option (Nat × Nat × Int32 × (Nat → Int32) × (Nat → Int32) × (Nat → Int32) × Int32 × Int32 × Int32 × Nat × (Nat → Int32)) :=
bd (f_Sink_bit F p2_gathered p2_room p2_store_count p2_store_row_N p2_store_row_F s0) fun u23 =>
addc u23.1 u23.2.1 (
asm (vp_in s2 t_known_N) (letb (v8 + 1) fun x27 =>
asm (vp_in v7 t_known_N) (letb ((upd t_known_F s2.toNatClampNeg u23.2.2.1) v7.toNatClampNeg) fun x28 =>
letb (x27 - x28) fun x29 =>
asm (vp_in v7 t_low_N) (letb (v8 + 1) fun x30 =>
rec97 t_path_F (upd t_low_F v7.toNatClampNeg x29) (upd t_known_F s2.toNatClampNeg u23.2.2.1) u23.2.2.2.1 u23.2.2.2.2.1 u23.2.2.2.2.2.1 u23.2.2.2.2.2.2.1 u23.2.2.2.2.2.2.2 v1 v2 v6 v7 x30))))
noncomputable def g_Trees_tellW_97 (F : Nat) (rec55 : (Nat → Int32) → (Nat → Int32) → (Nat → Int32) → Int32 → Int32 → Int32 → Nat → (Nat → Int32) → Int32 → Int32 → Int32 → Int32 → Option (Nat × Nat × Int32 × (Nat → Int32) × (Nat → Int32) × (Nat → Int32) × Int32 × Int32 × Int32 × Nat × (Nat → Int32))) (rec97 : (Nat → Int32) → (Nat → Int32) → (Nat → Int32) → Int32 → Int32 → Int32 → Nat → (Nat → Int32) → Int32 → Int32 → Int32 → Int32 → Int32 → Option (Nat × Nat × Int32 × (Nat → Int32) × (Nat → Int32) × (Nat → Int32) × Int32 × Int32 × Int32 × Nat × (Nat → Int32))) (t_number_N : Nat) (t_number_F : Nat → Int32) (t_low_N : Nat) (t_known_N : Nat) (t_path_F : Nat → Int32) (t_low_F : Nat → Int32) (t_known_F : Nat → Int32) (p2_gathered : Int32) (p2_room : Int32) (p2_store_count : Int32) (p2_store_row_N : Nat) (p2_store_row_F : Nat → Int32) (v1 : Int32) (v2 : Int32) (v6 : Int32) (v7 : Int32) (v8 : Int32) : Option (Nat × Nat × Int32 × (Nat → Int32) × (Nat → Int32) × (Nat → Int32) × Int32 × Int32 × Int32 × Nat × (Nat → Int32)) :=
if v2 ≤ v8 then (
g_Trees_tellW_166 F rec55 t_low_N t_path_F t_low_F t_known_F p2_gathered p2_room p2_store_count p2_store_row_N p2_store_row_F v1 v2 v6 v7) else (
asm (vp_in v7 t_known_N) (letb (t_known_F v7.toNatClampNeg) fun x31 =>
if x31 = 0 then (
asm (vp_in v7 t_number_N) (letb (t_number_F v7.toNatClampNeg) fun x32 =>
if x32 = v8 then (
g_Trees_tellW_137 F rec55 rec97 t_low_N t_known_N t_path_F t_low_F t_known_F p2_gathered p2_room p2_store_count p2_store_row_N p2_store_row_F v1 v2 v6 v7 v8 1 v7) else (
g_Trees_tellW_137 F rec55 rec97 t_low_N t_known_N t_path_F t_low_F t_known_F p2_gathered p2_room p2_store_count p2_store_row_N p2_store_row_F v1 v2 v6 v7 v8 0 v7))) else (
g_Trees_tellW_166 F rec55 t_low_N t_path_F t_low_F t_known_F p2_gathered p2_room p2_store_count p2_store_row_N p2_store_row_F v1 v2 v6 v7)))
noncomputable def f_Trees_tellW_97 (F : Nat) (rec55 : (Nat → Int32) → (Nat → Int32) → (Nat → Int32) → Int32 → Int32 → Int32 → Nat → (Nat → Int32) → Int32 → Int32 → Int32 → Int32 → Option (Nat × Nat × Int32 × (Nat → Int32) × (Nat → Int32) × (Nat → Int32) × Int32 × Int32 × Int32 × Nat × (Nat → Int32))) (t_number_N : Nat) (t_number_F : Nat → Int32) (t_low_N : Nat) (t_known_N : Nat) : Nat → (Nat → Int32) → (Nat → Int32) → (Nat → Int32) → Int32 → Int32 → Int32 → Nat → (Nat → Int32) → Int32 → Int32 → Int32 → Int32 → Int32 → Option (Nat × Nat × Int32 × (Nat → Int32) × (Nat → Int32) × (Nat → Int32) × Int32 × Int32 × Int32 × Nat × (Nat → Int32))
  | 0 => fun _ _ _ _ _ _ _ _ _ _ _ _ _ => none
  | n + 1 => fun t_path_F t_low_F t_known_F p2_gathered p2_room p2_store_count p2_store_row_N p2_store_row_F v1 v2 v6 v7 v8 => g_Trees_tellW_97 F rec55 (f_Trees_tellW_97 F rec55 t_number_N t_number_F t_low_N t_known_N n) t_number_N t_number_F t_low_N t_known_N t_path_F t_low_F t_known_F p2_gathered p2_room p2_store_count p2_store_row_N p2_store_row_F v1 v2 v6 v7 v8
noncomputable def g_Trees_tellW_55 (F : Nat) (rec55 : (Nat → Int32) → (Nat → Int32) → (Nat → Int32) → Int32 → Int32 → Int32 → Nat → (Nat → Int32) → Int32 → Int32 → Int32 → Int32 → Option (Nat × Nat × Int32 × (Nat → Int32) × (Nat → Int32) × (Nat → Int32) × Int32 × Int32 × Int32 × Nat × (Nat → Int32))) (t_path_N : Nat) (t_number_N : Nat) (t_number_F : Nat → Int32) (t_low_N : Nat) (t_known_N : Nat) (t_path_F : Nat → Int32) (t_low_F : Nat → Int32) (t_known_F : Nat → Int32) (p2_gathered : Int32) (p2_room : Int32) (p2_store_count : Int32) (p2_store_row_N : Nat) (p2_store_row_F : Nat → Int32) (v1 : Int32) (v2 : Int32) (v5 : Int32) (v6 : Int32) : Option (Nat × Nat × Int32 × (Nat → Int32) × (Nat → Int32) × (Nat → Int32) × Int32 × Int32 × Int32 × Nat × (Nat → Int32)) :=
if v6 < 0 then (
asm (vp_in v1 t_known_N) (letb (t_known_F v1.toNatClampNeg) fun x33 =>
if x33 = 1 then (
g_Trees_tellW_196 F t_path_F t_low_F t_known_F p2_gathered p2_room p2_store_count p2_store_row_N p2_store_row_F 1) else (
g_Trees_tellW_196 F t_path_F t_low_F t_known_F p2_gathered p2_room p2_store_count p2_store_row_N p2_store_row_F 0))) else (
asm (vp_in v6 t_path_N) (letb (t_path_F v6.toNatClampNeg) fun x34 =>
asm (vp_in x34 t_low_N) (letb (t_low_F x34.toNatClampNeg) fun x35 =>
letb (if x35 < v5 then v5 else x35) fun x36 =>
asm (vp_in x34 t_low_N) (asm (vp_in x34 t_low_N) (letb ((upd t_low_F x34.toNatClampNeg x36) x34.toNatClampNeg) fun x37 =>
f_Trees_tellW_97 F rec55 t_number_N t_number_F t_low_N t_known_N F t_path_F (upd t_low_F x34.toNatClampNeg x36) t_known_F p2_gathered p2_room p2_store_count p2_store_row_N p2_store_row_F v1 v2 v6 x34 x37)))))
noncomputable def f_Trees_tellW_55 (F : Nat) (t_path_N : Nat) (t_number_N : Nat) (t_number_F : Nat → Int32) (t_low_N : Nat) (t_known_N : Nat) : Nat → (Nat → Int32) → (Nat → Int32) → (Nat → Int32) → Int32 → Int32 → Int32 → Nat → (Nat → Int32) → Int32 → Int32 → Int32 → Int32 → Option (Nat × Nat × Int32 × (Nat → Int32) × (Nat → Int32) × (Nat → Int32) × Int32 × Int32 × Int32 × Nat × (Nat → Int32))
  | 0 => fun _ _ _ _ _ _ _ _ _ _ _ _ => none
  | n + 1 => fun t_path_F t_low_F t_known_F p2_gathered p2_room p2_store_count p2_store_row_N p2_store_row_F v1 v2 v5 v6 => g_Trees_tellW_55 F (f_Trees_tellW_55 F t_path_N t_number_N t_number_F t_low_N t_known_N n) t_path_N t_number_N t_number_F t_low_N t_known_N t_path_F t_low_F t_known_F p2_gathered p2_room p2_store_count p2_store_row_N p2_store_row_F v1 v2 v5 v6
noncomputable def g_Trees_tellW_46 (F : Nat) (t_path_N : Nat) (t_number_N : Nat) (t_number_F : Nat → Int32) (t_low_N : Nat) (t_known_N : Nat) (t_path_F : Nat → Int32) (t_low_F : Nat → Int32) (t_known_F : Nat → Int32) (p2_gathered : Int32) (p2_room : Int32) (p2_store_count : Int32) (p2_store_row_N : Nat) (p2_store_row_F : Nat → Int32) (v1 : Int32) (v2 : Int32) (v4 : Int32) : Option (Nat × Nat × Int32 × (Nat → Int32) × (Nat → Int32) × (Nat → Int32) × Int32 × Int32 × Int32 × Nat × (Nat → Int32)) :=
letb (v4 - 1) fun x38 =>
f_Trees_tellW_55 F t_path_N t_number_N t_number_F t_low_N t_known_N F t_path_F t_low_F t_known_F p2_gathered p2_room p2_store_count p2_store_row_N p2_store_row_F v1 v2 0 x38
noncomputable def g_Trees_tellW_6 (F : Nat) (rec6 : (Nat → Int32) → (Nat → Int32) → (Nat → Int32) → Int32 → Int32 → Int32 → Nat → (Nat → Int32) → Int32 → Int32 → Int32 → Int32 → Option (Nat × Nat × Int32 × (Nat → Int32) × (Nat → Int32) × (Nat → Int32) × Int32 × Int32 × Int32 × Nat × (Nat → Int32))) (t_path_N : Nat) (t_number_N : Nat) (t_number_F : Nat → Int32) (t_low_N : Nat) (t_known_N : Nat) (t_bands_above_N : Nat) (t_bands_above_F : Nat → Int32) (t_path_F : Nat → Int32) (t_low_F : Nat → Int32) (t_known_F : Nat → Int32) (p2_gathered : Int32) (p2_room : Int32) (p2_store_count : Int32) (p2_store_row_N : Nat) (p2_store_row_F : Nat → Int32) (v1 : Int32) (v2 : Int32) (v4 : Int32) (v5 : Int32) : Option (Nat × Nat × Int32 × (Nat → Int32) × (Nat → Int32) × (Nat → Int32) × Int32 × Int32 × Int32 × Nat × (Nat → Int32)) :=
if v5 = (-1) then (
g_Trees_tellW_46 F t_path_N t_number_N t_number_F t_low_N t_known_N t_path_F t_low_F t_known_F p2_gathered p2_room p2_store_count p2_store_row_N p2_store_row_F v1 v2 v4) else (
if 7 ≤ v4 then (
g_Trees_tellW_46 F t_path_N t_number_N t_number_F t_low_N t_known_N t_path_F t_low_F t_known_F p2_gathered p2_room p2_store_count p2_store_row_N p2_store_row_F v1 v2 v4) else (
asm (vp_in v4 t_path_N) (letb (v4 + 1) fun x39 =>
asm (vp_in v5 t_bands_above_N) (letb (t_bands_above_F v5.toNatClampNeg) fun x40 =>
rec6 (upd t_path_F v4.toNatClampNeg v5) t_low_F t_known_F p2_gathered p2_room p2_store_count p2_store_row_N p2_store_row_F v1 v2 x39 x40))))
noncomputable def f_Trees_tellW_6 (F : Nat) (t_path_N : Nat) (t_number_N : Nat) (t_number_F : Nat → Int32) (t_low_N : Nat) (t_known_N : Nat) (t_bands_above_N : Nat) (t_bands_above_F : Nat → Int32) : Nat → (Nat → Int32) → (Nat → Int32) → (Nat → Int32) → Int32 → Int32 → Int32 → Nat → (Nat → Int32) → Int32 → Int32 → Int32 → Int32 → Option (Nat × Nat × Int32 × (Nat → Int32) × (Nat → Int32) × (Nat → Int32) × Int32 × Int32 × Int32 × Nat × (Nat → Int32))
  | 0 => fun _ _ _ _ _ _ _ _ _ _ _ _ => none
  | n + 1 => fun t_path_F t_low_F t_known_F p2_gathered p2_room p2_store_count p2_store_row_N p2_store_row_F v1 v2 v4 v5 => g_Trees_tellW_6 F (f_Trees_tellW_6 F t_path_N t_number_N t_number_F t_low_N t_known_N t_bands_above_N t_bands_above_F n) t_path_N t_number_N t_number_F t_low_N t_known_N t_bands_above_N t_bands_above_F t_path_F t_low_F t_known_F p2_gathered p2_room p2_store_count p2_store_row_N p2_store_row_F v1 v2 v4 v5
noncomputable def f_Trees_tellW (F : Nat) (t_path_N : Nat) (t_path_F : Nat → Int32) (t_number_N : Nat) (t_number_F : Nat → Int32) (t_low_N : Nat) (t_low_F : Nat → Int32) (t_known_N : Nat) (t_known_F : Nat → Int32) (t_bands_above_N : Nat) (t_bands_above_F : Nat → Int32) (p2_gathered : Int32) (p2_room : Int32) (p2_store_count : Int32) (p2_store_row_N : Nat) (p2_store_row_F : Nat → Int32) (p0 : Int32) (p1 : Int32) : Option (Nat × Nat × Int32 × (Nat → Int32) × (Nat → Int32) × (Nat → Int32) × Int32 × Int32 × Int32 × Nat × (Nat → Int32)) :=
f_Trees_tellW_6 F t_path_N t_number_N t_number_F t_low_N t_known_N t_bands_above_N t_bands_above_F F t_path_F t_low_F t_known_F p2_gathered p2_room p2_store_count p2_store_row_N p2_store_row_F p0 p1 0 p0
set_option maxHeartbeats 4000000 in
set_option maxRecDepth 100000 in
theorem c_Trees_tellW (l : Launch) (dC : Nat → ClassId) (dI : Nat → Nat → Nat) (tI tB tL tZ : ClassId) (a_t : Nat) (a_t_path : Nat) (a_t_number : Nat) (a_t_low : Nat) (a_t_known : Nat) (a_t_bands : Nat) (a_t_bands_above : Nat) (a_p2 : Nat) (a_p2_store : Nat) (a_p2_store_row : Nat) (o_t_bands_base : Nat) (o_t_bands_leaf : Nat) (sz : Nat) (t_path_N : Nat) (t_path_F : Nat → Int32) (t_number_N : Nat) (t_number_F : Nat → Int32) (t_low_N : Nat) (t_low_F : Nat → Int32) (t_known_N : Nat) (t_known_F : Nat → Int32) (t_bands_count : Int32) (t_bands_nodes : Int32) (t_bands_style : Int32) (t_bands_above_N : Nat) (t_bands_above_F : Nat → Int32) (p2_gathered : Int32) (p2_room : Int32) (p2_store_count : Int32) (p2_store_row_N : Nat) (p2_store_row_F : Nat → Int32) (p0 : Int32) (p1 : Int32) (F : Nat) (nc ns : Nat) (u : Int32 × (Nat → Int32) × (Nat → Int32) × (Nat → Int32) × Int32 × Int32 × Int32 × Nat × (Nat → Int32)) (hf : f_Trees_tellW F t_path_N t_path_F t_number_N t_number_F t_low_N t_low_F t_known_N t_known_F t_bands_above_N t_bands_above_F p2_gathered p2_room p2_store_count p2_store_row_N p2_store_row_F p0 p1 = some (nc, ns, u)) : CTi l y_Trees_tell b_Trees_tell 9 .boolean 4 104 (dC, dI) classes [(tI, .int), (tB, .byte), (tL, .long), (tZ, .boolean)] [.ref a_t, .int p0, .int p1, .ref a_p2] [(a_t, .inr (5, [.ref a_t_bands, .ref a_t_path, .ref a_t_number, .ref a_t_low, .ref a_t_known])), (a_t_path, .inl (tI, t_path_N, .inl t_path_F)), (a_t_number, .inl (tI, t_number_N, .inl t_number_F)), (a_t_low, .inl (tI, t_low_N, .inl t_low_F)), (a_t_known, .inl (tI, t_known_N, .inl t_known_F)), (a_t_bands, .inr (0, [.ref o_t_bands_base, .ref o_t_bands_leaf, .ref a_t_bands_above, .int t_bands_count, .int t_bands_nodes, .int t_bands_style])), (a_t_bands_above, .inl (tI, t_bands_above_N, .inl t_bands_above_F)), (a_p2, .inr (2, [.ref a_p2_store, .int p2_gathered, .int p2_room])), (a_p2_store, .inr (4, [.ref a_p2_store_row, .int p2_store_count])), (a_p2_store_row, .inl (tB, p2_store_row_N, .inl p2_store_row_F))] sz (fun q : Nat => [(a_t, .inr (5, [.ref a_t_bands, .ref a_t_path, .ref a_t_number, .ref a_t_low, .ref a_t_known])), (a_t_path, .inl (tI, t_path_N, .inl u.2.1)), (a_t_number, .inl (tI, t_number_N, .inl t_number_F)), (a_t_low, .inl (tI, t_low_N, .inl u.2.2.1)), (a_t_known, .inl (tI, t_known_N, .inl u.2.2.2.1)), (a_t_bands, .inr (0, [.ref o_t_bands_base, .ref o_t_bands_leaf, .ref a_t_bands_above, .int t_bands_count, .int t_bands_nodes, .int t_bands_style])), (a_t_bands_above, .inl (tI, t_bands_above_N, .inl t_bands_above_F)), (a_p2, .inr (2, [.ref a_p2_store, .int u.2.2.2.2.1, .int u.2.2.2.2.2.1])), (a_p2_store, .inr (4, [.ref q, .int u.2.2.2.2.2.2.1])), (q, .inl (tB, u.2.2.2.2.2.2.2.1, .inl u.2.2.2.2.2.2.2.2))]) (u.1) nc ns := by
  refine mk_i (by decide) (Nat.le_of_ble_eq_true rfl) ?_
  intro p e s m args below meth c ls A Q hx hb hml hts hown hin hK hN hP hD hA hl ret
  obtain ⟨H, hH⟩ : ∃ H : Heap, H = s.heap := ⟨_, rfl⟩
  have hS : va_S A s.heap H [] := by rw [hH]; exact va_S.rf
  rw [← hH] at hP ⊢
  have hl : lv_has ls 9 [(0, .ref a_t), (1, .int p0), (2, .int p1), (3, .ref a_p2)] := hl
  have k_196 : ∀ (t_path_F : Nat → Int32) (t_low_F : Nat → Int32) (t_known_F : Nat → Int32) (p2_gathered : Int32) (p2_room : Int32) (p2_store_count : Int32) (p2_store_row_N : Nat) (p2_store_row_F : Nat → Int32) (s0 : Int32) (a_p2_store_row : Nat) (H : Heap) (locs : List Loc) (cells slots nB sB : Nat) (ls : Array Slot), va_P (dC, dI) classes [(a_t, .inr (5, [.ref a_t_bands, .ref a_t_path, .ref a_t_number, .ref a_t_low, .ref a_t_known])), (a_t_path, .inl (tI, t_path_N, .inl t_path_F)), (a_t_number, .inl (tI, t_number_N, .inl t_number_F)), (a_t_low, .inl (tI, t_low_N, .inl t_low_F)), (a_t_known, .inl (tI, t_known_N, .inl t_known_F)), (a_t_bands, .inr (0, [.ref o_t_bands_base, .ref o_t_bands_leaf, .ref a_t_bands_above, .int t_bands_count, .int t_bands_nodes, .int t_bands_style])), (a_t_bands_above, .inl (tI, t_bands_above_N, .inl t_bands_above_F)), (a_p2, .inr (2, [.ref a_p2_store, .int p2_gathered, .int p2_room])), (a_p2_store, .inr (4, [.ref a_p2_store_row, .int p2_store_count])), (a_p2_store_row, .inl (tB, p2_store_row_N, .inl p2_store_row_F))] H → va_D A [(a_t, .inr (5, [.ref a_t_bands, .ref a_t_path, .ref a_t_number, .ref a_t_low, .ref a_t_known])), (a_t_path, .inl (tI, t_path_N, .inl t_path_F)), (a_t_number, .inl (tI, t_number_N, .inl t_number_F)), (a_t_low, .inl (tI, t_low_N, .inl t_low_F)), (a_t_known, .inl (tI, t_known_N, .inl t_known_F)), (a_t_bands, .inr (0, [.ref o_t_bands_base, .ref o_t_bands_leaf, .ref a_t_bands_above, .int t_bands_count, .int t_bands_nodes, .int t_bands_style])), (a_t_bands_above, .inl (tI, t_bands_above_N, .inl t_bands_above_F)), (a_p2, .inr (2, [.ref a_p2_store, .int p2_gathered, .int p2_room])), (a_p2_store, .inr (4, [.ref a_p2_store_row, .int p2_store_count])), (a_p2_store_row, .inl (tB, p2_store_row_N, .inl p2_store_row_F))] → va_S A s.heap H locs → lv_has ls 9 [] → (cells + nB ≤ nc ∧ slots + sB ≤ ns) → g_Trees_tellW_196 F t_path_F t_low_F t_known_F p2_gathered p2_room p2_store_count p2_store_row_N p2_store_row_F s0 = some (nB, sB, u) → W p l e ({ frames := 4, cells := nc, slots := ns, locals := 104 } : Room) s m args below meth c H locs cells slots Q (F0 m 196 ls [.int s0]) := by
    intro t_path_F t_low_F t_known_F p2_gathered p2_room p2_store_count p2_store_row_N p2_store_row_F s0 a_p2_store_row H locs cells slots nB sB ls hP hD hS hl hc hf
    unfold g_Trees_tellW_196 at hf
    obtain ⟨hn9, hf⟩ := asm_of hf
    have hf := Option.some.inj hf
    have hf : _ = u := congrArg (fun z => z.2.2) hf
    subst u
    exact ret _ _ _ _ _ _ a_p2_store_row d_Trees_tell_196 hn9 hP hD hS (Nat.le_trans (Nat.le_add_right _ _) hc.1) (Nat.le_trans (Nat.le_add_right _ _) hc.2)
  have k_166 : ∀ (rec55 : (Nat → Int32) → (Nat → Int32) → (Nat → Int32) → Int32 → Int32 → Int32 → Nat → (Nat → Int32) → Int32 → Int32 → Int32 → Int32 → Option (Nat × Nat × Int32 × (Nat → Int32) × (Nat → Int32) × (Nat → Int32) × Int32 × Int32 × Int32 × Nat × (Nat → Int32))), (∀ (t_path_F : Nat → Int32) (t_low_F : Nat → Int32) (t_known_F : Nat → Int32) (p2_gathered : Int32) (p2_room : Int32) (p2_store_count : Int32) (p2_store_row_N : Nat) (p2_store_row_F : Nat → Int32) (v1 : Int32) (v2 : Int32) (v5 : Int32) (v6 : Int32) (a_p2_store_row : Nat) (H : Heap) (locs : List Loc) (cells slots nB sB : Nat) (ls : Array Slot), va_P (dC, dI) classes [(a_t, .inr (5, [.ref a_t_bands, .ref a_t_path, .ref a_t_number, .ref a_t_low, .ref a_t_known])), (a_t_path, .inl (tI, t_path_N, .inl t_path_F)), (a_t_number, .inl (tI, t_number_N, .inl t_number_F)), (a_t_low, .inl (tI, t_low_N, .inl t_low_F)), (a_t_known, .inl (tI, t_known_N, .inl t_known_F)), (a_t_bands, .inr (0, [.ref o_t_bands_base, .ref o_t_bands_leaf, .ref a_t_bands_above, .int t_bands_count, .int t_bands_nodes, .int t_bands_style])), (a_t_bands_above, .inl (tI, t_bands_above_N, .inl t_bands_above_F)), (a_p2, .inr (2, [.ref a_p2_store, .int p2_gathered, .int p2_room])), (a_p2_store, .inr (4, [.ref a_p2_store_row, .int p2_store_count])), (a_p2_store_row, .inl (tB, p2_store_row_N, .inl p2_store_row_F))] H → va_D A [(a_t, .inr (5, [.ref a_t_bands, .ref a_t_path, .ref a_t_number, .ref a_t_low, .ref a_t_known])), (a_t_path, .inl (tI, t_path_N, .inl t_path_F)), (a_t_number, .inl (tI, t_number_N, .inl t_number_F)), (a_t_low, .inl (tI, t_low_N, .inl t_low_F)), (a_t_known, .inl (tI, t_known_N, .inl t_known_F)), (a_t_bands, .inr (0, [.ref o_t_bands_base, .ref o_t_bands_leaf, .ref a_t_bands_above, .int t_bands_count, .int t_bands_nodes, .int t_bands_style])), (a_t_bands_above, .inl (tI, t_bands_above_N, .inl t_bands_above_F)), (a_p2, .inr (2, [.ref a_p2_store, .int p2_gathered, .int p2_room])), (a_p2_store, .inr (4, [.ref a_p2_store_row, .int p2_store_count])), (a_p2_store_row, .inl (tB, p2_store_row_N, .inl p2_store_row_F))] → va_S A s.heap H locs → lv_has ls 9 [(0, .ref a_t), (1, .int v1), (2, .int v2), (3, .ref a_p2), (5, .int v5), (6, .int v6)] → (cells + nB ≤ nc ∧ slots + sB ≤ ns) → rec55 t_path_F t_low_F t_known_F p2_gathered p2_room p2_store_count p2_store_row_N p2_store_row_F v1 v2 v5 v6 = some (nB, sB, u) → W p l e ({ frames := 4, cells := nc, slots := ns, locals := 104 } : Room) s m args below meth c H locs cells slots Q (F0 m 55 ls [])) → ∀ (t_path_F : Nat → Int32) (t_low_F : Nat → Int32) (t_known_F : Nat → Int32) (p2_gathered : Int32) (p2_room : Int32) (p2_store_count : Int32) (p2_store_row_N : Nat) (p2_store_row_F : Nat → Int32) (v1 : Int32) (v2 : Int32) (v6 : Int32) (v7 : Int32) (a_p2_store_row : Nat) (H : Heap) (locs : List Loc) (cells slots nB sB : Nat) (ls : Array Slot), va_P (dC, dI) classes [(a_t, .inr (5, [.ref a_t_bands, .ref a_t_path, .ref a_t_number, .ref a_t_low, .ref a_t_known])), (a_t_path, .inl (tI, t_path_N, .inl t_path_F)), (a_t_number, .inl (tI, t_number_N, .inl t_number_F)), (a_t_low, .inl (tI, t_low_N, .inl t_low_F)), (a_t_known, .inl (tI, t_known_N, .inl t_known_F)), (a_t_bands, .inr (0, [.ref o_t_bands_base, .ref o_t_bands_leaf, .ref a_t_bands_above, .int t_bands_count, .int t_bands_nodes, .int t_bands_style])), (a_t_bands_above, .inl (tI, t_bands_above_N, .inl t_bands_above_F)), (a_p2, .inr (2, [.ref a_p2_store, .int p2_gathered, .int p2_room])), (a_p2_store, .inr (4, [.ref a_p2_store_row, .int p2_store_count])), (a_p2_store_row, .inl (tB, p2_store_row_N, .inl p2_store_row_F))] H → va_D A [(a_t, .inr (5, [.ref a_t_bands, .ref a_t_path, .ref a_t_number, .ref a_t_low, .ref a_t_known])), (a_t_path, .inl (tI, t_path_N, .inl t_path_F)), (a_t_number, .inl (tI, t_number_N, .inl t_number_F)), (a_t_low, .inl (tI, t_low_N, .inl t_low_F)), (a_t_known, .inl (tI, t_known_N, .inl t_known_F)), (a_t_bands, .inr (0, [.ref o_t_bands_base, .ref o_t_bands_leaf, .ref a_t_bands_above, .int t_bands_count, .int t_bands_nodes, .int t_bands_style])), (a_t_bands_above, .inl (tI, t_bands_above_N, .inl t_bands_above_F)), (a_p2, .inr (2, [.ref a_p2_store, .int p2_gathered, .int p2_room])), (a_p2_store, .inr (4, [.ref a_p2_store_row, .int p2_store_count])), (a_p2_store_row, .inl (tB, p2_store_row_N, .inl p2_store_row_F))] → va_S A s.heap H locs → lv_has ls 9 [(0, .ref a_t), (1, .int v1), (2, .int v2), (3, .ref a_p2), (6, .int v6), (7, .int v7)] → (cells + nB ≤ nc ∧ slots + sB ≤ ns) → g_Trees_tellW_166 F rec55 t_low_N t_path_F t_low_F t_known_F p2_gathered p2_room p2_store_count p2_store_row_N p2_store_row_F v1 v2 v6 v7 = some (nB, sB, u) → W p l e ({ frames := 4, cells := nc, slots := ns, locals := 104 } : Room) s m args below meth c H locs cells slots Q (F0 m 166 ls []) := by
    intro rec55 h55 t_path_F t_low_F t_known_F p2_gathered p2_room p2_store_count p2_store_row_N p2_store_row_F v1 v2 v6 v7 a_p2_store_row H locs cells slots nB sB ls hP hD hS hl hc hf
    unfold g_Trees_tellW_166 at hf
    refine lv_aload_n hx hb d_Trees_tell_166 rfl (lv_at hl 0 rfl) ?_
    refine va_get (D := (dC, dI)) (ci := 5) (v := .ref a_t_low) (C := R_Trees) (T := F_Trees) (N := 5) hx hb hts i_Trees hown hK hP 0 rfl rfl 3 (by decide) (hts _ q_104) (fun _ h9 => h9) rfl d_Trees_tell_167 ?_
    refine lv_iload hx hb d_Trees_tell_170 (lv_at hl 5 rfl) ?_
    obtain ⟨hin9, hf⟩ := asm_of hf
    refine va_iald hx hb hK hP 3 0 rfl rfl hin9 d_Trees_tell_172 ?_
    refine lv_topi (fun x21 ex21 => ?_)
    have hf := letb_of hf ex21
    refine lv_istore (lv' := [(5, .int x21), (0, .ref a_t), (1, .int v1), (2, .int v2), (3, .ref a_p2), (6, .int v6), (7, .int v7)]) hx hb d_Trees_tell_173 hl (by decide) rfl (fun ls hl => ?_)
    obtain ⟨x22, ex22⟩ : ∃ y : Int32, y = v6 + (-1) := ⟨_, rfl⟩
    have hf := letb_of hf ex22
    refine lv_iinc (v := x22) (lv' := [(6, .int x22), (5, .int x21), (0, .ref a_t), (1, .int v1), (2, .int v2), (3, .ref a_p2), (7, .int v7)]) hx hb d_Trees_tell_175 hl (k := 5) rfl (by rw [ex22]; rfl) (by decide) rfl (fun ls hl => ?_)
    refine lv_goto (tgt := 55) hx hb d_Trees_tell_178 (by decide) ?_
    exact h55 t_path_F t_low_F t_known_F p2_gathered p2_room p2_store_count p2_store_row_N p2_store_row_F v1 v2 x21 x22 a_p2_store_row _ _ _ _ _ _ ls hP hD hS (lv_sub hl [2, 3, 4, 5, 1, 0] rfl) hc hf
  have k_137 : ∀ (rec55 : (Nat → Int32) → (Nat → Int32) → (Nat → Int32) → Int32 → Int32 → Int32 → Nat → (Nat → Int32) → Int32 → Int32 → Int32 → Int32 → Option (Nat × Nat × Int32 × (Nat → Int32) × (Nat → Int32) × (Nat → Int32) × Int32 × Int32 × Int32 × Nat × (Nat → Int32))), (∀ (t_path_F : Nat → Int32) (t_low_F : Nat → Int32) (t_known_F : Nat → Int32) (p2_gathered : Int32) (p2_room : Int32) (p2_store_count : Int32) (p2_store_row_N : Nat) (p2_store_row_F : Nat → Int32) (v1 : Int32) (v2 : Int32) (v5 : Int32) (v6 : Int32) (a_p2_store_row : Nat) (H : Heap) (locs : List Loc) (cells slots nB sB : Nat) (ls : Array Slot), va_P (dC, dI) classes [(a_t, .inr (5, [.ref a_t_bands, .ref a_t_path, .ref a_t_number, .ref a_t_low, .ref a_t_known])), (a_t_path, .inl (tI, t_path_N, .inl t_path_F)), (a_t_number, .inl (tI, t_number_N, .inl t_number_F)), (a_t_low, .inl (tI, t_low_N, .inl t_low_F)), (a_t_known, .inl (tI, t_known_N, .inl t_known_F)), (a_t_bands, .inr (0, [.ref o_t_bands_base, .ref o_t_bands_leaf, .ref a_t_bands_above, .int t_bands_count, .int t_bands_nodes, .int t_bands_style])), (a_t_bands_above, .inl (tI, t_bands_above_N, .inl t_bands_above_F)), (a_p2, .inr (2, [.ref a_p2_store, .int p2_gathered, .int p2_room])), (a_p2_store, .inr (4, [.ref a_p2_store_row, .int p2_store_count])), (a_p2_store_row, .inl (tB, p2_store_row_N, .inl p2_store_row_F))] H → va_D A [(a_t, .inr (5, [.ref a_t_bands, .ref a_t_path, .ref a_t_number, .ref a_t_low, .ref a_t_known])), (a_t_path, .inl (tI, t_path_N, .inl t_path_F)), (a_t_number, .inl (tI, t_number_N, .inl t_number_F)), (a_t_low, .inl (tI, t_low_N, .inl t_low_F)), (a_t_known, .inl (tI, t_known_N, .inl t_known_F)), (a_t_bands, .inr (0, [.ref o_t_bands_base, .ref o_t_bands_leaf, .ref a_t_bands_above, .int t_bands_count, .int t_bands_nodes, .int t_bands_style])), (a_t_bands_above, .inl (tI, t_bands_above_N, .inl t_bands_above_F)), (a_p2, .inr (2, [.ref a_p2_store, .int p2_gathered, .int p2_room])), (a_p2_store, .inr (4, [.ref a_p2_store_row, .int p2_store_count])), (a_p2_store_row, .inl (tB, p2_store_row_N, .inl p2_store_row_F))] → va_S A s.heap H locs → lv_has ls 9 [(0, .ref a_t), (1, .int v1), (2, .int v2), (3, .ref a_p2), (5, .int v5), (6, .int v6)] → (cells + nB ≤ nc ∧ slots + sB ≤ ns) → rec55 t_path_F t_low_F t_known_F p2_gathered p2_room p2_store_count p2_store_row_N p2_store_row_F v1 v2 v5 v6 = some (nB, sB, u) → W p l e ({ frames := 4, cells := nc, slots := ns, locals := 104 } : Room) s m args below meth c H locs cells slots Q (F0 m 55 ls [])) → ∀ (rec97 : (Nat → Int32) → (Nat → Int32) → (Nat → Int32) → Int32 → Int32 → Int32 → Nat → (Nat → Int32) → Int32 → Int32 → Int32 → Int32 → Int32 → Option (Nat × Nat × Int32 × (Nat → Int32) × (Nat → Int32) × (Nat → Int32) × Int32 × Int32 × Int32 × Nat × (Nat → Int32))), (∀ (t_path_F : Nat → Int32) (t_low_F : Nat → Int32) (t_known_F : Nat → Int32) (p2_gathered : Int32) (p2_room : Int32) (p2_store_count : Int32) (p2_store_row_N : Nat) (p2_store_row_F : Nat → Int32) (v1 : Int32) (v2 : Int32) (v6 : Int32) (v7 : Int32) (v8 : Int32) (a_p2_store_row : Nat) (H : Heap) (locs : List Loc) (cells slots nB sB : Nat) (ls : Array Slot), va_P (dC, dI) classes [(a_t, .inr (5, [.ref a_t_bands, .ref a_t_path, .ref a_t_number, .ref a_t_low, .ref a_t_known])), (a_t_path, .inl (tI, t_path_N, .inl t_path_F)), (a_t_number, .inl (tI, t_number_N, .inl t_number_F)), (a_t_low, .inl (tI, t_low_N, .inl t_low_F)), (a_t_known, .inl (tI, t_known_N, .inl t_known_F)), (a_t_bands, .inr (0, [.ref o_t_bands_base, .ref o_t_bands_leaf, .ref a_t_bands_above, .int t_bands_count, .int t_bands_nodes, .int t_bands_style])), (a_t_bands_above, .inl (tI, t_bands_above_N, .inl t_bands_above_F)), (a_p2, .inr (2, [.ref a_p2_store, .int p2_gathered, .int p2_room])), (a_p2_store, .inr (4, [.ref a_p2_store_row, .int p2_store_count])), (a_p2_store_row, .inl (tB, p2_store_row_N, .inl p2_store_row_F))] H → va_D A [(a_t, .inr (5, [.ref a_t_bands, .ref a_t_path, .ref a_t_number, .ref a_t_low, .ref a_t_known])), (a_t_path, .inl (tI, t_path_N, .inl t_path_F)), (a_t_number, .inl (tI, t_number_N, .inl t_number_F)), (a_t_low, .inl (tI, t_low_N, .inl t_low_F)), (a_t_known, .inl (tI, t_known_N, .inl t_known_F)), (a_t_bands, .inr (0, [.ref o_t_bands_base, .ref o_t_bands_leaf, .ref a_t_bands_above, .int t_bands_count, .int t_bands_nodes, .int t_bands_style])), (a_t_bands_above, .inl (tI, t_bands_above_N, .inl t_bands_above_F)), (a_p2, .inr (2, [.ref a_p2_store, .int p2_gathered, .int p2_room])), (a_p2_store, .inr (4, [.ref a_p2_store_row, .int p2_store_count])), (a_p2_store_row, .inl (tB, p2_store_row_N, .inl p2_store_row_F))] → va_S A s.heap H locs → lv_has ls 9 [(0, .ref a_t), (1, .int v1), (2, .int v2), (3, .ref a_p2), (6, .int v6), (7, .int v7), (8, .int v8)] → (cells + nB ≤ nc ∧ slots + sB ≤ ns) → rec97 t_path_F t_low_F t_known_F p2_gathered p2_room p2_store_count p2_store_row_N p2_store_row_F v1 v2 v6 v7 v8 = some (nB, sB, u) → W p l e ({ frames := 4, cells := nc, slots := ns, locals := 104 } : Room) s m args below meth c H locs cells slots Q (F0 m 97 ls [])) → ∀ (t_path_F : Nat → Int32) (t_low_F : Nat → Int32) (t_known_F : Nat → Int32) (p2_gathered : Int32) (p2_room : Int32) (p2_store_count : Int32) (p2_store_row_N : Nat) (p2_store_row_F : Nat → Int32) (v1 : Int32) (v2 : Int32) (v6 : Int32) (v7 : Int32) (v8 : Int32) (s0 : Int32) (s2 : Int32) (a_p2_store_row : Nat) (H : Heap) (locs : List Loc) (cells slots nB sB : Nat) (ls : Array Slot), va_P (dC, dI) classes [(a_t, .inr (5, [.ref a_t_bands, .ref a_t_path, .ref a_t_number, .ref a_t_low, .ref a_t_known])), (a_t_path, .inl (tI, t_path_N, .inl t_path_F)), (a_t_number, .inl (tI, t_number_N, .inl t_number_F)), (a_t_low, .inl (tI, t_low_N, .inl t_low_F)), (a_t_known, .inl (tI, t_known_N, .inl t_known_F)), (a_t_bands, .inr (0, [.ref o_t_bands_base, .ref o_t_bands_leaf, .ref a_t_bands_above, .int t_bands_count, .int t_bands_nodes, .int t_bands_style])), (a_t_bands_above, .inl (tI, t_bands_above_N, .inl t_bands_above_F)), (a_p2, .inr (2, [.ref a_p2_store, .int p2_gathered, .int p2_room])), (a_p2_store, .inr (4, [.ref a_p2_store_row, .int p2_store_count])), (a_p2_store_row, .inl (tB, p2_store_row_N, .inl p2_store_row_F))] H → va_D A [(a_t, .inr (5, [.ref a_t_bands, .ref a_t_path, .ref a_t_number, .ref a_t_low, .ref a_t_known])), (a_t_path, .inl (tI, t_path_N, .inl t_path_F)), (a_t_number, .inl (tI, t_number_N, .inl t_number_F)), (a_t_low, .inl (tI, t_low_N, .inl t_low_F)), (a_t_known, .inl (tI, t_known_N, .inl t_known_F)), (a_t_bands, .inr (0, [.ref o_t_bands_base, .ref o_t_bands_leaf, .ref a_t_bands_above, .int t_bands_count, .int t_bands_nodes, .int t_bands_style])), (a_t_bands_above, .inl (tI, t_bands_above_N, .inl t_bands_above_F)), (a_p2, .inr (2, [.ref a_p2_store, .int p2_gathered, .int p2_room])), (a_p2_store, .inr (4, [.ref a_p2_store_row, .int p2_store_count])), (a_p2_store_row, .inl (tB, p2_store_row_N, .inl p2_store_row_F))] → va_S A s.heap H locs → lv_has ls 9 [(0, .ref a_t), (1, .int v1), (2, .int v2), (3, .ref a_p2), (6, .int v6), (7, .int v7), (8, .int v8)] → (cells + nB ≤ nc ∧ slots + sB ≤ ns) → g_Trees_tellW_137 F rec55 rec97 t_low_N t_known_N t_path_F t_low_F t_known_F p2_gathered p2_room p2_store_count p2_store_row_N p2_store_row_F v1 v2 v6 v7 v8 s0 s2 = some (nB, sB, u) → W p l e ({ frames := 4, cells := nc, slots := ns, locals := 104 } : Room) s m args below meth c H locs cells slots Q (F0 m 137 ls [.int s0, .ref a_p2, .int s2, .ref a_t_known]) := by
    intro rec55 h55 rec97 h97 t_path_F t_low_F t_known_F p2_gathered p2_room p2_store_count p2_store_row_N p2_store_row_F v1 v2 v6 v7 v8 s0 s2 a_p2_store_row H locs cells slots nB sB ls hP hD hS hl hc hf
    unfold g_Trees_tellW_137 at hf
    obtain ⟨u23, hu, hf⟩ := bd_of hf
    obtain ⟨nB24, sB25, hf, ha9, hb9⟩ := addc_of hf
    have hcc : cells + u23.1 ≤ nc ∧ slots + u23.2.1 ≤ ns := ⟨by omega, by omega⟩
    have hc : cells + u23.1 + nB24 ≤ nc ∧ slots + u23.2.1 + sB25 ≤ ns := ⟨by omega, by omega⟩
    refine jn_i (wc := [(a_p2, .inr (2, [.ref a_p2_store, .int p2_gathered, .int p2_room])), (a_p2_store, .inr (4, [.ref a_p2_store_row, .int p2_store_count])), (a_p2_store_row, .inl (tB, p2_store_row_N, .inl p2_store_row_F))]) (wr := [(a_t, .inr (5, [.ref a_t_bands, .ref a_t_path, .ref a_t_number, .ref a_t_low, .ref a_t_known])), (a_t_path, .inl (tI, t_path_N, .inl t_path_F)), (a_t_number, .inl (tI, t_number_N, .inl t_number_F)), (a_t_low, .inl (tI, t_low_N, .inl t_low_F)), (a_t_known, .inl (tI, t_known_N, .inl t_known_F)), (a_t_bands, .inr (0, [.ref o_t_bands_base, .ref o_t_bands_leaf, .ref a_t_bands_above, .int t_bands_count, .int t_bands_nodes, .int t_bands_style])), (a_t_bands_above, .inl (tI, t_bands_above_N, .inl t_bands_above_F))]) (va_runU (As := [.int s0]) (rest := [.int s2, .ref a_t_known]) ⟨hx, hb, hml, hown, hts⟩ (c_Sink_bit l dC dI tI tB tL tZ a_p2 a_p2_store a_p2_store_row H.size p2_gathered p2_room p2_store_count p2_store_row_N p2_store_row_F s0 F u23.1 u23.2.1 u23.2.2 hu) (ca_of hts hN q_67 q_112 q_65 q_62 q_61 q_64 q_66 hd_Bits_bit ⟨Nat.le_of_ble_eq_true rfl, Nat.le_of_ble_eq_true rfl⟩) (pr_V (ci := 2) (C := R_Sink) (q0 := 0) hK hN (hP.sub [7, 8, 9] rfl) (hD.sub [7, 8, 9] (by decide) rfl) rfl rfl) rfl rfl hl.1 rfl (lv_room (Nat.le_of_ble_eq_true rfl)) d_Trees_tell_137 hcc) hP hD hS hA [7, 8, 9] [0, 1, 2, 3, 4, 5, 6] rfl rfl (by decide) (by decide) (fun r9 ad26 H locs hw hP hD hS => ?_)
    subst r9
    have hP : va_P (dC, dI) classes [(a_t, .inr (5, [.ref a_t_bands, .ref a_t_path, .ref a_t_number, .ref a_t_low, .ref a_t_known])), (a_t_path, .inl (tI, t_path_N, .inl t_path_F)), (a_t_number, .inl (tI, t_number_N, .inl t_number_F)), (a_t_low, .inl (tI, t_low_N, .inl t_low_F)), (a_t_known, .inl (tI, t_known_N, .inl t_known_F)), (a_t_bands, .inr (0, [.ref o_t_bands_base, .ref o_t_bands_leaf, .ref a_t_bands_above, .int t_bands_count, .int t_bands_nodes, .int t_bands_style])), (a_t_bands_above, .inl (tI, t_bands_above_N, .inl t_bands_above_F)), (a_p2, .inr (2, [.ref a_p2_store, .int u23.2.2.2.1, .int u23.2.2.2.2.1])), (a_p2_store, .inr (4, [.ref ad26, .int u23.2.2.2.2.2.1])), (ad26, .inl (tB, u23.2.2.2.2.2.2.1, .inl u23.2.2.2.2.2.2.2))] H := hP
    have hD : va_D A [(a_t, .inr (5, [.ref a_t_bands, .ref a_t_path, .ref a_t_number, .ref a_t_low, .ref a_t_known])), (a_t_path, .inl (tI, t_path_N, .inl t_path_F)), (a_t_number, .inl (tI, t_number_N, .inl t_number_F)), (a_t_low, .inl (tI, t_low_N, .inl t_low_F)), (a_t_known, .inl (tI, t_known_N, .inl t_known_F)), (a_t_bands, .inr (0, [.ref o_t_bands_base, .ref o_t_bands_leaf, .ref a_t_bands_above, .int t_bands_count, .int t_bands_nodes, .int t_bands_style])), (a_t_bands_above, .inl (tI, t_bands_above_N, .inl t_bands_above_F)), (a_p2, .inr (2, [.ref a_p2_store, .int u23.2.2.2.1, .int u23.2.2.2.2.1])), (a_p2_store, .inr (4, [.ref ad26, .int u23.2.2.2.2.2.1])), (ad26, .inl (tB, u23.2.2.2.2.2.2.1, .inl u23.2.2.2.2.2.2.2))] := hD
    obtain ⟨hin9, hf⟩ := asm_of hf
    refine va_iast hx hb hK hP hD hS 4 0 rfl rfl hin9 d_Trees_tell_140 (fun H locs hP hD hS => ?_)
    have hP : va_P (dC, dI) classes [(a_t, .inr (5, [.ref a_t_bands, .ref a_t_path, .ref a_t_number, .ref a_t_low, .ref a_t_known])), (a_t_path, .inl (tI, t_path_N, .inl t_path_F)), (a_t_number, .inl (tI, t_number_N, .inl t_number_F)), (a_t_low, .inl (tI, t_low_N, .inl t_low_F)), (a_t_known, .inl (tI, t_known_N, .inl (upd t_known_F s2.toNatClampNeg u23.2.2.1))), (a_t_bands, .inr (0, [.ref o_t_bands_base, .ref o_t_bands_leaf, .ref a_t_bands_above, .int t_bands_count, .int t_bands_nodes, .int t_bands_style])), (a_t_bands_above, .inl (tI, t_bands_above_N, .inl t_bands_above_F)), (a_p2, .inr (2, [.ref a_p2_store, .int u23.2.2.2.1, .int u23.2.2.2.2.1])), (a_p2_store, .inr (4, [.ref ad26, .int u23.2.2.2.2.2.1])), (ad26, .inl (tB, u23.2.2.2.2.2.2.1, .inl u23.2.2.2.2.2.2.2))] H := hP
    have hD : va_D A [(a_t, .inr (5, [.ref a_t_bands, .ref a_t_path, .ref a_t_number, .ref a_t_low, .ref a_t_known])), (a_t_path, .inl (tI, t_path_N, .inl t_path_F)), (a_t_number, .inl (tI, t_number_N, .inl t_number_F)), (a_t_low, .inl (tI, t_low_N, .inl t_low_F)), (a_t_known, .inl (tI, t_known_N, .inl (upd t_known_F s2.toNatClampNeg u23.2.2.1))), (a_t_bands, .inr (0, [.ref o_t_bands_base, .ref o_t_bands_leaf, .ref a_t_bands_above, .int t_bands_count, .int t_bands_nodes, .int t_bands_style])), (a_t_bands_above, .inl (tI, t_bands_above_N, .inl t_bands_above_F)), (a_p2, .inr (2, [.ref a_p2_store, .int u23.2.2.2.1, .int u23.2.2.2.2.1])), (a_p2_store, .inr (4, [.ref ad26, .int u23.2.2.2.2.2.1])), (ad26, .inl (tB, u23.2.2.2.2.2.2.1, .inl u23.2.2.2.2.2.2.2))] := hD
    refine lv_aload_n hx hb d_Trees_tell_141 rfl (lv_at hl 0 rfl) ?_
    refine va_get (D := (dC, dI)) (ci := 5) (v := .ref a_t_low) (C := R_Trees) (T := F_Trees) (N := 5) hx hb hts i_Trees hown hK hP 0 rfl rfl 3 (by decide) (hts _ q_104) (fun _ h9 => h9) rfl d_Trees_tell_142 ?_
    refine lv_iload hx hb d_Trees_tell_145 (lv_at hl 5 rfl) ?_
    refine lv_iload hx hb d_Trees_tell_147 (lv_at hl 6 rfl) ?_
    refine lv_iconst (v := 1) hx hb d_Trees_tell_149 (by decide) ?_
    refine lv_iadd hx hb d_Trees_tell_150 ?_
    refine lv_topi (fun x27 ex27 => ?_)
    have hf := letb_of hf ex27
    refine lv_aload_n hx hb d_Trees_tell_151 rfl (lv_at hl 0 rfl) ?_
    refine va_get (D := (dC, dI)) (ci := 5) (v := .ref a_t_known) (C := R_Trees) (T := F_Trees) (N := 5) hx hb hts i_Trees hown hK hP 0 rfl rfl 4 (by decide) (hts _ q_105) (fun _ h9 => h9) rfl d_Trees_tell_152 ?_
    refine lv_iload hx hb d_Trees_tell_155 (lv_at hl 5 rfl) ?_
    obtain ⟨hin9, hf⟩ := asm_of hf
    refine va_iald hx hb hK hP 4 0 rfl rfl hin9 d_Trees_tell_157 ?_
    refine lv_topi (fun x28 ex28 => ?_)
    have hf := letb_of hf ex28
    refine lv_isub hx hb d_Trees_tell_158 ?_
    refine lv_topi (fun x29 ex29 => ?_)
    have hf := letb_of hf ex29
    obtain ⟨hin9, hf⟩ := asm_of hf
    refine va_iast hx hb hK hP hD hS 3 0 rfl rfl hin9 d_Trees_tell_159 (fun H locs hP hD hS => ?_)
    have hP : va_P (dC, dI) classes [(a_t, .inr (5, [.ref a_t_bands, .ref a_t_path, .ref a_t_number, .ref a_t_low, .ref a_t_known])), (a_t_path, .inl (tI, t_path_N, .inl t_path_F)), (a_t_number, .inl (tI, t_number_N, .inl t_number_F)), (a_t_low, .inl (tI, t_low_N, .inl (upd t_low_F v7.toNatClampNeg x29))), (a_t_known, .inl (tI, t_known_N, .inl (upd t_known_F s2.toNatClampNeg u23.2.2.1))), (a_t_bands, .inr (0, [.ref o_t_bands_base, .ref o_t_bands_leaf, .ref a_t_bands_above, .int t_bands_count, .int t_bands_nodes, .int t_bands_style])), (a_t_bands_above, .inl (tI, t_bands_above_N, .inl t_bands_above_F)), (a_p2, .inr (2, [.ref a_p2_store, .int u23.2.2.2.1, .int u23.2.2.2.2.1])), (a_p2_store, .inr (4, [.ref ad26, .int u23.2.2.2.2.2.1])), (ad26, .inl (tB, u23.2.2.2.2.2.2.1, .inl u23.2.2.2.2.2.2.2))] H := hP
    have hD : va_D A [(a_t, .inr (5, [.ref a_t_bands, .ref a_t_path, .ref a_t_number, .ref a_t_low, .ref a_t_known])), (a_t_path, .inl (tI, t_path_N, .inl t_path_F)), (a_t_number, .inl (tI, t_number_N, .inl t_number_F)), (a_t_low, .inl (tI, t_low_N, .inl (upd t_low_F v7.toNatClampNeg x29))), (a_t_known, .inl (tI, t_known_N, .inl (upd t_known_F s2.toNatClampNeg u23.2.2.1))), (a_t_bands, .inr (0, [.ref o_t_bands_base, .ref o_t_bands_leaf, .ref a_t_bands_above, .int t_bands_count, .int t_bands_nodes, .int t_bands_style])), (a_t_bands_above, .inl (tI, t_bands_above_N, .inl t_bands_above_F)), (a_p2, .inr (2, [.ref a_p2_store, .int u23.2.2.2.1, .int u23.2.2.2.2.1])), (a_p2_store, .inr (4, [.ref ad26, .int u23.2.2.2.2.2.1])), (ad26, .inl (tB, u23.2.2.2.2.2.2.1, .inl u23.2.2.2.2.2.2.2))] := hD
    obtain ⟨x30, ex30⟩ : ∃ y : Int32, y = v8 + 1 := ⟨_, rfl⟩
    have hf := letb_of hf ex30
    refine lv_iinc (v := x30) (lv' := [(8, .int x30), (0, .ref a_t), (1, .int v1), (2, .int v2), (3, .ref a_p2), (6, .int v6), (7, .int v7)]) hx hb d_Trees_tell_160 hl (k := 6) rfl (by rw [ex30]; rfl) (by decide) rfl (fun ls hl => ?_)
    refine lv_goto (tgt := 97) hx hb d_Trees_tell_163 (by decide) ?_
    exact h97 t_path_F (upd t_low_F v7.toNatClampNeg x29) (upd t_known_F s2.toNatClampNeg u23.2.2.1) u23.2.2.2.1 u23.2.2.2.2.1 u23.2.2.2.2.2.1 u23.2.2.2.2.2.2.1 u23.2.2.2.2.2.2.2 v1 v2 v6 v7 x30 ad26 _ _ _ _ _ _ ls hP hD hS (lv_sub hl [1, 2, 3, 4, 5, 6, 0] rfl) hc hf
  have k_97 : ∀ (rec55 : (Nat → Int32) → (Nat → Int32) → (Nat → Int32) → Int32 → Int32 → Int32 → Nat → (Nat → Int32) → Int32 → Int32 → Int32 → Int32 → Option (Nat × Nat × Int32 × (Nat → Int32) × (Nat → Int32) × (Nat → Int32) × Int32 × Int32 × Int32 × Nat × (Nat → Int32))), (∀ (t_path_F : Nat → Int32) (t_low_F : Nat → Int32) (t_known_F : Nat → Int32) (p2_gathered : Int32) (p2_room : Int32) (p2_store_count : Int32) (p2_store_row_N : Nat) (p2_store_row_F : Nat → Int32) (v1 : Int32) (v2 : Int32) (v5 : Int32) (v6 : Int32) (a_p2_store_row : Nat) (H : Heap) (locs : List Loc) (cells slots nB sB : Nat) (ls : Array Slot), va_P (dC, dI) classes [(a_t, .inr (5, [.ref a_t_bands, .ref a_t_path, .ref a_t_number, .ref a_t_low, .ref a_t_known])), (a_t_path, .inl (tI, t_path_N, .inl t_path_F)), (a_t_number, .inl (tI, t_number_N, .inl t_number_F)), (a_t_low, .inl (tI, t_low_N, .inl t_low_F)), (a_t_known, .inl (tI, t_known_N, .inl t_known_F)), (a_t_bands, .inr (0, [.ref o_t_bands_base, .ref o_t_bands_leaf, .ref a_t_bands_above, .int t_bands_count, .int t_bands_nodes, .int t_bands_style])), (a_t_bands_above, .inl (tI, t_bands_above_N, .inl t_bands_above_F)), (a_p2, .inr (2, [.ref a_p2_store, .int p2_gathered, .int p2_room])), (a_p2_store, .inr (4, [.ref a_p2_store_row, .int p2_store_count])), (a_p2_store_row, .inl (tB, p2_store_row_N, .inl p2_store_row_F))] H → va_D A [(a_t, .inr (5, [.ref a_t_bands, .ref a_t_path, .ref a_t_number, .ref a_t_low, .ref a_t_known])), (a_t_path, .inl (tI, t_path_N, .inl t_path_F)), (a_t_number, .inl (tI, t_number_N, .inl t_number_F)), (a_t_low, .inl (tI, t_low_N, .inl t_low_F)), (a_t_known, .inl (tI, t_known_N, .inl t_known_F)), (a_t_bands, .inr (0, [.ref o_t_bands_base, .ref o_t_bands_leaf, .ref a_t_bands_above, .int t_bands_count, .int t_bands_nodes, .int t_bands_style])), (a_t_bands_above, .inl (tI, t_bands_above_N, .inl t_bands_above_F)), (a_p2, .inr (2, [.ref a_p2_store, .int p2_gathered, .int p2_room])), (a_p2_store, .inr (4, [.ref a_p2_store_row, .int p2_store_count])), (a_p2_store_row, .inl (tB, p2_store_row_N, .inl p2_store_row_F))] → va_S A s.heap H locs → lv_has ls 9 [(0, .ref a_t), (1, .int v1), (2, .int v2), (3, .ref a_p2), (5, .int v5), (6, .int v6)] → (cells + nB ≤ nc ∧ slots + sB ≤ ns) → rec55 t_path_F t_low_F t_known_F p2_gathered p2_room p2_store_count p2_store_row_N p2_store_row_F v1 v2 v5 v6 = some (nB, sB, u) → W p l e ({ frames := 4, cells := nc, slots := ns, locals := 104 } : Room) s m args below meth c H locs cells slots Q (F0 m 55 ls [])) → ∀ n : Nat, ∀ (t_path_F : Nat → Int32) (t_low_F : Nat → Int32) (t_known_F : Nat → Int32) (p2_gathered : Int32) (p2_room : Int32) (p2_store_count : Int32) (p2_store_row_N : Nat) (p2_store_row_F : Nat → Int32) (v1 : Int32) (v2 : Int32) (v6 : Int32) (v7 : Int32) (v8 : Int32) (a_p2_store_row : Nat) (H : Heap) (locs : List Loc) (cells slots nB sB : Nat) (ls : Array Slot), va_P (dC, dI) classes [(a_t, .inr (5, [.ref a_t_bands, .ref a_t_path, .ref a_t_number, .ref a_t_low, .ref a_t_known])), (a_t_path, .inl (tI, t_path_N, .inl t_path_F)), (a_t_number, .inl (tI, t_number_N, .inl t_number_F)), (a_t_low, .inl (tI, t_low_N, .inl t_low_F)), (a_t_known, .inl (tI, t_known_N, .inl t_known_F)), (a_t_bands, .inr (0, [.ref o_t_bands_base, .ref o_t_bands_leaf, .ref a_t_bands_above, .int t_bands_count, .int t_bands_nodes, .int t_bands_style])), (a_t_bands_above, .inl (tI, t_bands_above_N, .inl t_bands_above_F)), (a_p2, .inr (2, [.ref a_p2_store, .int p2_gathered, .int p2_room])), (a_p2_store, .inr (4, [.ref a_p2_store_row, .int p2_store_count])), (a_p2_store_row, .inl (tB, p2_store_row_N, .inl p2_store_row_F))] H → va_D A [(a_t, .inr (5, [.ref a_t_bands, .ref a_t_path, .ref a_t_number, .ref a_t_low, .ref a_t_known])), (a_t_path, .inl (tI, t_path_N, .inl t_path_F)), (a_t_number, .inl (tI, t_number_N, .inl t_number_F)), (a_t_low, .inl (tI, t_low_N, .inl t_low_F)), (a_t_known, .inl (tI, t_known_N, .inl t_known_F)), (a_t_bands, .inr (0, [.ref o_t_bands_base, .ref o_t_bands_leaf, .ref a_t_bands_above, .int t_bands_count, .int t_bands_nodes, .int t_bands_style])), (a_t_bands_above, .inl (tI, t_bands_above_N, .inl t_bands_above_F)), (a_p2, .inr (2, [.ref a_p2_store, .int p2_gathered, .int p2_room])), (a_p2_store, .inr (4, [.ref a_p2_store_row, .int p2_store_count])), (a_p2_store_row, .inl (tB, p2_store_row_N, .inl p2_store_row_F))] → va_S A s.heap H locs → lv_has ls 9 [(0, .ref a_t), (1, .int v1), (2, .int v2), (3, .ref a_p2), (6, .int v6), (7, .int v7), (8, .int v8)] → (cells + nB ≤ nc ∧ slots + sB ≤ ns) → f_Trees_tellW_97 F rec55 t_number_N t_number_F t_low_N t_known_N n t_path_F t_low_F t_known_F p2_gathered p2_room p2_store_count p2_store_row_N p2_store_row_F v1 v2 v6 v7 v8 = some (nB, sB, u) → W p l e ({ frames := 4, cells := nc, slots := ns, locals := 104 } : Room) s m args below meth c H locs cells slots Q (F0 m 97 ls []) := by
    intro rec55 h55 n
    induction n with
    | zero => intro t_path_F t_low_F t_known_F p2_gathered p2_room p2_store_count p2_store_row_N p2_store_row_F v1 v2 v6 v7 v8 a_p2_store_row H locs cells slots nB sB ls hP hD hS hl hc hf; exact absurd hf (by intro h9; cases h9)
    | succ n h97 =>
      intro t_path_F t_low_F t_known_F p2_gathered p2_room p2_store_count p2_store_row_N p2_store_row_F v1 v2 v6 v7 v8 a_p2_store_row H locs cells slots nB sB ls hP hD hS hl hc hf
      have hf : g_Trees_tellW_97 F rec55 (f_Trees_tellW_97 F rec55 t_number_N t_number_F t_low_N t_known_N n) t_number_N t_number_F t_low_N t_known_N t_path_F t_low_F t_known_F p2_gathered p2_room p2_store_count p2_store_row_N p2_store_row_F v1 v2 v6 v7 v8 = some (nB, sB, u) := hf
      generalize (f_Trees_tellW_97 F rec55 t_number_N t_number_F t_low_N t_known_N n) = rec97 at hf h97
      unfold g_Trees_tellW_97 at hf
      refine lv_iload hx hb d_Trees_tell_97 (lv_at hl 6 rfl) ?_
      refine lv_iload_n hx hb d_Trees_tell_99 rfl (lv_at hl 2 rfl) ?_
      refine lv_icmp_ge (tgt := 166) hx hb d_Trees_tell_100 (by decide) (fun c0 => ?_) (fun c0 => ?_)
      · have hf := ite_t c0 hf
        exact k_166 rec55 h55 t_path_F t_low_F t_known_F p2_gathered p2_room p2_store_count p2_store_row_N p2_store_row_F v1 v2 v6 v7 a_p2_store_row _ _ _ _ _ _ ls hP hD hS (lv_sub hl [0, 1, 2, 3, 4, 5] rfl) hc hf
      · have hf := ite_f c0 hf
        refine lv_aload_n hx hb d_Trees_tell_103 rfl (lv_at hl 0 rfl) ?_
        refine va_get (D := (dC, dI)) (ci := 5) (v := .ref a_t_known) (C := R_Trees) (T := F_Trees) (N := 5) hx hb hts i_Trees hown hK hP 0 rfl rfl 4 (by decide) (hts _ q_105) (fun _ h9 => h9) rfl d_Trees_tell_104 ?_
        refine lv_iload hx hb d_Trees_tell_107 (lv_at hl 5 rfl) ?_
        obtain ⟨hin9, hf⟩ := asm_of hf
        refine va_iald hx hb hK hP 4 0 rfl rfl hin9 d_Trees_tell_109 ?_
        refine lv_topi (fun x31 ex31 => ?_)
        have hf := letb_of hf ex31
        refine lv_if_ne (tgt := 166) hx hb d_Trees_tell_110 (by decide) (fun c0 => ?_) (fun c0 => ?_)
        · have hf := ite_f c0 hf
          exact k_166 rec55 h55 t_path_F t_low_F t_known_F p2_gathered p2_room p2_store_count p2_store_row_N p2_store_row_F v1 v2 v6 v7 a_p2_store_row _ _ _ _ _ _ ls hP hD hS (lv_sub hl [0, 1, 2, 3, 4, 5] rfl) hc hf
        · have hf := ite_t c0 hf
          refine lv_aload_n hx hb d_Trees_tell_113 rfl (lv_at hl 0 rfl) ?_
          refine va_get (D := (dC, dI)) (ci := 5) (v := .ref a_t_known) (C := R_Trees) (T := F_Trees) (N := 5) hx hb hts i_Trees hown hK hP 0 rfl rfl 4 (by decide) (hts _ q_105) (fun _ h9 => h9) rfl d_Trees_tell_114 ?_
          refine lv_iload hx hb d_Trees_tell_117 (lv_at hl 5 rfl) ?_
          refine lv_aload_n hx hb d_Trees_tell_119 rfl (lv_at hl 3 rfl) ?_
          refine lv_aload_n hx hb d_Trees_tell_120 rfl (lv_at hl 0 rfl) ?_
          refine va_get (D := (dC, dI)) (ci := 5) (v := .ref a_t_number) (C := R_Trees) (T := F_Trees) (N := 5) hx hb hts i_Trees hown hK hP 0 rfl rfl 2 (by decide) (hts _ q_103) (fun _ h9 => h9) rfl d_Trees_tell_121 ?_
          refine lv_iload hx hb d_Trees_tell_124 (lv_at hl 5 rfl) ?_
          obtain ⟨hin9, hf⟩ := asm_of hf
          refine va_iald hx hb hK hP 2 0 rfl rfl hin9 d_Trees_tell_126 ?_
          refine lv_topi (fun x32 ex32 => ?_)
          have hf := letb_of hf ex32
          refine lv_iload hx hb d_Trees_tell_127 (lv_at hl 6 rfl) ?_
          refine lv_icmp_ne (tgt := 136) hx hb d_Trees_tell_129 (by decide) (fun c0 => ?_) (fun c0 => ?_)
          · have hf := ite_f c0 hf
            refine lv_iconst (v := 0) hx hb d_Trees_tell_136 (by decide) ?_
            exact k_137 rec55 h55 rec97 h97 t_path_F t_low_F t_known_F p2_gathered p2_room p2_store_count p2_store_row_N p2_store_row_F v1 v2 v6 v7 v8 0 v7 a_p2_store_row _ _ _ _ _ _ ls hP hD hS hl hc hf
          · have hf := ite_t c0 hf
            refine lv_iconst (v := 1) hx hb d_Trees_tell_132 (by decide) ?_
            refine lv_goto (tgt := 137) hx hb d_Trees_tell_133 (by decide) ?_
            exact k_137 rec55 h55 rec97 h97 t_path_F t_low_F t_known_F p2_gathered p2_room p2_store_count p2_store_row_N p2_store_row_F v1 v2 v6 v7 v8 1 v7 a_p2_store_row _ _ _ _ _ _ ls hP hD hS hl hc hf
  have k_55 : ∀ n : Nat, ∀ (t_path_F : Nat → Int32) (t_low_F : Nat → Int32) (t_known_F : Nat → Int32) (p2_gathered : Int32) (p2_room : Int32) (p2_store_count : Int32) (p2_store_row_N : Nat) (p2_store_row_F : Nat → Int32) (v1 : Int32) (v2 : Int32) (v5 : Int32) (v6 : Int32) (a_p2_store_row : Nat) (H : Heap) (locs : List Loc) (cells slots nB sB : Nat) (ls : Array Slot), va_P (dC, dI) classes [(a_t, .inr (5, [.ref a_t_bands, .ref a_t_path, .ref a_t_number, .ref a_t_low, .ref a_t_known])), (a_t_path, .inl (tI, t_path_N, .inl t_path_F)), (a_t_number, .inl (tI, t_number_N, .inl t_number_F)), (a_t_low, .inl (tI, t_low_N, .inl t_low_F)), (a_t_known, .inl (tI, t_known_N, .inl t_known_F)), (a_t_bands, .inr (0, [.ref o_t_bands_base, .ref o_t_bands_leaf, .ref a_t_bands_above, .int t_bands_count, .int t_bands_nodes, .int t_bands_style])), (a_t_bands_above, .inl (tI, t_bands_above_N, .inl t_bands_above_F)), (a_p2, .inr (2, [.ref a_p2_store, .int p2_gathered, .int p2_room])), (a_p2_store, .inr (4, [.ref a_p2_store_row, .int p2_store_count])), (a_p2_store_row, .inl (tB, p2_store_row_N, .inl p2_store_row_F))] H → va_D A [(a_t, .inr (5, [.ref a_t_bands, .ref a_t_path, .ref a_t_number, .ref a_t_low, .ref a_t_known])), (a_t_path, .inl (tI, t_path_N, .inl t_path_F)), (a_t_number, .inl (tI, t_number_N, .inl t_number_F)), (a_t_low, .inl (tI, t_low_N, .inl t_low_F)), (a_t_known, .inl (tI, t_known_N, .inl t_known_F)), (a_t_bands, .inr (0, [.ref o_t_bands_base, .ref o_t_bands_leaf, .ref a_t_bands_above, .int t_bands_count, .int t_bands_nodes, .int t_bands_style])), (a_t_bands_above, .inl (tI, t_bands_above_N, .inl t_bands_above_F)), (a_p2, .inr (2, [.ref a_p2_store, .int p2_gathered, .int p2_room])), (a_p2_store, .inr (4, [.ref a_p2_store_row, .int p2_store_count])), (a_p2_store_row, .inl (tB, p2_store_row_N, .inl p2_store_row_F))] → va_S A s.heap H locs → lv_has ls 9 [(0, .ref a_t), (1, .int v1), (2, .int v2), (3, .ref a_p2), (5, .int v5), (6, .int v6)] → (cells + nB ≤ nc ∧ slots + sB ≤ ns) → f_Trees_tellW_55 F t_path_N t_number_N t_number_F t_low_N t_known_N n t_path_F t_low_F t_known_F p2_gathered p2_room p2_store_count p2_store_row_N p2_store_row_F v1 v2 v5 v6 = some (nB, sB, u) → W p l e ({ frames := 4, cells := nc, slots := ns, locals := 104 } : Room) s m args below meth c H locs cells slots Q (F0 m 55 ls []) := by
    intro n
    induction n with
    | zero => intro t_path_F t_low_F t_known_F p2_gathered p2_room p2_store_count p2_store_row_N p2_store_row_F v1 v2 v5 v6 a_p2_store_row H locs cells slots nB sB ls hP hD hS hl hc hf; exact absurd hf (by intro h9; cases h9)
    | succ n h55 =>
      intro t_path_F t_low_F t_known_F p2_gathered p2_room p2_store_count p2_store_row_N p2_store_row_F v1 v2 v5 v6 a_p2_store_row H locs cells slots nB sB ls hP hD hS hl hc hf
      have hf : g_Trees_tellW_55 F (f_Trees_tellW_55 F t_path_N t_number_N t_number_F t_low_N t_known_N n) t_path_N t_number_N t_number_F t_low_N t_known_N t_path_F t_low_F t_known_F p2_gathered p2_room p2_store_count p2_store_row_N p2_store_row_F v1 v2 v5 v6 = some (nB, sB, u) := hf
      generalize (f_Trees_tellW_55 F t_path_N t_number_N t_number_F t_low_N t_known_N n) = rec55 at hf h55
      unfold g_Trees_tellW_55 at hf
      refine lv_iload hx hb d_Trees_tell_55 (lv_at hl 5 rfl) ?_
      refine lv_if_lt (tgt := 181) hx hb d_Trees_tell_57 (by decide) (fun c0 => ?_) (fun c0 => ?_)
      · have hf := ite_t c0 hf
        refine lv_aload_n hx hb d_Trees_tell_181 rfl (lv_at hl 0 rfl) ?_
        refine va_get (D := (dC, dI)) (ci := 5) (v := .ref a_t_known) (C := R_Trees) (T := F_Trees) (N := 5) hx hb hts i_Trees hown hK hP 0 rfl rfl 4 (by decide) (hts _ q_105) (fun _ h9 => h9) rfl d_Trees_tell_182 ?_
        refine lv_iload_n hx hb d_Trees_tell_185 rfl (lv_at hl 1 rfl) ?_
        obtain ⟨hin9, hf⟩ := asm_of hf
        refine va_iald hx hb hK hP 4 0 rfl rfl hin9 d_Trees_tell_186 ?_
        refine lv_topi (fun x33 ex33 => ?_)
        have hf := letb_of hf ex33
        refine lv_iconst (v := 1) hx hb d_Trees_tell_187 (by decide) ?_
        refine lv_icmp_ne (tgt := 195) hx hb d_Trees_tell_188 (by decide) (fun c0 => ?_) (fun c0 => ?_)
        · have hf := ite_f c0 hf
          refine lv_iconst (v := 0) hx hb d_Trees_tell_195 (by decide) ?_
          exact k_196 t_path_F t_low_F t_known_F p2_gathered p2_room p2_store_count p2_store_row_N p2_store_row_F 0 a_p2_store_row _ _ _ _ _ _ ls hP hD hS (lv_sub hl [] rfl) hc hf
        · have hf := ite_t c0 hf
          refine lv_iconst (v := 1) hx hb d_Trees_tell_191 (by decide) ?_
          refine lv_goto (tgt := 196) hx hb d_Trees_tell_192 (by decide) ?_
          exact k_196 t_path_F t_low_F t_known_F p2_gathered p2_room p2_store_count p2_store_row_N p2_store_row_F 1 a_p2_store_row _ _ _ _ _ _ ls hP hD hS (lv_sub hl [] rfl) hc hf
      · have hf := ite_f c0 hf
        refine lv_aload_n hx hb d_Trees_tell_60 rfl (lv_at hl 0 rfl) ?_
        refine va_get (D := (dC, dI)) (ci := 5) (v := .ref a_t_path) (C := R_Trees) (T := F_Trees) (N := 5) hx hb hts i_Trees hown hK hP 0 rfl rfl 1 (by decide) (hts _ q_102) (fun _ h9 => h9) rfl d_Trees_tell_61 ?_
        refine lv_iload hx hb d_Trees_tell_64 (lv_at hl 5 rfl) ?_
        obtain ⟨hin9, hf⟩ := asm_of hf
        refine va_iald hx hb hK hP 1 0 rfl rfl hin9 d_Trees_tell_66 ?_
        refine lv_topi (fun x34 ex34 => ?_)
        have hf := letb_of hf ex34
        refine lv_istore (lv' := [(7, .int x34), (0, .ref a_t), (1, .int v1), (2, .int v2), (3, .ref a_p2), (5, .int v5), (6, .int v6)]) hx hb d_Trees_tell_67 hl (by decide) rfl (fun ls hl => ?_)
        refine lv_aload_n hx hb d_Trees_tell_69 rfl (lv_at hl 1 rfl) ?_
        refine va_get (D := (dC, dI)) (ci := 5) (v := .ref a_t_low) (C := R_Trees) (T := F_Trees) (N := 5) hx hb hts i_Trees hown hK hP 0 rfl rfl 3 (by decide) (hts _ q_104) (fun _ h9 => h9) rfl d_Trees_tell_70 ?_
        refine lv_iload hx hb d_Trees_tell_73 (lv_at hl 0 rfl) ?_
        refine lv_aload_n hx hb d_Trees_tell_75 rfl (lv_at hl 1 rfl) ?_
        refine va_get (D := (dC, dI)) (ci := 5) (v := .ref a_t_low) (C := R_Trees) (T := F_Trees) (N := 5) hx hb hts i_Trees hown hK hP 0 rfl rfl 3 (by decide) (hts _ q_104) (fun _ h9 => h9) rfl d_Trees_tell_76 ?_
        refine lv_iload hx hb d_Trees_tell_79 (lv_at hl 0 rfl) ?_
        obtain ⟨hin9, hf⟩ := asm_of hf
        refine va_iald hx hb hK hP 3 0 rfl rfl hin9 d_Trees_tell_81 ?_
        refine lv_topi (fun x35 ex35 => ?_)
        have hf := letb_of hf ex35
        refine lv_iload hx hb d_Trees_tell_82 (lv_at hl 5 rfl) ?_
        refine va_mmax hx hb (by rw [hml]; exact hl.1.symm) hown (hts _ q_111) (hts _ q_11) (hts _ q_3) (hts _ q_12) (Nat.le_of_ble_eq_true rfl) (Nat.le_of_ble_eq_true rfl) (Nat.le_trans (Nat.le_add_right _ _) hc.1) (Nat.le_trans (Nat.le_add_right _ _) hc.2) d_Trees_tell_84 ?_
        refine lv_topi (fun x36 ex36 => ?_)
        have hf := letb_of hf ex36
        obtain ⟨hin9, hf⟩ := asm_of hf
        refine va_iast hx hb hK hP hD hS 3 0 rfl rfl hin9 d_Trees_tell_87 (fun H locs hP hD hS => ?_)
        have hP : va_P (dC, dI) classes [(a_t, .inr (5, [.ref a_t_bands, .ref a_t_path, .ref a_t_number, .ref a_t_low, .ref a_t_known])), (a_t_path, .inl (tI, t_path_N, .inl t_path_F)), (a_t_number, .inl (tI, t_number_N, .inl t_number_F)), (a_t_low, .inl (tI, t_low_N, .inl (upd t_low_F x34.toNatClampNeg x36))), (a_t_known, .inl (tI, t_known_N, .inl t_known_F)), (a_t_bands, .inr (0, [.ref o_t_bands_base, .ref o_t_bands_leaf, .ref a_t_bands_above, .int t_bands_count, .int t_bands_nodes, .int t_bands_style])), (a_t_bands_above, .inl (tI, t_bands_above_N, .inl t_bands_above_F)), (a_p2, .inr (2, [.ref a_p2_store, .int p2_gathered, .int p2_room])), (a_p2_store, .inr (4, [.ref a_p2_store_row, .int p2_store_count])), (a_p2_store_row, .inl (tB, p2_store_row_N, .inl p2_store_row_F))] H := hP
        have hD : va_D A [(a_t, .inr (5, [.ref a_t_bands, .ref a_t_path, .ref a_t_number, .ref a_t_low, .ref a_t_known])), (a_t_path, .inl (tI, t_path_N, .inl t_path_F)), (a_t_number, .inl (tI, t_number_N, .inl t_number_F)), (a_t_low, .inl (tI, t_low_N, .inl (upd t_low_F x34.toNatClampNeg x36))), (a_t_known, .inl (tI, t_known_N, .inl t_known_F)), (a_t_bands, .inr (0, [.ref o_t_bands_base, .ref o_t_bands_leaf, .ref a_t_bands_above, .int t_bands_count, .int t_bands_nodes, .int t_bands_style])), (a_t_bands_above, .inl (tI, t_bands_above_N, .inl t_bands_above_F)), (a_p2, .inr (2, [.ref a_p2_store, .int p2_gathered, .int p2_room])), (a_p2_store, .inr (4, [.ref a_p2_store_row, .int p2_store_count])), (a_p2_store_row, .inl (tB, p2_store_row_N, .inl p2_store_row_F))] := hD
        refine lv_aload_n hx hb d_Trees_tell_88 rfl (lv_at hl 1 rfl) ?_
        refine va_get (D := (dC, dI)) (ci := 5) (v := .ref a_t_low) (C := R_Trees) (T := F_Trees) (N := 5) hx hb hts i_Trees hown hK hP 0 rfl rfl 3 (by decide) (hts _ q_104) (fun _ h9 => h9) rfl d_Trees_tell_89 ?_
        refine lv_iload hx hb d_Trees_tell_92 (lv_at hl 0 rfl) ?_
        obtain ⟨hin9, hf⟩ := asm_of hf
        refine va_iald hx hb hK hP 3 0 rfl rfl hin9 d_Trees_tell_94 ?_
        refine lv_topi (fun x37 ex37 => ?_)
        have hf := letb_of hf ex37
        refine lv_istore (lv' := [(8, .int x37), (7, .int x34), (0, .ref a_t), (1, .int v1), (2, .int v2), (3, .ref a_p2), (5, .int v5), (6, .int v6)]) hx hb d_Trees_tell_95 hl (by decide) rfl (fun ls hl => ?_)
        exact k_97 rec55 h55 F t_path_F (upd t_low_F x34.toNatClampNeg x36) t_known_F p2_gathered p2_room p2_store_count p2_store_row_N p2_store_row_F v1 v2 v6 x34 x37 a_p2_store_row _ _ _ _ _ _ ls hP hD hS (lv_sub hl [2, 3, 4, 5, 7, 1, 0] rfl) hc hf
  have k_46 : ∀ (t_path_F : Nat → Int32) (t_low_F : Nat → Int32) (t_known_F : Nat → Int32) (p2_gathered : Int32) (p2_room : Int32) (p2_store_count : Int32) (p2_store_row_N : Nat) (p2_store_row_F : Nat → Int32) (v1 : Int32) (v2 : Int32) (v4 : Int32) (a_p2_store_row : Nat) (H : Heap) (locs : List Loc) (cells slots nB sB : Nat) (ls : Array Slot), va_P (dC, dI) classes [(a_t, .inr (5, [.ref a_t_bands, .ref a_t_path, .ref a_t_number, .ref a_t_low, .ref a_t_known])), (a_t_path, .inl (tI, t_path_N, .inl t_path_F)), (a_t_number, .inl (tI, t_number_N, .inl t_number_F)), (a_t_low, .inl (tI, t_low_N, .inl t_low_F)), (a_t_known, .inl (tI, t_known_N, .inl t_known_F)), (a_t_bands, .inr (0, [.ref o_t_bands_base, .ref o_t_bands_leaf, .ref a_t_bands_above, .int t_bands_count, .int t_bands_nodes, .int t_bands_style])), (a_t_bands_above, .inl (tI, t_bands_above_N, .inl t_bands_above_F)), (a_p2, .inr (2, [.ref a_p2_store, .int p2_gathered, .int p2_room])), (a_p2_store, .inr (4, [.ref a_p2_store_row, .int p2_store_count])), (a_p2_store_row, .inl (tB, p2_store_row_N, .inl p2_store_row_F))] H → va_D A [(a_t, .inr (5, [.ref a_t_bands, .ref a_t_path, .ref a_t_number, .ref a_t_low, .ref a_t_known])), (a_t_path, .inl (tI, t_path_N, .inl t_path_F)), (a_t_number, .inl (tI, t_number_N, .inl t_number_F)), (a_t_low, .inl (tI, t_low_N, .inl t_low_F)), (a_t_known, .inl (tI, t_known_N, .inl t_known_F)), (a_t_bands, .inr (0, [.ref o_t_bands_base, .ref o_t_bands_leaf, .ref a_t_bands_above, .int t_bands_count, .int t_bands_nodes, .int t_bands_style])), (a_t_bands_above, .inl (tI, t_bands_above_N, .inl t_bands_above_F)), (a_p2, .inr (2, [.ref a_p2_store, .int p2_gathered, .int p2_room])), (a_p2_store, .inr (4, [.ref a_p2_store_row, .int p2_store_count])), (a_p2_store_row, .inl (tB, p2_store_row_N, .inl p2_store_row_F))] → va_S A s.heap H locs → lv_has ls 9 [(0, .ref a_t), (1, .int v1), (2, .int v2), (3, .ref a_p2), (4, .int v4)] → (cells + nB ≤ nc ∧ slots + sB ≤ ns) → g_Trees_tellW_46 F t_path_N t_number_N t_number_F t_low_N t_known_N t_path_F t_low_F t_known_F p2_gathered p2_room p2_store_count p2_store_row_N p2_store_row_F v1 v2 v4 = some (nB, sB, u) → W p l e ({ frames := 4, cells := nc, slots := ns, locals := 104 } : Room) s m args below meth c H locs cells slots Q (F0 m 46 ls []) := by
    intro t_path_F t_low_F t_known_F p2_gathered p2_room p2_store_count p2_store_row_N p2_store_row_F v1 v2 v4 a_p2_store_row H locs cells slots nB sB ls hP hD hS hl hc hf
    unfold g_Trees_tellW_46 at hf
    refine lv_iconst (v := 0) hx hb d_Trees_tell_46 (by decide) ?_
    refine lv_istore (lv' := [(5, .int 0), (0, .ref a_t), (1, .int v1), (2, .int v2), (3, .ref a_p2), (4, .int v4)]) hx hb d_Trees_tell_47 hl (by decide) rfl (fun ls hl => ?_)
    refine lv_iload hx hb d_Trees_tell_49 (lv_at hl 5 rfl) ?_
    refine lv_iconst (v := 1) hx hb d_Trees_tell_51 (by decide) ?_
    refine lv_isub hx hb d_Trees_tell_52 ?_
    refine lv_topi (fun x38 ex38 => ?_)
    have hf := letb_of hf ex38
    refine lv_istore (lv' := [(6, .int x38), (5, .int 0), (0, .ref a_t), (1, .int v1), (2, .int v2), (3, .ref a_p2), (4, .int v4)]) hx hb d_Trees_tell_53 hl (by decide) rfl (fun ls hl => ?_)
    exact k_55 F t_path_F t_low_F t_known_F p2_gathered p2_room p2_store_count p2_store_row_N p2_store_row_F v1 v2 0 x38 a_p2_store_row _ _ _ _ _ _ ls hP hD hS (lv_sub hl [2, 3, 4, 5, 1, 0] rfl) hc hf
  have k_6 : ∀ n : Nat, ∀ (t_path_F : Nat → Int32) (t_low_F : Nat → Int32) (t_known_F : Nat → Int32) (p2_gathered : Int32) (p2_room : Int32) (p2_store_count : Int32) (p2_store_row_N : Nat) (p2_store_row_F : Nat → Int32) (v1 : Int32) (v2 : Int32) (v4 : Int32) (v5 : Int32) (a_p2_store_row : Nat) (H : Heap) (locs : List Loc) (cells slots nB sB : Nat) (ls : Array Slot), va_P (dC, dI) classes [(a_t, .inr (5, [.ref a_t_bands, .ref a_t_path, .ref a_t_number, .ref a_t_low, .ref a_t_known])), (a_t_path, .inl (tI, t_path_N, .inl t_path_F)), (a_t_number, .inl (tI, t_number_N, .inl t_number_F)), (a_t_low, .inl (tI, t_low_N, .inl t_low_F)), (a_t_known, .inl (tI, t_known_N, .inl t_known_F)), (a_t_bands, .inr (0, [.ref o_t_bands_base, .ref o_t_bands_leaf, .ref a_t_bands_above, .int t_bands_count, .int t_bands_nodes, .int t_bands_style])), (a_t_bands_above, .inl (tI, t_bands_above_N, .inl t_bands_above_F)), (a_p2, .inr (2, [.ref a_p2_store, .int p2_gathered, .int p2_room])), (a_p2_store, .inr (4, [.ref a_p2_store_row, .int p2_store_count])), (a_p2_store_row, .inl (tB, p2_store_row_N, .inl p2_store_row_F))] H → va_D A [(a_t, .inr (5, [.ref a_t_bands, .ref a_t_path, .ref a_t_number, .ref a_t_low, .ref a_t_known])), (a_t_path, .inl (tI, t_path_N, .inl t_path_F)), (a_t_number, .inl (tI, t_number_N, .inl t_number_F)), (a_t_low, .inl (tI, t_low_N, .inl t_low_F)), (a_t_known, .inl (tI, t_known_N, .inl t_known_F)), (a_t_bands, .inr (0, [.ref o_t_bands_base, .ref o_t_bands_leaf, .ref a_t_bands_above, .int t_bands_count, .int t_bands_nodes, .int t_bands_style])), (a_t_bands_above, .inl (tI, t_bands_above_N, .inl t_bands_above_F)), (a_p2, .inr (2, [.ref a_p2_store, .int p2_gathered, .int p2_room])), (a_p2_store, .inr (4, [.ref a_p2_store_row, .int p2_store_count])), (a_p2_store_row, .inl (tB, p2_store_row_N, .inl p2_store_row_F))] → va_S A s.heap H locs → lv_has ls 9 [(0, .ref a_t), (1, .int v1), (2, .int v2), (3, .ref a_p2), (4, .int v4), (5, .int v5)] → (cells + nB ≤ nc ∧ slots + sB ≤ ns) → f_Trees_tellW_6 F t_path_N t_number_N t_number_F t_low_N t_known_N t_bands_above_N t_bands_above_F n t_path_F t_low_F t_known_F p2_gathered p2_room p2_store_count p2_store_row_N p2_store_row_F v1 v2 v4 v5 = some (nB, sB, u) → W p l e ({ frames := 4, cells := nc, slots := ns, locals := 104 } : Room) s m args below meth c H locs cells slots Q (F0 m 6 ls []) := by
    intro n
    induction n with
    | zero => intro t_path_F t_low_F t_known_F p2_gathered p2_room p2_store_count p2_store_row_N p2_store_row_F v1 v2 v4 v5 a_p2_store_row H locs cells slots nB sB ls hP hD hS hl hc hf; exact absurd hf (by intro h9; cases h9)
    | succ n h6 =>
      intro t_path_F t_low_F t_known_F p2_gathered p2_room p2_store_count p2_store_row_N p2_store_row_F v1 v2 v4 v5 a_p2_store_row H locs cells slots nB sB ls hP hD hS hl hc hf
      have hf : g_Trees_tellW_6 F (f_Trees_tellW_6 F t_path_N t_number_N t_number_F t_low_N t_known_N t_bands_above_N t_bands_above_F n) t_path_N t_number_N t_number_F t_low_N t_known_N t_bands_above_N t_bands_above_F t_path_F t_low_F t_known_F p2_gathered p2_room p2_store_count p2_store_row_N p2_store_row_F v1 v2 v4 v5 = some (nB, sB, u) := hf
      generalize (f_Trees_tellW_6 F t_path_N t_number_N t_number_F t_low_N t_known_N t_bands_above_N t_bands_above_F n) = rec6 at hf h6
      unfold g_Trees_tellW_6 at hf
      refine lv_iload hx hb d_Trees_tell_6 (lv_at hl 5 rfl) ?_
      refine lv_iconst (v := (-1)) hx hb d_Trees_tell_8 (by decide) ?_
      refine lv_icmp_eq (tgt := 46) hx hb d_Trees_tell_9 (by decide) (fun c0 => ?_) (fun c0 => ?_)
      · have hf := ite_t c0 hf
        exact k_46 t_path_F t_low_F t_known_F p2_gathered p2_room p2_store_count p2_store_row_N p2_store_row_F v1 v2 v4 a_p2_store_row _ _ _ _ _ _ ls hP hD hS (lv_sub hl [0, 1, 2, 3, 4] rfl) hc hf
      · have hf := ite_f c0 hf
        refine lv_iload hx hb d_Trees_tell_12 (lv_at hl 4 rfl) ?_
        refine lv_bipush (v := 7) hx hb d_Trees_tell_14 (by decide) ?_
        refine lv_icmp_ge (tgt := 46) hx hb d_Trees_tell_16 (by decide) (fun c0 => ?_) (fun c0 => ?_)
        · have hf := ite_t c0 hf
          exact k_46 t_path_F t_low_F t_known_F p2_gathered p2_room p2_store_count p2_store_row_N p2_store_row_F v1 v2 v4 a_p2_store_row _ _ _ _ _ _ ls hP hD hS (lv_sub hl [0, 1, 2, 3, 4] rfl) hc hf
        · have hf := ite_f c0 hf
          refine lv_aload_n hx hb d_Trees_tell_19 rfl (lv_at hl 0 rfl) ?_
          refine va_get (D := (dC, dI)) (ci := 5) (v := .ref a_t_path) (C := R_Trees) (T := F_Trees) (N := 5) hx hb hts i_Trees hown hK hP 0 rfl rfl 1 (by decide) (hts _ q_102) (fun _ h9 => h9) rfl d_Trees_tell_20 ?_
          refine lv_iload hx hb d_Trees_tell_23 (lv_at hl 4 rfl) ?_
          refine lv_iload hx hb d_Trees_tell_25 (lv_at hl 5 rfl) ?_
          obtain ⟨hin9, hf⟩ := asm_of hf
          refine va_iast hx hb hK hP hD hS 1 0 rfl rfl hin9 d_Trees_tell_27 (fun H locs hP hD hS => ?_)
          have hP : va_P (dC, dI) classes [(a_t, .inr (5, [.ref a_t_bands, .ref a_t_path, .ref a_t_number, .ref a_t_low, .ref a_t_known])), (a_t_path, .inl (tI, t_path_N, .inl (upd t_path_F v4.toNatClampNeg v5))), (a_t_number, .inl (tI, t_number_N, .inl t_number_F)), (a_t_low, .inl (tI, t_low_N, .inl t_low_F)), (a_t_known, .inl (tI, t_known_N, .inl t_known_F)), (a_t_bands, .inr (0, [.ref o_t_bands_base, .ref o_t_bands_leaf, .ref a_t_bands_above, .int t_bands_count, .int t_bands_nodes, .int t_bands_style])), (a_t_bands_above, .inl (tI, t_bands_above_N, .inl t_bands_above_F)), (a_p2, .inr (2, [.ref a_p2_store, .int p2_gathered, .int p2_room])), (a_p2_store, .inr (4, [.ref a_p2_store_row, .int p2_store_count])), (a_p2_store_row, .inl (tB, p2_store_row_N, .inl p2_store_row_F))] H := hP
          have hD : va_D A [(a_t, .inr (5, [.ref a_t_bands, .ref a_t_path, .ref a_t_number, .ref a_t_low, .ref a_t_known])), (a_t_path, .inl (tI, t_path_N, .inl (upd t_path_F v4.toNatClampNeg v5))), (a_t_number, .inl (tI, t_number_N, .inl t_number_F)), (a_t_low, .inl (tI, t_low_N, .inl t_low_F)), (a_t_known, .inl (tI, t_known_N, .inl t_known_F)), (a_t_bands, .inr (0, [.ref o_t_bands_base, .ref o_t_bands_leaf, .ref a_t_bands_above, .int t_bands_count, .int t_bands_nodes, .int t_bands_style])), (a_t_bands_above, .inl (tI, t_bands_above_N, .inl t_bands_above_F)), (a_p2, .inr (2, [.ref a_p2_store, .int p2_gathered, .int p2_room])), (a_p2_store, .inr (4, [.ref a_p2_store_row, .int p2_store_count])), (a_p2_store_row, .inl (tB, p2_store_row_N, .inl p2_store_row_F))] := hD
          obtain ⟨x39, ex39⟩ : ∃ y : Int32, y = v4 + 1 := ⟨_, rfl⟩
          have hf := letb_of hf ex39
          refine lv_iinc (v := x39) (lv' := [(4, .int x39), (0, .ref a_t), (1, .int v1), (2, .int v2), (3, .ref a_p2), (5, .int v5)]) hx hb d_Trees_tell_28 hl (k := 4) rfl (by rw [ex39]; rfl) (by decide) rfl (fun ls hl => ?_)
          refine lv_aload_n hx hb d_Trees_tell_31 rfl (lv_at hl 1 rfl) ?_
          refine va_get (D := (dC, dI)) (ci := 5) (v := .ref a_t_bands) (C := R_Trees) (T := F_Trees) (N := 5) hx hb hts i_Trees hown hK hP 0 rfl rfl 0 (by decide) (hts _ q_106) (fun _ h9 => h9) rfl d_Trees_tell_32 ?_
          refine va_getN (D := (dC, dI)) (ci := 0) (v := .ref a_t_bands_above) (C := R_Bands) (T := F_Bands) (N := 6) hx hb hts i_Bands hown hK hP 5 rfl rfl 2 (by decide) (va_Nw.use rfl (hN _ q_109 rfl)) (fun _ h9 => h9) rfl d_Trees_tell_35 ?_
          refine lv_iload hx hb d_Trees_tell_38 (lv_at hl 5 rfl) ?_
          obtain ⟨hin9, hf⟩ := asm_of hf
          refine va_iald hx hb hK hP 6 0 rfl rfl hin9 d_Trees_tell_40 ?_
          refine lv_topi (fun x40 ex40 => ?_)
          have hf := letb_of hf ex40
          refine lv_istore (lv' := [(5, .int x40), (4, .int x39), (0, .ref a_t), (1, .int v1), (2, .int v2), (3, .ref a_p2)]) hx hb d_Trees_tell_41 hl (by decide) rfl (fun ls hl => ?_)
          refine lv_goto (tgt := 6) hx hb d_Trees_tell_43 (by decide) ?_
          exact h6 (upd t_path_F v4.toNatClampNeg v5) t_low_F t_known_F p2_gathered p2_room p2_store_count p2_store_row_N p2_store_row_F v1 v2 x39 x40 a_p2_store_row _ _ _ _ _ _ ls hP hD hS (lv_sub hl [2, 3, 4, 5, 1, 0] rfl) hc hf
  have hc : 0 + nc ≤ nc ∧ 0 + ns ≤ ns := ⟨by omega, by omega⟩
  unfold f_Trees_tellW at hf
  refine lv_iconst (v := 0) hx hb d_Trees_tell_0 (by decide) ?_
  refine lv_istore (lv' := [(4, .int 0), (0, .ref a_t), (1, .int p0), (2, .int p1), (3, .ref a_p2)]) hx hb d_Trees_tell_1 hl (by decide) rfl (fun ls hl => ?_)
  refine lv_iload_n hx hb d_Trees_tell_3 rfl (lv_at hl 2 rfl) ?_
  refine lv_istore (lv' := [(5, .int p0), (4, .int 0), (0, .ref a_t), (1, .int p0), (2, .int p1), (3, .ref a_p2)]) hx hb d_Trees_tell_4 hl (by decide) rfl (fun ls hl => ?_)
  exact k_6 F t_path_F t_low_F t_known_F p2_gathered p2_room p2_store_count p2_store_row_N p2_store_row_F p0 p1 0 p0 a_p2_store_row _ _ _ _ _ _ ls hP hD hS (lv_sub hl [2, 3, 4, 5, 1, 0] rfl) hc hf
noncomputable def g_Trees_tellR_196 (F : Nat) (t_path_F : Nat → Int32) (t_low_F : Nat → Int32) (t_known_F : Nat → Int32) (p2_next : Int32) (p2_latest : Int32) (p2_left : Int32) (p2_lacking : Int32) (s0 : Int32) : Option (Int32 × (Nat → Int32) × (Nat → Int32) × (Nat → Int32) × Int32 × Int32 × Int32 × Int32) :=
asm (narrow .boolean (.int s0) = .int s0) (some (s0, t_path_F, t_low_F, t_known_F, p2_next, p2_latest, p2_left, p2_lacking))
noncomputable def g_Trees_tellR_166 (F : Nat) (rec55 : (Nat → Int32) → (Nat → Int32) → (Nat → Int32) → Int32 → Int32 → Int32 → Int32 → Int32 → Int32 → Int32 → Int32 → Option (Int32 × (Nat → Int32) × (Nat → Int32) × (Nat → Int32) × Int32 × Int32 × Int32 × Int32)) (t_low_N : Nat) (t_path_F : Nat → Int32) (t_low_F : Nat → Int32) (t_known_F : Nat → Int32) (p2_next : Int32) (p2_latest : Int32) (p2_left : Int32) (p2_lacking : Int32) (v1 : Int32) (v2 : Int32) (v6 : Int32) (v7 : Int32) : Option (Int32 × (Nat → Int32) × (Nat → Int32) × (Nat → Int32) × Int32 × Int32 × Int32 × Int32) :=
asm (vp_in v7 t_low_N) (letb (t_low_F v7.toNatClampNeg) fun x18 =>
letb (v6 + (-1)) fun x19 =>
rec55 t_path_F t_low_F t_known_F p2_next p2_latest p2_left p2_lacking v1 v2 x18 x19)
noncomputable def g_Trees_tellR_137 (F : Nat) (rec55 : (Nat → Int32) → (Nat → Int32) → (Nat → Int32) → Int32 → Int32 → Int32 → Int32 → Int32 → Int32 → Int32 → Int32 → Option (Int32 × (Nat → Int32) × (Nat → Int32) × (Nat → Int32) × Int32 × Int32 × Int32 × Int32)) (rec97 : (Nat → Int32) → (Nat → Int32) → (Nat → Int32) → Int32 → Int32 → Int32 → Int32 → Int32 → Int32 → Int32 → Int32 → Int32 → Option (Int32 × (Nat → Int32) × (Nat → Int32) × (Nat → Int32) × Int32 × Int32 × Int32 × Int32)) (t_low_N : Nat) (t_known_N : Nat) (p2_end : Int32) (p2_store_count : Int32) (p2_store_row_N : Nat) (p2_store_row_F : Nat → Int32) (t_path_F : Nat → Int32) (t_low_F : Nat → Int32) (t_known_F : Nat → Int32) (p2_next : Int32) (p2_latest : Int32) (p2_left : Int32) (p2_lacking : Int32) (v1 : Int32) (v2 : Int32) (v6 : Int32) (v7 : Int32) (v8 : Int32) (s0 : Int32) (s2 : Int32) : Option (Int32 × (Nat → Int32) × (Nat → Int32) × (Nat → Int32) × Int32 × Int32 × Int32 × Int32) :=
bd (f_Source_bit F p2_next p2_end p2_latest p2_left p2_lacking p2_store_count p2_store_row_N p2_store_row_F) fun u20 =>
asm (vp_in s2 t_known_N) (letb (v8 + 1) fun x21 =>
asm (vp_in v7 t_known_N) (letb ((upd t_known_F s2.toNatClampNeg u20.1) v7.toNatClampNeg) fun x22 =>
letb (x21 - x22) fun x23 =>
asm (vp_in v7 t_low_N) (letb (v8 + 1) fun x24 =>
rec97 t_path_F (upd t_low_F v7.toNatClampNeg x23) (upd t_known_F s2.toNatClampNeg u20.1) u20.2.1 u20.2.2.1 u20.2.2.2.1 u20.2.2.2.2 v1 v2 v6 v7 x24)))
noncomputable def g_Trees_tellR_97 (F : Nat) (rec55 : (Nat → Int32) → (Nat → Int32) → (Nat → Int32) → Int32 → Int32 → Int32 → Int32 → Int32 → Int32 → Int32 → Int32 → Option (Int32 × (Nat → Int32) × (Nat → Int32) × (Nat → Int32) × Int32 × Int32 × Int32 × Int32)) (rec97 : (Nat → Int32) → (Nat → Int32) → (Nat → Int32) → Int32 → Int32 → Int32 → Int32 → Int32 → Int32 → Int32 → Int32 → Int32 → Option (Int32 × (Nat → Int32) × (Nat → Int32) × (Nat → Int32) × Int32 × Int32 × Int32 × Int32)) (t_number_N : Nat) (t_number_F : Nat → Int32) (t_low_N : Nat) (t_known_N : Nat) (p2_end : Int32) (p2_store_count : Int32) (p2_store_row_N : Nat) (p2_store_row_F : Nat → Int32) (t_path_F : Nat → Int32) (t_low_F : Nat → Int32) (t_known_F : Nat → Int32) (p2_next : Int32) (p2_latest : Int32) (p2_left : Int32) (p2_lacking : Int32) (v1 : Int32) (v2 : Int32) (v6 : Int32) (v7 : Int32) (v8 : Int32) : Option (Int32 × (Nat → Int32) × (Nat → Int32) × (Nat → Int32) × Int32 × Int32 × Int32 × Int32) :=
if v2 ≤ v8 then (
g_Trees_tellR_166 F rec55 t_low_N t_path_F t_low_F t_known_F p2_next p2_latest p2_left p2_lacking v1 v2 v6 v7) else (
asm (vp_in v7 t_known_N) (letb (t_known_F v7.toNatClampNeg) fun x25 =>
if x25 = 0 then (
asm (vp_in v7 t_number_N) (letb (t_number_F v7.toNatClampNeg) fun x26 =>
if x26 = v8 then (
g_Trees_tellR_137 F rec55 rec97 t_low_N t_known_N p2_end p2_store_count p2_store_row_N p2_store_row_F t_path_F t_low_F t_known_F p2_next p2_latest p2_left p2_lacking v1 v2 v6 v7 v8 1 v7) else (
g_Trees_tellR_137 F rec55 rec97 t_low_N t_known_N p2_end p2_store_count p2_store_row_N p2_store_row_F t_path_F t_low_F t_known_F p2_next p2_latest p2_left p2_lacking v1 v2 v6 v7 v8 0 v7))) else (
g_Trees_tellR_166 F rec55 t_low_N t_path_F t_low_F t_known_F p2_next p2_latest p2_left p2_lacking v1 v2 v6 v7)))
noncomputable def f_Trees_tellR_97 (F : Nat) (rec55 : (Nat → Int32) → (Nat → Int32) → (Nat → Int32) → Int32 → Int32 → Int32 → Int32 → Int32 → Int32 → Int32 → Int32 → Option (Int32 × (Nat → Int32) × (Nat → Int32) × (Nat → Int32) × Int32 × Int32 × Int32 × Int32)) (t_number_N : Nat) (t_number_F : Nat → Int32) (t_low_N : Nat) (t_known_N : Nat) (p2_end : Int32) (p2_store_count : Int32) (p2_store_row_N : Nat) (p2_store_row_F : Nat → Int32) : Nat → (Nat → Int32) → (Nat → Int32) → (Nat → Int32) → Int32 → Int32 → Int32 → Int32 → Int32 → Int32 → Int32 → Int32 → Int32 → Option (Int32 × (Nat → Int32) × (Nat → Int32) × (Nat → Int32) × Int32 × Int32 × Int32 × Int32)
  | 0 => fun _ _ _ _ _ _ _ _ _ _ _ _ => none
  | n + 1 => fun t_path_F t_low_F t_known_F p2_next p2_latest p2_left p2_lacking v1 v2 v6 v7 v8 => g_Trees_tellR_97 F rec55 (f_Trees_tellR_97 F rec55 t_number_N t_number_F t_low_N t_known_N p2_end p2_store_count p2_store_row_N p2_store_row_F n) t_number_N t_number_F t_low_N t_known_N p2_end p2_store_count p2_store_row_N p2_store_row_F t_path_F t_low_F t_known_F p2_next p2_latest p2_left p2_lacking v1 v2 v6 v7 v8
noncomputable def g_Trees_tellR_55 (F : Nat) (rec55 : (Nat → Int32) → (Nat → Int32) → (Nat → Int32) → Int32 → Int32 → Int32 → Int32 → Int32 → Int32 → Int32 → Int32 → Option (Int32 × (Nat → Int32) × (Nat → Int32) × (Nat → Int32) × Int32 × Int32 × Int32 × Int32)) (t_path_N : Nat) (t_number_N : Nat) (t_number_F : Nat → Int32) (t_low_N : Nat) (t_known_N : Nat) (p2_end : Int32) (p2_store_count : Int32) (p2_store_row_N : Nat) (p2_store_row_F : Nat → Int32) (t_path_F : Nat → Int32) (t_low_F : Nat → Int32) (t_known_F : Nat → Int32) (p2_next : Int32) (p2_latest : Int32) (p2_left : Int32) (p2_lacking : Int32) (v1 : Int32) (v2 : Int32) (v5 : Int32) (v6 : Int32) : Option (Int32 × (Nat → Int32) × (Nat → Int32) × (Nat → Int32) × Int32 × Int32 × Int32 × Int32) :=
if v6 < 0 then (
asm (vp_in v1 t_known_N) (letb (t_known_F v1.toNatClampNeg) fun x27 =>
if x27 = 1 then (
g_Trees_tellR_196 F t_path_F t_low_F t_known_F p2_next p2_latest p2_left p2_lacking 1) else (
g_Trees_tellR_196 F t_path_F t_low_F t_known_F p2_next p2_latest p2_left p2_lacking 0))) else (
asm (vp_in v6 t_path_N) (letb (t_path_F v6.toNatClampNeg) fun x28 =>
asm (vp_in x28 t_low_N) (letb (t_low_F x28.toNatClampNeg) fun x29 =>
letb (if x29 < v5 then v5 else x29) fun x30 =>
asm (vp_in x28 t_low_N) (asm (vp_in x28 t_low_N) (letb ((upd t_low_F x28.toNatClampNeg x30) x28.toNatClampNeg) fun x31 =>
f_Trees_tellR_97 F rec55 t_number_N t_number_F t_low_N t_known_N p2_end p2_store_count p2_store_row_N p2_store_row_F F t_path_F (upd t_low_F x28.toNatClampNeg x30) t_known_F p2_next p2_latest p2_left p2_lacking v1 v2 v6 x28 x31)))))
noncomputable def f_Trees_tellR_55 (F : Nat) (t_path_N : Nat) (t_number_N : Nat) (t_number_F : Nat → Int32) (t_low_N : Nat) (t_known_N : Nat) (p2_end : Int32) (p2_store_count : Int32) (p2_store_row_N : Nat) (p2_store_row_F : Nat → Int32) : Nat → (Nat → Int32) → (Nat → Int32) → (Nat → Int32) → Int32 → Int32 → Int32 → Int32 → Int32 → Int32 → Int32 → Int32 → Option (Int32 × (Nat → Int32) × (Nat → Int32) × (Nat → Int32) × Int32 × Int32 × Int32 × Int32)
  | 0 => fun _ _ _ _ _ _ _ _ _ _ _ => none
  | n + 1 => fun t_path_F t_low_F t_known_F p2_next p2_latest p2_left p2_lacking v1 v2 v5 v6 => g_Trees_tellR_55 F (f_Trees_tellR_55 F t_path_N t_number_N t_number_F t_low_N t_known_N p2_end p2_store_count p2_store_row_N p2_store_row_F n) t_path_N t_number_N t_number_F t_low_N t_known_N p2_end p2_store_count p2_store_row_N p2_store_row_F t_path_F t_low_F t_known_F p2_next p2_latest p2_left p2_lacking v1 v2 v5 v6
noncomputable def g_Trees_tellR_46 (F : Nat) (t_path_N : Nat) (t_number_N : Nat) (t_number_F : Nat → Int32) (t_low_N : Nat) (t_known_N : Nat) (p2_end : Int32) (p2_store_count : Int32) (p2_store_row_N : Nat) (p2_store_row_F : Nat → Int32) (t_path_F : Nat → Int32) (t_low_F : Nat → Int32) (t_known_F : Nat → Int32) (p2_next : Int32) (p2_latest : Int32) (p2_left : Int32) (p2_lacking : Int32) (v1 : Int32) (v2 : Int32) (v4 : Int32) : Option (Int32 × (Nat → Int32) × (Nat → Int32) × (Nat → Int32) × Int32 × Int32 × Int32 × Int32) :=
letb (v4 - 1) fun x32 =>
f_Trees_tellR_55 F t_path_N t_number_N t_number_F t_low_N t_known_N p2_end p2_store_count p2_store_row_N p2_store_row_F F t_path_F t_low_F t_known_F p2_next p2_latest p2_left p2_lacking v1 v2 0 x32
noncomputable def g_Trees_tellR_6 (F : Nat) (rec6 : (Nat → Int32) → (Nat → Int32) → (Nat → Int32) → Int32 → Int32 → Int32 → Int32 → Int32 → Int32 → Int32 → Int32 → Option (Int32 × (Nat → Int32) × (Nat → Int32) × (Nat → Int32) × Int32 × Int32 × Int32 × Int32)) (t_path_N : Nat) (t_number_N : Nat) (t_number_F : Nat → Int32) (t_low_N : Nat) (t_known_N : Nat) (t_bands_above_N : Nat) (t_bands_above_F : Nat → Int32) (p2_end : Int32) (p2_store_count : Int32) (p2_store_row_N : Nat) (p2_store_row_F : Nat → Int32) (t_path_F : Nat → Int32) (t_low_F : Nat → Int32) (t_known_F : Nat → Int32) (p2_next : Int32) (p2_latest : Int32) (p2_left : Int32) (p2_lacking : Int32) (v1 : Int32) (v2 : Int32) (v4 : Int32) (v5 : Int32) : Option (Int32 × (Nat → Int32) × (Nat → Int32) × (Nat → Int32) × Int32 × Int32 × Int32 × Int32) :=
if v5 = (-1) then (
g_Trees_tellR_46 F t_path_N t_number_N t_number_F t_low_N t_known_N p2_end p2_store_count p2_store_row_N p2_store_row_F t_path_F t_low_F t_known_F p2_next p2_latest p2_left p2_lacking v1 v2 v4) else (
if 7 ≤ v4 then (
g_Trees_tellR_46 F t_path_N t_number_N t_number_F t_low_N t_known_N p2_end p2_store_count p2_store_row_N p2_store_row_F t_path_F t_low_F t_known_F p2_next p2_latest p2_left p2_lacking v1 v2 v4) else (
asm (vp_in v4 t_path_N) (letb (v4 + 1) fun x33 =>
asm (vp_in v5 t_bands_above_N) (letb (t_bands_above_F v5.toNatClampNeg) fun x34 =>
rec6 (upd t_path_F v4.toNatClampNeg v5) t_low_F t_known_F p2_next p2_latest p2_left p2_lacking v1 v2 x33 x34))))
noncomputable def f_Trees_tellR_6 (F : Nat) (t_path_N : Nat) (t_number_N : Nat) (t_number_F : Nat → Int32) (t_low_N : Nat) (t_known_N : Nat) (t_bands_above_N : Nat) (t_bands_above_F : Nat → Int32) (p2_end : Int32) (p2_store_count : Int32) (p2_store_row_N : Nat) (p2_store_row_F : Nat → Int32) : Nat → (Nat → Int32) → (Nat → Int32) → (Nat → Int32) → Int32 → Int32 → Int32 → Int32 → Int32 → Int32 → Int32 → Int32 → Option (Int32 × (Nat → Int32) × (Nat → Int32) × (Nat → Int32) × Int32 × Int32 × Int32 × Int32)
  | 0 => fun _ _ _ _ _ _ _ _ _ _ _ => none
  | n + 1 => fun t_path_F t_low_F t_known_F p2_next p2_latest p2_left p2_lacking v1 v2 v4 v5 => g_Trees_tellR_6 F (f_Trees_tellR_6 F t_path_N t_number_N t_number_F t_low_N t_known_N t_bands_above_N t_bands_above_F p2_end p2_store_count p2_store_row_N p2_store_row_F n) t_path_N t_number_N t_number_F t_low_N t_known_N t_bands_above_N t_bands_above_F p2_end p2_store_count p2_store_row_N p2_store_row_F t_path_F t_low_F t_known_F p2_next p2_latest p2_left p2_lacking v1 v2 v4 v5
noncomputable def f_Trees_tellR (F : Nat) (t_path_N : Nat) (t_path_F : Nat → Int32) (t_number_N : Nat) (t_number_F : Nat → Int32) (t_low_N : Nat) (t_low_F : Nat → Int32) (t_known_N : Nat) (t_known_F : Nat → Int32) (t_bands_above_N : Nat) (t_bands_above_F : Nat → Int32) (p2_next : Int32) (p2_end : Int32) (p2_latest : Int32) (p2_left : Int32) (p2_lacking : Int32) (p2_store_count : Int32) (p2_store_row_N : Nat) (p2_store_row_F : Nat → Int32) (p0 : Int32) (p1 : Int32) : Option (Int32 × (Nat → Int32) × (Nat → Int32) × (Nat → Int32) × Int32 × Int32 × Int32 × Int32) :=
f_Trees_tellR_6 F t_path_N t_number_N t_number_F t_low_N t_known_N t_bands_above_N t_bands_above_F p2_end p2_store_count p2_store_row_N p2_store_row_F F t_path_F t_low_F t_known_F p2_next p2_latest p2_left p2_lacking p0 p1 0 p0
set_option maxHeartbeats 4000000 in
set_option maxRecDepth 100000 in
theorem c_Trees_tellR (l : Launch) (dC : Nat → ClassId) (dI : Nat → Nat → Nat) (tI tB tL tZ : ClassId) (a_t : Nat) (a_t_path : Nat) (a_t_number : Nat) (a_t_low : Nat) (a_t_known : Nat) (a_t_bands : Nat) (a_t_bands_above : Nat) (a_p2 : Nat) (a_p2_store : Nat) (a_p2_store_row : Nat) (o_t_bands_base : Nat) (o_t_bands_leaf : Nat) (sz : Nat) (t_path_N : Nat) (t_path_F : Nat → Int32) (t_number_N : Nat) (t_number_F : Nat → Int32) (t_low_N : Nat) (t_low_F : Nat → Int32) (t_known_N : Nat) (t_known_F : Nat → Int32) (t_bands_count : Int32) (t_bands_nodes : Int32) (t_bands_style : Int32) (t_bands_above_N : Nat) (t_bands_above_F : Nat → Int32) (p2_start : Int32) (p2_next : Int32) (p2_end : Int32) (p2_latest : Int32) (p2_left : Int32) (p2_lacking : Int32) (p2_store_count : Int32) (p2_store_row_N : Nat) (p2_store_row_F : Nat → Int32) (p0 : Int32) (p1 : Int32) (F : Nat) (u : Int32 × (Nat → Int32) × (Nat → Int32) × (Nat → Int32) × Int32 × Int32 × Int32 × Int32) (hf : f_Trees_tellR F t_path_N t_path_F t_number_N t_number_F t_low_N t_low_F t_known_N t_known_F t_bands_above_N t_bands_above_F p2_next p2_end p2_latest p2_left p2_lacking p2_store_count p2_store_row_N p2_store_row_F p0 p1 = some u) : CTi l y_Trees_tell b_Trees_tell 9 .boolean 3 62 (dC, dI) classes [(tI, .int), (tB, .byte), (tL, .long), (tZ, .boolean)] [.ref a_t, .int p0, .int p1, .ref a_p2] [(a_t, .inr (5, [.ref a_t_bands, .ref a_t_path, .ref a_t_number, .ref a_t_low, .ref a_t_known])), (a_t_path, .inl (tI, t_path_N, .inl t_path_F)), (a_t_number, .inl (tI, t_number_N, .inl t_number_F)), (a_t_low, .inl (tI, t_low_N, .inl t_low_F)), (a_t_known, .inl (tI, t_known_N, .inl t_known_F)), (a_t_bands, .inr (0, [.ref o_t_bands_base, .ref o_t_bands_leaf, .ref a_t_bands_above, .int t_bands_count, .int t_bands_nodes, .int t_bands_style])), (a_t_bands_above, .inl (tI, t_bands_above_N, .inl t_bands_above_F)), (a_p2, .inr (3, [.ref a_p2_store, .int p2_start, .int p2_next, .int p2_end, .int p2_latest, .int p2_left, .int p2_lacking])), (a_p2_store, .inr (4, [.ref a_p2_store_row, .int p2_store_count])), (a_p2_store_row, .inl (tB, p2_store_row_N, .inl p2_store_row_F))] sz (fun q : Unit => [(a_t, .inr (5, [.ref a_t_bands, .ref a_t_path, .ref a_t_number, .ref a_t_low, .ref a_t_known])), (a_t_path, .inl (tI, t_path_N, .inl u.2.1)), (a_t_number, .inl (tI, t_number_N, .inl t_number_F)), (a_t_low, .inl (tI, t_low_N, .inl u.2.2.1)), (a_t_known, .inl (tI, t_known_N, .inl u.2.2.2.1)), (a_t_bands, .inr (0, [.ref o_t_bands_base, .ref o_t_bands_leaf, .ref a_t_bands_above, .int t_bands_count, .int t_bands_nodes, .int t_bands_style])), (a_t_bands_above, .inl (tI, t_bands_above_N, .inl t_bands_above_F)), (a_p2, .inr (3, [.ref a_p2_store, .int p2_start, .int u.2.2.2.2.1, .int p2_end, .int u.2.2.2.2.2.1, .int u.2.2.2.2.2.2.1, .int u.2.2.2.2.2.2.2])), (a_p2_store, .inr (4, [.ref a_p2_store_row, .int p2_store_count])), (a_p2_store_row, .inl (tB, p2_store_row_N, .inl p2_store_row_F))]) (u.1) 0 0 := by
  refine mk_i (by decide) (Nat.le_of_ble_eq_true rfl) ?_
  intro p e s m args below meth c ls A Q hx hb hml hts hown hin hK hN hP hD hA hl ret
  obtain ⟨H, hH⟩ : ∃ H : Heap, H = s.heap := ⟨_, rfl⟩
  have hS : va_S A s.heap H [] := by rw [hH]; exact va_S.rf
  rw [← hH] at hP ⊢
  have hl : lv_has ls 9 [(0, .ref a_t), (1, .int p0), (2, .int p1), (3, .ref a_p2)] := hl
  have k_196 : ∀ (t_path_F : Nat → Int32) (t_low_F : Nat → Int32) (t_known_F : Nat → Int32) (p2_next : Int32) (p2_latest : Int32) (p2_left : Int32) (p2_lacking : Int32) (s0 : Int32) (H : Heap) (locs : List Loc) (cells slots : Nat) (ls : Array Slot), va_P (dC, dI) classes [(a_t, .inr (5, [.ref a_t_bands, .ref a_t_path, .ref a_t_number, .ref a_t_low, .ref a_t_known])), (a_t_path, .inl (tI, t_path_N, .inl t_path_F)), (a_t_number, .inl (tI, t_number_N, .inl t_number_F)), (a_t_low, .inl (tI, t_low_N, .inl t_low_F)), (a_t_known, .inl (tI, t_known_N, .inl t_known_F)), (a_t_bands, .inr (0, [.ref o_t_bands_base, .ref o_t_bands_leaf, .ref a_t_bands_above, .int t_bands_count, .int t_bands_nodes, .int t_bands_style])), (a_t_bands_above, .inl (tI, t_bands_above_N, .inl t_bands_above_F)), (a_p2, .inr (3, [.ref a_p2_store, .int p2_start, .int p2_next, .int p2_end, .int p2_latest, .int p2_left, .int p2_lacking])), (a_p2_store, .inr (4, [.ref a_p2_store_row, .int p2_store_count])), (a_p2_store_row, .inl (tB, p2_store_row_N, .inl p2_store_row_F))] H → va_D A [(a_t, .inr (5, [.ref a_t_bands, .ref a_t_path, .ref a_t_number, .ref a_t_low, .ref a_t_known])), (a_t_path, .inl (tI, t_path_N, .inl t_path_F)), (a_t_number, .inl (tI, t_number_N, .inl t_number_F)), (a_t_low, .inl (tI, t_low_N, .inl t_low_F)), (a_t_known, .inl (tI, t_known_N, .inl t_known_F)), (a_t_bands, .inr (0, [.ref o_t_bands_base, .ref o_t_bands_leaf, .ref a_t_bands_above, .int t_bands_count, .int t_bands_nodes, .int t_bands_style])), (a_t_bands_above, .inl (tI, t_bands_above_N, .inl t_bands_above_F)), (a_p2, .inr (3, [.ref a_p2_store, .int p2_start, .int p2_next, .int p2_end, .int p2_latest, .int p2_left, .int p2_lacking])), (a_p2_store, .inr (4, [.ref a_p2_store_row, .int p2_store_count])), (a_p2_store_row, .inl (tB, p2_store_row_N, .inl p2_store_row_F))] → va_S A s.heap H locs → lv_has ls 9 [] → (cells ≤ 0 ∧ slots ≤ 0) → g_Trees_tellR_196 F t_path_F t_low_F t_known_F p2_next p2_latest p2_left p2_lacking s0 = some u → W p l e ({ frames := 3, cells := 0, slots := 0, locals := 62 } : Room) s m args below meth c H locs cells slots Q (F0 m 196 ls [.int s0]) := by
    intro t_path_F t_low_F t_known_F p2_next p2_latest p2_left p2_lacking s0 H locs cells slots ls hP hD hS hl hc hf
    unfold g_Trees_tellR_196 at hf
    obtain ⟨hn9, hf⟩ := asm_of hf
    have hf := Option.some.inj hf
    subst u
    exact ret _ _ _ _ _ _ () d_Trees_tell_196 hn9 hP hD hS hc.1 hc.2
  have k_166 : ∀ (rec55 : (Nat → Int32) → (Nat → Int32) → (Nat → Int32) → Int32 → Int32 → Int32 → Int32 → Int32 → Int32 → Int32 → Int32 → Option (Int32 × (Nat → Int32) × (Nat → Int32) × (Nat → Int32) × Int32 × Int32 × Int32 × Int32)), (∀ (t_path_F : Nat → Int32) (t_low_F : Nat → Int32) (t_known_F : Nat → Int32) (p2_next : Int32) (p2_latest : Int32) (p2_left : Int32) (p2_lacking : Int32) (v1 : Int32) (v2 : Int32) (v5 : Int32) (v6 : Int32) (H : Heap) (locs : List Loc) (cells slots : Nat) (ls : Array Slot), va_P (dC, dI) classes [(a_t, .inr (5, [.ref a_t_bands, .ref a_t_path, .ref a_t_number, .ref a_t_low, .ref a_t_known])), (a_t_path, .inl (tI, t_path_N, .inl t_path_F)), (a_t_number, .inl (tI, t_number_N, .inl t_number_F)), (a_t_low, .inl (tI, t_low_N, .inl t_low_F)), (a_t_known, .inl (tI, t_known_N, .inl t_known_F)), (a_t_bands, .inr (0, [.ref o_t_bands_base, .ref o_t_bands_leaf, .ref a_t_bands_above, .int t_bands_count, .int t_bands_nodes, .int t_bands_style])), (a_t_bands_above, .inl (tI, t_bands_above_N, .inl t_bands_above_F)), (a_p2, .inr (3, [.ref a_p2_store, .int p2_start, .int p2_next, .int p2_end, .int p2_latest, .int p2_left, .int p2_lacking])), (a_p2_store, .inr (4, [.ref a_p2_store_row, .int p2_store_count])), (a_p2_store_row, .inl (tB, p2_store_row_N, .inl p2_store_row_F))] H → va_D A [(a_t, .inr (5, [.ref a_t_bands, .ref a_t_path, .ref a_t_number, .ref a_t_low, .ref a_t_known])), (a_t_path, .inl (tI, t_path_N, .inl t_path_F)), (a_t_number, .inl (tI, t_number_N, .inl t_number_F)), (a_t_low, .inl (tI, t_low_N, .inl t_low_F)), (a_t_known, .inl (tI, t_known_N, .inl t_known_F)), (a_t_bands, .inr (0, [.ref o_t_bands_base, .ref o_t_bands_leaf, .ref a_t_bands_above, .int t_bands_count, .int t_bands_nodes, .int t_bands_style])), (a_t_bands_above, .inl (tI, t_bands_above_N, .inl t_bands_above_F)), (a_p2, .inr (3, [.ref a_p2_store, .int p2_start, .int p2_next, .int p2_end, .int p2_latest, .int p2_left, .int p2_lacking])), (a_p2_store, .inr (4, [.ref a_p2_store_row, .int p2_store_count])), (a_p2_store_row, .inl (tB, p2_store_row_N, .inl p2_store_row_F))] → va_S A s.heap H locs → lv_has ls 9 [(0, .ref a_t), (1, .int v1), (2, .int v2), (3, .ref a_p2), (5, .int v5), (6, .int v6)] → (cells ≤ 0 ∧ slots ≤ 0) → rec55 t_path_F t_low_F t_known_F p2_next p2_latest p2_left p2_lacking v1 v2 v5 v6 = some u → W p l e ({ frames := 3, cells := 0, slots := 0, locals := 62 } : Room) s m args below meth c H locs cells slots Q (F0 m 55 ls [])) → ∀ (t_path_F : Nat → Int32) (t_low_F : Nat → Int32) (t_known_F : Nat → Int32) (p2_next : Int32) (p2_latest : Int32) (p2_left : Int32) (p2_lacking : Int32) (v1 : Int32) (v2 : Int32) (v6 : Int32) (v7 : Int32) (H : Heap) (locs : List Loc) (cells slots : Nat) (ls : Array Slot), va_P (dC, dI) classes [(a_t, .inr (5, [.ref a_t_bands, .ref a_t_path, .ref a_t_number, .ref a_t_low, .ref a_t_known])), (a_t_path, .inl (tI, t_path_N, .inl t_path_F)), (a_t_number, .inl (tI, t_number_N, .inl t_number_F)), (a_t_low, .inl (tI, t_low_N, .inl t_low_F)), (a_t_known, .inl (tI, t_known_N, .inl t_known_F)), (a_t_bands, .inr (0, [.ref o_t_bands_base, .ref o_t_bands_leaf, .ref a_t_bands_above, .int t_bands_count, .int t_bands_nodes, .int t_bands_style])), (a_t_bands_above, .inl (tI, t_bands_above_N, .inl t_bands_above_F)), (a_p2, .inr (3, [.ref a_p2_store, .int p2_start, .int p2_next, .int p2_end, .int p2_latest, .int p2_left, .int p2_lacking])), (a_p2_store, .inr (4, [.ref a_p2_store_row, .int p2_store_count])), (a_p2_store_row, .inl (tB, p2_store_row_N, .inl p2_store_row_F))] H → va_D A [(a_t, .inr (5, [.ref a_t_bands, .ref a_t_path, .ref a_t_number, .ref a_t_low, .ref a_t_known])), (a_t_path, .inl (tI, t_path_N, .inl t_path_F)), (a_t_number, .inl (tI, t_number_N, .inl t_number_F)), (a_t_low, .inl (tI, t_low_N, .inl t_low_F)), (a_t_known, .inl (tI, t_known_N, .inl t_known_F)), (a_t_bands, .inr (0, [.ref o_t_bands_base, .ref o_t_bands_leaf, .ref a_t_bands_above, .int t_bands_count, .int t_bands_nodes, .int t_bands_style])), (a_t_bands_above, .inl (tI, t_bands_above_N, .inl t_bands_above_F)), (a_p2, .inr (3, [.ref a_p2_store, .int p2_start, .int p2_next, .int p2_end, .int p2_latest, .int p2_left, .int p2_lacking])), (a_p2_store, .inr (4, [.ref a_p2_store_row, .int p2_store_count])), (a_p2_store_row, .inl (tB, p2_store_row_N, .inl p2_store_row_F))] → va_S A s.heap H locs → lv_has ls 9 [(0, .ref a_t), (1, .int v1), (2, .int v2), (3, .ref a_p2), (6, .int v6), (7, .int v7)] → (cells ≤ 0 ∧ slots ≤ 0) → g_Trees_tellR_166 F rec55 t_low_N t_path_F t_low_F t_known_F p2_next p2_latest p2_left p2_lacking v1 v2 v6 v7 = some u → W p l e ({ frames := 3, cells := 0, slots := 0, locals := 62 } : Room) s m args below meth c H locs cells slots Q (F0 m 166 ls []) := by
    intro rec55 h55 t_path_F t_low_F t_known_F p2_next p2_latest p2_left p2_lacking v1 v2 v6 v7 H locs cells slots ls hP hD hS hl hc hf
    unfold g_Trees_tellR_166 at hf
    refine lv_aload_n hx hb d_Trees_tell_166 rfl (lv_at hl 0 rfl) ?_
    refine va_get (D := (dC, dI)) (ci := 5) (v := .ref a_t_low) (C := R_Trees) (T := F_Trees) (N := 5) hx hb hts i_Trees hown hK hP 0 rfl rfl 3 (by decide) (hts _ q_104) (fun _ h9 => h9) rfl d_Trees_tell_167 ?_
    refine lv_iload hx hb d_Trees_tell_170 (lv_at hl 5 rfl) ?_
    obtain ⟨hin9, hf⟩ := asm_of hf
    refine va_iald hx hb hK hP 3 0 rfl rfl hin9 d_Trees_tell_172 ?_
    refine lv_topi (fun x18 ex18 => ?_)
    have hf := letb_of hf ex18
    refine lv_istore (lv' := [(5, .int x18), (0, .ref a_t), (1, .int v1), (2, .int v2), (3, .ref a_p2), (6, .int v6), (7, .int v7)]) hx hb d_Trees_tell_173 hl (by decide) rfl (fun ls hl => ?_)
    obtain ⟨x19, ex19⟩ : ∃ y : Int32, y = v6 + (-1) := ⟨_, rfl⟩
    have hf := letb_of hf ex19
    refine lv_iinc (v := x19) (lv' := [(6, .int x19), (5, .int x18), (0, .ref a_t), (1, .int v1), (2, .int v2), (3, .ref a_p2), (7, .int v7)]) hx hb d_Trees_tell_175 hl (k := 5) rfl (by rw [ex19]; rfl) (by decide) rfl (fun ls hl => ?_)
    refine lv_goto (tgt := 55) hx hb d_Trees_tell_178 (by decide) ?_
    exact h55 t_path_F t_low_F t_known_F p2_next p2_latest p2_left p2_lacking v1 v2 x18 x19 _ _ _ _ ls hP hD hS (lv_sub hl [2, 3, 4, 5, 1, 0] rfl) hc hf
  have k_137 : ∀ (rec55 : (Nat → Int32) → (Nat → Int32) → (Nat → Int32) → Int32 → Int32 → Int32 → Int32 → Int32 → Int32 → Int32 → Int32 → Option (Int32 × (Nat → Int32) × (Nat → Int32) × (Nat → Int32) × Int32 × Int32 × Int32 × Int32)), (∀ (t_path_F : Nat → Int32) (t_low_F : Nat → Int32) (t_known_F : Nat → Int32) (p2_next : Int32) (p2_latest : Int32) (p2_left : Int32) (p2_lacking : Int32) (v1 : Int32) (v2 : Int32) (v5 : Int32) (v6 : Int32) (H : Heap) (locs : List Loc) (cells slots : Nat) (ls : Array Slot), va_P (dC, dI) classes [(a_t, .inr (5, [.ref a_t_bands, .ref a_t_path, .ref a_t_number, .ref a_t_low, .ref a_t_known])), (a_t_path, .inl (tI, t_path_N, .inl t_path_F)), (a_t_number, .inl (tI, t_number_N, .inl t_number_F)), (a_t_low, .inl (tI, t_low_N, .inl t_low_F)), (a_t_known, .inl (tI, t_known_N, .inl t_known_F)), (a_t_bands, .inr (0, [.ref o_t_bands_base, .ref o_t_bands_leaf, .ref a_t_bands_above, .int t_bands_count, .int t_bands_nodes, .int t_bands_style])), (a_t_bands_above, .inl (tI, t_bands_above_N, .inl t_bands_above_F)), (a_p2, .inr (3, [.ref a_p2_store, .int p2_start, .int p2_next, .int p2_end, .int p2_latest, .int p2_left, .int p2_lacking])), (a_p2_store, .inr (4, [.ref a_p2_store_row, .int p2_store_count])), (a_p2_store_row, .inl (tB, p2_store_row_N, .inl p2_store_row_F))] H → va_D A [(a_t, .inr (5, [.ref a_t_bands, .ref a_t_path, .ref a_t_number, .ref a_t_low, .ref a_t_known])), (a_t_path, .inl (tI, t_path_N, .inl t_path_F)), (a_t_number, .inl (tI, t_number_N, .inl t_number_F)), (a_t_low, .inl (tI, t_low_N, .inl t_low_F)), (a_t_known, .inl (tI, t_known_N, .inl t_known_F)), (a_t_bands, .inr (0, [.ref o_t_bands_base, .ref o_t_bands_leaf, .ref a_t_bands_above, .int t_bands_count, .int t_bands_nodes, .int t_bands_style])), (a_t_bands_above, .inl (tI, t_bands_above_N, .inl t_bands_above_F)), (a_p2, .inr (3, [.ref a_p2_store, .int p2_start, .int p2_next, .int p2_end, .int p2_latest, .int p2_left, .int p2_lacking])), (a_p2_store, .inr (4, [.ref a_p2_store_row, .int p2_store_count])), (a_p2_store_row, .inl (tB, p2_store_row_N, .inl p2_store_row_F))] → va_S A s.heap H locs → lv_has ls 9 [(0, .ref a_t), (1, .int v1), (2, .int v2), (3, .ref a_p2), (5, .int v5), (6, .int v6)] → (cells ≤ 0 ∧ slots ≤ 0) → rec55 t_path_F t_low_F t_known_F p2_next p2_latest p2_left p2_lacking v1 v2 v5 v6 = some u → W p l e ({ frames := 3, cells := 0, slots := 0, locals := 62 } : Room) s m args below meth c H locs cells slots Q (F0 m 55 ls [])) → ∀ (rec97 : (Nat → Int32) → (Nat → Int32) → (Nat → Int32) → Int32 → Int32 → Int32 → Int32 → Int32 → Int32 → Int32 → Int32 → Int32 → Option (Int32 × (Nat → Int32) × (Nat → Int32) × (Nat → Int32) × Int32 × Int32 × Int32 × Int32)), (∀ (t_path_F : Nat → Int32) (t_low_F : Nat → Int32) (t_known_F : Nat → Int32) (p2_next : Int32) (p2_latest : Int32) (p2_left : Int32) (p2_lacking : Int32) (v1 : Int32) (v2 : Int32) (v6 : Int32) (v7 : Int32) (v8 : Int32) (H : Heap) (locs : List Loc) (cells slots : Nat) (ls : Array Slot), va_P (dC, dI) classes [(a_t, .inr (5, [.ref a_t_bands, .ref a_t_path, .ref a_t_number, .ref a_t_low, .ref a_t_known])), (a_t_path, .inl (tI, t_path_N, .inl t_path_F)), (a_t_number, .inl (tI, t_number_N, .inl t_number_F)), (a_t_low, .inl (tI, t_low_N, .inl t_low_F)), (a_t_known, .inl (tI, t_known_N, .inl t_known_F)), (a_t_bands, .inr (0, [.ref o_t_bands_base, .ref o_t_bands_leaf, .ref a_t_bands_above, .int t_bands_count, .int t_bands_nodes, .int t_bands_style])), (a_t_bands_above, .inl (tI, t_bands_above_N, .inl t_bands_above_F)), (a_p2, .inr (3, [.ref a_p2_store, .int p2_start, .int p2_next, .int p2_end, .int p2_latest, .int p2_left, .int p2_lacking])), (a_p2_store, .inr (4, [.ref a_p2_store_row, .int p2_store_count])), (a_p2_store_row, .inl (tB, p2_store_row_N, .inl p2_store_row_F))] H → va_D A [(a_t, .inr (5, [.ref a_t_bands, .ref a_t_path, .ref a_t_number, .ref a_t_low, .ref a_t_known])), (a_t_path, .inl (tI, t_path_N, .inl t_path_F)), (a_t_number, .inl (tI, t_number_N, .inl t_number_F)), (a_t_low, .inl (tI, t_low_N, .inl t_low_F)), (a_t_known, .inl (tI, t_known_N, .inl t_known_F)), (a_t_bands, .inr (0, [.ref o_t_bands_base, .ref o_t_bands_leaf, .ref a_t_bands_above, .int t_bands_count, .int t_bands_nodes, .int t_bands_style])), (a_t_bands_above, .inl (tI, t_bands_above_N, .inl t_bands_above_F)), (a_p2, .inr (3, [.ref a_p2_store, .int p2_start, .int p2_next, .int p2_end, .int p2_latest, .int p2_left, .int p2_lacking])), (a_p2_store, .inr (4, [.ref a_p2_store_row, .int p2_store_count])), (a_p2_store_row, .inl (tB, p2_store_row_N, .inl p2_store_row_F))] → va_S A s.heap H locs → lv_has ls 9 [(0, .ref a_t), (1, .int v1), (2, .int v2), (3, .ref a_p2), (6, .int v6), (7, .int v7), (8, .int v8)] → (cells ≤ 0 ∧ slots ≤ 0) → rec97 t_path_F t_low_F t_known_F p2_next p2_latest p2_left p2_lacking v1 v2 v6 v7 v8 = some u → W p l e ({ frames := 3, cells := 0, slots := 0, locals := 62 } : Room) s m args below meth c H locs cells slots Q (F0 m 97 ls [])) → ∀ (t_path_F : Nat → Int32) (t_low_F : Nat → Int32) (t_known_F : Nat → Int32) (p2_next : Int32) (p2_latest : Int32) (p2_left : Int32) (p2_lacking : Int32) (v1 : Int32) (v2 : Int32) (v6 : Int32) (v7 : Int32) (v8 : Int32) (s0 : Int32) (s2 : Int32) (H : Heap) (locs : List Loc) (cells slots : Nat) (ls : Array Slot), va_P (dC, dI) classes [(a_t, .inr (5, [.ref a_t_bands, .ref a_t_path, .ref a_t_number, .ref a_t_low, .ref a_t_known])), (a_t_path, .inl (tI, t_path_N, .inl t_path_F)), (a_t_number, .inl (tI, t_number_N, .inl t_number_F)), (a_t_low, .inl (tI, t_low_N, .inl t_low_F)), (a_t_known, .inl (tI, t_known_N, .inl t_known_F)), (a_t_bands, .inr (0, [.ref o_t_bands_base, .ref o_t_bands_leaf, .ref a_t_bands_above, .int t_bands_count, .int t_bands_nodes, .int t_bands_style])), (a_t_bands_above, .inl (tI, t_bands_above_N, .inl t_bands_above_F)), (a_p2, .inr (3, [.ref a_p2_store, .int p2_start, .int p2_next, .int p2_end, .int p2_latest, .int p2_left, .int p2_lacking])), (a_p2_store, .inr (4, [.ref a_p2_store_row, .int p2_store_count])), (a_p2_store_row, .inl (tB, p2_store_row_N, .inl p2_store_row_F))] H → va_D A [(a_t, .inr (5, [.ref a_t_bands, .ref a_t_path, .ref a_t_number, .ref a_t_low, .ref a_t_known])), (a_t_path, .inl (tI, t_path_N, .inl t_path_F)), (a_t_number, .inl (tI, t_number_N, .inl t_number_F)), (a_t_low, .inl (tI, t_low_N, .inl t_low_F)), (a_t_known, .inl (tI, t_known_N, .inl t_known_F)), (a_t_bands, .inr (0, [.ref o_t_bands_base, .ref o_t_bands_leaf, .ref a_t_bands_above, .int t_bands_count, .int t_bands_nodes, .int t_bands_style])), (a_t_bands_above, .inl (tI, t_bands_above_N, .inl t_bands_above_F)), (a_p2, .inr (3, [.ref a_p2_store, .int p2_start, .int p2_next, .int p2_end, .int p2_latest, .int p2_left, .int p2_lacking])), (a_p2_store, .inr (4, [.ref a_p2_store_row, .int p2_store_count])), (a_p2_store_row, .inl (tB, p2_store_row_N, .inl p2_store_row_F))] → va_S A s.heap H locs → lv_has ls 9 [(0, .ref a_t), (1, .int v1), (2, .int v2), (3, .ref a_p2), (6, .int v6), (7, .int v7), (8, .int v8)] → (cells ≤ 0 ∧ slots ≤ 0) → g_Trees_tellR_137 F rec55 rec97 t_low_N t_known_N p2_end p2_store_count p2_store_row_N p2_store_row_F t_path_F t_low_F t_known_F p2_next p2_latest p2_left p2_lacking v1 v2 v6 v7 v8 s0 s2 = some u → W p l e ({ frames := 3, cells := 0, slots := 0, locals := 62 } : Room) s m args below meth c H locs cells slots Q (F0 m 137 ls [.int s0, .ref a_p2, .int s2, .ref a_t_known]) := by
    intro rec55 h55 rec97 h97 t_path_F t_low_F t_known_F p2_next p2_latest p2_left p2_lacking v1 v2 v6 v7 v8 s0 s2 H locs cells slots ls hP hD hS hl hc hf
    unfold g_Trees_tellR_137 at hf
    obtain ⟨u20, hu, hf⟩ := bd_of hf
    refine jn_i (wc := [(a_p2, .inr (3, [.ref a_p2_store, .int p2_start, .int p2_next, .int p2_end, .int p2_latest, .int p2_left, .int p2_lacking])), (a_p2_store, .inr (4, [.ref a_p2_store_row, .int p2_store_count])), (a_p2_store_row, .inl (tB, p2_store_row_N, .inl p2_store_row_F))]) (wr := [(a_t, .inr (5, [.ref a_t_bands, .ref a_t_path, .ref a_t_number, .ref a_t_low, .ref a_t_known])), (a_t_path, .inl (tI, t_path_N, .inl t_path_F)), (a_t_number, .inl (tI, t_number_N, .inl t_number_F)), (a_t_low, .inl (tI, t_low_N, .inl t_low_F)), (a_t_known, .inl (tI, t_known_N, .inl t_known_F)), (a_t_bands, .inr (0, [.ref o_t_bands_base, .ref o_t_bands_leaf, .ref a_t_bands_above, .int t_bands_count, .int t_bands_nodes, .int t_bands_style])), (a_t_bands_above, .inl (tI, t_bands_above_N, .inl t_bands_above_F))]) (va_runU (As := [.int s0]) (rest := [.int s2, .ref a_t_known]) ⟨hx, hb, hml, hown, hts⟩ (c_Source_bit l dC dI tI tB tL tZ a_p2 a_p2_store a_p2_store_row H.size p2_start p2_next p2_end p2_latest p2_left p2_lacking p2_store_count p2_store_row_N p2_store_row_F s0 F u20 hu) (ca_of hts hN q_67 q_112 q_65 q_56 q_74 q_75 q_76 hd_Bits_bit ⟨Nat.le_of_ble_eq_true rfl, Nat.le_of_ble_eq_true rfl⟩) (pr_V (ci := 3) (C := R_Source) (q0 := 0) hK hN (hP.sub [7, 8, 9] rfl) (hD.sub [7, 8, 9] (by decide) rfl) rfl rfl) rfl rfl hl.1 rfl (lv_room (Nat.le_of_ble_eq_true rfl)) d_Trees_tell_137 hc) hP hD hS hA [7, 8, 9] [0, 1, 2, 3, 4, 5, 6] rfl rfl (by decide) (by decide) (fun r9 _ H locs hw hP hD hS => ?_)
    subst r9
    have hP : va_P (dC, dI) classes [(a_t, .inr (5, [.ref a_t_bands, .ref a_t_path, .ref a_t_number, .ref a_t_low, .ref a_t_known])), (a_t_path, .inl (tI, t_path_N, .inl t_path_F)), (a_t_number, .inl (tI, t_number_N, .inl t_number_F)), (a_t_low, .inl (tI, t_low_N, .inl t_low_F)), (a_t_known, .inl (tI, t_known_N, .inl t_known_F)), (a_t_bands, .inr (0, [.ref o_t_bands_base, .ref o_t_bands_leaf, .ref a_t_bands_above, .int t_bands_count, .int t_bands_nodes, .int t_bands_style])), (a_t_bands_above, .inl (tI, t_bands_above_N, .inl t_bands_above_F)), (a_p2, .inr (3, [.ref a_p2_store, .int p2_start, .int u20.2.1, .int p2_end, .int u20.2.2.1, .int u20.2.2.2.1, .int u20.2.2.2.2])), (a_p2_store, .inr (4, [.ref a_p2_store_row, .int p2_store_count])), (a_p2_store_row, .inl (tB, p2_store_row_N, .inl p2_store_row_F))] H := hP
    have hD : va_D A [(a_t, .inr (5, [.ref a_t_bands, .ref a_t_path, .ref a_t_number, .ref a_t_low, .ref a_t_known])), (a_t_path, .inl (tI, t_path_N, .inl t_path_F)), (a_t_number, .inl (tI, t_number_N, .inl t_number_F)), (a_t_low, .inl (tI, t_low_N, .inl t_low_F)), (a_t_known, .inl (tI, t_known_N, .inl t_known_F)), (a_t_bands, .inr (0, [.ref o_t_bands_base, .ref o_t_bands_leaf, .ref a_t_bands_above, .int t_bands_count, .int t_bands_nodes, .int t_bands_style])), (a_t_bands_above, .inl (tI, t_bands_above_N, .inl t_bands_above_F)), (a_p2, .inr (3, [.ref a_p2_store, .int p2_start, .int u20.2.1, .int p2_end, .int u20.2.2.1, .int u20.2.2.2.1, .int u20.2.2.2.2])), (a_p2_store, .inr (4, [.ref a_p2_store_row, .int p2_store_count])), (a_p2_store_row, .inl (tB, p2_store_row_N, .inl p2_store_row_F))] := hD
    obtain ⟨hin9, hf⟩ := asm_of hf
    refine va_iast hx hb hK hP hD hS 4 0 rfl rfl hin9 d_Trees_tell_140 (fun H locs hP hD hS => ?_)
    have hP : va_P (dC, dI) classes [(a_t, .inr (5, [.ref a_t_bands, .ref a_t_path, .ref a_t_number, .ref a_t_low, .ref a_t_known])), (a_t_path, .inl (tI, t_path_N, .inl t_path_F)), (a_t_number, .inl (tI, t_number_N, .inl t_number_F)), (a_t_low, .inl (tI, t_low_N, .inl t_low_F)), (a_t_known, .inl (tI, t_known_N, .inl (upd t_known_F s2.toNatClampNeg u20.1))), (a_t_bands, .inr (0, [.ref o_t_bands_base, .ref o_t_bands_leaf, .ref a_t_bands_above, .int t_bands_count, .int t_bands_nodes, .int t_bands_style])), (a_t_bands_above, .inl (tI, t_bands_above_N, .inl t_bands_above_F)), (a_p2, .inr (3, [.ref a_p2_store, .int p2_start, .int u20.2.1, .int p2_end, .int u20.2.2.1, .int u20.2.2.2.1, .int u20.2.2.2.2])), (a_p2_store, .inr (4, [.ref a_p2_store_row, .int p2_store_count])), (a_p2_store_row, .inl (tB, p2_store_row_N, .inl p2_store_row_F))] H := hP
    have hD : va_D A [(a_t, .inr (5, [.ref a_t_bands, .ref a_t_path, .ref a_t_number, .ref a_t_low, .ref a_t_known])), (a_t_path, .inl (tI, t_path_N, .inl t_path_F)), (a_t_number, .inl (tI, t_number_N, .inl t_number_F)), (a_t_low, .inl (tI, t_low_N, .inl t_low_F)), (a_t_known, .inl (tI, t_known_N, .inl (upd t_known_F s2.toNatClampNeg u20.1))), (a_t_bands, .inr (0, [.ref o_t_bands_base, .ref o_t_bands_leaf, .ref a_t_bands_above, .int t_bands_count, .int t_bands_nodes, .int t_bands_style])), (a_t_bands_above, .inl (tI, t_bands_above_N, .inl t_bands_above_F)), (a_p2, .inr (3, [.ref a_p2_store, .int p2_start, .int u20.2.1, .int p2_end, .int u20.2.2.1, .int u20.2.2.2.1, .int u20.2.2.2.2])), (a_p2_store, .inr (4, [.ref a_p2_store_row, .int p2_store_count])), (a_p2_store_row, .inl (tB, p2_store_row_N, .inl p2_store_row_F))] := hD
    refine lv_aload_n hx hb d_Trees_tell_141 rfl (lv_at hl 0 rfl) ?_
    refine va_get (D := (dC, dI)) (ci := 5) (v := .ref a_t_low) (C := R_Trees) (T := F_Trees) (N := 5) hx hb hts i_Trees hown hK hP 0 rfl rfl 3 (by decide) (hts _ q_104) (fun _ h9 => h9) rfl d_Trees_tell_142 ?_
    refine lv_iload hx hb d_Trees_tell_145 (lv_at hl 5 rfl) ?_
    refine lv_iload hx hb d_Trees_tell_147 (lv_at hl 6 rfl) ?_
    refine lv_iconst (v := 1) hx hb d_Trees_tell_149 (by decide) ?_
    refine lv_iadd hx hb d_Trees_tell_150 ?_
    refine lv_topi (fun x21 ex21 => ?_)
    have hf := letb_of hf ex21
    refine lv_aload_n hx hb d_Trees_tell_151 rfl (lv_at hl 0 rfl) ?_
    refine va_get (D := (dC, dI)) (ci := 5) (v := .ref a_t_known) (C := R_Trees) (T := F_Trees) (N := 5) hx hb hts i_Trees hown hK hP 0 rfl rfl 4 (by decide) (hts _ q_105) (fun _ h9 => h9) rfl d_Trees_tell_152 ?_
    refine lv_iload hx hb d_Trees_tell_155 (lv_at hl 5 rfl) ?_
    obtain ⟨hin9, hf⟩ := asm_of hf
    refine va_iald hx hb hK hP 4 0 rfl rfl hin9 d_Trees_tell_157 ?_
    refine lv_topi (fun x22 ex22 => ?_)
    have hf := letb_of hf ex22
    refine lv_isub hx hb d_Trees_tell_158 ?_
    refine lv_topi (fun x23 ex23 => ?_)
    have hf := letb_of hf ex23
    obtain ⟨hin9, hf⟩ := asm_of hf
    refine va_iast hx hb hK hP hD hS 3 0 rfl rfl hin9 d_Trees_tell_159 (fun H locs hP hD hS => ?_)
    have hP : va_P (dC, dI) classes [(a_t, .inr (5, [.ref a_t_bands, .ref a_t_path, .ref a_t_number, .ref a_t_low, .ref a_t_known])), (a_t_path, .inl (tI, t_path_N, .inl t_path_F)), (a_t_number, .inl (tI, t_number_N, .inl t_number_F)), (a_t_low, .inl (tI, t_low_N, .inl (upd t_low_F v7.toNatClampNeg x23))), (a_t_known, .inl (tI, t_known_N, .inl (upd t_known_F s2.toNatClampNeg u20.1))), (a_t_bands, .inr (0, [.ref o_t_bands_base, .ref o_t_bands_leaf, .ref a_t_bands_above, .int t_bands_count, .int t_bands_nodes, .int t_bands_style])), (a_t_bands_above, .inl (tI, t_bands_above_N, .inl t_bands_above_F)), (a_p2, .inr (3, [.ref a_p2_store, .int p2_start, .int u20.2.1, .int p2_end, .int u20.2.2.1, .int u20.2.2.2.1, .int u20.2.2.2.2])), (a_p2_store, .inr (4, [.ref a_p2_store_row, .int p2_store_count])), (a_p2_store_row, .inl (tB, p2_store_row_N, .inl p2_store_row_F))] H := hP
    have hD : va_D A [(a_t, .inr (5, [.ref a_t_bands, .ref a_t_path, .ref a_t_number, .ref a_t_low, .ref a_t_known])), (a_t_path, .inl (tI, t_path_N, .inl t_path_F)), (a_t_number, .inl (tI, t_number_N, .inl t_number_F)), (a_t_low, .inl (tI, t_low_N, .inl (upd t_low_F v7.toNatClampNeg x23))), (a_t_known, .inl (tI, t_known_N, .inl (upd t_known_F s2.toNatClampNeg u20.1))), (a_t_bands, .inr (0, [.ref o_t_bands_base, .ref o_t_bands_leaf, .ref a_t_bands_above, .int t_bands_count, .int t_bands_nodes, .int t_bands_style])), (a_t_bands_above, .inl (tI, t_bands_above_N, .inl t_bands_above_F)), (a_p2, .inr (3, [.ref a_p2_store, .int p2_start, .int u20.2.1, .int p2_end, .int u20.2.2.1, .int u20.2.2.2.1, .int u20.2.2.2.2])), (a_p2_store, .inr (4, [.ref a_p2_store_row, .int p2_store_count])), (a_p2_store_row, .inl (tB, p2_store_row_N, .inl p2_store_row_F))] := hD
    obtain ⟨x24, ex24⟩ : ∃ y : Int32, y = v8 + 1 := ⟨_, rfl⟩
    have hf := letb_of hf ex24
    refine lv_iinc (v := x24) (lv' := [(8, .int x24), (0, .ref a_t), (1, .int v1), (2, .int v2), (3, .ref a_p2), (6, .int v6), (7, .int v7)]) hx hb d_Trees_tell_160 hl (k := 6) rfl (by rw [ex24]; rfl) (by decide) rfl (fun ls hl => ?_)
    refine lv_goto (tgt := 97) hx hb d_Trees_tell_163 (by decide) ?_
    exact h97 t_path_F (upd t_low_F v7.toNatClampNeg x23) (upd t_known_F s2.toNatClampNeg u20.1) u20.2.1 u20.2.2.1 u20.2.2.2.1 u20.2.2.2.2 v1 v2 v6 v7 x24 _ _ _ _ ls hP hD hS (lv_sub hl [1, 2, 3, 4, 5, 6, 0] rfl) hc hf
  have k_97 : ∀ (rec55 : (Nat → Int32) → (Nat → Int32) → (Nat → Int32) → Int32 → Int32 → Int32 → Int32 → Int32 → Int32 → Int32 → Int32 → Option (Int32 × (Nat → Int32) × (Nat → Int32) × (Nat → Int32) × Int32 × Int32 × Int32 × Int32)), (∀ (t_path_F : Nat → Int32) (t_low_F : Nat → Int32) (t_known_F : Nat → Int32) (p2_next : Int32) (p2_latest : Int32) (p2_left : Int32) (p2_lacking : Int32) (v1 : Int32) (v2 : Int32) (v5 : Int32) (v6 : Int32) (H : Heap) (locs : List Loc) (cells slots : Nat) (ls : Array Slot), va_P (dC, dI) classes [(a_t, .inr (5, [.ref a_t_bands, .ref a_t_path, .ref a_t_number, .ref a_t_low, .ref a_t_known])), (a_t_path, .inl (tI, t_path_N, .inl t_path_F)), (a_t_number, .inl (tI, t_number_N, .inl t_number_F)), (a_t_low, .inl (tI, t_low_N, .inl t_low_F)), (a_t_known, .inl (tI, t_known_N, .inl t_known_F)), (a_t_bands, .inr (0, [.ref o_t_bands_base, .ref o_t_bands_leaf, .ref a_t_bands_above, .int t_bands_count, .int t_bands_nodes, .int t_bands_style])), (a_t_bands_above, .inl (tI, t_bands_above_N, .inl t_bands_above_F)), (a_p2, .inr (3, [.ref a_p2_store, .int p2_start, .int p2_next, .int p2_end, .int p2_latest, .int p2_left, .int p2_lacking])), (a_p2_store, .inr (4, [.ref a_p2_store_row, .int p2_store_count])), (a_p2_store_row, .inl (tB, p2_store_row_N, .inl p2_store_row_F))] H → va_D A [(a_t, .inr (5, [.ref a_t_bands, .ref a_t_path, .ref a_t_number, .ref a_t_low, .ref a_t_known])), (a_t_path, .inl (tI, t_path_N, .inl t_path_F)), (a_t_number, .inl (tI, t_number_N, .inl t_number_F)), (a_t_low, .inl (tI, t_low_N, .inl t_low_F)), (a_t_known, .inl (tI, t_known_N, .inl t_known_F)), (a_t_bands, .inr (0, [.ref o_t_bands_base, .ref o_t_bands_leaf, .ref a_t_bands_above, .int t_bands_count, .int t_bands_nodes, .int t_bands_style])), (a_t_bands_above, .inl (tI, t_bands_above_N, .inl t_bands_above_F)), (a_p2, .inr (3, [.ref a_p2_store, .int p2_start, .int p2_next, .int p2_end, .int p2_latest, .int p2_left, .int p2_lacking])), (a_p2_store, .inr (4, [.ref a_p2_store_row, .int p2_store_count])), (a_p2_store_row, .inl (tB, p2_store_row_N, .inl p2_store_row_F))] → va_S A s.heap H locs → lv_has ls 9 [(0, .ref a_t), (1, .int v1), (2, .int v2), (3, .ref a_p2), (5, .int v5), (6, .int v6)] → (cells ≤ 0 ∧ slots ≤ 0) → rec55 t_path_F t_low_F t_known_F p2_next p2_latest p2_left p2_lacking v1 v2 v5 v6 = some u → W p l e ({ frames := 3, cells := 0, slots := 0, locals := 62 } : Room) s m args below meth c H locs cells slots Q (F0 m 55 ls [])) → ∀ n : Nat, ∀ (t_path_F : Nat → Int32) (t_low_F : Nat → Int32) (t_known_F : Nat → Int32) (p2_next : Int32) (p2_latest : Int32) (p2_left : Int32) (p2_lacking : Int32) (v1 : Int32) (v2 : Int32) (v6 : Int32) (v7 : Int32) (v8 : Int32) (H : Heap) (locs : List Loc) (cells slots : Nat) (ls : Array Slot), va_P (dC, dI) classes [(a_t, .inr (5, [.ref a_t_bands, .ref a_t_path, .ref a_t_number, .ref a_t_low, .ref a_t_known])), (a_t_path, .inl (tI, t_path_N, .inl t_path_F)), (a_t_number, .inl (tI, t_number_N, .inl t_number_F)), (a_t_low, .inl (tI, t_low_N, .inl t_low_F)), (a_t_known, .inl (tI, t_known_N, .inl t_known_F)), (a_t_bands, .inr (0, [.ref o_t_bands_base, .ref o_t_bands_leaf, .ref a_t_bands_above, .int t_bands_count, .int t_bands_nodes, .int t_bands_style])), (a_t_bands_above, .inl (tI, t_bands_above_N, .inl t_bands_above_F)), (a_p2, .inr (3, [.ref a_p2_store, .int p2_start, .int p2_next, .int p2_end, .int p2_latest, .int p2_left, .int p2_lacking])), (a_p2_store, .inr (4, [.ref a_p2_store_row, .int p2_store_count])), (a_p2_store_row, .inl (tB, p2_store_row_N, .inl p2_store_row_F))] H → va_D A [(a_t, .inr (5, [.ref a_t_bands, .ref a_t_path, .ref a_t_number, .ref a_t_low, .ref a_t_known])), (a_t_path, .inl (tI, t_path_N, .inl t_path_F)), (a_t_number, .inl (tI, t_number_N, .inl t_number_F)), (a_t_low, .inl (tI, t_low_N, .inl t_low_F)), (a_t_known, .inl (tI, t_known_N, .inl t_known_F)), (a_t_bands, .inr (0, [.ref o_t_bands_base, .ref o_t_bands_leaf, .ref a_t_bands_above, .int t_bands_count, .int t_bands_nodes, .int t_bands_style])), (a_t_bands_above, .inl (tI, t_bands_above_N, .inl t_bands_above_F)), (a_p2, .inr (3, [.ref a_p2_store, .int p2_start, .int p2_next, .int p2_end, .int p2_latest, .int p2_left, .int p2_lacking])), (a_p2_store, .inr (4, [.ref a_p2_store_row, .int p2_store_count])), (a_p2_store_row, .inl (tB, p2_store_row_N, .inl p2_store_row_F))] → va_S A s.heap H locs → lv_has ls 9 [(0, .ref a_t), (1, .int v1), (2, .int v2), (3, .ref a_p2), (6, .int v6), (7, .int v7), (8, .int v8)] → (cells ≤ 0 ∧ slots ≤ 0) → f_Trees_tellR_97 F rec55 t_number_N t_number_F t_low_N t_known_N p2_end p2_store_count p2_store_row_N p2_store_row_F n t_path_F t_low_F t_known_F p2_next p2_latest p2_left p2_lacking v1 v2 v6 v7 v8 = some u → W p l e ({ frames := 3, cells := 0, slots := 0, locals := 62 } : Room) s m args below meth c H locs cells slots Q (F0 m 97 ls []) := by
    intro rec55 h55 n
    induction n with
    | zero => intro t_path_F t_low_F t_known_F p2_next p2_latest p2_left p2_lacking v1 v2 v6 v7 v8 H locs cells slots ls hP hD hS hl hc hf; exact absurd hf (by intro h9; cases h9)
    | succ n h97 =>
      intro t_path_F t_low_F t_known_F p2_next p2_latest p2_left p2_lacking v1 v2 v6 v7 v8 H locs cells slots ls hP hD hS hl hc hf
      have hf : g_Trees_tellR_97 F rec55 (f_Trees_tellR_97 F rec55 t_number_N t_number_F t_low_N t_known_N p2_end p2_store_count p2_store_row_N p2_store_row_F n) t_number_N t_number_F t_low_N t_known_N p2_end p2_store_count p2_store_row_N p2_store_row_F t_path_F t_low_F t_known_F p2_next p2_latest p2_left p2_lacking v1 v2 v6 v7 v8 = some u := hf
      generalize (f_Trees_tellR_97 F rec55 t_number_N t_number_F t_low_N t_known_N p2_end p2_store_count p2_store_row_N p2_store_row_F n) = rec97 at hf h97
      unfold g_Trees_tellR_97 at hf
      refine lv_iload hx hb d_Trees_tell_97 (lv_at hl 6 rfl) ?_
      refine lv_iload_n hx hb d_Trees_tell_99 rfl (lv_at hl 2 rfl) ?_
      refine lv_icmp_ge (tgt := 166) hx hb d_Trees_tell_100 (by decide) (fun c0 => ?_) (fun c0 => ?_)
      · have hf := ite_t c0 hf
        exact k_166 rec55 h55 t_path_F t_low_F t_known_F p2_next p2_latest p2_left p2_lacking v1 v2 v6 v7 _ _ _ _ ls hP hD hS (lv_sub hl [0, 1, 2, 3, 4, 5] rfl) hc hf
      · have hf := ite_f c0 hf
        refine lv_aload_n hx hb d_Trees_tell_103 rfl (lv_at hl 0 rfl) ?_
        refine va_get (D := (dC, dI)) (ci := 5) (v := .ref a_t_known) (C := R_Trees) (T := F_Trees) (N := 5) hx hb hts i_Trees hown hK hP 0 rfl rfl 4 (by decide) (hts _ q_105) (fun _ h9 => h9) rfl d_Trees_tell_104 ?_
        refine lv_iload hx hb d_Trees_tell_107 (lv_at hl 5 rfl) ?_
        obtain ⟨hin9, hf⟩ := asm_of hf
        refine va_iald hx hb hK hP 4 0 rfl rfl hin9 d_Trees_tell_109 ?_
        refine lv_topi (fun x25 ex25 => ?_)
        have hf := letb_of hf ex25
        refine lv_if_ne (tgt := 166) hx hb d_Trees_tell_110 (by decide) (fun c0 => ?_) (fun c0 => ?_)
        · have hf := ite_f c0 hf
          exact k_166 rec55 h55 t_path_F t_low_F t_known_F p2_next p2_latest p2_left p2_lacking v1 v2 v6 v7 _ _ _ _ ls hP hD hS (lv_sub hl [0, 1, 2, 3, 4, 5] rfl) hc hf
        · have hf := ite_t c0 hf
          refine lv_aload_n hx hb d_Trees_tell_113 rfl (lv_at hl 0 rfl) ?_
          refine va_get (D := (dC, dI)) (ci := 5) (v := .ref a_t_known) (C := R_Trees) (T := F_Trees) (N := 5) hx hb hts i_Trees hown hK hP 0 rfl rfl 4 (by decide) (hts _ q_105) (fun _ h9 => h9) rfl d_Trees_tell_114 ?_
          refine lv_iload hx hb d_Trees_tell_117 (lv_at hl 5 rfl) ?_
          refine lv_aload_n hx hb d_Trees_tell_119 rfl (lv_at hl 3 rfl) ?_
          refine lv_aload_n hx hb d_Trees_tell_120 rfl (lv_at hl 0 rfl) ?_
          refine va_get (D := (dC, dI)) (ci := 5) (v := .ref a_t_number) (C := R_Trees) (T := F_Trees) (N := 5) hx hb hts i_Trees hown hK hP 0 rfl rfl 2 (by decide) (hts _ q_103) (fun _ h9 => h9) rfl d_Trees_tell_121 ?_
          refine lv_iload hx hb d_Trees_tell_124 (lv_at hl 5 rfl) ?_
          obtain ⟨hin9, hf⟩ := asm_of hf
          refine va_iald hx hb hK hP 2 0 rfl rfl hin9 d_Trees_tell_126 ?_
          refine lv_topi (fun x26 ex26 => ?_)
          have hf := letb_of hf ex26
          refine lv_iload hx hb d_Trees_tell_127 (lv_at hl 6 rfl) ?_
          refine lv_icmp_ne (tgt := 136) hx hb d_Trees_tell_129 (by decide) (fun c0 => ?_) (fun c0 => ?_)
          · have hf := ite_f c0 hf
            refine lv_iconst (v := 0) hx hb d_Trees_tell_136 (by decide) ?_
            exact k_137 rec55 h55 rec97 h97 t_path_F t_low_F t_known_F p2_next p2_latest p2_left p2_lacking v1 v2 v6 v7 v8 0 v7 _ _ _ _ ls hP hD hS hl hc hf
          · have hf := ite_t c0 hf
            refine lv_iconst (v := 1) hx hb d_Trees_tell_132 (by decide) ?_
            refine lv_goto (tgt := 137) hx hb d_Trees_tell_133 (by decide) ?_
            exact k_137 rec55 h55 rec97 h97 t_path_F t_low_F t_known_F p2_next p2_latest p2_left p2_lacking v1 v2 v6 v7 v8 1 v7 _ _ _ _ ls hP hD hS hl hc hf
  have k_55 : ∀ n : Nat, ∀ (t_path_F : Nat → Int32) (t_low_F : Nat → Int32) (t_known_F : Nat → Int32) (p2_next : Int32) (p2_latest : Int32) (p2_left : Int32) (p2_lacking : Int32) (v1 : Int32) (v2 : Int32) (v5 : Int32) (v6 : Int32) (H : Heap) (locs : List Loc) (cells slots : Nat) (ls : Array Slot), va_P (dC, dI) classes [(a_t, .inr (5, [.ref a_t_bands, .ref a_t_path, .ref a_t_number, .ref a_t_low, .ref a_t_known])), (a_t_path, .inl (tI, t_path_N, .inl t_path_F)), (a_t_number, .inl (tI, t_number_N, .inl t_number_F)), (a_t_low, .inl (tI, t_low_N, .inl t_low_F)), (a_t_known, .inl (tI, t_known_N, .inl t_known_F)), (a_t_bands, .inr (0, [.ref o_t_bands_base, .ref o_t_bands_leaf, .ref a_t_bands_above, .int t_bands_count, .int t_bands_nodes, .int t_bands_style])), (a_t_bands_above, .inl (tI, t_bands_above_N, .inl t_bands_above_F)), (a_p2, .inr (3, [.ref a_p2_store, .int p2_start, .int p2_next, .int p2_end, .int p2_latest, .int p2_left, .int p2_lacking])), (a_p2_store, .inr (4, [.ref a_p2_store_row, .int p2_store_count])), (a_p2_store_row, .inl (tB, p2_store_row_N, .inl p2_store_row_F))] H → va_D A [(a_t, .inr (5, [.ref a_t_bands, .ref a_t_path, .ref a_t_number, .ref a_t_low, .ref a_t_known])), (a_t_path, .inl (tI, t_path_N, .inl t_path_F)), (a_t_number, .inl (tI, t_number_N, .inl t_number_F)), (a_t_low, .inl (tI, t_low_N, .inl t_low_F)), (a_t_known, .inl (tI, t_known_N, .inl t_known_F)), (a_t_bands, .inr (0, [.ref o_t_bands_base, .ref o_t_bands_leaf, .ref a_t_bands_above, .int t_bands_count, .int t_bands_nodes, .int t_bands_style])), (a_t_bands_above, .inl (tI, t_bands_above_N, .inl t_bands_above_F)), (a_p2, .inr (3, [.ref a_p2_store, .int p2_start, .int p2_next, .int p2_end, .int p2_latest, .int p2_left, .int p2_lacking])), (a_p2_store, .inr (4, [.ref a_p2_store_row, .int p2_store_count])), (a_p2_store_row, .inl (tB, p2_store_row_N, .inl p2_store_row_F))] → va_S A s.heap H locs → lv_has ls 9 [(0, .ref a_t), (1, .int v1), (2, .int v2), (3, .ref a_p2), (5, .int v5), (6, .int v6)] → (cells ≤ 0 ∧ slots ≤ 0) → f_Trees_tellR_55 F t_path_N t_number_N t_number_F t_low_N t_known_N p2_end p2_store_count p2_store_row_N p2_store_row_F n t_path_F t_low_F t_known_F p2_next p2_latest p2_left p2_lacking v1 v2 v5 v6 = some u → W p l e ({ frames := 3, cells := 0, slots := 0, locals := 62 } : Room) s m args below meth c H locs cells slots Q (F0 m 55 ls []) := by
    intro n
    induction n with
    | zero => intro t_path_F t_low_F t_known_F p2_next p2_latest p2_left p2_lacking v1 v2 v5 v6 H locs cells slots ls hP hD hS hl hc hf; exact absurd hf (by intro h9; cases h9)
    | succ n h55 =>
      intro t_path_F t_low_F t_known_F p2_next p2_latest p2_left p2_lacking v1 v2 v5 v6 H locs cells slots ls hP hD hS hl hc hf
      have hf : g_Trees_tellR_55 F (f_Trees_tellR_55 F t_path_N t_number_N t_number_F t_low_N t_known_N p2_end p2_store_count p2_store_row_N p2_store_row_F n) t_path_N t_number_N t_number_F t_low_N t_known_N p2_end p2_store_count p2_store_row_N p2_store_row_F t_path_F t_low_F t_known_F p2_next p2_latest p2_left p2_lacking v1 v2 v5 v6 = some u := hf
      generalize (f_Trees_tellR_55 F t_path_N t_number_N t_number_F t_low_N t_known_N p2_end p2_store_count p2_store_row_N p2_store_row_F n) = rec55 at hf h55
      unfold g_Trees_tellR_55 at hf
      refine lv_iload hx hb d_Trees_tell_55 (lv_at hl 5 rfl) ?_
      refine lv_if_lt (tgt := 181) hx hb d_Trees_tell_57 (by decide) (fun c0 => ?_) (fun c0 => ?_)
      · have hf := ite_t c0 hf
        refine lv_aload_n hx hb d_Trees_tell_181 rfl (lv_at hl 0 rfl) ?_
        refine va_get (D := (dC, dI)) (ci := 5) (v := .ref a_t_known) (C := R_Trees) (T := F_Trees) (N := 5) hx hb hts i_Trees hown hK hP 0 rfl rfl 4 (by decide) (hts _ q_105) (fun _ h9 => h9) rfl d_Trees_tell_182 ?_
        refine lv_iload_n hx hb d_Trees_tell_185 rfl (lv_at hl 1 rfl) ?_
        obtain ⟨hin9, hf⟩ := asm_of hf
        refine va_iald hx hb hK hP 4 0 rfl rfl hin9 d_Trees_tell_186 ?_
        refine lv_topi (fun x27 ex27 => ?_)
        have hf := letb_of hf ex27
        refine lv_iconst (v := 1) hx hb d_Trees_tell_187 (by decide) ?_
        refine lv_icmp_ne (tgt := 195) hx hb d_Trees_tell_188 (by decide) (fun c0 => ?_) (fun c0 => ?_)
        · have hf := ite_f c0 hf
          refine lv_iconst (v := 0) hx hb d_Trees_tell_195 (by decide) ?_
          exact k_196 t_path_F t_low_F t_known_F p2_next p2_latest p2_left p2_lacking 0 _ _ _ _ ls hP hD hS (lv_sub hl [] rfl) hc hf
        · have hf := ite_t c0 hf
          refine lv_iconst (v := 1) hx hb d_Trees_tell_191 (by decide) ?_
          refine lv_goto (tgt := 196) hx hb d_Trees_tell_192 (by decide) ?_
          exact k_196 t_path_F t_low_F t_known_F p2_next p2_latest p2_left p2_lacking 1 _ _ _ _ ls hP hD hS (lv_sub hl [] rfl) hc hf
      · have hf := ite_f c0 hf
        refine lv_aload_n hx hb d_Trees_tell_60 rfl (lv_at hl 0 rfl) ?_
        refine va_get (D := (dC, dI)) (ci := 5) (v := .ref a_t_path) (C := R_Trees) (T := F_Trees) (N := 5) hx hb hts i_Trees hown hK hP 0 rfl rfl 1 (by decide) (hts _ q_102) (fun _ h9 => h9) rfl d_Trees_tell_61 ?_
        refine lv_iload hx hb d_Trees_tell_64 (lv_at hl 5 rfl) ?_
        obtain ⟨hin9, hf⟩ := asm_of hf
        refine va_iald hx hb hK hP 1 0 rfl rfl hin9 d_Trees_tell_66 ?_
        refine lv_topi (fun x28 ex28 => ?_)
        have hf := letb_of hf ex28
        refine lv_istore (lv' := [(7, .int x28), (0, .ref a_t), (1, .int v1), (2, .int v2), (3, .ref a_p2), (5, .int v5), (6, .int v6)]) hx hb d_Trees_tell_67 hl (by decide) rfl (fun ls hl => ?_)
        refine lv_aload_n hx hb d_Trees_tell_69 rfl (lv_at hl 1 rfl) ?_
        refine va_get (D := (dC, dI)) (ci := 5) (v := .ref a_t_low) (C := R_Trees) (T := F_Trees) (N := 5) hx hb hts i_Trees hown hK hP 0 rfl rfl 3 (by decide) (hts _ q_104) (fun _ h9 => h9) rfl d_Trees_tell_70 ?_
        refine lv_iload hx hb d_Trees_tell_73 (lv_at hl 0 rfl) ?_
        refine lv_aload_n hx hb d_Trees_tell_75 rfl (lv_at hl 1 rfl) ?_
        refine va_get (D := (dC, dI)) (ci := 5) (v := .ref a_t_low) (C := R_Trees) (T := F_Trees) (N := 5) hx hb hts i_Trees hown hK hP 0 rfl rfl 3 (by decide) (hts _ q_104) (fun _ h9 => h9) rfl d_Trees_tell_76 ?_
        refine lv_iload hx hb d_Trees_tell_79 (lv_at hl 0 rfl) ?_
        obtain ⟨hin9, hf⟩ := asm_of hf
        refine va_iald hx hb hK hP 3 0 rfl rfl hin9 d_Trees_tell_81 ?_
        refine lv_topi (fun x29 ex29 => ?_)
        have hf := letb_of hf ex29
        refine lv_iload hx hb d_Trees_tell_82 (lv_at hl 5 rfl) ?_
        refine va_mmax hx hb (by rw [hml]; exact hl.1.symm) hown (hts _ q_111) (hts _ q_11) (hts _ q_3) (hts _ q_12) (Nat.le_of_ble_eq_true rfl) (Nat.le_of_ble_eq_true rfl) hc.1 hc.2 d_Trees_tell_84 ?_
        refine lv_topi (fun x30 ex30 => ?_)
        have hf := letb_of hf ex30
        obtain ⟨hin9, hf⟩ := asm_of hf
        refine va_iast hx hb hK hP hD hS 3 0 rfl rfl hin9 d_Trees_tell_87 (fun H locs hP hD hS => ?_)
        have hP : va_P (dC, dI) classes [(a_t, .inr (5, [.ref a_t_bands, .ref a_t_path, .ref a_t_number, .ref a_t_low, .ref a_t_known])), (a_t_path, .inl (tI, t_path_N, .inl t_path_F)), (a_t_number, .inl (tI, t_number_N, .inl t_number_F)), (a_t_low, .inl (tI, t_low_N, .inl (upd t_low_F x28.toNatClampNeg x30))), (a_t_known, .inl (tI, t_known_N, .inl t_known_F)), (a_t_bands, .inr (0, [.ref o_t_bands_base, .ref o_t_bands_leaf, .ref a_t_bands_above, .int t_bands_count, .int t_bands_nodes, .int t_bands_style])), (a_t_bands_above, .inl (tI, t_bands_above_N, .inl t_bands_above_F)), (a_p2, .inr (3, [.ref a_p2_store, .int p2_start, .int p2_next, .int p2_end, .int p2_latest, .int p2_left, .int p2_lacking])), (a_p2_store, .inr (4, [.ref a_p2_store_row, .int p2_store_count])), (a_p2_store_row, .inl (tB, p2_store_row_N, .inl p2_store_row_F))] H := hP
        have hD : va_D A [(a_t, .inr (5, [.ref a_t_bands, .ref a_t_path, .ref a_t_number, .ref a_t_low, .ref a_t_known])), (a_t_path, .inl (tI, t_path_N, .inl t_path_F)), (a_t_number, .inl (tI, t_number_N, .inl t_number_F)), (a_t_low, .inl (tI, t_low_N, .inl (upd t_low_F x28.toNatClampNeg x30))), (a_t_known, .inl (tI, t_known_N, .inl t_known_F)), (a_t_bands, .inr (0, [.ref o_t_bands_base, .ref o_t_bands_leaf, .ref a_t_bands_above, .int t_bands_count, .int t_bands_nodes, .int t_bands_style])), (a_t_bands_above, .inl (tI, t_bands_above_N, .inl t_bands_above_F)), (a_p2, .inr (3, [.ref a_p2_store, .int p2_start, .int p2_next, .int p2_end, .int p2_latest, .int p2_left, .int p2_lacking])), (a_p2_store, .inr (4, [.ref a_p2_store_row, .int p2_store_count])), (a_p2_store_row, .inl (tB, p2_store_row_N, .inl p2_store_row_F))] := hD
        refine lv_aload_n hx hb d_Trees_tell_88 rfl (lv_at hl 1 rfl) ?_
        refine va_get (D := (dC, dI)) (ci := 5) (v := .ref a_t_low) (C := R_Trees) (T := F_Trees) (N := 5) hx hb hts i_Trees hown hK hP 0 rfl rfl 3 (by decide) (hts _ q_104) (fun _ h9 => h9) rfl d_Trees_tell_89 ?_
        refine lv_iload hx hb d_Trees_tell_92 (lv_at hl 0 rfl) ?_
        obtain ⟨hin9, hf⟩ := asm_of hf
        refine va_iald hx hb hK hP 3 0 rfl rfl hin9 d_Trees_tell_94 ?_
        refine lv_topi (fun x31 ex31 => ?_)
        have hf := letb_of hf ex31
        refine lv_istore (lv' := [(8, .int x31), (7, .int x28), (0, .ref a_t), (1, .int v1), (2, .int v2), (3, .ref a_p2), (5, .int v5), (6, .int v6)]) hx hb d_Trees_tell_95 hl (by decide) rfl (fun ls hl => ?_)
        exact k_97 rec55 h55 F t_path_F (upd t_low_F x28.toNatClampNeg x30) t_known_F p2_next p2_latest p2_left p2_lacking v1 v2 v6 x28 x31 _ _ _ _ ls hP hD hS (lv_sub hl [2, 3, 4, 5, 7, 1, 0] rfl) hc hf
  have k_46 : ∀ (t_path_F : Nat → Int32) (t_low_F : Nat → Int32) (t_known_F : Nat → Int32) (p2_next : Int32) (p2_latest : Int32) (p2_left : Int32) (p2_lacking : Int32) (v1 : Int32) (v2 : Int32) (v4 : Int32) (H : Heap) (locs : List Loc) (cells slots : Nat) (ls : Array Slot), va_P (dC, dI) classes [(a_t, .inr (5, [.ref a_t_bands, .ref a_t_path, .ref a_t_number, .ref a_t_low, .ref a_t_known])), (a_t_path, .inl (tI, t_path_N, .inl t_path_F)), (a_t_number, .inl (tI, t_number_N, .inl t_number_F)), (a_t_low, .inl (tI, t_low_N, .inl t_low_F)), (a_t_known, .inl (tI, t_known_N, .inl t_known_F)), (a_t_bands, .inr (0, [.ref o_t_bands_base, .ref o_t_bands_leaf, .ref a_t_bands_above, .int t_bands_count, .int t_bands_nodes, .int t_bands_style])), (a_t_bands_above, .inl (tI, t_bands_above_N, .inl t_bands_above_F)), (a_p2, .inr (3, [.ref a_p2_store, .int p2_start, .int p2_next, .int p2_end, .int p2_latest, .int p2_left, .int p2_lacking])), (a_p2_store, .inr (4, [.ref a_p2_store_row, .int p2_store_count])), (a_p2_store_row, .inl (tB, p2_store_row_N, .inl p2_store_row_F))] H → va_D A [(a_t, .inr (5, [.ref a_t_bands, .ref a_t_path, .ref a_t_number, .ref a_t_low, .ref a_t_known])), (a_t_path, .inl (tI, t_path_N, .inl t_path_F)), (a_t_number, .inl (tI, t_number_N, .inl t_number_F)), (a_t_low, .inl (tI, t_low_N, .inl t_low_F)), (a_t_known, .inl (tI, t_known_N, .inl t_known_F)), (a_t_bands, .inr (0, [.ref o_t_bands_base, .ref o_t_bands_leaf, .ref a_t_bands_above, .int t_bands_count, .int t_bands_nodes, .int t_bands_style])), (a_t_bands_above, .inl (tI, t_bands_above_N, .inl t_bands_above_F)), (a_p2, .inr (3, [.ref a_p2_store, .int p2_start, .int p2_next, .int p2_end, .int p2_latest, .int p2_left, .int p2_lacking])), (a_p2_store, .inr (4, [.ref a_p2_store_row, .int p2_store_count])), (a_p2_store_row, .inl (tB, p2_store_row_N, .inl p2_store_row_F))] → va_S A s.heap H locs → lv_has ls 9 [(0, .ref a_t), (1, .int v1), (2, .int v2), (3, .ref a_p2), (4, .int v4)] → (cells ≤ 0 ∧ slots ≤ 0) → g_Trees_tellR_46 F t_path_N t_number_N t_number_F t_low_N t_known_N p2_end p2_store_count p2_store_row_N p2_store_row_F t_path_F t_low_F t_known_F p2_next p2_latest p2_left p2_lacking v1 v2 v4 = some u → W p l e ({ frames := 3, cells := 0, slots := 0, locals := 62 } : Room) s m args below meth c H locs cells slots Q (F0 m 46 ls []) := by
    intro t_path_F t_low_F t_known_F p2_next p2_latest p2_left p2_lacking v1 v2 v4 H locs cells slots ls hP hD hS hl hc hf
    unfold g_Trees_tellR_46 at hf
    refine lv_iconst (v := 0) hx hb d_Trees_tell_46 (by decide) ?_
    refine lv_istore (lv' := [(5, .int 0), (0, .ref a_t), (1, .int v1), (2, .int v2), (3, .ref a_p2), (4, .int v4)]) hx hb d_Trees_tell_47 hl (by decide) rfl (fun ls hl => ?_)
    refine lv_iload hx hb d_Trees_tell_49 (lv_at hl 5 rfl) ?_
    refine lv_iconst (v := 1) hx hb d_Trees_tell_51 (by decide) ?_
    refine lv_isub hx hb d_Trees_tell_52 ?_
    refine lv_topi (fun x32 ex32 => ?_)
    have hf := letb_of hf ex32
    refine lv_istore (lv' := [(6, .int x32), (5, .int 0), (0, .ref a_t), (1, .int v1), (2, .int v2), (3, .ref a_p2), (4, .int v4)]) hx hb d_Trees_tell_53 hl (by decide) rfl (fun ls hl => ?_)
    exact k_55 F t_path_F t_low_F t_known_F p2_next p2_latest p2_left p2_lacking v1 v2 0 x32 _ _ _ _ ls hP hD hS (lv_sub hl [2, 3, 4, 5, 1, 0] rfl) hc hf
  have k_6 : ∀ n : Nat, ∀ (t_path_F : Nat → Int32) (t_low_F : Nat → Int32) (t_known_F : Nat → Int32) (p2_next : Int32) (p2_latest : Int32) (p2_left : Int32) (p2_lacking : Int32) (v1 : Int32) (v2 : Int32) (v4 : Int32) (v5 : Int32) (H : Heap) (locs : List Loc) (cells slots : Nat) (ls : Array Slot), va_P (dC, dI) classes [(a_t, .inr (5, [.ref a_t_bands, .ref a_t_path, .ref a_t_number, .ref a_t_low, .ref a_t_known])), (a_t_path, .inl (tI, t_path_N, .inl t_path_F)), (a_t_number, .inl (tI, t_number_N, .inl t_number_F)), (a_t_low, .inl (tI, t_low_N, .inl t_low_F)), (a_t_known, .inl (tI, t_known_N, .inl t_known_F)), (a_t_bands, .inr (0, [.ref o_t_bands_base, .ref o_t_bands_leaf, .ref a_t_bands_above, .int t_bands_count, .int t_bands_nodes, .int t_bands_style])), (a_t_bands_above, .inl (tI, t_bands_above_N, .inl t_bands_above_F)), (a_p2, .inr (3, [.ref a_p2_store, .int p2_start, .int p2_next, .int p2_end, .int p2_latest, .int p2_left, .int p2_lacking])), (a_p2_store, .inr (4, [.ref a_p2_store_row, .int p2_store_count])), (a_p2_store_row, .inl (tB, p2_store_row_N, .inl p2_store_row_F))] H → va_D A [(a_t, .inr (5, [.ref a_t_bands, .ref a_t_path, .ref a_t_number, .ref a_t_low, .ref a_t_known])), (a_t_path, .inl (tI, t_path_N, .inl t_path_F)), (a_t_number, .inl (tI, t_number_N, .inl t_number_F)), (a_t_low, .inl (tI, t_low_N, .inl t_low_F)), (a_t_known, .inl (tI, t_known_N, .inl t_known_F)), (a_t_bands, .inr (0, [.ref o_t_bands_base, .ref o_t_bands_leaf, .ref a_t_bands_above, .int t_bands_count, .int t_bands_nodes, .int t_bands_style])), (a_t_bands_above, .inl (tI, t_bands_above_N, .inl t_bands_above_F)), (a_p2, .inr (3, [.ref a_p2_store, .int p2_start, .int p2_next, .int p2_end, .int p2_latest, .int p2_left, .int p2_lacking])), (a_p2_store, .inr (4, [.ref a_p2_store_row, .int p2_store_count])), (a_p2_store_row, .inl (tB, p2_store_row_N, .inl p2_store_row_F))] → va_S A s.heap H locs → lv_has ls 9 [(0, .ref a_t), (1, .int v1), (2, .int v2), (3, .ref a_p2), (4, .int v4), (5, .int v5)] → (cells ≤ 0 ∧ slots ≤ 0) → f_Trees_tellR_6 F t_path_N t_number_N t_number_F t_low_N t_known_N t_bands_above_N t_bands_above_F p2_end p2_store_count p2_store_row_N p2_store_row_F n t_path_F t_low_F t_known_F p2_next p2_latest p2_left p2_lacking v1 v2 v4 v5 = some u → W p l e ({ frames := 3, cells := 0, slots := 0, locals := 62 } : Room) s m args below meth c H locs cells slots Q (F0 m 6 ls []) := by
    intro n
    induction n with
    | zero => intro t_path_F t_low_F t_known_F p2_next p2_latest p2_left p2_lacking v1 v2 v4 v5 H locs cells slots ls hP hD hS hl hc hf; exact absurd hf (by intro h9; cases h9)
    | succ n h6 =>
      intro t_path_F t_low_F t_known_F p2_next p2_latest p2_left p2_lacking v1 v2 v4 v5 H locs cells slots ls hP hD hS hl hc hf
      have hf : g_Trees_tellR_6 F (f_Trees_tellR_6 F t_path_N t_number_N t_number_F t_low_N t_known_N t_bands_above_N t_bands_above_F p2_end p2_store_count p2_store_row_N p2_store_row_F n) t_path_N t_number_N t_number_F t_low_N t_known_N t_bands_above_N t_bands_above_F p2_end p2_store_count p2_store_row_N p2_store_row_F t_path_F t_low_F t_known_F p2_next p2_latest p2_left p2_lacking v1 v2 v4 v5 = some u := hf
      generalize (f_Trees_tellR_6 F t_path_N t_number_N t_number_F t_low_N t_known_N t_bands_above_N t_bands_above_F p2_end p2_store_count p2_store_row_N p2_store_row_F n) = rec6 at hf h6
      unfold g_Trees_tellR_6 at hf
      refine lv_iload hx hb d_Trees_tell_6 (lv_at hl 5 rfl) ?_
      refine lv_iconst (v := (-1)) hx hb d_Trees_tell_8 (by decide) ?_
      refine lv_icmp_eq (tgt := 46) hx hb d_Trees_tell_9 (by decide) (fun c0 => ?_) (fun c0 => ?_)
      · have hf := ite_t c0 hf
        exact k_46 t_path_F t_low_F t_known_F p2_next p2_latest p2_left p2_lacking v1 v2 v4 _ _ _ _ ls hP hD hS (lv_sub hl [0, 1, 2, 3, 4] rfl) hc hf
      · have hf := ite_f c0 hf
        refine lv_iload hx hb d_Trees_tell_12 (lv_at hl 4 rfl) ?_
        refine lv_bipush (v := 7) hx hb d_Trees_tell_14 (by decide) ?_
        refine lv_icmp_ge (tgt := 46) hx hb d_Trees_tell_16 (by decide) (fun c0 => ?_) (fun c0 => ?_)
        · have hf := ite_t c0 hf
          exact k_46 t_path_F t_low_F t_known_F p2_next p2_latest p2_left p2_lacking v1 v2 v4 _ _ _ _ ls hP hD hS (lv_sub hl [0, 1, 2, 3, 4] rfl) hc hf
        · have hf := ite_f c0 hf
          refine lv_aload_n hx hb d_Trees_tell_19 rfl (lv_at hl 0 rfl) ?_
          refine va_get (D := (dC, dI)) (ci := 5) (v := .ref a_t_path) (C := R_Trees) (T := F_Trees) (N := 5) hx hb hts i_Trees hown hK hP 0 rfl rfl 1 (by decide) (hts _ q_102) (fun _ h9 => h9) rfl d_Trees_tell_20 ?_
          refine lv_iload hx hb d_Trees_tell_23 (lv_at hl 4 rfl) ?_
          refine lv_iload hx hb d_Trees_tell_25 (lv_at hl 5 rfl) ?_
          obtain ⟨hin9, hf⟩ := asm_of hf
          refine va_iast hx hb hK hP hD hS 1 0 rfl rfl hin9 d_Trees_tell_27 (fun H locs hP hD hS => ?_)
          have hP : va_P (dC, dI) classes [(a_t, .inr (5, [.ref a_t_bands, .ref a_t_path, .ref a_t_number, .ref a_t_low, .ref a_t_known])), (a_t_path, .inl (tI, t_path_N, .inl (upd t_path_F v4.toNatClampNeg v5))), (a_t_number, .inl (tI, t_number_N, .inl t_number_F)), (a_t_low, .inl (tI, t_low_N, .inl t_low_F)), (a_t_known, .inl (tI, t_known_N, .inl t_known_F)), (a_t_bands, .inr (0, [.ref o_t_bands_base, .ref o_t_bands_leaf, .ref a_t_bands_above, .int t_bands_count, .int t_bands_nodes, .int t_bands_style])), (a_t_bands_above, .inl (tI, t_bands_above_N, .inl t_bands_above_F)), (a_p2, .inr (3, [.ref a_p2_store, .int p2_start, .int p2_next, .int p2_end, .int p2_latest, .int p2_left, .int p2_lacking])), (a_p2_store, .inr (4, [.ref a_p2_store_row, .int p2_store_count])), (a_p2_store_row, .inl (tB, p2_store_row_N, .inl p2_store_row_F))] H := hP
          have hD : va_D A [(a_t, .inr (5, [.ref a_t_bands, .ref a_t_path, .ref a_t_number, .ref a_t_low, .ref a_t_known])), (a_t_path, .inl (tI, t_path_N, .inl (upd t_path_F v4.toNatClampNeg v5))), (a_t_number, .inl (tI, t_number_N, .inl t_number_F)), (a_t_low, .inl (tI, t_low_N, .inl t_low_F)), (a_t_known, .inl (tI, t_known_N, .inl t_known_F)), (a_t_bands, .inr (0, [.ref o_t_bands_base, .ref o_t_bands_leaf, .ref a_t_bands_above, .int t_bands_count, .int t_bands_nodes, .int t_bands_style])), (a_t_bands_above, .inl (tI, t_bands_above_N, .inl t_bands_above_F)), (a_p2, .inr (3, [.ref a_p2_store, .int p2_start, .int p2_next, .int p2_end, .int p2_latest, .int p2_left, .int p2_lacking])), (a_p2_store, .inr (4, [.ref a_p2_store_row, .int p2_store_count])), (a_p2_store_row, .inl (tB, p2_store_row_N, .inl p2_store_row_F))] := hD
          obtain ⟨x33, ex33⟩ : ∃ y : Int32, y = v4 + 1 := ⟨_, rfl⟩
          have hf := letb_of hf ex33
          refine lv_iinc (v := x33) (lv' := [(4, .int x33), (0, .ref a_t), (1, .int v1), (2, .int v2), (3, .ref a_p2), (5, .int v5)]) hx hb d_Trees_tell_28 hl (k := 4) rfl (by rw [ex33]; rfl) (by decide) rfl (fun ls hl => ?_)
          refine lv_aload_n hx hb d_Trees_tell_31 rfl (lv_at hl 1 rfl) ?_
          refine va_get (D := (dC, dI)) (ci := 5) (v := .ref a_t_bands) (C := R_Trees) (T := F_Trees) (N := 5) hx hb hts i_Trees hown hK hP 0 rfl rfl 0 (by decide) (hts _ q_106) (fun _ h9 => h9) rfl d_Trees_tell_32 ?_
          refine va_getN (D := (dC, dI)) (ci := 0) (v := .ref a_t_bands_above) (C := R_Bands) (T := F_Bands) (N := 6) hx hb hts i_Bands hown hK hP 5 rfl rfl 2 (by decide) (va_Nw.use rfl (hN _ q_109 rfl)) (fun _ h9 => h9) rfl d_Trees_tell_35 ?_
          refine lv_iload hx hb d_Trees_tell_38 (lv_at hl 5 rfl) ?_
          obtain ⟨hin9, hf⟩ := asm_of hf
          refine va_iald hx hb hK hP 6 0 rfl rfl hin9 d_Trees_tell_40 ?_
          refine lv_topi (fun x34 ex34 => ?_)
          have hf := letb_of hf ex34
          refine lv_istore (lv' := [(5, .int x34), (4, .int x33), (0, .ref a_t), (1, .int v1), (2, .int v2), (3, .ref a_p2)]) hx hb d_Trees_tell_41 hl (by decide) rfl (fun ls hl => ?_)
          refine lv_goto (tgt := 6) hx hb d_Trees_tell_43 (by decide) ?_
          exact h6 (upd t_path_F v4.toNatClampNeg v5) t_low_F t_known_F p2_next p2_latest p2_left p2_lacking v1 v2 x33 x34 _ _ _ _ ls hP hD hS (lv_sub hl [2, 3, 4, 5, 1, 0] rfl) hc hf
  have hc : 0 ≤ 0 ∧ 0 ≤ 0 := ⟨Nat.le_refl 0, Nat.le_refl 0⟩
  unfold f_Trees_tellR at hf
  refine lv_iconst (v := 0) hx hb d_Trees_tell_0 (by decide) ?_
  refine lv_istore (lv' := [(4, .int 0), (0, .ref a_t), (1, .int p0), (2, .int p1), (3, .ref a_p2)]) hx hb d_Trees_tell_1 hl (by decide) rfl (fun ls hl => ?_)
  refine lv_iload_n hx hb d_Trees_tell_3 rfl (lv_at hl 2 rfl) ?_
  refine lv_istore (lv' := [(5, .int p0), (4, .int 0), (0, .ref a_t), (1, .int p0), (2, .int p1), (3, .ref a_p2)]) hx hb d_Trees_tell_4 hl (by decide) rfl (fun ls hl => ?_)
  exact k_6 F t_path_F t_low_F t_known_F p2_next p2_latest p2_left p2_lacking p0 p1 0 p0 _ _ _ _ ls hP hD hS (lv_sub hl [2, 3, 4, 5, 1, 0] rfl) hc hf
