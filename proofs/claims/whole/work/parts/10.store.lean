abbrev b_Arr_copyOfI : ByteArray := prog_22_method_123_code
def y_Arr_copyOfI : MethodName := ⟨R_Arr, "copyOf", "([II)[I"⟩
theorem d_Arr_copyOfI_0 : decode b_Arr_copyOfI 0 = .ok (.iload_n 1, 1) := by decide +kernel
theorem d_Arr_copyOfI_1 : decode b_Arr_copyOfI 1 = .ok (.aload_n 0, 1) := by decide +kernel
theorem d_Arr_copyOfI_2 : decode b_Arr_copyOfI 2 = .ok (.arraylength, 1) := by decide +kernel
theorem d_Arr_copyOfI_3 : decode b_Arr_copyOfI 3 = .ok (.if_icmp .ne 11, 3) := by decide +kernel
theorem d_Arr_copyOfI_6 : decode b_Arr_copyOfI 6 = .ok (.aload_n 0, 1) := by decide +kernel
theorem d_Arr_copyOfI_7 : decode b_Arr_copyOfI 7 = .ok (.invokevirtual 316, 3) := by decide +kernel
theorem d_Arr_copyOfI_10 : decode b_Arr_copyOfI 10 = .ok (.checkcast 317, 3) := by decide +kernel
theorem d_Arr_copyOfI_13 : decode b_Arr_copyOfI 13 = .ok (.areturn, 1) := by decide +kernel
theorem d_Arr_copyOfI_14 : decode b_Arr_copyOfI 14 = .ok (.iload_n 1, 1) := by decide +kernel
theorem d_Arr_copyOfI_15 : decode b_Arr_copyOfI 15 = .ok (.newarray .int, 2) := by decide +kernel
theorem d_Arr_copyOfI_17 : decode b_Arr_copyOfI 17 = .ok (.astore_n 2, 1) := by decide +kernel
theorem d_Arr_copyOfI_18 : decode b_Arr_copyOfI 18 = .ok (.aload_n 0, 1) := by decide +kernel
theorem d_Arr_copyOfI_19 : decode b_Arr_copyOfI 19 = .ok (.iconst 0, 1) := by decide +kernel
theorem d_Arr_copyOfI_20 : decode b_Arr_copyOfI 20 = .ok (.aload_n 2, 1) := by decide +kernel
theorem d_Arr_copyOfI_21 : decode b_Arr_copyOfI 21 = .ok (.iconst 0, 1) := by decide +kernel
theorem d_Arr_copyOfI_22 : decode b_Arr_copyOfI 22 = .ok (.aload_n 0, 1) := by decide +kernel
theorem d_Arr_copyOfI_23 : decode b_Arr_copyOfI 23 = .ok (.arraylength, 1) := by decide +kernel
theorem d_Arr_copyOfI_24 : decode b_Arr_copyOfI 24 = .ok (.iload_n 1, 1) := by decide +kernel
theorem d_Arr_copyOfI_25 : decode b_Arr_copyOfI 25 = .ok (.invokestatic 304, 3) := by decide +kernel
theorem d_Arr_copyOfI_28 : decode b_Arr_copyOfI 28 = .ok (.invokestatic 150, 3) := by decide +kernel
theorem d_Arr_copyOfI_31 : decode b_Arr_copyOfI 31 = .ok (.aload_n 2, 1) := by decide +kernel
theorem d_Arr_copyOfI_32 : decode b_Arr_copyOfI 32 = .ok (.areturn, 1) := by decide +kernel
abbrev b_Arr_copyOfB : ByteArray := prog_22_method_121_code
def y_Arr_copyOfB : MethodName := ⟨R_Arr, "copyOf", "([BI)[B"⟩
theorem d_Arr_copyOfB_0 : decode b_Arr_copyOfB 0 = .ok (.iload_n 1, 1) := by decide +kernel
theorem d_Arr_copyOfB_1 : decode b_Arr_copyOfB 1 = .ok (.aload_n 0, 1) := by decide +kernel
theorem d_Arr_copyOfB_2 : decode b_Arr_copyOfB 2 = .ok (.arraylength, 1) := by decide +kernel
theorem d_Arr_copyOfB_3 : decode b_Arr_copyOfB 3 = .ok (.if_icmp .ne 11, 3) := by decide +kernel
theorem d_Arr_copyOfB_6 : decode b_Arr_copyOfB 6 = .ok (.aload_n 0, 1) := by decide +kernel
theorem d_Arr_copyOfB_7 : decode b_Arr_copyOfB 7 = .ok (.invokevirtual 310, 3) := by decide +kernel
theorem d_Arr_copyOfB_10 : decode b_Arr_copyOfB 10 = .ok (.checkcast 311, 3) := by decide +kernel
theorem d_Arr_copyOfB_13 : decode b_Arr_copyOfB 13 = .ok (.areturn, 1) := by decide +kernel
theorem d_Arr_copyOfB_14 : decode b_Arr_copyOfB 14 = .ok (.iload_n 1, 1) := by decide +kernel
theorem d_Arr_copyOfB_15 : decode b_Arr_copyOfB 15 = .ok (.newarray .byte, 2) := by decide +kernel
theorem d_Arr_copyOfB_17 : decode b_Arr_copyOfB 17 = .ok (.astore_n 2, 1) := by decide +kernel
theorem d_Arr_copyOfB_18 : decode b_Arr_copyOfB 18 = .ok (.aload_n 0, 1) := by decide +kernel
theorem d_Arr_copyOfB_19 : decode b_Arr_copyOfB 19 = .ok (.iconst 0, 1) := by decide +kernel
theorem d_Arr_copyOfB_20 : decode b_Arr_copyOfB 20 = .ok (.aload_n 2, 1) := by decide +kernel
theorem d_Arr_copyOfB_21 : decode b_Arr_copyOfB 21 = .ok (.iconst 0, 1) := by decide +kernel
theorem d_Arr_copyOfB_22 : decode b_Arr_copyOfB 22 = .ok (.aload_n 0, 1) := by decide +kernel
theorem d_Arr_copyOfB_23 : decode b_Arr_copyOfB 23 = .ok (.arraylength, 1) := by decide +kernel
theorem d_Arr_copyOfB_24 : decode b_Arr_copyOfB 24 = .ok (.iload_n 1, 1) := by decide +kernel
theorem d_Arr_copyOfB_25 : decode b_Arr_copyOfB 25 = .ok (.invokestatic 304, 3) := by decide +kernel
theorem d_Arr_copyOfB_28 : decode b_Arr_copyOfB 28 = .ok (.invokestatic 150, 3) := by decide +kernel
theorem d_Arr_copyOfB_31 : decode b_Arr_copyOfB 31 = .ok (.aload_n 2, 1) := by decide +kernel
theorem d_Arr_copyOfB_32 : decode b_Arr_copyOfB 32 = .ok (.areturn, 1) := by decide +kernel
abbrev b_PH_withRoom : ByteArray := prog_1_method_16_code
def y_PH_withRoom : MethodName := ⟨R_PH, "withRoom", "([II)[I"⟩
theorem d_PH_withRoom_0 : decode b_PH_withRoom 0 = .ok (.iload_n 1, 1) := by decide +kernel
theorem d_PH_withRoom_1 : decode b_PH_withRoom 1 = .ok (.aload_n 0, 1) := by decide +kernel
theorem d_PH_withRoom_2 : decode b_PH_withRoom 2 = .ok (.arraylength, 1) := by decide +kernel
theorem d_PH_withRoom_3 : decode b_PH_withRoom 3 = .ok (.if_icmp .gt 7, 3) := by decide +kernel
theorem d_PH_withRoom_6 : decode b_PH_withRoom 6 = .ok (.aload_n 0, 1) := by decide +kernel
theorem d_PH_withRoom_7 : decode b_PH_withRoom 7 = .ok (.goto 15, 3) := by decide +kernel
theorem d_PH_withRoom_10 : decode b_PH_withRoom 10 = .ok (.aload_n 0, 1) := by decide +kernel
theorem d_PH_withRoom_11 : decode b_PH_withRoom 11 = .ok (.iload_n 1, 1) := by decide +kernel
theorem d_PH_withRoom_12 : decode b_PH_withRoom 12 = .ok (.iconst 2, 1) := by decide +kernel
theorem d_PH_withRoom_13 : decode b_PH_withRoom 13 = .ok (.aload_n 0, 1) := by decide +kernel
theorem d_PH_withRoom_14 : decode b_PH_withRoom 14 = .ok (.arraylength, 1) := by decide +kernel
theorem d_PH_withRoom_15 : decode b_PH_withRoom 15 = .ok (.imul, 1) := by decide +kernel
theorem d_PH_withRoom_16 : decode b_PH_withRoom 16 = .ok (.invokestatic 224, 3) := by decide +kernel
theorem d_PH_withRoom_19 : decode b_PH_withRoom 19 = .ok (.invokestatic 229, 3) := by decide +kernel
theorem d_PH_withRoom_22 : decode b_PH_withRoom 22 = .ok (.areturn, 1) := by decide +kernel
abbrev b_PH_bitsOf : ByteArray := prog_1_method_17_code
def y_PH_bitsOf : MethodName := ⟨R_PH, "bitsOf", "(I)I"⟩
theorem d_PH_bitsOf_0 : decode b_PH_bitsOf 0 = .ok (.iconst 0, 1) := by decide +kernel
theorem d_PH_bitsOf_1 : decode b_PH_bitsOf 1 = .ok (.istore_n 1, 1) := by decide +kernel
theorem d_PH_bitsOf_2 : decode b_PH_bitsOf 2 = .ok (.iload_n 1, 1) := by decide +kernel
theorem d_PH_bitsOf_3 : decode b_PH_bitsOf 3 = .ok (.bipush 31, 2) := by decide +kernel
theorem d_PH_bitsOf_5 : decode b_PH_bitsOf 5 = .ok (.if_icmp .ge 15, 3) := by decide +kernel
theorem d_PH_bitsOf_8 : decode b_PH_bitsOf 8 = .ok (.iload_n 0, 1) := by decide +kernel
theorem d_PH_bitsOf_9 : decode b_PH_bitsOf 9 = .ok (.iload_n 1, 1) := by decide +kernel
theorem d_PH_bitsOf_10 : decode b_PH_bitsOf 10 = .ok (.ishr, 1) := by decide +kernel
theorem d_PH_bitsOf_11 : decode b_PH_bitsOf 11 = .ok (.ifCond .le 9, 3) := by decide +kernel
theorem d_PH_bitsOf_14 : decode b_PH_bitsOf 14 = .ok (.iinc 1 1, 3) := by decide +kernel
theorem d_PH_bitsOf_17 : decode b_PH_bitsOf 17 = .ok (.goto (-15), 3) := by decide +kernel
theorem d_PH_bitsOf_20 : decode b_PH_bitsOf 20 = .ok (.iload_n 1, 1) := by decide +kernel
theorem d_PH_bitsOf_21 : decode b_PH_bitsOf 21 = .ok (.ireturn, 1) := by decide +kernel
abbrev b_PH_logOf : ByteArray := prog_1_method_18_code
def y_PH_logOf : MethodName := ⟨R_PH, "logOf", "(I)I"⟩
theorem d_PH_logOf_0 : decode b_PH_logOf 0 = .ok (.iload_n 0, 1) := by decide +kernel
theorem d_PH_logOf_1 : decode b_PH_logOf 1 = .ok (.invokestatic 235, 3) := by decide +kernel
theorem d_PH_logOf_4 : decode b_PH_logOf 4 = .ok (.iconst 1, 1) := by decide +kernel
theorem d_PH_logOf_5 : decode b_PH_logOf 5 = .ok (.isub, 1) := by decide +kernel
theorem d_PH_logOf_6 : decode b_PH_logOf 6 = .ok (.ireturn, 1) := by decide +kernel
abbrev b_Store_init : ByteArray := prog_7_method_1_code
def y_Store_init : MethodName := ⟨R_Store, "<init>", "()V"⟩
theorem d_Store_init_0 : decode b_Store_init 0 = .ok (.aload_n 0, 1) := by decide +kernel
theorem d_Store_init_1 : decode b_Store_init 1 = .ok (.invokespecial 3, 3) := by decide +kernel
theorem d_Store_init_4 : decode b_Store_init 4 = .ok (.aload_n 0, 1) := by decide +kernel
theorem d_Store_init_5 : decode b_Store_init 5 = .ok (.bipush 16, 2) := by decide +kernel
theorem d_Store_init_7 : decode b_Store_init 7 = .ok (.newarray .byte, 2) := by decide +kernel
theorem d_Store_init_9 : decode b_Store_init 9 = .ok (.putfield 9, 3) := by decide +kernel
theorem d_Store_init_12 : decode b_Store_init 12 = .ok (.return_, 1) := by decide +kernel
abbrev b_Store_add : ByteArray := prog_7_method_2_code
def y_Store_add : MethodName := ⟨R_Store, "add", "(I)V"⟩
theorem d_Store_add_0 : decode b_Store_add 0 = .ok (.aload_n 0, 1) := by decide +kernel
theorem d_Store_add_1 : decode b_Store_add 1 = .ok (.getfield 15, 3) := by decide +kernel
theorem d_Store_add_4 : decode b_Store_add 4 = .ok (.ldc 19, 2) := by decide +kernel
theorem d_Store_add_6 : decode b_Store_add 6 = .ok (.if_icmp .lt 4, 3) := by decide +kernel
theorem d_Store_add_9 : decode b_Store_add 9 = .ok (.return_, 1) := by decide +kernel
theorem d_Store_add_10 : decode b_Store_add 10 = .ok (.aload_n 0, 1) := by decide +kernel
theorem d_Store_add_11 : decode b_Store_add 11 = .ok (.getfield 15, 3) := by decide +kernel
theorem d_Store_add_14 : decode b_Store_add 14 = .ok (.aload_n 0, 1) := by decide +kernel
theorem d_Store_add_15 : decode b_Store_add 15 = .ok (.getfield 9, 3) := by decide +kernel
theorem d_Store_add_18 : decode b_Store_add 18 = .ok (.arraylength, 1) := by decide +kernel
theorem d_Store_add_19 : decode b_Store_add 19 = .ok (.if_icmp .lt 21, 3) := by decide +kernel
theorem d_Store_add_22 : decode b_Store_add 22 = .ok (.aload_n 0, 1) := by decide +kernel
theorem d_Store_add_23 : decode b_Store_add 23 = .ok (.aload_n 0, 1) := by decide +kernel
theorem d_Store_add_24 : decode b_Store_add 24 = .ok (.getfield 9, 3) := by decide +kernel
theorem d_Store_add_27 : decode b_Store_add 27 = .ok (.iconst 2, 1) := by decide +kernel
theorem d_Store_add_28 : decode b_Store_add 28 = .ok (.aload_n 0, 1) := by decide +kernel
theorem d_Store_add_29 : decode b_Store_add 29 = .ok (.getfield 9, 3) := by decide +kernel
theorem d_Store_add_32 : decode b_Store_add 32 = .ok (.arraylength, 1) := by decide +kernel
theorem d_Store_add_33 : decode b_Store_add 33 = .ok (.imul, 1) := by decide +kernel
theorem d_Store_add_34 : decode b_Store_add 34 = .ok (.invokestatic 20, 3) := by decide +kernel
theorem d_Store_add_37 : decode b_Store_add 37 = .ok (.putfield 9, 3) := by decide +kernel
theorem d_Store_add_40 : decode b_Store_add 40 = .ok (.aload_n 0, 1) := by decide +kernel
theorem d_Store_add_41 : decode b_Store_add 41 = .ok (.getfield 9, 3) := by decide +kernel
theorem d_Store_add_44 : decode b_Store_add 44 = .ok (.aload_n 0, 1) := by decide +kernel
theorem d_Store_add_45 : decode b_Store_add 45 = .ok (.getfield 15, 3) := by decide +kernel
theorem d_Store_add_48 : decode b_Store_add 48 = .ok (.iload_n 1, 1) := by decide +kernel
theorem d_Store_add_49 : decode b_Store_add 49 = .ok (.i2b, 1) := by decide +kernel
theorem d_Store_add_50 : decode b_Store_add 50 = .ok (.bastore, 1) := by decide +kernel
theorem d_Store_add_51 : decode b_Store_add 51 = .ok (.aload_n 0, 1) := by decide +kernel
theorem d_Store_add_52 : decode b_Store_add 52 = .ok (.dup, 1) := by decide +kernel
theorem d_Store_add_53 : decode b_Store_add 53 = .ok (.getfield 15, 3) := by decide +kernel
theorem d_Store_add_56 : decode b_Store_add 56 = .ok (.iconst 1, 1) := by decide +kernel
theorem d_Store_add_57 : decode b_Store_add 57 = .ok (.iadd, 1) := by decide +kernel
theorem d_Store_add_58 : decode b_Store_add 58 = .ok (.putfield 15, 3) := by decide +kernel
theorem d_Store_add_61 : decode b_Store_add 61 = .ok (.return_, 1) := by decide +kernel
abbrev b_Store_get : ByteArray := prog_7_method_3_code
def y_Store_get : MethodName := ⟨R_Store, "get", "(I)I"⟩
theorem d_Store_get_0 : decode b_Store_get 0 = .ok (.iload_n 1, 1) := by decide +kernel
theorem d_Store_get_1 : decode b_Store_get 1 = .ok (.ifCond .lt 11, 3) := by decide +kernel
theorem d_Store_get_4 : decode b_Store_get 4 = .ok (.iload_n 1, 1) := by decide +kernel
theorem d_Store_get_5 : decode b_Store_get 5 = .ok (.aload_n 0, 1) := by decide +kernel
theorem d_Store_get_6 : decode b_Store_get 6 = .ok (.getfield 15, 3) := by decide +kernel
theorem d_Store_get_9 : decode b_Store_get 9 = .ok (.if_icmp .lt 7, 3) := by decide +kernel
theorem d_Store_get_12 : decode b_Store_get 12 = .ok (.iconst 0, 1) := by decide +kernel
theorem d_Store_get_13 : decode b_Store_get 13 = .ok (.goto 13, 3) := by decide +kernel
theorem d_Store_get_16 : decode b_Store_get 16 = .ok (.aload_n 0, 1) := by decide +kernel
theorem d_Store_get_17 : decode b_Store_get 17 = .ok (.getfield 9, 3) := by decide +kernel
theorem d_Store_get_20 : decode b_Store_get 20 = .ok (.iload_n 1, 1) := by decide +kernel
theorem d_Store_get_21 : decode b_Store_get 21 = .ok (.baload, 1) := by decide +kernel
theorem d_Store_get_22 : decode b_Store_get 22 = .ok (.sipush 255, 3) := by decide +kernel
theorem d_Store_get_25 : decode b_Store_get 25 = .ok (.iand, 1) := by decide +kernel
theorem d_Store_get_26 : decode b_Store_get 26 = .ok (.ireturn, 1) := by decide +kernel
theorem q_0 : (Cond.arrayClass .int) ∈ TB := in_TB (List.mem_append_right _ (List.mem_of_getElem? (i := 74) (by decide +kernel))) (by decide +kernel)
theorem q_1 : (Cond.methodLink R_Arr 304 Lib.Math.min.name) ∈ TB := in_TB (List.mem_append_right _ (List.mem_of_getElem? (i := 361) (by decide +kernel))) (by decide +kernel)
theorem q_2 : (Cond.static Lib.Math.min.name) ∈ TB := in_TB (List.mem_append_right _ (List.mem_of_getElem? (i := 362) (by decide +kernel))) (by decide +kernel)
theorem q_3 : (Cond.initialized "java/lang/Math") ∈ TB := in_TB (List.mem_append_right _ (List.mem_of_getElem? (i := 15) (by decide +kernel))) (by decide +kernel)
theorem q_4 : (Cond.code Lib.Math.min.name Lib.Math.min.code 2 (some .int)) ∈ TB := in_TB (List.mem_append_right _ (List.mem_of_getElem? (i := 363) (by decide +kernel))) (by decide +kernel)
theorem q_5 : (Cond.methodLink R_Arr 150 arraycopyName) ∈ TB := in_TB (List.mem_append_right _ (List.mem_of_getElem? (i := 364) (by decide +kernel))) (by decide +kernel)
theorem q_6 : (Cond.native arraycopyName) ∈ TB := in_TB (List.mem_append_right _ (List.mem_of_getElem? (i := 366) (by decide +kernel))) (by decide +kernel)
theorem q_7 : (Cond.static arraycopyName) ∈ TB := in_TB (List.mem_append_right _ (List.mem_of_getElem? (i := 365) (by decide +kernel))) (by decide +kernel)
theorem q_8 : (Cond.initialized "java/lang/System") ∈ TB := in_TB (List.mem_append_right _ (List.mem_of_getElem? (i := 17) (by decide +kernel))) (by decide +kernel)
theorem q_9 : (Cond.arrayClass .byte) ∈ TB := in_TB (List.mem_append_right _ (List.mem_of_getElem? (i := 42) (by decide +kernel))) (by decide +kernel)
theorem q_10 : (Cond.methodLink R_PH 224 Lib.Math.max.name) ∈ TB := in_TB (List.mem_append_right _ (List.mem_of_getElem? (i := 348) (by decide +kernel))) (by decide +kernel)
theorem q_11 : (Cond.static Lib.Math.max.name) ∈ TB := in_TB (List.mem_append_right _ (List.mem_of_getElem? (i := 349) (by decide +kernel))) (by decide +kernel)
theorem q_12 : (Cond.code Lib.Math.max.name Lib.Math.max.code 2 (some .int)) ∈ TB := in_TB (List.mem_append_right _ (List.mem_of_getElem? (i := 350) (by decide +kernel))) (by decide +kernel)
theorem q_13 : (Cond.code y_Arr_copyOfI b_Arr_copyOfI 3 (some (.array .int))) ∈ TB := in_TB (List.mem_append_right _ (List.mem_of_getElem? (i := 353) (by decide +kernel))) (by decide +kernel)
theorem q_14 : (Cond.initialized R_Arr) ∈ TB := in_TB (List.mem_append_right _ (List.mem_of_getElem? (i := 16) (by decide +kernel))) (by decide +kernel)
theorem q_15 : (Cond.methodLink R_PH 229 y_Arr_copyOfI) ∈ TB := in_TB (List.mem_append_right _ (List.mem_of_getElem? (i := 351) (by decide +kernel))) (by decide +kernel)
theorem q_16 : (Cond.static y_Arr_copyOfI) ∈ TB := in_TB (List.mem_append_right _ (List.mem_of_getElem? (i := 352) (by decide +kernel))) (by decide +kernel)
theorem q_17 : (Cond.code y_PH_bitsOf b_PH_bitsOf 2 (some .int)) ∈ TB := in_TB (List.mem_append_right _ (List.mem_of_getElem? (i := 570) (by decide +kernel))) (by decide +kernel)
theorem q_18 : (Cond.initialized R_PH) ∈ TB := in_TB (List.mem_append_right _ (List.mem_of_getElem? (i := 1) (by decide +kernel))) (by decide +kernel)
theorem q_19 : (Cond.methodLink R_PH 235 y_PH_bitsOf) ∈ TB := in_TB (List.mem_append_right _ (List.mem_of_getElem? (i := 574) (by decide +kernel))) (by decide +kernel)
theorem q_20 : (Cond.static y_PH_bitsOf) ∈ TB := in_TB (List.mem_append_right _ (List.mem_of_getElem? (i := 569) (by decide +kernel))) (by decide +kernel)
theorem q_21 : (Cond.methodLink R_Store 3 objectInit) ∈ TB := in_TB (List.mem_append_right _ (List.mem_of_getElem? (i := 33) (by decide +kernel))) (by decide +kernel)
theorem q_22 : (Cond.instanceMethod objectInit) ∈ TB := in_TB (List.mem_append_right _ (List.mem_of_getElem? (i := 26) (by decide +kernel))) (by decide +kernel)
theorem q_23 : (Cond.code objectInit ⟨#[0xb1]⟩ 1 none) ∈ TB := in_TB (List.mem_append_right _ (List.mem_of_getElem? (i := 27) (by decide +kernel))) (by decide +kernel)
theorem q_24 : (Cond.fieldLink R_Store 9 "PacketHeads$Store" "row" "[B") ∈ TB := in_TB (List.mem_append_right _ (List.mem_of_getElem? (i := 34) (by decide +kernel))) (by decide +kernel)
theorem q_25 : (Cond.fieldLink R_Store 15 "PacketHeads$Store" "count" "I") ∈ TB := in_TB (List.mem_append_right _ (List.mem_of_getElem? (i := 35) (by decide +kernel))) (by decide +kernel)
theorem q_26 : (Cond.constant R_Store 19 262144) ∈ TB := in_TB (List.mem_append_right _ (List.mem_of_getElem? (i := 502) (by decide +kernel))) (by decide +kernel)
theorem q_27 : (Cond.code y_Arr_copyOfB b_Arr_copyOfB 3 (some (.array .byte))) ∈ TB := in_TB (List.mem_append_right _ (List.mem_of_getElem? (i := 505) (by decide +kernel))) (by decide +kernel)
theorem q_28 : (Cond.methodLink R_Store 20 y_Arr_copyOfB) ∈ TB := in_TB (List.mem_append_right _ (List.mem_of_getElem? (i := 503) (by decide +kernel))) (by decide +kernel)
theorem q_29 : (Cond.static y_Arr_copyOfB) ∈ TB := in_TB (List.mem_append_right _ (List.mem_of_getElem? (i := 504) (by decide +kernel))) (by decide +kernel)
theorem hd_Arr_copyOfI : y_Arr_copyOfI.cls ≠ "java/lang/invoke/MethodHandle" ∧ y_Arr_copyOfI.cls ≠ "java/lang/invoke/VarHandle" ∧ (parseMethodDescriptor y_Arr_copyOfI.desc).map (fun d => d.parameters.length) = some 2 := by decide +kernel
theorem hd_PH_bitsOf : y_PH_bitsOf.cls ≠ "java/lang/invoke/MethodHandle" ∧ y_PH_bitsOf.cls ≠ "java/lang/invoke/VarHandle" ∧ (parseMethodDescriptor y_PH_bitsOf.desc).map (fun d => d.parameters.length) = some 1 := by decide +kernel
theorem hd_Arr_copyOfB : y_Arr_copyOfB.cls ≠ "java/lang/invoke/MethodHandle" ∧ y_Arr_copyOfB.cls ≠ "java/lang/invoke/VarHandle" ∧ (parseMethodDescriptor y_Arr_copyOfB.desc).map (fun d => d.parameters.length) = some 2 := by decide +kernel
noncomputable def f_Arr_copyOfI (F : Nat) (p0_N : Nat) (p0_F : Nat → Int32) (p1 : Int32) : Option (Nat × Nat × Nat × (Nat → Int32)) :=
letb (Int32.ofNat p0_N) fun x7 =>
if p1 = x7 then (
none) else (
asm (¬ p1 < 0 ∧ p1.toNatClampNeg * componentBytes .int ≤ 536870912) (addc 1 p1.toNatClampNeg (
letb (Int32.ofNat p0_N) fun x11 =>
letb (if p1 < x11 then p1 else x11) fun x12 =>
asm ((((0 : Int32) ≤ 0)) ∧ (((0 : Int32) ≤ 0)) ∧ (¬ x12 < 0) ∧ ((0 : Int32).toNatClampNeg + x12.toNatClampNeg ≤ p0_N) ∧ ((0 : Int32).toNatClampNeg + x12.toNatClampNeg ≤ p1.toNatClampNeg) ∧ (∀ i, i < x12.toNatClampNeg → fits .int (.int (p0_F ((0 : Int32).toNatClampNeg + i))) = true)) (some (0, 0, p1.toNatClampNeg, (va_cpy p0_F (fun _ => 0) (0 : Int32).toNatClampNeg (0 : Int32).toNatClampNeg x12.toNatClampNeg))))))
set_option maxHeartbeats 4000000 in
set_option maxRecDepth 100000 in
theorem c_Arr_copyOfI (l : Launch) (dC : Nat → ClassId) (dI : Nat → Nat → Nat) (tI tB tL tZ : ClassId) (a_p0 : Nat) (sz : Nat) (p0_N : Nat) (p0_F : Nat → Int32) (p1 : Int32) (F : Nat) (nc ns : Nat) (u : Nat × (Nat → Int32)) (hf : f_Arr_copyOfI F p0_N p0_F p1 = some (nc, ns, u)) : CTr l y_Arr_copyOfI b_Arr_copyOfI 3 (.array .int) 1 40 (dC, dI) classes [(tI, .int), (tB, .byte), (tL, .long), (tZ, .boolean)] [.ref a_p0, .int p1] [(a_p0, .inl (tI, p0_N, .inl p0_F))] sz (fun (q : Unit) (a : Nat) => [(a_p0, .inl (tI, p0_N, .inl p0_F)), (a, .inl (tI, u.1, .inl u.2))]) nc ns := by
  refine mk_r (by decide) (Nat.le_of_ble_eq_true rfl) (Or.inr ⟨_, rfl⟩) ?_
  intro p e s m args below meth c ls A Q hx hb hml hts hown hin hK hN hP hD hA hl ret
  obtain ⟨H, hH⟩ : ∃ H : Heap, H = s.heap := ⟨_, rfl⟩
  have hS : va_S A s.heap H [] := by rw [hH]; exact va_S.rf
  rw [← hH] at hP ⊢
  have hl : lv_has ls 3 [(0, .ref a_p0), (1, .int p1)] := hl
  have hc : 0 + nc ≤ nc ∧ 0 + ns ≤ ns := ⟨by omega, by omega⟩
  unfold f_Arr_copyOfI at hf
  refine lv_iload_n hx hb d_Arr_copyOfI_0 rfl (lv_at hl 1 rfl) ?_
  refine lv_aload_n hx hb d_Arr_copyOfI_1 rfl (lv_at hl 0 rfl) ?_
  refine va_alen hx hb hK hP 0 0 rfl rfl rfl d_Arr_copyOfI_2 ?_
  refine lv_topi (fun x7 ex7 => ?_)
  have hf := letb_of hf ex7
  refine lv_icmp_ne (tgt := 14) hx hb d_Arr_copyOfI_3 (by decide) (fun c0 => ?_) (fun c0 => ?_)
  · have hf := ite_f c0 hf
    refine lv_iload_n hx hb d_Arr_copyOfI_14 rfl (lv_at hl 1 rfl) ?_
    obtain ⟨hn9, hf⟩ := asm_of hf
    obtain ⟨nB9, sB10, hf, ha9, hb9⟩ := addc_of hf
    have hcc : 0 + 1 ≤ nc ∧ 0 + p1.toNatClampNeg ≤ ns := ⟨by omega, by omega⟩
    have hc : 0 + 1 + nB9 ≤ nc ∧ 0 + p1.toNatClampNeg + sB10 ≤ ns := ⟨by omega, by omega⟩
    refine va_newa (atype := .int) (ty := .int) (N' := p1.toNatClampNeg) (a0 := (p1.toNatClampNeg, .inl (fun _ => 0))) hx hb (hts _ q_0) rfl hK hP hD hS hA (fun _ => rfl) hn9.1 rfl hn9.2 hcc.1 hcc.2 d_Arr_copyOfI_15 (fun ad8 cA9 H hK9 hP hD hS => ?_)
    obtain rfl := ty_one (i := 0) (j := 4) hK hK9 rfl rfl (by intro _ h9; cases h9)
    have hP : va_P (dC, dI) classes [(a_p0, .inl (tI, p0_N, .inl p0_F)), (ad8, .inl (tI, p1.toNatClampNeg, .inl (fun _ => 0)))] H := hP
    have hD : va_D A [(a_p0, .inl (tI, p0_N, .inl p0_F)), (ad8, .inl (tI, p1.toNatClampNeg, .inl (fun _ => 0)))] := hD
    refine lv_astore_n (lv' := [(2, .ref ad8), (0, .ref a_p0), (1, .int p1)]) hx hb d_Arr_copyOfI_17 rfl hl (by decide) rfl (fun ls hl => ?_)
    refine lv_aload_n hx hb d_Arr_copyOfI_18 rfl (lv_at hl 1 rfl) ?_
    refine lv_iconst (v := 0) hx hb d_Arr_copyOfI_19 (by decide) ?_
    refine lv_aload_n hx hb d_Arr_copyOfI_20 rfl (lv_at hl 0 rfl) ?_
    refine lv_iconst (v := 0) hx hb d_Arr_copyOfI_21 (by decide) ?_
    refine lv_aload_n hx hb d_Arr_copyOfI_22 rfl (lv_at hl 1 rfl) ?_
    refine va_alen hx hb hK hP 0 0 rfl rfl rfl d_Arr_copyOfI_23 ?_
    refine lv_topi (fun x11 ex11 => ?_)
    have hf := letb_of hf ex11
    refine lv_iload_n hx hb d_Arr_copyOfI_24 rfl (lv_at hl 2 rfl) ?_
    refine va_mmin hx hb (by rw [hml]; exact hl.1.symm) hown (hts _ q_1) (hts _ q_2) (hts _ q_3) (hts _ q_4) (Nat.le_of_ble_eq_true rfl) (Nat.le_of_ble_eq_true rfl) (Nat.le_trans (Nat.le_add_right _ _) hc.1) (Nat.le_trans (Nat.le_add_right _ _) hc.2) d_Arr_copyOfI_25 ?_
    refine lv_topi (fun x12 ex12 => ?_)
    have hf := letb_of hf ex12
    obtain ⟨⟨hy1, hy2, hy3, hy4, hy5, hy6⟩, hf⟩ := asm_of hf
    refine va_copyi (ty := .int) hx hb (by rw [hml]; exact hl.1.symm) hown (hts _ q_5) (hts _ q_6) (hts _ q_7) (hts _ q_8) hK hP hD hS 0 1 0 0 rfl rfl rfl rfl rfl (by decide) (by decide) hy3 hy4 hy5 hy6 (Nat.le_of_ble_eq_true rfl) (Nat.le_of_ble_eq_true rfl) d_Arr_copyOfI_28 (fun H locs hP hD hS => ?_)
    have hP : va_P (dC, dI) classes [(a_p0, .inl (tI, p0_N, .inl p0_F)), (ad8, .inl (tI, p1.toNatClampNeg, .inl ((va_cpy p0_F (fun _ => 0) (0 : Int32).toNatClampNeg (0 : Int32).toNatClampNeg x12.toNatClampNeg))))] H := hP
    have hD : va_D A [(a_p0, .inl (tI, p0_N, .inl p0_F)), (ad8, .inl (tI, p1.toNatClampNeg, .inl ((va_cpy p0_F (fun _ => 0) (0 : Int32).toNatClampNeg (0 : Int32).toNatClampNeg x12.toNatClampNeg))))] := hD
    refine lv_aload_n hx hb d_Arr_copyOfI_31 rfl (lv_at hl 0 rfl) ?_
    have hf := Option.some.inj hf
    have hf : _ = u := congrArg (fun z => z.2.2) hf
    subst u
    exact ret _ _ _ _ _ _ () ad8 d_Arr_copyOfI_32 hP hD hS (Nat.le_trans (Nat.le_add_right _ _) hc.1) (Nat.le_trans (Nat.le_add_right _ _) hc.2)
  · have hf := ite_t c0 hf
    refine lv_aload_n hx hb d_Arr_copyOfI_6 rfl (lv_at hl 0 rfl) ?_
    exact absurd hf (by intro h9; cases h9)
noncomputable def f_Arr_copyOfB (F : Nat) (p0_N : Nat) (p0_F : Nat → Int32) (p1 : Int32) : Option (Nat × Nat × Nat × (Nat → Int32)) :=
letb (Int32.ofNat p0_N) fun x7 =>
if p1 = x7 then (
none) else (
asm (¬ p1 < 0 ∧ p1.toNatClampNeg * componentBytes .byte ≤ 536870912) (addc 1 p1.toNatClampNeg (
letb (Int32.ofNat p0_N) fun x11 =>
letb (if p1 < x11 then p1 else x11) fun x12 =>
asm ((((0 : Int32) ≤ 0)) ∧ (((0 : Int32) ≤ 0)) ∧ (¬ x12 < 0) ∧ ((0 : Int32).toNatClampNeg + x12.toNatClampNeg ≤ p0_N) ∧ ((0 : Int32).toNatClampNeg + x12.toNatClampNeg ≤ p1.toNatClampNeg) ∧ (∀ i, i < x12.toNatClampNeg → fits .byte (.int (p0_F ((0 : Int32).toNatClampNeg + i))) = true)) (some (0, 0, p1.toNatClampNeg, (va_cpy p0_F (fun _ => 0) (0 : Int32).toNatClampNeg (0 : Int32).toNatClampNeg x12.toNatClampNeg))))))
set_option maxHeartbeats 4000000 in
set_option maxRecDepth 100000 in
theorem c_Arr_copyOfB (l : Launch) (dC : Nat → ClassId) (dI : Nat → Nat → Nat) (tI tB tL tZ : ClassId) (a_p0 : Nat) (sz : Nat) (p0_N : Nat) (p0_F : Nat → Int32) (p1 : Int32) (F : Nat) (nc ns : Nat) (u : Nat × (Nat → Int32)) (hf : f_Arr_copyOfB F p0_N p0_F p1 = some (nc, ns, u)) : CTr l y_Arr_copyOfB b_Arr_copyOfB 3 (.array .byte) 1 40 (dC, dI) classes [(tI, .int), (tB, .byte), (tL, .long), (tZ, .boolean)] [.ref a_p0, .int p1] [(a_p0, .inl (tB, p0_N, .inl p0_F))] sz (fun (q : Unit) (a : Nat) => [(a_p0, .inl (tB, p0_N, .inl p0_F)), (a, .inl (tB, u.1, .inl u.2))]) nc ns := by
  refine mk_r (by decide) (Nat.le_of_ble_eq_true rfl) (Or.inr ⟨_, rfl⟩) ?_
  intro p e s m args below meth c ls A Q hx hb hml hts hown hin hK hN hP hD hA hl ret
  obtain ⟨H, hH⟩ : ∃ H : Heap, H = s.heap := ⟨_, rfl⟩
  have hS : va_S A s.heap H [] := by rw [hH]; exact va_S.rf
  rw [← hH] at hP ⊢
  have hl : lv_has ls 3 [(0, .ref a_p0), (1, .int p1)] := hl
  have hc : 0 + nc ≤ nc ∧ 0 + ns ≤ ns := ⟨by omega, by omega⟩
  unfold f_Arr_copyOfB at hf
  refine lv_iload_n hx hb d_Arr_copyOfB_0 rfl (lv_at hl 1 rfl) ?_
  refine lv_aload_n hx hb d_Arr_copyOfB_1 rfl (lv_at hl 0 rfl) ?_
  refine va_alen hx hb hK hP 0 1 rfl rfl rfl d_Arr_copyOfB_2 ?_
  refine lv_topi (fun x7 ex7 => ?_)
  have hf := letb_of hf ex7
  refine lv_icmp_ne (tgt := 14) hx hb d_Arr_copyOfB_3 (by decide) (fun c0 => ?_) (fun c0 => ?_)
  · have hf := ite_f c0 hf
    refine lv_iload_n hx hb d_Arr_copyOfB_14 rfl (lv_at hl 1 rfl) ?_
    obtain ⟨hn9, hf⟩ := asm_of hf
    obtain ⟨nB9, sB10, hf, ha9, hb9⟩ := addc_of hf
    have hcc : 0 + 1 ≤ nc ∧ 0 + p1.toNatClampNeg ≤ ns := ⟨by omega, by omega⟩
    have hc : 0 + 1 + nB9 ≤ nc ∧ 0 + p1.toNatClampNeg + sB10 ≤ ns := ⟨by omega, by omega⟩
    refine va_newa (atype := .byte) (ty := .byte) (N' := p1.toNatClampNeg) (a0 := (p1.toNatClampNeg, .inl (fun _ => 0))) hx hb (hts _ q_9) rfl hK hP hD hS hA (fun _ => rfl) hn9.1 rfl hn9.2 hcc.1 hcc.2 d_Arr_copyOfB_15 (fun ad8 cA9 H hK9 hP hD hS => ?_)
    obtain rfl := ty_one (i := 1) (j := 4) hK hK9 rfl rfl (by intro _ h9; cases h9)
    have hP : va_P (dC, dI) classes [(a_p0, .inl (tB, p0_N, .inl p0_F)), (ad8, .inl (tB, p1.toNatClampNeg, .inl (fun _ => 0)))] H := hP
    have hD : va_D A [(a_p0, .inl (tB, p0_N, .inl p0_F)), (ad8, .inl (tB, p1.toNatClampNeg, .inl (fun _ => 0)))] := hD
    refine lv_astore_n (lv' := [(2, .ref ad8), (0, .ref a_p0), (1, .int p1)]) hx hb d_Arr_copyOfB_17 rfl hl (by decide) rfl (fun ls hl => ?_)
    refine lv_aload_n hx hb d_Arr_copyOfB_18 rfl (lv_at hl 1 rfl) ?_
    refine lv_iconst (v := 0) hx hb d_Arr_copyOfB_19 (by decide) ?_
    refine lv_aload_n hx hb d_Arr_copyOfB_20 rfl (lv_at hl 0 rfl) ?_
    refine lv_iconst (v := 0) hx hb d_Arr_copyOfB_21 (by decide) ?_
    refine lv_aload_n hx hb d_Arr_copyOfB_22 rfl (lv_at hl 1 rfl) ?_
    refine va_alen hx hb hK hP 0 1 rfl rfl rfl d_Arr_copyOfB_23 ?_
    refine lv_topi (fun x11 ex11 => ?_)
    have hf := letb_of hf ex11
    refine lv_iload_n hx hb d_Arr_copyOfB_24 rfl (lv_at hl 2 rfl) ?_
    refine va_mmin hx hb (by rw [hml]; exact hl.1.symm) hown (hts _ q_1) (hts _ q_2) (hts _ q_3) (hts _ q_4) (Nat.le_of_ble_eq_true rfl) (Nat.le_of_ble_eq_true rfl) (Nat.le_trans (Nat.le_add_right _ _) hc.1) (Nat.le_trans (Nat.le_add_right _ _) hc.2) d_Arr_copyOfB_25 ?_
    refine lv_topi (fun x12 ex12 => ?_)
    have hf := letb_of hf ex12
    obtain ⟨⟨hy1, hy2, hy3, hy4, hy5, hy6⟩, hf⟩ := asm_of hf
    refine va_copyi (ty := .byte) hx hb (by rw [hml]; exact hl.1.symm) hown (hts _ q_5) (hts _ q_6) (hts _ q_7) (hts _ q_8) hK hP hD hS 0 1 1 1 rfl rfl rfl rfl rfl (by decide) (by decide) hy3 hy4 hy5 hy6 (Nat.le_of_ble_eq_true rfl) (Nat.le_of_ble_eq_true rfl) d_Arr_copyOfB_28 (fun H locs hP hD hS => ?_)
    have hP : va_P (dC, dI) classes [(a_p0, .inl (tB, p0_N, .inl p0_F)), (ad8, .inl (tB, p1.toNatClampNeg, .inl ((va_cpy p0_F (fun _ => 0) (0 : Int32).toNatClampNeg (0 : Int32).toNatClampNeg x12.toNatClampNeg))))] H := hP
    have hD : va_D A [(a_p0, .inl (tB, p0_N, .inl p0_F)), (ad8, .inl (tB, p1.toNatClampNeg, .inl ((va_cpy p0_F (fun _ => 0) (0 : Int32).toNatClampNeg (0 : Int32).toNatClampNeg x12.toNatClampNeg))))] := hD
    refine lv_aload_n hx hb d_Arr_copyOfB_31 rfl (lv_at hl 0 rfl) ?_
    have hf := Option.some.inj hf
    have hf : _ = u := congrArg (fun z => z.2.2) hf
    subst u
    exact ret _ _ _ _ _ _ () ad8 d_Arr_copyOfB_32 hP hD hS (Nat.le_trans (Nat.le_add_right _ _) hc.1) (Nat.le_trans (Nat.le_add_right _ _) hc.2)
  · have hf := ite_t c0 hf
    refine lv_aload_n hx hb d_Arr_copyOfB_6 rfl (lv_at hl 0 rfl) ?_
    exact absurd hf (by intro h9; cases h9)
noncomputable def f_PH_withRoom (F : Nat) (p0_N : Nat) (p0_F : Nat → Int32) (p1 : Int32) : Option (Nat × Nat × Nat × (Nat → Int32)) :=
letb (Int32.ofNat p0_N) fun x9 =>
if x9 < p1 then (
letb (Int32.ofNat p0_N) fun x10 =>
letb (2 * x10) fun x11 =>
letb (if p1 < x11 then x11 else p1) fun x12 =>
bd (f_Arr_copyOfI F p0_N p0_F x12) fun u13 =>
addc u13.1 u13.2.1 (
some (0, 0, u13.2.2.1, u13.2.2.2))) else (
some (0, 0, p0_N, p0_F))
set_option maxHeartbeats 4000000 in
set_option maxRecDepth 100000 in
theorem c_PH_withRoom (l : Launch) (dC : Nat → ClassId) (dI : Nat → Nat → Nat) (tI tB tL tZ : ClassId) (a_p0 : Nat) (sz : Nat) (p0_N : Nat) (p0_F : Nat → Int32) (p1 : Int32) (F : Nat) (nc ns : Nat) (u : Nat × (Nat → Int32)) (hf : f_PH_withRoom F p0_N p0_F p1 = some (nc, ns, u)) : CTr l y_PH_withRoom b_PH_withRoom 2 (.array .int) 2 62 (dC, dI) classes [(tI, .int), (tB, .byte), (tL, .long), (tZ, .boolean)] [.ref a_p0, .int p1] [(a_p0, .inl (tI, p0_N, .inl p0_F))] sz (fun (q : Unit) (a : Nat) => [(a, .inl (tI, u.1, .inl u.2))]) nc ns := by
  refine mk_r (by decide) (Nat.le_of_ble_eq_true rfl) (Or.inr ⟨_, rfl⟩) ?_
  intro p e s m args below meth c ls A Q hx hb hml hts hown hin hK hN hP hD hA hl ret
  obtain ⟨H, hH⟩ : ∃ H : Heap, H = s.heap := ⟨_, rfl⟩
  have hS : va_S A s.heap H [] := by rw [hH]; exact va_S.rf
  rw [← hH] at hP ⊢
  have hl : lv_has ls 2 [(0, .ref a_p0), (1, .int p1)] := hl
  have hc : 0 + nc ≤ nc ∧ 0 + ns ≤ ns := ⟨by omega, by omega⟩
  unfold f_PH_withRoom at hf
  refine lv_iload_n hx hb d_PH_withRoom_0 rfl (lv_at hl 1 rfl) ?_
  refine lv_aload_n hx hb d_PH_withRoom_1 rfl (lv_at hl 0 rfl) ?_
  refine va_alen hx hb hK hP 0 0 rfl rfl rfl d_PH_withRoom_2 ?_
  refine lv_topi (fun x9 ex9 => ?_)
  have hf := letb_of hf ex9
  refine lv_icmp_gt (tgt := 10) hx hb d_PH_withRoom_3 (by decide) (fun c0 => ?_) (fun c0 => ?_)
  · have hf := ite_t c0 hf
    refine lv_aload_n hx hb d_PH_withRoom_10 rfl (lv_at hl 0 rfl) ?_
    refine lv_iload_n hx hb d_PH_withRoom_11 rfl (lv_at hl 1 rfl) ?_
    refine lv_iconst (v := 2) hx hb d_PH_withRoom_12 (by decide) ?_
    refine lv_aload_n hx hb d_PH_withRoom_13 rfl (lv_at hl 0 rfl) ?_
    refine va_alen hx hb hK hP 0 0 rfl rfl rfl d_PH_withRoom_14 ?_
    refine lv_topi (fun x10 ex10 => ?_)
    have hf := letb_of hf ex10
    refine lv_imul hx hb d_PH_withRoom_15 ?_
    refine lv_topi (fun x11 ex11 => ?_)
    have hf := letb_of hf ex11
    refine va_mmax hx hb (by rw [hml]; exact hl.1.symm) hown (hts _ q_10) (hts _ q_11) (hts _ q_3) (hts _ q_12) (Nat.le_of_ble_eq_true rfl) (Nat.le_of_ble_eq_true rfl) (Nat.le_trans (Nat.le_add_right _ _) hc.1) (Nat.le_trans (Nat.le_add_right _ _) hc.2) d_PH_withRoom_16 ?_
    refine lv_topi (fun x12 ex12 => ?_)
    have hf := letb_of hf ex12
    obtain ⟨u13, hu, hf⟩ := bd_of hf
    obtain ⟨nB14, sB15, hf, ha9, hb9⟩ := addc_of hf
    have hcc : 0 + u13.1 ≤ nc ∧ 0 + u13.2.1 ≤ ns := ⟨by omega, by omega⟩
    have hc : 0 + u13.1 + nB14 ≤ nc ∧ 0 + u13.2.1 + sB15 ≤ ns := ⟨by omega, by omega⟩
    refine jn_r (wc := [(a_p0, .inl (tI, p0_N, .inl p0_F))]) (wr := []) (va_runS (As := [.ref a_p0, .int x12]) (rest := []) ⟨hx, hb, hml, hown, hts⟩ (c_Arr_copyOfI l dC dI tI tB tL tZ a_p0 H.size p0_N p0_F x12 F u13.1 u13.2.1 u13.2.2 hu) (cs_of hts q_15 q_14 q_13 q_16 hd_Arr_copyOfI ⟨Nat.le_of_ble_eq_true rfl, Nat.le_of_ble_eq_true rfl⟩) (pr_S hK hN (hP.sub [0] rfl) (hD.sub [0] (by decide) rfl)) rfl rfl hl.1 rfl (lv_room (Nat.le_of_ble_eq_true rfl)) d_PH_withRoom_19 hcc) hP hD hS hA [0] [] rfl rfl (by decide) (by decide) (fun _ ad16 H locs hP hD hS => ?_)
    have hP : va_P (dC, dI) classes [(a_p0, .inl (tI, p0_N, .inl p0_F)), (ad16, .inl (tI, u13.2.2.1, .inl u13.2.2.2))] H := hP
    have hD : va_D A [(a_p0, .inl (tI, p0_N, .inl p0_F)), (ad16, .inl (tI, u13.2.2.1, .inl u13.2.2.2))] := hD
    have hf := Option.some.inj hf
    have hf : _ = u := congrArg (fun z => z.2.2) hf
    subst u
    exact ret _ _ _ _ _ _ () ad16 d_PH_withRoom_22 (hP.sub [1] rfl) (hD.sub [1] (by decide) rfl) hS (Nat.le_trans (Nat.le_add_right _ _) hc.1) (Nat.le_trans (Nat.le_add_right _ _) hc.2)
  · have hf := ite_f c0 hf
    refine lv_aload_n hx hb d_PH_withRoom_6 rfl (lv_at hl 0 rfl) ?_
    refine lv_goto (tgt := 22) hx hb d_PH_withRoom_7 (by decide) ?_
    have hf := Option.some.inj hf
    have hf : _ = u := congrArg (fun z => z.2.2) hf
    subst u
    exact ret _ _ _ _ _ _ () a_p0 d_PH_withRoom_22 hP hD hS (Nat.le_trans (Nat.le_add_right _ _) hc.1) (Nat.le_trans (Nat.le_add_right _ _) hc.2)
noncomputable def g_PH_bitsOf_20 (F : Nat) (v1 : Int32) : Option (Int32) :=
some v1
noncomputable def g_PH_bitsOf_2 (F : Nat) (rec2 : Int32 → Int32 → Option (Int32)) (v0 : Int32) (v1 : Int32) : Option (Int32) :=
if 31 ≤ v1 then (
g_PH_bitsOf_20 F v1) else (
letb (v0 >>> (v1 &&& 31)) fun x3 =>
if x3 ≤ 0 then (
g_PH_bitsOf_20 F v1) else (
letb (v1 + 1) fun x4 =>
rec2 v0 x4))
noncomputable def f_PH_bitsOf_2 (F : Nat) : Nat → Int32 → Int32 → Option (Int32)
  | 0 => fun _ _ => none
  | n + 1 => fun v0 v1 => g_PH_bitsOf_2 F (f_PH_bitsOf_2 F n) v0 v1
noncomputable def f_PH_bitsOf (F : Nat) (p0 : Int32) : Option (Int32) :=
f_PH_bitsOf_2 F F p0 0
set_option maxHeartbeats 4000000 in
set_option maxRecDepth 100000 in
theorem c_PH_bitsOf (l : Launch) (dC : Nat → ClassId) (dI : Nat → Nat → Nat) (tI tB tL tZ : ClassId) (sz : Nat) (p0 : Int32) (F : Nat) (u : Int32) (hf : f_PH_bitsOf F p0 = some u) : CTi l y_PH_bitsOf b_PH_bitsOf 2 .int 0 0 (dC, dI) classes [(tI, .int), (tB, .byte), (tL, .long), (tZ, .boolean)] [.int p0] [] sz (fun q : Unit => []) (u) 0 0 := by
  refine mk_i (by decide) (Nat.le_of_ble_eq_true rfl) ?_
  intro p e s m args below meth c ls A Q hx hb hml hts hown hin hK hN hP hD hA hl ret
  obtain ⟨H, hH⟩ : ∃ H : Heap, H = s.heap := ⟨_, rfl⟩
  have hS : va_S A s.heap H [] := by rw [hH]; exact va_S.rf
  rw [← hH] at hP ⊢
  have hl : lv_has ls 2 [(0, .int p0)] := hl
  have k_20 : ∀ (v1 : Int32) (H : Heap) (locs : List Loc) (cells slots : Nat) (ls : Array Slot), va_P (dC, dI) classes [] H → va_D A [] → va_S A s.heap H locs → lv_has ls 2 [(1, .int v1)] → (cells ≤ 0 ∧ slots ≤ 0) → g_PH_bitsOf_20 F v1 = some u → W p l e ({ frames := 0, cells := 0, slots := 0, locals := 0 } : Room) s m args below meth c H locs cells slots Q (F0 m 20 ls []) := by
    intro v1 H locs cells slots ls hP hD hS hl hc hf
    unfold g_PH_bitsOf_20 at hf
    refine lv_iload_n hx hb d_PH_bitsOf_20 rfl (lv_at hl 0 rfl) ?_
    have hf := Option.some.inj hf
    subst u
    exact ret _ _ _ _ _ _ () d_PH_bitsOf_21 rfl hP hD hS hc.1 hc.2
  have k_2 : ∀ n : Nat, ∀ (v0 : Int32) (v1 : Int32) (H : Heap) (locs : List Loc) (cells slots : Nat) (ls : Array Slot), va_P (dC, dI) classes [] H → va_D A [] → va_S A s.heap H locs → lv_has ls 2 [(0, .int v0), (1, .int v1)] → (cells ≤ 0 ∧ slots ≤ 0) → f_PH_bitsOf_2 F n v0 v1 = some u → W p l e ({ frames := 0, cells := 0, slots := 0, locals := 0 } : Room) s m args below meth c H locs cells slots Q (F0 m 2 ls []) := by
    intro n
    induction n with
    | zero => intro v0 v1 H locs cells slots ls hP hD hS hl hc hf; exact absurd hf (by intro h9; cases h9)
    | succ n h2 =>
      intro v0 v1 H locs cells slots ls hP hD hS hl hc hf
      have hf : g_PH_bitsOf_2 F (f_PH_bitsOf_2 F n) v0 v1 = some u := hf
      generalize (f_PH_bitsOf_2 F n) = rec2 at hf h2
      unfold g_PH_bitsOf_2 at hf
      refine lv_iload_n hx hb d_PH_bitsOf_2 rfl (lv_at hl 1 rfl) ?_
      refine lv_bipush (v := 31) hx hb d_PH_bitsOf_3 (by decide) ?_
      refine lv_icmp_ge (tgt := 20) hx hb d_PH_bitsOf_5 (by decide) (fun c0 => ?_) (fun c0 => ?_)
      · have hf := ite_t c0 hf
        exact k_20 v1 _ _ _ _ ls hP hD hS (lv_sub hl [1] rfl) hc hf
      · have hf := ite_f c0 hf
        refine lv_iload_n hx hb d_PH_bitsOf_8 rfl (lv_at hl 0 rfl) ?_
        refine lv_iload_n hx hb d_PH_bitsOf_9 rfl (lv_at hl 1 rfl) ?_
        refine lv_ishr hx hb d_PH_bitsOf_10 ?_
        refine lv_topi (fun x3 ex3 => ?_)
        have hf := letb_of hf ex3
        refine lv_if_le (tgt := 20) hx hb d_PH_bitsOf_11 (by decide) (fun c0 => ?_) (fun c0 => ?_)
        · have hf := ite_t c0 hf
          exact k_20 v1 _ _ _ _ ls hP hD hS (lv_sub hl [1] rfl) hc hf
        · have hf := ite_f c0 hf
          obtain ⟨x4, ex4⟩ : ∃ y : Int32, y = v1 + 1 := ⟨_, rfl⟩
          have hf := letb_of hf ex4
          refine lv_iinc (v := x4) (lv' := [(1, .int x4), (0, .int v0)]) hx hb d_PH_bitsOf_14 hl (k := 1) rfl (by rw [ex4]; rfl) (by decide) rfl (fun ls hl => ?_)
          refine lv_goto (tgt := 2) hx hb d_PH_bitsOf_17 (by decide) ?_
          exact h2 v0 x4 _ _ _ _ ls hP hD hS (lv_sub hl [1, 0] rfl) hc hf
  have hc : 0 ≤ 0 ∧ 0 ≤ 0 := ⟨Nat.le_refl 0, Nat.le_refl 0⟩
  unfold f_PH_bitsOf at hf
  refine lv_iconst (v := 0) hx hb d_PH_bitsOf_0 (by decide) ?_
  refine lv_istore_n (lv' := [(1, .int 0), (0, .int p0)]) hx hb d_PH_bitsOf_1 rfl hl (by decide) rfl (fun ls hl => ?_)
  exact k_2 F p0 0 _ _ _ _ ls hP hD hS (lv_sub hl [1, 0] rfl) hc hf
noncomputable def f_PH_logOf (F : Nat) (p0 : Int32) : Option (Int32) :=
bd (f_PH_bitsOf F p0) fun u3 =>
letb (u3 - 1) fun x4 =>
some x4
set_option maxHeartbeats 4000000 in
set_option maxRecDepth 100000 in
theorem c_PH_logOf (l : Launch) (dC : Nat → ClassId) (dI : Nat → Nat → Nat) (tI tB tL tZ : ClassId) (sz : Nat) (p0 : Int32) (F : Nat) (u : Int32) (hf : f_PH_logOf F p0 = some u) : CTi l y_PH_logOf b_PH_logOf 1 .int 1 21 (dC, dI) classes [(tI, .int), (tB, .byte), (tL, .long), (tZ, .boolean)] [.int p0] [] sz (fun q : Unit => []) (u) 0 0 := by
  refine mk_i (by decide) (Nat.le_of_ble_eq_true rfl) ?_
  intro p e s m args below meth c ls A Q hx hb hml hts hown hin hK hN hP hD hA hl ret
  obtain ⟨H, hH⟩ : ∃ H : Heap, H = s.heap := ⟨_, rfl⟩
  have hS : va_S A s.heap H [] := by rw [hH]; exact va_S.rf
  rw [← hH] at hP ⊢
  have hl : lv_has ls 1 [(0, .int p0)] := hl
  have hc : 0 ≤ 0 ∧ 0 ≤ 0 := ⟨Nat.le_refl 0, Nat.le_refl 0⟩
  unfold f_PH_logOf at hf
  refine lv_iload_n hx hb d_PH_logOf_0 rfl (lv_at hl 0 rfl) ?_
  obtain ⟨u3, hu, hf⟩ := bd_of hf
  refine jn_i (wc := []) (wr := []) (va_runS (As := [.int p0]) (rest := []) ⟨hx, hb, hml, hown, hts⟩ (c_PH_bitsOf l dC dI tI tB tL tZ H.size p0 F u3 hu) (cs_of hts q_19 q_18 q_17 q_20 hd_PH_bitsOf ⟨Nat.le_of_ble_eq_true rfl, Nat.le_of_ble_eq_true rfl⟩) (pr_S hK hN (hP.sub [] rfl) (hD.sub [] (by decide) rfl)) rfl rfl hl.1 rfl (lv_room (Nat.le_of_ble_eq_true rfl)) d_PH_logOf_1 hc) hP hD hS hA [] [] rfl rfl (by decide) (by decide) (fun r9 _ H locs hw hP hD hS => ?_)
  subst r9
  have hP : va_P (dC, dI) classes [] H := hP
  have hD : va_D A [] := hD
  refine lv_iconst (v := 1) hx hb d_PH_logOf_4 (by decide) ?_
  refine lv_isub hx hb d_PH_logOf_5 ?_
  refine lv_topi (fun x4 ex4 => ?_)
  have hf := letb_of hf ex4
  have hf := Option.some.inj hf
  subst u
  exact ret _ _ _ _ _ _ () d_PH_logOf_6 rfl hP hD hS hc.1 hc.2
noncomputable def f_Store_init (F : Nat) : Option (Nat × Nat × Nat × (Nat → Int32)) :=
addc 1 16 (
some (0, 0, 16, (fun _ => 0)))
set_option maxHeartbeats 4000000 in
set_option maxRecDepth 100000 in
theorem c_Store_init (l : Launch) (dC : Nat → ClassId) (dI : Nat → Nat → Nat) (tI tB tL tZ : ClassId) (a_t : Nat) (sz : Nat) (F : Nat) (nc ns : Nat) (u : Nat × (Nat → Int32)) (hf : f_Store_init F  = some (nc, ns, u)) : CTv l y_Store_init b_Store_init 1 1 12 (dC, dI) classes [(tI, .int), (tB, .byte), (tL, .long), (tZ, .boolean)] [.ref a_t] [(a_t, .inr (4, [.null, .int 0]))] sz (fun q : Nat => [(a_t, .inr (4, [.ref q, .int 0])), (q, .inl (tB, u.1, .inl u.2))]) nc ns := by
  refine mk_v (by decide) (Nat.le_of_ble_eq_true rfl) ?_
  intro p e s m args below meth c ls A Q hx hb hml hts hown hin hK hN hP hD hA hl ret
  obtain ⟨H, hH⟩ : ∃ H : Heap, H = s.heap := ⟨_, rfl⟩
  have hS : va_S A s.heap H [] := by rw [hH]; exact va_S.rf
  rw [← hH] at hP ⊢
  have hl : lv_has ls 1 [(0, .ref a_t)] := hl
  have hc : 0 + nc ≤ nc ∧ 0 + ns ≤ ns := ⟨by omega, by omega⟩
  unfold f_Store_init at hf
  refine lv_aload_n hx hb d_Store_init_0 rfl (lv_at hl 0 rfl) ?_
  refine W.objInit hx hb hown (hts _ q_21) (hts _ q_22) (hts _ q_23) rfl (by rw [hml]; exact hl.1) rfl d_Store_init_1 (Nat.le_of_ble_eq_true rfl) (Nat.le_of_ble_eq_true rfl) ?_
  refine W.eq (g2 := F0 m 4 ls []) rfl ?_
  refine lv_aload_n hx hb d_Store_init_4 rfl (lv_at hl 0 rfl) ?_
  refine lv_bipush (v := 16) hx hb d_Store_init_5 (by decide) ?_
  obtain ⟨nB5, sB6, hf, ha9, hb9⟩ := addc_of hf
  have hcc : 0 + 1 ≤ nc ∧ 0 + 16 ≤ ns := ⟨by omega, by omega⟩
  have hc : 0 + 1 + nB5 ≤ nc ∧ 0 + 16 + sB6 ≤ ns := ⟨by omega, by omega⟩
  refine va_newa (atype := .byte) (ty := .byte) (N' := 16) (a0 := (16, .inl (fun _ => 0))) hx hb (hts _ q_9) rfl hK hP hD hS hA (fun _ => rfl) (by decide) (by decide) (by decide) hcc.1 hcc.2 d_Store_init_7 (fun ad4 cA9 H hK9 hP hD hS => ?_)
  obtain rfl := ty_one (i := 1) (j := 4) hK hK9 rfl rfl (by intro _ h9; cases h9)
  have hP : va_P (dC, dI) classes [(a_t, .inr (4, [.null, .int 0])), (ad4, .inl (tB, 16, .inl (fun _ => 0)))] H := hP
  have hD : va_D A [(a_t, .inr (4, [.null, .int 0])), (ad4, .inl (tB, 16, .inl (fun _ => 0)))] := hD
  refine va_put (D := (dC, dI)) (ci := 4) (v := .ref ad4) (ty := t_Store 0) (C := R_Store) (T := F_Store) (N := 2) hx hb hts i_Store t_Store t_Store_ok n_Store hown hK hP hD hS 0 rfl rfl 0 (by decide) (hts _ q_24) (fun _ h9 => h9) rfl (t_Store_ok 0 (by decide)) rfl rfl (Nat.le_of_ble_eq_true rfl) d_Store_init_9 (fun H locs hP hD hS => ?_)
  have hP : va_P (dC, dI) classes [(a_t, .inr (4, [.ref ad4, .int 0])), (ad4, .inl (tB, 16, .inl (fun _ => 0)))] H := hP
  have hD : va_D A [(a_t, .inr (4, [.ref ad4, .int 0])), (ad4, .inl (tB, 16, .inl (fun _ => 0)))] := hD
  have hf := Option.some.inj hf
  have hf : _ = u := congrArg (fun z => z.2.2) hf
  subst u
  exact ret _ _ _ _ _ _ ad4 d_Store_init_12 hP hD hS (Nat.le_trans (Nat.le_add_right _ _) hc.1) (Nat.le_trans (Nat.le_add_right _ _) hc.2)
noncomputable def g_Store_add_40 (F : Nat) (t_count : Int32) (t_row_N : Nat) (t_row_F : Nat → Int32) (v1 : Int32) : Option (Nat × Nat × Int32 × Nat × (Nat → Int32)) :=
letb (v1.toInt8.toInt32) fun x10 =>
asm (vp_in t_count t_row_N) (letb (t_count + 1) fun x11 =>
some (0, 0, x11, t_row_N, (upd t_row_F t_count.toNatClampNeg (vp_nar .byte x10))))
noncomputable def f_Store_add (F : Nat) (t_count : Int32) (t_row_N : Nat) (t_row_F : Nat → Int32) (p0 : Int32) : Option (Nat × Nat × Int32 × Nat × (Nat → Int32)) :=
if t_count < 262144 then (
letb (Int32.ofNat t_row_N) fun x12 =>
if t_count < x12 then (
g_Store_add_40 F t_count t_row_N t_row_F p0) else (
letb (Int32.ofNat t_row_N) fun x13 =>
letb (2 * x13) fun x14 =>
bd (f_Arr_copyOfB F t_row_N t_row_F x14) fun u15 =>
addc u15.1 u15.2.1 (
g_Store_add_40 F t_count u15.2.2.1 u15.2.2.2 p0))) else (
some (0, 0, t_count, t_row_N, t_row_F))
set_option maxHeartbeats 4000000 in
set_option maxRecDepth 100000 in
theorem c_Store_add (l : Launch) (dC : Nat → ClassId) (dI : Nat → Nat → Nat) (tI tB tL tZ : ClassId) (a_t : Nat) (a_t_row : Nat) (sz : Nat) (t_count : Int32) (t_row_N : Nat) (t_row_F : Nat → Int32) (p0 : Int32) (F : Nat) (nc ns : Nat) (u : Int32 × Nat × (Nat → Int32)) (hf : f_Store_add F t_count t_row_N t_row_F p0 = some (nc, ns, u)) : CTv l y_Store_add b_Store_add 2 2 62 (dC, dI) classes [(tI, .int), (tB, .byte), (tL, .long), (tZ, .boolean)] [.ref a_t, .int p0] [(a_t, .inr (4, [.ref a_t_row, .int t_count])), (a_t_row, .inl (tB, t_row_N, .inl t_row_F))] sz (fun q : Nat => [(a_t, .inr (4, [.ref q, .int u.1])), (q, .inl (tB, u.2.1, .inl u.2.2))]) nc ns := by
  refine mk_v (by decide) (Nat.le_of_ble_eq_true rfl) ?_
  intro p e s m args below meth c ls A Q hx hb hml hts hown hin hK hN hP hD hA hl ret
  obtain ⟨H, hH⟩ : ∃ H : Heap, H = s.heap := ⟨_, rfl⟩
  have hS : va_S A s.heap H [] := by rw [hH]; exact va_S.rf
  rw [← hH] at hP ⊢
  have hl : lv_has ls 2 [(0, .ref a_t), (1, .int p0)] := hl
  have k_40 : ∀ (t_count : Int32) (t_row_N : Nat) (t_row_F : Nat → Int32) (v1 : Int32) (a_t_row : Nat) (H : Heap) (locs : List Loc) (cells slots nB sB : Nat) (ls : Array Slot), va_P (dC, dI) classes [(a_t, .inr (4, [.ref a_t_row, .int t_count])), (a_t_row, .inl (tB, t_row_N, .inl t_row_F))] H → va_D A [(a_t, .inr (4, [.ref a_t_row, .int t_count])), (a_t_row, .inl (tB, t_row_N, .inl t_row_F))] → va_S A s.heap H locs → lv_has ls 2 [(0, .ref a_t), (1, .int v1)] → (cells + nB ≤ nc ∧ slots + sB ≤ ns) → g_Store_add_40 F t_count t_row_N t_row_F v1 = some (nB, sB, u) → W p l e ({ frames := 2, cells := nc, slots := ns, locals := 62 } : Room) s m args below meth c H locs cells slots Q (F0 m 40 ls []) := by
    intro t_count t_row_N t_row_F v1 a_t_row H locs cells slots nB sB ls hP hD hS hl hc hf
    unfold g_Store_add_40 at hf
    refine lv_aload_n hx hb d_Store_add_40 rfl (lv_at hl 0 rfl) ?_
    refine va_get (D := (dC, dI)) (ci := 4) (v := .ref a_t_row) (C := R_Store) (T := F_Store) (N := 2) hx hb hts i_Store hown hK hP 0 rfl rfl 0 (by decide) (hts _ q_24) (fun _ h9 => h9) rfl d_Store_add_41 ?_
    refine lv_aload_n hx hb d_Store_add_44 rfl (lv_at hl 0 rfl) ?_
    refine va_get (D := (dC, dI)) (ci := 4) (v := .int t_count) (C := R_Store) (T := F_Store) (N := 2) hx hb hts i_Store hown hK hP 0 rfl rfl 1 (by decide) (hts _ q_25) (fun _ h9 => h9) rfl d_Store_add_45 ?_
    refine lv_iload_n hx hb d_Store_add_48 rfl (lv_at hl 1 rfl) ?_
    refine lv_i2b hx hb d_Store_add_49 rfl ?_
    refine lv_topi (fun x10 ex10 => ?_)
    have hf := letb_of hf ex10
    obtain ⟨hin9, hf⟩ := asm_of hf
    refine va_bast hx hb hK hP hD hS 1 1 rfl rfl hin9 d_Store_add_50 (fun H locs hP hD hS => ?_)
    have hP : va_P (dC, dI) classes [(a_t, .inr (4, [.ref a_t_row, .int t_count])), (a_t_row, .inl (tB, t_row_N, .inl (upd t_row_F t_count.toNatClampNeg (vp_nar .byte x10))))] H := hP
    have hD : va_D A [(a_t, .inr (4, [.ref a_t_row, .int t_count])), (a_t_row, .inl (tB, t_row_N, .inl (upd t_row_F t_count.toNatClampNeg (vp_nar .byte x10))))] := hD
    refine lv_aload_n hx hb d_Store_add_51 rfl (lv_at hl 0 rfl) ?_
    refine lv_dup hx hb d_Store_add_52 rfl ?_
    refine va_get (D := (dC, dI)) (ci := 4) (v := .int t_count) (C := R_Store) (T := F_Store) (N := 2) hx hb hts i_Store hown hK hP 0 rfl rfl 1 (by decide) (hts _ q_25) (fun _ h9 => h9) rfl d_Store_add_53 ?_
    refine lv_iconst (v := 1) hx hb d_Store_add_56 (by decide) ?_
    refine lv_iadd hx hb d_Store_add_57 ?_
    refine lv_topi (fun x11 ex11 => ?_)
    have hf := letb_of hf ex11
    refine va_put (D := (dC, dI)) (ci := 4) (v := .int x11) (ty := .int) (C := R_Store) (T := F_Store) (N := 2) hx hb hts i_Store t_Store t_Store_ok n_Store hown hK hP hD hS 0 rfl rfl 1 (by decide) (hts _ q_25) (fun _ h9 => h9) rfl (t_Store_ok 1 (by decide)) rfl rfl (Nat.le_of_ble_eq_true rfl) d_Store_add_58 (fun H locs hP hD hS => ?_)
    have hP : va_P (dC, dI) classes [(a_t, .inr (4, [.ref a_t_row, .int x11])), (a_t_row, .inl (tB, t_row_N, .inl (upd t_row_F t_count.toNatClampNeg (vp_nar .byte x10))))] H := hP
    have hD : va_D A [(a_t, .inr (4, [.ref a_t_row, .int x11])), (a_t_row, .inl (tB, t_row_N, .inl (upd t_row_F t_count.toNatClampNeg (vp_nar .byte x10))))] := hD
    have hf := Option.some.inj hf
    have hf : _ = u := congrArg (fun z => z.2.2) hf
    subst u
    exact ret _ _ _ _ _ _ a_t_row d_Store_add_61 hP hD hS (Nat.le_trans (Nat.le_add_right _ _) hc.1) (Nat.le_trans (Nat.le_add_right _ _) hc.2)
  have hc : 0 + nc ≤ nc ∧ 0 + ns ≤ ns := ⟨by omega, by omega⟩
  unfold f_Store_add at hf
  refine lv_aload_n hx hb d_Store_add_0 rfl (lv_at hl 0 rfl) ?_
  refine va_get (D := (dC, dI)) (ci := 4) (v := .int t_count) (C := R_Store) (T := F_Store) (N := 2) hx hb hts i_Store hown hK hP 0 rfl rfl 1 (by decide) (hts _ q_25) (fun _ h9 => h9) rfl d_Store_add_1 ?_
  refine lv_ldc (v := 262144) hx hb hown (hts _ q_26) d_Store_add_4 ?_
  refine lv_icmp_lt (tgt := 10) hx hb d_Store_add_6 (by decide) (fun c0 => ?_) (fun c0 => ?_)
  · have hf := ite_t c0 hf
    refine lv_aload_n hx hb d_Store_add_10 rfl (lv_at hl 0 rfl) ?_
    refine va_get (D := (dC, dI)) (ci := 4) (v := .int t_count) (C := R_Store) (T := F_Store) (N := 2) hx hb hts i_Store hown hK hP 0 rfl rfl 1 (by decide) (hts _ q_25) (fun _ h9 => h9) rfl d_Store_add_11 ?_
    refine lv_aload_n hx hb d_Store_add_14 rfl (lv_at hl 0 rfl) ?_
    refine va_get (D := (dC, dI)) (ci := 4) (v := .ref a_t_row) (C := R_Store) (T := F_Store) (N := 2) hx hb hts i_Store hown hK hP 0 rfl rfl 0 (by decide) (hts _ q_24) (fun _ h9 => h9) rfl d_Store_add_15 ?_
    refine va_alen hx hb hK hP 1 1 rfl rfl rfl d_Store_add_18 ?_
    refine lv_topi (fun x12 ex12 => ?_)
    have hf := letb_of hf ex12
    refine lv_icmp_lt (tgt := 40) hx hb d_Store_add_19 (by decide) (fun c0 => ?_) (fun c0 => ?_)
    · have hf := ite_t c0 hf
      exact k_40 t_count t_row_N t_row_F p0 a_t_row _ _ _ _ _ _ ls hP hD hS hl hc hf
    · have hf := ite_f c0 hf
      refine lv_aload_n hx hb d_Store_add_22 rfl (lv_at hl 0 rfl) ?_
      refine lv_aload_n hx hb d_Store_add_23 rfl (lv_at hl 0 rfl) ?_
      refine va_get (D := (dC, dI)) (ci := 4) (v := .ref a_t_row) (C := R_Store) (T := F_Store) (N := 2) hx hb hts i_Store hown hK hP 0 rfl rfl 0 (by decide) (hts _ q_24) (fun _ h9 => h9) rfl d_Store_add_24 ?_
      refine lv_iconst (v := 2) hx hb d_Store_add_27 (by decide) ?_
      refine lv_aload_n hx hb d_Store_add_28 rfl (lv_at hl 0 rfl) ?_
      refine va_get (D := (dC, dI)) (ci := 4) (v := .ref a_t_row) (C := R_Store) (T := F_Store) (N := 2) hx hb hts i_Store hown hK hP 0 rfl rfl 0 (by decide) (hts _ q_24) (fun _ h9 => h9) rfl d_Store_add_29 ?_
      refine va_alen hx hb hK hP 1 1 rfl rfl rfl d_Store_add_32 ?_
      refine lv_topi (fun x13 ex13 => ?_)
      have hf := letb_of hf ex13
      refine lv_imul hx hb d_Store_add_33 ?_
      refine lv_topi (fun x14 ex14 => ?_)
      have hf := letb_of hf ex14
      obtain ⟨u15, hu, hf⟩ := bd_of hf
      obtain ⟨nB16, sB17, hf, ha9, hb9⟩ := addc_of hf
      have hcc : 0 + u15.1 ≤ nc ∧ 0 + u15.2.1 ≤ ns := ⟨by omega, by omega⟩
      have hc : 0 + u15.1 + nB16 ≤ nc ∧ 0 + u15.2.1 + sB17 ≤ ns := ⟨by omega, by omega⟩
      refine jn_r (wc := [(a_t_row, .inl (tB, t_row_N, .inl t_row_F))]) (wr := [(a_t, .inr (4, [.ref a_t_row, .int t_count]))]) (va_runS (As := [.ref a_t_row, .int x14]) (rest := [.ref a_t]) ⟨hx, hb, hml, hown, hts⟩ (c_Arr_copyOfB l dC dI tI tB tL tZ a_t_row H.size t_row_N t_row_F x14 F u15.1 u15.2.1 u15.2.2 hu) (cs_of hts q_28 q_14 q_27 q_29 hd_Arr_copyOfB ⟨Nat.le_of_ble_eq_true rfl, Nat.le_of_ble_eq_true rfl⟩) (pr_S hK hN (hP.sub [1] rfl) (hD.sub [1] (by decide) rfl)) rfl rfl hl.1 rfl (lv_room (Nat.le_of_ble_eq_true rfl)) d_Store_add_34 hcc) hP hD hS hA [1] [0] rfl rfl (by decide) (by decide) (fun _ ad18 H locs hP hD hS => ?_)
      have hP : va_P (dC, dI) classes [(a_t, .inr (4, [.ref a_t_row, .int t_count])), (a_t_row, .inl (tB, t_row_N, .inl t_row_F)), (ad18, .inl (tB, u15.2.2.1, .inl u15.2.2.2))] H := hP
      have hD : va_D A [(a_t, .inr (4, [.ref a_t_row, .int t_count])), (a_t_row, .inl (tB, t_row_N, .inl t_row_F)), (ad18, .inl (tB, u15.2.2.1, .inl u15.2.2.2))] := hD
      refine va_put (D := (dC, dI)) (ci := 4) (v := .ref ad18) (ty := t_Store 0) (C := R_Store) (T := F_Store) (N := 2) hx hb hts i_Store t_Store t_Store_ok n_Store hown hK hP hD hS 0 rfl rfl 0 (by decide) (hts _ q_24) (fun _ h9 => h9) rfl (t_Store_ok 0 (by decide)) rfl rfl (Nat.le_of_ble_eq_true rfl) d_Store_add_37 (fun H locs hP hD hS => ?_)
      have hP : va_P (dC, dI) classes [(a_t, .inr (4, [.ref ad18, .int t_count])), (a_t_row, .inl (tB, t_row_N, .inl t_row_F)), (ad18, .inl (tB, u15.2.2.1, .inl u15.2.2.2))] H := hP
      have hD : va_D A [(a_t, .inr (4, [.ref ad18, .int t_count])), (a_t_row, .inl (tB, t_row_N, .inl t_row_F)), (ad18, .inl (tB, u15.2.2.1, .inl u15.2.2.2))] := hD
      exact k_40 t_count u15.2.2.1 u15.2.2.2 p0 ad18 _ _ _ _ _ _ ls (hP.sub [0, 2] rfl) (hD.sub [0, 2] (by decide) rfl) hS hl hc hf
  · have hf := ite_f c0 hf
    have hf := Option.some.inj hf
    have hf : _ = u := congrArg (fun z => z.2.2) hf
    subst u
    exact ret _ _ _ _ _ _ a_t_row d_Store_add_9 hP hD hS (Nat.le_trans (Nat.le_add_right _ _) hc.1) (Nat.le_trans (Nat.le_add_right _ _) hc.2)
noncomputable def g_Store_get_26 (F : Nat) (s0 : Int32) : Option (Int32) :=
some s0
noncomputable def g_Store_get_12 (F : Nat)  : Option (Int32) :=
g_Store_get_26 F 0
noncomputable def f_Store_get (F : Nat) (t_count : Int32) (t_row_N : Nat) (t_row_F : Nat → Int32) (p0 : Int32) : Option (Int32) :=
if p0 < 0 then (
g_Store_get_12 F) else (
if p0 < t_count then (
asm (vp_in p0 t_row_N) (letb (t_row_F p0.toNatClampNeg) fun x3 =>
letb (x3 &&& 255) fun x4 =>
g_Store_get_26 F x4)) else (
g_Store_get_12 F))
set_option maxHeartbeats 4000000 in
set_option maxRecDepth 100000 in
theorem c_Store_get (l : Launch) (dC : Nat → ClassId) (dI : Nat → Nat → Nat) (tI tB tL tZ : ClassId) (a_t : Nat) (a_t_row : Nat) (sz : Nat) (t_count : Int32) (t_row_N : Nat) (t_row_F : Nat → Int32) (p0 : Int32) (F : Nat) (u : Int32) (hf : f_Store_get F t_count t_row_N t_row_F p0 = some u) : CTi l y_Store_get b_Store_get 2 .int 0 0 (dC, dI) classes [(tI, .int), (tB, .byte), (tL, .long), (tZ, .boolean)] [.ref a_t, .int p0] [(a_t, .inr (4, [.ref a_t_row, .int t_count])), (a_t_row, .inl (tB, t_row_N, .inl t_row_F))] sz (fun q : Unit => [(a_t, .inr (4, [.ref a_t_row, .int t_count])), (a_t_row, .inl (tB, t_row_N, .inl t_row_F))]) (u) 0 0 := by
  refine mk_i (by decide) (Nat.le_of_ble_eq_true rfl) ?_
  intro p e s m args below meth c ls A Q hx hb hml hts hown hin hK hN hP hD hA hl ret
  obtain ⟨H, hH⟩ : ∃ H : Heap, H = s.heap := ⟨_, rfl⟩
  have hS : va_S A s.heap H [] := by rw [hH]; exact va_S.rf
  rw [← hH] at hP ⊢
  have hl : lv_has ls 2 [(0, .ref a_t), (1, .int p0)] := hl
  have k_26 : ∀ (s0 : Int32) (H : Heap) (locs : List Loc) (cells slots : Nat) (ls : Array Slot), va_P (dC, dI) classes [(a_t, .inr (4, [.ref a_t_row, .int t_count])), (a_t_row, .inl (tB, t_row_N, .inl t_row_F))] H → va_D A [(a_t, .inr (4, [.ref a_t_row, .int t_count])), (a_t_row, .inl (tB, t_row_N, .inl t_row_F))] → va_S A s.heap H locs → lv_has ls 2 [] → (cells ≤ 0 ∧ slots ≤ 0) → g_Store_get_26 F s0 = some u → W p l e ({ frames := 0, cells := 0, slots := 0, locals := 0 } : Room) s m args below meth c H locs cells slots Q (F0 m 26 ls [.int s0]) := by
    intro s0 H locs cells slots ls hP hD hS hl hc hf
    unfold g_Store_get_26 at hf
    have hf := Option.some.inj hf
    subst u
    exact ret _ _ _ _ _ _ () d_Store_get_26 rfl hP hD hS hc.1 hc.2
  have k_12 : ∀  (H : Heap) (locs : List Loc) (cells slots : Nat) (ls : Array Slot), va_P (dC, dI) classes [(a_t, .inr (4, [.ref a_t_row, .int t_count])), (a_t_row, .inl (tB, t_row_N, .inl t_row_F))] H → va_D A [(a_t, .inr (4, [.ref a_t_row, .int t_count])), (a_t_row, .inl (tB, t_row_N, .inl t_row_F))] → va_S A s.heap H locs → lv_has ls 2 [] → (cells ≤ 0 ∧ slots ≤ 0) → g_Store_get_12 F = some u → W p l e ({ frames := 0, cells := 0, slots := 0, locals := 0 } : Room) s m args below meth c H locs cells slots Q (F0 m 12 ls []) := by
    intro H locs cells slots ls hP hD hS hl hc hf
    unfold g_Store_get_12 at hf
    refine lv_iconst (v := 0) hx hb d_Store_get_12 (by decide) ?_
    refine lv_goto (tgt := 26) hx hb d_Store_get_13 (by decide) ?_
    exact k_26 0 _ _ _ _ ls hP hD hS hl hc hf
  have hc : 0 ≤ 0 ∧ 0 ≤ 0 := ⟨Nat.le_refl 0, Nat.le_refl 0⟩
  unfold f_Store_get at hf
  refine lv_iload_n hx hb d_Store_get_0 rfl (lv_at hl 1 rfl) ?_
  refine lv_if_lt (tgt := 12) hx hb d_Store_get_1 (by decide) (fun c0 => ?_) (fun c0 => ?_)
  · have hf := ite_t c0 hf
    exact k_12 _ _ _ _ ls hP hD hS (lv_sub hl [] rfl) hc hf
  · have hf := ite_f c0 hf
    refine lv_iload_n hx hb d_Store_get_4 rfl (lv_at hl 1 rfl) ?_
    refine lv_aload_n hx hb d_Store_get_5 rfl (lv_at hl 0 rfl) ?_
    refine va_get (D := (dC, dI)) (ci := 4) (v := .int t_count) (C := R_Store) (T := F_Store) (N := 2) hx hb hts i_Store hown hK hP 0 rfl rfl 1 (by decide) (hts _ q_25) (fun _ h9 => h9) rfl d_Store_get_6 ?_
    refine lv_icmp_lt (tgt := 16) hx hb d_Store_get_9 (by decide) (fun c0 => ?_) (fun c0 => ?_)
    · have hf := ite_t c0 hf
      refine lv_aload_n hx hb d_Store_get_16 rfl (lv_at hl 0 rfl) ?_
      refine va_get (D := (dC, dI)) (ci := 4) (v := .ref a_t_row) (C := R_Store) (T := F_Store) (N := 2) hx hb hts i_Store hown hK hP 0 rfl rfl 0 (by decide) (hts _ q_24) (fun _ h9 => h9) rfl d_Store_get_17 ?_
      refine lv_iload_n hx hb d_Store_get_20 rfl (lv_at hl 1 rfl) ?_
      obtain ⟨hin9, hf⟩ := asm_of hf
      refine va_bald hx hb hK hP 1 1 rfl rfl hin9 d_Store_get_21 ?_
      refine lv_topi (fun x3 ex3 => ?_)
      have hf := letb_of hf ex3
      refine lv_sipush (v := 255) hx hb d_Store_get_22 (by decide) ?_
      refine lv_iand hx hb d_Store_get_25 ?_
      refine lv_topi (fun x4 ex4 => ?_)
      have hf := letb_of hf ex4
      exact k_26 x4 _ _ _ _ ls hP hD hS (lv_sub hl [] rfl) hc hf
    · have hf := ite_f c0 hf
      exact k_12 _ _ _ _ ls hP hD hS (lv_sub hl [] rfl) hc hf
