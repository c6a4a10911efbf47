abbrev c_TG_init : ByteArray := prog_1_method_1_code
abbrev y_TG_init : MethodName := ⟨"TwoGenerations", "<init>", "(III)V"⟩
abbrev h_TG_init : Cond := .code y_TG_init c_TG_init 4 none
theorem d_TG_init_0 : decode c_TG_init 0 = .ok (.aload_n 0, 1) := by decide +kernel
theorem d_TG_init_1 : decode c_TG_init 1 = .ok (.invokespecial 1, 3) := by decide +kernel
theorem d_TG_init_4 : decode c_TG_init 4 = .ok (.aload_n 0, 1) := by decide +kernel
theorem d_TG_init_5 : decode c_TG_init 5 = .ok (.iload_n 1, 1) := by decide +kernel
theorem d_TG_init_6 : decode c_TG_init 6 = .ok (.iconst 1, 1) := by decide +kernel
theorem d_TG_init_7 : decode c_TG_init 7 = .ok (.bipush 8, 2) := by decide +kernel
theorem d_TG_init_9 : decode c_TG_init 9 = .ok (.invokestatic 7, 3) := by decide +kernel
theorem d_TG_init_12 : decode c_TG_init 12 = .ok (.ifCond .eq 7, 3) := by decide +kernel
theorem d_TG_init_15 : decode c_TG_init 15 = .ok (.iload_n 1, 1) := by decide +kernel
theorem d_TG_init_16 : decode c_TG_init 16 = .ok (.goto 4, 3) := by decide +kernel
theorem d_TG_init_19 : decode c_TG_init 19 = .ok (.iconst 4, 1) := by decide +kernel
theorem d_TG_init_20 : decode c_TG_init 20 = .ok (.anewarray 13, 3) := by decide +kernel
theorem d_TG_init_23 : decode c_TG_init 23 = .ok (.putfield 15, 3) := by decide +kernel
theorem d_TG_init_26 : decode c_TG_init 26 = .ok (.aload_n 0, 1) := by decide +kernel
theorem d_TG_init_27 : decode c_TG_init 27 = .ok (.new 19, 3) := by decide +kernel
theorem d_TG_init_30 : decode c_TG_init 30 = .ok (.dup, 1) := by decide +kernel
theorem d_TG_init_31 : decode c_TG_init 31 = .ok (.iload_n 2, 1) := by decide +kernel
theorem d_TG_init_32 : decode c_TG_init 32 = .ok (.iconst 4, 1) := by decide +kernel
theorem d_TG_init_33 : decode c_TG_init 33 = .ok (.bipush 60, 2) := by decide +kernel
theorem d_TG_init_35 : decode c_TG_init 35 = .ok (.invokestatic 7, 3) := by decide +kernel
theorem d_TG_init_38 : decode c_TG_init 38 = .ok (.ifCond .eq 7, 3) := by decide +kernel
theorem d_TG_init_41 : decode c_TG_init 41 = .ok (.iload_n 2, 1) := by decide +kernel
theorem d_TG_init_42 : decode c_TG_init 42 = .ok (.goto 5, 3) := by decide +kernel
theorem d_TG_init_45 : decode c_TG_init 45 = .ok (.bipush 16, 2) := by decide +kernel
theorem d_TG_init_47 : decode c_TG_init 47 = .ok (.invokespecial 21, 3) := by decide +kernel
theorem d_TG_init_50 : decode c_TG_init 50 = .ok (.putfield 24, 3) := by decide +kernel
theorem d_TG_init_53 : decode c_TG_init 53 = .ok (.aload_n 0, 1) := by decide +kernel
theorem d_TG_init_54 : decode c_TG_init 54 = .ok (.new 19, 3) := by decide +kernel
theorem d_TG_init_57 : decode c_TG_init 57 = .ok (.dup, 1) := by decide +kernel
theorem d_TG_init_58 : decode c_TG_init 58 = .ok (.iload_n 3, 1) := by decide +kernel
theorem d_TG_init_59 : decode c_TG_init 59 = .ok (.iconst 4, 1) := by decide +kernel
theorem d_TG_init_60 : decode c_TG_init 60 = .ok (.bipush 120, 2) := by decide +kernel
theorem d_TG_init_62 : decode c_TG_init 62 = .ok (.invokestatic 7, 3) := by decide +kernel
theorem d_TG_init_65 : decode c_TG_init 65 = .ok (.ifCond .eq 7, 3) := by decide +kernel
theorem d_TG_init_68 : decode c_TG_init 68 = .ok (.iload_n 3, 1) := by decide +kernel
theorem d_TG_init_69 : decode c_TG_init 69 = .ok (.goto 5, 3) := by decide +kernel
theorem d_TG_init_72 : decode c_TG_init 72 = .ok (.bipush 40, 2) := by decide +kernel
theorem d_TG_init_74 : decode c_TG_init 74 = .ok (.invokespecial 21, 3) := by decide +kernel
theorem d_TG_init_77 : decode c_TG_init 77 = .ok (.putfield 28, 3) := by decide +kernel
theorem d_TG_init_80 : decode c_TG_init 80 = .ok (.aload_n 0, 1) := by decide +kernel
theorem d_TG_init_81 : decode c_TG_init 81 = .ok (.new 31, 3) := by decide +kernel
theorem d_TG_init_84 : decode c_TG_init 84 = .ok (.dup, 1) := by decide +kernel
theorem d_TG_init_85 : decode c_TG_init 85 = .ok (.aload_n 0, 1) := by decide +kernel
theorem d_TG_init_86 : decode c_TG_init 86 = .ok (.getfield 24, 3) := by decide +kernel
theorem d_TG_init_89 : decode c_TG_init 89 = .ok (.getfield 33, 3) := by decide +kernel
theorem d_TG_init_92 : decode c_TG_init 92 = .ok (.aload_n 0, 1) := by decide +kernel
theorem d_TG_init_93 : decode c_TG_init 93 = .ok (.getfield 28, 3) := by decide +kernel
theorem d_TG_init_96 : decode c_TG_init 96 = .ok (.getfield 33, 3) := by decide +kernel
theorem d_TG_init_99 : decode c_TG_init 99 = .ok (.iadd, 1) := by decide +kernel
theorem d_TG_init_100 : decode c_TG_init 100 = .ok (.invokespecial 37, 3) := by decide +kernel
theorem d_TG_init_103 : decode c_TG_init 103 = .ok (.putfield 38, 3) := by decide +kernel
theorem d_TG_init_106 : decode c_TG_init 106 = .ok (.return_, 1) := by decide +kernel
abbrev c_TG_within : ByteArray := prog_1_method_20_code
abbrev y_TG_within : MethodName := ⟨"TwoGenerations", "within", "(III)Z"⟩
abbrev h_TG_within : Cond := .code y_TG_within c_TG_within 3 (some .boolean)
theorem d_TG_within_0 : decode c_TG_within 0 = .ok (.iload_n 1, 1) := by decide +kernel
theorem d_TG_within_1 : decode c_TG_within 1 = .ok (.iload_n 0, 1) := by decide +kernel
theorem d_TG_within_2 : decode c_TG_within 2 = .ok (.if_icmp .gt 12, 3) := by decide +kernel
theorem d_TG_within_5 : decode c_TG_within 5 = .ok (.iload_n 0, 1) := by decide +kernel
theorem d_TG_within_6 : decode c_TG_within 6 = .ok (.iload_n 2, 1) := by decide +kernel
theorem d_TG_within_7 : decode c_TG_within 7 = .ok (.if_icmp .gt 7, 3) := by decide +kernel
theorem d_TG_within_10 : decode c_TG_within 10 = .ok (.iconst 1, 1) := by decide +kernel
theorem d_TG_within_11 : decode c_TG_within 11 = .ok (.goto 4, 3) := by decide +kernel
theorem d_TG_within_14 : decode c_TG_within 14 = .ok (.iconst 0, 1) := by decide +kernel
theorem d_TG_within_15 : decode c_TG_within 15 = .ok (.ireturn, 1) := by decide +kernel
abbrev c_Gen_init : ByteArray := prog_2_method_1_code
abbrev y_Gen_init : MethodName := ⟨"TwoGenerations$Generation", "<init>", "(I)V"⟩
abbrev h_Gen_init : Cond := .code y_Gen_init c_Gen_init 2 none
theorem d_Gen_init_0 : decode c_Gen_init 0 = .ok (.aload_n 0, 1) := by decide +kernel
theorem d_Gen_init_1 : decode c_Gen_init 1 = .ok (.invokespecial 1, 3) := by decide +kernel
theorem d_Gen_init_4 : decode c_Gen_init 4 = .ok (.aload_n 0, 1) := by decide +kernel
theorem d_Gen_init_5 : decode c_Gen_init 5 = .ok (.iload_n 1, 1) := by decide +kernel
theorem d_Gen_init_6 : decode c_Gen_init 6 = .ok (.putfield 7, 3) := by decide +kernel
theorem d_Gen_init_9 : decode c_Gen_init 9 = .ok (.aload_n 0, 1) := by decide +kernel
theorem d_Gen_init_10 : decode c_Gen_init 10 = .ok (.iload_n 1, 1) := by decide +kernel
theorem d_Gen_init_11 : decode c_Gen_init 11 = .ok (.anewarray 13, 3) := by decide +kernel
theorem d_Gen_init_14 : decode c_Gen_init 14 = .ok (.putfield 15, 3) := by decide +kernel
theorem d_Gen_init_17 : decode c_Gen_init 17 = .ok (.return_, 1) := by decide +kernel
abbrev c_Tr_init : ByteArray := prog_5_method_1_code
abbrev y_Tr_init : MethodName := ⟨"TwoGenerations$Trace", "<init>", "(I)V"⟩
abbrev h_Tr_init : Cond := .code y_Tr_init c_Tr_init 2 none
theorem d_Tr_init_0 : decode c_Tr_init 0 = .ok (.aload_n 0, 1) := by decide +kernel
theorem d_Tr_init_1 : decode c_Tr_init 1 = .ok (.invokespecial 1, 3) := by decide +kernel
theorem d_Tr_init_4 : decode c_Tr_init 4 = .ok (.aload_n 0, 1) := by decide +kernel
theorem d_Tr_init_5 : decode c_Tr_init 5 = .ok (.iload_n 1, 1) := by decide +kernel
theorem d_Tr_init_6 : decode c_Tr_init 6 = .ok (.anewarray 7, 3) := by decide +kernel
theorem d_Tr_init_9 : decode c_Tr_init 9 = .ok (.putfield 9, 3) := by decide +kernel
theorem d_Tr_init_12 : decode c_Tr_init 12 = .ok (.return_, 1) := by decide +kernel
abbrev c_TG_kind : ByteArray := prog_1_method_10_code
abbrev y_TG_kind : MethodName := ⟨"TwoGenerations", "kind", "(I)I"⟩
abbrev h_TG_kind : Cond := .code y_TG_kind c_TG_kind 3 (some .int)
theorem d_TG_kind_0 : decode c_TG_kind 0 = .ok (.aload_n 0, 1) := by decide +kernel
theorem d_TG_kind_1 : decode c_TG_kind 1 = .ok (.iload_n 1, 1) := by decide +kernel
theorem d_TG_kind_2 : decode c_TG_kind 2 = .ok (.invokevirtual 42, 3) := by decide +kernel
theorem d_TG_kind_5 : decode c_TG_kind 5 = .ok (.ifCond .ne 5, 3) := by decide +kernel
theorem d_TG_kind_8 : decode c_TG_kind 8 = .ok (.iconst (-1), 1) := by decide +kernel
theorem d_TG_kind_9 : decode c_TG_kind 9 = .ok (.ireturn, 1) := by decide +kernel
theorem d_TG_kind_10 : decode c_TG_kind 10 = .ok (.aload_n 0, 1) := by decide +kernel
theorem d_TG_kind_11 : decode c_TG_kind 11 = .ok (.getfield 15, 3) := by decide +kernel
theorem d_TG_kind_14 : decode c_TG_kind 14 = .ok (.iload_n 1, 1) := by decide +kernel
theorem d_TG_kind_15 : decode c_TG_kind 15 = .ok (.aaload, 1) := by decide +kernel
theorem d_TG_kind_16 : decode c_TG_kind 16 = .ok (.astore_n 2, 1) := by decide +kernel
theorem d_TG_kind_17 : decode c_TG_kind 17 = .ok (.aload_n 2, 1) := by decide +kernel
theorem d_TG_kind_18 : decode c_TG_kind 18 = .ok (.ifnonnull 5, 3) := by decide +kernel
theorem d_TG_kind_21 : decode c_TG_kind 21 = .ok (.iconst 0, 1) := by decide +kernel
theorem d_TG_kind_22 : decode c_TG_kind 22 = .ok (.ireturn, 1) := by decide +kernel
theorem d_TG_kind_23 : decode c_TG_kind 23 = .ok (.aload_n 2, 1) := by decide +kernel
theorem d_TG_kind_24 : decode c_TG_kind 24 = .ok (.instanceof 97, 3) := by decide +kernel
theorem d_TG_kind_27 : decode c_TG_kind 27 = .ok (.ifCond .eq 5, 3) := by decide +kernel
theorem d_TG_kind_30 : decode c_TG_kind 30 = .ok (.iconst 1, 1) := by decide +kernel
theorem d_TG_kind_31 : decode c_TG_kind 31 = .ok (.ireturn, 1) := by decide +kernel
theorem d_TG_kind_32 : decode c_TG_kind 32 = .ok (.aload_n 2, 1) := by decide +kernel
theorem d_TG_kind_33 : decode c_TG_kind 33 = .ok (.instanceof 53, 3) := by decide +kernel
theorem d_TG_kind_36 : decode c_TG_kind 36 = .ok (.ifCond .eq 7, 3) := by decide +kernel
theorem d_TG_kind_39 : decode c_TG_kind 39 = .ok (.iconst 2, 1) := by decide +kernel
theorem d_TG_kind_40 : decode c_TG_kind 40 = .ok (.goto 4, 3) := by decide +kernel
theorem d_TG_kind_43 : decode c_TG_kind 43 = .ok (.iconst 3, 1) := by decide +kernel
theorem d_TG_kind_44 : decode c_TG_kind 44 = .ok (.ireturn, 1) := by decide +kernel
abbrev c_TG_isRegister : ByteArray := prog_1_method_21_code
abbrev y_TG_isRegister : MethodName := ⟨"TwoGenerations", "isRegister", "(I)Z"⟩
abbrev h_TG_isRegister : Cond := .code y_TG_isRegister c_TG_isRegister 2 (some .boolean)
theorem d_TG_isRegister_0 : decode c_TG_isRegister 0 = .ok (.iload_n 1, 1) := by decide +kernel
theorem d_TG_isRegister_1 : decode c_TG_isRegister 1 = .ok (.iconst 0, 1) := by decide +kernel
theorem d_TG_isRegister_2 : decode c_TG_isRegister 2 = .ok (.aload_n 0, 1) := by decide +kernel
theorem d_TG_isRegister_3 : decode c_TG_isRegister 3 = .ok (.getfield 15, 3) := by decide +kernel
theorem d_TG_isRegister_6 : decode c_TG_isRegister 6 = .ok (.arraylength, 1) := by decide +kernel
theorem d_TG_isRegister_7 : decode c_TG_isRegister 7 = .ok (.iconst 1, 1) := by decide +kernel
theorem d_TG_isRegister_8 : decode c_TG_isRegister 8 = .ok (.isub, 1) := by decide +kernel
theorem d_TG_isRegister_9 : decode c_TG_isRegister 9 = .ok (.invokestatic 7, 3) := by decide +kernel
theorem d_TG_isRegister_12 : decode c_TG_isRegister 12 = .ok (.ireturn, 1) := by decide +kernel
abbrev c_TG_value : ByteArray := prog_1_method_11_code
abbrev y_TG_value : MethodName := ⟨"TwoGenerations", "value", "(I)I"⟩
abbrev h_TG_value : Cond := .code y_TG_value c_TG_value 4 (some .int)
theorem d_TG_value_0 : decode c_TG_value 0 = .ok (.aload_n 0, 1) := by decide +kernel
theorem d_TG_value_1 : decode c_TG_value 1 = .ok (.iload_n 1, 1) := by decide +kernel
theorem d_TG_value_2 : decode c_TG_value 2 = .ok (.invokevirtual 102, 3) := by decide +kernel
theorem d_TG_value_5 : decode c_TG_value 5 = .ok (.astore_n 3, 1) := by decide +kernel
theorem d_TG_value_6 : decode c_TG_value 6 = .ok (.aload_n 3, 1) := by decide +kernel
theorem d_TG_value_7 : decode c_TG_value 7 = .ok (.instanceof 97, 3) := by decide +kernel
theorem d_TG_value_10 : decode c_TG_value 10 = .ok (.ifCond .eq 15, 3) := by decide +kernel
theorem d_TG_value_13 : decode c_TG_value 13 = .ok (.aload_n 3, 1) := by decide +kernel
theorem d_TG_value_14 : decode c_TG_value 14 = .ok (.checkcast 97, 3) := by decide +kernel
theorem d_TG_value_17 : decode c_TG_value 17 = .ok (.astore_n 2, 1) := by decide +kernel
theorem d_TG_value_18 : decode c_TG_value 18 = .ok (.aload_n 2, 1) := by decide +kernel
theorem d_TG_value_19 : decode c_TG_value 19 = .ok (.getfield 106, 3) := by decide +kernel
theorem d_TG_value_22 : decode c_TG_value 22 = .ok (.goto 4, 3) := by decide +kernel
theorem d_TG_value_25 : decode c_TG_value 25 = .ok (.iconst 0, 1) := by decide +kernel
theorem d_TG_value_26 : decode c_TG_value 26 = .ok (.ireturn, 1) := by decide +kernel
abbrev c_TG_heldIn : ByteArray := prog_1_method_22_code
abbrev y_TG_heldIn : MethodName := ⟨"TwoGenerations", "heldIn", "(I)LTwoGenerations$Value;"⟩
abbrev h_TG_heldIn : Cond := .code y_TG_heldIn c_TG_heldIn 2 (some (.object "TwoGenerations$Value"))
theorem d_TG_heldIn_0 : decode c_TG_heldIn 0 = .ok (.aload_n 0, 1) := by decide +kernel
theorem d_TG_heldIn_1 : decode c_TG_heldIn 1 = .ok (.iload_n 1, 1) := by decide +kernel
theorem d_TG_heldIn_2 : decode c_TG_heldIn 2 = .ok (.invokevirtual 42, 3) := by decide +kernel
theorem d_TG_heldIn_5 : decode c_TG_heldIn 5 = .ok (.ifCond .eq 12, 3) := by decide +kernel
theorem d_TG_heldIn_8 : decode c_TG_heldIn 8 = .ok (.aload_n 0, 1) := by decide +kernel
theorem d_TG_heldIn_9 : decode c_TG_heldIn 9 = .ok (.getfield 15, 3) := by decide +kernel
theorem d_TG_heldIn_12 : decode c_TG_heldIn 12 = .ok (.iload_n 1, 1) := by decide +kernel
theorem d_TG_heldIn_13 : decode c_TG_heldIn 13 = .ok (.aaload, 1) := by decide +kernel
theorem d_TG_heldIn_14 : decode c_TG_heldIn 14 = .ok (.goto 4, 3) := by decide +kernel
theorem d_TG_heldIn_17 : decode c_TG_heldIn 17 = .ok (.aconst_null, 1) := by decide +kernel
theorem d_TG_heldIn_18 : decode c_TG_heldIn 18 = .ok (.areturn, 1) := by decide +kernel
abbrev c_TG_fields : ByteArray := prog_1_method_12_code
abbrev y_TG_fields : MethodName := ⟨"TwoGenerations", "fields", "(I)I"⟩
abbrev h_TG_fields : Cond := .code y_TG_fields c_TG_fields 3 (some .int)
theorem d_TG_fields_0 : decode c_TG_fields 0 = .ok (.aload_n 0, 1) := by decide +kernel
theorem d_TG_fields_1 : decode c_TG_fields 1 = .ok (.iload_n 1, 1) := by decide +kernel
theorem d_TG_fields_2 : decode c_TG_fields 2 = .ok (.invokevirtual 71, 3) := by decide +kernel
theorem d_TG_fields_5 : decode c_TG_fields 5 = .ok (.astore_n 2, 1) := by decide +kernel
theorem d_TG_fields_6 : decode c_TG_fields 6 = .ok (.aload_n 2, 1) := by decide +kernel
theorem d_TG_fields_7 : decode c_TG_fields 7 = .ok (.ifnonnull 7, 3) := by decide +kernel
theorem d_TG_fields_10 : decode c_TG_fields 10 = .ok (.iconst (-1), 1) := by decide +kernel
theorem d_TG_fields_11 : decode c_TG_fields 11 = .ok (.goto 8, 3) := by decide +kernel
theorem d_TG_fields_14 : decode c_TG_fields 14 = .ok (.aload_n 2, 1) := by decide +kernel
theorem d_TG_fields_15 : decode c_TG_fields 15 = .ok (.getfield 80, 3) := by decide +kernel
theorem d_TG_fields_18 : decode c_TG_fields 18 = .ok (.arraylength, 1) := by decide +kernel
theorem d_TG_fields_19 : decode c_TG_fields 19 = .ok (.ireturn, 1) := by decide +kernel
abbrev c_TG_plainIn : ByteArray := prog_1_method_24_code
abbrev y_TG_plainIn : MethodName := ⟨"TwoGenerations", "plainIn", "(I)LTwoGenerations$Plain;"⟩
abbrev h_TG_plainIn : Cond := .code y_TG_plainIn c_TG_plainIn 4 (some (.object "TwoGenerations$Plain"))
theorem d_TG_plainIn_0 : decode c_TG_plainIn 0 = .ok (.aload_n 0, 1) := by decide +kernel
theorem d_TG_plainIn_1 : decode c_TG_plainIn 1 = .ok (.iload_n 1, 1) := by decide +kernel
theorem d_TG_plainIn_2 : decode c_TG_plainIn 2 = .ok (.invokevirtual 102, 3) := by decide +kernel
theorem d_TG_plainIn_5 : decode c_TG_plainIn 5 = .ok (.astore_n 3, 1) := by decide +kernel
theorem d_TG_plainIn_6 : decode c_TG_plainIn 6 = .ok (.aload_n 3, 1) := by decide +kernel
theorem d_TG_plainIn_7 : decode c_TG_plainIn 7 = .ok (.instanceof 53, 3) := by decide +kernel
theorem d_TG_plainIn_10 : decode c_TG_plainIn 10 = .ok (.ifCond .eq 12, 3) := by decide +kernel
theorem d_TG_plainIn_13 : decode c_TG_plainIn 13 = .ok (.aload_n 3, 1) := by decide +kernel
theorem d_TG_plainIn_14 : decode c_TG_plainIn 14 = .ok (.checkcast 53, 3) := by decide +kernel
theorem d_TG_plainIn_17 : decode c_TG_plainIn 17 = .ok (.astore_n 2, 1) := by decide +kernel
theorem d_TG_plainIn_18 : decode c_TG_plainIn 18 = .ok (.aload_n 2, 1) := by decide +kernel
theorem d_TG_plainIn_19 : decode c_TG_plainIn 19 = .ok (.goto 4, 3) := by decide +kernel
theorem d_TG_plainIn_22 : decode c_TG_plainIn 22 = .ok (.aconst_null, 1) := by decide +kernel
theorem d_TG_plainIn_23 : decode c_TG_plainIn 23 = .ok (.areturn, 1) := by decide +kernel
abbrev c_TG_same : ByteArray := prog_1_method_13_code
abbrev y_TG_same : MethodName := ⟨"TwoGenerations", "same", "(II)Z"⟩
abbrev h_TG_same : Cond := .code y_TG_same c_TG_same 6 (some .boolean)
theorem d_TG_same_0 : decode c_TG_same 0 = .ok (.aload_n 0, 1) := by decide +kernel
theorem d_TG_same_1 : decode c_TG_same 1 = .ok (.iload_n 1, 1) := by decide +kernel
theorem d_TG_same_2 : decode c_TG_same 2 = .ok (.invokevirtual 42, 3) := by decide +kernel
theorem d_TG_same_5 : decode c_TG_same 5 = .ok (.ifCond .eq 11, 3) := by decide +kernel
theorem d_TG_same_8 : decode c_TG_same 8 = .ok (.aload_n 0, 1) := by decide +kernel
theorem d_TG_same_9 : decode c_TG_same 9 = .ok (.iload_n 2, 1) := by decide +kernel
theorem d_TG_same_10 : decode c_TG_same 10 = .ok (.invokevirtual 42, 3) := by decide +kernel
theorem d_TG_same_13 : decode c_TG_same 13 = .ok (.ifCond .ne 5, 3) := by decide +kernel
theorem d_TG_same_16 : decode c_TG_same 16 = .ok (.iconst 0, 1) := by decide +kernel
theorem d_TG_same_17 : decode c_TG_same 17 = .ok (.ireturn, 1) := by decide +kernel
theorem d_TG_same_18 : decode c_TG_same 18 = .ok (.aload_n 0, 1) := by decide +kernel
theorem d_TG_same_19 : decode c_TG_same 19 = .ok (.getfield 15, 3) := by decide +kernel
theorem d_TG_same_22 : decode c_TG_same 22 = .ok (.iload_n 1, 1) := by decide +kernel
theorem d_TG_same_23 : decode c_TG_same 23 = .ok (.aaload, 1) := by decide +kernel
theorem d_TG_same_24 : decode c_TG_same 24 = .ok (.astore 5, 2) := by decide +kernel
theorem d_TG_same_26 : decode c_TG_same 26 = .ok (.aload 5, 2) := by decide +kernel
theorem d_TG_same_28 : decode c_TG_same 28 = .ok (.instanceof 97, 3) := by decide +kernel
theorem d_TG_same_31 : decode c_TG_same 31 = .ok (.ifCond .eq 50, 3) := by decide +kernel
theorem d_TG_same_34 : decode c_TG_same 34 = .ok (.aload 5, 2) := by decide +kernel
theorem d_TG_same_36 : decode c_TG_same 36 = .ok (.checkcast 97, 3) := by decide +kernel
theorem d_TG_same_39 : decode c_TG_same 39 = .ok (.astore_n 3, 1) := by decide +kernel
theorem d_TG_same_40 : decode c_TG_same 40 = .ok (.aload_n 0, 1) := by decide +kernel
theorem d_TG_same_41 : decode c_TG_same 41 = .ok (.getfield 15, 3) := by decide +kernel
theorem d_TG_same_44 : decode c_TG_same 44 = .ok (.iload_n 2, 1) := by decide +kernel
theorem d_TG_same_45 : decode c_TG_same 45 = .ok (.aaload, 1) := by decide +kernel
theorem d_TG_same_46 : decode c_TG_same 46 = .ok (.astore 5, 2) := by decide +kernel
theorem d_TG_same_48 : decode c_TG_same 48 = .ok (.aload 5, 2) := by decide +kernel
theorem d_TG_same_50 : decode c_TG_same 50 = .ok (.instanceof 97, 3) := by decide +kernel
theorem d_TG_same_53 : decode c_TG_same 53 = .ok (.ifCond .eq 28, 3) := by decide +kernel
theorem d_TG_same_56 : decode c_TG_same 56 = .ok (.aload 5, 2) := by decide +kernel
theorem d_TG_same_58 : decode c_TG_same 58 = .ok (.checkcast 97, 3) := by decide +kernel
theorem d_TG_same_61 : decode c_TG_same 61 = .ok (.astore 4, 2) := by decide +kernel
theorem d_TG_same_63 : decode c_TG_same 63 = .ok (.aload_n 3, 1) := by decide +kernel
theorem d_TG_same_64 : decode c_TG_same 64 = .ok (.getfield 106, 3) := by decide +kernel
theorem d_TG_same_67 : decode c_TG_same 67 = .ok (.aload 4, 2) := by decide +kernel
theorem d_TG_same_69 : decode c_TG_same 69 = .ok (.getfield 106, 3) := by decide +kernel
theorem d_TG_same_72 : decode c_TG_same 72 = .ok (.if_icmp .ne 7, 3) := by decide +kernel
theorem d_TG_same_75 : decode c_TG_same 75 = .ok (.iconst 1, 1) := by decide +kernel
theorem d_TG_same_76 : decode c_TG_same 76 = .ok (.goto 4, 3) := by decide +kernel
theorem d_TG_same_79 : decode c_TG_same 79 = .ok (.iconst 0, 1) := by decide +kernel
theorem d_TG_same_80 : decode c_TG_same 80 = .ok (.ireturn, 1) := by decide +kernel
theorem d_TG_same_81 : decode c_TG_same 81 = .ok (.aload_n 0, 1) := by decide +kernel
theorem d_TG_same_82 : decode c_TG_same 82 = .ok (.getfield 15, 3) := by decide +kernel
theorem d_TG_same_85 : decode c_TG_same 85 = .ok (.iload_n 1, 1) := by decide +kernel
theorem d_TG_same_86 : decode c_TG_same 86 = .ok (.aaload, 1) := by decide +kernel
theorem d_TG_same_87 : decode c_TG_same 87 = .ok (.aload_n 0, 1) := by decide +kernel
theorem d_TG_same_88 : decode c_TG_same 88 = .ok (.getfield 15, 3) := by decide +kernel
theorem d_TG_same_91 : decode c_TG_same 91 = .ok (.iload_n 2, 1) := by decide +kernel
theorem d_TG_same_92 : decode c_TG_same 92 = .ok (.aaload, 1) := by decide +kernel
theorem d_TG_same_93 : decode c_TG_same 93 = .ok (.if_acmp .ne 7, 3) := by decide +kernel
theorem d_TG_same_96 : decode c_TG_same 96 = .ok (.iconst 1, 1) := by decide +kernel
theorem d_TG_same_97 : decode c_TG_same 97 = .ok (.goto 4, 3) := by decide +kernel
theorem d_TG_same_100 : decode c_TG_same 100 = .ok (.iconst 0, 1) := by decide +kernel
theorem d_TG_same_101 : decode c_TG_same 101 = .ok (.ireturn, 1) := by decide +kernel
abbrev c_TG_generation : ByteArray := prog_1_method_14_code
abbrev y_TG_generation : MethodName := ⟨"TwoGenerations", "generation", "(I)I"⟩
abbrev h_TG_generation : Cond := .code y_TG_generation c_TG_generation 3 (some .int)
theorem d_TG_generation_0 : decode c_TG_generation 0 = .ok (.aload_n 0, 1) := by decide +kernel
theorem d_TG_generation_1 : decode c_TG_generation 1 = .ok (.iload_n 1, 1) := by decide +kernel
theorem d_TG_generation_2 : decode c_TG_generation 2 = .ok (.invokevirtual 60, 3) := by decide +kernel
theorem d_TG_generation_5 : decode c_TG_generation 5 = .ok (.astore_n 2, 1) := by decide +kernel
theorem d_TG_generation_6 : decode c_TG_generation 6 = .ok (.aload_n 2, 1) := by decide +kernel
theorem d_TG_generation_7 : decode c_TG_generation 7 = .ok (.ifnonnull 5, 3) := by decide +kernel
theorem d_TG_generation_10 : decode c_TG_generation 10 = .ok (.iconst (-1), 1) := by decide +kernel
theorem d_TG_generation_11 : decode c_TG_generation 11 = .ok (.ireturn, 1) := by decide +kernel
theorem d_TG_generation_12 : decode c_TG_generation 12 = .ok (.aload_n 2, 1) := by decide +kernel
theorem d_TG_generation_13 : decode c_TG_generation 13 = .ok (.getfield 109, 3) := by decide +kernel
theorem d_TG_generation_16 : decode c_TG_generation 16 = .ok (.ifCond .eq 7, 3) := by decide +kernel
theorem d_TG_generation_19 : decode c_TG_generation 19 = .ok (.iconst 1, 1) := by decide +kernel
theorem d_TG_generation_20 : decode c_TG_generation 20 = .ok (.goto 4, 3) := by decide +kernel
theorem d_TG_generation_23 : decode c_TG_generation 23 = .ok (.iconst 0, 1) := by decide +kernel
theorem d_TG_generation_24 : decode c_TG_generation 24 = .ok (.ireturn, 1) := by decide +kernel
abbrev c_TG_thingIn : ByteArray := prog_1_method_23_code
abbrev y_TG_thingIn : MethodName := ⟨"TwoGenerations", "thingIn", "(I)LTwoGenerations$Thing;"⟩
abbrev h_TG_thingIn : Cond := .code y_TG_thingIn c_TG_thingIn 4 (some (.object "TwoGenerations$Thing"))
theorem d_TG_thingIn_0 : decode c_TG_thingIn 0 = .ok (.aload_n 0, 1) := by decide +kernel
theorem d_TG_thingIn_1 : decode c_TG_thingIn 1 = .ok (.iload_n 1, 1) := by decide +kernel
theorem d_TG_thingIn_2 : decode c_TG_thingIn 2 = .ok (.invokevirtual 102, 3) := by decide +kernel
theorem d_TG_thingIn_5 : decode c_TG_thingIn 5 = .ok (.astore_n 3, 1) := by decide +kernel
theorem d_TG_thingIn_6 : decode c_TG_thingIn 6 = .ok (.aload_n 3, 1) := by decide +kernel
theorem d_TG_thingIn_7 : decode c_TG_thingIn 7 = .ok (.instanceof 110, 3) := by decide +kernel
theorem d_TG_thingIn_10 : decode c_TG_thingIn 10 = .ok (.ifCond .eq 12, 3) := by decide +kernel
theorem d_TG_thingIn_13 : decode c_TG_thingIn 13 = .ok (.aload_n 3, 1) := by decide +kernel
theorem d_TG_thingIn_14 : decode c_TG_thingIn 14 = .ok (.checkcast 110, 3) := by decide +kernel
theorem d_TG_thingIn_17 : decode c_TG_thingIn 17 = .ok (.astore_n 2, 1) := by decide +kernel
theorem d_TG_thingIn_18 : decode c_TG_thingIn 18 = .ok (.aload_n 2, 1) := by decide +kernel
theorem d_TG_thingIn_19 : decode c_TG_thingIn 19 = .ok (.goto 4, 3) := by decide +kernel
theorem d_TG_thingIn_22 : decode c_TG_thingIn 22 = .ok (.aconst_null, 1) := by decide +kernel
theorem d_TG_thingIn_23 : decode c_TG_thingIn 23 = .ok (.areturn, 1) := by decide +kernel
abbrev c_TG_reach : ByteArray := prog_1_method_15_code
abbrev y_TG_reach : MethodName := ⟨"TwoGenerations", "reach", "(I)I"⟩
abbrev h_TG_reach : Cond := .code y_TG_reach c_TG_reach 2 (some .int)
theorem d_TG_reach_0 : decode c_TG_reach 0 = .ok (.aload_n 0, 1) := by decide +kernel
theorem d_TG_reach_1 : decode c_TG_reach 1 = .ok (.getfield 38, 3) := by decide +kernel
theorem d_TG_reach_4 : decode c_TG_reach 4 = .ok (.invokevirtual 115, 3) := by decide +kernel
theorem d_TG_reach_7 : decode c_TG_reach 7 = .ok (.aload_n 0, 1) := by decide +kernel
theorem d_TG_reach_8 : decode c_TG_reach 8 = .ok (.getfield 38, 3) := by decide +kernel
theorem d_TG_reach_11 : decode c_TG_reach 11 = .ok (.aload_n 0, 1) := by decide +kernel
theorem d_TG_reach_12 : decode c_TG_reach 12 = .ok (.iload_n 1, 1) := by decide +kernel
theorem d_TG_reach_13 : decode c_TG_reach 13 = .ok (.invokevirtual 102, 3) := by decide +kernel
theorem d_TG_reach_16 : decode c_TG_reach 16 = .ok (.invokevirtual 118, 3) := by decide +kernel
theorem d_TG_reach_19 : decode c_TG_reach 19 = .ok (.aload_n 0, 1) := by decide +kernel
theorem d_TG_reach_20 : decode c_TG_reach 20 = .ok (.getfield 38, 3) := by decide +kernel
theorem d_TG_reach_23 : decode c_TG_reach 23 = .ok (.invokevirtual 122, 3) := by decide +kernel
theorem d_TG_reach_26 : decode c_TG_reach 26 = .ok (.aload_n 0, 1) := by decide +kernel
theorem d_TG_reach_27 : decode c_TG_reach 27 = .ok (.getfield 38, 3) := by decide +kernel
theorem d_TG_reach_30 : decode c_TG_reach 30 = .ok (.getfield 125, 3) := by decide +kernel
theorem d_TG_reach_33 : decode c_TG_reach 33 = .ok (.ireturn, 1) := by decide +kernel
abbrev c_Tr_restart : ByteArray := prog_5_method_2_code
abbrev y_Tr_restart : MethodName := ⟨"TwoGenerations$Trace", "restart", "()V"⟩
abbrev h_Tr_restart : Cond := .code y_Tr_restart c_Tr_restart 3 none
theorem d_Tr_restart_0 : decode c_Tr_restart 0 = .ok (.iconst 0, 1) := by decide +kernel
theorem d_Tr_restart_1 : decode c_Tr_restart 1 = .ok (.istore_n 1, 1) := by decide +kernel
theorem d_Tr_restart_2 : decode c_Tr_restart 2 = .ok (.iload_n 1, 1) := by decide +kernel
theorem d_Tr_restart_3 : decode c_Tr_restart 3 = .ok (.aload_n 0, 1) := by decide +kernel
theorem d_Tr_restart_4 : decode c_Tr_restart 4 = .ok (.getfield 15, 3) := by decide +kernel
theorem d_Tr_restart_7 : decode c_Tr_restart 7 = .ok (.if_icmp .ge 25, 3) := by decide +kernel
theorem d_Tr_restart_10 : decode c_Tr_restart 10 = .ok (.aload_n 0, 1) := by decide +kernel
theorem d_Tr_restart_11 : decode c_Tr_restart 11 = .ok (.getfield 9, 3) := by decide +kernel
theorem d_Tr_restart_14 : decode c_Tr_restart 14 = .ok (.iload_n 1, 1) := by decide +kernel
theorem d_Tr_restart_15 : decode c_Tr_restart 15 = .ok (.aaload, 1) := by decide +kernel
theorem d_Tr_restart_16 : decode c_Tr_restart 16 = .ok (.astore_n 2, 1) := by decide +kernel
theorem d_Tr_restart_17 : decode c_Tr_restart 17 = .ok (.aload_n 2, 1) := by decide +kernel
theorem d_Tr_restart_18 : decode c_Tr_restart 18 = .ok (.ifnull 8, 3) := by decide +kernel
theorem d_Tr_restart_21 : decode c_Tr_restart 21 = .ok (.aload_n 2, 1) := by decide +kernel
theorem d_Tr_restart_22 : decode c_Tr_restart 22 = .ok (.iconst 0, 1) := by decide +kernel
theorem d_Tr_restart_23 : decode c_Tr_restart 23 = .ok (.putfield 19, 3) := by decide +kernel
theorem d_Tr_restart_26 : decode c_Tr_restart 26 = .ok (.iinc 1 1, 3) := by decide +kernel
theorem d_Tr_restart_29 : decode c_Tr_restart 29 = .ok (.goto (-27), 3) := by decide +kernel
theorem d_Tr_restart_32 : decode c_Tr_restart 32 = .ok (.aload_n 0, 1) := by decide +kernel
theorem d_Tr_restart_33 : decode c_Tr_restart 33 = .ok (.iconst 0, 1) := by decide +kernel
theorem d_Tr_restart_34 : decode c_Tr_restart 34 = .ok (.putfield 15, 3) := by decide +kernel
theorem d_Tr_restart_37 : decode c_Tr_restart 37 = .ok (.aload_n 0, 1) := by decide +kernel
theorem d_Tr_restart_38 : decode c_Tr_restart 38 = .ok (.iconst 0, 1) := by decide +kernel
theorem d_Tr_restart_39 : decode c_Tr_restart 39 = .ok (.putfield 23, 3) := by decide +kernel
theorem d_Tr_restart_42 : decode c_Tr_restart 42 = .ok (.return_, 1) := by decide +kernel
abbrev c_Tr_find : ByteArray := prog_5_method_3_code
abbrev y_Tr_find : MethodName := ⟨"TwoGenerations$Trace", "find", "(LTwoGenerations$Value;)V"⟩
abbrev h_Tr_find : Cond := .code y_Tr_find c_Tr_find 3 none
theorem d_Tr_find_0 : decode c_Tr_find 0 = .ok (.aload_n 1, 1) := by decide +kernel
theorem d_Tr_find_1 : decode c_Tr_find 1 = .ok (.instanceof 7, 3) := by decide +kernel
theorem d_Tr_find_4 : decode c_Tr_find 4 = .ok (.ifCond .eq 65, 3) := by decide +kernel
theorem d_Tr_find_7 : decode c_Tr_find 7 = .ok (.aload_n 1, 1) := by decide +kernel
theorem d_Tr_find_8 : decode c_Tr_find 8 = .ok (.checkcast 7, 3) := by decide +kernel
theorem d_Tr_find_11 : decode c_Tr_find 11 = .ok (.astore_n 2, 1) := by decide +kernel
theorem d_Tr_find_12 : decode c_Tr_find 12 = .ok (.aload_n 2, 1) := by decide +kernel
theorem d_Tr_find_13 : decode c_Tr_find 13 = .ok (.getfield 19, 3) := by decide +kernel
theorem d_Tr_find_16 : decode c_Tr_find 16 = .ok (.ifCond .ne 53, 3) := by decide +kernel
theorem d_Tr_find_19 : decode c_Tr_find 19 = .ok (.aload_n 0, 1) := by decide +kernel
theorem d_Tr_find_20 : decode c_Tr_find 20 = .ok (.getfield 15, 3) := by decide +kernel
theorem d_Tr_find_23 : decode c_Tr_find 23 = .ok (.aload_n 0, 1) := by decide +kernel
theorem d_Tr_find_24 : decode c_Tr_find 24 = .ok (.getfield 9, 3) := by decide +kernel
theorem d_Tr_find_27 : decode c_Tr_find 27 = .ok (.arraylength, 1) := by decide +kernel
theorem d_Tr_find_28 : decode c_Tr_find 28 = .ok (.if_icmp .ge 41, 3) := by decide +kernel
theorem d_Tr_find_31 : decode c_Tr_find 31 = .ok (.aload_n 2, 1) := by decide +kernel
theorem d_Tr_find_32 : decode c_Tr_find 32 = .ok (.iconst 1, 1) := by decide +kernel
theorem d_Tr_find_33 : decode c_Tr_find 33 = .ok (.putfield 19, 3) := by decide +kernel
theorem d_Tr_find_36 : decode c_Tr_find 36 = .ok (.aload_n 0, 1) := by decide +kernel
theorem d_Tr_find_37 : decode c_Tr_find 37 = .ok (.getfield 9, 3) := by decide +kernel
theorem d_Tr_find_40 : decode c_Tr_find 40 = .ok (.aload_n 0, 1) := by decide +kernel
theorem d_Tr_find_41 : decode c_Tr_find 41 = .ok (.getfield 15, 3) := by decide +kernel
theorem d_Tr_find_44 : decode c_Tr_find 44 = .ok (.aload_n 2, 1) := by decide +kernel
theorem d_Tr_find_45 : decode c_Tr_find 45 = .ok (.aastore, 1) := by decide +kernel
theorem d_Tr_find_46 : decode c_Tr_find 46 = .ok (.aload_n 0, 1) := by decide +kernel
theorem d_Tr_find_47 : decode c_Tr_find 47 = .ok (.dup, 1) := by decide +kernel
theorem d_Tr_find_48 : decode c_Tr_find 48 = .ok (.getfield 15, 3) := by decide +kernel
theorem d_Tr_find_51 : decode c_Tr_find 51 = .ok (.iconst 1, 1) := by decide +kernel
theorem d_Tr_find_52 : decode c_Tr_find 52 = .ok (.iadd, 1) := by decide +kernel
theorem d_Tr_find_53 : decode c_Tr_find 53 = .ok (.putfield 15, 3) := by decide +kernel
theorem d_Tr_find_56 : decode c_Tr_find 56 = .ok (.aload_n 0, 1) := by decide +kernel
theorem d_Tr_find_57 : decode c_Tr_find 57 = .ok (.dup, 1) := by decide +kernel
theorem d_Tr_find_58 : decode c_Tr_find 58 = .ok (.getfield 23, 3) := by decide +kernel
theorem d_Tr_find_61 : decode c_Tr_find 61 = .ok (.aload_n 2, 1) := by decide +kernel
theorem d_Tr_find_62 : decode c_Tr_find 62 = .ok (.getfield 26, 3) := by decide +kernel
theorem d_Tr_find_65 : decode c_Tr_find 65 = .ok (.iadd, 1) := by decide +kernel
theorem d_Tr_find_66 : decode c_Tr_find 66 = .ok (.putfield 23, 3) := by decide +kernel
theorem d_Tr_find_69 : decode c_Tr_find 69 = .ok (.return_, 1) := by decide +kernel
abbrev c_Tr_follow : ByteArray := prog_5_method_5_code
abbrev y_Tr_follow : MethodName := ⟨"TwoGenerations$Trace", "follow", "()V"⟩
abbrev h_Tr_follow : Cond := .code y_Tr_follow c_Tr_follow 4 none
theorem d_Tr_follow_0 : decode c_Tr_follow 0 = .ok (.iconst 0, 1) := by decide +kernel
theorem d_Tr_follow_1 : decode c_Tr_follow 1 = .ok (.istore_n 1, 1) := by decide +kernel
theorem d_Tr_follow_2 : decode c_Tr_follow 2 = .ok (.iload_n 1, 1) := by decide +kernel
theorem d_Tr_follow_3 : decode c_Tr_follow 3 = .ok (.aload_n 0, 1) := by decide +kernel
theorem d_Tr_follow_4 : decode c_Tr_follow 4 = .ok (.getfield 9, 3) := by decide +kernel
theorem d_Tr_follow_7 : decode c_Tr_follow 7 = .ok (.arraylength, 1) := by decide +kernel
theorem d_Tr_follow_8 : decode c_Tr_follow 8 = .ok (.if_icmp .ge 41, 3) := by decide +kernel
theorem d_Tr_follow_11 : decode c_Tr_follow 11 = .ok (.iload_n 1, 1) := by decide +kernel
theorem d_Tr_follow_12 : decode c_Tr_follow 12 = .ok (.aload_n 0, 1) := by decide +kernel
theorem d_Tr_follow_13 : decode c_Tr_follow 13 = .ok (.getfield 15, 3) := by decide +kernel
theorem d_Tr_follow_16 : decode c_Tr_follow 16 = .ok (.if_icmp .ge 33, 3) := by decide +kernel
theorem d_Tr_follow_19 : decode c_Tr_follow 19 = .ok (.aload_n 0, 1) := by decide +kernel
theorem d_Tr_follow_20 : decode c_Tr_follow 20 = .ok (.getfield 9, 3) := by decide +kernel
theorem d_Tr_follow_23 : decode c_Tr_follow 23 = .ok (.iload_n 1, 1) := by decide +kernel
theorem d_Tr_follow_24 : decode c_Tr_follow 24 = .ok (.aaload, 1) := by decide +kernel
theorem d_Tr_follow_25 : decode c_Tr_follow 25 = .ok (.astore_n 3, 1) := by decide +kernel
theorem d_Tr_follow_26 : decode c_Tr_follow 26 = .ok (.aload_n 3, 1) := by decide +kernel
theorem d_Tr_follow_27 : decode c_Tr_follow 27 = .ok (.instanceof 39, 3) := by decide +kernel
theorem d_Tr_follow_30 : decode c_Tr_follow 30 = .ok (.ifCond .eq 13, 3) := by decide +kernel
theorem d_Tr_follow_33 : decode c_Tr_follow 33 = .ok (.aload_n 3, 1) := by decide +kernel
theorem d_Tr_follow_34 : decode c_Tr_follow 34 = .ok (.checkcast 39, 3) := by decide +kernel
theorem d_Tr_follow_37 : decode c_Tr_follow 37 = .ok (.astore_n 2, 1) := by decide +kernel
theorem d_Tr_follow_38 : decode c_Tr_follow 38 = .ok (.aload_n 0, 1) := by decide +kernel
theorem d_Tr_follow_39 : decode c_Tr_follow 39 = .ok (.aload_n 2, 1) := by decide +kernel
theorem d_Tr_follow_40 : decode c_Tr_follow 40 = .ok (.invokevirtual 41, 3) := by decide +kernel
theorem d_Tr_follow_43 : decode c_Tr_follow 43 = .ok (.iinc 1 1, 3) := by decide +kernel
theorem d_Tr_follow_46 : decode c_Tr_follow 46 = .ok (.goto (-44), 3) := by decide +kernel
theorem d_Tr_follow_49 : decode c_Tr_follow 49 = .ok (.return_, 1) := by decide +kernel
abbrev c_Tr_findContents : ByteArray := prog_5_method_6_code
abbrev y_Tr_findContents : MethodName := ⟨"TwoGenerations$Trace", "findContents", "(LTwoGenerations$Plain;)V"⟩
abbrev h_Tr_findContents : Cond := .code y_Tr_findContents c_Tr_findContents 3 none
theorem d_Tr_findContents_0 : decode c_Tr_findContents 0 = .ok (.iconst 0, 1) := by decide +kernel
theorem d_Tr_findContents_1 : decode c_Tr_findContents 1 = .ok (.istore_n 2, 1) := by decide +kernel
theorem d_Tr_findContents_2 : decode c_Tr_findContents 2 = .ok (.iload_n 2, 1) := by decide +kernel
theorem d_Tr_findContents_3 : decode c_Tr_findContents 3 = .ok (.aload_n 1, 1) := by decide +kernel
theorem d_Tr_findContents_4 : decode c_Tr_findContents 4 = .ok (.getfield 45, 3) := by decide +kernel
theorem d_Tr_findContents_7 : decode c_Tr_findContents 7 = .ok (.arraylength, 1) := by decide +kernel
theorem d_Tr_findContents_8 : decode c_Tr_findContents 8 = .ok (.if_icmp .ge 19, 3) := by decide +kernel
theorem d_Tr_findContents_11 : decode c_Tr_findContents 11 = .ok (.aload_n 0, 1) := by decide +kernel
theorem d_Tr_findContents_12 : decode c_Tr_findContents 12 = .ok (.aload_n 1, 1) := by decide +kernel
theorem d_Tr_findContents_13 : decode c_Tr_findContents 13 = .ok (.getfield 45, 3) := by decide +kernel
theorem d_Tr_findContents_16 : decode c_Tr_findContents 16 = .ok (.iload_n 2, 1) := by decide +kernel
theorem d_Tr_findContents_17 : decode c_Tr_findContents 17 = .ok (.aaload, 1) := by decide +kernel
theorem d_Tr_findContents_18 : decode c_Tr_findContents 18 = .ok (.invokevirtual 35, 3) := by decide +kernel
theorem d_Tr_findContents_21 : decode c_Tr_findContents 21 = .ok (.iinc 2 1, 3) := by decide +kernel
theorem d_Tr_findContents_24 : decode c_Tr_findContents 24 = .ok (.goto (-22), 3) := by decide +kernel
theorem d_Tr_findContents_27 : decode c_Tr_findContents 27 = .ok (.return_, 1) := by decide +kernel
abbrev c_TG_great : ByteArray := prog_1_method_17_code
abbrev y_TG_great : MethodName := ⟨"TwoGenerations", "great", "()I"⟩
abbrev h_TG_great : Cond := .code y_TG_great c_TG_great 1 (some .int)
theorem d_TG_great_0 : decode c_TG_great 0 = .ok (.aload_n 0, 1) := by decide +kernel
theorem d_TG_great_1 : decode c_TG_great 1 = .ok (.invokevirtual 137, 3) := by decide +kernel
theorem d_TG_great_4 : decode c_TG_great 4 = .ok (.ireturn, 1) := by decide +kernel
abbrev c_TG_collectOld : ByteArray := prog_1_method_28_code
abbrev y_TG_collectOld : MethodName := ⟨"TwoGenerations", "collectOld", "()I"⟩
abbrev h_TG_collectOld : Cond := .code y_TG_collectOld c_TG_collectOld 2 (some .int)
theorem d_TG_collectOld_0 : decode c_TG_collectOld 0 = .ok (.aload_n 0, 1) := by decide +kernel
theorem d_TG_collectOld_1 : decode c_TG_collectOld 1 = .ok (.getfield 38, 3) := by decide +kernel
theorem d_TG_collectOld_4 : decode c_TG_collectOld 4 = .ok (.invokevirtual 115, 3) := by decide +kernel
theorem d_TG_collectOld_7 : decode c_TG_collectOld 7 = .ok (.aload_n 0, 1) := by decide +kernel
theorem d_TG_collectOld_8 : decode c_TG_collectOld 8 = .ok (.invokevirtual 158, 3) := by decide +kernel
theorem d_TG_collectOld_11 : decode c_TG_collectOld 11 = .ok (.aload_n 0, 1) := by decide +kernel
theorem d_TG_collectOld_12 : decode c_TG_collectOld 12 = .ok (.getfield 38, 3) := by decide +kernel
theorem d_TG_collectOld_15 : decode c_TG_collectOld 15 = .ok (.invokevirtual 122, 3) := by decide +kernel
theorem d_TG_collectOld_18 : decode c_TG_collectOld 18 = .ok (.aload_n 0, 1) := by decide +kernel
theorem d_TG_collectOld_19 : decode c_TG_collectOld 19 = .ok (.getfield 24, 3) := by decide +kernel
theorem d_TG_collectOld_22 : decode c_TG_collectOld 22 = .ok (.invokevirtual 168, 3) := by decide +kernel
theorem d_TG_collectOld_25 : decode c_TG_collectOld 25 = .ok (.aload_n 0, 1) := by decide +kernel
theorem d_TG_collectOld_26 : decode c_TG_collectOld 26 = .ok (.getfield 28, 3) := by decide +kernel
theorem d_TG_collectOld_29 : decode c_TG_collectOld 29 = .ok (.invokevirtual 168, 3) := by decide +kernel
theorem d_TG_collectOld_32 : decode c_TG_collectOld 32 = .ok (.aload_n 0, 1) := by decide +kernel
theorem d_TG_collectOld_33 : decode c_TG_collectOld 33 = .ok (.getfield 28, 3) := by decide +kernel
theorem d_TG_collectOld_36 : decode c_TG_collectOld 36 = .ok (.getfield 140, 3) := by decide +kernel
theorem d_TG_collectOld_39 : decode c_TG_collectOld 39 = .ok (.istore_n 1, 1) := by decide +kernel
theorem d_TG_collectOld_40 : decode c_TG_collectOld 40 = .ok (.aload_n 0, 1) := by decide +kernel
theorem d_TG_collectOld_41 : decode c_TG_collectOld 41 = .ok (.getfield 28, 3) := by decide +kernel
theorem d_TG_collectOld_44 : decode c_TG_collectOld 44 = .ok (.invokevirtual 177, 3) := by decide +kernel
theorem d_TG_collectOld_47 : decode c_TG_collectOld 47 = .ok (.aload_n 0, 1) := by decide +kernel
theorem d_TG_collectOld_48 : decode c_TG_collectOld 48 = .ok (.dup, 1) := by decide +kernel
theorem d_TG_collectOld_49 : decode c_TG_collectOld 49 = .ok (.getfield 146, 3) := by decide +kernel
theorem d_TG_collectOld_52 : decode c_TG_collectOld 52 = .ok (.iconst 1, 1) := by decide +kernel
theorem d_TG_collectOld_53 : decode c_TG_collectOld 53 = .ok (.iadd, 1) := by decide +kernel
theorem d_TG_collectOld_54 : decode c_TG_collectOld 54 = .ok (.putfield 146, 3) := by decide +kernel
theorem d_TG_collectOld_57 : decode c_TG_collectOld 57 = .ok (.iload_n 1, 1) := by decide +kernel
theorem d_TG_collectOld_58 : decode c_TG_collectOld 58 = .ok (.aload_n 0, 1) := by decide +kernel
theorem d_TG_collectOld_59 : decode c_TG_collectOld 59 = .ok (.getfield 28, 3) := by decide +kernel
theorem d_TG_collectOld_62 : decode c_TG_collectOld 62 = .ok (.getfield 140, 3) := by decide +kernel
theorem d_TG_collectOld_65 : decode c_TG_collectOld 65 = .ok (.isub, 1) := by decide +kernel
theorem d_TG_collectOld_66 : decode c_TG_collectOld 66 = .ok (.ireturn, 1) := by decide +kernel
abbrev c_TG_findRegisters : ByteArray := prog_1_method_29_code
abbrev y_TG_findRegisters : MethodName := ⟨"TwoGenerations", "findRegisters", "()V"⟩
abbrev h_TG_findRegisters : Cond := .code y_TG_findRegisters c_TG_findRegisters 2 none
theorem d_TG_findRegisters_0 : decode c_TG_findRegisters 0 = .ok (.iconst 0, 1) := by decide +kernel
theorem d_TG_findRegisters_1 : decode c_TG_findRegisters 1 = .ok (.istore_n 1, 1) := by decide +kernel
theorem d_TG_findRegisters_2 : decode c_TG_findRegisters 2 = .ok (.iload_n 1, 1) := by decide +kernel
theorem d_TG_findRegisters_3 : decode c_TG_findRegisters 3 = .ok (.aload_n 0, 1) := by decide +kernel
theorem d_TG_findRegisters_4 : decode c_TG_findRegisters 4 = .ok (.getfield 15, 3) := by decide +kernel
theorem d_TG_findRegisters_7 : decode c_TG_findRegisters 7 = .ok (.arraylength, 1) := by decide +kernel
theorem d_TG_findRegisters_8 : decode c_TG_findRegisters 8 = .ok (.if_icmp .ge 22, 3) := by decide +kernel
theorem d_TG_findRegisters_11 : decode c_TG_findRegisters 11 = .ok (.aload_n 0, 1) := by decide +kernel
theorem d_TG_findRegisters_12 : decode c_TG_findRegisters 12 = .ok (.getfield 38, 3) := by decide +kernel
theorem d_TG_findRegisters_15 : decode c_TG_findRegisters 15 = .ok (.aload_n 0, 1) := by decide +kernel
theorem d_TG_findRegisters_16 : decode c_TG_findRegisters 16 = .ok (.getfield 15, 3) := by decide +kernel
theorem d_TG_findRegisters_19 : decode c_TG_findRegisters 19 = .ok (.iload_n 1, 1) := by decide +kernel
theorem d_TG_findRegisters_20 : decode c_TG_findRegisters 20 = .ok (.aaload, 1) := by decide +kernel
theorem d_TG_findRegisters_21 : decode c_TG_findRegisters 21 = .ok (.invokevirtual 118, 3) := by decide +kernel
theorem d_TG_findRegisters_24 : decode c_TG_findRegisters 24 = .ok (.iinc 1 1, 3) := by decide +kernel
theorem d_TG_findRegisters_27 : decode c_TG_findRegisters 27 = .ok (.goto (-25), 3) := by decide +kernel
theorem d_TG_findRegisters_30 : decode c_TG_findRegisters 30 = .ok (.return_, 1) := by decide +kernel
abbrev c_Gen_cutTargets : ByteArray := prog_2_method_6_code
abbrev y_Gen_cutTargets : MethodName := ⟨"TwoGenerations$Generation", "cutTargets", "()V"⟩
abbrev h_Gen_cutTargets : Cond := .code y_Gen_cutTargets c_Gen_cutTargets 4 none
theorem d_Gen_cutTargets_0 : decode c_Gen_cutTargets 0 = .ok (.iconst 0, 1) := by decide +kernel
theorem d_Gen_cutTargets_1 : decode c_Gen_cutTargets 1 = .ok (.istore_n 1, 1) := by decide +kernel
theorem d_Gen_cutTargets_2 : decode c_Gen_cutTargets 2 = .ok (.iload_n 1, 1) := by decide +kernel
theorem d_Gen_cutTargets_3 : decode c_Gen_cutTargets 3 = .ok (.aload_n 0, 1) := by decide +kernel
theorem d_Gen_cutTargets_4 : decode c_Gen_cutTargets 4 = .ok (.getfield 22, 3) := by decide +kernel
theorem d_Gen_cutTargets_7 : decode c_Gen_cutTargets 7 = .ok (.if_icmp .ge 32, 3) := by decide +kernel
theorem d_Gen_cutTargets_10 : decode c_Gen_cutTargets 10 = .ok (.aload_n 0, 1) := by decide +kernel
theorem d_Gen_cutTargets_11 : decode c_Gen_cutTargets 11 = .ok (.getfield 15, 3) := by decide +kernel
theorem d_Gen_cutTargets_14 : decode c_Gen_cutTargets 14 = .ok (.iload_n 1, 1) := by decide +kernel
theorem d_Gen_cutTargets_15 : decode c_Gen_cutTargets 15 = .ok (.aaload, 1) := by decide +kernel
theorem d_Gen_cutTargets_16 : decode c_Gen_cutTargets 16 = .ok (.astore_n 3, 1) := by decide +kernel
theorem d_Gen_cutTargets_17 : decode c_Gen_cutTargets 17 = .ok (.aload_n 3, 1) := by decide +kernel
theorem d_Gen_cutTargets_18 : decode c_Gen_cutTargets 18 = .ok (.instanceof 32, 3) := by decide +kernel
theorem d_Gen_cutTargets_21 : decode c_Gen_cutTargets 21 = .ok (.ifCond .eq 12, 3) := by decide +kernel
theorem d_Gen_cutTargets_24 : decode c_Gen_cutTargets 24 = .ok (.aload_n 3, 1) := by decide +kernel
theorem d_Gen_cutTargets_25 : decode c_Gen_cutTargets 25 = .ok (.checkcast 32, 3) := by decide +kernel
theorem d_Gen_cutTargets_28 : decode c_Gen_cutTargets 28 = .ok (.astore_n 2, 1) := by decide +kernel
theorem d_Gen_cutTargets_29 : decode c_Gen_cutTargets 29 = .ok (.aload_n 2, 1) := by decide +kernel
theorem d_Gen_cutTargets_30 : decode c_Gen_cutTargets 30 = .ok (.invokevirtual 34, 3) := by decide +kernel
theorem d_Gen_cutTargets_33 : decode c_Gen_cutTargets 33 = .ok (.iinc 1 1, 3) := by decide +kernel
theorem d_Gen_cutTargets_36 : decode c_Gen_cutTargets 36 = .ok (.goto (-34), 3) := by decide +kernel
theorem d_Gen_cutTargets_39 : decode c_Gen_cutTargets 39 = .ok (.return_, 1) := by decide +kernel
abbrev c_Wk_cutUnreachedTarget : ByteArray := prog_7_method_2_code
abbrev y_Wk_cutUnreachedTarget : MethodName := ⟨"TwoGenerations$Weak", "cutUnreachedTarget", "()V"⟩
abbrev h_Wk_cutUnreachedTarget : Cond := .code y_Wk_cutUnreachedTarget c_Wk_cutUnreachedTarget 1 none
theorem d_Wk_cutUnreachedTarget_0 : decode c_Wk_cutUnreachedTarget 0 = .ok (.aload_n 0, 1) := by decide +kernel
theorem d_Wk_cutUnreachedTarget_1 : decode c_Wk_cutUnreachedTarget 1 = .ok (.getfield 7, 3) := by decide +kernel
theorem d_Wk_cutUnreachedTarget_4 : decode c_Wk_cutUnreachedTarget 4 = .ok (.ifnull 18, 3) := by decide +kernel
theorem d_Wk_cutUnreachedTarget_7 : decode c_Wk_cutUnreachedTarget 7 = .ok (.aload_n 0, 1) := by decide +kernel
theorem d_Wk_cutUnreachedTarget_8 : decode c_Wk_cutUnreachedTarget 8 = .ok (.getfield 7, 3) := by decide +kernel
theorem d_Wk_cutUnreachedTarget_11 : decode c_Wk_cutUnreachedTarget 11 = .ok (.getfield 13, 3) := by decide +kernel
theorem d_Wk_cutUnreachedTarget_14 : decode c_Wk_cutUnreachedTarget 14 = .ok (.ifCond .ne 8, 3) := by decide +kernel
theorem d_Wk_cutUnreachedTarget_17 : decode c_Wk_cutUnreachedTarget 17 = .ok (.aload_n 0, 1) := by decide +kernel
theorem d_Wk_cutUnreachedTarget_18 : decode c_Wk_cutUnreachedTarget 18 = .ok (.aconst_null, 1) := by decide +kernel
theorem d_Wk_cutUnreachedTarget_19 : decode c_Wk_cutUnreachedTarget 19 = .ok (.putfield 7, 3) := by decide +kernel
theorem d_Wk_cutUnreachedTarget_22 : decode c_Wk_cutUnreachedTarget 22 = .ok (.return_, 1) := by decide +kernel
abbrev c_Gen_keepReached : ByteArray := prog_2_method_7_code
abbrev y_Gen_keepReached : MethodName := ⟨"TwoGenerations$Generation", "keepReached", "()V"⟩
abbrev h_Gen_keepReached : Cond := .code y_Gen_keepReached c_Gen_keepReached 4 none
theorem d_Gen_keepReached_0 : decode c_Gen_keepReached 0 = .ok (.aload_n 0, 1) := by decide +kernel
theorem d_Gen_keepReached_1 : decode c_Gen_keepReached 1 = .ok (.getfield 22, 3) := by decide +kernel
theorem d_Gen_keepReached_4 : decode c_Gen_keepReached 4 = .ok (.istore_n 1, 1) := by decide +kernel
theorem d_Gen_keepReached_5 : decode c_Gen_keepReached 5 = .ok (.aload_n 0, 1) := by decide +kernel
theorem d_Gen_keepReached_6 : decode c_Gen_keepReached 6 = .ok (.invokevirtual 37, 3) := by decide +kernel
theorem d_Gen_keepReached_9 : decode c_Gen_keepReached 9 = .ok (.iconst 0, 1) := by decide +kernel
theorem d_Gen_keepReached_10 : decode c_Gen_keepReached 10 = .ok (.istore_n 2, 1) := by decide +kernel
theorem d_Gen_keepReached_11 : decode c_Gen_keepReached 11 = .ok (.iload_n 2, 1) := by decide +kernel
theorem d_Gen_keepReached_12 : decode c_Gen_keepReached 12 = .ok (.iload_n 1, 1) := by decide +kernel
theorem d_Gen_keepReached_13 : decode c_Gen_keepReached 13 = .ok (.if_icmp .ge 32, 3) := by decide +kernel
theorem d_Gen_keepReached_16 : decode c_Gen_keepReached 16 = .ok (.aload_n 0, 1) := by decide +kernel
theorem d_Gen_keepReached_17 : decode c_Gen_keepReached 17 = .ok (.getfield 15, 3) := by decide +kernel
theorem d_Gen_keepReached_20 : decode c_Gen_keepReached 20 = .ok (.iload_n 2, 1) := by decide +kernel
theorem d_Gen_keepReached_21 : decode c_Gen_keepReached 21 = .ok (.aaload, 1) := by decide +kernel
theorem d_Gen_keepReached_22 : decode c_Gen_keepReached 22 = .ok (.astore_n 3, 1) := by decide +kernel
theorem d_Gen_keepReached_23 : decode c_Gen_keepReached 23 = .ok (.aload_n 3, 1) := by decide +kernel
theorem d_Gen_keepReached_24 : decode c_Gen_keepReached 24 = .ok (.ifnull 15, 3) := by decide +kernel
theorem d_Gen_keepReached_27 : decode c_Gen_keepReached 27 = .ok (.aload_n 3, 1) := by decide +kernel
theorem d_Gen_keepReached_28 : decode c_Gen_keepReached 28 = .ok (.getfield 28, 3) := by decide +kernel
theorem d_Gen_keepReached_31 : decode c_Gen_keepReached 31 = .ok (.ifCond .eq 8, 3) := by decide +kernel
theorem d_Gen_keepReached_34 : decode c_Gen_keepReached 34 = .ok (.aload_n 0, 1) := by decide +kernel
theorem d_Gen_keepReached_35 : decode c_Gen_keepReached 35 = .ok (.aload_n 3, 1) := by decide +kernel
theorem d_Gen_keepReached_36 : decode c_Gen_keepReached 36 = .ok (.invokevirtual 40, 3) := by decide +kernel
theorem d_Gen_keepReached_39 : decode c_Gen_keepReached 39 = .ok (.iinc 2 1, 3) := by decide +kernel
theorem d_Gen_keepReached_42 : decode c_Gen_keepReached 42 = .ok (.goto (-31), 3) := by decide +kernel
theorem d_Gen_keepReached_45 : decode c_Gen_keepReached 45 = .ok (.return_, 1) := by decide +kernel
abbrev c_Gen_empty : ByteArray := prog_2_method_4_code
abbrev y_Gen_empty : MethodName := ⟨"TwoGenerations$Generation", "empty", "()V"⟩
abbrev h_Gen_empty : Cond := .code y_Gen_empty c_Gen_empty 1 none
theorem d_Gen_empty_0 : decode c_Gen_empty 0 = .ok (.aload_n 0, 1) := by decide +kernel
theorem d_Gen_empty_1 : decode c_Gen_empty 1 = .ok (.iconst 0, 1) := by decide +kernel
theorem d_Gen_empty_2 : decode c_Gen_empty 2 = .ok (.putfield 22, 3) := by decide +kernel
theorem d_Gen_empty_5 : decode c_Gen_empty 5 = .ok (.aload_n 0, 1) := by decide +kernel
theorem d_Gen_empty_6 : decode c_Gen_empty 6 = .ok (.iconst 0, 1) := by decide +kernel
theorem d_Gen_empty_7 : decode c_Gen_empty 7 = .ok (.putfield 19, 3) := by decide +kernel
theorem d_Gen_empty_10 : decode c_Gen_empty 10 = .ok (.return_, 1) := by decide +kernel
abbrev c_Gen_add : ByteArray := prog_2_method_3_code
abbrev y_Gen_add : MethodName := ⟨"TwoGenerations$Generation", "add", "(LTwoGenerations$Thing;)V"⟩
abbrev h_Gen_add : Cond := .code y_Gen_add c_Gen_add 2 none
theorem d_Gen_add_0 : decode c_Gen_add 0 = .ok (.aload_n 0, 1) := by decide +kernel
theorem d_Gen_add_1 : decode c_Gen_add 1 = .ok (.getfield 22, 3) := by decide +kernel
theorem d_Gen_add_4 : decode c_Gen_add 4 = .ok (.aload_n 0, 1) := by decide +kernel
theorem d_Gen_add_5 : decode c_Gen_add 5 = .ok (.getfield 15, 3) := by decide +kernel
theorem d_Gen_add_8 : decode c_Gen_add 8 = .ok (.arraylength, 1) := by decide +kernel
theorem d_Gen_add_9 : decode c_Gen_add 9 = .ok (.if_icmp .ge 36, 3) := by decide +kernel
theorem d_Gen_add_12 : decode c_Gen_add 12 = .ok (.aload_n 0, 1) := by decide +kernel
theorem d_Gen_add_13 : decode c_Gen_add 13 = .ok (.getfield 15, 3) := by decide +kernel
theorem d_Gen_add_16 : decode c_Gen_add 16 = .ok (.aload_n 0, 1) := by decide +kernel
theorem d_Gen_add_17 : decode c_Gen_add 17 = .ok (.getfield 22, 3) := by decide +kernel
theorem d_Gen_add_20 : decode c_Gen_add 20 = .ok (.aload_n 1, 1) := by decide +kernel
theorem d_Gen_add_21 : decode c_Gen_add 21 = .ok (.aastore, 1) := by decide +kernel
theorem d_Gen_add_22 : decode c_Gen_add 22 = .ok (.aload_n 0, 1) := by decide +kernel
theorem d_Gen_add_23 : decode c_Gen_add 23 = .ok (.dup, 1) := by decide +kernel
theorem d_Gen_add_24 : decode c_Gen_add 24 = .ok (.getfield 22, 3) := by decide +kernel
theorem d_Gen_add_27 : decode c_Gen_add 27 = .ok (.iconst 1, 1) := by decide +kernel
theorem d_Gen_add_28 : decode c_Gen_add 28 = .ok (.iadd, 1) := by decide +kernel
theorem d_Gen_add_29 : decode c_Gen_add 29 = .ok (.putfield 22, 3) := by decide +kernel
theorem d_Gen_add_32 : decode c_Gen_add 32 = .ok (.aload_n 0, 1) := by decide +kernel
theorem d_Gen_add_33 : decode c_Gen_add 33 = .ok (.dup, 1) := by decide +kernel
theorem d_Gen_add_34 : decode c_Gen_add 34 = .ok (.getfield 19, 3) := by decide +kernel
theorem d_Gen_add_37 : decode c_Gen_add 37 = .ok (.aload_n 1, 1) := by decide +kernel
theorem d_Gen_add_38 : decode c_Gen_add 38 = .ok (.getfield 25, 3) := by decide +kernel
theorem d_Gen_add_41 : decode c_Gen_add 41 = .ok (.iadd, 1) := by decide +kernel
theorem d_Gen_add_42 : decode c_Gen_add 42 = .ok (.putfield 19, 3) := by decide +kernel
theorem d_Gen_add_45 : decode c_Gen_add 45 = .ok (.return_, 1) := by decide +kernel
abbrev c_TG_cells : ByteArray := prog_1_method_18_code
abbrev y_TG_cells : MethodName := ⟨"TwoGenerations", "cells", "(I)I"⟩
abbrev h_TG_cells : Cond := .code y_TG_cells c_TG_cells 2 (some .int)
theorem d_TG_cells_0 : decode c_TG_cells 0 = .ok (.iload_n 1, 1) := by decide +kernel
theorem d_TG_cells_1 : decode c_TG_cells 1 = .ok (.ifCond .ne 11, 3) := by decide +kernel
theorem d_TG_cells_4 : decode c_TG_cells 4 = .ok (.aload_n 0, 1) := by decide +kernel
theorem d_TG_cells_5 : decode c_TG_cells 5 = .ok (.getfield 24, 3) := by decide +kernel
theorem d_TG_cells_8 : decode c_TG_cells 8 = .ok (.getfield 140, 3) := by decide +kernel
theorem d_TG_cells_11 : decode c_TG_cells 11 = .ok (.ireturn, 1) := by decide +kernel
theorem d_TG_cells_12 : decode c_TG_cells 12 = .ok (.iload_n 1, 1) := by decide +kernel
theorem d_TG_cells_13 : decode c_TG_cells 13 = .ok (.iconst 1, 1) := by decide +kernel
theorem d_TG_cells_14 : decode c_TG_cells 14 = .ok (.if_icmp .ne 13, 3) := by decide +kernel
theorem d_TG_cells_17 : decode c_TG_cells 17 = .ok (.aload_n 0, 1) := by decide +kernel
theorem d_TG_cells_18 : decode c_TG_cells 18 = .ok (.getfield 28, 3) := by decide +kernel
theorem d_TG_cells_21 : decode c_TG_cells 21 = .ok (.getfield 140, 3) := by decide +kernel
theorem d_TG_cells_24 : decode c_TG_cells 24 = .ok (.goto 4, 3) := by decide +kernel
theorem d_TG_cells_27 : decode c_TG_cells 27 = .ok (.iconst (-1), 1) := by decide +kernel
theorem d_TG_cells_28 : decode c_TG_cells 28 = .ok (.ireturn, 1) := by decide +kernel
abbrev c_TG_collections : ByteArray := prog_1_method_19_code
abbrev y_TG_collections : MethodName := ⟨"TwoGenerations", "collections", "(I)I"⟩
abbrev h_TG_collections : Cond := .code y_TG_collections c_TG_collections 2 (some .int)
theorem d_TG_collections_0 : decode c_TG_collections 0 = .ok (.iload_n 1, 1) := by decide +kernel
theorem d_TG_collections_1 : decode c_TG_collections 1 = .ok (.ifCond .ne 8, 3) := by decide +kernel
theorem d_TG_collections_4 : decode c_TG_collections 4 = .ok (.aload_n 0, 1) := by decide +kernel
theorem d_TG_collections_5 : decode c_TG_collections 5 = .ok (.getfield 143, 3) := by decide +kernel
theorem d_TG_collections_8 : decode c_TG_collections 8 = .ok (.ireturn, 1) := by decide +kernel
theorem d_TG_collections_9 : decode c_TG_collections 9 = .ok (.iload_n 1, 1) := by decide +kernel
theorem d_TG_collections_10 : decode c_TG_collections 10 = .ok (.iconst 1, 1) := by decide +kernel
theorem d_TG_collections_11 : decode c_TG_collections 11 = .ok (.if_icmp .ne 10, 3) := by decide +kernel
theorem d_TG_collections_14 : decode c_TG_collections 14 = .ok (.aload_n 0, 1) := by decide +kernel
theorem d_TG_collections_15 : decode c_TG_collections 15 = .ok (.getfield 146, 3) := by decide +kernel
theorem d_TG_collections_18 : decode c_TG_collections 18 = .ok (.goto 4, 3) := by decide +kernel
theorem d_TG_collections_21 : decode c_TG_collections 21 = .ok (.iconst (-1), 1) := by decide +kernel
theorem d_TG_collections_22 : decode c_TG_collections 22 = .ok (.ireturn, 1) := by decide +kernel
abbrev c_TG_make : ByteArray := prog_1_method_2_code
abbrev y_TG_make : MethodName := ⟨"TwoGenerations", "make", "(II)V"⟩
abbrev h_TG_make : Cond := .code y_TG_make c_TG_make 3 none
theorem d_TG_make_0 : decode c_TG_make 0 = .ok (.aload_n 0, 1) := by decide +kernel
theorem d_TG_make_1 : decode c_TG_make 1 = .ok (.iload_n 1, 1) := by decide +kernel
theorem d_TG_make_2 : decode c_TG_make 2 = .ok (.invokevirtual 42, 3) := by decide +kernel
theorem d_TG_make_5 : decode c_TG_make 5 = .ok (.ifCond .eq 26, 3) := by decide +kernel
theorem d_TG_make_8 : decode c_TG_make 8 = .ok (.iload_n 2, 1) := by decide +kernel
theorem d_TG_make_9 : decode c_TG_make 9 = .ok (.iconst 0, 1) := by decide +kernel
theorem d_TG_make_10 : decode c_TG_make 10 = .ok (.bipush 11, 2) := by decide +kernel
theorem d_TG_make_12 : decode c_TG_make 12 = .ok (.invokestatic 7, 3) := by decide +kernel
theorem d_TG_make_15 : decode c_TG_make 15 = .ok (.ifCond .eq 16, 3) := by decide +kernel
theorem d_TG_make_18 : decode c_TG_make 18 = .ok (.iload_n 2, 1) := by decide +kernel
theorem d_TG_make_19 : decode c_TG_make 19 = .ok (.iconst 1, 1) := by decide +kernel
theorem d_TG_make_20 : decode c_TG_make 20 = .ok (.iadd, 1) := by decide +kernel
theorem d_TG_make_21 : decode c_TG_make 21 = .ok (.aload_n 0, 1) := by decide +kernel
theorem d_TG_make_22 : decode c_TG_make 22 = .ok (.getfield 24, 3) := by decide +kernel
theorem d_TG_make_25 : decode c_TG_make 25 = .ok (.getfield 33, 3) := by decide +kernel
theorem d_TG_make_28 : decode c_TG_make 28 = .ok (.if_icmp .le 13, 3) := by decide +kernel
theorem d_TG_make_31 : decode c_TG_make 31 = .ok (.new 46, 3) := by decide +kernel
theorem d_TG_make_34 : decode c_TG_make 34 = .ok (.dup, 1) := by decide +kernel
theorem d_TG_make_35 : decode c_TG_make 35 = .ok (.ldc 48, 2) := by decide +kernel
theorem d_TG_make_37 : decode c_TG_make 37 = .ok (.invokespecial 50, 3) := by decide +kernel
theorem d_TG_make_40 : decode c_TG_make 40 = .ok (.athrow, 1) := by decide +kernel
theorem d_TG_make_41 : decode c_TG_make 41 = .ok (.aload_n 0, 1) := by decide +kernel
theorem d_TG_make_42 : decode c_TG_make 42 = .ok (.iload_n 1, 1) := by decide +kernel
theorem d_TG_make_43 : decode c_TG_make 43 = .ok (.new 53, 3) := by decide +kernel
theorem d_TG_make_46 : decode c_TG_make 46 = .ok (.dup, 1) := by decide +kernel
theorem d_TG_make_47 : decode c_TG_make 47 = .ok (.iload_n 2, 1) := by decide +kernel
theorem d_TG_make_48 : decode c_TG_make 48 = .ok (.invokespecial 55, 3) := by decide +kernel
theorem d_TG_make_51 : decode c_TG_make 51 = .ok (.invokevirtual 56, 3) := by decide +kernel
theorem d_TG_make_54 : decode c_TG_make 54 = .ok (.return_, 1) := by decide +kernel
abbrev c_Pl_init : ByteArray := prog_3_method_1_code
abbrev y_Pl_init : MethodName := ⟨"TwoGenerations$Plain", "<init>", "(I)V"⟩
abbrev h_Pl_init : Cond := .code y_Pl_init c_Pl_init 2 none
theorem d_Pl_init_0 : decode c_Pl_init 0 = .ok (.aload_n 0, 1) := by decide +kernel
theorem d_Pl_init_1 : decode c_Pl_init 1 = .ok (.iload_n 1, 1) := by decide +kernel
theorem d_Pl_init_2 : decode c_Pl_init 2 = .ok (.iconst 1, 1) := by decide +kernel
theorem d_Pl_init_3 : decode c_Pl_init 3 = .ok (.iadd, 1) := by decide +kernel
theorem d_Pl_init_4 : decode c_Pl_init 4 = .ok (.invokespecial 1, 3) := by decide +kernel
theorem d_Pl_init_7 : decode c_Pl_init 7 = .ok (.aload_n 0, 1) := by decide +kernel
theorem d_Pl_init_8 : decode c_Pl_init 8 = .ok (.iload_n 1, 1) := by decide +kernel
theorem d_Pl_init_9 : decode c_Pl_init 9 = .ok (.anewarray 7, 3) := by decide +kernel
theorem d_Pl_init_12 : decode c_Pl_init 12 = .ok (.putfield 9, 3) := by decide +kernel
theorem d_Pl_init_15 : decode c_Pl_init 15 = .ok (.return_, 1) := by decide +kernel
abbrev c_Th_init : ByteArray := prog_4_method_1_code
abbrev y_Th_init : MethodName := ⟨"TwoGenerations$Thing", "<init>", "(I)V"⟩
abbrev h_Th_init : Cond := .code y_Th_init c_Th_init 2 none
theorem d_Th_init_0 : decode c_Th_init 0 = .ok (.aload_n 0, 1) := by decide +kernel
theorem d_Th_init_1 : decode c_Th_init 1 = .ok (.invokespecial 1, 3) := by decide +kernel
theorem d_Th_init_4 : decode c_Th_init 4 = .ok (.aload_n 0, 1) := by decide +kernel
theorem d_Th_init_5 : decode c_Th_init 5 = .ok (.iload_n 1, 1) := by decide +kernel
theorem d_Th_init_6 : decode c_Th_init 6 = .ok (.putfield 7, 3) := by decide +kernel
theorem d_Th_init_9 : decode c_Th_init 9 = .ok (.return_, 1) := by decide +kernel
abbrev c_Va_init : ByteArray := prog_6_method_1_code
abbrev y_Va_init : MethodName := ⟨"TwoGenerations$Value", "<init>", "()V"⟩
abbrev h_Va_init : Cond := .code y_Va_init c_Va_init 1 none
theorem d_Va_init_0 : decode c_Va_init 0 = .ok (.aload_n 0, 1) := by decide +kernel
theorem d_Va_init_1 : decode c_Va_init 1 = .ok (.invokespecial 1, 3) := by decide +kernel
theorem d_Va_init_4 : decode c_Va_init 4 = .ok (.return_, 1) := by decide +kernel
abbrev c_TG_bear : ByteArray := prog_1_method_26_code
abbrev y_TG_bear : MethodName := ⟨"TwoGenerations", "bear", "(ILTwoGenerations$Thing;)V"⟩
abbrev h_TG_bear : Cond := .code y_TG_bear c_TG_bear 3 none
theorem d_TG_bear_0 : decode c_TG_bear 0 = .ok (.aload_n 2, 1) := by decide +kernel
theorem d_TG_bear_1 : decode c_TG_bear 1 = .ok (.getfield 149, 3) := by decide +kernel
theorem d_TG_bear_4 : decode c_TG_bear 4 = .ok (.aload_n 0, 1) := by decide +kernel
theorem d_TG_bear_5 : decode c_TG_bear 5 = .ok (.getfield 24, 3) := by decide +kernel
theorem d_TG_bear_8 : decode c_TG_bear 8 = .ok (.invokevirtual 152, 3) := by decide +kernel
theorem d_TG_bear_11 : decode c_TG_bear 11 = .ok (.if_icmp .le 21, 3) := by decide +kernel
theorem d_TG_bear_14 : decode c_TG_bear 14 = .ok (.aload_n 0, 1) := by decide +kernel
theorem d_TG_bear_15 : decode c_TG_bear 15 = .ok (.invokevirtual 128, 3) := by decide +kernel
theorem d_TG_bear_18 : decode c_TG_bear 18 = .ok (.iconst (-1), 1) := by decide +kernel
theorem d_TG_bear_19 : decode c_TG_bear 19 = .ok (.if_icmp .ne 13, 3) := by decide +kernel
theorem d_TG_bear_22 : decode c_TG_bear 22 = .ok (.new 132, 3) := by decide +kernel
theorem d_TG_bear_25 : decode c_TG_bear 25 = .ok (.dup, 1) := by decide +kernel
theorem d_TG_bear_26 : decode c_TG_bear 26 = .ok (.ldc 134, 2) := by decide +kernel
theorem d_TG_bear_28 : decode c_TG_bear 28 = .ok (.invokespecial 136, 3) := by decide +kernel
theorem d_TG_bear_31 : decode c_TG_bear 31 = .ok (.athrow, 1) := by decide +kernel
theorem d_TG_bear_32 : decode c_TG_bear 32 = .ok (.aload_n 0, 1) := by decide +kernel
theorem d_TG_bear_33 : decode c_TG_bear 33 = .ok (.getfield 24, 3) := by decide +kernel
theorem d_TG_bear_36 : decode c_TG_bear 36 = .ok (.aload_n 2, 1) := by decide +kernel
theorem d_TG_bear_37 : decode c_TG_bear 37 = .ok (.invokevirtual 155, 3) := by decide +kernel
theorem d_TG_bear_40 : decode c_TG_bear 40 = .ok (.aload_n 0, 1) := by decide +kernel
theorem d_TG_bear_41 : decode c_TG_bear 41 = .ok (.getfield 15, 3) := by decide +kernel
theorem d_TG_bear_44 : decode c_TG_bear 44 = .ok (.iload_n 1, 1) := by decide +kernel
theorem d_TG_bear_45 : decode c_TG_bear 45 = .ok (.aload_n 2, 1) := by decide +kernel
theorem d_TG_bear_46 : decode c_TG_bear 46 = .ok (.aastore, 1) := by decide +kernel
theorem d_TG_bear_47 : decode c_TG_bear 47 = .ok (.return_, 1) := by decide +kernel
abbrev c_Gen_free : ByteArray := prog_2_method_2_code
abbrev y_Gen_free : MethodName := ⟨"TwoGenerations$Generation", "free", "()I"⟩
abbrev h_Gen_free : Cond := .code y_Gen_free c_Gen_free 1 (some .int)
theorem d_Gen_free_0 : decode c_Gen_free 0 = .ok (.aload_n 0, 1) := by decide +kernel
theorem d_Gen_free_1 : decode c_Gen_free 1 = .ok (.getfield 7, 3) := by decide +kernel
theorem d_Gen_free_4 : decode c_Gen_free 4 = .ok (.aload_n 0, 1) := by decide +kernel
theorem d_Gen_free_5 : decode c_Gen_free 5 = .ok (.getfield 19, 3) := by decide +kernel
theorem d_Gen_free_8 : decode c_Gen_free 8 = .ok (.isub, 1) := by decide +kernel
theorem d_Gen_free_9 : decode c_Gen_free 9 = .ok (.ireturn, 1) := by decide +kernel
abbrev c_TG_collectYoung : ByteArray := prog_1_method_27_code
abbrev y_TG_collectYoung : MethodName := ⟨"TwoGenerations", "collectYoung", "()I"⟩
abbrev h_TG_collectYoung : Cond := .code y_TG_collectYoung c_TG_collectYoung 2 (some .int)
theorem d_TG_collectYoung_0 : decode c_TG_collectYoung 0 = .ok (.aload_n 0, 1) := by decide +kernel
theorem d_TG_collectYoung_1 : decode c_TG_collectYoung 1 = .ok (.getfield 28, 3) := by decide +kernel
theorem d_TG_collectYoung_4 : decode c_TG_collectYoung 4 = .ok (.invokevirtual 152, 3) := by decide +kernel
theorem d_TG_collectYoung_7 : decode c_TG_collectYoung 7 = .ok (.aload_n 0, 1) := by decide +kernel
theorem d_TG_collectYoung_8 : decode c_TG_collectYoung 8 = .ok (.getfield 24, 3) := by decide +kernel
theorem d_TG_collectYoung_11 : decode c_TG_collectYoung 11 = .ok (.getfield 140, 3) := by decide +kernel
theorem d_TG_collectYoung_14 : decode c_TG_collectYoung 14 = .ok (.if_icmp .ge 8, 3) := by decide +kernel
theorem d_TG_collectYoung_17 : decode c_TG_collectYoung 17 = .ok (.aload_n 0, 1) := by decide +kernel
theorem d_TG_collectYoung_18 : decode c_TG_collectYoung 18 = .ok (.invokevirtual 137, 3) := by decide +kernel
theorem d_TG_collectYoung_21 : decode c_TG_collectYoung 21 = .ok (.pop, 1) := by decide +kernel
theorem d_TG_collectYoung_22 : decode c_TG_collectYoung 22 = .ok (.aload_n 0, 1) := by decide +kernel
theorem d_TG_collectYoung_23 : decode c_TG_collectYoung 23 = .ok (.getfield 38, 3) := by decide +kernel
theorem d_TG_collectYoung_26 : decode c_TG_collectYoung 26 = .ok (.invokevirtual 115, 3) := by decide +kernel
theorem d_TG_collectYoung_29 : decode c_TG_collectYoung 29 = .ok (.aload_n 0, 1) := by decide +kernel
theorem d_TG_collectYoung_30 : decode c_TG_collectYoung 30 = .ok (.invokevirtual 158, 3) := by decide +kernel
theorem d_TG_collectYoung_33 : decode c_TG_collectYoung 33 = .ok (.aload_n 0, 1) := by decide +kernel
theorem d_TG_collectYoung_34 : decode c_TG_collectYoung 34 = .ok (.getfield 38, 3) := by decide +kernel
theorem d_TG_collectYoung_37 : decode c_TG_collectYoung 37 = .ok (.aload_n 0, 1) := by decide +kernel
theorem d_TG_collectYoung_38 : decode c_TG_collectYoung 38 = .ok (.getfield 28, 3) := by decide +kernel
theorem d_TG_collectYoung_41 : decode c_TG_collectYoung 41 = .ok (.invokevirtual 161, 3) := by decide +kernel
theorem d_TG_collectYoung_44 : decode c_TG_collectYoung 44 = .ok (.aload_n 0, 1) := by decide +kernel
theorem d_TG_collectYoung_45 : decode c_TG_collectYoung 45 = .ok (.getfield 38, 3) := by decide +kernel
theorem d_TG_collectYoung_48 : decode c_TG_collectYoung 48 = .ok (.invokevirtual 122, 3) := by decide +kernel
theorem d_TG_collectYoung_51 : decode c_TG_collectYoung 51 = .ok (.aload_n 0, 1) := by decide +kernel
theorem d_TG_collectYoung_52 : decode c_TG_collectYoung 52 = .ok (.getfield 24, 3) := by decide +kernel
theorem d_TG_collectYoung_55 : decode c_TG_collectYoung 55 = .ok (.invokevirtual 165, 3) := by decide +kernel
theorem d_TG_collectYoung_58 : decode c_TG_collectYoung 58 = .ok (.istore_n 1, 1) := by decide +kernel
theorem d_TG_collectYoung_59 : decode c_TG_collectYoung 59 = .ok (.iload_n 1, 1) := by decide +kernel
theorem d_TG_collectYoung_60 : decode c_TG_collectYoung 60 = .ok (.aload_n 0, 1) := by decide +kernel
theorem d_TG_collectYoung_61 : decode c_TG_collectYoung 61 = .ok (.getfield 28, 3) := by decide +kernel
theorem d_TG_collectYoung_64 : decode c_TG_collectYoung 64 = .ok (.invokevirtual 152, 3) := by decide +kernel
theorem d_TG_collectYoung_67 : decode c_TG_collectYoung 67 = .ok (.if_icmp .le 5, 3) := by decide +kernel
theorem d_TG_collectYoung_70 : decode c_TG_collectYoung 70 = .ok (.iconst (-1), 1) := by decide +kernel
theorem d_TG_collectYoung_71 : decode c_TG_collectYoung 71 = .ok (.ireturn, 1) := by decide +kernel
theorem d_TG_collectYoung_72 : decode c_TG_collectYoung 72 = .ok (.aload_n 0, 1) := by decide +kernel
theorem d_TG_collectYoung_73 : decode c_TG_collectYoung 73 = .ok (.getfield 24, 3) := by decide +kernel
theorem d_TG_collectYoung_76 : decode c_TG_collectYoung 76 = .ok (.invokevirtual 168, 3) := by decide +kernel
theorem d_TG_collectYoung_79 : decode c_TG_collectYoung 79 = .ok (.aload_n 0, 1) := by decide +kernel
theorem d_TG_collectYoung_80 : decode c_TG_collectYoung 80 = .ok (.getfield 28, 3) := by decide +kernel
theorem d_TG_collectYoung_83 : decode c_TG_collectYoung 83 = .ok (.invokevirtual 168, 3) := by decide +kernel
theorem d_TG_collectYoung_86 : decode c_TG_collectYoung 86 = .ok (.aload_n 0, 1) := by decide +kernel
theorem d_TG_collectYoung_87 : decode c_TG_collectYoung 87 = .ok (.getfield 28, 3) := by decide +kernel
theorem d_TG_collectYoung_90 : decode c_TG_collectYoung 90 = .ok (.aload_n 0, 1) := by decide +kernel
theorem d_TG_collectYoung_91 : decode c_TG_collectYoung 91 = .ok (.getfield 24, 3) := by decide +kernel
theorem d_TG_collectYoung_94 : decode c_TG_collectYoung 94 = .ok (.invokevirtual 171, 3) := by decide +kernel
theorem d_TG_collectYoung_97 : decode c_TG_collectYoung 97 = .ok (.aload_n 0, 1) := by decide +kernel
theorem d_TG_collectYoung_98 : decode c_TG_collectYoung 98 = .ok (.getfield 24, 3) := by decide +kernel
theorem d_TG_collectYoung_101 : decode c_TG_collectYoung 101 = .ok (.invokevirtual 174, 3) := by decide +kernel
theorem d_TG_collectYoung_104 : decode c_TG_collectYoung 104 = .ok (.aload_n 0, 1) := by decide +kernel
theorem d_TG_collectYoung_105 : decode c_TG_collectYoung 105 = .ok (.dup, 1) := by decide +kernel
theorem d_TG_collectYoung_106 : decode c_TG_collectYoung 106 = .ok (.getfield 143, 3) := by decide +kernel
theorem d_TG_collectYoung_109 : decode c_TG_collectYoung 109 = .ok (.iconst 1, 1) := by decide +kernel
theorem d_TG_collectYoung_110 : decode c_TG_collectYoung 110 = .ok (.iadd, 1) := by decide +kernel
theorem d_TG_collectYoung_111 : decode c_TG_collectYoung 111 = .ok (.putfield 143, 3) := by decide +kernel
theorem d_TG_collectYoung_114 : decode c_TG_collectYoung 114 = .ok (.iload_n 1, 1) := by decide +kernel
theorem d_TG_collectYoung_115 : decode c_TG_collectYoung 115 = .ok (.ireturn, 1) := by decide +kernel
abbrev c_Tr_findAll : ByteArray := prog_5_method_4_code
abbrev y_Tr_findAll : MethodName := ⟨"TwoGenerations$Trace", "findAll", "(LTwoGenerations$Generation;)V"⟩
abbrev h_Tr_findAll : Cond := .code y_Tr_findAll c_Tr_findAll 3 none
theorem d_Tr_findAll_0 : decode c_Tr_findAll 0 = .ok (.iconst 0, 1) := by decide +kernel
theorem d_Tr_findAll_1 : decode c_Tr_findAll 1 = .ok (.istore_n 2, 1) := by decide +kernel
theorem d_Tr_findAll_2 : decode c_Tr_findAll 2 = .ok (.iload_n 2, 1) := by decide +kernel
theorem d_Tr_findAll_3 : decode c_Tr_findAll 3 = .ok (.aload_n 1, 1) := by decide +kernel
theorem d_Tr_findAll_4 : decode c_Tr_findAll 4 = .ok (.getfield 29, 3) := by decide +kernel
theorem d_Tr_findAll_7 : decode c_Tr_findAll 7 = .ok (.if_icmp .ge 19, 3) := by decide +kernel
theorem d_Tr_findAll_10 : decode c_Tr_findAll 10 = .ok (.aload_n 0, 1) := by decide +kernel
theorem d_Tr_findAll_11 : decode c_Tr_findAll 11 = .ok (.aload_n 1, 1) := by decide +kernel
theorem d_Tr_findAll_12 : decode c_Tr_findAll 12 = .ok (.getfield 32, 3) := by decide +kernel
theorem d_Tr_findAll_15 : decode c_Tr_findAll 15 = .ok (.iload_n 2, 1) := by decide +kernel
theorem d_Tr_findAll_16 : decode c_Tr_findAll 16 = .ok (.aaload, 1) := by decide +kernel
theorem d_Tr_findAll_17 : decode c_Tr_findAll 17 = .ok (.invokevirtual 35, 3) := by decide +kernel
theorem d_Tr_findAll_20 : decode c_Tr_findAll 20 = .ok (.iinc 2 1, 3) := by decide +kernel
theorem d_Tr_findAll_23 : decode c_Tr_findAll 23 = .ok (.goto (-21), 3) := by decide +kernel
theorem d_Tr_findAll_26 : decode c_Tr_findAll 26 = .ok (.return_, 1) := by decide +kernel
abbrev c_Gen_reachedCells : ByteArray := prog_2_method_5_code
abbrev y_Gen_reachedCells : MethodName := ⟨"TwoGenerations$Generation", "reachedCells", "()I"⟩
abbrev h_Gen_reachedCells : Cond := .code y_Gen_reachedCells c_Gen_reachedCells 4 (some .int)
theorem d_Gen_reachedCells_0 : decode c_Gen_reachedCells 0 = .ok (.iconst 0, 1) := by decide +kernel
theorem d_Gen_reachedCells_1 : decode c_Gen_reachedCells 1 = .ok (.istore_n 1, 1) := by decide +kernel
theorem d_Gen_reachedCells_2 : decode c_Gen_reachedCells 2 = .ok (.iconst 0, 1) := by decide +kernel
theorem d_Gen_reachedCells_3 : decode c_Gen_reachedCells 3 = .ok (.istore_n 2, 1) := by decide +kernel
theorem d_Gen_reachedCells_4 : decode c_Gen_reachedCells 4 = .ok (.iload_n 2, 1) := by decide +kernel
theorem d_Gen_reachedCells_5 : decode c_Gen_reachedCells 5 = .ok (.aload_n 0, 1) := by decide +kernel
theorem d_Gen_reachedCells_6 : decode c_Gen_reachedCells 6 = .ok (.getfield 22, 3) := by decide +kernel
theorem d_Gen_reachedCells_9 : decode c_Gen_reachedCells 9 = .ok (.if_icmp .ge 34, 3) := by decide +kernel
theorem d_Gen_reachedCells_12 : decode c_Gen_reachedCells 12 = .ok (.aload_n 0, 1) := by decide +kernel
theorem d_Gen_reachedCells_13 : decode c_Gen_reachedCells 13 = .ok (.getfield 15, 3) := by decide +kernel
theorem d_Gen_reachedCells_16 : decode c_Gen_reachedCells 16 = .ok (.iload_n 2, 1) := by decide +kernel
theorem d_Gen_reachedCells_17 : decode c_Gen_reachedCells 17 = .ok (.aaload, 1) := by decide +kernel
theorem d_Gen_reachedCells_18 : decode c_Gen_reachedCells 18 = .ok (.astore_n 3, 1) := by decide +kernel
theorem d_Gen_reachedCells_19 : decode c_Gen_reachedCells 19 = .ok (.aload_n 3, 1) := by decide +kernel
theorem d_Gen_reachedCells_20 : decode c_Gen_reachedCells 20 = .ok (.ifnull 17, 3) := by decide +kernel
theorem d_Gen_reachedCells_23 : decode c_Gen_reachedCells 23 = .ok (.aload_n 3, 1) := by decide +kernel
theorem d_Gen_reachedCells_24 : decode c_Gen_reachedCells 24 = .ok (.getfield 28, 3) := by decide +kernel
theorem d_Gen_reachedCells_27 : decode c_Gen_reachedCells 27 = .ok (.ifCond .eq 10, 3) := by decide +kernel
theorem d_Gen_reachedCells_30 : decode c_Gen_reachedCells 30 = .ok (.iload_n 1, 1) := by decide +kernel
theorem d_Gen_reachedCells_31 : decode c_Gen_reachedCells 31 = .ok (.aload_n 3, 1) := by decide +kernel
theorem d_Gen_reachedCells_32 : decode c_Gen_reachedCells 32 = .ok (.getfield 25, 3) := by decide +kernel
theorem d_Gen_reachedCells_35 : decode c_Gen_reachedCells 35 = .ok (.iadd, 1) := by decide +kernel
theorem d_Gen_reachedCells_36 : decode c_Gen_reachedCells 36 = .ok (.istore_n 1, 1) := by decide +kernel
theorem d_Gen_reachedCells_37 : decode c_Gen_reachedCells 37 = .ok (.iinc 2 1, 3) := by decide +kernel
theorem d_Gen_reachedCells_40 : decode c_Gen_reachedCells 40 = .ok (.goto (-36), 3) := by decide +kernel
theorem d_Gen_reachedCells_43 : decode c_Gen_reachedCells 43 = .ok (.iload_n 1, 1) := by decide +kernel
theorem d_Gen_reachedCells_44 : decode c_Gen_reachedCells 44 = .ok (.ireturn, 1) := by decide +kernel
abbrev c_Gen_adoptReached : ByteArray := prog_2_method_8_code
abbrev y_Gen_adoptReached : MethodName := ⟨"TwoGenerations$Generation", "adoptReached", "(LTwoGenerations$Generation;)V"⟩
abbrev h_Gen_adoptReached : Cond := .code y_Gen_adoptReached c_Gen_adoptReached 4 none
theorem d_Gen_adoptReached_0 : decode c_Gen_adoptReached 0 = .ok (.iconst 0, 1) := by decide +kernel
theorem d_Gen_adoptReached_1 : decode c_Gen_adoptReached 1 = .ok (.istore_n 2, 1) := by decide +kernel
theorem d_Gen_adoptReached_2 : decode c_Gen_adoptReached 2 = .ok (.iload_n 2, 1) := by decide +kernel
theorem d_Gen_adoptReached_3 : decode c_Gen_adoptReached 3 = .ok (.aload_n 1, 1) := by decide +kernel
theorem d_Gen_adoptReached_4 : decode c_Gen_adoptReached 4 = .ok (.getfield 22, 3) := by decide +kernel
theorem d_Gen_adoptReached_7 : decode c_Gen_adoptReached 7 = .ok (.if_icmp .ge 37, 3) := by decide +kernel
theorem d_Gen_adoptReached_10 : decode c_Gen_adoptReached 10 = .ok (.aload_n 1, 1) := by decide +kernel
theorem d_Gen_adoptReached_11 : decode c_Gen_adoptReached 11 = .ok (.getfield 15, 3) := by decide +kernel
theorem d_Gen_adoptReached_14 : decode c_Gen_adoptReached 14 = .ok (.iload_n 2, 1) := by decide +kernel
theorem d_Gen_adoptReached_15 : decode c_Gen_adoptReached 15 = .ok (.aaload, 1) := by decide +kernel
theorem d_Gen_adoptReached_16 : decode c_Gen_adoptReached 16 = .ok (.astore_n 3, 1) := by decide +kernel
theorem d_Gen_adoptReached_17 : decode c_Gen_adoptReached 17 = .ok (.aload_n 3, 1) := by decide +kernel
theorem d_Gen_adoptReached_18 : decode c_Gen_adoptReached 18 = .ok (.ifnull 20, 3) := by decide +kernel
theorem d_Gen_adoptReached_21 : decode c_Gen_adoptReached 21 = .ok (.aload_n 3, 1) := by decide +kernel
theorem d_Gen_adoptReached_22 : decode c_Gen_adoptReached 22 = .ok (.getfield 28, 3) := by decide +kernel
theorem d_Gen_adoptReached_25 : decode c_Gen_adoptReached 25 = .ok (.ifCond .eq 13, 3) := by decide +kernel
theorem d_Gen_adoptReached_28 : decode c_Gen_adoptReached 28 = .ok (.aload_n 3, 1) := by decide +kernel
theorem d_Gen_adoptReached_29 : decode c_Gen_adoptReached 29 = .ok (.iconst 1, 1) := by decide +kernel
theorem d_Gen_adoptReached_30 : decode c_Gen_adoptReached 30 = .ok (.putfield 44, 3) := by decide +kernel
theorem d_Gen_adoptReached_33 : decode c_Gen_adoptReached 33 = .ok (.aload_n 0, 1) := by decide +kernel
theorem d_Gen_adoptReached_34 : decode c_Gen_adoptReached 34 = .ok (.aload_n 3, 1) := by decide +kernel
theorem d_Gen_adoptReached_35 : decode c_Gen_adoptReached 35 = .ok (.invokevirtual 40, 3) := by decide +kernel
theorem d_Gen_adoptReached_38 : decode c_Gen_adoptReached 38 = .ok (.iinc 2 1, 3) := by decide +kernel
theorem d_Gen_adoptReached_41 : decode c_Gen_adoptReached 41 = .ok (.goto (-39), 3) := by decide +kernel
theorem d_Gen_adoptReached_44 : decode c_Gen_adoptReached 44 = .ok (.return_, 1) := by decide +kernel
abbrev c_TG_weak : ByteArray := prog_1_method_3_code
abbrev y_TG_weak : MethodName := ⟨"TwoGenerations", "weak", "(II)V"⟩
abbrev h_TG_weak : Cond := .code y_TG_weak c_TG_weak 4 none
theorem d_TG_weak_0 : decode c_TG_weak 0 = .ok (.aload_n 0, 1) := by decide +kernel
theorem d_TG_weak_1 : decode c_TG_weak 1 = .ok (.iload_n 2, 1) := by decide +kernel
theorem d_TG_weak_2 : decode c_TG_weak 2 = .ok (.invokevirtual 60, 3) := by decide +kernel
theorem d_TG_weak_5 : decode c_TG_weak 5 = .ok (.astore_n 3, 1) := by decide +kernel
theorem d_TG_weak_6 : decode c_TG_weak 6 = .ok (.aload_n 0, 1) := by decide +kernel
theorem d_TG_weak_7 : decode c_TG_weak 7 = .ok (.iload_n 1, 1) := by decide +kernel
theorem d_TG_weak_8 : decode c_TG_weak 8 = .ok (.invokevirtual 42, 3) := by decide +kernel
theorem d_TG_weak_11 : decode c_TG_weak 11 = .ok (.ifCond .eq 7, 3) := by decide +kernel
theorem d_TG_weak_14 : decode c_TG_weak 14 = .ok (.aload_n 3, 1) := by decide +kernel
theorem d_TG_weak_15 : decode c_TG_weak 15 = .ok (.ifnonnull 13, 3) := by decide +kernel
theorem d_TG_weak_18 : decode c_TG_weak 18 = .ok (.new 46, 3) := by decide +kernel
theorem d_TG_weak_21 : decode c_TG_weak 21 = .ok (.dup, 1) := by decide +kernel
theorem d_TG_weak_22 : decode c_TG_weak 22 = .ok (.ldc 64, 2) := by decide +kernel
theorem d_TG_weak_24 : decode c_TG_weak 24 = .ok (.invokespecial 50, 3) := by decide +kernel
theorem d_TG_weak_27 : decode c_TG_weak 27 = .ok (.athrow, 1) := by decide +kernel
theorem d_TG_weak_28 : decode c_TG_weak 28 = .ok (.aload_n 0, 1) := by decide +kernel
theorem d_TG_weak_29 : decode c_TG_weak 29 = .ok (.iload_n 1, 1) := by decide +kernel
theorem d_TG_weak_30 : decode c_TG_weak 30 = .ok (.new 66, 3) := by decide +kernel
theorem d_TG_weak_33 : decode c_TG_weak 33 = .ok (.dup, 1) := by decide +kernel
theorem d_TG_weak_34 : decode c_TG_weak 34 = .ok (.aload_n 3, 1) := by decide +kernel
theorem d_TG_weak_35 : decode c_TG_weak 35 = .ok (.invokespecial 68, 3) := by decide +kernel
theorem d_TG_weak_38 : decode c_TG_weak 38 = .ok (.invokevirtual 56, 3) := by decide +kernel
theorem d_TG_weak_41 : decode c_TG_weak 41 = .ok (.return_, 1) := by decide +kernel
abbrev c_Wk_init : ByteArray := prog_7_method_1_code
abbrev y_Wk_init : MethodName := ⟨"TwoGenerations$Weak", "<init>", "(LTwoGenerations$Thing;)V"⟩
abbrev h_Wk_init : Cond := .code y_Wk_init c_Wk_init 2 none
theorem d_Wk_init_0 : decode c_Wk_init 0 = .ok (.aload_n 0, 1) := by decide +kernel
theorem d_Wk_init_1 : decode c_Wk_init 1 = .ok (.iconst 2, 1) := by decide +kernel
theorem d_Wk_init_2 : decode c_Wk_init 2 = .ok (.invokespecial 1, 3) := by decide +kernel
theorem d_Wk_init_5 : decode c_Wk_init 5 = .ok (.aload_n 0, 1) := by decide +kernel
theorem d_Wk_init_6 : decode c_Wk_init 6 = .ok (.aload_n 1, 1) := by decide +kernel
theorem d_Wk_init_7 : decode c_Wk_init 7 = .ok (.putfield 7, 3) := by decide +kernel
theorem d_Wk_init_10 : decode c_Wk_init 10 = .ok (.return_, 1) := by decide +kernel
abbrev c_TG_load : ByteArray := prog_1_method_4_code
abbrev y_TG_load : MethodName := ⟨"TwoGenerations", "load", "(III)V"⟩
abbrev h_TG_load : Cond := .code y_TG_load c_TG_load 5 none
theorem d_TG_load_0 : decode c_TG_load 0 = .ok (.aload_n 0, 1) := by decide +kernel
theorem d_TG_load_1 : decode c_TG_load 1 = .ok (.iload_n 2, 1) := by decide +kernel
theorem d_TG_load_2 : decode c_TG_load 2 = .ok (.invokevirtual 71, 3) := by decide +kernel
theorem d_TG_load_5 : decode c_TG_load 5 = .ok (.astore 4, 2) := by decide +kernel
theorem d_TG_load_7 : decode c_TG_load 7 = .ok (.aload_n 0, 1) := by decide +kernel
theorem d_TG_load_8 : decode c_TG_load 8 = .ok (.iload_n 1, 1) := by decide +kernel
theorem d_TG_load_9 : decode c_TG_load 9 = .ok (.invokevirtual 42, 3) := by decide +kernel
theorem d_TG_load_12 : decode c_TG_load 12 = .ok (.ifCond .eq 17, 3) := by decide +kernel
theorem d_TG_load_15 : decode c_TG_load 15 = .ok (.aload 4, 2) := by decide +kernel
theorem d_TG_load_17 : decode c_TG_load 17 = .ok (.ifnull 12, 3) := by decide +kernel
theorem d_TG_load_20 : decode c_TG_load 20 = .ok (.aload 4, 2) := by decide +kernel
theorem d_TG_load_22 : decode c_TG_load 22 = .ok (.iload_n 3, 1) := by decide +kernel
theorem d_TG_load_23 : decode c_TG_load 23 = .ok (.invokevirtual 75, 3) := by decide +kernel
theorem d_TG_load_26 : decode c_TG_load 26 = .ok (.ifCond .ne 13, 3) := by decide +kernel
theorem d_TG_load_29 : decode c_TG_load 29 = .ok (.new 46, 3) := by decide +kernel
theorem d_TG_load_32 : decode c_TG_load 32 = .ok (.dup, 1) := by decide +kernel
theorem d_TG_load_33 : decode c_TG_load 33 = .ok (.ldc 78, 2) := by decide +kernel
theorem d_TG_load_35 : decode c_TG_load 35 = .ok (.invokespecial 50, 3) := by decide +kernel
theorem d_TG_load_38 : decode c_TG_load 38 = .ok (.athrow, 1) := by decide +kernel
theorem d_TG_load_39 : decode c_TG_load 39 = .ok (.aload_n 0, 1) := by decide +kernel
theorem d_TG_load_40 : decode c_TG_load 40 = .ok (.getfield 15, 3) := by decide +kernel
theorem d_TG_load_43 : decode c_TG_load 43 = .ok (.iload_n 1, 1) := by decide +kernel
theorem d_TG_load_44 : decode c_TG_load 44 = .ok (.aload 4, 2) := by decide +kernel
theorem d_TG_load_46 : decode c_TG_load 46 = .ok (.getfield 80, 3) := by decide +kernel
theorem d_TG_load_49 : decode c_TG_load 49 = .ok (.iload_n 3, 1) := by decide +kernel
theorem d_TG_load_50 : decode c_TG_load 50 = .ok (.aaload, 1) := by decide +kernel
theorem d_TG_load_51 : decode c_TG_load 51 = .ok (.aastore, 1) := by decide +kernel
theorem d_TG_load_52 : decode c_TG_load 52 = .ok (.return_, 1) := by decide +kernel
abbrev c_Pl_hasField : ByteArray := prog_3_method_2_code
abbrev y_Pl_hasField : MethodName := ⟨"TwoGenerations$Plain", "hasField", "(I)Z"⟩
abbrev h_Pl_hasField : Cond := .code y_Pl_hasField c_Pl_hasField 2 (some .boolean)
theorem d_Pl_hasField_0 : decode c_Pl_hasField 0 = .ok (.iconst 0, 1) := by decide +kernel
theorem d_Pl_hasField_1 : decode c_Pl_hasField 1 = .ok (.iload_n 1, 1) := by decide +kernel
theorem d_Pl_hasField_2 : decode c_Pl_hasField 2 = .ok (.if_icmp .gt 16, 3) := by decide +kernel
theorem d_Pl_hasField_5 : decode c_Pl_hasField 5 = .ok (.iload_n 1, 1) := by decide +kernel
theorem d_Pl_hasField_6 : decode c_Pl_hasField 6 = .ok (.aload_n 0, 1) := by decide +kernel
theorem d_Pl_hasField_7 : decode c_Pl_hasField 7 = .ok (.getfield 9, 3) := by decide +kernel
theorem d_Pl_hasField_10 : decode c_Pl_hasField 10 = .ok (.arraylength, 1) := by decide +kernel
theorem d_Pl_hasField_11 : decode c_Pl_hasField 11 = .ok (.if_icmp .ge 7, 3) := by decide +kernel
theorem d_Pl_hasField_14 : decode c_Pl_hasField 14 = .ok (.iconst 1, 1) := by decide +kernel
theorem d_Pl_hasField_15 : decode c_Pl_hasField 15 = .ok (.goto 4, 3) := by decide +kernel
theorem d_Pl_hasField_18 : decode c_Pl_hasField 18 = .ok (.iconst 0, 1) := by decide +kernel
theorem d_Pl_hasField_19 : decode c_Pl_hasField 19 = .ok (.ireturn, 1) := by decide +kernel
abbrev c_TG_store : ByteArray := prog_1_method_5_code
abbrev y_TG_store : MethodName := ⟨"TwoGenerations", "store", "(III)V"⟩
abbrev h_TG_store : Cond := .code y_TG_store c_TG_store 5 none
theorem d_TG_store_0 : decode c_TG_store 0 = .ok (.aload_n 0, 1) := by decide +kernel
theorem d_TG_store_1 : decode c_TG_store 1 = .ok (.iload_n 1, 1) := by decide +kernel
theorem d_TG_store_2 : decode c_TG_store 2 = .ok (.invokevirtual 71, 3) := by decide +kernel
theorem d_TG_store_5 : decode c_TG_store 5 = .ok (.astore 4, 2) := by decide +kernel
theorem d_TG_store_7 : decode c_TG_store 7 = .ok (.aload_n 0, 1) := by decide +kernel
theorem d_TG_store_8 : decode c_TG_store 8 = .ok (.iload_n 3, 1) := by decide +kernel
theorem d_TG_store_9 : decode c_TG_store 9 = .ok (.invokevirtual 42, 3) := by decide +kernel
theorem d_TG_store_12 : decode c_TG_store 12 = .ok (.ifCond .eq 17, 3) := by decide +kernel
theorem d_TG_store_15 : decode c_TG_store 15 = .ok (.aload 4, 2) := by decide +kernel
theorem d_TG_store_17 : decode c_TG_store 17 = .ok (.ifnull 12, 3) := by decide +kernel
theorem d_TG_store_20 : decode c_TG_store 20 = .ok (.aload 4, 2) := by decide +kernel
theorem d_TG_store_22 : decode c_TG_store 22 = .ok (.iload_n 2, 1) := by decide +kernel
theorem d_TG_store_23 : decode c_TG_store 23 = .ok (.invokevirtual 75, 3) := by decide +kernel
theorem d_TG_store_26 : decode c_TG_store 26 = .ok (.ifCond .ne 13, 3) := by decide +kernel
theorem d_TG_store_29 : decode c_TG_store 29 = .ok (.new 46, 3) := by decide +kernel
theorem d_TG_store_32 : decode c_TG_store 32 = .ok (.dup, 1) := by decide +kernel
theorem d_TG_store_33 : decode c_TG_store 33 = .ok (.ldc 78, 2) := by decide +kernel
theorem d_TG_store_35 : decode c_TG_store 35 = .ok (.invokespecial 50, 3) := by decide +kernel
theorem d_TG_store_38 : decode c_TG_store 38 = .ok (.athrow, 1) := by decide +kernel
theorem d_TG_store_39 : decode c_TG_store 39 = .ok (.aload 4, 2) := by decide +kernel
theorem d_TG_store_41 : decode c_TG_store 41 = .ok (.getfield 80, 3) := by decide +kernel
theorem d_TG_store_44 : decode c_TG_store 44 = .ok (.iload_n 2, 1) := by decide +kernel
theorem d_TG_store_45 : decode c_TG_store 45 = .ok (.aload_n 0, 1) := by decide +kernel
theorem d_TG_store_46 : decode c_TG_store 46 = .ok (.getfield 15, 3) := by decide +kernel
theorem d_TG_store_49 : decode c_TG_store 49 = .ok (.iload_n 3, 1) := by decide +kernel
theorem d_TG_store_50 : decode c_TG_store 50 = .ok (.aaload, 1) := by decide +kernel
theorem d_TG_store_51 : decode c_TG_store 51 = .ok (.aastore, 1) := by decide +kernel
theorem d_TG_store_52 : decode c_TG_store 52 = .ok (.return_, 1) := by decide +kernel
abbrev c_TG_target : ByteArray := prog_1_method_6_code
abbrev y_TG_target : MethodName := ⟨"TwoGenerations", "target", "(II)V"⟩
abbrev h_TG_target : Cond := .code y_TG_target c_TG_target 4 none
theorem d_TG_target_0 : decode c_TG_target 0 = .ok (.aload_n 0, 1) := by decide +kernel
theorem d_TG_target_1 : decode c_TG_target 1 = .ok (.iload_n 2, 1) := by decide +kernel
theorem d_TG_target_2 : decode c_TG_target 2 = .ok (.invokevirtual 83, 3) := by decide +kernel
theorem d_TG_target_5 : decode c_TG_target 5 = .ok (.astore_n 3, 1) := by decide +kernel
theorem d_TG_target_6 : decode c_TG_target 6 = .ok (.aload_n 0, 1) := by decide +kernel
theorem d_TG_target_7 : decode c_TG_target 7 = .ok (.iload_n 1, 1) := by decide +kernel
theorem d_TG_target_8 : decode c_TG_target 8 = .ok (.invokevirtual 42, 3) := by decide +kernel
theorem d_TG_target_11 : decode c_TG_target 11 = .ok (.ifCond .eq 7, 3) := by decide +kernel
theorem d_TG_target_14 : decode c_TG_target 14 = .ok (.aload_n 3, 1) := by decide +kernel
theorem d_TG_target_15 : decode c_TG_target 15 = .ok (.ifnonnull 13, 3) := by decide +kernel
theorem d_TG_target_18 : decode c_TG_target 18 = .ok (.new 46, 3) := by decide +kernel
theorem d_TG_target_21 : decode c_TG_target 21 = .ok (.dup, 1) := by decide +kernel
theorem d_TG_target_22 : decode c_TG_target 22 = .ok (.ldc 87, 2) := by decide +kernel
theorem d_TG_target_24 : decode c_TG_target 24 = .ok (.invokespecial 50, 3) := by decide +kernel
theorem d_TG_target_27 : decode c_TG_target 27 = .ok (.athrow, 1) := by decide +kernel
theorem d_TG_target_28 : decode c_TG_target 28 = .ok (.aload_n 0, 1) := by decide +kernel
theorem d_TG_target_29 : decode c_TG_target 29 = .ok (.getfield 15, 3) := by decide +kernel
theorem d_TG_target_32 : decode c_TG_target 32 = .ok (.iload_n 1, 1) := by decide +kernel
theorem d_TG_target_33 : decode c_TG_target 33 = .ok (.aload_n 3, 1) := by decide +kernel
theorem d_TG_target_34 : decode c_TG_target 34 = .ok (.getfield 89, 3) := by decide +kernel
theorem d_TG_target_37 : decode c_TG_target 37 = .ok (.aastore, 1) := by decide +kernel
theorem d_TG_target_38 : decode c_TG_target 38 = .ok (.return_, 1) := by decide +kernel
abbrev c_TG_weakIn : ByteArray := prog_1_method_25_code
abbrev y_TG_weakIn : MethodName := ⟨"TwoGenerations", "weakIn", "(I)LTwoGenerations$Weak;"⟩
abbrev h_TG_weakIn : Cond := .code y_TG_weakIn c_TG_weakIn 4 (some (.object "TwoGenerations$Weak"))
theorem d_TG_weakIn_0 : decode c_TG_weakIn 0 = .ok (.aload_n 0, 1) := by decide +kernel
theorem d_TG_weakIn_1 : decode c_TG_weakIn 1 = .ok (.iload_n 1, 1) := by decide +kernel
theorem d_TG_weakIn_2 : decode c_TG_weakIn 2 = .ok (.invokevirtual 102, 3) := by decide +kernel
theorem d_TG_weakIn_5 : decode c_TG_weakIn 5 = .ok (.astore_n 3, 1) := by decide +kernel
theorem d_TG_weakIn_6 : decode c_TG_weakIn 6 = .ok (.aload_n 3, 1) := by decide +kernel
theorem d_TG_weakIn_7 : decode c_TG_weakIn 7 = .ok (.instanceof 66, 3) := by decide +kernel
theorem d_TG_weakIn_10 : decode c_TG_weakIn 10 = .ok (.ifCond .eq 12, 3) := by decide +kernel
theorem d_TG_weakIn_13 : decode c_TG_weakIn 13 = .ok (.aload_n 3, 1) := by decide +kernel
theorem d_TG_weakIn_14 : decode c_TG_weakIn 14 = .ok (.checkcast 66, 3) := by decide +kernel
theorem d_TG_weakIn_17 : decode c_TG_weakIn 17 = .ok (.astore_n 2, 1) := by decide +kernel
theorem d_TG_weakIn_18 : decode c_TG_weakIn 18 = .ok (.aload_n 2, 1) := by decide +kernel
theorem d_TG_weakIn_19 : decode c_TG_weakIn 19 = .ok (.goto 4, 3) := by decide +kernel
theorem d_TG_weakIn_22 : decode c_TG_weakIn 22 = .ok (.aconst_null, 1) := by decide +kernel
theorem d_TG_weakIn_23 : decode c_TG_weakIn 23 = .ok (.areturn, 1) := by decide +kernel
abbrev c_TG_number : ByteArray := prog_1_method_7_code
abbrev y_TG_number : MethodName := ⟨"TwoGenerations", "number", "(II)V"⟩
abbrev h_TG_number : Cond := .code y_TG_number c_TG_number 3 none
theorem d_TG_number_0 : decode c_TG_number 0 = .ok (.aload_n 0, 1) := by decide +kernel
theorem d_TG_number_1 : decode c_TG_number 1 = .ok (.iload_n 1, 1) := by decide +kernel
theorem d_TG_number_2 : decode c_TG_number 2 = .ok (.invokevirtual 42, 3) := by decide +kernel
theorem d_TG_number_5 : decode c_TG_number 5 = .ok (.ifCond .eq 14, 3) := by decide +kernel
theorem d_TG_number_8 : decode c_TG_number 8 = .ok (.iload_n 2, 1) := by decide +kernel
theorem d_TG_number_9 : decode c_TG_number 9 = .ok (.ldc 93, 2) := by decide +kernel
theorem d_TG_number_11 : decode c_TG_number 11 = .ok (.ldc 94, 2) := by decide +kernel
theorem d_TG_number_13 : decode c_TG_number 13 = .ok (.invokestatic 7, 3) := by decide +kernel
theorem d_TG_number_16 : decode c_TG_number 16 = .ok (.ifCond .ne 13, 3) := by decide +kernel
theorem d_TG_number_19 : decode c_TG_number 19 = .ok (.new 46, 3) := by decide +kernel
theorem d_TG_number_22 : decode c_TG_number 22 = .ok (.dup, 1) := by decide +kernel
theorem d_TG_number_23 : decode c_TG_number 23 = .ok (.ldc 95, 2) := by decide +kernel
theorem d_TG_number_25 : decode c_TG_number 25 = .ok (.invokespecial 50, 3) := by decide +kernel
theorem d_TG_number_28 : decode c_TG_number 28 = .ok (.athrow, 1) := by decide +kernel
theorem d_TG_number_29 : decode c_TG_number 29 = .ok (.aload_n 0, 1) := by decide +kernel
theorem d_TG_number_30 : decode c_TG_number 30 = .ok (.getfield 15, 3) := by decide +kernel
theorem d_TG_number_33 : decode c_TG_number 33 = .ok (.iload_n 1, 1) := by decide +kernel
theorem d_TG_number_34 : decode c_TG_number 34 = .ok (.new 97, 3) := by decide +kernel
theorem d_TG_number_37 : decode c_TG_number 37 = .ok (.dup, 1) := by decide +kernel
theorem d_TG_number_38 : decode c_TG_number 38 = .ok (.iload_n 2, 1) := by decide +kernel
theorem d_TG_number_39 : decode c_TG_number 39 = .ok (.invokespecial 99, 3) := by decide +kernel
theorem d_TG_number_42 : decode c_TG_number 42 = .ok (.aastore, 1) := by decide +kernel
theorem d_TG_number_43 : decode c_TG_number 43 = .ok (.return_, 1) := by decide +kernel
abbrev c_Wh_init : ByteArray := prog_8_method_1_code
abbrev y_Wh_init : MethodName := ⟨"TwoGenerations$Whole", "<init>", "(I)V"⟩
abbrev h_Wh_init : Cond := .code y_Wh_init c_Wh_init 2 none
theorem d_Wh_init_0 : decode c_Wh_init 0 = .ok (.aload_n 0, 1) := by decide +kernel
theorem d_Wh_init_1 : decode c_Wh_init 1 = .ok (.invokespecial 1, 3) := by decide +kernel
theorem d_Wh_init_4 : decode c_Wh_init 4 = .ok (.aload_n 0, 1) := by decide +kernel
theorem d_Wh_init_5 : decode c_Wh_init 5 = .ok (.iload_n 1, 1) := by decide +kernel
theorem d_Wh_init_6 : decode c_Wh_init 6 = .ok (.putfield 7, 3) := by decide +kernel
theorem d_Wh_init_9 : decode c_Wh_init 9 = .ok (.return_, 1) := by decide +kernel
abbrev c_TG_clear : ByteArray := prog_1_method_8_code
abbrev y_TG_clear : MethodName := ⟨"TwoGenerations", "clear", "(I)V"⟩
abbrev h_TG_clear : Cond := .code y_TG_clear c_TG_clear 2 none
theorem d_TG_clear_0 : decode c_TG_clear 0 = .ok (.aload_n 0, 1) := by decide +kernel
theorem d_TG_clear_1 : decode c_TG_clear 1 = .ok (.iload_n 1, 1) := by decide +kernel
theorem d_TG_clear_2 : decode c_TG_clear 2 = .ok (.invokevirtual 42, 3) := by decide +kernel
theorem d_TG_clear_5 : decode c_TG_clear 5 = .ok (.ifCond .ne 13, 3) := by decide +kernel
theorem d_TG_clear_8 : decode c_TG_clear 8 = .ok (.new 46, 3) := by decide +kernel
theorem d_TG_clear_11 : decode c_TG_clear 11 = .ok (.dup, 1) := by decide +kernel
theorem d_TG_clear_12 : decode c_TG_clear 12 = .ok (.ldc 100, 2) := by decide +kernel
theorem d_TG_clear_14 : decode c_TG_clear 14 = .ok (.invokespecial 50, 3) := by decide +kernel
theorem d_TG_clear_17 : decode c_TG_clear 17 = .ok (.athrow, 1) := by decide +kernel
theorem d_TG_clear_18 : decode c_TG_clear 18 = .ok (.aload_n 0, 1) := by decide +kernel
theorem d_TG_clear_19 : decode c_TG_clear 19 = .ok (.getfield 15, 3) := by decide +kernel
theorem d_TG_clear_22 : decode c_TG_clear 22 = .ok (.iload_n 1, 1) := by decide +kernel
theorem d_TG_clear_23 : decode c_TG_clear 23 = .ok (.aconst_null, 1) := by decide +kernel
theorem d_TG_clear_24 : decode c_TG_clear 24 = .ok (.aastore, 1) := by decide +kernel
theorem d_TG_clear_25 : decode c_TG_clear 25 = .ok (.return_, 1) := by decide +kernel
abbrev c_TG_move : ByteArray := prog_1_method_9_code
abbrev y_TG_move : MethodName := ⟨"TwoGenerations", "move", "(II)V"⟩
abbrev h_TG_move : Cond := .code y_TG_move c_TG_move 3 none
theorem d_TG_move_0 : decode c_TG_move 0 = .ok (.aload_n 0, 1) := by decide +kernel
theorem d_TG_move_1 : decode c_TG_move 1 = .ok (.iload_n 1, 1) := by decide +kernel
theorem d_TG_move_2 : decode c_TG_move 2 = .ok (.invokevirtual 42, 3) := by decide +kernel
theorem d_TG_move_5 : decode c_TG_move 5 = .ok (.ifCond .eq 11, 3) := by decide +kernel
theorem d_TG_move_8 : decode c_TG_move 8 = .ok (.aload_n 0, 1) := by decide +kernel
theorem d_TG_move_9 : decode c_TG_move 9 = .ok (.iload_n 2, 1) := by decide +kernel
theorem d_TG_move_10 : decode c_TG_move 10 = .ok (.invokevirtual 42, 3) := by decide +kernel
theorem d_TG_move_13 : decode c_TG_move 13 = .ok (.ifCond .ne 13, 3) := by decide +kernel
theorem d_TG_move_16 : decode c_TG_move 16 = .ok (.new 46, 3) := by decide +kernel
theorem d_TG_move_19 : decode c_TG_move 19 = .ok (.dup, 1) := by decide +kernel
theorem d_TG_move_20 : decode c_TG_move 20 = .ok (.ldc 100, 2) := by decide +kernel
theorem d_TG_move_22 : decode c_TG_move 22 = .ok (.invokespecial 50, 3) := by decide +kernel
theorem d_TG_move_25 : decode c_TG_move 25 = .ok (.athrow, 1) := by decide +kernel
theorem d_TG_move_26 : decode c_TG_move 26 = .ok (.aload_n 0, 1) := by decide +kernel
theorem d_TG_move_27 : decode c_TG_move 27 = .ok (.getfield 15, 3) := by decide +kernel
theorem d_TG_move_30 : decode c_TG_move 30 = .ok (.iload_n 1, 1) := by decide +kernel
theorem d_TG_move_31 : decode c_TG_move 31 = .ok (.aload_n 0, 1) := by decide +kernel
theorem d_TG_move_32 : decode c_TG_move 32 = .ok (.getfield 15, 3) := by decide +kernel
theorem d_TG_move_35 : decode c_TG_move 35 = .ok (.iload_n 2, 1) := by decide +kernel
theorem d_TG_move_36 : decode c_TG_move 36 = .ok (.aaload, 1) := by decide +kernel
theorem d_TG_move_37 : decode c_TG_move 37 = .ok (.aastore, 1) := by decide +kernel
theorem d_TG_move_38 : decode c_TG_move 38 = .ok (.return_, 1) := by decide +kernel
abbrev c_TG_small : ByteArray := prog_1_method_16_code
abbrev y_TG_small : MethodName := ⟨"TwoGenerations", "small", "()I"⟩
abbrev h_TG_small : Cond := .code y_TG_small c_TG_small 2 (some .int)
theorem d_TG_small_0 : decode c_TG_small 0 = .ok (.aload_n 0, 1) := by decide +kernel
theorem d_TG_small_1 : decode c_TG_small 1 = .ok (.invokevirtual 128, 3) := by decide +kernel
theorem d_TG_small_4 : decode c_TG_small 4 = .ok (.istore_n 1, 1) := by decide +kernel
theorem d_TG_small_5 : decode c_TG_small 5 = .ok (.iload_n 1, 1) := by decide +kernel
theorem d_TG_small_6 : decode c_TG_small 6 = .ok (.iconst (-1), 1) := by decide +kernel
theorem d_TG_small_7 : decode c_TG_small 7 = .ok (.if_icmp .ne 13, 3) := by decide +kernel
theorem d_TG_small_10 : decode c_TG_small 10 = .ok (.new 132, 3) := by decide +kernel
theorem d_TG_small_13 : decode c_TG_small 13 = .ok (.dup, 1) := by decide +kernel
theorem d_TG_small_14 : decode c_TG_small 14 = .ok (.ldc 134, 2) := by decide +kernel
theorem d_TG_small_16 : decode c_TG_small 16 = .ok (.invokespecial 136, 3) := by decide +kernel
theorem d_TG_small_19 : decode c_TG_small 19 = .ok (.athrow, 1) := by decide +kernel
theorem d_TG_small_20 : decode c_TG_small 20 = .ok (.iload_n 1, 1) := by decide +kernel
theorem d_TG_small_21 : decode c_TG_small 21 = .ok (.ireturn, 1) := by decide +kernel
