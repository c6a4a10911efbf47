abbrev c_Mo_init : ByteArray := prog_10_method_1_code
abbrev y_Mo_init : MethodName := ⟨"TwoGenerationsModel", "<init>", "(III)V"⟩
abbrev h_Mo_init : Cond := .code y_Mo_init c_Mo_init 5 none
theorem d_Mo_init_0 : decode c_Mo_init 0 = .ok (.aload_n 0, 1) := by decide +kernel
theorem d_Mo_init_1 : decode c_Mo_init 1 = .ok (.invokespecial 1, 3) := by decide +kernel
theorem d_Mo_init_4 : decode c_Mo_init 4 = .ok (.aload_n 0, 1) := by decide +kernel
theorem d_Mo_init_5 : decode c_Mo_init 5 = .ok (.bipush 8, 2) := by decide +kernel
theorem d_Mo_init_7 : decode c_Mo_init 7 = .ok (.newarray .long, 2) := by decide +kernel
theorem d_Mo_init_9 : decode c_Mo_init 9 = .ok (.putfield 7, 3) := by decide +kernel
theorem d_Mo_init_12 : decode c_Mo_init 12 = .ok (.aload_n 0, 1) := by decide +kernel
theorem d_Mo_init_13 : decode c_Mo_init 13 = .ok (.sipush 200, 3) := by decide +kernel
theorem d_Mo_init_16 : decode c_Mo_init 16 = .ok (.newarray .boolean, 2) := by decide +kernel
theorem d_Mo_init_18 : decode c_Mo_init 18 = .ok (.putfield 13, 3) := by decide +kernel
theorem d_Mo_init_21 : decode c_Mo_init 21 = .ok (.aload_n 0, 1) := by decide +kernel
theorem d_Mo_init_22 : decode c_Mo_init 22 = .ok (.sipush 200, 3) := by decide +kernel
theorem d_Mo_init_25 : decode c_Mo_init 25 = .ok (.newarray .boolean, 2) := by decide +kernel
theorem d_Mo_init_27 : decode c_Mo_init 27 = .ok (.putfield 17, 3) := by decide +kernel
theorem d_Mo_init_30 : decode c_Mo_init 30 = .ok (.aload_n 0, 1) := by decide +kernel
theorem d_Mo_init_31 : decode c_Mo_init 31 = .ok (.sipush 200, 3) := by decide +kernel
theorem d_Mo_init_34 : decode c_Mo_init 34 = .ok (.newarray .int, 2) := by decide +kernel
theorem d_Mo_init_36 : decode c_Mo_init 36 = .ok (.putfield 20, 3) := by decide +kernel
theorem d_Mo_init_39 : decode c_Mo_init 39 = .ok (.aload_n 0, 1) := by decide +kernel
theorem d_Mo_init_40 : decode c_Mo_init 40 = .ok (.sipush 200, 3) := by decide +kernel
theorem d_Mo_init_43 : decode c_Mo_init 43 = .ok (.newarray .int, 2) := by decide +kernel
theorem d_Mo_init_45 : decode c_Mo_init 45 = .ok (.putfield 24, 3) := by decide +kernel
theorem d_Mo_init_48 : decode c_Mo_init 48 = .ok (.aload_n 0, 1) := by decide +kernel
theorem d_Mo_init_49 : decode c_Mo_init 49 = .ok (.sipush 2200, 3) := by decide +kernel
theorem d_Mo_init_52 : decode c_Mo_init 52 = .ok (.newarray .long, 2) := by decide +kernel
theorem d_Mo_init_54 : decode c_Mo_init 54 = .ok (.putfield 27, 3) := by decide +kernel
theorem d_Mo_init_57 : decode c_Mo_init 57 = .ok (.aload_n 0, 1) := by decide +kernel
theorem d_Mo_init_58 : decode c_Mo_init 58 = .ok (.sipush 200, 3) := by decide +kernel
theorem d_Mo_init_61 : decode c_Mo_init 61 = .ok (.newarray .boolean, 2) := by decide +kernel
theorem d_Mo_init_63 : decode c_Mo_init 63 = .ok (.putfield 30, 3) := by decide +kernel
theorem d_Mo_init_66 : decode c_Mo_init 66 = .ok (.aload_n 0, 1) := by decide +kernel
theorem d_Mo_init_67 : decode c_Mo_init 67 = .ok (.iload_n 1, 1) := by decide +kernel
theorem d_Mo_init_68 : decode c_Mo_init 68 = .ok (.iconst 1, 1) := by decide +kernel
theorem d_Mo_init_69 : decode c_Mo_init 69 = .ok (.if_icmp .lt 13, 3) := by decide +kernel
theorem d_Mo_init_72 : decode c_Mo_init 72 = .ok (.iload_n 1, 1) := by decide +kernel
theorem d_Mo_init_73 : decode c_Mo_init 73 = .ok (.bipush 8, 2) := by decide +kernel
theorem d_Mo_init_75 : decode c_Mo_init 75 = .ok (.if_icmp .gt 7, 3) := by decide +kernel
theorem d_Mo_init_78 : decode c_Mo_init 78 = .ok (.iload_n 1, 1) := by decide +kernel
theorem d_Mo_init_79 : decode c_Mo_init 79 = .ok (.goto 4, 3) := by decide +kernel
theorem d_Mo_init_82 : decode c_Mo_init 82 = .ok (.iconst 4, 1) := by decide +kernel
theorem d_Mo_init_83 : decode c_Mo_init 83 = .ok (.putfield 33, 3) := by decide +kernel
theorem d_Mo_init_86 : decode c_Mo_init 86 = .ok (.aload_n 0, 1) := by decide +kernel
theorem d_Mo_init_87 : decode c_Mo_init 87 = .ok (.iload_n 2, 1) := by decide +kernel
theorem d_Mo_init_88 : decode c_Mo_init 88 = .ok (.iconst 4, 1) := by decide +kernel
theorem d_Mo_init_89 : decode c_Mo_init 89 = .ok (.if_icmp .lt 13, 3) := by decide +kernel
theorem d_Mo_init_92 : decode c_Mo_init 92 = .ok (.iload_n 2, 1) := by decide +kernel
theorem d_Mo_init_93 : decode c_Mo_init 93 = .ok (.bipush 60, 2) := by decide +kernel
theorem d_Mo_init_95 : decode c_Mo_init 95 = .ok (.if_icmp .gt 7, 3) := by decide +kernel
theorem d_Mo_init_98 : decode c_Mo_init 98 = .ok (.iload_n 2, 1) := by decide +kernel
theorem d_Mo_init_99 : decode c_Mo_init 99 = .ok (.goto 5, 3) := by decide +kernel
theorem d_Mo_init_102 : decode c_Mo_init 102 = .ok (.bipush 16, 2) := by decide +kernel
theorem d_Mo_init_104 : decode c_Mo_init 104 = .ok (.putfield 37, 3) := by decide +kernel
theorem d_Mo_init_107 : decode c_Mo_init 107 = .ok (.aload_n 0, 1) := by decide +kernel
theorem d_Mo_init_108 : decode c_Mo_init 108 = .ok (.iload_n 3, 1) := by decide +kernel
theorem d_Mo_init_109 : decode c_Mo_init 109 = .ok (.iconst 4, 1) := by decide +kernel
theorem d_Mo_init_110 : decode c_Mo_init 110 = .ok (.if_icmp .lt 13, 3) := by decide +kernel
theorem d_Mo_init_113 : decode c_Mo_init 113 = .ok (.iload_n 3, 1) := by decide +kernel
theorem d_Mo_init_114 : decode c_Mo_init 114 = .ok (.bipush 120, 2) := by decide +kernel
theorem d_Mo_init_116 : decode c_Mo_init 116 = .ok (.if_icmp .gt 7, 3) := by decide +kernel
theorem d_Mo_init_119 : decode c_Mo_init 119 = .ok (.iload_n 3, 1) := by decide +kernel
theorem d_Mo_init_120 : decode c_Mo_init 120 = .ok (.goto 5, 3) := by decide +kernel
theorem d_Mo_init_123 : decode c_Mo_init 123 = .ok (.bipush 40, 2) := by decide +kernel
theorem d_Mo_init_125 : decode c_Mo_init 125 = .ok (.putfield 40, 3) := by decide +kernel
theorem d_Mo_init_128 : decode c_Mo_init 128 = .ok (.iconst 0, 1) := by decide +kernel
theorem d_Mo_init_129 : decode c_Mo_init 129 = .ok (.istore 4, 2) := by decide +kernel
theorem d_Mo_init_131 : decode c_Mo_init 131 = .ok (.iload 4, 2) := by decide +kernel
theorem d_Mo_init_133 : decode c_Mo_init 133 = .ok (.bipush 8, 2) := by decide +kernel
theorem d_Mo_init_135 : decode c_Mo_init 135 = .ok (.if_icmp .ge 19, 3) := by decide +kernel
theorem d_Mo_init_138 : decode c_Mo_init 138 = .ok (.aload_n 0, 1) := by decide +kernel
theorem d_Mo_init_139 : decode c_Mo_init 139 = .ok (.getfield 7, 3) := by decide +kernel
theorem d_Mo_init_142 : decode c_Mo_init 142 = .ok (.iload 4, 2) := by decide +kernel
theorem d_Mo_init_144 : decode c_Mo_init 144 = .ok (.ldc2_w 43, 3) := by decide +kernel
theorem d_Mo_init_147 : decode c_Mo_init 147 = .ok (.lastore, 1) := by decide +kernel
theorem d_Mo_init_148 : decode c_Mo_init 148 = .ok (.iinc 4 1, 3) := by decide +kernel
theorem d_Mo_init_151 : decode c_Mo_init 151 = .ok (.goto (-20), 3) := by decide +kernel
theorem d_Mo_init_154 : decode c_Mo_init 154 = .ok (.return_, 1) := by decide +kernel
abbrev c_Mo_thrown : ByteArray := prog_10_method_2_code
abbrev y_Mo_thrown : MethodName := ⟨"TwoGenerationsModel", "thrown", "()I"⟩
abbrev h_Mo_thrown : Cond := .code y_Mo_thrown c_Mo_thrown 1 (some .int)
theorem d_Mo_thrown_0 : decode c_Mo_thrown 0 = .ok (.aload_n 0, 1) := by decide +kernel
theorem d_Mo_thrown_1 : decode c_Mo_thrown 1 = .ok (.getfield 45, 3) := by decide +kernel
theorem d_Mo_thrown_4 : decode c_Mo_thrown 4 = .ok (.ireturn, 1) := by decide +kernel
abbrev c_Mo_make : ByteArray := prog_10_method_19_code
abbrev y_Mo_make : MethodName := ⟨"TwoGenerationsModel", "make", "(II)V"⟩
abbrev h_Mo_make : Cond := .code y_Mo_make c_Mo_make 3 none
theorem d_Mo_make_0 : decode c_Mo_make 0 = .ok (.aload_n 0, 1) := by decide +kernel
theorem d_Mo_make_1 : decode c_Mo_make 1 = .ok (.aload_n 0, 1) := by decide +kernel
theorem d_Mo_make_2 : decode c_Mo_make 2 = .ok (.iload_n 1, 1) := by decide +kernel
theorem d_Mo_make_3 : decode c_Mo_make 3 = .ok (.invokevirtual 48, 3) := by decide +kernel
theorem d_Mo_make_6 : decode c_Mo_make 6 = .ok (.ifCond .eq 25, 3) := by decide +kernel
theorem d_Mo_make_9 : decode c_Mo_make 9 = .ok (.iload_n 2, 1) := by decide +kernel
theorem d_Mo_make_10 : decode c_Mo_make 10 = .ok (.ifCond .lt 21, 3) := by decide +kernel
theorem d_Mo_make_13 : decode c_Mo_make 13 = .ok (.iload_n 2, 1) := by decide +kernel
theorem d_Mo_make_14 : decode c_Mo_make 14 = .ok (.bipush 11, 2) := by decide +kernel
theorem d_Mo_make_16 : decode c_Mo_make 16 = .ok (.if_icmp .gt 15, 3) := by decide +kernel
theorem d_Mo_make_19 : decode c_Mo_make 19 = .ok (.iload_n 2, 1) := by decide +kernel
theorem d_Mo_make_20 : decode c_Mo_make 20 = .ok (.aload_n 0, 1) := by decide +kernel
theorem d_Mo_make_21 : decode c_Mo_make 21 = .ok (.getfield 37, 3) := by decide +kernel
theorem d_Mo_make_24 : decode c_Mo_make 24 = .ok (.if_icmp .ge 7, 3) := by decide +kernel
theorem d_Mo_make_27 : decode c_Mo_make 27 = .ok (.iconst 1, 1) := by decide +kernel
theorem d_Mo_make_28 : decode c_Mo_make 28 = .ok (.goto 4, 3) := by decide +kernel
theorem d_Mo_make_31 : decode c_Mo_make 31 = .ok (.iconst 0, 1) := by decide +kernel
theorem d_Mo_make_32 : decode c_Mo_make 32 = .ok (.iconst 1, 1) := by decide +kernel
theorem d_Mo_make_33 : decode c_Mo_make 33 = .ok (.invokevirtual 98, 3) := by decide +kernel
theorem d_Mo_make_36 : decode c_Mo_make 36 = .ok (.ifCond .eq 18, 3) := by decide +kernel
theorem d_Mo_make_39 : decode c_Mo_make 39 = .ok (.aload_n 0, 1) := by decide +kernel
theorem d_Mo_make_40 : decode c_Mo_make 40 = .ok (.aload_n 0, 1) := by decide +kernel
theorem d_Mo_make_41 : decode c_Mo_make 41 = .ok (.iload_n 2, 1) := by decide +kernel
theorem d_Mo_make_42 : decode c_Mo_make 42 = .ok (.iconst 1, 1) := by decide +kernel
theorem d_Mo_make_43 : decode c_Mo_make 43 = .ok (.iadd, 1) := by decide +kernel
theorem d_Mo_make_44 : decode c_Mo_make 44 = .ok (.invokevirtual 102, 3) := by decide +kernel
theorem d_Mo_make_47 : decode c_Mo_make 47 = .ok (.iconst 2, 1) := by decide +kernel
theorem d_Mo_make_48 : decode c_Mo_make 48 = .ok (.invokevirtual 98, 3) := by decide +kernel
theorem d_Mo_make_51 : decode c_Mo_make 51 = .ok (.ifCond .ne 4, 3) := by decide +kernel
theorem d_Mo_make_54 : decode c_Mo_make 54 = .ok (.return_, 1) := by decide +kernel
theorem d_Mo_make_55 : decode c_Mo_make 55 = .ok (.aload_n 0, 1) := by decide +kernel
theorem d_Mo_make_56 : decode c_Mo_make 56 = .ok (.iload_n 1, 1) := by decide +kernel
theorem d_Mo_make_57 : decode c_Mo_make 57 = .ok (.iload_n 2, 1) := by decide +kernel
theorem d_Mo_make_58 : decode c_Mo_make 58 = .ok (.iconst (-1), 1) := by decide +kernel
theorem d_Mo_make_59 : decode c_Mo_make 59 = .ok (.invokevirtual 105, 3) := by decide +kernel
theorem d_Mo_make_62 : decode c_Mo_make 62 = .ok (.return_, 1) := by decide +kernel
abbrev c_Mo_is : ByteArray := prog_10_method_4_code
abbrev y_Mo_is : MethodName := ⟨"TwoGenerationsModel", "is", "(I)Z"⟩
abbrev h_Mo_is : Cond := .code y_Mo_is c_Mo_is 2 (some .boolean)
theorem d_Mo_is_0 : decode c_Mo_is 0 = .ok (.iload_n 1, 1) := by decide +kernel
theorem d_Mo_is_1 : decode c_Mo_is 1 = .ok (.ifCond .lt 15, 3) := by decide +kernel
theorem d_Mo_is_4 : decode c_Mo_is 4 = .ok (.iload_n 1, 1) := by decide +kernel
theorem d_Mo_is_5 : decode c_Mo_is 5 = .ok (.aload_n 0, 1) := by decide +kernel
theorem d_Mo_is_6 : decode c_Mo_is 6 = .ok (.getfield 33, 3) := by decide +kernel
theorem d_Mo_is_9 : decode c_Mo_is 9 = .ok (.if_icmp .ge 7, 3) := by decide +kernel
theorem d_Mo_is_12 : decode c_Mo_is 12 = .ok (.iconst 1, 1) := by decide +kernel
theorem d_Mo_is_13 : decode c_Mo_is 13 = .ok (.goto 4, 3) := by decide +kernel
theorem d_Mo_is_16 : decode c_Mo_is 16 = .ok (.iconst 0, 1) := by decide +kernel
theorem d_Mo_is_17 : decode c_Mo_is 17 = .ok (.ireturn, 1) := by decide +kernel
abbrev c_Mo_when : ByteArray := prog_10_method_3_code
abbrev y_Mo_when : MethodName := ⟨"TwoGenerationsModel", "when", "(ZI)Z"⟩
abbrev h_Mo_when : Cond := .code y_Mo_when c_Mo_when 3 (some .boolean)
theorem d_Mo_when_0 : decode c_Mo_when 0 = .ok (.aload_n 0, 1) := by decide +kernel
theorem d_Mo_when_1 : decode c_Mo_when 1 = .ok (.iload_n 1, 1) := by decide +kernel
theorem d_Mo_when_2 : decode c_Mo_when 2 = .ok (.ifCond .eq 7, 3) := by decide +kernel
theorem d_Mo_when_5 : decode c_Mo_when 5 = .ok (.iconst 0, 1) := by decide +kernel
theorem d_Mo_when_6 : decode c_Mo_when 6 = .ok (.goto 4, 3) := by decide +kernel
theorem d_Mo_when_9 : decode c_Mo_when 9 = .ok (.iload_n 2, 1) := by decide +kernel
theorem d_Mo_when_10 : decode c_Mo_when 10 = .ok (.putfield 45, 3) := by decide +kernel
theorem d_Mo_when_13 : decode c_Mo_when 13 = .ok (.iload_n 1, 1) := by decide +kernel
theorem d_Mo_when_14 : decode c_Mo_when 14 = .ok (.ireturn, 1) := by decide +kernel
abbrev c_Mo_room : ByteArray := prog_10_method_17_code
abbrev y_Mo_room : MethodName := ⟨"TwoGenerationsModel", "room", "(I)Z"⟩
abbrev h_Mo_room : Cond := .code y_Mo_room c_Mo_room 2 (some .boolean)
theorem d_Mo_room_0 : decode c_Mo_room 0 = .ok (.aload_n 0, 1) := by decide +kernel
theorem d_Mo_room_1 : decode c_Mo_room 1 = .ok (.iconst 0, 1) := by decide +kernel
theorem d_Mo_room_2 : decode c_Mo_room 2 = .ok (.invokevirtual 82, 3) := by decide +kernel
theorem d_Mo_room_5 : decode c_Mo_room 5 = .ok (.iload_n 1, 1) := by decide +kernel
theorem d_Mo_room_6 : decode c_Mo_room 6 = .ok (.iadd, 1) := by decide +kernel
theorem d_Mo_room_7 : decode c_Mo_room 7 = .ok (.aload_n 0, 1) := by decide +kernel
theorem d_Mo_room_8 : decode c_Mo_room 8 = .ok (.getfield 37, 3) := by decide +kernel
theorem d_Mo_room_11 : decode c_Mo_room 11 = .ok (.if_icmp .le 10, 3) := by decide +kernel
theorem d_Mo_room_14 : decode c_Mo_room 14 = .ok (.aload_n 0, 1) := by decide +kernel
theorem d_Mo_room_15 : decode c_Mo_room 15 = .ok (.invokevirtual 95, 3) := by decide +kernel
theorem d_Mo_room_18 : decode c_Mo_room 18 = .ok (.ifCond .lt 7, 3) := by decide +kernel
theorem d_Mo_room_21 : decode c_Mo_room 21 = .ok (.iconst 1, 1) := by decide +kernel
theorem d_Mo_room_22 : decode c_Mo_room 22 = .ok (.goto 4, 3) := by decide +kernel
theorem d_Mo_room_25 : decode c_Mo_room 25 = .ok (.iconst 0, 1) := by decide +kernel
theorem d_Mo_room_26 : decode c_Mo_room 26 = .ok (.ireturn, 1) := by decide +kernel
abbrev c_Mo_taken : ByteArray := prog_10_method_7_code
abbrev y_Mo_taken : MethodName := ⟨"TwoGenerationsModel", "taken", "(Z)I"⟩
abbrev h_Mo_taken : Cond := .code y_Mo_taken c_Mo_taken 4 (some .int)
theorem d_Mo_taken_0 : decode c_Mo_taken 0 = .ok (.iconst 0, 1) := by decide +kernel
theorem d_Mo_taken_1 : decode c_Mo_taken 1 = .ok (.istore_n 2, 1) := by decide +kernel
theorem d_Mo_taken_2 : decode c_Mo_taken 2 = .ok (.iconst 0, 1) := by decide +kernel
theorem d_Mo_taken_3 : decode c_Mo_taken 3 = .ok (.istore_n 3, 1) := by decide +kernel
theorem d_Mo_taken_4 : decode c_Mo_taken 4 = .ok (.iload_n 3, 1) := by decide +kernel
theorem d_Mo_taken_5 : decode c_Mo_taken 5 = .ok (.sipush 200, 3) := by decide +kernel
theorem d_Mo_taken_8 : decode c_Mo_taken 8 = .ok (.if_icmp .ge 40, 3) := by decide +kernel
theorem d_Mo_taken_11 : decode c_Mo_taken 11 = .ok (.iload_n 2, 1) := by decide +kernel
theorem d_Mo_taken_12 : decode c_Mo_taken 12 = .ok (.aload_n 0, 1) := by decide +kernel
theorem d_Mo_taken_13 : decode c_Mo_taken 13 = .ok (.getfield 13, 3) := by decide +kernel
theorem d_Mo_taken_16 : decode c_Mo_taken 16 = .ok (.iload_n 3, 1) := by decide +kernel
theorem d_Mo_taken_17 : decode c_Mo_taken 17 = .ok (.baload, 1) := by decide +kernel
theorem d_Mo_taken_18 : decode c_Mo_taken 18 = .ok (.ifCond .eq 21, 3) := by decide +kernel
theorem d_Mo_taken_21 : decode c_Mo_taken 21 = .ok (.aload_n 0, 1) := by decide +kernel
theorem d_Mo_taken_22 : decode c_Mo_taken 22 = .ok (.getfield 17, 3) := by decide +kernel
theorem d_Mo_taken_25 : decode c_Mo_taken 25 = .ok (.iload_n 3, 1) := by decide +kernel
theorem d_Mo_taken_26 : decode c_Mo_taken 26 = .ok (.baload, 1) := by decide +kernel
theorem d_Mo_taken_27 : decode c_Mo_taken 27 = .ok (.iload_n 1, 1) := by decide +kernel
theorem d_Mo_taken_28 : decode c_Mo_taken 28 = .ok (.if_icmp .ne 11, 3) := by decide +kernel
theorem d_Mo_taken_31 : decode c_Mo_taken 31 = .ok (.aload_n 0, 1) := by decide +kernel
theorem d_Mo_taken_32 : decode c_Mo_taken 32 = .ok (.iload_n 3, 1) := by decide +kernel
theorem d_Mo_taken_33 : decode c_Mo_taken 33 = .ok (.invokevirtual 54, 3) := by decide +kernel
theorem d_Mo_taken_36 : decode c_Mo_taken 36 = .ok (.goto 4, 3) := by decide +kernel
theorem d_Mo_taken_39 : decode c_Mo_taken 39 = .ok (.iconst 0, 1) := by decide +kernel
theorem d_Mo_taken_40 : decode c_Mo_taken 40 = .ok (.iadd, 1) := by decide +kernel
theorem d_Mo_taken_41 : decode c_Mo_taken 41 = .ok (.istore_n 2, 1) := by decide +kernel
theorem d_Mo_taken_42 : decode c_Mo_taken 42 = .ok (.iinc 3 1, 3) := by decide +kernel
theorem d_Mo_taken_45 : decode c_Mo_taken 45 = .ok (.goto (-41), 3) := by decide +kernel
theorem d_Mo_taken_48 : decode c_Mo_taken 48 = .ok (.iload_n 2, 1) := by decide +kernel
theorem d_Mo_taken_49 : decode c_Mo_taken 49 = .ok (.ireturn, 1) := by decide +kernel
abbrev c_Mo_cellsOf : ByteArray := prog_10_method_6_code
abbrev y_Mo_cellsOf : MethodName := ⟨"TwoGenerationsModel", "cellsOf", "(I)I"⟩
abbrev h_Mo_cellsOf : Cond := .code y_Mo_cellsOf c_Mo_cellsOf 2 (some .int)
theorem d_Mo_cellsOf_0 : decode c_Mo_cellsOf 0 = .ok (.aload_n 0, 1) := by decide +kernel
theorem d_Mo_cellsOf_1 : decode c_Mo_cellsOf 1 = .ok (.getfield 20, 3) := by decide +kernel
theorem d_Mo_cellsOf_4 : decode c_Mo_cellsOf 4 = .ok (.iload_n 1, 1) := by decide +kernel
theorem d_Mo_cellsOf_5 : decode c_Mo_cellsOf 5 = .ok (.iaload, 1) := by decide +kernel
theorem d_Mo_cellsOf_6 : decode c_Mo_cellsOf 6 = .ok (.ifCond .ge 7, 3) := by decide +kernel
theorem d_Mo_cellsOf_9 : decode c_Mo_cellsOf 9 = .ok (.iconst 2, 1) := by decide +kernel
theorem d_Mo_cellsOf_10 : decode c_Mo_cellsOf 10 = .ok (.goto 11, 3) := by decide +kernel
theorem d_Mo_cellsOf_13 : decode c_Mo_cellsOf 13 = .ok (.aload_n 0, 1) := by decide +kernel
theorem d_Mo_cellsOf_14 : decode c_Mo_cellsOf 14 = .ok (.getfield 20, 3) := by decide +kernel
theorem d_Mo_cellsOf_17 : decode c_Mo_cellsOf 17 = .ok (.iload_n 1, 1) := by decide +kernel
theorem d_Mo_cellsOf_18 : decode c_Mo_cellsOf 18 = .ok (.iaload, 1) := by decide +kernel
theorem d_Mo_cellsOf_19 : decode c_Mo_cellsOf 19 = .ok (.iconst 1, 1) := by decide +kernel
theorem d_Mo_cellsOf_20 : decode c_Mo_cellsOf 20 = .ok (.iadd, 1) := by decide +kernel
theorem d_Mo_cellsOf_21 : decode c_Mo_cellsOf 21 = .ok (.ireturn, 1) := by decide +kernel
abbrev c_Mo_grow : ByteArray := prog_10_method_16_code
abbrev y_Mo_grow : MethodName := ⟨"TwoGenerationsModel", "grow", "()I"⟩
abbrev h_Mo_grow : Cond := .code y_Mo_grow c_Mo_grow 3 (some .int)
theorem d_Mo_grow_0 : decode c_Mo_grow 0 = .ok (.aload_n 0, 1) := by decide +kernel
theorem d_Mo_grow_1 : decode c_Mo_grow 1 = .ok (.getfield 40, 3) := by decide +kernel
theorem d_Mo_grow_4 : decode c_Mo_grow 4 = .ok (.aload_n 0, 1) := by decide +kernel
theorem d_Mo_grow_5 : decode c_Mo_grow 5 = .ok (.iconst 1, 1) := by decide +kernel
theorem d_Mo_grow_6 : decode c_Mo_grow 6 = .ok (.invokevirtual 82, 3) := by decide +kernel
theorem d_Mo_grow_9 : decode c_Mo_grow 9 = .ok (.isub, 1) := by decide +kernel
theorem d_Mo_grow_10 : decode c_Mo_grow 10 = .ok (.aload_n 0, 1) := by decide +kernel
theorem d_Mo_grow_11 : decode c_Mo_grow 11 = .ok (.iconst 0, 1) := by decide +kernel
theorem d_Mo_grow_12 : decode c_Mo_grow 12 = .ok (.invokevirtual 82, 3) := by decide +kernel
theorem d_Mo_grow_15 : decode c_Mo_grow 15 = .ok (.if_icmp .ge 8, 3) := by decide +kernel
theorem d_Mo_grow_18 : decode c_Mo_grow 18 = .ok (.aload_n 0, 1) := by decide +kernel
theorem d_Mo_grow_19 : decode c_Mo_grow 19 = .ok (.invokevirtual 86, 3) := by decide +kernel
theorem d_Mo_grow_22 : decode c_Mo_grow 22 = .ok (.pop, 1) := by decide +kernel
theorem d_Mo_grow_23 : decode c_Mo_grow 23 = .ok (.aload_n 0, 1) := by decide +kernel
theorem d_Mo_grow_24 : decode c_Mo_grow 24 = .ok (.invokevirtual 70, 3) := by decide +kernel
theorem d_Mo_grow_27 : decode c_Mo_grow 27 = .ok (.aload_n 0, 1) := by decide +kernel
theorem d_Mo_grow_28 : decode c_Mo_grow 28 = .ok (.invokevirtual 73, 3) := by decide +kernel
theorem d_Mo_grow_31 : decode c_Mo_grow 31 = .ok (.iconst 0, 1) := by decide +kernel
theorem d_Mo_grow_32 : decode c_Mo_grow 32 = .ok (.istore_n 1, 1) := by decide +kernel
theorem d_Mo_grow_33 : decode c_Mo_grow 33 = .ok (.iload_n 1, 1) := by decide +kernel
theorem d_Mo_grow_34 : decode c_Mo_grow 34 = .ok (.sipush 200, 3) := by decide +kernel
theorem d_Mo_grow_37 : decode c_Mo_grow 37 = .ok (.if_icmp .ge 32, 3) := by decide +kernel
theorem d_Mo_grow_40 : decode c_Mo_grow 40 = .ok (.aload_n 0, 1) := by decide +kernel
theorem d_Mo_grow_41 : decode c_Mo_grow 41 = .ok (.getfield 13, 3) := by decide +kernel
theorem d_Mo_grow_44 : decode c_Mo_grow 44 = .ok (.iload_n 1, 1) := by decide +kernel
theorem d_Mo_grow_45 : decode c_Mo_grow 45 = .ok (.baload, 1) := by decide +kernel
theorem d_Mo_grow_46 : decode c_Mo_grow 46 = .ok (.ifCond .eq 17, 3) := by decide +kernel
theorem d_Mo_grow_49 : decode c_Mo_grow 49 = .ok (.aload_n 0, 1) := by decide +kernel
theorem d_Mo_grow_50 : decode c_Mo_grow 50 = .ok (.getfield 17, 3) := by decide +kernel
theorem d_Mo_grow_53 : decode c_Mo_grow 53 = .ok (.iload_n 1, 1) := by decide +kernel
theorem d_Mo_grow_54 : decode c_Mo_grow 54 = .ok (.baload, 1) := by decide +kernel
theorem d_Mo_grow_55 : decode c_Mo_grow 55 = .ok (.ifCond .eq 8, 3) := by decide +kernel
theorem d_Mo_grow_58 : decode c_Mo_grow 58 = .ok (.aload_n 0, 1) := by decide +kernel
theorem d_Mo_grow_59 : decode c_Mo_grow 59 = .ok (.iload_n 1, 1) := by decide +kernel
theorem d_Mo_grow_60 : decode c_Mo_grow 60 = .ok (.invokevirtual 66, 3) := by decide +kernel
theorem d_Mo_grow_63 : decode c_Mo_grow 63 = .ok (.iinc 1 1, 3) := by decide +kernel
theorem d_Mo_grow_66 : decode c_Mo_grow 66 = .ok (.goto (-33), 3) := by decide +kernel
theorem d_Mo_grow_69 : decode c_Mo_grow 69 = .ok (.aload_n 0, 1) := by decide +kernel
theorem d_Mo_grow_70 : decode c_Mo_grow 70 = .ok (.invokevirtual 76, 3) := by decide +kernel
theorem d_Mo_grow_73 : decode c_Mo_grow 73 = .ok (.iconst 0, 1) := by decide +kernel
theorem d_Mo_grow_74 : decode c_Mo_grow 74 = .ok (.istore_n 1, 1) := by decide +kernel
theorem d_Mo_grow_75 : decode c_Mo_grow 75 = .ok (.iconst 0, 1) := by decide +kernel
theorem d_Mo_grow_76 : decode c_Mo_grow 76 = .ok (.istore_n 2, 1) := by decide +kernel
theorem d_Mo_grow_77 : decode c_Mo_grow 77 = .ok (.iload_n 2, 1) := by decide +kernel
theorem d_Mo_grow_78 : decode c_Mo_grow 78 = .ok (.sipush 200, 3) := by decide +kernel
theorem d_Mo_grow_81 : decode c_Mo_grow 81 = .ok (.if_icmp .ge 48, 3) := by decide +kernel
theorem d_Mo_grow_84 : decode c_Mo_grow 84 = .ok (.iload_n 1, 1) := by decide +kernel
theorem d_Mo_grow_85 : decode c_Mo_grow 85 = .ok (.aload_n 0, 1) := by decide +kernel
theorem d_Mo_grow_86 : decode c_Mo_grow 86 = .ok (.getfield 13, 3) := by decide +kernel
theorem d_Mo_grow_89 : decode c_Mo_grow 89 = .ok (.iload_n 2, 1) := by decide +kernel
theorem d_Mo_grow_90 : decode c_Mo_grow 90 = .ok (.baload, 1) := by decide +kernel
theorem d_Mo_grow_91 : decode c_Mo_grow 91 = .ok (.ifCond .eq 29, 3) := by decide +kernel
theorem d_Mo_grow_94 : decode c_Mo_grow 94 = .ok (.aload_n 0, 1) := by decide +kernel
theorem d_Mo_grow_95 : decode c_Mo_grow 95 = .ok (.getfield 17, 3) := by decide +kernel
theorem d_Mo_grow_98 : decode c_Mo_grow 98 = .ok (.iload_n 2, 1) := by decide +kernel
theorem d_Mo_grow_99 : decode c_Mo_grow 99 = .ok (.baload, 1) := by decide +kernel
theorem d_Mo_grow_100 : decode c_Mo_grow 100 = .ok (.ifCond .ne 20, 3) := by decide +kernel
theorem d_Mo_grow_103 : decode c_Mo_grow 103 = .ok (.aload_n 0, 1) := by decide +kernel
theorem d_Mo_grow_104 : decode c_Mo_grow 104 = .ok (.getfield 30, 3) := by decide +kernel
theorem d_Mo_grow_107 : decode c_Mo_grow 107 = .ok (.iload_n 2, 1) := by decide +kernel
theorem d_Mo_grow_108 : decode c_Mo_grow 108 = .ok (.baload, 1) := by decide +kernel
theorem d_Mo_grow_109 : decode c_Mo_grow 109 = .ok (.ifCond .eq 11, 3) := by decide +kernel
theorem d_Mo_grow_112 : decode c_Mo_grow 112 = .ok (.aload_n 0, 1) := by decide +kernel
theorem d_Mo_grow_113 : decode c_Mo_grow 113 = .ok (.iload_n 2, 1) := by decide +kernel
theorem d_Mo_grow_114 : decode c_Mo_grow 114 = .ok (.invokevirtual 54, 3) := by decide +kernel
theorem d_Mo_grow_117 : decode c_Mo_grow 117 = .ok (.goto 4, 3) := by decide +kernel
theorem d_Mo_grow_120 : decode c_Mo_grow 120 = .ok (.iconst 0, 1) := by decide +kernel
theorem d_Mo_grow_121 : decode c_Mo_grow 121 = .ok (.iadd, 1) := by decide +kernel
theorem d_Mo_grow_122 : decode c_Mo_grow 122 = .ok (.istore_n 1, 1) := by decide +kernel
theorem d_Mo_grow_123 : decode c_Mo_grow 123 = .ok (.iinc 2 1, 3) := by decide +kernel
theorem d_Mo_grow_126 : decode c_Mo_grow 126 = .ok (.goto (-49), 3) := by decide +kernel
theorem d_Mo_grow_129 : decode c_Mo_grow 129 = .ok (.iload_n 1, 1) := by decide +kernel
theorem d_Mo_grow_130 : decode c_Mo_grow 130 = .ok (.aload_n 0, 1) := by decide +kernel
theorem d_Mo_grow_131 : decode c_Mo_grow 131 = .ok (.getfield 40, 3) := by decide +kernel
theorem d_Mo_grow_134 : decode c_Mo_grow 134 = .ok (.aload_n 0, 1) := by decide +kernel
theorem d_Mo_grow_135 : decode c_Mo_grow 135 = .ok (.iconst 1, 1) := by decide +kernel
theorem d_Mo_grow_136 : decode c_Mo_grow 136 = .ok (.invokevirtual 82, 3) := by decide +kernel
theorem d_Mo_grow_139 : decode c_Mo_grow 139 = .ok (.isub, 1) := by decide +kernel
theorem d_Mo_grow_140 : decode c_Mo_grow 140 = .ok (.if_icmp .le 5, 3) := by decide +kernel
theorem d_Mo_grow_143 : decode c_Mo_grow 143 = .ok (.iconst (-1), 1) := by decide +kernel
theorem d_Mo_grow_144 : decode c_Mo_grow 144 = .ok (.ireturn, 1) := by decide +kernel
theorem d_Mo_grow_145 : decode c_Mo_grow 145 = .ok (.aload_n 0, 1) := by decide +kernel
theorem d_Mo_grow_146 : decode c_Mo_grow 146 = .ok (.dup, 1) := by decide +kernel
theorem d_Mo_grow_147 : decode c_Mo_grow 147 = .ok (.getfield 89, 3) := by decide +kernel
theorem d_Mo_grow_150 : decode c_Mo_grow 150 = .ok (.iconst 1, 1) := by decide +kernel
theorem d_Mo_grow_151 : decode c_Mo_grow 151 = .ok (.iadd, 1) := by decide +kernel
theorem d_Mo_grow_152 : decode c_Mo_grow 152 = .ok (.putfield 89, 3) := by decide +kernel
theorem d_Mo_grow_155 : decode c_Mo_grow 155 = .ok (.iconst 0, 1) := by decide +kernel
theorem d_Mo_grow_156 : decode c_Mo_grow 156 = .ok (.istore_n 2, 1) := by decide +kernel
theorem d_Mo_grow_157 : decode c_Mo_grow 157 = .ok (.iload_n 2, 1) := by decide +kernel
theorem d_Mo_grow_158 : decode c_Mo_grow 158 = .ok (.sipush 200, 3) := by decide +kernel
theorem d_Mo_grow_161 : decode c_Mo_grow 161 = .ok (.if_icmp .ge 46, 3) := by decide +kernel
theorem d_Mo_grow_164 : decode c_Mo_grow 164 = .ok (.aload_n 0, 1) := by decide +kernel
theorem d_Mo_grow_165 : decode c_Mo_grow 165 = .ok (.getfield 13, 3) := by decide +kernel
theorem d_Mo_grow_168 : decode c_Mo_grow 168 = .ok (.iload_n 2, 1) := by decide +kernel
theorem d_Mo_grow_169 : decode c_Mo_grow 169 = .ok (.baload, 1) := by decide +kernel
theorem d_Mo_grow_170 : decode c_Mo_grow 170 = .ok (.ifCond .eq 31, 3) := by decide +kernel
theorem d_Mo_grow_173 : decode c_Mo_grow 173 = .ok (.aload_n 0, 1) := by decide +kernel
theorem d_Mo_grow_174 : decode c_Mo_grow 174 = .ok (.getfield 17, 3) := by decide +kernel
theorem d_Mo_grow_177 : decode c_Mo_grow 177 = .ok (.iload_n 2, 1) := by decide +kernel
theorem d_Mo_grow_178 : decode c_Mo_grow 178 = .ok (.baload, 1) := by decide +kernel
theorem d_Mo_grow_179 : decode c_Mo_grow 179 = .ok (.ifCond .ne 22, 3) := by decide +kernel
theorem d_Mo_grow_182 : decode c_Mo_grow 182 = .ok (.aload_n 0, 1) := by decide +kernel
theorem d_Mo_grow_183 : decode c_Mo_grow 183 = .ok (.getfield 13, 3) := by decide +kernel
theorem d_Mo_grow_186 : decode c_Mo_grow 186 = .ok (.iload_n 2, 1) := by decide +kernel
theorem d_Mo_grow_187 : decode c_Mo_grow 187 = .ok (.aload_n 0, 1) := by decide +kernel
theorem d_Mo_grow_188 : decode c_Mo_grow 188 = .ok (.getfield 30, 3) := by decide +kernel
theorem d_Mo_grow_191 : decode c_Mo_grow 191 = .ok (.iload_n 2, 1) := by decide +kernel
theorem d_Mo_grow_192 : decode c_Mo_grow 192 = .ok (.baload, 1) := by decide +kernel
theorem d_Mo_grow_193 : decode c_Mo_grow 193 = .ok (.bastore, 1) := by decide +kernel
theorem d_Mo_grow_194 : decode c_Mo_grow 194 = .ok (.aload_n 0, 1) := by decide +kernel
theorem d_Mo_grow_195 : decode c_Mo_grow 195 = .ok (.getfield 17, 3) := by decide +kernel
theorem d_Mo_grow_198 : decode c_Mo_grow 198 = .ok (.iload_n 2, 1) := by decide +kernel
theorem d_Mo_grow_199 : decode c_Mo_grow 199 = .ok (.iconst 1, 1) := by decide +kernel
theorem d_Mo_grow_200 : decode c_Mo_grow 200 = .ok (.bastore, 1) := by decide +kernel
theorem d_Mo_grow_201 : decode c_Mo_grow 201 = .ok (.iinc 2 1, 3) := by decide +kernel
theorem d_Mo_grow_204 : decode c_Mo_grow 204 = .ok (.goto (-47), 3) := by decide +kernel
theorem d_Mo_grow_207 : decode c_Mo_grow 207 = .ok (.aload_n 0, 1) := by decide +kernel
theorem d_Mo_grow_208 : decode c_Mo_grow 208 = .ok (.invokevirtual 92, 3) := by decide +kernel
theorem d_Mo_grow_211 : decode c_Mo_grow 211 = .ok (.iload_n 1, 1) := by decide +kernel
theorem d_Mo_grow_212 : decode c_Mo_grow 212 = .ok (.ireturn, 1) := by decide +kernel
abbrev c_Mo_clearOld : ByteArray := prog_10_method_15_code
abbrev y_Mo_clearOld : MethodName := ⟨"TwoGenerationsModel", "clearOld", "()I"⟩
abbrev h_Mo_clearOld : Cond := .code y_Mo_clearOld c_Mo_clearOld 3 (some .int)
theorem d_Mo_clearOld_0 : decode c_Mo_clearOld 0 = .ok (.aload_n 0, 1) := by decide +kernel
theorem d_Mo_clearOld_1 : decode c_Mo_clearOld 1 = .ok (.invokevirtual 70, 3) := by decide +kernel
theorem d_Mo_clearOld_4 : decode c_Mo_clearOld 4 = .ok (.aload_n 0, 1) := by decide +kernel
theorem d_Mo_clearOld_5 : decode c_Mo_clearOld 5 = .ok (.invokevirtual 73, 3) := by decide +kernel
theorem d_Mo_clearOld_8 : decode c_Mo_clearOld 8 = .ok (.aload_n 0, 1) := by decide +kernel
theorem d_Mo_clearOld_9 : decode c_Mo_clearOld 9 = .ok (.invokevirtual 76, 3) := by decide +kernel
theorem d_Mo_clearOld_12 : decode c_Mo_clearOld 12 = .ok (.aload_n 0, 1) := by decide +kernel
theorem d_Mo_clearOld_13 : decode c_Mo_clearOld 13 = .ok (.dup, 1) := by decide +kernel
theorem d_Mo_clearOld_14 : decode c_Mo_clearOld 14 = .ok (.getfield 79, 3) := by decide +kernel
theorem d_Mo_clearOld_17 : decode c_Mo_clearOld 17 = .ok (.iconst 1, 1) := by decide +kernel
theorem d_Mo_clearOld_18 : decode c_Mo_clearOld 18 = .ok (.iadd, 1) := by decide +kernel
theorem d_Mo_clearOld_19 : decode c_Mo_clearOld 19 = .ok (.putfield 79, 3) := by decide +kernel
theorem d_Mo_clearOld_22 : decode c_Mo_clearOld 22 = .ok (.iconst 0, 1) := by decide +kernel
theorem d_Mo_clearOld_23 : decode c_Mo_clearOld 23 = .ok (.istore_n 1, 1) := by decide +kernel
theorem d_Mo_clearOld_24 : decode c_Mo_clearOld 24 = .ok (.iconst 0, 1) := by decide +kernel
theorem d_Mo_clearOld_25 : decode c_Mo_clearOld 25 = .ok (.istore_n 2, 1) := by decide +kernel
theorem d_Mo_clearOld_26 : decode c_Mo_clearOld 26 = .ok (.iload_n 2, 1) := by decide +kernel
theorem d_Mo_clearOld_27 : decode c_Mo_clearOld 27 = .ok (.sipush 200, 3) := by decide +kernel
theorem d_Mo_clearOld_30 : decode c_Mo_clearOld 30 = .ok (.if_icmp .ge 90, 3) := by decide +kernel
theorem d_Mo_clearOld_33 : decode c_Mo_clearOld 33 = .ok (.aload_n 0, 1) := by decide +kernel
theorem d_Mo_clearOld_34 : decode c_Mo_clearOld 34 = .ok (.getfield 24, 3) := by decide +kernel
theorem d_Mo_clearOld_37 : decode c_Mo_clearOld 37 = .ok (.iload_n 2, 1) := by decide +kernel
theorem d_Mo_clearOld_38 : decode c_Mo_clearOld 38 = .ok (.aload_n 0, 1) := by decide +kernel
theorem d_Mo_clearOld_39 : decode c_Mo_clearOld 39 = .ok (.getfield 24, 3) := by decide +kernel
theorem d_Mo_clearOld_42 : decode c_Mo_clearOld 42 = .ok (.iload_n 2, 1) := by decide +kernel
theorem d_Mo_clearOld_43 : decode c_Mo_clearOld 43 = .ok (.iaload, 1) := by decide +kernel
theorem d_Mo_clearOld_44 : decode c_Mo_clearOld 44 = .ok (.ifCond .lt 21, 3) := by decide +kernel
theorem d_Mo_clearOld_47 : decode c_Mo_clearOld 47 = .ok (.aload_n 0, 1) := by decide +kernel
theorem d_Mo_clearOld_48 : decode c_Mo_clearOld 48 = .ok (.getfield 30, 3) := by decide +kernel
theorem d_Mo_clearOld_51 : decode c_Mo_clearOld 51 = .ok (.aload_n 0, 1) := by decide +kernel
theorem d_Mo_clearOld_52 : decode c_Mo_clearOld 52 = .ok (.getfield 24, 3) := by decide +kernel
theorem d_Mo_clearOld_55 : decode c_Mo_clearOld 55 = .ok (.iload_n 2, 1) := by decide +kernel
theorem d_Mo_clearOld_56 : decode c_Mo_clearOld 56 = .ok (.iaload, 1) := by decide +kernel
theorem d_Mo_clearOld_57 : decode c_Mo_clearOld 57 = .ok (.baload, 1) := by decide +kernel
theorem d_Mo_clearOld_58 : decode c_Mo_clearOld 58 = .ok (.ifCond .ne 7, 3) := by decide +kernel
theorem d_Mo_clearOld_61 : decode c_Mo_clearOld 61 = .ok (.iconst (-1), 1) := by decide +kernel
theorem d_Mo_clearOld_62 : decode c_Mo_clearOld 62 = .ok (.goto 9, 3) := by decide +kernel
theorem d_Mo_clearOld_65 : decode c_Mo_clearOld 65 = .ok (.aload_n 0, 1) := by decide +kernel
theorem d_Mo_clearOld_66 : decode c_Mo_clearOld 66 = .ok (.getfield 24, 3) := by decide +kernel
theorem d_Mo_clearOld_69 : decode c_Mo_clearOld 69 = .ok (.iload_n 2, 1) := by decide +kernel
theorem d_Mo_clearOld_70 : decode c_Mo_clearOld 70 = .ok (.iaload, 1) := by decide +kernel
theorem d_Mo_clearOld_71 : decode c_Mo_clearOld 71 = .ok (.iastore, 1) := by decide +kernel
theorem d_Mo_clearOld_72 : decode c_Mo_clearOld 72 = .ok (.aload_n 0, 1) := by decide +kernel
theorem d_Mo_clearOld_73 : decode c_Mo_clearOld 73 = .ok (.getfield 13, 3) := by decide +kernel
theorem d_Mo_clearOld_76 : decode c_Mo_clearOld 76 = .ok (.iload_n 2, 1) := by decide +kernel
theorem d_Mo_clearOld_77 : decode c_Mo_clearOld 77 = .ok (.baload, 1) := by decide +kernel
theorem d_Mo_clearOld_78 : decode c_Mo_clearOld 78 = .ok (.ifCond .eq 36, 3) := by decide +kernel
theorem d_Mo_clearOld_81 : decode c_Mo_clearOld 81 = .ok (.aload_n 0, 1) := by decide +kernel
theorem d_Mo_clearOld_82 : decode c_Mo_clearOld 82 = .ok (.getfield 17, 3) := by decide +kernel
theorem d_Mo_clearOld_85 : decode c_Mo_clearOld 85 = .ok (.iload_n 2, 1) := by decide +kernel
theorem d_Mo_clearOld_86 : decode c_Mo_clearOld 86 = .ok (.baload, 1) := by decide +kernel
theorem d_Mo_clearOld_87 : decode c_Mo_clearOld 87 = .ok (.ifCond .eq 27, 3) := by decide +kernel
theorem d_Mo_clearOld_90 : decode c_Mo_clearOld 90 = .ok (.aload_n 0, 1) := by decide +kernel
theorem d_Mo_clearOld_91 : decode c_Mo_clearOld 91 = .ok (.getfield 30, 3) := by decide +kernel
theorem d_Mo_clearOld_94 : decode c_Mo_clearOld 94 = .ok (.iload_n 2, 1) := by decide +kernel
theorem d_Mo_clearOld_95 : decode c_Mo_clearOld 95 = .ok (.baload, 1) := by decide +kernel
theorem d_Mo_clearOld_96 : decode c_Mo_clearOld 96 = .ok (.ifCond .ne 18, 3) := by decide +kernel
theorem d_Mo_clearOld_99 : decode c_Mo_clearOld 99 = .ok (.aload_n 0, 1) := by decide +kernel
theorem d_Mo_clearOld_100 : decode c_Mo_clearOld 100 = .ok (.getfield 13, 3) := by decide +kernel
theorem d_Mo_clearOld_103 : decode c_Mo_clearOld 103 = .ok (.iload_n 2, 1) := by decide +kernel
theorem d_Mo_clearOld_104 : decode c_Mo_clearOld 104 = .ok (.iconst 0, 1) := by decide +kernel
theorem d_Mo_clearOld_105 : decode c_Mo_clearOld 105 = .ok (.bastore, 1) := by decide +kernel
theorem d_Mo_clearOld_106 : decode c_Mo_clearOld 106 = .ok (.iload_n 1, 1) := by decide +kernel
theorem d_Mo_clearOld_107 : decode c_Mo_clearOld 107 = .ok (.aload_n 0, 1) := by decide +kernel
theorem d_Mo_clearOld_108 : decode c_Mo_clearOld 108 = .ok (.iload_n 2, 1) := by decide +kernel
theorem d_Mo_clearOld_109 : decode c_Mo_clearOld 109 = .ok (.invokevirtual 54, 3) := by decide +kernel
theorem d_Mo_clearOld_112 : decode c_Mo_clearOld 112 = .ok (.iadd, 1) := by decide +kernel
theorem d_Mo_clearOld_113 : decode c_Mo_clearOld 113 = .ok (.istore_n 1, 1) := by decide +kernel
theorem d_Mo_clearOld_114 : decode c_Mo_clearOld 114 = .ok (.iinc 2 1, 3) := by decide +kernel
theorem d_Mo_clearOld_117 : decode c_Mo_clearOld 117 = .ok (.goto (-91), 3) := by decide +kernel
theorem d_Mo_clearOld_120 : decode c_Mo_clearOld 120 = .ok (.iload_n 1, 1) := by decide +kernel
theorem d_Mo_clearOld_121 : decode c_Mo_clearOld 121 = .ok (.ireturn, 1) := by decide +kernel
abbrev c_Mo_nothing : ByteArray := prog_10_method_8_code
abbrev y_Mo_nothing : MethodName := ⟨"TwoGenerationsModel", "nothing", "()V"⟩
abbrev h_Mo_nothing : Cond := .code y_Mo_nothing c_Mo_nothing 2 none
theorem d_Mo_nothing_0 : decode c_Mo_nothing 0 = .ok (.iconst 0, 1) := by decide +kernel
theorem d_Mo_nothing_1 : decode c_Mo_nothing 1 = .ok (.istore_n 1, 1) := by decide +kernel
theorem d_Mo_nothing_2 : decode c_Mo_nothing 2 = .ok (.iload_n 1, 1) := by decide +kernel
theorem d_Mo_nothing_3 : decode c_Mo_nothing 3 = .ok (.sipush 200, 3) := by decide +kernel
theorem d_Mo_nothing_6 : decode c_Mo_nothing 6 = .ok (.if_icmp .ge 16, 3) := by decide +kernel
theorem d_Mo_nothing_9 : decode c_Mo_nothing 9 = .ok (.aload_n 0, 1) := by decide +kernel
theorem d_Mo_nothing_10 : decode c_Mo_nothing 10 = .ok (.getfield 30, 3) := by decide +kernel
theorem d_Mo_nothing_13 : decode c_Mo_nothing 13 = .ok (.iload_n 1, 1) := by decide +kernel
theorem d_Mo_nothing_14 : decode c_Mo_nothing 14 = .ok (.iconst 0, 1) := by decide +kernel
theorem d_Mo_nothing_15 : decode c_Mo_nothing 15 = .ok (.bastore, 1) := by decide +kernel
theorem d_Mo_nothing_16 : decode c_Mo_nothing 16 = .ok (.iinc 1 1, 3) := by decide +kernel
theorem d_Mo_nothing_19 : decode c_Mo_nothing 19 = .ok (.goto (-17), 3) := by decide +kernel
theorem d_Mo_nothing_22 : decode c_Mo_nothing 22 = .ok (.return_, 1) := by decide +kernel
abbrev c_Mo_markRegisters : ByteArray := prog_10_method_13_code
abbrev y_Mo_markRegisters : MethodName := ⟨"TwoGenerationsModel", "markRegisters", "()V"⟩
abbrev h_Mo_markRegisters : Cond := .code y_Mo_markRegisters c_Mo_markRegisters 2 none
theorem d_Mo_markRegisters_0 : decode c_Mo_markRegisters 0 = .ok (.iconst 0, 1) := by decide +kernel
theorem d_Mo_markRegisters_1 : decode c_Mo_markRegisters 1 = .ok (.istore_n 1, 1) := by decide +kernel
theorem d_Mo_markRegisters_2 : decode c_Mo_markRegisters 2 = .ok (.iload_n 1, 1) := by decide +kernel
theorem d_Mo_markRegisters_3 : decode c_Mo_markRegisters 3 = .ok (.aload_n 0, 1) := by decide +kernel
theorem d_Mo_markRegisters_4 : decode c_Mo_markRegisters 4 = .ok (.getfield 33, 3) := by decide +kernel
theorem d_Mo_markRegisters_7 : decode c_Mo_markRegisters 7 = .ok (.if_icmp .ge 19, 3) := by decide +kernel
theorem d_Mo_markRegisters_10 : decode c_Mo_markRegisters 10 = .ok (.aload_n 0, 1) := by decide +kernel
theorem d_Mo_markRegisters_11 : decode c_Mo_markRegisters 11 = .ok (.aload_n 0, 1) := by decide +kernel
theorem d_Mo_markRegisters_12 : decode c_Mo_markRegisters 12 = .ok (.getfield 7, 3) := by decide +kernel
theorem d_Mo_markRegisters_15 : decode c_Mo_markRegisters 15 = .ok (.iload_n 1, 1) := by decide +kernel
theorem d_Mo_markRegisters_16 : decode c_Mo_markRegisters 16 = .ok (.laload, 1) := by decide +kernel
theorem d_Mo_markRegisters_17 : decode c_Mo_markRegisters 17 = .ok (.invokevirtual 58, 3) := by decide +kernel
theorem d_Mo_markRegisters_20 : decode c_Mo_markRegisters 20 = .ok (.iinc 1 1, 3) := by decide +kernel
theorem d_Mo_markRegisters_23 : decode c_Mo_markRegisters 23 = .ok (.goto (-21), 3) := by decide +kernel
theorem d_Mo_markRegisters_26 : decode c_Mo_markRegisters 26 = .ok (.return_, 1) := by decide +kernel
abbrev c_Mo_mark : ByteArray := prog_10_method_9_code
abbrev y_Mo_mark : MethodName := ⟨"TwoGenerationsModel", "mark", "(J)V"⟩
abbrev h_Mo_mark : Cond := .code y_Mo_mark c_Mo_mark 3 none
theorem d_Mo_mark_0 : decode c_Mo_mark 0 = .ok (.lload_n 1, 1) := by decide +kernel
theorem d_Mo_mark_1 : decode c_Mo_mark 1 = .ok (.ldc2_w 52, 3) := by decide +kernel
theorem d_Mo_mark_4 : decode c_Mo_mark 4 = .ok (.lcmp, 1) := by decide +kernel
theorem d_Mo_mark_5 : decode c_Mo_mark 5 = .ok (.ifCond .lt 15, 3) := by decide +kernel
theorem d_Mo_mark_8 : decode c_Mo_mark 8 = .ok (.aload_n 0, 1) := by decide +kernel
theorem d_Mo_mark_9 : decode c_Mo_mark 9 = .ok (.getfield 30, 3) := by decide +kernel
theorem d_Mo_mark_12 : decode c_Mo_mark 12 = .ok (.lload_n 1, 1) := by decide +kernel
theorem d_Mo_mark_13 : decode c_Mo_mark 13 = .ok (.ldc2_w 52, 3) := by decide +kernel
theorem d_Mo_mark_16 : decode c_Mo_mark 16 = .ok (.lsub, 1) := by decide +kernel
theorem d_Mo_mark_17 : decode c_Mo_mark 17 = .ok (.l2i, 1) := by decide +kernel
theorem d_Mo_mark_18 : decode c_Mo_mark 18 = .ok (.iconst 1, 1) := by decide +kernel
theorem d_Mo_mark_19 : decode c_Mo_mark 19 = .ok (.bastore, 1) := by decide +kernel
theorem d_Mo_mark_20 : decode c_Mo_mark 20 = .ok (.return_, 1) := by decide +kernel
abbrev c_Mo_spread : ByteArray := prog_10_method_12_code
abbrev y_Mo_spread : MethodName := ⟨"TwoGenerationsModel", "spread", "()V"⟩
abbrev h_Mo_spread : Cond := .code y_Mo_spread c_Mo_spread 3 none
theorem d_Mo_spread_0 : decode c_Mo_spread 0 = .ok (.iconst (-1), 1) := by decide +kernel
theorem d_Mo_spread_1 : decode c_Mo_spread 1 = .ok (.istore_n 1, 1) := by decide +kernel
theorem d_Mo_spread_2 : decode c_Mo_spread 2 = .ok (.aload_n 0, 1) := by decide +kernel
theorem d_Mo_spread_3 : decode c_Mo_spread 3 = .ok (.invokevirtual 62, 3) := by decide +kernel
theorem d_Mo_spread_6 : decode c_Mo_spread 6 = .ok (.iload_n 1, 1) := by decide +kernel
theorem d_Mo_spread_7 : decode c_Mo_spread 7 = .ok (.if_icmp .le 40, 3) := by decide +kernel
theorem d_Mo_spread_10 : decode c_Mo_spread 10 = .ok (.aload_n 0, 1) := by decide +kernel
theorem d_Mo_spread_11 : decode c_Mo_spread 11 = .ok (.invokevirtual 62, 3) := by decide +kernel
theorem d_Mo_spread_14 : decode c_Mo_spread 14 = .ok (.istore_n 1, 1) := by decide +kernel
theorem d_Mo_spread_15 : decode c_Mo_spread 15 = .ok (.iconst 0, 1) := by decide +kernel
theorem d_Mo_spread_16 : decode c_Mo_spread 16 = .ok (.istore_n 2, 1) := by decide +kernel
theorem d_Mo_spread_17 : decode c_Mo_spread 17 = .ok (.iload_n 2, 1) := by decide +kernel
theorem d_Mo_spread_18 : decode c_Mo_spread 18 = .ok (.sipush 200, 3) := by decide +kernel
theorem d_Mo_spread_21 : decode c_Mo_spread 21 = .ok (.if_icmp .ge 23, 3) := by decide +kernel
theorem d_Mo_spread_24 : decode c_Mo_spread 24 = .ok (.aload_n 0, 1) := by decide +kernel
theorem d_Mo_spread_25 : decode c_Mo_spread 25 = .ok (.getfield 30, 3) := by decide +kernel
theorem d_Mo_spread_28 : decode c_Mo_spread 28 = .ok (.iload_n 2, 1) := by decide +kernel
theorem d_Mo_spread_29 : decode c_Mo_spread 29 = .ok (.baload, 1) := by decide +kernel
theorem d_Mo_spread_30 : decode c_Mo_spread 30 = .ok (.ifCond .eq 8, 3) := by decide +kernel
theorem d_Mo_spread_33 : decode c_Mo_spread 33 = .ok (.aload_n 0, 1) := by decide +kernel
theorem d_Mo_spread_34 : decode c_Mo_spread 34 = .ok (.iload_n 2, 1) := by decide +kernel
theorem d_Mo_spread_35 : decode c_Mo_spread 35 = .ok (.invokevirtual 66, 3) := by decide +kernel
theorem d_Mo_spread_38 : decode c_Mo_spread 38 = .ok (.iinc 2 1, 3) := by decide +kernel
theorem d_Mo_spread_41 : decode c_Mo_spread 41 = .ok (.goto (-24), 3) := by decide +kernel
theorem d_Mo_spread_44 : decode c_Mo_spread 44 = .ok (.goto (-42), 3) := by decide +kernel
theorem d_Mo_spread_47 : decode c_Mo_spread 47 = .ok (.return_, 1) := by decide +kernel
abbrev c_Mo_marked : ByteArray := prog_10_method_11_code
abbrev y_Mo_marked : MethodName := ⟨"TwoGenerationsModel", "marked", "()I"⟩
abbrev h_Mo_marked : Cond := .code y_Mo_marked c_Mo_marked 3 (some .int)
theorem d_Mo_marked_0 : decode c_Mo_marked 0 = .ok (.iconst 0, 1) := by decide +kernel
theorem d_Mo_marked_1 : decode c_Mo_marked 1 = .ok (.istore_n 1, 1) := by decide +kernel
theorem d_Mo_marked_2 : decode c_Mo_marked 2 = .ok (.iconst 0, 1) := by decide +kernel
theorem d_Mo_marked_3 : decode c_Mo_marked 3 = .ok (.istore_n 2, 1) := by decide +kernel
theorem d_Mo_marked_4 : decode c_Mo_marked 4 = .ok (.iload_n 2, 1) := by decide +kernel
theorem d_Mo_marked_5 : decode c_Mo_marked 5 = .ok (.sipush 200, 3) := by decide +kernel
theorem d_Mo_marked_8 : decode c_Mo_marked 8 = .ok (.if_icmp .ge 26, 3) := by decide +kernel
theorem d_Mo_marked_11 : decode c_Mo_marked 11 = .ok (.iload_n 1, 1) := by decide +kernel
theorem d_Mo_marked_12 : decode c_Mo_marked 12 = .ok (.aload_n 0, 1) := by decide +kernel
theorem d_Mo_marked_13 : decode c_Mo_marked 13 = .ok (.getfield 30, 3) := by decide +kernel
theorem d_Mo_marked_16 : decode c_Mo_marked 16 = .ok (.iload_n 2, 1) := by decide +kernel
theorem d_Mo_marked_17 : decode c_Mo_marked 17 = .ok (.baload, 1) := by decide +kernel
theorem d_Mo_marked_18 : decode c_Mo_marked 18 = .ok (.ifCond .eq 7, 3) := by decide +kernel
theorem d_Mo_marked_21 : decode c_Mo_marked 21 = .ok (.iconst 1, 1) := by decide +kernel
theorem d_Mo_marked_22 : decode c_Mo_marked 22 = .ok (.goto 4, 3) := by decide +kernel
theorem d_Mo_marked_25 : decode c_Mo_marked 25 = .ok (.iconst 0, 1) := by decide +kernel
theorem d_Mo_marked_26 : decode c_Mo_marked 26 = .ok (.iadd, 1) := by decide +kernel
theorem d_Mo_marked_27 : decode c_Mo_marked 27 = .ok (.istore_n 1, 1) := by decide +kernel
theorem d_Mo_marked_28 : decode c_Mo_marked 28 = .ok (.iinc 2 1, 3) := by decide +kernel
theorem d_Mo_marked_31 : decode c_Mo_marked 31 = .ok (.goto (-27), 3) := by decide +kernel
theorem d_Mo_marked_34 : decode c_Mo_marked 34 = .ok (.iload_n 1, 1) := by decide +kernel
theorem d_Mo_marked_35 : decode c_Mo_marked 35 = .ok (.ireturn, 1) := by decide +kernel
abbrev c_Mo_markFields : ByteArray := prog_10_method_10_code
abbrev y_Mo_markFields : MethodName := ⟨"TwoGenerationsModel", "markFields", "(I)V"⟩
abbrev h_Mo_markFields : Cond := .code y_Mo_markFields c_Mo_markFields 3 none
theorem d_Mo_markFields_0 : decode c_Mo_markFields 0 = .ok (.iconst 0, 1) := by decide +kernel
theorem d_Mo_markFields_1 : decode c_Mo_markFields 1 = .ok (.istore_n 2, 1) := by decide +kernel
theorem d_Mo_markFields_2 : decode c_Mo_markFields 2 = .ok (.iload_n 2, 1) := by decide +kernel
theorem d_Mo_markFields_3 : decode c_Mo_markFields 3 = .ok (.aload_n 0, 1) := by decide +kernel
theorem d_Mo_markFields_4 : decode c_Mo_markFields 4 = .ok (.getfield 20, 3) := by decide +kernel
theorem d_Mo_markFields_7 : decode c_Mo_markFields 7 = .ok (.iload_n 1, 1) := by decide +kernel
theorem d_Mo_markFields_8 : decode c_Mo_markFields 8 = .ok (.iaload, 1) := by decide +kernel
theorem d_Mo_markFields_9 : decode c_Mo_markFields 9 = .ok (.if_icmp .ge 24, 3) := by decide +kernel
theorem d_Mo_markFields_12 : decode c_Mo_markFields 12 = .ok (.aload_n 0, 1) := by decide +kernel
theorem d_Mo_markFields_13 : decode c_Mo_markFields 13 = .ok (.aload_n 0, 1) := by decide +kernel
theorem d_Mo_markFields_14 : decode c_Mo_markFields 14 = .ok (.getfield 27, 3) := by decide +kernel
theorem d_Mo_markFields_17 : decode c_Mo_markFields 17 = .ok (.bipush 11, 2) := by decide +kernel
theorem d_Mo_markFields_19 : decode c_Mo_markFields 19 = .ok (.iload_n 1, 1) := by decide +kernel
theorem d_Mo_markFields_20 : decode c_Mo_markFields 20 = .ok (.imul, 1) := by decide +kernel
theorem d_Mo_markFields_21 : decode c_Mo_markFields 21 = .ok (.iload_n 2, 1) := by decide +kernel
theorem d_Mo_markFields_22 : decode c_Mo_markFields 22 = .ok (.iadd, 1) := by decide +kernel
theorem d_Mo_markFields_23 : decode c_Mo_markFields 23 = .ok (.laload, 1) := by decide +kernel
theorem d_Mo_markFields_24 : decode c_Mo_markFields 24 = .ok (.invokevirtual 58, 3) := by decide +kernel
theorem d_Mo_markFields_27 : decode c_Mo_markFields 27 = .ok (.iinc 2 1, 3) := by decide +kernel
theorem d_Mo_markFields_30 : decode c_Mo_markFields 30 = .ok (.goto (-28), 3) := by decide +kernel
theorem d_Mo_markFields_33 : decode c_Mo_markFields 33 = .ok (.return_, 1) := by decide +kernel
abbrev c_Mo_tellWeak : ByteArray := prog_10_method_14_code
abbrev y_Mo_tellWeak : MethodName := ⟨"TwoGenerationsModel", "tellWeak", "()V"⟩
abbrev h_Mo_tellWeak : Cond := .code y_Mo_tellWeak c_Mo_tellWeak 2 none
theorem d_Mo_tellWeak_0 : decode c_Mo_tellWeak 0 = .ok (.iconst 0, 1) := by decide +kernel
theorem d_Mo_tellWeak_1 : decode c_Mo_tellWeak 1 = .ok (.istore_n 1, 1) := by decide +kernel
theorem d_Mo_tellWeak_2 : decode c_Mo_tellWeak 2 = .ok (.iload_n 1, 1) := by decide +kernel
theorem d_Mo_tellWeak_3 : decode c_Mo_tellWeak 3 = .ok (.sipush 200, 3) := by decide +kernel
theorem d_Mo_tellWeak_6 : decode c_Mo_tellWeak 6 = .ok (.if_icmp .ge 48, 3) := by decide +kernel
theorem d_Mo_tellWeak_9 : decode c_Mo_tellWeak 9 = .ok (.aload_n 0, 1) := by decide +kernel
theorem d_Mo_tellWeak_10 : decode c_Mo_tellWeak 10 = .ok (.getfield 24, 3) := by decide +kernel
theorem d_Mo_tellWeak_13 : decode c_Mo_tellWeak 13 = .ok (.iload_n 1, 1) := by decide +kernel
theorem d_Mo_tellWeak_14 : decode c_Mo_tellWeak 14 = .ok (.aload_n 0, 1) := by decide +kernel
theorem d_Mo_tellWeak_15 : decode c_Mo_tellWeak 15 = .ok (.getfield 24, 3) := by decide +kernel
theorem d_Mo_tellWeak_18 : decode c_Mo_tellWeak 18 = .ok (.iload_n 1, 1) := by decide +kernel
theorem d_Mo_tellWeak_19 : decode c_Mo_tellWeak 19 = .ok (.iaload, 1) := by decide +kernel
theorem d_Mo_tellWeak_20 : decode c_Mo_tellWeak 20 = .ok (.ifCond .lt 21, 3) := by decide +kernel
theorem d_Mo_tellWeak_23 : decode c_Mo_tellWeak 23 = .ok (.aload_n 0, 1) := by decide +kernel
theorem d_Mo_tellWeak_24 : decode c_Mo_tellWeak 24 = .ok (.getfield 13, 3) := by decide +kernel
theorem d_Mo_tellWeak_27 : decode c_Mo_tellWeak 27 = .ok (.aload_n 0, 1) := by decide +kernel
theorem d_Mo_tellWeak_28 : decode c_Mo_tellWeak 28 = .ok (.getfield 24, 3) := by decide +kernel
theorem d_Mo_tellWeak_31 : decode c_Mo_tellWeak 31 = .ok (.iload_n 1, 1) := by decide +kernel
theorem d_Mo_tellWeak_32 : decode c_Mo_tellWeak 32 = .ok (.iaload, 1) := by decide +kernel
theorem d_Mo_tellWeak_33 : decode c_Mo_tellWeak 33 = .ok (.baload, 1) := by decide +kernel
theorem d_Mo_tellWeak_34 : decode c_Mo_tellWeak 34 = .ok (.ifCond .ne 7, 3) := by decide +kernel
theorem d_Mo_tellWeak_37 : decode c_Mo_tellWeak 37 = .ok (.iconst (-1), 1) := by decide +kernel
theorem d_Mo_tellWeak_38 : decode c_Mo_tellWeak 38 = .ok (.goto 9, 3) := by decide +kernel
theorem d_Mo_tellWeak_41 : decode c_Mo_tellWeak 41 = .ok (.aload_n 0, 1) := by decide +kernel
theorem d_Mo_tellWeak_42 : decode c_Mo_tellWeak 42 = .ok (.getfield 24, 3) := by decide +kernel
theorem d_Mo_tellWeak_45 : decode c_Mo_tellWeak 45 = .ok (.iload_n 1, 1) := by decide +kernel
theorem d_Mo_tellWeak_46 : decode c_Mo_tellWeak 46 = .ok (.iaload, 1) := by decide +kernel
theorem d_Mo_tellWeak_47 : decode c_Mo_tellWeak 47 = .ok (.iastore, 1) := by decide +kernel
theorem d_Mo_tellWeak_48 : decode c_Mo_tellWeak 48 = .ok (.iinc 1 1, 3) := by decide +kernel
theorem d_Mo_tellWeak_51 : decode c_Mo_tellWeak 51 = .ok (.goto (-49), 3) := by decide +kernel
theorem d_Mo_tellWeak_54 : decode c_Mo_tellWeak 54 = .ok (.return_, 1) := by decide +kernel
abbrev c_Mo_born : ByteArray := prog_10_method_18_code
abbrev y_Mo_born : MethodName := ⟨"TwoGenerationsModel", "born", "(III)V"⟩
abbrev h_Mo_born : Cond := .code y_Mo_born c_Mo_born 6 none
theorem d_Mo_born_0 : decode c_Mo_born 0 = .ok (.iconst 0, 1) := by decide +kernel
theorem d_Mo_born_1 : decode c_Mo_born 1 = .ok (.istore 4, 2) := by decide +kernel
theorem d_Mo_born_3 : decode c_Mo_born 3 = .ok (.aload_n 0, 1) := by decide +kernel
theorem d_Mo_born_4 : decode c_Mo_born 4 = .ok (.getfield 13, 3) := by decide +kernel
theorem d_Mo_born_7 : decode c_Mo_born 7 = .ok (.iload 4, 2) := by decide +kernel
theorem d_Mo_born_9 : decode c_Mo_born 9 = .ok (.baload, 1) := by decide +kernel
theorem d_Mo_born_10 : decode c_Mo_born 10 = .ok (.ifCond .eq 9, 3) := by decide +kernel
theorem d_Mo_born_13 : decode c_Mo_born 13 = .ok (.iinc 4 1, 3) := by decide +kernel
theorem d_Mo_born_16 : decode c_Mo_born 16 = .ok (.goto (-13), 3) := by decide +kernel
theorem d_Mo_born_19 : decode c_Mo_born 19 = .ok (.aload_n 0, 1) := by decide +kernel
theorem d_Mo_born_20 : decode c_Mo_born 20 = .ok (.getfield 13, 3) := by decide +kernel
theorem d_Mo_born_23 : decode c_Mo_born 23 = .ok (.iload 4, 2) := by decide +kernel
theorem d_Mo_born_25 : decode c_Mo_born 25 = .ok (.iconst 1, 1) := by decide +kernel
theorem d_Mo_born_26 : decode c_Mo_born 26 = .ok (.bastore, 1) := by decide +kernel
theorem d_Mo_born_27 : decode c_Mo_born 27 = .ok (.aload_n 0, 1) := by decide +kernel
theorem d_Mo_born_28 : decode c_Mo_born 28 = .ok (.getfield 17, 3) := by decide +kernel
theorem d_Mo_born_31 : decode c_Mo_born 31 = .ok (.iload 4, 2) := by decide +kernel
theorem d_Mo_born_33 : decode c_Mo_born 33 = .ok (.iconst 0, 1) := by decide +kernel
theorem d_Mo_born_34 : decode c_Mo_born 34 = .ok (.bastore, 1) := by decide +kernel
theorem d_Mo_born_35 : decode c_Mo_born 35 = .ok (.aload_n 0, 1) := by decide +kernel
theorem d_Mo_born_36 : decode c_Mo_born 36 = .ok (.getfield 20, 3) := by decide +kernel
theorem d_Mo_born_39 : decode c_Mo_born 39 = .ok (.iload 4, 2) := by decide +kernel
theorem d_Mo_born_41 : decode c_Mo_born 41 = .ok (.iload_n 2, 1) := by decide +kernel
theorem d_Mo_born_42 : decode c_Mo_born 42 = .ok (.iastore, 1) := by decide +kernel
theorem d_Mo_born_43 : decode c_Mo_born 43 = .ok (.aload_n 0, 1) := by decide +kernel
theorem d_Mo_born_44 : decode c_Mo_born 44 = .ok (.getfield 24, 3) := by decide +kernel
theorem d_Mo_born_47 : decode c_Mo_born 47 = .ok (.iload 4, 2) := by decide +kernel
theorem d_Mo_born_49 : decode c_Mo_born 49 = .ok (.iload_n 3, 1) := by decide +kernel
theorem d_Mo_born_50 : decode c_Mo_born 50 = .ok (.iastore, 1) := by decide +kernel
theorem d_Mo_born_51 : decode c_Mo_born 51 = .ok (.iconst 0, 1) := by decide +kernel
theorem d_Mo_born_52 : decode c_Mo_born 52 = .ok (.istore 5, 2) := by decide +kernel
theorem d_Mo_born_54 : decode c_Mo_born 54 = .ok (.iload 5, 2) := by decide +kernel
theorem d_Mo_born_56 : decode c_Mo_born 56 = .ok (.bipush 11, 2) := by decide +kernel
theorem d_Mo_born_58 : decode c_Mo_born 58 = .ok (.if_icmp .ge 25, 3) := by decide +kernel
theorem d_Mo_born_61 : decode c_Mo_born 61 = .ok (.aload_n 0, 1) := by decide +kernel
theorem d_Mo_born_62 : decode c_Mo_born 62 = .ok (.getfield 27, 3) := by decide +kernel
theorem d_Mo_born_65 : decode c_Mo_born 65 = .ok (.bipush 11, 2) := by decide +kernel
theorem d_Mo_born_67 : decode c_Mo_born 67 = .ok (.iload 4, 2) := by decide +kernel
theorem d_Mo_born_69 : decode c_Mo_born 69 = .ok (.imul, 1) := by decide +kernel
theorem d_Mo_born_70 : decode c_Mo_born 70 = .ok (.iload 5, 2) := by decide +kernel
theorem d_Mo_born_72 : decode c_Mo_born 72 = .ok (.iadd, 1) := by decide +kernel
theorem d_Mo_born_73 : decode c_Mo_born 73 = .ok (.ldc2_w 43, 3) := by decide +kernel
theorem d_Mo_born_76 : decode c_Mo_born 76 = .ok (.lastore, 1) := by decide +kernel
theorem d_Mo_born_77 : decode c_Mo_born 77 = .ok (.iinc 5 1, 3) := by decide +kernel
theorem d_Mo_born_80 : decode c_Mo_born 80 = .ok (.goto (-26), 3) := by decide +kernel
theorem d_Mo_born_83 : decode c_Mo_born 83 = .ok (.aload_n 0, 1) := by decide +kernel
theorem d_Mo_born_84 : decode c_Mo_born 84 = .ok (.getfield 7, 3) := by decide +kernel
theorem d_Mo_born_87 : decode c_Mo_born 87 = .ok (.iload_n 1, 1) := by decide +kernel
theorem d_Mo_born_88 : decode c_Mo_born 88 = .ok (.ldc2_w 52, 3) := by decide +kernel
theorem d_Mo_born_91 : decode c_Mo_born 91 = .ok (.iload 4, 2) := by decide +kernel
theorem d_Mo_born_93 : decode c_Mo_born 93 = .ok (.i2l, 1) := by decide +kernel
theorem d_Mo_born_94 : decode c_Mo_born 94 = .ok (.ladd, 1) := by decide +kernel
theorem d_Mo_born_95 : decode c_Mo_born 95 = .ok (.lastore, 1) := by decide +kernel
theorem d_Mo_born_96 : decode c_Mo_born 96 = .ok (.return_, 1) := by decide +kernel
abbrev c_Mo_weak : ByteArray := prog_10_method_20_code
abbrev y_Mo_weak : MethodName := ⟨"TwoGenerationsModel", "weak", "(II)V"⟩
abbrev h_Mo_weak : Cond := .code y_Mo_weak c_Mo_weak 3 none
theorem d_Mo_weak_0 : decode c_Mo_weak 0 = .ok (.aload_n 0, 1) := by decide +kernel
theorem d_Mo_weak_1 : decode c_Mo_weak 1 = .ok (.aload_n 0, 1) := by decide +kernel
theorem d_Mo_weak_2 : decode c_Mo_weak 2 = .ok (.iload_n 1, 1) := by decide +kernel
theorem d_Mo_weak_3 : decode c_Mo_weak 3 = .ok (.invokevirtual 48, 3) := by decide +kernel
theorem d_Mo_weak_6 : decode c_Mo_weak 6 = .ok (.ifCond .eq 15, 3) := by decide +kernel
theorem d_Mo_weak_9 : decode c_Mo_weak 9 = .ok (.aload_n 0, 1) := by decide +kernel
theorem d_Mo_weak_10 : decode c_Mo_weak 10 = .ok (.iload_n 2, 1) := by decide +kernel
theorem d_Mo_weak_11 : decode c_Mo_weak 11 = .ok (.invokevirtual 109, 3) := by decide +kernel
theorem d_Mo_weak_14 : decode c_Mo_weak 14 = .ok (.ifCond .lt 7, 3) := by decide +kernel
theorem d_Mo_weak_17 : decode c_Mo_weak 17 = .ok (.iconst 1, 1) := by decide +kernel
theorem d_Mo_weak_18 : decode c_Mo_weak 18 = .ok (.goto 4, 3) := by decide +kernel
theorem d_Mo_weak_21 : decode c_Mo_weak 21 = .ok (.iconst 0, 1) := by decide +kernel
theorem d_Mo_weak_22 : decode c_Mo_weak 22 = .ok (.iconst 1, 1) := by decide +kernel
theorem d_Mo_weak_23 : decode c_Mo_weak 23 = .ok (.invokevirtual 98, 3) := by decide +kernel
theorem d_Mo_weak_26 : decode c_Mo_weak 26 = .ok (.ifCond .eq 16, 3) := by decide +kernel
theorem d_Mo_weak_29 : decode c_Mo_weak 29 = .ok (.aload_n 0, 1) := by decide +kernel
theorem d_Mo_weak_30 : decode c_Mo_weak 30 = .ok (.aload_n 0, 1) := by decide +kernel
theorem d_Mo_weak_31 : decode c_Mo_weak 31 = .ok (.iconst 2, 1) := by decide +kernel
theorem d_Mo_weak_32 : decode c_Mo_weak 32 = .ok (.invokevirtual 102, 3) := by decide +kernel
theorem d_Mo_weak_35 : decode c_Mo_weak 35 = .ok (.iconst 2, 1) := by decide +kernel
theorem d_Mo_weak_36 : decode c_Mo_weak 36 = .ok (.invokevirtual 98, 3) := by decide +kernel
theorem d_Mo_weak_39 : decode c_Mo_weak 39 = .ok (.ifCond .ne 4, 3) := by decide +kernel
theorem d_Mo_weak_42 : decode c_Mo_weak 42 = .ok (.return_, 1) := by decide +kernel
theorem d_Mo_weak_43 : decode c_Mo_weak 43 = .ok (.aload_n 0, 1) := by decide +kernel
theorem d_Mo_weak_44 : decode c_Mo_weak 44 = .ok (.iload_n 1, 1) := by decide +kernel
theorem d_Mo_weak_45 : decode c_Mo_weak 45 = .ok (.iconst (-1), 1) := by decide +kernel
theorem d_Mo_weak_46 : decode c_Mo_weak 46 = .ok (.aload_n 0, 1) := by decide +kernel
theorem d_Mo_weak_47 : decode c_Mo_weak 47 = .ok (.iload_n 2, 1) := by decide +kernel
theorem d_Mo_weak_48 : decode c_Mo_weak 48 = .ok (.invokevirtual 109, 3) := by decide +kernel
theorem d_Mo_weak_51 : decode c_Mo_weak 51 = .ok (.invokevirtual 105, 3) := by decide +kernel
theorem d_Mo_weak_54 : decode c_Mo_weak 54 = .ok (.return_, 1) := by decide +kernel
abbrev c_Mo_placeIn : ByteArray := prog_10_method_5_code
abbrev y_Mo_placeIn : MethodName := ⟨"TwoGenerationsModel", "placeIn", "(I)I"⟩
abbrev h_Mo_placeIn : Cond := .code y_Mo_placeIn c_Mo_placeIn 2 (some .int)
theorem d_Mo_placeIn_0 : decode c_Mo_placeIn 0 = .ok (.aload_n 0, 1) := by decide +kernel
theorem d_Mo_placeIn_1 : decode c_Mo_placeIn 1 = .ok (.iload_n 1, 1) := by decide +kernel
theorem d_Mo_placeIn_2 : decode c_Mo_placeIn 2 = .ok (.invokevirtual 48, 3) := by decide +kernel
theorem d_Mo_placeIn_5 : decode c_Mo_placeIn 5 = .ok (.ifCond .eq 30, 3) := by decide +kernel
theorem d_Mo_placeIn_8 : decode c_Mo_placeIn 8 = .ok (.aload_n 0, 1) := by decide +kernel
theorem d_Mo_placeIn_9 : decode c_Mo_placeIn 9 = .ok (.getfield 7, 3) := by decide +kernel
theorem d_Mo_placeIn_12 : decode c_Mo_placeIn 12 = .ok (.iload_n 1, 1) := by decide +kernel
theorem d_Mo_placeIn_13 : decode c_Mo_placeIn 13 = .ok (.laload, 1) := by decide +kernel
theorem d_Mo_placeIn_14 : decode c_Mo_placeIn 14 = .ok (.ldc2_w 52, 3) := by decide +kernel
theorem d_Mo_placeIn_17 : decode c_Mo_placeIn 17 = .ok (.lcmp, 1) := by decide +kernel
theorem d_Mo_placeIn_18 : decode c_Mo_placeIn 18 = .ok (.ifCond .lt 17, 3) := by decide +kernel
theorem d_Mo_placeIn_21 : decode c_Mo_placeIn 21 = .ok (.aload_n 0, 1) := by decide +kernel
theorem d_Mo_placeIn_22 : decode c_Mo_placeIn 22 = .ok (.getfield 7, 3) := by decide +kernel
theorem d_Mo_placeIn_25 : decode c_Mo_placeIn 25 = .ok (.iload_n 1, 1) := by decide +kernel
theorem d_Mo_placeIn_26 : decode c_Mo_placeIn 26 = .ok (.laload, 1) := by decide +kernel
theorem d_Mo_placeIn_27 : decode c_Mo_placeIn 27 = .ok (.ldc2_w 52, 3) := by decide +kernel
theorem d_Mo_placeIn_30 : decode c_Mo_placeIn 30 = .ok (.lsub, 1) := by decide +kernel
theorem d_Mo_placeIn_31 : decode c_Mo_placeIn 31 = .ok (.l2i, 1) := by decide +kernel
theorem d_Mo_placeIn_32 : decode c_Mo_placeIn 32 = .ok (.goto 4, 3) := by decide +kernel
theorem d_Mo_placeIn_35 : decode c_Mo_placeIn 35 = .ok (.iconst (-1), 1) := by decide +kernel
theorem d_Mo_placeIn_36 : decode c_Mo_placeIn 36 = .ok (.ireturn, 1) := by decide +kernel
abbrev c_Mo_small : ByteArray := prog_10_method_21_code
abbrev y_Mo_small : MethodName := ⟨"TwoGenerationsModel", "small", "()I"⟩
abbrev h_Mo_small : Cond := .code y_Mo_small c_Mo_small 2 (some .int)
theorem d_Mo_small_0 : decode c_Mo_small 0 = .ok (.aload_n 0, 1) := by decide +kernel
theorem d_Mo_small_1 : decode c_Mo_small 1 = .ok (.invokevirtual 95, 3) := by decide +kernel
theorem d_Mo_small_4 : decode c_Mo_small 4 = .ok (.istore_n 1, 1) := by decide +kernel
theorem d_Mo_small_5 : decode c_Mo_small 5 = .ok (.aload_n 0, 1) := by decide +kernel
theorem d_Mo_small_6 : decode c_Mo_small 6 = .ok (.iload_n 1, 1) := by decide +kernel
theorem d_Mo_small_7 : decode c_Mo_small 7 = .ok (.ifCond .lt 7, 3) := by decide +kernel
theorem d_Mo_small_10 : decode c_Mo_small 10 = .ok (.iconst 1, 1) := by decide +kernel
theorem d_Mo_small_11 : decode c_Mo_small 11 = .ok (.goto 4, 3) := by decide +kernel
theorem d_Mo_small_14 : decode c_Mo_small 14 = .ok (.iconst 0, 1) := by decide +kernel
theorem d_Mo_small_15 : decode c_Mo_small 15 = .ok (.iconst 1, 1) := by decide +kernel
theorem d_Mo_small_16 : decode c_Mo_small 16 = .ok (.invokevirtual 98, 3) := by decide +kernel
theorem d_Mo_small_19 : decode c_Mo_small 19 = .ok (.ifCond .eq 7, 3) := by decide +kernel
theorem d_Mo_small_22 : decode c_Mo_small 22 = .ok (.iload_n 1, 1) := by decide +kernel
theorem d_Mo_small_23 : decode c_Mo_small 23 = .ok (.goto 4, 3) := by decide +kernel
theorem d_Mo_small_26 : decode c_Mo_small 26 = .ok (.iconst 0, 1) := by decide +kernel
theorem d_Mo_small_27 : decode c_Mo_small 27 = .ok (.ireturn, 1) := by decide +kernel
abbrev c_Mo_great : ByteArray := prog_10_method_22_code
abbrev y_Mo_great : MethodName := ⟨"TwoGenerationsModel", "great", "()I"⟩
abbrev h_Mo_great : Cond := .code y_Mo_great c_Mo_great 1 (some .int)
theorem d_Mo_great_0 : decode c_Mo_great 0 = .ok (.aload_n 0, 1) := by decide +kernel
theorem d_Mo_great_1 : decode c_Mo_great 1 = .ok (.iconst 0, 1) := by decide +kernel
theorem d_Mo_great_2 : decode c_Mo_great 2 = .ok (.putfield 45, 3) := by decide +kernel
theorem d_Mo_great_5 : decode c_Mo_great 5 = .ok (.aload_n 0, 1) := by decide +kernel
theorem d_Mo_great_6 : decode c_Mo_great 6 = .ok (.invokevirtual 86, 3) := by decide +kernel
theorem d_Mo_great_9 : decode c_Mo_great 9 = .ok (.ireturn, 1) := by decide +kernel
abbrev c_Mo_load : ByteArray := prog_10_method_24_code
abbrev y_Mo_load : MethodName := ⟨"TwoGenerationsModel", "load", "(III)V"⟩
abbrev h_Mo_load : Cond := .code y_Mo_load c_Mo_load 4 none
theorem d_Mo_load_0 : decode c_Mo_load 0 = .ok (.aload_n 0, 1) := by decide +kernel
theorem d_Mo_load_1 : decode c_Mo_load 1 = .ok (.aload_n 0, 1) := by decide +kernel
theorem d_Mo_load_2 : decode c_Mo_load 2 = .ok (.iload_n 1, 1) := by decide +kernel
theorem d_Mo_load_3 : decode c_Mo_load 3 = .ok (.invokevirtual 48, 3) := by decide +kernel
theorem d_Mo_load_6 : decode c_Mo_load 6 = .ok (.ifCond .eq 16, 3) := by decide +kernel
theorem d_Mo_load_9 : decode c_Mo_load 9 = .ok (.aload_n 0, 1) := by decide +kernel
theorem d_Mo_load_10 : decode c_Mo_load 10 = .ok (.iload_n 2, 1) := by decide +kernel
theorem d_Mo_load_11 : decode c_Mo_load 11 = .ok (.iload_n 3, 1) := by decide +kernel
theorem d_Mo_load_12 : decode c_Mo_load 12 = .ok (.invokevirtual 112, 3) := by decide +kernel
theorem d_Mo_load_15 : decode c_Mo_load 15 = .ok (.ifCond .eq 7, 3) := by decide +kernel
theorem d_Mo_load_18 : decode c_Mo_load 18 = .ok (.iconst 1, 1) := by decide +kernel
theorem d_Mo_load_19 : decode c_Mo_load 19 = .ok (.goto 4, 3) := by decide +kernel
theorem d_Mo_load_22 : decode c_Mo_load 22 = .ok (.iconst 0, 1) := by decide +kernel
theorem d_Mo_load_23 : decode c_Mo_load 23 = .ok (.iconst 1, 1) := by decide +kernel
theorem d_Mo_load_24 : decode c_Mo_load 24 = .ok (.invokevirtual 98, 3) := by decide +kernel
theorem d_Mo_load_27 : decode c_Mo_load 27 = .ok (.ifCond .eq 24, 3) := by decide +kernel
theorem d_Mo_load_30 : decode c_Mo_load 30 = .ok (.aload_n 0, 1) := by decide +kernel
theorem d_Mo_load_31 : decode c_Mo_load 31 = .ok (.getfield 7, 3) := by decide +kernel
theorem d_Mo_load_34 : decode c_Mo_load 34 = .ok (.iload_n 1, 1) := by decide +kernel
theorem d_Mo_load_35 : decode c_Mo_load 35 = .ok (.aload_n 0, 1) := by decide +kernel
theorem d_Mo_load_36 : decode c_Mo_load 36 = .ok (.getfield 27, 3) := by decide +kernel
theorem d_Mo_load_39 : decode c_Mo_load 39 = .ok (.bipush 11, 2) := by decide +kernel
theorem d_Mo_load_41 : decode c_Mo_load 41 = .ok (.aload_n 0, 1) := by decide +kernel
theorem d_Mo_load_42 : decode c_Mo_load 42 = .ok (.iload_n 2, 1) := by decide +kernel
theorem d_Mo_load_43 : decode c_Mo_load 43 = .ok (.invokevirtual 109, 3) := by decide +kernel
theorem d_Mo_load_46 : decode c_Mo_load 46 = .ok (.imul, 1) := by decide +kernel
theorem d_Mo_load_47 : decode c_Mo_load 47 = .ok (.iload_n 3, 1) := by decide +kernel
theorem d_Mo_load_48 : decode c_Mo_load 48 = .ok (.iadd, 1) := by decide +kernel
theorem d_Mo_load_49 : decode c_Mo_load 49 = .ok (.laload, 1) := by decide +kernel
theorem d_Mo_load_50 : decode c_Mo_load 50 = .ok (.lastore, 1) := by decide +kernel
theorem d_Mo_load_51 : decode c_Mo_load 51 = .ok (.return_, 1) := by decide +kernel
abbrev c_Mo_hasField : ByteArray := prog_10_method_23_code
abbrev y_Mo_hasField : MethodName := ⟨"TwoGenerationsModel", "hasField", "(II)Z"⟩
abbrev h_Mo_hasField : Cond := .code y_Mo_hasField c_Mo_hasField 4 (some .boolean)
theorem d_Mo_hasField_0 : decode c_Mo_hasField 0 = .ok (.aload_n 0, 1) := by decide +kernel
theorem d_Mo_hasField_1 : decode c_Mo_hasField 1 = .ok (.iload_n 1, 1) := by decide +kernel
theorem d_Mo_hasField_2 : decode c_Mo_hasField 2 = .ok (.invokevirtual 109, 3) := by decide +kernel
theorem d_Mo_hasField_5 : decode c_Mo_hasField 5 = .ok (.istore_n 3, 1) := by decide +kernel
theorem d_Mo_hasField_6 : decode c_Mo_hasField 6 = .ok (.iload_n 3, 1) := by decide +kernel
theorem d_Mo_hasField_7 : decode c_Mo_hasField 7 = .ok (.ifCond .lt 21, 3) := by decide +kernel
theorem d_Mo_hasField_10 : decode c_Mo_hasField 10 = .ok (.iload_n 2, 1) := by decide +kernel
theorem d_Mo_hasField_11 : decode c_Mo_hasField 11 = .ok (.ifCond .lt 17, 3) := by decide +kernel
theorem d_Mo_hasField_14 : decode c_Mo_hasField 14 = .ok (.iload_n 2, 1) := by decide +kernel
theorem d_Mo_hasField_15 : decode c_Mo_hasField 15 = .ok (.aload_n 0, 1) := by decide +kernel
theorem d_Mo_hasField_16 : decode c_Mo_hasField 16 = .ok (.getfield 20, 3) := by decide +kernel
theorem d_Mo_hasField_19 : decode c_Mo_hasField 19 = .ok (.iload_n 3, 1) := by decide +kernel
theorem d_Mo_hasField_20 : decode c_Mo_hasField 20 = .ok (.iaload, 1) := by decide +kernel
theorem d_Mo_hasField_21 : decode c_Mo_hasField 21 = .ok (.if_icmp .ge 7, 3) := by decide +kernel
theorem d_Mo_hasField_24 : decode c_Mo_hasField 24 = .ok (.iconst 1, 1) := by decide +kernel
theorem d_Mo_hasField_25 : decode c_Mo_hasField 25 = .ok (.goto 4, 3) := by decide +kernel
theorem d_Mo_hasField_28 : decode c_Mo_hasField 28 = .ok (.iconst 0, 1) := by decide +kernel
theorem d_Mo_hasField_29 : decode c_Mo_hasField 29 = .ok (.ireturn, 1) := by decide +kernel
abbrev c_Mo_store : ByteArray := prog_10_method_25_code
abbrev y_Mo_store : MethodName := ⟨"TwoGenerationsModel", "store", "(III)V"⟩
abbrev h_Mo_store : Cond := .code y_Mo_store c_Mo_store 4 none
theorem d_Mo_store_0 : decode c_Mo_store 0 = .ok (.aload_n 0, 1) := by decide +kernel
theorem d_Mo_store_1 : decode c_Mo_store 1 = .ok (.aload_n 0, 1) := by decide +kernel
theorem d_Mo_store_2 : decode c_Mo_store 2 = .ok (.iload_n 1, 1) := by decide +kernel
theorem d_Mo_store_3 : decode c_Mo_store 3 = .ok (.iload_n 2, 1) := by decide +kernel
theorem d_Mo_store_4 : decode c_Mo_store 4 = .ok (.invokevirtual 112, 3) := by decide +kernel
theorem d_Mo_store_7 : decode c_Mo_store 7 = .ok (.ifCond .eq 15, 3) := by decide +kernel
theorem d_Mo_store_10 : decode c_Mo_store 10 = .ok (.aload_n 0, 1) := by decide +kernel
theorem d_Mo_store_11 : decode c_Mo_store 11 = .ok (.iload_n 3, 1) := by decide +kernel
theorem d_Mo_store_12 : decode c_Mo_store 12 = .ok (.invokevirtual 48, 3) := by decide +kernel
theorem d_Mo_store_15 : decode c_Mo_store 15 = .ok (.ifCond .eq 7, 3) := by decide +kernel
theorem d_Mo_store_18 : decode c_Mo_store 18 = .ok (.iconst 1, 1) := by decide +kernel
theorem d_Mo_store_19 : decode c_Mo_store 19 = .ok (.goto 4, 3) := by decide +kernel
theorem d_Mo_store_22 : decode c_Mo_store 22 = .ok (.iconst 0, 1) := by decide +kernel
theorem d_Mo_store_23 : decode c_Mo_store 23 = .ok (.iconst 1, 1) := by decide +kernel
theorem d_Mo_store_24 : decode c_Mo_store 24 = .ok (.invokevirtual 98, 3) := by decide +kernel
theorem d_Mo_store_27 : decode c_Mo_store 27 = .ok (.ifCond .eq 24, 3) := by decide +kernel
theorem d_Mo_store_30 : decode c_Mo_store 30 = .ok (.aload_n 0, 1) := by decide +kernel
theorem d_Mo_store_31 : decode c_Mo_store 31 = .ok (.getfield 27, 3) := by decide +kernel
theorem d_Mo_store_34 : decode c_Mo_store 34 = .ok (.bipush 11, 2) := by decide +kernel
theorem d_Mo_store_36 : decode c_Mo_store 36 = .ok (.aload_n 0, 1) := by decide +kernel
theorem d_Mo_store_37 : decode c_Mo_store 37 = .ok (.iload_n 1, 1) := by decide +kernel
theorem d_Mo_store_38 : decode c_Mo_store 38 = .ok (.invokevirtual 109, 3) := by decide +kernel
theorem d_Mo_store_41 : decode c_Mo_store 41 = .ok (.imul, 1) := by decide +kernel
theorem d_Mo_store_42 : decode c_Mo_store 42 = .ok (.iload_n 2, 1) := by decide +kernel
theorem d_Mo_store_43 : decode c_Mo_store 43 = .ok (.iadd, 1) := by decide +kernel
theorem d_Mo_store_44 : decode c_Mo_store 44 = .ok (.aload_n 0, 1) := by decide +kernel
theorem d_Mo_store_45 : decode c_Mo_store 45 = .ok (.getfield 7, 3) := by decide +kernel
theorem d_Mo_store_48 : decode c_Mo_store 48 = .ok (.iload_n 3, 1) := by decide +kernel
theorem d_Mo_store_49 : decode c_Mo_store 49 = .ok (.laload, 1) := by decide +kernel
theorem d_Mo_store_50 : decode c_Mo_store 50 = .ok (.lastore, 1) := by decide +kernel
theorem d_Mo_store_51 : decode c_Mo_store 51 = .ok (.return_, 1) := by decide +kernel
abbrev c_Mo_target : ByteArray := prog_10_method_26_code
abbrev y_Mo_target : MethodName := ⟨"TwoGenerationsModel", "target", "(II)V"⟩
abbrev h_Mo_target : Cond := .code y_Mo_target c_Mo_target 4 none
theorem d_Mo_target_0 : decode c_Mo_target 0 = .ok (.aload_n 0, 1) := by decide +kernel
theorem d_Mo_target_1 : decode c_Mo_target 1 = .ok (.iload_n 2, 1) := by decide +kernel
theorem d_Mo_target_2 : decode c_Mo_target 2 = .ok (.invokevirtual 109, 3) := by decide +kernel
theorem d_Mo_target_5 : decode c_Mo_target 5 = .ok (.istore_n 3, 1) := by decide +kernel
theorem d_Mo_target_6 : decode c_Mo_target 6 = .ok (.aload_n 0, 1) := by decide +kernel
theorem d_Mo_target_7 : decode c_Mo_target 7 = .ok (.aload_n 0, 1) := by decide +kernel
theorem d_Mo_target_8 : decode c_Mo_target 8 = .ok (.iload_n 1, 1) := by decide +kernel
theorem d_Mo_target_9 : decode c_Mo_target 9 = .ok (.invokevirtual 48, 3) := by decide +kernel
theorem d_Mo_target_12 : decode c_Mo_target 12 = .ok (.ifCond .eq 20, 3) := by decide +kernel
theorem d_Mo_target_15 : decode c_Mo_target 15 = .ok (.iload_n 3, 1) := by decide +kernel
theorem d_Mo_target_16 : decode c_Mo_target 16 = .ok (.ifCond .lt 16, 3) := by decide +kernel
theorem d_Mo_target_19 : decode c_Mo_target 19 = .ok (.aload_n 0, 1) := by decide +kernel
theorem d_Mo_target_20 : decode c_Mo_target 20 = .ok (.getfield 20, 3) := by decide +kernel
theorem d_Mo_target_23 : decode c_Mo_target 23 = .ok (.iload_n 3, 1) := by decide +kernel
theorem d_Mo_target_24 : decode c_Mo_target 24 = .ok (.iaload, 1) := by decide +kernel
theorem d_Mo_target_25 : decode c_Mo_target 25 = .ok (.ifCond .ge 7, 3) := by decide +kernel
theorem d_Mo_target_28 : decode c_Mo_target 28 = .ok (.iconst 1, 1) := by decide +kernel
theorem d_Mo_target_29 : decode c_Mo_target 29 = .ok (.goto 4, 3) := by decide +kernel
theorem d_Mo_target_32 : decode c_Mo_target 32 = .ok (.iconst 0, 1) := by decide +kernel
theorem d_Mo_target_33 : decode c_Mo_target 33 = .ok (.iconst 1, 1) := by decide +kernel
theorem d_Mo_target_34 : decode c_Mo_target 34 = .ok (.invokevirtual 98, 3) := by decide +kernel
theorem d_Mo_target_37 : decode c_Mo_target 37 = .ok (.ifCond .ne 4, 3) := by decide +kernel
theorem d_Mo_target_40 : decode c_Mo_target 40 = .ok (.return_, 1) := by decide +kernel
theorem d_Mo_target_41 : decode c_Mo_target 41 = .ok (.aload_n 0, 1) := by decide +kernel
theorem d_Mo_target_42 : decode c_Mo_target 42 = .ok (.getfield 7, 3) := by decide +kernel
theorem d_Mo_target_45 : decode c_Mo_target 45 = .ok (.iload_n 1, 1) := by decide +kernel
theorem d_Mo_target_46 : decode c_Mo_target 46 = .ok (.aload_n 0, 1) := by decide +kernel
theorem d_Mo_target_47 : decode c_Mo_target 47 = .ok (.getfield 24, 3) := by decide +kernel
theorem d_Mo_target_50 : decode c_Mo_target 50 = .ok (.iload_n 3, 1) := by decide +kernel
theorem d_Mo_target_51 : decode c_Mo_target 51 = .ok (.iaload, 1) := by decide +kernel
theorem d_Mo_target_52 : decode c_Mo_target 52 = .ok (.ifCond .ge 9, 3) := by decide +kernel
theorem d_Mo_target_55 : decode c_Mo_target 55 = .ok (.ldc2_w 43, 3) := by decide +kernel
theorem d_Mo_target_58 : decode c_Mo_target 58 = .ok (.goto 14, 3) := by decide +kernel
theorem d_Mo_target_61 : decode c_Mo_target 61 = .ok (.ldc2_w 52, 3) := by decide +kernel
theorem d_Mo_target_64 : decode c_Mo_target 64 = .ok (.aload_n 0, 1) := by decide +kernel
theorem d_Mo_target_65 : decode c_Mo_target 65 = .ok (.getfield 24, 3) := by decide +kernel
theorem d_Mo_target_68 : decode c_Mo_target 68 = .ok (.iload_n 3, 1) := by decide +kernel
theorem d_Mo_target_69 : decode c_Mo_target 69 = .ok (.iaload, 1) := by decide +kernel
theorem d_Mo_target_70 : decode c_Mo_target 70 = .ok (.i2l, 1) := by decide +kernel
theorem d_Mo_target_71 : decode c_Mo_target 71 = .ok (.ladd, 1) := by decide +kernel
theorem d_Mo_target_72 : decode c_Mo_target 72 = .ok (.lastore, 1) := by decide +kernel
theorem d_Mo_target_73 : decode c_Mo_target 73 = .ok (.return_, 1) := by decide +kernel
abbrev c_Mo_number : ByteArray := prog_10_method_27_code
abbrev y_Mo_number : MethodName := ⟨"TwoGenerationsModel", "number", "(II)V"⟩
abbrev h_Mo_number : Cond := .code y_Mo_number c_Mo_number 3 none
theorem d_Mo_number_0 : decode c_Mo_number 0 = .ok (.aload_n 0, 1) := by decide +kernel
theorem d_Mo_number_1 : decode c_Mo_number 1 = .ok (.aload_n 0, 1) := by decide +kernel
theorem d_Mo_number_2 : decode c_Mo_number 2 = .ok (.iload_n 1, 1) := by decide +kernel
theorem d_Mo_number_3 : decode c_Mo_number 3 = .ok (.invokevirtual 48, 3) := by decide +kernel
theorem d_Mo_number_6 : decode c_Mo_number 6 = .ok (.ifCond .eq 19, 3) := by decide +kernel
theorem d_Mo_number_9 : decode c_Mo_number 9 = .ok (.iload_n 2, 1) := by decide +kernel
theorem d_Mo_number_10 : decode c_Mo_number 10 = .ok (.ldc 116, 2) := by decide +kernel
theorem d_Mo_number_12 : decode c_Mo_number 12 = .ok (.if_icmp .lt 13, 3) := by decide +kernel
theorem d_Mo_number_15 : decode c_Mo_number 15 = .ok (.iload_n 2, 1) := by decide +kernel
theorem d_Mo_number_16 : decode c_Mo_number 16 = .ok (.ldc 117, 2) := by decide +kernel
theorem d_Mo_number_18 : decode c_Mo_number 18 = .ok (.if_icmp .ge 7, 3) := by decide +kernel
theorem d_Mo_number_21 : decode c_Mo_number 21 = .ok (.iconst 1, 1) := by decide +kernel
theorem d_Mo_number_22 : decode c_Mo_number 22 = .ok (.goto 4, 3) := by decide +kernel
theorem d_Mo_number_25 : decode c_Mo_number 25 = .ok (.iconst 0, 1) := by decide +kernel
theorem d_Mo_number_26 : decode c_Mo_number 26 = .ok (.iconst 1, 1) := by decide +kernel
theorem d_Mo_number_27 : decode c_Mo_number 27 = .ok (.invokevirtual 98, 3) := by decide +kernel
theorem d_Mo_number_30 : decode c_Mo_number 30 = .ok (.ifCond .eq 11, 3) := by decide +kernel
theorem d_Mo_number_33 : decode c_Mo_number 33 = .ok (.aload_n 0, 1) := by decide +kernel
theorem d_Mo_number_34 : decode c_Mo_number 34 = .ok (.getfield 7, 3) := by decide +kernel
theorem d_Mo_number_37 : decode c_Mo_number 37 = .ok (.iload_n 1, 1) := by decide +kernel
theorem d_Mo_number_38 : decode c_Mo_number 38 = .ok (.iload_n 2, 1) := by decide +kernel
theorem d_Mo_number_39 : decode c_Mo_number 39 = .ok (.i2l, 1) := by decide +kernel
theorem d_Mo_number_40 : decode c_Mo_number 40 = .ok (.lastore, 1) := by decide +kernel
theorem d_Mo_number_41 : decode c_Mo_number 41 = .ok (.return_, 1) := by decide +kernel
abbrev c_Mo_clear : ByteArray := prog_10_method_28_code
abbrev y_Mo_clear : MethodName := ⟨"TwoGenerationsModel", "clear", "(I)V"⟩
abbrev h_Mo_clear : Cond := .code y_Mo_clear c_Mo_clear 2 none
theorem d_Mo_clear_0 : decode c_Mo_clear 0 = .ok (.aload_n 0, 1) := by decide +kernel
theorem d_Mo_clear_1 : decode c_Mo_clear 1 = .ok (.aload_n 0, 1) := by decide +kernel
theorem d_Mo_clear_2 : decode c_Mo_clear 2 = .ok (.iload_n 1, 1) := by decide +kernel
theorem d_Mo_clear_3 : decode c_Mo_clear 3 = .ok (.invokevirtual 48, 3) := by decide +kernel
theorem d_Mo_clear_6 : decode c_Mo_clear 6 = .ok (.iconst 1, 1) := by decide +kernel
theorem d_Mo_clear_7 : decode c_Mo_clear 7 = .ok (.invokevirtual 98, 3) := by decide +kernel
theorem d_Mo_clear_10 : decode c_Mo_clear 10 = .ok (.ifCond .eq 12, 3) := by decide +kernel
theorem d_Mo_clear_13 : decode c_Mo_clear 13 = .ok (.aload_n 0, 1) := by decide +kernel
theorem d_Mo_clear_14 : decode c_Mo_clear 14 = .ok (.getfield 7, 3) := by decide +kernel
theorem d_Mo_clear_17 : decode c_Mo_clear 17 = .ok (.iload_n 1, 1) := by decide +kernel
theorem d_Mo_clear_18 : decode c_Mo_clear 18 = .ok (.ldc2_w 43, 3) := by decide +kernel
theorem d_Mo_clear_21 : decode c_Mo_clear 21 = .ok (.lastore, 1) := by decide +kernel
theorem d_Mo_clear_22 : decode c_Mo_clear 22 = .ok (.return_, 1) := by decide +kernel
abbrev c_Mo_move : ByteArray := prog_10_method_29_code
abbrev y_Mo_move : MethodName := ⟨"TwoGenerationsModel", "move", "(II)V"⟩
abbrev h_Mo_move : Cond := .code y_Mo_move c_Mo_move 3 none
theorem d_Mo_move_0 : decode c_Mo_move 0 = .ok (.aload_n 0, 1) := by decide +kernel
theorem d_Mo_move_1 : decode c_Mo_move 1 = .ok (.aload_n 0, 1) := by decide +kernel
theorem d_Mo_move_2 : decode c_Mo_move 2 = .ok (.iload_n 1, 1) := by decide +kernel
theorem d_Mo_move_3 : decode c_Mo_move 3 = .ok (.invokevirtual 48, 3) := by decide +kernel
theorem d_Mo_move_6 : decode c_Mo_move 6 = .ok (.ifCond .eq 15, 3) := by decide +kernel
theorem d_Mo_move_9 : decode c_Mo_move 9 = .ok (.aload_n 0, 1) := by decide +kernel
theorem d_Mo_move_10 : decode c_Mo_move 10 = .ok (.iload_n 2, 1) := by decide +kernel
theorem d_Mo_move_11 : decode c_Mo_move 11 = .ok (.invokevirtual 48, 3) := by decide +kernel
theorem d_Mo_move_14 : decode c_Mo_move 14 = .ok (.ifCond .eq 7, 3) := by decide +kernel
theorem d_Mo_move_17 : decode c_Mo_move 17 = .ok (.iconst 1, 1) := by decide +kernel
theorem d_Mo_move_18 : decode c_Mo_move 18 = .ok (.goto 4, 3) := by decide +kernel
theorem d_Mo_move_21 : decode c_Mo_move 21 = .ok (.iconst 0, 1) := by decide +kernel
theorem d_Mo_move_22 : decode c_Mo_move 22 = .ok (.iconst 1, 1) := by decide +kernel
theorem d_Mo_move_23 : decode c_Mo_move 23 = .ok (.invokevirtual 98, 3) := by decide +kernel
theorem d_Mo_move_26 : decode c_Mo_move 26 = .ok (.ifCond .eq 15, 3) := by decide +kernel
theorem d_Mo_move_29 : decode c_Mo_move 29 = .ok (.aload_n 0, 1) := by decide +kernel
theorem d_Mo_move_30 : decode c_Mo_move 30 = .ok (.getfield 7, 3) := by decide +kernel
theorem d_Mo_move_33 : decode c_Mo_move 33 = .ok (.iload_n 1, 1) := by decide +kernel
theorem d_Mo_move_34 : decode c_Mo_move 34 = .ok (.aload_n 0, 1) := by decide +kernel
theorem d_Mo_move_35 : decode c_Mo_move 35 = .ok (.getfield 7, 3) := by decide +kernel
theorem d_Mo_move_38 : decode c_Mo_move 38 = .ok (.iload_n 2, 1) := by decide +kernel
theorem d_Mo_move_39 : decode c_Mo_move 39 = .ok (.laload, 1) := by decide +kernel
theorem d_Mo_move_40 : decode c_Mo_move 40 = .ok (.lastore, 1) := by decide +kernel
theorem d_Mo_move_41 : decode c_Mo_move 41 = .ok (.return_, 1) := by decide +kernel
abbrev c_Mo_kind : ByteArray := prog_10_method_30_code
abbrev y_Mo_kind : MethodName := ⟨"TwoGenerationsModel", "kind", "(I)I"⟩
abbrev h_Mo_kind : Cond := .code y_Mo_kind c_Mo_kind 3 (some .int)
theorem d_Mo_kind_0 : decode c_Mo_kind 0 = .ok (.aload_n 0, 1) := by decide +kernel
theorem d_Mo_kind_1 : decode c_Mo_kind 1 = .ok (.iconst 0, 1) := by decide +kernel
theorem d_Mo_kind_2 : decode c_Mo_kind 2 = .ok (.putfield 45, 3) := by decide +kernel
theorem d_Mo_kind_5 : decode c_Mo_kind 5 = .ok (.aload_n 0, 1) := by decide +kernel
theorem d_Mo_kind_6 : decode c_Mo_kind 6 = .ok (.iload_n 1, 1) := by decide +kernel
theorem d_Mo_kind_7 : decode c_Mo_kind 7 = .ok (.invokevirtual 48, 3) := by decide +kernel
theorem d_Mo_kind_10 : decode c_Mo_kind 10 = .ok (.ifCond .ne 5, 3) := by decide +kernel
theorem d_Mo_kind_13 : decode c_Mo_kind 13 = .ok (.iconst (-1), 1) := by decide +kernel
theorem d_Mo_kind_14 : decode c_Mo_kind 14 = .ok (.ireturn, 1) := by decide +kernel
theorem d_Mo_kind_15 : decode c_Mo_kind 15 = .ok (.aload_n 0, 1) := by decide +kernel
theorem d_Mo_kind_16 : decode c_Mo_kind 16 = .ok (.iload_n 1, 1) := by decide +kernel
theorem d_Mo_kind_17 : decode c_Mo_kind 17 = .ok (.invokevirtual 109, 3) := by decide +kernel
theorem d_Mo_kind_20 : decode c_Mo_kind 20 = .ok (.istore_n 2, 1) := by decide +kernel
theorem d_Mo_kind_21 : decode c_Mo_kind 21 = .ok (.iload_n 2, 1) := by decide +kernel
theorem d_Mo_kind_22 : decode c_Mo_kind 22 = .ok (.ifCond .lt 20, 3) := by decide +kernel
theorem d_Mo_kind_25 : decode c_Mo_kind 25 = .ok (.aload_n 0, 1) := by decide +kernel
theorem d_Mo_kind_26 : decode c_Mo_kind 26 = .ok (.getfield 20, 3) := by decide +kernel
theorem d_Mo_kind_29 : decode c_Mo_kind 29 = .ok (.iload_n 2, 1) := by decide +kernel
theorem d_Mo_kind_30 : decode c_Mo_kind 30 = .ok (.iaload, 1) := by decide +kernel
theorem d_Mo_kind_31 : decode c_Mo_kind 31 = .ok (.ifCond .ge 7, 3) := by decide +kernel
theorem d_Mo_kind_34 : decode c_Mo_kind 34 = .ok (.iconst 3, 1) := by decide +kernel
theorem d_Mo_kind_35 : decode c_Mo_kind 35 = .ok (.goto 25, 3) := by decide +kernel
theorem d_Mo_kind_38 : decode c_Mo_kind 38 = .ok (.iconst 2, 1) := by decide +kernel
theorem d_Mo_kind_39 : decode c_Mo_kind 39 = .ok (.goto 21, 3) := by decide +kernel
theorem d_Mo_kind_42 : decode c_Mo_kind 42 = .ok (.aload_n 0, 1) := by decide +kernel
theorem d_Mo_kind_43 : decode c_Mo_kind 43 = .ok (.getfield 7, 3) := by decide +kernel
theorem d_Mo_kind_46 : decode c_Mo_kind 46 = .ok (.iload_n 1, 1) := by decide +kernel
theorem d_Mo_kind_47 : decode c_Mo_kind 47 = .ok (.laload, 1) := by decide +kernel
theorem d_Mo_kind_48 : decode c_Mo_kind 48 = .ok (.ldc2_w 43, 3) := by decide +kernel
theorem d_Mo_kind_51 : decode c_Mo_kind 51 = .ok (.lcmp, 1) := by decide +kernel
theorem d_Mo_kind_52 : decode c_Mo_kind 52 = .ok (.ifCond .ne 7, 3) := by decide +kernel
theorem d_Mo_kind_55 : decode c_Mo_kind 55 = .ok (.iconst 0, 1) := by decide +kernel
theorem d_Mo_kind_56 : decode c_Mo_kind 56 = .ok (.goto 4, 3) := by decide +kernel
theorem d_Mo_kind_59 : decode c_Mo_kind 59 = .ok (.iconst 1, 1) := by decide +kernel
theorem d_Mo_kind_60 : decode c_Mo_kind 60 = .ok (.ireturn, 1) := by decide +kernel
abbrev c_Mo_value : ByteArray := prog_10_method_31_code
abbrev y_Mo_value : MethodName := ⟨"TwoGenerationsModel", "value", "(I)I"⟩
abbrev h_Mo_value : Cond := .code y_Mo_value c_Mo_value 2 (some .int)
theorem d_Mo_value_0 : decode c_Mo_value 0 = .ok (.aload_n 0, 1) := by decide +kernel
theorem d_Mo_value_1 : decode c_Mo_value 1 = .ok (.iconst 0, 1) := by decide +kernel
theorem d_Mo_value_2 : decode c_Mo_value 2 = .ok (.putfield 45, 3) := by decide +kernel
theorem d_Mo_value_5 : decode c_Mo_value 5 = .ok (.aload_n 0, 1) := by decide +kernel
theorem d_Mo_value_6 : decode c_Mo_value 6 = .ok (.iload_n 1, 1) := by decide +kernel
theorem d_Mo_value_7 : decode c_Mo_value 7 = .ok (.invokevirtual 48, 3) := by decide +kernel
theorem d_Mo_value_10 : decode c_Mo_value 10 = .ok (.ifCond .eq 26, 3) := by decide +kernel
theorem d_Mo_value_13 : decode c_Mo_value 13 = .ok (.aload_n 0, 1) := by decide +kernel
theorem d_Mo_value_14 : decode c_Mo_value 14 = .ok (.getfield 7, 3) := by decide +kernel
theorem d_Mo_value_17 : decode c_Mo_value 17 = .ok (.iload_n 1, 1) := by decide +kernel
theorem d_Mo_value_18 : decode c_Mo_value 18 = .ok (.laload, 1) := by decide +kernel
theorem d_Mo_value_19 : decode c_Mo_value 19 = .ok (.ldc2_w 43, 3) := by decide +kernel
theorem d_Mo_value_22 : decode c_Mo_value 22 = .ok (.lcmp, 1) := by decide +kernel
theorem d_Mo_value_23 : decode c_Mo_value 23 = .ok (.ifCond .ge 13, 3) := by decide +kernel
theorem d_Mo_value_26 : decode c_Mo_value 26 = .ok (.aload_n 0, 1) := by decide +kernel
theorem d_Mo_value_27 : decode c_Mo_value 27 = .ok (.getfield 7, 3) := by decide +kernel
theorem d_Mo_value_30 : decode c_Mo_value 30 = .ok (.iload_n 1, 1) := by decide +kernel
theorem d_Mo_value_31 : decode c_Mo_value 31 = .ok (.laload, 1) := by decide +kernel
theorem d_Mo_value_32 : decode c_Mo_value 32 = .ok (.l2i, 1) := by decide +kernel
theorem d_Mo_value_33 : decode c_Mo_value 33 = .ok (.goto 4, 3) := by decide +kernel
theorem d_Mo_value_36 : decode c_Mo_value 36 = .ok (.iconst 0, 1) := by decide +kernel
theorem d_Mo_value_37 : decode c_Mo_value 37 = .ok (.ireturn, 1) := by decide +kernel
abbrev c_Mo_fields : ByteArray := prog_10_method_32_code
abbrev y_Mo_fields : MethodName := ⟨"TwoGenerationsModel", "fields", "(I)I"⟩
abbrev h_Mo_fields : Cond := .code y_Mo_fields c_Mo_fields 3 (some .int)
theorem d_Mo_fields_0 : decode c_Mo_fields 0 = .ok (.aload_n 0, 1) := by decide +kernel
theorem d_Mo_fields_1 : decode c_Mo_fields 1 = .ok (.iconst 0, 1) := by decide +kernel
theorem d_Mo_fields_2 : decode c_Mo_fields 2 = .ok (.putfield 45, 3) := by decide +kernel
theorem d_Mo_fields_5 : decode c_Mo_fields 5 = .ok (.aload_n 0, 1) := by decide +kernel
theorem d_Mo_fields_6 : decode c_Mo_fields 6 = .ok (.iload_n 1, 1) := by decide +kernel
theorem d_Mo_fields_7 : decode c_Mo_fields 7 = .ok (.invokevirtual 109, 3) := by decide +kernel
theorem d_Mo_fields_10 : decode c_Mo_fields 10 = .ok (.istore_n 2, 1) := by decide +kernel
theorem d_Mo_fields_11 : decode c_Mo_fields 11 = .ok (.iload_n 2, 1) := by decide +kernel
theorem d_Mo_fields_12 : decode c_Mo_fields 12 = .ok (.ifCond .lt 12, 3) := by decide +kernel
theorem d_Mo_fields_15 : decode c_Mo_fields 15 = .ok (.aload_n 0, 1) := by decide +kernel
theorem d_Mo_fields_16 : decode c_Mo_fields 16 = .ok (.getfield 20, 3) := by decide +kernel
theorem d_Mo_fields_19 : decode c_Mo_fields 19 = .ok (.iload_n 2, 1) := by decide +kernel
theorem d_Mo_fields_20 : decode c_Mo_fields 20 = .ok (.iaload, 1) := by decide +kernel
theorem d_Mo_fields_21 : decode c_Mo_fields 21 = .ok (.ifCond .ge 7, 3) := by decide +kernel
theorem d_Mo_fields_24 : decode c_Mo_fields 24 = .ok (.iconst (-1), 1) := by decide +kernel
theorem d_Mo_fields_25 : decode c_Mo_fields 25 = .ok (.goto 9, 3) := by decide +kernel
theorem d_Mo_fields_28 : decode c_Mo_fields 28 = .ok (.aload_n 0, 1) := by decide +kernel
theorem d_Mo_fields_29 : decode c_Mo_fields 29 = .ok (.getfield 20, 3) := by decide +kernel
theorem d_Mo_fields_32 : decode c_Mo_fields 32 = .ok (.iload_n 2, 1) := by decide +kernel
theorem d_Mo_fields_33 : decode c_Mo_fields 33 = .ok (.iaload, 1) := by decide +kernel
theorem d_Mo_fields_34 : decode c_Mo_fields 34 = .ok (.ireturn, 1) := by decide +kernel
abbrev c_Mo_same : ByteArray := prog_10_method_33_code
abbrev y_Mo_same : MethodName := ⟨"TwoGenerationsModel", "same", "(II)Z"⟩
abbrev h_Mo_same : Cond := .code y_Mo_same c_Mo_same 3 (some .boolean)
theorem d_Mo_same_0 : decode c_Mo_same 0 = .ok (.aload_n 0, 1) := by decide +kernel
theorem d_Mo_same_1 : decode c_Mo_same 1 = .ok (.iconst 0, 1) := by decide +kernel
theorem d_Mo_same_2 : decode c_Mo_same 2 = .ok (.putfield 45, 3) := by decide +kernel
theorem d_Mo_same_5 : decode c_Mo_same 5 = .ok (.aload_n 0, 1) := by decide +kernel
theorem d_Mo_same_6 : decode c_Mo_same 6 = .ok (.iload_n 1, 1) := by decide +kernel
theorem d_Mo_same_7 : decode c_Mo_same 7 = .ok (.invokevirtual 48, 3) := by decide +kernel
theorem d_Mo_same_10 : decode c_Mo_same 10 = .ok (.ifCond .eq 31, 3) := by decide +kernel
theorem d_Mo_same_13 : decode c_Mo_same 13 = .ok (.aload_n 0, 1) := by decide +kernel
theorem d_Mo_same_14 : decode c_Mo_same 14 = .ok (.iload_n 2, 1) := by decide +kernel
theorem d_Mo_same_15 : decode c_Mo_same 15 = .ok (.invokevirtual 48, 3) := by decide +kernel
theorem d_Mo_same_18 : decode c_Mo_same 18 = .ok (.ifCond .eq 23, 3) := by decide +kernel
theorem d_Mo_same_21 : decode c_Mo_same 21 = .ok (.aload_n 0, 1) := by decide +kernel
theorem d_Mo_same_22 : decode c_Mo_same 22 = .ok (.getfield 7, 3) := by decide +kernel
theorem d_Mo_same_25 : decode c_Mo_same 25 = .ok (.iload_n 1, 1) := by decide +kernel
theorem d_Mo_same_26 : decode c_Mo_same 26 = .ok (.laload, 1) := by decide +kernel
theorem d_Mo_same_27 : decode c_Mo_same 27 = .ok (.aload_n 0, 1) := by decide +kernel
theorem d_Mo_same_28 : decode c_Mo_same 28 = .ok (.getfield 7, 3) := by decide +kernel
theorem d_Mo_same_31 : decode c_Mo_same 31 = .ok (.iload_n 2, 1) := by decide +kernel
theorem d_Mo_same_32 : decode c_Mo_same 32 = .ok (.laload, 1) := by decide +kernel
theorem d_Mo_same_33 : decode c_Mo_same 33 = .ok (.lcmp, 1) := by decide +kernel
theorem d_Mo_same_34 : decode c_Mo_same 34 = .ok (.ifCond .ne 7, 3) := by decide +kernel
theorem d_Mo_same_37 : decode c_Mo_same 37 = .ok (.iconst 1, 1) := by decide +kernel
theorem d_Mo_same_38 : decode c_Mo_same 38 = .ok (.goto 4, 3) := by decide +kernel
theorem d_Mo_same_41 : decode c_Mo_same 41 = .ok (.iconst 0, 1) := by decide +kernel
theorem d_Mo_same_42 : decode c_Mo_same 42 = .ok (.ireturn, 1) := by decide +kernel
abbrev c_Mo_generation : ByteArray := prog_10_method_34_code
abbrev y_Mo_generation : MethodName := ⟨"TwoGenerationsModel", "generation", "(I)I"⟩
abbrev h_Mo_generation : Cond := .code y_Mo_generation c_Mo_generation 3 (some .int)
theorem d_Mo_generation_0 : decode c_Mo_generation 0 = .ok (.aload_n 0, 1) := by decide +kernel
theorem d_Mo_generation_1 : decode c_Mo_generation 1 = .ok (.iconst 0, 1) := by decide +kernel
theorem d_Mo_generation_2 : decode c_Mo_generation 2 = .ok (.putfield 45, 3) := by decide +kernel
theorem d_Mo_generation_5 : decode c_Mo_generation 5 = .ok (.aload_n 0, 1) := by decide +kernel
theorem d_Mo_generation_6 : decode c_Mo_generation 6 = .ok (.iload_n 1, 1) := by decide +kernel
theorem d_Mo_generation_7 : decode c_Mo_generation 7 = .ok (.invokevirtual 109, 3) := by decide +kernel
theorem d_Mo_generation_10 : decode c_Mo_generation 10 = .ok (.istore_n 2, 1) := by decide +kernel
theorem d_Mo_generation_11 : decode c_Mo_generation 11 = .ok (.iload_n 2, 1) := by decide +kernel
theorem d_Mo_generation_12 : decode c_Mo_generation 12 = .ok (.ifCond .ge 7, 3) := by decide +kernel
theorem d_Mo_generation_15 : decode c_Mo_generation 15 = .ok (.iconst (-1), 1) := by decide +kernel
theorem d_Mo_generation_16 : decode c_Mo_generation 16 = .ok (.goto 17, 3) := by decide +kernel
theorem d_Mo_generation_19 : decode c_Mo_generation 19 = .ok (.aload_n 0, 1) := by decide +kernel
theorem d_Mo_generation_20 : decode c_Mo_generation 20 = .ok (.getfield 17, 3) := by decide +kernel
theorem d_Mo_generation_23 : decode c_Mo_generation 23 = .ok (.iload_n 2, 1) := by decide +kernel
theorem d_Mo_generation_24 : decode c_Mo_generation 24 = .ok (.baload, 1) := by decide +kernel
theorem d_Mo_generation_25 : decode c_Mo_generation 25 = .ok (.ifCond .eq 7, 3) := by decide +kernel
theorem d_Mo_generation_28 : decode c_Mo_generation 28 = .ok (.iconst 1, 1) := by decide +kernel
theorem d_Mo_generation_29 : decode c_Mo_generation 29 = .ok (.goto 4, 3) := by decide +kernel
theorem d_Mo_generation_32 : decode c_Mo_generation 32 = .ok (.iconst 0, 1) := by decide +kernel
theorem d_Mo_generation_33 : decode c_Mo_generation 33 = .ok (.ireturn, 1) := by decide +kernel
abbrev c_Mo_reach : ByteArray := prog_10_method_35_code
abbrev y_Mo_reach : MethodName := ⟨"TwoGenerationsModel", "reach", "(I)I"⟩
abbrev h_Mo_reach : Cond := .code y_Mo_reach c_Mo_reach 4 (some .int)
theorem d_Mo_reach_0 : decode c_Mo_reach 0 = .ok (.aload_n 0, 1) := by decide +kernel
theorem d_Mo_reach_1 : decode c_Mo_reach 1 = .ok (.iconst 0, 1) := by decide +kernel
theorem d_Mo_reach_2 : decode c_Mo_reach 2 = .ok (.putfield 45, 3) := by decide +kernel
theorem d_Mo_reach_5 : decode c_Mo_reach 5 = .ok (.aload_n 0, 1) := by decide +kernel
theorem d_Mo_reach_6 : decode c_Mo_reach 6 = .ok (.iload_n 1, 1) := by decide +kernel
theorem d_Mo_reach_7 : decode c_Mo_reach 7 = .ok (.invokevirtual 109, 3) := by decide +kernel
theorem d_Mo_reach_10 : decode c_Mo_reach 10 = .ok (.ifCond .ge 5, 3) := by decide +kernel
theorem d_Mo_reach_13 : decode c_Mo_reach 13 = .ok (.iconst 0, 1) := by decide +kernel
theorem d_Mo_reach_14 : decode c_Mo_reach 14 = .ok (.ireturn, 1) := by decide +kernel
theorem d_Mo_reach_15 : decode c_Mo_reach 15 = .ok (.aload_n 0, 1) := by decide +kernel
theorem d_Mo_reach_16 : decode c_Mo_reach 16 = .ok (.invokevirtual 70, 3) := by decide +kernel
theorem d_Mo_reach_19 : decode c_Mo_reach 19 = .ok (.aload_n 0, 1) := by decide +kernel
theorem d_Mo_reach_20 : decode c_Mo_reach 20 = .ok (.aload_n 0, 1) := by decide +kernel
theorem d_Mo_reach_21 : decode c_Mo_reach 21 = .ok (.getfield 7, 3) := by decide +kernel
theorem d_Mo_reach_24 : decode c_Mo_reach 24 = .ok (.iload_n 1, 1) := by decide +kernel
theorem d_Mo_reach_25 : decode c_Mo_reach 25 = .ok (.laload, 1) := by decide +kernel
theorem d_Mo_reach_26 : decode c_Mo_reach 26 = .ok (.invokevirtual 58, 3) := by decide +kernel
theorem d_Mo_reach_29 : decode c_Mo_reach 29 = .ok (.aload_n 0, 1) := by decide +kernel
theorem d_Mo_reach_30 : decode c_Mo_reach 30 = .ok (.invokevirtual 76, 3) := by decide +kernel
theorem d_Mo_reach_33 : decode c_Mo_reach 33 = .ok (.iconst 0, 1) := by decide +kernel
theorem d_Mo_reach_34 : decode c_Mo_reach 34 = .ok (.istore_n 2, 1) := by decide +kernel
theorem d_Mo_reach_35 : decode c_Mo_reach 35 = .ok (.iconst 0, 1) := by decide +kernel
theorem d_Mo_reach_36 : decode c_Mo_reach 36 = .ok (.istore_n 3, 1) := by decide +kernel
theorem d_Mo_reach_37 : decode c_Mo_reach 37 = .ok (.iload_n 3, 1) := by decide +kernel
theorem d_Mo_reach_38 : decode c_Mo_reach 38 = .ok (.sipush 200, 3) := by decide +kernel
theorem d_Mo_reach_41 : decode c_Mo_reach 41 = .ok (.if_icmp .ge 30, 3) := by decide +kernel
theorem d_Mo_reach_44 : decode c_Mo_reach 44 = .ok (.iload_n 2, 1) := by decide +kernel
theorem d_Mo_reach_45 : decode c_Mo_reach 45 = .ok (.aload_n 0, 1) := by decide +kernel
theorem d_Mo_reach_46 : decode c_Mo_reach 46 = .ok (.getfield 30, 3) := by decide +kernel
theorem d_Mo_reach_49 : decode c_Mo_reach 49 = .ok (.iload_n 3, 1) := by decide +kernel
theorem d_Mo_reach_50 : decode c_Mo_reach 50 = .ok (.baload, 1) := by decide +kernel
theorem d_Mo_reach_51 : decode c_Mo_reach 51 = .ok (.ifCond .eq 11, 3) := by decide +kernel
theorem d_Mo_reach_54 : decode c_Mo_reach 54 = .ok (.aload_n 0, 1) := by decide +kernel
theorem d_Mo_reach_55 : decode c_Mo_reach 55 = .ok (.iload_n 3, 1) := by decide +kernel
theorem d_Mo_reach_56 : decode c_Mo_reach 56 = .ok (.invokevirtual 54, 3) := by decide +kernel
theorem d_Mo_reach_59 : decode c_Mo_reach 59 = .ok (.goto 4, 3) := by decide +kernel
theorem d_Mo_reach_62 : decode c_Mo_reach 62 = .ok (.iconst 0, 1) := by decide +kernel
theorem d_Mo_reach_63 : decode c_Mo_reach 63 = .ok (.iadd, 1) := by decide +kernel
theorem d_Mo_reach_64 : decode c_Mo_reach 64 = .ok (.istore_n 2, 1) := by decide +kernel
theorem d_Mo_reach_65 : decode c_Mo_reach 65 = .ok (.iinc 3 1, 3) := by decide +kernel
theorem d_Mo_reach_68 : decode c_Mo_reach 68 = .ok (.goto (-31), 3) := by decide +kernel
theorem d_Mo_reach_71 : decode c_Mo_reach 71 = .ok (.iload_n 2, 1) := by decide +kernel
theorem d_Mo_reach_72 : decode c_Mo_reach 72 = .ok (.ireturn, 1) := by decide +kernel
abbrev c_Mo_cells : ByteArray := prog_10_method_36_code
abbrev y_Mo_cells : MethodName := ⟨"TwoGenerationsModel", "cells", "(I)I"⟩
abbrev h_Mo_cells : Cond := .code y_Mo_cells c_Mo_cells 2 (some .int)
theorem d_Mo_cells_0 : decode c_Mo_cells 0 = .ok (.aload_n 0, 1) := by decide +kernel
theorem d_Mo_cells_1 : decode c_Mo_cells 1 = .ok (.iconst 0, 1) := by decide +kernel
theorem d_Mo_cells_2 : decode c_Mo_cells 2 = .ok (.putfield 45, 3) := by decide +kernel
theorem d_Mo_cells_5 : decode c_Mo_cells 5 = .ok (.iload_n 1, 1) := by decide +kernel
theorem d_Mo_cells_6 : decode c_Mo_cells 6 = .ok (.ifCond .ne 11, 3) := by decide +kernel
theorem d_Mo_cells_9 : decode c_Mo_cells 9 = .ok (.aload_n 0, 1) := by decide +kernel
theorem d_Mo_cells_10 : decode c_Mo_cells 10 = .ok (.iconst 0, 1) := by decide +kernel
theorem d_Mo_cells_11 : decode c_Mo_cells 11 = .ok (.invokevirtual 82, 3) := by decide +kernel
theorem d_Mo_cells_14 : decode c_Mo_cells 14 = .ok (.goto 17, 3) := by decide +kernel
theorem d_Mo_cells_17 : decode c_Mo_cells 17 = .ok (.iload_n 1, 1) := by decide +kernel
theorem d_Mo_cells_18 : decode c_Mo_cells 18 = .ok (.iconst 1, 1) := by decide +kernel
theorem d_Mo_cells_19 : decode c_Mo_cells 19 = .ok (.if_icmp .ne 11, 3) := by decide +kernel
theorem d_Mo_cells_22 : decode c_Mo_cells 22 = .ok (.aload_n 0, 1) := by decide +kernel
theorem d_Mo_cells_23 : decode c_Mo_cells 23 = .ok (.iconst 1, 1) := by decide +kernel
theorem d_Mo_cells_24 : decode c_Mo_cells 24 = .ok (.invokevirtual 82, 3) := by decide +kernel
theorem d_Mo_cells_27 : decode c_Mo_cells 27 = .ok (.goto 4, 3) := by decide +kernel
theorem d_Mo_cells_30 : decode c_Mo_cells 30 = .ok (.iconst (-1), 1) := by decide +kernel
theorem d_Mo_cells_31 : decode c_Mo_cells 31 = .ok (.ireturn, 1) := by decide +kernel
abbrev c_Mo_collections : ByteArray := prog_10_method_37_code
abbrev y_Mo_collections : MethodName := ⟨"TwoGenerationsModel", "collections", "(I)I"⟩
abbrev h_Mo_collections : Cond := .code y_Mo_collections c_Mo_collections 2 (some .int)
theorem d_Mo_collections_0 : decode c_Mo_collections 0 = .ok (.aload_n 0, 1) := by decide +kernel
theorem d_Mo_collections_1 : decode c_Mo_collections 1 = .ok (.iconst 0, 1) := by decide +kernel
theorem d_Mo_collections_2 : decode c_Mo_collections 2 = .ok (.putfield 45, 3) := by decide +kernel
theorem d_Mo_collections_5 : decode c_Mo_collections 5 = .ok (.iload_n 1, 1) := by decide +kernel
theorem d_Mo_collections_6 : decode c_Mo_collections 6 = .ok (.ifCond .ne 10, 3) := by decide +kernel
theorem d_Mo_collections_9 : decode c_Mo_collections 9 = .ok (.aload_n 0, 1) := by decide +kernel
theorem d_Mo_collections_10 : decode c_Mo_collections 10 = .ok (.getfield 89, 3) := by decide +kernel
theorem d_Mo_collections_13 : decode c_Mo_collections 13 = .ok (.goto 16, 3) := by decide +kernel
theorem d_Mo_collections_16 : decode c_Mo_collections 16 = .ok (.iload_n 1, 1) := by decide +kernel
theorem d_Mo_collections_17 : decode c_Mo_collections 17 = .ok (.iconst 1, 1) := by decide +kernel
theorem d_Mo_collections_18 : decode c_Mo_collections 18 = .ok (.if_icmp .ne 10, 3) := by decide +kernel
theorem d_Mo_collections_21 : decode c_Mo_collections 21 = .ok (.aload_n 0, 1) := by decide +kernel
theorem d_Mo_collections_22 : decode c_Mo_collections 22 = .ok (.getfield 79, 3) := by decide +kernel
theorem d_Mo_collections_25 : decode c_Mo_collections 25 = .ok (.goto 4, 3) := by decide +kernel
theorem d_Mo_collections_28 : decode c_Mo_collections 28 = .ok (.iconst (-1), 1) := by decide +kernel
theorem d_Mo_collections_29 : decode c_Mo_collections 29 = .ok (.ireturn, 1) := by decide +kernel
