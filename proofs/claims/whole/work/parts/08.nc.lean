abbrev c_La_cell : ByteArray := method_2_code
abbrev y_La_cell : MethodName := ⟨"TwoGenerationsLaw", "cell", "([II)I"⟩
abbrev h_La_cell : Cond := .code y_La_cell c_La_cell 2 (some .int)
theorem d_La_cell_0 : decode c_La_cell 0 = .ok (.iload_n 1, 1) := by decide +kernel
theorem d_La_cell_1 : decode c_La_cell 1 = .ok (.aload_n 0, 1) := by decide +kernel
theorem d_La_cell_2 : decode c_La_cell 2 = .ok (.arraylength, 1) := by decide +kernel
theorem d_La_cell_3 : decode c_La_cell 3 = .ok (.if_icmp .ge 9, 3) := by decide +kernel
theorem d_La_cell_6 : decode c_La_cell 6 = .ok (.aload_n 0, 1) := by decide +kernel
theorem d_La_cell_7 : decode c_La_cell 7 = .ok (.iload_n 1, 1) := by decide +kernel
theorem d_La_cell_8 : decode c_La_cell 8 = .ok (.iaload, 1) := by decide +kernel
theorem d_La_cell_9 : decode c_La_cell 9 = .ok (.goto 4, 3) := by decide +kernel
theorem d_La_cell_12 : decode c_La_cell 12 = .ok (.iconst 0, 1) := by decide +kernel
theorem d_La_cell_13 : decode c_La_cell 13 = .ok (.ireturn, 1) := by decide +kernel
abbrev c_La_make : ByteArray := method_3_code
abbrev y_La_make : MethodName := ⟨"TwoGenerationsLaw", "make", "(LTwoGenerations;II)I"⟩
abbrev h_La_make : Cond := .codeWith y_La_make c_La_make 4 (some .int) [(0, 6, 9, 13), (0, 6, 12, 15)]
theorem d_La_make_0 : decode c_La_make 0 = .ok (.aload_n 0, 1) := by decide +kernel
theorem d_La_make_1 : decode c_La_make 1 = .ok (.iload_n 1, 1) := by decide +kernel
theorem d_La_make_2 : decode c_La_make 2 = .ok (.iload_n 2, 1) := by decide +kernel
theorem d_La_make_3 : decode c_La_make 3 = .ok (.invokevirtual 7, 3) := by decide +kernel
theorem d_La_make_6 : decode c_La_make 6 = .ok (.goto 9, 3) := by decide +kernel
theorem d_La_make_9 : decode c_La_make 9 = .ok (.astore_n 3, 1) := by decide +kernel
theorem d_La_make_10 : decode c_La_make 10 = .ok (.iconst 1, 1) := by decide +kernel
theorem d_La_make_11 : decode c_La_make 11 = .ok (.ireturn, 1) := by decide +kernel
theorem d_La_make_12 : decode c_La_make 12 = .ok (.astore_n 3, 1) := by decide +kernel
theorem d_La_make_13 : decode c_La_make 13 = .ok (.iconst 2, 1) := by decide +kernel
theorem d_La_make_14 : decode c_La_make 14 = .ok (.ireturn, 1) := by decide +kernel
theorem d_La_make_15 : decode c_La_make 15 = .ok (.iconst 0, 1) := by decide +kernel
theorem d_La_make_16 : decode c_La_make 16 = .ok (.ireturn, 1) := by decide +kernel
abbrev c_La_weak : ByteArray := method_4_code
abbrev y_La_weak : MethodName := ⟨"TwoGenerationsLaw", "weak", "(LTwoGenerations;II)I"⟩
abbrev h_La_weak : Cond := .codeWith y_La_weak c_La_weak 4 (some .int) [(0, 6, 9, 13), (0, 6, 12, 15)]
theorem d_La_weak_0 : decode c_La_weak 0 = .ok (.aload_n 0, 1) := by decide +kernel
theorem d_La_weak_1 : decode c_La_weak 1 = .ok (.iload_n 1, 1) := by decide +kernel
theorem d_La_weak_2 : decode c_La_weak 2 = .ok (.iload_n 2, 1) := by decide +kernel
theorem d_La_weak_3 : decode c_La_weak 3 = .ok (.invokevirtual 17, 3) := by decide +kernel
theorem d_La_weak_6 : decode c_La_weak 6 = .ok (.goto 9, 3) := by decide +kernel
theorem d_La_weak_9 : decode c_La_weak 9 = .ok (.astore_n 3, 1) := by decide +kernel
theorem d_La_weak_10 : decode c_La_weak 10 = .ok (.iconst 1, 1) := by decide +kernel
theorem d_La_weak_11 : decode c_La_weak 11 = .ok (.ireturn, 1) := by decide +kernel
theorem d_La_weak_12 : decode c_La_weak 12 = .ok (.astore_n 3, 1) := by decide +kernel
theorem d_La_weak_13 : decode c_La_weak 13 = .ok (.iconst 2, 1) := by decide +kernel
theorem d_La_weak_14 : decode c_La_weak 14 = .ok (.ireturn, 1) := by decide +kernel
theorem d_La_weak_15 : decode c_La_weak 15 = .ok (.iconst 0, 1) := by decide +kernel
theorem d_La_weak_16 : decode c_La_weak 16 = .ok (.ireturn, 1) := by decide +kernel
abbrev c_La_load : ByteArray := method_5_code
abbrev y_La_load : MethodName := ⟨"TwoGenerationsLaw", "load", "(LTwoGenerations;III)I"⟩
abbrev h_La_load : Cond := .codeWith y_La_load c_La_load 5 (some .int) [(0, 7, 10, 13)]
theorem d_La_load_0 : decode c_La_load 0 = .ok (.aload_n 0, 1) := by decide +kernel
theorem d_La_load_1 : decode c_La_load 1 = .ok (.iload_n 1, 1) := by decide +kernel
theorem d_La_load_2 : decode c_La_load 2 = .ok (.iload_n 2, 1) := by decide +kernel
theorem d_La_load_3 : decode c_La_load 3 = .ok (.iload_n 3, 1) := by decide +kernel
theorem d_La_load_4 : decode c_La_load 4 = .ok (.invokevirtual 20, 3) := by decide +kernel
theorem d_La_load_7 : decode c_La_load 7 = .ok (.goto 7, 3) := by decide +kernel
theorem d_La_load_10 : decode c_La_load 10 = .ok (.astore 4, 2) := by decide +kernel
theorem d_La_load_12 : decode c_La_load 12 = .ok (.iconst 1, 1) := by decide +kernel
theorem d_La_load_13 : decode c_La_load 13 = .ok (.ireturn, 1) := by decide +kernel
theorem d_La_load_14 : decode c_La_load 14 = .ok (.iconst 0, 1) := by decide +kernel
theorem d_La_load_15 : decode c_La_load 15 = .ok (.ireturn, 1) := by decide +kernel
abbrev c_La_store : ByteArray := method_6_code
abbrev y_La_store : MethodName := ⟨"TwoGenerationsLaw", "store", "(LTwoGenerations;III)I"⟩
abbrev h_La_store : Cond := .codeWith y_La_store c_La_store 5 (some .int) [(0, 7, 10, 13)]
theorem d_La_store_0 : decode c_La_store 0 = .ok (.aload_n 0, 1) := by decide +kernel
theorem d_La_store_1 : decode c_La_store 1 = .ok (.iload_n 1, 1) := by decide +kernel
theorem d_La_store_2 : decode c_La_store 2 = .ok (.iload_n 2, 1) := by decide +kernel
theorem d_La_store_3 : decode c_La_store 3 = .ok (.iload_n 3, 1) := by decide +kernel
theorem d_La_store_4 : decode c_La_store 4 = .ok (.invokevirtual 24, 3) := by decide +kernel
theorem d_La_store_7 : decode c_La_store 7 = .ok (.goto 7, 3) := by decide +kernel
theorem d_La_store_10 : decode c_La_store 10 = .ok (.astore 4, 2) := by decide +kernel
theorem d_La_store_12 : decode c_La_store 12 = .ok (.iconst 1, 1) := by decide +kernel
theorem d_La_store_13 : decode c_La_store 13 = .ok (.ireturn, 1) := by decide +kernel
theorem d_La_store_14 : decode c_La_store 14 = .ok (.iconst 0, 1) := by decide +kernel
theorem d_La_store_15 : decode c_La_store 15 = .ok (.ireturn, 1) := by decide +kernel
abbrev c_La_target : ByteArray := method_7_code
abbrev y_La_target : MethodName := ⟨"TwoGenerationsLaw", "target", "(LTwoGenerations;II)I"⟩
abbrev h_La_target : Cond := .codeWith y_La_target c_La_target 4 (some .int) [(0, 6, 9, 13)]
theorem d_La_target_0 : decode c_La_target 0 = .ok (.aload_n 0, 1) := by decide +kernel
theorem d_La_target_1 : decode c_La_target 1 = .ok (.iload_n 1, 1) := by decide +kernel
theorem d_La_target_2 : decode c_La_target 2 = .ok (.iload_n 2, 1) := by decide +kernel
theorem d_La_target_3 : decode c_La_target 3 = .ok (.invokevirtual 27, 3) := by decide +kernel
theorem d_La_target_6 : decode c_La_target 6 = .ok (.goto 6, 3) := by decide +kernel
theorem d_La_target_9 : decode c_La_target 9 = .ok (.astore_n 3, 1) := by decide +kernel
theorem d_La_target_10 : decode c_La_target 10 = .ok (.iconst 1, 1) := by decide +kernel
theorem d_La_target_11 : decode c_La_target 11 = .ok (.ireturn, 1) := by decide +kernel
theorem d_La_target_12 : decode c_La_target 12 = .ok (.iconst 0, 1) := by decide +kernel
theorem d_La_target_13 : decode c_La_target 13 = .ok (.ireturn, 1) := by decide +kernel
abbrev c_La_number : ByteArray := method_8_code
abbrev y_La_number : MethodName := ⟨"TwoGenerationsLaw", "number", "(LTwoGenerations;II)I"⟩
abbrev h_La_number : Cond := .codeWith y_La_number c_La_number 4 (some .int) [(0, 6, 9, 13)]
theorem d_La_number_0 : decode c_La_number 0 = .ok (.aload_n 0, 1) := by decide +kernel
theorem d_La_number_1 : decode c_La_number 1 = .ok (.iload_n 1, 1) := by decide +kernel
theorem d_La_number_2 : decode c_La_number 2 = .ok (.iload_n 2, 1) := by decide +kernel
theorem d_La_number_3 : decode c_La_number 3 = .ok (.invokevirtual 30, 3) := by decide +kernel
theorem d_La_number_6 : decode c_La_number 6 = .ok (.goto 6, 3) := by decide +kernel
theorem d_La_number_9 : decode c_La_number 9 = .ok (.astore_n 3, 1) := by decide +kernel
theorem d_La_number_10 : decode c_La_number 10 = .ok (.iconst 1, 1) := by decide +kernel
theorem d_La_number_11 : decode c_La_number 11 = .ok (.ireturn, 1) := by decide +kernel
theorem d_La_number_12 : decode c_La_number 12 = .ok (.iconst 0, 1) := by decide +kernel
theorem d_La_number_13 : decode c_La_number 13 = .ok (.ireturn, 1) := by decide +kernel
abbrev c_La_clear : ByteArray := method_9_code
abbrev y_La_clear : MethodName := ⟨"TwoGenerationsLaw", "clear", "(LTwoGenerations;I)I"⟩
abbrev h_La_clear : Cond := .codeWith y_La_clear c_La_clear 3 (some .int) [(0, 5, 8, 13)]
theorem d_La_clear_0 : decode c_La_clear 0 = .ok (.aload_n 0, 1) := by decide +kernel
theorem d_La_clear_1 : decode c_La_clear 1 = .ok (.iload_n 1, 1) := by decide +kernel
theorem d_La_clear_2 : decode c_La_clear 2 = .ok (.invokevirtual 33, 3) := by decide +kernel
theorem d_La_clear_5 : decode c_La_clear 5 = .ok (.goto 6, 3) := by decide +kernel
theorem d_La_clear_8 : decode c_La_clear 8 = .ok (.astore_n 2, 1) := by decide +kernel
theorem d_La_clear_9 : decode c_La_clear 9 = .ok (.iconst 1, 1) := by decide +kernel
theorem d_La_clear_10 : decode c_La_clear 10 = .ok (.ireturn, 1) := by decide +kernel
theorem d_La_clear_11 : decode c_La_clear 11 = .ok (.iconst 0, 1) := by decide +kernel
theorem d_La_clear_12 : decode c_La_clear 12 = .ok (.ireturn, 1) := by decide +kernel
abbrev c_La_move : ByteArray := method_10_code
abbrev y_La_move : MethodName := ⟨"TwoGenerationsLaw", "move", "(LTwoGenerations;II)I"⟩
abbrev h_La_move : Cond := .codeWith y_La_move c_La_move 4 (some .int) [(0, 6, 9, 13)]
theorem d_La_move_0 : decode c_La_move 0 = .ok (.aload_n 0, 1) := by decide +kernel
theorem d_La_move_1 : decode c_La_move 1 = .ok (.iload_n 1, 1) := by decide +kernel
theorem d_La_move_2 : decode c_La_move 2 = .ok (.iload_n 2, 1) := by decide +kernel
theorem d_La_move_3 : decode c_La_move 3 = .ok (.invokevirtual 37, 3) := by decide +kernel
theorem d_La_move_6 : decode c_La_move 6 = .ok (.goto 6, 3) := by decide +kernel
theorem d_La_move_9 : decode c_La_move 9 = .ok (.astore_n 3, 1) := by decide +kernel
theorem d_La_move_10 : decode c_La_move 10 = .ok (.iconst 1, 1) := by decide +kernel
theorem d_La_move_11 : decode c_La_move 11 = .ok (.ireturn, 1) := by decide +kernel
theorem d_La_move_12 : decode c_La_move 12 = .ok (.iconst 0, 1) := by decide +kernel
theorem d_La_move_13 : decode c_La_move 13 = .ok (.ireturn, 1) := by decide +kernel
abbrev c_La_small : ByteArray := method_11_code
abbrev y_La_small : MethodName := ⟨"TwoGenerationsLaw", "small", "(LTwoGenerations;[J)I"⟩
abbrev h_La_small : Cond := .codeWith y_La_small c_La_small 3 (some .int) [(0, 8, 11, 15)]
theorem d_La_small_0 : decode c_La_small 0 = .ok (.aload_n 1, 1) := by decide +kernel
theorem d_La_small_1 : decode c_La_small 1 = .ok (.iconst 0, 1) := by decide +kernel
theorem d_La_small_2 : decode c_La_small 2 = .ok (.aload_n 0, 1) := by decide +kernel
theorem d_La_small_3 : decode c_La_small 3 = .ok (.invokevirtual 40, 3) := by decide +kernel
theorem d_La_small_6 : decode c_La_small 6 = .ok (.i2l, 1) := by decide +kernel
theorem d_La_small_7 : decode c_La_small 7 = .ok (.lastore, 1) := by decide +kernel
theorem d_La_small_8 : decode c_La_small 8 = .ok (.goto 6, 3) := by decide +kernel
theorem d_La_small_11 : decode c_La_small 11 = .ok (.astore_n 2, 1) := by decide +kernel
theorem d_La_small_12 : decode c_La_small 12 = .ok (.iconst 1, 1) := by decide +kernel
theorem d_La_small_13 : decode c_La_small 13 = .ok (.ireturn, 1) := by decide +kernel
theorem d_La_small_14 : decode c_La_small 14 = .ok (.iconst 0, 1) := by decide +kernel
theorem d_La_small_15 : decode c_La_small 15 = .ok (.ireturn, 1) := by decide +kernel
abbrev c_La_law : ByteArray := code
abbrev y_La_law : MethodName := ⟨"TwoGenerationsLaw", "law", "([I)Z"⟩
abbrev h_La_law : Cond := .code y_La_law c_La_law 7 (some .boolean)
theorem d_La_law_0 : decode c_La_law 0 = .ok (.new 8, 3) := by decide +kernel
theorem d_La_law_3 : decode c_La_law 3 = .ok (.dup, 1) := by decide +kernel
theorem d_La_law_4 : decode c_La_law 4 = .ok (.aload_n 0, 1) := by decide +kernel
theorem d_La_law_5 : decode c_La_law 5 = .ok (.iconst 0, 1) := by decide +kernel
theorem d_La_law_6 : decode c_La_law 6 = .ok (.invokestatic 44, 3) := by decide +kernel
theorem d_La_law_9 : decode c_La_law 9 = .ok (.aload_n 0, 1) := by decide +kernel
theorem d_La_law_10 : decode c_La_law 10 = .ok (.iconst 1, 1) := by decide +kernel
theorem d_La_law_11 : decode c_La_law 11 = .ok (.invokestatic 44, 3) := by decide +kernel
theorem d_La_law_14 : decode c_La_law 14 = .ok (.aload_n 0, 1) := by decide +kernel
theorem d_La_law_15 : decode c_La_law 15 = .ok (.iconst 2, 1) := by decide +kernel
theorem d_La_law_16 : decode c_La_law 16 = .ok (.invokestatic 44, 3) := by decide +kernel
theorem d_La_law_19 : decode c_La_law 19 = .ok (.invokespecial 50, 3) := by decide +kernel
theorem d_La_law_22 : decode c_La_law 22 = .ok (.astore_n 1, 1) := by decide +kernel
theorem d_La_law_23 : decode c_La_law 23 = .ok (.new 52, 3) := by decide +kernel
theorem d_La_law_26 : decode c_La_law 26 = .ok (.dup, 1) := by decide +kernel
theorem d_La_law_27 : decode c_La_law 27 = .ok (.aload_n 0, 1) := by decide +kernel
theorem d_La_law_28 : decode c_La_law 28 = .ok (.iconst 0, 1) := by decide +kernel
theorem d_La_law_29 : decode c_La_law 29 = .ok (.invokestatic 44, 3) := by decide +kernel
theorem d_La_law_32 : decode c_La_law 32 = .ok (.aload_n 0, 1) := by decide +kernel
theorem d_La_law_33 : decode c_La_law 33 = .ok (.iconst 1, 1) := by decide +kernel
theorem d_La_law_34 : decode c_La_law 34 = .ok (.invokestatic 44, 3) := by decide +kernel
theorem d_La_law_37 : decode c_La_law 37 = .ok (.aload_n 0, 1) := by decide +kernel
theorem d_La_law_38 : decode c_La_law 38 = .ok (.iconst 2, 1) := by decide +kernel
theorem d_La_law_39 : decode c_La_law 39 = .ok (.invokestatic 44, 3) := by decide +kernel
theorem d_La_law_42 : decode c_La_law 42 = .ok (.invokespecial 54, 3) := by decide +kernel
theorem d_La_law_45 : decode c_La_law 45 = .ok (.astore_n 2, 1) := by decide +kernel
theorem d_La_law_46 : decode c_La_law 46 = .ok (.iconst 1, 1) := by decide +kernel
theorem d_La_law_47 : decode c_La_law 47 = .ok (.newarray .long, 2) := by decide +kernel
theorem d_La_law_49 : decode c_La_law 49 = .ok (.astore_n 3, 1) := by decide +kernel
theorem d_La_law_50 : decode c_La_law 50 = .ok (.iconst 3, 1) := by decide +kernel
theorem d_La_law_51 : decode c_La_law 51 = .ok (.istore 4, 2) := by decide +kernel
theorem d_La_law_53 : decode c_La_law 53 = .ok (.iload 4, 2) := by decide +kernel
theorem d_La_law_55 : decode c_La_law 55 = .ok (.aload_n 0, 1) := by decide +kernel
theorem d_La_law_56 : decode c_La_law 56 = .ok (.arraylength, 1) := by decide +kernel
theorem d_La_law_57 : decode c_La_law 57 = .ok (.iconst 4, 1) := by decide +kernel
theorem d_La_law_58 : decode c_La_law 58 = .ok (.isub, 1) := by decide +kernel
theorem d_La_law_59 : decode c_La_law 59 = .ok (.if_icmp .gt 768, 3) := by decide +kernel
theorem d_La_law_62 : decode c_La_law 62 = .ok (.aload_n 0, 1) := by decide +kernel
theorem d_La_law_63 : decode c_La_law 63 = .ok (.iload 4, 2) := by decide +kernel
theorem d_La_law_65 : decode c_La_law 65 = .ok (.iaload, 1) := by decide +kernel
theorem d_La_law_66 : decode c_La_law 66 = .ok (.bipush 31, 2) := by decide +kernel
theorem d_La_law_68 : decode c_La_law 68 = .ok (.iand, 1) := by decide +kernel
theorem d_La_law_69 : decode c_La_law 69 = .ok (.tableswitch 752 0 17 #[87, 135, 183, 243, 303, 351, 399, 435, 483, 508, 533, 558, 595, 620, 645, 689, 702, 727], 87) := by decide +kernel
theorem d_La_law_156 : decode c_La_law 156 = .ok (.aload_n 1, 1) := by decide +kernel
theorem d_La_law_157 : decode c_La_law 157 = .ok (.aload_n 0, 1) := by decide +kernel
theorem d_La_law_158 : decode c_La_law 158 = .ok (.iload 4, 2) := by decide +kernel
theorem d_La_law_160 : decode c_La_law 160 = .ok (.iconst 1, 1) := by decide +kernel
theorem d_La_law_161 : decode c_La_law 161 = .ok (.iadd, 1) := by decide +kernel
theorem d_La_law_162 : decode c_La_law 162 = .ok (.iaload, 1) := by decide +kernel
theorem d_La_law_163 : decode c_La_law 163 = .ok (.aload_n 0, 1) := by decide +kernel
theorem d_La_law_164 : decode c_La_law 164 = .ok (.iload 4, 2) := by decide +kernel
theorem d_La_law_166 : decode c_La_law 166 = .ok (.iconst 2, 1) := by decide +kernel
theorem d_La_law_167 : decode c_La_law 167 = .ok (.iadd, 1) := by decide +kernel
theorem d_La_law_168 : decode c_La_law 168 = .ok (.iaload, 1) := by decide +kernel
theorem d_La_law_169 : decode c_La_law 169 = .ok (.invokestatic 55, 3) := by decide +kernel
theorem d_La_law_172 : decode c_La_law 172 = .ok (.istore 5, 2) := by decide +kernel
theorem d_La_law_174 : decode c_La_law 174 = .ok (.aload_n 2, 1) := by decide +kernel
theorem d_La_law_175 : decode c_La_law 175 = .ok (.aload_n 0, 1) := by decide +kernel
theorem d_La_law_176 : decode c_La_law 176 = .ok (.iload 4, 2) := by decide +kernel
theorem d_La_law_178 : decode c_La_law 178 = .ok (.iconst 1, 1) := by decide +kernel
theorem d_La_law_179 : decode c_La_law 179 = .ok (.iadd, 1) := by decide +kernel
theorem d_La_law_180 : decode c_La_law 180 = .ok (.iaload, 1) := by decide +kernel
theorem d_La_law_181 : decode c_La_law 181 = .ok (.aload_n 0, 1) := by decide +kernel
theorem d_La_law_182 : decode c_La_law 182 = .ok (.iload 4, 2) := by decide +kernel
theorem d_La_law_184 : decode c_La_law 184 = .ok (.iconst 2, 1) := by decide +kernel
theorem d_La_law_185 : decode c_La_law 185 = .ok (.iadd, 1) := by decide +kernel
theorem d_La_law_186 : decode c_La_law 186 = .ok (.iaload, 1) := by decide +kernel
theorem d_La_law_187 : decode c_La_law 187 = .ok (.invokevirtual 58, 3) := by decide +kernel
theorem d_La_law_190 : decode c_La_law 190 = .ok (.aload_n 2, 1) := by decide +kernel
theorem d_La_law_191 : decode c_La_law 191 = .ok (.invokevirtual 59, 3) := by decide +kernel
theorem d_La_law_194 : decode c_La_law 194 = .ok (.iload 5, 2) := by decide +kernel
theorem d_La_law_196 : decode c_La_law 196 = .ok (.if_icmp .eq 5, 3) := by decide +kernel
theorem d_La_law_199 : decode c_La_law 199 = .ok (.iconst 0, 1) := by decide +kernel
theorem d_La_law_200 : decode c_La_law 200 = .ok (.ireturn, 1) := by decide +kernel
theorem d_La_law_201 : decode c_La_law 201 = .ok (.goto 620, 3) := by decide +kernel
theorem d_La_law_204 : decode c_La_law 204 = .ok (.aload_n 1, 1) := by decide +kernel
theorem d_La_law_205 : decode c_La_law 205 = .ok (.aload_n 0, 1) := by decide +kernel
theorem d_La_law_206 : decode c_La_law 206 = .ok (.iload 4, 2) := by decide +kernel
theorem d_La_law_208 : decode c_La_law 208 = .ok (.iconst 1, 1) := by decide +kernel
theorem d_La_law_209 : decode c_La_law 209 = .ok (.iadd, 1) := by decide +kernel
theorem d_La_law_210 : decode c_La_law 210 = .ok (.iaload, 1) := by decide +kernel
theorem d_La_law_211 : decode c_La_law 211 = .ok (.aload_n 0, 1) := by decide +kernel
theorem d_La_law_212 : decode c_La_law 212 = .ok (.iload 4, 2) := by decide +kernel
theorem d_La_law_214 : decode c_La_law 214 = .ok (.iconst 2, 1) := by decide +kernel
theorem d_La_law_215 : decode c_La_law 215 = .ok (.iadd, 1) := by decide +kernel
theorem d_La_law_216 : decode c_La_law 216 = .ok (.iaload, 1) := by decide +kernel
theorem d_La_law_217 : decode c_La_law 217 = .ok (.invokestatic 62, 3) := by decide +kernel
theorem d_La_law_220 : decode c_La_law 220 = .ok (.istore 5, 2) := by decide +kernel
theorem d_La_law_222 : decode c_La_law 222 = .ok (.aload_n 2, 1) := by decide +kernel
theorem d_La_law_223 : decode c_La_law 223 = .ok (.aload_n 0, 1) := by decide +kernel
theorem d_La_law_224 : decode c_La_law 224 = .ok (.iload 4, 2) := by decide +kernel
theorem d_La_law_226 : decode c_La_law 226 = .ok (.iconst 1, 1) := by decide +kernel
theorem d_La_law_227 : decode c_La_law 227 = .ok (.iadd, 1) := by decide +kernel
theorem d_La_law_228 : decode c_La_law 228 = .ok (.iaload, 1) := by decide +kernel
theorem d_La_law_229 : decode c_La_law 229 = .ok (.aload_n 0, 1) := by decide +kernel
theorem d_La_law_230 : decode c_La_law 230 = .ok (.iload 4, 2) := by decide +kernel
theorem d_La_law_232 : decode c_La_law 232 = .ok (.iconst 2, 1) := by decide +kernel
theorem d_La_law_233 : decode c_La_law 233 = .ok (.iadd, 1) := by decide +kernel
theorem d_La_law_234 : decode c_La_law 234 = .ok (.iaload, 1) := by decide +kernel
theorem d_La_law_235 : decode c_La_law 235 = .ok (.invokevirtual 64, 3) := by decide +kernel
theorem d_La_law_238 : decode c_La_law 238 = .ok (.aload_n 2, 1) := by decide +kernel
theorem d_La_law_239 : decode c_La_law 239 = .ok (.invokevirtual 59, 3) := by decide +kernel
theorem d_La_law_242 : decode c_La_law 242 = .ok (.iload 5, 2) := by decide +kernel
theorem d_La_law_244 : decode c_La_law 244 = .ok (.if_icmp .eq 5, 3) := by decide +kernel
theorem d_La_law_247 : decode c_La_law 247 = .ok (.iconst 0, 1) := by decide +kernel
theorem d_La_law_248 : decode c_La_law 248 = .ok (.ireturn, 1) := by decide +kernel
theorem d_La_law_249 : decode c_La_law 249 = .ok (.goto 572, 3) := by decide +kernel
theorem d_La_law_252 : decode c_La_law 252 = .ok (.aload_n 1, 1) := by decide +kernel
theorem d_La_law_253 : decode c_La_law 253 = .ok (.aload_n 0, 1) := by decide +kernel
theorem d_La_law_254 : decode c_La_law 254 = .ok (.iload 4, 2) := by decide +kernel
theorem d_La_law_256 : decode c_La_law 256 = .ok (.iconst 1, 1) := by decide +kernel
theorem d_La_law_257 : decode c_La_law 257 = .ok (.iadd, 1) := by decide +kernel
theorem d_La_law_258 : decode c_La_law 258 = .ok (.iaload, 1) := by decide +kernel
theorem d_La_law_259 : decode c_La_law 259 = .ok (.aload_n 0, 1) := by decide +kernel
theorem d_La_law_260 : decode c_La_law 260 = .ok (.iload 4, 2) := by decide +kernel
theorem d_La_law_262 : decode c_La_law 262 = .ok (.iconst 2, 1) := by decide +kernel
theorem d_La_law_263 : decode c_La_law 263 = .ok (.iadd, 1) := by decide +kernel
theorem d_La_law_264 : decode c_La_law 264 = .ok (.iaload, 1) := by decide +kernel
theorem d_La_law_265 : decode c_La_law 265 = .ok (.aload_n 0, 1) := by decide +kernel
theorem d_La_law_266 : decode c_La_law 266 = .ok (.iload 4, 2) := by decide +kernel
theorem d_La_law_268 : decode c_La_law 268 = .ok (.iconst 3, 1) := by decide +kernel
theorem d_La_law_269 : decode c_La_law 269 = .ok (.iadd, 1) := by decide +kernel
theorem d_La_law_270 : decode c_La_law 270 = .ok (.iaload, 1) := by decide +kernel
theorem d_La_law_271 : decode c_La_law 271 = .ok (.invokestatic 65, 3) := by decide +kernel
theorem d_La_law_274 : decode c_La_law 274 = .ok (.istore 5, 2) := by decide +kernel
theorem d_La_law_276 : decode c_La_law 276 = .ok (.aload_n 2, 1) := by decide +kernel
theorem d_La_law_277 : decode c_La_law 277 = .ok (.aload_n 0, 1) := by decide +kernel
theorem d_La_law_278 : decode c_La_law 278 = .ok (.iload 4, 2) := by decide +kernel
theorem d_La_law_280 : decode c_La_law 280 = .ok (.iconst 1, 1) := by decide +kernel
theorem d_La_law_281 : decode c_La_law 281 = .ok (.iadd, 1) := by decide +kernel
theorem d_La_law_282 : decode c_La_law 282 = .ok (.iaload, 1) := by decide +kernel
theorem d_La_law_283 : decode c_La_law 283 = .ok (.aload_n 0, 1) := by decide +kernel
theorem d_La_law_284 : decode c_La_law 284 = .ok (.iload 4, 2) := by decide +kernel
theorem d_La_law_286 : decode c_La_law 286 = .ok (.iconst 2, 1) := by decide +kernel
theorem d_La_law_287 : decode c_La_law 287 = .ok (.iadd, 1) := by decide +kernel
theorem d_La_law_288 : decode c_La_law 288 = .ok (.iaload, 1) := by decide +kernel
theorem d_La_law_289 : decode c_La_law 289 = .ok (.aload_n 0, 1) := by decide +kernel
theorem d_La_law_290 : decode c_La_law 290 = .ok (.iload 4, 2) := by decide +kernel
theorem d_La_law_292 : decode c_La_law 292 = .ok (.iconst 3, 1) := by decide +kernel
theorem d_La_law_293 : decode c_La_law 293 = .ok (.iadd, 1) := by decide +kernel
theorem d_La_law_294 : decode c_La_law 294 = .ok (.iaload, 1) := by decide +kernel
theorem d_La_law_295 : decode c_La_law 295 = .ok (.invokevirtual 68, 3) := by decide +kernel
theorem d_La_law_298 : decode c_La_law 298 = .ok (.aload_n 2, 1) := by decide +kernel
theorem d_La_law_299 : decode c_La_law 299 = .ok (.invokevirtual 59, 3) := by decide +kernel
theorem d_La_law_302 : decode c_La_law 302 = .ok (.iload 5, 2) := by decide +kernel
theorem d_La_law_304 : decode c_La_law 304 = .ok (.if_icmp .eq 5, 3) := by decide +kernel
theorem d_La_law_307 : decode c_La_law 307 = .ok (.iconst 0, 1) := by decide +kernel
theorem d_La_law_308 : decode c_La_law 308 = .ok (.ireturn, 1) := by decide +kernel
theorem d_La_law_309 : decode c_La_law 309 = .ok (.goto 512, 3) := by decide +kernel
theorem d_La_law_312 : decode c_La_law 312 = .ok (.aload_n 1, 1) := by decide +kernel
theorem d_La_law_313 : decode c_La_law 313 = .ok (.aload_n 0, 1) := by decide +kernel
theorem d_La_law_314 : decode c_La_law 314 = .ok (.iload 4, 2) := by decide +kernel
theorem d_La_law_316 : decode c_La_law 316 = .ok (.iconst 1, 1) := by decide +kernel
theorem d_La_law_317 : decode c_La_law 317 = .ok (.iadd, 1) := by decide +kernel
theorem d_La_law_318 : decode c_La_law 318 = .ok (.iaload, 1) := by decide +kernel
theorem d_La_law_319 : decode c_La_law 319 = .ok (.aload_n 0, 1) := by decide +kernel
theorem d_La_law_320 : decode c_La_law 320 = .ok (.iload 4, 2) := by decide +kernel
theorem d_La_law_322 : decode c_La_law 322 = .ok (.iconst 2, 1) := by decide +kernel
theorem d_La_law_323 : decode c_La_law 323 = .ok (.iadd, 1) := by decide +kernel
theorem d_La_law_324 : decode c_La_law 324 = .ok (.iaload, 1) := by decide +kernel
theorem d_La_law_325 : decode c_La_law 325 = .ok (.aload_n 0, 1) := by decide +kernel
theorem d_La_law_326 : decode c_La_law 326 = .ok (.iload 4, 2) := by decide +kernel
theorem d_La_law_328 : decode c_La_law 328 = .ok (.iconst 3, 1) := by decide +kernel
theorem d_La_law_329 : decode c_La_law 329 = .ok (.iadd, 1) := by decide +kernel
theorem d_La_law_330 : decode c_La_law 330 = .ok (.iaload, 1) := by decide +kernel
theorem d_La_law_331 : decode c_La_law 331 = .ok (.invokestatic 69, 3) := by decide +kernel
theorem d_La_law_334 : decode c_La_law 334 = .ok (.istore 5, 2) := by decide +kernel
theorem d_La_law_336 : decode c_La_law 336 = .ok (.aload_n 2, 1) := by decide +kernel
theorem d_La_law_337 : decode c_La_law 337 = .ok (.aload_n 0, 1) := by decide +kernel
theorem d_La_law_338 : decode c_La_law 338 = .ok (.iload 4, 2) := by decide +kernel
theorem d_La_law_340 : decode c_La_law 340 = .ok (.iconst 1, 1) := by decide +kernel
theorem d_La_law_341 : decode c_La_law 341 = .ok (.iadd, 1) := by decide +kernel
theorem d_La_law_342 : decode c_La_law 342 = .ok (.iaload, 1) := by decide +kernel
theorem d_La_law_343 : decode c_La_law 343 = .ok (.aload_n 0, 1) := by decide +kernel
theorem d_La_law_344 : decode c_La_law 344 = .ok (.iload 4, 2) := by decide +kernel
theorem d_La_law_346 : decode c_La_law 346 = .ok (.iconst 2, 1) := by decide +kernel
theorem d_La_law_347 : decode c_La_law 347 = .ok (.iadd, 1) := by decide +kernel
theorem d_La_law_348 : decode c_La_law 348 = .ok (.iaload, 1) := by decide +kernel
theorem d_La_law_349 : decode c_La_law 349 = .ok (.aload_n 0, 1) := by decide +kernel
theorem d_La_law_350 : decode c_La_law 350 = .ok (.iload 4, 2) := by decide +kernel
theorem d_La_law_352 : decode c_La_law 352 = .ok (.iconst 3, 1) := by decide +kernel
theorem d_La_law_353 : decode c_La_law 353 = .ok (.iadd, 1) := by decide +kernel
theorem d_La_law_354 : decode c_La_law 354 = .ok (.iaload, 1) := by decide +kernel
theorem d_La_law_355 : decode c_La_law 355 = .ok (.invokevirtual 71, 3) := by decide +kernel
theorem d_La_law_358 : decode c_La_law 358 = .ok (.aload_n 2, 1) := by decide +kernel
theorem d_La_law_359 : decode c_La_law 359 = .ok (.invokevirtual 59, 3) := by decide +kernel
theorem d_La_law_362 : decode c_La_law 362 = .ok (.iload 5, 2) := by decide +kernel
theorem d_La_law_364 : decode c_La_law 364 = .ok (.if_icmp .eq 5, 3) := by decide +kernel
theorem d_La_law_367 : decode c_La_law 367 = .ok (.iconst 0, 1) := by decide +kernel
theorem d_La_law_368 : decode c_La_law 368 = .ok (.ireturn, 1) := by decide +kernel
theorem d_La_law_369 : decode c_La_law 369 = .ok (.goto 452, 3) := by decide +kernel
theorem d_La_law_372 : decode c_La_law 372 = .ok (.aload_n 1, 1) := by decide +kernel
theorem d_La_law_373 : decode c_La_law 373 = .ok (.aload_n 0, 1) := by decide +kernel
theorem d_La_law_374 : decode c_La_law 374 = .ok (.iload 4, 2) := by decide +kernel
theorem d_La_law_376 : decode c_La_law 376 = .ok (.iconst 1, 1) := by decide +kernel
theorem d_La_law_377 : decode c_La_law 377 = .ok (.iadd, 1) := by decide +kernel
theorem d_La_law_378 : decode c_La_law 378 = .ok (.iaload, 1) := by decide +kernel
theorem d_La_law_379 : decode c_La_law 379 = .ok (.aload_n 0, 1) := by decide +kernel
theorem d_La_law_380 : decode c_La_law 380 = .ok (.iload 4, 2) := by decide +kernel
theorem d_La_law_382 : decode c_La_law 382 = .ok (.iconst 2, 1) := by decide +kernel
theorem d_La_law_383 : decode c_La_law 383 = .ok (.iadd, 1) := by decide +kernel
theorem d_La_law_384 : decode c_La_law 384 = .ok (.iaload, 1) := by decide +kernel
theorem d_La_law_385 : decode c_La_law 385 = .ok (.invokestatic 72, 3) := by decide +kernel
theorem d_La_law_388 : decode c_La_law 388 = .ok (.istore 5, 2) := by decide +kernel
theorem d_La_law_390 : decode c_La_law 390 = .ok (.aload_n 2, 1) := by decide +kernel
theorem d_La_law_391 : decode c_La_law 391 = .ok (.aload_n 0, 1) := by decide +kernel
theorem d_La_law_392 : decode c_La_law 392 = .ok (.iload 4, 2) := by decide +kernel
theorem d_La_law_394 : decode c_La_law 394 = .ok (.iconst 1, 1) := by decide +kernel
theorem d_La_law_395 : decode c_La_law 395 = .ok (.iadd, 1) := by decide +kernel
theorem d_La_law_396 : decode c_La_law 396 = .ok (.iaload, 1) := by decide +kernel
theorem d_La_law_397 : decode c_La_law 397 = .ok (.aload_n 0, 1) := by decide +kernel
theorem d_La_law_398 : decode c_La_law 398 = .ok (.iload 4, 2) := by decide +kernel
theorem d_La_law_400 : decode c_La_law 400 = .ok (.iconst 2, 1) := by decide +kernel
theorem d_La_law_401 : decode c_La_law 401 = .ok (.iadd, 1) := by decide +kernel
theorem d_La_law_402 : decode c_La_law 402 = .ok (.iaload, 1) := by decide +kernel
theorem d_La_law_403 : decode c_La_law 403 = .ok (.invokevirtual 74, 3) := by decide +kernel
theorem d_La_law_406 : decode c_La_law 406 = .ok (.aload_n 2, 1) := by decide +kernel
theorem d_La_law_407 : decode c_La_law 407 = .ok (.invokevirtual 59, 3) := by decide +kernel
theorem d_La_law_410 : decode c_La_law 410 = .ok (.iload 5, 2) := by decide +kernel
theorem d_La_law_412 : decode c_La_law 412 = .ok (.if_icmp .eq 5, 3) := by decide +kernel
theorem d_La_law_415 : decode c_La_law 415 = .ok (.iconst 0, 1) := by decide +kernel
theorem d_La_law_416 : decode c_La_law 416 = .ok (.ireturn, 1) := by decide +kernel
theorem d_La_law_417 : decode c_La_law 417 = .ok (.goto 404, 3) := by decide +kernel
theorem d_La_law_420 : decode c_La_law 420 = .ok (.aload_n 1, 1) := by decide +kernel
theorem d_La_law_421 : decode c_La_law 421 = .ok (.aload_n 0, 1) := by decide +kernel
theorem d_La_law_422 : decode c_La_law 422 = .ok (.iload 4, 2) := by decide +kernel
theorem d_La_law_424 : decode c_La_law 424 = .ok (.iconst 1, 1) := by decide +kernel
theorem d_La_law_425 : decode c_La_law 425 = .ok (.iadd, 1) := by decide +kernel
theorem d_La_law_426 : decode c_La_law 426 = .ok (.iaload, 1) := by decide +kernel
theorem d_La_law_427 : decode c_La_law 427 = .ok (.aload_n 0, 1) := by decide +kernel
theorem d_La_law_428 : decode c_La_law 428 = .ok (.iload 4, 2) := by decide +kernel
theorem d_La_law_430 : decode c_La_law 430 = .ok (.iconst 2, 1) := by decide +kernel
theorem d_La_law_431 : decode c_La_law 431 = .ok (.iadd, 1) := by decide +kernel
theorem d_La_law_432 : decode c_La_law 432 = .ok (.iaload, 1) := by decide +kernel
theorem d_La_law_433 : decode c_La_law 433 = .ok (.invokestatic 75, 3) := by decide +kernel
theorem d_La_law_436 : decode c_La_law 436 = .ok (.istore 5, 2) := by decide +kernel
theorem d_La_law_438 : decode c_La_law 438 = .ok (.aload_n 2, 1) := by decide +kernel
theorem d_La_law_439 : decode c_La_law 439 = .ok (.aload_n 0, 1) := by decide +kernel
theorem d_La_law_440 : decode c_La_law 440 = .ok (.iload 4, 2) := by decide +kernel
theorem d_La_law_442 : decode c_La_law 442 = .ok (.iconst 1, 1) := by decide +kernel
theorem d_La_law_443 : decode c_La_law 443 = .ok (.iadd, 1) := by decide +kernel
theorem d_La_law_444 : decode c_La_law 444 = .ok (.iaload, 1) := by decide +kernel
theorem d_La_law_445 : decode c_La_law 445 = .ok (.aload_n 0, 1) := by decide +kernel
theorem d_La_law_446 : decode c_La_law 446 = .ok (.iload 4, 2) := by decide +kernel
theorem d_La_law_448 : decode c_La_law 448 = .ok (.iconst 2, 1) := by decide +kernel
theorem d_La_law_449 : decode c_La_law 449 = .ok (.iadd, 1) := by decide +kernel
theorem d_La_law_450 : decode c_La_law 450 = .ok (.iaload, 1) := by decide +kernel
theorem d_La_law_451 : decode c_La_law 451 = .ok (.invokevirtual 77, 3) := by decide +kernel
theorem d_La_law_454 : decode c_La_law 454 = .ok (.aload_n 2, 1) := by decide +kernel
theorem d_La_law_455 : decode c_La_law 455 = .ok (.invokevirtual 59, 3) := by decide +kernel
theorem d_La_law_458 : decode c_La_law 458 = .ok (.iload 5, 2) := by decide +kernel
theorem d_La_law_460 : decode c_La_law 460 = .ok (.if_icmp .eq 5, 3) := by decide +kernel
theorem d_La_law_463 : decode c_La_law 463 = .ok (.iconst 0, 1) := by decide +kernel
theorem d_La_law_464 : decode c_La_law 464 = .ok (.ireturn, 1) := by decide +kernel
theorem d_La_law_465 : decode c_La_law 465 = .ok (.goto 356, 3) := by decide +kernel
theorem d_La_law_468 : decode c_La_law 468 = .ok (.aload_n 1, 1) := by decide +kernel
theorem d_La_law_469 : decode c_La_law 469 = .ok (.aload_n 0, 1) := by decide +kernel
theorem d_La_law_470 : decode c_La_law 470 = .ok (.iload 4, 2) := by decide +kernel
theorem d_La_law_472 : decode c_La_law 472 = .ok (.iconst 1, 1) := by decide +kernel
theorem d_La_law_473 : decode c_La_law 473 = .ok (.iadd, 1) := by decide +kernel
theorem d_La_law_474 : decode c_La_law 474 = .ok (.iaload, 1) := by decide +kernel
theorem d_La_law_475 : decode c_La_law 475 = .ok (.invokestatic 78, 3) := by decide +kernel
theorem d_La_law_478 : decode c_La_law 478 = .ok (.istore 5, 2) := by decide +kernel
theorem d_La_law_480 : decode c_La_law 480 = .ok (.aload_n 2, 1) := by decide +kernel
theorem d_La_law_481 : decode c_La_law 481 = .ok (.aload_n 0, 1) := by decide +kernel
theorem d_La_law_482 : decode c_La_law 482 = .ok (.iload 4, 2) := by decide +kernel
theorem d_La_law_484 : decode c_La_law 484 = .ok (.iconst 1, 1) := by decide +kernel
theorem d_La_law_485 : decode c_La_law 485 = .ok (.iadd, 1) := by decide +kernel
theorem d_La_law_486 : decode c_La_law 486 = .ok (.iaload, 1) := by decide +kernel
theorem d_La_law_487 : decode c_La_law 487 = .ok (.invokevirtual 81, 3) := by decide +kernel
theorem d_La_law_490 : decode c_La_law 490 = .ok (.aload_n 2, 1) := by decide +kernel
theorem d_La_law_491 : decode c_La_law 491 = .ok (.invokevirtual 59, 3) := by decide +kernel
theorem d_La_law_494 : decode c_La_law 494 = .ok (.iload 5, 2) := by decide +kernel
theorem d_La_law_496 : decode c_La_law 496 = .ok (.if_icmp .eq 5, 3) := by decide +kernel
theorem d_La_law_499 : decode c_La_law 499 = .ok (.iconst 0, 1) := by decide +kernel
theorem d_La_law_500 : decode c_La_law 500 = .ok (.ireturn, 1) := by decide +kernel
theorem d_La_law_501 : decode c_La_law 501 = .ok (.goto 320, 3) := by decide +kernel
theorem d_La_law_504 : decode c_La_law 504 = .ok (.aload_n 1, 1) := by decide +kernel
theorem d_La_law_505 : decode c_La_law 505 = .ok (.aload_n 0, 1) := by decide +kernel
theorem d_La_law_506 : decode c_La_law 506 = .ok (.iload 4, 2) := by decide +kernel
theorem d_La_law_508 : decode c_La_law 508 = .ok (.iconst 1, 1) := by decide +kernel
theorem d_La_law_509 : decode c_La_law 509 = .ok (.iadd, 1) := by decide +kernel
theorem d_La_law_510 : decode c_La_law 510 = .ok (.iaload, 1) := by decide +kernel
theorem d_La_law_511 : decode c_La_law 511 = .ok (.aload_n 0, 1) := by decide +kernel
theorem d_La_law_512 : decode c_La_law 512 = .ok (.iload 4, 2) := by decide +kernel
theorem d_La_law_514 : decode c_La_law 514 = .ok (.iconst 2, 1) := by decide +kernel
theorem d_La_law_515 : decode c_La_law 515 = .ok (.iadd, 1) := by decide +kernel
theorem d_La_law_516 : decode c_La_law 516 = .ok (.iaload, 1) := by decide +kernel
theorem d_La_law_517 : decode c_La_law 517 = .ok (.invokestatic 82, 3) := by decide +kernel
theorem d_La_law_520 : decode c_La_law 520 = .ok (.istore 5, 2) := by decide +kernel
theorem d_La_law_522 : decode c_La_law 522 = .ok (.aload_n 2, 1) := by decide +kernel
theorem d_La_law_523 : decode c_La_law 523 = .ok (.aload_n 0, 1) := by decide +kernel
theorem d_La_law_524 : decode c_La_law 524 = .ok (.iload 4, 2) := by decide +kernel
theorem d_La_law_526 : decode c_La_law 526 = .ok (.iconst 1, 1) := by decide +kernel
theorem d_La_law_527 : decode c_La_law 527 = .ok (.iadd, 1) := by decide +kernel
theorem d_La_law_528 : decode c_La_law 528 = .ok (.iaload, 1) := by decide +kernel
theorem d_La_law_529 : decode c_La_law 529 = .ok (.aload_n 0, 1) := by decide +kernel
theorem d_La_law_530 : decode c_La_law 530 = .ok (.iload 4, 2) := by decide +kernel
theorem d_La_law_532 : decode c_La_law 532 = .ok (.iconst 2, 1) := by decide +kernel
theorem d_La_law_533 : decode c_La_law 533 = .ok (.iadd, 1) := by decide +kernel
theorem d_La_law_534 : decode c_La_law 534 = .ok (.iaload, 1) := by decide +kernel
theorem d_La_law_535 : decode c_La_law 535 = .ok (.invokevirtual 84, 3) := by decide +kernel
theorem d_La_law_538 : decode c_La_law 538 = .ok (.aload_n 2, 1) := by decide +kernel
theorem d_La_law_539 : decode c_La_law 539 = .ok (.invokevirtual 59, 3) := by decide +kernel
theorem d_La_law_542 : decode c_La_law 542 = .ok (.iload 5, 2) := by decide +kernel
theorem d_La_law_544 : decode c_La_law 544 = .ok (.if_icmp .eq 5, 3) := by decide +kernel
theorem d_La_law_547 : decode c_La_law 547 = .ok (.iconst 0, 1) := by decide +kernel
theorem d_La_law_548 : decode c_La_law 548 = .ok (.ireturn, 1) := by decide +kernel
theorem d_La_law_549 : decode c_La_law 549 = .ok (.goto 272, 3) := by decide +kernel
theorem d_La_law_552 : decode c_La_law 552 = .ok (.aload_n 1, 1) := by decide +kernel
theorem d_La_law_553 : decode c_La_law 553 = .ok (.aload_n 0, 1) := by decide +kernel
theorem d_La_law_554 : decode c_La_law 554 = .ok (.iload 4, 2) := by decide +kernel
theorem d_La_law_556 : decode c_La_law 556 = .ok (.iconst 1, 1) := by decide +kernel
theorem d_La_law_557 : decode c_La_law 557 = .ok (.iadd, 1) := by decide +kernel
theorem d_La_law_558 : decode c_La_law 558 = .ok (.iaload, 1) := by decide +kernel
theorem d_La_law_559 : decode c_La_law 559 = .ok (.invokevirtual 85, 3) := by decide +kernel
theorem d_La_law_562 : decode c_La_law 562 = .ok (.aload_n 2, 1) := by decide +kernel
theorem d_La_law_563 : decode c_La_law 563 = .ok (.aload_n 0, 1) := by decide +kernel
theorem d_La_law_564 : decode c_La_law 564 = .ok (.iload 4, 2) := by decide +kernel
theorem d_La_law_566 : decode c_La_law 566 = .ok (.iconst 1, 1) := by decide +kernel
theorem d_La_law_567 : decode c_La_law 567 = .ok (.iadd, 1) := by decide +kernel
theorem d_La_law_568 : decode c_La_law 568 = .ok (.iaload, 1) := by decide +kernel
theorem d_La_law_569 : decode c_La_law 569 = .ok (.invokevirtual 89, 3) := by decide +kernel
theorem d_La_law_572 : decode c_La_law 572 = .ok (.if_icmp .eq 249, 3) := by decide +kernel
theorem d_La_law_575 : decode c_La_law 575 = .ok (.iconst 0, 1) := by decide +kernel
theorem d_La_law_576 : decode c_La_law 576 = .ok (.ireturn, 1) := by decide +kernel
theorem d_La_law_577 : decode c_La_law 577 = .ok (.aload_n 1, 1) := by decide +kernel
theorem d_La_law_578 : decode c_La_law 578 = .ok (.aload_n 0, 1) := by decide +kernel
theorem d_La_law_579 : decode c_La_law 579 = .ok (.iload 4, 2) := by decide +kernel
theorem d_La_law_581 : decode c_La_law 581 = .ok (.iconst 1, 1) := by decide +kernel
theorem d_La_law_582 : decode c_La_law 582 = .ok (.iadd, 1) := by decide +kernel
theorem d_La_law_583 : decode c_La_law 583 = .ok (.iaload, 1) := by decide +kernel
theorem d_La_law_584 : decode c_La_law 584 = .ok (.invokevirtual 90, 3) := by decide +kernel
theorem d_La_law_587 : decode c_La_law 587 = .ok (.aload_n 2, 1) := by decide +kernel
theorem d_La_law_588 : decode c_La_law 588 = .ok (.aload_n 0, 1) := by decide +kernel
theorem d_La_law_589 : decode c_La_law 589 = .ok (.iload 4, 2) := by decide +kernel
theorem d_La_law_591 : decode c_La_law 591 = .ok (.iconst 1, 1) := by decide +kernel
theorem d_La_law_592 : decode c_La_law 592 = .ok (.iadd, 1) := by decide +kernel
theorem d_La_law_593 : decode c_La_law 593 = .ok (.iaload, 1) := by decide +kernel
theorem d_La_law_594 : decode c_La_law 594 = .ok (.invokevirtual 93, 3) := by decide +kernel
theorem d_La_law_597 : decode c_La_law 597 = .ok (.if_icmp .eq 224, 3) := by decide +kernel
theorem d_La_law_600 : decode c_La_law 600 = .ok (.iconst 0, 1) := by decide +kernel
theorem d_La_law_601 : decode c_La_law 601 = .ok (.ireturn, 1) := by decide +kernel
theorem d_La_law_602 : decode c_La_law 602 = .ok (.aload_n 1, 1) := by decide +kernel
theorem d_La_law_603 : decode c_La_law 603 = .ok (.aload_n 0, 1) := by decide +kernel
theorem d_La_law_604 : decode c_La_law 604 = .ok (.iload 4, 2) := by decide +kernel
theorem d_La_law_606 : decode c_La_law 606 = .ok (.iconst 1, 1) := by decide +kernel
theorem d_La_law_607 : decode c_La_law 607 = .ok (.iadd, 1) := by decide +kernel
theorem d_La_law_608 : decode c_La_law 608 = .ok (.iaload, 1) := by decide +kernel
theorem d_La_law_609 : decode c_La_law 609 = .ok (.invokevirtual 94, 3) := by decide +kernel
theorem d_La_law_612 : decode c_La_law 612 = .ok (.aload_n 2, 1) := by decide +kernel
theorem d_La_law_613 : decode c_La_law 613 = .ok (.aload_n 0, 1) := by decide +kernel
theorem d_La_law_614 : decode c_La_law 614 = .ok (.iload 4, 2) := by decide +kernel
theorem d_La_law_616 : decode c_La_law 616 = .ok (.iconst 1, 1) := by decide +kernel
theorem d_La_law_617 : decode c_La_law 617 = .ok (.iadd, 1) := by decide +kernel
theorem d_La_law_618 : decode c_La_law 618 = .ok (.iaload, 1) := by decide +kernel
theorem d_La_law_619 : decode c_La_law 619 = .ok (.invokevirtual 97, 3) := by decide +kernel
theorem d_La_law_622 : decode c_La_law 622 = .ok (.if_icmp .eq 199, 3) := by decide +kernel
theorem d_La_law_625 : decode c_La_law 625 = .ok (.iconst 0, 1) := by decide +kernel
theorem d_La_law_626 : decode c_La_law 626 = .ok (.ireturn, 1) := by decide +kernel
theorem d_La_law_627 : decode c_La_law 627 = .ok (.aload_n 1, 1) := by decide +kernel
theorem d_La_law_628 : decode c_La_law 628 = .ok (.aload_n 0, 1) := by decide +kernel
theorem d_La_law_629 : decode c_La_law 629 = .ok (.iload 4, 2) := by decide +kernel
theorem d_La_law_631 : decode c_La_law 631 = .ok (.iconst 1, 1) := by decide +kernel
theorem d_La_law_632 : decode c_La_law 632 = .ok (.iadd, 1) := by decide +kernel
theorem d_La_law_633 : decode c_La_law 633 = .ok (.iaload, 1) := by decide +kernel
theorem d_La_law_634 : decode c_La_law 634 = .ok (.aload_n 0, 1) := by decide +kernel
theorem d_La_law_635 : decode c_La_law 635 = .ok (.iload 4, 2) := by decide +kernel
theorem d_La_law_637 : decode c_La_law 637 = .ok (.iconst 2, 1) := by decide +kernel
theorem d_La_law_638 : decode c_La_law 638 = .ok (.iadd, 1) := by decide +kernel
theorem d_La_law_639 : decode c_La_law 639 = .ok (.iaload, 1) := by decide +kernel
theorem d_La_law_640 : decode c_La_law 640 = .ok (.invokevirtual 98, 3) := by decide +kernel
theorem d_La_law_643 : decode c_La_law 643 = .ok (.aload_n 2, 1) := by decide +kernel
theorem d_La_law_644 : decode c_La_law 644 = .ok (.aload_n 0, 1) := by decide +kernel
theorem d_La_law_645 : decode c_La_law 645 = .ok (.iload 4, 2) := by decide +kernel
theorem d_La_law_647 : decode c_La_law 647 = .ok (.iconst 1, 1) := by decide +kernel
theorem d_La_law_648 : decode c_La_law 648 = .ok (.iadd, 1) := by decide +kernel
theorem d_La_law_649 : decode c_La_law 649 = .ok (.iaload, 1) := by decide +kernel
theorem d_La_law_650 : decode c_La_law 650 = .ok (.aload_n 0, 1) := by decide +kernel
theorem d_La_law_651 : decode c_La_law 651 = .ok (.iload 4, 2) := by decide +kernel
theorem d_La_law_653 : decode c_La_law 653 = .ok (.iconst 2, 1) := by decide +kernel
theorem d_La_law_654 : decode c_La_law 654 = .ok (.iadd, 1) := by decide +kernel
theorem d_La_law_655 : decode c_La_law 655 = .ok (.iaload, 1) := by decide +kernel
theorem d_La_law_656 : decode c_La_law 656 = .ok (.invokevirtual 102, 3) := by decide +kernel
theorem d_La_law_659 : decode c_La_law 659 = .ok (.if_icmp .eq 162, 3) := by decide +kernel
theorem d_La_law_662 : decode c_La_law 662 = .ok (.iconst 0, 1) := by decide +kernel
theorem d_La_law_663 : decode c_La_law 663 = .ok (.ireturn, 1) := by decide +kernel
theorem d_La_law_664 : decode c_La_law 664 = .ok (.aload_n 1, 1) := by decide +kernel
theorem d_La_law_665 : decode c_La_law 665 = .ok (.aload_n 0, 1) := by decide +kernel
theorem d_La_law_666 : decode c_La_law 666 = .ok (.iload 4, 2) := by decide +kernel
theorem d_La_law_668 : decode c_La_law 668 = .ok (.iconst 1, 1) := by decide +kernel
theorem d_La_law_669 : decode c_La_law 669 = .ok (.iadd, 1) := by decide +kernel
theorem d_La_law_670 : decode c_La_law 670 = .ok (.iaload, 1) := by decide +kernel
theorem d_La_law_671 : decode c_La_law 671 = .ok (.invokevirtual 103, 3) := by decide +kernel
theorem d_La_law_674 : decode c_La_law 674 = .ok (.aload_n 2, 1) := by decide +kernel
theorem d_La_law_675 : decode c_La_law 675 = .ok (.aload_n 0, 1) := by decide +kernel
theorem d_La_law_676 : decode c_La_law 676 = .ok (.iload 4, 2) := by decide +kernel
theorem d_La_law_678 : decode c_La_law 678 = .ok (.iconst 1, 1) := by decide +kernel
theorem d_La_law_679 : decode c_La_law 679 = .ok (.iadd, 1) := by decide +kernel
theorem d_La_law_680 : decode c_La_law 680 = .ok (.iaload, 1) := by decide +kernel
theorem d_La_law_681 : decode c_La_law 681 = .ok (.invokevirtual 106, 3) := by decide +kernel
theorem d_La_law_684 : decode c_La_law 684 = .ok (.if_icmp .eq 137, 3) := by decide +kernel
theorem d_La_law_687 : decode c_La_law 687 = .ok (.iconst 0, 1) := by decide +kernel
theorem d_La_law_688 : decode c_La_law 688 = .ok (.ireturn, 1) := by decide +kernel
theorem d_La_law_689 : decode c_La_law 689 = .ok (.aload_n 1, 1) := by decide +kernel
theorem d_La_law_690 : decode c_La_law 690 = .ok (.aload_n 0, 1) := by decide +kernel
theorem d_La_law_691 : decode c_La_law 691 = .ok (.iload 4, 2) := by decide +kernel
theorem d_La_law_693 : decode c_La_law 693 = .ok (.iconst 1, 1) := by decide +kernel
theorem d_La_law_694 : decode c_La_law 694 = .ok (.iadd, 1) := by decide +kernel
theorem d_La_law_695 : decode c_La_law 695 = .ok (.iaload, 1) := by decide +kernel
theorem d_La_law_696 : decode c_La_law 696 = .ok (.invokevirtual 107, 3) := by decide +kernel
theorem d_La_law_699 : decode c_La_law 699 = .ok (.aload_n 2, 1) := by decide +kernel
theorem d_La_law_700 : decode c_La_law 700 = .ok (.aload_n 0, 1) := by decide +kernel
theorem d_La_law_701 : decode c_La_law 701 = .ok (.iload 4, 2) := by decide +kernel
theorem d_La_law_703 : decode c_La_law 703 = .ok (.iconst 1, 1) := by decide +kernel
theorem d_La_law_704 : decode c_La_law 704 = .ok (.iadd, 1) := by decide +kernel
theorem d_La_law_705 : decode c_La_law 705 = .ok (.iaload, 1) := by decide +kernel
theorem d_La_law_706 : decode c_La_law 706 = .ok (.invokevirtual 110, 3) := by decide +kernel
theorem d_La_law_709 : decode c_La_law 709 = .ok (.if_icmp .eq 112, 3) := by decide +kernel
theorem d_La_law_712 : decode c_La_law 712 = .ok (.iconst 0, 1) := by decide +kernel
theorem d_La_law_713 : decode c_La_law 713 = .ok (.ireturn, 1) := by decide +kernel
theorem d_La_law_714 : decode c_La_law 714 = .ok (.aload_n 1, 1) := by decide +kernel
theorem d_La_law_715 : decode c_La_law 715 = .ok (.aload_n 3, 1) := by decide +kernel
theorem d_La_law_716 : decode c_La_law 716 = .ok (.invokestatic 111, 3) := by decide +kernel
theorem d_La_law_719 : decode c_La_law 719 = .ok (.istore 5, 2) := by decide +kernel
theorem d_La_law_721 : decode c_La_law 721 = .ok (.aload_n 2, 1) := by decide +kernel
theorem d_La_law_722 : decode c_La_law 722 = .ok (.invokevirtual 114, 3) := by decide +kernel
theorem d_La_law_725 : decode c_La_law 725 = .ok (.istore 6, 2) := by decide +kernel
theorem d_La_law_727 : decode c_La_law 727 = .ok (.aload_n 2, 1) := by decide +kernel
theorem d_La_law_728 : decode c_La_law 728 = .ok (.invokevirtual 59, 3) := by decide +kernel
theorem d_La_law_731 : decode c_La_law 731 = .ok (.iload 5, 2) := by decide +kernel
theorem d_La_law_733 : decode c_La_law 733 = .ok (.if_icmp .eq 5, 3) := by decide +kernel
theorem d_La_law_736 : decode c_La_law 736 = .ok (.iconst 0, 1) := by decide +kernel
theorem d_La_law_737 : decode c_La_law 737 = .ok (.ireturn, 1) := by decide +kernel
theorem d_La_law_738 : decode c_La_law 738 = .ok (.iload 5, 2) := by decide +kernel
theorem d_La_law_740 : decode c_La_law 740 = .ok (.ifCond .ne 15, 3) := by decide +kernel
theorem d_La_law_743 : decode c_La_law 743 = .ok (.aload_n 3, 1) := by decide +kernel
theorem d_La_law_744 : decode c_La_law 744 = .ok (.iconst 0, 1) := by decide +kernel
theorem d_La_law_745 : decode c_La_law 745 = .ok (.laload, 1) := by decide +kernel
theorem d_La_law_746 : decode c_La_law 746 = .ok (.iload 6, 2) := by decide +kernel
theorem d_La_law_748 : decode c_La_law 748 = .ok (.i2l, 1) := by decide +kernel
theorem d_La_law_749 : decode c_La_law 749 = .ok (.lcmp, 1) := by decide +kernel
theorem d_La_law_750 : decode c_La_law 750 = .ok (.ifCond .eq 5, 3) := by decide +kernel
theorem d_La_law_753 : decode c_La_law 753 = .ok (.iconst 0, 1) := by decide +kernel
theorem d_La_law_754 : decode c_La_law 754 = .ok (.ireturn, 1) := by decide +kernel
theorem d_La_law_755 : decode c_La_law 755 = .ok (.goto 66, 3) := by decide +kernel
theorem d_La_law_758 : decode c_La_law 758 = .ok (.aload_n 1, 1) := by decide +kernel
theorem d_La_law_759 : decode c_La_law 759 = .ok (.invokevirtual 115, 3) := by decide +kernel
theorem d_La_law_762 : decode c_La_law 762 = .ok (.aload_n 2, 1) := by decide +kernel
theorem d_La_law_763 : decode c_La_law 763 = .ok (.invokevirtual 118, 3) := by decide +kernel
theorem d_La_law_766 : decode c_La_law 766 = .ok (.if_icmp .eq 55, 3) := by decide +kernel
theorem d_La_law_769 : decode c_La_law 769 = .ok (.iconst 0, 1) := by decide +kernel
theorem d_La_law_770 : decode c_La_law 770 = .ok (.ireturn, 1) := by decide +kernel
theorem d_La_law_771 : decode c_La_law 771 = .ok (.aload_n 1, 1) := by decide +kernel
theorem d_La_law_772 : decode c_La_law 772 = .ok (.aload_n 0, 1) := by decide +kernel
theorem d_La_law_773 : decode c_La_law 773 = .ok (.iload 4, 2) := by decide +kernel
theorem d_La_law_775 : decode c_La_law 775 = .ok (.iconst 1, 1) := by decide +kernel
theorem d_La_law_776 : decode c_La_law 776 = .ok (.iadd, 1) := by decide +kernel
theorem d_La_law_777 : decode c_La_law 777 = .ok (.iaload, 1) := by decide +kernel
theorem d_La_law_778 : decode c_La_law 778 = .ok (.invokevirtual 119, 3) := by decide +kernel
theorem d_La_law_781 : decode c_La_law 781 = .ok (.aload_n 2, 1) := by decide +kernel
theorem d_La_law_782 : decode c_La_law 782 = .ok (.aload_n 0, 1) := by decide +kernel
theorem d_La_law_783 : decode c_La_law 783 = .ok (.iload 4, 2) := by decide +kernel
theorem d_La_law_785 : decode c_La_law 785 = .ok (.iconst 1, 1) := by decide +kernel
theorem d_La_law_786 : decode c_La_law 786 = .ok (.iadd, 1) := by decide +kernel
theorem d_La_law_787 : decode c_La_law 787 = .ok (.iaload, 1) := by decide +kernel
theorem d_La_law_788 : decode c_La_law 788 = .ok (.invokevirtual 122, 3) := by decide +kernel
theorem d_La_law_791 : decode c_La_law 791 = .ok (.if_icmp .eq 30, 3) := by decide +kernel
theorem d_La_law_794 : decode c_La_law 794 = .ok (.iconst 0, 1) := by decide +kernel
theorem d_La_law_795 : decode c_La_law 795 = .ok (.ireturn, 1) := by decide +kernel
theorem d_La_law_796 : decode c_La_law 796 = .ok (.aload_n 1, 1) := by decide +kernel
theorem d_La_law_797 : decode c_La_law 797 = .ok (.aload_n 0, 1) := by decide +kernel
theorem d_La_law_798 : decode c_La_law 798 = .ok (.iload 4, 2) := by decide +kernel
theorem d_La_law_800 : decode c_La_law 800 = .ok (.iconst 1, 1) := by decide +kernel
theorem d_La_law_801 : decode c_La_law 801 = .ok (.iadd, 1) := by decide +kernel
theorem d_La_law_802 : decode c_La_law 802 = .ok (.iaload, 1) := by decide +kernel
theorem d_La_law_803 : decode c_La_law 803 = .ok (.invokevirtual 123, 3) := by decide +kernel
theorem d_La_law_806 : decode c_La_law 806 = .ok (.aload_n 2, 1) := by decide +kernel
theorem d_La_law_807 : decode c_La_law 807 = .ok (.aload_n 0, 1) := by decide +kernel
theorem d_La_law_808 : decode c_La_law 808 = .ok (.iload 4, 2) := by decide +kernel
theorem d_La_law_810 : decode c_La_law 810 = .ok (.iconst 1, 1) := by decide +kernel
theorem d_La_law_811 : decode c_La_law 811 = .ok (.iadd, 1) := by decide +kernel
theorem d_La_law_812 : decode c_La_law 812 = .ok (.iaload, 1) := by decide +kernel
theorem d_La_law_813 : decode c_La_law 813 = .ok (.invokevirtual 126, 3) := by decide +kernel
theorem d_La_law_816 : decode c_La_law 816 = .ok (.if_icmp .eq 5, 3) := by decide +kernel
theorem d_La_law_819 : decode c_La_law 819 = .ok (.iconst 0, 1) := by decide +kernel
theorem d_La_law_820 : decode c_La_law 820 = .ok (.ireturn, 1) := by decide +kernel
theorem d_La_law_821 : decode c_La_law 821 = .ok (.iinc 4 4, 3) := by decide +kernel
theorem d_La_law_824 : decode c_La_law 824 = .ok (.goto (-771), 3) := by decide +kernel
theorem d_La_law_827 : decode c_La_law 827 = .ok (.iconst 1, 1) := by decide +kernel
theorem d_La_law_828 : decode c_La_law 828 = .ok (.ireturn, 1) := by decide +kernel
