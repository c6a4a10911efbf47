theorem nd_La_8 : ND "TwoGenerationsLaw" 8 0 := ⟨_, _, _, ty_TG, rfl, rfl, uw_TG, tyok_TG, (fun k hk => by rcases (by omega : k = 0 ∨ k = 1 ∨ k = 2 ∨ k = 3 ∨ k = 4 ∨ k = 5) with rfl | rfl | rfl | rfl | rfl | rfl <;> rfl), m_42, m_43, m_28⟩
theorem lk_La_50 : LK "TwoGenerationsLaw" 50 y_TG_init := m_44
theorem lk_TG_7 : LK "TwoGenerations" 7 y_TG_within := m_50
theorem nq_TG_13 : NQ "TwoGenerations" 13 3 := ⟨by decide, rfl, _, rfl, m_53, m_54⟩
theorem iy_TG_13_3 : IY "TwoGenerations" 13 3 := ⟨_, _, rfl, m_53, Or.inl m_671⟩
theorem iy_TG_13_4 : IY "TwoGenerations" 13 4 := ⟨_, _, rfl, m_53, Or.inl m_672⟩
theorem iy_TG_13_5 : IY "TwoGenerations" 13 5 := ⟨_, _, rfl, m_53, Or.inl m_673⟩
theorem nd_TG_19 : ND "TwoGenerations" 19 1 := ⟨_, _, _, ty_Gen, rfl, rfl, uw_Gen, tyok_Gen, (fun k hk => by rcases (by omega : k = 0 ∨ k = 1 ∨ k = 2 ∨ k = 3) with rfl | rfl | rfl | rfl <;> rfl), m_55, m_56, m_29⟩
theorem lk_TG_21 : LK "TwoGenerations" 21 y_Gen_init := m_57
theorem nq_Gen_13 : NQ "TwoGenerations$Generation" 13 4 := ⟨by decide, rfl, _, rfl, m_61, m_62⟩
theorem iy_Gen_13_3 : IY "TwoGenerations$Generation" 13 3 := ⟨_, _, rfl, m_61, Or.inl m_668⟩
theorem iy_Gen_13_4 : IY "TwoGenerations$Generation" 13 4 := ⟨_, _, rfl, m_61, Or.inl m_669⟩
theorem in_Gen_13_5 : IN "TwoGenerations$Generation" 13 5 := ⟨_, _, rfl, m_61, by decide⟩
theorem fa_Gen_7_1 : FA "TwoGenerations$Generation" 7 1 0 := ⟨_, _, _, rfl, rfl, by decide, uw_Gen, Or.inl m_63⟩
theorem ff_Gen_7_1 : FF "TwoGenerations$Generation" 7 1 0 (.int) := ⟨_, _, _, ty_Gen, rfl, rfl, by decide, uw_Gen, tyok_Gen, nms_Gen, by decide +kernel, m_63, rfl, rfl⟩
theorem fa_TG_33_1 : FA "TwoGenerations" 33 1 0 := ⟨_, _, _, rfl, rfl, by decide, uw_Gen, Or.inl m_64⟩
theorem fa_Gen_15_1 : FA "TwoGenerations$Generation" 15 1 1 := ⟨_, _, _, rfl, rfl, by decide, uw_Gen, Or.inl m_65⟩
theorem ff_Gen_15_1 : FF "TwoGenerations$Generation" 15 1 1 (.array (.object "TwoGenerations$Thing")) := ⟨_, _, _, ty_Gen, rfl, rfl, by decide, uw_Gen, tyok_Gen, nms_Gen, by decide +kernel, m_65, rfl, rfl⟩
theorem fa_Tr_32_1 : FA "TwoGenerations$Trace" 32 1 1 := ⟨_, _, _, rfl, rfl, by decide, uw_Gen, Or.inl m_66⟩
theorem fa_Gen_22_1 : FA "TwoGenerations$Generation" 22 1 2 := ⟨_, _, _, rfl, rfl, by decide, uw_Gen, Or.inl m_67⟩
theorem fp_Gen_22_1 : FP "TwoGenerations$Generation" 22 1 2 (.int) := ⟨_, _, _, ty_Gen, rfl, rfl, by decide, uw_Gen, tyok_Gen, nms_Gen, by decide +kernel, Or.inl ⟨m_67, rfl⟩⟩
theorem fa_Tr_29_1 : FA "TwoGenerations$Trace" 29 1 2 := ⟨_, _, _, rfl, rfl, by decide, uw_Gen, Or.inl m_68⟩
theorem fp_Tr_29_1 : FP "TwoGenerations$Trace" 29 1 2 (.int) := ⟨_, _, _, ty_Gen, rfl, rfl, by decide, uw_Gen, tyok_Gen, nms_Gen, by decide +kernel, Or.inl ⟨m_68, rfl⟩⟩
theorem fa_Gen_19_1 : FA "TwoGenerations$Generation" 19 1 3 := ⟨_, _, _, rfl, rfl, by decide, uw_Gen, Or.inl m_69⟩
theorem fp_Gen_19_1 : FP "TwoGenerations$Generation" 19 1 3 (.int) := ⟨_, _, _, ty_Gen, rfl, rfl, by decide, uw_Gen, tyok_Gen, nms_Gen, by decide +kernel, Or.inl ⟨m_69, rfl⟩⟩
theorem fa_TG_140_1 : FA "TwoGenerations" 140 1 3 := ⟨_, _, _, rfl, rfl, by decide, uw_Gen, Or.inl m_70⟩
theorem fp_TG_140_1 : FP "TwoGenerations" 140 1 3 (.int) := ⟨_, _, _, ty_Gen, rfl, rfl, by decide, uw_Gen, tyok_Gen, nms_Gen, by decide +kernel, Or.inl ⟨m_70, rfl⟩⟩
theorem nd_TG_31 : ND "TwoGenerations" 31 2 := ⟨_, _, _, ty_Tr, rfl, rfl, uw_Tr, tyok_Tr, (fun k hk => by rcases (by omega : k = 0 ∨ k = 1 ∨ k = 2) with rfl | rfl | rfl <;> rfl), m_80, m_81, m_30⟩
theorem lk_TG_37 : LK "TwoGenerations" 37 y_Tr_init := m_82
theorem nq_Tr_7 : NQ "TwoGenerations$Trace" 7 4 := ⟨by decide, rfl, _, rfl, m_86, m_62⟩
theorem iy_Tr_7_3 : IY "TwoGenerations$Trace" 7 3 := ⟨_, _, rfl, m_86, Or.inl m_668⟩
theorem iy_Tr_7_4 : IY "TwoGenerations$Trace" 7 4 := ⟨_, _, rfl, m_86, Or.inl m_669⟩
theorem in_Tr_7_5 : IN "TwoGenerations$Trace" 7 5 := ⟨_, _, rfl, m_86, by decide⟩
theorem fa_Tr_9_2 : FA "TwoGenerations$Trace" 9 2 0 := ⟨_, _, _, rfl, rfl, by decide, uw_Tr, Or.inl m_87⟩
theorem ff_Tr_9_2 : FF "TwoGenerations$Trace" 9 2 0 (.array (.object "TwoGenerations$Thing")) := ⟨_, _, _, ty_Tr, rfl, rfl, by decide, uw_Tr, tyok_Tr, nms_Tr, by decide +kernel, m_87, rfl, rfl⟩
theorem fa_Tr_15_2 : FA "TwoGenerations$Trace" 15 2 1 := ⟨_, _, _, rfl, rfl, by decide, uw_Tr, Or.inl m_88⟩
theorem fp_Tr_15_2 : FP "TwoGenerations$Trace" 15 2 1 (.int) := ⟨_, _, _, ty_Tr, rfl, rfl, by decide, uw_Tr, tyok_Tr, nms_Tr, by decide +kernel, Or.inl ⟨m_88, rfl⟩⟩
theorem fa_Tr_23_2 : FA "TwoGenerations$Trace" 23 2 2 := ⟨_, _, _, rfl, rfl, by decide, uw_Tr, Or.inl m_89⟩
theorem fp_Tr_23_2 : FP "TwoGenerations$Trace" 23 2 2 (.int) := ⟨_, _, _, ty_Tr, rfl, rfl, by decide, uw_Tr, tyok_Tr, nms_Tr, by decide +kernel, Or.inl ⟨m_89, rfl⟩⟩
theorem fa_TG_125_2 : FA "TwoGenerations" 125 2 2 := ⟨_, _, _, rfl, rfl, by decide, uw_Tr, Or.inl m_90⟩
theorem fp_TG_125_2 : FP "TwoGenerations" 125 2 2 (.int) := ⟨_, _, _, ty_Tr, rfl, rfl, by decide, uw_Tr, tyok_Tr, nms_Tr, by decide +kernel, Or.inl ⟨m_90, rfl⟩⟩
theorem fa_TG_15_0 : FA "TwoGenerations" 15 0 0 := ⟨_, _, _, rfl, rfl, by decide, uw_TG, Or.inl m_98⟩
theorem ff_TG_15_0 : FF "TwoGenerations" 15 0 0 (.array (.object "TwoGenerations$Value")) := ⟨_, _, _, ty_TG, rfl, rfl, by decide, uw_TG, tyok_TG, nms_TG, by decide +kernel, m_98, rfl, rfl⟩
theorem fa_TG_24_0 : FA "TwoGenerations" 24 0 1 := ⟨_, _, _, rfl, rfl, by decide, uw_TG, Or.inl m_99⟩
theorem ff_TG_24_0 : FF "TwoGenerations" 24 0 1 (.object "TwoGenerations$Generation") := ⟨_, _, _, ty_TG, rfl, rfl, by decide, uw_TG, tyok_TG, nms_TG, by decide +kernel, m_99, rfl, rfl⟩
theorem fa_TG_28_0 : FA "TwoGenerations" 28 0 2 := ⟨_, _, _, rfl, rfl, by decide, uw_TG, Or.inl m_100⟩
theorem ff_TG_28_0 : FF "TwoGenerations" 28 0 2 (.object "TwoGenerations$Generation") := ⟨_, _, _, ty_TG, rfl, rfl, by decide, uw_TG, tyok_TG, nms_TG, by decide +kernel, m_100, rfl, rfl⟩
theorem fa_TG_38_0 : FA "TwoGenerations" 38 0 3 := ⟨_, _, _, rfl, rfl, by decide, uw_TG, Or.inl m_101⟩
theorem ff_TG_38_0 : FF "TwoGenerations" 38 0 3 (.object "TwoGenerations$Trace") := ⟨_, _, _, ty_TG, rfl, rfl, by decide, uw_TG, tyok_TG, nms_TG, by decide +kernel, m_101, rfl, rfl⟩
theorem fa_TG_143_0 : FA "TwoGenerations" 143 0 4 := ⟨_, _, _, rfl, rfl, by decide, uw_TG, Or.inl m_102⟩
theorem fp_TG_143_0 : FP "TwoGenerations" 143 0 4 (.int) := ⟨_, _, _, ty_TG, rfl, rfl, by decide, uw_TG, tyok_TG, nms_TG, by decide +kernel, Or.inl ⟨m_102, rfl⟩⟩
theorem fa_TG_146_0 : FA "TwoGenerations" 146 0 5 := ⟨_, _, _, rfl, rfl, by decide, uw_TG, Or.inl m_103⟩
theorem fp_TG_146_0 : FP "TwoGenerations" 146 0 5 (.int) := ⟨_, _, _, ty_TG, rfl, rfl, by decide, uw_TG, tyok_TG, nms_TG, by decide +kernel, Or.inl ⟨m_103, rfl⟩⟩
theorem lk_La_85 : LK "TwoGenerationsLaw" 85 y_TG_kind := m_117
theorem lk_TG_42 : LK "TwoGenerations" 42 y_TG_isRegister := m_121
theorem nd_TG_97 : ND "TwoGenerations" 97 5 := ⟨_, _, _, ty_Wh, rfl, rfl, uw_Wh, tyok_Wh, (fun k hk => by rcases (by omega : k = 0) with rfl <;> rfl), m_125, m_436, m_41⟩
theorem in_TG_97_3 : IN "TwoGenerations" 97 3 := ⟨_, _, rfl, m_125, by decide⟩
theorem in_TG_97_4 : IN "TwoGenerations" 97 4 := ⟨_, _, rfl, m_125, by decide⟩
theorem iy_TG_97_5 : IY "TwoGenerations" 97 5 := ⟨_, _, rfl, m_125, Or.inl m_666⟩
theorem nd_TG_53 : ND "TwoGenerations" 53 3 := ⟨_, _, _, ty_Pl, rfl, rfl, uw_Pl, tyok_Pl, (fun k hk => by rcases (by omega : k = 0 ∨ k = 1 ∨ k = 2 ∨ k = 3) with rfl | rfl | rfl | rfl <;> rfl), m_126, m_298, m_38⟩
theorem iy_TG_53_3 : IY "TwoGenerations" 53 3 := ⟨_, _, rfl, m_126, Or.inl m_667⟩
theorem in_TG_53_4 : IN "TwoGenerations" 53 4 := ⟨_, _, rfl, m_126, by decide⟩
theorem in_TG_53_5 : IN "TwoGenerations" 53 5 := ⟨_, _, rfl, m_126, by decide⟩
theorem lk_La_90 : LK "TwoGenerationsLaw" 90 y_TG_value := m_127
theorem lk_TG_102 : LK "TwoGenerations" 102 y_TG_heldIn := m_131
theorem lk_La_94 : LK "TwoGenerationsLaw" 94 y_TG_fields := m_135
theorem lk_TG_71 : LK "TwoGenerations" 71 y_TG_plainIn := m_139
theorem lk_La_98 : LK "TwoGenerationsLaw" 98 y_TG_same := m_143
theorem lk_La_103 : LK "TwoGenerationsLaw" 103 y_TG_generation := m_147
theorem lk_TG_60 : LK "TwoGenerations" 60 y_TG_thingIn := m_151
theorem nq_TG_110 : NQ "TwoGenerations" 110 4 := ⟨by decide, rfl, _, rfl, m_155, m_62⟩
theorem iy_TG_110_3 : IY "TwoGenerations" 110 3 := ⟨_, _, rfl, m_155, Or.inl m_668⟩
theorem iy_TG_110_4 : IY "TwoGenerations" 110 4 := ⟨_, _, rfl, m_155, Or.inl m_669⟩
theorem in_TG_110_5 : IN "TwoGenerations" 110 5 := ⟨_, _, rfl, m_155, by decide⟩
theorem lk_La_107 : LK "TwoGenerationsLaw" 107 y_TG_reach := m_156
theorem lk_TG_115 : LK "TwoGenerations" 115 y_Tr_restart := m_160
theorem lk_TG_118 : LK "TwoGenerations" 118 y_Tr_find := m_164
theorem lk_TG_122 : LK "TwoGenerations" 122 y_Tr_follow := m_168
theorem nd_Tr_39 : ND "TwoGenerations$Trace" 39 3 := ⟨_, _, _, ty_Pl, rfl, rfl, uw_Pl, tyok_Pl, (fun k hk => by rcases (by omega : k = 0 ∨ k = 1 ∨ k = 2 ∨ k = 3) with rfl | rfl | rfl | rfl <;> rfl), m_172, m_298, m_38⟩
theorem iy_Tr_39_3 : IY "TwoGenerations$Trace" 39 3 := ⟨_, _, rfl, m_172, Or.inl m_667⟩
theorem in_Tr_39_4 : IN "TwoGenerations$Trace" 39 4 := ⟨_, _, rfl, m_172, by decide⟩
theorem in_Tr_39_5 : IN "TwoGenerations$Trace" 39 5 := ⟨_, _, rfl, m_172, by decide⟩
theorem lk_Tr_41 : LK "TwoGenerations$Trace" 41 y_Tr_findContents := m_173
theorem lk_Tr_35 : LK "TwoGenerations$Trace" 35 y_Tr_find := m_177
theorem lk_La_115 : LK "TwoGenerationsLaw" 115 y_TG_great := m_178
theorem lk_TG_137 : LK "TwoGenerations" 137 y_TG_collectOld := m_182
theorem lk_TG_158 : LK "TwoGenerations" 158 y_TG_findRegisters := m_186
theorem lk_TG_168 : LK "TwoGenerations" 168 y_Gen_cutTargets := m_190
theorem nd_Gen_32 : ND "TwoGenerations$Generation" 32 4 := ⟨_, _, _, ty_Wk, rfl, rfl, uw_Wk, tyok_Wk, (fun k hk => by rcases (by omega : k = 0 ∨ k = 1 ∨ k = 2 ∨ k = 3) with rfl | rfl | rfl | rfl <;> rfl), m_194, m_382, m_40⟩
theorem in_Gen_32_3 : IN "TwoGenerations$Generation" 32 3 := ⟨_, _, rfl, m_194, by decide⟩
theorem iy_Gen_32_4 : IY "TwoGenerations$Generation" 32 4 := ⟨_, _, rfl, m_194, Or.inl m_670⟩
theorem in_Gen_32_5 : IN "TwoGenerations$Generation" 32 5 := ⟨_, _, rfl, m_194, by decide⟩
theorem lk_Gen_34 : LK "TwoGenerations$Generation" 34 y_Wk_cutUnreachedTarget := m_195
theorem lk_TG_177 : LK "TwoGenerations" 177 y_Gen_keepReached := m_199
theorem lk_Gen_37 : LK "TwoGenerations$Generation" 37 y_Gen_empty := m_203
theorem lk_Gen_40 : LK "TwoGenerations$Generation" 40 y_Gen_add := m_207
theorem lk_La_119 : LK "TwoGenerationsLaw" 119 y_TG_cells := m_211
theorem lk_La_123 : LK "TwoGenerationsLaw" 123 y_TG_collections := m_215
theorem lk_La_44 : LK "TwoGenerationsLaw" 44 y_La_cell := m_219
theorem lk_La_55 : LK "TwoGenerationsLaw" 55 y_La_make := m_222
theorem lk_La_7 : LK "TwoGenerationsLaw" 7 y_TG_make := m_227
theorem lk_TG_55 : LK "TwoGenerations" 55 y_Pl_init := m_299
theorem lk_Pl_1 : LK "TwoGenerations$Plain" 1 y_Th_init := m_302
theorem nq_Pl_7 : NQ "TwoGenerations$Plain" 7 3 := ⟨by decide, rfl, _, rfl, m_309, m_54⟩
theorem iy_Pl_7_3 : IY "TwoGenerations$Plain" 7 3 := ⟨_, _, rfl, m_309, Or.inl m_671⟩
theorem iy_Pl_7_4 : IY "TwoGenerations$Plain" 7 4 := ⟨_, _, rfl, m_309, Or.inl m_672⟩
theorem iy_Pl_7_5 : IY "TwoGenerations$Plain" 7 5 := ⟨_, _, rfl, m_309, Or.inl m_673⟩
theorem fa_Pl_9_3 : FA "TwoGenerations$Plain" 9 3 3 := ⟨_, _, _, rfl, rfl, by decide, uw_Pl, Or.inl m_310⟩
theorem ff_Pl_9_3 : FF "TwoGenerations$Plain" 9 3 3 (.array (.object "TwoGenerations$Value")) := ⟨_, _, _, ty_Pl, rfl, rfl, by decide, uw_Pl, tyok_Pl, nms_Pl, by decide +kernel, m_310, rfl, rfl⟩
theorem fa_TG_80_3 : FA "TwoGenerations" 80 3 3 := ⟨_, _, _, rfl, rfl, by decide, uw_Pl, Or.inl m_311⟩
theorem fa_Tr_45_3 : FA "TwoGenerations$Trace" 45 3 3 := ⟨_, _, _, rfl, rfl, by decide, uw_Pl, Or.inl m_312⟩
theorem fa_Th_7_3 : FA "TwoGenerations$Thing" 7 3 0 := ⟨_, _, _, rfl, rfl, by decide, uw_Pl, Or.inl m_313⟩
theorem ff_Th_7_3 : FF "TwoGenerations$Thing" 7 3 0 (.int) := ⟨_, _, _, ty_Pl, rfl, rfl, by decide, uw_Pl, tyok_Pl, nms_Pl, by decide +kernel, m_313, rfl, rfl⟩
theorem fa_Th_7_4 : FA "TwoGenerations$Thing" 7 4 0 := ⟨_, _, _, rfl, rfl, by decide, uw_Wk, Or.inl m_313⟩
theorem ff_Th_7_4 : FF "TwoGenerations$Thing" 7 4 0 (.int) := ⟨_, _, _, ty_Wk, rfl, rfl, by decide, uw_Wk, tyok_Wk, nms_Wk, by decide +kernel, m_313, rfl, rfl⟩
theorem fa_Gen_25_3 : FA "TwoGenerations$Generation" 25 3 0 := ⟨_, _, _, rfl, rfl, by decide, uw_Pl, Or.inl m_314⟩
theorem fa_Gen_25_4 : FA "TwoGenerations$Generation" 25 4 0 := ⟨_, _, _, rfl, rfl, by decide, uw_Wk, Or.inl m_314⟩
theorem fa_Tr_26_3 : FA "TwoGenerations$Trace" 26 3 0 := ⟨_, _, _, rfl, rfl, by decide, uw_Pl, Or.inl m_315⟩
theorem fa_Tr_26_4 : FA "TwoGenerations$Trace" 26 4 0 := ⟨_, _, _, rfl, rfl, by decide, uw_Wk, Or.inl m_315⟩
theorem fa_TG_149_3 : FA "TwoGenerations" 149 3 0 := ⟨_, _, _, rfl, rfl, by decide, uw_Pl, Or.inl m_316⟩
theorem fa_TG_149_4 : FA "TwoGenerations" 149 4 0 := ⟨_, _, _, rfl, rfl, by decide, uw_Wk, Or.inl m_316⟩
theorem fa_Gen_44_3 : FA "TwoGenerations$Generation" 44 3 1 := ⟨_, _, _, rfl, rfl, by decide, uw_Pl, Or.inl m_317⟩
theorem fp_Gen_44_3 : FP "TwoGenerations$Generation" 44 3 1 (.boolean) := ⟨_, _, _, ty_Pl, rfl, rfl, by decide, uw_Pl, tyok_Pl, nms_Pl, by decide +kernel, Or.inl ⟨m_317, rfl⟩⟩
theorem fa_Gen_44_4 : FA "TwoGenerations$Generation" 44 4 1 := ⟨_, _, _, rfl, rfl, by decide, uw_Wk, Or.inl m_317⟩
theorem fp_Gen_44_4 : FP "TwoGenerations$Generation" 44 4 1 (.boolean) := ⟨_, _, _, ty_Wk, rfl, rfl, by decide, uw_Wk, tyok_Wk, nms_Wk, by decide +kernel, Or.inl ⟨m_317, rfl⟩⟩
theorem fa_TG_109_3 : FA "TwoGenerations" 109 3 1 := ⟨_, _, _, rfl, rfl, by decide, uw_Pl, Or.inl m_318⟩
theorem fp_TG_109_3 : FP "TwoGenerations" 109 3 1 (.boolean) := ⟨_, _, _, ty_Pl, rfl, rfl, by decide, uw_Pl, tyok_Pl, nms_Pl, by decide +kernel, Or.inl ⟨m_318, rfl⟩⟩
theorem fa_TG_109_4 : FA "TwoGenerations" 109 4 1 := ⟨_, _, _, rfl, rfl, by decide, uw_Wk, Or.inl m_318⟩
theorem fp_TG_109_4 : FP "TwoGenerations" 109 4 1 (.boolean) := ⟨_, _, _, ty_Wk, rfl, rfl, by decide, uw_Wk, tyok_Wk, nms_Wk, by decide +kernel, Or.inl ⟨m_318, rfl⟩⟩
theorem fa_Wk_13_3 : FA "TwoGenerations$Weak" 13 3 2 := ⟨_, _, _, rfl, rfl, by decide, uw_Pl, Or.inl m_319⟩
theorem fp_Wk_13_3 : FP "TwoGenerations$Weak" 13 3 2 (.boolean) := ⟨_, _, _, ty_Pl, rfl, rfl, by decide, uw_Pl, tyok_Pl, nms_Pl, by decide +kernel, Or.inl ⟨m_319, rfl⟩⟩
theorem fa_Wk_13_4 : FA "TwoGenerations$Weak" 13 4 2 := ⟨_, _, _, rfl, rfl, by decide, uw_Wk, Or.inl m_319⟩
theorem fp_Wk_13_4 : FP "TwoGenerations$Weak" 13 4 2 (.boolean) := ⟨_, _, _, ty_Wk, rfl, rfl, by decide, uw_Wk, tyok_Wk, nms_Wk, by decide +kernel, Or.inl ⟨m_319, rfl⟩⟩
theorem fa_Tr_19_3 : FA "TwoGenerations$Trace" 19 3 2 := ⟨_, _, _, rfl, rfl, by decide, uw_Pl, Or.inl m_320⟩
theorem fp_Tr_19_3 : FP "TwoGenerations$Trace" 19 3 2 (.boolean) := ⟨_, _, _, ty_Pl, rfl, rfl, by decide, uw_Pl, tyok_Pl, nms_Pl, by decide +kernel, Or.inl ⟨m_320, rfl⟩⟩
theorem fa_Tr_19_4 : FA "TwoGenerations$Trace" 19 4 2 := ⟨_, _, _, rfl, rfl, by decide, uw_Wk, Or.inl m_320⟩
theorem fp_Tr_19_4 : FP "TwoGenerations$Trace" 19 4 2 (.boolean) := ⟨_, _, _, ty_Wk, rfl, rfl, by decide, uw_Wk, tyok_Wk, nms_Wk, by decide +kernel, Or.inl ⟨m_320, rfl⟩⟩
theorem fa_Gen_28_3 : FA "TwoGenerations$Generation" 28 3 2 := ⟨_, _, _, rfl, rfl, by decide, uw_Pl, Or.inl m_321⟩
theorem fp_Gen_28_3 : FP "TwoGenerations$Generation" 28 3 2 (.boolean) := ⟨_, _, _, ty_Pl, rfl, rfl, by decide, uw_Pl, tyok_Pl, nms_Pl, by decide +kernel, Or.inl ⟨m_321, rfl⟩⟩
theorem fa_Gen_28_4 : FA "TwoGenerations$Generation" 28 4 2 := ⟨_, _, _, rfl, rfl, by decide, uw_Wk, Or.inl m_321⟩
theorem fp_Gen_28_4 : FP "TwoGenerations$Generation" 28 4 2 (.boolean) := ⟨_, _, _, ty_Wk, rfl, rfl, by decide, uw_Wk, tyok_Wk, nms_Wk, by decide +kernel, Or.inl ⟨m_321, rfl⟩⟩
theorem lk_TG_56 : LK "TwoGenerations" 56 y_TG_bear := m_331
theorem lk_TG_152 : LK "TwoGenerations" 152 y_Gen_free := m_335
theorem lk_TG_128 : LK "TwoGenerations" 128 y_TG_collectYoung := m_339
theorem lk_TG_161 : LK "TwoGenerations" 161 y_Tr_findAll := m_343
theorem lk_TG_165 : LK "TwoGenerations" 165 y_Gen_reachedCells := m_347
theorem lk_TG_171 : LK "TwoGenerations" 171 y_Gen_adoptReached := m_351
theorem lk_TG_174 : LK "TwoGenerations" 174 y_Gen_empty := m_355
theorem lk_TG_155 : LK "TwoGenerations" 155 y_Gen_add := m_372
theorem lk_La_62 : LK "TwoGenerationsLaw" 62 y_La_weak := m_373
theorem lk_La_17 : LK "TwoGenerationsLaw" 17 y_TG_weak := m_376
theorem nd_TG_66 : ND "TwoGenerations" 66 4 := ⟨_, _, _, ty_Wk, rfl, rfl, uw_Wk, tyok_Wk, (fun k hk => by rcases (by omega : k = 0 ∨ k = 1 ∨ k = 2 ∨ k = 3) with rfl | rfl | rfl | rfl <;> rfl), m_381, m_382, m_40⟩
theorem in_TG_66_3 : IN "TwoGenerations" 66 3 := ⟨_, _, rfl, m_381, by decide⟩
theorem iy_TG_66_4 : IY "TwoGenerations" 66 4 := ⟨_, _, rfl, m_381, Or.inl m_670⟩
theorem in_TG_66_5 : IN "TwoGenerations" 66 5 := ⟨_, _, rfl, m_381, by decide⟩
theorem lk_TG_68 : LK "TwoGenerations" 68 y_Wk_init := m_383
theorem lk_Wk_1 : LK "TwoGenerations$Weak" 1 y_Th_init := m_386
theorem fa_Wk_7_4 : FA "TwoGenerations$Weak" 7 4 3 := ⟨_, _, _, rfl, rfl, by decide, uw_Wk, Or.inl m_387⟩
theorem fp_Wk_7_4 : FP "TwoGenerations$Weak" 7 4 3 (.object "TwoGenerations$Thing") := ⟨_, _, _, ty_Wk, rfl, rfl, by decide, uw_Wk, tyok_Wk, nms_Wk, by decide +kernel, Or.inl ⟨m_387, rfl⟩⟩
theorem fa_TG_89_4 : FA "TwoGenerations" 89 4 3 := ⟨_, _, _, rfl, rfl, by decide, uw_Wk, Or.inl m_388⟩
theorem fp_TG_89_4 : FP "TwoGenerations" 89 4 3 (.object "TwoGenerations$Thing") := ⟨_, _, _, ty_Wk, rfl, rfl, by decide, uw_Wk, tyok_Wk, nms_Wk, by decide +kernel, Or.inl ⟨m_388, rfl⟩⟩
theorem lk_La_65 : LK "TwoGenerationsLaw" 65 y_La_load := m_395
theorem lk_La_20 : LK "TwoGenerationsLaw" 20 y_TG_load := m_398
theorem lk_TG_75 : LK "TwoGenerations" 75 y_Pl_hasField := m_402
theorem lk_La_69 : LK "TwoGenerationsLaw" 69 y_La_store := m_407
theorem lk_La_24 : LK "TwoGenerationsLaw" 24 y_TG_store := m_410
theorem lk_La_72 : LK "TwoGenerationsLaw" 72 y_La_target := m_414
theorem lk_La_27 : LK "TwoGenerationsLaw" 27 y_TG_target := m_417
theorem lk_TG_83 : LK "TwoGenerations" 83 y_TG_weakIn := m_421
theorem lk_La_75 : LK "TwoGenerationsLaw" 75 y_La_number := m_426
theorem lk_La_30 : LK "TwoGenerationsLaw" 30 y_TG_number := m_429
theorem lk_TG_99 : LK "TwoGenerations" 99 y_Wh_init := m_437
theorem fa_Wh_7_5 : FA "TwoGenerations$Whole" 7 5 0 := ⟨_, _, _, rfl, rfl, by decide, uw_Wh, Or.inl m_441⟩
theorem ff_Wh_7_5 : FF "TwoGenerations$Whole" 7 5 0 (.int) := ⟨_, _, _, ty_Wh, rfl, rfl, by decide, uw_Wh, tyok_Wh, nms_Wh, by decide +kernel, m_441, rfl, rfl⟩
theorem fa_TG_106_5 : FA "TwoGenerations" 106 5 0 := ⟨_, _, _, rfl, rfl, by decide, uw_Wh, Or.inl m_442⟩
theorem lk_La_78 : LK "TwoGenerationsLaw" 78 y_La_clear := m_446
theorem lk_La_33 : LK "TwoGenerationsLaw" 33 y_TG_clear := m_449
theorem lk_La_82 : LK "TwoGenerationsLaw" 82 y_La_move := m_454
theorem lk_La_37 : LK "TwoGenerationsLaw" 37 y_TG_move := m_457
theorem lk_La_111 : LK "TwoGenerationsLaw" 111 y_La_small := m_461
theorem lk_La_40 : LK "TwoGenerationsLaw" 40 y_TG_small := m_464
theorem nd_La_52 : ND "TwoGenerationsLaw" 52 6 := ⟨_, _, _, ty_Mo, rfl, rfl, uw_Mo, tyok_Mo, (fun k hk => by rcases (by omega : k = 0 ∨ k = 1 ∨ k = 2 ∨ k = 3 ∨ k = 4 ∨ k = 5 ∨ k = 6 ∨ k = 7 ∨ k = 8 ∨ k = 9 ∨ k = 10 ∨ k = 11 ∨ k = 12) with rfl | rfl | rfl | rfl | rfl | rfl | rfl | rfl | rfl | rfl | rfl | rfl | rfl <;> rfl), m_468, m_469, m_31⟩
theorem lk_La_54 : LK "TwoGenerationsLaw" 54 y_Mo_init := m_470
theorem fa_Mo_45_6 : FA "TwoGenerationsModel" 45 6 0 := ⟨_, _, _, rfl, rfl, by decide, uw_Mo, Or.inl m_475⟩
theorem fp_Mo_45_6 : FP "TwoGenerationsModel" 45 6 0 (.int) := ⟨_, _, _, ty_Mo, rfl, rfl, by decide, uw_Mo, tyok_Mo, nms_Mo, by decide +kernel, Or.inl ⟨m_475, rfl⟩⟩
theorem fa_Mo_33_6 : FA "TwoGenerationsModel" 33 6 1 := ⟨_, _, _, rfl, rfl, by decide, uw_Mo, Or.inl m_476⟩
theorem fp_Mo_33_6 : FP "TwoGenerationsModel" 33 6 1 (.int) := ⟨_, _, _, ty_Mo, rfl, rfl, by decide, uw_Mo, tyok_Mo, nms_Mo, by decide +kernel, Or.inl ⟨m_476, rfl⟩⟩
theorem fa_Mo_37_6 : FA "TwoGenerationsModel" 37 6 2 := ⟨_, _, _, rfl, rfl, by decide, uw_Mo, Or.inl m_477⟩
theorem fp_Mo_37_6 : FP "TwoGenerationsModel" 37 6 2 (.int) := ⟨_, _, _, ty_Mo, rfl, rfl, by decide, uw_Mo, tyok_Mo, nms_Mo, by decide +kernel, Or.inl ⟨m_477, rfl⟩⟩
theorem fa_Mo_40_6 : FA "TwoGenerationsModel" 40 6 3 := ⟨_, _, _, rfl, rfl, by decide, uw_Mo, Or.inl m_478⟩
theorem fp_Mo_40_6 : FP "TwoGenerationsModel" 40 6 3 (.int) := ⟨_, _, _, ty_Mo, rfl, rfl, by decide, uw_Mo, tyok_Mo, nms_Mo, by decide +kernel, Or.inl ⟨m_478, rfl⟩⟩
theorem fa_Mo_7_6 : FA "TwoGenerationsModel" 7 6 4 := ⟨_, _, _, rfl, rfl, by decide, uw_Mo, Or.inl m_479⟩
theorem ff_Mo_7_6 : FF "TwoGenerationsModel" 7 6 4 (.array .long) := ⟨_, _, _, ty_Mo, rfl, rfl, by decide, uw_Mo, tyok_Mo, nms_Mo, by decide +kernel, m_479, rfl, rfl⟩
theorem fa_Mo_13_6 : FA "TwoGenerationsModel" 13 6 5 := ⟨_, _, _, rfl, rfl, by decide, uw_Mo, Or.inl m_480⟩
theorem ff_Mo_13_6 : FF "TwoGenerationsModel" 13 6 5 (.array .boolean) := ⟨_, _, _, ty_Mo, rfl, rfl, by decide, uw_Mo, tyok_Mo, nms_Mo, by decide +kernel, m_480, rfl, rfl⟩
theorem fa_Mo_17_6 : FA "TwoGenerationsModel" 17 6 6 := ⟨_, _, _, rfl, rfl, by decide, uw_Mo, Or.inl m_481⟩
theorem ff_Mo_17_6 : FF "TwoGenerationsModel" 17 6 6 (.array .boolean) := ⟨_, _, _, ty_Mo, rfl, rfl, by decide, uw_Mo, tyok_Mo, nms_Mo, by decide +kernel, m_481, rfl, rfl⟩
theorem fa_Mo_20_6 : FA "TwoGenerationsModel" 20 6 7 := ⟨_, _, _, rfl, rfl, by decide, uw_Mo, Or.inl m_482⟩
theorem ff_Mo_20_6 : FF "TwoGenerationsModel" 20 6 7 (.array .int) := ⟨_, _, _, ty_Mo, rfl, rfl, by decide, uw_Mo, tyok_Mo, nms_Mo, by decide +kernel, m_482, rfl, rfl⟩
theorem fa_Mo_24_6 : FA "TwoGenerationsModel" 24 6 8 := ⟨_, _, _, rfl, rfl, by decide, uw_Mo, Or.inl m_483⟩
theorem ff_Mo_24_6 : FF "TwoGenerationsModel" 24 6 8 (.array .int) := ⟨_, _, _, ty_Mo, rfl, rfl, by decide, uw_Mo, tyok_Mo, nms_Mo, by decide +kernel, m_483, rfl, rfl⟩
theorem fa_Mo_27_6 : FA "TwoGenerationsModel" 27 6 9 := ⟨_, _, _, rfl, rfl, by decide, uw_Mo, Or.inl m_484⟩
theorem ff_Mo_27_6 : FF "TwoGenerationsModel" 27 6 9 (.array .long) := ⟨_, _, _, ty_Mo, rfl, rfl, by decide, uw_Mo, tyok_Mo, nms_Mo, by decide +kernel, m_484, rfl, rfl⟩
theorem fa_Mo_30_6 : FA "TwoGenerationsModel" 30 6 10 := ⟨_, _, _, rfl, rfl, by decide, uw_Mo, Or.inl m_485⟩
theorem ff_Mo_30_6 : FF "TwoGenerationsModel" 30 6 10 (.array .boolean) := ⟨_, _, _, ty_Mo, rfl, rfl, by decide, uw_Mo, tyok_Mo, nms_Mo, by decide +kernel, m_485, rfl, rfl⟩
theorem fa_Mo_89_6 : FA "TwoGenerationsModel" 89 6 11 := ⟨_, _, _, rfl, rfl, by decide, uw_Mo, Or.inl m_486⟩
theorem fp_Mo_89_6 : FP "TwoGenerationsModel" 89 6 11 (.int) := ⟨_, _, _, ty_Mo, rfl, rfl, by decide, uw_Mo, tyok_Mo, nms_Mo, by decide +kernel, Or.inl ⟨m_486, rfl⟩⟩
theorem fa_Mo_79_6 : FA "TwoGenerationsModel" 79 6 12 := ⟨_, _, _, rfl, rfl, by decide, uw_Mo, Or.inl m_487⟩
theorem fp_Mo_79_6 : FP "TwoGenerationsModel" 79 6 12 (.int) := ⟨_, _, _, ty_Mo, rfl, rfl, by decide, uw_Mo, tyok_Mo, nms_Mo, by decide +kernel, Or.inl ⟨m_487, rfl⟩⟩
theorem lk_La_59 : LK "TwoGenerationsLaw" 59 y_Mo_thrown := m_518
theorem lk_La_58 : LK "TwoGenerationsLaw" 58 y_Mo_make := m_522
theorem lk_Mo_48 : LK "TwoGenerationsModel" 48 y_Mo_is := m_526
theorem lk_Mo_98 : LK "TwoGenerationsModel" 98 y_Mo_when := m_530
theorem lk_Mo_102 : LK "TwoGenerationsModel" 102 y_Mo_room := m_534
theorem lk_Mo_82 : LK "TwoGenerationsModel" 82 y_Mo_taken := m_538
theorem lk_Mo_54 : LK "TwoGenerationsModel" 54 y_Mo_cellsOf := m_542
theorem lk_Mo_95 : LK "TwoGenerationsModel" 95 y_Mo_grow := m_546
theorem lk_Mo_86 : LK "TwoGenerationsModel" 86 y_Mo_clearOld := m_550
theorem lk_Mo_70 : LK "TwoGenerationsModel" 70 y_Mo_nothing := m_554
theorem lk_Mo_73 : LK "TwoGenerationsModel" 73 y_Mo_markRegisters := m_558
theorem lk_Mo_58 : LK "TwoGenerationsModel" 58 y_Mo_mark := m_562
theorem lk_Mo_76 : LK "TwoGenerationsModel" 76 y_Mo_spread := m_567
theorem lk_Mo_62 : LK "TwoGenerationsModel" 62 y_Mo_marked := m_571
theorem lk_Mo_66 : LK "TwoGenerationsModel" 66 y_Mo_markFields := m_575
theorem lk_Mo_92 : LK "TwoGenerationsModel" 92 y_Mo_tellWeak := m_579
theorem lk_Mo_105 : LK "TwoGenerationsModel" 105 y_Mo_born := m_583
theorem lk_La_64 : LK "TwoGenerationsLaw" 64 y_Mo_weak := m_587
theorem lk_Mo_109 : LK "TwoGenerationsModel" 109 y_Mo_placeIn := m_591
theorem lk_La_114 : LK "TwoGenerationsLaw" 114 y_Mo_small := m_595
theorem lk_La_118 : LK "TwoGenerationsLaw" 118 y_Mo_great := m_599
theorem lk_La_68 : LK "TwoGenerationsLaw" 68 y_Mo_load := m_603
theorem lk_Mo_112 : LK "TwoGenerationsModel" 112 y_Mo_hasField := m_607
theorem lk_La_71 : LK "TwoGenerationsLaw" 71 y_Mo_store := m_611
theorem lk_La_74 : LK "TwoGenerationsLaw" 74 y_Mo_target := m_615
theorem lk_La_77 : LK "TwoGenerationsLaw" 77 y_Mo_number := m_619
theorem lk_La_81 : LK "TwoGenerationsLaw" 81 y_Mo_clear := m_625
theorem lk_La_84 : LK "TwoGenerationsLaw" 84 y_Mo_move := m_629
theorem lk_La_89 : LK "TwoGenerationsLaw" 89 y_Mo_kind := m_633
theorem lk_La_93 : LK "TwoGenerationsLaw" 93 y_Mo_value := m_637
theorem lk_La_97 : LK "TwoGenerationsLaw" 97 y_Mo_fields := m_641
theorem lk_La_102 : LK "TwoGenerationsLaw" 102 y_Mo_same := m_645
theorem lk_La_106 : LK "TwoGenerationsLaw" 106 y_Mo_generation := m_649
theorem lk_La_110 : LK "TwoGenerationsLaw" 110 y_Mo_reach := m_653
theorem lk_La_122 : LK "TwoGenerationsLaw" 122 y_Mo_cells := m_657
theorem lk_La_126 : LK "TwoGenerationsLaw" 126 y_Mo_collections := m_661
theorem faT_Th_7 {ci : Nat} (h : ci = 3 ∨ ci = 4) : FA "TwoGenerations$Thing" 7 ci 0 ∧ ft ci 0 = true := by
  rcases h with rfl | rfl
  · exact ⟨fa_Th_7_3, rfl⟩
  · exact ⟨fa_Th_7_4, rfl⟩
theorem ffT_Th_7 {ci : Nat} (h : ci = 3 ∨ ci = 4) : FF "TwoGenerations$Thing" 7 ci 0 .int ∧ ft ci 0 = true := by
  rcases h with rfl | rfl
  · exact ⟨ff_Th_7_3, rfl⟩
  · exact ⟨ff_Th_7_4, rfl⟩
theorem faT_Gen_25 {ci : Nat} (h : ci = 3 ∨ ci = 4) : FA "TwoGenerations$Generation" 25 ci 0 ∧ ft ci 0 = true := by
  rcases h with rfl | rfl
  · exact ⟨fa_Gen_25_3, rfl⟩
  · exact ⟨fa_Gen_25_4, rfl⟩
theorem faT_Tr_26 {ci : Nat} (h : ci = 3 ∨ ci = 4) : FA "TwoGenerations$Trace" 26 ci 0 ∧ ft ci 0 = true := by
  rcases h with rfl | rfl
  · exact ⟨fa_Tr_26_3, rfl⟩
  · exact ⟨fa_Tr_26_4, rfl⟩
theorem faT_TG_149 {ci : Nat} (h : ci = 3 ∨ ci = 4) : FA "TwoGenerations" 149 ci 0 ∧ ft ci 0 = true := by
  rcases h with rfl | rfl
  · exact ⟨fa_TG_149_3, rfl⟩
  · exact ⟨fa_TG_149_4, rfl⟩
theorem faT_Gen_44 {ci : Nat} (h : ci = 3 ∨ ci = 4) : FA "TwoGenerations$Generation" 44 ci 1 ∧ ft ci 1 = true := by
  rcases h with rfl | rfl
  · exact ⟨fa_Gen_44_3, rfl⟩
  · exact ⟨fa_Gen_44_4, rfl⟩
theorem fpT_Gen_44 {ci : Nat} (h : ci = 3 ∨ ci = 4) : FP "TwoGenerations$Generation" 44 ci 1 .boolean ∧ ft ci 1 = true := by
  rcases h with rfl | rfl
  · exact ⟨fp_Gen_44_3, rfl⟩
  · exact ⟨fp_Gen_44_4, rfl⟩
theorem faT_TG_109 {ci : Nat} (h : ci = 3 ∨ ci = 4) : FA "TwoGenerations" 109 ci 1 ∧ ft ci 1 = true := by
  rcases h with rfl | rfl
  · exact ⟨fa_TG_109_3, rfl⟩
  · exact ⟨fa_TG_109_4, rfl⟩
theorem fpT_TG_109 {ci : Nat} (h : ci = 3 ∨ ci = 4) : FP "TwoGenerations" 109 ci 1 .boolean ∧ ft ci 1 = true := by
  rcases h with rfl | rfl
  · exact ⟨fp_TG_109_3, rfl⟩
  · exact ⟨fp_TG_109_4, rfl⟩
theorem faT_Wk_13 {ci : Nat} (h : ci = 3 ∨ ci = 4) : FA "TwoGenerations$Weak" 13 ci 2 ∧ ft ci 2 = true := by
  rcases h with rfl | rfl
  · exact ⟨fa_Wk_13_3, rfl⟩
  · exact ⟨fa_Wk_13_4, rfl⟩
theorem fpT_Wk_13 {ci : Nat} (h : ci = 3 ∨ ci = 4) : FP "TwoGenerations$Weak" 13 ci 2 .boolean ∧ ft ci 2 = true := by
  rcases h with rfl | rfl
  · exact ⟨fp_Wk_13_3, rfl⟩
  · exact ⟨fp_Wk_13_4, rfl⟩
theorem faT_Tr_19 {ci : Nat} (h : ci = 3 ∨ ci = 4) : FA "TwoGenerations$Trace" 19 ci 2 ∧ ft ci 2 = true := by
  rcases h with rfl | rfl
  · exact ⟨fa_Tr_19_3, rfl⟩
  · exact ⟨fa_Tr_19_4, rfl⟩
theorem fpT_Tr_19 {ci : Nat} (h : ci = 3 ∨ ci = 4) : FP "TwoGenerations$Trace" 19 ci 2 .boolean ∧ ft ci 2 = true := by
  rcases h with rfl | rfl
  · exact ⟨fp_Tr_19_3, rfl⟩
  · exact ⟨fp_Tr_19_4, rfl⟩
theorem faT_Gen_28 {ci : Nat} (h : ci = 3 ∨ ci = 4) : FA "TwoGenerations$Generation" 28 ci 2 ∧ ft ci 2 = true := by
  rcases h with rfl | rfl
  · exact ⟨fa_Gen_28_3, rfl⟩
  · exact ⟨fa_Gen_28_4, rfl⟩
theorem fpT_Gen_28 {ci : Nat} (h : ci = 3 ∨ ci = 4) : FP "TwoGenerations$Generation" 28 ci 2 .boolean ∧ ft ci 2 = true := by
  rcases h with rfl | rfl
  · exact ⟨fp_Gen_28_3, rfl⟩
  · exact ⟨fp_Gen_28_4, rfl⟩
theorem ac_3_3 : AC 3 3 := ⟨_, _, rfl, rfl, Or.inl m_671⟩
theorem ac_3_4 : AC 3 4 := ⟨_, _, rfl, rfl, Or.inl m_668⟩
theorem ac_4_3 : AC 4 3 := ⟨_, _, rfl, rfl, Or.inl m_672⟩
theorem ac_4_4 : AC 4 4 := ⟨_, _, rfl, rfl, Or.inl m_669⟩
theorem ac_5_3 : AC 5 3 := ⟨_, _, rfl, rfl, Or.inl m_673⟩
theorem cd_TG_init : CD y_TG_init (h_TG_init) 3 := ⟨m_46, m_28, by decide, by decide +kernel⟩
theorem ii_TG_init : y_TG_init.name = "<init>" ∧ Cond.instanceMethod y_TG_init ∈ TT := ⟨rfl, m_45⟩
theorem cd_TG_within : CD y_TG_within (h_TG_within) 3 := ⟨m_52, m_28, by decide, by decide +kernel⟩
theorem st_TG_within : Cond.static y_TG_within ∈ TT := m_51
theorem cd_Gen_init : CD y_Gen_init (h_Gen_init) 1 := ⟨m_59, m_29, by decide, by decide +kernel⟩
theorem ii_Gen_init : y_Gen_init.name = "<init>" ∧ Cond.instanceMethod y_Gen_init ∈ TT := ⟨rfl, m_58⟩
theorem cd_Tr_init : CD y_Tr_init (h_Tr_init) 1 := ⟨m_84, m_30, by decide, by decide +kernel⟩
theorem ii_Tr_init : y_Tr_init.name = "<init>" ∧ Cond.instanceMethod y_Tr_init ∈ TT := ⟨rfl, m_83⟩
theorem cd_TG_kind : CD y_TG_kind (h_TG_kind) 1 := ⟨m_120, m_28, by decide, by decide +kernel⟩
theorem vi_TG_kind : Cond.instanceMethod y_TG_kind ∈ TT ∧ Cond.selects "TwoGenerations" y_TG_kind y_TG_kind ∈ TT := ⟨m_118, m_119⟩
theorem cd_TG_isRegister : CD y_TG_isRegister (h_TG_isRegister) 1 := ⟨m_124, m_28, by decide, by decide +kernel⟩
theorem vi_TG_isRegister : Cond.instanceMethod y_TG_isRegister ∈ TT ∧ Cond.selects "TwoGenerations" y_TG_isRegister y_TG_isRegister ∈ TT := ⟨m_123, m_0⟩
theorem cd_TG_value : CD y_TG_value (h_TG_value) 1 := ⟨m_130, m_28, by decide, by decide +kernel⟩
theorem vi_TG_value : Cond.instanceMethod y_TG_value ∈ TT ∧ Cond.selects "TwoGenerations" y_TG_value y_TG_value ∈ TT := ⟨m_128, m_129⟩
theorem cd_TG_heldIn : CD y_TG_heldIn (h_TG_heldIn) 1 := ⟨m_134, m_28, by decide, by decide +kernel⟩
theorem vi_TG_heldIn : Cond.instanceMethod y_TG_heldIn ∈ TT ∧ Cond.selects "TwoGenerations" y_TG_heldIn y_TG_heldIn ∈ TT := ⟨m_133, m_1⟩
theorem cd_TG_fields : CD y_TG_fields (h_TG_fields) 1 := ⟨m_138, m_28, by decide, by decide +kernel⟩
theorem vi_TG_fields : Cond.instanceMethod y_TG_fields ∈ TT ∧ Cond.selects "TwoGenerations" y_TG_fields y_TG_fields ∈ TT := ⟨m_136, m_137⟩
theorem cd_TG_plainIn : CD y_TG_plainIn (h_TG_plainIn) 1 := ⟨m_142, m_28, by decide, by decide +kernel⟩
theorem vi_TG_plainIn : Cond.instanceMethod y_TG_plainIn ∈ TT ∧ Cond.selects "TwoGenerations" y_TG_plainIn y_TG_plainIn ∈ TT := ⟨m_141, m_2⟩
theorem cd_TG_same : CD y_TG_same (h_TG_same) 2 := ⟨m_146, m_28, by decide, by decide +kernel⟩
theorem vi_TG_same : Cond.instanceMethod y_TG_same ∈ TT ∧ Cond.selects "TwoGenerations" y_TG_same y_TG_same ∈ TT := ⟨m_144, m_145⟩
theorem cd_TG_generation : CD y_TG_generation (h_TG_generation) 1 := ⟨m_150, m_28, by decide, by decide +kernel⟩
theorem vi_TG_generation : Cond.instanceMethod y_TG_generation ∈ TT ∧ Cond.selects "TwoGenerations" y_TG_generation y_TG_generation ∈ TT := ⟨m_148, m_149⟩
theorem cd_TG_thingIn : CD y_TG_thingIn (h_TG_thingIn) 1 := ⟨m_154, m_28, by decide, by decide +kernel⟩
theorem vi_TG_thingIn : Cond.instanceMethod y_TG_thingIn ∈ TT ∧ Cond.selects "TwoGenerations" y_TG_thingIn y_TG_thingIn ∈ TT := ⟨m_153, m_3⟩
theorem cd_TG_reach : CD y_TG_reach (h_TG_reach) 1 := ⟨m_159, m_28, by decide, by decide +kernel⟩
theorem vi_TG_reach : Cond.instanceMethod y_TG_reach ∈ TT ∧ Cond.selects "TwoGenerations" y_TG_reach y_TG_reach ∈ TT := ⟨m_157, m_158⟩
theorem cd_Tr_restart : CD y_Tr_restart (h_Tr_restart) 0 := ⟨m_163, m_30, by decide, by decide +kernel⟩
theorem vi_Tr_restart : Cond.instanceMethod y_Tr_restart ∈ TT ∧ Cond.selects "TwoGenerations$Trace" y_Tr_restart y_Tr_restart ∈ TT := ⟨m_161, m_162⟩
theorem cd_Tr_find : CD y_Tr_find (h_Tr_find) 1 := ⟨m_167, m_30, by decide, by decide +kernel⟩
theorem vi_Tr_find : Cond.instanceMethod y_Tr_find ∈ TT ∧ Cond.selects "TwoGenerations$Trace" y_Tr_find y_Tr_find ∈ TT := ⟨m_165, m_166⟩
theorem cd_Tr_follow : CD y_Tr_follow (h_Tr_follow) 0 := ⟨m_171, m_30, by decide, by decide +kernel⟩
theorem vi_Tr_follow : Cond.instanceMethod y_Tr_follow ∈ TT ∧ Cond.selects "TwoGenerations$Trace" y_Tr_follow y_Tr_follow ∈ TT := ⟨m_169, m_170⟩
theorem cd_Tr_findContents : CD y_Tr_findContents (h_Tr_findContents) 1 := ⟨m_176, m_30, by decide, by decide +kernel⟩
theorem vi_Tr_findContents : Cond.instanceMethod y_Tr_findContents ∈ TT ∧ Cond.selects "TwoGenerations$Trace" y_Tr_findContents y_Tr_findContents ∈ TT := ⟨m_174, m_175⟩
theorem cd_TG_great : CD y_TG_great (h_TG_great) 0 := ⟨m_181, m_28, by decide, by decide +kernel⟩
theorem vi_TG_great : Cond.instanceMethod y_TG_great ∈ TT ∧ Cond.selects "TwoGenerations" y_TG_great y_TG_great ∈ TT := ⟨m_179, m_180⟩
theorem cd_TG_collectOld : CD y_TG_collectOld (h_TG_collectOld) 0 := ⟨m_185, m_28, by decide, by decide +kernel⟩
theorem vi_TG_collectOld : Cond.instanceMethod y_TG_collectOld ∈ TT ∧ Cond.selects "TwoGenerations" y_TG_collectOld y_TG_collectOld ∈ TT := ⟨m_184, m_4⟩
theorem cd_TG_findRegisters : CD y_TG_findRegisters (h_TG_findRegisters) 0 := ⟨m_189, m_28, by decide, by decide +kernel⟩
theorem vi_TG_findRegisters : Cond.instanceMethod y_TG_findRegisters ∈ TT ∧ Cond.selects "TwoGenerations" y_TG_findRegisters y_TG_findRegisters ∈ TT := ⟨m_188, m_5⟩
theorem cd_Gen_cutTargets : CD y_Gen_cutTargets (h_Gen_cutTargets) 0 := ⟨m_193, m_29, by decide, by decide +kernel⟩
theorem vi_Gen_cutTargets : Cond.instanceMethod y_Gen_cutTargets ∈ TT ∧ Cond.selects "TwoGenerations$Generation" y_Gen_cutTargets y_Gen_cutTargets ∈ TT := ⟨m_191, m_192⟩
theorem cd_Wk_cutUnreachedTarget : CD y_Wk_cutUnreachedTarget (h_Wk_cutUnreachedTarget) 0 := ⟨m_198, m_40, by decide, by decide +kernel⟩
theorem vi_Wk_cutUnreachedTarget : Cond.instanceMethod y_Wk_cutUnreachedTarget ∈ TT ∧ Cond.selects "TwoGenerations$Weak" y_Wk_cutUnreachedTarget y_Wk_cutUnreachedTarget ∈ TT := ⟨m_196, m_197⟩
theorem cd_Gen_keepReached : CD y_Gen_keepReached (h_Gen_keepReached) 0 := ⟨m_202, m_29, by decide, by decide +kernel⟩
theorem vi_Gen_keepReached : Cond.instanceMethod y_Gen_keepReached ∈ TT ∧ Cond.selects "TwoGenerations$Generation" y_Gen_keepReached y_Gen_keepReached ∈ TT := ⟨m_200, m_201⟩
theorem cd_Gen_empty : CD y_Gen_empty (h_Gen_empty) 0 := ⟨m_206, m_29, by decide, by decide +kernel⟩
theorem vi_Gen_empty : Cond.instanceMethod y_Gen_empty ∈ TT ∧ Cond.selects "TwoGenerations$Generation" y_Gen_empty y_Gen_empty ∈ TT := ⟨m_204, m_205⟩
theorem cd_Gen_add : CD y_Gen_add (h_Gen_add) 1 := ⟨m_210, m_29, by decide, by decide +kernel⟩
theorem vi_Gen_add : Cond.instanceMethod y_Gen_add ∈ TT ∧ Cond.selects "TwoGenerations$Generation" y_Gen_add y_Gen_add ∈ TT := ⟨m_208, m_209⟩
theorem cd_TG_cells : CD y_TG_cells (h_TG_cells) 1 := ⟨m_214, m_28, by decide, by decide +kernel⟩
theorem vi_TG_cells : Cond.instanceMethod y_TG_cells ∈ TT ∧ Cond.selects "TwoGenerations" y_TG_cells y_TG_cells ∈ TT := ⟨m_212, m_213⟩
theorem cd_TG_collections : CD y_TG_collections (h_TG_collections) 1 := ⟨m_218, m_28, by decide, by decide +kernel⟩
theorem vi_TG_collections : Cond.instanceMethod y_TG_collections ∈ TT ∧ Cond.selects "TwoGenerations" y_TG_collections y_TG_collections ∈ TT := ⟨m_216, m_217⟩
theorem cd_La_cell : CD y_La_cell (h_La_cell) 2 := ⟨m_221, m_27, by decide, by decide +kernel⟩
theorem st_La_cell : Cond.static y_La_cell ∈ TT := m_220
theorem cd_La_make : CD y_La_make (h_La_make) 3 := ⟨m_224, m_27, by decide, by decide +kernel⟩
theorem st_La_make : Cond.static y_La_make ∈ TT := m_223
theorem cd_TG_make : CD y_TG_make (h_TG_make) 2 := ⟨m_230, m_28, by decide, by decide +kernel⟩
theorem vi_TG_make : Cond.instanceMethod y_TG_make ∈ TT ∧ Cond.selects "TwoGenerations" y_TG_make y_TG_make ∈ TT := ⟨m_228, m_229⟩
theorem cd_Pl_init : CD y_Pl_init (h_Pl_init) 1 := ⟨m_301, m_38, by decide, by decide +kernel⟩
theorem ii_Pl_init : y_Pl_init.name = "<init>" ∧ Cond.instanceMethod y_Pl_init ∈ TT := ⟨rfl, m_300⟩
theorem cd_Th_init : CD y_Th_init (h_Th_init) 1 := ⟨m_304, m_37, by decide, by decide +kernel⟩
theorem ii_Th_init : y_Th_init.name = "<init>" ∧ Cond.instanceMethod y_Th_init ∈ TT := ⟨rfl, m_303⟩
theorem cd_Va_init : CD y_Va_init (h_Va_init) 0 := ⟨m_307, m_36, by decide, by decide +kernel⟩
theorem ii_Va_init : y_Va_init.name = "<init>" ∧ Cond.instanceMethod y_Va_init ∈ TT := ⟨rfl, m_306⟩
theorem cd_TG_bear : CD y_TG_bear (h_TG_bear) 2 := ⟨m_334, m_28, by decide, by decide +kernel⟩
theorem vi_TG_bear : Cond.instanceMethod y_TG_bear ∈ TT ∧ Cond.selects "TwoGenerations" y_TG_bear y_TG_bear ∈ TT := ⟨m_333, m_7⟩
theorem cd_Gen_free : CD y_Gen_free (h_Gen_free) 0 := ⟨m_338, m_29, by decide, by decide +kernel⟩
theorem vi_Gen_free : Cond.instanceMethod y_Gen_free ∈ TT ∧ Cond.selects "TwoGenerations$Generation" y_Gen_free y_Gen_free ∈ TT := ⟨m_336, m_337⟩
theorem cd_TG_collectYoung : CD y_TG_collectYoung (h_TG_collectYoung) 0 := ⟨m_342, m_28, by decide, by decide +kernel⟩
theorem vi_TG_collectYoung : Cond.instanceMethod y_TG_collectYoung ∈ TT ∧ Cond.selects "TwoGenerations" y_TG_collectYoung y_TG_collectYoung ∈ TT := ⟨m_341, m_8⟩
theorem cd_Tr_findAll : CD y_Tr_findAll (h_Tr_findAll) 1 := ⟨m_346, m_30, by decide, by decide +kernel⟩
theorem vi_Tr_findAll : Cond.instanceMethod y_Tr_findAll ∈ TT ∧ Cond.selects "TwoGenerations$Trace" y_Tr_findAll y_Tr_findAll ∈ TT := ⟨m_344, m_345⟩
theorem cd_Gen_reachedCells : CD y_Gen_reachedCells (h_Gen_reachedCells) 0 := ⟨m_350, m_29, by decide, by decide +kernel⟩
theorem vi_Gen_reachedCells : Cond.instanceMethod y_Gen_reachedCells ∈ TT ∧ Cond.selects "TwoGenerations$Generation" y_Gen_reachedCells y_Gen_reachedCells ∈ TT := ⟨m_348, m_349⟩
theorem cd_Gen_adoptReached : CD y_Gen_adoptReached (h_Gen_adoptReached) 1 := ⟨m_354, m_29, by decide, by decide +kernel⟩
theorem vi_Gen_adoptReached : Cond.instanceMethod y_Gen_adoptReached ∈ TT ∧ Cond.selects "TwoGenerations$Generation" y_Gen_adoptReached y_Gen_adoptReached ∈ TT := ⟨m_352, m_353⟩
theorem cd_La_weak : CD y_La_weak (h_La_weak) 3 := ⟨m_375, m_27, by decide, by decide +kernel⟩
theorem st_La_weak : Cond.static y_La_weak ∈ TT := m_374
theorem cd_TG_weak : CD y_TG_weak (h_TG_weak) 2 := ⟨m_379, m_28, by decide, by decide +kernel⟩
theorem vi_TG_weak : Cond.instanceMethod y_TG_weak ∈ TT ∧ Cond.selects "TwoGenerations" y_TG_weak y_TG_weak ∈ TT := ⟨m_377, m_378⟩
theorem cd_Wk_init : CD y_Wk_init (h_Wk_init) 1 := ⟨m_385, m_40, by decide, by decide +kernel⟩
theorem ii_Wk_init : y_Wk_init.name = "<init>" ∧ Cond.instanceMethod y_Wk_init ∈ TT := ⟨rfl, m_384⟩
theorem cd_La_load : CD y_La_load (h_La_load) 4 := ⟨m_397, m_27, by decide, by decide +kernel⟩
theorem st_La_load : Cond.static y_La_load ∈ TT := m_396
theorem cd_TG_load : CD y_TG_load (h_TG_load) 3 := ⟨m_401, m_28, by decide, by decide +kernel⟩
theorem vi_TG_load : Cond.instanceMethod y_TG_load ∈ TT ∧ Cond.selects "TwoGenerations" y_TG_load y_TG_load ∈ TT := ⟨m_399, m_400⟩
theorem cd_Pl_hasField : CD y_Pl_hasField (h_Pl_hasField) 1 := ⟨m_405, m_38, by decide, by decide +kernel⟩
theorem vi_Pl_hasField : Cond.instanceMethod y_Pl_hasField ∈ TT ∧ Cond.selects "TwoGenerations$Plain" y_Pl_hasField y_Pl_hasField ∈ TT := ⟨m_403, m_404⟩
theorem cd_La_store : CD y_La_store (h_La_store) 4 := ⟨m_409, m_27, by decide, by decide +kernel⟩
theorem st_La_store : Cond.static y_La_store ∈ TT := m_408
theorem cd_TG_store : CD y_TG_store (h_TG_store) 3 := ⟨m_413, m_28, by decide, by decide +kernel⟩
theorem vi_TG_store : Cond.instanceMethod y_TG_store ∈ TT ∧ Cond.selects "TwoGenerations" y_TG_store y_TG_store ∈ TT := ⟨m_411, m_412⟩
theorem cd_La_target : CD y_La_target (h_La_target) 3 := ⟨m_416, m_27, by decide, by decide +kernel⟩
theorem st_La_target : Cond.static y_La_target ∈ TT := m_415
theorem cd_TG_target : CD y_TG_target (h_TG_target) 2 := ⟨m_420, m_28, by decide, by decide +kernel⟩
theorem vi_TG_target : Cond.instanceMethod y_TG_target ∈ TT ∧ Cond.selects "TwoGenerations" y_TG_target y_TG_target ∈ TT := ⟨m_418, m_419⟩
theorem cd_TG_weakIn : CD y_TG_weakIn (h_TG_weakIn) 1 := ⟨m_424, m_28, by decide, by decide +kernel⟩
theorem vi_TG_weakIn : Cond.instanceMethod y_TG_weakIn ∈ TT ∧ Cond.selects "TwoGenerations" y_TG_weakIn y_TG_weakIn ∈ TT := ⟨m_423, m_9⟩
theorem cd_La_number : CD y_La_number (h_La_number) 3 := ⟨m_428, m_27, by decide, by decide +kernel⟩
theorem st_La_number : Cond.static y_La_number ∈ TT := m_427
theorem cd_TG_number : CD y_TG_number (h_TG_number) 2 := ⟨m_432, m_28, by decide, by decide +kernel⟩
theorem vi_TG_number : Cond.instanceMethod y_TG_number ∈ TT ∧ Cond.selects "TwoGenerations" y_TG_number y_TG_number ∈ TT := ⟨m_430, m_431⟩
theorem cd_Wh_init : CD y_Wh_init (h_Wh_init) 1 := ⟨m_439, m_41, by decide, by decide +kernel⟩
theorem ii_Wh_init : y_Wh_init.name = "<init>" ∧ Cond.instanceMethod y_Wh_init ∈ TT := ⟨rfl, m_438⟩
theorem cd_La_clear : CD y_La_clear (h_La_clear) 2 := ⟨m_448, m_27, by decide, by decide +kernel⟩
theorem st_La_clear : Cond.static y_La_clear ∈ TT := m_447
theorem cd_TG_clear : CD y_TG_clear (h_TG_clear) 1 := ⟨m_452, m_28, by decide, by decide +kernel⟩
theorem vi_TG_clear : Cond.instanceMethod y_TG_clear ∈ TT ∧ Cond.selects "TwoGenerations" y_TG_clear y_TG_clear ∈ TT := ⟨m_450, m_451⟩
theorem cd_La_move : CD y_La_move (h_La_move) 3 := ⟨m_456, m_27, by decide, by decide +kernel⟩
theorem st_La_move : Cond.static y_La_move ∈ TT := m_455
theorem cd_TG_move : CD y_TG_move (h_TG_move) 2 := ⟨m_460, m_28, by decide, by decide +kernel⟩
theorem vi_TG_move : Cond.instanceMethod y_TG_move ∈ TT ∧ Cond.selects "TwoGenerations" y_TG_move y_TG_move ∈ TT := ⟨m_458, m_459⟩
theorem cd_La_small : CD y_La_small (h_La_small) 2 := ⟨m_463, m_27, by decide, by decide +kernel⟩
theorem st_La_small : Cond.static y_La_small ∈ TT := m_462
theorem cd_TG_small : CD y_TG_small (h_TG_small) 0 := ⟨m_467, m_28, by decide, by decide +kernel⟩
theorem vi_TG_small : Cond.instanceMethod y_TG_small ∈ TT ∧ Cond.selects "TwoGenerations" y_TG_small y_TG_small ∈ TT := ⟨m_465, m_466⟩
theorem cd_Mo_init : CD y_Mo_init (h_Mo_init) 3 := ⟨m_472, m_31, by decide, by decide +kernel⟩
theorem ii_Mo_init : y_Mo_init.name = "<init>" ∧ Cond.instanceMethod y_Mo_init ∈ TT := ⟨rfl, m_471⟩
theorem cd_Mo_thrown : CD y_Mo_thrown (h_Mo_thrown) 0 := ⟨m_521, m_31, by decide, by decide +kernel⟩
theorem vi_Mo_thrown : Cond.instanceMethod y_Mo_thrown ∈ TT ∧ Cond.selects "TwoGenerationsModel" y_Mo_thrown y_Mo_thrown ∈ TT := ⟨m_519, m_520⟩
theorem cd_Mo_make : CD y_Mo_make (h_Mo_make) 2 := ⟨m_525, m_31, by decide, by decide +kernel⟩
theorem vi_Mo_make : Cond.instanceMethod y_Mo_make ∈ TT ∧ Cond.selects "TwoGenerationsModel" y_Mo_make y_Mo_make ∈ TT := ⟨m_523, m_524⟩
theorem cd_Mo_is : CD y_Mo_is (h_Mo_is) 1 := ⟨m_529, m_31, by decide, by decide +kernel⟩
theorem vi_Mo_is : Cond.instanceMethod y_Mo_is ∈ TT ∧ Cond.selects "TwoGenerationsModel" y_Mo_is y_Mo_is ∈ TT := ⟨m_528, m_10⟩
theorem cd_Mo_when : CD y_Mo_when (h_Mo_when) 2 := ⟨m_533, m_31, by decide, by decide +kernel⟩
theorem vi_Mo_when : Cond.instanceMethod y_Mo_when ∈ TT ∧ Cond.selects "TwoGenerationsModel" y_Mo_when y_Mo_when ∈ TT := ⟨m_532, m_11⟩
theorem cd_Mo_room : CD y_Mo_room (h_Mo_room) 1 := ⟨m_537, m_31, by decide, by decide +kernel⟩
theorem vi_Mo_room : Cond.instanceMethod y_Mo_room ∈ TT ∧ Cond.selects "TwoGenerationsModel" y_Mo_room y_Mo_room ∈ TT := ⟨m_536, m_12⟩
theorem cd_Mo_taken : CD y_Mo_taken (h_Mo_taken) 1 := ⟨m_541, m_31, by decide, by decide +kernel⟩
theorem vi_Mo_taken : Cond.instanceMethod y_Mo_taken ∈ TT ∧ Cond.selects "TwoGenerationsModel" y_Mo_taken y_Mo_taken ∈ TT := ⟨m_540, m_13⟩
theorem cd_Mo_cellsOf : CD y_Mo_cellsOf (h_Mo_cellsOf) 1 := ⟨m_545, m_31, by decide, by decide +kernel⟩
theorem vi_Mo_cellsOf : Cond.instanceMethod y_Mo_cellsOf ∈ TT ∧ Cond.selects "TwoGenerationsModel" y_Mo_cellsOf y_Mo_cellsOf ∈ TT := ⟨m_544, m_14⟩
theorem cd_Mo_grow : CD y_Mo_grow (h_Mo_grow) 0 := ⟨m_549, m_31, by decide, by decide +kernel⟩
theorem vi_Mo_grow : Cond.instanceMethod y_Mo_grow ∈ TT ∧ Cond.selects "TwoGenerationsModel" y_Mo_grow y_Mo_grow ∈ TT := ⟨m_548, m_15⟩
theorem cd_Mo_clearOld : CD y_Mo_clearOld (h_Mo_clearOld) 0 := ⟨m_553, m_31, by decide, by decide +kernel⟩
theorem vi_Mo_clearOld : Cond.instanceMethod y_Mo_clearOld ∈ TT ∧ Cond.selects "TwoGenerationsModel" y_Mo_clearOld y_Mo_clearOld ∈ TT := ⟨m_552, m_16⟩
theorem cd_Mo_nothing : CD y_Mo_nothing (h_Mo_nothing) 0 := ⟨m_557, m_31, by decide, by decide +kernel⟩
theorem vi_Mo_nothing : Cond.instanceMethod y_Mo_nothing ∈ TT ∧ Cond.selects "TwoGenerationsModel" y_Mo_nothing y_Mo_nothing ∈ TT := ⟨m_556, m_17⟩
theorem cd_Mo_markRegisters : CD y_Mo_markRegisters (h_Mo_markRegisters) 0 := ⟨m_561, m_31, by decide, by decide +kernel⟩
theorem vi_Mo_markRegisters : Cond.instanceMethod y_Mo_markRegisters ∈ TT ∧ Cond.selects "TwoGenerationsModel" y_Mo_markRegisters y_Mo_markRegisters ∈ TT := ⟨m_560, m_18⟩
theorem cd_Mo_mark : CD y_Mo_mark (h_Mo_mark) 1 := ⟨m_565, m_31, by decide, by decide +kernel⟩
theorem vi_Mo_mark : Cond.instanceMethod y_Mo_mark ∈ TT ∧ Cond.selects "TwoGenerationsModel" y_Mo_mark y_Mo_mark ∈ TT := ⟨m_564, m_19⟩
theorem cd_Mo_spread : CD y_Mo_spread (h_Mo_spread) 0 := ⟨m_570, m_31, by decide, by decide +kernel⟩
theorem vi_Mo_spread : Cond.instanceMethod y_Mo_spread ∈ TT ∧ Cond.selects "TwoGenerationsModel" y_Mo_spread y_Mo_spread ∈ TT := ⟨m_569, m_20⟩
theorem cd_Mo_marked : CD y_Mo_marked (h_Mo_marked) 0 := ⟨m_574, m_31, by decide, by decide +kernel⟩
theorem vi_Mo_marked : Cond.instanceMethod y_Mo_marked ∈ TT ∧ Cond.selects "TwoGenerationsModel" y_Mo_marked y_Mo_marked ∈ TT := ⟨m_573, m_21⟩
theorem cd_Mo_markFields : CD y_Mo_markFields (h_Mo_markFields) 1 := ⟨m_578, m_31, by decide, by decide +kernel⟩
theorem vi_Mo_markFields : Cond.instanceMethod y_Mo_markFields ∈ TT ∧ Cond.selects "TwoGenerationsModel" y_Mo_markFields y_Mo_markFields ∈ TT := ⟨m_577, m_22⟩
theorem cd_Mo_tellWeak : CD y_Mo_tellWeak (h_Mo_tellWeak) 0 := ⟨m_582, m_31, by decide, by decide +kernel⟩
theorem vi_Mo_tellWeak : Cond.instanceMethod y_Mo_tellWeak ∈ TT ∧ Cond.selects "TwoGenerationsModel" y_Mo_tellWeak y_Mo_tellWeak ∈ TT := ⟨m_581, m_23⟩
theorem cd_Mo_born : CD y_Mo_born (h_Mo_born) 3 := ⟨m_586, m_31, by decide, by decide +kernel⟩
theorem vi_Mo_born : Cond.instanceMethod y_Mo_born ∈ TT ∧ Cond.selects "TwoGenerationsModel" y_Mo_born y_Mo_born ∈ TT := ⟨m_585, m_24⟩
theorem cd_Mo_weak : CD y_Mo_weak (h_Mo_weak) 2 := ⟨m_590, m_31, by decide, by decide +kernel⟩
theorem vi_Mo_weak : Cond.instanceMethod y_Mo_weak ∈ TT ∧ Cond.selects "TwoGenerationsModel" y_Mo_weak y_Mo_weak ∈ TT := ⟨m_588, m_589⟩
theorem cd_Mo_placeIn : CD y_Mo_placeIn (h_Mo_placeIn) 1 := ⟨m_594, m_31, by decide, by decide +kernel⟩
theorem vi_Mo_placeIn : Cond.instanceMethod y_Mo_placeIn ∈ TT ∧ Cond.selects "TwoGenerationsModel" y_Mo_placeIn y_Mo_placeIn ∈ TT := ⟨m_593, m_25⟩
theorem cd_Mo_small : CD y_Mo_small (h_Mo_small) 0 := ⟨m_598, m_31, by decide, by decide +kernel⟩
theorem vi_Mo_small : Cond.instanceMethod y_Mo_small ∈ TT ∧ Cond.selects "TwoGenerationsModel" y_Mo_small y_Mo_small ∈ TT := ⟨m_596, m_597⟩
theorem cd_Mo_great : CD y_Mo_great (h_Mo_great) 0 := ⟨m_602, m_31, by decide, by decide +kernel⟩
theorem vi_Mo_great : Cond.instanceMethod y_Mo_great ∈ TT ∧ Cond.selects "TwoGenerationsModel" y_Mo_great y_Mo_great ∈ TT := ⟨m_600, m_601⟩
theorem cd_Mo_load : CD y_Mo_load (h_Mo_load) 3 := ⟨m_606, m_31, by decide, by decide +kernel⟩
theorem vi_Mo_load : Cond.instanceMethod y_Mo_load ∈ TT ∧ Cond.selects "TwoGenerationsModel" y_Mo_load y_Mo_load ∈ TT := ⟨m_604, m_605⟩
theorem cd_Mo_hasField : CD y_Mo_hasField (h_Mo_hasField) 2 := ⟨m_610, m_31, by decide, by decide +kernel⟩
theorem vi_Mo_hasField : Cond.instanceMethod y_Mo_hasField ∈ TT ∧ Cond.selects "TwoGenerationsModel" y_Mo_hasField y_Mo_hasField ∈ TT := ⟨m_609, m_26⟩
theorem cd_Mo_store : CD y_Mo_store (h_Mo_store) 3 := ⟨m_614, m_31, by decide, by decide +kernel⟩
theorem vi_Mo_store : Cond.instanceMethod y_Mo_store ∈ TT ∧ Cond.selects "TwoGenerationsModel" y_Mo_store y_Mo_store ∈ TT := ⟨m_612, m_613⟩
theorem cd_Mo_target : CD y_Mo_target (h_Mo_target) 2 := ⟨m_618, m_31, by decide, by decide +kernel⟩
theorem vi_Mo_target : Cond.instanceMethod y_Mo_target ∈ TT ∧ Cond.selects "TwoGenerationsModel" y_Mo_target y_Mo_target ∈ TT := ⟨m_616, m_617⟩
theorem cd_Mo_number : CD y_Mo_number (h_Mo_number) 2 := ⟨m_622, m_31, by decide, by decide +kernel⟩
theorem vi_Mo_number : Cond.instanceMethod y_Mo_number ∈ TT ∧ Cond.selects "TwoGenerationsModel" y_Mo_number y_Mo_number ∈ TT := ⟨m_620, m_621⟩
theorem cd_Mo_clear : CD y_Mo_clear (h_Mo_clear) 1 := ⟨m_628, m_31, by decide, by decide +kernel⟩
theorem vi_Mo_clear : Cond.instanceMethod y_Mo_clear ∈ TT ∧ Cond.selects "TwoGenerationsModel" y_Mo_clear y_Mo_clear ∈ TT := ⟨m_626, m_627⟩
theorem cd_Mo_move : CD y_Mo_move (h_Mo_move) 2 := ⟨m_632, m_31, by decide, by decide +kernel⟩
theorem vi_Mo_move : Cond.instanceMethod y_Mo_move ∈ TT ∧ Cond.selects "TwoGenerationsModel" y_Mo_move y_Mo_move ∈ TT := ⟨m_630, m_631⟩
theorem cd_Mo_kind : CD y_Mo_kind (h_Mo_kind) 1 := ⟨m_636, m_31, by decide, by decide +kernel⟩
theorem vi_Mo_kind : Cond.instanceMethod y_Mo_kind ∈ TT ∧ Cond.selects "TwoGenerationsModel" y_Mo_kind y_Mo_kind ∈ TT := ⟨m_634, m_635⟩
theorem cd_Mo_value : CD y_Mo_value (h_Mo_value) 1 := ⟨m_640, m_31, by decide, by decide +kernel⟩
theorem vi_Mo_value : Cond.instanceMethod y_Mo_value ∈ TT ∧ Cond.selects "TwoGenerationsModel" y_Mo_value y_Mo_value ∈ TT := ⟨m_638, m_639⟩
theorem cd_Mo_fields : CD y_Mo_fields (h_Mo_fields) 1 := ⟨m_644, m_31, by decide, by decide +kernel⟩
theorem vi_Mo_fields : Cond.instanceMethod y_Mo_fields ∈ TT ∧ Cond.selects "TwoGenerationsModel" y_Mo_fields y_Mo_fields ∈ TT := ⟨m_642, m_643⟩
theorem cd_Mo_same : CD y_Mo_same (h_Mo_same) 2 := ⟨m_648, m_31, by decide, by decide +kernel⟩
theorem vi_Mo_same : Cond.instanceMethod y_Mo_same ∈ TT ∧ Cond.selects "TwoGenerationsModel" y_Mo_same y_Mo_same ∈ TT := ⟨m_646, m_647⟩
theorem cd_Mo_generation : CD y_Mo_generation (h_Mo_generation) 1 := ⟨m_652, m_31, by decide, by decide +kernel⟩
theorem vi_Mo_generation : Cond.instanceMethod y_Mo_generation ∈ TT ∧ Cond.selects "TwoGenerationsModel" y_Mo_generation y_Mo_generation ∈ TT := ⟨m_650, m_651⟩
theorem cd_Mo_reach : CD y_Mo_reach (h_Mo_reach) 1 := ⟨m_656, m_31, by decide, by decide +kernel⟩
theorem vi_Mo_reach : Cond.instanceMethod y_Mo_reach ∈ TT ∧ Cond.selects "TwoGenerationsModel" y_Mo_reach y_Mo_reach ∈ TT := ⟨m_654, m_655⟩
theorem cd_Mo_cells : CD y_Mo_cells (h_Mo_cells) 1 := ⟨m_660, m_31, by decide, by decide +kernel⟩
theorem vi_Mo_cells : Cond.instanceMethod y_Mo_cells ∈ TT ∧ Cond.selects "TwoGenerationsModel" y_Mo_cells y_Mo_cells ∈ TT := ⟨m_658, m_659⟩
theorem cd_Mo_collections : CD y_Mo_collections (h_Mo_collections) 1 := ⟨m_664, m_31, by decide, by decide +kernel⟩
theorem vi_Mo_collections : Cond.instanceMethod y_Mo_collections ∈ TT ∧ Cond.selects "TwoGenerationsModel" y_Mo_collections y_Mo_collections ∈ TT := ⟨m_662, m_663⟩
