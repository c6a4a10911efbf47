/-! the law's steps: a case each -/
section LC
variable {l : Launch} {Γ : Cxt} {Δ : Dat} {A : Nat → Prop} {w : Wd} {x rg nr yg ya ly og oa lo tr fa m re th ol sz am fd rc s N o i C S : Nat} {f : Nat → Int32} {Q : State → Prop}
theorem loc7 {a b c d e p q : Option Value} : ∀ (j : Nat) (v : Value), [a, b, c, d, e, none, none][j]? = some (some v) → [a, b, c, d, e, p, q][j]? = some (some v)
  | 0, _, h => h
  | 1, _, h => h
  | 2, _, h => h
  | 3, _, h => h
  | 4, _, h => h
  | 5, _, h => by simp at h
  | 6, _, h => by simp at h
  | n + 7, _, h => by simp at h
abbrev LX (l : Launch) (Γ : Cxt) (Δ : Dat) (A : Nat → Prop) : Prop := Cx Γ Δ A l c_La_law "TwoGenerationsLaw" 7 room_1 (some .boolean) "law"
abbrev LJ (Γ : Cxt) (Δ : Dat) (A : Nat → Prop) (w : Wd) (Q : State → Prop) (C S s x m o i pc : Nat) : Prop := J Γ Δ A 7 w C S Q pc [some (.ref s), some (.ref x), some (.ref m), some (.ref o), some (.int (nI i)), none, none] []
set_option maxRecDepth 100000 in
theorem la_make (hfl : l.stackTraces = false) (X : LX l Γ Δ A) (HS : SC Γ A s N f) (K : KS w x rg nr yg ya ly og oa lo tr fa m re th ol sz am fd rc o) (hi : i + 3 < N) (hN : N < 2 ^ 31) (hC : C + 3 ≤ 601024) (hS : S + 21 ≤ 7293000) (kont : ∀ w', KS w' x rg nr yg ya ly og oa lo tr fa m re th ol sz am fd rc o → LJ Γ Δ A w' Q (C + 3) (S + 21) s x m o i 821) : LJ Γ Δ A w Q C S s x m o i 156 := by
  obtain ⟨hs, Y, O, F, G, ι, H, M, R⟩ := id K
  first | refine J_aload_nr X d_La_law_156 rfl rfl ?_ | refine J_aload_n X d_La_law_156 rfl rfl ?_ | refine J_aload_n0 X d_La_law_156 rfl rfl ?_
  first | refine J_aload_nr X d_La_law_157 rfl rfl ?_ | refine J_aload_n X d_La_law_157 rfl rfl ?_ | refine J_aload_n0 X d_La_law_157 rfl rfl ?_
  refine J_iload X d_La_law_158 rfl ?_
  refine J_iconst (v := 1) X d_La_law_160 (by decide) ?_
  refine J_iadd X d_La_law_161 ?_
  refine J_sald X HS (nI_add i 1) (by omega) hN d_La_law_162 ?_
  first | refine J_aload_nr X d_La_law_163 rfl rfl ?_ | refine J_aload_n X d_La_law_163 rfl rfl ?_ | refine J_aload_n0 X d_La_law_163 rfl rfl ?_
  refine J_iload X d_La_law_164 rfl ?_
  refine J_iconst (v := 2) X d_La_law_166 (by decide) ?_
  refine J_iadd X d_La_law_167 ?_
  refine J_sald X HS (nI_add i 2) (by omega) hN d_La_law_168 ?_
  refine J_callSW X (kl_make (r := f (i + 1)) (v := f (i + 2)) hfl H) cd_La_make lk_La_55 st_La_make (by decide) (by decide) (by first | exact Nat.le_trans (Nat.add_le_add_left (show _ ≤ 3 from by decide) _) hC | exact Nat.le_trans (Nat.add_le_add_left (show _ ≤ 0 from by decide) _) hC | decide) (by first | exact Nat.le_trans (Nat.add_le_add_left (show _ ≤ 21 from by decide) _) hS | exact Nat.le_trans (Nat.add_le_add_left (show _ ≤ 0 from by decide) _) hS | decide) rfl (by first | decide | simp [va_rf_cat, vc_r, vc_i, vc_0]) d_La_law_169 (fun q w1 hq => ?_)
  obtain ⟨k, rfl, hk⟩ := hq
  have hop := fun W' => op_make (W' := W') hs H M R hk
  obtain ⟨⟨B, hB⟩, hfr⟩ := (hop w1).2.1
  refine J_widen (c2 := C + 3) (s2 := S + 21) (Nat.add_le_add_left (by decide) C) (Nat.add_le_add_left (by decide) S) ?_
  refine J_istore X d_La_law_172 (by decide) rfl ?_
  first | refine J_aload_nr X d_La_law_174 rfl rfl ?_ | refine J_aload_n X d_La_law_174 rfl rfl ?_ | refine J_aload_n0 X d_La_law_174 rfl rfl ?_
  first | refine J_aload_nr X d_La_law_175 rfl rfl ?_ | refine J_aload_n X d_La_law_175 rfl rfl ?_ | refine J_aload_n0 X d_La_law_175 rfl rfl ?_
  refine J_iload X d_La_law_176 rfl ?_
  refine J_iconst (v := 1) X d_La_law_178 (by decide) ?_
  refine J_iadd X d_La_law_179 ?_
  refine J_sald X HS (nI_add i 1) (by omega) hN d_La_law_180 ?_
  first | refine J_aload_nr X d_La_law_181 rfl rfl ?_ | refine J_aload_n X d_La_law_181 rfl rfl ?_ | refine J_aload_n0 X d_La_law_181 rfl rfl ?_
  refine J_iload X d_La_law_182 rfl ?_
  refine J_iconst (v := 2) X d_La_law_184 (by decide) ?_
  refine J_iadd X d_La_law_185 ?_
  refine J_sald X HS (nI_add i 2) (by omega) hN d_La_law_186 ?_
  refine J_callV X (hB.1.1) rfl (km_make (r := f (i + 1)) (v := f (i + 2)) hB hfr) cd_Mo_make lk_La_58 vi_Mo_make (by decide) (by decide) (by first | exact Nat.le_trans (Nat.add_le_add_left (show _ ≤ 3 from by decide) _) hC | exact Nat.le_trans (Nat.add_le_add_left (show _ ≤ 0 from by decide) _) hC | decide) (by first | exact Nat.le_trans (Nat.add_le_add_left (show _ ≤ 21 from by decide) _) hS | exact Nat.le_trans (Nat.add_le_add_left (show _ ≤ 0 from by decide) _) hS | decide) rfl (by first | decide | simp [va_rf_cat, vc_r, vc_i, vc_0]) d_La_law_187 (fun q w2 hq => ?_)
  obtain ⟨rfl, hm⟩ := hq
  obtain ⟨e0, K2⟩ := (hop w2).2.2 hm
  first | refine J_aload_nr X d_La_law_190 rfl rfl ?_ | refine J_aload_n X d_La_law_190 rfl rfl ?_ | refine J_aload_n0 X d_La_law_190 rfl rfl ?_
  refine J_callV X (KS_m K2) rfl (k_thrown (KS_m K2)) cd_Mo_thrown lk_La_59 vi_Mo_thrown (by decide) (by decide) (by first | exact Nat.le_trans (Nat.add_le_add_left (show _ ≤ 3 from by decide) _) hC | exact Nat.le_trans (Nat.add_le_add_left (show _ ≤ 0 from by decide) _) hC | decide) (by first | exact Nat.le_trans (Nat.add_le_add_left (show _ ≤ 21 from by decide) _) hS | exact Nat.le_trans (Nat.add_le_add_left (show _ ≤ 0 from by decide) _) hS | decide) rfl (by first | decide | simp [va_rf_cat, vc_r, vc_i, vc_0]) d_La_law_191 (fun q w3 hq => ?_)
  obtain ⟨rfl, hw3⟩ := hq
  refine J_eq hw3 rfl ?_
  refine J_iload X d_La_law_194 rfl ?_
  refine J_icmp_eq (tgt := 201) X d_La_law_196 (by decide) (fun g => ?_) (fun g => ?_)
  · refine J_goto (tgt := 821) X d_La_law_201 (by decide) ?_
    exact J_loc loc7 (kont w2 K2)
  · exact absurd e0 g
set_option maxRecDepth 100000 in
theorem la_weak (hfl : l.stackTraces = false) (X : LX l Γ Δ A) (HS : SC Γ A s N f) (K : KS w x rg nr yg ya ly og oa lo tr fa m re th ol sz am fd rc o) (hi : i + 3 < N) (hN : N < 2 ^ 31) (hC : C + 3 ≤ 601024) (hS : S + 21 ≤ 7293000) (kont : ∀ w', KS w' x rg nr yg ya ly og oa lo tr fa m re th ol sz am fd rc o → LJ Γ Δ A w' Q (C + 3) (S + 21) s x m o i 821) : LJ Γ Δ A w Q C S s x m o i 204 := by
  obtain ⟨hs, Y, O, F, G, ι, H, M, R⟩ := id K
  first | refine J_aload_nr X d_La_law_204 rfl rfl ?_ | refine J_aload_n X d_La_law_204 rfl rfl ?_ | refine J_aload_n0 X d_La_law_204 rfl rfl ?_
  first | refine J_aload_nr X d_La_law_205 rfl rfl ?_ | refine J_aload_n X d_La_law_205 rfl rfl ?_ | refine J_aload_n0 X d_La_law_205 rfl rfl ?_
  refine J_iload X d_La_law_206 rfl ?_
  refine J_iconst (v := 1) X d_La_law_208 (by decide) ?_
  refine J_iadd X d_La_law_209 ?_
  refine J_sald X HS (nI_add i 1) (by omega) hN d_La_law_210 ?_
  first | refine J_aload_nr X d_La_law_211 rfl rfl ?_ | refine J_aload_n X d_La_law_211 rfl rfl ?_ | refine J_aload_n0 X d_La_law_211 rfl rfl ?_
  refine J_iload X d_La_law_212 rfl ?_
  refine J_iconst (v := 2) X d_La_law_214 (by decide) ?_
  refine J_iadd X d_La_law_215 ?_
  refine J_sald X HS (nI_add i 2) (by omega) hN d_La_law_216 ?_
  refine J_callSW X (kl_weak (r := f (i + 1)) (v := f (i + 2)) hfl H) cd_La_weak lk_La_62 st_La_weak (by decide) (by decide) (by first | exact Nat.le_trans (Nat.add_le_add_left (show _ ≤ 3 from by decide) _) hC | exact Nat.le_trans (Nat.add_le_add_left (show _ ≤ 0 from by decide) _) hC | decide) (by first | exact Nat.le_trans (Nat.add_le_add_left (show _ ≤ 21 from by decide) _) hS | exact Nat.le_trans (Nat.add_le_add_left (show _ ≤ 0 from by decide) _) hS | decide) rfl (by first | decide | simp [va_rf_cat, vc_r, vc_i, vc_0]) d_La_law_217 (fun q w1 hq => ?_)
  obtain ⟨k, rfl, hk⟩ := hq
  have hop := fun W' => op_weak (W' := W') hs H M R hk
  obtain ⟨⟨B, hB⟩, hfr⟩ := (hop w1).2.1
  refine J_widen (c2 := C + 3) (s2 := S + 21) (Nat.add_le_add_left (by decide) C) (Nat.add_le_add_left (by decide) S) ?_
  refine J_istore X d_La_law_220 (by decide) rfl ?_
  first | refine J_aload_nr X d_La_law_222 rfl rfl ?_ | refine J_aload_n X d_La_law_222 rfl rfl ?_ | refine J_aload_n0 X d_La_law_222 rfl rfl ?_
  first | refine J_aload_nr X d_La_law_223 rfl rfl ?_ | refine J_aload_n X d_La_law_223 rfl rfl ?_ | refine J_aload_n0 X d_La_law_223 rfl rfl ?_
  refine J_iload X d_La_law_224 rfl ?_
  refine J_iconst (v := 1) X d_La_law_226 (by decide) ?_
  refine J_iadd X d_La_law_227 ?_
  refine J_sald X HS (nI_add i 1) (by omega) hN d_La_law_228 ?_
  first | refine J_aload_nr X d_La_law_229 rfl rfl ?_ | refine J_aload_n X d_La_law_229 rfl rfl ?_ | refine J_aload_n0 X d_La_law_229 rfl rfl ?_
  refine J_iload X d_La_law_230 rfl ?_
  refine J_iconst (v := 2) X d_La_law_232 (by decide) ?_
  refine J_iadd X d_La_law_233 ?_
  refine J_sald X HS (nI_add i 2) (by omega) hN d_La_law_234 ?_
  refine J_callV X (hB.1.1) rfl (km_weak (r := f (i + 1)) (v := f (i + 2)) hB hfr) cd_Mo_weak lk_La_64 vi_Mo_weak (by decide) (by decide) (by first | exact Nat.le_trans (Nat.add_le_add_left (show _ ≤ 3 from by decide) _) hC | exact Nat.le_trans (Nat.add_le_add_left (show _ ≤ 0 from by decide) _) hC | decide) (by first | exact Nat.le_trans (Nat.add_le_add_left (show _ ≤ 21 from by decide) _) hS | exact Nat.le_trans (Nat.add_le_add_left (show _ ≤ 0 from by decide) _) hS | decide) rfl (by first | decide | simp [va_rf_cat, vc_r, vc_i, vc_0]) d_La_law_235 (fun q w2 hq => ?_)
  obtain ⟨rfl, hm⟩ := hq
  obtain ⟨e0, K2⟩ := (hop w2).2.2 hm
  first | refine J_aload_nr X d_La_law_238 rfl rfl ?_ | refine J_aload_n X d_La_law_238 rfl rfl ?_ | refine J_aload_n0 X d_La_law_238 rfl rfl ?_
  refine J_callV X (KS_m K2) rfl (k_thrown (KS_m K2)) cd_Mo_thrown lk_La_59 vi_Mo_thrown (by decide) (by decide) (by first | exact Nat.le_trans (Nat.add_le_add_left (show _ ≤ 3 from by decide) _) hC | exact Nat.le_trans (Nat.add_le_add_left (show _ ≤ 0 from by decide) _) hC | decide) (by first | exact Nat.le_trans (Nat.add_le_add_left (show _ ≤ 21 from by decide) _) hS | exact Nat.le_trans (Nat.add_le_add_left (show _ ≤ 0 from by decide) _) hS | decide) rfl (by first | decide | simp [va_rf_cat, vc_r, vc_i, vc_0]) d_La_law_239 (fun q w3 hq => ?_)
  obtain ⟨rfl, hw3⟩ := hq
  refine J_eq hw3 rfl ?_
  refine J_iload X d_La_law_242 rfl ?_
  refine J_icmp_eq (tgt := 249) X d_La_law_244 (by decide) (fun g => ?_) (fun g => ?_)
  · refine J_goto (tgt := 821) X d_La_law_249 (by decide) ?_
    exact J_loc loc7 (kont w2 K2)
  · exact absurd e0 g
set_option maxRecDepth 100000 in
theorem la_load (hfl : l.stackTraces = false) (X : LX l Γ Δ A) (HS : SC Γ A s N f) (K : KS w x rg nr yg ya ly og oa lo tr fa m re th ol sz am fd rc o) (hi : i + 3 < N) (hN : N < 2 ^ 31) (hC : C + 3 ≤ 601024) (hS : S + 21 ≤ 7293000) (kont : ∀ w', KS w' x rg nr yg ya ly og oa lo tr fa m re th ol sz am fd rc o → LJ Γ Δ A w' Q (C + 3) (S + 21) s x m o i 821) : LJ Γ Δ A w Q C S s x m o i 252 := by
  obtain ⟨hs, Y, O, F, G, ι, H, M, R⟩ := id K
  first | refine J_aload_nr X d_La_law_252 rfl rfl ?_ | refine J_aload_n X d_La_law_252 rfl rfl ?_ | refine J_aload_n0 X d_La_law_252 rfl rfl ?_
  first | refine J_aload_nr X d_La_law_253 rfl rfl ?_ | refine J_aload_n X d_La_law_253 rfl rfl ?_ | refine J_aload_n0 X d_La_law_253 rfl rfl ?_
  refine J_iload X d_La_law_254 rfl ?_
  refine J_iconst (v := 1) X d_La_law_256 (by decide) ?_
  refine J_iadd X d_La_law_257 ?_
  refine J_sald X HS (nI_add i 1) (by omega) hN d_La_law_258 ?_
  first | refine J_aload_nr X d_La_law_259 rfl rfl ?_ | refine J_aload_n X d_La_law_259 rfl rfl ?_ | refine J_aload_n0 X d_La_law_259 rfl rfl ?_
  refine J_iload X d_La_law_260 rfl ?_
  refine J_iconst (v := 2) X d_La_law_262 (by decide) ?_
  refine J_iadd X d_La_law_263 ?_
  refine J_sald X HS (nI_add i 2) (by omega) hN d_La_law_264 ?_
  first | refine J_aload_nr X d_La_law_265 rfl rfl ?_ | refine J_aload_n X d_La_law_265 rfl rfl ?_ | refine J_aload_n0 X d_La_law_265 rfl rfl ?_
  refine J_iload X d_La_law_266 rfl ?_
  refine J_iconst (v := 3) X d_La_law_268 (by decide) ?_
  refine J_iadd X d_La_law_269 ?_
  refine J_sald X HS (nI_add i 3) (by omega) hN d_La_law_270 ?_
  refine J_callSW X (kl_load (r := f (i + 1)) (r2 := f (i + 2)) (r3 := f (i + 3)) hfl H) cd_La_load lk_La_65 st_La_load (by decide) (by decide) (by first | exact Nat.le_trans (Nat.add_le_add_left (show _ ≤ 3 from by decide) _) hC | exact Nat.le_trans (Nat.add_le_add_left (show _ ≤ 0 from by decide) _) hC | decide) (by first | exact Nat.le_trans (Nat.add_le_add_left (show _ ≤ 21 from by decide) _) hS | exact Nat.le_trans (Nat.add_le_add_left (show _ ≤ 0 from by decide) _) hS | decide) rfl (by first | decide | simp [va_rf_cat, vc_r, vc_i, vc_0]) d_La_law_271 (fun q w1 hq => ?_)
  obtain ⟨k, rfl, hk⟩ := hq
  have hFC : FrC w w1 := fr_load H.1.1.2.2.1 hk
  obtain ⟨B, hB⟩ := KS_pre K hFC
  refine J_widen (c2 := C + 3) (s2 := S + 21) (Nat.add_le_add_left (by decide) C) (Nat.add_le_add_left (by decide) S) ?_
  refine J_istore X d_La_law_274 (by decide) rfl ?_
  first | refine J_aload_nr X d_La_law_276 rfl rfl ?_ | refine J_aload_n X d_La_law_276 rfl rfl ?_ | refine J_aload_n0 X d_La_law_276 rfl rfl ?_
  first | refine J_aload_nr X d_La_law_277 rfl rfl ?_ | refine J_aload_n X d_La_law_277 rfl rfl ?_ | refine J_aload_n0 X d_La_law_277 rfl rfl ?_
  refine J_iload X d_La_law_278 rfl ?_
  refine J_iconst (v := 1) X d_La_law_280 (by decide) ?_
  refine J_iadd X d_La_law_281 ?_
  refine J_sald X HS (nI_add i 1) (by omega) hN d_La_law_282 ?_
  first | refine J_aload_nr X d_La_law_283 rfl rfl ?_ | refine J_aload_n X d_La_law_283 rfl rfl ?_ | refine J_aload_n0 X d_La_law_283 rfl rfl ?_
  refine J_iload X d_La_law_284 rfl ?_
  refine J_iconst (v := 2) X d_La_law_286 (by decide) ?_
  refine J_iadd X d_La_law_287 ?_
  refine J_sald X HS (nI_add i 2) (by omega) hN d_La_law_288 ?_
  first | refine J_aload_nr X d_La_law_289 rfl rfl ?_ | refine J_aload_n X d_La_law_289 rfl rfl ?_ | refine J_aload_n0 X d_La_law_289 rfl rfl ?_
  refine J_iload X d_La_law_290 rfl ?_
  refine J_iconst (v := 3) X d_La_law_292 (by decide) ?_
  refine J_iadd X d_La_law_293 ?_
  refine J_sald X HS (nI_add i 3) (by omega) hN d_La_law_294 ?_
  refine J_callV X (hB.1.1) rfl (km_load (r := f (i + 1)) (r2 := f (i + 2)) (r3 := f (i + 3)) hB) cd_Mo_load lk_La_68 vi_Mo_load (by decide) (by decide) (by first | exact Nat.le_trans (Nat.add_le_add_left (show _ ≤ 3 from by decide) _) hC | exact Nat.le_trans (Nat.add_le_add_left (show _ ≤ 0 from by decide) _) hC | decide) (by first | exact Nat.le_trans (Nat.add_le_add_left (show _ ≤ 21 from by decide) _) hS | exact Nat.le_trans (Nat.add_le_add_left (show _ ≤ 0 from by decide) _) hS | decide) rfl (by first | decide | simp [va_rf_cat, vc_r, vc_i, vc_0]) d_La_law_295 (fun q w2 hq => ?_)
  obtain ⟨rfl, hm⟩ := hq
  obtain ⟨e0, K2⟩ := op_load K hk hm
  first | refine J_aload_nr X d_La_law_298 rfl rfl ?_ | refine J_aload_n X d_La_law_298 rfl rfl ?_ | refine J_aload_n0 X d_La_law_298 rfl rfl ?_
  refine J_callV X (KS_m K2) rfl (k_thrown (KS_m K2)) cd_Mo_thrown lk_La_59 vi_Mo_thrown (by decide) (by decide) (by first | exact Nat.le_trans (Nat.add_le_add_left (show _ ≤ 3 from by decide) _) hC | exact Nat.le_trans (Nat.add_le_add_left (show _ ≤ 0 from by decide) _) hC | decide) (by first | exact Nat.le_trans (Nat.add_le_add_left (show _ ≤ 21 from by decide) _) hS | exact Nat.le_trans (Nat.add_le_add_left (show _ ≤ 0 from by decide) _) hS | decide) rfl (by first | decide | simp [va_rf_cat, vc_r, vc_i, vc_0]) d_La_law_299 (fun q w3 hq => ?_)
  obtain ⟨rfl, hw3⟩ := hq
  refine J_eq hw3 rfl ?_
  refine J_iload X d_La_law_302 rfl ?_
  refine J_icmp_eq (tgt := 309) X d_La_law_304 (by decide) (fun g => ?_) (fun g => ?_)
  · refine J_goto (tgt := 821) X d_La_law_309 (by decide) ?_
    exact J_loc loc7 (kont w2 K2)
  · exact absurd e0 g
set_option maxRecDepth 100000 in
theorem la_store (hfl : l.stackTraces = false) (X : LX l Γ Δ A) (HS : SC Γ A s N f) (K : KS w x rg nr yg ya ly og oa lo tr fa m re th ol sz am fd rc o) (hi : i + 3 < N) (hN : N < 2 ^ 31) (hC : C + 3 ≤ 601024) (hS : S + 21 ≤ 7293000) (kont : ∀ w', KS w' x rg nr yg ya ly og oa lo tr fa m re th ol sz am fd rc o → LJ Γ Δ A w' Q (C + 3) (S + 21) s x m o i 821) : LJ Γ Δ A w Q C S s x m o i 312 := by
  obtain ⟨hs, Y, O, F, G, ι, H, M, R⟩ := id K
  first | refine J_aload_nr X d_La_law_312 rfl rfl ?_ | refine J_aload_n X d_La_law_312 rfl rfl ?_ | refine J_aload_n0 X d_La_law_312 rfl rfl ?_
  first | refine J_aload_nr X d_La_law_313 rfl rfl ?_ | refine J_aload_n X d_La_law_313 rfl rfl ?_ | refine J_aload_n0 X d_La_law_313 rfl rfl ?_
  refine J_iload X d_La_law_314 rfl ?_
  refine J_iconst (v := 1) X d_La_law_316 (by decide) ?_
  refine J_iadd X d_La_law_317 ?_
  refine J_sald X HS (nI_add i 1) (by omega) hN d_La_law_318 ?_
  first | refine J_aload_nr X d_La_law_319 rfl rfl ?_ | refine J_aload_n X d_La_law_319 rfl rfl ?_ | refine J_aload_n0 X d_La_law_319 rfl rfl ?_
  refine J_iload X d_La_law_320 rfl ?_
  refine J_iconst (v := 2) X d_La_law_322 (by decide) ?_
  refine J_iadd X d_La_law_323 ?_
  refine J_sald X HS (nI_add i 2) (by omega) hN d_La_law_324 ?_
  first | refine J_aload_nr X d_La_law_325 rfl rfl ?_ | refine J_aload_n X d_La_law_325 rfl rfl ?_ | refine J_aload_n0 X d_La_law_325 rfl rfl ?_
  refine J_iload X d_La_law_326 rfl ?_
  refine J_iconst (v := 3) X d_La_law_328 (by decide) ?_
  refine J_iadd X d_La_law_329 ?_
  refine J_sald X HS (nI_add i 3) (by omega) hN d_La_law_330 ?_
  refine J_callSW X (kl_store (r := f (i + 1)) (r2 := f (i + 2)) (r3 := f (i + 3)) hfl H) cd_La_store lk_La_69 st_La_store (by decide) (by decide) (by first | exact Nat.le_trans (Nat.add_le_add_left (show _ ≤ 3 from by decide) _) hC | exact Nat.le_trans (Nat.add_le_add_left (show _ ≤ 0 from by decide) _) hC | decide) (by first | exact Nat.le_trans (Nat.add_le_add_left (show _ ≤ 21 from by decide) _) hS | exact Nat.le_trans (Nat.add_le_add_left (show _ ≤ 0 from by decide) _) hS | decide) rfl (by first | decide | simp [va_rf_cat, vc_r, vc_i, vc_0]) d_La_law_331 (fun q w1 hq => ?_)
  obtain ⟨k, rfl, hk⟩ := hq
  have hFC : FrC w w1 := fr_store hk
  obtain ⟨B, hB⟩ := KS_pre K hFC
  refine J_widen (c2 := C + 3) (s2 := S + 21) (Nat.add_le_add_left (by decide) C) (Nat.add_le_add_left (by decide) S) ?_
  refine J_istore X d_La_law_334 (by decide) rfl ?_
  first | refine J_aload_nr X d_La_law_336 rfl rfl ?_ | refine J_aload_n X d_La_law_336 rfl rfl ?_ | refine J_aload_n0 X d_La_law_336 rfl rfl ?_
  first | refine J_aload_nr X d_La_law_337 rfl rfl ?_ | refine J_aload_n X d_La_law_337 rfl rfl ?_ | refine J_aload_n0 X d_La_law_337 rfl rfl ?_
  refine J_iload X d_La_law_338 rfl ?_
  refine J_iconst (v := 1) X d_La_law_340 (by decide) ?_
  refine J_iadd X d_La_law_341 ?_
  refine J_sald X HS (nI_add i 1) (by omega) hN d_La_law_342 ?_
  first | refine J_aload_nr X d_La_law_343 rfl rfl ?_ | refine J_aload_n X d_La_law_343 rfl rfl ?_ | refine J_aload_n0 X d_La_law_343 rfl rfl ?_
  refine J_iload X d_La_law_344 rfl ?_
  refine J_iconst (v := 2) X d_La_law_346 (by decide) ?_
  refine J_iadd X d_La_law_347 ?_
  refine J_sald X HS (nI_add i 2) (by omega) hN d_La_law_348 ?_
  first | refine J_aload_nr X d_La_law_349 rfl rfl ?_ | refine J_aload_n X d_La_law_349 rfl rfl ?_ | refine J_aload_n0 X d_La_law_349 rfl rfl ?_
  refine J_iload X d_La_law_350 rfl ?_
  refine J_iconst (v := 3) X d_La_law_352 (by decide) ?_
  refine J_iadd X d_La_law_353 ?_
  refine J_sald X HS (nI_add i 3) (by omega) hN d_La_law_354 ?_
  refine J_callV X (hB.1.1) rfl (km_store (r := f (i + 1)) (r2 := f (i + 2)) (r3 := f (i + 3)) hB) cd_Mo_store lk_La_71 vi_Mo_store (by decide) (by decide) (by first | exact Nat.le_trans (Nat.add_le_add_left (show _ ≤ 3 from by decide) _) hC | exact Nat.le_trans (Nat.add_le_add_left (show _ ≤ 0 from by decide) _) hC | decide) (by first | exact Nat.le_trans (Nat.add_le_add_left (show _ ≤ 21 from by decide) _) hS | exact Nat.le_trans (Nat.add_le_add_left (show _ ≤ 0 from by decide) _) hS | decide) rfl (by first | decide | simp [va_rf_cat, vc_r, vc_i, vc_0]) d_La_law_355 (fun q w2 hq => ?_)
  obtain ⟨rfl, hm⟩ := hq
  obtain ⟨e0, K2⟩ := op_store K hk hm
  first | refine J_aload_nr X d_La_law_358 rfl rfl ?_ | refine J_aload_n X d_La_law_358 rfl rfl ?_ | refine J_aload_n0 X d_La_law_358 rfl rfl ?_
  refine J_callV X (KS_m K2) rfl (k_thrown (KS_m K2)) cd_Mo_thrown lk_La_59 vi_Mo_thrown (by decide) (by decide) (by first | exact Nat.le_trans (Nat.add_le_add_left (show _ ≤ 3 from by decide) _) hC | exact Nat.le_trans (Nat.add_le_add_left (show _ ≤ 0 from by decide) _) hC | decide) (by first | exact Nat.le_trans (Nat.add_le_add_left (show _ ≤ 21 from by decide) _) hS | exact Nat.le_trans (Nat.add_le_add_left (show _ ≤ 0 from by decide) _) hS | decide) rfl (by first | decide | simp [va_rf_cat, vc_r, vc_i, vc_0]) d_La_law_359 (fun q w3 hq => ?_)
  obtain ⟨rfl, hw3⟩ := hq
  refine J_eq hw3 rfl ?_
  refine J_iload X d_La_law_362 rfl ?_
  refine J_icmp_eq (tgt := 369) X d_La_law_364 (by decide) (fun g => ?_) (fun g => ?_)
  · refine J_goto (tgt := 821) X d_La_law_369 (by decide) ?_
    exact J_loc loc7 (kont w2 K2)
  · exact absurd e0 g
set_option maxRecDepth 100000 in
theorem la_target (hfl : l.stackTraces = false) (X : LX l Γ Δ A) (HS : SC Γ A s N f) (K : KS w x rg nr yg ya ly og oa lo tr fa m re th ol sz am fd rc o) (hi : i + 3 < N) (hN : N < 2 ^ 31) (hC : C + 3 ≤ 601024) (hS : S + 21 ≤ 7293000) (kont : ∀ w', KS w' x rg nr yg ya ly og oa lo tr fa m re th ol sz am fd rc o → LJ Γ Δ A w' Q (C + 3) (S + 21) s x m o i 821) : LJ Γ Δ A w Q C S s x m o i 372 := by
  obtain ⟨hs, Y, O, F, G, ι, H, M, R⟩ := id K
  first | refine J_aload_nr X d_La_law_372 rfl rfl ?_ | refine J_aload_n X d_La_law_372 rfl rfl ?_ | refine J_aload_n0 X d_La_law_372 rfl rfl ?_
  first | refine J_aload_nr X d_La_law_373 rfl rfl ?_ | refine J_aload_n X d_La_law_373 rfl rfl ?_ | refine J_aload_n0 X d_La_law_373 rfl rfl ?_
  refine J_iload X d_La_law_374 rfl ?_
  refine J_iconst (v := 1) X d_La_law_376 (by decide) ?_
  refine J_iadd X d_La_law_377 ?_
  refine J_sald X HS (nI_add i 1) (by omega) hN d_La_law_378 ?_
  first | refine J_aload_nr X d_La_law_379 rfl rfl ?_ | refine J_aload_n X d_La_law_379 rfl rfl ?_ | refine J_aload_n0 X d_La_law_379 rfl rfl ?_
  refine J_iload X d_La_law_380 rfl ?_
  refine J_iconst (v := 2) X d_La_law_382 (by decide) ?_
  refine J_iadd X d_La_law_383 ?_
  refine J_sald X HS (nI_add i 2) (by omega) hN d_La_law_384 ?_
  refine J_callSW X (kl_target (r := f (i + 1)) (r2 := f (i + 2)) hfl H) cd_La_target lk_La_72 st_La_target (by decide) (by decide) (by first | exact Nat.le_trans (Nat.add_le_add_left (show _ ≤ 3 from by decide) _) hC | exact Nat.le_trans (Nat.add_le_add_left (show _ ≤ 0 from by decide) _) hC | decide) (by first | exact Nat.le_trans (Nat.add_le_add_left (show _ ≤ 21 from by decide) _) hS | exact Nat.le_trans (Nat.add_le_add_left (show _ ≤ 0 from by decide) _) hS | decide) rfl (by first | decide | simp [va_rf_cat, vc_r, vc_i, vc_0]) d_La_law_385 (fun q w1 hq => ?_)
  obtain ⟨k, rfl, hk⟩ := hq
  have hFC : FrC w w1 := fr_target H.1.1.2.2.1 hk
  obtain ⟨B, hB⟩ := KS_pre K hFC
  refine J_widen (c2 := C + 3) (s2 := S + 21) (Nat.add_le_add_left (by decide) C) (Nat.add_le_add_left (by decide) S) ?_
  refine J_istore X d_La_law_388 (by decide) rfl ?_
  first | refine J_aload_nr X d_La_law_390 rfl rfl ?_ | refine J_aload_n X d_La_law_390 rfl rfl ?_ | refine J_aload_n0 X d_La_law_390 rfl rfl ?_
  first | refine J_aload_nr X d_La_law_391 rfl rfl ?_ | refine J_aload_n X d_La_law_391 rfl rfl ?_ | refine J_aload_n0 X d_La_law_391 rfl rfl ?_
  refine J_iload X d_La_law_392 rfl ?_
  refine J_iconst (v := 1) X d_La_law_394 (by decide) ?_
  refine J_iadd X d_La_law_395 ?_
  refine J_sald X HS (nI_add i 1) (by omega) hN d_La_law_396 ?_
  first | refine J_aload_nr X d_La_law_397 rfl rfl ?_ | refine J_aload_n X d_La_law_397 rfl rfl ?_ | refine J_aload_n0 X d_La_law_397 rfl rfl ?_
  refine J_iload X d_La_law_398 rfl ?_
  refine J_iconst (v := 2) X d_La_law_400 (by decide) ?_
  refine J_iadd X d_La_law_401 ?_
  refine J_sald X HS (nI_add i 2) (by omega) hN d_La_law_402 ?_
  refine J_callV X (hB.1.1) rfl (km_target (r := f (i + 1)) (r2 := f (i + 2)) hB) cd_Mo_target lk_La_74 vi_Mo_target (by decide) (by decide) (by first | exact Nat.le_trans (Nat.add_le_add_left (show _ ≤ 3 from by decide) _) hC | exact Nat.le_trans (Nat.add_le_add_left (show _ ≤ 0 from by decide) _) hC | decide) (by first | exact Nat.le_trans (Nat.add_le_add_left (show _ ≤ 21 from by decide) _) hS | exact Nat.le_trans (Nat.add_le_add_left (show _ ≤ 0 from by decide) _) hS | decide) rfl (by first | decide | simp [va_rf_cat, vc_r, vc_i, vc_0]) d_La_law_403 (fun q w2 hq => ?_)
  obtain ⟨rfl, hm⟩ := hq
  obtain ⟨e0, K2⟩ := op_target K hk hm
  first | refine J_aload_nr X d_La_law_406 rfl rfl ?_ | refine J_aload_n X d_La_law_406 rfl rfl ?_ | refine J_aload_n0 X d_La_law_406 rfl rfl ?_
  refine J_callV X (KS_m K2) rfl (k_thrown (KS_m K2)) cd_Mo_thrown lk_La_59 vi_Mo_thrown (by decide) (by decide) (by first | exact Nat.le_trans (Nat.add_le_add_left (show _ ≤ 3 from by decide) _) hC | exact Nat.le_trans (Nat.add_le_add_left (show _ ≤ 0 from by decide) _) hC | decide) (by first | exact Nat.le_trans (Nat.add_le_add_left (show _ ≤ 21 from by decide) _) hS | exact Nat.le_trans (Nat.add_le_add_left (show _ ≤ 0 from by decide) _) hS | decide) rfl (by first | decide | simp [va_rf_cat, vc_r, vc_i, vc_0]) d_La_law_407 (fun q w3 hq => ?_)
  obtain ⟨rfl, hw3⟩ := hq
  refine J_eq hw3 rfl ?_
  refine J_iload X d_La_law_410 rfl ?_
  refine J_icmp_eq (tgt := 417) X d_La_law_412 (by decide) (fun g => ?_) (fun g => ?_)
  · refine J_goto (tgt := 821) X d_La_law_417 (by decide) ?_
    exact J_loc loc7 (kont w2 K2)
  · exact absurd e0 g
set_option maxRecDepth 100000 in
theorem la_number (hfl : l.stackTraces = false) (X : LX l Γ Δ A) (HS : SC Γ A s N f) (K : KS w x rg nr yg ya ly og oa lo tr fa m re th ol sz am fd rc o) (hi : i + 3 < N) (hN : N < 2 ^ 31) (hC : C + 3 ≤ 601024) (hS : S + 21 ≤ 7293000) (kont : ∀ w', KS w' x rg nr yg ya ly og oa lo tr fa m re th ol sz am fd rc o → LJ Γ Δ A w' Q (C + 3) (S + 21) s x m o i 821) : LJ Γ Δ A w Q C S s x m o i 420 := by
  obtain ⟨hs, Y, O, F, G, ι, H, M, R⟩ := id K
  first | refine J_aload_nr X d_La_law_420 rfl rfl ?_ | refine J_aload_n X d_La_law_420 rfl rfl ?_ | refine J_aload_n0 X d_La_law_420 rfl rfl ?_
  first | refine J_aload_nr X d_La_law_421 rfl rfl ?_ | refine J_aload_n X d_La_law_421 rfl rfl ?_ | refine J_aload_n0 X d_La_law_421 rfl rfl ?_
  refine J_iload X d_La_law_422 rfl ?_
  refine J_iconst (v := 1) X d_La_law_424 (by decide) ?_
  refine J_iadd X d_La_law_425 ?_
  refine J_sald X HS (nI_add i 1) (by omega) hN d_La_law_426 ?_
  first | refine J_aload_nr X d_La_law_427 rfl rfl ?_ | refine J_aload_n X d_La_law_427 rfl rfl ?_ | refine J_aload_n0 X d_La_law_427 rfl rfl ?_
  refine J_iload X d_La_law_428 rfl ?_
  refine J_iconst (v := 2) X d_La_law_430 (by decide) ?_
  refine J_iadd X d_La_law_431 ?_
  refine J_sald X HS (nI_add i 2) (by omega) hN d_La_law_432 ?_
  refine J_callSW X (kl_number (r := f (i + 1)) (v := f (i + 2)) hfl H) cd_La_number lk_La_75 st_La_number (by decide) (by decide) (by first | exact Nat.le_trans (Nat.add_le_add_left (show _ ≤ 3 from by decide) _) hC | exact Nat.le_trans (Nat.add_le_add_left (show _ ≤ 0 from by decide) _) hC | decide) (by first | exact Nat.le_trans (Nat.add_le_add_left (show _ ≤ 21 from by decide) _) hS | exact Nat.le_trans (Nat.add_le_add_left (show _ ≤ 0 from by decide) _) hS | decide) rfl (by first | decide | simp [va_rf_cat, vc_r, vc_i, vc_0]) d_La_law_433 (fun q w1 hq => ?_)
  obtain ⟨k, rfl, hk⟩ := hq
  have hFC : FrC w w1 := fr_number H.1.1.2.2.1 hk
  obtain ⟨B, hB⟩ := KS_pre K hFC
  refine J_widen (c2 := C + 3) (s2 := S + 21) (Nat.add_le_add_left (by decide) C) (Nat.add_le_add_left (by decide) S) ?_
  refine J_istore X d_La_law_436 (by decide) rfl ?_
  first | refine J_aload_nr X d_La_law_438 rfl rfl ?_ | refine J_aload_n X d_La_law_438 rfl rfl ?_ | refine J_aload_n0 X d_La_law_438 rfl rfl ?_
  first | refine J_aload_nr X d_La_law_439 rfl rfl ?_ | refine J_aload_n X d_La_law_439 rfl rfl ?_ | refine J_aload_n0 X d_La_law_439 rfl rfl ?_
  refine J_iload X d_La_law_440 rfl ?_
  refine J_iconst (v := 1) X d_La_law_442 (by decide) ?_
  refine J_iadd X d_La_law_443 ?_
  refine J_sald X HS (nI_add i 1) (by omega) hN d_La_law_444 ?_
  first | refine J_aload_nr X d_La_law_445 rfl rfl ?_ | refine J_aload_n X d_La_law_445 rfl rfl ?_ | refine J_aload_n0 X d_La_law_445 rfl rfl ?_
  refine J_iload X d_La_law_446 rfl ?_
  refine J_iconst (v := 2) X d_La_law_448 (by decide) ?_
  refine J_iadd X d_La_law_449 ?_
  refine J_sald X HS (nI_add i 2) (by omega) hN d_La_law_450 ?_
  refine J_callV X (hB.1.1) rfl (km_number (r := f (i + 1)) (v := f (i + 2)) hB.1) cd_Mo_number lk_La_77 vi_Mo_number (by decide) (by decide) (by first | exact Nat.le_trans (Nat.add_le_add_left (show _ ≤ 3 from by decide) _) hC | exact Nat.le_trans (Nat.add_le_add_left (show _ ≤ 0 from by decide) _) hC | decide) (by first | exact Nat.le_trans (Nat.add_le_add_left (show _ ≤ 21 from by decide) _) hS | exact Nat.le_trans (Nat.add_le_add_left (show _ ≤ 0 from by decide) _) hS | decide) rfl (by first | decide | simp [va_rf_cat, vc_r, vc_i, vc_0]) d_La_law_451 (fun q w2 hq => ?_)
  obtain ⟨rfl, hm⟩ := hq
  obtain ⟨e0, K2⟩ := op_number K hk hm
  first | refine J_aload_nr X d_La_law_454 rfl rfl ?_ | refine J_aload_n X d_La_law_454 rfl rfl ?_ | refine J_aload_n0 X d_La_law_454 rfl rfl ?_
  refine J_callV X (KS_m K2) rfl (k_thrown (KS_m K2)) cd_Mo_thrown lk_La_59 vi_Mo_thrown (by decide) (by decide) (by first | exact Nat.le_trans (Nat.add_le_add_left (show _ ≤ 3 from by decide) _) hC | exact Nat.le_trans (Nat.add_le_add_left (show _ ≤ 0 from by decide) _) hC | decide) (by first | exact Nat.le_trans (Nat.add_le_add_left (show _ ≤ 21 from by decide) _) hS | exact Nat.le_trans (Nat.add_le_add_left (show _ ≤ 0 from by decide) _) hS | decide) rfl (by first | decide | simp [va_rf_cat, vc_r, vc_i, vc_0]) d_La_law_455 (fun q w3 hq => ?_)
  obtain ⟨rfl, hw3⟩ := hq
  refine J_eq hw3 rfl ?_
  refine J_iload X d_La_law_458 rfl ?_
  refine J_icmp_eq (tgt := 465) X d_La_law_460 (by decide) (fun g => ?_) (fun g => ?_)
  · refine J_goto (tgt := 821) X d_La_law_465 (by decide) ?_
    exact J_loc loc7 (kont w2 K2)
  · exact absurd e0 g
set_option maxRecDepth 100000 in
theorem la_clear (hfl : l.stackTraces = false) (X : LX l Γ Δ A) (HS : SC Γ A s N f) (K : KS w x rg nr yg ya ly og oa lo tr fa m re th ol sz am fd rc o) (hi : i + 3 < N) (hN : N < 2 ^ 31) (hC : C + 3 ≤ 601024) (hS : S + 21 ≤ 7293000) (kont : ∀ w', KS w' x rg nr yg ya ly og oa lo tr fa m re th ol sz am fd rc o → LJ Γ Δ A w' Q (C + 3) (S + 21) s x m o i 821) : LJ Γ Δ A w Q C S s x m o i 468 := by
  obtain ⟨hs, Y, O, F, G, ι, H, M, R⟩ := id K
  first | refine J_aload_nr X d_La_law_468 rfl rfl ?_ | refine J_aload_n X d_La_law_468 rfl rfl ?_ | refine J_aload_n0 X d_La_law_468 rfl rfl ?_
  first | refine J_aload_nr X d_La_law_469 rfl rfl ?_ | refine J_aload_n X d_La_law_469 rfl rfl ?_ | refine J_aload_n0 X d_La_law_469 rfl rfl ?_
  refine J_iload X d_La_law_470 rfl ?_
  refine J_iconst (v := 1) X d_La_law_472 (by decide) ?_
  refine J_iadd X d_La_law_473 ?_
  refine J_sald X HS (nI_add i 1) (by omega) hN d_La_law_474 ?_
  refine J_callSW X (kl_clear (r := f (i + 1)) hfl H) cd_La_clear lk_La_78 st_La_clear (by decide) (by decide) (by first | exact Nat.le_trans (Nat.add_le_add_left (show _ ≤ 3 from by decide) _) hC | exact Nat.le_trans (Nat.add_le_add_left (show _ ≤ 0 from by decide) _) hC | decide) (by first | exact Nat.le_trans (Nat.add_le_add_left (show _ ≤ 21 from by decide) _) hS | exact Nat.le_trans (Nat.add_le_add_left (show _ ≤ 0 from by decide) _) hS | decide) rfl (by first | decide | simp [va_rf_cat, vc_r, vc_i, vc_0]) d_La_law_475 (fun q w1 hq => ?_)
  obtain ⟨k, rfl, hk⟩ := hq
  have hFC : FrC w w1 := fr_clear H.1.1.2.2.1 hk
  obtain ⟨B, hB⟩ := KS_pre K hFC
  refine J_widen (c2 := C + 3) (s2 := S + 21) (Nat.add_le_add_left (by decide) C) (Nat.add_le_add_left (by decide) S) ?_
  refine J_istore X d_La_law_478 (by decide) rfl ?_
  first | refine J_aload_nr X d_La_law_480 rfl rfl ?_ | refine J_aload_n X d_La_law_480 rfl rfl ?_ | refine J_aload_n0 X d_La_law_480 rfl rfl ?_
  first | refine J_aload_nr X d_La_law_481 rfl rfl ?_ | refine J_aload_n X d_La_law_481 rfl rfl ?_ | refine J_aload_n0 X d_La_law_481 rfl rfl ?_
  refine J_iload X d_La_law_482 rfl ?_
  refine J_iconst (v := 1) X d_La_law_484 (by decide) ?_
  refine J_iadd X d_La_law_485 ?_
  refine J_sald X HS (nI_add i 1) (by omega) hN d_La_law_486 ?_
  refine J_callV X (hB.1.1) rfl (km_clear (r := f (i + 1)) hB.1) cd_Mo_clear lk_La_81 vi_Mo_clear (by decide) (by decide) (by first | exact Nat.le_trans (Nat.add_le_add_left (show _ ≤ 3 from by decide) _) hC | exact Nat.le_trans (Nat.add_le_add_left (show _ ≤ 0 from by decide) _) hC | decide) (by first | exact Nat.le_trans (Nat.add_le_add_left (show _ ≤ 21 from by decide) _) hS | exact Nat.le_trans (Nat.add_le_add_left (show _ ≤ 0 from by decide) _) hS | decide) rfl (by first | decide | simp [va_rf_cat, vc_r, vc_i, vc_0]) d_La_law_487 (fun q w2 hq => ?_)
  obtain ⟨rfl, hm⟩ := hq
  obtain ⟨e0, K2⟩ := op_clear K hk hm
  first | refine J_aload_nr X d_La_law_490 rfl rfl ?_ | refine J_aload_n X d_La_law_490 rfl rfl ?_ | refine J_aload_n0 X d_La_law_490 rfl rfl ?_
  refine J_callV X (KS_m K2) rfl (k_thrown (KS_m K2)) cd_Mo_thrown lk_La_59 vi_Mo_thrown (by decide) (by decide) (by first | exact Nat.le_trans (Nat.add_le_add_left (show _ ≤ 3 from by decide) _) hC | exact Nat.le_trans (Nat.add_le_add_left (show _ ≤ 0 from by decide) _) hC | decide) (by first | exact Nat.le_trans (Nat.add_le_add_left (show _ ≤ 21 from by decide) _) hS | exact Nat.le_trans (Nat.add_le_add_left (show _ ≤ 0 from by decide) _) hS | decide) rfl (by first | decide | simp [va_rf_cat, vc_r, vc_i, vc_0]) d_La_law_491 (fun q w3 hq => ?_)
  obtain ⟨rfl, hw3⟩ := hq
  refine J_eq hw3 rfl ?_
  refine J_iload X d_La_law_494 rfl ?_
  refine J_icmp_eq (tgt := 501) X d_La_law_496 (by decide) (fun g => ?_) (fun g => ?_)
  · refine J_goto (tgt := 821) X d_La_law_501 (by decide) ?_
    exact J_loc loc7 (kont w2 K2)
  · exact absurd e0 g
set_option maxRecDepth 100000 in
theorem la_move (hfl : l.stackTraces = false) (X : LX l Γ Δ A) (HS : SC Γ A s N f) (K : KS w x rg nr yg ya ly og oa lo tr fa m re th ol sz am fd rc o) (hi : i + 3 < N) (hN : N < 2 ^ 31) (hC : C + 3 ≤ 601024) (hS : S + 21 ≤ 7293000) (kont : ∀ w', KS w' x rg nr yg ya ly og oa lo tr fa m re th ol sz am fd rc o → LJ Γ Δ A w' Q (C + 3) (S + 21) s x m o i 821) : LJ Γ Δ A w Q C S s x m o i 504 := by
  obtain ⟨hs, Y, O, F, G, ι, H, M, R⟩ := id K
  first | refine J_aload_nr X d_La_law_504 rfl rfl ?_ | refine J_aload_n X d_La_law_504 rfl rfl ?_ | refine J_aload_n0 X d_La_law_504 rfl rfl ?_
  first | refine J_aload_nr X d_La_law_505 rfl rfl ?_ | refine J_aload_n X d_La_law_505 rfl rfl ?_ | refine J_aload_n0 X d_La_law_505 rfl rfl ?_
  refine J_iload X d_La_law_506 rfl ?_
  refine J_iconst (v := 1) X d_La_law_508 (by decide) ?_
  refine J_iadd X d_La_law_509 ?_
  refine J_sald X HS (nI_add i 1) (by omega) hN d_La_law_510 ?_
  first | refine J_aload_nr X d_La_law_511 rfl rfl ?_ | refine J_aload_n X d_La_law_511 rfl rfl ?_ | refine J_aload_n0 X d_La_law_511 rfl rfl ?_
  refine J_iload X d_La_law_512 rfl ?_
  refine J_iconst (v := 2) X d_La_law_514 (by decide) ?_
  refine J_iadd X d_La_law_515 ?_
  refine J_sald X HS (nI_add i 2) (by omega) hN d_La_law_516 ?_
  refine J_callSW X (kl_move (r := f (i + 1)) (r2 := f (i + 2)) hfl H) cd_La_move lk_La_82 st_La_move (by decide) (by decide) (by first | exact Nat.le_trans (Nat.add_le_add_left (show _ ≤ 3 from by decide) _) hC | exact Nat.le_trans (Nat.add_le_add_left (show _ ≤ 0 from by decide) _) hC | decide) (by first | exact Nat.le_trans (Nat.add_le_add_left (show _ ≤ 21 from by decide) _) hS | exact Nat.le_trans (Nat.add_le_add_left (show _ ≤ 0 from by decide) _) hS | decide) rfl (by first | decide | simp [va_rf_cat, vc_r, vc_i, vc_0]) d_La_law_517 (fun q w1 hq => ?_)
  obtain ⟨k, rfl, hk⟩ := hq
  have hFC : FrC w w1 := fr_move H.1.1.2.2.1 hk
  obtain ⟨B, hB⟩ := KS_pre K hFC
  refine J_widen (c2 := C + 3) (s2 := S + 21) (Nat.add_le_add_left (by decide) C) (Nat.add_le_add_left (by decide) S) ?_
  refine J_istore X d_La_law_520 (by decide) rfl ?_
  first | refine J_aload_nr X d_La_law_522 rfl rfl ?_ | refine J_aload_n X d_La_law_522 rfl rfl ?_ | refine J_aload_n0 X d_La_law_522 rfl rfl ?_
  first | refine J_aload_nr X d_La_law_523 rfl rfl ?_ | refine J_aload_n X d_La_law_523 rfl rfl ?_ | refine J_aload_n0 X d_La_law_523 rfl rfl ?_
  refine J_iload X d_La_law_524 rfl ?_
  refine J_iconst (v := 1) X d_La_law_526 (by decide) ?_
  refine J_iadd X d_La_law_527 ?_
  refine J_sald X HS (nI_add i 1) (by omega) hN d_La_law_528 ?_
  first | refine J_aload_nr X d_La_law_529 rfl rfl ?_ | refine J_aload_n X d_La_law_529 rfl rfl ?_ | refine J_aload_n0 X d_La_law_529 rfl rfl ?_
  refine J_iload X d_La_law_530 rfl ?_
  refine J_iconst (v := 2) X d_La_law_532 (by decide) ?_
  refine J_iadd X d_La_law_533 ?_
  refine J_sald X HS (nI_add i 2) (by omega) hN d_La_law_534 ?_
  refine J_callV X (hB.1.1) rfl (km_move (r := f (i + 1)) (r2 := f (i + 2)) hB.1) cd_Mo_move lk_La_84 vi_Mo_move (by decide) (by decide) (by first | exact Nat.le_trans (Nat.add_le_add_left (show _ ≤ 3 from by decide) _) hC | exact Nat.le_trans (Nat.add_le_add_left (show _ ≤ 0 from by decide) _) hC | decide) (by first | exact Nat.le_trans (Nat.add_le_add_left (show _ ≤ 21 from by decide) _) hS | exact Nat.le_trans (Nat.add_le_add_left (show _ ≤ 0 from by decide) _) hS | decide) rfl (by first | decide | simp [va_rf_cat, vc_r, vc_i, vc_0]) d_La_law_535 (fun q w2 hq => ?_)
  obtain ⟨rfl, hm⟩ := hq
  obtain ⟨e0, K2⟩ := op_move K hk hm
  first | refine J_aload_nr X d_La_law_538 rfl rfl ?_ | refine J_aload_n X d_La_law_538 rfl rfl ?_ | refine J_aload_n0 X d_La_law_538 rfl rfl ?_
  refine J_callV X (KS_m K2) rfl (k_thrown (KS_m K2)) cd_Mo_thrown lk_La_59 vi_Mo_thrown (by decide) (by decide) (by first | exact Nat.le_trans (Nat.add_le_add_left (show _ ≤ 3 from by decide) _) hC | exact Nat.le_trans (Nat.add_le_add_left (show _ ≤ 0 from by decide) _) hC | decide) (by first | exact Nat.le_trans (Nat.add_le_add_left (show _ ≤ 21 from by decide) _) hS | exact Nat.le_trans (Nat.add_le_add_left (show _ ≤ 0 from by decide) _) hS | decide) rfl (by first | decide | simp [va_rf_cat, vc_r, vc_i, vc_0]) d_La_law_539 (fun q w3 hq => ?_)
  obtain ⟨rfl, hw3⟩ := hq
  refine J_eq hw3 rfl ?_
  refine J_iload X d_La_law_542 rfl ?_
  refine J_icmp_eq (tgt := 549) X d_La_law_544 (by decide) (fun g => ?_) (fun g => ?_)
  · refine J_goto (tgt := 821) X d_La_law_549 (by decide) ?_
    exact J_loc loc7 (kont w2 K2)
  · exact absurd e0 g
set_option maxRecDepth 100000 in
theorem la_kind (hfl : l.stackTraces = false) (X : LX l Γ Δ A) (HS : SC Γ A s N f) (K : KS w x rg nr yg ya ly og oa lo tr fa m re th ol sz am fd rc o) (hi : i + 3 < N) (hN : N < 2 ^ 31) (hC : C + 3 ≤ 601024) (hS : S + 21 ≤ 7293000) (kont : ∀ w', KS w' x rg nr yg ya ly og oa lo tr fa m re th ol sz am fd rc o → LJ Γ Δ A w' Q (C + 3) (S + 21) s x m o i 821) : LJ Γ Δ A w Q C S s x m o i 552 := by
  obtain ⟨hs, Y, O, F, G, ι, H, M, R⟩ := id K
  obtain ⟨B, hB⟩ := KS_pre K (FrC_refl w)
  first | refine J_aload_nr X d_La_law_552 rfl rfl ?_ | refine J_aload_n X d_La_law_552 rfl rfl ?_ | refine J_aload_n0 X d_La_law_552 rfl rfl ?_
  first | refine J_aload_nr X d_La_law_553 rfl rfl ?_ | refine J_aload_n X d_La_law_553 rfl rfl ?_ | refine J_aload_n0 X d_La_law_553 rfl rfl ?_
  refine J_iload X d_La_law_554 rfl ?_
  refine J_iconst (v := 1) X d_La_law_556 (by decide) ?_
  refine J_iadd X d_La_law_557 ?_
  refine J_sald X HS (nI_add i 1) (by omega) hN d_La_law_558 ?_
  refine J_callV X (H.1.1.1) rfl (k_kind (r := f (i + 1)) H.1.1 H.2.1.2.2.2) cd_TG_kind lk_La_85 vi_TG_kind (by decide) (by decide) (by first | exact Nat.le_trans (Nat.add_le_add_left (show _ ≤ 3 from by decide) _) hC | exact Nat.le_trans (Nat.add_le_add_left (show _ ≤ 0 from by decide) _) hC | decide) (by first | exact Nat.le_trans (Nat.add_le_add_left (show _ ≤ 21 from by decide) _) hS | exact Nat.le_trans (Nat.add_le_add_left (show _ ≤ 0 from by decide) _) hS | decide) rfl (by first | decide | simp [va_rf_cat, vc_r, vc_i, vc_0]) d_La_law_559 (fun q w1 hq => ?_)
  obtain ⟨rfl, hw1⟩ := hq
  refine J_eq hw1 rfl ?_
  first | refine J_aload_nr X d_La_law_562 rfl rfl ?_ | refine J_aload_n X d_La_law_562 rfl rfl ?_ | refine J_aload_n0 X d_La_law_562 rfl rfl ?_
  first | refine J_aload_nr X d_La_law_563 rfl rfl ?_ | refine J_aload_n X d_La_law_563 rfl rfl ?_ | refine J_aload_n0 X d_La_law_563 rfl rfl ?_
  refine J_iload X d_La_law_564 rfl ?_
  refine J_iconst (v := 1) X d_La_law_566 (by decide) ?_
  refine J_iadd X d_La_law_567 ?_
  refine J_sald X HS (nI_add i 1) (by omega) hN d_La_law_568 ?_
  refine J_callV X (hB.1.1) rfl (km_kind (r := f (i + 1)) hB) cd_Mo_kind lk_La_89 vi_Mo_kind (by decide) (by decide) (by first | exact Nat.le_trans (Nat.add_le_add_left (show _ ≤ 3 from by decide) _) hC | exact Nat.le_trans (Nat.add_le_add_left (show _ ≤ 0 from by decide) _) hC | decide) (by first | exact Nat.le_trans (Nat.add_le_add_left (show _ ≤ 21 from by decide) _) hS | exact Nat.le_trans (Nat.add_le_add_left (show _ ≤ 0 from by decide) _) hS | decide) rfl (by first | decide | simp [va_rf_cat, vc_r, vc_i, vc_0]) d_La_law_569 (fun q w2 hq => ?_)
  obtain ⟨rfl, hw2⟩ := hq
  refine J_eq hw2 rfl ?_
  refine J_icmp_eq (tgt := 821) X d_La_law_572 (by decide) (fun g => ?_) (fun g => ?_)
  · exact J_widen (c2 := C + 3) (s2 := S + 21) (Nat.le_add_right C 3) (Nat.le_add_right S 21) (kont _ (KS_u0 K))
  · exact absurd (op_kind H R) g
set_option maxRecDepth 100000 in
theorem la_value (hfl : l.stackTraces = false) (X : LX l Γ Δ A) (HS : SC Γ A s N f) (K : KS w x rg nr yg ya ly og oa lo tr fa m re th ol sz am fd rc o) (hi : i + 3 < N) (hN : N < 2 ^ 31) (hC : C + 3 ≤ 601024) (hS : S + 21 ≤ 7293000) (kont : ∀ w', KS w' x rg nr yg ya ly og oa lo tr fa m re th ol sz am fd rc o → LJ Γ Δ A w' Q (C + 3) (S + 21) s x m o i 821) : LJ Γ Δ A w Q C S s x m o i 577 := by
  obtain ⟨hs, Y, O, F, G, ι, H, M, R⟩ := id K
  obtain ⟨B, hB⟩ := KS_pre K (FrC_refl w)
  first | refine J_aload_nr X d_La_law_577 rfl rfl ?_ | refine J_aload_n X d_La_law_577 rfl rfl ?_ | refine J_aload_n0 X d_La_law_577 rfl rfl ?_
  first | refine J_aload_nr X d_La_law_578 rfl rfl ?_ | refine J_aload_n X d_La_law_578 rfl rfl ?_ | refine J_aload_n0 X d_La_law_578 rfl rfl ?_
  refine J_iload X d_La_law_579 rfl ?_
  refine J_iconst (v := 1) X d_La_law_581 (by decide) ?_
  refine J_iadd X d_La_law_582 ?_
  refine J_sald X HS (nI_add i 1) (by omega) hN d_La_law_583 ?_
  refine J_callV X (H.1.1.1) rfl (k_value (r := f (i + 1)) H.1.1 H.2.1.2.2.2) cd_TG_value lk_La_90 vi_TG_value (by decide) (by decide) (by first | exact Nat.le_trans (Nat.add_le_add_left (show _ ≤ 3 from by decide) _) hC | exact Nat.le_trans (Nat.add_le_add_left (show _ ≤ 0 from by decide) _) hC | decide) (by first | exact Nat.le_trans (Nat.add_le_add_left (show _ ≤ 21 from by decide) _) hS | exact Nat.le_trans (Nat.add_le_add_left (show _ ≤ 0 from by decide) _) hS | decide) rfl (by first | decide | simp [va_rf_cat, vc_r, vc_i, vc_0]) d_La_law_584 (fun q w1 hq => ?_)
  obtain ⟨rfl, hw1⟩ := hq
  refine J_eq hw1 rfl ?_
  first | refine J_aload_nr X d_La_law_587 rfl rfl ?_ | refine J_aload_n X d_La_law_587 rfl rfl ?_ | refine J_aload_n0 X d_La_law_587 rfl rfl ?_
  first | refine J_aload_nr X d_La_law_588 rfl rfl ?_ | refine J_aload_n X d_La_law_588 rfl rfl ?_ | refine J_aload_n0 X d_La_law_588 rfl rfl ?_
  refine J_iload X d_La_law_589 rfl ?_
  refine J_iconst (v := 1) X d_La_law_591 (by decide) ?_
  refine J_iadd X d_La_law_592 ?_
  refine J_sald X HS (nI_add i 1) (by omega) hN d_La_law_593 ?_
  refine J_callV X (hB.1.1) rfl (km_value (r := f (i + 1)) hB.1) cd_Mo_value lk_La_93 vi_Mo_value (by decide) (by decide) (by first | exact Nat.le_trans (Nat.add_le_add_left (show _ ≤ 3 from by decide) _) hC | exact Nat.le_trans (Nat.add_le_add_left (show _ ≤ 0 from by decide) _) hC | decide) (by first | exact Nat.le_trans (Nat.add_le_add_left (show _ ≤ 21 from by decide) _) hS | exact Nat.le_trans (Nat.add_le_add_left (show _ ≤ 0 from by decide) _) hS | decide) rfl (by first | decide | simp [va_rf_cat, vc_r, vc_i, vc_0]) d_La_law_594 (fun q w2 hq => ?_)
  obtain ⟨rfl, hw2⟩ := hq
  refine J_eq hw2 rfl ?_
  refine J_icmp_eq (tgt := 821) X d_La_law_597 (by decide) (fun g => ?_) (fun g => ?_)
  · exact J_widen (c2 := C + 3) (s2 := S + 21) (Nat.le_add_right C 3) (Nat.le_add_right S 21) (kont _ (KS_u0 K))
  · exact absurd (op_value H R) g
set_option maxRecDepth 100000 in
theorem la_fields (hfl : l.stackTraces = false) (X : LX l Γ Δ A) (HS : SC Γ A s N f) (K : KS w x rg nr yg ya ly og oa lo tr fa m re th ol sz am fd rc o) (hi : i + 3 < N) (hN : N < 2 ^ 31) (hC : C + 3 ≤ 601024) (hS : S + 21 ≤ 7293000) (kont : ∀ w', KS w' x rg nr yg ya ly og oa lo tr fa m re th ol sz am fd rc o → LJ Γ Δ A w' Q (C + 3) (S + 21) s x m o i 821) : LJ Γ Δ A w Q C S s x m o i 602 := by
  obtain ⟨hs, Y, O, F, G, ι, H, M, R⟩ := id K
  obtain ⟨B, hB⟩ := KS_pre K (FrC_refl w)
  first | refine J_aload_nr X d_La_law_602 rfl rfl ?_ | refine J_aload_n X d_La_law_602 rfl rfl ?_ | refine J_aload_n0 X d_La_law_602 rfl rfl ?_
  first | refine J_aload_nr X d_La_law_603 rfl rfl ?_ | refine J_aload_n X d_La_law_603 rfl rfl ?_ | refine J_aload_n0 X d_La_law_603 rfl rfl ?_
  refine J_iload X d_La_law_604 rfl ?_
  refine J_iconst (v := 1) X d_La_law_606 (by decide) ?_
  refine J_iadd X d_La_law_607 ?_
  refine J_sald X HS (nI_add i 1) (by omega) hN d_La_law_608 ?_
  refine J_callV X (H.1.1.1) rfl (k_fields (r := f (i + 1)) H.1.1 H.2.1) cd_TG_fields lk_La_94 vi_TG_fields (by decide) (by decide) (by first | exact Nat.le_trans (Nat.add_le_add_left (show _ ≤ 3 from by decide) _) hC | exact Nat.le_trans (Nat.add_le_add_left (show _ ≤ 0 from by decide) _) hC | decide) (by first | exact Nat.le_trans (Nat.add_le_add_left (show _ ≤ 21 from by decide) _) hS | exact Nat.le_trans (Nat.add_le_add_left (show _ ≤ 0 from by decide) _) hS | decide) rfl (by first | decide | simp [va_rf_cat, vc_r, vc_i, vc_0]) d_La_law_609 (fun q w1 hq => ?_)
  obtain ⟨rfl, hw1⟩ := hq
  refine J_eq hw1 rfl ?_
  first | refine J_aload_nr X d_La_law_612 rfl rfl ?_ | refine J_aload_n X d_La_law_612 rfl rfl ?_ | refine J_aload_n0 X d_La_law_612 rfl rfl ?_
  first | refine J_aload_nr X d_La_law_613 rfl rfl ?_ | refine J_aload_n X d_La_law_613 rfl rfl ?_ | refine J_aload_n0 X d_La_law_613 rfl rfl ?_
  refine J_iload X d_La_law_614 rfl ?_
  refine J_iconst (v := 1) X d_La_law_616 (by decide) ?_
  refine J_iadd X d_La_law_617 ?_
  refine J_sald X HS (nI_add i 1) (by omega) hN d_La_law_618 ?_
  refine J_callV X (hB.1.1) rfl (km_fields (r := f (i + 1)) hB) cd_Mo_fields lk_La_97 vi_Mo_fields (by decide) (by decide) (by first | exact Nat.le_trans (Nat.add_le_add_left (show _ ≤ 3 from by decide) _) hC | exact Nat.le_trans (Nat.add_le_add_left (show _ ≤ 0 from by decide) _) hC | decide) (by first | exact Nat.le_trans (Nat.add_le_add_left (show _ ≤ 21 from by decide) _) hS | exact Nat.le_trans (Nat.add_le_add_left (show _ ≤ 0 from by decide) _) hS | decide) rfl (by first | decide | simp [va_rf_cat, vc_r, vc_i, vc_0]) d_La_law_619 (fun q w2 hq => ?_)
  obtain ⟨rfl, hw2⟩ := hq
  refine J_eq hw2 rfl ?_
  refine J_icmp_eq (tgt := 821) X d_La_law_622 (by decide) (fun g => ?_) (fun g => ?_)
  · exact J_widen (c2 := C + 3) (s2 := S + 21) (Nat.le_add_right C 3) (Nat.le_add_right S 21) (kont _ (KS_u0 K))
  · exact absurd (op_fields H R) g
set_option maxRecDepth 100000 in
theorem la_same (hfl : l.stackTraces = false) (X : LX l Γ Δ A) (HS : SC Γ A s N f) (K : KS w x rg nr yg ya ly og oa lo tr fa m re th ol sz am fd rc o) (hi : i + 3 < N) (hN : N < 2 ^ 31) (hC : C + 3 ≤ 601024) (hS : S + 21 ≤ 7293000) (kont : ∀ w', KS w' x rg nr yg ya ly og oa lo tr fa m re th ol sz am fd rc o → LJ Γ Δ A w' Q (C + 3) (S + 21) s x m o i 821) : LJ Γ Δ A w Q C S s x m o i 627 := by
  obtain ⟨hs, Y, O, F, G, ι, H, M, R⟩ := id K
  obtain ⟨B, hB⟩ := KS_pre K (FrC_refl w)
  first | refine J_aload_nr X d_La_law_627 rfl rfl ?_ | refine J_aload_n X d_La_law_627 rfl rfl ?_ | refine J_aload_n0 X d_La_law_627 rfl rfl ?_
  first | refine J_aload_nr X d_La_law_628 rfl rfl ?_ | refine J_aload_n X d_La_law_628 rfl rfl ?_ | refine J_aload_n0 X d_La_law_628 rfl rfl ?_
  refine J_iload X d_La_law_629 rfl ?_
  refine J_iconst (v := 1) X d_La_law_631 (by decide) ?_
  refine J_iadd X d_La_law_632 ?_
  refine J_sald X HS (nI_add i 1) (by omega) hN d_La_law_633 ?_
  first | refine J_aload_nr X d_La_law_634 rfl rfl ?_ | refine J_aload_n X d_La_law_634 rfl rfl ?_ | refine J_aload_n0 X d_La_law_634 rfl rfl ?_
  refine J_iload X d_La_law_635 rfl ?_
  refine J_iconst (v := 2) X d_La_law_637 (by decide) ?_
  refine J_iadd X d_La_law_638 ?_
  refine J_sald X HS (nI_add i 2) (by omega) hN d_La_law_639 ?_
  refine J_callV X (H.1.1.1) rfl (k_same (r := f (i + 1)) (r2 := f (i + 2)) H.1.1 H.2.1.2.2.2) cd_TG_same lk_La_98 vi_TG_same (by decide) (by decide) (by first | exact Nat.le_trans (Nat.add_le_add_left (show _ ≤ 3 from by decide) _) hC | exact Nat.le_trans (Nat.add_le_add_left (show _ ≤ 0 from by decide) _) hC | decide) (by first | exact Nat.le_trans (Nat.add_le_add_left (show _ ≤ 21 from by decide) _) hS | exact Nat.le_trans (Nat.add_le_add_left (show _ ≤ 0 from by decide) _) hS | decide) rfl (by first | decide | simp [va_rf_cat, vc_r, vc_i, vc_0]) d_La_law_640 (fun q w1 hq => ?_)
  obtain ⟨rfl, hw1⟩ := hq
  refine J_eq hw1 rfl ?_
  first | refine J_aload_nr X d_La_law_643 rfl rfl ?_ | refine J_aload_n X d_La_law_643 rfl rfl ?_ | refine J_aload_n0 X d_La_law_643 rfl rfl ?_
  first | refine J_aload_nr X d_La_law_644 rfl rfl ?_ | refine J_aload_n X d_La_law_644 rfl rfl ?_ | refine J_aload_n0 X d_La_law_644 rfl rfl ?_
  refine J_iload X d_La_law_645 rfl ?_
  refine J_iconst (v := 1) X d_La_law_647 (by decide) ?_
  refine J_iadd X d_La_law_648 ?_
  refine J_sald X HS (nI_add i 1) (by omega) hN d_La_law_649 ?_
  first | refine J_aload_nr X d_La_law_650 rfl rfl ?_ | refine J_aload_n X d_La_law_650 rfl rfl ?_ | refine J_aload_n0 X d_La_law_650 rfl rfl ?_
  refine J_iload X d_La_law_651 rfl ?_
  refine J_iconst (v := 2) X d_La_law_653 (by decide) ?_
  refine J_iadd X d_La_law_654 ?_
  refine J_sald X HS (nI_add i 2) (by omega) hN d_La_law_655 ?_
  refine J_callV X (hB.1.1) rfl (km_same (r := f (i + 1)) (r2 := f (i + 2)) hB.1) cd_Mo_same lk_La_102 vi_Mo_same (by decide) (by decide) (by first | exact Nat.le_trans (Nat.add_le_add_left (show _ ≤ 3 from by decide) _) hC | exact Nat.le_trans (Nat.add_le_add_left (show _ ≤ 0 from by decide) _) hC | decide) (by first | exact Nat.le_trans (Nat.add_le_add_left (show _ ≤ 21 from by decide) _) hS | exact Nat.le_trans (Nat.add_le_add_left (show _ ≤ 0 from by decide) _) hS | decide) rfl (by first | decide | simp [va_rf_cat, vc_r, vc_i, vc_0]) d_La_law_656 (fun q w2 hq => ?_)
  obtain ⟨rfl, hw2⟩ := hq
  refine J_eq hw2 rfl ?_
  refine J_icmp_eq (tgt := 821) X d_La_law_659 (by decide) (fun g => ?_) (fun g => ?_)
  · exact J_widen (c2 := C + 3) (s2 := S + 21) (Nat.le_add_right C 3) (Nat.le_add_right S 21) (kont _ (KS_u0 K))
  · exact absurd (op_same H R) g
set_option maxRecDepth 100000 in
theorem la_generation (hfl : l.stackTraces = false) (X : LX l Γ Δ A) (HS : SC Γ A s N f) (K : KS w x rg nr yg ya ly og oa lo tr fa m re th ol sz am fd rc o) (hi : i + 3 < N) (hN : N < 2 ^ 31) (hC : C + 3 ≤ 601024) (hS : S + 21 ≤ 7293000) (kont : ∀ w', KS w' x rg nr yg ya ly og oa lo tr fa m re th ol sz am fd rc o → LJ Γ Δ A w' Q (C + 3) (S + 21) s x m o i 821) : LJ Γ Δ A w Q C S s x m o i 664 := by
  obtain ⟨hs, Y, O, F, G, ι, H, M, R⟩ := id K
  obtain ⟨B, hB⟩ := KS_pre K (FrC_refl w)
  first | refine J_aload_nr X d_La_law_664 rfl rfl ?_ | refine J_aload_n X d_La_law_664 rfl rfl ?_ | refine J_aload_n0 X d_La_law_664 rfl rfl ?_
  first | refine J_aload_nr X d_La_law_665 rfl rfl ?_ | refine J_aload_n X d_La_law_665 rfl rfl ?_ | refine J_aload_n0 X d_La_law_665 rfl rfl ?_
  refine J_iload X d_La_law_666 rfl ?_
  refine J_iconst (v := 1) X d_La_law_668 (by decide) ?_
  refine J_iadd X d_La_law_669 ?_
  refine J_sald X HS (nI_add i 1) (by omega) hN d_La_law_670 ?_
  refine J_callV X (H.1.1.1) rfl (k_generation (r := f (i + 1)) H.1.1 H.2.1.2.2.2) cd_TG_generation lk_La_103 vi_TG_generation (by decide) (by decide) (by first | exact Nat.le_trans (Nat.add_le_add_left (show _ ≤ 3 from by decide) _) hC | exact Nat.le_trans (Nat.add_le_add_left (show _ ≤ 0 from by decide) _) hC | decide) (by first | exact Nat.le_trans (Nat.add_le_add_left (show _ ≤ 21 from by decide) _) hS | exact Nat.le_trans (Nat.add_le_add_left (show _ ≤ 0 from by decide) _) hS | decide) rfl (by first | decide | simp [va_rf_cat, vc_r, vc_i, vc_0]) d_La_law_671 (fun q w1 hq => ?_)
  obtain ⟨rfl, hw1⟩ := hq
  refine J_eq hw1 rfl ?_
  first | refine J_aload_nr X d_La_law_674 rfl rfl ?_ | refine J_aload_n X d_La_law_674 rfl rfl ?_ | refine J_aload_n0 X d_La_law_674 rfl rfl ?_
  first | refine J_aload_nr X d_La_law_675 rfl rfl ?_ | refine J_aload_n X d_La_law_675 rfl rfl ?_ | refine J_aload_n0 X d_La_law_675 rfl rfl ?_
  refine J_iload X d_La_law_676 rfl ?_
  refine J_iconst (v := 1) X d_La_law_678 (by decide) ?_
  refine J_iadd X d_La_law_679 ?_
  refine J_sald X HS (nI_add i 1) (by omega) hN d_La_law_680 ?_
  refine J_callV X (hB.1.1) rfl (km_generation (r := f (i + 1)) hB) cd_Mo_generation lk_La_106 vi_Mo_generation (by decide) (by decide) (by first | exact Nat.le_trans (Nat.add_le_add_left (show _ ≤ 3 from by decide) _) hC | exact Nat.le_trans (Nat.add_le_add_left (show _ ≤ 0 from by decide) _) hC | decide) (by first | exact Nat.le_trans (Nat.add_le_add_left (show _ ≤ 21 from by decide) _) hS | exact Nat.le_trans (Nat.add_le_add_left (show _ ≤ 0 from by decide) _) hS | decide) rfl (by first | decide | simp [va_rf_cat, vc_r, vc_i, vc_0]) d_La_law_681 (fun q w2 hq => ?_)
  obtain ⟨rfl, hw2⟩ := hq
  refine J_eq hw2 rfl ?_
  refine J_icmp_eq (tgt := 821) X d_La_law_684 (by decide) (fun g => ?_) (fun g => ?_)
  · exact J_widen (c2 := C + 3) (s2 := S + 21) (Nat.le_add_right C 3) (Nat.le_add_right S 21) (kont _ (KS_u0 K))
  · exact absurd (op_generation H R) g
set_option maxRecDepth 100000 in
theorem la_cells (hfl : l.stackTraces = false) (X : LX l Γ Δ A) (HS : SC Γ A s N f) (K : KS w x rg nr yg ya ly og oa lo tr fa m re th ol sz am fd rc o) (hi : i + 3 < N) (hN : N < 2 ^ 31) (hC : C + 3 ≤ 601024) (hS : S + 21 ≤ 7293000) (kont : ∀ w', KS w' x rg nr yg ya ly og oa lo tr fa m re th ol sz am fd rc o → LJ Γ Δ A w' Q (C + 3) (S + 21) s x m o i 821) : LJ Γ Δ A w Q C S s x m o i 771 := by
  obtain ⟨hs, Y, O, F, G, ι, H, M, R⟩ := id K
  obtain ⟨B, hB⟩ := KS_pre K (FrC_refl w)
  first | refine J_aload_nr X d_La_law_771 rfl rfl ?_ | refine J_aload_n X d_La_law_771 rfl rfl ?_ | refine J_aload_n0 X d_La_law_771 rfl rfl ?_
  first | refine J_aload_nr X d_La_law_772 rfl rfl ?_ | refine J_aload_n X d_La_law_772 rfl rfl ?_ | refine J_aload_n0 X d_La_law_772 rfl rfl ?_
  refine J_iload X d_La_law_773 rfl ?_
  refine J_iconst (v := 1) X d_La_law_775 (by decide) ?_
  refine J_iadd X d_La_law_776 ?_
  refine J_sald X HS (nI_add i 1) (by omega) hN d_La_law_777 ?_
  refine J_callV X (H.1.1.1) rfl (k_cells (r := f (i + 1)) H.1.1.1 H.1.2.2.1 H.1.2.2.2.1 H.1.2.2.2.2.2.1.1 H.1.2.2.2.2.2.2.1.1) cd_TG_cells lk_La_119 vi_TG_cells (by decide) (by decide) (by first | exact Nat.le_trans (Nat.add_le_add_left (show _ ≤ 3 from by decide) _) hC | exact Nat.le_trans (Nat.add_le_add_left (show _ ≤ 0 from by decide) _) hC | decide) (by first | exact Nat.le_trans (Nat.add_le_add_left (show _ ≤ 21 from by decide) _) hS | exact Nat.le_trans (Nat.add_le_add_left (show _ ≤ 0 from by decide) _) hS | decide) rfl (by first | decide | simp [va_rf_cat, vc_r, vc_i, vc_0]) d_La_law_778 (fun q w1 hq => ?_)
  obtain ⟨rfl, hw1⟩ := hq
  refine J_eq hw1 rfl ?_
  first | refine J_aload_nr X d_La_law_781 rfl rfl ?_ | refine J_aload_n X d_La_law_781 rfl rfl ?_ | refine J_aload_n0 X d_La_law_781 rfl rfl ?_
  first | refine J_aload_nr X d_La_law_782 rfl rfl ?_ | refine J_aload_n X d_La_law_782 rfl rfl ?_ | refine J_aload_n0 X d_La_law_782 rfl rfl ?_
  refine J_iload X d_La_law_783 rfl ?_
  refine J_iconst (v := 1) X d_La_law_785 (by decide) ?_
  refine J_iadd X d_La_law_786 ?_
  refine J_sald X HS (nI_add i 1) (by omega) hN d_La_law_787 ?_
  refine J_callV X (hB.1.1) rfl (km_cells (r := f (i + 1)) hB.1) cd_Mo_cells lk_La_122 vi_Mo_cells (by decide) (by decide) (by first | exact Nat.le_trans (Nat.add_le_add_left (show _ ≤ 3 from by decide) _) hC | exact Nat.le_trans (Nat.add_le_add_left (show _ ≤ 0 from by decide) _) hC | decide) (by first | exact Nat.le_trans (Nat.add_le_add_left (show _ ≤ 21 from by decide) _) hS | exact Nat.le_trans (Nat.add_le_add_left (show _ ≤ 0 from by decide) _) hS | decide) rfl (by first | decide | simp [va_rf_cat, vc_r, vc_i, vc_0]) d_La_law_788 (fun q w2 hq => ?_)
  obtain ⟨rfl, hw2⟩ := hq
  refine J_eq hw2 rfl ?_
  refine J_icmp_eq (tgt := 821) X d_La_law_791 (by decide) (fun g => ?_) (fun g => ?_)
  · exact J_widen (c2 := C + 3) (s2 := S + 21) (Nat.le_add_right C 3) (Nat.le_add_right S 21) (kont _ (KS_u0 K))
  · exact absurd (op_cells H R) g
set_option maxRecDepth 100000 in
theorem la_collections (hfl : l.stackTraces = false) (X : LX l Γ Δ A) (HS : SC Γ A s N f) (K : KS w x rg nr yg ya ly og oa lo tr fa m re th ol sz am fd rc o) (hi : i + 3 < N) (hN : N < 2 ^ 31) (hC : C + 3 ≤ 601024) (hS : S + 21 ≤ 7293000) (kont : ∀ w', KS w' x rg nr yg ya ly og oa lo tr fa m re th ol sz am fd rc o → LJ Γ Δ A w' Q (C + 3) (S + 21) s x m o i 821) : LJ Γ Δ A w Q C S s x m o i 796 := by
  obtain ⟨hs, Y, O, F, G, ι, H, M, R⟩ := id K
  obtain ⟨B, hB⟩ := KS_pre K (FrC_refl w)
  first | refine J_aload_nr X d_La_law_796 rfl rfl ?_ | refine J_aload_n X d_La_law_796 rfl rfl ?_ | refine J_aload_n0 X d_La_law_796 rfl rfl ?_
  first | refine J_aload_nr X d_La_law_797 rfl rfl ?_ | refine J_aload_n X d_La_law_797 rfl rfl ?_ | refine J_aload_n0 X d_La_law_797 rfl rfl ?_
  refine J_iload X d_La_law_798 rfl ?_
  refine J_iconst (v := 1) X d_La_law_800 (by decide) ?_
  refine J_iadd X d_La_law_801 ?_
  refine J_sald X HS (nI_add i 1) (by omega) hN d_La_law_802 ?_
  refine J_callV X (H.1.1.1) rfl (k_collections (r := f (i + 1)) H.1.1.1) cd_TG_collections lk_La_123 vi_TG_collections (by decide) (by decide) (by first | exact Nat.le_trans (Nat.add_le_add_left (show _ ≤ 3 from by decide) _) hC | exact Nat.le_trans (Nat.add_le_add_left (show _ ≤ 0 from by decide) _) hC | decide) (by first | exact Nat.le_trans (Nat.add_le_add_left (show _ ≤ 21 from by decide) _) hS | exact Nat.le_trans (Nat.add_le_add_left (show _ ≤ 0 from by decide) _) hS | decide) rfl (by first | decide | simp [va_rf_cat, vc_r, vc_i, vc_0]) d_La_law_803 (fun q w1 hq => ?_)
  obtain ⟨rfl, hw1⟩ := hq
  refine J_eq hw1 rfl ?_
  first | refine J_aload_nr X d_La_law_806 rfl rfl ?_ | refine J_aload_n X d_La_law_806 rfl rfl ?_ | refine J_aload_n0 X d_La_law_806 rfl rfl ?_
  first | refine J_aload_nr X d_La_law_807 rfl rfl ?_ | refine J_aload_n X d_La_law_807 rfl rfl ?_ | refine J_aload_n0 X d_La_law_807 rfl rfl ?_
  refine J_iload X d_La_law_808 rfl ?_
  refine J_iconst (v := 1) X d_La_law_810 (by decide) ?_
  refine J_iadd X d_La_law_811 ?_
  refine J_sald X HS (nI_add i 1) (by omega) hN d_La_law_812 ?_
  refine J_callV X (hB.1.1) rfl (km_collections (r := f (i + 1)) hB.1.1) cd_Mo_collections lk_La_126 vi_Mo_collections (by decide) (by decide) (by first | exact Nat.le_trans (Nat.add_le_add_left (show _ ≤ 3 from by decide) _) hC | exact Nat.le_trans (Nat.add_le_add_left (show _ ≤ 0 from by decide) _) hC | decide) (by first | exact Nat.le_trans (Nat.add_le_add_left (show _ ≤ 21 from by decide) _) hS | exact Nat.le_trans (Nat.add_le_add_left (show _ ≤ 0 from by decide) _) hS | decide) rfl (by first | decide | simp [va_rf_cat, vc_r, vc_i, vc_0]) d_La_law_813 (fun q w2 hq => ?_)
  obtain ⟨rfl, hw2⟩ := hq
  refine J_eq hw2 rfl ?_
  refine J_icmp_eq (tgt := 821) X d_La_law_816 (by decide) (fun g => ?_) (fun g => ?_)
  · exact J_widen (c2 := C + 3) (s2 := S + 21) (Nat.le_add_right C 3) (Nat.le_add_right S 21) (kont _ (KS_u0 K))
  · exact absurd (op_collections R) g
set_option maxRecDepth 100000 in
theorem la_reach (hfl : l.stackTraces = false) (X : LX l Γ Δ A) (HS : SC Γ A s N f) (K : KS w x rg nr yg ya ly og oa lo tr fa m re th ol sz am fd rc o) (hi : i + 3 < N) (hN : N < 2 ^ 31) (hC : C + 3 ≤ 601024) (hS : S + 21 ≤ 7293000) (kont : ∀ w', KS w' x rg nr yg ya ly og oa lo tr fa m re th ol sz am fd rc o → LJ Γ Δ A w' Q (C + 3) (S + 21) s x m o i 821) : LJ Γ Δ A w Q C S s x m o i 689 := by
  obtain ⟨hs, Y, O, F, G, ι, H, M, R⟩ := id K
  first | refine J_aload_nr X d_La_law_689 rfl rfl ?_ | refine J_aload_n X d_La_law_689 rfl rfl ?_ | refine J_aload_n0 X d_La_law_689 rfl rfl ?_
  first | refine J_aload_nr X d_La_law_690 rfl rfl ?_ | refine J_aload_n X d_La_law_690 rfl rfl ?_ | refine J_aload_n0 X d_La_law_690 rfl rfl ?_
  refine J_iload X d_La_law_691 rfl ?_
  refine J_iconst (v := 1) X d_La_law_693 (by decide) ?_
  refine J_iadd X d_La_law_694 ?_
  refine J_sald X HS (nI_add i 1) (by omega) hN d_La_law_695 ?_
  refine J_callV X (H.1.1.1) rfl (k_reach (r := f (i + 1)) H) cd_TG_reach lk_La_107 vi_TG_reach (by decide) (by decide) (by first | exact Nat.le_trans (Nat.add_le_add_left (show _ ≤ 3 from by decide) _) hC | exact Nat.le_trans (Nat.add_le_add_left (show _ ≤ 0 from by decide) _) hC | decide) (by first | exact Nat.le_trans (Nat.add_le_add_left (show _ ≤ 21 from by decide) _) hS | exact Nat.le_trans (Nat.add_le_add_left (show _ ≤ 0 from by decide) _) hS | decide) rfl (by first | decide | simp [va_rf_cat, vc_r, vc_i, vc_0]) d_La_law_696 (fun q w1 hq => ?_)
  obtain ⟨rfl, hw1⟩ := hq
  obtain ⟨B, hB⟩ := KS_pre K (fr_reach H hw1)
  first | refine J_aload_nr X d_La_law_699 rfl rfl ?_ | refine J_aload_n X d_La_law_699 rfl rfl ?_ | refine J_aload_n0 X d_La_law_699 rfl rfl ?_
  first | refine J_aload_nr X d_La_law_700 rfl rfl ?_ | refine J_aload_n X d_La_law_700 rfl rfl ?_ | refine J_aload_n0 X d_La_law_700 rfl rfl ?_
  refine J_iload X d_La_law_701 rfl ?_
  refine J_iconst (v := 1) X d_La_law_703 (by decide) ?_
  refine J_iadd X d_La_law_704 ?_
  refine J_sald X HS (nI_add i 1) (by omega) hN d_La_law_705 ?_
  refine J_callV X (hB.1.1) rfl (km_reach (r := f (i + 1)) hB) cd_Mo_reach lk_La_110 vi_Mo_reach (by decide) (by decide) (by first | exact Nat.le_trans (Nat.add_le_add_left (show _ ≤ 3 from by decide) _) hC | exact Nat.le_trans (Nat.add_le_add_left (show _ ≤ 0 from by decide) _) hC | decide) (by first | exact Nat.le_trans (Nat.add_le_add_left (show _ ≤ 21 from by decide) _) hS | exact Nat.le_trans (Nat.add_le_add_left (show _ ≤ 0 from by decide) _) hS | decide) rfl (by first | decide | simp [va_rf_cat, vc_r, vc_i, vc_0]) d_La_law_706 (fun q w2 hq => ?_)
  obtain ⟨e0, K2⟩ := op_reach hs H M R hw1 hq
  subst e0
  refine J_icmp_eq (tgt := 821) X d_La_law_709 (by decide) (fun g => ?_) (fun g => ?_)
  · exact J_widen (c2 := C + 3) (s2 := S + 21) (Nat.le_add_right C 3) (Nat.le_add_right S 21) (kont _ K2)
  · exact absurd rfl g
set_option maxRecDepth 100000 in
theorem la_great (hfl : l.stackTraces = false) (X : LX l Γ Δ A) (HS : SC Γ A s N f) (K : KS w x rg nr yg ya ly og oa lo tr fa m re th ol sz am fd rc o) (hi : i + 3 < N) (hN : N < 2 ^ 31) (hC : C + 3 ≤ 601024) (hS : S + 21 ≤ 7293000) (kont : ∀ w', KS w' x rg nr yg ya ly og oa lo tr fa m re th ol sz am fd rc o → LJ Γ Δ A w' Q (C + 3) (S + 21) s x m o i 821) : LJ Γ Δ A w Q C S s x m o i 758 := by
  obtain ⟨hs, Y, O, F, G, ι, H, M, R⟩ := id K
  first | refine J_aload_nr X d_La_law_758 rfl rfl ?_ | refine J_aload_n X d_La_law_758 rfl rfl ?_ | refine J_aload_n0 X d_La_law_758 rfl rfl ?_
  refine J_callV X (H.1.1.1) rfl (k_great H) cd_TG_great lk_La_115 vi_TG_great (by decide) (by decide) (by first | exact Nat.le_trans (Nat.add_le_add_left (show _ ≤ 3 from by decide) _) hC | exact Nat.le_trans (Nat.add_le_add_left (show _ ≤ 0 from by decide) _) hC | decide) (by first | exact Nat.le_trans (Nat.add_le_add_left (show _ ≤ 21 from by decide) _) hS | exact Nat.le_trans (Nat.add_le_add_left (show _ ≤ 0 from by decide) _) hS | decide) rfl (by first | decide | simp [va_rf_cat, vc_r, vc_i, vc_0]) d_La_law_759 (fun q w1 hq => ?_)
  obtain ⟨rfl, hw1⟩ := hq
  obtain ⟨B, hB⟩ := KS_pre K (fr_great H hw1)
  first | refine J_aload_nr X d_La_law_762 rfl rfl ?_ | refine J_aload_n X d_La_law_762 rfl rfl ?_ | refine J_aload_n0 X d_La_law_762 rfl rfl ?_
  refine J_callV X (hB.1.1) rfl (km_great hB) cd_Mo_great lk_La_118 vi_Mo_great (by decide) (by decide) (by first | exact Nat.le_trans (Nat.add_le_add_left (show _ ≤ 3 from by decide) _) hC | exact Nat.le_trans (Nat.add_le_add_left (show _ ≤ 0 from by decide) _) hC | decide) (by first | exact Nat.le_trans (Nat.add_le_add_left (show _ ≤ 21 from by decide) _) hS | exact Nat.le_trans (Nat.add_le_add_left (show _ ≤ 0 from by decide) _) hS | decide) rfl (by first | decide | simp [va_rf_cat, vc_r, vc_i, vc_0]) d_La_law_763 (fun q w2 hq => ?_)
  obtain ⟨ρ, hL, rfl, hw2⟩ := hq
  obtain ⟨e0, K2⟩ := op_great hs H M R hw1 hL hw2
  refine J_icmp_eq (tgt := 821) X d_La_law_766 (by decide) (fun g => ?_) (fun g => ?_)
  · exact J_widen (c2 := C + 3) (s2 := S + 21) (Nat.le_add_right C 3) (Nat.le_add_right S 21) (kont _ K2)
  · exact absurd e0.symm g
set_option maxRecDepth 100000 in
theorem la_small (hfl : l.stackTraces = false) (X : LX l Γ Δ A) (HS : SC Γ A s N f) (K : KS w x rg nr yg ya ly og oa lo tr fa m re th ol sz am fd rc o) (hi : i + 3 < N) (hN : N < 2 ^ 31) (hC : C + 3 ≤ 601024) (hS : S + 21 ≤ 7293000) (kont : ∀ w', KS w' x rg nr yg ya ly og oa lo tr fa m re th ol sz am fd rc o → LJ Γ Δ A w' Q (C + 3) (S + 21) s x m o i 821) : LJ Γ Δ A w Q C S s x m o i 714 := by
  obtain ⟨hs, Y, O, F, G, ι, H, M, R⟩ := id K
  first | refine J_aload_nr X d_La_law_714 rfl rfl ?_ | refine J_aload_n X d_La_law_714 rfl rfl ?_ | refine J_aload_n0 X d_La_law_714 rfl rfl ?_
  first | refine J_aload_nr X d_La_law_715 rfl rfl ?_ | refine J_aload_n X d_La_law_715 rfl rfl ?_ | refine J_aload_n0 X d_La_law_715 rfl rfl ?_
  refine J_callSW X (kl_small hfl H hs) cd_La_small lk_La_111 st_La_small (by decide) (by decide) (by first | exact Nat.le_trans (Nat.add_le_add_left (show _ ≤ 3 from by decide) _) hC | exact Nat.le_trans (Nat.add_le_add_left (show _ ≤ 0 from by decide) _) hC | decide) (by first | exact Nat.le_trans (Nat.add_le_add_left (show _ ≤ 21 from by decide) _) hS | exact Nat.le_trans (Nat.add_le_add_left (show _ ≤ 0 from by decide) _) hS | decide) rfl (by first | decide | simp [va_rf_cat, vc_r, vc_i, vc_0]) d_La_law_716 (fun q w1 hq => ?_)
  obtain ⟨k, rfl, hk⟩ := hq
  have hop := fun (b : Int32) (W' : Wd) => op_small (b := b) (W' := W') hs H M R hk
  obtain ⟨B, hB⟩ := (hop 0 w1).1
  refine J_widen (c2 := C + 3) (s2 := S + 21) (Nat.add_le_add_left (by decide) C) (Nat.add_le_add_left (by decide) S) ?_
  refine J_istore X d_La_law_719 (by decide) rfl ?_
  first | refine J_aload_nr X d_La_law_721 rfl rfl ?_ | refine J_aload_n X d_La_law_721 rfl rfl ?_ | refine J_aload_n0 X d_La_law_721 rfl rfl ?_
  refine J_callV X (hB.1.1) rfl (km_small hB) cd_Mo_small lk_La_114 vi_Mo_small (by decide) (by decide) (by first | exact Nat.le_trans (Nat.add_le_add_left (show _ ≤ 3 from by decide) _) hC | exact Nat.le_trans (Nat.add_le_add_left (show _ ≤ 0 from by decide) _) hC | decide) (by first | exact Nat.le_trans (Nat.add_le_add_left (show _ ≤ 21 from by decide) _) hS | exact Nat.le_trans (Nat.add_le_add_left (show _ ≤ 0 from by decide) _) hS | decide) rfl (by first | decide | simp [va_rf_cat, vc_r, vc_i, vc_0]) d_La_law_722 (fun q w2 hq => ?_)
  obtain ⟨v, v1, v2, g1, g2, rfl, g4⟩ := hq
  obtain ⟨e0, e1, K2⟩ := (hop _ w2).2 ⟨v, v1, v2, g1, g2, rfl, g4⟩
  have ko := K2.1
  refine J_istore X d_La_law_725 (by decide) rfl ?_
  first | refine J_aload_nr X d_La_law_727 rfl rfl ?_ | refine J_aload_n X d_La_law_727 rfl rfl ?_ | refine J_aload_n0 X d_La_law_727 rfl rfl ?_
  refine J_callV X (KS_m K2) rfl (k_thrown (KS_m K2)) cd_Mo_thrown lk_La_59 vi_Mo_thrown (by decide) (by decide) (by first | exact Nat.le_trans (Nat.add_le_add_left (show _ ≤ 3 from by decide) _) hC | exact Nat.le_trans (Nat.add_le_add_left (show _ ≤ 0 from by decide) _) hC | decide) (by first | exact Nat.le_trans (Nat.add_le_add_left (show _ ≤ 21 from by decide) _) hS | exact Nat.le_trans (Nat.add_le_add_left (show _ ≤ 0 from by decide) _) hS | decide) rfl (by first | decide | simp [va_rf_cat, vc_r, vc_i, vc_0]) d_La_law_728 (fun q w3 hq => ?_)
  obtain ⟨rfl, hw3⟩ := hq
  refine J_eq hw3 rfl ?_
  refine J_iload X d_La_law_731 rfl ?_
  refine J_icmp_eq (tgt := 738) X d_La_law_733 (by decide) (fun g => ?_) (fun g => ?_)
  · refine J_iload X d_La_law_738 rfl ?_
    refine J_if_ne (tgt := 755) X d_La_law_740 (by decide) (fun g3 => ?_) (fun g3 => ?_)
    · refine J_goto (tgt := 821) X d_La_law_755 (by decide) ?_
      exact J_loc loc7 (kont w2 K2)
    · first | refine J_aload_nr X d_La_law_743 rfl rfl ?_ | refine J_aload_n X d_La_law_743 rfl rfl ?_ | refine J_aload_n0 X d_La_law_743 rfl rfl ?_
      refine J_iconst (v := 0) X d_La_law_744 (by decide) ?_
      refine J_lald X (ko) (by decide) rfl rfl (nI_0.symm) (Nat.zero_lt_one) (by decide) (e1 g3) d_La_law_745 ?_
      refine J_iload X d_La_law_746 rfl ?_
      refine J_i2l X d_La_law_748 ?_
      refine J_lcmp X d_La_law_749 ?_
      refine J_if_eq (tgt := 755) X d_La_law_750 (by decide) (fun g5 => ?_) (fun g5 => ?_)
      · refine J_goto (tgt := 821) X d_La_law_755 (by decide) ?_
        exact J_loc loc7 (kont w2 K2)
      · exact absurd ((lg_cmp_eq _ _).mpr rfl) g5
  · exact absurd e0 g
end LC
