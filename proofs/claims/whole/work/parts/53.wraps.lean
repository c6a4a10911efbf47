/-! the law's wrappers: the class's calls with their exceptions caught -/
section LW
variable {l : Launch} {Δ : Dat} {w : Wd} {x rg nr yg ya ly og oa lo tr fa o : Nat} {Y O F G : List Nat} {r r2 r3 v : Int32}
set_option maxRecDepth 100000 in
theorem kl_clear (hfl : l.stackTraces = false) (H : CI w x rg nr yg ya ly og oa lo tr fa Y O F G) : Ct l y_La_clear h_La_clear (rmL 7 1 6) Δ [.ref x, .int r] w (fun q W => ∃ k, q = some (.int k) ∧ ((k = 0 ∧ ∃ i, i < nr ∧ r = nI i ∧ W = uP w rg i none) ∨ (k = 1 ∧ ¬ regB nr r ∧ W = w))) := by
  refine CtW_of (L := [some (.ref x), some (.int r), none]) (by decide) (by first | exact Nat.le_of_ble_eq_true rfl | simp [lg_sl, va_rf_cat, vc_r, vc_i, vc_0]) (by first | rfl | simp [lin, va_rf_cat, vc_r, vc_i, vc_0]) (fun Γ X HT => ?_)
  first | refine J_aload_nr X d_La_clear_0 rfl rfl ?_ | refine J_aload_n X d_La_clear_0 rfl rfl ?_ | refine J_aload_n0 X d_La_clear_0 rfl rfl ?_
  refine J_iload_n X d_La_clear_1 rfl rfl ?_
  refine J_callVX X (H.1.1.1) rfl (k_clear (r := r) hfl H.1.1) cd_TG_clear lk_La_33 vi_TG_clear (by decide) (by decide) (by decide) (by decide) rfl (by first | decide | simp [va_rf_cat, vc_r, vc_i, vc_0]) d_La_clear_2 (fun q w1 hq => ?_) (fun E w1 hE => ?_)
  · obtain ⟨rfl, hq⟩ := hq
    refine J_goto (tgt := 11) X d_La_clear_5 (by decide) ?_
    refine J_iconst (v := 0) X d_La_clear_11 (by decide) ?_
    exact J_iret X ⟨0, rfl, Or.inl ⟨rfl, hq⟩⟩ (by decide) (by decide) d_La_clear_12
  · obtain ⟨rfl, hE⟩ := hE
    refine JX_catch X HT [] ⟨0, 5, 8, 13⟩ [] rfl (fun z hz => nomatch hz) (by decide) (by decide) m_225 m_233 (fun e => ?_)
    first | refine J_astore_nr X d_La_clear_8 rfl (by decide) rfl ?_ | refine J_astore_n X d_La_clear_8 rfl (by decide) rfl ?_ | refine J_astore_n0 X d_La_clear_8 rfl (by decide) rfl ?_
    refine J_iconst (v := 1) X d_La_clear_9 (by decide) ?_
    exact J_iret X ⟨1, rfl, Or.inr ⟨rfl, hE⟩⟩ (by decide) (by decide) d_La_clear_10
set_option maxRecDepth 100000 in
theorem kl_move (hfl : l.stackTraces = false) (H : CI w x rg nr yg ya ly og oa lo tr fa Y O F G) : Ct l y_La_move h_La_move (rmL 7 1 6) Δ [.ref x, .int r, .int r2] w (fun q W => ∃ k, q = some (.int k) ∧ ((k = 0 ∧ ∃ i j, i < nr ∧ r = nI i ∧ j < nr ∧ r2 = nI j ∧ W = uP w rg i (wP w rg j)) ∨ (k = 1 ∧ ¬ (regB nr r ∧ regB nr r2) ∧ W = w))) := by
  refine CtW_of (L := [some (.ref x), some (.int r), some (.int r2), none]) (by decide) (by first | exact Nat.le_of_ble_eq_true rfl | simp [lg_sl, va_rf_cat, vc_r, vc_i, vc_0]) (by first | rfl | simp [lin, va_rf_cat, vc_r, vc_i, vc_0]) (fun Γ X HT => ?_)
  first | refine J_aload_nr X d_La_move_0 rfl rfl ?_ | refine J_aload_n X d_La_move_0 rfl rfl ?_ | refine J_aload_n0 X d_La_move_0 rfl rfl ?_
  refine J_iload_n X d_La_move_1 rfl rfl ?_
  refine J_iload_n X d_La_move_2 rfl rfl ?_
  refine J_callVX X (H.1.1.1) rfl (k_move (r := r) (r2 := r2) hfl H.1.1 H.2.1.2.2.2) cd_TG_move lk_La_37 vi_TG_move (by decide) (by decide) (by decide) (by decide) rfl (by first | decide | simp [va_rf_cat, vc_r, vc_i, vc_0]) d_La_move_3 (fun q w1 hq => ?_) (fun E w1 hE => ?_)
  · obtain ⟨rfl, hq⟩ := hq
    refine J_goto (tgt := 12) X d_La_move_6 (by decide) ?_
    refine J_iconst (v := 0) X d_La_move_12 (by decide) ?_
    exact J_iret X ⟨0, rfl, Or.inl ⟨rfl, hq⟩⟩ (by decide) (by decide) d_La_move_13
  · obtain ⟨rfl, hE⟩ := hE
    refine JX_catch X HT [] ⟨0, 6, 9, 13⟩ [] rfl (fun z hz => nomatch hz) (by decide) (by decide) m_225 m_233 (fun e => ?_)
    first | refine J_astore_nr X d_La_move_9 rfl (by decide) rfl ?_ | refine J_astore_n X d_La_move_9 rfl (by decide) rfl ?_ | refine J_astore_n0 X d_La_move_9 rfl (by decide) rfl ?_
    refine J_iconst (v := 1) X d_La_move_10 (by decide) ?_
    exact J_iret X ⟨1, rfl, Or.inr ⟨rfl, hE⟩⟩ (by decide) (by decide) d_La_move_11
set_option maxRecDepth 100000 in
theorem kl_number (hfl : l.stackTraces = false) (H : CI w x rg nr yg ya ly og oa lo tr fa Y O F G) : Ct l y_La_number h_La_number (rmL 7 1 6) Δ [.ref x, .int r, .int v] w (fun q W => ∃ k, q = some (.int k) ∧ ((k = 0 ∧ ∃ i a, i < nr ∧ r = nI i ∧ (-1073741824 ≤ v ∧ v ≤ 1073741823) ∧ wK w a = none ∧ W = uP (uI (uN w a (.inl 5)) a 0 v) rg i (some a)) ∨ (k = 1 ∧ ¬ (regB nr r ∧ (-1073741824 ≤ v ∧ v ≤ 1073741823)) ∧ W = w))) := by
  refine CtW_of (L := [some (.ref x), some (.int r), some (.int v), none]) (by decide) (by first | exact Nat.le_of_ble_eq_true rfl | simp [lg_sl, va_rf_cat, vc_r, vc_i, vc_0]) (by first | rfl | simp [lin, va_rf_cat, vc_r, vc_i, vc_0]) (fun Γ X HT => ?_)
  first | refine J_aload_nr X d_La_number_0 rfl rfl ?_ | refine J_aload_n X d_La_number_0 rfl rfl ?_ | refine J_aload_n0 X d_La_number_0 rfl rfl ?_
  refine J_iload_n X d_La_number_1 rfl rfl ?_
  refine J_iload_n X d_La_number_2 rfl rfl ?_
  refine J_callVX X (H.1.1.1) rfl (k_number (r := r) (v := v) hfl H.1.1) cd_TG_number lk_La_30 vi_TG_number (by decide) (by decide) (by decide) (by decide) rfl (by first | decide | simp [va_rf_cat, vc_r, vc_i, vc_0]) d_La_number_3 (fun q w1 hq => ?_) (fun E w1 hE => ?_)
  · obtain ⟨rfl, hq⟩ := hq
    refine J_goto (tgt := 12) X d_La_number_6 (by decide) ?_
    refine J_iconst (v := 0) X d_La_number_12 (by decide) ?_
    exact J_iret X ⟨0, rfl, Or.inl ⟨rfl, hq⟩⟩ (by decide) (by decide) d_La_number_13
  · obtain ⟨rfl, hE⟩ := hE
    refine JX_catch X HT [] ⟨0, 6, 9, 13⟩ [] rfl (fun z hz => nomatch hz) (by decide) (by decide) m_225 m_233 (fun e => ?_)
    first | refine J_astore_nr X d_La_number_9 rfl (by decide) rfl ?_ | refine J_astore_n X d_La_number_9 rfl (by decide) rfl ?_ | refine J_astore_n0 X d_La_number_9 rfl (by decide) rfl ?_
    refine J_iconst (v := 1) X d_La_number_10 (by decide) ?_
    exact J_iret X ⟨1, rfl, Or.inr ⟨rfl, hE⟩⟩ (by decide) (by decide) d_La_number_11
set_option maxRecDepth 100000 in
theorem kl_target (hfl : l.stackTraces = false) (H : CI w x rg nr yg ya ly og oa lo tr fa Y O F G) : Ct l y_La_target h_La_target (rmL 7 1 6) Δ [.ref x, .int r, .int r2] w (fun q W => ∃ k, q = some (.int k) ∧ ((k = 0 ∧ ∃ i t, i < nr ∧ r = nI i ∧ only w (isWk w) (held w rg nr r2) = some t ∧ W = uP w rg i (wP w t 3)) ∨ (k = 1 ∧ ¬ (regB nr r ∧ ∃ t, only w (isWk w) (held w rg nr r2) = some t) ∧ W = w))) := by
  refine CtW_of (L := [some (.ref x), some (.int r), some (.int r2), none]) (by decide) (by first | exact Nat.le_of_ble_eq_true rfl | simp [lg_sl, va_rf_cat, vc_r, vc_i, vc_0]) (by first | rfl | simp [lin, va_rf_cat, vc_r, vc_i, vc_0]) (fun Γ X HT => ?_)
  first | refine J_aload_nr X d_La_target_0 rfl rfl ?_ | refine J_aload_n X d_La_target_0 rfl rfl ?_ | refine J_aload_n0 X d_La_target_0 rfl rfl ?_
  refine J_iload_n X d_La_target_1 rfl rfl ?_
  refine J_iload_n X d_La_target_2 rfl rfl ?_
  refine J_callVX X (H.1.1.1) rfl (k_target (r := r) (r2 := r2) hfl H.1.1 H.2.1) cd_TG_target lk_La_27 vi_TG_target (by decide) (by decide) (by decide) (by decide) rfl (by first | decide | simp [va_rf_cat, vc_r, vc_i, vc_0]) d_La_target_3 (fun q w1 hq => ?_) (fun E w1 hE => ?_)
  · obtain ⟨rfl, hq⟩ := hq
    refine J_goto (tgt := 12) X d_La_target_6 (by decide) ?_
    refine J_iconst (v := 0) X d_La_target_12 (by decide) ?_
    exact J_iret X ⟨0, rfl, Or.inl ⟨rfl, hq⟩⟩ (by decide) (by decide) d_La_target_13
  · obtain ⟨rfl, hE⟩ := hE
    refine JX_catch X HT [] ⟨0, 6, 9, 13⟩ [] rfl (fun z hz => nomatch hz) (by decide) (by decide) m_225 m_233 (fun e => ?_)
    first | refine J_astore_nr X d_La_target_9 rfl (by decide) rfl ?_ | refine J_astore_n X d_La_target_9 rfl (by decide) rfl ?_ | refine J_astore_n0 X d_La_target_9 rfl (by decide) rfl ?_
    refine J_iconst (v := 1) X d_La_target_10 (by decide) ?_
    exact J_iret X ⟨1, rfl, Or.inr ⟨rfl, hE⟩⟩ (by decide) (by decide) d_La_target_11
set_option maxRecDepth 100000 in
theorem kl_load (hfl : l.stackTraces = false) (H : CI w x rg nr yg ya ly og oa lo tr fa Y O F G) : Ct l y_La_load h_La_load (rmL 7 1 6) Δ [.ref x, .int r, .int r2, .int r3] w (fun q W => ∃ k, q = some (.int k) ∧ ((k = 0 ∧ ∃ i t c n k, i < nr ∧ r = nI i ∧ only w (isP w) (held w rg nr r2) = some t ∧ wP w t 3 = some c ∧ wK w c = some (.inr (3, n)) ∧ k < n ∧ r3 = nI k ∧ W = uP w rg i (wP w c k)) ∨ (k = 1 ∧ ¬ (regB nr r ∧ ∃ t, only w (isP w) (held w rg nr r2) = some t ∧ 0 ≤ r3 ∧ r3 < nI (sucL w t).length) ∧ W = w))) := by
  refine CtW_of (L := [some (.ref x), some (.int r), some (.int r2), some (.int r3), none]) (by decide) (by first | exact Nat.le_of_ble_eq_true rfl | simp [lg_sl, va_rf_cat, vc_r, vc_i, vc_0]) (by first | rfl | simp [lin, va_rf_cat, vc_r, vc_i, vc_0]) (fun Γ X HT => ?_)
  first | refine J_aload_nr X d_La_load_0 rfl rfl ?_ | refine J_aload_n X d_La_load_0 rfl rfl ?_ | refine J_aload_n0 X d_La_load_0 rfl rfl ?_
  refine J_iload_n X d_La_load_1 rfl rfl ?_
  refine J_iload_n X d_La_load_2 rfl rfl ?_
  refine J_iload_n X d_La_load_3 rfl rfl ?_
  refine J_callVX X (H.1.1.1) rfl (k_load (r := r) (r2 := r2) (r3 := r3) hfl H.1.1 H.2.1) cd_TG_load lk_La_20 vi_TG_load (by decide) (by decide) (by decide) (by decide) rfl (by first | decide | simp [va_rf_cat, vc_r, vc_i, vc_0]) d_La_load_4 (fun q w1 hq => ?_) (fun E w1 hE => ?_)
  · obtain ⟨rfl, hq⟩ := hq
    refine J_goto (tgt := 14) X d_La_load_7 (by decide) ?_
    refine J_iconst (v := 0) X d_La_load_14 (by decide) ?_
    exact J_iret X ⟨0, rfl, Or.inl ⟨rfl, hq⟩⟩ (by decide) (by decide) d_La_load_15
  · obtain ⟨rfl, hE⟩ := hE
    refine JX_catch X HT [] ⟨0, 7, 10, 13⟩ [] rfl (fun z hz => nomatch hz) (by decide) (by decide) m_225 m_233 (fun e => ?_)
    first | refine J_astorer X d_La_load_10 (by decide) rfl ?_ | refine J_astore X d_La_load_10 (by decide) rfl ?_ | refine J_astore0 X d_La_load_10 (by decide) rfl ?_
    refine J_iconst (v := 1) X d_La_load_12 (by decide) ?_
    exact J_iret X ⟨1, rfl, Or.inr ⟨rfl, hE⟩⟩ (by decide) (by decide) d_La_load_13
set_option maxRecDepth 100000 in
theorem kl_store (hfl : l.stackTraces = false) (H : CI w x rg nr yg ya ly og oa lo tr fa Y O F G) : Ct l y_La_store h_La_store (rmL 7 1 6) Δ [.ref x, .int r, .int r2, .int r3] w (fun q W => ∃ k, q = some (.int k) ∧ ((k = 0 ∧ ∃ j t c n k, j < nr ∧ r3 = nI j ∧ only w (isP w) (held w rg nr r) = some t ∧ wP w t 3 = some c ∧ wK w c = some (.inr (3, n)) ∧ k < n ∧ r2 = nI k ∧ W = uP w c k (wP w rg j)) ∨ (k = 1 ∧ ¬ (regB nr r3 ∧ ∃ t, only w (isP w) (held w rg nr r) = some t ∧ 0 ≤ r2 ∧ r2 < nI (sucL w t).length) ∧ W = w))) := by
  refine CtW_of (L := [some (.ref x), some (.int r), some (.int r2), some (.int r3), none]) (by decide) (by first | exact Nat.le_of_ble_eq_true rfl | simp [lg_sl, va_rf_cat, vc_r, vc_i, vc_0]) (by first | rfl | simp [lin, va_rf_cat, vc_r, vc_i, vc_0]) (fun Γ X HT => ?_)
  first | refine J_aload_nr X d_La_store_0 rfl rfl ?_ | refine J_aload_n X d_La_store_0 rfl rfl ?_ | refine J_aload_n0 X d_La_store_0 rfl rfl ?_
  refine J_iload_n X d_La_store_1 rfl rfl ?_
  refine J_iload_n X d_La_store_2 rfl rfl ?_
  refine J_iload_n X d_La_store_3 rfl rfl ?_
  refine J_callVX X (H.1.1.1) rfl (k_store (r := r) (r2 := r2) (r3 := r3) hfl H.1.1 H.2.1) cd_TG_store lk_La_24 vi_TG_store (by decide) (by decide) (by decide) (by decide) rfl (by first | decide | simp [va_rf_cat, vc_r, vc_i, vc_0]) d_La_store_4 (fun q w1 hq => ?_) (fun E w1 hE => ?_)
  · obtain ⟨rfl, hq⟩ := hq
    refine J_goto (tgt := 14) X d_La_store_7 (by decide) ?_
    refine J_iconst (v := 0) X d_La_store_14 (by decide) ?_
    exact J_iret X ⟨0, rfl, Or.inl ⟨rfl, hq⟩⟩ (by decide) (by decide) d_La_store_15
  · obtain ⟨rfl, hE⟩ := hE
    refine JX_catch X HT [] ⟨0, 7, 10, 13⟩ [] rfl (fun z hz => nomatch hz) (by decide) (by decide) m_225 m_233 (fun e => ?_)
    first | refine J_astorer X d_La_store_10 (by decide) rfl ?_ | refine J_astore X d_La_store_10 (by decide) rfl ?_ | refine J_astore0 X d_La_store_10 (by decide) rfl ?_
    refine J_iconst (v := 1) X d_La_store_12 (by decide) ?_
    exact J_iret X ⟨1, rfl, Or.inr ⟨rfl, hE⟩⟩ (by decide) (by decide) d_La_store_13
set_option maxRecDepth 100000 in
theorem kl_make (hfl : l.stackTraces = false) (H : CI w x rg nr yg ya ly og oa lo tr fa Y O F G) : Ct l y_La_make h_La_make (rmL 8 3 21) Δ [.ref x, .int r, .int v] w (fun q W => ∃ k, q = some (.int k) ∧ ((k = 0 ∧ ∃ i n t c, i < nr ∧ r = nI i ∧ v = nI n ∧ n ≤ 11 ∧ n + 1 ≤ ly ∧ wK w t = none ∧ wK w c = none ∧ c ≠ t ∧ Born (newP w t c n) W x rg nr yg ya ly og oa lo tr fa (n + 1) i t Y O F G) ∨ (k = 1 ∧ ¬ (regB nr r ∧ ∃ n, v = nI n ∧ n ≤ 11 ∧ n + 1 ≤ ly) ∧ W = w) ∨ (k = 2 ∧ regB nr r ∧ ∃ n t c, v = nI n ∧ n ≤ 11 ∧ n + 1 ≤ ly ∧ wK w t = none ∧ wK w c = none ∧ c ≠ t ∧ Bad (newP w t c n) W x rg nr yg ya ly og oa lo tr fa (n + 1) Y O F G))) := by
  refine CtW_of (L := [some (.ref x), some (.int r), some (.int v), none]) (by decide) (by first | exact Nat.le_of_ble_eq_true rfl | simp [lg_sl, va_rf_cat, vc_r, vc_i, vc_0]) (by first | rfl | simp [lin, va_rf_cat, vc_r, vc_i, vc_0]) (fun Γ X HT => ?_)
  first | refine J_aload_nr X d_La_make_0 rfl rfl ?_ | refine J_aload_n X d_La_make_0 rfl rfl ?_ | refine J_aload_n0 X d_La_make_0 rfl rfl ?_
  refine J_iload_n X d_La_make_1 rfl rfl ?_
  refine J_iload_n X d_La_make_2 rfl rfl ?_
  refine J_callVX X (H.1.1.1) rfl (k_make (r := r) (v := v) hfl H) cd_TG_make lk_La_7 vi_TG_make (by decide) (by decide) (by decide) (by decide) rfl (by first | decide | simp [va_rf_cat, vc_r, vc_i, vc_0]) d_La_make_3 (fun q w1 hq => ?_) (fun E w1 hE => ?_)
  · obtain ⟨rfl, hq⟩ := hq
    refine J_goto (tgt := 15) X d_La_make_6 (by decide) ?_
    refine J_iconst (v := 0) X d_La_make_15 (by decide) ?_
    exact J_iret X ⟨0, rfl, Or.inl ⟨rfl, hq⟩⟩ (by decide) (by decide) d_La_make_16
  · rcases hE with ⟨rfl, hE⟩ | ⟨rfl, hE⟩
    · refine JX_catch X HT [] ⟨0, 6, 9, 13⟩ [⟨0, 6, 12, 15⟩] rfl (fun z hz => nomatch hz) (by decide) (by decide) m_225 m_233 (fun e => ?_)
      first | refine J_astore_nr X d_La_make_9 rfl (by decide) rfl ?_ | refine J_astore_n X d_La_make_9 rfl (by decide) rfl ?_ | refine J_astore_n0 X d_La_make_9 rfl (by decide) rfl ?_
      refine J_iconst (v := 1) X d_La_make_10 (by decide) ?_
      exact J_iret X ⟨1, rfl, Or.inr (Or.inl ⟨rfl, hE⟩)⟩ (by decide) (by decide) d_La_make_11
    · refine JX_catch X HT [⟨0, 6, 9, 13⟩] ⟨0, 6, 12, 15⟩ [] rfl (fun z hz => ?_) (by decide) (by decide) m_226 m_358 (fun e => ?_)
      · rw [List.mem_singleton.mp hz]; exact ⟨by decide, _, m_225, by decide⟩
      · first | refine J_astore_nr X d_La_make_12 rfl (by decide) rfl ?_ | refine J_astore_n X d_La_make_12 rfl (by decide) rfl ?_ | refine J_astore_n0 X d_La_make_12 rfl (by decide) rfl ?_
        refine J_iconst (v := 2) X d_La_make_13 (by decide) ?_
        exact J_iret X ⟨2, rfl, Or.inr (Or.inr ⟨rfl, hE⟩)⟩ (by decide) (by decide) d_La_make_14
set_option maxRecDepth 100000 in
theorem kl_weak (hfl : l.stackTraces = false) (H : CI w x rg nr yg ya ly og oa lo tr fa Y O F G) : Ct l y_La_weak h_La_weak (rmL 8 2 10) Δ [.ref x, .int r, .int v] w (fun q W => ∃ k, q = some (.int k) ∧ ((k = 0 ∧ ∃ i u t, i < nr ∧ r = nI i ∧ only w (isTb w) (held w rg nr v) = some u ∧ wK w t = none ∧ Born (newK w t u) W x rg nr yg ya ly og oa lo tr fa 2 i t Y O F G) ∨ (k = 1 ∧ ¬ (regB nr r ∧ ∃ u, only w (isTb w) (held w rg nr v) = some u) ∧ W = w) ∨ (k = 2 ∧ regB nr r ∧ ∃ u t, only w (isTb w) (held w rg nr v) = some u ∧ wK w t = none ∧ Bad (newK w t u) W x rg nr yg ya ly og oa lo tr fa 2 Y O F G))) := by
  refine CtW_of (L := [some (.ref x), some (.int r), some (.int v), none]) (by decide) (by first | exact Nat.le_of_ble_eq_true rfl | simp [lg_sl, va_rf_cat, vc_r, vc_i, vc_0]) (by first | rfl | simp [lin, va_rf_cat, vc_r, vc_i, vc_0]) (fun Γ X HT => ?_)
  first | refine J_aload_nr X d_La_weak_0 rfl rfl ?_ | refine J_aload_n X d_La_weak_0 rfl rfl ?_ | refine J_aload_n0 X d_La_weak_0 rfl rfl ?_
  refine J_iload_n X d_La_weak_1 rfl rfl ?_
  refine J_iload_n X d_La_weak_2 rfl rfl ?_
  refine J_callVX X (H.1.1.1) rfl (k_weak (r := r) (v := v) hfl H) cd_TG_weak lk_La_17 vi_TG_weak (by decide) (by decide) (by decide) (by decide) rfl (by first | decide | simp [va_rf_cat, vc_r, vc_i, vc_0]) d_La_weak_3 (fun q w1 hq => ?_) (fun E w1 hE => ?_)
  · obtain ⟨rfl, hq⟩ := hq
    refine J_goto (tgt := 15) X d_La_weak_6 (by decide) ?_
    refine J_iconst (v := 0) X d_La_weak_15 (by decide) ?_
    exact J_iret X ⟨0, rfl, Or.inl ⟨rfl, hq⟩⟩ (by decide) (by decide) d_La_weak_16
  · rcases hE with ⟨rfl, hE⟩ | ⟨rfl, hE⟩
    · refine JX_catch X HT [] ⟨0, 6, 9, 13⟩ [⟨0, 6, 12, 15⟩] rfl (fun z hz => nomatch hz) (by decide) (by decide) m_225 m_233 (fun e => ?_)
      first | refine J_astore_nr X d_La_weak_9 rfl (by decide) rfl ?_ | refine J_astore_n X d_La_weak_9 rfl (by decide) rfl ?_ | refine J_astore_n0 X d_La_weak_9 rfl (by decide) rfl ?_
      refine J_iconst (v := 1) X d_La_weak_10 (by decide) ?_
      exact J_iret X ⟨1, rfl, Or.inr (Or.inl ⟨rfl, hE⟩)⟩ (by decide) (by decide) d_La_weak_11
    · refine JX_catch X HT [⟨0, 6, 9, 13⟩] ⟨0, 6, 12, 15⟩ [] rfl (fun z hz => ?_) (by decide) (by decide) m_226 m_358 (fun e => ?_)
      · rw [List.mem_singleton.mp hz]; exact ⟨by decide, _, m_225, by decide⟩
      · first | refine J_astore_nr X d_La_weak_12 rfl (by decide) rfl ?_ | refine J_astore_n X d_La_weak_12 rfl (by decide) rfl ?_ | refine J_astore_n0 X d_La_weak_12 rfl (by decide) rfl ?_
        refine J_iconst (v := 2) X d_La_weak_13 (by decide) ?_
        exact J_iret X ⟨2, rfl, Or.inr (Or.inr ⟨rfl, hE⟩)⟩ (by decide) (by decide) d_La_weak_14
set_option maxRecDepth 100000 in
theorem kl_small (hfl : l.stackTraces = false) (H : CI w x rg nr yg ya ly og oa lo tr fa Y O F G) (ho : wK w o = some (.inr (2, 1))) : Ct l y_La_small h_La_small (rmL 7 1 6) Δ [.ref x, .ref o] w (fun q W => ∃ k, q = some (.int k) ∧ ((k = 0 ∧ ∃ wA O1 F1 G1, St1 w wA x rg nr ly og oa lo tr fa Y O F G O1 F1 G1 ∧ fitY wA rg nr ly lo tr oa Y O1 F1 ∧ W = uL (colYW wA x yg ya og oa tr fa Y O1 F1 (colS wA rg nr (ly + lo) tr oa O1 F1)) o 0 (nI (sumN wA (Y.filter (inL (colS wA rg nr (ly + lo) tr oa O1 F1))))).toInt64) ∨ (k = 1 ∧ ∃ wA O1 F1 G1, St1 w wA x rg nr ly og oa lo tr fa Y O F G O1 F1 G1 ∧ ¬ fitY wA rg nr ly lo tr oa Y O1 F1 ∧ W = trW (rsW wA tr F1) tr fa (colS wA rg nr (ly + lo) tr oa O1 F1)))) := by
  refine CtW_of (L := [some (.ref x), some (.ref o), none]) (by decide) (by first | exact Nat.le_of_ble_eq_true rfl | simp [lg_sl, va_rf_cat, vc_r, vc_i, vc_0]) (by first | rfl | simp [lin, va_rf_cat, vc_r, vc_i, vc_0]) (fun Γ X HT => ?_)
  first | refine J_aload_nr X d_La_small_0 rfl rfl ?_ | refine J_aload_n X d_La_small_0 rfl rfl ?_ | refine J_aload_n0 X d_La_small_0 rfl rfl ?_
  refine J_iconst (v := 0) X d_La_small_1 (by decide) ?_
  first | refine J_aload_nr X d_La_small_2 rfl rfl ?_ | refine J_aload_n X d_La_small_2 rfl rfl ?_ | refine J_aload_n0 X d_La_small_2 rfl rfl ?_
  refine J_callVX X (H.1.1.1) rfl (k_small hfl H) cd_TG_small lk_La_40 vi_TG_small (by decide) (by decide) (by decide) (by decide) rfl (by first | decide | simp [va_rf_cat, vc_r, vc_i, vc_0]) d_La_small_3 (fun q w1 hq => ?_) (fun E w1 hE => ?_)
  · obtain ⟨wA, O1, F1, G1, hS, hf, rfl, hw1⟩ := hq
    have HA := St1_CI H hS
    have ho1 : wK w1 o = some (.inr (2, 1)) := by
      rw [hw1]
      exact (FrC_trans (St1_fr H hS) (CF_colY (R := colS wA rg nr (ly + lo) tr oa O1 F1) HA (fun t ht => CI_thing HA ((CI_colS HA).1.2.1 t ht))).1.2.2.2.2.2.2.2 o _ ho rfl).1
    refine J_i2l X d_La_small_6 ?_
    refine J_last X (ho1) (by decide) rfl rfl (nI_0.symm) (Nat.zero_lt_one) (by decide) d_La_small_7 ?_
    refine J_goto (tgt := 14) X d_La_small_8 (by decide) ?_
    refine J_iconst (v := 0) X d_La_small_14 (by decide) ?_
    exact J_iret X ⟨0, rfl, Or.inl ⟨rfl, wA, O1, F1, G1, hS, hf, by rw [hw1]⟩⟩ (by decide) (by decide) d_La_small_15
  · obtain ⟨rfl, hE⟩ := hE
    refine JX_catch X HT [] ⟨0, 8, 11, 15⟩ [] rfl (fun z hz => nomatch hz) (by decide) (by decide) m_226 m_358 (fun e => ?_)
    first | refine J_astore_nr X d_La_small_11 rfl (by decide) rfl ?_ | refine J_astore_n X d_La_small_11 rfl (by decide) rfl ?_ | refine J_astore_n0 X d_La_small_11 rfl (by decide) rfl ?_
    refine J_iconst (v := 1) X d_La_small_12 (by decide) ?_
    exact J_iret X ⟨1, rfl, Or.inr ⟨rfl, hE⟩⟩ (by decide) (by decide) d_La_small_13
end LW
