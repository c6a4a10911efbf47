/-! number, clear, move, load, store, target -/
abbrev IAE : String := "java/lang/IllegalArgumentException"
abbrev ISE : String := "java/lang/IllegalStateException"
theorem only_some {w : Wd} {d : Nat → Bool} {o : Option Nat} {t : Nat} (h : only w d o = some t) : o = some t ∧ d t = true := by
  cases o with
  | none => cases h
  | some u =>
    rw [only] at h
    split at h
    · cases h; exact ⟨rfl, by assumption⟩
    · cases h
theorem isP_k {w : Wd} {t : Nat} (h : isP w t = true) : wK w t = some (.inl 3) := by
  unfold isP at h
  split at h
  · assumption
  · cases h
theorem isWk_k {w : Wd} {t : Nat} (h : isWk w t = true) : wK w t = some (.inl 4) := by
  unfold isWk at h
  split at h
  · assumption
  · cases h
theorem oV_aast {w : Wd} {o : Option Nat} (h : oV w o) : ∀ y, o = some y → ∃ ci, wK w y = some (.inl ci) ∧ AC ci 3 := fun y e => by
  rcases oV_kd h e with hk | hk | hk
  · exact ⟨3, hk, ac_3_3⟩
  · exact ⟨4, hk, ac_4_3⟩
  · exact ⟨5, hk, ac_5_3⟩
theorem nI_of1 {n : Nat} {r : Int32} (hn : n < 2 ^ 31) (h0 : 0 ≤ r) (h1 : r < nI n) : ∃ k, k < n ∧ r = nI k := by
  obtain ⟨k, hk, rfl⟩ := nI_of (Int32.not_lt.mpr h0)
  exact ⟨k, (nI_ltI hk hn).mp h1, rfl⟩
section SE
variable {l : Launch} {Δ : Dat} {w : Wd} {x rg nr : Nat} {r : Int32}
set_option maxRecDepth 100000 in
theorem k_clear (hfl : l.stackTraces = false) (H : Rg w x rg nr) : Cx2 l y_TG_clear h_TG_clear (rmL 6 1 6) Δ [.ref x, .int r] w (fun q w' => q = none ∧ ∃ i, i < nr ∧ r = nI i ∧ w' = uP w rg i none) (fun E w' => E = IAE ∧ ¬ regB nr r ∧ w' = w) := by
  have H' := H
  obtain ⟨hx, hrg, hrk, h1, h2⟩ := H'
  refine Cx2_of (L := [some (.ref x), some (.int r)]) (by decide) (by first | exact Nat.le_of_ble_eq_true rfl | simp [lg_sl, va_rf_cat, vc_r, vc_i, vc_0]) (by first | rfl | simp [lin, va_rf_cat, vc_r, vc_i, vc_0]) (fun Γ X HT => ?_)
  first | refine J_aload_nr X d_TG_clear_0 rfl rfl ?_ | refine J_aload_n X d_TG_clear_0 rfl rfl ?_ | refine J_aload_n0 X d_TG_clear_0 rfl rfl ?_
  refine J_iload_n X d_TG_clear_1 rfl rfl ?_
  refine J_callV X (hx) rfl (k_isRegister (r := r) H) cd_TG_isRegister lk_TG_42 vi_TG_isRegister (by decide) (by decide) (by decide) (by decide) rfl (by first | decide | simp [va_rf_cat, vc_r, vc_i, vc_0]) d_TG_clear_2 (fun q w1 hq => ?_)
  obtain ⟨rfl, hw1⟩ := hq
  refine J_eq hw1 rfl ?_
  by_cases h : regB nr r
  · refine J_top (v' := .int 1) (by rw [if_pos h]) ?_
    refine J_if_ne (tgt := 18) X d_TG_clear_5 (by decide) (fun g => ?_) (fun g => ?_)
    · obtain ⟨i, hi, rfl⟩ := regB_at h1 h2 h
      first | refine J_aload_nr X d_TG_clear_18 rfl rfl ?_ | refine J_aload_n X d_TG_clear_18 rfl rfl ?_ | refine J_aload_n0 X d_TG_clear_18 rfl rfl ?_
      refine J_getR X (hx) fa_TG_15_0 rfl (hrg) d_TG_clear_19 ?_
      refine J_iload_n X d_TG_clear_22 rfl rfl ?_
      refine J_null X d_TG_clear_23 ?_
      refine J_aast0 X hrk (by decide) rfl ⟨_, rfl⟩ rfl hi (by omega) d_TG_clear_24 ?_
      exact J_lift (J_vret X ⟨rfl, i, hi, rfl, rfl⟩ (by decide) (by decide) d_TG_clear_25)
    · exact absurd g (by decide)
  · refine J_top (v' := .int 0) (by rw [if_neg h]) ?_
    refine J_if_ne (tgt := 18) X d_TG_clear_5 (by decide) (fun g => ?_) (fun g => ?_)
    · exact absurd rfl g
    · exact J_throw X hfl HT (xd_IA sr_100) (⟨rfl, h, rfl⟩) d_TG_clear_8 d_TG_clear_11 d_TG_clear_12 d_TG_clear_14 d_TG_clear_17 (by decide) (by decide) (by decide) (by decide) (by decide) (by decide) (by decide)
set_option maxRecDepth 100000 in
theorem k_move {r2 : Int32} (hfl : l.stackTraces = false) (H : Rg w x rg nr) (hv : ∀ j, j < nr → oV w (wP w rg j)) : Cx2 l y_TG_move h_TG_move (rmL 6 1 6) Δ [.ref x, .int r, .int r2] w (fun q w' => q = none ∧ ∃ i j, i < nr ∧ r = nI i ∧ j < nr ∧ r2 = nI j ∧ w' = uP w rg i (wP w rg j)) (fun E w' => E = IAE ∧ ¬ (regB nr r ∧ regB nr r2) ∧ w' = w) := by
  have H' := H
  obtain ⟨hx, hrg, hrk, h1, h2⟩ := H'
  refine Cx2_of (L := [some (.ref x), some (.int r), some (.int r2)]) (by decide) (by first | exact Nat.le_of_ble_eq_true rfl | simp [lg_sl, va_rf_cat, vc_r, vc_i, vc_0]) (by first | rfl | simp [lin, va_rf_cat, vc_r, vc_i, vc_0]) (fun Γ X HT => ?_)
  first | refine J_aload_nr X d_TG_move_0 rfl rfl ?_ | refine J_aload_n X d_TG_move_0 rfl rfl ?_ | refine J_aload_n0 X d_TG_move_0 rfl rfl ?_
  refine J_iload_n X d_TG_move_1 rfl rfl ?_
  refine J_callV X (hx) rfl (k_isRegister (r := r) H) cd_TG_isRegister lk_TG_42 vi_TG_isRegister (by decide) (by decide) (by decide) (by decide) rfl (by first | decide | simp [va_rf_cat, vc_r, vc_i, vc_0]) d_TG_move_2 (fun q w1 hq => ?_)
  obtain ⟨rfl, hw1⟩ := hq
  refine J_eq hw1 rfl ?_
  by_cases h : regB nr r
  · refine J_top (v' := .int 1) (by rw [if_pos h]) ?_
    refine J_if_eq (tgt := 16) X d_TG_move_5 (by decide) (fun g => ?_) (fun g => ?_)
    · exact absurd g (by decide)
    · first | refine J_aload_nr X d_TG_move_8 rfl rfl ?_ | refine J_aload_n X d_TG_move_8 rfl rfl ?_ | refine J_aload_n0 X d_TG_move_8 rfl rfl ?_
      refine J_iload_n X d_TG_move_9 rfl rfl ?_
      refine J_callV X (hx) rfl (k_isRegister (r := r2) H) cd_TG_isRegister lk_TG_42 vi_TG_isRegister (by decide) (by decide) (by decide) (by decide) rfl (by first | decide | simp [va_rf_cat, vc_r, vc_i, vc_0]) d_TG_move_10 (fun q w2 hq => ?_)
      obtain ⟨rfl, hw2⟩ := hq
      refine J_eq hw2 rfl ?_
      by_cases h' : regB nr r2
      · refine J_top (v' := .int 1) (by rw [if_pos h']) ?_
        obtain ⟨i, hi, rfl⟩ := regB_at h1 h2 h
        obtain ⟨j, hj, rfl⟩ := regB_at h1 h2 h'
        refine J_if_ne (tgt := 26) X d_TG_move_13 (by decide) (fun g => ?_) (fun g => ?_)
        · first | refine J_aload_nr X d_TG_move_26 rfl rfl ?_ | refine J_aload_n X d_TG_move_26 rfl rfl ?_ | refine J_aload_n0 X d_TG_move_26 rfl rfl ?_
          refine J_getR X (hx) fa_TG_15_0 rfl (hrg) d_TG_move_27 ?_
          refine J_iload_n X d_TG_move_30 rfl rfl ?_
          first | refine J_aload_nr X d_TG_move_31 rfl rfl ?_ | refine J_aload_n X d_TG_move_31 rfl rfl ?_ | refine J_aload_n0 X d_TG_move_31 rfl rfl ?_
          refine J_getR X (hx) fa_TG_15_0 rfl (hrg) d_TG_move_32 ?_
          refine J_iload_n X d_TG_move_35 rfl rfl ?_
          refine J_aald X (hrk) (by decide) rfl ⟨_, rfl⟩ (rfl) (hj) (by omega) (rfl) d_TG_move_36 ?_
          refine J_aast X hrk (by decide) rfl ⟨_, rfl⟩ (oV_aast (hv j hj)) rfl hi (by omega) d_TG_move_37 ?_
          exact J_lift (J_vret X ⟨rfl, i, j, hi, rfl, hj, rfl, rfl⟩ (by decide) (by decide) d_TG_move_38)
        · exact absurd g (by decide)
      · refine J_top (v' := .int 0) (by rw [if_neg h']) ?_
        refine J_if_ne (tgt := 26) X d_TG_move_13 (by decide) (fun g => ?_) (fun g => ?_)
        · exact absurd rfl g
        · exact J_throw X hfl HT (xd_IA sr_100) (⟨rfl, fun q => h' q.2, rfl⟩) d_TG_move_16 d_TG_move_19 d_TG_move_20 d_TG_move_22 d_TG_move_25 (by decide) (by decide) (by decide) (by decide) (by decide) (by decide) (by decide)
  · refine J_top (v' := .int 0) (by rw [if_neg h]) ?_
    refine J_if_eq (tgt := 16) X d_TG_move_5 (by decide) (fun g => ?_) (fun g => ?_)
    · exact J_throw X hfl HT (xd_IA sr_100) (⟨rfl, fun q => h q.1, rfl⟩) d_TG_move_16 d_TG_move_19 d_TG_move_20 d_TG_move_22 d_TG_move_25 (by decide) (by decide) (by decide) (by decide) (by decide) (by decide) (by decide)
    · exact absurd rfl g
set_option maxRecDepth 100000 in
theorem k_number {v : Int32} (hfl : l.stackTraces = false) (H : Rg w x rg nr) : Cx2 l y_TG_number h_TG_number (rmL 6 1 6) Δ [.ref x, .int r, .int v] w (fun q w' => q = none ∧ ∃ i a, i < nr ∧ r = nI i ∧ (-1073741824 ≤ v ∧ v ≤ 1073741823) ∧ wK w a = none ∧ w' = uP (uI (uN w a (.inl 5)) a 0 v) rg i (some a)) (fun E w' => E = IAE ∧ ¬ (regB nr r ∧ (-1073741824 ≤ v ∧ v ≤ 1073741823)) ∧ w' = w) := by
  have H' := H
  obtain ⟨hx, hrg, hrk, h1, h2⟩ := H'
  refine Cx2_of (L := [some (.ref x), some (.int r), some (.int v)]) (by decide) (by first | exact Nat.le_of_ble_eq_true rfl | simp [lg_sl, va_rf_cat, vc_r, vc_i, vc_0]) (by first | rfl | simp [lin, va_rf_cat, vc_r, vc_i, vc_0]) (fun Γ X HT => ?_)
  first | refine J_aload_nr X d_TG_number_0 rfl rfl ?_ | refine J_aload_n X d_TG_number_0 rfl rfl ?_ | refine J_aload_n0 X d_TG_number_0 rfl rfl ?_
  refine J_iload_n X d_TG_number_1 rfl rfl ?_
  refine J_callV X (hx) rfl (k_isRegister (r := r) H) cd_TG_isRegister lk_TG_42 vi_TG_isRegister (by decide) (by decide) (by decide) (by decide) rfl (by first | decide | simp [va_rf_cat, vc_r, vc_i, vc_0]) d_TG_number_2 (fun q w1 hq => ?_)
  obtain ⟨rfl, hw1⟩ := hq
  refine J_eq hw1 rfl ?_
  by_cases h : regB nr r
  · refine J_top (v' := .int 1) (by rw [if_pos h]) ?_
    refine J_if_eq (tgt := 19) X d_TG_number_5 (by decide) (fun g => ?_) (fun g => ?_)
    · exact absurd g (by decide)
    · refine J_iload_n X d_TG_number_8 rfl rfl ?_
      refine J_ldc X d_TG_number_9 m_433 ?_
      refine J_ldc X d_TG_number_11 m_434 ?_
      refine J_callS X (k_within (v := v) (lo := -1073741824) (hi := 1073741823)) cd_TG_within lk_TG_7 st_TG_within (by decide) (by decide) (by decide) (by decide) rfl (by first | decide | simp [va_rf_cat, vc_r, vc_i, vc_0]) d_TG_number_13 (fun q w2 hq => ?_)
      obtain ⟨rfl, hw2⟩ := hq
      refine J_eq hw2 rfl ?_
      by_cases h' : -1073741824 ≤ v ∧ v ≤ 1073741823
      · refine J_top (v' := .int 1) (by rw [if_pos h']) ?_
        obtain ⟨i, hi, rfl⟩ := regB_at h1 h2 h
        refine J_if_ne (tgt := 29) X d_TG_number_16 (by decide) (fun g => ?_) (fun g => ?_)
        · first | refine J_aload_nr X d_TG_number_29 rfl rfl ?_ | refine J_aload_n X d_TG_number_29 rfl rfl ?_ | refine J_aload_n0 X d_TG_number_29 rfl rfl ?_
          refine J_getR X (hx) fa_TG_15_0 rfl (hrg) d_TG_number_30 ?_
          refine J_iload_n X d_TG_number_33 rfl rfl ?_
          refine J_new X nd_TG_97 (by decide) (by decide) d_TG_number_34 (fun a ha => ?_)
          have hak : wK (uN w a (.inl 5)) a = some (.inl 5) := by rw [wK_uN, if_pos rfl]
          have hrga : rg ≠ a := ne_new hrk ha
          refine J_dup X d_TG_number_37 (rfl) ?_
          refine J_iload_n X d_TG_number_38 rfl rfl ?_
          refine J_callI X (k_Wh_init (a := a) (n := v) hak) cd_Wh_init lk_TG_99 ii_Wh_init (by decide) (by decide) (by decide) (by decide) rfl (by first | decide | simp [va_rf_cat, vc_r, vc_i, vc_0]) d_TG_number_39 (fun r w1 hr => ?_)
          obtain ⟨rfl, rfl⟩ := hr
          refine J_aastr X (n := nr) (by rw [wK_uI, wK_uN, if_neg hrga]; exact hrk) (by decide) rfl ⟨_, rfl⟩ ⟨5, hak, ac_5_3⟩ rfl hi (by omega) d_TG_number_42 ?_
          exact J_lift (J_vret X ⟨rfl, i, a, hi, rfl, h', ha, rfl⟩ (by decide) (by decide) d_TG_number_43)
        · exact absurd g (by decide)
      · refine J_top (v' := .int 0) (by rw [if_neg h']) ?_
        refine J_if_ne (tgt := 29) X d_TG_number_16 (by decide) (fun g => ?_) (fun g => ?_)
        · exact absurd rfl g
        · exact J_throw X hfl HT (xd_IA sr_95) (⟨rfl, fun q => h' q.2, rfl⟩) d_TG_number_19 d_TG_number_22 d_TG_number_23 d_TG_number_25 d_TG_number_28 (by decide) (by decide) (by decide) (by decide) (by decide) (by decide) (by decide)
  · refine J_top (v' := .int 0) (by rw [if_neg h]) ?_
    refine J_if_eq (tgt := 19) X d_TG_number_5 (by decide) (fun g => ?_) (fun g => ?_)
    · exact J_throw X hfl HT (xd_IA sr_95) (⟨rfl, fun q => h q.1, rfl⟩) d_TG_number_19 d_TG_number_22 d_TG_number_23 d_TG_number_25 d_TG_number_28 (by decide) (by decide) (by decide) (by decide) (by decide) (by decide) (by decide)
    · exact absurd rfl g
set_option maxRecDepth 100000 in
theorem k_target {r2 : Int32} (hfl : l.stackTraces = false) (H : Rg w x rg nr) (hT : HT w rg nr) : Cx2 l y_TG_target h_TG_target (rmL 6 1 6) Δ [.ref x, .int r, .int r2] w (fun q w' => q = none ∧ ∃ i t, i < nr ∧ r = nI i ∧ only w (isWk w) (held w rg nr r2) = some t ∧ w' = uP w rg i (wP w t 3)) (fun E w' => E = IAE ∧ ¬ (regB nr r ∧ ∃ t, only w (isWk w) (held w rg nr r2) = some t) ∧ w' = w) := by
  have H' := H
  obtain ⟨hx, hrg, hrk, h1, h2⟩ := H'
  have hv := hT.2.2.2
  refine Cx2_of (L := [some (.ref x), some (.int r), some (.int r2), none]) (by decide) (by first | exact Nat.le_of_ble_eq_true rfl | simp [lg_sl, va_rf_cat, vc_r, vc_i, vc_0]) (by first | rfl | simp [lin, va_rf_cat, vc_r, vc_i, vc_0]) (fun Γ X HT => ?_)
  first | refine J_aload_nr X d_TG_target_0 rfl rfl ?_ | refine J_aload_n X d_TG_target_0 rfl rfl ?_ | refine J_aload_n0 X d_TG_target_0 rfl rfl ?_
  refine J_iload_n X d_TG_target_1 rfl rfl ?_
  refine J_callV X (hx) rfl (k_weakIn (r := r2) H hv) cd_TG_weakIn lk_TG_83 vi_TG_weakIn (by decide) (by decide) (by decide) (by decide) rfl (by first | decide | simp [va_rf_cat, vc_r, vc_i, vc_0]) d_TG_target_2 (fun q w1 hq => ?_)
  obtain ⟨rfl, hw1⟩ := hq
  refine J_eq hw1 rfl ?_
  first | refine J_astore_nr X d_TG_target_5 rfl (by decide) rfl ?_ | refine J_astore_n X d_TG_target_5 rfl (by decide) rfl ?_ | refine J_astore_n0 X d_TG_target_5 rfl (by decide) rfl ?_
  first | refine J_aload_nr X d_TG_target_6 rfl rfl ?_ | refine J_aload_n X d_TG_target_6 rfl rfl ?_ | refine J_aload_n0 X d_TG_target_6 rfl rfl ?_
  refine J_iload_n X d_TG_target_7 rfl rfl ?_
  refine J_callV X (hx) rfl (k_isRegister (r := r) H) cd_TG_isRegister lk_TG_42 vi_TG_isRegister (by decide) (by decide) (by decide) (by decide) rfl (by first | decide | simp [va_rf_cat, vc_r, vc_i, vc_0]) d_TG_target_8 (fun q w1 hq => ?_)
  obtain ⟨rfl, hw1⟩ := hq
  refine J_eq hw1 rfl ?_
  by_cases h : regB nr r
  · refine J_top (v' := .int 1) (by rw [if_pos h]) ?_
    refine J_if_eq (tgt := 18) X d_TG_target_11 (by decide) (fun g => ?_) (fun g => ?_)
    · exact absurd g (by decide)
    · cases hh : only w (isWk w) (held w rg nr r2) with
      | none =>
        first | refine J_aload_nr X d_TG_target_14 rfl rfl ?_ | refine J_aload_n X d_TG_target_14 rfl rfl ?_ | refine J_aload_n0 X d_TG_target_14 rfl rfl ?_
        refine J_ifnonnull0 X d_TG_target_15 ?_
        exact J_throw X hfl HT (xd_IA sr_87) (⟨rfl, fun q => (by obtain ⟨t, ht⟩ := q.2; cases ht), rfl⟩) d_TG_target_18 d_TG_target_21 d_TG_target_22 d_TG_target_24 d_TG_target_27 (by decide) (by decide) (by decide) (by decide) (by decide) (by decide) (by decide)
      | some t =>
        first | refine J_aload_nr X d_TG_target_14 rfl rfl ?_ | refine J_aload_n X d_TG_target_14 rfl rfl ?_ | refine J_aload_n0 X d_TG_target_14 rfl rfl ?_
        refine J_ifnonnullr (tgt := 28) X d_TG_target_15 (by decide) ?_
        obtain ⟨i, hi, rfl⟩ := regB_at h1 h2 h
        have hk := isWk_k (only_some hh).2
        first | refine J_aload_nr X d_TG_target_28 rfl rfl ?_ | refine J_aload_n X d_TG_target_28 rfl rfl ?_ | refine J_aload_n0 X d_TG_target_28 rfl rfl ?_
        refine J_getR X (hx) fa_TG_15_0 rfl (hrg) d_TG_target_29 ?_
        refine J_iload_n X d_TG_target_32 rfl rfl ?_
        first | refine J_aload_nr X d_TG_target_33 rfl rfl ?_ | refine J_aload_n X d_TG_target_33 rfl rfl ?_ | refine J_aload_n0 X d_TG_target_33 rfl rfl ?_
        refine J_getP X (hk) fa_TG_89_4 rfl (rfl) d_TG_target_34 ?_
        refine J_aast X hrk (by decide) rfl ⟨_, rfl⟩ (oV_aast (fun u hu => Or.inl ((hT.2.2.1 t hk).2 u hu))) rfl hi (by omega) d_TG_target_37 ?_
        exact J_lift (J_vret X ⟨rfl, i, t, hi, rfl, rfl, rfl⟩ (by decide) (by decide) d_TG_target_38)
  · refine J_top (v' := .int 0) (by rw [if_neg h]) ?_
    refine J_if_eq (tgt := 18) X d_TG_target_11 (by decide) (fun g => ?_) (fun g => ?_)
    · exact J_throw X hfl HT (xd_IA sr_87) (⟨rfl, fun q => h q.1, rfl⟩) d_TG_target_18 d_TG_target_21 d_TG_target_22 d_TG_target_24 d_TG_target_27 (by decide) (by decide) (by decide) (by decide) (by decide) (by decide) (by decide)
    · exact absurd rfl g
set_option maxRecDepth 100000 in
theorem k_load {r2 r3 : Int32} (hfl : l.stackTraces = false) (H : Rg w x rg nr) (hT : HT w rg nr) : Cx2 l y_TG_load h_TG_load (rmL 6 1 6) Δ [.ref x, .int r, .int r2, .int r3] w (fun q w' => q = none ∧ ∃ i t c n k, i < nr ∧ r = nI i ∧ only w (isP w) (held w rg nr r2) = some t ∧ wP w t 3 = some c ∧ wK w c = some (.inr (3, n)) ∧ k < n ∧ r3 = nI k ∧ w' = uP w rg i (wP w c k)) (fun E w' => E = IAE ∧ ¬ (regB nr r ∧ ∃ t, only w (isP w) (held w rg nr r2) = some t ∧ 0 ≤ r3 ∧ r3 < nI (sucL w t).length) ∧ w' = w) := by
  have H' := H
  obtain ⟨hx, hrg, hrk, h1, h2⟩ := H'
  have hv := hT.2.2.2
  refine Cx2_of (L := [some (.ref x), some (.int r), some (.int r2), some (.int r3), none]) (by decide) (by first | exact Nat.le_of_ble_eq_true rfl | simp [lg_sl, va_rf_cat, vc_r, vc_i, vc_0]) (by first | rfl | simp [lin, va_rf_cat, vc_r, vc_i, vc_0]) (fun Γ X HT => ?_)
  first | refine J_aload_nr X d_TG_load_0 rfl rfl ?_ | refine J_aload_n X d_TG_load_0 rfl rfl ?_ | refine J_aload_n0 X d_TG_load_0 rfl rfl ?_
  refine J_iload_n X d_TG_load_1 rfl rfl ?_
  refine J_callV X (hx) rfl (k_plainIn (r := r2) H hv) cd_TG_plainIn lk_TG_71 vi_TG_plainIn (by decide) (by decide) (by decide) (by decide) rfl (by first | decide | simp [va_rf_cat, vc_r, vc_i, vc_0]) d_TG_load_2 (fun q w1 hq => ?_)
  obtain ⟨rfl, hw1⟩ := hq
  refine J_eq hw1 rfl ?_
  first | refine J_astorer X d_TG_load_5 (by decide) rfl ?_ | refine J_astore X d_TG_load_5 (by decide) rfl ?_ | refine J_astore0 X d_TG_load_5 (by decide) rfl ?_
  first | refine J_aload_nr X d_TG_load_7 rfl rfl ?_ | refine J_aload_n X d_TG_load_7 rfl rfl ?_ | refine J_aload_n0 X d_TG_load_7 rfl rfl ?_
  refine J_iload_n X d_TG_load_8 rfl rfl ?_
  refine J_callV X (hx) rfl (k_isRegister (r := r) H) cd_TG_isRegister lk_TG_42 vi_TG_isRegister (by decide) (by decide) (by decide) (by decide) rfl (by first | decide | simp [va_rf_cat, vc_r, vc_i, vc_0]) d_TG_load_9 (fun q w1 hq => ?_)
  obtain ⟨rfl, hw1⟩ := hq
  refine J_eq hw1 rfl ?_
  by_cases h : regB nr r
  · refine J_top (v' := .int 1) (by rw [if_pos h]) ?_
    refine J_if_eq (tgt := 29) X d_TG_load_12 (by decide) (fun g => ?_) (fun g => ?_)
    · exact absurd g (by decide)
    · cases hh : only w (isP w) (held w rg nr r2) with
      | none =>
        first | refine J_aloadr X d_TG_load_15 rfl ?_ | refine J_aload X d_TG_load_15 rfl ?_ | refine J_aload0 X d_TG_load_15 rfl ?_
        refine J_ifnull0 (tgt := 29) X d_TG_load_17 (by decide) ?_
        exact J_throw X hfl HT (xd_IA sr_78) (⟨rfl, fun q => (by obtain ⟨t, ht, -⟩ := q.2; cases ht), rfl⟩) d_TG_load_29 d_TG_load_32 d_TG_load_33 d_TG_load_35 d_TG_load_38 (by decide) (by decide) (by decide) (by decide) (by decide) (by decide) (by decide)
      | some t =>
        first | refine J_aloadr X d_TG_load_15 rfl ?_ | refine J_aload X d_TG_load_15 rfl ?_ | refine J_aload0 X d_TG_load_15 rfl ?_
        refine J_ifnullr X d_TG_load_17 ?_
        have hk := isP_k (only_some hh).2
        obtain ⟨c, n, e1, e2, e3, -, -, e4⟩ := hT.1 t hk
        have el : (sucL w t).length = n := by rw [sucL_of (w := w) hk e1 e2]; simp [rowL]
        first | refine J_aloadr X d_TG_load_20 rfl ?_ | refine J_aload X d_TG_load_20 rfl ?_ | refine J_aload0 X d_TG_load_20 rfl ?_
        refine J_iload_n X d_TG_load_22 rfl rfl ?_
        refine J_callV X (hk) rfl (k_hasField (i := r3) hk e1 e2) cd_Pl_hasField lk_TG_75 vi_Pl_hasField (by decide) (by decide) (by decide) (by decide) rfl (by first | decide | simp [va_rf_cat, vc_r, vc_i, vc_0]) d_TG_load_23 (fun q w1 hq => ?_)
        obtain ⟨rfl, hw1⟩ := hq
        refine J_eq hw1 rfl ?_
        by_cases h' : 0 ≤ r3 ∧ r3 < nI n
        · refine J_top (v' := .int 1) (by rw [if_pos h']) ?_
          obtain ⟨i, hi, rfl⟩ := regB_at h1 h2 h
          refine J_if_ne (tgt := 39) X d_TG_load_26 (by decide) (fun g => ?_) (fun g => ?_)
          · obtain ⟨k, hkn, rfl⟩ : ∃ k, k < n ∧ r3 = nI k := nI_of1 (by omega) h'.1 h'.2
            first | refine J_aload_nr X d_TG_load_39 rfl rfl ?_ | refine J_aload_n X d_TG_load_39 rfl rfl ?_ | refine J_aload_n0 X d_TG_load_39 rfl rfl ?_
            refine J_getR X (hx) fa_TG_15_0 rfl (hrg) d_TG_load_40 ?_
            refine J_iload_n X d_TG_load_43 rfl rfl ?_
            first | refine J_aloadr X d_TG_load_44 rfl ?_ | refine J_aload X d_TG_load_44 rfl ?_ | refine J_aload0 X d_TG_load_44 rfl ?_
            refine J_getR X (hk) fa_TG_80_3 rfl (e1) d_TG_load_46 ?_
            refine J_iload_n X d_TG_load_49 rfl rfl ?_
            refine J_aald X (e2) (by decide) rfl ⟨_, rfl⟩ (rfl) (hkn) (by omega) (rfl) d_TG_load_50 ?_
            refine J_aast X hrk (by decide) rfl ⟨_, rfl⟩ (oV_aast (e4 k hkn)) rfl hi (by omega) d_TG_load_51 ?_
            exact J_lift (J_vret X ⟨rfl, i, t, c, n, k, hi, rfl, rfl, e1, e2, hkn, rfl, rfl⟩ (by decide) (by decide) d_TG_load_52)
          · exact absurd g (by decide)
        · refine J_top (v' := .int 0) (by rw [if_neg h']) ?_
          refine J_if_ne (tgt := 39) X d_TG_load_26 (by decide) (fun g => ?_) (fun g => ?_)
          · exact absurd rfl g
          · exact J_throw X hfl HT (xd_IA sr_78) (⟨rfl, fun q => by obtain ⟨u, hu, a1, a2⟩ := q.2; cases hu; rw [el] at a2; exact h' ⟨a1, a2⟩, rfl⟩) d_TG_load_29 d_TG_load_32 d_TG_load_33 d_TG_load_35 d_TG_load_38 (by decide) (by decide) (by decide) (by decide) (by decide) (by decide) (by decide)
  · refine J_top (v' := .int 0) (by rw [if_neg h]) ?_
    refine J_if_eq (tgt := 29) X d_TG_load_12 (by decide) (fun g => ?_) (fun g => ?_)
    · exact J_throw X hfl HT (xd_IA sr_78) (⟨rfl, fun q => h q.1, rfl⟩) d_TG_load_29 d_TG_load_32 d_TG_load_33 d_TG_load_35 d_TG_load_38 (by decide) (by decide) (by decide) (by decide) (by decide) (by decide) (by decide)
    · exact absurd rfl g
set_option maxRecDepth 100000 in
theorem k_store {r2 r3 : Int32} (hfl : l.stackTraces = false) (H : Rg w x rg nr) (hT : HT w rg nr) : Cx2 l y_TG_store h_TG_store (rmL 6 1 6) Δ [.ref x, .int r, .int r2, .int r3] w (fun q w' => q = none ∧ ∃ j t c n k, j < nr ∧ r3 = nI j ∧ only w (isP w) (held w rg nr r) = some t ∧ wP w t 3 = some c ∧ wK w c = some (.inr (3, n)) ∧ k < n ∧ r2 = nI k ∧ w' = uP w c k (wP w rg j)) (fun E w' => E = IAE ∧ ¬ (regB nr r3 ∧ ∃ t, only w (isP w) (held w rg nr r) = some t ∧ 0 ≤ r2 ∧ r2 < nI (sucL w t).length) ∧ w' = w) := by
  have H' := H
  obtain ⟨hx, hrg, hrk, h1, h2⟩ := H'
  have hv := hT.2.2.2
  refine Cx2_of (L := [some (.ref x), some (.int r), some (.int r2), some (.int r3), none]) (by decide) (by first | exact Nat.le_of_ble_eq_true rfl | simp [lg_sl, va_rf_cat, vc_r, vc_i, vc_0]) (by first | rfl | simp [lin, va_rf_cat, vc_r, vc_i, vc_0]) (fun Γ X HT => ?_)
  first | refine J_aload_nr X d_TG_store_0 rfl rfl ?_ | refine J_aload_n X d_TG_store_0 rfl rfl ?_ | refine J_aload_n0 X d_TG_store_0 rfl rfl ?_
  refine J_iload_n X d_TG_store_1 rfl rfl ?_
  refine J_callV X (hx) rfl (k_plainIn (r := r) H hv) cd_TG_plainIn lk_TG_71 vi_TG_plainIn (by decide) (by decide) (by decide) (by decide) rfl (by first | decide | simp [va_rf_cat, vc_r, vc_i, vc_0]) d_TG_store_2 (fun q w1 hq => ?_)
  obtain ⟨rfl, hw1⟩ := hq
  refine J_eq hw1 rfl ?_
  first | refine J_astorer X d_TG_store_5 (by decide) rfl ?_ | refine J_astore X d_TG_store_5 (by decide) rfl ?_ | refine J_astore0 X d_TG_store_5 (by decide) rfl ?_
  first | refine J_aload_nr X d_TG_store_7 rfl rfl ?_ | refine J_aload_n X d_TG_store_7 rfl rfl ?_ | refine J_aload_n0 X d_TG_store_7 rfl rfl ?_
  refine J_iload_n X d_TG_store_8 rfl rfl ?_
  refine J_callV X (hx) rfl (k_isRegister (r := r3) H) cd_TG_isRegister lk_TG_42 vi_TG_isRegister (by decide) (by decide) (by decide) (by decide) rfl (by first | decide | simp [va_rf_cat, vc_r, vc_i, vc_0]) d_TG_store_9 (fun q w1 hq => ?_)
  obtain ⟨rfl, hw1⟩ := hq
  refine J_eq hw1 rfl ?_
  by_cases h : regB nr r3
  · refine J_top (v' := .int 1) (by rw [if_pos h]) ?_
    refine J_if_eq (tgt := 29) X d_TG_store_12 (by decide) (fun g => ?_) (fun g => ?_)
    · exact absurd g (by decide)
    · cases hh : only w (isP w) (held w rg nr r) with
      | none =>
        first | refine J_aloadr X d_TG_store_15 rfl ?_ | refine J_aload X d_TG_store_15 rfl ?_ | refine J_aload0 X d_TG_store_15 rfl ?_
        refine J_ifnull0 (tgt := 29) X d_TG_store_17 (by decide) ?_
        exact J_throw X hfl HT (xd_IA sr_78) (⟨rfl, fun q => (by obtain ⟨t, ht, -⟩ := q.2; cases ht), rfl⟩) d_TG_store_29 d_TG_store_32 d_TG_store_33 d_TG_store_35 d_TG_store_38 (by decide) (by decide) (by decide) (by decide) (by decide) (by decide) (by decide)
      | some t =>
        first | refine J_aloadr X d_TG_store_15 rfl ?_ | refine J_aload X d_TG_store_15 rfl ?_ | refine J_aload0 X d_TG_store_15 rfl ?_
        refine J_ifnullr X d_TG_store_17 ?_
        have hk := isP_k (only_some hh).2
        obtain ⟨c, n, e1, e2, e3, -, -, e4⟩ := hT.1 t hk
        have el : (sucL w t).length = n := by rw [sucL_of (w := w) hk e1 e2]; simp [rowL]
        first | refine J_aloadr X d_TG_store_20 rfl ?_ | refine J_aload X d_TG_store_20 rfl ?_ | refine J_aload0 X d_TG_store_20 rfl ?_
        refine J_iload_n X d_TG_store_22 rfl rfl ?_
        refine J_callV X (hk) rfl (k_hasField (i := r2) hk e1 e2) cd_Pl_hasField lk_TG_75 vi_Pl_hasField (by decide) (by decide) (by decide) (by decide) rfl (by first | decide | simp [va_rf_cat, vc_r, vc_i, vc_0]) d_TG_store_23 (fun q w1 hq => ?_)
        obtain ⟨rfl, hw1⟩ := hq
        refine J_eq hw1 rfl ?_
        by_cases h' : 0 ≤ r2 ∧ r2 < nI n
        · refine J_top (v' := .int 1) (by rw [if_pos h']) ?_
          obtain ⟨j, hj, rfl⟩ := regB_at h1 h2 h
          refine J_if_ne (tgt := 39) X d_TG_store_26 (by decide) (fun g => ?_) (fun g => ?_)
          · obtain ⟨k, hkn, rfl⟩ : ∃ k, k < n ∧ r2 = nI k := nI_of1 (by omega) h'.1 h'.2
            first | refine J_aloadr X d_TG_store_39 rfl ?_ | refine J_aload X d_TG_store_39 rfl ?_ | refine J_aload0 X d_TG_store_39 rfl ?_
            refine J_getR X (hk) fa_TG_80_3 rfl (e1) d_TG_store_41 ?_
            refine J_iload_n X d_TG_store_44 rfl rfl ?_
            first | refine J_aload_nr X d_TG_store_45 rfl rfl ?_ | refine J_aload_n X d_TG_store_45 rfl rfl ?_ | refine J_aload_n0 X d_TG_store_45 rfl rfl ?_
            refine J_getR X (hx) fa_TG_15_0 rfl (hrg) d_TG_store_46 ?_
            refine J_iload_n X d_TG_store_49 rfl rfl ?_
            refine J_aald X (hrk) (by decide) rfl ⟨_, rfl⟩ (rfl) (hj) (by omega) (rfl) d_TG_store_50 ?_
            refine J_aast X e2 (by decide) rfl ⟨_, rfl⟩ (oV_aast (hv j hj)) rfl hkn (by omega) d_TG_store_51 ?_
            exact J_lift (J_vret X ⟨rfl, j, t, c, n, k, hj, rfl, rfl, e1, e2, hkn, rfl, rfl⟩ (by decide) (by decide) d_TG_store_52)
          · exact absurd g (by decide)
        · refine J_top (v' := .int 0) (by rw [if_neg h']) ?_
          refine J_if_ne (tgt := 39) X d_TG_store_26 (by decide) (fun g => ?_) (fun g => ?_)
          · exact absurd rfl g
          · exact J_throw X hfl HT (xd_IA sr_78) (⟨rfl, fun q => by obtain ⟨u, hu, a1, a2⟩ := q.2; cases hu; rw [el] at a2; exact h' ⟨a1, a2⟩, rfl⟩) d_TG_store_29 d_TG_store_32 d_TG_store_33 d_TG_store_35 d_TG_store_38 (by decide) (by decide) (by decide) (by decide) (by decide) (by decide) (by decide)
  · refine J_top (v' := .int 0) (by rw [if_neg h]) ?_
    refine J_if_eq (tgt := 29) X d_TG_store_12 (by decide) (fun g => ?_) (fun g => ?_)
    · exact J_throw X hfl HT (xd_IA sr_78) (⟨rfl, fun q => h q.1, rfl⟩) d_TG_store_29 d_TG_store_32 d_TG_store_33 d_TG_store_35 d_TG_store_38 (by decide) (by decide) (by decide) (by decide) (by decide) (by decide) (by decide)
    · exact absurd rfl g
end SE
