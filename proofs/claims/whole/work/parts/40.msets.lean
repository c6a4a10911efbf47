/-! the model: clear, move, number, target, load, store, reach, small, great, make, weak -/
section MT
variable {l : Launch} {Δ : Dat} {w : Wd} {m re th ol sz am fd rc nr ly lo : Nat} {B : Nat → Prop} {r r2 r3 v : Int32}
set_option maxRecDepth 100000 in
theorem km_clear (H : MS w m re th ol sz am fd rc nr ly lo) : Ct l y_Mo_clear h_Mo_clear (rmL 1 0 0) Δ [.ref m, .int r] w (fun q w' => q = none ∧ ((¬ regB nr r ∧ w' = uI w m 0 1) ∨ ∃ i, i < nr ∧ r = nI i ∧ w' = uL (uI w m 0 0) re i 1099511627776)) := by
  have H' := H
  obtain ⟨hm, -, ⟨h4, kre⟩, -, -, -, -, -, -, -, hb, -⟩ := H'
  refine Ct_of (L := [some (.ref m), some (.int r)]) (by decide) (by first | exact Nat.le_of_ble_eq_true rfl | simp [lg_sl, va_rf_cat, vc_r, vc_i, vc_0]) (by first | rfl | simp [lin, va_rf_cat, vc_r, vc_i, vc_0]) (fun Γ X => ?_)
  first | refine J_aload_nr X d_Mo_clear_0 rfl rfl ?_ | refine J_aload_n X d_Mo_clear_0 rfl rfl ?_ | refine J_aload_n0 X d_Mo_clear_0 rfl rfl ?_
  first | refine J_aload_nr X d_Mo_clear_1 rfl rfl ?_ | refine J_aload_n X d_Mo_clear_1 rfl rfl ?_ | refine J_aload_n0 X d_Mo_clear_1 rfl rfl ?_
  refine J_iload_n X d_Mo_clear_2 rfl rfl ?_
  refine J_callV X (hm) rfl (k_is (r := r) H) cd_Mo_is lk_Mo_48 vi_Mo_is (by decide) (by decide) (by decide) (by decide) rfl (by first | decide | simp [va_rf_cat, vc_r, vc_i, vc_0]) d_Mo_clear_3 (fun q w1 hq => ?_)
  obtain ⟨rfl, hw1⟩ := hq
  refine J_eq hw1 rfl ?_
  refine J_iconst (v := 1) X d_Mo_clear_6 (by decide) ?_
  by_cases h : regB nr r
  · rw [if_pos h]
    refine J_callV X (hm) rfl (k_when (z := 1) (n := 1) hm (Or.inr rfl)) cd_Mo_when lk_Mo_98 vi_Mo_when (by decide) (by decide) (by decide) (by decide) rfl (by first | decide | simp [va_rf_cat, vc_r, vc_i, vc_0]) d_Mo_clear_7 (fun q w1 hq => ?_)
    obtain ⟨rfl, hw1⟩ := hq
    refine J_eq (w' := uI w m 0 0) hw1 rfl ?_
    refine J_if_eq (tgt := 22) X d_Mo_clear_10 (by decide) (fun g => ?_) (fun g => ?_)
    · exact absurd g (by decide)
    · obtain ⟨i, hi, rfl⟩ := regB_at hb.1 (by omega) h
      first | refine J_aload_nr X d_Mo_clear_13 rfl rfl ?_ | refine J_aload_n X d_Mo_clear_13 rfl rfl ?_ | refine J_aload_n0 X d_Mo_clear_13 rfl rfl ?_
      refine J_getR X (hm) fa_Mo_7_6 rfl (h4) d_Mo_clear_14 ?_
      refine J_iload_n X d_Mo_clear_17 rfl rfl ?_
      refine J_ldc2 X d_Mo_clear_18 m_474 ?_
      refine J_last X (kre) (by decide) rfl rfl (rfl) (by omega) (by decide) d_Mo_clear_21 ?_
      exact J_vret X ⟨rfl, Or.inr ⟨i, hi, rfl, rfl⟩⟩ (by decide) (by decide) d_Mo_clear_22
  · rw [if_neg h]
    refine J_callV X (hm) rfl (k_when (z := 0) (n := 1) hm (Or.inl rfl)) cd_Mo_when lk_Mo_98 vi_Mo_when (by decide) (by decide) (by decide) (by decide) rfl (by first | decide | simp [va_rf_cat, vc_r, vc_i, vc_0]) d_Mo_clear_7 (fun q w1 hq => ?_)
    obtain ⟨rfl, hw1⟩ := hq
    refine J_eq (w' := uI w m 0 1) hw1 rfl ?_
    refine J_if_eq (tgt := 22) X d_Mo_clear_10 (by decide) (fun g => ?_) (fun g => ?_)
    · exact J_vret X ⟨rfl, Or.inl ⟨h, rfl⟩⟩ (by decide) (by decide) d_Mo_clear_22
    · exact absurd rfl g
set_option maxRecDepth 100000 in
theorem km_move (H : MS w m re th ol sz am fd rc nr ly lo) : Ct l y_Mo_move h_Mo_move (rmL 1 0 0) Δ [.ref m, .int r, .int r2] w (fun q w' => q = none ∧ ((¬ (regB nr r ∧ regB nr r2) ∧ w' = uI w m 0 1) ∨ ∃ i j, i < nr ∧ r = nI i ∧ j < nr ∧ r2 = nI j ∧ w' = uL (uI w m 0 0) re i (wL w re j))) := by
  have H' := H
  obtain ⟨hm, -, ⟨h4, kre⟩, -, -, -, -, -, -, -, hb, -⟩ := H'
  refine Ct_of (L := [some (.ref m), some (.int r), some (.int r2)]) (by decide) (by first | exact Nat.le_of_ble_eq_true rfl | simp [lg_sl, va_rf_cat, vc_r, vc_i, vc_0]) (by first | rfl | simp [lin, va_rf_cat, vc_r, vc_i, vc_0]) (fun Γ X => ?_)
  have no : ∀ {c0 s0 : Nat}, c0 ≤ 0 → s0 ≤ 0 → ¬ (regB nr r ∧ regB nr r2) → J Γ Δ (AE Γ w) 3 w c0 s0 (QE Γ Δ w (fun q w' => q = none ∧ ((¬ (regB nr r ∧ regB nr r2) ∧ w' = uI w m 0 1) ∨ ∃ i j, i < nr ∧ r = nI i ∧ j < nr ∧ r2 = nI j ∧ w' = uL (uI w m 0 0) re i (wL w re j))) (rmL 1 0 0)) 21 [some (.ref m), some (.int r), some (.int r2)] [.ref m] := fun hc hs h => by
    refine J_widen (c2 := 0) (s2 := 0) hc hs ?_
    refine J_iconst (v := 0) X d_Mo_move_21 (by decide) ?_
    refine J_iconst (v := 1) X d_Mo_move_22 (by decide) ?_
    refine J_callV X (hm) rfl (k_when (z := 0) (n := 1) hm (Or.inl rfl)) cd_Mo_when lk_Mo_98 vi_Mo_when (by decide) (by decide) (by decide) (by decide) rfl (by first | decide | simp [va_rf_cat, vc_r, vc_i, vc_0]) d_Mo_move_23 (fun q w1 hq => ?_)
    obtain ⟨rfl, hw1⟩ := hq
    refine J_eq (w' := uI w m 0 1) hw1 rfl ?_
    refine J_if_eq (tgt := 41) X d_Mo_move_26 (by decide) (fun g => ?_) (fun g => ?_)
    · exact J_vret X ⟨rfl, Or.inl ⟨h, rfl⟩⟩ (by decide) (by decide) d_Mo_move_41
    · exact absurd rfl g
  first | refine J_aload_nr X d_Mo_move_0 rfl rfl ?_ | refine J_aload_n X d_Mo_move_0 rfl rfl ?_ | refine J_aload_n0 X d_Mo_move_0 rfl rfl ?_
  first | refine J_aload_nr X d_Mo_move_1 rfl rfl ?_ | refine J_aload_n X d_Mo_move_1 rfl rfl ?_ | refine J_aload_n0 X d_Mo_move_1 rfl rfl ?_
  refine J_iload_n X d_Mo_move_2 rfl rfl ?_
  refine J_callV X (hm) rfl (k_is (r := r) H) cd_Mo_is lk_Mo_48 vi_Mo_is (by decide) (by decide) (by decide) (by decide) rfl (by first | decide | simp [va_rf_cat, vc_r, vc_i, vc_0]) d_Mo_move_3 (fun q w1 hq => ?_)
  obtain ⟨rfl, hw1⟩ := hq
  refine J_eq hw1 rfl ?_
  by_cases h : regB nr r
  · refine J_top (v' := .int 1) (by rw [if_pos h]) ?_
    refine J_if_eq (tgt := 21) X d_Mo_move_6 (by decide) (fun g => ?_) (fun g => ?_)
    · exact absurd g (by decide)
    · first | refine J_aload_nr X d_Mo_move_9 rfl rfl ?_ | refine J_aload_n X d_Mo_move_9 rfl rfl ?_ | refine J_aload_n0 X d_Mo_move_9 rfl rfl ?_
      refine J_iload_n X d_Mo_move_10 rfl rfl ?_
      refine J_callV X (hm) rfl (k_is (r := r2) H) cd_Mo_is lk_Mo_48 vi_Mo_is (by decide) (by decide) (by decide) (by decide) rfl (by first | decide | simp [va_rf_cat, vc_r, vc_i, vc_0]) d_Mo_move_11 (fun q w1 hq => ?_)
      obtain ⟨rfl, hw1⟩ := hq
      refine J_eq hw1 rfl ?_
      by_cases h' : regB nr r2
      · refine J_top (v' := .int 1) (by rw [if_pos h']) ?_
        refine J_if_eq (tgt := 21) X d_Mo_move_14 (by decide) (fun g => ?_) (fun g => ?_)
        · exact absurd g (by decide)
        · refine J_iconst (v := 1) X d_Mo_move_17 (by decide) ?_
          refine J_goto (tgt := 22) X d_Mo_move_18 (by decide) ?_
          refine J_iconst (v := 1) X d_Mo_move_22 (by decide) ?_
          refine J_callV X (hm) rfl (k_when (z := 1) (n := 1) hm (Or.inr rfl)) cd_Mo_when lk_Mo_98 vi_Mo_when (by decide) (by decide) (by decide) (by decide) rfl (by first | decide | simp [va_rf_cat, vc_r, vc_i, vc_0]) d_Mo_move_23 (fun q w1 hq => ?_)
          obtain ⟨rfl, hw1⟩ := hq
          refine J_eq (w' := uI w m 0 0) hw1 rfl ?_
          refine J_if_eq (tgt := 41) X d_Mo_move_26 (by decide) (fun g => ?_) (fun g => ?_)
          · exact absurd g (by decide)
          · obtain ⟨i, hi, rfl⟩ := regB_at hb.1 (by omega) h
            obtain ⟨j, hj, rfl⟩ := regB_at hb.1 (by omega) h'
            first | refine J_aload_nr X d_Mo_move_29 rfl rfl ?_ | refine J_aload_n X d_Mo_move_29 rfl rfl ?_ | refine J_aload_n0 X d_Mo_move_29 rfl rfl ?_
            refine J_getR X (hm) fa_Mo_7_6 rfl (h4) d_Mo_move_30 ?_
            refine J_iload_n X d_Mo_move_33 rfl rfl ?_
            first | refine J_aload_nr X d_Mo_move_34 rfl rfl ?_ | refine J_aload_n X d_Mo_move_34 rfl rfl ?_ | refine J_aload_n0 X d_Mo_move_34 rfl rfl ?_
            refine J_getR X (hm) fa_Mo_7_6 rfl (h4) d_Mo_move_35 ?_
            refine J_iload_n X d_Mo_move_38 rfl rfl ?_
            refine J_lald X (kre) (by decide) rfl rfl (rfl) (by omega) (by decide) (rfl) d_Mo_move_39 ?_
            refine J_last X (kre) (by decide) rfl rfl (rfl) (by omega) (by decide) d_Mo_move_40 ?_
            exact J_vret X ⟨rfl, Or.inr ⟨i, j, hi, rfl, hj, rfl, rfl⟩⟩ (by decide) (by decide) d_Mo_move_41
      · refine J_top (v' := .int 0) (by rw [if_neg h']) ?_
        refine J_if_eq (tgt := 21) X d_Mo_move_14 (by decide) (fun g => ?_) (fun g => ?_)
        · exact no (by decide) (by decide) (fun q => h' q.2)
        · exact absurd rfl g
  · refine J_top (v' := .int 0) (by rw [if_neg h]) ?_
    refine J_if_eq (tgt := 21) X d_Mo_move_6 (by decide) (fun g => ?_) (fun g => ?_)
    · exact no (by decide) (by decide) (fun q => h q.1)
    · exact absurd rfl g
set_option maxRecDepth 100000 in
theorem km_number (H : MS w m re th ol sz am fd rc nr ly lo) : Ct l y_Mo_number h_Mo_number (rmL 1 0 0) Δ [.ref m, .int r, .int v] w (fun q w' => q = none ∧ ((¬ (regB nr r ∧ (-1073741824 ≤ v ∧ v < 1073741824)) ∧ w' = uI w m 0 1) ∨ ∃ i, i < nr ∧ r = nI i ∧ (-1073741824 ≤ v ∧ v < 1073741824) ∧ w' = uL (uI w m 0 0) re i v.toInt64)) := by
  have H' := H
  obtain ⟨hm, -, ⟨h4, kre⟩, -, -, -, -, -, -, -, hb, -⟩ := H'
  refine Ct_of (L := [some (.ref m), some (.int r), some (.int v)]) (by decide) (by first | exact Nat.le_of_ble_eq_true rfl | simp [lg_sl, va_rf_cat, vc_r, vc_i, vc_0]) (by first | rfl | simp [lin, va_rf_cat, vc_r, vc_i, vc_0]) (fun Γ X => ?_)
  have no : ∀ {c0 s0 : Nat}, c0 ≤ 0 → s0 ≤ 0 → ¬ (regB nr r ∧ (-1073741824 ≤ v ∧ v < 1073741824)) → J Γ Δ (AE Γ w) 3 w c0 s0 (QE Γ Δ w (fun q w' => q = none ∧ ((¬ (regB nr r ∧ (-1073741824 ≤ v ∧ v < 1073741824)) ∧ w' = uI w m 0 1) ∨ ∃ i, i < nr ∧ r = nI i ∧ (-1073741824 ≤ v ∧ v < 1073741824) ∧ w' = uL (uI w m 0 0) re i v.toInt64)) (rmL 1 0 0)) 25 [some (.ref m), some (.int r), some (.int v)] [.ref m] := fun hc hs h => by
    refine J_widen (c2 := 0) (s2 := 0) hc hs ?_
    refine J_iconst (v := 0) X d_Mo_number_25 (by decide) ?_
    refine J_iconst (v := 1) X d_Mo_number_26 (by decide) ?_
    refine J_callV X (hm) rfl (k_when (z := 0) (n := 1) hm (Or.inl rfl)) cd_Mo_when lk_Mo_98 vi_Mo_when (by decide) (by decide) (by decide) (by decide) rfl (by first | decide | simp [va_rf_cat, vc_r, vc_i, vc_0]) d_Mo_number_27 (fun q w1 hq => ?_)
    obtain ⟨rfl, hw1⟩ := hq
    refine J_eq (w' := uI w m 0 1) hw1 rfl ?_
    refine J_if_eq (tgt := 41) X d_Mo_number_30 (by decide) (fun g => ?_) (fun g => ?_)
    · exact J_vret X ⟨rfl, Or.inl ⟨h, rfl⟩⟩ (by decide) (by decide) d_Mo_number_41
    · exact absurd rfl g
  first | refine J_aload_nr X d_Mo_number_0 rfl rfl ?_ | refine J_aload_n X d_Mo_number_0 rfl rfl ?_ | refine J_aload_n0 X d_Mo_number_0 rfl rfl ?_
  first | refine J_aload_nr X d_Mo_number_1 rfl rfl ?_ | refine J_aload_n X d_Mo_number_1 rfl rfl ?_ | refine J_aload_n0 X d_Mo_number_1 rfl rfl ?_
  refine J_iload_n X d_Mo_number_2 rfl rfl ?_
  refine J_callV X (hm) rfl (k_is (r := r) H) cd_Mo_is lk_Mo_48 vi_Mo_is (by decide) (by decide) (by decide) (by decide) rfl (by first | decide | simp [va_rf_cat, vc_r, vc_i, vc_0]) d_Mo_number_3 (fun q w1 hq => ?_)
  obtain ⟨rfl, hw1⟩ := hq
  refine J_eq hw1 rfl ?_
  by_cases h : regB nr r
  · refine J_top (v' := .int 1) (by rw [if_pos h]) ?_
    refine J_if_eq (tgt := 25) X d_Mo_number_6 (by decide) (fun g => ?_) (fun g => ?_)
    · exact absurd g (by decide)
    · refine J_iload_n X d_Mo_number_9 rfl rfl ?_
      refine J_ldc X d_Mo_number_10 m_623 ?_
      refine J_icmp_lt (tgt := 25) X d_Mo_number_12 (by decide) (fun g1 => ?_) (fun g1 => ?_)
      · exact no (by decide) (by decide) (fun q => Int32.not_le.mpr g1 q.2.1)
      · refine J_iload_n X d_Mo_number_15 rfl rfl ?_
        refine J_ldc X d_Mo_number_16 m_624 ?_
        refine J_icmp_ge (tgt := 25) X d_Mo_number_18 (by decide) (fun g2 => ?_) (fun g2 => ?_)
        · exact no (by decide) (by decide) (fun q => Int32.not_lt.mpr g2 q.2.2)
        · refine J_iconst (v := 1) X d_Mo_number_21 (by decide) ?_
          refine J_goto (tgt := 26) X d_Mo_number_22 (by decide) ?_
          refine J_iconst (v := 1) X d_Mo_number_26 (by decide) ?_
          refine J_callV X (hm) rfl (k_when (z := 1) (n := 1) hm (Or.inr rfl)) cd_Mo_when lk_Mo_98 vi_Mo_when (by decide) (by decide) (by decide) (by decide) rfl (by first | decide | simp [va_rf_cat, vc_r, vc_i, vc_0]) d_Mo_number_27 (fun q w1 hq => ?_)
          obtain ⟨rfl, hw1⟩ := hq
          refine J_eq (w' := uI w m 0 0) hw1 rfl ?_
          refine J_if_eq (tgt := 41) X d_Mo_number_30 (by decide) (fun g => ?_) (fun g => ?_)
          · exact absurd g (by decide)
          · obtain ⟨i, hi, rfl⟩ := regB_at hb.1 (by omega) h
            first | refine J_aload_nr X d_Mo_number_33 rfl rfl ?_ | refine J_aload_n X d_Mo_number_33 rfl rfl ?_ | refine J_aload_n0 X d_Mo_number_33 rfl rfl ?_
            refine J_getR X (hm) fa_Mo_7_6 rfl (h4) d_Mo_number_34 ?_
            refine J_iload_n X d_Mo_number_37 rfl rfl ?_
            refine J_iload_n X d_Mo_number_38 rfl rfl ?_
            refine J_i2l X d_Mo_number_39 ?_
            refine J_last X (kre) (by decide) rfl rfl (rfl) (by omega) (by decide) d_Mo_number_40 ?_
            exact J_vret X ⟨rfl, Or.inr ⟨i, hi, rfl, ⟨Int32.not_lt.mp g1, Int32.not_le.mp g2⟩, rfl⟩⟩ (by decide) (by decide) d_Mo_number_41
  · refine J_top (v' := .int 0) (by rw [if_neg h]) ?_
    refine J_if_eq (tgt := 25) X d_Mo_number_6 (by decide) (fun g => ?_) (fun g => ?_)
    · exact no (by decide) (by decide) (fun q => h q.1)
    · exact absurd rfl g
set_option maxRecDepth 100000 in
theorem km_load (H : MP w m re th ol sz am fd rc nr ly lo B) : Ct l y_Mo_load h_Mo_load (rmL 3 0 0) Δ [.ref m, .int r, .int r2, .int r3] w (fun q w' => q = none ∧ ((¬ (regB nr r ∧ fcond w re sz nr r2 r3) ∧ w' = uI w m 0 1) ∨ (fcond w re sz nr r2 r3 ∧ ∃ i p k, i < nr ∧ r = nI i ∧ p < 200 ∧ k < 11 ∧ plc w re nr r2 = nI p ∧ r3 = nI k ∧ w' = uL (uI w m 0 0) re i (wL w fd (11 * p + k))))) := by
  have HP := H
  obtain ⟨hMS, -, -, hR, -⟩ := H
  have H' := hMS
  obtain ⟨hm, -, ⟨h4, kre⟩, -, -, -, -, ⟨h9, kf⟩, -, -, hb, -⟩ := H'
  have H1 : MS (uI w m 0 0) m re th ol sz am fd rc nr ly lo := MS_uI (Or.inl rfl) hMS
  refine Ct_of (L := [some (.ref m), some (.int r), some (.int r2), some (.int r3)]) (by decide) (by first | exact Nat.le_of_ble_eq_true rfl | simp [lg_sl, va_rf_cat, vc_r, vc_i, vc_0]) (by first | rfl | simp [lin, va_rf_cat, vc_r, vc_i, vc_0]) (fun Γ X => ?_)
  have no : ∀ {c0 s0 : Nat}, c0 ≤ 0 → s0 ≤ 0 → ¬ (regB nr r ∧ fcond w re sz nr r2 r3) → J Γ Δ (AE Γ w) 4 w c0 s0 (QE Γ Δ w (fun q w' => q = none ∧ ((¬ (regB nr r ∧ fcond w re sz nr r2 r3) ∧ w' = uI w m 0 1) ∨ (fcond w re sz nr r2 r3 ∧ ∃ i p k, i < nr ∧ r = nI i ∧ p < 200 ∧ k < 11 ∧ plc w re nr r2 = nI p ∧ r3 = nI k ∧ w' = uL (uI w m 0 0) re i (wL w fd (11 * p + k))))) (rmL 3 0 0)) 22 [some (.ref m), some (.int r), some (.int r2), some (.int r3)] [.ref m] := fun hc hs h => by
    refine J_widen (c2 := 0) (s2 := 0) hc hs ?_
    refine J_iconst (v := 0) X d_Mo_load_22 (by decide) ?_
    refine J_iconst (v := 1) X d_Mo_load_23 (by decide) ?_
    refine J_callV X (hm) rfl (k_when (z := 0) (n := 1) hm (Or.inl rfl)) cd_Mo_when lk_Mo_98 vi_Mo_when (by decide) (by decide) (by decide) (by decide) rfl (by first | decide | simp [va_rf_cat, vc_r, vc_i, vc_0]) d_Mo_load_24 (fun q w1 hq => ?_)
    obtain ⟨rfl, hw1⟩ := hq
    refine J_eq (w' := uI w m 0 1) hw1 rfl ?_
    refine J_if_eq (tgt := 51) X d_Mo_load_27 (by decide) (fun g => ?_) (fun g => ?_)
    · exact J_vret X ⟨rfl, Or.inl ⟨h, rfl⟩⟩ (by decide) (by decide) d_Mo_load_51
    · exact absurd rfl g
  first | refine J_aload_nr X d_Mo_load_0 rfl rfl ?_ | refine J_aload_n X d_Mo_load_0 rfl rfl ?_ | refine J_aload_n0 X d_Mo_load_0 rfl rfl ?_
  first | refine J_aload_nr X d_Mo_load_1 rfl rfl ?_ | refine J_aload_n X d_Mo_load_1 rfl rfl ?_ | refine J_aload_n0 X d_Mo_load_1 rfl rfl ?_
  refine J_iload_n X d_Mo_load_2 rfl rfl ?_
  refine J_callV X (hm) rfl (k_is (r := r) hMS) cd_Mo_is lk_Mo_48 vi_Mo_is (by decide) (by decide) (by decide) (by decide) rfl (by first | decide | simp [va_rf_cat, vc_r, vc_i, vc_0]) d_Mo_load_3 (fun q w1 hq => ?_)
  obtain ⟨rfl, hw1⟩ := hq
  refine J_eq hw1 rfl ?_
  by_cases h : regB nr r
  · refine J_top (v' := .int 1) (by rw [if_pos h]) ?_
    refine J_if_eq (tgt := 22) X d_Mo_load_6 (by decide) (fun g => ?_) (fun g => ?_)
    · exact absurd g (by decide)
    · first | refine J_aload_nr X d_Mo_load_9 rfl rfl ?_ | refine J_aload_n X d_Mo_load_9 rfl rfl ?_ | refine J_aload_n0 X d_Mo_load_9 rfl rfl ?_
      refine J_iload_n X d_Mo_load_10 rfl rfl ?_
      refine J_iload_n X d_Mo_load_11 rfl rfl ?_
      refine J_callV X (hm) rfl (km_hasField (r := r2) (i := r3) hMS (plc_has hR hb.1 (by omega))) cd_Mo_hasField lk_Mo_112 vi_Mo_hasField (by decide) (by decide) (by decide) (by decide) rfl (by first | decide | simp [va_rf_cat, vc_r, vc_i, vc_0]) d_Mo_load_12 (fun q w1 hq => ?_)
      obtain ⟨rfl, hw1⟩ := hq
      refine J_eq hw1 rfl ?_
      by_cases h' : fcond w re sz nr r2 r3
      · refine J_top (v' := .int 1) (by rw [if_pos (show 0 ≤ plc w re nr r2 ∧ 0 ≤ r3 ∧ r3 < wI w sz (plc w re nr r2).toNatClampNeg from h')]) ?_
        refine J_if_eq (tgt := 22) X d_Mo_load_15 (by decide) (fun g => ?_) (fun g => ?_)
        · exact absurd g (by decide)
        · refine J_iconst (v := 1) X d_Mo_load_18 (by decide) ?_
          refine J_goto (tgt := 23) X d_Mo_load_19 (by decide) ?_
          refine J_iconst (v := 1) X d_Mo_load_23 (by decide) ?_
          refine J_callV X (hm) rfl (k_when (z := 1) (n := 1) hm (Or.inr rfl)) cd_Mo_when lk_Mo_98 vi_Mo_when (by decide) (by decide) (by decide) (by decide) rfl (by first | decide | simp [va_rf_cat, vc_r, vc_i, vc_0]) d_Mo_load_24 (fun q w1 hq => ?_)
          obtain ⟨rfl, hw1⟩ := hq
          refine J_eq (w' := uI w m 0 0) hw1 rfl ?_
          refine J_if_eq (tgt := 51) X d_Mo_load_27 (by decide) (fun g => ?_) (fun g => ?_)
          · exact absurd g (by decide)
          · obtain ⟨i, hi, rfl⟩ := regB_at hb.1 (by omega) h
            obtain ⟨p, k, j, hp, hk, -, -, -, -, hpl, rfl, -⟩ := fcond_at HP h'
            first | refine J_aload_nr X d_Mo_load_30 rfl rfl ?_ | refine J_aload_n X d_Mo_load_30 rfl rfl ?_ | refine J_aload_n0 X d_Mo_load_30 rfl rfl ?_
            refine J_getR X (hm) fa_Mo_7_6 rfl (h4) d_Mo_load_31 ?_
            refine J_iload_n X d_Mo_load_34 rfl rfl ?_
            first | refine J_aload_nr X d_Mo_load_35 rfl rfl ?_ | refine J_aload_n X d_Mo_load_35 rfl rfl ?_ | refine J_aload_n0 X d_Mo_load_35 rfl rfl ?_
            refine J_getR X (hm) fa_Mo_27_6 rfl (h9) d_Mo_load_36 ?_
            refine J_bipush (v := 11) X d_Mo_load_39 (by decide) ?_
            first | refine J_aload_nr X d_Mo_load_41 rfl rfl ?_ | refine J_aload_n X d_Mo_load_41 rfl rfl ?_ | refine J_aload_n0 X d_Mo_load_41 rfl rfl ?_
            refine J_iload_n X d_Mo_load_42 rfl rfl ?_
            refine J_callV X (hm) rfl (k_placeIn (r := r2) H1) cd_Mo_placeIn lk_Mo_109 vi_Mo_placeIn (by decide) (by decide) (by decide) (by decide) rfl (by first | decide | simp [va_rf_cat, vc_r, vc_i, vc_0]) d_Mo_load_43 (fun q w1 hq => ?_)
            obtain ⟨rfl, hw1⟩ := hq
            refine J_eq hw1 rfl ?_
            refine J_top (v' := .int (nI p)) (by rw [plc_u, hpl]) ?_
            refine J_imul X d_Mo_load_46 ?_
            refine J_iload_n X d_Mo_load_47 rfl rfl ?_
            refine J_iadd X d_Mo_load_48 ?_
            refine J_lald X (kf) (by decide) rfl rfl (by rw [show (11 : Int32) = nI 11 from rfl, pk_mul, nI_add]) (by omega) (by decide) (rfl) d_Mo_load_49 ?_
            refine J_last X (kre) (by decide) rfl rfl (rfl) (by omega) (by decide) d_Mo_load_50 ?_
            exact J_vret X ⟨rfl, Or.inr ⟨h', i, p, k, hi, rfl, hp, hk, hpl, rfl, rfl⟩⟩ (by decide) (by decide) d_Mo_load_51
      · refine J_top (v' := .int 0) (by rw [if_neg (show ¬ (0 ≤ plc w re nr r2 ∧ 0 ≤ r3 ∧ r3 < wI w sz (plc w re nr r2).toNatClampNeg) from h')]) ?_
        refine J_if_eq (tgt := 22) X d_Mo_load_15 (by decide) (fun g => ?_) (fun g => ?_)
        · exact no (by decide) (by decide) (fun q => h' q.2)
        · exact absurd rfl g
  · refine J_top (v' := .int 0) (by rw [if_neg h]) ?_
    refine J_if_eq (tgt := 22) X d_Mo_load_6 (by decide) (fun g => ?_) (fun g => ?_)
    · exact no (by decide) (by decide) (fun q => h q.1)
    · exact absurd rfl g
set_option maxRecDepth 100000 in
theorem km_store (H : MP w m re th ol sz am fd rc nr ly lo B) : Ct l y_Mo_store h_Mo_store (rmL 3 0 0) Δ [.ref m, .int r, .int r2, .int r3] w (fun q w' => q = none ∧ ((¬ (regB nr r3 ∧ fcond w re sz nr r r2) ∧ w' = uI w m 0 1) ∨ (fcond w re sz nr r r2 ∧ ∃ i p k, i < nr ∧ r3 = nI i ∧ p < 200 ∧ k < 11 ∧ plc w re nr r = nI p ∧ r2 = nI k ∧ w' = uL (uI w m 0 0) fd (11 * p + k) (wL w re i)))) := by
  have HP := H
  obtain ⟨hMS, -, -, hR, -⟩ := H
  have H' := hMS
  obtain ⟨hm, -, ⟨h4, kre⟩, -, -, -, -, ⟨h9, kf⟩, -, -, hb, -⟩ := H'
  have H1 : MS (uI w m 0 0) m re th ol sz am fd rc nr ly lo := MS_uI (Or.inl rfl) hMS
  refine Ct_of (L := [some (.ref m), some (.int r), some (.int r2), some (.int r3)]) (by decide) (by first | exact Nat.le_of_ble_eq_true rfl | simp [lg_sl, va_rf_cat, vc_r, vc_i, vc_0]) (by first | rfl | simp [lin, va_rf_cat, vc_r, vc_i, vc_0]) (fun Γ X => ?_)
  have no : ∀ {c0 s0 : Nat}, c0 ≤ 0 → s0 ≤ 0 → ¬ (regB nr r3 ∧ fcond w re sz nr r r2) → J Γ Δ (AE Γ w) 4 w c0 s0 (QE Γ Δ w (fun q w' => q = none ∧ ((¬ (regB nr r3 ∧ fcond w re sz nr r r2) ∧ w' = uI w m 0 1) ∨ (fcond w re sz nr r r2 ∧ ∃ i p k, i < nr ∧ r3 = nI i ∧ p < 200 ∧ k < 11 ∧ plc w re nr r = nI p ∧ r2 = nI k ∧ w' = uL (uI w m 0 0) fd (11 * p + k) (wL w re i)))) (rmL 3 0 0)) 22 [some (.ref m), some (.int r), some (.int r2), some (.int r3)] [.ref m] := fun hc hs h => by
    refine J_widen (c2 := 0) (s2 := 0) hc hs ?_
    refine J_iconst (v := 0) X d_Mo_store_22 (by decide) ?_
    refine J_iconst (v := 1) X d_Mo_store_23 (by decide) ?_
    refine J_callV X (hm) rfl (k_when (z := 0) (n := 1) hm (Or.inl rfl)) cd_Mo_when lk_Mo_98 vi_Mo_when (by decide) (by decide) (by decide) (by decide) rfl (by first | decide | simp [va_rf_cat, vc_r, vc_i, vc_0]) d_Mo_store_24 (fun q w1 hq => ?_)
    obtain ⟨rfl, hw1⟩ := hq
    refine J_eq (w' := uI w m 0 1) hw1 rfl ?_
    refine J_if_eq (tgt := 51) X d_Mo_store_27 (by decide) (fun g => ?_) (fun g => ?_)
    · exact J_vret X ⟨rfl, Or.inl ⟨h, rfl⟩⟩ (by decide) (by decide) d_Mo_store_51
    · exact absurd rfl g
  first | refine J_aload_nr X d_Mo_store_0 rfl rfl ?_ | refine J_aload_n X d_Mo_store_0 rfl rfl ?_ | refine J_aload_n0 X d_Mo_store_0 rfl rfl ?_
  first | refine J_aload_nr X d_Mo_store_1 rfl rfl ?_ | refine J_aload_n X d_Mo_store_1 rfl rfl ?_ | refine J_aload_n0 X d_Mo_store_1 rfl rfl ?_
  refine J_iload_n X d_Mo_store_2 rfl rfl ?_
  refine J_iload_n X d_Mo_store_3 rfl rfl ?_
  refine J_callV X (hm) rfl (km_hasField (r := r) (i := r2) hMS (plc_has hR hb.1 (by omega))) cd_Mo_hasField lk_Mo_112 vi_Mo_hasField (by decide) (by decide) (by decide) (by decide) rfl (by first | decide | simp [va_rf_cat, vc_r, vc_i, vc_0]) d_Mo_store_4 (fun q w1 hq => ?_)
  obtain ⟨rfl, hw1⟩ := hq
  refine J_eq hw1 rfl ?_
  by_cases h' : fcond w re sz nr r r2
  · refine J_top (v' := .int 1) (by rw [if_pos (show 0 ≤ plc w re nr r ∧ 0 ≤ r2 ∧ r2 < wI w sz (plc w re nr r).toNatClampNeg from h')]) ?_
    refine J_if_eq (tgt := 22) X d_Mo_store_7 (by decide) (fun g => ?_) (fun g => ?_)
    · exact absurd g (by decide)
    · first | refine J_aload_nr X d_Mo_store_10 rfl rfl ?_ | refine J_aload_n X d_Mo_store_10 rfl rfl ?_ | refine J_aload_n0 X d_Mo_store_10 rfl rfl ?_
      refine J_iload_n X d_Mo_store_11 rfl rfl ?_
      refine J_callV X (hm) rfl (k_is (r := r3) hMS) cd_Mo_is lk_Mo_48 vi_Mo_is (by decide) (by decide) (by decide) (by decide) rfl (by first | decide | simp [va_rf_cat, vc_r, vc_i, vc_0]) d_Mo_store_12 (fun q w1 hq => ?_)
      obtain ⟨rfl, hw1⟩ := hq
      refine J_eq hw1 rfl ?_
      by_cases h : regB nr r3
      · refine J_top (v' := .int 1) (by rw [if_pos h]) ?_
        refine J_if_eq (tgt := 22) X d_Mo_store_15 (by decide) (fun g => ?_) (fun g => ?_)
        · exact absurd g (by decide)
        · refine J_iconst (v := 1) X d_Mo_store_18 (by decide) ?_
          refine J_goto (tgt := 23) X d_Mo_store_19 (by decide) ?_
          refine J_iconst (v := 1) X d_Mo_store_23 (by decide) ?_
          refine J_callV X (hm) rfl (k_when (z := 1) (n := 1) hm (Or.inr rfl)) cd_Mo_when lk_Mo_98 vi_Mo_when (by decide) (by decide) (by decide) (by decide) rfl (by first | decide | simp [va_rf_cat, vc_r, vc_i, vc_0]) d_Mo_store_24 (fun q w1 hq => ?_)
          obtain ⟨rfl, hw1⟩ := hq
          refine J_eq (w' := uI w m 0 0) hw1 rfl ?_
          refine J_if_eq (tgt := 51) X d_Mo_store_27 (by decide) (fun g => ?_) (fun g => ?_)
          · exact absurd g (by decide)
          · obtain ⟨i, hi, rfl⟩ := regB_at hb.1 (by omega) h
            obtain ⟨p, k, j, hp, hk, -, -, -, -, hpl, rfl, -⟩ := fcond_at HP h'
            first | refine J_aload_nr X d_Mo_store_30 rfl rfl ?_ | refine J_aload_n X d_Mo_store_30 rfl rfl ?_ | refine J_aload_n0 X d_Mo_store_30 rfl rfl ?_
            refine J_getR X (hm) fa_Mo_27_6 rfl (h9) d_Mo_store_31 ?_
            refine J_bipush (v := 11) X d_Mo_store_34 (by decide) ?_
            first | refine J_aload_nr X d_Mo_store_36 rfl rfl ?_ | refine J_aload_n X d_Mo_store_36 rfl rfl ?_ | refine J_aload_n0 X d_Mo_store_36 rfl rfl ?_
            refine J_iload_n X d_Mo_store_37 rfl rfl ?_
            refine J_callV X (hm) rfl (k_placeIn (r := r) H1) cd_Mo_placeIn lk_Mo_109 vi_Mo_placeIn (by decide) (by decide) (by decide) (by decide) rfl (by first | decide | simp [va_rf_cat, vc_r, vc_i, vc_0]) d_Mo_store_38 (fun q w1 hq => ?_)
            obtain ⟨rfl, hw1⟩ := hq
            refine J_eq hw1 rfl ?_
            refine J_top (v' := .int (nI p)) (by rw [plc_u, hpl]) ?_
            refine J_imul X d_Mo_store_41 ?_
            refine J_iload_n X d_Mo_store_42 rfl rfl ?_
            refine J_iadd X d_Mo_store_43 ?_
            first | refine J_aload_nr X d_Mo_store_44 rfl rfl ?_ | refine J_aload_n X d_Mo_store_44 rfl rfl ?_ | refine J_aload_n0 X d_Mo_store_44 rfl rfl ?_
            refine J_getR X (hm) fa_Mo_7_6 rfl (h4) d_Mo_store_45 ?_
            refine J_iload_n X d_Mo_store_48 rfl rfl ?_
            refine J_lald X (kre) (by decide) rfl rfl (rfl) (by omega) (by decide) (rfl) d_Mo_store_49 ?_
            refine J_last X (kf) (by decide) rfl rfl (by rw [show (11 : Int32) = nI 11 from rfl, pk_mul, nI_add]) (by omega) (by decide) d_Mo_store_50 ?_
            exact J_vret X ⟨rfl, Or.inr ⟨h', i, p, k, hi, rfl, hp, hk, hpl, rfl, rfl⟩⟩ (by decide) (by decide) d_Mo_store_51
      · refine J_top (v' := .int 0) (by rw [if_neg h]) ?_
        refine J_if_eq (tgt := 22) X d_Mo_store_15 (by decide) (fun g => ?_) (fun g => ?_)
        · exact no (by decide) (by decide) (fun q => h q.1)
        · exact absurd rfl g
  · refine J_top (v' := .int 0) (by rw [if_neg (show ¬ (0 ≤ plc w re nr r ∧ 0 ≤ r2 ∧ r2 < wI w sz (plc w re nr r).toNatClampNeg) from h')]) ?_
    refine J_if_eq (tgt := 22) X d_Mo_store_7 (by decide) (fun g => ?_) (fun g => ?_)
    · exact no (by decide) (by decide) (fun q => h' q.2)
    · exact absurd rfl g
/-- a weak cell in a register -/
def wcond (w : Wd) (re sz nr : Nat) (r : Int32) : Prop := 0 ≤ plc w re nr r ∧ wI w sz (plc w re nr r).toNatClampNeg < 0
set_option maxRecDepth 100000 in
theorem km_target (H : MP w m re th ol sz am fd rc nr ly lo B) : Ct l y_Mo_target h_Mo_target (rmL 2 0 0) Δ [.ref m, .int r, .int r2] w (fun q w' => q = none ∧ ((¬ (regB nr r ∧ wcond w re sz nr r2) ∧ w' = uI w m 0 1) ∨ (wcond w re sz nr r2 ∧ ∃ i p, i < nr ∧ r = nI i ∧ p < 200 ∧ plc w re nr r2 = nI p ∧ w' = uL (uI w m 0 0) re i (if wI w am p < 0 then 1099511627776 else 2199023255552 + (wI w am p).toInt64)))) := by
  have HP := H
  have hne := MS_ne H.1
  obtain ⟨hMS, -, -, hR, -⟩ := H
  have H' := hMS
  obtain ⟨hm, -, ⟨h4, kre⟩, -, -, ⟨h7, ks⟩, ⟨h8, ka⟩, -, -, -, hb, -⟩ := H'
  refine Ct_of (L := [some (.ref m), some (.int r), some (.int r2), none]) (by decide) (by first | exact Nat.le_of_ble_eq_true rfl | simp [lg_sl, va_rf_cat, vc_r, vc_i, vc_0]) (by first | rfl | simp [lin, va_rf_cat, vc_r, vc_i, vc_0]) (fun Γ X => ?_)
  first | refine J_aload_nr X d_Mo_target_0 rfl rfl ?_ | refine J_aload_n X d_Mo_target_0 rfl rfl ?_ | refine J_aload_n0 X d_Mo_target_0 rfl rfl ?_
  refine J_iload_n X d_Mo_target_1 rfl rfl ?_
  refine J_callV X (hm) rfl (k_placeIn (r := r2) hMS) cd_Mo_placeIn lk_Mo_109 vi_Mo_placeIn (by decide) (by decide) (by decide) (by decide) rfl (by first | decide | simp [va_rf_cat, vc_r, vc_i, vc_0]) d_Mo_target_2 (fun q w1 hq => ?_)
  obtain ⟨rfl, hw1⟩ := hq
  refine J_eq hw1 rfl ?_
  have no : ∀ {c0 s0 : Nat}, c0 ≤ 0 → s0 ≤ 0 → ¬ (regB nr r ∧ wcond w re sz nr r2) → J Γ Δ (AE Γ w) 4 w c0 s0 (QE Γ Δ w (fun q w' => q = none ∧ ((¬ (regB nr r ∧ wcond w re sz nr r2) ∧ w' = uI w m 0 1) ∨ (wcond w re sz nr r2 ∧ ∃ i p, i < nr ∧ r = nI i ∧ p < 200 ∧ plc w re nr r2 = nI p ∧ w' = uL (uI w m 0 0) re i (if wI w am p < 0 then 1099511627776 else 2199023255552 + (wI w am p).toInt64)))) (rmL 2 0 0)) 32 [some (.ref m), some (.int r), some (.int r2), some (.int (plc w re nr r2))] [.ref m] := fun hc hs h => by
    refine J_widen (c2 := 0) (s2 := 0) hc hs ?_
    refine J_iconst (v := 0) X d_Mo_target_32 (by decide) ?_
    refine J_iconst (v := 1) X d_Mo_target_33 (by decide) ?_
    refine J_callV X (hm) rfl (k_when (z := 0) (n := 1) hm (Or.inl rfl)) cd_Mo_when lk_Mo_98 vi_Mo_when (by decide) (by decide) (by decide) (by decide) rfl (by first | decide | simp [va_rf_cat, vc_r, vc_i, vc_0]) d_Mo_target_34 (fun q w1 hq => ?_)
    obtain ⟨rfl, hw1⟩ := hq
    refine J_eq (w' := uI w m 0 1) hw1 rfl ?_
    refine J_if_ne (tgt := 41) X d_Mo_target_37 (by decide) (fun g => ?_) (fun g => ?_)
    · exact absurd rfl g
    · exact J_vret X ⟨rfl, Or.inl ⟨h, rfl⟩⟩ (by decide) (by decide) d_Mo_target_40
  refine J_istore_n X d_Mo_target_5 rfl (by decide) rfl ?_
  first | refine J_aload_nr X d_Mo_target_6 rfl rfl ?_ | refine J_aload_n X d_Mo_target_6 rfl rfl ?_ | refine J_aload_n0 X d_Mo_target_6 rfl rfl ?_
  first | refine J_aload_nr X d_Mo_target_7 rfl rfl ?_ | refine J_aload_n X d_Mo_target_7 rfl rfl ?_ | refine J_aload_n0 X d_Mo_target_7 rfl rfl ?_
  refine J_iload_n X d_Mo_target_8 rfl rfl ?_
  refine J_callV X (hm) rfl (k_is (r := r) hMS) cd_Mo_is lk_Mo_48 vi_Mo_is (by decide) (by decide) (by decide) (by decide) rfl (by first | decide | simp [va_rf_cat, vc_r, vc_i, vc_0]) d_Mo_target_9 (fun q w1 hq => ?_)
  obtain ⟨rfl, hw1⟩ := hq
  refine J_eq hw1 rfl ?_
  by_cases h : regB nr r
  · refine J_top (v' := .int 1) (by rw [if_pos h]) ?_
    refine J_if_eq (tgt := 32) X d_Mo_target_12 (by decide) (fun g => ?_) (fun g => ?_)
    · exact absurd g (by decide)
    · refine J_iload_n X d_Mo_target_15 rfl rfl ?_
      refine J_if_lt (tgt := 32) X d_Mo_target_16 (by decide) (fun g1 => ?_) (fun g1 => ?_)
      · exact no (by decide) (by decide) (fun q => Int32.not_le.mpr g1 q.2.1)
      · obtain ⟨p, hp1, e⟩ := nI_of g1
        have hp2 := plc_has (r := r2) hR hb.1 (by omega) p e hp1
        first | refine J_aload_nr X d_Mo_target_19 rfl rfl ?_ | refine J_aload_n X d_Mo_target_19 rfl rfl ?_ | refine J_aload_n0 X d_Mo_target_19 rfl rfl ?_
        refine J_getR X (hm) fa_Mo_20_6 rfl (h7) d_Mo_target_20 ?_
        refine J_iload_n X d_Mo_target_23 rfl rfl ?_
        refine J_iald X (ks) (by decide) rfl rfl (e) (hp2) (by decide) (rfl) d_Mo_target_24 ?_
        refine J_if_ge (tgt := 32) X d_Mo_target_25 (by decide) (fun g2 => ?_) (fun g2 => ?_)
        · exact no (by decide) (by decide) (fun q => by have := q.2.2; rw [e, nI_clamp hp1] at this; exact Int32.not_le.mpr this g2)
        · have hw : wcond w re sz nr r2 := ⟨Int32.not_lt.mp g1, by rw [e, nI_clamp hp1]; exact Int32.not_le.mp g2⟩
          refine J_iconst (v := 1) X d_Mo_target_28 (by decide) ?_
          refine J_goto (tgt := 33) X d_Mo_target_29 (by decide) ?_
          refine J_iconst (v := 1) X d_Mo_target_33 (by decide) ?_
          refine J_callV X (hm) rfl (k_when (z := 1) (n := 1) hm (Or.inr rfl)) cd_Mo_when lk_Mo_98 vi_Mo_when (by decide) (by decide) (by decide) (by decide) rfl (by first | decide | simp [va_rf_cat, vc_r, vc_i, vc_0]) d_Mo_target_34 (fun q w1 hq => ?_)
          obtain ⟨rfl, hw1⟩ := hq
          refine J_eq (w' := uI w m 0 0) hw1 rfl ?_
          refine J_if_ne (tgt := 41) X d_Mo_target_37 (by decide) (fun g => ?_) (fun g => ?_)
          · obtain ⟨i, hi, rfl⟩ := regB_at hb.1 (by omega) h
            have hrd : wI (uI w m 0 0) am p = wI w am p := by rw [wI_uI, if_neg (fun q => hne.2.1.2.2.2.1 q.1.symm)]
            first | refine J_aload_nr X d_Mo_target_41 rfl rfl ?_ | refine J_aload_n X d_Mo_target_41 rfl rfl ?_ | refine J_aload_n0 X d_Mo_target_41 rfl rfl ?_
            refine J_getR X (hm) fa_Mo_7_6 rfl (h4) d_Mo_target_42 ?_
            refine J_iload_n X d_Mo_target_45 rfl rfl ?_
            first | refine J_aload_nr X d_Mo_target_46 rfl rfl ?_ | refine J_aload_n X d_Mo_target_46 rfl rfl ?_ | refine J_aload_n0 X d_Mo_target_46 rfl rfl ?_
            refine J_getR X (hm) fa_Mo_24_6 rfl (h8) d_Mo_target_47 ?_
            refine J_iload_n X d_Mo_target_50 rfl rfl ?_
            refine J_iald X (ka) (by decide) rfl rfl (e) (hp2) (by decide) (hrd) d_Mo_target_51 ?_
            refine J_if_ge (tgt := 61) X d_Mo_target_52 (by decide) (fun g3 => ?_) (fun g3 => ?_)
            · refine J_ldc2 X d_Mo_target_61 m_566 ?_
              first | refine J_aload_nr X d_Mo_target_64 rfl rfl ?_ | refine J_aload_n X d_Mo_target_64 rfl rfl ?_ | refine J_aload_n0 X d_Mo_target_64 rfl rfl ?_
              refine J_getR X (hm) fa_Mo_24_6 rfl (h8) d_Mo_target_65 ?_
              refine J_iload_n X d_Mo_target_68 rfl rfl ?_
              refine J_iald X (ka) (by decide) rfl rfl (e) (hp2) (by decide) (hrd) d_Mo_target_69 ?_
              refine J_i2l X d_Mo_target_70 ?_
              refine J_ladd X d_Mo_target_71 ?_
              refine J_last X (kre) (by decide) rfl rfl (rfl) (by omega) (by decide) d_Mo_target_72 ?_
              exact J_vret X ⟨rfl, Or.inr ⟨hw, i, p, hi, rfl, hp2, e, by rw [if_neg (Int32.not_lt.mpr g3)]⟩⟩ (by decide) (by decide) d_Mo_target_73
            · refine J_ldc2 X d_Mo_target_55 m_474 ?_
              refine J_goto (tgt := 72) X d_Mo_target_58 (by decide) ?_
              refine J_last X (kre) (by decide) rfl rfl (rfl) (by omega) (by decide) d_Mo_target_72 ?_
              exact J_vret X ⟨rfl, Or.inr ⟨hw, i, p, hi, rfl, hp2, e, by rw [if_pos (Int32.not_le.mp g3)]⟩⟩ (by decide) (by decide) d_Mo_target_73
          · exact absurd g (by decide)
  · refine J_top (v' := .int 0) (by rw [if_neg h]) ?_
    refine J_if_eq (tgt := 32) X d_Mo_target_12 (by decide) (fun g => ?_) (fun g => ?_)
    · exact no (by decide) (by decide) (fun q => h q.1)
    · exact absurd rfl g
end MT
