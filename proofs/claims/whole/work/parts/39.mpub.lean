/-! the model's public methods -/
/-- all that the model's steps stand on -/
def MP (w : Wd) (m re th ol sz am fd rc nr ly lo : Nat) (B : Nat → Prop) : Prop := MS w m re th ol sz am fd rc nr ly lo ∧ amok w am ∧ Bk w fd sz B ∧ ReB w re nr B ∧ OlB w th ol B
section MB
variable {l : Launch} {Δ : Dat} {w : Wd} {m re th ol sz am fd rc nr ly lo : Nat} {B : Nat → Prop} {r r2 r3 v : Int32}
theorem MP_u {k : Nat} (hk : k = 0 ∨ 3 < k) (H : MP w m re th ol sz am fd rc nr ly lo B) : MP (uI w m k v) m re th ol sz am fd rc nr ly lo B := by
  obtain ⟨h1, h2, h3, h4, h5⟩ := H
  obtain ⟨-, ⟨f1, f2, f3, f4, f5, f6, f7⟩, -⟩ := MS_ne h1
  have bm : ∀ {b j : Nat}, b ≠ m → wI (uI w m k v) b j = wI w b j := fun h => by rw [wI_uI, if_neg (fun q => h q.1)]
  exact ⟨MS_uI hk h1, fun p hp => by rw [bm (Ne.symm f4)]; exact h2 p hp, Bk_congr (fun p => bm (Ne.symm f3)) (fun p => by rw [fldL, fldL, szN, szN, bm (Ne.symm f3)]; rfl) h3, h4, fun p hp a b => h5 p hp (by rwa [bm (Ne.symm f1)] at a) (by rwa [bm (Ne.symm f2)] at b)⟩
theorem plc_cases (hR : ReB w re nr B) (h1 : 1 ≤ nr) (h2 : nr < 1000) : plc w re nr r = -1 ∨ ∃ q j, q < 200 ∧ j < nr ∧ r = nI j ∧ plc w re nr r = nI q ∧ wL w re j = RF q ∧ B q := by
  by_cases h : regB nr r ∧ 2199023255552 ≤ wL w re r.toNatClampNeg
  · right
    obtain ⟨j, hj, rfl⟩ := regB_at h1 h2 h.1
    rw [nI_clamp (by omega)] at h
    rcases hR (wL w re j) (List.mem_map.mpr ⟨j, List.mem_range.mpr hj, rfl⟩) with e | ⟨q, hq, e, hb⟩
    · exact absurd h.2 (Int64.not_le.mpr e)
    · exact ⟨q, j, hq, hj, rfl, by rw [plc, nI_clamp (by omega), if_pos h, e, RF_i], e, hb⟩
  · exact Or.inl (by rw [plc, if_neg h])
theorem plc_has (hR : ReB w re nr B) (h1 : 1 ≤ nr) (h2 : nr < 1000) : ∀ p, plc w re nr r = nI p → p < 2 ^ 31 → p < 200 := fun p hp hlt => by
  rcases plc_cases (r := r) hR h1 h2 with e | ⟨q, j, hq, -, -, e, -⟩
  · rw [e] at hp
    exact absurd (by rw [← hp]; decide) (nI_pos hlt)
  · rw [e, nI_eq (by omega) hlt] at hp; omega
theorem plc_u {k : Nat} : plc (uI w m k v) re nr r = plc w re nr r := rfl
/-- the fields of a place that a register holds -/
def fcond (w : Wd) (re sz nr : Nat) (r i : Int32) : Prop := 0 ≤ plc w re nr r ∧ 0 ≤ i ∧ i < wI w sz (plc w re nr r).toNatClampNeg
theorem fcond_at (H : MP w m re th ol sz am fd rc nr ly lo B) (h : fcond w re sz nr r r2) : ∃ p k j, p < 200 ∧ k < 11 ∧ j < nr ∧ r = nI j ∧ wL w re j = RF p ∧ B p ∧ plc w re nr r = nI p ∧ r2 = nI k ∧ k < szN w sz p := by
  obtain ⟨h1, h2, h3, h4, h5⟩ := H
  obtain ⟨-, -, -, -, -, -, -, -, -, -, hb, -⟩ := h1
  rcases plc_cases (r := r) h4 hb.1 (by omega) with e | ⟨q, j, hq, hj, er, e, e2, hB⟩
  · have := h.1; rw [e] at this; exact absurd this (by decide)
  · have h6 := h.2.2
    rw [e, nI_clamp (by omega)] at h6
    rcases (h3 q hq hB).1 with z | ⟨n, hn, z⟩
    · rw [z] at h6
      exact absurd (Int32.lt_of_le_of_lt h.2.1 h6) (by decide)
    · rw [z] at h6
      obtain ⟨k, hk, rfl⟩ := nI_of1 (by omega) h.2.1 h6
      exact ⟨q, k, j, hq, by omega, hj, er, e2, hB, e, rfl, by rw [szN, z, nI_clamp (by omega)]; exact hk⟩
set_option maxRecDepth 100000 in
theorem km_collections (hm : wK w m = some (.inl 6)) : Ct l y_Mo_collections h_Mo_collections (rmL 0 0 0) Δ [.ref m, .int r] w (fun q w' => q = some (.int (if r = 0 then wI w m 11 else if r = 1 then wI w m 12 else -1)) ∧ w' = uI w m 0 0) := by
  have a1 : wI (uI w m 0 0) m 11 = wI w m 11 := by rw [wI_uI, if_neg (by simp)]
  have a2 : wI (uI w m 0 0) m 12 = wI w m 12 := by rw [wI_uI, if_neg (by simp)]
  refine Ct_of (L := [some (.ref m), some (.int r)]) (by decide) (by first | exact Nat.le_of_ble_eq_true rfl | simp [lg_sl, va_rf_cat, vc_r, vc_i, vc_0]) (by first | rfl | simp [lin, va_rf_cat, vc_r, vc_i, vc_0]) (fun Γ X => ?_)
  first | refine J_aload_nr X d_Mo_collections_0 rfl rfl ?_ | refine J_aload_n X d_Mo_collections_0 rfl rfl ?_ | refine J_aload_n0 X d_Mo_collections_0 rfl rfl ?_
  refine J_iconst (v := 0) X d_Mo_collections_1 (by decide) ?_
  refine J_putI X (hm) fp_Mo_45_6 rfl d_Mo_collections_2 ?_
  refine J_iload_n X d_Mo_collections_5 rfl rfl ?_
  refine J_if_ne (tgt := 16) X d_Mo_collections_6 (by decide) (fun g => ?_) (fun g => ?_)
  · refine J_iload_n X d_Mo_collections_16 rfl rfl ?_
    refine J_iconst (v := 1) X d_Mo_collections_17 (by decide) ?_
    refine J_icmp_ne (tgt := 28) X d_Mo_collections_18 (by decide) (fun g2 => ?_) (fun g2 => ?_)
    · refine J_iconst (v := -1) X d_Mo_collections_28 (by decide) ?_
      exact J_iret X ⟨by rw [if_neg g, if_neg g2], rfl⟩ (by decide) (by decide) d_Mo_collections_29
    · first | refine J_aload_nr X d_Mo_collections_21 rfl rfl ?_ | refine J_aload_n X d_Mo_collections_21 rfl rfl ?_ | refine J_aload_n0 X d_Mo_collections_21 rfl rfl ?_
      refine J_getI X (hm) fa_Mo_79_6 rfl (a2) d_Mo_collections_22 ?_
      refine J_goto (tgt := 29) X d_Mo_collections_25 (by decide) ?_
      exact J_iret X ⟨by rw [if_neg g, if_pos g2], rfl⟩ (by decide) (by decide) d_Mo_collections_29
  · first | refine J_aload_nr X d_Mo_collections_9 rfl rfl ?_ | refine J_aload_n X d_Mo_collections_9 rfl rfl ?_ | refine J_aload_n0 X d_Mo_collections_9 rfl rfl ?_
    refine J_getI X (hm) fa_Mo_89_6 rfl (a1) d_Mo_collections_10 ?_
    refine J_goto (tgt := 29) X d_Mo_collections_13 (by decide) ?_
    exact J_iret X ⟨by rw [if_pos g], rfl⟩ (by decide) (by decide) d_Mo_collections_29
theorem tak_u {k : Nat} (H : MS w m re th ol sz am fd rc nr ly lo) (b : Int32) : sumTo (takF (uI w m k v) th ol sz b) 200 = sumTo (takF w th ol sz b) 200 := by
  obtain ⟨-, ⟨f1, f2, f3, f4, f5, f6, f7⟩, -⟩ := MS_ne H
  have bm : ∀ {b j : Nat}, b ≠ m → wI (uI w m k v) b j = wI w b j := fun h => by rw [wI_uI, if_neg (fun q => h q.1)]
  refine sumTo_congr (fun p hp => ?_)
  rw [takF, takF, celI, celI, bm (Ne.symm f1), bm (Ne.symm f2), bm (Ne.symm f3)]
set_option maxRecDepth 100000 in
theorem km_cells (H : MS w m re th ol sz am fd rc nr ly lo) : Ct l y_Mo_cells h_Mo_cells (rmL 2 0 0) Δ [.ref m, .int r] w (fun q w' => q = some (.int (if r = 0 then sumTo (takF w th ol sz 0) 200 else if r = 1 then sumTo (takF w th ol sz 1) 200 else -1)) ∧ w' = uI w m 0 0) := by
  have hm := H.1
  have H1 : MS (uI w m 0 0) m re th ol sz am fd rc nr ly lo := MS_uI (Or.inl rfl) H
  refine Ct_of (L := [some (.ref m), some (.int r)]) (by decide) (by first | exact Nat.le_of_ble_eq_true rfl | simp [lg_sl, va_rf_cat, vc_r, vc_i, vc_0]) (by first | rfl | simp [lin, va_rf_cat, vc_r, vc_i, vc_0]) (fun Γ X => ?_)
  first | refine J_aload_nr X d_Mo_cells_0 rfl rfl ?_ | refine J_aload_n X d_Mo_cells_0 rfl rfl ?_ | refine J_aload_n0 X d_Mo_cells_0 rfl rfl ?_
  refine J_iconst (v := 0) X d_Mo_cells_1 (by decide) ?_
  refine J_putI X (hm) fp_Mo_45_6 rfl d_Mo_cells_2 ?_
  refine J_iload_n X d_Mo_cells_5 rfl rfl ?_
  refine J_if_ne (tgt := 17) X d_Mo_cells_6 (by decide) (fun g => ?_) (fun g => ?_)
  · refine J_iload_n X d_Mo_cells_17 rfl rfl ?_
    refine J_iconst (v := 1) X d_Mo_cells_18 (by decide) ?_
    refine J_icmp_ne (tgt := 30) X d_Mo_cells_19 (by decide) (fun g2 => ?_) (fun g2 => ?_)
    · refine J_iconst (v := -1) X d_Mo_cells_30 (by decide) ?_
      exact J_iret X ⟨by rw [if_neg g, if_neg g2], rfl⟩ (by decide) (by decide) d_Mo_cells_31
    · first | refine J_aload_nr X d_Mo_cells_22 rfl rfl ?_ | refine J_aload_n X d_Mo_cells_22 rfl rfl ?_ | refine J_aload_n0 X d_Mo_cells_22 rfl rfl ?_
      refine J_iconst (v := 1) X d_Mo_cells_23 (by decide) ?_
      refine J_callV X (hm) rfl (k_taken (b := 1) H1) cd_Mo_taken lk_Mo_82 vi_Mo_taken (by decide) (by decide) (by decide) (by decide) rfl (by first | decide | simp [va_rf_cat, vc_r, vc_i, vc_0]) d_Mo_cells_24 (fun q w1 hq => ?_)
      obtain ⟨rfl, hw1⟩ := hq
      refine J_goto (tgt := 31) X d_Mo_cells_27 (by decide) ?_
      exact J_iret X ⟨by rw [if_neg g, if_pos g2, tak_u H], hw1⟩ (by decide) (by decide) d_Mo_cells_31
  · first | refine J_aload_nr X d_Mo_cells_9 rfl rfl ?_ | refine J_aload_n X d_Mo_cells_9 rfl rfl ?_ | refine J_aload_n0 X d_Mo_cells_9 rfl rfl ?_
    refine J_iconst (v := 0) X d_Mo_cells_10 (by decide) ?_
    refine J_callV X (hm) rfl (k_taken (b := 0) H1) cd_Mo_taken lk_Mo_82 vi_Mo_taken (by decide) (by decide) (by decide) (by decide) rfl (by first | decide | simp [va_rf_cat, vc_r, vc_i, vc_0]) d_Mo_cells_11 (fun q w1 hq => ?_)
    obtain ⟨rfl, hw1⟩ := hq
    refine J_goto (tgt := 31) X d_Mo_cells_14 (by decide) ?_
    exact J_iret X ⟨by rw [if_pos g, tak_u H], hw1⟩ (by decide) (by decide) d_Mo_cells_31
set_option maxRecDepth 100000 in
theorem km_generation (H : MP w m re th ol sz am fd rc nr ly lo B) : Ct l y_Mo_generation h_Mo_generation (rmL 2 0 0) Δ [.ref m, .int r] w (fun q w' => q = some (.int (if plc w re nr r < 0 then -1 else if wI w ol (plc w re nr r).toNatClampNeg = 0 then 0 else 1)) ∧ w' = uI w m 0 0) := by
  have H1 : MS (uI w m 0 0) m re th ol sz am fd rc nr ly lo := MS_uI (Or.inl rfl) H.1
  have hne := MS_ne H.1
  obtain ⟨hMS, -, -, hR, -⟩ := H
  obtain ⟨hm, -, -, -, ⟨h6, ko⟩, -, -, -, -, -, hb, -⟩ := hMS
  refine Ct_of (L := [some (.ref m), some (.int r), none]) (by decide) (by first | exact Nat.le_of_ble_eq_true rfl | simp [lg_sl, va_rf_cat, vc_r, vc_i, vc_0]) (by first | rfl | simp [lin, va_rf_cat, vc_r, vc_i, vc_0]) (fun Γ X => ?_)
  first | refine J_aload_nr X d_Mo_generation_0 rfl rfl ?_ | refine J_aload_n X d_Mo_generation_0 rfl rfl ?_ | refine J_aload_n0 X d_Mo_generation_0 rfl rfl ?_
  refine J_iconst (v := 0) X d_Mo_generation_1 (by decide) ?_
  refine J_putI X (hm) fp_Mo_45_6 rfl d_Mo_generation_2 ?_
  first | refine J_aload_nr X d_Mo_generation_5 rfl rfl ?_ | refine J_aload_n X d_Mo_generation_5 rfl rfl ?_ | refine J_aload_n0 X d_Mo_generation_5 rfl rfl ?_
  refine J_iload_n X d_Mo_generation_6 rfl rfl ?_
  refine J_callV X (hm) rfl (k_placeIn (r := r) H1) cd_Mo_placeIn lk_Mo_109 vi_Mo_placeIn (by decide) (by decide) (by decide) (by decide) rfl (by first | decide | simp [va_rf_cat, vc_r, vc_i, vc_0]) d_Mo_generation_7 (fun q w1 hq => ?_)
  obtain ⟨rfl, hw1⟩ := hq
  refine J_eq hw1 rfl ?_
  rw [plc_u]
  refine J_istore_n X d_Mo_generation_10 rfl (by decide) rfl ?_
  refine J_iload_n X d_Mo_generation_11 rfl rfl ?_
  refine J_if_ge (tgt := 19) X d_Mo_generation_12 (by decide) (fun g => ?_) (fun g => ?_)
  · obtain ⟨p, hp1, e⟩ := nI_of (Int32.not_lt.mpr g)
    have hp2 := plc_has (r := r) hR hb.1 (by omega) p e hp1
    rw [e]
    have hrd : wI (uI w m 0 0) ol p = wI w ol p := by rw [wI_uI, if_neg (fun q => hne.2.1.2.1 q.1.symm)]
    first | refine J_aload_nr X d_Mo_generation_19 rfl rfl ?_ | refine J_aload_n X d_Mo_generation_19 rfl rfl ?_ | refine J_aload_n0 X d_Mo_generation_19 rfl rfl ?_
    refine J_getR X (hm) fa_Mo_17_6 rfl (h6) d_Mo_generation_20 ?_
    refine J_iload_n X d_Mo_generation_23 rfl rfl ?_
    refine J_zald X (ko) (by decide) rfl rfl (rfl) (hp2) (by decide) (hrd) d_Mo_generation_24 ?_
    refine J_if_eq (tgt := 32) X d_Mo_generation_25 (by decide) (fun g2 => ?_) (fun g2 => ?_)
    · refine J_iconst (v := 0) X d_Mo_generation_32 (by decide) ?_
      exact J_iret X ⟨by rw [if_neg (nI_pos hp1), nI_clamp hp1, if_pos g2], rfl⟩ (by decide) (by decide) d_Mo_generation_33
    · refine J_iconst (v := 1) X d_Mo_generation_28 (by decide) ?_
      refine J_goto (tgt := 33) X d_Mo_generation_29 (by decide) ?_
      exact J_iret X ⟨by rw [if_neg (nI_pos hp1), nI_clamp hp1, if_neg g2], rfl⟩ (by decide) (by decide) d_Mo_generation_33
  · refine J_iconst (v := -1) X d_Mo_generation_15 (by decide) ?_
    refine J_goto (tgt := 33) X d_Mo_generation_16 (by decide) ?_
    exact J_iret X ⟨by rw [if_pos (Int32.not_le.mp g)], rfl⟩ (by decide) (by decide) d_Mo_generation_33
set_option maxRecDepth 100000 in
theorem km_fields (H : MP w m re th ol sz am fd rc nr ly lo B) : Ct l y_Mo_fields h_Mo_fields (rmL 2 0 0) Δ [.ref m, .int r] w (fun q w' => q = some (.int (if plc w re nr r < 0 then -1 else if wI w sz (plc w re nr r).toNatClampNeg < 0 then -1 else wI w sz (plc w re nr r).toNatClampNeg)) ∧ w' = uI w m 0 0) := by
  have H1 : MS (uI w m 0 0) m re th ol sz am fd rc nr ly lo := MS_uI (Or.inl rfl) H.1
  have hne := MS_ne H.1
  obtain ⟨hMS, -, -, hR, -⟩ := H
  obtain ⟨hm, -, -, -, -, ⟨h7, ks⟩, -, -, -, -, hb, -⟩ := hMS
  refine Ct_of (L := [some (.ref m), some (.int r), none]) (by decide) (by first | exact Nat.le_of_ble_eq_true rfl | simp [lg_sl, va_rf_cat, vc_r, vc_i, vc_0]) (by first | rfl | simp [lin, va_rf_cat, vc_r, vc_i, vc_0]) (fun Γ X => ?_)
  first | refine J_aload_nr X d_Mo_fields_0 rfl rfl ?_ | refine J_aload_n X d_Mo_fields_0 rfl rfl ?_ | refine J_aload_n0 X d_Mo_fields_0 rfl rfl ?_
  refine J_iconst (v := 0) X d_Mo_fields_1 (by decide) ?_
  refine J_putI X (hm) fp_Mo_45_6 rfl d_Mo_fields_2 ?_
  first | refine J_aload_nr X d_Mo_fields_5 rfl rfl ?_ | refine J_aload_n X d_Mo_fields_5 rfl rfl ?_ | refine J_aload_n0 X d_Mo_fields_5 rfl rfl ?_
  refine J_iload_n X d_Mo_fields_6 rfl rfl ?_
  refine J_callV X (hm) rfl (k_placeIn (r := r) H1) cd_Mo_placeIn lk_Mo_109 vi_Mo_placeIn (by decide) (by decide) (by decide) (by decide) rfl (by first | decide | simp [va_rf_cat, vc_r, vc_i, vc_0]) d_Mo_fields_7 (fun q w1 hq => ?_)
  obtain ⟨rfl, hw1⟩ := hq
  refine J_eq hw1 rfl ?_
  rw [plc_u]
  refine J_istore_n X d_Mo_fields_10 rfl (by decide) rfl ?_
  refine J_iload_n X d_Mo_fields_11 rfl rfl ?_
  refine J_if_lt (tgt := 24) X d_Mo_fields_12 (by decide) (fun g => ?_) (fun g => ?_)
  · refine J_iconst (v := -1) X d_Mo_fields_24 (by decide) ?_
    refine J_goto (tgt := 34) X d_Mo_fields_25 (by decide) ?_
    exact J_iret X ⟨by rw [if_pos g], rfl⟩ (by decide) (by decide) d_Mo_fields_34
  · obtain ⟨p, hp1, e⟩ := nI_of g
    have hp2 := plc_has (r := r) hR hb.1 (by omega) p e hp1
    rw [e]
    have hrd : wI (uI w m 0 0) sz p = wI w sz p := by rw [wI_uI, if_neg (fun q => hne.2.1.2.2.1 q.1.symm)]
    first | refine J_aload_nr X d_Mo_fields_15 rfl rfl ?_ | refine J_aload_n X d_Mo_fields_15 rfl rfl ?_ | refine J_aload_n0 X d_Mo_fields_15 rfl rfl ?_
    refine J_getR X (hm) fa_Mo_20_6 rfl (h7) d_Mo_fields_16 ?_
    refine J_iload_n X d_Mo_fields_19 rfl rfl ?_
    refine J_iald X (ks) (by decide) rfl rfl (rfl) (hp2) (by decide) (hrd) d_Mo_fields_20 ?_
    refine J_if_ge (tgt := 28) X d_Mo_fields_21 (by decide) (fun g2 => ?_) (fun g2 => ?_)
    · first | refine J_aload_nr X d_Mo_fields_28 rfl rfl ?_ | refine J_aload_n X d_Mo_fields_28 rfl rfl ?_ | refine J_aload_n0 X d_Mo_fields_28 rfl rfl ?_
      refine J_getR X (hm) fa_Mo_20_6 rfl (h7) d_Mo_fields_29 ?_
      refine J_iload_n X d_Mo_fields_32 rfl rfl ?_
      refine J_iald X (ks) (by decide) rfl rfl (rfl) (hp2) (by decide) (hrd) d_Mo_fields_33 ?_
      exact J_iret X ⟨by rw [if_neg (nI_pos hp1), nI_clamp hp1, if_neg (Int32.not_lt.mpr g2)], rfl⟩ (by decide) (by decide) d_Mo_fields_34
    · refine J_iconst (v := -1) X d_Mo_fields_24 (by decide) ?_
      refine J_goto (tgt := 34) X d_Mo_fields_25 (by decide) ?_
      exact J_iret X ⟨by rw [if_neg (nI_pos hp1), nI_clamp hp1, if_pos (Int32.not_le.mp g2)], rfl⟩ (by decide) (by decide) d_Mo_fields_34
set_option maxRecDepth 100000 in
theorem km_value (H : MS w m re th ol sz am fd rc nr ly lo) : Ct l y_Mo_value h_Mo_value (rmL 1 0 0) Δ [.ref m, .int r] w (fun q w' => q = some (.int (if regB nr r ∧ wL w re r.toNatClampNeg < 1099511627776 then (wL w re r.toNatClampNeg).toInt32 else 0)) ∧ w' = uI w m 0 0) := by
  have H1 : MS (uI w m 0 0) m re th ol sz am fd rc nr ly lo := MS_uI (Or.inl rfl) H
  obtain ⟨hm, -, ⟨h4, kre⟩, -, -, -, -, -, -, -, hb, -⟩ := H
  refine Ct_of (L := [some (.ref m), some (.int r)]) (by decide) (by first | exact Nat.le_of_ble_eq_true rfl | simp [lg_sl, va_rf_cat, vc_r, vc_i, vc_0]) (by first | rfl | simp [lin, va_rf_cat, vc_r, vc_i, vc_0]) (fun Γ X => ?_)
  first | refine J_aload_nr X d_Mo_value_0 rfl rfl ?_ | refine J_aload_n X d_Mo_value_0 rfl rfl ?_ | refine J_aload_n0 X d_Mo_value_0 rfl rfl ?_
  refine J_iconst (v := 0) X d_Mo_value_1 (by decide) ?_
  refine J_putI X (hm) fp_Mo_45_6 rfl d_Mo_value_2 ?_
  first | refine J_aload_nr X d_Mo_value_5 rfl rfl ?_ | refine J_aload_n X d_Mo_value_5 rfl rfl ?_ | refine J_aload_n0 X d_Mo_value_5 rfl rfl ?_
  refine J_iload_n X d_Mo_value_6 rfl rfl ?_
  refine J_callV X (hm) rfl (k_is (r := r) H1) cd_Mo_is lk_Mo_48 vi_Mo_is (by decide) (by decide) (by decide) (by decide) rfl (by first | decide | simp [va_rf_cat, vc_r, vc_i, vc_0]) d_Mo_value_7 (fun q w1 hq => ?_)
  obtain ⟨rfl, hw1⟩ := hq
  refine J_eq hw1 rfl ?_
  by_cases h : regB nr r
  · refine J_top (v' := .int 1) (by rw [if_pos h]) ?_
    obtain ⟨j, hj, rfl⟩ := regB_at hb.1 (by omega) h
    rw [nI_clamp (show j < 2 ^ 31 by omega)]
    refine J_if_eq (tgt := 36) X d_Mo_value_10 (by decide) (fun g => ?_) (fun g => ?_)
    · exact absurd g (by decide)
    · first | refine J_aload_nr X d_Mo_value_13 rfl rfl ?_ | refine J_aload_n X d_Mo_value_13 rfl rfl ?_ | refine J_aload_n0 X d_Mo_value_13 rfl rfl ?_
      refine J_getR X (hm) fa_Mo_7_6 rfl (h4) d_Mo_value_14 ?_
      refine J_iload_n X d_Mo_value_17 rfl rfl ?_
      refine J_lald X (kre) (by decide) rfl rfl (rfl) (by omega) (by decide) (rfl) d_Mo_value_18 ?_
      refine J_ldc2 X d_Mo_value_19 m_474 ?_
      refine J_lcmp X d_Mo_value_22 ?_
      refine J_if_ge (tgt := 36) X d_Mo_value_23 (by decide) (fun g2 => ?_) (fun g2 => ?_)
      · rw [lg_cmp_ge] at g2
        refine J_iconst (v := 0) X d_Mo_value_36 (by decide) ?_
        exact J_iret X ⟨by rw [if_neg (fun q => Int64.not_le.mpr q.2 g2)], rfl⟩ (by decide) (by decide) d_Mo_value_37
      · rw [lg_cmp_ge] at g2
        first | refine J_aload_nr X d_Mo_value_26 rfl rfl ?_ | refine J_aload_n X d_Mo_value_26 rfl rfl ?_ | refine J_aload_n0 X d_Mo_value_26 rfl rfl ?_
        refine J_getR X (hm) fa_Mo_7_6 rfl (h4) d_Mo_value_27 ?_
        refine J_iload_n X d_Mo_value_30 rfl rfl ?_
        refine J_lald X (kre) (by decide) rfl rfl (rfl) (by omega) (by decide) (rfl) d_Mo_value_31 ?_
        refine J_l2i X d_Mo_value_32 ?_
        refine J_goto (tgt := 37) X d_Mo_value_33 (by decide) ?_
        exact J_iret X ⟨by rw [if_pos ⟨h, Int64.not_le.mp g2⟩]; rfl, rfl⟩ (by decide) (by decide) d_Mo_value_37
  · refine J_top (v' := .int 0) (by rw [if_neg h]) ?_
    refine J_if_eq (tgt := 36) X d_Mo_value_10 (by decide) (fun g => ?_) (fun g => ?_)
    · refine J_iconst (v := 0) X d_Mo_value_36 (by decide) ?_
      exact J_iret X ⟨by rw [if_neg (fun q => h q.1)], rfl⟩ (by decide) (by decide) d_Mo_value_37
    · exact absurd rfl g
set_option maxRecDepth 100000 in
theorem km_kind (H : MP w m re th ol sz am fd rc nr ly lo B) : Ct l y_Mo_kind h_Mo_kind (rmL 2 0 0) Δ [.ref m, .int r] w (fun q w' => q = some (.int (if regB nr r then (if plc w re nr r < 0 then (if wL w re r.toNatClampNeg = 1099511627776 then 0 else 1) else if wI w sz (plc w re nr r).toNatClampNeg < 0 then 3 else 2) else -1)) ∧ w' = uI w m 0 0) := by
  have H1 : MS (uI w m 0 0) m re th ol sz am fd rc nr ly lo := MS_uI (Or.inl rfl) H.1
  have hne := MS_ne H.1
  obtain ⟨hMS, -, -, hR, -⟩ := H
  obtain ⟨hm, -, ⟨h4, kre⟩, -, -, ⟨h7, ks⟩, -, -, -, -, hb, -⟩ := hMS
  refine Ct_of (L := [some (.ref m), some (.int r), none]) (by decide) (by first | exact Nat.le_of_ble_eq_true rfl | simp [lg_sl, va_rf_cat, vc_r, vc_i, vc_0]) (by first | rfl | simp [lin, va_rf_cat, vc_r, vc_i, vc_0]) (fun Γ X => ?_)
  first | refine J_aload_nr X d_Mo_kind_0 rfl rfl ?_ | refine J_aload_n X d_Mo_kind_0 rfl rfl ?_ | refine J_aload_n0 X d_Mo_kind_0 rfl rfl ?_
  refine J_iconst (v := 0) X d_Mo_kind_1 (by decide) ?_
  refine J_putI X (hm) fp_Mo_45_6 rfl d_Mo_kind_2 ?_
  first | refine J_aload_nr X d_Mo_kind_5 rfl rfl ?_ | refine J_aload_n X d_Mo_kind_5 rfl rfl ?_ | refine J_aload_n0 X d_Mo_kind_5 rfl rfl ?_
  refine J_iload_n X d_Mo_kind_6 rfl rfl ?_
  refine J_callV X (hm) rfl (k_is (r := r) H1) cd_Mo_is lk_Mo_48 vi_Mo_is (by decide) (by decide) (by decide) (by decide) rfl (by first | decide | simp [va_rf_cat, vc_r, vc_i, vc_0]) d_Mo_kind_7 (fun q w1 hq => ?_)
  obtain ⟨rfl, hw1⟩ := hq
  refine J_eq hw1 rfl ?_
  by_cases h : regB nr r
  · refine J_top (v' := .int 1) (by rw [if_pos h]) ?_
    rw [if_pos h]
    refine J_if_ne (tgt := 15) X d_Mo_kind_10 (by decide) (fun g => ?_) (fun g => ?_)
    · first | refine J_aload_nr X d_Mo_kind_15 rfl rfl ?_ | refine J_aload_n X d_Mo_kind_15 rfl rfl ?_ | refine J_aload_n0 X d_Mo_kind_15 rfl rfl ?_
      refine J_iload_n X d_Mo_kind_16 rfl rfl ?_
      refine J_callV X (hm) rfl (k_placeIn (r := r) H1) cd_Mo_placeIn lk_Mo_109 vi_Mo_placeIn (by decide) (by decide) (by decide) (by decide) rfl (by first | decide | simp [va_rf_cat, vc_r, vc_i, vc_0]) d_Mo_kind_17 (fun q w1 hq => ?_)
      obtain ⟨rfl, hw1⟩ := hq
      refine J_eq hw1 rfl ?_
      rw [plc_u]
      refine J_istore_n X d_Mo_kind_20 rfl (by decide) rfl ?_
      refine J_iload_n X d_Mo_kind_21 rfl rfl ?_
      refine J_if_lt (tgt := 42) X d_Mo_kind_22 (by decide) (fun g1 => ?_) (fun g1 => ?_)
      · obtain ⟨j, hj, rfl⟩ := regB_at hb.1 (by omega) h
        rw [if_pos g1, nI_clamp (show j < 2 ^ 31 by omega)]
        first | refine J_aload_nr X d_Mo_kind_42 rfl rfl ?_ | refine J_aload_n X d_Mo_kind_42 rfl rfl ?_ | refine J_aload_n0 X d_Mo_kind_42 rfl rfl ?_
        refine J_getR X (hm) fa_Mo_7_6 rfl (h4) d_Mo_kind_43 ?_
        refine J_iload_n X d_Mo_kind_46 rfl rfl ?_
        refine J_lald X (kre) (by decide) rfl rfl (rfl) (by omega) (by decide) (rfl) d_Mo_kind_47 ?_
        refine J_ldc2 X d_Mo_kind_48 m_474 ?_
        refine J_lcmp X d_Mo_kind_51 ?_
        refine J_if_ne (tgt := 59) X d_Mo_kind_52 (by decide) (fun g2 => ?_) (fun g2 => ?_)
        · refine J_iconst (v := 1) X d_Mo_kind_59 (by decide) ?_
          exact J_iret X ⟨by rw [if_neg (fun q : wL w re j = 1099511627776 => g2 ((lg_cmp_eq _ _).mpr q))], rfl⟩ (by decide) (by decide) d_Mo_kind_60
        · refine J_iconst (v := 0) X d_Mo_kind_55 (by decide) ?_
          refine J_goto (tgt := 60) X d_Mo_kind_56 (by decide) ?_
          exact J_iret X ⟨by rw [if_pos ((lg_cmp_eq _ _).mp g2 : wL w re j = 1099511627776)], rfl⟩ (by decide) (by decide) d_Mo_kind_60
      · obtain ⟨p, hp1, e⟩ := nI_of g1
        have hp2 := plc_has (r := r) hR hb.1 (by omega) p e hp1
        rw [if_neg g1, e, nI_clamp hp1]
        have hrd : wI (uI w m 0 0) sz p = wI w sz p := by rw [wI_uI, if_neg (fun q => hne.2.1.2.2.1 q.1.symm)]
        first | refine J_aload_nr X d_Mo_kind_25 rfl rfl ?_ | refine J_aload_n X d_Mo_kind_25 rfl rfl ?_ | refine J_aload_n0 X d_Mo_kind_25 rfl rfl ?_
        refine J_getR X (hm) fa_Mo_20_6 rfl (h7) d_Mo_kind_26 ?_
        refine J_iload_n X d_Mo_kind_29 rfl rfl ?_
        refine J_iald X (ks) (by decide) rfl rfl (rfl) (hp2) (by decide) (hrd) d_Mo_kind_30 ?_
        refine J_if_ge (tgt := 38) X d_Mo_kind_31 (by decide) (fun g2 => ?_) (fun g2 => ?_)
        · refine J_iconst (v := 2) X d_Mo_kind_38 (by decide) ?_
          refine J_goto (tgt := 60) X d_Mo_kind_39 (by decide) ?_
          exact J_iret X ⟨by rw [if_neg (Int32.not_lt.mpr g2)], rfl⟩ (by decide) (by decide) d_Mo_kind_60
        · refine J_iconst (v := 3) X d_Mo_kind_34 (by decide) ?_
          refine J_goto (tgt := 60) X d_Mo_kind_35 (by decide) ?_
          exact J_iret X ⟨by rw [if_pos (Int32.not_le.mp g2)], rfl⟩ (by decide) (by decide) d_Mo_kind_60
    · exact absurd g (by decide)
  · refine J_top (v' := .int 0) (by rw [if_neg h]) ?_
    refine J_if_ne (tgt := 15) X d_Mo_kind_10 (by decide) (fun g => ?_) (fun g => ?_)
    · exact absurd rfl g
    · refine J_iconst (v := -1) X d_Mo_kind_13 (by decide) ?_
      exact J_iret X ⟨by rw [if_neg h], rfl⟩ (by decide) (by decide) d_Mo_kind_14
set_option maxRecDepth 100000 in
theorem km_same (H : MS w m re th ol sz am fd rc nr ly lo) : Ct l y_Mo_same h_Mo_same (rmL 1 0 0) Δ [.ref m, .int r, .int r2] w (fun q w' => q = some (.int (if regB nr r ∧ regB nr r2 ∧ wL w re r.toNatClampNeg = wL w re r2.toNatClampNeg then 1 else 0)) ∧ w' = uI w m 0 0) := by
  have H1 : MS (uI w m 0 0) m re th ol sz am fd rc nr ly lo := MS_uI (Or.inl rfl) H
  obtain ⟨hm, -, ⟨h4, kre⟩, -, -, -, -, -, -, -, hb, -⟩ := H
  refine Ct_of (L := [some (.ref m), some (.int r), some (.int r2)]) (by decide) (by first | exact Nat.le_of_ble_eq_true rfl | simp [lg_sl, va_rf_cat, vc_r, vc_i, vc_0]) (by first | rfl | simp [lin, va_rf_cat, vc_r, vc_i, vc_0]) (fun Γ X => ?_)
  first | refine J_aload_nr X d_Mo_same_0 rfl rfl ?_ | refine J_aload_n X d_Mo_same_0 rfl rfl ?_ | refine J_aload_n0 X d_Mo_same_0 rfl rfl ?_
  refine J_iconst (v := 0) X d_Mo_same_1 (by decide) ?_
  refine J_putI X (hm) fp_Mo_45_6 rfl d_Mo_same_2 ?_
  first | refine J_aload_nr X d_Mo_same_5 rfl rfl ?_ | refine J_aload_n X d_Mo_same_5 rfl rfl ?_ | refine J_aload_n0 X d_Mo_same_5 rfl rfl ?_
  refine J_iload_n X d_Mo_same_6 rfl rfl ?_
  refine J_callV X (hm) rfl (k_is (r := r) H1) cd_Mo_is lk_Mo_48 vi_Mo_is (by decide) (by decide) (by decide) (by decide) rfl (by first | decide | simp [va_rf_cat, vc_r, vc_i, vc_0]) d_Mo_same_7 (fun q w1 hq => ?_)
  obtain ⟨rfl, hw1⟩ := hq
  refine J_eq hw1 rfl ?_
  by_cases h : regB nr r
  · refine J_top (v' := .int 1) (by rw [if_pos h]) ?_
    refine J_if_eq (tgt := 41) X d_Mo_same_10 (by decide) (fun g => ?_) (fun g => ?_)
    · exact absurd g (by decide)
    · first | refine J_aload_nr X d_Mo_same_13 rfl rfl ?_ | refine J_aload_n X d_Mo_same_13 rfl rfl ?_ | refine J_aload_n0 X d_Mo_same_13 rfl rfl ?_
      refine J_iload_n X d_Mo_same_14 rfl rfl ?_
      refine J_callV X (hm) rfl (k_is (r := r2) H1) cd_Mo_is lk_Mo_48 vi_Mo_is (by decide) (by decide) (by decide) (by decide) rfl (by first | decide | simp [va_rf_cat, vc_r, vc_i, vc_0]) d_Mo_same_15 (fun q w1 hq => ?_)
      obtain ⟨rfl, hw1⟩ := hq
      refine J_eq hw1 rfl ?_
      by_cases h' : regB nr r2
      · refine J_top (v' := .int 1) (by rw [if_pos h']) ?_
        obtain ⟨i, hi, rfl⟩ := regB_at hb.1 (by omega) h
        obtain ⟨j, hj, rfl⟩ := regB_at hb.1 (by omega) h'
        rw [nI_clamp (show i < 2 ^ 31 by omega), nI_clamp (show j < 2 ^ 31 by omega)]
        refine J_if_eq (tgt := 41) X d_Mo_same_18 (by decide) (fun g => ?_) (fun g => ?_)
        · exact absurd g (by decide)
        · first | refine J_aload_nr X d_Mo_same_21 rfl rfl ?_ | refine J_aload_n X d_Mo_same_21 rfl rfl ?_ | refine J_aload_n0 X d_Mo_same_21 rfl rfl ?_
          refine J_getR X (hm) fa_Mo_7_6 rfl (h4) d_Mo_same_22 ?_
          refine J_iload_n X d_Mo_same_25 rfl rfl ?_
          refine J_lald X (kre) (by decide) rfl rfl (rfl) (by omega) (by decide) (rfl) d_Mo_same_26 ?_
          first | refine J_aload_nr X d_Mo_same_27 rfl rfl ?_ | refine J_aload_n X d_Mo_same_27 rfl rfl ?_ | refine J_aload_n0 X d_Mo_same_27 rfl rfl ?_
          refine J_getR X (hm) fa_Mo_7_6 rfl (h4) d_Mo_same_28 ?_
          refine J_iload_n X d_Mo_same_31 rfl rfl ?_
          refine J_lald X (kre) (by decide) rfl rfl (rfl) (by omega) (by decide) (rfl) d_Mo_same_32 ?_
          refine J_lcmp X d_Mo_same_33 ?_
          refine J_if_ne (tgt := 41) X d_Mo_same_34 (by decide) (fun g2 => ?_) (fun g2 => ?_)
          · refine J_iconst (v := 0) X d_Mo_same_41 (by decide) ?_
            exact J_zret X (Or.inl rfl) ⟨by rw [if_neg (fun q => g2 ((lg_cmp_eq _ _).mpr q.2.2))], rfl⟩ (by decide) (by decide) d_Mo_same_42
          · refine J_iconst (v := 1) X d_Mo_same_37 (by decide) ?_
            refine J_goto (tgt := 42) X d_Mo_same_38 (by decide) ?_
            exact J_zret X (Or.inr rfl) ⟨by rw [if_pos ⟨h, h', ((lg_cmp_eq _ _).mp g2 : wL w re i = wL w re j)⟩], rfl⟩ (by decide) (by decide) d_Mo_same_42
      · refine J_top (v' := .int 0) (by rw [if_neg h']) ?_
        refine J_if_eq (tgt := 41) X d_Mo_same_18 (by decide) (fun g => ?_) (fun g => ?_)
        · refine J_iconst (v := 0) X d_Mo_same_41 (by decide) ?_
          exact J_zret X (Or.inl rfl) ⟨by rw [if_neg (fun q => h' q.2.1)], rfl⟩ (by decide) (by decide) d_Mo_same_42
        · exact absurd rfl g
  · refine J_top (v' := .int 0) (by rw [if_neg h]) ?_
    refine J_if_eq (tgt := 41) X d_Mo_same_10 (by decide) (fun g => ?_) (fun g => ?_)
    · refine J_iconst (v := 0) X d_Mo_same_41 (by decide) ?_
      exact J_zret X (Or.inl rfl) ⟨by rw [if_neg (fun q => h q.1)], rfl⟩ (by decide) (by decide) d_Mo_same_42
    · exact absurd rfl g
end MB
