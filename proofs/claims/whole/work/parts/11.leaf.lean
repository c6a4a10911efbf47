/-! leaves of the class: within, free, empty, hasField, the constructors -/
section LF
variable {l : Launch} {Δ : Dat} {w : Wd}
set_option maxRecDepth 100000 in
theorem k_within {v lo hi : Int32} : Ct l y_TG_within h_TG_within (rmL 0 0 0) Δ [.int v, .int lo, .int hi] w (fun r w' => r = some (.int (if lo ≤ v ∧ v ≤ hi then 1 else 0)) ∧ w' = w) := by
  refine Ct_of (L := [some (.int v), some (.int lo), some (.int hi)]) (by decide) (by first | exact Nat.le_of_ble_eq_true rfl | simp [lg_sl, va_rf_cat, vc_r, vc_i, vc_0]) (by first | rfl | simp [lin, va_rf_cat, vc_r, vc_i, vc_0]) (fun Γ X => ?_)
  refine J_iload_n X d_TG_within_0 rfl rfl ?_
  refine J_iload_n X d_TG_within_1 rfl rfl ?_
  refine J_icmp_gt (tgt := 14) X d_TG_within_2 (by decide) (fun g => ?_) (fun g => ?_)
  · refine J_iconst (v := 0) X d_TG_within_14 (by decide) ?_
    exact J_zret X (Or.inl rfl) ⟨by rw [if_neg (fun q => (Int32.not_le.mpr g) q.1)], rfl⟩ (by decide) (by decide) d_TG_within_15
  · refine J_iload_n X d_TG_within_5 rfl rfl ?_
    refine J_iload_n X d_TG_within_6 rfl rfl ?_
    refine J_icmp_gt (tgt := 14) X d_TG_within_7 (by decide) (fun g2 => ?_) (fun g2 => ?_)
    · refine J_iconst (v := 0) X d_TG_within_14 (by decide) ?_
      exact J_zret X (Or.inl rfl) ⟨by rw [if_neg (fun q => (Int32.not_le.mpr g2) q.2)], rfl⟩ (by decide) (by decide) d_TG_within_15
    · refine J_iconst (v := 1) X d_TG_within_10 (by decide) ?_
      refine J_goto (tgt := 15) X d_TG_within_11 (by decide) ?_
      exact J_zret X (Or.inr rfl) ⟨by rw [if_pos ⟨Int32.not_lt.mp g, Int32.not_lt.mp g2⟩], rfl⟩ (by decide) (by decide) d_TG_within_15
set_option maxRecDepth 100000 in
theorem k_free {g : Nat} (hg : wK w g = some (.inl 1)) : Ct l y_Gen_free h_Gen_free (rmL 0 0 0) Δ [.ref g] w (fun r w' => r = some (.int (wI w g 0 - wI w g 3)) ∧ w' = w) := by
  refine Ct_of (L := [some (.ref g)]) (by decide) (by first | exact Nat.le_of_ble_eq_true rfl | simp [lg_sl, va_rf_cat, vc_r, vc_i, vc_0]) (by first | rfl | simp [lin, va_rf_cat, vc_r, vc_i, vc_0]) (fun Γ X => ?_)
  first | refine J_aload_nr X d_Gen_free_0 rfl rfl ?_ | refine J_aload_n X d_Gen_free_0 rfl rfl ?_ | refine J_aload_n0 X d_Gen_free_0 rfl rfl ?_
  refine J_getI X (hg) fa_Gen_7_1 rfl (rfl) d_Gen_free_1 ?_
  first | refine J_aload_nr X d_Gen_free_4 rfl rfl ?_ | refine J_aload_n X d_Gen_free_4 rfl rfl ?_ | refine J_aload_n0 X d_Gen_free_4 rfl rfl ?_
  refine J_getI X (hg) fa_Gen_19_1 rfl (rfl) d_Gen_free_5 ?_
  refine J_isub X d_Gen_free_8 ?_
  exact J_iret X ⟨rfl, rfl⟩ (by decide) (by decide) d_Gen_free_9
set_option maxRecDepth 100000 in
theorem k_empty {g : Nat} (hg : wK w g = some (.inl 1)) : Ct l y_Gen_empty h_Gen_empty (rmL 0 0 0) Δ [.ref g] w (fun r w' => r = none ∧ w' = uI (uI w g 2 0) g 3 0) := by
  refine Ct_of (L := [some (.ref g)]) (by decide) (by first | exact Nat.le_of_ble_eq_true rfl | simp [lg_sl, va_rf_cat, vc_r, vc_i, vc_0]) (by first | rfl | simp [lin, va_rf_cat, vc_r, vc_i, vc_0]) (fun Γ X => ?_)
  first | refine J_aload_nr X d_Gen_empty_0 rfl rfl ?_ | refine J_aload_n X d_Gen_empty_0 rfl rfl ?_ | refine J_aload_n0 X d_Gen_empty_0 rfl rfl ?_
  refine J_iconst (v := 0) X d_Gen_empty_1 (by decide) ?_
  refine J_putI X (hg) fp_Gen_22_1 rfl d_Gen_empty_2 ?_
  first | refine J_aload_nr X d_Gen_empty_5 rfl rfl ?_ | refine J_aload_n X d_Gen_empty_5 rfl rfl ?_ | refine J_aload_n0 X d_Gen_empty_5 rfl rfl ?_
  refine J_iconst (v := 0) X d_Gen_empty_6 (by decide) ?_
  refine J_putI X (hg) fp_Gen_19_1 rfl d_Gen_empty_7 ?_
  exact J_vret X ⟨rfl, rfl⟩ (by decide) (by decide) d_Gen_empty_10
set_option maxRecDepth 100000 in
theorem k_hasField {p c n : Nat} {i : Int32} (hp : wK w p = some (.inl 3)) (hc : wP w p 3 = some c) (hn : wK w c = some (.inr (3, n))) : Ct l y_Pl_hasField h_Pl_hasField (rmL 0 0 0) Δ [.ref p, .int i] w (fun r w' => r = some (.int (if 0 ≤ i ∧ i < nI n then 1 else 0)) ∧ w' = w) := by
  refine Ct_of (L := [some (.ref p), some (.int i)]) (by decide) (by first | exact Nat.le_of_ble_eq_true rfl | simp [lg_sl, va_rf_cat, vc_r, vc_i, vc_0]) (by first | rfl | simp [lin, va_rf_cat, vc_r, vc_i, vc_0]) (fun Γ X => ?_)
  refine J_iconst (v := 0) X d_Pl_hasField_0 (by decide) ?_
  refine J_iload_n X d_Pl_hasField_1 rfl rfl ?_
  refine J_icmp_gt (tgt := 18) X d_Pl_hasField_2 (by decide) (fun g => ?_) (fun g => ?_)
  · refine J_iconst (v := 0) X d_Pl_hasField_18 (by decide) ?_
    exact J_zret X (Or.inl rfl) ⟨by rw [if_neg (fun q => (Int32.not_le.mpr g) q.1)], rfl⟩ (by decide) (by decide) d_Pl_hasField_19
  · refine J_iload_n X d_Pl_hasField_5 rfl rfl ?_
    first | refine J_aload_nr X d_Pl_hasField_6 rfl rfl ?_ | refine J_aload_n X d_Pl_hasField_6 rfl rfl ?_ | refine J_aload_n0 X d_Pl_hasField_6 rfl rfl ?_
    refine J_getR X (hp) fa_Pl_9_3 rfl (hc) d_Pl_hasField_7 ?_
    refine J_alen X (hn) (by decide) d_Pl_hasField_10 ?_
    refine J_icmp_ge (tgt := 18) X d_Pl_hasField_11 (by decide) (fun g2 => ?_) (fun g2 => ?_)
    · refine J_iconst (v := 0) X d_Pl_hasField_18 (by decide) ?_
      exact J_zret X (Or.inl rfl) ⟨by rw [if_neg (fun q => (Int32.not_lt.mpr g2) q.2)], rfl⟩ (by decide) (by decide) d_Pl_hasField_19
    · refine J_iconst (v := 1) X d_Pl_hasField_14 (by decide) ?_
      refine J_goto (tgt := 19) X d_Pl_hasField_15 (by decide) ?_
      exact J_zret X (Or.inr rfl) ⟨by rw [if_pos ⟨Int32.not_lt.mp g, Int32.not_le.mp g2⟩], rfl⟩ (by decide) (by decide) d_Pl_hasField_19
set_option maxRecDepth 100000 in
theorem k_Va_init {a : Nat} : Ct l y_Va_init h_Va_init (rmL 1 0 0) Δ [.ref a] w (fun r w' => r = none ∧ w' = w) := by
  refine Ct_of (L := [some (.ref a)]) (by decide) (by first | exact Nat.le_of_ble_eq_true rfl | simp [lg_sl, va_rf_cat, vc_r, vc_i, vc_0]) (by first | rfl | simp [lin, va_rf_cat, vc_r, vc_i, vc_0]) (fun Γ X => ?_)
  first | refine J_aload_nr X d_Va_init_0 rfl rfl ?_ | refine J_aload_n X d_Va_init_0 rfl rfl ?_ | refine J_aload_n0 X d_Va_init_0 rfl rfl ?_
  refine J_objInit X m_308 m_48 m_49 (by decide) (by decide) (by first | decide | simp [va_rf_cat, vc_r, vc_i, vc_0]) d_Va_init_1 ?_
  exact J_vret X ⟨rfl, rfl⟩ (by decide) (by decide) d_Va_init_4
set_option maxRecDepth 100000 in
theorem k_Th_init {a ci : Nat} {n : Int32} (hci : ci = 3 ∨ ci = 4) (ha : wK w a = some (.inl ci)) : Ct l y_Th_init h_Th_init (rmL 2 0 0) Δ [.ref a, .int n] w (fun r w' => r = none ∧ w' = uI w a 0 n) := by
  refine Ct_of (L := [some (.ref a), some (.int n)]) (by decide) (by first | exact Nat.le_of_ble_eq_true rfl | simp [lg_sl, va_rf_cat, vc_r, vc_i, vc_0]) (by first | rfl | simp [lin, va_rf_cat, vc_r, vc_i, vc_0]) (fun Γ X => ?_)
  first | refine J_aload_nr X d_Th_init_0 rfl rfl ?_ | refine J_aload_n X d_Th_init_0 rfl rfl ?_ | refine J_aload_n0 X d_Th_init_0 rfl rfl ?_
  refine J_callIN X (k_Va_init (a := a)) cd_Va_init m_305 ii_Va_init (by decide) (by decide) (by decide) (by decide) rfl (by first | decide | simp [va_rf_cat, vc_r, vc_i, vc_0]) d_Th_init_1 (fun r w1 hr => ?_)
  obtain ⟨rfl, rfl⟩ := hr
  first | refine J_aload_nr X d_Th_init_4 rfl rfl ?_ | refine J_aload_n X d_Th_init_4 rfl rfl ?_ | refine J_aload_n0 X d_Th_init_4 rfl rfl ?_
  refine J_iload_n X d_Th_init_5 rfl rfl ?_
  refine J_putIF X (ha) (ffT_Th_7 hci).1 rfl (ffT_Th_7 hci).2 d_Th_init_6 ?_
  exact J_vret X ⟨rfl, rfl⟩ (by decide) (by decide) d_Th_init_9
set_option maxRecDepth 100000 in
theorem k_Wh_init {a : Nat} {n : Int32} (ha : wK w a = some (.inl 5)) : Ct l y_Wh_init h_Wh_init (rmL 2 0 0) Δ [.ref a, .int n] w (fun r w' => r = none ∧ w' = uI w a 0 n) := by
  refine Ct_of (L := [some (.ref a), some (.int n)]) (by decide) (by first | exact Nat.le_of_ble_eq_true rfl | simp [lg_sl, va_rf_cat, vc_r, vc_i, vc_0]) (by first | rfl | simp [lin, va_rf_cat, vc_r, vc_i, vc_0]) (fun Γ X => ?_)
  first | refine J_aload_nr X d_Wh_init_0 rfl rfl ?_ | refine J_aload_n X d_Wh_init_0 rfl rfl ?_ | refine J_aload_n0 X d_Wh_init_0 rfl rfl ?_
  refine J_callIN X (k_Va_init (a := a)) cd_Va_init m_440 ii_Va_init (by decide) (by decide) (by decide) (by decide) rfl (by first | decide | simp [va_rf_cat, vc_r, vc_i, vc_0]) d_Wh_init_1 (fun r w1 hr => ?_)
  obtain ⟨rfl, rfl⟩ := hr
  first | refine J_aload_nr X d_Wh_init_4 rfl rfl ?_ | refine J_aload_n X d_Wh_init_4 rfl rfl ?_ | refine J_aload_n0 X d_Wh_init_4 rfl rfl ?_
  refine J_iload_n X d_Wh_init_5 rfl rfl ?_
  refine J_putIF X (ha) ff_Wh_7_5 rfl rfl d_Wh_init_6 ?_
  exact J_vret X ⟨rfl, rfl⟩ (by decide) (by decide) d_Wh_init_9
set_option maxRecDepth 100000 in
theorem k_Wk_init {a : Nat} {o : Option Nat} (ha : wK w a = some (.inl 4)) : Ct l y_Wk_init h_Wk_init (rmL 3 0 0) Δ [.ref a, va_rf o] w (fun r w' => r = none ∧ w' = uP (uI w a 0 2) a 3 o) := by
  refine Ct_of (L := [some (.ref a), some (va_rf o)]) (by decide) (by first | exact Nat.le_of_ble_eq_true rfl | simp [lg_sl, va_rf_cat, vc_r, vc_i, vc_0]) (by first | rfl | simp [lin, va_rf_cat, vc_r, vc_i, vc_0]) (fun Γ X => ?_)
  first | refine J_aload_nr X d_Wk_init_0 rfl rfl ?_ | refine J_aload_n X d_Wk_init_0 rfl rfl ?_ | refine J_aload_n0 X d_Wk_init_0 rfl rfl ?_
  refine J_iconst (v := 2) X d_Wk_init_1 (by decide) ?_
  refine J_callI X (k_Th_init (a := a) (n := 2) (Or.inr rfl) ha) cd_Th_init lk_Wk_1 ii_Th_init (by decide) (by decide) (by decide) (by decide) rfl (by first | decide | simp [va_rf_cat, vc_r, vc_i, vc_0]) d_Wk_init_2 (fun r w1 hr => ?_)
  obtain ⟨rfl, rfl⟩ := hr
  first | refine J_aload_nr X d_Wk_init_5 rfl rfl ?_ | refine J_aload_n X d_Wk_init_5 rfl rfl ?_ | refine J_aload_n0 X d_Wk_init_5 rfl rfl ?_
  first | refine J_aload_nr X d_Wk_init_6 rfl rfl ?_ | refine J_aload_n X d_Wk_init_6 rfl rfl ?_ | refine J_aload_n0 X d_Wk_init_6 rfl rfl ?_
  first | refine J_putPr X (ha) fp_Wk_7_4 (Or.inl ⟨_, rfl⟩) rfl d_Wk_init_7 ?_ | refine J_putP X (ha) fp_Wk_7_4 (Or.inl ⟨_, rfl⟩) rfl d_Wk_init_7 ?_ | refine J_putP0 X (ha) fp_Wk_7_4 (Or.inl ⟨_, rfl⟩) rfl d_Wk_init_7 ?_
  exact J_vret X ⟨rfl, rfl⟩ (by decide) (by decide) d_Wk_init_10
set_option maxRecDepth 100000 in
theorem k_Pl_init {a n : Nat} (ha : wK w a = some (.inl 3)) (hn : n ≤ 11) : Ct l y_Pl_init h_Pl_init (rmL 3 1 11) Δ [.ref a, .int (nI n)] w (fun r w' => r = none ∧ ∃ q, wK w q = none ∧ w' = uP (uN (uI w a 0 (nI (n + 1))) q (.inr (3, n))) a 3 (some q)) := by
  refine Ct_of (L := [some (.ref a), some (.int (nI n))]) (by decide) (by first | exact Nat.le_of_ble_eq_true rfl | simp [lg_sl, va_rf_cat, vc_r, vc_i, vc_0]) (by first | rfl | simp [lin, va_rf_cat, vc_r, vc_i, vc_0]) (fun Γ X => ?_)
  first | refine J_aload_nr X d_Pl_init_0 rfl rfl ?_ | refine J_aload_n X d_Pl_init_0 rfl rfl ?_ | refine J_aload_n0 X d_Pl_init_0 rfl rfl ?_
  refine J_iload_n X d_Pl_init_1 rfl rfl ?_
  refine J_iconst (v := 1) X d_Pl_init_2 (by decide) ?_
  refine J_iadd X d_Pl_init_3 ?_
  refine J_top (v' := .int (nI (n + 1))) (by rw [show (1 : Int32) = nI 1 from rfl, nI_add]) ?_
  refine J_callI X (k_Th_init (a := a) (n := nI (n + 1)) (Or.inl rfl) ha) cd_Th_init lk_Pl_1 ii_Th_init (by decide) (by decide) (by decide) (by decide) rfl (by first | decide | simp [va_rf_cat, vc_r, vc_i, vc_0]) d_Pl_init_4 (fun r w1 hr => ?_)
  obtain ⟨rfl, rfl⟩ := hr
  first | refine J_aload_nr X d_Pl_init_7 rfl rfl ?_ | refine J_aload_n X d_Pl_init_7 rfl rfl ?_ | refine J_aload_n0 X d_Pl_init_7 rfl rfl ?_
  refine J_iload_n X d_Pl_init_8 rfl rfl ?_
  refine J_newq X nq_Pl_7 rfl (by omega) (by decide) (by show 0 + 0 + n ≤ 11; omega) d_Pl_init_9 (fun q hq => ?_)
  have hqa : a ≠ q := ne_new ha hq
  first | refine J_putPFr X (by rw [wK_uN, if_neg hqa]; exact ha) ff_Pl_9_3 rfl (Or.inr ⟨_, rfl⟩) rfl d_Pl_init_12 ?_ | refine J_putPF X (by rw [wK_uN, if_neg hqa]; exact ha) ff_Pl_9_3 rfl (Or.inr ⟨_, rfl⟩) rfl d_Pl_init_12 ?_ | refine J_putPF0 X (by rw [wK_uN, if_neg hqa]; exact ha) ff_Pl_9_3 rfl (Or.inr ⟨_, rfl⟩) rfl d_Pl_init_12 ?_
  exact J_vret X ⟨rfl, q, hq, rfl⟩ (by decide) (by show 0 + 0 + n ≤ 11; omega) d_Pl_init_15
end LF
