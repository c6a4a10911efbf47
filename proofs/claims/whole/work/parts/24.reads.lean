/-! the methods that only read: kind, value, fields, same, generation, cells, collections; great; reach -/
def kindI (w : Wd) (o : Option Nat) : Int32 := match o with
  | none => 0
  | some t => match wK w t with
    | some (.inl 5) => 1
    | some (.inl 3) => 2
    | _ => 3
def valI (w : Wd) (o : Option Nat) : Int32 := match o with
  | none => 0
  | some t => match wK w t with
    | some (.inl 5) => wI w t 0
    | _ => 0
def isWh (w : Wd) (t : Nat) : Bool := match wK w t with
  | some (.inl 5) => true
  | _ => false
/-- two values are the same -/
def sameP (w : Wd) (a b : Option Nat) : Prop := a = b ∨ ∃ s t, a = some s ∧ b = some t ∧ isWh w s = true ∧ isWh w t = true ∧ wI w s 0 = wI w t 0
def sameV (w : Wd) (a b : Option Nat) : Bool := decide (a = b) || (match a, b with
  | some s, some t => isWh w s && isWh w t && decide (wI w s 0 = wI w t 0)
  | _, _ => false)
theorem sameV_iff {w : Wd} {a b : Option Nat} : sameV w a b = true ↔ sameP w a b := by
  unfold sameV sameP
  cases a with
  | none => simp
  | some s =>
    cases b with
    | none => simp
    | some t => simp [and_assoc]
theorem oV_kd {w : Wd} {t : Nat} {o : Option Nat} (h : oV w o) (e : o = some t) : wK w t = some (.inl 3) ∨ wK w t = some (.inl 4) ∨ wK w t = some (.inl 5) := by
  rcases h t e with ht | ht
  · obtain ⟨ci, hci, hk⟩ := isTb_to ht
    rcases hci with rfl | rfl
    · exact Or.inl hk
    · exact Or.inr (Or.inl hk)
  · exact Or.inr (Or.inr ht)
section RD
variable {l : Launch} {Δ : Dat} {w : Wd} {x rg nr : Nat} {r : Int32}
set_option maxRecDepth 100000 in
theorem k_kind (H : Rg w x rg nr) (hv : ∀ j, j < nr → oV w (wP w rg j)) : Ct l y_TG_kind h_TG_kind (rmL 3 0 0) Δ [.ref x, .int r] w (fun q w' => q = some (.int (if regB nr r then kindI w (held w rg nr r) else -1)) ∧ w' = w) := by
  have H' := H
  obtain ⟨hx, hrg, hrk, h1, h2⟩ := H'
  refine Ct_of (L := [some (.ref x), some (.int r), none]) (by decide) (by first | exact Nat.le_of_ble_eq_true rfl | simp [lg_sl, va_rf_cat, vc_r, vc_i, vc_0]) (by first | rfl | simp [lin, va_rf_cat, vc_r, vc_i, vc_0]) (fun Γ X => ?_)
  first | refine J_aload_nr X d_TG_kind_0 rfl rfl ?_ | refine J_aload_n X d_TG_kind_0 rfl rfl ?_ | refine J_aload_n0 X d_TG_kind_0 rfl rfl ?_
  refine J_iload_n X d_TG_kind_1 rfl rfl ?_
  refine J_callV X (hx) rfl (k_isRegister (r := r) H) cd_TG_isRegister lk_TG_42 vi_TG_isRegister (by decide) (by decide) (by decide) (by decide) rfl (by first | decide | simp [va_rf_cat, vc_r, vc_i, vc_0]) d_TG_kind_2 (fun q w1 hq => ?_)
  obtain ⟨rfl, hw1⟩ := hq
  refine J_eq hw1 rfl ?_
  by_cases h : regB nr r
  · refine J_top (v' := .int 1) (by rw [if_pos h]) ?_
    refine J_if_ne (tgt := 10) X d_TG_kind_5 (by decide) (fun g => ?_) (fun g => ?_)
    · obtain ⟨j, hj, rfl⟩ := regB_at h1 h2 h
      rw [if_pos h, held_at h2 hj]
      cases hh : wP w rg j with
      | none =>
        first | refine J_aload_nr X d_TG_kind_10 rfl rfl ?_ | refine J_aload_n X d_TG_kind_10 rfl rfl ?_ | refine J_aload_n0 X d_TG_kind_10 rfl rfl ?_
        refine J_getR X (hx) fa_TG_15_0 rfl (hrg) d_TG_kind_11 ?_
        refine J_iload_n X d_TG_kind_14 rfl rfl ?_
        refine J_aald X (hrk) (by decide) rfl ⟨_, rfl⟩ (rfl) (hj) (by omega) (hh) d_TG_kind_15 ?_
        first | refine J_astore_nr X d_TG_kind_16 rfl (by decide) rfl ?_ | refine J_astore_n X d_TG_kind_16 rfl (by decide) rfl ?_ | refine J_astore_n0 X d_TG_kind_16 rfl (by decide) rfl ?_
        first | refine J_aload_nr X d_TG_kind_17 rfl rfl ?_ | refine J_aload_n X d_TG_kind_17 rfl rfl ?_ | refine J_aload_n0 X d_TG_kind_17 rfl rfl ?_
        refine J_ifnonnull0 X d_TG_kind_18 ?_
        refine J_iconst (v := 0) X d_TG_kind_21 (by decide) ?_
        exact J_iret X ⟨rfl, rfl⟩ (by decide) (by decide) d_TG_kind_22
      | some t =>
        first | refine J_aload_nr X d_TG_kind_10 rfl rfl ?_ | refine J_aload_n X d_TG_kind_10 rfl rfl ?_ | refine J_aload_n0 X d_TG_kind_10 rfl rfl ?_
        refine J_getR X (hx) fa_TG_15_0 rfl (hrg) d_TG_kind_11 ?_
        refine J_iload_n X d_TG_kind_14 rfl rfl ?_
        refine J_aaldr X (hrk) (by decide) rfl ⟨_, rfl⟩ (rfl) (hj) (by omega) (hh) d_TG_kind_15 ?_
        first | refine J_astore_nr X d_TG_kind_16 rfl (by decide) rfl ?_ | refine J_astore_n X d_TG_kind_16 rfl (by decide) rfl ?_ | refine J_astore_n0 X d_TG_kind_16 rfl (by decide) rfl ?_
        first | refine J_aload_nr X d_TG_kind_17 rfl rfl ?_ | refine J_aload_n X d_TG_kind_17 rfl rfl ?_ | refine J_aload_n0 X d_TG_kind_17 rfl rfl ?_
        refine J_ifnonnullr (tgt := 23) X d_TG_kind_18 (by decide) ?_
        first | refine J_aload_nr X d_TG_kind_23 rfl rfl ?_ | refine J_aload_n X d_TG_kind_23 rfl rfl ?_ | refine J_aload_n0 X d_TG_kind_23 rfl rfl ?_
        rcases oV_kd (hv j hj) hh with hk | hk | hk
        · refine J_instN X hk in_TG_97_3 d_TG_kind_24 ?_
          refine J_if_eq (tgt := 32) X d_TG_kind_27 (by decide) (fun g => ?_) (fun g => ?_)
          · first | refine J_aload_nr X d_TG_kind_32 rfl rfl ?_ | refine J_aload_n X d_TG_kind_32 rfl rfl ?_ | refine J_aload_n0 X d_TG_kind_32 rfl rfl ?_
            refine J_instY X hk iy_TG_53_3 d_TG_kind_33 ?_
            refine J_if_eq (tgt := 43) X d_TG_kind_36 (by decide) (fun g => ?_) (fun g => ?_)
            · exact absurd g (by decide)
            · refine J_iconst (v := 2) X d_TG_kind_39 (by decide) ?_
              refine J_goto (tgt := 44) X d_TG_kind_40 (by decide) ?_
              exact J_iret X ⟨by simp [kindI, hk], rfl⟩ (by decide) (by decide) d_TG_kind_44
          · exact absurd rfl g
        · refine J_instN X hk in_TG_97_4 d_TG_kind_24 ?_
          refine J_if_eq (tgt := 32) X d_TG_kind_27 (by decide) (fun g => ?_) (fun g => ?_)
          · first | refine J_aload_nr X d_TG_kind_32 rfl rfl ?_ | refine J_aload_n X d_TG_kind_32 rfl rfl ?_ | refine J_aload_n0 X d_TG_kind_32 rfl rfl ?_
            refine J_instN X hk in_TG_53_4 d_TG_kind_33 ?_
            refine J_if_eq (tgt := 43) X d_TG_kind_36 (by decide) (fun g => ?_) (fun g => ?_)
            · refine J_iconst (v := 3) X d_TG_kind_43 (by decide) ?_
              exact J_iret X ⟨by simp [kindI, hk], rfl⟩ (by decide) (by decide) d_TG_kind_44
            · exact absurd rfl g
          · exact absurd rfl g
        · refine J_instY X hk iy_TG_97_5 d_TG_kind_24 ?_
          refine J_if_eq (tgt := 32) X d_TG_kind_27 (by decide) (fun g => ?_) (fun g => ?_)
          · exact absurd g (by decide)
          · refine J_iconst (v := 1) X d_TG_kind_30 (by decide) ?_
            exact J_iret X ⟨by simp [kindI, hk], rfl⟩ (by decide) (by decide) d_TG_kind_31
    · exact absurd g (by decide)
  · refine J_top (v' := .int 0) (by rw [if_neg h]) ?_
    refine J_if_ne (tgt := 10) X d_TG_kind_5 (by decide) (fun g => ?_) (fun g => ?_)
    · exact absurd rfl g
    · refine J_iconst (v := -1) X d_TG_kind_8 (by decide) ?_
      exact J_iret X ⟨by rw [if_neg h], rfl⟩ (by decide) (by decide) d_TG_kind_9
set_option maxRecDepth 100000 in
theorem k_value (H : Rg w x rg nr) (hv : ∀ j, j < nr → oV w (wP w rg j)) : Ct l y_TG_value h_TG_value (rmL 3 0 0) Δ [.ref x, .int r] w (fun q w' => q = some (.int (valI w (held w rg nr r))) ∧ w' = w) := by
  have hx := H.1
  have ho := held_oV (r := r) H.2.2.2.1 H.2.2.2.2 hv
  refine Ct_of (L := [some (.ref x), some (.int r), none, none]) (by decide) (by first | exact Nat.le_of_ble_eq_true rfl | simp [lg_sl, va_rf_cat, vc_r, vc_i, vc_0]) (by first | rfl | simp [lin, va_rf_cat, vc_r, vc_i, vc_0]) (fun Γ X => ?_)
  first | refine J_aload_nr X d_TG_value_0 rfl rfl ?_ | refine J_aload_n X d_TG_value_0 rfl rfl ?_ | refine J_aload_n0 X d_TG_value_0 rfl rfl ?_
  refine J_iload_n X d_TG_value_1 rfl rfl ?_
  refine J_callV X (hx) rfl (k_heldIn (r := r) H) cd_TG_heldIn lk_TG_102 vi_TG_heldIn (by decide) (by decide) (by decide) (by decide) rfl (by first | decide | simp [va_rf_cat, vc_r, vc_i, vc_0]) d_TG_value_2 (fun q w1 hq => ?_)
  obtain ⟨rfl, hw1⟩ := hq
  refine J_eq hw1 rfl ?_
  cases hh : held w rg nr r with
  | none =>
    first | refine J_astore_nr X d_TG_value_5 rfl (by decide) rfl ?_ | refine J_astore_n X d_TG_value_5 rfl (by decide) rfl ?_ | refine J_astore_n0 X d_TG_value_5 rfl (by decide) rfl ?_
    first | refine J_aload_nr X d_TG_value_6 rfl rfl ?_ | refine J_aload_n X d_TG_value_6 rfl rfl ?_ | refine J_aload_n0 X d_TG_value_6 rfl rfl ?_
    refine J_inst0 X d_TG_value_7 ?_
    refine J_if_eq (tgt := 25) X d_TG_value_10 (by decide) (fun g => ?_) (fun g => ?_)
    · refine J_iconst (v := 0) X d_TG_value_25 (by decide) ?_
      exact J_iret X ⟨rfl, rfl⟩ (by decide) (by decide) d_TG_value_26
    · exact absurd rfl g
  | some t =>
    first | refine J_astore_nr X d_TG_value_5 rfl (by decide) rfl ?_ | refine J_astore_n X d_TG_value_5 rfl (by decide) rfl ?_ | refine J_astore_n0 X d_TG_value_5 rfl (by decide) rfl ?_
    first | refine J_aload_nr X d_TG_value_6 rfl rfl ?_ | refine J_aload_n X d_TG_value_6 rfl rfl ?_ | refine J_aload_n0 X d_TG_value_6 rfl rfl ?_
    rcases oV_kd ho hh with hk | hk | hk
    · refine J_instN X hk in_TG_97_3 d_TG_value_7 ?_
      refine J_if_eq (tgt := 25) X d_TG_value_10 (by decide) (fun g => ?_) (fun g => ?_)
      · refine J_iconst (v := 0) X d_TG_value_25 (by decide) ?_
        exact J_iret X ⟨by simp [valI, hk], rfl⟩ (by decide) (by decide) d_TG_value_26
      · exact absurd rfl g
    · refine J_instN X hk in_TG_97_4 d_TG_value_7 ?_
      refine J_if_eq (tgt := 25) X d_TG_value_10 (by decide) (fun g => ?_) (fun g => ?_)
      · refine J_iconst (v := 0) X d_TG_value_25 (by decide) ?_
        exact J_iret X ⟨by simp [valI, hk], rfl⟩ (by decide) (by decide) d_TG_value_26
      · exact absurd rfl g
    · refine J_instY X hk iy_TG_97_5 d_TG_value_7 ?_
      refine J_if_eq (tgt := 25) X d_TG_value_10 (by decide) (fun g => ?_) (fun g => ?_)
      · exact absurd g (by decide)
      · first | refine J_aload_nr X d_TG_value_13 rfl rfl ?_ | refine J_aload_n X d_TG_value_13 rfl rfl ?_ | refine J_aload_n0 X d_TG_value_13 rfl rfl ?_
        refine J_cast X hk iy_TG_97_5 d_TG_value_14 ?_
        first | refine J_astore_nr X d_TG_value_17 rfl (by decide) rfl ?_ | refine J_astore_n X d_TG_value_17 rfl (by decide) rfl ?_ | refine J_astore_n0 X d_TG_value_17 rfl (by decide) rfl ?_
        first | refine J_aload_nr X d_TG_value_18 rfl rfl ?_ | refine J_aload_n X d_TG_value_18 rfl rfl ?_ | refine J_aload_n0 X d_TG_value_18 rfl rfl ?_
        refine J_getI X (hk) fa_TG_106_5 rfl (rfl) d_TG_value_19 ?_
        refine J_goto (tgt := 26) X d_TG_value_22 (by decide) ?_
        exact J_iret X ⟨by simp [valI, hk], rfl⟩ (by decide) (by decide) d_TG_value_26
set_option maxRecDepth 100000 in
theorem k_fields (H : Rg w x rg nr) (hT : HT w rg nr) : Ct l y_TG_fields h_TG_fields (rmL 4 0 0) Δ [.ref x, .int r] w (fun q w' => q = some (.int (match only w (isP w) (held w rg nr r) with | none => -1 | some t => nI (sucL w t).length)) ∧ w' = w) := by
  have hx := H.1
  refine Ct_of (L := [some (.ref x), some (.int r), none]) (by decide) (by first | exact Nat.le_of_ble_eq_true rfl | simp [lg_sl, va_rf_cat, vc_r, vc_i, vc_0]) (by first | rfl | simp [lin, va_rf_cat, vc_r, vc_i, vc_0]) (fun Γ X => ?_)
  first | refine J_aload_nr X d_TG_fields_0 rfl rfl ?_ | refine J_aload_n X d_TG_fields_0 rfl rfl ?_ | refine J_aload_n0 X d_TG_fields_0 rfl rfl ?_
  refine J_iload_n X d_TG_fields_1 rfl rfl ?_
  refine J_callV X (hx) rfl (k_plainIn (r := r) H hT.2.2.2) cd_TG_plainIn lk_TG_71 vi_TG_plainIn (by decide) (by decide) (by decide) (by decide) rfl (by first | decide | simp [va_rf_cat, vc_r, vc_i, vc_0]) d_TG_fields_2 (fun q w1 hq => ?_)
  obtain ⟨rfl, hw1⟩ := hq
  refine J_eq hw1 rfl ?_
  cases hh : only w (isP w) (held w rg nr r) with
  | none =>
    first | refine J_astore_nr X d_TG_fields_5 rfl (by decide) rfl ?_ | refine J_astore_n X d_TG_fields_5 rfl (by decide) rfl ?_ | refine J_astore_n0 X d_TG_fields_5 rfl (by decide) rfl ?_
    first | refine J_aload_nr X d_TG_fields_6 rfl rfl ?_ | refine J_aload_n X d_TG_fields_6 rfl rfl ?_ | refine J_aload_n0 X d_TG_fields_6 rfl rfl ?_
    refine J_ifnonnull0 X d_TG_fields_7 ?_
    refine J_iconst (v := -1) X d_TG_fields_10 (by decide) ?_
    refine J_goto (tgt := 19) X d_TG_fields_11 (by decide) ?_
    exact J_iret X ⟨rfl, rfl⟩ (by decide) (by decide) d_TG_fields_19
  | some t =>
    first | refine J_astore_nr X d_TG_fields_5 rfl (by decide) rfl ?_ | refine J_astore_n X d_TG_fields_5 rfl (by decide) rfl ?_ | refine J_astore_n0 X d_TG_fields_5 rfl (by decide) rfl ?_
    first | refine J_aload_nr X d_TG_fields_6 rfl rfl ?_ | refine J_aload_n X d_TG_fields_6 rfl rfl ?_ | refine J_aload_n0 X d_TG_fields_6 rfl rfl ?_
    refine J_ifnonnullr (tgt := 14) X d_TG_fields_7 (by decide) ?_
    have hk : wK w t = some (.inl 3) := by
      cases hg : held w rg nr r with
      | none => rw [hg] at hh; cases hh
      | some u =>
        rw [hg, only] at hh
        split at hh
        · rename_i hu
          cases hh
          unfold isP at hu
          split at hu
          · assumption
          · cases hu
        · cases hh
    obtain ⟨c, n, e1, e2, e3, -⟩ := hT.1 t hk
    first | refine J_aload_nr X d_TG_fields_14 rfl rfl ?_ | refine J_aload_n X d_TG_fields_14 rfl rfl ?_ | refine J_aload_n0 X d_TG_fields_14 rfl rfl ?_
    refine J_getR X (hk) fa_TG_80_3 rfl (e1) d_TG_fields_15 ?_
    refine J_alen X (e2) (by decide) d_TG_fields_18 ?_
    exact J_iret X ⟨by show _ = some (Value.int (nI (sucL w t).length)); rw [sucL_of (w := w) hk e1 e2]; simp [rowL], rfl⟩ (by decide) (by decide) d_TG_fields_19
set_option maxRecDepth 100000 in
theorem k_generation (H : Rg w x rg nr) (hv : ∀ j, j < nr → oV w (wP w rg j)) : Ct l y_TG_generation h_TG_generation (rmL 4 0 0) Δ [.ref x, .int r] w (fun q w' => q = some (.int (match only w (isTb w) (held w rg nr r) with | none => -1 | some t => if wI w t 1 = 0 then 0 else 1)) ∧ w' = w) := by
  have hx := H.1
  refine Ct_of (L := [some (.ref x), some (.int r), none]) (by decide) (by first | exact Nat.le_of_ble_eq_true rfl | simp [lg_sl, va_rf_cat, vc_r, vc_i, vc_0]) (by first | rfl | simp [lin, va_rf_cat, vc_r, vc_i, vc_0]) (fun Γ X => ?_)
  first | refine J_aload_nr X d_TG_generation_0 rfl rfl ?_ | refine J_aload_n X d_TG_generation_0 rfl rfl ?_ | refine J_aload_n0 X d_TG_generation_0 rfl rfl ?_
  refine J_iload_n X d_TG_generation_1 rfl rfl ?_
  refine J_callV X (hx) rfl (k_thingIn (r := r) H hv) cd_TG_thingIn lk_TG_60 vi_TG_thingIn (by decide) (by decide) (by decide) (by decide) rfl (by first | decide | simp [va_rf_cat, vc_r, vc_i, vc_0]) d_TG_generation_2 (fun q w1 hq => ?_)
  obtain ⟨rfl, hw1⟩ := hq
  refine J_eq hw1 rfl ?_
  cases hh : only w (isTb w) (held w rg nr r) with
  | none =>
    first | refine J_astore_nr X d_TG_generation_5 rfl (by decide) rfl ?_ | refine J_astore_n X d_TG_generation_5 rfl (by decide) rfl ?_ | refine J_astore_n0 X d_TG_generation_5 rfl (by decide) rfl ?_
    first | refine J_aload_nr X d_TG_generation_6 rfl rfl ?_ | refine J_aload_n X d_TG_generation_6 rfl rfl ?_ | refine J_aload_n0 X d_TG_generation_6 rfl rfl ?_
    refine J_ifnonnull0 X d_TG_generation_7 ?_
    refine J_iconst (v := -1) X d_TG_generation_10 (by decide) ?_
    exact J_iret X ⟨rfl, rfl⟩ (by decide) (by decide) d_TG_generation_11
  | some t =>
    first | refine J_astore_nr X d_TG_generation_5 rfl (by decide) rfl ?_ | refine J_astore_n X d_TG_generation_5 rfl (by decide) rfl ?_ | refine J_astore_n0 X d_TG_generation_5 rfl (by decide) rfl ?_
    first | refine J_aload_nr X d_TG_generation_6 rfl rfl ?_ | refine J_aload_n X d_TG_generation_6 rfl rfl ?_ | refine J_aload_n0 X d_TG_generation_6 rfl rfl ?_
    refine J_ifnonnullr (tgt := 12) X d_TG_generation_7 (by decide) ?_
    have ht : isTb w t = true := by
      cases hg : held w rg nr r with
      | none => rw [hg] at hh; cases hh
      | some u =>
        rw [hg, only] at hh
        split at hh
        · rename_i hu
          cases hh
          exact hu
        · cases hh
    obtain ⟨ci, hci, hk⟩ := isTb_to ht
    first | refine J_aload_nr X d_TG_generation_12 rfl rfl ?_ | refine J_aload_n X d_TG_generation_12 rfl rfl ?_ | refine J_aload_n0 X d_TG_generation_12 rfl rfl ?_
    refine J_getI X (hk) (faT_TG_109 hci).1 (faT_TG_109 hci).2 (rfl) d_TG_generation_13 ?_
    refine J_if_eq (tgt := 23) X d_TG_generation_16 (by decide) (fun g => ?_) (fun g => ?_)
    · refine J_iconst (v := 0) X d_TG_generation_23 (by decide) ?_
      exact J_iret X ⟨by simp [g], rfl⟩ (by decide) (by decide) d_TG_generation_24
    · refine J_iconst (v := 1) X d_TG_generation_19 (by decide) ?_
      refine J_goto (tgt := 24) X d_TG_generation_20 (by decide) ?_
      exact J_iret X ⟨by simp [g], rfl⟩ (by decide) (by decide) d_TG_generation_24
set_option maxRecDepth 100000 in
theorem k_collections (hx : wK w x = some (.inl 0)) : Ct l y_TG_collections h_TG_collections (rmL 0 0 0) Δ [.ref x, .int r] w (fun q w' => q = some (.int (if r = 0 then wI w x 4 else if r = 1 then wI w x 5 else -1)) ∧ w' = w) := by
  refine Ct_of (L := [some (.ref x), some (.int r)]) (by decide) (by first | exact Nat.le_of_ble_eq_true rfl | simp [lg_sl, va_rf_cat, vc_r, vc_i, vc_0]) (by first | rfl | simp [lin, va_rf_cat, vc_r, vc_i, vc_0]) (fun Γ X => ?_)
  refine J_iload_n X d_TG_collections_0 rfl rfl ?_
  refine J_if_ne (tgt := 9) X d_TG_collections_1 (by decide) (fun g => ?_) (fun g => ?_)
  · refine J_iload_n X d_TG_collections_9 rfl rfl ?_
    refine J_iconst (v := 1) X d_TG_collections_10 (by decide) ?_
    refine J_icmp_ne (tgt := 21) X d_TG_collections_11 (by decide) (fun g2 => ?_) (fun g2 => ?_)
    · refine J_iconst (v := -1) X d_TG_collections_21 (by decide) ?_
      exact J_iret X ⟨by rw [if_neg g, if_neg g2], rfl⟩ (by decide) (by decide) d_TG_collections_22
    · first | refine J_aload_nr X d_TG_collections_14 rfl rfl ?_ | refine J_aload_n X d_TG_collections_14 rfl rfl ?_ | refine J_aload_n0 X d_TG_collections_14 rfl rfl ?_
      refine J_getI X (hx) fa_TG_146_0 rfl (rfl) d_TG_collections_15 ?_
      refine J_goto (tgt := 22) X d_TG_collections_18 (by decide) ?_
      exact J_iret X ⟨by rw [if_neg g, if_pos g2], rfl⟩ (by decide) (by decide) d_TG_collections_22
  · first | refine J_aload_nr X d_TG_collections_4 rfl rfl ?_ | refine J_aload_n X d_TG_collections_4 rfl rfl ?_ | refine J_aload_n0 X d_TG_collections_4 rfl rfl ?_
    refine J_getI X (hx) fa_TG_143_0 rfl (rfl) d_TG_collections_5 ?_
    exact J_iret X ⟨by rw [if_pos g], rfl⟩ (by decide) (by decide) d_TG_collections_8
set_option maxRecDepth 100000 in
theorem k_cells {yg og : Nat} (hx : wK w x = some (.inl 0)) (h1 : wP w x 1 = some yg) (h2 : wP w x 2 = some og) (hy : wK w yg = some (.inl 1)) (ho : wK w og = some (.inl 1)) : Ct l y_TG_cells h_TG_cells (rmL 0 0 0) Δ [.ref x, .int r] w (fun q w' => q = some (.int (if r = 0 then wI w yg 3 else if r = 1 then wI w og 3 else -1)) ∧ w' = w) := by
  refine Ct_of (L := [some (.ref x), some (.int r)]) (by decide) (by first | exact Nat.le_of_ble_eq_true rfl | simp [lg_sl, va_rf_cat, vc_r, vc_i, vc_0]) (by first | rfl | simp [lin, va_rf_cat, vc_r, vc_i, vc_0]) (fun Γ X => ?_)
  refine J_iload_n X d_TG_cells_0 rfl rfl ?_
  refine J_if_ne (tgt := 12) X d_TG_cells_1 (by decide) (fun g => ?_) (fun g => ?_)
  · refine J_iload_n X d_TG_cells_12 rfl rfl ?_
    refine J_iconst (v := 1) X d_TG_cells_13 (by decide) ?_
    refine J_icmp_ne (tgt := 27) X d_TG_cells_14 (by decide) (fun g2 => ?_) (fun g2 => ?_)
    · refine J_iconst (v := -1) X d_TG_cells_27 (by decide) ?_
      exact J_iret X ⟨by rw [if_neg g, if_neg g2], rfl⟩ (by decide) (by decide) d_TG_cells_28
    · first | refine J_aload_nr X d_TG_cells_17 rfl rfl ?_ | refine J_aload_n X d_TG_cells_17 rfl rfl ?_ | refine J_aload_n0 X d_TG_cells_17 rfl rfl ?_
      refine J_getR X (hx) fa_TG_28_0 rfl (h2) d_TG_cells_18 ?_
      refine J_getI X (ho) fa_TG_140_1 rfl (rfl) d_TG_cells_21 ?_
      refine J_goto (tgt := 28) X d_TG_cells_24 (by decide) ?_
      exact J_iret X ⟨by rw [if_neg g, if_pos g2], rfl⟩ (by decide) (by decide) d_TG_cells_28
  · first | refine J_aload_nr X d_TG_cells_4 rfl rfl ?_ | refine J_aload_n X d_TG_cells_4 rfl rfl ?_ | refine J_aload_n0 X d_TG_cells_4 rfl rfl ?_
    refine J_getR X (hx) fa_TG_24_0 rfl (h1) d_TG_cells_5 ?_
    refine J_getI X (hy) fa_TG_140_1 rfl (rfl) d_TG_cells_8 ?_
    exact J_iret X ⟨by rw [if_pos g], rfl⟩ (by decide) (by decide) d_TG_cells_11
set_option maxRecDepth 100000 in
/-- same, from its last comparison on -/
theorem same2 {Γ : Cxt} {w0 : Wd} {post : Option Value → Wd → Prop} {i j : Nat} {L : List (Option Value)} (X : Cx Γ Δ (AE Γ w0) l c_TG_same "TwoGenerations" 6 (rmL 3 0 0) (some .boolean) "same") (H : Rg w x rg nr) (hi : i < nr) (hj : j < nr) (h0 : L[0]? = some (some (.ref x))) (h1 : L[1]? = some (some (.int (nI i)))) (h2 : L[2]? = some (some (.int (nI j))))
    (hp : post (some (.int (if wP w rg i = wP w rg j then 1 else 0))) w) : J Γ Δ (AE Γ w0) 6 w 0 0 (QE Γ Δ w0 post (rmL 3 0 0)) 81 L [] := by
  obtain ⟨hx, hrg, hrk, n1, n2⟩ := H
  refine J_aload_nr X d_TG_same_81 rfl h0 ?_
  refine J_getR X (hx) fa_TG_15_0 rfl (hrg) d_TG_same_82 ?_
  refine J_iload_n X d_TG_same_85 rfl h1 ?_
  refine J_aald X (hrk) (by decide) rfl ⟨_, rfl⟩ (rfl) (hi) (by omega) (rfl) d_TG_same_86 ?_
  refine J_aload_nr X d_TG_same_87 rfl h0 ?_
  refine J_getR X (hx) fa_TG_15_0 rfl (hrg) d_TG_same_88 ?_
  refine J_iload_n X d_TG_same_91 rfl h2 ?_
  refine J_aald X (hrk) (by decide) rfl ⟨_, rfl⟩ (rfl) (hj) (by omega) (rfl) d_TG_same_92 ?_
  refine J_acmp_ne (tgt := 100) X d_TG_same_93 (by decide) (fun g => ?_) (fun g => ?_)
  · refine J_iconst (v := 0) X d_TG_same_100 (by decide) ?_
    exact J_zret X (Or.inl rfl) (by rw [if_neg g] at hp; exact hp) (by decide) (by decide) d_TG_same_101
  · refine J_iconst (v := 1) X d_TG_same_96 (by decide) ?_
    refine J_goto (tgt := 101) X d_TG_same_97 (by decide) ?_
    exact J_zret X (Or.inr rfl) (by rw [if_pos g] at hp; exact hp) (by decide) (by decide) d_TG_same_101
set_option maxRecDepth 100000 in
theorem k_same {r2 : Int32} (H : Rg w x rg nr) (hv : ∀ j, j < nr → oV w (wP w rg j)) : Ct l y_TG_same h_TG_same (rmL 3 0 0) Δ [.ref x, .int r, .int r2] w (fun q w' => q = some (.int (if regB nr r ∧ regB nr r2 ∧ sameV w (held w rg nr r) (held w rg nr r2) = true then 1 else 0)) ∧ w' = w) := by
  have H' := H
  obtain ⟨hx, hrg, hrk, h1, h2⟩ := H'
  refine Ct_of (L := [some (.ref x), some (.int r), some (.int r2), none, none, none]) (by decide) (by first | exact Nat.le_of_ble_eq_true rfl | simp [lg_sl, va_rf_cat, vc_r, vc_i, vc_0]) (by first | rfl | simp [lin, va_rf_cat, vc_r, vc_i, vc_0]) (fun Γ X => ?_)
  first | refine J_aload_nr X d_TG_same_0 rfl rfl ?_ | refine J_aload_n X d_TG_same_0 rfl rfl ?_ | refine J_aload_n0 X d_TG_same_0 rfl rfl ?_
  refine J_iload_n X d_TG_same_1 rfl rfl ?_
  refine J_callV X (hx) rfl (k_isRegister (r := r) H) cd_TG_isRegister lk_TG_42 vi_TG_isRegister (by decide) (by decide) (by decide) (by decide) rfl (by first | decide | simp [va_rf_cat, vc_r, vc_i, vc_0]) d_TG_same_2 (fun q w1 hq => ?_)
  obtain ⟨rfl, hw1⟩ := hq
  refine J_eq hw1 rfl ?_
  by_cases h : regB nr r
  · refine J_top (v' := .int 1) (by rw [if_pos h]) ?_
    refine J_if_eq (tgt := 16) X d_TG_same_5 (by decide) (fun g => ?_) (fun g => ?_)
    · exact absurd g (by decide)
    · first | refine J_aload_nr X d_TG_same_8 rfl rfl ?_ | refine J_aload_n X d_TG_same_8 rfl rfl ?_ | refine J_aload_n0 X d_TG_same_8 rfl rfl ?_
      refine J_iload_n X d_TG_same_9 rfl rfl ?_
      refine J_callV X (hx) rfl (k_isRegister (r := r2) H) cd_TG_isRegister lk_TG_42 vi_TG_isRegister (by decide) (by decide) (by decide) (by decide) rfl (by first | decide | simp [va_rf_cat, vc_r, vc_i, vc_0]) d_TG_same_10 (fun q w2 hq => ?_)
      obtain ⟨rfl, hw2⟩ := hq
      refine J_eq hw2 rfl ?_
      by_cases h' : regB nr r2
      · refine J_top (v' := .int 1) (by rw [if_pos h']) ?_
        obtain ⟨i, hi, rfl⟩ := regB_at h1 h2 h
        obtain ⟨j, hj, rfl⟩ := regB_at h1 h2 h'
        rw [held_at h2 hi, held_at h2 hj]
        have last : ∀ o : Prop, (¬ ∃ s t, wP w rg i = some s ∧ wP w rg j = some t ∧ isWh w s = true ∧ isWh w t = true ∧ wI w s 0 = wI w t 0) → (some (Value.int (if wP w rg i = wP w rg j then 1 else 0)) = some (Value.int (if regB nr (nI i) ∧ regB nr (nI j) ∧ sameV w (wP w rg i) (wP w rg j) = true then 1 else 0))) := fun _ hn => by
          by_cases e : wP w rg i = wP w rg j
          · rw [if_pos e, if_pos ⟨h, h', sameV_iff.mpr (Or.inl e)⟩]
          · rw [if_neg e, if_neg (fun q => (sameV_iff.mp q.2.2).elim e hn)]
        refine J_if_ne (tgt := 18) X d_TG_same_13 (by decide) (fun g => ?_) (fun g => ?_)
        · cases hh : wP w rg i with
          | none =>
            first | refine J_aload_nr X d_TG_same_18 rfl rfl ?_ | refine J_aload_n X d_TG_same_18 rfl rfl ?_ | refine J_aload_n0 X d_TG_same_18 rfl rfl ?_
            refine J_getR X (hx) fa_TG_15_0 rfl (hrg) d_TG_same_19 ?_
            refine J_iload_n X d_TG_same_22 rfl rfl ?_
            refine J_aald X (hrk) (by decide) rfl ⟨_, rfl⟩ (rfl) (hi) (by omega) (hh) d_TG_same_23 ?_
            first | refine J_astorer X d_TG_same_24 (by decide) rfl ?_ | refine J_astore X d_TG_same_24 (by decide) rfl ?_ | refine J_astore0 X d_TG_same_24 (by decide) rfl ?_
            first | refine J_aloadr X d_TG_same_26 rfl ?_ | refine J_aload X d_TG_same_26 rfl ?_ | refine J_aload0 X d_TG_same_26 rfl ?_
            refine J_inst0 X d_TG_same_28 ?_
            refine J_if_eq (tgt := 81) X d_TG_same_31 (by decide) (fun g => ?_) (fun g => ?_)
            · exact same2 X H hi hj rfl rfl rfl ⟨by rw [← hh]; exact last True (by rintro ⟨s, t, e, -⟩; rw [hh] at e; cases e), rfl⟩
            · exact absurd rfl g
          | some s =>
            first | refine J_aload_nr X d_TG_same_18 rfl rfl ?_ | refine J_aload_n X d_TG_same_18 rfl rfl ?_ | refine J_aload_n0 X d_TG_same_18 rfl rfl ?_
            refine J_getR X (hx) fa_TG_15_0 rfl (hrg) d_TG_same_19 ?_
            refine J_iload_n X d_TG_same_22 rfl rfl ?_
            refine J_aaldr X (hrk) (by decide) rfl ⟨_, rfl⟩ (rfl) (hi) (by omega) (hh) d_TG_same_23 ?_
            first | refine J_astorer X d_TG_same_24 (by decide) rfl ?_ | refine J_astore X d_TG_same_24 (by decide) rfl ?_ | refine J_astore0 X d_TG_same_24 (by decide) rfl ?_
            first | refine J_aloadr X d_TG_same_26 rfl ?_ | refine J_aload X d_TG_same_26 rfl ?_ | refine J_aload0 X d_TG_same_26 rfl ?_
            have no : isWh w s = false → ¬ ∃ s' t, wP w rg i = some s' ∧ wP w rg j = some t ∧ isWh w s' = true ∧ isWh w t = true ∧ wI w s' 0 = wI w t 0 := by
              rintro hs ⟨s', t, e, -, q, -⟩
              rw [hh] at e
              cases e
              rw [hs] at q
              cases q
            rcases oV_kd (hv i hi) hh with hk | hk | hk
            · refine J_instN X hk in_TG_97_3 d_TG_same_28 ?_
              refine J_if_eq (tgt := 81) X d_TG_same_31 (by decide) (fun g => ?_) (fun g => ?_)
              · exact same2 X H hi hj rfl rfl rfl ⟨by rw [← hh]; exact last True (no (by simp [isWh, hk])), rfl⟩
              · exact absurd rfl g
            · refine J_instN X hk in_TG_97_4 d_TG_same_28 ?_
              refine J_if_eq (tgt := 81) X d_TG_same_31 (by decide) (fun g => ?_) (fun g => ?_)
              · exact same2 X H hi hj rfl rfl rfl ⟨by rw [← hh]; exact last True (no (by simp [isWh, hk])), rfl⟩
              · exact absurd rfl g
            · refine J_instY X hk iy_TG_97_5 d_TG_same_28 ?_
              refine J_if_eq (tgt := 81) X d_TG_same_31 (by decide) (fun g => ?_) (fun g => ?_)
              · exact absurd g (by decide)
              · first | refine J_aloadr X d_TG_same_34 rfl ?_ | refine J_aload X d_TG_same_34 rfl ?_ | refine J_aload0 X d_TG_same_34 rfl ?_
                refine J_cast X hk iy_TG_97_5 d_TG_same_36 ?_
                have hs : isWh w s = true := by simp [isWh, hk]
                cases hh2 : wP w rg j with
                | none =>
                  first | refine J_astore_nr X d_TG_same_39 rfl (by decide) rfl ?_ | refine J_astore_n X d_TG_same_39 rfl (by decide) rfl ?_ | refine J_astore_n0 X d_TG_same_39 rfl (by decide) rfl ?_
                  first | refine J_aload_nr X d_TG_same_40 rfl rfl ?_ | refine J_aload_n X d_TG_same_40 rfl rfl ?_ | refine J_aload_n0 X d_TG_same_40 rfl rfl ?_
                  refine J_getR X (hx) fa_TG_15_0 rfl (hrg) d_TG_same_41 ?_
                  refine J_iload_n X d_TG_same_44 rfl rfl ?_
                  refine J_aald X (hrk) (by decide) rfl ⟨_, rfl⟩ (rfl) (hj) (by omega) (hh2) d_TG_same_45 ?_
                  first | refine J_astorer X d_TG_same_46 (by decide) rfl ?_ | refine J_astore X d_TG_same_46 (by decide) rfl ?_ | refine J_astore0 X d_TG_same_46 (by decide) rfl ?_
                  first | refine J_aloadr X d_TG_same_48 rfl ?_ | refine J_aload X d_TG_same_48 rfl ?_ | refine J_aload0 X d_TG_same_48 rfl ?_
                  refine J_inst0 X d_TG_same_50 ?_
                  refine J_if_eq (tgt := 81) X d_TG_same_53 (by decide) (fun g => ?_) (fun g => ?_)
                  · exact same2 X H hi hj rfl rfl rfl ⟨by rw [← hh, ← hh2]; exact last True (by rintro ⟨s', t, -, e, -⟩; rw [hh2] at e; cases e), rfl⟩
                  · exact absurd rfl g
                | some t =>
                  first | refine J_astore_nr X d_TG_same_39 rfl (by decide) rfl ?_ | refine J_astore_n X d_TG_same_39 rfl (by decide) rfl ?_ | refine J_astore_n0 X d_TG_same_39 rfl (by decide) rfl ?_
                  first | refine J_aload_nr X d_TG_same_40 rfl rfl ?_ | refine J_aload_n X d_TG_same_40 rfl rfl ?_ | refine J_aload_n0 X d_TG_same_40 rfl rfl ?_
                  refine J_getR X (hx) fa_TG_15_0 rfl (hrg) d_TG_same_41 ?_
                  refine J_iload_n X d_TG_same_44 rfl rfl ?_
                  refine J_aaldr X (hrk) (by decide) rfl ⟨_, rfl⟩ (rfl) (hj) (by omega) (hh2) d_TG_same_45 ?_
                  first | refine J_astorer X d_TG_same_46 (by decide) rfl ?_ | refine J_astore X d_TG_same_46 (by decide) rfl ?_ | refine J_astore0 X d_TG_same_46 (by decide) rfl ?_
                  first | refine J_aloadr X d_TG_same_48 rfl ?_ | refine J_aload X d_TG_same_48 rfl ?_ | refine J_aload0 X d_TG_same_48 rfl ?_
                  have no2 : isWh w t = false → ¬ ∃ s' t', wP w rg i = some s' ∧ wP w rg j = some t' ∧ isWh w s' = true ∧ isWh w t' = true ∧ wI w s' 0 = wI w t' 0 := by
                    rintro hs ⟨s', t', -, e, -, q, -⟩
                    rw [hh2] at e
                    cases e
                    rw [hs] at q
                    cases q
                  rcases oV_kd (hv j hj) hh2 with hk2 | hk2 | hk2
                  · refine J_instN X hk2 in_TG_97_3 d_TG_same_50 ?_
                    refine J_if_eq (tgt := 81) X d_TG_same_53 (by decide) (fun g => ?_) (fun g => ?_)
                    · exact same2 X H hi hj rfl rfl rfl ⟨by rw [← hh, ← hh2]; exact last True (no2 (by simp [isWh, hk2])), rfl⟩
                    · exact absurd rfl g
                  · refine J_instN X hk2 in_TG_97_4 d_TG_same_50 ?_
                    refine J_if_eq (tgt := 81) X d_TG_same_53 (by decide) (fun g => ?_) (fun g => ?_)
                    · exact same2 X H hi hj rfl rfl rfl ⟨by rw [← hh, ← hh2]; exact last True (no2 (by simp [isWh, hk2])), rfl⟩
                    · exact absurd rfl g
                  · refine J_instY X hk2 iy_TG_97_5 d_TG_same_50 ?_
                    have ht : isWh w t = true := by simp [isWh, hk2]
                    refine J_if_eq (tgt := 81) X d_TG_same_53 (by decide) (fun g => ?_) (fun g => ?_)
                    · exact absurd g (by decide)
                    · first | refine J_aloadr X d_TG_same_56 rfl ?_ | refine J_aload X d_TG_same_56 rfl ?_ | refine J_aload0 X d_TG_same_56 rfl ?_
                      refine J_cast X hk2 iy_TG_97_5 d_TG_same_58 ?_
                      first | refine J_astorer X d_TG_same_61 (by decide) rfl ?_ | refine J_astore X d_TG_same_61 (by decide) rfl ?_ | refine J_astore0 X d_TG_same_61 (by decide) rfl ?_
                      first | refine J_aload_nr X d_TG_same_63 rfl rfl ?_ | refine J_aload_n X d_TG_same_63 rfl rfl ?_ | refine J_aload_n0 X d_TG_same_63 rfl rfl ?_
                      refine J_getI X (hk) fa_TG_106_5 rfl (rfl) d_TG_same_64 ?_
                      first | refine J_aloadr X d_TG_same_67 rfl ?_ | refine J_aload X d_TG_same_67 rfl ?_ | refine J_aload0 X d_TG_same_67 rfl ?_
                      refine J_getI X (hk2) fa_TG_106_5 rfl (rfl) d_TG_same_69 ?_
                      refine J_icmp_ne (tgt := 79) X d_TG_same_72 (by decide) (fun g => ?_) (fun g => ?_)
                      · refine J_iconst (v := 0) X d_TG_same_79 (by decide) ?_
                        exact J_zret X (Or.inl rfl) ⟨by rw [if_neg (fun q => (sameV_iff.mp q.2.2).elim (fun e => g (by cases e; rfl)) (fun ⟨s', t', e1, e2, _, _, e⟩ => g (by cases e1; cases e2; exact e)))], rfl⟩ (by decide) (by decide) d_TG_same_80
                      · refine J_iconst (v := 1) X d_TG_same_75 (by decide) ?_
                        refine J_goto (tgt := 80) X d_TG_same_76 (by decide) ?_
                        exact J_zret X (Or.inr rfl) ⟨by rw [if_pos ⟨h, h', sameV_iff.mpr (Or.inr ⟨s, t, rfl, rfl, hs, ht, g⟩)⟩], rfl⟩ (by decide) (by decide) d_TG_same_80
        · exact absurd g (by decide)
      · refine J_top (v' := .int 0) (by rw [if_neg h']) ?_
        refine J_if_ne (tgt := 18) X d_TG_same_13 (by decide) (fun g => ?_) (fun g => ?_)
        · exact absurd rfl g
        · refine J_iconst (v := 0) X d_TG_same_16 (by decide) ?_
          exact J_zret X (Or.inl rfl) ⟨by rw [if_neg (fun q => h' q.2.1)], rfl⟩ (by decide) (by decide) d_TG_same_17
  · refine J_top (v' := .int 0) (by rw [if_neg h]) ?_
    refine J_if_eq (tgt := 16) X d_TG_same_5 (by decide) (fun g => ?_) (fun g => ?_)
    · refine J_iconst (v := 0) X d_TG_same_16 (by decide) ?_
      exact J_zret X (Or.inl rfl) ⟨by rw [if_neg (fun q => h q.1)], rfl⟩ (by decide) (by decide) d_TG_same_17
    · exact absurd rfl g
end RD
