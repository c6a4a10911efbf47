/-! isRegister, heldIn, thingIn, plainIn, weakIn -/
abbrev regB (nr : Nat) (r : Int32) : Prop := 0 ≤ r ∧ r ≤ nI (nr - 1)
theorem regB_at {nr : Nat} {r : Int32} (h1 : 1 ≤ nr) (h2 : nr < 1000) (h : regB nr r) : ∃ j, j < nr ∧ r = nI j := by
  obtain ⟨j, hj, e⟩ := nI_of2 (M := nI (nr - 1)) (n := nr - 1) (nI_toInt (by omega)) (Int32.not_lt.mpr h.1) h.2
  exact ⟨j, by omega, e⟩
theorem regB_nI {nr j : Nat} (h2 : nr < 1000) (h : j < nr) : regB nr (nI j) := ⟨nI_pos' (by omega), nI_le (by omega) (by omega)⟩
/-- what a register holds -/
def held (w : Wd) (rg nr : Nat) (r : Int32) : Option Nat := if regB nr r then wP w rg r.toNatClampNeg else none
theorem held_at {w : Wd} {rg nr j : Nat} (h2 : nr < 1000) (h : j < nr) : held w rg nr (nI j) = wP w rg j := by
  rw [held, if_pos (regB_nI h2 h), nI_clamp (by omega)]
theorem held_no {w : Wd} {rg nr : Nat} {r : Int32} (h : ¬ regB nr r) : held w rg nr r = none := if_neg h
theorem held_oV {w : Wd} {rg nr : Nat} {r : Int32} (h1 : 1 ≤ nr) (h2 : nr < 1000) (hv : ∀ j, j < nr → oV w (wP w rg j)) : oV w (held w rg nr r) := by
  by_cases h : regB nr r
  · obtain ⟨j, hj, rfl⟩ := regB_at h1 h2 h
    rw [held_at h2 hj]
    exact hv j hj
  · rw [held_no h]
    exact fun t ht => nomatch ht
def only (w : Wd) (d : Nat → Bool) (o : Option Nat) : Option Nat := match o with
  | some t => if d t = true then some t else none
  | none => none
def isP (w : Wd) (t : Nat) : Bool := match wK w t with
  | some (.inl 3) => true
  | _ => false
def isWk (w : Wd) (t : Nat) : Bool := match wK w t with
  | some (.inl 4) => true
  | _ => false
/-- the register row of x -/
def Rg (w : Wd) (x rg nr : Nat) : Prop := wK w x = some (.inl 0) ∧ wP w x 0 = some rg ∧ wK w rg = some (.inr (3, nr)) ∧ 1 ≤ nr ∧ nr < 1000
section HE
variable {l : Launch} {Δ : Dat} {w : Wd} {x rg nr : Nat} {r : Int32}
set_option maxRecDepth 100000 in
theorem k_isRegister (H : Rg w x rg nr) : Ct l y_TG_isRegister h_TG_isRegister (rmL 1 0 0) Δ [.ref x, .int r] w (fun q w' => q = some (.int (if regB nr r then 1 else 0)) ∧ w' = w) := by
  obtain ⟨hx, hrg, hrk, h1, h2⟩ := H
  refine Ct_of (L := [some (.ref x), some (.int r)]) (by decide) (by first | exact Nat.le_of_ble_eq_true rfl | simp [lg_sl, va_rf_cat, vc_r, vc_i, vc_0]) (by first | rfl | simp [lin, va_rf_cat, vc_r, vc_i, vc_0]) (fun Γ X => ?_)
  refine J_iload_n X d_TG_isRegister_0 rfl rfl ?_
  refine J_iconst (v := 0) X d_TG_isRegister_1 (by decide) ?_
  first | refine J_aload_nr X d_TG_isRegister_2 rfl rfl ?_ | refine J_aload_n X d_TG_isRegister_2 rfl rfl ?_ | refine J_aload_n0 X d_TG_isRegister_2 rfl rfl ?_
  refine J_getR X (hx) fa_TG_15_0 rfl (hrg) d_TG_isRegister_3 ?_
  refine J_alen X (hrk) (by decide) d_TG_isRegister_6 ?_
  refine J_iconst (v := 1) X d_TG_isRegister_7 (by decide) ?_
  refine J_isub X d_TG_isRegister_8 ?_
  refine J_top (v' := .int (nI (nr - 1))) (by rw [show (1 : Int32) = nI 1 from rfl, pk_sub h1]) ?_
  refine J_callS X (k_within (v := r) (lo := 0) (hi := nI (nr - 1))) cd_TG_within lk_TG_7 st_TG_within (by decide) (by decide) (by decide) (by decide) rfl (by first | decide | simp [va_rf_cat, vc_r, vc_i, vc_0]) d_TG_isRegister_9 (fun q w1 hq => ?_)
  obtain ⟨rfl, hw1⟩ := hq
  refine J_eq hw1 rfl ?_
  refine J_zret X (by split <;> simp) ⟨rfl, rfl⟩ (by decide) (by decide) d_TG_isRegister_12
set_option maxRecDepth 100000 in
theorem k_heldIn (H : Rg w x rg nr) : Ct l y_TG_heldIn h_TG_heldIn (rmL 2 0 0) Δ [.ref x, .int r] w (fun q w' => q = some (va_rf (held w rg nr r)) ∧ w' = w) := by
  have H' := H
  obtain ⟨hx, hrg, hrk, h1, h2⟩ := H'
  refine Ct_of (L := [some (.ref x), some (.int r)]) (by decide) (by first | exact Nat.le_of_ble_eq_true rfl | simp [lg_sl, va_rf_cat, vc_r, vc_i, vc_0]) (by first | rfl | simp [lin, va_rf_cat, vc_r, vc_i, vc_0]) (fun Γ X => ?_)
  first | refine J_aload_nr X d_TG_heldIn_0 rfl rfl ?_ | refine J_aload_n X d_TG_heldIn_0 rfl rfl ?_ | refine J_aload_n0 X d_TG_heldIn_0 rfl rfl ?_
  refine J_iload_n X d_TG_heldIn_1 rfl rfl ?_
  refine J_callV X (hx) rfl (k_isRegister (r := r) H) cd_TG_isRegister lk_TG_42 vi_TG_isRegister (by decide) (by decide) (by decide) (by decide) rfl (by first | decide | simp [va_rf_cat, vc_r, vc_i, vc_0]) d_TG_heldIn_2 (fun q w1 hq => ?_)
  obtain ⟨rfl, hw1⟩ := hq
  refine J_eq hw1 rfl ?_
  by_cases h : regB nr r
  · refine J_top (v' := .int 1) (by rw [if_pos h]) ?_
    refine J_if_eq (tgt := 17) X d_TG_heldIn_5 (by decide) (fun g => ?_) (fun g => ?_)
    · exact absurd g (by decide)
    · obtain ⟨j, hj, rfl⟩ := regB_at h1 h2 h
      have hh : wP w rg j = held w rg nr (nI j) := (held_at h2 hj).symm
      first | refine J_aload_nr X d_TG_heldIn_8 rfl rfl ?_ | refine J_aload_n X d_TG_heldIn_8 rfl rfl ?_ | refine J_aload_n0 X d_TG_heldIn_8 rfl rfl ?_
      refine J_getR X (hx) fa_TG_15_0 rfl (hrg) d_TG_heldIn_9 ?_
      refine J_iload_n X d_TG_heldIn_12 rfl rfl ?_
      refine J_aald X (hrk) (by decide) rfl ⟨_, rfl⟩ (rfl) (hj) (by omega) (hh) d_TG_heldIn_13 ?_
      refine J_goto (tgt := 18) X d_TG_heldIn_14 (by decide) ?_
      exact J_aret X (Or.inl ⟨_, rfl⟩) ⟨rfl, rfl⟩ (by decide) (by decide) d_TG_heldIn_18
  · refine J_top (v' := .int 0) (by rw [if_neg h]) ?_
    refine J_if_eq (tgt := 17) X d_TG_heldIn_5 (by decide) (fun g => ?_) (fun g => ?_)
    · refine J_null X d_TG_heldIn_17 ?_
      exact J_aret0 X (Or.inl ⟨_, rfl⟩) ⟨by rw [held_no h]; rfl, rfl⟩ (by decide) (by decide) d_TG_heldIn_18
    · exact absurd rfl g
set_option maxRecDepth 100000 in
theorem k_thingIn (H : Rg w x rg nr) (hv : ∀ j, j < nr → oV w (wP w rg j)) : Ct l y_TG_thingIn h_TG_thingIn (rmL 3 0 0) Δ [.ref x, .int r] w (fun q w' => q = some (va_rf (only w (isTb w) (held w rg nr r))) ∧ w' = w) := by
  have hx := H.1
  have ho := held_oV (r := r) H.2.2.2.1 H.2.2.2.2 hv
  refine Ct_of (L := [some (.ref x), some (.int r), none, none]) (by decide) (by first | exact Nat.le_of_ble_eq_true rfl | simp [lg_sl, va_rf_cat, vc_r, vc_i, vc_0]) (by first | rfl | simp [lin, va_rf_cat, vc_r, vc_i, vc_0]) (fun Γ X => ?_)
  first | refine J_aload_nr X d_TG_thingIn_0 rfl rfl ?_ | refine J_aload_n X d_TG_thingIn_0 rfl rfl ?_ | refine J_aload_n0 X d_TG_thingIn_0 rfl rfl ?_
  refine J_iload_n X d_TG_thingIn_1 rfl rfl ?_
  refine J_callV X (hx) rfl (k_heldIn (r := r) H) cd_TG_heldIn lk_TG_102 vi_TG_heldIn (by decide) (by decide) (by decide) (by decide) rfl (by first | decide | simp [va_rf_cat, vc_r, vc_i, vc_0]) d_TG_thingIn_2 (fun q w1 hq => ?_)
  obtain ⟨rfl, hw1⟩ := hq
  refine J_eq hw1 rfl ?_
  cases hh : held w rg nr r with
  | none =>
    first | refine J_astore_nr X d_TG_thingIn_5 rfl (by decide) rfl ?_ | refine J_astore_n X d_TG_thingIn_5 rfl (by decide) rfl ?_ | refine J_astore_n0 X d_TG_thingIn_5 rfl (by decide) rfl ?_
    first | refine J_aload_nr X d_TG_thingIn_6 rfl rfl ?_ | refine J_aload_n X d_TG_thingIn_6 rfl rfl ?_ | refine J_aload_n0 X d_TG_thingIn_6 rfl rfl ?_
    refine J_inst0 X d_TG_thingIn_7 ?_
    refine J_if_eq (tgt := 22) X d_TG_thingIn_10 (by decide) (fun g => ?_) (fun g => ?_)
    · refine J_null X d_TG_thingIn_22 ?_
      exact J_aret0 X (Or.inl ⟨_, rfl⟩) ⟨rfl, rfl⟩ (by decide) (by decide) d_TG_thingIn_23
    · exact absurd rfl g
  | some t =>
    first | refine J_astore_nr X d_TG_thingIn_5 rfl (by decide) rfl ?_ | refine J_astore_n X d_TG_thingIn_5 rfl (by decide) rfl ?_ | refine J_astore_n0 X d_TG_thingIn_5 rfl (by decide) rfl ?_
    first | refine J_aload_nr X d_TG_thingIn_6 rfl rfl ?_ | refine J_aload_n X d_TG_thingIn_6 rfl rfl ?_ | refine J_aload_n0 X d_TG_thingIn_6 rfl rfl ?_
    rcases ho t hh with ht | ht
    · obtain ⟨ci, hci, hk⟩ := isTb_to ht
      refine J_instY X hk (by rcases hci with rfl | rfl; exact iy_TG_110_3; exact iy_TG_110_4) d_TG_thingIn_7 ?_
      refine J_if_eq (tgt := 22) X d_TG_thingIn_10 (by decide) (fun g => ?_) (fun g => ?_)
      · exact absurd g (by decide)
      · first | refine J_aload_nr X d_TG_thingIn_13 rfl rfl ?_ | refine J_aload_n X d_TG_thingIn_13 rfl rfl ?_ | refine J_aload_n0 X d_TG_thingIn_13 rfl rfl ?_
        refine J_cast X hk (by rcases hci with rfl | rfl; exact iy_TG_110_3; exact iy_TG_110_4) d_TG_thingIn_14 ?_
        first | refine J_astore_nr X d_TG_thingIn_17 rfl (by decide) rfl ?_ | refine J_astore_n X d_TG_thingIn_17 rfl (by decide) rfl ?_ | refine J_astore_n0 X d_TG_thingIn_17 rfl (by decide) rfl ?_
        first | refine J_aload_nr X d_TG_thingIn_18 rfl rfl ?_ | refine J_aload_n X d_TG_thingIn_18 rfl rfl ?_ | refine J_aload_n0 X d_TG_thingIn_18 rfl rfl ?_
        refine J_goto (tgt := 23) X d_TG_thingIn_19 (by decide) ?_
        exact J_aretr X (Or.inl ⟨_, rfl⟩) ⟨by rw [only, if_pos ht]; rfl, rfl⟩ (by decide) (by decide) d_TG_thingIn_23
    · refine J_instN X ht in_TG_110_5 d_TG_thingIn_7 ?_
      refine J_if_eq (tgt := 22) X d_TG_thingIn_10 (by decide) (fun g => ?_) (fun g => ?_)
      · refine J_null X d_TG_thingIn_22 ?_
        exact J_aret0 X (Or.inl ⟨_, rfl⟩) ⟨by rw [only, if_neg (by rw [isTb_no ht]; decide)]; rfl, rfl⟩ (by decide) (by decide) d_TG_thingIn_23
      · exact absurd rfl g
set_option maxRecDepth 100000 in
theorem k_plainIn (H : Rg w x rg nr) (hv : ∀ j, j < nr → oV w (wP w rg j)) : Ct l y_TG_plainIn h_TG_plainIn (rmL 3 0 0) Δ [.ref x, .int r] w (fun q w' => q = some (va_rf (only w (isP w) (held w rg nr r))) ∧ w' = w) := by
  have hx := H.1
  have ho := held_oV (r := r) H.2.2.2.1 H.2.2.2.2 hv
  refine Ct_of (L := [some (.ref x), some (.int r), none, none]) (by decide) (by first | exact Nat.le_of_ble_eq_true rfl | simp [lg_sl, va_rf_cat, vc_r, vc_i, vc_0]) (by first | rfl | simp [lin, va_rf_cat, vc_r, vc_i, vc_0]) (fun Γ X => ?_)
  first | refine J_aload_nr X d_TG_plainIn_0 rfl rfl ?_ | refine J_aload_n X d_TG_plainIn_0 rfl rfl ?_ | refine J_aload_n0 X d_TG_plainIn_0 rfl rfl ?_
  refine J_iload_n X d_TG_plainIn_1 rfl rfl ?_
  refine J_callV X (hx) rfl (k_heldIn (r := r) H) cd_TG_heldIn lk_TG_102 vi_TG_heldIn (by decide) (by decide) (by decide) (by decide) rfl (by first | decide | simp [va_rf_cat, vc_r, vc_i, vc_0]) d_TG_plainIn_2 (fun q w1 hq => ?_)
  obtain ⟨rfl, hw1⟩ := hq
  refine J_eq hw1 rfl ?_
  cases hh : held w rg nr r with
  | none =>
    first | refine J_astore_nr X d_TG_plainIn_5 rfl (by decide) rfl ?_ | refine J_astore_n X d_TG_plainIn_5 rfl (by decide) rfl ?_ | refine J_astore_n0 X d_TG_plainIn_5 rfl (by decide) rfl ?_
    first | refine J_aload_nr X d_TG_plainIn_6 rfl rfl ?_ | refine J_aload_n X d_TG_plainIn_6 rfl rfl ?_ | refine J_aload_n0 X d_TG_plainIn_6 rfl rfl ?_
    refine J_inst0 X d_TG_plainIn_7 ?_
    refine J_if_eq (tgt := 22) X d_TG_plainIn_10 (by decide) (fun g => ?_) (fun g => ?_)
    · refine J_null X d_TG_plainIn_22 ?_
      exact J_aret0 X (Or.inl ⟨_, rfl⟩) ⟨rfl, rfl⟩ (by decide) (by decide) d_TG_plainIn_23
    · exact absurd rfl g
  | some t =>
    first | refine J_astore_nr X d_TG_plainIn_5 rfl (by decide) rfl ?_ | refine J_astore_n X d_TG_plainIn_5 rfl (by decide) rfl ?_ | refine J_astore_n0 X d_TG_plainIn_5 rfl (by decide) rfl ?_
    first | refine J_aload_nr X d_TG_plainIn_6 rfl rfl ?_ | refine J_aload_n X d_TG_plainIn_6 rfl rfl ?_ | refine J_aload_n0 X d_TG_plainIn_6 rfl rfl ?_
    have hk : wK w t = some (.inl 3) ∨ wK w t = some (.inl 4) ∨ wK w t = some (.inl 5) := by
      rcases ho t hh with ht | ht
      · obtain ⟨ci, hci, hk⟩ := isTb_to ht
        rcases hci with rfl | rfl
        · exact Or.inl hk
        · exact Or.inr (Or.inl hk)
      · exact Or.inr (Or.inr ht)
    rcases hk with hk | hk | hk
    · refine J_instY X hk iy_TG_53_3 d_TG_plainIn_7 ?_
      refine J_if_eq (tgt := 22) X d_TG_plainIn_10 (by decide) (fun g => ?_) (fun g => ?_)
      · exact absurd g (by decide)
      · first | refine J_aload_nr X d_TG_plainIn_13 rfl rfl ?_ | refine J_aload_n X d_TG_plainIn_13 rfl rfl ?_ | refine J_aload_n0 X d_TG_plainIn_13 rfl rfl ?_
        refine J_cast X hk iy_TG_53_3 d_TG_plainIn_14 ?_
        first | refine J_astore_nr X d_TG_plainIn_17 rfl (by decide) rfl ?_ | refine J_astore_n X d_TG_plainIn_17 rfl (by decide) rfl ?_ | refine J_astore_n0 X d_TG_plainIn_17 rfl (by decide) rfl ?_
        first | refine J_aload_nr X d_TG_plainIn_18 rfl rfl ?_ | refine J_aload_n X d_TG_plainIn_18 rfl rfl ?_ | refine J_aload_n0 X d_TG_plainIn_18 rfl rfl ?_
        refine J_goto (tgt := 23) X d_TG_plainIn_19 (by decide) ?_
        exact J_aretr X (Or.inl ⟨_, rfl⟩) ⟨by rw [only, if_pos (by simp [isP, isWk, hk])]; rfl, rfl⟩ (by decide) (by decide) d_TG_plainIn_23
    · refine J_instN X hk in_TG_53_4 d_TG_plainIn_7 ?_
      refine J_if_eq (tgt := 22) X d_TG_plainIn_10 (by decide) (fun g => ?_) (fun g => ?_)
      · refine J_null X d_TG_plainIn_22 ?_
        exact J_aret0 X (Or.inl ⟨_, rfl⟩) ⟨by rw [only, if_neg (by simp [isP, isWk, hk])]; rfl, rfl⟩ (by decide) (by decide) d_TG_plainIn_23
      · exact absurd rfl g
    · refine J_instN X hk in_TG_53_5 d_TG_plainIn_7 ?_
      refine J_if_eq (tgt := 22) X d_TG_plainIn_10 (by decide) (fun g => ?_) (fun g => ?_)
      · refine J_null X d_TG_plainIn_22 ?_
        exact J_aret0 X (Or.inl ⟨_, rfl⟩) ⟨by rw [only, if_neg (by simp [isP, isWk, hk])]; rfl, rfl⟩ (by decide) (by decide) d_TG_plainIn_23
      · exact absurd rfl g
set_option maxRecDepth 100000 in
theorem k_weakIn (H : Rg w x rg nr) (hv : ∀ j, j < nr → oV w (wP w rg j)) : Ct l y_TG_weakIn h_TG_weakIn (rmL 3 0 0) Δ [.ref x, .int r] w (fun q w' => q = some (va_rf (only w (isWk w) (held w rg nr r))) ∧ w' = w) := by
  have hx := H.1
  have ho := held_oV (r := r) H.2.2.2.1 H.2.2.2.2 hv
  refine Ct_of (L := [some (.ref x), some (.int r), none, none]) (by decide) (by first | exact Nat.le_of_ble_eq_true rfl | simp [lg_sl, va_rf_cat, vc_r, vc_i, vc_0]) (by first | rfl | simp [lin, va_rf_cat, vc_r, vc_i, vc_0]) (fun Γ X => ?_)
  first | refine J_aload_nr X d_TG_weakIn_0 rfl rfl ?_ | refine J_aload_n X d_TG_weakIn_0 rfl rfl ?_ | refine J_aload_n0 X d_TG_weakIn_0 rfl rfl ?_
  refine J_iload_n X d_TG_weakIn_1 rfl rfl ?_
  refine J_callV X (hx) rfl (k_heldIn (r := r) H) cd_TG_heldIn lk_TG_102 vi_TG_heldIn (by decide) (by decide) (by decide) (by decide) rfl (by first | decide | simp [va_rf_cat, vc_r, vc_i, vc_0]) d_TG_weakIn_2 (fun q w1 hq => ?_)
  obtain ⟨rfl, hw1⟩ := hq
  refine J_eq hw1 rfl ?_
  cases hh : held w rg nr r with
  | none =>
    first | refine J_astore_nr X d_TG_weakIn_5 rfl (by decide) rfl ?_ | refine J_astore_n X d_TG_weakIn_5 rfl (by decide) rfl ?_ | refine J_astore_n0 X d_TG_weakIn_5 rfl (by decide) rfl ?_
    first | refine J_aload_nr X d_TG_weakIn_6 rfl rfl ?_ | refine J_aload_n X d_TG_weakIn_6 rfl rfl ?_ | refine J_aload_n0 X d_TG_weakIn_6 rfl rfl ?_
    refine J_inst0 X d_TG_weakIn_7 ?_
    refine J_if_eq (tgt := 22) X d_TG_weakIn_10 (by decide) (fun g => ?_) (fun g => ?_)
    · refine J_null X d_TG_weakIn_22 ?_
      exact J_aret0 X (Or.inl ⟨_, rfl⟩) ⟨rfl, rfl⟩ (by decide) (by decide) d_TG_weakIn_23
    · exact absurd rfl g
  | some t =>
    first | refine J_astore_nr X d_TG_weakIn_5 rfl (by decide) rfl ?_ | refine J_astore_n X d_TG_weakIn_5 rfl (by decide) rfl ?_ | refine J_astore_n0 X d_TG_weakIn_5 rfl (by decide) rfl ?_
    first | refine J_aload_nr X d_TG_weakIn_6 rfl rfl ?_ | refine J_aload_n X d_TG_weakIn_6 rfl rfl ?_ | refine J_aload_n0 X d_TG_weakIn_6 rfl rfl ?_
    have hk : wK w t = some (.inl 3) ∨ wK w t = some (.inl 4) ∨ wK w t = some (.inl 5) := by
      rcases ho t hh with ht | ht
      · obtain ⟨ci, hci, hk⟩ := isTb_to ht
        rcases hci with rfl | rfl
        · exact Or.inl hk
        · exact Or.inr (Or.inl hk)
      · exact Or.inr (Or.inr ht)
    rcases hk with hk | hk | hk
    · refine J_instN X hk in_TG_66_3 d_TG_weakIn_7 ?_
      refine J_if_eq (tgt := 22) X d_TG_weakIn_10 (by decide) (fun g => ?_) (fun g => ?_)
      · refine J_null X d_TG_weakIn_22 ?_
        exact J_aret0 X (Or.inl ⟨_, rfl⟩) ⟨by rw [only, if_neg (by simp [isP, isWk, hk])]; rfl, rfl⟩ (by decide) (by decide) d_TG_weakIn_23
      · exact absurd rfl g
    · refine J_instY X hk iy_TG_66_4 d_TG_weakIn_7 ?_
      refine J_if_eq (tgt := 22) X d_TG_weakIn_10 (by decide) (fun g => ?_) (fun g => ?_)
      · exact absurd g (by decide)
      · first | refine J_aload_nr X d_TG_weakIn_13 rfl rfl ?_ | refine J_aload_n X d_TG_weakIn_13 rfl rfl ?_ | refine J_aload_n0 X d_TG_weakIn_13 rfl rfl ?_
        refine J_cast X hk iy_TG_66_4 d_TG_weakIn_14 ?_
        first | refine J_astore_nr X d_TG_weakIn_17 rfl (by decide) rfl ?_ | refine J_astore_n X d_TG_weakIn_17 rfl (by decide) rfl ?_ | refine J_astore_n0 X d_TG_weakIn_17 rfl (by decide) rfl ?_
        first | refine J_aload_nr X d_TG_weakIn_18 rfl rfl ?_ | refine J_aload_n X d_TG_weakIn_18 rfl rfl ?_ | refine J_aload_n0 X d_TG_weakIn_18 rfl rfl ?_
        refine J_goto (tgt := 23) X d_TG_weakIn_19 (by decide) ?_
        exact J_aretr X (Or.inl ⟨_, rfl⟩) ⟨by rw [only, if_pos (by simp [isP, isWk, hk])]; rfl, rfl⟩ (by decide) (by decide) d_TG_weakIn_23
    · refine J_instN X hk in_TG_66_5 d_TG_weakIn_7 ?_
      refine J_if_eq (tgt := 22) X d_TG_weakIn_10 (by decide) (fun g => ?_) (fun g => ?_)
      · refine J_null X d_TG_weakIn_22 ?_
        exact J_aret0 X (Or.inl ⟨_, rfl⟩) ⟨by rw [only, if_neg (by simp [isP, isWk, hk])]; rfl, rfl⟩ (by decide) (by decide) d_TG_weakIn_23
      · exact absurd rfl g
end HE
