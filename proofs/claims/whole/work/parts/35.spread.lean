/-! the model: spread, tellWeak, hasField, born -/
/-- the least closed set over a set -/
def Least (w : Wd) (fd sz : Nat) (ρ ρ' : Nat → Bool) : Prop := (∀ k, k < 200 → ρ k = true → ρ' k = true) ∧ Clo w fd sz (fun k => ρ' k = true) ∧ ∀ C : Nat → Prop, Clo w fd sz C → (∀ k, k < 200 → ρ k = true → C k) → ∀ k, k < 200 → ρ' k = true → C k
theorem bf_le {c β : Nat} (hc : c < 1000) (hb : β < 1000) : nI c ≤ nI β - 1 ↔ c < β := by
  cases β with
  | zero =>
    constructor
    · intro h
      have : nI c ≤ -1 := h
      exact absurd (Int32.lt_of_le_of_lt this (by decide : (-1 : Int32) < 0)) (nI_pos (by omega))
    · intro h; omega
  | succ n => rw [nI_pred, nI_leI (by omega) (by omega)]; omega
section SP
variable {l : Launch} {Δ : Dat} {w : Wd} {m re th ol sz am fd rc nr ly lo : Nat} {ρ : Nat → Bool} {B : Nat → Prop}
set_option maxRecDepth 100000 in
theorem k_spread (H : MS w m re th ol sz am fd rc nr ly lo) (hB : Bk w fd sz B) (hρ : ∀ k, k < 200 → ρ k = true → B k) : Ct l y_Mo_spread h_Mo_spread (rmL 2 0 0) Δ [.ref m] (rcW w rc ρ) (fun q w' => q = none ∧ ∃ ρ', w' = rcW w rc ρ' ∧ Least w fd sz ρ ρ') := by
  have H' := H
  obtain ⟨hm, -, -, -, -, ⟨h7, ks⟩, -, ⟨h9, kf⟩, ⟨h10, kr⟩, -⟩ := H'
  have hMS : ∀ ρ1, MS (rcW w rc ρ1) m re th ol sz am fd rc nr ly lo := fun ρ1 => MS_aI kr H
  refine Ct_of (L := [some (.ref m), none, none]) (by decide) (by first | exact Nat.le_of_ble_eq_true rfl | simp [lg_sl, va_rf_cat, vc_r, vc_i, vc_0]) (by first | rfl | simp [lin, va_rf_cat, vc_r, vc_i, vc_0]) (fun Γ X => ?_)
  refine J_iconst (v := -1) X d_Mo_spread_0 (by decide) ?_
  refine J_istore_n X d_Mo_spread_1 rfl (by decide) rfl ?_
  have loop : ∀ (f β : Nat) (ρ1 : Nat → Bool), 202 ≤ f + β → β ≤ 202 → (cnt ρ1 200 < β → Clo w fd sz (fun k => ρ1 k = true)) → (∀ k, k < 200 → ρ k = true → ρ1 k = true) → (∀ C : Nat → Prop, Clo w fd sz C → (∀ k, k < 200 → ρ k = true → C k) → ∀ k, k < 200 → ρ1 k = true → C k) →
      J Γ Δ (AE Γ (rcW w rc ρ)) 3 (rcW w rc ρ1) 0 0 (QE Γ Δ (rcW w rc ρ) (fun q w' => q = none ∧ ∃ ρ', w' = rcW w rc ρ' ∧ Least w fd sz ρ ρ') (rmL 2 0 0)) 2 [some (.ref m), some (.int (nI β - 1)), none] [] := by
    intro f
    induction f with
    | zero =>
      intro β ρ1 h1 h2 hcl hup hle
      have hc := cnt_le ρ1 200
      first | refine J_aload_nr X d_Mo_spread_2 rfl rfl ?_ | refine J_aload_n X d_Mo_spread_2 rfl rfl ?_ | refine J_aload_n0 X d_Mo_spread_2 rfl rfl ?_
      refine J_callV X (hm) rfl (k_marked (hMS ρ1)) cd_Mo_marked lk_Mo_62 vi_Mo_marked (by decide) (by decide) (by decide) (by decide) rfl (by first | decide | simp [va_rf_cat, vc_r, vc_i, vc_0]) d_Mo_spread_3 (fun q w1 hq => ?_)
      obtain ⟨rfl, hw1⟩ := hq
      rw [mkd_cnt (Nat.le_refl _)]
      refine J_eq hw1 rfl ?_
      refine J_iload_n X d_Mo_spread_6 rfl rfl ?_
      refine J_icmp_le (tgt := 47) X d_Mo_spread_7 (by decide) (fun g => ?_) (fun g => ?_)
      · exact J_vret X ⟨rfl, ρ1, rfl, hup, hcl (by omega), hle⟩ (by decide) (by decide) d_Mo_spread_47
      · exact absurd ((bf_le (by omega) (by omega)).mpr (by omega)) g
    | succ f ih =>
      intro β ρ1 h1 h2 hcl hup hle
      have hc := cnt_le ρ1 200
      have hsub : ∀ k, k < 200 → ρ1 k = true → B k := hle B (Bk_clo hB) hρ
      first | refine J_aload_nr X d_Mo_spread_2 rfl rfl ?_ | refine J_aload_n X d_Mo_spread_2 rfl rfl ?_ | refine J_aload_n0 X d_Mo_spread_2 rfl rfl ?_
      refine J_callV X (hm) rfl (k_marked (hMS ρ1)) cd_Mo_marked lk_Mo_62 vi_Mo_marked (by decide) (by decide) (by decide) (by decide) rfl (by first | decide | simp [va_rf_cat, vc_r, vc_i, vc_0]) d_Mo_spread_3 (fun q w1 hq => ?_)
      obtain ⟨rfl, hw1⟩ := hq
      rw [mkd_cnt (Nat.le_refl _)]
      refine J_eq hw1 rfl ?_
      refine J_iload_n X d_Mo_spread_6 rfl rfl ?_
      refine J_icmp_le (tgt := 47) X d_Mo_spread_7 (by decide) (fun g => ?_) (fun g => ?_)
      · exact J_vret X ⟨rfl, ρ1, rfl, hup, hcl ((bf_le (by omega) (by omega)).mp g), hle⟩ (by decide) (by decide) d_Mo_spread_47
      · have hge : β ≤ cnt ρ1 200 := Nat.le_of_not_lt (fun q => g ((bf_le (by omega) (by omega)).mpr q))
        first | refine J_aload_nr X d_Mo_spread_10 rfl rfl ?_ | refine J_aload_n X d_Mo_spread_10 rfl rfl ?_ | refine J_aload_n0 X d_Mo_spread_10 rfl rfl ?_
        refine J_callV X (hm) rfl (k_marked (hMS ρ1)) cd_Mo_marked lk_Mo_62 vi_Mo_marked (by decide) (by decide) (by decide) (by decide) rfl (by first | decide | simp [va_rf_cat, vc_r, vc_i, vc_0]) d_Mo_spread_11 (fun q w1 hq => ?_)
        obtain ⟨rfl, hw1⟩ := hq
        rw [mkd_cnt (Nat.le_refl _)]
        refine J_eq hw1 rfl ?_
        refine J_top (v' := .int (nI (cnt ρ1 200 + 1) - 1)) (by rw [nI_pred]) ?_
        refine J_widen (c2 := 0) (s2 := 0) (by decide) (by decide) ?_
        refine J_istore_n X d_Mo_spread_14 rfl (by decide) rfl ?_
        refine J_iconst (v := 0) X d_Mo_spread_15 (by decide) ?_
        refine J_istore_n X d_Mo_spread_16 rfl (by decide) rfl ?_
        have inner : ∀ (k i : Nat), k + i = 200 → J Γ Δ (AE Γ (rcW w rc ρ)) 3 (rcW w rc (pas w fd sz ρ1 i)) 0 0 (QE Γ Δ (rcW w rc ρ) (fun q w' => q = none ∧ ∃ ρ', w' = rcW w rc ρ' ∧ Least w fd sz ρ ρ') (rmL 2 0 0)) 17 [some (.ref m), some (.int (nI (cnt ρ1 200 + 1) - 1)), some (.int (nI i))] [] := by
          intro k
          induction k with
          | zero =>
            intro i hi
            have hi' : i = 200 := by omega
            subst hi'
            refine J_iload_n X d_Mo_spread_17 rfl rfl ?_
            refine J_sipush (v := 200) X d_Mo_spread_18 (by decide) ?_
            refine J_icmp_ge (tgt := 44) X d_Mo_spread_21 (by decide) (fun g => ?_) (fun g => ?_)
            · refine J_goto (tgt := 2) X d_Mo_spread_44 (by decide) ?_
              refine J_forget 2 rfl ?_
              have hmo := cnt_mono (ρ := ρ1) (ρ' := pas w fd sz ρ1 200) (n := 200) (fun k _ h => pas_up h 200)
              refine ih (cnt ρ1 200 + 1) (pas w fd sz ρ1 200) (by omega) (by omega) (fun hlt => ?_) (fun k hk h => pas_up (hup k hk h) 200) (fun C hC hCρ k hk h => pas_sub hC (fun j hj h' => hle C hC hCρ j hj h') 200 (Nat.le_refl _) k hk h)
              have hback := hmo.2 (by omega)
              have hc1 := pas_clo hback
              exact fun p hp hpp q hq hf => pas_up (hc1 p hp (hback p hp hpp) q hq hf) 200
            · exact absurd (by decide) g
          | succ k ihk =>
            intro i hi
            refine J_iload_n X d_Mo_spread_17 rfl rfl ?_
            refine J_sipush (v := 200) X d_Mo_spread_18 (by decide) ?_
            refine J_icmp_ge (tgt := 44) X d_Mo_spread_21 (by decide) (fun g => ?_) (fun g => ?_)
            · exact absurd g (by rw [show (200 : Int32) = nI 200 from rfl]; exact nI_ge (by omega) (by omega))
            · have hat : wI (rcW w rc (pas w fd sz ρ1 i)) rc i = bI (pas w fd sz ρ1 i i) := rcW_at (by omega)
              first | refine J_aload_nr X d_Mo_spread_24 rfl rfl ?_ | refine J_aload_n X d_Mo_spread_24 rfl rfl ?_ | refine J_aload_n0 X d_Mo_spread_24 rfl rfl ?_
              refine J_getR X (hm) fa_Mo_30_6 rfl (h10) d_Mo_spread_25 ?_
              refine J_iload_n X d_Mo_spread_28 rfl rfl ?_
              refine J_zald X (kr) (by decide) rfl rfl (rfl) (by omega) (by decide) (hat) d_Mo_spread_29 ?_
              refine J_if_eq (tgt := 38) X d_Mo_spread_30 (by decide) (fun g1 => ?_) (fun g1 => ?_)
              · refine J_iinc X d_Mo_spread_38 rfl (by decide) (nI_s i) rfl ?_
                refine J_goto (tgt := 17) X d_Mo_spread_41 (by decide) ?_
                have e : pas w fd sz ρ1 (i + 1) = pas w fd sz ρ1 i := by rw [pas, if_neg (by rw [bI_0.mp g1]; decide)]
                rw [← e]
                exact ihk (i + 1) (by omega)
              · have ht : pas w fd sz ρ1 i i = true := by
                  cases hb : pas w fd sz ρ1 i i with
                  | true => rfl
                  | false => rw [hb] at g1; exact absurd rfl g1
                have hBi : B i := pas_sub (Bk_clo hB) hsub i (by omega) i (by omega) ht
                first | refine J_aload_nr X d_Mo_spread_33 rfl rfl ?_ | refine J_aload_n X d_Mo_spread_33 rfl rfl ?_ | refine J_aload_n0 X d_Mo_spread_33 rfl rfl ?_
                refine J_iload_n X d_Mo_spread_34 rfl rfl ?_
                refine J_callV X (hm) rfl (k_markFields (p := i) H (by omega) (hB i (by omega) hBi).1 (Bk_vok hB (by omega) hBi)) cd_Mo_markFields lk_Mo_66 vi_Mo_markFields (by decide) (by decide) (by decide) (by decide) rfl (by first | decide | simp [va_rf_cat, vc_r, vc_i, vc_0]) d_Mo_spread_35 (fun q w1 hq => ?_)
                obtain ⟨rfl, hw1⟩ := hq
                have e : pas w fd sz ρ1 (i + 1) = mks (pas w fd sz ρ1 i) (fldL w fd sz i) := by rw [pas, if_pos ht]
                rw [← e] at hw1
                refine J_eq hw1 rfl ?_
                refine J_iinc X d_Mo_spread_38 rfl (by decide) (nI_s i) rfl ?_
                refine J_goto (tgt := 17) X d_Mo_spread_41 (by decide) ?_
                refine J_widen (c2 := 0) (s2 := 0) (by decide) (by decide) ?_
                exact ihk (i + 1) (by omega)
        exact inner 200 0 rfl
  exact loop 202 0 ρ (by omega) (by omega) (fun h => absurd h (by omega)) (fun k _ h => h) (fun C _ h => h)
set_option maxRecDepth 100000 in
theorem km_hasField {r i : Int32} (H : MS w m re th ol sz am fd rc nr ly lo) (hp : ∀ p, plc w re nr r = nI p → p < 2 ^ 31 → p < 200) : Ct l y_Mo_hasField h_Mo_hasField (rmL 2 0 0) Δ [.ref m, .int r, .int i] w (fun q w' => q = some (.int (if 0 ≤ plc w re nr r ∧ 0 ≤ i ∧ i < wI w sz (plc w re nr r).toNatClampNeg then 1 else 0)) ∧ w' = w) := by
  have H' := H
  obtain ⟨hm, -, -, -, -, ⟨h7, ks⟩, -⟩ := H'
  refine Ct_of (L := [some (.ref m), some (.int r), some (.int i), none]) (by decide) (by first | exact Nat.le_of_ble_eq_true rfl | simp [lg_sl, va_rf_cat, vc_r, vc_i, vc_0]) (by first | rfl | simp [lin, va_rf_cat, vc_r, vc_i, vc_0]) (fun Γ X => ?_)
  first | refine J_aload_nr X d_Mo_hasField_0 rfl rfl ?_ | refine J_aload_n X d_Mo_hasField_0 rfl rfl ?_ | refine J_aload_n0 X d_Mo_hasField_0 rfl rfl ?_
  refine J_iload_n X d_Mo_hasField_1 rfl rfl ?_
  refine J_callV X (hm) rfl (k_placeIn (r := r) H) cd_Mo_placeIn lk_Mo_109 vi_Mo_placeIn (by decide) (by decide) (by decide) (by decide) rfl (by first | decide | simp [va_rf_cat, vc_r, vc_i, vc_0]) d_Mo_hasField_2 (fun q w1 hq => ?_)
  obtain ⟨rfl, hw1⟩ := hq
  refine J_eq hw1 rfl ?_
  refine J_istore_n X d_Mo_hasField_5 rfl (by decide) rfl ?_
  refine J_iload_n X d_Mo_hasField_6 rfl rfl ?_
  refine J_if_lt (tgt := 28) X d_Mo_hasField_7 (by decide) (fun g => ?_) (fun g => ?_)
  · refine J_iconst (v := 0) X d_Mo_hasField_28 (by decide) ?_
    exact J_zret X (Or.inl rfl) ⟨by rw [if_neg (fun q => Int32.not_le.mpr g q.1)], rfl⟩ (by decide) (by decide) d_Mo_hasField_29
  · obtain ⟨p, hp1, e⟩ := nI_of g
    have hp2 := hp p e hp1
    rw [e]
    refine J_iload_n X d_Mo_hasField_10 rfl rfl ?_
    refine J_if_lt (tgt := 28) X d_Mo_hasField_11 (by decide) (fun g2 => ?_) (fun g2 => ?_)
    · refine J_iconst (v := 0) X d_Mo_hasField_28 (by decide) ?_
      exact J_zret X (Or.inl rfl) ⟨by rw [if_neg (fun q => Int32.not_le.mpr g2 q.2.1)], rfl⟩ (by decide) (by decide) d_Mo_hasField_29
    · refine J_iload_n X d_Mo_hasField_14 rfl rfl ?_
      first | refine J_aload_nr X d_Mo_hasField_15 rfl rfl ?_ | refine J_aload_n X d_Mo_hasField_15 rfl rfl ?_ | refine J_aload_n0 X d_Mo_hasField_15 rfl rfl ?_
      refine J_getR X (hm) fa_Mo_20_6 rfl (h7) d_Mo_hasField_16 ?_
      refine J_iload_n X d_Mo_hasField_19 rfl rfl ?_
      refine J_iald X (ks) (by decide) rfl rfl (rfl) (hp2) (by decide) (rfl) d_Mo_hasField_20 ?_
      refine J_icmp_ge (tgt := 28) X d_Mo_hasField_21 (by decide) (fun g3 => ?_) (fun g3 => ?_)
      · refine J_iconst (v := 0) X d_Mo_hasField_28 (by decide) ?_
        exact J_zret X (Or.inl rfl) ⟨by rw [if_neg (fun q => Int32.not_lt.mpr g3 (by have := q.2.2; rwa [nI_clamp hp1] at this))], rfl⟩ (by decide) (by decide) d_Mo_hasField_29
      · refine J_iconst (v := 1) X d_Mo_hasField_24 (by decide) ?_
        refine J_goto (tgt := 29) X d_Mo_hasField_25 (by decide) ?_
        exact J_zret X (Or.inr rfl) ⟨by rw [if_pos ⟨nI_pos' hp1, Int32.not_lt.mp g2, by rw [nI_clamp hp1]; exact Int32.not_le.mp g3⟩], rfl⟩ (by decide) (by decide) d_Mo_hasField_29
end SP
