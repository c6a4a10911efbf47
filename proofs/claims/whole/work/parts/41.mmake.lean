/-! the model: reach, small, great, make, weak -/
def reaF (w : Wd) (sz : Nat) (ρ : Nat → Bool) (p : Nat) : Int32 := if ρ p = true then celI w sz p else 0
section MM
variable {l : Launch} {Δ : Dat} {w : Wd} {m re th ol sz am fd rc nr ly lo : Nat} {B : Nat → Prop} {r v : Int32}
set_option maxRecDepth 100000 in
theorem km_great (H : MP w m re th ol sz am fd rc nr ly lo B) : Ct l y_Mo_great h_Mo_great (rmL 4 0 0) Δ [.ref m] w (fun q w' => ∃ ρ, Least (uI w m 0 0) fd sz (mks (fun _ => false) (regL (uI w m 0 0) re nr)) ρ ∧ q = some (.int (sumTo (freF (uI w m 0 0) th ol sz ρ) 200)) ∧ w' = clW (uI w m 0 0) m th ol am rc ρ) := by
  have hm := H.1.1
  obtain ⟨a1, a2, a3, a4, a5⟩ := MP_u (v := 0) (Or.inl rfl) H
  refine Ct_of (L := [some (.ref m)]) (by decide) (by first | exact Nat.le_of_ble_eq_true rfl | simp [lg_sl, va_rf_cat, vc_r, vc_i, vc_0]) (by first | rfl | simp [lin, va_rf_cat, vc_r, vc_i, vc_0]) (fun Γ X => ?_)
  first | refine J_aload_nr X d_Mo_great_0 rfl rfl ?_ | refine J_aload_n X d_Mo_great_0 rfl rfl ?_ | refine J_aload_n0 X d_Mo_great_0 rfl rfl ?_
  refine J_iconst (v := 0) X d_Mo_great_1 (by decide) ?_
  refine J_putI X (hm) fp_Mo_45_6 rfl d_Mo_great_2 ?_
  first | refine J_aload_nr X d_Mo_great_5 rfl rfl ?_ | refine J_aload_n X d_Mo_great_5 rfl rfl ?_ | refine J_aload_n0 X d_Mo_great_5 rfl rfl ?_
  refine J_callV X (hm) rfl (k_clearOld a1 a2 a3 a4) cd_Mo_clearOld lk_Mo_86 vi_Mo_clearOld (by decide) (by decide) (by decide) (by decide) rfl (by first | decide | simp [va_rf_cat, vc_r, vc_i, vc_0]) d_Mo_great_6 (fun q w1 hq => ?_)
  obtain ⟨ρ, hL, rfl, hw⟩ := hq
  exact J_iret X ⟨ρ, hL, rfl, hw⟩ (by decide) (by decide) d_Mo_great_9
set_option maxRecDepth 100000 in
theorem km_small (H : MP w m re th ol sz am fd rc nr ly lo B) : Ct l y_Mo_small h_Mo_small (rmL 5 0 0) Δ [.ref m] w (fun q w' => ∃ v w1 w2, GrS w w1 m re th ol sz am fd rc nr lo ∧ GrE w1 m re th ol sz am fd rc nr lo (some (.int v)) w2 ∧ q = some (.int (if v < 0 then 0 else v)) ∧ w' = uI w2 m 0 (if v < 0 then 1 else 0)) := by
  obtain ⟨a1, a2, a3, a4, a5⟩ := H
  have hm := a1.1
  refine Ct_of (L := [some (.ref m), none]) (by decide) (by first | exact Nat.le_of_ble_eq_true rfl | simp [lg_sl, va_rf_cat, vc_r, vc_i, vc_0]) (by first | rfl | simp [lin, va_rf_cat, vc_r, vc_i, vc_0]) (fun Γ X => ?_)
  first | refine J_aload_nr X d_Mo_small_0 rfl rfl ?_ | refine J_aload_n X d_Mo_small_0 rfl rfl ?_ | refine J_aload_n0 X d_Mo_small_0 rfl rfl ?_
  refine J_callV X (hm) rfl (k_grow a1 a2 a3 a4 a5) cd_Mo_grow lk_Mo_95 vi_Mo_grow (by decide) (by decide) (by decide) (by decide) rfl (by first | decide | simp [va_rf_cat, vc_r, vc_i, vc_0]) d_Mo_small_1 (fun q w1 hq => ?_)
  obtain ⟨w3, hS, hE⟩ := hq
  have hq : ∃ v, q = some (.int v) := by
    obtain ⟨ρ, -, ⟨-, e, -⟩ | ⟨-, e, -⟩⟩ := hE
    · exact ⟨_, e⟩
    · exact ⟨_, e⟩
  obtain ⟨v, rfl⟩ := hq
  have hm1 : wK w1 m = some (.inl 6) := (GrE_MS (GrS_MS a1 a2 hS).1 hE).1.1
  refine J_istore_n X d_Mo_small_4 rfl (by decide) rfl ?_
  first | refine J_aload_nr X d_Mo_small_5 rfl rfl ?_ | refine J_aload_n X d_Mo_small_5 rfl rfl ?_ | refine J_aload_n0 X d_Mo_small_5 rfl rfl ?_
  refine J_iload_n X d_Mo_small_6 rfl rfl ?_
  refine J_if_lt (tgt := 14) X d_Mo_small_7 (by decide) (fun g => ?_) (fun g => ?_)
  · refine J_iconst (v := 0) X d_Mo_small_14 (by decide) ?_
    refine J_iconst (v := 1) X d_Mo_small_15 (by decide) ?_
    refine J_callV X (hm1) rfl (k_when (z := 0) (n := 1) hm1 (Or.inl rfl)) cd_Mo_when lk_Mo_98 vi_Mo_when (by decide) (by decide) (by decide) (by decide) rfl (by first | decide | simp [va_rf_cat, vc_r, vc_i, vc_0]) d_Mo_small_16 (fun q w2 hq => ?_)
    obtain ⟨rfl, hw2⟩ := hq
    refine J_eq (w' := uI w1 m 0 1) hw2 rfl ?_
    refine J_if_eq (tgt := 26) X d_Mo_small_19 (by decide) (fun g2 => ?_) (fun g2 => ?_)
    · refine J_iconst (v := 0) X d_Mo_small_26 (by decide) ?_
      exact J_iret X ⟨v, w3, w1, hS, hE, by rw [if_pos g], by rw [if_pos g]⟩ (by decide) (by decide) d_Mo_small_27
    · exact absurd rfl g2
  · refine J_iconst (v := 1) X d_Mo_small_10 (by decide) ?_
    refine J_goto (tgt := 15) X d_Mo_small_11 (by decide) ?_
    refine J_iconst (v := 1) X d_Mo_small_15 (by decide) ?_
    refine J_callV X (hm1) rfl (k_when (z := 1) (n := 1) hm1 (Or.inr rfl)) cd_Mo_when lk_Mo_98 vi_Mo_when (by decide) (by decide) (by decide) (by decide) rfl (by first | decide | simp [va_rf_cat, vc_r, vc_i, vc_0]) d_Mo_small_16 (fun q w2 hq => ?_)
    obtain ⟨rfl, hw2⟩ := hq
    refine J_eq (w' := uI w1 m 0 0) hw2 rfl ?_
    refine J_if_eq (tgt := 26) X d_Mo_small_19 (by decide) (fun g2 => ?_) (fun g2 => ?_)
    · exact absurd g2 (by decide)
    · refine J_iload_n X d_Mo_small_22 rfl rfl ?_
      refine J_goto (tgt := 27) X d_Mo_small_23 (by decide) ?_
      exact J_iret X ⟨v, w3, w1, hS, hE, by rw [if_neg g], by rw [if_neg g]⟩ (by decide) (by decide) d_Mo_small_27
set_option maxRecDepth 100000 in
theorem km_reach (H : MP w m re th ol sz am fd rc nr ly lo B) : Ct l y_Mo_reach h_Mo_reach (rmL 3 0 0) Δ [.ref m, .int r] w (fun q w' => (plc w re nr r = -1 ∧ q = some (.int 0) ∧ w' = uI w m 0 0) ∨ (∃ p j ρ, p < 200 ∧ j < nr ∧ r = nI j ∧ plc w re nr r = nI p ∧ wL w re j = RF p ∧ Least (uI w m 0 0) fd sz (mk (fun _ => false) (RF p)) ρ ∧ q = some (.int (sumTo (reaF w sz ρ) 200)) ∧ w' = rcW (uI w m 0 0) rc ρ)) := by
  have hne := MS_ne H.1
  have HP := H
  obtain ⟨a1, a2, a3, a4, a5⟩ := MP_u (v := 0) (Or.inl rfl) H
  obtain ⟨hMS, -, -, hR, -⟩ := H
  have H' := hMS
  obtain ⟨hm, -, ⟨h4, kre⟩, -, -, ⟨h7, ks⟩, -, -, ⟨h10, kr⟩, -, hb, -⟩ := H'
  refine Ct_of (L := [some (.ref m), some (.int r), none, none]) (by decide) (by first | exact Nat.le_of_ble_eq_true rfl | simp [lg_sl, va_rf_cat, vc_r, vc_i, vc_0]) (by first | rfl | simp [lin, va_rf_cat, vc_r, vc_i, vc_0]) (fun Γ X => ?_)
  first | refine J_aload_nr X d_Mo_reach_0 rfl rfl ?_ | refine J_aload_n X d_Mo_reach_0 rfl rfl ?_ | refine J_aload_n0 X d_Mo_reach_0 rfl rfl ?_
  refine J_iconst (v := 0) X d_Mo_reach_1 (by decide) ?_
  refine J_putI X (hm) fp_Mo_45_6 rfl d_Mo_reach_2 ?_
  first | refine J_aload_nr X d_Mo_reach_5 rfl rfl ?_ | refine J_aload_n X d_Mo_reach_5 rfl rfl ?_ | refine J_aload_n0 X d_Mo_reach_5 rfl rfl ?_
  refine J_iload_n X d_Mo_reach_6 rfl rfl ?_
  refine J_callV X (hm) rfl (k_placeIn (r := r) a1) cd_Mo_placeIn lk_Mo_109 vi_Mo_placeIn (by decide) (by decide) (by decide) (by decide) rfl (by first | decide | simp [va_rf_cat, vc_r, vc_i, vc_0]) d_Mo_reach_7 (fun q w1 hq => ?_)
  obtain ⟨rfl, hw1⟩ := hq
  refine J_eq hw1 rfl ?_
  rcases plc_cases (r := r) hR hb.1 (by omega) with e | ⟨p, j, hp, hj, rfl, e, e2, hBp⟩
  · refine J_top (v' := .int (-1)) (by rw [plc_u, e]) ?_
    refine J_if_ge (tgt := 15) X d_Mo_reach_10 (by decide) (fun g => ?_) (fun g => ?_)
    · exact absurd g (by decide)
    · refine J_iconst (v := 0) X d_Mo_reach_13 (by decide) ?_
      exact J_iret X (Or.inl ⟨e, rfl, rfl⟩) (by decide) (by decide) d_Mo_reach_14
  · refine J_top (v' := .int (nI p)) (by rw [plc_u, e]) ?_
    refine J_if_ge (tgt := 15) X d_Mo_reach_10 (by decide) (fun g => ?_) (fun g => ?_)
    · first | refine J_aload_nr X d_Mo_reach_15 rfl rfl ?_ | refine J_aload_n X d_Mo_reach_15 rfl rfl ?_ | refine J_aload_n0 X d_Mo_reach_15 rfl rfl ?_
      refine J_callV X (hm) rfl (k_nothing a1) cd_Mo_nothing lk_Mo_70 vi_Mo_nothing (by decide) (by decide) (by decide) (by decide) rfl (by first | decide | simp [va_rf_cat, vc_r, vc_i, vc_0]) d_Mo_reach_16 (fun q w1 hq => ?_)
      obtain ⟨rfl, hw1⟩ := hq
      refine J_eq hw1 rfl ?_
      have e2' : wL (rcW (uI w m 0 0) rc (fun _ => false)) re j = RF p := e2
      first | refine J_aload_nr X d_Mo_reach_19 rfl rfl ?_ | refine J_aload_n X d_Mo_reach_19 rfl rfl ?_ | refine J_aload_n0 X d_Mo_reach_19 rfl rfl ?_
      first | refine J_aload_nr X d_Mo_reach_20 rfl rfl ?_ | refine J_aload_n X d_Mo_reach_20 rfl rfl ?_ | refine J_aload_n0 X d_Mo_reach_20 rfl rfl ?_
      refine J_getR X (hm) fa_Mo_7_6 rfl (h4) d_Mo_reach_21 ?_
      refine J_iload_n X d_Mo_reach_24 rfl rfl ?_
      refine J_lald X (kre) (by decide) rfl rfl (rfl) (by omega) (by decide) (e2') d_Mo_reach_25 ?_
      refine J_callV X (hm) rfl (k_mark (w := uI w m 0 0) (ρ := fun _ => false) (v := RF p) a1 (Or.inr ⟨p, hp, rfl⟩)) cd_Mo_mark lk_Mo_58 vi_Mo_mark (by decide) (by decide) (by decide) (by decide) rfl (by first | decide | simp [va_rf_cat, vc_r, vc_i, vc_0]) d_Mo_reach_26 (fun q w1 hq => ?_)
      obtain ⟨rfl, hw1⟩ := hq
      refine J_eq hw1 rfl ?_
      first | refine J_aload_nr X d_Mo_reach_29 rfl rfl ?_ | refine J_aload_n X d_Mo_reach_29 rfl rfl ?_ | refine J_aload_n0 X d_Mo_reach_29 rfl rfl ?_
      have hsd : ∀ k, k < 200 → mk (fun _ => false) (RF p) k = true → B k := fun k hk h => by
        simp only [mk, Bool.false_or, decide_eq_true_eq] at h
        rw [← (RF_inj hp hk).mp h]
        exact hBp
      refine J_callV X (hm) rfl (k_spread (w := uI w m 0 0) (ρ := mk (fun _ => false) (RF p)) a1 a3 hsd) cd_Mo_spread lk_Mo_76 vi_Mo_spread (by decide) (by decide) (by decide) (by decide) rfl (by first | decide | simp [va_rf_cat, vc_r, vc_i, vc_0]) d_Mo_reach_30 (fun q w1 hq => ?_)
      obtain ⟨rfl, ρ, hw1, hL⟩ := hq
      refine J_eq hw1 rfl ?_
      refine J_iconst (v := 0) X d_Mo_reach_33 (by decide) ?_
      refine J_istore_n X d_Mo_reach_34 rfl (by decide) rfl ?_
      refine J_iconst (v := 0) X d_Mo_reach_35 (by decide) ?_
      refine J_istore_n X d_Mo_reach_36 rfl (by decide) rfl ?_
      refine J_widen (c2 := 0) (s2 := 0) (by decide) (by decide) ?_
      have loop : ∀ (k i : Nat), k + i = 200 → J Γ Δ (AE Γ w) 4 (rcW (uI w m 0 0) rc ρ) 0 0 (QE Γ Δ w (fun q w' => (plc w re nr (nI j) = -1 ∧ q = some (.int 0) ∧ w' = uI w m 0 0) ∨ (∃ p j' ρ, p < 200 ∧ j' < nr ∧ nI j = nI j' ∧ plc w re nr (nI j) = nI p ∧ wL w re j' = RF p ∧ Least (uI w m 0 0) fd sz (mk (fun _ => false) (RF p)) ρ ∧ q = some (.int (sumTo (reaF w sz ρ) 200)) ∧ w' = rcW (uI w m 0 0) rc ρ)) (rmL 3 0 0)) 37 [some (.ref m), some (.int (nI j)), some (.int (sumTo (reaF w sz ρ) i)), some (.int (nI i))] [] := by
        intro k
        induction k with
        | zero =>
          intro i hi
          have hi' : i = 200 := by omega
          subst hi'
          refine J_iload_n X d_Mo_reach_37 rfl rfl ?_
          refine J_sipush (v := 200) X d_Mo_reach_38 (by decide) ?_
          refine J_icmp_ge (tgt := 71) X d_Mo_reach_41 (by decide) (fun g => ?_) (fun g => ?_)
          · refine J_iload_n X d_Mo_reach_71 rfl rfl ?_
            exact J_iret X (Or.inr ⟨p, j, ρ, hp, hj, rfl, e, e2, hL, rfl, rfl⟩) (by decide) (by decide) d_Mo_reach_72
          · exact absurd (by decide) g
        | succ k ih =>
          intro i hi
          have b3 : wI (rcW (uI w m 0 0) rc ρ) rc i = bI (ρ i) := rcW_at (by omega)
          refine J_iload_n X d_Mo_reach_37 rfl rfl ?_
          refine J_sipush (v := 200) X d_Mo_reach_38 (by decide) ?_
          refine J_icmp_ge (tgt := 71) X d_Mo_reach_41 (by decide) (fun g => ?_) (fun g => ?_)
          · exact absurd g (by rw [show (200 : Int32) = nI 200 from rfl]; exact nI_ge (by omega) (by omega))
          · have step : ∀ {v : Int32} {c0 s0 : Nat}, c0 ≤ 0 → s0 ≤ 0 → v = reaF w sz ρ i → J Γ Δ (AE Γ w) 4 (rcW (uI w m 0 0) rc ρ) c0 s0 (QE Γ Δ w (fun q w' => (plc w re nr (nI j) = -1 ∧ q = some (.int 0) ∧ w' = uI w m 0 0) ∨ (∃ p j' ρ, p < 200 ∧ j' < nr ∧ nI j = nI j' ∧ plc w re nr (nI j) = nI p ∧ wL w re j' = RF p ∧ Least (uI w m 0 0) fd sz (mk (fun _ => false) (RF p)) ρ ∧ q = some (.int (sumTo (reaF w sz ρ) 200)) ∧ w' = rcW (uI w m 0 0) rc ρ)) (rmL 3 0 0)) 63 [some (.ref m), some (.int (nI j)), some (.int (sumTo (reaF w sz ρ) i)), some (.int (nI i))] [.int v, .int (sumTo (reaF w sz ρ) i)] := fun hc hs hv => by
              refine J_widen (c2 := 0) (s2 := 0) hc hs ?_
              refine J_iadd X d_Mo_reach_63 ?_
              refine J_istore_n X d_Mo_reach_64 rfl (by decide) rfl ?_
              refine J_iinc X d_Mo_reach_65 rfl (by decide) (nI_s i) rfl ?_
              refine J_goto (tgt := 37) X d_Mo_reach_68 (by decide) ?_
              subst hv
              exact ih (i + 1) (by omega)
            refine J_iload_n X d_Mo_reach_44 rfl rfl ?_
            first | refine J_aload_nr X d_Mo_reach_45 rfl rfl ?_ | refine J_aload_n X d_Mo_reach_45 rfl rfl ?_ | refine J_aload_n0 X d_Mo_reach_45 rfl rfl ?_
            refine J_getR X (hm) fa_Mo_30_6 rfl (h10) d_Mo_reach_46 ?_
            refine J_iload_n X d_Mo_reach_49 rfl rfl ?_
            refine J_zald X (kr) (by decide) rfl rfl (rfl) (by omega) (by decide) (b3) d_Mo_reach_50 ?_
            refine J_if_eq (tgt := 62) X d_Mo_reach_51 (by decide) (fun g1 => ?_) (fun g1 => ?_)
            · refine J_iconst (v := 0) X d_Mo_reach_62 (by decide) ?_
              exact step (by decide) (by decide) (by rw [reaF, if_neg (by rw [bI_0.mp g1]; decide)])
            · have ht : ρ i = true := by
                cases hb : ρ i with
                | true => rfl
                | false => rw [hb] at g1; exact absurd rfl g1
              first | refine J_aload_nr X d_Mo_reach_54 rfl rfl ?_ | refine J_aload_n X d_Mo_reach_54 rfl rfl ?_ | refine J_aload_n0 X d_Mo_reach_54 rfl rfl ?_
              refine J_iload_n X d_Mo_reach_55 rfl rfl ?_
              refine J_callV X (hm) rfl (k_cellsOf (p := i) hm h7 ks (by omega)) cd_Mo_cellsOf lk_Mo_54 vi_Mo_cellsOf (by decide) (by decide) (by decide) (by decide) rfl (by first | decide | simp [va_rf_cat, vc_r, vc_i, vc_0]) d_Mo_reach_56 (fun q w4 hq => ?_)
              obtain ⟨rfl, hw4⟩ := hq
              refine J_eq hw4 rfl ?_
              have hcel : celI (rcW (uI w m 0 0) rc ρ) sz i = celI w sz i := by
                rw [celI, celI, rcW_no (Ne.symm hne.1.2.2.2.2.1), wI_uI, if_neg (fun q : sz = m ∧ i = 0 => hne.2.1.2.2.1 q.1.symm)]
              rw [hcel]
              refine J_goto (tgt := 63) X d_Mo_reach_59 (by decide) ?_
              exact step (by decide) (by decide) (by rw [reaF, if_pos ht])
      exact loop 200 0 rfl
    · exact absurd (nI_pos' (by omega)) g
/-- the call is refused, or there is no room, or a thing is born at p -/
def MakE (w : Wd) (m re th ol sz am fd rc nr ly lo : Nat) (cond : Prop) (c n tg : Int32) (r : Int32) (w' : Wd) : Prop :=
  (¬ cond ∧ w' = uI w m 0 1) ∨ (cond ∧ ∃ z w2, RoE (uI w m 0 0) m re th ol sz am fd rc nr ly lo c z w2 ∧ ((z = 0 ∧ w' = uI w2 m 0 2) ∨ (z = 1 ∧ ∃ i p, i < nr ∧ r = nI i ∧ p < 200 ∧ wI w2 th p = 0 ∧ w' = boW (uI w2 m 0 0) re th ol sz am fd p i n tg)))
set_option maxRecDepth 100000 in
theorem km_make (H : MP w m re th ol sz am fd rc nr ly lo B) (hfr : ∀ w2, RoE (uI w m 0 0) m re th ol sz am fd rc nr ly lo (v + 1) 1 w2 → ∃ p, p < 200 ∧ wI w2 th p = 0) : Ct l y_Mo_make h_Mo_make (rmL 6 0 0) Δ [.ref m, .int r, .int v] w (fun q w' => q = none ∧ MakE w m re th ol sz am fd rc nr ly lo (regB nr r ∧ 0 ≤ v ∧ v ≤ 11 ∧ v < nI ly) (v + 1) v (-1) r w') := by
  obtain ⟨a1, a2, a3, a4, a5⟩ := MP_u (v := 0) (Or.inl rfl) H
  have hne := MS_ne H.1
  have hMS := H.1
  have H' := hMS
  obtain ⟨hm, ⟨-, hly, -⟩, -, -, -, -, -, -, -, -, hb, -⟩ := H'
  refine Ct_of (L := [some (.ref m), some (.int r), some (.int v)]) (by decide) (by first | exact Nat.le_of_ble_eq_true rfl | simp [lg_sl, va_rf_cat, vc_r, vc_i, vc_0]) (by first | rfl | simp [lin, va_rf_cat, vc_r, vc_i, vc_0]) (fun Γ X => ?_)
  have no : ∀ {c0 s0 : Nat}, c0 ≤ 0 → s0 ≤ 0 → ¬ (regB nr r ∧ 0 ≤ v ∧ v ≤ 11 ∧ v < nI ly) → J Γ Δ (AE Γ w) 3 w c0 s0 (QE Γ Δ w (fun q w' => q = none ∧ MakE w m re th ol sz am fd rc nr ly lo (regB nr r ∧ 0 ≤ v ∧ v ≤ 11 ∧ v < nI ly) (v + 1) v (-1) r w') (rmL 6 0 0)) 31 [some (.ref m), some (.int r), some (.int v)] [.ref m] := fun hc hs h => by
    refine J_widen (c2 := 0) (s2 := 0) hc hs ?_
    refine J_iconst (v := 0) X d_Mo_make_31 (by decide) ?_
    refine J_iconst (v := 1) X d_Mo_make_32 (by decide) ?_
    refine J_callV X (hm) rfl (k_when (z := 0) (n := 1) hm (Or.inl rfl)) cd_Mo_when lk_Mo_98 vi_Mo_when (by decide) (by decide) (by decide) (by decide) rfl (by first | decide | simp [va_rf_cat, vc_r, vc_i, vc_0]) d_Mo_make_33 (fun q w1 hq => ?_)
    obtain ⟨rfl, hw1⟩ := hq
    refine J_eq (w' := uI w m 0 1) hw1 rfl ?_
    refine J_if_eq (tgt := 54) X d_Mo_make_36 (by decide) (fun g => ?_) (fun g => ?_)
    · exact J_vret X ⟨rfl, Or.inl ⟨h, rfl⟩⟩ (by decide) (by decide) d_Mo_make_54
    · exact absurd rfl g
  first | refine J_aload_nr X d_Mo_make_0 rfl rfl ?_ | refine J_aload_n X d_Mo_make_0 rfl rfl ?_ | refine J_aload_n0 X d_Mo_make_0 rfl rfl ?_
  first | refine J_aload_nr X d_Mo_make_1 rfl rfl ?_ | refine J_aload_n X d_Mo_make_1 rfl rfl ?_ | refine J_aload_n0 X d_Mo_make_1 rfl rfl ?_
  refine J_iload_n X d_Mo_make_2 rfl rfl ?_
  refine J_callV X (hm) rfl (k_is (r := r) hMS) cd_Mo_is lk_Mo_48 vi_Mo_is (by decide) (by decide) (by decide) (by decide) rfl (by first | decide | simp [va_rf_cat, vc_r, vc_i, vc_0]) d_Mo_make_3 (fun q w1 hq => ?_)
  obtain ⟨rfl, hw1⟩ := hq
  refine J_eq hw1 rfl ?_
  by_cases h : regB nr r
  · refine J_top (v' := .int 1) (by rw [if_pos h]) ?_
    refine J_if_eq (tgt := 31) X d_Mo_make_6 (by decide) (fun g => ?_) (fun g => ?_)
    · exact absurd g (by decide)
    · refine J_iload_n X d_Mo_make_9 rfl rfl ?_
      refine J_if_lt (tgt := 31) X d_Mo_make_10 (by decide) (fun g1 => ?_) (fun g1 => ?_)
      · exact no (by decide) (by decide) (fun q => Int32.not_le.mpr g1 q.2.1)
      · refine J_iload_n X d_Mo_make_13 rfl rfl ?_
        refine J_bipush (v := 11) X d_Mo_make_14 (by decide) ?_
        refine J_icmp_gt (tgt := 31) X d_Mo_make_16 (by decide) (fun g2 => ?_) (fun g2 => ?_)
        · exact no (by decide) (by decide) (fun q => Int32.not_le.mpr g2 q.2.2.1)
        · refine J_iload_n X d_Mo_make_19 rfl rfl ?_
          first | refine J_aload_nr X d_Mo_make_20 rfl rfl ?_ | refine J_aload_n X d_Mo_make_20 rfl rfl ?_ | refine J_aload_n0 X d_Mo_make_20 rfl rfl ?_
          refine J_getI X (hm) fa_Mo_37_6 rfl (hly) d_Mo_make_21 ?_
          refine J_icmp_ge (tgt := 31) X d_Mo_make_24 (by decide) (fun g3 => ?_) (fun g3 => ?_)
          · exact no (by decide) (by decide) (fun q => Int32.not_lt.mpr g3 q.2.2.2)
          · have hc : regB nr r ∧ 0 ≤ v ∧ v ≤ 11 ∧ v < nI ly := ⟨h, Int32.not_lt.mp g1, Int32.not_lt.mp g2, Int32.not_le.mp g3⟩
            refine J_iconst (v := 1) X d_Mo_make_27 (by decide) ?_
            refine J_goto (tgt := 32) X d_Mo_make_28 (by decide) ?_
            refine J_iconst (v := 1) X d_Mo_make_32 (by decide) ?_
            refine J_callV X (hm) rfl (k_when (z := 1) (n := 1) hm (Or.inr rfl)) cd_Mo_when lk_Mo_98 vi_Mo_when (by decide) (by decide) (by decide) (by decide) rfl (by first | decide | simp [va_rf_cat, vc_r, vc_i, vc_0]) d_Mo_make_33 (fun q w1 hq => ?_)
            obtain ⟨rfl, hw1⟩ := hq
            refine J_eq (w' := uI w m 0 0) hw1 rfl ?_
            refine J_if_eq (tgt := 54) X d_Mo_make_36 (by decide) (fun g => ?_) (fun g => ?_)
            · exact absurd g (by decide)
            · first | refine J_aload_nr X d_Mo_make_39 rfl rfl ?_ | refine J_aload_n X d_Mo_make_39 rfl rfl ?_ | refine J_aload_n0 X d_Mo_make_39 rfl rfl ?_
              first | refine J_aload_nr X d_Mo_make_40 rfl rfl ?_ | refine J_aload_n X d_Mo_make_40 rfl rfl ?_ | refine J_aload_n0 X d_Mo_make_40 rfl rfl ?_
              refine J_iload_n X d_Mo_make_41 rfl rfl ?_
              refine J_iconst (v := 1) X d_Mo_make_42 (by decide) ?_
              refine J_iadd X d_Mo_make_43 ?_
              refine J_callV X (hm) rfl (k_room (c := v + 1) a1 a2 a3 a4 a5) cd_Mo_room lk_Mo_102 vi_Mo_room (by decide) (by decide) (by decide) (by decide) rfl (by first | decide | simp [va_rf_cat, vc_r, vc_i, vc_0]) d_Mo_make_44 (fun q w2 hq => ?_)
              obtain ⟨z, rfl, hRo⟩ := hq
              obtain ⟨b1, b2, b3⟩ := RoE_MS a1 a2 hRo
              have hm2 := b1.1
              refine J_iconst (v := 2) X d_Mo_make_47 (by decide) ?_
              rcases b3 with rfl | rfl
              · refine J_callV X (hm2) rfl (k_when (z := 0) (n := 2) hm2 (Or.inl rfl)) cd_Mo_when lk_Mo_98 vi_Mo_when (by decide) (by decide) (by decide) (by decide) rfl (by first | decide | simp [va_rf_cat, vc_r, vc_i, vc_0]) d_Mo_make_48 (fun q w3 hq => ?_)
                obtain ⟨rfl, hw3⟩ := hq
                refine J_eq (w' := uI w2 m 0 2) hw3 rfl ?_
                refine J_if_ne (tgt := 55) X d_Mo_make_51 (by decide) (fun g => ?_) (fun g => ?_)
                · exact absurd rfl g
                · exact J_vret X ⟨rfl, Or.inr ⟨hc, 0, w2, hRo, Or.inl ⟨rfl, rfl⟩⟩⟩ (by decide) (by decide) d_Mo_make_54
              · refine J_callV X (hm2) rfl (k_when (z := 1) (n := 2) hm2 (Or.inr rfl)) cd_Mo_when lk_Mo_98 vi_Mo_when (by decide) (by decide) (by decide) (by decide) rfl (by first | decide | simp [va_rf_cat, vc_r, vc_i, vc_0]) d_Mo_make_48 (fun q w3 hq => ?_)
                obtain ⟨rfl, hw3⟩ := hq
                refine J_eq (w' := uI w2 m 0 0) hw3 rfl ?_
                have rd : ∀ p, wI (uI w2 m 0 0) th p = wI w2 th p := fun p => by rw [wI_uI, if_neg (fun q => hne.2.1.1 q.1.symm)]
                refine J_if_ne (tgt := 55) X d_Mo_make_51 (by decide) (fun g => ?_) (fun g => ?_)
                · obtain ⟨i, hi, rfl⟩ := regB_at hb.1 (by omega) h
                  obtain ⟨p0, hp0, hz0⟩ := hfr w2 hRo
                  first | refine J_aload_nr X d_Mo_make_55 rfl rfl ?_ | refine J_aload_n X d_Mo_make_55 rfl rfl ?_ | refine J_aload_n0 X d_Mo_make_55 rfl rfl ?_
                  refine J_iload_n X d_Mo_make_56 rfl rfl ?_
                  refine J_iload_n X d_Mo_make_57 rfl rfl ?_
                  refine J_iconst (v := -1) X d_Mo_make_58 (by decide) ?_
                  refine J_callV X (hm2) rfl (k_born (i := i) (n := v) (tg := -1) (MS_uI (v := 0) (Or.inl rfl) b1) (by omega) ⟨p0, hp0, (rd p0).trans hz0⟩) cd_Mo_born lk_Mo_105 vi_Mo_born (by decide) (by decide) (by decide) (by decide) rfl (by first | decide | simp [va_rf_cat, vc_r, vc_i, vc_0]) d_Mo_make_59 (fun q w4 hq => ?_)
                  obtain ⟨rfl, p, hp, hz, hw4⟩ := hq
                  exact J_vret X ⟨rfl, Or.inr ⟨hc, 1, w2, hRo, Or.inr ⟨rfl, i, p, hi, rfl, hp, (rd p).symm.trans hz, hw4⟩⟩⟩ (by decide) (by decide) d_Mo_make_62
                · exact absurd g (by decide)
  · refine J_top (v' := .int 0) (by rw [if_neg h]) ?_
    refine J_if_eq (tgt := 31) X d_Mo_make_6 (by decide) (fun g => ?_) (fun g => ?_)
    · exact no (by decide) (by decide) (fun q => h q.1)
    · exact absurd rfl g
set_option maxRecDepth 100000 in
theorem km_weak (H : MP w m re th ol sz am fd rc nr ly lo B) (hfr : ∀ w2, RoE (uI w m 0 0) m re th ol sz am fd rc nr ly lo 2 1 w2 → ∃ p, p < 200 ∧ wI w2 th p = 0) : Ct l y_Mo_weak h_Mo_weak (rmL 6 0 0) Δ [.ref m, .int r, .int v] w (fun q w' => q = none ∧ MakE w m re th ol sz am fd rc nr ly lo (regB nr r ∧ 0 ≤ plc w re nr v) 2 (-1) (plc w re nr v) r w') := by
  obtain ⟨a1, a2, a3, a4, a5⟩ := MP_u (v := 0) (Or.inl rfl) H
  have hne := MS_ne H.1
  have hMS := H.1
  have H' := hMS
  obtain ⟨hm, -, -, -, -, -, -, -, -, -, hb, -⟩ := H'
  refine Ct_of (L := [some (.ref m), some (.int r), some (.int v)]) (by decide) (by first | exact Nat.le_of_ble_eq_true rfl | simp [lg_sl, va_rf_cat, vc_r, vc_i, vc_0]) (by first | rfl | simp [lin, va_rf_cat, vc_r, vc_i, vc_0]) (fun Γ X => ?_)
  have no : ∀ {c0 s0 : Nat}, c0 ≤ 0 → s0 ≤ 0 → ¬ (regB nr r ∧ 0 ≤ plc w re nr v) → J Γ Δ (AE Γ w) 3 w c0 s0 (QE Γ Δ w (fun q w' => q = none ∧ MakE w m re th ol sz am fd rc nr ly lo (regB nr r ∧ 0 ≤ plc w re nr v) 2 (-1) (plc w re nr v) r w') (rmL 6 0 0)) 21 [some (.ref m), some (.int r), some (.int v)] [.ref m] := fun hc hs h => by
    refine J_widen (c2 := 0) (s2 := 0) hc hs ?_
    refine J_iconst (v := 0) X d_Mo_weak_21 (by decide) ?_
    refine J_iconst (v := 1) X d_Mo_weak_22 (by decide) ?_
    refine J_callV X (hm) rfl (k_when (z := 0) (n := 1) hm (Or.inl rfl)) cd_Mo_when lk_Mo_98 vi_Mo_when (by decide) (by decide) (by decide) (by decide) rfl (by first | decide | simp [va_rf_cat, vc_r, vc_i, vc_0]) d_Mo_weak_23 (fun q w1 hq => ?_)
    obtain ⟨rfl, hw1⟩ := hq
    refine J_eq (w' := uI w m 0 1) hw1 rfl ?_
    refine J_if_eq (tgt := 42) X d_Mo_weak_26 (by decide) (fun g => ?_) (fun g => ?_)
    · exact J_vret X ⟨rfl, Or.inl ⟨h, rfl⟩⟩ (by decide) (by decide) d_Mo_weak_42
    · exact absurd rfl g
  first | refine J_aload_nr X d_Mo_weak_0 rfl rfl ?_ | refine J_aload_n X d_Mo_weak_0 rfl rfl ?_ | refine J_aload_n0 X d_Mo_weak_0 rfl rfl ?_
  first | refine J_aload_nr X d_Mo_weak_1 rfl rfl ?_ | refine J_aload_n X d_Mo_weak_1 rfl rfl ?_ | refine J_aload_n0 X d_Mo_weak_1 rfl rfl ?_
  refine J_iload_n X d_Mo_weak_2 rfl rfl ?_
  refine J_callV X (hm) rfl (k_is (r := r) hMS) cd_Mo_is lk_Mo_48 vi_Mo_is (by decide) (by decide) (by decide) (by decide) rfl (by first | decide | simp [va_rf_cat, vc_r, vc_i, vc_0]) d_Mo_weak_3 (fun q w1 hq => ?_)
  obtain ⟨rfl, hw1⟩ := hq
  refine J_eq hw1 rfl ?_
  by_cases h : regB nr r
  · refine J_top (v' := .int 1) (by rw [if_pos h]) ?_
    refine J_if_eq (tgt := 21) X d_Mo_weak_6 (by decide) (fun g => ?_) (fun g => ?_)
    · exact absurd g (by decide)
    · first | refine J_aload_nr X d_Mo_weak_9 rfl rfl ?_ | refine J_aload_n X d_Mo_weak_9 rfl rfl ?_ | refine J_aload_n0 X d_Mo_weak_9 rfl rfl ?_
      refine J_iload_n X d_Mo_weak_10 rfl rfl ?_
      refine J_callV X (hm) rfl (k_placeIn (r := v) hMS) cd_Mo_placeIn lk_Mo_109 vi_Mo_placeIn (by decide) (by decide) (by decide) (by decide) rfl (by first | decide | simp [va_rf_cat, vc_r, vc_i, vc_0]) d_Mo_weak_11 (fun q w1 hq => ?_)
      obtain ⟨rfl, hw1⟩ := hq
      refine J_eq hw1 rfl ?_
      refine J_if_lt (tgt := 21) X d_Mo_weak_14 (by decide) (fun g1 => ?_) (fun g1 => ?_)
      · exact no (by decide) (by decide) (fun q => Int32.not_le.mpr g1 q.2)
      · have hc : regB nr r ∧ 0 ≤ plc w re nr v := ⟨h, Int32.not_lt.mp g1⟩
        refine J_iconst (v := 1) X d_Mo_weak_17 (by decide) ?_
        refine J_goto (tgt := 22) X d_Mo_weak_18 (by decide) ?_
        refine J_iconst (v := 1) X d_Mo_weak_22 (by decide) ?_
        refine J_callV X (hm) rfl (k_when (z := 1) (n := 1) hm (Or.inr rfl)) cd_Mo_when lk_Mo_98 vi_Mo_when (by decide) (by decide) (by decide) (by decide) rfl (by first | decide | simp [va_rf_cat, vc_r, vc_i, vc_0]) d_Mo_weak_23 (fun q w1 hq => ?_)
        obtain ⟨rfl, hw1⟩ := hq
        refine J_eq (w' := uI w m 0 0) hw1 rfl ?_
        refine J_if_eq (tgt := 42) X d_Mo_weak_26 (by decide) (fun g => ?_) (fun g => ?_)
        · exact absurd g (by decide)
        · first | refine J_aload_nr X d_Mo_weak_29 rfl rfl ?_ | refine J_aload_n X d_Mo_weak_29 rfl rfl ?_ | refine J_aload_n0 X d_Mo_weak_29 rfl rfl ?_
          first | refine J_aload_nr X d_Mo_weak_30 rfl rfl ?_ | refine J_aload_n X d_Mo_weak_30 rfl rfl ?_ | refine J_aload_n0 X d_Mo_weak_30 rfl rfl ?_
          refine J_iconst (v := 2) X d_Mo_weak_31 (by decide) ?_
          refine J_callV X (hm) rfl (k_room (c := 2) a1 a2 a3 a4 a5) cd_Mo_room lk_Mo_102 vi_Mo_room (by decide) (by decide) (by decide) (by decide) rfl (by first | decide | simp [va_rf_cat, vc_r, vc_i, vc_0]) d_Mo_weak_32 (fun q w2 hq => ?_)
          obtain ⟨z, rfl, hRo⟩ := hq
          obtain ⟨b1, b2, b3⟩ := RoE_MS a1 a2 hRo
          have hm2 := b1.1
          refine J_iconst (v := 2) X d_Mo_weak_35 (by decide) ?_
          rcases b3 with rfl | rfl
          · refine J_callV X (hm2) rfl (k_when (z := 0) (n := 2) hm2 (Or.inl rfl)) cd_Mo_when lk_Mo_98 vi_Mo_when (by decide) (by decide) (by decide) (by decide) rfl (by first | decide | simp [va_rf_cat, vc_r, vc_i, vc_0]) d_Mo_weak_36 (fun q w3 hq => ?_)
            obtain ⟨rfl, hw3⟩ := hq
            refine J_eq (w' := uI w2 m 0 2) hw3 rfl ?_
            refine J_if_ne (tgt := 43) X d_Mo_weak_39 (by decide) (fun g => ?_) (fun g => ?_)
            · exact absurd rfl g
            · exact J_vret X ⟨rfl, Or.inr ⟨hc, 0, w2, hRo, Or.inl ⟨rfl, rfl⟩⟩⟩ (by decide) (by decide) d_Mo_weak_42
          · refine J_callV X (hm2) rfl (k_when (z := 1) (n := 2) hm2 (Or.inr rfl)) cd_Mo_when lk_Mo_98 vi_Mo_when (by decide) (by decide) (by decide) (by decide) rfl (by first | decide | simp [va_rf_cat, vc_r, vc_i, vc_0]) d_Mo_weak_36 (fun q w3 hq => ?_)
            obtain ⟨rfl, hw3⟩ := hq
            refine J_eq (w' := uI w2 m 0 0) hw3 rfl ?_
            have rd : ∀ p, wI (uI w2 m 0 0) th p = wI w2 th p := fun p => by rw [wI_uI, if_neg (fun q => hne.2.1.1 q.1.symm)]
            have b1' : MS (uI w2 m 0 0) m re th ol sz am fd rc nr ly lo := MS_uI (Or.inl rfl) b1
            refine J_if_ne (tgt := 43) X d_Mo_weak_39 (by decide) (fun g => ?_) (fun g => ?_)
            · obtain ⟨i, hi, rfl⟩ := regB_at hb.1 (by omega) h
              obtain ⟨p0, hp0, hz0⟩ := hfr w2 hRo
              first | refine J_aload_nr X d_Mo_weak_43 rfl rfl ?_ | refine J_aload_n X d_Mo_weak_43 rfl rfl ?_ | refine J_aload_n0 X d_Mo_weak_43 rfl rfl ?_
              refine J_iload_n X d_Mo_weak_44 rfl rfl ?_
              refine J_iconst (v := -1) X d_Mo_weak_45 (by decide) ?_
              first | refine J_aload_nr X d_Mo_weak_46 rfl rfl ?_ | refine J_aload_n X d_Mo_weak_46 rfl rfl ?_ | refine J_aload_n0 X d_Mo_weak_46 rfl rfl ?_
              refine J_iload_n X d_Mo_weak_47 rfl rfl ?_
              refine J_callV X (hm2) rfl (k_placeIn (r := v) b1') cd_Mo_placeIn lk_Mo_109 vi_Mo_placeIn (by decide) (by decide) (by decide) (by decide) rfl (by first | decide | simp [va_rf_cat, vc_r, vc_i, vc_0]) d_Mo_weak_48 (fun q w4 hq => ?_)
              obtain ⟨rfl, hw4⟩ := hq
              refine J_eq hw4 rfl ?_
              refine J_top (v' := .int (plc w re nr v)) (by rw [plc_u, plc_congr (w := uI w m 0 0) b2, plc_u]) ?_
              refine J_callV X (hm2) rfl (k_born (i := i) (n := -1) (tg := plc w re nr v) b1' (by omega) ⟨p0, hp0, (rd p0).trans hz0⟩) cd_Mo_born lk_Mo_105 vi_Mo_born (by decide) (by decide) (by decide) (by decide) rfl (by first | decide | simp [va_rf_cat, vc_r, vc_i, vc_0]) d_Mo_weak_51 (fun q w5 hq => ?_)
              obtain ⟨rfl, p, hp, hz, hw5⟩ := hq
              exact J_vret X ⟨rfl, Or.inr ⟨hc, 1, w2, hRo, Or.inr ⟨rfl, i, p, hi, rfl, hp, (rd p).symm.trans hz, hw5⟩⟩⟩ (by decide) (by decide) d_Mo_weak_54
            · exact absurd g (by decide)
  · refine J_top (v' := .int 0) (by rw [if_neg h]) ?_
    refine J_if_eq (tgt := 21) X d_Mo_weak_6 (by decide) (fun g => ?_) (fun g => ?_)
    · exact no (by decide) (by decide) (fun q => h q.1)
    · exact absurd rfl g
end MM
