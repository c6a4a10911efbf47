/-! the model: born, make, weak, small, great -/
def aL (w : Wd) (a s n : Nat) (v : Int64) : Wd := (w.1, w.2.1, w.2.2.1, fun b k => if b = a ∧ s ≤ k ∧ k < s + n then v else w.2.2.2 b k)
theorem aL_L (w : Wd) (a s n : Nat) (v : Int64) (b k : Nat) : wL (aL w a s n v) b k = if b = a ∧ s ≤ k ∧ k < s + n then v else wL w b k := rfl
theorem aL_zero (w : Wd) (a s : Nat) (v : Int64) : aL w a s 0 v = w := by
  refine Prod.ext rfl (Prod.ext rfl (Prod.ext rfl ?_))
  funext b k
  show (if b = a ∧ s ≤ k ∧ k < s + 0 then v else w.2.2.2 b k) = w.2.2.2 b k
  rw [if_neg (fun q => by omega)]
theorem aL_step (w : Wd) (a s n : Nat) (v : Int64) : uL (aL w a s n v) a (s + n) v = aL w a s (n + 1) v := by
  refine Prod.ext rfl (Prod.ext rfl (Prod.ext rfl ?_))
  funext b k
  show (if b = a ∧ k = s + n then v else if b = a ∧ s ≤ k ∧ k < s + n then v else w.2.2.2 b k) = (if b = a ∧ s ≤ k ∧ k < s + (n + 1) then v else w.2.2.2 b k)
  by_cases e : b = a
  · by_cases h1 : k = s + n
    · rw [if_pos ⟨e, h1⟩, if_pos ⟨e, by omega⟩]
    · rw [if_neg (fun q => h1 q.2)]
      by_cases h2 : s ≤ k ∧ k < s + n
      · rw [if_pos ⟨e, h2⟩, if_pos ⟨e, by omega⟩]
      · rw [if_neg (fun q => h2 q.2), if_neg (fun q => by omega)]
  · rw [if_neg (fun q => e q.1), if_neg (fun q => e q.1), if_neg (fun q => e q.1)]
theorem RF_add {p : Nat} (h : p < 2 ^ 31) : (2199023255552 : Int64) + (nI p).toInt64 = RF p := by
  rw [nI_l h, RF_0, lN_add, RF]
/-- behind born -/
def boW (w : Wd) (re th ol sz am fd p i : Nat) (n tg : Int32) : Wd := uL (aL (uI (uI (uI (uI w th p 1) ol p 0) sz p n) am p tg) fd (11 * p) 11 1099511627776) re i (RF p)
section BO
variable {l : Launch} {Δ : Dat} {w : Wd} {m re th ol sz am fd rc nr ly lo : Nat} {B : Nat → Prop}
theorem MS_aL {a s n : Nat} {v : Int64} (H : MS w m re th ol sz am fd rc nr ly lo) : MS (aL w a s n v) m re th ol sz am fd rc nr ly lo := MS_congr (w := w) (fun _ => rfl) (fun _ => rfl) (fun _ _ _ => rfl) H
set_option maxRecDepth 100000 in
theorem k_born {i : Nat} {n tg : Int32} (H : MS w m re th ol sz am fd rc nr ly lo) (hi : i < 8) (hf : ∃ p, p < 200 ∧ wI w th p = 0) : Ct l y_Mo_born h_Mo_born (rmL 0 0 0) Δ [.ref m, .int (nI i), .int n, .int tg] w (fun q w' => q = none ∧ ∃ p, p < 200 ∧ wI w th p = 0 ∧ w' = boW w re th ol sz am fd p i n tg) := by
  obtain ⟨hm, -, ⟨h4, kre⟩, ⟨h5, kt⟩, ⟨h6, ko⟩, ⟨h7, ks⟩, ⟨h8, ka⟩, ⟨h9, kf⟩, -⟩ := H
  obtain ⟨p0, hp0, hz⟩ := hf
  refine Ct_of (L := [some (.ref m), some (.int (nI i)), some (.int n), some (.int tg), none, none]) (by decide) (by first | exact Nat.le_of_ble_eq_true rfl | simp [lg_sl, va_rf_cat, vc_r, vc_i, vc_0]) (by first | rfl | simp [lin, va_rf_cat, vc_r, vc_i, vc_0]) (fun Γ X => ?_)
  refine J_iconst (v := 0) X d_Mo_born_0 (by decide) ?_
  refine J_istore X d_Mo_born_1 (by decide) rfl ?_
  have loop : ∀ (k p : Nat), k + p = p0 → J Γ Δ (AE Γ w) 6 w 0 0 (QE Γ Δ w (fun q w' => q = none ∧ ∃ p, p < 200 ∧ wI w th p = 0 ∧ w' = boW w re th ol sz am fd p i n tg) (rmL 0 0 0)) 3 [some (.ref m), some (.int (nI i)), some (.int n), some (.int tg), some (.int (nI p)), none] [] := by
    intro k
    have fin : ∀ p, p < 200 → wI w th p = 0 → J Γ Δ (AE Γ w) 6 w 0 0 (QE Γ Δ w (fun q w' => q = none ∧ ∃ p, p < 200 ∧ wI w th p = 0 ∧ w' = boW w re th ol sz am fd p i n tg) (rmL 0 0 0)) 19 [some (.ref m), some (.int (nI i)), some (.int n), some (.int tg), some (.int (nI p)), none] [] := by
      intro p hp hz
      first | refine J_aload_nr X d_Mo_born_19 rfl rfl ?_ | refine J_aload_n X d_Mo_born_19 rfl rfl ?_ | refine J_aload_n0 X d_Mo_born_19 rfl rfl ?_
      refine J_getR X (hm) fa_Mo_13_6 rfl (h5) d_Mo_born_20 ?_
      refine J_iload X d_Mo_born_23 rfl ?_
      refine J_iconst (v := 1) X d_Mo_born_25 (by decide) ?_
      refine J_zast X (kt) (by decide) rfl rfl (by decide) (rfl) (hp) (by decide) d_Mo_born_26 ?_
      first | refine J_aload_nr X d_Mo_born_27 rfl rfl ?_ | refine J_aload_n X d_Mo_born_27 rfl rfl ?_ | refine J_aload_n0 X d_Mo_born_27 rfl rfl ?_
      refine J_getR X (hm) fa_Mo_17_6 rfl (h6) d_Mo_born_28 ?_
      refine J_iload X d_Mo_born_31 rfl ?_
      refine J_iconst (v := 0) X d_Mo_born_33 (by decide) ?_
      refine J_zast X (ko) (by decide) rfl rfl (by decide) (rfl) (hp) (by decide) d_Mo_born_34 ?_
      first | refine J_aload_nr X d_Mo_born_35 rfl rfl ?_ | refine J_aload_n X d_Mo_born_35 rfl rfl ?_ | refine J_aload_n0 X d_Mo_born_35 rfl rfl ?_
      refine J_getR X (hm) fa_Mo_20_6 rfl (h7) d_Mo_born_36 ?_
      refine J_iload X d_Mo_born_39 rfl ?_
      refine J_iload_n X d_Mo_born_41 rfl rfl ?_
      refine J_iast X (ks) (by decide) rfl rfl (rfl) (hp) (by decide) d_Mo_born_42 ?_
      first | refine J_aload_nr X d_Mo_born_43 rfl rfl ?_ | refine J_aload_n X d_Mo_born_43 rfl rfl ?_ | refine J_aload_n0 X d_Mo_born_43 rfl rfl ?_
      refine J_getR X (hm) fa_Mo_24_6 rfl (h8) d_Mo_born_44 ?_
      refine J_iload X d_Mo_born_47 rfl ?_
      refine J_iload_n X d_Mo_born_49 rfl rfl ?_
      refine J_iast X (ka) (by decide) rfl rfl (rfl) (hp) (by decide) d_Mo_born_50 ?_
      refine J_iconst (v := 0) X d_Mo_born_51 (by decide) ?_
      refine J_istore X d_Mo_born_52 (by decide) rfl ?_
      have inner : ∀ (k j : Nat), k + j = 11 → J Γ Δ (AE Γ w) 6 (aL (uI (uI (uI (uI w th p 1) ol p 0) sz p n) am p tg) fd (11 * p) j 1099511627776) 0 0 (QE Γ Δ w (fun q w' => q = none ∧ ∃ p, p < 200 ∧ wI w th p = 0 ∧ w' = boW w re th ol sz am fd p i n tg) (rmL 0 0 0)) 54 [some (.ref m), some (.int (nI i)), some (.int n), some (.int tg), some (.int (nI p)), some (.int (nI j))] [] := by
        intro k
        induction k with
        | zero =>
          intro j hj
          have hj' : j = 11 := by omega
          subst hj'
          refine J_iload X d_Mo_born_54 rfl ?_
          refine J_bipush (v := 11) X d_Mo_born_56 (by decide) ?_
          refine J_icmp_ge (tgt := 83) X d_Mo_born_58 (by decide) (fun g => ?_) (fun g => ?_)
          · first | refine J_aload_nr X d_Mo_born_83 rfl rfl ?_ | refine J_aload_n X d_Mo_born_83 rfl rfl ?_ | refine J_aload_n0 X d_Mo_born_83 rfl rfl ?_
            refine J_getR X (hm) fa_Mo_7_6 rfl (h4) d_Mo_born_84 ?_
            refine J_iload_n X d_Mo_born_87 rfl rfl ?_
            refine J_ldc2 X d_Mo_born_88 m_566 ?_
            refine J_iload X d_Mo_born_91 rfl ?_
            refine J_i2l X d_Mo_born_93 ?_
            refine J_ladd X d_Mo_born_94 ?_
            refine J_top (v' := .long (RF p)) (by rw [RF_add (by omega)]) ?_
            refine J_last X (kre) (by decide) rfl rfl (rfl) (hi) (by decide) d_Mo_born_95 ?_
            exact J_vret X ⟨rfl, p, hp, hz, rfl⟩ (by decide) (by decide) d_Mo_born_96
          · exact absurd (by decide) g
        | succ k ih =>
          intro j hj
          refine J_iload X d_Mo_born_54 rfl ?_
          refine J_bipush (v := 11) X d_Mo_born_56 (by decide) ?_
          refine J_icmp_ge (tgt := 83) X d_Mo_born_58 (by decide) (fun g => ?_) (fun g => ?_)
          · exact absurd g (by rw [show (11 : Int32) = nI 11 from rfl]; exact nI_ge (by omega) (by omega))
          · first | refine J_aload_nr X d_Mo_born_61 rfl rfl ?_ | refine J_aload_n X d_Mo_born_61 rfl rfl ?_ | refine J_aload_n0 X d_Mo_born_61 rfl rfl ?_
            refine J_getR X (hm) fa_Mo_27_6 rfl (h9) d_Mo_born_62 ?_
            refine J_bipush (v := 11) X d_Mo_born_65 (by decide) ?_
            refine J_iload X d_Mo_born_67 rfl ?_
            refine J_imul X d_Mo_born_69 ?_
            refine J_iload X d_Mo_born_70 rfl ?_
            refine J_iadd X d_Mo_born_72 ?_
            refine J_ldc2 X d_Mo_born_73 m_474 ?_
            refine J_last X (kf) (by decide) rfl rfl (by rw [show (11 : Int32) = nI 11 from rfl, pk_mul, nI_add]) (by omega) (by decide) d_Mo_born_76 ?_
            refine J_iinc X d_Mo_born_77 rfl (by decide) (nI_s j) rfl ?_
            refine J_goto (tgt := 54) X d_Mo_born_80 (by decide) ?_
            refine J_eq (aL_step _ fd (11 * p) j _) rfl ?_
            exact ih (j + 1) (by omega)
      exact J_eq (aL_zero _ fd _ _).symm rfl (inner 11 0 rfl)
    induction k with
    | zero =>
      intro p hp
      have e : p = p0 := by omega
      subst e
      first | refine J_aload_nr X d_Mo_born_3 rfl rfl ?_ | refine J_aload_n X d_Mo_born_3 rfl rfl ?_ | refine J_aload_n0 X d_Mo_born_3 rfl rfl ?_
      refine J_getR X (hm) fa_Mo_13_6 rfl (h5) d_Mo_born_4 ?_
      refine J_iload X d_Mo_born_7 rfl ?_
      refine J_zald X (kt) (by decide) rfl rfl (rfl) (hp0) (by decide) (rfl) d_Mo_born_9 ?_
      refine J_if_eq (tgt := 19) X d_Mo_born_10 (by decide) (fun g => ?_) (fun g => ?_)
      · exact fin p hp0 hz
      · exact absurd hz g
    | succ k ih =>
      intro p hp
      first | refine J_aload_nr X d_Mo_born_3 rfl rfl ?_ | refine J_aload_n X d_Mo_born_3 rfl rfl ?_ | refine J_aload_n0 X d_Mo_born_3 rfl rfl ?_
      refine J_getR X (hm) fa_Mo_13_6 rfl (h5) d_Mo_born_4 ?_
      refine J_iload X d_Mo_born_7 rfl ?_
      refine J_zald X (kt) (by decide) rfl rfl (rfl) (by omega) (by decide) (rfl) d_Mo_born_9 ?_
      refine J_if_eq (tgt := 19) X d_Mo_born_10 (by decide) (fun g => ?_) (fun g => ?_)
      · exact fin p (by omega) g
      · refine J_iinc X d_Mo_born_13 rfl (by decide) (nI_s p) rfl ?_
        refine J_goto (tgt := 3) X d_Mo_born_16 (by decide) ?_
        exact ih (p + 1) (by omega)
  exact loop p0 0 rfl
theorem grW_MS {ρ : Nat → Bool} (H : MS w m re th ol sz am fd rc nr ly lo) : MS (grW w m th ol am rc ρ) m re th ol sz am fd rc nr ly lo ∧ MS (rcW w rc ρ) m re th ol sz am fd rc nr ly lo := by
  have H' := H
  obtain ⟨hm, -, -, ⟨h5, kt⟩, ⟨h6, ko⟩, ⟨h7, ks⟩, ⟨h8, ka⟩, -, ⟨h10, kr⟩, -⟩ := H'
  exact ⟨MS_aI (t := 0) (z := 200) ka (MS_aI (t := 1) (z := 200) ko (MS_aI (t := 1) (z := 200) kt (MS_uI (Or.inr (by decide)) (MS_aI kr H)))), MS_aI kr H⟩
theorem GrS_MS {w1 : Wd} (H : MS w m re th ol sz am fd rc nr ly lo) (ha : amok w am) (h : GrS w w1 m re th ol sz am fd rc nr lo) : MS w1 m re th ol sz am fd rc nr ly lo ∧ ∀ b k, wL w1 b k = wL w b k := by
  rcases h with ⟨-, rfl⟩ | ⟨-, ρ, -, rfl⟩
  · exact ⟨H, fun _ _ => rfl⟩
  · exact ⟨(clW_facts H ha).1, fun _ _ => rfl⟩
theorem GrE_MS {w' : Wd} {q : Option Value} (H : MS w m re th ol sz am fd rc nr ly lo) (h : GrE w m re th ol sz am fd rc nr lo q w') : MS w' m re th ol sz am fd rc nr ly lo ∧ ∀ b k, wL w' b k = wL w b k := by
  obtain ⟨ρ, -, ⟨-, -, rfl⟩ | ⟨-, -, rfl⟩⟩ := h
  · exact ⟨(grW_MS H).1, fun _ _ => rfl⟩
  · exact ⟨(grW_MS H).2, fun _ _ => rfl⟩
theorem RoE_MS {w' : Wd} {c q : Int32} (H : MS w m re th ol sz am fd rc nr ly lo) (ha : amok w am) (h : RoE w m re th ol sz am fd rc nr ly lo c q w') : MS w' m re th ol sz am fd rc nr ly lo ∧ (∀ b k, wL w' b k = wL w b k) ∧ (q = 0 ∨ q = 1) := by
  rcases h with ⟨-, rfl, rfl⟩ | ⟨-, v, rfl, w1, h1, h2⟩
  · exact ⟨H, fun _ _ => rfl, Or.inr rfl⟩
  · obtain ⟨a1, a2⟩ := GrS_MS H ha h1
    obtain ⟨b1, b2⟩ := GrE_MS a1 h2
    exact ⟨b1, fun b k => (b2 b k).trans (a2 b k), by split; exact Or.inl rfl; exact Or.inr rfl⟩
theorem plc_congr {w' : Wd} {r : Int32} (h : ∀ b k, wL w' b k = wL w b k) : plc w' re nr r = plc w re nr r := by rw [plc, plc, h]
end BO
