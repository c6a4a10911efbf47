/-! the model's search: nothing, mark, markFields, marked, markRegisters, spread -/
def RF (k : Nat) : Int64 := lN (2199023255552 + k)
theorem RF_0 : (2199023255552 : Int64) = lN 2199023255552 := by decide +kernel
theorem RF_inj {a b : Nat} (ha : a < 200) (hb : b < 200) : RF a = RF b ↔ a = b := by
  unfold RF
  rw [pk_lEQ (by omega) (by omega)]
  omega
theorem RF_ge {a : Nat} (ha : a < 200) : (2199023255552 : Int64) ≤ RF a := by
  rw [RF_0, RF, pk_lLE (by omega) (by omega)]; omega
theorem RF_i {a : Nat} : (RF a - 2199023255552).toInt32 = nI a := by
  rw [RF_0, RF, lN_sub (Nat.le_add_right _ _), lN_i, Nat.add_sub_cancel_left]
def bI (b : Bool) : Int32 := if b = true then 1 else 0
theorem bI_0 {b : Bool} : bI b = 0 ↔ b = false := by cases b <;> simp [bI]
def rcW (w : Wd) (rc : Nat) (ρ : Nat → Bool) : Wd := aI w rc 200 (fun k => bI (ρ k))
theorem rcW_congr {w : Wd} {rc : Nat} {ρ ρ' : Nat → Bool} (h : ∀ k, k < 200 → ρ k = ρ' k) : rcW w rc ρ = rcW w rc ρ' := aI_congr (fun k hk => by rw [h k hk])
theorem rcW_at {w : Wd} {rc k : Nat} {ρ : Nat → Bool} (h : k < 200) : wI (rcW w rc ρ) rc k = bI (ρ k) := aI_in h
theorem rcW_no {w : Wd} {rc b k : Nat} {ρ : Nat → Bool} (h : b ≠ rc) : wI (rcW w rc ρ) b k = wI w b k := aI_out (Or.inl h)
def mk (ρ : Nat → Bool) (v : Int64) : Nat → Bool := fun k => ρ k || decide (v = RF k)
def mks (ρ : Nat → Bool) (vs : List Int64) : Nat → Bool := vs.foldl mk ρ
theorem mks_iff {k : Nat} : ∀ {vs : List Int64} {ρ : Nat → Bool}, mks ρ vs k = true ↔ ρ k = true ∨ RF k ∈ vs
  | [], ρ => by simp [mks]
  | v :: t, ρ => by
    show mks (mk ρ v) t k = true ↔ _
    rw [mks_iff]
    simp only [mk, Bool.or_eq_true, decide_eq_true_eq, List.mem_cons]
    constructor
    · rintro ((h | h) | h)
      · exact Or.inl h
      · exact Or.inr (Or.inl h.symm)
      · exact Or.inr (Or.inr h)
    · rintro (h | h | h)
      · exact Or.inl (Or.inl h)
      · exact Or.inl (Or.inr h.symm)
      · exact Or.inr h
theorem mks_take {vs : List Int64} {ρ : Nat → Bool} {i : Nat} {v : Int64} (h : vs[i]? = some v) : mks ρ (vs.take (i + 1)) = mk (mks ρ (vs.take i)) v := by
  rw [take_s h, mks, List.foldl_append]; rfl
def vok (v : Int64) : Prop := v < 2199023255552 ∨ ∃ q, q < 200 ∧ v = RF q
def szN (w : Wd) (sz p : Nat) : Nat := (wI w sz p).toNatClampNeg
def fldL (w : Wd) (fd sz p : Nat) : List Int64 := (List.range (szN w sz p)).map (fun k => wL w fd (11 * p + k))
def szok (w : Wd) (sz p : Nat) : Prop := wI w sz p = -1 ∨ ∃ n, n ≤ 11 ∧ wI w sz p = nI n
def cnt (ρ : Nat → Bool) : Nat → Nat
  | 0 => 0
  | n + 1 => cnt ρ n + (if ρ n = true then 1 else 0)
theorem cnt_le (ρ : Nat → Bool) : ∀ n, cnt ρ n ≤ n
  | 0 => Nat.le_refl _
  | n + 1 => by have := cnt_le ρ n; rw [cnt]; split <;> omega
theorem cnt_mono {ρ ρ' : Nat → Bool} : ∀ {n : Nat}, (∀ k, k < n → ρ k = true → ρ' k = true) → cnt ρ n ≤ cnt ρ' n ∧ (cnt ρ' n ≤ cnt ρ n → ∀ k, k < n → ρ' k = true → ρ k = true)
  | 0, _ => ⟨Nat.le_refl _, fun _ k hk => absurd hk (by omega)⟩
  | n + 1, h => by
    obtain ⟨h1, h2⟩ := cnt_mono (n := n) (fun k hk => h k (by omega))
    have hn := h n (by omega)
    rw [cnt, cnt]
    by_cases a : ρ n = true
    · rw [if_pos a, if_pos (hn a)]
      refine ⟨by omega, fun hc k hk hk' => ?_⟩
      by_cases e : k = n
      · rw [e]; exact a
      · exact h2 (by omega) k (by omega) hk'
    · rw [if_neg a]
      by_cases b : ρ' n = true
      · rw [if_pos b]; exact ⟨by omega, fun hc => absurd hc (by omega)⟩
      · rw [if_neg b]
        refine ⟨by omega, fun hc k hk hk' => ?_⟩
        by_cases e : k = n
        · rw [e] at hk'; exact absurd hk' b
        · exact h2 (by omega) k (by omega) hk'
def mkdF (w : Wd) (rc p : Nat) : Int32 := if wI w rc p = 0 then 0 else 1
theorem mkd_cnt {w : Wd} {rc : Nat} {ρ : Nat → Bool} : ∀ {n : Nat}, n ≤ 200 → sumTo (mkdF (rcW w rc ρ) rc) n = nI (cnt ρ n)
  | 0, _ => rfl
  | n + 1, h => by
    rw [sumTo_s, mkd_cnt (by omega), cnt, ← nI_add]
    congr 1
    rw [mkdF, rcW_at (by omega)]
    cases ρ n <;> rfl
/-- one pass over the places -/
def pas (w : Wd) (fd sz : Nat) (ρ : Nat → Bool) : Nat → (Nat → Bool)
  | 0 => ρ
  | n + 1 => if pas w fd sz ρ n n = true then mks (pas w fd sz ρ n) (fldL w fd sz n) else pas w fd sz ρ n
/-- closed under the fields -/
def Clo (w : Wd) (fd sz : Nat) (C : Nat → Prop) : Prop := ∀ p, p < 200 → C p → ∀ q, q < 200 → RF q ∈ fldL w fd sz p → C q
theorem pas_up {w : Wd} {fd sz : Nat} {ρ : Nat → Bool} {k : Nat} (h : ρ k = true) : ∀ n, pas w fd sz ρ n k = true
  | 0 => h
  | n + 1 => by
    rw [pas]
    split
    · exact mks_iff.mpr (Or.inl (pas_up h n))
    · exact pas_up h n
theorem pas_mono {w : Wd} {fd sz : Nat} {ρ : Nat → Bool} {k n : Nat} (h : pas w fd sz ρ n k = true) : ∀ j, pas w fd sz ρ (n + j) k = true
  | 0 => h
  | j + 1 => by
    rw [← Nat.add_assoc, pas]
    split
    · exact mks_iff.mpr (Or.inl (pas_mono h j))
    · exact pas_mono h j
theorem pas_sub {w : Wd} {fd sz : Nat} {ρ : Nat → Bool} {C : Nat → Prop} (hC : Clo w fd sz C) (h : ∀ k, k < 200 → ρ k = true → C k) : ∀ n, n ≤ 200 → ∀ k, k < 200 → pas w fd sz ρ n k = true → C k
  | 0, _ => h
  | n + 1, hn => fun k hk hp => by
    rw [pas] at hp
    split at hp
    · rename_i hc
      rcases mks_iff.mp hp with q | q
      · exact pas_sub hC h n (by omega) k hk q
      · exact hC n (by omega) (pas_sub hC h n (by omega) n (by omega) hc) k hk q
    · exact pas_sub hC h n (by omega) k hk hp
theorem pas_clo {w : Wd} {fd sz : Nat} {ρ : Nat → Bool} (h : ∀ k, k < 200 → pas w fd sz ρ 200 k = true → ρ k = true) : Clo w fd sz (fun k => ρ k = true) := by
  intro p hp hc q hq hf
  refine h q hq ?_
  have e1 : pas w fd sz ρ (p + 1) q = true := by
    rw [pas, if_pos (pas_up hc p)]
    exact mks_iff.mpr (Or.inr hf)
  have := pas_mono e1 (200 - (p + 1))
  rwa [show p + 1 + (200 - (p + 1)) = 200 by omega] at this
/-- places whose fields are in order and lead to such places -/
def Bk (w : Wd) (fd sz : Nat) (B : Nat → Prop) : Prop := ∀ p, p < 200 → B p → szok w sz p ∧ ∀ v ∈ fldL w fd sz p, v < 2199023255552 ∨ ∃ q, q < 200 ∧ v = RF q ∧ B q
theorem Bk_clo {w : Wd} {fd sz : Nat} {B : Nat → Prop} (h : Bk w fd sz B) : Clo w fd sz B := fun p hp hb q hq hf => by
  rcases (h p hp hb).2 _ hf with e | ⟨q', hq', e, hb'⟩
  · exact absurd (RF_ge hq) (Int64.not_le.mpr e)
  · rw [(RF_inj hq hq').mp e]; exact hb'
theorem Bk_vok {w : Wd} {fd sz p : Nat} {B : Nat → Prop} (h : Bk w fd sz B) (hp : p < 200) (hb : B p) : ∀ v ∈ fldL w fd sz p, vok v := fun v hv => by
  rcases (h p hp hb).2 v hv with e | ⟨q, hq, e, -⟩
  · exact Or.inl e
  · exact Or.inr ⟨q, hq, e⟩
section SR
variable {l : Launch} {Δ : Dat} {w : Wd} {m re th ol sz am fd rc nr ly lo : Nat} {ρ : Nat → Bool}
set_option maxRecDepth 100000 in
theorem k_nothing (H : MS w m re th ol sz am fd rc nr ly lo) : Ct l y_Mo_nothing h_Mo_nothing (rmL 0 0 0) Δ [.ref m] w (fun q w' => q = none ∧ w' = rcW w rc (fun _ => false)) := by
  obtain ⟨hm, -, -, -, -, -, -, -, ⟨h10, kr⟩, -⟩ := H
  refine Ct_of (L := [some (.ref m), none]) (by decide) (by first | exact Nat.le_of_ble_eq_true rfl | simp [lg_sl, va_rf_cat, vc_r, vc_i, vc_0]) (by first | rfl | simp [lin, va_rf_cat, vc_r, vc_i, vc_0]) (fun Γ X => ?_)
  refine J_iconst (v := 0) X d_Mo_nothing_0 (by decide) ?_
  refine J_istore_n X d_Mo_nothing_1 rfl (by decide) rfl ?_
  have loop : ∀ (k i : Nat), k + i = 200 → J Γ Δ (AE Γ w) 2 (aI w rc i (fun _ => 0)) 0 0 (QE Γ Δ w (fun q w' => q = none ∧ w' = rcW w rc (fun _ => false)) (rmL 0 0 0)) 2 [some (.ref m), some (.int (nI i))] [] := by
    intro k
    induction k with
    | zero =>
      intro i hi
      have hi' : i = 200 := by omega
      subst hi'
      refine J_iload_n X d_Mo_nothing_2 rfl rfl ?_
      refine J_sipush (v := 200) X d_Mo_nothing_3 (by decide) ?_
      refine J_icmp_ge (tgt := 22) X d_Mo_nothing_6 (by decide) (fun g => ?_) (fun g => ?_)
      · exact J_vret X ⟨rfl, rfl⟩ (by decide) (by decide) d_Mo_nothing_22
      · exact absurd (by decide) g
    | succ k ih =>
      intro i hi
      refine J_iload_n X d_Mo_nothing_2 rfl rfl ?_
      refine J_sipush (v := 200) X d_Mo_nothing_3 (by decide) ?_
      refine J_icmp_ge (tgt := 22) X d_Mo_nothing_6 (by decide) (fun g => ?_) (fun g => ?_)
      · exact absurd g (by rw [show (200 : Int32) = nI 200 from rfl]; exact nI_ge (by omega) (by omega))
      · first | refine J_aload_nr X d_Mo_nothing_9 rfl rfl ?_ | refine J_aload_n X d_Mo_nothing_9 rfl rfl ?_ | refine J_aload_n0 X d_Mo_nothing_9 rfl rfl ?_
        refine J_getR X (hm) fa_Mo_30_6 rfl (h10) d_Mo_nothing_10 ?_
        refine J_iload_n X d_Mo_nothing_13 rfl rfl ?_
        refine J_iconst (v := 0) X d_Mo_nothing_14 (by decide) ?_
        refine J_zast X (kr) (by decide) rfl rfl (by decide) (rfl) (by omega) (by decide) d_Mo_nothing_15 ?_
        refine J_iinc X d_Mo_nothing_16 rfl (by decide) (nI_s i) rfl ?_
        refine J_goto (tgt := 2) X d_Mo_nothing_19 (by decide) ?_
        refine J_eq (aI_step w rc i (fun _ => 0)) rfl ?_
        exact ih (i + 1) (by omega)
  exact J_eq (aI_zero w rc _).symm rfl (loop 200 0 rfl)
set_option maxRecDepth 100000 in
theorem k_mark {v : Int64} (H : MS w m re th ol sz am fd rc nr ly lo) (hv : vok v) : Ct l y_Mo_mark h_Mo_mark (rmL 0 0 0) Δ [.ref m, .long v] (rcW w rc ρ) (fun q w' => q = none ∧ w' = rcW w rc (mk ρ v)) := by
  obtain ⟨hm, -, -, -, -, -, -, -, ⟨h10, kr⟩, -⟩ := H
  have hm' : wK (rcW w rc ρ) m = some (.inl 6) := hm
  have h10' : wP (rcW w rc ρ) m 10 = some rc := h10
  have kr' : wK (rcW w rc ρ) rc = some (.inr (1, 200)) := kr
  refine Ct_of (L := [some (.ref m), some (.long v), none]) (by decide) (by first | exact Nat.le_of_ble_eq_true rfl | simp [lg_sl, va_rf_cat, vc_r, vc_i, vc_0]) (by first | rfl | simp [lin, va_rf_cat, vc_r, vc_i, vc_0]) (fun Γ X => ?_)
  refine J_lload_n X d_Mo_mark_0 rfl rfl ?_
  refine J_ldc2 X d_Mo_mark_1 m_566 ?_
  refine J_lcmp X d_Mo_mark_4 ?_
  refine J_if_lt (tgt := 20) X d_Mo_mark_5 (by decide) (fun g => ?_) (fun g => ?_)
  · rw [lg_cmp_lt] at g
    exact J_vret X ⟨rfl, rcW_congr (fun k hk => by
      rw [mk, decide_eq_false (fun e => absurd (RF_ge hk) (by rw [← e]; exact Int64.not_le.mpr g)), Bool.or_false])⟩ (by decide) (by decide) d_Mo_mark_20
  · rw [lg_cmp_lt] at g
    rcases hv with e | ⟨q, hq, rfl⟩
    · exact absurd e g
    · first | refine J_aload_nr X d_Mo_mark_8 rfl rfl ?_ | refine J_aload_n X d_Mo_mark_8 rfl rfl ?_ | refine J_aload_n0 X d_Mo_mark_8 rfl rfl ?_
      refine J_getR X (hm') fa_Mo_30_6 rfl (h10') d_Mo_mark_9 ?_
      refine J_lload_n X d_Mo_mark_12 rfl rfl ?_
      refine J_ldc2 X d_Mo_mark_13 m_566 ?_
      refine J_lsub X d_Mo_mark_16 ?_
      refine J_l2i X d_Mo_mark_17 ?_
      refine J_iconst (v := 1) X d_Mo_mark_18 (by decide) ?_
      refine J_zast X (kr') (by decide) rfl rfl (by decide) (RF_i) (hq) (by decide) d_Mo_mark_19 ?_
      refine J_vret X ⟨rfl, ?_⟩ (by decide) (by decide) d_Mo_mark_20
      rw [rcW, aI_put hq]
      refine aI_congr (fun k hk => ?_)
      rw [mk]
      by_cases e : k = q
      · rw [if_pos e, e]; simp [bI]
      · rw [if_neg e, decide_eq_false (fun z => e ((RF_inj hq hk).mp z).symm), Bool.or_false]
set_option maxRecDepth 100000 in
theorem k_markFields {p : Nat} (H : MS w m re th ol sz am fd rc nr ly lo) (hp : p < 200) (hs : szok w sz p) (hv : ∀ v ∈ fldL w fd sz p, vok v) : Ct l y_Mo_markFields h_Mo_markFields (rmL 1 0 0) Δ [.ref m, .int (nI p)] (rcW w rc ρ) (fun q w' => q = none ∧ w' = rcW w rc (mks ρ (fldL w fd sz p))) := by
  have H' := H
  obtain ⟨hm, -, -, -, -, ⟨h7, ks⟩, -, ⟨h9, kf⟩, ⟨h10, kr⟩, -⟩ := H'
  have hsr : sz ≠ rc := fun e => by rw [e, kr] at ks; cases ks
  have hn : szN w sz p ≤ 11 := by
    rcases hs with e | ⟨n, hn, e⟩
    · rw [szN, e]; decide
    · rw [szN, e, nI_clamp (by omega)]; exact hn
  have hlen : (fldL w fd sz p).length = szN w sz p := by simp [fldL]
  refine Ct_of (L := [some (.ref m), some (.int (nI p)), none]) (by decide) (by first | exact Nat.le_of_ble_eq_true rfl | simp [lg_sl, va_rf_cat, vc_r, vc_i, vc_0]) (by first | rfl | simp [lin, va_rf_cat, vc_r, vc_i, vc_0]) (fun Γ X => ?_)
  refine J_iconst (v := 0) X d_Mo_markFields_0 (by decide) ?_
  refine J_istore_n X d_Mo_markFields_1 rfl (by decide) rfl ?_
  have loop : ∀ (k i : Nat), k + i = szN w sz p → J Γ Δ (AE Γ (rcW w rc ρ)) 3 (rcW w rc (mks ρ ((fldL w fd sz p).take i))) 0 0 (QE Γ Δ (rcW w rc ρ) (fun q w' => q = none ∧ w' = rcW w rc (mks ρ (fldL w fd sz p))) (rmL 1 0 0)) 2 [some (.ref m), some (.int (nI p)), some (.int (nI i))] [] := by
    intro k
    induction k with
    | zero =>
      intro i hi
      have hread : wI (rcW w rc (mks ρ ((fldL w fd sz p).take i))) sz p = wI w sz p := rcW_no hsr
      refine J_iload_n X d_Mo_markFields_2 rfl rfl ?_
      first | refine J_aload_nr X d_Mo_markFields_3 rfl rfl ?_ | refine J_aload_n X d_Mo_markFields_3 rfl rfl ?_ | refine J_aload_n0 X d_Mo_markFields_3 rfl rfl ?_
      refine J_getR X (hm) fa_Mo_20_6 rfl (h7) d_Mo_markFields_4 ?_
      refine J_iload_n X d_Mo_markFields_7 rfl rfl ?_
      refine J_iald X (ks) (by decide) rfl rfl (rfl) (hp) (by decide) (hread) d_Mo_markFields_8 ?_
      refine J_icmp_ge (tgt := 33) X d_Mo_markFields_9 (by decide) (fun g => ?_) (fun g => ?_)
      · exact J_vret X ⟨rfl, by rw [List.take_of_length_le (by omega)]⟩ (by decide) (by decide) d_Mo_markFields_33
      · refine absurd ?_ g
        rcases hs with e | ⟨n, hn', e⟩
        · rw [e]; exact Int32.le_of_lt (Int32.lt_of_lt_of_le (by decide) (nI_pos' (n := i) (by omega)))
        · rw [e]; rw [szN, e, nI_clamp (by omega)] at hi; exact nI_le (by omega) (by omega)
    | succ k ih =>
      intro i hi
      have hread : wI (rcW w rc (mks ρ ((fldL w fd sz p).take i))) sz p = wI w sz p := rcW_no hsr
      obtain ⟨n, hn', e⟩ : ∃ n, n ≤ 11 ∧ wI w sz p = nI n := by
        rcases hs with e | h
        · rw [szN, e] at hi; exact absurd hi (by simp)
        · exact h
      have en : szN w sz p = n := by rw [szN, e, nI_clamp (by omega)]
      have hat : (fldL w fd sz p)[i]? = some (wL w fd (11 * p + i)) := by
        rw [fldL, List.getElem?_map, List.getElem?_range (by omega)]; rfl
      refine J_iload_n X d_Mo_markFields_2 rfl rfl ?_
      first | refine J_aload_nr X d_Mo_markFields_3 rfl rfl ?_ | refine J_aload_n X d_Mo_markFields_3 rfl rfl ?_ | refine J_aload_n0 X d_Mo_markFields_3 rfl rfl ?_
      refine J_getR X (hm) fa_Mo_20_6 rfl (h7) d_Mo_markFields_4 ?_
      refine J_iload_n X d_Mo_markFields_7 rfl rfl ?_
      refine J_iald X (ks) (by decide) rfl rfl (rfl) (hp) (by decide) (hread.trans e) d_Mo_markFields_8 ?_
      refine J_icmp_ge (tgt := 33) X d_Mo_markFields_9 (by decide) (fun g => ?_) (fun g => ?_)
      · exact absurd g (nI_ge (by omega) (by omega))
      · first | refine J_aload_nr X d_Mo_markFields_12 rfl rfl ?_ | refine J_aload_n X d_Mo_markFields_12 rfl rfl ?_ | refine J_aload_n0 X d_Mo_markFields_12 rfl rfl ?_
        first | refine J_aload_nr X d_Mo_markFields_13 rfl rfl ?_ | refine J_aload_n X d_Mo_markFields_13 rfl rfl ?_ | refine J_aload_n0 X d_Mo_markFields_13 rfl rfl ?_
        refine J_getR X (hm) fa_Mo_27_6 rfl (h9) d_Mo_markFields_14 ?_
        refine J_bipush (v := 11) X d_Mo_markFields_17 (by decide) ?_
        refine J_iload_n X d_Mo_markFields_19 rfl rfl ?_
        refine J_imul X d_Mo_markFields_20 ?_
        refine J_iload_n X d_Mo_markFields_21 rfl rfl ?_
        refine J_iadd X d_Mo_markFields_22 ?_
        refine J_lald X (kf) (by decide) rfl rfl (by rw [show (11 : Int32) = nI 11 from rfl, pk_mul, nI_add]) (by omega) (by decide) (rfl) d_Mo_markFields_23 ?_
        refine J_callV X (hm) rfl (k_mark (v := wL w fd (11 * p + i)) H (hv _ (List.mem_of_getElem? hat))) cd_Mo_mark lk_Mo_58 vi_Mo_mark (by decide) (by decide) (by decide) (by decide) rfl (by first | decide | simp [va_rf_cat, vc_r, vc_i, vc_0]) d_Mo_markFields_24 (fun q w1 hq => ?_)
        obtain ⟨rfl, hw1⟩ := hq
        refine J_eq (hw1.trans (by rw [mks_take hat])) (w' := rcW w rc (mks ρ ((fldL w fd sz p).take (i + 1)))) rfl ?_
        refine J_iinc X d_Mo_markFields_27 rfl (by decide) (nI_s i) rfl ?_
        refine J_goto (tgt := 2) X d_Mo_markFields_30 (by decide) ?_
        refine J_widen (c2 := 0) (s2 := 0) (by decide) (by decide) ?_
        exact ih (i + 1) (by omega)
  exact loop _ 0 (Nat.add_zero _)
set_option maxRecDepth 100000 in
theorem k_marked (H : MS w m re th ol sz am fd rc nr ly lo) : Ct l y_Mo_marked h_Mo_marked (rmL 0 0 0) Δ [.ref m] w (fun q w' => q = some (.int (sumTo (mkdF w rc) 200)) ∧ w' = w) := by
  obtain ⟨hm, -, -, -, -, -, -, -, ⟨h10, kr⟩, -⟩ := H
  refine Ct_of (L := [some (.ref m), none, none]) (by decide) (by first | exact Nat.le_of_ble_eq_true rfl | simp [lg_sl, va_rf_cat, vc_r, vc_i, vc_0]) (by first | rfl | simp [lin, va_rf_cat, vc_r, vc_i, vc_0]) (fun Γ X => ?_)
  refine J_iconst (v := 0) X d_Mo_marked_0 (by decide) ?_
  refine J_istore_n X d_Mo_marked_1 rfl (by decide) rfl ?_
  refine J_iconst (v := 0) X d_Mo_marked_2 (by decide) ?_
  refine J_istore_n X d_Mo_marked_3 rfl (by decide) rfl ?_
  have loop : ∀ (k i : Nat), k + i = 200 → J Γ Δ (AE Γ w) 3 w 0 0 (QE Γ Δ w (fun q w' => q = some (.int (sumTo (mkdF w rc) 200)) ∧ w' = w) (rmL 0 0 0)) 4 [some (.ref m), some (.int (sumTo (mkdF w rc) i)), some (.int (nI i))] [] := by
    intro k
    induction k with
    | zero =>
      intro i hi
      have hi' : i = 200 := by omega
      subst hi'
      refine J_iload_n X d_Mo_marked_4 rfl rfl ?_
      refine J_sipush (v := 200) X d_Mo_marked_5 (by decide) ?_
      refine J_icmp_ge (tgt := 34) X d_Mo_marked_8 (by decide) (fun g => ?_) (fun g => ?_)
      · refine J_iload_n X d_Mo_marked_34 rfl rfl ?_
        exact J_iret X ⟨rfl, rfl⟩ (by decide) (by decide) d_Mo_marked_35
      · exact absurd (by decide) g
    | succ k ih =>
      intro i hi
      refine J_iload_n X d_Mo_marked_4 rfl rfl ?_
      refine J_sipush (v := 200) X d_Mo_marked_5 (by decide) ?_
      refine J_icmp_ge (tgt := 34) X d_Mo_marked_8 (by decide) (fun g => ?_) (fun g => ?_)
      · exact absurd g (by rw [show (200 : Int32) = nI 200 from rfl]; exact nI_ge (by omega) (by omega))
      · have step : ∀ {v : Int32}, v = mkdF w rc i → J Γ Δ (AE Γ w) 3 w 0 0 (QE Γ Δ w (fun q w' => q = some (.int (sumTo (mkdF w rc) 200)) ∧ w' = w) (rmL 0 0 0)) 26 [some (.ref m), some (.int (sumTo (mkdF w rc) i)), some (.int (nI i))] [.int v, .int (sumTo (mkdF w rc) i)] := fun hv => by
          refine J_iadd X d_Mo_marked_26 ?_
          refine J_istore_n X d_Mo_marked_27 rfl (by decide) rfl ?_
          refine J_iinc X d_Mo_marked_28 rfl (by decide) (nI_s i) rfl ?_
          refine J_goto (tgt := 4) X d_Mo_marked_31 (by decide) ?_
          subst hv
          exact ih (i + 1) (by omega)
        refine J_iload_n X d_Mo_marked_11 rfl rfl ?_
        first | refine J_aload_nr X d_Mo_marked_12 rfl rfl ?_ | refine J_aload_n X d_Mo_marked_12 rfl rfl ?_ | refine J_aload_n0 X d_Mo_marked_12 rfl rfl ?_
        refine J_getR X (hm) fa_Mo_30_6 rfl (h10) d_Mo_marked_13 ?_
        refine J_iload_n X d_Mo_marked_16 rfl rfl ?_
        refine J_zald X (kr) (by decide) rfl rfl (rfl) (by omega) (by decide) (rfl) d_Mo_marked_17 ?_
        refine J_if_eq (tgt := 25) X d_Mo_marked_18 (by decide) (fun g1 => ?_) (fun g1 => ?_)
        · refine J_iconst (v := 0) X d_Mo_marked_25 (by decide) ?_
          exact step (by rw [mkdF, if_pos g1])
        · refine J_iconst (v := 1) X d_Mo_marked_21 (by decide) ?_
          refine J_goto (tgt := 26) X d_Mo_marked_22 (by decide) ?_
          exact step (by rw [mkdF, if_neg g1])
  exact loop 200 0 rfl
set_option maxRecDepth 100000 in
theorem k_markRegisters (H : MS w m re th ol sz am fd rc nr ly lo) (hv : ∀ r, r < nr → vok (wL w re r)) : Ct l y_Mo_markRegisters h_Mo_markRegisters (rmL 1 0 0) Δ [.ref m] (rcW w rc ρ) (fun q w' => q = none ∧ w' = rcW w rc (mks ρ ((List.range nr).map (wL w re)))) := by
  have H' := H
  obtain ⟨hm, ⟨hnr, -, -⟩, ⟨h4, kre⟩, -, -, -, -, -, ⟨h10, kr⟩, -, hb, -⟩ := H'
  have hmr : m ≠ rc := fun e => by rw [e, kr] at hm; cases hm
  have hlen : ((List.range nr).map (wL w re)).length = nr := by simp
  refine Ct_of (L := [some (.ref m), none]) (by decide) (by first | exact Nat.le_of_ble_eq_true rfl | simp [lg_sl, va_rf_cat, vc_r, vc_i, vc_0]) (by first | rfl | simp [lin, va_rf_cat, vc_r, vc_i, vc_0]) (fun Γ X => ?_)
  refine J_iconst (v := 0) X d_Mo_markRegisters_0 (by decide) ?_
  refine J_istore_n X d_Mo_markRegisters_1 rfl (by decide) rfl ?_
  have loop : ∀ (k i : Nat), k + i = nr → J Γ Δ (AE Γ (rcW w rc ρ)) 2 (rcW w rc (mks ρ (((List.range nr).map (wL w re)).take i))) 0 0 (QE Γ Δ (rcW w rc ρ) (fun q w' => q = none ∧ w' = rcW w rc (mks ρ ((List.range nr).map (wL w re)))) (rmL 1 0 0)) 2 [some (.ref m), some (.int (nI i))] [] := by
    intro k
    induction k with
    | zero =>
      intro i hi
      have hread : wI (rcW w rc (mks ρ (((List.range nr).map (wL w re)).take i))) m 1 = nI nr := (rcW_no hmr).trans hnr
      refine J_iload_n X d_Mo_markRegisters_2 rfl rfl ?_
      first | refine J_aload_nr X d_Mo_markRegisters_3 rfl rfl ?_ | refine J_aload_n X d_Mo_markRegisters_3 rfl rfl ?_ | refine J_aload_n0 X d_Mo_markRegisters_3 rfl rfl ?_
      refine J_getI X (hm) fa_Mo_33_6 rfl (hread) d_Mo_markRegisters_4 ?_
      refine J_icmp_ge (tgt := 26) X d_Mo_markRegisters_7 (by decide) (fun g => ?_) (fun g => ?_)
      · exact J_vret X ⟨rfl, by rw [List.take_of_length_le (by omega)]⟩ (by decide) (by decide) d_Mo_markRegisters_26
      · exact absurd (nI_le (by omega) (by omega)) g
    | succ k ih =>
      intro i hi
      have hread : wI (rcW w rc (mks ρ (((List.range nr).map (wL w re)).take i))) m 1 = nI nr := (rcW_no hmr).trans hnr
      have hat : ((List.range nr).map (wL w re))[i]? = some (wL w re i) := by
        rw [List.getElem?_map, List.getElem?_range (by omega)]; rfl
      refine J_iload_n X d_Mo_markRegisters_2 rfl rfl ?_
      first | refine J_aload_nr X d_Mo_markRegisters_3 rfl rfl ?_ | refine J_aload_n X d_Mo_markRegisters_3 rfl rfl ?_ | refine J_aload_n0 X d_Mo_markRegisters_3 rfl rfl ?_
      refine J_getI X (hm) fa_Mo_33_6 rfl (hread) d_Mo_markRegisters_4 ?_
      refine J_icmp_ge (tgt := 26) X d_Mo_markRegisters_7 (by decide) (fun g => ?_) (fun g => ?_)
      · exact absurd g (nI_ge (by omega) (by omega))
      · first | refine J_aload_nr X d_Mo_markRegisters_10 rfl rfl ?_ | refine J_aload_n X d_Mo_markRegisters_10 rfl rfl ?_ | refine J_aload_n0 X d_Mo_markRegisters_10 rfl rfl ?_
        first | refine J_aload_nr X d_Mo_markRegisters_11 rfl rfl ?_ | refine J_aload_n X d_Mo_markRegisters_11 rfl rfl ?_ | refine J_aload_n0 X d_Mo_markRegisters_11 rfl rfl ?_
        refine J_getR X (hm) fa_Mo_7_6 rfl (h4) d_Mo_markRegisters_12 ?_
        refine J_iload_n X d_Mo_markRegisters_15 rfl rfl ?_
        refine J_lald X (kre) (by decide) rfl rfl (rfl) (by omega) (by decide) (rfl) d_Mo_markRegisters_16 ?_
        refine J_callV X (hm) rfl (k_mark (v := wL w re i) H (hv i (by omega))) cd_Mo_mark lk_Mo_58 vi_Mo_mark (by decide) (by decide) (by decide) (by decide) rfl (by first | decide | simp [va_rf_cat, vc_r, vc_i, vc_0]) d_Mo_markRegisters_17 (fun q w1 hq => ?_)
        obtain ⟨rfl, hw1⟩ := hq
        refine J_eq (hw1.trans (by rw [mks_take hat])) (w' := rcW w rc (mks ρ (((List.range nr).map (wL w re)).take (i + 1)))) rfl ?_
        refine J_iinc X d_Mo_markRegisters_20 rfl (by decide) (nI_s i) rfl ?_
        refine J_goto (tgt := 2) X d_Mo_markRegisters_23 (by decide) ?_
        refine J_widen (c2 := 0) (s2 := 0) (by decide) (by decide) ?_
        exact ih (i + 1) (by omega)
  exact loop _ 0 (Nat.add_zero _)
end SR
