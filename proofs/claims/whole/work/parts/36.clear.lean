/-! the model: tellWeak, clearOld -/
theorem aI_comm {w : Wd} {a n b k : Nat} {f : Nat → Int32} {v : Int32} (h : b ≠ a) : uI (aI w a n f) b k v = aI (uI w b k v) a n f := by
  refine Prod.ext rfl (Prod.ext ?_ rfl)
  funext c j
  show (if c = b ∧ j = k then v else if c = a ∧ j < n then f j else w.2.1 c j) = (if c = a ∧ j < n then f j else if c = b ∧ j = k then v else w.2.1 c j)
  by_cases e : c = a
  · rw [if_neg (fun q : c = b ∧ j = k => h (q.1.symm.trans e)), if_neg (fun q : c = b ∧ j = k => h (q.1.symm.trans e))]
  · rw [if_neg (fun q : c = a ∧ j < n => e q.1), if_neg (fun q : c = a ∧ j < n => e q.1)]
theorem aI_next {w : Wd} {a n : Nat} {f : Nat → Int32} (h : f n = wI w a n) : aI w a (n + 1) f = aI w a n f := by
  refine Prod.ext rfl (Prod.ext ?_ rfl)
  funext b k
  show (if b = a ∧ k < n + 1 then f k else w.2.1 b k) = (if b = a ∧ k < n then f k else w.2.1 b k)
  by_cases e : b = a ∧ k = n
  · rw [if_pos ⟨e.1, by omega⟩, if_neg (fun q => by omega), e.1, e.2, h]; rfl
  · by_cases e2 : b = a ∧ k < n
    · rw [if_pos ⟨e2.1, by omega⟩, if_pos e2]
    · rw [if_neg (fun q => by by_cases z : k = n; exact e ⟨q.1, z⟩; exact e2 ⟨q.1, by omega⟩), if_neg e2]
/-- the rows of the model are all different -/
theorem MS_ne {w : Wd} {m re th ol sz am fd rc nr ly lo : Nat} (H : MS w m re th ol sz am fd rc nr ly lo) : (th ≠ sz ∧ th ≠ am ∧ ol ≠ sz ∧ ol ≠ am ∧ rc ≠ sz ∧ rc ≠ am) ∧ (m ≠ th ∧ m ≠ ol ∧ m ≠ sz ∧ m ≠ am ∧ m ≠ rc ∧ m ≠ re ∧ m ≠ fd) ∧ re ≠ fd := by
  obtain ⟨hm, -, ⟨-, a2⟩, ⟨-, b2⟩, ⟨-, c2⟩, ⟨-, d2⟩, ⟨-, e2⟩, ⟨-, f2⟩, ⟨-, g2⟩, -⟩ := H
  have ne : ∀ {a b : Nat} {d d' : Kd}, wK w a = some d → wK w b = some d' → d ≠ d' → a ≠ b := fun h1 h2 hd e => by rw [e, h2] at h1; cases h1; exact hd rfl
  exact ⟨⟨ne b2 d2 (by simp), ne b2 e2 (by simp), ne c2 d2 (by simp), ne c2 e2 (by simp), ne g2 d2 (by simp), ne g2 e2 (by simp)⟩, ⟨ne hm b2 (by simp), ne hm c2 (by simp), ne hm d2 (by simp), ne hm e2 (by simp), ne hm g2 (by simp), ne hm a2 (by simp), ne hm f2 (by simp)⟩, ne a2 f2 (by simp)⟩
def cutA (f : Nat → Int32) (a : Int32) : Int32 := if 0 ≤ a ∧ f a.toNatClampNeg = 0 then -1 else a
def amok (w : Wd) (am : Nat) : Prop := ∀ p, p < 200 → wI w am p = -1 ∨ ∃ q, q < 200 ∧ wI w am p = nI q
theorem cutA_ok {f : Nat → Int32} {a : Int32} (h : a = -1 ∨ ∃ q, q < 200 ∧ a = nI q) : cutA f a = -1 ∨ ∃ q, q < 200 ∧ cutA f a = nI q := by
  unfold cutA
  split
  · exact Or.inl rfl
  · exact h
section TW
variable {l : Launch} {Δ : Dat} {w : Wd} {m re th ol sz am fd rc nr ly lo : Nat} {B : Nat → Prop}
set_option maxRecDepth 100000 in
theorem k_tellWeak (H : MS w m re th ol sz am fd rc nr ly lo) (ha : amok w am) : Ct l y_Mo_tellWeak h_Mo_tellWeak (rmL 0 0 0) Δ [.ref m] w (fun q w' => q = none ∧ w' = aI w am 200 (fun p => cutA (wI w th) (wI w am p))) := by
  have hne := MS_ne H
  obtain ⟨hm, -, -, ⟨h5, kt⟩, -, -, ⟨h8, ka⟩, -⟩ := H
  have hta := hne.1.2.1
  refine Ct_of (L := [some (.ref m), none]) (by decide) (by first | exact Nat.le_of_ble_eq_true rfl | simp [lg_sl, va_rf_cat, vc_r, vc_i, vc_0]) (by first | rfl | simp [lin, va_rf_cat, vc_r, vc_i, vc_0]) (fun Γ X => ?_)
  refine J_iconst (v := 0) X d_Mo_tellWeak_0 (by decide) ?_
  refine J_istore_n X d_Mo_tellWeak_1 rfl (by decide) rfl ?_
  have loop : ∀ (k i : Nat), k + i = 200 → J Γ Δ (AE Γ w) 2 (aI w am i (fun p => cutA (wI w th) (wI w am p))) 0 0 (QE Γ Δ w (fun q w' => q = none ∧ w' = aI w am 200 (fun p => cutA (wI w th) (wI w am p))) (rmL 0 0 0)) 2 [some (.ref m), some (.int (nI i))] [] := by
    intro k
    induction k with
    | zero =>
      intro i hi
      have hi' : i = 200 := by omega
      subst hi'
      refine J_iload_n X d_Mo_tellWeak_2 rfl rfl ?_
      refine J_sipush (v := 200) X d_Mo_tellWeak_3 (by decide) ?_
      refine J_icmp_ge (tgt := 54) X d_Mo_tellWeak_6 (by decide) (fun g => ?_) (fun g => ?_)
      · exact J_vret X ⟨rfl, rfl⟩ (by decide) (by decide) d_Mo_tellWeak_54
      · exact absurd (by decide) g
    | succ k ih =>
      intro i hi
      have hread : wI (aI w am i (fun p => cutA (wI w th) (wI w am p))) am i = wI w am i := aI_out (Or.inr (Nat.le_refl _))
      refine J_iload_n X d_Mo_tellWeak_2 rfl rfl ?_
      refine J_sipush (v := 200) X d_Mo_tellWeak_3 (by decide) ?_
      refine J_icmp_ge (tgt := 54) X d_Mo_tellWeak_6 (by decide) (fun g => ?_) (fun g => ?_)
      · exact absurd g (by rw [show (200 : Int32) = nI 200 from rfl]; exact nI_ge (by omega) (by omega))
      · have step : ∀ {v : Int32}, v = cutA (wI w th) (wI w am i) → J Γ Δ (AE Γ w) 2 (aI w am i (fun p => cutA (wI w th) (wI w am p))) 0 0 (QE Γ Δ w (fun q w' => q = none ∧ w' = aI w am 200 (fun p => cutA (wI w th) (wI w am p))) (rmL 0 0 0)) 47 [some (.ref m), some (.int (nI i))] [.int v, .int (nI i), .ref am] := fun hv => by
          refine J_iast X (ka) (by decide) rfl rfl (rfl) (by omega) (by decide) d_Mo_tellWeak_47 ?_
          refine J_iinc X d_Mo_tellWeak_48 rfl (by decide) (nI_s i) rfl ?_
          refine J_goto (tgt := 2) X d_Mo_tellWeak_51 (by decide) ?_
          subst hv
          refine J_eq (aI_step w am i (fun p => cutA (wI w th) (wI w am p))) rfl ?_
          exact ih (i + 1) (by omega)
        first | refine J_aload_nr X d_Mo_tellWeak_9 rfl rfl ?_ | refine J_aload_n X d_Mo_tellWeak_9 rfl rfl ?_ | refine J_aload_n0 X d_Mo_tellWeak_9 rfl rfl ?_
        refine J_getR X (hm) fa_Mo_24_6 rfl (h8) d_Mo_tellWeak_10 ?_
        refine J_iload_n X d_Mo_tellWeak_13 rfl rfl ?_
        first | refine J_aload_nr X d_Mo_tellWeak_14 rfl rfl ?_ | refine J_aload_n X d_Mo_tellWeak_14 rfl rfl ?_ | refine J_aload_n0 X d_Mo_tellWeak_14 rfl rfl ?_
        refine J_getR X (hm) fa_Mo_24_6 rfl (h8) d_Mo_tellWeak_15 ?_
        refine J_iload_n X d_Mo_tellWeak_18 rfl rfl ?_
        refine J_iald X (ka) (by decide) rfl rfl (rfl) (by omega) (by decide) (hread) d_Mo_tellWeak_19 ?_
        refine J_if_lt (tgt := 41) X d_Mo_tellWeak_20 (by decide) (fun g1 => ?_) (fun g1 => ?_)
        · first | refine J_aload_nr X d_Mo_tellWeak_41 rfl rfl ?_ | refine J_aload_n X d_Mo_tellWeak_41 rfl rfl ?_ | refine J_aload_n0 X d_Mo_tellWeak_41 rfl rfl ?_
          refine J_getR X (hm) fa_Mo_24_6 rfl (h8) d_Mo_tellWeak_42 ?_
          refine J_iload_n X d_Mo_tellWeak_45 rfl rfl ?_
          refine J_iald X (ka) (by decide) rfl rfl (rfl) (by omega) (by decide) (hread) d_Mo_tellWeak_46 ?_
          exact step (by rw [cutA, if_neg (fun q => Int32.not_le.mpr g1 q.1)])
        · obtain ⟨q, hq, e⟩ : ∃ q, q < 200 ∧ wI w am i = nI q := by
            rcases ha i (by omega) with e | h
            · rw [e] at g1; exact absurd (by decide) g1
            · exact h
          have hrt : wI (aI w am i (fun p => cutA (wI w th) (wI w am p))) th q = wI w th q := aI_out (Or.inl hta)
          first | refine J_aload_nr X d_Mo_tellWeak_23 rfl rfl ?_ | refine J_aload_n X d_Mo_tellWeak_23 rfl rfl ?_ | refine J_aload_n0 X d_Mo_tellWeak_23 rfl rfl ?_
          refine J_getR X (hm) fa_Mo_13_6 rfl (h5) d_Mo_tellWeak_24 ?_
          first | refine J_aload_nr X d_Mo_tellWeak_27 rfl rfl ?_ | refine J_aload_n X d_Mo_tellWeak_27 rfl rfl ?_ | refine J_aload_n0 X d_Mo_tellWeak_27 rfl rfl ?_
          refine J_getR X (hm) fa_Mo_24_6 rfl (h8) d_Mo_tellWeak_28 ?_
          refine J_iload_n X d_Mo_tellWeak_31 rfl rfl ?_
          refine J_iald X (ka) (by decide) rfl rfl (rfl) (by omega) (by decide) (hread.trans e) d_Mo_tellWeak_32 ?_
          refine J_zald X (kt) (by decide) rfl rfl (rfl) (hq) (by decide) (hrt) d_Mo_tellWeak_33 ?_
          refine J_if_ne (tgt := 41) X d_Mo_tellWeak_34 (by decide) (fun g2 => ?_) (fun g2 => ?_)
          · first | refine J_aload_nr X d_Mo_tellWeak_41 rfl rfl ?_ | refine J_aload_n X d_Mo_tellWeak_41 rfl rfl ?_ | refine J_aload_n0 X d_Mo_tellWeak_41 rfl rfl ?_
            refine J_getR X (hm) fa_Mo_24_6 rfl (h8) d_Mo_tellWeak_42 ?_
            refine J_iload_n X d_Mo_tellWeak_45 rfl rfl ?_
            refine J_iald X (ka) (by decide) rfl rfl (rfl) (by omega) (by decide) (hread) d_Mo_tellWeak_46 ?_
            exact step (by rw [cutA, if_neg (fun z => by rw [e, nI_clamp (by omega)] at z; exact g2 z.2)])
          · refine J_iconst (v := -1) X d_Mo_tellWeak_37 (by decide) ?_
            refine J_goto (tgt := 47) X d_Mo_tellWeak_38 (by decide) ?_
            exact step (by rw [cutA, if_pos ⟨Int32.not_lt.mp g1, by rw [e, nI_clamp (by omega)]; exact g2⟩])
  exact J_eq (aI_zero w am _).symm rfl (loop 200 0 rfl)
def gone (w : Wd) (th ol : Nat) (ρ : Nat → Bool) (p : Nat) : Bool := decide (wI w th p ≠ 0) && decide (wI w ol p ≠ 0) && !ρ p
def freF (w : Wd) (th ol sz : Nat) (ρ : Nat → Bool) (p : Nat) : Int32 := if gone w th ol ρ p = true then celI w sz p else 0
def clT (w : Wd) (th ol : Nat) (ρ : Nat → Bool) (p : Nat) : Int32 := if gone w th ol ρ p = true then 0 else wI w th p
def clA (w : Wd) (am : Nat) (ρ : Nat → Bool) (p : Nat) : Int32 := cutA (fun q => bI (ρ q)) (wI w am p)
/-- behind clearOld -/
def clW (w : Wd) (m th ol am rc : Nat) (ρ : Nat → Bool) : Wd := aI (aI (uI (rcW w rc ρ) m 12 (wI w m 12 + 1)) am 200 (clA w am ρ)) th 200 (clT w th ol ρ)
/-- what registers hold, as the model has it -/
def regL (w : Wd) (re nr : Nat) : List Int64 := (List.range nr).map (wL w re)
/-- the registers lead to places of B -/
def ReB (w : Wd) (re nr : Nat) (B : Nat → Prop) : Prop := ∀ v ∈ regL w re nr, v < 2199023255552 ∨ ∃ q, q < 200 ∧ v = RF q ∧ B q
theorem ReB_vok (h : ReB w re nr B) : ∀ r, r < nr → vok (wL w re r) := fun r hr => by
  rcases h (wL w re r) (List.mem_map.mpr ⟨r, List.mem_range.mpr hr, rfl⟩) with e | ⟨q, hq, e, -⟩
  · exact Or.inl e
  · exact Or.inr ⟨q, hq, e⟩
theorem ReB_mks (h : ReB w re nr B) : ∀ k, k < 200 → mks (fun _ => false) (regL w re nr) k = true → B k := fun k hk hm => by
  rcases mks_iff.mp hm with e | e
  · cases e
  · rcases h _ e with z | ⟨q, hq, z, hb⟩
    · exact absurd (RF_ge hk) (Int64.not_le.mpr z)
    · rw [(RF_inj hk hq).mp z]; exact hb
set_option maxRecDepth 100000 in
set_option maxHeartbeats 1000000 in
theorem k_clearOld (H : MS w m re th ol sz am fd rc nr ly lo) (ha : amok w am) (hB : Bk w fd sz B) (hR : ReB w re nr B) : Ct l y_Mo_clearOld h_Mo_clearOld (rmL 3 0 0) Δ [.ref m] w (fun q w' => ∃ ρ, Least w fd sz (mks (fun _ => false) (regL w re nr)) ρ ∧ q = some (.int (sumTo (freF w th ol sz ρ) 200)) ∧ w' = clW w m th ol am rc ρ) := by
  have hne := MS_ne H
  have H' := H
  obtain ⟨hm, -, -, ⟨h5, kt⟩, ⟨h6, ko⟩, ⟨h7, ks⟩, ⟨h8, ka⟩, -, ⟨h10, kr⟩, ⟨n1, n2, n3, n4⟩, -⟩ := H'
  obtain ⟨⟨e1, e2, e3, e4, e5, e6⟩, ⟨f1, f2, f3, f4, f5, f6, f7⟩, -⟩ := hne
  refine Ct_of (L := [some (.ref m), none, none]) (by decide) (by first | exact Nat.le_of_ble_eq_true rfl | simp [lg_sl, va_rf_cat, vc_r, vc_i, vc_0]) (by first | rfl | simp [lin, va_rf_cat, vc_r, vc_i, vc_0]) (fun Γ X => ?_)
  first | refine J_aload_nr X d_Mo_clearOld_0 rfl rfl ?_ | refine J_aload_n X d_Mo_clearOld_0 rfl rfl ?_ | refine J_aload_n0 X d_Mo_clearOld_0 rfl rfl ?_
  refine J_callV X (hm) rfl (k_nothing H) cd_Mo_nothing lk_Mo_70 vi_Mo_nothing (by decide) (by decide) (by decide) (by decide) rfl (by first | decide | simp [va_rf_cat, vc_r, vc_i, vc_0]) d_Mo_clearOld_1 (fun q w1 hq => ?_)
  obtain ⟨rfl, hw1⟩ := hq
  refine J_eq hw1 rfl ?_
  first | refine J_aload_nr X d_Mo_clearOld_4 rfl rfl ?_ | refine J_aload_n X d_Mo_clearOld_4 rfl rfl ?_ | refine J_aload_n0 X d_Mo_clearOld_4 rfl rfl ?_
  refine J_callV X (hm) rfl (k_markRegisters (ρ := fun _ => false) H (ReB_vok hR)) cd_Mo_markRegisters lk_Mo_73 vi_Mo_markRegisters (by decide) (by decide) (by decide) (by decide) rfl (by first | decide | simp [va_rf_cat, vc_r, vc_i, vc_0]) d_Mo_clearOld_5 (fun q w2 hq => ?_)
  obtain ⟨rfl, hw2⟩ := hq
  refine J_eq hw2 rfl ?_
  first | refine J_aload_nr X d_Mo_clearOld_8 rfl rfl ?_ | refine J_aload_n X d_Mo_clearOld_8 rfl rfl ?_ | refine J_aload_n0 X d_Mo_clearOld_8 rfl rfl ?_
  refine J_callV X (hm) rfl (k_spread (ρ := mks (fun _ => false) (regL w re nr)) H hB (ReB_mks hR)) cd_Mo_spread lk_Mo_76 vi_Mo_spread (by decide) (by decide) (by decide) (by decide) rfl (by first | decide | simp [va_rf_cat, vc_r, vc_i, vc_0]) d_Mo_clearOld_9 (fun q w3 hq => ?_)
  obtain ⟨rfl, ρ, hw3, hL⟩ := hq
  refine J_eq hw3 rfl ?_
  have r12 : wI (rcW w rc ρ) m 12 = wI w m 12 := rcW_no f5
  first | refine J_aload_nr X d_Mo_clearOld_12 rfl rfl ?_ | refine J_aload_n X d_Mo_clearOld_12 rfl rfl ?_ | refine J_aload_n0 X d_Mo_clearOld_12 rfl rfl ?_
  refine J_dup X d_Mo_clearOld_13 (rfl) ?_
  refine J_getI X (hm) fa_Mo_79_6 rfl (r12) d_Mo_clearOld_14 ?_
  refine J_iconst (v := 1) X d_Mo_clearOld_17 (by decide) ?_
  refine J_iadd X d_Mo_clearOld_18 ?_
  refine J_putI X (hm) fp_Mo_79_6 rfl d_Mo_clearOld_19 ?_
  refine J_iconst (v := 0) X d_Mo_clearOld_22 (by decide) ?_
  refine J_istore_n X d_Mo_clearOld_23 rfl (by decide) rfl ?_
  refine J_iconst (v := 0) X d_Mo_clearOld_24 (by decide) ?_
  refine J_istore_n X d_Mo_clearOld_25 rfl (by decide) rfl ?_
  refine J_widen (c2 := 0) (s2 := 0) (by decide) (by decide) ?_
  have loop : ∀ (k i : Nat), k + i = 200 → J Γ Δ (AE Γ w) 3 (aI (aI (uI (rcW w rc ρ) m 12 (wI w m 12 + 1)) am i (clA w am ρ)) th i (clT w th ol ρ)) 0 0 (QE Γ Δ w (fun q w' => ∃ ρ, Least w fd sz (mks (fun _ => false) (regL w re nr)) ρ ∧ q = some (.int (sumTo (freF w th ol sz ρ) 200)) ∧ w' = clW w m th ol am rc ρ) (rmL 3 0 0)) 26 [some (.ref m), some (.int (sumTo (freF w th ol sz ρ) i)), some (.int (nI i))] [] := by
    intro k
    induction k with
    | zero =>
      intro i hi
      have hi' : i = 200 := by omega
      subst hi'
      refine J_iload_n X d_Mo_clearOld_26 rfl rfl ?_
      refine J_sipush (v := 200) X d_Mo_clearOld_27 (by decide) ?_
      refine J_icmp_ge (tgt := 120) X d_Mo_clearOld_30 (by decide) (fun g => ?_) (fun g => ?_)
      · refine J_iload_n X d_Mo_clearOld_120 rfl rfl ?_
        exact J_iret X ⟨ρ, hL, rfl, rfl⟩ (by decide) (by decide) d_Mo_clearOld_121
      · exact absurd (by decide) g
    | succ k ih =>
      intro i hi
      have bm : ∀ {b k : Nat}, b ≠ m → wI (uI (rcW w rc ρ) m 12 (wI w m 12 + 1)) b k = wI (rcW w rc ρ) b k := fun h => by rw [wI_uI, if_neg (fun q => h q.1)]
      have a1 : wI (aI (aI (uI (rcW w rc ρ) m 12 (wI w m 12 + 1)) am i (clA w am ρ)) th i (clT w th ol ρ)) am i = wI w am i := by
        rw [aI_out (Or.inl (Ne.symm e2)), aI_out (Or.inr (Nat.le_refl _)), bm (Ne.symm f4), rcW_no (Ne.symm e6)]
      have a2 : ∀ {q : Nat}, q < 200 → wI (aI (aI (uI (rcW w rc ρ) m 12 (wI w m 12 + 1)) am i (clA w am ρ)) th i (clT w th ol ρ)) rc q = bI (ρ q) := fun hq => by
        rw [aI_out (Or.inl (Ne.symm n2)), aI_out (Or.inl e6), bm (Ne.symm f5), rcW_at hq]
      refine J_iload_n X d_Mo_clearOld_26 rfl rfl ?_
      refine J_sipush (v := 200) X d_Mo_clearOld_27 (by decide) ?_
      refine J_icmp_ge (tgt := 120) X d_Mo_clearOld_30 (by decide) (fun g => ?_) (fun g => ?_)
      · exact absurd g (by rw [show (200 : Int32) = nI 200 from rfl]; exact nI_ge (by omega) (by omega))
      · have fin : ∀ {v : Int32} {W : Wd} {c0 s0 : Nat}, c0 ≤ 0 → s0 ≤ 0 → v = sumTo (freF w th ol sz ρ) (i + 1) → W = aI (aI (uI (rcW w rc ρ) m 12 (wI w m 12 + 1)) am (i + 1) (clA w am ρ)) th (i + 1) (clT w th ol ρ) → J Γ Δ (AE Γ w) 3 W c0 s0 (QE Γ Δ w (fun q w' => ∃ ρ, Least w fd sz (mks (fun _ => false) (regL w re nr)) ρ ∧ q = some (.int (sumTo (freF w th ol sz ρ) 200)) ∧ w' = clW w m th ol am rc ρ) (rmL 3 0 0)) 114 [some (.ref m), some (.int v), some (.int (nI i))] [] := fun hc hs hv hW => by
          subst hv
          subst hW
          refine J_widen (c2 := 0) (s2 := 0) hc hs ?_
          refine J_iinc X d_Mo_clearOld_114 rfl (by decide) (nI_s i) rfl ?_
          refine J_goto (tgt := 26) X d_Mo_clearOld_117 (by decide) ?_
          exact ih (i + 1) (by omega)
        have step : ∀ {v : Int32}, v = clA w am ρ i → J Γ Δ (AE Γ w) 3 (aI (aI (uI (rcW w rc ρ) m 12 (wI w m 12 + 1)) am i (clA w am ρ)) th i (clT w th ol ρ)) 0 0 (QE Γ Δ w (fun q w' => ∃ ρ, Least w fd sz (mks (fun _ => false) (regL w re nr)) ρ ∧ q = some (.int (sumTo (freF w th ol sz ρ) 200)) ∧ w' = clW w m th ol am rc ρ) (rmL 3 0 0)) 71 [some (.ref m), some (.int (sumTo (freF w th ol sz ρ) i)), some (.int (nI i))] [.int v, .int (nI i), .ref am] := fun hv => by
          subst hv
          refine J_iast X (ka) (by decide) rfl rfl (rfl) (by omega) (by decide) d_Mo_clearOld_71 ?_
          refine J_eq (w' := aI (aI (uI (rcW w rc ρ) m 12 (wI w m 12 + 1)) am (i + 1) (clA w am ρ)) th i (clT w th ol ρ)) (by rw [aI_comm (Ne.symm e2), aI_step]) rfl ?_
          have b1 : wI (aI (aI (uI (rcW w rc ρ) m 12 (wI w m 12 + 1)) am (i + 1) (clA w am ρ)) th i (clT w th ol ρ)) th i = wI w th i := by
            rw [aI_out (Or.inr (Nat.le_refl _)), aI_out (Or.inl e2), bm (Ne.symm f1), rcW_no n2]
          have b2 : wI (aI (aI (uI (rcW w rc ρ) m 12 (wI w m 12 + 1)) am (i + 1) (clA w am ρ)) th i (clT w th ol ρ)) ol i = wI w ol i := by
            rw [aI_out (Or.inl (Ne.symm n1)), aI_out (Or.inl e4), bm (Ne.symm f2), rcW_no n3]
          have b3 : wI (aI (aI (uI (rcW w rc ρ) m 12 (wI w m 12 + 1)) am (i + 1) (clA w am ρ)) th i (clT w th ol ρ)) rc i = bI (ρ i) := by
            rw [aI_out (Or.inl (Ne.symm n2)), aI_out (Or.inl e6), bm (Ne.symm f5), rcW_at (by omega)]
          have keep : gone w th ol ρ i = false → aI (aI (uI (rcW w rc ρ) m 12 (wI w m 12 + 1)) am (i + 1) (clA w am ρ)) th i (clT w th ol ρ) = aI (aI (uI (rcW w rc ρ) m 12 (wI w m 12 + 1)) am (i + 1) (clA w am ρ)) th (i + 1) (clT w th ol ρ) := fun hg => by
            refine (aI_next ?_).symm
            rw [show clT w th ol ρ i = wI w th i from if_neg (by rw [hg]; decide), aI_out (Or.inl e2), bm (Ne.symm f1), rcW_no n2]
          have ksum : gone w th ol ρ i = false → sumTo (freF w th ol sz ρ) i = sumTo (freF w th ol sz ρ) (i + 1) := fun hg => by
            rw [sumTo_s, freF, if_neg (by rw [hg]; decide), Int32.add_zero]
          first | refine J_aload_nr X d_Mo_clearOld_72 rfl rfl ?_ | refine J_aload_n X d_Mo_clearOld_72 rfl rfl ?_ | refine J_aload_n0 X d_Mo_clearOld_72 rfl rfl ?_
          refine J_getR X (hm) fa_Mo_13_6 rfl (h5) d_Mo_clearOld_73 ?_
          refine J_iload_n X d_Mo_clearOld_76 rfl rfl ?_
          refine J_zald X (kt) (by decide) rfl rfl (rfl) (by omega) (by decide) (b1) d_Mo_clearOld_77 ?_
          refine J_if_eq (tgt := 114) X d_Mo_clearOld_78 (by decide) (fun g1 => ?_) (fun g1 => ?_)
          · have hg : gone w th ol ρ i = false := by simp [gone, g1]
            exact fin (by decide) (by decide) (ksum hg) (keep hg)
          · first | refine J_aload_nr X d_Mo_clearOld_81 rfl rfl ?_ | refine J_aload_n X d_Mo_clearOld_81 rfl rfl ?_ | refine J_aload_n0 X d_Mo_clearOld_81 rfl rfl ?_
            refine J_getR X (hm) fa_Mo_17_6 rfl (h6) d_Mo_clearOld_82 ?_
            refine J_iload_n X d_Mo_clearOld_85 rfl rfl ?_
            refine J_zald X (ko) (by decide) rfl rfl (rfl) (by omega) (by decide) (b2) d_Mo_clearOld_86 ?_
            refine J_if_eq (tgt := 114) X d_Mo_clearOld_87 (by decide) (fun g2 => ?_) (fun g2 => ?_)
            · have hg : gone w th ol ρ i = false := by simp [gone, g2]
              exact fin (by decide) (by decide) (ksum hg) (keep hg)
            · first | refine J_aload_nr X d_Mo_clearOld_90 rfl rfl ?_ | refine J_aload_n X d_Mo_clearOld_90 rfl rfl ?_ | refine J_aload_n0 X d_Mo_clearOld_90 rfl rfl ?_
              refine J_getR X (hm) fa_Mo_30_6 rfl (h10) d_Mo_clearOld_91 ?_
              refine J_iload_n X d_Mo_clearOld_94 rfl rfl ?_
              refine J_zald X (kr) (by decide) rfl rfl (rfl) (by omega) (by decide) (b3) d_Mo_clearOld_95 ?_
              refine J_if_ne (tgt := 114) X d_Mo_clearOld_96 (by decide) (fun g3 => ?_) (fun g3 => ?_)
              · have hg : gone w th ol ρ i = false := by
                  cases hb : ρ i with
                  | true => simp [gone, hb]
                  | false => rw [hb] at g3; exact absurd rfl g3
                exact fin (by decide) (by decide) (ksum hg) (keep hg)
              · have hg : gone w th ol ρ i = true := by simp [gone, g1, g2, bI_0.mp g3]
                first | refine J_aload_nr X d_Mo_clearOld_99 rfl rfl ?_ | refine J_aload_n X d_Mo_clearOld_99 rfl rfl ?_ | refine J_aload_n0 X d_Mo_clearOld_99 rfl rfl ?_
                refine J_getR X (hm) fa_Mo_13_6 rfl (h5) d_Mo_clearOld_100 ?_
                refine J_iload_n X d_Mo_clearOld_103 rfl rfl ?_
                refine J_iconst (v := 0) X d_Mo_clearOld_104 (by decide) ?_
                refine J_zast X (kt) (by decide) rfl rfl (by decide) (rfl) (by omega) (by decide) d_Mo_clearOld_105 ?_
                refine J_iload_n X d_Mo_clearOld_106 rfl rfl ?_
                first | refine J_aload_nr X d_Mo_clearOld_107 rfl rfl ?_ | refine J_aload_n X d_Mo_clearOld_107 rfl rfl ?_ | refine J_aload_n0 X d_Mo_clearOld_107 rfl rfl ?_
                refine J_iload_n X d_Mo_clearOld_108 rfl rfl ?_
                refine J_eq (w' := aI (aI (uI (rcW w rc ρ) m 12 (wI w m 12 + 1)) am (i + 1) (clA w am ρ)) th (i + 1) (clT w th ol ρ)) (by have hz := aI_step (aI (uI (rcW w rc ρ) m 12 (wI w m 12 + 1)) am (i + 1) (clA w am ρ)) th i (clT w th ol ρ); rw [show clT w th ol ρ i = 0 from if_pos hg] at hz; exact hz) rfl ?_
                refine J_callV X (hm) rfl (k_cellsOf (p := i) hm h7 ks (by omega)) cd_Mo_cellsOf lk_Mo_54 vi_Mo_cellsOf (by decide) (by decide) (by decide) (by decide) rfl (by first | decide | simp [va_rf_cat, vc_r, vc_i, vc_0]) d_Mo_clearOld_109 (fun q w4 hq => ?_)
                obtain ⟨rfl, hw4⟩ := hq
                have hcel : celI (aI (aI (uI (rcW w rc ρ) m 12 (wI w m 12 + 1)) am (i + 1) (clA w am ρ)) th (i + 1) (clT w th ol ρ)) sz i = celI w sz i := by
                  rw [celI, celI, aI_out (Or.inl (Ne.symm e1)), aI_out (Or.inl n4), bm (Ne.symm f3), rcW_no (Ne.symm e5)]
                rw [hcel]
                refine J_iadd X d_Mo_clearOld_112 ?_
                refine J_istore_n X d_Mo_clearOld_113 rfl (by decide) rfl ?_
                exact fin (by decide) (by decide) (by rw [sumTo_s, freF, if_pos hg]) hw4
        first | refine J_aload_nr X d_Mo_clearOld_33 rfl rfl ?_ | refine J_aload_n X d_Mo_clearOld_33 rfl rfl ?_ | refine J_aload_n0 X d_Mo_clearOld_33 rfl rfl ?_
        refine J_getR X (hm) fa_Mo_24_6 rfl (h8) d_Mo_clearOld_34 ?_
        refine J_iload_n X d_Mo_clearOld_37 rfl rfl ?_
        first | refine J_aload_nr X d_Mo_clearOld_38 rfl rfl ?_ | refine J_aload_n X d_Mo_clearOld_38 rfl rfl ?_ | refine J_aload_n0 X d_Mo_clearOld_38 rfl rfl ?_
        refine J_getR X (hm) fa_Mo_24_6 rfl (h8) d_Mo_clearOld_39 ?_
        refine J_iload_n X d_Mo_clearOld_42 rfl rfl ?_
        refine J_iald X (ka) (by decide) rfl rfl (rfl) (by omega) (by decide) (a1) d_Mo_clearOld_43 ?_
        refine J_if_lt (tgt := 65) X d_Mo_clearOld_44 (by decide) (fun g1 => ?_) (fun g1 => ?_)
        · first | refine J_aload_nr X d_Mo_clearOld_65 rfl rfl ?_ | refine J_aload_n X d_Mo_clearOld_65 rfl rfl ?_ | refine J_aload_n0 X d_Mo_clearOld_65 rfl rfl ?_
          refine J_getR X (hm) fa_Mo_24_6 rfl (h8) d_Mo_clearOld_66 ?_
          refine J_iload_n X d_Mo_clearOld_69 rfl rfl ?_
          refine J_iald X (ka) (by decide) rfl rfl (rfl) (by omega) (by decide) (a1) d_Mo_clearOld_70 ?_
          exact step (by rw [clA, cutA, if_neg (fun q => Int32.not_le.mpr g1 q.1)])
        · obtain ⟨q, hq, e⟩ : ∃ q, q < 200 ∧ wI w am i = nI q := by
            rcases ha i (by omega) with e | h
            · rw [e] at g1; exact absurd (by decide) g1
            · exact h
          first | refine J_aload_nr X d_Mo_clearOld_47 rfl rfl ?_ | refine J_aload_n X d_Mo_clearOld_47 rfl rfl ?_ | refine J_aload_n0 X d_Mo_clearOld_47 rfl rfl ?_
          refine J_getR X (hm) fa_Mo_30_6 rfl (h10) d_Mo_clearOld_48 ?_
          first | refine J_aload_nr X d_Mo_clearOld_51 rfl rfl ?_ | refine J_aload_n X d_Mo_clearOld_51 rfl rfl ?_ | refine J_aload_n0 X d_Mo_clearOld_51 rfl rfl ?_
          refine J_getR X (hm) fa_Mo_24_6 rfl (h8) d_Mo_clearOld_52 ?_
          refine J_iload_n X d_Mo_clearOld_55 rfl rfl ?_
          refine J_iald X (ka) (by decide) rfl rfl (rfl) (by omega) (by decide) (a1.trans e) d_Mo_clearOld_56 ?_
          refine J_zald X (kr) (by decide) rfl rfl (rfl) (hq) (by decide) (a2 hq) d_Mo_clearOld_57 ?_
          refine J_if_ne (tgt := 65) X d_Mo_clearOld_58 (by decide) (fun g2 => ?_) (fun g2 => ?_)
          · first | refine J_aload_nr X d_Mo_clearOld_65 rfl rfl ?_ | refine J_aload_n X d_Mo_clearOld_65 rfl rfl ?_ | refine J_aload_n0 X d_Mo_clearOld_65 rfl rfl ?_
            refine J_getR X (hm) fa_Mo_24_6 rfl (h8) d_Mo_clearOld_66 ?_
            refine J_iload_n X d_Mo_clearOld_69 rfl rfl ?_
            refine J_iald X (ka) (by decide) rfl rfl (rfl) (by omega) (by decide) (a1) d_Mo_clearOld_70 ?_
            exact step (by rw [clA, cutA, if_neg (fun z => by rw [e, nI_clamp (by omega)] at z; exact g2 z.2)])
          · refine J_iconst (v := -1) X d_Mo_clearOld_61 (by decide) ?_
            refine J_goto (tgt := 71) X d_Mo_clearOld_62 (by decide) ?_
            exact step (by rw [clA, cutA, if_pos ⟨Int32.not_lt.mp g1, by rw [e, nI_clamp (by omega)]; exact g2⟩])
  exact J_eq (by rw [aI_zero, aI_zero]) rfl (loop 200 0 rfl)
end TW
