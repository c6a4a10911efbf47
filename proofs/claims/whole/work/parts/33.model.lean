/-! the model: its state, its leaves -/
/-- the first n ints of a row -/
def aI (w : Wd) (a n : Nat) (f : Nat → Int32) : Wd := (w.1, fun b k => if b = a ∧ k < n then f k else w.2.1 b k, w.2.2)
theorem aI_int (w : Wd) (a n : Nat) (f : Nat → Int32) (b k : Nat) : wI (aI w a n f) b k = if b = a ∧ k < n then f k else wI w b k := rfl
theorem aI_K (w : Wd) (a n : Nat) (f : Nat → Int32) (b : Nat) : wK (aI w a n f) b = wK w b := rfl
theorem aI_P (w : Wd) (a n : Nat) (f : Nat → Int32) (b k : Nat) : wP (aI w a n f) b k = wP w b k := rfl
theorem aI_L (w : Wd) (a n : Nat) (f : Nat → Int32) (b k : Nat) : wL (aI w a n f) b k = wL w b k := rfl
theorem aI_in {w : Wd} {a n : Nat} {f : Nat → Int32} {k : Nat} (h : k < n) : wI (aI w a n f) a k = f k := by rw [aI_int, if_pos ⟨rfl, h⟩]
theorem aI_out {w : Wd} {a n : Nat} {f : Nat → Int32} {b k : Nat} (h : b ≠ a ∨ n ≤ k) : wI (aI w a n f) b k = wI w b k := by
  rw [aI_int, if_neg (fun q => h.elim (fun h => h q.1) (fun h => absurd q.2 (by omega)))]
theorem aI_zero (w : Wd) (a : Nat) (f : Nat → Int32) : aI w a 0 f = w := by
  refine Prod.ext rfl (Prod.ext ?_ rfl)
  funext b k
  show (if b = a ∧ k < 0 then f k else w.2.1 b k) = w.2.1 b k
  rw [if_neg (fun q => absurd q.2 (by omega))]
theorem aI_step (w : Wd) (a n : Nat) (f : Nat → Int32) : uI (aI w a n f) a n (f n) = aI w a (n + 1) f := by
  refine Prod.ext rfl (Prod.ext ?_ rfl)
  funext b k
  show (if b = a ∧ k = n then f n else if b = a ∧ k < n then f k else w.2.1 b k) = (if b = a ∧ k < n + 1 then f k else w.2.1 b k)
  by_cases h : b = a
  · by_cases h2 : k = n
    · subst h2; simp [h]
    · by_cases h3 : k < n
      · rw [if_neg (fun q => h2 q.2), if_pos ⟨h, h3⟩, if_pos ⟨h, by omega⟩]
      · rw [if_neg (fun q => h2 q.2), if_neg (fun q => h3 q.2), if_neg (fun q => absurd q.2 (by omega))]
  · simp [h]
theorem aI_congr {w : Wd} {a n : Nat} {f g : Nat → Int32} (h : ∀ k, k < n → f k = g k) : aI w a n f = aI w a n g := by
  refine Prod.ext rfl (Prod.ext ?_ rfl)
  funext b k
  show (if b = a ∧ k < n then f k else w.2.1 b k) = (if b = a ∧ k < n then g k else w.2.1 b k)
  by_cases q : b = a ∧ k < n
  · rw [if_pos q, if_pos q, h k q.2]
  · rw [if_neg q, if_neg q]
theorem aI_self {w : Wd} {a n : Nat} {f : Nat → Int32} (h : ∀ k, k < n → wI w a k = f k) : aI w a n f = w := by
  refine Prod.ext rfl (Prod.ext ?_ rfl)
  funext b k
  show (if b = a ∧ k < n then f k else w.2.1 b k) = w.2.1 b k
  by_cases q : b = a ∧ k < n
  · rw [if_pos q, ← h k q.2, q.1]; rfl
  · rw [if_neg q]
theorem aI_aI (w : Wd) (a n : Nat) (f g : Nat → Int32) : aI (aI w a n f) a n g = aI w a n g := by
  refine Prod.ext rfl (Prod.ext ?_ rfl)
  funext b k
  show (if b = a ∧ k < n then g k else if b = a ∧ k < n then f k else w.2.1 b k) = (if b = a ∧ k < n then g k else w.2.1 b k)
  by_cases q : b = a ∧ k < n
  · rw [if_pos q, if_pos q]
  · rw [if_neg q, if_neg q, if_neg q]
theorem aI_put {w : Wd} {a n j : Nat} {f : Nat → Int32} {v : Int32} (h : j < n) : uI (aI w a n f) a j v = aI w a n (fun k => if k = j then v else f k) := by
  refine Prod.ext rfl (Prod.ext ?_ rfl)
  funext b k
  show (if b = a ∧ k = j then v else if b = a ∧ k < n then f k else w.2.1 b k) = (if b = a ∧ k < n then (if k = j then v else f k) else w.2.1 b k)
  by_cases q : b = a
  · by_cases e : k = j
    · rw [if_pos ⟨q, e⟩, if_pos ⟨q, by omega⟩, if_pos e]
    · rw [if_neg (fun z => e z.2)]
      by_cases e2 : k < n
      · rw [if_pos ⟨q, e2⟩, if_pos ⟨q, e2⟩, if_neg e]
      · rw [if_neg (fun z => e2 z.2), if_neg (fun z => e2 z.2)]
  · rw [if_neg (fun z => q z.1), if_neg (fun z => q z.1), if_neg (fun z => q z.1)]
def sumTo (f : Nat → Int32) : Nat → Int32
  | 0 => 0
  | n + 1 => sumTo f n + f n
theorem sumTo_s (f : Nat → Int32) (n : Nat) : sumTo f (n + 1) = sumTo f n + f n := rfl
theorem sumTo_congr {f g : Nat → Int32} : ∀ {n : Nat}, (∀ k, k < n → f k = g k) → sumTo f n = sumTo g n
  | 0, _ => rfl
  | n + 1, h => by rw [sumTo_s, sumTo_s, sumTo_congr (fun k hk => h k (by omega)), h n (by omega)]
theorem sumTo_nat {f : Nat → Int32} {g : Nat → Nat} : ∀ {n : Nat}, (∀ k, k < n → f k = nI (g k)) → sumTo f n = nI (((List.range n).map g).sum)
  | 0, _ => rfl
  | n + 1, h => by
    rw [sumTo_s, sumTo_nat (fun k hk => h k (by omega)), h n (by omega), nI_add, List.range_succ, List.map_append, List.sum_append]
    simp
/-- the model's objects -/
def MS (w : Wd) (m re th ol sz am fd rc nr ly lo : Nat) : Prop :=
  wK w m = some (.inl 6) ∧ (wI w m 1 = nI nr ∧ wI w m 2 = nI ly ∧ wI w m 3 = nI lo) ∧ (wP w m 4 = some re ∧ wK w re = some (.inr (2, 8))) ∧ (wP w m 5 = some th ∧ wK w th = some (.inr (1, 200))) ∧ (wP w m 6 = some ol ∧ wK w ol = some (.inr (1, 200))) ∧ (wP w m 7 = some sz ∧ wK w sz = some (.inr (0, 200))) ∧ (wP w m 8 = some am ∧ wK w am = some (.inr (0, 200))) ∧ (wP w m 9 = some fd ∧ wK w fd = some (.inr (2, 2200))) ∧ (wP w m 10 = some rc ∧ wK w rc = some (.inr (1, 200))) ∧ (th ≠ ol ∧ th ≠ rc ∧ ol ≠ rc ∧ sz ≠ am) ∧ (1 ≤ nr ∧ nr ≤ 8) ∧ (4 ≤ ly ∧ ly ≤ 60) ∧ (4 ≤ lo ∧ lo ≤ 120)
theorem MS_congr {w w' : Wd} {m re th ol sz am fd rc nr ly lo : Nat} (hK : ∀ b, wK w' b = wK w b) (hP : ∀ k, wP w' m k = wP w m k) (hI : ∀ k, 1 ≤ k → k ≤ 3 → wI w' m k = wI w m k) (H : MS w m re th ol sz am fd rc nr ly lo) : MS w' m re th ol sz am fd rc nr ly lo := by
  obtain ⟨h0, ⟨i1, i2, i3⟩, ⟨a1, a2⟩, ⟨b1, b2⟩, ⟨c1, c2⟩, ⟨d1, d2⟩, ⟨e1, e2⟩, ⟨f1, f2⟩, ⟨g1, g2⟩, hd⟩ := H
  exact ⟨(hK _).trans h0, ⟨(hI 1 (by decide) (by decide)).trans i1, (hI 2 (by decide) (by decide)).trans i2, (hI 3 (by decide) (by decide)).trans i3⟩, ⟨(hP _).trans a1, (hK _).trans a2⟩, ⟨(hP _).trans b1, (hK _).trans b2⟩, ⟨(hP _).trans c1, (hK _).trans c2⟩, ⟨(hP _).trans d1, (hK _).trans d2⟩, ⟨(hP _).trans e1, (hK _).trans e2⟩, ⟨(hP _).trans f1, (hK _).trans f2⟩, ⟨(hP _).trans g1, (hK _).trans g2⟩, hd⟩
theorem MS_aI {w : Wd} {m re th ol sz am fd rc nr ly lo a n t z : Nat} {f : Nat → Int32} (ha : wK w a = some (.inr (t, z))) (H : MS w m re th ol sz am fd rc nr ly lo) : MS (aI w a n f) m re th ol sz am fd rc nr ly lo :=
  MS_congr (w := w) (fun _ => rfl) (fun _ => rfl) (fun k _ _ => aI_out (Or.inl (fun e => by have := H.1; rw [e, ha] at this; cases this))) H
theorem MS_uI {w : Wd} {m re th ol sz am fd rc nr ly lo k : Nat} {v : Int32} (hk : k = 0 ∨ 3 < k) (H : MS w m re th ol sz am fd rc nr ly lo) : MS (uI w m k v) m re th ol sz am fd rc nr ly lo :=
  MS_congr (w := w) (fun _ => rfl) (fun _ => rfl) (fun j h1 h2 => by rw [wI_uI, if_neg (fun q => by omega)]) H
theorem MS_uIa {w : Wd} {m re th ol sz am fd rc nr ly lo a k t z : Nat} {v : Int32} (ha : wK w a = some (.inr (t, z))) (H : MS w m re th ol sz am fd rc nr ly lo) : MS (uI w a k v) m re th ol sz am fd rc nr ly lo :=
  MS_congr (w := w) (fun _ => rfl) (fun _ => rfl) (fun j h1 h2 => by rw [wI_uI, if_neg (fun q => by have := H.1; rw [q.1, ha] at this; cases this)]) H
theorem MS_uL {w : Wd} {m re th ol sz am fd rc nr ly lo a k : Nat} {v : Int64} (H : MS w m re th ol sz am fd rc nr ly lo) : MS (uL w a k v) m re th ol sz am fd rc nr ly lo :=
  MS_congr (w := w) (fun _ => rfl) (fun _ => rfl) (fun _ _ _ => rfl) H
theorem regB_lt {nr : Nat} {r : Int32} (h1 : 1 ≤ nr) (h2 : nr < 1000) : regB nr r ↔ 0 ≤ r ∧ r < nI nr := by
  constructor
  · intro h
    obtain ⟨j, hj, rfl⟩ := regB_at h1 h2 h
    exact ⟨nI_pos' (by omega), nI_lt hj (by omega)⟩
  · rintro ⟨h, h'⟩
    obtain ⟨j, hj, rfl⟩ := nI_of1 (by omega) h h'
    exact regB_nI h2 hj
/-- the place that a register holds, or -1 -/
def plc (w : Wd) (re nr : Nat) (r : Int32) : Int32 := if regB nr r ∧ 2199023255552 ≤ wL w re r.toNatClampNeg then (wL w re r.toNatClampNeg - 2199023255552).toInt32 else -1
def celI (w : Wd) (sz p : Nat) : Int32 := if wI w sz p < 0 then 2 else wI w sz p + 1
def takF (w : Wd) (th ol sz : Nat) (b : Int32) (p : Nat) : Int32 := if wI w th p = 0 then 0 else if wI w ol p = b then celI w sz p else 0
section ML
variable {l : Launch} {Δ : Dat} {w : Wd} {m re th ol sz am fd rc nr ly lo : Nat} {r : Int32}
set_option maxRecDepth 100000 in
theorem k_thrown (hm : wK w m = some (.inl 6)) : Ct l y_Mo_thrown h_Mo_thrown (rmL 0 0 0) Δ [.ref m] w (fun q w' => q = some (.int (wI w m 0)) ∧ w' = w) := by
  refine Ct_of (L := [some (.ref m)]) (by decide) (by first | exact Nat.le_of_ble_eq_true rfl | simp [lg_sl, va_rf_cat, vc_r, vc_i, vc_0]) (by first | rfl | simp [lin, va_rf_cat, vc_r, vc_i, vc_0]) (fun Γ X => ?_)
  first | refine J_aload_nr X d_Mo_thrown_0 rfl rfl ?_ | refine J_aload_n X d_Mo_thrown_0 rfl rfl ?_ | refine J_aload_n0 X d_Mo_thrown_0 rfl rfl ?_
  refine J_getI X (hm) fa_Mo_45_6 rfl (rfl) d_Mo_thrown_1 ?_
  exact J_iret X ⟨rfl, rfl⟩ (by decide) (by decide) d_Mo_thrown_4
set_option maxRecDepth 100000 in
theorem k_when {z n : Int32} (hm : wK w m = some (.inl 6)) (hz : z = 0 ∨ z = 1) : Ct l y_Mo_when h_Mo_when (rmL 0 0 0) Δ [.ref m, .int z, .int n] w (fun q w' => q = some (.int z) ∧ w' = uI w m 0 (if z = 0 then n else 0)) := by
  refine Ct_of (L := [some (.ref m), some (.int z), some (.int n)]) (by decide) (by first | exact Nat.le_of_ble_eq_true rfl | simp [lg_sl, va_rf_cat, vc_r, vc_i, vc_0]) (by first | rfl | simp [lin, va_rf_cat, vc_r, vc_i, vc_0]) (fun Γ X => ?_)
  first | refine J_aload_nr X d_Mo_when_0 rfl rfl ?_ | refine J_aload_n X d_Mo_when_0 rfl rfl ?_ | refine J_aload_n0 X d_Mo_when_0 rfl rfl ?_
  refine J_iload_n X d_Mo_when_1 rfl rfl ?_
  refine J_if_eq (tgt := 9) X d_Mo_when_2 (by decide) (fun g => ?_) (fun g => ?_)
  · refine J_iload_n X d_Mo_when_9 rfl rfl ?_
    refine J_putI X (hm) fp_Mo_45_6 rfl d_Mo_when_10 ?_
    refine J_iload_n X d_Mo_when_13 rfl rfl ?_
    exact J_zret X hz ⟨rfl, by rw [if_pos g]⟩ (by decide) (by decide) d_Mo_when_14
  · refine J_iconst (v := 0) X d_Mo_when_5 (by decide) ?_
    refine J_goto (tgt := 10) X d_Mo_when_6 (by decide) ?_
    refine J_putI X (hm) fp_Mo_45_6 rfl d_Mo_when_10 ?_
    refine J_iload_n X d_Mo_when_13 rfl rfl ?_
    exact J_zret X hz ⟨rfl, by rw [if_neg g]⟩ (by decide) (by decide) d_Mo_when_14
set_option maxRecDepth 100000 in
theorem k_is (H : MS w m re th ol sz am fd rc nr ly lo) : Ct l y_Mo_is h_Mo_is (rmL 0 0 0) Δ [.ref m, .int r] w (fun q w' => q = some (.int (if regB nr r then 1 else 0)) ∧ w' = w) := by
  obtain ⟨hm, ⟨hnr, -, -⟩, -, -, -, -, -, -, -, -, hb, -⟩ := H
  have e := regB_lt (nr := nr) (r := r) hb.1 (by omega)
  refine Ct_of (L := [some (.ref m), some (.int r)]) (by decide) (by first | exact Nat.le_of_ble_eq_true rfl | simp [lg_sl, va_rf_cat, vc_r, vc_i, vc_0]) (by first | rfl | simp [lin, va_rf_cat, vc_r, vc_i, vc_0]) (fun Γ X => ?_)
  refine J_iload_n X d_Mo_is_0 rfl rfl ?_
  refine J_if_lt (tgt := 16) X d_Mo_is_1 (by decide) (fun g => ?_) (fun g => ?_)
  · refine J_iconst (v := 0) X d_Mo_is_16 (by decide) ?_
    exact J_zret X (Or.inl rfl) ⟨by rw [if_neg (fun q => (Int32.not_le.mpr g) (e.mp q).1)], rfl⟩ (by decide) (by decide) d_Mo_is_17
  · refine J_iload_n X d_Mo_is_4 rfl rfl ?_
    first | refine J_aload_nr X d_Mo_is_5 rfl rfl ?_ | refine J_aload_n X d_Mo_is_5 rfl rfl ?_ | refine J_aload_n0 X d_Mo_is_5 rfl rfl ?_
    refine J_getI X (hm) fa_Mo_33_6 rfl (hnr) d_Mo_is_6 ?_
    refine J_icmp_ge (tgt := 16) X d_Mo_is_9 (by decide) (fun g2 => ?_) (fun g2 => ?_)
    · refine J_iconst (v := 0) X d_Mo_is_16 (by decide) ?_
      exact J_zret X (Or.inl rfl) ⟨by rw [if_neg (fun q => (Int32.not_lt.mpr g2) (e.mp q).2)], rfl⟩ (by decide) (by decide) d_Mo_is_17
    · refine J_iconst (v := 1) X d_Mo_is_12 (by decide) ?_
      refine J_goto (tgt := 17) X d_Mo_is_13 (by decide) ?_
      exact J_zret X (Or.inr rfl) ⟨by rw [if_pos (e.mpr ⟨Int32.not_lt.mp g, Int32.not_le.mp g2⟩)], rfl⟩ (by decide) (by decide) d_Mo_is_17
set_option maxRecDepth 100000 in
theorem k_placeIn (H : MS w m re th ol sz am fd rc nr ly lo) : Ct l y_Mo_placeIn h_Mo_placeIn (rmL 1 0 0) Δ [.ref m, .int r] w (fun q w' => q = some (.int (plc w re nr r)) ∧ w' = w) := by
  have H' := H
  obtain ⟨hm, ⟨hnr, -, -⟩, ⟨hre, kre⟩, -, -, -, -, -, -, -, hb, -⟩ := H'
  refine Ct_of (L := [some (.ref m), some (.int r)]) (by decide) (by first | exact Nat.le_of_ble_eq_true rfl | simp [lg_sl, va_rf_cat, vc_r, vc_i, vc_0]) (by first | rfl | simp [lin, va_rf_cat, vc_r, vc_i, vc_0]) (fun Γ X => ?_)
  first | refine J_aload_nr X d_Mo_placeIn_0 rfl rfl ?_ | refine J_aload_n X d_Mo_placeIn_0 rfl rfl ?_ | refine J_aload_n0 X d_Mo_placeIn_0 rfl rfl ?_
  refine J_iload_n X d_Mo_placeIn_1 rfl rfl ?_
  refine J_callV X (hm) rfl (k_is (r := r) H) cd_Mo_is lk_Mo_48 vi_Mo_is (by decide) (by decide) (by decide) (by decide) rfl (by first | decide | simp [va_rf_cat, vc_r, vc_i, vc_0]) d_Mo_placeIn_2 (fun q w1 hq => ?_)
  obtain ⟨rfl, hw1⟩ := hq
  refine J_eq hw1 rfl ?_
  by_cases h : regB nr r
  · refine J_top (v' := .int 1) (by rw [if_pos h]) ?_
    obtain ⟨j, hj, rfl⟩ := regB_at hb.1 (by omega) h
    have ec : (nI j).toNatClampNeg = j := nI_clamp (by omega)
    refine J_if_eq (tgt := 35) X d_Mo_placeIn_5 (by decide) (fun g => ?_) (fun g => ?_)
    · exact absurd g (by decide)
    · first | refine J_aload_nr X d_Mo_placeIn_8 rfl rfl ?_ | refine J_aload_n X d_Mo_placeIn_8 rfl rfl ?_ | refine J_aload_n0 X d_Mo_placeIn_8 rfl rfl ?_
      refine J_getR X (hm) fa_Mo_7_6 rfl (hre) d_Mo_placeIn_9 ?_
      refine J_iload_n X d_Mo_placeIn_12 rfl rfl ?_
      refine J_lald X (kre) (by decide) rfl rfl (rfl) (by omega) (by decide) (rfl) d_Mo_placeIn_13 ?_
      refine J_ldc2 X d_Mo_placeIn_14 m_566 ?_
      refine J_lcmp X d_Mo_placeIn_17 ?_
      refine J_if_lt (tgt := 35) X d_Mo_placeIn_18 (by decide) (fun g => ?_) (fun g => ?_)
      · refine J_iconst (v := -1) X d_Mo_placeIn_35 (by decide) ?_
        exact J_iret X ⟨by rw [plc, if_neg (fun q => by rw [lg_cmp_lt, ← ec] at g; exact Int64.not_le.mpr g q.2)], rfl⟩ (by decide) (by decide) d_Mo_placeIn_36
      · first | refine J_aload_nr X d_Mo_placeIn_21 rfl rfl ?_ | refine J_aload_n X d_Mo_placeIn_21 rfl rfl ?_ | refine J_aload_n0 X d_Mo_placeIn_21 rfl rfl ?_
        refine J_getR X (hm) fa_Mo_7_6 rfl (hre) d_Mo_placeIn_22 ?_
        refine J_iload_n X d_Mo_placeIn_25 rfl rfl ?_
        refine J_lald X (kre) (by decide) rfl rfl (rfl) (by omega) (by decide) (rfl) d_Mo_placeIn_26 ?_
        refine J_ldc2 X d_Mo_placeIn_27 m_566 ?_
        refine J_lsub X d_Mo_placeIn_30 ?_
        refine J_l2i X d_Mo_placeIn_31 ?_
        refine J_goto (tgt := 36) X d_Mo_placeIn_32 (by decide) ?_
        exact J_iret X ⟨by rw [plc, if_pos ⟨h, by rw [lg_cmp_lt] at g; rw [ec]; exact Int64.not_lt.mp g⟩, ec], rfl⟩ (by decide) (by decide) d_Mo_placeIn_36
  · refine J_top (v' := .int 0) (by rw [if_neg h]) ?_
    refine J_if_eq (tgt := 35) X d_Mo_placeIn_5 (by decide) (fun g => ?_) (fun g => ?_)
    · refine J_iconst (v := -1) X d_Mo_placeIn_35 (by decide) ?_
      exact J_iret X ⟨by rw [plc, if_neg (fun q => h q.1)], rfl⟩ (by decide) (by decide) d_Mo_placeIn_36
    · exact absurd rfl g
set_option maxRecDepth 100000 in
theorem k_cellsOf {p : Nat} (hm : wK w m = some (.inl 6)) (h7 : wP w m 7 = some sz) (ks : wK w sz = some (.inr (0, 200))) (hp : p < 200) : Ct l y_Mo_cellsOf h_Mo_cellsOf (rmL 0 0 0) Δ [.ref m, .int (nI p)] w (fun q w' => q = some (.int (celI w sz p)) ∧ w' = w) := by
  refine Ct_of (L := [some (.ref m), some (.int (nI p))]) (by decide) (by first | exact Nat.le_of_ble_eq_true rfl | simp [lg_sl, va_rf_cat, vc_r, vc_i, vc_0]) (by first | rfl | simp [lin, va_rf_cat, vc_r, vc_i, vc_0]) (fun Γ X => ?_)
  first | refine J_aload_nr X d_Mo_cellsOf_0 rfl rfl ?_ | refine J_aload_n X d_Mo_cellsOf_0 rfl rfl ?_ | refine J_aload_n0 X d_Mo_cellsOf_0 rfl rfl ?_
  refine J_getR X (hm) fa_Mo_20_6 rfl (h7) d_Mo_cellsOf_1 ?_
  refine J_iload_n X d_Mo_cellsOf_4 rfl rfl ?_
  refine J_iald X (ks) (by decide) rfl rfl (rfl) (hp) (by decide) (rfl) d_Mo_cellsOf_5 ?_
  refine J_if_ge (tgt := 13) X d_Mo_cellsOf_6 (by decide) (fun g => ?_) (fun g => ?_)
  · first | refine J_aload_nr X d_Mo_cellsOf_13 rfl rfl ?_ | refine J_aload_n X d_Mo_cellsOf_13 rfl rfl ?_ | refine J_aload_n0 X d_Mo_cellsOf_13 rfl rfl ?_
    refine J_getR X (hm) fa_Mo_20_6 rfl (h7) d_Mo_cellsOf_14 ?_
    refine J_iload_n X d_Mo_cellsOf_17 rfl rfl ?_
    refine J_iald X (ks) (by decide) rfl rfl (rfl) (hp) (by decide) (rfl) d_Mo_cellsOf_18 ?_
    refine J_iconst (v := 1) X d_Mo_cellsOf_19 (by decide) ?_
    refine J_iadd X d_Mo_cellsOf_20 ?_
    exact J_iret X ⟨by rw [celI, if_neg (Int32.not_lt.mpr g)], rfl⟩ (by decide) (by decide) d_Mo_cellsOf_21
  · refine J_iconst (v := 2) X d_Mo_cellsOf_9 (by decide) ?_
    refine J_goto (tgt := 21) X d_Mo_cellsOf_10 (by decide) ?_
    exact J_iret X ⟨by rw [celI, if_pos (Int32.not_le.mp g)], rfl⟩ (by decide) (by decide) d_Mo_cellsOf_21
set_option maxRecDepth 100000 in
theorem k_taken {b : Int32} (H : MS w m re th ol sz am fd rc nr ly lo) : Ct l y_Mo_taken h_Mo_taken (rmL 1 0 0) Δ [.ref m, .int b] w (fun q w' => q = some (.int (sumTo (takF w th ol sz b) 200)) ∧ w' = w) := by
  obtain ⟨hm, -, -, ⟨h5, kt⟩, ⟨h6, ko⟩, ⟨h7, ks⟩, -⟩ := H
  refine Ct_of (L := [some (.ref m), some (.int b), none, none]) (by decide) (by first | exact Nat.le_of_ble_eq_true rfl | simp [lg_sl, va_rf_cat, vc_r, vc_i, vc_0]) (by first | rfl | simp [lin, va_rf_cat, vc_r, vc_i, vc_0]) (fun Γ X => ?_)
  refine J_iconst (v := 0) X d_Mo_taken_0 (by decide) ?_
  refine J_istore_n X d_Mo_taken_1 rfl (by decide) rfl ?_
  refine J_iconst (v := 0) X d_Mo_taken_2 (by decide) ?_
  refine J_istore_n X d_Mo_taken_3 rfl (by decide) rfl ?_
  have loop : ∀ (k i : Nat), k + i = 200 → J Γ Δ (AE Γ w) 4 w 0 0 (QE Γ Δ w (fun q w' => q = some (.int (sumTo (takF w th ol sz b) 200)) ∧ w' = w) (rmL 1 0 0)) 4 [some (.ref m), some (.int b), some (.int (sumTo (takF w th ol sz b) i)), some (.int (nI i))] [] := by
    intro k
    induction k with
    | zero =>
      intro i hi
      have hi' : i = 200 := by omega
      subst hi'
      refine J_iload_n X d_Mo_taken_4 rfl rfl ?_
      refine J_sipush (v := 200) X d_Mo_taken_5 (by decide) ?_
      refine J_icmp_ge (tgt := 48) X d_Mo_taken_8 (by decide) (fun g => ?_) (fun g => ?_)
      · refine J_iload_n X d_Mo_taken_48 rfl rfl ?_
        exact J_iret X ⟨rfl, rfl⟩ (by decide) (by decide) d_Mo_taken_49
      · exact absurd (by decide) g
    | succ k ih =>
      intro i hi
      refine J_iload_n X d_Mo_taken_4 rfl rfl ?_
      refine J_sipush (v := 200) X d_Mo_taken_5 (by decide) ?_
      refine J_icmp_ge (tgt := 48) X d_Mo_taken_8 (by decide) (fun g => ?_) (fun g => ?_)
      · exact absurd g (by rw [show (200 : Int32) = nI 200 from rfl]; exact nI_ge (by omega) (by omega))
      · have step : ∀ {v : Int32} {c0 s0 : Nat}, c0 ≤ 0 → s0 ≤ 0 → v = takF w th ol sz b i → J Γ Δ (AE Γ w) 4 w c0 s0 (QE Γ Δ w (fun q w' => q = some (.int (sumTo (takF w th ol sz b) 200)) ∧ w' = w) (rmL 1 0 0)) 40 [some (.ref m), some (.int b), some (.int (sumTo (takF w th ol sz b) i)), some (.int (nI i))] [.int v, .int (sumTo (takF w th ol sz b) i)] := fun hc hs hv => by
          refine J_widen (c2 := 0) (s2 := 0) hc hs ?_
          refine J_iadd X d_Mo_taken_40 ?_
          refine J_istore_n X d_Mo_taken_41 rfl (by decide) rfl ?_
          refine J_iinc X d_Mo_taken_42 rfl (by decide) (nI_s i) rfl ?_
          refine J_goto (tgt := 4) X d_Mo_taken_45 (by decide) ?_
          subst hv
          exact ih (i + 1) (by omega)
        refine J_iload_n X d_Mo_taken_11 rfl rfl ?_
        first | refine J_aload_nr X d_Mo_taken_12 rfl rfl ?_ | refine J_aload_n X d_Mo_taken_12 rfl rfl ?_ | refine J_aload_n0 X d_Mo_taken_12 rfl rfl ?_
        refine J_getR X (hm) fa_Mo_13_6 rfl (h5) d_Mo_taken_13 ?_
        refine J_iload_n X d_Mo_taken_16 rfl rfl ?_
        refine J_zald X (kt) (by decide) rfl rfl (rfl) (by omega) (by decide) (rfl) d_Mo_taken_17 ?_
        refine J_if_eq (tgt := 39) X d_Mo_taken_18 (by decide) (fun g1 => ?_) (fun g1 => ?_)
        · refine J_iconst (v := 0) X d_Mo_taken_39 (by decide) ?_
          exact step (by decide) (by decide) (by rw [takF, if_pos g1])
        · first | refine J_aload_nr X d_Mo_taken_21 rfl rfl ?_ | refine J_aload_n X d_Mo_taken_21 rfl rfl ?_ | refine J_aload_n0 X d_Mo_taken_21 rfl rfl ?_
          refine J_getR X (hm) fa_Mo_17_6 rfl (h6) d_Mo_taken_22 ?_
          refine J_iload_n X d_Mo_taken_25 rfl rfl ?_
          refine J_zald X (ko) (by decide) rfl rfl (rfl) (by omega) (by decide) (rfl) d_Mo_taken_26 ?_
          refine J_iload_n X d_Mo_taken_27 rfl rfl ?_
          refine J_icmp_ne (tgt := 39) X d_Mo_taken_28 (by decide) (fun g2 => ?_) (fun g2 => ?_)
          · refine J_iconst (v := 0) X d_Mo_taken_39 (by decide) ?_
            exact step (by decide) (by decide) (by rw [takF, if_neg g1, if_neg g2])
          · first | refine J_aload_nr X d_Mo_taken_31 rfl rfl ?_ | refine J_aload_n X d_Mo_taken_31 rfl rfl ?_ | refine J_aload_n0 X d_Mo_taken_31 rfl rfl ?_
            refine J_iload_n X d_Mo_taken_32 rfl rfl ?_
            refine J_callV X (hm) rfl (k_cellsOf (p := i) hm h7 ks (by omega)) cd_Mo_cellsOf lk_Mo_54 vi_Mo_cellsOf (by decide) (by decide) (by decide) (by decide) rfl (by first | decide | simp [va_rf_cat, vc_r, vc_i, vc_0]) d_Mo_taken_33 (fun q w1 hq => ?_)
            obtain ⟨rfl, hw1⟩ := hq
            refine J_eq hw1 rfl ?_
            refine J_goto (tgt := 40) X d_Mo_taken_36 (by decide) ?_
            exact step (by decide) (by decide) (by rw [takF, if_neg g1, if_pos g2])
  exact loop 200 0 rfl
end ML
