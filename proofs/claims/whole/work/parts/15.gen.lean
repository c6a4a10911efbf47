/-! the generations' methods -/
def rch (w : Wd) (t : Nat) : Bool := decide (¬ wI w t 2 = 0)
/-- the world in which the generation g (its row ga) holds zs -/
def genW (w : Wd) (g ga : Nat) (zs : List Nat) : Wd :=
  (w.1, fun b k => if b = g ∧ k = 2 then nI zs.length else if b = g ∧ k = 3 then sumI w zs else w.2.1 b k, fun b k => if b = ga then (if k < zs.length then zs[k]? else w.2.2.1 b k) else w.2.2.1 b k, w.2.2.2)
theorem genW_cnt (w : Wd) (g ga : Nat) (zs : List Nat) : wI (genW w g ga zs) g 2 = nI zs.length := by simp [genW, wI]
theorem genW_tak (w : Wd) (g ga : Nat) (zs : List Nat) : wI (genW w g ga zs) g 3 = sumI w zs := by simp [genW, wI]
theorem genW_int {w : Wd} {g ga : Nat} {zs : List Nat} {b k : Nat} (h : b ≠ g ∨ (k ≠ 2 ∧ k ≠ 3)) : wI (genW w g ga zs) b k = wI w b k := by
  rcases h with h | ⟨h1, h2⟩
  · simp [genW, wI, h]
  · simp [genW, wI, h1, h2]
theorem genW_ptr {w : Wd} {g ga : Nat} {zs : List Nat} {b k : Nat} (h : b ≠ ga ∨ zs.length ≤ k) : wP (genW w g ga zs) b k = wP w b k := by
  rcases h with h | h
  · simp [genW, wP, h]
  · by_cases e : b = ga
    · simp [genW, wP, e, Nat.not_lt.mpr h]
    · simp [genW, wP, e]
theorem genW_row {w : Wd} {g ga : Nat} {zs : List Nat} {k x : Nat} (h : zs[k]? = some x) : wP (genW w g ga zs) ga k = some x := by
  have := (List.getElem?_eq_some_iff.mp h).1
  simp [genW, wP, this]
  exact (List.getElem?_eq_some_iff.mp h).2
theorem genW_add {w : Wd} {g ga : Nat} {zs : List Nat} {t : Nat} (hs : wI w t 0 = nI (szw w t)) :
    uI (uI (uP (genW w g ga zs) ga zs.length (some t)) g 2 (nI (zs.length + 1))) g 3 (sumI w zs + wI w t 0) = genW w g ga (zs ++ [t]) := by
  have e2 : sumI w (zs ++ [t]) = sumI w zs + wI w t 0 := by
    rw [hs, sumI, sumI, nI_add]
    simp
  refine Prod.ext rfl (Prod.ext ?_ (Prod.ext ?_ rfl))
  · funext b k
    show (if b = g ∧ k = 3 then sumI w zs + wI w t 0 else if b = g ∧ k = 2 then nI (zs.length + 1) else (if b = g ∧ k = 2 then nI zs.length else if b = g ∧ k = 3 then sumI w zs else w.2.1 b k)) = (if b = g ∧ k = 2 then nI (zs ++ [t]).length else if b = g ∧ k = 3 then sumI w (zs ++ [t]) else w.2.1 b k)
    rw [e2]
    by_cases h1 : b = g
    · subst h1
      by_cases k1 : k = 3
      · subst k1; simp
      · by_cases k2 : k = 2
        · subst k2; simp
        · simp [k1, k2]
    · simp [h1]
  · funext b k
    show (if b = ga ∧ k = zs.length then some t else (if b = ga then (if k < zs.length then zs[k]? else w.2.2.1 b k) else w.2.2.1 b k)) = (if b = ga then (if k < (zs ++ [t]).length then (zs ++ [t])[k]? else w.2.2.1 b k) else w.2.2.1 b k)
    by_cases hb : b = ga
    · subst hb
      by_cases k1 : k = zs.length
      · subst k1; simp
      · by_cases k2 : k < zs.length
        · rw [if_neg (by simp [k1]), if_pos rfl, if_pos rfl, if_pos k2, if_pos (by simp; omega), List.getElem?_append_left k2]
        · rw [if_neg (by simp [k1]), if_pos rfl, if_pos rfl, if_neg k2, if_neg (by simp; omega)]
    · simp [hb]
theorem genW_nil (w : Wd) (g ga : Nat) : uI (uI w g 2 0) g 3 0 = genW w g ga [] := by
  refine Prod.ext rfl (Prod.ext ?_ (Prod.ext ?_ rfl))
  · funext b k
    show (if b = g ∧ k = 3 then 0 else if b = g ∧ k = 2 then 0 else w.2.1 b k) = (if b = g ∧ k = 2 then nI 0 else if b = g ∧ k = 3 then sumI w [] else w.2.1 b k)
    by_cases h1 : b = g
    · subst h1
      by_cases k1 : k = 3
      · subst k1; simp; rfl
      · by_cases k2 : k = 2
        · subst k2; simp; rfl
        · simp [k1, k2]
    · simp [h1]
  · funext b k
    show w.2.2.1 b k = (if b = ga then (if k < 0 then _ else w.2.2.1 b k) else w.2.2.1 b k)
    simp
theorem genW_self {w : Wd} {g ga : Nat} {zs : List Nat} (h1 : wI w g 2 = nI zs.length) (h2 : wI w g 3 = sumI w zs) (h3 : ∀ i x, zs[i]? = some x → wP w ga i = some x) : genW w g ga zs = w := by
  refine Prod.ext rfl (Prod.ext ?_ (Prod.ext ?_ rfl))
  · funext b k
    show (if b = g ∧ k = 2 then nI zs.length else if b = g ∧ k = 3 then sumI w zs else w.2.1 b k) = w.2.1 b k
    by_cases g1 : b = g ∧ k = 2
    · rw [if_pos g1]; obtain ⟨rfl, rfl⟩ := g1; exact h1.symm
    · rw [if_neg g1]
      by_cases g2 : b = g ∧ k = 3
      · rw [if_pos g2]; obtain ⟨rfl, rfl⟩ := g2; exact h2.symm
      · rw [if_neg g2]
  · funext b k
    show (if b = ga then (if k < zs.length then zs[k]? else w.2.2.1 b k) else w.2.2.1 b k) = w.2.2.1 b k
    by_cases hb : b = ga
    · subst hb
      rw [if_pos rfl]
      by_cases hk : k < zs.length
      · obtain ⟨x, hx⟩ := at_lt hk
        rw [if_pos hk, hx]
        exact (h3 k x hx).symm
      · rw [if_neg hk]
    · rw [if_neg hb]
theorem filt_s {xs : List Nat} {p : Nat → Bool} {i x : Nat} (h : xs[i]? = some x) : (xs.take (i + 1)).filter p = if p x = true then (xs.take i).filter p ++ [x] else (xs.take i).filter p := by
  rw [take_s h, List.filter_append]
  by_cases hp : p x = true <;> simp [hp]
/-- the generation object g with its row ga of m places, holding xs -/
def GeO (w : Wd) (g ga m : Nat) : Prop := wK w g = some (.inl 1) ∧ wP w g 1 = some ga ∧ wK w ga = some (.inr (4, m)) ∧ m < 10000
def GeL (w : Wd) (g ga m : Nat) (xs : List Nat) : Prop := GeO w g ga m ∧ wI w g 2 = nI xs.length ∧ xs.length ≤ m ∧ ∀ i x, xs[i]? = some x → wP w ga i = some x ∧ isTb w x = true
section GE
variable {l : Launch} {Δ : Dat} {w : Wd} {g ga m : Nat} {xs : List Nat}
set_option maxRecDepth 100000 in
set_option maxHeartbeats 1000000 in
theorem k_add {n t : Nat} (H : GeO w g ga m) (hcnt : wI w g 2 = nI n) (hn : n < m) (ht : isTb w t = true) :
    Ct l y_Gen_add h_Gen_add (rmL 0 0 0) Δ [.ref g, .ref t] w (fun r w' => r = none ∧ w' = uI (uI (uP w ga n (some t)) g 2 (nI (n + 1))) g 3 (wI w g 3 + wI w t 0)) := by
  obtain ⟨hg, hga, hgk, hm⟩ := H
  obtain ⟨ci, hci, hk⟩ := isTb_to ht
  have hne : t ≠ g := isTb_ne ht hg (by decide)
  have hgg : g ≠ ga := fun e => by rw [e, hgk] at hg; cases hg
  refine Ct_of (L := [some (.ref g), some (.ref t)]) (by decide) (by first | exact Nat.le_of_ble_eq_true rfl | simp [lg_sl, va_rf_cat, vc_r, vc_i, vc_0]) (by first | rfl | simp [lin, va_rf_cat, vc_r, vc_i, vc_0]) (fun Γ X => ?_)
  first | refine J_aload_nr X d_Gen_add_0 rfl rfl ?_ | refine J_aload_n X d_Gen_add_0 rfl rfl ?_ | refine J_aload_n0 X d_Gen_add_0 rfl rfl ?_
  refine J_getI X (hg) fa_Gen_22_1 rfl (hcnt) d_Gen_add_1 ?_
  first | refine J_aload_nr X d_Gen_add_4 rfl rfl ?_ | refine J_aload_n X d_Gen_add_4 rfl rfl ?_ | refine J_aload_n0 X d_Gen_add_4 rfl rfl ?_
  refine J_getR X (hg) fa_Gen_15_1 rfl (hga) d_Gen_add_5 ?_
  refine J_alen X (hgk) (by decide) d_Gen_add_8 ?_
  refine J_icmp_ge (tgt := 45) X d_Gen_add_9 (by decide) (fun g2 => ?_) (fun g2 => ?_)
  · exact absurd g2 (nI_ge hn (by omega))
  · first | refine J_aload_nr X d_Gen_add_12 rfl rfl ?_ | refine J_aload_n X d_Gen_add_12 rfl rfl ?_ | refine J_aload_n0 X d_Gen_add_12 rfl rfl ?_
    refine J_getR X (hg) fa_Gen_15_1 rfl (hga) d_Gen_add_13 ?_
    first | refine J_aload_nr X d_Gen_add_16 rfl rfl ?_ | refine J_aload_n X d_Gen_add_16 rfl rfl ?_ | refine J_aload_n0 X d_Gen_add_16 rfl rfl ?_
    refine J_getI X (hg) fa_Gen_22_1 rfl (hcnt) d_Gen_add_17 ?_
    first | refine J_aload_nr X d_Gen_add_20 rfl rfl ?_ | refine J_aload_n X d_Gen_add_20 rfl rfl ?_ | refine J_aload_n0 X d_Gen_add_20 rfl rfl ?_
    refine J_aastr X hgk (by decide) rfl ⟨_, rfl⟩ ⟨ci, hk, by rcases hci with rfl | rfl; exact ac_3_4; exact ac_4_4⟩ rfl hn (by omega) d_Gen_add_21 ?_
    first | refine J_aload_nr X d_Gen_add_22 rfl rfl ?_ | refine J_aload_n X d_Gen_add_22 rfl rfl ?_ | refine J_aload_n0 X d_Gen_add_22 rfl rfl ?_
    refine J_dup X d_Gen_add_23 (rfl) ?_
    refine J_getI X (hg) fa_Gen_22_1 rfl (hcnt) d_Gen_add_24 ?_
    refine J_iconst (v := 1) X d_Gen_add_27 (by decide) ?_
    refine J_iadd X d_Gen_add_28 ?_
    refine J_top (v' := .int (nI (n + 1))) (by rw [show (1 : Int32) = nI 1 from rfl, nI_add]) ?_
    refine J_putI X (hg) fp_Gen_22_1 rfl d_Gen_add_29 ?_
    first | refine J_aload_nr X d_Gen_add_32 rfl rfl ?_ | refine J_aload_n X d_Gen_add_32 rfl rfl ?_ | refine J_aload_n0 X d_Gen_add_32 rfl rfl ?_
    refine J_dup X d_Gen_add_33 (rfl) ?_
    refine J_getI X (hg) fa_Gen_19_1 rfl (by rw [wI_uI, if_neg (by simp), wI_uP] : _ = wI w g 3) d_Gen_add_34 ?_
    first | refine J_aload_nr X d_Gen_add_37 rfl rfl ?_ | refine J_aload_n X d_Gen_add_37 rfl rfl ?_ | refine J_aload_n0 X d_Gen_add_37 rfl rfl ?_
    refine J_getI X (hk) (faT_Gen_25 hci).1 (faT_Gen_25 hci).2 (by rw [wI_uI, if_neg (by simp), wI_uP] : _ = wI w t 0) d_Gen_add_38 ?_
    refine J_iadd X d_Gen_add_41 ?_
    refine J_putI X (hg) fp_Gen_19_1 rfl d_Gen_add_42 ?_
    exact J_vret X ⟨rfl, rfl⟩ (by decide) (by decide) d_Gen_add_45
/-- add, where the generation holds zs -/
theorem k_addW {zs : List Nat} {t : Nat} (H : GeO w g ga m) (hn : zs.length < m) (ht : isTb w t = true) (hs : wI w t 0 = nI (szw w t)) :
    Ct l y_Gen_add h_Gen_add (rmL 0 0 0) Δ [.ref g, .ref t] (genW w g ga zs) (fun r w' => r = none ∧ w' = genW w g ga (zs ++ [t])) := by
  have hne : t ≠ g := isTb_ne ht H.1 (by decide)
  have hgg : g ≠ ga := fun e => by have := H.1; rw [e, H.2.2.1] at this; cases this
  have H' : GeO (genW w g ga zs) g ga m := ⟨H.1, (genW_ptr (Or.inl hgg)).trans H.2.1, H.2.2.1, H.2.2.2⟩
  have k := k_add (l := l) (Δ := Δ) (w := genW w g ga zs) (n := zs.length) H' (genW_cnt _ _ _ _) hn ht
  rw [genW_tak, genW_int (b := t) (k := 0) (Or.inl hne), genW_add hs] at k
  exact k
set_option maxRecDepth 100000 in
set_option maxHeartbeats 1000000 in
theorem k_reachedCells (H : GeL w g ga m xs) (hsz : ∀ t, isTb w t = true → wI w t 0 = nI (szw w t)) :
    Ct l y_Gen_reachedCells h_Gen_reachedCells (rmL 0 0 0) Δ [.ref g] w (fun r w' => r = some (.int (sumI w (xs.filter (rch w)))) ∧ w' = w) := by
  obtain ⟨⟨hg, hga, hgk, hm⟩, hcnt, hxm, hat⟩ := H
  refine Ct_of (L := [some (.ref g), none, none, none]) (by decide) (by first | exact Nat.le_of_ble_eq_true rfl | simp [lg_sl, va_rf_cat, vc_r, vc_i, vc_0]) (by first | rfl | simp [lin, va_rf_cat, vc_r, vc_i, vc_0]) (fun Γ X => ?_)
  refine J_iconst (v := 0) X d_Gen_reachedCells_0 (by decide) ?_
  refine J_istore_n X d_Gen_reachedCells_1 rfl (by decide) rfl ?_
  refine J_iconst (v := 0) X d_Gen_reachedCells_2 (by decide) ?_
  refine J_istore_n X d_Gen_reachedCells_3 rfl (by decide) rfl ?_
  have loop : ∀ (k i : Nat), k + i = xs.length → J Γ Δ (AE Γ w) 4 w 0 0 (QE Γ Δ w (fun r w' => r = some (.int (sumI w (xs.filter (rch w)))) ∧ w' = w) (rmL 0 0 0)) 4 [some (.ref g), some (.int (sumI w ((xs.take i).filter (rch w)))), some (.int (nI i)), none] [] := by
    intro k
    induction k with
    | zero =>
      intro i hi
      refine J_iload_n X d_Gen_reachedCells_4 rfl rfl ?_
      first | refine J_aload_nr X d_Gen_reachedCells_5 rfl rfl ?_ | refine J_aload_n X d_Gen_reachedCells_5 rfl rfl ?_ | refine J_aload_n0 X d_Gen_reachedCells_5 rfl rfl ?_
      refine J_getI X (hg) fa_Gen_22_1 rfl (hcnt) d_Gen_reachedCells_6 ?_
      refine J_icmp_ge (tgt := 43) X d_Gen_reachedCells_9 (by decide) (fun g2 => ?_) (fun g2 => ?_)
      · refine J_iload_n X d_Gen_reachedCells_43 rfl rfl ?_
        refine J_iret X ⟨?_, rfl⟩ (by decide) (by decide) d_Gen_reachedCells_44
        rw [List.take_of_length_le (by omega)]
      · exact absurd (nI_le (by omega) (by omega)) g2
    | succ k ih =>
      intro i hi
      obtain ⟨x, hx⟩ := at_lt (xs := xs) (i := i) (by omega)
      obtain ⟨hxa, hT⟩ := hat i x hx
      obtain ⟨ci, hci, hk⟩ := isTb_to hT
      refine J_iload_n X d_Gen_reachedCells_4 rfl rfl ?_
      first | refine J_aload_nr X d_Gen_reachedCells_5 rfl rfl ?_ | refine J_aload_n X d_Gen_reachedCells_5 rfl rfl ?_ | refine J_aload_n0 X d_Gen_reachedCells_5 rfl rfl ?_
      refine J_getI X (hg) fa_Gen_22_1 rfl (hcnt) d_Gen_reachedCells_6 ?_
      refine J_icmp_ge (tgt := 43) X d_Gen_reachedCells_9 (by decide) (fun g2 => ?_) (fun g2 => ?_)
      · exact absurd g2 (nI_ge (by omega) (by omega))
      · first | refine J_aload_nr X d_Gen_reachedCells_12 rfl rfl ?_ | refine J_aload_n X d_Gen_reachedCells_12 rfl rfl ?_ | refine J_aload_n0 X d_Gen_reachedCells_12 rfl rfl ?_
        refine J_getR X (hg) fa_Gen_15_1 rfl (hga) d_Gen_reachedCells_13 ?_
        refine J_iload_n X d_Gen_reachedCells_16 rfl rfl ?_
        refine J_aaldr X (hgk) (by decide) rfl ⟨_, rfl⟩ (rfl) (by omega) (by omega) (hxa) d_Gen_reachedCells_17 ?_
        first | refine J_astore_nr X d_Gen_reachedCells_18 rfl (by decide) rfl ?_ | refine J_astore_n X d_Gen_reachedCells_18 rfl (by decide) rfl ?_ | refine J_astore_n0 X d_Gen_reachedCells_18 rfl (by decide) rfl ?_
        first | refine J_aload_nr X d_Gen_reachedCells_19 rfl rfl ?_ | refine J_aload_n X d_Gen_reachedCells_19 rfl rfl ?_ | refine J_aload_n0 X d_Gen_reachedCells_19 rfl rfl ?_
        refine J_ifnullr X d_Gen_reachedCells_20 ?_
        first | refine J_aload_nr X d_Gen_reachedCells_23 rfl rfl ?_ | refine J_aload_n X d_Gen_reachedCells_23 rfl rfl ?_ | refine J_aload_n0 X d_Gen_reachedCells_23 rfl rfl ?_
        refine J_getI X (hk) (faT_Gen_28 hci).1 (faT_Gen_28 hci).2 (rfl) d_Gen_reachedCells_24 ?_
        refine J_if_eq (tgt := 37) X d_Gen_reachedCells_27 (by decide) (fun g3 => ?_) (fun g3 => ?_)
        · refine J_iinc X d_Gen_reachedCells_37 rfl (by decide) (nI_s i) rfl ?_
          refine J_goto (tgt := 4) X d_Gen_reachedCells_40 (by decide) ?_
          refine J_forget 3 rfl ?_
          have e := ih (i + 1) (by omega)
          rw [filt_s hx, if_neg (by simp [rch, g3])] at e
          exact e
        · refine J_iload_n X d_Gen_reachedCells_30 rfl rfl ?_
          first | refine J_aload_nr X d_Gen_reachedCells_31 rfl rfl ?_ | refine J_aload_n X d_Gen_reachedCells_31 rfl rfl ?_ | refine J_aload_n0 X d_Gen_reachedCells_31 rfl rfl ?_
          refine J_getI X (hk) (faT_Gen_25 hci).1 (faT_Gen_25 hci).2 (rfl) d_Gen_reachedCells_32 ?_
          refine J_iadd X d_Gen_reachedCells_35 ?_
          refine J_top (v' := .int (sumI w ((xs.take i).filter (rch w) ++ [x]))) (by rw [hsz x hT, sumI, sumI, nI_add]; simp) ?_
          refine J_istore_n X d_Gen_reachedCells_36 rfl (by decide) rfl ?_
          refine J_iinc X d_Gen_reachedCells_37 rfl (by decide) (nI_s i) rfl ?_
          refine J_goto (tgt := 4) X d_Gen_reachedCells_40 (by decide) ?_
          refine J_forget 3 rfl ?_
          have e := ih (i + 1) (by omega)
          rw [filt_s hx, if_pos (by simp [rch, g3])] at e
          exact e
  exact loop xs.length 0 rfl
end GE
