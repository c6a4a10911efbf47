/-! cutUnreachedTarget, cutTargets, keepReached, adoptReached -/
/-- is the target of the weak cell b to be cut? -/
def cutB (w : Wd) (b : Nat) : Bool := match wK w b with
  | some (.inl 4) => match wP w b 3 with
    | some t => decide (wI w t 2 = 0)
    | none => false
  | _ => false
/-- the world in which the unreached targets of ys are cut -/
def cutW (w : Wd) (ys : List Nat) : Wd := (w.1, w.2.1, fun b k => if k = 3 ∧ b ∈ ys ∧ cutB w b = true then none else w.2.2.1 b k, w.2.2.2)
theorem cutW_nil (w : Wd) : cutW w [] = w := by
  refine Prod.ext rfl (Prod.ext rfl (Prod.ext ?_ rfl))
  funext b k
  show (if k = 3 ∧ b ∈ ([] : List Nat) ∧ cutB w b = true then none else w.2.2.1 b k) = w.2.2.1 b k
  simp
theorem cutW_no {w : Wd} {ys : List Nat} {x : Nat} (h : cutB w x = false) : cutW w (ys ++ [x]) = cutW w ys := by
  refine Prod.ext rfl (Prod.ext rfl (Prod.ext ?_ rfl))
  funext b k
  show (if k = 3 ∧ b ∈ ys ++ [x] ∧ cutB w b = true then none else w.2.2.1 b k) = if k = 3 ∧ b ∈ ys ∧ cutB w b = true then none else w.2.2.1 b k
  by_cases hb : b = x
  · subst hb; simp [h]
  · simp [hb]
theorem cutW_yes {w : Wd} {ys : List Nat} {x : Nat} (h : cutB w x = true) : uP (cutW w ys) x 3 none = cutW w (ys ++ [x]) := by
  refine Prod.ext rfl (Prod.ext rfl (Prod.ext ?_ rfl))
  funext b k
  show (if b = x ∧ k = 3 then none else if k = 3 ∧ b ∈ ys ∧ cutB w b = true then none else w.2.2.1 b k) = if k = 3 ∧ b ∈ ys ++ [x] ∧ cutB w b = true then none else w.2.2.1 b k
  by_cases hb : b = x
  · subst hb
    by_cases hk : k = 3
    · subst hk; simp [h]
    · simp [hk]
  · simp [hb]
theorem cutW_ptr {w : Wd} {ys : List Nat} {b k : Nat} (h : k ≠ 3 ∨ b ∉ ys) : wP (cutW w ys) b k = wP w b k := by
  rcases h with h | h <;> simp [cutW, wP, h]
theorem cutW_again {w : Wd} {ys : List Nat} {x : Nat} (h : cutB w x = true) (hx : x ∈ ys) : cutW w (ys ++ [x]) = cutW w ys := by
  refine Prod.ext rfl (Prod.ext rfl (Prod.ext ?_ rfl))
  funext b k
  show (if k = 3 ∧ b ∈ ys ++ [x] ∧ cutB w b = true then none else w.2.2.1 b k) = if k = 3 ∧ b ∈ ys ∧ cutB w b = true then none else w.2.2.1 b k
  by_cases hb : b = x
  · subst hb; simp [hx]
  · simp [hb]
/-- the flag isOld set at zs -/
def oldF (w : Wd) (zs : List Nat) : Wd := (w.1, fun b k => if k = 1 ∧ b ∈ zs then 1 else w.2.1 b k, w.2.2)
theorem oldF_nil (w : Wd) : oldF w [] = w := by
  refine Prod.ext rfl (Prod.ext ?_ rfl)
  funext b k
  show (if k = 1 ∧ b ∈ ([] : List Nat) then 1 else w.2.1 b k) = w.2.1 b k
  simp
theorem oldF_int {w : Wd} {zs : List Nat} {b k : Nat} (h : k ≠ 1) : wI (oldF w zs) b k = wI w b k := by simp [oldF, wI, h]
theorem oldF_s {w : Wd} {zs : List Nat} {x : Nat} : uI (oldF w zs) x 1 1 = oldF w (zs ++ [x]) := by
  refine Prod.ext rfl (Prod.ext ?_ rfl)
  funext b k
  show (if b = x ∧ k = 1 then 1 else if k = 1 ∧ b ∈ zs then 1 else w.2.1 b k) = if k = 1 ∧ b ∈ zs ++ [x] then 1 else w.2.1 b k
  by_cases k1 : k = 1
  · subst k1
    by_cases hb : b = x
    · subst hb; simp
    · simp [hb]
  · simp [k1]
theorem oldF_genW {w : Wd} {g ga : Nat} {zs xs : List Nat} (hg : g ∉ xs ∨ True) : oldF (genW w g ga zs) xs = genW (oldF w xs) g ga zs := by
  have hz : sumI (oldF w xs) zs = sumI w zs := by
    unfold sumI
    congr 2
  refine Prod.ext rfl (Prod.ext ?_ rfl)
  funext b k
  show (if k = 1 ∧ b ∈ xs then 1 else (if b = g ∧ k = 2 then nI zs.length else if b = g ∧ k = 3 then sumI w zs else w.2.1 b k)) = (if b = g ∧ k = 2 then nI zs.length else if b = g ∧ k = 3 then sumI (oldF w xs) zs else (if k = 1 ∧ b ∈ xs then 1 else w.2.1 b k))
  rw [hz]
  by_cases k1 : k = 1
  · subst k1; simp
  · simp [k1]
section GX
variable {l : Launch} {Δ : Dat} {w : Wd} {g ga m : Nat} {xs : List Nat}
set_option maxRecDepth 100000 in
set_option maxHeartbeats 1000000 in
theorem k_cutUnreached {b : Nat} (hb : wK w b = some (.inl 4)) (ht : ∀ t, wP w b 3 = some t → isTb w t = true) :
    Ct l y_Wk_cutUnreachedTarget h_Wk_cutUnreachedTarget (rmL 0 0 0) Δ [.ref b] w (fun r w' => r = none ∧ w' = if cutB w b = true then uP w b 3 none else w) := by
  refine Ct_of (L := [some (.ref b)]) (by decide) (by first | exact Nat.le_of_ble_eq_true rfl | simp [lg_sl, va_rf_cat, vc_r, vc_i, vc_0]) (by first | rfl | simp [lin, va_rf_cat, vc_r, vc_i, vc_0]) (fun Γ X => ?_)
  cases ho : wP w b 3 with
  | none =>
    first | refine J_aload_nr X d_Wk_cutUnreachedTarget_0 rfl rfl ?_ | refine J_aload_n X d_Wk_cutUnreachedTarget_0 rfl rfl ?_ | refine J_aload_n0 X d_Wk_cutUnreachedTarget_0 rfl rfl ?_
    refine J_getP X (hb) fa_Wk_7_4 rfl (ho) d_Wk_cutUnreachedTarget_1 ?_
    refine J_ifnull0 (tgt := 22) X d_Wk_cutUnreachedTarget_4 (by decide) ?_
    exact J_vret X ⟨rfl, by rw [if_neg (by simp [cutB, hb, ho])]⟩ (by decide) (by decide) d_Wk_cutUnreachedTarget_22
  | some t =>
    obtain ⟨ci, hci, hk⟩ := isTb_to (ht t ho)
    first | refine J_aload_nr X d_Wk_cutUnreachedTarget_0 rfl rfl ?_ | refine J_aload_n X d_Wk_cutUnreachedTarget_0 rfl rfl ?_ | refine J_aload_n0 X d_Wk_cutUnreachedTarget_0 rfl rfl ?_
    refine J_getR X (hb) fa_Wk_7_4 rfl (ho) d_Wk_cutUnreachedTarget_1 ?_
    refine J_ifnullr X d_Wk_cutUnreachedTarget_4 ?_
    first | refine J_aload_nr X d_Wk_cutUnreachedTarget_7 rfl rfl ?_ | refine J_aload_n X d_Wk_cutUnreachedTarget_7 rfl rfl ?_ | refine J_aload_n0 X d_Wk_cutUnreachedTarget_7 rfl rfl ?_
    refine J_getR X (hb) fa_Wk_7_4 rfl (ho) d_Wk_cutUnreachedTarget_8 ?_
    refine J_getI X (hk) (faT_Wk_13 hci).1 (faT_Wk_13 hci).2 (rfl) d_Wk_cutUnreachedTarget_11 ?_
    refine J_if_ne (tgt := 22) X d_Wk_cutUnreachedTarget_14 (by decide) (fun g2 => ?_) (fun g2 => ?_)
    · exact J_vret X ⟨rfl, by rw [if_neg (by simp [cutB, hb, ho, g2])]⟩ (by decide) (by decide) d_Wk_cutUnreachedTarget_22
    · first | refine J_aload_nr X d_Wk_cutUnreachedTarget_17 rfl rfl ?_ | refine J_aload_n X d_Wk_cutUnreachedTarget_17 rfl rfl ?_ | refine J_aload_n0 X d_Wk_cutUnreachedTarget_17 rfl rfl ?_
      refine J_null X d_Wk_cutUnreachedTarget_18 ?_
      first | refine J_putPr X (hb) fp_Wk_7_4 (Or.inl ⟨_, rfl⟩) rfl d_Wk_cutUnreachedTarget_19 ?_ | refine J_putP X (hb) fp_Wk_7_4 (Or.inl ⟨_, rfl⟩) rfl d_Wk_cutUnreachedTarget_19 ?_ | refine J_putP0 X (hb) fp_Wk_7_4 (Or.inl ⟨_, rfl⟩) rfl d_Wk_cutUnreachedTarget_19 ?_
      exact J_vret X ⟨rfl, by rw [if_pos (by simp [cutB, hb, ho, g2])]⟩ (by decide) (by decide) d_Wk_cutUnreachedTarget_22
set_option maxRecDepth 100000 in
set_option maxHeartbeats 1000000 in
theorem k_cutTargets (H : GeL w g ga m xs) (hnd : xs.Nodup) (hwk : ∀ b t, wK w b = some (.inl 4) → wP w b 3 = some t → isTb w t = true) :
    Ct l y_Gen_cutTargets h_Gen_cutTargets (rmL 1 0 0) Δ [.ref g] w (fun r w' => r = none ∧ w' = cutW w xs) := by
  obtain ⟨⟨hg, hga, hgk, hm⟩, hcnt, hxm, hat⟩ := H
  have hnT : ∀ a d, wK w a = some d → (d ≠ .inl 3 ∧ d ≠ .inl 4) → a ∉ xs := by
    intro a d ha hd hx
    obtain ⟨i, hi⟩ := List.getElem?_of_mem hx
    exact isTb_ne (hat i a hi).2 ha hd rfl
  have hgx := hnT g _ hg (by decide)
  have hgax := hnT ga _ hgk (by simp)
  refine Ct_of (L := [some (.ref g), none, none, none]) (by decide) (by first | exact Nat.le_of_ble_eq_true rfl | simp [lg_sl, va_rf_cat, vc_r, vc_i, vc_0]) (by first | rfl | simp [lin, va_rf_cat, vc_r, vc_i, vc_0]) (fun Γ X => ?_)
  refine J_iconst (v := 0) X d_Gen_cutTargets_0 (by decide) ?_
  refine J_istore_n X d_Gen_cutTargets_1 rfl (by decide) rfl ?_
  have loop : ∀ (k i : Nat), k + i = xs.length → J Γ Δ (AE Γ w) 4 (cutW w (xs.take i)) 0 0 (QE Γ Δ w (fun r w' => r = none ∧ w' = cutW w xs) (rmL 1 0 0)) 2 [some (.ref g), some (.int (nI i)), none, none] [] := by
    intro k
    induction k with
    | zero =>
      intro i hi
      refine J_iload_n X d_Gen_cutTargets_2 rfl rfl ?_
      first | refine J_aload_nr X d_Gen_cutTargets_3 rfl rfl ?_ | refine J_aload_n X d_Gen_cutTargets_3 rfl rfl ?_ | refine J_aload_n0 X d_Gen_cutTargets_3 rfl rfl ?_
      refine J_getI X (hg) fa_Gen_22_1 rfl (hcnt) d_Gen_cutTargets_4 ?_
      refine J_icmp_ge (tgt := 39) X d_Gen_cutTargets_7 (by decide) (fun g2 => ?_) (fun g2 => ?_)
      · exact J_vret X ⟨rfl, by rw [List.take_of_length_le (by omega)]⟩ (by decide) (by decide) d_Gen_cutTargets_39
      · exact absurd (nI_le (by omega) (by omega)) g2
    | succ k ih =>
      intro i hi
      obtain ⟨x, hx⟩ := at_lt (xs := xs) (i := i) (by omega)
      obtain ⟨hxa, hT⟩ := hat i x hx
      obtain ⟨ci, hci, hk⟩ := isTb_to hT
      have hga' : wP (cutW w (xs.take i)) g 1 = some ga := (cutW_ptr (Or.inl (by decide))).trans hga
      have hxa' : wP (cutW w (xs.take i)) ga i = some x := (cutW_ptr (Or.inr (fun q => hgax (List.mem_of_mem_take q)))).trans hxa
      have hxt : x ∉ xs.take i := by
        intro q
        obtain ⟨j, hj⟩ := List.getElem?_of_mem q
        rw [List.getElem?_take] at hj
        split at hj
        · rename_i hji
          have := (List.getElem?_inj (by omega : j < xs.length) hnd).mp (hj.trans hx.symm)
          omega
        · cases hj
      refine J_iload_n X d_Gen_cutTargets_2 rfl rfl ?_
      first | refine J_aload_nr X d_Gen_cutTargets_3 rfl rfl ?_ | refine J_aload_n X d_Gen_cutTargets_3 rfl rfl ?_ | refine J_aload_n0 X d_Gen_cutTargets_3 rfl rfl ?_
      refine J_getI X (hg) fa_Gen_22_1 rfl (hcnt) d_Gen_cutTargets_4 ?_
      refine J_icmp_ge (tgt := 39) X d_Gen_cutTargets_7 (by decide) (fun g2 => ?_) (fun g2 => ?_)
      · exact absurd g2 (nI_ge (by omega) (by omega))
      · first | refine J_aload_nr X d_Gen_cutTargets_10 rfl rfl ?_ | refine J_aload_n X d_Gen_cutTargets_10 rfl rfl ?_ | refine J_aload_n0 X d_Gen_cutTargets_10 rfl rfl ?_
        refine J_getR X (hg) fa_Gen_15_1 rfl (hga') d_Gen_cutTargets_11 ?_
        refine J_iload_n X d_Gen_cutTargets_14 rfl rfl ?_
        refine J_aaldr X (hgk) (by decide) rfl ⟨_, rfl⟩ (rfl) (by omega) (by omega) (hxa') d_Gen_cutTargets_15 ?_
        first | refine J_astore_nr X d_Gen_cutTargets_16 rfl (by decide) rfl ?_ | refine J_astore_n X d_Gen_cutTargets_16 rfl (by decide) rfl ?_ | refine J_astore_n0 X d_Gen_cutTargets_16 rfl (by decide) rfl ?_
        first | refine J_aload_nr X d_Gen_cutTargets_17 rfl rfl ?_ | refine J_aload_n X d_Gen_cutTargets_17 rfl rfl ?_ | refine J_aload_n0 X d_Gen_cutTargets_17 rfl rfl ?_
        rcases hci with rfl | rfl
        · refine J_instN X hk in_Gen_32_3 d_Gen_cutTargets_18 ?_
          refine J_if_eq (tgt := 33) X d_Gen_cutTargets_21 (by decide) (fun g3 => ?_) (fun g3 => ?_)
          · refine J_iinc X d_Gen_cutTargets_33 rfl (by decide) (nI_s i) rfl ?_
            refine J_goto (tgt := 2) X d_Gen_cutTargets_36 (by decide) ?_
            refine J_forget 3 rfl ?_
            have e := ih (i + 1) (by omega)
            rw [take_s hx, cutW_no (by simp [cutB, hk])] at e
            exact e
          · exact absurd rfl g3
        · refine J_instY X hk iy_Gen_32_4 d_Gen_cutTargets_18 ?_
          refine J_if_eq (tgt := 33) X d_Gen_cutTargets_21 (by decide) (fun g3 => ?_) (fun g3 => ?_)
          · exact absurd g3 (by decide)
          · first | refine J_aload_nr X d_Gen_cutTargets_24 rfl rfl ?_ | refine J_aload_n X d_Gen_cutTargets_24 rfl rfl ?_ | refine J_aload_n0 X d_Gen_cutTargets_24 rfl rfl ?_
            refine J_cast X hk iy_Gen_32_4 d_Gen_cutTargets_25 ?_
            first | refine J_astore_nr X d_Gen_cutTargets_28 rfl (by decide) rfl ?_ | refine J_astore_n X d_Gen_cutTargets_28 rfl (by decide) rfl ?_ | refine J_astore_n0 X d_Gen_cutTargets_28 rfl (by decide) rfl ?_
            first | refine J_aload_nr X d_Gen_cutTargets_29 rfl rfl ?_ | refine J_aload_n X d_Gen_cutTargets_29 rfl rfl ?_ | refine J_aload_n0 X d_Gen_cutTargets_29 rfl rfl ?_
            have hp3 : wP (cutW w (xs.take i)) x 3 = wP w x 3 := cutW_ptr (Or.inr hxt)
            have hcb : cutB (cutW w (xs.take i)) x = cutB w x := by
              unfold cutB
              rw [show wK (cutW w (xs.take i)) x = wK w x from rfl, hp3]
              rfl
            refine J_callV X (hk) rfl (k_cutUnreached (w := cutW w (xs.take i)) hk (fun t ht => hwk x t hk (hp3.symm.trans ht))) cd_Wk_cutUnreachedTarget lk_Gen_34 vi_Wk_cutUnreachedTarget (by decide) (by decide) (by decide) (by decide) rfl (by first | decide | simp [va_rf_cat, vc_r, vc_i, vc_0]) d_Gen_cutTargets_30 (fun r w1 hr => ?_)
            obtain ⟨rfl, rfl⟩ := hr
            refine J_iinc X d_Gen_cutTargets_33 rfl (by decide) (nI_s i) rfl ?_
            refine J_goto (tgt := 2) X d_Gen_cutTargets_36 (by decide) ?_
            refine J_forget 2 rfl ?_
            refine J_forget 3 rfl ?_
            refine J_eq (w' := cutW w (xs.take (i + 1))) ?_ rfl (ih (i + 1) (by omega))
            rw [hcb, take_s hx]
            by_cases hc : cutB w x = true
            · rw [if_pos hc, cutW_yes hc]
            · rw [if_neg hc, cutW_no (by simpa using hc)]
  exact J_eq (w' := cutW w (xs.take 0)) (by rw [List.take_zero, cutW_nil]) rfl (loop xs.length 0 rfl)
set_option maxRecDepth 100000 in
set_option maxHeartbeats 1000000 in
theorem k_keepReached (H : GeL w g ga m xs) (hsz : ∀ t, isTb w t = true → wI w t 0 = nI (szw w t)) :
    Ct l y_Gen_keepReached h_Gen_keepReached (rmL 1 0 0) Δ [.ref g] w (fun r w' => r = none ∧ w' = genW w g ga (xs.filter (rch w))) := by
  obtain ⟨⟨hg, hga, hgk, hm⟩, hcnt, hxm, hat⟩ := H
  have hgg : g ≠ ga := fun e => by rw [e, hgk] at hg; cases hg
  refine Ct_of (L := [some (.ref g), none, none, none]) (by decide) (by first | exact Nat.le_of_ble_eq_true rfl | simp [lg_sl, va_rf_cat, vc_r, vc_i, vc_0]) (by first | rfl | simp [lin, va_rf_cat, vc_r, vc_i, vc_0]) (fun Γ X => ?_)
  first | refine J_aload_nr X d_Gen_keepReached_0 rfl rfl ?_ | refine J_aload_n X d_Gen_keepReached_0 rfl rfl ?_ | refine J_aload_n0 X d_Gen_keepReached_0 rfl rfl ?_
  refine J_getI X (hg) fa_Gen_22_1 rfl (hcnt) d_Gen_keepReached_1 ?_
  refine J_istore_n X d_Gen_keepReached_4 rfl (by decide) rfl ?_
  first | refine J_aload_nr X d_Gen_keepReached_5 rfl rfl ?_ | refine J_aload_n X d_Gen_keepReached_5 rfl rfl ?_ | refine J_aload_n0 X d_Gen_keepReached_5 rfl rfl ?_
  refine J_callV X (hg) rfl (k_empty hg) cd_Gen_empty lk_Gen_37 vi_Gen_empty (by decide) (by decide) (by decide) (by decide) rfl (by first | decide | simp [va_rf_cat, vc_r, vc_i, vc_0]) d_Gen_keepReached_6 (fun r w1 hr => ?_)
  obtain ⟨rfl, rfl⟩ := hr
  refine J_iconst (v := 0) X d_Gen_keepReached_9 (by decide) ?_
  refine J_istore_n X d_Gen_keepReached_10 rfl (by decide) rfl ?_
  have loop : ∀ (k i : Nat), k + i = xs.length → J Γ Δ (AE Γ w) 4 (genW w g ga ((xs.take i).filter (rch w))) 0 0 (QE Γ Δ w (fun r w' => r = none ∧ w' = genW w g ga (xs.filter (rch w))) (rmL 1 0 0)) 11 [some (.ref g), some (.int (nI xs.length)), some (.int (nI i)), none] [] := by
    intro k
    induction k with
    | zero =>
      intro i hi
      refine J_iload_n X d_Gen_keepReached_11 rfl rfl ?_
      refine J_iload_n X d_Gen_keepReached_12 rfl rfl ?_
      refine J_icmp_ge (tgt := 45) X d_Gen_keepReached_13 (by decide) (fun g2 => ?_) (fun g2 => ?_)
      · exact J_vret X ⟨rfl, by rw [List.take_of_length_le (by omega)]⟩ (by decide) (by decide) d_Gen_keepReached_45
      · exact absurd (nI_le (by omega) (by omega)) g2
    | succ k ih =>
      intro i hi
      obtain ⟨x, hx⟩ := at_lt (xs := xs) (i := i) (by omega)
      obtain ⟨hxa, hT⟩ := hat i x hx
      obtain ⟨ci, hci, hk⟩ := isTb_to hT
      have hne : x ≠ g := isTb_ne hT hg (by decide)
      have hfl : ((xs.take i).filter (rch w)).length ≤ i := Nat.le_trans (List.length_filter_le _ _) (by rw [List.length_take]; omega)
      have hga' : wP (genW w g ga ((xs.take i).filter (rch w))) g 1 = some ga := (genW_ptr (Or.inl hgg)).trans hga
      have hxa' : wP (genW w g ga ((xs.take i).filter (rch w))) ga i = some x := (genW_ptr (Or.inr hfl)).trans hxa
      have hr' : wI (genW w g ga ((xs.take i).filter (rch w))) x 2 = wI w x 2 := genW_int (Or.inl hne)
      refine J_iload_n X d_Gen_keepReached_11 rfl rfl ?_
      refine J_iload_n X d_Gen_keepReached_12 rfl rfl ?_
      refine J_icmp_ge (tgt := 45) X d_Gen_keepReached_13 (by decide) (fun g2 => ?_) (fun g2 => ?_)
      · exact absurd g2 (nI_ge (by omega) (by omega))
      · first | refine J_aload_nr X d_Gen_keepReached_16 rfl rfl ?_ | refine J_aload_n X d_Gen_keepReached_16 rfl rfl ?_ | refine J_aload_n0 X d_Gen_keepReached_16 rfl rfl ?_
        refine J_getR X (hg) fa_Gen_15_1 rfl (hga') d_Gen_keepReached_17 ?_
        refine J_iload_n X d_Gen_keepReached_20 rfl rfl ?_
        refine J_aaldr X (hgk) (by decide) rfl ⟨_, rfl⟩ (rfl) (by omega) (by omega) (hxa') d_Gen_keepReached_21 ?_
        first | refine J_astore_nr X d_Gen_keepReached_22 rfl (by decide) rfl ?_ | refine J_astore_n X d_Gen_keepReached_22 rfl (by decide) rfl ?_ | refine J_astore_n0 X d_Gen_keepReached_22 rfl (by decide) rfl ?_
        first | refine J_aload_nr X d_Gen_keepReached_23 rfl rfl ?_ | refine J_aload_n X d_Gen_keepReached_23 rfl rfl ?_ | refine J_aload_n0 X d_Gen_keepReached_23 rfl rfl ?_
        refine J_ifnullr X d_Gen_keepReached_24 ?_
        first | refine J_aload_nr X d_Gen_keepReached_27 rfl rfl ?_ | refine J_aload_n X d_Gen_keepReached_27 rfl rfl ?_ | refine J_aload_n0 X d_Gen_keepReached_27 rfl rfl ?_
        refine J_getI X (hk) (faT_Gen_28 hci).1 (faT_Gen_28 hci).2 (hr') d_Gen_keepReached_28 ?_
        refine J_if_eq (tgt := 39) X d_Gen_keepReached_31 (by decide) (fun g3 => ?_) (fun g3 => ?_)
        · refine J_iinc X d_Gen_keepReached_39 rfl (by decide) (nI_s i) rfl ?_
          refine J_goto (tgt := 11) X d_Gen_keepReached_42 (by decide) ?_
          refine J_forget 3 rfl ?_
          have e := ih (i + 1) (by omega)
          rw [filt_s hx, if_neg (by simp [rch, g3])] at e
          exact e
        · first | refine J_aload_nr X d_Gen_keepReached_34 rfl rfl ?_ | refine J_aload_n X d_Gen_keepReached_34 rfl rfl ?_ | refine J_aload_n0 X d_Gen_keepReached_34 rfl rfl ?_
          first | refine J_aload_nr X d_Gen_keepReached_35 rfl rfl ?_ | refine J_aload_n X d_Gen_keepReached_35 rfl rfl ?_ | refine J_aload_n0 X d_Gen_keepReached_35 rfl rfl ?_
          refine J_callV X (hg) rfl (k_addW (w := w) (zs := (xs.take i).filter (rch w)) (t := x) ⟨hg, hga, hgk, hm⟩ (by omega) hT (hsz x hT)) cd_Gen_add lk_Gen_40 vi_Gen_add (by decide) (by decide) (by decide) (by decide) rfl (by first | decide | simp [va_rf_cat, vc_r, vc_i, vc_0]) d_Gen_keepReached_36 (fun r w1 hr => ?_)
          obtain ⟨rfl, rfl⟩ := hr
          refine J_iinc X d_Gen_keepReached_39 rfl (by decide) (nI_s i) rfl ?_
          refine J_goto (tgt := 11) X d_Gen_keepReached_42 (by decide) ?_
          refine J_forget 3 rfl ?_
          have e := ih (i + 1) (by omega)
          rw [filt_s hx, if_pos (by simp [rch, g3])] at e
          exact e
  exact J_eq (w' := genW w g ga ((xs.take 0).filter (rch w))) (genW_nil w g ga) rfl (loop xs.length 0 rfl)
set_option maxRecDepth 100000 in
set_option maxHeartbeats 1000000 in
theorem k_adoptReached {yg ya ym : Nat} {ys : List Nat} (H : GeL w g ga m xs) (HY : GeL w yg ya ym ys) (hne : g ≠ yg) (hna : ga ≠ ya) (htk : wI w g 3 = sumI w xs) (hroom : xs.length + (ys.filter (rch w)).length ≤ m) (hsz : ∀ t, isTb w t = true → wI w t 0 = nI (szw w t)) :
    Ct l y_Gen_adoptReached h_Gen_adoptReached (rmL 1 0 0) Δ [.ref g, .ref yg] w (fun r w' => r = none ∧ w' = genW (oldF w (ys.filter (rch w))) g ga (xs ++ ys.filter (rch w))) := by
  obtain ⟨⟨hg, hga, hgk, hm⟩, hcnt, hxm, hat⟩ := H
  obtain ⟨⟨hyg, hyga, hygk, hym⟩, hycnt, hyxm, hyat⟩ := HY
  have hgg : g ≠ ga := fun e => by rw [e, hgk] at hg; cases hg
  have hyga' : yg ≠ ga := fun e => by rw [e, hgk] at hyg; cases hyg
  refine Ct_of (L := [some (.ref g), some (.ref yg), none, none]) (by decide) (by first | exact Nat.le_of_ble_eq_true rfl | simp [lg_sl, va_rf_cat, vc_r, vc_i, vc_0]) (by first | rfl | simp [lin, va_rf_cat, vc_r, vc_i, vc_0]) (fun Γ X => ?_)
  refine J_iconst (v := 0) X d_Gen_adoptReached_0 (by decide) ?_
  refine J_istore_n X d_Gen_adoptReached_1 rfl (by decide) rfl ?_
  have loop : ∀ (k i : Nat), k + i = ys.length → J Γ Δ (AE Γ w) 4 (genW (oldF w ((ys.take i).filter (rch w))) g ga (xs ++ (ys.take i).filter (rch w))) 0 0 (QE Γ Δ w (fun r w' => r = none ∧ w' = genW (oldF w (ys.filter (rch w))) g ga (xs ++ ys.filter (rch w))) (rmL 1 0 0)) 2 [some (.ref g), some (.ref yg), some (.int (nI i)), none] [] := by
    intro k
    induction k with
    | zero =>
      intro i hi
      have hc' : wI (genW (oldF w ((ys.take i).filter (rch w))) g ga (xs ++ (ys.take i).filter (rch w))) yg 2 = nI ys.length := (genW_int (Or.inl hne.symm)).trans ((oldF_int (by decide)).trans hycnt)
      refine J_iload_n X d_Gen_adoptReached_2 rfl rfl ?_
      first | refine J_aload_nr X d_Gen_adoptReached_3 rfl rfl ?_ | refine J_aload_n X d_Gen_adoptReached_3 rfl rfl ?_ | refine J_aload_n0 X d_Gen_adoptReached_3 rfl rfl ?_
      refine J_getI X (hyg) fa_Gen_22_1 rfl (hc') d_Gen_adoptReached_4 ?_
      refine J_icmp_ge (tgt := 44) X d_Gen_adoptReached_7 (by decide) (fun g2 => ?_) (fun g2 => ?_)
      · exact J_vret X ⟨rfl, by rw [List.take_of_length_le (by omega)]⟩ (by decide) (by decide) d_Gen_adoptReached_44
      · exact absurd (nI_le (by omega) (by omega)) g2
    | succ k ih =>
      intro i hi
      have hc' : wI (genW (oldF w ((ys.take i).filter (rch w))) g ga (xs ++ (ys.take i).filter (rch w))) yg 2 = nI ys.length := (genW_int (Or.inl hne.symm)).trans ((oldF_int (by decide)).trans hycnt)
      obtain ⟨x, hx⟩ := at_lt (xs := ys) (i := i) (by omega)
      obtain ⟨hxa, hT⟩ := hyat i x hx
      obtain ⟨ci, hci, hk⟩ := isTb_to hT
      have hxg : x ≠ g := isTb_ne hT hg (by decide)
      have hya' : wP (genW (oldF w ((ys.take i).filter (rch w))) g ga (xs ++ (ys.take i).filter (rch w))) yg 1 = some ya := (genW_ptr (Or.inl hyga')).trans hyga
      have hxa' : wP (genW (oldF w ((ys.take i).filter (rch w))) g ga (xs ++ (ys.take i).filter (rch w))) ya i = some x := (genW_ptr (Or.inl hna.symm)).trans hxa
      have hr' : wI (genW (oldF w ((ys.take i).filter (rch w))) g ga (xs ++ (ys.take i).filter (rch w))) x 2 = wI w x 2 := (genW_int (Or.inl hxg)).trans (oldF_int (by decide))
      refine J_iload_n X d_Gen_adoptReached_2 rfl rfl ?_
      first | refine J_aload_nr X d_Gen_adoptReached_3 rfl rfl ?_ | refine J_aload_n X d_Gen_adoptReached_3 rfl rfl ?_ | refine J_aload_n0 X d_Gen_adoptReached_3 rfl rfl ?_
      refine J_getI X (hyg) fa_Gen_22_1 rfl (hc') d_Gen_adoptReached_4 ?_
      refine J_icmp_ge (tgt := 44) X d_Gen_adoptReached_7 (by decide) (fun g2 => ?_) (fun g2 => ?_)
      · exact absurd g2 (nI_ge (by omega) (by omega))
      · first | refine J_aload_nr X d_Gen_adoptReached_10 rfl rfl ?_ | refine J_aload_n X d_Gen_adoptReached_10 rfl rfl ?_ | refine J_aload_n0 X d_Gen_adoptReached_10 rfl rfl ?_
        refine J_getR X (hyg) fa_Gen_15_1 rfl (hya') d_Gen_adoptReached_11 ?_
        refine J_iload_n X d_Gen_adoptReached_14 rfl rfl ?_
        refine J_aaldr X (hygk) (by decide) rfl ⟨_, rfl⟩ (rfl) (by omega) (by omega) (hxa') d_Gen_adoptReached_15 ?_
        first | refine J_astore_nr X d_Gen_adoptReached_16 rfl (by decide) rfl ?_ | refine J_astore_n X d_Gen_adoptReached_16 rfl (by decide) rfl ?_ | refine J_astore_n0 X d_Gen_adoptReached_16 rfl (by decide) rfl ?_
        first | refine J_aload_nr X d_Gen_adoptReached_17 rfl rfl ?_ | refine J_aload_n X d_Gen_adoptReached_17 rfl rfl ?_ | refine J_aload_n0 X d_Gen_adoptReached_17 rfl rfl ?_
        refine J_ifnullr X d_Gen_adoptReached_18 ?_
        first | refine J_aload_nr X d_Gen_adoptReached_21 rfl rfl ?_ | refine J_aload_n X d_Gen_adoptReached_21 rfl rfl ?_ | refine J_aload_n0 X d_Gen_adoptReached_21 rfl rfl ?_
        refine J_getI X (hk) (faT_Gen_28 hci).1 (faT_Gen_28 hci).2 (hr') d_Gen_adoptReached_22 ?_
        refine J_if_eq (tgt := 38) X d_Gen_adoptReached_25 (by decide) (fun g3 => ?_) (fun g3 => ?_)
        · refine J_iinc X d_Gen_adoptReached_38 rfl (by decide) (nI_s i) rfl ?_
          refine J_goto (tgt := 2) X d_Gen_adoptReached_41 (by decide) ?_
          refine J_forget 3 rfl ?_
          have e := ih (i + 1) (by omega)
          rw [filt_s hx, if_neg (by simp [rch, g3])] at e
          exact e
        · first | refine J_aload_nr X d_Gen_adoptReached_28 rfl rfl ?_ | refine J_aload_n X d_Gen_adoptReached_28 rfl rfl ?_ | refine J_aload_n0 X d_Gen_adoptReached_28 rfl rfl ?_
          refine J_iconst (v := 1) X d_Gen_adoptReached_29 (by decide) ?_
          refine J_putZ X (hk) (fpT_Gen_44 hci).1 (fpT_Gen_44 hci).2 (by decide) d_Gen_adoptReached_30 ?_
          first | refine J_aload_nr X d_Gen_adoptReached_33 rfl rfl ?_ | refine J_aload_n X d_Gen_adoptReached_33 rfl rfl ?_ | refine J_aload_n0 X d_Gen_adoptReached_33 rfl rfl ?_
          first | refine J_aload_nr X d_Gen_adoptReached_34 rfl rfl ?_ | refine J_aload_n X d_Gen_adoptReached_34 rfl rfl ?_ | refine J_aload_n0 X d_Gen_adoptReached_34 rfl rfl ?_
          have hsub : ((ys.take i).filter (rch w)).length + 1 ≤ (ys.filter (rch w)).length := by
            have h1 : ((ys.take (i + 1)).filter (rch w)).length ≤ (ys.filter (rch w)).length := ((List.take_sublist _ _).filter _).length_le
            rw [filt_s hx, if_pos (by simp [rch, g3])] at h1
            simpa using h1
          refine J_eq (w' := genW (oldF w ((ys.take i).filter (rch w) ++ [x])) g ga (xs ++ (ys.take i).filter (rch w))) (by rw [← oldF_genW (Or.inr trivial), oldF_s, oldF_genW (Or.inr trivial)]) rfl ?_
          refine J_callV X (hg) rfl (k_addW (w := oldF w ((ys.take i).filter (rch w) ++ [x])) (zs := xs ++ (ys.take i).filter (rch w)) (t := x) ⟨hg, hga, hgk, hm⟩ (by rw [List.length_append]; omega) hT (by rw [oldF_int (by decide)]; exact hsz x hT)) cd_Gen_add lk_Gen_40 vi_Gen_add (by decide) (by decide) (by decide) (by decide) rfl (by first | decide | simp [va_rf_cat, vc_r, vc_i, vc_0]) d_Gen_adoptReached_35 (fun r w1 hr => ?_)
          obtain ⟨rfl, rfl⟩ := hr
          refine J_iinc X d_Gen_adoptReached_38 rfl (by decide) (nI_s i) rfl ?_
          refine J_goto (tgt := 2) X d_Gen_adoptReached_41 (by decide) ?_
          refine J_forget 3 rfl ?_
          have e := ih (i + 1) (by omega)
          rw [filt_s hx, if_pos (by simp [rch, g3]), ← List.append_assoc] at e
          exact e
  refine J_eq (w' := genW (oldF w ((ys.take 0).filter (rch w))) g ga (xs ++ (ys.take 0).filter (rch w))) ?_ rfl (loop ys.length 0 rfl)
  rw [List.take_zero, List.filter_nil, List.append_nil, oldF_nil]
  exact (genW_self hcnt htk (fun i x hi => (hat i x hi).1)).symm
end GX
