/-! the trace: worlds of a search, find -/
def isTb (w : Wd) (t : Nat) : Bool := match wK w t with
  | some (.inl 3) => true
  | some (.inl 4) => true
  | _ => false
theorem isTb_of {w : Wd} {t ci : Nat} (hci : ci = 3 ∨ ci = 4) (h : wK w t = some (.inl ci)) : isTb w t = true := by
  rcases hci with rfl | rfl <;> simp [isTb, h]
theorem isTb_to {w : Wd} {t : Nat} (h : isTb w t = true) : ∃ ci, (ci = 3 ∨ ci = 4) ∧ wK w t = some (.inl ci) := by
  unfold isTb at h
  split at h
  · rename_i e; exact ⟨3, Or.inl rfl, e⟩
  · rename_i e; exact ⟨4, Or.inr rfl, e⟩
  · cases h
theorem isTb_no {w : Wd} {t : Nat} (h : wK w t = some (.inl 5)) : isTb w t = false := by simp [isTb, h]
/-- null, an int, an object -/
def oV (w : Wd) (o : Option Nat) : Prop := ∀ t, o = some t → isTb w t = true ∨ wK w t = some (.inl 5)
def szw (w : Wd) (t : Nat) : Nat := (wI w t 0).toNatClampNeg
def sumI (w : Wd) (xs : List Nat) : Int32 := nI ((xs.map (szw w)).sum)
/-- the world in which the search has found xs -/
def trW (w : Wd) (tr fa : Nat) (xs : List Nat) : Wd :=
  (w.1, fun b k => if b = tr ∧ k = 1 then nI xs.length else if b = tr ∧ k = 2 then sumI w xs else if k = 2 ∧ b ∈ xs then 1 else w.2.1 b k, fun b k => if b = fa then (if k < xs.length then xs[k]? else w.2.2.1 b k) else w.2.2.1 b k, w.2.2.2)
theorem trW_cnt (w : Wd) (tr fa : Nat) (xs : List Nat) : wI (trW w tr fa xs) tr 1 = nI xs.length := by simp [trW, wI]
theorem trW_cel (w : Wd) (tr fa : Nat) (xs : List Nat) : wI (trW w tr fa xs) tr 2 = sumI w xs := by simp [trW, wI]
theorem trW_flag {w : Wd} {tr fa : Nat} {xs : List Nat} {t : Nat} (h : t ≠ tr) : wI (trW w tr fa xs) t 2 = if t ∈ xs then 1 else wI w t 2 := by simp [trW, wI, h]
theorem trW_int {w : Wd} {tr fa : Nat} {xs : List Nat} {b k : Nat} (h : b ≠ tr) (hk : k ≠ 2) : wI (trW w tr fa xs) b k = wI w b k := by simp [trW, wI, h, hk]
theorem trW_int0 {w : Wd} {tr fa : Nat} {xs : List Nat} {b : Nat} : wI (trW w tr fa xs) b 0 = wI w b 0 := by simp [trW, wI]
theorem trW_ptr {w : Wd} {tr fa : Nat} {xs : List Nat} {b k : Nat} (h : b ≠ fa) : wP (trW w tr fa xs) b k = wP w b k := by simp [trW, wP, h]
theorem trW_fa {w : Wd} {tr fa : Nat} {xs : List Nat} {k x : Nat} (h : xs[k]? = some x) : wP (trW w tr fa xs) fa k = some x := by
  have := (List.getElem?_eq_some_iff.mp h).1
  simp [trW, wP, this]
  exact (List.getElem?_eq_some_iff.mp h).2
theorem trW_push {w : Wd} {tr fa : Nat} {xs : List Nat} {t : Nat} (ht : t ≠ tr) (hs : wI w t 0 = nI (szw w t)) :
    uI (uI (uP (uI (trW w tr fa xs) t 2 1) fa xs.length (some t)) tr 1 (nI (xs.length + 1))) tr 2 (sumI w xs + wI w t 0) = trW w tr fa (xs ++ [t]) := by
  have e2 : sumI w (xs ++ [t]) = sumI w xs + wI w t 0 := by
    rw [hs, sumI, sumI, nI_add]
    simp
  refine Prod.ext rfl (Prod.ext ?_ (Prod.ext ?_ rfl))
  · funext b k
    show (if b = tr ∧ k = 2 then sumI w xs + wI w t 0 else if b = tr ∧ k = 1 then nI (xs.length + 1) else if b = t ∧ k = 2 then (1 : Int32) else (if b = tr ∧ k = 1 then nI xs.length else if b = tr ∧ k = 2 then sumI w xs else if k = 2 ∧ b ∈ xs then 1 else w.2.1 b k)) = (if b = tr ∧ k = 1 then nI (xs ++ [t]).length else if b = tr ∧ k = 2 then sumI w (xs ++ [t]) else if k = 2 ∧ b ∈ xs ++ [t] then 1 else w.2.1 b k)
    rw [e2]
    by_cases h1 : b = tr
    · subst h1
      by_cases k1 : k = 1
      · subst k1; simp
      · by_cases k2 : k = 2
        · subst k2; simp
        · simp [k1, k2]
    · by_cases k2 : k = 2
      · subst k2
        by_cases hb : b = t
        · subst hb; simp [h1]
        · simp [h1, hb]
      · simp [h1, k2]
  · funext b k
    show (if b = fa ∧ k = xs.length then some t else (if b = fa then (if k < xs.length then xs[k]? else w.2.2.1 b k) else w.2.2.1 b k)) = (if b = fa then (if k < (xs ++ [t]).length then (xs ++ [t])[k]? else w.2.2.1 b k) else w.2.2.1 b k)
    by_cases hb : b = fa
    · subst hb
      by_cases k1 : k = xs.length
      · subst k1; simp
      · by_cases k2 : k < xs.length
        · rw [if_neg (by simp [k1]), if_pos rfl, if_pos rfl, if_pos k2, if_pos (by simp; omega), List.getElem?_append_left k2]
        · rw [if_neg (by simp [k1]), if_pos rfl, if_pos rfl, if_neg k2, if_neg (by simp; omega)]
    · simp [hb]
theorem trW_nil {w : Wd} {tr fa : Nat} (h1 : wI w tr 1 = 0) (h2 : wI w tr 2 = 0) : trW w tr fa [] = w := by
  refine Prod.ext rfl (Prod.ext ?_ (Prod.ext ?_ rfl))
  · funext b k
    show (if b = tr ∧ k = 1 then nI 0 else if b = tr ∧ k = 2 then sumI w [] else if k = 2 ∧ b ∈ ([] : List Nat) then 1 else w.2.1 b k) = w.2.1 b k
    by_cases g1 : b = tr ∧ k = 1
    · rw [if_pos g1]; obtain ⟨rfl, rfl⟩ := g1; exact h1.symm
    · rw [if_neg g1]
      by_cases g2 : b = tr ∧ k = 2
      · rw [if_pos g2]; obtain ⟨rfl, rfl⟩ := g2; exact h2.symm
      · rw [if_neg g2]; simp
  · funext b k
    show (if b = fa then (if k < 0 then _ else w.2.2.1 b k) else w.2.2.1 b k) = w.2.2.1 b k
    simp
/-- what find adds -/
def fnd (w : Wd) (xs : List Nat) (o : Option Nat) : List Nat := match o with
  | some t => if isTb w t = true ∧ t ∉ xs then xs ++ [t] else xs
  | none => xs
/-- the trace object and its row -/
def TrO (w : Wd) (tr fa N : Nat) : Prop := wK w tr = some (.inl 2) ∧ wP w tr 0 = some fa ∧ wK w fa = some (.inr (4, N)) ∧ N < 2 ^ 31 ∧ ∀ t, isTb w t = true → wI w t 2 = 0 ∧ wI w t 0 = nI (szw w t)
theorem isTb_ne {w : Wd} {t a : Nat} {d : Kd} (h : isTb w t = true) (ha : wK w a = some d) (hd : d ≠ .inl 3 ∧ d ≠ .inl 4) : t ≠ a := by
  rintro rfl
  obtain ⟨ci, hci, h⟩ := isTb_to h
  rw [ha] at h
  cases h
  rcases hci with rfl | rfl
  · exact hd.1 rfl
  · exact hd.2 rfl
section TR
variable {l : Launch} {Δ : Dat} {w : Wd} {tr fa N : Nat} {xs : List Nat}
set_option maxRecDepth 100000 in
set_option maxHeartbeats 1000000 in
theorem k_find {o : Option Nat} (H : TrO w tr fa N) (hv : oV w o) (hroom : ∀ t, o = some t → isTb w t = true → t ∉ xs → xs.length < N) (hlen : xs.length ≤ N) :
    Ct l y_Tr_find h_Tr_find (rmL 0 0 0) Δ [.ref tr, va_rf o] (trW w tr fa xs) (fun r w' => r = none ∧ w' = trW w tr fa (fnd w xs o)) := by
  obtain ⟨htr, hfa, hfk, hN, hth⟩ := H
  cases o with
  | none =>
    refine Ct_of (L := [some (.ref tr), some .null, none]) (by decide) (by first | exact Nat.le_of_ble_eq_true rfl | simp [lg_sl, va_rf_cat, vc_r, vc_i, vc_0]) (by first | rfl | simp [lin, va_rf_cat, vc_r, vc_i, vc_0]) (fun Γ X => ?_)
    first | refine J_aload_nr X d_Tr_find_0 rfl rfl ?_ | refine J_aload_n X d_Tr_find_0 rfl rfl ?_ | refine J_aload_n0 X d_Tr_find_0 rfl rfl ?_
    refine J_inst0 X d_Tr_find_1 ?_
    refine J_if_eq (tgt := 69) X d_Tr_find_4 (by decide) (fun g => ?_) (fun g => ?_)
    · exact J_vret X ⟨rfl, rfl⟩ (by decide) (by decide) d_Tr_find_69
    · exact absurd rfl g
  | some t =>
    refine Ct_of (L := [some (.ref tr), some (.ref t), none]) (by decide) (by first | exact Nat.le_of_ble_eq_true rfl | simp [lg_sl, va_rf_cat, vc_r, vc_i, vc_0]) (by first | rfl | simp [lin, va_rf_cat, vc_r, vc_i, vc_0]) (fun Γ X => ?_)
    first | refine J_aload_nr X d_Tr_find_0 rfl rfl ?_ | refine J_aload_n X d_Tr_find_0 rfl rfl ?_ | refine J_aload_n0 X d_Tr_find_0 rfl rfl ?_
    rcases hv t rfl with ht | ht
    · obtain ⟨ci, hci, hk⟩ := isTb_to ht
      have hne : t ≠ tr := isTb_ne ht htr (by decide)
      refine J_instY X hk (by rcases hci with rfl | rfl; exact iy_Tr_7_3; exact iy_Tr_7_4) d_Tr_find_1 ?_
      refine J_if_eq (tgt := 69) X d_Tr_find_4 (by decide) (fun g => ?_) (fun g => ?_)
      · exact absurd g (by decide)
      · first | refine J_aload_nr X d_Tr_find_7 rfl rfl ?_ | refine J_aload_n X d_Tr_find_7 rfl rfl ?_ | refine J_aload_n0 X d_Tr_find_7 rfl rfl ?_
        refine J_cast X hk (by rcases hci with rfl | rfl; exact iy_Tr_7_3; exact iy_Tr_7_4) d_Tr_find_8 ?_
        by_cases hx : t ∈ xs
        · first | refine J_astore_nr X d_Tr_find_11 rfl (by decide) rfl ?_ | refine J_astore_n X d_Tr_find_11 rfl (by decide) rfl ?_ | refine J_astore_n0 X d_Tr_find_11 rfl (by decide) rfl ?_
          first | refine J_aload_nr X d_Tr_find_12 rfl rfl ?_ | refine J_aload_n X d_Tr_find_12 rfl rfl ?_ | refine J_aload_n0 X d_Tr_find_12 rfl rfl ?_
          refine J_getI X (hk) (faT_Tr_19 hci).1 (faT_Tr_19 hci).2 ((trW_flag hne).trans (if_pos hx)) d_Tr_find_13 ?_
          refine J_if_ne (tgt := 69) X d_Tr_find_16 (by decide) (fun g2 => ?_) (fun g2 => ?_)
          · exact J_vret X ⟨rfl, by rw [fnd, if_neg (fun q => q.2 hx)]⟩ (by decide) (by decide) d_Tr_find_69
          · exact absurd g2 (by decide)
        · have hlt := hroom t rfl ht hx
          have hfar : tr ≠ fa := fun e => by rw [e, hfk] at htr; cases htr
          have hf' : wP (trW w tr fa xs) tr 0 = some fa := (trW_ptr hfar).trans hfa
          have h0 : wI (trW w tr fa xs) t 2 = 0 := (trW_flag hne).trans ((if_neg hx).trans (hth t ht).1)
          first | refine J_astore_nr X d_Tr_find_11 rfl (by decide) rfl ?_ | refine J_astore_n X d_Tr_find_11 rfl (by decide) rfl ?_ | refine J_astore_n0 X d_Tr_find_11 rfl (by decide) rfl ?_
          first | refine J_aload_nr X d_Tr_find_12 rfl rfl ?_ | refine J_aload_n X d_Tr_find_12 rfl rfl ?_ | refine J_aload_n0 X d_Tr_find_12 rfl rfl ?_
          refine J_getI X (hk) (faT_Tr_19 hci).1 (faT_Tr_19 hci).2 (h0) d_Tr_find_13 ?_
          refine J_if_ne (tgt := 69) X d_Tr_find_16 (by decide) (fun g2 => ?_) (fun g2 => ?_)
          · exact absurd rfl g2
          · first | refine J_aload_nr X d_Tr_find_19 rfl rfl ?_ | refine J_aload_n X d_Tr_find_19 rfl rfl ?_ | refine J_aload_n0 X d_Tr_find_19 rfl rfl ?_
            refine J_getI X (htr) fa_Tr_15_2 rfl (trW_cnt _ _ _ _) d_Tr_find_20 ?_
            first | refine J_aload_nr X d_Tr_find_23 rfl rfl ?_ | refine J_aload_n X d_Tr_find_23 rfl rfl ?_ | refine J_aload_n0 X d_Tr_find_23 rfl rfl ?_
            refine J_getR X (htr) fa_Tr_9_2 rfl (hf') d_Tr_find_24 ?_
            refine J_alen X (hfk) (by decide) d_Tr_find_27 ?_
            refine J_icmp_ge (tgt := 69) X d_Tr_find_28 (by decide) (fun g3 => ?_) (fun g3 => ?_)
            · exact absurd g3 (nI_ge hlt hN)
            · first | refine J_aload_nr X d_Tr_find_31 rfl rfl ?_ | refine J_aload_n X d_Tr_find_31 rfl rfl ?_ | refine J_aload_n0 X d_Tr_find_31 rfl rfl ?_
              refine J_iconst (v := 1) X d_Tr_find_32 (by decide) ?_
              refine J_putZ X (hk) (fpT_Tr_19 hci).1 (fpT_Tr_19 hci).2 (by decide) d_Tr_find_33 ?_
              first | refine J_aload_nr X d_Tr_find_36 rfl rfl ?_ | refine J_aload_n X d_Tr_find_36 rfl rfl ?_ | refine J_aload_n0 X d_Tr_find_36 rfl rfl ?_
              refine J_getR X (htr) fa_Tr_9_2 rfl (hf') d_Tr_find_37 ?_
              first | refine J_aload_nr X d_Tr_find_40 rfl rfl ?_ | refine J_aload_n X d_Tr_find_40 rfl rfl ?_ | refine J_aload_n0 X d_Tr_find_40 rfl rfl ?_
              refine J_getI X (htr) fa_Tr_15_2 rfl (by rw [wI_uI, if_neg (fun q => hne q.1.symm)]; exact trW_cnt _ _ _ _ : _ = nI xs.length) d_Tr_find_41 ?_
              first | refine J_aload_nr X d_Tr_find_44 rfl rfl ?_ | refine J_aload_n X d_Tr_find_44 rfl rfl ?_ | refine J_aload_n0 X d_Tr_find_44 rfl rfl ?_
              refine J_aastr X hfk (by decide) rfl ⟨_, rfl⟩ ⟨ci, hk, by rcases hci with rfl | rfl; exact ac_3_4; exact ac_4_4⟩ rfl hlt hN d_Tr_find_45 ?_
              first | refine J_aload_nr X d_Tr_find_46 rfl rfl ?_ | refine J_aload_n X d_Tr_find_46 rfl rfl ?_ | refine J_aload_n0 X d_Tr_find_46 rfl rfl ?_
              refine J_dup X d_Tr_find_47 (rfl) ?_
              refine J_getI X (htr) fa_Tr_15_2 rfl (by rw [wI_uP, wI_uI, if_neg (fun q => hne q.1.symm)]; exact trW_cnt _ _ _ _ : _ = nI xs.length) d_Tr_find_48 ?_
              refine J_iconst (v := 1) X d_Tr_find_51 (by decide) ?_
              refine J_iadd X d_Tr_find_52 ?_
              refine J_top (v' := .int (nI (xs.length + 1))) (by rw [show (1 : Int32) = nI 1 from rfl, nI_add]) ?_
              refine J_putI X (htr) fp_Tr_15_2 rfl d_Tr_find_53 ?_
              first | refine J_aload_nr X d_Tr_find_56 rfl rfl ?_ | refine J_aload_n X d_Tr_find_56 rfl rfl ?_ | refine J_aload_n0 X d_Tr_find_56 rfl rfl ?_
              refine J_dup X d_Tr_find_57 (rfl) ?_
              refine J_getI X (htr) fa_Tr_23_2 rfl (by rw [wI_uI, if_neg (by simp), wI_uP, wI_uI, if_neg (fun q => hne q.1.symm)]; exact trW_cel _ _ _ _ : _ = sumI w xs) d_Tr_find_58 ?_
              first | refine J_aload_nr X d_Tr_find_61 rfl rfl ?_ | refine J_aload_n X d_Tr_find_61 rfl rfl ?_ | refine J_aload_n0 X d_Tr_find_61 rfl rfl ?_
              refine J_getI X (hk) (faT_Tr_26 hci).1 (faT_Tr_26 hci).2 (by rw [wI_uI, if_neg (fun q => hne q.1), wI_uP, wI_uI, if_neg (by simp)]; exact trW_int0 : _ = wI w t 0) d_Tr_find_62 ?_
              refine J_iadd X d_Tr_find_65 ?_
              refine J_putI X (htr) fp_Tr_23_2 rfl d_Tr_find_66 ?_
              exact J_vret X ⟨rfl, by rw [trW_push hne (hth t ht).2, fnd, if_pos ⟨ht, hx⟩]⟩ (by decide) (by decide) d_Tr_find_69
    · refine J_instN X ht in_Tr_7_5 d_Tr_find_1 ?_
      refine J_if_eq (tgt := 69) X d_Tr_find_4 (by decide) (fun g => ?_) (fun g => ?_)
      · exact J_vret X ⟨rfl, by rw [fnd, if_neg (fun q => by rw [isTb_no ht] at q; cases q.1)]⟩ (by decide) (by decide) d_Tr_find_69
      · exact absurd rfl g
end TR
