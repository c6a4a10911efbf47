/-! the trace's loops: restart, findAll, findContents, findRegisters, follow -/
theorem forget_ok {L : List (Option Value)} (j : Nat) : ∀ (i : Nat) (v : Value), (L.set j none)[i]? = some (some v) → L[i]? = some (some v) := by
  intro i v h
  by_cases e : j = i
  · subst e
    by_cases hl : j < L.length
    · rw [List.getElem?_set_self hl] at h; cases h
    · rw [List.getElem?_eq_none (by rw [List.length_set]; omega)] at h; cases h
  · rwa [List.getElem?_set_ne e] at h
theorem J_forget {Γ : Cxt} {Δ : Dat} {A : Nat → Prop} {nL : Nat} {w : Wd} {cells slots : Nat} {Q : State → Prop} {pc : Nat} {L L' : List (Option Value)} {st : List Value} (j : Nat) (hL : L.set j none = L') (k : J Γ Δ A nL w cells slots Q pc L' st) : J Γ Δ A nL w cells slots Q pc L st := by
  subst hL
  exact J_loc (forget_ok j) k
theorem nI_s (i : Nat) : nI i + Int32.ofInt 1 = nI (i + 1) := by rw [show Int32.ofInt 1 = nI 1 from rfl, nI_add]
/-- the flags of xs cleared -/
def clrR (w : Wd) (xs : List Nat) : Wd := (w.1, fun b k => if k = 2 ∧ b ∈ xs then 0 else w.2.1 b k, w.2.2)
theorem clrR_nil (w : Wd) : clrR w [] = w := by
  refine Prod.ext rfl (Prod.ext ?_ rfl)
  funext b k
  show (if k = 2 ∧ b ∈ ([] : List Nat) then 0 else w.2.1 b k) = w.2.1 b k
  simp
theorem clrR_step {w : Wd} {xs : List Nat} {x : Nat} : uI (clrR w xs) x 2 0 = clrR w (xs ++ [x]) := by
  refine Prod.ext rfl (Prod.ext ?_ rfl)
  funext b k
  show (if b = x ∧ k = 2 then 0 else if k = 2 ∧ b ∈ xs then 0 else w.2.1 b k) = if k = 2 ∧ b ∈ xs ++ [x] then 0 else w.2.1 b k
  by_cases k2 : k = 2
  · subst k2
    by_cases hb : b = x
    · subst hb; simp
    · simp [hb]
  · simp [k2]
theorem take_s {α : Type} {xs : List α} {i : Nat} {x : α} (h : xs[i]? = some x) : xs.take (i + 1) = xs.take i ++ [x] := by
  rw [List.take_add_one, h]
  rfl
theorem at_lt {α : Type} {xs : List α} {i : Nat} (h : i < xs.length) : ∃ x, xs[i]? = some x := ⟨xs[i], List.getElem?_eq_getElem h⟩
section TL
variable {l : Launch} {Δ : Dat} {w : Wd} {tr fa N : Nat} {xs : List Nat}
set_option maxRecDepth 100000 in
set_option maxHeartbeats 1000000 in
theorem k_restart (htr : wK w tr = some (.inl 2)) (hfa : wP w tr 0 = some fa) (hfk : wK w fa = some (.inr (4, N))) (hN : N < 2 ^ 31) (hlen : xs.length ≤ N) (hcnt : wI w tr 1 = nI xs.length) (harr : ∀ i x, xs[i]? = some x → wP w fa i = some x) (hxs : ∀ x ∈ xs, isTb w x = true) :
    Ct l y_Tr_restart h_Tr_restart (rmL 0 0 0) Δ [.ref tr] w (fun r w' => r = none ∧ w' = uI (uI (clrR w xs) tr 1 0) tr 2 0) := by
  refine Ct_of (L := [some (.ref tr), none, none]) (by decide) (by first | exact Nat.le_of_ble_eq_true rfl | simp [lg_sl, va_rf_cat, vc_r, vc_i, vc_0]) (by first | rfl | simp [lin, va_rf_cat, vc_r, vc_i, vc_0]) (fun Γ X => ?_)
  refine J_iconst (v := 0) X d_Tr_restart_0 (by decide) ?_
  refine J_istore_n X d_Tr_restart_1 rfl (by decide) rfl ?_
  have loop : ∀ (k i : Nat), k + i = xs.length → J Γ Δ (AE Γ w) 3 (clrR w (xs.take i)) 0 0 (QE Γ Δ w (fun r w' => r = none ∧ w' = uI (uI (clrR w xs) tr 1 0) tr 2 0) (rmL 0 0 0)) 2 [some (.ref tr), some (.int (nI i)), none] [] := by
    intro k
    induction k with
    | zero =>
      intro i hi
      have hc : wI (clrR w (xs.take i)) tr 1 = nI xs.length := hcnt
      refine J_iload_n X d_Tr_restart_2 rfl rfl ?_
      first | refine J_aload_nr X d_Tr_restart_3 rfl rfl ?_ | refine J_aload_n X d_Tr_restart_3 rfl rfl ?_ | refine J_aload_n0 X d_Tr_restart_3 rfl rfl ?_
      refine J_getI X (htr) fa_Tr_15_2 rfl (hc) d_Tr_restart_4 ?_
      refine J_icmp_ge (tgt := 32) X d_Tr_restart_7 (by decide) (fun g => ?_) (fun g => ?_)
      · first | refine J_aload_nr X d_Tr_restart_32 rfl rfl ?_ | refine J_aload_n X d_Tr_restart_32 rfl rfl ?_ | refine J_aload_n0 X d_Tr_restart_32 rfl rfl ?_
        refine J_iconst (v := 0) X d_Tr_restart_33 (by decide) ?_
        refine J_putI X (htr) fp_Tr_15_2 rfl d_Tr_restart_34 ?_
        first | refine J_aload_nr X d_Tr_restart_37 rfl rfl ?_ | refine J_aload_n X d_Tr_restart_37 rfl rfl ?_ | refine J_aload_n0 X d_Tr_restart_37 rfl rfl ?_
        refine J_iconst (v := 0) X d_Tr_restart_38 (by decide) ?_
        refine J_putI X (htr) fp_Tr_23_2 rfl d_Tr_restart_39 ?_
        exact J_vret X ⟨rfl, by rw [List.take_of_length_le (by omega)]⟩ (by decide) (by decide) d_Tr_restart_42
      · exact absurd (nI_le (by omega) (by omega)) g
    | succ k ih =>
      intro i hi
      obtain ⟨x, hx⟩ := at_lt (xs := xs) (i := i) (by omega)
      have hc : wI (clrR w (xs.take i)) tr 1 = nI xs.length := hcnt
      obtain ⟨ci, hci, hk⟩ := isTb_to (hxs x (List.mem_of_getElem? hx))
      have hxa : wP (clrR w (xs.take i)) fa i = some x := harr i x hx
      refine J_iload_n X d_Tr_restart_2 rfl rfl ?_
      first | refine J_aload_nr X d_Tr_restart_3 rfl rfl ?_ | refine J_aload_n X d_Tr_restart_3 rfl rfl ?_ | refine J_aload_n0 X d_Tr_restart_3 rfl rfl ?_
      refine J_getI X (htr) fa_Tr_15_2 rfl (hc) d_Tr_restart_4 ?_
      refine J_icmp_ge (tgt := 32) X d_Tr_restart_7 (by decide) (fun g => ?_) (fun g => ?_)
      · exact absurd g (nI_ge (by omega) (by omega))
      · first | refine J_aload_nr X d_Tr_restart_10 rfl rfl ?_ | refine J_aload_n X d_Tr_restart_10 rfl rfl ?_ | refine J_aload_n0 X d_Tr_restart_10 rfl rfl ?_
        refine J_getR X (htr) fa_Tr_9_2 rfl (hfa) d_Tr_restart_11 ?_
        refine J_iload_n X d_Tr_restart_14 rfl rfl ?_
        refine J_aaldr X (hfk) (by decide) rfl ⟨_, rfl⟩ (rfl) (by omega) (hN) (hxa) d_Tr_restart_15 ?_
        first | refine J_astore_nr X d_Tr_restart_16 rfl (by decide) rfl ?_ | refine J_astore_n X d_Tr_restart_16 rfl (by decide) rfl ?_ | refine J_astore_n0 X d_Tr_restart_16 rfl (by decide) rfl ?_
        first | refine J_aload_nr X d_Tr_restart_17 rfl rfl ?_ | refine J_aload_n X d_Tr_restart_17 rfl rfl ?_ | refine J_aload_n0 X d_Tr_restart_17 rfl rfl ?_
        refine J_ifnullr X d_Tr_restart_18 ?_
        first | refine J_aload_nr X d_Tr_restart_21 rfl rfl ?_ | refine J_aload_n X d_Tr_restart_21 rfl rfl ?_ | refine J_aload_n0 X d_Tr_restart_21 rfl rfl ?_
        refine J_iconst (v := 0) X d_Tr_restart_22 (by decide) ?_
        refine J_putZ X (hk) (fpT_Tr_19 hci).1 (fpT_Tr_19 hci).2 (by decide) d_Tr_restart_23 ?_
        refine J_iinc X d_Tr_restart_26 rfl (by decide) (nI_s i) rfl ?_
        refine J_goto (tgt := 2) X d_Tr_restart_29 (by decide) ?_
        refine J_forget 2 rfl ?_
        refine J_eq (w' := clrR w (xs.take (i + 1))) (by rw [clrR_step, take_s hx]) rfl ?_
        exact ih (i + 1) (by omega)
  exact J_eq (w' := clrR w (xs.take 0)) (by rw [List.take_zero, clrR_nil]) rfl (loop xs.length 0 rfl)
end TL
