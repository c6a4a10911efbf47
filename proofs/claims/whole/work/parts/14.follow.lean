/-! findContents, findAll, findRegisters, follow -/
def pA (w : Wd) (a k : Nat) : Nat := (wP w a k).getD 0
def kN (w : Wd) (a : Nat) : Nat := match wK w a with
  | some (.inr (_, n)) => n
  | _ => 0
def rowL (w : Wd) (a n : Nat) : List (Option Nat) := (List.range n).map (wP w a)
theorem rowL_len (w : Wd) (a n : Nat) : (rowL w a n).length = n := by simp [rowL]
theorem rowL_at {w : Wd} {a n i : Nat} (h : i < n) : (rowL w a n)[i]? = some (wP w a i) := by
  rw [rowL, List.getElem?_map, List.getElem?_range h]; rfl
theorem rowL_mem {w : Wd} {a n : Nat} {o : Option Nat} : o ∈ rowL w a n ↔ ∃ i, i < n ∧ wP w a i = o := by
  simp [rowL]
def fnds (w : Wd) (xs : List Nat) (os : List (Option Nat)) : List Nat := os.foldl (fnd w) xs
theorem fnds_take {w : Wd} {xs : List Nat} {os : List (Option Nat)} {i : Nat} {o : Option Nat} (h : os[i]? = some o) : fnds w xs (os.take (i + 1)) = fnd w (fnds w xs (os.take i)) o := by
  rw [take_s h, fnds, List.foldl_append]; rfl
/-- found things: each once, all among B -/
def Bd (B xs : List Nat) : Prop := xs.Nodup ∧ ∀ x ∈ xs, x ∈ B
def oB (w : Wd) (B : List Nat) (o : Option Nat) : Prop := ∀ t, o = some t → isTb w t = true → t ∈ B
theorem fnd_bd {w : Wd} {B xs : List Nat} {o : Option Nat} (h : Bd B xs) (ho : oB w B o) : Bd B (fnd w xs o) := by
  cases o with
  | none => exact h
  | some t =>
    show Bd B (if isTb w t = true ∧ t ∉ xs then xs ++ [t] else xs)
    split
    · rename_i g
      refine ⟨?_, fun x hx => ?_⟩
      · rw [List.nodup_append]
        exact ⟨h.1, by simp, fun a ha b hb => by rw [List.mem_singleton.mp hb]; rintro rfl; exact g.2 ha⟩
      · rcases List.mem_append.mp hx with hx | hx
        · exact h.2 x hx
        · rw [List.mem_singleton.mp hx]; exact ho t rfl g.1
    · exact h
theorem fnds_bd {w : Wd} {B : List Nat} {os : List (Option Nat)} (ho : ∀ o ∈ os, oB w B o) : ∀ {xs : List Nat}, Bd B xs → Bd B (fnds w xs os) := by
  induction os with
  | nil => exact fun h => h
  | cons o t ih => exact fun h => ih (fun z hz => ho z (List.mem_cons_of_mem _ hz)) (fnd_bd h (ho o List.mem_cons_self))
theorem bd_len {B xs : List Nat} {N : Nat} (h : Bd B xs) (hB : B.length ≤ N) : xs.length ≤ N := Nat.le_trans (h.1.length_le_of_subset (fun x hx => h.2 x hx)) hB
theorem bd_room {B xs : List Nat} {N t : Nat} (h : Bd B xs) (hB : B.length ≤ N) (ht : t ∈ B) (hx : t ∉ xs) : xs.length < N := by
  have h2 : (t :: xs).length ≤ B.length := List.Nodup.length_le_of_subset (List.nodup_cons.mpr ⟨hx, h.1⟩) (fun z hz => by
    rcases List.mem_cons.mp hz with rfl | hz
    · exact ht
    · exact h.2 z hz)
  simp only [List.length_cons] at h2
  omega
theorem bd_take {w : Wd} {B xs : List Nat} {os : List (Option Nat)} (h : Bd B xs) (ho : ∀ o ∈ os, oB w B o) (i : Nat) : Bd B (fnds w xs (os.take i)) := fnds_bd (fun o ho' => ho o (List.mem_of_mem_take ho')) h
section TF
variable {l : Launch} {Δ : Dat} {w : Wd} {tr fa N : Nat} {xs B : List Nat}
theorem k_findB {o : Option Nat} (H : TrO w tr fa N) (hB : B.length ≤ N) (hb : Bd B xs) (hv : oV w o) (ho : oB w B o) :
    Ct l y_Tr_find h_Tr_find (rmL 0 0 0) Δ [.ref tr, va_rf o] (trW w tr fa xs) (fun r w' => r = none ∧ w' = trW w tr fa (fnd w xs o)) :=
  k_find H hv (fun t e ht hx => bd_room hb hB (ho t e ht) hx) (bd_len hb hB)
set_option maxRecDepth 100000 in
set_option maxHeartbeats 1000000 in
theorem k_findContents {p c n : Nat} (H : TrO w tr fa N) (hB : B.length ≤ N) (hb : Bd B xs) (hp : wK w p = some (.inl 3)) (hc : wP w p 3 = some c) (hn : wK w c = some (.inr (3, n))) (hn2 : n < 10000) (hv : ∀ o ∈ rowL w c n, oV w o) (ho : ∀ o ∈ rowL w c n, oB w B o) :
    Ct l y_Tr_findContents h_Tr_findContents (rmL 1 0 0) Δ [.ref tr, .ref p] (trW w tr fa xs) (fun r w' => r = none ∧ w' = trW w tr fa (fnds w xs (rowL w c n))) := by
  have htr := H.1
  have hfk := H.2.2.1
  have hpfa : p ≠ fa := fun e => by rw [e, hfk] at hp; cases hp
  have hcfa : c ≠ fa := fun e => by rw [e, hfk] at hn; cases hn
  refine Ct_of (L := [some (.ref tr), some (.ref p), none]) (by decide) (by first | exact Nat.le_of_ble_eq_true rfl | simp [lg_sl, va_rf_cat, vc_r, vc_i, vc_0]) (by first | rfl | simp [lin, va_rf_cat, vc_r, vc_i, vc_0]) (fun Γ X => ?_)
  refine J_iconst (v := 0) X d_Tr_findContents_0 (by decide) ?_
  refine J_istore_n X d_Tr_findContents_1 rfl (by decide) rfl ?_
  have loop : ∀ (k i : Nat), k + i = n → J Γ Δ (AE Γ (trW w tr fa xs)) 3 (trW w tr fa (fnds w xs ((rowL w c n).take i))) 0 0 (QE Γ Δ (trW w tr fa xs) (fun r w' => r = none ∧ w' = trW w tr fa (fnds w xs (rowL w c n))) (rmL 1 0 0)) 2 [some (.ref tr), some (.ref p), some (.int (nI i))] [] := by
    intro k
    induction k with
    | zero =>
      intro i hi
      have hc' : wP (trW w tr fa (fnds w xs ((rowL w c n).take i))) p 3 = some c := (trW_ptr hpfa).trans hc
      refine J_iload_n X d_Tr_findContents_2 rfl rfl ?_
      first | refine J_aload_nr X d_Tr_findContents_3 rfl rfl ?_ | refine J_aload_n X d_Tr_findContents_3 rfl rfl ?_ | refine J_aload_n0 X d_Tr_findContents_3 rfl rfl ?_
      refine J_getR X (hp) fa_Tr_45_3 rfl (hc') d_Tr_findContents_4 ?_
      refine J_alen X (hn) (by decide) d_Tr_findContents_7 ?_
      refine J_icmp_ge (tgt := 27) X d_Tr_findContents_8 (by decide) (fun g => ?_) (fun g => ?_)
      · exact J_vret X ⟨rfl, by rw [List.take_of_length_le (by rw [rowL_len]; omega)]⟩ (by decide) (by decide) d_Tr_findContents_27
      · exact absurd (nI_le (by omega) (by omega)) g
    | succ k ih =>
      intro i hi
      have hi' : i < n := by omega
      have hc' : wP (trW w tr fa (fnds w xs ((rowL w c n).take i))) p 3 = some c := (trW_ptr hpfa).trans hc
      have ha' : wP (trW w tr fa (fnds w xs ((rowL w c n).take i))) c i = wP w c i := trW_ptr hcfa
      have hm : wP w c i ∈ rowL w c n := rowL_mem.mpr ⟨i, hi', rfl⟩
      refine J_iload_n X d_Tr_findContents_2 rfl rfl ?_
      first | refine J_aload_nr X d_Tr_findContents_3 rfl rfl ?_ | refine J_aload_n X d_Tr_findContents_3 rfl rfl ?_ | refine J_aload_n0 X d_Tr_findContents_3 rfl rfl ?_
      refine J_getR X (hp) fa_Tr_45_3 rfl (hc') d_Tr_findContents_4 ?_
      refine J_alen X (hn) (by decide) d_Tr_findContents_7 ?_
      refine J_icmp_ge (tgt := 27) X d_Tr_findContents_8 (by decide) (fun g => ?_) (fun g => ?_)
      · exact absurd g (nI_ge (by omega) (by omega))
      · first | refine J_aload_nr X d_Tr_findContents_11 rfl rfl ?_ | refine J_aload_n X d_Tr_findContents_11 rfl rfl ?_ | refine J_aload_n0 X d_Tr_findContents_11 rfl rfl ?_
        first | refine J_aload_nr X d_Tr_findContents_12 rfl rfl ?_ | refine J_aload_n X d_Tr_findContents_12 rfl rfl ?_ | refine J_aload_n0 X d_Tr_findContents_12 rfl rfl ?_
        refine J_getR X (hp) fa_Tr_45_3 rfl (hc') d_Tr_findContents_13 ?_
        refine J_iload_n X d_Tr_findContents_16 rfl rfl ?_
        refine J_aald X (hn) (by decide) rfl ⟨_, rfl⟩ (rfl) (hi') (by omega) (ha') d_Tr_findContents_17 ?_
        refine J_callV X (htr) rfl (k_findB (B := B) H hB (bd_take hb ho i) (hv _ hm) (ho _ hm)) cd_Tr_find lk_Tr_35 vi_Tr_find (by decide) (by decide) (by decide) (by decide) rfl (by first | decide | simp [va_rf_cat, vc_r, vc_i, vc_0]) d_Tr_findContents_18 (fun r w1 hr => ?_)
        obtain ⟨rfl, rfl⟩ := hr
        refine J_iinc X d_Tr_findContents_21 rfl (by decide) (nI_s i) rfl ?_
        refine J_goto (tgt := 2) X d_Tr_findContents_24 (by decide) ?_
        refine J_eq (w' := trW w tr fa (fnds w xs ((rowL w c n).take (i + 1)))) (by rw [fnds_take (rowL_at hi')]) rfl ?_
        exact ih (i + 1) (by omega)
  exact loop n 0 (by omega)
set_option maxRecDepth 100000 in
set_option maxHeartbeats 1000000 in
theorem k_findAll {g ga n m : Nat} (H : TrO w tr fa N) (hBT : ∀ b ∈ B, isTb w b = true) (hB : B.length ≤ N) (hb : Bd B xs) (hg : wK w g = some (.inl 1)) (hga : wP w g 1 = some ga) (hgk : wK w ga = some (.inr (4, m))) (hcnt : wI w g 2 = nI n) (hnm : n ≤ m) (hm2 : m < 10000) (hne : ga ≠ fa) (hv : ∀ o ∈ rowL w ga n, oV w o) (ho : ∀ o ∈ rowL w ga n, oB w B o) :
    Ct l y_Tr_findAll h_Tr_findAll (rmL 1 0 0) Δ [.ref tr, .ref g] (trW w tr fa xs) (fun r w' => r = none ∧ w' = trW w tr fa (fnds w xs (rowL w ga n))) := by
  have htr := H.1
  have hfk := H.2.2.1
  have hgt : g ≠ tr := fun e => by rw [e, htr] at hg; cases hg
  have hgfa : g ≠ fa := fun e => by rw [e, hfk] at hg; cases hg
  have hgT : isTb w g = false := by simp [isTb, hg]
  refine Ct_of (L := [some (.ref tr), some (.ref g), none]) (by decide) (by first | exact Nat.le_of_ble_eq_true rfl | simp [lg_sl, va_rf_cat, vc_r, vc_i, vc_0]) (by first | rfl | simp [lin, va_rf_cat, vc_r, vc_i, vc_0]) (fun Γ X => ?_)
  refine J_iconst (v := 0) X d_Tr_findAll_0 (by decide) ?_
  refine J_istore_n X d_Tr_findAll_1 rfl (by decide) rfl ?_
  have loop : ∀ (k i : Nat), k + i = n → J Γ Δ (AE Γ (trW w tr fa xs)) 3 (trW w tr fa (fnds w xs ((rowL w ga n).take i))) 0 0 (QE Γ Δ (trW w tr fa xs) (fun r w' => r = none ∧ w' = trW w tr fa (fnds w xs (rowL w ga n))) (rmL 1 0 0)) 2 [some (.ref tr), some (.ref g), some (.int (nI i))] [] := by
    intro k
    induction k with
    | zero =>
      intro i hi
      have hbd := bd_take hb ho i
      have hc' : wI (trW w tr fa (fnds w xs ((rowL w ga n).take i))) g 2 = nI n := (trW_flag hgt).trans ((if_neg (fun q => by have := hBT g (hbd.2 g q); rw [hgT] at this; cases this)).trans hcnt)
      refine J_iload_n X d_Tr_findAll_2 rfl rfl ?_
      first | refine J_aload_nr X d_Tr_findAll_3 rfl rfl ?_ | refine J_aload_n X d_Tr_findAll_3 rfl rfl ?_ | refine J_aload_n0 X d_Tr_findAll_3 rfl rfl ?_
      refine J_getI X (hg) fa_Tr_29_1 rfl (hc') d_Tr_findAll_4 ?_
      refine J_icmp_ge (tgt := 26) X d_Tr_findAll_7 (by decide) (fun g2 => ?_) (fun g2 => ?_)
      · exact J_vret X ⟨rfl, by rw [List.take_of_length_le (by rw [rowL_len]; omega)]⟩ (by decide) (by decide) d_Tr_findAll_26
      · exact absurd (nI_le (by omega) (by omega)) g2
    | succ k ih =>
      intro i hi
      have hi' : i < n := by omega
      have hbd := bd_take hb ho i
      have hc' : wI (trW w tr fa (fnds w xs ((rowL w ga n).take i))) g 2 = nI n := (trW_flag hgt).trans ((if_neg (fun q => by have := hBT g (hbd.2 g q); rw [hgT] at this; cases this)).trans hcnt)
      have hg' : wP (trW w tr fa (fnds w xs ((rowL w ga n).take i))) g 1 = some ga := (trW_ptr hgfa).trans hga
      have ha' : wP (trW w tr fa (fnds w xs ((rowL w ga n).take i))) ga i = wP w ga i := trW_ptr hne
      have hm : wP w ga i ∈ rowL w ga n := rowL_mem.mpr ⟨i, hi', rfl⟩
      refine J_iload_n X d_Tr_findAll_2 rfl rfl ?_
      first | refine J_aload_nr X d_Tr_findAll_3 rfl rfl ?_ | refine J_aload_n X d_Tr_findAll_3 rfl rfl ?_ | refine J_aload_n0 X d_Tr_findAll_3 rfl rfl ?_
      refine J_getI X (hg) fa_Tr_29_1 rfl (hc') d_Tr_findAll_4 ?_
      refine J_icmp_ge (tgt := 26) X d_Tr_findAll_7 (by decide) (fun g2 => ?_) (fun g2 => ?_)
      · exact absurd g2 (nI_ge (by omega) (by omega))
      · first | refine J_aload_nr X d_Tr_findAll_10 rfl rfl ?_ | refine J_aload_n X d_Tr_findAll_10 rfl rfl ?_ | refine J_aload_n0 X d_Tr_findAll_10 rfl rfl ?_
        first | refine J_aload_nr X d_Tr_findAll_11 rfl rfl ?_ | refine J_aload_n X d_Tr_findAll_11 rfl rfl ?_ | refine J_aload_n0 X d_Tr_findAll_11 rfl rfl ?_
        refine J_getR X (hg) fa_Tr_32_1 rfl (hg') d_Tr_findAll_12 ?_
        refine J_iload_n X d_Tr_findAll_15 rfl rfl ?_
        refine J_aald X (hgk) (by decide) rfl ⟨_, rfl⟩ (rfl) (by omega) (by omega) (ha') d_Tr_findAll_16 ?_
        refine J_callV X (htr) rfl (k_findB (B := B) H hB hbd (hv _ hm) (ho _ hm)) cd_Tr_find lk_Tr_35 vi_Tr_find (by decide) (by decide) (by decide) (by decide) rfl (by first | decide | simp [va_rf_cat, vc_r, vc_i, vc_0]) d_Tr_findAll_17 (fun r w1 hr => ?_)
        obtain ⟨rfl, rfl⟩ := hr
        refine J_iinc X d_Tr_findAll_20 rfl (by decide) (nI_s i) rfl ?_
        refine J_goto (tgt := 2) X d_Tr_findAll_23 (by decide) ?_
        refine J_eq (w' := trW w tr fa (fnds w xs ((rowL w ga n).take (i + 1)))) (by rw [fnds_take (rowL_at hi')]) rfl ?_
        exact ih (i + 1) (by omega)
  exact loop n 0 (by omega)
set_option maxRecDepth 100000 in
set_option maxHeartbeats 1000000 in
theorem k_findRegisters {x rg n : Nat} (H : TrO w tr fa N) (hB : B.length ≤ N) (hb : Bd B xs) (hx : wK w x = some (.inl 0)) (hrg : wP w x 0 = some rg) (htx : wP w x 3 = some tr) (hrk : wK w rg = some (.inr (3, n))) (hn2 : n < 10000) (hv : ∀ o ∈ rowL w rg n, oV w o) (ho : ∀ o ∈ rowL w rg n, oB w B o) :
    Ct l y_TG_findRegisters h_TG_findRegisters (rmL 1 0 0) Δ [.ref x] (trW w tr fa xs) (fun r w' => r = none ∧ w' = trW w tr fa (fnds w xs (rowL w rg n))) := by
  have htr := H.1
  have hfk := H.2.2.1
  have hxfa : x ≠ fa := fun e => by rw [e, hfk] at hx; cases hx
  have hrfa : rg ≠ fa := fun e => by rw [e, hfk] at hrk; cases hrk
  refine Ct_of (L := [some (.ref x), none]) (by decide) (by first | exact Nat.le_of_ble_eq_true rfl | simp [lg_sl, va_rf_cat, vc_r, vc_i, vc_0]) (by first | rfl | simp [lin, va_rf_cat, vc_r, vc_i, vc_0]) (fun Γ X => ?_)
  refine J_iconst (v := 0) X d_TG_findRegisters_0 (by decide) ?_
  refine J_istore_n X d_TG_findRegisters_1 rfl (by decide) rfl ?_
  have loop : ∀ (k i : Nat), k + i = n → J Γ Δ (AE Γ (trW w tr fa xs)) 2 (trW w tr fa (fnds w xs ((rowL w rg n).take i))) 0 0 (QE Γ Δ (trW w tr fa xs) (fun r w' => r = none ∧ w' = trW w tr fa (fnds w xs (rowL w rg n))) (rmL 1 0 0)) 2 [some (.ref x), some (.int (nI i))] [] := by
    intro k
    induction k with
    | zero =>
      intro i hi
      have hc' : wP (trW w tr fa (fnds w xs ((rowL w rg n).take i))) x 0 = some rg := (trW_ptr hxfa).trans hrg
      refine J_iload_n X d_TG_findRegisters_2 rfl rfl ?_
      first | refine J_aload_nr X d_TG_findRegisters_3 rfl rfl ?_ | refine J_aload_n X d_TG_findRegisters_3 rfl rfl ?_ | refine J_aload_n0 X d_TG_findRegisters_3 rfl rfl ?_
      refine J_getR X (hx) fa_TG_15_0 rfl (hc') d_TG_findRegisters_4 ?_
      refine J_alen X (hrk) (by decide) d_TG_findRegisters_7 ?_
      refine J_icmp_ge (tgt := 30) X d_TG_findRegisters_8 (by decide) (fun g => ?_) (fun g => ?_)
      · exact J_vret X ⟨rfl, by rw [List.take_of_length_le (by rw [rowL_len]; omega)]⟩ (by decide) (by decide) d_TG_findRegisters_30
      · exact absurd (nI_le (by omega) (by omega)) g
    | succ k ih =>
      intro i hi
      have hi' : i < n := by omega
      have hc' : wP (trW w tr fa (fnds w xs ((rowL w rg n).take i))) x 0 = some rg := (trW_ptr hxfa).trans hrg
      have hc3 : wP (trW w tr fa (fnds w xs ((rowL w rg n).take i))) x 3 = some tr := (trW_ptr hxfa).trans htx
      have ha' : wP (trW w tr fa (fnds w xs ((rowL w rg n).take i))) rg i = wP w rg i := trW_ptr hrfa
      have hm : wP w rg i ∈ rowL w rg n := rowL_mem.mpr ⟨i, hi', rfl⟩
      refine J_iload_n X d_TG_findRegisters_2 rfl rfl ?_
      first | refine J_aload_nr X d_TG_findRegisters_3 rfl rfl ?_ | refine J_aload_n X d_TG_findRegisters_3 rfl rfl ?_ | refine J_aload_n0 X d_TG_findRegisters_3 rfl rfl ?_
      refine J_getR X (hx) fa_TG_15_0 rfl (hc') d_TG_findRegisters_4 ?_
      refine J_alen X (hrk) (by decide) d_TG_findRegisters_7 ?_
      refine J_icmp_ge (tgt := 30) X d_TG_findRegisters_8 (by decide) (fun g => ?_) (fun g => ?_)
      · exact absurd g (nI_ge (by omega) (by omega))
      · first | refine J_aload_nr X d_TG_findRegisters_11 rfl rfl ?_ | refine J_aload_n X d_TG_findRegisters_11 rfl rfl ?_ | refine J_aload_n0 X d_TG_findRegisters_11 rfl rfl ?_
        refine J_getR X (hx) fa_TG_38_0 rfl (hc3) d_TG_findRegisters_12 ?_
        first | refine J_aload_nr X d_TG_findRegisters_15 rfl rfl ?_ | refine J_aload_n X d_TG_findRegisters_15 rfl rfl ?_ | refine J_aload_n0 X d_TG_findRegisters_15 rfl rfl ?_
        refine J_getR X (hx) fa_TG_15_0 rfl (hc') d_TG_findRegisters_16 ?_
        refine J_iload_n X d_TG_findRegisters_19 rfl rfl ?_
        refine J_aald X (hrk) (by decide) rfl ⟨_, rfl⟩ (rfl) (hi') (by omega) (ha') d_TG_findRegisters_20 ?_
        refine J_callV X (htr) rfl (k_findB (B := B) H hB (bd_take hb ho i) (hv _ hm) (ho _ hm)) cd_Tr_find lk_TG_118 vi_Tr_find (by decide) (by decide) (by decide) (by decide) rfl (by first | decide | simp [va_rf_cat, vc_r, vc_i, vc_0]) d_TG_findRegisters_21 (fun r w1 hr => ?_)
        obtain ⟨rfl, rfl⟩ := hr
        refine J_iinc X d_TG_findRegisters_24 rfl (by decide) (nI_s i) rfl ?_
        refine J_goto (tgt := 2) X d_TG_findRegisters_27 (by decide) ?_
        refine J_eq (w' := trW w tr fa (fnds w xs ((rowL w rg n).take (i + 1)))) (by rw [fnds_take (rowL_at hi')]) rfl ?_
        exact ih (i + 1) (by omega)
  exact loop n 0 (by omega)
end TF
/-- what a found thing leads to -/
def sucL (w : Wd) (t : Nat) : List (Option Nat) := if wK w t = some (.inl 3) then rowL w (pA w t 3) (kN w (pA w t 3)) else []
def flw (w : Wd) : Nat → Nat → List Nat → List Nat
  | 0, _, xs => xs
  | f + 1, i, xs => match xs[i]? with
    | some t => flw w f (i + 1) (fnds w xs (sucL w t))
    | none => xs
/-- B holds what is found and what that leads to; its plain objects have their rows -/
def BC (w : Wd) (B : List Nat) : Prop := ∀ b ∈ B, isTb w b = true ∧ (wK w b = some (.inl 3) → ∃ c n, wP w b 3 = some c ∧ wK w c = some (.inr (3, n)) ∧ n < 10000 ∧ ∀ o ∈ rowL w c n, oV w o ∧ oB w B o)
theorem sucL_of {w : Wd} {t c n : Nat} (h1 : wK w t = some (.inl 3)) (h2 : wP w t 3 = some c) (h3 : wK w c = some (.inr (3, n))) : sucL w t = rowL w c n := by
  rw [sucL, if_pos h1, pA, h2, Option.getD_some, kN, h3]
theorem sucL_no {w : Wd} {t : Nat} (h1 : wK w t = some (.inl 4)) : sucL w t = [] := by
  rw [sucL, if_neg (by rw [h1]; decide)]
theorem sucL_ok {w : Wd} {B : List Nat} (hC : BC w B) {t : Nat} (ht : t ∈ B) : ∀ o ∈ sucL w t, oV w o ∧ oB w B o := by
  obtain ⟨h1, h2⟩ := hC t ht
  obtain ⟨ci, hci, hk⟩ := isTb_to h1
  rcases hci with rfl | rfl
  · obtain ⟨c, n, g1, g2, -, g3⟩ := h2 hk
    rw [sucL_of hk g1 g2]
    exact g3
  · rw [sucL_no hk]
    exact fun o ho => nomatch ho
section TG2
variable {l : Launch} {Δ : Dat} {w : Wd} {tr fa N : Nat} {xs B : List Nat}
set_option maxRecDepth 100000 in
set_option maxHeartbeats 1000000 in
theorem k_follow (H : TrO w tr fa N) (hN2 : N < 10000) (hB : B.length ≤ N) (hC : BC w B) (hb : Bd B xs) :
    Ct l y_Tr_follow h_Tr_follow (rmL 2 0 0) Δ [.ref tr] (trW w tr fa xs) (fun r w' => r = none ∧ w' = trW w tr fa (flw w N 0 xs)) := by
  have htr := H.1
  have hfa := H.2.1
  have hfk := H.2.2.1
  have hfar : tr ≠ fa := fun e => by rw [e, hfk] at htr; cases htr
  refine Ct_of (L := [some (.ref tr), none, none, none]) (by decide) (by first | exact Nat.le_of_ble_eq_true rfl | simp [lg_sl, va_rf_cat, vc_r, vc_i, vc_0]) (by first | rfl | simp [lin, va_rf_cat, vc_r, vc_i, vc_0]) (fun Γ X => ?_)
  refine J_iconst (v := 0) X d_Tr_follow_0 (by decide) ?_
  refine J_istore_n X d_Tr_follow_1 rfl (by decide) rfl ?_
  have loop : ∀ (k i : Nat) (zs : List Nat), k + i = N → Bd B zs → flw w N 0 xs = flw w k i zs → J Γ Δ (AE Γ (trW w tr fa xs)) 4 (trW w tr fa zs) 0 0 (QE Γ Δ (trW w tr fa xs) (fun r w' => r = none ∧ w' = trW w tr fa (flw w N 0 xs)) (rmL 2 0 0)) 2 [some (.ref tr), some (.int (nI i)), none, none] [] := by
    intro k
    induction k with
    | zero =>
      intro i zs hi hz he
      have hf' : wP (trW w tr fa zs) tr 0 = some fa := (trW_ptr hfar).trans hfa
      refine J_iload_n X d_Tr_follow_2 rfl rfl ?_
      first | refine J_aload_nr X d_Tr_follow_3 rfl rfl ?_ | refine J_aload_n X d_Tr_follow_3 rfl rfl ?_ | refine J_aload_n0 X d_Tr_follow_3 rfl rfl ?_
      refine J_getR X (htr) fa_Tr_9_2 rfl (hf') d_Tr_follow_4 ?_
      refine J_alen X (hfk) (by decide) d_Tr_follow_7 ?_
      refine J_icmp_ge (tgt := 49) X d_Tr_follow_8 (by decide) (fun g => ?_) (fun g => ?_)
      · exact J_vret X ⟨rfl, by rw [he]; rfl⟩ (by decide) (by decide) d_Tr_follow_49
      · exact absurd (nI_le (by omega) (by omega)) g
    | succ k ih =>
      intro i zs hi hz he
      have hf' : wP (trW w tr fa zs) tr 0 = some fa := (trW_ptr hfar).trans hfa
      have hzl := bd_len hz hB
      refine J_iload_n X d_Tr_follow_2 rfl rfl ?_
      first | refine J_aload_nr X d_Tr_follow_3 rfl rfl ?_ | refine J_aload_n X d_Tr_follow_3 rfl rfl ?_ | refine J_aload_n0 X d_Tr_follow_3 rfl rfl ?_
      refine J_getR X (htr) fa_Tr_9_2 rfl (hf') d_Tr_follow_4 ?_
      refine J_alen X (hfk) (by decide) d_Tr_follow_7 ?_
      refine J_icmp_ge (tgt := 49) X d_Tr_follow_8 (by decide) (fun g => ?_) (fun g => ?_)
      · exact absurd g (nI_ge (by omega) (by omega))
      · refine J_iload_n X d_Tr_follow_11 rfl rfl ?_
        first | refine J_aload_nr X d_Tr_follow_12 rfl rfl ?_ | refine J_aload_n X d_Tr_follow_12 rfl rfl ?_ | refine J_aload_n0 X d_Tr_follow_12 rfl rfl ?_
        refine J_getI X (htr) fa_Tr_15_2 rfl (trW_cnt _ _ _ _) d_Tr_follow_13 ?_
        by_cases hlt : i < zs.length
        · obtain ⟨t, ht⟩ := at_lt hlt
          have htB := hz.2 t (List.mem_of_getElem? ht)
          obtain ⟨hT, hP⟩ := hC t htB
          obtain ⟨ci, hci, hk⟩ := isTb_to hT
          have hat : wP (trW w tr fa zs) fa i = some t := trW_fa ht
          have he' : flw w N 0 xs = flw w k (i + 1) (fnds w zs (sucL w t)) := by rw [he, flw, ht]
          refine J_icmp_ge (tgt := 49) X d_Tr_follow_16 (by decide) (fun g2 => ?_) (fun g2 => ?_)
          · exact absurd g2 (nI_ge hlt (by omega))
          · first | refine J_aload_nr X d_Tr_follow_19 rfl rfl ?_ | refine J_aload_n X d_Tr_follow_19 rfl rfl ?_ | refine J_aload_n0 X d_Tr_follow_19 rfl rfl ?_
            refine J_getR X (htr) fa_Tr_9_2 rfl (hf') d_Tr_follow_20 ?_
            refine J_iload_n X d_Tr_follow_23 rfl rfl ?_
            refine J_aaldr X (hfk) (by decide) rfl ⟨_, rfl⟩ (rfl) (by omega) (by omega) (hat) d_Tr_follow_24 ?_
            first | refine J_astore_nr X d_Tr_follow_25 rfl (by decide) rfl ?_ | refine J_astore_n X d_Tr_follow_25 rfl (by decide) rfl ?_ | refine J_astore_n0 X d_Tr_follow_25 rfl (by decide) rfl ?_
            first | refine J_aload_nr X d_Tr_follow_26 rfl rfl ?_ | refine J_aload_n X d_Tr_follow_26 rfl rfl ?_ | refine J_aload_n0 X d_Tr_follow_26 rfl rfl ?_
            rcases hci with rfl | rfl
            · obtain ⟨c, n, g3, g4, g5, g6⟩ := hP hk
              refine J_instY X hk iy_Tr_39_3 d_Tr_follow_27 ?_
              refine J_if_eq (tgt := 43) X d_Tr_follow_30 (by decide) (fun g7 => ?_) (fun g7 => ?_)
              · exact absurd g7 (by decide)
              · first | refine J_aload_nr X d_Tr_follow_33 rfl rfl ?_ | refine J_aload_n X d_Tr_follow_33 rfl rfl ?_ | refine J_aload_n0 X d_Tr_follow_33 rfl rfl ?_
                refine J_cast X hk iy_Tr_39_3 d_Tr_follow_34 ?_
                first | refine J_astore_nr X d_Tr_follow_37 rfl (by decide) rfl ?_ | refine J_astore_n X d_Tr_follow_37 rfl (by decide) rfl ?_ | refine J_astore_n0 X d_Tr_follow_37 rfl (by decide) rfl ?_
                first | refine J_aload_nr X d_Tr_follow_38 rfl rfl ?_ | refine J_aload_n X d_Tr_follow_38 rfl rfl ?_ | refine J_aload_n0 X d_Tr_follow_38 rfl rfl ?_
                first | refine J_aload_nr X d_Tr_follow_39 rfl rfl ?_ | refine J_aload_n X d_Tr_follow_39 rfl rfl ?_ | refine J_aload_n0 X d_Tr_follow_39 rfl rfl ?_
                refine J_callV X (htr) rfl (k_findContents (B := B) H hB hz hk g3 g4 g5 (fun o ho => (g6 o ho).1) (fun o ho => (g6 o ho).2)) cd_Tr_findContents lk_Tr_41 vi_Tr_findContents (by decide) (by decide) (by decide) (by decide) rfl (by first | decide | simp [va_rf_cat, vc_r, vc_i, vc_0]) d_Tr_follow_40 (fun r w1 hr => ?_)
                obtain ⟨rfl, rfl⟩ := hr
                refine J_iinc X d_Tr_follow_43 rfl (by decide) (nI_s i) rfl ?_
                refine J_goto (tgt := 2) X d_Tr_follow_46 (by decide) ?_
                refine J_forget 2 rfl ?_
                refine J_forget 3 rfl ?_
                refine ih (i + 1) _ (by omega) (fnds_bd (fun o ho => (g6 o ho).2) hz) ?_
                rw [he', sucL_of hk g3 g4]
            · refine J_instN X hk in_Tr_39_4 d_Tr_follow_27 ?_
              refine J_if_eq (tgt := 43) X d_Tr_follow_30 (by decide) (fun g7 => ?_) (fun g7 => ?_)
              · refine J_iinc X d_Tr_follow_43 rfl (by decide) (nI_s i) rfl ?_
                refine J_goto (tgt := 2) X d_Tr_follow_46 (by decide) ?_
                refine J_forget 3 rfl ?_
                refine ih (i + 1) zs (by omega) hz ?_
                rw [he', sucL_no hk]
                rfl
              · exact absurd rfl g7
        · refine J_icmp_ge (tgt := 49) X d_Tr_follow_16 (by decide) (fun g2 => ?_) (fun g2 => ?_)
          · refine J_vret X ⟨rfl, ?_⟩ (by decide) (by decide) d_Tr_follow_49
            rw [he, flw, List.getElem?_eq_none (by omega)]
          · exact absurd (nI_le (by omega) (by omega)) g2
  exact loop N 0 xs (by omega) hb rfl
end TG2
