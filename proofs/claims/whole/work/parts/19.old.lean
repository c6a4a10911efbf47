/-! collectOld -/
theorem flw_bd {w : Wd} {B : List Nat} (hC : BC w B) : ∀ (k i : Nat) {xs : List Nat}, Bd B xs → Bd B (flw w k i xs) := by
  intro k
  induction k with
  | zero => intro i xs h; exact h
  | succ k ih =>
    intro i xs h
    rw [flw]
    split
    · rename_i t ht
      exact ih (i + 1) (fnds_bd (fun o ho => (sucL_ok hC (h.2 t (List.mem_of_getElem? ht)) o ho).2) h)
    · exact h
def inL (R : List Nat) (t : Nat) : Bool := decide (t ∈ R)
/-- what a great collection's search finds -/
def colR (w : Wd) (rg nr N tr : Nat) (F : List Nat) : List Nat := flw (rsW w tr F) N 0 (fnds (rsW w tr F) [] (rowL (rsW w tr F) rg nr))
/-- behind a search and the cutting of targets -/
def cutY (w : Wd) (tr fa : Nat) (Y O F R : List Nat) : Wd := cutW (cutW (trW (rsW w tr F) tr fa R) Y) O
def colOW (w : Wd) (x og oa tr fa : Nat) (Y O F R : List Nat) : Wd := uI (genW (cutY w tr fa Y O F R) og oa (O.filter (inL R))) x 5 (wI w x 5 + 1)
section CO
variable {l : Launch} {Δ : Dat} {w : Wd} {x rg nr yg ya ly og oa lo tr fa : Nat} {Y O F G R : List Nat}
theorem cutY_int {b k : Nat} : wI (cutY w tr fa Y O F R) b k = wI (trW (rsW w tr F) tr fa R) b k := rfl
theorem cutY_0 {b : Nat} : wI (cutY w tr fa Y O F R) b 0 = wI w b 0 := by rw [cutY_int, trW_int0, rsW_0]
theorem notT {t : Nat} {d : Kd} (hR : ∀ t ∈ R, isTb w t = true) (h : wK w t = some d) (hd : d ≠ .inl 3 ∧ d ≠ .inl 4) : t ∉ R := fun q => isTb_ne (hR t q) h hd rfl
theorem tr_other {b k : Nat} {d : Kd} (hR : ∀ t ∈ R, isTb w t = true) (hF : ∀ t ∈ F, isTb w t = true) (h : wK w b = some d) (hd : d ≠ .inl 3 ∧ d ≠ .inl 4) (hne : b ≠ tr) : wI (trW (rsW w tr F) tr fa R) b k = wI w b k := by
  have e1 := notT hR h hd
  have e2 := notT hF h hd
  by_cases k2 : k = 2
  · subst k2
    rw [trW_flag hne, if_neg e1, rsW_int (Or.inl hne) (Or.inr e2)]
  · rw [trW_int hne k2, rsW_int (Or.inl hne) (Or.inl k2)]
theorem tr_flag {t : Nat} (hF : FL w tr fa (ly + lo) F) (htr : wK w tr = some (.inl 2)) (ht : isTb w t = true) : wI (trW (rsW w tr F) tr fa R) t 2 = if t ∈ R then 1 else 0 := by
  rw [trW_flag (isTb_ne ht htr (by decide)), rsW_flag hF htr ht]
theorem tr_rch {t : Nat} (hF : FL w tr fa (ly + lo) F) (htr : wK w tr = some (.inl 2)) (ht : isTb w t = true) : rch (trW (rsW w tr F) tr fa R) t = inL R t := by
  unfold rch inL
  rw [tr_flag hF htr ht]
  by_cases h : t ∈ R <;> simp [h]
theorem rch_congr {w w' : Wd} {t : Nat} (h : wI w' t 2 = wI w t 2) : rch w' t = rch w t := by unfold rch; rw [h]
theorem filt_rch {zs : List Nat} {w' : Wd} (h : ∀ t ∈ zs, rch w' t = inL R t) : zs.filter (rch w') = zs.filter (inL R) := List.filter_congr h
/-- the generations' rows lie apart from what a search and a cutting change -/
theorem GeL_tr {g ga m : Nat} {zs : List Nat} (hR : ∀ t ∈ R, isTb w t = true) (hF : ∀ t ∈ F, isTb w t = true) (htr : wK w tr = some (.inl 2)) {N : Nat} (hfk : wK w fa = some (.inr (4, N))) (hne : ga ≠ fa) (H : GeL w g ga m zs) : GeL (trW (rsW w tr F) tr fa R) g ga m zs :=
  GeL_congr (w := w) (w' := trW (rsW w tr F) tr fa R) (fun _ => rfl) (trW_ptr (w := rsW w tr F) (b := g) (fun e => by have := H.1.1; rw [e, hfk] at this; cases this)) (tr_other hR hF H.1.1 (by decide) (fun e => by have := H.1.1; rw [e, htr] at this; cases this)) (fun _ => trW_ptr (w := rsW w tr F) hne) H
theorem GeL_cut {g ga m : Nat} {zs ys : List Nat} {w' : Wd} (hys : ∀ t ∈ ys, isTb w' t = true) (H : GeL w' g ga m zs) : GeL (cutW w' ys) g ga m zs :=
  GeL_congr (w := w') (w' := cutW w' ys) (fun _ => rfl) (cutW_ptr (Or.inl (by decide))) rfl (fun _ => cutW_ptr (Or.inr (fun q => isTb_ne (hys _ q) H.1.2.2.1 (by simp) rfl))) H
theorem cutW_tgt {w' : Wd} {ys : List Nat} {b t : Nat} (h : wP (cutW w' ys) b 3 = some t) : wP w' b 3 = some t := by
  have e : wP (cutW w' ys) b 3 = if 3 = 3 ∧ b ∈ ys ∧ cutB w' b = true then none else wP w' b 3 := rfl
  rw [e] at h
  split at h
  · cases h
  · exact h
set_option maxRecDepth 100000 in
set_option maxHeartbeats 400000 in
theorem k_collectOld (H : CI w x rg nr yg ya ly og oa lo tr fa Y O F G) :
    Ct l y_TG_collectOld h_TG_collectOld (rmL 3 0 0) Δ [.ref x] w (fun r w' => r = some (.int (sumI w O - sumI w (O.filter (inL (colR w rg nr (ly + lo) tr F))))) ∧ w' = colOW w x og oa tr fa Y O F (colR w rg nr (ly + lo) tr F)) := by
  have hlen := CI_len H
  have hTrO := CI_TrO H
  have hBC := CI_BC H
  have hregs := CI_regs H
  have hGT : ∀ t ∈ G, isTb w t = true := fun t ht => CI_G H ht
  obtain ⟨hS, hT, hY, hO, hty, hto, hnd, hsum, hF, hol, hG⟩ := H
  obtain ⟨hRg, hnr, h1, h2, h3, hyO, hoO, -, -, hly, hlo, htr, htf, hfk, hgg, hya, hyf, hof⟩ := hS
  have hx := hRg.1
  have hFT := hF.2.2.2.1
  have hxfa : x ≠ fa := fun e => by rw [e, hfk] at hx; cases hx
  have hxtr : x ≠ tr := fun e => by rw [e, htr] at hx; cases hx
  have hogfa : og ≠ fa := fun e => by have := hoO.1; rw [e, hfk] at this; cases this
  have hogtr : og ≠ tr := fun e => by have := hoO.1; rw [e, htr] at this; cases this
  have hb1 : Bd G (fnds (rsW w tr F) [] (rowL (rsW w tr F) rg nr)) := fnds_bd (fun o ho => (hregs o ho).2) ⟨List.nodup_nil, fun _ h => nomatch h⟩
  have hbR : Bd G (colR w rg nr (ly + lo) tr F) := flw_bd hBC _ _ hb1
  have hRT : ∀ t ∈ colR w rg nr (ly + lo) tr F, isTb w t = true := fun t ht => hGT t (hbR.2 t ht)
  have hOT : ∀ t ∈ O, isTb w t = true := fun t ht => GeL_mem hO ht
  have hYT : ∀ t ∈ Y, isTb w t = true := fun t ht => GeL_mem hY ht
  rw [List.nodup_append] at hnd
  refine Ct_of (L := [some (.ref x), none]) (by decide) (by first | exact Nat.le_of_ble_eq_true rfl | simp [lg_sl, va_rf_cat, vc_r, vc_i, vc_0]) (by first | rfl | simp [lin, va_rf_cat, vc_r, vc_i, vc_0]) (fun Γ X => ?_)
  first | refine J_aload_nr X d_TG_collectOld_0 rfl rfl ?_ | refine J_aload_n X d_TG_collectOld_0 rfl rfl ?_ | refine J_aload_n0 X d_TG_collectOld_0 rfl rfl ?_
  refine J_getR X (hx) fa_TG_38_0 rfl (h3) d_TG_collectOld_1 ?_
  refine J_callV X (htr) rfl (k_restart (xs := F) htr htf hfk (by omega) hF.2.1 hF.1 hF.2.2.1 hFT) cd_Tr_restart lk_TG_115 vi_Tr_restart (by decide) (by decide) (by decide) (by decide) rfl (by first | decide | simp [va_rf_cat, vc_r, vc_i, vc_0]) d_TG_collectOld_4 (fun r w1 hr => ?_)
  obtain ⟨rfl, rfl⟩ := hr
  refine J_eq (w' := trW (rsW w tr F) tr fa []) rsW_nil.symm rfl ?_
  first | refine J_aload_nr X d_TG_collectOld_7 rfl rfl ?_ | refine J_aload_n X d_TG_collectOld_7 rfl rfl ?_ | refine J_aload_n0 X d_TG_collectOld_7 rfl rfl ?_
  refine J_callV X (hx) rfl (k_findRegisters (w := rsW w tr F) (B := G) (xs := []) hTrO hlen ⟨List.nodup_nil, fun _ h => nomatch h⟩ hx hRg.2.1 h3 hRg.2.2.1 (by omega) (fun o ho => (hregs o ho).1) (fun o ho => (hregs o ho).2)) cd_TG_findRegisters lk_TG_158 vi_TG_findRegisters (by decide) (by decide) (by decide) (by decide) rfl (by first | decide | simp [va_rf_cat, vc_r, vc_i, vc_0]) d_TG_collectOld_8 (fun r w1 hr => ?_)
  obtain ⟨rfl, rfl⟩ := hr
  have g3 : wP (trW (rsW w tr F) tr fa (fnds (rsW w tr F) [] (rowL (rsW w tr F) rg nr))) x 3 = some tr := (trW_ptr hxfa).trans h3
  first | refine J_aload_nr X d_TG_collectOld_11 rfl rfl ?_ | refine J_aload_n X d_TG_collectOld_11 rfl rfl ?_ | refine J_aload_n0 X d_TG_collectOld_11 rfl rfl ?_
  refine J_getR X (hx) fa_TG_38_0 rfl (g3) d_TG_collectOld_12 ?_
  refine J_callV X (htr) rfl (k_follow (w := rsW w tr F) (B := G) hTrO (by omega) hlen hBC hb1) cd_Tr_follow lk_TG_122 vi_Tr_follow (by decide) (by decide) (by decide) (by decide) rfl (by first | decide | simp [va_rf_cat, vc_r, vc_i, vc_0]) d_TG_collectOld_15 (fun r w1 hr => ?_)
  obtain ⟨rfl, rfl⟩ := hr
  refine J_eq (w' := trW (rsW w tr F) tr fa (colR w rg nr (ly + lo) tr F)) rfl rfl ?_
  generalize hRe : colR w rg nr (ly + lo) tr F = R at hbR hRT ⊢
  have g1 : wP (trW (rsW w tr F) tr fa R) x 1 = some yg := (trW_ptr hxfa).trans h1
  have hY1 : GeL (trW (rsW w tr F) tr fa R) yg ya ly Y := GeL_tr hRT hFT htr hfk hyf hY
  have hO1 : GeL (trW (rsW w tr F) tr fa R) og oa lo O := GeL_tr hRT hFT htr hfk hof hO
  have hw1 : ∀ b t, wK (trW (rsW w tr F) tr fa R) b = some (.inl 4) → wP (trW (rsW w tr F) tr fa R) b 3 = some t → isTb (trW (rsW w tr F) tr fa R) t = true := fun b t hb ht => by
    have hbf : b ≠ fa := fun e => by rw [e] at hb; exact absurd (hfk.symm.trans hb) (by simp)
    rw [trW_ptr hbf] at ht
    exact (hT.2.2.1 b hb).2 t ht
  first | refine J_aload_nr X d_TG_collectOld_18 rfl rfl ?_ | refine J_aload_n X d_TG_collectOld_18 rfl rfl ?_ | refine J_aload_n0 X d_TG_collectOld_18 rfl rfl ?_
  refine J_getR X (hx) fa_TG_24_0 rfl (g1) d_TG_collectOld_19 ?_
  refine J_callV X (hyO.1) rfl (k_cutTargets hY1 hnd.1 hw1) cd_Gen_cutTargets lk_TG_168 vi_Gen_cutTargets (by decide) (by decide) (by decide) (by decide) rfl (by first | decide | simp [va_rf_cat, vc_r, vc_i, vc_0]) d_TG_collectOld_22 (fun r w1 hr => ?_)
  obtain ⟨rfl, rfl⟩ := hr
  have g2 : wP (cutW (trW (rsW w tr F) tr fa R) Y) x 2 = some og := (cutW_ptr (Or.inl (by decide))).trans ((trW_ptr hxfa).trans h2)
  first | refine J_aload_nr X d_TG_collectOld_25 rfl rfl ?_ | refine J_aload_n X d_TG_collectOld_25 rfl rfl ?_ | refine J_aload_n0 X d_TG_collectOld_25 rfl rfl ?_
  refine J_getR X (hx) fa_TG_28_0 rfl (g2) d_TG_collectOld_26 ?_
  refine J_callV X (hoO.1) rfl (k_cutTargets (GeL_cut hYT hO1) hnd.2.1 (fun b t hb ht => hw1 b t hb (cutW_tgt ht))) cd_Gen_cutTargets lk_TG_168 vi_Gen_cutTargets (by decide) (by decide) (by decide) (by decide) rfl (by first | decide | simp [va_rf_cat, vc_r, vc_i, vc_0]) d_TG_collectOld_29 (fun r w1 hr => ?_)
  obtain ⟨rfl, rfl⟩ := hr
  refine J_eq (w' := cutY w tr fa Y O F R) rfl rfl ?_
  have g4 : wP (cutY w tr fa Y O F R) x 2 = some og := (cutW_ptr (Or.inl (by decide))).trans g2
  have g5 : wI (cutY w tr fa Y O F R) og 3 = sumI w O := by rw [cutY_int]; exact (tr_other hRT hFT hoO.1 (by decide) hogtr).trans hto
  have hO3 : GeL (cutY w tr fa Y O F R) og oa lo O := GeL_cut hOT (GeL_cut hYT hO1)
  have hsz3 : ∀ t, isTb (cutY w tr fa Y O F R) t = true → wI (cutY w tr fa Y O F R) t 0 = nI (szw (cutY w tr fa Y O F R) t) := fun t ht => by
    rw [cutY_0, szw_congr cutY_0]; exact (HT_sz hT ht).1
  have hfil : O.filter (rch (cutY w tr fa Y O F R)) = O.filter (inL R) := filt_rch (fun t ht => (rch_congr cutY_int).trans (tr_rch hF htr (hOT t ht)))
  have hK3 : ∀ b, wK (cutY w tr fa Y O F R) b = wK w b := fun _ => rfl
  have hi3 : wI (cutY w tr fa Y O F R) x 5 = wI w x 5 := by rw [cutY_int]; exact tr_other hRT hFT hx (by decide) hxtr
  have h03 : ∀ t, wI (cutY w tr fa Y O F R) t 0 = wI w t 0 := fun t => cutY_0
  generalize hw3 : cutY w tr fa Y O F R = w3 at g4 g5 hO3 hsz3 hfil hK3 hi3 h03 ⊢
  have kx := (hK3 x).trans hx
  have kog := (hK3 og).trans hoO.1
  first | refine J_aload_nr X d_TG_collectOld_32 rfl rfl ?_ | refine J_aload_n X d_TG_collectOld_32 rfl rfl ?_ | refine J_aload_n0 X d_TG_collectOld_32 rfl rfl ?_
  refine J_getR X (kx) fa_TG_28_0 rfl (g4) d_TG_collectOld_33 ?_
  refine J_getI X (kog) fa_TG_140_1 rfl (g5) d_TG_collectOld_36 ?_
  refine J_istore_n X d_TG_collectOld_39 rfl (by decide) rfl ?_
  first | refine J_aload_nr X d_TG_collectOld_40 rfl rfl ?_ | refine J_aload_n X d_TG_collectOld_40 rfl rfl ?_ | refine J_aload_n0 X d_TG_collectOld_40 rfl rfl ?_
  refine J_getR X (kx) fa_TG_28_0 rfl (g4) d_TG_collectOld_41 ?_
  refine J_callV X (kog) rfl (k_keepReached hO3 hsz3) cd_Gen_keepReached lk_TG_177 vi_Gen_keepReached (by decide) (by decide) (by decide) (by decide) rfl (by first | decide | simp [va_rf_cat, vc_r, vc_i, vc_0]) d_TG_collectOld_44 (fun r w1 hr => ?_)
  obtain ⟨rfl, hw4⟩ := hr
  rw [hfil] at hw4
  have hxog : x ≠ og := fun e => by have := hoO.1; rw [← e, hx] at this; cases this
  have hxoa : x ≠ oa := fun e => by have := hoO.2.2.1; rw [← e, hx] at this; cases this
  have g6 : wI w1 x 5 = wI w x 5 := by rw [hw4, genW_int (Or.inl hxog)]; exact hi3
  have g7 : wP w1 x 2 = some og := by rw [hw4, genW_ptr (Or.inl hxoa)]; exact g4
  have g8 : wI w1 og 3 = sumI w (O.filter (inL R)) := by rw [hw4, genW_tak]; exact sumI_congr (fun t _ => h03 t)
  have k1x : wK w1 x = some (.inl 0) := by rw [hw4]; exact kx
  have k1og : wK w1 og = some (.inl 1) := by rw [hw4]; exact kog
  first | refine J_aload_nr X d_TG_collectOld_47 rfl rfl ?_ | refine J_aload_n X d_TG_collectOld_47 rfl rfl ?_ | refine J_aload_n0 X d_TG_collectOld_47 rfl rfl ?_
  refine J_dup X d_TG_collectOld_48 (rfl) ?_
  refine J_getI X (k1x) fa_TG_146_0 rfl (g6) d_TG_collectOld_49 ?_
  refine J_iconst (v := 1) X d_TG_collectOld_52 (by decide) ?_
  refine J_iadd X d_TG_collectOld_53 ?_
  refine J_putI X (k1x) fp_TG_146_0 rfl d_TG_collectOld_54 ?_
  have g9 : wI (uI w1 x 5 (wI w x 5 + 1)) og 3 = sumI w (O.filter (inL R)) := by rw [wI_uI, if_neg (fun q => hxog q.1.symm)]; exact g8
  refine J_iload_n X d_TG_collectOld_57 rfl rfl ?_
  first | refine J_aload_nr X d_TG_collectOld_58 rfl rfl ?_ | refine J_aload_n X d_TG_collectOld_58 rfl rfl ?_ | refine J_aload_n0 X d_TG_collectOld_58 rfl rfl ?_
  refine J_getR X (k1x) fa_TG_28_0 rfl (g7) d_TG_collectOld_59 ?_
  refine J_getI X (k1og) fa_TG_140_1 rfl (g9) d_TG_collectOld_62 ?_
  refine J_isub X d_TG_collectOld_65 ?_
  exact J_iret X ⟨rfl, by rw [hw4, ← hw3]; rfl⟩ (by decide) (by decide) d_TG_collectOld_66
end CO
