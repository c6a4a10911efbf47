/-! collectYoung -/
def sumN (w : Wd) (xs : List Nat) : Nat := (xs.map (szw w)).sum
theorem sumI_N (w : Wd) (xs : List Nat) : sumI w xs = nI (sumN w xs) := rfl
/-- what a small collection's search finds -/
def colS (w : Wd) (rg nr N tr oa : Nat) (O F : List Nat) : List Nat := flw (rsW w tr F) N 0 (fnds (rsW w tr F) (fnds (rsW w tr F) [] (rowL (rsW w tr F) rg nr)) (rowL (rsW w tr F) oa O.length))
def colYW (w : Wd) (x yg ya og oa tr fa : Nat) (Y O F R : List Nat) : Wd := uI (genW (genW (oldF (cutY w tr fa Y O F R) (Y.filter (inL R))) og oa (O ++ Y.filter (inL R))) yg ya []) x 4 (wI w x 4 + 1)
section CY
variable {l : Launch} {Δ : Dat} {w : Wd} {x rg nr yg ya ly og oa lo tr fa : Nat} {Y O F G R : List Nat}
theorem CI_olds (H : CI w x rg nr yg ya ly og oa lo tr fa Y O F G) : ∀ o ∈ rowL (rsW w tr F) oa O.length, ∃ t, o = some t ∧ t ∈ O := by
  intro o ho
  obtain ⟨i, hi, e⟩ := rowL_mem.mp ho
  obtain ⟨t, ht⟩ := at_lt hi
  have := (H.2.2.2.1.2.2.2 i t ht).1
  exact ⟨t, by rw [← e]; exact this, List.mem_of_getElem? ht⟩
theorem CI_olds2 (H : CI w x rg nr yg ya ly og oa lo tr fa Y O F G) : ∀ o ∈ rowL (rsW w tr F) oa O.length, oV (rsW w tr F) o ∧ oB (rsW w tr F) G o := by
  intro o ho
  obtain ⟨t, rfl, ht⟩ := CI_olds H o ho
  exact ⟨fun u e => by cases e; exact Or.inl (GeL_mem H.2.2.2.1 ht), fun u e _ => by cases e; exact H.2.2.2.2.2.2.2.2.2.2.2.2.1 t ht⟩
theorem CI_colS (H : CI w x rg nr yg ya ly og oa lo tr fa Y O F G) : RC w rg nr Y O (colS w rg nr (ly + lo) tr oa O F) ∧ (∀ t ∈ O, t ∈ colS w rg nr (ly + lo) tr oa O F) ∧ ∀ t, t ∈ colS w rg nr (ly + lo) tr oa O F ↔ Rc w (fun u => (∃ r, r < nr ∧ wP w rg r = some u ∧ isTb w u = true) ∨ u ∈ O) t := by
  have hlen := CI_len H
  have hBC := CI_BC H
  have hregs := CI_regs H
  have hold := CI_olds2 H
  have hold1 := CI_olds H
  obtain ⟨-, -, -, hO, -, -, -, -, -, -, hG⟩ := H
  have hb0 : Bd G (fnds (rsW w tr F) [] (rowL (rsW w tr F) rg nr)) := fnds_bd (fun o ho => (hregs o ho).2) ⟨List.nodup_nil, fun _ h => nomatch h⟩
  have hb1 : Bd G (fnds (rsW w tr F) (fnds (rsW w tr F) [] (rowL (rsW w tr F) rg nr)) (rowL (rsW w tr F) oa O.length)) := fnds_bd (fun o ho => (hold o ho).2) hb0
  obtain ⟨h1, zs, h2⟩ := flw_closed hBC hlen (ly + lo) 0 _ (by omega) hb1 (fun j t hj => by omega)
  have hbR : Bd G (colS w rg nr (ly + lo) tr oa O F) := flw_bd hBC _ _ hb1
  have e1 : ∀ u, u ∈ fnds (rsW w tr F) (fnds (rsW w tr F) [] (rowL (rsW w tr F) rg nr)) (rowL (rsW w tr F) oa O.length) ↔ (∃ r, r < nr ∧ wP w rg r = some u ∧ isTb w u = true) ∨ u ∈ O := by
    intro u
    rw [fnds_mem, fnds_mem]
    constructor
    · rintro ((h | ⟨h, hT⟩) | ⟨h, hT⟩)
      · cases h
      · obtain ⟨i, hi, e⟩ := rowL_mem.mp h
        exact Or.inl ⟨i, hi, e, hT⟩
      · obtain ⟨t, e, ht⟩ := hold1 _ h
        cases e
        exact Or.inr ht
    · rintro (⟨i, hi, e, hT⟩ | h)
      · exact Or.inl (Or.inr ⟨rowL_mem.mpr ⟨i, hi, e⟩, hT⟩)
      · obtain ⟨i, hi⟩ := List.getElem?_of_mem h
        exact Or.inr ⟨rowL_mem.mpr ⟨i, (List.getElem?_eq_some_iff.mp hi).1, (hO.2.2.2 i u hi).1⟩, GeL_mem hO h⟩
  have sub : ∀ u, ((∃ r, r < nr ∧ wP w rg r = some u ∧ isTb w u = true) ∨ u ∈ O) → u ∈ colS w rg nr (ly + lo) tr oa O F := fun u hu => by
    show u ∈ flw _ _ _ _
    rw [h2]
    exact List.mem_append_left _ ((e1 u).mpr hu)
  refine ⟨⟨hbR.1, fun t ht => hG.2.1 t (hbR.2 t ht), fun r hr t e hT => sub t (Or.inl ⟨r, hr, e, hT⟩), fun t ht => h1 t ht⟩, fun t ht => sub t (Or.inr ht), fun t => ?_⟩
  show t ∈ flw _ _ _ _ ↔ _
  rw [flw_mem hBC hlen hb1]
  have e2 : (fun u => u ∈ fnds (rsW w tr F) (fnds (rsW w tr F) [] (rowL (rsW w tr F) rg nr)) (rowL (rsW w tr F) oa O.length)) = fun u => (∃ r, r < nr ∧ wP w rg r = some u ∧ isTb w u = true) ∨ u ∈ O := funext fun u => propext (e1 u)
  rw [e2]
  exact Iff.rfl
theorem free_eq {a b : Nat} (h : b ≤ a) : nI a - nI b = nI (a - b) := pk_sub h
set_option maxRecDepth 100000 in
set_option maxHeartbeats 1000000 in
/-- collectYoung from its search on -/
theorem young2 {Γ : Cxt} {w00 : Wd} {post : Option Value → Wd → Prop} (X : Cx Γ Δ (AE Γ w00) l c_TG_collectYoung "TwoGenerations" 2 (rmL 4 0 0) (some .int) "collectYoung") (H : CI w x rg nr yg ya ly og oa lo tr fa Y O F G)
    (hp1 : lo - sumN w O < sumN w (Y.filter (inL (colS w rg nr (ly + lo) tr oa O F))) → post (some (.int (-1))) (trW (rsW w tr F) tr fa (colS w rg nr (ly + lo) tr oa O F)))
    (hp2 : sumN w (Y.filter (inL (colS w rg nr (ly + lo) tr oa O F))) ≤ lo - sumN w O → post (some (.int (nI (sumN w (Y.filter (inL (colS w rg nr (ly + lo) tr oa O F))))))) (colYW w x yg ya og oa tr fa Y O F (colS w rg nr (ly + lo) tr oa O F))) :
    J Γ Δ (AE Γ w00) 2 w 0 0 (QE Γ Δ w00 post (rmL 4 0 0)) 22 [some (.ref x), none] [] := by
  have hlen := CI_len H
  have hTrO := CI_TrO H
  have hBC := CI_BC H
  have hregs := CI_regs H
  have hold := CI_olds2 H
  have hGT : ∀ t ∈ G, isTb w t = true := fun t ht => CI_G H ht
  have hCut := fun R hR => CI_cut (R := R) H hR
  have hI := H
  obtain ⟨hS, hT, hY, hO, hty, hto, hnd, hsum, hF, hol, hG⟩ := H
  have hRC := (CI_colS hI).1
  obtain ⟨hRg, hnr, h1, h2, h3, hyO, hoO, hl1, hl2, hly, hlo, htr, htf, hfk, hgg, hya, hyf, hof⟩ := hS
  have hx := hRg.1
  have hFT := hF.2.2.2.1
  have hxfa : x ≠ fa := fun e => by rw [e, hfk] at hx; cases hx
  have hxtr : x ≠ tr := fun e => by rw [e, htr] at hx; cases hx
  have hogfa : og ≠ fa := fun e => by have := hoO.1; rw [e, hfk] at this; cases this
  have hogtr : og ≠ tr := fun e => by have := hoO.1; rw [e, htr] at this; cases this
  have hxog : x ≠ og := fun e => by have := hoO.1; rw [← e, hx] at this; cases this
  have hxyg : x ≠ yg := fun e => by have := hyO.1; rw [← e, hx] at this; cases this
  have hxoa : x ≠ oa := fun e => by have := hoO.2.2.1; rw [← e, hx] at this; cases this
  have hxya : x ≠ ya := fun e => by have := hyO.2.2.1; rw [← e, hx] at this; cases this
  have hb0 : Bd G (fnds (rsW w tr F) [] (rowL (rsW w tr F) rg nr)) := fnds_bd (fun o ho => (hregs o ho).2) ⟨List.nodup_nil, fun _ h => nomatch h⟩
  have hb1 : Bd G (fnds (rsW w tr F) (fnds (rsW w tr F) [] (rowL (rsW w tr F) rg nr)) (rowL (rsW w tr F) oa O.length)) := fnds_bd (fun o ho => (hold o ho).2) hb0
  have hbR : Bd G (colS w rg nr (ly + lo) tr oa O F) := flw_bd hBC _ _ hb1
  have hRT : ∀ t ∈ colS w rg nr (ly + lo) tr oa O F, isTb w t = true := fun t ht => hGT t (hbR.2 t ht)
  have hOT : ∀ t ∈ O, isTb w t = true := fun t ht => GeL_mem hO ht
  have hYT : ∀ t ∈ Y, isTb w t = true := fun t ht => GeL_mem hY ht
  rw [List.nodup_append] at hnd
  first | refine J_aload_nr X d_TG_collectYoung_22 rfl rfl ?_ | refine J_aload_n X d_TG_collectYoung_22 rfl rfl ?_ | refine J_aload_n0 X d_TG_collectYoung_22 rfl rfl ?_
  refine J_getR X (hx) fa_TG_38_0 rfl (h3) d_TG_collectYoung_23 ?_
  refine J_callV X (htr) rfl (k_restart (xs := F) htr htf hfk (by omega) hF.2.1 hF.1 hF.2.2.1 hFT) cd_Tr_restart lk_TG_115 vi_Tr_restart (by decide) (by decide) (by decide) (by decide) rfl (by first | decide | simp [va_rf_cat, vc_r, vc_i, vc_0]) d_TG_collectYoung_26 (fun r w1 hr => ?_)
  obtain ⟨rfl, rfl⟩ := hr
  refine J_eq (w' := trW (rsW w tr F) tr fa []) rsW_nil.symm rfl ?_
  first | refine J_aload_nr X d_TG_collectYoung_29 rfl rfl ?_ | refine J_aload_n X d_TG_collectYoung_29 rfl rfl ?_ | refine J_aload_n0 X d_TG_collectYoung_29 rfl rfl ?_
  refine J_callV X (hx) rfl (k_findRegisters (w := rsW w tr F) (B := G) (xs := []) hTrO hlen ⟨List.nodup_nil, fun _ h => nomatch h⟩ hx hRg.2.1 h3 hRg.2.2.1 (by omega) (fun o ho => (hregs o ho).1) (fun o ho => (hregs o ho).2)) cd_TG_findRegisters lk_TG_158 vi_TG_findRegisters (by decide) (by decide) (by decide) (by decide) rfl (by first | decide | simp [va_rf_cat, vc_r, vc_i, vc_0]) d_TG_collectYoung_30 (fun r w1 hr => ?_)
  obtain ⟨rfl, rfl⟩ := hr
  have a3 : wP (trW (rsW w tr F) tr fa (fnds (rsW w tr F) [] (rowL (rsW w tr F) rg nr))) x 3 = some tr := (trW_ptr (w := rsW w tr F) hxfa).trans h3
  have a2 : wP (trW (rsW w tr F) tr fa (fnds (rsW w tr F) [] (rowL (rsW w tr F) rg nr))) x 2 = some og := (trW_ptr (w := rsW w tr F) hxfa).trans h2
  have ocnt : wI (rsW w tr F) og 2 = nI O.length := (rsW_int (Or.inl hogtr) (Or.inr (notT hFT hoO.1 (by decide)))).trans hO.2.1
  first | refine J_aload_nr X d_TG_collectYoung_33 rfl rfl ?_ | refine J_aload_n X d_TG_collectYoung_33 rfl rfl ?_ | refine J_aload_n0 X d_TG_collectYoung_33 rfl rfl ?_
  refine J_getR X (hx) fa_TG_38_0 rfl (a3) d_TG_collectYoung_34 ?_
  first | refine J_aload_nr X d_TG_collectYoung_37 rfl rfl ?_ | refine J_aload_n X d_TG_collectYoung_37 rfl rfl ?_ | refine J_aload_n0 X d_TG_collectYoung_37 rfl rfl ?_
  refine J_getR X (hx) fa_TG_28_0 rfl (a2) d_TG_collectYoung_38 ?_
  refine J_callV X (htr) rfl (k_findAll (w := rsW w tr F) (B := G) hTrO (fun b hb => hGT b hb) hlen hb0 hoO.1 hoO.2.1 hoO.2.2.1 ocnt hO.2.2.1 (by omega) hof (fun o ho => (hold o ho).1) (fun o ho => (hold o ho).2)) cd_Tr_findAll lk_TG_161 vi_Tr_findAll (by decide) (by decide) (by decide) (by decide) rfl (by first | decide | simp [va_rf_cat, vc_r, vc_i, vc_0]) d_TG_collectYoung_41 (fun r w1 hr => ?_)
  obtain ⟨rfl, rfl⟩ := hr
  have a4 : wP (trW (rsW w tr F) tr fa (fnds (rsW w tr F) (fnds (rsW w tr F) [] (rowL (rsW w tr F) rg nr)) (rowL (rsW w tr F) oa O.length))) x 3 = some tr := (trW_ptr (w := rsW w tr F) hxfa).trans h3
  first | refine J_aload_nr X d_TG_collectYoung_44 rfl rfl ?_ | refine J_aload_n X d_TG_collectYoung_44 rfl rfl ?_ | refine J_aload_n0 X d_TG_collectYoung_44 rfl rfl ?_
  refine J_getR X (hx) fa_TG_38_0 rfl (a4) d_TG_collectYoung_45 ?_
  refine J_callV X (htr) rfl (k_follow (w := rsW w tr F) (B := G) hTrO (by omega) hlen hBC hb1) cd_Tr_follow lk_TG_122 vi_Tr_follow (by decide) (by decide) (by decide) (by decide) rfl (by first | decide | simp [va_rf_cat, vc_r, vc_i, vc_0]) d_TG_collectYoung_48 (fun r w1 hr => ?_)
  obtain ⟨rfl, rfl⟩ := hr
  refine J_eq (w' := trW (rsW w tr F) tr fa (colS w rg nr (ly + lo) tr oa O F)) rfl rfl ?_
  generalize hRe : colS w rg nr (ly + lo) tr oa O F = R at hbR hRT hp1 hp2 hRC ⊢
  have hcutY : cutW (cutW (trW (rsW w tr F) tr fa R) Y) O = cutY w tr fa Y O F R := rfl
  obtain ⟨cK, cS, cT, cY, cO, c5, c6, c7, ⟨c8, c9⟩, d1, d2, d3, -⟩ := hCut R hRT
  have cxp : ∀ k, wP (cutY w tr fa Y O F R) x k = wP w x k := fun k => cutY_ptr hxfa (Or.inr (by rw [hx]; simp))
  have hfil3 : Y.filter (rch (cutY w tr fa Y O F R)) = Y.filter (inL R) := filt_rch (fun t ht => by
    rw [rch, c7 t (hYT t ht), inL]
    by_cases h : t ∈ R <;> simp [h])
  have f1 : wP (trW (rsW w tr F) tr fa R) x 1 = some yg := (trW_ptr (w := rsW w tr F) hxfa).trans h1
  have f2 : wP (trW (rsW w tr F) tr fa R) x 2 = some og := (trW_ptr (w := rsW w tr F) hxfa).trans h2
  have hY1 : GeL (trW (rsW w tr F) tr fa R) yg ya ly Y := GeL_tr hRT hFT htr hfk hyf hY
  have hO1 : GeL (trW (rsW w tr F) tr fa R) og oa lo O := GeL_tr hRT hFT htr hfk hof hO
  have hO2 : GeL (cutW (trW (rsW w tr F) tr fa R) Y) og oa lo O := GeL_cut hYT hO1
  have hw1 : ∀ b t, wK (trW (rsW w tr F) tr fa R) b = some (.inl 4) → wP (trW (rsW w tr F) tr fa R) b 3 = some t → isTb (trW (rsW w tr F) tr fa R) t = true := fun b t hb ht => by
    have hbf : b ≠ fa := fun e => by rw [e] at hb; exact absurd (hfk.symm.trans hb) (by simp)
    rw [trW_ptr hbf] at ht
    exact (hT.2.2.1 b hb).2 t ht
  have hw2 : ∀ b t, wK (cutW (trW (rsW w tr F) tr fa R) Y) b = some (.inl 4) → wP (cutW (trW (rsW w tr F) tr fa R) Y) b 3 = some t → isTb (cutW (trW (rsW w tr F) tr fa R) Y) t = true := fun b t hb ht => hw1 b t hb (cutW_tgt ht)
  have f3 : wP (cutW (trW (rsW w tr F) tr fa R) Y) x 2 = some og := (cutW_ptr (Or.inl (by decide))).trans f2
  have tI0 : ∀ b, wI (trW (rsW w tr F) tr fa R) b 0 = wI w b 0 := fun b => by rw [trW_int0, rsW_0]
  have tsz : ∀ t, isTb (trW (rsW w tr F) tr fa R) t = true → wI (trW (rsW w tr F) tr fa R) t 0 = nI (szw (trW (rsW w tr F) tr fa R) t) := fun t ht => by
    rw [tI0, szw_congr (tI0 t)]; exact (HT_sz hT ht).1
  have tfil : Y.filter (rch (trW (rsW w tr F) tr fa R)) = Y.filter (inL R) := filt_rch (fun t ht => tr_rch hF htr (hYT t ht))
  have tog3 : wI (trW (rsW w tr F) tr fa R) og 3 = wI w og 3 := tr_other hRT hFT hoO.1 (by decide) hogtr
  have tsum : sumI (trW (rsW w tr F) tr fa R) (Y.filter (inL R)) = nI (sumN w (Y.filter (inL R))) := sumI_congr (fun t _ => tI0 t)
  have tK : ∀ b, wK (trW (rsW w tr F) tr fa R) b = wK w b := fun _ => rfl
  generalize hw1e : trW (rsW w tr F) tr fa R = w1 at f1 f2 hY1 hO1 hO2 hw1 hw2 f3 tI0 tsz tfil tog3 tsum tK hcutY hp1 ⊢
  have k1x := (tK x).trans hx
  have k1y := (tK yg).trans hyO.1
  have k1o := (tK og).trans hoO.1
  first | refine J_aload_nr X d_TG_collectYoung_51 rfl rfl ?_ | refine J_aload_n X d_TG_collectYoung_51 rfl rfl ?_ | refine J_aload_n0 X d_TG_collectYoung_51 rfl rfl ?_
  refine J_getR X (k1x) fa_TG_24_0 rfl (f1) d_TG_collectYoung_52 ?_
  refine J_callV X (k1y) rfl (k_reachedCells hY1 tsz) cd_Gen_reachedCells lk_TG_165 vi_Gen_reachedCells (by decide) (by decide) (by decide) (by decide) rfl (by first | decide | simp [va_rf_cat, vc_r, vc_i, vc_0]) d_TG_collectYoung_55 (fun r w2 hr => ?_)
  obtain ⟨rfl, hw2e⟩ := hr
  refine J_eq hw2e rfl ?_
  rw [tfil, tsum]
  refine J_istore_n X d_TG_collectYoung_58 rfl (by decide) rfl ?_
  refine J_iload_n X d_TG_collectYoung_59 rfl rfl ?_
  first | refine J_aload_nr X d_TG_collectYoung_60 rfl rfl ?_ | refine J_aload_n X d_TG_collectYoung_60 rfl rfl ?_ | refine J_aload_n0 X d_TG_collectYoung_60 rfl rfl ?_
  refine J_getR X (k1x) fa_TG_28_0 rfl (f2) d_TG_collectYoung_61 ?_
  refine J_callV X (k1o) rfl (k_free k1o) cd_Gen_free lk_TG_152 vi_Gen_free (by decide) (by decide) (by decide) (by decide) rfl (by first | decide | simp [va_rf_cat, vc_r, vc_i, vc_0]) d_TG_collectYoung_64 (fun r w2 hr => ?_)
  obtain ⟨rfl, hw2e'⟩ := hr
  refine J_eq hw2e' rfl ?_
  have hfree : wI w1 og 0 - wI w1 og 3 = nI (lo - sumN w O) := by rw [tI0, hl2, tog3, hto, sumI_N, free_eq (show sumN w O ≤ lo from hsum.2)]
  rw [hfree]
  have b1 : sumN w (Y.filter (inL R)) ≤ 60 := Nat.le_trans (sum_filt Y) (Nat.le_trans hsum.1 hly.2)
  refine J_icmp_le (tgt := 72) X d_TG_collectYoung_67 (by decide) (fun g => ?_) (fun g => ?_)
  · have hle : sumN w (Y.filter (inL R)) ≤ lo - sumN w O := (nI_leI (by omega) (by omega)).mp g
    first | refine J_aload_nr X d_TG_collectYoung_72 rfl rfl ?_ | refine J_aload_n X d_TG_collectYoung_72 rfl rfl ?_ | refine J_aload_n0 X d_TG_collectYoung_72 rfl rfl ?_
    refine J_getR X (k1x) fa_TG_24_0 rfl (f1) d_TG_collectYoung_73 ?_
    refine J_callV X (k1y) rfl (k_cutTargets hY1 hnd.1 hw1) cd_Gen_cutTargets lk_TG_168 vi_Gen_cutTargets (by decide) (by decide) (by decide) (by decide) rfl (by first | decide | simp [va_rf_cat, vc_r, vc_i, vc_0]) d_TG_collectYoung_76 (fun r w2 hr => ?_)
    obtain ⟨rfl, rfl⟩ := hr
    have k2x : wK (cutW w1 Y) x = some (.inl 0) := k1x
    have k2o : wK (cutW w1 Y) og = some (.inl 1) := k1o
    first | refine J_aload_nr X d_TG_collectYoung_79 rfl rfl ?_ | refine J_aload_n X d_TG_collectYoung_79 rfl rfl ?_ | refine J_aload_n0 X d_TG_collectYoung_79 rfl rfl ?_
    refine J_getR X (k2x) fa_TG_28_0 rfl (f3) d_TG_collectYoung_80 ?_
    refine J_callV X (k2o) rfl (k_cutTargets hO2 hnd.2.1 hw2) cd_Gen_cutTargets lk_TG_168 vi_Gen_cutTargets (by decide) (by decide) (by decide) (by decide) rfl (by first | decide | simp [va_rf_cat, vc_r, vc_i, vc_0]) d_TG_collectYoung_83 (fun r w2 hr => ?_)
    obtain ⟨rfl, hw2c⟩ := hr
    refine J_eq (hw2c.trans hcutY) rfl ?_
    have cog3 : wI (cutY w tr fa Y O F R) og 3 = sumI (cutY w tr fa Y O F R) O := by rw [c9, hto]; exact (sumI_congr (fun t _ => c5 t)).symm
    have csz : ∀ t, isTb (cutY w tr fa Y O F R) t = true → wI (cutY w tr fa Y O F R) t 0 = nI (szw (cutY w tr fa Y O F R) t) := fun t ht => by
      rw [isTb_congr cK] at ht
      rw [c5, szw_congr (c5 t)]; exact (HT_sz hT ht).1
    have e5 : colYW w x yg ya og oa tr fa Y O F R = uI (genW (genW (oldF (cutY w tr fa Y O F R) (Y.filter (inL R))) og oa (O ++ Y.filter (inL R))) yg ya []) x 4 (wI w x 4 + 1) := rfl
    rw [e5] at hp2
    generalize hw3e : cutY w tr fa Y O F R = w3 at cK cS cT cY cO c5 c6 c7 c8 c9 d1 d2 d3 cxp hfil3 cog3 csz hp2 ⊢
    have k3x := (cK x).trans hx
    have k3y := (cK yg).trans hyO.1
    have k3o := (cK og).trans hoO.1
    have p1 := (cxp 1).trans h1
    have p2 := (cxp 2).trans h2
    have hroom : O.length + (Y.filter (rch w3)).length ≤ lo := by
      rw [hfil3]
      have a1 := sz_len (w := w) (xs := O) (fun t ht => (HT_sz hT (hOT t ht)).2.1)
      have a2 := sz_len (w := w) (xs := Y.filter (inL R)) (fun t ht => (HT_sz hT (hYT t (List.mem_filter.mp ht).1)).2.1)
      have a3 := hsum.2
      have a4 : ((Y.filter (inL R)).map (szw w)).sum ≤ lo - (O.map (szw w)).sum := hle
      omega
    first | refine J_aload_nr X d_TG_collectYoung_86 rfl rfl ?_ | refine J_aload_n X d_TG_collectYoung_86 rfl rfl ?_ | refine J_aload_n0 X d_TG_collectYoung_86 rfl rfl ?_
    refine J_getR X (k3x) fa_TG_28_0 rfl (p2) d_TG_collectYoung_87 ?_
    first | refine J_aload_nr X d_TG_collectYoung_90 rfl rfl ?_ | refine J_aload_n X d_TG_collectYoung_90 rfl rfl ?_ | refine J_aload_n0 X d_TG_collectYoung_90 rfl rfl ?_
    refine J_getR X (k3x) fa_TG_24_0 rfl (p1) d_TG_collectYoung_91 ?_
    refine J_callV X (k3o) rfl (k_adoptReached cO cY (Ne.symm hgg) (Ne.symm hya) cog3 hroom csz) cd_Gen_adoptReached lk_TG_171 vi_Gen_adoptReached (by decide) (by decide) (by decide) (by decide) rfl (by first | decide | simp [va_rf_cat, vc_r, vc_i, vc_0]) d_TG_collectYoung_94 (fun r w2 hr => ?_)
    obtain ⟨rfl, hw4⟩ := hr
    rw [hfil3] at hw4
    have k4x : wK w2 x = some (.inl 0) := by rw [hw4]; exact k3x
    have k4y : wK w2 yg = some (.inl 1) := by rw [hw4]; exact k3y
    have p4 : wP w2 x 1 = some yg := by rw [hw4, genW_ptr (Or.inl hxoa)]; exact p1
    have i4 : wI w2 x 4 = wI w x 4 := by rw [hw4, genW_int (Or.inl hxog), oldF_int (by decide)]; exact d1 4
    first | refine J_aload_nr X d_TG_collectYoung_97 rfl rfl ?_ | refine J_aload_n X d_TG_collectYoung_97 rfl rfl ?_ | refine J_aload_n0 X d_TG_collectYoung_97 rfl rfl ?_
    refine J_getR X (k4x) fa_TG_24_0 rfl (p4) d_TG_collectYoung_98 ?_
    refine J_callV X (k4y) rfl (k_empty k4y) cd_Gen_empty lk_TG_174 vi_Gen_empty (by decide) (by decide) (by decide) (by decide) rfl (by first | decide | simp [va_rf_cat, vc_r, vc_i, vc_0]) d_TG_collectYoung_101 (fun r w5 hr => ?_)
    obtain ⟨rfl, hw5⟩ := hr
    rw [genW_nil w2 yg ya] at hw5
    have k5x : wK w5 x = some (.inl 0) := by rw [hw5]; exact k4x
    have i5 : wI w5 x 4 = wI w x 4 := by rw [hw5, genW_int (Or.inl hxyg)]; exact i4
    first | refine J_aload_nr X d_TG_collectYoung_104 rfl rfl ?_ | refine J_aload_n X d_TG_collectYoung_104 rfl rfl ?_ | refine J_aload_n0 X d_TG_collectYoung_104 rfl rfl ?_
    refine J_dup X d_TG_collectYoung_105 (rfl) ?_
    refine J_getI X (k5x) fa_TG_143_0 rfl (i5) d_TG_collectYoung_106 ?_
    refine J_iconst (v := 1) X d_TG_collectYoung_109 (by decide) ?_
    refine J_iadd X d_TG_collectYoung_110 ?_
    refine J_putI X (k5x) fp_TG_143_0 rfl d_TG_collectYoung_111 ?_
    refine J_iload_n X d_TG_collectYoung_114 rfl rfl ?_
    refine J_iret X ?_ (by decide) (by decide) d_TG_collectYoung_115
    have := hp2 hle
    rw [← hw4, ← hw5] at this
    exact this
  · have hlt : lo - sumN w O < sumN w (Y.filter (inL R)) := Nat.lt_of_not_le (fun q => g ((nI_leI (by omega) (by omega)).mpr q))
    refine J_iconst (v := -1) X d_TG_collectYoung_70 (by decide) ?_
    exact J_iret X (hp1 hlt) (by decide) (by decide) d_TG_collectYoung_71
/-- the great collection that may go ahead of a small one -/
def St1 (w wA : Wd) (x rg nr ly og oa lo tr fa : Nat) (Y O F G O1 F1 G1 : List Nat) : Prop := (sumN w Y ≤ lo - sumN w O ∧ wA = w ∧ O1 = O ∧ F1 = F ∧ G1 = G) ∨ (lo - sumN w O < sumN w Y ∧ wA = colOW w x og oa tr fa Y O F (colR w rg nr (ly + lo) tr F) ∧ O1 = O.filter (inL (colR w rg nr (ly + lo) tr F)) ∧ F1 = colR w rg nr (ly + lo) tr F ∧ G1 = colR w rg nr (ly + lo) tr F)
/-- the small collection's end: it fails, or it grows the old -/
def YoP (w : Wd) (x rg nr yg ya ly og oa lo tr fa : Nat) (Y O F : List Nat) (r : Option Value) (w' : Wd) : Prop :=
  (lo - sumN w O < sumN w (Y.filter (inL (colS w rg nr (ly + lo) tr oa O F))) ∧ r = some (.int (-1)) ∧ w' = trW (rsW w tr F) tr fa (colS w rg nr (ly + lo) tr oa O F)) ∨
  (sumN w (Y.filter (inL (colS w rg nr (ly + lo) tr oa O F))) ≤ lo - sumN w O ∧ r = some (.int (nI (sumN w (Y.filter (inL (colS w rg nr (ly + lo) tr oa O F)))))) ∧ w' = colYW w x yg ya og oa tr fa Y O F (colS w rg nr (ly + lo) tr oa O F))
theorem St1_CI {wA : Wd} {O1 F1 G1 : List Nat} (H : CI w x rg nr yg ya ly og oa lo tr fa Y O F G) (h : St1 w wA x rg nr ly og oa lo tr fa Y O F G O1 F1 G1) : CI wA x rg nr yg ya ly og oa lo tr fa Y O1 F1 G1 := by
  rcases h with ⟨-, rfl, rfl, rfl, rfl⟩ | ⟨-, rfl, rfl, rfl, rfl⟩
  · exact H
  · exact CI_colO H (CI_colR H).1
set_option maxRecDepth 100000 in
set_option maxHeartbeats 1000000 in
theorem k_collectYoung (H : CI w x rg nr yg ya ly og oa lo tr fa Y O F G) :
    Ct l y_TG_collectYoung h_TG_collectYoung (rmL 4 0 0) Δ [.ref x] w (fun r w' => ∃ wA O1 F1 G1, St1 w wA x rg nr ly og oa lo tr fa Y O F G O1 F1 G1 ∧ YoP wA x rg nr yg ya ly og oa lo tr fa Y O1 F1 r w') := by
  have hI := H
  obtain ⟨hS, hT, hY, hO, hty, hto, hnd, hsum, hF, hol, hG⟩ := H
  obtain ⟨hRg, hnr, h1, h2, h3, hyO, hoO, hl1, hl2, hly, hlo, htr, htf, hfk, hgg, hya, hyf, hof⟩ := hS
  have hx := hRg.1
  have ty : wI w yg 3 = nI (sumN w Y) := hty
  refine Ct_of (L := [some (.ref x), none]) (by decide) (by first | exact Nat.le_of_ble_eq_true rfl | simp [lg_sl, va_rf_cat, vc_r, vc_i, vc_0]) (by first | rfl | simp [lin, va_rf_cat, vc_r, vc_i, vc_0]) (fun Γ X => ?_)
  first | refine J_aload_nr X d_TG_collectYoung_0 rfl rfl ?_ | refine J_aload_n X d_TG_collectYoung_0 rfl rfl ?_ | refine J_aload_n0 X d_TG_collectYoung_0 rfl rfl ?_
  refine J_getR X (hx) fa_TG_28_0 rfl (h2) d_TG_collectYoung_1 ?_
  refine J_callV X (hoO.1) rfl (k_free hoO.1) cd_Gen_free lk_TG_152 vi_Gen_free (by decide) (by decide) (by decide) (by decide) rfl (by first | decide | simp [va_rf_cat, vc_r, vc_i, vc_0]) d_TG_collectYoung_4 (fun r w1 hr => ?_)
  obtain ⟨rfl, hw1⟩ := hr
  refine J_eq hw1 rfl ?_
  have hfree : wI w og 0 - wI w og 3 = nI (lo - sumN w O) := by rw [hl2, hto, sumI_N, free_eq (show sumN w O ≤ lo from hsum.2)]
  rw [hfree]
  first | refine J_aload_nr X d_TG_collectYoung_7 rfl rfl ?_ | refine J_aload_n X d_TG_collectYoung_7 rfl rfl ?_ | refine J_aload_n0 X d_TG_collectYoung_7 rfl rfl ?_
  refine J_getR X (hx) fa_TG_24_0 rfl (h1) d_TG_collectYoung_8 ?_
  refine J_getI X (hyO.1) fa_TG_140_1 rfl (ty) d_TG_collectYoung_11 ?_
  have b1 : sumN w Y ≤ 60 := Nat.le_trans hsum.1 hly.2
  refine J_icmp_ge (tgt := 22) X d_TG_collectYoung_14 (by decide) (fun g => ?_) (fun g => ?_)
  · have hle : sumN w Y ≤ lo - sumN w O := (nI_leI (by omega) (by omega)).mp g
    refine J_widen (c2 := 0) (s2 := 0) (by decide) (by decide) ?_
    exact young2 X hI (fun h => ⟨w, O, F, G, Or.inl ⟨hle, rfl, rfl, rfl, rfl⟩, Or.inl ⟨h, rfl, rfl⟩⟩) (fun h => ⟨w, O, F, G, Or.inl ⟨hle, rfl, rfl, rfl, rfl⟩, Or.inr ⟨h, rfl, rfl⟩⟩)
  · have hlt : lo - sumN w O < sumN w Y := Nat.lt_of_not_le (fun q => g ((nI_leI (by omega) (by omega)).mpr q))
    first | refine J_aload_nr X d_TG_collectYoung_17 rfl rfl ?_ | refine J_aload_n X d_TG_collectYoung_17 rfl rfl ?_ | refine J_aload_n0 X d_TG_collectYoung_17 rfl rfl ?_
    refine J_callV X (hx) rfl (k_collectOld hI) cd_TG_collectOld lk_TG_137 vi_TG_collectOld (by decide) (by decide) (by decide) (by decide) rfl (by first | decide | simp [va_rf_cat, vc_r, vc_i, vc_0]) d_TG_collectYoung_18 (fun r w2 hr => ?_)
    obtain ⟨rfl, hw2⟩ := hr
    refine J_pop X d_TG_collectYoung_21 (rfl) ?_
    refine J_eq hw2 rfl ?_
    refine J_widen (c2 := 0) (s2 := 0) (by decide) (by decide) ?_
    exact young2 X (CI_colO hI (CI_colR hI).1) (fun h => ⟨_, _, _, _, Or.inr ⟨hlt, rfl, rfl, rfl, rfl⟩, Or.inl ⟨h, rfl, rfl⟩⟩) (fun h => ⟨_, _, _, _, Or.inr ⟨hlt, rfl, rfl, rfl, rfl⟩, Or.inr ⟨h, rfl, rfl⟩⟩)
end CY
