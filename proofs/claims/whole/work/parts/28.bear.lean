/-! great, reach, small, bear, make, weak -/
/-- what a search from a register finds -/
def rchR (w : Wd) (rg nr N tr : Nat) (F : List Nat) (r : Int32) : List Nat := flw (rsW w tr F) N 0 (fnd (rsW w tr F) [] (held w rg nr r))
/-- the search of a small collection that has its room -/
abbrev fitY (w : Wd) (rg nr ly lo tr oa : Nat) (Y O F : List Nat) : Prop := sumN w (Y.filter (inL (colS w rg nr (ly + lo) tr oa O F))) ≤ lo - sumN w O
section BE
variable {l : Launch} {Δ : Dat} {w : Wd} {x rg nr yg ya ly og oa lo tr fa : Nat} {Y O F G : List Nat} {r : Int32}
theorem held_oB (H : CI w x rg nr yg ya ly og oa lo tr fa Y O F G) : oV w (held w rg nr r) ∧ oB w G (held w rg nr r) := by
  have hRg := H.1.1
  refine ⟨held_oV hRg.2.2.2.1 hRg.2.2.2.2 H.2.1.2.2.2, ?_⟩
  by_cases h : regB nr r
  · obtain ⟨j, hj, rfl⟩ := regB_at hRg.2.2.2.1 hRg.2.2.2.2 h
    rw [held_at hRg.2.2.2.2 hj]
    exact H.2.2.2.2.2.2.2.2.2.2.2.2.2.1 j hj
  · rw [held_no h]
    exact fun t ht => nomatch ht
theorem CI_rchR (H : CI w x rg nr yg ya ly og oa lo tr fa Y O F G) : (rchR w rg nr (ly + lo) tr F r).Nodup ∧ (∀ t ∈ rchR w rg nr (ly + lo) tr F r, t ∈ G) ∧ ∀ t, t ∈ rchR w rg nr (ly + lo) tr F r ↔ Rc w (fun u => held w rg nr r = some u ∧ isTb w u = true) t := by
  have hb : Bd G (fnd (rsW w tr F) [] (held w rg nr r)) := fnd_bd ⟨List.nodup_nil, fun _ h => nomatch h⟩ (held_oB H).2
  have hbR := flw_bd (CI_BC H) (ly + lo) 0 hb
  refine ⟨hbR.1, hbR.2, fun t => ?_⟩
  rw [rchR, flw_mem (CI_BC H) (CI_len H) hb]
  have e : (fun u => u ∈ fnd (rsW w tr F) [] (held w rg nr r)) = fun u => held w rg nr r = some u ∧ isTb w u = true := funext fun u => propext (by
    rw [fnd_mem]
    constructor
    · rintro (h | h)
      · cases h
      · exact h
    · exact Or.inr)
  rw [e]
  exact Iff.rfl
set_option maxRecDepth 100000 in
theorem k_great (H : CI w x rg nr yg ya ly og oa lo tr fa Y O F G) : Ct l y_TG_great h_TG_great (rmL 4 0 0) Δ [.ref x] w (fun r w' => r = some (.int (sumI w O - sumI w (O.filter (inL (colR w rg nr (ly + lo) tr F))))) ∧ w' = colOW w x og oa tr fa Y O F (colR w rg nr (ly + lo) tr F)) := by
  have hx := H.1.1.1
  refine Ct_of (L := [some (.ref x)]) (by decide) (by first | exact Nat.le_of_ble_eq_true rfl | simp [lg_sl, va_rf_cat, vc_r, vc_i, vc_0]) (by first | rfl | simp [lin, va_rf_cat, vc_r, vc_i, vc_0]) (fun Γ X => ?_)
  first | refine J_aload_nr X d_TG_great_0 rfl rfl ?_ | refine J_aload_n X d_TG_great_0 rfl rfl ?_ | refine J_aload_n0 X d_TG_great_0 rfl rfl ?_
  refine J_callV X (hx) rfl (k_collectOld H) cd_TG_collectOld lk_TG_137 vi_TG_collectOld (by decide) (by decide) (by decide) (by decide) rfl (by first | decide | simp [va_rf_cat, vc_r, vc_i, vc_0]) d_TG_great_1 (fun r w1 hr => ?_)
  obtain ⟨rfl, hw⟩ := hr
  exact J_iret X ⟨rfl, hw⟩ (by decide) (by decide) d_TG_great_4
set_option maxRecDepth 100000 in
theorem k_reach (H : CI w x rg nr yg ya ly og oa lo tr fa Y O F G) : Ct l y_TG_reach h_TG_reach (rmL 3 0 0) Δ [.ref x, .int r] w (fun q w' => q = some (.int (sumI w (rchR w rg nr (ly + lo) tr F r))) ∧ w' = trW (rsW w tr F) tr fa (rchR w rg nr (ly + lo) tr F r)) := by
  have hlen := CI_len H
  have hTrO := CI_TrO H
  have hBC := CI_BC H
  have hh := held_oB (r := r) H
  have hb : Bd G (fnd (rsW w tr F) [] (held w rg nr r)) := fnd_bd ⟨List.nodup_nil, fun _ h => nomatch h⟩ hh.2
  obtain ⟨hS, hT, hY, hO, hty, hto, hnd, hsum, hF, hol, hG⟩ := H
  obtain ⟨hRg, hnr, h1, h2, h3, hyO, hoO, hl1, hl2, hly, hlo, htr, htf, hfk, hgg, hya, hyf, hof⟩ := hS
  have hx := hRg.1
  have hxfa : x ≠ fa := fun e => by rw [e, hfk] at hx; cases hx
  refine Ct_of (L := [some (.ref x), some (.int r)]) (by decide) (by first | exact Nat.le_of_ble_eq_true rfl | simp [lg_sl, va_rf_cat, vc_r, vc_i, vc_0]) (by first | rfl | simp [lin, va_rf_cat, vc_r, vc_i, vc_0]) (fun Γ X => ?_)
  first | refine J_aload_nr X d_TG_reach_0 rfl rfl ?_ | refine J_aload_n X d_TG_reach_0 rfl rfl ?_ | refine J_aload_n0 X d_TG_reach_0 rfl rfl ?_
  refine J_getR X (hx) fa_TG_38_0 rfl (h3) d_TG_reach_1 ?_
  refine J_callV X (htr) rfl (k_restart (xs := F) htr htf hfk (by omega) hF.2.1 hF.1 hF.2.2.1 hF.2.2.2.1) cd_Tr_restart lk_TG_115 vi_Tr_restart (by decide) (by decide) (by decide) (by decide) rfl (by first | decide | simp [va_rf_cat, vc_r, vc_i, vc_0]) d_TG_reach_4 (fun r0 w1 hr => ?_)
  obtain ⟨rfl, rfl⟩ := hr
  refine J_eq (w' := rsW w tr F) rfl rfl ?_
  have hRg' : Rg (rsW w tr F) x rg nr := ⟨hRg.1, hRg.2.1, hRg.2.2.1, hRg.2.2.2⟩
  have hx' : wK (rsW w tr F) x = some (.inl 0) := hx
  have h3' : wP (rsW w tr F) x 3 = some tr := h3
  first | refine J_aload_nr X d_TG_reach_7 rfl rfl ?_ | refine J_aload_n X d_TG_reach_7 rfl rfl ?_ | refine J_aload_n0 X d_TG_reach_7 rfl rfl ?_
  refine J_getR X (hx') fa_TG_38_0 rfl (h3') d_TG_reach_8 ?_
  first | refine J_aload_nr X d_TG_reach_11 rfl rfl ?_ | refine J_aload_n X d_TG_reach_11 rfl rfl ?_ | refine J_aload_n0 X d_TG_reach_11 rfl rfl ?_
  refine J_iload_n X d_TG_reach_12 rfl rfl ?_
  refine J_callV X (hx') rfl (k_heldIn (r := r) hRg') cd_TG_heldIn lk_TG_102 vi_TG_heldIn (by decide) (by decide) (by decide) (by decide) rfl (by first | decide | simp [va_rf_cat, vc_r, vc_i, vc_0]) d_TG_reach_13 (fun r0 w1 hr => ?_)
  obtain ⟨rfl, hw1⟩ := hr
  refine J_eq (hw1.trans (rsW_nil (fa := fa)).symm) (st' := [va_rf (held w rg nr r), .ref tr]) rfl ?_
  refine J_callV X (htr) rfl (k_find (w := rsW w tr F) (xs := []) (o := held w rg nr r) hTrO hh.1 (fun t _ _ _ => by show 0 < ly + lo; omega) (Nat.zero_le _)) cd_Tr_find lk_TG_118 vi_Tr_find (by decide) (by decide) (by decide) (by decide) rfl (by first | decide | simp [va_rf_cat, vc_r, vc_i, vc_0]) d_TG_reach_16 (fun r0 w2 hr => ?_)
  obtain ⟨rfl, rfl⟩ := hr
  have a3 : wP (trW (rsW w tr F) tr fa (fnd (rsW w tr F) [] (held w rg nr r))) x 3 = some tr := (trW_ptr (w := rsW w tr F) hxfa).trans h3
  first | refine J_aload_nr X d_TG_reach_19 rfl rfl ?_ | refine J_aload_n X d_TG_reach_19 rfl rfl ?_ | refine J_aload_n0 X d_TG_reach_19 rfl rfl ?_
  refine J_getR X (hx) fa_TG_38_0 rfl (a3) d_TG_reach_20 ?_
  refine J_callV X (htr) rfl (k_follow (w := rsW w tr F) (B := G) hTrO (by omega) hlen hBC hb) cd_Tr_follow lk_TG_122 vi_Tr_follow (by decide) (by decide) (by decide) (by decide) rfl (by first | decide | simp [va_rf_cat, vc_r, vc_i, vc_0]) d_TG_reach_23 (fun r0 w2 hr => ?_)
  obtain ⟨rfl, rfl⟩ := hr
  refine J_eq (w' := trW (rsW w tr F) tr fa (rchR w rg nr (ly + lo) tr F r)) rfl rfl ?_
  have a4 : wP (trW (rsW w tr F) tr fa (rchR w rg nr (ly + lo) tr F r)) x 3 = some tr := (trW_ptr (w := rsW w tr F) hxfa).trans h3
  have a5 : wI (trW (rsW w tr F) tr fa (rchR w rg nr (ly + lo) tr F r)) tr 2 = sumI w (rchR w rg nr (ly + lo) tr F r) := (trW_cel _ _ _ _).trans (sumI_congr (fun t _ => rsW_0))
  first | refine J_aload_nr X d_TG_reach_26 rfl rfl ?_ | refine J_aload_n X d_TG_reach_26 rfl rfl ?_ | refine J_aload_n0 X d_TG_reach_26 rfl rfl ?_
  refine J_getR X (hx) fa_TG_38_0 rfl (a4) d_TG_reach_27 ?_
  refine J_getI X (htr) fa_TG_125_2 rfl (a5) d_TG_reach_30 ?_
  exact J_iret X ⟨rfl, rfl⟩ (by decide) (by decide) d_TG_reach_33
set_option maxRecDepth 100000 in
theorem k_small (hfl : l.stackTraces = false) (H : CI w x rg nr yg ya ly og oa lo tr fa Y O F G) : Cx2 l y_TG_small h_TG_small (rmL 6 1 6) Δ [.ref x] w
    (fun q w' => ∃ wA O1 F1 G1, St1 w wA x rg nr ly og oa lo tr fa Y O F G O1 F1 G1 ∧ fitY wA rg nr ly lo tr oa Y O1 F1 ∧ q = some (.int (nI (sumN wA (Y.filter (inL (colS wA rg nr (ly + lo) tr oa O1 F1)))))) ∧ w' = colYW wA x yg ya og oa tr fa Y O1 F1 (colS wA rg nr (ly + lo) tr oa O1 F1))
    (fun E w' => E = ISE ∧ ∃ wA O1 F1 G1, St1 w wA x rg nr ly og oa lo tr fa Y O F G O1 F1 G1 ∧ ¬ fitY wA rg nr ly lo tr oa Y O1 F1 ∧ w' = trW (rsW wA tr F1) tr fa (colS wA rg nr (ly + lo) tr oa O1 F1)) := by
  have hx := H.1.1.1
  refine Cx2_of (L := [some (.ref x), none]) (by decide) (by first | exact Nat.le_of_ble_eq_true rfl | simp [lg_sl, va_rf_cat, vc_r, vc_i, vc_0]) (by first | rfl | simp [lin, va_rf_cat, vc_r, vc_i, vc_0]) (fun Γ X HT => ?_)
  first | refine J_aload_nr X d_TG_small_0 rfl rfl ?_ | refine J_aload_n X d_TG_small_0 rfl rfl ?_ | refine J_aload_n0 X d_TG_small_0 rfl rfl ?_
  refine J_callV X (hx) rfl (k_collectYoung H) cd_TG_collectYoung lk_TG_128 vi_TG_collectYoung (by decide) (by decide) (by decide) (by decide) rfl (by first | decide | simp [va_rf_cat, vc_r, vc_i, vc_0]) d_TG_small_1 (fun r w1 hr => ?_)
  obtain ⟨wA, O1, F1, G1, hS1, hY1⟩ := hr
  have HA := St1_CI H hS1
  rcases hY1 with ⟨a1, rfl, a3⟩ | ⟨a1, rfl, a3⟩
  · refine J_istore_n X d_TG_small_4 rfl (by decide) rfl ?_
    refine J_iload_n X d_TG_small_5 rfl rfl ?_
    refine J_iconst (v := -1) X d_TG_small_6 (by decide) ?_
    refine J_icmp_ne (tgt := 20) X d_TG_small_7 (by decide) (fun g => ?_) (fun g => ?_)
    · exact absurd rfl g
    · exact J_throw X hfl HT (xd_IS sr_134) (⟨rfl, wA, O1, F1, G1, hS1, Nat.not_le_of_lt a1, a3⟩) d_TG_small_10 d_TG_small_13 d_TG_small_14 d_TG_small_16 d_TG_small_19 (by decide) (by decide) (by decide) (by decide) (by decide) (by decide) (by decide)
  · refine J_istore_n X d_TG_small_4 rfl (by decide) rfl ?_
    refine J_iload_n X d_TG_small_5 rfl rfl ?_
    refine J_iconst (v := -1) X d_TG_small_6 (by decide) ?_
    have b1 : sumN wA (Y.filter (inL (colS wA rg nr (ly + lo) tr oa O1 F1))) ≤ 120 := Nat.le_trans a1 (Nat.le_trans (Nat.sub_le _ _) HA.1.2.2.2.2.2.2.2.2.2.2.1.2)
    refine J_icmp_ne (tgt := 20) X d_TG_small_7 (by decide) (fun g => ?_) (fun g => ?_)
    · refine J_iload_n X d_TG_small_20 rfl rfl ?_
      exact J_lift (J_iret X ⟨wA, O1, F1, G1, hS1, a1, rfl, a3⟩ (by decide) (by decide) d_TG_small_21)
    · have := nI_pos (n := sumN wA (Y.filter (inL (colS wA rg nr (ly + lo) tr oa O1 F1)))) (by omega)
      rw [g] at this
      exact absurd (by decide) this
/-- where a thing is born: at once, or behind a small collection -/
def Bo (w wB : Wd) (x rg nr yg ya ly og oa lo tr fa c : Nat) (Y O F G Y1 O1 F1 G1 : List Nat) : Prop :=
  (c + sumN w Y ≤ ly ∧ wB = w ∧ Y1 = Y ∧ O1 = O ∧ F1 = F ∧ G1 = G) ∨
  (ly < c + sumN w Y ∧ Y1 = [] ∧ ∃ wA O' F' G', St1 w wA x rg nr ly og oa lo tr fa Y O F G O' F' G' ∧ fitY wA rg nr ly lo tr oa Y O' F' ∧ O1 = O' ++ Y.filter (inL (colS wA rg nr (ly + lo) tr oa O' F')) ∧ F1 = colS wA rg nr (ly + lo) tr oa O' F' ∧ G1 = colS wA rg nr (ly + lo) tr oa O' F' ∧ wB = colYW wA x yg ya og oa tr fa Y O' F' (colS wA rg nr (ly + lo) tr oa O' F'))
theorem Bo_CI {wB : Wd} {c : Nat} {Y1 O1 F1 G1 : List Nat} (H : CI w x rg nr yg ya ly og oa lo tr fa Y O F G) (h : Bo w wB x rg nr yg ya ly og oa lo tr fa c Y O F G Y1 O1 F1 G1) : CI wB x rg nr yg ya ly og oa lo tr fa Y1 O1 F1 G1 := by
  rcases h with ⟨-, rfl, rfl, rfl, rfl, rfl⟩ | ⟨-, rfl, wA, O', F', G', hS, hf, rfl, rfl, rfl, rfl⟩
  · exact H
  · have HA := St1_CI H hS
    exact CI_colY HA (CI_colS HA).1 (CI_colS HA).2.1 hf
/-- the collections ahead of a birth keep kinds, sizes -/
theorem Bo_K {wB : Wd} {c : Nat} {Y1 O1 F1 G1 : List Nat} (H : CI w x rg nr yg ya ly og oa lo tr fa Y O F G) (h : Bo w wB x rg nr yg ya ly og oa lo tr fa c Y O F G Y1 O1 F1 G1) : (∀ b, wK wB b = wK w b) ∧ ∀ b, wI wB b 0 = wI w b 0 := by
  rcases h with ⟨-, rfl, rfl, rfl, rfl, rfl⟩ | ⟨-, rfl, wA, O', F', G', hS, hf, rfl, rfl, rfl, rfl⟩
  · exact ⟨fun _ => rfl, fun _ => rfl⟩
  · have HA := St1_CI H hS
    have hC := (CF_colY HA (R := colS wA rg nr (ly + lo) tr oa O' F') (fun t ht => by
      rcases List.mem_append.mp ((CI_colS HA).1.2.1 t ht) with q | q
      · exact GeL_mem HA.2.2.1 q
      · exact GeL_mem HA.2.2.2.1 q)).1
    rcases hS with ⟨-, rfl, -⟩ | ⟨-, rfl, -⟩
    · exact ⟨hC.1, hC.2.1⟩
    · have hD := (CF_colO H (R := colR w rg nr (ly + lo) tr F) (fun t ht => by
        rcases List.mem_append.mp ((CI_colR H).1.2.1 t ht) with q | q
        · exact GeL_mem H.2.2.1 q
        · exact GeL_mem H.2.2.2.1 q)).1
      exact ⟨fun b => (hC.1 b).trans (hD.1 b), fun b => (hC.2.1 b).trans (hD.2.1 b)⟩
theorem genW_CI (H : CI w x rg nr yg ya ly og oa lo tr fa Y O F G) : genW w yg ya Y = w := genW_self H.2.2.1.2.1 H.2.2.2.2.1 (fun i t hi => (H.2.2.1.2.2.2 i t hi).1)
set_option maxRecDepth 100000 in
/-- bear from its add on -/
theorem bear2 {Γ : Cxt} {w0 : Wd} {post : Option Value → Wd → Prop} {px : String → Wd → Prop} {t i : Nat} (X : Cx Γ Δ (AE Γ w0) l c_TG_bear "TwoGenerations" 3 (rmL 6 1 6) none "bear") (H : CI w x rg nr yg ya ly og oa lo tr fa Y O F G) (ht : isTb w t = true) (hc : szw w t + sumN w Y ≤ ly) (hi : i < nr)
    (hp : post none (uP (genW w yg ya (Y ++ [t])) rg i (some t))) : J Γ Δ (AE Γ w0) 3 w 0 0 (QX Γ Δ w0 post px (rmL 6 1 6)) 32 [some (.ref x), some (.int (nI i)), some (.ref t)] [] := by
  have e := genW_CI H
  obtain ⟨hS, hT, hY, hO, hty, hto, hnd, hsum, hF, hol, hG⟩ := H
  obtain ⟨hRg, hnr, h1, h2, h3, hyO, hoO, hl1, hl2, hly, hlo, htr, htf, hfk, hgg, hya, hyf, hof⟩ := hS
  have hx := hRg.1
  have hsz := HT_sz hT ht
  have hYl : Y.length < ly := by
    have a1 := sz_len (w := w) (xs := Y) (fun u hu => (HT_sz hT (GeL_mem hY hu)).2.1)
    have a2 : Y.length ≤ sumN w Y := a1
    omega
  have hxya : x ≠ ya := fun e => by have := hyO.2.2.1; rw [← e, hx] at this; cases this
  first | refine J_aload_nr X d_TG_bear_32 rfl rfl ?_ | refine J_aload_n X d_TG_bear_32 rfl rfl ?_ | refine J_aload_n0 X d_TG_bear_32 rfl rfl ?_
  refine J_getR X (hx) fa_TG_24_0 rfl (h1) d_TG_bear_33 ?_
  first | refine J_aload_nr X d_TG_bear_36 rfl rfl ?_ | refine J_aload_n X d_TG_bear_36 rfl rfl ?_ | refine J_aload_n0 X d_TG_bear_36 rfl rfl ?_
  refine J_eq e.symm rfl ?_
  refine J_callV X (hyO.1) rfl (k_addW (zs := Y) (t := t) hyO hYl ht hsz.1) cd_Gen_add lk_TG_155 vi_Gen_add (by decide) (by decide) (by decide) (by decide) rfl (by first | decide | simp [va_rf_cat, vc_r, vc_i, vc_0]) d_TG_bear_37 (fun r w1 hr => ?_)
  obtain ⟨rfl, hw1⟩ := hr
  refine J_eq hw1 rfl ?_
  have a0 : wP (genW w yg ya (Y ++ [t])) x 0 = some rg := (genW_ptr (Or.inl hxya)).trans hRg.2.1
  obtain ⟨ci, hci, hk⟩ := isTb_to ht
  have hk' : wK (genW w yg ya (Y ++ [t])) t = some (.inl ci) := hk
  first | refine J_aload_nr X d_TG_bear_40 rfl rfl ?_ | refine J_aload_n X d_TG_bear_40 rfl rfl ?_ | refine J_aload_n0 X d_TG_bear_40 rfl rfl ?_
  refine J_getR X (hx) fa_TG_15_0 rfl (a0) d_TG_bear_41 ?_
  refine J_iload_n X d_TG_bear_44 rfl rfl ?_
  first | refine J_aload_nr X d_TG_bear_45 rfl rfl ?_ | refine J_aload_n X d_TG_bear_45 rfl rfl ?_ | refine J_aload_n0 X d_TG_bear_45 rfl rfl ?_
  refine J_aastr X (n := nr) hRg.2.2.1 (by decide) rfl ⟨_, rfl⟩ ⟨ci, hk', by rcases hci with rfl | rfl; exact ac_3_3; exact ac_4_3⟩ rfl hi (by omega) d_TG_bear_46 ?_
  exact J_lift (J_vret X hp (by decide) (by decide) d_TG_bear_47)
set_option maxRecDepth 100000 in
theorem k_bear {t i : Nat} (hfl : l.stackTraces = false) (H : CI w x rg nr yg ya ly og oa lo tr fa Y O F G) (ht : isTb w t = true) (hc : szw w t ≤ ly) (hi : i < nr) : Cx2 l y_TG_bear h_TG_bear (rmL 6 1 6) Δ [.ref x, .int (nI i), .ref t] w
    (fun q w' => q = none ∧ ∃ wB Y1 O1 F1 G1, Bo w wB x rg nr yg ya ly og oa lo tr fa (szw w t) Y O F G Y1 O1 F1 G1 ∧ w' = uP (genW wB yg ya (Y1 ++ [t])) rg i (some t))
    (fun E w' => E = ISE ∧ ly < szw w t + sumN w Y ∧ ∃ wA O1 F1 G1, St1 w wA x rg nr ly og oa lo tr fa Y O F G O1 F1 G1 ∧ ¬ fitY wA rg nr ly lo tr oa Y O1 F1 ∧ w' = trW (rsW wA tr F1) tr fa (colS wA rg nr (ly + lo) tr oa O1 F1)) := by
  have hI := H
  obtain ⟨hS, hT, hY, hO, hty, hto, hnd, hsum, hF, hol, hG⟩ := H
  obtain ⟨hRg, hnr, h1, h2, h3, hyO, hoO, hl1, hl2, hly, hlo, htr, htf, hfk, hgg, hya, hyf, hof⟩ := hS
  have hx := hRg.1
  have hsz := HT_sz hT ht
  obtain ⟨ci, hci, hk⟩ := isTb_to ht
  have s1 : sumN w Y ≤ ly := hsum.1
  refine Cx2_of (L := [some (.ref x), some (.int (nI i)), some (.ref t)]) (by decide) (by first | exact Nat.le_of_ble_eq_true rfl | simp [lg_sl, va_rf_cat, vc_r, vc_i, vc_0]) (by first | rfl | simp [lin, va_rf_cat, vc_r, vc_i, vc_0]) (fun Γ X HT => ?_)
  first | refine J_aload_nr X d_TG_bear_0 rfl rfl ?_ | refine J_aload_n X d_TG_bear_0 rfl rfl ?_ | refine J_aload_n0 X d_TG_bear_0 rfl rfl ?_
  refine J_getI X (hk) (faT_TG_149 hci).1 (faT_TG_149 hci).2 (hsz.1) d_TG_bear_1 ?_
  first | refine J_aload_nr X d_TG_bear_4 rfl rfl ?_ | refine J_aload_n X d_TG_bear_4 rfl rfl ?_ | refine J_aload_n0 X d_TG_bear_4 rfl rfl ?_
  refine J_getR X (hx) fa_TG_24_0 rfl (h1) d_TG_bear_5 ?_
  refine J_callV X (hyO.1) rfl (k_free hyO.1) cd_Gen_free lk_TG_152 vi_Gen_free (by decide) (by decide) (by decide) (by decide) rfl (by first | decide | simp [va_rf_cat, vc_r, vc_i, vc_0]) d_TG_bear_8 (fun r w1 hr => ?_)
  obtain ⟨rfl, hw1⟩ := hr
  refine J_eq hw1 rfl ?_
  have hfree : wI w yg 0 - wI w yg 3 = nI (ly - sumN w Y) := by rw [hl1, hty, sumI_N, free_eq s1]
  rw [hfree]
  refine J_icmp_le (tgt := 32) X d_TG_bear_11 (by decide) (fun g => ?_) (fun g => ?_)
  · have hle : szw w t ≤ ly - sumN w Y := (nI_leI (by omega) (by omega)).mp g
    refine J_widen (c2 := 0) (s2 := 0) (by decide) (by decide) ?_
    exact bear2 X hI ht (by omega) hi ⟨rfl, w, Y, O, F, G, Or.inl ⟨by omega, rfl, rfl, rfl, rfl, rfl⟩, rfl⟩
  · have hlt : ly - sumN w Y < szw w t := Nat.lt_of_not_le (fun q => g ((nI_leI (by omega) (by omega)).mpr q))
    first | refine J_aload_nr X d_TG_bear_14 rfl rfl ?_ | refine J_aload_n X d_TG_bear_14 rfl rfl ?_ | refine J_aload_n0 X d_TG_bear_14 rfl rfl ?_
    refine J_callV X (hx) rfl (k_collectYoung hI) cd_TG_collectYoung lk_TG_128 vi_TG_collectYoung (by decide) (by decide) (by decide) (by decide) rfl (by first | decide | simp [va_rf_cat, vc_r, vc_i, vc_0]) d_TG_bear_15 (fun r w2 hr => ?_)
    obtain ⟨wA, O1, F1, G1, hS1, hY1⟩ := hr
    have HA := St1_CI hI hS1
    rcases hY1 with ⟨a1, rfl, a3⟩ | ⟨a1, rfl, a3⟩
    · refine J_iconst (v := -1) X d_TG_bear_18 (by decide) ?_
      refine J_icmp_ne (tgt := 32) X d_TG_bear_19 (by decide) (fun g => ?_) (fun g => ?_)
      · exact absurd rfl g
      · exact J_throw X hfl HT (xd_IS sr_134) (⟨rfl, by omega, wA, O1, F1, G1, hS1, Nat.not_le_of_lt a1, a3⟩) d_TG_bear_22 d_TG_bear_25 d_TG_bear_26 d_TG_bear_28 d_TG_bear_31 (by decide) (by decide) (by decide) (by decide) (by decide) (by decide) (by decide)
    · refine J_iconst (v := -1) X d_TG_bear_18 (by decide) ?_
      have b1 : sumN wA (Y.filter (inL (colS wA rg nr (ly + lo) tr oa O1 F1))) ≤ 120 := Nat.le_trans a1 (Nat.le_trans (Nat.sub_le _ _) HA.1.2.2.2.2.2.2.2.2.2.2.1.2)
      refine J_icmp_ne (tgt := 32) X d_TG_bear_19 (by decide) (fun g => ?_) (fun g => ?_)
      · have hB : Bo w w2 x rg nr yg ya ly og oa lo tr fa (szw w t) Y O F G [] (O1 ++ Y.filter (inL (colS wA rg nr (ly + lo) tr oa O1 F1))) (colS wA rg nr (ly + lo) tr oa O1 F1) (colS wA rg nr (ly + lo) tr oa O1 F1) := Or.inr ⟨by omega, rfl, wA, O1, F1, G1, hS1, a1, rfl, rfl, rfl, a3⟩
        have hBK := Bo_K hI hB
        refine J_widen (c2 := 0) (s2 := 0) (by decide) (by decide) ?_
        refine bear2 X (Bo_CI hI hB) ((isTb_congr hBK.1 t).trans ht) ?_ hi ⟨rfl, w2, _, _, _, _, hB, rfl⟩
        rw [szw_congr (hBK.2 t)]
        show szw w t + 0 ≤ ly
        omega
      · have := nI_pos (n := sumN wA (Y.filter (inL (colS wA rg nr (ly + lo) tr oa O1 F1)))) (by omega)
        rw [g] at this
        exact absurd (by decide) this
end BE
