/-! make, weak -/
section MK
variable {l : Launch} {Δ : Dat} {w : Wd} {x rg nr yg ya ly og oa lo tr fa : Nat} {Y O F G : List Nat} {r : Int32}
theorem newP_t {t c n : Nat} (hct : c ≠ t) (hn : n ≤ 11) : isTb (newP w t c n) t = true ∧ szw (newP w t c n) t = n + 1 := by
  refine ⟨isTb_of (Or.inl rfl) (by rw [newP_K, if_neg (Ne.symm hct), if_pos rfl]), ?_⟩
  rw [szw, newP_I, if_neg (Ne.symm hct), if_pos ⟨rfl, rfl⟩, nI_clamp (by omega)]
theorem newK_t {t u : Nat} : isTb (newK w t u) t = true ∧ szw (newK w t u) t = 2 := by
  refine ⟨isTb_of (Or.inr rfl) (by rw [newK_K, if_pos rfl]), ?_⟩
  rw [szw, newK_I, if_pos ⟨rfl, rfl⟩]; rfl
/-- a small collection failed -/
def Bad (w : Wd) (w' : Wd) (x rg nr yg ya ly og oa lo tr fa c : Nat) (Y O F G : List Nat) : Prop := ly < c + sumN w Y ∧ ∃ wA O1 F1 G1, St1 w wA x rg nr ly og oa lo tr fa Y O F G O1 F1 G1 ∧ ¬ fitY wA rg nr ly lo tr oa Y O1 F1 ∧ w' = trW (rsW wA tr F1) tr fa (colS wA rg nr (ly + lo) tr oa O1 F1)
/-- a thing t of c cells was born for register i -/
def Born (w : Wd) (w' : Wd) (x rg nr yg ya ly og oa lo tr fa c i t : Nat) (Y O F G : List Nat) : Prop := ∃ wB Y1 O1 F1 G1, Bo w wB x rg nr yg ya ly og oa lo tr fa c Y O F G Y1 O1 F1 G1 ∧ w' = uP (genW wB yg ya (Y1 ++ [t])) rg i (some t)
set_option maxRecDepth 100000 in
theorem k_make {v : Int32} (hfl : l.stackTraces = false) (H : CI w x rg nr yg ya ly og oa lo tr fa Y O F G) : Cx2 l y_TG_make h_TG_make (rmL 7 3 21) Δ [.ref x, .int r, .int v] w
    (fun q w' => q = none ∧ ∃ i n t c, i < nr ∧ r = nI i ∧ v = nI n ∧ n ≤ 11 ∧ n + 1 ≤ ly ∧ wK w t = none ∧ wK w c = none ∧ c ≠ t ∧ Born (newP w t c n) w' x rg nr yg ya ly og oa lo tr fa (n + 1) i t Y O F G)
    (fun E w' => (E = IAE ∧ ¬ (regB nr r ∧ ∃ n, v = nI n ∧ n ≤ 11 ∧ n + 1 ≤ ly) ∧ w' = w) ∨ (E = ISE ∧ regB nr r ∧ ∃ n t c, v = nI n ∧ n ≤ 11 ∧ n + 1 ≤ ly ∧ wK w t = none ∧ wK w c = none ∧ c ≠ t ∧ Bad (newP w t c n) w' x rg nr yg ya ly og oa lo tr fa (n + 1) Y O F G)) := by
  have hI := H
  obtain ⟨hS, hT, hY, hO, hty, hto, hnd, hsum, hF, hol, hG⟩ := H
  obtain ⟨hRg, hnr, h1, h2, h3, hyO, hoO, hl1, hl2, hly, hlo, htr, htf, hfk, hgg, hya, hyf, hof⟩ := hS
  have hx := hRg.1
  have hr1 := hRg.2.2.2.1
  have hr2 := hRg.2.2.2.2
  refine Cx2_of (L := [some (.ref x), some (.int r), some (.int v)]) (by decide) (by first | exact Nat.le_of_ble_eq_true rfl | simp [lg_sl, va_rf_cat, vc_r, vc_i, vc_0]) (by first | rfl | simp [lin, va_rf_cat, vc_r, vc_i, vc_0]) (fun Γ X HT => ?_)
  first | refine J_aload_nr X d_TG_make_0 rfl rfl ?_ | refine J_aload_n X d_TG_make_0 rfl rfl ?_ | refine J_aload_n0 X d_TG_make_0 rfl rfl ?_
  refine J_iload_n X d_TG_make_1 rfl rfl ?_
  refine J_callV X (hx) rfl (k_isRegister (r := r) hRg) cd_TG_isRegister lk_TG_42 vi_TG_isRegister (by decide) (by decide) (by decide) (by decide) rfl (by first | decide | simp [va_rf_cat, vc_r, vc_i, vc_0]) d_TG_make_2 (fun q w1 hq => ?_)
  obtain ⟨rfl, hw1⟩ := hq
  refine J_eq hw1 rfl ?_
  by_cases h : regB nr r
  · refine J_top (v' := .int 1) (by rw [if_pos h]) ?_
    refine J_if_eq (tgt := 31) X d_TG_make_5 (by decide) (fun g => ?_) (fun g => ?_)
    · exact absurd g (by decide)
    · refine J_iload_n X d_TG_make_8 rfl rfl ?_
      refine J_iconst (v := 0) X d_TG_make_9 (by decide) ?_
      refine J_bipush (v := 11) X d_TG_make_10 (by decide) ?_
      refine J_callS X (k_within (v := v) (lo := 0) (hi := 11)) cd_TG_within lk_TG_7 st_TG_within (by decide) (by decide) (by decide) (by decide) rfl (by first | decide | simp [va_rf_cat, vc_r, vc_i, vc_0]) d_TG_make_12 (fun q w2 hq => ?_)
      obtain ⟨rfl, hw2⟩ := hq
      refine J_eq hw2 rfl ?_
      by_cases h' : 0 ≤ v ∧ v ≤ 11
      · refine J_top (v' := .int 1) (by rw [if_pos h']) ?_
        obtain ⟨n, hn, rfl⟩ : ∃ n, n ≤ 11 ∧ v = nI n := nI_of2 (M := 11) (n := 11) rfl (Int32.not_lt.mpr h'.1) h'.2
        refine J_if_eq (tgt := 31) X d_TG_make_15 (by decide) (fun g => ?_) (fun g => ?_)
        · exact absurd g (by decide)
        · refine J_iload_n X d_TG_make_18 rfl rfl ?_
          refine J_iconst (v := 1) X d_TG_make_19 (by decide) ?_
          refine J_iadd X d_TG_make_20 ?_
          first | refine J_aload_nr X d_TG_make_21 rfl rfl ?_ | refine J_aload_n X d_TG_make_21 rfl rfl ?_ | refine J_aload_n0 X d_TG_make_21 rfl rfl ?_
          refine J_getR X (hx) fa_TG_24_0 rfl (h1) d_TG_make_22 ?_
          refine J_getI X (hyO.1) fa_TG_33_1 rfl (hl1) d_TG_make_25 ?_
          refine J_eq (st' := [.int (nI ly), .int (nI (n + 1))]) rfl (by rw [show (1 : Int32) = nI 1 from rfl, nI_add]; rfl) ?_
          refine J_icmp_le (tgt := 41) X d_TG_make_28 (by decide) (fun g => ?_) (fun g => ?_)
          · have hle : n + 1 ≤ ly := (nI_leI (by omega) (by omega)).mp g
            obtain ⟨i, hi, rfl⟩ := regB_at hr1 hr2 h
            first | refine J_aload_nr X d_TG_make_41 rfl rfl ?_ | refine J_aload_n X d_TG_make_41 rfl rfl ?_ | refine J_aload_n0 X d_TG_make_41 rfl rfl ?_
            refine J_iload_n X d_TG_make_42 rfl rfl ?_
            refine J_new X nd_TG_53 (by decide) (by decide) d_TG_make_43 (fun t ht => ?_)
            have htk : wK (uN w t (.inl 3)) t = some (.inl 3) := by rw [wK_uN, if_pos rfl]
            refine J_dup X d_TG_make_46 (rfl) ?_
            refine J_iload_n X d_TG_make_47 rfl rfl ?_
            refine J_callI X (k_Pl_init (a := t) (n := n) htk hn) cd_Pl_init lk_TG_55 ii_Pl_init (by decide) (by decide) (by decide) (by decide) rfl (by first | decide | simp [va_rf_cat, vc_r, vc_i, vc_0]) d_TG_make_48 (fun q w3 hq => ?_)
            obtain ⟨rfl, c, hc, hw3⟩ := hq
            obtain ⟨hct, hc'⟩ := fresh2 (v := nI (n + 1)) hc
            refine J_eq (w' := newP w t c n) hw3 rfl ?_
            have hIN := newP_CI (n := n) hI ht hc' hct hn
            have hxN := hIN.1.1.1
            obtain ⟨hTN, hsN⟩ := newP_t (w := w) (n := n) hct hn
            refine J_callVX X (hxN) rfl (k_bear (t := t) (i := i) hfl hIN hTN (by rw [hsN]; exact hle) hi) cd_TG_bear lk_TG_56 vi_TG_bear (by decide) (by decide) (by decide) (by decide) rfl (by first | decide | simp [va_rf_cat, vc_r, vc_i, vc_0]) d_TG_make_51 (fun q w4 hq => ?_) (fun E w4 hE => ?_)
            · obtain ⟨rfl, hb⟩ := hq
              rw [hsN] at hb
              exact J_lift (J_vret X ⟨rfl, i, n, t, c, hi, rfl, rfl, hn, hle, ht, hc', hct, hb⟩ (by decide) (by decide) d_TG_make_54)
            · obtain ⟨rfl, hb⟩ := hE
              rw [hsN] at hb
              exact JX_out X HT (Or.inr ⟨rfl, h, n, t, c, rfl, hn, hle, ht, hc', hct, hb⟩) (by decide) (by decide)
          · have hlt : ¬ n + 1 ≤ ly := fun q => g ((nI_leI (by omega) (by omega)).mpr q)
            exact J_throw X hfl HT (xd_IA sr_48) (Or.inl ⟨rfl, fun q => (by obtain ⟨m, e, -, e2⟩ := q.2; rw [nI_eq (by omega) (by omega)] at e; omega), rfl⟩) d_TG_make_31 d_TG_make_34 d_TG_make_35 d_TG_make_37 d_TG_make_40 (by decide) (by decide) (by decide) (by decide) (by decide) (by decide) (by decide)
      · refine J_top (v' := .int 0) (by rw [if_neg h']) ?_
        refine J_if_eq (tgt := 31) X d_TG_make_15 (by decide) (fun g => ?_) (fun g => ?_)
        · exact J_throw X hfl HT (xd_IA sr_48) (Or.inl ⟨rfl, fun q => (by obtain ⟨m, rfl, e1, e2⟩ := q.2; exact h' ⟨nI_pos' (by omega), by rw [show (11 : Int32) = nI 11 from rfl]; exact nI_le e1 (by omega)⟩), rfl⟩) d_TG_make_31 d_TG_make_34 d_TG_make_35 d_TG_make_37 d_TG_make_40 (by decide) (by decide) (by decide) (by decide) (by decide) (by decide) (by decide)
        · exact absurd rfl g
  · refine J_top (v' := .int 0) (by rw [if_neg h]) ?_
    refine J_if_eq (tgt := 31) X d_TG_make_5 (by decide) (fun g => ?_) (fun g => ?_)
    · exact J_throw X hfl HT (xd_IA sr_48) (Or.inl ⟨rfl, fun q => h q.1, rfl⟩) d_TG_make_31 d_TG_make_34 d_TG_make_35 d_TG_make_37 d_TG_make_40 (by decide) (by decide) (by decide) (by decide) (by decide) (by decide) (by decide)
    · exact absurd rfl g
set_option maxRecDepth 100000 in
theorem k_weak {v : Int32} (hfl : l.stackTraces = false) (H : CI w x rg nr yg ya ly og oa lo tr fa Y O F G) : Cx2 l y_TG_weak h_TG_weak (rmL 7 2 10) Δ [.ref x, .int r, .int v] w
    (fun q w' => q = none ∧ ∃ i u t, i < nr ∧ r = nI i ∧ only w (isTb w) (held w rg nr v) = some u ∧ wK w t = none ∧ Born (newK w t u) w' x rg nr yg ya ly og oa lo tr fa 2 i t Y O F G)
    (fun E w' => (E = IAE ∧ ¬ (regB nr r ∧ ∃ u, only w (isTb w) (held w rg nr v) = some u) ∧ w' = w) ∨ (E = ISE ∧ regB nr r ∧ ∃ u t, only w (isTb w) (held w rg nr v) = some u ∧ wK w t = none ∧ Bad (newK w t u) w' x rg nr yg ya ly og oa lo tr fa 2 Y O F G)) := by
  have hI := H
  obtain ⟨hS, hT, hY, hO, hty, hto, hnd, hsum, hF, hol, hG⟩ := H
  obtain ⟨hRg, hnr, h1, h2, h3, hyO, hoO, hl1, hl2, hly, hlo, htr, htf, hfk, hgg, hya, hyf, hof⟩ := hS
  have hx := hRg.1
  have hr1 := hRg.2.2.2.1
  have hr2 := hRg.2.2.2.2
  refine Cx2_of (L := [some (.ref x), some (.int r), some (.int v), none]) (by decide) (by first | exact Nat.le_of_ble_eq_true rfl | simp [lg_sl, va_rf_cat, vc_r, vc_i, vc_0]) (by first | rfl | simp [lin, va_rf_cat, vc_r, vc_i, vc_0]) (fun Γ X HT => ?_)
  first | refine J_aload_nr X d_TG_weak_0 rfl rfl ?_ | refine J_aload_n X d_TG_weak_0 rfl rfl ?_ | refine J_aload_n0 X d_TG_weak_0 rfl rfl ?_
  refine J_iload_n X d_TG_weak_1 rfl rfl ?_
  refine J_callV X (hx) rfl (k_thingIn (r := v) hRg hT.2.2.2) cd_TG_thingIn lk_TG_60 vi_TG_thingIn (by decide) (by decide) (by decide) (by decide) rfl (by first | decide | simp [va_rf_cat, vc_r, vc_i, vc_0]) d_TG_weak_2 (fun q w1 hq => ?_)
  obtain ⟨rfl, hw1⟩ := hq
  refine J_eq hw1 rfl ?_
  first | refine J_astore_nr X d_TG_weak_5 rfl (by decide) rfl ?_ | refine J_astore_n X d_TG_weak_5 rfl (by decide) rfl ?_ | refine J_astore_n0 X d_TG_weak_5 rfl (by decide) rfl ?_
  first | refine J_aload_nr X d_TG_weak_6 rfl rfl ?_ | refine J_aload_n X d_TG_weak_6 rfl rfl ?_ | refine J_aload_n0 X d_TG_weak_6 rfl rfl ?_
  refine J_iload_n X d_TG_weak_7 rfl rfl ?_
  refine J_callV X (hx) rfl (k_isRegister (r := r) hRg) cd_TG_isRegister lk_TG_42 vi_TG_isRegister (by decide) (by decide) (by decide) (by decide) rfl (by first | decide | simp [va_rf_cat, vc_r, vc_i, vc_0]) d_TG_weak_8 (fun q w1 hq => ?_)
  obtain ⟨rfl, hw1⟩ := hq
  refine J_eq hw1 rfl ?_
  by_cases h : regB nr r
  · refine J_top (v' := .int 1) (by rw [if_pos h]) ?_
    refine J_if_eq (tgt := 18) X d_TG_weak_11 (by decide) (fun g => ?_) (fun g => ?_)
    · exact absurd g (by decide)
    · cases hh : only w (isTb w) (held w rg nr v) with
      | none =>
        first | refine J_aload_nr X d_TG_weak_14 rfl rfl ?_ | refine J_aload_n X d_TG_weak_14 rfl rfl ?_ | refine J_aload_n0 X d_TG_weak_14 rfl rfl ?_
        refine J_ifnonnull0 X d_TG_weak_15 ?_
        exact J_throw X hfl HT (xd_IA sr_64) (Or.inl ⟨rfl, fun q => (by obtain ⟨t, ht⟩ := q.2; cases ht), rfl⟩) d_TG_weak_18 d_TG_weak_21 d_TG_weak_22 d_TG_weak_24 d_TG_weak_27 (by decide) (by decide) (by decide) (by decide) (by decide) (by decide) (by decide)
      | some u =>
        first | refine J_aload_nr X d_TG_weak_14 rfl rfl ?_ | refine J_aload_n X d_TG_weak_14 rfl rfl ?_ | refine J_aload_n0 X d_TG_weak_14 rfl rfl ?_
        refine J_ifnonnullr (tgt := 28) X d_TG_weak_15 (by decide) ?_
        obtain ⟨i, hi, rfl⟩ := regB_at hr1 hr2 h
        have hu := (only_some hh).2
        first | refine J_aload_nr X d_TG_weak_28 rfl rfl ?_ | refine J_aload_n X d_TG_weak_28 rfl rfl ?_ | refine J_aload_n0 X d_TG_weak_28 rfl rfl ?_
        refine J_iload_n X d_TG_weak_29 rfl rfl ?_
        refine J_new X nd_TG_66 (by decide) (by decide) d_TG_weak_30 (fun t ht => ?_)
        have htk : wK (uN w t (.inl 4)) t = some (.inl 4) := by rw [wK_uN, if_pos rfl]
        refine J_dup X d_TG_weak_33 (rfl) ?_
        first | refine J_aload_nr X d_TG_weak_34 rfl rfl ?_ | refine J_aload_n X d_TG_weak_34 rfl rfl ?_ | refine J_aload_n0 X d_TG_weak_34 rfl rfl ?_
        refine J_callI X (k_Wk_init (a := t) (o := some u) htk) cd_Wk_init lk_TG_68 ii_Wk_init (by decide) (by decide) (by decide) (by decide) rfl (by first | decide | simp [va_rf_cat, vc_r, vc_i, vc_0]) d_TG_weak_35 (fun q w3 hq => ?_)
        obtain ⟨rfl, hw3⟩ := hq
        refine J_eq (w' := newK w t u) hw3 rfl ?_
        have hIN := newK_CI hI ht hu
        have hxN := hIN.1.1.1
        obtain ⟨hTN, hsN⟩ := newK_t (w := w) (t := t) (u := u)
        refine J_callVX X (hxN) rfl (k_bear (t := t) (i := i) hfl hIN hTN (by rw [hsN]; omega) hi) cd_TG_bear lk_TG_56 vi_TG_bear (by decide) (by decide) (by decide) (by decide) rfl (by first | decide | simp [va_rf_cat, vc_r, vc_i, vc_0]) d_TG_weak_38 (fun q w4 hq => ?_) (fun E w4 hE => ?_)
        · obtain ⟨rfl, hb⟩ := hq
          rw [hsN] at hb
          exact J_lift (J_vret X ⟨rfl, i, u, t, hi, rfl, rfl, ht, hb⟩ (by decide) (by decide) d_TG_weak_41)
        · obtain ⟨rfl, hb⟩ := hE
          rw [hsN] at hb
          exact JX_out X HT (Or.inr ⟨rfl, h, u, t, rfl, ht, hb⟩) (by decide) (by decide)
  · refine J_top (v' := .int 0) (by rw [if_neg h]) ?_
    refine J_if_eq (tgt := 18) X d_TG_weak_11 (by decide) (fun g => ?_) (fun g => ?_)
    · exact J_throw X hfl HT (xd_IA sr_64) (Or.inl ⟨rfl, fun q => h q.1, rfl⟩) d_TG_weak_18 d_TG_weak_21 d_TG_weak_22 d_TG_weak_24 d_TG_weak_27 (by decide) (by decide) (by decide) (by decide) (by decide) (by decide) (by decide)
    · exact absurd rfl g
end MK
