/-! TwoGenerations() -/
section IT
variable {l : Launch} {Δ : Dat} {w v w0 : Wd} {Γ : Cxt} {x rg nr yg ya ly og oa lo : Nat} {a b c : Int32} {post : Option Value → Wd → Prop}
set_option maxRecDepth 100000 in
theorem init3 (X : Cx Γ Δ (AE Γ w0) l c_TG_init "TwoGenerations" 4 (rmL 2 7 439) none "<init>") (H : S3 w v x rg nr yg ya ly og oa lo) (hly : ly ≤ 60) (hlo : lo ≤ 120) (hp : ∀ v' tr fa, S4 w v' x rg nr yg ya ly og oa lo tr fa → post none v') :
    J Γ Δ (AE Γ w0) 4 v 5 256 (QE Γ Δ w0 post (rmL 2 7 439)) 80 [some (.ref x), some (.int a), some (.int b), some (.int c)] [] := by
  have hx := H.1.1.1.1
  have h1 := H.1.2.1
  have h2 := H.2.1
  have hN := H.1.1.1.2.2.2.1
  have y1 := H.1.2.2.1
  have y4 := H.1.2.2.2.2.2.1
  have o1 := H.2.2.1.1
  have o4 := H.2.2.1.2.2.2.1
  first | refine J_aload_nr X d_TG_init_80 rfl rfl ?_ | refine J_aload_n X d_TG_init_80 rfl rfl ?_ | refine J_aload_n0 X d_TG_init_80 rfl rfl ?_
  refine J_new X nd_TG_31 (by decide) (by decide) d_TG_init_81 (fun tr htr => ?_)
  have ex : ∀ {z : Nat}, z ≠ tr → ∀ k, wI (uN v tr (.inl 2)) z k = wI v z k ∧ wP (uN v tr (.inl 2)) z k = wP v z k ∧ wK (uN v tr (.inl 2)) z = wK v z := fun hz k => ⟨by rw [wI_uN, if_neg hz], by rw [wP_uN, if_neg hz], by rw [wK_uN, if_neg hz]⟩
  have nx := ne_new hx htr
  have ny := ne_new y1 htr
  have no := ne_new o1 htr
  have ktr : wK (uN v tr (.inl 2)) tr = some (.inl 2) := by rw [wK_uN, if_pos rfl]
  refine J_dup X d_TG_init_84 (rfl) ?_
  first | refine J_aload_nr X d_TG_init_85 rfl rfl ?_ | refine J_aload_n X d_TG_init_85 rfl rfl ?_ | refine J_aload_n0 X d_TG_init_85 rfl rfl ?_
  refine J_getR X ((ex nx 0).2.2.trans hx) fa_TG_24_0 rfl ((ex nx 1).2.1.trans h1) d_TG_init_86 ?_
  refine J_getI X ((ex ny 0).2.2.trans y1) fa_TG_33_1 rfl ((ex ny 0).1.trans y4) d_TG_init_89 ?_
  first | refine J_aload_nr X d_TG_init_92 rfl rfl ?_ | refine J_aload_n X d_TG_init_92 rfl rfl ?_ | refine J_aload_n0 X d_TG_init_92 rfl rfl ?_
  refine J_getR X ((ex nx 0).2.2.trans hx) fa_TG_28_0 rfl ((ex nx 2).2.1.trans h2) d_TG_init_93 ?_
  refine J_getI X ((ex no 0).2.2.trans o1) fa_TG_33_1 rfl ((ex no 0).1.trans o4) d_TG_init_96 ?_
  refine J_iadd X d_TG_init_99 ?_
  refine J_top (v' := .int (nI (ly + lo))) (by rw [nI_add]) ?_
  refine J_callI X (k_Tr_init (a := tr) (n := ly + lo) ktr (by omega)) cd_Tr_init lk_TG_37 ii_Tr_init (by decide) (by decide) (by decide) (by decide) rfl (by first | decide | simp [va_rf_cat, vc_r, vc_i, vc_0]) d_TG_init_100 (fun r w1 hr => ?_)
  obtain ⟨rfl, fa, hfa, hw1⟩ := hr
  refine J_eq (w' := trN v tr fa (ly + lo)) hw1 rfl ?_
  obtain ⟨f1, f2, f3, f4, f5, f6, f7, f8, f9⟩ := trN_facts (k0 := 3) (m := ly + lo) hx htr hfa hN
  first | refine J_putPFr X (by rw [show wK (trN v tr fa (ly + lo)) x = wK (uP (trN v tr fa (ly + lo)) x 3 (some tr)) x from rfl]; exact (f1 x _ hx).1) ff_TG_38_0 rfl (Or.inl ⟨_, rfl⟩) rfl d_TG_init_103 ?_ | refine J_putPF X (by rw [show wK (trN v tr fa (ly + lo)) x = wK (uP (trN v tr fa (ly + lo)) x 3 (some tr)) x from rfl]; exact (f1 x _ hx).1) ff_TG_38_0 rfl (Or.inl ⟨_, rfl⟩) rfl d_TG_init_103 ?_ | refine J_putPF0 X (by rw [show wK (trN v tr fa (ly + lo)) x = wK (uP (trN v tr fa (ly + lo)) x 3 (some tr)) x from rfl]; exact (f1 x _ hx).1) ff_TG_38_0 rfl (Or.inl ⟨_, rfl⟩) rfl d_TG_init_103 ?_
  refine J_vret X (hp _ tr fa ⟨S3_ex f1 f2 f3 (by decide) H, f8, f4, f5, f6, f7, ?_, ?_⟩) (by decide) (by decide) d_TG_init_106
  · exact ne_new H.1.2.2.2.2.1 f9
  · exact ne_new H.2.2.1.2.2.1 f9
set_option maxRecDepth 100000 in
theorem init2 (X : Cx Γ Δ (AE Γ w0) l c_TG_init "TwoGenerations" 4 (rmL 2 7 439) none "<init>") (H : S2 w v x rg nr yg ya ly) (hly : ly ≤ 60) (hlo : lo ≤ 120) (hog : wK v og = none) (hp : ∀ v' oa tr fa, S4 w v' x rg nr yg ya ly og oa lo tr fa → post none v') :
    J Γ Δ (AE Γ w0) 4 (uN v og (.inl 1)) 4 136 (QE Γ Δ w0 post (rmL 2 7 439)) 74 [some (.ref x), some (.int a), some (.int b), some (.int c)] [.int (nI lo), .ref og, .ref og, .ref x] := by
  have hx := H.1.1.1
  have hN := H.1.1.2.2.2.1
  have kog : wK (uN v og (.inl 1)) og = some (.inl 1) := by rw [wK_uN, if_pos rfl]
  refine J_callI X (k_Gen_init (a := og) (n := lo) kog hlo) cd_Gen_init lk_TG_21 ii_Gen_init (by decide) (by decide) (by decide) (by decide) rfl (by first | decide | simp [va_rf_cat, vc_r, vc_i, vc_0]) d_TG_init_74 (fun r w1 hr => ?_)
  obtain ⟨rfl, oa, hoa, hw1⟩ := hr
  refine J_eq (w' := genN v og oa lo) hw1 rfl ?_
  obtain ⟨f1, f2, f3, f4, f5⟩ := genN_facts (k0 := 2) (m := lo) hx hog hoa hN
  first | refine J_putPFr X (by rw [show wK (genN v og oa lo) x = wK (uP (genN v og oa lo) x 2 (some og)) x from rfl]; exact (f1 x _ hx).1) ff_TG_28_0 rfl (Or.inl ⟨_, rfl⟩) rfl d_TG_init_77 ?_ | refine J_putPF X (by rw [show wK (genN v og oa lo) x = wK (uP (genN v og oa lo) x 2 (some og)) x from rfl]; exact (f1 x _ hx).1) ff_TG_28_0 rfl (Or.inl ⟨_, rfl⟩) rfl d_TG_init_77 ?_ | refine J_putPF0 X (by rw [show wK (genN v og oa lo) x = wK (uP (genN v og oa lo) x 2 (some og)) x from rfl]; exact (f1 x _ hx).1) ff_TG_28_0 rfl (Or.inl ⟨_, rfl⟩) rfl d_TG_init_77 ?_
  refine J_widen (c2 := 5) (s2 := 256) (by decide) (by decide) ?_
  exact init3 X ⟨S2_ex f1 f2 f3 (by decide) H, f5, f4, ne_new H.2.2.1 hog, ne_new H.2.2.2.2.1 (fresh2 hoa).2⟩ hly hlo (fun v' tr fa h => hp v' oa tr fa h)
set_option maxRecDepth 100000 in
theorem init1 (X : Cx Γ Δ (AE Γ w0) l c_TG_init "TwoGenerations" 4 (rmL 2 7 439) none "<init>") (H : S1 w v x rg nr) (hly : ly ≤ 60) (hyg : wK v yg = none) (hp : ∀ v' ya og oa tr fa, S4 w v' x rg nr yg ya ly og oa (loOf c) tr fa → post none v') :
    J Γ Δ (AE Γ w0) 4 (uN v yg (.inl 1)) 2 12 (QE Γ Δ w0 post (rmL 2 7 439)) 47 [some (.ref x), some (.int a), some (.int b), some (.int c)] [.int (nI ly), .ref yg, .ref yg, .ref x] := by
  have hx := H.1.1
  have hN := H.1.2.2.2.1
  have kyg : wK (uN v yg (.inl 1)) yg = some (.inl 1) := by rw [wK_uN, if_pos rfl]
  refine J_callI X (k_Gen_init (a := yg) (n := ly) kyg (by omega)) cd_Gen_init lk_TG_21 ii_Gen_init (by decide) (by decide) (by decide) (by decide) rfl (by first | decide | simp [va_rf_cat, vc_r, vc_i, vc_0]) d_TG_init_47 (fun r w1 hr => ?_)
  obtain ⟨rfl, ya, hya, hw1⟩ := hr
  refine J_eq (w' := genN v yg ya ly) hw1 rfl ?_
  obtain ⟨f1, f2, f3, f4, f5⟩ := genN_facts (k0 := 1) (m := ly) hx hyg hya hN
  first | refine J_putPFr X (by rw [show wK (genN v yg ya ly) x = wK (uP (genN v yg ya ly) x 1 (some yg)) x from rfl]; exact (f1 x _ hx).1) ff_TG_24_0 rfl (Or.inl ⟨_, rfl⟩) rfl d_TG_init_50 ?_ | refine J_putPF X (by rw [show wK (genN v yg ya ly) x = wK (uP (genN v yg ya ly) x 1 (some yg)) x from rfl]; exact (f1 x _ hx).1) ff_TG_24_0 rfl (Or.inl ⟨_, rfl⟩) rfl d_TG_init_50 ?_ | refine J_putPF0 X (by rw [show wK (genN v yg ya ly) x = wK (uP (genN v yg ya ly) x 1 (some yg)) x from rfl]; exact (f1 x _ hx).1) ff_TG_24_0 rfl (Or.inl ⟨_, rfl⟩) rfl d_TG_init_50 ?_
  first | refine J_aload_nr X d_TG_init_53 rfl rfl ?_ | refine J_aload_n X d_TG_init_53 rfl rfl ?_ | refine J_aload_n0 X d_TG_init_53 rfl rfl ?_
  have H2 : S2 w (uP (genN v yg ya ly) x 1 (some yg)) x rg nr yg ya ly := ⟨S1_ex f1 f2 f3 (by decide) H, f5, f4⟩
  generalize uP (genN v yg ya ly) x 1 (some yg) = v2 at H2 ⊢
  refine J_new X nd_TG_19 (by decide) (by decide) d_TG_init_54 (fun og hog => ?_)
  refine J_dup X d_TG_init_57 (rfl) ?_
  refine J_iload_n X d_TG_init_58 rfl rfl ?_
  refine J_iconst (v := 4) X d_TG_init_59 (by decide) ?_
  refine J_bipush (v := 120) X d_TG_init_60 (by decide) ?_
  refine J_callS X (k_within (v := c) (lo := 4) (hi := 120)) cd_TG_within lk_TG_7 st_TG_within (by decide) (by decide) (by decide) (by decide) rfl (by first | decide | simp [va_rf_cat, vc_r, vc_i, vc_0]) d_TG_init_62 (fun q w2 hq => ?_)
  obtain ⟨rfl, hw2⟩ := hq
  refine J_eq hw2 rfl ?_
  by_cases h : 4 ≤ c ∧ c ≤ 120
  · refine J_top (v' := .int 1) (by rw [if_pos h]) ?_
    refine J_if_eq (tgt := 72) X d_TG_init_65 (by decide) (fun g => ?_) (fun g => ?_)
    · exact absurd g (by decide)
    · refine J_iload_n X d_TG_init_68 rfl rfl ?_
      refine J_goto (tgt := 74) X d_TG_init_69 (by decide) ?_
      refine J_top (v' := .int (nI (loOf c))) (by rw [loOf, if_pos h, ← (pick_of (m := 4) (n := 120) rfl rfl (by decide) (by decide) h).1]) ?_
      refine J_widen (c2 := 4) (s2 := 136) (by decide) (by decide) ?_
      exact init2 X H2 hly (loOf_b c).2 hog (fun v' oa tr fa hS => hp v' ya og oa tr fa hS)
  · refine J_top (v' := .int 0) (by rw [if_neg h]) ?_
    refine J_if_eq (tgt := 72) X d_TG_init_65 (by decide) (fun g => ?_) (fun g => ?_)
    · refine J_bipush (v := 40) X d_TG_init_72 (by decide) ?_
      refine J_top (v' := .int (nI (loOf c))) (by rw [loOf, if_neg h]; rfl) ?_
      refine J_widen (c2 := 4) (s2 := 136) (by decide) (by decide) ?_
      exact init2 X H2 hly (loOf_b c).2 hog (fun v' oa tr fa hS => hp v' ya og oa tr fa hS)
    · exact absurd rfl g
set_option maxRecDepth 100000 in
theorem init0 (X : Cx Γ Δ (AE Γ w0) l c_TG_init "TwoGenerations" 4 (rmL 2 7 439) none "<init>") (H : S0 w v x) (hnr : nr ≤ 8) (hp : ∀ v' rg yg ya og oa tr fa, S4 w v' x rg nr yg ya (lyOf b) og oa (loOf c) tr fa → post none v') :
    J Γ Δ (AE Γ w0) 4 v 0 0 (QE Γ Δ w0 post (rmL 2 7 439)) 20 [some (.ref x), some (.int a), some (.int b), some (.int c)] [.int (nI nr), .ref x] := by
  have hx := H.1
  have hN := H.2.2.2.1
  refine J_newq X nq_TG_13 rfl (by omega) (by decide) (by show 0 + nr ≤ 439; omega) d_TG_init_20 (fun rg hrg => ?_)
  have hxr := ne_new hx hrg
  refine J_widen (c2 := 1) (s2 := 8) (by decide) (by show 0 + nr ≤ 8; omega) ?_
  first | refine J_putPFr X (by rw [wK_uN, if_neg hxr]; exact hx) ff_TG_15_0 rfl (Or.inr ⟨_, rfl⟩) rfl d_TG_init_23 ?_ | refine J_putPF X (by rw [wK_uN, if_neg hxr]; exact hx) ff_TG_15_0 rfl (Or.inr ⟨_, rfl⟩) rfl d_TG_init_23 ?_ | refine J_putPF0 X (by rw [wK_uN, if_neg hxr]; exact hx) ff_TG_15_0 rfl (Or.inr ⟨_, rfl⟩) rfl d_TG_init_23 ?_
  first | refine J_aload_nr X d_TG_init_26 rfl rfl ?_ | refine J_aload_n X d_TG_init_26 rfl rfl ?_ | refine J_aload_n0 X d_TG_init_26 rfl rfl ?_
  have H1 : S1 w (uP (uN v rg (.inr (3, nr))) x 0 (some rg)) x rg nr := by
    refine ⟨⟨by rw [wK_uP, wK_uN, if_neg hxr]; exact hx, by rw [wI_uP, wI_uN, if_neg hxr]; exact H.2.1, by rw [wI_uP, wI_uN, if_neg hxr]; exact H.2.2.1, fun t ci hci h => ?_, FrC_trans H.2.2.2.2 (FrC_trans (FrC_uN hrg) (FrC_uP (d' := .inl 0) (by rw [wK_uN, if_neg hxr]; exact hx) rfl))⟩, by rw [wP_uP, if_pos ⟨rfl, rfl⟩], by rw [wK_uP, wK_uN, if_pos rfl], fun k => by rw [wP_uP, if_neg (fun q => hxr q.1.symm), wP_uN, if_pos rfl]⟩
    rw [wK_uP, wK_uN] at h
    split at h
    · cases h
    · exact hN t ci hci h
  generalize uP (uN v rg (.inr (3, nr))) x 0 (some rg) = v2 at H1 ⊢
  refine J_new X nd_TG_19 (by decide) (by decide) d_TG_init_27 (fun yg hyg => ?_)
  refine J_dup X d_TG_init_30 (rfl) ?_
  refine J_iload_n X d_TG_init_31 rfl rfl ?_
  refine J_iconst (v := 4) X d_TG_init_32 (by decide) ?_
  refine J_bipush (v := 60) X d_TG_init_33 (by decide) ?_
  refine J_callS X (k_within (v := b) (lo := 4) (hi := 60)) cd_TG_within lk_TG_7 st_TG_within (by decide) (by decide) (by decide) (by decide) rfl (by first | decide | simp [va_rf_cat, vc_r, vc_i, vc_0]) d_TG_init_35 (fun q w2 hq => ?_)
  obtain ⟨rfl, hw2⟩ := hq
  refine J_eq hw2 rfl ?_
  by_cases h : 4 ≤ b ∧ b ≤ 60
  · refine J_top (v' := .int 1) (by rw [if_pos h]) ?_
    refine J_if_eq (tgt := 45) X d_TG_init_38 (by decide) (fun g => ?_) (fun g => ?_)
    · exact absurd g (by decide)
    · refine J_iload_n X d_TG_init_41 rfl rfl ?_
      refine J_goto (tgt := 47) X d_TG_init_42 (by decide) ?_
      refine J_top (v' := .int (nI (lyOf b))) (by rw [lyOf, if_pos h, ← (pick_of (m := 4) (n := 60) rfl rfl (by decide) (by decide) h).1]) ?_
      refine J_widen (c2 := 2) (s2 := 12) (by decide) (by decide) ?_
      exact init1 X H1 (lyOf_b b).2 hyg (fun v' ya og oa tr fa hS => hp v' rg yg ya og oa tr fa hS)
  · refine J_top (v' := .int 0) (by rw [if_neg h]) ?_
    refine J_if_eq (tgt := 45) X d_TG_init_38 (by decide) (fun g => ?_) (fun g => ?_)
    · refine J_bipush (v := 16) X d_TG_init_45 (by decide) ?_
      refine J_top (v' := .int (nI (lyOf b))) (by rw [lyOf, if_neg h]; rfl) ?_
      refine J_widen (c2 := 2) (s2 := 12) (by decide) (by decide) ?_
      exact init1 X H1 (lyOf_b b).2 hyg (fun v' ya og oa tr fa hS => hp v' rg yg ya og oa tr fa hS)
    · exact absurd rfl g
set_option maxRecDepth 100000 in
theorem k_TG_init (H : S0 w w x) : Ct l y_TG_init h_TG_init (rmL 2 7 439) Δ [.ref x, .int a, .int b, .int c] w (fun r w' => r = none ∧ ∃ rg yg ya og oa tr fa, S4 w w' x rg (nrOf a) yg ya (lyOf b) og oa (loOf c) tr fa) := by
  refine Ct_of (L := [some (.ref x), some (.int a), some (.int b), some (.int c)]) (by decide) (by first | exact Nat.le_of_ble_eq_true rfl | simp [lg_sl, va_rf_cat, vc_r, vc_i, vc_0]) (by first | rfl | simp [lin, va_rf_cat, vc_r, vc_i, vc_0]) (fun Γ X => ?_)
  first | refine J_aload_nr X d_TG_init_0 rfl rfl ?_ | refine J_aload_n X d_TG_init_0 rfl rfl ?_ | refine J_aload_n0 X d_TG_init_0 rfl rfl ?_
  refine J_objInit X m_47 m_48 m_49 (by decide) (by decide) (by first | decide | simp [va_rf_cat, vc_r, vc_i, vc_0]) d_TG_init_1 ?_
  first | refine J_aload_nr X d_TG_init_4 rfl rfl ?_ | refine J_aload_n X d_TG_init_4 rfl rfl ?_ | refine J_aload_n0 X d_TG_init_4 rfl rfl ?_
  refine J_iload_n X d_TG_init_5 rfl rfl ?_
  refine J_iconst (v := 1) X d_TG_init_6 (by decide) ?_
  refine J_bipush (v := 8) X d_TG_init_7 (by decide) ?_
  refine J_callS X (k_within (v := a) (lo := 1) (hi := 8)) cd_TG_within lk_TG_7 st_TG_within (by decide) (by decide) (by decide) (by decide) rfl (by first | decide | simp [va_rf_cat, vc_r, vc_i, vc_0]) d_TG_init_9 (fun q w2 hq => ?_)
  obtain ⟨rfl, hw2⟩ := hq
  refine J_eq hw2 rfl ?_
  by_cases h : 1 ≤ a ∧ a ≤ 8
  · refine J_top (v' := .int 1) (by rw [if_pos h]) ?_
    refine J_if_eq (tgt := 19) X d_TG_init_12 (by decide) (fun g => ?_) (fun g => ?_)
    · exact absurd g (by decide)
    · refine J_iload_n X d_TG_init_15 rfl rfl ?_
      refine J_goto (tgt := 20) X d_TG_init_16 (by decide) ?_
      refine J_top (v' := .int (nI (nrOf a))) (by rw [nrOf, if_pos h, ← (pick_of (m := 1) (n := 8) rfl rfl (by decide) (by decide) h).1]) ?_
      refine J_widen (c2 := 0) (s2 := 0) (by decide) (by decide) ?_
      exact init0 X H (nrOf_b a).2 (fun v' rg yg ya og oa tr fa hS => ⟨rfl, rg, yg, ya, og, oa, tr, fa, hS⟩)
  · refine J_top (v' := .int 0) (by rw [if_neg h]) ?_
    refine J_if_eq (tgt := 19) X d_TG_init_12 (by decide) (fun g => ?_) (fun g => ?_)
    · refine J_iconst (v := 4) X d_TG_init_19 (by decide) ?_
      refine J_top (v' := .int (nI (nrOf a))) (by rw [nrOf, if_neg h]; rfl) ?_
      refine J_widen (c2 := 0) (s2 := 0) (by decide) (by decide) ?_
      exact init0 X H (nrOf_b a).2 (fun v' rg yg ya og oa tr fa hS => ⟨rfl, rg, yg, ya, og, oa, tr, fa, hS⟩)
    · exact absurd rfl g
end IT
