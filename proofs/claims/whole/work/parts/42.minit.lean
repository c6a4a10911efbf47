/-! TwoGenerationsModel() -/
def ExM (v v' : Wd) (m : Nat) : Prop := (∀ b d, wK v b = some d → wK v' b = some d ∧ (b ≠ m → ∀ k, wI v' b k = wI v b k ∧ wP v' b k = wP v b k ∧ wL v' b k = wL v b k)) ∧ ∀ b, wK v b = none → wK v' b = none ∨ ∃ t n, t < 3 ∧ wK v' b = some (.inr (t, n))
theorem ExM_refl (v : Wd) (m : Nat) : ExM v v m := ⟨fun _ _ h => ⟨h, fun _ _ => ⟨rfl, rfl, rfl⟩⟩, fun _ h => Or.inl h⟩
theorem ExM_trans {v v' v'' : Wd} {m : Nat} (h1 : ExM v v' m) (h2 : ExM v' v'' m) : ExM v v'' m := by
  refine ⟨fun b d hb => ?_, fun b hb => ?_⟩
  · obtain ⟨a1, a2⟩ := h1.1 b d hb
    obtain ⟨b1, b2⟩ := h2.1 b d a1
    exact ⟨b1, fun hm k => ⟨(b2 hm k).1.trans (a2 hm k).1, (b2 hm k).2.1.trans (a2 hm k).2.1, (b2 hm k).2.2.trans (a2 hm k).2.2⟩⟩
  · rcases h1.2 b hb with h | ⟨t, n, ht, h⟩
    · exact h2.2 b h
    · exact Or.inr ⟨t, n, ht, (h2.1 b _ h).1⟩
def AZ (v : Wd) (a t n m : Nat) : Prop := wK v a = some (.inr (t, n)) ∧ (∀ j, wI v a j = 0) ∧ (∀ j, wL v a j = 0) ∧ a ≠ m
theorem AZ_ex {v v' : Wd} {a t n m : Nat} (h : ExM v v' m) (H : AZ v a t n m) : AZ v' a t n m := by
  obtain ⟨a1, a2⟩ := h.1 a _ H.1
  exact ⟨a1, fun j => (a2 H.2.2.2 j).1.trans (H.2.1 j), fun j => (a2 H.2.2.2 j).2.2.trans (H.2.2.1 j), H.2.2.2⟩
theorem mstep {v : Wd} {m a t n : Nat} (k : Nat) (hm : wK v m = some (.inl 6)) (ha : wK v a = none) (ht : t < 3) : ExM v (uP (uN v a (.inr (t, n))) m k (some a)) m ∧ AZ (uP (uN v a (.inr (t, n))) m k (some a)) a t n m ∧ wP (uP (uN v a (.inr (t, n))) m k (some a)) m k = some a ∧ (∀ j, j ≠ k → wP (uP (uN v a (.inr (t, n))) m k (some a)) m j = wP v m j) ∧ (∀ j, wI (uP (uN v a (.inr (t, n))) m k (some a)) m j = wI v m j) ∧ wK (uP (uN v a (.inr (t, n))) m k (some a)) m = some (.inl 6) := by
  have hma := ne_new hm ha
  refine ⟨⟨fun b d hb => ?_, fun b hb => ?_⟩, ⟨?_, fun j => ?_, fun j => ?_, Ne.symm hma⟩, ?_, fun j hj => ?_, fun j => ?_, ?_⟩
  · have := ne_new hb ha
    exact ⟨by rw [wK_uP, wK_uN, if_neg this]; exact hb, fun hbm k' => ⟨by rw [wI_uP, wI_uN, if_neg this], by rw [wP_uP, if_neg (fun q => hbm q.1), wP_uN, if_neg this], by rw [wL_uP, wL_uN, if_neg this]⟩⟩
  · by_cases e : b = a
    · exact Or.inr ⟨t, n, ht, by rw [wK_uP, wK_uN, if_pos e]⟩
    · exact Or.inl (by rw [wK_uP, wK_uN, if_neg e]; exact hb)
  · rw [wK_uP, wK_uN, if_pos rfl]
  · rw [wI_uP, wI_uN, if_pos rfl]
  · rw [wL_uP, wL_uN, if_pos rfl]
  · rw [wP_uP, if_pos ⟨rfl, rfl⟩]
  · rw [wP_uP, if_neg (fun q => hj q.2), wP_uN, if_neg hma]
  · rw [wI_uP, wI_uN, if_neg hma]
  · rw [wK_uP, wK_uN, if_neg hma]; exact hm
def MZ (v : Wd) (m re th ol sz am fd rc : Nat) : Prop := wK v m = some (.inl 6) ∧ (wP v m 4 = some re ∧ wP v m 5 = some th ∧ wP v m 6 = some ol ∧ wP v m 7 = some sz ∧ wP v m 8 = some am ∧ wP v m 9 = some fd ∧ wP v m 10 = some rc) ∧ AZ v re 2 8 m ∧ AZ v th 1 200 m ∧ AZ v ol 1 200 m ∧ AZ v sz 0 200 m ∧ AZ v am 0 200 m ∧ AZ v fd 2 2200 m ∧ AZ v rc 1 200 m ∧ (th ≠ ol ∧ th ≠ rc ∧ ol ≠ rc ∧ sz ≠ am) ∧ wI v m 11 = 0 ∧ wI v m 12 = 0
def miW (v : Wd) (m re nr ly lo : Nat) : Wd := aL (uI (uI (uI v m 1 (nI nr)) m 2 (nI ly)) m 3 (nI lo)) re 0 8 1099511627776
section MI
variable {l : Launch} {Δ : Dat} {w v w0 : Wd} {Γ : Cxt} {m re th ol sz am fd rc nr ly lo : Nat} {a b c : Int32} {post : Option Value → Wd → Prop}
set_option maxRecDepth 100000 in
theorem mi3 (X : Cx Γ Δ (AE Γ w0) l c_Mo_init "TwoGenerationsModel" 5 (rmL 1 7 3208) none "<init>") (hm : wK v m = some (.inl 6)) (h4 : wP v m 4 = some re) (kre : wK v re = some (.inr (2, 8))) (hp : post none (aL (uI v m 3 (nI lo)) re 0 8 1099511627776)) :
    J Γ Δ (AE Γ w0) 5 v 7 3208 (QE Γ Δ w0 post (rmL 1 7 3208)) 125 [some (.ref m), some (.int a), some (.int b), some (.int c), none] [.int (nI lo), .ref m] := by
  refine J_putI X (hm) fp_Mo_40_6 rfl d_Mo_init_125 ?_
  refine J_iconst (v := 0) X d_Mo_init_128 (by decide) ?_
  refine J_istore X d_Mo_init_129 (by decide) rfl ?_
  have loop : ∀ (k j : Nat), k + j = 8 → J Γ Δ (AE Γ w0) 5 (aL (uI v m 3 (nI lo)) re 0 j 1099511627776) 7 3208 (QE Γ Δ w0 post (rmL 1 7 3208)) 131 [some (.ref m), some (.int a), some (.int b), some (.int c), some (.int (nI j))] [] := by
    intro k
    induction k with
    | zero =>
      intro j hj
      have hj' : j = 8 := by omega
      subst hj'
      refine J_iload X d_Mo_init_131 rfl ?_
      refine J_bipush (v := 8) X d_Mo_init_133 (by decide) ?_
      refine J_icmp_ge (tgt := 154) X d_Mo_init_135 (by decide) (fun g => ?_) (fun g => ?_)
      · exact J_vret X hp (by decide) (by decide) d_Mo_init_154
      · exact absurd (by decide) g
    | succ k ih =>
      intro j hj
      refine J_iload X d_Mo_init_131 rfl ?_
      refine J_bipush (v := 8) X d_Mo_init_133 (by decide) ?_
      refine J_icmp_ge (tgt := 154) X d_Mo_init_135 (by decide) (fun g => ?_) (fun g => ?_)
      · exact absurd g (by rw [show (8 : Int32) = nI 8 from rfl]; exact nI_ge (by omega) (by omega))
      · first | refine J_aload_nr X d_Mo_init_138 rfl rfl ?_ | refine J_aload_n X d_Mo_init_138 rfl rfl ?_ | refine J_aload_n0 X d_Mo_init_138 rfl rfl ?_
        refine J_getR X (hm) fa_Mo_7_6 rfl (h4) d_Mo_init_139 ?_
        refine J_iload X d_Mo_init_142 rfl ?_
        refine J_ldc2 X d_Mo_init_144 m_474 ?_
        refine J_last X (kre) (by decide) rfl rfl (rfl) (by omega) (by decide) d_Mo_init_147 ?_
        refine J_iinc X d_Mo_init_148 rfl (by decide) (nI_s j) rfl ?_
        refine J_goto (tgt := 131) X d_Mo_init_151 (by decide) ?_
        refine J_eq (w' := aL (uI v m 3 (nI lo)) re 0 (j + 1) 1099511627776) (by have := aL_step (uI v m 3 (nI lo)) re 0 j 1099511627776; rw [Nat.zero_add] at this; exact this) rfl ?_
        exact ih (j + 1) (by omega)
  exact J_eq (aL_zero _ re _ _).symm rfl (loop 8 0 rfl)
set_option maxRecDepth 100000 in
theorem mi2 (X : Cx Γ Δ (AE Γ w0) l c_Mo_init "TwoGenerationsModel" 5 (rmL 1 7 3208) none "<init>") (hm : wK v m = some (.inl 6)) (h4 : wP v m 4 = some re) (kre : wK v re = some (.inr (2, 8))) (hp : post none (aL (uI (uI v m 2 (nI ly)) m 3 (nI (loOf c))) re 0 8 1099511627776)) :
    J Γ Δ (AE Γ w0) 5 v 7 3208 (QE Γ Δ w0 post (rmL 1 7 3208)) 104 [some (.ref m), some (.int a), some (.int b), some (.int c), none] [.int (nI ly), .ref m] := by
  refine J_putI X (hm) fp_Mo_37_6 rfl d_Mo_init_104 ?_
  first | refine J_aload_nr X d_Mo_init_107 rfl rfl ?_ | refine J_aload_n X d_Mo_init_107 rfl rfl ?_ | refine J_aload_n0 X d_Mo_init_107 rfl rfl ?_
  refine J_iload_n X d_Mo_init_108 rfl rfl ?_
  refine J_iconst (v := 4) X d_Mo_init_109 (by decide) ?_
  refine J_icmp_lt (tgt := 123) X d_Mo_init_110 (by decide) (fun g => ?_) (fun g => ?_)
  · refine J_bipush (v := 40) X d_Mo_init_123 (by decide) ?_
    refine J_top (v' := .int (nI (loOf c))) (by rw [loOf, if_neg (fun q => Int32.not_le.mpr g q.1)]; rfl) ?_
    exact mi3 X hm h4 kre hp
  · refine J_iload_n X d_Mo_init_113 rfl rfl ?_
    refine J_bipush (v := 120) X d_Mo_init_114 (by decide) ?_
    refine J_icmp_gt (tgt := 123) X d_Mo_init_116 (by decide) (fun g2 => ?_) (fun g2 => ?_)
    · refine J_bipush (v := 40) X d_Mo_init_123 (by decide) ?_
      refine J_top (v' := .int (nI (loOf c))) (by rw [loOf, if_neg (fun q => Int32.not_le.mpr g2 q.2)]; rfl) ?_
      exact mi3 X hm h4 kre hp
    · refine J_iload_n X d_Mo_init_119 rfl rfl ?_
      refine J_goto (tgt := 125) X d_Mo_init_120 (by decide) ?_
      have hc : 4 ≤ c ∧ c ≤ 120 := ⟨Int32.not_lt.mp g, Int32.not_lt.mp g2⟩
      refine J_top (v' := .int (nI (loOf c))) (by rw [loOf, if_pos hc, ← (pick_of (m := 4) (n := 120) rfl rfl (by decide) (by decide) hc).1]) ?_
      exact mi3 X hm h4 kre hp
set_option maxRecDepth 100000 in
theorem mi1 (X : Cx Γ Δ (AE Γ w0) l c_Mo_init "TwoGenerationsModel" 5 (rmL 1 7 3208) none "<init>") (hm : wK v m = some (.inl 6)) (h4 : wP v m 4 = some re) (kre : wK v re = some (.inr (2, 8))) (hp : post none (miW v m re nr (lyOf b) (loOf c))) :
    J Γ Δ (AE Γ w0) 5 v 7 3208 (QE Γ Δ w0 post (rmL 1 7 3208)) 83 [some (.ref m), some (.int a), some (.int b), some (.int c), none] [.int (nI nr), .ref m] := by
  refine J_putI X (hm) fp_Mo_33_6 rfl d_Mo_init_83 ?_
  first | refine J_aload_nr X d_Mo_init_86 rfl rfl ?_ | refine J_aload_n X d_Mo_init_86 rfl rfl ?_ | refine J_aload_n0 X d_Mo_init_86 rfl rfl ?_
  refine J_iload_n X d_Mo_init_87 rfl rfl ?_
  refine J_iconst (v := 4) X d_Mo_init_88 (by decide) ?_
  refine J_icmp_lt (tgt := 102) X d_Mo_init_89 (by decide) (fun g => ?_) (fun g => ?_)
  · refine J_bipush (v := 16) X d_Mo_init_102 (by decide) ?_
    refine J_top (v' := .int (nI (lyOf b))) (by rw [lyOf, if_neg (fun q => Int32.not_le.mpr g q.1)]; rfl) ?_
    exact mi2 X hm h4 kre hp
  · refine J_iload_n X d_Mo_init_92 rfl rfl ?_
    refine J_bipush (v := 60) X d_Mo_init_93 (by decide) ?_
    refine J_icmp_gt (tgt := 102) X d_Mo_init_95 (by decide) (fun g2 => ?_) (fun g2 => ?_)
    · refine J_bipush (v := 16) X d_Mo_init_102 (by decide) ?_
      refine J_top (v' := .int (nI (lyOf b))) (by rw [lyOf, if_neg (fun q => Int32.not_le.mpr g2 q.2)]; rfl) ?_
      exact mi2 X hm h4 kre hp
    · refine J_iload_n X d_Mo_init_98 rfl rfl ?_
      refine J_goto (tgt := 104) X d_Mo_init_99 (by decide) ?_
      have hc : 4 ≤ b ∧ b ≤ 60 := ⟨Int32.not_lt.mp g, Int32.not_lt.mp g2⟩
      refine J_top (v' := .int (nI (lyOf b))) (by rw [lyOf, if_pos hc, ← (pick_of (m := 4) (n := 60) rfl rfl (by decide) (by decide) hc).1]) ?_
      exact mi2 X hm h4 kre hp
set_option maxRecDepth 100000 in
theorem mi0 (X : Cx Γ Δ (AE Γ w0) l c_Mo_init "TwoGenerationsModel" 5 (rmL 1 7 3208) none "<init>") (hm : wK v m = some (.inl 6)) (h4 : wP v m 4 = some re) (kre : wK v re = some (.inr (2, 8))) (hp : post none (miW v m re (nrOf a) (lyOf b) (loOf c))) :
    J Γ Δ (AE Γ w0) 5 v 7 3208 (QE Γ Δ w0 post (rmL 1 7 3208)) 66 [some (.ref m), some (.int a), some (.int b), some (.int c), none] [] := by
  first | refine J_aload_nr X d_Mo_init_66 rfl rfl ?_ | refine J_aload_n X d_Mo_init_66 rfl rfl ?_ | refine J_aload_n0 X d_Mo_init_66 rfl rfl ?_
  refine J_iload_n X d_Mo_init_67 rfl rfl ?_
  refine J_iconst (v := 1) X d_Mo_init_68 (by decide) ?_
  refine J_icmp_lt (tgt := 82) X d_Mo_init_69 (by decide) (fun g => ?_) (fun g => ?_)
  · refine J_iconst (v := 4) X d_Mo_init_82 (by decide) ?_
    refine J_top (v' := .int (nI (nrOf a))) (by rw [nrOf, if_neg (fun q => Int32.not_le.mpr g q.1)]; rfl) ?_
    exact mi1 X hm h4 kre hp
  · refine J_iload_n X d_Mo_init_72 rfl rfl ?_
    refine J_bipush (v := 8) X d_Mo_init_73 (by decide) ?_
    refine J_icmp_gt (tgt := 82) X d_Mo_init_75 (by decide) (fun g2 => ?_) (fun g2 => ?_)
    · refine J_iconst (v := 4) X d_Mo_init_82 (by decide) ?_
      refine J_top (v' := .int (nI (nrOf a))) (by rw [nrOf, if_neg (fun q => Int32.not_le.mpr g2 q.2)]; rfl) ?_
      exact mi1 X hm h4 kre hp
    · refine J_iload_n X d_Mo_init_78 rfl rfl ?_
      refine J_goto (tgt := 83) X d_Mo_init_79 (by decide) ?_
      have hc : 1 ≤ a ∧ a ≤ 8 := ⟨Int32.not_lt.mp g, Int32.not_lt.mp g2⟩
      refine J_top (v' := .int (nI (nrOf a))) (by rw [nrOf, if_pos hc, ← (pick_of (m := 1) (n := 8) rfl rfl (by decide) (by decide) hc).1]) ?_
      exact mi1 X hm h4 kre hp
set_option maxRecDepth 100000 in
set_option maxHeartbeats 1000000 in
theorem k_Mo_init (k0 : wK w m = some (.inl 6)) (h11 : wI w m 11 = 0) (h12 : wI w m 12 = 0) : Ct l y_Mo_init h_Mo_init (rmL 1 7 3208) Δ [.ref m, .int a, .int b, .int c] w (fun q w' => q = none ∧ ∃ re th ol sz am fd rc v, MZ v m re th ol sz am fd rc ∧ ExM w v m ∧ w' = miW v m re (nrOf a) (lyOf b) (loOf c)) := by
  refine Ct_of (L := [some (.ref m), some (.int a), some (.int b), some (.int c), none]) (by decide) (by first | exact Nat.le_of_ble_eq_true rfl | simp [lg_sl, va_rf_cat, vc_r, vc_i, vc_0]) (by first | rfl | simp [lin, va_rf_cat, vc_r, vc_i, vc_0]) (fun Γ X => ?_)
  first | refine J_aload_nr X d_Mo_init_0 rfl rfl ?_ | refine J_aload_n X d_Mo_init_0 rfl rfl ?_ | refine J_aload_n0 X d_Mo_init_0 rfl rfl ?_
  refine J_objInit X m_473 m_48 m_49 (by decide) (by decide) (by first | decide | simp [va_rf_cat, vc_r, vc_i, vc_0]) d_Mo_init_1 ?_
  first | refine J_aload_nr X d_Mo_init_4 rfl rfl ?_ | refine J_aload_n X d_Mo_init_4 rfl rfl ?_ | refine J_aload_n0 X d_Mo_init_4 rfl rfl ?_
  refine J_bipush (v := 8) X d_Mo_init_5 (by decide) ?_
  refine J_newl (t := 2) (n := 8) X rfl (by decide) rfl rfl m_515 rfl (by decide) (by decide) (by decide) d_Mo_init_7 (fun re hq0 => ?_)
  first | refine J_putPFr X (by rw [wK_uN, if_neg (ne_new k0 hq0)]; exact k0) ff_Mo_7_6 rfl (Or.inr ⟨_, rfl⟩) rfl d_Mo_init_9 ?_ | refine J_putPF X (by rw [wK_uN, if_neg (ne_new k0 hq0)]; exact k0) ff_Mo_7_6 rfl (Or.inr ⟨_, rfl⟩) rfl d_Mo_init_9 ?_ | refine J_putPF0 X (by rw [wK_uN, if_neg (ne_new k0 hq0)]; exact k0) ff_Mo_7_6 rfl (Or.inr ⟨_, rfl⟩) rfl d_Mo_init_9 ?_
  obtain ⟨x0, z0, p0, o0, n0, k1⟩ := mstep (n := 8) 4 k0 hq0 (show 2 < 3 by decide)
  generalize uP (uN w re (.inr (2, 8))) m 4 (some re) = v1 at x0 z0 p0 o0 n0 k1 ⊢
  first | refine J_aload_nr X d_Mo_init_12 rfl rfl ?_ | refine J_aload_n X d_Mo_init_12 rfl rfl ?_ | refine J_aload_n0 X d_Mo_init_12 rfl rfl ?_
  refine J_sipush (v := 200) X d_Mo_init_13 (by decide) ?_
  refine J_newz (t := 1) (n := 200) X rfl (by decide) rfl rfl m_516 rfl (by decide) (by decide) (by decide) d_Mo_init_16 (fun th hq1 => ?_)
  first | refine J_putPFr X (by rw [wK_uN, if_neg (ne_new k1 hq1)]; exact k1) ff_Mo_13_6 rfl (Or.inr ⟨_, rfl⟩) rfl d_Mo_init_18 ?_ | refine J_putPF X (by rw [wK_uN, if_neg (ne_new k1 hq1)]; exact k1) ff_Mo_13_6 rfl (Or.inr ⟨_, rfl⟩) rfl d_Mo_init_18 ?_ | refine J_putPF0 X (by rw [wK_uN, if_neg (ne_new k1 hq1)]; exact k1) ff_Mo_13_6 rfl (Or.inr ⟨_, rfl⟩) rfl d_Mo_init_18 ?_
  obtain ⟨x1, z1, p1, o1, n1, k2⟩ := mstep (n := 200) 5 k1 hq1 (show 1 < 3 by decide)
  generalize uP (uN v1 th (.inr (1, 200))) m 5 (some th) = v2 at x1 z1 p1 o1 n1 k2 ⊢
  first | refine J_aload_nr X d_Mo_init_21 rfl rfl ?_ | refine J_aload_n X d_Mo_init_21 rfl rfl ?_ | refine J_aload_n0 X d_Mo_init_21 rfl rfl ?_
  refine J_sipush (v := 200) X d_Mo_init_22 (by decide) ?_
  refine J_newz (t := 1) (n := 200) X rfl (by decide) rfl rfl m_516 rfl (by decide) (by decide) (by decide) d_Mo_init_25 (fun ol hq2 => ?_)
  first | refine J_putPFr X (by rw [wK_uN, if_neg (ne_new k2 hq2)]; exact k2) ff_Mo_17_6 rfl (Or.inr ⟨_, rfl⟩) rfl d_Mo_init_27 ?_ | refine J_putPF X (by rw [wK_uN, if_neg (ne_new k2 hq2)]; exact k2) ff_Mo_17_6 rfl (Or.inr ⟨_, rfl⟩) rfl d_Mo_init_27 ?_ | refine J_putPF0 X (by rw [wK_uN, if_neg (ne_new k2 hq2)]; exact k2) ff_Mo_17_6 rfl (Or.inr ⟨_, rfl⟩) rfl d_Mo_init_27 ?_
  obtain ⟨x2, z2, p2, o2, n2, k3⟩ := mstep (n := 200) 6 k2 hq2 (show 1 < 3 by decide)
  generalize uP (uN v2 ol (.inr (1, 200))) m 6 (some ol) = v3 at x2 z2 p2 o2 n2 k3 ⊢
  first | refine J_aload_nr X d_Mo_init_30 rfl rfl ?_ | refine J_aload_n X d_Mo_init_30 rfl rfl ?_ | refine J_aload_n0 X d_Mo_init_30 rfl rfl ?_
  refine J_sipush (v := 200) X d_Mo_init_31 (by decide) ?_
  refine J_newi (t := 0) (n := 200) X rfl (by decide) rfl rfl m_517 rfl (by decide) (by decide) (by decide) d_Mo_init_34 (fun sz hq3 => ?_)
  first | refine J_putPFr X (by rw [wK_uN, if_neg (ne_new k3 hq3)]; exact k3) ff_Mo_20_6 rfl (Or.inr ⟨_, rfl⟩) rfl d_Mo_init_36 ?_ | refine J_putPF X (by rw [wK_uN, if_neg (ne_new k3 hq3)]; exact k3) ff_Mo_20_6 rfl (Or.inr ⟨_, rfl⟩) rfl d_Mo_init_36 ?_ | refine J_putPF0 X (by rw [wK_uN, if_neg (ne_new k3 hq3)]; exact k3) ff_Mo_20_6 rfl (Or.inr ⟨_, rfl⟩) rfl d_Mo_init_36 ?_
  obtain ⟨x3, z3, p3, o3, n3, k4⟩ := mstep (n := 200) 7 k3 hq3 (show 0 < 3 by decide)
  generalize uP (uN v3 sz (.inr (0, 200))) m 7 (some sz) = v4 at x3 z3 p3 o3 n3 k4 ⊢
  first | refine J_aload_nr X d_Mo_init_39 rfl rfl ?_ | refine J_aload_n X d_Mo_init_39 rfl rfl ?_ | refine J_aload_n0 X d_Mo_init_39 rfl rfl ?_
  refine J_sipush (v := 200) X d_Mo_init_40 (by decide) ?_
  refine J_newi (t := 0) (n := 200) X rfl (by decide) rfl rfl m_517 rfl (by decide) (by decide) (by decide) d_Mo_init_43 (fun am hq4 => ?_)
  first | refine J_putPFr X (by rw [wK_uN, if_neg (ne_new k4 hq4)]; exact k4) ff_Mo_24_6 rfl (Or.inr ⟨_, rfl⟩) rfl d_Mo_init_45 ?_ | refine J_putPF X (by rw [wK_uN, if_neg (ne_new k4 hq4)]; exact k4) ff_Mo_24_6 rfl (Or.inr ⟨_, rfl⟩) rfl d_Mo_init_45 ?_ | refine J_putPF0 X (by rw [wK_uN, if_neg (ne_new k4 hq4)]; exact k4) ff_Mo_24_6 rfl (Or.inr ⟨_, rfl⟩) rfl d_Mo_init_45 ?_
  obtain ⟨x4, z4, p4, o4, n4, k5⟩ := mstep (n := 200) 8 k4 hq4 (show 0 < 3 by decide)
  generalize uP (uN v4 am (.inr (0, 200))) m 8 (some am) = v5 at x4 z4 p4 o4 n4 k5 ⊢
  first | refine J_aload_nr X d_Mo_init_48 rfl rfl ?_ | refine J_aload_n X d_Mo_init_48 rfl rfl ?_ | refine J_aload_n0 X d_Mo_init_48 rfl rfl ?_
  refine J_sipush (v := 2200) X d_Mo_init_49 (by decide) ?_
  refine J_newl (t := 2) (n := 2200) X rfl (by decide) rfl rfl m_515 rfl (by decide) (by decide) (by decide) d_Mo_init_52 (fun fd hq5 => ?_)
  first | refine J_putPFr X (by rw [wK_uN, if_neg (ne_new k5 hq5)]; exact k5) ff_Mo_27_6 rfl (Or.inr ⟨_, rfl⟩) rfl d_Mo_init_54 ?_ | refine J_putPF X (by rw [wK_uN, if_neg (ne_new k5 hq5)]; exact k5) ff_Mo_27_6 rfl (Or.inr ⟨_, rfl⟩) rfl d_Mo_init_54 ?_ | refine J_putPF0 X (by rw [wK_uN, if_neg (ne_new k5 hq5)]; exact k5) ff_Mo_27_6 rfl (Or.inr ⟨_, rfl⟩) rfl d_Mo_init_54 ?_
  obtain ⟨x5, z5, p5, o5, n5, k6⟩ := mstep (n := 2200) 9 k5 hq5 (show 2 < 3 by decide)
  generalize uP (uN v5 fd (.inr (2, 2200))) m 9 (some fd) = v6 at x5 z5 p5 o5 n5 k6 ⊢
  first | refine J_aload_nr X d_Mo_init_57 rfl rfl ?_ | refine J_aload_n X d_Mo_init_57 rfl rfl ?_ | refine J_aload_n0 X d_Mo_init_57 rfl rfl ?_
  refine J_sipush (v := 200) X d_Mo_init_58 (by decide) ?_
  refine J_newz (t := 1) (n := 200) X rfl (by decide) rfl rfl m_516 rfl (by decide) (by decide) (by decide) d_Mo_init_61 (fun rc hq6 => ?_)
  first | refine J_putPFr X (by rw [wK_uN, if_neg (ne_new k6 hq6)]; exact k6) ff_Mo_30_6 rfl (Or.inr ⟨_, rfl⟩) rfl d_Mo_init_63 ?_ | refine J_putPF X (by rw [wK_uN, if_neg (ne_new k6 hq6)]; exact k6) ff_Mo_30_6 rfl (Or.inr ⟨_, rfl⟩) rfl d_Mo_init_63 ?_ | refine J_putPF0 X (by rw [wK_uN, if_neg (ne_new k6 hq6)]; exact k6) ff_Mo_30_6 rfl (Or.inr ⟨_, rfl⟩) rfl d_Mo_init_63 ?_
  obtain ⟨x6, z6, p6, o6, n6, k7⟩ := mstep (n := 200) 10 k6 hq6 (show 1 < 3 by decide)
  generalize uP (uN v6 rc (.inr (1, 200))) m 10 (some rc) = v7 at x6 z6 p6 o6 n6 k7 ⊢
  have HZ : MZ v7 m re th ol sz am fd rc := ⟨k7, ⟨(o6 4 (by decide)).trans ((o5 4 (by decide)).trans ((o4 4 (by decide)).trans ((o3 4 (by decide)).trans ((o2 4 (by decide)).trans ((o1 4 (by decide)).trans (p0)))))), (o6 5 (by decide)).trans ((o5 5 (by decide)).trans ((o4 5 (by decide)).trans ((o3 5 (by decide)).trans ((o2 5 (by decide)).trans (p1))))), (o6 6 (by decide)).trans ((o5 6 (by decide)).trans ((o4 6 (by decide)).trans ((o3 6 (by decide)).trans (p2)))), (o6 7 (by decide)).trans ((o5 7 (by decide)).trans ((o4 7 (by decide)).trans (p3))), (o6 8 (by decide)).trans ((o5 8 (by decide)).trans (p4)), (o6 9 (by decide)).trans (p5), p6⟩, AZ_ex x6 (AZ_ex x5 (AZ_ex x4 (AZ_ex x3 (AZ_ex x2 (AZ_ex x1 (z0)))))), AZ_ex x6 (AZ_ex x5 (AZ_ex x4 (AZ_ex x3 (AZ_ex x2 (z1))))), AZ_ex x6 (AZ_ex x5 (AZ_ex x4 (AZ_ex x3 (z2)))), AZ_ex x6 (AZ_ex x5 (AZ_ex x4 (z3))), AZ_ex x6 (AZ_ex x5 (z4)), AZ_ex x6 (z5), z6, ⟨ne_new (z1).1 hq2, ne_new (AZ_ex x5 (AZ_ex x4 (AZ_ex x3 (AZ_ex x2 (z1))))).1 hq6, ne_new (AZ_ex x5 (AZ_ex x4 (AZ_ex x3 (z2)))).1 hq6, ne_new (z3).1 hq4⟩, (n6 11).trans ((n5 11).trans ((n4 11).trans ((n3 11).trans ((n2 11).trans ((n1 11).trans ((n0 11).trans (h11))))))), (n6 12).trans ((n5 12).trans ((n4 12).trans ((n3 12).trans ((n2 12).trans ((n1 12).trans ((n0 12).trans (h12)))))))⟩
  refine J_widen (c2 := 7) (s2 := 3208) (by decide) (by decide) ?_
  exact mi0 X k7 HZ.2.1.1 HZ.2.2.1.1 ⟨rfl, re, th, ol, sz, am, fd, rc, v7, HZ, ExM_trans (ExM_trans (ExM_trans (ExM_trans (ExM_trans (ExM_trans (x0) x1) x2) x3) x4) x5) x6, rfl⟩
end MI
