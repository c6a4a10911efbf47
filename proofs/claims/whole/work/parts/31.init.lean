/-! the class's constructors -/
def nrOf (a : Int32) : Nat := if 1 ≤ a ∧ a ≤ 8 then a.toNatClampNeg else 4
def lyOf (a : Int32) : Nat := if 4 ≤ a ∧ a ≤ 60 then a.toNatClampNeg else 16
def loOf (a : Int32) : Nat := if 4 ≤ a ∧ a ≤ 120 then a.toNatClampNeg else 40
theorem pick_of {a lo hi : Int32} {m n : Nat} (hl : lo = nI m) (hh : hi = nI n) (hm : n < 2 ^ 31) (hmn : m < 2 ^ 31) (h : lo ≤ a ∧ a ≤ hi) : a = nI a.toNatClampNeg ∧ m ≤ a.toNatClampNeg ∧ a.toNatClampNeg ≤ n := by
  subst hl; subst hh
  have h0 : ¬ a < 0 := fun q => absurd (Int32.lt_of_le_of_lt h.1 q) (nI_pos hmn)
  obtain ⟨j, hj, rfl⟩ := nI_of h0
  rw [nI_clamp hj]
  exact ⟨rfl, (nI_leI hmn hj).mp h.1, (nI_leI hj hm).mp h.2⟩
theorem nrOf_b (a : Int32) : 1 ≤ nrOf a ∧ nrOf a ≤ 8 := by
  unfold nrOf
  split
  · rename_i h; exact (pick_of (m := 1) (n := 8) rfl rfl (by decide) (by decide) h).2
  · decide
theorem lyOf_b (a : Int32) : 4 ≤ lyOf a ∧ lyOf a ≤ 60 := by
  unfold lyOf
  split
  · rename_i h; exact (pick_of (m := 4) (n := 60) rfl rfl (by decide) (by decide) h).2
  · decide
theorem loOf_b (a : Int32) : 4 ≤ loOf a ∧ loOf a ≤ 120 := by
  unfold loOf
  split
  · rename_i h; exact (pick_of (m := 4) (n := 120) rfl rfl (by decide) (by decide) h).2
  · decide
/-- no thing is there -/
def NoT (w : Wd) : Prop := ∀ t ci, ci = 3 ∨ ci = 4 → wK w t ≠ some (.inl ci)
/-- all stays but one reference of x -/
def ExX (v v' : Wd) (x k0 : Nat) : Prop := ∀ b d, wK v b = some d → wK v' b = some d ∧ ∀ k, wI v' b k = wI v b k ∧ (b ≠ x ∨ k ≠ k0 → wP v' b k = wP v b k)
def genN (v : Wd) (g ga m : Nat) : Wd := uP (uN (uI (uN v g (.inl 1)) g 0 (nI m)) ga (.inr (4, m))) g 1 (some ga)
def trN (v : Wd) (g ga m : Nat) : Wd := uP (uN (uN v g (.inl 2)) ga (.inr (4, m))) g 0 (some ga)
def GenF (v : Wd) (g ga m : Nat) : Prop := wK v g = some (.inl 1) ∧ wP v g 1 = some ga ∧ wK v ga = some (.inr (4, m)) ∧ wI v g 0 = nI m ∧ wI v g 2 = 0 ∧ wI v g 3 = 0
def S0 (w v : Wd) (x : Nat) : Prop := wK v x = some (.inl 0) ∧ wI v x 4 = 0 ∧ wI v x 5 = 0 ∧ NoT v ∧ FrC w v
def S1 (w v : Wd) (x rg nr : Nat) : Prop := S0 w v x ∧ wP v x 0 = some rg ∧ wK v rg = some (.inr (3, nr)) ∧ ∀ k, wP v rg k = none
def S2 (w v : Wd) (x rg nr yg ya ly : Nat) : Prop := S1 w v x rg nr ∧ wP v x 1 = some yg ∧ GenF v yg ya ly
def S3 (w v : Wd) (x rg nr yg ya ly og oa lo : Nat) : Prop := S2 w v x rg nr yg ya ly ∧ wP v x 2 = some og ∧ GenF v og oa lo ∧ yg ≠ og ∧ ya ≠ oa
def S4 (w v : Wd) (x rg nr yg ya ly og oa lo tr fa : Nat) : Prop := S3 w v x rg nr yg ya ly og oa lo ∧ wP v x 3 = some tr ∧ wK v tr = some (.inl 2) ∧ wP v tr 0 = some fa ∧ wK v fa = some (.inr (4, ly + lo)) ∧ wI v tr 1 = 0 ∧ ya ≠ fa ∧ oa ≠ fa
section IN
variable {l : Launch} {Δ : Dat} {w v v' : Wd} {x rg nr yg ya ly og oa lo tr fa k0 g ga m : Nat}
theorem GenF_ex (h : ExX v v' x k0) (hx : wK v x = some (.inl 0)) (H : GenF v g ga m) : GenF v' g ga m := by
  obtain ⟨a1, a2, a3, a4, a5, a6⟩ := H
  have hgx : g ≠ x := fun e => by rw [e, hx] at a1; cases a1
  exact ⟨(h _ _ a1).1, (((h _ _ a1).2 1).2 (Or.inl hgx)).trans a2, (h _ _ a3).1, ((h _ _ a1).2 0).1.trans a4, ((h _ _ a1).2 2).1.trans a5, ((h _ _ a1).2 3).1.trans a6⟩
theorem S0_ex (h : ExX v v' x k0) (hn : NoT v') (hf : FrC v v') (H : S0 w v x) : S0 w v' x := ⟨(h _ _ H.1).1, ((h _ _ H.1).2 4).1.trans H.2.1, ((h _ _ H.1).2 5).1.trans H.2.2.1, hn, FrC_trans H.2.2.2.2 hf⟩
theorem S1_ex (h : ExX v v' x k0) (hn : NoT v') (hf : FrC v v') (hk : k0 ≠ 0) (H : S1 w v x rg nr) : S1 w v' x rg nr := by
  have hrx : rg ≠ x := fun e => by have := H.2.2.1; rw [e, H.1.1] at this; cases this
  exact ⟨S0_ex h hn hf H.1, (((h _ _ H.1.1).2 0).2 (Or.inr (Ne.symm hk))).trans H.2.1, (h _ _ H.2.2.1).1, fun k => (((h _ _ H.2.2.1).2 k).2 (Or.inl hrx)).trans (H.2.2.2 k)⟩
theorem S2_ex (h : ExX v v' x k0) (hn : NoT v') (hf : FrC v v') (hk : k0 ≠ 0 ∧ k0 ≠ 1) (H : S2 w v x rg nr yg ya ly) : S2 w v' x rg nr yg ya ly :=
  ⟨S1_ex h hn hf hk.1 H.1, (((h _ _ H.1.1.1).2 1).2 (Or.inr (Ne.symm hk.2))).trans H.2.1, GenF_ex h H.1.1.1 H.2.2⟩
theorem S3_ex (h : ExX v v' x k0) (hn : NoT v') (hf : FrC v v') (hk : k0 ≠ 0 ∧ k0 ≠ 1 ∧ k0 ≠ 2) (H : S3 w v x rg nr yg ya ly og oa lo) : S3 w v' x rg nr yg ya ly og oa lo :=
  ⟨S2_ex h hn hf ⟨hk.1, hk.2.1⟩ H.1, (((h _ _ H.1.1.1.1).2 2).2 (Or.inr (Ne.symm hk.2.2))).trans H.2.1, GenF_ex h H.1.1.1.1 H.2.2.1, H.2.2.2⟩
theorem genN_facts (hx : wK v x = some (.inl 0)) (hg : wK v g = none) (hga : wK (uI (uN v g (.inl 1)) g 0 (nI m)) ga = none) (hN : NoT v) : ExX v (uP (genN v g ga m) x k0 (some g)) x k0 ∧ NoT (uP (genN v g ga m) x k0 (some g)) ∧ FrC v (uP (genN v g ga m) x k0 (some g)) ∧ GenF (uP (genN v g ga m) x k0 (some g)) g ga m ∧ wP (uP (genN v g ga m) x k0 (some g)) x k0 = some g := by
  obtain ⟨hne, hga'⟩ := fresh2 hga
  have kK : ∀ b, wK (uP (genN v g ga m) x k0 (some g)) b = if b = ga then some (.inr (4, m)) else if b = g then some (.inl 1) else wK v b := fun _ => rfl
  have kI : ∀ b k, wI (uP (genN v g ga m) x k0 (some g)) b k = if b = ga then 0 else if b = g ∧ k = 0 then nI m else if b = g then 0 else wI v b k := fun _ _ => rfl
  have kP : ∀ b k, wP (uP (genN v g ga m) x k0 (some g)) b k = if b = x ∧ k = k0 then some g else if b = g ∧ k = 1 then some ga else if b = ga then none else if b = g then none else wP v b k := fun _ _ => rfl
  have kL : ∀ b k, wL (uP (genN v g ga m) x k0 (some g)) b k = if b = ga then 0 else if b = g then 0 else wL v b k := fun _ _ => rfl
  have hgx : g ≠ x := fun e => ne_new hx hg e.symm
  have ex : ExX v (uP (genN v g ga m) x k0 (some g)) x k0 := fun b d hb => by
    have h1 := ne_new hb hg
    have h2 := ne_new hb hga'
    refine ⟨by rw [kK, if_neg h2, if_neg h1]; exact hb, fun k => ⟨by rw [kI, if_neg h2, if_neg (fun q => h1 q.1), if_neg h1], fun hk => ?_⟩⟩
    rw [kP, if_neg (fun q => hk.elim (fun h => h q.1) (fun h => h q.2)), if_neg (fun q => h1 q.1), if_neg h2, if_neg h1]
  refine ⟨ex, fun t ci hci h => ?_, fun b d hb hd => ⟨(ex b d hb).1, fun k => ⟨((ex b d hb).2 k).1, ((ex b d hb).2 k).2 (Or.inl (mdl_ne hb hd hx rfl)), by rw [kL, if_neg (ne_new hb hga'), if_neg (ne_new hb hg)]⟩⟩, ⟨by rw [kK, if_neg (Ne.symm hne), if_pos rfl], by rw [kP, if_neg (fun q => hgx q.1), if_pos ⟨rfl, rfl⟩], by rw [kK, if_pos rfl], by rw [kI, if_neg (Ne.symm hne), if_pos ⟨rfl, rfl⟩], by rw [kI, if_neg (Ne.symm hne), if_neg (by simp), if_pos rfl], by rw [kI, if_neg (Ne.symm hne), if_neg (by simp), if_pos rfl]⟩, by rw [kP, if_pos ⟨rfl, rfl⟩]⟩
  rw [kK] at h
  split at h
  · cases h
  · split at h
    · cases h; rcases hci with e | e <;> cases e
    · exact hN t ci hci h
theorem trN_facts (hx : wK v x = some (.inl 0)) (hg : wK v g = none) (hga : wK (uN v g (.inl 2)) ga = none) (hN : NoT v) : ExX v (uP (trN v g ga m) x k0 (some g)) x k0 ∧ NoT (uP (trN v g ga m) x k0 (some g)) ∧ FrC v (uP (trN v g ga m) x k0 (some g)) ∧ wK (uP (trN v g ga m) x k0 (some g)) g = some (.inl 2) ∧ wP (uP (trN v g ga m) x k0 (some g)) g 0 = some ga ∧ wK (uP (trN v g ga m) x k0 (some g)) ga = some (.inr (4, m)) ∧ wI (uP (trN v g ga m) x k0 (some g)) g 1 = 0 ∧ wP (uP (trN v g ga m) x k0 (some g)) x k0 = some g ∧ wK v ga = none := by
  obtain ⟨hne, hga'⟩ := fresh2 (v := 0) hga
  have kK : ∀ b, wK (uP (trN v g ga m) x k0 (some g)) b = if b = ga then some (.inr (4, m)) else if b = g then some (.inl 2) else wK v b := fun _ => rfl
  have kI : ∀ b k, wI (uP (trN v g ga m) x k0 (some g)) b k = if b = ga then 0 else if b = g then 0 else wI v b k := fun _ _ => rfl
  have kP : ∀ b k, wP (uP (trN v g ga m) x k0 (some g)) b k = if b = x ∧ k = k0 then some g else if b = g ∧ k = 0 then some ga else if b = ga then none else if b = g then none else wP v b k := fun _ _ => rfl
  have kL : ∀ b k, wL (uP (trN v g ga m) x k0 (some g)) b k = if b = ga then 0 else if b = g then 0 else wL v b k := fun _ _ => rfl
  have hgx : g ≠ x := fun e => ne_new hx hg e.symm
  have ex : ExX v (uP (trN v g ga m) x k0 (some g)) x k0 := fun b d hb => by
    have h1 := ne_new hb hg
    have h2 := ne_new hb hga'
    refine ⟨by rw [kK, if_neg h2, if_neg h1]; exact hb, fun k => ⟨by rw [kI, if_neg h2, if_neg h1], fun hk => ?_⟩⟩
    rw [kP, if_neg (fun q => hk.elim (fun h => h q.1) (fun h => h q.2)), if_neg (fun q => h1 q.1), if_neg h2, if_neg h1]
  refine ⟨ex, fun t ci hci h => ?_, fun b d hb hd => ⟨(ex b d hb).1, fun k => ⟨((ex b d hb).2 k).1, ((ex b d hb).2 k).2 (Or.inl (mdl_ne hb hd hx rfl)), by rw [kL, if_neg (ne_new hb hga'), if_neg (ne_new hb hg)]⟩⟩, by rw [kK, if_neg (Ne.symm hne), if_pos rfl], by rw [kP, if_neg (fun q => hgx q.1), if_pos ⟨rfl, rfl⟩], by rw [kK, if_pos rfl], by rw [kI, if_neg (Ne.symm hne), if_pos rfl], by rw [kP, if_pos ⟨rfl, rfl⟩], hga'⟩
  rw [kK] at h
  split at h
  · cases h
  · split at h
    · cases h; rcases hci with e | e <;> cases e
    · exact hN t ci hci h
theorem S4_CI (H : S4 w v x rg nr yg ya ly og oa lo tr fa) (hnr : 1 ≤ nr ∧ nr ≤ 8) (hly : 4 ≤ ly ∧ ly ≤ 60) (hlo : 4 ≤ lo ∧ lo ≤ 120) : CI v x rg nr yg ya ly og oa lo tr fa [] [] [] [] := by
  obtain ⟨⟨⟨⟨⟨hx, -, -, hN, -⟩, h0, hrk, hrn⟩, h1, y1, y2, y3, y4, y5, y6⟩, h2, ⟨o1, o2, o3, o4, o5, o6⟩, hgg, hya⟩, h3, htr, htf, hfk, htc, hyf, hof⟩ := H
  have noT : ∀ t, isTb v t = true → False := fun t ht => by
    obtain ⟨ci, hci, hk⟩ := isTb_to ht
    exact hN t ci hci hk
  refine ⟨⟨⟨hx, h0, hrk, hnr.1, by omega⟩, hnr.2, h1, h2, h3, ⟨y1, y2, y3, by omega⟩, ⟨o1, o2, o3, by omega⟩, y4, o4, hly, hlo, htr, htf, hfk, hgg, hya, hyf, hof⟩, ⟨fun t ht => absurd ht (hN t 3 (Or.inl rfl)), fun t _ _ ht => absurd ht (hN t 3 (Or.inl rfl)), fun t ht => absurd ht (hN t 4 (Or.inr rfl)), fun r _ t e => (by rw [hrn] at e; cases e)⟩, ⟨⟨y1, y2, y3, by omega⟩, y5, Nat.zero_le _, fun i t hi => (nomatch hi)⟩, ⟨⟨o1, o2, o3, by omega⟩, o5, Nat.zero_le _, fun i t hi => (nomatch hi)⟩, y6, o6, List.nodup_nil, ⟨Nat.zero_le _, Nat.zero_le _⟩, ⟨htc, Nat.zero_le _, fun i t hi => (nomatch hi), fun t ht => (nomatch ht), fun t ht => (noT t ht).elim⟩, ⟨fun t ht => (nomatch ht), fun t ht => (nomatch ht)⟩, List.nodup_nil, fun t ht => (nomatch ht), fun t ht => (nomatch ht), fun r _ t e => (by rw [hrn] at e; cases e), fun t ht => (nomatch ht), fun t ht => (nomatch ht)⟩
set_option maxRecDepth 100000 in
theorem k_Gen_init {a n : Nat} (ha : wK w a = some (.inl 1)) (hn : n ≤ 120) : Ct l y_Gen_init h_Gen_init (rmL 1 1 120) Δ [.ref a, .int (nI n)] w (fun r w' => r = none ∧ ∃ q, wK (uI w a 0 (nI n)) q = none ∧ w' = uP (uN (uI w a 0 (nI n)) q (.inr (4, n))) a 1 (some q)) := by
  refine Ct_of (L := [some (.ref a), some (.int (nI n))]) (by decide) (by first | exact Nat.le_of_ble_eq_true rfl | simp [lg_sl, va_rf_cat, vc_r, vc_i, vc_0]) (by first | rfl | simp [lin, va_rf_cat, vc_r, vc_i, vc_0]) (fun Γ X => ?_)
  first | refine J_aload_nr X d_Gen_init_0 rfl rfl ?_ | refine J_aload_n X d_Gen_init_0 rfl rfl ?_ | refine J_aload_n0 X d_Gen_init_0 rfl rfl ?_
  refine J_objInit X m_60 m_48 m_49 (by decide) (by decide) (by first | decide | simp [va_rf_cat, vc_r, vc_i, vc_0]) d_Gen_init_1 ?_
  first | refine J_aload_nr X d_Gen_init_4 rfl rfl ?_ | refine J_aload_n X d_Gen_init_4 rfl rfl ?_ | refine J_aload_n0 X d_Gen_init_4 rfl rfl ?_
  refine J_iload_n X d_Gen_init_5 rfl rfl ?_
  refine J_putIF X (ha) ff_Gen_7_1 rfl rfl d_Gen_init_6 ?_
  first | refine J_aload_nr X d_Gen_init_9 rfl rfl ?_ | refine J_aload_n X d_Gen_init_9 rfl rfl ?_ | refine J_aload_n0 X d_Gen_init_9 rfl rfl ?_
  refine J_iload_n X d_Gen_init_10 rfl rfl ?_
  refine J_newq X nq_Gen_13 rfl (by omega) (by decide) (by show 0 + n ≤ 120; omega) d_Gen_init_11 (fun q hq => ?_)
  have hqa : a ≠ q := ne_new (w := uI w a 0 (nI n)) ha hq
  first | refine J_putPFr X (by rw [wK_uN, if_neg hqa]; exact ha) ff_Gen_15_1 rfl (Or.inr ⟨_, rfl⟩) rfl d_Gen_init_14 ?_ | refine J_putPF X (by rw [wK_uN, if_neg hqa]; exact ha) ff_Gen_15_1 rfl (Or.inr ⟨_, rfl⟩) rfl d_Gen_init_14 ?_ | refine J_putPF0 X (by rw [wK_uN, if_neg hqa]; exact ha) ff_Gen_15_1 rfl (Or.inr ⟨_, rfl⟩) rfl d_Gen_init_14 ?_
  exact J_vret X ⟨rfl, q, hq, rfl⟩ (by decide) (by show 0 + n ≤ 120; omega) d_Gen_init_17
set_option maxRecDepth 100000 in
theorem k_Tr_init {a n : Nat} (ha : wK w a = some (.inl 2)) (hn : n ≤ 180) : Ct l y_Tr_init h_Tr_init (rmL 1 1 180) Δ [.ref a, .int (nI n)] w (fun r w' => r = none ∧ ∃ q, wK w q = none ∧ w' = uP (uN w q (.inr (4, n))) a 0 (some q)) := by
  refine Ct_of (L := [some (.ref a), some (.int (nI n))]) (by decide) (by first | exact Nat.le_of_ble_eq_true rfl | simp [lg_sl, va_rf_cat, vc_r, vc_i, vc_0]) (by first | rfl | simp [lin, va_rf_cat, vc_r, vc_i, vc_0]) (fun Γ X => ?_)
  first | refine J_aload_nr X d_Tr_init_0 rfl rfl ?_ | refine J_aload_n X d_Tr_init_0 rfl rfl ?_ | refine J_aload_n0 X d_Tr_init_0 rfl rfl ?_
  refine J_objInit X m_85 m_48 m_49 (by decide) (by decide) (by first | decide | simp [va_rf_cat, vc_r, vc_i, vc_0]) d_Tr_init_1 ?_
  first | refine J_aload_nr X d_Tr_init_4 rfl rfl ?_ | refine J_aload_n X d_Tr_init_4 rfl rfl ?_ | refine J_aload_n0 X d_Tr_init_4 rfl rfl ?_
  refine J_iload_n X d_Tr_init_5 rfl rfl ?_
  refine J_newq X nq_Tr_7 rfl (by omega) (by decide) (by show 0 + n ≤ 180; omega) d_Tr_init_6 (fun q hq => ?_)
  have hqa : a ≠ q := ne_new (w := w) ha hq
  first | refine J_putPFr X (by rw [wK_uN, if_neg hqa]; exact ha) ff_Tr_9_2 rfl (Or.inr ⟨_, rfl⟩) rfl d_Tr_init_9 ?_ | refine J_putPF X (by rw [wK_uN, if_neg hqa]; exact ha) ff_Tr_9_2 rfl (Or.inr ⟨_, rfl⟩) rfl d_Tr_init_9 ?_ | refine J_putPF0 X (by rw [wK_uN, if_neg hqa]; exact ha) ff_Tr_9_2 rfl (Or.inr ⟨_, rfl⟩) rfl d_Tr_init_9 ?_
  exact J_vret X ⟨rfl, q, hq, rfl⟩ (by decide) (by show 0 + n ≤ 180; omega) d_Tr_init_12
end IN
