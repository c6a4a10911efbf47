/-! the law's start: both objects made, nothing in them -/
def wE : Wd := (fun _ => none, fun _ _ => 0, fun _ _ => none, fun _ _ => 0)
section ST
variable {w1 W2 v : Wd} {x rg nr yg ya ly og oa lo tr fa m re th ol sz am fd rc o : Nat}
theorem KS_start (h4 : S4 w1 W2 x rg nr yg ya ly og oa lo tr fa) (hnr : 1 ≤ nr ∧ nr ≤ 8) (hly : 4 ≤ ly ∧ ly ≤ 60) (hlo : 4 ≤ lo ∧ lo ≤ 120) (hm : wK W2 m = none) (hZ : MZ v m re th ol sz am fd rc) (hX : ExM (uN W2 m (.inl 6)) v m) (ho : wK (miW v m re nr ly lo) o = none) : KS (uN (miW v m re nr ly lo) o (.inr (2, 1))) x rg nr yg ya ly og oa lo tr fa m re th ol sz am fd rc o := by
  have H2 := S4_CI h4 hnr hly hlo
  obtain ⟨km, ⟨p4, p5, p6, p7, p8, p9, p10⟩, z4, z5, z6, z7, z8, z9, z10, hne, i11, i12⟩ := hZ
  have hK : ∀ b, wK (miW v m re nr ly lo) b = wK v b := fun _ => rfl
  have ko : wK v o = none := ho
  have neo : ∀ {b : Nat} {d : Kd}, wK v b = some d → b ≠ o := fun h e => by rw [e, ko] at h; cases h
  have kk : ∀ {b : Nat} {d : Kd}, wK v b = some d → wK (uN (miW v m re nr ly lo) o (.inr (2, 1))) b = some d := fun h => by rw [wK_uN, if_neg (neo h)]; exact h
  have iI : ∀ {b k : Nat}, b ≠ m → b ≠ o → wI (uN (miW v m re nr ly lo) o (.inr (2, 1))) b k = wI v b k := fun h1 h2 => by
    rw [wI_uN, if_neg h2]
    show wI (uI (uI (uI v m 1 (nI nr)) m 2 (nI ly)) m 3 (nI lo)) _ _ = _
    rw [wI_uI, if_neg (fun q => h1 q.1), wI_uI, if_neg (fun q => h1 q.1), wI_uI, if_neg (fun q => h1 q.1)]
  have hmo : m ≠ o := neo km
  have iM : ∀ k, wI (uN (miW v m re nr ly lo) o (.inr (2, 1))) m k = wI (uI (uI (uI v m 1 (nI nr)) m 2 (nI ly)) m 3 (nI lo)) m k := fun k => by
    rw [wI_uN, if_neg hmo]; rfl
  have iP : ∀ {b k : Nat}, b ≠ o → wP (uN (miW v m re nr ly lo) o (.inr (2, 1))) b k = wP v b k := fun h => by rw [wP_uN, if_neg h]; rfl
  have iL : ∀ {b k : Nat}, b ≠ o → wL (uN (miW v m re nr ly lo) o (.inr (2, 1))) b k = if b = re ∧ 0 ≤ k ∧ k < 0 + 8 then 1099511627776 else wL v b k := fun h => by
    rw [wL_uN, if_neg h]
    show wL (aL (uI (uI (uI v m 1 (nI nr)) m 2 (nI ly)) m 3 (nI lo)) re 0 8 1099511627776) _ _ = _
    rw [aL_L]; rfl
  have kO : wK (uN (miW v m re nr ly lo) o (.inr (2, 1))) o = some (.inr (2, 1)) := by rw [wK_uN, if_pos rfl]
  have new : ∀ {b ci : Nat}, wK W2 b = none → wK (uN (miW v m re nr ly lo) o (.inr (2, 1))) b = some (.inl ci) → ci = 6 := fun {b ci} hb h => by
    rw [wK_uN] at h
    by_cases e : b = o
    · rw [if_pos e] at h; cases h
    · rw [if_neg e, hK] at h
      by_cases e2 : b = m
      · rw [e2, km] at h; cases h; rfl
      · rcases hX.2 b (by rw [wK_uN, if_neg e2]; exact hb) with q | ⟨t, n, -, q⟩
        · rw [q] at h; cases h
        · rw [q] at h; cases h
  have hE : Ext W2 (uN (miW v m re nr ly lo) o (.inr (2, 1))) := fun b d hb => by
    have hbm : b ≠ m := fun e => by rw [e, hm] at hb; cases hb
    obtain ⟨q1, q2⟩ := hX.1 b d (by rw [wK_uN, if_neg hbm]; exact hb)
    refine ⟨kk q1, fun k => ?_⟩
    obtain ⟨e1, e2, -⟩ := q2 hbm k
    rw [iI hbm (neo q1), iP (neo q1), e1, e2, wI_uN, if_neg hbm, wP_uN, if_neg hbm]
    exact ⟨rfl, rfl⟩
  generalize uN (miW v m re nr ly lo) o (.inr (2, 1)) = w5 at *
  have H5 : CI w5 x rg nr yg ya ly og oa lo tr fa [] [] [] [] := by
    refine CI_ext hE (HT_ext hE (fun b hb h => ?_) (fun b b' hb h _ _ => ?_) (fun b hb h => ?_) H2.1.1.2.2.1 H2.2.1) (fun b hb h => ?_) H2
    · cases new hb h
    · cases new hb h
    · cases new hb h
    · obtain ⟨ci, hci, hk⟩ := isTb_to hb
      cases new h hk
      rcases hci with e | e <;> cases e
  have M5 : MS w5 m re th ol sz am fd rc nr ly lo := by
    refine ⟨kk km, ⟨?_, ?_, ?_⟩, ⟨(iP hmo).trans p4, kk z4.1⟩, ⟨(iP hmo).trans p5, kk z5.1⟩, ⟨(iP hmo).trans p6, kk z6.1⟩, ⟨(iP hmo).trans p7, kk z7.1⟩, ⟨(iP hmo).trans p8, kk z8.1⟩, ⟨(iP hmo).trans p9, kk z9.1⟩, ⟨(iP hmo).trans p10, kk z10.1⟩, hne, hnr, hly, hlo⟩
    · rw [iM, wI_uI, if_neg (by simp), wI_uI, if_neg (by simp), wI_uI, if_pos ⟨rfl, rfl⟩]
    · rw [iM, wI_uI, if_neg (by simp), wI_uI, if_pos ⟨rfl, rfl⟩]
    · rw [iM, wI_uI, if_pos ⟨rfl, rfl⟩]
  have iz : ∀ {a t n j : Nat}, AZ v a t n m → wI w5 a j = 0 := fun h => by rw [iI h.2.2.2 (neo h.1)]; exact h.2.1 _
  have hx := H2.1.1.1
  refine ⟨kO, [], [], [], [], fun u => u, H5, M5, fun t ht => absurd ht (by simp), fun t ht => absurd ht (by simp), fun p hp => ⟨fun h => absurd (iz z5) h, fun ⟨t, ht, _⟩ => absurd ht (by simp)⟩, fun t ht => absurd ht (by simp), fun t ht => absurd ht (by simp), fun t ht => absurd ht (by simp), fun t ht => absurd ht (by simp), fun t ht => absurd ht (by simp), fun p hp => Or.inr ⟨0, by decide, by rw [iz z8]; exact nI_0.symm⟩, fun r hr => ?_, ?_, ?_⟩
  · rw [((hE rg _ H2.1.1.2.2.1).2 r).2, h4.1.1.1.2.2.2 r, iL (neo z4.1), if_pos ⟨rfl, Nat.zero_le _, by omega⟩]
    exact rfl
  · rw [iM, wI_uI, if_neg (by simp), wI_uI, if_neg (by simp), wI_uI, if_neg (by simp), i11, ((hE x _ hx).2 4).1]
    exact h4.1.1.1.1.2.1.symm
  · rw [iM, wI_uI, if_neg (by simp), wI_uI, if_neg (by simp), wI_uI, if_neg (by simp), i12, ((hE x _ hx).2 5).1]
    exact h4.1.1.1.1.2.2.1.symm
end ST
section SL
variable {l : Launch} {Γ : Cxt} {Δ : Dat} {A : Nat → Prop} {s N : Nat} {f : Nat → Int32} {Q : State → Prop}
set_option maxRecDepth 100000 in
theorem la_start (hfl : l.stackTraces = false) (X : LX l Γ Δ A) (HS : SC Γ A s N f) (hN0 : N ≤ 2051) (hend : ∀ w' C' S' L', C' ≤ 601024 → S' ≤ 7293000 → J Γ Δ A 7 w' C' S' Q 828 L' [.int 1]) : J Γ Δ A 7 wE 0 0 Q 0 [some (.ref s), none, none, none, none, none, none] [] := by
  have hN : N < 2 ^ 31 := by omega
  refine J_new X nd_La_8 (by decide) (by decide) d_La_law_0 (fun x hx => ?_)
  refine J_dup X d_La_law_3 (rfl) ?_
  first | refine J_aload_nr X d_La_law_4 rfl rfl ?_ | refine J_aload_n X d_La_law_4 rfl rfl ?_ | refine J_aload_n0 X d_La_law_4 rfl rfl ?_
  refine J_iconst (v := 0) X d_La_law_5 (by decide) ?_
  have hS0 : S0 (uN wE x (.inl 0)) (uN wE x (.inl 0)) x := by
    refine ⟨by rw [wK_uN, if_pos rfl], by rw [wI_uN, if_pos rfl], by rw [wI_uN, if_pos rfl], fun t ci hci h => ?_, FrC_refl _⟩
    rw [wK_uN] at h
    by_cases e : t = x
    · rw [if_pos e] at h; cases h; rcases hci with e | e <;> cases e
    · rw [if_neg e] at h; cases h
  refine J_callSS X HS (kl_cell (k := 0) hN (by decide)) cd_La_cell lk_La_44 st_La_cell (by decide) (by decide) (by decide) (by decide) rfl (by first | decide | simp [va_rf_cat, vc_r, vc_i, vc_0]) d_La_law_6 (fun q w1 hq => ?_)
  obtain ⟨rfl, hw1⟩ := hq
  refine J_eq hw1 rfl ?_
  first | refine J_aload_nr X d_La_law_9 rfl rfl ?_ | refine J_aload_n X d_La_law_9 rfl rfl ?_ | refine J_aload_n0 X d_La_law_9 rfl rfl ?_
  refine J_iconst (v := 1) X d_La_law_10 (by decide) ?_
  refine J_callSS X HS (kl_cell (k := 1) hN (by decide)) cd_La_cell lk_La_44 st_La_cell (by decide) (by decide) (by decide) (by decide) rfl (by first | decide | simp [va_rf_cat, vc_r, vc_i, vc_0]) d_La_law_11 (fun q w1 hq => ?_)
  obtain ⟨rfl, hw1⟩ := hq
  refine J_eq hw1 rfl ?_
  first | refine J_aload_nr X d_La_law_14 rfl rfl ?_ | refine J_aload_n X d_La_law_14 rfl rfl ?_ | refine J_aload_n0 X d_La_law_14 rfl rfl ?_
  refine J_iconst (v := 2) X d_La_law_15 (by decide) ?_
  refine J_callSS X HS (kl_cell (k := 2) hN (by decide)) cd_La_cell lk_La_44 st_La_cell (by decide) (by decide) (by decide) (by decide) rfl (by first | decide | simp [va_rf_cat, vc_r, vc_i, vc_0]) d_La_law_16 (fun q w1 hq => ?_)
  obtain ⟨rfl, hw1⟩ := hq
  refine J_eq hw1 rfl ?_
  refine J_callI X (k_TG_init hS0) cd_TG_init lk_La_50 ii_TG_init (by decide) (by decide) (by first | exact Nat.le_trans (Nat.add_le_add_left (show _ ≤ 3 from by decide) _) hC | exact Nat.le_trans (Nat.add_le_add_left (show _ ≤ 0 from by decide) _) hC | decide) (by first | exact Nat.le_trans (Nat.add_le_add_left (show _ ≤ 21 from by decide) _) hS | exact Nat.le_trans (Nat.add_le_add_left (show _ ≤ 0 from by decide) _) hS | decide) rfl (by first | decide | simp [va_rf_cat, vc_r, vc_i, vc_0]) d_La_law_19 (fun q w2 hq => ?_)
  obtain ⟨rfl, rg, yg, ya, og, oa, tr, fa, h4⟩ := hq
  first | refine J_astore_nr X d_La_law_22 rfl (by decide) rfl ?_ | refine J_astore_n X d_La_law_22 rfl (by decide) rfl ?_ | refine J_astore_n0 X d_La_law_22 rfl (by decide) rfl ?_
  refine J_new X nd_La_52 (by decide) (by decide) d_La_law_23 (fun m hm => ?_)
  refine J_dup X d_La_law_26 (rfl) ?_
  first | refine J_aload_nr X d_La_law_27 rfl rfl ?_ | refine J_aload_n X d_La_law_27 rfl rfl ?_ | refine J_aload_n0 X d_La_law_27 rfl rfl ?_
  refine J_iconst (v := 0) X d_La_law_28 (by decide) ?_
  refine J_callSS X HS (kl_cell (k := 0) hN (by decide)) cd_La_cell lk_La_44 st_La_cell (by decide) (by decide) (by decide) (by decide) rfl (by first | decide | simp [va_rf_cat, vc_r, vc_i, vc_0]) d_La_law_29 (fun q w1 hq => ?_)
  obtain ⟨rfl, hw1⟩ := hq
  refine J_eq hw1 rfl ?_
  first | refine J_aload_nr X d_La_law_32 rfl rfl ?_ | refine J_aload_n X d_La_law_32 rfl rfl ?_ | refine J_aload_n0 X d_La_law_32 rfl rfl ?_
  refine J_iconst (v := 1) X d_La_law_33 (by decide) ?_
  refine J_callSS X HS (kl_cell (k := 1) hN (by decide)) cd_La_cell lk_La_44 st_La_cell (by decide) (by decide) (by decide) (by decide) rfl (by first | decide | simp [va_rf_cat, vc_r, vc_i, vc_0]) d_La_law_34 (fun q w1 hq => ?_)
  obtain ⟨rfl, hw1⟩ := hq
  refine J_eq hw1 rfl ?_
  first | refine J_aload_nr X d_La_law_37 rfl rfl ?_ | refine J_aload_n X d_La_law_37 rfl rfl ?_ | refine J_aload_n0 X d_La_law_37 rfl rfl ?_
  refine J_iconst (v := 2) X d_La_law_38 (by decide) ?_
  refine J_callSS X HS (kl_cell (k := 2) hN (by decide)) cd_La_cell lk_La_44 st_La_cell (by decide) (by decide) (by decide) (by decide) rfl (by first | decide | simp [va_rf_cat, vc_r, vc_i, vc_0]) d_La_law_39 (fun q w1 hq => ?_)
  obtain ⟨rfl, hw1⟩ := hq
  refine J_eq hw1 rfl ?_
  refine J_callI X (k_Mo_init (by rw [wK_uN, if_pos rfl]) (by rw [wI_uN, if_pos rfl]) (by rw [wI_uN, if_pos rfl])) cd_Mo_init lk_La_54 ii_Mo_init (by decide) (by decide) (by first | exact Nat.le_trans (Nat.add_le_add_left (show _ ≤ 3 from by decide) _) hC | exact Nat.le_trans (Nat.add_le_add_left (show _ ≤ 0 from by decide) _) hC | decide) (by first | exact Nat.le_trans (Nat.add_le_add_left (show _ ≤ 21 from by decide) _) hS | exact Nat.le_trans (Nat.add_le_add_left (show _ ≤ 0 from by decide) _) hS | decide) rfl (by first | decide | simp [va_rf_cat, vc_r, vc_i, vc_0]) d_La_law_42 (fun q w4 hq => ?_)
  obtain ⟨rfl, re, th, ol, sz, am, fd, rc, v, hZ, hE, hw4⟩ := hq
  refine J_eq hw4 rfl ?_
  first | refine J_astore_nr X d_La_law_45 rfl (by decide) rfl ?_ | refine J_astore_n X d_La_law_45 rfl (by decide) rfl ?_ | refine J_astore_n0 X d_La_law_45 rfl (by decide) rfl ?_
  refine J_iconst (v := 1) X d_La_law_46 (by decide) ?_
  refine J_newl (t := 2) (n := 1) X rfl (by decide) rfl rfl m_515 rfl (by decide) (by decide) (by decide) d_La_law_47 (fun o ho => ?_)
  first | refine J_astore_nr X d_La_law_49 rfl (by decide) rfl ?_ | refine J_astore_n X d_La_law_49 rfl (by decide) rfl ?_ | refine J_astore_n0 X d_La_law_49 rfl (by decide) rfl ?_
  refine J_iconst (v := 3) X d_La_law_50 (by decide) ?_
  refine J_istore X d_La_law_51 (by decide) rfl ?_
  have K := KS_start h4 (nrOf_b _) (lyOf_b _) (loOf_b _) hm hZ hE ho
  refine J_widen (c2 := 100) (s2 := 10000) (by decide) (by decide) ?_
  exact la_loop hfl X HS (by omega) hend (N / 4) 3 _ 100 10000 (by omega) (by omega) (by omega) (by omega) K
end SL
