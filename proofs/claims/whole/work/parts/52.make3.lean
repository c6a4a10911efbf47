/-! make and weak as calls -/
section OM
variable {w w' w0 w1 w2 wA wB W W' Wm W1 W2 : Wd} {x rg nr yg ya ly og oa lo tr fa m re th ol sz am fd rc o : Nat} {Y O F G R0 A Y1 O1 F1 G1 : List Nat} {ι : Nat → Nat} {ρ : Nat → Bool} {r r2 r3 k v z : Int32}
theorem fresh_no {t : Nat} (H : CI w x rg nr yg ya ly og oa lo tr fa Y O F G) (h : wK w t = none) : t ∉ Y ++ O := fun q => by
  obtain ⟨ci, -, hk⟩ := isTb_to (CI_thing H q)
  rw [h] at hk; cases hk
theorem cnd_make (hly : ly ≤ 60) : (0 ≤ v ∧ v ≤ 11 ∧ v < nI ly) ↔ ∃ n, v = nI n ∧ n ≤ 11 ∧ n + 1 ≤ ly := by
  constructor
  · rintro ⟨h1, h2, h3⟩
    obtain ⟨n, hn, rfl⟩ := nI_of1 (n := ly) (by omega) h1 h3
    rw [show (11 : Int32) = nI 11 from rfl, nI_leI (by omega) (by omega)] at h2
    exact ⟨n, rfl, h2, hn⟩
  · rintro ⟨n, rfl, h2, h3⟩
    exact ⟨nI_pos' (by omega), by rw [show (11 : Int32) = nI 11 from rfl]; exact nI_le h2 (by omega), nI_lt h3 (by omega)⟩
/-- what a birth asks for besides -/
theorem pre_two {c : Int32} (H : CI w x rg nr yg ya ly og oa lo tr fa Y O F G) (M : MS w m re th ol sz am fd rc nr ly lo) (R : RL w w x rg nr m re th ol sz am fd ι Y O G) (hFC : FrC w W) : (∃ B, MP W m re th ol sz am fd rc nr ly lo B) ∧ ∀ w2, RoE (uI W m 0 0) m re th ol sz am fd rc nr ly lo c 1 w2 → ∃ p, p < 200 ∧ wI w2 th p = 0 := by
  have M2 := MS_frC hFC M
  have R2 := RL_frC hFC M H R
  exact ⟨⟨_, RL_MP H R2 M2⟩, fun w2 h => free_two H (RL_u0 M2 H R2) (MS_uI (Or.inl rfl) M2) h⟩
/-- the newborn's failure, on both sides -/
theorem bad_ks {c : Nat} (hs : wK w o = some (.inr (2, 1))) (M : MS w m re th ol sz am fd rc nr ly lo) (hF0 : FrC w w0) (H : CI w0 x rg nr yg ya ly og oa lo tr fa Y O F G) (R : RL w0 w x rg nr m re th ol sz am fd ι Y O G) (hc : c ≤ 12) (hB : Bad w0 W x rg nr yg ya ly og oa lo tr fa c Y O F G) : FrC w W ∧ ∀ z w2, RoE (uI W m 0 0) m re th ol sz am fd rc nr ly lo (nI c) z w2 → z = 0 ∧ KS (uI w2 m 0 2) x rg nr yg ya ly og oa lo tr fa m re th ol sz am fd rc o := by
  have hFC : FrC w W := FrC_trans hF0 (Bad_fr H hB)
  refine ⟨hFC, fun z w2 hr => ?_⟩
  have M2 := MS_frC hFC M
  have M3 : MS (uI W m 0 0) m re th ol sz am fd rc nr ly lo := MS_uI (Or.inl rfl) M2
  have R3 := RL_u0 (v := 0) M2 H (RL_frC hFC M H R)
  obtain ⟨hz, O1, F1, G1, b1, b2⟩ := room_bad H R3 M3 hc hB hr
  have hro := RoE_MS M3 R3.2.2.2.2.2.2.2.2.1 hr
  exact ⟨hz, KS_of hs hFC M2 (FrM_trans FrM_u0 (FrM_trans (FrM_RoE hr) FrM_u0)) b1 (MS_uI (Or.inl rfl) hro.1) (RL_u0 hro.1 b1 b2)⟩
theorem op_make (hs : wK w o = some (.inr (2, 1))) (H : CI w x rg nr yg ya ly og oa lo tr fa Y O F G) (M : MS w m re th ol sz am fd rc nr ly lo) (R : RL w w x rg nr m re th ol sz am fd ι Y O G)
    (hc : (k = 0 ∧ ∃ i n t c, i < nr ∧ r = nI i ∧ v = nI n ∧ n ≤ 11 ∧ n + 1 ≤ ly ∧ wK w t = none ∧ wK w c = none ∧ c ≠ t ∧ Born (newP w t c n) W x rg nr yg ya ly og oa lo tr fa (n + 1) i t Y O F G) ∨ (k = 1 ∧ ¬ (regB nr r ∧ ∃ n, v = nI n ∧ n ≤ 11 ∧ n + 1 ≤ ly) ∧ W = w) ∨ (k = 2 ∧ regB nr r ∧ ∃ n t c, v = nI n ∧ n ≤ 11 ∧ n + 1 ≤ ly ∧ wK w t = none ∧ wK w c = none ∧ c ≠ t ∧ Bad (newP w t c n) W x rg nr yg ya ly og oa lo tr fa (n + 1) Y O F G)) :
    FrC w W ∧ ((∃ B, MP W m re th ol sz am fd rc nr ly lo B) ∧ ∀ w2, RoE (uI W m 0 0) m re th ol sz am fd rc nr ly lo (v + 1) 1 w2 → ∃ p, p < 200 ∧ wI w2 th p = 0) ∧ (MakE W m re th ol sz am fd rc nr ly lo (regB nr r ∧ 0 ≤ v ∧ v ≤ 11 ∧ v < nI ly) (v + 1) v (-1) r W' → wI W' m 0 = k ∧ KS W' x rg nr yg ya ly og oa lo tr fa m re th ol sz am fd rc o) := by
  have hnr := H.1.1.2.2.2.2
  have hly := H.1.2.2.2.2.2.2.2.2.2.1
  rcases hc with ⟨rfl, i, n, t, c, hi, rfl, rfl, hn, hn2, ht, hcn, hct, hB⟩ | ⟨rfl, h1, rfl⟩ | ⟨rfl, hr, n, t, c, rfl, hn, hn2, ht, hcn, hct, hB⟩
  · have kt : wK (newP w t c n) t = some (.inl 3) := by rw [newP_K, if_neg (Ne.symm hct), if_pos rfl]
    have kc : wK (newP w t c n) c = some (.inr (3, n)) := by rw [newP_K, if_pos rfl]
    have pt : wP (newP w t c n) t 3 = some c := by rw [newP_P, if_pos ⟨rfl, rfl⟩]
    have hsuc : sucL (newP w t c n) t = rowL (newP w t c n) c n := sucL_of kt pt kc
    obtain ⟨t1, t2⟩ := newP_t (w := w) (t := t) (c := c) (n := n) hct hn
    obtain ⟨hFC, hgo⟩ := born_two (zn := nI n) (tg := -1) (c := n + 1) hs M (newP_fr (n := n) ht hcn hct) (newP_CI H ht hcn hct hn) (RL_ext (newP_ext ht hcn) H R) t1 (fresh_no H ht) (by rw [newP_I, if_neg (Ne.symm hct), if_neg (by simp), if_pos rfl]) t2 (by omega) hn2 hi hB (by rw [szC, if_pos kt, hsuc]; simp [rowL]) (fun j o e => by
      rw [hsuc] at e
      obtain ⟨e1, e2⟩ := rowL_get.mp e
      rw [newP_P, if_neg (fun q => hct q.1), if_pos rfl] at e2
      exact ⟨e2.symm, by omega⟩) (fun u q => by rw [kt] at q; cases q) (fun q => by rw [kt] at q; cases q) (Or.inl rfl)
    refine ⟨hFC, pre_two H M R hFC, fun hm => ?_⟩
    rw [nI_1] at hm
    rcases hm with ⟨g, -⟩ | ⟨-, z, w2, hr, ⟨hz, -⟩ | ⟨-, i', p, hi', e, hp, hfree, hW'⟩⟩
    · exact absurd ⟨regB_nI hnr hi, (cnd_make hly.2).mpr ⟨n, rfl, hn, hn2⟩⟩ g
    · have := (hgo z w2 hr).1
      rw [hz] at this; exact absurd this (by decide)
    · have e' := (nI_eq (by omega) (by omega)).mp e
      subst e'
      exact (hgo z w2 hr).2 p W' hp hfree hW'
  · refine ⟨FrC_refl _, pre_two H M R (FrC_refl _), fun hm => ?_⟩
    rcases hm with ⟨-, rfl⟩ | ⟨g, -⟩
    · exact KS_no ⟨hs, Y, O, F, G, ι, H, M, R⟩
    · exact absurd ⟨g.1, (cnd_make hly.2).mp g.2⟩ h1
  · obtain ⟨hFC, hgo⟩ := bad_ks hs M (newP_fr (n := n) ht hcn hct) (newP_CI H ht hcn hct hn) (RL_ext (newP_ext ht hcn) H R) (by omega) hB
    refine ⟨hFC, pre_two H M R hFC, fun hm => ?_⟩
    rw [nI_1] at hm
    rcases hm with ⟨g, -⟩ | ⟨-, z, w2, hr', ⟨-, rfl⟩ | ⟨hz, -⟩⟩
    · exact absurd ⟨hr, (cnd_make hly.2).mpr ⟨n, rfl, hn, hn2⟩⟩ g
    · exact ⟨by rw [wI_uI, if_pos ⟨rfl, rfl⟩], (hgo z w2 hr').2⟩
    · have := (hgo z w2 hr').1
      rw [hz] at this; exact absurd this (by decide)
theorem cnd_weak (H : CI w x rg nr yg ya ly og oa lo tr fa Y O F G) (R : RL w W x rg nr m re th ol sz am fd ι Y O G) : 0 ≤ plc W re nr v ↔ ∃ u, only w (isTb w) (held w rg nr v) = some u := by
  rcases plc_two H R v with ⟨hp, ho⟩ | ⟨t, -, -, hl, -, -, -, hp, -, ho⟩
  · rw [hp, ho]; exact ⟨fun q => absurd q (by decide), fun ⟨_, q⟩ => nomatch q⟩
  · rw [hp, ho]; exact ⟨fun _ => ⟨t, rfl⟩, fun _ => nI_pos' (by omega)⟩
theorem op_weak (hs : wK w o = some (.inr (2, 1))) (H : CI w x rg nr yg ya ly og oa lo tr fa Y O F G) (M : MS w m re th ol sz am fd rc nr ly lo) (R : RL w w x rg nr m re th ol sz am fd ι Y O G)
    (hc : (k = 0 ∧ ∃ i u t, i < nr ∧ r = nI i ∧ only w (isTb w) (held w rg nr v) = some u ∧ wK w t = none ∧ Born (newK w t u) W x rg nr yg ya ly og oa lo tr fa 2 i t Y O F G) ∨ (k = 1 ∧ ¬ (regB nr r ∧ ∃ u, only w (isTb w) (held w rg nr v) = some u) ∧ W = w) ∨ (k = 2 ∧ regB nr r ∧ ∃ u t, only w (isTb w) (held w rg nr v) = some u ∧ wK w t = none ∧ Bad (newK w t u) W x rg nr yg ya ly og oa lo tr fa 2 Y O F G)) :
    FrC w W ∧ ((∃ B, MP W m re th ol sz am fd rc nr ly lo B) ∧ ∀ w2, RoE (uI W m 0 0) m re th ol sz am fd rc nr ly lo 2 1 w2 → ∃ p, p < 200 ∧ wI w2 th p = 0) ∧ (MakE W m re th ol sz am fd rc nr ly lo (regB nr r ∧ 0 ≤ plc W re nr v) 2 (-1) (plc W re nr v) r W' → wI W' m 0 = k ∧ KS W' x rg nr yg ya ly og oa lo tr fa m re th ol sz am fd rc o) := by
  have hnr := H.1.1.2.2.2.2
  have hly := H.1.2.2.2.2.2.2.2.2.2.1
  rcases hc with ⟨rfl, i, u, t, hi, rfl, ho, ht, hB⟩ | ⟨rfl, h1, rfl⟩ | ⟨rfl, hr, u, t, ho, ht, hB⟩
  · obtain ⟨he, huT⟩ := only_some ho
    have huk : wK w u ≠ none := by
      obtain ⟨ci, -, hk⟩ := isTb_to huT
      rw [hk]; simp
    have hut : u ≠ t := fun e => huk (e ▸ ht)
    have hj : ∃ j, j < nr ∧ wP w rg j = some u := by
      by_cases hv : regB nr v
      · obtain ⟨j, hj, rfl⟩ := nI_of1 (n := nr) (by omega) ((regB_lt H.1.1.2.2.2.1 hnr).mp hv).1 ((regB_lt H.1.1.2.2.2.1 hnr).mp hv).2
        rw [held_at hnr hj] at he
        exact ⟨j, hj, he⟩
      · rw [held_no hv] at he; cases he
    obtain ⟨j, hj, hjp⟩ := hj
    have kt : wK (newK w t u) t = some (.inl 4) := by rw [newK_K, if_pos rfl]
    have pt : wP (newK w t u) t 3 = some u := by rw [newK_P, if_pos ⟨rfl, rfl⟩]
    have hrt : rg ≠ t := fun e => by have := H.1.1.2.2.1; rw [e, ht] at this; cases this
    have hsuc : sucL (newK w t u) t = [] := suc_nil (by rw [kt]; simp)
    have huG := (held_oB (r := v) H).2 u he huT
    obtain ⟨t1, t2⟩ := newK_t (w := w) (t := t) (u := u)
    obtain ⟨hFC, hgo⟩ := born_two (zn := -1) (tg := nI (ι u)) (c := 2) hs M (newK_fr (u := u) ht) (newK_CI H ht huT) (RL_ext (newK_ext ht) H R) t1 (fresh_no H ht) (by rw [newK_I, if_neg (by simp), if_pos rfl]) t2 (by omega) (by omega) hi hB (by rw [szC, if_neg (by rw [kt]; simp)]) (fun j o e => by rw [hsuc] at e; simp at e) (fun u' _ q => by
      rw [pt] at q; cases q
      exact ⟨rfl, j, hj, by rw [newK_P, if_neg (fun q => hrt q.1), if_neg hrt]; exact hjp, Ext_isTb (newK_ext ht) huT⟩) (fun _ => ⟨u, pt⟩) (Or.inr ⟨ι u, R.1 u (RL_G H huG), rfl⟩)
    have R2 := RL_frC hFC M H R
    refine ⟨hFC, pre_two H M R hFC, fun hm => ?_⟩
    have hpl : plc W re nr v = nI (ι u) := by
      rcases plc_two H R2 v with ⟨-, ho'⟩ | ⟨t', -, -, -, -, -, -, hp, -, ho'⟩
      · rw [ho] at ho'; cases ho'
      · rw [ho] at ho'; cases ho'; exact hp
    rcases hm with ⟨g, -⟩ | ⟨-, z, w2, hr, ⟨hz, -⟩ | ⟨-, i', p, hi', e, hp, hfree, hW'⟩⟩
    · exact absurd ⟨regB_nI hnr hi, (cnd_weak H R2).mpr ⟨u, ho⟩⟩ g
    · have := (hgo z w2 hr).1
      rw [hz] at this; exact absurd this (by decide)
    · have e' := (nI_eq (by omega) (by omega)).mp e
      subst e'
      rw [hpl] at hW'
      exact (hgo z w2 hr).2 p W' hp hfree hW'
  · refine ⟨FrC_refl _, pre_two H M R (FrC_refl _), fun hm => ?_⟩
    rcases hm with ⟨-, rfl⟩ | ⟨g, -⟩
    · exact KS_no ⟨hs, Y, O, F, G, ι, H, M, R⟩
    · exact absurd ⟨g.1, (cnd_weak H R).mp g.2⟩ h1
  · obtain ⟨he, huT⟩ := only_some ho
    obtain ⟨hFC, hgo⟩ := bad_ks hs M (newK_fr (u := u) ht) (newK_CI H ht huT) (RL_ext (newK_ext ht) H R) (by omega) hB
    have R2 := RL_frC hFC M H R
    refine ⟨hFC, pre_two H M R hFC, fun hm => ?_⟩
    rcases hm with ⟨g, -⟩ | ⟨-, z, w2, hr', ⟨-, rfl⟩ | ⟨hz, -⟩⟩
    · exact absurd ⟨hr, (cnd_weak H R2).mpr ⟨u, ho⟩⟩ g
    · exact ⟨by rw [wI_uI, if_pos ⟨rfl, rfl⟩], (hgo z w2 hr').2⟩
    · have := (hgo z w2 hr').1
      rw [hz] at this; exact absurd this (by decide)
end OM
