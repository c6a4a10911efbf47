/-! what collections keep, point by point; what the class keeps of the model -/
def mdl : Kd → Bool
  | .inl 6 => true
  | .inr (0, _) => true
  | .inr (1, _) => true
  | .inr (2, _) => true
  | _ => false
/-- the cells of the model's kinds stay -/
def FrC (w W : Wd) : Prop := ∀ b d, wK w b = some d → mdl d = true → wK W b = some d ∧ ∀ k, wI W b k = wI w b k ∧ wP W b k = wP w b k ∧ wL W b k = wL w b k
theorem FrC_refl (w : Wd) : FrC w w := fun _ _ h _ => ⟨h, fun _ => ⟨rfl, rfl, rfl⟩⟩
theorem FrC_trans {w w' w'' : Wd} (h1 : FrC w w') (h2 : FrC w' w'') : FrC w w'' := fun b d hb hd => by
  obtain ⟨a1, a2⟩ := h1 b d hb hd
  obtain ⟨b1, b2⟩ := h2 b d a1 hd
  exact ⟨b1, fun k => ⟨(b2 k).1.trans (a2 k).1, (b2 k).2.1.trans (a2 k).2.1, (b2 k).2.2.trans (a2 k).2.2⟩⟩
theorem mdl_ne {w : Wd} {a b : Nat} {d d' : Kd} (hb : wK w b = some d) (hd : mdl d = true) (ha : wK w a = some d') (hd' : mdl d' = false) : b ≠ a := by
  rintro rfl
  rw [hb] at ha
  cases ha
  rw [hd] at hd'
  cases hd'
theorem FrC_uI {w : Wd} {a k : Nat} {v : Int32} {d' : Kd} (ha : wK w a = some d') (hd' : mdl d' = false) : FrC w (uI w a k v) := fun b d hb hd => ⟨hb, fun j => ⟨by rw [wI_uI, if_neg (fun q => mdl_ne hb hd ha hd' q.1)], rfl, rfl⟩⟩
theorem FrC_uP {w : Wd} {a k : Nat} {v : Option Nat} {d' : Kd} (ha : wK w a = some d') (hd' : mdl d' = false) : FrC w (uP w a k v) := fun b d hb hd => ⟨hb, fun j => ⟨rfl, by rw [wP_uP, if_neg (fun q => mdl_ne hb hd ha hd' q.1)], rfl⟩⟩
theorem FrC_uN {w : Wd} {a : Nat} {d' : Kd} (ha : wK w a = none) : FrC w (uN w a d') := fun b d hb hd => by
  have : b ≠ a := ne_new hb ha
  exact ⟨by rw [wK_uN, if_neg this]; exact hb, fun j => ⟨by rw [wI_uN, if_neg this], by rw [wP_uN, if_neg this], by rw [wL_uN, if_neg this]⟩⟩
/-- a collection over Y and O: what the world behind it shows -/
def CF (w W : Wd) (Y O R : List Nat) : Prop :=
  (∀ b, wK W b = wK w b) ∧ (∀ b, wI W b 0 = wI w b 0) ∧ (∀ t, wK w t = some (.inl 3) → wP W t 3 = wP w t 3) ∧ (∀ c n, wK w c = some (.inr (3, n)) → ∀ i, wP W c i = wP w c i) ∧ (∀ b, wK w b = some (.inl 4) → b ∈ Y ++ O → wP W b 3 = fil R (wP w b 3)) ∧ (∀ b, wK w b = some (.inl 4) → b ∉ Y ++ O → wP W b 3 = wP w b 3) ∧ (∀ t, isTb w t = true → t ∉ Y → wI W t 1 = wI w t 1) ∧ FrC w W
section CF
variable {w W : Wd} {x rg nr yg ya ly og oa lo tr fa : Nat} {Y O F G R : List Nat}
theorem CF_suc (H : CF w W Y O R) (hT : HT w rg nr) (t : Nat) : sucL W t = sucL w t := sucL_congr H.1 H.2.2.1 H.2.2.2.1 hT t
theorem CF_cut (H : CI w x rg nr yg ya ly og oa lo tr fa Y O F G) (hRT : ∀ t ∈ R, isTb w t = true) : CF w (cutY w tr fa Y O F R) Y O R := by
  obtain ⟨hK, -, -, -, -, c5, c6, -⟩ := CI_cut (R := R) H hRT
  obtain ⟨hS, hT, hY, hO, hty, hto, hnd, hsum, hF, hol, hG⟩ := H
  obtain ⟨hRg, hnr, h1, h2, h3, hyO, hoO, -, -, hly, hlo, htr, htf, hfk, hgg, hya, hyf, hof⟩ := hS
  have nf : ∀ {b : Nat} {d : Kd}, wK w b = some d → d ≠ .inr (4, ly + lo) → b ≠ fa := fun hb hd e => by rw [e, hfk] at hb; cases hb; exact hd rfl
  refine ⟨hK, c5, fun t ht => cutY_ptr (nf ht (by simp)) (Or.inr (by rw [ht]; simp)), fun c n hc i => cutY_ptr (nf hc (by simp)) (Or.inr (by rw [hc]; simp)), fun b hb hm => cutY_tgt hF htr hfk hb hm (fun u hu => (hT.2.2.1 b hb).2 u hu), fun b hb hm => ?_, fun t ht _ => c6 t ht, fun b d hb hd => ⟨(hK b).trans hb, fun k => ⟨?_, ?_, rfl⟩⟩⟩
  · rw [List.mem_append, not_or] at hm
    rw [cutY, cutW_ptr (Or.inr hm.2), cutW_ptr (Or.inr hm.1), trW_ptr (nf hb (by simp))]; rfl
  · rw [cutY_int]
    refine tr_other hRT hF.2.2.2.1 hb ⟨?_, ?_⟩ ?_
    · rintro rfl; cases hd
    · rintro rfl; cases hd
    · exact mdl_ne hb hd htr rfl
  · refine cutY_ptr (mdl_ne hb hd hfk rfl) (Or.inr ?_)
    rw [hb]
    rintro ⟨⟩
    cases hd
theorem CF_gen {g ga m : Nat} {zs : List Nat} (H : CF w W Y O R) (hg : wK w g = some (.inl 1)) (hga : wK w ga = some (.inr (4, m))) : CF w (genW W g ga zs) Y O R := by
  obtain ⟨a1, a2, a3, a4, a5, a6, a7, a8⟩ := H
  have na : ∀ {b : Nat} {d : Kd}, wK w b = some d → d ≠ .inr (4, m) → b ≠ ga := fun hb hd e => by rw [e, hga] at hb; cases hb; exact hd rfl
  refine ⟨a1, fun b => (genW_int (Or.inr (by decide))).trans (a2 b), fun t ht => (genW_ptr (Or.inl (na ht (by simp)))).trans (a3 t ht), fun c n hc i => (genW_ptr (Or.inl (na hc (by simp)))).trans (a4 c n hc i), fun b hb hm => (genW_ptr (Or.inl (na hb (by simp)))).trans (a5 b hb hm), fun b hb hm => (genW_ptr (Or.inl (na hb (by simp)))).trans (a6 b hb hm), fun t ht hy => (genW_int (Or.inr (by decide))).trans (a7 t ht hy), fun b d hb hd => ⟨(a8 b d hb hd).1, fun k => ⟨?_, ?_, ((a8 b d hb hd).2 k).2.2⟩⟩⟩
  · exact (genW_int (Or.inl (mdl_ne hb hd hg rfl))).trans ((a8 b d hb hd).2 k).1
  · exact (genW_ptr (Or.inl (mdl_ne hb hd hga rfl))).trans ((a8 b d hb hd).2 k).2.1
theorem CF_old {zs : List Nat} (H : CF w W Y O R) (hz : ∀ t ∈ zs, t ∈ Y ∧ isTb w t = true) : CF w (oldF W zs) Y O R := by
  obtain ⟨a1, a2, a3, a4, a5, a6, a7, a8⟩ := H
  have hno : ∀ {b k : Nat}, b ∉ zs → wI (oldF W zs) b k = wI W b k := fun hb => by
    show (if _ ∧ _ ∈ zs then (1 : Int32) else W.2.1 _ _) = _
    rw [if_neg (fun q => hb q.2)]; rfl
  exact ⟨a1, fun b => (oldF_int (by decide)).trans (a2 b), a3, a4, a5, a6, fun t ht hy => (hno (fun q => hy (hz t q).1)).trans (a7 t ht hy), fun b d hb hd => ⟨(a8 b d hb hd).1, fun k => ⟨(hno (fun q => by
    obtain ⟨ci, hci, hk⟩ := isTb_to (hz b q).2
    rw [hb] at hk
    cases hk
    rcases hci with rfl | rfl <;> cases hd)).trans ((a8 b d hb hd).2 k).1, ((a8 b d hb hd).2 k).2⟩⟩⟩
theorem CF_x {k0 : Nat} {v : Int32} (H : CF w W Y O R) (hx : wK w x = some (.inl 0)) (hk : k0 ≠ 0) : CF w (uI W x k0 v) Y O R := by
  obtain ⟨a1, a2, a3, a4, a5, a6, a7, a8⟩ := H
  refine ⟨a1, fun b => ?_, a3, a4, a5, a6, fun t ht hy => ?_, fun b d hb hd => ⟨(a8 b d hb hd).1, fun k => ⟨?_, ((a8 b d hb hd).2 k).2⟩⟩⟩
  · rw [wI_uI, if_neg (fun q => hk q.2.symm)]; exact a2 b
  · rw [wI_uI, if_neg (fun q => isTb_ne ht hx (by decide) q.1)]; exact a7 t ht hy
  · rw [wI_uI, if_neg (fun q => mdl_ne hb hd hx rfl q.1)]; exact ((a8 b d hb hd).2 k).1
theorem CF_colO (H : CI w x rg nr yg ya ly og oa lo tr fa Y O F G) (hRT : ∀ t ∈ R, isTb w t = true) : CF w (colOW w x og oa tr fa Y O F R) Y O R ∧ wI (colOW w x og oa tr fa Y O F R) x 4 = wI w x 4 ∧ wI (colOW w x og oa tr fa Y O F R) x 5 = wI w x 5 + 1 := by
  have hc := CF_cut H hRT
  obtain ⟨-, -, -, -, -, -, -, -, -, d1, -⟩ := CI_cut (R := R) H hRT
  obtain ⟨hS, -⟩ := H
  obtain ⟨hRg, -, -, -, -, -, hoO, -⟩ := hS
  have hxo : x ≠ og := fun e => by have := hoO.1; rw [← e, hRg.1] at this; cases this
  exact ⟨CF_x (CF_gen hc hoO.1 hoO.2.2.1) hRg.1 (by decide), by rw [colOW, wI_uI, if_neg (by simp), genW_int (Or.inl hxo)]; exact d1 4, by rw [colOW, wI_uI, if_pos ⟨rfl, rfl⟩]⟩
theorem CF_colY (H : CI w x rg nr yg ya ly og oa lo tr fa Y O F G) (hRT : ∀ t ∈ R, isTb w t = true) : CF w (colYW w x yg ya og oa tr fa Y O F R) Y O R ∧ wI (colYW w x yg ya og oa tr fa Y O F R) x 4 = wI w x 4 + 1 ∧ wI (colYW w x yg ya og oa tr fa Y O F R) x 5 = wI w x 5 := by
  have hc := CF_cut H hRT
  obtain ⟨-, -, -, -, -, -, -, -, -, d1, -⟩ := CI_cut (R := R) H hRT
  have hYT : ∀ t ∈ Y, isTb w t = true := fun t ht => GeL_mem H.2.2.1 ht
  obtain ⟨hS, -⟩ := H
  obtain ⟨hRg, -, -, -, -, hyO, hoO, -⟩ := hS
  have hxo : x ≠ og := fun e => by have := hoO.1; rw [← e, hRg.1] at this; cases this
  have hxy : x ≠ yg := fun e => by have := hyO.1; rw [← e, hRg.1] at this; cases this
  exact ⟨CF_x (CF_gen (CF_gen (CF_old hc (fun t ht => ⟨(List.mem_filter.mp ht).1, hYT t (List.mem_filter.mp ht).1⟩)) hoO.1 hoO.2.2.1) hyO.1 hyO.2.2.1) hRg.1 (by decide), by rw [colYW, wI_uI, if_pos ⟨rfl, rfl⟩], by rw [colYW, wI_uI, if_neg (by simp), genW_int (Or.inl hxy), genW_int (Or.inl hxo), oldF_int (by decide)]; exact d1 5⟩
/-- behind a search alone -/
def TF (w W : Wd) : Prop :=
  (∀ b, wK W b = wK w b) ∧ (∀ b, wI W b 0 = wI w b 0) ∧ (∀ t, wK w t = some (.inl 3) → wP W t 3 = wP w t 3) ∧ (∀ c n, wK w c = some (.inr (3, n)) → ∀ i, wP W c i = wP w c i) ∧ (∀ b, wK w b = some (.inl 4) → wP W b 3 = wP w b 3) ∧ (∀ t, isTb w t = true → wI W t 1 = wI w t 1) ∧ (∀ t k, wK w t = some (.inl 0) → wI W t k = wI w t k) ∧ FrC w W
theorem TF_tr (H : CI w x rg nr yg ya ly og oa lo tr fa Y O F G) (hRT : ∀ t ∈ R, isTb w t = true) : TF w (trW (rsW w tr F) tr fa R) := by
  obtain ⟨hS, hT, hY, hO, hty, hto, hnd, hsum, hF, hol, hG⟩ := H
  obtain ⟨hRg, hnr, h1, h2, h3, hyO, hoO, -, -, hly, hlo, htr, htf, hfk, hgg, hya, hyf, hof⟩ := hS
  have nf : ∀ {b : Nat} {d : Kd}, wK w b = some d → d ≠ .inr (4, ly + lo) → b ≠ fa := fun hb hd e => by rw [e, hfk] at hb; cases hb; exact hd rfl
  refine ⟨fun _ => rfl, fun b => by rw [trW_int0, rsW_0], fun t ht => trW_ptr (w := rsW w tr F) (nf ht (by simp)), fun c n hc i => trW_ptr (w := rsW w tr F) (nf hc (by simp)), fun b hb => trW_ptr (w := rsW w tr F) (nf hb (by simp)), fun t ht => ?_, fun t k ht => ?_, fun b d hb hd => ⟨hb, fun k => ⟨?_, trW_ptr (w := rsW w tr F) (mdl_ne hb hd hfk rfl), rfl⟩⟩⟩
  · rw [trW_int (isTb_ne ht htr (by decide)) (by decide), rsW_int (Or.inl (isTb_ne ht htr (by decide))) (Or.inl (by decide))]
  · exact tr_other hRT hF.2.2.2.1 ht (by decide) (fun e => by rw [e, htr] at ht; cases ht)
  · refine tr_other hRT hF.2.2.2.1 hb ⟨?_, ?_⟩ (mdl_ne hb hd htr rfl)
    · rintro rfl; cases hd
    · rintro rfl; cases hd
end CF
