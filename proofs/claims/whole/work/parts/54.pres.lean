/-! what stays between the two calls of a step -/
section PR
variable {w w1 W W' : Wd} {x rg nr yg ya ly og oa lo tr fa m re th ol sz am fd rc o : Nat} {Y O F G : List Nat} {ι : Nat → Nat} {r r2 r3 k v : Int32}
theorem KS_pre (K : KS w x rg nr yg ya ly og oa lo tr fa m re th ol sz am fd rc o) (hF : FrC w W) : ∃ B, MP W m re th ol sz am fd rc nr ly lo B := KS_MP K hF
theorem KS_m (K : KS w x rg nr yg ya ly og oa lo tr fa m re th ol sz am fd rc o) : wK w m = some (.inl 6) := by
  obtain ⟨-, Y, O, F, G, ι, H, M, R⟩ := K
  exact M.1
theorem fr_clear (hg : wK w rg = some (.inr (3, nr))) (hc : (k = 0 ∧ ∃ i, i < nr ∧ r = nI i ∧ W = uP w rg i none) ∨ (k = 1 ∧ ¬ regB nr r ∧ W = w)) : FrC w W := by
  rcases hc with ⟨-, i, -, -, rfl⟩ | ⟨-, -, rfl⟩
  · exact FrC_uP hg rfl
  · exact FrC_refl _
theorem fr_move (hg : wK w rg = some (.inr (3, nr))) (hc : (k = 0 ∧ ∃ i j, i < nr ∧ r = nI i ∧ j < nr ∧ r2 = nI j ∧ W = uP w rg i (wP w rg j)) ∨ (k = 1 ∧ ¬ (regB nr r ∧ regB nr r2) ∧ W = w)) : FrC w W := by
  rcases hc with ⟨-, i, j, -, -, -, -, rfl⟩ | ⟨-, -, rfl⟩
  · exact FrC_uP hg rfl
  · exact FrC_refl _
theorem fr_number (hg : wK w rg = some (.inr (3, nr))) (hc : (k = 0 ∧ ∃ i a, i < nr ∧ r = nI i ∧ (-1073741824 ≤ v ∧ v ≤ 1073741823) ∧ wK w a = none ∧ W = uP (uI (uN w a (.inl 5)) a 0 v) rg i (some a)) ∨ (k = 1 ∧ ¬ (regB nr r ∧ (-1073741824 ≤ v ∧ v ≤ 1073741823)) ∧ W = w)) : FrC w W := by
  rcases hc with ⟨-, i, a, -, -, -, ha, rfl⟩ | ⟨-, -, rfl⟩
  · refine FrC_trans (newN_fr (v := v) ha) (FrC_uP (d' := .inr (3, nr)) ?_ rfl)
    exact ((newN_ext (v := v) ha) rg _ hg).1
  · exact FrC_refl _
theorem fr_target (hg : wK w rg = some (.inr (3, nr))) (hc : (k = 0 ∧ ∃ i t, i < nr ∧ r = nI i ∧ only w (isWk w) (held w rg nr r2) = some t ∧ W = uP w rg i (wP w t 3)) ∨ (k = 1 ∧ ¬ (regB nr r ∧ ∃ t, only w (isWk w) (held w rg nr r2) = some t) ∧ W = w)) : FrC w W := by
  rcases hc with ⟨-, i, t, -, -, -, rfl⟩ | ⟨-, -, rfl⟩
  · exact FrC_uP hg rfl
  · exact FrC_refl _
theorem fr_load (hg : wK w rg = some (.inr (3, nr))) (hc : (k = 0 ∧ ∃ i t c n k, i < nr ∧ r = nI i ∧ only w (isP w) (held w rg nr r2) = some t ∧ wP w t 3 = some c ∧ wK w c = some (.inr (3, n)) ∧ k < n ∧ r3 = nI k ∧ W = uP w rg i (wP w c k)) ∨ (k = 1 ∧ ¬ (regB nr r ∧ ∃ t, only w (isP w) (held w rg nr r2) = some t ∧ 0 ≤ r3 ∧ r3 < nI (sucL w t).length) ∧ W = w)) : FrC w W := by
  rcases hc with ⟨-, i, t, c, n, j, -, -, -, -, -, -, -, rfl⟩ | ⟨-, -, rfl⟩
  · exact FrC_uP hg rfl
  · exact FrC_refl _
theorem fr_store (hc : (k = 0 ∧ ∃ j t c n k, j < nr ∧ r3 = nI j ∧ only w (isP w) (held w rg nr r) = some t ∧ wP w t 3 = some c ∧ wK w c = some (.inr (3, n)) ∧ k < n ∧ r2 = nI k ∧ W = uP w c k (wP w rg j)) ∨ (k = 1 ∧ ¬ (regB nr r3 ∧ ∃ t, only w (isP w) (held w rg nr r) = some t ∧ 0 ≤ r2 ∧ r2 < nI (sucL w t).length) ∧ W = w)) : FrC w W := by
  rcases hc with ⟨-, i, t, c, n, j, -, -, -, -, hc, -, -, rfl⟩ | ⟨-, -, rfl⟩
  · exact FrC_uP hc rfl
  · exact FrC_refl _
theorem fr_reach (H : CI w x rg nr yg ya ly og oa lo tr fa Y O F G) (hW : W = trW (rsW w tr F) tr fa (rchR w rg nr (ly + lo) tr F r)) : FrC w W := by
  have hTF := TF_tr (R := rchR w rg nr (ly + lo) tr F r) H (fun t ht => CI_G H ((CI_rchR H).2.1 t ht))
  rw [← hW] at hTF
  exact hTF.2.2.2.2.2.2.2
theorem fr_great (H : CI w x rg nr yg ya ly og oa lo tr fa Y O F G) (hW : W = colOW w x og oa tr fa Y O F (colR w rg nr (ly + lo) tr F)) : FrC w W := by
  have k1 := (CF_colO (R := colR w rg nr (ly + lo) tr F) H (fun t ht => CI_thing H ((CI_colR H).1.2.1 t ht))).1
  rw [← hW] at k1
  exact k1.2.2.2.2.2.2.2
end PR
