/-! the state of both, the script and the cell for answers; the calls that read -/
def KS (w : Wd) (x rg nr yg ya ly og oa lo tr fa m re th ol sz am fd rc o : Nat) : Prop :=
  wK w o = some (.inr (2, 1)) ∧
  ∃ Y O F G ι, CI w x rg nr yg ya ly og oa lo tr fa Y O F G ∧ MS w m re th ol sz am fd rc nr ly lo ∧ RL w w x rg nr m re th ol sz am fd ι Y O G
section KS
variable {w w' W W' W1 : Wd} {x rg nr yg ya ly og oa lo tr fa m re th ol sz am fd rc o : Nat} {Y O F G R0 A : List Nat} {ι : Nat → Nat} {ρ : Nat → Bool}
theorem KS_of (hs : wK w o = some (.inr (2, 1))) (hC : FrC w W) (M0 : MS W m re th ol sz am fd rc nr ly lo) (hF : FrM [m, th, ol, sz, am, rc] W W') (H : CI W x rg nr yg ya ly og oa lo tr fa Y O F G) (M : MS W' m re th ol sz am fd rc nr ly lo) (R : RL W W' x rg nr m re th ol sz am fd ι Y O G) : KS W' x rg nr yg ya ly og oa lo tr fa m re th ol sz am fd rc o := by
  have b := hC o _ hs rfl
  have hA := MS_mdA M0
  exact ⟨(hF.1 o).trans b.1, Y, O, F, G, ι, CI_frM hA hF H, M, RL_frM hA hF H R⟩
theorem FrM_u0 {v : Int32} : FrM [m, th, ol, sz, am, rc] W (uI W m 0 v) := FrM_uI (by simp)
theorem FrM_rc : FrM [m, th, ol, sz, am, rc] W (rcW W rc ρ) := FrM_aI (by simp)
theorem FrM_cl : FrM [m, th, ol, sz, am, rc] W (clW W m th ol am rc ρ) := FrM_trans (FrM_trans (FrM_trans FrM_rc (FrM_uI (by simp))) (FrM_aI (by simp))) (FrM_aI (by simp))
theorem FrM_gr : FrM [m, th, ol, sz, am, rc] W (grW W m th ol am rc ρ) := FrM_trans (FrM_trans (FrM_trans (FrM_trans FrM_rc (FrM_uI (by simp))) (FrM_aI (by simp))) (FrM_aI (by simp))) (FrM_aI (by simp))
theorem FrM_GrS (h : GrS W W1 m re th ol sz am fd rc nr lo) : FrM [m, th, ol, sz, am, rc] W W1 := by
  rcases h with ⟨-, rfl⟩ | ⟨-, ρ', -, rfl⟩
  · exact FrM_refl _ _
  · exact FrM_cl
theorem FrM_GrE {q : Option Value} (h : GrE W m re th ol sz am fd rc nr lo q W1) : FrM [m, th, ol, sz, am, rc] W W1 := by
  obtain ⟨ρ', -, ⟨-, -, rfl⟩ | ⟨-, -, rfl⟩⟩ := h
  · exact FrM_gr
  · exact FrM_rc
theorem FrM_RoE {c q : Int32} (h : RoE W m re th ol sz am fd rc nr ly lo c q W1) : FrM [m, th, ol, sz, am, rc] W W1 := by
  rcases h with ⟨-, -, rfl⟩ | ⟨-, v, -, w1, h1, h2⟩
  · exact FrM_refl _ _
  · exact FrM_trans (FrM_GrS h1) (FrM_GrE h2)
theorem KS_u0 {v : Int32} (h : KS w x rg nr yg ya ly og oa lo tr fa m re th ol sz am fd rc o) : KS (uI w m 0 v) x rg nr yg ya ly og oa lo tr fa m re th ol sz am fd rc o := by
  obtain ⟨hs, Y, O, F, G, ι, H, M, R⟩ := h
  exact KS_of hs (FrC_refl w) M FrM_u0 H (MS_uI (Or.inl rfl) M) (RL_u0 M H R)
/-- what a register holds, on both sides -/
theorem reg_two (H : CI w x rg nr yg ya ly og oa lo tr fa Y O F G) (R : RL w W x rg nr m re th ol sz am fd ι Y O G) {r : Int32} (hr : regB nr r) : VR w ι (held w rg nr r) (wL W re r.toNatClampNeg) ∧ oV w (held w rg nr r) ∧ oB w G (held w rg nr r) := by
  have hRg := H.1.1
  have hnr : nr < 1000 := hRg.2.2.2.2
  obtain ⟨j, hj, rfl⟩ := nI_of1 (n := nr) (by omega) ((regB_lt hRg.2.2.2.1 hRg.2.2.2.2).mp hr).1 ((regB_lt hRg.2.2.2.1 hRg.2.2.2.2).mp hr).2
  rw [held_at hRg.2.2.2.2 hj, nI_clamp (by omega)]
  exact ⟨R.2.2.2.2.2.2.2.2.2.1 j hj, H.2.1.2.2.2 j hj, H.2.2.2.2.2.2.2.2.2.2.2.2.2.1 j hj⟩
theorem plc_two (H : CI w x rg nr yg ya ly og oa lo tr fa Y O F G) (R : RL w W x rg nr m re th ol sz am fd ι Y O G) (r : Int32) : (plc W re nr r = -1 ∧ only w (isTb w) (held w rg nr r) = none) ∨ ∃ t, t ∈ G ∧ t ∈ Y ++ O ∧ ι t < 200 ∧ isTb w t = true ∧ regB nr r ∧ held w rg nr r = some t ∧ plc W re nr r = nI (ι t) ∧ wL W re r.toNatClampNeg = RF (ι t) ∧ only w (isTb w) (held w rg nr r) = some t := by
  by_cases hr : regB nr r
  · obtain ⟨hv, ho, hb⟩ := reg_two H R hr
    cases e : held w rg nr r with
    | none =>
      rw [e] at hv
      have hv' : wL W re r.toNatClampNeg = 1099511627776 := hv
      refine Or.inl ⟨?_, rfl⟩
      rw [plc, if_neg (fun q => absurd (hv' ▸ q.2) (by decide))]
    | some t =>
      rw [e] at hv
      rcases hv with ⟨h1, h2⟩ | ⟨h1, h2, -⟩
      · have hG := hb t e h1
        have hY := RL_G H hG
        refine Or.inr ⟨t, hG, hY, R.1 t hY, h1, hr, rfl, ?_, h2, by rw [only, if_pos h1]⟩
        rw [plc, if_pos ⟨hr, by rw [h2]; exact RF_ge (R.1 t hY)⟩, h2, RF_i]
      · refine Or.inl ⟨?_, by rw [only, if_neg (by rw [isTb_no h1]; decide)]⟩
        rw [plc, if_neg (fun q => ?_)]
        have := Int64.lt_of_lt_of_le (b := 2199023255552) (h2 ▸ whole_lt.2) q.2
        exact absurd this Int64.lt_irrefl
  · exact Or.inl ⟨by rw [plc, if_neg (fun q => hr q.1)], by rw [held_no hr]; rfl⟩
end KS
