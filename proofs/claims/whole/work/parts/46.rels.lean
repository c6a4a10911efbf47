/-! the small collection on both sides -/
section RS
variable {w w' W W' : Wd} {x rg nr yg ya ly og oa lo tr fa m re th ol sz am fd rc : Nat} {Y O F G R0 : List Nat} {ι : Nat → Nat} {ρ : Nat → Bool}
theorem grW_facts (M : MS W m re th ol sz am fd rc nr ly lo) (ha : amok W am) : amok (grW W m th ol am rc ρ) am ∧ (∀ p, wI (grW W m th ol am rc ρ) sz p = wI W sz p) ∧ (∀ p, p < 200 → wI (grW W m th ol am rc ρ) th p = grT W th ol ρ p) ∧ (∀ p, p < 200 → wI (grW W m th ol am rc ρ) ol p = grO W th ol p) ∧ (∀ p, p < 200 → wI (grW W m th ol am rc ρ) am p = cutA (grT W th ol ρ) (wI W am p)) ∧ wI (grW W m th ol am rc ρ) m 11 = wI W m 11 + 1 ∧ wI (grW W m th ol am rc ρ) m 12 = wI W m 12 := by
  obtain ⟨⟨e1, e2, e3, e4, e5, e6⟩, ⟨f1, f2, f3, f4, f5, f6, f7⟩, -⟩ := MS_ne M
  obtain ⟨n1, n2, n3, n4⟩ := M.2.2.2.2.2.2.2.2.2.1
  have bm : ∀ {b k : Nat}, b ≠ m → wI (uI (rcW W rc ρ) m 11 (wI W m 11 + 1)) b k = wI (rcW W rc ρ) b k := fun h => by rw [wI_uI, if_neg (fun q => h q.1)]
  have ram : ∀ p, p < 200 → wI (grW W m th ol am rc ρ) am p = cutA (grT W th ol ρ) (wI W am p) := fun p hp => by rw [grW, aI_in hp]
  refine ⟨fun p hp => by rw [ram p hp]; exact cutA_ok (ha p hp), fun p => ?_, fun p hp => ?_, fun p hp => ?_, ram, ?_, ?_⟩
  · rw [grW, aI_out (Or.inl n4), aI_out (Or.inl (Ne.symm e3)), aI_out (Or.inl (Ne.symm e1)), bm (Ne.symm f3), rcW_no (Ne.symm e5)]
  · rw [grW, aI_out (Or.inl e2), aI_out (Or.inl n1), aI_in hp]
  · rw [grW, aI_out (Or.inl e4), aI_in hp]
  · rw [grW, aI_out (Or.inl f4), aI_out (Or.inl f2), aI_out (Or.inl f1), wI_uI, if_pos ⟨rfl, rfl⟩]
  · rw [grW, aI_out (Or.inl f4), aI_out (Or.inl f2), aI_out (Or.inl f1), wI_uI, if_neg (by simp), rcW_no f5]
theorem isYo_iff {p : Nat} : isYo W th ol p = true ↔ wI W th p ≠ 0 ∧ wI W ol p = 0 := by simp [isYo]
/-- the seeds of the small search, besides the old themselves -/
abbrev sdS (w : Wd) (rg nr : Nat) (O : List Nat) (u : Nat) : Prop := (∃ r, r < nr ∧ wP w rg r = some u ∧ isTb w u = true) ∨ ∃ t, t ∈ O ∧ some u ∈ sucL w t ∧ isTb w u = true
theorem sdS_G (H : CI w x rg nr yg ya ly og oa lo tr fa Y O F G) : ∀ t, sdS w rg nr O t → t ∈ G := fun t h => by
  have hG := H.2.2.2.2.2.2.2.2.2.2
  rcases h with h | ⟨u, hu, h1, h2⟩
  · exact reg_G H t h
  · exact hG.2.2.2.2.1 u (hG.2.2.1 u hu) (some t) h1 t rfl h2
theorem old_seed (H : CI w x rg nr yg ya ly og oa lo tr fa Y O F G) (R : RL w W x rg nr m re th ol sz am fd ι Y O G) : ∀ k, k < 200 → (seedO W re th ol fd sz nr k = true ↔ ∃ t, sdS w rg nr O t ∧ ι t = k) := fun k hk => by
  have hG := H.2.2.2.2.2.2.2.2.2.2
  rw [seedO, pasO_iff, reg_seed H R k hk]
  constructor
  · rintro (⟨t, h, e⟩ | ⟨p, hp, ⟨h1, h2⟩, h3⟩)
    · exact ⟨t, Or.inl h, e⟩
    · obtain ⟨t, ht, rfl⟩ := (R.2.2.1 p hp).mp h1
      rcases List.mem_append.mp ht with q | q
      · exact absurd (R.2.2.2.1 t q) h2
      · obtain ⟨o, ho, hv⟩ := fld_to H R (hG.2.2.1 t q) h3
        obtain ⟨u, rfl, hu, e⟩ := VR_RF hk hv (fun u e hu => R.1 u (RL_G H (hG.2.2.2.2.1 t (hG.2.2.1 t q) o ho u e hu)))
        exact ⟨u, Or.inr ⟨t, q, ho, hu⟩, e⟩
  · rintro ⟨u, h | ⟨t, q, ho, hu⟩, rfl⟩
    · exact Or.inl ⟨u, h, rfl⟩
    · obtain ⟨v, hv, hr⟩ := fld_of H R (hG.2.2.1 t q) ho
      rw [VR_thing hr hu] at hv
      exact Or.inr ⟨ι t, R.1 t (List.mem_append_right _ q), ⟨RL_there R (List.mem_append_right _ q), by rw [R.2.2.2.2.1 t q]; decide⟩, hv⟩
theorem Rc_sd {t : Nat} (ht : t ∉ O) : Rc w (fun u => (∃ r, r < nr ∧ wP w rg r = some u ∧ isTb w u = true) ∨ u ∈ O) t ↔ Rc w (sdS w rg nr O) t := by
  constructor
  · intro h
    have key : t ∈ O ∨ Rc w (sdS w rg nr O) t := h (fun u => u ∈ O ∨ Rc w (sdS w rg nr O) u) (fun u hu => by
      rcases hu with q | q
      · exact Or.inr (fun S a _ => a u (Or.inl q))
      · exact Or.inl q) (fun u hu v hv hvt => by
      rcases hu with q | q
      · exact Or.inr (fun S a _ => a v (Or.inr ⟨u, q, hv, hvt⟩))
      · exact Or.inr (fun S a b => b u (q S a b) v hv hvt))
    exact key.resolve_left ht
  · intro h S a b
    refine h S (fun u hu => ?_) b
    rcases hu with q | ⟨t', q, hs, hu⟩
    · exact a u (Or.inl q)
    · exact b t' (a t' (Or.inr q)) u hs hu
theorem RL_small (H : CI w x rg nr yg ya ly og oa lo tr fa Y O F G) (R : RL w W x rg nr m re th ol sz am fd ι Y O G) (M : MS W m re th ol sz am fd rc nr ly lo) (hRc : ∀ t, t ∈ R0 ↔ Rc w (fun u => (∃ r, r < nr ∧ wP w rg r = some u ∧ isTb w u = true) ∨ u ∈ O) t) (hL : Least W fd sz (seedO W re th ol fd sz nr) ρ) :
    (∀ w', CF w w' Y O R0 → wI w' x 4 = wI w x 4 + 1 → wI w' x 5 = wI w x 5 → RL w' (grW W m th ol am rc ρ) x rg nr m re th ol sz am fd ι [] (O ++ Y.filter (inL R0)) R0) ∧ sumTo (kepF W th ol sz ρ) 200 = nI (sumN w (Y.filter (inL R0))) := by
  obtain ⟨r1, r2, r3, r4, r5, r6, r7, r8, r9, r10, r11, r12⟩ := id R
  have hG := H.2.2.2.2.2.2.2.2.2.2
  have hnd := H.2.2.2.2.2.2.1
  rw [List.nodup_append] at hnd
  have hYO : ∀ t, t ∈ Y → t ∉ O := fun t h h' => hnd.2.2 t h t h' rfl
  have hρ : ∀ t, t ∈ Y → (ρ (ι t) = true ↔ t ∈ R0) := fun t ht => ((RL_least H R (sdS_G H) (old_seed H R) hL).1 t (List.mem_append_left _ ht)).trans ((Rc_sd (hYO t ht)).symm.trans (hRc t).symm)
  have hOR : ∀ t, t ∈ O → t ∈ R0 := fun t ht => (hRc t).mpr (fun S a _ => a t (Or.inr ht))
  have hRG : ∀ t, t ∈ R0 → t ∈ G := fun t ht => Rc_G H (fun u hu => by
    rcases hu with q | q
    · exact reg_G H u q
    · exact hG.2.2.1 u q) ((hRc t).mp ht)
  have inY : ∀ t, t ∈ Y → isYo W th ol (ι t) = true := fun t ht => isYo_iff.mpr ⟨RL_there R (List.mem_append_left _ ht), r4 t ht⟩
  have inO : ∀ t, t ∈ O → ¬ isYo W th ol (ι t) = true := fun t ht h => by
    have := (isYo_iff.mp h).2
    rw [r5 t ht] at this
    exact absurd this (by decide)
  constructor
  · intro w' hC h4 h5
    have sub : ∀ t, t ∈ [] ++ (O ++ Y.filter (inL R0)) → t ∈ Y ++ O := fun t ht => by
      rw [List.nil_append] at ht
      rcases List.mem_append.mp ht with h | h
      · exact List.mem_append_right _ h
      · exact List.mem_append_left _ (List.mem_filter.mp h).1
    obtain ⟨m1, m2, m3, m4, m5, m6, m7⟩ := grW_facts (ρ := ρ) M r9
    obtain ⟨c1, c2, c3, c4, c5, c6, c7, c8⟩ := id hC
    have hsuc : ∀ t, sucL w' t = sucL w t := fun t => CF_suc hC H.2.1 t
    have vr : ∀ {o v}, VR w ι o v → VR w' ι o v := fun h => VR_congr (fun b d e => (c1 b).trans e) (fun b _ => c2 b) (fun _ _ _ => rfl) h
    have fgr : ∀ u, u ∈ Y ++ O → (grT W th ol ρ (ι u) = 0 ↔ u ∉ R0) := fun u hu => by
      rcases List.mem_append.mp hu with q | q
      · rw [grT, if_pos (inY u q), bI_0]
        constructor
        · intro e h; rw [(hρ u q).mpr h] at e; cases e
        · intro e
          cases g : ρ (ι u) with
          | false => rfl
          | true => exact absurd ((hρ u q).mp g) e
      · rw [grT, if_neg (inO u q)]
        exact ⟨fun e => absurd e (RL_there R hu), fun e => absurd (hOR u q) e⟩
    refine ⟨fun t ht => r1 t (sub t ht), fun t ht u hu => r2 t (sub t ht) u (sub u hu), fun p hp => ?_, fun t ht => absurd ht (by simp), fun t ht => ?_, fun t ht => ?_, fun t ht k o e => ?_, fun t ht e => ?_, m1, fun r hr => ?_, ?_, ?_⟩
    · rw [m3 p hp]
      constructor
      · intro h
        have hth : wI W th p ≠ 0 := fun e => by
          rw [grT, if_neg (fun q => (isYo_iff.mp q).1 e)] at h; exact h e
        obtain ⟨t, ht, rfl⟩ := (r3 p hp).mp hth
        refine ⟨t, ?_, rfl⟩
        rw [List.nil_append]
        rcases List.mem_append.mp ht with q | q
        · refine List.mem_append_right _ (List.mem_filter.mpr ⟨q, inL_iff.mpr (Classical.byContradiction (fun g => h ((fgr t ht).mpr g)))⟩)
        · exact List.mem_append_left _ q
      · rintro ⟨t, ht, rfl⟩ e
        refine (fgr t (sub t ht)).mp e ?_
        rw [List.nil_append] at ht
        rcases List.mem_append.mp ht with q | q
        · exact hOR t q
        · exact inL_iff.mp (List.mem_filter.mp q).2
    · rw [m4 _ (r1 t (sub t ht)), grO]
      rcases List.mem_append.mp ht with q | q
      · rw [if_neg (inO t q)]; exact r5 t q
      · rw [if_pos (inY t (List.mem_filter.mp q).1)]
    · rw [m2, szC, c1, hsuc]; exact r6 t (sub t ht)
    · rw [hsuc] at e; exact vr (r7 t (hRG t ht) k o e)
    · rw [c1] at e
      have ht' := RL_G H (hRG t ht)
      rw [c5 t e ht', m5 _ (r1 t ht')]
      refine cutA_AR (r8 t (hRG t ht) e) (fun u hu => ?_)
      have huG := RL_G H (hG.2.2.2.2.2 t (hRG t ht) u e hu)
      exact ⟨r1 u huG, fgr u huG⟩
    · rw [c4 rg nr H.1.1.2.2.1]; exact vr (r10 r hr)
    · rw [m6, h4, r11]
    · rw [m7, h5]; exact r12
  · refine RL_sum H R (S := Y.filter (inL R0)) (hnd.1.sublist List.filter_sublist) (fun t ht => List.mem_append_left _ (List.mem_filter.mp ht).1) (fun t ht => ?_) (fun p hp hno => ?_)
    · obtain ⟨q1, q2⟩ := List.mem_filter.mp ht
      rw [kepF, if_pos (by rw [inY t q1, (hρ t q1).mpr (inL_iff.mp q2)]; rfl)]
    · rw [kepF]
      refine if_neg (fun h => ?_)
      rw [Bool.and_eq_true] at h
      obtain ⟨g1, g2⟩ := isYo_iff.mp h.1
      obtain ⟨t, ht, rfl⟩ := (r3 p hp).mp g1
      rcases List.mem_append.mp ht with q | q
      · exact hno t (List.mem_filter.mpr ⟨q, inL_iff.mpr ((hρ t q).mp h.2)⟩) rfl
      · exact inO t q h.1
/-- ahead of a small collection: nothing, or a great one, on both sides alike -/
theorem RL_st1 {wA W1 : Wd} {O1 F1 G1 : List Nat} (H : CI w x rg nr yg ya ly og oa lo tr fa Y O F G) (R : RL w W x rg nr m re th ol sz am fd ι Y O G) (M : MS W m re th ol sz am fd rc nr ly lo) (hs : St1 w wA x rg nr ly og oa lo tr fa Y O F G O1 F1 G1) (hg : GrS W W1 m re th ol sz am fd rc nr lo) : RL wA W1 x rg nr m re th ol sz am fd ι Y O1 G1 := by
  obtain ⟨t0, t1⟩ := RL_tak H R
  have hsum : sumN w Y ≤ ly ∧ sumN w O ≤ lo := H.2.2.2.2.2.2.2.1
  have hly := H.1.2.2.2.2.2.2.2.2.2.1
  have hlo := H.1.2.2.2.2.2.2.2.2.2.2.1
  have hc : (nI lo - sumTo (takF W th ol sz 1) 200 < sumTo (takF W th ol sz 0) 200) ↔ lo - sumN w O < sumN w Y := by
    rw [t0, t1, free_eq hsum.2, nI_ltI (by omega) (by omega)]
  rcases hs with ⟨a1, rfl, rfl, rfl, rfl⟩ | ⟨a1, rfl, rfl, rfl, rfl⟩ <;> rcases hg with ⟨b1, rfl⟩ | ⟨b1, ρ', hL, rfl⟩
  · exact R
  · exact absurd (hc.mp b1) (by omega)
  · exact absurd (hc.mpr a1) b1
  · have hR := CI_colR H
    obtain ⟨k1, k2, k3⟩ := CF_colO (R := colR w rg nr (ly + lo) tr F) H (fun t ht => CI_thing H (hR.1.2.1 t ht))
    exact (RL_great H R M hR.2 k1 k2 k3 hL).1
/-- the small collection itself -/
theorem RL_gr {W2 : Wd} {q : Option Value} (H : CI w x rg nr yg ya ly og oa lo tr fa Y O F G) (R : RL w W x rg nr m re th ol sz am fd ι Y O G) (M : MS W m re th ol sz am fd rc nr ly lo) (hg : GrE W m re th ol sz am fd rc nr lo q W2) :
    (fitY w rg nr ly lo tr oa Y O F ∧ q = some (.int (nI (sumN w (Y.filter (inL (colS w rg nr (ly + lo) tr oa O F)))))) ∧ RL (colYW w x yg ya og oa tr fa Y O F (colS w rg nr (ly + lo) tr oa O F)) W2 x rg nr m re th ol sz am fd ι [] (O ++ Y.filter (inL (colS w rg nr (ly + lo) tr oa O F))) (colS w rg nr (ly + lo) tr oa O F)) ∨
    (¬ fitY w rg nr ly lo tr oa Y O F ∧ q = some (.int (-1)) ∧ RL w W2 x rg nr m re th ol sz am fd ι Y O G) := by
  obtain ⟨ρ', hL, hg⟩ := hg
  have hS := CI_colS H
  obtain ⟨s1, s2⟩ := RL_small H R M hS.2.2 hL
  have hsum : sumN w Y ≤ ly ∧ sumN w O ≤ lo := H.2.2.2.2.2.2.2.1
  have hly := H.1.2.2.2.2.2.2.2.2.2.1
  have hlo := H.1.2.2.2.2.2.2.2.2.2.2.1
  have hfl : sumN w (Y.filter (inL (colS w rg nr (ly + lo) tr oa O F))) ≤ sumN w Y := sum_filt (f := szw w) (p := inL (colS w rg nr (ly + lo) tr oa O F)) Y
  have hc : (sumTo (kepF W th ol sz ρ') 200 ≤ nI lo - sumTo (takF W th ol sz 1) 200) ↔ fitY w rg nr ly lo tr oa Y O F := by
    rw [s2, (RL_tak H R).2, free_eq hsum.2, nI_leI (by omega) (by omega)]
  rcases hg with ⟨b1, rfl, rfl⟩ | ⟨b1, rfl, rfl⟩
  · obtain ⟨k1, k2, k3⟩ := CF_colY (R := colS w rg nr (ly + lo) tr oa O F) H (fun t ht => CI_thing H (hS.1.2.1 t ht))
    exact Or.inl ⟨hc.mp b1, by rw [s2], s1 _ k1 k2 k3⟩
  · exact Or.inr ⟨fun h => b1 (hc.mpr h), rfl, RL_rc M H R⟩
end RS
