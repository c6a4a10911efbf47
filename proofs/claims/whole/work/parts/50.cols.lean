/-! reach, great, small: alike on both sides -/
section OC
variable {w w' w1 wA W W' Wm W1 W2 : Wd} {x rg nr yg ya ly og oa lo tr fa m re th ol sz am fd rc o : Nat} {Y O F G R0 A O1 F1 G1 : List Nat} {ι : Nat → Nat} {ρ : Nat → Bool} {r r2 r3 k v : Int32}
theorem RL_tf (hT : TF w w') (H : CI w x rg nr yg ya ly og oa lo tr fa Y O F G) (R : RL w W x rg nr m re th ol sz am fd ι Y O G) : RL w' W x rg nr m re th ol sz am fd ι Y O G := by
  obtain ⟨t1, t2, t3, t4, t5, t6, t7, -⟩ := hT
  exact RL_cl H R (fun b d h => (t1 b).trans h) (fun b _ => t2 b) (fun t _ => sucL_congr t1 t3 t4 H.2.1 t) t5 (fun q _ => t4 rg nr H.1.1.2.2.1 q) (t7 x 4 H.1.1.1) (t7 x 5 H.1.1.1)
theorem len_R {R : List Nat} (H : CI w x rg nr yg ya ly og oa lo tr fa Y O F G) (h1 : R.Nodup) (h2 : ∀ t ∈ R, t ∈ Y ++ O) : R.length ≤ ly + lo := by
  obtain ⟨-, hT, hY, hO, -, -, -, ⟨g1, g2⟩, -, -, -⟩ := H
  have e1 := h1.length_le_of_subset (fun t ht => h2 t ht)
  have e2 := sz_len (w := w) (xs := Y) (fun t ht => (HT_sz hT (GeL_mem hY ht)).2.1)
  have e3 := sz_len (w := w) (xs := O) (fun t ht => (HT_sz hT (GeL_mem hO ht)).2.1)
  rw [List.length_append] at e1
  omega
theorem op_great (hs : wK w o = some (.inr (2, 1))) (H : CI w x rg nr yg ya ly og oa lo tr fa Y O F G) (M : MS w m re th ol sz am fd rc nr ly lo) (R : RL w w x rg nr m re th ol sz am fd ι Y O G) (hW : W = colOW w x og oa tr fa Y O F (colR w rg nr (ly + lo) tr F)) (hL : Least (uI W m 0 0) fd sz (mks (fun _ => false) (regL (uI W m 0 0) re nr)) ρ) (hW' : W' = clW (uI W m 0 0) m th ol am rc ρ) :
    sumTo (freF (uI W m 0 0) th ol sz ρ) 200 = sumI w O - sumI w (O.filter (inL (colR w rg nr (ly + lo) tr F))) ∧ KS W' x rg nr yg ya ly og oa lo tr fa m re th ol sz am fd rc o := by
  have hR := CI_colR H
  obtain ⟨k1, k2, k3⟩ := CF_colO (R := colR w rg nr (ly + lo) tr F) H (fun t ht => CI_thing H (hR.1.2.1 t ht))
  have hC := CI_colO H hR.1
  rw [← hW] at k1 k2 k3 hC
  have hFC := k1.2.2.2.2.2.2.2
  have M2 := MS_frC hFC M
  have M3 : MS (uI W m 0 0) m re th ol sz am fd rc nr ly lo := MS_uI (Or.inl rfl) M2
  have R3 := RL_u0 (v := 0) M2 H (RL_frC hFC M H R)
  obtain ⟨g1, g2⟩ := RL_great H R3 M3 hR.2 k1 k2 k3 hL
  refine ⟨g2, ?_⟩
  rw [hW']
  exact KS_of hs hFC M2 (FrM_trans FrM_u0 FrM_cl) hC (clW_facts M3 R3.2.2.2.2.2.2.2.2.1).1 g1
theorem op_reach {q : Option Value} (hs : wK w o = some (.inr (2, 1))) (H : CI w x rg nr yg ya ly og oa lo tr fa Y O F G) (M : MS w m re th ol sz am fd rc nr ly lo) (R : RL w w x rg nr m re th ol sz am fd ι Y O G) (hW : W = trW (rsW w tr F) tr fa (rchR w rg nr (ly + lo) tr F r)) (hm : (plc W re nr r = -1 ∧ q = some (.int 0) ∧ W' = uI W m 0 0) ∨ (∃ p j ρ, p < 200 ∧ j < nr ∧ r = nI j ∧ plc W re nr r = nI p ∧ wL W re j = RF p ∧ Least (uI W m 0 0) fd sz (mk (fun _ => false) (RF p)) ρ ∧ q = some (.int (sumTo (reaF W sz ρ) 200)) ∧ W' = rcW (uI W m 0 0) rc ρ)) :
    q = some (.int (sumI w (rchR w rg nr (ly + lo) tr F r))) ∧ KS W' x rg nr yg ya ly og oa lo tr fa m re th ol sz am fd rc o := by
  obtain ⟨a1, a2, a3⟩ := CI_rchR (r := r) H
  generalize rchR w rg nr (ly + lo) tr F r = Rr at *
  have hRT : ∀ t ∈ Rr, isTb w t = true := fun t ht => CI_G H (a2 t ht)
  have hC := CI_tr (R := Rr) H (len_R H a1 (fun t ht => RL_G H (a2 t ht))) hRT
  have hTF := TF_tr (R := Rr) H hRT
  rw [← hW] at hC hTF
  have hFC := hTF.2.2.2.2.2.2.2
  have M2 := MS_frC hFC M
  have R2 := RL_frC hFC M H R
  have R3 := RL_u0 (v := 0) M2 H R2
  have M3 : MS (uI W m 0 0) m re th ol sz am fd rc nr ly lo := MS_uI (Or.inl rfl) M2
  rcases hm with ⟨h1, rfl, rfl⟩ | ⟨p, j, ρ, hp, hj, rfl, h1, h2, hL, rfl, rfl⟩
  · rcases plc_two H R2 r with ⟨-, ho⟩ | ⟨t, -, -, hl, -, -, -, hp, -, -⟩
    · have hnil : Rr = [] := List.eq_nil_iff_forall_not_mem.mpr (fun t ht => (a3 t).mp ht (fun _ => False) (fun u hu => by rw [hu.1, only, if_pos hu.2] at ho; cases ho) (fun _ h _ _ _ => h))
      refine ⟨?_, KS_of hs hFC M2 FrM_u0 hC M3 (RL_tf hTF H R3)⟩
      rw [hnil, show sumI w [] = nI 0 from rfl, nI_0]
    · rw [h1] at hp
      exact absurd (hp ▸ m1_neg) (nI_pos (by omega))
  · rcases plc_two H R2 (nI j) with ⟨hq, -⟩ | ⟨t, htG, htY, hl, htT, -, hh, hq, -, -⟩
    · rw [hq] at h1
      exact absurd (h1 ▸ m1_neg) (nI_pos (by omega))
    · rw [hq] at h1
      have e := (nI_eq (by omega) (by omega)).mp h1
      subst e
      obtain ⟨l1, l2⟩ := RL_least H R3 (S0 := fun u => held w rg nr (nI j) = some u ∧ isTb w u = true) (fun u hu => by rw [hh] at hu; cases hu.1; exact htG) (fun k hk => by
        rw [hh, mk, Bool.false_or, decide_eq_true_iff, RF_inj hl hk]
        refine ⟨fun e => ⟨t, ⟨rfl, htT⟩, e⟩, fun ⟨u, hu, e⟩ => ?_⟩
        cases hu.1; exact e) hL
      refine ⟨?_, KS_of hs hFC M2 (FrM_trans FrM_u0 FrM_rc) hC (grW_MS M3).2 (RL_tf hTF H (RL_rc M3 H R3))⟩
      have hsum := RL_sum H R2 (S := Rr) (f := reaF W sz ρ) a1 (fun u hu => RL_G H (a2 u hu)) (fun u hu => ?_) (fun p hp hno => ?_)
      · rw [hsum]; rfl
      · rw [reaF, if_pos ((l1 u (RL_G H (a2 u hu))).mpr ((a3 u).mp hu))]
      · rw [reaF]
        refine if_neg (fun g => ?_)
        obtain ⟨u, hu, e⟩ := l2 p hp g
        exact hno u ((a3 u).mpr hu) e
/-! the small collection, from its start -/
theorem St1_fr (H : CI w x rg nr yg ya ly og oa lo tr fa Y O F G) (h : St1 w wA x rg nr ly og oa lo tr fa Y O F G O1 F1 G1) : FrC w wA := by
  rcases h with ⟨-, rfl, -⟩ | ⟨-, rfl, -⟩
  · exact FrC_refl _
  · exact (CF_colO (R := colR w rg nr (ly + lo) tr F) H (fun t ht => CI_thing H ((CI_colR H).1.2.1 t ht))).1.2.2.2.2.2.2.2
theorem St1_ex (w : Wd) (x rg nr ly og oa lo tr fa : Nat) (Y O F G : List Nat) : ∃ wA O1 F1 G1, St1 w wA x rg nr ly og oa lo tr fa Y O F G O1 F1 G1 := by
  by_cases h : sumN w Y ≤ lo - sumN w O
  · exact ⟨_, _, _, _, Or.inl ⟨h, rfl, rfl, rfl, rfl⟩⟩
  · exact ⟨_, _, _, _, Or.inr ⟨Nat.lt_of_not_le h, rfl, rfl, rfl, rfl⟩⟩
/-- a search that ends a small collection early -/
theorem bad_two (H : CI w x rg nr yg ya ly og oa lo tr fa Y O F G) (R : RL w W x rg nr m re th ol sz am fd ι Y O G) (hW : w' = trW (rsW w tr F) tr fa (colS w rg nr (ly + lo) tr oa O F)) : FrC w w' ∧ CI w' x rg nr yg ya ly og oa lo tr fa Y O (colS w rg nr (ly + lo) tr oa O F) G ∧ RL w' W x rg nr m re th ol sz am fd ι Y O G := by
  have hS := (CI_colS H).1
  have hRT : ∀ t ∈ colS w rg nr (ly + lo) tr oa O F, isTb w t = true := fun t ht => CI_thing H (hS.2.1 t ht)
  have hC := CI_tr (R := colS w rg nr (ly + lo) tr oa O F) H (len_R H hS.1 hS.2.1) hRT
  have hTF := TF_tr (R := colS w rg nr (ly + lo) tr oa O F) H hRT
  rw [← hW] at hC hTF
  exact ⟨hTF.2.2.2.2.2.2.2, hC, RL_tf hTF H R⟩
theorem small_two (H : CI w x rg nr yg ya ly og oa lo tr fa Y O F G) (R : RL w Wm x rg nr m re th ol sz am fd ι Y O G) (M : MS Wm m re th ol sz am fd rc nr ly lo) (hS : St1 w wA x rg nr ly og oa lo tr fa Y O F G O1 F1 G1) (h1 : GrS Wm W1 m re th ol sz am fd rc nr lo) (h2 : GrE W1 m re th ol sz am fd rc nr lo (some (.int v)) W2) :
    (fitY wA rg nr ly lo tr oa Y O1 F1 ∧ v = nI (sumN wA (Y.filter (inL (colS wA rg nr (ly + lo) tr oa O1 F1)))) ∧ ¬ v < 0 ∧ RL (colYW wA x yg ya og oa tr fa Y O1 F1 (colS wA rg nr (ly + lo) tr oa O1 F1)) W2 x rg nr m re th ol sz am fd ι [] (O1 ++ Y.filter (inL (colS wA rg nr (ly + lo) tr oa O1 F1))) (colS wA rg nr (ly + lo) tr oa O1 F1) ∧ CI (colYW wA x yg ya og oa tr fa Y O1 F1 (colS wA rg nr (ly + lo) tr oa O1 F1)) x rg nr yg ya ly og oa lo tr fa [] (O1 ++ Y.filter (inL (colS wA rg nr (ly + lo) tr oa O1 F1))) (colS wA rg nr (ly + lo) tr oa O1 F1) (colS wA rg nr (ly + lo) tr oa O1 F1)) ∨
    (¬ fitY wA rg nr ly lo tr oa Y O1 F1 ∧ v = -1 ∧ v < 0 ∧ RL wA W2 x rg nr m re th ol sz am fd ι Y O1 G1) := by
  have HA := St1_CI H hS
  have M1 := (GrS_MS M R.2.2.2.2.2.2.2.2.1 h1).1
  have hsum : sumN wA Y ≤ ly := HA.2.2.2.2.2.2.2.1.1
  have hly := H.1.2.2.2.2.2.2.2.2.2.1
  rcases RL_gr HA (RL_st1 H R M hS h1) M1 h2 with ⟨g1, g2, g3⟩ | ⟨g1, g2, g3⟩
  · cases g2
    have hfl : sumN wA (Y.filter (inL (colS wA rg nr (ly + lo) tr oa O1 F1))) ≤ sumN wA Y := sum_filt (f := szw wA) (p := inL (colS wA rg nr (ly + lo) tr oa O1 F1)) Y
    exact Or.inl ⟨g1, rfl, nI_pos (by omega), g3, CI_colY HA (CI_colS HA).1 (CI_colS HA).2.1 g1⟩
  · cases g2
    exact Or.inr ⟨g1, rfl, m1_neg, g3⟩
theorem RL_out {z : Int64} (M : MS W m re th ol sz am fd rc nr ly lo) (ho : wK W o = some (.inr (2, 1))) (H : CI w x rg nr yg ya ly og oa lo tr fa Y O F G) (R : RL w W x rg nr m re th ol sz am fd ι Y O G) : RL w (uL W o 0 z) x rg nr m re th ol sz am fd ι Y O G := by
  obtain ⟨-, -, ⟨-, k4⟩, -, -, -, -, ⟨-, k9⟩, -⟩ := M
  refine RL_mo R H (fun _ _ => rfl) (fun _ _ => rfl) (fun _ _ => rfl) (fun _ _ => rfl) (fun q => ?_) (fun q => ?_) rfl rfl
  · rw [wL_uL, if_neg (fun e => by rw [← e.1, k9] at ho; cases ho)]
  · rw [wL_uL, if_neg (fun e => by rw [← e.1, k4] at ho; cases ho)]
/-- the small call: k is what the class's side says, b the model's answer -/
theorem op_small {b : Int32} (hs : wK w o = some (.inr (2, 1))) (H : CI w x rg nr yg ya ly og oa lo tr fa Y O F G) (M : MS w m re th ol sz am fd rc nr ly lo) (R : RL w w x rg nr m re th ol sz am fd ι Y O G)
    (hc : (k = 0 ∧ ∃ wA O1 F1 G1, St1 w wA x rg nr ly og oa lo tr fa Y O F G O1 F1 G1 ∧ fitY wA rg nr ly lo tr oa Y O1 F1 ∧ W = uL (colYW wA x yg ya og oa tr fa Y O1 F1 (colS wA rg nr (ly + lo) tr oa O1 F1)) o 0 (nI (sumN wA (Y.filter (inL (colS wA rg nr (ly + lo) tr oa O1 F1))))).toInt64) ∨ (k = 1 ∧ ∃ wA O1 F1 G1, St1 w wA x rg nr ly og oa lo tr fa Y O F G O1 F1 G1 ∧ ¬ fitY wA rg nr ly lo tr oa Y O1 F1 ∧ W = trW (rsW wA tr F1) tr fa (colS wA rg nr (ly + lo) tr oa O1 F1))) :
    (∃ B, MP W m re th ol sz am fd rc nr ly lo B) ∧ ((∃ v w1 w2, GrS W w1 m re th ol sz am fd rc nr lo ∧ GrE w1 m re th ol sz am fd rc nr lo (some (.int v)) w2 ∧ b = (if v < 0 then 0 else v) ∧ W' = uI w2 m 0 (if v < 0 then 1 else 0)) → wI W' m 0 = k ∧ (k = 0 → wL W' o 0 = b.toInt64) ∧ KS W' x rg nr yg ya ly og oa lo tr fa m re th ol sz am fd rc o) := by
  rcases hc with ⟨rfl, wA, O1, F1, G1, hS, hf, hW⟩ | ⟨rfl, wA, O1, F1, G1, hS, hf, hW⟩
  · have HA := St1_CI H hS
    have hcs := CI_colS HA
    have hCF := (CF_colY (R := colS wA rg nr (ly + lo) tr oa O1 F1) HA (fun t ht => CI_thing HA (hcs.1.2.1 t ht))).1
    have hFC := FrC_trans (St1_fr H hS) hCF.2.2.2.2.2.2.2
    have M2 := MS_frC hFC M
    have R2 := RL_frC hFC M H R
    have ho := (hFC o _ hs rfl).1
    have M3 := MS_uL (a := o) (k := 0) (v := (nI (sumN wA (Y.filter (inL (colS wA rg nr (ly + lo) tr oa O1 F1))))).toInt64) M2
    have R3 := RL_out (z := (nI (sumN wA (Y.filter (inL (colS wA rg nr (ly + lo) tr oa O1 F1))))).toInt64) M2 ho H R2
    have hU : ∀ z, wL (uL (colYW wA x yg ya og oa tr fa Y O1 F1 (colS wA rg nr (ly + lo) tr oa O1 F1)) o 0 z) o 0 = z := fun z => by rw [wL_uL, if_pos ⟨rfl, rfl⟩]
    rw [← hW] at M3 R3
    have hW0 : wL W o 0 = (nI (sumN wA (Y.filter (inL (colS wA rg nr (ly + lo) tr oa O1 F1))))).toInt64 := by rw [hW, hU]
    have hFW : FrM [m, th, ol, sz, am, rc] (colYW wA x yg ya og oa tr fa Y O1 F1 (colS wA rg nr (ly + lo) tr oa O1 F1)) W := by rw [hW]; exact FrM_uL
    refine ⟨⟨_, RL_MP H R3 M3⟩, fun ⟨v, w1, w2, g1, g2, g3, g4⟩ => ?_⟩
    have a1 := GrS_MS M3 R3.2.2.2.2.2.2.2.2.1 g1
    have a2 := GrE_MS a1.1 g2
    rcases small_two H R3 M3 hS g1 g2 with ⟨-, b2, b3, b4, b5⟩ | ⟨b1, -⟩
    · rw [if_neg b3] at g3 g4
      subst g4
      refine ⟨by rw [wI_uI, if_pos ⟨rfl, rfl⟩], fun _ => ?_, KS_of hs hFC M2 (FrM_trans hFW (FrM_trans (FrM_GrS g1) (FrM_trans (FrM_GrE g2) FrM_u0))) b5 (MS_uI (Or.inl rfl) a2.1) (RL_u0 a2.1 b5 b4)⟩
      rw [show wL (uI w2 m 0 0) o 0 = wL w2 o 0 from rfl, a2.2, a1.2, hW0, g3, b2]
    · exact absurd hf b1
  · have HA := St1_CI H hS
    have hbad := fun (V : Wd) (q : RL wA V x rg nr m re th ol sz am fd ι Y O1 G1) => bad_two (w' := W) HA q hW
    have hTT : FrC wA W := by
      have hS := (CI_colS HA).1
      have hTF := TF_tr (R := colS wA rg nr (ly + lo) tr oa O1 F1) HA (fun t ht => CI_thing HA (hS.2.1 t ht))
      rw [← hW] at hTF
      exact hTF.2.2.2.2.2.2.2
    have hFC := FrC_trans (St1_fr H hS) hTT
    have M2 := MS_frC hFC M
    have R2 := RL_frC hFC M H R
    refine ⟨⟨_, RL_MP H R2 M2⟩, fun ⟨v, w1, w2, g1, g2, g3, g4⟩ => ?_⟩
    have a1 := GrS_MS M2 R2.2.2.2.2.2.2.2.2.1 g1
    have a2 := GrE_MS a1.1 g2
    rcases small_two H R2 M2 hS g1 g2 with ⟨b1, -⟩ | ⟨-, b2, b3, b4⟩
    · exact absurd b1 hf
    · rw [if_pos b3] at g3 g4
      subst g4
      obtain ⟨-, b5, b6⟩ := hbad _ b4
      exact ⟨by rw [wI_uI, if_pos ⟨rfl, rfl⟩], fun e => absurd e (by decide), KS_of hs hFC M2 (FrM_trans (FrM_GrS g1) (FrM_trans (FrM_GrE g2) FrM_u0)) b5 (MS_uI (Or.inl rfl) a2.1) (RL_u0 a2.1 b5 b6)⟩
end OC
