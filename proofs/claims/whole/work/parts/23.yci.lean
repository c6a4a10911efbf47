/-! the state behind a search; behind a small collection -/
section YC
variable {w : Wd} {x rg nr yg ya ly og oa lo tr fa : Nat} {Y O F G R : List Nat}
theorem CI_tr (H : CI w x rg nr yg ya ly og oa lo tr fa Y O F G) (hRl : R.length ≤ ly + lo) (hRT : ∀ t ∈ R, isTb w t = true) : CI (trW (rsW w tr F) tr fa R) x rg nr yg ya ly og oa lo tr fa Y O R G := by
  obtain ⟨hS, hT, hY, hO, hty, hto, hnd, hsum, hF, hol, hG⟩ := H
  have hS' := hS
  obtain ⟨hRg, hnr, h1, h2, h3, hyO, hoO, -, -, hly, hlo, htr, htf, hfk, hgg, hya, hyf, hof⟩ := hS'
  have hFT := hF.2.2.2.1
  have nf : ∀ {b : Nat} {d : Kd}, wK w b = some d → d ≠ .inr (4, ly + lo) → b ≠ fa := fun hb hd e => by rw [e, hfk] at hb; cases hb; exact hd rfl
  have nt : ∀ {b : Nat} {d : Kd}, wK w b = some d → d ≠ .inl 2 → b ≠ tr := fun hb hd e => by rw [e, htr] at hb; cases hb; exact hd rfl
  have ip : ∀ {b k : Nat}, b ≠ fa → wP (trW (rsW w tr F) tr fa R) b k = wP w b k := fun h => trW_ptr (w := rsW w tr F) h
  have hK : ∀ b, wK (trW (rsW w tr F) tr fa R) b = wK w b := fun _ => rfl
  have z0 : ∀ b, wI (trW (rsW w tr F) tr fa R) b 0 = wI w b 0 := fun b => by rw [trW_int0, rsW_0]
  have z1 : ∀ t, isTb w t = true → wI (trW (rsW w tr F) tr fa R) t 1 = wI w t 1 := fun t ht => by
    rw [trW_int (isTb_ne ht htr (by decide)) (by decide), rsW_int (Or.inl (isTb_ne ht htr (by decide))) (Or.inl (by decide))]
  have z2 : ∀ t, isTb w t = true → wI (trW (rsW w tr F) tr fa R) t 2 = if t ∈ R then 1 else 0 := fun t ht => tr_flag hF htr ht
  have hoth : ∀ {b : Nat} {d : Kd} (k : Nat), wK w b = some d → (d ≠ .inl 3 ∧ d ≠ .inl 4) → d ≠ .inl 2 → wI (trW (rsW w tr F) tr fa R) b k = wI w b k := fun k hb hd h2 => tr_other hRT hFT hb hd (nt hb h2)
  have t1 : wI (trW (rsW w tr F) tr fa R) tr 1 = nI R.length := trW_cnt _ _ _ _
  have t2 : ∀ i t, R[i]? = some t → wP (trW (rsW w tr F) tr fa R) fa i = some t := fun i t hi => trW_fa hi
  generalize trW (rsW w tr F) tr fa R = w' at ip hK z0 z1 z2 hoth t1 t2 ⊢
  have hP : ∀ t, wK w t = some (.inl 3) → wP w' t 3 = wP w t 3 := fun t ht => ip (nf ht (by simp))
  have hA : ∀ c n, wK w c = some (.inr (3, n)) → ∀ i, wP w' c i = wP w c i := fun c n hc i => ip (nf hc (by simp))
  have ssz : ∀ zs, sumI w' zs = sumI w zs := fun zs => sumI_congr (fun t _ => z0 t)
  have szz : szw w' = szw w := funext fun t => szw_congr (z0 t)
  have hTT : ∀ t, isTb w' t = isTb w t := fun t => isTb_congr hK t
  refine ⟨CS_congr hK (fun k _ => ip (nf hRg.1 (by simp))) (ip (nf hyO.1 (by simp))) (ip (nf hoO.1 (by simp))) (ip (nf htr (by simp))) (z0 _) (z0 _) hS, HT_congr hK (fun t _ => z0 t) hP hA hRg.2.2.1 (fun t ht => Or.inl (ip (nf ht (by simp)))) hT, GeL_congr hK (ip (nf hyO.1 (by simp))) (hoth 2 hyO.1 (by simp) (by simp)) (fun i => ip hyf) hY, GeL_congr hK (ip (nf hoO.1 (by simp))) (hoth 2 hoO.1 (by simp) (by simp)) (fun i => ip hof) hO, ?_, ?_, hnd, by rw [szz]; exact hsum, ⟨t1, hRl, t2, fun t ht => (hTT t).trans (hRT t ht), fun t ht => z2 t ((hTT t).symm.trans ht)⟩, ⟨fun t ht => (z1 t (GeL_mem hY ht)).trans (hol.1 t ht), fun t ht => (z1 t (GeL_mem hO ht)).trans (hol.2 t ht)⟩, hG.1, hG.2.1, hG.2.2.1, fun r hr => ?_, fun t ht o ho => ?_, fun t ht u hk hu => ?_⟩
  · rw [ssz, hoth 3 hyO.1 (by simp) (by simp)]; exact hty
  · rw [ssz, hoth 3 hoO.1 (by simp) (by simp)]; exact hto
  · rw [hA rg nr hRg.2.2.1 r]; exact oB_congr hK (hG.2.2.2.1 r hr)
  · rw [sucL_congr hK hP hA hT t] at ho; exact oB_congr hK (hG.2.2.2.2.1 t ht o ho)
  · rw [hK] at hk
    rw [ip (nf hk (by simp))] at hu
    exact hG.2.2.2.2.2 t ht u hk hu
theorem sumN_app (w : Wd) (xs ys : List Nat) : sumN w (xs ++ ys) = sumN w xs + sumN w ys := by simp [sumN]
theorem CI_colY (H : CI w x rg nr yg ya ly og oa lo tr fa Y O F G) (hR : RC w rg nr Y O R) (hOR : ∀ t ∈ O, t ∈ R) (hfit : sumN w (Y.filter (inL R)) ≤ lo - sumN w O) : CI (colYW w x yg ya og oa tr fa Y O F R) x rg nr yg ya ly og oa lo tr fa [] (O ++ Y.filter (inL R)) R R := by
  have hRT : ∀ t ∈ R, isTb w t = true := fun t ht => by
    rcases List.mem_append.mp (hR.2.1 t ht) with h | h
    · exact GeL_mem H.2.2.1 h
    · exact GeL_mem H.2.2.2.1 h
  obtain ⟨hK, c1, c2, c3, c4, c5, c6, c7, ⟨c8, c9⟩, d1, d2, d3, d4, d5⟩ := CI_cut (R := R) H hRT
  obtain ⟨hS, hT, hY, hO, hty, hto, hnd, hsum, hF, hol, hG⟩ := H
  have hS' := hS
  obtain ⟨hRg, hnr, h1, h2, h3, hyO, hoO, -, -, hly, hlo, htr, htf, hfk, hgg, hya, hyf, hof⟩ := hS'
  have htg : ∀ b, wK w b = some (.inl 4) → b ∈ Y ++ O → wP (cutY w tr fa Y O F R) b 3 = fil R (wP w b 3) := fun b hb hm => cutY_tgt hF htr hfk hb hm (fun u hu => (hT.2.2.1 b hb).2 u hu)
  have hsz : ∀ zs, sumI (cutY w tr fa Y O F R) zs = sumI w zs := fun zs => sumI_congr (fun t _ => c5 t)
  have hszw : szw (cutY w tr fa Y O F R) = szw w := funext fun t => szw_congr (c5 t)
  have hYT : ∀ t ∈ Y, isTb w t = true := fun t ht => GeL_mem hY ht
  have hOT : ∀ t ∈ O, isTb w t = true := fun t ht => GeL_mem hO ht
  have e0 : colYW w x yg ya og oa tr fa Y O F R = uI (genW (genW (oldF (cutY w tr fa Y O F R) (Y.filter (inL R))) og oa (O ++ Y.filter (inL R))) yg ya []) x 4 (wI w x 4 + 1) := rfl
  rw [e0]
  generalize cutY w tr fa Y O F R = w3 at hK c1 c2 c3 c4 c5 c6 c7 c8 c9 d1 d2 d3 d4 d5 htg hsz hszw ⊢
  have hYs : ∀ t ∈ Y.filter (inL R), t ∈ Y ∧ t ∈ R := fun t ht => ⟨(List.mem_filter.mp ht).1, by have := (List.mem_filter.mp ht).2; simpa [inL] using this⟩
  have nx : ∀ {b : Nat} {d : Kd}, wK w b = some d → d ≠ .inl 0 → b ≠ x := fun hb hd e => by rw [e, hRg.1] at hb; cases hb; exact hd rfl
  have no : ∀ {b : Nat} {d : Kd}, wK w b = some d → d ≠ .inl 1 → b ≠ og := fun hb hd e => by rw [e, hoO.1] at hb; cases hb; exact hd rfl
  have ny : ∀ {b : Nat} {d : Kd}, wK w b = some d → d ≠ .inl 1 → b ≠ yg := fun hb hd e => by rw [e, hyO.1] at hb; cases hb; exact hd rfl
  have na : ∀ {b : Nat} {d : Kd}, wK w b = some d → d ≠ .inr (4, lo) → b ≠ oa := fun hb hd e => by rw [e, hoO.2.2.1] at hb; cases hb; exact hd rfl
  have ip : ∀ {b k : Nat}, b ≠ oa → wP (uI (genW (genW (oldF w3 (Y.filter (inL R))) og oa (O ++ Y.filter (inL R))) yg ya []) x 4 (wI w x 4 + 1)) b k = wP w3 b k := fun h => by
    rw [wP_uI, genW_ptr (Or.inr (Nat.zero_le _)), genW_ptr (Or.inl h)]; rfl
  have ii : ∀ {b k : Nat}, b ≠ x ∨ k ≠ 4 → (b ≠ og ∨ (k ≠ 2 ∧ k ≠ 3)) → (b ≠ yg ∨ (k ≠ 2 ∧ k ≠ 3)) → k ≠ 1 → wI (uI (genW (genW (oldF w3 (Y.filter (inL R))) og oa (O ++ Y.filter (inL R))) yg ya []) x 4 (wI w x 4 + 1)) b k = wI w3 b k := fun h1 h2 h3 h4 => by
    rw [wI_uI, if_neg (by rintro ⟨e1, e2⟩; rcases h1 with h | h; exact h e1; exact h e2), genW_int h3, genW_int h2, oldF_int h4]
  have iold : ∀ t, isTb w t = true → wI (uI (genW (genW (oldF w3 (Y.filter (inL R))) og oa (O ++ Y.filter (inL R))) yg ya []) x 4 (wI w x 4 + 1)) t 1 = if t ∈ Y.filter (inL R) then 1 else wI w3 t 1 := fun t ht => by
    rw [wI_uI, if_neg (by simp), genW_int (Or.inl (isTb_ne ht hyO.1 (by decide))), genW_int (Or.inl (isTb_ne ht hoO.1 (by decide)))]
    show (if 1 = 1 ∧ t ∈ Y.filter (inL R) then (1 : Int32) else w3.2.1 t 1) = _
    by_cases h : t ∈ Y.filter (inL R) <;> simp [h, wI]
  have itr : wI (uI (genW (genW (oldF w3 (Y.filter (inL R))) og oa (O ++ Y.filter (inL R))) yg ya []) x 4 (wI w x 4 + 1)) tr 1 = wI w3 tr 1 := by
    rw [wI_uI, if_neg (by simp), genW_int (Or.inl (ny htr (by simp))), genW_int (Or.inl (no htr (by simp)))]
    show (if 1 = 1 ∧ tr ∈ Y.filter (inL R) then (1 : Int32) else w3.2.1 tr 1) = _
    rw [if_neg (fun h => isTb_ne (hYT tr (hYs tr h.2).1) htr (by decide) rfl)]; rfl
  have hK' : ∀ b, wK (uI (genW (genW (oldF w3 (Y.filter (inL R))) og oa (O ++ Y.filter (inL R))) yg ya []) x 4 (wI w x 4 + 1)) b = wK w3 b := fun _ => rfl
  have so : sumI (oldF w3 (Y.filter (inL R))) (O ++ Y.filter (inL R)) = sumI w3 (O ++ Y.filter (inL R)) := sumI_congr (fun t _ => oldF_int (by decide))
  have hcnt : wI (uI (genW (genW (oldF w3 (Y.filter (inL R))) og oa (O ++ Y.filter (inL R))) yg ya []) x 4 (wI w x 4 + 1)) og 2 = nI (O ++ Y.filter (inL R)).length := by rw [wI_uI, if_neg (by simp), genW_int (Or.inl (Ne.symm hgg)), genW_cnt]
  have htak : wI (uI (genW (genW (oldF w3 (Y.filter (inL R))) og oa (O ++ Y.filter (inL R))) yg ya []) x 4 (wI w x 4 + 1)) og 3 = sumI w3 (O ++ Y.filter (inL R)) := by rw [wI_uI, if_neg (by simp), genW_int (Or.inl (Ne.symm hgg)), genW_tak, so]
  have ycnt : wI (uI (genW (genW (oldF w3 (Y.filter (inL R))) og oa (O ++ Y.filter (inL R))) yg ya []) x 4 (wI w x 4 + 1)) yg 2 = nI 0 := by rw [wI_uI, if_neg (by simp), genW_cnt]; rfl
  have ytak : wI (uI (genW (genW (oldF w3 (Y.filter (inL R))) og oa (O ++ Y.filter (inL R))) yg ya []) x 4 (wI w x 4 + 1)) yg 3 = nI 0 := by rw [wI_uI, if_neg (by simp), genW_tak]; rfl
  have hrow : ∀ i t, (O ++ Y.filter (inL R))[i]? = some t → wP (uI (genW (genW (oldF w3 (Y.filter (inL R))) og oa (O ++ Y.filter (inL R))) yg ya []) x 4 (wI w x 4 + 1)) oa i = some t := fun i t hi => by rw [wP_uI, genW_ptr (Or.inr (Nat.zero_le _))]; exact genW_row hi
  generalize uI (genW (genW (oldF w3 (Y.filter (inL R))) og oa (O ++ Y.filter (inL R))) yg ya []) x 4 (wI w x 4 + 1) = w' at ip ii itr iold hK' hcnt htak ycnt ytak hrow ⊢
  have hKK : ∀ b, wK w' b = wK w b := fun b => (hK' b).trans (hK b)
  have hTT : ∀ t, isTb w' t = isTb w t := fun t => isTb_congr hKK t
  have z0 : ∀ t, wI w' t 0 = wI w3 t 0 := fun t => ii (Or.inr (by decide)) (Or.inr (by decide)) (Or.inr (by decide)) (by decide)
  have ssz : ∀ zs, sumI w' zs = sumI w zs := fun zs => (sumI_congr (fun t _ => z0 t)).trans (hsz zs)
  have szz : szw w' = szw w := (funext fun t => szw_congr (z0 t)).trans hszw
  have hP3 : ∀ t, wK w3 t = some (.inl 3) → wP w' t 3 = wP w3 t 3 := fun t ht => ip (na ((hK t).symm.trans ht) (by simp))
  have hA3 : ∀ c n, wK w3 c = some (.inr (3, n)) → ∀ i, wP w' c i = wP w3 c i := fun c n hc i => ip (na ((hK c).symm.trans hc) (by simp))
  have hsuc : ∀ t, sucL w' t = sucL w t := fun t => (sucL_congr hK' hP3 hA3 c2 t).trans (d2 t)
  have hNT : ∀ t ∈ O ++ Y.filter (inL R), isTb w t = true := fun t ht => by
    rcases List.mem_append.mp ht with h | h
    · exact hOT t h
    · exact hYT t (hYs t h).1
  have hlen : (O ++ Y.filter (inL R)).length ≤ lo := by
    have a1 := sz_len (w := w) (xs := O ++ Y.filter (inL R)) (fun t ht => (HT_sz hT (hNT t ht)).2.1)
    have a2 : sumN w (O ++ Y.filter (inL R)) = sumN w O + sumN w (Y.filter (inL R)) := sumN_app _ _ _
    have a3 : sumN w O ≤ lo := hsum.2
    have a4 : (O ++ Y.filter (inL R)).length ≤ sumN w (O ++ Y.filter (inL R)) := a1
    omega
  refine ⟨CS_congr hK' (fun k _ => ip (na hRg.1 (by simp))) (ip (na hyO.1 (by simp))) (ip (na hoO.1 (by simp))) (ip (na htr (by simp))) (z0 _) (z0 _) c1, HT_congr hK' (fun t _ => z0 t) hP3 hA3 ((hK rg).trans hRg.2.2.1) (fun t ht => Or.inl (ip (na ((hK t).symm.trans ht) (by simp)))) c2, ?_, ?_, ?_, ?_, ?_, ?_, ?_, ?_, ?_⟩
  · exact ⟨GeO_congr hKK ((ip (na hyO.1 (by simp))).trans (c3.1.2.1.trans hyO.2.1.symm)) hyO, ycnt, Nat.zero_le _, fun i t hi => by cases hi⟩
  · exact ⟨GeO_congr hKK ((ip (na hoO.1 (by simp))).trans (c4.1.2.1.trans hoO.2.1.symm)) hoO, hcnt, hlen, fun i t hi => ⟨hrow i t hi, (hTT t).trans (hNT t (List.mem_of_getElem? hi))⟩⟩
  · rw [ytak]; rfl
  · rw [ssz, htak, hsz]
  · rw [List.nodup_append] at hnd
    rw [List.nil_append, List.nodup_append]
    exact ⟨hnd.2.1, hnd.1.sublist List.filter_sublist, fun a ha b hb => fun e => hnd.2.2 b (hYs b hb).1 a ha e.symm⟩
  · rw [szz]
    refine ⟨by simp, ?_⟩
    have a2 : sumN w (O ++ Y.filter (inL R)) = sumN w O + sumN w (Y.filter (inL R)) := sumN_app _ _ _
    have a3 : sumN w O ≤ lo := hsum.2
    show sumN w (O ++ Y.filter (inL R)) ≤ lo
    omega
  · refine ⟨itr.trans d4, ?_, fun i t hi => (ip (Ne.symm hof)).trans (d5 i t hi), fun t ht => (hTT t).trans (hRT t ht), fun t ht => ?_⟩
    · have a1 := hR.1.length_le_of_subset (fun t ht => hR.2.1 t ht)
      have a2 := sz_len (w := w) (xs := Y) (fun t ht => (HT_sz hT (hYT t ht)).2.1)
      have a3 := sz_len (w := w) (xs := O) (fun t ht => (HT_sz hT (hOT t ht)).2.1)
      rw [List.length_append] at a1
      omega
    · rw [hTT] at ht
      rw [ii (Or.inr (by decide)) (Or.inl (isTb_ne ht hoO.1 (by decide))) (Or.inl (isTb_ne ht hyO.1 (by decide))) (by decide)]; exact c7 t ht
  · refine ⟨fun t ht => (by cases ht), fun t ht => ?_⟩
    rw [iold t (hNT t ht)]
    by_cases h : t ∈ Y.filter (inL R)
    · rw [if_pos h]
    · rw [if_neg h]
      rcases List.mem_append.mp ht with h' | h'
      · rw [c6 t (hOT t h')]; exact hol.2 t h'
      · exact absurd h' h
  · refine ⟨hR.1, fun t ht => ?_, fun t ht => ?_, fun r hr => ?_, fun t ht o ho u e hu => ?_, fun t ht u hk e => ?_⟩
    · rw [List.nil_append]
      rcases List.mem_append.mp (hR.2.1 t ht) with h | h
      · exact List.mem_append_right _ (List.mem_filter.mpr ⟨h, by simp [inL, ht]⟩)
      · exact List.mem_append_left _ h
    · rcases List.mem_append.mp ht with h | h
      · exact hOR t h
      · exact (hYs t h).2
    · rw [ip (na hRg.2.2.1 (by simp)), d3 r]; exact oB_congr hKK (hR.2.2.1 r hr)
    · rw [hsuc] at ho
      rw [hTT] at hu
      exact hR.2.2.2 t ht u (by rw [← e]; exact ho) hu
    · rw [hKK] at hk
      rw [ip (na hk (by simp)), htg t hk (hR.2.1 t ht)] at e
      cases ho : wP w t 3 with
      | none => rw [ho] at e; cases e
      | some v =>
        rw [ho, fil] at e
        split at e
        · cases e; assumption
        · cases e
end YC
