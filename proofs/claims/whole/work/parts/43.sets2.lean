/-! the class's state behind sets and births -/
section S2
variable {w : Wd} {x rg nr yg ya ly og oa lo tr fa : Nat} {Y O F G : List Nat}
theorem CI_reg {i : Nat} {o : Option Nat} (H : CI w x rg nr yg ya ly og oa lo tr fa Y O F G) (hi : i < nr) (hv : oV w o) (hb : oB w G o) : CI (uP w rg i o) x rg nr yg ya ly og oa lo tr fa Y O F G := by
  obtain ⟨hS, hT, hY, hO, hty, hto, hnd, hsum, hF, hol, hG⟩ := H
  have hS' := hS
  obtain ⟨hRg, hnr, h1, h2, h3, hyO, hoO, -, -, hly, hlo, htr, htf, hfk, hgg, hya, hyf, hof⟩ := hS'
  have hrk := hRg.2.2.1
  have nr' : ∀ {b : Nat} {d : Kd}, wK w b = some d → d ≠ .inr (3, nr) → b ≠ rg := fun hb hd e => by rw [e, hrk] at hb; cases hb; exact hd rfl
  have ip : ∀ {b k : Nat}, b ≠ rg → wP (uP w rg i o) b k = wP w b k := fun h => by rw [wP_uP, if_neg (fun q => h q.1)]
  have hK : ∀ b, wK (uP w rg i o) b = wK w b := fun _ => rfl
  have regs : ∀ r, wP (uP w rg i o) rg r = if r = i then o else wP w rg r := fun r => by
    rw [wP_uP]; by_cases e : r = i <;> simp [e]
  have hsuc : ∀ t, sucL (uP w rg i o) t = sucL w t := fun t => by
    by_cases ht : wK w t = some (.inl 3)
    · obtain ⟨c, n, a1, a2, -, a4, -⟩ := hT.1 t ht
      rw [sucL_of (w := uP w rg i o) ht ((ip (nr' ht (by simp))).trans a1) a2, sucL_of ht a1 a2]
      exact rowL_congr (fun k => ip a4)
    · rw [sucL, sucL, if_neg ht, if_neg (by rw [hK]; exact ht)]
  refine ⟨CS_congr hK (fun k _ => ip (nr' hRg.1 (by simp))) (ip (nr' hyO.1 (by simp))) (ip (nr' hoO.1 (by simp))) (ip (nr' htr (by simp))) rfl rfl hS, ⟨fun t ht => ?_, fun t t' c ht ht' e e' => ?_, fun t ht => ?_, fun r hr => ?_⟩, GeL_congr hK (ip (nr' hyO.1 (by simp))) rfl (fun j => ip (nr' hyO.2.2.1 (by simp))) hY, GeL_congr hK (ip (nr' hoO.1 (by simp))) rfl (fun j => ip (nr' hoO.2.2.1 (by simp))) hO, hty, hto, hnd, hsum, ⟨hF.1, hF.2.1, fun j t hj => (ip (nr' hfk (by simp))).trans (hF.2.2.1 j t hj), hF.2.2.2⟩, hol, hG.1, hG.2.1, hG.2.2.1, fun r hr => ?_, fun t ht o' ho' => ?_, fun t ht u hk hu => ?_⟩
  · obtain ⟨c, n, a1, a2, a3, a4, a5, a6⟩ := hT.1 t ht
    exact ⟨c, n, (ip (nr' ht (by simp))).trans a1, a2, a3, a4, a5, fun k hk => by rw [ip a4]; exact a6 k hk⟩
  · exact hT.2.1 t t' c ht ht' ((ip (nr' ht (by simp))).symm.trans e) ((ip (nr' ht' (by simp))).symm.trans e')
  · exact ⟨(hT.2.2.1 t ht).1, fun u hu => (hT.2.2.1 t ht).2 u ((ip (nr' ht (by simp))).symm.trans hu)⟩
  · rw [regs]
    by_cases e : r = i
    · rw [if_pos e]; exact hv
    · rw [if_neg e]; exact hT.2.2.2 r hr
  · rw [regs]
    by_cases e : r = i
    · rw [if_pos e]; exact hb
    · rw [if_neg e]; exact hG.2.2.2.1 r hr
  · rw [hsuc] at ho'; exact hG.2.2.2.2.1 t ht o' ho'
  · rw [ip (nr' hk (by simp))] at hu; exact hG.2.2.2.2.2 t ht u hk hu
theorem fld_P {t c n k : Nat} {o : Option Nat} (hT : HT w rg nr) (hk : wK w t = some (.inl 3)) (h3 : wP w t 3 = some c) (hc : wK w c = some (.inr (3, n))) : (∀ b d j, wK w b = some d → b ≠ c → wP (uP w c k o) b j = wP w b j) ∧ (∀ u, u ≠ t → sucL (uP w c k o) u = sucL w u) ∧ sucL (uP w c k o) t = (rowL (uP w c k o) c n) ∧ ∀ j, wP (uP w c k o) c j = if j = k then o else wP w c j := by
  have ip : ∀ {b j : Nat}, b ≠ c → wP (uP w c k o) b j = wP w b j := fun h => by rw [wP_uP, if_neg (fun q => h q.1)]
  have ntc : ∀ {b : Nat} {ci : Nat}, wK w b = some (.inl ci) → b ≠ c := fun hb e => by rw [e, hc] at hb; cases hb
  refine ⟨fun b d j _ h => ip h, fun u hu => ?_, sucL_of (w := uP w c k o) hk ((ip (ntc hk)).trans h3) hc, fun j => ?_⟩
  · by_cases hu3 : wK w u = some (.inl 3)
    · obtain ⟨c', n', a1, a2, -⟩ := hT.1 u hu3
      have hcc : c' ≠ c := fun e => hu (hT.2.1 u t c hu3 hk (e ▸ a1) h3)
      rw [sucL_of (w := uP w c k o) hu3 ((ip (ntc hu3)).trans a1) a2, sucL_of hu3 a1 a2]
      exact rowL_congr (fun j => ip hcc)
    · rw [sucL, sucL, if_neg hu3, if_neg (show wK (uP w c k o) u ≠ _ from hu3)]
  · rw [wP_uP]; by_cases e : j = k <;> simp [e]
theorem CI_fld {t c n k : Nat} {o : Option Nat} (H : CI w x rg nr yg ya ly og oa lo tr fa Y O F G) (hk : wK w t = some (.inl 3)) (h3' : wP w t 3 = some c) (hc : wK w c = some (.inr (3, n))) (hkn : k < n) (hv : oV w o) (hb : oB w G o) : CI (uP w c k o) x rg nr yg ya ly og oa lo tr fa Y O F G := by
  obtain ⟨hS, hT, hY, hO, hty, hto, hnd, hsum, hF, hol, hG⟩ := H
  obtain ⟨f1, f2, f3, f4⟩ := fld_P (k := k) (o := o) hT hk h3' hc
  have hS' := hS
  obtain ⟨hRg, hnr, h1, h2, h3, hyO, hoO, -, -, hly, hlo, htr, htf, hfk, hgg, hya, hyf, hof⟩ := hS'
  have hrk := hRg.2.2.1
  have hcr : rg ≠ c := fun e => by
    obtain ⟨c', n', a1, a2, -, a4, -⟩ := hT.1 t hk
    rw [h3'] at a1; cases a1; exact a4 e.symm
  have ip : ∀ {b j : Nat}, b ≠ c → wP (uP w c k o) b j = wP w b j := fun h => by rw [wP_uP, if_neg (fun q => h q.1)]
  have nc : ∀ {b : Nat} {d : Kd}, wK w b = some d → (∀ z, d ≠ .inr (3, z)) → b ≠ c := fun hb hd e => by rw [e, hc] at hb; cases hb; exact hd n rfl
  have hK : ∀ b, wK (uP w c k o) b = wK w b := fun _ => rfl
  refine ⟨CS_congr hK (fun k _ => ip (nc hRg.1 (by simp))) (ip (nc hyO.1 (by simp))) (ip (nc hoO.1 (by simp))) (ip (nc htr (by simp))) rfl rfl hS, ⟨fun u hu => ?_, fun u u' c' hu hu' e e' => ?_, fun u hu => ?_, fun r hr => ?_⟩, GeL_congr hK (ip (nc hyO.1 (by simp))) rfl (fun j => ip (nc hyO.2.2.1 (by simp))) hY, GeL_congr hK (ip (nc hoO.1 (by simp))) rfl (fun j => ip (nc hoO.2.2.1 (by simp))) hO, hty, hto, hnd, hsum, ⟨hF.1, hF.2.1, fun j u hj => (ip (nc hfk (by simp))).trans (hF.2.2.1 j u hj), hF.2.2.2⟩, hol, hG.1, hG.2.1, hG.2.2.1, fun r hr => ?_, fun u hu o' ho' => ?_, fun u hu z hk4 hz => ?_⟩
  · obtain ⟨c', n', a1, a2, a3, a4, a5, a6⟩ := hT.1 u hu
    refine ⟨c', n', (ip (nc hu (by simp))).trans a1, a2, a3, a4, a5, fun j hj => ?_⟩
    by_cases e : c' = c
    · rw [e, f4]
      by_cases ej : j = k
      · rw [if_pos ej]; exact hv
      · rw [if_neg ej, ← e]; exact a6 j hj
    · rw [ip e]; exact a6 j hj
  · exact hT.2.1 u u' c' hu hu' ((ip (nc hu (by simp))).symm.trans e) ((ip (nc hu' (by simp))).symm.trans e')
  · exact ⟨(hT.2.2.1 u hu).1, fun z hz => (hT.2.2.1 u hu).2 z ((ip (nc hu (by simp))).symm.trans hz)⟩
  · rw [ip hcr]; exact hT.2.2.2 r hr
  · rw [ip hcr]; exact hG.2.2.2.1 r hr
  · by_cases e : u = t
    · subst e
      rw [f3] at ho'
      obtain ⟨j, hj, rfl⟩ := rowL_mem.mp ho'
      rw [f4]
      by_cases ej : j = k
      · rw [if_pos ej]; exact hb
      · rw [if_neg ej]
        exact hG.2.2.2.2.1 u hu _ (by rw [sucL_of hk h3' hc]; exact rowL_mem.mpr ⟨j, hj, rfl⟩)
    · rw [f2 u e] at ho'; exact hG.2.2.2.2.1 u hu o' ho'
  · rw [ip (nc hk4 (by simp))] at hz; exact hG.2.2.2.2.2 u hu z hk4 hz
theorem CI_add {t : Nat} (H : CI w x rg nr yg ya ly og oa lo tr fa Y O F G) (ht : isTb w t = true) (hn : t ∉ Y ++ O) (hc : szw w t + sumN w Y ≤ ly) (h1' : wI w t 1 = 0) (hs : ∀ o ∈ sucL w t, oB w G o) (hw : ∀ u, wK w t = some (.inl 4) → wP w t 3 = some u → u ∈ G) : CI (genW w yg ya (Y ++ [t])) x rg nr yg ya ly og oa lo tr fa (Y ++ [t]) O F (G ++ [t]) := by
  obtain ⟨hS, hT, hY, hO, hty, hto, hnd, hsum, hF, hol, hG⟩ := H
  have hS' := hS
  obtain ⟨hRg, hnr, h1, h2, h3, hyO, hoO, -, -, hly, hlo, htr, htf, hfk, hgg, hya, hyf, hof⟩ := hS'
  have hsz := HT_sz hT ht
  have nya : ∀ {b : Nat} {d : Kd}, wK w b = some d → d ≠ .inr (4, ly) → b ≠ ya := fun hb hd e => by rw [e, hyO.2.2.1] at hb; cases hb; exact hd rfl
  have nyg : ∀ {b : Nat} {d : Kd}, wK w b = some d → d ≠ .inl 1 → b ≠ yg := fun hb hd e => by rw [e, hyO.1] at hb; cases hb; exact hd rfl
  have ip : ∀ {b k : Nat}, b ≠ ya → wP (genW w yg ya (Y ++ [t])) b k = wP w b k := fun h => genW_ptr (Or.inl h)
  have ii : ∀ {b k : Nat}, b ≠ yg ∨ (k ≠ 2 ∧ k ≠ 3) → wI (genW w yg ya (Y ++ [t])) b k = wI w b k := fun h => genW_int h
  have hK : ∀ b, wK (genW w yg ya (Y ++ [t])) b = wK w b := fun _ => rfl
  have hcnt : wI (genW w yg ya (Y ++ [t])) yg 2 = nI (Y ++ [t]).length := genW_cnt _ _ _ _
  have htak : wI (genW w yg ya (Y ++ [t])) yg 3 = sumI w (Y ++ [t]) := genW_tak _ _ _ _
  have hrow : ∀ i z, (Y ++ [t])[i]? = some z → wP (genW w yg ya (Y ++ [t])) ya i = some z := fun i z h => genW_row h
  generalize genW w yg ya (Y ++ [t]) = w' at ip ii hK hcnt htak hrow ⊢
  have z0 : ∀ b, wI w' b 0 = wI w b 0 := fun b => ii (Or.inr (by decide))
  have ssz : ∀ zs, sumI w' zs = sumI w zs := fun zs => sumI_congr (fun u _ => z0 u)
  have szz : szw w' = szw w := funext fun u => szw_congr (z0 u)
  have hTT : ∀ u, isTb w' u = isTb w u := fun u => isTb_congr hK u
  have hP : ∀ u, wK w u = some (.inl 3) → wP w' u 3 = wP w u 3 := fun u hu => ip (nya hu (by simp))
  have hA : ∀ c n, wK w c = some (.inr (3, n)) → ∀ i, wP w' c i = wP w c i := fun c n hc i => ip (nya hc (by simp))
  have hsuc : ∀ u, sucL w' u = sucL w u := fun u => sucL_congr hK hP hA hT u
  have hmemY : ∀ u ∈ Y ++ [t], isTb w u = true := fun u hu => by
    rcases List.mem_append.mp hu with h | h
    · exact GeL_mem hY h
    · rw [List.mem_singleton.mp h]; exact ht
  have hlen : (Y ++ [t]).length ≤ ly := by
    have a1 := sz_len (w := w) (xs := Y) (fun u hu => (HT_sz hT (GeL_mem hY hu)).2.1)
    have a2 : Y.length ≤ sumN w Y := a1
    rw [List.length_append, List.length_singleton]
    omega
  have htn : t ∉ Y ∧ t ∉ O := by rw [List.mem_append, not_or] at hn; exact hn
  have oBG : ∀ {o : Option Nat}, oB w G o → oB w' (G ++ [t]) o := fun h u e hu => List.mem_append_left _ (h u e ((hTT u).symm.trans hu))
  rw [List.nodup_append] at hnd
  refine ⟨CS_congr hK (fun k _ => ip (nya hRg.1 (by simp))) (ip (nya hyO.1 (by simp))) (ip (nya hoO.1 (by simp))) (ip (nya htr (by simp))) (z0 _) (z0 _) hS, HT_congr hK (fun u _ => z0 u) hP hA hRg.2.2.1 (fun u hu => Or.inl (ip (nya hu (by simp)))) hT, ⟨GeO_congr hK (ip (nya hyO.1 (by simp))) hyO, hcnt, hlen, fun i z hz => ⟨hrow i z hz, (hTT z).trans (hmemY z (List.mem_of_getElem? hz))⟩⟩, GeL_congr hK (ip (nya hoO.1 (by simp))) (ii (Or.inl (Ne.symm hgg))) (fun j => ip (Ne.symm hya)) hO, by rw [htak, ssz], by rw [ssz, ii (Or.inl (Ne.symm hgg))]; exact hto, ?_, ?_, ⟨(ii (Or.inl (nyg htr (by simp)))).trans hF.1, hF.2.1, fun j u hj => (ip (Ne.symm hyf)).trans (hF.2.2.1 j u hj), fun u hu => (hTT u).trans (hF.2.2.2.1 u hu), fun u hu => ?_⟩, ⟨fun u hu => ?_, fun u hu => ?_⟩, ?_, fun u hu => ?_, fun u hu => List.mem_append_left _ (hG.2.2.1 u hu), fun r hr => ?_, fun u hu o ho => ?_, fun u hu z hk4 hz => ?_⟩
  · rw [List.nodup_append, List.nodup_append]
    refine ⟨⟨hnd.1, List.nodup_cons.mpr ⟨by simp, List.nodup_nil⟩, fun a ha b hb e => ?_⟩, hnd.2.1, fun a ha b hb => ?_⟩
    · rw [List.mem_singleton.mp hb] at e; exact htn.1 (e ▸ ha)
    · rcases List.mem_append.mp ha with h | h
      · exact hnd.2.2 a h b hb
      · rw [List.mem_singleton.mp h]; exact fun e => htn.2 (e ▸ hb)
  · rw [szz]
    have a1 : sumN w (Y ++ [t]) = sumN w Y + sumN w [t] := sumN_app _ _ _
    have a2 : sumN w [t] = szw w t := by simp [sumN]
    refine ⟨?_, hsum.2⟩
    show sumN w (Y ++ [t]) ≤ ly
    omega
  · rw [hTT] at hu
    rw [ii (Or.inl (isTb_ne hu hyO.1 (by decide)))]; exact hF.2.2.2.2 u hu
  · rw [ii (Or.inl (isTb_ne (hmemY u hu) hyO.1 (by decide)))]
    rcases List.mem_append.mp hu with h | h
    · exact hol.1 u h
    · rw [List.mem_singleton.mp h]; exact h1'
  · rw [ii (Or.inl (isTb_ne (GeL_mem hO hu) hyO.1 (by decide)))]; exact hol.2 u hu
  · rw [List.nodup_append]
    refine ⟨hG.1, List.nodup_cons.mpr ⟨by simp, List.nodup_nil⟩, fun a ha b hb e => ?_⟩
    rw [List.mem_singleton.mp hb] at e
    exact hn (e ▸ hG.2.1 a ha)
  · rcases List.mem_append.mp hu with h | h
    · rcases List.mem_append.mp (hG.2.1 u h) with q | q
      · exact List.mem_append_left _ (List.mem_append_left _ q)
      · exact List.mem_append_right _ q
    · exact List.mem_append_left _ (List.mem_append_right _ h)
  · rw [hA rg nr hRg.2.2.1 r]; exact oBG (hG.2.2.2.1 r hr)
  · rw [hsuc] at ho
    rcases List.mem_append.mp hu with h | h
    · exact oBG (hG.2.2.2.2.1 u h o ho)
    · rw [List.mem_singleton.mp h] at ho; exact oBG (hs o ho)
  · rw [hK] at hk4
    rw [ip (nya hk4 (by simp))] at hz
    rcases List.mem_append.mp hu with h | h
    · exact List.mem_append_left _ (hG.2.2.2.2.2 u h z hk4 hz)
    · rw [List.mem_singleton.mp h] at hk4 hz
      exact List.mem_append_left _ (hw z hk4 hz)
end S2
