/-! make, weak: alike on both sides -/
section OB
variable {w w' w0 w1 w2 wA wB W W' Wm W1 W2 : Wd} {x rg nr yg ya ly og oa lo tr fa m re th ol sz am fd rc o : Nat} {Y O F G R0 A Y1 O1 F1 G1 : List Nat} {ι : Nat → Nat} {ρ : Nat → Bool} {r r2 r3 k v z : Int32}
theorem free_place (H : CI w x rg nr yg ya ly og oa lo tr fa Y O F G) (R : RL w W x rg nr m re th ol sz am fd ι Y O G) : ∃ p, p < 200 ∧ wI W th p = 0 := by
  refine Classical.byContradiction (fun hno => ?_)
  have sub : ∀ p ∈ List.range 200, p ∈ (Y ++ O).map ι := fun p hp => by
    have hp' := List.mem_range.mp hp
    obtain ⟨t, ht, e⟩ := (R.2.2.1 p hp').mp (fun e => hno ⟨p, hp', e⟩)
    exact List.mem_map.mpr ⟨t, ht, e⟩
  have e1 := (List.nodup_range (n := 200)).length_le_of_subset (fun p hp => sub p hp)
  rw [List.length_range, List.length_map] at e1
  have e2 := len_R (R := Y ++ O) H H.2.2.2.2.2.2.1 (fun t ht => ht)
  have hly := H.1.2.2.2.2.2.2.2.2.2.1
  have hlo := H.1.2.2.2.2.2.2.2.2.2.2.1
  omega
theorem free_two {c : Int32} (H : CI w x rg nr yg ya ly og oa lo tr fa Y O F G) (R : RL w Wm x rg nr m re th ol sz am fd ι Y O G) (M : MS Wm m re th ol sz am fd rc nr ly lo) (h : RoE Wm m re th ol sz am fd rc nr ly lo c z w2) : ∃ p, p < 200 ∧ wI w2 th p = 0 := by
  rcases h with ⟨-, -, rfl⟩ | ⟨-, v, -, w1, g1, g2⟩
  · exact free_place H R
  · obtain ⟨wA, O1, F1, G1, hS⟩ := St1_ex w x rg nr ly og oa lo tr fa Y O F G
    rcases small_two H R M hS g1 g2 with ⟨-, -, -, b4, b5⟩ | ⟨-, -, -, b4⟩
    · exact free_place b5 b4
    · exact free_place (St1_CI H hS) b4
/-- what the collections keep of a thing that is in no generation -/
def PT (w w' : Wd) (t : Nat) : Prop := (∀ b, wK w' b = wK w b) ∧ (∀ b, wI w' b 0 = wI w b 0) ∧ (∀ u, wK w u = some (.inl 3) → wP w' u 3 = wP w u 3) ∧ (∀ c n, wK w c = some (.inr (3, n)) → ∀ i, wP w' c i = wP w c i) ∧ (wK w t = some (.inl 4) → wP w' t 3 = wP w t 3) ∧ wI w' t 1 = wI w t 1 ∧ FrC w w'
theorem PT_refl (w : Wd) (t : Nat) : PT w w t := ⟨fun _ => rfl, fun _ => rfl, fun _ _ => rfl, fun _ _ _ _ => rfl, fun _ => rfl, rfl, FrC_refl w⟩
theorem PT_trans {t : Nat} (h1 : PT w w' t) (h2 : PT w' w2 t) : PT w w2 t := by
  obtain ⟨a1, a2, a3, a4, a5, a6, a7⟩ := h1
  obtain ⟨b1, b2, b3, b4, b5, b6, b7⟩ := h2
  exact ⟨fun b => (b1 b).trans (a1 b), fun b => (b2 b).trans (a2 b), fun u hu => (b3 u ((a1 u).trans hu)).trans (a3 u hu), fun c n hc i => (b4 c n ((a1 c).trans hc) i).trans (a4 c n hc i), fun h => (b5 ((a1 t).trans h)).trans (a5 h), b6.trans a6, FrC_trans a7 b7⟩
theorem PT_CF {t : Nat} (h : CF w w' Y O R0) (ht : isTb w t = true) (hn : t ∉ Y ++ O) : PT w w' t := by
  obtain ⟨c1, c2, c3, c4, c5, c6, c7, c8⟩ := h
  exact ⟨c1, c2, c3, c4, fun hk => c6 t hk hn, c7 t ht (fun q => hn (List.mem_append_left _ q)), c8⟩
theorem Bo_PT {t c : Nat} (H : CI w x rg nr yg ya ly og oa lo tr fa Y O F G) (h : Bo w wB x rg nr yg ya ly og oa lo tr fa c Y O F G Y1 O1 F1 G1) (ht : isTb w t = true) (hn : t ∉ Y ++ O) : PT w wB t ∧ t ∉ Y1 ++ O1 := by
  rcases h with ⟨-, rfl, rfl, rfl, rfl, rfl⟩ | ⟨-, rfl, wA, O', F', G', hS, hf, rfl, rfl, rfl, rfl⟩
  · exact ⟨PT_refl _ _, hn⟩
  · have HA := St1_CI H hS
    have sub : ∀ u, u ∈ O' → u ∈ O := by
      rcases hS with ⟨-, -, rfl, -⟩ | ⟨-, -, rfl, -⟩
      · exact fun u hu => hu
      · exact fun u hu => (List.mem_filter.mp hu).1
    have p1 : PT w wA t := by
      rcases hS with ⟨-, rfl, -⟩ | ⟨-, rfl, -⟩
      · exact PT_refl _ _
      · exact PT_CF (CF_colO (R := colR w rg nr (ly + lo) tr F) H (fun u hu => CI_thing H ((CI_colR H).1.2.1 u hu))).1 ht hn
    have hn' : t ∉ Y ++ O' := fun q => hn (by
      rcases List.mem_append.mp q with q | q
      · exact List.mem_append_left _ q
      · exact List.mem_append_right _ (sub t q))
    have ht' : isTb wA t = true := (isTb_congr p1.1 t).trans ht
    refine ⟨PT_trans p1 (PT_CF (CF_colY (R := colS wA rg nr (ly + lo) tr oa O' F') HA (fun u hu => CI_thing HA ((CI_colS HA).1.2.1 u hu))).1 ht' hn'), fun q => hn' ?_⟩
    rw [List.nil_append] at q
    rcases List.mem_append.mp q with q | q
    · exact List.mem_append_right _ q
    · exact List.mem_append_left _ (List.mem_filter.mp q).1
theorem room_two {c : Nat} (H : CI w x rg nr yg ya ly og oa lo tr fa Y O F G) (R : RL w Wm x rg nr m re th ol sz am fd ι Y O G) (M : MS Wm m re th ol sz am fd rc nr ly lo) (hc : c ≤ 12) (hB : Bo w wB x rg nr yg ya ly og oa lo tr fa c Y O F G Y1 O1 F1 G1) (hr : RoE Wm m re th ol sz am fd rc nr ly lo (nI c) z w2) : z = 1 ∧ RL wB w2 x rg nr m re th ol sz am fd ι Y1 O1 G1 := by
  have hsum : sumN w Y ≤ ly ∧ sumN w O ≤ lo := H.2.2.2.2.2.2.2.1
  have hly := H.1.2.2.2.2.2.2.2.2.2.1
  have hcond : (sumTo (takF Wm th ol sz 0) 200 + nI c ≤ nI ly) ↔ sumN w Y + c ≤ ly := by
    rw [(RL_tak H R).1, nI_add, nI_leI (by omega) (by omega)]
  rcases hB with ⟨a1, rfl, rfl, rfl, rfl, rfl⟩ | ⟨a1, rfl, wA, O', F', G', hS, hf, rfl, rfl, rfl, rfl⟩ <;> rcases hr with ⟨b1, rfl, rfl⟩ | ⟨b1, v, rfl, w1, g1, g2⟩
  · exact ⟨rfl, R⟩
  · exact absurd (hcond.mpr (by omega)) b1
  · exact absurd (hcond.mp b1) (by omega)
  · rcases small_two H R M hS g1 g2 with ⟨-, b2, b3, b4, b5⟩ | ⟨b1, -⟩
    · exact ⟨if_neg b3, b4⟩
    · exact absurd hf b1
theorem room_bad {c : Nat} (H : CI w x rg nr yg ya ly og oa lo tr fa Y O F G) (R : RL w Wm x rg nr m re th ol sz am fd ι Y O G) (M : MS Wm m re th ol sz am fd rc nr ly lo) (hc : c ≤ 12) (hB : Bad w W x rg nr yg ya ly og oa lo tr fa c Y O F G) (hr : RoE Wm m re th ol sz am fd rc nr ly lo (nI c) z w2) : z = 0 ∧ ∃ O1 F1 G1, CI W x rg nr yg ya ly og oa lo tr fa Y O1 F1 G1 ∧ RL W w2 x rg nr m re th ol sz am fd ι Y O1 G1 := by
  have hsum : sumN w Y ≤ ly ∧ sumN w O ≤ lo := H.2.2.2.2.2.2.2.1
  have hly := H.1.2.2.2.2.2.2.2.2.2.1
  have hcond : (sumTo (takF Wm th ol sz 0) 200 + nI c ≤ nI ly) ↔ sumN w Y + c ≤ ly := by
    rw [(RL_tak H R).1, nI_add, nI_leI (by omega) (by omega)]
  obtain ⟨a1, wA, O', F', G', hS, hf, hW⟩ := hB
  rcases hr with ⟨b1, rfl, rfl⟩ | ⟨b1, v, rfl, w1, g1, g2⟩
  · exact absurd (hcond.mp b1) (by omega)
  · rcases small_two H R M hS g1 g2 with ⟨b1, -⟩ | ⟨-, b2, b3, b4⟩
    · exact absurd b1 hf
    · obtain ⟨-, b5, b6⟩ := bad_two (St1_CI H hS) b4 hW
      exact ⟨if_pos b3, _, _, _, b5, b6⟩
theorem Bad_fr {c : Nat} (H : CI w x rg nr yg ya ly og oa lo tr fa Y O F G) (hB : Bad w W x rg nr yg ya ly og oa lo tr fa c Y O F G) : FrC w W := by
  obtain ⟨a1, wA, O', F', G', hS, hf, hW⟩ := hB
  have HA := St1_CI H hS
  have hS' := (CI_colS HA).1
  have hTF := TF_tr (R := colS wA rg nr (ly + lo) tr oa O' F') HA (fun t ht => CI_thing HA (hS'.2.1 t ht))
  rw [← hW] at hTF
  exact FrC_trans (St1_fr H hS) hTF.2.2.2.2.2.2.2
theorem FrC_gen {zs : List Nat} {g ga n : Nat} (hg : wK w g = some (.inl 1)) (hga : wK w ga = some (.inr (4, n))) : FrC w (genW w g ga zs) := fun b d hb hd => ⟨hb, fun j => ⟨genW_int (Or.inl (mdl_ne hb hd hg rfl)), genW_ptr (Or.inl (mdl_ne hb hd hga rfl)), rfl⟩⟩
theorem RL_add {t p : Nat} {zn tg : Int32} (H : CI w x rg nr yg ya ly og oa lo tr fa Y O F G) (R : RL w W x rg nr m re th ol sz am fd ι Y O G) (M : MS W m re th ol sz am fd rc nr ly lo) (ht : isTb w t = true) (hn : t ∉ Y ++ O) (hp : p < 200) (hfree : wI W th p = 0) (hz : zn = szC w t) (hf : ∀ k o, (sucL w t)[k]? = some o → o = none ∧ k < 11) (ha : wK w t = some (.inl 4) → AR (fun u => if u = t then p else ι u) (wP w t 3) tg) (htg : tg = -1 ∨ ∃ q, q < 200 ∧ tg = nI q) :
    RL (genW w yg ya (Y ++ [t])) (aL (uI (uI (uI (uI W th p 1) ol p 0) sz p zn) am p tg) fd (11 * p) 11 1099511627776) x rg nr m re th ol sz am fd (fun u => if u = t then p else ι u) (Y ++ [t]) O (G ++ [t]) := by
  obtain ⟨r1, r2, r3, r4, r5, r6, r7, r8, r9, r10, r11, r12⟩ := id R
  obtain ⟨⟨e1, e2, e3, e4, e5, e6⟩, ⟨f1, f2, f3, f4, f5, f6, f7⟩, hrf⟩ := MS_ne M
  obtain ⟨n1, n2, n3, n4⟩ := M.2.2.2.2.2.2.2.2.2.1
  have hG := H.2.2.2.2.2.2.2.2.2.2
  have hyO := H.1.2.2.2.2.2.1
  have vth : ∀ q, wI (aL (uI (uI (uI (uI W th p 1) ol p 0) sz p zn) am p tg) fd (11 * p) 11 1099511627776) th q = if q = p then 1 else wI W th q := fun q => by
    rw [show wI (aL (uI (uI (uI (uI W th p 1) ol p 0) sz p zn) am p tg) fd (11 * p) 11 1099511627776) th q = wI (uI (uI (uI (uI W th p 1) ol p 0) sz p zn) am p tg) th q from rfl, wI_uI, if_neg (fun h => e2 h.1), wI_uI, if_neg (fun h => e1 h.1), wI_uI, if_neg (fun h => n1 h.1), wI_uI]
    by_cases e : q = p
    · rw [if_pos ⟨rfl, e⟩, if_pos e]
    · rw [if_neg (fun h => e h.2), if_neg e]
  have vol : ∀ q, wI (aL (uI (uI (uI (uI W th p 1) ol p 0) sz p zn) am p tg) fd (11 * p) 11 1099511627776) ol q = if q = p then 0 else wI W ol q := fun q => by
    rw [show wI (aL (uI (uI (uI (uI W th p 1) ol p 0) sz p zn) am p tg) fd (11 * p) 11 1099511627776) ol q = wI (uI (uI (uI (uI W th p 1) ol p 0) sz p zn) am p tg) ol q from rfl, wI_uI, if_neg (fun h => e4 h.1), wI_uI, if_neg (fun h => e3 h.1), wI_uI]
    by_cases e : q = p
    · rw [if_pos ⟨rfl, e⟩, if_pos e]
    · rw [if_neg (fun h => e h.2), if_neg e, wI_uI, if_neg (fun h => n1 h.1.symm)]
  have vsz : ∀ q, wI (aL (uI (uI (uI (uI W th p 1) ol p 0) sz p zn) am p tg) fd (11 * p) 11 1099511627776) sz q = if q = p then zn else wI W sz q := fun q => by
    rw [show wI (aL (uI (uI (uI (uI W th p 1) ol p 0) sz p zn) am p tg) fd (11 * p) 11 1099511627776) sz q = wI (uI (uI (uI (uI W th p 1) ol p 0) sz p zn) am p tg) sz q from rfl, wI_uI, if_neg (fun h => n4 h.1), wI_uI]
    by_cases e : q = p
    · rw [if_pos ⟨rfl, e⟩, if_pos e]
    · rw [if_neg (fun h => e h.2), if_neg e, wI_uI, if_neg (fun h => e3 h.1.symm), wI_uI, if_neg (fun h => e1 h.1.symm)]
  have vam : ∀ q, wI (aL (uI (uI (uI (uI W th p 1) ol p 0) sz p zn) am p tg) fd (11 * p) 11 1099511627776) am q = if q = p then tg else wI W am q := fun q => by
    rw [show wI (aL (uI (uI (uI (uI W th p 1) ol p 0) sz p zn) am p tg) fd (11 * p) 11 1099511627776) am q = wI (uI (uI (uI (uI W th p 1) ol p 0) sz p zn) am p tg) am q from rfl, wI_uI]
    by_cases e : q = p
    · rw [if_pos ⟨rfl, e⟩, if_pos e]
    · rw [if_neg (fun h => e h.2), if_neg e, wI_uI, if_neg (fun h => n4 h.1.symm), wI_uI, if_neg (fun h => e4 h.1.symm), wI_uI, if_neg (fun h => e2 h.1.symm)]
  have vm : ∀ q, wI (aL (uI (uI (uI (uI W th p 1) ol p 0) sz p zn) am p tg) fd (11 * p) 11 1099511627776) m q = wI W m q := fun q => by
    rw [show wI (aL (uI (uI (uI (uI W th p 1) ol p 0) sz p zn) am p tg) fd (11 * p) 11 1099511627776) m q = wI (uI (uI (uI (uI W th p 1) ol p 0) sz p zn) am p tg) m q from rfl, wI_uI, if_neg (fun h => f4 h.1), wI_uI, if_neg (fun h => f3 h.1), wI_uI, if_neg (fun h => f2 h.1), wI_uI, if_neg (fun h => f1 h.1)]
  have vfd : ∀ q, wL (aL (uI (uI (uI (uI W th p 1) ol p 0) sz p zn) am p tg) fd (11 * p) 11 1099511627776) fd q = if 11 * p ≤ q ∧ q < 11 * p + 11 then 1099511627776 else wL W fd q := fun q => by
    rw [aL_L]
    by_cases e : 11 * p ≤ q ∧ q < 11 * p + 11
    · rw [if_pos ⟨rfl, e⟩, if_pos e]
    · rw [if_neg (fun h => e h.2), if_neg e]; rfl
  have vre : ∀ q, wL (aL (uI (uI (uI (uI W th p 1) ol p 0) sz p zn) am p tg) fd (11 * p) 11 1099511627776) re q = wL W re q := fun q => by
    rw [aL_L, if_neg (fun h => hrf h.1)]; rfl
  generalize aL (uI (uI (uI (uI W th p 1) ol p 0) sz p zn) am p tg) fd (11 * p) 11 1099511627776 = V at vth vol vsz vam vm vfd vre ⊢
  have nya : ∀ {b : Nat} {d : Kd}, wK w b = some d → d ≠ .inr (4, ly) → b ≠ ya := fun hb hd e => by rw [e, hyO.2.2.1] at hb; cases hb; exact hd rfl
  have ip : ∀ {b k : Nat}, b ≠ ya → wP (genW w yg ya (Y ++ [t])) b k = wP w b k := fun h => genW_ptr (Or.inl h)
  have ii : ∀ {b k : Nat}, b ≠ yg ∨ (k ≠ 2 ∧ k ≠ 3) → wI (genW w yg ya (Y ++ [t])) b k = wI w b k := fun h => genW_int h
  have hK : ∀ b, wK (genW w yg ya (Y ++ [t])) b = wK w b := fun _ => rfl
  generalize genW w yg ya (Y ++ [t]) = w' at ip ii hK ⊢
  have hsuc : ∀ u, sucL w' u = sucL w u := fun u => sucL_congr hK (fun u hu => ip (nya hu (by simp))) (fun c n hc i => ip (nya hc (by simp))) H.2.1 u
  have hxy : x ≠ yg := fun e => by have := H.1.1.1; rw [e, hyO.1] at this; cases this
  have hne : ∀ u, u ∈ Y ++ O → u ≠ t := fun u hu e => hn (e ▸ hu)
  have hip : ∀ u, u ∈ Y ++ O → ι u ≠ p := fun u hu e => RL_there R hu (by rw [e]; exact hfree)
  have hcase : ∀ u, u ∈ (Y ++ [t]) ++ O → u = t ∨ (u ≠ t ∧ u ∈ Y ++ O) := fun u hu => by
    by_cases e : u = t
    · exact Or.inl e
    · refine Or.inr ⟨e, ?_⟩
      rcases List.mem_append.mp hu with q | q
      · rcases List.mem_append.mp q with q | q
        · exact List.mem_append_left _ q
        · exact absurd (List.mem_singleton.mp q) e
      · exact List.mem_append_right _ q
  have hGc : ∀ u, u ∈ G ++ [t] → u = t ∨ (u ≠ t ∧ u ∈ G) := fun u hu => by
    by_cases e : u = t
    · exact Or.inl e
    · rcases List.mem_append.mp hu with q | q
      · exact Or.inr ⟨e, q⟩
      · exact absurd (List.mem_singleton.mp q) e
  have vr : ∀ {o v}, oB w G o → VR w ι o v → VR w' (fun u => if u = t then p else ι u) o v := fun hb h => VR_congr (fun b d e => (hK b).trans e) (fun b hb => ii (Or.inr (by decide))) (fun u e hu => if_neg (hne u (RL_G H (hb u e hu)))) h
  refine ⟨fun u hu => ?_, fun u hu u' hu' e => ?_, fun q hq => ?_, fun u hu => ?_, fun u hu => ?_, fun u hu => ?_, fun u hu j o e => ?_, fun u hu e => ?_, fun q hq => ?_, fun q hq => ?_, ?_, ?_⟩
  · rcases hcase u hu with e | ⟨e, h⟩
    · show (if u = t then p else ι u) < 200
      rw [if_pos e]; exact hp
    · show (if u = t then p else ι u) < 200
      rw [if_neg e]; exact r1 u h
  · have e : (if u = t then p else ι u) = (if u' = t then p else ι u') := e
    rcases hcase u hu with g | ⟨g, h⟩ <;> rcases hcase u' hu' with g' | ⟨g', h'⟩
    · rw [g, g']
    · rw [if_pos g, if_neg g'] at e; exact absurd e.symm (hip u' h')
    · rw [if_neg g, if_pos g'] at e; exact absurd e (hip u h)
    · rw [if_neg g, if_neg g'] at e; exact r2 u h u' h' e
  · rw [vth]
    by_cases e : q = p
    · rw [if_pos e]
      exact ⟨fun _ => ⟨t, by simp, by rw [e]; exact if_pos rfl⟩, fun _ => by decide⟩
    · rw [if_neg e, r3 q hq]
      constructor
      · rintro ⟨u, hu, rfl⟩
        refine ⟨u, ?_, if_neg (hne u hu)⟩
        rcases List.mem_append.mp hu with h | h
        · exact List.mem_append_left _ (List.mem_append_left _ h)
        · exact List.mem_append_right _ h
      · rintro ⟨u, hu, g⟩
        have g : (if u = t then p else ι u) = q := g
        rcases hcase u hu with h | ⟨h, hu'⟩
        · rw [if_pos h] at g; exact absurd g.symm e
        · rw [if_neg h] at g; exact ⟨u, hu', g⟩
  · show wI V ol (if u = t then p else ι u) = 0
    rw [vol]
    rcases hcase u (List.mem_append_left _ hu) with h | ⟨h, hu'⟩
    · rw [if_pos h, if_pos rfl]
    · rw [if_neg h, if_neg (hip u hu')]
      rcases List.mem_append.mp hu with q | q
      · exact r4 u q
      · exact absurd (List.mem_singleton.mp q) h
  · show wI V ol (if u = t then p else ι u) = 1
    have hu' := List.mem_append_right Y hu
    rw [vol, if_neg (hne u hu'), if_neg (hip u hu')]
    exact r5 u hu
  · show wI V sz (if u = t then p else ι u) = szC w' u
    rw [vsz, szC, hK, hsuc]
    rcases hcase u hu with h | ⟨h, hu'⟩
    · rw [if_pos h, if_pos rfl, hz, h]; rfl
    · rw [if_neg h, if_neg (hip u hu')]; exact r6 u hu'
  · show VR w' _ o (wL V fd (11 * (if u = t then p else ι u) + j))
    rw [hsuc] at e
    rcases hGc u hu with h | ⟨h, hu'⟩
    · rw [if_pos h]
      rw [h] at e
      obtain ⟨rfl, hj⟩ := hf j o e
      rw [vfd, if_pos ⟨by omega, by omega⟩]
      exact rfl
    · have hlu : (sucL w u).length ≤ 11 := by
        by_cases hku : wK w u = some (.inl 3)
        · exact (plain_sz H.2.1 hku).2
        · rw [suc_nil hku]; exact Nat.zero_le _
      have hil : j < (sucL w u).length := by
        rcases Nat.lt_or_ge j (sucL w u).length with q | q
        · exact q
        · rw [List.getElem?_eq_none q] at e; cases e
      have := hip u (RL_G H hu')
      rw [if_neg h, vfd, if_neg (fun q => this (by omega))]
      exact vr (hG.2.2.2.2.1 u hu' o (List.mem_of_getElem? e)) (r7 u hu' j o e)
  · show AR _ (wP w' u 3) (wI V am (if u = t then p else ι u))
    have e' : wK w u = some (.inl 4) := (hK u).symm.trans e
    rw [ip (nya e' (by simp)), vam]
    rcases hGc u hu with h | ⟨h, hu'⟩
    · rw [if_pos h, if_pos rfl]
      rw [h] at e' ⊢
      exact ha e'
    · rw [if_neg h, if_neg (hip u (RL_G H hu'))]
      have q := r8 u hu' e'
      cases eu : wP w u 3 with
      | none => rw [eu] at q; exact q
      | some u' =>
        rw [eu] at q
        have hu2 := RL_G H (hG.2.2.2.2.2 u hu' u' e' eu)
        show wI W am (ι u) = nI (if u' = t then p else ι u')
        rw [if_neg (hne u' hu2)]; exact q
  · rw [vam]
    by_cases e : q = p
    · rw [if_pos e]; exact htg
    · rw [if_neg e]; exact r9 q hq
  · rw [ip (nya H.1.1.2.2.1 (by simp)), vre]
    exact vr (hG.2.2.2.1 q hq) (r10 q hq)
  · rw [vm, ii (Or.inl hxy)]; exact r11
  · rw [vm, ii (Or.inl hxy)]; exact r12
theorem born_two {i t c : Nat} {zn tg : Int32} (hs : wK w o = some (.inr (2, 1))) (M : MS w m re th ol sz am fd rc nr ly lo) (hF0 : FrC w w0) (H : CI w0 x rg nr yg ya ly og oa lo tr fa Y O F G) (R : RL w0 w x rg nr m re th ol sz am fd ι Y O G) (ht : isTb w0 t = true) (hn : t ∉ Y ++ O) (h1 : wI w0 t 1 = 0) (hc : szw w0 t = c) (hc1 : c ≤ 12) (hc2 : c ≤ ly) (hi : i < nr) (hB : Born w0 W x rg nr yg ya ly og oa lo tr fa c i t Y O F G) (hz : zn = szC w0 t) (hf : ∀ k o, (sucL w0 t)[k]? = some o → o = none ∧ k < 11) (ha : ∀ u, wK w0 t = some (.inl 4) → wP w0 t 3 = some u → tg = nI (ι u) ∧ ∃ j, j < nr ∧ wP w0 rg j = some u ∧ isTb w0 u = true) (hno : wK w0 t = some (.inl 4) → ∃ u, wP w0 t 3 = some u) (htg : tg = -1 ∨ ∃ q, q < 200 ∧ tg = nI q) :
    FrC w W ∧ (∀ z w2, RoE (uI W m 0 0) m re th ol sz am fd rc nr ly lo (nI c) z w2 → z = 1 ∧ (∀ p W', p < 200 → wI w2 th p = 0 → W' = boW (uI w2 m 0 0) re th ol sz am fd p i zn tg → wI W' m 0 = 0 ∧ KS W' x rg nr yg ya ly og oa lo tr fa m re th ol sz am fd rc o)) := by
  obtain ⟨wB, Y1, O1, F1, G1, hBo, hW⟩ := hB
  have HB := Bo_CI H hBo
  obtain ⟨⟨a1, a2, a3, a4, a5, a6, a7⟩, hn1⟩ := Bo_PT H hBo ht hn
  have hyO := HB.1.2.2.2.2.2.1
  have hly := HB.1.2.2.2.2.2.2.2.2.2.1
  have hG := HB.2.2.2.2.2.2.2.2.2.2
  have hrk := HB.1.1.2.2.1
  have hrk0 := H.1.1.2.2.1
  have hFB : FrC w (genW wB yg ya (Y1 ++ [t])) := FrC_trans (FrC_trans hF0 a7) (FrC_gen hyO.1 hyO.2.2.1)
  have hFC : FrC w W := by
    rw [hW]
    exact FrC_trans hFB (FrC_uP (d' := .inr (3, nr)) hrk rfl)
  refine ⟨hFC, fun z w2 hr => ?_⟩
  have M2 := MS_frC hFC M
  have M3 : MS (uI W m 0 0) m re th ol sz am fd rc nr ly lo := MS_uI (Or.inl rfl) M2
  have R3 := RL_u0 (v := 0) M2 H (RL_frC hFC M H R)
  obtain ⟨rfl, RB⟩ := room_two H R3 M3 hc1 hBo hr
  refine ⟨rfl, fun p W' hp hfree hW' => ?_⟩
  have hro := RoE_MS M3 R3.2.2.2.2.2.2.2.2.1 hr
  have M4 : MS (uI w2 m 0 0) m re th ol sz am fd rc nr ly lo := MS_uI (Or.inl rfl) hro.1
  have R4 := RL_u0 (v := 0) hro.1 HB RB
  have htB : isTb wB t = true := (isTb_congr a1 t).trans ht
  have hszB : szw wB t = c := (szw_congr (a2 t)).trans hc
  have hsucB : sucL wB t = sucL w0 t := sucL_congr a1 a3 a4 H.2.1 t
  have hfB : ∀ k o, (sucL wB t)[k]? = some o → o = none ∧ k < 11 := fun k o e => hf k o (by rw [← hsucB]; exact e)
  have hwB : wK wB t = some (.inl 4) → ∃ u, wP wB t 3 = some u ∧ u ∈ G1 ∧ tg = nI (ι u) := fun e => by
    have e' := (a1 t).symm.trans e
    obtain ⟨u, hu⟩ := hno e'
    obtain ⟨q1, j, hj, q2, q3⟩ := ha u e' hu
    refine ⟨u, (a5 e').trans hu, ?_, q1⟩
    exact hG.2.2.2.1 j hj u ((a4 rg nr hrk0 j).trans q2) ((isTb_congr a1 u).trans q3)
  have hfree4 : wI (uI w2 m 0 0) th p = 0 := by
    rw [wI_uI, if_neg (fun q => (MS_ne hro.1).2.1.1 q.1.symm)]; exact hfree
  have hcap : szw wB t + sumN wB Y1 ≤ ly := by
    rcases hBo with ⟨b1, rfl, rfl, -⟩ | ⟨b1, rfl, -⟩
    · rw [hszB]; exact b1
    · rw [hszB, show sumN wB [] = 0 from rfl]; exact hc2
  have HA := CI_add HB htB hn1 hcap (a6.trans h1) (fun o' ho' => by
    obtain ⟨j, hj, e⟩ := List.mem_iff_getElem.mp ho'
    have := (hfB j o' (by rw [List.getElem?_eq_getElem hj, e])).1
    rw [this]; exact fun _ q => nomatch q) (fun u e hu => by
    obtain ⟨u', q1, q2, -⟩ := hwB e
    rw [hu] at q1; cases q1; exact q2)
  have RA := RL_add (t := t) (p := p) (zn := zn) (tg := tg) HB R4 M4 htB hn1 hp hfree4 (by rw [hz, szC, szC, a1, hsucB]) hfB (fun e => by
    obtain ⟨u, q1, q2, q3⟩ := hwB e
    rw [q1]
    show tg = nI (if u = t then p else ι u)
    rw [if_neg (fun q : u = t => hn1 (q ▸ RL_G HB q2)), q3]) htg
  have M5 : MS (aL (uI (uI (uI (uI (uI w2 m 0 0) th p 1) ol p 0) sz p zn) am p tg) fd (11 * p) 11 1099511627776) m re th ol sz am fd rc nr ly lo := by
    obtain ⟨-, -, -, ⟨-, k5⟩, ⟨-, k6⟩, ⟨-, k7⟩, ⟨-, k8⟩, -⟩ := id M4
    exact MS_aL (MS_uIa (t := 0) (z := 200) k8 (MS_uIa (t := 0) (z := 200) k7 (MS_uIa (t := 1) (z := 200) k6 (MS_uIa (t := 1) (z := 200) k5 M4))))
  have htA : isTb (genW wB yg ya (Y1 ++ [t])) t = true := htB
  have CA := CI_reg (i := i) (o := some t) HA hi (fun u e => by cases e; exact Or.inl htA) (fun u e _ => by cases e; simp)
  have RR := RL_reg (i := i) (v := RF p) (o' := some t) HA RA M5 (Or.inl ⟨htA, by show RF p = RF (if t = t then p else ι t); rw [if_pos rfl]⟩)
  rw [← hW] at CA RR
  have hW2 : W' = uL (aL (uI (uI (uI (uI (uI w2 m 0 0) th p 1) ol p 0) sz p zn) am p tg) fd (11 * p) 11 1099511627776) re i (RF p) := hW'
  have hI0 : wI W' m 0 = 0 := by
    obtain ⟨-, ⟨f1, f2, f3, f4, f5, f6, f7⟩, -⟩ := MS_ne M4
    rw [hW2, wI_uL, show wI (aL (uI (uI (uI (uI (uI w2 m 0 0) th p 1) ol p 0) sz p zn) am p tg) fd (11 * p) 11 1099511627776) m 0 = wI (uI (uI (uI (uI (uI w2 m 0 0) th p 1) ol p 0) sz p zn) am p tg) m 0 from rfl, wI_uI, if_neg (fun h => f4 h.1), wI_uI, if_neg (fun h => f3 h.1), wI_uI, if_neg (fun h => f2 h.1), wI_uI, if_neg (fun h => f1 h.1), wI_uI, if_pos ⟨rfl, rfl⟩]
  refine ⟨hI0, ?_⟩
  have hfr : FrM [m, th, ol, sz, am, rc] W W' := by
    rw [hW2]
    exact FrM_trans FrM_u0 (FrM_trans (FrM_RoE hr) (FrM_trans FrM_u0 (FrM_trans (FrM_trans (FrM_trans (FrM_trans (FrM_trans (FrM_uI (by simp)) (FrM_uI (by simp))) (FrM_uI (by simp))) (FrM_uI (by simp))) FrM_aL) FrM_uL)))
  have M6 := MS_uL (a := re) (k := i) (v := RF p) M5
  rw [← hW2] at M6 RR
  exact KS_of hs hFC M2 hfr CA M6 RR
end OB
