/-! worlds with new cells; make, weak -/
def Ext (w w' : Wd) : Prop := ∀ b d, wK w b = some d → wK w' b = some d ∧ ∀ k, wI w' b k = wI w b k ∧ wP w' b k = wP w b k
section EX
variable {w w' : Wd} {x rg nr yg ya ly og oa lo tr fa : Nat} {Y O F G : List Nat}
theorem Ext_isTb (h : Ext w w') {t : Nat} (ht : isTb w t = true) : isTb w' t = true := by
  obtain ⟨ci, hci, hk⟩ := isTb_to ht
  exact isTb_of hci (h t _ hk).1
theorem Ext_back (h : Ext w w') {t : Nat} {d : Kd} (hk : wK w t = some d) (ht : isTb w' t = true) : isTb w t = true := by
  obtain ⟨ci, hci, hk'⟩ := isTb_to ht
  rw [(h t d hk).1] at hk'
  cases hk'
  exact isTb_of hci hk
theorem Ext_oV (h : Ext w w') {o : Option Nat} (ho : oV w o) : oV w' o := fun t e => by
  rcases ho t e with q | q
  · exact Or.inl (Ext_isTb h q)
  · exact Or.inr (h t _ q).1
theorem Ext_oB (h : Ext w w') {o : Option Nat} (hv : oV w o) (ho : oB w G o) : oB w' G o := fun t e ht => by
  rcases hv t e with q | q
  · exact ho t e q
  · exact ho t e (Ext_back h q ht)
theorem HT_ext (hE : Ext w w') (hp : ∀ t, wK w t = none → wK w' t = some (.inl 3) → ∃ c n, wP w' t 3 = some c ∧ wK w c = none ∧ wK w' c = some (.inr (3, n)) ∧ n ≤ 11 ∧ wI w' t 0 = nI (n + 1) ∧ ∀ i, i < n → oV w' (wP w' c i))
    (hu : ∀ t t', wK w t = none → wK w' t = some (.inl 3) → wK w t' = none → wK w' t' = some (.inl 3) → t = t') (hk : ∀ t, wK w t = none → wK w' t = some (.inl 4) → wI w' t 0 = 2 ∧ ∀ u, wP w' t 3 = some u → isTb w' u = true) (hrg : wK w rg = some (.inr (3, nr))) (H : HT w rg nr) : HT w' rg nr := by
  have old : ∀ {t ci : Nat}, wK w' t = some (.inl ci) → wK w t = none ∨ wK w t = some (.inl ci) := fun {t ci} ht => by
    cases hc : wK w t with
    | none => exact Or.inl rfl
    | some d =>
      right
      rw [(hE t d hc).1] at ht
      exact ht
  refine ⟨fun t ht => ?_, fun t t' c ht ht' e e' => ?_, fun t ht => ?_, fun r hr => ?_⟩
  · rcases old ht with h | h
    · obtain ⟨c, n, a1, a2, a3, a4, a5, a6⟩ := hp t h ht
      exact ⟨c, n, a1, a3, a4, fun q => (by rw [q, hrg] at a2; cases a2), a5, a6⟩
    · obtain ⟨c, n, a1, a2, a3, a4, a5, a6⟩ := H.1 t h
      exact ⟨c, n, ((hE t _ h).2 3).2.trans a1, (hE c _ a2).1, a3, a4, ((hE t _ h).2 0).1.trans a5, fun i hi => by rw [((hE c _ a2).2 i).2]; exact Ext_oV hE (a6 i hi)⟩
  · rcases old ht with h | h
    · rcases old ht' with h' | h'
      · exact hu t t' h ht h' ht'
      · obtain ⟨c1, n, a1, a2, -⟩ := hp t h ht
        obtain ⟨c2, n', b1, b2, -⟩ := H.1 t' h'
        have e1 : c1 = c := Option.some.inj (a1.symm.trans e)
        have e2 : c2 = c := Option.some.inj (b1.symm.trans (((hE t' _ h').2 3).2.symm.trans e'))
        rw [e1] at a2
        rw [e2, a2] at b2
        cases b2
    · rcases old ht' with h' | h'
      · obtain ⟨c1, n, a1, a2, -⟩ := hp t' h' ht'
        obtain ⟨c2, n', b1, b2, -⟩ := H.1 t h
        have e1 : c1 = c := Option.some.inj (a1.symm.trans e')
        have e2 : c2 = c := Option.some.inj (b1.symm.trans (((hE t _ h).2 3).2.symm.trans e))
        rw [e1] at a2
        rw [e2, a2] at b2
        cases b2
      · exact H.2.1 t t' c h h' (((hE t _ h).2 3).2.symm.trans e) (((hE t' _ h').2 3).2.symm.trans e')
  · rcases old ht with h | h
    · exact hk t h ht
    · exact ⟨((hE t _ h).2 0).1.trans (H.2.2.1 t h).1, fun u hu => Ext_isTb hE ((H.2.2.1 t h).2 u (((hE t _ h).2 3).2.symm.trans hu))⟩
  · rw [((hE rg _ hrg).2 r).2]; exact Ext_oV hE (H.2.2.2 r hr)
theorem Ext_suc (hE : Ext w w') (H : HT w rg nr) {t : Nat} (ht : isTb w t = true) : sucL w' t = sucL w t := by
  obtain ⟨ci, hci, hk⟩ := isTb_to ht
  rcases hci with rfl | rfl
  · obtain ⟨c, n, a1, a2, -⟩ := H.1 t hk
    rw [sucL_of (hE t _ hk).1 (((hE t _ hk).2 3).2.trans a1) (hE c _ a2).1, sucL_of hk a1 a2]
    exact rowL_congr (fun i => ((hE c _ a2).2 i).2)
  · rw [sucL_no hk, sucL_no (hE t _ hk).1]
theorem suc_oV (H : HT w rg nr) {t : Nat} {o : Option Nat} (ho : o ∈ sucL w t) : oV w o := by
  by_cases hk : wK w t = some (.inl 3)
  · obtain ⟨c, n, a1, a2, -, -, -, a6⟩ := H.1 t hk
    rw [sucL_of hk a1 a2] at ho
    obtain ⟨i, hi, rfl⟩ := rowL_mem.mp ho
    exact a6 i hi
  · rw [sucL, if_neg hk] at ho; cases ho
theorem CI_ext (hE : Ext w w') (hT' : HT w' rg nr) (hfl : ∀ t, isTb w' t = true → wK w t = none → wI w' t 2 = 0) (H : CI w x rg nr yg ya ly og oa lo tr fa Y O F G) : CI w' x rg nr yg ya ly og oa lo tr fa Y O F G := by
  have hGT : ∀ t ∈ G, isTb w t = true := fun t ht => CI_G H ht
  obtain ⟨hS, hT, hY, hO, hty, hto, hnd, hsum, hF, hol, hG⟩ := H
  obtain ⟨hRg, hnr, h1, h2, h3, hyO, hoO, hl1, hl2, hly, hlo, htr, htf, hfk, hgg⟩ := hS
  have eK : ∀ {b : Nat} {d : Kd}, wK w b = some d → wK w' b = some d := fun h => (hE _ _ h).1
  have eI : ∀ {b : Nat} {d : Kd} (k : Nat), wK w b = some d → wI w' b k = wI w b k := fun k h => ((hE _ _ h).2 k).1
  have eP : ∀ {b : Nat} {d : Kd} (k : Nat), wK w b = some d → wP w' b k = wP w b k := fun k h => ((hE _ _ h).2 k).2
  have tI : ∀ {t : Nat} (k : Nat), isTb w t = true → wI w' t k = wI w t k := fun k ht => by obtain ⟨ci, -, hk⟩ := isTb_to ht; exact eI k hk
  have geO : ∀ {g ga m : Nat}, GeO w g ga m → GeO w' g ga m := fun h => ⟨eK h.1, (eP 1 h.1).trans h.2.1, eK h.2.2.1, h.2.2.2⟩
  have geL : ∀ {g ga m : Nat} {zs : List Nat}, GeL w g ga m zs → GeL w' g ga m zs := fun h => ⟨geO h.1, (eI 2 h.1.1).trans h.2.1, h.2.2.1, fun i t hi => ⟨(eP i h.1.2.2.1).trans (h.2.2.2 i t hi).1, Ext_isTb hE (h.2.2.2 i t hi).2⟩⟩
  have sI : ∀ {zs : List Nat}, (∀ t ∈ zs, isTb w t = true) → sumI w' zs = sumI w zs := fun h => sumI_congr (fun t ht => tI 0 (h t ht))
  have sZ : ∀ {zs : List Nat}, (∀ t ∈ zs, isTb w t = true) → zs.map (szw w') = zs.map (szw w) := fun h => List.map_congr_left (fun t ht => szw_congr (tI 0 (h t ht)))
  have hYT : ∀ t ∈ Y, isTb w t = true := fun t ht => GeL_mem hY ht
  have hOT : ∀ t ∈ O, isTb w t = true := fun t ht => GeL_mem hO ht
  refine ⟨⟨⟨eK hRg.1, (eP 0 hRg.1).trans hRg.2.1, eK hRg.2.2.1, hRg.2.2.2⟩, hnr, (eP 1 hRg.1).trans h1, (eP 2 hRg.1).trans h2, (eP 3 hRg.1).trans h3, geO hyO, geO hoO, (eI 0 hyO.1).trans hl1, (eI 0 hoO.1).trans hl2, hly, hlo, eK htr, (eP 0 htr).trans htf, eK hfk, hgg⟩, hT', geL hY, geL hO, by rw [eI 3 hyO.1, sI hYT]; exact hty, by rw [eI 3 hoO.1, sI hOT]; exact hto, hnd, by rw [sZ hYT, sZ hOT]; exact hsum, ⟨(eI 1 htr).trans hF.1, hF.2.1, fun i t hi => (eP i hfk).trans (hF.2.2.1 i t hi), fun t ht => Ext_isTb hE (hF.2.2.2.1 t ht), fun t ht => ?_⟩, ⟨fun t ht => (tI 1 (hYT t ht)).trans (hol.1 t ht), fun t ht => (tI 1 (hOT t ht)).trans (hol.2 t ht)⟩, hG.1, hG.2.1, hG.2.2.1, fun r hr => ?_, fun t ht o ho => ?_, fun t ht u hk hu => ?_⟩
  · cases hc : wK w t with
    | none =>
      rw [hfl t ht hc, if_neg]
      intro q
      obtain ⟨ci, -, hk⟩ := isTb_to (hF.2.2.2.1 t q)
      rw [hc] at hk
      cases hk
    | some d =>
      have ht' := Ext_back hE hc ht
      rw [tI 2 ht']
      exact hF.2.2.2.2 t ht'
  · rw [eP r hRg.2.2.1]; exact Ext_oB hE (hT.2.2.2 r hr) (hG.2.2.2.1 r hr)
  · rw [Ext_suc hE hT (hGT t ht)] at ho
    exact Ext_oB hE (suc_oV hT ho) (hG.2.2.2.2.1 t ht o ho)
  · obtain ⟨ci, hci, hk0⟩ := isTb_to (hGT t ht)
    have hk4 : wK w t = some (.inl 4) := by
      have := eK hk0
      rw [hk] at this
      cases this
      exact hk0
    exact hG.2.2.2.2.2 t ht u hk4 ((eP 3 hk4).symm.trans hu)
end EX
def newP (w : Wd) (t c n : Nat) : Wd := uP (uN (uI (uN w t (.inl 3)) t 0 (nI (n + 1))) c (.inr (3, n))) t 3 (some c)
def newK (w : Wd) (t u : Nat) : Wd := uP (uI (uN w t (.inl 4)) t 0 2) t 3 (some u)
def newN (w : Wd) (a : Nat) (v : Int32) : Wd := uI (uN w a (.inl 5)) a 0 v
section NW
variable {w : Wd} {x rg nr yg ya ly og oa lo tr fa : Nat} {Y O F G : List Nat} {t c n u : Nat}
theorem fresh2 {d : Kd} {v : Int32} (h : wK (uI (uN w t d) t 0 v) c = none) : c ≠ t ∧ wK w c = none := by
  rw [wK_uI, wK_uN] at h
  by_cases e : c = t
  · rw [if_pos e] at h; cases h
  · rw [if_neg e] at h; exact ⟨e, h⟩
theorem newP_K (b : Nat) : wK (newP w t c n) b = if b = c then some (.inr (3, n)) else if b = t then some (.inl 3) else wK w b := rfl
theorem newP_I (b k : Nat) : wI (newP w t c n) b k = if b = c then 0 else if b = t ∧ k = 0 then nI (n + 1) else if b = t then 0 else wI w b k := rfl
theorem newP_P (b k : Nat) : wP (newP w t c n) b k = if b = t ∧ k = 3 then some c else if b = c then none else if b = t then none else wP w b k := rfl
theorem newK_K (b : Nat) : wK (newK w t u) b = if b = t then some (.inl 4) else wK w b := rfl
theorem newK_I (b k : Nat) : wI (newK w t u) b k = if b = t ∧ k = 0 then 2 else if b = t then 0 else wI w b k := rfl
theorem newK_P (b k : Nat) : wP (newK w t u) b k = if b = t ∧ k = 3 then some u else if b = t then none else wP w b k := rfl
theorem newN_K {v : Int32} (b : Nat) : wK (newN w t v) b = if b = t then some (.inl 5) else wK w b := rfl
theorem newN_I {v : Int32} (b k : Nat) : wI (newN w t v) b k = if b = t ∧ k = 0 then v else if b = t then 0 else wI w b k := rfl
theorem newN_P {v : Int32} (b k : Nat) : wP (newN w t v) b k = if b = t then none else wP w b k := rfl
theorem newP_ext (ht : wK w t = none) (hc : wK w c = none) : Ext w (newP w t c n) := fun b d hb => by
  have h1 := ne_new hb ht
  have h2 := ne_new hb hc
  exact ⟨by rw [newP_K, if_neg h2, if_neg h1]; exact hb, fun k => ⟨by rw [newP_I, if_neg h2, if_neg (fun q => h1 q.1), if_neg h1], by rw [newP_P, if_neg (fun q => h1 q.1), if_neg h2, if_neg h1]⟩⟩
theorem newK_ext (ht : wK w t = none) : Ext w (newK w t u) := fun b d hb => by
  have h1 := ne_new hb ht
  exact ⟨by rw [newK_K, if_neg h1]; exact hb, fun k => ⟨by rw [newK_I, if_neg (fun q => h1 q.1), if_neg h1], by rw [newK_P, if_neg (fun q => h1 q.1), if_neg h1]⟩⟩
theorem newN_ext {v : Int32} (ht : wK w t = none) : Ext w (newN w t v) := fun b d hb => by
  have h1 := ne_new hb ht
  exact ⟨by rw [newN_K, if_neg h1]; exact hb, fun k => ⟨by rw [newN_I, if_neg (fun q => h1 q.1), if_neg h1], by rw [newN_P, if_neg h1]⟩⟩
theorem newP_fr (ht : wK w t = none) (hc : wK w c = none) (hct : c ≠ t) : FrC w (newP w t c n) := fun b d hb hd => by
  obtain ⟨h1, h2⟩ := newP_ext (n := n) ht hc b d hb
  refine ⟨h1, fun k => ⟨(h2 k).1, (h2 k).2, ?_⟩⟩
  show wL (uN (uI (uN w t (.inl 3)) t 0 (nI (n + 1))) c (.inr (3, n))) b k = _
  rw [wL_uN, if_neg (ne_new hb hc), wL_uI, wL_uN, if_neg (ne_new hb ht)]
theorem newK_fr (ht : wK w t = none) : FrC w (newK w t u) := fun b d hb hd => by
  obtain ⟨h1, h2⟩ := newK_ext (u := u) ht b d hb
  refine ⟨h1, fun k => ⟨(h2 k).1, (h2 k).2, ?_⟩⟩
  show wL (uN w t (.inl 4)) b k = _
  rw [wL_uN, if_neg (ne_new hb ht)]
theorem newN_fr {v : Int32} (ht : wK w t = none) : FrC w (newN w t v) := fun b d hb hd => by
  obtain ⟨h1, h2⟩ := newN_ext (v := v) ht b d hb
  refine ⟨h1, fun k => ⟨(h2 k).1, (h2 k).2, ?_⟩⟩
  show wL (uN w t (.inl 5)) b k = _
  rw [wL_uN, if_neg (ne_new hb ht)]
theorem newP_CI (H : CI w x rg nr yg ya ly og oa lo tr fa Y O F G) (ht : wK w t = none) (hc : wK w c = none) (hct : c ≠ t) (hn : n ≤ 11) : CI (newP w t c n) x rg nr yg ya ly og oa lo tr fa Y O F G := by
  have hE := newP_ext (n := n) ht hc
  have nt : ∀ {b ci : Nat}, wK w b = none → wK (newP w t c n) b = some (.inl ci) → b = t ∧ ci = 3 := fun {b ci} hb h => by
    rw [newP_K] at h
    by_cases e : b = c
    · rw [if_pos e] at h; cases h
    · rw [if_neg e] at h
      by_cases e' : b = t
      · rw [if_pos e'] at h; cases h; exact ⟨e', rfl⟩
      · rw [if_neg e', hb] at h; cases h
  refine CI_ext hE (HT_ext hE (fun b hb h => ?_) (fun b b' hb h hb' h' => (nt hb h).1.trans (nt hb' h').1.symm) (fun b hb h => by have := (nt hb h).2; cases this) H.1.1.2.2.1 H.2.1) (fun b hb h => ?_) H
  · obtain ⟨rfl, -⟩ := nt hb h
    refine ⟨c, n, by rw [newP_P, if_pos ⟨rfl, rfl⟩], hc, by rw [newP_K, if_pos rfl], hn, by rw [newP_I, if_neg (Ne.symm hct), if_pos ⟨rfl, rfl⟩], fun i _ => ?_⟩
    rw [newP_P, if_neg (fun q => hct q.1), if_pos rfl]
    exact fun z hz => nomatch hz
  · obtain ⟨ci, -, hk⟩ := isTb_to hb
    obtain ⟨rfl, -⟩ := nt h hk
    rw [newP_I, if_neg (Ne.symm hct), if_neg (by simp), if_pos rfl]
theorem newK_CI (H : CI w x rg nr yg ya ly og oa lo tr fa Y O F G) (ht : wK w t = none) (hu : isTb w u = true) : CI (newK w t u) x rg nr yg ya ly og oa lo tr fa Y O F G := by
  have hE := newK_ext (u := u) ht
  have nt : ∀ {b ci : Nat}, wK w b = none → wK (newK w t u) b = some (.inl ci) → b = t ∧ ci = 4 := fun {b ci} hb h => by
    rw [newK_K] at h
    by_cases e' : b = t
    · rw [if_pos e'] at h; cases h; exact ⟨e', rfl⟩
    · rw [if_neg e', hb] at h; cases h
  refine CI_ext hE (HT_ext hE (fun b hb h => by have := (nt hb h).2; cases this) (fun b b' hb h hb' h' => (nt hb h).1.trans (nt hb' h').1.symm) (fun b hb h => ?_) H.1.1.2.2.1 H.2.1) (fun b hb h => ?_) H
  · obtain ⟨rfl, -⟩ := nt hb h
    refine ⟨by rw [newK_I, if_pos ⟨rfl, rfl⟩], fun z hz => ?_⟩
    rw [newK_P, if_pos ⟨rfl, rfl⟩] at hz
    cases hz
    exact Ext_isTb hE hu
  · obtain ⟨ci, -, hk⟩ := isTb_to hb
    obtain ⟨rfl, -⟩ := nt h hk
    rw [newK_I, if_neg (by simp), if_pos rfl]
theorem newN_CI {v : Int32} (H : CI w x rg nr yg ya ly og oa lo tr fa Y O F G) (ht : wK w t = none) : CI (newN w t v) x rg nr yg ya ly og oa lo tr fa Y O F G := by
  have hE := newN_ext (v := v) ht
  have nt : ∀ {b ci : Nat}, wK w b = none → wK (newN w t v) b = some (.inl ci) → b = t ∧ ci = 5 := fun {b ci} hb h => by
    rw [newN_K] at h
    by_cases e' : b = t
    · rw [if_pos e'] at h; cases h; exact ⟨e', rfl⟩
    · rw [if_neg e', hb] at h; cases h
  refine CI_ext hE (HT_ext hE (fun b hb h => by have := (nt hb h).2; cases this) (fun b b' hb h hb' h' => (nt hb h).1.trans (nt hb' h').1.symm) (fun b hb h => by have := (nt hb h).2; cases this) H.1.1.2.2.1 H.2.1) (fun b hb h => ?_) H
  obtain ⟨ci, hci, hk⟩ := isTb_to hb
  obtain ⟨rfl, rfl⟩ := nt h hk
  rcases hci with e | e <;> cases e
end NW
