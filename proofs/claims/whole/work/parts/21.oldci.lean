/-! the state behind a great collection -/
def fil (R : List Nat) (o : Option Nat) : Option Nat := match o with
  | some u => if u ∈ R then some u else none
  | none => none
theorem cutW_at {w : Wd} {ys : List Nat} {b : Nat} : wP (cutW w ys) b 3 = if b ∈ ys ∧ cutB w b = true then none else wP w b 3 := by simp [cutW, wP]
theorem cutB_no {w : Wd} {b : Nat} (h : wK w b ≠ some (.inl 4)) : cutB w b = false := by
  unfold cutB
  split
  · rename_i e; exact absurd e h
  · rfl
theorem cutB_eq {w : Wd} {b : Nat} (h : wK w b = some (.inl 4)) : cutB w b = match wP w b 3 with | some t => decide (wI w t 2 = 0) | none => false := by
  unfold cutB; rw [h]; rfl
section CP
variable {w : Wd} {x rg nr yg ya ly og oa lo tr fa : Nat} {Y O F G R : List Nat}
theorem cutY_ptr {b k : Nat} (hb : b ≠ fa) (h : k ≠ 3 ∨ wK w b ≠ some (.inl 4)) : wP (cutY w tr fa Y O F R) b k = wP w b k := by
  have e : wP (trW (rsW w tr F) tr fa R) b k = wP w b k := trW_ptr (w := rsW w tr F) hb
  by_cases hk : k = 3
  · subst hk
    have h' : wK w b ≠ some (.inl 4) := by rcases h with h | h; exact absurd rfl h; exact h
    have n1 : cutB (cutW (trW (rsW w tr F) tr fa R) Y) b = false := cutB_no (w := cutW (trW (rsW w tr F) tr fa R) Y) h'
    have n2 : cutB (trW (rsW w tr F) tr fa R) b = false := cutB_no (w := trW (rsW w tr F) tr fa R) h'
    rw [cutY, cutW_at, n1, if_neg (by simp), cutW_at, n2, if_neg (by simp)]
    exact e
  · rw [cutY, cutW_ptr (Or.inl hk), cutW_ptr (Or.inl hk)]
    exact e
theorem cutY_tgt {b : Nat} (hF : FL w tr fa (ly + lo) F) (htr : wK w tr = some (.inl 2)) (hfk : wK w fa = some (.inr (4, ly + lo))) (hb : wK w b = some (.inl 4)) (hm : b ∈ Y ++ O) (hT : ∀ u, wP w b 3 = some u → isTb w u = true) : wP (cutY w tr fa Y O F R) b 3 = fil R (wP w b 3) := by
  have hbf : b ≠ fa := fun e => by rw [e, hfk] at hb; cases hb
  have e : wP (trW (rsW w tr F) tr fa R) b 3 = wP w b 3 := trW_ptr (w := rsW w tr F) hbf
  have c1 : cutB (trW (rsW w tr F) tr fa R) b = match wP w b 3 with | some t => decide (wI (trW (rsW w tr F) tr fa R) t 2 = 0) | none => false := by rw [cutB_eq (w := trW (rsW w tr F) tr fa R) hb, e]
  cases ho : wP w b 3 with
  | none =>
    rw [ho] at e c1
    rw [cutY, cutW_at]
    split
    · rfl
    · rw [cutW_at]
      split
      · rfl
      · exact e
  | some u =>
    rw [ho] at e c1
    have fl := tr_flag (R := R) hF htr (hT u ho)
    by_cases hu : u ∈ R
    · rw [if_pos hu] at fl
      have c1' : cutB (trW (rsW w tr F) tr fa R) b = false := by rw [c1]; show decide (wI (trW (rsW w tr F) tr fa R) u 2 = 0) = false; rw [fl]; decide
      have e2 : wP (cutW (trW (rsW w tr F) tr fa R) Y) b 3 = some u := by rw [cutW_at, c1', if_neg (by simp)]; exact e
      have c2 : cutB (cutW (trW (rsW w tr F) tr fa R) Y) b = false := by
        rw [cutB_eq (w := cutW (trW (rsW w tr F) tr fa R) Y) hb, e2]
        show decide (wI (cutW (trW (rsW w tr F) tr fa R) Y) u 2 = 0) = false
        rw [show wI (cutW (trW (rsW w tr F) tr fa R) Y) u 2 = wI (trW (rsW w tr F) tr fa R) u 2 from rfl, fl]; decide
      rw [cutY, cutW_at, c2, if_neg (by simp), e2, fil, if_pos hu]
    · rw [if_neg hu] at fl
      have c1' : cutB (trW (rsW w tr F) tr fa R) b = true := by rw [c1]; show decide (wI (trW (rsW w tr F) tr fa R) u 2 = 0) = true; rw [fl]; decide
      rw [fil, if_neg hu]
      by_cases hY : b ∈ Y
      · have e2 : wP (cutW (trW (rsW w tr F) tr fa R) Y) b 3 = none := by rw [cutW_at, if_pos ⟨hY, c1'⟩]
        rw [cutY, cutW_at]
        split
        · rfl
        · exact e2
      · have hO : b ∈ O := by rcases List.mem_append.mp hm with h | h; exact absurd h hY; exact h
        have e2 : wP (cutW (trW (rsW w tr F) tr fa R) Y) b 3 = some u := by rw [cutW_at, if_neg (fun q => hY q.1)]; exact e
        have c2 : cutB (cutW (trW (rsW w tr F) tr fa R) Y) b = true := by
          rw [cutB_eq (w := cutW (trW (rsW w tr F) tr fa R) Y) hb, e2]
          show decide (wI (cutW (trW (rsW w tr F) tr fa R) Y) u 2 = 0) = true
          rw [show wI (cutW (trW (rsW w tr F) tr fa R) Y) u 2 = wI (trW (rsW w tr F) tr fa R) u 2 from rfl, fl]; decide
        rw [cutY, cutW_at, if_pos ⟨hO, c2⟩]
theorem cutY_wk {b : Nat} (hfk : wK w fa = some (.inr (4, ly + lo))) (hb : wK w b = some (.inl 4)) : wP (cutY w tr fa Y O F R) b 3 = wP w b 3 ∨ wP (cutY w tr fa Y O F R) b 3 = none := by
  have hbf : b ≠ fa := fun e => by rw [e, hfk] at hb; cases hb
  have e : wP (trW (rsW w tr F) tr fa R) b 3 = wP w b 3 := trW_ptr (w := rsW w tr F) hbf
  rw [cutY, cutW_at]
  split
  · exact Or.inr rfl
  · rw [cutW_at]
    split
    · exact Or.inr rfl
    · exact Or.inl e
/-- behind a search and a cutting: the same things, their targets among R or cut -/
theorem CI_cut (H : CI w x rg nr yg ya ly og oa lo tr fa Y O F G) (hR : ∀ t ∈ R, isTb w t = true) :
    (∀ b, wK (cutY w tr fa Y O F R) b = wK w b) ∧ CS (cutY w tr fa Y O F R) x rg nr yg ya ly og oa lo tr fa ∧ HT (cutY w tr fa Y O F R) rg nr ∧ GeL (cutY w tr fa Y O F R) yg ya ly Y ∧ GeL (cutY w tr fa Y O F R) og oa lo O ∧ (∀ t, wI (cutY w tr fa Y O F R) t 0 = wI w t 0) ∧ (∀ t, isTb w t = true → wI (cutY w tr fa Y O F R) t 1 = wI w t 1) ∧
    (∀ t, isTb w t = true → wI (cutY w tr fa Y O F R) t 2 = if t ∈ R then 1 else 0) ∧ (wI (cutY w tr fa Y O F R) yg 3 = wI w yg 3 ∧ wI (cutY w tr fa Y O F R) og 3 = wI w og 3) ∧ (∀ k, wI (cutY w tr fa Y O F R) x k = wI w x k) ∧ (∀ t, sucL (cutY w tr fa Y O F R) t = sucL w t) ∧ (∀ i, wP (cutY w tr fa Y O F R) rg i = wP w rg i) ∧
    (wI (cutY w tr fa Y O F R) tr 1 = nI R.length ∧ ∀ i t, R[i]? = some t → wP (cutY w tr fa Y O F R) fa i = some t) := by
  obtain ⟨hS, hT, hY, hO, hty, hto, hnd, hsum, hF, hol, hG⟩ := H
  have hS' := hS
  obtain ⟨hRg, hnr, h1, h2, h3, hyO, hoO, -, -, hly, hlo, htr, htf, hfk, hgg, hya, hyf, hof⟩ := hS'
  have hFT := hF.2.2.2.1
  have hYT : ∀ t ∈ Y, isTb w t = true := fun t ht => GeL_mem hY ht
  have hOT : ∀ t ∈ O, isTb w t = true := fun t ht => GeL_mem hO ht
  have hK : ∀ b, wK (cutY w tr fa Y O F R) b = wK w b := fun _ => rfl
  have nf : ∀ {b : Nat} {d : Kd}, wK w b = some d → d ≠ .inr (4, ly + lo) → b ≠ fa := fun hb hd e => by rw [e, hfk] at hb; cases hb; exact hd rfl
  have nt : ∀ {b : Nat} {d : Kd}, wK w b = some d → d ≠ .inl 2 → b ≠ tr := fun hb hd e => by rw [e, htr] at hb; cases hb; exact hd rfl
  have hP : ∀ t, wK w t = some (.inl 3) → wP (cutY w tr fa Y O F R) t 3 = wP w t 3 := fun t ht => cutY_ptr (nf ht (by simp)) (Or.inr (by rw [ht]; simp))
  have hA : ∀ c n, wK w c = some (.inr (3, n)) → ∀ i, wP (cutY w tr fa Y O F R) c i = wP w c i := fun c n hc i => cutY_ptr (nf hc (by simp)) (Or.inr (by rw [hc]; simp))
  have hxp : ∀ k, wP (cutY w tr fa Y O F R) x k = wP w x k := fun k => cutY_ptr (nf hRg.1 (by simp)) (Or.inr (by rw [hRg.1]; simp))
  have hoth : ∀ {b : Nat} {d : Kd} (k : Nat), wK w b = some d → (d ≠ .inl 3 ∧ d ≠ .inl 4) → d ≠ .inl 2 → wI (cutY w tr fa Y O F R) b k = wI w b k := fun k hb hd h2 => by rw [cutY_int]; exact tr_other hR hFT hb hd (nt hb h2)
  refine ⟨hK, CS_congr hK (fun k _ => hxp k) (cutY_ptr (nf hyO.1 (by simp)) (Or.inl (by decide))) (cutY_ptr (nf hoO.1 (by simp)) (Or.inl (by decide))) (cutY_ptr (nf htr (by simp)) (Or.inl (by decide))) cutY_0 cutY_0 hS, HT_congr hK (fun t _ => cutY_0) hP hA hRg.2.2.1 (fun t ht => cutY_wk hfk ht) hT, ?_, ?_, fun t => cutY_0, fun t ht => ?_, fun t ht => ?_, ⟨hoth 3 hyO.1 (by simp) (by simp), hoth 3 hoO.1 (by simp) (by simp)⟩, fun k => hoth k hRg.1 (by simp) (by simp), fun t => sucL_congr hK hP hA hT t, fun i => hA rg nr hRg.2.2.1 i, ?_, fun i t hi => ?_⟩
  · exact GeL_congr hK (cutY_ptr (nf hyO.1 (by simp)) (Or.inl (by decide))) (hoth 2 hyO.1 (by simp) (by simp)) (fun i => cutY_ptr hyf (Or.inr (by rw [hyO.2.2.1]; simp))) hY
  · exact GeL_congr hK (cutY_ptr (nf hoO.1 (by simp)) (Or.inl (by decide))) (hoth 2 hoO.1 (by simp) (by simp)) (fun i => cutY_ptr hof (Or.inr (by rw [hoO.2.2.1]; simp))) hO
  · rw [cutY_int, trW_int (isTb_ne ht htr (by decide)) (by decide), rsW_int (Or.inl (isTb_ne ht htr (by decide))) (Or.inl (by decide))]
  · rw [cutY_int]; exact tr_flag hF htr ht
  · rw [cutY_int]; exact trW_cnt _ _ _ _
  · have hn4 : wK w fa ≠ some (.inl 4) := by rw [hfk]; simp
    have e1 : wP (trW (rsW w tr F) tr fa R) fa i = some t := trW_fa hi
    by_cases hk : i = 3
    · subst hk
      have n1 : cutB (cutW (trW (rsW w tr F) tr fa R) Y) fa = false := cutB_no (w := cutW (trW (rsW w tr F) tr fa R) Y) hn4
      have n2 : cutB (trW (rsW w tr F) tr fa R) fa = false := cutB_no (w := trW (rsW w tr F) tr fa R) hn4
      rw [cutY, cutW_at, n1, if_neg (by simp), cutW_at, n2, if_neg (by simp)]
      exact e1
    · rw [cutY, cutW_ptr (Or.inl hk), cutW_ptr (Or.inl hk)]
      exact e1
/-- R: nodup, among the young and old, closed, and all that the registers hold is in it -/
def RC (w : Wd) (rg nr : Nat) (Y O R : List Nat) : Prop := R.Nodup ∧ (∀ t ∈ R, t ∈ Y ++ O) ∧ (∀ r, r < nr → oB w R (wP w rg r)) ∧ ∀ t ∈ R, dn w R t
theorem CI_colR (H : CI w x rg nr yg ya ly og oa lo tr fa Y O F G) : RC w rg nr Y O (colR w rg nr (ly + lo) tr F) ∧ ∀ t, t ∈ colR w rg nr (ly + lo) tr F ↔ Rc w (fun u => ∃ r, r < nr ∧ wP w rg r = some u ∧ isTb w u = true) t := by
  have hlen := CI_len H
  have hBC := CI_BC H
  have hregs := CI_regs H
  obtain ⟨-, -, -, -, -, -, -, -, -, -, hG⟩ := H
  have hb1 : Bd G (fnds (rsW w tr F) [] (rowL (rsW w tr F) rg nr)) := fnds_bd (fun o ho => (hregs o ho).2) ⟨List.nodup_nil, fun _ h => nomatch h⟩
  obtain ⟨h1, zs, h2⟩ := flw_closed hBC hlen (ly + lo) 0 _ (by omega) hb1 (fun j t hj => by omega)
  have hbR : Bd G (colR w rg nr (ly + lo) tr F) := flw_bd hBC _ _ hb1
  have e1 : ∀ u, u ∈ fnds (rsW w tr F) [] (rowL (rsW w tr F) rg nr) ↔ ∃ r, r < nr ∧ wP w rg r = some u ∧ isTb w u = true := by
    intro u
    rw [fnds_mem]
    constructor
    · rintro (h | ⟨h, hT⟩)
      · cases h
      · obtain ⟨i, hi, e⟩ := rowL_mem.mp h
        exact ⟨i, hi, e, hT⟩
    · rintro ⟨i, hi, e, hT⟩
      exact Or.inr ⟨rowL_mem.mpr ⟨i, hi, e⟩, hT⟩
  refine ⟨⟨hbR.1, fun t ht => hG.2.1 t (hbR.2 t ht), fun r hr t e hT => ?_, fun t ht => h1 t ht⟩, fun t => ?_⟩
  · show t ∈ flw _ _ _ _
    rw [h2]
    exact List.mem_append_left _ ((e1 t).mpr ⟨r, hr, e, hT⟩)
  · show t ∈ flw _ _ _ _ ↔ _
    rw [flw_mem hBC hlen hb1]
    have e2 : (fun u => u ∈ fnds (rsW w tr F) [] (rowL (rsW w tr F) rg nr)) = fun u => ∃ r, r < nr ∧ wP w rg r = some u ∧ isTb w u = true := funext fun u => propext (e1 u)
    rw [e2]
    exact Iff.rfl
theorem sum_filt {f : Nat → Nat} {p : Nat → Bool} (xs : List Nat) : ((xs.filter p).map f).sum ≤ (xs.map f).sum := by
  induction xs with
  | nil => simp
  | cons a t ih =>
    by_cases h : p a = true
    · simp only [List.filter_cons, h, if_true, List.map_cons, List.sum_cons]; omega
    · simp only [List.filter_cons, h, List.map_cons, List.sum_cons]
      simp only [Bool.false_eq_true, if_false]
      omega
theorem CI_colO (H : CI w x rg nr yg ya ly og oa lo tr fa Y O F G) (hR : RC w rg nr Y O R) : CI (colOW w x og oa tr fa Y O F R) x rg nr yg ya ly og oa lo tr fa Y (O.filter (inL R)) R R := by
  have hRT : ∀ t ∈ R, isTb w t = true := fun t ht => by
    rcases List.mem_append.mp (hR.2.1 t ht) with h | h
    · exact GeL_mem H.2.2.1 h
    · exact GeL_mem H.2.2.2.1 h
  obtain ⟨hK, c1, c2, c3, c4, c5, c6, c7, ⟨c8, c9⟩, d1, d2, d3, d4, d5⟩ := CI_cut (R := R) H hRT
  obtain ⟨hS, hT, hY, hO, hty, hto, hnd, hsum, hF, hol, hG⟩ := H
  have hS' := hS
  obtain ⟨hRg, hnr, h1, h2, h3, hyO, hoO, -, -, hly, hlo, htr, htf, hfk, hgg, hya, hyf, hof⟩ := hS'
  have htg : ∀ b, wK w b = some (.inl 4) → b ∈ Y ++ O → wP (cutY w tr fa Y O F R) b 3 = fil R (wP w b 3) := fun b hb hm => cutY_tgt hF htr hfk hb hm (fun u hu => (hT.2.2.1 b hb).2 u hu)
  have hsz : ∀ zs, sumI (cutY w tr fa Y O F R) zs = sumI w zs := fun zs => sumI_congr (fun t _ => c5 t)
  have hszw : szw (cutY w tr fa Y O F R) = szw w := funext fun t => szw_congr (c5 t)
  have hYT : ∀ t ∈ Y, isTb w t = true := fun t ht => GeL_mem hY ht
  have hOT : ∀ t ∈ O, isTb w t = true := fun t ht => GeL_mem hO ht
  have e0 : colOW w x og oa tr fa Y O F R = uI (genW (cutY w tr fa Y O F R) og oa (O.filter (inL R))) x 5 (wI w x 5 + 1) := rfl
  rw [e0]
  generalize cutY w tr fa Y O F R = w3 at hK c1 c2 c3 c4 c5 c6 c7 c8 c9 d1 d2 d3 d4 d5 htg hsz hszw ⊢
  have nx : ∀ {b : Nat} {d : Kd}, wK w b = some d → d ≠ .inl 0 → b ≠ x := fun hb hd e => by rw [e, hRg.1] at hb; cases hb; exact hd rfl
  have no : ∀ {b : Nat} {d : Kd}, wK w b = some d → d ≠ .inl 1 → b ≠ og := fun hb hd e => by rw [e, hoO.1] at hb; cases hb; exact hd rfl
  have na : ∀ {b : Nat} {d : Kd}, wK w b = some d → d ≠ .inr (4, lo) → b ≠ oa := fun hb hd e => by rw [e, hoO.2.2.1] at hb; cases hb; exact hd rfl
  have ip : ∀ {b k : Nat}, b ≠ oa → wP (uI (genW w3 og oa (O.filter (inL R))) x 5 (wI w x 5 + 1)) b k = wP w3 b k := fun h => by rw [wP_uI, genW_ptr (Or.inl h)]
  have ii : ∀ {b k : Nat}, b ≠ x ∨ k ≠ 5 → (b ≠ og ∨ (k ≠ 2 ∧ k ≠ 3)) → wI (uI (genW w3 og oa (O.filter (inL R))) x 5 (wI w x 5 + 1)) b k = wI w3 b k := fun h1 h2 => by
    rw [wI_uI, if_neg (by rintro ⟨e1, e2⟩; rcases h1 with h | h; exact h e1; exact h e2), genW_int h2]
  have iT : ∀ {t k : Nat}, isTb w t = true → wI (uI (genW w3 og oa (O.filter (inL R))) x 5 (wI w x 5 + 1)) t k = wI w3 t k := fun ht => ii (Or.inl (isTb_ne ht hRg.1 (by decide))) (Or.inl (isTb_ne ht hoO.1 (by decide)))
  have hK' : ∀ b, wK (uI (genW w3 og oa (O.filter (inL R))) x 5 (wI w x 5 + 1)) b = wK w3 b := fun _ => rfl
  have z0 : ∀ t, wI (uI (genW w3 og oa (O.filter (inL R))) x 5 (wI w x 5 + 1)) t 0 = wI w3 t 0 := fun t => ii (Or.inr (by decide)) (Or.inr (by decide))
  have hcnt : wI (uI (genW w3 og oa (O.filter (inL R))) x 5 (wI w x 5 + 1)) og 2 = nI (O.filter (inL R)).length := by rw [wI_uI, if_neg (by simp), genW_cnt]
  have htak : wI (uI (genW w3 og oa (O.filter (inL R))) x 5 (wI w x 5 + 1)) og 3 = sumI w3 (O.filter (inL R)) := by rw [wI_uI, if_neg (by simp), genW_tak]
  have hrow : ∀ i t, (O.filter (inL R))[i]? = some t → wP (uI (genW w3 og oa (O.filter (inL R))) x 5 (wI w x 5 + 1)) oa i = some t := fun i t hi => by rw [wP_uI]; exact genW_row hi
  generalize uI (genW w3 og oa (O.filter (inL R))) x 5 (wI w x 5 + 1) = w' at ip ii iT hK' z0 hcnt htak hrow ⊢
  have hKK : ∀ b, wK w' b = wK w b := fun b => (hK' b).trans (hK b)
  have hTT : ∀ t, isTb w' t = isTb w t := fun t => isTb_congr hKK t
  have ssz : ∀ zs, sumI w' zs = sumI w zs := fun zs => (sumI_congr (fun t _ => z0 t)).trans (hsz zs)
  have szz : szw w' = szw w := (funext fun t => szw_congr (z0 t)).trans hszw
  have hP3 : ∀ t, wK w3 t = some (.inl 3) → wP w' t 3 = wP w3 t 3 := fun t ht => ip (na ((hK t).symm.trans ht) (by simp))
  have hA3 : ∀ c n, wK w3 c = some (.inr (3, n)) → ∀ i, wP w' c i = wP w3 c i := fun c n hc i => ip (na ((hK c).symm.trans hc) (by simp))
  have hsub : ∀ t ∈ O.filter (inL R), t ∈ O := fun t ht => (List.mem_filter.mp ht).1
  have hsuc : ∀ t, sucL w' t = sucL w t := fun t => (sucL_congr hK' hP3 hA3 c2 t).trans (d2 t)
  refine ⟨CS_congr hK' (fun k _ => ip (na hRg.1 (by simp))) (ip (na hyO.1 (by simp))) (ip (na hoO.1 (by simp))) (ip (na htr (by simp))) (z0 _) (z0 _) c1, HT_congr hK' (fun t _ => z0 t) hP3 hA3 ((hK rg).trans hRg.2.2.1) (fun t ht => Or.inl (ip (na ((hK t).symm.trans ht) (by simp)))) c2, ?_, ?_, ?_, ?_, ?_, ?_, ?_, ?_, ?_⟩
  · exact GeL_congr hK' (ip (na hyO.1 (by simp))) (ii (Or.inl (nx hyO.1 (by simp))) (Or.inl hgg)) (fun i => ip hya) c3
  · exact ⟨GeO_congr hKK ((ip (na hoO.1 (by simp))).trans (c4.1.2.1.trans hoO.2.1.symm)) hoO, hcnt, Nat.le_trans (List.length_filter_le _ _) hO.2.2.1, fun i t hi => ⟨hrow i t hi, (hTT t).trans (hOT t (hsub t (List.mem_of_getElem? hi)))⟩⟩
  · rw [ssz, ii (Or.inl (nx hyO.1 (by simp))) (Or.inl hgg), c8]; exact hty
  · rw [ssz, htak, hsz]
  · rw [List.nodup_append] at hnd ⊢
    exact ⟨hnd.1, hnd.2.1.sublist List.filter_sublist, fun a ha b hb => hnd.2.2 a ha b (hsub b hb)⟩
  · rw [szz]; exact ⟨hsum.1, Nat.le_trans (sum_filt O) hsum.2⟩
  · refine ⟨(ii (Or.inl (nx htr (by simp))) (Or.inl (no htr (by simp)))).trans d4, ?_, fun i t hi => (ip (Ne.symm hof)).trans (d5 i t hi), fun t ht => (hTT t).trans (hRT t ht), fun t ht => ?_⟩
    · have a1 := hR.1.length_le_of_subset (fun t ht => hR.2.1 t ht)
      have a2 := sz_len (w := w) (xs := Y) (fun t ht => (HT_sz hT (hYT t ht)).2.1)
      have a3 := sz_len (w := w) (xs := O) (fun t ht => (HT_sz hT (hOT t ht)).2.1)
      rw [List.length_append] at a1
      omega
    · rw [hTT] at ht
      rw [iT ht]; exact c7 t ht
  · exact ⟨fun t ht => by rw [iT (hYT t ht), c6 t (hYT t ht)]; exact hol.1 t ht, fun t ht => by rw [iT (hOT t (hsub t ht)), c6 t (hOT t (hsub t ht))]; exact hol.2 t (hsub t ht)⟩
  · refine ⟨hR.1, fun t ht => ?_, fun t ht => ?_, fun r hr => ?_, fun t ht o ho u e hu => ?_, fun t ht u hk e => ?_⟩
    · rcases List.mem_append.mp (hR.2.1 t ht) with h | h
      · exact List.mem_append_left _ h
      · exact List.mem_append_right _ (List.mem_filter.mpr ⟨h, by simp [inL, ht]⟩)
    · have := (List.mem_filter.mp ht).2; simpa [inL] using this
    · rw [ip (na hRg.2.2.1 (by simp)), d3 r]; exact oB_congr hKK (hR.2.2.1 r hr)
    · rw [hsuc] at ho
      rw [hTT] at hu
      exact hR.2.2.2 t ht u (by rw [← e]; exact ho) hu
    · rw [hKK] at hk
      rw [ip (na hk (by simp)), htg t hk (hR.2.1 t ht)] at e
      cases ho : wP w t 3 with
      | none => rw [ho] at e; cases e
      | some v =>
        rw [ho, fil] at e
        split at e
        · cases e; assumption
        · cases e
end CP
