/-! the class's state; what the steps of a collection keep of it -/
theorem isTb_congr {w w' : Wd} (hK : ∀ b, wK w' b = wK w b) (t : Nat) : isTb w' t = isTb w t := by unfold isTb; rw [hK]
theorem oV_congr {w w' : Wd} (hK : ∀ b, wK w' b = wK w b) {o : Option Nat} (h : oV w o) : oV w' o := fun t ht => by rw [isTb_congr hK, hK]; exact h t ht
theorem oB_congr {w w' : Wd} (hK : ∀ b, wK w' b = wK w b) {B : List Nat} {o : Option Nat} (h : oB w B o) : oB w' B o := fun t ht => by rw [isTb_congr hK]; exact h t ht
theorem szw_congr {w w' : Wd} {t : Nat} (h : wI w' t 0 = wI w t 0) : szw w' t = szw w t := by unfold szw; rw [h]
theorem sumI_congr {w w' : Wd} {xs : List Nat} (h : ∀ t ∈ xs, wI w' t 0 = wI w t 0) : sumI w' xs = sumI w xs := by
  unfold sumI
  congr 2
  exact List.map_congr_left (fun a ha => szw_congr (h a ha))
theorem rowL_congr {w w' : Wd} {a n : Nat} (h : ∀ i, wP w' a i = wP w a i) : rowL w' a n = rowL w a n := by
  unfold rowL
  exact List.map_congr_left (fun i _ => h i)
theorem GeO_congr {w w' : Wd} {g ga m : Nat} (hK : ∀ b, wK w' b = wK w b) (h1 : wP w' g 1 = wP w g 1) (H : GeO w g ga m) : GeO w' g ga m := ⟨(hK g).trans H.1, h1.trans H.2.1, (hK ga).trans H.2.2.1, H.2.2.2⟩
theorem GeL_congr {w w' : Wd} {g ga m : Nat} {xs : List Nat} (hK : ∀ b, wK w' b = wK w b) (h1 : wP w' g 1 = wP w g 1) (h2 : wI w' g 2 = wI w g 2) (h3 : ∀ i, wP w' ga i = wP w ga i) (H : GeL w g ga m xs) : GeL w' g ga m xs :=
  ⟨GeO_congr hK h1 H.1, h2.trans H.2.1, H.2.2.1, fun i x hx => ⟨(h3 i).trans (H.2.2.2 i x hx).1, (isTb_congr hK x).trans (H.2.2.2 i x hx).2⟩⟩
theorem GeL_mem {w : Wd} {g ga m : Nat} {xs : List Nat} (H : GeL w g ga m xs) {x : Nat} (hx : x ∈ xs) : isTb w x = true := by
  obtain ⟨i, hi⟩ := List.getElem?_of_mem hx
  exact (H.2.2.2 i x hi).2
/-- the objects that the class is made of -/
def CS (w : Wd) (x rg nr yg ya ly og oa lo tr fa : Nat) : Prop :=
  Rg w x rg nr ∧ nr ≤ 8 ∧ wP w x 1 = some yg ∧ wP w x 2 = some og ∧ wP w x 3 = some tr ∧ GeO w yg ya ly ∧ GeO w og oa lo ∧ wI w yg 0 = nI ly ∧ wI w og 0 = nI lo ∧ (4 ≤ ly ∧ ly ≤ 60) ∧ (4 ≤ lo ∧ lo ≤ 120) ∧
  wK w tr = some (.inl 2) ∧ wP w tr 0 = some fa ∧ wK w fa = some (.inr (4, ly + lo)) ∧ yg ≠ og ∧ ya ≠ oa ∧ ya ≠ fa ∧ oa ≠ fa
/-- things are well made: sizes, rows of their own, references to values -/
def HT (w : Wd) (rg nr : Nat) : Prop :=
  (∀ t, wK w t = some (.inl 3) → ∃ c n, wP w t 3 = some c ∧ wK w c = some (.inr (3, n)) ∧ n ≤ 11 ∧ c ≠ rg ∧ wI w t 0 = nI (n + 1) ∧ ∀ i, i < n → oV w (wP w c i)) ∧
  (∀ t t' c, wK w t = some (.inl 3) → wK w t' = some (.inl 3) → wP w t 3 = some c → wP w t' 3 = some c → t = t') ∧
  (∀ t, wK w t = some (.inl 4) → wI w t 0 = 2 ∧ ∀ u, wP w t 3 = some u → isTb w u = true) ∧
  ∀ r, r < nr → oV w (wP w rg r)
/-- what the newest search has found -/
def FL (w : Wd) (tr fa N : Nat) (F : List Nat) : Prop := wI w tr 1 = nI F.length ∧ F.length ≤ N ∧ (∀ i t, F[i]? = some t → wP w fa i = some t) ∧ (∀ t ∈ F, isTb w t = true) ∧ ∀ t, isTb w t = true → wI w t 2 = if t ∈ F then 1 else 0
/-- G: things from which only things of G are reached, by fields or targets -/
def GC (w : Wd) (rg nr : Nat) (Y O G : List Nat) : Prop := G.Nodup ∧ (∀ t ∈ G, t ∈ Y ++ O) ∧ (∀ t ∈ O, t ∈ G) ∧ (∀ r, r < nr → oB w G (wP w rg r)) ∧ (∀ t ∈ G, ∀ o ∈ sucL w t, oB w G o) ∧ ∀ t ∈ G, ∀ u, wK w t = some (.inl 4) → wP w t 3 = some u → u ∈ G
/-- the state: young and old things, what is found, the good ones -/
def CI (w : Wd) (x rg nr yg ya ly og oa lo tr fa : Nat) (Y O F G : List Nat) : Prop :=
  CS w x rg nr yg ya ly og oa lo tr fa ∧ HT w rg nr ∧ GeL w yg ya ly Y ∧ GeL w og oa lo O ∧ wI w yg 3 = sumI w Y ∧ wI w og 3 = sumI w O ∧ (Y ++ O).Nodup ∧ ((Y.map (szw w)).sum ≤ ly ∧ (O.map (szw w)).sum ≤ lo) ∧ FL w tr fa (ly + lo) F ∧ ((∀ t ∈ Y, wI w t 1 = 0) ∧ ∀ t ∈ O, wI w t 1 = 1) ∧ GC w rg nr Y O G
theorem HT_sz {w : Wd} {rg nr : Nat} (H : HT w rg nr) {t : Nat} (ht : isTb w t = true) : wI w t 0 = nI (szw w t) ∧ 1 ≤ szw w t ∧ szw w t ≤ 12 := by
  obtain ⟨ci, hci, hk⟩ := isTb_to ht
  rcases hci with rfl | rfl
  · obtain ⟨c, n, -, -, hn, -, hs, -⟩ := H.1 t hk
    have : szw w t = n + 1 := by rw [szw, hs, nI_clamp (by omega)]
    rw [this]
    exact ⟨hs, by omega, by omega⟩
  · have hs := (H.2.2.1 t hk).1
    have : szw w t = 2 := by rw [szw, hs]; rfl
    rw [this]
    exact ⟨hs, by omega, by omega⟩
theorem sz_len {w : Wd} {xs : List Nat} (h : ∀ t ∈ xs, 1 ≤ szw w t) : xs.length ≤ (xs.map (szw w)).sum := by
  induction xs with
  | nil => simp
  | cons a t ih =>
    have h1 := h a List.mem_cons_self
    have h2 := ih (fun z hz => h z (List.mem_cons_of_mem _ hz))
    simp only [List.length_cons, List.map_cons, List.sum_cons]
    omega
/-- behind restart -/
def rsW (w : Wd) (tr : Nat) (F : List Nat) : Wd := uI (uI (clrR w F) tr 1 0) tr 2 0
theorem rsW_int {w : Wd} {tr : Nat} {F : List Nat} {b k : Nat} (hb : b ≠ tr ∨ k = 0) (hk : k ≠ 2 ∨ b ∉ F) : wI (rsW w tr F) b k = wI w b k := by
  have e1 : ¬ (b = tr ∧ k = 2) := by rintro ⟨rfl, rfl⟩; rcases hb with h | h; exact h rfl; cases h
  have e2 : ¬ (b = tr ∧ k = 1) := by rintro ⟨rfl, rfl⟩; rcases hb with h | h; exact h rfl; cases h
  have e3 : ¬ (k = 2 ∧ b ∈ F) := by rintro ⟨rfl, q⟩; rcases hk with h | h; exact h rfl; exact h q
  show (if b = tr ∧ k = 2 then 0 else if b = tr ∧ k = 1 then 0 else if k = 2 ∧ b ∈ F then 0 else w.2.1 b k) = _
  rw [if_neg e1, if_neg e2, if_neg e3]
  rfl
theorem rsW_0 {w : Wd} {tr : Nat} {F : List Nat} {b : Nat} : wI (rsW w tr F) b 0 = wI w b 0 := rsW_int (Or.inr rfl) (Or.inl (by decide))
theorem rsW_flag {w : Wd} {tr fa N : Nat} {F : List Nat} (H : FL w tr fa N F) (htr : wK w tr = some (.inl 2)) {t : Nat} (ht : isTb w t = true) : wI (rsW w tr F) t 2 = 0 := by
  have hne : t ≠ tr := isTb_ne ht htr (by decide)
  by_cases h : t ∈ F
  · show (if t = tr ∧ 2 = 2 then 0 else if t = tr ∧ 2 = 1 then 0 else if 2 = 2 ∧ t ∈ F then 0 else w.2.1 t 2) = 0
    rw [if_neg (fun q => hne q.1), if_neg (fun q => hne q.1), if_pos ⟨rfl, h⟩]
  · rw [rsW_int (Or.inl hne) (Or.inr h), H.2.2.2.2 t ht, if_neg h]
theorem rsW_nil {w : Wd} {tr fa : Nat} {F : List Nat} : trW (rsW w tr F) tr fa [] = rsW w tr F := trW_nil (by simp [rsW, wI_uI]) (by simp [rsW, wI_uI])
section ST
variable {w : Wd} {x rg nr yg ya ly og oa lo tr fa : Nat} {Y O F G : List Nat}
theorem CI_len (H : CI w x rg nr yg ya ly og oa lo tr fa Y O F G) : G.length ≤ ly + lo := by
  obtain ⟨-, hT, hY, hO, -, -, -, ⟨h1, h2⟩, -, -, hG⟩ := H
  have e1 := hG.1.length_le_of_subset (fun t ht => hG.2.1 t ht)
  have e2 := sz_len (w := w) (xs := Y) (fun t ht => (HT_sz hT (GeL_mem hY ht)).2.1)
  have e3 := sz_len (w := w) (xs := O) (fun t ht => (HT_sz hT (GeL_mem hO ht)).2.1)
  rw [List.length_append] at e1
  omega
theorem CI_G (H : CI w x rg nr yg ya ly og oa lo tr fa Y O F G) {t : Nat} (ht : t ∈ G) : isTb w t = true := by
  obtain ⟨-, -, hY, hO, -, -, -, -, -, -, hG⟩ := H
  rcases List.mem_append.mp (hG.2.1 t ht) with h | h
  · exact GeL_mem hY h
  · exact GeL_mem hO h
/-- behind restart the search may begin -/
theorem CI_TrO (H : CI w x rg nr yg ya ly og oa lo tr fa Y O F G) : TrO (rsW w tr F) tr fa (ly + lo) := by
  obtain ⟨hS, hT, -, -, -, -, -, -, hF, -, -⟩ := H
  obtain ⟨-, -, -, -, -, -, -, -, -, h1, h2, h3, h4, h5, -⟩ := hS
  refine ⟨h3, h4, h5, by omega, fun t ht => ?_⟩
  have ht' : isTb w t = true := ht
  exact ⟨rsW_flag hF h3 ht', by rw [rsW_0, szw_congr rsW_0]; exact (HT_sz hT ht').1⟩
theorem sucL_rs : sucL (rsW w tr F) = sucL w := rfl
theorem CI_BC (H : CI w x rg nr yg ya ly og oa lo tr fa Y O F G) : BC (rsW w tr F) G := by
  intro b hb
  refine ⟨CI_G H hb, fun hk => ?_⟩
  obtain ⟨-, hT, -, -, -, -, -, -, -, -, hG⟩ := H
  obtain ⟨c, n, h1, h2, h3, -, -, h4⟩ := hT.1 b hk
  refine ⟨c, n, h1, h2, by omega, fun o ho => ?_⟩
  obtain ⟨i, hi, rfl⟩ := rowL_mem.mp ho
  refine ⟨h4 i hi, hG.2.2.2.2.1 b hb _ ?_⟩
  rw [sucL_of (w := w) hk h1 h2]
  exact rowL_mem.mpr ⟨i, hi, rfl⟩
theorem CI_regs (H : CI w x rg nr yg ya ly og oa lo tr fa Y O F G) : ∀ o ∈ rowL (rsW w tr F) rg nr, oV (rsW w tr F) o ∧ oB (rsW w tr F) G o := by
  intro o ho
  obtain ⟨i, hi, rfl⟩ := rowL_mem.mp ho
  exact ⟨H.2.1.2.2.2 i hi, H.2.2.2.2.2.2.2.2.2.2.2.2.2.1 i hi⟩
end ST
