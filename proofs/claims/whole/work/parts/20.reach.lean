/-! what a search finds: the least set that holds its start and what its members lead to -/
theorem fnd_mem {w : Wd} {xs : List Nat} {o : Option Nat} {t : Nat} : t ∈ fnd w xs o ↔ t ∈ xs ∨ (o = some t ∧ isTb w t = true) := by
  cases o with
  | none => simp [fnd]
  | some u =>
    show t ∈ (if isTb w u = true ∧ u ∉ xs then xs ++ [u] else xs) ↔ _
    by_cases h1 : isTb w u = true
    · by_cases h2 : u ∈ xs
      · rw [if_neg (fun q => q.2 h2)]
        constructor
        · exact Or.inl
        · rintro (h | ⟨e, -⟩)
          · exact h
          · cases e; exact h2
      · rw [if_pos ⟨h1, h2⟩, List.mem_append, List.mem_singleton]
        constructor
        · rintro (h | rfl)
          · exact Or.inl h
          · exact Or.inr ⟨rfl, h1⟩
        · rintro (h | ⟨e, -⟩)
          · exact Or.inl h
          · cases e; exact Or.inr rfl
    · rw [if_neg (fun q => h1 q.1)]
      constructor
      · exact Or.inl
      · rintro (h | ⟨e, h⟩)
        · exact h
        · cases e; exact absurd h h1
theorem fnds_mem {w : Wd} {os : List (Option Nat)} {t : Nat} : ∀ {xs : List Nat}, t ∈ fnds w xs os ↔ t ∈ xs ∨ (some t ∈ os ∧ isTb w t = true) := by
  induction os with
  | nil => intro xs; simp [fnds]
  | cons o r ih =>
    intro xs
    show t ∈ fnds w (fnd w xs o) r ↔ _
    rw [ih, fnd_mem]
    constructor
    · rintro ((h | ⟨e, h⟩) | ⟨h1, h2⟩)
      · exact Or.inl h
      · exact Or.inr ⟨by rw [e]; exact List.mem_cons_self, h⟩
      · exact Or.inr ⟨List.mem_cons_of_mem _ h1, h2⟩
    · rintro (h | ⟨h1, h2⟩)
      · exact Or.inl (Or.inl h)
      · rcases List.mem_cons.mp h1 with e | h1
        · exact Or.inl (Or.inr ⟨e.symm, h2⟩)
        · exact Or.inr ⟨h1, h2⟩
theorem fnd_pre {w : Wd} {xs : List Nat} {o : Option Nat} : ∃ zs, fnd w xs o = xs ++ zs := by
  cases o with
  | none => exact ⟨[], by simp [fnd]⟩
  | some u =>
    show ∃ zs, (if isTb w u = true ∧ u ∉ xs then xs ++ [u] else xs) = xs ++ zs
    split
    · exact ⟨[u], rfl⟩
    · exact ⟨[], by simp⟩
theorem fnds_pre {w : Wd} {os : List (Option Nat)} : ∀ {xs : List Nat}, ∃ zs, fnds w xs os = xs ++ zs := by
  induction os with
  | nil => intro xs; exact ⟨[], by simp [fnds]⟩
  | cons o r ih =>
    intro xs
    obtain ⟨z1, h1⟩ := fnd_pre (w := w) (xs := xs) (o := o)
    obtain ⟨z2, h2⟩ := ih (xs := fnd w xs o)
    exact ⟨z1 ++ z2, by show fnds w (fnd w xs o) r = _; rw [h2, h1, List.append_assoc]⟩
theorem pre_at {xs zs : List Nat} {i t : Nat} (h : xs[i]? = some t) : (xs ++ zs)[i]? = some t := by
  rw [List.getElem?_append_left (List.getElem?_eq_some_iff.mp h).1]; exact h
/-- whatever it leads to is among xs -/
def dn (w : Wd) (xs : List Nat) (t : Nat) : Prop := ∀ v, some v ∈ sucL w t → isTb w v = true → v ∈ xs
theorem flw_closed {w : Wd} {B : List Nat} {N : Nat} (hC : BC w B) (hB : B.length ≤ N) : ∀ (k i : Nat) (xs : List Nat), k + i = N → Bd B xs → (∀ j t, j < i → xs[j]? = some t → dn w xs t) → (∀ t ∈ flw w k i xs, dn w (flw w k i xs) t) ∧ ∃ zs, flw w k i xs = xs ++ zs := by
  intro k
  induction k with
  | zero =>
    intro i xs hi hb hd
    refine ⟨fun t ht => ?_, [], by simp [flw]⟩
    obtain ⟨j, hj⟩ := List.getElem?_of_mem ht
    have := bd_len hb hB
    exact hd j t (by have := (List.getElem?_eq_some_iff.mp hj).1; simp only [flw] at this; omega) hj
  | succ k ih =>
    intro i xs hi hb hd
    cases hx : xs[i]? with
    | none =>
      have e : flw w (k + 1) i xs = xs := by rw [flw, hx]
      rw [e]
      refine ⟨fun t ht => ?_, [], by simp⟩
      obtain ⟨j, hj⟩ := List.getElem?_of_mem ht
      have h1 := (List.getElem?_eq_some_iff.mp hj).1
      have h2 := List.getElem?_eq_none_iff.mp hx
      exact hd j t (by omega) hj
    | some u =>
      have e : flw w (k + 1) i xs = flw w k (i + 1) (fnds w xs (sucL w u)) := by rw [flw, hx]
      rw [e]
      have hu := hb.2 u (List.mem_of_getElem? hx)
      have hb' : Bd B (fnds w xs (sucL w u)) := fnds_bd (fun o ho => (sucL_ok hC hu o ho).2) hb
      obtain ⟨zs, hz⟩ := fnds_pre (w := w) (xs := xs) (os := sucL w u)
      obtain ⟨h1, ys, h2⟩ := ih (i + 1) (fnds w xs (sucL w u)) (by omega) hb' (fun j t hj ht => by
        by_cases hji : j < i
        · obtain ⟨y, hy⟩ := at_lt (xs := xs) (i := j) (by have := (List.getElem?_eq_some_iff.mp hx).1; omega)
          rw [hz, pre_at hy] at ht
          cases ht
          exact fun v hv hT => fnds_mem.mpr (Or.inl (hd j t hji hy v hv hT))
        · have : j = i := by omega
          subst this
          rw [hz, pre_at hx] at ht
          cases ht
          exact fun v hv hT => fnds_mem.mpr (Or.inr ⟨hv, hT⟩))
      exact ⟨h1, zs ++ ys, by rw [h2, hz, List.append_assoc]⟩
theorem flw_least {w : Wd} {S : Nat → Prop} (hS : ∀ u, S u → ∀ v, some v ∈ sucL w u → isTb w v = true → S v) : ∀ (k i : Nat) (xs : List Nat), (∀ t ∈ xs, S t) → ∀ t ∈ flw w k i xs, S t := by
  intro k
  induction k with
  | zero => intro i xs h; exact h
  | succ k ih =>
    intro i xs h
    cases hx : xs[i]? with
    | none =>
      have e : flw w (k + 1) i xs = xs := by rw [flw, hx]
      rw [e]; exact h
    | some u =>
      have e : flw w (k + 1) i xs = flw w k (i + 1) (fnds w xs (sucL w u)) := by rw [flw, hx]
      rw [e]
      refine ih (i + 1) _ (fun t ht => ?_)
      rcases fnds_mem.mp ht with ht | ⟨h1, h2⟩
      · exact h t ht
      · exact hS u (h u (List.mem_of_getElem? hx)) t h1 h2
/-- the least set over S0 -/
def Rc (w : Wd) (S0 : Nat → Prop) (t : Nat) : Prop := ∀ S : Nat → Prop, (∀ u, S0 u → S u) → (∀ u, S u → ∀ v, some v ∈ sucL w u → isTb w v = true → S v) → S t
theorem flw_mem {w : Wd} {B xs : List Nat} {N : Nat} (hC : BC w B) (hB : B.length ≤ N) (hb : Bd B xs) {t : Nat} : t ∈ flw w N 0 xs ↔ Rc w (fun u => u ∈ xs) t := by
  obtain ⟨h1, zs, h2⟩ := flw_closed hC hB N 0 xs (by omega) hb (fun j t hj => by omega)
  constructor
  · intro ht S hS0 hS
    exact flw_least hS N 0 xs hS0 t ht
  · intro h
    exact h (fun u => u ∈ flw w N 0 xs) (fun u hu => by rw [h2]; exact List.mem_append_left _ hu) (fun u hu v hv hT => h1 u hu v hv hT)
/-! ===== what a world's change keeps ===== -/
theorem HT_congr {w w' : Wd} {rg nr : Nat} (hK : ∀ b, wK w' b = wK w b) (h0 : ∀ t, isTb w t = true → wI w' t 0 = wI w t 0) (hP : ∀ t, wK w t = some (.inl 3) → wP w' t 3 = wP w t 3) (hA : ∀ c n, wK w c = some (.inr (3, n)) → ∀ i, wP w' c i = wP w c i) (hrk : wK w rg = some (.inr (3, nr)))
    (hW : ∀ t, wK w t = some (.inl 4) → wP w' t 3 = wP w t 3 ∨ wP w' t 3 = none) (H : HT w rg nr) : HT w' rg nr := by
  refine ⟨fun t ht => ?_, fun t t' c ht ht' h1 h2 => ?_, fun t ht => ?_, fun r hr => ?_⟩
  · rw [hK] at ht
    obtain ⟨c, n, a1, a2, a3, a4, a5, a6⟩ := H.1 t ht
    exact ⟨c, n, (hP t ht).trans a1, (hK c).trans a2, a3, a4, (h0 t (isTb_of (Or.inl rfl) ht)).trans a5, fun i hi => by rw [hA c n a2 i]; exact oV_congr hK (a6 i hi)⟩
  · rw [hK] at ht ht'
    rw [hP t ht] at h1
    rw [hP t' ht'] at h2
    exact H.2.1 t t' c ht ht' h1 h2
  · rw [hK] at ht
    obtain ⟨a1, a2⟩ := H.2.2.1 t ht
    refine ⟨(h0 t (isTb_of (Or.inr rfl) ht)).trans a1, fun u hu => ?_⟩
    rw [isTb_congr hK]
    rcases hW t ht with h | h
    · rw [h] at hu; exact a2 u hu
    · rw [h] at hu; cases hu
  · rw [hA rg nr hrk r]
    exact oV_congr hK (H.2.2.2 r hr)
theorem CS_congr {w w' : Wd} {x rg nr yg ya ly og oa lo tr fa : Nat} (hK : ∀ b, wK w' b = wK w b) (hx : ∀ k, k < 4 → wP w' x k = wP w x k) (h1 : wP w' yg 1 = wP w yg 1) (h2 : wP w' og 1 = wP w og 1) (h3 : wP w' tr 0 = wP w tr 0) (h4 : wI w' yg 0 = wI w yg 0) (h5 : wI w' og 0 = wI w og 0) (H : CS w x rg nr yg ya ly og oa lo tr fa) : CS w' x rg nr yg ya ly og oa lo tr fa := by
  obtain ⟨⟨a1, a2, a3, a4, a5⟩, b1, b2, b3, b4, b5, b6, b7, b8, b9, c1, c2, c3, c4, c5⟩ := H
  exact ⟨⟨(hK x).trans a1, (hx 0 (by decide)).trans a2, (hK rg).trans a3, a4, a5⟩, b1, (hx 1 (by decide)).trans b2, (hx 2 (by decide)).trans b3, (hx 3 (by decide)).trans b4, GeO_congr hK h1 b5, GeO_congr hK h2 b6, h4.trans b7, h5.trans b8, b9, c1, (hK tr).trans c2, h3.trans c3, (hK fa).trans c4, c5⟩
theorem sucL_congr {w w' : Wd} (hK : ∀ b, wK w' b = wK w b) (hP : ∀ t, wK w t = some (.inl 3) → wP w' t 3 = wP w t 3) (hA : ∀ c n, wK w c = some (.inr (3, n)) → ∀ i, wP w' c i = wP w c i) {rg nr : Nat} (H : HT w rg nr) (t : Nat) : sucL w' t = sucL w t := by
  by_cases ht : wK w t = some (.inl 3)
  · obtain ⟨c, n, a1, a2, -⟩ := H.1 t ht
    rw [sucL_of ((hK t).trans ht) ((hP t ht).trans a1) ((hK c).trans a2), sucL_of ht a1 a2]
    exact rowL_congr (hA c n a2)
  · rw [sucL, sucL, if_neg ht, if_neg (by rw [hK]; exact ht)]
