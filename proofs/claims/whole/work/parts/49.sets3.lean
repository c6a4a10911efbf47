/-! the calls that set: alike on both sides -/
section OS
variable {w w' w1 W W' W1 : Wd} {x rg nr yg ya ly og oa lo tr fa m re th ol sz am fd rc o : Nat} {Y O F G R0 A : List Nat} {ι : Nat → Nat} {ρ : Nat → Bool} {r r2 r3 k : Int32}
theorem rowL_get {a n j : Nat} {o' : Option Nat} : (rowL w a n)[j]? = some o' ↔ j < n ∧ wP w a j = o' := by
  rw [rowL, List.getElem?_map]
  by_cases h : j < n
  · rw [List.getElem?_range h]; simp [h]
  · rw [List.getElem?_eq_none (by rw [List.length_range]; omega)]; simp [h]
theorem RL_ext (hE : Ext w w') (H : CI w x rg nr yg ya ly og oa lo tr fa Y O F G) (R : RL w W x rg nr m re th ol sz am fd ι Y O G) : RL w' W x rg nr m re th ol sz am fd ι Y O G :=
  RL_cl H R (fun b d h => (hE b d h).1) (fun b h => ((hE b _ h).2 0).1) (fun t ht => Ext_suc hE H.2.1 ht) (fun t h => ((hE t _ h).2 3).2) (fun q _ => ((hE rg _ H.1.1.2.2.1).2 q).2) ((hE x _ H.1.1.1).2 4).1 ((hE x _ H.1.1.1).2 5).1
theorem reg_suc {i : Nat} {o' : Option Nat} (hT : HT w rg nr) (hrk : wK w rg = some (.inr (3, nr))) (t : Nat) : sucL (uP w rg i o') t = sucL w t := by
  have ip : ∀ {b k : Nat}, b ≠ rg → wP (uP w rg i o') b k = wP w b k := fun h => by rw [wP_uP, if_neg (fun q => h q.1)]
  by_cases ht : wK w t = some (.inl 3)
  · obtain ⟨c, n, a1, a2, -, a4, -⟩ := hT.1 t ht
    rw [sucL_of (w := uP w rg i o') ht ((ip (fun e => by rw [e, hrk] at ht; cases ht)).trans a1) a2, sucL_of ht a1 a2]
    exact rowL_congr (fun k => ip a4)
  · rw [sucL, sucL, if_neg ht, if_neg (show wK (uP w rg i o') t ≠ _ from ht)]
theorem RL_reg {i : Nat} {v : Int64} {o' : Option Nat} (H : CI w x rg nr yg ya ly og oa lo tr fa Y O F G) (R : RL w W x rg nr m re th ol sz am fd ι Y O G) (M : MS W m re th ol sz am fd rc nr ly lo) (hv : VR w ι o' v) : RL (uP w rg i o') (uL W re i v) x rg nr m re th ol sz am fd ι Y O G := by
  obtain ⟨r1, r2, r3, r4, r5, r6, r7, r8, r9, r10, r11, r12⟩ := id R
  have hrk := H.1.1.2.2.1
  have hsuc : ∀ t, sucL (uP w rg i o') t = sucL w t := reg_suc H.2.1 hrk
  have hne : re ≠ fd := (MS_ne M).2.2
  have vr : ∀ {o v}, VR w ι o v → VR (uP w rg i o') ι o v := fun h => VR_congr (fun _ _ e => e) (fun _ _ => rfl) (fun _ _ _ => rfl) h
  refine ⟨r1, r2, r3, r4, r5, fun t ht => ?_, fun t ht k o e => ?_, fun t ht e => ?_, r9, fun q hq => ?_, r11, r12⟩
  · rw [szC, hsuc]; exact r6 t ht
  · rw [hsuc] at e
    rw [wL_uL, if_neg (fun q => hne q.1.symm)]; exact vr (r7 t ht k o e)
  · have e' : wK w t = some (.inl 4) := e
    rw [wP_uP, if_neg (fun q => by rw [q.1, hrk] at e'; cases e')]; exact r8 t ht e'
  · rw [wP_uP, wL_uL]
    by_cases e : q = i
    · rw [if_pos ⟨rfl, e⟩, if_pos ⟨rfl, e⟩]; exact vr hv
    · rw [if_neg (fun z => e z.2), if_neg (fun z => e z.2)]; exact vr (r10 q hq)
theorem RL_fld {t c n j : Nat} {v : Int64} {o' : Option Nat} (H : CI w x rg nr yg ya ly og oa lo tr fa Y O F G) (R : RL w W x rg nr m re th ol sz am fd ι Y O G) (M : MS W m re th ol sz am fd rc nr ly lo) (ht : t ∈ G) (hk : wK w t = some (.inl 3)) (h3 : wP w t 3 = some c) (hc : wK w c = some (.inr (3, n))) (hj : j < n) (hv : VR w ι o' v) : RL (uP w c j o') (uL W fd (11 * ι t + j) v) x rg nr m re th ol sz am fd ι Y O G := by
  obtain ⟨r1, r2, r3, r4, r5, r6, r7, r8, r9, r10, r11, r12⟩ := id R
  obtain ⟨f1, f2, f3, f4⟩ := fld_P (k := j) (o := o') H.2.1 hk h3 hc
  have hrk := H.1.1.2.2.1
  have hcr : rg ≠ c := fun e => by
    obtain ⟨c', n', a1, a2, -, a4, -⟩ := H.2.1.1 t hk
    rw [h3] at a1; cases a1; exact a4 e.symm
  have hne : re ≠ fd := (MS_ne M).2.2
  have hs0 : sucL w t = rowL w c n := sucL_of hk h3 hc
  have hn : n ≤ 11 := by
    have := (plain_sz H.2.1 hk).2
    rw [hs0] at this; simpa [rowL] using this
  have vr : ∀ {o v}, VR w ι o v → VR (uP w c j o') ι o v := fun h => VR_congr (fun _ _ e => e) (fun _ _ => rfl) (fun _ _ _ => rfl) h
  refine ⟨r1, r2, r3, r4, r5, fun u hu => ?_, fun u hu i o e => ?_, fun u hu e => ?_, r9, fun q hq => ?_, r11, r12⟩
  · rw [show wI (uL W fd (11 * ι t + j) v) sz (ι u) = wI W sz (ι u) from rfl, r6 u hu, szC, szC]
    by_cases eu : u = t
    · subst eu
      rw [f3, hs0, show (rowL (uP w c j o') c n).length = (rowL w c n).length from by simp [rowL]]; rfl
    · rw [f2 u eu]; rfl
  · by_cases eu : u = t
    · subst eu
      rw [f3] at e
      obtain ⟨hi, e⟩ := rowL_get.mp e
      rw [f4] at e
      rw [wL_uL]
      by_cases ei : i = j
      · rw [if_pos ei] at e
        rw [if_pos ⟨rfl, by rw [ei]⟩, ← e]; exact vr hv
      · rw [if_neg ei] at e
        rw [if_neg (fun z => ei (by have := z.2; omega))]
        exact vr (r7 u hu i o (by rw [hs0]; exact rowL_get.mpr ⟨hi, e⟩))
    · rw [f2 u eu] at e
      have hlu : (sucL w u).length ≤ 11 := by
        by_cases hku : wK w u = some (.inl 3)
        · exact (plain_sz H.2.1 hku).2
        · rw [suc_nil hku]; exact Nat.zero_le _
      have hil : i < (sucL w u).length := by
        rcases Nat.lt_or_ge i (sucL w u).length with h | h
        · exact h
        · rw [List.getElem?_eq_none h] at e; cases e
      have hiu : ι u ≠ ι t := fun z => eu (r2 u (RL_G H hu) t (RL_G H ht) z)
      rw [wL_uL, if_neg (fun z => hiu (by have := z.2; omega))]
      exact vr (r7 u hu i o e)
  · have e' : wK w u = some (.inl 4) := e
    rw [f1 u _ 3 e' (fun z => by rw [z, hc] at e'; cases e')]; exact r8 u hu e'
  · rw [f1 rg _ q hrk hcr, wL_uL, if_neg (fun z => hne z.1)]; exact vr (r10 q hq)
theorem KS_MP (K : KS w x rg nr yg ya ly og oa lo tr fa m re th ol sz am fd rc o) (hF : FrC w W) : ∃ B, MP W m re th ol sz am fd rc nr ly lo B := by
  obtain ⟨-, Y, O, F, G, ι, H, M, R⟩ := K
  exact ⟨_, RL_MP H (RL_frC hF M H R) (MS_frC hF M)⟩
theorem KS_no {v : Int32} (K : KS w x rg nr yg ya ly og oa lo tr fa m re th ol sz am fd rc o) : wI (uI w m 0 v) m 0 = v ∧ KS (uI w m 0 v) x rg nr yg ya ly og oa lo tr fa m re th ol sz am fd rc o := ⟨by rw [wI_uI, if_pos ⟨rfl, rfl⟩], KS_u0 K⟩
theorem set_reg {i : Nat} {v : Int64} {o' : Option Nat} (hs : wK w o = some (.inr (2, 1))) (hF : FrC w w1) (H : CI w1 x rg nr yg ya ly og oa lo tr fa Y O F G) (M : MS w m re th ol sz am fd rc nr ly lo) (R : RL w1 w x rg nr m re th ol sz am fd ι Y O G) (hi : i < nr) (hv : VR w1 ι o' v) (h1 : oV w1 o') (h2 : oB w1 G o') :
    wI (uL (uI (uP w1 rg i o') m 0 0) re i v) m 0 = 0 ∧ KS (uL (uI (uP w1 rg i o') m 0 0) re i v) x rg nr yg ya ly og oa lo tr fa m re th ol sz am fd rc o := by
  have hF2 : FrC w (uP w1 rg i o') := FrC_trans hF (FrC_uP H.1.1.2.2.1 rfl)
  have M2 := MS_frC hF2 M
  have M3 : MS (uI (uP w1 rg i o') m 0 0) m re th ol sz am fd rc nr ly lo := MS_uI (Or.inl rfl) M2
  refine ⟨by rw [wI_uL, wI_uI, if_pos ⟨rfl, rfl⟩], KS_of hs hF2 M2 (FrM_trans FrM_u0 FrM_uL) (CI_reg H hi h1 h2) (MS_uL M3) (RL_reg H (RL_u0 M2 H (RL_frC hF2 M H R)) M3 hv)⟩
theorem op_clear (K : KS w x rg nr yg ya ly og oa lo tr fa m re th ol sz am fd rc o) (hc : (k = 0 ∧ ∃ i, i < nr ∧ r = nI i ∧ W = uP w rg i none) ∨ (k = 1 ∧ ¬ regB nr r ∧ W = w)) (hm : (¬ regB nr r ∧ W' = uI W m 0 1) ∨ ∃ i, i < nr ∧ r = nI i ∧ W' = uL (uI W m 0 0) re i 1099511627776) : wI W' m 0 = k ∧ KS W' x rg nr yg ya ly og oa lo tr fa m re th ol sz am fd rc o := by
  obtain ⟨hs, Y, O, F, G, ι, H, M, R⟩ := id K
  have hnr := H.1.1.2.2.2.2
  rcases hc with ⟨rfl, i, hi, rfl, rfl⟩ | ⟨rfl, h1, rfl⟩ <;> rcases hm with ⟨g1, rfl⟩ | ⟨i', hi', e, rfl⟩
  · exact absurd (regB_nI hnr hi) g1
  · have e' := (nI_eq (by omega) (by omega)).mp e
    subst e'
    exact set_reg hs (FrC_refl w) H M R hi (show VR w ι none _ from rfl) (fun _ h => nomatch h) (fun _ h => nomatch h)
  · exact KS_no K
  · exact absurd (e ▸ regB_nI hnr hi') h1
theorem op_move (K : KS w x rg nr yg ya ly og oa lo tr fa m re th ol sz am fd rc o) (hc : (k = 0 ∧ ∃ i j, i < nr ∧ r = nI i ∧ j < nr ∧ r2 = nI j ∧ W = uP w rg i (wP w rg j)) ∨ (k = 1 ∧ ¬ (regB nr r ∧ regB nr r2) ∧ W = w)) (hm : (¬ (regB nr r ∧ regB nr r2) ∧ W' = uI W m 0 1) ∨ ∃ i j, i < nr ∧ r = nI i ∧ j < nr ∧ r2 = nI j ∧ W' = uL (uI W m 0 0) re i (wL W re j)) : wI W' m 0 = k ∧ KS W' x rg nr yg ya ly og oa lo tr fa m re th ol sz am fd rc o := by
  obtain ⟨hs, Y, O, F, G, ι, H, M, R⟩ := id K
  have hnr := H.1.1.2.2.2.2
  have hG := H.2.2.2.2.2.2.2.2.2.2
  rcases hc with ⟨rfl, i, j, hi, rfl, hj, rfl, rfl⟩ | ⟨rfl, h1, rfl⟩ <;> rcases hm with ⟨g1, rfl⟩ | ⟨i', j', hi', e, hj', e2, rfl⟩
  · exact absurd ⟨regB_nI hnr hi, regB_nI hnr hj⟩ g1
  · have e' := (nI_eq (by omega) (by omega)).mp e
    subst e'
    have e' := (nI_eq (by omega) (by omega)).mp e2
    subst e'
    exact set_reg hs (FrC_refl w) H M R hi (R.2.2.2.2.2.2.2.2.2.1 j hj) (H.2.1.2.2.2 j hj) (hG.2.2.2.1 j hj)
  · exact KS_no K
  · exact absurd ⟨e ▸ regB_nI hnr hi', e2 ▸ regB_nI hnr hj'⟩ h1
theorem op_number {v : Int32} (K : KS w x rg nr yg ya ly og oa lo tr fa m re th ol sz am fd rc o) (hc : (k = 0 ∧ ∃ i a, i < nr ∧ r = nI i ∧ (-1073741824 ≤ v ∧ v ≤ 1073741823) ∧ wK w a = none ∧ W = uP (uI (uN w a (.inl 5)) a 0 v) rg i (some a)) ∨ (k = 1 ∧ ¬ (regB nr r ∧ (-1073741824 ≤ v ∧ v ≤ 1073741823)) ∧ W = w)) (hm : (¬ (regB nr r ∧ (-1073741824 ≤ v ∧ v < 1073741824)) ∧ W' = uI W m 0 1) ∨ ∃ i, i < nr ∧ r = nI i ∧ (-1073741824 ≤ v ∧ v < 1073741824) ∧ W' = uL (uI W m 0 0) re i v.toInt64) : wI W' m 0 = k ∧ KS W' x rg nr yg ya ly og oa lo tr fa m re th ol sz am fd rc o := by
  obtain ⟨hs, Y, O, F, G, ι, H, M, R⟩ := id K
  have hnr := H.1.1.2.2.2.2
  have hb : v ≤ 1073741823 ↔ v < 1073741824 := by
    rw [Int32.le_iff_toInt_le, Int32.lt_iff_toInt_lt, show (1073741823 : Int32).toInt = 1073741823 from by decide, show (1073741824 : Int32).toInt = 1073741824 from by decide]; omega
  rcases hc with ⟨rfl, i, a, hi, rfl, hv, ha, rfl⟩ | ⟨rfl, h1, rfl⟩ <;> rcases hm with ⟨g1, rfl⟩ | ⟨i', hi', e, hv', rfl⟩
  · exact absurd ⟨regB_nI hnr hi, hv.1, hb.mp hv.2⟩ g1
  · have e' := (nI_eq (by omega) (by omega)).mp e
    subst e'
    have hk5 : wK (newN w a v) a = some (.inl 5) := by rw [newN_K, if_pos rfl]
    have hi5 : wI (newN w a v) a 0 = v := by rw [newN_I, if_pos ⟨rfl, rfl⟩]
    refine set_reg (w1 := newN w a v) hs (newN_fr ha) (newN_CI H ha) M (RL_ext (newN_ext ha) H R) hi (Or.inr ⟨hk5, by rw [hi5], by rw [hi5]; exact hv'⟩) (fun t h => ?_) (fun t h ht => ?_)
    · cases h; exact Or.inr hk5
    · cases h; rw [isTb_no hk5] at ht; cases ht
  · exact KS_no K
  · exact absurd ⟨e ▸ regB_nI hnr hi', hv'.1, hb.mpr hv'.2⟩ h1
theorem only_P {t : Nat} (h : only w (isTb w) (some t) = some t) (hk : wK w t = some (.inl 3)) : only w (isP w) (some t) = some t := by rw [only, if_pos (by simp [isP, hk])]
theorem fcond_two {i : Int32} (H : CI w x rg nr yg ya ly og oa lo tr fa Y O F G) (R : RL w W x rg nr m re th ol sz am fd ι Y O G) : fcond W re sz nr r i ↔ ∃ t, only w (isP w) (held w rg nr r) = some t ∧ 0 ≤ i ∧ i < nI (sucL w t).length := by
  rcases plc_two H R r with ⟨hp, ho⟩ | ⟨t, hG, hY, hl, ht, -, hh, hp, -, -⟩
  · refine ⟨fun q => absurd (hp ▸ q.1) (by decide), fun ⟨t, h1, _⟩ => ?_⟩
    obtain ⟨e, h2⟩ := only_some h1
    rw [e, only, if_pos (isTb_of (Or.inl rfl) (isP_k h2))] at ho; cases ho
  · rw [fcond, hp, nI_clamp (by omega), R.2.2.2.2.2.1 t hY, szC, hh]
    obtain ⟨ci, rfl | rfl, hk⟩ := isTb_to ht
    · rw [if_pos hk]
      refine ⟨fun q => ⟨t, by rw [only, if_pos (by simp [isP, hk])], q.2⟩, fun ⟨t', h1, q⟩ => ?_⟩
      obtain ⟨e, -⟩ := only_some h1
      cases e
      exact ⟨nI_pos' (by omega), q⟩
    · rw [if_neg (by rw [hk]; simp)]
      refine ⟨fun q => ?_, fun ⟨t', h1, _⟩ => ?_⟩
      · exact absurd (Int32.lt_of_le_of_lt q.2.1 q.2.2) (by decide)
      · rw [only, if_neg (by simp [isP, hk])] at h1; cases h1
theorem wcond_two (H : CI w x rg nr yg ya ly og oa lo tr fa Y O F G) (R : RL w W x rg nr m re th ol sz am fd ι Y O G) : wcond W re sz nr r ↔ ∃ t, only w (isWk w) (held w rg nr r) = some t := by
  rcases plc_two H R r with ⟨hp, ho⟩ | ⟨t, hG, hY, hl, ht, -, hh, hp, -, -⟩
  · refine ⟨fun q => absurd (hp ▸ q.1) (by decide), fun ⟨t, h1⟩ => ?_⟩
    obtain ⟨e, h2⟩ := only_some h1
    rw [e, only, if_pos (isTb_of (Or.inr rfl) (isWk_k h2))] at ho; cases ho
  · obtain ⟨-, -, -, z1, z2⟩ := szC_ok H.2.1 ht (R.2.2.2.2.2.1 t hY)
    rw [wcond, hp, nI_clamp (by omega), hh, z1]
    refine ⟨fun q => ⟨t, by rw [only, if_pos (by simp [isWk, q.2])]⟩, fun ⟨t', h1⟩ => ?_⟩
    obtain ⟨e, h2⟩ := only_some h1
    cases e
    exact ⟨nI_pos' (by omega), isWk_k h2⟩
theorem op_load (K : KS w x rg nr yg ya ly og oa lo tr fa m re th ol sz am fd rc o) (hc : (k = 0 ∧ ∃ i t c n k, i < nr ∧ r = nI i ∧ only w (isP w) (held w rg nr r2) = some t ∧ wP w t 3 = some c ∧ wK w c = some (.inr (3, n)) ∧ k < n ∧ r3 = nI k ∧ W = uP w rg i (wP w c k)) ∨ (k = 1 ∧ ¬ (regB nr r ∧ ∃ t, only w (isP w) (held w rg nr r2) = some t ∧ 0 ≤ r3 ∧ r3 < nI (sucL w t).length) ∧ W = w)) (hm : (¬ (regB nr r ∧ fcond W re sz nr r2 r3) ∧ W' = uI W m 0 1) ∨ (fcond W re sz nr r2 r3 ∧ ∃ i p k, i < nr ∧ r = nI i ∧ p < 200 ∧ k < 11 ∧ plc W re nr r2 = nI p ∧ r3 = nI k ∧ W' = uL (uI W m 0 0) re i (wL W fd (11 * p + k)))) : wI W' m 0 = k ∧ KS W' x rg nr yg ya ly og oa lo tr fa m re th ol sz am fd rc o := by
  obtain ⟨hs, Y, O, F, G, ι, H, M, R⟩ := id K
  have hnr := H.1.1.2.2.2.2
  have hG := H.2.2.2.2.2.2.2.2.2.2
  rcases hc with ⟨rfl, i, t, c, n, j, hi, rfl, ho, h3, hck, hj, rfl, rfl⟩ | ⟨rfl, h1, rfl⟩
  · have hFC : FrC w (uP w rg i (wP w c j)) := FrC_uP H.1.1.2.2.1 rfl
    have R2 := RL_frC hFC M H R
    obtain ⟨he, hP⟩ := only_some ho
    have hk := isP_k hP
    have hs0 : sucL w t = rowL w c n := sucL_of hk h3 hck
    have hn : n ≤ 11 := by
      have := (plain_sz H.2.1 hk).2
      rw [hs0] at this; simpa [rowL] using this
    have hget : (sucL w t)[j]? = some (wP w c j) := by rw [hs0]; exact rowL_get.mpr ⟨hj, rfl⟩
    have htG : t ∈ G := by
      have := (held_oB (r := r2) H).2
      exact this t he (isTb_of (Or.inl rfl) hk)
    rcases hm with ⟨g1, rfl⟩ | ⟨g0, i', p, j', hi', e, hp, hj', hpl, e2, rfl⟩
    · refine absurd ⟨regB_nI hnr hi, (fcond_two H R2).mpr ⟨t, ho, nI_pos' (by omega), ?_⟩⟩ g1
      rw [hs0, show (rowL w c n).length = n from by simp [rowL]]
      exact nI_lt hj (by omega)
    · have e' := (nI_eq (by omega) (by omega)).mp e
      subst e'
      have e' := (nI_eq (by omega) (by omega)).mp e2
      subst e'
      rcases plc_two H R2 r2 with ⟨hq, -⟩ | ⟨t', -, -, hl', -, -, hh', hq, -, -⟩
      · rw [hq] at hpl
        exact absurd (hpl ▸ m1_neg) (nI_pos (by omega))
      · rw [hh'] at he; cases he
        rw [hq] at hpl
        have e' := (nI_eq (by omega) (by omega)).mp hpl
        subst e'
        refine set_reg hs (FrC_refl w) H M R hi (R.2.2.2.2.2.2.1 t htG j _ hget) (suc_oV H.2.1 (List.mem_of_getElem? hget)) (hG.2.2.2.2.1 t htG _ (List.mem_of_getElem? hget))
  · rcases hm with ⟨g1, rfl⟩ | ⟨g0, i', p, j', hi', e, hp, hj', hpl, e2, rfl⟩
    · exact KS_no K
    · exact absurd ⟨e ▸ regB_nI hnr hi', (fcond_two H R).mp g0⟩ h1
theorem op_store (K : KS w x rg nr yg ya ly og oa lo tr fa m re th ol sz am fd rc o) (hc : (k = 0 ∧ ∃ j t c n k, j < nr ∧ r3 = nI j ∧ only w (isP w) (held w rg nr r) = some t ∧ wP w t 3 = some c ∧ wK w c = some (.inr (3, n)) ∧ k < n ∧ r2 = nI k ∧ W = uP w c k (wP w rg j)) ∨ (k = 1 ∧ ¬ (regB nr r3 ∧ ∃ t, only w (isP w) (held w rg nr r) = some t ∧ 0 ≤ r2 ∧ r2 < nI (sucL w t).length) ∧ W = w)) (hm : (¬ (regB nr r3 ∧ fcond W re sz nr r r2) ∧ W' = uI W m 0 1) ∨ (fcond W re sz nr r r2 ∧ ∃ i p k, i < nr ∧ r3 = nI i ∧ p < 200 ∧ k < 11 ∧ plc W re nr r = nI p ∧ r2 = nI k ∧ W' = uL (uI W m 0 0) fd (11 * p + k) (wL W re i))) : wI W' m 0 = k ∧ KS W' x rg nr yg ya ly og oa lo tr fa m re th ol sz am fd rc o := by
  obtain ⟨hs, Y, O, F, G, ι, H, M, R⟩ := id K
  have hnr := H.1.1.2.2.2.2
  have hG := H.2.2.2.2.2.2.2.2.2.2
  rcases hc with ⟨rfl, i, t, c, n, j, hi, rfl, ho, h3, hck, hj, rfl, rfl⟩ | ⟨rfl, h1, rfl⟩
  · have hFC : FrC w (uP w c j (wP w rg i)) := FrC_uP hck rfl
    have M2 := MS_frC hFC M
    have R2 := RL_frC hFC M H R
    obtain ⟨he, hP⟩ := only_some ho
    have hk := isP_k hP
    have hs0 : sucL w t = rowL w c n := sucL_of hk h3 hck
    have hn : n ≤ 11 := by
      have := (plain_sz H.2.1 hk).2
      rw [hs0] at this; simpa [rowL] using this
    have htG : t ∈ G := by
      have := (held_oB (r := r) H).2
      exact this t he (isTb_of (Or.inl rfl) hk)
    rcases hm with ⟨g1, rfl⟩ | ⟨g0, i', p, j', hi', e, hp, hj', hpl, e2, rfl⟩
    · refine absurd ⟨regB_nI hnr hi, (fcond_two H R2).mpr ⟨t, ho, nI_pos' (by omega), ?_⟩⟩ g1
      rw [hs0, show (rowL w c n).length = n from by simp [rowL]]
      exact nI_lt hj (by omega)
    · have e' := (nI_eq (by omega) (by omega)).mp e
      subst e'
      have e' := (nI_eq (by omega) (by omega)).mp e2
      subst e'
      rcases plc_two H R2 r with ⟨hq, -⟩ | ⟨t', -, -, hl', -, -, hh', hq, -, -⟩
      · rw [hq] at hpl
        exact absurd (hpl ▸ m1_neg) (nI_pos (by omega))
      · rw [hh'] at he; cases he
        rw [hq] at hpl
        have e' := (nI_eq (by omega) (by omega)).mp hpl
        subst e'
        have M3 : MS (uI (uP w c j (wP w rg i)) m 0 0) m re th ol sz am fd rc nr ly lo := MS_uI (Or.inl rfl) M2
        refine ⟨by rw [wI_uL, wI_uI, if_pos ⟨rfl, rfl⟩], KS_of hs hFC M2 (FrM_trans FrM_u0 FrM_uL) (CI_fld H hk h3 hck hj (H.2.1.2.2.2 i hi) (hG.2.2.2.1 i hi)) (MS_uL M3) (RL_fld H (RL_u0 M2 H R2) M3 htG hk h3 hck hj (R2.2.2.2.2.2.2.2.2.2.1 i hi))⟩
  · rcases hm with ⟨g1, rfl⟩ | ⟨g0, i', p, j', hi', e, hp, hj', hpl, e2, rfl⟩
    · exact KS_no K
    · exact absurd ⟨e ▸ regB_nI hnr hi', (fcond_two H R).mp g0⟩ h1
theorem op_target (K : KS w x rg nr yg ya ly og oa lo tr fa m re th ol sz am fd rc o) (hc : (k = 0 ∧ ∃ i t, i < nr ∧ r = nI i ∧ only w (isWk w) (held w rg nr r2) = some t ∧ W = uP w rg i (wP w t 3)) ∨ (k = 1 ∧ ¬ (regB nr r ∧ ∃ t, only w (isWk w) (held w rg nr r2) = some t) ∧ W = w)) (hm : (¬ (regB nr r ∧ wcond W re sz nr r2) ∧ W' = uI W m 0 1) ∨ (wcond W re sz nr r2 ∧ ∃ i p, i < nr ∧ r = nI i ∧ p < 200 ∧ plc W re nr r2 = nI p ∧ W' = uL (uI W m 0 0) re i (if wI W am p < 0 then 1099511627776 else 2199023255552 + (wI W am p).toInt64))) : wI W' m 0 = k ∧ KS W' x rg nr yg ya ly og oa lo tr fa m re th ol sz am fd rc o := by
  obtain ⟨hs, Y, O, F, G, ι, H, M, R⟩ := id K
  have hnr := H.1.1.2.2.2.2
  have hG := H.2.2.2.2.2.2.2.2.2.2
  rcases hc with ⟨rfl, i, t, hi, rfl, ho, rfl⟩ | ⟨rfl, h1, rfl⟩
  · have hFC : FrC w (uP w rg i (wP w t 3)) := FrC_uP H.1.1.2.2.1 rfl
    have R2 := RL_frC hFC M H R
    obtain ⟨he, hW⟩ := only_some ho
    have hk := isWk_k hW
    have htG : t ∈ G := by
      have := (held_oB (r := r2) H).2
      exact this t he (isTb_of (Or.inr rfl) hk)
    rcases hm with ⟨g1, rfl⟩ | ⟨g0, i', p, hi', e, hp, hpl, rfl⟩
    · exact absurd ⟨regB_nI hnr hi, (wcond_two H R2).mpr ⟨t, ho⟩⟩ g1
    · have e' := (nI_eq (by omega) (by omega)).mp e
      subst e'
      rcases plc_two H R2 r2 with ⟨hq, -⟩ | ⟨t', -, -, hl', -, -, hh', hq, -, -⟩
      · rw [hq] at hpl
        exact absurd (hpl ▸ m1_neg) (nI_pos (by omega))
      · rw [hh'] at he; cases he
        rw [hq] at hpl
        have e' := (nI_eq (by omega) (by omega)).mp hpl
        subst e'
        have ha := R2.2.2.2.2.2.2.2.1 t htG hk
        cases eu : wP w t 3 with
        | none =>
          rw [eu] at ha
          have ha' : wI (uP w rg i none) am (ι t) = -1 := ha
          rw [ha', if_pos m1_neg]
          exact set_reg hs (FrC_refl w) H M R hi (show VR w ι none _ from rfl) (fun _ h => nomatch h) (fun _ h => nomatch h)
        | some u =>
          rw [eu] at ha
          have huT := (H.2.1.2.2.1 t hk).2 u eu
          have huG := hG.2.2.2.2.2 t htG u hk eu
          have hul := R.1 u (RL_G H huG)
          have ha' : wI (uP w rg i (some u)) am (ι t) = nI (ι u) := ha
          rw [ha', if_neg (nI_pos (by omega)), RF_add (by omega)]
          exact set_reg hs (FrC_refl w) H M R hi (Or.inl ⟨huT, rfl⟩) (fun z h => by cases h; exact Or.inl huT) (fun z h _ => by cases h; exact huG)
  · rcases hm with ⟨g1, rfl⟩ | ⟨g0, i', p, hi', e, hp, hpl, rfl⟩
    · exact KS_no K
    · exact absurd ⟨e ▸ regB_nI hnr hi', (wcond_two H R).mp g0⟩ h1
end OS
