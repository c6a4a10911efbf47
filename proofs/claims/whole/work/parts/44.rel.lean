/-! the class and the model side by side: the class's world w, the model's world W -/
def VR (w : Wd) (ι : Nat → Nat) (o : Option Nat) (v : Int64) : Prop := match o with
  | none => v = 1099511627776
  | some t => (isTb w t = true ∧ v = RF (ι t)) ∨ (wK w t = some (.inl 5) ∧ v = (wI w t 0).toInt64 ∧ -1073741824 ≤ wI w t 0 ∧ wI w t 0 < 1073741824)
def AR (ι : Nat → Nat) (o : Option Nat) (a : Int32) : Prop := match o with
  | none => a = -1
  | some u => a = nI (ι u)
def szC (w : Wd) (t : Nat) : Int32 := if wK w t = some (.inl 3) then nI (sucL w t).length else -1
def RL (w W : Wd) (x rg nr m re th ol sz am fd : Nat) (ι : Nat → Nat) (Y O G : List Nat) : Prop :=
  (∀ t ∈ Y ++ O, ι t < 200) ∧ (∀ t ∈ Y ++ O, ∀ u ∈ Y ++ O, ι t = ι u → t = u) ∧
  (∀ p, p < 200 → (wI W th p ≠ 0 ↔ ∃ t, t ∈ Y ++ O ∧ ι t = p)) ∧
  (∀ t ∈ Y, wI W ol (ι t) = 0) ∧ (∀ t ∈ O, wI W ol (ι t) = 1) ∧
  (∀ t ∈ Y ++ O, wI W sz (ι t) = szC w t) ∧
  (∀ t ∈ G, ∀ k o, (sucL w t)[k]? = some o → VR w ι o (wL W fd (11 * ι t + k))) ∧
  (∀ t ∈ G, wK w t = some (.inl 4) → AR ι (wP w t 3) (wI W am (ι t))) ∧
  amok W am ∧
  (∀ r, r < nr → VR w ι (wP w rg r) (wL W re r)) ∧
  (wI W m 11 = wI w x 4 ∧ wI W m 12 = wI w x 5)
theorem whole_lt {n : Int32} : n.toInt64 < 1099511627776 ∧ n.toInt64 < 2199023255552 := by
  have h1 : n.toInt < 2147483648 := Int32.toInt_lt n
  refine ⟨Int64.lt_iff_toInt_lt.mpr ?_, Int64.lt_iff_toInt_lt.mpr ?_⟩
  · rw [Int32.toInt_toInt64, show (1099511627776 : Int64).toInt = 1099511627776 from by decide]; omega
  · rw [Int32.toInt_toInt64, show (2199023255552 : Int64).toInt = 2199023255552 from by decide]; omega
theorem RF_nlt {q : Nat} (h : q < 200) : ¬ RF q < 2199023255552 := fun g => absurd (Int64.lt_of_lt_of_le g (RF_ge h)) Int64.lt_irrefl
theorem VR_cases {w : Wd} {ι : Nat → Nat} {o : Option Nat} {v : Int64} (h : VR w ι o v) : v < 2199023255552 ∨ ∃ t, o = some t ∧ isTb w t = true ∧ v = RF (ι t) := by
  cases o with
  | none => exact Or.inl (by rw [show v = 1099511627776 from h]; decide)
  | some t =>
    rcases h with ⟨h1, h2⟩ | ⟨-, h2, -⟩
    · exact Or.inr ⟨t, rfl, h1, h2⟩
    · exact Or.inl (by rw [h2]; exact whole_lt.2)
theorem VR_thing {w : Wd} {ι : Nat → Nat} {t : Nat} {v : Int64} (h : VR w ι (some t) v) (ht : isTb w t = true) : v = RF (ι t) := by
  rcases h with ⟨-, h2⟩ | ⟨h1, -⟩
  · exact h2
  · rw [isTb_no h1] at ht; cases ht
theorem VR_RF {w : Wd} {ι : Nat → Nat} {o : Option Nat} {q : Nat} (hq : q < 200) (h : VR w ι o (RF q)) (hl : ∀ t, o = some t → isTb w t = true → ι t < 200) : ∃ t, o = some t ∧ isTb w t = true ∧ ι t = q := by
  rcases VR_cases h with g | ⟨t, e, ht, g⟩
  · exact absurd g (RF_nlt hq)
  · exact ⟨t, e, ht, ((RF_inj hq (hl t e ht)).mp g).symm⟩
theorem VR_congr {w w' : Wd} {ι ι' : Nat → Nat} {o : Option Nat} {v : Int64} (hK : ∀ b d, wK w b = some d → wK w' b = some d) (hN : ∀ b, wK w b = some (.inl 5) → wI w' b 0 = wI w b 0) (hi : ∀ t, o = some t → isTb w t = true → ι' t = ι t) (h : VR w ι o v) : VR w' ι' o v := by
  cases o with
  | none => exact h
  | some t =>
    rcases h with ⟨h1, h2⟩ | ⟨h1, h2, h3⟩
    · obtain ⟨ci, hci, hk⟩ := isTb_to h1
      exact Or.inl ⟨isTb_of hci (hK t _ hk), by rw [hi t rfl h1]; exact h2⟩
    · exact Or.inr ⟨hK t _ h1, by rw [hN t h1]; exact h2, by rw [hN t h1]; exact h3⟩
/-! sums over places -/
theorem sumTo_zero {f : Nat → Int32} : ∀ {n : Nat}, (∀ k, k < n → f k = 0) → sumTo f n = 0
  | 0, _ => rfl
  | n + 1, h => by rw [sumTo_s, sumTo_zero (fun k hk => h k (by omega)), h n (by omega)]; rfl
theorem sumTo_out {f : Nat → Int32} {j : Nat} : ∀ {n : Nat}, j < n → sumTo f n = sumTo (fun p => if p = j then 0 else f p) n + f j
  | 0, h => absurd h (Nat.not_lt_zero _)
  | n + 1, h => by
    rw [sumTo_s, sumTo_s]
    by_cases e : n = j
    · subst e
      have := sumTo_congr (f := f) (g := fun p => if p = n then 0 else f p) (n := n) (fun k hk => (if_neg (Nat.ne_of_lt hk)).symm)
      rw [if_pos rfl, Int32.add_zero, ← this]
    · rw [if_neg e, sumTo_out (f := f) (j := j) (n := n) (by omega), Int32.add_assoc, Int32.add_assoc, Int32.add_comm (f j)]
theorem sum_pick {ι : Nat → Nat} {g : Nat → Nat} {n : Nat} : ∀ (S : List Nat) {f : Nat → Int32}, S.Nodup → (∀ t ∈ S, ι t < n) → (∀ t ∈ S, ∀ u ∈ S, ι t = ι u → t = u) → (∀ t ∈ S, f (ι t) = nI (g t)) → (∀ p, p < n → (∀ t ∈ S, ι t ≠ p) → f p = 0) → sumTo f n = nI ((S.map g).sum)
  | [], f, _, _, _, _, h0 => by
    rw [sumTo_zero (fun k hk => h0 k hk (fun t ht => absurd ht (by simp)))]
    exact nI_0.symm
  | t :: S, f, hnd, hl, hi, hf, h0 => by
    rw [List.nodup_cons] at hnd
    have hne : ∀ u ∈ S, ι u ≠ ι t := fun u hu e => hnd.1 ((hi u (.tail _ hu) t (.head _) e) ▸ hu)
    have h := sum_pick (ι := ι) (g := g) (n := n) S (f := fun p => if p = ι t then 0 else f p) hnd.2 (fun u hu => hl u (.tail _ hu)) (fun u hu u' hu' => hi u (.tail _ hu) u' (.tail _ hu')) (fun u hu => (if_neg (hne u hu)).trans (hf u (.tail _ hu))) (fun p hp hno => by
      by_cases e : p = ι t
      · exact if_pos e
      · refine (if_neg e).trans (h0 p hp (fun u hu => ?_))
        rcases List.mem_cons.mp hu with e' | hu'
        · rw [e']; exact Ne.symm e
        · exact hno u hu')
    rw [sumTo_out (hl t (.head _)), h, hf t (.head _), nI_add, List.map_cons, List.sum_cons, Nat.add_comm]
section RL
variable {w W : Wd} {x rg nr yg ya ly og oa lo tr fa m re th ol sz am fd rc : Nat} {Y O F G : List Nat} {ι : Nat → Nat}
theorem CI_thing (H : CI w x rg nr yg ya ly og oa lo tr fa Y O F G) {t : Nat} (ht : t ∈ Y ++ O) : isTb w t = true := by
  rcases List.mem_append.mp ht with h | h
  · exact GeL_mem H.2.2.1 h
  · exact GeL_mem H.2.2.2.1 h
theorem plain_sz (H : HT w rg nr) {t : Nat} (h : wK w t = some (.inl 3)) : szw w t = (sucL w t).length + 1 ∧ (sucL w t).length ≤ 11 := by
  obtain ⟨c, n, a1, a2, a3, -, a5, -⟩ := H.1 t h
  have hl : (sucL w t).length = n := by rw [sucL_of h a1 a2]; simp [rowL]
  rw [hl, szw, a5, nI_clamp (by omega)]
  exact ⟨rfl, a3⟩
theorem suc_nil {t : Nat} (h : wK w t ≠ some (.inl 3)) : sucL w t = [] := by rw [sucL, if_neg h]
theorem szC_ok (H : HT w rg nr) {t : Nat} (ht : isTb w t = true) {a : Int32} (e : a = szC w t) : (a = -1 ∨ ∃ n, n ≤ 11 ∧ a = nI n) ∧ a.toNatClampNeg = (sucL w t).length ∧ (if a < 0 then 2 else a + 1) = nI (szw w t) ∧ (a < 0 ↔ wK w t = some (.inl 4)) ∧ (¬ a < 0 ↔ wK w t = some (.inl 3)) := by
  obtain ⟨ci, rfl | rfl, hk⟩ := isTb_to ht
  · obtain ⟨h1, h2⟩ := plain_sz H hk
    rw [szC, if_pos hk] at e
    subst e
    have hp := nI_pos (n := (sucL w t).length) (by omega)
    exact ⟨Or.inr ⟨_, h2, rfl⟩, nI_clamp (by omega), by rw [if_neg hp, h1, nI_1], ⟨fun g => absurd g hp, fun g => by rw [hk] at g; cases g⟩, ⟨fun _ => hk, fun _ => hp⟩⟩
  · have hk3 : wK w t ≠ some (.inl 3) := by rw [hk]; simp
    rw [szC, if_neg hk3] at e
    subst e
    refine ⟨Or.inl rfl, by rw [suc_nil hk3]; decide, ?_, ⟨fun _ => hk, fun _ => by decide⟩, ⟨fun g => absurd (by decide) g, fun g => absurd g hk3⟩⟩
    rw [if_pos (by decide), szw, (H.2.2.1 t hk).1]; decide
theorem RL_cel (H : CI w x rg nr yg ya ly og oa lo tr fa Y O F G) (R : RL w W x rg nr m re th ol sz am fd ι Y O G) {t : Nat} (ht : t ∈ Y ++ O) : celI W sz (ι t) = nI (szw w t) := (szC_ok H.2.1 (CI_thing H ht) (R.2.2.2.2.2.1 t ht)).2.2.1
theorem RL_sum (H : CI w x rg nr yg ya ly og oa lo tr fa Y O F G) (R : RL w W x rg nr m re th ol sz am fd ι Y O G) {S : List Nat} {f : Nat → Int32} (hn : S.Nodup) (hs : ∀ t ∈ S, t ∈ Y ++ O) (h1 : ∀ t ∈ S, f (ι t) = celI W sz (ι t)) (h0 : ∀ p, p < 200 → (∀ t ∈ S, ι t ≠ p) → f p = 0) : sumTo f 200 = nI (sumN w S) :=
  sum_pick S hn (fun t ht => R.1 t (hs t ht)) (fun t ht u hu => R.2.1 t (hs t ht) u (hs u hu)) (fun t ht => (h1 t ht).trans (RL_cel H R (hs t ht))) h0
theorem RL_there (R : RL w W x rg nr m re th ol sz am fd ι Y O G) {t : Nat} (ht : t ∈ Y ++ O) : wI W th (ι t) ≠ 0 := (R.2.2.1 (ι t) (R.1 t ht)).mpr ⟨t, ht, rfl⟩
theorem RL_tak (H : CI w x rg nr yg ya ly og oa lo tr fa Y O F G) (R : RL w W x rg nr m re th ol sz am fd ι Y O G) : sumTo (takF W th ol sz 0) 200 = nI (sumN w Y) ∧ sumTo (takF W th ol sz 1) 200 = nI (sumN w O) := by
  have hnd := H.2.2.2.2.2.2.1
  rw [List.nodup_append] at hnd
  obtain ⟨r1, r2, r3, r4, r5, r6, -⟩ := id R
  have case : ∀ p, p < 200 → wI W th p ≠ 0 → (∃ t, t ∈ Y ∧ ι t = p) ∨ ∃ t, t ∈ O ∧ ι t = p := fun p hp h => by
    obtain ⟨t, ht, e⟩ := (r3 p hp).mp h
    rcases List.mem_append.mp ht with q | q
    · exact Or.inl ⟨t, q, e⟩
    · exact Or.inr ⟨t, q, e⟩
  constructor
  · refine RL_sum H R hnd.1 (fun t ht => List.mem_append_left _ ht) (fun t ht => ?_) (fun p hp hno => ?_)
    · rw [takF, if_neg (RL_there R (List.mem_append_left _ ht)), if_pos (r4 t ht)]
    · rw [takF]
      by_cases e : wI W th p = 0
      · rw [if_pos e]
      · rw [if_neg e]
        rcases case p hp e with ⟨t, ht, q⟩ | ⟨t, ht, rfl⟩
        · exact absurd q (hno t ht)
        · rw [if_neg (by rw [r5 t ht]; decide)]
  · refine RL_sum H R hnd.2.1 (fun t ht => List.mem_append_right _ ht) (fun t ht => ?_) (fun p hp hno => ?_)
    · rw [takF, if_neg (RL_there R (List.mem_append_right _ ht)), if_pos (r5 t ht)]
    · rw [takF]
      by_cases e : wI W th p = 0
      · rw [if_pos e]
      · rw [if_neg e]
        rcases case p hp e with ⟨t, ht, rfl⟩ | ⟨t, ht, q⟩
        · rw [if_neg (by rw [r4 t ht]; decide)]
        · exact absurd q (hno t ht)
/-! fields, registers, what the model asks for -/
theorem fldL_mem {p : Nat} {v : Int64} : v ∈ fldL W fd sz p ↔ ∃ k, k < szN W sz p ∧ wL W fd (11 * p + k) = v := by
  rw [fldL, List.mem_map]
  exact ⟨fun ⟨k, hk, e⟩ => ⟨k, List.mem_range.mp hk, e⟩, fun ⟨k, hk, e⟩ => ⟨k, List.mem_range.mpr hk, e⟩⟩
theorem regL_mem {v : Int64} : v ∈ regL W re nr ↔ ∃ k, k < nr ∧ wL W re k = v := by
  rw [regL, List.mem_map]
  exact ⟨fun ⟨k, hk, e⟩ => ⟨k, List.mem_range.mp hk, e⟩, fun ⟨k, hk, e⟩ => ⟨k, List.mem_range.mpr hk, e⟩⟩
theorem RL_G (H : CI w x rg nr yg ya ly og oa lo tr fa Y O F G) {t : Nat} (ht : t ∈ G) : t ∈ Y ++ O := H.2.2.2.2.2.2.2.2.2.2.2.1 t ht
theorem RL_szN (H : CI w x rg nr yg ya ly og oa lo tr fa Y O F G) (R : RL w W x rg nr m re th ol sz am fd ι Y O G) {t : Nat} (ht : t ∈ Y ++ O) : szN W sz (ι t) = (sucL w t).length := (szC_ok H.2.1 (CI_thing H ht) (R.2.2.2.2.2.1 t ht)).2.1
theorem fld_to (H : CI w x rg nr yg ya ly og oa lo tr fa Y O F G) (R : RL w W x rg nr m re th ol sz am fd ι Y O G) {t : Nat} (ht : t ∈ G) {v : Int64} (hv : v ∈ fldL W fd sz (ι t)) : ∃ o, o ∈ sucL w t ∧ VR w ι o v := by
  obtain ⟨k, hk, rfl⟩ := fldL_mem.mp hv
  rw [RL_szN H R (RL_G H ht)] at hk
  exact ⟨(sucL w t)[k], List.getElem_mem hk, R.2.2.2.2.2.2.1 t ht k _ (List.getElem?_eq_getElem hk)⟩
theorem fld_of (H : CI w x rg nr yg ya ly og oa lo tr fa Y O F G) (R : RL w W x rg nr m re th ol sz am fd ι Y O G) {t : Nat} (ht : t ∈ G) {o : Option Nat} (ho : o ∈ sucL w t) : ∃ v, v ∈ fldL W fd sz (ι t) ∧ VR w ι o v := by
  obtain ⟨k, hk, e⟩ := List.mem_iff_getElem.mp ho
  refine ⟨_, fldL_mem.mpr ⟨k, by rw [RL_szN H R (RL_G H ht)]; exact hk, rfl⟩, R.2.2.2.2.2.2.1 t ht k o (by rw [List.getElem?_eq_getElem hk, e])⟩
theorem RL_MP (H : CI w x rg nr yg ya ly og oa lo tr fa Y O F G) (R : RL w W x rg nr m re th ol sz am fd ι Y O G) (M : MS W m re th ol sz am fd rc nr ly lo) : MP W m re th ol sz am fd rc nr ly lo (fun p => ∃ t, t ∈ G ∧ ι t = p) := by
  obtain ⟨r1, r2, r3, r4, r5, r6, r7, r8, r9, r10, -⟩ := id R
  have hG := H.2.2.2.2.2.2.2.2.2.2
  refine ⟨M, r9, fun p hp hB => ?_, fun v hv => ?_, fun p hp h1 h2 => ?_⟩
  · obtain ⟨t, ht, rfl⟩ := hB
    refine ⟨(szC_ok H.2.1 (CI_thing H (RL_G H ht)) (r6 t (RL_G H ht))).1, fun v hv => ?_⟩
    obtain ⟨o, ho, hvr⟩ := fld_to H R ht hv
    rcases VR_cases hvr with q | ⟨u, e, hu, q⟩
    · exact Or.inl q
    · have hu' := hG.2.2.2.2.1 t ht o ho u e hu
      exact Or.inr ⟨ι u, r1 u (RL_G H hu'), q, u, hu', rfl⟩
  · obtain ⟨k, hk, rfl⟩ := regL_mem.mp hv
    rcases VR_cases (r10 k hk) with q | ⟨u, e, hu, q⟩
    · exact Or.inl q
    · have hu' := hG.2.2.2.1 k hk u e hu
      exact Or.inr ⟨ι u, r1 u (RL_G H hu'), q, u, hu', rfl⟩
  · obtain ⟨t, ht, rfl⟩ := (r3 p hp).mp h1
    rcases List.mem_append.mp ht with q | q
    · exact absurd (r4 t q) h2
    · exact ⟨t, hG.2.2.1 t q, rfl⟩
/-! the two searches find the same -/
theorem Rc_G (H : CI w x rg nr yg ya ly og oa lo tr fa Y O F G) {S0 : Nat → Prop} (h0 : ∀ t, S0 t → t ∈ G) {t : Nat} (h : Rc w S0 t) : t ∈ G :=
  h (fun u => u ∈ G) h0 (fun u hu v hv ht => H.2.2.2.2.2.2.2.2.2.2.2.2.2.2.1 u hu (some v) hv v rfl ht)
theorem RL_least (H : CI w x rg nr yg ya ly og oa lo tr fa Y O F G) (R : RL w W x rg nr m re th ol sz am fd ι Y O G) {S0 : Nat → Prop} {ρ0 ρ : Nat → Bool} (hS : ∀ t, S0 t → t ∈ G) (h0 : ∀ k, k < 200 → (ρ0 k = true ↔ ∃ t, S0 t ∧ ι t = k)) (hL : Least W fd sz ρ0 ρ) : (∀ t, t ∈ Y ++ O → (ρ (ι t) = true ↔ Rc w S0 t)) ∧ ∀ k, k < 200 → ρ k = true → ∃ t, Rc w S0 t ∧ ι t = k := by
  obtain ⟨l1, l2, l3⟩ := hL
  have hG := H.2.2.2.2.2.2.2.2.2.2
  have hi : ∀ t, t ∈ G → ι t < 200 := fun t ht => R.1 t (RL_G H ht)
  have back : ∀ k, k < 200 → ρ k = true → ∃ t, Rc w S0 t ∧ ι t = k := by
    refine l3 (fun k => ∃ t, Rc w S0 t ∧ ι t = k) (fun p hp hC q hq hm => ?_) (fun k hk h => ?_)
    · obtain ⟨t, ht, rfl⟩ := hC
      have htG := Rc_G H hS ht
      obtain ⟨o, ho, hv⟩ := fld_to H R htG hm
      obtain ⟨u, rfl, hu, e⟩ := VR_RF hq hv (fun u e hu => hi u (hG.2.2.2.2.1 t htG o ho u e hu))
      exact ⟨u, fun S a b => b t (ht S a b) u ho hu, e⟩
    · obtain ⟨t, ht, e⟩ := (h0 k hk).mp h
      exact ⟨t, fun S a _ => a t ht, e⟩
  refine ⟨fun t ht => ⟨fun h => ?_, fun h => ?_⟩, back⟩
  · obtain ⟨u, hu, e⟩ := back (ι t) (R.1 t ht) h
    have := R.2.1 u (RL_G H (Rc_G H hS hu)) t ht e
    exact this ▸ hu
  · refine (h (fun u => u ∈ G ∧ ρ (ι u) = true) (fun u hu => ⟨hS u hu, ?_⟩) (fun u hu v hv hvt => ?_)).2
    · have hl := hi u (hS u hu)
      exact l1 _ hl ((h0 _ hl).mpr ⟨u, hu, rfl⟩)
    · have hvG := hG.2.2.2.2.1 u hu.1 (some v) hv v rfl hvt
      obtain ⟨z, hz, hzr⟩ := fld_of H R hu.1 hv
      rw [VR_thing hzr hvt] at hz
      exact ⟨hvG, l2 (ι u) (hi u hu.1) hu.2 (ι v) (hi v hvG) hz⟩
theorem reg_seed (H : CI w x rg nr yg ya ly og oa lo tr fa Y O F G) (R : RL w W x rg nr m re th ol sz am fd ι Y O G) : ∀ k, k < 200 → (mks (fun _ => false) (regL W re nr) k = true ↔ ∃ t, (∃ r, r < nr ∧ wP w rg r = some t ∧ isTb w t = true) ∧ ι t = k) := fun k hk => by
  have hG := H.2.2.2.2.2.2.2.2.2.2
  rw [mks_iff, regL_mem]
  constructor
  · rintro (h | ⟨r, hr, e⟩)
    · cases h
    · have hv := R.2.2.2.2.2.2.2.2.2.1 r hr
      rw [e] at hv
      obtain ⟨t, h1, h2, h3⟩ := VR_RF hk hv (fun u e hu => R.1 u (RL_G H (hG.2.2.2.1 r hr u e hu)))
      exact ⟨t, ⟨r, hr, h1, h2⟩, h3⟩
  · rintro ⟨t, ⟨r, hr, h1, h2⟩, rfl⟩
    have hv := R.2.2.2.2.2.2.2.2.2.1 r hr
    rw [h1] at hv
    exact Or.inr ⟨r, hr, VR_thing hv h2⟩
theorem reg_G (H : CI w x rg nr yg ya ly og oa lo tr fa Y O F G) : ∀ t, (∃ r, r < nr ∧ wP w rg r = some t ∧ isTb w t = true) → t ∈ G := fun t ⟨r, hr, h1, h2⟩ => H.2.2.2.2.2.2.2.2.2.2.2.2.2.1 r hr t h1 h2
end RL
