/-! what keeps the relation: the other side's work; the collections on both sides -/
def FrM (A : List Nat) (w W : Wd) : Prop := (∀ b, wK W b = wK w b) ∧ (∀ b k, wP W b k = wP w b k) ∧ ∀ b k, b ∉ A → wI W b k = wI w b k
def mdA (w : Wd) (A : List Nat) : Prop := ∀ a, a ∈ A → ∃ d, wK w a = some d ∧ mdl d = true
theorem FrM_refl (A : List Nat) (w : Wd) : FrM A w w := ⟨fun _ => rfl, fun _ _ => rfl, fun _ _ _ => rfl⟩
theorem FrM_trans {A : List Nat} {w w' w'' : Wd} (h1 : FrM A w w') (h2 : FrM A w' w'') : FrM A w w'' := ⟨fun b => (h2.1 b).trans (h1.1 b), fun b k => (h2.2.1 b k).trans (h1.2.1 b k), fun b k hb => (h2.2.2 b k hb).trans (h1.2.2 b k hb)⟩
theorem FrM_uI {A : List Nat} {w : Wd} {a k : Nat} {v : Int32} (ha : a ∈ A) : FrM A w (uI w a k v) := ⟨fun _ => rfl, fun _ _ => rfl, fun b j hb => by rw [wI_uI, if_neg (fun q : b = a ∧ j = k => hb (q.1.symm ▸ ha))]⟩
theorem FrM_aI {A : List Nat} {w : Wd} {a n : Nat} {f : Nat → Int32} (ha : a ∈ A) : FrM A w (aI w a n f) := ⟨fun _ => rfl, fun _ _ => rfl, fun b j hb => aI_out (Or.inl (fun q => hb (q.symm ▸ ha)))⟩
theorem FrM_uL {A : List Nat} {w : Wd} {a k : Nat} {v : Int64} : FrM A w (uL w a k v) := ⟨fun _ => rfl, fun _ _ => rfl, fun _ _ _ => rfl⟩
theorem FrM_aL {A : List Nat} {w : Wd} {a s n : Nat} {v : Int64} : FrM A w (aL w a s n v) := ⟨fun _ => rfl, fun _ _ => rfl, fun _ _ _ => rfl⟩
theorem FrM_k {A : List Nat} {w W : Wd} (hA : mdA w A) (hF : FrM A w W) {b : Nat} {d : Kd} (hb : wK w b = some d) (hd : mdl d = false) (k : Nat) : wI W b k = wI w b k := hF.2.2 b k (fun q => by
  obtain ⟨d', h1, h2⟩ := hA b q
  rw [hb] at h1; cases h1
  rw [hd] at h2; cases h2)
theorem mdA_frM {A B : List Nat} {w W : Wd} (hA : mdA w A) (hF : FrM B w W) : mdA W A := fun a ha => by
  obtain ⟨d, h1, h2⟩ := hA a ha
  exact ⟨d, (hF.1 a).trans h1, h2⟩
section RC
variable {w w' W W' : Wd} {x rg nr yg ya ly og oa lo tr fa m re th ol sz am fd rc : Nat} {Y O F G R0 A : List Nat} {ι : Nat → Nat} {ρ : Nat → Bool}
theorem tb_k {t : Nat} (h : isTb w t = true) : ∃ ci, wK w t = some (.inl ci) ∧ mdl (.inl ci) = false := by
  obtain ⟨ci, rfl | rfl, hk⟩ := isTb_to h
  · exact ⟨_, hk, rfl⟩
  · exact ⟨_, hk, rfl⟩
theorem CI_frM (hA : mdA w A) (hF : FrM A w W) (H : CI w x rg nr yg ya ly og oa lo tr fa Y O F G) : CI W x rg nr yg ya ly og oa lo tr fa Y O F G := by
  have hI := H
  obtain ⟨hS, hT, hY, hO, hty, hto, hnd, hsum, hFl, hol, hG⟩ := H
  obtain ⟨hRg, hnr, h1, h2, h3, hyO, hoO, -, -, hly, hlo, htr, htf, hfk, hgg, hya, hyf, hof⟩ := id hS
  have f3 : ∀ b d, wK w b = some d → mdl d = false → ∀ k, wI W b k = wI w b k := fun b d hb hd k => FrM_k hA hF hb hd k
  obtain ⟨f1, f2, -⟩ := hF
  have ft : ∀ t, isTb w t = true → ∀ k, wI W t k = wI w t k := fun t ht k => by
    obtain ⟨ci, hk, hm⟩ := tb_k ht
    exact f3 t _ hk hm k
  have hTT : ∀ u, isTb W u = isTb w u := fun u => isTb_congr f1 u
  have hsuc : ∀ u, sucL W u = sucL w u := fun u => sucL_congr f1 (fun t _ => f2 t 3) (fun c n _ i => f2 c i) hT u
  have fy := f3 yg _ hyO.1 rfl
  have fo := f3 og _ hoO.1 rfl
  have sI : ∀ zs : List Nat, (∀ t ∈ zs, isTb w t = true) → sumI W zs = sumI w zs := fun zs h => sumI_congr (fun t ht => ft t (h t ht) 0)
  have sN : ∀ zs : List Nat, (∀ t ∈ zs, isTb w t = true) → zs.map (szw W) = zs.map (szw w) := fun zs h => List.map_congr_left (fun t ht => szw_congr (ft t (h t ht) 0))
  have hYT : ∀ t ∈ Y, isTb w t = true := fun t ht => GeL_mem hY ht
  have hOT : ∀ t ∈ O, isTb w t = true := fun t ht => GeL_mem hO ht
  refine ⟨CS_congr f1 (fun k _ => f2 x k) (f2 yg 1) (f2 og 1) (f2 tr 0) (fy 0) (fo 0) hS, HT_congr f1 (fun t ht => ft t ht 0) (fun t _ => f2 t 3) (fun c n _ i => f2 c i) hRg.2.2.1 (fun t _ => Or.inl (f2 t 3)) hT, GeL_congr f1 (f2 yg 1) (fy 2) (fun i => f2 ya i) hY, GeL_congr f1 (f2 og 1) (fo 2) (fun i => f2 oa i) hO, by rw [fy, sI Y hYT]; exact hty, by rw [fo, sI O hOT]; exact hto, hnd, by rw [sN Y hYT, sN O hOT]; exact hsum, ⟨(f3 tr _ htr rfl 1).trans hFl.1, hFl.2.1, fun i t h => (f2 fa i).trans (hFl.2.2.1 i t h), fun t ht => (hTT t).trans (hFl.2.2.2.1 t ht), fun t ht => ?_⟩, ⟨fun t ht => (ft t (hYT t ht) 1).trans (hol.1 t ht), fun t ht => (ft t (hOT t ht) 1).trans (hol.2 t ht)⟩, hG.1, hG.2.1, hG.2.2.1, fun r hr => ?_, fun t ht o ho => ?_, fun t ht u hk hu => ?_⟩
  · rw [hTT] at ht
    rw [ft t ht]; exact hFl.2.2.2.2 t ht
  · rw [f2]; exact oB_congr f1 (hG.2.2.2.1 r hr)
  · rw [hsuc] at ho; exact oB_congr f1 (hG.2.2.2.2.1 t ht o ho)
  · rw [f1] at hk; rw [f2] at hu; exact hG.2.2.2.2.2 t ht u hk hu
/-- the class's side may change where the relation does not look -/
theorem RL_cl (H : CI w x rg nr yg ya ly og oa lo tr fa Y O F G) (R : RL w W x rg nr m re th ol sz am fd ι Y O G) (hK : ∀ b d, wK w b = some d → wK w' b = some d) (hN : ∀ b, wK w b = some (.inl 5) → wI w' b 0 = wI w b 0) (hs : ∀ t, isTb w t = true → sucL w' t = sucL w t) (ht : ∀ t, wK w t = some (.inl 4) → wP w' t 3 = wP w t 3) (hr : ∀ r, r < nr → wP w' rg r = wP w rg r) (h4 : wI w' x 4 = wI w x 4) (h5 : wI w' x 5 = wI w x 5) : RL w' W x rg nr m re th ol sz am fd ι Y O G := by
  obtain ⟨r1, r2, r3, r4, r5, r6, r7, r8, r9, r10, r11, r12⟩ := R
  have kk : ∀ t, isTb w t = true → wK w' t = wK w t := fun t h => by
    obtain ⟨ci, -, hk⟩ := isTb_to h
    rw [hk]; exact hK t _ hk
  have hsz : ∀ t, isTb w t = true → szC w' t = szC w t := fun t h => by rw [szC, szC, kk t h, hs t h]
  refine ⟨r1, r2, r3, r4, r5, fun t h => by rw [hsz t (CI_thing H h)]; exact r6 t h, fun t h k o e => ?_, fun t h e => ?_, r9, fun r h => ?_, by rw [h4]; exact r11, by rw [h5]; exact r12⟩
  · rw [hs t (CI_G H h)] at e
    exact VR_congr hK hN (fun _ _ _ => rfl) (r7 t h k o e)
  · rw [kk t (CI_G H h)] at e
    rw [ht t e]; exact r8 t h e
  · rw [hr r h]; exact VR_congr hK hN (fun _ _ _ => rfl) (r10 r h)
/-- the model's side likewise -/
theorem RL_mo (R : RL w W x rg nr m re th ol sz am fd ι Y O G) (H : CI w x rg nr yg ya ly og oa lo tr fa Y O F G) (hth : ∀ p, p < 200 → wI W' th p = wI W th p) (hol : ∀ p, p < 200 → wI W' ol p = wI W ol p) (hsz : ∀ p, p < 200 → wI W' sz p = wI W sz p) (ham : ∀ p, p < 200 → wI W' am p = wI W am p) (hfd : ∀ k, wL W' fd k = wL W fd k) (hre : ∀ k, wL W' re k = wL W re k) (h1 : wI W' m 11 = wI W m 11) (h2 : wI W' m 12 = wI W m 12) : RL w W' x rg nr m re th ol sz am fd ι Y O G := by
  obtain ⟨r1, r2, r3, r4, r5, r6, r7, r8, r9, r10, r11, r12⟩ := R
  refine ⟨r1, r2, fun p hp => by rw [hth p hp]; exact r3 p hp, fun t h => by rw [hol _ (r1 t (List.mem_append_left _ h))]; exact r4 t h, fun t h => by rw [hol _ (r1 t (List.mem_append_right _ h))]; exact r5 t h, fun t h => by rw [hsz _ (r1 t h)]; exact r6 t h, fun t h k o e => by rw [hfd]; exact r7 t h k o e, fun t h e => by rw [ham _ (r1 t (RL_G H h))]; exact r8 t h e, fun p hp => by rw [ham p hp]; exact r9 p hp, fun r h => by rw [hre]; exact r10 r h, h1.trans r11, h2.trans r12⟩
theorem RL_frM (hA : mdA w A) (hF : FrM A w w') (H : CI w x rg nr yg ya ly og oa lo tr fa Y O F G) (R : RL w W x rg nr m re th ol sz am fd ι Y O G) : RL w' W x rg nr m re th ol sz am fd ι Y O G := by
  have f3 : ∀ b d, wK w b = some d → mdl d = false → ∀ k, wI w' b k = wI w b k := fun b d hb hd k => FrM_k hA hF hb hd k
  obtain ⟨f1, f2, -⟩ := hF
  refine RL_cl H R (fun b d h => (f1 b).trans h) (fun b h => f3 b _ h rfl 0) (fun t _ => sucL_congr f1 (fun t _ => f2 t 3) (fun c n _ i => f2 c i) H.2.1 t) (fun t _ => f2 t 3) (fun r _ => f2 rg r) (f3 x _ H.1.1.1 rfl 4) (f3 x _ H.1.1.1 rfl 5)
theorem MS_frC (hF : FrC W W') (M : MS W m re th ol sz am fd rc nr ly lo) : MS W' m re th ol sz am fd rc nr ly lo := by
  obtain ⟨hm, ⟨i1, i2, i3⟩, ⟨p4, k4⟩, ⟨p5, k5⟩, ⟨p6, k6⟩, ⟨p7, k7⟩, ⟨p8, k8⟩, ⟨p9, k9⟩, ⟨p10, k10⟩, hr⟩ := M
  have a := hF m _ hm rfl
  exact ⟨a.1, ⟨(a.2 1).1.trans i1, (a.2 2).1.trans i2, (a.2 3).1.trans i3⟩, ⟨(a.2 4).2.1.trans p4, (hF re _ k4 rfl).1⟩, ⟨(a.2 5).2.1.trans p5, (hF th _ k5 rfl).1⟩, ⟨(a.2 6).2.1.trans p6, (hF ol _ k6 rfl).1⟩, ⟨(a.2 7).2.1.trans p7, (hF sz _ k7 rfl).1⟩, ⟨(a.2 8).2.1.trans p8, (hF am _ k8 rfl).1⟩, ⟨(a.2 9).2.1.trans p9, (hF fd _ k9 rfl).1⟩, ⟨(a.2 10).2.1.trans p10, (hF rc _ k10 rfl).1⟩, hr⟩
theorem MS_mdA (M : MS W m re th ol sz am fd rc nr ly lo) : mdA W [m, th, ol, sz, am, rc] := fun a ha => by
  obtain ⟨hm, -, -, ⟨-, k5⟩, ⟨-, k6⟩, ⟨-, k7⟩, ⟨-, k8⟩, -, ⟨-, k10⟩, -⟩ := M
  rcases List.mem_cons.mp ha with rfl | ha
  · exact ⟨_, hm, rfl⟩
  rcases List.mem_cons.mp ha with rfl | ha
  · exact ⟨_, k5, rfl⟩
  rcases List.mem_cons.mp ha with rfl | ha
  · exact ⟨_, k6, rfl⟩
  rcases List.mem_cons.mp ha with rfl | ha
  · exact ⟨_, k7, rfl⟩
  rcases List.mem_cons.mp ha with rfl | ha
  · exact ⟨_, k8, rfl⟩
  rcases List.mem_cons.mp ha with rfl | ha
  · exact ⟨_, k10, rfl⟩
  · cases ha
theorem RL_frC (hF : FrC W W') (M : MS W m re th ol sz am fd rc nr ly lo) (H : CI w x rg nr yg ya ly og oa lo tr fa Y O F G) (R : RL w W x rg nr m re th ol sz am fd ι Y O G) : RL w W' x rg nr m re th ol sz am fd ι Y O G := by
  obtain ⟨hm, -, ⟨p4, k4⟩, ⟨p5, k5⟩, ⟨p6, k6⟩, ⟨p7, k7⟩, ⟨p8, k8⟩, ⟨p9, k9⟩, ⟨p10, k10⟩, hr⟩ := M
  exact RL_mo R H (fun p _ => ((hF th _ k5 rfl).2 p).1) (fun p _ => ((hF ol _ k6 rfl).2 p).1) (fun p _ => ((hF sz _ k7 rfl).2 p).1) (fun p _ => ((hF am _ k8 rfl).2 p).1) (fun k => ((hF fd _ k9 rfl).2 k).2.2) (fun k => ((hF re _ k4 rfl).2 k).2.2) ((hF m _ hm rfl).2 11).1 ((hF m _ hm rfl).2 12).1
theorem RL_u0 {v : Int32} (M : MS W m re th ol sz am fd rc nr ly lo) (H : CI w x rg nr yg ya ly og oa lo tr fa Y O F G) (R : RL w W x rg nr m re th ol sz am fd ι Y O G) : RL w (uI W m 0 v) x rg nr m re th ol sz am fd ι Y O G := by
  obtain ⟨-, ⟨f1, f2, f3, f4, f5, f6, f7⟩, -⟩ := MS_ne M
  have no : ∀ {a k : Nat}, m ≠ a → wI (uI W m 0 v) a k = wI W a k := fun h => by rw [wI_uI, if_neg (fun q => h q.1.symm)]
  exact RL_mo R H (fun p _ => no f1) (fun p _ => no f2) (fun p _ => no f3) (fun p _ => no f4) (fun _ => rfl) (fun _ => rfl) (by rw [wI_uI, if_neg (by simp)]) (by rw [wI_uI, if_neg (by simp)])
theorem RL_rc (M : MS W m re th ol sz am fd rc nr ly lo) (H : CI w x rg nr yg ya ly og oa lo tr fa Y O F G) (R : RL w W x rg nr m re th ol sz am fd ι Y O G) : RL w (rcW W rc ρ) x rg nr m re th ol sz am fd ι Y O G := by
  obtain ⟨⟨e1, e2, e3, e4, e5, e6⟩, ⟨f1, f2, f3, f4, f5, f6, f7⟩, -⟩ := MS_ne M
  obtain ⟨n1, n2, n3, n4⟩ := M.2.2.2.2.2.2.2.2.2.1
  exact RL_mo R H (fun p _ => rcW_no n2) (fun p _ => rcW_no n3) (fun p _ => rcW_no (Ne.symm e5)) (fun p _ => rcW_no (Ne.symm e6)) (fun _ => rfl) (fun _ => rfl) (rcW_no f5) (rcW_no f5)
/-! the great collection -/
theorem cutA_AR {f : Nat → Int32} {o : Option Nat} {a : Int32} (h : AR ι o a) (hu : ∀ u, o = some u → ι u < 200 ∧ (f (ι u) = 0 ↔ u ∉ R0)) : AR ι (fil R0 o) (cutA f a) := by
  cases o with
  | none =>
    have e : a = -1 := h
    subst e
    show cutA f (-1) = -1
    rw [cutA, if_neg (fun q : 0 ≤ (-1 : Int32) ∧ _ => absurd q.1 (by decide))]
  | some u =>
    have e : a = nI (ι u) := h
    subst e
    obtain ⟨h1, h2⟩ := hu u rfl
    have hc : (nI (ι u)).toNatClampNeg = ι u := nI_clamp (by omega)
    by_cases g : u ∈ R0
    · rw [show fil R0 (some u) = some u from if_pos g, cutA, hc, if_neg (fun q => h2.mp q.2 g)]
      exact rfl
    · rw [show fil R0 (some u) = none from if_neg g, cutA, hc, if_pos ⟨nI_pos' (by omega), h2.mpr g⟩]
      exact rfl
theorem inL_iff {t : Nat} : inL R0 t = true ↔ t ∈ R0 := decide_eq_true_iff
theorem sumN_split (w : Wd) (p : Nat → Bool) : ∀ xs : List Nat, sumN w xs = sumN w (xs.filter p) + sumN w (xs.filter (fun t => !p t))
  | [] => rfl
  | t :: xs => by
    have h := sumN_split w p xs
    have e : ∀ zs, sumN w (t :: zs) = szw w t + sumN w zs := fun zs => by simp [sumN]
    cases g : p t with
    | true => rw [List.filter_cons_of_pos g, List.filter_cons_of_neg (by simp [g]), e, e, h, Nat.add_assoc]
    | false => rw [List.filter_cons_of_neg (by simp [g]), List.filter_cons_of_pos (by simp [g]), e, e, h]; omega
theorem gone_iff {p : Nat} : gone W th ol ρ p = true ↔ wI W th p ≠ 0 ∧ wI W ol p ≠ 0 ∧ ρ p = false := by
  simp [gone, and_assoc]
theorem RL_great (H : CI w x rg nr yg ya ly og oa lo tr fa Y O F G) (R : RL w W x rg nr m re th ol sz am fd ι Y O G) (M : MS W m re th ol sz am fd rc nr ly lo) (hRc : ∀ t, t ∈ R0 ↔ Rc w (fun u => ∃ r, r < nr ∧ wP w rg r = some u ∧ isTb w u = true) t) (hC : CF w w' Y O R0) (h4 : wI w' x 4 = wI w x 4) (h5 : wI w' x 5 = wI w x 5 + 1) (hL : Least W fd sz (mks (fun _ => false) (regL W re nr)) ρ) :
    RL w' (clW W m th ol am rc ρ) x rg nr m re th ol sz am fd ι Y (O.filter (inL R0)) R0 ∧ sumTo (freF W th ol sz ρ) 200 = sumI w O - sumI w (O.filter (inL R0)) := by
  obtain ⟨r1, r2, r3, r4, r5, r6, r7, r8, r9, r10, r11, r12⟩ := id R
  have hρ : ∀ t, t ∈ Y ++ O → (ρ (ι t) = true ↔ t ∈ R0) := fun t ht => ((RL_least H R (reg_G H) (reg_seed H R) hL).1 t ht).trans (hRc t).symm
  have hRG : ∀ t, t ∈ R0 → t ∈ G := fun t ht => Rc_G H (reg_G H) ((hRc t).mp ht)
  have hG := H.2.2.2.2.2.2.2.2.2.2
  have sub : ∀ t, t ∈ Y ++ O.filter (inL R0) → t ∈ Y ++ O := fun t ht => by
    rcases List.mem_append.mp ht with h | h
    · exact List.mem_append_left _ h
    · exact List.mem_append_right _ (List.mem_filter.mp h).1
  obtain ⟨-, m1, m2, -, -, m3, m4, m5, m6, m7⟩ := clW_facts (ρ := ρ) M r9
  obtain ⟨c1, c2, c3, c4, c5, c6, c7, c8⟩ := id hC
  have hsuc : ∀ t, sucL w' t = sucL w t := fun t => CF_suc hC H.2.1 t
  have vr : ∀ {o v}, VR w ι o v → VR w' ι o v := fun h => VR_congr (fun b d e => (c1 b).trans e) (fun b _ => c2 b) (fun _ _ _ => rfl) h
  refine ⟨⟨fun t ht => r1 t (sub t ht), fun t ht u hu => r2 t (sub t ht) u (sub u hu), fun p hp => ?_, fun t ht => by rw [m4]; exact r4 t ht, fun t ht => by rw [m4]; exact r5 t (List.mem_filter.mp ht).1, fun t ht => ?_, fun t ht k o e => ?_, fun t ht e => ?_, m1, fun r hr => ?_, ?_, ?_⟩, ?_⟩
  · rw [m3 p hp, clT]
    constructor
    · intro h
      by_cases g : gone W th ol ρ p = true
      · rw [if_pos g] at h; exact absurd rfl h
      · rw [if_neg g] at h
        obtain ⟨t, ht, rfl⟩ := (r3 p hp).mp h
        refine ⟨t, ?_, rfl⟩
        rcases List.mem_append.mp ht with q | q
        · exact List.mem_append_left _ q
        · refine List.mem_append_right _ (List.mem_filter.mpr ⟨q, inL_iff.mpr ((hρ t ht).mp ?_)⟩)
          cases e : ρ (ι t) with
          | true => rfl
          | false => exact absurd (gone_iff.mpr ⟨h, by rw [r5 t q]; decide, e⟩) g
    · rintro ⟨t, ht, rfl⟩
      have hth := RL_there R (sub t ht)
      rw [if_neg (fun g => ?_)]
      · exact hth
      · obtain ⟨-, g2, g3⟩ := gone_iff.mp g
        rcases List.mem_append.mp ht with q | q
        · exact g2 (r4 t q)
        · rw [(hρ t (sub t ht)).mpr (inL_iff.mp (List.mem_filter.mp q).2)] at g3; cases g3
  · rw [m2, szC, c1, hsuc]; exact r6 t (sub t ht)
  · rw [hsuc] at e; exact vr (r7 t (hRG t ht) k o e)
  · rw [c1] at e
    have ht' := RL_G H (hRG t ht)
    rw [c5 t e ht', m5 _ (r1 t ht')]
    refine cutA_AR (r8 t (hRG t ht) e) (fun u hu => ?_)
    have huG := RL_G H (hG.2.2.2.2.2 t (hRG t ht) u e hu)
    refine ⟨r1 u huG, bI_0.trans ⟨fun q h => ?_, fun q => ?_⟩⟩
    · rw [(hρ u huG).mpr h] at q; cases q
    · cases g : ρ (ι u) with
      | false => rfl
      | true => exact absurd ((hρ u huG).mp g) q
  · rw [c4 rg nr H.1.1.2.2.1]; exact vr (r10 r hr)
  · rw [m6, h4]; exact r11
  · rw [m7, h5, r12]
  · have hnd := H.2.2.2.2.2.2.1
    rw [List.nodup_append] at hnd
    have hs := RL_sum H R (S := O.filter (fun t => !inL R0 t)) (f := freF W th ol sz ρ) (hnd.2.1.sublist List.filter_sublist) (fun t ht => List.mem_append_right _ (List.mem_filter.mp ht).1) (fun t ht => ?_) (fun p hp hno => ?_)
    · rw [hs, sumI_N, sumI_N, sumN_split w (inL R0) O, free_eq (Nat.le_add_right _ _), Nat.add_sub_cancel_left]
    · obtain ⟨q1, q2⟩ := List.mem_filter.mp ht
      have hm := List.mem_append_right Y q1
      rw [freF, if_pos (gone_iff.mpr ⟨RL_there R hm, by rw [r5 t q1]; decide, ?_⟩)]
      cases g : ρ (ι t) with
      | false => rfl
      | true => rw [inL_iff.mpr ((hρ t hm).mp g)] at q2; cases q2
    · rw [freF]
      by_cases g : gone W th ol ρ p = true
      · obtain ⟨g1, g2, g3⟩ := gone_iff.mp g
        obtain ⟨t, ht, rfl⟩ := (r3 p hp).mp g1
        rcases List.mem_append.mp ht with q | q
        · exact absurd (r4 t q) g2
        · refine absurd rfl (hno t (List.mem_filter.mpr ⟨q, ?_⟩))
          cases e : inL R0 t with
          | false => rfl
          | true => rw [(hρ t ht).mpr (inL_iff.mp e)] at g3; cases g3
      · rw [if_neg g]
end RC
