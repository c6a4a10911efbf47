/-! the calls that read answer alike -/
section OR
variable {w w' W W' W1 : Wd} {x rg nr yg ya ly og oa lo tr fa m re th ol sz am fd rc o : Nat} {Y O F G R0 A : List Nat} {ι : Nat → Nat} {ρ : Nat → Bool} {r r2 : Int32}
theorem m1_neg : (-1 : Int32) < 0 := by decide
theorem whole_ne {n : Int32} : n.toInt64 ≠ 1099511627776 := fun e => absurd (e ▸ (whole_lt (n := n)).1) Int64.lt_irrefl
theorem whole_RF {n : Int32} {q : Nat} (hq : q < 200) : n.toInt64 ≠ RF q := fun e => RF_nlt hq (e ▸ (whole_lt (n := n)).2)
theorem null_RF {q : Nat} (hq : q < 200) : (1099511627776 : Int64) ≠ RF q := fun e => RF_nlt hq (e ▸ (by decide))
theorem kindI_5 {t : Nat} (h : wK w t = some (.inl 5)) : kindI w (some t) = 1 := by simp [kindI, h]
theorem kindI_3 {t : Nat} (h : wK w t = some (.inl 3)) : kindI w (some t) = 2 := by simp [kindI, h]
theorem kindI_4 {t : Nat} (h : wK w t = some (.inl 4)) : kindI w (some t) = 3 := by simp [kindI, h]
theorem valI_5 {t : Nat} (h : wK w t = some (.inl 5)) : valI w (some t) = wI w t 0 := by simp [valI, h]
theorem valI_T {t : Nat} (h : isTb w t = true) : valI w (some t) = 0 := by
  obtain ⟨ci, rfl | rfl, hk⟩ := isTb_to h
  · simp [valI, hk]
  · simp [valI, hk]
theorem op_kind (H : CI w x rg nr yg ya ly og oa lo tr fa Y O F G) (R : RL w W x rg nr m re th ol sz am fd ι Y O G) : (if regB nr r then kindI w (held w rg nr r) else -1) = (if regB nr r then (if plc W re nr r < 0 then (if wL W re r.toNatClampNeg = 1099511627776 then 0 else 1) else if wI W sz (plc W re nr r).toNatClampNeg < 0 then 3 else 2) else -1) := by
  by_cases hr : regB nr r
  · rw [if_pos hr, if_pos hr]
    rcases plc_two H R r with ⟨hp, ho⟩ | ⟨t, hG, hY, hl, ht, -, hh, hp, -, -⟩
    · rw [hp, if_pos m1_neg]
      obtain ⟨hv, -, -⟩ := reg_two H R hr
      cases e : held w rg nr r with
      | none =>
        rw [e] at hv
        rw [if_pos (show wL W re r.toNatClampNeg = 1099511627776 from hv)]; rfl
      | some t =>
        rw [e] at hv ho
        rcases hv with ⟨h1, -⟩ | ⟨h1, h2, -⟩
        · rw [only, if_pos h1] at ho; cases ho
        · rw [if_neg (by rw [h2]; exact whole_ne), kindI_5 h1]
    · rw [hp, if_neg (nI_pos (by omega)), nI_clamp (by omega), hh]
      obtain ⟨-, -, -, z1, z2⟩ := szC_ok H.2.1 ht (R.2.2.2.2.2.1 t hY)
      obtain ⟨ci, rfl | rfl, hk⟩ := isTb_to ht
      · rw [if_neg (z2.mpr hk), kindI_3 hk]
      · rw [if_pos (z1.mpr hk), kindI_4 hk]
  · rw [if_neg hr, if_neg hr]
theorem op_value (H : CI w x rg nr yg ya ly og oa lo tr fa Y O F G) (R : RL w W x rg nr m re th ol sz am fd ι Y O G) : valI w (held w rg nr r) = (if regB nr r ∧ wL W re r.toNatClampNeg < 1099511627776 then (wL W re r.toNatClampNeg).toInt32 else 0) := by
  by_cases hr : regB nr r
  · obtain ⟨hv, ho, hb⟩ := reg_two H R hr
    cases e : held w rg nr r with
    | none =>
      rw [e] at hv
      have hv' : wL W re r.toNatClampNeg = 1099511627776 := hv
      rw [hv', if_neg (fun q => absurd q.2 (by decide))]; rfl
    | some t =>
      rw [e] at hv
      rcases hv with ⟨h1, h2⟩ | ⟨h1, h2, -⟩
      · have hl := R.1 t (RL_G H (hb t e h1))
        rw [if_neg (fun q => RF_nlt hl (Int64.lt_trans (h2 ▸ q.2) (by decide))), valI_T h1]
      · rw [if_pos ⟨hr, by rw [h2]; exact whole_lt.1⟩, h2, valI_5 h1]
        exact (Int32.toInt32_toInt64 _).symm
  · rw [if_neg (fun q => hr q.1), held_no hr]; rfl
theorem op_fields (H : CI w x rg nr yg ya ly og oa lo tr fa Y O F G) (R : RL w W x rg nr m re th ol sz am fd ι Y O G) : (match only w (isP w) (held w rg nr r) with | none => -1 | some t => nI (sucL w t).length) = (if plc W re nr r < 0 then -1 else if wI W sz (plc W re nr r).toNatClampNeg < 0 then -1 else wI W sz (plc W re nr r).toNatClampNeg) := by
  rcases plc_two H R r with ⟨hp, ho⟩ | ⟨t, hG, hY, hl, ht, -, hh, hp, -, -⟩
  · rw [hp, if_pos m1_neg]
    have : only w (isP w) (held w rg nr r) = none := by
      cases e : held w rg nr r with
      | none => rfl
      | some t =>
        rw [e] at ho
        rw [only, if_neg (fun q => ?_)]
        rw [only, if_pos (isTb_of (Or.inl rfl) (isP_k q))] at ho; cases ho
    rw [this]
  · rw [hp, if_neg (nI_pos (by omega)), nI_clamp (by omega), hh]
    obtain ⟨-, -, -, z1, z2⟩ := szC_ok H.2.1 ht (R.2.2.2.2.2.1 t hY)
    obtain ⟨ci, rfl | rfl, hk⟩ := isTb_to ht
    · rw [if_neg (z2.mpr hk), only, if_pos (by simp [isP, hk]), R.2.2.2.2.2.1 t hY, szC, if_pos hk]
    · rw [if_pos (z1.mpr hk), only, if_neg (by simp [isP, hk])]
theorem op_generation (H : CI w x rg nr yg ya ly og oa lo tr fa Y O F G) (R : RL w W x rg nr m re th ol sz am fd ι Y O G) : (match only w (isTb w) (held w rg nr r) with | none => -1 | some t => if wI w t 1 = 0 then 0 else 1) = (if plc W re nr r < 0 then -1 else if wI W ol (plc W re nr r).toNatClampNeg = 0 then (0 : Int32) else 1) := by
  rcases plc_two H R r with ⟨hp, ho⟩ | ⟨t, hG, hY, hl, ht, -, hh, hp, -, ho⟩
  · rw [hp, if_pos m1_neg, ho]
  · rw [hp, if_neg (nI_pos (by omega)), nI_clamp (by omega), ho]
    have hol := H.2.2.2.2.2.2.2.2.2.1
    rcases List.mem_append.mp hY with q | q
    · show (if wI w t 1 = 0 then (0 : Int32) else 1) = _
      rw [hol.1 t q, R.2.2.2.1 t q]
    · show (if wI w t 1 = 0 then (0 : Int32) else 1) = _
      rw [hol.2 t q, R.2.2.2.2.1 t q]
theorem op_cells (H : CI w x rg nr yg ya ly og oa lo tr fa Y O F G) (R : RL w W x rg nr m re th ol sz am fd ι Y O G) : (if r = 0 then wI w yg 3 else if r = 1 then wI w og 3 else -1) = (if r = 0 then sumTo (takF W th ol sz 0) 200 else if r = 1 then sumTo (takF W th ol sz 1) 200 else -1) := by
  rw [(RL_tak H R).1, (RL_tak H R).2, H.2.2.2.2.1, H.2.2.2.2.2.1]; rfl
theorem op_collections (R : RL w W x rg nr m re th ol sz am fd ι Y O G) : (if r = 0 then wI w x 4 else if r = 1 then wI w x 5 else -1) = (if r = 0 then wI W m 11 else if r = 1 then wI W m 12 else -1) := by
  rw [R.2.2.2.2.2.2.2.2.2.2.1, R.2.2.2.2.2.2.2.2.2.2.2]
theorem VR_same {a b : Option Nat} {v v' : Int64} (hi : ∀ t, t ∈ G → ι t < 200) (hj : ∀ t, t ∈ G → ∀ u, u ∈ G → ι t = ι u → t = u) (h1 : VR w ι a v) (h2 : VR w ι b v') (g1 : oB w G a) (g2 : oB w G b) : v = v' ↔ sameP w a b := by
  have wh : ∀ {t}, wK w t = some (.inl 5) → isWh w t = true := fun h => by simp [isWh, h]
  have nw : ∀ {t}, isTb w t = true → isWh w t = false := fun h => by
    obtain ⟨ci, rfl | rfl, hk⟩ := isTb_to h
    · simp [isWh, hk]
    · simp [isWh, hk]
  cases a with
  | none =>
    cases b with
    | none => exact ⟨fun _ => Or.inl rfl, fun _ => (show v = _ from h1).trans (show v' = _ from h2).symm⟩
    | some u =>
      have h1' : v = 1099511627776 := h1
      refine ⟨fun e => ?_, fun q => ?_⟩
      · rcases h2 with ⟨p1, p2⟩ | ⟨p1, p2, -⟩
        · exact absurd (h1'.symm.trans (e.trans p2)) (null_RF (hi u (g2 u rfl p1)))
        · exact absurd (p2.symm.trans (e.symm.trans h1')) whole_ne
      · rcases q with q | ⟨s', t', q, -⟩
        · cases q
        · cases q
  | some t =>
    cases b with
    | none =>
      have h2' : v' = 1099511627776 := h2
      refine ⟨fun e => ?_, fun q => ?_⟩
      · rcases h1 with ⟨p1, p2⟩ | ⟨p1, p2, -⟩
        · exact absurd (h2'.symm.trans (e.symm.trans p2)) (null_RF (hi t (g1 t rfl p1)))
        · exact absurd (p2.symm.trans (e.trans h2')) whole_ne
      · rcases q with q | ⟨s', t', -, q, -⟩
        · cases q
        · cases q
    | some u =>
      rcases h1 with ⟨p1, p2⟩ | ⟨p1, p2, -⟩ <;> rcases h2 with ⟨q1, q2⟩ | ⟨q1, q2, -⟩
      · have i1 := g1 t rfl p1
        have i2 := g2 u rfl q1
        rw [p2, q2, RF_inj (hi t i1) (hi u i2)]
        refine ⟨fun e => Or.inl (by rw [hj t i1 u i2 e]), fun e => ?_⟩
        rcases e with e | ⟨s', t', e1, -, e3, -⟩
        · cases e; rfl
        · cases e1; rw [nw p1] at e3; cases e3
      · refine ⟨fun e => absurd (q2.symm.trans (e.symm.trans p2)) (whole_RF (hi t (g1 t rfl p1))), fun e => ?_⟩
        rcases e with e | ⟨s', t', e1, -, e3, -⟩
        · cases e; rw [isTb_no q1] at p1; cases p1
        · cases e1; rw [nw p1] at e3; cases e3
      · refine ⟨fun e => absurd (p2.symm.trans (e.trans q2)) (whole_RF (hi u (g2 u rfl q1))), fun e => ?_⟩
        rcases e with e | ⟨s', t', -, e2, -, e4, -⟩
        · cases e; rw [isTb_no p1] at q1; cases q1
        · cases e2; rw [nw q1] at e4; cases e4
      · rw [p2, q2]
        refine ⟨fun e => Or.inr ⟨t, u, rfl, rfl, wh p1, wh q1, ?_⟩, fun e => ?_⟩
        · rw [← Int32.toInt32_toInt64 (wI w t 0), e, Int32.toInt32_toInt64]
        · rcases e with e | ⟨s', t', e1, e2, -, -, e5⟩
          · cases e; rfl
          · cases e1; cases e2; rw [e5]
theorem op_same (H : CI w x rg nr yg ya ly og oa lo tr fa Y O F G) (R : RL w W x rg nr m re th ol sz am fd ι Y O G) : (if regB nr r ∧ regB nr r2 ∧ sameV w (held w rg nr r) (held w rg nr r2) = true then (1 : Int32) else 0) = (if regB nr r ∧ regB nr r2 ∧ wL W re r.toNatClampNeg = wL W re r2.toNatClampNeg then 1 else 0) := by
  have key : (regB nr r ∧ regB nr r2 ∧ sameV w (held w rg nr r) (held w rg nr r2) = true) ↔ (regB nr r ∧ regB nr r2 ∧ wL W re r.toNatClampNeg = wL W re r2.toNatClampNeg) := by
    have kk : regB nr r → regB nr r2 → (sameV w (held w rg nr r) (held w rg nr r2) = true ↔ wL W re r.toNatClampNeg = wL W re r2.toNatClampNeg) := fun a b => by
      obtain ⟨v1, -, b1⟩ := reg_two H R a
      obtain ⟨v2, -, b2⟩ := reg_two H R b
      rw [sameV_iff]
      exact (VR_same (fun t ht => R.1 t (RL_G H ht)) (fun t ht u hu => R.2.1 t (RL_G H ht) u (RL_G H hu)) v1 v2 b1 b2).symm
    exact ⟨fun ⟨a, b, c⟩ => ⟨a, b, (kk a b).mp c⟩, fun ⟨a, b, c⟩ => ⟨a, b, (kk a b).mpr c⟩⟩
  by_cases g : regB nr r ∧ regB nr r2 ∧ wL W re r.toNatClampNeg = wL W re r2.toNatClampNeg
  · rw [if_pos g, if_pos (key.mpr g)]
  · rw [if_neg g, if_neg (fun q => g (key.mp q))]
end OR
