/-! the script: it stands outside the world, nothing writes it -/
def SC (Γ : Cxt) (A : Nat → Prop) (b N : Nat) (f : Nat → Int32) : Prop := match Γ with
  | (_, _, _, _, s, _, _, _, _, _) => va_X b N f s s.heap ∧ b < s.heap.size ∧ ¬ A b
def PcX (Δ : Dat) (av : List Value) (w : Wd) (n b N : Nat) (f : Nat → Int32) : Array Value → State → Prop := fun a U => PcW Δ av w n a U ∧ va_X b N f U U.heap ∧ b < U.heap.size ∧ ¬ wA w n b
theorem PcX_blind {Δ : Dat} {av : List Value} {w : Wd} {n b N : Nat} {f : Nat → Int32} : FrameBlind (PcX Δ av w n b N f) := fun a U x y h => ⟨PcW_blind a U x y h.1, va_X.moved (u := U) (Vm.Alike.refl _) h.2.1, h.2.2⟩
section SJ
variable {Γ : Cxt} {Δ : Dat} {A : Nat → Prop} {l0 : Launch} {cc : ByteArray} {own : String} {nL : Nat} {R0 : Room} {ret : Option FieldType} {nm : String} {w : Wd} {cells slots : Nat} {Q : State → Prop} {pc : Nat} {L : List (Option Value)} {st : List Value}
variable {y : MethodName} {bytes : ByteArray} {maxL idx : Nat} {rt : Option FieldType} {rm : Room} {post : Option Value → Wd → Prop} {b N : Nat} {f : Nat → Int32}
theorem J_sald (X : Cx Γ Δ A l0 cc own nL R0 ret nm) {j : Nat} {i : Int32} (hs : SC Γ A b N f) (hi : i = nI j) (hj : j < N) (hN : N < 2 ^ 31) (hd : decode cc pc = .ok (.iaload, 1)) (kk : J Γ Δ A nL w cells slots Q (pc + 1) L (.int (f j) :: st)) : J Γ Δ A nL w cells slots Q pc L (.int i :: .ref b :: st) := by
  obtain ⟨p, l, e, R, s, m, args, below, meth, c⟩ := Γ
  obtain ⟨hl, hR, hx, hb, hown, hml, hts, hK, hA, -⟩ := X
  obtain ⟨k1, k2, k3⟩ := hs
  subst hi
  intro H locs ws ls h1 h2 h3 h4 h5
  refine va_sld hx hb k1 k2 k3 h4 (nI_in hj hN) hd ?_
  rw [nI_clamp (by omega)]
  exact kk H locs ws ls h1 h2 h3 h4 h5
theorem J_slen (X : Cx Γ Δ A l0 cc own nL R0 ret nm) (hs : SC Γ A b N f) (hd : decode cc pc = .ok (.arraylength, 1)) (kk : J Γ Δ A nL w cells slots Q (pc + 1) L (.int (nI N) :: st)) : J Γ Δ A nL w cells slots Q pc L (.ref b :: st) := by
  obtain ⟨p, l, e, R, s, m, args, below, meth, c⟩ := Γ
  obtain ⟨hl, hR, hx, hb, hown, hml, hts, hK, hA, -⟩ := X
  obtain ⟨k1, k2, k3⟩ := hs
  intro H locs ws ls h1 h2 h3 h4 h5
  exact va_slen hx hb k1 k2 k3 h4 hd (kk H locs ws ls h1 h2 h3 h4 h5)
/-- a contract of a method that reads the script -/
def CtS (l : Launch) (y : MethodName) (hd : Cond) (rm : Room) (Δ : Dat) (av : List Value) (w : Wd) (b N : Nat) (f : Nat → Int32) (post : Option Value → Wd → Prop) : Prop := ∀ n, Met l y (hd :: TT) rm (PcX Δ av w n b N f) (QcW Δ w n post) rm.cells rm.slots (wA w n)
theorem CtS_of {l : Launch} {av : List Value} (hy : plainName y.cls = true) (hlen : (lg_sl av).length ≤ maxL) (hL : lin av maxL = L)
    (body : ∀ Γ, Cx Γ Δ (AE Γ w) l cc y.cls maxL rm ret y.name → SC Γ (AE Γ w) b N f → J Γ Δ (AE Γ w) maxL w 0 0 (QE Γ Δ w post rm) 0 L []) : CtS l y (.code y cc maxL ret) rm Δ av w b N f post := by
  intro n
  refine Met.ofW (cc := cc) (maxL := maxL) (ret := ret) hy rfl ?_
  intro p e s m args below meth c s₁ B hml hv
  obtain ⟨⟨rfl, hsz, hSK, ws, hw1, hw2, hw3⟩, hx1, hx2, hx3⟩ := hv
  subst hsz; subst hL
  rw [lg_entry_eq]
  exact body _ (Ct_cx B hml hSK hw1 hw2) ⟨hx1, hx2, hx3⟩ s.heap [] ws _ hw1 hw2 (wA_D hw1 hw3) va_S.rf (lhas_entry av hlen)
theorem J_callSS (X : Cx Γ Δ A l0 cc own nL R0 ret nm) (hs : SC Γ A b N f) {As rest st0 : List Value} (hc : CtS l0 y (.code y bytes maxL rt) rm Δ (As) w b N f post) (cd : CD y (.code y bytes maxL rt) As.length) (lk : LK own idx y) (hstc : Cond.static y ∈ TT) (hfr : rm.frames + 1 ≤ R0.frames) (hlo : 8 + (maxL + 11) + rm.locals ≤ R0.locals) (hcl : cells + rm.cells ≤ R0.cells) (hsl : slots + rm.slots ≤ R0.slots) (hst : st0 = As.reverse ++ rest) (hcat : (rest.map fun v => v.category).sum ≤ 8) (hd : decode cc pc = .ok (.invokestatic idx, 3)) (kk : ∀ (r : Option Value) (w' : Wd), post r w' → J Γ Δ A nL w' (cells + rm.cells) (slots + rm.slots) Q (pc + 3) L (r.toList ++ rest)) : J Γ Δ A nL w cells slots Q (pc) L (st0) := by
  obtain ⟨p, l, e, R, s, m, args, below, meth, c⟩ := Γ
  obtain ⟨hl, hR, hx, hb, hown, hml, hts, hK, hA, hret, hlk0, hnm, hst0⟩ := X
  obtain ⟨k1, k2, k3⟩ := hs
  intro H locs ws ls h1 h2 h3 h4 h5
  subst hR; subst hl; subst hst
  have hW8 : 2 * (F0 m pc ls (As.reverse ++ rest)).monitorRoom + (rest.map fun v => v.category).sum ≤ 8 := lv_room hcat
  have wAA := wA_in h1 h3 h4 hA
  have hpc : ∀ U : State, U.heap = H → s.WarmedH U.vm → PcX Δ (As) w H.size b N f (As).toArray U := fun U hU hW => ⟨⟨rfl, by rw [hU], by rw [hU]; exact hK.warm hW wAA h4.2.1, ws, h1, by rw [hU]; exact h2, h3.weaken (fun _ _ _ _ => trivial)⟩, va_X.moved hW.alike (k1.kept (by rw [hU]; exact h4.2.1 b k2 k3)), by rw [hU]; exact Nat.lt_of_lt_of_le k2 h4.1, fun q => k3 (wAA b q)⟩
  refine W_run (a := (As).toArray) (mc := rm.cells) (ms := rm.slots) ?_ h1 h3 h4 hA (fun r w' hp H1 locs1 ws1 g1 g2 g3 g4 => kk r w' hp H1 locs1 ws1 ls g1 g2 g3 g4 h5)
  exact va_runS (Ts := TT) ⟨hx, hb, hml, hown, hts⟩ (hc H.size) ⟨⟨rfl, rfl, hfr, hlo, TT_pay hts cd.1, List.mem_cons_self, hts _ cd.1, hts _ cd.2.1, cd.2.2.1, CD_np cd.2.2.2, hts _ lk⟩, hts _ hstc⟩ ⟨PcX_blind, hpc⟩ rfl rfl h5.1 rfl hW8 hd ⟨hcl, hsl⟩
end SJ
set_option maxRecDepth 100000 in
theorem kl_cell {l : Launch} {Δ : Dat} {w : Wd} {b N k : Nat} {f : Nat → Int32} (hN : N < 2 ^ 31) (hk : k < 2 ^ 31) : CtS l y_La_cell h_La_cell (rmL 0 0 0) Δ [.ref b, .int (nI k)] w b N f (fun q W => q = some (.int (if k < N then f k else 0)) ∧ W = w) := by
  refine CtS_of (L := [some (.ref b), some (.int (nI k))]) (by decide) (by first | exact Nat.le_of_ble_eq_true rfl | simp [lg_sl, va_rf_cat, vc_r, vc_i, vc_0]) (by first | rfl | simp [lin, va_rf_cat, vc_r, vc_i, vc_0]) (fun Γ X HS => ?_)
  refine J_iload_n X d_La_cell_0 rfl rfl ?_
  first | refine J_aload_nr X d_La_cell_1 rfl rfl ?_ | refine J_aload_n X d_La_cell_1 rfl rfl ?_ | refine J_aload_n0 X d_La_cell_1 rfl rfl ?_
  refine J_slen X HS d_La_cell_2 ?_
  refine J_icmp_ge (tgt := 12) X d_La_cell_3 (by decide) (fun g => ?_) (fun g => ?_)
  · have hk2 : ¬ k < N := Nat.not_lt.mpr ((nI_leI hN hk).mp g)
    refine J_iconst (v := 0) X d_La_cell_12 (by decide) ?_
    exact J_iret X ⟨by rw [if_neg hk2], rfl⟩ (by decide) (by decide) d_La_cell_13
  · have hk2 : k < N := Nat.lt_of_not_le (fun q => g ((nI_leI hN hk).mpr q))
    first | refine J_aload_nr X d_La_cell_6 rfl rfl ?_ | refine J_aload_n X d_La_cell_6 rfl rfl ?_ | refine J_aload_n0 X d_La_cell_6 rfl rfl ?_
    refine J_iload_n X d_La_cell_7 rfl rfl ?_
    refine J_sald X HS rfl hk2 hN d_La_cell_8 ?_
    refine J_goto (tgt := 13) X d_La_cell_9 (by decide) ?_
    exact J_iret X ⟨by rw [if_pos hk2], rfl⟩ (by decide) (by decide) d_La_cell_13
