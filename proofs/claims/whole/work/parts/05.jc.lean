/-! ===== contracts ===== -/
def wA (w : Wd) (n : Nat) : Nat → Prop := fun q => (wK w q).isSome = true ∨ n ≤ q
def HW (Δ : Dat) (A : Nat → Prop) (w : Wd) (H : Heap) : Prop := ∃ ws, wrep Δ.2 w ws ∧ va_P Δ.1 vwCl ws H ∧ va_D A ws
def PcW (Δ : Dat) (av : List Value) (w : Wd) (n : Nat) : Array Value → State → Prop := fun a U => a = av.toArray ∧ U.heap.size = n ∧ SK Δ (wA w n) U U.heap ∧ HW Δ (fun _ => True) w U.heap
def QcW (Δ : Dat) (w : Wd) (n : Nat) (post : Option Value → Wd → Prop) : Array Value → State → Outcome → State → Prop := fun _ st oc t => ∃ (r : Option Value) (w' : Wd), oc = .returned r ∧ post r w' ∧ HW Δ (wA w n) w' t.heap ∧ va_F (wA w n) st t
def XcW (Δ : Dat) (w : Wd) (n : Nat) (px : String → Wd → Prop) : String → State → State → Prop := fun E st t => ∃ w' : Wd, px E w' ∧ HW Δ (wA w n) w' t.heap ∧ va_F (wA w n) st t
/-- a method's contract at these arguments and this world: it returns -/
def Ct (l : Launch) (y : MethodName) (hd : Cond) (rm : Room) (Δ : Dat) (av : List Value) (w : Wd) (post : Option Value → Wd → Prop) : Prop := ∀ n, Met l y (hd :: TT) rm (PcW Δ av w n) (QcW Δ w n post) rm.cells rm.slots (wA w n)
/-- .. it returns or throws -/
def Cx2 (l : Launch) (y : MethodName) (hd : Cond) (rm : Room) (Δ : Dat) (av : List Value) (w : Wd) (post : Option Value → Wd → Prop) (px : String → Wd → Prop) : Prop := ∀ n, vx_Met l y (hd :: TT) rm (PcW Δ av w n) (QcW Δ w n post) (XcW Δ w n px) rm.cells rm.slots (wA w n)
theorem PcW_blind {Δ : Dat} {av : List Value} {w : Wd} {n : Nat} : FrameBlind (PcW Δ av w n) := fun _ U _ _ h => ⟨h.1, h.2.1, SK.same (u := U) rfl h.2.2.1, h.2.2.2⟩
theorem wA_in {Δ : Dat} {w : Wd} {ws : va_W} {A : Nat → Prop} {H0 H : Heap} {locs : List Loc} (h1 : wrep Δ.2 w ws) (h3 : va_D A ws) (h4 : va_S A H0 H locs) (hA : ∀ q, H0.size ≤ q → A q) : ∀ q, wA w H.size q → A q := by
  intro q hq
  rcases hq with hq | hq
  · obtain ⟨d, hd⟩ := Option.isSome_iff_exists.mp hq
    obtain ⟨k, hk'⟩ := wrep_at h1 hd
    exact h3.2 k _ hk'
  · exact hA q (Nat.le_trans h4.1 hq)
theorem wA_D {Δ : Dat} {w : Wd} {ws : va_W} {A : Nat → Prop} {n : Nat} (h1 : wrep Δ.2 w ws) (h3 : va_D A ws) : va_D (wA w n) ws :=
  ⟨h3.1, fun k q hk => by
    obtain ⟨d, hd, -⟩ := (h1 q.1 q.2).mp (List.mem_of_getElem? hk)
    exact Or.inl (by rw [hd]; rfl)⟩
theorem wA_st {Δ : Dat} {w : Wd} {ws : va_W} {H : Heap} (h1 : wrep Δ.2 w ws) (h2 : va_P Δ.1 vwCl ws H) : ∀ (q : Nat) (cell : Cell), wA w H.size q → H[q]? = some cell → cell.vm.isStatics = false := by
  intro q cell hq hc
  rcases hq with hq | hq
  · obtain ⟨d, hd⟩ := Option.isSome_iff_exists.mp hq
    obtain ⟨k, hk'⟩ := wrep_at h1 hd
    have h := h2 k _ hk'
    cases d with
    | inl ci =>
      obtain ⟨r, -, cell', g1, -, g3, -⟩ := h
      cases Option.some.inj (g1.symm.trans hc)
      rw [g3]
      rfl
    | inr tn =>
      have h' : H[q]? = some (vp_cell _ _) := h
      cases Option.some.inj (h'.symm.trans hc)
      unfold vp_cell
      split <;> rfl
  · have := (Array.getElem?_eq_some_iff.mp hc).1
    omega
def AE (Γ : Cxt) (w : Wd) : Nat → Prop := match Γ with
  | (_, _, _, _, s, _, _, _, _, _) => wA w s.heap.size
def QE (Γ : Cxt) (Δ : Dat) (w : Wd) (post : Option Value → Wd → Prop) (rm : Room) : State → Prop := match Γ with
  | (_, _, _, _, s, _, args, below, _, _) => MQ below (QcW Δ w s.heap.size post) args s rm.cells rm.slots (wA w s.heap.size)
def QX (Γ : Cxt) (Δ : Dat) (w : Wd) (post : Option Value → Wd → Prop) (px : String → Wd → Prop) (rm : Room) : State → Prop := match Γ with
  | (_, _, _, _, s, _, args, below, _, _) => vx_MQ below (QcW Δ w s.heap.size post) (XcW Δ w s.heap.size px) args s rm.cells rm.slots (wA w s.heap.size)
/-- the method's table of handlers -/
def TB (Γ : Cxt) (tb : List ExceptionTableEntry) : Prop := match Γ with
  | (_, _, _, _, _, _, _, _, _, c) => c.exceptionTable.toList = tb
section JE
variable {l : Launch} {y : MethodName} {cc : ByteArray} {maxL : Nat} {ret : Option FieldType} {rm : Room} {Δ : Dat} {av : List Value} {w : Wd} {post : Option Value → Wd → Prop} {px : String → Wd → Prop} {L : List (Option Value)}
theorem Ct_cx {hd : Cond} {p : Program} {e : Env} {s s₁ : State} {m : MethodId} {below : List Frame} {meth : Method} {c : Code} {ws : va_W} (B : BodyLoose p l y (headSpec (hd :: TT) rm) cc maxL ret e s m av.toArray below meth c s₁) (hml : c.maxLocals = maxL) (hSK : SK Δ (wA w s.heap.size) s s.heap) (hw1 : wrep Δ.2 w ws) (hw2 : va_P Δ.1 vwCl ws s.heap) :
    Cx (p, l, e, rm, s, m, av.toArray, below, meth, c) Δ (wA w s.heap.size) l cc y.cls maxL rm ret y.name :=
  ⟨rfl, rfl, B.exec, B.bytes, findClass_of_methodNamed B.named, hml, fun x hx => atoms_spec (ws := hd :: TT) B.pre x (List.mem_cons_of_mem _ hx), hSK, fun q h => Or.inr h, B.returns, B.notSynchronized, (name_of_methodNamed B.named B.method).1, wA_st hw1 hw2⟩
theorem Ct_of (hy : plainName y.cls = true) (hlen : (lg_sl av).length ≤ maxL) (hL : lin av maxL = L)
    (body : ∀ Γ, Cx Γ Δ (AE Γ w) l cc y.cls maxL rm ret y.name → J Γ Δ (AE Γ w) maxL w 0 0 (QE Γ Δ w post rm) 0 L []) : Ct l y (.code y cc maxL ret) rm Δ av w post := by
  intro n
  refine Met.ofW (cc := cc) (maxL := maxL) (ret := ret) hy rfl ?_
  intro p e s m args below meth c s₁ B hml hv
  obtain ⟨rfl, hsz, hSK, ws, hw1, hw2, hw3⟩ := hv
  subst hsz; subst hL
  rw [lg_entry_eq]
  exact body _ (Ct_cx B hml hSK hw1 hw2) s.heap [] ws _ hw1 hw2 (wA_D hw1 hw3) va_S.rf (lhas_entry av hlen)
theorem Cx2_of (hy : plainName y.cls = true) (hlen : (lg_sl av).length ≤ maxL) (hL : lin av maxL = L)
    (body : ∀ Γ, Cx Γ Δ (AE Γ w) l cc y.cls maxL rm ret y.name → TB Γ [] → J Γ Δ (AE Γ w) maxL w 0 0 (QX Γ Δ w post px rm) 0 L []) : Cx2 l y (.code y cc maxL ret) rm Δ av w post px := by
  intro n
  refine vx_ofW (cc := cc) (maxL := maxL) (ret := ret) hy rfl ?_
  intro p e s m args below meth c s₁ B hml htb hv
  obtain ⟨rfl, hsz, hSK, ws, hw1, hw2, hw3⟩ := hv
  subst hsz; subst hL
  rw [lg_entry_eq]
  exact body _ (Ct_cx B hml hSK hw1 hw2) (List.eq_nil_iff_forall_not_mem.mpr fun x hx => htb x hx) s.heap [] ws _ hw1 hw2 (wA_D hw1 hw3) va_S.rf (lhas_entry av hlen)
theorem CtW_of {hh : List (Nat × Nat × Nat × Nat)} (hy : plainName y.cls = true) (hlen : (lg_sl av).length ≤ maxL) (hL : lin av maxL = L)
    (body : ∀ Γ, Cx Γ Δ (AE Γ w) l cc y.cls maxL rm ret y.name → TB Γ (tableOf hh) → J Γ Δ (AE Γ w) maxL w 0 0 (QE Γ Δ w post rm) 0 L []) : Ct l y (.codeWith y cc maxL ret hh) rm Δ av w post := by
  intro n
  refine va_MetW (cc := cc) (maxL := maxL) (ret := ret) (hh := hh) hy rfl ?_
  intro p e s m args below meth c s₁ B hml hv
  obtain ⟨rfl, hsz, hSK, ws, hw1, hw2, hw3⟩ := hv
  subst hsz
  have htb : c.exceptionTable.toList = tableOf hh := vx_table (x := y) B (atoms_spec (ws := .codeWith y cc maxL ret hh :: TT) B.pre _ List.mem_cons_self)
  subst hL
  rw [lg_entry_eq]
  exact body _ (Ct_cx B hml hSK hw1 hw2) htb s.heap [] ws _ hw1 hw2 (wA_D hw1 hw3) va_S.rf (lhas_entry av hlen)
end JE
section JW
variable {p : Program} {l : Launch} {e : Env} {R : Room} {s : State} {m : MethodId} {args : Array Value} {below : List Frame} {meth : Method} {c : Code} {H : Heap} {locs : List Loc} {cells slots mc ms pc : Nat} {ls : Array Slot} {st0 rest : List Value} {Δ : Dat} {w : Wd} {post : Option Value → Wd → Prop} {px : String → Wd → Prop} {a : Array Value} {Q : State → Prop} {A : Nat → Prop} {ws : va_W}
theorem W_keep {st₀ t T' : State} {L : List Loc} (h0 : st₀.heap = H) (e1 : T'.heap = t.heap) (hF : va_F (wA w H.size) st₀ t) (hL : ∀ q ∈ L, wA w H.size q.base) (wAA : ∀ q, wA w H.size q → A q) (h4 : va_S A s.heap H locs) : va_S A s.heap T'.heap (locs ++ L) := by
  obtain ⟨hz, hk⟩ := hF
  rw [h0] at hz hk
  exact ⟨Nat.le_trans h4.1 (by rw [e1]; exact hz), fun q i1 i2 => by rw [e1, hk q (Nat.lt_of_lt_of_le i1 h4.1) (fun z => i2 (wAA q z))]; exact h4.2.1 q i1 i2, fun q hq => by
      rcases List.mem_append.mp hq with h | h
      · exact h4.2.2 q h
      · exact wAA _ (hL q h)⟩
theorem W_run (hr : va_Run p l e R s m args below meth c H locs cells slots mc ms (F0 m pc ls st0) rest (QcW Δ w H.size post a) (wA w H.size)) (h1 : wrep Δ.2 w ws) (h3 : va_D A ws) (h4 : va_S A s.heap H locs) (hA : ∀ q, s.heap.size ≤ q → A q)
    (kk : ∀ (r : Option Value) (w' : Wd), post r w' → ∀ (H1 : Heap) (locs1 : List Loc) (ws1 : va_W), wrep Δ.2 w' ws1 → va_P Δ.1 vwCl ws1 H1 → va_D A ws1 → va_S A s.heap H1 locs1 → W p l e R s m args below meth c H1 locs1 (cells + mc) (slots + ms) Q (F0 m (pc + 3) ls (r.toList ++ rest))) : W p l e R s m args below meth c H locs cells slots Q (F0 m pc ls st0) := by
  intro T hT X
  obtain ⟨v, st₀, t, T', L, h0, X', hL, e1, e2, ⟨r, w', hv, hp, ⟨ws1, g1, g2, g3⟩, hF⟩, st⟩ := hr T hT X
  cases hv
  have wAA := wA_in (H := H) h1 h3 h4 hA
  obtain ⟨t2, a1, b1⟩ := kk _ w' hp T'.heap (locs ++ L) ws1 g1 (by rw [e1]; exact g2) ⟨g3.1, fun k q hq => wAA _ (g3.2 k q hq)⟩ (W_keep h0 e1 hF hL wAA h4) T' rfl X'
  exact ⟨t2, st t2 a1, b1⟩
theorem W_runX (hr : vx_Run p l e R s m args below meth c H locs cells slots mc ms (F0 m pc ls st0) rest (QcW Δ w H.size post a) (XcW Δ w H.size px) (wA w H.size)) (h1 : wrep Δ.2 w ws) (h3 : va_D A ws) (h4 : va_S A s.heap H locs) (hA : ∀ q, s.heap.size ≤ q → A q)
    (kk : ∀ (r : Option Value) (w' : Wd), post r w' → ∀ (H1 : Heap) (locs1 : List Loc) (ws1 : va_W), wrep Δ.2 w' ws1 → va_P Δ.1 vwCl ws1 H1 → va_D A ws1 → va_S A s.heap H1 locs1 → W p l e R s m args below meth c H1 locs1 (cells + mc) (slots + ms) Q (F0 m (pc + 3) ls (r.toList ++ rest)))
    (kx : ∀ (E : String) (w' : Wd), px E w' → ∀ (H1 : Heap) (locs1 : List Loc) (ws1 : va_W) (q : Addr) (ce : Cell), wrep Δ.2 w' ws1 → va_P Δ.1 vwCl ws1 H1 → va_D A ws1 → va_S A s.heap H1 locs1 → H1[q]? = some ce → ce.vm = .none → s.vm.findClass E = some ce.cls → vx_W p l e R s m args below meth c H1 locs1 (cells + mc) (slots + ms) Q (F0 m pc ls rest) q) : W p l e R s m args below meth c H locs cells slots Q (F0 m pc ls st0) := by
  intro T hT X
  have wAA := wA_in (H := H) h1 h3 h4 hA
  rcases hr T hT X with ⟨v, st₀, t, T', L, h0, X', hL, e1, e2, ⟨r, w', hv, hp, ⟨ws1, g1, g2, g3⟩, hF⟩, st⟩ | ⟨q, st₀, t, T', L, E, ce, h0, X', hL, e1, e2, ⟨w', hp, ⟨ws1, g1, g2, g3⟩, hF⟩, hc1, hc2, hc3, st⟩
  · cases hv
    obtain ⟨t2, a1, b1⟩ := kk _ w' hp T'.heap (locs ++ L) ws1 g1 (by rw [e1]; exact g2) ⟨g3.1, fun k q hq => wAA _ (g3.2 k q hq)⟩ (W_keep h0 e1 hF hL wAA h4) T' rfl X'
    exact ⟨t2, st t2 a1, b1⟩
  · obtain ⟨t2, a1, b1⟩ := kx E w' hp T'.heap (locs ++ L) ws1 q ce g1 (by rw [e1]; exact g2) ⟨g3.1, fun k q hq => wAA _ (g3.2 k q hq)⟩ (W_keep h0 e1 hF hL wAA h4) (by rw [e1]; exact hc1) hc2 hc3 T' rfl X'
    exact ⟨t2, st.trans a1, b1⟩
end JW
theorem TT_pay {hd : Cond} {args : Array Value} {s : State} (hts : ∀ x ∈ TT, x.before args s = true) (h : hd ∈ TT) : ∀ x ∈ (hd :: TT), ∀ (a' : Array Value) (U : State), s.WarmedH U.vm → x.before a' U = true := by
  intro x hx a' U hW
  rcases List.mem_cons.mp hx with rfl | hx
  · exact TT_warm _ h _ _ _ _ hW (hts _ h)
  · exact TT_warm _ hx _ _ _ _ hW (hts _ hx)
/-- a call's words: the callee's code, its class, how many arguments; then the link -/
def CD (y : MethodName) (hd : Cond) (np : Nat) : Prop := hd ∈ TT ∧ Cond.initialized y.cls ∈ TT ∧ (y.cls ≠ "java/lang/invoke/MethodHandle" ∧ y.cls ≠ "java/lang/invoke/VarHandle") ∧ (parseMethodDescriptor y.desc).map (fun d => d.parameters.length) = some np
def LK (own : String) (idx : Nat) (y : MethodName) : Prop := Cond.methodLink own idx y ∈ TT
theorem CD_np {y : MethodName} {np : Nat} (h2 : (parseMethodDescriptor y.desc).map (fun d => d.parameters.length) = some np) : ∀ sig, parseMethodDescriptor y.desc = some sig → np = sig.parameters.length := by
  intro sig h
  rw [h] at h2
  exact (Option.some.inj h2).symm
/-- something thrown over the frame -/
def JX (Γ : Cxt) (Δ : Dat) (A : Nat → Prop) (nL : Nat) (w : Wd) (cells slots : Nat) (Q : State → Prop) (pc : Nat) (L : List (Option Value)) (rest : List Value) (E : String) : Prop :=
  match Γ with
  | (p, l, e, R, s, m, args, below, meth, c) =>
    ∀ (H : Heap) (locs : List Loc) (ws : va_W) (ls : Array Slot) (q : Addr) (ce : Cell), wrep Δ.2 w ws → va_P Δ.1 vwCl ws H → va_D A ws → va_S A s.heap H locs → lhas ls nL L → H[q]? = some ce → ce.vm = .none → s.vm.findClass E = some ce.cls → vx_W p l e R s m args below meth c H locs cells slots Q (F0 m pc ls rest) q
section JC
variable {Γ : Cxt} {Δ : Dat} {A : Nat → Prop} {l0 : Launch} {cc : ByteArray} {own : String} {nL : Nat} {R0 : Room} {ret : Option FieldType} {nm : String} {w : Wd} {cells slots : Nat} {Q : State → Prop} {pc : Nat} {L : List (Option Value)} {st : List Value}
variable {y : MethodName} {bytes : ByteArray} {maxL idx : Nat} {rt : Option FieldType} {rm : Room} {post : Option Value → Wd → Prop} {px : String → Wd → Prop}

theorem J_callS (X : Cx Γ Δ A l0 cc own nL R0 ret nm) {As rest st0 : List Value} (hc : Ct l0 y (.code y bytes maxL rt) rm Δ (As) w post) (cd : CD y (.code y bytes maxL rt) As.length) (lk : LK own idx y) (hstc : Cond.static y ∈ TT) (hfr : rm.frames + 1 ≤ R0.frames) (hlo : 8 + (maxL + 11) + rm.locals ≤ R0.locals) (hcl : cells + rm.cells ≤ R0.cells) (hsl : slots + rm.slots ≤ R0.slots) (hst : st0 = As.reverse ++ rest) (hcat : (rest.map fun v => v.category).sum ≤ 8) (hd : decode cc pc = .ok (.invokestatic idx, 3)) (kk : ∀ (r : Option Value) (w' : Wd), post r w' → J Γ Δ A nL w' (cells + rm.cells) (slots + rm.slots) Q (pc + 3) L (r.toList ++ rest)) : J Γ Δ A nL w cells slots Q (pc) L (st0) := by
  obtain ⟨p, l, e, R, s, m, args, below, meth, c⟩ := Γ
  obtain ⟨hl, hR, hx, hb, hown, hml, hts, hK, hA, hret, hlk0, hnm, hst0⟩ := X
  intro H locs ws ls h1 h2 h3 h4 h5
  subst hR; subst hl; subst hst
  have hW8 : 2 * (F0 m pc ls (As.reverse ++ rest)).monitorRoom + (rest.map fun v => v.category).sum ≤ 8 := lv_room hcat
  have hpc : ∀ U : State, U.heap = H → s.WarmedH U.vm → PcW Δ (As) w H.size (As).toArray U := fun U hU hW => ⟨rfl, by rw [hU], by rw [hU]; exact hK.warm hW (wA_in h1 h3 h4 hA) h4.2.1, ws, h1, by rw [hU]; exact h2, h3.weaken (fun _ _ _ _ => trivial)⟩
  refine W_run (a := (As).toArray) (mc := rm.cells) (ms := rm.slots) ?_ h1 h3 h4 hA (fun r w' hp H1 locs1 ws1 g1 g2 g3 g4 => kk r w' hp H1 locs1 ws1 ls g1 g2 g3 g4 h5)
  exact va_runS (Ts := TT) ⟨hx, hb, hml, hown, hts⟩ (hc H.size) ⟨⟨rfl, rfl, hfr, hlo, TT_pay hts cd.1, List.mem_cons_self, hts _ cd.1, hts _ cd.2.1, cd.2.2.1, CD_np cd.2.2.2, hts _ lk⟩, hts _ hstc⟩ ⟨PcW_blind, hpc⟩ rfl rfl h5.1 rfl hW8 hd ⟨hcl, hsl⟩
theorem J_callV (X : Cx Γ Δ A l0 cc own nL R0 ret nm) {As rest st0 : List Value} {b ci : Nat} {r0 : vw_C} (hbk : wK w b = some (.inl ci)) (hr0 : vwCl[ci]? = some r0) (hc : Ct l0 y (.code y bytes maxL rt) rm Δ (.ref b :: As) w post) (cd : CD y (.code y bytes maxL rt) As.length) (lk : LK own idx y) (hsel : Cond.instanceMethod y ∈ TT ∧ Cond.selects r0.1 y y ∈ TT) (hfr : rm.frames + 1 ≤ R0.frames) (hlo : 8 + (maxL + 11) + rm.locals ≤ R0.locals) (hcl : cells + rm.cells ≤ R0.cells) (hsl : slots + rm.slots ≤ R0.slots) (hst : st0 = As.reverse ++ .ref b :: rest) (hcat : (rest.map fun v => v.category).sum ≤ 8) (hd : decode cc pc = .ok (.invokevirtual idx, 3)) (kk : ∀ (r : Option Value) (w' : Wd), post r w' → J Γ Δ A nL w' (cells + rm.cells) (slots + rm.slots) Q (pc + 3) L (r.toList ++ rest)) : J Γ Δ A nL w cells slots Q (pc) L (st0) := by
  obtain ⟨p, l, e, R, s, m, args, below, meth, c⟩ := Γ
  obtain ⟨hl, hR, hx, hb, hown, hml, hts, hK, hA, hret, hlk0, hnm, hst0⟩ := X
  intro H locs ws ls h1 h2 h3 h4 h5
  subst hR; subst hl; subst hst
  have hW8 : 2 * (F0 m pc ls (As.reverse ++ .ref b :: rest)).monitorRoom + (rest.map fun v => v.category).sum ≤ 8 := lv_room hcat
  have hpc : ∀ U : State, U.heap = H → s.WarmedH U.vm → PcW Δ (.ref b :: As) w H.size (.ref b :: As).toArray U := fun U hU hW => ⟨rfl, by rw [hU], by rw [hU]; exact hK.warm hW (wA_in h1 h3 h4 hA) h4.2.1, ws, h1, by rw [hU]; exact h2, h3.weaken (fun _ _ _ _ => trivial)⟩
  obtain ⟨q0, hq⟩ := wrep_at h1 hbk
  have hrc := va_recv hK.1 h2 hr0 hq
  refine W_run (a := (.ref b :: As).toArray) (mc := rm.cells) (ms := rm.slots) ?_ h1 h3 h4 hA (fun r w' hp H1 locs1 ws1 g1 g2 g3 g4 => kk r w' hp H1 locs1 ws1 ls g1 g2 g3 g4 h5)
  exact va_runV (C := r0.1) (Ts := TT) ⟨hx, hb, hml, hown, hts⟩ (hc H.size) ⟨⟨rfl, rfl, hfr, hlo, TT_pay hts cd.1, List.mem_cons_self, hts _ cd.1, hts _ cd.2.1, cd.2.2.1, CD_np cd.2.2.2, hts _ lk⟩, hts _ hsel.1, hts _ hsel.2⟩ ⟨PcW_blind, hrc, hpc⟩ rfl rfl h5.1 rfl hW8 hd ⟨hcl, hsl⟩
theorem J_callVX (X : Cx Γ Δ A l0 cc own nL R0 ret nm) {As rest st0 : List Value} {b ci : Nat} {r0 : vw_C} (hbk : wK w b = some (.inl ci)) (hr0 : vwCl[ci]? = some r0) (hc : Cx2 l0 y (.code y bytes maxL rt) rm Δ (.ref b :: As) w post px) (cd : CD y (.code y bytes maxL rt) As.length) (lk : LK own idx y) (hsel : Cond.instanceMethod y ∈ TT ∧ Cond.selects r0.1 y y ∈ TT) (hfr : rm.frames + 1 ≤ R0.frames) (hlo : 8 + (maxL + 11) + rm.locals ≤ R0.locals) (hcl : cells + rm.cells ≤ R0.cells) (hsl : slots + rm.slots ≤ R0.slots) (hst : st0 = As.reverse ++ .ref b :: rest) (hcat : (rest.map fun v => v.category).sum ≤ 8) (hd : decode cc pc = .ok (.invokevirtual idx, 3)) (kk : ∀ (r : Option Value) (w' : Wd), post r w' → J Γ Δ A nL w' (cells + rm.cells) (slots + rm.slots) Q (pc + 3) L (r.toList ++ rest)) (kx : ∀ (E : String) (w' : Wd), px E w' → JX Γ Δ A nL w' (cells + rm.cells) (slots + rm.slots) Q pc L rest E) : J Γ Δ A nL w cells slots Q (pc) L (st0) := by
  obtain ⟨p, l, e, R, s, m, args, below, meth, c⟩ := Γ
  obtain ⟨hl, hR, hx, hb, hown, hml, hts, hK, hA, hret, hlk0, hnm, hst0⟩ := X
  intro H locs ws ls h1 h2 h3 h4 h5
  subst hR; subst hl; subst hst
  have hW8 : 2 * (F0 m pc ls (As.reverse ++ .ref b :: rest)).monitorRoom + (rest.map fun v => v.category).sum ≤ 8 := lv_room hcat
  have hpc : ∀ U : State, U.heap = H → s.WarmedH U.vm → PcW Δ (.ref b :: As) w H.size (.ref b :: As).toArray U := fun U hU hW => ⟨rfl, by rw [hU], by rw [hU]; exact hK.warm hW (wA_in h1 h3 h4 hA) h4.2.1, ws, h1, by rw [hU]; exact h2, h3.weaken (fun _ _ _ _ => trivial)⟩
  obtain ⟨q0, hq⟩ := wrep_at h1 hbk
  have hrc := va_recv hK.1 h2 hr0 hq
  refine W_runX (a := (.ref b :: As).toArray) (mc := rm.cells) (ms := rm.slots) ?_ h1 h3 h4 hA (fun r w' hp H1 locs1 ws1 g1 g2 g3 g4 => kk r w' hp H1 locs1 ws1 ls g1 g2 g3 g4 h5) (fun E w' hp H1 locs1 ws1 q ce g1 g2 g3 g4 g5 g6 g7 => kx E w' hp H1 locs1 ws1 ls q ce g1 g2 g3 g4 h5 g5 g6 g7)
  exact vx_runV (C := r0.1) (Ts := TT) ⟨hx, hb, hml, hown, hts⟩ (hc H.size) ⟨⟨rfl, rfl, hfr, hlo, TT_pay hts cd.1, List.mem_cons_self, hts _ cd.1, hts _ cd.2.1, cd.2.2.1, CD_np cd.2.2.2, hts _ lk⟩, hts _ hsel.1, hts _ hsel.2⟩ ⟨PcW_blind, hrc, hpc⟩ rfl rfl h5.1 rfl hW8 hd ⟨hcl, hsl⟩
theorem J_callI (X : Cx Γ Δ A l0 cc own nL R0 ret nm) {As rest st0 : List Value} {b : Nat} (hc : Ct l0 y (.code y bytes maxL none) rm Δ (.ref b :: As) w post) (cd : CD y (.code y bytes maxL none) As.length) (lk : LK own idx y) (hini : y.name = "<init>" ∧ Cond.instanceMethod y ∈ TT) (hfr : rm.frames + 1 ≤ R0.frames) (hlo : 8 + (maxL + 11) + rm.locals ≤ R0.locals) (hcl : cells + rm.cells ≤ R0.cells) (hsl : slots + rm.slots ≤ R0.slots) (hst : st0 = As.reverse ++ .ref b :: rest) (hcat : (rest.map fun v => v.category).sum ≤ 8) (hd : decode cc pc = .ok (.invokespecial idx, 3)) (kk : ∀ (r : Option Value) (w' : Wd), post r w' → J Γ Δ A nL w' (cells + rm.cells) (slots + rm.slots) Q (pc + 3) L (r.toList ++ rest)) : J Γ Δ A nL w cells slots Q (pc) L (st0) := by
  obtain ⟨p, l, e, R, s, m, args, below, meth, c⟩ := Γ
  obtain ⟨hl, hR, hx, hb, hown, hml, hts, hK, hA, hret, hlk0, hnm, hst0⟩ := X
  intro H locs ws ls h1 h2 h3 h4 h5
  subst hR; subst hl; subst hst
  have hW8 : 2 * (F0 m pc ls (As.reverse ++ .ref b :: rest)).monitorRoom + (rest.map fun v => v.category).sum ≤ 8 := lv_room hcat
  have hpc : ∀ U : State, U.heap = H → s.WarmedH U.vm → PcW Δ (.ref b :: As) w H.size (.ref b :: As).toArray U := fun U hU hW => ⟨rfl, by rw [hU], by rw [hU]; exact hK.warm hW (wA_in h1 h3 h4 hA) h4.2.1, ws, h1, by rw [hU]; exact h2, h3.weaken (fun _ _ _ _ => trivial)⟩
  refine W_run (a := (.ref b :: As).toArray) (mc := rm.cells) (ms := rm.slots) ?_ h1 h3 h4 hA (fun r w' hp H1 locs1 ws1 g1 g2 g3 g4 => kk r w' hp H1 locs1 ws1 ls g1 g2 g3 g4 h5)
  exact va_runI (Ts := TT) ⟨hx, hb, hml, hown, hts⟩ (hc H.size) ⟨⟨rfl, rfl, hfr, hlo, TT_pay hts cd.1, List.mem_cons_self, hts _ cd.1, hts _ cd.2.1, cd.2.2.1, CD_np cd.2.2.2, hts _ lk⟩, hini.1, hts _ hini.2⟩ ⟨PcW_blind, hpc⟩ rfl rfl h5.1 rfl hW8 hd ⟨hcl, hsl⟩
theorem J_callIN (X : Cx Γ Δ A l0 cc own nL R0 ret nm) {As rest st0 : List Value} {b : Nat} {host : String} (hc : Ct l0 y (.code y bytes maxL none) rm Δ (.ref b :: As) w post) (cd : CD y (.code y bytes maxL none) As.length) (lk : Cond.methodLinkNest own idx y host ∈ TT) (hini : y.name = "<init>" ∧ Cond.instanceMethod y ∈ TT) (hfr : rm.frames + 1 ≤ R0.frames) (hlo : 8 + (maxL + 11) + rm.locals ≤ R0.locals) (hcl : cells + rm.cells ≤ R0.cells) (hsl : slots + rm.slots ≤ R0.slots) (hst : st0 = As.reverse ++ .ref b :: rest) (hcat : (rest.map fun v => v.category).sum ≤ 8) (hd : decode cc pc = .ok (.invokespecial idx, 3)) (kk : ∀ (r : Option Value) (w' : Wd), post r w' → J Γ Δ A nL w' (cells + rm.cells) (slots + rm.slots) Q (pc + 3) L (r.toList ++ rest)) : J Γ Δ A nL w cells slots Q (pc) L (st0) := by
  obtain ⟨p, l, e, R, s, m, args, below, meth, c⟩ := Γ
  obtain ⟨hl, hR, hx, hb, hown, hml, hts, hK, hA, hret, hlk0, hnm, hst0⟩ := X
  intro H locs ws ls h1 h2 h3 h4 h5
  subst hR; subst hl; subst hst
  have hW8 : 2 * (F0 m pc ls (As.reverse ++ .ref b :: rest)).monitorRoom + (rest.map fun v => v.category).sum ≤ 8 := lv_room hcat
  have hpc : ∀ U : State, U.heap = H → s.WarmedH U.vm → PcW Δ (.ref b :: As) w H.size (.ref b :: As).toArray U := fun U hU hW => ⟨rfl, by rw [hU], by rw [hU]; exact hK.warm hW (wA_in h1 h3 h4 hA) h4.2.1, ws, h1, by rw [hU]; exact h2, h3.weaken (fun _ _ _ _ => trivial)⟩
  refine W_run (a := (.ref b :: As).toArray) (mc := rm.cells) (ms := rm.slots) ?_ h1 h3 h4 hA (fun r w' hp H1 locs1 ws1 g1 g2 g3 g4 => kk r w' hp H1 locs1 ws1 ls g1 g2 g3 g4 h5)
  exact va_runIN (Ts := TT) ⟨hx, hb, hml, hown, hts⟩ (hc H.size) ⟨⟨⟨rfl, rfl, hfr, hlo, TT_pay hts cd.1, List.mem_cons_self⟩, hts _ cd.1, hts _ cd.2.1, cd.2.2.1, CD_np cd.2.2.2, hts _ lk⟩, hini.1, hts _ hini.2⟩ ⟨PcW_blind, hpc⟩ rfl rfl h5.1 rfl hW8 hd ⟨hcl, hsl⟩
variable {hh : List (Nat × Nat × Nat × Nat)}
theorem J_callSW (X : Cx Γ Δ A l0 cc own nL R0 ret nm) {As rest st0 : List Value} (hc : Ct l0 y (.codeWith y bytes maxL rt hh) rm Δ (As) w post) (cd : CD y (.codeWith y bytes maxL rt hh) As.length) (lk : LK own idx y) (hstc : Cond.static y ∈ TT) (hfr : rm.frames + 1 ≤ R0.frames) (hlo : 8 + (maxL + 11) + rm.locals ≤ R0.locals) (hcl : cells + rm.cells ≤ R0.cells) (hsl : slots + rm.slots ≤ R0.slots) (hst : st0 = As.reverse ++ rest) (hcat : (rest.map fun v => v.category).sum ≤ 8) (hd : decode cc pc = .ok (.invokestatic idx, 3)) (kk : ∀ (r : Option Value) (w' : Wd), post r w' → J Γ Δ A nL w' (cells + rm.cells) (slots + rm.slots) Q (pc + 3) L (r.toList ++ rest)) : J Γ Δ A nL w cells slots Q (pc) L (st0) := by
  obtain ⟨p, l, e, R, s, m, args, below, meth, c⟩ := Γ
  obtain ⟨hl, hR, hx, hb, hown, hml, hts, hK, hA, hret, hlk0, hnm, hst0⟩ := X
  intro H locs ws ls h1 h2 h3 h4 h5
  subst hR; subst hl; subst hst
  have hW8 : 2 * (F0 m pc ls (As.reverse ++ rest)).monitorRoom + (rest.map fun v => v.category).sum ≤ 8 := lv_room hcat
  have hpc : ∀ U : State, U.heap = H → s.WarmedH U.vm → PcW Δ (As) w H.size (As).toArray U := fun U hU hW => ⟨rfl, by rw [hU], by rw [hU]; exact hK.warm hW (wA_in h1 h3 h4 hA) h4.2.1, ws, h1, by rw [hU]; exact h2, h3.weaken (fun _ _ _ _ => trivial)⟩
  refine W_run (a := (As).toArray) (mc := rm.cells) (ms := rm.slots) ?_ h1 h3 h4 hA (fun r w' hp H1 locs1 ws1 g1 g2 g3 g4 => kk r w' hp H1 locs1 ws1 ls g1 g2 g3 g4 h5)
  exact vx_runSW (Ts := TT) ⟨hx, hb, hml, hown, hts⟩ (hc H.size) ⟨⟨rfl, rfl, hfr, hlo, TT_pay hts cd.1, List.mem_cons_self⟩, hts _ cd.1, hts _ cd.2.1, cd.2.2.1, CD_np cd.2.2.2, hts _ lk, hts _ hstc⟩ ⟨PcW_blind, hpc⟩ rfl rfl h5.1 rfl hW8 hd ⟨hcl, hsl⟩
/-- Object() -/
theorem J_objInit (X : Cx Γ Δ A l0 cc own nL R0 ret nm) {a : Nat} (hlk : Cond.methodLink own idx Lib.objectInit ∈ TT) (hin : Cond.instanceMethod Lib.objectInit ∈ TT) (hco : Cond.code Lib.objectInit ⟨#[0xb1]⟩ 1 none ∈ TT) (hfr : 1 ≤ R0.frames) (hlo : 20 ≤ R0.locals) (hcat : (st.map fun v => v.category).sum ≤ 8) (hd : decode cc pc = .ok (.invokespecial idx, 3)) (kk : J Γ Δ A nL w cells slots Q (pc + 3) L (st)) : J Γ Δ A nL w cells slots Q (pc) L (.ref a :: st) := by
  obtain ⟨p, l, e, R, s, m, args, below, meth, c⟩ := Γ
  obtain ⟨hl, hR, hx, hb, hown, hml, hts, hK, hA, hret, hlk0, hnm, hst0⟩ := X
  intro H locs ws ls h1 h2 h3 h4 h5
  subst hR
  have h8 : 2 * (F0 m pc ls (.ref a :: st)).monitorRoom + (st.map fun v => v.category).sum ≤ 8 := lv_room hcat
  exact W.objInit hx hb hown (hts _ hlk) (hts _ hin) (hts _ hco) rfl (by rw [hml]; exact h5.1) rfl hd hfr (by omega) (kk H locs ws ls h1 h2 h3 h4 h5)
variable {w0 : Wd}
theorem J_iret (X : Cx Γ Δ (AE Γ w0) l0 cc own nL R0 (some .int) nm) {v : Int32} (hp : post (some (.int v)) w) (hc : cells ≤ rm.cells) (hs : slots ≤ rm.slots) (hd : decode cc pc = .ok (.ireturn, 1)) : J Γ Δ (AE Γ w0) nL w cells slots (QE Γ Δ w0 post rm) pc L [.int v] := by
  obtain ⟨p, l, e, R, s, m, args, below, meth, c⟩ := Γ
  obtain ⟨hl, hR, hx, hb, hown, hml, hts, hK, hA, hret, hlk0, hnm, hst0⟩ := X
  intro H locs ws ls h1 h2 h3 h4 h5
  refine W.widen hc hs ?_
  exact W.iret hx hb hret (fun t ht hW => ⟨_, w, rfl, hp, ⟨ws, h1, by rw [ht]; exact h2, h3⟩, h4.F ht⟩) h4.2.2 hd hlk0
theorem J_zret (X : Cx Γ Δ (AE Γ w0) l0 cc own nL R0 (some .boolean) nm) {v : Int32} (hz : v = 0 ∨ v = 1) (hp : post (some (.int v)) w) (hc : cells ≤ rm.cells) (hs : slots ≤ rm.slots) (hd : decode cc pc = .ok (.ireturn, 1)) : J Γ Δ (AE Γ w0) nL w cells slots (QE Γ Δ w0 post rm) pc L [.int v] := by
  obtain ⟨p, l, e, R, s, m, args, below, meth, c⟩ := Γ
  obtain ⟨hl, hR, hx, hb, hown, hml, hts, hK, hA, hret, hlk0, hnm, hst0⟩ := X
  intro H locs ws ls h1 h2 h3 h4 h5
  refine W.widen hc hs ?_
  exact W.zret hx hb hret (by rcases hz with rfl | rfl <;> rfl) (fun t ht hW => ⟨_, w, rfl, hp, ⟨ws, h1, by rw [ht]; exact h2, h3⟩, h4.F ht⟩) h4.2.2 hd hlk0
theorem J_vret (X : Cx Γ Δ (AE Γ w0) l0 cc own nL R0 none nm) (hp : post none w) (hc : cells ≤ rm.cells) (hs : slots ≤ rm.slots) (hd : decode cc pc = .ok (.return_, 1)) : J Γ Δ (AE Γ w0) nL w cells slots (QE Γ Δ w0 post rm) pc L [] := by
  obtain ⟨p, l, e, R, s, m, args, below, meth, c⟩ := Γ
  obtain ⟨hl, hR, hx, hb, hown, hml, hts, hK, hA, hret, hlk0, hnm, hst0⟩ := X
  intro H locs ws ls h1 h2 h3 h4 h5
  refine W.widen hc hs ?_
  exact W.vret hx hb hret (fun t ht hW => ⟨_, w, rfl, hp, ⟨ws, h1, by rw [ht]; exact h2, h3⟩, h4.F ht⟩) h4.2.2 hd hlk0
theorem J_aret {rt0 : FieldType} (X : Cx Γ Δ (AE Γ w0) l0 cc own nL R0 (some rt0) nm) {o : Option Nat} (hrt : (∃ n, rt0 = .object n) ∨ ∃ t, rt0 = .array t) (hp : post (some (va_rf o)) w) (hc : cells ≤ rm.cells) (hs : slots ≤ rm.slots) (hd : decode cc pc = .ok (.areturn, 1)) : J Γ Δ (AE Γ w0) nL w cells slots (QE Γ Δ w0 post rm) pc L [va_rf o] := by
  obtain ⟨p, l, e, R, s, m, args, below, meth, c⟩ := Γ
  obtain ⟨hl, hR, hx, hb, hown, hml, hts, hK, hA, hret, hlk0, hnm, hst0⟩ := X
  intro H locs ws ls h1 h2 h3 h4 h5
  refine W.widen hc hs ?_
  exact W.aret hx hb hret hrt (by cases o <;> simp [va_rf]) (fun t ht hW => ⟨_, w, rfl, hp, ⟨ws, h1, by rw [ht]; exact h2, h3⟩, h4.F ht⟩) h4.2.2 hd hlk0
/-- a return where it might have thrown -/
theorem J_lift {rm : Room} (k : J Γ Δ A nL w cells slots (QE Γ Δ w0 post rm) pc L st) : J Γ Δ A nL w cells slots (QX Γ Δ w0 post px rm) pc L st := by
  obtain ⟨p, l, e, R, s, m, args, below, meth, c⟩ := Γ
  exact fun H locs ws ls h1 h2 h3 h4 h5 => vx_ret (k H locs ws ls h1 h2 h3 h4 h5)
/-- not caught here -/
theorem JX_out (X : Cx Γ Δ (AE Γ w0) l0 cc own nL R0 ret nm) (hT : TB Γ []) {E : String} {rest : List Value} (hp : px E w) (hc : cells ≤ rm.cells) (hs : slots ≤ rm.slots) : JX Γ Δ (AE Γ w0) nL w cells slots (QX Γ Δ w0 post px rm) pc L rest E := by
  obtain ⟨p, l, e, R, s, m, args, below, meth, c⟩ := Γ
  obtain ⟨hl, hR, hx, hb, hown, hml, hts, hK, hA, hret, hlk0, hnm, hst0⟩ := X
  intro H locs ws ls q ce h1 h2 h3 h4 h5 g1 g2 g3
  have hT' : c.exceptionTable.toList = [] := hT
  exact vx_out (by rw [hT']; exact fun x hx => nomatch hx) hlk0 g1 g2 g3 (fun t ht hv => ⟨w, hp, ⟨ws, h1, by rw [ht]; exact h2, h3⟩, h4.F ht⟩) h4.2.2 hc hs
/-- caught by a row of the table; the rows ahead of it name classes that it hasn't -/
theorem JX_catch (X : Cx Γ Δ A l0 cc own nL R0 ret nm) {tb : List ExceptionTableEntry} (hT : TB Γ tb) {E name : String} {rest : List Value} (pre : List ExceptionTableEntry) (x : ExceptionTableEntry) (suf : List ExceptionTableEntry) (hsplit : tb = pre ++ x :: suf)
    (hpass : ∀ z ∈ pre, z.catchType ≠ 0 ∧ ∃ n2 : String, Cond.classLink own z.catchType n2 ∈ TT ∧ (E, n2) ∈ ncL) (hcov : covers x pc = true) (h0 : x.catchType ≠ 0) (hlk : Cond.classLink own x.catchType name ∈ TT) (hcast : Cond.castable E name ∈ TT)
    (kk : ∀ q, J Γ Δ A nL w cells slots Q x.handlerPc L [.ref q]) : JX Γ Δ A nL w cells slots Q pc L rest E := by
  obtain ⟨p, l, e, R, s, m, args, below, meth, c⟩ := Γ
  obtain ⟨hl, hR, hx, hb, hown, hml, hts, hK, hA, hret, hlk0, hnm, hst0⟩ := X
  intro H locs ws ls q ce h1 h2 h3 h4 h5 g1 g2 g3
  have hT' : c.exceptionTable.toList = tb := hT
  exact vx_catch hown pre x suf (hT'.trans hsplit) (fun z hz => by
    obtain ⟨z0, n2, z1, z2⟩ := hpass z hz
    exact Or.inr ⟨z0, n2, hts _ z1, hK.2.1 _ z2⟩) hcov h0 (hts _ hlk) (hts _ hcast) g1 g2 g3 (kk q H locs ws ls h1 h2 h3 h4 h5)
/-- a text thrown: new, dup, ldc, the constructor, athrow -/
def XD (own : String) (ik is ic : Nat) (E text : String) : Prop := Bundle.fit E = true ∧ Cond.classLink own ik E ∈ TT ∧ Cond.initialized E ∈ TT ∧ (is, text) ∈ srL ∧ (∀ x ∈ vx_atS own ic E ["java/lang/RuntimeException", "java/lang/Exception"], x ∈ TT) ∧ ∀ x ∈ Cond.classLink own ik E :: Cond.initialized E :: vx_atS own ic E ["java/lang/RuntimeException", "java/lang/Exception"], vx_ot x = true
theorem J_throw (X : Cx Γ Δ (AE Γ w0) l0 cc "TwoGenerations" nL R0 ret nm) (hfl : l0.stackTraces = false) (hT : TB Γ []) {E text : String} {ik is ic : Nat} (hX : XD "TwoGenerations" ik is ic E text) (hp : px E w)
    (d0 : decode cc pc = .ok (.new ik, 3)) (d3 : decode cc (pc + 3) = .ok (.dup, 1)) (d4 : decode cc (pc + 4) = .ok (.ldc is, 2)) (d6 : decode cc (pc + 6) = .ok (.invokespecial ic, 3)) (d9 : decode cc (pc + 9) = .ok (.athrow, 1))
    (hfr : 6 ≤ R0.frames) (hlo : 100 ≤ R0.locals) (hcat : (st.map fun v => v.category).sum ≤ 8) (hc : cells + 1 ≤ R0.cells) (hs : slots + 6 ≤ R0.slots) (hc' : cells + 1 ≤ rm.cells) (hs' : slots + 6 ≤ rm.slots) : J Γ Δ (AE Γ w0) nL w cells slots (QX Γ Δ w0 post px rm) pc L st := by
  obtain ⟨p, l, e, R, s, m, args, below, meth, c⟩ := Γ
  obtain ⟨hl, hR, hx, hb, hown, hml, hts, hK, hA, hret, hlk0, hnm, hst0⟩ := X
  intro H locs ws ls h1 h2 h3 h4 h5
  subst hR; subst hl
  obtain ⟨x1, x2, x3, x4, x5, x6⟩ := hX
  obtain ⟨sa, hsa⟩ := hK.2.2.1 _ x4
  have hT' : c.exceptionTable.toList = [] := hT
  refine vx_throwS (names := ["java/lang/RuntimeException", "java/lang/Exception"]) (A := wA w0 s.heap.size) hx hb hfl hown x1 (by decide +kernel) (hts _ x2) (hts _ x3) hsa (fun x hx => hts x (x5 x hx)) x6 hK.2.2.2.1 hK.2.2.2.2 h4 (by rw [hml]; exact h5.1) d0 d3 d4 d6 d9 (by rw [hT']; exact fun x hx => nomatch hx) (by simp only [List.length_cons, List.length_nil]; omega) (by simp only [List.length_cons, List.length_nil]; omega) hc hs hlk0 (fun t hv hz hk => ?_) h4.2.2 hc' hs'
  refine ⟨w, hp, ⟨ws, h1, h2.kept (fun k q hq => hk q.1 ((h2 k q hq).lt)), h3⟩, Nat.le_trans h4.1 hz, fun q i1 i2 => ?_⟩
  rw [hk q (Nat.lt_of_lt_of_le i1 h4.1)]
  exact h4.2.1 q i1 i2
end JC
