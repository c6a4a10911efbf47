section
-- ===== PART A: goes FIRST, ahead of the names: the tables' words, and 'selects' of the private methods out of them =====
/-- a private method of a class that the tables say can be made, by its rows of tables_1 -/
def lw_okq (q : MethodName × Nat) : Prop := (q.1.cls ≠ "java/lang/invoke/MethodHandle" ∧ q.1.cls ≠ "java/lang/invoke/VarHandle") ∧ Cond.instantiable q.1.cls q.2 ∈ tables_1 ∧ Cond.privateMethod q.1 ∈ tables_1 ∧ Cond.instanceMethod q.1 ∈ tables_1
theorem lw_p0 : lw_okq (⟨"TwoGenerations", "isRegister", "(I)Z"⟩, 6) := ⟨⟨by decide +kernel, by decide +kernel⟩, List.mem_of_getElem? (i := 16) (by decide +kernel), List.mem_of_getElem? (i := 95) (by decide +kernel), List.mem_of_getElem? (i := 96) (by decide +kernel)⟩
theorem lw_p1 : lw_okq (⟨"TwoGenerations", "heldIn", "(I)LTwoGenerations$Value;"⟩, 6) := ⟨⟨by decide +kernel, by decide +kernel⟩, List.mem_of_getElem? (i := 16) (by decide +kernel), List.mem_of_getElem? (i := 105) (by decide +kernel), List.mem_of_getElem? (i := 106) (by decide +kernel)⟩
theorem lw_p2 : lw_okq (⟨"TwoGenerations", "plainIn", "(I)LTwoGenerations$Plain;"⟩, 6) := ⟨⟨by decide +kernel, by decide +kernel⟩, List.mem_of_getElem? (i := 16) (by decide +kernel), List.mem_of_getElem? (i := 113) (by decide +kernel), List.mem_of_getElem? (i := 114) (by decide +kernel)⟩
theorem lw_p3 : lw_okq (⟨"TwoGenerations", "thingIn", "(I)LTwoGenerations$Thing;"⟩, 6) := ⟨⟨by decide +kernel, by decide +kernel⟩, List.mem_of_getElem? (i := 16) (by decide +kernel), List.mem_of_getElem? (i := 125) (by decide +kernel), List.mem_of_getElem? (i := 126) (by decide +kernel)⟩
theorem lw_p4 : lw_okq (⟨"TwoGenerations", "collectOld", "()I"⟩, 6) := ⟨⟨by decide +kernel, by decide +kernel⟩, List.mem_of_getElem? (i := 16) (by decide +kernel), List.mem_of_getElem? (i := 156) (by decide +kernel), List.mem_of_getElem? (i := 157) (by decide +kernel)⟩
theorem lw_p5 : lw_okq (⟨"TwoGenerations", "findRegisters", "()V"⟩, 6) := ⟨⟨by decide +kernel, by decide +kernel⟩, List.mem_of_getElem? (i := 16) (by decide +kernel), List.mem_of_getElem? (i := 160) (by decide +kernel), List.mem_of_getElem? (i := 161) (by decide +kernel)⟩
theorem lw_p6 : lw_okq (⟨"java/lang/Throwable", "fillInStackTrace", "(I)Ljava/lang/Throwable;"⟩, 6) := ⟨⟨by decide +kernel, by decide +kernel⟩, List.mem_of_getElem? (i := 242) (by decide +kernel), List.mem_of_getElem? (i := 240) (by decide +kernel), List.mem_of_getElem? (i := 241) (by decide +kernel)⟩
theorem lw_p7 : lw_okq (⟨"TwoGenerations", "bear", "(ILTwoGenerations$Thing;)V"⟩, 6) := ⟨⟨by decide +kernel, by decide +kernel⟩, List.mem_of_getElem? (i := 16) (by decide +kernel), List.mem_of_getElem? (i := 305) (by decide +kernel), List.mem_of_getElem? (i := 306) (by decide +kernel)⟩
theorem lw_p8 : lw_okq (⟨"TwoGenerations", "collectYoung", "()I"⟩, 6) := ⟨⟨by decide +kernel, by decide +kernel⟩, List.mem_of_getElem? (i := 16) (by decide +kernel), List.mem_of_getElem? (i := 313) (by decide +kernel), List.mem_of_getElem? (i := 314) (by decide +kernel)⟩
theorem lw_p9 : lw_okq (⟨"TwoGenerations", "weakIn", "(I)LTwoGenerations$Weak;"⟩, 6) := ⟨⟨by decide +kernel, by decide +kernel⟩, List.mem_of_getElem? (i := 16) (by decide +kernel), List.mem_of_getElem? (i := 395) (by decide +kernel), List.mem_of_getElem? (i := 396) (by decide +kernel)⟩
theorem lw_p10 : lw_okq (⟨"TwoGenerationsModel", "is", "(I)Z"⟩, 13) := ⟨⟨by decide +kernel, by decide +kernel⟩, List.mem_of_getElem? (i := 442) (by decide +kernel), List.mem_of_getElem? (i := 500) (by decide +kernel), List.mem_of_getElem? (i := 501) (by decide +kernel)⟩
theorem lw_p11 : lw_okq (⟨"TwoGenerationsModel", "when", "(ZI)Z"⟩, 13) := ⟨⟨by decide +kernel, by decide +kernel⟩, List.mem_of_getElem? (i := 442) (by decide +kernel), List.mem_of_getElem? (i := 504) (by decide +kernel), List.mem_of_getElem? (i := 505) (by decide +kernel)⟩
theorem lw_p12 : lw_okq (⟨"TwoGenerationsModel", "room", "(I)Z"⟩, 13) := ⟨⟨by decide +kernel, by decide +kernel⟩, List.mem_of_getElem? (i := 442) (by decide +kernel), List.mem_of_getElem? (i := 508) (by decide +kernel), List.mem_of_getElem? (i := 509) (by decide +kernel)⟩
theorem lw_p13 : lw_okq (⟨"TwoGenerationsModel", "taken", "(Z)I"⟩, 13) := ⟨⟨by decide +kernel, by decide +kernel⟩, List.mem_of_getElem? (i := 442) (by decide +kernel), List.mem_of_getElem? (i := 512) (by decide +kernel), List.mem_of_getElem? (i := 513) (by decide +kernel)⟩
theorem lw_p14 : lw_okq (⟨"TwoGenerationsModel", "cellsOf", "(I)I"⟩, 13) := ⟨⟨by decide +kernel, by decide +kernel⟩, List.mem_of_getElem? (i := 442) (by decide +kernel), List.mem_of_getElem? (i := 516) (by decide +kernel), List.mem_of_getElem? (i := 517) (by decide +kernel)⟩
theorem lw_p15 : lw_okq (⟨"TwoGenerationsModel", "grow", "()I"⟩, 13) := ⟨⟨by decide +kernel, by decide +kernel⟩, List.mem_of_getElem? (i := 442) (by decide +kernel), List.mem_of_getElem? (i := 520) (by decide +kernel), List.mem_of_getElem? (i := 521) (by decide +kernel)⟩
def lw_privs_1 : List (MethodName × Nat) := [(⟨"TwoGenerations", "isRegister", "(I)Z"⟩, 6), (⟨"TwoGenerations", "heldIn", "(I)LTwoGenerations$Value;"⟩, 6), (⟨"TwoGenerations", "plainIn", "(I)LTwoGenerations$Plain;"⟩, 6), (⟨"TwoGenerations", "thingIn", "(I)LTwoGenerations$Thing;"⟩, 6), (⟨"TwoGenerations", "collectOld", "()I"⟩, 6), (⟨"TwoGenerations", "findRegisters", "()V"⟩, 6), (⟨"java/lang/Throwable", "fillInStackTrace", "(I)Ljava/lang/Throwable;"⟩, 6), (⟨"TwoGenerations", "bear", "(ILTwoGenerations$Thing;)V"⟩, 6), (⟨"TwoGenerations", "collectYoung", "()I"⟩, 6), (⟨"TwoGenerations", "weakIn", "(I)LTwoGenerations$Weak;"⟩, 6), (⟨"TwoGenerationsModel", "is", "(I)Z"⟩, 13), (⟨"TwoGenerationsModel", "when", "(ZI)Z"⟩, 13), (⟨"TwoGenerationsModel", "room", "(I)Z"⟩, 13), (⟨"TwoGenerationsModel", "taken", "(Z)I"⟩, 13), (⟨"TwoGenerationsModel", "cellsOf", "(I)I"⟩, 13), (⟨"TwoGenerationsModel", "grow", "()I"⟩, 13)]
theorem lw_r1 : ∀ q ∈ lw_privs_1, lw_okq q := List.forall_mem_cons.mpr ⟨lw_p0, List.forall_mem_cons.mpr ⟨lw_p1, List.forall_mem_cons.mpr ⟨lw_p2, List.forall_mem_cons.mpr ⟨lw_p3, List.forall_mem_cons.mpr ⟨lw_p4, List.forall_mem_cons.mpr ⟨lw_p5, List.forall_mem_cons.mpr ⟨lw_p6, List.forall_mem_cons.mpr ⟨lw_p7, List.forall_mem_cons.mpr ⟨lw_p8, List.forall_mem_cons.mpr ⟨lw_p9, List.forall_mem_cons.mpr ⟨lw_p10, List.forall_mem_cons.mpr ⟨lw_p11, List.forall_mem_cons.mpr ⟨lw_p12, List.forall_mem_cons.mpr ⟨lw_p13, List.forall_mem_cons.mpr ⟨lw_p14, List.forall_mem_cons.mpr ⟨lw_p15, fun _ h => absurd h List.not_mem_nil⟩⟩⟩⟩⟩⟩⟩⟩⟩⟩⟩⟩⟩⟩⟩⟩
theorem lw_p16 : lw_okq (⟨"TwoGenerationsModel", "clearOld", "()I"⟩, 13) := ⟨⟨by decide +kernel, by decide +kernel⟩, List.mem_of_getElem? (i := 442) (by decide +kernel), List.mem_of_getElem? (i := 524) (by decide +kernel), List.mem_of_getElem? (i := 525) (by decide +kernel)⟩
theorem lw_p17 : lw_okq (⟨"TwoGenerationsModel", "nothing", "()V"⟩, 13) := ⟨⟨by decide +kernel, by decide +kernel⟩, List.mem_of_getElem? (i := 442) (by decide +kernel), List.mem_of_getElem? (i := 528) (by decide +kernel), List.mem_of_getElem? (i := 529) (by decide +kernel)⟩
theorem lw_p18 : lw_okq (⟨"TwoGenerationsModel", "markRegisters", "()V"⟩, 13) := ⟨⟨by decide +kernel, by decide +kernel⟩, List.mem_of_getElem? (i := 442) (by decide +kernel), List.mem_of_getElem? (i := 532) (by decide +kernel), List.mem_of_getElem? (i := 533) (by decide +kernel)⟩
theorem lw_p19 : lw_okq (⟨"TwoGenerationsModel", "mark", "(J)V"⟩, 13) := ⟨⟨by decide +kernel, by decide +kernel⟩, List.mem_of_getElem? (i := 442) (by decide +kernel), List.mem_of_getElem? (i := 536) (by decide +kernel), List.mem_of_getElem? (i := 537) (by decide +kernel)⟩
theorem lw_p20 : lw_okq (⟨"TwoGenerationsModel", "spread", "()V"⟩, 13) := ⟨⟨by decide +kernel, by decide +kernel⟩, List.mem_of_getElem? (i := 442) (by decide +kernel), List.mem_of_getElem? (i := 541) (by decide +kernel), List.mem_of_getElem? (i := 542) (by decide +kernel)⟩
theorem lw_p21 : lw_okq (⟨"TwoGenerationsModel", "marked", "()I"⟩, 13) := ⟨⟨by decide +kernel, by decide +kernel⟩, List.mem_of_getElem? (i := 442) (by decide +kernel), List.mem_of_getElem? (i := 545) (by decide +kernel), List.mem_of_getElem? (i := 546) (by decide +kernel)⟩
theorem lw_p22 : lw_okq (⟨"TwoGenerationsModel", "markFields", "(I)V"⟩, 13) := ⟨⟨by decide +kernel, by decide +kernel⟩, List.mem_of_getElem? (i := 442) (by decide +kernel), List.mem_of_getElem? (i := 549) (by decide +kernel), List.mem_of_getElem? (i := 550) (by decide +kernel)⟩
theorem lw_p23 : lw_okq (⟨"TwoGenerationsModel", "tellWeak", "()V"⟩, 13) := ⟨⟨by decide +kernel, by decide +kernel⟩, List.mem_of_getElem? (i := 442) (by decide +kernel), List.mem_of_getElem? (i := 553) (by decide +kernel), List.mem_of_getElem? (i := 554) (by decide +kernel)⟩
theorem lw_p24 : lw_okq (⟨"TwoGenerationsModel", "born", "(III)V"⟩, 13) := ⟨⟨by decide +kernel, by decide +kernel⟩, List.mem_of_getElem? (i := 442) (by decide +kernel), List.mem_of_getElem? (i := 557) (by decide +kernel), List.mem_of_getElem? (i := 558) (by decide +kernel)⟩
theorem lw_p25 : lw_okq (⟨"TwoGenerationsModel", "placeIn", "(I)I"⟩, 13) := ⟨⟨by decide +kernel, by decide +kernel⟩, List.mem_of_getElem? (i := 442) (by decide +kernel), List.mem_of_getElem? (i := 565) (by decide +kernel), List.mem_of_getElem? (i := 566) (by decide +kernel)⟩
theorem lw_p26 : lw_okq (⟨"TwoGenerationsModel", "hasField", "(II)Z"⟩, 13) := ⟨⟨by decide +kernel, by decide +kernel⟩, List.mem_of_getElem? (i := 442) (by decide +kernel), List.mem_of_getElem? (i := 581) (by decide +kernel), List.mem_of_getElem? (i := 582) (by decide +kernel)⟩
def lw_privs_2 : List (MethodName × Nat) := [(⟨"TwoGenerationsModel", "clearOld", "()I"⟩, 13), (⟨"TwoGenerationsModel", "nothing", "()V"⟩, 13), (⟨"TwoGenerationsModel", "markRegisters", "()V"⟩, 13), (⟨"TwoGenerationsModel", "mark", "(J)V"⟩, 13), (⟨"TwoGenerationsModel", "spread", "()V"⟩, 13), (⟨"TwoGenerationsModel", "marked", "()I"⟩, 13), (⟨"TwoGenerationsModel", "markFields", "(I)V"⟩, 13), (⟨"TwoGenerationsModel", "tellWeak", "()V"⟩, 13), (⟨"TwoGenerationsModel", "born", "(III)V"⟩, 13), (⟨"TwoGenerationsModel", "placeIn", "(I)I"⟩, 13), (⟨"TwoGenerationsModel", "hasField", "(II)Z"⟩, 13)]
theorem lw_r2 : ∀ q ∈ lw_privs_2, lw_okq q := List.forall_mem_cons.mpr ⟨lw_p16, List.forall_mem_cons.mpr ⟨lw_p17, List.forall_mem_cons.mpr ⟨lw_p18, List.forall_mem_cons.mpr ⟨lw_p19, List.forall_mem_cons.mpr ⟨lw_p20, List.forall_mem_cons.mpr ⟨lw_p21, List.forall_mem_cons.mpr ⟨lw_p22, List.forall_mem_cons.mpr ⟨lw_p23, List.forall_mem_cons.mpr ⟨lw_p24, List.forall_mem_cons.mpr ⟨lw_p25, List.forall_mem_cons.mpr ⟨lw_p26, fun _ h => absurd h List.not_mem_nil⟩⟩⟩⟩⟩⟩⟩⟩⟩⟩⟩
def lw_privs : List (MethodName × Nat) := lw_privs_1 ++ (lw_privs_2)
def lw_tbl : List Cond := k2_sels lw_privs ++ tables_1
theorem lw_privs_ok : ∀ q ∈ lw_privs, lw_okq q := by
  show ∀ q ∈ lw_privs_1 ++ (lw_privs_2), lw_okq q
  exact List.forall_mem_append.mpr ⟨lw_r1, lw_r2⟩
end
section
/-! ===== BEGIN words of one list among another's, by their places ===== -/
theorem goodIn_r {big : List Cond} (ws : List Cond) (ps : List Nat) (hp : ws = ps.filterMap (fun i => big[i]?)) (h : ws.all goodWord = true) : GoodIn big ws := by
  intro w hw
  have h1 := List.all_eq_true.mp h w hw
  rw [hp] at hw
  obtain ⟨i, -, hi⟩ := List.mem_filterMap.mp hw
  have hm : w ∈ big := by first | exact List.mem_of_getElem? hi | exact List.getElem?_mem hi
  exact ⟨hm, good_of_word h1⟩
theorem goodIn_app {big a b : List Cond} (ha : GoodIn big a) (hb : GoodIn big b) : GoodIn big (a ++ b) := fun w h => (List.mem_append.mp h).elim (ha w) (hb w)
theorem goodIn_ca {big a b : List Cond} {c : Cond} (ha : GoodIn big (c :: a)) (hb : GoodIn big b) : GoodIn big (c :: (a ++ b)) := fun w h => (List.mem_cons.mp h).elim (fun e => ha w (List.mem_cons.mpr (Or.inl e))) (fun h => (List.mem_append.mp h).elim (fun h => ha w (List.mem_cons.mpr (Or.inr h))) (hb w))
theorem goodIn_sub {big ws : List Cond} (hm : ∀ w ∈ ws, w ∈ big) (h : ws.all goodWord = true) : GoodIn big ws := fun w hw => ⟨hm w hw, good_of_word (List.all_eq_true.mp h w hw)⟩
/-! ===== END ===== -/

/-! ===== BEGIN exceptions that leave a method, and their catching by the caller (launches without stack traces) ===== -/
section VXA
/-! The laws vx_back, vx_callV, vx_callS, vx_callSW, vx_throw0, vx_throwS follow proofs of the library, with one case more: JvmDerived/Free/Laws.lean (Back.of_free), Shelf42/LK1.lean (callV, callS), Shelf/KitTraced.lean (throwNew0V, throwNewS). -/
/-- where a method has thrown q: the class by its name, the cell, what was written, the world -/
def vx_T (XC : String → State → State → Prop) (st : State) (q : Addr) (t : State) (mc ms : Nat) (free : Addr → Prop) : Prop :=
  ∃ (E : String) (ce : Cell) (L : List Loc), XC E st t ∧ t.heap[q]? = some ce ∧ ce.vm = .none ∧ st.vm.findClass E = some ce.cls ∧ st.WarmedH t.vm ∧ st.sameButNew ({ t with vm := st.vm } : State) L mc ms ∧ ∀ z ∈ L, free z.base
def vx_Q (Qc : Array Value → State → Outcome → State → Prop) (XC : String → State → State → Prop) (mc ms : Nat) (free : Addr → Prop) : Array Value → State → Outcome → State → Prop := fun a st o t =>
  (Qc a st o t ∧ ∃ L, FrameEnd st o t L mc ms ∧ ∀ q ∈ L, free q.base) ∨ ∃ q, o = .threw q ∧ vx_T XC st q t mc ms free
/-- a callee that returns or throws -/
def vx_Met (l : Launch) (y : MethodName) (ws : List Cond) (rm : Room) (Pc : Array Value → State → Prop) (Qc : Array Value → State → Outcome → State → Prop) (XC : String → State → State → Prop) (mc ms : Nat) (free : Addr → Prop) : Prop :=
  MetFree l y (headSpec ws rm) Pc (fun _ _ _ _ _ => True) (vx_Q Qc XC mc ms free)
def vx_Post (XC : String → State → State → Prop) (mc ms : Nat) (free : Addr → Prop) : Pt → Array Value → Addr → Pt → Prop := fun A a q B =>
  ∃ (g : JFrame) (mk : MethodId) (t : State) (L : List Loc) (E : String) (ce : Cell), B.U.heap = t.heap ∧ B.U.vm = t.vm ∧ XC E (A.U.calling g mk a) t ∧ t.heap[q]? = some ce ∧ ce.vm = .none ∧ A.U.vm.findClass E = some ce.cls ∧ B.locs = A.locs ++ L ∧ (∀ z ∈ L, free z.base) ∧ B.cells = A.cells + mc ∧ B.slots = A.slots + ms
def vx_Back (l : Launch) (R : Room) (p : Program) (e : Env) (below : List Frame) (s : State) (sargs : Array Value) (y : MethodName) (len W9 : Nat)
    (Pre : Pt → Array Value → Prop) (Post : Pt → Array Value → Option Value → Pt → Prop) (PostX : Pt → Array Value → Addr → Pt → Prop) : Prop :=
  ∀ (m : MethodId) (meth : Method) (c : Code) (A : Pt) (g : JFrame) (ig : Instr) (mk : MethodId) (a : Array Value),
    Stand p l e R s m sargs below meth c A.U A.locs A.cells A.slots → g.method = m → g.locals.size = c.maxLocals → decode c.code g.pc = .ok (ig, len) →
    2 * g.monitorRoom + (g.stack.map fun v => v.category).sum ≤ W9 → A.U.methodNamed? y = some mk → Pre A a →
    (∃ (v : Option Value) (B : Pt), Stand p l e R s m sargs below meth c B.U B.locs B.cells B.slots ∧ Post A a v B ∧
      Steps p.tables e below (doInvoke e (A.U.setTop g) [] mk a).1 (B.U.setTop { g with pc := g.pc + len, stack := v.toList ++ g.stack })) ∨
    (∃ (q : Addr) (B : Pt), Stand p l e R s m sargs below meth c B.U B.locs B.cells B.slots ∧ PostX A a q B ∧
      Steps p.tables e below (doInvoke e (A.U.setTop g) [] mk a).1 ((B.U.setTop g).pushFrame (.throwing q)))
section Payer
variable {l : Launch} {R : Room} {p : Program} {e : Env} {below : List Frame} {s : State} {sargs : Array Value} {y : MethodName} {len W9 : Nat}
theorem vx_back {ws : List Cond} {rm : Room} {Pc : Array Value → State → Prop} {Qc : Array Value → State → Outcome → State → Prop} {XC : String → State → State → Prop} {mc ms : Nat} {free : Addr → Prop} {bytes : ByteArray} {maxL : Nat} {ret : Option FieldType}
    (hM : vx_Met l y ws rm Pc Qc XC mc ms free) (hblind : FrameBlind Pc) (hrc : rm.cells = mc) (hrs : rm.slots = ms)
    (hframes : rm.frames + 1 ≤ R.frames) (hlocals : W9 + (maxL + 11) + rm.locals ≤ R.locals)
    (hws : ∀ w ∈ ws, ∀ a' U, s.WarmedH U.vm → w.before a' U = true) (hcode : Cond.code y bytes maxL ret ∈ ws) (hinit : ∀ a' U, s.WarmedH U.vm → (Cond.initialized y.cls).before a' U = true) :
    vx_Back l R p e below s sargs y len W9 (PreOf R mc ms Pc) (PostOf Qc mc ms free) (vx_Post XC mc ms free) := by
  intro m meth c A g ig mk a X hg hsize hdg hW hn hp
  have h1 : (headSpec ws rm).pre.before a A.U = true := atoms_intro fun w hw => hws w hw _ _ X.warmed
  have h2 : (Cond.code y bytes maxL ret).before a A.U = true := hws _ hcode _ _ X.warmed
  have h3 : (Cond.initialized y.cls).before a A.U = true := hinit _ _ X.warmed
  have h4 : A.cells + (headSpec ws rm).room.cells ≤ R.cells := by rw [show (headSpec ws rm).room.cells = mc from hrc]; exact hp.1
  have h5 : A.slots + (headSpec ws rm).room.slots ≤ R.slots := by rw [show (headSpec ws rm).room.slots = ms from hrs]; exact hp.2.1
  have hPc : Pc a (A.U.calling g mk a) := hblind _ _ _ _ hp.2.2
  obtain ⟨U, Ls, c0, s0⟩ := A
  dsimp only [Pt.U, Pt.locs, Pt.cells, Pt.slots] at h1 h2 h3 h4 h5 X hn hPc ⊢
  obtain ⟨methY, cY, hmY, hcY, -, hlY, -, -, -, -⟩ := Cond.code_spec hn h2
  obtain ⟨kY, hkY, -⟩ := className_of_methodNamed hn
  have hinitY : kY.init = .initialized := Cond.initialized_spec (findClass_of_methodNamed hn) hkY h3
  have h : At U g.method c below := by rw [hg]; exact X.here
  have hlocals9 : W9 + (maxL + 11) + (headSpec ws rm).room.locals ≤ R.locals := hlocals
  have happ : (headSpec ws rm).appliesLoose y e.platform (U.calling g mk a) = true :=
    Spec.appliesLoose_calling (g := g) h hdg hn hkY hinitY
      (X.room_calling (g := g) (R' := (headSpec ws rm).room) hsize hmY hcY hframes (by rw [hlY]; omega) h4 h5) h1
  obtain ⟨mid, hmid⟩ := h.above
  have hfr : (U.setTop g).frames = (.java g :: mid) ++ below := by rw [State.frames_setTop' g h.top, hmid]; rfl
  obtain ⟨o, s₂, hsteps, -, hend, hq⟩ := Steps.callFree hM p X.admits X.cas X.clock (acts := []) hfr happ hPc trivial
  have hq' : vx_Q Qc XC mc ms free a (U.calling g mk a) o s₂ := hq
  rw [State.frames_setTop' g h.top] at hend
  obtain ⟨g₀, hg0⟩ := Option.isSome_iff_exists.mp h.top
  obtain ⟨r, hr⟩ := State.topJava?_eq_some.mp hg0
  have hr' : (({ U with heap := s₂.heap, slotsUsed := s₂.slotsUsed } : State).setVm s₂.vm).frames = .java g₀ :: r := hr
  rcases hq' with ⟨hqc, L, hfe, hL⟩ | ⟨q, rfl, E, ce, L, hx, hce, hcv, hcl, hW₂, hsm, hL⟩
  · obtain ⟨⟨v, rfl⟩, hW₂, e2, q2, q3, q4, q5, q6⟩ := id hfe
    have e3 : s₂ = ({ (U.calling g mk a).setFrames s₂.frames with heap := s₂.heap, slotsUsed := s₂.slotsUsed } : State).setVm s₂.vm := by
      have : s₂ = ({ s₂ with vm := (U.calling g mk a).vm } : State).setVm s₂.vm := rfl
      rw [e2] at this
      exact this
    obtain ⟨c₂, i₂, len₂, hc₂, hd₂, hf₂⟩ := hend
    have hW' : U.WarmedH s₂.vm := hW₂
    have hcc : c₂ = c := by
      have h1 : s₂.code? g.method = U.code? g.method := by
        rw [State.code?_eq, State.code?_eq, hW'.alike.method?]
      exact Option.some.inj (hc₂.symm.trans (h1.trans h.code))
    subst hcc
    have hlen : len₂ = len := by rw [hdg] at hd₂; cases hd₂; rfl
    subst hlen
    have hs₂ : s₂ = (({ U with heap := s₂.heap, slotsUsed := s₂.slotsUsed } : State).setVm s₂.vm).setTop { g with pc := g.pc + len₂, stack := v.toList ++ g.stack } := by
      refine e3.trans ?_
      rw [hf₂, State.calling_eq h.top, State.setFrames_setFrames, State.setTop_of_frames _ hr', hr]
      rfl
    have hsame : U.sameButNew ({ U with heap := s₂.heap, slotsUsed := s₂.slotsUsed } : State) L mc ms := by
      refine ⟨?_, q2, q3, q4, q5, q6⟩
      obtain ⟨t, ht, -⟩ := State.frames_cons hr
      show ({ U with heap := s₂.heap, slotsUsed := s₂.slotsUsed } : State) = { U.setFrames U.frames with heap := s₂.heap, slotsUsed := s₂.slotsUsed }
      rw [State.setFrames_self ht]
    subst hg
    refine Or.inl ⟨v, ⟨(({ U with heap := s₂.heap, slotsUsed := s₂.slotsUsed } : State).setVm s₂.vm), Ls ++ L, c0 + mc, s0 + ms⟩,
      ⟨X.admits, X.cas, X.clock, X.frames, X.room, X.hears, X.method, X.code, (X.here.setHeapUsed s₂.heap s₂.slotsUsed).setVm hW'.alike, X.tail, State.WarmedH.trans X.warmed hW', X.limits, X.bytes, X.same.trans (hsame.setVm s.vm)⟩,
      ⟨g, mk, s₂, L, rfl, rfl, hqc, rfl, hL, rfl, rfl⟩, ?_⟩
    show Steps p.tables e below _ ((({ U with heap := s₂.heap, slotsUsed := s₂.slotsUsed } : State).setVm s₂.vm).setTop { g with pc := g.pc + len₂, stack := v.toList ++ g.stack })
    rw [← hs₂]
    exact hsteps
  · obtain ⟨e2, q2, q3, q4, q5, q6⟩ := id hsm
    have e3 : s₂ = ({ (U.calling g mk a).setFrames s₂.frames with heap := s₂.heap, slotsUsed := s₂.slotsUsed } : State).setVm s₂.vm := by
      have : s₂ = ({ s₂ with vm := (U.calling g mk a).vm } : State).setVm s₂.vm := rfl
      rw [e2] at this
      exact this
    have hf₂ : s₂.frames = .throwing q :: .java g :: U.frames.tail := hend
    have hW' : U.WarmedH s₂.vm := hW₂
    have hs₂ : s₂ = ((({ U with heap := s₂.heap, slotsUsed := s₂.slotsUsed } : State).setVm s₂.vm).setTop g).pushFrame (.throwing q) := by
      refine e3.trans ?_
      rw [hf₂, State.calling_eq h.top, State.setFrames_setFrames, State.pushFrame, State.frames_setTop _ hr', State.setTop_of_frames _ hr', State.setFrames_setFrames, hr]
      rfl
    have hsame : U.sameButNew ({ U with heap := s₂.heap, slotsUsed := s₂.slotsUsed } : State) L mc ms := by
      refine ⟨?_, q2, q3, q4, q5, q6⟩
      obtain ⟨t, ht, -⟩ := State.frames_cons hr
      show ({ U with heap := s₂.heap, slotsUsed := s₂.slotsUsed } : State) = { U.setFrames U.frames with heap := s₂.heap, slotsUsed := s₂.slotsUsed }
      rw [State.setFrames_self ht]
    subst hg
    refine Or.inr ⟨q, ⟨(({ U with heap := s₂.heap, slotsUsed := s₂.slotsUsed } : State).setVm s₂.vm), Ls ++ L, c0 + mc, s0 + ms⟩,
      ⟨X.admits, X.cas, X.clock, X.frames, X.room, X.hears, X.method, X.code, (X.here.setHeapUsed s₂.heap s₂.slotsUsed).setVm hW'.alike, X.tail, State.WarmedH.trans X.warmed hW', X.limits, X.bytes, X.same.trans (hsame.setVm s.vm)⟩,
      ⟨g, mk, s₂, L, E, ce, rfl, rfl, hx, hce, hcv, hcl, rfl, hL, rfl, rfl⟩, ?_⟩
    show Steps p.tables e below _ (((({ U with heap := s₂.heap, slotsUsed := s₂.slotsUsed } : State).setVm s₂.vm).setTop g).pushFrame (.throwing q))
    rw [← hs₂]
    exact hsteps
end Payer
section Calls
variable {p : Program} {l : Launch} {e : Env} {R : Room} {s : State} {m : MethodId} {args : Array Value} {below : List Frame} {meth : Method} {c : Code} {T : State} {locs : List Loc} {cells slots : Nat}
theorem vx_callV (X : Stand p l e R s m args below meth c T locs cells slots) (hexec : p.tables.exec = Jvm.exec) {own C : String} {index : Nat} {y : MethodName} {bytes : ByteArray} {maxL : Nat} {ret : Option FieldType}
    (hown : s.vm.findClass own = some m.cls) (hlink : (Cond.methodLink own index y).before args s = true) (hinst : (Cond.instanceMethod y).before args s = true) (hsel : (Cond.selects C y y).before args s = true)
    (hcode : (Cond.code y bytes maxL ret).before args s = true) (hy : y.cls ≠ "java/lang/invoke/MethodHandle" ∧ y.cls ≠ "java/lang/invoke/VarHandle")
    {W9 : Nat} {Pre : Pt → Array Value → Prop} {Post : Pt → Array Value → Option Value → Pt → Prop} {PostX : Pt → Array Value → Addr → Pt → Prop} (hK : vx_Back l R p e below s args y 3 W9 Pre Post PostX)
    {b : Addr} {cellB : Cell} (hcell : T.heap[b]? = some cellB) (hobj : cellB.vm.isStatics = false) (hcls : s.vm.findClass C = some cellB.cls)
    {g : JFrame} (hg : g.method = m) (hsize : g.locals.size = c.maxLocals) {argsL rest : List Value} (hlen : ∀ sig, parseMethodDescriptor y.desc = some sig → argsL.length = sig.parameters.length)
    (hstack : g.stack = argsL.reverse ++ .ref b :: rest) (hW : 2 * g.monitorRoom + (rest.map fun v => v.category).sum ≤ W9) (hdg : decode c.code g.pc = .ok (.invokevirtual index, 3))
    (hpre : ∀ vm₁, s.WarmedH vm₁ → Pre ⟨T.setVm vm₁, locs, cells, slots⟩ (Value.ref b :: argsL).toArray) :
    (∃ (v : Option Value) (vm₁ : Vm) (B : Pt), s.WarmedH vm₁ ∧ Stand p l e R s m args below meth c B.U B.locs B.cells B.slots ∧ Post ⟨T.setVm vm₁, locs, cells, slots⟩ (Value.ref b :: argsL).toArray v B ∧
      ∀ target, Steps p.tables e below (B.U.setTop { g with pc := g.pc + 3, stack := v.toList ++ rest }) target → Steps p.tables e below (T.setTop g) target) ∨
    (∃ (q : Addr) (vm₁ : Vm) (B : Pt), s.WarmedH vm₁ ∧ Stand p l e R s m args below meth c B.U B.locs B.cells B.slots ∧ PostX ⟨T.setVm vm₁, locs, cells, slots⟩ (Value.ref b :: argsL).toArray q B ∧
      Steps p.tables e below (T.setTop g) ((B.U.setTop { g with stack := rest }).pushFrame (.throwing q))) := by
  obtain ⟨mk, methM, hnamed, hmethM, hstM, habM⟩ := Cond.instanceMethod_spec hinst
  obtain ⟨methM', cM, hmethM', -, -, -, -, -, -, hsigM⟩ := Cond.code_spec hnamed hcode
  cases hmethM.symm.trans hmethM'
  obtain ⟨c2, r2, m2, q1, q2, q3, q4, kP, hkP, hkPi⟩ := Cond.selects_spec hsel
  cases hcls.symm.trans q1
  cases (State.methodFound?_of_named hnamed hy).symm.trans q2
  cases hnamed.symm.trans q3
  have hselP : selectMethod e.platform s.vm cellB.cls mk = .method mk := by rw [Launch.admits_selectMethod X.admits]; exact q4
  obtain ⟨vm₁, X₁, hstep₁⟩ := X.invokevirtual hexec hown hlink hnamed hmethM hstM hkP hkPi hy (a := b) (cell := cellB) hcell
    (fun z h => by rw [h] at hobj; cases hobj) hselP hmethM habM hkP hkPi (g := g) hg (argsL := argsL) (rest := rest) (hlen _ hsigM) hstack hdg
  rcases hK m meth c ⟨T.setVm vm₁, locs, cells, slots⟩ { g with stack := rest } (.invokevirtual index) mk (Value.ref b :: argsL).toArray X₁ hg hsize hdg hW (X₁.named hnamed) (hpre vm₁ X₁.warmed) with ⟨v, B, X', hpost, hsteps⟩ | ⟨q, B, X', hpost, hsteps⟩
  · exact Or.inl ⟨v, vm₁, B, X₁.warmed, X', hpost, fun target h => hstep₁ _ fun acts => by rw [doInvoke_state]; exact hsteps.trans h⟩
  · exact Or.inr ⟨q, vm₁, B, X₁.warmed, X', hpost, hstep₁ _ fun acts => by rw [doInvoke_state]; exact hsteps⟩
theorem vx_callS (X : Stand p l e R s m args below meth c T locs cells slots) (hexec : p.tables.exec = Jvm.exec) {own : String} {index : Nat} {y : MethodName} {bytes : ByteArray} {maxL : Nat} {ret : Option FieldType}
    (hown : s.vm.findClass own = some m.cls) (hlink : (Cond.methodLink own index y).before args s = true) (hstat : (Cond.static y).before args s = true) (hinit : (Cond.initialized y.cls).before args s = true)
    (hcode : (Cond.code y bytes maxL ret).before args s = true) (hy : y.cls ≠ "java/lang/invoke/MethodHandle" ∧ y.cls ≠ "java/lang/invoke/VarHandle")
    {W9 : Nat} {Pre : Pt → Array Value → Prop} {Post : Pt → Array Value → Option Value → Pt → Prop} {PostX : Pt → Array Value → Addr → Pt → Prop} (hK : vx_Back l R p e below s args y 3 W9 Pre Post PostX)
    {g : JFrame} (hg : g.method = m) (hsize : g.locals.size = c.maxLocals) {argsL rest : List Value} (hlen : ∀ sig, parseMethodDescriptor y.desc = some sig → argsL.length = sig.parameters.length)
    (hstack : g.stack = argsL.reverse ++ rest) (hW : 2 * g.monitorRoom + (rest.map fun v => v.category).sum ≤ W9) (hdg : decode c.code g.pc = .ok (.invokestatic index, 3))
    (hpre : ∀ vm₁, s.WarmedH vm₁ → Pre ⟨T.setVm vm₁, locs, cells, slots⟩ argsL.toArray) :
    (∃ (v : Option Value) (vm₁ : Vm) (B : Pt), s.WarmedH vm₁ ∧ Stand p l e R s m args below meth c B.U B.locs B.cells B.slots ∧ Post ⟨T.setVm vm₁, locs, cells, slots⟩ argsL.toArray v B ∧
      ∀ target, Steps p.tables e below (B.U.setTop { g with pc := g.pc + 3, stack := v.toList ++ rest }) target → Steps p.tables e below (T.setTop g) target) ∨
    (∃ (q : Addr) (vm₁ : Vm) (B : Pt), s.WarmedH vm₁ ∧ Stand p l e R s m args below meth c B.U B.locs B.cells B.slots ∧ PostX ⟨T.setVm vm₁, locs, cells, slots⟩ argsL.toArray q B ∧
      Steps p.tables e below (T.setTop g) ((B.U.setTop { g with stack := rest }).pushFrame (.throwing q))) := by
  obtain ⟨mk, hnamed⟩ := Cond.code_named hcode
  obtain ⟨methM, cM, hmethM, -, -, -, -, -, -, hsigM⟩ := Cond.code_spec hnamed hcode
  have hstatic : methM.isStatic = true := Cond.static_spec hnamed hmethM hstat
  obtain ⟨kP, hkP, -⟩ := className_of_methodNamed hnamed
  have hinitP : kP.init = .initialized := Cond.initialized_spec (findClass_of_methodNamed hnamed) hkP hinit
  obtain ⟨vm₁, X₁, hstep₁⟩ := X.invokestatic hexec hown hlink hnamed hmethM hstatic hkP hinitP hy (g := g) hg (argsL := argsL) (rest := rest) (hlen _ hsigM) hstack hdg
  rcases hK m meth c ⟨T.setVm vm₁, locs, cells, slots⟩ { g with stack := rest } (.invokestatic index) mk argsL.toArray X₁ hg hsize hdg hW (X₁.named hnamed) (hpre vm₁ X₁.warmed) with ⟨v, B, X', hpost, hsteps⟩ | ⟨q, B, X', hpost, hsteps⟩
  · exact Or.inl ⟨v, vm₁, B, X₁.warmed, X', hpost, fun target h => hstep₁ _ fun acts => by rw [doInvoke_state]; exact hsteps.trans h⟩
  · exact Or.inr ⟨q, vm₁, B, X₁.warmed, X', hpost, hstep₁ _ fun acts => by rw [doInvoke_state]; exact hsteps⟩
end Calls
theorem vx_cls {s : State} {T : State} {vm₁ : Vm} {E : String} {k : ClassId} (hW : s.WarmedH vm₁) (h : (T.setVm vm₁).vm.findClass E = some k) : s.vm.findClass E = some k := by
  have h1 : vm₁.findClass E = some k := h
  rw [hW.alike.findClass] at h1
  exact h1
/-- the method's frame g, with q thrown over it -/
def vx_W (p : Program) (l : Launch) (e : Env) (R : Room) (s : State) (m : MethodId) (args : Array Value) (below : List Frame) (meth : Method) (c : Code) (H : Heap) (locs : List Loc) (cells slots : Nat) (Q : State → Prop) (g : JFrame) (q : Addr) : Prop :=
  ∀ T : State, T.heap = H → Stand p l e R s m args below meth c T locs cells slots → ∃ t, Steps p.tables e below ((T.setTop g).pushFrame (.throwing q)) t ∧ Q t
def vx_Run (p : Program) (l : Launch) (e : Env) (R : Room) (s : State) (m : MethodId) (args : Array Value) (below : List Frame) (meth : Method) (c : Code) (H : Heap) (locs : List Loc) (cells slots mc ms : Nat) (g : JFrame) (rest : List Value) (Qa : State → Outcome → State → Prop) (XC : String → State → State → Prop) (free : Addr → Prop) : Prop :=
  ∀ T : State, T.heap = H → Stand p l e R s m args below meth c T locs cells slots →
    (∃ (v : Option Value) (st₀ t T' : State) (L : List Loc), st₀.heap = H ∧ Stand p l e R s m args below meth c T' (locs ++ L) (cells + mc) (slots + ms) ∧ (∀ q ∈ L, free q.base) ∧ T'.heap = t.heap ∧ T'.vm = t.vm ∧ Qa st₀ (.returned v) t ∧
      Goes p e below T g T' { g with pc := g.pc + 3, stack := v.toList ++ rest }) ∨
    (∃ (q : Addr) (st₀ t T' : State) (L : List Loc) (E : String) (ce : Cell), st₀.heap = H ∧ Stand p l e R s m args below meth c T' (locs ++ L) (cells + mc) (slots + ms) ∧ (∀ z ∈ L, free z.base) ∧ T'.heap = t.heap ∧ T'.vm = t.vm ∧ XC E st₀ t ∧ t.heap[q]? = some ce ∧ ce.vm = .none ∧ s.vm.findClass E = some ce.cls ∧
      Steps p.tables e below (T.setTop g) ((T'.setTop { g with stack := rest }).pushFrame (.throwing q)))
def vx_X {S : Type} (px : S → Prop) (B : String → S → State → Prop) (A : Nat → Prop) : String → State → State → Prop := fun E st t => ∃ u : S, px u ∧ B E u t ∧ va_F A st t
section Runs
variable {p : Program} {l : Launch} {e : Env} {R : Room} {s : State} {m : MethodId} {args : Array Value} {below : List Frame} {meth : Method} {c : Code} {H : Heap} {locs : List Loc} {cells slots : Nat}
variable {y : MethodName} {bytes cc : ByteArray} {maxL nL mc ms n index : Nat} {ret : Option FieldType} {ws : List Cond} {rm : Room} {Pc : Array Value → State → Prop} {Qc : Array Value → State → Outcome → State → Prop} {XC : String → State → State → Prop} {free : Addr → Prop} {Ts : List Cond} {own C : String} {b : Addr} {As rest : List Value} {g : JFrame}
theorem vx_callBack (cb : CallB R s args own index y bytes maxL ret ws rm mc ms n) (hM : vx_Met l y ws rm Pc Qc XC mc ms free) (hbl : FrameBlind Pc) : vx_Back l R p e below s args y 3 8 (PreOf R mc ms Pc) (PostOf Qc mc ms free) (vx_Post XC mc ms free) := by
  obtain ⟨hrc, hrs, hfr, hlo, hws, hcw, -, hini, -⟩ := cb
  exact vx_back (bytes := bytes) (maxL := maxL) (ret := ret) hM hbl hrc hrs hfr hlo hws hcw (fun a' U hW => word_at hW (Or.inl (by first | rfl | simp [Cond.onTables, Cond.keeps, Cond.steady])) hini)
theorem vx_runV (S : CallFix p m c cc nL s args Ts own) (hM : vx_Met l y ws rm Pc Qc XC mc ms free) (cw : CallW R s args own C index y bytes maxL ret ws rm mc ms n) (hp : PreV s H C b Pc As)
    (hg : g.method = m) (hn : As.length = n) (hsize : g.locals.size = nL) (hstack : g.stack = As.reverse ++ .ref b :: rest) (hW : 2 * g.monitorRoom + (rest.map fun v => v.category).sum ≤ 8) (hdg : decode cc g.pc = .ok (.invokevirtual index, 3)) (hf : cells + mc ≤ R.cells ∧ slots + ms ≤ R.slots) :
    vx_Run p l e R s m args below meth c H locs cells slots mc ms g rest (Qc (Value.ref b :: As).toArray) XC free := by
  have hK : vx_Back l R p e below s args y 3 8 (PreOf R mc ms Pc) (PostOf Qc mc ms free) (vx_Post XC mc ms free) := vx_callBack cw.1 hM hp.1
  obtain ⟨⟨-, -, -, -, -, -, hcode, -, hy, hlen, hl⟩, hin, hse⟩ := cw
  obtain ⟨hx, hb, hml, ho, -⟩ := S
  obtain ⟨-, ⟨cellB, hcB, hoB, hclB⟩, hPc⟩ := hp
  intro T hT X
  rcases vx_callV X hx (C := C) (bytes := bytes) (maxL := maxL) (ret := ret) ho hl hin hse hcode hy hK (by rw [hT]; exact hcB) hoB hclB hg (hsize.trans hml.symm) (argsL := As) (rest := rest) (fun sig h => hn.trans (hlen sig h)) hstack hW (by rw [hb]; exact hdg)
    (fun vm₁ hW₁ => ⟨hf.1, hf.2, hPc (T.setVm vm₁) hT hW₁⟩) with ⟨v, vm₁, ⟨U', l2, c2, s2⟩, hW₁, X', ⟨g', mk, t, L, e1, e2, hq, h1, hL, h2, h3⟩, st⟩ | ⟨q, vm₁, ⟨U', l2, c2, s2⟩, hW₁, X', ⟨g', mk, t, L, E, ce, e1, e2, hq, hce, hcv, hcl, h1, hL, h2, h3⟩, st⟩
  · dsimp only [Pt.U, Pt.locs, Pt.cells, Pt.slots] at X' e1 e2 h1 h2 h3 st
    subst h1; subst h2; subst h3
    exact Or.inl ⟨v, (T.setVm vm₁).calling g' mk (Value.ref b :: As).toArray, t, U', L, hT, X', hL, e1, e2, hq, st⟩
  · dsimp only [Pt.U, Pt.locs, Pt.cells, Pt.slots] at X' e1 e2 h1 h2 h3 st hcl
    subst h1; subst h2; subst h3
    exact Or.inr ⟨q, (T.setVm vm₁).calling g' mk (Value.ref b :: As).toArray, t, U', L, E, ce, hT, X', hL, e1, e2, hq, hce, hcv, vx_cls hW₁ hcl, st⟩
theorem vx_runS (S : CallFix p m c cc nL s args Ts own) (hM : vx_Met l y ws rm Pc Qc XC mc ms free) (cw : CallB R s args own index y bytes maxL ret ws rm mc ms n ∧ (Cond.static y).before args s = true) (hp : PreS s H Pc As)
    (hg : g.method = m) (hn : As.length = n) (hsize : g.locals.size = nL) (hstack : g.stack = As.reverse ++ rest) (hW : 2 * g.monitorRoom + (rest.map fun v => v.category).sum ≤ 8) (hdg : decode cc g.pc = .ok (.invokestatic index, 3)) (hf : cells + mc ≤ R.cells ∧ slots + ms ≤ R.slots) :
    vx_Run p l e R s m args below meth c H locs cells slots mc ms g rest (Qc As.toArray) XC free := by
  have hK : vx_Back l R p e below s args y 3 8 (PreOf R mc ms Pc) (PostOf Qc mc ms free) (vx_Post XC mc ms free) := vx_callBack cw.1 hM hp.1
  obtain ⟨⟨-, -, -, -, -, -, hcode, hini, hy, hlen, hl⟩, hstt⟩ := cw
  obtain ⟨hx, hb, hml, ho, -⟩ := S
  intro T hT X
  rcases vx_callS X hx (bytes := bytes) (maxL := maxL) (ret := ret) ho hl hstt hini hcode hy hK hg (hsize.trans hml.symm) (argsL := As) (rest := rest) (fun sig h => hn.trans (hlen sig h)) hstack hW (by rw [hb]; exact hdg)
    (fun vm₁ hW₁ => ⟨hf.1, hf.2, hp.2 (T.setVm vm₁) hT hW₁⟩) with ⟨v, vm₁, ⟨U', l2, c2, s2⟩, hW₁, X', ⟨g', mk, t, L, e1, e2, hq, h1, hL, h2, h3⟩, st⟩ | ⟨q, vm₁, ⟨U', l2, c2, s2⟩, hW₁, X', ⟨g', mk, t, L, E, ce, e1, e2, hq, hce, hcv, hcl, h1, hL, h2, h3⟩, st⟩
  · dsimp only [Pt.U, Pt.locs, Pt.cells, Pt.slots] at X' e1 e2 h1 h2 h3 st
    subst h1; subst h2; subst h3
    exact Or.inl ⟨v, (T.setVm vm₁).calling g' mk As.toArray, t, U', L, hT, X', hL, e1, e2, hq, st⟩
  · dsimp only [Pt.U, Pt.locs, Pt.cells, Pt.slots] at X' e1 e2 h1 h2 h3 st hcl
    subst h1; subst h2; subst h3
    exact Or.inr ⟨q, (T.setVm vm₁).calling g' mk As.toArray, t, U', L, E, ce, hT, X', hL, e1, e2, hq, hce, hcv, vx_cls hW₁ hcl, st⟩
end Runs
section Rows
variable {p : Program} {l : Launch} {e : Env} {R : Room} {s : State} {m : MethodId} {args : Array Value} {below : List Frame} {meth : Method} {c : Code} {H : Heap} {locs : List Loc} {cells slots : Nat} {Q : State → Prop}
variable {mc ms : Nat} {free : Addr → Prop} {A0 A1 : Nat → Prop} {H0 : Heap} {a : Array Value} {pc : Nat} {ls : Array Slot} {st0 rest : List Value}
theorem vx_keep {st₀ t T' : State} {L : List Loc} (h0 : st₀.heap = H) (e1 : T'.heap = t.heap) (hS : va_S A0 H0 H locs) (hA : ∀ q, q < H.size → A1 q → A0 q) (hf : ∀ q, free q → A0 q) (hL : ∀ q ∈ L, free q.base) (hF : va_F A1 st₀ t) :
    H.size ≤ T'.heap.size ∧ (∀ q : Nat, q < H.size → ¬ A1 q → T'.heap[q]? = H[q]?) ∧ va_S A0 H0 T'.heap (locs ++ L) := by
  obtain ⟨hz, hk⟩ := hF
  rw [h0] at hz hk
  exact ⟨by rw [e1]; exact hz, fun q h1 h2 => by rw [e1]; exact hk q h1 h2,
    ⟨Nat.le_trans hS.1 (by rw [e1]; exact hz), fun q h1 h2 => by rw [e1, hk q (Nat.lt_of_lt_of_le h1 hS.1) (fun z => h2 (hA q (Nat.lt_of_lt_of_le h1 hS.1) z))]; exact hS.2.1 q h1 h2, fun q hq => by
      rcases List.mem_append.mp hq with h | h
      · exact hS.2.2 q h
      · exact hf _ (hL q h)⟩⟩
theorem vx_calli {S SX : Type} {post : Int32 → S → Prop} {px : SX → Prop} {B : S → State → Prop} {BX : String → SX → State → Prop} {AX : Nat → Prop} (hr : vx_Run p l e R s m args below meth c H locs cells slots mc ms (F0 m pc ls st0) rest (va_Qi post B A1 a) (vx_X px BX AX) free) (hS : va_S A0 H0 H locs) (hA : ∀ q, q < H.size → A1 q → A0 q) (hf : ∀ q, free q → A0 q) (hAX : ∀ q, q < H.size → AX q → A0 q)
    (kx : ∀ (E : String) (ce : Cell) (q9 : Addr) (u : SX) (t : State) (H1 : Heap) (locs1 : List Loc), t.heap = H1 → s.vm.Alike t.vm → px u → BX E u t → H.size ≤ H1.size → (∀ q : Nat, q < H.size → ¬ AX q → H1[q]? = H[q]?) → va_S A0 H0 H1 locs1 → H1[q9]? = some ce → ce.vm = .none → s.vm.findClass E = some ce.cls → vx_W p l e R s m args below meth c H1 locs1 (cells + mc) (slots + ms) Q (F0 m pc ls rest) q9)
    (kk : ∀ (r : Int32) (u : S) (t : State) (H1 : Heap) (locs1 : List Loc), t.heap = H1 → s.vm.Alike t.vm → post r u → B u t → H.size ≤ H1.size → (∀ q : Nat, q < H.size → ¬ A1 q → H1[q]? = H[q]?) → va_S A0 H0 H1 locs1 → W p l e R s m args below meth c H1 locs1 (cells + mc) (slots + ms) Q (F0 m (pc + 3) ls (.int r :: rest))) : W p l e R s m args below meth c H locs cells slots Q (F0 m pc ls st0) := by
  intro T hT X
  rcases hr T hT X with ⟨v, st₀, t, T', L, h0, X', hL, e1, e2, ⟨⟨r, u, hv, hp, hb⟩, hF⟩, st⟩ | ⟨q, st₀, t, T', L, E, ce, h0, X', hL, e1, e2, ⟨u, hp, hb, hF⟩, hce, hcv, hcl, st⟩
  · cases hv
    obtain ⟨k1, k2, k3⟩ := vx_keep h0 e1 hS hA hf hL hF
    obtain ⟨t2, a1, b1⟩ := kk r u t T'.heap (locs ++ L) e1.symm (by rw [← e2]; exact X'.warmed.alike) hp hb k1 k2 k3 T' rfl X'
    exact ⟨t2, st t2 a1, b1⟩
  · obtain ⟨k1, k2, k3⟩ := vx_keep h0 e1 hS hAX hf hL hF
    obtain ⟨t2, a1, b1⟩ := kx E ce q u t T'.heap (locs ++ L) e1.symm (by rw [← e2]; exact X'.warmed.alike) hp hb k1 k2 k3 (by rw [e1]; exact hce) hcv hcl T' rfl X'
    exact ⟨t2, st.trans a1, b1⟩
theorem vx_calll {S SX : Type} {post : Int64 → S → Prop} {px : SX → Prop} {B : S → State → Prop} {BX : String → SX → State → Prop} {AX : Nat → Prop} (hr : vx_Run p l e R s m args below meth c H locs cells slots mc ms (F0 m pc ls st0) rest (va_Ql post B A1 a) (vx_X px BX AX) free) (hS : va_S A0 H0 H locs) (hA : ∀ q, q < H.size → A1 q → A0 q) (hf : ∀ q, free q → A0 q) (hAX : ∀ q, q < H.size → AX q → A0 q)
    (kx : ∀ (E : String) (ce : Cell) (q9 : Addr) (u : SX) (t : State) (H1 : Heap) (locs1 : List Loc), t.heap = H1 → s.vm.Alike t.vm → px u → BX E u t → H.size ≤ H1.size → (∀ q : Nat, q < H.size → ¬ AX q → H1[q]? = H[q]?) → va_S A0 H0 H1 locs1 → H1[q9]? = some ce → ce.vm = .none → s.vm.findClass E = some ce.cls → vx_W p l e R s m args below meth c H1 locs1 (cells + mc) (slots + ms) Q (F0 m pc ls rest) q9)
    (kk : ∀ (r : Int64) (u : S) (t : State) (H1 : Heap) (locs1 : List Loc), t.heap = H1 → s.vm.Alike t.vm → post r u → B u t → H.size ≤ H1.size → (∀ q : Nat, q < H.size → ¬ A1 q → H1[q]? = H[q]?) → va_S A0 H0 H1 locs1 → W p l e R s m args below meth c H1 locs1 (cells + mc) (slots + ms) Q (F0 m (pc + 3) ls (.long r :: rest))) : W p l e R s m args below meth c H locs cells slots Q (F0 m pc ls st0) := by
  intro T hT X
  rcases hr T hT X with ⟨v, st₀, t, T', L, h0, X', hL, e1, e2, ⟨⟨r, u, hv, hp, hb⟩, hF⟩, st⟩ | ⟨q, st₀, t, T', L, E, ce, h0, X', hL, e1, e2, ⟨u, hp, hb, hF⟩, hce, hcv, hcl, st⟩
  · cases hv
    obtain ⟨k1, k2, k3⟩ := vx_keep h0 e1 hS hA hf hL hF
    obtain ⟨t2, a1, b1⟩ := kk r u t T'.heap (locs ++ L) e1.symm (by rw [← e2]; exact X'.warmed.alike) hp hb k1 k2 k3 T' rfl X'
    exact ⟨t2, st t2 a1, b1⟩
  · obtain ⟨k1, k2, k3⟩ := vx_keep h0 e1 hS hAX hf hL hF
    obtain ⟨t2, a1, b1⟩ := kx E ce q u t T'.heap (locs ++ L) e1.symm (by rw [← e2]; exact X'.warmed.alike) hp hb k1 k2 k3 (by rw [e1]; exact hce) hcv hcl T' rfl X'
    exact ⟨t2, st.trans a1, b1⟩
theorem vx_callf {S SX : Type} {post : UInt32 → S → Prop} {px : SX → Prop} {B : S → State → Prop} {BX : String → SX → State → Prop} {AX : Nat → Prop} (hr : vx_Run p l e R s m args below meth c H locs cells slots mc ms (F0 m pc ls st0) rest (va_Qf post B A1 a) (vx_X px BX AX) free) (hS : va_S A0 H0 H locs) (hA : ∀ q, q < H.size → A1 q → A0 q) (hf : ∀ q, free q → A0 q) (hAX : ∀ q, q < H.size → AX q → A0 q)
    (kx : ∀ (E : String) (ce : Cell) (q9 : Addr) (u : SX) (t : State) (H1 : Heap) (locs1 : List Loc), t.heap = H1 → s.vm.Alike t.vm → px u → BX E u t → H.size ≤ H1.size → (∀ q : Nat, q < H.size → ¬ AX q → H1[q]? = H[q]?) → va_S A0 H0 H1 locs1 → H1[q9]? = some ce → ce.vm = .none → s.vm.findClass E = some ce.cls → vx_W p l e R s m args below meth c H1 locs1 (cells + mc) (slots + ms) Q (F0 m pc ls rest) q9)
    (kk : ∀ (r : UInt32) (u : S) (t : State) (H1 : Heap) (locs1 : List Loc), t.heap = H1 → s.vm.Alike t.vm → post r u → B u t → H.size ≤ H1.size → (∀ q : Nat, q < H.size → ¬ A1 q → H1[q]? = H[q]?) → va_S A0 H0 H1 locs1 → W p l e R s m args below meth c H1 locs1 (cells + mc) (slots + ms) Q (F0 m (pc + 3) ls (.float r :: rest))) : W p l e R s m args below meth c H locs cells slots Q (F0 m pc ls st0) := by
  intro T hT X
  rcases hr T hT X with ⟨v, st₀, t, T', L, h0, X', hL, e1, e2, ⟨⟨r, u, hv, hp, hb⟩, hF⟩, st⟩ | ⟨q, st₀, t, T', L, E, ce, h0, X', hL, e1, e2, ⟨u, hp, hb, hF⟩, hce, hcv, hcl, st⟩
  · cases hv
    obtain ⟨k1, k2, k3⟩ := vx_keep h0 e1 hS hA hf hL hF
    obtain ⟨t2, a1, b1⟩ := kk r u t T'.heap (locs ++ L) e1.symm (by rw [← e2]; exact X'.warmed.alike) hp hb k1 k2 k3 T' rfl X'
    exact ⟨t2, st t2 a1, b1⟩
  · obtain ⟨k1, k2, k3⟩ := vx_keep h0 e1 hS hAX hf hL hF
    obtain ⟨t2, a1, b1⟩ := kx E ce q u t T'.heap (locs ++ L) e1.symm (by rw [← e2]; exact X'.warmed.alike) hp hb k1 k2 k3 (by rw [e1]; exact hce) hcv hcl T' rfl X'
    exact ⟨t2, st.trans a1, b1⟩
theorem vx_calld {S SX : Type} {post : UInt64 → S → Prop} {px : SX → Prop} {B : S → State → Prop} {BX : String → SX → State → Prop} {AX : Nat → Prop} (hr : vx_Run p l e R s m args below meth c H locs cells slots mc ms (F0 m pc ls st0) rest (va_Qd post B A1 a) (vx_X px BX AX) free) (hS : va_S A0 H0 H locs) (hA : ∀ q, q < H.size → A1 q → A0 q) (hf : ∀ q, free q → A0 q) (hAX : ∀ q, q < H.size → AX q → A0 q)
    (kx : ∀ (E : String) (ce : Cell) (q9 : Addr) (u : SX) (t : State) (H1 : Heap) (locs1 : List Loc), t.heap = H1 → s.vm.Alike t.vm → px u → BX E u t → H.size ≤ H1.size → (∀ q : Nat, q < H.size → ¬ AX q → H1[q]? = H[q]?) → va_S A0 H0 H1 locs1 → H1[q9]? = some ce → ce.vm = .none → s.vm.findClass E = some ce.cls → vx_W p l e R s m args below meth c H1 locs1 (cells + mc) (slots + ms) Q (F0 m pc ls rest) q9)
    (kk : ∀ (r : UInt64) (u : S) (t : State) (H1 : Heap) (locs1 : List Loc), t.heap = H1 → s.vm.Alike t.vm → post r u → B u t → H.size ≤ H1.size → (∀ q : Nat, q < H.size → ¬ A1 q → H1[q]? = H[q]?) → va_S A0 H0 H1 locs1 → W p l e R s m args below meth c H1 locs1 (cells + mc) (slots + ms) Q (F0 m (pc + 3) ls (.double r :: rest))) : W p l e R s m args below meth c H locs cells slots Q (F0 m pc ls st0) := by
  intro T hT X
  rcases hr T hT X with ⟨v, st₀, t, T', L, h0, X', hL, e1, e2, ⟨⟨r, u, hv, hp, hb⟩, hF⟩, st⟩ | ⟨q, st₀, t, T', L, E, ce, h0, X', hL, e1, e2, ⟨u, hp, hb, hF⟩, hce, hcv, hcl, st⟩
  · cases hv
    obtain ⟨k1, k2, k3⟩ := vx_keep h0 e1 hS hA hf hL hF
    obtain ⟨t2, a1, b1⟩ := kk r u t T'.heap (locs ++ L) e1.symm (by rw [← e2]; exact X'.warmed.alike) hp hb k1 k2 k3 T' rfl X'
    exact ⟨t2, st t2 a1, b1⟩
  · obtain ⟨k1, k2, k3⟩ := vx_keep h0 e1 hS hAX hf hL hF
    obtain ⟨t2, a1, b1⟩ := kx E ce q u t T'.heap (locs ++ L) e1.symm (by rw [← e2]; exact X'.warmed.alike) hp hb k1 k2 k3 (by rw [e1]; exact hce) hcv hcl T' rfl X'
    exact ⟨t2, st.trans a1, b1⟩
theorem vx_callv {S SX : Type} {post : S → Prop} {px : SX → Prop} {B : S → State → Prop} {BX : String → SX → State → Prop} {AX : Nat → Prop} (hr : vx_Run p l e R s m args below meth c H locs cells slots mc ms (F0 m pc ls st0) rest (va_Qv post B A1 a) (vx_X px BX AX) free) (hS : va_S A0 H0 H locs) (hA : ∀ q, q < H.size → A1 q → A0 q) (hf : ∀ q, free q → A0 q) (hAX : ∀ q, q < H.size → AX q → A0 q)
    (kx : ∀ (E : String) (ce : Cell) (q9 : Addr) (u : SX) (t : State) (H1 : Heap) (locs1 : List Loc), t.heap = H1 → s.vm.Alike t.vm → px u → BX E u t → H.size ≤ H1.size → (∀ q : Nat, q < H.size → ¬ AX q → H1[q]? = H[q]?) → va_S A0 H0 H1 locs1 → H1[q9]? = some ce → ce.vm = .none → s.vm.findClass E = some ce.cls → vx_W p l e R s m args below meth c H1 locs1 (cells + mc) (slots + ms) Q (F0 m pc ls rest) q9)
    (kk : ∀ (u : S) (t : State) (H1 : Heap) (locs1 : List Loc), t.heap = H1 → s.vm.Alike t.vm → post u → B u t → H.size ≤ H1.size → (∀ q : Nat, q < H.size → ¬ A1 q → H1[q]? = H[q]?) → va_S A0 H0 H1 locs1 → W p l e R s m args below meth c H1 locs1 (cells + mc) (slots + ms) Q (F0 m (pc + 3) ls (rest))) : W p l e R s m args below meth c H locs cells slots Q (F0 m pc ls st0) := by
  intro T hT X
  rcases hr T hT X with ⟨v, st₀, t, T', L, h0, X', hL, e1, e2, ⟨⟨u, hv, hp, hb⟩, hF⟩, st⟩ | ⟨q, st₀, t, T', L, E, ce, h0, X', hL, e1, e2, ⟨u, hp, hb, hF⟩, hce, hcv, hcl, st⟩
  · cases hv
    obtain ⟨k1, k2, k3⟩ := vx_keep h0 e1 hS hA hf hL hF
    obtain ⟨t2, a1, b1⟩ := kk u t T'.heap (locs ++ L) e1.symm (by rw [← e2]; exact X'.warmed.alike) hp hb k1 k2 k3 T' rfl X'
    exact ⟨t2, st t2 a1, b1⟩
  · obtain ⟨k1, k2, k3⟩ := vx_keep h0 e1 hS hAX hf hL hF
    obtain ⟨t2, a1, b1⟩ := kx E ce q u t T'.heap (locs ++ L) e1.symm (by rw [← e2]; exact X'.warmed.alike) hp hb k1 k2 k3 (by rw [e1]; exact hce) hcv hcl T' rfl X'
    exact ⟨t2, st.trans a1, b1⟩
/-- caught by the row x of this method's table; the rows ahead don't take it -/
theorem vx_catch {own name : String} {E : String} {ce : Cell} {q : Addr} (hown : s.vm.findClass own = some m.cls) (pre : List ExceptionTableEntry) (x : ExceptionTableEntry) (suf : List ExceptionTableEntry) (hsplit : c.exceptionTable.toList = pre ++ x :: suf)
    (hpass : ∀ z ∈ pre, covers z pc = false ∨ (z.catchType ≠ 0 ∧ ∃ nm : String, (Cond.classLink own z.catchType nm).before args s = true ∧ va_Nc E nm s)) (hx : covers x pc = true) (h0 : x.catchType ≠ 0)
    (hlink : (Cond.classLink own x.catchType name).before args s = true) (hcast : (Cond.castable E name).before args s = true) (hcell : H[q]? = some ce) (hv : ce.vm = .none) (hcl : s.vm.findClass E = some ce.cls)
    (kk : W p l e R s m args below meth c H locs cells slots Q (F0 m x.handlerPc ls [.ref q])) : vx_W p l e R s m args below meth c H locs cells slots Q (F0 m pc ls rest) q := by
  intro T hT X
  have hpl : e.platform.magicAccessors = ({} : Platform).magicAccessors := by rw [X.admits.platform]
  obtain ⟨c3, c4, hc3, hc4, hasg⟩ := Cond.castable_spec hcast
  cases Option.some.inj (hc3.symm.trans hcl)
  obtain ⟨c5, hc5, hcl5⟩ := Cond.classLink_spec hown hlink e.platform hpl
  cases Option.some.inj (hc4.symm.trans hc5)
  obtain ⟨vm', X', st⟩ := X.thenCaughtThrough q (g := F0 m pc ls rest) rfl (Steps.refl _) (by rw [hT]; exact hcell) (by rw [hv]; rfl) (by obtain ⟨k9, h9, -⟩ := Vm.findClass_spec hcl; exact ⟨k9, h9⟩) pre x suf hsplit
    (fun z hz => by
      rcases hpass z hz with h | ⟨hz0, nm, hl1, hn1⟩
      · exact Or.inl h
      · obtain ⟨c6, hc6, hcl6⟩ := Cond.classLink_spec hown hl1 e.platform hpl
        obtain ⟨a8, b8, h1, h2, h3⟩ := hn1
        cases Option.some.inj (h1.symm.trans hcl)
        cases Option.some.inj (h2.symm.trans hc6)
        exact Or.inr ⟨hz0, _, hcl6, h3⟩) hx (Or.inr ⟨h0, c4, hcl5, hasg⟩)
  obtain ⟨t, a1, b1⟩ := kk (T.setVm vm') hT X'
  exact ⟨t, st.trans a1, b1⟩
end Rows
section Ends
variable {p : Program} {l : Launch} {e : Env} {R : Room} {s : State} {m : MethodId} {args : Array Value} {below : List Frame} {meth : Method} {c : Code} {H : Heap} {locs : List Loc} {cells slots : Nat} {Q : State → Prop}
variable {mc ms : Nat} {free : Addr → Prop} {A0 A1 : Nat → Prop} {H0 : Heap} {a : Array Value} {ls : Array Slot} {st0 rest : List Value}
variable {Qc : Array Value → State → Outcome → State → Prop} {XC : String → State → State → Prop}
/-- what a body that may throw owes at its end -/
def vx_MQ (below : List Frame) (Qc : Array Value → State → Outcome → State → Prop) (XC : String → State → State → Prop) (a : Array Value) (s : State) (mc ms : Nat) (free : Addr → Prop) : State → Prop := fun t =>
  ∃ o, t.status = .running ∧ Ended t below o ∧ vx_Q Qc XC mc ms free a s o t
theorem vx_ret {g : JFrame} {mc ms : Nat} (k : W p l e R s m args below meth c H locs cells slots (MQ below Qc args s mc ms free) g) : W p l e R s m args below meth c H locs cells slots (vx_MQ below Qc XC args s mc ms free) g := by
  intro T hT X
  obtain ⟨t, a1, o, b1, b2, b3, b4⟩ := k T hT X
  exact ⟨t, a1, o, b1, b2, Or.inl ⟨b3, b4⟩⟩
/-- not caught here: it goes on to the caller -/
theorem vx_widen {g : JFrame} {q : Addr} {k n : Nat} (h1 : cells ≤ k) (h2 : slots ≤ n) (kk : vx_W p l e R s m args below meth c H locs k n Q g q) : vx_W p l e R s m args below meth c H locs cells slots Q g q := fun T hT X => kk T hT (stand_widen X h1 h2)
theorem vx_out {pc : Nat} {E : String} {ce : Cell} {q : Addr} {mc ms : Nat} (hout : ∀ x ∈ c.exceptionTable.toList, covers x pc = false) (hlocks : meth.locks = false) (hcell : H[q]? = some ce) (hv : ce.vm = .none) (hcl : s.vm.findClass E = some ce.cls)
    (hx : ∀ t : State, t.heap = H → s.vm.Alike t.vm → XC E s t) (hf : ∀ z ∈ locs, free z.base) (hc : cells ≤ mc) (hs : slots ≤ ms) :
    vx_W p l e R s m args below meth c H locs cells slots (vx_MQ below Qc XC args s mc ms free) (F0 m pc ls rest) q := by
  intro T hT X
  obtain ⟨st1, hrun, hend, hW, hsm⟩ := X.leaveThrown q (g := F0 m pc ls rest) rfl rfl rfl hout hlocks
  have hcell9 : (T.setFrames (.throwing q :: below)).heap[q]? = some ce := by
    show T.heap[q]? = some ce
    rw [hT]; exact hcell
  exact ⟨_, st1, .threw q, hrun, hend, Or.inr ⟨q, rfl, E, ce, locs, hx _ hT hW.alike, hcell9, hv, hcl, hW, hsm.mono hc hs, hf⟩⟩
theorem vx_frame {U : State} {k n : Nat} (h : s.sameButNew ({ U with vm := s.vm } : State) locs k n) : s.heap.size ≤ U.heap.size ∧ ∀ q : Nat, q < s.heap.size → (∀ z ∈ locs, z.base ≠ q) → U.heap[q]? = s.heap[q]? := by
  obtain ⟨-, h2, -, -, -, h6⟩ := h
  refine ⟨h2, fun q hq hz => ?_⟩
  obtain ⟨c9, e1, e2, e3, e4⟩ := h6 q _ (Array.getElem?_eq_getElem hq)
  have hs : c9.slots = (s.heap[q]).slots := Array.ext_getElem? fun i => e4 i fun hm => hz _ hm rfl
  have h9 : c9 = s.heap[q] := by
    rw [hs] at e2
    exact e2
  have e5 : U.heap[q]? = some c9 := e1
  rw [e5, h9, Array.getElem?_eq_getElem hq]
/-- the words of a throw but the four that speak of the heap -/
def vx_no (w : Cond) : Bool := decide (w ≠ .isRef (.static Bundle.tN "UNASSIGNED_STACK" Bundle.steD)) && decide (w ≠ .isRef (.static Bundle.tN "SUPPRESSED_SENTINEL" Bundle.listD)) && decide (w ≠ .laysStatic Bundle.tN "UNASSIGNED_STACK" Bundle.steD) && decide (w ≠ .laysStatic Bundle.tN "SUPPRESSED_SENTINEL" Bundle.listD)
def vx_at0 (own : String) (ic : Nat) (X : String) (names : List String) : List Cond := (Bundle.ownAtoms0 own ic X names).filter vx_no
def vx_atS (own : String) (ic : Nat) (X : String) (names : List String) : List Cond := (Bundle.ownAtoms own ic X names).filter vx_no
/-- a word that the tables alone decide, or a good one -/
def vx_ot (w : Cond) : Bool := w.onTables || goodWord w
theorem vx_ot_at {args a' : Array Value} {s U : State} {w : Cond} (hW : s.WarmedH U.vm) (hvm : s.vm = U.vm) (hg : vx_ot w = true) (h : w.before args s = true) : w.before a' U = true := by
  simp only [vx_ot, Bool.or_eq_true] at hg
  rcases hg with hg | hg
  · exact va_tabs hg hvm h
  · exact word_at hW (good_of_word hg) h
/-- a list's words: the good ones out of the method's own list, the others by premises of their own -/
theorem vx_hat {args : Array Value} {s : State} {L B : List Cond} (h1 : ∀ w ∈ L.filter goodWord, w.before args s = true) (h2 : ∀ w ∈ L.filter (fun w => !goodWord w), w ∈ B) (h3 : ∀ w ∈ B, w.before args s = true) : ∀ w ∈ L, w.before args s = true := by
  intro w hw
  by_cases g : goodWord w = true
  · exact h1 w (List.mem_filter.mpr ⟨hw, g⟩)
  · refine h3 w (h2 w (List.mem_filter.mpr ⟨hw, ?_⟩))
    show (!goodWord w) = true
    cases hgw : goodWord w
    · rfl
    · exact absurd hgw g
theorem vx_c {args : Array Value} {s : State} {w : Cond} {B : List Cond} (h : w.before args s = true) (t : ∀ w ∈ B, w.before args s = true) : ∀ w' ∈ w :: B, w'.before args s = true := fun w' h' => (List.mem_cons.mp h').elim (fun e => by rw [e]; exact h) (t w')
theorem vx_n {args : Array Value} {s : State} : ∀ w ∈ ([] : List Cond), w.before args s = true := fun _ h => nomatch h
theorem vx_own {args : Array Value} {s : State} {L : List Cond} (h1 : ∀ w ∈ L.filter vx_no, w.before args s = true)
    (hU : (Cond.isRef (.static Bundle.tN "UNASSIGNED_STACK" Bundle.steD)).before args s = true) (hN : (Cond.isRef (.static Bundle.tN "SUPPRESSED_SENTINEL" Bundle.listD)).before args s = true)
    (lU : (Cond.laysStatic Bundle.tN "UNASSIGNED_STACK" Bundle.steD).before args s = true) (lN : (Cond.laysStatic Bundle.tN "SUPPRESSED_SENTINEL" Bundle.listD).before args s = true) : ∀ w ∈ L, w.before args s = true := by
  intro w hw
  by_cases e1 : w = .isRef (.static Bundle.tN "UNASSIGNED_STACK" Bundle.steD)
  · rw [e1]; exact hU
  · by_cases e2 : w = .isRef (.static Bundle.tN "SUPPRESSED_SENTINEL" Bundle.listD)
    · rw [e2]; exact hN
    · by_cases e3 : w = .laysStatic Bundle.tN "UNASSIGNED_STACK" Bundle.steD
      · rw [e3]; exact lU
      · by_cases e4 : w = .laysStatic Bundle.tN "SUPPRESSED_SENTINEL" Bundle.listD
        · rw [e4]; exact lN
        · exact h1 w (List.mem_filter.mpr ⟨hw, by unfold vx_no; rw [decide_eq_true e1, decide_eq_true e2, decide_eq_true e3, decide_eq_true e4]; rfl⟩)
/-- where a static field lies, its class's statics cell in H -/
def vx_L (C n d : String) (A : Nat → Prop) (U : State) (H : Heap) : Prop := ∃ (c : ClassId) (k : Class) (i : Nat) (f : Field) (a : Nat) (cell : Cell), U.vm.findClass C = some c ∧ U.fieldFound? C n d = some (c, k, i, f) ∧ f.isStatic = true ∧ k.statics = some a ∧ H[a]? = some cell ∧ cell.vm.isStatics = true ∧ cell.cls = c ∧ f.slot < cell.slots.size ∧ k.staticTypes[f.slot]? = some f.type ∧ ¬ A a
theorem vx_L.moved {C n d : String} {A : Nat → Prop} {u U : State} {H : Heap} (hvm : u.vm.Alike U.vm) (h : vx_L C n d A u H) : vx_L C n d A U H := by
  obtain ⟨c, k, i, f, a, cell, h1, h2, h3, h4, h5, h6, h7, h8, h9, h10⟩ := h
  obtain ⟨k', hi', he⟩ := State.fieldFound?_setVm hvm h2
  exact ⟨c, k', i, f, a, cell, by rw [hvm.findClass]; exact h1, hi', h3, by rw [he]; exact h4, h5, h6, h7, h8, by rw [he]; exact h9, h10⟩
theorem vx_L.kept {C n d : String} {A : Nat → Prop} {U : State} {H H1 : Heap} (h : vx_L C n d A U H) (hq : ∀ a : Nat, a < H.size → ¬ A a → H1[a]? = H[a]?) : vx_L C n d A U H1 := by
  obtain ⟨c, k, i, f, a, cell, h1, h2, h3, h4, h5, h6, h7, h8, h9, h10⟩ := h
  exact ⟨c, k, i, f, a, cell, h1, h2, h3, h4, by rw [hq a (Array.getElem?_eq_some_iff.mp h5).1 h10]; exact h5, h6, h7, h8, h9, h10⟩
theorem vx_L.narrow {C n d : String} {A B : Nat → Prop} {U : State} {H : Heap} (h : vx_L C n d A U H) (hAB : ∀ q, B q → A q) : vx_L C n d B U H := by
  obtain ⟨c, k, i, f, a, cell, h1, h2, h3, h4, h5, h6, h7, h8, h9, h10⟩ := h
  exact ⟨c, k, i, f, a, cell, h1, h2, h3, h4, h5, h6, h7, h8, h9, fun z => h10 (hAB _ z)⟩
theorem vx_L.word {C n d : String} {A : Nat → Prop} {s : State} {args : Array Value} (h : vx_L C n d A s s.heap) : (Cond.laysStatic C n d).before args s = true := by
  obtain ⟨c, k, i, f, a, cell, h1, h2, h3, h4, h5, h6, h7, h8, h9, -⟩ := h
  show (Cond.laysStatic C n d).holds args s none s [] = true
  exact Cond.laysStatic_of h1 h2 h3 h4 h5 h6 h7 h8 h9
/-- .. and what it holds: null or some reference -/
def vx_Zq (C n d : String) (A : Nat → Prop) (U : State) (H : Heap) : Prop := va_Zq C n d A U H ∧ vx_L C n d A U H
theorem vx_Zq.moved {C n d : String} {A : Nat → Prop} {u U : State} {H : Heap} (hvm : u.vm.Alike U.vm) (h : vx_Zq C n d A u H) : vx_Zq C n d A U H := ⟨va_Zq.moved hvm h.1, vx_L.moved hvm h.2⟩
theorem vx_Zq.kept {C n d : String} {A : Nat → Prop} {U : State} {H H1 : Heap} (h : vx_Zq C n d A U H) (hq : ∀ a : Nat, a < H.size → ¬ A a → H1[a]? = H[a]?) : vx_Zq C n d A U H1 := ⟨va_Zq.kept h.1 hq, vx_L.kept h.2 hq⟩
theorem vx_Zq.narrow {C n d : String} {A B : Nat → Prop} {U : State} {H : Heap} (h : vx_Zq C n d A U H) (hAB : ∀ q, B q → A q) : vx_Zq C n d B U H := ⟨va_Zq.narrow h.1 hAB, vx_L.narrow h.2 hAB⟩
theorem vx_Zqof {args : Array Value} {s : State} {C n d : String} {A : Nat → Prop} (hl : (Cond.laysStatic C n d).before args s = true) (hini : (Cond.initialized C).before args s = true) (h : (Cond.isRef (.static C n d)).before args s = true) (hA : ∀ a : Nat, a < s.heap.size → ¬ A a) : vx_Zq C n d A s s.heap := by
  refine ⟨va_Zqof hl hini h hA, ?_⟩
  obtain ⟨c, k, i, f, a, cell, h1, h2, h3, h4, h5, h6, h7, h8, h9⟩ := Cond.laysStatic_spec hl
  exact ⟨c, k, i, f, a, cell, h1, h2, h3, h4, h5, h6, h7, h8, h9, hA a (Array.getElem?_eq_some_iff.mp h5).1⟩
theorem vx_isRef {C n d : String} {v : Value} {A : Nat → Prop} {s : State} {args : Array Value} (h : va_Z C n d v A s s.heap) (hv : v.isRef = true) : (Cond.isRef (.static C n d)).before args s = true := by
  obtain ⟨cf, kf, fi, f, a, cell, h1, h2, h3, h4, h5, h6, h7, -⟩ := h
  have he : (Term.static C n d).eval args s none [] s = some v := by
    simp [Term.eval, State.fieldNamed?, h1, h2, h4, h5, h6, h7]
  simp only [Cond.before, Cond.holds, Cond.value, he]
  cases v <;> simp_all [Value.isRef]
theorem vx_isRefq {C n d : String} {A : Nat → Prop} {s : State} {args : Array Value} (h : va_Zq C n d A s s.heap) : (Cond.isRef (.static C n d)).before args s = true := by
  rcases h with h | ⟨t, h⟩
  · exact vx_isRef h rfl
  · exact vx_isRef h rfl
/-- the same frame, seen from here: as if the method were called anew in this heap -/
theorem vx_rebase {T : State} (X : Stand p l e R s m args below meth c T locs cells slots) {R' : Room} (hf : R'.frames ≤ R.frames) (hl : R'.locals ≤ R.locals) (hc : cells + R'.cells ≤ R.cells) (hs : slots + R'.slots ≤ R.slots) :
    Stand p l e R' ((T.setVm s.vm).setFrames (.invoking m args :: below)) m args below meth c T [] 0 0 := by
  have htop : (T.setVm s.vm).topJava?.isSome := X.here.top
  have hF : ((T.setVm s.vm).setFrames (.invoking m args :: below)).frames = .invoking m args :: below := State.frames_setFrames _ (State.cur_lt_of_top htop)
  obtain ⟨g₀, hg0⟩ := Option.isSome_iff_exists.mp htop
  obtain ⟨r, hr⟩ := State.topJava?_eq_some.mp hg0
  have hl9 : e.platform.stackLimits (T.setVm s.vm).me = e.platform.stackLimits s.me := X.limits
  have hb9 : (T.setVm s.vm).me.stackBytes = s.me.stackBytes := X.bytes
  refine ⟨X.admits, X.cas, X.clock, hF, ?_, X.hears, X.method, X.code, X.here, X.tail, X.warmed, ?_, ?_, ?_⟩
  · have h := X.room
    have hU : ((T.setVm s.vm).setFrames (.invoking m args :: below)).localsInUse = s.localsInUse := by
      rw [State.localsInUse_invoking hF (meth := meth) (c := c) X.method X.code, State.localsInUse_invoking X.frames X.method X.code]
    simp only [State.hasRoom, Bool.and_eq_true, decide_eq_true_eq] at h ⊢
    obtain ⟨⟨⟨⟨h1, h2, h3, h4, h5, h6⟩, h7⟩, h8⟩, h9⟩ := h
    rw [X.frames, List.length_cons] at h2 h3
    have q1 := X.heapSize
    have q2 := X.used
    simp only [hF, hU, List.length_cons, State.stackLimits_setFrames, State.stackBytes_setFrames, hl9, hb9]
    refine ⟨⟨⟨⟨by omega, by omega, by omega, by omega, by omega, h6⟩, ?_⟩, ?_⟩, X.book⟩
    · show T.heap.size + R'.cells ≤ e.platform.maxCells
      omega
    · show T.slotsUsed + R'.slots ≤ e.platform.maxSlots
      omega
  · rw [State.stackLimits_setFrames]; rfl
  · rw [State.stackBytes_setFrames]; rfl
  · refine ⟨?_, Nat.le_refl _, Nat.le_refl _, ?_, ?_, fun a c9 h9 => ⟨c9, h9, rfl, rfl, fun _ _ => rfl⟩⟩
    · obtain ⟨t, ht, -⟩ := State.frames_cons hr
      show T.setVm s.vm = { ((T.setVm s.vm).setFrames (.invoking m args :: below)).setFrames (T.setVm s.vm).frames with heap := T.heap, slotsUsed := T.slotsUsed }
      rw [State.setFrames_setFrames, State.setFrames_self ht]
      rfl
    · show T.slotsUsed = T.slotsUsed + ((T.heap.toList.drop T.heap.size).map (·.slots.size)).sum
      rw [List.drop_eq_nil_of_le (Nat.le_of_eq Array.length_toList)]
      rfl
    · show ((T.heap.toList.drop T.heap.size).map (·.slots.size)).sum ≤ 0
      rw [List.drop_eq_nil_of_le (Nat.le_of_eq Array.length_toList)]
      exact Nat.le_refl _
/-- 'throw new E()': new; dup; invokespecial; athrow -/
theorem vx_throw0 {cc : ByteArray} {pc : Nat} (hexec : p.tables.exec = Jvm.exec) (hb : c.code = cc) (hl : l.stackTraces = false) {own cls : String} {names : List String} {ik ic mc ms : Nat} {A : Nat → Prop}
    (hown : s.vm.findClass own = some m.cls) (hcls : Bundle.fit cls = true) (hnames : ∀ n ∈ names, Bundle.fit n = true)
    (hk : (Cond.classLink own ik cls).before args s = true) (hini : (Cond.initialized cls).before args s = true) (hat : ∀ w ∈ vx_at0 own ic cls names, w.before args s = true)
    (hgood : ∀ w ∈ Cond.classLink own ik cls :: Cond.initialized cls :: vx_at0 own ic cls names, vx_ot w = true)
    (hU : vx_Zq Bundle.tN "UNASSIGNED_STACK" Bundle.steD A s s.heap) (hN : vx_Zq Bundle.tN "SUPPRESSED_SENTINEL" Bundle.listD A s s.heap) (hS : va_S A s.heap H locs) (hsize : ls.size = c.maxLocals)
    (d0 : decode cc pc = .ok (.new ik, 3)) (d3 : decode cc (pc + 3) = .ok (.dup, 1)) (d4 : decode cc (pc + 4) = .ok (.invokespecial ic, 3)) (d7 : decode cc (pc + 7) = .ok (.athrow, 1))
    (hout : ∀ x ∈ c.exceptionTable.toList, covers x (pc + 7) = false)
    (hRframes : names.length + 3 < R.frames) (hRlocals : (rest.map fun v => v.category).sum + (13 * (names.length + 1) + 42) ≤ R.locals) (hRcells : cells + 1 ≤ R.cells) (hRslots : slots + 6 ≤ R.slots) (hlocks : meth.locks = false)
    (hx : ∀ t : State, s.vm.Alike t.vm → H.size ≤ t.heap.size → (∀ q : Nat, q < H.size → t.heap[q]? = H[q]?) → XC cls s t)
    (hf : ∀ z ∈ locs, free z.base) (hc : cells + 1 ≤ mc) (hs : slots + 6 ≤ ms) :
    W p l e R s m args below meth c H locs cells slots (vx_MQ below Qc XC args s mc ms free) (F0 m pc ls rest) := by
  intro T hT X
  have htr : e.platform.stackTraces = false := (show e.platform.stackTraces = l.stackTraces by rw [X.admits.platform]).trans hl
  have Y := vx_rebase X (R' := { frames := R.frames, locals := R.locals, cells := 1, slots := 6 }) (Nat.le_refl _) (Nat.le_refl _) hRcells hRslots
  obtain ⟨s', hA⟩ : ∃ z, z = (T.setVm s.vm).setFrames (.invoking m args :: below) := ⟨_, rfl⟩
  rw [← hA] at Y
  have hvm : s'.vm = s.vm := by rw [hA]; rfl
  have hhp : s'.heap = H := by rw [hA]; exact hT
  have hW0 : s.WarmedH s'.vm := by rw [hvm]; exact State.WarmedH.refl s
  have hat' : ∀ w ∈ vx_at0 own ic cls names, w.before args s' = true := fun w hw => vx_ot_at hW0 hvm.symm (hgood w (List.mem_cons_of_mem _ (List.mem_cons_of_mem _ hw))) (hat w hw)
  have hk' : (Cond.classLink own ik cls).before args s' = true := vx_ot_at hW0 hvm.symm (hgood _ List.mem_cons_self) hk
  have hini' : (Cond.initialized cls).before args s' = true := vx_ot_at hW0 hvm.symm (hgood _ (List.mem_cons_of_mem _ List.mem_cons_self)) hini
  have hU' : vx_Zq Bundle.tN "UNASSIGNED_STACK" Bundle.steD A s' s'.heap := by rw [hhp]; exact vx_Zq.moved hW0.alike (hU.kept hS.2.1)
  have hN' : vx_Zq Bundle.tN "SUPPRESSED_SENTINEL" Bundle.listD A s' s'.heap := by rw [hhp]; exact vx_Zq.moved hW0.alike (hN.kept hS.2.1)
  have h : ∀ w ∈ Bundle.ownAtoms0 own ic cls names, w.before args s' = true := vx_own hat' (vx_isRefq hU'.1) (vx_isRefq hN'.1) hU'.2.word hN'.2.word
  have hown' : s'.vm.findClass own = some m.cls := by rw [hvm]; exact hown
  have hins : (Cond.instantiable cls 6).before args s' = true := h _ (by simp [Bundle.ownAtoms0])
  obtain ⟨vm₁, cX, kX, hfX, hkX, -, -, X₁, st1⟩ := Y.newCold hexec (own := own) (C := cls) (index := ik) (n := 6) hown' hk' hins hini'
    (g := F0 m pc ls rest) rfl (by rw [hb]; exact d0) (Nat.le_refl _) (Nat.le_refl _)
  generalize hT1 : (T.setVm vm₁).pushCell { cls := cX, slots := kX.instanceTypes.map defaultValue, vm := .none } = T1 at X₁ st1
  have hcat : (Value.ref T.heap.size).category = 1 := rfl
  have hcellA : T1.heap[T.heap.size]? = some (freshCell cX kX) := by rw [← hT1]; exact State.heap_pushCell_size _ _
  have d3' : decode c.code (pc + 3) = .ok (.dup, 1) := by rw [hb]; exact d3
  obtain ⟨U, hsteps, hrun, hend, hW, hsame, ce, hce, hO⟩ := X₁.ctorThrow0 hexec htr (own := own) (cls := cls) (names := names) (ic := ic) hown' hcls hnames h (fun x hx => nomatch hx) hfX hkX hcellA (by rw [hhp, hT]; exact Nat.le_refl _)
    (g := { method := m, pc := pc + 4, locals := ls, stack := .ref T.heap.size :: .ref T.heap.size :: rest, locked := none }) rfl hsize rfl rfl (rest := rest) rfl
    (by rw [hb]; exact d4) (by rw [hb]; exact d7) hout hRframes (by simp only [List.map_cons, List.sum_cons, hcat]; omega) hlocks
  obtain ⟨f1, f2⟩ := vx_frame hsame
  rw [hhp] at f1 f2
  have hWs : s.WarmedH U.vm := State.WarmedH.trans hW0 hW
  have hcl : s.vm.findClass cls = some ce.cls := by
    have h9 := hO.cls
    rw [hvm] at h9
    exact h9
  have hall : s.sameButNew ({ U with vm := s.vm } : State) locs mc ms := by
    subst hA
    obtain ⟨e1, e2⟩ := hsame
    rw [State.setFrames_setFrames] at e1
    have h2 : (T.setVm s.vm).sameButNew ({ U with vm := s.vm } : State) [] (0 + 1) (0 + 6) := ⟨e1, e2⟩
    have h3 := X.same.trans h2
    rw [List.append_nil] at h3
    exact h3.mono hc hs
  refine ⟨U, ?_, .threw T.heap.size, hrun, hend, Or.inr ⟨T.heap.size, rfl, cls, ce, locs, hx U hWs.alike f1 (fun q hq => f2 q hq (fun z hz => nomatch hz)), hce, hO.vm, hcl, hWs, hall, hf⟩⟩
  refine st1 _ ?_
  show Steps p.tables e below (T1.setTop { method := m, pc := pc + 3, locals := ls, stack := .ref T.heap.size :: rest, locked := none }) _
  jvm_step X₁.here [X₁.here.top, hexec, d3', Value.category]
  exact hsteps
/-- 'throw new E("text")': new; dup; ldc; invokespecial; athrow -/
theorem vx_throwS {cc : ByteArray} {pc : Nat} (hexec : p.tables.exec = Jvm.exec) (hb : c.code = cc) (hl : l.stackTraces = false) {own cls text : String} {names : List String} {ik is ic mc ms sa : Nat} {A : Nat → Prop}
    (hown : s.vm.findClass own = some m.cls) (hcls : Bundle.fit cls = true) (hnames : ∀ n ∈ names, Bundle.fit n = true)
    (hk : (Cond.classLink own ik cls).before args s = true) (hini : (Cond.initialized cls).before args s = true) (hstr : vk_R own is text sa s) (hat : ∀ w ∈ vx_atS own ic cls names, w.before args s = true)
    (hgood : ∀ w ∈ Cond.classLink own ik cls :: Cond.initialized cls :: vx_atS own ic cls names, vx_ot w = true)
    (hU : vx_Zq Bundle.tN "UNASSIGNED_STACK" Bundle.steD A s s.heap) (hN : vx_Zq Bundle.tN "SUPPRESSED_SENTINEL" Bundle.listD A s s.heap) (hS : va_S A s.heap H locs) (hsize : ls.size = c.maxLocals)
    (d0 : decode cc pc = .ok (.new ik, 3)) (d3 : decode cc (pc + 3) = .ok (.dup, 1)) (d4 : decode cc (pc + 4) = .ok (.ldc is, 2)) (d6 : decode cc (pc + 6) = .ok (.invokespecial ic, 3)) (d9 : decode cc (pc + 9) = .ok (.athrow, 1))
    (hout : ∀ x ∈ c.exceptionTable.toList, covers x (pc + 9) = false)
    (hRframes : names.length + 3 < R.frames) (hRlocals : (rest.map fun v => v.category).sum + (13 * (names.length + 1) + 43) ≤ R.locals) (hRcells : cells + 1 ≤ R.cells) (hRslots : slots + 6 ≤ R.slots) (hlocks : meth.locks = false)
    (hx : ∀ t : State, s.vm.Alike t.vm → H.size ≤ t.heap.size → (∀ q : Nat, q < H.size → t.heap[q]? = H[q]?) → XC cls s t)
    (hf : ∀ z ∈ locs, free z.base) (hc : cells + 1 ≤ mc) (hs : slots + 6 ≤ ms) :
    W p l e R s m args below meth c H locs cells slots (vx_MQ below Qc XC args s mc ms free) (F0 m pc ls rest) := by
  intro T hT X
  have htr : e.platform.stackTraces = false := (show e.platform.stackTraces = l.stackTraces by rw [X.admits.platform]).trans hl
  have Y := vx_rebase X (R' := { frames := R.frames, locals := R.locals, cells := 1, slots := 6 }) (Nat.le_refl _) (Nat.le_refl _) hRcells hRslots
  obtain ⟨s', hA⟩ : ∃ z, z = (T.setVm s.vm).setFrames (.invoking m args :: below) := ⟨_, rfl⟩
  rw [← hA] at Y
  have hvm : s'.vm = s.vm := by rw [hA]; rfl
  have hhp : s'.heap = H := by rw [hA]; exact hT
  have hW0 : s.WarmedH s'.vm := by rw [hvm]; exact State.WarmedH.refl s
  have hat' : ∀ w ∈ vx_atS own ic cls names, w.before args s' = true := fun w hw => vx_ot_at hW0 hvm.symm (hgood w (List.mem_cons_of_mem _ (List.mem_cons_of_mem _ hw))) (hat w hw)
  have hk' : (Cond.classLink own ik cls).before args s' = true := vx_ot_at hW0 hvm.symm (hgood _ List.mem_cons_self) hk
  have hini' : (Cond.initialized cls).before args s' = true := vx_ot_at hW0 hvm.symm (hgood _ (List.mem_cons_of_mem _ List.mem_cons_self)) hini
  have hU' : vx_Zq Bundle.tN "UNASSIGNED_STACK" Bundle.steD A s' s'.heap := by rw [hhp]; exact vx_Zq.moved hW0.alike (hU.kept hS.2.1)
  have hN' : vx_Zq Bundle.tN "SUPPRESSED_SENTINEL" Bundle.listD A s' s'.heap := by rw [hhp]; exact vx_Zq.moved hW0.alike (hN.kept hS.2.1)
  have h : ∀ w ∈ Bundle.ownAtoms own ic cls names, w.before args s' = true := vx_own hat' (vx_isRefq hU'.1) (vx_isRefq hN'.1) hU'.2.word hN'.2.word
  have hown' : s'.vm.findClass own = some m.cls := by rw [hvm]; exact hown
  have hins : (Cond.instantiable cls 6).before args s' = true := h _ (by simp [Bundle.ownAtoms])
  obtain ⟨vm₁, cX, kX, hfX, hkX, -, -, X₁, st1⟩ := Y.newCold hexec (own := own) (C := cls) (index := ik) (n := 6) hown' hk' hins hini'
    (g := F0 m pc ls rest) rfl (by rw [hb]; exact d0) (Nat.le_refl _) (Nat.le_refl _)
  generalize hT1 : (T.setVm vm₁).pushCell { cls := cX, slots := kX.instanceTypes.map defaultValue, vm := .none } = T1 at X₁ st1
  have hcat : (Value.ref T.heap.size).category = 1 := rfl
  have hcellA : T1.heap[T.heap.size]? = some (freshCell cX kX) := by rw [← hT1]; exact State.heap_pushCell_size _ _
  have d3' : decode c.code (pc + 3) = .ok (.dup, 1) := by rw [hb]; exact d3
  have d4' : decode c.code (pc + 4) = .ok (.ldc is, 2) := by rw [hb]; exact d4
  have hstr' : vk_R own is text sa s' := vk_R.warm hW0 hstr
  obtain ⟨U, hsteps, hrun, hend, hW, hsame, ce, hce, hO⟩ := X₁.ctorThrowS hexec htr (own := own) (cls := cls) (names := names) (ic := ic) hown' hcls hnames h (fun x hx => nomatch hx) hfX hkX hcellA (by rw [hhp, hT]; exact Nat.le_refl _) (msg := .ref sa) rfl
    (g := { method := m, pc := pc + 6, locals := ls, stack := .ref sa :: .ref T.heap.size :: .ref T.heap.size :: rest, locked := none }) rfl hsize rfl rfl (rest := rest) rfl
    (by rw [hb]; exact d6) (by rw [hb]; exact d9) hout hRframes (by simp only [List.map_cons, List.sum_cons, hcat]; omega) hlocks
  obtain ⟨f1, f2⟩ := vx_frame hsame
  rw [hhp] at f1 f2
  have hWs : s.WarmedH U.vm := State.WarmedH.trans hW0 hW
  have hcl : s.vm.findClass cls = some ce.cls := by
    have h9 := hO.cls
    rw [hvm] at h9
    exact h9
  have hall : s.sameButNew ({ U with vm := s.vm } : State) locs mc ms := by
    subst hA
    obtain ⟨e1, e2⟩ := hsame
    rw [State.setFrames_setFrames] at e1
    have h2 : (T.setVm s.vm).sameButNew ({ U with vm := s.vm } : State) [] (0 + 1) (0 + 6) := ⟨e1, e2⟩
    have h3 := X.same.trans h2
    rw [List.append_nil] at h3
    exact h3.mono hc hs
  refine ⟨U, ?_, .threw T.heap.size, hrun, hend, Or.inr ⟨T.heap.size, rfl, cls, ce, locs, hx U hWs.alike f1 (fun q hq => f2 q hq (fun z hz => nomatch hz)), hce, hO.vm, hcl, hWs, hall, hf⟩⟩
  refine st1 _ ?_
  show Steps p.tables e below (T1.setTop { method := m, pc := pc + 3, locals := ls, stack := .ref T.heap.size :: rest, locked := none }) _
  jvm_step X₁.here [X₁.here.top, hexec, d3', Value.category]
  exact X₁.ldcString hexec (own := own) (text := text) (index := is) (a := sa) hown' hstr'.1 hstr'.2
    (g := { method := m, pc := pc + 4, locals := ls, stack := .ref T.heap.size :: .ref T.heap.size :: rest, locked := none }) rfl d4' _ hsteps
/-- 'throw new E("text")', the text by a wide index -/
theorem vx_throwSW {cc : ByteArray} {pc : Nat} (hexec : p.tables.exec = Jvm.exec) (hb : c.code = cc) (hl : l.stackTraces = false) {own cls text : String} {names : List String} {ik is ic mc ms sa : Nat} {A : Nat → Prop}
    (hown : s.vm.findClass own = some m.cls) (hcls : Bundle.fit cls = true) (hnames : ∀ n ∈ names, Bundle.fit n = true)
    (hk : (Cond.classLink own ik cls).before args s = true) (hini : (Cond.initialized cls).before args s = true) (hstr : vk_R own is text sa s) (hat : ∀ w ∈ vx_atS own ic cls names, w.before args s = true)
    (hgood : ∀ w ∈ Cond.classLink own ik cls :: Cond.initialized cls :: vx_atS own ic cls names, vx_ot w = true)
    (hU : vx_Zq Bundle.tN "UNASSIGNED_STACK" Bundle.steD A s s.heap) (hN : vx_Zq Bundle.tN "SUPPRESSED_SENTINEL" Bundle.listD A s s.heap) (hS : va_S A s.heap H locs) (hsize : ls.size = c.maxLocals)
    (d0 : decode cc pc = .ok (.new ik, 3)) (d3 : decode cc (pc + 3) = .ok (.dup, 1)) (d4 : decode cc (pc + 4) = .ok (.ldc_w is, 3)) (d7 : decode cc (pc + 7) = .ok (.invokespecial ic, 3)) (d10 : decode cc (pc + 10) = .ok (.athrow, 1))
    (hout : ∀ x ∈ c.exceptionTable.toList, covers x (pc + 10) = false)
    (hRframes : names.length + 3 < R.frames) (hRlocals : (rest.map fun v => v.category).sum + (13 * (names.length + 1) + 43) ≤ R.locals) (hRcells : cells + 1 ≤ R.cells) (hRslots : slots + 6 ≤ R.slots) (hlocks : meth.locks = false)
    (hx : ∀ t : State, s.vm.Alike t.vm → H.size ≤ t.heap.size → (∀ q : Nat, q < H.size → t.heap[q]? = H[q]?) → XC cls s t)
    (hf : ∀ z ∈ locs, free z.base) (hc : cells + 1 ≤ mc) (hs : slots + 6 ≤ ms) :
    W p l e R s m args below meth c H locs cells slots (vx_MQ below Qc XC args s mc ms free) (F0 m pc ls rest) := by
  intro T hT X
  have htr : e.platform.stackTraces = false := (show e.platform.stackTraces = l.stackTraces by rw [X.admits.platform]).trans hl
  have Y := vx_rebase X (R' := { frames := R.frames, locals := R.locals, cells := 1, slots := 6 }) (Nat.le_refl _) (Nat.le_refl _) hRcells hRslots
  obtain ⟨s', hA⟩ : ∃ z, z = (T.setVm s.vm).setFrames (.invoking m args :: below) := ⟨_, rfl⟩
  rw [← hA] at Y
  have hvm : s'.vm = s.vm := by rw [hA]; rfl
  have hhp : s'.heap = H := by rw [hA]; exact hT
  have hW0 : s.WarmedH s'.vm := by rw [hvm]; exact State.WarmedH.refl s
  have hat' : ∀ w ∈ vx_atS own ic cls names, w.before args s' = true := fun w hw => vx_ot_at hW0 hvm.symm (hgood w (List.mem_cons_of_mem _ (List.mem_cons_of_mem _ hw))) (hat w hw)
  have hk' : (Cond.classLink own ik cls).before args s' = true := vx_ot_at hW0 hvm.symm (hgood _ List.mem_cons_self) hk
  have hini' : (Cond.initialized cls).before args s' = true := vx_ot_at hW0 hvm.symm (hgood _ (List.mem_cons_of_mem _ List.mem_cons_self)) hini
  have hU' : vx_Zq Bundle.tN "UNASSIGNED_STACK" Bundle.steD A s' s'.heap := by rw [hhp]; exact vx_Zq.moved hW0.alike (hU.kept hS.2.1)
  have hN' : vx_Zq Bundle.tN "SUPPRESSED_SENTINEL" Bundle.listD A s' s'.heap := by rw [hhp]; exact vx_Zq.moved hW0.alike (hN.kept hS.2.1)
  have h : ∀ w ∈ Bundle.ownAtoms own ic cls names, w.before args s' = true := vx_own hat' (vx_isRefq hU'.1) (vx_isRefq hN'.1) hU'.2.word hN'.2.word
  have hown' : s'.vm.findClass own = some m.cls := by rw [hvm]; exact hown
  have hins : (Cond.instantiable cls 6).before args s' = true := h _ (by simp [Bundle.ownAtoms])
  obtain ⟨vm₁, cX, kX, hfX, hkX, -, -, X₁, st1⟩ := Y.newCold hexec (own := own) (C := cls) (index := ik) (n := 6) hown' hk' hins hini'
    (g := F0 m pc ls rest) rfl (by rw [hb]; exact d0) (Nat.le_refl _) (Nat.le_refl _)
  generalize hT1 : (T.setVm vm₁).pushCell { cls := cX, slots := kX.instanceTypes.map defaultValue, vm := .none } = T1 at X₁ st1
  have hcat : (Value.ref T.heap.size).category = 1 := rfl
  have hcellA : T1.heap[T.heap.size]? = some (freshCell cX kX) := by rw [← hT1]; exact State.heap_pushCell_size _ _
  have d3' : decode c.code (pc + 3) = .ok (.dup, 1) := by rw [hb]; exact d3
  have d4' : decode c.code (pc + 4) = .ok (.ldc_w is, 3) := by rw [hb]; exact d4
  have hstr' : vk_R own is text sa s' := vk_R.warm hW0 hstr
  obtain ⟨U, hsteps, hrun, hend, hW, hsame, ce, hce, hO⟩ := X₁.ctorThrowS hexec htr (own := own) (cls := cls) (names := names) (ic := ic) hown' hcls hnames h (fun x hx => nomatch hx) hfX hkX hcellA (by rw [hhp, hT]; exact Nat.le_refl _) (msg := .ref sa) rfl
    (g := { method := m, pc := pc + 7, locals := ls, stack := .ref sa :: .ref T.heap.size :: .ref T.heap.size :: rest, locked := none }) rfl hsize rfl rfl (rest := rest) rfl
    (by rw [hb]; exact d7) (by rw [hb]; exact d10) hout hRframes (by simp only [List.map_cons, List.sum_cons, hcat]; omega) hlocks
  obtain ⟨f1, f2⟩ := vx_frame hsame
  rw [hhp] at f1 f2
  have hWs : s.WarmedH U.vm := State.WarmedH.trans hW0 hW
  have hcl : s.vm.findClass cls = some ce.cls := by
    have h9 := hO.cls
    rw [hvm] at h9
    exact h9
  have hall : s.sameButNew ({ U with vm := s.vm } : State) locs mc ms := by
    subst hA
    obtain ⟨e1, e2⟩ := hsame
    rw [State.setFrames_setFrames] at e1
    have h2 : (T.setVm s.vm).sameButNew ({ U with vm := s.vm } : State) [] (0 + 1) (0 + 6) := ⟨e1, e2⟩
    have h3 := X.same.trans h2
    rw [List.append_nil] at h3
    exact h3.mono hc hs
  refine ⟨U, ?_, .threw T.heap.size, hrun, hend, Or.inr ⟨T.heap.size, rfl, cls, ce, locs, hx U hWs.alike f1 (fun q hq => f2 q hq (fun z hz => nomatch hz)), hce, hO.vm, hcl, hWs, hall, hf⟩⟩
  refine st1 _ ?_
  show Steps p.tables e below (T1.setTop { method := m, pc := pc + 3, locals := ls, stack := .ref T.heap.size :: rest, locked := none }) _
  jvm_step X₁.here [X₁.here.top, hexec, d3', Value.category]
  exact X₁.ldcStringW hexec (own := own) (text := text) (index := is) (a := sa) hown' hstr'.1 hstr'.2
    (g := { method := m, pc := pc + 4, locals := ls, stack := .ref T.heap.size :: .ref T.heap.size :: rest, locked := none }) rfl d4' _ hsteps
end Ends
section Bodies
variable {l : Launch}
theorem vx_ofW {y : MethodName} {ws ws' : List Cond} {rm : Room} {Pc : Array Value → State → Prop} {Qc : Array Value → State → Outcome → State → Prop} {XC : String → State → State → Prop} {mc ms : Nat} {free : Addr → Prop} {cc : ByteArray} {maxL : Nat} {ret : Option FieldType}
    (hy : plainName y.cls = true) (hw : ws = Cond.code y cc maxL ret :: ws')
    (body : ∀ p e s m args below meth c s₁, BodyLoose p l y (headSpec ws rm) cc maxL ret e s m args below meth c s₁ → c.maxLocals = maxL → (∀ x ∈ c.exceptionTable.toList, False) → Pc args s →
      W p l e (headSpec ws rm).room s m args below meth c s.heap [] 0 0 (vx_MQ below Qc XC args s mc ms free) (entryFrame m args maxL)) : vx_Met l y ws rm Pc Qc XC mc ms free := by
  refine MetFree.of_bodyS (code := cc) (maxLocals := maxL) (ret := ret) hy ?_ ?_
  · intro args s m h hn
    obtain ⟨meth, c, h1, h2, h3, h4, h5, h6, -, -⟩ := Cond.code_spec hn (atoms_spec (ws := ws) h _ (by rw [hw]; exact List.mem_cons_self))
    exact ⟨meth, c, h1, h2, h3, h4, h5, h6⟩
  · intro p e s m args below meth c s₁ B hml hP _
    have hh0 : s₁.heap = s.heap := by rw [B.state]; rfl
    have ht : ∀ x ∈ c.exceptionTable.toList, False := by
      obtain ⟨meth9, c9, h1, h2, -, -, -, -, h7, -⟩ := Cond.code_spec B.named (atoms_spec (ws := ws) B.pre _ (by rw [hw]; exact List.mem_cons_self))
      cases Option.some.inj (h1.symm.trans B.method)
      cases Option.some.inj (h2.symm.trans (Stand.of_body B).code)
      intro x hx
      rw [Array.isEmpty_iff.mp h7] at hx
      cases hx
    obtain ⟨t, a1, o, b1, b2, b3⟩ := body p e s m args below meth c s₁ B hml ht hP s₁ hh0 (Stand.of_body B)
    exact ⟨t, o, a1, b1, b2, b3⟩
/-- the table of a body with handlers -/
theorem vx_table {p : Program} {x y : MethodName} {S : Spec} {cc bytes : ByteArray} {maxL maxL' : Nat} {ret ret' : Option FieldType} {e : Env} {s s₁ : State} {m : MethodId} {args : Array Value} {below : List Frame} {meth : Method} {c : Code} {hh : List (Nat × Nat × Nat × Nat)}
    (B : BodyLoose p l y S cc maxL ret e s m args below meth c s₁) (h : (Cond.codeWith y bytes maxL' ret' hh).before args s = true) : c.exceptionTable.toList = tableOf hh := by
  obtain ⟨m9, meth9, c9, hn9, h1, h2, -, -, h6, -⟩ := Cond.codeWith_spec h
  cases Option.some.inj (hn9.symm.trans B.named)
  cases Option.some.inj (h1.symm.trans B.method)
  cases Option.some.inj (h2.symm.trans (Stand.of_body B).code)
  rw [← h6, table_eq]
end Bodies
end VXA
/-! ===== END ===== -/
/-! ===== BEGIN a static call of a method with an exception table ===== -/
section VXS
variable {p : Program} {l : Launch} {e : Env} {R : Room} {s : State} {m : MethodId} {args : Array Value} {below : List Frame} {meth : Method} {c : Code} {T : State} {H : Heap} {locs : List Loc} {cells slots : Nat}
abbrev vx_CSW (R : Room) (s : State) (args : Array Value) (own : String) (index : Nat) (y : MethodName) (bytes : ByteArray) (maxL : Nat) (ret : Option FieldType) (hh : List (Nat × Nat × Nat × Nat)) (ws : List Cond) (rm : Room) (mc ms n : Nat) : Prop :=
  (rm.cells = mc ∧ rm.slots = ms ∧ rm.frames + 1 ≤ R.frames ∧ 8 + (maxL + 11) + rm.locals ≤ R.locals ∧ (∀ w ∈ ws, ∀ (a' : Array Value) (U : State), s.WarmedH U.vm → w.before a' U = true) ∧ Cond.codeWith y bytes maxL ret hh ∈ ws) ∧
  (Cond.codeWith y bytes maxL ret hh).before args s = true ∧ (Cond.initialized y.cls).before args s = true ∧ (y.cls ≠ "java/lang/invoke/MethodHandle" ∧ y.cls ≠ "java/lang/invoke/VarHandle") ∧
  (∀ sig, parseMethodDescriptor y.desc = some sig → n = sig.parameters.length) ∧ (Cond.methodLink own index y).before args s = true ∧ (Cond.static y).before args s = true
theorem vx_cwSW {own : String} {index maxL mc ms : Nat} {y : MethodName} {bytes : ByteArray} {ret : Option FieldType} {hh : List (Nat × Nat × Nat × Nat)} {Ts ws ws' : List Cond} {rm : Room} (n : Nat) (ht : ∀ w ∈ Ts, w.before args s = true) (hT : GoodIn Ts (va_wsS own index y ws)) (hw : ws = Cond.codeWith y bytes maxL ret hh :: ws') (hrc : rm.cells = mc) (hrs : rm.slots = ms)
    (hd : y.cls ≠ "java/lang/invoke/MethodHandle" ∧ y.cls ≠ "java/lang/invoke/VarHandle" ∧ (parseMethodDescriptor y.desc).map (fun d => d.parameters.length) = some n) (hR : rm.frames + 1 ≤ R.frames ∧ 8 + (maxL + 11) + rm.locals ≤ R.locals) :
    vx_CSW R s args own index y bytes maxL ret hh ws rm mc ms n := by
  have ok : ∀ w ∈ va_wsS own index y ws, w.before args s = true := fun w h => ht w (hT w h).1
  have hG : GoodIn Ts ws := fun w h => hT w (by unfold va_wsS; exact List.mem_append_right _ h)
  have hc : Cond.codeWith y bytes maxL ret hh ∈ ws := by rw [hw]; exact List.mem_cons_self
  refine ⟨⟨hrc, hrs, hR.1, hR.2, pay_in ht hG, hc⟩, ht _ (hG _ hc).1, ok _ (by simp [va_wsS]), ⟨hd.1, hd.2.1⟩, fun sig h => ?_, ok _ (by simp [va_wsS]), ok _ (by simp [va_wsS])⟩
  have h2 := hd.2.2
  rw [h] at h2
  exact (Option.some.inj h2).symm
theorem vx_callSW (X : Stand p l e R s m args below meth c T locs cells slots) (hexec : p.tables.exec = Jvm.exec) {own : String} {index : Nat} {y : MethodName} {bytes : ByteArray} {maxL : Nat} {ret : Option FieldType} {hh : List (Nat × Nat × Nat × Nat)}
    (hown : s.vm.findClass own = some m.cls) (hlink : (Cond.methodLink own index y).before args s = true) (hstat : (Cond.static y).before args s = true) (hinit : (Cond.initialized y.cls).before args s = true)
    (hcode : (Cond.codeWith y bytes maxL ret hh).before args s = true) (hy : y.cls ≠ "java/lang/invoke/MethodHandle" ∧ y.cls ≠ "java/lang/invoke/VarHandle")
    {W9 : Nat} {Pre : Pt → Array Value → Prop} {Post : Pt → Array Value → Option Value → Pt → Prop} (hK : Back l R p e below s args y 3 W9 Pre Post)
    {g : JFrame} (hg : g.method = m) (hsize : g.locals.size = c.maxLocals) {argsL rest : List Value} (hlen : ∀ sig, parseMethodDescriptor y.desc = some sig → argsL.length = sig.parameters.length)
    (hstack : g.stack = argsL.reverse ++ rest) (hW : 2 * g.monitorRoom + (rest.map fun v => v.category).sum ≤ W9) (hdg : decode c.code g.pc = .ok (.invokestatic index, 3))
    (hpre : ∀ vm₁, s.WarmedH vm₁ → Pre ⟨T.setVm vm₁, locs, cells, slots⟩ argsL.toArray) :
    ∃ (v : Option Value) (vm₁ : Vm) (B : Pt), s.WarmedH vm₁ ∧ Stand p l e R s m args below meth c B.U B.locs B.cells B.slots ∧ Post ⟨T.setVm vm₁, locs, cells, slots⟩ argsL.toArray v B ∧
      ∀ target, Steps p.tables e below (B.U.setTop { g with pc := g.pc + 3, stack := v.toList ++ rest }) target → Steps p.tables e below (T.setTop g) target := by
  obtain ⟨mk, methM, cM, hnamed, hmethM, -, -, -, -, -, -, hsigM⟩ := Cond.codeWith_spec hcode
  have hstatic : methM.isStatic = true := Cond.static_spec hnamed hmethM hstat
  obtain ⟨kP, hkP, -⟩ := className_of_methodNamed hnamed
  have hinitP : kP.init = .initialized := Cond.initialized_spec (findClass_of_methodNamed hnamed) hkP hinit
  obtain ⟨vm₁, X₁, hstep₁⟩ := X.invokestatic hexec hown hlink hnamed hmethM hstatic hkP hinitP hy (g := g) hg (argsL := argsL) (rest := rest) (hlen _ hsigM) hstack hdg
  obtain ⟨v, B, X', hpost, hsteps⟩ := hK m meth c ⟨T.setVm vm₁, locs, cells, slots⟩ { g with stack := rest } (.invokestatic index) mk argsL.toArray X₁ hg hsize hdg hW (X₁.named hnamed) (hpre vm₁ X₁.warmed)
  exact ⟨v, vm₁, B, X₁.warmed, X', hpost, fun target h => hstep₁ _ fun acts => by rw [doInvoke_state]; exact hsteps.trans h⟩
theorem vx_runSW {y : MethodName} {bytes cc : ByteArray} {maxL nL mc ms n index : Nat} {ret : Option FieldType} {hh : List (Nat × Nat × Nat × Nat)} {ws : List Cond} {rm : Room} {Pc : Array Value → State → Prop} {Qc : Array Value → State → Outcome → State → Prop} {free : Addr → Prop} {Ts : List Cond} {own : String} {As rest : List Value} {g : JFrame}
    (S : CallFix p m c cc nL s args Ts own) (hM : Met l y ws rm Pc Qc mc ms free) (cw : vx_CSW R s args own index y bytes maxL ret hh ws rm mc ms n) (hp : PreS s H Pc As)
    (hg : g.method = m) (hn : As.length = n) (hsize : g.locals.size = nL) (hstack : g.stack = As.reverse ++ rest) (hW : 2 * g.monitorRoom + (rest.map fun v => v.category).sum ≤ 8) (hdg : decode cc g.pc = .ok (.invokestatic index, 3)) (hf : cells + mc ≤ R.cells ∧ slots + ms ≤ R.slots) :
    va_Run p l e R s m args below meth c H locs cells slots mc ms g rest (Qc As.toArray) (free) := by
  obtain ⟨⟨hrc, hrs, hfr, hlo, hws, hcw⟩, hcode, hini, hy, hlen, hl, hstt⟩ := cw
  have hK : Back l R p e below s args y 3 8 (PreOf R mc ms Pc) (PostOf Qc mc ms free) := va_backW (hh := hh) (bytes := bytes) (maxL := maxL) (ret := ret) hM hp.1 hrc hrs hfr hlo hws hcw (fun a' U hW => word_at hW (Or.inl (by first | rfl | simp [Cond.onTables, Cond.keeps, Cond.steady])) hini)
  obtain ⟨hx, hb, hml, ho, -⟩ := S
  intro T hT X
  obtain ⟨v, vm₁, ⟨U', l2, c2, s2⟩, hW₁, X', ⟨g', mk, t, L, e1, e2, hq, h1, hL, h2, h3⟩, st⟩ := vx_callSW X hx (hh := hh) (bytes := bytes) (maxL := maxL) (ret := ret) ho hl hstt hini hcode hy hK hg (hsize.trans hml.symm) (argsL := As) (rest := rest) (fun sig h => hn.trans (hlen sig h)) hstack hW (by rw [hb]; exact hdg)
    (fun vm₁ hW₁ => ⟨hf.1, hf.2, hp.2 (T.setVm vm₁) hT hW₁⟩)
  dsimp only [Pt.U, Pt.locs, Pt.cells, Pt.slots] at X' e1 e2 h1 h2 h3 st
  subst h1; subst h2; subst h3
  exact ⟨v, (T.setVm vm₁).calling g' mk As.toArray, t, U', L, hT, X', hL, e1, e2, hq, st⟩
/-- not caught here, past rows that name other classes: it goes on to the caller -/
theorem vx_outP {p : Program} {l : Launch} {e : Env} {R : Room} {s : State} {m : MethodId} {args : Array Value} {below : List Frame} {meth : Method} {c : Code} {H : Heap} {locs : List Loc} {cells slots : Nat} {free : Addr → Prop} {ls : Array Slot} {rest : List Value} {Qc : Array Value → State → Outcome → State → Prop} {XC : String → State → State → Prop}
    {pc : Nat} {own E : String} {ce : Cell} {q : Addr} {mc ms : Nat} (hown : s.vm.findClass own = some m.cls) (hlocks : meth.locks = false)
    (hpass : ∀ z ∈ c.exceptionTable.toList, covers z pc = false ∨ (z.catchType ≠ 0 ∧ ∃ nm : String, (Cond.classLink own z.catchType nm).before args s = true ∧ va_Nc E nm s)) (hcell : H[q]? = some ce) (hv : ce.vm = .none) (hcl : s.vm.findClass E = some ce.cls)
    (hx : ∀ t : State, t.heap = H → s.vm.Alike t.vm → XC E s t) (hf : ∀ z ∈ locs, free z.base) (hc : cells ≤ mc) (hs : slots ≤ ms) :
    vx_W p l e R s m args below meth c H locs cells slots (vx_MQ below Qc XC args s mc ms free) (F0 m pc ls rest) q := by
  intro T hT X
  have hpl : e.platform.magicAccessors = ({} : Platform).magicAccessors := by rw [X.admits.platform]
  obtain ⟨vm', hW', X', st⟩ := X.outThrough hlocks q (g := F0 m pc ls rest) rfl rfl rfl (cell := ce) (by rw [hT]; exact hcell) (by rw [hv]; rfl)
    (by obtain ⟨k9, h9, -⟩ := Vm.findClass_spec hcl; exact ⟨k9, h9⟩) (fun z hz => by
      rcases hpass z hz with h | ⟨hz0, nm, hl1, hn1⟩
      · exact Or.inl h
      · obtain ⟨c6, hc6, hcl6⟩ := Cond.classLink_spec hown hl1 e.platform hpl
        obtain ⟨a8, b8, h1, h2, h3⟩ := hn1
        cases Option.some.inj (h1.symm.trans hcl)
        cases Option.some.inj (h2.symm.trans hc6)
        exact Or.inr ⟨hz0, _, hcl6, h3⟩)
  obtain ⟨g₀, hfr⟩ := X'.frames_eq
  have hcell9 : ((T.setVm vm').setFrames (.throwing q :: below)).heap[q]? = some ce := by
    show T.heap[q]? = some ce
    rw [hT]; exact hcell
  have hend : Ended ((T.setVm vm').setFrames (.throwing q :: below)) below (.threw q) := State.frames_setFrames _ (State.cur_lt_of_frames hfr)
  refine ⟨(T.setVm vm').setFrames (.throwing q :: below), ?_, .threw q, X'.here.running, hend, Or.inr ⟨q, rfl, E, ce, locs, hx _ hT (X'.ends _).1.alike, hcell9, hv, hcl, (X'.ends _).1, (X'.ends _).2.mono hc hs, hf⟩⟩
  rw [X.pushThrowing_eq]
  exact st
/-- a thing of a world lies in the heap -/
theorem vx_lt {D : va_G} {cl : List vw_C} {ws : va_W} {H1 : Heap} (h : va_P D cl ws H1) {k : Nat} {q : Nat × va_E} (hk : ws[k]? = some q) : q.1 < H1.size := (h k q hk).lt
end VXS
/-! ===== END ===== -/
/-! ===== BEGIN methods with a table of their own: called by a name, returning or throwing ===== -/
section VXH
/-! vx_backW, vx_callVX, vx_callSX, vx_callVW, vx_runVW, vx_runVX, vx_runSX, vx_ofWH follow the same proofs as their sisters above (Free/Laws.lean, Shelf42/LK1.lean); vx_outP calls Shelf42/NT130.lean (outThrough). -/
section
variable {l : Launch} {R : Room} {p : Program} {e : Env} {below : List Frame} {s : State} {sargs : Array Value} {y : MethodName} {len W9 : Nat}
theorem vx_backW {ws : List Cond} {rm : Room} {Pc : Array Value → State → Prop} {Qc : Array Value → State → Outcome → State → Prop} {XC : String → State → State → Prop} {mc ms : Nat} {free : Addr → Prop} {bytes : ByteArray} {maxL : Nat} {ret : Option FieldType} {hh : List (Nat × Nat × Nat × Nat)}
    (hM : vx_Met l y ws rm Pc Qc XC mc ms free) (hblind : FrameBlind Pc) (hrc : rm.cells = mc) (hrs : rm.slots = ms)
    (hframes : rm.frames + 1 ≤ R.frames) (hlocals : W9 + (maxL + 11) + rm.locals ≤ R.locals)
    (hws : ∀ w ∈ ws, ∀ a' U, s.WarmedH U.vm → w.before a' U = true) (hcode : Cond.codeWith y bytes maxL ret hh ∈ ws) (hinit : ∀ a' U, s.WarmedH U.vm → (Cond.initialized y.cls).before a' U = true) :
    vx_Back l R p e below s sargs y len W9 (PreOf R mc ms Pc) (PostOf Qc mc ms free) (vx_Post XC mc ms free) := by
  intro m meth c A g ig mk a X hg hsize hdg hW hn hp
  have h1 : (headSpec ws rm).pre.before a A.U = true := atoms_intro fun w hw => hws w hw _ _ X.warmed
  have h2 : (Cond.codeWith y bytes maxL ret hh).before a A.U = true := hws _ hcode _ _ X.warmed
  have h3 : (Cond.initialized y.cls).before a A.U = true := hinit _ _ X.warmed
  have h4 : A.cells + (headSpec ws rm).room.cells ≤ R.cells := by rw [show (headSpec ws rm).room.cells = mc from hrc]; exact hp.1
  have h5 : A.slots + (headSpec ws rm).room.slots ≤ R.slots := by rw [show (headSpec ws rm).room.slots = ms from hrs]; exact hp.2.1
  have hPc : Pc a (A.U.calling g mk a) := hblind _ _ _ _ hp.2.2
  obtain ⟨U, Ls, c0, s0⟩ := A
  dsimp only [Pt.U, Pt.locs, Pt.cells, Pt.slots] at h1 h2 h3 h4 h5 X hn hPc ⊢
  obtain ⟨m9, methY, cY, hn9, hmY, hcY, -, hlY, -⟩ := Cond.codeWith_spec h2
  cases Option.some.inj (hn9.symm.trans hn)
  obtain ⟨kY, hkY, -⟩ := className_of_methodNamed hn
  have hinitY : kY.init = .initialized := Cond.initialized_spec (findClass_of_methodNamed hn) hkY h3
  have h : At U g.method c below := by rw [hg]; exact X.here
  have hlocals9 : W9 + (maxL + 11) + (headSpec ws rm).room.locals ≤ R.locals := hlocals
  have happ : (headSpec ws rm).appliesLoose y e.platform (U.calling g mk a) = true :=
    Spec.appliesLoose_calling (g := g) h hdg hn hkY hinitY
      (X.room_calling (g := g) (R' := (headSpec ws rm).room) hsize hmY hcY hframes (by rw [hlY]; omega) h4 h5) h1
  obtain ⟨mid, hmid⟩ := h.above
  have hfr : (U.setTop g).frames = (.java g :: mid) ++ below := by rw [State.frames_setTop' g h.top, hmid]; rfl
  obtain ⟨o, s₂, hsteps, -, hend, hq⟩ := Steps.callFree hM p X.admits X.cas X.clock (acts := []) hfr happ hPc trivial
  have hq' : vx_Q Qc XC mc ms free a (U.calling g mk a) o s₂ := hq
  rw [State.frames_setTop' g h.top] at hend
  obtain ⟨g₀, hg0⟩ := Option.isSome_iff_exists.mp h.top
  obtain ⟨r, hr⟩ := State.topJava?_eq_some.mp hg0
  have hr' : (({ U with heap := s₂.heap, slotsUsed := s₂.slotsUsed } : State).setVm s₂.vm).frames = .java g₀ :: r := hr
  rcases hq' with ⟨hqc, L, hfe, hL⟩ | ⟨q, rfl, E, ce, L, hx, hce, hcv, hcl, hW₂, hsm, hL⟩
  · obtain ⟨⟨v, rfl⟩, hW₂, e2, q2, q3, q4, q5, q6⟩ := id hfe
    have e3 : s₂ = ({ (U.calling g mk a).setFrames s₂.frames with heap := s₂.heap, slotsUsed := s₂.slotsUsed } : State).setVm s₂.vm := by
      have : s₂ = ({ s₂ with vm := (U.calling g mk a).vm } : State).setVm s₂.vm := rfl
      rw [e2] at this
      exact this
    obtain ⟨c₂, i₂, len₂, hc₂, hd₂, hf₂⟩ := hend
    have hW' : U.WarmedH s₂.vm := hW₂
    have hcc : c₂ = c := by
      have h1 : s₂.code? g.method = U.code? g.method := by
        rw [State.code?_eq, State.code?_eq, hW'.alike.method?]
      exact Option.some.inj (hc₂.symm.trans (h1.trans h.code))
    subst hcc
    have hlen : len₂ = len := by rw [hdg] at hd₂; cases hd₂; rfl
    subst hlen
    have hs₂ : s₂ = (({ U with heap := s₂.heap, slotsUsed := s₂.slotsUsed } : State).setVm s₂.vm).setTop { g with pc := g.pc + len₂, stack := v.toList ++ g.stack } := by
      refine e3.trans ?_
      rw [hf₂, State.calling_eq h.top, State.setFrames_setFrames, State.setTop_of_frames _ hr', hr]
      rfl
    have hsame : U.sameButNew ({ U with heap := s₂.heap, slotsUsed := s₂.slotsUsed } : State) L mc ms := by
      refine ⟨?_, q2, q3, q4, q5, q6⟩
      obtain ⟨t, ht, -⟩ := State.frames_cons hr
      show ({ U with heap := s₂.heap, slotsUsed := s₂.slotsUsed } : State) = { U.setFrames U.frames with heap := s₂.heap, slotsUsed := s₂.slotsUsed }
      rw [State.setFrames_self ht]
    subst hg
    refine Or.inl ⟨v, ⟨(({ U with heap := s₂.heap, slotsUsed := s₂.slotsUsed } : State).setVm s₂.vm), Ls ++ L, c0 + mc, s0 + ms⟩,
      ⟨X.admits, X.cas, X.clock, X.frames, X.room, X.hears, X.method, X.code, (X.here.setHeapUsed s₂.heap s₂.slotsUsed).setVm hW'.alike, X.tail, State.WarmedH.trans X.warmed hW', X.limits, X.bytes, X.same.trans (hsame.setVm s.vm)⟩,
      ⟨g, mk, s₂, L, rfl, rfl, hqc, rfl, hL, rfl, rfl⟩, ?_⟩
    show Steps p.tables e below _ ((({ U with heap := s₂.heap, slotsUsed := s₂.slotsUsed } : State).setVm s₂.vm).setTop { g with pc := g.pc + len₂, stack := v.toList ++ g.stack })
    rw [← hs₂]
    exact hsteps
  · obtain ⟨e2, q2, q3, q4, q5, q6⟩ := id hsm
    have e3 : s₂ = ({ (U.calling g mk a).setFrames s₂.frames with heap := s₂.heap, slotsUsed := s₂.slotsUsed } : State).setVm s₂.vm := by
      have : s₂ = ({ s₂ with vm := (U.calling g mk a).vm } : State).setVm s₂.vm := rfl
      rw [e2] at this
      exact this
    have hf₂ : s₂.frames = .throwing q :: .java g :: U.frames.tail := hend
    have hW' : U.WarmedH s₂.vm := hW₂
    have hs₂ : s₂ = ((({ U with heap := s₂.heap, slotsUsed := s₂.slotsUsed } : State).setVm s₂.vm).setTop g).pushFrame (.throwing q) := by
      refine e3.trans ?_
      rw [hf₂, State.calling_eq h.top, State.setFrames_setFrames, State.pushFrame, State.frames_setTop _ hr', State.setTop_of_frames _ hr', State.setFrames_setFrames, hr]
      rfl
    have hsame : U.sameButNew ({ U with heap := s₂.heap, slotsUsed := s₂.slotsUsed } : State) L mc ms := by
      refine ⟨?_, q2, q3, q4, q5, q6⟩
      obtain ⟨t, ht, -⟩ := State.frames_cons hr
      show ({ U with heap := s₂.heap, slotsUsed := s₂.slotsUsed } : State) = { U.setFrames U.frames with heap := s₂.heap, slotsUsed := s₂.slotsUsed }
      rw [State.setFrames_self ht]
    subst hg
    refine Or.inr ⟨q, ⟨(({ U with heap := s₂.heap, slotsUsed := s₂.slotsUsed } : State).setVm s₂.vm), Ls ++ L, c0 + mc, s0 + ms⟩,
      ⟨X.admits, X.cas, X.clock, X.frames, X.room, X.hears, X.method, X.code, (X.here.setHeapUsed s₂.heap s₂.slotsUsed).setVm hW'.alike, X.tail, State.WarmedH.trans X.warmed hW', X.limits, X.bytes, X.same.trans (hsame.setVm s.vm)⟩,
      ⟨g, mk, s₂, L, E, ce, rfl, rfl, hx, hce, hcv, hcl, rfl, hL, rfl, rfl⟩, ?_⟩
    show Steps p.tables e below _ (((({ U with heap := s₂.heap, slotsUsed := s₂.slotsUsed } : State).setVm s₂.vm).setTop g).pushFrame (.throwing q))
    rw [← hs₂]
    exact hsteps
end
variable {p : Program} {l : Launch} {e : Env} {R : Room} {s : State} {m : MethodId} {args : Array Value} {below : List Frame} {meth : Method} {c : Code} {T : State} {H : Heap} {locs : List Loc} {cells slots : Nat}
theorem vx_callVX (X : Stand p l e R s m args below meth c T locs cells slots) (hexec : p.tables.exec = Jvm.exec) {own C : String} {index : Nat} {y : MethodName} {bytes : ByteArray} {maxL : Nat} {ret : Option FieldType} {hh : List (Nat × Nat × Nat × Nat)}
    (hown : s.vm.findClass own = some m.cls) (hlink : (Cond.methodLink own index y).before args s = true) (hinst : (Cond.instanceMethod y).before args s = true) (hsel : (Cond.selects C y y).before args s = true)
    (hcode : (Cond.codeWith y bytes maxL ret hh).before args s = true) (hy : y.cls ≠ "java/lang/invoke/MethodHandle" ∧ y.cls ≠ "java/lang/invoke/VarHandle")
    {W9 : Nat} {Pre : Pt → Array Value → Prop} {Post : Pt → Array Value → Option Value → Pt → Prop} {PostX : Pt → Array Value → Addr → Pt → Prop} (hK : vx_Back l R p e below s args y 3 W9 Pre Post PostX)
    {b : Addr} {cellB : Cell} (hcell : T.heap[b]? = some cellB) (hobj : cellB.vm.isStatics = false) (hcls : s.vm.findClass C = some cellB.cls)
    {g : JFrame} (hg : g.method = m) (hsize : g.locals.size = c.maxLocals) {argsL rest : List Value} (hlen : ∀ sig, parseMethodDescriptor y.desc = some sig → argsL.length = sig.parameters.length)
    (hstack : g.stack = argsL.reverse ++ .ref b :: rest) (hW : 2 * g.monitorRoom + (rest.map fun v => v.category).sum ≤ W9) (hdg : decode c.code g.pc = .ok (.invokevirtual index, 3))
    (hpre : ∀ vm₁, s.WarmedH vm₁ → Pre ⟨T.setVm vm₁, locs, cells, slots⟩ (Value.ref b :: argsL).toArray) :
    (∃ (v : Option Value) (vm₁ : Vm) (B : Pt), s.WarmedH vm₁ ∧ Stand p l e R s m args below meth c B.U B.locs B.cells B.slots ∧ Post ⟨T.setVm vm₁, locs, cells, slots⟩ (Value.ref b :: argsL).toArray v B ∧
      ∀ target, Steps p.tables e below (B.U.setTop { g with pc := g.pc + 3, stack := v.toList ++ rest }) target → Steps p.tables e below (T.setTop g) target) ∨
    (∃ (q : Addr) (vm₁ : Vm) (B : Pt), s.WarmedH vm₁ ∧ Stand p l e R s m args below meth c B.U B.locs B.cells B.slots ∧ PostX ⟨T.setVm vm₁, locs, cells, slots⟩ (Value.ref b :: argsL).toArray q B ∧
      Steps p.tables e below (T.setTop g) ((B.U.setTop { g with stack := rest }).pushFrame (.throwing q))) := by
  obtain ⟨mk, methM, hnamed, hmethM, hstM, habM⟩ := Cond.instanceMethod_spec hinst
  obtain ⟨m8, methM', cM, hn8, hmethM', -, -, -, -, -, -, hsigM⟩ := Cond.codeWith_spec hcode
  cases Option.some.inj (hn8.symm.trans hnamed)
  cases hmethM.symm.trans hmethM'
  obtain ⟨c2, r2, m2, q1, q2, q3, q4, kP, hkP, hkPi⟩ := Cond.selects_spec hsel
  cases hcls.symm.trans q1
  cases (State.methodFound?_of_named hnamed hy).symm.trans q2
  cases hnamed.symm.trans q3
  have hselP : selectMethod e.platform s.vm cellB.cls mk = .method mk := by rw [Launch.admits_selectMethod X.admits]; exact q4
  obtain ⟨vm₁, X₁, hstep₁⟩ := X.invokevirtual hexec hown hlink hnamed hmethM hstM hkP hkPi hy (a := b) (cell := cellB) hcell
    (fun z h => by rw [h] at hobj; cases hobj) hselP hmethM habM hkP hkPi (g := g) hg (argsL := argsL) (rest := rest) (hlen _ hsigM) hstack hdg
  rcases hK m meth c ⟨T.setVm vm₁, locs, cells, slots⟩ { g with stack := rest } (.invokevirtual index) mk (Value.ref b :: argsL).toArray X₁ hg hsize hdg hW (X₁.named hnamed) (hpre vm₁ X₁.warmed) with ⟨v, B, X', hpost, hsteps⟩ | ⟨q, B, X', hpost, hsteps⟩
  · exact Or.inl ⟨v, vm₁, B, X₁.warmed, X', hpost, fun target h => hstep₁ _ fun acts => by rw [doInvoke_state]; exact hsteps.trans h⟩
  · exact Or.inr ⟨q, vm₁, B, X₁.warmed, X', hpost, hstep₁ _ fun acts => by rw [doInvoke_state]; exact hsteps⟩
theorem vx_callSX (X : Stand p l e R s m args below meth c T locs cells slots) (hexec : p.tables.exec = Jvm.exec) {own : String} {index : Nat} {y : MethodName} {bytes : ByteArray} {maxL : Nat} {ret : Option FieldType} {hh : List (Nat × Nat × Nat × Nat)}
    (hown : s.vm.findClass own = some m.cls) (hlink : (Cond.methodLink own index y).before args s = true) (hstat : (Cond.static y).before args s = true) (hinit : (Cond.initialized y.cls).before args s = true)
    (hcode : (Cond.codeWith y bytes maxL ret hh).before args s = true) (hy : y.cls ≠ "java/lang/invoke/MethodHandle" ∧ y.cls ≠ "java/lang/invoke/VarHandle")
    {W9 : Nat} {Pre : Pt → Array Value → Prop} {Post : Pt → Array Value → Option Value → Pt → Prop} {PostX : Pt → Array Value → Addr → Pt → Prop} (hK : vx_Back l R p e below s args y 3 W9 Pre Post PostX)
    {g : JFrame} (hg : g.method = m) (hsize : g.locals.size = c.maxLocals) {argsL rest : List Value} (hlen : ∀ sig, parseMethodDescriptor y.desc = some sig → argsL.length = sig.parameters.length)
    (hstack : g.stack = argsL.reverse ++ rest) (hW : 2 * g.monitorRoom + (rest.map fun v => v.category).sum ≤ W9) (hdg : decode c.code g.pc = .ok (.invokestatic index, 3))
    (hpre : ∀ vm₁, s.WarmedH vm₁ → Pre ⟨T.setVm vm₁, locs, cells, slots⟩ argsL.toArray) :
    (∃ (v : Option Value) (vm₁ : Vm) (B : Pt), s.WarmedH vm₁ ∧ Stand p l e R s m args below meth c B.U B.locs B.cells B.slots ∧ Post ⟨T.setVm vm₁, locs, cells, slots⟩ argsL.toArray v B ∧
      ∀ target, Steps p.tables e below (B.U.setTop { g with pc := g.pc + 3, stack := v.toList ++ rest }) target → Steps p.tables e below (T.setTop g) target) ∨
    (∃ (q : Addr) (vm₁ : Vm) (B : Pt), s.WarmedH vm₁ ∧ Stand p l e R s m args below meth c B.U B.locs B.cells B.slots ∧ PostX ⟨T.setVm vm₁, locs, cells, slots⟩ argsL.toArray q B ∧
      Steps p.tables e below (T.setTop g) ((B.U.setTop { g with stack := rest }).pushFrame (.throwing q))) := by
  obtain ⟨mk, methM, cM, hnamed, hmethM, -, -, -, -, -, -, hsigM⟩ := Cond.codeWith_spec hcode
  have hstatic : methM.isStatic = true := Cond.static_spec hnamed hmethM hstat
  obtain ⟨kP, hkP, -⟩ := className_of_methodNamed hnamed
  have hinitP : kP.init = .initialized := Cond.initialized_spec (findClass_of_methodNamed hnamed) hkP hinit
  obtain ⟨vm₁, X₁, hstep₁⟩ := X.invokestatic hexec hown hlink hnamed hmethM hstatic hkP hinitP hy (g := g) hg (argsL := argsL) (rest := rest) (hlen _ hsigM) hstack hdg
  rcases hK m meth c ⟨T.setVm vm₁, locs, cells, slots⟩ { g with stack := rest } (.invokestatic index) mk argsL.toArray X₁ hg hsize hdg hW (X₁.named hnamed) (hpre vm₁ X₁.warmed) with ⟨v, B, X', hpost, hsteps⟩ | ⟨q, B, X', hpost, hsteps⟩
  · exact Or.inl ⟨v, vm₁, B, X₁.warmed, X', hpost, fun target h => hstep₁ _ fun acts => by rw [doInvoke_state]; exact hsteps.trans h⟩
  · exact Or.inr ⟨q, vm₁, B, X₁.warmed, X', hpost, hstep₁ _ fun acts => by rw [doInvoke_state]; exact hsteps⟩
theorem vx_callVW (X : Stand p l e R s m args below meth c T locs cells slots) (hexec : p.tables.exec = Jvm.exec) {own C : String} {index : Nat} {y : MethodName} {bytes : ByteArray} {maxL : Nat} {ret : Option FieldType} {hh : List (Nat × Nat × Nat × Nat)}
    (hown : s.vm.findClass own = some m.cls) (hlink : (Cond.methodLink own index y).before args s = true) (hinst : (Cond.instanceMethod y).before args s = true) (hsel : (Cond.selects C y y).before args s = true)
    (hcode : (Cond.codeWith y bytes maxL ret hh).before args s = true) (hy : y.cls ≠ "java/lang/invoke/MethodHandle" ∧ y.cls ≠ "java/lang/invoke/VarHandle")
    {W9 : Nat} {Pre : Pt → Array Value → Prop} {Post : Pt → Array Value → Option Value → Pt → Prop} (hK : Back l R p e below s args y 3 W9 Pre Post)
    {b : Addr} {cellB : Cell} (hcell : T.heap[b]? = some cellB) (hobj : cellB.vm.isStatics = false) (hcls : s.vm.findClass C = some cellB.cls)
    {g : JFrame} (hg : g.method = m) (hsize : g.locals.size = c.maxLocals) {argsL rest : List Value} (hlen : ∀ sig, parseMethodDescriptor y.desc = some sig → argsL.length = sig.parameters.length)
    (hstack : g.stack = argsL.reverse ++ .ref b :: rest) (hW : 2 * g.monitorRoom + (rest.map fun v => v.category).sum ≤ W9) (hdg : decode c.code g.pc = .ok (.invokevirtual index, 3))
    (hpre : ∀ vm₁, s.WarmedH vm₁ → Pre ⟨T.setVm vm₁, locs, cells, slots⟩ (Value.ref b :: argsL).toArray) :
    ∃ (v : Option Value) (vm₁ : Vm) (B : Pt), s.WarmedH vm₁ ∧ Stand p l e R s m args below meth c B.U B.locs B.cells B.slots ∧ Post ⟨T.setVm vm₁, locs, cells, slots⟩ (Value.ref b :: argsL).toArray v B ∧
      ∀ target, Steps p.tables e below (B.U.setTop { g with pc := g.pc + 3, stack := v.toList ++ rest }) target → Steps p.tables e below (T.setTop g) target := by
  obtain ⟨mk, methM, hnamed, hmethM, hstM, habM⟩ := Cond.instanceMethod_spec hinst
  obtain ⟨m8, methM', cM, hn8, hmethM', -, -, -, -, -, -, hsigM⟩ := Cond.codeWith_spec hcode
  cases Option.some.inj (hn8.symm.trans hnamed)
  cases hmethM.symm.trans hmethM'
  obtain ⟨c2, r2, m2, q1, q2, q3, q4, kP, hkP, hkPi⟩ := Cond.selects_spec hsel
  cases hcls.symm.trans q1
  cases (State.methodFound?_of_named hnamed hy).symm.trans q2
  cases hnamed.symm.trans q3
  have hselP : selectMethod e.platform s.vm cellB.cls mk = .method mk := by rw [Launch.admits_selectMethod X.admits]; exact q4
  obtain ⟨vm₁, X₁, hstep₁⟩ := X.invokevirtual hexec hown hlink hnamed hmethM hstM hkP hkPi hy (a := b) (cell := cellB) hcell
    (fun z h => by rw [h] at hobj; cases hobj) hselP hmethM habM hkP hkPi (g := g) hg (argsL := argsL) (rest := rest) (hlen _ hsigM) hstack hdg
  obtain ⟨v, B, X', hpost, hsteps⟩ := hK m meth c ⟨T.setVm vm₁, locs, cells, slots⟩ { g with stack := rest } (.invokevirtual index) mk (Value.ref b :: argsL).toArray X₁ hg hsize hdg hW (X₁.named hnamed) (hpre vm₁ X₁.warmed)
  exact ⟨v, vm₁, B, X₁.warmed, X', hpost, fun target h => hstep₁ _ fun acts => by rw [doInvoke_state]; exact hsteps.trans h⟩
abbrev vx_CVW (R : Room) (s : State) (args : Array Value) (own C : String) (index : Nat) (y : MethodName) (bytes : ByteArray) (maxL : Nat) (ret : Option FieldType) (hh : List (Nat × Nat × Nat × Nat)) (ws : List Cond) (rm : Room) (mc ms n : Nat) : Prop :=
  (rm.cells = mc ∧ rm.slots = ms ∧ rm.frames + 1 ≤ R.frames ∧ 8 + (maxL + 11) + rm.locals ≤ R.locals ∧ (∀ w ∈ ws, ∀ (a' : Array Value) (U : State), s.WarmedH U.vm → w.before a' U = true) ∧ Cond.codeWith y bytes maxL ret hh ∈ ws) ∧
  (Cond.codeWith y bytes maxL ret hh).before args s = true ∧ (Cond.initialized y.cls).before args s = true ∧ (y.cls ≠ "java/lang/invoke/MethodHandle" ∧ y.cls ≠ "java/lang/invoke/VarHandle") ∧
  (∀ sig, parseMethodDescriptor y.desc = some sig → n = sig.parameters.length) ∧ (Cond.methodLink own index y).before args s = true ∧ (Cond.instanceMethod y).before args s = true ∧ (Cond.selects C y y).before args s = true
theorem vx_cwVW {own C : String} {index maxL mc ms : Nat} {y : MethodName} {bytes : ByteArray} {ret : Option FieldType} {hh : List (Nat × Nat × Nat × Nat)} {Ts ws ws' : List Cond} {rm : Room} (n : Nat) (ht : ∀ w ∈ Ts, w.before args s = true) (hT : GoodIn Ts (wsV own index C y ws)) (hw : ws = Cond.codeWith y bytes maxL ret hh :: ws') (hrc : rm.cells = mc) (hrs : rm.slots = ms)
    (hd : y.cls = C ∧ y.cls ≠ "java/lang/invoke/MethodHandle" ∧ y.cls ≠ "java/lang/invoke/VarHandle" ∧ (parseMethodDescriptor y.desc).map (fun d => d.parameters.length) = some n) (hR : rm.frames + 1 ≤ R.frames ∧ 8 + (maxL + 11) + rm.locals ≤ R.locals) :
    vx_CVW R s args own C index y bytes maxL ret hh ws rm mc ms n := by
  obtain ⟨hC, hd⟩ := hd
  subst hC
  have ok : ∀ w ∈ wsV own index y.cls y ws, w.before args s = true := fun w h => ht w (hT w h).1
  have hG : GoodIn Ts ws := fun w h => hT w (by unfold wsV; exact List.mem_append_right _ h)
  have hc : Cond.codeWith y bytes maxL ret hh ∈ ws := by rw [hw]; exact List.mem_cons_self
  refine ⟨⟨hrc, hrs, hR.1, hR.2, pay_in ht hG, hc⟩, ht _ (hG _ hc).1, ok _ (by simp [wsV]), ⟨hd.1, hd.2.1⟩, fun sig h => ?_, ok _ (by simp [wsV]), ok _ (by simp [wsV]), ok _ (by simp [wsV])⟩
  have h2 := hd.2.2
  rw [h] at h2
  exact (Option.some.inj h2).symm
theorem vx_runVW {y : MethodName} {bytes cc : ByteArray} {maxL nL mc ms n index : Nat} {ret : Option FieldType} {hh : List (Nat × Nat × Nat × Nat)} {ws : List Cond} {rm : Room} {Pc : Array Value → State → Prop} {Qc : Array Value → State → Outcome → State → Prop} {free : Addr → Prop} {Ts : List Cond} {own C : String} {b : Addr} {As rest : List Value} {g : JFrame}
    (S : CallFix p m c cc nL s args Ts own) (hM : Met l y ws rm Pc Qc mc ms free) (cw : vx_CVW R s args own C index y bytes maxL ret hh ws rm mc ms n) (hp : PreV s H C b Pc As)
    (hg : g.method = m) (hn : As.length = n) (hsize : g.locals.size = nL) (hstack : g.stack = As.reverse ++ .ref b :: rest) (hW : 2 * g.monitorRoom + (rest.map fun v => v.category).sum ≤ 8) (hdg : decode cc g.pc = .ok (.invokevirtual index, 3)) (hf : cells + mc ≤ R.cells ∧ slots + ms ≤ R.slots) :
    va_Run p l e R s m args below meth c H locs cells slots mc ms g rest (Qc (Value.ref b :: As).toArray) free := by
  obtain ⟨⟨hrc, hrs, hfr, hlo, hws, hcw⟩, hcode, hini, hy, hlen, hl, hin, hse⟩ := cw
  have hK : Back l R p e below s args y 3 8 (PreOf R mc ms Pc) (PostOf Qc mc ms free) := va_backW (hh := hh) (bytes := bytes) (maxL := maxL) (ret := ret) hM hp.1 hrc hrs hfr hlo hws hcw (fun a' U hW => word_at hW (Or.inl (by first | rfl | simp [Cond.onTables, Cond.keeps, Cond.steady])) hini)
  obtain ⟨hx, hb, hml, ho, -⟩ := S
  obtain ⟨-, ⟨cellB, hcB, hoB, hclB⟩, hPc⟩ := hp
  intro T hT X
  obtain ⟨v, vm₁, ⟨U', l2, c2, s2⟩, hW₁, X', ⟨g', mk, t, L, e1, e2, hq, h1, hL, h2, h3⟩, st⟩ := vx_callVW X hx (C := C) (hh := hh) (bytes := bytes) (maxL := maxL) (ret := ret) ho hl hin hse hcode hy hK (by rw [hT]; exact hcB) hoB hclB hg (hsize.trans hml.symm) (argsL := As) (rest := rest) (fun sig h => hn.trans (hlen sig h)) hstack hW (by rw [hb]; exact hdg)
    (fun vm₁ hW₁ => ⟨hf.1, hf.2, hPc (T.setVm vm₁) hT hW₁⟩)
  dsimp only [Pt.U, Pt.locs, Pt.cells, Pt.slots] at X' e1 e2 h1 h2 h3 st
  subst h1; subst h2; subst h3
  exact ⟨v, (T.setVm vm₁).calling g' mk (Value.ref b :: As).toArray, t, U', L, hT, X', hL, e1, e2, hq, st⟩
section
variable {y : MethodName} {bytes cc : ByteArray} {maxL nL mc ms n index : Nat} {ret : Option FieldType} {ws : List Cond} {rm : Room} {Pc : Array Value → State → Prop} {Qc : Array Value → State → Outcome → State → Prop} {XC : String → State → State → Prop} {free : Addr → Prop} {Ts : List Cond} {own C : String} {b : Addr} {As rest : List Value} {g : JFrame}
theorem vx_runVX {hh : List (Nat × Nat × Nat × Nat)} (S : CallFix p m c cc nL s args Ts own) (hM : vx_Met l y ws rm Pc Qc XC mc ms free) (cw : vx_CVW R s args own C index y bytes maxL ret hh ws rm mc ms n) (hp : PreV s H C b Pc As)
    (hg : g.method = m) (hn : As.length = n) (hsize : g.locals.size = nL) (hstack : g.stack = As.reverse ++ .ref b :: rest) (hW : 2 * g.monitorRoom + (rest.map fun v => v.category).sum ≤ 8) (hdg : decode cc g.pc = .ok (.invokevirtual index, 3)) (hf : cells + mc ≤ R.cells ∧ slots + ms ≤ R.slots) :
    vx_Run p l e R s m args below meth c H locs cells slots mc ms g rest (Qc (Value.ref b :: As).toArray) XC free := by
  obtain ⟨⟨hrc, hrs, hfr, hlo, hws, hcw⟩, hcode, hini, hy, hlen, hl, hin, hse⟩ := cw
  have hK : vx_Back l R p e below s args y 3 8 (PreOf R mc ms Pc) (PostOf Qc mc ms free) (vx_Post XC mc ms free) := vx_backW (hh := hh) (bytes := bytes) (maxL := maxL) (ret := ret) hM hp.1 hrc hrs hfr hlo hws hcw (fun a' U hW => word_at hW (Or.inl (by first | rfl | simp [Cond.onTables, Cond.keeps, Cond.steady])) hini)
  obtain ⟨hx, hb, hml, ho, -⟩ := S
  obtain ⟨-, ⟨cellB, hcB, hoB, hclB⟩, hPc⟩ := hp
  intro T hT X
  rcases vx_callVX X hx (C := C) (hh := hh) (bytes := bytes) (maxL := maxL) (ret := ret) ho hl hin hse hcode hy hK (by rw [hT]; exact hcB) hoB hclB hg (hsize.trans hml.symm) (argsL := As) (rest := rest) (fun sig h => hn.trans (hlen sig h)) hstack hW (by rw [hb]; exact hdg)
    (fun vm₁ hW₁ => ⟨hf.1, hf.2, hPc (T.setVm vm₁) hT hW₁⟩) with ⟨v, vm₁, ⟨U', l2, c2, s2⟩, hW₁, X', ⟨g', mk, t, L, e1, e2, hq, h1, hL, h2, h3⟩, st⟩ | ⟨q, vm₁, ⟨U', l2, c2, s2⟩, hW₁, X', ⟨g', mk, t, L, E, ce, e1, e2, hq, hce, hcv, hcl, h1, hL, h2, h3⟩, st⟩
  · dsimp only [Pt.U, Pt.locs, Pt.cells, Pt.slots] at X' e1 e2 h1 h2 h3 st
    subst h1; subst h2; subst h3
    exact Or.inl ⟨v, (T.setVm vm₁).calling g' mk (Value.ref b :: As).toArray, t, U', L, hT, X', hL, e1, e2, hq, st⟩
  · dsimp only [Pt.U, Pt.locs, Pt.cells, Pt.slots] at X' e1 e2 h1 h2 h3 st hcl
    subst h1; subst h2; subst h3
    exact Or.inr ⟨q, (T.setVm vm₁).calling g' mk (Value.ref b :: As).toArray, t, U', L, E, ce, hT, X', hL, e1, e2, hq, hce, hcv, vx_cls hW₁ hcl, st⟩
theorem vx_runSX {hh : List (Nat × Nat × Nat × Nat)} (S : CallFix p m c cc nL s args Ts own) (hM : vx_Met l y ws rm Pc Qc XC mc ms free) (cw : vx_CSW R s args own index y bytes maxL ret hh ws rm mc ms n) (hp : PreS s H Pc As)
    (hg : g.method = m) (hn : As.length = n) (hsize : g.locals.size = nL) (hstack : g.stack = As.reverse ++ rest) (hW : 2 * g.monitorRoom + (rest.map fun v => v.category).sum ≤ 8) (hdg : decode cc g.pc = .ok (.invokestatic index, 3)) (hf : cells + mc ≤ R.cells ∧ slots + ms ≤ R.slots) :
    vx_Run p l e R s m args below meth c H locs cells slots mc ms g rest (Qc As.toArray) XC free := by
  obtain ⟨⟨hrc, hrs, hfr, hlo, hws, hcw⟩, hcode, hini, hy, hlen, hl, hstt⟩ := cw
  have hK : vx_Back l R p e below s args y 3 8 (PreOf R mc ms Pc) (PostOf Qc mc ms free) (vx_Post XC mc ms free) := vx_backW (hh := hh) (bytes := bytes) (maxL := maxL) (ret := ret) hM hp.1 hrc hrs hfr hlo hws hcw (fun a' U hW => word_at hW (Or.inl (by first | rfl | simp [Cond.onTables, Cond.keeps, Cond.steady])) hini)
  obtain ⟨hx, hb, hml, ho, -⟩ := S
  intro T hT X
  rcases vx_callSX X hx (hh := hh) (bytes := bytes) (maxL := maxL) (ret := ret) ho hl hstt hini hcode hy hK hg (hsize.trans hml.symm) (argsL := As) (rest := rest) (fun sig h => hn.trans (hlen sig h)) hstack hW (by rw [hb]; exact hdg)
    (fun vm₁ hW₁ => ⟨hf.1, hf.2, hp.2 (T.setVm vm₁) hT hW₁⟩) with ⟨v, vm₁, ⟨U', l2, c2, s2⟩, hW₁, X', ⟨g', mk, t, L, e1, e2, hq, h1, hL, h2, h3⟩, st⟩ | ⟨q, vm₁, ⟨U', l2, c2, s2⟩, hW₁, X', ⟨g', mk, t, L, E, ce, e1, e2, hq, hce, hcv, hcl, h1, hL, h2, h3⟩, st⟩
  · dsimp only [Pt.U, Pt.locs, Pt.cells, Pt.slots] at X' e1 e2 h1 h2 h3 st
    subst h1; subst h2; subst h3
    exact Or.inl ⟨v, (T.setVm vm₁).calling g' mk As.toArray, t, U', L, hT, X', hL, e1, e2, hq, st⟩
  · dsimp only [Pt.U, Pt.locs, Pt.cells, Pt.slots] at X' e1 e2 h1 h2 h3 st hcl
    subst h1; subst h2; subst h3
    exact Or.inr ⟨q, (T.setVm vm₁).calling g' mk As.toArray, t, U', L, E, ce, hT, X', hL, e1, e2, hq, hce, hcv, vx_cls hW₁ hcl, st⟩
end
end VXH
theorem vx_ofWH {l : Launch} {y : MethodName} {ws ws' : List Cond} {rm : Room} {Pc : Array Value → State → Prop} {Qc : Array Value → State → Outcome → State → Prop} {XC : String → State → State → Prop} {mc ms : Nat} {free : Addr → Prop} {cc : ByteArray} {maxL : Nat} {ret : Option FieldType} {hh : List (Nat × Nat × Nat × Nat)}
    (hy : plainName y.cls = true) (hw : ws = Cond.codeWith y cc maxL ret hh :: ws')
    (body : ∀ p e s m args below meth c s₁, BodyLoose p l y (headSpec ws rm) cc maxL ret e s m args below meth c s₁ → c.maxLocals = maxL → Pc args s →
      W p l e (headSpec ws rm).room s m args below meth c s.heap [] 0 0 (vx_MQ below Qc XC args s mc ms free) (entryFrame m args maxL)) : vx_Met l y ws rm Pc Qc XC mc ms free := by
  refine MetFree.of_bodyS (code := cc) (maxLocals := maxL) (ret := ret) hy ?_ ?_
  · intro args s m h hn
    obtain ⟨m9, meth, c, hn9, h1, h2, h3, h4, -, h5, h6, -⟩ := Cond.codeWith_spec (atoms_spec (ws := ws) h _ (by rw [hw]; exact List.mem_cons_self))
    cases hn.symm.trans hn9
    exact ⟨meth, c, h1, h2, h3, h4, h5, h6⟩
  · intro p e s m args below meth c s₁ B hml hP _
    have hh0 : s₁.heap = s.heap := by rw [B.state]; rfl
    obtain ⟨t, a1, o, b1, b2, b3⟩ := body p e s m args below meth c s₁ B hml hP s₁ hh0 (Stand.of_body B)
    exact ⟨t, o, a1, b1, b2, b3⟩
/-! ===== END ===== -/
end
section
/-- words that stay true under warmer tables -/
def okW : Cond → Bool
  | .arrayClass _ => true
  | .arrayOver (.object _) => true
  | .stringRef .. => true
  | .castable .. => true
  | .declares _ => true
  | w => w.onTables && w.keepsH
def TT : List Cond := lw_tbl.filter okW
theorem okW_warm {w : Cond} (h : okW w = true) {args a' : Array Value} {s U : State} (hW : s.WarmedH U.vm) (hb : w.before args s = true) : w.before a' U = true := by
  have gen : (w.onTables && w.keepsH) = true → w.before a' U = true := fun g => by
    simp only [Bool.and_eq_true] at g
    have h1 := Cond.onTables_warmH (T := U) (args' := a') hW g.1 g.2 hb
    rwa [State.setVm_self] at h1
  cases w with
  | arrayClass t => exact word_at hW (Or.inr ⟨t, rfl⟩) hb
  | arrayOver t =>
    cases t with
    | object C => exact (va_AO.moved hW.alike (va_AO.of hb)).use
    | _ => exact gen h
  | stringRef a b c =>
    have h2 : (Cond.stringRef a b c).before #[] (s.setVm U.vm) = true := Cond.stringRef_warmed hW hb
    exact h2
  | castable a b => exact va_Nw.use rfl (va_Nw.warmC hW (va_Nw.of rfl hb))
  | declares y => exact va_Nw.use rfl (va_Nw.warmD hW (va_Nw.of rfl hb))
  | _ => exact gen h
theorem TT_warm : ∀ x ∈ TT, ∀ (args a' : Array Value) (s U : State), s.WarmedH U.vm → x.before args s = true → x.before a' U = true := fun _ hx _ _ _ _ hW hb => okW_warm (List.mem_filter.mp hx).2 hW hb
theorem TT_in {k : Nat} {x : Cond} (h : lw_tbl[k]? = some x) (ho : okW x = true) : x ∈ TT := List.mem_filter.mpr ⟨List.mem_of_getElem? h, ho⟩
set_option maxRecDepth 20000 in
theorem m_0 : Cond.selects "TwoGenerations" ⟨"TwoGenerations", "isRegister", "(I)Z"⟩ ⟨"TwoGenerations", "isRegister", "(I)Z"⟩ ∈ TT := TT_in (k := 0) rfl rfl
set_option maxRecDepth 20000 in
theorem m_1 : Cond.selects "TwoGenerations" ⟨"TwoGenerations", "heldIn", "(I)LTwoGenerations$Value;"⟩ ⟨"TwoGenerations", "heldIn", "(I)LTwoGenerations$Value;"⟩ ∈ TT := TT_in (k := 1) rfl rfl
set_option maxRecDepth 20000 in
theorem m_2 : Cond.selects "TwoGenerations" ⟨"TwoGenerations", "plainIn", "(I)LTwoGenerations$Plain;"⟩ ⟨"TwoGenerations", "plainIn", "(I)LTwoGenerations$Plain;"⟩ ∈ TT := TT_in (k := 2) rfl rfl
set_option maxRecDepth 20000 in
theorem m_3 : Cond.selects "TwoGenerations" ⟨"TwoGenerations", "thingIn", "(I)LTwoGenerations$Thing;"⟩ ⟨"TwoGenerations", "thingIn", "(I)LTwoGenerations$Thing;"⟩ ∈ TT := TT_in (k := 3) rfl rfl
set_option maxRecDepth 20000 in
theorem m_4 : Cond.selects "TwoGenerations" ⟨"TwoGenerations", "collectOld", "()I"⟩ ⟨"TwoGenerations", "collectOld", "()I"⟩ ∈ TT := TT_in (k := 4) rfl rfl
set_option maxRecDepth 20000 in
theorem m_5 : Cond.selects "TwoGenerations" ⟨"TwoGenerations", "findRegisters", "()V"⟩ ⟨"TwoGenerations", "findRegisters", "()V"⟩ ∈ TT := TT_in (k := 5) rfl rfl
set_option maxRecDepth 20000 in
theorem m_6 : Cond.selects "java/lang/Throwable" ⟨"java/lang/Throwable", "fillInStackTrace", "(I)Ljava/lang/Throwable;"⟩ ⟨"java/lang/Throwable", "fillInStackTrace", "(I)Ljava/lang/Throwable;"⟩ ∈ TT := TT_in (k := 6) rfl rfl
set_option maxRecDepth 20000 in
theorem m_7 : Cond.selects "TwoGenerations" ⟨"TwoGenerations", "bear", "(ILTwoGenerations$Thing;)V"⟩ ⟨"TwoGenerations", "bear", "(ILTwoGenerations$Thing;)V"⟩ ∈ TT := TT_in (k := 7) rfl rfl
set_option maxRecDepth 20000 in
theorem m_8 : Cond.selects "TwoGenerations" ⟨"TwoGenerations", "collectYoung", "()I"⟩ ⟨"TwoGenerations", "collectYoung", "()I"⟩ ∈ TT := TT_in (k := 8) rfl rfl
set_option maxRecDepth 20000 in
theorem m_9 : Cond.selects "TwoGenerations" ⟨"TwoGenerations", "weakIn", "(I)LTwoGenerations$Weak;"⟩ ⟨"TwoGenerations", "weakIn", "(I)LTwoGenerations$Weak;"⟩ ∈ TT := TT_in (k := 9) rfl rfl
set_option maxRecDepth 20000 in
theorem m_10 : Cond.selects "TwoGenerationsModel" ⟨"TwoGenerationsModel", "is", "(I)Z"⟩ ⟨"TwoGenerationsModel", "is", "(I)Z"⟩ ∈ TT := TT_in (k := 10) rfl rfl
set_option maxRecDepth 20000 in
theorem m_11 : Cond.selects "TwoGenerationsModel" ⟨"TwoGenerationsModel", "when", "(ZI)Z"⟩ ⟨"TwoGenerationsModel", "when", "(ZI)Z"⟩ ∈ TT := TT_in (k := 11) rfl rfl
set_option maxRecDepth 20000 in
theorem m_12 : Cond.selects "TwoGenerationsModel" ⟨"TwoGenerationsModel", "room", "(I)Z"⟩ ⟨"TwoGenerationsModel", "room", "(I)Z"⟩ ∈ TT := TT_in (k := 12) rfl rfl
set_option maxRecDepth 20000 in
theorem m_13 : Cond.selects "TwoGenerationsModel" ⟨"TwoGenerationsModel", "taken", "(Z)I"⟩ ⟨"TwoGenerationsModel", "taken", "(Z)I"⟩ ∈ TT := TT_in (k := 13) rfl rfl
set_option maxRecDepth 20000 in
theorem m_14 : Cond.selects "TwoGenerationsModel" ⟨"TwoGenerationsModel", "cellsOf", "(I)I"⟩ ⟨"TwoGenerationsModel", "cellsOf", "(I)I"⟩ ∈ TT := TT_in (k := 14) rfl rfl
set_option maxRecDepth 20000 in
theorem m_15 : Cond.selects "TwoGenerationsModel" ⟨"TwoGenerationsModel", "grow", "()I"⟩ ⟨"TwoGenerationsModel", "grow", "()I"⟩ ∈ TT := TT_in (k := 15) rfl rfl
set_option maxRecDepth 20000 in
theorem m_16 : Cond.selects "TwoGenerationsModel" ⟨"TwoGenerationsModel", "clearOld", "()I"⟩ ⟨"TwoGenerationsModel", "clearOld", "()I"⟩ ∈ TT := TT_in (k := 16) rfl rfl
set_option maxRecDepth 20000 in
theorem m_17 : Cond.selects "TwoGenerationsModel" ⟨"TwoGenerationsModel", "nothing", "()V"⟩ ⟨"TwoGenerationsModel", "nothing", "()V"⟩ ∈ TT := TT_in (k := 17) rfl rfl
set_option maxRecDepth 20000 in
theorem m_18 : Cond.selects "TwoGenerationsModel" ⟨"TwoGenerationsModel", "markRegisters", "()V"⟩ ⟨"TwoGenerationsModel", "markRegisters", "()V"⟩ ∈ TT := TT_in (k := 18) rfl rfl
set_option maxRecDepth 20000 in
theorem m_19 : Cond.selects "TwoGenerationsModel" ⟨"TwoGenerationsModel", "mark", "(J)V"⟩ ⟨"TwoGenerationsModel", "mark", "(J)V"⟩ ∈ TT := TT_in (k := 19) rfl rfl
set_option maxRecDepth 20000 in
theorem m_20 : Cond.selects "TwoGenerationsModel" ⟨"TwoGenerationsModel", "spread", "()V"⟩ ⟨"TwoGenerationsModel", "spread", "()V"⟩ ∈ TT := TT_in (k := 20) rfl rfl
set_option maxRecDepth 20000 in
theorem m_21 : Cond.selects "TwoGenerationsModel" ⟨"TwoGenerationsModel", "marked", "()I"⟩ ⟨"TwoGenerationsModel", "marked", "()I"⟩ ∈ TT := TT_in (k := 21) rfl rfl
set_option maxRecDepth 20000 in
theorem m_22 : Cond.selects "TwoGenerationsModel" ⟨"TwoGenerationsModel", "markFields", "(I)V"⟩ ⟨"TwoGenerationsModel", "markFields", "(I)V"⟩ ∈ TT := TT_in (k := 22) rfl rfl
set_option maxRecDepth 20000 in
theorem m_23 : Cond.selects "TwoGenerationsModel" ⟨"TwoGenerationsModel", "tellWeak", "()V"⟩ ⟨"TwoGenerationsModel", "tellWeak", "()V"⟩ ∈ TT := TT_in (k := 23) rfl rfl
set_option maxRecDepth 20000 in
theorem m_24 : Cond.selects "TwoGenerationsModel" ⟨"TwoGenerationsModel", "born", "(III)V"⟩ ⟨"TwoGenerationsModel", "born", "(III)V"⟩ ∈ TT := TT_in (k := 24) rfl rfl
set_option maxRecDepth 20000 in
theorem m_25 : Cond.selects "TwoGenerationsModel" ⟨"TwoGenerationsModel", "placeIn", "(I)I"⟩ ⟨"TwoGenerationsModel", "placeIn", "(I)I"⟩ ∈ TT := TT_in (k := 25) rfl rfl
set_option maxRecDepth 20000 in
theorem m_26 : Cond.selects "TwoGenerationsModel" ⟨"TwoGenerationsModel", "hasField", "(II)Z"⟩ ⟨"TwoGenerationsModel", "hasField", "(II)Z"⟩ ∈ TT := TT_in (k := 26) rfl rfl
set_option maxRecDepth 20000 in
theorem m_27 : Jvm.Cond.initialized "TwoGenerationsLaw" ∈ TT := TT_in (k := 27) rfl rfl
set_option maxRecDepth 20000 in
theorem m_28 : Jvm.Cond.initialized "TwoGenerations" ∈ TT := TT_in (k := 28) rfl rfl
set_option maxRecDepth 20000 in
theorem m_29 : Jvm.Cond.initialized "TwoGenerations$Generation" ∈ TT := TT_in (k := 29) rfl rfl
set_option maxRecDepth 20000 in
theorem m_30 : Jvm.Cond.initialized "TwoGenerations$Trace" ∈ TT := TT_in (k := 30) rfl rfl
set_option maxRecDepth 20000 in
theorem m_31 : Jvm.Cond.initialized "TwoGenerationsModel" ∈ TT := TT_in (k := 31) rfl rfl
set_option maxRecDepth 20000 in
theorem m_32 : Jvm.Cond.initialized "java/lang/Throwable" ∈ TT := TT_in (k := 32) rfl rfl
set_option maxRecDepth 20000 in
theorem m_33 : Jvm.Cond.initialized "java/lang/Exception" ∈ TT := TT_in (k := 33) rfl rfl
set_option maxRecDepth 20000 in
theorem m_34 : Jvm.Cond.initialized "java/lang/RuntimeException" ∈ TT := TT_in (k := 34) rfl rfl
set_option maxRecDepth 20000 in
theorem m_35 : Jvm.Cond.initialized "java/lang/IllegalArgumentException" ∈ TT := TT_in (k := 35) rfl rfl
set_option maxRecDepth 20000 in
theorem m_36 : Jvm.Cond.initialized "TwoGenerations$Value" ∈ TT := TT_in (k := 36) rfl rfl
set_option maxRecDepth 20000 in
theorem m_37 : Jvm.Cond.initialized "TwoGenerations$Thing" ∈ TT := TT_in (k := 37) rfl rfl
set_option maxRecDepth 20000 in
theorem m_38 : Jvm.Cond.initialized "TwoGenerations$Plain" ∈ TT := TT_in (k := 38) rfl rfl
set_option maxRecDepth 20000 in
theorem m_39 : Jvm.Cond.initialized "java/lang/IllegalStateException" ∈ TT := TT_in (k := 39) rfl rfl
set_option maxRecDepth 20000 in
theorem m_40 : Jvm.Cond.initialized "TwoGenerations$Weak" ∈ TT := TT_in (k := 40) rfl rfl
set_option maxRecDepth 20000 in
theorem m_41 : Jvm.Cond.initialized "TwoGenerations$Whole" ∈ TT := TT_in (k := 41) rfl rfl
set_option maxRecDepth 20000 in
theorem m_42 : Jvm.Cond.classLink "TwoGenerationsLaw" (8 : Nat) "TwoGenerations" ∈ TT := TT_in (k := 42) rfl rfl
set_option maxRecDepth 20000 in
theorem m_43 : Jvm.Cond.instantiable "TwoGenerations" (6 : Nat) ∈ TT := TT_in (k := 43) rfl rfl
set_option maxRecDepth 20000 in
theorem m_44 : Jvm.Cond.methodLink "TwoGenerationsLaw" (50 : Nat) ({ cls := "TwoGenerations", name := "<init>", desc := "(III)V" } : Jvm.MethodName) ∈ TT := TT_in (k := 44) rfl rfl
set_option maxRecDepth 20000 in
theorem m_45 : Jvm.Cond.instanceMethod ({ cls := "TwoGenerations", name := "<init>", desc := "(III)V" } : Jvm.MethodName) ∈ TT := TT_in (k := 45) rfl rfl
set_option maxRecDepth 20000 in
theorem m_46 : Jvm.Cond.code ({ cls := "TwoGenerations", name := "<init>", desc := "(III)V" } : Jvm.MethodName) prog_1_method_1_code (4 : Nat) (Option.none : Option Jvm.ClassFile.FieldType) ∈ TT := TT_in (k := 46) rfl rfl
set_option maxRecDepth 20000 in
theorem m_47 : Jvm.Cond.methodLink "TwoGenerations" (1 : Nat) ({ cls := "java/lang/Object", name := "<init>", desc := "()V" } : Jvm.MethodName) ∈ TT := TT_in (k := 47) rfl rfl
set_option maxRecDepth 20000 in
theorem m_48 : Jvm.Cond.instanceMethod ({ cls := "java/lang/Object", name := "<init>", desc := "()V" } : Jvm.MethodName) ∈ TT := TT_in (k := 48) rfl rfl
set_option maxRecDepth 20000 in
theorem m_49 : Jvm.Cond.code ({ cls := "java/lang/Object", name := "<init>", desc := "()V" } : Jvm.MethodName) object_method_1_code (1 : Nat) (Option.none : Option Jvm.ClassFile.FieldType) ∈ TT := TT_in (k := 49) rfl rfl
set_option maxRecDepth 20000 in
theorem m_50 : Jvm.Cond.methodLink "TwoGenerations" (7 : Nat) ({ cls := "TwoGenerations", name := "within", desc := "(III)Z" } : Jvm.MethodName) ∈ TT := TT_in (k := 50) rfl rfl
set_option maxRecDepth 20000 in
theorem m_51 : Jvm.Cond.static ({ cls := "TwoGenerations", name := "within", desc := "(III)Z" } : Jvm.MethodName) ∈ TT := TT_in (k := 51) rfl rfl
set_option maxRecDepth 20000 in
theorem m_52 : Jvm.Cond.code ({ cls := "TwoGenerations", name := "within", desc := "(III)Z" } : Jvm.MethodName) prog_1_method_20_code (3 : Nat) (Option.some Jvm.ClassFile.FieldType.boolean) ∈ TT := TT_in (k := 52) rfl rfl
set_option maxRecDepth 20000 in
theorem m_53 : Jvm.Cond.classLink "TwoGenerations" (13 : Nat) "TwoGenerations$Value" ∈ TT := TT_in (k := 53) rfl rfl
set_option maxRecDepth 20000 in
theorem m_54 : Jvm.Cond.arrayOver (Jvm.ClassFile.FieldType.object "TwoGenerations$Value") ∈ TT := TT_in (k := 54) rfl rfl
set_option maxRecDepth 20000 in
theorem m_55 : Jvm.Cond.classLink "TwoGenerations" (19 : Nat) "TwoGenerations$Generation" ∈ TT := TT_in (k := 55) rfl rfl
set_option maxRecDepth 20000 in
theorem m_56 : Jvm.Cond.instantiable "TwoGenerations$Generation" (4 : Nat) ∈ TT := TT_in (k := 56) rfl rfl
set_option maxRecDepth 20000 in
theorem m_57 : Jvm.Cond.methodLink "TwoGenerations" (21 : Nat) ({ cls := "TwoGenerations$Generation", name := "<init>", desc := "(I)V" } : Jvm.MethodName) ∈ TT := TT_in (k := 57) rfl rfl
set_option maxRecDepth 20000 in
theorem m_58 : Jvm.Cond.instanceMethod ({ cls := "TwoGenerations$Generation", name := "<init>", desc := "(I)V" } : Jvm.MethodName) ∈ TT := TT_in (k := 58) rfl rfl
set_option maxRecDepth 20000 in
theorem m_59 : Jvm.Cond.code ({ cls := "TwoGenerations$Generation", name := "<init>", desc := "(I)V" } : Jvm.MethodName) prog_2_method_1_code (2 : Nat) (Option.none : Option Jvm.ClassFile.FieldType) ∈ TT := TT_in (k := 59) rfl rfl
set_option maxRecDepth 20000 in
theorem m_60 : Jvm.Cond.methodLink "TwoGenerations$Generation" (1 : Nat) ({ cls := "java/lang/Object", name := "<init>", desc := "()V" } : Jvm.MethodName) ∈ TT := TT_in (k := 60) rfl rfl
set_option maxRecDepth 20000 in
theorem m_61 : Jvm.Cond.classLink "TwoGenerations$Generation" (13 : Nat) "TwoGenerations$Thing" ∈ TT := TT_in (k := 61) rfl rfl
set_option maxRecDepth 20000 in
theorem m_62 : Jvm.Cond.arrayOver (Jvm.ClassFile.FieldType.object "TwoGenerations$Thing") ∈ TT := TT_in (k := 62) rfl rfl
set_option maxRecDepth 20000 in
theorem m_63 : Jvm.Cond.fieldLink "TwoGenerations$Generation" (7 : Nat) "TwoGenerations$Generation" "limit" "I" ∈ TT := TT_in (k := 63) rfl rfl
set_option maxRecDepth 20000 in
theorem m_64 : Jvm.Cond.fieldLink "TwoGenerations" (33 : Nat) "TwoGenerations$Generation" "limit" "I" ∈ TT := TT_in (k := 64) rfl rfl
set_option maxRecDepth 20000 in
theorem m_65 : Jvm.Cond.fieldLink "TwoGenerations$Generation" (15 : Nat) "TwoGenerations$Generation" "things" "[LTwoGenerations$Thing;" ∈ TT := TT_in (k := 65) rfl rfl
set_option maxRecDepth 20000 in
theorem m_66 : Jvm.Cond.fieldLink "TwoGenerations$Trace" (32 : Nat) "TwoGenerations$Generation" "things" "[LTwoGenerations$Thing;" ∈ TT := TT_in (k := 66) rfl rfl
set_option maxRecDepth 20000 in
theorem m_67 : Jvm.Cond.fieldLink "TwoGenerations$Generation" (22 : Nat) "TwoGenerations$Generation" "count" "I" ∈ TT := TT_in (k := 67) rfl rfl
set_option maxRecDepth 20000 in
theorem m_68 : Jvm.Cond.fieldLink "TwoGenerations$Trace" (29 : Nat) "TwoGenerations$Generation" "count" "I" ∈ TT := TT_in (k := 68) rfl rfl
set_option maxRecDepth 20000 in
theorem m_69 : Jvm.Cond.fieldLink "TwoGenerations$Generation" (19 : Nat) "TwoGenerations$Generation" "taken" "I" ∈ TT := TT_in (k := 69) rfl rfl
set_option maxRecDepth 20000 in
theorem m_70 : Jvm.Cond.fieldLink "TwoGenerations" (140 : Nat) "TwoGenerations$Generation" "taken" "I" ∈ TT := TT_in (k := 70) rfl rfl
set_option maxRecDepth 20000 in
theorem m_71 : Jvm.Cond.laysFinal "TwoGenerations$Generation" "TwoGenerations$Generation" "limit" "I" ∈ TT := TT_in (k := 71) rfl rfl
set_option maxRecDepth 20000 in
theorem m_72 : Jvm.Cond.soleField "TwoGenerations$Generation" "limit" ∈ TT := TT_in (k := 72) rfl rfl
set_option maxRecDepth 20000 in
theorem m_73 : Jvm.Cond.laysFinal "TwoGenerations$Generation" "TwoGenerations$Generation" "things" "[LTwoGenerations$Thing;" ∈ TT := TT_in (k := 73) rfl rfl
set_option maxRecDepth 20000 in
theorem m_74 : Jvm.Cond.soleField "TwoGenerations$Generation" "things" ∈ TT := TT_in (k := 74) rfl rfl
set_option maxRecDepth 20000 in
theorem m_75 : Jvm.Cond.lays "TwoGenerations$Generation" "TwoGenerations$Generation" "count" "I" ∈ TT := TT_in (k := 75) rfl rfl
set_option maxRecDepth 20000 in
theorem m_76 : Jvm.Cond.soleField "TwoGenerations$Generation" "count" ∈ TT := TT_in (k := 76) rfl rfl
set_option maxRecDepth 20000 in
theorem m_77 : Jvm.Cond.lays "TwoGenerations$Generation" "TwoGenerations$Generation" "taken" "I" ∈ TT := TT_in (k := 77) rfl rfl
set_option maxRecDepth 20000 in
theorem m_78 : Jvm.Cond.soleField "TwoGenerations$Generation" "taken" ∈ TT := TT_in (k := 78) rfl rfl
set_option maxRecDepth 20000 in
theorem m_79 : Jvm.Cond.superclass "TwoGenerations$Generation" "java/lang/Object" ∈ TT := TT_in (k := 79) rfl rfl
set_option maxRecDepth 20000 in
theorem m_80 : Jvm.Cond.classLink "TwoGenerations" (31 : Nat) "TwoGenerations$Trace" ∈ TT := TT_in (k := 80) rfl rfl
set_option maxRecDepth 20000 in
theorem m_81 : Jvm.Cond.instantiable "TwoGenerations$Trace" (3 : Nat) ∈ TT := TT_in (k := 81) rfl rfl
set_option maxRecDepth 20000 in
theorem m_82 : Jvm.Cond.methodLink "TwoGenerations" (37 : Nat) ({ cls := "TwoGenerations$Trace", name := "<init>", desc := "(I)V" } : Jvm.MethodName) ∈ TT := TT_in (k := 82) rfl rfl
set_option maxRecDepth 20000 in
theorem m_83 : Jvm.Cond.instanceMethod ({ cls := "TwoGenerations$Trace", name := "<init>", desc := "(I)V" } : Jvm.MethodName) ∈ TT := TT_in (k := 83) rfl rfl
set_option maxRecDepth 20000 in
theorem m_84 : Jvm.Cond.code ({ cls := "TwoGenerations$Trace", name := "<init>", desc := "(I)V" } : Jvm.MethodName) prog_5_method_1_code (2 : Nat) (Option.none : Option Jvm.ClassFile.FieldType) ∈ TT := TT_in (k := 84) rfl rfl
set_option maxRecDepth 20000 in
theorem m_85 : Jvm.Cond.methodLink "TwoGenerations$Trace" (1 : Nat) ({ cls := "java/lang/Object", name := "<init>", desc := "()V" } : Jvm.MethodName) ∈ TT := TT_in (k := 85) rfl rfl
set_option maxRecDepth 20000 in
theorem m_86 : Jvm.Cond.classLink "TwoGenerations$Trace" (7 : Nat) "TwoGenerations$Thing" ∈ TT := TT_in (k := 86) rfl rfl
set_option maxRecDepth 20000 in
theorem m_87 : Jvm.Cond.fieldLink "TwoGenerations$Trace" (9 : Nat) "TwoGenerations$Trace" "found" "[LTwoGenerations$Thing;" ∈ TT := TT_in (k := 87) rfl rfl
set_option maxRecDepth 20000 in
theorem m_88 : Jvm.Cond.fieldLink "TwoGenerations$Trace" (15 : Nat) "TwoGenerations$Trace" "count" "I" ∈ TT := TT_in (k := 88) rfl rfl
set_option maxRecDepth 20000 in
theorem m_89 : Jvm.Cond.fieldLink "TwoGenerations$Trace" (23 : Nat) "TwoGenerations$Trace" "cells" "I" ∈ TT := TT_in (k := 89) rfl rfl
set_option maxRecDepth 20000 in
theorem m_90 : Jvm.Cond.fieldLink "TwoGenerations" (125 : Nat) "TwoGenerations$Trace" "cells" "I" ∈ TT := TT_in (k := 90) rfl rfl
set_option maxRecDepth 20000 in
theorem m_91 : Jvm.Cond.laysFinal "TwoGenerations$Trace" "TwoGenerations$Trace" "found" "[LTwoGenerations$Thing;" ∈ TT := TT_in (k := 91) rfl rfl
set_option maxRecDepth 20000 in
theorem m_92 : Jvm.Cond.soleField "TwoGenerations$Trace" "found" ∈ TT := TT_in (k := 92) rfl rfl
set_option maxRecDepth 20000 in
theorem m_93 : Jvm.Cond.lays "TwoGenerations$Trace" "TwoGenerations$Trace" "count" "I" ∈ TT := TT_in (k := 93) rfl rfl
set_option maxRecDepth 20000 in
theorem m_94 : Jvm.Cond.soleField "TwoGenerations$Trace" "count" ∈ TT := TT_in (k := 94) rfl rfl
set_option maxRecDepth 20000 in
theorem m_95 : Jvm.Cond.lays "TwoGenerations$Trace" "TwoGenerations$Trace" "cells" "I" ∈ TT := TT_in (k := 95) rfl rfl
set_option maxRecDepth 20000 in
theorem m_96 : Jvm.Cond.soleField "TwoGenerations$Trace" "cells" ∈ TT := TT_in (k := 96) rfl rfl
set_option maxRecDepth 20000 in
theorem m_97 : Jvm.Cond.superclass "TwoGenerations$Trace" "java/lang/Object" ∈ TT := TT_in (k := 97) rfl rfl
set_option maxRecDepth 20000 in
theorem m_98 : Jvm.Cond.fieldLink "TwoGenerations" (15 : Nat) "TwoGenerations" "registers" "[LTwoGenerations$Value;" ∈ TT := TT_in (k := 98) rfl rfl
set_option maxRecDepth 20000 in
theorem m_99 : Jvm.Cond.fieldLink "TwoGenerations" (24 : Nat) "TwoGenerations" "young" "LTwoGenerations$Generation;" ∈ TT := TT_in (k := 99) rfl rfl
set_option maxRecDepth 20000 in
theorem m_100 : Jvm.Cond.fieldLink "TwoGenerations" (28 : Nat) "TwoGenerations" "old" "LTwoGenerations$Generation;" ∈ TT := TT_in (k := 100) rfl rfl
set_option maxRecDepth 20000 in
theorem m_101 : Jvm.Cond.fieldLink "TwoGenerations" (38 : Nat) "TwoGenerations" "trace" "LTwoGenerations$Trace;" ∈ TT := TT_in (k := 101) rfl rfl
set_option maxRecDepth 20000 in
theorem m_102 : Jvm.Cond.fieldLink "TwoGenerations" (143 : Nat) "TwoGenerations" "smallCollections" "I" ∈ TT := TT_in (k := 102) rfl rfl
set_option maxRecDepth 20000 in
theorem m_103 : Jvm.Cond.fieldLink "TwoGenerations" (146 : Nat) "TwoGenerations" "greatCollections" "I" ∈ TT := TT_in (k := 103) rfl rfl
set_option maxRecDepth 20000 in
theorem m_104 : Jvm.Cond.laysFinal "TwoGenerations" "TwoGenerations" "registers" "[LTwoGenerations$Value;" ∈ TT := TT_in (k := 104) rfl rfl
set_option maxRecDepth 20000 in
theorem m_105 : Jvm.Cond.soleField "TwoGenerations" "registers" ∈ TT := TT_in (k := 105) rfl rfl
set_option maxRecDepth 20000 in
theorem m_106 : Jvm.Cond.laysFinal "TwoGenerations" "TwoGenerations" "young" "LTwoGenerations$Generation;" ∈ TT := TT_in (k := 106) rfl rfl
set_option maxRecDepth 20000 in
theorem m_107 : Jvm.Cond.soleField "TwoGenerations" "young" ∈ TT := TT_in (k := 107) rfl rfl
set_option maxRecDepth 20000 in
theorem m_108 : Jvm.Cond.laysFinal "TwoGenerations" "TwoGenerations" "old" "LTwoGenerations$Generation;" ∈ TT := TT_in (k := 108) rfl rfl
set_option maxRecDepth 20000 in
theorem m_109 : Jvm.Cond.soleField "TwoGenerations" "old" ∈ TT := TT_in (k := 109) rfl rfl
set_option maxRecDepth 20000 in
theorem m_110 : Jvm.Cond.laysFinal "TwoGenerations" "TwoGenerations" "trace" "LTwoGenerations$Trace;" ∈ TT := TT_in (k := 110) rfl rfl
set_option maxRecDepth 20000 in
theorem m_111 : Jvm.Cond.soleField "TwoGenerations" "trace" ∈ TT := TT_in (k := 111) rfl rfl
set_option maxRecDepth 20000 in
theorem m_112 : Jvm.Cond.lays "TwoGenerations" "TwoGenerations" "smallCollections" "I" ∈ TT := TT_in (k := 112) rfl rfl
set_option maxRecDepth 20000 in
theorem m_113 : Jvm.Cond.soleField "TwoGenerations" "smallCollections" ∈ TT := TT_in (k := 113) rfl rfl
set_option maxRecDepth 20000 in
theorem m_114 : Jvm.Cond.lays "TwoGenerations" "TwoGenerations" "greatCollections" "I" ∈ TT := TT_in (k := 114) rfl rfl
set_option maxRecDepth 20000 in
theorem m_115 : Jvm.Cond.soleField "TwoGenerations" "greatCollections" ∈ TT := TT_in (k := 115) rfl rfl
set_option maxRecDepth 20000 in
theorem m_116 : Jvm.Cond.superclass "TwoGenerations" "java/lang/Object" ∈ TT := TT_in (k := 116) rfl rfl
set_option maxRecDepth 20000 in
theorem m_117 : Jvm.Cond.methodLink "TwoGenerationsLaw" (85 : Nat) ({ cls := "TwoGenerations", name := "kind", desc := "(I)I" } : Jvm.MethodName) ∈ TT := TT_in (k := 117) rfl rfl
set_option maxRecDepth 20000 in
theorem m_118 : Jvm.Cond.instanceMethod ({ cls := "TwoGenerations", name := "kind", desc := "(I)I" } : Jvm.MethodName) ∈ TT := TT_in (k := 118) rfl rfl
set_option maxRecDepth 20000 in
theorem m_119 : Jvm.Cond.selects "TwoGenerations" ({ cls := "TwoGenerations", name := "kind", desc := "(I)I" } : Jvm.MethodName) ({ cls := "TwoGenerations", name := "kind", desc := "(I)I" } : Jvm.MethodName) ∈ TT := TT_in (k := 119) rfl rfl
set_option maxRecDepth 20000 in
theorem m_120 : Jvm.Cond.code ({ cls := "TwoGenerations", name := "kind", desc := "(I)I" } : Jvm.MethodName) prog_1_method_10_code (3 : Nat) (Option.some Jvm.ClassFile.FieldType.int) ∈ TT := TT_in (k := 120) rfl rfl
set_option maxRecDepth 20000 in
theorem m_121 : Jvm.Cond.methodLink "TwoGenerations" (42 : Nat) ({ cls := "TwoGenerations", name := "isRegister", desc := "(I)Z" } : Jvm.MethodName) ∈ TT := TT_in (k := 121) rfl rfl
set_option maxRecDepth 20000 in
theorem m_123 : Jvm.Cond.instanceMethod ({ cls := "TwoGenerations", name := "isRegister", desc := "(I)Z" } : Jvm.MethodName) ∈ TT := TT_in (k := 123) rfl rfl
set_option maxRecDepth 20000 in
theorem m_124 : Jvm.Cond.code ({ cls := "TwoGenerations", name := "isRegister", desc := "(I)Z" } : Jvm.MethodName) prog_1_method_21_code (2 : Nat) (Option.some Jvm.ClassFile.FieldType.boolean) ∈ TT := TT_in (k := 124) rfl rfl
set_option maxRecDepth 20000 in
theorem m_125 : Jvm.Cond.classLink "TwoGenerations" (97 : Nat) "TwoGenerations$Whole" ∈ TT := TT_in (k := 125) rfl rfl
set_option maxRecDepth 20000 in
theorem m_126 : Jvm.Cond.classLink "TwoGenerations" (53 : Nat) "TwoGenerations$Plain" ∈ TT := TT_in (k := 126) rfl rfl
set_option maxRecDepth 20000 in
theorem m_127 : Jvm.Cond.methodLink "TwoGenerationsLaw" (90 : Nat) ({ cls := "TwoGenerations", name := "value", desc := "(I)I" } : Jvm.MethodName) ∈ TT := TT_in (k := 127) rfl rfl
set_option maxRecDepth 20000 in
theorem m_128 : Jvm.Cond.instanceMethod ({ cls := "TwoGenerations", name := "value", desc := "(I)I" } : Jvm.MethodName) ∈ TT := TT_in (k := 128) rfl rfl
set_option maxRecDepth 20000 in
theorem m_129 : Jvm.Cond.selects "TwoGenerations" ({ cls := "TwoGenerations", name := "value", desc := "(I)I" } : Jvm.MethodName) ({ cls := "TwoGenerations", name := "value", desc := "(I)I" } : Jvm.MethodName) ∈ TT := TT_in (k := 129) rfl rfl
set_option maxRecDepth 20000 in
theorem m_130 : Jvm.Cond.code ({ cls := "TwoGenerations", name := "value", desc := "(I)I" } : Jvm.MethodName) prog_1_method_11_code (4 : Nat) (Option.some Jvm.ClassFile.FieldType.int) ∈ TT := TT_in (k := 130) rfl rfl
set_option maxRecDepth 20000 in
theorem m_131 : Jvm.Cond.methodLink "TwoGenerations" (102 : Nat) ({ cls := "TwoGenerations", name := "heldIn", desc := "(I)LTwoGenerations$Value;" } : Jvm.MethodName) ∈ TT := TT_in (k := 131) rfl rfl
set_option maxRecDepth 20000 in
theorem m_133 : Jvm.Cond.instanceMethod ({ cls := "TwoGenerations", name := "heldIn", desc := "(I)LTwoGenerations$Value;" } : Jvm.MethodName) ∈ TT := TT_in (k := 133) rfl rfl
set_option maxRecDepth 20000 in
theorem m_134 : Jvm.Cond.code ({ cls := "TwoGenerations", name := "heldIn", desc := "(I)LTwoGenerations$Value;" } : Jvm.MethodName) prog_1_method_22_code (2 : Nat) (Option.some (Jvm.ClassFile.FieldType.object "TwoGenerations$Value")) ∈ TT := TT_in (k := 134) rfl rfl
set_option maxRecDepth 20000 in
theorem m_135 : Jvm.Cond.methodLink "TwoGenerationsLaw" (94 : Nat) ({ cls := "TwoGenerations", name := "fields", desc := "(I)I" } : Jvm.MethodName) ∈ TT := TT_in (k := 135) rfl rfl
set_option maxRecDepth 20000 in
theorem m_136 : Jvm.Cond.instanceMethod ({ cls := "TwoGenerations", name := "fields", desc := "(I)I" } : Jvm.MethodName) ∈ TT := TT_in (k := 136) rfl rfl
set_option maxRecDepth 20000 in
theorem m_137 : Jvm.Cond.selects "TwoGenerations" ({ cls := "TwoGenerations", name := "fields", desc := "(I)I" } : Jvm.MethodName) ({ cls := "TwoGenerations", name := "fields", desc := "(I)I" } : Jvm.MethodName) ∈ TT := TT_in (k := 137) rfl rfl
set_option maxRecDepth 20000 in
theorem m_138 : Jvm.Cond.code ({ cls := "TwoGenerations", name := "fields", desc := "(I)I" } : Jvm.MethodName) prog_1_method_12_code (3 : Nat) (Option.some Jvm.ClassFile.FieldType.int) ∈ TT := TT_in (k := 138) rfl rfl
set_option maxRecDepth 20000 in
theorem m_139 : Jvm.Cond.methodLink "TwoGenerations" (71 : Nat) ({ cls := "TwoGenerations", name := "plainIn", desc := "(I)LTwoGenerations$Plain;" } : Jvm.MethodName) ∈ TT := TT_in (k := 139) rfl rfl
set_option maxRecDepth 20000 in
theorem m_141 : Jvm.Cond.instanceMethod ({ cls := "TwoGenerations", name := "plainIn", desc := "(I)LTwoGenerations$Plain;" } : Jvm.MethodName) ∈ TT := TT_in (k := 141) rfl rfl
set_option maxRecDepth 20000 in
theorem m_142 : Jvm.Cond.code ({ cls := "TwoGenerations", name := "plainIn", desc := "(I)LTwoGenerations$Plain;" } : Jvm.MethodName) prog_1_method_24_code (4 : Nat) (Option.some (Jvm.ClassFile.FieldType.object "TwoGenerations$Plain")) ∈ TT := TT_in (k := 142) rfl rfl
set_option maxRecDepth 20000 in
theorem m_143 : Jvm.Cond.methodLink "TwoGenerationsLaw" (98 : Nat) ({ cls := "TwoGenerations", name := "same", desc := "(II)Z" } : Jvm.MethodName) ∈ TT := TT_in (k := 143) rfl rfl
set_option maxRecDepth 20000 in
theorem m_144 : Jvm.Cond.instanceMethod ({ cls := "TwoGenerations", name := "same", desc := "(II)Z" } : Jvm.MethodName) ∈ TT := TT_in (k := 144) rfl rfl
set_option maxRecDepth 20000 in
theorem m_145 : Jvm.Cond.selects "TwoGenerations" ({ cls := "TwoGenerations", name := "same", desc := "(II)Z" } : Jvm.MethodName) ({ cls := "TwoGenerations", name := "same", desc := "(II)Z" } : Jvm.MethodName) ∈ TT := TT_in (k := 145) rfl rfl
set_option maxRecDepth 20000 in
theorem m_146 : Jvm.Cond.code ({ cls := "TwoGenerations", name := "same", desc := "(II)Z" } : Jvm.MethodName) prog_1_method_13_code (6 : Nat) (Option.some Jvm.ClassFile.FieldType.boolean) ∈ TT := TT_in (k := 146) rfl rfl
set_option maxRecDepth 20000 in
theorem m_147 : Jvm.Cond.methodLink "TwoGenerationsLaw" (103 : Nat) ({ cls := "TwoGenerations", name := "generation", desc := "(I)I" } : Jvm.MethodName) ∈ TT := TT_in (k := 147) rfl rfl
set_option maxRecDepth 20000 in
theorem m_148 : Jvm.Cond.instanceMethod ({ cls := "TwoGenerations", name := "generation", desc := "(I)I" } : Jvm.MethodName) ∈ TT := TT_in (k := 148) rfl rfl
set_option maxRecDepth 20000 in
theorem m_149 : Jvm.Cond.selects "TwoGenerations" ({ cls := "TwoGenerations", name := "generation", desc := "(I)I" } : Jvm.MethodName) ({ cls := "TwoGenerations", name := "generation", desc := "(I)I" } : Jvm.MethodName) ∈ TT := TT_in (k := 149) rfl rfl
set_option maxRecDepth 20000 in
theorem m_150 : Jvm.Cond.code ({ cls := "TwoGenerations", name := "generation", desc := "(I)I" } : Jvm.MethodName) prog_1_method_14_code (3 : Nat) (Option.some Jvm.ClassFile.FieldType.int) ∈ TT := TT_in (k := 150) rfl rfl
set_option maxRecDepth 20000 in
theorem m_151 : Jvm.Cond.methodLink "TwoGenerations" (60 : Nat) ({ cls := "TwoGenerations", name := "thingIn", desc := "(I)LTwoGenerations$Thing;" } : Jvm.MethodName) ∈ TT := TT_in (k := 151) rfl rfl
set_option maxRecDepth 20000 in
theorem m_153 : Jvm.Cond.instanceMethod ({ cls := "TwoGenerations", name := "thingIn", desc := "(I)LTwoGenerations$Thing;" } : Jvm.MethodName) ∈ TT := TT_in (k := 153) rfl rfl
set_option maxRecDepth 20000 in
theorem m_154 : Jvm.Cond.code ({ cls := "TwoGenerations", name := "thingIn", desc := "(I)LTwoGenerations$Thing;" } : Jvm.MethodName) prog_1_method_23_code (4 : Nat) (Option.some (Jvm.ClassFile.FieldType.object "TwoGenerations$Thing")) ∈ TT := TT_in (k := 154) rfl rfl
set_option maxRecDepth 20000 in
theorem m_155 : Jvm.Cond.classLink "TwoGenerations" (110 : Nat) "TwoGenerations$Thing" ∈ TT := TT_in (k := 155) rfl rfl
set_option maxRecDepth 20000 in
theorem m_156 : Jvm.Cond.methodLink "TwoGenerationsLaw" (107 : Nat) ({ cls := "TwoGenerations", name := "reach", desc := "(I)I" } : Jvm.MethodName) ∈ TT := TT_in (k := 156) rfl rfl
set_option maxRecDepth 20000 in
theorem m_157 : Jvm.Cond.instanceMethod ({ cls := "TwoGenerations", name := "reach", desc := "(I)I" } : Jvm.MethodName) ∈ TT := TT_in (k := 157) rfl rfl
set_option maxRecDepth 20000 in
theorem m_158 : Jvm.Cond.selects "TwoGenerations" ({ cls := "TwoGenerations", name := "reach", desc := "(I)I" } : Jvm.MethodName) ({ cls := "TwoGenerations", name := "reach", desc := "(I)I" } : Jvm.MethodName) ∈ TT := TT_in (k := 158) rfl rfl
set_option maxRecDepth 20000 in
theorem m_159 : Jvm.Cond.code ({ cls := "TwoGenerations", name := "reach", desc := "(I)I" } : Jvm.MethodName) prog_1_method_15_code (2 : Nat) (Option.some Jvm.ClassFile.FieldType.int) ∈ TT := TT_in (k := 159) rfl rfl
set_option maxRecDepth 20000 in
theorem m_160 : Jvm.Cond.methodLink "TwoGenerations" (115 : Nat) ({ cls := "TwoGenerations$Trace", name := "restart", desc := "()V" } : Jvm.MethodName) ∈ TT := TT_in (k := 160) rfl rfl
set_option maxRecDepth 20000 in
theorem m_161 : Jvm.Cond.instanceMethod ({ cls := "TwoGenerations$Trace", name := "restart", desc := "()V" } : Jvm.MethodName) ∈ TT := TT_in (k := 161) rfl rfl
set_option maxRecDepth 20000 in
theorem m_162 : Jvm.Cond.selects "TwoGenerations$Trace" ({ cls := "TwoGenerations$Trace", name := "restart", desc := "()V" } : Jvm.MethodName) ({ cls := "TwoGenerations$Trace", name := "restart", desc := "()V" } : Jvm.MethodName) ∈ TT := TT_in (k := 162) rfl rfl
set_option maxRecDepth 20000 in
theorem m_163 : Jvm.Cond.code ({ cls := "TwoGenerations$Trace", name := "restart", desc := "()V" } : Jvm.MethodName) prog_5_method_2_code (3 : Nat) (Option.none : Option Jvm.ClassFile.FieldType) ∈ TT := TT_in (k := 163) rfl rfl
set_option maxRecDepth 20000 in
theorem m_164 : Jvm.Cond.methodLink "TwoGenerations" (118 : Nat) ({ cls := "TwoGenerations$Trace", name := "find", desc := "(LTwoGenerations$Value;)V" } : Jvm.MethodName) ∈ TT := TT_in (k := 164) rfl rfl
set_option maxRecDepth 20000 in
theorem m_165 : Jvm.Cond.instanceMethod ({ cls := "TwoGenerations$Trace", name := "find", desc := "(LTwoGenerations$Value;)V" } : Jvm.MethodName) ∈ TT := TT_in (k := 165) rfl rfl
set_option maxRecDepth 20000 in
theorem m_166 : Jvm.Cond.selects "TwoGenerations$Trace" ({ cls := "TwoGenerations$Trace", name := "find", desc := "(LTwoGenerations$Value;)V" } : Jvm.MethodName) ({ cls := "TwoGenerations$Trace", name := "find", desc := "(LTwoGenerations$Value;)V" } : Jvm.MethodName) ∈ TT := TT_in (k := 166) rfl rfl
set_option maxRecDepth 20000 in
theorem m_167 : Jvm.Cond.code ({ cls := "TwoGenerations$Trace", name := "find", desc := "(LTwoGenerations$Value;)V" } : Jvm.MethodName) prog_5_method_3_code (3 : Nat) (Option.none : Option Jvm.ClassFile.FieldType) ∈ TT := TT_in (k := 167) rfl rfl
set_option maxRecDepth 20000 in
theorem m_168 : Jvm.Cond.methodLink "TwoGenerations" (122 : Nat) ({ cls := "TwoGenerations$Trace", name := "follow", desc := "()V" } : Jvm.MethodName) ∈ TT := TT_in (k := 168) rfl rfl
set_option maxRecDepth 20000 in
theorem m_169 : Jvm.Cond.instanceMethod ({ cls := "TwoGenerations$Trace", name := "follow", desc := "()V" } : Jvm.MethodName) ∈ TT := TT_in (k := 169) rfl rfl
set_option maxRecDepth 20000 in
theorem m_170 : Jvm.Cond.selects "TwoGenerations$Trace" ({ cls := "TwoGenerations$Trace", name := "follow", desc := "()V" } : Jvm.MethodName) ({ cls := "TwoGenerations$Trace", name := "follow", desc := "()V" } : Jvm.MethodName) ∈ TT := TT_in (k := 170) rfl rfl
set_option maxRecDepth 20000 in
theorem m_171 : Jvm.Cond.code ({ cls := "TwoGenerations$Trace", name := "follow", desc := "()V" } : Jvm.MethodName) prog_5_method_5_code (4 : Nat) (Option.none : Option Jvm.ClassFile.FieldType) ∈ TT := TT_in (k := 171) rfl rfl
set_option maxRecDepth 20000 in
theorem m_172 : Jvm.Cond.classLink "TwoGenerations$Trace" (39 : Nat) "TwoGenerations$Plain" ∈ TT := TT_in (k := 172) rfl rfl
set_option maxRecDepth 20000 in
theorem m_173 : Jvm.Cond.methodLink "TwoGenerations$Trace" (41 : Nat) ({ cls := "TwoGenerations$Trace", name := "findContents", desc := "(LTwoGenerations$Plain;)V" } : Jvm.MethodName) ∈ TT := TT_in (k := 173) rfl rfl
set_option maxRecDepth 20000 in
theorem m_174 : Jvm.Cond.instanceMethod ({ cls := "TwoGenerations$Trace", name := "findContents", desc := "(LTwoGenerations$Plain;)V" } : Jvm.MethodName) ∈ TT := TT_in (k := 174) rfl rfl
set_option maxRecDepth 20000 in
theorem m_175 : Jvm.Cond.selects "TwoGenerations$Trace" ({ cls := "TwoGenerations$Trace", name := "findContents", desc := "(LTwoGenerations$Plain;)V" } : Jvm.MethodName) ({ cls := "TwoGenerations$Trace", name := "findContents", desc := "(LTwoGenerations$Plain;)V" } : Jvm.MethodName) ∈ TT := TT_in (k := 175) rfl rfl
set_option maxRecDepth 20000 in
theorem m_176 : Jvm.Cond.code ({ cls := "TwoGenerations$Trace", name := "findContents", desc := "(LTwoGenerations$Plain;)V" } : Jvm.MethodName) prog_5_method_6_code (3 : Nat) (Option.none : Option Jvm.ClassFile.FieldType) ∈ TT := TT_in (k := 176) rfl rfl
set_option maxRecDepth 20000 in
theorem m_177 : Jvm.Cond.methodLink "TwoGenerations$Trace" (35 : Nat) ({ cls := "TwoGenerations$Trace", name := "find", desc := "(LTwoGenerations$Value;)V" } : Jvm.MethodName) ∈ TT := TT_in (k := 177) rfl rfl
set_option maxRecDepth 20000 in
theorem m_178 : Jvm.Cond.methodLink "TwoGenerationsLaw" (115 : Nat) ({ cls := "TwoGenerations", name := "great", desc := "()I" } : Jvm.MethodName) ∈ TT := TT_in (k := 178) rfl rfl
set_option maxRecDepth 20000 in
theorem m_179 : Jvm.Cond.instanceMethod ({ cls := "TwoGenerations", name := "great", desc := "()I" } : Jvm.MethodName) ∈ TT := TT_in (k := 179) rfl rfl
set_option maxRecDepth 20000 in
theorem m_180 : Jvm.Cond.selects "TwoGenerations" ({ cls := "TwoGenerations", name := "great", desc := "()I" } : Jvm.MethodName) ({ cls := "TwoGenerations", name := "great", desc := "()I" } : Jvm.MethodName) ∈ TT := TT_in (k := 180) rfl rfl
set_option maxRecDepth 20000 in
theorem m_181 : Jvm.Cond.code ({ cls := "TwoGenerations", name := "great", desc := "()I" } : Jvm.MethodName) prog_1_method_17_code (1 : Nat) (Option.some Jvm.ClassFile.FieldType.int) ∈ TT := TT_in (k := 181) rfl rfl
set_option maxRecDepth 20000 in
theorem m_182 : Jvm.Cond.methodLink "TwoGenerations" (137 : Nat) ({ cls := "TwoGenerations", name := "collectOld", desc := "()I" } : Jvm.MethodName) ∈ TT := TT_in (k := 182) rfl rfl
set_option maxRecDepth 20000 in
theorem m_184 : Jvm.Cond.instanceMethod ({ cls := "TwoGenerations", name := "collectOld", desc := "()I" } : Jvm.MethodName) ∈ TT := TT_in (k := 184) rfl rfl
set_option maxRecDepth 20000 in
theorem m_185 : Jvm.Cond.code ({ cls := "TwoGenerations", name := "collectOld", desc := "()I" } : Jvm.MethodName) prog_1_method_28_code (2 : Nat) (Option.some Jvm.ClassFile.FieldType.int) ∈ TT := TT_in (k := 185) rfl rfl
set_option maxRecDepth 20000 in
theorem m_186 : Jvm.Cond.methodLink "TwoGenerations" (158 : Nat) ({ cls := "TwoGenerations", name := "findRegisters", desc := "()V" } : Jvm.MethodName) ∈ TT := TT_in (k := 186) rfl rfl
set_option maxRecDepth 20000 in
theorem m_188 : Jvm.Cond.instanceMethod ({ cls := "TwoGenerations", name := "findRegisters", desc := "()V" } : Jvm.MethodName) ∈ TT := TT_in (k := 188) rfl rfl
set_option maxRecDepth 20000 in
theorem m_189 : Jvm.Cond.code ({ cls := "TwoGenerations", name := "findRegisters", desc := "()V" } : Jvm.MethodName) prog_1_method_29_code (2 : Nat) (Option.none : Option Jvm.ClassFile.FieldType) ∈ TT := TT_in (k := 189) rfl rfl
set_option maxRecDepth 20000 in
theorem m_190 : Jvm.Cond.methodLink "TwoGenerations" (168 : Nat) ({ cls := "TwoGenerations$Generation", name := "cutTargets", desc := "()V" } : Jvm.MethodName) ∈ TT := TT_in (k := 190) rfl rfl
set_option maxRecDepth 20000 in
theorem m_191 : Jvm.Cond.instanceMethod ({ cls := "TwoGenerations$Generation", name := "cutTargets", desc := "()V" } : Jvm.MethodName) ∈ TT := TT_in (k := 191) rfl rfl
set_option maxRecDepth 20000 in
theorem m_192 : Jvm.Cond.selects "TwoGenerations$Generation" ({ cls := "TwoGenerations$Generation", name := "cutTargets", desc := "()V" } : Jvm.MethodName) ({ cls := "TwoGenerations$Generation", name := "cutTargets", desc := "()V" } : Jvm.MethodName) ∈ TT := TT_in (k := 192) rfl rfl
set_option maxRecDepth 20000 in
theorem m_193 : Jvm.Cond.code ({ cls := "TwoGenerations$Generation", name := "cutTargets", desc := "()V" } : Jvm.MethodName) prog_2_method_6_code (4 : Nat) (Option.none : Option Jvm.ClassFile.FieldType) ∈ TT := TT_in (k := 193) rfl rfl
set_option maxRecDepth 20000 in
theorem m_194 : Jvm.Cond.classLink "TwoGenerations$Generation" (32 : Nat) "TwoGenerations$Weak" ∈ TT := TT_in (k := 194) rfl rfl
set_option maxRecDepth 20000 in
theorem m_195 : Jvm.Cond.methodLink "TwoGenerations$Generation" (34 : Nat) ({ cls := "TwoGenerations$Weak", name := "cutUnreachedTarget", desc := "()V" } : Jvm.MethodName) ∈ TT := TT_in (k := 195) rfl rfl
set_option maxRecDepth 20000 in
theorem m_196 : Jvm.Cond.instanceMethod ({ cls := "TwoGenerations$Weak", name := "cutUnreachedTarget", desc := "()V" } : Jvm.MethodName) ∈ TT := TT_in (k := 196) rfl rfl
set_option maxRecDepth 20000 in
theorem m_197 : Jvm.Cond.selects "TwoGenerations$Weak" ({ cls := "TwoGenerations$Weak", name := "cutUnreachedTarget", desc := "()V" } : Jvm.MethodName) ({ cls := "TwoGenerations$Weak", name := "cutUnreachedTarget", desc := "()V" } : Jvm.MethodName) ∈ TT := TT_in (k := 197) rfl rfl
set_option maxRecDepth 20000 in
theorem m_198 : Jvm.Cond.code ({ cls := "TwoGenerations$Weak", name := "cutUnreachedTarget", desc := "()V" } : Jvm.MethodName) prog_7_method_2_code (1 : Nat) (Option.none : Option Jvm.ClassFile.FieldType) ∈ TT := TT_in (k := 198) rfl rfl
set_option maxRecDepth 20000 in
theorem m_199 : Jvm.Cond.methodLink "TwoGenerations" (177 : Nat) ({ cls := "TwoGenerations$Generation", name := "keepReached", desc := "()V" } : Jvm.MethodName) ∈ TT := TT_in (k := 199) rfl rfl
set_option maxRecDepth 20000 in
theorem m_200 : Jvm.Cond.instanceMethod ({ cls := "TwoGenerations$Generation", name := "keepReached", desc := "()V" } : Jvm.MethodName) ∈ TT := TT_in (k := 200) rfl rfl
set_option maxRecDepth 20000 in
theorem m_201 : Jvm.Cond.selects "TwoGenerations$Generation" ({ cls := "TwoGenerations$Generation", name := "keepReached", desc := "()V" } : Jvm.MethodName) ({ cls := "TwoGenerations$Generation", name := "keepReached", desc := "()V" } : Jvm.MethodName) ∈ TT := TT_in (k := 201) rfl rfl
set_option maxRecDepth 20000 in
theorem m_202 : Jvm.Cond.code ({ cls := "TwoGenerations$Generation", name := "keepReached", desc := "()V" } : Jvm.MethodName) prog_2_method_7_code (4 : Nat) (Option.none : Option Jvm.ClassFile.FieldType) ∈ TT := TT_in (k := 202) rfl rfl
set_option maxRecDepth 20000 in
theorem m_203 : Jvm.Cond.methodLink "TwoGenerations$Generation" (37 : Nat) ({ cls := "TwoGenerations$Generation", name := "empty", desc := "()V" } : Jvm.MethodName) ∈ TT := TT_in (k := 203) rfl rfl
set_option maxRecDepth 20000 in
theorem m_204 : Jvm.Cond.instanceMethod ({ cls := "TwoGenerations$Generation", name := "empty", desc := "()V" } : Jvm.MethodName) ∈ TT := TT_in (k := 204) rfl rfl
set_option maxRecDepth 20000 in
theorem m_205 : Jvm.Cond.selects "TwoGenerations$Generation" ({ cls := "TwoGenerations$Generation", name := "empty", desc := "()V" } : Jvm.MethodName) ({ cls := "TwoGenerations$Generation", name := "empty", desc := "()V" } : Jvm.MethodName) ∈ TT := TT_in (k := 205) rfl rfl
set_option maxRecDepth 20000 in
theorem m_206 : Jvm.Cond.code ({ cls := "TwoGenerations$Generation", name := "empty", desc := "()V" } : Jvm.MethodName) prog_2_method_4_code (1 : Nat) (Option.none : Option Jvm.ClassFile.FieldType) ∈ TT := TT_in (k := 206) rfl rfl
set_option maxRecDepth 20000 in
theorem m_207 : Jvm.Cond.methodLink "TwoGenerations$Generation" (40 : Nat) ({ cls := "TwoGenerations$Generation", name := "add", desc := "(LTwoGenerations$Thing;)V" } : Jvm.MethodName) ∈ TT := TT_in (k := 207) rfl rfl
set_option maxRecDepth 20000 in
theorem m_208 : Jvm.Cond.instanceMethod ({ cls := "TwoGenerations$Generation", name := "add", desc := "(LTwoGenerations$Thing;)V" } : Jvm.MethodName) ∈ TT := TT_in (k := 208) rfl rfl
set_option maxRecDepth 20000 in
theorem m_209 : Jvm.Cond.selects "TwoGenerations$Generation" ({ cls := "TwoGenerations$Generation", name := "add", desc := "(LTwoGenerations$Thing;)V" } : Jvm.MethodName) ({ cls := "TwoGenerations$Generation", name := "add", desc := "(LTwoGenerations$Thing;)V" } : Jvm.MethodName) ∈ TT := TT_in (k := 209) rfl rfl
set_option maxRecDepth 20000 in
theorem m_210 : Jvm.Cond.code ({ cls := "TwoGenerations$Generation", name := "add", desc := "(LTwoGenerations$Thing;)V" } : Jvm.MethodName) prog_2_method_3_code (2 : Nat) (Option.none : Option Jvm.ClassFile.FieldType) ∈ TT := TT_in (k := 210) rfl rfl
set_option maxRecDepth 20000 in
theorem m_211 : Jvm.Cond.methodLink "TwoGenerationsLaw" (119 : Nat) ({ cls := "TwoGenerations", name := "cells", desc := "(I)I" } : Jvm.MethodName) ∈ TT := TT_in (k := 211) rfl rfl
set_option maxRecDepth 20000 in
theorem m_212 : Jvm.Cond.instanceMethod ({ cls := "TwoGenerations", name := "cells", desc := "(I)I" } : Jvm.MethodName) ∈ TT := TT_in (k := 212) rfl rfl
set_option maxRecDepth 20000 in
theorem m_213 : Jvm.Cond.selects "TwoGenerations" ({ cls := "TwoGenerations", name := "cells", desc := "(I)I" } : Jvm.MethodName) ({ cls := "TwoGenerations", name := "cells", desc := "(I)I" } : Jvm.MethodName) ∈ TT := TT_in (k := 213) rfl rfl
set_option maxRecDepth 20000 in
theorem m_214 : Jvm.Cond.code ({ cls := "TwoGenerations", name := "cells", desc := "(I)I" } : Jvm.MethodName) prog_1_method_18_code (2 : Nat) (Option.some Jvm.ClassFile.FieldType.int) ∈ TT := TT_in (k := 214) rfl rfl
set_option maxRecDepth 20000 in
theorem m_215 : Jvm.Cond.methodLink "TwoGenerationsLaw" (123 : Nat) ({ cls := "TwoGenerations", name := "collections", desc := "(I)I" } : Jvm.MethodName) ∈ TT := TT_in (k := 215) rfl rfl
set_option maxRecDepth 20000 in
theorem m_216 : Jvm.Cond.instanceMethod ({ cls := "TwoGenerations", name := "collections", desc := "(I)I" } : Jvm.MethodName) ∈ TT := TT_in (k := 216) rfl rfl
set_option maxRecDepth 20000 in
theorem m_217 : Jvm.Cond.selects "TwoGenerations" ({ cls := "TwoGenerations", name := "collections", desc := "(I)I" } : Jvm.MethodName) ({ cls := "TwoGenerations", name := "collections", desc := "(I)I" } : Jvm.MethodName) ∈ TT := TT_in (k := 217) rfl rfl
set_option maxRecDepth 20000 in
theorem m_218 : Jvm.Cond.code ({ cls := "TwoGenerations", name := "collections", desc := "(I)I" } : Jvm.MethodName) prog_1_method_19_code (2 : Nat) (Option.some Jvm.ClassFile.FieldType.int) ∈ TT := TT_in (k := 218) rfl rfl
set_option maxRecDepth 20000 in
theorem m_219 : Jvm.Cond.methodLink "TwoGenerationsLaw" (44 : Nat) ({ cls := "TwoGenerationsLaw", name := "cell", desc := "([II)I" } : Jvm.MethodName) ∈ TT := TT_in (k := 219) rfl rfl
set_option maxRecDepth 20000 in
theorem m_220 : Jvm.Cond.static ({ cls := "TwoGenerationsLaw", name := "cell", desc := "([II)I" } : Jvm.MethodName) ∈ TT := TT_in (k := 220) rfl rfl
set_option maxRecDepth 20000 in
theorem m_221 : Jvm.Cond.code ({ cls := "TwoGenerationsLaw", name := "cell", desc := "([II)I" } : Jvm.MethodName) method_2_code (2 : Nat) (Option.some Jvm.ClassFile.FieldType.int) ∈ TT := TT_in (k := 221) rfl rfl
set_option maxRecDepth 20000 in
theorem m_222 : Jvm.Cond.methodLink "TwoGenerationsLaw" (55 : Nat) ({ cls := "TwoGenerationsLaw", name := "make", desc := "(LTwoGenerations;II)I" } : Jvm.MethodName) ∈ TT := TT_in (k := 222) rfl rfl
set_option maxRecDepth 20000 in
theorem m_223 : Jvm.Cond.static ({ cls := "TwoGenerationsLaw", name := "make", desc := "(LTwoGenerations;II)I" } : Jvm.MethodName) ∈ TT := TT_in (k := 223) rfl rfl
set_option maxRecDepth 20000 in
theorem m_224 : Jvm.Cond.codeWith ({ cls := "TwoGenerationsLaw", name := "make", desc := "(LTwoGenerations;II)I" } : Jvm.MethodName) method_3_code (4 : Nat) (Option.some Jvm.ClassFile.FieldType.int) [((0 : Nat), (6 : Nat), (9 : Nat), (13 : Nat)), ((0 : Nat), (6 : Nat), (12 : Nat), (15 : Nat))] ∈ TT := TT_in (k := 224) rfl rfl
set_option maxRecDepth 20000 in
theorem m_225 : Jvm.Cond.classLink "TwoGenerationsLaw" (13 : Nat) "java/lang/IllegalArgumentException" ∈ TT := TT_in (k := 225) rfl rfl
set_option maxRecDepth 20000 in
theorem m_226 : Jvm.Cond.classLink "TwoGenerationsLaw" (15 : Nat) "java/lang/IllegalStateException" ∈ TT := TT_in (k := 226) rfl rfl
set_option maxRecDepth 20000 in
theorem m_227 : Jvm.Cond.methodLink "TwoGenerationsLaw" (7 : Nat) ({ cls := "TwoGenerations", name := "make", desc := "(II)V" } : Jvm.MethodName) ∈ TT := TT_in (k := 227) rfl rfl
set_option maxRecDepth 20000 in
theorem m_228 : Jvm.Cond.instanceMethod ({ cls := "TwoGenerations", name := "make", desc := "(II)V" } : Jvm.MethodName) ∈ TT := TT_in (k := 228) rfl rfl
set_option maxRecDepth 20000 in
theorem m_229 : Jvm.Cond.selects "TwoGenerations" ({ cls := "TwoGenerations", name := "make", desc := "(II)V" } : Jvm.MethodName) ({ cls := "TwoGenerations", name := "make", desc := "(II)V" } : Jvm.MethodName) ∈ TT := TT_in (k := 229) rfl rfl
set_option maxRecDepth 20000 in
theorem m_230 : Jvm.Cond.code ({ cls := "TwoGenerations", name := "make", desc := "(II)V" } : Jvm.MethodName) prog_1_method_2_code (3 : Nat) (Option.none : Option Jvm.ClassFile.FieldType) ∈ TT := TT_in (k := 230) rfl rfl
set_option maxRecDepth 20000 in
theorem m_231 : Jvm.Cond.classLink "TwoGenerations" (46 : Nat) "java/lang/IllegalArgumentException" ∈ TT := TT_in (k := 231) rfl rfl
set_option maxRecDepth 20000 in
theorem m_232 : Jvm.Cond.instantiable "java/lang/IllegalArgumentException" (6 : Nat) ∈ TT := TT_in (k := 232) rfl rfl
set_option maxRecDepth 20000 in
theorem m_233 : Jvm.Cond.castable "java/lang/IllegalArgumentException" "java/lang/IllegalArgumentException" ∈ TT := TT_in (k := 233) rfl rfl
set_option maxRecDepth 20000 in
theorem m_234 : Jvm.Cond.declares ({ cls := "java/lang/RuntimeException", name := "<init>", desc := "()V" } : Jvm.MethodName) ∈ TT := TT_in (k := 234) rfl rfl
set_option maxRecDepth 20000 in
theorem m_235 : Jvm.Cond.declares ({ cls := "java/lang/RuntimeException", name := "<init>", desc := "(Ljava/lang/String;)V" } : Jvm.MethodName) ∈ TT := TT_in (k := 235) rfl rfl
set_option maxRecDepth 20000 in
theorem m_236 : Jvm.Cond.declares ({ cls := "java/lang/Exception", name := "<init>", desc := "()V" } : Jvm.MethodName) ∈ TT := TT_in (k := 236) rfl rfl
set_option maxRecDepth 20000 in
theorem m_237 : Jvm.Cond.declares ({ cls := "java/lang/Exception", name := "<init>", desc := "(Ljava/lang/String;)V" } : Jvm.MethodName) ∈ TT := TT_in (k := 237) rfl rfl
set_option maxRecDepth 20000 in
theorem m_238 : Jvm.Cond.declares ({ cls := "java/lang/Throwable", name := "<init>", desc := "()V" } : Jvm.MethodName) ∈ TT := TT_in (k := 238) rfl rfl
set_option maxRecDepth 20000 in
theorem m_239 : Jvm.Cond.declares ({ cls := "java/lang/Throwable", name := "<init>", desc := "(Ljava/lang/String;)V" } : Jvm.MethodName) ∈ TT := TT_in (k := 239) rfl rfl
set_option maxRecDepth 20000 in
theorem m_240 : Jvm.Cond.selects "java/lang/IllegalArgumentException" ({ cls := "java/lang/Throwable", name := "fillInStackTrace", desc := "(I)Ljava/lang/Throwable;" } : Jvm.MethodName) ({ cls := "java/lang/Throwable", name := "fillInStackTrace", desc := "(I)Ljava/lang/Throwable;" } : Jvm.MethodName) ∈ TT := TT_in (k := 240) rfl rfl
set_option maxRecDepth 20000 in
theorem m_241 : Jvm.Cond.selects "java/lang/IllegalArgumentException" ({ cls := "java/lang/Throwable", name := "fillInStackTrace", desc := "()Ljava/lang/Throwable;" } : Jvm.MethodName) ({ cls := "java/lang/Throwable", name := "fillInStackTrace", desc := "()Ljava/lang/Throwable;" } : Jvm.MethodName) ∈ TT := TT_in (k := 241) rfl rfl
set_option maxRecDepth 20000 in
theorem m_242 : Jvm.Cond.lays "java/lang/IllegalArgumentException" "java/lang/Throwable" "cause" "Ljava/lang/Throwable;" ∈ TT := TT_in (k := 242) rfl rfl
set_option maxRecDepth 20000 in
theorem m_243 : Jvm.Cond.lays "java/lang/Throwable" "java/lang/Throwable" "cause" "Ljava/lang/Throwable;" ∈ TT := TT_in (k := 243) rfl rfl
set_option maxRecDepth 20000 in
theorem m_244 : Jvm.Cond.lays "java/lang/IllegalArgumentException" "java/lang/Throwable" "stackTrace" "[Ljava/lang/StackTraceElement;" ∈ TT := TT_in (k := 244) rfl rfl
set_option maxRecDepth 20000 in
theorem m_245 : Jvm.Cond.lays "java/lang/Throwable" "java/lang/Throwable" "stackTrace" "[Ljava/lang/StackTraceElement;" ∈ TT := TT_in (k := 245) rfl rfl
set_option maxRecDepth 20000 in
theorem m_246 : Jvm.Cond.lays "java/lang/IllegalArgumentException" "java/lang/Throwable" "suppressedExceptions" "Ljava/util/List;" ∈ TT := TT_in (k := 246) rfl rfl
set_option maxRecDepth 20000 in
theorem m_247 : Jvm.Cond.lays "java/lang/Throwable" "java/lang/Throwable" "suppressedExceptions" "Ljava/util/List;" ∈ TT := TT_in (k := 247) rfl rfl
set_option maxRecDepth 20000 in
theorem m_248 : Jvm.Cond.lays "java/lang/IllegalArgumentException" "java/lang/Throwable" "detailMessage" "Ljava/lang/String;" ∈ TT := TT_in (k := 248) rfl rfl
set_option maxRecDepth 20000 in
theorem m_249 : Jvm.Cond.lays "java/lang/Throwable" "java/lang/Throwable" "detailMessage" "Ljava/lang/String;" ∈ TT := TT_in (k := 249) rfl rfl
set_option maxRecDepth 20000 in
theorem m_250 : Jvm.Cond.lays "java/lang/IllegalArgumentException" "java/lang/Throwable" "backtrace" "Ljava/lang/Object;" ∈ TT := TT_in (k := 250) rfl rfl
set_option maxRecDepth 20000 in
theorem m_251 : Jvm.Cond.lays "java/lang/Throwable" "java/lang/Throwable" "backtrace" "Ljava/lang/Object;" ∈ TT := TT_in (k := 251) rfl rfl
set_option maxRecDepth 20000 in
theorem m_252 : Jvm.Cond.fieldLink "java/lang/Throwable" (198 : Nat) "java/lang/Throwable" "backtrace" "Ljava/lang/Object;" ∈ TT := TT_in (k := 252) rfl rfl
set_option maxRecDepth 20000 in
theorem m_253 : Jvm.Cond.superclass "java/lang/Throwable" "java/lang/Object" ∈ TT := TT_in (k := 253) rfl rfl
set_option maxRecDepth 20000 in
theorem m_254 : Jvm.Cond.instanceMethod ({ cls := "java/lang/Throwable", name := "<init>", desc := "()V" } : Jvm.MethodName) ∈ TT := TT_in (k := 254) rfl rfl
set_option maxRecDepth 20000 in
theorem m_255 : Jvm.Cond.code ({ cls := "java/lang/Throwable", name := "<init>", desc := "()V" } : Jvm.MethodName) prog_16_method_1_code (1 : Nat) (Option.none : Option Jvm.ClassFile.FieldType) ∈ TT := TT_in (k := 255) rfl rfl
set_option maxRecDepth 20000 in
theorem m_256 : Jvm.Cond.methodLink "java/lang/Throwable" (1 : Nat) ({ cls := "java/lang/Object", name := "<init>", desc := "()V" } : Jvm.MethodName) ∈ TT := TT_in (k := 256) rfl rfl
set_option maxRecDepth 20000 in
theorem m_257 : Jvm.Cond.fieldLink "java/lang/Throwable" (13 : Nat) "java/lang/Throwable" "UNASSIGNED_STACK" "[Ljava/lang/StackTraceElement;" ∈ TT := TT_in (k := 257) rfl rfl
set_option maxRecDepth 20000 in
theorem m_259 : Jvm.Cond.fieldLink "java/lang/Throwable" (20 : Nat) "java/lang/Throwable" "SUPPRESSED_SENTINEL" "Ljava/util/List;" ∈ TT := TT_in (k := 259) rfl rfl
set_option maxRecDepth 20000 in
theorem m_261 : Jvm.Cond.methodLink "java/lang/Throwable" (27 : Nat) ({ cls := "java/lang/Throwable", name := "fillInStackTrace", desc := "()Ljava/lang/Throwable;" } : Jvm.MethodName) ∈ TT := TT_in (k := 261) rfl rfl
set_option maxRecDepth 20000 in
theorem m_262 : Jvm.Cond.instanceMethod ({ cls := "java/lang/Throwable", name := "fillInStackTrace", desc := "()Ljava/lang/Throwable;" } : Jvm.MethodName) ∈ TT := TT_in (k := 262) rfl rfl
set_option maxRecDepth 20000 in
theorem m_263 : Jvm.Cond.sameMethod "java/lang/Throwable" "java/lang/Throwable" "fillInStackTrace" "()Ljava/lang/Throwable;" ∈ TT := TT_in (k := 263) rfl rfl
set_option maxRecDepth 20000 in
theorem m_264 : Jvm.Cond.selects "java/lang/IllegalStateException" ({ cls := "java/lang/Throwable", name := "fillInStackTrace", desc := "()Ljava/lang/Throwable;" } : Jvm.MethodName) ({ cls := "java/lang/Throwable", name := "fillInStackTrace", desc := "()Ljava/lang/Throwable;" } : Jvm.MethodName) ∈ TT := TT_in (k := 264) rfl rfl
set_option maxRecDepth 20000 in
theorem m_265 : Jvm.Cond.codeSync ({ cls := "java/lang/Throwable", name := "fillInStackTrace", desc := "()Ljava/lang/Throwable;" } : Jvm.MethodName) prog_16_method_18_code (1 : Nat) (Option.some (Jvm.ClassFile.FieldType.object "java/lang/Throwable")) ∈ TT := TT_in (k := 265) rfl rfl
set_option maxRecDepth 20000 in
theorem m_266 : Jvm.Cond.methodLink "java/lang/Throwable" (202 : Nat) ({ cls := "java/lang/Throwable", name := "fillInStackTrace", desc := "(I)Ljava/lang/Throwable;" } : Jvm.MethodName) ∈ TT := TT_in (k := 266) rfl rfl
set_option maxRecDepth 20000 in
theorem m_268 : Jvm.Cond.instanceMethod ({ cls := "java/lang/Throwable", name := "fillInStackTrace", desc := "(I)Ljava/lang/Throwable;" } : Jvm.MethodName) ∈ TT := TT_in (k := 268) rfl rfl
set_option maxRecDepth 20000 in
theorem m_269 : Jvm.Cond.instantiable "java/lang/Throwable" (6 : Nat) ∈ TT := TT_in (k := 269) rfl rfl
set_option maxRecDepth 20000 in
theorem m_270 : Jvm.Cond.native ({ cls := "java/lang/Throwable", name := "fillInStackTrace", desc := "(I)Ljava/lang/Throwable;" } : Jvm.MethodName) ∈ TT := TT_in (k := 270) rfl rfl
set_option maxRecDepth 20000 in
theorem m_271 : Jvm.Cond.stringRef "TwoGenerations" (48 : Nat) "no such register, or too few or too many fields" ∈ TT := TT_in (k := 271) rfl rfl
set_option maxRecDepth 20000 in
theorem m_272 : Jvm.Cond.methodLink "TwoGenerations" (50 : Nat) ({ cls := "java/lang/IllegalArgumentException", name := "<init>", desc := "(Ljava/lang/String;)V" } : Jvm.MethodName) ∈ TT := TT_in (k := 272) rfl rfl
set_option maxRecDepth 20000 in
theorem m_273 : Jvm.Cond.instanceMethod ({ cls := "java/lang/IllegalArgumentException", name := "<init>", desc := "(Ljava/lang/String;)V" } : Jvm.MethodName) ∈ TT := TT_in (k := 273) rfl rfl
set_option maxRecDepth 20000 in
theorem m_274 : Jvm.Cond.code ({ cls := "java/lang/IllegalArgumentException", name := "<init>", desc := "(Ljava/lang/String;)V" } : Jvm.MethodName) prog_12_method_2_code (2 : Nat) (Option.none : Option Jvm.ClassFile.FieldType) ∈ TT := TT_in (k := 274) rfl rfl
set_option maxRecDepth 20000 in
theorem m_275 : Jvm.Cond.methodLink "java/lang/IllegalArgumentException" (7 : Nat) ({ cls := "java/lang/RuntimeException", name := "<init>", desc := "(Ljava/lang/String;)V" } : Jvm.MethodName) ∈ TT := TT_in (k := 275) rfl rfl
set_option maxRecDepth 20000 in
theorem m_276 : Jvm.Cond.instanceMethod ({ cls := "java/lang/RuntimeException", name := "<init>", desc := "(Ljava/lang/String;)V" } : Jvm.MethodName) ∈ TT := TT_in (k := 276) rfl rfl
set_option maxRecDepth 20000 in
theorem m_277 : Jvm.Cond.code ({ cls := "java/lang/RuntimeException", name := "<init>", desc := "(Ljava/lang/String;)V" } : Jvm.MethodName) prog_14_method_2_code (2 : Nat) (Option.none : Option Jvm.ClassFile.FieldType) ∈ TT := TT_in (k := 277) rfl rfl
set_option maxRecDepth 20000 in
theorem m_278 : Jvm.Cond.methodLink "java/lang/RuntimeException" (7 : Nat) ({ cls := "java/lang/Exception", name := "<init>", desc := "(Ljava/lang/String;)V" } : Jvm.MethodName) ∈ TT := TT_in (k := 278) rfl rfl
set_option maxRecDepth 20000 in
theorem m_279 : Jvm.Cond.instanceMethod ({ cls := "java/lang/Exception", name := "<init>", desc := "(Ljava/lang/String;)V" } : Jvm.MethodName) ∈ TT := TT_in (k := 279) rfl rfl
set_option maxRecDepth 20000 in
theorem m_280 : Jvm.Cond.code ({ cls := "java/lang/Exception", name := "<init>", desc := "(Ljava/lang/String;)V" } : Jvm.MethodName) prog_11_method_2_code (2 : Nat) (Option.none : Option Jvm.ClassFile.FieldType) ∈ TT := TT_in (k := 280) rfl rfl
set_option maxRecDepth 20000 in
theorem m_281 : Jvm.Cond.methodLink "java/lang/Exception" (7 : Nat) ({ cls := "java/lang/Throwable", name := "<init>", desc := "(Ljava/lang/String;)V" } : Jvm.MethodName) ∈ TT := TT_in (k := 281) rfl rfl
set_option maxRecDepth 20000 in
theorem m_282 : Jvm.Cond.instanceMethod ({ cls := "java/lang/Throwable", name := "<init>", desc := "(Ljava/lang/String;)V" } : Jvm.MethodName) ∈ TT := TT_in (k := 282) rfl rfl
set_option maxRecDepth 20000 in
theorem m_283 : Jvm.Cond.code ({ cls := "java/lang/Throwable", name := "<init>", desc := "(Ljava/lang/String;)V" } : Jvm.MethodName) prog_16_method_2_code (2 : Nat) (Option.none : Option Jvm.ClassFile.FieldType) ∈ TT := TT_in (k := 283) rfl rfl
set_option maxRecDepth 20000 in
theorem m_284 : Jvm.Cond.fieldLink "java/lang/Throwable" (198 : Nat) "java/lang/Throwable" "backtrace" "Ljava/lang/Object;" ∈ TT := TT_in (k := 284) rfl rfl
set_option maxRecDepth 20000 in
theorem m_285 : Jvm.Cond.fieldLink "java/lang/Throwable" (31 : Nat) "java/lang/Throwable" "detailMessage" "Ljava/lang/String;" ∈ TT := TT_in (k := 285) rfl rfl
set_option maxRecDepth 20000 in
theorem m_286 : Jvm.Cond.fieldLink "java/lang/Throwable" (7 : Nat) "java/lang/Throwable" "cause" "Ljava/lang/Throwable;" ∈ TT := TT_in (k := 286) rfl rfl
set_option maxRecDepth 20000 in
theorem m_287 : Jvm.Cond.fieldLink "java/lang/Throwable" (17 : Nat) "java/lang/Throwable" "stackTrace" "[Ljava/lang/StackTraceElement;" ∈ TT := TT_in (k := 287) rfl rfl
set_option maxRecDepth 20000 in
theorem m_288 : Jvm.Cond.fieldLink "java/lang/Throwable" (24 : Nat) "java/lang/Throwable" "suppressedExceptions" "Ljava/util/List;" ∈ TT := TT_in (k := 288) rfl rfl
set_option maxRecDepth 20000 in
theorem m_289 : Jvm.Cond.soleField "java/lang/Throwable" "backtrace" ∈ TT := TT_in (k := 289) rfl rfl
set_option maxRecDepth 20000 in
theorem m_290 : Jvm.Cond.soleField "java/lang/Throwable" "detailMessage" ∈ TT := TT_in (k := 290) rfl rfl
set_option maxRecDepth 20000 in
theorem m_291 : Jvm.Cond.soleField "java/lang/Throwable" "cause" ∈ TT := TT_in (k := 291) rfl rfl
set_option maxRecDepth 20000 in
theorem m_292 : Jvm.Cond.soleField "java/lang/Throwable" "stackTrace" ∈ TT := TT_in (k := 292) rfl rfl
set_option maxRecDepth 20000 in
theorem m_293 : Jvm.Cond.lays "java/lang/IllegalArgumentException" "java/lang/Throwable" "depth" "I" ∈ TT := TT_in (k := 293) rfl rfl
set_option maxRecDepth 20000 in
theorem m_294 : Jvm.Cond.soleField "java/lang/Throwable" "depth" ∈ TT := TT_in (k := 294) rfl rfl
set_option maxRecDepth 20000 in
theorem m_295 : Jvm.Cond.soleField "java/lang/Throwable" "suppressedExceptions" ∈ TT := TT_in (k := 295) rfl rfl
set_option maxRecDepth 20000 in
theorem m_296 : Jvm.Cond.superclass "java/lang/IllegalArgumentException" "java/lang/RuntimeException" ∈ TT := TT_in (k := 296) rfl rfl
set_option maxRecDepth 20000 in
theorem m_297 : Jvm.Cond.arrayClass Jvm.ClassFile.FieldType.byte ∈ TT := TT_in (k := 297) rfl rfl
set_option maxRecDepth 20000 in
theorem m_298 : Jvm.Cond.instantiable "TwoGenerations$Plain" (4 : Nat) ∈ TT := TT_in (k := 298) rfl rfl
set_option maxRecDepth 20000 in
theorem m_299 : Jvm.Cond.methodLink "TwoGenerations" (55 : Nat) ({ cls := "TwoGenerations$Plain", name := "<init>", desc := "(I)V" } : Jvm.MethodName) ∈ TT := TT_in (k := 299) rfl rfl
set_option maxRecDepth 20000 in
theorem m_300 : Jvm.Cond.instanceMethod ({ cls := "TwoGenerations$Plain", name := "<init>", desc := "(I)V" } : Jvm.MethodName) ∈ TT := TT_in (k := 300) rfl rfl
set_option maxRecDepth 20000 in
theorem m_301 : Jvm.Cond.code ({ cls := "TwoGenerations$Plain", name := "<init>", desc := "(I)V" } : Jvm.MethodName) prog_3_method_1_code (2 : Nat) (Option.none : Option Jvm.ClassFile.FieldType) ∈ TT := TT_in (k := 301) rfl rfl
set_option maxRecDepth 20000 in
theorem m_302 : Jvm.Cond.methodLink "TwoGenerations$Plain" (1 : Nat) ({ cls := "TwoGenerations$Thing", name := "<init>", desc := "(I)V" } : Jvm.MethodName) ∈ TT := TT_in (k := 302) rfl rfl
set_option maxRecDepth 20000 in
theorem m_303 : Jvm.Cond.instanceMethod ({ cls := "TwoGenerations$Thing", name := "<init>", desc := "(I)V" } : Jvm.MethodName) ∈ TT := TT_in (k := 303) rfl rfl
set_option maxRecDepth 20000 in
theorem m_304 : Jvm.Cond.code ({ cls := "TwoGenerations$Thing", name := "<init>", desc := "(I)V" } : Jvm.MethodName) prog_4_method_1_code (2 : Nat) (Option.none : Option Jvm.ClassFile.FieldType) ∈ TT := TT_in (k := 304) rfl rfl
set_option maxRecDepth 20000 in
theorem m_305 : Jvm.Cond.methodLinkNest "TwoGenerations$Thing" (1 : Nat) ({ cls := "TwoGenerations$Value", name := "<init>", desc := "()V" } : Jvm.MethodName) "TwoGenerations" ∈ TT := TT_in (k := 305) rfl rfl
set_option maxRecDepth 20000 in
theorem m_306 : Jvm.Cond.instanceMethod ({ cls := "TwoGenerations$Value", name := "<init>", desc := "()V" } : Jvm.MethodName) ∈ TT := TT_in (k := 306) rfl rfl
set_option maxRecDepth 20000 in
theorem m_307 : Jvm.Cond.code ({ cls := "TwoGenerations$Value", name := "<init>", desc := "()V" } : Jvm.MethodName) prog_6_method_1_code (1 : Nat) (Option.none : Option Jvm.ClassFile.FieldType) ∈ TT := TT_in (k := 307) rfl rfl
set_option maxRecDepth 20000 in
theorem m_308 : Jvm.Cond.methodLink "TwoGenerations$Value" (1 : Nat) ({ cls := "java/lang/Object", name := "<init>", desc := "()V" } : Jvm.MethodName) ∈ TT := TT_in (k := 308) rfl rfl
set_option maxRecDepth 20000 in
theorem m_309 : Jvm.Cond.classLink "TwoGenerations$Plain" (7 : Nat) "TwoGenerations$Value" ∈ TT := TT_in (k := 309) rfl rfl
set_option maxRecDepth 20000 in
theorem m_310 : Jvm.Cond.fieldLink "TwoGenerations$Plain" (9 : Nat) "TwoGenerations$Plain" "contents" "[LTwoGenerations$Value;" ∈ TT := TT_in (k := 310) rfl rfl
set_option maxRecDepth 20000 in
theorem m_311 : Jvm.Cond.fieldLink "TwoGenerations" (80 : Nat) "TwoGenerations$Plain" "contents" "[LTwoGenerations$Value;" ∈ TT := TT_in (k := 311) rfl rfl
set_option maxRecDepth 20000 in
theorem m_312 : Jvm.Cond.fieldLink "TwoGenerations$Trace" (45 : Nat) "TwoGenerations$Plain" "contents" "[LTwoGenerations$Value;" ∈ TT := TT_in (k := 312) rfl rfl
set_option maxRecDepth 20000 in
theorem m_313 : Jvm.Cond.fieldLink "TwoGenerations$Thing" (7 : Nat) "TwoGenerations$Thing" "size" "I" ∈ TT := TT_in (k := 313) rfl rfl
set_option maxRecDepth 20000 in
theorem m_314 : Jvm.Cond.fieldLink "TwoGenerations$Generation" (25 : Nat) "TwoGenerations$Thing" "size" "I" ∈ TT := TT_in (k := 314) rfl rfl
set_option maxRecDepth 20000 in
theorem m_315 : Jvm.Cond.fieldLink "TwoGenerations$Trace" (26 : Nat) "TwoGenerations$Thing" "size" "I" ∈ TT := TT_in (k := 315) rfl rfl
set_option maxRecDepth 20000 in
theorem m_316 : Jvm.Cond.fieldLink "TwoGenerations" (149 : Nat) "TwoGenerations$Thing" "size" "I" ∈ TT := TT_in (k := 316) rfl rfl
set_option maxRecDepth 20000 in
theorem m_317 : Jvm.Cond.fieldLink "TwoGenerations$Generation" (44 : Nat) "TwoGenerations$Thing" "isOld" "Z" ∈ TT := TT_in (k := 317) rfl rfl
set_option maxRecDepth 20000 in
theorem m_318 : Jvm.Cond.fieldLink "TwoGenerations" (109 : Nat) "TwoGenerations$Thing" "isOld" "Z" ∈ TT := TT_in (k := 318) rfl rfl
set_option maxRecDepth 20000 in
theorem m_319 : Jvm.Cond.fieldLink "TwoGenerations$Weak" (13 : Nat) "TwoGenerations$Thing" "isReached" "Z" ∈ TT := TT_in (k := 319) rfl rfl
set_option maxRecDepth 20000 in
theorem m_320 : Jvm.Cond.fieldLink "TwoGenerations$Trace" (19 : Nat) "TwoGenerations$Thing" "isReached" "Z" ∈ TT := TT_in (k := 320) rfl rfl
set_option maxRecDepth 20000 in
theorem m_321 : Jvm.Cond.fieldLink "TwoGenerations$Generation" (28 : Nat) "TwoGenerations$Thing" "isReached" "Z" ∈ TT := TT_in (k := 321) rfl rfl
set_option maxRecDepth 20000 in
theorem m_322 : Jvm.Cond.laysFinal "TwoGenerations$Plain" "TwoGenerations$Plain" "contents" "[LTwoGenerations$Value;" ∈ TT := TT_in (k := 322) rfl rfl
set_option maxRecDepth 20000 in
theorem m_323 : Jvm.Cond.soleField "TwoGenerations$Plain" "contents" ∈ TT := TT_in (k := 323) rfl rfl
set_option maxRecDepth 20000 in
theorem m_324 : Jvm.Cond.laysFinal "TwoGenerations$Plain" "TwoGenerations$Thing" "size" "I" ∈ TT := TT_in (k := 324) rfl rfl
set_option maxRecDepth 20000 in
theorem m_325 : Jvm.Cond.soleField "TwoGenerations$Thing" "size" ∈ TT := TT_in (k := 325) rfl rfl
set_option maxRecDepth 20000 in
theorem m_326 : Jvm.Cond.lays "TwoGenerations$Plain" "TwoGenerations$Thing" "isOld" "Z" ∈ TT := TT_in (k := 326) rfl rfl
set_option maxRecDepth 20000 in
theorem m_327 : Jvm.Cond.soleField "TwoGenerations$Thing" "isOld" ∈ TT := TT_in (k := 327) rfl rfl
set_option maxRecDepth 20000 in
theorem m_328 : Jvm.Cond.lays "TwoGenerations$Plain" "TwoGenerations$Thing" "isReached" "Z" ∈ TT := TT_in (k := 328) rfl rfl
set_option maxRecDepth 20000 in
theorem m_329 : Jvm.Cond.soleField "TwoGenerations$Thing" "isReached" ∈ TT := TT_in (k := 329) rfl rfl
set_option maxRecDepth 20000 in
theorem m_330 : Jvm.Cond.superclass "TwoGenerations$Plain" "TwoGenerations$Thing" ∈ TT := TT_in (k := 330) rfl rfl
set_option maxRecDepth 20000 in
theorem m_331 : Jvm.Cond.methodLink "TwoGenerations" (56 : Nat) ({ cls := "TwoGenerations", name := "bear", desc := "(ILTwoGenerations$Thing;)V" } : Jvm.MethodName) ∈ TT := TT_in (k := 331) rfl rfl
set_option maxRecDepth 20000 in
theorem m_333 : Jvm.Cond.instanceMethod ({ cls := "TwoGenerations", name := "bear", desc := "(ILTwoGenerations$Thing;)V" } : Jvm.MethodName) ∈ TT := TT_in (k := 333) rfl rfl
set_option maxRecDepth 20000 in
theorem m_334 : Jvm.Cond.code ({ cls := "TwoGenerations", name := "bear", desc := "(ILTwoGenerations$Thing;)V" } : Jvm.MethodName) prog_1_method_26_code (3 : Nat) (Option.none : Option Jvm.ClassFile.FieldType) ∈ TT := TT_in (k := 334) rfl rfl
set_option maxRecDepth 20000 in
theorem m_335 : Jvm.Cond.methodLink "TwoGenerations" (152 : Nat) ({ cls := "TwoGenerations$Generation", name := "free", desc := "()I" } : Jvm.MethodName) ∈ TT := TT_in (k := 335) rfl rfl
set_option maxRecDepth 20000 in
theorem m_336 : Jvm.Cond.instanceMethod ({ cls := "TwoGenerations$Generation", name := "free", desc := "()I" } : Jvm.MethodName) ∈ TT := TT_in (k := 336) rfl rfl
set_option maxRecDepth 20000 in
theorem m_337 : Jvm.Cond.selects "TwoGenerations$Generation" ({ cls := "TwoGenerations$Generation", name := "free", desc := "()I" } : Jvm.MethodName) ({ cls := "TwoGenerations$Generation", name := "free", desc := "()I" } : Jvm.MethodName) ∈ TT := TT_in (k := 337) rfl rfl
set_option maxRecDepth 20000 in
theorem m_338 : Jvm.Cond.code ({ cls := "TwoGenerations$Generation", name := "free", desc := "()I" } : Jvm.MethodName) prog_2_method_2_code (1 : Nat) (Option.some Jvm.ClassFile.FieldType.int) ∈ TT := TT_in (k := 338) rfl rfl
set_option maxRecDepth 20000 in
theorem m_339 : Jvm.Cond.methodLink "TwoGenerations" (128 : Nat) ({ cls := "TwoGenerations", name := "collectYoung", desc := "()I" } : Jvm.MethodName) ∈ TT := TT_in (k := 339) rfl rfl
set_option maxRecDepth 20000 in
theorem m_341 : Jvm.Cond.instanceMethod ({ cls := "TwoGenerations", name := "collectYoung", desc := "()I" } : Jvm.MethodName) ∈ TT := TT_in (k := 341) rfl rfl
set_option maxRecDepth 20000 in
theorem m_342 : Jvm.Cond.code ({ cls := "TwoGenerations", name := "collectYoung", desc := "()I" } : Jvm.MethodName) prog_1_method_27_code (2 : Nat) (Option.some Jvm.ClassFile.FieldType.int) ∈ TT := TT_in (k := 342) rfl rfl
set_option maxRecDepth 20000 in
theorem m_343 : Jvm.Cond.methodLink "TwoGenerations" (161 : Nat) ({ cls := "TwoGenerations$Trace", name := "findAll", desc := "(LTwoGenerations$Generation;)V" } : Jvm.MethodName) ∈ TT := TT_in (k := 343) rfl rfl
set_option maxRecDepth 20000 in
theorem m_344 : Jvm.Cond.instanceMethod ({ cls := "TwoGenerations$Trace", name := "findAll", desc := "(LTwoGenerations$Generation;)V" } : Jvm.MethodName) ∈ TT := TT_in (k := 344) rfl rfl
set_option maxRecDepth 20000 in
theorem m_345 : Jvm.Cond.selects "TwoGenerations$Trace" ({ cls := "TwoGenerations$Trace", name := "findAll", desc := "(LTwoGenerations$Generation;)V" } : Jvm.MethodName) ({ cls := "TwoGenerations$Trace", name := "findAll", desc := "(LTwoGenerations$Generation;)V" } : Jvm.MethodName) ∈ TT := TT_in (k := 345) rfl rfl
set_option maxRecDepth 20000 in
theorem m_346 : Jvm.Cond.code ({ cls := "TwoGenerations$Trace", name := "findAll", desc := "(LTwoGenerations$Generation;)V" } : Jvm.MethodName) prog_5_method_4_code (3 : Nat) (Option.none : Option Jvm.ClassFile.FieldType) ∈ TT := TT_in (k := 346) rfl rfl
set_option maxRecDepth 20000 in
theorem m_347 : Jvm.Cond.methodLink "TwoGenerations" (165 : Nat) ({ cls := "TwoGenerations$Generation", name := "reachedCells", desc := "()I" } : Jvm.MethodName) ∈ TT := TT_in (k := 347) rfl rfl
set_option maxRecDepth 20000 in
theorem m_348 : Jvm.Cond.instanceMethod ({ cls := "TwoGenerations$Generation", name := "reachedCells", desc := "()I" } : Jvm.MethodName) ∈ TT := TT_in (k := 348) rfl rfl
set_option maxRecDepth 20000 in
theorem m_349 : Jvm.Cond.selects "TwoGenerations$Generation" ({ cls := "TwoGenerations$Generation", name := "reachedCells", desc := "()I" } : Jvm.MethodName) ({ cls := "TwoGenerations$Generation", name := "reachedCells", desc := "()I" } : Jvm.MethodName) ∈ TT := TT_in (k := 349) rfl rfl
set_option maxRecDepth 20000 in
theorem m_350 : Jvm.Cond.code ({ cls := "TwoGenerations$Generation", name := "reachedCells", desc := "()I" } : Jvm.MethodName) prog_2_method_5_code (4 : Nat) (Option.some Jvm.ClassFile.FieldType.int) ∈ TT := TT_in (k := 350) rfl rfl
set_option maxRecDepth 20000 in
theorem m_351 : Jvm.Cond.methodLink "TwoGenerations" (171 : Nat) ({ cls := "TwoGenerations$Generation", name := "adoptReached", desc := "(LTwoGenerations$Generation;)V" } : Jvm.MethodName) ∈ TT := TT_in (k := 351) rfl rfl
set_option maxRecDepth 20000 in
theorem m_352 : Jvm.Cond.instanceMethod ({ cls := "TwoGenerations$Generation", name := "adoptReached", desc := "(LTwoGenerations$Generation;)V" } : Jvm.MethodName) ∈ TT := TT_in (k := 352) rfl rfl
set_option maxRecDepth 20000 in
theorem m_353 : Jvm.Cond.selects "TwoGenerations$Generation" ({ cls := "TwoGenerations$Generation", name := "adoptReached", desc := "(LTwoGenerations$Generation;)V" } : Jvm.MethodName) ({ cls := "TwoGenerations$Generation", name := "adoptReached", desc := "(LTwoGenerations$Generation;)V" } : Jvm.MethodName) ∈ TT := TT_in (k := 353) rfl rfl
set_option maxRecDepth 20000 in
theorem m_354 : Jvm.Cond.code ({ cls := "TwoGenerations$Generation", name := "adoptReached", desc := "(LTwoGenerations$Generation;)V" } : Jvm.MethodName) prog_2_method_8_code (4 : Nat) (Option.none : Option Jvm.ClassFile.FieldType) ∈ TT := TT_in (k := 354) rfl rfl
set_option maxRecDepth 20000 in
theorem m_355 : Jvm.Cond.methodLink "TwoGenerations" (174 : Nat) ({ cls := "TwoGenerations$Generation", name := "empty", desc := "()V" } : Jvm.MethodName) ∈ TT := TT_in (k := 355) rfl rfl
set_option maxRecDepth 20000 in
theorem m_356 : Jvm.Cond.classLink "TwoGenerations" (132 : Nat) "java/lang/IllegalStateException" ∈ TT := TT_in (k := 356) rfl rfl
set_option maxRecDepth 20000 in
theorem m_357 : Jvm.Cond.instantiable "java/lang/IllegalStateException" (6 : Nat) ∈ TT := TT_in (k := 357) rfl rfl
set_option maxRecDepth 20000 in
theorem m_358 : Jvm.Cond.castable "java/lang/IllegalStateException" "java/lang/IllegalStateException" ∈ TT := TT_in (k := 358) rfl rfl
set_option maxRecDepth 20000 in
theorem m_359 : Jvm.Cond.selects "java/lang/IllegalStateException" ({ cls := "java/lang/Throwable", name := "fillInStackTrace", desc := "(I)Ljava/lang/Throwable;" } : Jvm.MethodName) ({ cls := "java/lang/Throwable", name := "fillInStackTrace", desc := "(I)Ljava/lang/Throwable;" } : Jvm.MethodName) ∈ TT := TT_in (k := 359) rfl rfl
set_option maxRecDepth 20000 in
theorem m_360 : Jvm.Cond.lays "java/lang/IllegalStateException" "java/lang/Throwable" "cause" "Ljava/lang/Throwable;" ∈ TT := TT_in (k := 360) rfl rfl
set_option maxRecDepth 20000 in
theorem m_361 : Jvm.Cond.lays "java/lang/IllegalStateException" "java/lang/Throwable" "stackTrace" "[Ljava/lang/StackTraceElement;" ∈ TT := TT_in (k := 361) rfl rfl
set_option maxRecDepth 20000 in
theorem m_362 : Jvm.Cond.lays "java/lang/IllegalStateException" "java/lang/Throwable" "suppressedExceptions" "Ljava/util/List;" ∈ TT := TT_in (k := 362) rfl rfl
set_option maxRecDepth 20000 in
theorem m_363 : Jvm.Cond.lays "java/lang/IllegalStateException" "java/lang/Throwable" "detailMessage" "Ljava/lang/String;" ∈ TT := TT_in (k := 363) rfl rfl
set_option maxRecDepth 20000 in
theorem m_364 : Jvm.Cond.lays "java/lang/IllegalStateException" "java/lang/Throwable" "backtrace" "Ljava/lang/Object;" ∈ TT := TT_in (k := 364) rfl rfl
set_option maxRecDepth 20000 in
theorem m_365 : Jvm.Cond.stringRef "TwoGenerations" (134 : Nat) "the old generation is full" ∈ TT := TT_in (k := 365) rfl rfl
set_option maxRecDepth 20000 in
theorem m_366 : Jvm.Cond.methodLink "TwoGenerations" (136 : Nat) ({ cls := "java/lang/IllegalStateException", name := "<init>", desc := "(Ljava/lang/String;)V" } : Jvm.MethodName) ∈ TT := TT_in (k := 366) rfl rfl
set_option maxRecDepth 20000 in
theorem m_367 : Jvm.Cond.instanceMethod ({ cls := "java/lang/IllegalStateException", name := "<init>", desc := "(Ljava/lang/String;)V" } : Jvm.MethodName) ∈ TT := TT_in (k := 367) rfl rfl
set_option maxRecDepth 20000 in
theorem m_368 : Jvm.Cond.code ({ cls := "java/lang/IllegalStateException", name := "<init>", desc := "(Ljava/lang/String;)V" } : Jvm.MethodName) prog_13_method_2_code (2 : Nat) (Option.none : Option Jvm.ClassFile.FieldType) ∈ TT := TT_in (k := 368) rfl rfl
set_option maxRecDepth 20000 in
theorem m_369 : Jvm.Cond.methodLink "java/lang/IllegalStateException" (7 : Nat) ({ cls := "java/lang/RuntimeException", name := "<init>", desc := "(Ljava/lang/String;)V" } : Jvm.MethodName) ∈ TT := TT_in (k := 369) rfl rfl
set_option maxRecDepth 20000 in
theorem m_370 : Jvm.Cond.lays "java/lang/IllegalStateException" "java/lang/Throwable" "depth" "I" ∈ TT := TT_in (k := 370) rfl rfl
set_option maxRecDepth 20000 in
theorem m_371 : Jvm.Cond.superclass "java/lang/IllegalStateException" "java/lang/RuntimeException" ∈ TT := TT_in (k := 371) rfl rfl
set_option maxRecDepth 20000 in
theorem m_372 : Jvm.Cond.methodLink "TwoGenerations" (155 : Nat) ({ cls := "TwoGenerations$Generation", name := "add", desc := "(LTwoGenerations$Thing;)V" } : Jvm.MethodName) ∈ TT := TT_in (k := 372) rfl rfl
set_option maxRecDepth 20000 in
theorem m_373 : Jvm.Cond.methodLink "TwoGenerationsLaw" (62 : Nat) ({ cls := "TwoGenerationsLaw", name := "weak", desc := "(LTwoGenerations;II)I" } : Jvm.MethodName) ∈ TT := TT_in (k := 373) rfl rfl
set_option maxRecDepth 20000 in
theorem m_374 : Jvm.Cond.static ({ cls := "TwoGenerationsLaw", name := "weak", desc := "(LTwoGenerations;II)I" } : Jvm.MethodName) ∈ TT := TT_in (k := 374) rfl rfl
set_option maxRecDepth 20000 in
theorem m_375 : Jvm.Cond.codeWith ({ cls := "TwoGenerationsLaw", name := "weak", desc := "(LTwoGenerations;II)I" } : Jvm.MethodName) method_4_code (4 : Nat) (Option.some Jvm.ClassFile.FieldType.int) [((0 : Nat), (6 : Nat), (9 : Nat), (13 : Nat)), ((0 : Nat), (6 : Nat), (12 : Nat), (15 : Nat))] ∈ TT := TT_in (k := 375) rfl rfl
set_option maxRecDepth 20000 in
theorem m_376 : Jvm.Cond.methodLink "TwoGenerationsLaw" (17 : Nat) ({ cls := "TwoGenerations", name := "weak", desc := "(II)V" } : Jvm.MethodName) ∈ TT := TT_in (k := 376) rfl rfl
set_option maxRecDepth 20000 in
theorem m_377 : Jvm.Cond.instanceMethod ({ cls := "TwoGenerations", name := "weak", desc := "(II)V" } : Jvm.MethodName) ∈ TT := TT_in (k := 377) rfl rfl
set_option maxRecDepth 20000 in
theorem m_378 : Jvm.Cond.selects "TwoGenerations" ({ cls := "TwoGenerations", name := "weak", desc := "(II)V" } : Jvm.MethodName) ({ cls := "TwoGenerations", name := "weak", desc := "(II)V" } : Jvm.MethodName) ∈ TT := TT_in (k := 378) rfl rfl
set_option maxRecDepth 20000 in
theorem m_379 : Jvm.Cond.code ({ cls := "TwoGenerations", name := "weak", desc := "(II)V" } : Jvm.MethodName) prog_1_method_3_code (4 : Nat) (Option.none : Option Jvm.ClassFile.FieldType) ∈ TT := TT_in (k := 379) rfl rfl
set_option maxRecDepth 20000 in
theorem m_380 : Jvm.Cond.stringRef "TwoGenerations" (64 : Nat) "no such register, or no object to aim at" ∈ TT := TT_in (k := 380) rfl rfl
set_option maxRecDepth 20000 in
theorem m_381 : Jvm.Cond.classLink "TwoGenerations" (66 : Nat) "TwoGenerations$Weak" ∈ TT := TT_in (k := 381) rfl rfl
set_option maxRecDepth 20000 in
theorem m_382 : Jvm.Cond.instantiable "TwoGenerations$Weak" (4 : Nat) ∈ TT := TT_in (k := 382) rfl rfl
set_option maxRecDepth 20000 in
theorem m_383 : Jvm.Cond.methodLink "TwoGenerations" (68 : Nat) ({ cls := "TwoGenerations$Weak", name := "<init>", desc := "(LTwoGenerations$Thing;)V" } : Jvm.MethodName) ∈ TT := TT_in (k := 383) rfl rfl
set_option maxRecDepth 20000 in
theorem m_384 : Jvm.Cond.instanceMethod ({ cls := "TwoGenerations$Weak", name := "<init>", desc := "(LTwoGenerations$Thing;)V" } : Jvm.MethodName) ∈ TT := TT_in (k := 384) rfl rfl
set_option maxRecDepth 20000 in
theorem m_385 : Jvm.Cond.code ({ cls := "TwoGenerations$Weak", name := "<init>", desc := "(LTwoGenerations$Thing;)V" } : Jvm.MethodName) prog_7_method_1_code (2 : Nat) (Option.none : Option Jvm.ClassFile.FieldType) ∈ TT := TT_in (k := 385) rfl rfl
set_option maxRecDepth 20000 in
theorem m_386 : Jvm.Cond.methodLink "TwoGenerations$Weak" (1 : Nat) ({ cls := "TwoGenerations$Thing", name := "<init>", desc := "(I)V" } : Jvm.MethodName) ∈ TT := TT_in (k := 386) rfl rfl
set_option maxRecDepth 20000 in
theorem m_387 : Jvm.Cond.fieldLink "TwoGenerations$Weak" (7 : Nat) "TwoGenerations$Weak" "target" "LTwoGenerations$Thing;" ∈ TT := TT_in (k := 387) rfl rfl
set_option maxRecDepth 20000 in
theorem m_388 : Jvm.Cond.fieldLink "TwoGenerations" (89 : Nat) "TwoGenerations$Weak" "target" "LTwoGenerations$Thing;" ∈ TT := TT_in (k := 388) rfl rfl
set_option maxRecDepth 20000 in
theorem m_389 : Jvm.Cond.lays "TwoGenerations$Weak" "TwoGenerations$Weak" "target" "LTwoGenerations$Thing;" ∈ TT := TT_in (k := 389) rfl rfl
set_option maxRecDepth 20000 in
theorem m_390 : Jvm.Cond.soleField "TwoGenerations$Weak" "target" ∈ TT := TT_in (k := 390) rfl rfl
set_option maxRecDepth 20000 in
theorem m_391 : Jvm.Cond.laysFinal "TwoGenerations$Weak" "TwoGenerations$Thing" "size" "I" ∈ TT := TT_in (k := 391) rfl rfl
set_option maxRecDepth 20000 in
theorem m_392 : Jvm.Cond.lays "TwoGenerations$Weak" "TwoGenerations$Thing" "isOld" "Z" ∈ TT := TT_in (k := 392) rfl rfl
set_option maxRecDepth 20000 in
theorem m_393 : Jvm.Cond.lays "TwoGenerations$Weak" "TwoGenerations$Thing" "isReached" "Z" ∈ TT := TT_in (k := 393) rfl rfl
set_option maxRecDepth 20000 in
theorem m_394 : Jvm.Cond.superclass "TwoGenerations$Weak" "TwoGenerations$Thing" ∈ TT := TT_in (k := 394) rfl rfl
set_option maxRecDepth 20000 in
theorem m_395 : Jvm.Cond.methodLink "TwoGenerationsLaw" (65 : Nat) ({ cls := "TwoGenerationsLaw", name := "load", desc := "(LTwoGenerations;III)I" } : Jvm.MethodName) ∈ TT := TT_in (k := 395) rfl rfl
set_option maxRecDepth 20000 in
theorem m_396 : Jvm.Cond.static ({ cls := "TwoGenerationsLaw", name := "load", desc := "(LTwoGenerations;III)I" } : Jvm.MethodName) ∈ TT := TT_in (k := 396) rfl rfl
set_option maxRecDepth 20000 in
theorem m_397 : Jvm.Cond.codeWith ({ cls := "TwoGenerationsLaw", name := "load", desc := "(LTwoGenerations;III)I" } : Jvm.MethodName) method_5_code (5 : Nat) (Option.some Jvm.ClassFile.FieldType.int) [((0 : Nat), (7 : Nat), (10 : Nat), (13 : Nat))] ∈ TT := TT_in (k := 397) rfl rfl
set_option maxRecDepth 20000 in
theorem m_398 : Jvm.Cond.methodLink "TwoGenerationsLaw" (20 : Nat) ({ cls := "TwoGenerations", name := "load", desc := "(III)V" } : Jvm.MethodName) ∈ TT := TT_in (k := 398) rfl rfl
set_option maxRecDepth 20000 in
theorem m_399 : Jvm.Cond.instanceMethod ({ cls := "TwoGenerations", name := "load", desc := "(III)V" } : Jvm.MethodName) ∈ TT := TT_in (k := 399) rfl rfl
set_option maxRecDepth 20000 in
theorem m_400 : Jvm.Cond.selects "TwoGenerations" ({ cls := "TwoGenerations", name := "load", desc := "(III)V" } : Jvm.MethodName) ({ cls := "TwoGenerations", name := "load", desc := "(III)V" } : Jvm.MethodName) ∈ TT := TT_in (k := 400) rfl rfl
set_option maxRecDepth 20000 in
theorem m_401 : Jvm.Cond.code ({ cls := "TwoGenerations", name := "load", desc := "(III)V" } : Jvm.MethodName) prog_1_method_4_code (5 : Nat) (Option.none : Option Jvm.ClassFile.FieldType) ∈ TT := TT_in (k := 401) rfl rfl
set_option maxRecDepth 20000 in
theorem m_402 : Jvm.Cond.methodLink "TwoGenerations" (75 : Nat) ({ cls := "TwoGenerations$Plain", name := "hasField", desc := "(I)Z" } : Jvm.MethodName) ∈ TT := TT_in (k := 402) rfl rfl
set_option maxRecDepth 20000 in
theorem m_403 : Jvm.Cond.instanceMethod ({ cls := "TwoGenerations$Plain", name := "hasField", desc := "(I)Z" } : Jvm.MethodName) ∈ TT := TT_in (k := 403) rfl rfl
set_option maxRecDepth 20000 in
theorem m_404 : Jvm.Cond.selects "TwoGenerations$Plain" ({ cls := "TwoGenerations$Plain", name := "hasField", desc := "(I)Z" } : Jvm.MethodName) ({ cls := "TwoGenerations$Plain", name := "hasField", desc := "(I)Z" } : Jvm.MethodName) ∈ TT := TT_in (k := 404) rfl rfl
set_option maxRecDepth 20000 in
theorem m_405 : Jvm.Cond.code ({ cls := "TwoGenerations$Plain", name := "hasField", desc := "(I)Z" } : Jvm.MethodName) prog_3_method_2_code (2 : Nat) (Option.some Jvm.ClassFile.FieldType.boolean) ∈ TT := TT_in (k := 405) rfl rfl
set_option maxRecDepth 20000 in
theorem m_406 : Jvm.Cond.stringRef "TwoGenerations" (78 : Nat) "no such register or field" ∈ TT := TT_in (k := 406) rfl rfl
set_option maxRecDepth 20000 in
theorem m_407 : Jvm.Cond.methodLink "TwoGenerationsLaw" (69 : Nat) ({ cls := "TwoGenerationsLaw", name := "store", desc := "(LTwoGenerations;III)I" } : Jvm.MethodName) ∈ TT := TT_in (k := 407) rfl rfl
set_option maxRecDepth 20000 in
theorem m_408 : Jvm.Cond.static ({ cls := "TwoGenerationsLaw", name := "store", desc := "(LTwoGenerations;III)I" } : Jvm.MethodName) ∈ TT := TT_in (k := 408) rfl rfl
set_option maxRecDepth 20000 in
theorem m_409 : Jvm.Cond.codeWith ({ cls := "TwoGenerationsLaw", name := "store", desc := "(LTwoGenerations;III)I" } : Jvm.MethodName) method_6_code (5 : Nat) (Option.some Jvm.ClassFile.FieldType.int) [((0 : Nat), (7 : Nat), (10 : Nat), (13 : Nat))] ∈ TT := TT_in (k := 409) rfl rfl
set_option maxRecDepth 20000 in
theorem m_410 : Jvm.Cond.methodLink "TwoGenerationsLaw" (24 : Nat) ({ cls := "TwoGenerations", name := "store", desc := "(III)V" } : Jvm.MethodName) ∈ TT := TT_in (k := 410) rfl rfl
set_option maxRecDepth 20000 in
theorem m_411 : Jvm.Cond.instanceMethod ({ cls := "TwoGenerations", name := "store", desc := "(III)V" } : Jvm.MethodName) ∈ TT := TT_in (k := 411) rfl rfl
set_option maxRecDepth 20000 in
theorem m_412 : Jvm.Cond.selects "TwoGenerations" ({ cls := "TwoGenerations", name := "store", desc := "(III)V" } : Jvm.MethodName) ({ cls := "TwoGenerations", name := "store", desc := "(III)V" } : Jvm.MethodName) ∈ TT := TT_in (k := 412) rfl rfl
set_option maxRecDepth 20000 in
theorem m_413 : Jvm.Cond.code ({ cls := "TwoGenerations", name := "store", desc := "(III)V" } : Jvm.MethodName) prog_1_method_5_code (5 : Nat) (Option.none : Option Jvm.ClassFile.FieldType) ∈ TT := TT_in (k := 413) rfl rfl
set_option maxRecDepth 20000 in
theorem m_414 : Jvm.Cond.methodLink "TwoGenerationsLaw" (72 : Nat) ({ cls := "TwoGenerationsLaw", name := "target", desc := "(LTwoGenerations;II)I" } : Jvm.MethodName) ∈ TT := TT_in (k := 414) rfl rfl
set_option maxRecDepth 20000 in
theorem m_415 : Jvm.Cond.static ({ cls := "TwoGenerationsLaw", name := "target", desc := "(LTwoGenerations;II)I" } : Jvm.MethodName) ∈ TT := TT_in (k := 415) rfl rfl
set_option maxRecDepth 20000 in
theorem m_416 : Jvm.Cond.codeWith ({ cls := "TwoGenerationsLaw", name := "target", desc := "(LTwoGenerations;II)I" } : Jvm.MethodName) method_7_code (4 : Nat) (Option.some Jvm.ClassFile.FieldType.int) [((0 : Nat), (6 : Nat), (9 : Nat), (13 : Nat))] ∈ TT := TT_in (k := 416) rfl rfl
set_option maxRecDepth 20000 in
theorem m_417 : Jvm.Cond.methodLink "TwoGenerationsLaw" (27 : Nat) ({ cls := "TwoGenerations", name := "target", desc := "(II)V" } : Jvm.MethodName) ∈ TT := TT_in (k := 417) rfl rfl
set_option maxRecDepth 20000 in
theorem m_418 : Jvm.Cond.instanceMethod ({ cls := "TwoGenerations", name := "target", desc := "(II)V" } : Jvm.MethodName) ∈ TT := TT_in (k := 418) rfl rfl
set_option maxRecDepth 20000 in
theorem m_419 : Jvm.Cond.selects "TwoGenerations" ({ cls := "TwoGenerations", name := "target", desc := "(II)V" } : Jvm.MethodName) ({ cls := "TwoGenerations", name := "target", desc := "(II)V" } : Jvm.MethodName) ∈ TT := TT_in (k := 419) rfl rfl
set_option maxRecDepth 20000 in
theorem m_420 : Jvm.Cond.code ({ cls := "TwoGenerations", name := "target", desc := "(II)V" } : Jvm.MethodName) prog_1_method_6_code (4 : Nat) (Option.none : Option Jvm.ClassFile.FieldType) ∈ TT := TT_in (k := 420) rfl rfl
set_option maxRecDepth 20000 in
theorem m_421 : Jvm.Cond.methodLink "TwoGenerations" (83 : Nat) ({ cls := "TwoGenerations", name := "weakIn", desc := "(I)LTwoGenerations$Weak;" } : Jvm.MethodName) ∈ TT := TT_in (k := 421) rfl rfl
set_option maxRecDepth 20000 in
theorem m_423 : Jvm.Cond.instanceMethod ({ cls := "TwoGenerations", name := "weakIn", desc := "(I)LTwoGenerations$Weak;" } : Jvm.MethodName) ∈ TT := TT_in (k := 423) rfl rfl
set_option maxRecDepth 20000 in
theorem m_424 : Jvm.Cond.code ({ cls := "TwoGenerations", name := "weakIn", desc := "(I)LTwoGenerations$Weak;" } : Jvm.MethodName) prog_1_method_25_code (4 : Nat) (Option.some (Jvm.ClassFile.FieldType.object "TwoGenerations$Weak")) ∈ TT := TT_in (k := 424) rfl rfl
set_option maxRecDepth 20000 in
theorem m_425 : Jvm.Cond.stringRef "TwoGenerations" (87 : Nat) "no such register, or no weak cell" ∈ TT := TT_in (k := 425) rfl rfl
set_option maxRecDepth 20000 in
theorem m_426 : Jvm.Cond.methodLink "TwoGenerationsLaw" (75 : Nat) ({ cls := "TwoGenerationsLaw", name := "number", desc := "(LTwoGenerations;II)I" } : Jvm.MethodName) ∈ TT := TT_in (k := 426) rfl rfl
set_option maxRecDepth 20000 in
theorem m_427 : Jvm.Cond.static ({ cls := "TwoGenerationsLaw", name := "number", desc := "(LTwoGenerations;II)I" } : Jvm.MethodName) ∈ TT := TT_in (k := 427) rfl rfl
set_option maxRecDepth 20000 in
theorem m_428 : Jvm.Cond.codeWith ({ cls := "TwoGenerationsLaw", name := "number", desc := "(LTwoGenerations;II)I" } : Jvm.MethodName) method_8_code (4 : Nat) (Option.some Jvm.ClassFile.FieldType.int) [((0 : Nat), (6 : Nat), (9 : Nat), (13 : Nat))] ∈ TT := TT_in (k := 428) rfl rfl
set_option maxRecDepth 20000 in
theorem m_429 : Jvm.Cond.methodLink "TwoGenerationsLaw" (30 : Nat) ({ cls := "TwoGenerations", name := "number", desc := "(II)V" } : Jvm.MethodName) ∈ TT := TT_in (k := 429) rfl rfl
set_option maxRecDepth 20000 in
theorem m_430 : Jvm.Cond.instanceMethod ({ cls := "TwoGenerations", name := "number", desc := "(II)V" } : Jvm.MethodName) ∈ TT := TT_in (k := 430) rfl rfl
set_option maxRecDepth 20000 in
theorem m_431 : Jvm.Cond.selects "TwoGenerations" ({ cls := "TwoGenerations", name := "number", desc := "(II)V" } : Jvm.MethodName) ({ cls := "TwoGenerations", name := "number", desc := "(II)V" } : Jvm.MethodName) ∈ TT := TT_in (k := 431) rfl rfl
set_option maxRecDepth 20000 in
theorem m_432 : Jvm.Cond.code ({ cls := "TwoGenerations", name := "number", desc := "(II)V" } : Jvm.MethodName) prog_1_method_7_code (3 : Nat) (Option.none : Option Jvm.ClassFile.FieldType) ∈ TT := TT_in (k := 432) rfl rfl
set_option maxRecDepth 20000 in
theorem m_433 : Jvm.Cond.constant "TwoGenerations" (93 : Nat) (-1073741824 : Int32) ∈ TT := TT_in (k := 433) rfl rfl
set_option maxRecDepth 20000 in
theorem m_434 : Jvm.Cond.constant "TwoGenerations" (94 : Nat) (1073741823 : Int32) ∈ TT := TT_in (k := 434) rfl rfl
set_option maxRecDepth 20000 in
theorem m_435 : Jvm.Cond.stringRef "TwoGenerations" (95 : Nat) "no such register, or the int is out of range" ∈ TT := TT_in (k := 435) rfl rfl
set_option maxRecDepth 20000 in
theorem m_436 : Jvm.Cond.instantiable "TwoGenerations$Whole" (1 : Nat) ∈ TT := TT_in (k := 436) rfl rfl
set_option maxRecDepth 20000 in
theorem m_437 : Jvm.Cond.methodLink "TwoGenerations" (99 : Nat) ({ cls := "TwoGenerations$Whole", name := "<init>", desc := "(I)V" } : Jvm.MethodName) ∈ TT := TT_in (k := 437) rfl rfl
set_option maxRecDepth 20000 in
theorem m_438 : Jvm.Cond.instanceMethod ({ cls := "TwoGenerations$Whole", name := "<init>", desc := "(I)V" } : Jvm.MethodName) ∈ TT := TT_in (k := 438) rfl rfl
set_option maxRecDepth 20000 in
theorem m_439 : Jvm.Cond.code ({ cls := "TwoGenerations$Whole", name := "<init>", desc := "(I)V" } : Jvm.MethodName) prog_8_method_1_code (2 : Nat) (Option.none : Option Jvm.ClassFile.FieldType) ∈ TT := TT_in (k := 439) rfl rfl
set_option maxRecDepth 20000 in
theorem m_440 : Jvm.Cond.methodLinkNest "TwoGenerations$Whole" (1 : Nat) ({ cls := "TwoGenerations$Value", name := "<init>", desc := "()V" } : Jvm.MethodName) "TwoGenerations" ∈ TT := TT_in (k := 440) rfl rfl
set_option maxRecDepth 20000 in
theorem m_441 : Jvm.Cond.fieldLink "TwoGenerations$Whole" (7 : Nat) "TwoGenerations$Whole" "number" "I" ∈ TT := TT_in (k := 441) rfl rfl
set_option maxRecDepth 20000 in
theorem m_442 : Jvm.Cond.fieldLink "TwoGenerations" (106 : Nat) "TwoGenerations$Whole" "number" "I" ∈ TT := TT_in (k := 442) rfl rfl
set_option maxRecDepth 20000 in
theorem m_443 : Jvm.Cond.laysFinal "TwoGenerations$Whole" "TwoGenerations$Whole" "number" "I" ∈ TT := TT_in (k := 443) rfl rfl
set_option maxRecDepth 20000 in
theorem m_444 : Jvm.Cond.soleField "TwoGenerations$Whole" "number" ∈ TT := TT_in (k := 444) rfl rfl
set_option maxRecDepth 20000 in
theorem m_445 : Jvm.Cond.superclass "TwoGenerations$Whole" "TwoGenerations$Value" ∈ TT := TT_in (k := 445) rfl rfl
set_option maxRecDepth 20000 in
theorem m_446 : Jvm.Cond.methodLink "TwoGenerationsLaw" (78 : Nat) ({ cls := "TwoGenerationsLaw", name := "clear", desc := "(LTwoGenerations;I)I" } : Jvm.MethodName) ∈ TT := TT_in (k := 446) rfl rfl
set_option maxRecDepth 20000 in
theorem m_447 : Jvm.Cond.static ({ cls := "TwoGenerationsLaw", name := "clear", desc := "(LTwoGenerations;I)I" } : Jvm.MethodName) ∈ TT := TT_in (k := 447) rfl rfl
set_option maxRecDepth 20000 in
theorem m_448 : Jvm.Cond.codeWith ({ cls := "TwoGenerationsLaw", name := "clear", desc := "(LTwoGenerations;I)I" } : Jvm.MethodName) method_9_code (3 : Nat) (Option.some Jvm.ClassFile.FieldType.int) [((0 : Nat), (5 : Nat), (8 : Nat), (13 : Nat))] ∈ TT := TT_in (k := 448) rfl rfl
set_option maxRecDepth 20000 in
theorem m_449 : Jvm.Cond.methodLink "TwoGenerationsLaw" (33 : Nat) ({ cls := "TwoGenerations", name := "clear", desc := "(I)V" } : Jvm.MethodName) ∈ TT := TT_in (k := 449) rfl rfl
set_option maxRecDepth 20000 in
theorem m_450 : Jvm.Cond.instanceMethod ({ cls := "TwoGenerations", name := "clear", desc := "(I)V" } : Jvm.MethodName) ∈ TT := TT_in (k := 450) rfl rfl
set_option maxRecDepth 20000 in
theorem m_451 : Jvm.Cond.selects "TwoGenerations" ({ cls := "TwoGenerations", name := "clear", desc := "(I)V" } : Jvm.MethodName) ({ cls := "TwoGenerations", name := "clear", desc := "(I)V" } : Jvm.MethodName) ∈ TT := TT_in (k := 451) rfl rfl
set_option maxRecDepth 20000 in
theorem m_452 : Jvm.Cond.code ({ cls := "TwoGenerations", name := "clear", desc := "(I)V" } : Jvm.MethodName) prog_1_method_8_code (2 : Nat) (Option.none : Option Jvm.ClassFile.FieldType) ∈ TT := TT_in (k := 452) rfl rfl
set_option maxRecDepth 20000 in
theorem m_453 : Jvm.Cond.stringRef "TwoGenerations" (100 : Nat) "no such register" ∈ TT := TT_in (k := 453) rfl rfl
set_option maxRecDepth 20000 in
theorem m_454 : Jvm.Cond.methodLink "TwoGenerationsLaw" (82 : Nat) ({ cls := "TwoGenerationsLaw", name := "move", desc := "(LTwoGenerations;II)I" } : Jvm.MethodName) ∈ TT := TT_in (k := 454) rfl rfl
set_option maxRecDepth 20000 in
theorem m_455 : Jvm.Cond.static ({ cls := "TwoGenerationsLaw", name := "move", desc := "(LTwoGenerations;II)I" } : Jvm.MethodName) ∈ TT := TT_in (k := 455) rfl rfl
set_option maxRecDepth 20000 in
theorem m_456 : Jvm.Cond.codeWith ({ cls := "TwoGenerationsLaw", name := "move", desc := "(LTwoGenerations;II)I" } : Jvm.MethodName) method_10_code (4 : Nat) (Option.some Jvm.ClassFile.FieldType.int) [((0 : Nat), (6 : Nat), (9 : Nat), (13 : Nat))] ∈ TT := TT_in (k := 456) rfl rfl
set_option maxRecDepth 20000 in
theorem m_457 : Jvm.Cond.methodLink "TwoGenerationsLaw" (37 : Nat) ({ cls := "TwoGenerations", name := "move", desc := "(II)V" } : Jvm.MethodName) ∈ TT := TT_in (k := 457) rfl rfl
set_option maxRecDepth 20000 in
theorem m_458 : Jvm.Cond.instanceMethod ({ cls := "TwoGenerations", name := "move", desc := "(II)V" } : Jvm.MethodName) ∈ TT := TT_in (k := 458) rfl rfl
set_option maxRecDepth 20000 in
theorem m_459 : Jvm.Cond.selects "TwoGenerations" ({ cls := "TwoGenerations", name := "move", desc := "(II)V" } : Jvm.MethodName) ({ cls := "TwoGenerations", name := "move", desc := "(II)V" } : Jvm.MethodName) ∈ TT := TT_in (k := 459) rfl rfl
set_option maxRecDepth 20000 in
theorem m_460 : Jvm.Cond.code ({ cls := "TwoGenerations", name := "move", desc := "(II)V" } : Jvm.MethodName) prog_1_method_9_code (3 : Nat) (Option.none : Option Jvm.ClassFile.FieldType) ∈ TT := TT_in (k := 460) rfl rfl
set_option maxRecDepth 20000 in
theorem m_461 : Jvm.Cond.methodLink "TwoGenerationsLaw" (111 : Nat) ({ cls := "TwoGenerationsLaw", name := "small", desc := "(LTwoGenerations;[J)I" } : Jvm.MethodName) ∈ TT := TT_in (k := 461) rfl rfl
set_option maxRecDepth 20000 in
theorem m_462 : Jvm.Cond.static ({ cls := "TwoGenerationsLaw", name := "small", desc := "(LTwoGenerations;[J)I" } : Jvm.MethodName) ∈ TT := TT_in (k := 462) rfl rfl
set_option maxRecDepth 20000 in
theorem m_463 : Jvm.Cond.codeWith ({ cls := "TwoGenerationsLaw", name := "small", desc := "(LTwoGenerations;[J)I" } : Jvm.MethodName) method_11_code (3 : Nat) (Option.some Jvm.ClassFile.FieldType.int) [((0 : Nat), (8 : Nat), (11 : Nat), (15 : Nat))] ∈ TT := TT_in (k := 463) rfl rfl
set_option maxRecDepth 20000 in
theorem m_464 : Jvm.Cond.methodLink "TwoGenerationsLaw" (40 : Nat) ({ cls := "TwoGenerations", name := "small", desc := "()I" } : Jvm.MethodName) ∈ TT := TT_in (k := 464) rfl rfl
set_option maxRecDepth 20000 in
theorem m_465 : Jvm.Cond.instanceMethod ({ cls := "TwoGenerations", name := "small", desc := "()I" } : Jvm.MethodName) ∈ TT := TT_in (k := 465) rfl rfl
set_option maxRecDepth 20000 in
theorem m_466 : Jvm.Cond.selects "TwoGenerations" ({ cls := "TwoGenerations", name := "small", desc := "()I" } : Jvm.MethodName) ({ cls := "TwoGenerations", name := "small", desc := "()I" } : Jvm.MethodName) ∈ TT := TT_in (k := 466) rfl rfl
set_option maxRecDepth 20000 in
theorem m_467 : Jvm.Cond.code ({ cls := "TwoGenerations", name := "small", desc := "()I" } : Jvm.MethodName) prog_1_method_16_code (2 : Nat) (Option.some Jvm.ClassFile.FieldType.int) ∈ TT := TT_in (k := 467) rfl rfl
set_option maxRecDepth 20000 in
theorem m_468 : Jvm.Cond.classLink "TwoGenerationsLaw" (52 : Nat) "TwoGenerationsModel" ∈ TT := TT_in (k := 468) rfl rfl
set_option maxRecDepth 20000 in
theorem m_469 : Jvm.Cond.instantiable "TwoGenerationsModel" (13 : Nat) ∈ TT := TT_in (k := 469) rfl rfl
set_option maxRecDepth 20000 in
theorem m_470 : Jvm.Cond.methodLink "TwoGenerationsLaw" (54 : Nat) ({ cls := "TwoGenerationsModel", name := "<init>", desc := "(III)V" } : Jvm.MethodName) ∈ TT := TT_in (k := 470) rfl rfl
set_option maxRecDepth 20000 in
theorem m_471 : Jvm.Cond.instanceMethod ({ cls := "TwoGenerationsModel", name := "<init>", desc := "(III)V" } : Jvm.MethodName) ∈ TT := TT_in (k := 471) rfl rfl
set_option maxRecDepth 20000 in
theorem m_472 : Jvm.Cond.code ({ cls := "TwoGenerationsModel", name := "<init>", desc := "(III)V" } : Jvm.MethodName) prog_10_method_1_code (5 : Nat) (Option.none : Option Jvm.ClassFile.FieldType) ∈ TT := TT_in (k := 472) rfl rfl
set_option maxRecDepth 20000 in
theorem m_473 : Jvm.Cond.methodLink "TwoGenerationsModel" (1 : Nat) ({ cls := "java/lang/Object", name := "<init>", desc := "()V" } : Jvm.MethodName) ∈ TT := TT_in (k := 473) rfl rfl
set_option maxRecDepth 20000 in
theorem m_474 : Jvm.Cond.constantLong "TwoGenerationsModel" (43 : Nat) (1099511627776 : Int64) ∈ TT := TT_in (k := 474) rfl rfl
set_option maxRecDepth 20000 in
theorem m_475 : Jvm.Cond.fieldLink "TwoGenerationsModel" (45 : Nat) "TwoGenerationsModel" "fault" "I" ∈ TT := TT_in (k := 475) rfl rfl
set_option maxRecDepth 20000 in
theorem m_476 : Jvm.Cond.fieldLink "TwoGenerationsModel" (33 : Nat) "TwoGenerationsModel" "registers" "I" ∈ TT := TT_in (k := 476) rfl rfl
set_option maxRecDepth 20000 in
theorem m_477 : Jvm.Cond.fieldLink "TwoGenerationsModel" (37 : Nat) "TwoGenerationsModel" "youngMost" "I" ∈ TT := TT_in (k := 477) rfl rfl
set_option maxRecDepth 20000 in
theorem m_478 : Jvm.Cond.fieldLink "TwoGenerationsModel" (40 : Nat) "TwoGenerationsModel" "oldMost" "I" ∈ TT := TT_in (k := 478) rfl rfl
set_option maxRecDepth 20000 in
theorem m_479 : Jvm.Cond.fieldLink "TwoGenerationsModel" (7 : Nat) "TwoGenerationsModel" "register" "[J" ∈ TT := TT_in (k := 479) rfl rfl
set_option maxRecDepth 20000 in
theorem m_480 : Jvm.Cond.fieldLink "TwoGenerationsModel" (13 : Nat) "TwoGenerationsModel" "there" "[Z" ∈ TT := TT_in (k := 480) rfl rfl
set_option maxRecDepth 20000 in
theorem m_481 : Jvm.Cond.fieldLink "TwoGenerationsModel" (17 : Nat) "TwoGenerationsModel" "old" "[Z" ∈ TT := TT_in (k := 481) rfl rfl
set_option maxRecDepth 20000 in
theorem m_482 : Jvm.Cond.fieldLink "TwoGenerationsModel" (20 : Nat) "TwoGenerationsModel" "size" "[I" ∈ TT := TT_in (k := 482) rfl rfl
set_option maxRecDepth 20000 in
theorem m_483 : Jvm.Cond.fieldLink "TwoGenerationsModel" (24 : Nat) "TwoGenerationsModel" "aim" "[I" ∈ TT := TT_in (k := 483) rfl rfl
set_option maxRecDepth 20000 in
theorem m_484 : Jvm.Cond.fieldLink "TwoGenerationsModel" (27 : Nat) "TwoGenerationsModel" "field" "[J" ∈ TT := TT_in (k := 484) rfl rfl
set_option maxRecDepth 20000 in
theorem m_485 : Jvm.Cond.fieldLink "TwoGenerationsModel" (30 : Nat) "TwoGenerationsModel" "reached" "[Z" ∈ TT := TT_in (k := 485) rfl rfl
set_option maxRecDepth 20000 in
theorem m_486 : Jvm.Cond.fieldLink "TwoGenerationsModel" (89 : Nat) "TwoGenerationsModel" "smalls" "I" ∈ TT := TT_in (k := 486) rfl rfl
set_option maxRecDepth 20000 in
theorem m_487 : Jvm.Cond.fieldLink "TwoGenerationsModel" (79 : Nat) "TwoGenerationsModel" "greats" "I" ∈ TT := TT_in (k := 487) rfl rfl
set_option maxRecDepth 20000 in
theorem m_488 : Jvm.Cond.lays "TwoGenerationsModel" "TwoGenerationsModel" "fault" "I" ∈ TT := TT_in (k := 488) rfl rfl
set_option maxRecDepth 20000 in
theorem m_489 : Jvm.Cond.soleField "TwoGenerationsModel" "fault" ∈ TT := TT_in (k := 489) rfl rfl
set_option maxRecDepth 20000 in
theorem m_490 : Jvm.Cond.lays "TwoGenerationsModel" "TwoGenerationsModel" "registers" "I" ∈ TT := TT_in (k := 490) rfl rfl
set_option maxRecDepth 20000 in
theorem m_491 : Jvm.Cond.soleField "TwoGenerationsModel" "registers" ∈ TT := TT_in (k := 491) rfl rfl
set_option maxRecDepth 20000 in
theorem m_492 : Jvm.Cond.lays "TwoGenerationsModel" "TwoGenerationsModel" "youngMost" "I" ∈ TT := TT_in (k := 492) rfl rfl
set_option maxRecDepth 20000 in
theorem m_493 : Jvm.Cond.soleField "TwoGenerationsModel" "youngMost" ∈ TT := TT_in (k := 493) rfl rfl
set_option maxRecDepth 20000 in
theorem m_494 : Jvm.Cond.lays "TwoGenerationsModel" "TwoGenerationsModel" "oldMost" "I" ∈ TT := TT_in (k := 494) rfl rfl
set_option maxRecDepth 20000 in
theorem m_495 : Jvm.Cond.soleField "TwoGenerationsModel" "oldMost" ∈ TT := TT_in (k := 495) rfl rfl
set_option maxRecDepth 20000 in
theorem m_496 : Jvm.Cond.laysFinal "TwoGenerationsModel" "TwoGenerationsModel" "register" "[J" ∈ TT := TT_in (k := 496) rfl rfl
set_option maxRecDepth 20000 in
theorem m_497 : Jvm.Cond.soleField "TwoGenerationsModel" "register" ∈ TT := TT_in (k := 497) rfl rfl
set_option maxRecDepth 20000 in
theorem m_498 : Jvm.Cond.laysFinal "TwoGenerationsModel" "TwoGenerationsModel" "there" "[Z" ∈ TT := TT_in (k := 498) rfl rfl
set_option maxRecDepth 20000 in
theorem m_499 : Jvm.Cond.soleField "TwoGenerationsModel" "there" ∈ TT := TT_in (k := 499) rfl rfl
set_option maxRecDepth 20000 in
theorem m_500 : Jvm.Cond.laysFinal "TwoGenerationsModel" "TwoGenerationsModel" "old" "[Z" ∈ TT := TT_in (k := 500) rfl rfl
set_option maxRecDepth 20000 in
theorem m_501 : Jvm.Cond.soleField "TwoGenerationsModel" "old" ∈ TT := TT_in (k := 501) rfl rfl
set_option maxRecDepth 20000 in
theorem m_502 : Jvm.Cond.laysFinal "TwoGenerationsModel" "TwoGenerationsModel" "size" "[I" ∈ TT := TT_in (k := 502) rfl rfl
set_option maxRecDepth 20000 in
theorem m_503 : Jvm.Cond.soleField "TwoGenerationsModel" "size" ∈ TT := TT_in (k := 503) rfl rfl
set_option maxRecDepth 20000 in
theorem m_504 : Jvm.Cond.laysFinal "TwoGenerationsModel" "TwoGenerationsModel" "aim" "[I" ∈ TT := TT_in (k := 504) rfl rfl
set_option maxRecDepth 20000 in
theorem m_505 : Jvm.Cond.soleField "TwoGenerationsModel" "aim" ∈ TT := TT_in (k := 505) rfl rfl
set_option maxRecDepth 20000 in
theorem m_506 : Jvm.Cond.laysFinal "TwoGenerationsModel" "TwoGenerationsModel" "field" "[J" ∈ TT := TT_in (k := 506) rfl rfl
set_option maxRecDepth 20000 in
theorem m_507 : Jvm.Cond.soleField "TwoGenerationsModel" "field" ∈ TT := TT_in (k := 507) rfl rfl
set_option maxRecDepth 20000 in
theorem m_508 : Jvm.Cond.laysFinal "TwoGenerationsModel" "TwoGenerationsModel" "reached" "[Z" ∈ TT := TT_in (k := 508) rfl rfl
set_option maxRecDepth 20000 in
theorem m_509 : Jvm.Cond.soleField "TwoGenerationsModel" "reached" ∈ TT := TT_in (k := 509) rfl rfl
set_option maxRecDepth 20000 in
theorem m_510 : Jvm.Cond.lays "TwoGenerationsModel" "TwoGenerationsModel" "smalls" "I" ∈ TT := TT_in (k := 510) rfl rfl
set_option maxRecDepth 20000 in
theorem m_511 : Jvm.Cond.soleField "TwoGenerationsModel" "smalls" ∈ TT := TT_in (k := 511) rfl rfl
set_option maxRecDepth 20000 in
theorem m_512 : Jvm.Cond.lays "TwoGenerationsModel" "TwoGenerationsModel" "greats" "I" ∈ TT := TT_in (k := 512) rfl rfl
set_option maxRecDepth 20000 in
theorem m_513 : Jvm.Cond.soleField "TwoGenerationsModel" "greats" ∈ TT := TT_in (k := 513) rfl rfl
set_option maxRecDepth 20000 in
theorem m_514 : Jvm.Cond.superclass "TwoGenerationsModel" "java/lang/Object" ∈ TT := TT_in (k := 514) rfl rfl
set_option maxRecDepth 20000 in
theorem m_515 : Jvm.Cond.arrayClass Jvm.ClassFile.FieldType.long ∈ TT := TT_in (k := 515) rfl rfl
set_option maxRecDepth 20000 in
theorem m_516 : Jvm.Cond.arrayClass Jvm.ClassFile.FieldType.boolean ∈ TT := TT_in (k := 516) rfl rfl
set_option maxRecDepth 20000 in
theorem m_517 : Jvm.Cond.arrayClass Jvm.ClassFile.FieldType.int ∈ TT := TT_in (k := 517) rfl rfl
set_option maxRecDepth 20000 in
theorem m_518 : Jvm.Cond.methodLink "TwoGenerationsLaw" (59 : Nat) ({ cls := "TwoGenerationsModel", name := "thrown", desc := "()I" } : Jvm.MethodName) ∈ TT := TT_in (k := 518) rfl rfl
set_option maxRecDepth 20000 in
theorem m_519 : Jvm.Cond.instanceMethod ({ cls := "TwoGenerationsModel", name := "thrown", desc := "()I" } : Jvm.MethodName) ∈ TT := TT_in (k := 519) rfl rfl
set_option maxRecDepth 20000 in
theorem m_520 : Jvm.Cond.selects "TwoGenerationsModel" ({ cls := "TwoGenerationsModel", name := "thrown", desc := "()I" } : Jvm.MethodName) ({ cls := "TwoGenerationsModel", name := "thrown", desc := "()I" } : Jvm.MethodName) ∈ TT := TT_in (k := 520) rfl rfl
set_option maxRecDepth 20000 in
theorem m_521 : Jvm.Cond.code ({ cls := "TwoGenerationsModel", name := "thrown", desc := "()I" } : Jvm.MethodName) prog_10_method_2_code (1 : Nat) (Option.some Jvm.ClassFile.FieldType.int) ∈ TT := TT_in (k := 521) rfl rfl
set_option maxRecDepth 20000 in
theorem m_522 : Jvm.Cond.methodLink "TwoGenerationsLaw" (58 : Nat) ({ cls := "TwoGenerationsModel", name := "make", desc := "(II)V" } : Jvm.MethodName) ∈ TT := TT_in (k := 522) rfl rfl
set_option maxRecDepth 20000 in
theorem m_523 : Jvm.Cond.instanceMethod ({ cls := "TwoGenerationsModel", name := "make", desc := "(II)V" } : Jvm.MethodName) ∈ TT := TT_in (k := 523) rfl rfl
set_option maxRecDepth 20000 in
theorem m_524 : Jvm.Cond.selects "TwoGenerationsModel" ({ cls := "TwoGenerationsModel", name := "make", desc := "(II)V" } : Jvm.MethodName) ({ cls := "TwoGenerationsModel", name := "make", desc := "(II)V" } : Jvm.MethodName) ∈ TT := TT_in (k := 524) rfl rfl
set_option maxRecDepth 20000 in
theorem m_525 : Jvm.Cond.code ({ cls := "TwoGenerationsModel", name := "make", desc := "(II)V" } : Jvm.MethodName) prog_10_method_19_code (3 : Nat) (Option.none : Option Jvm.ClassFile.FieldType) ∈ TT := TT_in (k := 525) rfl rfl
set_option maxRecDepth 20000 in
theorem m_526 : Jvm.Cond.methodLink "TwoGenerationsModel" (48 : Nat) ({ cls := "TwoGenerationsModel", name := "is", desc := "(I)Z" } : Jvm.MethodName) ∈ TT := TT_in (k := 526) rfl rfl
set_option maxRecDepth 20000 in
theorem m_528 : Jvm.Cond.instanceMethod ({ cls := "TwoGenerationsModel", name := "is", desc := "(I)Z" } : Jvm.MethodName) ∈ TT := TT_in (k := 528) rfl rfl
set_option maxRecDepth 20000 in
theorem m_529 : Jvm.Cond.code ({ cls := "TwoGenerationsModel", name := "is", desc := "(I)Z" } : Jvm.MethodName) prog_10_method_4_code (2 : Nat) (Option.some Jvm.ClassFile.FieldType.boolean) ∈ TT := TT_in (k := 529) rfl rfl
set_option maxRecDepth 20000 in
theorem m_530 : Jvm.Cond.methodLink "TwoGenerationsModel" (98 : Nat) ({ cls := "TwoGenerationsModel", name := "when", desc := "(ZI)Z" } : Jvm.MethodName) ∈ TT := TT_in (k := 530) rfl rfl
set_option maxRecDepth 20000 in
theorem m_532 : Jvm.Cond.instanceMethod ({ cls := "TwoGenerationsModel", name := "when", desc := "(ZI)Z" } : Jvm.MethodName) ∈ TT := TT_in (k := 532) rfl rfl
set_option maxRecDepth 20000 in
theorem m_533 : Jvm.Cond.code ({ cls := "TwoGenerationsModel", name := "when", desc := "(ZI)Z" } : Jvm.MethodName) prog_10_method_3_code (3 : Nat) (Option.some Jvm.ClassFile.FieldType.boolean) ∈ TT := TT_in (k := 533) rfl rfl
set_option maxRecDepth 20000 in
theorem m_534 : Jvm.Cond.methodLink "TwoGenerationsModel" (102 : Nat) ({ cls := "TwoGenerationsModel", name := "room", desc := "(I)Z" } : Jvm.MethodName) ∈ TT := TT_in (k := 534) rfl rfl
set_option maxRecDepth 20000 in
theorem m_536 : Jvm.Cond.instanceMethod ({ cls := "TwoGenerationsModel", name := "room", desc := "(I)Z" } : Jvm.MethodName) ∈ TT := TT_in (k := 536) rfl rfl
set_option maxRecDepth 20000 in
theorem m_537 : Jvm.Cond.code ({ cls := "TwoGenerationsModel", name := "room", desc := "(I)Z" } : Jvm.MethodName) prog_10_method_17_code (2 : Nat) (Option.some Jvm.ClassFile.FieldType.boolean) ∈ TT := TT_in (k := 537) rfl rfl
set_option maxRecDepth 20000 in
theorem m_538 : Jvm.Cond.methodLink "TwoGenerationsModel" (82 : Nat) ({ cls := "TwoGenerationsModel", name := "taken", desc := "(Z)I" } : Jvm.MethodName) ∈ TT := TT_in (k := 538) rfl rfl
set_option maxRecDepth 20000 in
theorem m_540 : Jvm.Cond.instanceMethod ({ cls := "TwoGenerationsModel", name := "taken", desc := "(Z)I" } : Jvm.MethodName) ∈ TT := TT_in (k := 540) rfl rfl
set_option maxRecDepth 20000 in
theorem m_541 : Jvm.Cond.code ({ cls := "TwoGenerationsModel", name := "taken", desc := "(Z)I" } : Jvm.MethodName) prog_10_method_7_code (4 : Nat) (Option.some Jvm.ClassFile.FieldType.int) ∈ TT := TT_in (k := 541) rfl rfl
set_option maxRecDepth 20000 in
theorem m_542 : Jvm.Cond.methodLink "TwoGenerationsModel" (54 : Nat) ({ cls := "TwoGenerationsModel", name := "cellsOf", desc := "(I)I" } : Jvm.MethodName) ∈ TT := TT_in (k := 542) rfl rfl
set_option maxRecDepth 20000 in
theorem m_544 : Jvm.Cond.instanceMethod ({ cls := "TwoGenerationsModel", name := "cellsOf", desc := "(I)I" } : Jvm.MethodName) ∈ TT := TT_in (k := 544) rfl rfl
set_option maxRecDepth 20000 in
theorem m_545 : Jvm.Cond.code ({ cls := "TwoGenerationsModel", name := "cellsOf", desc := "(I)I" } : Jvm.MethodName) prog_10_method_6_code (2 : Nat) (Option.some Jvm.ClassFile.FieldType.int) ∈ TT := TT_in (k := 545) rfl rfl
set_option maxRecDepth 20000 in
theorem m_546 : Jvm.Cond.methodLink "TwoGenerationsModel" (95 : Nat) ({ cls := "TwoGenerationsModel", name := "grow", desc := "()I" } : Jvm.MethodName) ∈ TT := TT_in (k := 546) rfl rfl
set_option maxRecDepth 20000 in
theorem m_548 : Jvm.Cond.instanceMethod ({ cls := "TwoGenerationsModel", name := "grow", desc := "()I" } : Jvm.MethodName) ∈ TT := TT_in (k := 548) rfl rfl
set_option maxRecDepth 20000 in
theorem m_549 : Jvm.Cond.code ({ cls := "TwoGenerationsModel", name := "grow", desc := "()I" } : Jvm.MethodName) prog_10_method_16_code (3 : Nat) (Option.some Jvm.ClassFile.FieldType.int) ∈ TT := TT_in (k := 549) rfl rfl
set_option maxRecDepth 20000 in
theorem m_550 : Jvm.Cond.methodLink "TwoGenerationsModel" (86 : Nat) ({ cls := "TwoGenerationsModel", name := "clearOld", desc := "()I" } : Jvm.MethodName) ∈ TT := TT_in (k := 550) rfl rfl
set_option maxRecDepth 20000 in
theorem m_552 : Jvm.Cond.instanceMethod ({ cls := "TwoGenerationsModel", name := "clearOld", desc := "()I" } : Jvm.MethodName) ∈ TT := TT_in (k := 552) rfl rfl
set_option maxRecDepth 20000 in
theorem m_553 : Jvm.Cond.code ({ cls := "TwoGenerationsModel", name := "clearOld", desc := "()I" } : Jvm.MethodName) prog_10_method_15_code (3 : Nat) (Option.some Jvm.ClassFile.FieldType.int) ∈ TT := TT_in (k := 553) rfl rfl
set_option maxRecDepth 20000 in
theorem m_554 : Jvm.Cond.methodLink "TwoGenerationsModel" (70 : Nat) ({ cls := "TwoGenerationsModel", name := "nothing", desc := "()V" } : Jvm.MethodName) ∈ TT := TT_in (k := 554) rfl rfl
set_option maxRecDepth 20000 in
theorem m_556 : Jvm.Cond.instanceMethod ({ cls := "TwoGenerationsModel", name := "nothing", desc := "()V" } : Jvm.MethodName) ∈ TT := TT_in (k := 556) rfl rfl
set_option maxRecDepth 20000 in
theorem m_557 : Jvm.Cond.code ({ cls := "TwoGenerationsModel", name := "nothing", desc := "()V" } : Jvm.MethodName) prog_10_method_8_code (2 : Nat) (Option.none : Option Jvm.ClassFile.FieldType) ∈ TT := TT_in (k := 557) rfl rfl
set_option maxRecDepth 20000 in
theorem m_558 : Jvm.Cond.methodLink "TwoGenerationsModel" (73 : Nat) ({ cls := "TwoGenerationsModel", name := "markRegisters", desc := "()V" } : Jvm.MethodName) ∈ TT := TT_in (k := 558) rfl rfl
set_option maxRecDepth 20000 in
theorem m_560 : Jvm.Cond.instanceMethod ({ cls := "TwoGenerationsModel", name := "markRegisters", desc := "()V" } : Jvm.MethodName) ∈ TT := TT_in (k := 560) rfl rfl
set_option maxRecDepth 20000 in
theorem m_561 : Jvm.Cond.code ({ cls := "TwoGenerationsModel", name := "markRegisters", desc := "()V" } : Jvm.MethodName) prog_10_method_13_code (2 : Nat) (Option.none : Option Jvm.ClassFile.FieldType) ∈ TT := TT_in (k := 561) rfl rfl
set_option maxRecDepth 20000 in
theorem m_562 : Jvm.Cond.methodLink "TwoGenerationsModel" (58 : Nat) ({ cls := "TwoGenerationsModel", name := "mark", desc := "(J)V" } : Jvm.MethodName) ∈ TT := TT_in (k := 562) rfl rfl
set_option maxRecDepth 20000 in
theorem m_564 : Jvm.Cond.instanceMethod ({ cls := "TwoGenerationsModel", name := "mark", desc := "(J)V" } : Jvm.MethodName) ∈ TT := TT_in (k := 564) rfl rfl
set_option maxRecDepth 20000 in
theorem m_565 : Jvm.Cond.code ({ cls := "TwoGenerationsModel", name := "mark", desc := "(J)V" } : Jvm.MethodName) prog_10_method_9_code (3 : Nat) (Option.none : Option Jvm.ClassFile.FieldType) ∈ TT := TT_in (k := 565) rfl rfl
set_option maxRecDepth 20000 in
theorem m_566 : Jvm.Cond.constantLong "TwoGenerationsModel" (52 : Nat) (2199023255552 : Int64) ∈ TT := TT_in (k := 566) rfl rfl
set_option maxRecDepth 20000 in
theorem m_567 : Jvm.Cond.methodLink "TwoGenerationsModel" (76 : Nat) ({ cls := "TwoGenerationsModel", name := "spread", desc := "()V" } : Jvm.MethodName) ∈ TT := TT_in (k := 567) rfl rfl
set_option maxRecDepth 20000 in
theorem m_569 : Jvm.Cond.instanceMethod ({ cls := "TwoGenerationsModel", name := "spread", desc := "()V" } : Jvm.MethodName) ∈ TT := TT_in (k := 569) rfl rfl
set_option maxRecDepth 20000 in
theorem m_570 : Jvm.Cond.code ({ cls := "TwoGenerationsModel", name := "spread", desc := "()V" } : Jvm.MethodName) prog_10_method_12_code (3 : Nat) (Option.none : Option Jvm.ClassFile.FieldType) ∈ TT := TT_in (k := 570) rfl rfl
set_option maxRecDepth 20000 in
theorem m_571 : Jvm.Cond.methodLink "TwoGenerationsModel" (62 : Nat) ({ cls := "TwoGenerationsModel", name := "marked", desc := "()I" } : Jvm.MethodName) ∈ TT := TT_in (k := 571) rfl rfl
set_option maxRecDepth 20000 in
theorem m_573 : Jvm.Cond.instanceMethod ({ cls := "TwoGenerationsModel", name := "marked", desc := "()I" } : Jvm.MethodName) ∈ TT := TT_in (k := 573) rfl rfl
set_option maxRecDepth 20000 in
theorem m_574 : Jvm.Cond.code ({ cls := "TwoGenerationsModel", name := "marked", desc := "()I" } : Jvm.MethodName) prog_10_method_11_code (3 : Nat) (Option.some Jvm.ClassFile.FieldType.int) ∈ TT := TT_in (k := 574) rfl rfl
set_option maxRecDepth 20000 in
theorem m_575 : Jvm.Cond.methodLink "TwoGenerationsModel" (66 : Nat) ({ cls := "TwoGenerationsModel", name := "markFields", desc := "(I)V" } : Jvm.MethodName) ∈ TT := TT_in (k := 575) rfl rfl
set_option maxRecDepth 20000 in
theorem m_577 : Jvm.Cond.instanceMethod ({ cls := "TwoGenerationsModel", name := "markFields", desc := "(I)V" } : Jvm.MethodName) ∈ TT := TT_in (k := 577) rfl rfl
set_option maxRecDepth 20000 in
theorem m_578 : Jvm.Cond.code ({ cls := "TwoGenerationsModel", name := "markFields", desc := "(I)V" } : Jvm.MethodName) prog_10_method_10_code (3 : Nat) (Option.none : Option Jvm.ClassFile.FieldType) ∈ TT := TT_in (k := 578) rfl rfl
set_option maxRecDepth 20000 in
theorem m_579 : Jvm.Cond.methodLink "TwoGenerationsModel" (92 : Nat) ({ cls := "TwoGenerationsModel", name := "tellWeak", desc := "()V" } : Jvm.MethodName) ∈ TT := TT_in (k := 579) rfl rfl
set_option maxRecDepth 20000 in
theorem m_581 : Jvm.Cond.instanceMethod ({ cls := "TwoGenerationsModel", name := "tellWeak", desc := "()V" } : Jvm.MethodName) ∈ TT := TT_in (k := 581) rfl rfl
set_option maxRecDepth 20000 in
theorem m_582 : Jvm.Cond.code ({ cls := "TwoGenerationsModel", name := "tellWeak", desc := "()V" } : Jvm.MethodName) prog_10_method_14_code (2 : Nat) (Option.none : Option Jvm.ClassFile.FieldType) ∈ TT := TT_in (k := 582) rfl rfl
set_option maxRecDepth 20000 in
theorem m_583 : Jvm.Cond.methodLink "TwoGenerationsModel" (105 : Nat) ({ cls := "TwoGenerationsModel", name := "born", desc := "(III)V" } : Jvm.MethodName) ∈ TT := TT_in (k := 583) rfl rfl
set_option maxRecDepth 20000 in
theorem m_585 : Jvm.Cond.instanceMethod ({ cls := "TwoGenerationsModel", name := "born", desc := "(III)V" } : Jvm.MethodName) ∈ TT := TT_in (k := 585) rfl rfl
set_option maxRecDepth 20000 in
theorem m_586 : Jvm.Cond.code ({ cls := "TwoGenerationsModel", name := "born", desc := "(III)V" } : Jvm.MethodName) prog_10_method_18_code (6 : Nat) (Option.none : Option Jvm.ClassFile.FieldType) ∈ TT := TT_in (k := 586) rfl rfl
set_option maxRecDepth 20000 in
theorem m_587 : Jvm.Cond.methodLink "TwoGenerationsLaw" (64 : Nat) ({ cls := "TwoGenerationsModel", name := "weak", desc := "(II)V" } : Jvm.MethodName) ∈ TT := TT_in (k := 587) rfl rfl
set_option maxRecDepth 20000 in
theorem m_588 : Jvm.Cond.instanceMethod ({ cls := "TwoGenerationsModel", name := "weak", desc := "(II)V" } : Jvm.MethodName) ∈ TT := TT_in (k := 588) rfl rfl
set_option maxRecDepth 20000 in
theorem m_589 : Jvm.Cond.selects "TwoGenerationsModel" ({ cls := "TwoGenerationsModel", name := "weak", desc := "(II)V" } : Jvm.MethodName) ({ cls := "TwoGenerationsModel", name := "weak", desc := "(II)V" } : Jvm.MethodName) ∈ TT := TT_in (k := 589) rfl rfl
set_option maxRecDepth 20000 in
theorem m_590 : Jvm.Cond.code ({ cls := "TwoGenerationsModel", name := "weak", desc := "(II)V" } : Jvm.MethodName) prog_10_method_20_code (3 : Nat) (Option.none : Option Jvm.ClassFile.FieldType) ∈ TT := TT_in (k := 590) rfl rfl
set_option maxRecDepth 20000 in
theorem m_591 : Jvm.Cond.methodLink "TwoGenerationsModel" (109 : Nat) ({ cls := "TwoGenerationsModel", name := "placeIn", desc := "(I)I" } : Jvm.MethodName) ∈ TT := TT_in (k := 591) rfl rfl
set_option maxRecDepth 20000 in
theorem m_593 : Jvm.Cond.instanceMethod ({ cls := "TwoGenerationsModel", name := "placeIn", desc := "(I)I" } : Jvm.MethodName) ∈ TT := TT_in (k := 593) rfl rfl
set_option maxRecDepth 20000 in
theorem m_594 : Jvm.Cond.code ({ cls := "TwoGenerationsModel", name := "placeIn", desc := "(I)I" } : Jvm.MethodName) prog_10_method_5_code (2 : Nat) (Option.some Jvm.ClassFile.FieldType.int) ∈ TT := TT_in (k := 594) rfl rfl
set_option maxRecDepth 20000 in
theorem m_595 : Jvm.Cond.methodLink "TwoGenerationsLaw" (114 : Nat) ({ cls := "TwoGenerationsModel", name := "small", desc := "()I" } : Jvm.MethodName) ∈ TT := TT_in (k := 595) rfl rfl
set_option maxRecDepth 20000 in
theorem m_596 : Jvm.Cond.instanceMethod ({ cls := "TwoGenerationsModel", name := "small", desc := "()I" } : Jvm.MethodName) ∈ TT := TT_in (k := 596) rfl rfl
set_option maxRecDepth 20000 in
theorem m_597 : Jvm.Cond.selects "TwoGenerationsModel" ({ cls := "TwoGenerationsModel", name := "small", desc := "()I" } : Jvm.MethodName) ({ cls := "TwoGenerationsModel", name := "small", desc := "()I" } : Jvm.MethodName) ∈ TT := TT_in (k := 597) rfl rfl
set_option maxRecDepth 20000 in
theorem m_598 : Jvm.Cond.code ({ cls := "TwoGenerationsModel", name := "small", desc := "()I" } : Jvm.MethodName) prog_10_method_21_code (2 : Nat) (Option.some Jvm.ClassFile.FieldType.int) ∈ TT := TT_in (k := 598) rfl rfl
set_option maxRecDepth 20000 in
theorem m_599 : Jvm.Cond.methodLink "TwoGenerationsLaw" (118 : Nat) ({ cls := "TwoGenerationsModel", name := "great", desc := "()I" } : Jvm.MethodName) ∈ TT := TT_in (k := 599) rfl rfl
set_option maxRecDepth 20000 in
theorem m_600 : Jvm.Cond.instanceMethod ({ cls := "TwoGenerationsModel", name := "great", desc := "()I" } : Jvm.MethodName) ∈ TT := TT_in (k := 600) rfl rfl
set_option maxRecDepth 20000 in
theorem m_601 : Jvm.Cond.selects "TwoGenerationsModel" ({ cls := "TwoGenerationsModel", name := "great", desc := "()I" } : Jvm.MethodName) ({ cls := "TwoGenerationsModel", name := "great", desc := "()I" } : Jvm.MethodName) ∈ TT := TT_in (k := 601) rfl rfl
set_option maxRecDepth 20000 in
theorem m_602 : Jvm.Cond.code ({ cls := "TwoGenerationsModel", name := "great", desc := "()I" } : Jvm.MethodName) prog_10_method_22_code (1 : Nat) (Option.some Jvm.ClassFile.FieldType.int) ∈ TT := TT_in (k := 602) rfl rfl
set_option maxRecDepth 20000 in
theorem m_603 : Jvm.Cond.methodLink "TwoGenerationsLaw" (68 : Nat) ({ cls := "TwoGenerationsModel", name := "load", desc := "(III)V" } : Jvm.MethodName) ∈ TT := TT_in (k := 603) rfl rfl
set_option maxRecDepth 20000 in
theorem m_604 : Jvm.Cond.instanceMethod ({ cls := "TwoGenerationsModel", name := "load", desc := "(III)V" } : Jvm.MethodName) ∈ TT := TT_in (k := 604) rfl rfl
set_option maxRecDepth 20000 in
theorem m_605 : Jvm.Cond.selects "TwoGenerationsModel" ({ cls := "TwoGenerationsModel", name := "load", desc := "(III)V" } : Jvm.MethodName) ({ cls := "TwoGenerationsModel", name := "load", desc := "(III)V" } : Jvm.MethodName) ∈ TT := TT_in (k := 605) rfl rfl
set_option maxRecDepth 20000 in
theorem m_606 : Jvm.Cond.code ({ cls := "TwoGenerationsModel", name := "load", desc := "(III)V" } : Jvm.MethodName) prog_10_method_24_code (4 : Nat) (Option.none : Option Jvm.ClassFile.FieldType) ∈ TT := TT_in (k := 606) rfl rfl
set_option maxRecDepth 20000 in
theorem m_607 : Jvm.Cond.methodLink "TwoGenerationsModel" (112 : Nat) ({ cls := "TwoGenerationsModel", name := "hasField", desc := "(II)Z" } : Jvm.MethodName) ∈ TT := TT_in (k := 607) rfl rfl
set_option maxRecDepth 20000 in
theorem m_609 : Jvm.Cond.instanceMethod ({ cls := "TwoGenerationsModel", name := "hasField", desc := "(II)Z" } : Jvm.MethodName) ∈ TT := TT_in (k := 609) rfl rfl
set_option maxRecDepth 20000 in
theorem m_610 : Jvm.Cond.code ({ cls := "TwoGenerationsModel", name := "hasField", desc := "(II)Z" } : Jvm.MethodName) prog_10_method_23_code (4 : Nat) (Option.some Jvm.ClassFile.FieldType.boolean) ∈ TT := TT_in (k := 610) rfl rfl
set_option maxRecDepth 20000 in
theorem m_611 : Jvm.Cond.methodLink "TwoGenerationsLaw" (71 : Nat) ({ cls := "TwoGenerationsModel", name := "store", desc := "(III)V" } : Jvm.MethodName) ∈ TT := TT_in (k := 611) rfl rfl
set_option maxRecDepth 20000 in
theorem m_612 : Jvm.Cond.instanceMethod ({ cls := "TwoGenerationsModel", name := "store", desc := "(III)V" } : Jvm.MethodName) ∈ TT := TT_in (k := 612) rfl rfl
set_option maxRecDepth 20000 in
theorem m_613 : Jvm.Cond.selects "TwoGenerationsModel" ({ cls := "TwoGenerationsModel", name := "store", desc := "(III)V" } : Jvm.MethodName) ({ cls := "TwoGenerationsModel", name := "store", desc := "(III)V" } : Jvm.MethodName) ∈ TT := TT_in (k := 613) rfl rfl
set_option maxRecDepth 20000 in
theorem m_614 : Jvm.Cond.code ({ cls := "TwoGenerationsModel", name := "store", desc := "(III)V" } : Jvm.MethodName) prog_10_method_25_code (4 : Nat) (Option.none : Option Jvm.ClassFile.FieldType) ∈ TT := TT_in (k := 614) rfl rfl
set_option maxRecDepth 20000 in
theorem m_615 : Jvm.Cond.methodLink "TwoGenerationsLaw" (74 : Nat) ({ cls := "TwoGenerationsModel", name := "target", desc := "(II)V" } : Jvm.MethodName) ∈ TT := TT_in (k := 615) rfl rfl
set_option maxRecDepth 20000 in
theorem m_616 : Jvm.Cond.instanceMethod ({ cls := "TwoGenerationsModel", name := "target", desc := "(II)V" } : Jvm.MethodName) ∈ TT := TT_in (k := 616) rfl rfl
set_option maxRecDepth 20000 in
theorem m_617 : Jvm.Cond.selects "TwoGenerationsModel" ({ cls := "TwoGenerationsModel", name := "target", desc := "(II)V" } : Jvm.MethodName) ({ cls := "TwoGenerationsModel", name := "target", desc := "(II)V" } : Jvm.MethodName) ∈ TT := TT_in (k := 617) rfl rfl
set_option maxRecDepth 20000 in
theorem m_618 : Jvm.Cond.code ({ cls := "TwoGenerationsModel", name := "target", desc := "(II)V" } : Jvm.MethodName) prog_10_method_26_code (4 : Nat) (Option.none : Option Jvm.ClassFile.FieldType) ∈ TT := TT_in (k := 618) rfl rfl
set_option maxRecDepth 20000 in
theorem m_619 : Jvm.Cond.methodLink "TwoGenerationsLaw" (77 : Nat) ({ cls := "TwoGenerationsModel", name := "number", desc := "(II)V" } : Jvm.MethodName) ∈ TT := TT_in (k := 619) rfl rfl
set_option maxRecDepth 20000 in
theorem m_620 : Jvm.Cond.instanceMethod ({ cls := "TwoGenerationsModel", name := "number", desc := "(II)V" } : Jvm.MethodName) ∈ TT := TT_in (k := 620) rfl rfl
set_option maxRecDepth 20000 in
theorem m_621 : Jvm.Cond.selects "TwoGenerationsModel" ({ cls := "TwoGenerationsModel", name := "number", desc := "(II)V" } : Jvm.MethodName) ({ cls := "TwoGenerationsModel", name := "number", desc := "(II)V" } : Jvm.MethodName) ∈ TT := TT_in (k := 621) rfl rfl
set_option maxRecDepth 20000 in
theorem m_622 : Jvm.Cond.code ({ cls := "TwoGenerationsModel", name := "number", desc := "(II)V" } : Jvm.MethodName) prog_10_method_27_code (3 : Nat) (Option.none : Option Jvm.ClassFile.FieldType) ∈ TT := TT_in (k := 622) rfl rfl
set_option maxRecDepth 20000 in
theorem m_623 : Jvm.Cond.constant "TwoGenerationsModel" (116 : Nat) (-1073741824 : Int32) ∈ TT := TT_in (k := 623) rfl rfl
set_option maxRecDepth 20000 in
theorem m_624 : Jvm.Cond.constant "TwoGenerationsModel" (117 : Nat) (1073741824 : Int32) ∈ TT := TT_in (k := 624) rfl rfl
set_option maxRecDepth 20000 in
theorem m_625 : Jvm.Cond.methodLink "TwoGenerationsLaw" (81 : Nat) ({ cls := "TwoGenerationsModel", name := "clear", desc := "(I)V" } : Jvm.MethodName) ∈ TT := TT_in (k := 625) rfl rfl
set_option maxRecDepth 20000 in
theorem m_626 : Jvm.Cond.instanceMethod ({ cls := "TwoGenerationsModel", name := "clear", desc := "(I)V" } : Jvm.MethodName) ∈ TT := TT_in (k := 626) rfl rfl
set_option maxRecDepth 20000 in
theorem m_627 : Jvm.Cond.selects "TwoGenerationsModel" ({ cls := "TwoGenerationsModel", name := "clear", desc := "(I)V" } : Jvm.MethodName) ({ cls := "TwoGenerationsModel", name := "clear", desc := "(I)V" } : Jvm.MethodName) ∈ TT := TT_in (k := 627) rfl rfl
set_option maxRecDepth 20000 in
theorem m_628 : Jvm.Cond.code ({ cls := "TwoGenerationsModel", name := "clear", desc := "(I)V" } : Jvm.MethodName) prog_10_method_28_code (2 : Nat) (Option.none : Option Jvm.ClassFile.FieldType) ∈ TT := TT_in (k := 628) rfl rfl
set_option maxRecDepth 20000 in
theorem m_629 : Jvm.Cond.methodLink "TwoGenerationsLaw" (84 : Nat) ({ cls := "TwoGenerationsModel", name := "move", desc := "(II)V" } : Jvm.MethodName) ∈ TT := TT_in (k := 629) rfl rfl
set_option maxRecDepth 20000 in
theorem m_630 : Jvm.Cond.instanceMethod ({ cls := "TwoGenerationsModel", name := "move", desc := "(II)V" } : Jvm.MethodName) ∈ TT := TT_in (k := 630) rfl rfl
set_option maxRecDepth 20000 in
theorem m_631 : Jvm.Cond.selects "TwoGenerationsModel" ({ cls := "TwoGenerationsModel", name := "move", desc := "(II)V" } : Jvm.MethodName) ({ cls := "TwoGenerationsModel", name := "move", desc := "(II)V" } : Jvm.MethodName) ∈ TT := TT_in (k := 631) rfl rfl
set_option maxRecDepth 20000 in
theorem m_632 : Jvm.Cond.code ({ cls := "TwoGenerationsModel", name := "move", desc := "(II)V" } : Jvm.MethodName) prog_10_method_29_code (3 : Nat) (Option.none : Option Jvm.ClassFile.FieldType) ∈ TT := TT_in (k := 632) rfl rfl
set_option maxRecDepth 20000 in
theorem m_633 : Jvm.Cond.methodLink "TwoGenerationsLaw" (89 : Nat) ({ cls := "TwoGenerationsModel", name := "kind", desc := "(I)I" } : Jvm.MethodName) ∈ TT := TT_in (k := 633) rfl rfl
set_option maxRecDepth 20000 in
theorem m_634 : Jvm.Cond.instanceMethod ({ cls := "TwoGenerationsModel", name := "kind", desc := "(I)I" } : Jvm.MethodName) ∈ TT := TT_in (k := 634) rfl rfl
set_option maxRecDepth 20000 in
theorem m_635 : Jvm.Cond.selects "TwoGenerationsModel" ({ cls := "TwoGenerationsModel", name := "kind", desc := "(I)I" } : Jvm.MethodName) ({ cls := "TwoGenerationsModel", name := "kind", desc := "(I)I" } : Jvm.MethodName) ∈ TT := TT_in (k := 635) rfl rfl
set_option maxRecDepth 20000 in
theorem m_636 : Jvm.Cond.code ({ cls := "TwoGenerationsModel", name := "kind", desc := "(I)I" } : Jvm.MethodName) prog_10_method_30_code (3 : Nat) (Option.some Jvm.ClassFile.FieldType.int) ∈ TT := TT_in (k := 636) rfl rfl
set_option maxRecDepth 20000 in
theorem m_637 : Jvm.Cond.methodLink "TwoGenerationsLaw" (93 : Nat) ({ cls := "TwoGenerationsModel", name := "value", desc := "(I)I" } : Jvm.MethodName) ∈ TT := TT_in (k := 637) rfl rfl
set_option maxRecDepth 20000 in
theorem m_638 : Jvm.Cond.instanceMethod ({ cls := "TwoGenerationsModel", name := "value", desc := "(I)I" } : Jvm.MethodName) ∈ TT := TT_in (k := 638) rfl rfl
set_option maxRecDepth 20000 in
theorem m_639 : Jvm.Cond.selects "TwoGenerationsModel" ({ cls := "TwoGenerationsModel", name := "value", desc := "(I)I" } : Jvm.MethodName) ({ cls := "TwoGenerationsModel", name := "value", desc := "(I)I" } : Jvm.MethodName) ∈ TT := TT_in (k := 639) rfl rfl
set_option maxRecDepth 20000 in
theorem m_640 : Jvm.Cond.code ({ cls := "TwoGenerationsModel", name := "value", desc := "(I)I" } : Jvm.MethodName) prog_10_method_31_code (2 : Nat) (Option.some Jvm.ClassFile.FieldType.int) ∈ TT := TT_in (k := 640) rfl rfl
set_option maxRecDepth 20000 in
theorem m_641 : Jvm.Cond.methodLink "TwoGenerationsLaw" (97 : Nat) ({ cls := "TwoGenerationsModel", name := "fields", desc := "(I)I" } : Jvm.MethodName) ∈ TT := TT_in (k := 641) rfl rfl
set_option maxRecDepth 20000 in
theorem m_642 : Jvm.Cond.instanceMethod ({ cls := "TwoGenerationsModel", name := "fields", desc := "(I)I" } : Jvm.MethodName) ∈ TT := TT_in (k := 642) rfl rfl
set_option maxRecDepth 20000 in
theorem m_643 : Jvm.Cond.selects "TwoGenerationsModel" ({ cls := "TwoGenerationsModel", name := "fields", desc := "(I)I" } : Jvm.MethodName) ({ cls := "TwoGenerationsModel", name := "fields", desc := "(I)I" } : Jvm.MethodName) ∈ TT := TT_in (k := 643) rfl rfl
set_option maxRecDepth 20000 in
theorem m_644 : Jvm.Cond.code ({ cls := "TwoGenerationsModel", name := "fields", desc := "(I)I" } : Jvm.MethodName) prog_10_method_32_code (3 : Nat) (Option.some Jvm.ClassFile.FieldType.int) ∈ TT := TT_in (k := 644) rfl rfl
set_option maxRecDepth 20000 in
theorem m_645 : Jvm.Cond.methodLink "TwoGenerationsLaw" (102 : Nat) ({ cls := "TwoGenerationsModel", name := "same", desc := "(II)Z" } : Jvm.MethodName) ∈ TT := TT_in (k := 645) rfl rfl
set_option maxRecDepth 20000 in
theorem m_646 : Jvm.Cond.instanceMethod ({ cls := "TwoGenerationsModel", name := "same", desc := "(II)Z" } : Jvm.MethodName) ∈ TT := TT_in (k := 646) rfl rfl
set_option maxRecDepth 20000 in
theorem m_647 : Jvm.Cond.selects "TwoGenerationsModel" ({ cls := "TwoGenerationsModel", name := "same", desc := "(II)Z" } : Jvm.MethodName) ({ cls := "TwoGenerationsModel", name := "same", desc := "(II)Z" } : Jvm.MethodName) ∈ TT := TT_in (k := 647) rfl rfl
set_option maxRecDepth 20000 in
theorem m_648 : Jvm.Cond.code ({ cls := "TwoGenerationsModel", name := "same", desc := "(II)Z" } : Jvm.MethodName) prog_10_method_33_code (3 : Nat) (Option.some Jvm.ClassFile.FieldType.boolean) ∈ TT := TT_in (k := 648) rfl rfl
set_option maxRecDepth 20000 in
theorem m_649 : Jvm.Cond.methodLink "TwoGenerationsLaw" (106 : Nat) ({ cls := "TwoGenerationsModel", name := "generation", desc := "(I)I" } : Jvm.MethodName) ∈ TT := TT_in (k := 649) rfl rfl
set_option maxRecDepth 20000 in
theorem m_650 : Jvm.Cond.instanceMethod ({ cls := "TwoGenerationsModel", name := "generation", desc := "(I)I" } : Jvm.MethodName) ∈ TT := TT_in (k := 650) rfl rfl
set_option maxRecDepth 20000 in
theorem m_651 : Jvm.Cond.selects "TwoGenerationsModel" ({ cls := "TwoGenerationsModel", name := "generation", desc := "(I)I" } : Jvm.MethodName) ({ cls := "TwoGenerationsModel", name := "generation", desc := "(I)I" } : Jvm.MethodName) ∈ TT := TT_in (k := 651) rfl rfl
set_option maxRecDepth 20000 in
theorem m_652 : Jvm.Cond.code ({ cls := "TwoGenerationsModel", name := "generation", desc := "(I)I" } : Jvm.MethodName) prog_10_method_34_code (3 : Nat) (Option.some Jvm.ClassFile.FieldType.int) ∈ TT := TT_in (k := 652) rfl rfl
set_option maxRecDepth 20000 in
theorem m_653 : Jvm.Cond.methodLink "TwoGenerationsLaw" (110 : Nat) ({ cls := "TwoGenerationsModel", name := "reach", desc := "(I)I" } : Jvm.MethodName) ∈ TT := TT_in (k := 653) rfl rfl
set_option maxRecDepth 20000 in
theorem m_654 : Jvm.Cond.instanceMethod ({ cls := "TwoGenerationsModel", name := "reach", desc := "(I)I" } : Jvm.MethodName) ∈ TT := TT_in (k := 654) rfl rfl
set_option maxRecDepth 20000 in
theorem m_655 : Jvm.Cond.selects "TwoGenerationsModel" ({ cls := "TwoGenerationsModel", name := "reach", desc := "(I)I" } : Jvm.MethodName) ({ cls := "TwoGenerationsModel", name := "reach", desc := "(I)I" } : Jvm.MethodName) ∈ TT := TT_in (k := 655) rfl rfl
set_option maxRecDepth 20000 in
theorem m_656 : Jvm.Cond.code ({ cls := "TwoGenerationsModel", name := "reach", desc := "(I)I" } : Jvm.MethodName) prog_10_method_35_code (4 : Nat) (Option.some Jvm.ClassFile.FieldType.int) ∈ TT := TT_in (k := 656) rfl rfl
set_option maxRecDepth 20000 in
theorem m_657 : Jvm.Cond.methodLink "TwoGenerationsLaw" (122 : Nat) ({ cls := "TwoGenerationsModel", name := "cells", desc := "(I)I" } : Jvm.MethodName) ∈ TT := TT_in (k := 657) rfl rfl
set_option maxRecDepth 20000 in
theorem m_658 : Jvm.Cond.instanceMethod ({ cls := "TwoGenerationsModel", name := "cells", desc := "(I)I" } : Jvm.MethodName) ∈ TT := TT_in (k := 658) rfl rfl
set_option maxRecDepth 20000 in
theorem m_659 : Jvm.Cond.selects "TwoGenerationsModel" ({ cls := "TwoGenerationsModel", name := "cells", desc := "(I)I" } : Jvm.MethodName) ({ cls := "TwoGenerationsModel", name := "cells", desc := "(I)I" } : Jvm.MethodName) ∈ TT := TT_in (k := 659) rfl rfl
set_option maxRecDepth 20000 in
theorem m_660 : Jvm.Cond.code ({ cls := "TwoGenerationsModel", name := "cells", desc := "(I)I" } : Jvm.MethodName) prog_10_method_36_code (2 : Nat) (Option.some Jvm.ClassFile.FieldType.int) ∈ TT := TT_in (k := 660) rfl rfl
set_option maxRecDepth 20000 in
theorem m_661 : Jvm.Cond.methodLink "TwoGenerationsLaw" (126 : Nat) ({ cls := "TwoGenerationsModel", name := "collections", desc := "(I)I" } : Jvm.MethodName) ∈ TT := TT_in (k := 661) rfl rfl
set_option maxRecDepth 20000 in
theorem m_662 : Jvm.Cond.instanceMethod ({ cls := "TwoGenerationsModel", name := "collections", desc := "(I)I" } : Jvm.MethodName) ∈ TT := TT_in (k := 662) rfl rfl
set_option maxRecDepth 20000 in
theorem m_663 : Jvm.Cond.selects "TwoGenerationsModel" ({ cls := "TwoGenerationsModel", name := "collections", desc := "(I)I" } : Jvm.MethodName) ({ cls := "TwoGenerationsModel", name := "collections", desc := "(I)I" } : Jvm.MethodName) ∈ TT := TT_in (k := 663) rfl rfl
set_option maxRecDepth 20000 in
theorem m_664 : Jvm.Cond.code ({ cls := "TwoGenerationsModel", name := "collections", desc := "(I)I" } : Jvm.MethodName) prog_10_method_37_code (2 : Nat) (Option.some Jvm.ClassFile.FieldType.int) ∈ TT := TT_in (k := 664) rfl rfl
set_option maxRecDepth 20000 in
theorem m_665 : Jvm.Cond.sameMethod "java/lang/Throwable" "java/lang/Throwable" "fillInStackTrace" "(I)Ljava/lang/Throwable;" ∈ TT := TT_in (k := 665) rfl rfl
set_option maxRecDepth 20000 in
theorem m_666 : Jvm.Cond.castable "TwoGenerations$Whole" "TwoGenerations$Whole" ∈ TT := TT_in (k := 666) rfl rfl
set_option maxRecDepth 20000 in
theorem m_667 : Jvm.Cond.castable "TwoGenerations$Plain" "TwoGenerations$Plain" ∈ TT := TT_in (k := 667) rfl rfl
set_option maxRecDepth 20000 in
theorem m_668 : Jvm.Cond.castable "TwoGenerations$Plain" "TwoGenerations$Thing" ∈ TT := TT_in (k := 668) rfl rfl
set_option maxRecDepth 20000 in
theorem m_669 : Jvm.Cond.castable "TwoGenerations$Weak" "TwoGenerations$Thing" ∈ TT := TT_in (k := 669) rfl rfl
set_option maxRecDepth 20000 in
theorem m_670 : Jvm.Cond.castable "TwoGenerations$Weak" "TwoGenerations$Weak" ∈ TT := TT_in (k := 670) rfl rfl
set_option maxRecDepth 20000 in
theorem m_671 : Jvm.Cond.castable "TwoGenerations$Plain" "TwoGenerations$Value" ∈ TT := TT_in (k := 671) rfl rfl
set_option maxRecDepth 20000 in
theorem m_672 : Jvm.Cond.castable "TwoGenerations$Weak" "TwoGenerations$Value" ∈ TT := TT_in (k := 672) rfl rfl
set_option maxRecDepth 20000 in
theorem m_673 : Jvm.Cond.castable "TwoGenerations$Whole" "TwoGenerations$Value" ∈ TT := TT_in (k := 673) rfl rfl
def T_TG : u_T := fun k => match k with
  | 0 => ("TwoGenerations", "registers", "[LTwoGenerations$Value;", true)
  | 1 => ("TwoGenerations", "young", "LTwoGenerations$Generation;", true)
  | 2 => ("TwoGenerations", "old", "LTwoGenerations$Generation;", true)
  | 3 => ("TwoGenerations", "trace", "LTwoGenerations$Trace;", true)
  | 4 => ("TwoGenerations", "smallCollections", "I", false)
  | _ => ("TwoGenerations", "greatCollections", "I", false)
def ty_TG : Nat → FieldType := fun k => match k with
  | 0 => .array (.object "TwoGenerations$Value")
  | 1 => .object "TwoGenerations$Generation"
  | 2 => .object "TwoGenerations$Generation"
  | 3 => .object "TwoGenerations$Trace"
  | 4 => .int
  | _ => .int
theorem tyok_TG : ∀ k, k < 6 → parseFieldDescriptor (T_TG k).2.2.1 = some (ty_TG k) := by decide +kernel
theorem nms_TG : ∀ a, a < 6 → ∀ b, b < 6 → a ≠ b → (T_TG a).2.1 ≠ (T_TG b).2.1 := by decide +kernel
theorem uw_TG : ∀ x ∈ u_ws "TwoGenerations" T_TG 6, x ∈ TT := by
  intro x hx
  obtain ⟨k, hk, rfl⟩ := List.mem_map.mp hx
  rw [List.mem_range] at hk
  rcases (by omega : k = 0 ∨ k = 1 ∨ k = 2 ∨ k = 3 ∨ k = 4 ∨ k = 5) with rfl | rfl | rfl | rfl | rfl | rfl
  · exact m_104
  · exact m_106
  · exact m_108
  · exact m_110
  · exact m_112
  · exact m_114
def T_Gen : u_T := fun k => match k with
  | 0 => ("TwoGenerations$Generation", "limit", "I", true)
  | 1 => ("TwoGenerations$Generation", "things", "[LTwoGenerations$Thing;", true)
  | 2 => ("TwoGenerations$Generation", "count", "I", false)
  | _ => ("TwoGenerations$Generation", "taken", "I", false)
def ty_Gen : Nat → FieldType := fun k => match k with
  | 0 => .int
  | 1 => .array (.object "TwoGenerations$Thing")
  | 2 => .int
  | _ => .int
theorem tyok_Gen : ∀ k, k < 4 → parseFieldDescriptor (T_Gen k).2.2.1 = some (ty_Gen k) := by decide +kernel
theorem nms_Gen : ∀ a, a < 4 → ∀ b, b < 4 → a ≠ b → (T_Gen a).2.1 ≠ (T_Gen b).2.1 := by decide +kernel
theorem uw_Gen : ∀ x ∈ u_ws "TwoGenerations$Generation" T_Gen 4, x ∈ TT := by
  intro x hx
  obtain ⟨k, hk, rfl⟩ := List.mem_map.mp hx
  rw [List.mem_range] at hk
  rcases (by omega : k = 0 ∨ k = 1 ∨ k = 2 ∨ k = 3) with rfl | rfl | rfl | rfl
  · exact m_71
  · exact m_73
  · exact m_75
  · exact m_77
def T_Tr : u_T := fun k => match k with
  | 0 => ("TwoGenerations$Trace", "found", "[LTwoGenerations$Thing;", true)
  | 1 => ("TwoGenerations$Trace", "count", "I", false)
  | _ => ("TwoGenerations$Trace", "cells", "I", false)
def ty_Tr : Nat → FieldType := fun k => match k with
  | 0 => .array (.object "TwoGenerations$Thing")
  | 1 => .int
  | _ => .int
theorem tyok_Tr : ∀ k, k < 3 → parseFieldDescriptor (T_Tr k).2.2.1 = some (ty_Tr k) := by decide +kernel
theorem nms_Tr : ∀ a, a < 3 → ∀ b, b < 3 → a ≠ b → (T_Tr a).2.1 ≠ (T_Tr b).2.1 := by decide +kernel
theorem uw_Tr : ∀ x ∈ u_ws "TwoGenerations$Trace" T_Tr 3, x ∈ TT := by
  intro x hx
  obtain ⟨k, hk, rfl⟩ := List.mem_map.mp hx
  rw [List.mem_range] at hk
  rcases (by omega : k = 0 ∨ k = 1 ∨ k = 2) with rfl | rfl | rfl
  · exact m_91
  · exact m_93
  · exact m_95
def T_Pl : u_T := fun k => match k with
  | 0 => ("TwoGenerations$Thing", "size", "I", true)
  | 1 => ("TwoGenerations$Thing", "isOld", "Z", false)
  | 2 => ("TwoGenerations$Thing", "isReached", "Z", false)
  | _ => ("TwoGenerations$Plain", "contents", "[LTwoGenerations$Value;", true)
def ty_Pl : Nat → FieldType := fun k => match k with
  | 0 => .int
  | 1 => .boolean
  | 2 => .boolean
  | _ => .array (.object "TwoGenerations$Value")
theorem tyok_Pl : ∀ k, k < 4 → parseFieldDescriptor (T_Pl k).2.2.1 = some (ty_Pl k) := by decide +kernel
theorem nms_Pl : ∀ a, a < 4 → ∀ b, b < 4 → a ≠ b → (T_Pl a).2.1 ≠ (T_Pl b).2.1 := by decide +kernel
theorem uw_Pl : ∀ x ∈ u_ws "TwoGenerations$Plain" T_Pl 4, x ∈ TT := by
  intro x hx
  obtain ⟨k, hk, rfl⟩ := List.mem_map.mp hx
  rw [List.mem_range] at hk
  rcases (by omega : k = 0 ∨ k = 1 ∨ k = 2 ∨ k = 3) with rfl | rfl | rfl | rfl
  · exact m_324
  · exact m_326
  · exact m_328
  · exact m_322
def T_Wk : u_T := fun k => match k with
  | 0 => ("TwoGenerations$Thing", "size", "I", true)
  | 1 => ("TwoGenerations$Thing", "isOld", "Z", false)
  | 2 => ("TwoGenerations$Thing", "isReached", "Z", false)
  | _ => ("TwoGenerations$Weak", "target", "LTwoGenerations$Thing;", false)
def ty_Wk : Nat → FieldType := fun k => match k with
  | 0 => .int
  | 1 => .boolean
  | 2 => .boolean
  | _ => .object "TwoGenerations$Thing"
theorem tyok_Wk : ∀ k, k < 4 → parseFieldDescriptor (T_Wk k).2.2.1 = some (ty_Wk k) := by decide +kernel
theorem nms_Wk : ∀ a, a < 4 → ∀ b, b < 4 → a ≠ b → (T_Wk a).2.1 ≠ (T_Wk b).2.1 := by decide +kernel
theorem uw_Wk : ∀ x ∈ u_ws "TwoGenerations$Weak" T_Wk 4, x ∈ TT := by
  intro x hx
  obtain ⟨k, hk, rfl⟩ := List.mem_map.mp hx
  rw [List.mem_range] at hk
  rcases (by omega : k = 0 ∨ k = 1 ∨ k = 2 ∨ k = 3) with rfl | rfl | rfl | rfl
  · exact m_391
  · exact m_392
  · exact m_393
  · exact m_389
def T_Wh : u_T := fun k => match k with
  | _ => ("TwoGenerations$Whole", "number", "I", true)
def ty_Wh : Nat → FieldType := fun k => match k with
  | _ => .int
theorem tyok_Wh : ∀ k, k < 1 → parseFieldDescriptor (T_Wh k).2.2.1 = some (ty_Wh k) := by decide +kernel
theorem nms_Wh : ∀ a, a < 1 → ∀ b, b < 1 → a ≠ b → (T_Wh a).2.1 ≠ (T_Wh b).2.1 := by decide +kernel
theorem uw_Wh : ∀ x ∈ u_ws "TwoGenerations$Whole" T_Wh 1, x ∈ TT := by
  intro x hx
  obtain ⟨k, hk, rfl⟩ := List.mem_map.mp hx
  rw [List.mem_range] at hk
  rcases (by omega : k = 0) with rfl
  · exact m_443
def T_Mo : u_T := fun k => match k with
  | 0 => ("TwoGenerationsModel", "fault", "I", false)
  | 1 => ("TwoGenerationsModel", "registers", "I", false)
  | 2 => ("TwoGenerationsModel", "youngMost", "I", false)
  | 3 => ("TwoGenerationsModel", "oldMost", "I", false)
  | 4 => ("TwoGenerationsModel", "register", "[J", true)
  | 5 => ("TwoGenerationsModel", "there", "[Z", true)
  | 6 => ("TwoGenerationsModel", "old", "[Z", true)
  | 7 => ("TwoGenerationsModel", "size", "[I", true)
  | 8 => ("TwoGenerationsModel", "aim", "[I", true)
  | 9 => ("TwoGenerationsModel", "field", "[J", true)
  | 10 => ("TwoGenerationsModel", "reached", "[Z", true)
  | 11 => ("TwoGenerationsModel", "smalls", "I", false)
  | _ => ("TwoGenerationsModel", "greats", "I", false)
def ty_Mo : Nat → FieldType := fun k => match k with
  | 0 => .int
  | 1 => .int
  | 2 => .int
  | 3 => .int
  | 4 => .array .long
  | 5 => .array .boolean
  | 6 => .array .boolean
  | 7 => .array .int
  | 8 => .array .int
  | 9 => .array .long
  | 10 => .array .boolean
  | 11 => .int
  | _ => .int
theorem tyok_Mo : ∀ k, k < 13 → parseFieldDescriptor (T_Mo k).2.2.1 = some (ty_Mo k) := by decide +kernel
theorem nms_Mo : ∀ a, a < 13 → ∀ b, b < 13 → a ≠ b → (T_Mo a).2.1 ≠ (T_Mo b).2.1 := by decide +kernel
theorem uw_Mo : ∀ x ∈ u_ws "TwoGenerationsModel" T_Mo 13, x ∈ TT := by
  intro x hx
  obtain ⟨k, hk, rfl⟩ := List.mem_map.mp hx
  rw [List.mem_range] at hk
  rcases (by omega : k = 0 ∨ k = 1 ∨ k = 2 ∨ k = 3 ∨ k = 4 ∨ k = 5 ∨ k = 6 ∨ k = 7 ∨ k = 8 ∨ k = 9 ∨ k = 10 ∨ k = 11 ∨ k = 12) with rfl | rfl | rfl | rfl | rfl | rfl | rfl | rfl | rfl | rfl | rfl | rfl | rfl
  · exact m_488
  · exact m_490
  · exact m_492
  · exact m_494
  · exact m_496
  · exact m_498
  · exact m_500
  · exact m_502
  · exact m_504
  · exact m_506
  · exact m_508
  · exact m_510
  · exact m_512
abbrev vwCl : List vw_C := [("TwoGenerations", T_TG, 6), ("TwoGenerations$Generation", T_Gen, 4), ("TwoGenerations$Trace", T_Tr, 3), ("TwoGenerations$Plain", T_Pl, 4), ("TwoGenerations$Weak", T_Wk, 4), ("TwoGenerations$Whole", T_Wh, 1), ("TwoGenerationsModel", T_Mo, 13)]
def nF (ci : Nat) : Nat := match ci with
  | 0 => 6
  | 1 => 4
  | 2 => 3
  | 3 => 4
  | 4 => 4
  | 5 => 1
  | 6 => 13
  | _ => 0
def ft (ci k : Nat) : Bool := match ci, k with
  | 0, 4 => true
  | 0, 5 => true
  | 1, 0 => true
  | 1, 2 => true
  | 1, 3 => true
  | 2, 1 => true
  | 2, 2 => true
  | 3, 0 => true
  | 3, 1 => true
  | 3, 2 => true
  | 4, 0 => true
  | 4, 1 => true
  | 4, 2 => true
  | 5, 0 => true
  | 6, 0 => true
  | 6, 1 => true
  | 6, 2 => true
  | 6, 3 => true
  | 6, 11 => true
  | 6, 12 => true
  | _, _ => false
def nT : Nat := 5
def tyL (t : Nat) : FieldType := match t with
  | 0 => .int
  | 1 => .boolean
  | 2 => .long
  | 3 => .object "TwoGenerations$Value"
  | _ => .object "TwoGenerations$Thing"
def tyK (t : Nat) : Nat := match t with
  | 0 => 0
  | 1 => 0
  | 2 => 2
  | _ => 1
def ncL : List (String × String) := [("TwoGenerations$Whole", "TwoGenerations$Thing"), ("TwoGenerations$Whole", "TwoGenerations$Plain"), ("TwoGenerations$Whole", "TwoGenerations$Weak"), ("TwoGenerations$Plain", "TwoGenerations$Whole"), ("TwoGenerations$Weak", "TwoGenerations$Whole"), ("TwoGenerations$Plain", "TwoGenerations$Weak"), ("TwoGenerations$Weak", "TwoGenerations$Plain"), ("java/lang/IllegalStateException", "java/lang/IllegalArgumentException")]
def srL : List (Nat × String) := [(48, "no such register, or too few or too many fields"), (134, "the old generation is full"), (64, "no such register, or no object to aim at"), (78, "no such register or field"), (87, "no such register, or no weak cell"), (95, "no such register, or the int is out of range"), (100, "no such register")]
end
section
/-! Worlds as maps: a kind at each address, ints, references, longs at each place of it; J: the machine at a frame over such a world. -/
abbrev Kd : Type := Nat ⊕ (Nat × Nat)
abbrev Wd : Type := (Nat → Option Kd) × (Nat → Nat → Int32) × (Nat → Nat → Option Nat) × (Nat → Nat → Int64)
def wK (w : Wd) (a : Nat) : Option Kd := w.1 a
def wI (w : Wd) (a k : Nat) : Int32 := w.2.1 a k
def wP (w : Wd) (a k : Nat) : Option Nat := w.2.2.1 a k
def wL (w : Wd) (a k : Nat) : Int64 := w.2.2.2 a k
def uI (w : Wd) (a k : Nat) (x : Int32) : Wd := (w.1, fun b j => if b = a ∧ j = k then x else w.2.1 b j, w.2.2)
def uP (w : Wd) (a k : Nat) (o : Option Nat) : Wd := (w.1, w.2.1, fun b j => if b = a ∧ j = k then o else w.2.2.1 b j, w.2.2.2)
def uL (w : Wd) (a k : Nat) (x : Int64) : Wd := (w.1, w.2.1, w.2.2.1, fun b j => if b = a ∧ j = k then x else w.2.2.2 b j)
def uN (w : Wd) (a : Nat) (d : Kd) : Wd := (fun b => if b = a then some d else w.1 b, fun b j => if b = a then 0 else w.2.1 b j, fun b j => if b = a then none else w.2.2.1 b j, fun b j => if b = a then 0 else w.2.2.2 b j)
theorem wK_uI (w : Wd) (a k : Nat) (x : Int32) (b : Nat) : wK (uI w a k x) b = wK w b := rfl
theorem wK_uP (w : Wd) (a k : Nat) (x : Option Nat) (b : Nat) : wK (uP w a k x) b = wK w b := rfl
theorem wK_uL (w : Wd) (a k : Nat) (x : Int64) (b : Nat) : wK (uL w a k x) b = wK w b := rfl
theorem wK_uN (w : Wd) (a : Nat) (d : Kd) (b : Nat) : wK (uN w a d) b = if b = a then some d else wK w b := rfl
theorem wI_uI (w : Wd) (a k : Nat) (x : Int32) (b j : Nat) : wI (uI w a k x) b j = if b = a ∧ j = k then x else wI w b j := rfl
theorem wI_uP (w : Wd) (a k : Nat) (x : Option Nat) (b j : Nat) : wI (uP w a k x) b j = wI w b j := rfl
theorem wI_uL (w : Wd) (a k : Nat) (x : Int64) (b j : Nat) : wI (uL w a k x) b j = wI w b j := rfl
theorem wI_uN (w : Wd) (a : Nat) (d : Kd) (b j : Nat) : wI (uN w a d) b j = if b = a then 0 else wI w b j := rfl
theorem wP_uI (w : Wd) (a k : Nat) (x : Int32) (b j : Nat) : wP (uI w a k x) b j = wP w b j := rfl
theorem wP_uP (w : Wd) (a k : Nat) (x : Option Nat) (b j : Nat) : wP (uP w a k x) b j = if b = a ∧ j = k then x else wP w b j := rfl
theorem wP_uL (w : Wd) (a k : Nat) (x : Int64) (b j : Nat) : wP (uL w a k x) b j = wP w b j := rfl
theorem wP_uN (w : Wd) (a : Nat) (d : Kd) (b j : Nat) : wP (uN w a d) b j = if b = a then none else wP w b j := rfl
theorem wL_uI (w : Wd) (a k : Nat) (x : Int32) (b j : Nat) : wL (uI w a k x) b j = wL w b j := rfl
theorem wL_uP (w : Wd) (a k : Nat) (x : Option Nat) (b j : Nat) : wL (uP w a k x) b j = wL w b j := rfl
theorem wL_uL (w : Wd) (a k : Nat) (x : Int64) (b j : Nat) : wL (uL w a k x) b j = if b = a ∧ j = k then x else wL w b j := rfl
theorem wL_uN (w : Wd) (a : Nat) (d : Kd) (b j : Nat) : wL (uN w a d) b j = if b = a then 0 else wL w b j := rfl
theorem vc_r (a : Nat) : (Value.ref a).category = 1 := rfl
theorem vc_i (x : Int32) : (Value.int x).category = 1 := rfl
theorem vc_0 : Value.null.category = 1 := rfl
theorem ne_new {w : Wd} {a q : Nat} {d : Kd} (ha : wK w a = some d) (hq : wK w q = none) : a ≠ q := fun e => by rw [e, hq] at ha; cases ha
theorem va_rf_cat (o : Option Nat) : (va_rf o).category = 1 := by cases o <;> rfl
/-- a field's value -/
def fV (w : Wd) (a ci k : Nat) : Value := if ft ci k = true then .int (wI w a k) else va_rf (wP w a k)
/-- what a cell is -/
def ent (cA : Nat → ClassId) (w : Wd) (a : Nat) : Kd → va_E
  | .inl ci => .inr (ci, (List.range (nF ci)).map (fV w a ci))
  | .inr (t, n) => .inl (cA t, n, if tyK t = 0 then .inl (wI w a) else if tyK t = 1 then .inr (.inr (.inr (.inr (wP w a)))) else .inr (.inl (wL w a)))
def wrep (cA : Nat → ClassId) (w : Wd) (ws : va_W) : Prop := ∀ (a : Nat) (x : va_E), (a, x) ∈ ws ↔ ∃ d, wK w a = some d ∧ x = ent cA w a d
theorem wrep_at {cA : Nat → ClassId} {w : Wd} {ws : va_W} (h : wrep cA w ws) {a : Nat} {d : Kd} (ha : wK w a = some d) : ∃ q0 : Nat, ws[q0]? = some (a, ent cA w a d) := List.getElem?_of_mem ((h a _).mpr ⟨d, ha, rfl⟩)
/-- a cell changes, its kind stays, all else is as it was -/
theorem wrep_set {cA : Nat → ClassId} {w w' : Wd} {ws : va_W} {A : Nat → Prop} (h : wrep cA w ws) (hD : va_D A ws) {q0 a : Nat} {x0 : va_E} {d : Kd} (hq : ws[q0]? = some (a, x0)) (ha : wK w a = some d) (hk : ∀ b, wK w' b = wK w b) (ho : ∀ b, b ≠ a → ∀ d', ent cA w' b d' = ent cA w b d') {x : va_E} (hx : x = ent cA w' a d) : wrep cA w' (ws.set q0 (a, x)) := by
  have hl := (List.getElem?_eq_some_iff.mp hq).1
  intro b y
  constructor
  · intro hb
    obtain ⟨k, hk'⟩ := List.getElem?_of_mem hb
    by_cases hkq : q0 = k
    · subst hkq
      rw [List.getElem?_set_self hl] at hk'
      cases hk'
      exact ⟨d, (hk _).trans ha, hx⟩
    · rw [List.getElem?_set_ne hkq] at hk'
      have hba : b ≠ a := fun e => hkq (hD.1 q0 k (a, x0) (b, y) hq hk' e.symm)
      obtain ⟨d', h1, h2⟩ := (h b y).mp (List.mem_of_getElem? hk')
      exact ⟨d', (hk b).trans h1, h2.trans (ho b hba d').symm⟩
  · rintro ⟨d', h1, h2⟩
    rw [hk b] at h1
    by_cases hba : b = a
    · subst hba
      have : d' = d := Option.some.inj (h1.symm.trans ha)
      subst this
      rw [h2, ← hx]
      exact List.mem_of_getElem? (List.getElem?_set_self hl)
    · obtain ⟨k, hk'⟩ := List.getElem?_of_mem ((h b (ent cA w b d')).mpr ⟨d', h1, rfl⟩)
      have hkq : q0 ≠ k := by
        intro e
        subst e
        rw [hq] at hk'
        cases hk'
        exact hba rfl
      rw [h2, ho b hba d']
      exact List.mem_of_getElem? ((List.getElem?_set_ne hkq).trans hk')
/-- a new cell -/
theorem wrep_push {cA : Nat → ClassId} {w : Wd} {ws : va_W} {A : Nat → Prop} {a : Nat} {d : Kd} {x : va_E} (h : wrep cA w ws) (hD : va_D A (ws ++ [(a, x)])) (hx : x = ent cA (uN w a d) a d) : wK w a = none ∧ wrep cA (uN w a d) (ws ++ [(a, x)]) := by
  have hn : wK w a = none := by
    cases hc : wK w a with
    | none => rfl
    | some d0 =>
      obtain ⟨k, hk⟩ := wrep_at h hc
      have hl := (List.getElem?_eq_some_iff.mp hk).1
      have e := hD.1 k ws.length _ (a, x) ((List.getElem?_append_left hl).trans hk) (by rw [List.getElem?_append_right (Nat.le_refl _), Nat.sub_self]; rfl) rfl
      omega
  have ho : ∀ b, b ≠ a → ∀ d', ent cA (uN w a d) b d' = ent cA w b d' := by
    intro b hb d'
    have f1 : wI (uN w a d) b = wI w b := by funext j; rw [wI_uN, if_neg hb]
    have f2 : wP (uN w a d) b = wP w b := by funext j; rw [wP_uN, if_neg hb]
    have f3 : wL (uN w a d) b = wL w b := by funext j; rw [wL_uN, if_neg hb]
    cases d' with
    | inl ci =>
      have : fV (uN w a d) b ci = fV w b ci := by funext k; simp only [fV, f1, f2]
      simp only [ent, this]
    | inr tn => simp only [ent, f1, f2, f3]
  refine ⟨hn, fun b y => ⟨fun hb => ?_, ?_⟩⟩
  · rcases List.mem_append.mp hb with hb | hb
    · obtain ⟨d', h1, h2⟩ := (h b y).mp hb
      have hba : b ≠ a := fun e => by rw [e, hn] at h1; cases h1
      exact ⟨d', by rw [wK_uN, if_neg hba]; exact h1, h2.trans (ho b hba d').symm⟩
    · cases List.mem_singleton.mp hb
      exact ⟨d, by rw [wK_uN, if_pos rfl], hx⟩
  · rintro ⟨d', h1, h2⟩
    by_cases hba : b = a
    · subst hba
      rw [wK_uN, if_pos rfl] at h1
      cases h1
      rw [h2, ← hx]
      exact List.mem_append_right _ List.mem_cons_self
    · rw [wK_uN, if_neg hba] at h1
      refine List.mem_append_left _ ((h b y).mpr ⟨d', h1, h2.trans (ho b hba d')⟩)
/-- locals -/
def lhas (ls : Array Slot) (nL : Nat) (L : List (Option Value)) : Prop := ls.size = nL ∧ lv_wf ls ∧ ∀ (i : Nat) (v : Value), L[i]? = some (some v) → ls[i]? = some (.val v)
def lok (L : List (Option Value)) : Bool := L.all (fun o => match o with | some v => v.category == 1 | none => true)
theorem lok_at {L : List (Option Value)} (h : lok L = true) {i : Nat} {v : Value} (hi : L[i]? = some (some v)) : v.category = 1 := by
  have := List.all_eq_true.mp h _ (List.mem_of_getElem? hi)
  simpa using this
def lps : Nat → List (Option Value) → List (Nat × Value)
  | _, [] => []
  | i, none :: t => lps (i + 1) t
  | i, some v :: t => (i, v) :: lps (i + 1) t
theorem lps_mem : ∀ (L : List (Option Value)) (i : Nat) (q : Nat × Value), q ∈ lps i L ↔ i ≤ q.1 ∧ L[q.1 - i]? = some (some q.2)
  | [], i, q => by simp [lps]
  | none :: t, i, q => by
    rw [lps, lps_mem t (i + 1) q]
    constructor
    · rintro ⟨h1, h2⟩
      refine ⟨by omega, ?_⟩
      rw [show q.1 - i = (q.1 - (i + 1)) + 1 by omega, List.getElem?_cons_succ]
      exact h2
    · rintro ⟨h1, h2⟩
      by_cases e : q.1 = i
      · rw [e, Nat.sub_self, List.getElem?_cons_zero] at h2
        cases h2
      · refine ⟨by omega, ?_⟩
        rw [show q.1 - i = (q.1 - (i + 1)) + 1 by omega, List.getElem?_cons_succ] at h2
        exact h2
  | some v :: t, i, q => by
    rw [lps, List.mem_cons, lps_mem t (i + 1) q]
    constructor
    · rintro (h | ⟨h1, h2⟩)
      · subst h
        exact ⟨Nat.le_refl _, by rw [Nat.sub_self]; rfl⟩
      · refine ⟨by omega, ?_⟩
        rw [show q.1 - i = (q.1 - (i + 1)) + 1 by omega, List.getElem?_cons_succ]
        exact h2
    · rintro ⟨h1, h2⟩
      by_cases e : q.1 = i
      · rw [e, Nat.sub_self, List.getElem?_cons_zero] at h2
        cases h2
        exact Or.inl (by rw [← e])
      · refine Or.inr ⟨by omega, ?_⟩
        rw [show q.1 - i = (q.1 - (i + 1)) + 1 by omega, List.getElem?_cons_succ] at h2
        exact h2
theorem lhas.lv {ls : Array Slot} {nL : Nat} {L : List (Option Value)} (h : lhas ls nL L) : lv_has ls nL (lps 0 L) :=
  ⟨h.1, h.2.1, fun q hq => h.2.2 q.1 q.2 (by have := ((lps_mem L 0 q).mp hq).2; rwa [Nat.sub_zero] at this)⟩
theorem lhas.put {ls ls' : Array Slot} {nL : Nat} {L : List (Option Value)} {i : Nat} {v : Value} (h : lhas ls nL L) (hk : lok L = true) (h' : lv_has ls' nL ((i, v) :: (lps 0 L).filter (fun q => !(q.1 == i) && !(q.1 + 1 == i && q.2.category == 2)))) : lhas ls' nL (L.set i (some v)) := by
  refine ⟨h'.1, h'.2.1, fun j u hj => ?_⟩
  by_cases e : i = j
  · subst e
    have hl : i < L.length := by
      have := (List.getElem?_eq_some_iff.mp hj).1
      rwa [List.length_set] at this
    rw [List.getElem?_set_self hl] at hj
    cases hj
    exact h'.2.2 (i, v) List.mem_cons_self
  · rw [List.getElem?_set_ne e] at hj
    have hu := lok_at hk hj
    refine h'.2.2 (j, u) (List.mem_cons_of_mem _ (List.mem_filter.mpr ⟨(lps_mem L 0 (j, u)).mpr ⟨Nat.zero_le _, by rw [Nat.sub_zero]; exact hj⟩, ?_⟩))
    have e' : ¬ j = i := fun q => e q.symm
    simp [e', hu]
theorem lhas.idx {ls : Array Slot} {nL : Nat} {L : List (Option Value)} {i : Nat} {v : Value} (_h : lhas ls nL L) (hj : L[i]? = some (some v)) : ∃ k : Nat, (lps 0 L)[k]? = some (i, v) := List.getElem?_of_mem ((lps_mem L 0 (i, v)).mpr ⟨Nat.zero_le _, by rw [Nat.sub_zero]; exact hj⟩)
theorem lhas.mono {ls : Array Slot} {nL : Nat} {L L' : List (Option Value)} (h : lhas ls nL L) (hs : ∀ (i : Nat) (v : Value), L'[i]? = some (some v) → L[i]? = some (some v)) : lhas ls nL L' := ⟨h.1, h.2.1, fun i v hi => h.2.2 i v (hs i v hi)⟩
def lin : List Value → Nat → List (Option Value)
  | [], n => List.replicate n none
  | v :: t, n => if v.category = 2 then some v :: none :: lin t (n - 2) else some v :: lin t (n - 1)
theorem lin_args : ∀ (vs : List Value) (i n j : Nat) (v : Value), (lin vs n)[j]? = some (some v) → (i + j, v) ∈ lv_args i vs
  | [], i, n, j, v, h => by
    rw [lin, List.getElem?_replicate] at h
    split at h <;> simp at h
  | u :: t, i, n, j, v, h => by
    rw [lin] at h
    rw [lv_args]
    by_cases hu : u.category = 2
    · rw [if_pos hu] at h ⊢
      match j with
      | 0 =>
        rw [List.getElem?_cons_zero] at h
        cases h
        exact List.mem_cons_self
      | 1 =>
        rw [List.getElem?_cons_succ, List.getElem?_cons_zero] at h
        cases h
      | j + 2 =>
        rw [List.getElem?_cons_succ, List.getElem?_cons_succ] at h
        have h1 := lin_args t (i + 2) (n - 2) j v h
        rw [show i + (j + 2) = i + 2 + j by omega]
        exact List.mem_cons_of_mem _ h1
    · rw [if_neg hu] at h ⊢
      match j with
      | 0 =>
        rw [List.getElem?_cons_zero] at h
        cases h
        exact List.mem_cons_self
      | j + 1 =>
        rw [List.getElem?_cons_succ] at h
        have h1 := lin_args t (i + 1) (n - 1) j v h
        rw [show i + (j + 1) = i + 1 + j by omega]
        exact List.mem_cons_of_mem _ h1
theorem lhas_entry (vs : List Value) {n : Nat} (hn : (lg_sl vs).length ≤ n) : lhas ((lg_sl vs ++ List.replicate (n - (lg_sl vs).length) Slot.unset).toArray) n (lin vs n) := by
  have h := lv_entry vs (n := n) hn
  refine ⟨h.1, h.2.1, fun i v hi => ?_⟩
  have h1 := lin_args vs 0 n i v hi
  rw [Nat.zero_add] at h1
  exact h.2.2 (i, v) h1
/-! ===== the judgement ===== -/
abbrev Cxt : Type := Program × Launch × Env × Room × State × MethodId × Array Value × List Frame × Method × Code
abbrev Dat : Type := va_G × (Nat → ClassId)
def tysOf (cA : Nat → ClassId) : List (ClassId × FieldType) := (List.range nT).map (fun t => (cA t, tyL t))
theorem tysOf_at {cA : Nat → ClassId} {t : Nat} (h : t < nT) : (tysOf cA)[t]? = some (cA t, tyL t) := by
  rw [tysOf, List.getElem?_map, List.getElem?_range h]
  rfl
/-- what the tables and the statics say, beyond the words -/
def SK (Δ : Dat) (A : Nat → Prop) (U : State) (H : Heap) : Prop := va_K Δ.1 vwCl (tysOf Δ.2) U ∧ (∀ q ∈ ncL, va_Nc q.1 q.2 U) ∧ (∀ q ∈ srL, ∃ a, vk_R "TwoGenerations" q.1 q.2 a U) ∧ vx_Zq Bundle.tN "UNASSIGNED_STACK" Bundle.steD A U H ∧ vx_Zq Bundle.tN "SUPPRESSED_SENTINEL" Bundle.listD A U H
theorem SK.warm {Δ : Dat} {A B : Nat → Prop} {s U : State} {H H1 : Heap} (hW : s.WarmedH U.vm) (hAB : ∀ q, B q → A q) (hq : ∀ a : Nat, a < H.size → ¬ A a → H1[a]? = H[a]?) (h : SK Δ A s H) : SK Δ B U H1 :=
  ⟨va_K.moved hW.alike h.1, fun q hq => (h.2.1 q hq).moved hW.alike, fun q hq => by
    obtain ⟨a, ha⟩ := h.2.2.1 q hq
    exact ⟨a, vk_R.warm hW ha⟩, vx_Zq.moved hW.alike ((h.2.2.2.1.kept hq).narrow hAB), vx_Zq.moved hW.alike ((h.2.2.2.2.kept hq).narrow hAB)⟩
theorem SK.same {Δ : Dat} {A : Nat → Prop} {u U : State} {H : Heap} (hv : u.vm = U.vm) (h : SK Δ A u H) : SK Δ A U H := by
  have ha : u.vm.Alike U.vm := by rw [hv]; exact Vm.Alike.refl _
  exact ⟨va_K.moved ha h.1, fun q hq => (h.2.1 q hq).moved ha, fun q hq => by
    obtain ⟨a, ha⟩ := h.2.2.1 q hq
    exact ⟨a, vk_R.same hv.symm ha⟩, vx_Zq.moved ha h.2.2.2.1, vx_Zq.moved ha h.2.2.2.2⟩
def J (Γ : Cxt) (Δ : Dat) (A : Nat → Prop) (nL : Nat) (w : Wd) (cells slots : Nat) (Q : State → Prop) (pc : Nat) (L : List (Option Value)) (st : List Value) : Prop :=
  match Γ with
  | (p, l, e, R, s, m, args, below, meth, c) =>
    ∀ (H : Heap) (locs : List Loc) (ws : va_W) (ls : Array Slot), wrep Δ.2 w ws → va_P Δ.1 vwCl ws H → va_D A ws → va_S A s.heap H locs → lhas ls nL L → W p l e R s m args below meth c H locs cells slots Q (F0 m pc ls st)
/-- what a walk stands on -/
def Cx (Γ : Cxt) (Δ : Dat) (A : Nat → Prop) (l0 : Launch) (cc : ByteArray) (own : String) (nL : Nat) (R0 : Room) (ret : Option FieldType) (nm : String) : Prop :=
  match Γ with
  | (p, l, e, R, s, m, args, below, meth, c) =>
    l = l0 ∧ R = R0 ∧ p.tables.exec = Jvm.exec ∧ c.code = cc ∧ s.vm.findClass own = some m.cls ∧ c.maxLocals = nL ∧ (∀ x ∈ TT, x.before args s = true) ∧ SK Δ A s s.heap ∧ (∀ q, s.heap.size ≤ q → A q) ∧ meth.sig.returnType = ret ∧ meth.locks = false ∧ meth.name = nm ∧ ∀ (q : Nat) (cell : Cell), A q → s.heap[q]? = some cell → cell.vm.isStatics = false
section JR
variable {Γ : Cxt} {Δ : Dat} {A : Nat → Prop} {l0 : Launch} {cc : ByteArray} {own : String} {nL : Nat} {R0 : Room} {ret : Option FieldType} {nm : String} {w : Wd} {cells slots : Nat} {Q : State → Prop} {pc : Nat} {L : List (Option Value)} {st : List Value}

theorem J_iconst (X : Cx Γ Δ A l0 cc own nL R0 ret nm) {n : Int} {v : Int32} (hd : decode cc pc = .ok (.iconst n, 1)) (hv : Int32.ofInt n = v) (k : J Γ Δ A nL w cells slots Q (pc + 1) L (.int v :: st)) : J Γ Δ A nL w cells slots Q (pc) L (st) := by
  obtain ⟨p, l, e, R, s, m, args, below, meth, c⟩ := Γ
  obtain ⟨hl, hR, hx, hb, hown, hml, hts, hK, hA, -⟩ := X
  exact fun H locs ws ls h1 h2 h3 h4 h5 => lv_iconst hx hb hd hv (k H locs ws ls h1 h2 h3 h4 h5)
theorem J_bipush (X : Cx Γ Δ A l0 cc own nL R0 ret nm) {n : Int} {v : Int32} (hd : decode cc pc = .ok (.bipush n, 2)) (hv : (Int8.ofInt n).toInt32 = v) (k : J Γ Δ A nL w cells slots Q (pc + 2) L (.int v :: st)) : J Γ Δ A nL w cells slots Q (pc) L (st) := by
  obtain ⟨p, l, e, R, s, m, args, below, meth, c⟩ := Γ
  obtain ⟨hl, hR, hx, hb, hown, hml, hts, hK, hA, -⟩ := X
  exact fun H locs ws ls h1 h2 h3 h4 h5 => lv_bipush hx hb hd hv (k H locs ws ls h1 h2 h3 h4 h5)
theorem J_sipush (X : Cx Γ Δ A l0 cc own nL R0 ret nm) {n : Int} {v : Int32} (hd : decode cc pc = .ok (.sipush n, 3)) (hv : (Int16.ofInt n).toInt32 = v) (k : J Γ Δ A nL w cells slots Q (pc + 3) L (.int v :: st)) : J Γ Δ A nL w cells slots Q (pc) L (st) := by
  obtain ⟨p, l, e, R, s, m, args, below, meth, c⟩ := Γ
  obtain ⟨hl, hR, hx, hb, hown, hml, hts, hK, hA, -⟩ := X
  exact fun H locs ws ls h1 h2 h3 h4 h5 => lv_sipush hx hb hd hv (k H locs ws ls h1 h2 h3 h4 h5)
theorem J_null (X : Cx Γ Δ A l0 cc own nL R0 ret nm)  (hd : decode cc pc = .ok (.aconst_null, 1))  (k : J Γ Δ A nL w cells slots Q (pc + 1) L (.null :: st)) : J Γ Δ A nL w cells slots Q (pc) L (st) := by
  obtain ⟨p, l, e, R, s, m, args, below, meth, c⟩ := Γ
  obtain ⟨hl, hR, hx, hb, hown, hml, hts, hK, hA, -⟩ := X
  exact fun H locs ws ls h1 h2 h3 h4 h5 => lv_null hx hb hd (k H locs ws ls h1 h2 h3 h4 h5)
theorem J_iload_n (X : Cx Γ Δ A l0 cc own nL R0 ret nm) {k0 : Fin 4} {i : Nat} {x : Int32} (hd : decode cc pc = .ok (.iload_n k0, 1)) (hi : (k0 : Nat) = i) (hL : L[i]? = some (some (.int x))) (k : J Γ Δ A nL w cells slots Q (pc + 1) L (.int x :: st)) : J Γ Δ A nL w cells slots Q (pc) L (st) := by
  obtain ⟨p, l, e, R, s, m, args, below, meth, c⟩ := Γ
  obtain ⟨hl, hR, hx, hb, hown, hml, hts, hK, hA, -⟩ := X
  exact fun H locs ws ls h1 h2 h3 h4 h5 => lv_iload_n hx hb hd hi (h5.2.2 i _ hL) (k H locs ws ls h1 h2 h3 h4 h5)
theorem J_iload (X : Cx Γ Δ A l0 cc own nL R0 ret nm) {i : Nat} {x : Int32} (hd : decode cc pc = .ok (.iload i, 2)) (hL : L[i]? = some (some (.int x))) (k : J Γ Δ A nL w cells slots Q (pc + 2) L (.int x :: st)) : J Γ Δ A nL w cells slots Q (pc) L (st) := by
  obtain ⟨p, l, e, R, s, m, args, below, meth, c⟩ := Γ
  obtain ⟨hl, hR, hx, hb, hown, hml, hts, hK, hA, -⟩ := X
  exact fun H locs ws ls h1 h2 h3 h4 h5 => lv_iload hx hb hd (h5.2.2 i _ hL) (k H locs ws ls h1 h2 h3 h4 h5)
theorem J_iadd (X : Cx Γ Δ A l0 cc own nL R0 ret nm) {x y : Int32} (hd : decode cc pc = .ok (.iadd, 1))  (k : J Γ Δ A nL w cells slots Q (pc + 1) L (.int (x + y) :: st)) : J Γ Δ A nL w cells slots Q (pc) L (.int y :: .int x :: st) := by
  obtain ⟨p, l, e, R, s, m, args, below, meth, c⟩ := Γ
  obtain ⟨hl, hR, hx, hb, hown, hml, hts, hK, hA, -⟩ := X
  exact fun H locs ws ls h1 h2 h3 h4 h5 => lv_iadd hx hb hd (k H locs ws ls h1 h2 h3 h4 h5)
theorem J_isub (X : Cx Γ Δ A l0 cc own nL R0 ret nm) {x y : Int32} (hd : decode cc pc = .ok (.isub, 1))  (k : J Γ Δ A nL w cells slots Q (pc + 1) L (.int (x - y) :: st)) : J Γ Δ A nL w cells slots Q (pc) L (.int y :: .int x :: st) := by
  obtain ⟨p, l, e, R, s, m, args, below, meth, c⟩ := Γ
  obtain ⟨hl, hR, hx, hb, hown, hml, hts, hK, hA, -⟩ := X
  exact fun H locs ws ls h1 h2 h3 h4 h5 => lv_isub hx hb hd (k H locs ws ls h1 h2 h3 h4 h5)
theorem J_imul (X : Cx Γ Δ A l0 cc own nL R0 ret nm) {x y : Int32} (hd : decode cc pc = .ok (.imul, 1))  (k : J Γ Δ A nL w cells slots Q (pc + 1) L (.int (x * y) :: st)) : J Γ Δ A nL w cells slots Q (pc) L (.int y :: .int x :: st) := by
  obtain ⟨p, l, e, R, s, m, args, below, meth, c⟩ := Γ
  obtain ⟨hl, hR, hx, hb, hown, hml, hts, hK, hA, -⟩ := X
  exact fun H locs ws ls h1 h2 h3 h4 h5 => lv_imul hx hb hd (k H locs ws ls h1 h2 h3 h4 h5)
theorem J_iand (X : Cx Γ Δ A l0 cc own nL R0 ret nm) {x y : Int32} (hd : decode cc pc = .ok (.iand, 1))  (k : J Γ Δ A nL w cells slots Q (pc + 1) L (.int (x &&& y) :: st)) : J Γ Δ A nL w cells slots Q (pc) L (.int y :: .int x :: st) := by
  obtain ⟨p, l, e, R, s, m, args, below, meth, c⟩ := Γ
  obtain ⟨hl, hR, hx, hb, hown, hml, hts, hK, hA, -⟩ := X
  exact fun H locs ws ls h1 h2 h3 h4 h5 => lv_iand hx hb hd (k H locs ws ls h1 h2 h3 h4 h5)
theorem J_ior (X : Cx Γ Δ A l0 cc own nL R0 ret nm) {x y : Int32} (hd : decode cc pc = .ok (.ior, 1))  (k : J Γ Δ A nL w cells slots Q (pc + 1) L (.int (x ||| y) :: st)) : J Γ Δ A nL w cells slots Q (pc) L (.int y :: .int x :: st) := by
  obtain ⟨p, l, e, R, s, m, args, below, meth, c⟩ := Γ
  obtain ⟨hl, hR, hx, hb, hown, hml, hts, hK, hA, -⟩ := X
  exact fun H locs ws ls h1 h2 h3 h4 h5 => lv_ior hx hb hd (k H locs ws ls h1 h2 h3 h4 h5)
theorem J_ineg (X : Cx Γ Δ A l0 cc own nL R0 ret nm) {x : Int32} (hd : decode cc pc = .ok (.ineg, 1))  (k : J Γ Δ A nL w cells slots Q (pc + 1) L (.int (-x) :: st)) : J Γ Δ A nL w cells slots Q (pc) L (.int x :: st) := by
  obtain ⟨p, l, e, R, s, m, args, below, meth, c⟩ := Γ
  obtain ⟨hl, hR, hx, hb, hown, hml, hts, hK, hA, -⟩ := X
  exact fun H locs ws ls h1 h2 h3 h4 h5 => lv_ineg hx hb hd (k H locs ws ls h1 h2 h3 h4 h5)
theorem J_ishl (X : Cx Γ Δ A l0 cc own nL R0 ret nm) {x y : Int32} (hd : decode cc pc = .ok (.ishl, 1))  (k : J Γ Δ A nL w cells slots Q (pc + 1) L (.int (x <<< (y &&& 31)) :: st)) : J Γ Δ A nL w cells slots Q (pc) L (.int y :: .int x :: st) := by
  obtain ⟨p, l, e, R, s, m, args, below, meth, c⟩ := Γ
  obtain ⟨hl, hR, hx, hb, hown, hml, hts, hK, hA, -⟩ := X
  exact fun H locs ws ls h1 h2 h3 h4 h5 => lv_ishl hx hb hd (k H locs ws ls h1 h2 h3 h4 h5)
theorem J_i2l (X : Cx Γ Δ A l0 cc own nL R0 ret nm) {x : Int32} (hd : decode cc pc = .ok (.i2l, 1))  (k : J Γ Δ A nL w cells slots Q (pc + 1) L (.long x.toInt64 :: st)) : J Γ Δ A nL w cells slots Q (pc) L (.int x :: st) := by
  obtain ⟨p, l, e, R, s, m, args, below, meth, c⟩ := Γ
  obtain ⟨hl, hR, hx, hb, hown, hml, hts, hK, hA, -⟩ := X
  exact fun H locs ws ls h1 h2 h3 h4 h5 => lv_i2l hx hb hd rfl (k H locs ws ls h1 h2 h3 h4 h5)
theorem J_lload_n (X : Cx Γ Δ A l0 cc own nL R0 ret nm) {k0 : Fin 4} {i : Nat} {x : Int64} (hd : decode cc pc = .ok (.lload_n k0, 1)) (hi : (k0 : Nat) = i) (hL : L[i]? = some (some (.long x))) (k : J Γ Δ A nL w cells slots Q (pc + 1) L (.long x :: st)) : J Γ Δ A nL w cells slots Q (pc) L (st) := by
  obtain ⟨p, l, e, R, s, m, args, below, meth, c⟩ := Γ
  obtain ⟨hl, hR, hx, hb, hown, hml, hts, hK, hA, -⟩ := X
  exact fun H locs ws ls h1 h2 h3 h4 h5 => lv_lload_n hx hb hd hi (h5.2.2 i _ hL) (k H locs ws ls h1 h2 h3 h4 h5)
theorem J_ladd (X : Cx Γ Δ A l0 cc own nL R0 ret nm) {x y : Int64} (hd : decode cc pc = .ok (.ladd, 1))  (k : J Γ Δ A nL w cells slots Q (pc + 1) L (.long (x + y) :: st)) : J Γ Δ A nL w cells slots Q (pc) L (.long y :: .long x :: st) := by
  obtain ⟨p, l, e, R, s, m, args, below, meth, c⟩ := Γ
  obtain ⟨hl, hR, hx, hb, hown, hml, hts, hK, hA, -⟩ := X
  exact fun H locs ws ls h1 h2 h3 h4 h5 => lv_ladd hx hb hd (k H locs ws ls h1 h2 h3 h4 h5)
theorem J_lsub (X : Cx Γ Δ A l0 cc own nL R0 ret nm) {x y : Int64} (hd : decode cc pc = .ok (.lsub, 1))  (k : J Γ Δ A nL w cells slots Q (pc + 1) L (.long (x - y) :: st)) : J Γ Δ A nL w cells slots Q (pc) L (.long y :: .long x :: st) := by
  obtain ⟨p, l, e, R, s, m, args, below, meth, c⟩ := Γ
  obtain ⟨hl, hR, hx, hb, hown, hml, hts, hK, hA, -⟩ := X
  exact fun H locs ws ls h1 h2 h3 h4 h5 => lv_lsub hx hb hd (k H locs ws ls h1 h2 h3 h4 h5)
theorem J_l2i (X : Cx Γ Δ A l0 cc own nL R0 ret nm) {x : Int64} (hd : decode cc pc = .ok (.l2i, 1))  (k : J Γ Δ A nL w cells slots Q (pc + 1) L (.int x.toInt32 :: st)) : J Γ Δ A nL w cells slots Q (pc) L (.long x :: st) := by
  obtain ⟨p, l, e, R, s, m, args, below, meth, c⟩ := Γ
  obtain ⟨hl, hR, hx, hb, hown, hml, hts, hK, hA, -⟩ := X
  exact fun H locs ws ls h1 h2 h3 h4 h5 => lv_l2i hx hb hd rfl (k H locs ws ls h1 h2 h3 h4 h5)
theorem J_dup2 (X : Cx Γ Δ A l0 cc own nL R0 ret nm) {v u : Value} (hd : decode cc pc = .ok (.dup2, 1)) (hv : v.category = 1) (hu : u.category = 1) (k : J Γ Δ A nL w cells slots Q (pc + 1) L (v :: u :: v :: u :: st)) : J Γ Δ A nL w cells slots Q (pc) L (v :: u :: st) := by
  obtain ⟨p, l, e, R, s, m, args, below, meth, c⟩ := Γ
  obtain ⟨hl, hR, hx, hb, hown, hml, hts, hK, hA, -⟩ := X
  exact fun H locs ws ls h1 h2 h3 h4 h5 => lv_dup2_11 hx hb hd hv hu (k H locs ws ls h1 h2 h3 h4 h5)
theorem J_lcmp (X : Cx Γ Δ A l0 cc own nL R0 ret nm) {x y : Int64} (hd : decode cc pc = .ok (.lcmp, 1))  (k : J Γ Δ A nL w cells slots Q (pc + 1) L (.int (lg_cmp x y) :: st)) : J Γ Δ A nL w cells slots Q (pc) L (.long y :: .long x :: st) := by
  obtain ⟨p, l, e, R, s, m, args, below, meth, c⟩ := Γ
  obtain ⟨hl, hR, hx, hb, hown, hml, hts, hK, hA, -⟩ := X
  exact fun H locs ws ls h1 h2 h3 h4 h5 => W.lcmp hx hb hd (k H locs ws ls h1 h2 h3 h4 h5)
theorem J_dup (X : Cx Γ Δ A l0 cc own nL R0 ret nm) {v : Value} (hd : decode cc pc = .ok (.dup, 1)) (hv : v.category = 1) (k : J Γ Δ A nL w cells slots Q (pc + 1) L (v :: v :: st)) : J Γ Δ A nL w cells slots Q (pc) L (v :: st) := by
  obtain ⟨p, l, e, R, s, m, args, below, meth, c⟩ := Γ
  obtain ⟨hl, hR, hx, hb, hown, hml, hts, hK, hA, -⟩ := X
  exact fun H locs ws ls h1 h2 h3 h4 h5 => lv_dup hx hb hd hv (k H locs ws ls h1 h2 h3 h4 h5)
theorem J_pop (X : Cx Γ Δ A l0 cc own nL R0 ret nm) {v : Value} (hd : decode cc pc = .ok (.pop, 1)) (hv : v.category = 1) (k : J Γ Δ A nL w cells slots Q (pc + 1) L (st)) : J Γ Δ A nL w cells slots Q (pc) L (v :: st) := by
  obtain ⟨p, l, e, R, s, m, args, below, meth, c⟩ := Γ
  obtain ⟨hl, hR, hx, hb, hown, hml, hts, hK, hA, -⟩ := X
  exact fun H locs ws ls h1 h2 h3 h4 h5 => lv_pop hx hb hd hv (k H locs ws ls h1 h2 h3 h4 h5)
theorem J_dup_x1 (X : Cx Γ Δ A l0 cc own nL R0 ret nm) {v u : Value} (hd : decode cc pc = .ok (.dup_x1, 1)) (hv : v.category = 1) (hu : u.category = 1) (k : J Γ Δ A nL w cells slots Q (pc + 1) L (v :: u :: v :: st)) : J Γ Δ A nL w cells slots Q (pc) L (v :: u :: st) := by
  obtain ⟨p, l, e, R, s, m, args, below, meth, c⟩ := Γ
  obtain ⟨hl, hR, hx, hb, hown, hml, hts, hK, hA, -⟩ := X
  exact fun H locs ws ls h1 h2 h3 h4 h5 => lv_dup_x1 hx hb hd hv hu (k H locs ws ls h1 h2 h3 h4 h5)
theorem J_aload_n (X : Cx Γ Δ A l0 cc own nL R0 ret nm) {k0 : Fin 4} {i : Nat} {o : Option Nat} (hd : decode cc pc = .ok (.aload_n k0, 1)) (hi : (k0 : Nat) = i) (hL : L[i]? = some (some (va_rf o))) (k : J Γ Δ A nL w cells slots Q (pc + 1) L (va_rf o :: st)) : J Γ Δ A nL w cells slots Q (pc) L (st) := by
  obtain ⟨p, l, e, R, s, m, args, below, meth, c⟩ := Γ
  obtain ⟨hl, hR, hx, hb, hown, hml, hts, hK, hA, -⟩ := X
  intro H locs ws ls h1 h2 h3 h4 h5
  have hL' := (h5.2.2 i _ hL)
  have k' := k H locs ws ls h1 h2 h3 h4 h5
  cases o with
  | none => exact lv_aload_nN hx hb hd hi hL' k'
  | some y => exact lv_aload_n hx hb hd hi hL' k'
theorem J_aload (X : Cx Γ Δ A l0 cc own nL R0 ret nm) {i : Nat} {o : Option Nat} (hd : decode cc pc = .ok (.aload i, 2)) (hL : L[i]? = some (some (va_rf o))) (k : J Γ Δ A nL w cells slots Q (pc + 2) L (va_rf o :: st)) : J Γ Δ A nL w cells slots Q (pc) L (st) := by
  obtain ⟨p, l, e, R, s, m, args, below, meth, c⟩ := Γ
  obtain ⟨hl, hR, hx, hb, hown, hml, hts, hK, hA, -⟩ := X
  intro H locs ws ls h1 h2 h3 h4 h5
  have hL' := (h5.2.2 i _ hL)
  have k' := k H locs ws ls h1 h2 h3 h4 h5
  cases o with
  | none => exact lv_aloadN hx hb hd hL' k'
  | some y => exact lv_aload hx hb hd hL' k'
theorem J_istore_n (X : Cx Γ Δ A l0 cc own nL R0 ret nm) {k0 : Fin 4} {i : Nat} {x : Int32} (hd : decode cc pc = .ok (.istore_n k0, 1)) (hi : (k0 : Nat) = i) (hn : i < nL) {L' : List (Option Value)} (hL : L.set i (some (.int x)) = L') (k : J Γ Δ A nL w cells slots Q (pc + 1) L' (st)) (hk : lok L = true := by first | rfl | simp [lok, va_rf_cat, vc_r, vc_i, vc_0]) : J Γ Δ A nL w cells slots Q (pc) L (.int x :: st) := by
  obtain ⟨p, l, e, R, s, m, args, below, meth, c⟩ := Γ
  obtain ⟨hl, hR, hx, hb, hown, hml, hts, hK, hA, -⟩ := X
  intro H locs ws ls h1 h2 h3 h4 h5
  subst hL
  exact lv_istore_n hx hb hd hi h5.lv hn rfl (fun ls' h' => k H locs ws ls' h1 h2 h3 h4 (h5.put hk h'))
theorem J_istore (X : Cx Γ Δ A l0 cc own nL R0 ret nm) {i : Nat} {x : Int32} (hd : decode cc pc = .ok (.istore i, 2)) (hn : i < nL) {L' : List (Option Value)} (hL : L.set i (some (.int x)) = L') (k : J Γ Δ A nL w cells slots Q (pc + 2) L' (st)) (hk : lok L = true := by first | rfl | simp [lok, va_rf_cat, vc_r, vc_i, vc_0]) : J Γ Δ A nL w cells slots Q (pc) L (.int x :: st) := by
  obtain ⟨p, l, e, R, s, m, args, below, meth, c⟩ := Γ
  obtain ⟨hl, hR, hx, hb, hown, hml, hts, hK, hA, -⟩ := X
  intro H locs ws ls h1 h2 h3 h4 h5
  subst hL
  exact lv_istore hx hb hd h5.lv hn rfl (fun ls' h' => k H locs ws ls' h1 h2 h3 h4 (h5.put hk h'))
theorem J_astore_n (X : Cx Γ Δ A l0 cc own nL R0 ret nm) {k0 : Fin 4} {i : Nat} {o : Option Nat} (hd : decode cc pc = .ok (.astore_n k0, 1)) (hi : (k0 : Nat) = i) (hn : i < nL) {L' : List (Option Value)} (hL : L.set i (some (va_rf o)) = L') (k : J Γ Δ A nL w cells slots Q (pc + 1) L' (st)) (hk : lok L = true := by first | rfl | simp [lok, va_rf_cat, vc_r, vc_i, vc_0]) : J Γ Δ A nL w cells slots Q (pc) L (va_rf o :: st) := by
  obtain ⟨p, l, e, R, s, m, args, below, meth, c⟩ := Γ
  obtain ⟨hl, hR, hx, hb, hown, hml, hts, hK, hA, -⟩ := X
  intro H locs ws ls h1 h2 h3 h4 h5
  subst hL
  cases o with
  | none => exact lv_astore_nN hx hb hd hi h5.lv hn rfl (fun ls' h' => k H locs ws ls' h1 h2 h3 h4 (h5.put hk h'))
  | some y => exact lv_astore_n hx hb hd hi h5.lv hn rfl (fun ls' h' => k H locs ws ls' h1 h2 h3 h4 (h5.put hk h'))
theorem J_astore (X : Cx Γ Δ A l0 cc own nL R0 ret nm) {i : Nat} {o : Option Nat} (hd : decode cc pc = .ok (.astore i, 2)) (hn : i < nL) {L' : List (Option Value)} (hL : L.set i (some (va_rf o)) = L') (k : J Γ Δ A nL w cells slots Q (pc + 2) L' (st)) (hk : lok L = true := by first | rfl | simp [lok, va_rf_cat, vc_r, vc_i, vc_0]) : J Γ Δ A nL w cells slots Q (pc) L (va_rf o :: st) := by
  obtain ⟨p, l, e, R, s, m, args, below, meth, c⟩ := Γ
  obtain ⟨hl, hR, hx, hb, hown, hml, hts, hK, hA, -⟩ := X
  intro H locs ws ls h1 h2 h3 h4 h5
  subst hL
  cases o with
  | none => exact lv_astoreN hx hb hd h5.lv hn rfl (fun ls' h' => k H locs ws ls' h1 h2 h3 h4 (h5.put hk h'))
  | some y => exact lv_astore hx hb hd h5.lv hn rfl (fun ls' h' => k H locs ws ls' h1 h2 h3 h4 (h5.put hk h'))
theorem J_iinc (X : Cx Γ Δ A l0 cc own nL R0 ret nm) {i : Nat} {n : Int} {x : Int32} (hd : decode cc pc = .ok (.iinc i n, 3)) (hx0 : L[i]? = some (some (.int x))) (hn : i < nL) {v : Int32} (hv : x + Int32.ofInt n = v) {L' : List (Option Value)} (hL : L.set i (some (.int v)) = L') (k : J Γ Δ A nL w cells slots Q (pc + 3) L' (st)) (hk : lok L = true := by first | rfl | simp [lok, va_rf_cat, vc_r, vc_i, vc_0]) : J Γ Δ A nL w cells slots Q (pc) L (st) := by
  obtain ⟨p, l, e, R, s, m, args, below, meth, c⟩ := Γ
  obtain ⟨hl, hR, hx, hb, hown, hml, hts, hK, hA, -⟩ := X
  intro H locs ws ls h1 h2 h3 h4 h5
  subst hL
  obtain ⟨j, hj⟩ := h5.idx hx0
  exact lv_iinc hx hb hd h5.lv hj hv hn rfl (fun ls' h' => k H locs ws ls' h1 h2 h3 h4 (h5.put hk h'))
theorem J_if_eq (X : Cx Γ Δ A l0 cc own nL R0 ret nm) {x : Int32} {off : Int} {tgt : Nat} (hd : decode cc pc = .ok (.ifCond .eq off, 3)) (ht : (pc : Int) + off = (tgt : Int)) (kt : x = 0 → J Γ Δ A nL w cells slots Q (tgt) L (st)) (kf : ¬ x = 0 → J Γ Δ A nL w cells slots Q (pc + 3) L (st)) : J Γ Δ A nL w cells slots Q (pc) L (.int x :: st) := by
  obtain ⟨p, l, e, R, s, m, args, below, meth, c⟩ := Γ
  obtain ⟨hl, hR, hx, hb, hown, hml, hts, hK, hA, -⟩ := X
  exact fun H locs ws ls h1 h2 h3 h4 h5 => lv_if_eq hx hb hd ht (fun h => kt h H locs ws ls h1 h2 h3 h4 h5) (fun h => kf h H locs ws ls h1 h2 h3 h4 h5)
theorem J_if_ne (X : Cx Γ Δ A l0 cc own nL R0 ret nm) {x : Int32} {off : Int} {tgt : Nat} (hd : decode cc pc = .ok (.ifCond .ne off, 3)) (ht : (pc : Int) + off = (tgt : Int)) (kt : ¬ x = 0 → J Γ Δ A nL w cells slots Q (tgt) L (st)) (kf : x = 0 → J Γ Δ A nL w cells slots Q (pc + 3) L (st)) : J Γ Δ A nL w cells slots Q (pc) L (.int x :: st) := by
  obtain ⟨p, l, e, R, s, m, args, below, meth, c⟩ := Γ
  obtain ⟨hl, hR, hx, hb, hown, hml, hts, hK, hA, -⟩ := X
  exact fun H locs ws ls h1 h2 h3 h4 h5 => lv_if_ne hx hb hd ht (fun h => kt h H locs ws ls h1 h2 h3 h4 h5) (fun h => kf h H locs ws ls h1 h2 h3 h4 h5)
theorem J_if_lt (X : Cx Γ Δ A l0 cc own nL R0 ret nm) {x : Int32} {off : Int} {tgt : Nat} (hd : decode cc pc = .ok (.ifCond .lt off, 3)) (ht : (pc : Int) + off = (tgt : Int)) (kt : x < 0 → J Γ Δ A nL w cells slots Q (tgt) L (st)) (kf : ¬ x < 0 → J Γ Δ A nL w cells slots Q (pc + 3) L (st)) : J Γ Δ A nL w cells slots Q (pc) L (.int x :: st) := by
  obtain ⟨p, l, e, R, s, m, args, below, meth, c⟩ := Γ
  obtain ⟨hl, hR, hx, hb, hown, hml, hts, hK, hA, -⟩ := X
  exact fun H locs ws ls h1 h2 h3 h4 h5 => lv_if_lt hx hb hd ht (fun h => kt h H locs ws ls h1 h2 h3 h4 h5) (fun h => kf h H locs ws ls h1 h2 h3 h4 h5)
theorem J_if_ge (X : Cx Γ Δ A l0 cc own nL R0 ret nm) {x : Int32} {off : Int} {tgt : Nat} (hd : decode cc pc = .ok (.ifCond .ge off, 3)) (ht : (pc : Int) + off = (tgt : Int)) (kt : 0 ≤ x → J Γ Δ A nL w cells slots Q (tgt) L (st)) (kf : ¬ 0 ≤ x → J Γ Δ A nL w cells slots Q (pc + 3) L (st)) : J Γ Δ A nL w cells slots Q (pc) L (.int x :: st) := by
  obtain ⟨p, l, e, R, s, m, args, below, meth, c⟩ := Γ
  obtain ⟨hl, hR, hx, hb, hown, hml, hts, hK, hA, -⟩ := X
  exact fun H locs ws ls h1 h2 h3 h4 h5 => lv_if_ge hx hb hd ht (fun h => kt h H locs ws ls h1 h2 h3 h4 h5) (fun h => kf h H locs ws ls h1 h2 h3 h4 h5)
theorem J_if_gt (X : Cx Γ Δ A l0 cc own nL R0 ret nm) {x : Int32} {off : Int} {tgt : Nat} (hd : decode cc pc = .ok (.ifCond .gt off, 3)) (ht : (pc : Int) + off = (tgt : Int)) (kt : 0 < x → J Γ Δ A nL w cells slots Q (tgt) L (st)) (kf : ¬ 0 < x → J Γ Δ A nL w cells slots Q (pc + 3) L (st)) : J Γ Δ A nL w cells slots Q (pc) L (.int x :: st) := by
  obtain ⟨p, l, e, R, s, m, args, below, meth, c⟩ := Γ
  obtain ⟨hl, hR, hx, hb, hown, hml, hts, hK, hA, -⟩ := X
  exact fun H locs ws ls h1 h2 h3 h4 h5 => lv_if_gt hx hb hd ht (fun h => kt h H locs ws ls h1 h2 h3 h4 h5) (fun h => kf h H locs ws ls h1 h2 h3 h4 h5)
theorem J_if_le (X : Cx Γ Δ A l0 cc own nL R0 ret nm) {x : Int32} {off : Int} {tgt : Nat} (hd : decode cc pc = .ok (.ifCond .le off, 3)) (ht : (pc : Int) + off = (tgt : Int)) (kt : x ≤ 0 → J Γ Δ A nL w cells slots Q (tgt) L (st)) (kf : ¬ x ≤ 0 → J Γ Δ A nL w cells slots Q (pc + 3) L (st)) : J Γ Δ A nL w cells slots Q (pc) L (.int x :: st) := by
  obtain ⟨p, l, e, R, s, m, args, below, meth, c⟩ := Γ
  obtain ⟨hl, hR, hx, hb, hown, hml, hts, hK, hA, -⟩ := X
  exact fun H locs ws ls h1 h2 h3 h4 h5 => lv_if_le hx hb hd ht (fun h => kt h H locs ws ls h1 h2 h3 h4 h5) (fun h => kf h H locs ws ls h1 h2 h3 h4 h5)
theorem J_icmp_eq (X : Cx Γ Δ A l0 cc own nL R0 ret nm) {x y : Int32} {off : Int} {tgt : Nat} (hd : decode cc pc = .ok (.if_icmp .eq off, 3)) (ht : (pc : Int) + off = (tgt : Int)) (kt : x = y → J Γ Δ A nL w cells slots Q (tgt) L (st)) (kf : ¬ x = y → J Γ Δ A nL w cells slots Q (pc + 3) L (st)) : J Γ Δ A nL w cells slots Q (pc) L (.int y :: .int x :: st) := by
  obtain ⟨p, l, e, R, s, m, args, below, meth, c⟩ := Γ
  obtain ⟨hl, hR, hx, hb, hown, hml, hts, hK, hA, -⟩ := X
  exact fun H locs ws ls h1 h2 h3 h4 h5 => lv_icmp_eq hx hb hd ht (fun h => kt h H locs ws ls h1 h2 h3 h4 h5) (fun h => kf h H locs ws ls h1 h2 h3 h4 h5)
theorem J_icmp_ne (X : Cx Γ Δ A l0 cc own nL R0 ret nm) {x y : Int32} {off : Int} {tgt : Nat} (hd : decode cc pc = .ok (.if_icmp .ne off, 3)) (ht : (pc : Int) + off = (tgt : Int)) (kt : ¬ x = y → J Γ Δ A nL w cells slots Q (tgt) L (st)) (kf : x = y → J Γ Δ A nL w cells slots Q (pc + 3) L (st)) : J Γ Δ A nL w cells slots Q (pc) L (.int y :: .int x :: st) := by
  obtain ⟨p, l, e, R, s, m, args, below, meth, c⟩ := Γ
  obtain ⟨hl, hR, hx, hb, hown, hml, hts, hK, hA, -⟩ := X
  exact fun H locs ws ls h1 h2 h3 h4 h5 => lv_icmp_ne hx hb hd ht (fun h => kt h H locs ws ls h1 h2 h3 h4 h5) (fun h => kf h H locs ws ls h1 h2 h3 h4 h5)
theorem J_icmp_lt (X : Cx Γ Δ A l0 cc own nL R0 ret nm) {x y : Int32} {off : Int} {tgt : Nat} (hd : decode cc pc = .ok (.if_icmp .lt off, 3)) (ht : (pc : Int) + off = (tgt : Int)) (kt : x < y → J Γ Δ A nL w cells slots Q (tgt) L (st)) (kf : ¬ x < y → J Γ Δ A nL w cells slots Q (pc + 3) L (st)) : J Γ Δ A nL w cells slots Q (pc) L (.int y :: .int x :: st) := by
  obtain ⟨p, l, e, R, s, m, args, below, meth, c⟩ := Γ
  obtain ⟨hl, hR, hx, hb, hown, hml, hts, hK, hA, -⟩ := X
  exact fun H locs ws ls h1 h2 h3 h4 h5 => lv_icmp_lt hx hb hd ht (fun h => kt h H locs ws ls h1 h2 h3 h4 h5) (fun h => kf h H locs ws ls h1 h2 h3 h4 h5)
theorem J_icmp_ge (X : Cx Γ Δ A l0 cc own nL R0 ret nm) {x y : Int32} {off : Int} {tgt : Nat} (hd : decode cc pc = .ok (.if_icmp .ge off, 3)) (ht : (pc : Int) + off = (tgt : Int)) (kt : y ≤ x → J Γ Δ A nL w cells slots Q (tgt) L (st)) (kf : ¬ y ≤ x → J Γ Δ A nL w cells slots Q (pc + 3) L (st)) : J Γ Δ A nL w cells slots Q (pc) L (.int y :: .int x :: st) := by
  obtain ⟨p, l, e, R, s, m, args, below, meth, c⟩ := Γ
  obtain ⟨hl, hR, hx, hb, hown, hml, hts, hK, hA, -⟩ := X
  exact fun H locs ws ls h1 h2 h3 h4 h5 => lv_icmp_ge hx hb hd ht (fun h => kt h H locs ws ls h1 h2 h3 h4 h5) (fun h => kf h H locs ws ls h1 h2 h3 h4 h5)
theorem J_icmp_gt (X : Cx Γ Δ A l0 cc own nL R0 ret nm) {x y : Int32} {off : Int} {tgt : Nat} (hd : decode cc pc = .ok (.if_icmp .gt off, 3)) (ht : (pc : Int) + off = (tgt : Int)) (kt : y < x → J Γ Δ A nL w cells slots Q (tgt) L (st)) (kf : ¬ y < x → J Γ Δ A nL w cells slots Q (pc + 3) L (st)) : J Γ Δ A nL w cells slots Q (pc) L (.int y :: .int x :: st) := by
  obtain ⟨p, l, e, R, s, m, args, below, meth, c⟩ := Γ
  obtain ⟨hl, hR, hx, hb, hown, hml, hts, hK, hA, -⟩ := X
  exact fun H locs ws ls h1 h2 h3 h4 h5 => lv_icmp_gt hx hb hd ht (fun h => kt h H locs ws ls h1 h2 h3 h4 h5) (fun h => kf h H locs ws ls h1 h2 h3 h4 h5)
theorem J_icmp_le (X : Cx Γ Δ A l0 cc own nL R0 ret nm) {x y : Int32} {off : Int} {tgt : Nat} (hd : decode cc pc = .ok (.if_icmp .le off, 3)) (ht : (pc : Int) + off = (tgt : Int)) (kt : x ≤ y → J Γ Δ A nL w cells slots Q (tgt) L (st)) (kf : ¬ x ≤ y → J Γ Δ A nL w cells slots Q (pc + 3) L (st)) : J Γ Δ A nL w cells slots Q (pc) L (.int y :: .int x :: st) := by
  obtain ⟨p, l, e, R, s, m, args, below, meth, c⟩ := Γ
  obtain ⟨hl, hR, hx, hb, hown, hml, hts, hK, hA, -⟩ := X
  exact fun H locs ws ls h1 h2 h3 h4 h5 => lv_icmp_le hx hb hd ht (fun h => kt h H locs ws ls h1 h2 h3 h4 h5) (fun h => kf h H locs ws ls h1 h2 h3 h4 h5)
theorem J_acmp_eq (X : Cx Γ Δ A l0 cc own nL R0 ret nm) {rx ry : Option Nat} {off : Int} {tgt : Nat} (hd : decode cc pc = .ok (.if_acmp .eq off, 3)) (ht : (pc : Int) + off = (tgt : Int)) (kt : rx = ry → J Γ Δ A nL w cells slots Q (tgt) L (st)) (kf : ¬ rx = ry → J Γ Δ A nL w cells slots Q (pc + 3) L (st)) : J Γ Δ A nL w cells slots Q (pc) L (va_rf ry :: va_rf rx :: st) := by
  obtain ⟨p, l, e, R, s, m, args, below, meth, c⟩ := Γ
  obtain ⟨hl, hR, hx, hb, hown, hml, hts, hK, hA, -⟩ := X
  exact fun H locs ws ls h1 h2 h3 h4 h5 => lv_acmp_eq hx hb hd ht (fun h => kt h H locs ws ls h1 h2 h3 h4 h5) (fun h => kf h H locs ws ls h1 h2 h3 h4 h5)
theorem J_acmp_ne (X : Cx Γ Δ A l0 cc own nL R0 ret nm) {rx ry : Option Nat} {off : Int} {tgt : Nat} (hd : decode cc pc = .ok (.if_acmp .ne off, 3)) (ht : (pc : Int) + off = (tgt : Int)) (kt : ¬ rx = ry → J Γ Δ A nL w cells slots Q (tgt) L (st)) (kf : rx = ry → J Γ Δ A nL w cells slots Q (pc + 3) L (st)) : J Γ Δ A nL w cells slots Q (pc) L (va_rf ry :: va_rf rx :: st) := by
  obtain ⟨p, l, e, R, s, m, args, below, meth, c⟩ := Γ
  obtain ⟨hl, hR, hx, hb, hown, hml, hts, hK, hA, -⟩ := X
  exact fun H locs ws ls h1 h2 h3 h4 h5 => lv_acmp_ne hx hb hd ht (fun h => kt h H locs ws ls h1 h2 h3 h4 h5) (fun h => kf h H locs ws ls h1 h2 h3 h4 h5)
theorem J_ifnull (X : Cx Γ Δ A l0 cc own nL R0 ret nm) {o : Option Nat} {off : Int} {tgt : Nat} (hd : decode cc pc = .ok (.ifnull off, 3)) (ht : (pc : Int) + off = (tgt : Int)) (kt : o = none → J Γ Δ A nL w cells slots Q (tgt) L (st)) (kf : ∀ y : Nat, o = some y → J Γ Δ A nL w cells slots Q (pc + 3) L (st)) : J Γ Δ A nL w cells slots Q (pc) L (va_rf o :: st) := by
  obtain ⟨p, l, e, R, s, m, args, below, meth, c⟩ := Γ
  obtain ⟨hl, hR, hx, hb, hown, hml, hts, hK, hA, -⟩ := X
  intro H locs ws ls h1 h2 h3 h4 h5
  cases o with
  | none => exact lv_ifnullN hx hb hd ht ((kt rfl) H locs ws ls h1 h2 h3 h4 h5)
  | some y => exact lv_ifnull hx hb hd ((kf y rfl) H locs ws ls h1 h2 h3 h4 h5)
theorem J_ifnonnull (X : Cx Γ Δ A l0 cc own nL R0 ret nm) {o : Option Nat} {off : Int} {tgt : Nat} (hd : decode cc pc = .ok (.ifnonnull off, 3)) (ht : (pc : Int) + off = (tgt : Int)) (kt : ∀ y : Nat, o = some y → J Γ Δ A nL w cells slots Q (tgt) L (st)) (kf : o = none → J Γ Δ A nL w cells slots Q (pc + 3) L (st)) : J Γ Δ A nL w cells slots Q (pc) L (va_rf o :: st) := by
  obtain ⟨p, l, e, R, s, m, args, below, meth, c⟩ := Γ
  obtain ⟨hl, hR, hx, hb, hown, hml, hts, hK, hA, -⟩ := X
  intro H locs ws ls h1 h2 h3 h4 h5
  cases o with
  | none => exact lv_ifnonnullN hx hb hd ((kf rfl) H locs ws ls h1 h2 h3 h4 h5)
  | some y => exact lv_ifnonnull hx hb hd ht ((kt y rfl) H locs ws ls h1 h2 h3 h4 h5)
theorem J_goto (X : Cx Γ Δ A l0 cc own nL R0 ret nm) {off : Int} {tgt : Nat} (hd : decode cc pc = .ok (.goto off, 3)) (ht : (pc : Int) + off = (tgt : Int)) (k : J Γ Δ A nL w cells slots Q (tgt) L (st)) : J Γ Δ A nL w cells slots Q (pc) L (st) := by
  obtain ⟨p, l, e, R, s, m, args, below, meth, c⟩ := Γ
  obtain ⟨hl, hR, hx, hb, hown, hml, hts, hK, hA, -⟩ := X
  exact fun H locs ws ls h1 h2 h3 h4 h5 => lv_goto hx hb hd ht (k H locs ws ls h1 h2 h3 h4 h5)
theorem J_tableIn (X : Cx Γ Δ A l0 cc own nL R0 ret nm) {dflt lo hi : Int} {offs : Array Int} {len : Nat} {x : Int32} {off : Int} {tgt : Nat} (hd : decode cc pc = .ok (.tableswitch dflt lo hi offs, len)) (g1 : ¬ x.toInt < lo) (g2 : ¬ hi < x.toInt) (ho : offs[(x.toInt - lo).toNat]? = some off) (ht : (pc : Int) + off = (tgt : Int)) (k : J Γ Δ A nL w cells slots Q (tgt) L (st)) : J Γ Δ A nL w cells slots Q (pc) L (.int x :: st) := by
  obtain ⟨p, l, e, R, s, m, args, below, meth, c⟩ := Γ
  obtain ⟨hl, hR, hx, hb, hown, hml, hts, hK, hA, -⟩ := X
  exact fun H locs ws ls h1 h2 h3 h4 h5 => lv_tableIn hx hb hd g1 g2 ho ht (k H locs ws ls h1 h2 h3 h4 h5)
theorem J_tableOut (X : Cx Γ Δ A l0 cc own nL R0 ret nm) {dflt lo hi : Int} {offs : Array Int} {len : Nat} {x : Int32} {tgt : Nat} (hd : decode cc pc = .ok (.tableswitch dflt lo hi offs, len)) (g1 : x.toInt < lo ∨ hi < x.toInt) (ht : (pc : Int) + dflt = (tgt : Int)) (k : J Γ Δ A nL w cells slots Q (tgt) L (st)) : J Γ Δ A nL w cells slots Q (pc) L (.int x :: st) := by
  obtain ⟨p, l, e, R, s, m, args, below, meth, c⟩ := Γ
  obtain ⟨hl, hR, hx, hb, hown, hml, hts, hK, hA, -⟩ := X
  exact fun H locs ws ls h1 h2 h3 h4 h5 => lv_tableOut hx hb hd g1 ht (k H locs ws ls h1 h2 h3 h4 h5)
theorem J_ldc (X : Cx Γ Δ A l0 cc own nL R0 ret nm) {idx : Nat} {v : Int32} (hd : decode cc pc = .ok (.ldc idx, 2)) (hc : Cond.constant own idx v ∈ TT) (k : J Γ Δ A nL w cells slots Q (pc + 2) L (.int v :: st)) : J Γ Δ A nL w cells slots Q (pc) L (st) := by
  obtain ⟨p, l, e, R, s, m, args, below, meth, c⟩ := Γ
  obtain ⟨hl, hR, hx, hb, hown, hml, hts, hK, hA, -⟩ := X
  exact fun H locs ws ls h1 h2 h3 h4 h5 => lv_ldc hx hb hown (hts _ hc) hd (k H locs ws ls h1 h2 h3 h4 h5)
theorem J_ldc2 (X : Cx Γ Δ A l0 cc own nL R0 ret nm) {idx : Nat} {v : Int64} (hd : decode cc pc = .ok (.ldc2_w idx, 3)) (hc : Cond.constantLong own idx v ∈ TT) (k : J Γ Δ A nL w cells slots Q (pc + 3) L (.long v :: st)) : J Γ Δ A nL w cells slots Q (pc) L (st) := by
  obtain ⟨p, l, e, R, s, m, args, below, meth, c⟩ := Γ
  obtain ⟨hl, hR, hx, hb, hown, hml, hts, hK, hA, -⟩ := X
  exact fun H locs ws ls h1 h2 h3 h4 h5 => lv_ldc2 hx hb hown (hts _ hc) hd (k H locs ws ls h1 h2 h3 h4 h5)
theorem J_widen {c2 s2 : Nat} (hc : cells ≤ c2) (hs : slots ≤ s2) (k : J Γ Δ A nL w c2 s2 Q pc L st) : J Γ Δ A nL w cells slots Q (pc) L (st) := by
  obtain ⟨p, l, e, R, s, m, args, below, meth, c⟩ := Γ
  exact fun H locs ws ls h1 h2 h3 h4 h5 => W.widen hc hs (k H locs ws ls h1 h2 h3 h4 h5)
theorem J_eq {w' : Wd} {st' : List Value} (hw : w = w') (hs : st = st') (k : J Γ Δ A nL w' cells slots Q pc L st') : J Γ Δ A nL w cells slots Q (pc) L (st) := by
  subst hw; subst hs; exact k
theorem J_top {v v' : Value} (hs : v = v') (k : J Γ Δ A nL w cells slots Q (pc) L (v' :: st)) : J Γ Δ A nL w cells slots Q (pc) L (v :: st) := by
  subst hs; exact k
theorem J_loc {L' : List (Option Value)} (hs : ∀ (i : Nat) (v : Value), L'[i]? = some (some v) → L[i]? = some (some v)) (k : J Γ Δ A nL w cells slots Q pc L' st) : J Γ Δ A nL w cells slots Q (pc) L (st) := by
  obtain ⟨p, l, e, R, s, m, args, below, meth, c⟩ := Γ
  exact fun H locs ws ls h1 h2 h3 h4 h5 => k H locs ws ls h1 h2 h3 h4 (h5.mono hs)
end JR
end
section
/-! ===== fields ===== -/
theorem map_set {α : Type} {N k : Nat} {f g : Nat → α} {v : α} (hk : g k = v) (ho : ∀ j, j ≠ k → g j = f j) : ((List.range N).map f).set k v = (List.range N).map g := by
  apply List.ext_getElem?
  intro j
  by_cases e : k = j
  · subst e
    by_cases h : k < N
    · rw [List.getElem?_set_self (by simpa using h), List.getElem?_map, List.getElem?_range h]
      simp [hk]
    · rw [List.getElem?_eq_none (by simpa using Nat.le_of_not_lt h), List.getElem?_eq_none (by simpa using Nat.le_of_not_lt h)]
  · rw [List.getElem?_set_ne e, List.getElem?_map, List.getElem?_map]
    by_cases h : j < N
    · rw [List.getElem?_range h]
      simp [ho j (fun q => e q.symm)]
    · rw [List.getElem?_eq_none (by simpa using Nat.le_of_not_lt h)]
      rfl
theorem ent_i {cA : Nat → ClassId} {w : Wd} {a t n : Nat} (h : tyK t = 0) : ent cA w a (.inr (t, n)) = .inl (cA t, n, .inl (wI w a)) := by simp [ent, h]
theorem ent_q {cA : Nat → ClassId} {w : Wd} {a t n : Nat} (h : tyK t = 1) : ent cA w a (.inr (t, n)) = .inl (cA t, n, .inr (.inr (.inr (.inr (wP w a))))) := by simp [ent, h]
theorem ent_l {cA : Nat → ClassId} {w : Wd} {a t n : Nat} (h : tyK t = 2) : ent cA w a (.inr (t, n)) = .inl (cA t, n, .inr (.inl (wL w a))) := by simp [ent, h]
theorem ent_oI {cA : Nat → ClassId} {w : Wd} {a k : Nat} {x : Int32} : ∀ b, b ≠ a → ∀ d', ent cA (uI w a k x) b d' = ent cA w b d' := by
  intro b hb d'
  have f1 : wI (uI w a k x) b = wI w b := by funext j; rw [wI_uI, if_neg (fun q => hb q.1)]
  cases d' with
  | inl ci =>
    have : fV (uI w a k x) b ci = fV w b ci := by funext k'; simp only [fV, f1, wP_uI]
    simp only [ent, this]
  | inr tn =>
    have f2 : wP (uI w a k x) b = wP w b := rfl
    have f3 : wL (uI w a k x) b = wL w b := rfl
    simp only [ent, f1, f2, f3]
theorem ent_oP {cA : Nat → ClassId} {w : Wd} {a k : Nat} {x : Option Nat} : ∀ b, b ≠ a → ∀ d', ent cA (uP w a k x) b d' = ent cA w b d' := by
  intro b hb d'
  have f1 : wP (uP w a k x) b = wP w b := by funext j; rw [wP_uP, if_neg (fun q => hb q.1)]
  cases d' with
  | inl ci =>
    have : fV (uP w a k x) b ci = fV w b ci := by funext k'; simp only [fV, f1, wI_uP]
    simp only [ent, this]
  | inr tn =>
    have f2 : wI (uP w a k x) b = wI w b := rfl
    have f3 : wL (uP w a k x) b = wL w b := rfl
    simp only [ent, f1, f2, f3]
theorem ent_oL {cA : Nat → ClassId} {w : Wd} {a k : Nat} {x : Int64} : ∀ b, b ≠ a → ∀ d', ent cA (uL w a k x) b d' = ent cA w b d' := by
  intro b hb d'
  have f1 : wL (uL w a k x) b = wL w b := by funext j; rw [wL_uL, if_neg (fun q => hb q.1)]
  cases d' with
  | inl ci =>
    have : fV (uL w a k x) b ci = fV w b ci := by funext k'; simp only [fV, wP_uL, wI_uL]
    simp only [ent, this]
  | inr tn =>
    have f2 : wI (uL w a k x) b = wI w b := rfl
    have f3 : wP (uL w a k x) b = wP w b := rfl
    simp only [ent, f1, f2, f3]
/-- a field's access by a place of the pool -/
def FA (own : String) (idx ci k : Nat) : Prop := ∃ (C : String) (T : u_T) (N : Nat), vwCl[ci]? = some (C, T, N) ∧ N = nF ci ∧ k < N ∧ (∀ x ∈ u_ws C T N, x ∈ TT) ∧ (Cond.fieldLink own idx (T k).1 (T k).2.1 (T k).2.2.1 ∈ TT ∨ ∃ host, Cond.fieldLinkNest own idx (T k).1 (T k).2.1 (T k).2.2.1 host ∈ TT)
/-- a field's write by a place of the pool -/
def FP (own : String) (idx ci k : Nat) (ty : FieldType) : Prop := ∃ (C : String) (T : u_T) (N : Nat) (ty0 : Nat → FieldType), vwCl[ci]? = some (C, T, N) ∧ N = nF ci ∧ k < N ∧ (∀ x ∈ u_ws C T N, x ∈ TT) ∧ (∀ k, k < N → parseFieldDescriptor (T k).2.2.1 = some (ty0 k)) ∧ (∀ a, a < N → ∀ b, b < N → a ≠ b → (T a).2.1 ≠ (T b).2.1) ∧ parseFieldDescriptor (T k).2.2.1 = some ty ∧
  ((Cond.fieldLink own idx (T k).1 (T k).2.1 (T k).2.2.1 ∈ TT ∧ (T k).2.2.2 = false) ∨ (∃ host, Cond.fieldLinkNest own idx (T k).1 (T k).2.1 (T k).2.2.1 host ∈ TT ∧ (T k).2.2.2 = false))
/-- the same of a final field, in the constructor -/
def FF (own : String) (idx ci k : Nat) (ty : FieldType) : Prop := ∃ (C : String) (T : u_T) (N : Nat) (ty0 : Nat → FieldType), vwCl[ci]? = some (C, T, N) ∧ N = nF ci ∧ k < N ∧ (∀ x ∈ u_ws C T N, x ∈ TT) ∧ (∀ k, k < N → parseFieldDescriptor (T k).2.2.1 = some (ty0 k)) ∧ (∀ a, a < N → ∀ b, b < N → a ≠ b → (T a).2.1 ≠ (T b).2.1) ∧ parseFieldDescriptor (T k).2.2.1 = some ty ∧
  Cond.fieldLink own idx (T k).1 (T k).2.1 (T k).2.2.1 ∈ TT ∧ (T k).2.2.2 = true ∧ (T k).1 = own
section JH
variable {Γ : Cxt} {Δ : Dat} {A : Nat → Prop} {l0 : Launch} {cc : ByteArray} {own : String} {nL : Nat} {R0 : Room} {ret : Option FieldType} {nm : String} {w : Wd} {cells slots : Nat} {Q : State → Prop} {pc : Nat} {L : List (Option Value)} {st : List Value}

theorem J_getV (X : Cx Γ Δ A l0 cc own nL R0 ret nm) {a ci k idx : Nat} (ha : wK w a = some (.inl ci)) (hf : FA own idx ci k) (hd : decode cc pc = .ok (.getfield idx, 3)) (kk : J Γ Δ A nL w cells slots Q (pc + 3) L (fV w a ci k :: st)) : J Γ Δ A nL w cells slots Q (pc) L (.ref a :: st) := by
  obtain ⟨p, l, e, R, s, m, args, below, meth, c⟩ := Γ
  obtain ⟨hl, hR, hx, hb, hown, hml, hts, hK, hA, hret, hlk0, hnm, hst0⟩ := X
  intro H locs ws ls h1 h2 h3 h4 h5
  obtain ⟨q0, hq⟩ := wrep_at h1 ha
  obtain ⟨C, T, N, hc, hN, hk, hin, hlk⟩ := hf
  subst hN
  have hv : ((List.range (nF ci)).map (fV w a ci))[k]? = some (fV w a ci k) := by
    rw [List.getElem?_map, List.getElem?_range hk]
    rfl
  rcases hlk with hlk | ⟨host, hlk⟩
  · exact va_get (D := Δ.1) (cl := vwCl) (tys := tysOf Δ.2) hx hb hts hin hown hK.1 h2 q0 hq hc k hk (hts _ hlk) (fun _ h => h) hv hd (kk H locs ws ls h1 h2 h3 h4 h5)
  · exact va_getN (D := Δ.1) (cl := vwCl) (tys := tysOf Δ.2) hx hb hts hin hown hK.1 h2 q0 hq hc k hk (hts _ hlk) (fun _ h => h) hv hd (kk H locs ws ls h1 h2 h3 h4 h5)
theorem J_getI (X : Cx Γ Δ A l0 cc own nL R0 ret nm) {a ci k idx : Nat} {x : Int32} (ha : wK w a = some (.inl ci)) (hf : FA own idx ci k) (hft : ft ci k = true) (hv : wI w a k = x) (hd : decode cc pc = .ok (.getfield idx, 3)) (kk : J Γ Δ A nL w cells slots Q (pc + 3) L (.int x :: st)) : J Γ Δ A nL w cells slots Q (pc) L (.ref a :: st) := by
  refine J_getV X ha hf hd (J_top (v' := .int x) ?_ kk)
  rw [fV, if_pos hft, hv]
theorem J_getP (X : Cx Γ Δ A l0 cc own nL R0 ret nm) {a ci k idx : Nat} {o : Option Nat} (ha : wK w a = some (.inl ci)) (hf : FA own idx ci k) (hft : ft ci k = false) (hv : wP w a k = o) (hd : decode cc pc = .ok (.getfield idx, 3)) (kk : J Γ Δ A nL w cells slots Q (pc + 3) L (va_rf o :: st)) : J Γ Δ A nL w cells slots Q (pc) L (.ref a :: st) := by
  refine J_getV X ha hf hd (J_top (v' := va_rf o) ?_ kk)
  rw [fV, if_neg (by rw [hft]; decide), hv]
theorem J_getR (X : Cx Γ Δ A l0 cc own nL R0 ret nm) {a ci k idx b : Nat} (ha : wK w a = some (.inl ci)) (hf : FA own idx ci k) (hft : ft ci k = false) (hv : wP w a k = some b) (hd : decode cc pc = .ok (.getfield idx, 3)) (kk : J Γ Δ A nL w cells slots Q (pc + 3) L (.ref b :: st)) : J Γ Δ A nL w cells slots Q (pc) L (.ref a :: st) := J_getP X ha hf hft hv hd kk
theorem J_putV (X : Cx Γ Δ A l0 cc own nL R0 ret nm) {a ci k idx : Nat} {ty : FieldType} {v : Value} {w' : Wd} (ha : wK w a = some (.inl ci)) (hf : FP own idx ci k ty) (hn : narrow ty v = v) (hfit : fits ty v = true) (hw1 : ∀ b, wK w' b = wK w b) (hw2 : ∀ cA b, b ≠ a → ∀ d', ent cA w' b d' = ent cA w b d') (hw3 : fV w' a ci k = v) (hw4 : ∀ j, j ≠ k → fV w' a ci j = fV w a ci j) (hd : decode cc pc = .ok (.putfield idx, 3)) (kk : J Γ Δ A nL w' cells slots Q (pc + 3) L (st)) : J Γ Δ A nL w cells slots Q (pc) L (v :: .ref a :: st) := by
  obtain ⟨p, l, e, R, s, m, args, below, meth, c⟩ := Γ
  obtain ⟨hl, hR, hx, hb, hown, hml, hts, hK, hA, hret, hlk0, hnm, hst0⟩ := X
  intro H locs ws ls h1 h2 h3 h4 h5
  obtain ⟨q0, hq⟩ := wrep_at h1 ha
  obtain ⟨C, T, N, ty0, hc, hN, hk, hin, hty, hnms, hdsc, hlk⟩ := hf
  subst hN
  have hx' : (Sum.inr (ci, ((List.range (nF ci)).map (fV w a ci)).set k v) : va_E) = ent Δ.2 w' a (.inl ci) := by
    rw [map_set hw3 hw4]
    rfl
  have hlen : k < ((List.range (nF ci)).map (fV w a ci)).length := by simpa using hk
  rcases hlk with ⟨hlk, hfin⟩ | ⟨host, hlk, hfin⟩
  · exact va_put (D := Δ.1) (cl := vwCl) (tys := tysOf Δ.2) hx hb hts hin ty0 hty hnms hown hK.1 h2 h3 h4 q0 hq hc k hk (hts _ hlk) (fun _ h => h) hfin hdsc hn hfit hlen hd (fun H1 locs1 g1 g2 g3 => kk H1 locs1 _ ls (wrep_set h1 h3 hq ha hw1 (hw2 _) hx') g1 g2 g3 h5)
  · exact va_putN (D := Δ.1) (cl := vwCl) (tys := tysOf Δ.2) hx hb hts hin ty0 hty hnms hown hK.1 h2 h3 h4 q0 hq hc k hk (hts _ hlk) (fun _ h => h) hfin hdsc hn hfit hlen hd (fun H1 locs1 g1 g2 g3 => kk H1 locs1 _ ls (wrep_set h1 h3 hq ha hw1 (hw2 _) hx') g1 g2 g3 h5)
theorem J_putVF (X : Cx Γ Δ A l0 cc own nL R0 ret nm) {a ci k idx : Nat} {ty : FieldType} {v : Value} {w' : Wd} (ha : wK w a = some (.inl ci)) (hf : FF own idx ci k ty) (hin2 : nm = "<init>") (hn : narrow ty v = v) (hfit : fits ty v = true) (hw1 : ∀ b, wK w' b = wK w b) (hw2 : ∀ cA b, b ≠ a → ∀ d', ent cA w' b d' = ent cA w b d') (hw3 : fV w' a ci k = v) (hw4 : ∀ j, j ≠ k → fV w' a ci j = fV w a ci j) (hd : decode cc pc = .ok (.putfield idx, 3)) (kk : J Γ Δ A nL w' cells slots Q (pc + 3) L (st)) : J Γ Δ A nL w cells slots Q (pc) L (v :: .ref a :: st) := by
  obtain ⟨p, l, e, R, s, m, args, below, meth, c⟩ := Γ
  obtain ⟨hl, hR, hx, hb, hown, hml, hts, hK, hA, hret, hlk0, hnm, hst0⟩ := X
  intro H locs ws ls h1 h2 h3 h4 h5
  obtain ⟨q0, hq⟩ := wrep_at h1 ha
  obtain ⟨C, T, N, ty0, hc, hN, hk, hin, hty, hnms, hdsc, hlk⟩ := hf
  subst hN
  have hx' : (Sum.inr (ci, ((List.range (nF ci)).map (fV w a ci)).set k v) : va_E) = ent Δ.2 w' a (.inl ci) := by
    rw [map_set hw3 hw4]
    rfl
  have hlen : k < ((List.range (nF ci)).map (fV w a ci)).length := by simpa using hk
  obtain ⟨hlk, hfin, hdecl⟩ := hlk
  exact va_putF (D := Δ.1) (cl := vwCl) (tys := tysOf Δ.2) hx hb hts hin ty0 hty hnms hown hK.1 h2 h3 h4 q0 hq hc k hk (hts _ hlk) (fun _ h => h) hfin (hnm.trans hin2) hdecl hdsc hn hfit hlen hd (fun H1 locs1 g1 g2 g3 => kk H1 locs1 _ ls (wrep_set h1 h3 hq ha hw1 (hw2 _) hx') g1 g2 g3 h5)
theorem J_putI (X : Cx Γ Δ A l0 cc own nL R0 ret nm) {a ci k idx : Nat} {x : Int32} (ha : wK w a = some (.inl ci)) (hf : FP own idx ci k .int) (hft : ft ci k = true) (hd : decode cc pc = .ok (.putfield idx, 3)) (kk : J Γ Δ A nL (uI w a k x) cells slots Q (pc + 3) L (st)) : J Γ Δ A nL w cells slots Q (pc) L (.int x :: .ref a :: st) :=
  J_putV (w' := uI w a k x) X ha hf rfl rfl (fun _ => rfl) (fun _ => ent_oI) (by rw [fV, if_pos hft, wI_uI, if_pos ⟨rfl, rfl⟩]) (fun j hj => by simp only [fV, wI_uI, wP_uI, hj, and_false, if_false]) hd kk
theorem J_putZ (X : Cx Γ Δ A l0 cc own nL R0 ret nm) {a ci k idx : Nat} {x : Int32} (ha : wK w a = some (.inl ci)) (hf : FP own idx ci k .boolean) (hft : ft ci k = true) (hz : x = 0 ∨ x = 1) (hd : decode cc pc = .ok (.putfield idx, 3)) (kk : J Γ Δ A nL (uI w a k x) cells slots Q (pc + 3) L (st)) : J Γ Δ A nL w cells slots Q (pc) L (.int x :: .ref a :: st) :=
  J_putV (w' := uI w a k x) X ha hf (by rcases hz with rfl | rfl <;> rfl) (by rcases hz with rfl | rfl <;> rfl) (fun _ => rfl) (fun _ => ent_oI) (by rw [fV, if_pos hft, wI_uI, if_pos ⟨rfl, rfl⟩]) (fun j hj => by simp only [fV, wI_uI, wP_uI, hj, and_false, if_false]) hd kk
theorem J_putP (X : Cx Γ Δ A l0 cc own nL R0 ret nm) {a ci k idx : Nat} {o : Option Nat} {ty : FieldType} (ha : wK w a = some (.inl ci)) (hf : FP own idx ci k ty) (hty : (∃ C, ty = .object C) ∨ ∃ t, ty = .array t) (hft : ft ci k = false) (hd : decode cc pc = .ok (.putfield idx, 3)) (kk : J Γ Δ A nL (uP w a k o) cells slots Q (pc + 3) L (st)) : J Γ Δ A nL w cells slots Q (pc) L (va_rf o :: .ref a :: st) :=
  J_putV (w' := uP w a k o) X ha hf (by rcases hty with ⟨C, rfl⟩ | ⟨t, rfl⟩ <;> cases o <;> rfl) (by rcases hty with ⟨C, rfl⟩ | ⟨t, rfl⟩ <;> cases o <;> rfl) (fun _ => rfl) (fun _ => ent_oP) (by rw [fV, if_neg (by rw [hft]; decide), wP_uP, if_pos ⟨rfl, rfl⟩]) (fun j hj => by simp only [fV, wI_uP, wP_uP, hj, and_false, if_false]) hd kk
theorem J_putIF (X : Cx Γ Δ A l0 cc own nL R0 ret nm) {a ci k idx : Nat} {x : Int32} (ha : wK w a = some (.inl ci)) (hf : FF own idx ci k .int) (hin2 : nm = "<init>") (hft : ft ci k = true) (hd : decode cc pc = .ok (.putfield idx, 3)) (kk : J Γ Δ A nL (uI w a k x) cells slots Q (pc + 3) L (st)) : J Γ Δ A nL w cells slots Q (pc) L (.int x :: .ref a :: st) :=
  J_putVF (w' := uI w a k x) X ha hf hin2 rfl rfl (fun _ => rfl) (fun _ => ent_oI) (by rw [fV, if_pos hft, wI_uI, if_pos ⟨rfl, rfl⟩]) (fun j hj => by simp only [fV, wI_uI, wP_uI, hj, and_false, if_false]) hd kk
theorem J_putZF (X : Cx Γ Δ A l0 cc own nL R0 ret nm) {a ci k idx : Nat} {x : Int32} (ha : wK w a = some (.inl ci)) (hf : FF own idx ci k .boolean) (hin2 : nm = "<init>") (hft : ft ci k = true) (hz : x = 0 ∨ x = 1) (hd : decode cc pc = .ok (.putfield idx, 3)) (kk : J Γ Δ A nL (uI w a k x) cells slots Q (pc + 3) L (st)) : J Γ Δ A nL w cells slots Q (pc) L (.int x :: .ref a :: st) :=
  J_putVF (w' := uI w a k x) X ha hf hin2 (by rcases hz with rfl | rfl <;> rfl) (by rcases hz with rfl | rfl <;> rfl) (fun _ => rfl) (fun _ => ent_oI) (by rw [fV, if_pos hft, wI_uI, if_pos ⟨rfl, rfl⟩]) (fun j hj => by simp only [fV, wI_uI, wP_uI, hj, and_false, if_false]) hd kk
theorem J_putPF (X : Cx Γ Δ A l0 cc own nL R0 ret nm) {a ci k idx : Nat} {o : Option Nat} {ty : FieldType} (ha : wK w a = some (.inl ci)) (hf : FF own idx ci k ty) (hin2 : nm = "<init>") (hty : (∃ C, ty = .object C) ∨ ∃ t, ty = .array t) (hft : ft ci k = false) (hd : decode cc pc = .ok (.putfield idx, 3)) (kk : J Γ Δ A nL (uP w a k o) cells slots Q (pc + 3) L (st)) : J Γ Δ A nL w cells slots Q (pc) L (va_rf o :: .ref a :: st) :=
  J_putVF (w' := uP w a k o) X ha hf hin2 (by rcases hty with ⟨C, rfl⟩ | ⟨t, rfl⟩ <;> cases o <;> rfl) (by rcases hty with ⟨C, rfl⟩ | ⟨t, rfl⟩ <;> cases o <;> rfl) (fun _ => rfl) (fun _ => ent_oP) (by rw [fV, if_neg (by rw [hft]; decide), wP_uP, if_pos ⟨rfl, rfl⟩]) (fun j hj => by simp only [fV, wI_uP, wP_uP, hj, and_false, if_false]) hd kk
theorem J_alen (X : Cx Γ Δ A l0 cc own nL R0 ret nm) {a t n : Nat} (ha : wK w a = some (.inr (t, n))) (ht : t < nT) (hd : decode cc pc = .ok (.arraylength, 1)) (kk : J Γ Δ A nL w cells slots Q (pc + 1) L (.int (nI n) :: st)) : J Γ Δ A nL w cells slots Q (pc) L (.ref a :: st) := by
  obtain ⟨p, l, e, R, s, m, args, below, meth, c⟩ := Γ
  obtain ⟨hl, hR, hx, hb, hown, hml, hts, hK, hA, hret, hlk0, hnm, hst0⟩ := X
  intro H locs ws ls h1 h2 h3 h4 h5
  obtain ⟨q0, hq⟩ := wrep_at h1 ha
  exact va_alen (D := Δ.1) (cl := vwCl) (tys := tysOf Δ.2) hx hb hK.1 h2 q0 t hq (tysOf_at ht) rfl hd (kk H locs ws ls h1 h2 h3 h4 h5)
theorem vp_in_j {j n : Nat} (hj : j < n) (hn : n < 2 ^ 31) : vp_in (nI j) n := vp_in_nI hj hn
theorem J_aald (X : Cx Γ Δ A l0 cc own nL R0 ret nm) {a t n j : Nat} {i : Int32} {v : Option Nat} (ha : wK w a = some (.inr (t, n))) (ht : t < nT) (htk : tyK t = 1) (hty : ∃ C, tyL t = .object C) (hi : i = nI j) (hj : j < n) (hn : n < 2 ^ 31) (hv : wP w a j = v) (hd : decode cc pc = .ok (.aaload, 1)) (kk : J Γ Δ A nL w cells slots Q (pc + 1) L (va_rf v :: st)) : J Γ Δ A nL w cells slots Q (pc) L (.int i :: .ref a :: st) := by
  obtain ⟨p, l, e, R, s, m, args, below, meth, c⟩ := Γ
  obtain ⟨hl, hR, hx, hb, hown, hml, hts, hK, hA, hret, hlk0, hnm, hst0⟩ := X
  intro H locs ws ls h1 h2 h3 h4 h5
  obtain ⟨q0, hq⟩ := wrep_at h1 ha
  rw [ent_q htk] at hq
  have hc : (nI j).toNatClampNeg = j := nI_clamp (by omega)
  have hw : wP w a (nI j).toNatClampNeg = v := by rw [hc]; exact hv
  obtain ⟨C, hty⟩ := hty
  subst hi
  refine va_aldq (D := Δ.1) (cl := vwCl) (tys := tysOf Δ.2) hx hb hK.1 h2 q0 t hq (by rw [tysOf_at ht, hty]) (vp_in_j hj hn) hd ?_
  rw [hw]
  exact kk H locs ws ls h1 h2 h3 h4 h5
theorem J_iald (X : Cx Γ Δ A l0 cc own nL R0 ret nm) {a t n j : Nat} {i : Int32} {v : Int32} (ha : wK w a = some (.inr (t, n))) (ht : t < nT) (htk : tyK t = 0) (hty : tyL t = .int) (hi : i = nI j) (hj : j < n) (hn : n < 2 ^ 31) (hv : wI w a j = v) (hd : decode cc pc = .ok (.iaload, 1)) (kk : J Γ Δ A nL w cells slots Q (pc + 1) L (.int v :: st)) : J Γ Δ A nL w cells slots Q (pc) L (.int i :: .ref a :: st) := by
  obtain ⟨p, l, e, R, s, m, args, below, meth, c⟩ := Γ
  obtain ⟨hl, hR, hx, hb, hown, hml, hts, hK, hA, hret, hlk0, hnm, hst0⟩ := X
  intro H locs ws ls h1 h2 h3 h4 h5
  obtain ⟨q0, hq⟩ := wrep_at h1 ha
  rw [ent_i htk] at hq
  have hc : (nI j).toNatClampNeg = j := nI_clamp (by omega)
  have hw : wI w a (nI j).toNatClampNeg = v := by rw [hc]; exact hv
  skip
  subst hi
  refine va_iald (D := Δ.1) (cl := vwCl) (tys := tysOf Δ.2) hx hb hK.1 h2 q0 t hq (by rw [tysOf_at ht, hty]) (vp_in_j hj hn) hd ?_
  rw [hw]
  exact kk H locs ws ls h1 h2 h3 h4 h5
theorem J_zald (X : Cx Γ Δ A l0 cc own nL R0 ret nm) {a t n j : Nat} {i : Int32} {v : Int32} (ha : wK w a = some (.inr (t, n))) (ht : t < nT) (htk : tyK t = 0) (hty : tyL t = .boolean) (hi : i = nI j) (hj : j < n) (hn : n < 2 ^ 31) (hv : wI w a j = v) (hd : decode cc pc = .ok (.baload, 1)) (kk : J Γ Δ A nL w cells slots Q (pc + 1) L (.int v :: st)) : J Γ Δ A nL w cells slots Q (pc) L (.int i :: .ref a :: st) := by
  obtain ⟨p, l, e, R, s, m, args, below, meth, c⟩ := Γ
  obtain ⟨hl, hR, hx, hb, hown, hml, hts, hK, hA, hret, hlk0, hnm, hst0⟩ := X
  intro H locs ws ls h1 h2 h3 h4 h5
  obtain ⟨q0, hq⟩ := wrep_at h1 ha
  rw [ent_i htk] at hq
  have hc : (nI j).toNatClampNeg = j := nI_clamp (by omega)
  have hw : wI w a (nI j).toNatClampNeg = v := by rw [hc]; exact hv
  skip
  subst hi
  refine va_zald (D := Δ.1) (cl := vwCl) (tys := tysOf Δ.2) hx hb hK.1 h2 q0 t hq (by rw [tysOf_at ht, hty]) (vp_in_j hj hn) hd ?_
  rw [hw]
  exact kk H locs ws ls h1 h2 h3 h4 h5
theorem J_lald (X : Cx Γ Δ A l0 cc own nL R0 ret nm) {a t n j : Nat} {i : Int32} {v : Int64} (ha : wK w a = some (.inr (t, n))) (ht : t < nT) (htk : tyK t = 2) (hty : tyL t = .long) (hi : i = nI j) (hj : j < n) (hn : n < 2 ^ 31) (hv : wL w a j = v) (hd : decode cc pc = .ok (.laload, 1)) (kk : J Γ Δ A nL w cells slots Q (pc + 1) L (.long v :: st)) : J Γ Δ A nL w cells slots Q (pc) L (.int i :: .ref a :: st) := by
  obtain ⟨p, l, e, R, s, m, args, below, meth, c⟩ := Γ
  obtain ⟨hl, hR, hx, hb, hown, hml, hts, hK, hA, hret, hlk0, hnm, hst0⟩ := X
  intro H locs ws ls h1 h2 h3 h4 h5
  obtain ⟨q0, hq⟩ := wrep_at h1 ha
  rw [ent_l htk] at hq
  have hc : (nI j).toNatClampNeg = j := nI_clamp (by omega)
  have hw : wL w a (nI j).toNatClampNeg = v := by rw [hc]; exact hv
  skip
  subst hi
  refine va_lald (D := Δ.1) (cl := vwCl) (tys := tysOf Δ.2) hx hb hK.1 h2 q0 t hq (by rw [tysOf_at ht, hty]) (vp_in_j hj hn) hd ?_
  rw [hw]
  exact kk H locs ws ls h1 h2 h3 h4 h5
theorem wP_up (w : Wd) (a j : Nat) (o : Option Nat) : wP (uP w a j o) a = va_up (wP w a) j o := by
  funext k; by_cases h : k = j <;> simp [wP_uP, va_up, h]
theorem wI_up (w : Wd) (a j : Nat) (x : Int32) : wI (uI w a j x) a = upd (wI w a) j x := by
  funext k; by_cases h : k = j <;> simp [wI_uI, upd, h]
theorem wL_up (w : Wd) (a j : Nat) (x : Int64) : wL (uL w a j x) a = vp_updL (wL w a) j x := by
  funext k; by_cases h : k = j <;> simp [wL_uL, vp_updL, h]
theorem J_iast (X : Cx Γ Δ A l0 cc own nL R0 ret nm) {a t n j : Nat} {i : Int32} {x : Int32} (ha : wK w a = some (.inr (t, n))) (ht : t < nT) (htk : tyK t = 0) (hty : tyL t = .int) (hi : i = nI j) (hj : j < n) (hn : n < 2 ^ 31) (hd : decode cc pc = .ok (.iastore, 1)) (kk : J Γ Δ A nL (uI w a j x) cells slots Q (pc + 1) L (st)) : J Γ Δ A nL w cells slots Q (pc) L (.int x :: .int i :: .ref a :: st) := by
  obtain ⟨p, l, e, R, s, m, args, below, meth, c⟩ := Γ
  obtain ⟨hl, hR, hx, hb, hown, hml, hts, hK, hA, hret, hlk0, hnm, hst0⟩ := X
  intro H locs ws ls h1 h2 h3 h4 h5
  obtain ⟨q0, hq⟩ := wrep_at h1 ha
  rw [ent_i htk] at hq
  have hc : (nI j).toNatClampNeg = j := nI_clamp (by omega)
  skip
  subst hi
  refine va_iast (D := Δ.1) (cl := vwCl) (tys := tysOf Δ.2) hx hb hK.1 h2 h3 h4 q0 t hq (by rw [tysOf_at ht, hty]) (vp_in_j hj hn) hd (fun H1 locs1 g1 g2 g3 => ?_)
  rw [hc] at g1 g2
  skip
  exact kk H1 locs1 _ ls (wrep_set (w' := uI w a j x) h1 h3 hq ha (fun _ => rfl) (ent_oI) (by rw [ent_i htk, wI_up])) g1 g2 g3 h5
theorem J_zast (X : Cx Γ Δ A l0 cc own nL R0 ret nm) {a t n j : Nat} {i : Int32} {x : Int32} (ha : wK w a = some (.inr (t, n))) (ht : t < nT) (htk : tyK t = 0) (hty : tyL t = .boolean) (hz : x = 0 ∨ x = 1) (hi : i = nI j) (hj : j < n) (hn : n < 2 ^ 31) (hd : decode cc pc = .ok (.bastore, 1)) (kk : J Γ Δ A nL (uI w a j x) cells slots Q (pc + 1) L (st)) : J Γ Δ A nL w cells slots Q (pc) L (.int x :: .int i :: .ref a :: st) := by
  obtain ⟨p, l, e, R, s, m, args, below, meth, c⟩ := Γ
  obtain ⟨hl, hR, hx, hb, hown, hml, hts, hK, hA, hret, hlk0, hnm, hst0⟩ := X
  intro H locs ws ls h1 h2 h3 h4 h5
  obtain ⟨q0, hq⟩ := wrep_at h1 ha
  rw [ent_i htk] at hq
  have hc : (nI j).toNatClampNeg = j := nI_clamp (by omega)
  skip
  subst hi
  refine va_zast (D := Δ.1) (cl := vwCl) (tys := tysOf Δ.2) hx hb hK.1 h2 h3 h4 q0 t hq (by rw [tysOf_at ht, hty]) (vp_in_j hj hn) hd (fun H1 locs1 g1 g2 g3 => ?_)
  rw [hc] at g1 g2
  have hz' : vp_nar .boolean x = x := by rcases hz with rfl | rfl <;> rfl
  rw [hz'] at g1 g2
  exact kk H1 locs1 _ ls (wrep_set (w' := uI w a j x) h1 h3 hq ha (fun _ => rfl) (ent_oI) (by rw [ent_i htk, wI_up])) g1 g2 g3 h5
theorem J_last (X : Cx Γ Δ A l0 cc own nL R0 ret nm) {a t n j : Nat} {i : Int32} {x : Int64} (ha : wK w a = some (.inr (t, n))) (ht : t < nT) (htk : tyK t = 2) (hty : tyL t = .long) (hi : i = nI j) (hj : j < n) (hn : n < 2 ^ 31) (hd : decode cc pc = .ok (.lastore, 1)) (kk : J Γ Δ A nL (uL w a j x) cells slots Q (pc + 1) L (st)) : J Γ Δ A nL w cells slots Q (pc) L (.long x :: .int i :: .ref a :: st) := by
  obtain ⟨p, l, e, R, s, m, args, below, meth, c⟩ := Γ
  obtain ⟨hl, hR, hx, hb, hown, hml, hts, hK, hA, hret, hlk0, hnm, hst0⟩ := X
  intro H locs ws ls h1 h2 h3 h4 h5
  obtain ⟨q0, hq⟩ := wrep_at h1 ha
  rw [ent_l htk] at hq
  have hc : (nI j).toNatClampNeg = j := nI_clamp (by omega)
  skip
  subst hi
  refine va_last (D := Δ.1) (cl := vwCl) (tys := tysOf Δ.2) hx hb hK.1 h2 h3 h4 q0 t hq (by rw [tysOf_at ht, hty]) (vp_in_j hj hn) hd (fun H1 locs1 g1 g2 g3 => ?_)
  rw [hc] at g1 g2
  skip
  exact kk H1 locs1 _ ls (wrep_set (w' := uL w a j x) h1 h3 hq ha (fun _ => rfl) (ent_oL) (by rw [ent_l htk, wL_up])) g1 g2 g3 h5
/-- an object of class ci may stand in an array of type t -/
def AC (ci t : Nat) : Prop := ∃ (r : vw_C) (E : String), vwCl[ci]? = some r ∧ tyL t = .object E ∧ (Cond.castable r.1 E ∈ TT ∨ r.1 = E)
theorem J_aast (X : Cx Γ Δ A l0 cc own nL R0 ret nm) {a t n j : Nat} {i : Int32} {o : Option Nat} (ha : wK w a = some (.inr (t, n))) (ht : t < nT) (htk : tyK t = 1) (hty : ∃ C, tyL t = .object C) (ho : ∀ y, o = some y → ∃ ci, wK w y = some (.inl ci) ∧ AC ci t) (hi : i = nI j) (hj : j < n) (hn : n < 2 ^ 31) (hd : decode cc pc = .ok (.aastore, 1)) (kk : J Γ Δ A nL (uP w a j o) cells slots Q (pc + 1) L (st)) : J Γ Δ A nL w cells slots Q (pc) L (va_rf o :: .int i :: .ref a :: st) := by
  obtain ⟨p, l, e, R, s, m, args, below, meth, c⟩ := Γ
  obtain ⟨hl, hR, hx, hb, hown, hml, hts, hK, hA, hret, hlk0, hnm, hst0⟩ := X
  intro H locs ws ls h1 h2 h3 h4 h5
  obtain ⟨q0, hq⟩ := wrep_at h1 ha
  rw [ent_q htk] at hq
  have hc : (nI j).toNatClampNeg = j := nI_clamp (by omega)
  subst hi
  cases o with
  | none =>
    obtain ⟨C, hty⟩ := hty
    refine va_astqN (D := Δ.1) (cl := vwCl) (tys := tysOf Δ.2) hx hb hK.1 h2 h3 h4 q0 t hq (by rw [tysOf_at ht, hty]) (vp_in_j hj hn) hd (fun H1 locs1 g1 g2 g3 => ?_)
    rw [hc] at g1 g2
    exact kk H1 locs1 _ ls (wrep_set (w' := uP w a j none) h1 h3 hq ha (fun _ => rfl) ent_oP (by rw [ent_q htk, wP_up])) g1 g2 g3 h5
  | some y =>
    obtain ⟨ci, hy, r, E, hr, hty, hca⟩ := ho y rfl
    obtain ⟨q1, hq1⟩ := wrep_at h1 hy
    have kx : ∀ (H1 : Heap) (locs1 : List Loc), va_P Δ.1 vwCl (ws.set q0 (a, .inl (Δ.2 t, n, .inr (.inr (.inr (.inr (va_up (wP w a) (nI j).toNatClampNeg (some y)))))))) H1 → va_D A (ws.set q0 (a, .inl (Δ.2 t, n, .inr (.inr (.inr (.inr (va_up (wP w a) (nI j).toNatClampNeg (some y)))))))) → va_S A s.heap H1 locs1 → W p l e R s m args below meth c H1 locs1 cells slots Q (F0 m (pc + 1) ls st) := by
      intro H1 locs1 g1 g2 g3
      rw [hc] at g1 g2
      exact kk H1 locs1 _ ls (wrep_set (w' := uP w a j (some y)) h1 h3 hq ha (fun _ => rfl) ent_oP (by rw [ent_q htk, wP_up])) g1 g2 g3 h5
    rcases hca with hca | hca
    · exact va_astqO (D := Δ.1) (cl := vwCl) (tys := tysOf Δ.2) hx hb hK.1 h2 h3 h4 q0 t q1 ci hq (by rw [tysOf_at ht, hty]) (va_Nw.of rfl (hts _ hca)) hq1 hr (vp_in_j hj hn) hd kx
    · exact va_astq (D := Δ.1) (cl := vwCl) (tys := tysOf Δ.2) hx hb hK.1 h2 h3 h4 q0 t q1 ci hq (by rw [tysOf_at ht, hty, hca]) hq1 hr (vp_in_j hj hn) hd kx
/-- a new object by a place of the pool -/
def ND (own : String) (idx ci : Nat) : Prop := ∃ (C : String) (T : u_T) (N : Nat) (ty : Nat → FieldType), vwCl[ci]? = some (C, T, N) ∧ N = nF ci ∧ (∀ x ∈ u_ws C T N, x ∈ TT) ∧ (∀ k, k < N → parseFieldDescriptor (T k).2.2.1 = some (ty k)) ∧ (∀ k, k < N → defaultValue (ty k) = if ft ci k = true then .int 0 else .null) ∧ Cond.classLink own idx C ∈ TT ∧ Cond.instantiable C N ∈ TT ∧ Cond.initialized C ∈ TT
theorem J_new (X : Cx Γ Δ A l0 cc own nL R0 ret nm) {ci idx : Nat} (hf : ND own idx ci) (hc1 : cells + 1 ≤ R0.cells) (hs1 : slots + nF ci ≤ R0.slots) (hd : decode cc pc = .ok (.new idx, 3)) (kk : ∀ q, wK w q = none → J Γ Δ A nL (uN w q (.inl ci)) (cells + 1) (slots + nF ci) Q (pc + 3) L (.ref q :: st)) : J Γ Δ A nL w cells slots Q (pc) L (st) := by
  obtain ⟨p, l, e, R, s, m, args, below, meth, c⟩ := Γ
  obtain ⟨hl, hR, hx, hb, hown, hml, hts, hK, hA, hret, hlk0, hnm, hst0⟩ := X
  intro H locs ws ls h1 h2 h3 h4 h5
  obtain ⟨C, T, N, ty, hc, hN, hin, hty, hdv, k1, k2, k3⟩ := hf
  subst hN
  subst hR
  refine va_new (D := Δ.1) (cl := vwCl) (tys := tysOf Δ.2) (fs := (List.range (nF ci)).map (fun k => if ft ci k = true then Value.int 0 else .null)) hx hb hts hin ty hty hown (hts _ k1) (hts _ k2) (hts _ k3) hK.1 h2 h3 h4 hA hc (fun j hj => ?_) hc1 hs1 hd (fun q H1 g1 g2 g3 => ?_)
  · rw [hdv j hj, vp_V, List.getD_eq_getElem?_getD, List.getElem?_map, List.getElem?_range hj]
    rfl
  · obtain ⟨e1, e2⟩ := wrep_push (d := .inl ci) h1 g2 (by
      show _ = (Sum.inr (ci, (List.range (nF ci)).map (fV (uN w q (.inl ci)) q ci)) : va_E)
      congr 3
      funext k
      rw [fV, wI_uN, wP_uN, if_pos rfl, if_pos rfl]
      rfl)
    exact kk q e1 H1 locs _ ls e2 g1 g2 g3 h5
/-- a new array of references by a place of the pool -/
def NQ (own : String) (idx t : Nat) : Prop := t < nT ∧ tyK t = 1 ∧ ∃ C : String, tyL t = .object C ∧ Cond.classLink own idx C ∈ TT ∧ Cond.arrayOver (.object C) ∈ TT
theorem J_newq (X : Cx Γ Δ A l0 cc own nL R0 ret nm) {t idx n : Nat} {i : Int32} (hf : NQ own idx t) (hi : i = nI n) (hn : n < 10000) (hc1 : cells + 1 ≤ R0.cells) (hs1 : slots + n ≤ R0.slots) (hd : decode cc pc = .ok (.anewarray idx, 3)) (kk : ∀ q, wK w q = none → J Γ Δ A nL (uN w q (.inr (t, n))) (cells + 1) (slots + n) Q (pc + 3) L (.ref q :: st)) : J Γ Δ A nL w cells slots Q (pc) L (.int i :: st) := by
  obtain ⟨p, l, e, R, s, m, args, below, meth, c⟩ := Γ
  obtain ⟨hl, hR, hx, hb, hown, hml, hts, hK, hA, hret, hlk0, hnm, hst0⟩ := X
  intro H locs ws ls h1 h2 h3 h4 h5
  obtain ⟨ht, htk, C, hty, k1, k2⟩ := hf
  subst hR; subst hi
  refine va_newq (D := Δ.1) (cl := vwCl) (tys := tysOf Δ.2) hx hb hown (hts _ k1) (va_AO.of (hts _ k2)) hK.1 h2 h3 h4 hA (N' := n) (nI_pos (by omega)) (nI_clamp (by omega)) (by omega) hc1 hs1 hd (fun q cA H1 g0 g1 g2 g3 => ?_)
  have hcA : cA = Δ.2 t := by
    have r1 := (hK.1.2 t _ (tysOf_at ht)).2
    rw [hty] at r1
    obtain ⟨_, _, _, _, _, f1⟩ := r1
    obtain ⟨_, _, _, _, _, f2⟩ := (g0.2 (tysOf Δ.2).length (cA, .object C) (by rw [List.getElem?_append_right (Nat.le_refl _), Nat.sub_self]; rfl)).2
    exact Option.some.inj (f2.symm.trans f1)
  subst hcA
  obtain ⟨e1, e2⟩ := wrep_push (d := .inr (t, n)) h1 g2 (by
    rw [ent_q htk]
    have : wP (uN w q (.inr (t, n))) q = fun _ => none := by funext j; rw [wP_uN, if_pos rfl]
    rw [this])
  exact kk q e1 H1 locs _ ls e2 g1 g2 g3 h5
theorem J_newi (X : Cx Γ Δ A l0 cc own nL R0 ret nm) {t n : Nat} {i : Int32} {aty : ArrayType} (haty : newarray.typeOf aty = .int) (ht : t < nT) (htk : tyK t = 0) (hty : tyL t = .int) (hw : Cond.arrayClass .int ∈ TT) (hi : i = nI n) (hn : n < 10000) (hc1 : cells + 1 ≤ R0.cells) (hs1 : slots + n ≤ R0.slots) (hd : decode cc pc = .ok (.newarray aty, 2)) (kk : ∀ q, wK w q = none → J Γ Δ A nL (uN w q (.inr (t, n))) (cells + 1) (slots + n) Q (pc + 2) L (.ref q :: st)) : J Γ Δ A nL w cells slots Q (pc) L (.int i :: st) := by
  obtain ⟨p, l, e, R, s, m, args, below, meth, c⟩ := Γ
  obtain ⟨hl, hR, hx, hb, hown, hml, hts, hK, hA, hret, hlk0, hnm, hst0⟩ := X
  intro H locs ws ls h1 h2 h3 h4 h5
  subst hR; subst hi
  refine va_newa (D := Δ.1) (cl := vwCl) (tys := tysOf Δ.2) hx hb (by rw [haty]; exact hts _ hw) haty hK.1 h2 h3 h4 hA (N' := n) (a0 := (n, .inl (fun _ => 0))) (fun _ => rfl) (nI_pos (by omega)) (nI_clamp (by omega)) (Nat.le_trans (Nat.mul_le_mul_left n (by decide : componentBytes .int ≤ 8)) (by omega)) hc1 hs1 hd (fun q cA H1 g0 g1 g2 g3 => ?_)
  have hcA : cA = Δ.2 t := by
    have r1 := (hK.1.2 t _ (tysOf_at ht)).2
    rw [hty] at r1
    have r2 := (g0.2 (tysOf Δ.2).length (cA, .int) (by rw [List.getElem?_append_right (Nat.le_refl _), Nat.sub_self]; rfl)).2
    exact Option.some.inj (r2.symm.trans r1)
  subst hcA
  obtain ⟨e1, e2⟩ := wrep_push (d := .inr (t, n)) h1 g2 (by
    rw [ent_i htk]
    have : wI (uN w q (.inr (t, n))) q = fun _ => 0 := by funext j; rw [wI_uN, if_pos rfl]
    rw [this])
  exact kk q e1 H1 locs _ ls e2 g1 g2 g3 h5
theorem J_newz (X : Cx Γ Δ A l0 cc own nL R0 ret nm) {t n : Nat} {i : Int32} {aty : ArrayType} (haty : newarray.typeOf aty = .boolean) (ht : t < nT) (htk : tyK t = 0) (hty : tyL t = .boolean) (hw : Cond.arrayClass .boolean ∈ TT) (hi : i = nI n) (hn : n < 10000) (hc1 : cells + 1 ≤ R0.cells) (hs1 : slots + n ≤ R0.slots) (hd : decode cc pc = .ok (.newarray aty, 2)) (kk : ∀ q, wK w q = none → J Γ Δ A nL (uN w q (.inr (t, n))) (cells + 1) (slots + n) Q (pc + 2) L (.ref q :: st)) : J Γ Δ A nL w cells slots Q (pc) L (.int i :: st) := by
  obtain ⟨p, l, e, R, s, m, args, below, meth, c⟩ := Γ
  obtain ⟨hl, hR, hx, hb, hown, hml, hts, hK, hA, hret, hlk0, hnm, hst0⟩ := X
  intro H locs ws ls h1 h2 h3 h4 h5
  subst hR; subst hi
  refine va_newa (D := Δ.1) (cl := vwCl) (tys := tysOf Δ.2) hx hb (by rw [haty]; exact hts _ hw) haty hK.1 h2 h3 h4 hA (N' := n) (a0 := (n, .inl (fun _ => 0))) (fun _ => rfl) (nI_pos (by omega)) (nI_clamp (by omega)) (Nat.le_trans (Nat.mul_le_mul_left n (by decide : componentBytes .boolean ≤ 8)) (by omega)) hc1 hs1 hd (fun q cA H1 g0 g1 g2 g3 => ?_)
  have hcA : cA = Δ.2 t := by
    have r1 := (hK.1.2 t _ (tysOf_at ht)).2
    rw [hty] at r1
    have r2 := (g0.2 (tysOf Δ.2).length (cA, .boolean) (by rw [List.getElem?_append_right (Nat.le_refl _), Nat.sub_self]; rfl)).2
    exact Option.some.inj (r2.symm.trans r1)
  subst hcA
  obtain ⟨e1, e2⟩ := wrep_push (d := .inr (t, n)) h1 g2 (by
    rw [ent_i htk]
    have : wI (uN w q (.inr (t, n))) q = fun _ => 0 := by funext j; rw [wI_uN, if_pos rfl]
    rw [this])
  exact kk q e1 H1 locs _ ls e2 g1 g2 g3 h5
theorem J_newl (X : Cx Γ Δ A l0 cc own nL R0 ret nm) {t n : Nat} {i : Int32} {aty : ArrayType} (haty : newarray.typeOf aty = .long) (ht : t < nT) (htk : tyK t = 2) (hty : tyL t = .long) (hw : Cond.arrayClass .long ∈ TT) (hi : i = nI n) (hn : n < 10000) (hc1 : cells + 1 ≤ R0.cells) (hs1 : slots + n ≤ R0.slots) (hd : decode cc pc = .ok (.newarray aty, 2)) (kk : ∀ q, wK w q = none → J Γ Δ A nL (uN w q (.inr (t, n))) (cells + 1) (slots + n) Q (pc + 2) L (.ref q :: st)) : J Γ Δ A nL w cells slots Q (pc) L (.int i :: st) := by
  obtain ⟨p, l, e, R, s, m, args, below, meth, c⟩ := Γ
  obtain ⟨hl, hR, hx, hb, hown, hml, hts, hK, hA, hret, hlk0, hnm, hst0⟩ := X
  intro H locs ws ls h1 h2 h3 h4 h5
  subst hR; subst hi
  refine va_newa (D := Δ.1) (cl := vwCl) (tys := tysOf Δ.2) hx hb (by rw [haty]; exact hts _ hw) haty hK.1 h2 h3 h4 hA (N' := n) (a0 := (n, .inr (.inl (fun _ => 0)))) (fun _ => rfl) (nI_pos (by omega)) (nI_clamp (by omega)) (Nat.le_trans (Nat.mul_le_mul_left n (by decide : componentBytes .long ≤ 8)) (by omega)) hc1 hs1 hd (fun q cA H1 g0 g1 g2 g3 => ?_)
  have hcA : cA = Δ.2 t := by
    have r1 := (hK.1.2 t _ (tysOf_at ht)).2
    rw [hty] at r1
    have r2 := (g0.2 (tysOf Δ.2).length (cA, .long) (by rw [List.getElem?_append_right (Nat.le_refl _), Nat.sub_self]; rfl)).2
    exact Option.some.inj (r2.symm.trans r1)
  subst hcA
  obtain ⟨e1, e2⟩ := wrep_push (d := .inr (t, n)) h1 g2 (by
    rw [ent_l htk]
    have : wL (uN w q (.inr (t, n))) q = fun _ => 0 := by funext j; rw [wL_uN, if_pos rfl]
    rw [this])
  exact kk q e1 H1 locs _ ls e2 g1 g2 g3 h5
/-- objects of class ci are (yes), are not (no) of the class at a place of the pool -/
def IY (own : String) (idx ci : Nat) : Prop := ∃ (r : vw_C) (E : String), vwCl[ci]? = some r ∧ Cond.classLink own idx E ∈ TT ∧ (Cond.castable r.1 E ∈ TT ∨ r.1 = E)
def IN (own : String) (idx ci : Nat) : Prop := ∃ (r : vw_C) (E : String), vwCl[ci]? = some r ∧ Cond.classLink own idx E ∈ TT ∧ (r.1, E) ∈ ncL
theorem J_instY (X : Cx Γ Δ A l0 cc own nL R0 ret nm) {a ci idx : Nat} (ha : wK w a = some (.inl ci)) (hf : IY own idx ci) (hd : decode cc pc = .ok (.instanceof idx, 3)) (kk : J Γ Δ A nL w cells slots Q (pc + 3) L (.int 1 :: st)) : J Γ Δ A nL w cells slots Q (pc) L (.ref a :: st) := by
  obtain ⟨p, l, e, R, s, m, args, below, meth, c⟩ := Γ
  obtain ⟨hl, hR, hx, hb, hown, hml, hts, hK, hA, hret, hlk0, hnm, hst0⟩ := X
  intro H locs ws ls h1 h2 h3 h4 h5
  obtain ⟨q0, hq⟩ := wrep_at h1 ha
  obtain ⟨r, E, hr, k1, k2⟩ := hf
  have hrc := va_recv hK.1 h2 hr hq
  rcases k2 with k2 | k2
  · exact va_instY hx hb hown (hts _ k1) (va_Nw.of rfl (hts _ k2)) hrc hd (kk H locs ws ls h1 h2 h3 h4 h5)
  · subst k2
    exact va_instS hx hb hown (hts _ k1) (hK.1.1 ci r hr).2 hrc hd (kk H locs ws ls h1 h2 h3 h4 h5)
theorem J_cast (X : Cx Γ Δ A l0 cc own nL R0 ret nm) {a ci idx : Nat} (ha : wK w a = some (.inl ci)) (hf : IY own idx ci) (hd : decode cc pc = .ok (.checkcast idx, 3)) (kk : J Γ Δ A nL w cells slots Q (pc + 3) L (.ref a :: st)) : J Γ Δ A nL w cells slots Q (pc) L (.ref a :: st) := by
  obtain ⟨p, l, e, R, s, m, args, below, meth, c⟩ := Γ
  obtain ⟨hl, hR, hx, hb, hown, hml, hts, hK, hA, hret, hlk0, hnm, hst0⟩ := X
  intro H locs ws ls h1 h2 h3 h4 h5
  obtain ⟨q0, hq⟩ := wrep_at h1 ha
  obtain ⟨r, E, hr, k1, k2⟩ := hf
  have hrc := va_recv hK.1 h2 hr hq
  rcases k2 with k2 | k2
  · exact va_castY hx hb hown (hts _ k1) (va_Nw.of rfl (hts _ k2)) hrc hd (kk H locs ws ls h1 h2 h3 h4 h5)
  · subst k2
    exact va_castS hx hb hown (hts _ k1) (hK.1.1 ci r hr).2 hrc hd (kk H locs ws ls h1 h2 h3 h4 h5)
theorem J_instN (X : Cx Γ Δ A l0 cc own nL R0 ret nm) {a ci idx : Nat} (ha : wK w a = some (.inl ci)) (hf : IN own idx ci) (hd : decode cc pc = .ok (.instanceof idx, 3)) (kk : J Γ Δ A nL w cells slots Q (pc + 3) L (.int 0 :: st)) : J Γ Δ A nL w cells slots Q (pc) L (.ref a :: st) := by
  obtain ⟨p, l, e, R, s, m, args, below, meth, c⟩ := Γ
  obtain ⟨hl, hR, hx, hb, hown, hml, hts, hK, hA, hret, hlk0, hnm, hst0⟩ := X
  intro H locs ws ls h1 h2 h3 h4 h5
  obtain ⟨q0, hq⟩ := wrep_at h1 ha
  obtain ⟨r, E, hr, k1, k2⟩ := hf
  exact va_instNo hx hb hown (hts _ k1) (hK.2.1 _ k2) (va_recv hK.1 h2 hr hq) hd (kk H locs ws ls h1 h2 h3 h4 h5)
theorem J_inst0 (X : Cx Γ Δ A l0 cc own nL R0 ret nm) {idx : Nat} (hd : decode cc pc = .ok (.instanceof idx, 3)) (kk : J Γ Δ A nL w cells slots Q (pc + 3) L (.int 0 :: st)) : J Γ Δ A nL w cells slots Q (pc) L (.null :: st) := by
  obtain ⟨p, l, e, R, s, m, args, below, meth, c⟩ := Γ
  obtain ⟨hl, hR, hx, hb, hown, hml, hts, hK, hA, hret, hlk0, hnm, hst0⟩ := X
  exact fun H locs ws ls h1 h2 h3 h4 h5 => lv_instN hx hb hd (kk H locs ws ls h1 h2 h3 h4 h5)
theorem J_cast0 (X : Cx Γ Δ A l0 cc own nL R0 ret nm) {idx : Nat} (hd : decode cc pc = .ok (.checkcast idx, 3)) (kk : J Γ Δ A nL w cells slots Q (pc + 3) L (.null :: st)) : J Γ Δ A nL w cells slots Q (pc) L (.null :: st) := by
  obtain ⟨p, l, e, R, s, m, args, below, meth, c⟩ := Γ
  obtain ⟨hl, hR, hx, hb, hown, hml, hts, hK, hA, hret, hlk0, hnm, hst0⟩ := X
  exact fun H locs ws ls h1 h2 h3 h4 h5 => lv_castN hx hb hd (kk H locs ws ls h1 h2 h3 h4 h5)
end JH
end
section
/-! ===== contracts ===== -/
def wA (w : Wd) (n : Nat) : Nat → Prop := fun q => (wK w q).isSome = true ∨ n ≤ q
def HW (Δ : Dat) (A : Nat → Prop) (w : Wd) (H : Heap) : Prop := ∃ ws, wrep Δ.2 w ws ∧ va_P Δ.1 vwCl ws H ∧ va_D A ws
def PcW (Δ : Dat) (av : List Value) (w : Wd) (n : Nat) : Array Value → State → Prop := fun a U => a = av.toArray ∧ U.heap.size = n ∧ SK Δ (wA w n) U U.heap ∧ HW Δ (fun _ => True) w U.heap
def QcW (Δ : Dat) (w : Wd) (n : Nat) (post : Option Value → Wd → Prop) : Array Value → State → Outcome → State → Prop := fun _ st oc t => ∃ (r : Option Value) (w' : Wd), oc = .returned r ∧ post r w' ∧ HW Δ (wA w n) w' t.heap ∧ va_F (wA w n) st t
def XcW (Δ : Dat) (w : Wd) (n : Nat) (px : String → Wd → Prop) : String → State → State → Prop := fun E st t => ∃ w' : Wd, px E w' ∧ HW Δ (wA w n) w' t.heap ∧ va_F (wA w n) st t
/-- a method's contract at these arguments and this world: it returns -/
def Ct (l : Launch) (y : MethodName) (hd : Cond) (rm : Room) (Δ : Dat) (av : List Value) (w : Wd) (post : Option Value → Wd → Prop) : Prop := ∀ n, Met l y (hd :: TT) rm (PcW Δ av w n) (QcW Δ w n post) rm.cells rm.slots (wA w n)
/-- .. it returns or throws -/
def Cx2 (l : Launch) (y : MethodName) (hd : Cond) (rm : Room) (Δ : Dat) (av : List Value) (w : Wd) (post : Option Value → Wd → Prop) (px : String → Wd → Prop) : Prop := ∀ n, vx_Met l y (hd :: TT) rm (PcW Δ av w n) (QcW Δ w n post) (XcW Δ w n px) rm.cells rm.slots (wA w n)
theorem PcW_blind {Δ : Dat} {av : List Value} {w : Wd} {n : Nat} : FrameBlind (PcW Δ av w n) := fun _ U _ _ h => ⟨h.1, h.2.1, SK.same (u := U) rfl h.2.2.1, h.2.2.2⟩
theorem wA_in {Δ : Dat} {w : Wd} {ws : va_W} {A : Nat → Prop} {H0 H : Heap} {locs : List Loc} (h1 : wrep Δ.2 w ws) (h3 : va_D A ws) (h4 : va_S A H0 H locs) (hA : ∀ q, H0.size ≤ q → A q) : ∀ q, wA w H.size q → A q := by
  intro q hq
  rcases hq with hq | hq
  · obtain ⟨d, hd⟩ := Option.isSome_iff_exists.mp hq
    obtain ⟨k, hk'⟩ := wrep_at h1 hd
    exact h3.2 k _ hk'
  · exact hA q (Nat.le_trans h4.1 hq)
theorem wA_D {Δ : Dat} {w : Wd} {ws : va_W} {A : Nat → Prop} {n : Nat} (h1 : wrep Δ.2 w ws) (h3 : va_D A ws) : va_D (wA w n) ws :=
  ⟨h3.1, fun k q hk => by
    obtain ⟨d, hd, -⟩ := (h1 q.1 q.2).mp (List.mem_of_getElem? hk)
    exact Or.inl (by rw [hd]; rfl)⟩
theorem wA_st {Δ : Dat} {w : Wd} {ws : va_W} {H : Heap} (h1 : wrep Δ.2 w ws) (h2 : va_P Δ.1 vwCl ws H) : ∀ (q : Nat) (cell : Cell), wA w H.size q → H[q]? = some cell → cell.vm.isStatics = false := by
  intro q cell hq hc
  rcases hq with hq | hq
  · obtain ⟨d, hd⟩ := Option.isSome_iff_exists.mp hq
    obtain ⟨k, hk'⟩ := wrep_at h1 hd
    have h := h2 k _ hk'
    cases d with
    | inl ci =>
      obtain ⟨r, -, cell', g1, -, g3, -⟩ := h
      cases Option.some.inj (g1.symm.trans hc)
      rw [g3]
      rfl
    | inr tn =>
      have h' : H[q]? = some (vp_cell _ _) := h
      cases Option.some.inj (h'.symm.trans hc)
      unfold vp_cell
      split <;> rfl
  · have := (Array.getElem?_eq_some_iff.mp hc).1
    omega
def AE (Γ : Cxt) (w : Wd) : Nat → Prop := match Γ with
  | (_, _, _, _, s, _, _, _, _, _) => wA w s.heap.size
def QE (Γ : Cxt) (Δ : Dat) (w : Wd) (post : Option Value → Wd → Prop) (rm : Room) : State → Prop := match Γ with
  | (_, _, _, _, s, _, args, below, _, _) => MQ below (QcW Δ w s.heap.size post) args s rm.cells rm.slots (wA w s.heap.size)
def QX (Γ : Cxt) (Δ : Dat) (w : Wd) (post : Option Value → Wd → Prop) (px : String → Wd → Prop) (rm : Room) : State → Prop := match Γ with
  | (_, _, _, _, s, _, args, below, _, _) => vx_MQ below (QcW Δ w s.heap.size post) (XcW Δ w s.heap.size px) args s rm.cells rm.slots (wA w s.heap.size)
/-- the method's table of handlers -/
def TB (Γ : Cxt) (tb : List ExceptionTableEntry) : Prop := match Γ with
  | (_, _, _, _, _, _, _, _, _, c) => c.exceptionTable.toList = tb
section JE
variable {l : Launch} {y : MethodName} {cc : ByteArray} {maxL : Nat} {ret : Option FieldType} {rm : Room} {Δ : Dat} {av : List Value} {w : Wd} {post : Option Value → Wd → Prop} {px : String → Wd → Prop} {L : List (Option Value)}
theorem Ct_cx {hd : Cond} {p : Program} {e : Env} {s s₁ : State} {m : MethodId} {below : List Frame} {meth : Method} {c : Code} {ws : va_W} (B : BodyLoose p l y (headSpec (hd :: TT) rm) cc maxL ret e s m av.toArray below meth c s₁) (hml : c.maxLocals = maxL) (hSK : SK Δ (wA w s.heap.size) s s.heap) (hw1 : wrep Δ.2 w ws) (hw2 : va_P Δ.1 vwCl ws s.heap) :
    Cx (p, l, e, rm, s, m, av.toArray, below, meth, c) Δ (wA w s.heap.size) l cc y.cls maxL rm ret y.name :=
  ⟨rfl, rfl, B.exec, B.bytes, findClass_of_methodNamed B.named, hml, fun x hx => atoms_spec (ws := hd :: TT) B.pre x (List.mem_cons_of_mem _ hx), hSK, fun q h => Or.inr h, B.returns, B.notSynchronized, (name_of_methodNamed B.named B.method).1, wA_st hw1 hw2⟩
theorem Ct_of (hy : plainName y.cls = true) (hlen : (lg_sl av).length ≤ maxL) (hL : lin av maxL = L)
    (body : ∀ Γ, Cx Γ Δ (AE Γ w) l cc y.cls maxL rm ret y.name → J Γ Δ (AE Γ w) maxL w 0 0 (QE Γ Δ w post rm) 0 L []) : Ct l y (.code y cc maxL ret) rm Δ av w post := by
  intro n
  refine Met.ofW (cc := cc) (maxL := maxL) (ret := ret) hy rfl ?_
  intro p e s m args below meth c s₁ B hml hv
  obtain ⟨rfl, hsz, hSK, ws, hw1, hw2, hw3⟩ := hv
  subst hsz; subst hL
  rw [lg_entry_eq]
  exact body _ (Ct_cx B hml hSK hw1 hw2) s.heap [] ws _ hw1 hw2 (wA_D hw1 hw3) va_S.rf (lhas_entry av hlen)
theorem Cx2_of (hy : plainName y.cls = true) (hlen : (lg_sl av).length ≤ maxL) (hL : lin av maxL = L)
    (body : ∀ Γ, Cx Γ Δ (AE Γ w) l cc y.cls maxL rm ret y.name → TB Γ [] → J Γ Δ (AE Γ w) maxL w 0 0 (QX Γ Δ w post px rm) 0 L []) : Cx2 l y (.code y cc maxL ret) rm Δ av w post px := by
  intro n
  refine vx_ofW (cc := cc) (maxL := maxL) (ret := ret) hy rfl ?_
  intro p e s m args below meth c s₁ B hml htb hv
  obtain ⟨rfl, hsz, hSK, ws, hw1, hw2, hw3⟩ := hv
  subst hsz; subst hL
  rw [lg_entry_eq]
  exact body _ (Ct_cx B hml hSK hw1 hw2) (List.eq_nil_iff_forall_not_mem.mpr fun x hx => htb x hx) s.heap [] ws _ hw1 hw2 (wA_D hw1 hw3) va_S.rf (lhas_entry av hlen)
theorem CtW_of {hh : List (Nat × Nat × Nat × Nat)} (hy : plainName y.cls = true) (hlen : (lg_sl av).length ≤ maxL) (hL : lin av maxL = L)
    (body : ∀ Γ, Cx Γ Δ (AE Γ w) l cc y.cls maxL rm ret y.name → TB Γ (tableOf hh) → J Γ Δ (AE Γ w) maxL w 0 0 (QE Γ Δ w post rm) 0 L []) : Ct l y (.codeWith y cc maxL ret hh) rm Δ av w post := by
  intro n
  refine va_MetW (cc := cc) (maxL := maxL) (ret := ret) (hh := hh) hy rfl ?_
  intro p e s m args below meth c s₁ B hml hv
  obtain ⟨rfl, hsz, hSK, ws, hw1, hw2, hw3⟩ := hv
  subst hsz
  have htb : c.exceptionTable.toList = tableOf hh := vx_table (x := y) B (atoms_spec (ws := .codeWith y cc maxL ret hh :: TT) B.pre _ List.mem_cons_self)
  subst hL
  rw [lg_entry_eq]
  exact body _ (Ct_cx B hml hSK hw1 hw2) htb s.heap [] ws _ hw1 hw2 (wA_D hw1 hw3) va_S.rf (lhas_entry av hlen)
end JE
section JW
variable {p : Program} {l : Launch} {e : Env} {R : Room} {s : State} {m : MethodId} {args : Array Value} {below : List Frame} {meth : Method} {c : Code} {H : Heap} {locs : List Loc} {cells slots mc ms pc : Nat} {ls : Array Slot} {st0 rest : List Value} {Δ : Dat} {w : Wd} {post : Option Value → Wd → Prop} {px : String → Wd → Prop} {a : Array Value} {Q : State → Prop} {A : Nat → Prop} {ws : va_W}
theorem W_keep {st₀ t T' : State} {L : List Loc} (h0 : st₀.heap = H) (e1 : T'.heap = t.heap) (hF : va_F (wA w H.size) st₀ t) (hL : ∀ q ∈ L, wA w H.size q.base) (wAA : ∀ q, wA w H.size q → A q) (h4 : va_S A s.heap H locs) : va_S A s.heap T'.heap (locs ++ L) := by
  obtain ⟨hz, hk⟩ := hF
  rw [h0] at hz hk
  exact ⟨Nat.le_trans h4.1 (by rw [e1]; exact hz), fun q i1 i2 => by rw [e1, hk q (Nat.lt_of_lt_of_le i1 h4.1) (fun z => i2 (wAA q z))]; exact h4.2.1 q i1 i2, fun q hq => by
      rcases List.mem_append.mp hq with h | h
      · exact h4.2.2 q h
      · exact wAA _ (hL q h)⟩
theorem W_run (hr : va_Run p l e R s m args below meth c H locs cells slots mc ms (F0 m pc ls st0) rest (QcW Δ w H.size post a) (wA w H.size)) (h1 : wrep Δ.2 w ws) (h3 : va_D A ws) (h4 : va_S A s.heap H locs) (hA : ∀ q, s.heap.size ≤ q → A q)
    (kk : ∀ (r : Option Value) (w' : Wd), post r w' → ∀ (H1 : Heap) (locs1 : List Loc) (ws1 : va_W), wrep Δ.2 w' ws1 → va_P Δ.1 vwCl ws1 H1 → va_D A ws1 → va_S A s.heap H1 locs1 → W p l e R s m args below meth c H1 locs1 (cells + mc) (slots + ms) Q (F0 m (pc + 3) ls (r.toList ++ rest))) : W p l e R s m args below meth c H locs cells slots Q (F0 m pc ls st0) := by
  intro T hT X
  obtain ⟨v, st₀, t, T', L, h0, X', hL, e1, e2, ⟨r, w', hv, hp, ⟨ws1, g1, g2, g3⟩, hF⟩, st⟩ := hr T hT X
  cases hv
  have wAA := wA_in (H := H) h1 h3 h4 hA
  obtain ⟨t2, a1, b1⟩ := kk _ w' hp T'.heap (locs ++ L) ws1 g1 (by rw [e1]; exact g2) ⟨g3.1, fun k q hq => wAA _ (g3.2 k q hq)⟩ (W_keep h0 e1 hF hL wAA h4) T' rfl X'
  exact ⟨t2, st t2 a1, b1⟩
theorem W_runX (hr : vx_Run p l e R s m args below meth c H locs cells slots mc ms (F0 m pc ls st0) rest (QcW Δ w H.size post a) (XcW Δ w H.size px) (wA w H.size)) (h1 : wrep Δ.2 w ws) (h3 : va_D A ws) (h4 : va_S A s.heap H locs) (hA : ∀ q, s.heap.size ≤ q → A q)
    (kk : ∀ (r : Option Value) (w' : Wd), post r w' → ∀ (H1 : Heap) (locs1 : List Loc) (ws1 : va_W), wrep Δ.2 w' ws1 → va_P Δ.1 vwCl ws1 H1 → va_D A ws1 → va_S A s.heap H1 locs1 → W p l e R s m args below meth c H1 locs1 (cells + mc) (slots + ms) Q (F0 m (pc + 3) ls (r.toList ++ rest)))
    (kx : ∀ (E : String) (w' : Wd), px E w' → ∀ (H1 : Heap) (locs1 : List Loc) (ws1 : va_W) (q : Addr) (ce : Cell), wrep Δ.2 w' ws1 → va_P Δ.1 vwCl ws1 H1 → va_D A ws1 → va_S A s.heap H1 locs1 → H1[q]? = some ce → ce.vm = .none → s.vm.findClass E = some ce.cls → vx_W p l e R s m args below meth c H1 locs1 (cells + mc) (slots + ms) Q (F0 m pc ls rest) q) : W p l e R s m args below meth c H locs cells slots Q (F0 m pc ls st0) := by
  intro T hT X
  have wAA := wA_in (H := H) h1 h3 h4 hA
  rcases hr T hT X with ⟨v, st₀, t, T', L, h0, X', hL, e1, e2, ⟨r, w', hv, hp, ⟨ws1, g1, g2, g3⟩, hF⟩, st⟩ | ⟨q, st₀, t, T', L, E, ce, h0, X', hL, e1, e2, ⟨w', hp, ⟨ws1, g1, g2, g3⟩, hF⟩, hc1, hc2, hc3, st⟩
  · cases hv
    obtain ⟨t2, a1, b1⟩ := kk _ w' hp T'.heap (locs ++ L) ws1 g1 (by rw [e1]; exact g2) ⟨g3.1, fun k q hq => wAA _ (g3.2 k q hq)⟩ (W_keep h0 e1 hF hL wAA h4) T' rfl X'
    exact ⟨t2, st t2 a1, b1⟩
  · obtain ⟨t2, a1, b1⟩ := kx E w' hp T'.heap (locs ++ L) ws1 q ce g1 (by rw [e1]; exact g2) ⟨g3.1, fun k q hq => wAA _ (g3.2 k q hq)⟩ (W_keep h0 e1 hF hL wAA h4) (by rw [e1]; exact hc1) hc2 hc3 T' rfl X'
    exact ⟨t2, st.trans a1, b1⟩
end JW
theorem TT_pay {hd : Cond} {args : Array Value} {s : State} (hts : ∀ x ∈ TT, x.before args s = true) (h : hd ∈ TT) : ∀ x ∈ (hd :: TT), ∀ (a' : Array Value) (U : State), s.WarmedH U.vm → x.before a' U = true := by
  intro x hx a' U hW
  rcases List.mem_cons.mp hx with rfl | hx
  · exact TT_warm _ h _ _ _ _ hW (hts _ h)
  · exact TT_warm _ hx _ _ _ _ hW (hts _ hx)
/-- a call's words: the callee's code, its class, how many arguments; then the link -/
def CD (y : MethodName) (hd : Cond) (np : Nat) : Prop := hd ∈ TT ∧ Cond.initialized y.cls ∈ TT ∧ (y.cls ≠ "java/lang/invoke/MethodHandle" ∧ y.cls ≠ "java/lang/invoke/VarHandle") ∧ (parseMethodDescriptor y.desc).map (fun d => d.parameters.length) = some np
def LK (own : String) (idx : Nat) (y : MethodName) : Prop := Cond.methodLink own idx y ∈ TT
theorem CD_np {y : MethodName} {np : Nat} (h2 : (parseMethodDescriptor y.desc).map (fun d => d.parameters.length) = some np) : ∀ sig, parseMethodDescriptor y.desc = some sig → np = sig.parameters.length := by
  intro sig h
  rw [h] at h2
  exact (Option.some.inj h2).symm
/-- something thrown over the frame -/
def JX (Γ : Cxt) (Δ : Dat) (A : Nat → Prop) (nL : Nat) (w : Wd) (cells slots : Nat) (Q : State → Prop) (pc : Nat) (L : List (Option Value)) (rest : List Value) (E : String) : Prop :=
  match Γ with
  | (p, l, e, R, s, m, args, below, meth, c) =>
    ∀ (H : Heap) (locs : List Loc) (ws : va_W) (ls : Array Slot) (q : Addr) (ce : Cell), wrep Δ.2 w ws → va_P Δ.1 vwCl ws H → va_D A ws → va_S A s.heap H locs → lhas ls nL L → H[q]? = some ce → ce.vm = .none → s.vm.findClass E = some ce.cls → vx_W p l e R s m args below meth c H locs cells slots Q (F0 m pc ls rest) q
section JC
variable {Γ : Cxt} {Δ : Dat} {A : Nat → Prop} {l0 : Launch} {cc : ByteArray} {own : String} {nL : Nat} {R0 : Room} {ret : Option FieldType} {nm : String} {w : Wd} {cells slots : Nat} {Q : State → Prop} {pc : Nat} {L : List (Option Value)} {st : List Value}
variable {y : MethodName} {bytes : ByteArray} {maxL idx : Nat} {rt : Option FieldType} {rm : Room} {post : Option Value → Wd → Prop} {px : String → Wd → Prop}

theorem J_callS (X : Cx Γ Δ A l0 cc own nL R0 ret nm) {As rest st0 : List Value} (hc : Ct l0 y (.code y bytes maxL rt) rm Δ (As) w post) (cd : CD y (.code y bytes maxL rt) As.length) (lk : LK own idx y) (hstc : Cond.static y ∈ TT) (hfr : rm.frames + 1 ≤ R0.frames) (hlo : 8 + (maxL + 11) + rm.locals ≤ R0.locals) (hcl : cells + rm.cells ≤ R0.cells) (hsl : slots + rm.slots ≤ R0.slots) (hst : st0 = As.reverse ++ rest) (hcat : (rest.map fun v => v.category).sum ≤ 8) (hd : decode cc pc = .ok (.invokestatic idx, 3)) (kk : ∀ (r : Option Value) (w' : Wd), post r w' → J Γ Δ A nL w' (cells + rm.cells) (slots + rm.slots) Q (pc + 3) L (r.toList ++ rest)) : J Γ Δ A nL w cells slots Q (pc) L (st0) := by
  obtain ⟨p, l, e, R, s, m, args, below, meth, c⟩ := Γ
  obtain ⟨hl, hR, hx, hb, hown, hml, hts, hK, hA, hret, hlk0, hnm, hst0⟩ := X
  intro H locs ws ls h1 h2 h3 h4 h5
  subst hR; subst hl; subst hst
  have hW8 : 2 * (F0 m pc ls (As.reverse ++ rest)).monitorRoom + (rest.map fun v => v.category).sum ≤ 8 := lv_room hcat
  have hpc : ∀ U : State, U.heap = H → s.WarmedH U.vm → PcW Δ (As) w H.size (As).toArray U := fun U hU hW => ⟨rfl, by rw [hU], by rw [hU]; exact hK.warm hW (wA_in h1 h3 h4 hA) h4.2.1, ws, h1, by rw [hU]; exact h2, h3.weaken (fun _ _ _ _ => trivial)⟩
  refine W_run (a := (As).toArray) (mc := rm.cells) (ms := rm.slots) ?_ h1 h3 h4 hA (fun r w' hp H1 locs1 ws1 g1 g2 g3 g4 => kk r w' hp H1 locs1 ws1 ls g1 g2 g3 g4 h5)
  exact va_runS (Ts := TT) ⟨hx, hb, hml, hown, hts⟩ (hc H.size) ⟨⟨rfl, rfl, hfr, hlo, TT_pay hts cd.1, List.mem_cons_self, hts _ cd.1, hts _ cd.2.1, cd.2.2.1, CD_np cd.2.2.2, hts _ lk⟩, hts _ hstc⟩ ⟨PcW_blind, hpc⟩ rfl rfl h5.1 rfl hW8 hd ⟨hcl, hsl⟩
theorem J_callV (X : Cx Γ Δ A l0 cc own nL R0 ret nm) {As rest st0 : List Value} {b ci : Nat} {r0 : vw_C} (hbk : wK w b = some (.inl ci)) (hr0 : vwCl[ci]? = some r0) (hc : Ct l0 y (.code y bytes maxL rt) rm Δ (.ref b :: As) w post) (cd : CD y (.code y bytes maxL rt) As.length) (lk : LK own idx y) (hsel : Cond.instanceMethod y ∈ TT ∧ Cond.selects r0.1 y y ∈ TT) (hfr : rm.frames + 1 ≤ R0.frames) (hlo : 8 + (maxL + 11) + rm.locals ≤ R0.locals) (hcl : cells + rm.cells ≤ R0.cells) (hsl : slots + rm.slots ≤ R0.slots) (hst : st0 = As.reverse ++ .ref b :: rest) (hcat : (rest.map fun v => v.category).sum ≤ 8) (hd : decode cc pc = .ok (.invokevirtual idx, 3)) (kk : ∀ (r : Option Value) (w' : Wd), post r w' → J Γ Δ A nL w' (cells + rm.cells) (slots + rm.slots) Q (pc + 3) L (r.toList ++ rest)) : J Γ Δ A nL w cells slots Q (pc) L (st0) := by
  obtain ⟨p, l, e, R, s, m, args, below, meth, c⟩ := Γ
  obtain ⟨hl, hR, hx, hb, hown, hml, hts, hK, hA, hret, hlk0, hnm, hst0⟩ := X
  intro H locs ws ls h1 h2 h3 h4 h5
  subst hR; subst hl; subst hst
  have hW8 : 2 * (F0 m pc ls (As.reverse ++ .ref b :: rest)).monitorRoom + (rest.map fun v => v.category).sum ≤ 8 := lv_room hcat
  have hpc : ∀ U : State, U.heap = H → s.WarmedH U.vm → PcW Δ (.ref b :: As) w H.size (.ref b :: As).toArray U := fun U hU hW => ⟨rfl, by rw [hU], by rw [hU]; exact hK.warm hW (wA_in h1 h3 h4 hA) h4.2.1, ws, h1, by rw [hU]; exact h2, h3.weaken (fun _ _ _ _ => trivial)⟩
  obtain ⟨q0, hq⟩ := wrep_at h1 hbk
  have hrc := va_recv hK.1 h2 hr0 hq
  refine W_run (a := (.ref b :: As).toArray) (mc := rm.cells) (ms := rm.slots) ?_ h1 h3 h4 hA (fun r w' hp H1 locs1 ws1 g1 g2 g3 g4 => kk r w' hp H1 locs1 ws1 ls g1 g2 g3 g4 h5)
  exact va_runV (C := r0.1) (Ts := TT) ⟨hx, hb, hml, hown, hts⟩ (hc H.size) ⟨⟨rfl, rfl, hfr, hlo, TT_pay hts cd.1, List.mem_cons_self, hts _ cd.1, hts _ cd.2.1, cd.2.2.1, CD_np cd.2.2.2, hts _ lk⟩, hts _ hsel.1, hts _ hsel.2⟩ ⟨PcW_blind, hrc, hpc⟩ rfl rfl h5.1 rfl hW8 hd ⟨hcl, hsl⟩
theorem J_callVX (X : Cx Γ Δ A l0 cc own nL R0 ret nm) {As rest st0 : List Value} {b ci : Nat} {r0 : vw_C} (hbk : wK w b = some (.inl ci)) (hr0 : vwCl[ci]? = some r0) (hc : Cx2 l0 y (.code y bytes maxL rt) rm Δ (.ref b :: As) w post px) (cd : CD y (.code y bytes maxL rt) As.length) (lk : LK own idx y) (hsel : Cond.instanceMethod y ∈ TT ∧ Cond.selects r0.1 y y ∈ TT) (hfr : rm.frames + 1 ≤ R0.frames) (hlo : 8 + (maxL + 11) + rm.locals ≤ R0.locals) (hcl : cells + rm.cells ≤ R0.cells) (hsl : slots + rm.slots ≤ R0.slots) (hst : st0 = As.reverse ++ .ref b :: rest) (hcat : (rest.map fun v => v.category).sum ≤ 8) (hd : decode cc pc = .ok (.invokevirtual idx, 3)) (kk : ∀ (r : Option Value) (w' : Wd), post r w' → J Γ Δ A nL w' (cells + rm.cells) (slots + rm.slots) Q (pc + 3) L (r.toList ++ rest)) (kx : ∀ (E : String) (w' : Wd), px E w' → JX Γ Δ A nL w' (cells + rm.cells) (slots + rm.slots) Q pc L rest E) : J Γ Δ A nL w cells slots Q (pc) L (st0) := by
  obtain ⟨p, l, e, R, s, m, args, below, meth, c⟩ := Γ
  obtain ⟨hl, hR, hx, hb, hown, hml, hts, hK, hA, hret, hlk0, hnm, hst0⟩ := X
  intro H locs ws ls h1 h2 h3 h4 h5
  subst hR; subst hl; subst hst
  have hW8 : 2 * (F0 m pc ls (As.reverse ++ .ref b :: rest)).monitorRoom + (rest.map fun v => v.category).sum ≤ 8 := lv_room hcat
  have hpc : ∀ U : State, U.heap = H → s.WarmedH U.vm → PcW Δ (.ref b :: As) w H.size (.ref b :: As).toArray U := fun U hU hW => ⟨rfl, by rw [hU], by rw [hU]; exact hK.warm hW (wA_in h1 h3 h4 hA) h4.2.1, ws, h1, by rw [hU]; exact h2, h3.weaken (fun _ _ _ _ => trivial)⟩
  obtain ⟨q0, hq⟩ := wrep_at h1 hbk
  have hrc := va_recv hK.1 h2 hr0 hq
  refine W_runX (a := (.ref b :: As).toArray) (mc := rm.cells) (ms := rm.slots) ?_ h1 h3 h4 hA (fun r w' hp H1 locs1 ws1 g1 g2 g3 g4 => kk r w' hp H1 locs1 ws1 ls g1 g2 g3 g4 h5) (fun E w' hp H1 locs1 ws1 q ce g1 g2 g3 g4 g5 g6 g7 => kx E w' hp H1 locs1 ws1 ls q ce g1 g2 g3 g4 h5 g5 g6 g7)
  exact vx_runV (C := r0.1) (Ts := TT) ⟨hx, hb, hml, hown, hts⟩ (hc H.size) ⟨⟨rfl, rfl, hfr, hlo, TT_pay hts cd.1, List.mem_cons_self, hts _ cd.1, hts _ cd.2.1, cd.2.2.1, CD_np cd.2.2.2, hts _ lk⟩, hts _ hsel.1, hts _ hsel.2⟩ ⟨PcW_blind, hrc, hpc⟩ rfl rfl h5.1 rfl hW8 hd ⟨hcl, hsl⟩
theorem J_callI (X : Cx Γ Δ A l0 cc own nL R0 ret nm) {As rest st0 : List Value} {b : Nat} (hc : Ct l0 y (.code y bytes maxL none) rm Δ (.ref b :: As) w post) (cd : CD y (.code y bytes maxL none) As.length) (lk : LK own idx y) (hini : y.name = "<init>" ∧ Cond.instanceMethod y ∈ TT) (hfr : rm.frames + 1 ≤ R0.frames) (hlo : 8 + (maxL + 11) + rm.locals ≤ R0.locals) (hcl : cells + rm.cells ≤ R0.cells) (hsl : slots + rm.slots ≤ R0.slots) (hst : st0 = As.reverse ++ .ref b :: rest) (hcat : (rest.map fun v => v.category).sum ≤ 8) (hd : decode cc pc = .ok (.invokespecial idx, 3)) (kk : ∀ (r : Option Value) (w' : Wd), post r w' → J Γ Δ A nL w' (cells + rm.cells) (slots + rm.slots) Q (pc + 3) L (r.toList ++ rest)) : J Γ Δ A nL w cells slots Q (pc) L (st0) := by
  obtain ⟨p, l, e, R, s, m, args, below, meth, c⟩ := Γ
  obtain ⟨hl, hR, hx, hb, hown, hml, hts, hK, hA, hret, hlk0, hnm, hst0⟩ := X
  intro H locs ws ls h1 h2 h3 h4 h5
  subst hR; subst hl; subst hst
  have hW8 : 2 * (F0 m pc ls (As.reverse ++ .ref b :: rest)).monitorRoom + (rest.map fun v => v.category).sum ≤ 8 := lv_room hcat
  have hpc : ∀ U : State, U.heap = H → s.WarmedH U.vm → PcW Δ (.ref b :: As) w H.size (.ref b :: As).toArray U := fun U hU hW => ⟨rfl, by rw [hU], by rw [hU]; exact hK.warm hW (wA_in h1 h3 h4 hA) h4.2.1, ws, h1, by rw [hU]; exact h2, h3.weaken (fun _ _ _ _ => trivial)⟩
  refine W_run (a := (.ref b :: As).toArray) (mc := rm.cells) (ms := rm.slots) ?_ h1 h3 h4 hA (fun r w' hp H1 locs1 ws1 g1 g2 g3 g4 => kk r w' hp H1 locs1 ws1 ls g1 g2 g3 g4 h5)
  exact va_runI (Ts := TT) ⟨hx, hb, hml, hown, hts⟩ (hc H.size) ⟨⟨rfl, rfl, hfr, hlo, TT_pay hts cd.1, List.mem_cons_self, hts _ cd.1, hts _ cd.2.1, cd.2.2.1, CD_np cd.2.2.2, hts _ lk⟩, hini.1, hts _ hini.2⟩ ⟨PcW_blind, hpc⟩ rfl rfl h5.1 rfl hW8 hd ⟨hcl, hsl⟩
theorem J_callIN (X : Cx Γ Δ A l0 cc own nL R0 ret nm) {As rest st0 : List Value} {b : Nat} {host : String} (hc : Ct l0 y (.code y bytes maxL none) rm Δ (.ref b :: As) w post) (cd : CD y (.code y bytes maxL none) As.length) (lk : Cond.methodLinkNest own idx y host ∈ TT) (hini : y.name = "<init>" ∧ Cond.instanceMethod y ∈ TT) (hfr : rm.frames + 1 ≤ R0.frames) (hlo : 8 + (maxL + 11) + rm.locals ≤ R0.locals) (hcl : cells + rm.cells ≤ R0.cells) (hsl : slots + rm.slots ≤ R0.slots) (hst : st0 = As.reverse ++ .ref b :: rest) (hcat : (rest.map fun v => v.category).sum ≤ 8) (hd : decode cc pc = .ok (.invokespecial idx, 3)) (kk : ∀ (r : Option Value) (w' : Wd), post r w' → J Γ Δ A nL w' (cells + rm.cells) (slots + rm.slots) Q (pc + 3) L (r.toList ++ rest)) : J Γ Δ A nL w cells slots Q (pc) L (st0) := by
  obtain ⟨p, l, e, R, s, m, args, below, meth, c⟩ := Γ
  obtain ⟨hl, hR, hx, hb, hown, hml, hts, hK, hA, hret, hlk0, hnm, hst0⟩ := X
  intro H locs ws ls h1 h2 h3 h4 h5
  subst hR; subst hl; subst hst
  have hW8 : 2 * (F0 m pc ls (As.reverse ++ .ref b :: rest)).monitorRoom + (rest.map fun v => v.category).sum ≤ 8 := lv_room hcat
  have hpc : ∀ U : State, U.heap = H → s.WarmedH U.vm → PcW Δ (.ref b :: As) w H.size (.ref b :: As).toArray U := fun U hU hW => ⟨rfl, by rw [hU], by rw [hU]; exact hK.warm hW (wA_in h1 h3 h4 hA) h4.2.1, ws, h1, by rw [hU]; exact h2, h3.weaken (fun _ _ _ _ => trivial)⟩
  refine W_run (a := (.ref b :: As).toArray) (mc := rm.cells) (ms := rm.slots) ?_ h1 h3 h4 hA (fun r w' hp H1 locs1 ws1 g1 g2 g3 g4 => kk r w' hp H1 locs1 ws1 ls g1 g2 g3 g4 h5)
  exact va_runIN (Ts := TT) ⟨hx, hb, hml, hown, hts⟩ (hc H.size) ⟨⟨⟨rfl, rfl, hfr, hlo, TT_pay hts cd.1, List.mem_cons_self⟩, hts _ cd.1, hts _ cd.2.1, cd.2.2.1, CD_np cd.2.2.2, hts _ lk⟩, hini.1, hts _ hini.2⟩ ⟨PcW_blind, hpc⟩ rfl rfl h5.1 rfl hW8 hd ⟨hcl, hsl⟩
variable {hh : List (Nat × Nat × Nat × Nat)}
theorem J_callSW (X : Cx Γ Δ A l0 cc own nL R0 ret nm) {As rest st0 : List Value} (hc : Ct l0 y (.codeWith y bytes maxL rt hh) rm Δ (As) w post) (cd : CD y (.codeWith y bytes maxL rt hh) As.length) (lk : LK own idx y) (hstc : Cond.static y ∈ TT) (hfr : rm.frames + 1 ≤ R0.frames) (hlo : 8 + (maxL + 11) + rm.locals ≤ R0.locals) (hcl : cells + rm.cells ≤ R0.cells) (hsl : slots + rm.slots ≤ R0.slots) (hst : st0 = As.reverse ++ rest) (hcat : (rest.map fun v => v.category).sum ≤ 8) (hd : decode cc pc = .ok (.invokestatic idx, 3)) (kk : ∀ (r : Option Value) (w' : Wd), post r w' → J Γ Δ A nL w' (cells + rm.cells) (slots + rm.slots) Q (pc + 3) L (r.toList ++ rest)) : J Γ Δ A nL w cells slots Q (pc) L (st0) := by
  obtain ⟨p, l, e, R, s, m, args, below, meth, c⟩ := Γ
  obtain ⟨hl, hR, hx, hb, hown, hml, hts, hK, hA, hret, hlk0, hnm, hst0⟩ := X
  intro H locs ws ls h1 h2 h3 h4 h5
  subst hR; subst hl; subst hst
  have hW8 : 2 * (F0 m pc ls (As.reverse ++ rest)).monitorRoom + (rest.map fun v => v.category).sum ≤ 8 := lv_room hcat
  have hpc : ∀ U : State, U.heap = H → s.WarmedH U.vm → PcW Δ (As) w H.size (As).toArray U := fun U hU hW => ⟨rfl, by rw [hU], by rw [hU]; exact hK.warm hW (wA_in h1 h3 h4 hA) h4.2.1, ws, h1, by rw [hU]; exact h2, h3.weaken (fun _ _ _ _ => trivial)⟩
  refine W_run (a := (As).toArray) (mc := rm.cells) (ms := rm.slots) ?_ h1 h3 h4 hA (fun r w' hp H1 locs1 ws1 g1 g2 g3 g4 => kk r w' hp H1 locs1 ws1 ls g1 g2 g3 g4 h5)
  exact vx_runSW (Ts := TT) ⟨hx, hb, hml, hown, hts⟩ (hc H.size) ⟨⟨rfl, rfl, hfr, hlo, TT_pay hts cd.1, List.mem_cons_self⟩, hts _ cd.1, hts _ cd.2.1, cd.2.2.1, CD_np cd.2.2.2, hts _ lk, hts _ hstc⟩ ⟨PcW_blind, hpc⟩ rfl rfl h5.1 rfl hW8 hd ⟨hcl, hsl⟩
/-- Object() -/
theorem J_objInit (X : Cx Γ Δ A l0 cc own nL R0 ret nm) {a : Nat} (hlk : Cond.methodLink own idx Lib.objectInit ∈ TT) (hin : Cond.instanceMethod Lib.objectInit ∈ TT) (hco : Cond.code Lib.objectInit ⟨#[0xb1]⟩ 1 none ∈ TT) (hfr : 1 ≤ R0.frames) (hlo : 20 ≤ R0.locals) (hcat : (st.map fun v => v.category).sum ≤ 8) (hd : decode cc pc = .ok (.invokespecial idx, 3)) (kk : J Γ Δ A nL w cells slots Q (pc + 3) L (st)) : J Γ Δ A nL w cells slots Q (pc) L (.ref a :: st) := by
  obtain ⟨p, l, e, R, s, m, args, below, meth, c⟩ := Γ
  obtain ⟨hl, hR, hx, hb, hown, hml, hts, hK, hA, hret, hlk0, hnm, hst0⟩ := X
  intro H locs ws ls h1 h2 h3 h4 h5
  subst hR
  have h8 : 2 * (F0 m pc ls (.ref a :: st)).monitorRoom + (st.map fun v => v.category).sum ≤ 8 := lv_room hcat
  exact W.objInit hx hb hown (hts _ hlk) (hts _ hin) (hts _ hco) rfl (by rw [hml]; exact h5.1) rfl hd hfr (by omega) (kk H locs ws ls h1 h2 h3 h4 h5)
variable {w0 : Wd}
theorem J_iret (X : Cx Γ Δ (AE Γ w0) l0 cc own nL R0 (some .int) nm) {v : Int32} (hp : post (some (.int v)) w) (hc : cells ≤ rm.cells) (hs : slots ≤ rm.slots) (hd : decode cc pc = .ok (.ireturn, 1)) : J Γ Δ (AE Γ w0) nL w cells slots (QE Γ Δ w0 post rm) pc L [.int v] := by
  obtain ⟨p, l, e, R, s, m, args, below, meth, c⟩ := Γ
  obtain ⟨hl, hR, hx, hb, hown, hml, hts, hK, hA, hret, hlk0, hnm, hst0⟩ := X
  intro H locs ws ls h1 h2 h3 h4 h5
  refine W.widen hc hs ?_
  exact W.iret hx hb hret (fun t ht hW => ⟨_, w, rfl, hp, ⟨ws, h1, by rw [ht]; exact h2, h3⟩, h4.F ht⟩) h4.2.2 hd hlk0
theorem J_zret (X : Cx Γ Δ (AE Γ w0) l0 cc own nL R0 (some .boolean) nm) {v : Int32} (hz : v = 0 ∨ v = 1) (hp : post (some (.int v)) w) (hc : cells ≤ rm.cells) (hs : slots ≤ rm.slots) (hd : decode cc pc = .ok (.ireturn, 1)) : J Γ Δ (AE Γ w0) nL w cells slots (QE Γ Δ w0 post rm) pc L [.int v] := by
  obtain ⟨p, l, e, R, s, m, args, below, meth, c⟩ := Γ
  obtain ⟨hl, hR, hx, hb, hown, hml, hts, hK, hA, hret, hlk0, hnm, hst0⟩ := X
  intro H locs ws ls h1 h2 h3 h4 h5
  refine W.widen hc hs ?_
  exact W.zret hx hb hret (by rcases hz with rfl | rfl <;> rfl) (fun t ht hW => ⟨_, w, rfl, hp, ⟨ws, h1, by rw [ht]; exact h2, h3⟩, h4.F ht⟩) h4.2.2 hd hlk0
theorem J_vret (X : Cx Γ Δ (AE Γ w0) l0 cc own nL R0 none nm) (hp : post none w) (hc : cells ≤ rm.cells) (hs : slots ≤ rm.slots) (hd : decode cc pc = .ok (.return_, 1)) : J Γ Δ (AE Γ w0) nL w cells slots (QE Γ Δ w0 post rm) pc L [] := by
  obtain ⟨p, l, e, R, s, m, args, below, meth, c⟩ := Γ
  obtain ⟨hl, hR, hx, hb, hown, hml, hts, hK, hA, hret, hlk0, hnm, hst0⟩ := X
  intro H locs ws ls h1 h2 h3 h4 h5
  refine W.widen hc hs ?_
  exact W.vret hx hb hret (fun t ht hW => ⟨_, w, rfl, hp, ⟨ws, h1, by rw [ht]; exact h2, h3⟩, h4.F ht⟩) h4.2.2 hd hlk0
theorem J_aret {rt0 : FieldType} (X : Cx Γ Δ (AE Γ w0) l0 cc own nL R0 (some rt0) nm) {o : Option Nat} (hrt : (∃ n, rt0 = .object n) ∨ ∃ t, rt0 = .array t) (hp : post (some (va_rf o)) w) (hc : cells ≤ rm.cells) (hs : slots ≤ rm.slots) (hd : decode cc pc = .ok (.areturn, 1)) : J Γ Δ (AE Γ w0) nL w cells slots (QE Γ Δ w0 post rm) pc L [va_rf o] := by
  obtain ⟨p, l, e, R, s, m, args, below, meth, c⟩ := Γ
  obtain ⟨hl, hR, hx, hb, hown, hml, hts, hK, hA, hret, hlk0, hnm, hst0⟩ := X
  intro H locs ws ls h1 h2 h3 h4 h5
  refine W.widen hc hs ?_
  exact W.aret hx hb hret hrt (by cases o <;> simp [va_rf]) (fun t ht hW => ⟨_, w, rfl, hp, ⟨ws, h1, by rw [ht]; exact h2, h3⟩, h4.F ht⟩) h4.2.2 hd hlk0
/-- a return where it might have thrown -/
theorem J_lift {rm : Room} (k : J Γ Δ A nL w cells slots (QE Γ Δ w0 post rm) pc L st) : J Γ Δ A nL w cells slots (QX Γ Δ w0 post px rm) pc L st := by
  obtain ⟨p, l, e, R, s, m, args, below, meth, c⟩ := Γ
  exact fun H locs ws ls h1 h2 h3 h4 h5 => vx_ret (k H locs ws ls h1 h2 h3 h4 h5)
/-- not caught here -/
theorem JX_out (X : Cx Γ Δ (AE Γ w0) l0 cc own nL R0 ret nm) (hT : TB Γ []) {E : String} {rest : List Value} (hp : px E w) (hc : cells ≤ rm.cells) (hs : slots ≤ rm.slots) : JX Γ Δ (AE Γ w0) nL w cells slots (QX Γ Δ w0 post px rm) pc L rest E := by
  obtain ⟨p, l, e, R, s, m, args, below, meth, c⟩ := Γ
  obtain ⟨hl, hR, hx, hb, hown, hml, hts, hK, hA, hret, hlk0, hnm, hst0⟩ := X
  intro H locs ws ls q ce h1 h2 h3 h4 h5 g1 g2 g3
  have hT' : c.exceptionTable.toList = [] := hT
  exact vx_out (by rw [hT']; exact fun x hx => nomatch hx) hlk0 g1 g2 g3 (fun t ht hv => ⟨w, hp, ⟨ws, h1, by rw [ht]; exact h2, h3⟩, h4.F ht⟩) h4.2.2 hc hs
/-- caught by a row of the table; the rows ahead of it name classes that it hasn't -/
theorem JX_catch (X : Cx Γ Δ A l0 cc own nL R0 ret nm) {tb : List ExceptionTableEntry} (hT : TB Γ tb) {E name : String} {rest : List Value} (pre : List ExceptionTableEntry) (x : ExceptionTableEntry) (suf : List ExceptionTableEntry) (hsplit : tb = pre ++ x :: suf)
    (hpass : ∀ z ∈ pre, z.catchType ≠ 0 ∧ ∃ n2 : String, Cond.classLink own z.catchType n2 ∈ TT ∧ (E, n2) ∈ ncL) (hcov : covers x pc = true) (h0 : x.catchType ≠ 0) (hlk : Cond.classLink own x.catchType name ∈ TT) (hcast : Cond.castable E name ∈ TT)
    (kk : ∀ q, J Γ Δ A nL w cells slots Q x.handlerPc L [.ref q]) : JX Γ Δ A nL w cells slots Q pc L rest E := by
  obtain ⟨p, l, e, R, s, m, args, below, meth, c⟩ := Γ
  obtain ⟨hl, hR, hx, hb, hown, hml, hts, hK, hA, hret, hlk0, hnm, hst0⟩ := X
  intro H locs ws ls q ce h1 h2 h3 h4 h5 g1 g2 g3
  have hT' : c.exceptionTable.toList = tb := hT
  exact vx_catch hown pre x suf (hT'.trans hsplit) (fun z hz => by
    obtain ⟨z0, n2, z1, z2⟩ := hpass z hz
    exact Or.inr ⟨z0, n2, hts _ z1, hK.2.1 _ z2⟩) hcov h0 (hts _ hlk) (hts _ hcast) g1 g2 g3 (kk q H locs ws ls h1 h2 h3 h4 h5)
/-- a text thrown: new, dup, ldc, the constructor, athrow -/
def XD (own : String) (ik is ic : Nat) (E text : String) : Prop := Bundle.fit E = true ∧ Cond.classLink own ik E ∈ TT ∧ Cond.initialized E ∈ TT ∧ (is, text) ∈ srL ∧ (∀ x ∈ vx_atS own ic E ["java/lang/RuntimeException", "java/lang/Exception"], x ∈ TT) ∧ ∀ x ∈ Cond.classLink own ik E :: Cond.initialized E :: vx_atS own ic E ["java/lang/RuntimeException", "java/lang/Exception"], vx_ot x = true
theorem J_throw (X : Cx Γ Δ (AE Γ w0) l0 cc "TwoGenerations" nL R0 ret nm) (hfl : l0.stackTraces = false) (hT : TB Γ []) {E text : String} {ik is ic : Nat} (hX : XD "TwoGenerations" ik is ic E text) (hp : px E w)
    (d0 : decode cc pc = .ok (.new ik, 3)) (d3 : decode cc (pc + 3) = .ok (.dup, 1)) (d4 : decode cc (pc + 4) = .ok (.ldc is, 2)) (d6 : decode cc (pc + 6) = .ok (.invokespecial ic, 3)) (d9 : decode cc (pc + 9) = .ok (.athrow, 1))
    (hfr : 6 ≤ R0.frames) (hlo : 100 ≤ R0.locals) (hcat : (st.map fun v => v.category).sum ≤ 8) (hc : cells + 1 ≤ R0.cells) (hs : slots + 6 ≤ R0.slots) (hc' : cells + 1 ≤ rm.cells) (hs' : slots + 6 ≤ rm.slots) : J Γ Δ (AE Γ w0) nL w cells slots (QX Γ Δ w0 post px rm) pc L st := by
  obtain ⟨p, l, e, R, s, m, args, below, meth, c⟩ := Γ
  obtain ⟨hl, hR, hx, hb, hown, hml, hts, hK, hA, hret, hlk0, hnm, hst0⟩ := X
  intro H locs ws ls h1 h2 h3 h4 h5
  subst hR; subst hl
  obtain ⟨x1, x2, x3, x4, x5, x6⟩ := hX
  obtain ⟨sa, hsa⟩ := hK.2.2.1 _ x4
  have hT' : c.exceptionTable.toList = [] := hT
  refine vx_throwS (names := ["java/lang/RuntimeException", "java/lang/Exception"]) (A := wA w0 s.heap.size) hx hb hfl hown x1 (by decide +kernel) (hts _ x2) (hts _ x3) hsa (fun x hx => hts x (x5 x hx)) x6 hK.2.2.2.1 hK.2.2.2.2 h4 (by rw [hml]; exact h5.1) d0 d3 d4 d6 d9 (by rw [hT']; exact fun x hx => nomatch hx) (by simp only [List.length_cons, List.length_nil]; omega) (by simp only [List.length_cons, List.length_nil]; omega) hc hs hlk0 (fun t hv hz hk => ?_) h4.2.2 hc' hs'
  refine ⟨w, hp, ⟨ws, h1, h2.kept (fun k q hq => hk q.1 ((h2 k q hq).lt)), h3⟩, Nat.le_trans h4.1 hz, fun q i1 i2 => ?_⟩
  rw [hk q (Nat.lt_of_lt_of_le i1 h4.1)]
  exact h4.2.1 q i1 i2
end JC
end
section
abbrev c_TG_init : ByteArray := prog_1_method_1_code
abbrev y_TG_init : MethodName := ⟨"TwoGenerations", "<init>", "(III)V"⟩
abbrev h_TG_init : Cond := .code y_TG_init c_TG_init 4 none
theorem d_TG_init_0 : decode c_TG_init 0 = .ok (.aload_n 0, 1) := by decide +kernel
theorem d_TG_init_1 : decode c_TG_init 1 = .ok (.invokespecial 1, 3) := by decide +kernel
theorem d_TG_init_4 : decode c_TG_init 4 = .ok (.aload_n 0, 1) := by decide +kernel
theorem d_TG_init_5 : decode c_TG_init 5 = .ok (.iload_n 1, 1) := by decide +kernel
theorem d_TG_init_6 : decode c_TG_init 6 = .ok (.iconst 1, 1) := by decide +kernel
theorem d_TG_init_7 : decode c_TG_init 7 = .ok (.bipush 8, 2) := by decide +kernel
theorem d_TG_init_9 : decode c_TG_init 9 = .ok (.invokestatic 7, 3) := by decide +kernel
theorem d_TG_init_12 : decode c_TG_init 12 = .ok (.ifCond .eq 7, 3) := by decide +kernel
theorem d_TG_init_15 : decode c_TG_init 15 = .ok (.iload_n 1, 1) := by decide +kernel
theorem d_TG_init_16 : decode c_TG_init 16 = .ok (.goto 4, 3) := by decide +kernel
theorem d_TG_init_19 : decode c_TG_init 19 = .ok (.iconst 4, 1) := by decide +kernel
theorem d_TG_init_20 : decode c_TG_init 20 = .ok (.anewarray 13, 3) := by decide +kernel
theorem d_TG_init_23 : decode c_TG_init 23 = .ok (.putfield 15, 3) := by decide +kernel
theorem d_TG_init_26 : decode c_TG_init 26 = .ok (.aload_n 0, 1) := by decide +kernel
theorem d_TG_init_27 : decode c_TG_init 27 = .ok (.new 19, 3) := by decide +kernel
theorem d_TG_init_30 : decode c_TG_init 30 = .ok (.dup, 1) := by decide +kernel
theorem d_TG_init_31 : decode c_TG_init 31 = .ok (.iload_n 2, 1) := by decide +kernel
theorem d_TG_init_32 : decode c_TG_init 32 = .ok (.iconst 4, 1) := by decide +kernel
theorem d_TG_init_33 : decode c_TG_init 33 = .ok (.bipush 60, 2) := by decide +kernel
theorem d_TG_init_35 : decode c_TG_init 35 = .ok (.invokestatic 7, 3) := by decide +kernel
theorem d_TG_init_38 : decode c_TG_init 38 = .ok (.ifCond .eq 7, 3) := by decide +kernel
theorem d_TG_init_41 : decode c_TG_init 41 = .ok (.iload_n 2, 1) := by decide +kernel
theorem d_TG_init_42 : decode c_TG_init 42 = .ok (.goto 5, 3) := by decide +kernel
theorem d_TG_init_45 : decode c_TG_init 45 = .ok (.bipush 16, 2) := by decide +kernel
theorem d_TG_init_47 : decode c_TG_init 47 = .ok (.invokespecial 21, 3) := by decide +kernel
theorem d_TG_init_50 : decode c_TG_init 50 = .ok (.putfield 24, 3) := by decide +kernel
theorem d_TG_init_53 : decode c_TG_init 53 = .ok (.aload_n 0, 1) := by decide +kernel
theorem d_TG_init_54 : decode c_TG_init 54 = .ok (.new 19, 3) := by decide +kernel
theorem d_TG_init_57 : decode c_TG_init 57 = .ok (.dup, 1) := by decide +kernel
theorem d_TG_init_58 : decode c_TG_init 58 = .ok (.iload_n 3, 1) := by decide +kernel
theorem d_TG_init_59 : decode c_TG_init 59 = .ok (.iconst 4, 1) := by decide +kernel
theorem d_TG_init_60 : decode c_TG_init 60 = .ok (.bipush 120, 2) := by decide +kernel
theorem d_TG_init_62 : decode c_TG_init 62 = .ok (.invokestatic 7, 3) := by decide +kernel
theorem d_TG_init_65 : decode c_TG_init 65 = .ok (.ifCond .eq 7, 3) := by decide +kernel
theorem d_TG_init_68 : decode c_TG_init 68 = .ok (.iload_n 3, 1) := by decide +kernel
theorem d_TG_init_69 : decode c_TG_init 69 = .ok (.goto 5, 3) := by decide +kernel
theorem d_TG_init_72 : decode c_TG_init 72 = .ok (.bipush 40, 2) := by decide +kernel
theorem d_TG_init_74 : decode c_TG_init 74 = .ok (.invokespecial 21, 3) := by decide +kernel
theorem d_TG_init_77 : decode c_TG_init 77 = .ok (.putfield 28, 3) := by decide +kernel
theorem d_TG_init_80 : decode c_TG_init 80 = .ok (.aload_n 0, 1) := by decide +kernel
theorem d_TG_init_81 : decode c_TG_init 81 = .ok (.new 31, 3) := by decide +kernel
theorem d_TG_init_84 : decode c_TG_init 84 = .ok (.dup, 1) := by decide +kernel
theorem d_TG_init_85 : decode c_TG_init 85 = .ok (.aload_n 0, 1) := by decide +kernel
theorem d_TG_init_86 : decode c_TG_init 86 = .ok (.getfield 24, 3) := by decide +kernel
theorem d_TG_init_89 : decode c_TG_init 89 = .ok (.getfield 33, 3) := by decide +kernel
theorem d_TG_init_92 : decode c_TG_init 92 = .ok (.aload_n 0, 1) := by decide +kernel
theorem d_TG_init_93 : decode c_TG_init 93 = .ok (.getfield 28, 3) := by decide +kernel
theorem d_TG_init_96 : decode c_TG_init 96 = .ok (.getfield 33, 3) := by decide +kernel
theorem d_TG_init_99 : decode c_TG_init 99 = .ok (.iadd, 1) := by decide +kernel
theorem d_TG_init_100 : decode c_TG_init 100 = .ok (.invokespecial 37, 3) := by decide +kernel
theorem d_TG_init_103 : decode c_TG_init 103 = .ok (.putfield 38, 3) := by decide +kernel
theorem d_TG_init_106 : decode c_TG_init 106 = .ok (.return_, 1) := by decide +kernel
abbrev c_TG_within : ByteArray := prog_1_method_20_code
abbrev y_TG_within : MethodName := ⟨"TwoGenerations", "within", "(III)Z"⟩
abbrev h_TG_within : Cond := .code y_TG_within c_TG_within 3 (some .boolean)
theorem d_TG_within_0 : decode c_TG_within 0 = .ok (.iload_n 1, 1) := by decide +kernel
theorem d_TG_within_1 : decode c_TG_within 1 = .ok (.iload_n 0, 1) := by decide +kernel
theorem d_TG_within_2 : decode c_TG_within 2 = .ok (.if_icmp .gt 12, 3) := by decide +kernel
theorem d_TG_within_5 : decode c_TG_within 5 = .ok (.iload_n 0, 1) := by decide +kernel
theorem d_TG_within_6 : decode c_TG_within 6 = .ok (.iload_n 2, 1) := by decide +kernel
theorem d_TG_within_7 : decode c_TG_within 7 = .ok (.if_icmp .gt 7, 3) := by decide +kernel
theorem d_TG_within_10 : decode c_TG_within 10 = .ok (.iconst 1, 1) := by decide +kernel
theorem d_TG_within_11 : decode c_TG_within 11 = .ok (.goto 4, 3) := by decide +kernel
theorem d_TG_within_14 : decode c_TG_within 14 = .ok (.iconst 0, 1) := by decide +kernel
theorem d_TG_within_15 : decode c_TG_within 15 = .ok (.ireturn, 1) := by decide +kernel
abbrev c_Gen_init : ByteArray := prog_2_method_1_code
abbrev y_Gen_init : MethodName := ⟨"TwoGenerations$Generation", "<init>", "(I)V"⟩
abbrev h_Gen_init : Cond := .code y_Gen_init c_Gen_init 2 none
theorem d_Gen_init_0 : decode c_Gen_init 0 = .ok (.aload_n 0, 1) := by decide +kernel
theorem d_Gen_init_1 : decode c_Gen_init 1 = .ok (.invokespecial 1, 3) := by decide +kernel
theorem d_Gen_init_4 : decode c_Gen_init 4 = .ok (.aload_n 0, 1) := by decide +kernel
theorem d_Gen_init_5 : decode c_Gen_init 5 = .ok (.iload_n 1, 1) := by decide +kernel
theorem d_Gen_init_6 : decode c_Gen_init 6 = .ok (.putfield 7, 3) := by decide +kernel
theorem d_Gen_init_9 : decode c_Gen_init 9 = .ok (.aload_n 0, 1) := by decide +kernel
theorem d_Gen_init_10 : decode c_Gen_init 10 = .ok (.iload_n 1, 1) := by decide +kernel
theorem d_Gen_init_11 : decode c_Gen_init 11 = .ok (.anewarray 13, 3) := by decide +kernel
theorem d_Gen_init_14 : decode c_Gen_init 14 = .ok (.putfield 15, 3) := by decide +kernel
theorem d_Gen_init_17 : decode c_Gen_init 17 = .ok (.return_, 1) := by decide +kernel
abbrev c_Tr_init : ByteArray := prog_5_method_1_code
abbrev y_Tr_init : MethodName := ⟨"TwoGenerations$Trace", "<init>", "(I)V"⟩
abbrev h_Tr_init : Cond := .code y_Tr_init c_Tr_init 2 none
theorem d_Tr_init_0 : decode c_Tr_init 0 = .ok (.aload_n 0, 1) := by decide +kernel
theorem d_Tr_init_1 : decode c_Tr_init 1 = .ok (.invokespecial 1, 3) := by decide +kernel
theorem d_Tr_init_4 : decode c_Tr_init 4 = .ok (.aload_n 0, 1) := by decide +kernel
theorem d_Tr_init_5 : decode c_Tr_init 5 = .ok (.iload_n 1, 1) := by decide +kernel
theorem d_Tr_init_6 : decode c_Tr_init 6 = .ok (.anewarray 7, 3) := by decide +kernel
theorem d_Tr_init_9 : decode c_Tr_init 9 = .ok (.putfield 9, 3) := by decide +kernel
theorem d_Tr_init_12 : decode c_Tr_init 12 = .ok (.return_, 1) := by decide +kernel
abbrev c_TG_kind : ByteArray := prog_1_method_10_code
abbrev y_TG_kind : MethodName := ⟨"TwoGenerations", "kind", "(I)I"⟩
abbrev h_TG_kind : Cond := .code y_TG_kind c_TG_kind 3 (some .int)
theorem d_TG_kind_0 : decode c_TG_kind 0 = .ok (.aload_n 0, 1) := by decide +kernel
theorem d_TG_kind_1 : decode c_TG_kind 1 = .ok (.iload_n 1, 1) := by decide +kernel
theorem d_TG_kind_2 : decode c_TG_kind 2 = .ok (.invokevirtual 42, 3) := by decide +kernel
theorem d_TG_kind_5 : decode c_TG_kind 5 = .ok (.ifCond .ne 5, 3) := by decide +kernel
theorem d_TG_kind_8 : decode c_TG_kind 8 = .ok (.iconst (-1), 1) := by decide +kernel
theorem d_TG_kind_9 : decode c_TG_kind 9 = .ok (.ireturn, 1) := by decide +kernel
theorem d_TG_kind_10 : decode c_TG_kind 10 = .ok (.aload_n 0, 1) := by decide +kernel
theorem d_TG_kind_11 : decode c_TG_kind 11 = .ok (.getfield 15, 3) := by decide +kernel
theorem d_TG_kind_14 : decode c_TG_kind 14 = .ok (.iload_n 1, 1) := by decide +kernel
theorem d_TG_kind_15 : decode c_TG_kind 15 = .ok (.aaload, 1) := by decide +kernel
theorem d_TG_kind_16 : decode c_TG_kind 16 = .ok (.astore_n 2, 1) := by decide +kernel
theorem d_TG_kind_17 : decode c_TG_kind 17 = .ok (.aload_n 2, 1) := by decide +kernel
theorem d_TG_kind_18 : decode c_TG_kind 18 = .ok (.ifnonnull 5, 3) := by decide +kernel
theorem d_TG_kind_21 : decode c_TG_kind 21 = .ok (.iconst 0, 1) := by decide +kernel
theorem d_TG_kind_22 : decode c_TG_kind 22 = .ok (.ireturn, 1) := by decide +kernel
theorem d_TG_kind_23 : decode c_TG_kind 23 = .ok (.aload_n 2, 1) := by decide +kernel
theorem d_TG_kind_24 : decode c_TG_kind 24 = .ok (.instanceof 97, 3) := by decide +kernel
theorem d_TG_kind_27 : decode c_TG_kind 27 = .ok (.ifCond .eq 5, 3) := by decide +kernel
theorem d_TG_kind_30 : decode c_TG_kind 30 = .ok (.iconst 1, 1) := by decide +kernel
theorem d_TG_kind_31 : decode c_TG_kind 31 = .ok (.ireturn, 1) := by decide +kernel
theorem d_TG_kind_32 : decode c_TG_kind 32 = .ok (.aload_n 2, 1) := by decide +kernel
theorem d_TG_kind_33 : decode c_TG_kind 33 = .ok (.instanceof 53, 3) := by decide +kernel
theorem d_TG_kind_36 : decode c_TG_kind 36 = .ok (.ifCond .eq 7, 3) := by decide +kernel
theorem d_TG_kind_39 : decode c_TG_kind 39 = .ok (.iconst 2, 1) := by decide +kernel
theorem d_TG_kind_40 : decode c_TG_kind 40 = .ok (.goto 4, 3) := by decide +kernel
theorem d_TG_kind_43 : decode c_TG_kind 43 = .ok (.iconst 3, 1) := by decide +kernel
theorem d_TG_kind_44 : decode c_TG_kind 44 = .ok (.ireturn, 1) := by decide +kernel
abbrev c_TG_isRegister : ByteArray := prog_1_method_21_code
abbrev y_TG_isRegister : MethodName := ⟨"TwoGenerations", "isRegister", "(I)Z"⟩
abbrev h_TG_isRegister : Cond := .code y_TG_isRegister c_TG_isRegister 2 (some .boolean)
theorem d_TG_isRegister_0 : decode c_TG_isRegister 0 = .ok (.iload_n 1, 1) := by decide +kernel
theorem d_TG_isRegister_1 : decode c_TG_isRegister 1 = .ok (.iconst 0, 1) := by decide +kernel
theorem d_TG_isRegister_2 : decode c_TG_isRegister 2 = .ok (.aload_n 0, 1) := by decide +kernel
theorem d_TG_isRegister_3 : decode c_TG_isRegister 3 = .ok (.getfield 15, 3) := by decide +kernel
theorem d_TG_isRegister_6 : decode c_TG_isRegister 6 = .ok (.arraylength, 1) := by decide +kernel
theorem d_TG_isRegister_7 : decode c_TG_isRegister 7 = .ok (.iconst 1, 1) := by decide +kernel
theorem d_TG_isRegister_8 : decode c_TG_isRegister 8 = .ok (.isub, 1) := by decide +kernel
theorem d_TG_isRegister_9 : decode c_TG_isRegister 9 = .ok (.invokestatic 7, 3) := by decide +kernel
theorem d_TG_isRegister_12 : decode c_TG_isRegister 12 = .ok (.ireturn, 1) := by decide +kernel
abbrev c_TG_value : ByteArray := prog_1_method_11_code
abbrev y_TG_value : MethodName := ⟨"TwoGenerations", "value", "(I)I"⟩
abbrev h_TG_value : Cond := .code y_TG_value c_TG_value 4 (some .int)
theorem d_TG_value_0 : decode c_TG_value 0 = .ok (.aload_n 0, 1) := by decide +kernel
theorem d_TG_value_1 : decode c_TG_value 1 = .ok (.iload_n 1, 1) := by decide +kernel
theorem d_TG_value_2 : decode c_TG_value 2 = .ok (.invokevirtual 102, 3) := by decide +kernel
theorem d_TG_value_5 : decode c_TG_value 5 = .ok (.astore_n 3, 1) := by decide +kernel
theorem d_TG_value_6 : decode c_TG_value 6 = .ok (.aload_n 3, 1) := by decide +kernel
theorem d_TG_value_7 : decode c_TG_value 7 = .ok (.instanceof 97, 3) := by decide +kernel
theorem d_TG_value_10 : decode c_TG_value 10 = .ok (.ifCond .eq 15, 3) := by decide +kernel
theorem d_TG_value_13 : decode c_TG_value 13 = .ok (.aload_n 3, 1) := by decide +kernel
theorem d_TG_value_14 : decode c_TG_value 14 = .ok (.checkcast 97, 3) := by decide +kernel
theorem d_TG_value_17 : decode c_TG_value 17 = .ok (.astore_n 2, 1) := by decide +kernel
theorem d_TG_value_18 : decode c_TG_value 18 = .ok (.aload_n 2, 1) := by decide +kernel
theorem d_TG_value_19 : decode c_TG_value 19 = .ok (.getfield 106, 3) := by decide +kernel
theorem d_TG_value_22 : decode c_TG_value 22 = .ok (.goto 4, 3) := by decide +kernel
theorem d_TG_value_25 : decode c_TG_value 25 = .ok (.iconst 0, 1) := by decide +kernel
theorem d_TG_value_26 : decode c_TG_value 26 = .ok (.ireturn, 1) := by decide +kernel
abbrev c_TG_heldIn : ByteArray := prog_1_method_22_code
abbrev y_TG_heldIn : MethodName := ⟨"TwoGenerations", "heldIn", "(I)LTwoGenerations$Value;"⟩
abbrev h_TG_heldIn : Cond := .code y_TG_heldIn c_TG_heldIn 2 (some (.object "TwoGenerations$Value"))
theorem d_TG_heldIn_0 : decode c_TG_heldIn 0 = .ok (.aload_n 0, 1) := by decide +kernel
theorem d_TG_heldIn_1 : decode c_TG_heldIn 1 = .ok (.iload_n 1, 1) := by decide +kernel
theorem d_TG_heldIn_2 : decode c_TG_heldIn 2 = .ok (.invokevirtual 42, 3) := by decide +kernel
theorem d_TG_heldIn_5 : decode c_TG_heldIn 5 = .ok (.ifCond .eq 12, 3) := by decide +kernel
theorem d_TG_heldIn_8 : decode c_TG_heldIn 8 = .ok (.aload_n 0, 1) := by decide +kernel
theorem d_TG_heldIn_9 : decode c_TG_heldIn 9 = .ok (.getfield 15, 3) := by decide +kernel
theorem d_TG_heldIn_12 : decode c_TG_heldIn 12 = .ok (.iload_n 1, 1) := by decide +kernel
theorem d_TG_heldIn_13 : decode c_TG_heldIn 13 = .ok (.aaload, 1) := by decide +kernel
theorem d_TG_heldIn_14 : decode c_TG_heldIn 14 = .ok (.goto 4, 3) := by decide +kernel
theorem d_TG_heldIn_17 : decode c_TG_heldIn 17 = .ok (.aconst_null, 1) := by decide +kernel
theorem d_TG_heldIn_18 : decode c_TG_heldIn 18 = .ok (.areturn, 1) := by decide +kernel
abbrev c_TG_fields : ByteArray := prog_1_method_12_code
abbrev y_TG_fields : MethodName := ⟨"TwoGenerations", "fields", "(I)I"⟩
abbrev h_TG_fields : Cond := .code y_TG_fields c_TG_fields 3 (some .int)
theorem d_TG_fields_0 : decode c_TG_fields 0 = .ok (.aload_n 0, 1) := by decide +kernel
theorem d_TG_fields_1 : decode c_TG_fields 1 = .ok (.iload_n 1, 1) := by decide +kernel
theorem d_TG_fields_2 : decode c_TG_fields 2 = .ok (.invokevirtual 71, 3) := by decide +kernel
theorem d_TG_fields_5 : decode c_TG_fields 5 = .ok (.astore_n 2, 1) := by decide +kernel
theorem d_TG_fields_6 : decode c_TG_fields 6 = .ok (.aload_n 2, 1) := by decide +kernel
theorem d_TG_fields_7 : decode c_TG_fields 7 = .ok (.ifnonnull 7, 3) := by decide +kernel
theorem d_TG_fields_10 : decode c_TG_fields 10 = .ok (.iconst (-1), 1) := by decide +kernel
theorem d_TG_fields_11 : decode c_TG_fields 11 = .ok (.goto 8, 3) := by decide +kernel
theorem d_TG_fields_14 : decode c_TG_fields 14 = .ok (.aload_n 2, 1) := by decide +kernel
theorem d_TG_fields_15 : decode c_TG_fields 15 = .ok (.getfield 80, 3) := by decide +kernel
theorem d_TG_fields_18 : decode c_TG_fields 18 = .ok (.arraylength, 1) := by decide +kernel
theorem d_TG_fields_19 : decode c_TG_fields 19 = .ok (.ireturn, 1) := by decide +kernel
abbrev c_TG_plainIn : ByteArray := prog_1_method_24_code
abbrev y_TG_plainIn : MethodName := ⟨"TwoGenerations", "plainIn", "(I)LTwoGenerations$Plain;"⟩
abbrev h_TG_plainIn : Cond := .code y_TG_plainIn c_TG_plainIn 4 (some (.object "TwoGenerations$Plain"))
theorem d_TG_plainIn_0 : decode c_TG_plainIn 0 = .ok (.aload_n 0, 1) := by decide +kernel
theorem d_TG_plainIn_1 : decode c_TG_plainIn 1 = .ok (.iload_n 1, 1) := by decide +kernel
theorem d_TG_plainIn_2 : decode c_TG_plainIn 2 = .ok (.invokevirtual 102, 3) := by decide +kernel
theorem d_TG_plainIn_5 : decode c_TG_plainIn 5 = .ok (.astore_n 3, 1) := by decide +kernel
theorem d_TG_plainIn_6 : decode c_TG_plainIn 6 = .ok (.aload_n 3, 1) := by decide +kernel
theorem d_TG_plainIn_7 : decode c_TG_plainIn 7 = .ok (.instanceof 53, 3) := by decide +kernel
theorem d_TG_plainIn_10 : decode c_TG_plainIn 10 = .ok (.ifCond .eq 12, 3) := by decide +kernel
theorem d_TG_plainIn_13 : decode c_TG_plainIn 13 = .ok (.aload_n 3, 1) := by decide +kernel
theorem d_TG_plainIn_14 : decode c_TG_plainIn 14 = .ok (.checkcast 53, 3) := by decide +kernel
theorem d_TG_plainIn_17 : decode c_TG_plainIn 17 = .ok (.astore_n 2, 1) := by decide +kernel
theorem d_TG_plainIn_18 : decode c_TG_plainIn 18 = .ok (.aload_n 2, 1) := by decide +kernel
theorem d_TG_plainIn_19 : decode c_TG_plainIn 19 = .ok (.goto 4, 3) := by decide +kernel
theorem d_TG_plainIn_22 : decode c_TG_plainIn 22 = .ok (.aconst_null, 1) := by decide +kernel
theorem d_TG_plainIn_23 : decode c_TG_plainIn 23 = .ok (.areturn, 1) := by decide +kernel
abbrev c_TG_same : ByteArray := prog_1_method_13_code
abbrev y_TG_same : MethodName := ⟨"TwoGenerations", "same", "(II)Z"⟩
abbrev h_TG_same : Cond := .code y_TG_same c_TG_same 6 (some .boolean)
theorem d_TG_same_0 : decode c_TG_same 0 = .ok (.aload_n 0, 1) := by decide +kernel
theorem d_TG_same_1 : decode c_TG_same 1 = .ok (.iload_n 1, 1) := by decide +kernel
theorem d_TG_same_2 : decode c_TG_same 2 = .ok (.invokevirtual 42, 3) := by decide +kernel
theorem d_TG_same_5 : decode c_TG_same 5 = .ok (.ifCond .eq 11, 3) := by decide +kernel
theorem d_TG_same_8 : decode c_TG_same 8 = .ok (.aload_n 0, 1) := by decide +kernel
theorem d_TG_same_9 : decode c_TG_same 9 = .ok (.iload_n 2, 1) := by decide +kernel
theorem d_TG_same_10 : decode c_TG_same 10 = .ok (.invokevirtual 42, 3) := by decide +kernel
theorem d_TG_same_13 : decode c_TG_same 13 = .ok (.ifCond .ne 5, 3) := by decide +kernel
theorem d_TG_same_16 : decode c_TG_same 16 = .ok (.iconst 0, 1) := by decide +kernel
theorem d_TG_same_17 : decode c_TG_same 17 = .ok (.ireturn, 1) := by decide +kernel
theorem d_TG_same_18 : decode c_TG_same 18 = .ok (.aload_n 0, 1) := by decide +kernel
theorem d_TG_same_19 : decode c_TG_same 19 = .ok (.getfield 15, 3) := by decide +kernel
theorem d_TG_same_22 : decode c_TG_same 22 = .ok (.iload_n 1, 1) := by decide +kernel
theorem d_TG_same_23 : decode c_TG_same 23 = .ok (.aaload, 1) := by decide +kernel
theorem d_TG_same_24 : decode c_TG_same 24 = .ok (.astore 5, 2) := by decide +kernel
theorem d_TG_same_26 : decode c_TG_same 26 = .ok (.aload 5, 2) := by decide +kernel
theorem d_TG_same_28 : decode c_TG_same 28 = .ok (.instanceof 97, 3) := by decide +kernel
theorem d_TG_same_31 : decode c_TG_same 31 = .ok (.ifCond .eq 50, 3) := by decide +kernel
theorem d_TG_same_34 : decode c_TG_same 34 = .ok (.aload 5, 2) := by decide +kernel
theorem d_TG_same_36 : decode c_TG_same 36 = .ok (.checkcast 97, 3) := by decide +kernel
theorem d_TG_same_39 : decode c_TG_same 39 = .ok (.astore_n 3, 1) := by decide +kernel
theorem d_TG_same_40 : decode c_TG_same 40 = .ok (.aload_n 0, 1) := by decide +kernel
theorem d_TG_same_41 : decode c_TG_same 41 = .ok (.getfield 15, 3) := by decide +kernel
theorem d_TG_same_44 : decode c_TG_same 44 = .ok (.iload_n 2, 1) := by decide +kernel
theorem d_TG_same_45 : decode c_TG_same 45 = .ok (.aaload, 1) := by decide +kernel
theorem d_TG_same_46 : decode c_TG_same 46 = .ok (.astore 5, 2) := by decide +kernel
theorem d_TG_same_48 : decode c_TG_same 48 = .ok (.aload 5, 2) := by decide +kernel
theorem d_TG_same_50 : decode c_TG_same 50 = .ok (.instanceof 97, 3) := by decide +kernel
theorem d_TG_same_53 : decode c_TG_same 53 = .ok (.ifCond .eq 28, 3) := by decide +kernel
theorem d_TG_same_56 : decode c_TG_same 56 = .ok (.aload 5, 2) := by decide +kernel
theorem d_TG_same_58 : decode c_TG_same 58 = .ok (.checkcast 97, 3) := by decide +kernel
theorem d_TG_same_61 : decode c_TG_same 61 = .ok (.astore 4, 2) := by decide +kernel
theorem d_TG_same_63 : decode c_TG_same 63 = .ok (.aload_n 3, 1) := by decide +kernel
theorem d_TG_same_64 : decode c_TG_same 64 = .ok (.getfield 106, 3) := by decide +kernel
theorem d_TG_same_67 : decode c_TG_same 67 = .ok (.aload 4, 2) := by decide +kernel
theorem d_TG_same_69 : decode c_TG_same 69 = .ok (.getfield 106, 3) := by decide +kernel
theorem d_TG_same_72 : decode c_TG_same 72 = .ok (.if_icmp .ne 7, 3) := by decide +kernel
theorem d_TG_same_75 : decode c_TG_same 75 = .ok (.iconst 1, 1) := by decide +kernel
theorem d_TG_same_76 : decode c_TG_same 76 = .ok (.goto 4, 3) := by decide +kernel
theorem d_TG_same_79 : decode c_TG_same 79 = .ok (.iconst 0, 1) := by decide +kernel
theorem d_TG_same_80 : decode c_TG_same 80 = .ok (.ireturn, 1) := by decide +kernel
theorem d_TG_same_81 : decode c_TG_same 81 = .ok (.aload_n 0, 1) := by decide +kernel
theorem d_TG_same_82 : decode c_TG_same 82 = .ok (.getfield 15, 3) := by decide +kernel
theorem d_TG_same_85 : decode c_TG_same 85 = .ok (.iload_n 1, 1) := by decide +kernel
theorem d_TG_same_86 : decode c_TG_same 86 = .ok (.aaload, 1) := by decide +kernel
theorem d_TG_same_87 : decode c_TG_same 87 = .ok (.aload_n 0, 1) := by decide +kernel
theorem d_TG_same_88 : decode c_TG_same 88 = .ok (.getfield 15, 3) := by decide +kernel
theorem d_TG_same_91 : decode c_TG_same 91 = .ok (.iload_n 2, 1) := by decide +kernel
theorem d_TG_same_92 : decode c_TG_same 92 = .ok (.aaload, 1) := by decide +kernel
theorem d_TG_same_93 : decode c_TG_same 93 = .ok (.if_acmp .ne 7, 3) := by decide +kernel
theorem d_TG_same_96 : decode c_TG_same 96 = .ok (.iconst 1, 1) := by decide +kernel
theorem d_TG_same_97 : decode c_TG_same 97 = .ok (.goto 4, 3) := by decide +kernel
theorem d_TG_same_100 : decode c_TG_same 100 = .ok (.iconst 0, 1) := by decide +kernel
theorem d_TG_same_101 : decode c_TG_same 101 = .ok (.ireturn, 1) := by decide +kernel
abbrev c_TG_generation : ByteArray := prog_1_method_14_code
abbrev y_TG_generation : MethodName := ⟨"TwoGenerations", "generation", "(I)I"⟩
abbrev h_TG_generation : Cond := .code y_TG_generation c_TG_generation 3 (some .int)
theorem d_TG_generation_0 : decode c_TG_generation 0 = .ok (.aload_n 0, 1) := by decide +kernel
theorem d_TG_generation_1 : decode c_TG_generation 1 = .ok (.iload_n 1, 1) := by decide +kernel
theorem d_TG_generation_2 : decode c_TG_generation 2 = .ok (.invokevirtual 60, 3) := by decide +kernel
theorem d_TG_generation_5 : decode c_TG_generation 5 = .ok (.astore_n 2, 1) := by decide +kernel
theorem d_TG_generation_6 : decode c_TG_generation 6 = .ok (.aload_n 2, 1) := by decide +kernel
theorem d_TG_generation_7 : decode c_TG_generation 7 = .ok (.ifnonnull 5, 3) := by decide +kernel
theorem d_TG_generation_10 : decode c_TG_generation 10 = .ok (.iconst (-1), 1) := by decide +kernel
theorem d_TG_generation_11 : decode c_TG_generation 11 = .ok (.ireturn, 1) := by decide +kernel
theorem d_TG_generation_12 : decode c_TG_generation 12 = .ok (.aload_n 2, 1) := by decide +kernel
theorem d_TG_generation_13 : decode c_TG_generation 13 = .ok (.getfield 109, 3) := by decide +kernel
theorem d_TG_generation_16 : decode c_TG_generation 16 = .ok (.ifCond .eq 7, 3) := by decide +kernel
theorem d_TG_generation_19 : decode c_TG_generation 19 = .ok (.iconst 1, 1) := by decide +kernel
theorem d_TG_generation_20 : decode c_TG_generation 20 = .ok (.goto 4, 3) := by decide +kernel
theorem d_TG_generation_23 : decode c_TG_generation 23 = .ok (.iconst 0, 1) := by decide +kernel
theorem d_TG_generation_24 : decode c_TG_generation 24 = .ok (.ireturn, 1) := by decide +kernel
abbrev c_TG_thingIn : ByteArray := prog_1_method_23_code
abbrev y_TG_thingIn : MethodName := ⟨"TwoGenerations", "thingIn", "(I)LTwoGenerations$Thing;"⟩
abbrev h_TG_thingIn : Cond := .code y_TG_thingIn c_TG_thingIn 4 (some (.object "TwoGenerations$Thing"))
theorem d_TG_thingIn_0 : decode c_TG_thingIn 0 = .ok (.aload_n 0, 1) := by decide +kernel
theorem d_TG_thingIn_1 : decode c_TG_thingIn 1 = .ok (.iload_n 1, 1) := by decide +kernel
theorem d_TG_thingIn_2 : decode c_TG_thingIn 2 = .ok (.invokevirtual 102, 3) := by decide +kernel
theorem d_TG_thingIn_5 : decode c_TG_thingIn 5 = .ok (.astore_n 3, 1) := by decide +kernel
theorem d_TG_thingIn_6 : decode c_TG_thingIn 6 = .ok (.aload_n 3, 1) := by decide +kernel
theorem d_TG_thingIn_7 : decode c_TG_thingIn 7 = .ok (.instanceof 110, 3) := by decide +kernel
theorem d_TG_thingIn_10 : decode c_TG_thingIn 10 = .ok (.ifCond .eq 12, 3) := by decide +kernel
theorem d_TG_thingIn_13 : decode c_TG_thingIn 13 = .ok (.aload_n 3, 1) := by decide +kernel
theorem d_TG_thingIn_14 : decode c_TG_thingIn 14 = .ok (.checkcast 110, 3) := by decide +kernel
theorem d_TG_thingIn_17 : decode c_TG_thingIn 17 = .ok (.astore_n 2, 1) := by decide +kernel
theorem d_TG_thingIn_18 : decode c_TG_thingIn 18 = .ok (.aload_n 2, 1) := by decide +kernel
theorem d_TG_thingIn_19 : decode c_TG_thingIn 19 = .ok (.goto 4, 3) := by decide +kernel
theorem d_TG_thingIn_22 : decode c_TG_thingIn 22 = .ok (.aconst_null, 1) := by decide +kernel
theorem d_TG_thingIn_23 : decode c_TG_thingIn 23 = .ok (.areturn, 1) := by decide +kernel
abbrev c_TG_reach : ByteArray := prog_1_method_15_code
abbrev y_TG_reach : MethodName := ⟨"TwoGenerations", "reach", "(I)I"⟩
abbrev h_TG_reach : Cond := .code y_TG_reach c_TG_reach 2 (some .int)
theorem d_TG_reach_0 : decode c_TG_reach 0 = .ok (.aload_n 0, 1) := by decide +kernel
theorem d_TG_reach_1 : decode c_TG_reach 1 = .ok (.getfield 38, 3) := by decide +kernel
theorem d_TG_reach_4 : decode c_TG_reach 4 = .ok (.invokevirtual 115, 3) := by decide +kernel
theorem d_TG_reach_7 : decode c_TG_reach 7 = .ok (.aload_n 0, 1) := by decide +kernel
theorem d_TG_reach_8 : decode c_TG_reach 8 = .ok (.getfield 38, 3) := by decide +kernel
theorem d_TG_reach_11 : decode c_TG_reach 11 = .ok (.aload_n 0, 1) := by decide +kernel
theorem d_TG_reach_12 : decode c_TG_reach 12 = .ok (.iload_n 1, 1) := by decide +kernel
theorem d_TG_reach_13 : decode c_TG_reach 13 = .ok (.invokevirtual 102, 3) := by decide +kernel
theorem d_TG_reach_16 : decode c_TG_reach 16 = .ok (.invokevirtual 118, 3) := by decide +kernel
theorem d_TG_reach_19 : decode c_TG_reach 19 = .ok (.aload_n 0, 1) := by decide +kernel
theorem d_TG_reach_20 : decode c_TG_reach 20 = .ok (.getfield 38, 3) := by decide +kernel
theorem d_TG_reach_23 : decode c_TG_reach 23 = .ok (.invokevirtual 122, 3) := by decide +kernel
theorem d_TG_reach_26 : decode c_TG_reach 26 = .ok (.aload_n 0, 1) := by decide +kernel
theorem d_TG_reach_27 : decode c_TG_reach 27 = .ok (.getfield 38, 3) := by decide +kernel
theorem d_TG_reach_30 : decode c_TG_reach 30 = .ok (.getfield 125, 3) := by decide +kernel
theorem d_TG_reach_33 : decode c_TG_reach 33 = .ok (.ireturn, 1) := by decide +kernel
abbrev c_Tr_restart : ByteArray := prog_5_method_2_code
abbrev y_Tr_restart : MethodName := ⟨"TwoGenerations$Trace", "restart", "()V"⟩
abbrev h_Tr_restart : Cond := .code y_Tr_restart c_Tr_restart 3 none
theorem d_Tr_restart_0 : decode c_Tr_restart 0 = .ok (.iconst 0, 1) := by decide +kernel
theorem d_Tr_restart_1 : decode c_Tr_restart 1 = .ok (.istore_n 1, 1) := by decide +kernel
theorem d_Tr_restart_2 : decode c_Tr_restart 2 = .ok (.iload_n 1, 1) := by decide +kernel
theorem d_Tr_restart_3 : decode c_Tr_restart 3 = .ok (.aload_n 0, 1) := by decide +kernel
theorem d_Tr_restart_4 : decode c_Tr_restart 4 = .ok (.getfield 15, 3) := by decide +kernel
theorem d_Tr_restart_7 : decode c_Tr_restart 7 = .ok (.if_icmp .ge 25, 3) := by decide +kernel
theorem d_Tr_restart_10 : decode c_Tr_restart 10 = .ok (.aload_n 0, 1) := by decide +kernel
theorem d_Tr_restart_11 : decode c_Tr_restart 11 = .ok (.getfield 9, 3) := by decide +kernel
theorem d_Tr_restart_14 : decode c_Tr_restart 14 = .ok (.iload_n 1, 1) := by decide +kernel
theorem d_Tr_restart_15 : decode c_Tr_restart 15 = .ok (.aaload, 1) := by decide +kernel
theorem d_Tr_restart_16 : decode c_Tr_restart 16 = .ok (.astore_n 2, 1) := by decide +kernel
theorem d_Tr_restart_17 : decode c_Tr_restart 17 = .ok (.aload_n 2, 1) := by decide +kernel
theorem d_Tr_restart_18 : decode c_Tr_restart 18 = .ok (.ifnull 8, 3) := by decide +kernel
theorem d_Tr_restart_21 : decode c_Tr_restart 21 = .ok (.aload_n 2, 1) := by decide +kernel
theorem d_Tr_restart_22 : decode c_Tr_restart 22 = .ok (.iconst 0, 1) := by decide +kernel
theorem d_Tr_restart_23 : decode c_Tr_restart 23 = .ok (.putfield 19, 3) := by decide +kernel
theorem d_Tr_restart_26 : decode c_Tr_restart 26 = .ok (.iinc 1 1, 3) := by decide +kernel
theorem d_Tr_restart_29 : decode c_Tr_restart 29 = .ok (.goto (-27), 3) := by decide +kernel
theorem d_Tr_restart_32 : decode c_Tr_restart 32 = .ok (.aload_n 0, 1) := by decide +kernel
theorem d_Tr_restart_33 : decode c_Tr_restart 33 = .ok (.iconst 0, 1) := by decide +kernel
theorem d_Tr_restart_34 : decode c_Tr_restart 34 = .ok (.putfield 15, 3) := by decide +kernel
theorem d_Tr_restart_37 : decode c_Tr_restart 37 = .ok (.aload_n 0, 1) := by decide +kernel
theorem d_Tr_restart_38 : decode c_Tr_restart 38 = .ok (.iconst 0, 1) := by decide +kernel
theorem d_Tr_restart_39 : decode c_Tr_restart 39 = .ok (.putfield 23, 3) := by decide +kernel
theorem d_Tr_restart_42 : decode c_Tr_restart 42 = .ok (.return_, 1) := by decide +kernel
abbrev c_Tr_find : ByteArray := prog_5_method_3_code
abbrev y_Tr_find : MethodName := ⟨"TwoGenerations$Trace", "find", "(LTwoGenerations$Value;)V"⟩
abbrev h_Tr_find : Cond := .code y_Tr_find c_Tr_find 3 none
theorem d_Tr_find_0 : decode c_Tr_find 0 = .ok (.aload_n 1, 1) := by decide +kernel
theorem d_Tr_find_1 : decode c_Tr_find 1 = .ok (.instanceof 7, 3) := by decide +kernel
theorem d_Tr_find_4 : decode c_Tr_find 4 = .ok (.ifCond .eq 65, 3) := by decide +kernel
theorem d_Tr_find_7 : decode c_Tr_find 7 = .ok (.aload_n 1, 1) := by decide +kernel
theorem d_Tr_find_8 : decode c_Tr_find 8 = .ok (.checkcast 7, 3) := by decide +kernel
theorem d_Tr_find_11 : decode c_Tr_find 11 = .ok (.astore_n 2, 1) := by decide +kernel
theorem d_Tr_find_12 : decode c_Tr_find 12 = .ok (.aload_n 2, 1) := by decide +kernel
theorem d_Tr_find_13 : decode c_Tr_find 13 = .ok (.getfield 19, 3) := by decide +kernel
theorem d_Tr_find_16 : decode c_Tr_find 16 = .ok (.ifCond .ne 53, 3) := by decide +kernel
theorem d_Tr_find_19 : decode c_Tr_find 19 = .ok (.aload_n 0, 1) := by decide +kernel
theorem d_Tr_find_20 : decode c_Tr_find 20 = .ok (.getfield 15, 3) := by decide +kernel
theorem d_Tr_find_23 : decode c_Tr_find 23 = .ok (.aload_n 0, 1) := by decide +kernel
theorem d_Tr_find_24 : decode c_Tr_find 24 = .ok (.getfield 9, 3) := by decide +kernel
theorem d_Tr_find_27 : decode c_Tr_find 27 = .ok (.arraylength, 1) := by decide +kernel
theorem d_Tr_find_28 : decode c_Tr_find 28 = .ok (.if_icmp .ge 41, 3) := by decide +kernel
theorem d_Tr_find_31 : decode c_Tr_find 31 = .ok (.aload_n 2, 1) := by decide +kernel
theorem d_Tr_find_32 : decode c_Tr_find 32 = .ok (.iconst 1, 1) := by decide +kernel
theorem d_Tr_find_33 : decode c_Tr_find 33 = .ok (.putfield 19, 3) := by decide +kernel
theorem d_Tr_find_36 : decode c_Tr_find 36 = .ok (.aload_n 0, 1) := by decide +kernel
theorem d_Tr_find_37 : decode c_Tr_find 37 = .ok (.getfield 9, 3) := by decide +kernel
theorem d_Tr_find_40 : decode c_Tr_find 40 = .ok (.aload_n 0, 1) := by decide +kernel
theorem d_Tr_find_41 : decode c_Tr_find 41 = .ok (.getfield 15, 3) := by decide +kernel
theorem d_Tr_find_44 : decode c_Tr_find 44 = .ok (.aload_n 2, 1) := by decide +kernel
theorem d_Tr_find_45 : decode c_Tr_find 45 = .ok (.aastore, 1) := by decide +kernel
theorem d_Tr_find_46 : decode c_Tr_find 46 = .ok (.aload_n 0, 1) := by decide +kernel
theorem d_Tr_find_47 : decode c_Tr_find 47 = .ok (.dup, 1) := by decide +kernel
theorem d_Tr_find_48 : decode c_Tr_find 48 = .ok (.getfield 15, 3) := by decide +kernel
theorem d_Tr_find_51 : decode c_Tr_find 51 = .ok (.iconst 1, 1) := by decide +kernel
theorem d_Tr_find_52 : decode c_Tr_find 52 = .ok (.iadd, 1) := by decide +kernel
theorem d_Tr_find_53 : decode c_Tr_find 53 = .ok (.putfield 15, 3) := by decide +kernel
theorem d_Tr_find_56 : decode c_Tr_find 56 = .ok (.aload_n 0, 1) := by decide +kernel
theorem d_Tr_find_57 : decode c_Tr_find 57 = .ok (.dup, 1) := by decide +kernel
theorem d_Tr_find_58 : decode c_Tr_find 58 = .ok (.getfield 23, 3) := by decide +kernel
theorem d_Tr_find_61 : decode c_Tr_find 61 = .ok (.aload_n 2, 1) := by decide +kernel
theorem d_Tr_find_62 : decode c_Tr_find 62 = .ok (.getfield 26, 3) := by decide +kernel
theorem d_Tr_find_65 : decode c_Tr_find 65 = .ok (.iadd, 1) := by decide +kernel
theorem d_Tr_find_66 : decode c_Tr_find 66 = .ok (.putfield 23, 3) := by decide +kernel
theorem d_Tr_find_69 : decode c_Tr_find 69 = .ok (.return_, 1) := by decide +kernel
abbrev c_Tr_follow : ByteArray := prog_5_method_5_code
abbrev y_Tr_follow : MethodName := ⟨"TwoGenerations$Trace", "follow", "()V"⟩
abbrev h_Tr_follow : Cond := .code y_Tr_follow c_Tr_follow 4 none
theorem d_Tr_follow_0 : decode c_Tr_follow 0 = .ok (.iconst 0, 1) := by decide +kernel
theorem d_Tr_follow_1 : decode c_Tr_follow 1 = .ok (.istore_n 1, 1) := by decide +kernel
theorem d_Tr_follow_2 : decode c_Tr_follow 2 = .ok (.iload_n 1, 1) := by decide +kernel
theorem d_Tr_follow_3 : decode c_Tr_follow 3 = .ok (.aload_n 0, 1) := by decide +kernel
theorem d_Tr_follow_4 : decode c_Tr_follow 4 = .ok (.getfield 9, 3) := by decide +kernel
theorem d_Tr_follow_7 : decode c_Tr_follow 7 = .ok (.arraylength, 1) := by decide +kernel
theorem d_Tr_follow_8 : decode c_Tr_follow 8 = .ok (.if_icmp .ge 41, 3) := by decide +kernel
theorem d_Tr_follow_11 : decode c_Tr_follow 11 = .ok (.iload_n 1, 1) := by decide +kernel
theorem d_Tr_follow_12 : decode c_Tr_follow 12 = .ok (.aload_n 0, 1) := by decide +kernel
theorem d_Tr_follow_13 : decode c_Tr_follow 13 = .ok (.getfield 15, 3) := by decide +kernel
theorem d_Tr_follow_16 : decode c_Tr_follow 16 = .ok (.if_icmp .ge 33, 3) := by decide +kernel
theorem d_Tr_follow_19 : decode c_Tr_follow 19 = .ok (.aload_n 0, 1) := by decide +kernel
theorem d_Tr_follow_20 : decode c_Tr_follow 20 = .ok (.getfield 9, 3) := by decide +kernel
theorem d_Tr_follow_23 : decode c_Tr_follow 23 = .ok (.iload_n 1, 1) := by decide +kernel
theorem d_Tr_follow_24 : decode c_Tr_follow 24 = .ok (.aaload, 1) := by decide +kernel
theorem d_Tr_follow_25 : decode c_Tr_follow 25 = .ok (.astore_n 3, 1) := by decide +kernel
theorem d_Tr_follow_26 : decode c_Tr_follow 26 = .ok (.aload_n 3, 1) := by decide +kernel
theorem d_Tr_follow_27 : decode c_Tr_follow 27 = .ok (.instanceof 39, 3) := by decide +kernel
theorem d_Tr_follow_30 : decode c_Tr_follow 30 = .ok (.ifCond .eq 13, 3) := by decide +kernel
theorem d_Tr_follow_33 : decode c_Tr_follow 33 = .ok (.aload_n 3, 1) := by decide +kernel
theorem d_Tr_follow_34 : decode c_Tr_follow 34 = .ok (.checkcast 39, 3) := by decide +kernel
theorem d_Tr_follow_37 : decode c_Tr_follow 37 = .ok (.astore_n 2, 1) := by decide +kernel
theorem d_Tr_follow_38 : decode c_Tr_follow 38 = .ok (.aload_n 0, 1) := by decide +kernel
theorem d_Tr_follow_39 : decode c_Tr_follow 39 = .ok (.aload_n 2, 1) := by decide +kernel
theorem d_Tr_follow_40 : decode c_Tr_follow 40 = .ok (.invokevirtual 41, 3) := by decide +kernel
theorem d_Tr_follow_43 : decode c_Tr_follow 43 = .ok (.iinc 1 1, 3) := by decide +kernel
theorem d_Tr_follow_46 : decode c_Tr_follow 46 = .ok (.goto (-44), 3) := by decide +kernel
theorem d_Tr_follow_49 : decode c_Tr_follow 49 = .ok (.return_, 1) := by decide +kernel
abbrev c_Tr_findContents : ByteArray := prog_5_method_6_code
abbrev y_Tr_findContents : MethodName := ⟨"TwoGenerations$Trace", "findContents", "(LTwoGenerations$Plain;)V"⟩
abbrev h_Tr_findContents : Cond := .code y_Tr_findContents c_Tr_findContents 3 none
theorem d_Tr_findContents_0 : decode c_Tr_findContents 0 = .ok (.iconst 0, 1) := by decide +kernel
theorem d_Tr_findContents_1 : decode c_Tr_findContents 1 = .ok (.istore_n 2, 1) := by decide +kernel
theorem d_Tr_findContents_2 : decode c_Tr_findContents 2 = .ok (.iload_n 2, 1) := by decide +kernel
theorem d_Tr_findContents_3 : decode c_Tr_findContents 3 = .ok (.aload_n 1, 1) := by decide +kernel
theorem d_Tr_findContents_4 : decode c_Tr_findContents 4 = .ok (.getfield 45, 3) := by decide +kernel
theorem d_Tr_findContents_7 : decode c_Tr_findContents 7 = .ok (.arraylength, 1) := by decide +kernel
theorem d_Tr_findContents_8 : decode c_Tr_findContents 8 = .ok (.if_icmp .ge 19, 3) := by decide +kernel
theorem d_Tr_findContents_11 : decode c_Tr_findContents 11 = .ok (.aload_n 0, 1) := by decide +kernel
theorem d_Tr_findContents_12 : decode c_Tr_findContents 12 = .ok (.aload_n 1, 1) := by decide +kernel
theorem d_Tr_findContents_13 : decode c_Tr_findContents 13 = .ok (.getfield 45, 3) := by decide +kernel
theorem d_Tr_findContents_16 : decode c_Tr_findContents 16 = .ok (.iload_n 2, 1) := by decide +kernel
theorem d_Tr_findContents_17 : decode c_Tr_findContents 17 = .ok (.aaload, 1) := by decide +kernel
theorem d_Tr_findContents_18 : decode c_Tr_findContents 18 = .ok (.invokevirtual 35, 3) := by decide +kernel
theorem d_Tr_findContents_21 : decode c_Tr_findContents 21 = .ok (.iinc 2 1, 3) := by decide +kernel
theorem d_Tr_findContents_24 : decode c_Tr_findContents 24 = .ok (.goto (-22), 3) := by decide +kernel
theorem d_Tr_findContents_27 : decode c_Tr_findContents 27 = .ok (.return_, 1) := by decide +kernel
abbrev c_TG_great : ByteArray := prog_1_method_17_code
abbrev y_TG_great : MethodName := ⟨"TwoGenerations", "great", "()I"⟩
abbrev h_TG_great : Cond := .code y_TG_great c_TG_great 1 (some .int)
theorem d_TG_great_0 : decode c_TG_great 0 = .ok (.aload_n 0, 1) := by decide +kernel
theorem d_TG_great_1 : decode c_TG_great 1 = .ok (.invokevirtual 137, 3) := by decide +kernel
theorem d_TG_great_4 : decode c_TG_great 4 = .ok (.ireturn, 1) := by decide +kernel
abbrev c_TG_collectOld : ByteArray := prog_1_method_28_code
abbrev y_TG_collectOld : MethodName := ⟨"TwoGenerations", "collectOld", "()I"⟩
abbrev h_TG_collectOld : Cond := .code y_TG_collectOld c_TG_collectOld 2 (some .int)
theorem d_TG_collectOld_0 : decode c_TG_collectOld 0 = .ok (.aload_n 0, 1) := by decide +kernel
theorem d_TG_collectOld_1 : decode c_TG_collectOld 1 = .ok (.getfield 38, 3) := by decide +kernel
theorem d_TG_collectOld_4 : decode c_TG_collectOld 4 = .ok (.invokevirtual 115, 3) := by decide +kernel
theorem d_TG_collectOld_7 : decode c_TG_collectOld 7 = .ok (.aload_n 0, 1) := by decide +kernel
theorem d_TG_collectOld_8 : decode c_TG_collectOld 8 = .ok (.invokevirtual 158, 3) := by decide +kernel
theorem d_TG_collectOld_11 : decode c_TG_collectOld 11 = .ok (.aload_n 0, 1) := by decide +kernel
theorem d_TG_collectOld_12 : decode c_TG_collectOld 12 = .ok (.getfield 38, 3) := by decide +kernel
theorem d_TG_collectOld_15 : decode c_TG_collectOld 15 = .ok (.invokevirtual 122, 3) := by decide +kernel
theorem d_TG_collectOld_18 : decode c_TG_collectOld 18 = .ok (.aload_n 0, 1) := by decide +kernel
theorem d_TG_collectOld_19 : decode c_TG_collectOld 19 = .ok (.getfield 24, 3) := by decide +kernel
theorem d_TG_collectOld_22 : decode c_TG_collectOld 22 = .ok (.invokevirtual 168, 3) := by decide +kernel
theorem d_TG_collectOld_25 : decode c_TG_collectOld 25 = .ok (.aload_n 0, 1) := by decide +kernel
theorem d_TG_collectOld_26 : decode c_TG_collectOld 26 = .ok (.getfield 28, 3) := by decide +kernel
theorem d_TG_collectOld_29 : decode c_TG_collectOld 29 = .ok (.invokevirtual 168, 3) := by decide +kernel
theorem d_TG_collectOld_32 : decode c_TG_collectOld 32 = .ok (.aload_n 0, 1) := by decide +kernel
theorem d_TG_collectOld_33 : decode c_TG_collectOld 33 = .ok (.getfield 28, 3) := by decide +kernel
theorem d_TG_collectOld_36 : decode c_TG_collectOld 36 = .ok (.getfield 140, 3) := by decide +kernel
theorem d_TG_collectOld_39 : decode c_TG_collectOld 39 = .ok (.istore_n 1, 1) := by decide +kernel
theorem d_TG_collectOld_40 : decode c_TG_collectOld 40 = .ok (.aload_n 0, 1) := by decide +kernel
theorem d_TG_collectOld_41 : decode c_TG_collectOld 41 = .ok (.getfield 28, 3) := by decide +kernel
theorem d_TG_collectOld_44 : decode c_TG_collectOld 44 = .ok (.invokevirtual 177, 3) := by decide +kernel
theorem d_TG_collectOld_47 : decode c_TG_collectOld 47 = .ok (.aload_n 0, 1) := by decide +kernel
theorem d_TG_collectOld_48 : decode c_TG_collectOld 48 = .ok (.dup, 1) := by decide +kernel
theorem d_TG_collectOld_49 : decode c_TG_collectOld 49 = .ok (.getfield 146, 3) := by decide +kernel
theorem d_TG_collectOld_52 : decode c_TG_collectOld 52 = .ok (.iconst 1, 1) := by decide +kernel
theorem d_TG_collectOld_53 : decode c_TG_collectOld 53 = .ok (.iadd, 1) := by decide +kernel
theorem d_TG_collectOld_54 : decode c_TG_collectOld 54 = .ok (.putfield 146, 3) := by decide +kernel
theorem d_TG_collectOld_57 : decode c_TG_collectOld 57 = .ok (.iload_n 1, 1) := by decide +kernel
theorem d_TG_collectOld_58 : decode c_TG_collectOld 58 = .ok (.aload_n 0, 1) := by decide +kernel
theorem d_TG_collectOld_59 : decode c_TG_collectOld 59 = .ok (.getfield 28, 3) := by decide +kernel
theorem d_TG_collectOld_62 : decode c_TG_collectOld 62 = .ok (.getfield 140, 3) := by decide +kernel
theorem d_TG_collectOld_65 : decode c_TG_collectOld 65 = .ok (.isub, 1) := by decide +kernel
theorem d_TG_collectOld_66 : decode c_TG_collectOld 66 = .ok (.ireturn, 1) := by decide +kernel
abbrev c_TG_findRegisters : ByteArray := prog_1_method_29_code
abbrev y_TG_findRegisters : MethodName := ⟨"TwoGenerations", "findRegisters", "()V"⟩
abbrev h_TG_findRegisters : Cond := .code y_TG_findRegisters c_TG_findRegisters 2 none
theorem d_TG_findRegisters_0 : decode c_TG_findRegisters 0 = .ok (.iconst 0, 1) := by decide +kernel
theorem d_TG_findRegisters_1 : decode c_TG_findRegisters 1 = .ok (.istore_n 1, 1) := by decide +kernel
theorem d_TG_findRegisters_2 : decode c_TG_findRegisters 2 = .ok (.iload_n 1, 1) := by decide +kernel
theorem d_TG_findRegisters_3 : decode c_TG_findRegisters 3 = .ok (.aload_n 0, 1) := by decide +kernel
theorem d_TG_findRegisters_4 : decode c_TG_findRegisters 4 = .ok (.getfield 15, 3) := by decide +kernel
theorem d_TG_findRegisters_7 : decode c_TG_findRegisters 7 = .ok (.arraylength, 1) := by decide +kernel
theorem d_TG_findRegisters_8 : decode c_TG_findRegisters 8 = .ok (.if_icmp .ge 22, 3) := by decide +kernel
theorem d_TG_findRegisters_11 : decode c_TG_findRegisters 11 = .ok (.aload_n 0, 1) := by decide +kernel
theorem d_TG_findRegisters_12 : decode c_TG_findRegisters 12 = .ok (.getfield 38, 3) := by decide +kernel
theorem d_TG_findRegisters_15 : decode c_TG_findRegisters 15 = .ok (.aload_n 0, 1) := by decide +kernel
theorem d_TG_findRegisters_16 : decode c_TG_findRegisters 16 = .ok (.getfield 15, 3) := by decide +kernel
theorem d_TG_findRegisters_19 : decode c_TG_findRegisters 19 = .ok (.iload_n 1, 1) := by decide +kernel
theorem d_TG_findRegisters_20 : decode c_TG_findRegisters 20 = .ok (.aaload, 1) := by decide +kernel
theorem d_TG_findRegisters_21 : decode c_TG_findRegisters 21 = .ok (.invokevirtual 118, 3) := by decide +kernel
theorem d_TG_findRegisters_24 : decode c_TG_findRegisters 24 = .ok (.iinc 1 1, 3) := by decide +kernel
theorem d_TG_findRegisters_27 : decode c_TG_findRegisters 27 = .ok (.goto (-25), 3) := by decide +kernel
theorem d_TG_findRegisters_30 : decode c_TG_findRegisters 30 = .ok (.return_, 1) := by decide +kernel
abbrev c_Gen_cutTargets : ByteArray := prog_2_method_6_code
abbrev y_Gen_cutTargets : MethodName := ⟨"TwoGenerations$Generation", "cutTargets", "()V"⟩
abbrev h_Gen_cutTargets : Cond := .code y_Gen_cutTargets c_Gen_cutTargets 4 none
theorem d_Gen_cutTargets_0 : decode c_Gen_cutTargets 0 = .ok (.iconst 0, 1) := by decide +kernel
theorem d_Gen_cutTargets_1 : decode c_Gen_cutTargets 1 = .ok (.istore_n 1, 1) := by decide +kernel
theorem d_Gen_cutTargets_2 : decode c_Gen_cutTargets 2 = .ok (.iload_n 1, 1) := by decide +kernel
theorem d_Gen_cutTargets_3 : decode c_Gen_cutTargets 3 = .ok (.aload_n 0, 1) := by decide +kernel
theorem d_Gen_cutTargets_4 : decode c_Gen_cutTargets 4 = .ok (.getfield 22, 3) := by decide +kernel
theorem d_Gen_cutTargets_7 : decode c_Gen_cutTargets 7 = .ok (.if_icmp .ge 32, 3) := by decide +kernel
theorem d_Gen_cutTargets_10 : decode c_Gen_cutTargets 10 = .ok (.aload_n 0, 1) := by decide +kernel
theorem d_Gen_cutTargets_11 : decode c_Gen_cutTargets 11 = .ok (.getfield 15, 3) := by decide +kernel
theorem d_Gen_cutTargets_14 : decode c_Gen_cutTargets 14 = .ok (.iload_n 1, 1) := by decide +kernel
theorem d_Gen_cutTargets_15 : decode c_Gen_cutTargets 15 = .ok (.aaload, 1) := by decide +kernel
theorem d_Gen_cutTargets_16 : decode c_Gen_cutTargets 16 = .ok (.astore_n 3, 1) := by decide +kernel
theorem d_Gen_cutTargets_17 : decode c_Gen_cutTargets 17 = .ok (.aload_n 3, 1) := by decide +kernel
theorem d_Gen_cutTargets_18 : decode c_Gen_cutTargets 18 = .ok (.instanceof 32, 3) := by decide +kernel
theorem d_Gen_cutTargets_21 : decode c_Gen_cutTargets 21 = .ok (.ifCond .eq 12, 3) := by decide +kernel
theorem d_Gen_cutTargets_24 : decode c_Gen_cutTargets 24 = .ok (.aload_n 3, 1) := by decide +kernel
theorem d_Gen_cutTargets_25 : decode c_Gen_cutTargets 25 = .ok (.checkcast 32, 3) := by decide +kernel
theorem d_Gen_cutTargets_28 : decode c_Gen_cutTargets 28 = .ok (.astore_n 2, 1) := by decide +kernel
theorem d_Gen_cutTargets_29 : decode c_Gen_cutTargets 29 = .ok (.aload_n 2, 1) := by decide +kernel
theorem d_Gen_cutTargets_30 : decode c_Gen_cutTargets 30 = .ok (.invokevirtual 34, 3) := by decide +kernel
theorem d_Gen_cutTargets_33 : decode c_Gen_cutTargets 33 = .ok (.iinc 1 1, 3) := by decide +kernel
theorem d_Gen_cutTargets_36 : decode c_Gen_cutTargets 36 = .ok (.goto (-34), 3) := by decide +kernel
theorem d_Gen_cutTargets_39 : decode c_Gen_cutTargets 39 = .ok (.return_, 1) := by decide +kernel
abbrev c_Wk_cutUnreachedTarget : ByteArray := prog_7_method_2_code
abbrev y_Wk_cutUnreachedTarget : MethodName := ⟨"TwoGenerations$Weak", "cutUnreachedTarget", "()V"⟩
abbrev h_Wk_cutUnreachedTarget : Cond := .code y_Wk_cutUnreachedTarget c_Wk_cutUnreachedTarget 1 none
theorem d_Wk_cutUnreachedTarget_0 : decode c_Wk_cutUnreachedTarget 0 = .ok (.aload_n 0, 1) := by decide +kernel
theorem d_Wk_cutUnreachedTarget_1 : decode c_Wk_cutUnreachedTarget 1 = .ok (.getfield 7, 3) := by decide +kernel
theorem d_Wk_cutUnreachedTarget_4 : decode c_Wk_cutUnreachedTarget 4 = .ok (.ifnull 18, 3) := by decide +kernel
theorem d_Wk_cutUnreachedTarget_7 : decode c_Wk_cutUnreachedTarget 7 = .ok (.aload_n 0, 1) := by decide +kernel
theorem d_Wk_cutUnreachedTarget_8 : decode c_Wk_cutUnreachedTarget 8 = .ok (.getfield 7, 3) := by decide +kernel
theorem d_Wk_cutUnreachedTarget_11 : decode c_Wk_cutUnreachedTarget 11 = .ok (.getfield 13, 3) := by decide +kernel
theorem d_Wk_cutUnreachedTarget_14 : decode c_Wk_cutUnreachedTarget 14 = .ok (.ifCond .ne 8, 3) := by decide +kernel
theorem d_Wk_cutUnreachedTarget_17 : decode c_Wk_cutUnreachedTarget 17 = .ok (.aload_n 0, 1) := by decide +kernel
theorem d_Wk_cutUnreachedTarget_18 : decode c_Wk_cutUnreachedTarget 18 = .ok (.aconst_null, 1) := by decide +kernel
theorem d_Wk_cutUnreachedTarget_19 : decode c_Wk_cutUnreachedTarget 19 = .ok (.putfield 7, 3) := by decide +kernel
theorem d_Wk_cutUnreachedTarget_22 : decode c_Wk_cutUnreachedTarget 22 = .ok (.return_, 1) := by decide +kernel
abbrev c_Gen_keepReached : ByteArray := prog_2_method_7_code
abbrev y_Gen_keepReached : MethodName := ⟨"TwoGenerations$Generation", "keepReached", "()V"⟩
abbrev h_Gen_keepReached : Cond := .code y_Gen_keepReached c_Gen_keepReached 4 none
theorem d_Gen_keepReached_0 : decode c_Gen_keepReached 0 = .ok (.aload_n 0, 1) := by decide +kernel
theorem d_Gen_keepReached_1 : decode c_Gen_keepReached 1 = .ok (.getfield 22, 3) := by decide +kernel
theorem d_Gen_keepReached_4 : decode c_Gen_keepReached 4 = .ok (.istore_n 1, 1) := by decide +kernel
theorem d_Gen_keepReached_5 : decode c_Gen_keepReached 5 = .ok (.aload_n 0, 1) := by decide +kernel
theorem d_Gen_keepReached_6 : decode c_Gen_keepReached 6 = .ok (.invokevirtual 37, 3) := by decide +kernel
theorem d_Gen_keepReached_9 : decode c_Gen_keepReached 9 = .ok (.iconst 0, 1) := by decide +kernel
theorem d_Gen_keepReached_10 : decode c_Gen_keepReached 10 = .ok (.istore_n 2, 1) := by decide +kernel
theorem d_Gen_keepReached_11 : decode c_Gen_keepReached 11 = .ok (.iload_n 2, 1) := by decide +kernel
theorem d_Gen_keepReached_12 : decode c_Gen_keepReached 12 = .ok (.iload_n 1, 1) := by decide +kernel
theorem d_Gen_keepReached_13 : decode c_Gen_keepReached 13 = .ok (.if_icmp .ge 32, 3) := by decide +kernel
theorem d_Gen_keepReached_16 : decode c_Gen_keepReached 16 = .ok (.aload_n 0, 1) := by decide +kernel
theorem d_Gen_keepReached_17 : decode c_Gen_keepReached 17 = .ok (.getfield 15, 3) := by decide +kernel
theorem d_Gen_keepReached_20 : decode c_Gen_keepReached 20 = .ok (.iload_n 2, 1) := by decide +kernel
theorem d_Gen_keepReached_21 : decode c_Gen_keepReached 21 = .ok (.aaload, 1) := by decide +kernel
theorem d_Gen_keepReached_22 : decode c_Gen_keepReached 22 = .ok (.astore_n 3, 1) := by decide +kernel
theorem d_Gen_keepReached_23 : decode c_Gen_keepReached 23 = .ok (.aload_n 3, 1) := by decide +kernel
theorem d_Gen_keepReached_24 : decode c_Gen_keepReached 24 = .ok (.ifnull 15, 3) := by decide +kernel
theorem d_Gen_keepReached_27 : decode c_Gen_keepReached 27 = .ok (.aload_n 3, 1) := by decide +kernel
theorem d_Gen_keepReached_28 : decode c_Gen_keepReached 28 = .ok (.getfield 28, 3) := by decide +kernel
theorem d_Gen_keepReached_31 : decode c_Gen_keepReached 31 = .ok (.ifCond .eq 8, 3) := by decide +kernel
theorem d_Gen_keepReached_34 : decode c_Gen_keepReached 34 = .ok (.aload_n 0, 1) := by decide +kernel
theorem d_Gen_keepReached_35 : decode c_Gen_keepReached 35 = .ok (.aload_n 3, 1) := by decide +kernel
theorem d_Gen_keepReached_36 : decode c_Gen_keepReached 36 = .ok (.invokevirtual 40, 3) := by decide +kernel
theorem d_Gen_keepReached_39 : decode c_Gen_keepReached 39 = .ok (.iinc 2 1, 3) := by decide +kernel
theorem d_Gen_keepReached_42 : decode c_Gen_keepReached 42 = .ok (.goto (-31), 3) := by decide +kernel
theorem d_Gen_keepReached_45 : decode c_Gen_keepReached 45 = .ok (.return_, 1) := by decide +kernel
abbrev c_Gen_empty : ByteArray := prog_2_method_4_code
abbrev y_Gen_empty : MethodName := ⟨"TwoGenerations$Generation", "empty", "()V"⟩
abbrev h_Gen_empty : Cond := .code y_Gen_empty c_Gen_empty 1 none
theorem d_Gen_empty_0 : decode c_Gen_empty 0 = .ok (.aload_n 0, 1) := by decide +kernel
theorem d_Gen_empty_1 : decode c_Gen_empty 1 = .ok (.iconst 0, 1) := by decide +kernel
theorem d_Gen_empty_2 : decode c_Gen_empty 2 = .ok (.putfield 22, 3) := by decide +kernel
theorem d_Gen_empty_5 : decode c_Gen_empty 5 = .ok (.aload_n 0, 1) := by decide +kernel
theorem d_Gen_empty_6 : decode c_Gen_empty 6 = .ok (.iconst 0, 1) := by decide +kernel
theorem d_Gen_empty_7 : decode c_Gen_empty 7 = .ok (.putfield 19, 3) := by decide +kernel
theorem d_Gen_empty_10 : decode c_Gen_empty 10 = .ok (.return_, 1) := by decide +kernel
abbrev c_Gen_add : ByteArray := prog_2_method_3_code
abbrev y_Gen_add : MethodName := ⟨"TwoGenerations$Generation", "add", "(LTwoGenerations$Thing;)V"⟩
abbrev h_Gen_add : Cond := .code y_Gen_add c_Gen_add 2 none
theorem d_Gen_add_0 : decode c_Gen_add 0 = .ok (.aload_n 0, 1) := by decide +kernel
theorem d_Gen_add_1 : decode c_Gen_add 1 = .ok (.getfield 22, 3) := by decide +kernel
theorem d_Gen_add_4 : decode c_Gen_add 4 = .ok (.aload_n 0, 1) := by decide +kernel
theorem d_Gen_add_5 : decode c_Gen_add 5 = .ok (.getfield 15, 3) := by decide +kernel
theorem d_Gen_add_8 : decode c_Gen_add 8 = .ok (.arraylength, 1) := by decide +kernel
theorem d_Gen_add_9 : decode c_Gen_add 9 = .ok (.if_icmp .ge 36, 3) := by decide +kernel
theorem d_Gen_add_12 : decode c_Gen_add 12 = .ok (.aload_n 0, 1) := by decide +kernel
theorem d_Gen_add_13 : decode c_Gen_add 13 = .ok (.getfield 15, 3) := by decide +kernel
theorem d_Gen_add_16 : decode c_Gen_add 16 = .ok (.aload_n 0, 1) := by decide +kernel
theorem d_Gen_add_17 : decode c_Gen_add 17 = .ok (.getfield 22, 3) := by decide +kernel
theorem d_Gen_add_20 : decode c_Gen_add 20 = .ok (.aload_n 1, 1) := by decide +kernel
theorem d_Gen_add_21 : decode c_Gen_add 21 = .ok (.aastore, 1) := by decide +kernel
theorem d_Gen_add_22 : decode c_Gen_add 22 = .ok (.aload_n 0, 1) := by decide +kernel
theorem d_Gen_add_23 : decode c_Gen_add 23 = .ok (.dup, 1) := by decide +kernel
theorem d_Gen_add_24 : decode c_Gen_add 24 = .ok (.getfield 22, 3) := by decide +kernel
theorem d_Gen_add_27 : decode c_Gen_add 27 = .ok (.iconst 1, 1) := by decide +kernel
theorem d_Gen_add_28 : decode c_Gen_add 28 = .ok (.iadd, 1) := by decide +kernel
theorem d_Gen_add_29 : decode c_Gen_add 29 = .ok (.putfield 22, 3) := by decide +kernel
theorem d_Gen_add_32 : decode c_Gen_add 32 = .ok (.aload_n 0, 1) := by decide +kernel
theorem d_Gen_add_33 : decode c_Gen_add 33 = .ok (.dup, 1) := by decide +kernel
theorem d_Gen_add_34 : decode c_Gen_add 34 = .ok (.getfield 19, 3) := by decide +kernel
theorem d_Gen_add_37 : decode c_Gen_add 37 = .ok (.aload_n 1, 1) := by decide +kernel
theorem d_Gen_add_38 : decode c_Gen_add 38 = .ok (.getfield 25, 3) := by decide +kernel
theorem d_Gen_add_41 : decode c_Gen_add 41 = .ok (.iadd, 1) := by decide +kernel
theorem d_Gen_add_42 : decode c_Gen_add 42 = .ok (.putfield 19, 3) := by decide +kernel
theorem d_Gen_add_45 : decode c_Gen_add 45 = .ok (.return_, 1) := by decide +kernel
abbrev c_TG_cells : ByteArray := prog_1_method_18_code
abbrev y_TG_cells : MethodName := ⟨"TwoGenerations", "cells", "(I)I"⟩
abbrev h_TG_cells : Cond := .code y_TG_cells c_TG_cells 2 (some .int)
theorem d_TG_cells_0 : decode c_TG_cells 0 = .ok (.iload_n 1, 1) := by decide +kernel
theorem d_TG_cells_1 : decode c_TG_cells 1 = .ok (.ifCond .ne 11, 3) := by decide +kernel
theorem d_TG_cells_4 : decode c_TG_cells 4 = .ok (.aload_n 0, 1) := by decide +kernel
theorem d_TG_cells_5 : decode c_TG_cells 5 = .ok (.getfield 24, 3) := by decide +kernel
theorem d_TG_cells_8 : decode c_TG_cells 8 = .ok (.getfield 140, 3) := by decide +kernel
theorem d_TG_cells_11 : decode c_TG_cells 11 = .ok (.ireturn, 1) := by decide +kernel
theorem d_TG_cells_12 : decode c_TG_cells 12 = .ok (.iload_n 1, 1) := by decide +kernel
theorem d_TG_cells_13 : decode c_TG_cells 13 = .ok (.iconst 1, 1) := by decide +kernel
theorem d_TG_cells_14 : decode c_TG_cells 14 = .ok (.if_icmp .ne 13, 3) := by decide +kernel
theorem d_TG_cells_17 : decode c_TG_cells 17 = .ok (.aload_n 0, 1) := by decide +kernel
theorem d_TG_cells_18 : decode c_TG_cells 18 = .ok (.getfield 28, 3) := by decide +kernel
theorem d_TG_cells_21 : decode c_TG_cells 21 = .ok (.getfield 140, 3) := by decide +kernel
theorem d_TG_cells_24 : decode c_TG_cells 24 = .ok (.goto 4, 3) := by decide +kernel
theorem d_TG_cells_27 : decode c_TG_cells 27 = .ok (.iconst (-1), 1) := by decide +kernel
theorem d_TG_cells_28 : decode c_TG_cells 28 = .ok (.ireturn, 1) := by decide +kernel
abbrev c_TG_collections : ByteArray := prog_1_method_19_code
abbrev y_TG_collections : MethodName := ⟨"TwoGenerations", "collections", "(I)I"⟩
abbrev h_TG_collections : Cond := .code y_TG_collections c_TG_collections 2 (some .int)
theorem d_TG_collections_0 : decode c_TG_collections 0 = .ok (.iload_n 1, 1) := by decide +kernel
theorem d_TG_collections_1 : decode c_TG_collections 1 = .ok (.ifCond .ne 8, 3) := by decide +kernel
theorem d_TG_collections_4 : decode c_TG_collections 4 = .ok (.aload_n 0, 1) := by decide +kernel
theorem d_TG_collections_5 : decode c_TG_collections 5 = .ok (.getfield 143, 3) := by decide +kernel
theorem d_TG_collections_8 : decode c_TG_collections 8 = .ok (.ireturn, 1) := by decide +kernel
theorem d_TG_collections_9 : decode c_TG_collections 9 = .ok (.iload_n 1, 1) := by decide +kernel
theorem d_TG_collections_10 : decode c_TG_collections 10 = .ok (.iconst 1, 1) := by decide +kernel
theorem d_TG_collections_11 : decode c_TG_collections 11 = .ok (.if_icmp .ne 10, 3) := by decide +kernel
theorem d_TG_collections_14 : decode c_TG_collections 14 = .ok (.aload_n 0, 1) := by decide +kernel
theorem d_TG_collections_15 : decode c_TG_collections 15 = .ok (.getfield 146, 3) := by decide +kernel
theorem d_TG_collections_18 : decode c_TG_collections 18 = .ok (.goto 4, 3) := by decide +kernel
theorem d_TG_collections_21 : decode c_TG_collections 21 = .ok (.iconst (-1), 1) := by decide +kernel
theorem d_TG_collections_22 : decode c_TG_collections 22 = .ok (.ireturn, 1) := by decide +kernel
abbrev c_TG_make : ByteArray := prog_1_method_2_code
abbrev y_TG_make : MethodName := ⟨"TwoGenerations", "make", "(II)V"⟩
abbrev h_TG_make : Cond := .code y_TG_make c_TG_make 3 none
theorem d_TG_make_0 : decode c_TG_make 0 = .ok (.aload_n 0, 1) := by decide +kernel
theorem d_TG_make_1 : decode c_TG_make 1 = .ok (.iload_n 1, 1) := by decide +kernel
theorem d_TG_make_2 : decode c_TG_make 2 = .ok (.invokevirtual 42, 3) := by decide +kernel
theorem d_TG_make_5 : decode c_TG_make 5 = .ok (.ifCond .eq 26, 3) := by decide +kernel
theorem d_TG_make_8 : decode c_TG_make 8 = .ok (.iload_n 2, 1) := by decide +kernel
theorem d_TG_make_9 : decode c_TG_make 9 = .ok (.iconst 0, 1) := by decide +kernel
theorem d_TG_make_10 : decode c_TG_make 10 = .ok (.bipush 11, 2) := by decide +kernel
theorem d_TG_make_12 : decode c_TG_make 12 = .ok (.invokestatic 7, 3) := by decide +kernel
theorem d_TG_make_15 : decode c_TG_make 15 = .ok (.ifCond .eq 16, 3) := by decide +kernel
theorem d_TG_make_18 : decode c_TG_make 18 = .ok (.iload_n 2, 1) := by decide +kernel
theorem d_TG_make_19 : decode c_TG_make 19 = .ok (.iconst 1, 1) := by decide +kernel
theorem d_TG_make_20 : decode c_TG_make 20 = .ok (.iadd, 1) := by decide +kernel
theorem d_TG_make_21 : decode c_TG_make 21 = .ok (.aload_n 0, 1) := by decide +kernel
theorem d_TG_make_22 : decode c_TG_make 22 = .ok (.getfield 24, 3) := by decide +kernel
theorem d_TG_make_25 : decode c_TG_make 25 = .ok (.getfield 33, 3) := by decide +kernel
theorem d_TG_make_28 : decode c_TG_make 28 = .ok (.if_icmp .le 13, 3) := by decide +kernel
theorem d_TG_make_31 : decode c_TG_make 31 = .ok (.new 46, 3) := by decide +kernel
theorem d_TG_make_34 : decode c_TG_make 34 = .ok (.dup, 1) := by decide +kernel
theorem d_TG_make_35 : decode c_TG_make 35 = .ok (.ldc 48, 2) := by decide +kernel
theorem d_TG_make_37 : decode c_TG_make 37 = .ok (.invokespecial 50, 3) := by decide +kernel
theorem d_TG_make_40 : decode c_TG_make 40 = .ok (.athrow, 1) := by decide +kernel
theorem d_TG_make_41 : decode c_TG_make 41 = .ok (.aload_n 0, 1) := by decide +kernel
theorem d_TG_make_42 : decode c_TG_make 42 = .ok (.iload_n 1, 1) := by decide +kernel
theorem d_TG_make_43 : decode c_TG_make 43 = .ok (.new 53, 3) := by decide +kernel
theorem d_TG_make_46 : decode c_TG_make 46 = .ok (.dup, 1) := by decide +kernel
theorem d_TG_make_47 : decode c_TG_make 47 = .ok (.iload_n 2, 1) := by decide +kernel
theorem d_TG_make_48 : decode c_TG_make 48 = .ok (.invokespecial 55, 3) := by decide +kernel
theorem d_TG_make_51 : decode c_TG_make 51 = .ok (.invokevirtual 56, 3) := by decide +kernel
theorem d_TG_make_54 : decode c_TG_make 54 = .ok (.return_, 1) := by decide +kernel
abbrev c_Pl_init : ByteArray := prog_3_method_1_code
abbrev y_Pl_init : MethodName := ⟨"TwoGenerations$Plain", "<init>", "(I)V"⟩
abbrev h_Pl_init : Cond := .code y_Pl_init c_Pl_init 2 none
theorem d_Pl_init_0 : decode c_Pl_init 0 = .ok (.aload_n 0, 1) := by decide +kernel
theorem d_Pl_init_1 : decode c_Pl_init 1 = .ok (.iload_n 1, 1) := by decide +kernel
theorem d_Pl_init_2 : decode c_Pl_init 2 = .ok (.iconst 1, 1) := by decide +kernel
theorem d_Pl_init_3 : decode c_Pl_init 3 = .ok (.iadd, 1) := by decide +kernel
theorem d_Pl_init_4 : decode c_Pl_init 4 = .ok (.invokespecial 1, 3) := by decide +kernel
theorem d_Pl_init_7 : decode c_Pl_init 7 = .ok (.aload_n 0, 1) := by decide +kernel
theorem d_Pl_init_8 : decode c_Pl_init 8 = .ok (.iload_n 1, 1) := by decide +kernel
theorem d_Pl_init_9 : decode c_Pl_init 9 = .ok (.anewarray 7, 3) := by decide +kernel
theorem d_Pl_init_12 : decode c_Pl_init 12 = .ok (.putfield 9, 3) := by decide +kernel
theorem d_Pl_init_15 : decode c_Pl_init 15 = .ok (.return_, 1) := by decide +kernel
abbrev c_Th_init : ByteArray := prog_4_method_1_code
abbrev y_Th_init : MethodName := ⟨"TwoGenerations$Thing", "<init>", "(I)V"⟩
abbrev h_Th_init : Cond := .code y_Th_init c_Th_init 2 none
theorem d_Th_init_0 : decode c_Th_init 0 = .ok (.aload_n 0, 1) := by decide +kernel
theorem d_Th_init_1 : decode c_Th_init 1 = .ok (.invokespecial 1, 3) := by decide +kernel
theorem d_Th_init_4 : decode c_Th_init 4 = .ok (.aload_n 0, 1) := by decide +kernel
theorem d_Th_init_5 : decode c_Th_init 5 = .ok (.iload_n 1, 1) := by decide +kernel
theorem d_Th_init_6 : decode c_Th_init 6 = .ok (.putfield 7, 3) := by decide +kernel
theorem d_Th_init_9 : decode c_Th_init 9 = .ok (.return_, 1) := by decide +kernel
abbrev c_Va_init : ByteArray := prog_6_method_1_code
abbrev y_Va_init : MethodName := ⟨"TwoGenerations$Value", "<init>", "()V"⟩
abbrev h_Va_init : Cond := .code y_Va_init c_Va_init 1 none
theorem d_Va_init_0 : decode c_Va_init 0 = .ok (.aload_n 0, 1) := by decide +kernel
theorem d_Va_init_1 : decode c_Va_init 1 = .ok (.invokespecial 1, 3) := by decide +kernel
theorem d_Va_init_4 : decode c_Va_init 4 = .ok (.return_, 1) := by decide +kernel
abbrev c_TG_bear : ByteArray := prog_1_method_26_code
abbrev y_TG_bear : MethodName := ⟨"TwoGenerations", "bear", "(ILTwoGenerations$Thing;)V"⟩
abbrev h_TG_bear : Cond := .code y_TG_bear c_TG_bear 3 none
theorem d_TG_bear_0 : decode c_TG_bear 0 = .ok (.aload_n 2, 1) := by decide +kernel
theorem d_TG_bear_1 : decode c_TG_bear 1 = .ok (.getfield 149, 3) := by decide +kernel
theorem d_TG_bear_4 : decode c_TG_bear 4 = .ok (.aload_n 0, 1) := by decide +kernel
theorem d_TG_bear_5 : decode c_TG_bear 5 = .ok (.getfield 24, 3) := by decide +kernel
theorem d_TG_bear_8 : decode c_TG_bear 8 = .ok (.invokevirtual 152, 3) := by decide +kernel
theorem d_TG_bear_11 : decode c_TG_bear 11 = .ok (.if_icmp .le 21, 3) := by decide +kernel
theorem d_TG_bear_14 : decode c_TG_bear 14 = .ok (.aload_n 0, 1) := by decide +kernel
theorem d_TG_bear_15 : decode c_TG_bear 15 = .ok (.invokevirtual 128, 3) := by decide +kernel
theorem d_TG_bear_18 : decode c_TG_bear 18 = .ok (.iconst (-1), 1) := by decide +kernel
theorem d_TG_bear_19 : decode c_TG_bear 19 = .ok (.if_icmp .ne 13, 3) := by decide +kernel
theorem d_TG_bear_22 : decode c_TG_bear 22 = .ok (.new 132, 3) := by decide +kernel
theorem d_TG_bear_25 : decode c_TG_bear 25 = .ok (.dup, 1) := by decide +kernel
theorem d_TG_bear_26 : decode c_TG_bear 26 = .ok (.ldc 134, 2) := by decide +kernel
theorem d_TG_bear_28 : decode c_TG_bear 28 = .ok (.invokespecial 136, 3) := by decide +kernel
theorem d_TG_bear_31 : decode c_TG_bear 31 = .ok (.athrow, 1) := by decide +kernel
theorem d_TG_bear_32 : decode c_TG_bear 32 = .ok (.aload_n 0, 1) := by decide +kernel
theorem d_TG_bear_33 : decode c_TG_bear 33 = .ok (.getfield 24, 3) := by decide +kernel
theorem d_TG_bear_36 : decode c_TG_bear 36 = .ok (.aload_n 2, 1) := by decide +kernel
theorem d_TG_bear_37 : decode c_TG_bear 37 = .ok (.invokevirtual 155, 3) := by decide +kernel
theorem d_TG_bear_40 : decode c_TG_bear 40 = .ok (.aload_n 0, 1) := by decide +kernel
theorem d_TG_bear_41 : decode c_TG_bear 41 = .ok (.getfield 15, 3) := by decide +kernel
theorem d_TG_bear_44 : decode c_TG_bear 44 = .ok (.iload_n 1, 1) := by decide +kernel
theorem d_TG_bear_45 : decode c_TG_bear 45 = .ok (.aload_n 2, 1) := by decide +kernel
theorem d_TG_bear_46 : decode c_TG_bear 46 = .ok (.aastore, 1) := by decide +kernel
theorem d_TG_bear_47 : decode c_TG_bear 47 = .ok (.return_, 1) := by decide +kernel
abbrev c_Gen_free : ByteArray := prog_2_method_2_code
abbrev y_Gen_free : MethodName := ⟨"TwoGenerations$Generation", "free", "()I"⟩
abbrev h_Gen_free : Cond := .code y_Gen_free c_Gen_free 1 (some .int)
theorem d_Gen_free_0 : decode c_Gen_free 0 = .ok (.aload_n 0, 1) := by decide +kernel
theorem d_Gen_free_1 : decode c_Gen_free 1 = .ok (.getfield 7, 3) := by decide +kernel
theorem d_Gen_free_4 : decode c_Gen_free 4 = .ok (.aload_n 0, 1) := by decide +kernel
theorem d_Gen_free_5 : decode c_Gen_free 5 = .ok (.getfield 19, 3) := by decide +kernel
theorem d_Gen_free_8 : decode c_Gen_free 8 = .ok (.isub, 1) := by decide +kernel
theorem d_Gen_free_9 : decode c_Gen_free 9 = .ok (.ireturn, 1) := by decide +kernel
abbrev c_TG_collectYoung : ByteArray := prog_1_method_27_code
abbrev y_TG_collectYoung : MethodName := ⟨"TwoGenerations", "collectYoung", "()I"⟩
abbrev h_TG_collectYoung : Cond := .code y_TG_collectYoung c_TG_collectYoung 2 (some .int)
theorem d_TG_collectYoung_0 : decode c_TG_collectYoung 0 = .ok (.aload_n 0, 1) := by decide +kernel
theorem d_TG_collectYoung_1 : decode c_TG_collectYoung 1 = .ok (.getfield 28, 3) := by decide +kernel
theorem d_TG_collectYoung_4 : decode c_TG_collectYoung 4 = .ok (.invokevirtual 152, 3) := by decide +kernel
theorem d_TG_collectYoung_7 : decode c_TG_collectYoung 7 = .ok (.aload_n 0, 1) := by decide +kernel
theorem d_TG_collectYoung_8 : decode c_TG_collectYoung 8 = .ok (.getfield 24, 3) := by decide +kernel
theorem d_TG_collectYoung_11 : decode c_TG_collectYoung 11 = .ok (.getfield 140, 3) := by decide +kernel
theorem d_TG_collectYoung_14 : decode c_TG_collectYoung 14 = .ok (.if_icmp .ge 8, 3) := by decide +kernel
theorem d_TG_collectYoung_17 : decode c_TG_collectYoung 17 = .ok (.aload_n 0, 1) := by decide +kernel
theorem d_TG_collectYoung_18 : decode c_TG_collectYoung 18 = .ok (.invokevirtual 137, 3) := by decide +kernel
theorem d_TG_collectYoung_21 : decode c_TG_collectYoung 21 = .ok (.pop, 1) := by decide +kernel
theorem d_TG_collectYoung_22 : decode c_TG_collectYoung 22 = .ok (.aload_n 0, 1) := by decide +kernel
theorem d_TG_collectYoung_23 : decode c_TG_collectYoung 23 = .ok (.getfield 38, 3) := by decide +kernel
theorem d_TG_collectYoung_26 : decode c_TG_collectYoung 26 = .ok (.invokevirtual 115, 3) := by decide +kernel
theorem d_TG_collectYoung_29 : decode c_TG_collectYoung 29 = .ok (.aload_n 0, 1) := by decide +kernel
theorem d_TG_collectYoung_30 : decode c_TG_collectYoung 30 = .ok (.invokevirtual 158, 3) := by decide +kernel
theorem d_TG_collectYoung_33 : decode c_TG_collectYoung 33 = .ok (.aload_n 0, 1) := by decide +kernel
theorem d_TG_collectYoung_34 : decode c_TG_collectYoung 34 = .ok (.getfield 38, 3) := by decide +kernel
theorem d_TG_collectYoung_37 : decode c_TG_collectYoung 37 = .ok (.aload_n 0, 1) := by decide +kernel
theorem d_TG_collectYoung_38 : decode c_TG_collectYoung 38 = .ok (.getfield 28, 3) := by decide +kernel
theorem d_TG_collectYoung_41 : decode c_TG_collectYoung 41 = .ok (.invokevirtual 161, 3) := by decide +kernel
theorem d_TG_collectYoung_44 : decode c_TG_collectYoung 44 = .ok (.aload_n 0, 1) := by decide +kernel
theorem d_TG_collectYoung_45 : decode c_TG_collectYoung 45 = .ok (.getfield 38, 3) := by decide +kernel
theorem d_TG_collectYoung_48 : decode c_TG_collectYoung 48 = .ok (.invokevirtual 122, 3) := by decide +kernel
theorem d_TG_collectYoung_51 : decode c_TG_collectYoung 51 = .ok (.aload_n 0, 1) := by decide +kernel
theorem d_TG_collectYoung_52 : decode c_TG_collectYoung 52 = .ok (.getfield 24, 3) := by decide +kernel
theorem d_TG_collectYoung_55 : decode c_TG_collectYoung 55 = .ok (.invokevirtual 165, 3) := by decide +kernel
theorem d_TG_collectYoung_58 : decode c_TG_collectYoung 58 = .ok (.istore_n 1, 1) := by decide +kernel
theorem d_TG_collectYoung_59 : decode c_TG_collectYoung 59 = .ok (.iload_n 1, 1) := by decide +kernel
theorem d_TG_collectYoung_60 : decode c_TG_collectYoung 60 = .ok (.aload_n 0, 1) := by decide +kernel
theorem d_TG_collectYoung_61 : decode c_TG_collectYoung 61 = .ok (.getfield 28, 3) := by decide +kernel
theorem d_TG_collectYoung_64 : decode c_TG_collectYoung 64 = .ok (.invokevirtual 152, 3) := by decide +kernel
theorem d_TG_collectYoung_67 : decode c_TG_collectYoung 67 = .ok (.if_icmp .le 5, 3) := by decide +kernel
theorem d_TG_collectYoung_70 : decode c_TG_collectYoung 70 = .ok (.iconst (-1), 1) := by decide +kernel
theorem d_TG_collectYoung_71 : decode c_TG_collectYoung 71 = .ok (.ireturn, 1) := by decide +kernel
theorem d_TG_collectYoung_72 : decode c_TG_collectYoung 72 = .ok (.aload_n 0, 1) := by decide +kernel
theorem d_TG_collectYoung_73 : decode c_TG_collectYoung 73 = .ok (.getfield 24, 3) := by decide +kernel
theorem d_TG_collectYoung_76 : decode c_TG_collectYoung 76 = .ok (.invokevirtual 168, 3) := by decide +kernel
theorem d_TG_collectYoung_79 : decode c_TG_collectYoung 79 = .ok (.aload_n 0, 1) := by decide +kernel
theorem d_TG_collectYoung_80 : decode c_TG_collectYoung 80 = .ok (.getfield 28, 3) := by decide +kernel
theorem d_TG_collectYoung_83 : decode c_TG_collectYoung 83 = .ok (.invokevirtual 168, 3) := by decide +kernel
theorem d_TG_collectYoung_86 : decode c_TG_collectYoung 86 = .ok (.aload_n 0, 1) := by decide +kernel
theorem d_TG_collectYoung_87 : decode c_TG_collectYoung 87 = .ok (.getfield 28, 3) := by decide +kernel
theorem d_TG_collectYoung_90 : decode c_TG_collectYoung 90 = .ok (.aload_n 0, 1) := by decide +kernel
theorem d_TG_collectYoung_91 : decode c_TG_collectYoung 91 = .ok (.getfield 24, 3) := by decide +kernel
theorem d_TG_collectYoung_94 : decode c_TG_collectYoung 94 = .ok (.invokevirtual 171, 3) := by decide +kernel
theorem d_TG_collectYoung_97 : decode c_TG_collectYoung 97 = .ok (.aload_n 0, 1) := by decide +kernel
theorem d_TG_collectYoung_98 : decode c_TG_collectYoung 98 = .ok (.getfield 24, 3) := by decide +kernel
theorem d_TG_collectYoung_101 : decode c_TG_collectYoung 101 = .ok (.invokevirtual 174, 3) := by decide +kernel
theorem d_TG_collectYoung_104 : decode c_TG_collectYoung 104 = .ok (.aload_n 0, 1) := by decide +kernel
theorem d_TG_collectYoung_105 : decode c_TG_collectYoung 105 = .ok (.dup, 1) := by decide +kernel
theorem d_TG_collectYoung_106 : decode c_TG_collectYoung 106 = .ok (.getfield 143, 3) := by decide +kernel
theorem d_TG_collectYoung_109 : decode c_TG_collectYoung 109 = .ok (.iconst 1, 1) := by decide +kernel
theorem d_TG_collectYoung_110 : decode c_TG_collectYoung 110 = .ok (.iadd, 1) := by decide +kernel
theorem d_TG_collectYoung_111 : decode c_TG_collectYoung 111 = .ok (.putfield 143, 3) := by decide +kernel
theorem d_TG_collectYoung_114 : decode c_TG_collectYoung 114 = .ok (.iload_n 1, 1) := by decide +kernel
theorem d_TG_collectYoung_115 : decode c_TG_collectYoung 115 = .ok (.ireturn, 1) := by decide +kernel
abbrev c_Tr_findAll : ByteArray := prog_5_method_4_code
abbrev y_Tr_findAll : MethodName := ⟨"TwoGenerations$Trace", "findAll", "(LTwoGenerations$Generation;)V"⟩
abbrev h_Tr_findAll : Cond := .code y_Tr_findAll c_Tr_findAll 3 none
theorem d_Tr_findAll_0 : decode c_Tr_findAll 0 = .ok (.iconst 0, 1) := by decide +kernel
theorem d_Tr_findAll_1 : decode c_Tr_findAll 1 = .ok (.istore_n 2, 1) := by decide +kernel
theorem d_Tr_findAll_2 : decode c_Tr_findAll 2 = .ok (.iload_n 2, 1) := by decide +kernel
theorem d_Tr_findAll_3 : decode c_Tr_findAll 3 = .ok (.aload_n 1, 1) := by decide +kernel
theorem d_Tr_findAll_4 : decode c_Tr_findAll 4 = .ok (.getfield 29, 3) := by decide +kernel
theorem d_Tr_findAll_7 : decode c_Tr_findAll 7 = .ok (.if_icmp .ge 19, 3) := by decide +kernel
theorem d_Tr_findAll_10 : decode c_Tr_findAll 10 = .ok (.aload_n 0, 1) := by decide +kernel
theorem d_Tr_findAll_11 : decode c_Tr_findAll 11 = .ok (.aload_n 1, 1) := by decide +kernel
theorem d_Tr_findAll_12 : decode c_Tr_findAll 12 = .ok (.getfield 32, 3) := by decide +kernel
theorem d_Tr_findAll_15 : decode c_Tr_findAll 15 = .ok (.iload_n 2, 1) := by decide +kernel
theorem d_Tr_findAll_16 : decode c_Tr_findAll 16 = .ok (.aaload, 1) := by decide +kernel
theorem d_Tr_findAll_17 : decode c_Tr_findAll 17 = .ok (.invokevirtual 35, 3) := by decide +kernel
theorem d_Tr_findAll_20 : decode c_Tr_findAll 20 = .ok (.iinc 2 1, 3) := by decide +kernel
theorem d_Tr_findAll_23 : decode c_Tr_findAll 23 = .ok (.goto (-21), 3) := by decide +kernel
theorem d_Tr_findAll_26 : decode c_Tr_findAll 26 = .ok (.return_, 1) := by decide +kernel
abbrev c_Gen_reachedCells : ByteArray := prog_2_method_5_code
abbrev y_Gen_reachedCells : MethodName := ⟨"TwoGenerations$Generation", "reachedCells", "()I"⟩
abbrev h_Gen_reachedCells : Cond := .code y_Gen_reachedCells c_Gen_reachedCells 4 (some .int)
theorem d_Gen_reachedCells_0 : decode c_Gen_reachedCells 0 = .ok (.iconst 0, 1) := by decide +kernel
theorem d_Gen_reachedCells_1 : decode c_Gen_reachedCells 1 = .ok (.istore_n 1, 1) := by decide +kernel
theorem d_Gen_reachedCells_2 : decode c_Gen_reachedCells 2 = .ok (.iconst 0, 1) := by decide +kernel
theorem d_Gen_reachedCells_3 : decode c_Gen_reachedCells 3 = .ok (.istore_n 2, 1) := by decide +kernel
theorem d_Gen_reachedCells_4 : decode c_Gen_reachedCells 4 = .ok (.iload_n 2, 1) := by decide +kernel
theorem d_Gen_reachedCells_5 : decode c_Gen_reachedCells 5 = .ok (.aload_n 0, 1) := by decide +kernel
theorem d_Gen_reachedCells_6 : decode c_Gen_reachedCells 6 = .ok (.getfield 22, 3) := by decide +kernel
theorem d_Gen_reachedCells_9 : decode c_Gen_reachedCells 9 = .ok (.if_icmp .ge 34, 3) := by decide +kernel
theorem d_Gen_reachedCells_12 : decode c_Gen_reachedCells 12 = .ok (.aload_n 0, 1) := by decide +kernel
theorem d_Gen_reachedCells_13 : decode c_Gen_reachedCells 13 = .ok (.getfield 15, 3) := by decide +kernel
theorem d_Gen_reachedCells_16 : decode c_Gen_reachedCells 16 = .ok (.iload_n 2, 1) := by decide +kernel
theorem d_Gen_reachedCells_17 : decode c_Gen_reachedCells 17 = .ok (.aaload, 1) := by decide +kernel
theorem d_Gen_reachedCells_18 : decode c_Gen_reachedCells 18 = .ok (.astore_n 3, 1) := by decide +kernel
theorem d_Gen_reachedCells_19 : decode c_Gen_reachedCells 19 = .ok (.aload_n 3, 1) := by decide +kernel
theorem d_Gen_reachedCells_20 : decode c_Gen_reachedCells 20 = .ok (.ifnull 17, 3) := by decide +kernel
theorem d_Gen_reachedCells_23 : decode c_Gen_reachedCells 23 = .ok (.aload_n 3, 1) := by decide +kernel
theorem d_Gen_reachedCells_24 : decode c_Gen_reachedCells 24 = .ok (.getfield 28, 3) := by decide +kernel
theorem d_Gen_reachedCells_27 : decode c_Gen_reachedCells 27 = .ok (.ifCond .eq 10, 3) := by decide +kernel
theorem d_Gen_reachedCells_30 : decode c_Gen_reachedCells 30 = .ok (.iload_n 1, 1) := by decide +kernel
theorem d_Gen_reachedCells_31 : decode c_Gen_reachedCells 31 = .ok (.aload_n 3, 1) := by decide +kernel
theorem d_Gen_reachedCells_32 : decode c_Gen_reachedCells 32 = .ok (.getfield 25, 3) := by decide +kernel
theorem d_Gen_reachedCells_35 : decode c_Gen_reachedCells 35 = .ok (.iadd, 1) := by decide +kernel
theorem d_Gen_reachedCells_36 : decode c_Gen_reachedCells 36 = .ok (.istore_n 1, 1) := by decide +kernel
theorem d_Gen_reachedCells_37 : decode c_Gen_reachedCells 37 = .ok (.iinc 2 1, 3) := by decide +kernel
theorem d_Gen_reachedCells_40 : decode c_Gen_reachedCells 40 = .ok (.goto (-36), 3) := by decide +kernel
theorem d_Gen_reachedCells_43 : decode c_Gen_reachedCells 43 = .ok (.iload_n 1, 1) := by decide +kernel
theorem d_Gen_reachedCells_44 : decode c_Gen_reachedCells 44 = .ok (.ireturn, 1) := by decide +kernel
abbrev c_Gen_adoptReached : ByteArray := prog_2_method_8_code
abbrev y_Gen_adoptReached : MethodName := ⟨"TwoGenerations$Generation", "adoptReached", "(LTwoGenerations$Generation;)V"⟩
abbrev h_Gen_adoptReached : Cond := .code y_Gen_adoptReached c_Gen_adoptReached 4 none
theorem d_Gen_adoptReached_0 : decode c_Gen_adoptReached 0 = .ok (.iconst 0, 1) := by decide +kernel
theorem d_Gen_adoptReached_1 : decode c_Gen_adoptReached 1 = .ok (.istore_n 2, 1) := by decide +kernel
theorem d_Gen_adoptReached_2 : decode c_Gen_adoptReached 2 = .ok (.iload_n 2, 1) := by decide +kernel
theorem d_Gen_adoptReached_3 : decode c_Gen_adoptReached 3 = .ok (.aload_n 1, 1) := by decide +kernel
theorem d_Gen_adoptReached_4 : decode c_Gen_adoptReached 4 = .ok (.getfield 22, 3) := by decide +kernel
theorem d_Gen_adoptReached_7 : decode c_Gen_adoptReached 7 = .ok (.if_icmp .ge 37, 3) := by decide +kernel
theorem d_Gen_adoptReached_10 : decode c_Gen_adoptReached 10 = .ok (.aload_n 1, 1) := by decide +kernel
theorem d_Gen_adoptReached_11 : decode c_Gen_adoptReached 11 = .ok (.getfield 15, 3) := by decide +kernel
theorem d_Gen_adoptReached_14 : decode c_Gen_adoptReached 14 = .ok (.iload_n 2, 1) := by decide +kernel
theorem d_Gen_adoptReached_15 : decode c_Gen_adoptReached 15 = .ok (.aaload, 1) := by decide +kernel
theorem d_Gen_adoptReached_16 : decode c_Gen_adoptReached 16 = .ok (.astore_n 3, 1) := by decide +kernel
theorem d_Gen_adoptReached_17 : decode c_Gen_adoptReached 17 = .ok (.aload_n 3, 1) := by decide +kernel
theorem d_Gen_adoptReached_18 : decode c_Gen_adoptReached 18 = .ok (.ifnull 20, 3) := by decide +kernel
theorem d_Gen_adoptReached_21 : decode c_Gen_adoptReached 21 = .ok (.aload_n 3, 1) := by decide +kernel
theorem d_Gen_adoptReached_22 : decode c_Gen_adoptReached 22 = .ok (.getfield 28, 3) := by decide +kernel
theorem d_Gen_adoptReached_25 : decode c_Gen_adoptReached 25 = .ok (.ifCond .eq 13, 3) := by decide +kernel
theorem d_Gen_adoptReached_28 : decode c_Gen_adoptReached 28 = .ok (.aload_n 3, 1) := by decide +kernel
theorem d_Gen_adoptReached_29 : decode c_Gen_adoptReached 29 = .ok (.iconst 1, 1) := by decide +kernel
theorem d_Gen_adoptReached_30 : decode c_Gen_adoptReached 30 = .ok (.putfield 44, 3) := by decide +kernel
theorem d_Gen_adoptReached_33 : decode c_Gen_adoptReached 33 = .ok (.aload_n 0, 1) := by decide +kernel
theorem d_Gen_adoptReached_34 : decode c_Gen_adoptReached 34 = .ok (.aload_n 3, 1) := by decide +kernel
theorem d_Gen_adoptReached_35 : decode c_Gen_adoptReached 35 = .ok (.invokevirtual 40, 3) := by decide +kernel
theorem d_Gen_adoptReached_38 : decode c_Gen_adoptReached 38 = .ok (.iinc 2 1, 3) := by decide +kernel
theorem d_Gen_adoptReached_41 : decode c_Gen_adoptReached 41 = .ok (.goto (-39), 3) := by decide +kernel
theorem d_Gen_adoptReached_44 : decode c_Gen_adoptReached 44 = .ok (.return_, 1) := by decide +kernel
abbrev c_TG_weak : ByteArray := prog_1_method_3_code
abbrev y_TG_weak : MethodName := ⟨"TwoGenerations", "weak", "(II)V"⟩
abbrev h_TG_weak : Cond := .code y_TG_weak c_TG_weak 4 none
theorem d_TG_weak_0 : decode c_TG_weak 0 = .ok (.aload_n 0, 1) := by decide +kernel
theorem d_TG_weak_1 : decode c_TG_weak 1 = .ok (.iload_n 2, 1) := by decide +kernel
theorem d_TG_weak_2 : decode c_TG_weak 2 = .ok (.invokevirtual 60, 3) := by decide +kernel
theorem d_TG_weak_5 : decode c_TG_weak 5 = .ok (.astore_n 3, 1) := by decide +kernel
theorem d_TG_weak_6 : decode c_TG_weak 6 = .ok (.aload_n 0, 1) := by decide +kernel
theorem d_TG_weak_7 : decode c_TG_weak 7 = .ok (.iload_n 1, 1) := by decide +kernel
theorem d_TG_weak_8 : decode c_TG_weak 8 = .ok (.invokevirtual 42, 3) := by decide +kernel
theorem d_TG_weak_11 : decode c_TG_weak 11 = .ok (.ifCond .eq 7, 3) := by decide +kernel
theorem d_TG_weak_14 : decode c_TG_weak 14 = .ok (.aload_n 3, 1) := by decide +kernel
theorem d_TG_weak_15 : decode c_TG_weak 15 = .ok (.ifnonnull 13, 3) := by decide +kernel
theorem d_TG_weak_18 : decode c_TG_weak 18 = .ok (.new 46, 3) := by decide +kernel
theorem d_TG_weak_21 : decode c_TG_weak 21 = .ok (.dup, 1) := by decide +kernel
theorem d_TG_weak_22 : decode c_TG_weak 22 = .ok (.ldc 64, 2) := by decide +kernel
theorem d_TG_weak_24 : decode c_TG_weak 24 = .ok (.invokespecial 50, 3) := by decide +kernel
theorem d_TG_weak_27 : decode c_TG_weak 27 = .ok (.athrow, 1) := by decide +kernel
theorem d_TG_weak_28 : decode c_TG_weak 28 = .ok (.aload_n 0, 1) := by decide +kernel
theorem d_TG_weak_29 : decode c_TG_weak 29 = .ok (.iload_n 1, 1) := by decide +kernel
theorem d_TG_weak_30 : decode c_TG_weak 30 = .ok (.new 66, 3) := by decide +kernel
theorem d_TG_weak_33 : decode c_TG_weak 33 = .ok (.dup, 1) := by decide +kernel
theorem d_TG_weak_34 : decode c_TG_weak 34 = .ok (.aload_n 3, 1) := by decide +kernel
theorem d_TG_weak_35 : decode c_TG_weak 35 = .ok (.invokespecial 68, 3) := by decide +kernel
theorem d_TG_weak_38 : decode c_TG_weak 38 = .ok (.invokevirtual 56, 3) := by decide +kernel
theorem d_TG_weak_41 : decode c_TG_weak 41 = .ok (.return_, 1) := by decide +kernel
abbrev c_Wk_init : ByteArray := prog_7_method_1_code
abbrev y_Wk_init : MethodName := ⟨"TwoGenerations$Weak", "<init>", "(LTwoGenerations$Thing;)V"⟩
abbrev h_Wk_init : Cond := .code y_Wk_init c_Wk_init 2 none
theorem d_Wk_init_0 : decode c_Wk_init 0 = .ok (.aload_n 0, 1) := by decide +kernel
theorem d_Wk_init_1 : decode c_Wk_init 1 = .ok (.iconst 2, 1) := by decide +kernel
theorem d_Wk_init_2 : decode c_Wk_init 2 = .ok (.invokespecial 1, 3) := by decide +kernel
theorem d_Wk_init_5 : decode c_Wk_init 5 = .ok (.aload_n 0, 1) := by decide +kernel
theorem d_Wk_init_6 : decode c_Wk_init 6 = .ok (.aload_n 1, 1) := by decide +kernel
theorem d_Wk_init_7 : decode c_Wk_init 7 = .ok (.putfield 7, 3) := by decide +kernel
theorem d_Wk_init_10 : decode c_Wk_init 10 = .ok (.return_, 1) := by decide +kernel
abbrev c_TG_load : ByteArray := prog_1_method_4_code
abbrev y_TG_load : MethodName := ⟨"TwoGenerations", "load", "(III)V"⟩
abbrev h_TG_load : Cond := .code y_TG_load c_TG_load 5 none
theorem d_TG_load_0 : decode c_TG_load 0 = .ok (.aload_n 0, 1) := by decide +kernel
theorem d_TG_load_1 : decode c_TG_load 1 = .ok (.iload_n 2, 1) := by decide +kernel
theorem d_TG_load_2 : decode c_TG_load 2 = .ok (.invokevirtual 71, 3) := by decide +kernel
theorem d_TG_load_5 : decode c_TG_load 5 = .ok (.astore 4, 2) := by decide +kernel
theorem d_TG_load_7 : decode c_TG_load 7 = .ok (.aload_n 0, 1) := by decide +kernel
theorem d_TG_load_8 : decode c_TG_load 8 = .ok (.iload_n 1, 1) := by decide +kernel
theorem d_TG_load_9 : decode c_TG_load 9 = .ok (.invokevirtual 42, 3) := by decide +kernel
theorem d_TG_load_12 : decode c_TG_load 12 = .ok (.ifCond .eq 17, 3) := by decide +kernel
theorem d_TG_load_15 : decode c_TG_load 15 = .ok (.aload 4, 2) := by decide +kernel
theorem d_TG_load_17 : decode c_TG_load 17 = .ok (.ifnull 12, 3) := by decide +kernel
theorem d_TG_load_20 : decode c_TG_load 20 = .ok (.aload 4, 2) := by decide +kernel
theorem d_TG_load_22 : decode c_TG_load 22 = .ok (.iload_n 3, 1) := by decide +kernel
theorem d_TG_load_23 : decode c_TG_load 23 = .ok (.invokevirtual 75, 3) := by decide +kernel
theorem d_TG_load_26 : decode c_TG_load 26 = .ok (.ifCond .ne 13, 3) := by decide +kernel
theorem d_TG_load_29 : decode c_TG_load 29 = .ok (.new 46, 3) := by decide +kernel
theorem d_TG_load_32 : decode c_TG_load 32 = .ok (.dup, 1) := by decide +kernel
theorem d_TG_load_33 : decode c_TG_load 33 = .ok (.ldc 78, 2) := by decide +kernel
theorem d_TG_load_35 : decode c_TG_load 35 = .ok (.invokespecial 50, 3) := by decide +kernel
theorem d_TG_load_38 : decode c_TG_load 38 = .ok (.athrow, 1) := by decide +kernel
theorem d_TG_load_39 : decode c_TG_load 39 = .ok (.aload_n 0, 1) := by decide +kernel
theorem d_TG_load_40 : decode c_TG_load 40 = .ok (.getfield 15, 3) := by decide +kernel
theorem d_TG_load_43 : decode c_TG_load 43 = .ok (.iload_n 1, 1) := by decide +kernel
theorem d_TG_load_44 : decode c_TG_load 44 = .ok (.aload 4, 2) := by decide +kernel
theorem d_TG_load_46 : decode c_TG_load 46 = .ok (.getfield 80, 3) := by decide +kernel
theorem d_TG_load_49 : decode c_TG_load 49 = .ok (.iload_n 3, 1) := by decide +kernel
theorem d_TG_load_50 : decode c_TG_load 50 = .ok (.aaload, 1) := by decide +kernel
theorem d_TG_load_51 : decode c_TG_load 51 = .ok (.aastore, 1) := by decide +kernel
theorem d_TG_load_52 : decode c_TG_load 52 = .ok (.return_, 1) := by decide +kernel
abbrev c_Pl_hasField : ByteArray := prog_3_method_2_code
abbrev y_Pl_hasField : MethodName := ⟨"TwoGenerations$Plain", "hasField", "(I)Z"⟩
abbrev h_Pl_hasField : Cond := .code y_Pl_hasField c_Pl_hasField 2 (some .boolean)
theorem d_Pl_hasField_0 : decode c_Pl_hasField 0 = .ok (.iconst 0, 1) := by decide +kernel
theorem d_Pl_hasField_1 : decode c_Pl_hasField 1 = .ok (.iload_n 1, 1) := by decide +kernel
theorem d_Pl_hasField_2 : decode c_Pl_hasField 2 = .ok (.if_icmp .gt 16, 3) := by decide +kernel
theorem d_Pl_hasField_5 : decode c_Pl_hasField 5 = .ok (.iload_n 1, 1) := by decide +kernel
theorem d_Pl_hasField_6 : decode c_Pl_hasField 6 = .ok (.aload_n 0, 1) := by decide +kernel
theorem d_Pl_hasField_7 : decode c_Pl_hasField 7 = .ok (.getfield 9, 3) := by decide +kernel
theorem d_Pl_hasField_10 : decode c_Pl_hasField 10 = .ok (.arraylength, 1) := by decide +kernel
theorem d_Pl_hasField_11 : decode c_Pl_hasField 11 = .ok (.if_icmp .ge 7, 3) := by decide +kernel
theorem d_Pl_hasField_14 : decode c_Pl_hasField 14 = .ok (.iconst 1, 1) := by decide +kernel
theorem d_Pl_hasField_15 : decode c_Pl_hasField 15 = .ok (.goto 4, 3) := by decide +kernel
theorem d_Pl_hasField_18 : decode c_Pl_hasField 18 = .ok (.iconst 0, 1) := by decide +kernel
theorem d_Pl_hasField_19 : decode c_Pl_hasField 19 = .ok (.ireturn, 1) := by decide +kernel
abbrev c_TG_store : ByteArray := prog_1_method_5_code
abbrev y_TG_store : MethodName := ⟨"TwoGenerations", "store", "(III)V"⟩
abbrev h_TG_store : Cond := .code y_TG_store c_TG_store 5 none
theorem d_TG_store_0 : decode c_TG_store 0 = .ok (.aload_n 0, 1) := by decide +kernel
theorem d_TG_store_1 : decode c_TG_store 1 = .ok (.iload_n 1, 1) := by decide +kernel
theorem d_TG_store_2 : decode c_TG_store 2 = .ok (.invokevirtual 71, 3) := by decide +kernel
theorem d_TG_store_5 : decode c_TG_store 5 = .ok (.astore 4, 2) := by decide +kernel
theorem d_TG_store_7 : decode c_TG_store 7 = .ok (.aload_n 0, 1) := by decide +kernel
theorem d_TG_store_8 : decode c_TG_store 8 = .ok (.iload_n 3, 1) := by decide +kernel
theorem d_TG_store_9 : decode c_TG_store 9 = .ok (.invokevirtual 42, 3) := by decide +kernel
theorem d_TG_store_12 : decode c_TG_store 12 = .ok (.ifCond .eq 17, 3) := by decide +kernel
theorem d_TG_store_15 : decode c_TG_store 15 = .ok (.aload 4, 2) := by decide +kernel
theorem d_TG_store_17 : decode c_TG_store 17 = .ok (.ifnull 12, 3) := by decide +kernel
theorem d_TG_store_20 : decode c_TG_store 20 = .ok (.aload 4, 2) := by decide +kernel
theorem d_TG_store_22 : decode c_TG_store 22 = .ok (.iload_n 2, 1) := by decide +kernel
theorem d_TG_store_23 : decode c_TG_store 23 = .ok (.invokevirtual 75, 3) := by decide +kernel
theorem d_TG_store_26 : decode c_TG_store 26 = .ok (.ifCond .ne 13, 3) := by decide +kernel
theorem d_TG_store_29 : decode c_TG_store 29 = .ok (.new 46, 3) := by decide +kernel
theorem d_TG_store_32 : decode c_TG_store 32 = .ok (.dup, 1) := by decide +kernel
theorem d_TG_store_33 : decode c_TG_store 33 = .ok (.ldc 78, 2) := by decide +kernel
theorem d_TG_store_35 : decode c_TG_store 35 = .ok (.invokespecial 50, 3) := by decide +kernel
theorem d_TG_store_38 : decode c_TG_store 38 = .ok (.athrow, 1) := by decide +kernel
theorem d_TG_store_39 : decode c_TG_store 39 = .ok (.aload 4, 2) := by decide +kernel
theorem d_TG_store_41 : decode c_TG_store 41 = .ok (.getfield 80, 3) := by decide +kernel
theorem d_TG_store_44 : decode c_TG_store 44 = .ok (.iload_n 2, 1) := by decide +kernel
theorem d_TG_store_45 : decode c_TG_store 45 = .ok (.aload_n 0, 1) := by decide +kernel
theorem d_TG_store_46 : decode c_TG_store 46 = .ok (.getfield 15, 3) := by decide +kernel
theorem d_TG_store_49 : decode c_TG_store 49 = .ok (.iload_n 3, 1) := by decide +kernel
theorem d_TG_store_50 : decode c_TG_store 50 = .ok (.aaload, 1) := by decide +kernel
theorem d_TG_store_51 : decode c_TG_store 51 = .ok (.aastore, 1) := by decide +kernel
theorem d_TG_store_52 : decode c_TG_store 52 = .ok (.return_, 1) := by decide +kernel
abbrev c_TG_target : ByteArray := prog_1_method_6_code
abbrev y_TG_target : MethodName := ⟨"TwoGenerations", "target", "(II)V"⟩
abbrev h_TG_target : Cond := .code y_TG_target c_TG_target 4 none
theorem d_TG_target_0 : decode c_TG_target 0 = .ok (.aload_n 0, 1) := by decide +kernel
theorem d_TG_target_1 : decode c_TG_target 1 = .ok (.iload_n 2, 1) := by decide +kernel
theorem d_TG_target_2 : decode c_TG_target 2 = .ok (.invokevirtual 83, 3) := by decide +kernel
theorem d_TG_target_5 : decode c_TG_target 5 = .ok (.astore_n 3, 1) := by decide +kernel
theorem d_TG_target_6 : decode c_TG_target 6 = .ok (.aload_n 0, 1) := by decide +kernel
theorem d_TG_target_7 : decode c_TG_target 7 = .ok (.iload_n 1, 1) := by decide +kernel
theorem d_TG_target_8 : decode c_TG_target 8 = .ok (.invokevirtual 42, 3) := by decide +kernel
theorem d_TG_target_11 : decode c_TG_target 11 = .ok (.ifCond .eq 7, 3) := by decide +kernel
theorem d_TG_target_14 : decode c_TG_target 14 = .ok (.aload_n 3, 1) := by decide +kernel
theorem d_TG_target_15 : decode c_TG_target 15 = .ok (.ifnonnull 13, 3) := by decide +kernel
theorem d_TG_target_18 : decode c_TG_target 18 = .ok (.new 46, 3) := by decide +kernel
theorem d_TG_target_21 : decode c_TG_target 21 = .ok (.dup, 1) := by decide +kernel
theorem d_TG_target_22 : decode c_TG_target 22 = .ok (.ldc 87, 2) := by decide +kernel
theorem d_TG_target_24 : decode c_TG_target 24 = .ok (.invokespecial 50, 3) := by decide +kernel
theorem d_TG_target_27 : decode c_TG_target 27 = .ok (.athrow, 1) := by decide +kernel
theorem d_TG_target_28 : decode c_TG_target 28 = .ok (.aload_n 0, 1) := by decide +kernel
theorem d_TG_target_29 : decode c_TG_target 29 = .ok (.getfield 15, 3) := by decide +kernel
theorem d_TG_target_32 : decode c_TG_target 32 = .ok (.iload_n 1, 1) := by decide +kernel
theorem d_TG_target_33 : decode c_TG_target 33 = .ok (.aload_n 3, 1) := by decide +kernel
theorem d_TG_target_34 : decode c_TG_target 34 = .ok (.getfield 89, 3) := by decide +kernel
theorem d_TG_target_37 : decode c_TG_target 37 = .ok (.aastore, 1) := by decide +kernel
theorem d_TG_target_38 : decode c_TG_target 38 = .ok (.return_, 1) := by decide +kernel
abbrev c_TG_weakIn : ByteArray := prog_1_method_25_code
abbrev y_TG_weakIn : MethodName := ⟨"TwoGenerations", "weakIn", "(I)LTwoGenerations$Weak;"⟩
abbrev h_TG_weakIn : Cond := .code y_TG_weakIn c_TG_weakIn 4 (some (.object "TwoGenerations$Weak"))
theorem d_TG_weakIn_0 : decode c_TG_weakIn 0 = .ok (.aload_n 0, 1) := by decide +kernel
theorem d_TG_weakIn_1 : decode c_TG_weakIn 1 = .ok (.iload_n 1, 1) := by decide +kernel
theorem d_TG_weakIn_2 : decode c_TG_weakIn 2 = .ok (.invokevirtual 102, 3) := by decide +kernel
theorem d_TG_weakIn_5 : decode c_TG_weakIn 5 = .ok (.astore_n 3, 1) := by decide +kernel
theorem d_TG_weakIn_6 : decode c_TG_weakIn 6 = .ok (.aload_n 3, 1) := by decide +kernel
theorem d_TG_weakIn_7 : decode c_TG_weakIn 7 = .ok (.instanceof 66, 3) := by decide +kernel
theorem d_TG_weakIn_10 : decode c_TG_weakIn 10 = .ok (.ifCond .eq 12, 3) := by decide +kernel
theorem d_TG_weakIn_13 : decode c_TG_weakIn 13 = .ok (.aload_n 3, 1) := by decide +kernel
theorem d_TG_weakIn_14 : decode c_TG_weakIn 14 = .ok (.checkcast 66, 3) := by decide +kernel
theorem d_TG_weakIn_17 : decode c_TG_weakIn 17 = .ok (.astore_n 2, 1) := by decide +kernel
theorem d_TG_weakIn_18 : decode c_TG_weakIn 18 = .ok (.aload_n 2, 1) := by decide +kernel
theorem d_TG_weakIn_19 : decode c_TG_weakIn 19 = .ok (.goto 4, 3) := by decide +kernel
theorem d_TG_weakIn_22 : decode c_TG_weakIn 22 = .ok (.aconst_null, 1) := by decide +kernel
theorem d_TG_weakIn_23 : decode c_TG_weakIn 23 = .ok (.areturn, 1) := by decide +kernel
abbrev c_TG_number : ByteArray := prog_1_method_7_code
abbrev y_TG_number : MethodName := ⟨"TwoGenerations", "number", "(II)V"⟩
abbrev h_TG_number : Cond := .code y_TG_number c_TG_number 3 none
theorem d_TG_number_0 : decode c_TG_number 0 = .ok (.aload_n 0, 1) := by decide +kernel
theorem d_TG_number_1 : decode c_TG_number 1 = .ok (.iload_n 1, 1) := by decide +kernel
theorem d_TG_number_2 : decode c_TG_number 2 = .ok (.invokevirtual 42, 3) := by decide +kernel
theorem d_TG_number_5 : decode c_TG_number 5 = .ok (.ifCond .eq 14, 3) := by decide +kernel
theorem d_TG_number_8 : decode c_TG_number 8 = .ok (.iload_n 2, 1) := by decide +kernel
theorem d_TG_number_9 : decode c_TG_number 9 = .ok (.ldc 93, 2) := by decide +kernel
theorem d_TG_number_11 : decode c_TG_number 11 = .ok (.ldc 94, 2) := by decide +kernel
theorem d_TG_number_13 : decode c_TG_number 13 = .ok (.invokestatic 7, 3) := by decide +kernel
theorem d_TG_number_16 : decode c_TG_number 16 = .ok (.ifCond .ne 13, 3) := by decide +kernel
theorem d_TG_number_19 : decode c_TG_number 19 = .ok (.new 46, 3) := by decide +kernel
theorem d_TG_number_22 : decode c_TG_number 22 = .ok (.dup, 1) := by decide +kernel
theorem d_TG_number_23 : decode c_TG_number 23 = .ok (.ldc 95, 2) := by decide +kernel
theorem d_TG_number_25 : decode c_TG_number 25 = .ok (.invokespecial 50, 3) := by decide +kernel
theorem d_TG_number_28 : decode c_TG_number 28 = .ok (.athrow, 1) := by decide +kernel
theorem d_TG_number_29 : decode c_TG_number 29 = .ok (.aload_n 0, 1) := by decide +kernel
theorem d_TG_number_30 : decode c_TG_number 30 = .ok (.getfield 15, 3) := by decide +kernel
theorem d_TG_number_33 : decode c_TG_number 33 = .ok (.iload_n 1, 1) := by decide +kernel
theorem d_TG_number_34 : decode c_TG_number 34 = .ok (.new 97, 3) := by decide +kernel
theorem d_TG_number_37 : decode c_TG_number 37 = .ok (.dup, 1) := by decide +kernel
theorem d_TG_number_38 : decode c_TG_number 38 = .ok (.iload_n 2, 1) := by decide +kernel
theorem d_TG_number_39 : decode c_TG_number 39 = .ok (.invokespecial 99, 3) := by decide +kernel
theorem d_TG_number_42 : decode c_TG_number 42 = .ok (.aastore, 1) := by decide +kernel
theorem d_TG_number_43 : decode c_TG_number 43 = .ok (.return_, 1) := by decide +kernel
abbrev c_Wh_init : ByteArray := prog_8_method_1_code
abbrev y_Wh_init : MethodName := ⟨"TwoGenerations$Whole", "<init>", "(I)V"⟩
abbrev h_Wh_init : Cond := .code y_Wh_init c_Wh_init 2 none
theorem d_Wh_init_0 : decode c_Wh_init 0 = .ok (.aload_n 0, 1) := by decide +kernel
theorem d_Wh_init_1 : decode c_Wh_init 1 = .ok (.invokespecial 1, 3) := by decide +kernel
theorem d_Wh_init_4 : decode c_Wh_init 4 = .ok (.aload_n 0, 1) := by decide +kernel
theorem d_Wh_init_5 : decode c_Wh_init 5 = .ok (.iload_n 1, 1) := by decide +kernel
theorem d_Wh_init_6 : decode c_Wh_init 6 = .ok (.putfield 7, 3) := by decide +kernel
theorem d_Wh_init_9 : decode c_Wh_init 9 = .ok (.return_, 1) := by decide +kernel
abbrev c_TG_clear : ByteArray := prog_1_method_8_code
abbrev y_TG_clear : MethodName := ⟨"TwoGenerations", "clear", "(I)V"⟩
abbrev h_TG_clear : Cond := .code y_TG_clear c_TG_clear 2 none
theorem d_TG_clear_0 : decode c_TG_clear 0 = .ok (.aload_n 0, 1) := by decide +kernel
theorem d_TG_clear_1 : decode c_TG_clear 1 = .ok (.iload_n 1, 1) := by decide +kernel
theorem d_TG_clear_2 : decode c_TG_clear 2 = .ok (.invokevirtual 42, 3) := by decide +kernel
theorem d_TG_clear_5 : decode c_TG_clear 5 = .ok (.ifCond .ne 13, 3) := by decide +kernel
theorem d_TG_clear_8 : decode c_TG_clear 8 = .ok (.new 46, 3) := by decide +kernel
theorem d_TG_clear_11 : decode c_TG_clear 11 = .ok (.dup, 1) := by decide +kernel
theorem d_TG_clear_12 : decode c_TG_clear 12 = .ok (.ldc 100, 2) := by decide +kernel
theorem d_TG_clear_14 : decode c_TG_clear 14 = .ok (.invokespecial 50, 3) := by decide +kernel
theorem d_TG_clear_17 : decode c_TG_clear 17 = .ok (.athrow, 1) := by decide +kernel
theorem d_TG_clear_18 : decode c_TG_clear 18 = .ok (.aload_n 0, 1) := by decide +kernel
theorem d_TG_clear_19 : decode c_TG_clear 19 = .ok (.getfield 15, 3) := by decide +kernel
theorem d_TG_clear_22 : decode c_TG_clear 22 = .ok (.iload_n 1, 1) := by decide +kernel
theorem d_TG_clear_23 : decode c_TG_clear 23 = .ok (.aconst_null, 1) := by decide +kernel
theorem d_TG_clear_24 : decode c_TG_clear 24 = .ok (.aastore, 1) := by decide +kernel
theorem d_TG_clear_25 : decode c_TG_clear 25 = .ok (.return_, 1) := by decide +kernel
abbrev c_TG_move : ByteArray := prog_1_method_9_code
abbrev y_TG_move : MethodName := ⟨"TwoGenerations", "move", "(II)V"⟩
abbrev h_TG_move : Cond := .code y_TG_move c_TG_move 3 none
theorem d_TG_move_0 : decode c_TG_move 0 = .ok (.aload_n 0, 1) := by decide +kernel
theorem d_TG_move_1 : decode c_TG_move 1 = .ok (.iload_n 1, 1) := by decide +kernel
theorem d_TG_move_2 : decode c_TG_move 2 = .ok (.invokevirtual 42, 3) := by decide +kernel
theorem d_TG_move_5 : decode c_TG_move 5 = .ok (.ifCond .eq 11, 3) := by decide +kernel
theorem d_TG_move_8 : decode c_TG_move 8 = .ok (.aload_n 0, 1) := by decide +kernel
theorem d_TG_move_9 : decode c_TG_move 9 = .ok (.iload_n 2, 1) := by decide +kernel
theorem d_TG_move_10 : decode c_TG_move 10 = .ok (.invokevirtual 42, 3) := by decide +kernel
theorem d_TG_move_13 : decode c_TG_move 13 = .ok (.ifCond .ne 13, 3) := by decide +kernel
theorem d_TG_move_16 : decode c_TG_move 16 = .ok (.new 46, 3) := by decide +kernel
theorem d_TG_move_19 : decode c_TG_move 19 = .ok (.dup, 1) := by decide +kernel
theorem d_TG_move_20 : decode c_TG_move 20 = .ok (.ldc 100, 2) := by decide +kernel
theorem d_TG_move_22 : decode c_TG_move 22 = .ok (.invokespecial 50, 3) := by decide +kernel
theorem d_TG_move_25 : decode c_TG_move 25 = .ok (.athrow, 1) := by decide +kernel
theorem d_TG_move_26 : decode c_TG_move 26 = .ok (.aload_n 0, 1) := by decide +kernel
theorem d_TG_move_27 : decode c_TG_move 27 = .ok (.getfield 15, 3) := by decide +kernel
theorem d_TG_move_30 : decode c_TG_move 30 = .ok (.iload_n 1, 1) := by decide +kernel
theorem d_TG_move_31 : decode c_TG_move 31 = .ok (.aload_n 0, 1) := by decide +kernel
theorem d_TG_move_32 : decode c_TG_move 32 = .ok (.getfield 15, 3) := by decide +kernel
theorem d_TG_move_35 : decode c_TG_move 35 = .ok (.iload_n 2, 1) := by decide +kernel
theorem d_TG_move_36 : decode c_TG_move 36 = .ok (.aaload, 1) := by decide +kernel
theorem d_TG_move_37 : decode c_TG_move 37 = .ok (.aastore, 1) := by decide +kernel
theorem d_TG_move_38 : decode c_TG_move 38 = .ok (.return_, 1) := by decide +kernel
abbrev c_TG_small : ByteArray := prog_1_method_16_code
abbrev y_TG_small : MethodName := ⟨"TwoGenerations", "small", "()I"⟩
abbrev h_TG_small : Cond := .code y_TG_small c_TG_small 2 (some .int)
theorem d_TG_small_0 : decode c_TG_small 0 = .ok (.aload_n 0, 1) := by decide +kernel
theorem d_TG_small_1 : decode c_TG_small 1 = .ok (.invokevirtual 128, 3) := by decide +kernel
theorem d_TG_small_4 : decode c_TG_small 4 = .ok (.istore_n 1, 1) := by decide +kernel
theorem d_TG_small_5 : decode c_TG_small 5 = .ok (.iload_n 1, 1) := by decide +kernel
theorem d_TG_small_6 : decode c_TG_small 6 = .ok (.iconst (-1), 1) := by decide +kernel
theorem d_TG_small_7 : decode c_TG_small 7 = .ok (.if_icmp .ne 13, 3) := by decide +kernel
theorem d_TG_small_10 : decode c_TG_small 10 = .ok (.new 132, 3) := by decide +kernel
theorem d_TG_small_13 : decode c_TG_small 13 = .ok (.dup, 1) := by decide +kernel
theorem d_TG_small_14 : decode c_TG_small 14 = .ok (.ldc 134, 2) := by decide +kernel
theorem d_TG_small_16 : decode c_TG_small 16 = .ok (.invokespecial 136, 3) := by decide +kernel
theorem d_TG_small_19 : decode c_TG_small 19 = .ok (.athrow, 1) := by decide +kernel
theorem d_TG_small_20 : decode c_TG_small 20 = .ok (.iload_n 1, 1) := by decide +kernel
theorem d_TG_small_21 : decode c_TG_small 21 = .ok (.ireturn, 1) := by decide +kernel
end
section
abbrev c_Mo_init : ByteArray := prog_10_method_1_code
abbrev y_Mo_init : MethodName := ⟨"TwoGenerationsModel", "<init>", "(III)V"⟩
abbrev h_Mo_init : Cond := .code y_Mo_init c_Mo_init 5 none
theorem d_Mo_init_0 : decode c_Mo_init 0 = .ok (.aload_n 0, 1) := by decide +kernel
theorem d_Mo_init_1 : decode c_Mo_init 1 = .ok (.invokespecial 1, 3) := by decide +kernel
theorem d_Mo_init_4 : decode c_Mo_init 4 = .ok (.aload_n 0, 1) := by decide +kernel
theorem d_Mo_init_5 : decode c_Mo_init 5 = .ok (.bipush 8, 2) := by decide +kernel
theorem d_Mo_init_7 : decode c_Mo_init 7 = .ok (.newarray .long, 2) := by decide +kernel
theorem d_Mo_init_9 : decode c_Mo_init 9 = .ok (.putfield 7, 3) := by decide +kernel
theorem d_Mo_init_12 : decode c_Mo_init 12 = .ok (.aload_n 0, 1) := by decide +kernel
theorem d_Mo_init_13 : decode c_Mo_init 13 = .ok (.sipush 200, 3) := by decide +kernel
theorem d_Mo_init_16 : decode c_Mo_init 16 = .ok (.newarray .boolean, 2) := by decide +kernel
theorem d_Mo_init_18 : decode c_Mo_init 18 = .ok (.putfield 13, 3) := by decide +kernel
theorem d_Mo_init_21 : decode c_Mo_init 21 = .ok (.aload_n 0, 1) := by decide +kernel
theorem d_Mo_init_22 : decode c_Mo_init 22 = .ok (.sipush 200, 3) := by decide +kernel
theorem d_Mo_init_25 : decode c_Mo_init 25 = .ok (.newarray .boolean, 2) := by decide +kernel
theorem d_Mo_init_27 : decode c_Mo_init 27 = .ok (.putfield 17, 3) := by decide +kernel
theorem d_Mo_init_30 : decode c_Mo_init 30 = .ok (.aload_n 0, 1) := by decide +kernel
theorem d_Mo_init_31 : decode c_Mo_init 31 = .ok (.sipush 200, 3) := by decide +kernel
theorem d_Mo_init_34 : decode c_Mo_init 34 = .ok (.newarray .int, 2) := by decide +kernel
theorem d_Mo_init_36 : decode c_Mo_init 36 = .ok (.putfield 20, 3) := by decide +kernel
theorem d_Mo_init_39 : decode c_Mo_init 39 = .ok (.aload_n 0, 1) := by decide +kernel
theorem d_Mo_init_40 : decode c_Mo_init 40 = .ok (.sipush 200, 3) := by decide +kernel
theorem d_Mo_init_43 : decode c_Mo_init 43 = .ok (.newarray .int, 2) := by decide +kernel
theorem d_Mo_init_45 : decode c_Mo_init 45 = .ok (.putfield 24, 3) := by decide +kernel
theorem d_Mo_init_48 : decode c_Mo_init 48 = .ok (.aload_n 0, 1) := by decide +kernel
theorem d_Mo_init_49 : decode c_Mo_init 49 = .ok (.sipush 2200, 3) := by decide +kernel
theorem d_Mo_init_52 : decode c_Mo_init 52 = .ok (.newarray .long, 2) := by decide +kernel
theorem d_Mo_init_54 : decode c_Mo_init 54 = .ok (.putfield 27, 3) := by decide +kernel
theorem d_Mo_init_57 : decode c_Mo_init 57 = .ok (.aload_n 0, 1) := by decide +kernel
theorem d_Mo_init_58 : decode c_Mo_init 58 = .ok (.sipush 200, 3) := by decide +kernel
theorem d_Mo_init_61 : decode c_Mo_init 61 = .ok (.newarray .boolean, 2) := by decide +kernel
theorem d_Mo_init_63 : decode c_Mo_init 63 = .ok (.putfield 30, 3) := by decide +kernel
theorem d_Mo_init_66 : decode c_Mo_init 66 = .ok (.aload_n 0, 1) := by decide +kernel
theorem d_Mo_init_67 : decode c_Mo_init 67 = .ok (.iload_n 1, 1) := by decide +kernel
theorem d_Mo_init_68 : decode c_Mo_init 68 = .ok (.iconst 1, 1) := by decide +kernel
theorem d_Mo_init_69 : decode c_Mo_init 69 = .ok (.if_icmp .lt 13, 3) := by decide +kernel
theorem d_Mo_init_72 : decode c_Mo_init 72 = .ok (.iload_n 1, 1) := by decide +kernel
theorem d_Mo_init_73 : decode c_Mo_init 73 = .ok (.bipush 8, 2) := by decide +kernel
theorem d_Mo_init_75 : decode c_Mo_init 75 = .ok (.if_icmp .gt 7, 3) := by decide +kernel
theorem d_Mo_init_78 : decode c_Mo_init 78 = .ok (.iload_n 1, 1) := by decide +kernel
theorem d_Mo_init_79 : decode c_Mo_init 79 = .ok (.goto 4, 3) := by decide +kernel
theorem d_Mo_init_82 : decode c_Mo_init 82 = .ok (.iconst 4, 1) := by decide +kernel
theorem d_Mo_init_83 : decode c_Mo_init 83 = .ok (.putfield 33, 3) := by decide +kernel
theorem d_Mo_init_86 : decode c_Mo_init 86 = .ok (.aload_n 0, 1) := by decide +kernel
theorem d_Mo_init_87 : decode c_Mo_init 87 = .ok (.iload_n 2, 1) := by decide +kernel
theorem d_Mo_init_88 : decode c_Mo_init 88 = .ok (.iconst 4, 1) := by decide +kernel
theorem d_Mo_init_89 : decode c_Mo_init 89 = .ok (.if_icmp .lt 13, 3) := by decide +kernel
theorem d_Mo_init_92 : decode c_Mo_init 92 = .ok (.iload_n 2, 1) := by decide +kernel
theorem d_Mo_init_93 : decode c_Mo_init 93 = .ok (.bipush 60, 2) := by decide +kernel
theorem d_Mo_init_95 : decode c_Mo_init 95 = .ok (.if_icmp .gt 7, 3) := by decide +kernel
theorem d_Mo_init_98 : decode c_Mo_init 98 = .ok (.iload_n 2, 1) := by decide +kernel
theorem d_Mo_init_99 : decode c_Mo_init 99 = .ok (.goto 5, 3) := by decide +kernel
theorem d_Mo_init_102 : decode c_Mo_init 102 = .ok (.bipush 16, 2) := by decide +kernel
theorem d_Mo_init_104 : decode c_Mo_init 104 = .ok (.putfield 37, 3) := by decide +kernel
theorem d_Mo_init_107 : decode c_Mo_init 107 = .ok (.aload_n 0, 1) := by decide +kernel
theorem d_Mo_init_108 : decode c_Mo_init 108 = .ok (.iload_n 3, 1) := by decide +kernel
theorem d_Mo_init_109 : decode c_Mo_init 109 = .ok (.iconst 4, 1) := by decide +kernel
theorem d_Mo_init_110 : decode c_Mo_init 110 = .ok (.if_icmp .lt 13, 3) := by decide +kernel
theorem d_Mo_init_113 : decode c_Mo_init 113 = .ok (.iload_n 3, 1) := by decide +kernel
theorem d_Mo_init_114 : decode c_Mo_init 114 = .ok (.bipush 120, 2) := by decide +kernel
theorem d_Mo_init_116 : decode c_Mo_init 116 = .ok (.if_icmp .gt 7, 3) := by decide +kernel
theorem d_Mo_init_119 : decode c_Mo_init 119 = .ok (.iload_n 3, 1) := by decide +kernel
theorem d_Mo_init_120 : decode c_Mo_init 120 = .ok (.goto 5, 3) := by decide +kernel
theorem d_Mo_init_123 : decode c_Mo_init 123 = .ok (.bipush 40, 2) := by decide +kernel
theorem d_Mo_init_125 : decode c_Mo_init 125 = .ok (.putfield 40, 3) := by decide +kernel
theorem d_Mo_init_128 : decode c_Mo_init 128 = .ok (.iconst 0, 1) := by decide +kernel
theorem d_Mo_init_129 : decode c_Mo_init 129 = .ok (.istore 4, 2) := by decide +kernel
theorem d_Mo_init_131 : decode c_Mo_init 131 = .ok (.iload 4, 2) := by decide +kernel
theorem d_Mo_init_133 : decode c_Mo_init 133 = .ok (.bipush 8, 2) := by decide +kernel
theorem d_Mo_init_135 : decode c_Mo_init 135 = .ok (.if_icmp .ge 19, 3) := by decide +kernel
theorem d_Mo_init_138 : decode c_Mo_init 138 = .ok (.aload_n 0, 1) := by decide +kernel
theorem d_Mo_init_139 : decode c_Mo_init 139 = .ok (.getfield 7, 3) := by decide +kernel
theorem d_Mo_init_142 : decode c_Mo_init 142 = .ok (.iload 4, 2) := by decide +kernel
theorem d_Mo_init_144 : decode c_Mo_init 144 = .ok (.ldc2_w 43, 3) := by decide +kernel
theorem d_Mo_init_147 : decode c_Mo_init 147 = .ok (.lastore, 1) := by decide +kernel
theorem d_Mo_init_148 : decode c_Mo_init 148 = .ok (.iinc 4 1, 3) := by decide +kernel
theorem d_Mo_init_151 : decode c_Mo_init 151 = .ok (.goto (-20), 3) := by decide +kernel
theorem d_Mo_init_154 : decode c_Mo_init 154 = .ok (.return_, 1) := by decide +kernel
abbrev c_Mo_thrown : ByteArray := prog_10_method_2_code
abbrev y_Mo_thrown : MethodName := ⟨"TwoGenerationsModel", "thrown", "()I"⟩
abbrev h_Mo_thrown : Cond := .code y_Mo_thrown c_Mo_thrown 1 (some .int)
theorem d_Mo_thrown_0 : decode c_Mo_thrown 0 = .ok (.aload_n 0, 1) := by decide +kernel
theorem d_Mo_thrown_1 : decode c_Mo_thrown 1 = .ok (.getfield 45, 3) := by decide +kernel
theorem d_Mo_thrown_4 : decode c_Mo_thrown 4 = .ok (.ireturn, 1) := by decide +kernel
abbrev c_Mo_make : ByteArray := prog_10_method_19_code
abbrev y_Mo_make : MethodName := ⟨"TwoGenerationsModel", "make", "(II)V"⟩
abbrev h_Mo_make : Cond := .code y_Mo_make c_Mo_make 3 none
theorem d_Mo_make_0 : decode c_Mo_make 0 = .ok (.aload_n 0, 1) := by decide +kernel
theorem d_Mo_make_1 : decode c_Mo_make 1 = .ok (.aload_n 0, 1) := by decide +kernel
theorem d_Mo_make_2 : decode c_Mo_make 2 = .ok (.iload_n 1, 1) := by decide +kernel
theorem d_Mo_make_3 : decode c_Mo_make 3 = .ok (.invokevirtual 48, 3) := by decide +kernel
theorem d_Mo_make_6 : decode c_Mo_make 6 = .ok (.ifCond .eq 25, 3) := by decide +kernel
theorem d_Mo_make_9 : decode c_Mo_make 9 = .ok (.iload_n 2, 1) := by decide +kernel
theorem d_Mo_make_10 : decode c_Mo_make 10 = .ok (.ifCond .lt 21, 3) := by decide +kernel
theorem d_Mo_make_13 : decode c_Mo_make 13 = .ok (.iload_n 2, 1) := by decide +kernel
theorem d_Mo_make_14 : decode c_Mo_make 14 = .ok (.bipush 11, 2) := by decide +kernel
theorem d_Mo_make_16 : decode c_Mo_make 16 = .ok (.if_icmp .gt 15, 3) := by decide +kernel
theorem d_Mo_make_19 : decode c_Mo_make 19 = .ok (.iload_n 2, 1) := by decide +kernel
theorem d_Mo_make_20 : decode c_Mo_make 20 = .ok (.aload_n 0, 1) := by decide +kernel
theorem d_Mo_make_21 : decode c_Mo_make 21 = .ok (.getfield 37, 3) := by decide +kernel
theorem d_Mo_make_24 : decode c_Mo_make 24 = .ok (.if_icmp .ge 7, 3) := by decide +kernel
theorem d_Mo_make_27 : decode c_Mo_make 27 = .ok (.iconst 1, 1) := by decide +kernel
theorem d_Mo_make_28 : decode c_Mo_make 28 = .ok (.goto 4, 3) := by decide +kernel
theorem d_Mo_make_31 : decode c_Mo_make 31 = .ok (.iconst 0, 1) := by decide +kernel
theorem d_Mo_make_32 : decode c_Mo_make 32 = .ok (.iconst 1, 1) := by decide +kernel
theorem d_Mo_make_33 : decode c_Mo_make 33 = .ok (.invokevirtual 98, 3) := by decide +kernel
theorem d_Mo_make_36 : decode c_Mo_make 36 = .ok (.ifCond .eq 18, 3) := by decide +kernel
theorem d_Mo_make_39 : decode c_Mo_make 39 = .ok (.aload_n 0, 1) := by decide +kernel
theorem d_Mo_make_40 : decode c_Mo_make 40 = .ok (.aload_n 0, 1) := by decide +kernel
theorem d_Mo_make_41 : decode c_Mo_make 41 = .ok (.iload_n 2, 1) := by decide +kernel
theorem d_Mo_make_42 : decode c_Mo_make 42 = .ok (.iconst 1, 1) := by decide +kernel
theorem d_Mo_make_43 : decode c_Mo_make 43 = .ok (.iadd, 1) := by decide +kernel
theorem d_Mo_make_44 : decode c_Mo_make 44 = .ok (.invokevirtual 102, 3) := by decide +kernel
theorem d_Mo_make_47 : decode c_Mo_make 47 = .ok (.iconst 2, 1) := by decide +kernel
theorem d_Mo_make_48 : decode c_Mo_make 48 = .ok (.invokevirtual 98, 3) := by decide +kernel
theorem d_Mo_make_51 : decode c_Mo_make 51 = .ok (.ifCond .ne 4, 3) := by decide +kernel
theorem d_Mo_make_54 : decode c_Mo_make 54 = .ok (.return_, 1) := by decide +kernel
theorem d_Mo_make_55 : decode c_Mo_make 55 = .ok (.aload_n 0, 1) := by decide +kernel
theorem d_Mo_make_56 : decode c_Mo_make 56 = .ok (.iload_n 1, 1) := by decide +kernel
theorem d_Mo_make_57 : decode c_Mo_make 57 = .ok (.iload_n 2, 1) := by decide +kernel
theorem d_Mo_make_58 : decode c_Mo_make 58 = .ok (.iconst (-1), 1) := by decide +kernel
theorem d_Mo_make_59 : decode c_Mo_make 59 = .ok (.invokevirtual 105, 3) := by decide +kernel
theorem d_Mo_make_62 : decode c_Mo_make 62 = .ok (.return_, 1) := by decide +kernel
abbrev c_Mo_is : ByteArray := prog_10_method_4_code
abbrev y_Mo_is : MethodName := ⟨"TwoGenerationsModel", "is", "(I)Z"⟩
abbrev h_Mo_is : Cond := .code y_Mo_is c_Mo_is 2 (some .boolean)
theorem d_Mo_is_0 : decode c_Mo_is 0 = .ok (.iload_n 1, 1) := by decide +kernel
theorem d_Mo_is_1 : decode c_Mo_is 1 = .ok (.ifCond .lt 15, 3) := by decide +kernel
theorem d_Mo_is_4 : decode c_Mo_is 4 = .ok (.iload_n 1, 1) := by decide +kernel
theorem d_Mo_is_5 : decode c_Mo_is 5 = .ok (.aload_n 0, 1) := by decide +kernel
theorem d_Mo_is_6 : decode c_Mo_is 6 = .ok (.getfield 33, 3) := by decide +kernel
theorem d_Mo_is_9 : decode c_Mo_is 9 = .ok (.if_icmp .ge 7, 3) := by decide +kernel
theorem d_Mo_is_12 : decode c_Mo_is 12 = .ok (.iconst 1, 1) := by decide +kernel
theorem d_Mo_is_13 : decode c_Mo_is 13 = .ok (.goto 4, 3) := by decide +kernel
theorem d_Mo_is_16 : decode c_Mo_is 16 = .ok (.iconst 0, 1) := by decide +kernel
theorem d_Mo_is_17 : decode c_Mo_is 17 = .ok (.ireturn, 1) := by decide +kernel
abbrev c_Mo_when : ByteArray := prog_10_method_3_code
abbrev y_Mo_when : MethodName := ⟨"TwoGenerationsModel", "when", "(ZI)Z"⟩
abbrev h_Mo_when : Cond := .code y_Mo_when c_Mo_when 3 (some .boolean)
theorem d_Mo_when_0 : decode c_Mo_when 0 = .ok (.aload_n 0, 1) := by decide +kernel
theorem d_Mo_when_1 : decode c_Mo_when 1 = .ok (.iload_n 1, 1) := by decide +kernel
theorem d_Mo_when_2 : decode c_Mo_when 2 = .ok (.ifCond .eq 7, 3) := by decide +kernel
theorem d_Mo_when_5 : decode c_Mo_when 5 = .ok (.iconst 0, 1) := by decide +kernel
theorem d_Mo_when_6 : decode c_Mo_when 6 = .ok (.goto 4, 3) := by decide +kernel
theorem d_Mo_when_9 : decode c_Mo_when 9 = .ok (.iload_n 2, 1) := by decide +kernel
theorem d_Mo_when_10 : decode c_Mo_when 10 = .ok (.putfield 45, 3) := by decide +kernel
theorem d_Mo_when_13 : decode c_Mo_when 13 = .ok (.iload_n 1, 1) := by decide +kernel
theorem d_Mo_when_14 : decode c_Mo_when 14 = .ok (.ireturn, 1) := by decide +kernel
abbrev c_Mo_room : ByteArray := prog_10_method_17_code
abbrev y_Mo_room : MethodName := ⟨"TwoGenerationsModel", "room", "(I)Z"⟩
abbrev h_Mo_room : Cond := .code y_Mo_room c_Mo_room 2 (some .boolean)
theorem d_Mo_room_0 : decode c_Mo_room 0 = .ok (.aload_n 0, 1) := by decide +kernel
theorem d_Mo_room_1 : decode c_Mo_room 1 = .ok (.iconst 0, 1) := by decide +kernel
theorem d_Mo_room_2 : decode c_Mo_room 2 = .ok (.invokevirtual 82, 3) := by decide +kernel
theorem d_Mo_room_5 : decode c_Mo_room 5 = .ok (.iload_n 1, 1) := by decide +kernel
theorem d_Mo_room_6 : decode c_Mo_room 6 = .ok (.iadd, 1) := by decide +kernel
theorem d_Mo_room_7 : decode c_Mo_room 7 = .ok (.aload_n 0, 1) := by decide +kernel
theorem d_Mo_room_8 : decode c_Mo_room 8 = .ok (.getfield 37, 3) := by decide +kernel
theorem d_Mo_room_11 : decode c_Mo_room 11 = .ok (.if_icmp .le 10, 3) := by decide +kernel
theorem d_Mo_room_14 : decode c_Mo_room 14 = .ok (.aload_n 0, 1) := by decide +kernel
theorem d_Mo_room_15 : decode c_Mo_room 15 = .ok (.invokevirtual 95, 3) := by decide +kernel
theorem d_Mo_room_18 : decode c_Mo_room 18 = .ok (.ifCond .lt 7, 3) := by decide +kernel
theorem d_Mo_room_21 : decode c_Mo_room 21 = .ok (.iconst 1, 1) := by decide +kernel
theorem d_Mo_room_22 : decode c_Mo_room 22 = .ok (.goto 4, 3) := by decide +kernel
theorem d_Mo_room_25 : decode c_Mo_room 25 = .ok (.iconst 0, 1) := by decide +kernel
theorem d_Mo_room_26 : decode c_Mo_room 26 = .ok (.ireturn, 1) := by decide +kernel
abbrev c_Mo_taken : ByteArray := prog_10_method_7_code
abbrev y_Mo_taken : MethodName := ⟨"TwoGenerationsModel", "taken", "(Z)I"⟩
abbrev h_Mo_taken : Cond := .code y_Mo_taken c_Mo_taken 4 (some .int)
theorem d_Mo_taken_0 : decode c_Mo_taken 0 = .ok (.iconst 0, 1) := by decide +kernel
theorem d_Mo_taken_1 : decode c_Mo_taken 1 = .ok (.istore_n 2, 1) := by decide +kernel
theorem d_Mo_taken_2 : decode c_Mo_taken 2 = .ok (.iconst 0, 1) := by decide +kernel
theorem d_Mo_taken_3 : decode c_Mo_taken 3 = .ok (.istore_n 3, 1) := by decide +kernel
theorem d_Mo_taken_4 : decode c_Mo_taken 4 = .ok (.iload_n 3, 1) := by decide +kernel
theorem d_Mo_taken_5 : decode c_Mo_taken 5 = .ok (.sipush 200, 3) := by decide +kernel
theorem d_Mo_taken_8 : decode c_Mo_taken 8 = .ok (.if_icmp .ge 40, 3) := by decide +kernel
theorem d_Mo_taken_11 : decode c_Mo_taken 11 = .ok (.iload_n 2, 1) := by decide +kernel
theorem d_Mo_taken_12 : decode c_Mo_taken 12 = .ok (.aload_n 0, 1) := by decide +kernel
theorem d_Mo_taken_13 : decode c_Mo_taken 13 = .ok (.getfield 13, 3) := by decide +kernel
theorem d_Mo_taken_16 : decode c_Mo_taken 16 = .ok (.iload_n 3, 1) := by decide +kernel
theorem d_Mo_taken_17 : decode c_Mo_taken 17 = .ok (.baload, 1) := by decide +kernel
theorem d_Mo_taken_18 : decode c_Mo_taken 18 = .ok (.ifCond .eq 21, 3) := by decide +kernel
theorem d_Mo_taken_21 : decode c_Mo_taken 21 = .ok (.aload_n 0, 1) := by decide +kernel
theorem d_Mo_taken_22 : decode c_Mo_taken 22 = .ok (.getfield 17, 3) := by decide +kernel
theorem d_Mo_taken_25 : decode c_Mo_taken 25 = .ok (.iload_n 3, 1) := by decide +kernel
theorem d_Mo_taken_26 : decode c_Mo_taken 26 = .ok (.baload, 1) := by decide +kernel
theorem d_Mo_taken_27 : decode c_Mo_taken 27 = .ok (.iload_n 1, 1) := by decide +kernel
theorem d_Mo_taken_28 : decode c_Mo_taken 28 = .ok (.if_icmp .ne 11, 3) := by decide +kernel
theorem d_Mo_taken_31 : decode c_Mo_taken 31 = .ok (.aload_n 0, 1) := by decide +kernel
theorem d_Mo_taken_32 : decode c_Mo_taken 32 = .ok (.iload_n 3, 1) := by decide +kernel
theorem d_Mo_taken_33 : decode c_Mo_taken 33 = .ok (.invokevirtual 54, 3) := by decide +kernel
theorem d_Mo_taken_36 : decode c_Mo_taken 36 = .ok (.goto 4, 3) := by decide +kernel
theorem d_Mo_taken_39 : decode c_Mo_taken 39 = .ok (.iconst 0, 1) := by decide +kernel
theorem d_Mo_taken_40 : decode c_Mo_taken 40 = .ok (.iadd, 1) := by decide +kernel
theorem d_Mo_taken_41 : decode c_Mo_taken 41 = .ok (.istore_n 2, 1) := by decide +kernel
theorem d_Mo_taken_42 : decode c_Mo_taken 42 = .ok (.iinc 3 1, 3) := by decide +kernel
theorem d_Mo_taken_45 : decode c_Mo_taken 45 = .ok (.goto (-41), 3) := by decide +kernel
theorem d_Mo_taken_48 : decode c_Mo_taken 48 = .ok (.iload_n 2, 1) := by decide +kernel
theorem d_Mo_taken_49 : decode c_Mo_taken 49 = .ok (.ireturn, 1) := by decide +kernel
abbrev c_Mo_cellsOf : ByteArray := prog_10_method_6_code
abbrev y_Mo_cellsOf : MethodName := ⟨"TwoGenerationsModel", "cellsOf", "(I)I"⟩
abbrev h_Mo_cellsOf : Cond := .code y_Mo_cellsOf c_Mo_cellsOf 2 (some .int)
theorem d_Mo_cellsOf_0 : decode c_Mo_cellsOf 0 = .ok (.aload_n 0, 1) := by decide +kernel
theorem d_Mo_cellsOf_1 : decode c_Mo_cellsOf 1 = .ok (.getfield 20, 3) := by decide +kernel
theorem d_Mo_cellsOf_4 : decode c_Mo_cellsOf 4 = .ok (.iload_n 1, 1) := by decide +kernel
theorem d_Mo_cellsOf_5 : decode c_Mo_cellsOf 5 = .ok (.iaload, 1) := by decide +kernel
theorem d_Mo_cellsOf_6 : decode c_Mo_cellsOf 6 = .ok (.ifCond .ge 7, 3) := by decide +kernel
theorem d_Mo_cellsOf_9 : decode c_Mo_cellsOf 9 = .ok (.iconst 2, 1) := by decide +kernel
theorem d_Mo_cellsOf_10 : decode c_Mo_cellsOf 10 = .ok (.goto 11, 3) := by decide +kernel
theorem d_Mo_cellsOf_13 : decode c_Mo_cellsOf 13 = .ok (.aload_n 0, 1) := by decide +kernel
theorem d_Mo_cellsOf_14 : decode c_Mo_cellsOf 14 = .ok (.getfield 20, 3) := by decide +kernel
theorem d_Mo_cellsOf_17 : decode c_Mo_cellsOf 17 = .ok (.iload_n 1, 1) := by decide +kernel
theorem d_Mo_cellsOf_18 : decode c_Mo_cellsOf 18 = .ok (.iaload, 1) := by decide +kernel
theorem d_Mo_cellsOf_19 : decode c_Mo_cellsOf 19 = .ok (.iconst 1, 1) := by decide +kernel
theorem d_Mo_cellsOf_20 : decode c_Mo_cellsOf 20 = .ok (.iadd, 1) := by decide +kernel
theorem d_Mo_cellsOf_21 : decode c_Mo_cellsOf 21 = .ok (.ireturn, 1) := by decide +kernel
abbrev c_Mo_grow : ByteArray := prog_10_method_16_code
abbrev y_Mo_grow : MethodName := ⟨"TwoGenerationsModel", "grow", "()I"⟩
abbrev h_Mo_grow : Cond := .code y_Mo_grow c_Mo_grow 3 (some .int)
theorem d_Mo_grow_0 : decode c_Mo_grow 0 = .ok (.aload_n 0, 1) := by decide +kernel
theorem d_Mo_grow_1 : decode c_Mo_grow 1 = .ok (.getfield 40, 3) := by decide +kernel
theorem d_Mo_grow_4 : decode c_Mo_grow 4 = .ok (.aload_n 0, 1) := by decide +kernel
theorem d_Mo_grow_5 : decode c_Mo_grow 5 = .ok (.iconst 1, 1) := by decide +kernel
theorem d_Mo_grow_6 : decode c_Mo_grow 6 = .ok (.invokevirtual 82, 3) := by decide +kernel
theorem d_Mo_grow_9 : decode c_Mo_grow 9 = .ok (.isub, 1) := by decide +kernel
theorem d_Mo_grow_10 : decode c_Mo_grow 10 = .ok (.aload_n 0, 1) := by decide +kernel
theorem d_Mo_grow_11 : decode c_Mo_grow 11 = .ok (.iconst 0, 1) := by decide +kernel
theorem d_Mo_grow_12 : decode c_Mo_grow 12 = .ok (.invokevirtual 82, 3) := by decide +kernel
theorem d_Mo_grow_15 : decode c_Mo_grow 15 = .ok (.if_icmp .ge 8, 3) := by decide +kernel
theorem d_Mo_grow_18 : decode c_Mo_grow 18 = .ok (.aload_n 0, 1) := by decide +kernel
theorem d_Mo_grow_19 : decode c_Mo_grow 19 = .ok (.invokevirtual 86, 3) := by decide +kernel
theorem d_Mo_grow_22 : decode c_Mo_grow 22 = .ok (.pop, 1) := by decide +kernel
theorem d_Mo_grow_23 : decode c_Mo_grow 23 = .ok (.aload_n 0, 1) := by decide +kernel
theorem d_Mo_grow_24 : decode c_Mo_grow 24 = .ok (.invokevirtual 70, 3) := by decide +kernel
theorem d_Mo_grow_27 : decode c_Mo_grow 27 = .ok (.aload_n 0, 1) := by decide +kernel
theorem d_Mo_grow_28 : decode c_Mo_grow 28 = .ok (.invokevirtual 73, 3) := by decide +kernel
theorem d_Mo_grow_31 : decode c_Mo_grow 31 = .ok (.iconst 0, 1) := by decide +kernel
theorem d_Mo_grow_32 : decode c_Mo_grow 32 = .ok (.istore_n 1, 1) := by decide +kernel
theorem d_Mo_grow_33 : decode c_Mo_grow 33 = .ok (.iload_n 1, 1) := by decide +kernel
theorem d_Mo_grow_34 : decode c_Mo_grow 34 = .ok (.sipush 200, 3) := by decide +kernel
theorem d_Mo_grow_37 : decode c_Mo_grow 37 = .ok (.if_icmp .ge 32, 3) := by decide +kernel
theorem d_Mo_grow_40 : decode c_Mo_grow 40 = .ok (.aload_n 0, 1) := by decide +kernel
theorem d_Mo_grow_41 : decode c_Mo_grow 41 = .ok (.getfield 13, 3) := by decide +kernel
theorem d_Mo_grow_44 : decode c_Mo_grow 44 = .ok (.iload_n 1, 1) := by decide +kernel
theorem d_Mo_grow_45 : decode c_Mo_grow 45 = .ok (.baload, 1) := by decide +kernel
theorem d_Mo_grow_46 : decode c_Mo_grow 46 = .ok (.ifCond .eq 17, 3) := by decide +kernel
theorem d_Mo_grow_49 : decode c_Mo_grow 49 = .ok (.aload_n 0, 1) := by decide +kernel
theorem d_Mo_grow_50 : decode c_Mo_grow 50 = .ok (.getfield 17, 3) := by decide +kernel
theorem d_Mo_grow_53 : decode c_Mo_grow 53 = .ok (.iload_n 1, 1) := by decide +kernel
theorem d_Mo_grow_54 : decode c_Mo_grow 54 = .ok (.baload, 1) := by decide +kernel
theorem d_Mo_grow_55 : decode c_Mo_grow 55 = .ok (.ifCond .eq 8, 3) := by decide +kernel
theorem d_Mo_grow_58 : decode c_Mo_grow 58 = .ok (.aload_n 0, 1) := by decide +kernel
theorem d_Mo_grow_59 : decode c_Mo_grow 59 = .ok (.iload_n 1, 1) := by decide +kernel
theorem d_Mo_grow_60 : decode c_Mo_grow 60 = .ok (.invokevirtual 66, 3) := by decide +kernel
theorem d_Mo_grow_63 : decode c_Mo_grow 63 = .ok (.iinc 1 1, 3) := by decide +kernel
theorem d_Mo_grow_66 : decode c_Mo_grow 66 = .ok (.goto (-33), 3) := by decide +kernel
theorem d_Mo_grow_69 : decode c_Mo_grow 69 = .ok (.aload_n 0, 1) := by decide +kernel
theorem d_Mo_grow_70 : decode c_Mo_grow 70 = .ok (.invokevirtual 76, 3) := by decide +kernel
theorem d_Mo_grow_73 : decode c_Mo_grow 73 = .ok (.iconst 0, 1) := by decide +kernel
theorem d_Mo_grow_74 : decode c_Mo_grow 74 = .ok (.istore_n 1, 1) := by decide +kernel
theorem d_Mo_grow_75 : decode c_Mo_grow 75 = .ok (.iconst 0, 1) := by decide +kernel
theorem d_Mo_grow_76 : decode c_Mo_grow 76 = .ok (.istore_n 2, 1) := by decide +kernel
theorem d_Mo_grow_77 : decode c_Mo_grow 77 = .ok (.iload_n 2, 1) := by decide +kernel
theorem d_Mo_grow_78 : decode c_Mo_grow 78 = .ok (.sipush 200, 3) := by decide +kernel
theorem d_Mo_grow_81 : decode c_Mo_grow 81 = .ok (.if_icmp .ge 48, 3) := by decide +kernel
theorem d_Mo_grow_84 : decode c_Mo_grow 84 = .ok (.iload_n 1, 1) := by decide +kernel
theorem d_Mo_grow_85 : decode c_Mo_grow 85 = .ok (.aload_n 0, 1) := by decide +kernel
theorem d_Mo_grow_86 : decode c_Mo_grow 86 = .ok (.getfield 13, 3) := by decide +kernel
theorem d_Mo_grow_89 : decode c_Mo_grow 89 = .ok (.iload_n 2, 1) := by decide +kernel
theorem d_Mo_grow_90 : decode c_Mo_grow 90 = .ok (.baload, 1) := by decide +kernel
theorem d_Mo_grow_91 : decode c_Mo_grow 91 = .ok (.ifCond .eq 29, 3) := by decide +kernel
theorem d_Mo_grow_94 : decode c_Mo_grow 94 = .ok (.aload_n 0, 1) := by decide +kernel
theorem d_Mo_grow_95 : decode c_Mo_grow 95 = .ok (.getfield 17, 3) := by decide +kernel
theorem d_Mo_grow_98 : decode c_Mo_grow 98 = .ok (.iload_n 2, 1) := by decide +kernel
theorem d_Mo_grow_99 : decode c_Mo_grow 99 = .ok (.baload, 1) := by decide +kernel
theorem d_Mo_grow_100 : decode c_Mo_grow 100 = .ok (.ifCond .ne 20, 3) := by decide +kernel
theorem d_Mo_grow_103 : decode c_Mo_grow 103 = .ok (.aload_n 0, 1) := by decide +kernel
theorem d_Mo_grow_104 : decode c_Mo_grow 104 = .ok (.getfield 30, 3) := by decide +kernel
theorem d_Mo_grow_107 : decode c_Mo_grow 107 = .ok (.iload_n 2, 1) := by decide +kernel
theorem d_Mo_grow_108 : decode c_Mo_grow 108 = .ok (.baload, 1) := by decide +kernel
theorem d_Mo_grow_109 : decode c_Mo_grow 109 = .ok (.ifCond .eq 11, 3) := by decide +kernel
theorem d_Mo_grow_112 : decode c_Mo_grow 112 = .ok (.aload_n 0, 1) := by decide +kernel
theorem d_Mo_grow_113 : decode c_Mo_grow 113 = .ok (.iload_n 2, 1) := by decide +kernel
theorem d_Mo_grow_114 : decode c_Mo_grow 114 = .ok (.invokevirtual 54, 3) := by decide +kernel
theorem d_Mo_grow_117 : decode c_Mo_grow 117 = .ok (.goto 4, 3) := by decide +kernel
theorem d_Mo_grow_120 : decode c_Mo_grow 120 = .ok (.iconst 0, 1) := by decide +kernel
theorem d_Mo_grow_121 : decode c_Mo_grow 121 = .ok (.iadd, 1) := by decide +kernel
theorem d_Mo_grow_122 : decode c_Mo_grow 122 = .ok (.istore_n 1, 1) := by decide +kernel
theorem d_Mo_grow_123 : decode c_Mo_grow 123 = .ok (.iinc 2 1, 3) := by decide +kernel
theorem d_Mo_grow_126 : decode c_Mo_grow 126 = .ok (.goto (-49), 3) := by decide +kernel
theorem d_Mo_grow_129 : decode c_Mo_grow 129 = .ok (.iload_n 1, 1) := by decide +kernel
theorem d_Mo_grow_130 : decode c_Mo_grow 130 = .ok (.aload_n 0, 1) := by decide +kernel
theorem d_Mo_grow_131 : decode c_Mo_grow 131 = .ok (.getfield 40, 3) := by decide +kernel
theorem d_Mo_grow_134 : decode c_Mo_grow 134 = .ok (.aload_n 0, 1) := by decide +kernel
theorem d_Mo_grow_135 : decode c_Mo_grow 135 = .ok (.iconst 1, 1) := by decide +kernel
theorem d_Mo_grow_136 : decode c_Mo_grow 136 = .ok (.invokevirtual 82, 3) := by decide +kernel
theorem d_Mo_grow_139 : decode c_Mo_grow 139 = .ok (.isub, 1) := by decide +kernel
theorem d_Mo_grow_140 : decode c_Mo_grow 140 = .ok (.if_icmp .le 5, 3) := by decide +kernel
theorem d_Mo_grow_143 : decode c_Mo_grow 143 = .ok (.iconst (-1), 1) := by decide +kernel
theorem d_Mo_grow_144 : decode c_Mo_grow 144 = .ok (.ireturn, 1) := by decide +kernel
theorem d_Mo_grow_145 : decode c_Mo_grow 145 = .ok (.aload_n 0, 1) := by decide +kernel
theorem d_Mo_grow_146 : decode c_Mo_grow 146 = .ok (.dup, 1) := by decide +kernel
theorem d_Mo_grow_147 : decode c_Mo_grow 147 = .ok (.getfield 89, 3) := by decide +kernel
theorem d_Mo_grow_150 : decode c_Mo_grow 150 = .ok (.iconst 1, 1) := by decide +kernel
theorem d_Mo_grow_151 : decode c_Mo_grow 151 = .ok (.iadd, 1) := by decide +kernel
theorem d_Mo_grow_152 : decode c_Mo_grow 152 = .ok (.putfield 89, 3) := by decide +kernel
theorem d_Mo_grow_155 : decode c_Mo_grow 155 = .ok (.iconst 0, 1) := by decide +kernel
theorem d_Mo_grow_156 : decode c_Mo_grow 156 = .ok (.istore_n 2, 1) := by decide +kernel
theorem d_Mo_grow_157 : decode c_Mo_grow 157 = .ok (.iload_n 2, 1) := by decide +kernel
theorem d_Mo_grow_158 : decode c_Mo_grow 158 = .ok (.sipush 200, 3) := by decide +kernel
theorem d_Mo_grow_161 : decode c_Mo_grow 161 = .ok (.if_icmp .ge 46, 3) := by decide +kernel
theorem d_Mo_grow_164 : decode c_Mo_grow 164 = .ok (.aload_n 0, 1) := by decide +kernel
theorem d_Mo_grow_165 : decode c_Mo_grow 165 = .ok (.getfield 13, 3) := by decide +kernel
theorem d_Mo_grow_168 : decode c_Mo_grow 168 = .ok (.iload_n 2, 1) := by decide +kernel
theorem d_Mo_grow_169 : decode c_Mo_grow 169 = .ok (.baload, 1) := by decide +kernel
theorem d_Mo_grow_170 : decode c_Mo_grow 170 = .ok (.ifCond .eq 31, 3) := by decide +kernel
theorem d_Mo_grow_173 : decode c_Mo_grow 173 = .ok (.aload_n 0, 1) := by decide +kernel
theorem d_Mo_grow_174 : decode c_Mo_grow 174 = .ok (.getfield 17, 3) := by decide +kernel
theorem d_Mo_grow_177 : decode c_Mo_grow 177 = .ok (.iload_n 2, 1) := by decide +kernel
theorem d_Mo_grow_178 : decode c_Mo_grow 178 = .ok (.baload, 1) := by decide +kernel
theorem d_Mo_grow_179 : decode c_Mo_grow 179 = .ok (.ifCond .ne 22, 3) := by decide +kernel
theorem d_Mo_grow_182 : decode c_Mo_grow 182 = .ok (.aload_n 0, 1) := by decide +kernel
theorem d_Mo_grow_183 : decode c_Mo_grow 183 = .ok (.getfield 13, 3) := by decide +kernel
theorem d_Mo_grow_186 : decode c_Mo_grow 186 = .ok (.iload_n 2, 1) := by decide +kernel
theorem d_Mo_grow_187 : decode c_Mo_grow 187 = .ok (.aload_n 0, 1) := by decide +kernel
theorem d_Mo_grow_188 : decode c_Mo_grow 188 = .ok (.getfield 30, 3) := by decide +kernel
theorem d_Mo_grow_191 : decode c_Mo_grow 191 = .ok (.iload_n 2, 1) := by decide +kernel
theorem d_Mo_grow_192 : decode c_Mo_grow 192 = .ok (.baload, 1) := by decide +kernel
theorem d_Mo_grow_193 : decode c_Mo_grow 193 = .ok (.bastore, 1) := by decide +kernel
theorem d_Mo_grow_194 : decode c_Mo_grow 194 = .ok (.aload_n 0, 1) := by decide +kernel
theorem d_Mo_grow_195 : decode c_Mo_grow 195 = .ok (.getfield 17, 3) := by decide +kernel
theorem d_Mo_grow_198 : decode c_Mo_grow 198 = .ok (.iload_n 2, 1) := by decide +kernel
theorem d_Mo_grow_199 : decode c_Mo_grow 199 = .ok (.iconst 1, 1) := by decide +kernel
theorem d_Mo_grow_200 : decode c_Mo_grow 200 = .ok (.bastore, 1) := by decide +kernel
theorem d_Mo_grow_201 : decode c_Mo_grow 201 = .ok (.iinc 2 1, 3) := by decide +kernel
theorem d_Mo_grow_204 : decode c_Mo_grow 204 = .ok (.goto (-47), 3) := by decide +kernel
theorem d_Mo_grow_207 : decode c_Mo_grow 207 = .ok (.aload_n 0, 1) := by decide +kernel
theorem d_Mo_grow_208 : decode c_Mo_grow 208 = .ok (.invokevirtual 92, 3) := by decide +kernel
theorem d_Mo_grow_211 : decode c_Mo_grow 211 = .ok (.iload_n 1, 1) := by decide +kernel
theorem d_Mo_grow_212 : decode c_Mo_grow 212 = .ok (.ireturn, 1) := by decide +kernel
abbrev c_Mo_clearOld : ByteArray := prog_10_method_15_code
abbrev y_Mo_clearOld : MethodName := ⟨"TwoGenerationsModel", "clearOld", "()I"⟩
abbrev h_Mo_clearOld : Cond := .code y_Mo_clearOld c_Mo_clearOld 3 (some .int)
theorem d_Mo_clearOld_0 : decode c_Mo_clearOld 0 = .ok (.aload_n 0, 1) := by decide +kernel
theorem d_Mo_clearOld_1 : decode c_Mo_clearOld 1 = .ok (.invokevirtual 70, 3) := by decide +kernel
theorem d_Mo_clearOld_4 : decode c_Mo_clearOld 4 = .ok (.aload_n 0, 1) := by decide +kernel
theorem d_Mo_clearOld_5 : decode c_Mo_clearOld 5 = .ok (.invokevirtual 73, 3) := by decide +kernel
theorem d_Mo_clearOld_8 : decode c_Mo_clearOld 8 = .ok (.aload_n 0, 1) := by decide +kernel
theorem d_Mo_clearOld_9 : decode c_Mo_clearOld 9 = .ok (.invokevirtual 76, 3) := by decide +kernel
theorem d_Mo_clearOld_12 : decode c_Mo_clearOld 12 = .ok (.aload_n 0, 1) := by decide +kernel
theorem d_Mo_clearOld_13 : decode c_Mo_clearOld 13 = .ok (.dup, 1) := by decide +kernel
theorem d_Mo_clearOld_14 : decode c_Mo_clearOld 14 = .ok (.getfield 79, 3) := by decide +kernel
theorem d_Mo_clearOld_17 : decode c_Mo_clearOld 17 = .ok (.iconst 1, 1) := by decide +kernel
theorem d_Mo_clearOld_18 : decode c_Mo_clearOld 18 = .ok (.iadd, 1) := by decide +kernel
theorem d_Mo_clearOld_19 : decode c_Mo_clearOld 19 = .ok (.putfield 79, 3) := by decide +kernel
theorem d_Mo_clearOld_22 : decode c_Mo_clearOld 22 = .ok (.iconst 0, 1) := by decide +kernel
theorem d_Mo_clearOld_23 : decode c_Mo_clearOld 23 = .ok (.istore_n 1, 1) := by decide +kernel
theorem d_Mo_clearOld_24 : decode c_Mo_clearOld 24 = .ok (.iconst 0, 1) := by decide +kernel
theorem d_Mo_clearOld_25 : decode c_Mo_clearOld 25 = .ok (.istore_n 2, 1) := by decide +kernel
theorem d_Mo_clearOld_26 : decode c_Mo_clearOld 26 = .ok (.iload_n 2, 1) := by decide +kernel
theorem d_Mo_clearOld_27 : decode c_Mo_clearOld 27 = .ok (.sipush 200, 3) := by decide +kernel
theorem d_Mo_clearOld_30 : decode c_Mo_clearOld 30 = .ok (.if_icmp .ge 90, 3) := by decide +kernel
theorem d_Mo_clearOld_33 : decode c_Mo_clearOld 33 = .ok (.aload_n 0, 1) := by decide +kernel
theorem d_Mo_clearOld_34 : decode c_Mo_clearOld 34 = .ok (.getfield 24, 3) := by decide +kernel
theorem d_Mo_clearOld_37 : decode c_Mo_clearOld 37 = .ok (.iload_n 2, 1) := by decide +kernel
theorem d_Mo_clearOld_38 : decode c_Mo_clearOld 38 = .ok (.aload_n 0, 1) := by decide +kernel
theorem d_Mo_clearOld_39 : decode c_Mo_clearOld 39 = .ok (.getfield 24, 3) := by decide +kernel
theorem d_Mo_clearOld_42 : decode c_Mo_clearOld 42 = .ok (.iload_n 2, 1) := by decide +kernel
theorem d_Mo_clearOld_43 : decode c_Mo_clearOld 43 = .ok (.iaload, 1) := by decide +kernel
theorem d_Mo_clearOld_44 : decode c_Mo_clearOld 44 = .ok (.ifCond .lt 21, 3) := by decide +kernel
theorem d_Mo_clearOld_47 : decode c_Mo_clearOld 47 = .ok (.aload_n 0, 1) := by decide +kernel
theorem d_Mo_clearOld_48 : decode c_Mo_clearOld 48 = .ok (.getfield 30, 3) := by decide +kernel
theorem d_Mo_clearOld_51 : decode c_Mo_clearOld 51 = .ok (.aload_n 0, 1) := by decide +kernel
theorem d_Mo_clearOld_52 : decode c_Mo_clearOld 52 = .ok (.getfield 24, 3) := by decide +kernel
theorem d_Mo_clearOld_55 : decode c_Mo_clearOld 55 = .ok (.iload_n 2, 1) := by decide +kernel
theorem d_Mo_clearOld_56 : decode c_Mo_clearOld 56 = .ok (.iaload, 1) := by decide +kernel
theorem d_Mo_clearOld_57 : decode c_Mo_clearOld 57 = .ok (.baload, 1) := by decide +kernel
theorem d_Mo_clearOld_58 : decode c_Mo_clearOld 58 = .ok (.ifCond .ne 7, 3) := by decide +kernel
theorem d_Mo_clearOld_61 : decode c_Mo_clearOld 61 = .ok (.iconst (-1), 1) := by decide +kernel
theorem d_Mo_clearOld_62 : decode c_Mo_clearOld 62 = .ok (.goto 9, 3) := by decide +kernel
theorem d_Mo_clearOld_65 : decode c_Mo_clearOld 65 = .ok (.aload_n 0, 1) := by decide +kernel
theorem d_Mo_clearOld_66 : decode c_Mo_clearOld 66 = .ok (.getfield 24, 3) := by decide +kernel
theorem d_Mo_clearOld_69 : decode c_Mo_clearOld 69 = .ok (.iload_n 2, 1) := by decide +kernel
theorem d_Mo_clearOld_70 : decode c_Mo_clearOld 70 = .ok (.iaload, 1) := by decide +kernel
theorem d_Mo_clearOld_71 : decode c_Mo_clearOld 71 = .ok (.iastore, 1) := by decide +kernel
theorem d_Mo_clearOld_72 : decode c_Mo_clearOld 72 = .ok (.aload_n 0, 1) := by decide +kernel
theorem d_Mo_clearOld_73 : decode c_Mo_clearOld 73 = .ok (.getfield 13, 3) := by decide +kernel
theorem d_Mo_clearOld_76 : decode c_Mo_clearOld 76 = .ok (.iload_n 2, 1) := by decide +kernel
theorem d_Mo_clearOld_77 : decode c_Mo_clearOld 77 = .ok (.baload, 1) := by decide +kernel
theorem d_Mo_clearOld_78 : decode c_Mo_clearOld 78 = .ok (.ifCond .eq 36, 3) := by decide +kernel
theorem d_Mo_clearOld_81 : decode c_Mo_clearOld 81 = .ok (.aload_n 0, 1) := by decide +kernel
theorem d_Mo_clearOld_82 : decode c_Mo_clearOld 82 = .ok (.getfield 17, 3) := by decide +kernel
theorem d_Mo_clearOld_85 : decode c_Mo_clearOld 85 = .ok (.iload_n 2, 1) := by decide +kernel
theorem d_Mo_clearOld_86 : decode c_Mo_clearOld 86 = .ok (.baload, 1) := by decide +kernel
theorem d_Mo_clearOld_87 : decode c_Mo_clearOld 87 = .ok (.ifCond .eq 27, 3) := by decide +kernel
theorem d_Mo_clearOld_90 : decode c_Mo_clearOld 90 = .ok (.aload_n 0, 1) := by decide +kernel
theorem d_Mo_clearOld_91 : decode c_Mo_clearOld 91 = .ok (.getfield 30, 3) := by decide +kernel
theorem d_Mo_clearOld_94 : decode c_Mo_clearOld 94 = .ok (.iload_n 2, 1) := by decide +kernel
theorem d_Mo_clearOld_95 : decode c_Mo_clearOld 95 = .ok (.baload, 1) := by decide +kernel
theorem d_Mo_clearOld_96 : decode c_Mo_clearOld 96 = .ok (.ifCond .ne 18, 3) := by decide +kernel
theorem d_Mo_clearOld_99 : decode c_Mo_clearOld 99 = .ok (.aload_n 0, 1) := by decide +kernel
theorem d_Mo_clearOld_100 : decode c_Mo_clearOld 100 = .ok (.getfield 13, 3) := by decide +kernel
theorem d_Mo_clearOld_103 : decode c_Mo_clearOld 103 = .ok (.iload_n 2, 1) := by decide +kernel
theorem d_Mo_clearOld_104 : decode c_Mo_clearOld 104 = .ok (.iconst 0, 1) := by decide +kernel
theorem d_Mo_clearOld_105 : decode c_Mo_clearOld 105 = .ok (.bastore, 1) := by decide +kernel
theorem d_Mo_clearOld_106 : decode c_Mo_clearOld 106 = .ok (.iload_n 1, 1) := by decide +kernel
theorem d_Mo_clearOld_107 : decode c_Mo_clearOld 107 = .ok (.aload_n 0, 1) := by decide +kernel
theorem d_Mo_clearOld_108 : decode c_Mo_clearOld 108 = .ok (.iload_n 2, 1) := by decide +kernel
theorem d_Mo_clearOld_109 : decode c_Mo_clearOld 109 = .ok (.invokevirtual 54, 3) := by decide +kernel
theorem d_Mo_clearOld_112 : decode c_Mo_clearOld 112 = .ok (.iadd, 1) := by decide +kernel
theorem d_Mo_clearOld_113 : decode c_Mo_clearOld 113 = .ok (.istore_n 1, 1) := by decide +kernel
theorem d_Mo_clearOld_114 : decode c_Mo_clearOld 114 = .ok (.iinc 2 1, 3) := by decide +kernel
theorem d_Mo_clearOld_117 : decode c_Mo_clearOld 117 = .ok (.goto (-91), 3) := by decide +kernel
theorem d_Mo_clearOld_120 : decode c_Mo_clearOld 120 = .ok (.iload_n 1, 1) := by decide +kernel
theorem d_Mo_clearOld_121 : decode c_Mo_clearOld 121 = .ok (.ireturn, 1) := by decide +kernel
abbrev c_Mo_nothing : ByteArray := prog_10_method_8_code
abbrev y_Mo_nothing : MethodName := ⟨"TwoGenerationsModel", "nothing", "()V"⟩
abbrev h_Mo_nothing : Cond := .code y_Mo_nothing c_Mo_nothing 2 none
theorem d_Mo_nothing_0 : decode c_Mo_nothing 0 = .ok (.iconst 0, 1) := by decide +kernel
theorem d_Mo_nothing_1 : decode c_Mo_nothing 1 = .ok (.istore_n 1, 1) := by decide +kernel
theorem d_Mo_nothing_2 : decode c_Mo_nothing 2 = .ok (.iload_n 1, 1) := by decide +kernel
theorem d_Mo_nothing_3 : decode c_Mo_nothing 3 = .ok (.sipush 200, 3) := by decide +kernel
theorem d_Mo_nothing_6 : decode c_Mo_nothing 6 = .ok (.if_icmp .ge 16, 3) := by decide +kernel
theorem d_Mo_nothing_9 : decode c_Mo_nothing 9 = .ok (.aload_n 0, 1) := by decide +kernel
theorem d_Mo_nothing_10 : decode c_Mo_nothing 10 = .ok (.getfield 30, 3) := by decide +kernel
theorem d_Mo_nothing_13 : decode c_Mo_nothing 13 = .ok (.iload_n 1, 1) := by decide +kernel
theorem d_Mo_nothing_14 : decode c_Mo_nothing 14 = .ok (.iconst 0, 1) := by decide +kernel
theorem d_Mo_nothing_15 : decode c_Mo_nothing 15 = .ok (.bastore, 1) := by decide +kernel
theorem d_Mo_nothing_16 : decode c_Mo_nothing 16 = .ok (.iinc 1 1, 3) := by decide +kernel
theorem d_Mo_nothing_19 : decode c_Mo_nothing 19 = .ok (.goto (-17), 3) := by decide +kernel
theorem d_Mo_nothing_22 : decode c_Mo_nothing 22 = .ok (.return_, 1) := by decide +kernel
abbrev c_Mo_markRegisters : ByteArray := prog_10_method_13_code
abbrev y_Mo_markRegisters : MethodName := ⟨"TwoGenerationsModel", "markRegisters", "()V"⟩
abbrev h_Mo_markRegisters : Cond := .code y_Mo_markRegisters c_Mo_markRegisters 2 none
theorem d_Mo_markRegisters_0 : decode c_Mo_markRegisters 0 = .ok (.iconst 0, 1) := by decide +kernel
theorem d_Mo_markRegisters_1 : decode c_Mo_markRegisters 1 = .ok (.istore_n 1, 1) := by decide +kernel
theorem d_Mo_markRegisters_2 : decode c_Mo_markRegisters 2 = .ok (.iload_n 1, 1) := by decide +kernel
theorem d_Mo_markRegisters_3 : decode c_Mo_markRegisters 3 = .ok (.aload_n 0, 1) := by decide +kernel
theorem d_Mo_markRegisters_4 : decode c_Mo_markRegisters 4 = .ok (.getfield 33, 3) := by decide +kernel
theorem d_Mo_markRegisters_7 : decode c_Mo_markRegisters 7 = .ok (.if_icmp .ge 19, 3) := by decide +kernel
theorem d_Mo_markRegisters_10 : decode c_Mo_markRegisters 10 = .ok (.aload_n 0, 1) := by decide +kernel
theorem d_Mo_markRegisters_11 : decode c_Mo_markRegisters 11 = .ok (.aload_n 0, 1) := by decide +kernel
theorem d_Mo_markRegisters_12 : decode c_Mo_markRegisters 12 = .ok (.getfield 7, 3) := by decide +kernel
theorem d_Mo_markRegisters_15 : decode c_Mo_markRegisters 15 = .ok (.iload_n 1, 1) := by decide +kernel
theorem d_Mo_markRegisters_16 : decode c_Mo_markRegisters 16 = .ok (.laload, 1) := by decide +kernel
theorem d_Mo_markRegisters_17 : decode c_Mo_markRegisters 17 = .ok (.invokevirtual 58, 3) := by decide +kernel
theorem d_Mo_markRegisters_20 : decode c_Mo_markRegisters 20 = .ok (.iinc 1 1, 3) := by decide +kernel
theorem d_Mo_markRegisters_23 : decode c_Mo_markRegisters 23 = .ok (.goto (-21), 3) := by decide +kernel
theorem d_Mo_markRegisters_26 : decode c_Mo_markRegisters 26 = .ok (.return_, 1) := by decide +kernel
abbrev c_Mo_mark : ByteArray := prog_10_method_9_code
abbrev y_Mo_mark : MethodName := ⟨"TwoGenerationsModel", "mark", "(J)V"⟩
abbrev h_Mo_mark : Cond := .code y_Mo_mark c_Mo_mark 3 none
theorem d_Mo_mark_0 : decode c_Mo_mark 0 = .ok (.lload_n 1, 1) := by decide +kernel
theorem d_Mo_mark_1 : decode c_Mo_mark 1 = .ok (.ldc2_w 52, 3) := by decide +kernel
theorem d_Mo_mark_4 : decode c_Mo_mark 4 = .ok (.lcmp, 1) := by decide +kernel
theorem d_Mo_mark_5 : decode c_Mo_mark 5 = .ok (.ifCond .lt 15, 3) := by decide +kernel
theorem d_Mo_mark_8 : decode c_Mo_mark 8 = .ok (.aload_n 0, 1) := by decide +kernel
theorem d_Mo_mark_9 : decode c_Mo_mark 9 = .ok (.getfield 30, 3) := by decide +kernel
theorem d_Mo_mark_12 : decode c_Mo_mark 12 = .ok (.lload_n 1, 1) := by decide +kernel
theorem d_Mo_mark_13 : decode c_Mo_mark 13 = .ok (.ldc2_w 52, 3) := by decide +kernel
theorem d_Mo_mark_16 : decode c_Mo_mark 16 = .ok (.lsub, 1) := by decide +kernel
theorem d_Mo_mark_17 : decode c_Mo_mark 17 = .ok (.l2i, 1) := by decide +kernel
theorem d_Mo_mark_18 : decode c_Mo_mark 18 = .ok (.iconst 1, 1) := by decide +kernel
theorem d_Mo_mark_19 : decode c_Mo_mark 19 = .ok (.bastore, 1) := by decide +kernel
theorem d_Mo_mark_20 : decode c_Mo_mark 20 = .ok (.return_, 1) := by decide +kernel
abbrev c_Mo_spread : ByteArray := prog_10_method_12_code
abbrev y_Mo_spread : MethodName := ⟨"TwoGenerationsModel", "spread", "()V"⟩
abbrev h_Mo_spread : Cond := .code y_Mo_spread c_Mo_spread 3 none
theorem d_Mo_spread_0 : decode c_Mo_spread 0 = .ok (.iconst (-1), 1) := by decide +kernel
theorem d_Mo_spread_1 : decode c_Mo_spread 1 = .ok (.istore_n 1, 1) := by decide +kernel
theorem d_Mo_spread_2 : decode c_Mo_spread 2 = .ok (.aload_n 0, 1) := by decide +kernel
theorem d_Mo_spread_3 : decode c_Mo_spread 3 = .ok (.invokevirtual 62, 3) := by decide +kernel
theorem d_Mo_spread_6 : decode c_Mo_spread 6 = .ok (.iload_n 1, 1) := by decide +kernel
theorem d_Mo_spread_7 : decode c_Mo_spread 7 = .ok (.if_icmp .le 40, 3) := by decide +kernel
theorem d_Mo_spread_10 : decode c_Mo_spread 10 = .ok (.aload_n 0, 1) := by decide +kernel
theorem d_Mo_spread_11 : decode c_Mo_spread 11 = .ok (.invokevirtual 62, 3) := by decide +kernel
theorem d_Mo_spread_14 : decode c_Mo_spread 14 = .ok (.istore_n 1, 1) := by decide +kernel
theorem d_Mo_spread_15 : decode c_Mo_spread 15 = .ok (.iconst 0, 1) := by decide +kernel
theorem d_Mo_spread_16 : decode c_Mo_spread 16 = .ok (.istore_n 2, 1) := by decide +kernel
theorem d_Mo_spread_17 : decode c_Mo_spread 17 = .ok (.iload_n 2, 1) := by decide +kernel
theorem d_Mo_spread_18 : decode c_Mo_spread 18 = .ok (.sipush 200, 3) := by decide +kernel
theorem d_Mo_spread_21 : decode c_Mo_spread 21 = .ok (.if_icmp .ge 23, 3) := by decide +kernel
theorem d_Mo_spread_24 : decode c_Mo_spread 24 = .ok (.aload_n 0, 1) := by decide +kernel
theorem d_Mo_spread_25 : decode c_Mo_spread 25 = .ok (.getfield 30, 3) := by decide +kernel
theorem d_Mo_spread_28 : decode c_Mo_spread 28 = .ok (.iload_n 2, 1) := by decide +kernel
theorem d_Mo_spread_29 : decode c_Mo_spread 29 = .ok (.baload, 1) := by decide +kernel
theorem d_Mo_spread_30 : decode c_Mo_spread 30 = .ok (.ifCond .eq 8, 3) := by decide +kernel
theorem d_Mo_spread_33 : decode c_Mo_spread 33 = .ok (.aload_n 0, 1) := by decide +kernel
theorem d_Mo_spread_34 : decode c_Mo_spread 34 = .ok (.iload_n 2, 1) := by decide +kernel
theorem d_Mo_spread_35 : decode c_Mo_spread 35 = .ok (.invokevirtual 66, 3) := by decide +kernel
theorem d_Mo_spread_38 : decode c_Mo_spread 38 = .ok (.iinc 2 1, 3) := by decide +kernel
theorem d_Mo_spread_41 : decode c_Mo_spread 41 = .ok (.goto (-24), 3) := by decide +kernel
theorem d_Mo_spread_44 : decode c_Mo_spread 44 = .ok (.goto (-42), 3) := by decide +kernel
theorem d_Mo_spread_47 : decode c_Mo_spread 47 = .ok (.return_, 1) := by decide +kernel
abbrev c_Mo_marked : ByteArray := prog_10_method_11_code
abbrev y_Mo_marked : MethodName := ⟨"TwoGenerationsModel", "marked", "()I"⟩
abbrev h_Mo_marked : Cond := .code y_Mo_marked c_Mo_marked 3 (some .int)
theorem d_Mo_marked_0 : decode c_Mo_marked 0 = .ok (.iconst 0, 1) := by decide +kernel
theorem d_Mo_marked_1 : decode c_Mo_marked 1 = .ok (.istore_n 1, 1) := by decide +kernel
theorem d_Mo_marked_2 : decode c_Mo_marked 2 = .ok (.iconst 0, 1) := by decide +kernel
theorem d_Mo_marked_3 : decode c_Mo_marked 3 = .ok (.istore_n 2, 1) := by decide +kernel
theorem d_Mo_marked_4 : decode c_Mo_marked 4 = .ok (.iload_n 2, 1) := by decide +kernel
theorem d_Mo_marked_5 : decode c_Mo_marked 5 = .ok (.sipush 200, 3) := by decide +kernel
theorem d_Mo_marked_8 : decode c_Mo_marked 8 = .ok (.if_icmp .ge 26, 3) := by decide +kernel
theorem d_Mo_marked_11 : decode c_Mo_marked 11 = .ok (.iload_n 1, 1) := by decide +kernel
theorem d_Mo_marked_12 : decode c_Mo_marked 12 = .ok (.aload_n 0, 1) := by decide +kernel
theorem d_Mo_marked_13 : decode c_Mo_marked 13 = .ok (.getfield 30, 3) := by decide +kernel
theorem d_Mo_marked_16 : decode c_Mo_marked 16 = .ok (.iload_n 2, 1) := by decide +kernel
theorem d_Mo_marked_17 : decode c_Mo_marked 17 = .ok (.baload, 1) := by decide +kernel
theorem d_Mo_marked_18 : decode c_Mo_marked 18 = .ok (.ifCond .eq 7, 3) := by decide +kernel
theorem d_Mo_marked_21 : decode c_Mo_marked 21 = .ok (.iconst 1, 1) := by decide +kernel
theorem d_Mo_marked_22 : decode c_Mo_marked 22 = .ok (.goto 4, 3) := by decide +kernel
theorem d_Mo_marked_25 : decode c_Mo_marked 25 = .ok (.iconst 0, 1) := by decide +kernel
theorem d_Mo_marked_26 : decode c_Mo_marked 26 = .ok (.iadd, 1) := by decide +kernel
theorem d_Mo_marked_27 : decode c_Mo_marked 27 = .ok (.istore_n 1, 1) := by decide +kernel
theorem d_Mo_marked_28 : decode c_Mo_marked 28 = .ok (.iinc 2 1, 3) := by decide +kernel
theorem d_Mo_marked_31 : decode c_Mo_marked 31 = .ok (.goto (-27), 3) := by decide +kernel
theorem d_Mo_marked_34 : decode c_Mo_marked 34 = .ok (.iload_n 1, 1) := by decide +kernel
theorem d_Mo_marked_35 : decode c_Mo_marked 35 = .ok (.ireturn, 1) := by decide +kernel
abbrev c_Mo_markFields : ByteArray := prog_10_method_10_code
abbrev y_Mo_markFields : MethodName := ⟨"TwoGenerationsModel", "markFields", "(I)V"⟩
abbrev h_Mo_markFields : Cond := .code y_Mo_markFields c_Mo_markFields 3 none
theorem d_Mo_markFields_0 : decode c_Mo_markFields 0 = .ok (.iconst 0, 1) := by decide +kernel
theorem d_Mo_markFields_1 : decode c_Mo_markFields 1 = .ok (.istore_n 2, 1) := by decide +kernel
theorem d_Mo_markFields_2 : decode c_Mo_markFields 2 = .ok (.iload_n 2, 1) := by decide +kernel
theorem d_Mo_markFields_3 : decode c_Mo_markFields 3 = .ok (.aload_n 0, 1) := by decide +kernel
theorem d_Mo_markFields_4 : decode c_Mo_markFields 4 = .ok (.getfield 20, 3) := by decide +kernel
theorem d_Mo_markFields_7 : decode c_Mo_markFields 7 = .ok (.iload_n 1, 1) := by decide +kernel
theorem d_Mo_markFields_8 : decode c_Mo_markFields 8 = .ok (.iaload, 1) := by decide +kernel
theorem d_Mo_markFields_9 : decode c_Mo_markFields 9 = .ok (.if_icmp .ge 24, 3) := by decide +kernel
theorem d_Mo_markFields_12 : decode c_Mo_markFields 12 = .ok (.aload_n 0, 1) := by decide +kernel
theorem d_Mo_markFields_13 : decode c_Mo_markFields 13 = .ok (.aload_n 0, 1) := by decide +kernel
theorem d_Mo_markFields_14 : decode c_Mo_markFields 14 = .ok (.getfield 27, 3) := by decide +kernel
theorem d_Mo_markFields_17 : decode c_Mo_markFields 17 = .ok (.bipush 11, 2) := by decide +kernel
theorem d_Mo_markFields_19 : decode c_Mo_markFields 19 = .ok (.iload_n 1, 1) := by decide +kernel
theorem d_Mo_markFields_20 : decode c_Mo_markFields 20 = .ok (.imul, 1) := by decide +kernel
theorem d_Mo_markFields_21 : decode c_Mo_markFields 21 = .ok (.iload_n 2, 1) := by decide +kernel
theorem d_Mo_markFields_22 : decode c_Mo_markFields 22 = .ok (.iadd, 1) := by decide +kernel
theorem d_Mo_markFields_23 : decode c_Mo_markFields 23 = .ok (.laload, 1) := by decide +kernel
theorem d_Mo_markFields_24 : decode c_Mo_markFields 24 = .ok (.invokevirtual 58, 3) := by decide +kernel
theorem d_Mo_markFields_27 : decode c_Mo_markFields 27 = .ok (.iinc 2 1, 3) := by decide +kernel
theorem d_Mo_markFields_30 : decode c_Mo_markFields 30 = .ok (.goto (-28), 3) := by decide +kernel
theorem d_Mo_markFields_33 : decode c_Mo_markFields 33 = .ok (.return_, 1) := by decide +kernel
abbrev c_Mo_tellWeak : ByteArray := prog_10_method_14_code
abbrev y_Mo_tellWeak : MethodName := ⟨"TwoGenerationsModel", "tellWeak", "()V"⟩
abbrev h_Mo_tellWeak : Cond := .code y_Mo_tellWeak c_Mo_tellWeak 2 none
theorem d_Mo_tellWeak_0 : decode c_Mo_tellWeak 0 = .ok (.iconst 0, 1) := by decide +kernel
theorem d_Mo_tellWeak_1 : decode c_Mo_tellWeak 1 = .ok (.istore_n 1, 1) := by decide +kernel
theorem d_Mo_tellWeak_2 : decode c_Mo_tellWeak 2 = .ok (.iload_n 1, 1) := by decide +kernel
theorem d_Mo_tellWeak_3 : decode c_Mo_tellWeak 3 = .ok (.sipush 200, 3) := by decide +kernel
theorem d_Mo_tellWeak_6 : decode c_Mo_tellWeak 6 = .ok (.if_icmp .ge 48, 3) := by decide +kernel
theorem d_Mo_tellWeak_9 : decode c_Mo_tellWeak 9 = .ok (.aload_n 0, 1) := by decide +kernel
theorem d_Mo_tellWeak_10 : decode c_Mo_tellWeak 10 = .ok (.getfield 24, 3) := by decide +kernel
theorem d_Mo_tellWeak_13 : decode c_Mo_tellWeak 13 = .ok (.iload_n 1, 1) := by decide +kernel
theorem d_Mo_tellWeak_14 : decode c_Mo_tellWeak 14 = .ok (.aload_n 0, 1) := by decide +kernel
theorem d_Mo_tellWeak_15 : decode c_Mo_tellWeak 15 = .ok (.getfield 24, 3) := by decide +kernel
theorem d_Mo_tellWeak_18 : decode c_Mo_tellWeak 18 = .ok (.iload_n 1, 1) := by decide +kernel
theorem d_Mo_tellWeak_19 : decode c_Mo_tellWeak 19 = .ok (.iaload, 1) := by decide +kernel
theorem d_Mo_tellWeak_20 : decode c_Mo_tellWeak 20 = .ok (.ifCond .lt 21, 3) := by decide +kernel
theorem d_Mo_tellWeak_23 : decode c_Mo_tellWeak 23 = .ok (.aload_n 0, 1) := by decide +kernel
theorem d_Mo_tellWeak_24 : decode c_Mo_tellWeak 24 = .ok (.getfield 13, 3) := by decide +kernel
theorem d_Mo_tellWeak_27 : decode c_Mo_tellWeak 27 = .ok (.aload_n 0, 1) := by decide +kernel
theorem d_Mo_tellWeak_28 : decode c_Mo_tellWeak 28 = .ok (.getfield 24, 3) := by decide +kernel
theorem d_Mo_tellWeak_31 : decode c_Mo_tellWeak 31 = .ok (.iload_n 1, 1) := by decide +kernel
theorem d_Mo_tellWeak_32 : decode c_Mo_tellWeak 32 = .ok (.iaload, 1) := by decide +kernel
theorem d_Mo_tellWeak_33 : decode c_Mo_tellWeak 33 = .ok (.baload, 1) := by decide +kernel
theorem d_Mo_tellWeak_34 : decode c_Mo_tellWeak 34 = .ok (.ifCond .ne 7, 3) := by decide +kernel
theorem d_Mo_tellWeak_37 : decode c_Mo_tellWeak 37 = .ok (.iconst (-1), 1) := by decide +kernel
theorem d_Mo_tellWeak_38 : decode c_Mo_tellWeak 38 = .ok (.goto 9, 3) := by decide +kernel
theorem d_Mo_tellWeak_41 : decode c_Mo_tellWeak 41 = .ok (.aload_n 0, 1) := by decide +kernel
theorem d_Mo_tellWeak_42 : decode c_Mo_tellWeak 42 = .ok (.getfield 24, 3) := by decide +kernel
theorem d_Mo_tellWeak_45 : decode c_Mo_tellWeak 45 = .ok (.iload_n 1, 1) := by decide +kernel
theorem d_Mo_tellWeak_46 : decode c_Mo_tellWeak 46 = .ok (.iaload, 1) := by decide +kernel
theorem d_Mo_tellWeak_47 : decode c_Mo_tellWeak 47 = .ok (.iastore, 1) := by decide +kernel
theorem d_Mo_tellWeak_48 : decode c_Mo_tellWeak 48 = .ok (.iinc 1 1, 3) := by decide +kernel
theorem d_Mo_tellWeak_51 : decode c_Mo_tellWeak 51 = .ok (.goto (-49), 3) := by decide +kernel
theorem d_Mo_tellWeak_54 : decode c_Mo_tellWeak 54 = .ok (.return_, 1) := by decide +kernel
abbrev c_Mo_born : ByteArray := prog_10_method_18_code
abbrev y_Mo_born : MethodName := ⟨"TwoGenerationsModel", "born", "(III)V"⟩
abbrev h_Mo_born : Cond := .code y_Mo_born c_Mo_born 6 none
theorem d_Mo_born_0 : decode c_Mo_born 0 = .ok (.iconst 0, 1) := by decide +kernel
theorem d_Mo_born_1 : decode c_Mo_born 1 = .ok (.istore 4, 2) := by decide +kernel
theorem d_Mo_born_3 : decode c_Mo_born 3 = .ok (.aload_n 0, 1) := by decide +kernel
theorem d_Mo_born_4 : decode c_Mo_born 4 = .ok (.getfield 13, 3) := by decide +kernel
theorem d_Mo_born_7 : decode c_Mo_born 7 = .ok (.iload 4, 2) := by decide +kernel
theorem d_Mo_born_9 : decode c_Mo_born 9 = .ok (.baload, 1) := by decide +kernel
theorem d_Mo_born_10 : decode c_Mo_born 10 = .ok (.ifCond .eq 9, 3) := by decide +kernel
theorem d_Mo_born_13 : decode c_Mo_born 13 = .ok (.iinc 4 1, 3) := by decide +kernel
theorem d_Mo_born_16 : decode c_Mo_born 16 = .ok (.goto (-13), 3) := by decide +kernel
theorem d_Mo_born_19 : decode c_Mo_born 19 = .ok (.aload_n 0, 1) := by decide +kernel
theorem d_Mo_born_20 : decode c_Mo_born 20 = .ok (.getfield 13, 3) := by decide +kernel
theorem d_Mo_born_23 : decode c_Mo_born 23 = .ok (.iload 4, 2) := by decide +kernel
theorem d_Mo_born_25 : decode c_Mo_born 25 = .ok (.iconst 1, 1) := by decide +kernel
theorem d_Mo_born_26 : decode c_Mo_born 26 = .ok (.bastore, 1) := by decide +kernel
theorem d_Mo_born_27 : decode c_Mo_born 27 = .ok (.aload_n 0, 1) := by decide +kernel
theorem d_Mo_born_28 : decode c_Mo_born 28 = .ok (.getfield 17, 3) := by decide +kernel
theorem d_Mo_born_31 : decode c_Mo_born 31 = .ok (.iload 4, 2) := by decide +kernel
theorem d_Mo_born_33 : decode c_Mo_born 33 = .ok (.iconst 0, 1) := by decide +kernel
theorem d_Mo_born_34 : decode c_Mo_born 34 = .ok (.bastore, 1) := by decide +kernel
theorem d_Mo_born_35 : decode c_Mo_born 35 = .ok (.aload_n 0, 1) := by decide +kernel
theorem d_Mo_born_36 : decode c_Mo_born 36 = .ok (.getfield 20, 3) := by decide +kernel
theorem d_Mo_born_39 : decode c_Mo_born 39 = .ok (.iload 4, 2) := by decide +kernel
theorem d_Mo_born_41 : decode c_Mo_born 41 = .ok (.iload_n 2, 1) := by decide +kernel
theorem d_Mo_born_42 : decode c_Mo_born 42 = .ok (.iastore, 1) := by decide +kernel
theorem d_Mo_born_43 : decode c_Mo_born 43 = .ok (.aload_n 0, 1) := by decide +kernel
theorem d_Mo_born_44 : decode c_Mo_born 44 = .ok (.getfield 24, 3) := by decide +kernel
theorem d_Mo_born_47 : decode c_Mo_born 47 = .ok (.iload 4, 2) := by decide +kernel
theorem d_Mo_born_49 : decode c_Mo_born 49 = .ok (.iload_n 3, 1) := by decide +kernel
theorem d_Mo_born_50 : decode c_Mo_born 50 = .ok (.iastore, 1) := by decide +kernel
theorem d_Mo_born_51 : decode c_Mo_born 51 = .ok (.iconst 0, 1) := by decide +kernel
theorem d_Mo_born_52 : decode c_Mo_born 52 = .ok (.istore 5, 2) := by decide +kernel
theorem d_Mo_born_54 : decode c_Mo_born 54 = .ok (.iload 5, 2) := by decide +kernel
theorem d_Mo_born_56 : decode c_Mo_born 56 = .ok (.bipush 11, 2) := by decide +kernel
theorem d_Mo_born_58 : decode c_Mo_born 58 = .ok (.if_icmp .ge 25, 3) := by decide +kernel
theorem d_Mo_born_61 : decode c_Mo_born 61 = .ok (.aload_n 0, 1) := by decide +kernel
theorem d_Mo_born_62 : decode c_Mo_born 62 = .ok (.getfield 27, 3) := by decide +kernel
theorem d_Mo_born_65 : decode c_Mo_born 65 = .ok (.bipush 11, 2) := by decide +kernel
theorem d_Mo_born_67 : decode c_Mo_born 67 = .ok (.iload 4, 2) := by decide +kernel
theorem d_Mo_born_69 : decode c_Mo_born 69 = .ok (.imul, 1) := by decide +kernel
theorem d_Mo_born_70 : decode c_Mo_born 70 = .ok (.iload 5, 2) := by decide +kernel
theorem d_Mo_born_72 : decode c_Mo_born 72 = .ok (.iadd, 1) := by decide +kernel
theorem d_Mo_born_73 : decode c_Mo_born 73 = .ok (.ldc2_w 43, 3) := by decide +kernel
theorem d_Mo_born_76 : decode c_Mo_born 76 = .ok (.lastore, 1) := by decide +kernel
theorem d_Mo_born_77 : decode c_Mo_born 77 = .ok (.iinc 5 1, 3) := by decide +kernel
theorem d_Mo_born_80 : decode c_Mo_born 80 = .ok (.goto (-26), 3) := by decide +kernel
theorem d_Mo_born_83 : decode c_Mo_born 83 = .ok (.aload_n 0, 1) := by decide +kernel
theorem d_Mo_born_84 : decode c_Mo_born 84 = .ok (.getfield 7, 3) := by decide +kernel
theorem d_Mo_born_87 : decode c_Mo_born 87 = .ok (.iload_n 1, 1) := by decide +kernel
theorem d_Mo_born_88 : decode c_Mo_born 88 = .ok (.ldc2_w 52, 3) := by decide +kernel
theorem d_Mo_born_91 : decode c_Mo_born 91 = .ok (.iload 4, 2) := by decide +kernel
theorem d_Mo_born_93 : decode c_Mo_born 93 = .ok (.i2l, 1) := by decide +kernel
theorem d_Mo_born_94 : decode c_Mo_born 94 = .ok (.ladd, 1) := by decide +kernel
theorem d_Mo_born_95 : decode c_Mo_born 95 = .ok (.lastore, 1) := by decide +kernel
theorem d_Mo_born_96 : decode c_Mo_born 96 = .ok (.return_, 1) := by decide +kernel
abbrev c_Mo_weak : ByteArray := prog_10_method_20_code
abbrev y_Mo_weak : MethodName := ⟨"TwoGenerationsModel", "weak", "(II)V"⟩
abbrev h_Mo_weak : Cond := .code y_Mo_weak c_Mo_weak 3 none
theorem d_Mo_weak_0 : decode c_Mo_weak 0 = .ok (.aload_n 0, 1) := by decide +kernel
theorem d_Mo_weak_1 : decode c_Mo_weak 1 = .ok (.aload_n 0, 1) := by decide +kernel
theorem d_Mo_weak_2 : decode c_Mo_weak 2 = .ok (.iload_n 1, 1) := by decide +kernel
theorem d_Mo_weak_3 : decode c_Mo_weak 3 = .ok (.invokevirtual 48, 3) := by decide +kernel
theorem d_Mo_weak_6 : decode c_Mo_weak 6 = .ok (.ifCond .eq 15, 3) := by decide +kernel
theorem d_Mo_weak_9 : decode c_Mo_weak 9 = .ok (.aload_n 0, 1) := by decide +kernel
theorem d_Mo_weak_10 : decode c_Mo_weak 10 = .ok (.iload_n 2, 1) := by decide +kernel
theorem d_Mo_weak_11 : decode c_Mo_weak 11 = .ok (.invokevirtual 109, 3) := by decide +kernel
theorem d_Mo_weak_14 : decode c_Mo_weak 14 = .ok (.ifCond .lt 7, 3) := by decide +kernel
theorem d_Mo_weak_17 : decode c_Mo_weak 17 = .ok (.iconst 1, 1) := by decide +kernel
theorem d_Mo_weak_18 : decode c_Mo_weak 18 = .ok (.goto 4, 3) := by decide +kernel
theorem d_Mo_weak_21 : decode c_Mo_weak 21 = .ok (.iconst 0, 1) := by decide +kernel
theorem d_Mo_weak_22 : decode c_Mo_weak 22 = .ok (.iconst 1, 1) := by decide +kernel
theorem d_Mo_weak_23 : decode c_Mo_weak 23 = .ok (.invokevirtual 98, 3) := by decide +kernel
theorem d_Mo_weak_26 : decode c_Mo_weak 26 = .ok (.ifCond .eq 16, 3) := by decide +kernel
theorem d_Mo_weak_29 : decode c_Mo_weak 29 = .ok (.aload_n 0, 1) := by decide +kernel
theorem d_Mo_weak_30 : decode c_Mo_weak 30 = .ok (.aload_n 0, 1) := by decide +kernel
theorem d_Mo_weak_31 : decode c_Mo_weak 31 = .ok (.iconst 2, 1) := by decide +kernel
theorem d_Mo_weak_32 : decode c_Mo_weak 32 = .ok (.invokevirtual 102, 3) := by decide +kernel
theorem d_Mo_weak_35 : decode c_Mo_weak 35 = .ok (.iconst 2, 1) := by decide +kernel
theorem d_Mo_weak_36 : decode c_Mo_weak 36 = .ok (.invokevirtual 98, 3) := by decide +kernel
theorem d_Mo_weak_39 : decode c_Mo_weak 39 = .ok (.ifCond .ne 4, 3) := by decide +kernel
theorem d_Mo_weak_42 : decode c_Mo_weak 42 = .ok (.return_, 1) := by decide +kernel
theorem d_Mo_weak_43 : decode c_Mo_weak 43 = .ok (.aload_n 0, 1) := by decide +kernel
theorem d_Mo_weak_44 : decode c_Mo_weak 44 = .ok (.iload_n 1, 1) := by decide +kernel
theorem d_Mo_weak_45 : decode c_Mo_weak 45 = .ok (.iconst (-1), 1) := by decide +kernel
theorem d_Mo_weak_46 : decode c_Mo_weak 46 = .ok (.aload_n 0, 1) := by decide +kernel
theorem d_Mo_weak_47 : decode c_Mo_weak 47 = .ok (.iload_n 2, 1) := by decide +kernel
theorem d_Mo_weak_48 : decode c_Mo_weak 48 = .ok (.invokevirtual 109, 3) := by decide +kernel
theorem d_Mo_weak_51 : decode c_Mo_weak 51 = .ok (.invokevirtual 105, 3) := by decide +kernel
theorem d_Mo_weak_54 : decode c_Mo_weak 54 = .ok (.return_, 1) := by decide +kernel
abbrev c_Mo_placeIn : ByteArray := prog_10_method_5_code
abbrev y_Mo_placeIn : MethodName := ⟨"TwoGenerationsModel", "placeIn", "(I)I"⟩
abbrev h_Mo_placeIn : Cond := .code y_Mo_placeIn c_Mo_placeIn 2 (some .int)
theorem d_Mo_placeIn_0 : decode c_Mo_placeIn 0 = .ok (.aload_n 0, 1) := by decide +kernel
theorem d_Mo_placeIn_1 : decode c_Mo_placeIn 1 = .ok (.iload_n 1, 1) := by decide +kernel
theorem d_Mo_placeIn_2 : decode c_Mo_placeIn 2 = .ok (.invokevirtual 48, 3) := by decide +kernel
theorem d_Mo_placeIn_5 : decode c_Mo_placeIn 5 = .ok (.ifCond .eq 30, 3) := by decide +kernel
theorem d_Mo_placeIn_8 : decode c_Mo_placeIn 8 = .ok (.aload_n 0, 1) := by decide +kernel
theorem d_Mo_placeIn_9 : decode c_Mo_placeIn 9 = .ok (.getfield 7, 3) := by decide +kernel
theorem d_Mo_placeIn_12 : decode c_Mo_placeIn 12 = .ok (.iload_n 1, 1) := by decide +kernel
theorem d_Mo_placeIn_13 : decode c_Mo_placeIn 13 = .ok (.laload, 1) := by decide +kernel
theorem d_Mo_placeIn_14 : decode c_Mo_placeIn 14 = .ok (.ldc2_w 52, 3) := by decide +kernel
theorem d_Mo_placeIn_17 : decode c_Mo_placeIn 17 = .ok (.lcmp, 1) := by decide +kernel
theorem d_Mo_placeIn_18 : decode c_Mo_placeIn 18 = .ok (.ifCond .lt 17, 3) := by decide +kernel
theorem d_Mo_placeIn_21 : decode c_Mo_placeIn 21 = .ok (.aload_n 0, 1) := by decide +kernel
theorem d_Mo_placeIn_22 : decode c_Mo_placeIn 22 = .ok (.getfield 7, 3) := by decide +kernel
theorem d_Mo_placeIn_25 : decode c_Mo_placeIn 25 = .ok (.iload_n 1, 1) := by decide +kernel
theorem d_Mo_placeIn_26 : decode c_Mo_placeIn 26 = .ok (.laload, 1) := by decide +kernel
theorem d_Mo_placeIn_27 : decode c_Mo_placeIn 27 = .ok (.ldc2_w 52, 3) := by decide +kernel
theorem d_Mo_placeIn_30 : decode c_Mo_placeIn 30 = .ok (.lsub, 1) := by decide +kernel
theorem d_Mo_placeIn_31 : decode c_Mo_placeIn 31 = .ok (.l2i, 1) := by decide +kernel
theorem d_Mo_placeIn_32 : decode c_Mo_placeIn 32 = .ok (.goto 4, 3) := by decide +kernel
theorem d_Mo_placeIn_35 : decode c_Mo_placeIn 35 = .ok (.iconst (-1), 1) := by decide +kernel
theorem d_Mo_placeIn_36 : decode c_Mo_placeIn 36 = .ok (.ireturn, 1) := by decide +kernel
abbrev c_Mo_small : ByteArray := prog_10_method_21_code
abbrev y_Mo_small : MethodName := ⟨"TwoGenerationsModel", "small", "()I"⟩
abbrev h_Mo_small : Cond := .code y_Mo_small c_Mo_small 2 (some .int)
theorem d_Mo_small_0 : decode c_Mo_small 0 = .ok (.aload_n 0, 1) := by decide +kernel
theorem d_Mo_small_1 : decode c_Mo_small 1 = .ok (.invokevirtual 95, 3) := by decide +kernel
theorem d_Mo_small_4 : decode c_Mo_small 4 = .ok (.istore_n 1, 1) := by decide +kernel
theorem d_Mo_small_5 : decode c_Mo_small 5 = .ok (.aload_n 0, 1) := by decide +kernel
theorem d_Mo_small_6 : decode c_Mo_small 6 = .ok (.iload_n 1, 1) := by decide +kernel
theorem d_Mo_small_7 : decode c_Mo_small 7 = .ok (.ifCond .lt 7, 3) := by decide +kernel
theorem d_Mo_small_10 : decode c_Mo_small 10 = .ok (.iconst 1, 1) := by decide +kernel
theorem d_Mo_small_11 : decode c_Mo_small 11 = .ok (.goto 4, 3) := by decide +kernel
theorem d_Mo_small_14 : decode c_Mo_small 14 = .ok (.iconst 0, 1) := by decide +kernel
theorem d_Mo_small_15 : decode c_Mo_small 15 = .ok (.iconst 1, 1) := by decide +kernel
theorem d_Mo_small_16 : decode c_Mo_small 16 = .ok (.invokevirtual 98, 3) := by decide +kernel
theorem d_Mo_small_19 : decode c_Mo_small 19 = .ok (.ifCond .eq 7, 3) := by decide +kernel
theorem d_Mo_small_22 : decode c_Mo_small 22 = .ok (.iload_n 1, 1) := by decide +kernel
theorem d_Mo_small_23 : decode c_Mo_small 23 = .ok (.goto 4, 3) := by decide +kernel
theorem d_Mo_small_26 : decode c_Mo_small 26 = .ok (.iconst 0, 1) := by decide +kernel
theorem d_Mo_small_27 : decode c_Mo_small 27 = .ok (.ireturn, 1) := by decide +kernel
abbrev c_Mo_great : ByteArray := prog_10_method_22_code
abbrev y_Mo_great : MethodName := ⟨"TwoGenerationsModel", "great", "()I"⟩
abbrev h_Mo_great : Cond := .code y_Mo_great c_Mo_great 1 (some .int)
theorem d_Mo_great_0 : decode c_Mo_great 0 = .ok (.aload_n 0, 1) := by decide +kernel
theorem d_Mo_great_1 : decode c_Mo_great 1 = .ok (.iconst 0, 1) := by decide +kernel
theorem d_Mo_great_2 : decode c_Mo_great 2 = .ok (.putfield 45, 3) := by decide +kernel
theorem d_Mo_great_5 : decode c_Mo_great 5 = .ok (.aload_n 0, 1) := by decide +kernel
theorem d_Mo_great_6 : decode c_Mo_great 6 = .ok (.invokevirtual 86, 3) := by decide +kernel
theorem d_Mo_great_9 : decode c_Mo_great 9 = .ok (.ireturn, 1) := by decide +kernel
abbrev c_Mo_load : ByteArray := prog_10_method_24_code
abbrev y_Mo_load : MethodName := ⟨"TwoGenerationsModel", "load", "(III)V"⟩
abbrev h_Mo_load : Cond := .code y_Mo_load c_Mo_load 4 none
theorem d_Mo_load_0 : decode c_Mo_load 0 = .ok (.aload_n 0, 1) := by decide +kernel
theorem d_Mo_load_1 : decode c_Mo_load 1 = .ok (.aload_n 0, 1) := by decide +kernel
theorem d_Mo_load_2 : decode c_Mo_load 2 = .ok (.iload_n 1, 1) := by decide +kernel
theorem d_Mo_load_3 : decode c_Mo_load 3 = .ok (.invokevirtual 48, 3) := by decide +kernel
theorem d_Mo_load_6 : decode c_Mo_load 6 = .ok (.ifCond .eq 16, 3) := by decide +kernel
theorem d_Mo_load_9 : decode c_Mo_load 9 = .ok (.aload_n 0, 1) := by decide +kernel
theorem d_Mo_load_10 : decode c_Mo_load 10 = .ok (.iload_n 2, 1) := by decide +kernel
theorem d_Mo_load_11 : decode c_Mo_load 11 = .ok (.iload_n 3, 1) := by decide +kernel
theorem d_Mo_load_12 : decode c_Mo_load 12 = .ok (.invokevirtual 112, 3) := by decide +kernel
theorem d_Mo_load_15 : decode c_Mo_load 15 = .ok (.ifCond .eq 7, 3) := by decide +kernel
theorem d_Mo_load_18 : decode c_Mo_load 18 = .ok (.iconst 1, 1) := by decide +kernel
theorem d_Mo_load_19 : decode c_Mo_load 19 = .ok (.goto 4, 3) := by decide +kernel
theorem d_Mo_load_22 : decode c_Mo_load 22 = .ok (.iconst 0, 1) := by decide +kernel
theorem d_Mo_load_23 : decode c_Mo_load 23 = .ok (.iconst 1, 1) := by decide +kernel
theorem d_Mo_load_24 : decode c_Mo_load 24 = .ok (.invokevirtual 98, 3) := by decide +kernel
theorem d_Mo_load_27 : decode c_Mo_load 27 = .ok (.ifCond .eq 24, 3) := by decide +kernel
theorem d_Mo_load_30 : decode c_Mo_load 30 = .ok (.aload_n 0, 1) := by decide +kernel
theorem d_Mo_load_31 : decode c_Mo_load 31 = .ok (.getfield 7, 3) := by decide +kernel
theorem d_Mo_load_34 : decode c_Mo_load 34 = .ok (.iload_n 1, 1) := by decide +kernel
theorem d_Mo_load_35 : decode c_Mo_load 35 = .ok (.aload_n 0, 1) := by decide +kernel
theorem d_Mo_load_36 : decode c_Mo_load 36 = .ok (.getfield 27, 3) := by decide +kernel
theorem d_Mo_load_39 : decode c_Mo_load 39 = .ok (.bipush 11, 2) := by decide +kernel
theorem d_Mo_load_41 : decode c_Mo_load 41 = .ok (.aload_n 0, 1) := by decide +kernel
theorem d_Mo_load_42 : decode c_Mo_load 42 = .ok (.iload_n 2, 1) := by decide +kernel
theorem d_Mo_load_43 : decode c_Mo_load 43 = .ok (.invokevirtual 109, 3) := by decide +kernel
theorem d_Mo_load_46 : decode c_Mo_load 46 = .ok (.imul, 1) := by decide +kernel
theorem d_Mo_load_47 : decode c_Mo_load 47 = .ok (.iload_n 3, 1) := by decide +kernel
theorem d_Mo_load_48 : decode c_Mo_load 48 = .ok (.iadd, 1) := by decide +kernel
theorem d_Mo_load_49 : decode c_Mo_load 49 = .ok (.laload, 1) := by decide +kernel
theorem d_Mo_load_50 : decode c_Mo_load 50 = .ok (.lastore, 1) := by decide +kernel
theorem d_Mo_load_51 : decode c_Mo_load 51 = .ok (.return_, 1) := by decide +kernel
abbrev c_Mo_hasField : ByteArray := prog_10_method_23_code
abbrev y_Mo_hasField : MethodName := ⟨"TwoGenerationsModel", "hasField", "(II)Z"⟩
abbrev h_Mo_hasField : Cond := .code y_Mo_hasField c_Mo_hasField 4 (some .boolean)
theorem d_Mo_hasField_0 : decode c_Mo_hasField 0 = .ok (.aload_n 0, 1) := by decide +kernel
theorem d_Mo_hasField_1 : decode c_Mo_hasField 1 = .ok (.iload_n 1, 1) := by decide +kernel
theorem d_Mo_hasField_2 : decode c_Mo_hasField 2 = .ok (.invokevirtual 109, 3) := by decide +kernel
theorem d_Mo_hasField_5 : decode c_Mo_hasField 5 = .ok (.istore_n 3, 1) := by decide +kernel
theorem d_Mo_hasField_6 : decode c_Mo_hasField 6 = .ok (.iload_n 3, 1) := by decide +kernel
theorem d_Mo_hasField_7 : decode c_Mo_hasField 7 = .ok (.ifCond .lt 21, 3) := by decide +kernel
theorem d_Mo_hasField_10 : decode c_Mo_hasField 10 = .ok (.iload_n 2, 1) := by decide +kernel
theorem d_Mo_hasField_11 : decode c_Mo_hasField 11 = .ok (.ifCond .lt 17, 3) := by decide +kernel
theorem d_Mo_hasField_14 : decode c_Mo_hasField 14 = .ok (.iload_n 2, 1) := by decide +kernel
theorem d_Mo_hasField_15 : decode c_Mo_hasField 15 = .ok (.aload_n 0, 1) := by decide +kernel
theorem d_Mo_hasField_16 : decode c_Mo_hasField 16 = .ok (.getfield 20, 3) := by decide +kernel
theorem d_Mo_hasField_19 : decode c_Mo_hasField 19 = .ok (.iload_n 3, 1) := by decide +kernel
theorem d_Mo_hasField_20 : decode c_Mo_hasField 20 = .ok (.iaload, 1) := by decide +kernel
theorem d_Mo_hasField_21 : decode c_Mo_hasField 21 = .ok (.if_icmp .ge 7, 3) := by decide +kernel
theorem d_Mo_hasField_24 : decode c_Mo_hasField 24 = .ok (.iconst 1, 1) := by decide +kernel
theorem d_Mo_hasField_25 : decode c_Mo_hasField 25 = .ok (.goto 4, 3) := by decide +kernel
theorem d_Mo_hasField_28 : decode c_Mo_hasField 28 = .ok (.iconst 0, 1) := by decide +kernel
theorem d_Mo_hasField_29 : decode c_Mo_hasField 29 = .ok (.ireturn, 1) := by decide +kernel
abbrev c_Mo_store : ByteArray := prog_10_method_25_code
abbrev y_Mo_store : MethodName := ⟨"TwoGenerationsModel", "store", "(III)V"⟩
abbrev h_Mo_store : Cond := .code y_Mo_store c_Mo_store 4 none
theorem d_Mo_store_0 : decode c_Mo_store 0 = .ok (.aload_n 0, 1) := by decide +kernel
theorem d_Mo_store_1 : decode c_Mo_store 1 = .ok (.aload_n 0, 1) := by decide +kernel
theorem d_Mo_store_2 : decode c_Mo_store 2 = .ok (.iload_n 1, 1) := by decide +kernel
theorem d_Mo_store_3 : decode c_Mo_store 3 = .ok (.iload_n 2, 1) := by decide +kernel
theorem d_Mo_store_4 : decode c_Mo_store 4 = .ok (.invokevirtual 112, 3) := by decide +kernel
theorem d_Mo_store_7 : decode c_Mo_store 7 = .ok (.ifCond .eq 15, 3) := by decide +kernel
theorem d_Mo_store_10 : decode c_Mo_store 10 = .ok (.aload_n 0, 1) := by decide +kernel
theorem d_Mo_store_11 : decode c_Mo_store 11 = .ok (.iload_n 3, 1) := by decide +kernel
theorem d_Mo_store_12 : decode c_Mo_store 12 = .ok (.invokevirtual 48, 3) := by decide +kernel
theorem d_Mo_store_15 : decode c_Mo_store 15 = .ok (.ifCond .eq 7, 3) := by decide +kernel
theorem d_Mo_store_18 : decode c_Mo_store 18 = .ok (.iconst 1, 1) := by decide +kernel
theorem d_Mo_store_19 : decode c_Mo_store 19 = .ok (.goto 4, 3) := by decide +kernel
theorem d_Mo_store_22 : decode c_Mo_store 22 = .ok (.iconst 0, 1) := by decide +kernel
theorem d_Mo_store_23 : decode c_Mo_store 23 = .ok (.iconst 1, 1) := by decide +kernel
theorem d_Mo_store_24 : decode c_Mo_store 24 = .ok (.invokevirtual 98, 3) := by decide +kernel
theorem d_Mo_store_27 : decode c_Mo_store 27 = .ok (.ifCond .eq 24, 3) := by decide +kernel
theorem d_Mo_store_30 : decode c_Mo_store 30 = .ok (.aload_n 0, 1) := by decide +kernel
theorem d_Mo_store_31 : decode c_Mo_store 31 = .ok (.getfield 27, 3) := by decide +kernel
theorem d_Mo_store_34 : decode c_Mo_store 34 = .ok (.bipush 11, 2) := by decide +kernel
theorem d_Mo_store_36 : decode c_Mo_store 36 = .ok (.aload_n 0, 1) := by decide +kernel
theorem d_Mo_store_37 : decode c_Mo_store 37 = .ok (.iload_n 1, 1) := by decide +kernel
theorem d_Mo_store_38 : decode c_Mo_store 38 = .ok (.invokevirtual 109, 3) := by decide +kernel
theorem d_Mo_store_41 : decode c_Mo_store 41 = .ok (.imul, 1) := by decide +kernel
theorem d_Mo_store_42 : decode c_Mo_store 42 = .ok (.iload_n 2, 1) := by decide +kernel
theorem d_Mo_store_43 : decode c_Mo_store 43 = .ok (.iadd, 1) := by decide +kernel
theorem d_Mo_store_44 : decode c_Mo_store 44 = .ok (.aload_n 0, 1) := by decide +kernel
theorem d_Mo_store_45 : decode c_Mo_store 45 = .ok (.getfield 7, 3) := by decide +kernel
theorem d_Mo_store_48 : decode c_Mo_store 48 = .ok (.iload_n 3, 1) := by decide +kernel
theorem d_Mo_store_49 : decode c_Mo_store 49 = .ok (.laload, 1) := by decide +kernel
theorem d_Mo_store_50 : decode c_Mo_store 50 = .ok (.lastore, 1) := by decide +kernel
theorem d_Mo_store_51 : decode c_Mo_store 51 = .ok (.return_, 1) := by decide +kernel
abbrev c_Mo_target : ByteArray := prog_10_method_26_code
abbrev y_Mo_target : MethodName := ⟨"TwoGenerationsModel", "target", "(II)V"⟩
abbrev h_Mo_target : Cond := .code y_Mo_target c_Mo_target 4 none
theorem d_Mo_target_0 : decode c_Mo_target 0 = .ok (.aload_n 0, 1) := by decide +kernel
theorem d_Mo_target_1 : decode c_Mo_target 1 = .ok (.iload_n 2, 1) := by decide +kernel
theorem d_Mo_target_2 : decode c_Mo_target 2 = .ok (.invokevirtual 109, 3) := by decide +kernel
theorem d_Mo_target_5 : decode c_Mo_target 5 = .ok (.istore_n 3, 1) := by decide +kernel
theorem d_Mo_target_6 : decode c_Mo_target 6 = .ok (.aload_n 0, 1) := by decide +kernel
theorem d_Mo_target_7 : decode c_Mo_target 7 = .ok (.aload_n 0, 1) := by decide +kernel
theorem d_Mo_target_8 : decode c_Mo_target 8 = .ok (.iload_n 1, 1) := by decide +kernel
theorem d_Mo_target_9 : decode c_Mo_target 9 = .ok (.invokevirtual 48, 3) := by decide +kernel
theorem d_Mo_target_12 : decode c_Mo_target 12 = .ok (.ifCond .eq 20, 3) := by decide +kernel
theorem d_Mo_target_15 : decode c_Mo_target 15 = .ok (.iload_n 3, 1) := by decide +kernel
theorem d_Mo_target_16 : decode c_Mo_target 16 = .ok (.ifCond .lt 16, 3) := by decide +kernel
theorem d_Mo_target_19 : decode c_Mo_target 19 = .ok (.aload_n 0, 1) := by decide +kernel
theorem d_Mo_target_20 : decode c_Mo_target 20 = .ok (.getfield 20, 3) := by decide +kernel
theorem d_Mo_target_23 : decode c_Mo_target 23 = .ok (.iload_n 3, 1) := by decide +kernel
theorem d_Mo_target_24 : decode c_Mo_target 24 = .ok (.iaload, 1) := by decide +kernel
theorem d_Mo_target_25 : decode c_Mo_target 25 = .ok (.ifCond .ge 7, 3) := by decide +kernel
theorem d_Mo_target_28 : decode c_Mo_target 28 = .ok (.iconst 1, 1) := by decide +kernel
theorem d_Mo_target_29 : decode c_Mo_target 29 = .ok (.goto 4, 3) := by decide +kernel
theorem d_Mo_target_32 : decode c_Mo_target 32 = .ok (.iconst 0, 1) := by decide +kernel
theorem d_Mo_target_33 : decode c_Mo_target 33 = .ok (.iconst 1, 1) := by decide +kernel
theorem d_Mo_target_34 : decode c_Mo_target 34 = .ok (.invokevirtual 98, 3) := by decide +kernel
theorem d_Mo_target_37 : decode c_Mo_target 37 = .ok (.ifCond .ne 4, 3) := by decide +kernel
theorem d_Mo_target_40 : decode c_Mo_target 40 = .ok (.return_, 1) := by decide +kernel
theorem d_Mo_target_41 : decode c_Mo_target 41 = .ok (.aload_n 0, 1) := by decide +kernel
theorem d_Mo_target_42 : decode c_Mo_target 42 = .ok (.getfield 7, 3) := by decide +kernel
theorem d_Mo_target_45 : decode c_Mo_target 45 = .ok (.iload_n 1, 1) := by decide +kernel
theorem d_Mo_target_46 : decode c_Mo_target 46 = .ok (.aload_n 0, 1) := by decide +kernel
theorem d_Mo_target_47 : decode c_Mo_target 47 = .ok (.getfield 24, 3) := by decide +kernel
theorem d_Mo_target_50 : decode c_Mo_target 50 = .ok (.iload_n 3, 1) := by decide +kernel
theorem d_Mo_target_51 : decode c_Mo_target 51 = .ok (.iaload, 1) := by decide +kernel
theorem d_Mo_target_52 : decode c_Mo_target 52 = .ok (.ifCond .ge 9, 3) := by decide +kernel
theorem d_Mo_target_55 : decode c_Mo_target 55 = .ok (.ldc2_w 43, 3) := by decide +kernel
theorem d_Mo_target_58 : decode c_Mo_target 58 = .ok (.goto 14, 3) := by decide +kernel
theorem d_Mo_target_61 : decode c_Mo_target 61 = .ok (.ldc2_w 52, 3) := by decide +kernel
theorem d_Mo_target_64 : decode c_Mo_target 64 = .ok (.aload_n 0, 1) := by decide +kernel
theorem d_Mo_target_65 : decode c_Mo_target 65 = .ok (.getfield 24, 3) := by decide +kernel
theorem d_Mo_target_68 : decode c_Mo_target 68 = .ok (.iload_n 3, 1) := by decide +kernel
theorem d_Mo_target_69 : decode c_Mo_target 69 = .ok (.iaload, 1) := by decide +kernel
theorem d_Mo_target_70 : decode c_Mo_target 70 = .ok (.i2l, 1) := by decide +kernel
theorem d_Mo_target_71 : decode c_Mo_target 71 = .ok (.ladd, 1) := by decide +kernel
theorem d_Mo_target_72 : decode c_Mo_target 72 = .ok (.lastore, 1) := by decide +kernel
theorem d_Mo_target_73 : decode c_Mo_target 73 = .ok (.return_, 1) := by decide +kernel
abbrev c_Mo_number : ByteArray := prog_10_method_27_code
abbrev y_Mo_number : MethodName := ⟨"TwoGenerationsModel", "number", "(II)V"⟩
abbrev h_Mo_number : Cond := .code y_Mo_number c_Mo_number 3 none
theorem d_Mo_number_0 : decode c_Mo_number 0 = .ok (.aload_n 0, 1) := by decide +kernel
theorem d_Mo_number_1 : decode c_Mo_number 1 = .ok (.aload_n 0, 1) := by decide +kernel
theorem d_Mo_number_2 : decode c_Mo_number 2 = .ok (.iload_n 1, 1) := by decide +kernel
theorem d_Mo_number_3 : decode c_Mo_number 3 = .ok (.invokevirtual 48, 3) := by decide +kernel
theorem d_Mo_number_6 : decode c_Mo_number 6 = .ok (.ifCond .eq 19, 3) := by decide +kernel
theorem d_Mo_number_9 : decode c_Mo_number 9 = .ok (.iload_n 2, 1) := by decide +kernel
theorem d_Mo_number_10 : decode c_Mo_number 10 = .ok (.ldc 116, 2) := by decide +kernel
theorem d_Mo_number_12 : decode c_Mo_number 12 = .ok (.if_icmp .lt 13, 3) := by decide +kernel
theorem d_Mo_number_15 : decode c_Mo_number 15 = .ok (.iload_n 2, 1) := by decide +kernel
theorem d_Mo_number_16 : decode c_Mo_number 16 = .ok (.ldc 117, 2) := by decide +kernel
theorem d_Mo_number_18 : decode c_Mo_number 18 = .ok (.if_icmp .ge 7, 3) := by decide +kernel
theorem d_Mo_number_21 : decode c_Mo_number 21 = .ok (.iconst 1, 1) := by decide +kernel
theorem d_Mo_number_22 : decode c_Mo_number 22 = .ok (.goto 4, 3) := by decide +kernel
theorem d_Mo_number_25 : decode c_Mo_number 25 = .ok (.iconst 0, 1) := by decide +kernel
theorem d_Mo_number_26 : decode c_Mo_number 26 = .ok (.iconst 1, 1) := by decide +kernel
theorem d_Mo_number_27 : decode c_Mo_number 27 = .ok (.invokevirtual 98, 3) := by decide +kernel
theorem d_Mo_number_30 : decode c_Mo_number 30 = .ok (.ifCond .eq 11, 3) := by decide +kernel
theorem d_Mo_number_33 : decode c_Mo_number 33 = .ok (.aload_n 0, 1) := by decide +kernel
theorem d_Mo_number_34 : decode c_Mo_number 34 = .ok (.getfield 7, 3) := by decide +kernel
theorem d_Mo_number_37 : decode c_Mo_number 37 = .ok (.iload_n 1, 1) := by decide +kernel
theorem d_Mo_number_38 : decode c_Mo_number 38 = .ok (.iload_n 2, 1) := by decide +kernel
theorem d_Mo_number_39 : decode c_Mo_number 39 = .ok (.i2l, 1) := by decide +kernel
theorem d_Mo_number_40 : decode c_Mo_number 40 = .ok (.lastore, 1) := by decide +kernel
theorem d_Mo_number_41 : decode c_Mo_number 41 = .ok (.return_, 1) := by decide +kernel
abbrev c_Mo_clear : ByteArray := prog_10_method_28_code
abbrev y_Mo_clear : MethodName := ⟨"TwoGenerationsModel", "clear", "(I)V"⟩
abbrev h_Mo_clear : Cond := .code y_Mo_clear c_Mo_clear 2 none
theorem d_Mo_clear_0 : decode c_Mo_clear 0 = .ok (.aload_n 0, 1) := by decide +kernel
theorem d_Mo_clear_1 : decode c_Mo_clear 1 = .ok (.aload_n 0, 1) := by decide +kernel
theorem d_Mo_clear_2 : decode c_Mo_clear 2 = .ok (.iload_n 1, 1) := by decide +kernel
theorem d_Mo_clear_3 : decode c_Mo_clear 3 = .ok (.invokevirtual 48, 3) := by decide +kernel
theorem d_Mo_clear_6 : decode c_Mo_clear 6 = .ok (.iconst 1, 1) := by decide +kernel
theorem d_Mo_clear_7 : decode c_Mo_clear 7 = .ok (.invokevirtual 98, 3) := by decide +kernel
theorem d_Mo_clear_10 : decode c_Mo_clear 10 = .ok (.ifCond .eq 12, 3) := by decide +kernel
theorem d_Mo_clear_13 : decode c_Mo_clear 13 = .ok (.aload_n 0, 1) := by decide +kernel
theorem d_Mo_clear_14 : decode c_Mo_clear 14 = .ok (.getfield 7, 3) := by decide +kernel
theorem d_Mo_clear_17 : decode c_Mo_clear 17 = .ok (.iload_n 1, 1) := by decide +kernel
theorem d_Mo_clear_18 : decode c_Mo_clear 18 = .ok (.ldc2_w 43, 3) := by decide +kernel
theorem d_Mo_clear_21 : decode c_Mo_clear 21 = .ok (.lastore, 1) := by decide +kernel
theorem d_Mo_clear_22 : decode c_Mo_clear 22 = .ok (.return_, 1) := by decide +kernel
abbrev c_Mo_move : ByteArray := prog_10_method_29_code
abbrev y_Mo_move : MethodName := ⟨"TwoGenerationsModel", "move", "(II)V"⟩
abbrev h_Mo_move : Cond := .code y_Mo_move c_Mo_move 3 none
theorem d_Mo_move_0 : decode c_Mo_move 0 = .ok (.aload_n 0, 1) := by decide +kernel
theorem d_Mo_move_1 : decode c_Mo_move 1 = .ok (.aload_n 0, 1) := by decide +kernel
theorem d_Mo_move_2 : decode c_Mo_move 2 = .ok (.iload_n 1, 1) := by decide +kernel
theorem d_Mo_move_3 : decode c_Mo_move 3 = .ok (.invokevirtual 48, 3) := by decide +kernel
theorem d_Mo_move_6 : decode c_Mo_move 6 = .ok (.ifCond .eq 15, 3) := by decide +kernel
theorem d_Mo_move_9 : decode c_Mo_move 9 = .ok (.aload_n 0, 1) := by decide +kernel
theorem d_Mo_move_10 : decode c_Mo_move 10 = .ok (.iload_n 2, 1) := by decide +kernel
theorem d_Mo_move_11 : decode c_Mo_move 11 = .ok (.invokevirtual 48, 3) := by decide +kernel
theorem d_Mo_move_14 : decode c_Mo_move 14 = .ok (.ifCond .eq 7, 3) := by decide +kernel
theorem d_Mo_move_17 : decode c_Mo_move 17 = .ok (.iconst 1, 1) := by decide +kernel
theorem d_Mo_move_18 : decode c_Mo_move 18 = .ok (.goto 4, 3) := by decide +kernel
theorem d_Mo_move_21 : decode c_Mo_move 21 = .ok (.iconst 0, 1) := by decide +kernel
theorem d_Mo_move_22 : decode c_Mo_move 22 = .ok (.iconst 1, 1) := by decide +kernel
theorem d_Mo_move_23 : decode c_Mo_move 23 = .ok (.invokevirtual 98, 3) := by decide +kernel
theorem d_Mo_move_26 : decode c_Mo_move 26 = .ok (.ifCond .eq 15, 3) := by decide +kernel
theorem d_Mo_move_29 : decode c_Mo_move 29 = .ok (.aload_n 0, 1) := by decide +kernel
theorem d_Mo_move_30 : decode c_Mo_move 30 = .ok (.getfield 7, 3) := by decide +kernel
theorem d_Mo_move_33 : decode c_Mo_move 33 = .ok (.iload_n 1, 1) := by decide +kernel
theorem d_Mo_move_34 : decode c_Mo_move 34 = .ok (.aload_n 0, 1) := by decide +kernel
theorem d_Mo_move_35 : decode c_Mo_move 35 = .ok (.getfield 7, 3) := by decide +kernel
theorem d_Mo_move_38 : decode c_Mo_move 38 = .ok (.iload_n 2, 1) := by decide +kernel
theorem d_Mo_move_39 : decode c_Mo_move 39 = .ok (.laload, 1) := by decide +kernel
theorem d_Mo_move_40 : decode c_Mo_move 40 = .ok (.lastore, 1) := by decide +kernel
theorem d_Mo_move_41 : decode c_Mo_move 41 = .ok (.return_, 1) := by decide +kernel
abbrev c_Mo_kind : ByteArray := prog_10_method_30_code
abbrev y_Mo_kind : MethodName := ⟨"TwoGenerationsModel", "kind", "(I)I"⟩
abbrev h_Mo_kind : Cond := .code y_Mo_kind c_Mo_kind 3 (some .int)
theorem d_Mo_kind_0 : decode c_Mo_kind 0 = .ok (.aload_n 0, 1) := by decide +kernel
theorem d_Mo_kind_1 : decode c_Mo_kind 1 = .ok (.iconst 0, 1) := by decide +kernel
theorem d_Mo_kind_2 : decode c_Mo_kind 2 = .ok (.putfield 45, 3) := by decide +kernel
theorem d_Mo_kind_5 : decode c_Mo_kind 5 = .ok (.aload_n 0, 1) := by decide +kernel
theorem d_Mo_kind_6 : decode c_Mo_kind 6 = .ok (.iload_n 1, 1) := by decide +kernel
theorem d_Mo_kind_7 : decode c_Mo_kind 7 = .ok (.invokevirtual 48, 3) := by decide +kernel
theorem d_Mo_kind_10 : decode c_Mo_kind 10 = .ok (.ifCond .ne 5, 3) := by decide +kernel
theorem d_Mo_kind_13 : decode c_Mo_kind 13 = .ok (.iconst (-1), 1) := by decide +kernel
theorem d_Mo_kind_14 : decode c_Mo_kind 14 = .ok (.ireturn, 1) := by decide +kernel
theorem d_Mo_kind_15 : decode c_Mo_kind 15 = .ok (.aload_n 0, 1) := by decide +kernel
theorem d_Mo_kind_16 : decode c_Mo_kind 16 = .ok (.iload_n 1, 1) := by decide +kernel
theorem d_Mo_kind_17 : decode c_Mo_kind 17 = .ok (.invokevirtual 109, 3) := by decide +kernel
theorem d_Mo_kind_20 : decode c_Mo_kind 20 = .ok (.istore_n 2, 1) := by decide +kernel
theorem d_Mo_kind_21 : decode c_Mo_kind 21 = .ok (.iload_n 2, 1) := by decide +kernel
theorem d_Mo_kind_22 : decode c_Mo_kind 22 = .ok (.ifCond .lt 20, 3) := by decide +kernel
theorem d_Mo_kind_25 : decode c_Mo_kind 25 = .ok (.aload_n 0, 1) := by decide +kernel
theorem d_Mo_kind_26 : decode c_Mo_kind 26 = .ok (.getfield 20, 3) := by decide +kernel
theorem d_Mo_kind_29 : decode c_Mo_kind 29 = .ok (.iload_n 2, 1) := by decide +kernel
theorem d_Mo_kind_30 : decode c_Mo_kind 30 = .ok (.iaload, 1) := by decide +kernel
theorem d_Mo_kind_31 : decode c_Mo_kind 31 = .ok (.ifCond .ge 7, 3) := by decide +kernel
theorem d_Mo_kind_34 : decode c_Mo_kind 34 = .ok (.iconst 3, 1) := by decide +kernel
theorem d_Mo_kind_35 : decode c_Mo_kind 35 = .ok (.goto 25, 3) := by decide +kernel
theorem d_Mo_kind_38 : decode c_Mo_kind 38 = .ok (.iconst 2, 1) := by decide +kernel
theorem d_Mo_kind_39 : decode c_Mo_kind 39 = .ok (.goto 21, 3) := by decide +kernel
theorem d_Mo_kind_42 : decode c_Mo_kind 42 = .ok (.aload_n 0, 1) := by decide +kernel
theorem d_Mo_kind_43 : decode c_Mo_kind 43 = .ok (.getfield 7, 3) := by decide +kernel
theorem d_Mo_kind_46 : decode c_Mo_kind 46 = .ok (.iload_n 1, 1) := by decide +kernel
theorem d_Mo_kind_47 : decode c_Mo_kind 47 = .ok (.laload, 1) := by decide +kernel
theorem d_Mo_kind_48 : decode c_Mo_kind 48 = .ok (.ldc2_w 43, 3) := by decide +kernel
theorem d_Mo_kind_51 : decode c_Mo_kind 51 = .ok (.lcmp, 1) := by decide +kernel
theorem d_Mo_kind_52 : decode c_Mo_kind 52 = .ok (.ifCond .ne 7, 3) := by decide +kernel
theorem d_Mo_kind_55 : decode c_Mo_kind 55 = .ok (.iconst 0, 1) := by decide +kernel
theorem d_Mo_kind_56 : decode c_Mo_kind 56 = .ok (.goto 4, 3) := by decide +kernel
theorem d_Mo_kind_59 : decode c_Mo_kind 59 = .ok (.iconst 1, 1) := by decide +kernel
theorem d_Mo_kind_60 : decode c_Mo_kind 60 = .ok (.ireturn, 1) := by decide +kernel
abbrev c_Mo_value : ByteArray := prog_10_method_31_code
abbrev y_Mo_value : MethodName := ⟨"TwoGenerationsModel", "value", "(I)I"⟩
abbrev h_Mo_value : Cond := .code y_Mo_value c_Mo_value 2 (some .int)
theorem d_Mo_value_0 : decode c_Mo_value 0 = .ok (.aload_n 0, 1) := by decide +kernel
theorem d_Mo_value_1 : decode c_Mo_value 1 = .ok (.iconst 0, 1) := by decide +kernel
theorem d_Mo_value_2 : decode c_Mo_value 2 = .ok (.putfield 45, 3) := by decide +kernel
theorem d_Mo_value_5 : decode c_Mo_value 5 = .ok (.aload_n 0, 1) := by decide +kernel
theorem d_Mo_value_6 : decode c_Mo_value 6 = .ok (.iload_n 1, 1) := by decide +kernel
theorem d_Mo_value_7 : decode c_Mo_value 7 = .ok (.invokevirtual 48, 3) := by decide +kernel
theorem d_Mo_value_10 : decode c_Mo_value 10 = .ok (.ifCond .eq 26, 3) := by decide +kernel
theorem d_Mo_value_13 : decode c_Mo_value 13 = .ok (.aload_n 0, 1) := by decide +kernel
theorem d_Mo_value_14 : decode c_Mo_value 14 = .ok (.getfield 7, 3) := by decide +kernel
theorem d_Mo_value_17 : decode c_Mo_value 17 = .ok (.iload_n 1, 1) := by decide +kernel
theorem d_Mo_value_18 : decode c_Mo_value 18 = .ok (.laload, 1) := by decide +kernel
theorem d_Mo_value_19 : decode c_Mo_value 19 = .ok (.ldc2_w 43, 3) := by decide +kernel
theorem d_Mo_value_22 : decode c_Mo_value 22 = .ok (.lcmp, 1) := by decide +kernel
theorem d_Mo_value_23 : decode c_Mo_value 23 = .ok (.ifCond .ge 13, 3) := by decide +kernel
theorem d_Mo_value_26 : decode c_Mo_value 26 = .ok (.aload_n 0, 1) := by decide +kernel
theorem d_Mo_value_27 : decode c_Mo_value 27 = .ok (.getfield 7, 3) := by decide +kernel
theorem d_Mo_value_30 : decode c_Mo_value 30 = .ok (.iload_n 1, 1) := by decide +kernel
theorem d_Mo_value_31 : decode c_Mo_value 31 = .ok (.laload, 1) := by decide +kernel
theorem d_Mo_value_32 : decode c_Mo_value 32 = .ok (.l2i, 1) := by decide +kernel
theorem d_Mo_value_33 : decode c_Mo_value 33 = .ok (.goto 4, 3) := by decide +kernel
theorem d_Mo_value_36 : decode c_Mo_value 36 = .ok (.iconst 0, 1) := by decide +kernel
theorem d_Mo_value_37 : decode c_Mo_value 37 = .ok (.ireturn, 1) := by decide +kernel
abbrev c_Mo_fields : ByteArray := prog_10_method_32_code
abbrev y_Mo_fields : MethodName := ⟨"TwoGenerationsModel", "fields", "(I)I"⟩
abbrev h_Mo_fields : Cond := .code y_Mo_fields c_Mo_fields 3 (some .int)
theorem d_Mo_fields_0 : decode c_Mo_fields 0 = .ok (.aload_n 0, 1) := by decide +kernel
theorem d_Mo_fields_1 : decode c_Mo_fields 1 = .ok (.iconst 0, 1) := by decide +kernel
theorem d_Mo_fields_2 : decode c_Mo_fields 2 = .ok (.putfield 45, 3) := by decide +kernel
theorem d_Mo_fields_5 : decode c_Mo_fields 5 = .ok (.aload_n 0, 1) := by decide +kernel
theorem d_Mo_fields_6 : decode c_Mo_fields 6 = .ok (.iload_n 1, 1) := by decide +kernel
theorem d_Mo_fields_7 : decode c_Mo_fields 7 = .ok (.invokevirtual 109, 3) := by decide +kernel
theorem d_Mo_fields_10 : decode c_Mo_fields 10 = .ok (.istore_n 2, 1) := by decide +kernel
theorem d_Mo_fields_11 : decode c_Mo_fields 11 = .ok (.iload_n 2, 1) := by decide +kernel
theorem d_Mo_fields_12 : decode c_Mo_fields 12 = .ok (.ifCond .lt 12, 3) := by decide +kernel
theorem d_Mo_fields_15 : decode c_Mo_fields 15 = .ok (.aload_n 0, 1) := by decide +kernel
theorem d_Mo_fields_16 : decode c_Mo_fields 16 = .ok (.getfield 20, 3) := by decide +kernel
theorem d_Mo_fields_19 : decode c_Mo_fields 19 = .ok (.iload_n 2, 1) := by decide +kernel
theorem d_Mo_fields_20 : decode c_Mo_fields 20 = .ok (.iaload, 1) := by decide +kernel
theorem d_Mo_fields_21 : decode c_Mo_fields 21 = .ok (.ifCond .ge 7, 3) := by decide +kernel
theorem d_Mo_fields_24 : decode c_Mo_fields 24 = .ok (.iconst (-1), 1) := by decide +kernel
theorem d_Mo_fields_25 : decode c_Mo_fields 25 = .ok (.goto 9, 3) := by decide +kernel
theorem d_Mo_fields_28 : decode c_Mo_fields 28 = .ok (.aload_n 0, 1) := by decide +kernel
theorem d_Mo_fields_29 : decode c_Mo_fields 29 = .ok (.getfield 20, 3) := by decide +kernel
theorem d_Mo_fields_32 : decode c_Mo_fields 32 = .ok (.iload_n 2, 1) := by decide +kernel
theorem d_Mo_fields_33 : decode c_Mo_fields 33 = .ok (.iaload, 1) := by decide +kernel
theorem d_Mo_fields_34 : decode c_Mo_fields 34 = .ok (.ireturn, 1) := by decide +kernel
abbrev c_Mo_same : ByteArray := prog_10_method_33_code
abbrev y_Mo_same : MethodName := ⟨"TwoGenerationsModel", "same", "(II)Z"⟩
abbrev h_Mo_same : Cond := .code y_Mo_same c_Mo_same 3 (some .boolean)
theorem d_Mo_same_0 : decode c_Mo_same 0 = .ok (.aload_n 0, 1) := by decide +kernel
theorem d_Mo_same_1 : decode c_Mo_same 1 = .ok (.iconst 0, 1) := by decide +kernel
theorem d_Mo_same_2 : decode c_Mo_same 2 = .ok (.putfield 45, 3) := by decide +kernel
theorem d_Mo_same_5 : decode c_Mo_same 5 = .ok (.aload_n 0, 1) := by decide +kernel
theorem d_Mo_same_6 : decode c_Mo_same 6 = .ok (.iload_n 1, 1) := by decide +kernel
theorem d_Mo_same_7 : decode c_Mo_same 7 = .ok (.invokevirtual 48, 3) := by decide +kernel
theorem d_Mo_same_10 : decode c_Mo_same 10 = .ok (.ifCond .eq 31, 3) := by decide +kernel
theorem d_Mo_same_13 : decode c_Mo_same 13 = .ok (.aload_n 0, 1) := by decide +kernel
theorem d_Mo_same_14 : decode c_Mo_same 14 = .ok (.iload_n 2, 1) := by decide +kernel
theorem d_Mo_same_15 : decode c_Mo_same 15 = .ok (.invokevirtual 48, 3) := by decide +kernel
theorem d_Mo_same_18 : decode c_Mo_same 18 = .ok (.ifCond .eq 23, 3) := by decide +kernel
theorem d_Mo_same_21 : decode c_Mo_same 21 = .ok (.aload_n 0, 1) := by decide +kernel
theorem d_Mo_same_22 : decode c_Mo_same 22 = .ok (.getfield 7, 3) := by decide +kernel
theorem d_Mo_same_25 : decode c_Mo_same 25 = .ok (.iload_n 1, 1) := by decide +kernel
theorem d_Mo_same_26 : decode c_Mo_same 26 = .ok (.laload, 1) := by decide +kernel
theorem d_Mo_same_27 : decode c_Mo_same 27 = .ok (.aload_n 0, 1) := by decide +kernel
theorem d_Mo_same_28 : decode c_Mo_same 28 = .ok (.getfield 7, 3) := by decide +kernel
theorem d_Mo_same_31 : decode c_Mo_same 31 = .ok (.iload_n 2, 1) := by decide +kernel
theorem d_Mo_same_32 : decode c_Mo_same 32 = .ok (.laload, 1) := by decide +kernel
theorem d_Mo_same_33 : decode c_Mo_same 33 = .ok (.lcmp, 1) := by decide +kernel
theorem d_Mo_same_34 : decode c_Mo_same 34 = .ok (.ifCond .ne 7, 3) := by decide +kernel
theorem d_Mo_same_37 : decode c_Mo_same 37 = .ok (.iconst 1, 1) := by decide +kernel
theorem d_Mo_same_38 : decode c_Mo_same 38 = .ok (.goto 4, 3) := by decide +kernel
theorem d_Mo_same_41 : decode c_Mo_same 41 = .ok (.iconst 0, 1) := by decide +kernel
theorem d_Mo_same_42 : decode c_Mo_same 42 = .ok (.ireturn, 1) := by decide +kernel
abbrev c_Mo_generation : ByteArray := prog_10_method_34_code
abbrev y_Mo_generation : MethodName := ⟨"TwoGenerationsModel", "generation", "(I)I"⟩
abbrev h_Mo_generation : Cond := .code y_Mo_generation c_Mo_generation 3 (some .int)
theorem d_Mo_generation_0 : decode c_Mo_generation 0 = .ok (.aload_n 0, 1) := by decide +kernel
theorem d_Mo_generation_1 : decode c_Mo_generation 1 = .ok (.iconst 0, 1) := by decide +kernel
theorem d_Mo_generation_2 : decode c_Mo_generation 2 = .ok (.putfield 45, 3) := by decide +kernel
theorem d_Mo_generation_5 : decode c_Mo_generation 5 = .ok (.aload_n 0, 1) := by decide +kernel
theorem d_Mo_generation_6 : decode c_Mo_generation 6 = .ok (.iload_n 1, 1) := by decide +kernel
theorem d_Mo_generation_7 : decode c_Mo_generation 7 = .ok (.invokevirtual 109, 3) := by decide +kernel
theorem d_Mo_generation_10 : decode c_Mo_generation 10 = .ok (.istore_n 2, 1) := by decide +kernel
theorem d_Mo_generation_11 : decode c_Mo_generation 11 = .ok (.iload_n 2, 1) := by decide +kernel
theorem d_Mo_generation_12 : decode c_Mo_generation 12 = .ok (.ifCond .ge 7, 3) := by decide +kernel
theorem d_Mo_generation_15 : decode c_Mo_generation 15 = .ok (.iconst (-1), 1) := by decide +kernel
theorem d_Mo_generation_16 : decode c_Mo_generation 16 = .ok (.goto 17, 3) := by decide +kernel
theorem d_Mo_generation_19 : decode c_Mo_generation 19 = .ok (.aload_n 0, 1) := by decide +kernel
theorem d_Mo_generation_20 : decode c_Mo_generation 20 = .ok (.getfield 17, 3) := by decide +kernel
theorem d_Mo_generation_23 : decode c_Mo_generation 23 = .ok (.iload_n 2, 1) := by decide +kernel
theorem d_Mo_generation_24 : decode c_Mo_generation 24 = .ok (.baload, 1) := by decide +kernel
theorem d_Mo_generation_25 : decode c_Mo_generation 25 = .ok (.ifCond .eq 7, 3) := by decide +kernel
theorem d_Mo_generation_28 : decode c_Mo_generation 28 = .ok (.iconst 1, 1) := by decide +kernel
theorem d_Mo_generation_29 : decode c_Mo_generation 29 = .ok (.goto 4, 3) := by decide +kernel
theorem d_Mo_generation_32 : decode c_Mo_generation 32 = .ok (.iconst 0, 1) := by decide +kernel
theorem d_Mo_generation_33 : decode c_Mo_generation 33 = .ok (.ireturn, 1) := by decide +kernel
abbrev c_Mo_reach : ByteArray := prog_10_method_35_code
abbrev y_Mo_reach : MethodName := ⟨"TwoGenerationsModel", "reach", "(I)I"⟩
abbrev h_Mo_reach : Cond := .code y_Mo_reach c_Mo_reach 4 (some .int)
theorem d_Mo_reach_0 : decode c_Mo_reach 0 = .ok (.aload_n 0, 1) := by decide +kernel
theorem d_Mo_reach_1 : decode c_Mo_reach 1 = .ok (.iconst 0, 1) := by decide +kernel
theorem d_Mo_reach_2 : decode c_Mo_reach 2 = .ok (.putfield 45, 3) := by decide +kernel
theorem d_Mo_reach_5 : decode c_Mo_reach 5 = .ok (.aload_n 0, 1) := by decide +kernel
theorem d_Mo_reach_6 : decode c_Mo_reach 6 = .ok (.iload_n 1, 1) := by decide +kernel
theorem d_Mo_reach_7 : decode c_Mo_reach 7 = .ok (.invokevirtual 109, 3) := by decide +kernel
theorem d_Mo_reach_10 : decode c_Mo_reach 10 = .ok (.ifCond .ge 5, 3) := by decide +kernel
theorem d_Mo_reach_13 : decode c_Mo_reach 13 = .ok (.iconst 0, 1) := by decide +kernel
theorem d_Mo_reach_14 : decode c_Mo_reach 14 = .ok (.ireturn, 1) := by decide +kernel
theorem d_Mo_reach_15 : decode c_Mo_reach 15 = .ok (.aload_n 0, 1) := by decide +kernel
theorem d_Mo_reach_16 : decode c_Mo_reach 16 = .ok (.invokevirtual 70, 3) := by decide +kernel
theorem d_Mo_reach_19 : decode c_Mo_reach 19 = .ok (.aload_n 0, 1) := by decide +kernel
theorem d_Mo_reach_20 : decode c_Mo_reach 20 = .ok (.aload_n 0, 1) := by decide +kernel
theorem d_Mo_reach_21 : decode c_Mo_reach 21 = .ok (.getfield 7, 3) := by decide +kernel
theorem d_Mo_reach_24 : decode c_Mo_reach 24 = .ok (.iload_n 1, 1) := by decide +kernel
theorem d_Mo_reach_25 : decode c_Mo_reach 25 = .ok (.laload, 1) := by decide +kernel
theorem d_Mo_reach_26 : decode c_Mo_reach 26 = .ok (.invokevirtual 58, 3) := by decide +kernel
theorem d_Mo_reach_29 : decode c_Mo_reach 29 = .ok (.aload_n 0, 1) := by decide +kernel
theorem d_Mo_reach_30 : decode c_Mo_reach 30 = .ok (.invokevirtual 76, 3) := by decide +kernel
theorem d_Mo_reach_33 : decode c_Mo_reach 33 = .ok (.iconst 0, 1) := by decide +kernel
theorem d_Mo_reach_34 : decode c_Mo_reach 34 = .ok (.istore_n 2, 1) := by decide +kernel
theorem d_Mo_reach_35 : decode c_Mo_reach 35 = .ok (.iconst 0, 1) := by decide +kernel
theorem d_Mo_reach_36 : decode c_Mo_reach 36 = .ok (.istore_n 3, 1) := by decide +kernel
theorem d_Mo_reach_37 : decode c_Mo_reach 37 = .ok (.iload_n 3, 1) := by decide +kernel
theorem d_Mo_reach_38 : decode c_Mo_reach 38 = .ok (.sipush 200, 3) := by decide +kernel
theorem d_Mo_reach_41 : decode c_Mo_reach 41 = .ok (.if_icmp .ge 30, 3) := by decide +kernel
theorem d_Mo_reach_44 : decode c_Mo_reach 44 = .ok (.iload_n 2, 1) := by decide +kernel
theorem d_Mo_reach_45 : decode c_Mo_reach 45 = .ok (.aload_n 0, 1) := by decide +kernel
theorem d_Mo_reach_46 : decode c_Mo_reach 46 = .ok (.getfield 30, 3) := by decide +kernel
theorem d_Mo_reach_49 : decode c_Mo_reach 49 = .ok (.iload_n 3, 1) := by decide +kernel
theorem d_Mo_reach_50 : decode c_Mo_reach 50 = .ok (.baload, 1) := by decide +kernel
theorem d_Mo_reach_51 : decode c_Mo_reach 51 = .ok (.ifCond .eq 11, 3) := by decide +kernel
theorem d_Mo_reach_54 : decode c_Mo_reach 54 = .ok (.aload_n 0, 1) := by decide +kernel
theorem d_Mo_reach_55 : decode c_Mo_reach 55 = .ok (.iload_n 3, 1) := by decide +kernel
theorem d_Mo_reach_56 : decode c_Mo_reach 56 = .ok (.invokevirtual 54, 3) := by decide +kernel
theorem d_Mo_reach_59 : decode c_Mo_reach 59 = .ok (.goto 4, 3) := by decide +kernel
theorem d_Mo_reach_62 : decode c_Mo_reach 62 = .ok (.iconst 0, 1) := by decide +kernel
theorem d_Mo_reach_63 : decode c_Mo_reach 63 = .ok (.iadd, 1) := by decide +kernel
theorem d_Mo_reach_64 : decode c_Mo_reach 64 = .ok (.istore_n 2, 1) := by decide +kernel
theorem d_Mo_reach_65 : decode c_Mo_reach 65 = .ok (.iinc 3 1, 3) := by decide +kernel
theorem d_Mo_reach_68 : decode c_Mo_reach 68 = .ok (.goto (-31), 3) := by decide +kernel
theorem d_Mo_reach_71 : decode c_Mo_reach 71 = .ok (.iload_n 2, 1) := by decide +kernel
theorem d_Mo_reach_72 : decode c_Mo_reach 72 = .ok (.ireturn, 1) := by decide +kernel
abbrev c_Mo_cells : ByteArray := prog_10_method_36_code
abbrev y_Mo_cells : MethodName := ⟨"TwoGenerationsModel", "cells", "(I)I"⟩
abbrev h_Mo_cells : Cond := .code y_Mo_cells c_Mo_cells 2 (some .int)
theorem d_Mo_cells_0 : decode c_Mo_cells 0 = .ok (.aload_n 0, 1) := by decide +kernel
theorem d_Mo_cells_1 : decode c_Mo_cells 1 = .ok (.iconst 0, 1) := by decide +kernel
theorem d_Mo_cells_2 : decode c_Mo_cells 2 = .ok (.putfield 45, 3) := by decide +kernel
theorem d_Mo_cells_5 : decode c_Mo_cells 5 = .ok (.iload_n 1, 1) := by decide +kernel
theorem d_Mo_cells_6 : decode c_Mo_cells 6 = .ok (.ifCond .ne 11, 3) := by decide +kernel
theorem d_Mo_cells_9 : decode c_Mo_cells 9 = .ok (.aload_n 0, 1) := by decide +kernel
theorem d_Mo_cells_10 : decode c_Mo_cells 10 = .ok (.iconst 0, 1) := by decide +kernel
theorem d_Mo_cells_11 : decode c_Mo_cells 11 = .ok (.invokevirtual 82, 3) := by decide +kernel
theorem d_Mo_cells_14 : decode c_Mo_cells 14 = .ok (.goto 17, 3) := by decide +kernel
theorem d_Mo_cells_17 : decode c_Mo_cells 17 = .ok (.iload_n 1, 1) := by decide +kernel
theorem d_Mo_cells_18 : decode c_Mo_cells 18 = .ok (.iconst 1, 1) := by decide +kernel
theorem d_Mo_cells_19 : decode c_Mo_cells 19 = .ok (.if_icmp .ne 11, 3) := by decide +kernel
theorem d_Mo_cells_22 : decode c_Mo_cells 22 = .ok (.aload_n 0, 1) := by decide +kernel
theorem d_Mo_cells_23 : decode c_Mo_cells 23 = .ok (.iconst 1, 1) := by decide +kernel
theorem d_Mo_cells_24 : decode c_Mo_cells 24 = .ok (.invokevirtual 82, 3) := by decide +kernel
theorem d_Mo_cells_27 : decode c_Mo_cells 27 = .ok (.goto 4, 3) := by decide +kernel
theorem d_Mo_cells_30 : decode c_Mo_cells 30 = .ok (.iconst (-1), 1) := by decide +kernel
theorem d_Mo_cells_31 : decode c_Mo_cells 31 = .ok (.ireturn, 1) := by decide +kernel
abbrev c_Mo_collections : ByteArray := prog_10_method_37_code
abbrev y_Mo_collections : MethodName := ⟨"TwoGenerationsModel", "collections", "(I)I"⟩
abbrev h_Mo_collections : Cond := .code y_Mo_collections c_Mo_collections 2 (some .int)
theorem d_Mo_collections_0 : decode c_Mo_collections 0 = .ok (.aload_n 0, 1) := by decide +kernel
theorem d_Mo_collections_1 : decode c_Mo_collections 1 = .ok (.iconst 0, 1) := by decide +kernel
theorem d_Mo_collections_2 : decode c_Mo_collections 2 = .ok (.putfield 45, 3) := by decide +kernel
theorem d_Mo_collections_5 : decode c_Mo_collections 5 = .ok (.iload_n 1, 1) := by decide +kernel
theorem d_Mo_collections_6 : decode c_Mo_collections 6 = .ok (.ifCond .ne 10, 3) := by decide +kernel
theorem d_Mo_collections_9 : decode c_Mo_collections 9 = .ok (.aload_n 0, 1) := by decide +kernel
theorem d_Mo_collections_10 : decode c_Mo_collections 10 = .ok (.getfield 89, 3) := by decide +kernel
theorem d_Mo_collections_13 : decode c_Mo_collections 13 = .ok (.goto 16, 3) := by decide +kernel
theorem d_Mo_collections_16 : decode c_Mo_collections 16 = .ok (.iload_n 1, 1) := by decide +kernel
theorem d_Mo_collections_17 : decode c_Mo_collections 17 = .ok (.iconst 1, 1) := by decide +kernel
theorem d_Mo_collections_18 : decode c_Mo_collections 18 = .ok (.if_icmp .ne 10, 3) := by decide +kernel
theorem d_Mo_collections_21 : decode c_Mo_collections 21 = .ok (.aload_n 0, 1) := by decide +kernel
theorem d_Mo_collections_22 : decode c_Mo_collections 22 = .ok (.getfield 79, 3) := by decide +kernel
theorem d_Mo_collections_25 : decode c_Mo_collections 25 = .ok (.goto 4, 3) := by decide +kernel
theorem d_Mo_collections_28 : decode c_Mo_collections 28 = .ok (.iconst (-1), 1) := by decide +kernel
theorem d_Mo_collections_29 : decode c_Mo_collections 29 = .ok (.ireturn, 1) := by decide +kernel
end
section
abbrev c_La_cell : ByteArray := method_2_code
abbrev y_La_cell : MethodName := ⟨"TwoGenerationsLaw", "cell", "([II)I"⟩
abbrev h_La_cell : Cond := .code y_La_cell c_La_cell 2 (some .int)
theorem d_La_cell_0 : decode c_La_cell 0 = .ok (.iload_n 1, 1) := by decide +kernel
theorem d_La_cell_1 : decode c_La_cell 1 = .ok (.aload_n 0, 1) := by decide +kernel
theorem d_La_cell_2 : decode c_La_cell 2 = .ok (.arraylength, 1) := by decide +kernel
theorem d_La_cell_3 : decode c_La_cell 3 = .ok (.if_icmp .ge 9, 3) := by decide +kernel
theorem d_La_cell_6 : decode c_La_cell 6 = .ok (.aload_n 0, 1) := by decide +kernel
theorem d_La_cell_7 : decode c_La_cell 7 = .ok (.iload_n 1, 1) := by decide +kernel
theorem d_La_cell_8 : decode c_La_cell 8 = .ok (.iaload, 1) := by decide +kernel
theorem d_La_cell_9 : decode c_La_cell 9 = .ok (.goto 4, 3) := by decide +kernel
theorem d_La_cell_12 : decode c_La_cell 12 = .ok (.iconst 0, 1) := by decide +kernel
theorem d_La_cell_13 : decode c_La_cell 13 = .ok (.ireturn, 1) := by decide +kernel
abbrev c_La_make : ByteArray := method_3_code
abbrev y_La_make : MethodName := ⟨"TwoGenerationsLaw", "make", "(LTwoGenerations;II)I"⟩
abbrev h_La_make : Cond := .codeWith y_La_make c_La_make 4 (some .int) [(0, 6, 9, 13), (0, 6, 12, 15)]
theorem d_La_make_0 : decode c_La_make 0 = .ok (.aload_n 0, 1) := by decide +kernel
theorem d_La_make_1 : decode c_La_make 1 = .ok (.iload_n 1, 1) := by decide +kernel
theorem d_La_make_2 : decode c_La_make 2 = .ok (.iload_n 2, 1) := by decide +kernel
theorem d_La_make_3 : decode c_La_make 3 = .ok (.invokevirtual 7, 3) := by decide +kernel
theorem d_La_make_6 : decode c_La_make 6 = .ok (.goto 9, 3) := by decide +kernel
theorem d_La_make_9 : decode c_La_make 9 = .ok (.astore_n 3, 1) := by decide +kernel
theorem d_La_make_10 : decode c_La_make 10 = .ok (.iconst 1, 1) := by decide +kernel
theorem d_La_make_11 : decode c_La_make 11 = .ok (.ireturn, 1) := by decide +kernel
theorem d_La_make_12 : decode c_La_make 12 = .ok (.astore_n 3, 1) := by decide +kernel
theorem d_La_make_13 : decode c_La_make 13 = .ok (.iconst 2, 1) := by decide +kernel
theorem d_La_make_14 : decode c_La_make 14 = .ok (.ireturn, 1) := by decide +kernel
theorem d_La_make_15 : decode c_La_make 15 = .ok (.iconst 0, 1) := by decide +kernel
theorem d_La_make_16 : decode c_La_make 16 = .ok (.ireturn, 1) := by decide +kernel
abbrev c_La_weak : ByteArray := method_4_code
abbrev y_La_weak : MethodName := ⟨"TwoGenerationsLaw", "weak", "(LTwoGenerations;II)I"⟩
abbrev h_La_weak : Cond := .codeWith y_La_weak c_La_weak 4 (some .int) [(0, 6, 9, 13), (0, 6, 12, 15)]
theorem d_La_weak_0 : decode c_La_weak 0 = .ok (.aload_n 0, 1) := by decide +kernel
theorem d_La_weak_1 : decode c_La_weak 1 = .ok (.iload_n 1, 1) := by decide +kernel
theorem d_La_weak_2 : decode c_La_weak 2 = .ok (.iload_n 2, 1) := by decide +kernel
theorem d_La_weak_3 : decode c_La_weak 3 = .ok (.invokevirtual 17, 3) := by decide +kernel
theorem d_La_weak_6 : decode c_La_weak 6 = .ok (.goto 9, 3) := by decide +kernel
theorem d_La_weak_9 : decode c_La_weak 9 = .ok (.astore_n 3, 1) := by decide +kernel
theorem d_La_weak_10 : decode c_La_weak 10 = .ok (.iconst 1, 1) := by decide +kernel
theorem d_La_weak_11 : decode c_La_weak 11 = .ok (.ireturn, 1) := by decide +kernel
theorem d_La_weak_12 : decode c_La_weak 12 = .ok (.astore_n 3, 1) := by decide +kernel
theorem d_La_weak_13 : decode c_La_weak 13 = .ok (.iconst 2, 1) := by decide +kernel
theorem d_La_weak_14 : decode c_La_weak 14 = .ok (.ireturn, 1) := by decide +kernel
theorem d_La_weak_15 : decode c_La_weak 15 = .ok (.iconst 0, 1) := by decide +kernel
theorem d_La_weak_16 : decode c_La_weak 16 = .ok (.ireturn, 1) := by decide +kernel
abbrev c_La_load : ByteArray := method_5_code
abbrev y_La_load : MethodName := ⟨"TwoGenerationsLaw", "load", "(LTwoGenerations;III)I"⟩
abbrev h_La_load : Cond := .codeWith y_La_load c_La_load 5 (some .int) [(0, 7, 10, 13)]
theorem d_La_load_0 : decode c_La_load 0 = .ok (.aload_n 0, 1) := by decide +kernel
theorem d_La_load_1 : decode c_La_load 1 = .ok (.iload_n 1, 1) := by decide +kernel
theorem d_La_load_2 : decode c_La_load 2 = .ok (.iload_n 2, 1) := by decide +kernel
theorem d_La_load_3 : decode c_La_load 3 = .ok (.iload_n 3, 1) := by decide +kernel
theorem d_La_load_4 : decode c_La_load 4 = .ok (.invokevirtual 20, 3) := by decide +kernel
theorem d_La_load_7 : decode c_La_load 7 = .ok (.goto 7, 3) := by decide +kernel
theorem d_La_load_10 : decode c_La_load 10 = .ok (.astore 4, 2) := by decide +kernel
theorem d_La_load_12 : decode c_La_load 12 = .ok (.iconst 1, 1) := by decide +kernel
theorem d_La_load_13 : decode c_La_load 13 = .ok (.ireturn, 1) := by decide +kernel
theorem d_La_load_14 : decode c_La_load 14 = .ok (.iconst 0, 1) := by decide +kernel
theorem d_La_load_15 : decode c_La_load 15 = .ok (.ireturn, 1) := by decide +kernel
abbrev c_La_store : ByteArray := method_6_code
abbrev y_La_store : MethodName := ⟨"TwoGenerationsLaw", "store", "(LTwoGenerations;III)I"⟩
abbrev h_La_store : Cond := .codeWith y_La_store c_La_store 5 (some .int) [(0, 7, 10, 13)]
theorem d_La_store_0 : decode c_La_store 0 = .ok (.aload_n 0, 1) := by decide +kernel
theorem d_La_store_1 : decode c_La_store 1 = .ok (.iload_n 1, 1) := by decide +kernel
theorem d_La_store_2 : decode c_La_store 2 = .ok (.iload_n 2, 1) := by decide +kernel
theorem d_La_store_3 : decode c_La_store 3 = .ok (.iload_n 3, 1) := by decide +kernel
theorem d_La_store_4 : decode c_La_store 4 = .ok (.invokevirtual 24, 3) := by decide +kernel
theorem d_La_store_7 : decode c_La_store 7 = .ok (.goto 7, 3) := by decide +kernel
theorem d_La_store_10 : decode c_La_store 10 = .ok (.astore 4, 2) := by decide +kernel
theorem d_La_store_12 : decode c_La_store 12 = .ok (.iconst 1, 1) := by decide +kernel
theorem d_La_store_13 : decode c_La_store 13 = .ok (.ireturn, 1) := by decide +kernel
theorem d_La_store_14 : decode c_La_store 14 = .ok (.iconst 0, 1) := by decide +kernel
theorem d_La_store_15 : decode c_La_store 15 = .ok (.ireturn, 1) := by decide +kernel
abbrev c_La_target : ByteArray := method_7_code
abbrev y_La_target : MethodName := ⟨"TwoGenerationsLaw", "target", "(LTwoGenerations;II)I"⟩
abbrev h_La_target : Cond := .codeWith y_La_target c_La_target 4 (some .int) [(0, 6, 9, 13)]
theorem d_La_target_0 : decode c_La_target 0 = .ok (.aload_n 0, 1) := by decide +kernel
theorem d_La_target_1 : decode c_La_target 1 = .ok (.iload_n 1, 1) := by decide +kernel
theorem d_La_target_2 : decode c_La_target 2 = .ok (.iload_n 2, 1) := by decide +kernel
theorem d_La_target_3 : decode c_La_target 3 = .ok (.invokevirtual 27, 3) := by decide +kernel
theorem d_La_target_6 : decode c_La_target 6 = .ok (.goto 6, 3) := by decide +kernel
theorem d_La_target_9 : decode c_La_target 9 = .ok (.astore_n 3, 1) := by decide +kernel
theorem d_La_target_10 : decode c_La_target 10 = .ok (.iconst 1, 1) := by decide +kernel
theorem d_La_target_11 : decode c_La_target 11 = .ok (.ireturn, 1) := by decide +kernel
theorem d_La_target_12 : decode c_La_target 12 = .ok (.iconst 0, 1) := by decide +kernel
theorem d_La_target_13 : decode c_La_target 13 = .ok (.ireturn, 1) := by decide +kernel
abbrev c_La_number : ByteArray := method_8_code
abbrev y_La_number : MethodName := ⟨"TwoGenerationsLaw", "number", "(LTwoGenerations;II)I"⟩
abbrev h_La_number : Cond := .codeWith y_La_number c_La_number 4 (some .int) [(0, 6, 9, 13)]
theorem d_La_number_0 : decode c_La_number 0 = .ok (.aload_n 0, 1) := by decide +kernel
theorem d_La_number_1 : decode c_La_number 1 = .ok (.iload_n 1, 1) := by decide +kernel
theorem d_La_number_2 : decode c_La_number 2 = .ok (.iload_n 2, 1) := by decide +kernel
theorem d_La_number_3 : decode c_La_number 3 = .ok (.invokevirtual 30, 3) := by decide +kernel
theorem d_La_number_6 : decode c_La_number 6 = .ok (.goto 6, 3) := by decide +kernel
theorem d_La_number_9 : decode c_La_number 9 = .ok (.astore_n 3, 1) := by decide +kernel
theorem d_La_number_10 : decode c_La_number 10 = .ok (.iconst 1, 1) := by decide +kernel
theorem d_La_number_11 : decode c_La_number 11 = .ok (.ireturn, 1) := by decide +kernel
theorem d_La_number_12 : decode c_La_number 12 = .ok (.iconst 0, 1) := by decide +kernel
theorem d_La_number_13 : decode c_La_number 13 = .ok (.ireturn, 1) := by decide +kernel
abbrev c_La_clear : ByteArray := method_9_code
abbrev y_La_clear : MethodName := ⟨"TwoGenerationsLaw", "clear", "(LTwoGenerations;I)I"⟩
abbrev h_La_clear : Cond := .codeWith y_La_clear c_La_clear 3 (some .int) [(0, 5, 8, 13)]
theorem d_La_clear_0 : decode c_La_clear 0 = .ok (.aload_n 0, 1) := by decide +kernel
theorem d_La_clear_1 : decode c_La_clear 1 = .ok (.iload_n 1, 1) := by decide +kernel
theorem d_La_clear_2 : decode c_La_clear 2 = .ok (.invokevirtual 33, 3) := by decide +kernel
theorem d_La_clear_5 : decode c_La_clear 5 = .ok (.goto 6, 3) := by decide +kernel
theorem d_La_clear_8 : decode c_La_clear 8 = .ok (.astore_n 2, 1) := by decide +kernel
theorem d_La_clear_9 : decode c_La_clear 9 = .ok (.iconst 1, 1) := by decide +kernel
theorem d_La_clear_10 : decode c_La_clear 10 = .ok (.ireturn, 1) := by decide +kernel
theorem d_La_clear_11 : decode c_La_clear 11 = .ok (.iconst 0, 1) := by decide +kernel
theorem d_La_clear_12 : decode c_La_clear 12 = .ok (.ireturn, 1) := by decide +kernel
abbrev c_La_move : ByteArray := method_10_code
abbrev y_La_move : MethodName := ⟨"TwoGenerationsLaw", "move", "(LTwoGenerations;II)I"⟩
abbrev h_La_move : Cond := .codeWith y_La_move c_La_move 4 (some .int) [(0, 6, 9, 13)]
theorem d_La_move_0 : decode c_La_move 0 = .ok (.aload_n 0, 1) := by decide +kernel
theorem d_La_move_1 : decode c_La_move 1 = .ok (.iload_n 1, 1) := by decide +kernel
theorem d_La_move_2 : decode c_La_move 2 = .ok (.iload_n 2, 1) := by decide +kernel
theorem d_La_move_3 : decode c_La_move 3 = .ok (.invokevirtual 37, 3) := by decide +kernel
theorem d_La_move_6 : decode c_La_move 6 = .ok (.goto 6, 3) := by decide +kernel
theorem d_La_move_9 : decode c_La_move 9 = .ok (.astore_n 3, 1) := by decide +kernel
theorem d_La_move_10 : decode c_La_move 10 = .ok (.iconst 1, 1) := by decide +kernel
theorem d_La_move_11 : decode c_La_move 11 = .ok (.ireturn, 1) := by decide +kernel
theorem d_La_move_12 : decode c_La_move 12 = .ok (.iconst 0, 1) := by decide +kernel
theorem d_La_move_13 : decode c_La_move 13 = .ok (.ireturn, 1) := by decide +kernel
abbrev c_La_small : ByteArray := method_11_code
abbrev y_La_small : MethodName := ⟨"TwoGenerationsLaw", "small", "(LTwoGenerations;[J)I"⟩
abbrev h_La_small : Cond := .codeWith y_La_small c_La_small 3 (some .int) [(0, 8, 11, 15)]
theorem d_La_small_0 : decode c_La_small 0 = .ok (.aload_n 1, 1) := by decide +kernel
theorem d_La_small_1 : decode c_La_small 1 = .ok (.iconst 0, 1) := by decide +kernel
theorem d_La_small_2 : decode c_La_small 2 = .ok (.aload_n 0, 1) := by decide +kernel
theorem d_La_small_3 : decode c_La_small 3 = .ok (.invokevirtual 40, 3) := by decide +kernel
theorem d_La_small_6 : decode c_La_small 6 = .ok (.i2l, 1) := by decide +kernel
theorem d_La_small_7 : decode c_La_small 7 = .ok (.lastore, 1) := by decide +kernel
theorem d_La_small_8 : decode c_La_small 8 = .ok (.goto 6, 3) := by decide +kernel
theorem d_La_small_11 : decode c_La_small 11 = .ok (.astore_n 2, 1) := by decide +kernel
theorem d_La_small_12 : decode c_La_small 12 = .ok (.iconst 1, 1) := by decide +kernel
theorem d_La_small_13 : decode c_La_small 13 = .ok (.ireturn, 1) := by decide +kernel
theorem d_La_small_14 : decode c_La_small 14 = .ok (.iconst 0, 1) := by decide +kernel
theorem d_La_small_15 : decode c_La_small 15 = .ok (.ireturn, 1) := by decide +kernel
abbrev c_La_law : ByteArray := code
abbrev y_La_law : MethodName := ⟨"TwoGenerationsLaw", "law", "([I)Z"⟩
abbrev h_La_law : Cond := .code y_La_law c_La_law 7 (some .boolean)
theorem d_La_law_0 : decode c_La_law 0 = .ok (.new 8, 3) := by decide +kernel
theorem d_La_law_3 : decode c_La_law 3 = .ok (.dup, 1) := by decide +kernel
theorem d_La_law_4 : decode c_La_law 4 = .ok (.aload_n 0, 1) := by decide +kernel
theorem d_La_law_5 : decode c_La_law 5 = .ok (.iconst 0, 1) := by decide +kernel
theorem d_La_law_6 : decode c_La_law 6 = .ok (.invokestatic 44, 3) := by decide +kernel
theorem d_La_law_9 : decode c_La_law 9 = .ok (.aload_n 0, 1) := by decide +kernel
theorem d_La_law_10 : decode c_La_law 10 = .ok (.iconst 1, 1) := by decide +kernel
theorem d_La_law_11 : decode c_La_law 11 = .ok (.invokestatic 44, 3) := by decide +kernel
theorem d_La_law_14 : decode c_La_law 14 = .ok (.aload_n 0, 1) := by decide +kernel
theorem d_La_law_15 : decode c_La_law 15 = .ok (.iconst 2, 1) := by decide +kernel
theorem d_La_law_16 : decode c_La_law 16 = .ok (.invokestatic 44, 3) := by decide +kernel
theorem d_La_law_19 : decode c_La_law 19 = .ok (.invokespecial 50, 3) := by decide +kernel
theorem d_La_law_22 : decode c_La_law 22 = .ok (.astore_n 1, 1) := by decide +kernel
theorem d_La_law_23 : decode c_La_law 23 = .ok (.new 52, 3) := by decide +kernel
theorem d_La_law_26 : decode c_La_law 26 = .ok (.dup, 1) := by decide +kernel
theorem d_La_law_27 : decode c_La_law 27 = .ok (.aload_n 0, 1) := by decide +kernel
theorem d_La_law_28 : decode c_La_law 28 = .ok (.iconst 0, 1) := by decide +kernel
theorem d_La_law_29 : decode c_La_law 29 = .ok (.invokestatic 44, 3) := by decide +kernel
theorem d_La_law_32 : decode c_La_law 32 = .ok (.aload_n 0, 1) := by decide +kernel
theorem d_La_law_33 : decode c_La_law 33 = .ok (.iconst 1, 1) := by decide +kernel
theorem d_La_law_34 : decode c_La_law 34 = .ok (.invokestatic 44, 3) := by decide +kernel
theorem d_La_law_37 : decode c_La_law 37 = .ok (.aload_n 0, 1) := by decide +kernel
theorem d_La_law_38 : decode c_La_law 38 = .ok (.iconst 2, 1) := by decide +kernel
theorem d_La_law_39 : decode c_La_law 39 = .ok (.invokestatic 44, 3) := by decide +kernel
theorem d_La_law_42 : decode c_La_law 42 = .ok (.invokespecial 54, 3) := by decide +kernel
theorem d_La_law_45 : decode c_La_law 45 = .ok (.astore_n 2, 1) := by decide +kernel
theorem d_La_law_46 : decode c_La_law 46 = .ok (.iconst 1, 1) := by decide +kernel
theorem d_La_law_47 : decode c_La_law 47 = .ok (.newarray .long, 2) := by decide +kernel
theorem d_La_law_49 : decode c_La_law 49 = .ok (.astore_n 3, 1) := by decide +kernel
theorem d_La_law_50 : decode c_La_law 50 = .ok (.iconst 3, 1) := by decide +kernel
theorem d_La_law_51 : decode c_La_law 51 = .ok (.istore 4, 2) := by decide +kernel
theorem d_La_law_53 : decode c_La_law 53 = .ok (.iload 4, 2) := by decide +kernel
theorem d_La_law_55 : decode c_La_law 55 = .ok (.aload_n 0, 1) := by decide +kernel
theorem d_La_law_56 : decode c_La_law 56 = .ok (.arraylength, 1) := by decide +kernel
theorem d_La_law_57 : decode c_La_law 57 = .ok (.iconst 4, 1) := by decide +kernel
theorem d_La_law_58 : decode c_La_law 58 = .ok (.isub, 1) := by decide +kernel
theorem d_La_law_59 : decode c_La_law 59 = .ok (.if_icmp .gt 768, 3) := by decide +kernel
theorem d_La_law_62 : decode c_La_law 62 = .ok (.aload_n 0, 1) := by decide +kernel
theorem d_La_law_63 : decode c_La_law 63 = .ok (.iload 4, 2) := by decide +kernel
theorem d_La_law_65 : decode c_La_law 65 = .ok (.iaload, 1) := by decide +kernel
theorem d_La_law_66 : decode c_La_law 66 = .ok (.bipush 31, 2) := by decide +kernel
theorem d_La_law_68 : decode c_La_law 68 = .ok (.iand, 1) := by decide +kernel
theorem d_La_law_69 : decode c_La_law 69 = .ok (.tableswitch 752 0 17 #[87, 135, 183, 243, 303, 351, 399, 435, 483, 508, 533, 558, 595, 620, 645, 689, 702, 727], 87) := by decide +kernel
theorem d_La_law_156 : decode c_La_law 156 = .ok (.aload_n 1, 1) := by decide +kernel
theorem d_La_law_157 : decode c_La_law 157 = .ok (.aload_n 0, 1) := by decide +kernel
theorem d_La_law_158 : decode c_La_law 158 = .ok (.iload 4, 2) := by decide +kernel
theorem d_La_law_160 : decode c_La_law 160 = .ok (.iconst 1, 1) := by decide +kernel
theorem d_La_law_161 : decode c_La_law 161 = .ok (.iadd, 1) := by decide +kernel
theorem d_La_law_162 : decode c_La_law 162 = .ok (.iaload, 1) := by decide +kernel
theorem d_La_law_163 : decode c_La_law 163 = .ok (.aload_n 0, 1) := by decide +kernel
theorem d_La_law_164 : decode c_La_law 164 = .ok (.iload 4, 2) := by decide +kernel
theorem d_La_law_166 : decode c_La_law 166 = .ok (.iconst 2, 1) := by decide +kernel
theorem d_La_law_167 : decode c_La_law 167 = .ok (.iadd, 1) := by decide +kernel
theorem d_La_law_168 : decode c_La_law 168 = .ok (.iaload, 1) := by decide +kernel
theorem d_La_law_169 : decode c_La_law 169 = .ok (.invokestatic 55, 3) := by decide +kernel
theorem d_La_law_172 : decode c_La_law 172 = .ok (.istore 5, 2) := by decide +kernel
theorem d_La_law_174 : decode c_La_law 174 = .ok (.aload_n 2, 1) := by decide +kernel
theorem d_La_law_175 : decode c_La_law 175 = .ok (.aload_n 0, 1) := by decide +kernel
theorem d_La_law_176 : decode c_La_law 176 = .ok (.iload 4, 2) := by decide +kernel
theorem d_La_law_178 : decode c_La_law 178 = .ok (.iconst 1, 1) := by decide +kernel
theorem d_La_law_179 : decode c_La_law 179 = .ok (.iadd, 1) := by decide +kernel
theorem d_La_law_180 : decode c_La_law 180 = .ok (.iaload, 1) := by decide +kernel
theorem d_La_law_181 : decode c_La_law 181 = .ok (.aload_n 0, 1) := by decide +kernel
theorem d_La_law_182 : decode c_La_law 182 = .ok (.iload 4, 2) := by decide +kernel
theorem d_La_law_184 : decode c_La_law 184 = .ok (.iconst 2, 1) := by decide +kernel
theorem d_La_law_185 : decode c_La_law 185 = .ok (.iadd, 1) := by decide +kernel
theorem d_La_law_186 : decode c_La_law 186 = .ok (.iaload, 1) := by decide +kernel
theorem d_La_law_187 : decode c_La_law 187 = .ok (.invokevirtual 58, 3) := by decide +kernel
theorem d_La_law_190 : decode c_La_law 190 = .ok (.aload_n 2, 1) := by decide +kernel
theorem d_La_law_191 : decode c_La_law 191 = .ok (.invokevirtual 59, 3) := by decide +kernel
theorem d_La_law_194 : decode c_La_law 194 = .ok (.iload 5, 2) := by decide +kernel
theorem d_La_law_196 : decode c_La_law 196 = .ok (.if_icmp .eq 5, 3) := by decide +kernel
theorem d_La_law_199 : decode c_La_law 199 = .ok (.iconst 0, 1) := by decide +kernel
theorem d_La_law_200 : decode c_La_law 200 = .ok (.ireturn, 1) := by decide +kernel
theorem d_La_law_201 : decode c_La_law 201 = .ok (.goto 620, 3) := by decide +kernel
theorem d_La_law_204 : decode c_La_law 204 = .ok (.aload_n 1, 1) := by decide +kernel
theorem d_La_law_205 : decode c_La_law 205 = .ok (.aload_n 0, 1) := by decide +kernel
theorem d_La_law_206 : decode c_La_law 206 = .ok (.iload 4, 2) := by decide +kernel
theorem d_La_law_208 : decode c_La_law 208 = .ok (.iconst 1, 1) := by decide +kernel
theorem d_La_law_209 : decode c_La_law 209 = .ok (.iadd, 1) := by decide +kernel
theorem d_La_law_210 : decode c_La_law 210 = .ok (.iaload, 1) := by decide +kernel
theorem d_La_law_211 : decode c_La_law 211 = .ok (.aload_n 0, 1) := by decide +kernel
theorem d_La_law_212 : decode c_La_law 212 = .ok (.iload 4, 2) := by decide +kernel
theorem d_La_law_214 : decode c_La_law 214 = .ok (.iconst 2, 1) := by decide +kernel
theorem d_La_law_215 : decode c_La_law 215 = .ok (.iadd, 1) := by decide +kernel
theorem d_La_law_216 : decode c_La_law 216 = .ok (.iaload, 1) := by decide +kernel
theorem d_La_law_217 : decode c_La_law 217 = .ok (.invokestatic 62, 3) := by decide +kernel
theorem d_La_law_220 : decode c_La_law 220 = .ok (.istore 5, 2) := by decide +kernel
theorem d_La_law_222 : decode c_La_law 222 = .ok (.aload_n 2, 1) := by decide +kernel
theorem d_La_law_223 : decode c_La_law 223 = .ok (.aload_n 0, 1) := by decide +kernel
theorem d_La_law_224 : decode c_La_law 224 = .ok (.iload 4, 2) := by decide +kernel
theorem d_La_law_226 : decode c_La_law 226 = .ok (.iconst 1, 1) := by decide +kernel
theorem d_La_law_227 : decode c_La_law 227 = .ok (.iadd, 1) := by decide +kernel
theorem d_La_law_228 : decode c_La_law 228 = .ok (.iaload, 1) := by decide +kernel
theorem d_La_law_229 : decode c_La_law 229 = .ok (.aload_n 0, 1) := by decide +kernel
theorem d_La_law_230 : decode c_La_law 230 = .ok (.iload 4, 2) := by decide +kernel
theorem d_La_law_232 : decode c_La_law 232 = .ok (.iconst 2, 1) := by decide +kernel
theorem d_La_law_233 : decode c_La_law 233 = .ok (.iadd, 1) := by decide +kernel
theorem d_La_law_234 : decode c_La_law 234 = .ok (.iaload, 1) := by decide +kernel
theorem d_La_law_235 : decode c_La_law 235 = .ok (.invokevirtual 64, 3) := by decide +kernel
theorem d_La_law_238 : decode c_La_law 238 = .ok (.aload_n 2, 1) := by decide +kernel
theorem d_La_law_239 : decode c_La_law 239 = .ok (.invokevirtual 59, 3) := by decide +kernel
theorem d_La_law_242 : decode c_La_law 242 = .ok (.iload 5, 2) := by decide +kernel
theorem d_La_law_244 : decode c_La_law 244 = .ok (.if_icmp .eq 5, 3) := by decide +kernel
theorem d_La_law_247 : decode c_La_law 247 = .ok (.iconst 0, 1) := by decide +kernel
theorem d_La_law_248 : decode c_La_law 248 = .ok (.ireturn, 1) := by decide +kernel
theorem d_La_law_249 : decode c_La_law 249 = .ok (.goto 572, 3) := by decide +kernel
theorem d_La_law_252 : decode c_La_law 252 = .ok (.aload_n 1, 1) := by decide +kernel
theorem d_La_law_253 : decode c_La_law 253 = .ok (.aload_n 0, 1) := by decide +kernel
theorem d_La_law_254 : decode c_La_law 254 = .ok (.iload 4, 2) := by decide +kernel
theorem d_La_law_256 : decode c_La_law 256 = .ok (.iconst 1, 1) := by decide +kernel
theorem d_La_law_257 : decode c_La_law 257 = .ok (.iadd, 1) := by decide +kernel
theorem d_La_law_258 : decode c_La_law 258 = .ok (.iaload, 1) := by decide +kernel
theorem d_La_law_259 : decode c_La_law 259 = .ok (.aload_n 0, 1) := by decide +kernel
theorem d_La_law_260 : decode c_La_law 260 = .ok (.iload 4, 2) := by decide +kernel
theorem d_La_law_262 : decode c_La_law 262 = .ok (.iconst 2, 1) := by decide +kernel
theorem d_La_law_263 : decode c_La_law 263 = .ok (.iadd, 1) := by decide +kernel
theorem d_La_law_264 : decode c_La_law 264 = .ok (.iaload, 1) := by decide +kernel
theorem d_La_law_265 : decode c_La_law 265 = .ok (.aload_n 0, 1) := by decide +kernel
theorem d_La_law_266 : decode c_La_law 266 = .ok (.iload 4, 2) := by decide +kernel
theorem d_La_law_268 : decode c_La_law 268 = .ok (.iconst 3, 1) := by decide +kernel
theorem d_La_law_269 : decode c_La_law 269 = .ok (.iadd, 1) := by decide +kernel
theorem d_La_law_270 : decode c_La_law 270 = .ok (.iaload, 1) := by decide +kernel
theorem d_La_law_271 : decode c_La_law 271 = .ok (.invokestatic 65, 3) := by decide +kernel
theorem d_La_law_274 : decode c_La_law 274 = .ok (.istore 5, 2) := by decide +kernel
theorem d_La_law_276 : decode c_La_law 276 = .ok (.aload_n 2, 1) := by decide +kernel
theorem d_La_law_277 : decode c_La_law 277 = .ok (.aload_n 0, 1) := by decide +kernel
theorem d_La_law_278 : decode c_La_law 278 = .ok (.iload 4, 2) := by decide +kernel
theorem d_La_law_280 : decode c_La_law 280 = .ok (.iconst 1, 1) := by decide +kernel
theorem d_La_law_281 : decode c_La_law 281 = .ok (.iadd, 1) := by decide +kernel
theorem d_La_law_282 : decode c_La_law 282 = .ok (.iaload, 1) := by decide +kernel
theorem d_La_law_283 : decode c_La_law 283 = .ok (.aload_n 0, 1) := by decide +kernel
theorem d_La_law_284 : decode c_La_law 284 = .ok (.iload 4, 2) := by decide +kernel
theorem d_La_law_286 : decode c_La_law 286 = .ok (.iconst 2, 1) := by decide +kernel
theorem d_La_law_287 : decode c_La_law 287 = .ok (.iadd, 1) := by decide +kernel
theorem d_La_law_288 : decode c_La_law 288 = .ok (.iaload, 1) := by decide +kernel
theorem d_La_law_289 : decode c_La_law 289 = .ok (.aload_n 0, 1) := by decide +kernel
theorem d_La_law_290 : decode c_La_law 290 = .ok (.iload 4, 2) := by decide +kernel
theorem d_La_law_292 : decode c_La_law 292 = .ok (.iconst 3, 1) := by decide +kernel
theorem d_La_law_293 : decode c_La_law 293 = .ok (.iadd, 1) := by decide +kernel
theorem d_La_law_294 : decode c_La_law 294 = .ok (.iaload, 1) := by decide +kernel
theorem d_La_law_295 : decode c_La_law 295 = .ok (.invokevirtual 68, 3) := by decide +kernel
theorem d_La_law_298 : decode c_La_law 298 = .ok (.aload_n 2, 1) := by decide +kernel
theorem d_La_law_299 : decode c_La_law 299 = .ok (.invokevirtual 59, 3) := by decide +kernel
theorem d_La_law_302 : decode c_La_law 302 = .ok (.iload 5, 2) := by decide +kernel
theorem d_La_law_304 : decode c_La_law 304 = .ok (.if_icmp .eq 5, 3) := by decide +kernel
theorem d_La_law_307 : decode c_La_law 307 = .ok (.iconst 0, 1) := by decide +kernel
theorem d_La_law_308 : decode c_La_law 308 = .ok (.ireturn, 1) := by decide +kernel
theorem d_La_law_309 : decode c_La_law 309 = .ok (.goto 512, 3) := by decide +kernel
theorem d_La_law_312 : decode c_La_law 312 = .ok (.aload_n 1, 1) := by decide +kernel
theorem d_La_law_313 : decode c_La_law 313 = .ok (.aload_n 0, 1) := by decide +kernel
theorem d_La_law_314 : decode c_La_law 314 = .ok (.iload 4, 2) := by decide +kernel
theorem d_La_law_316 : decode c_La_law 316 = .ok (.iconst 1, 1) := by decide +kernel
theorem d_La_law_317 : decode c_La_law 317 = .ok (.iadd, 1) := by decide +kernel
theorem d_La_law_318 : decode c_La_law 318 = .ok (.iaload, 1) := by decide +kernel
theorem d_La_law_319 : decode c_La_law 319 = .ok (.aload_n 0, 1) := by decide +kernel
theorem d_La_law_320 : decode c_La_law 320 = .ok (.iload 4, 2) := by decide +kernel
theorem d_La_law_322 : decode c_La_law 322 = .ok (.iconst 2, 1) := by decide +kernel
theorem d_La_law_323 : decode c_La_law 323 = .ok (.iadd, 1) := by decide +kernel
theorem d_La_law_324 : decode c_La_law 324 = .ok (.iaload, 1) := by decide +kernel
theorem d_La_law_325 : decode c_La_law 325 = .ok (.aload_n 0, 1) := by decide +kernel
theorem d_La_law_326 : decode c_La_law 326 = .ok (.iload 4, 2) := by decide +kernel
theorem d_La_law_328 : decode c_La_law 328 = .ok (.iconst 3, 1) := by decide +kernel
theorem d_La_law_329 : decode c_La_law 329 = .ok (.iadd, 1) := by decide +kernel
theorem d_La_law_330 : decode c_La_law 330 = .ok (.iaload, 1) := by decide +kernel
theorem d_La_law_331 : decode c_La_law 331 = .ok (.invokestatic 69, 3) := by decide +kernel
theorem d_La_law_334 : decode c_La_law 334 = .ok (.istore 5, 2) := by decide +kernel
theorem d_La_law_336 : decode c_La_law 336 = .ok (.aload_n 2, 1) := by decide +kernel
theorem d_La_law_337 : decode c_La_law 337 = .ok (.aload_n 0, 1) := by decide +kernel
theorem d_La_law_338 : decode c_La_law 338 = .ok (.iload 4, 2) := by decide +kernel
theorem d_La_law_340 : decode c_La_law 340 = .ok (.iconst 1, 1) := by decide +kernel
theorem d_La_law_341 : decode c_La_law 341 = .ok (.iadd, 1) := by decide +kernel
theorem d_La_law_342 : decode c_La_law 342 = .ok (.iaload, 1) := by decide +kernel
theorem d_La_law_343 : decode c_La_law 343 = .ok (.aload_n 0, 1) := by decide +kernel
theorem d_La_law_344 : decode c_La_law 344 = .ok (.iload 4, 2) := by decide +kernel
theorem d_La_law_346 : decode c_La_law 346 = .ok (.iconst 2, 1) := by decide +kernel
theorem d_La_law_347 : decode c_La_law 347 = .ok (.iadd, 1) := by decide +kernel
theorem d_La_law_348 : decode c_La_law 348 = .ok (.iaload, 1) := by decide +kernel
theorem d_La_law_349 : decode c_La_law 349 = .ok (.aload_n 0, 1) := by decide +kernel
theorem d_La_law_350 : decode c_La_law 350 = .ok (.iload 4, 2) := by decide +kernel
theorem d_La_law_352 : decode c_La_law 352 = .ok (.iconst 3, 1) := by decide +kernel
theorem d_La_law_353 : decode c_La_law 353 = .ok (.iadd, 1) := by decide +kernel
theorem d_La_law_354 : decode c_La_law 354 = .ok (.iaload, 1) := by decide +kernel
theorem d_La_law_355 : decode c_La_law 355 = .ok (.invokevirtual 71, 3) := by decide +kernel
theorem d_La_law_358 : decode c_La_law 358 = .ok (.aload_n 2, 1) := by decide +kernel
theorem d_La_law_359 : decode c_La_law 359 = .ok (.invokevirtual 59, 3) := by decide +kernel
theorem d_La_law_362 : decode c_La_law 362 = .ok (.iload 5, 2) := by decide +kernel
theorem d_La_law_364 : decode c_La_law 364 = .ok (.if_icmp .eq 5, 3) := by decide +kernel
theorem d_La_law_367 : decode c_La_law 367 = .ok (.iconst 0, 1) := by decide +kernel
theorem d_La_law_368 : decode c_La_law 368 = .ok (.ireturn, 1) := by decide +kernel
theorem d_La_law_369 : decode c_La_law 369 = .ok (.goto 452, 3) := by decide +kernel
theorem d_La_law_372 : decode c_La_law 372 = .ok (.aload_n 1, 1) := by decide +kernel
theorem d_La_law_373 : decode c_La_law 373 = .ok (.aload_n 0, 1) := by decide +kernel
theorem d_La_law_374 : decode c_La_law 374 = .ok (.iload 4, 2) := by decide +kernel
theorem d_La_law_376 : decode c_La_law 376 = .ok (.iconst 1, 1) := by decide +kernel
theorem d_La_law_377 : decode c_La_law 377 = .ok (.iadd, 1) := by decide +kernel
theorem d_La_law_378 : decode c_La_law 378 = .ok (.iaload, 1) := by decide +kernel
theorem d_La_law_379 : decode c_La_law 379 = .ok (.aload_n 0, 1) := by decide +kernel
theorem d_La_law_380 : decode c_La_law 380 = .ok (.iload 4, 2) := by decide +kernel
theorem d_La_law_382 : decode c_La_law 382 = .ok (.iconst 2, 1) := by decide +kernel
theorem d_La_law_383 : decode c_La_law 383 = .ok (.iadd, 1) := by decide +kernel
theorem d_La_law_384 : decode c_La_law 384 = .ok (.iaload, 1) := by decide +kernel
theorem d_La_law_385 : decode c_La_law 385 = .ok (.invokestatic 72, 3) := by decide +kernel
theorem d_La_law_388 : decode c_La_law 388 = .ok (.istore 5, 2) := by decide +kernel
theorem d_La_law_390 : decode c_La_law 390 = .ok (.aload_n 2, 1) := by decide +kernel
theorem d_La_law_391 : decode c_La_law 391 = .ok (.aload_n 0, 1) := by decide +kernel
theorem d_La_law_392 : decode c_La_law 392 = .ok (.iload 4, 2) := by decide +kernel
theorem d_La_law_394 : decode c_La_law 394 = .ok (.iconst 1, 1) := by decide +kernel
theorem d_La_law_395 : decode c_La_law 395 = .ok (.iadd, 1) := by decide +kernel
theorem d_La_law_396 : decode c_La_law 396 = .ok (.iaload, 1) := by decide +kernel
theorem d_La_law_397 : decode c_La_law 397 = .ok (.aload_n 0, 1) := by decide +kernel
theorem d_La_law_398 : decode c_La_law 398 = .ok (.iload 4, 2) := by decide +kernel
theorem d_La_law_400 : decode c_La_law 400 = .ok (.iconst 2, 1) := by decide +kernel
theorem d_La_law_401 : decode c_La_law 401 = .ok (.iadd, 1) := by decide +kernel
theorem d_La_law_402 : decode c_La_law 402 = .ok (.iaload, 1) := by decide +kernel
theorem d_La_law_403 : decode c_La_law 403 = .ok (.invokevirtual 74, 3) := by decide +kernel
theorem d_La_law_406 : decode c_La_law 406 = .ok (.aload_n 2, 1) := by decide +kernel
theorem d_La_law_407 : decode c_La_law 407 = .ok (.invokevirtual 59, 3) := by decide +kernel
theorem d_La_law_410 : decode c_La_law 410 = .ok (.iload 5, 2) := by decide +kernel
theorem d_La_law_412 : decode c_La_law 412 = .ok (.if_icmp .eq 5, 3) := by decide +kernel
theorem d_La_law_415 : decode c_La_law 415 = .ok (.iconst 0, 1) := by decide +kernel
theorem d_La_law_416 : decode c_La_law 416 = .ok (.ireturn, 1) := by decide +kernel
theorem d_La_law_417 : decode c_La_law 417 = .ok (.goto 404, 3) := by decide +kernel
theorem d_La_law_420 : decode c_La_law 420 = .ok (.aload_n 1, 1) := by decide +kernel
theorem d_La_law_421 : decode c_La_law 421 = .ok (.aload_n 0, 1) := by decide +kernel
theorem d_La_law_422 : decode c_La_law 422 = .ok (.iload 4, 2) := by decide +kernel
theorem d_La_law_424 : decode c_La_law 424 = .ok (.iconst 1, 1) := by decide +kernel
theorem d_La_law_425 : decode c_La_law 425 = .ok (.iadd, 1) := by decide +kernel
theorem d_La_law_426 : decode c_La_law 426 = .ok (.iaload, 1) := by decide +kernel
theorem d_La_law_427 : decode c_La_law 427 = .ok (.aload_n 0, 1) := by decide +kernel
theorem d_La_law_428 : decode c_La_law 428 = .ok (.iload 4, 2) := by decide +kernel
theorem d_La_law_430 : decode c_La_law 430 = .ok (.iconst 2, 1) := by decide +kernel
theorem d_La_law_431 : decode c_La_law 431 = .ok (.iadd, 1) := by decide +kernel
theorem d_La_law_432 : decode c_La_law 432 = .ok (.iaload, 1) := by decide +kernel
theorem d_La_law_433 : decode c_La_law 433 = .ok (.invokestatic 75, 3) := by decide +kernel
theorem d_La_law_436 : decode c_La_law 436 = .ok (.istore 5, 2) := by decide +kernel
theorem d_La_law_438 : decode c_La_law 438 = .ok (.aload_n 2, 1) := by decide +kernel
theorem d_La_law_439 : decode c_La_law 439 = .ok (.aload_n 0, 1) := by decide +kernel
theorem d_La_law_440 : decode c_La_law 440 = .ok (.iload 4, 2) := by decide +kernel
theorem d_La_law_442 : decode c_La_law 442 = .ok (.iconst 1, 1) := by decide +kernel
theorem d_La_law_443 : decode c_La_law 443 = .ok (.iadd, 1) := by decide +kernel
theorem d_La_law_444 : decode c_La_law 444 = .ok (.iaload, 1) := by decide +kernel
theorem d_La_law_445 : decode c_La_law 445 = .ok (.aload_n 0, 1) := by decide +kernel
theorem d_La_law_446 : decode c_La_law 446 = .ok (.iload 4, 2) := by decide +kernel
theorem d_La_law_448 : decode c_La_law 448 = .ok (.iconst 2, 1) := by decide +kernel
theorem d_La_law_449 : decode c_La_law 449 = .ok (.iadd, 1) := by decide +kernel
theorem d_La_law_450 : decode c_La_law 450 = .ok (.iaload, 1) := by decide +kernel
theorem d_La_law_451 : decode c_La_law 451 = .ok (.invokevirtual 77, 3) := by decide +kernel
theorem d_La_law_454 : decode c_La_law 454 = .ok (.aload_n 2, 1) := by decide +kernel
theorem d_La_law_455 : decode c_La_law 455 = .ok (.invokevirtual 59, 3) := by decide +kernel
theorem d_La_law_458 : decode c_La_law 458 = .ok (.iload 5, 2) := by decide +kernel
theorem d_La_law_460 : decode c_La_law 460 = .ok (.if_icmp .eq 5, 3) := by decide +kernel
theorem d_La_law_463 : decode c_La_law 463 = .ok (.iconst 0, 1) := by decide +kernel
theorem d_La_law_464 : decode c_La_law 464 = .ok (.ireturn, 1) := by decide +kernel
theorem d_La_law_465 : decode c_La_law 465 = .ok (.goto 356, 3) := by decide +kernel
theorem d_La_law_468 : decode c_La_law 468 = .ok (.aload_n 1, 1) := by decide +kernel
theorem d_La_law_469 : decode c_La_law 469 = .ok (.aload_n 0, 1) := by decide +kernel
theorem d_La_law_470 : decode c_La_law 470 = .ok (.iload 4, 2) := by decide +kernel
theorem d_La_law_472 : decode c_La_law 472 = .ok (.iconst 1, 1) := by decide +kernel
theorem d_La_law_473 : decode c_La_law 473 = .ok (.iadd, 1) := by decide +kernel
theorem d_La_law_474 : decode c_La_law 474 = .ok (.iaload, 1) := by decide +kernel
theorem d_La_law_475 : decode c_La_law 475 = .ok (.invokestatic 78, 3) := by decide +kernel
theorem d_La_law_478 : decode c_La_law 478 = .ok (.istore 5, 2) := by decide +kernel
theorem d_La_law_480 : decode c_La_law 480 = .ok (.aload_n 2, 1) := by decide +kernel
theorem d_La_law_481 : decode c_La_law 481 = .ok (.aload_n 0, 1) := by decide +kernel
theorem d_La_law_482 : decode c_La_law 482 = .ok (.iload 4, 2) := by decide +kernel
theorem d_La_law_484 : decode c_La_law 484 = .ok (.iconst 1, 1) := by decide +kernel
theorem d_La_law_485 : decode c_La_law 485 = .ok (.iadd, 1) := by decide +kernel
theorem d_La_law_486 : decode c_La_law 486 = .ok (.iaload, 1) := by decide +kernel
theorem d_La_law_487 : decode c_La_law 487 = .ok (.invokevirtual 81, 3) := by decide +kernel
theorem d_La_law_490 : decode c_La_law 490 = .ok (.aload_n 2, 1) := by decide +kernel
theorem d_La_law_491 : decode c_La_law 491 = .ok (.invokevirtual 59, 3) := by decide +kernel
theorem d_La_law_494 : decode c_La_law 494 = .ok (.iload 5, 2) := by decide +kernel
theorem d_La_law_496 : decode c_La_law 496 = .ok (.if_icmp .eq 5, 3) := by decide +kernel
theorem d_La_law_499 : decode c_La_law 499 = .ok (.iconst 0, 1) := by decide +kernel
theorem d_La_law_500 : decode c_La_law 500 = .ok (.ireturn, 1) := by decide +kernel
theorem d_La_law_501 : decode c_La_law 501 = .ok (.goto 320, 3) := by decide +kernel
theorem d_La_law_504 : decode c_La_law 504 = .ok (.aload_n 1, 1) := by decide +kernel
theorem d_La_law_505 : decode c_La_law 505 = .ok (.aload_n 0, 1) := by decide +kernel
theorem d_La_law_506 : decode c_La_law 506 = .ok (.iload 4, 2) := by decide +kernel
theorem d_La_law_508 : decode c_La_law 508 = .ok (.iconst 1, 1) := by decide +kernel
theorem d_La_law_509 : decode c_La_law 509 = .ok (.iadd, 1) := by decide +kernel
theorem d_La_law_510 : decode c_La_law 510 = .ok (.iaload, 1) := by decide +kernel
theorem d_La_law_511 : decode c_La_law 511 = .ok (.aload_n 0, 1) := by decide +kernel
theorem d_La_law_512 : decode c_La_law 512 = .ok (.iload 4, 2) := by decide +kernel
theorem d_La_law_514 : decode c_La_law 514 = .ok (.iconst 2, 1) := by decide +kernel
theorem d_La_law_515 : decode c_La_law 515 = .ok (.iadd, 1) := by decide +kernel
theorem d_La_law_516 : decode c_La_law 516 = .ok (.iaload, 1) := by decide +kernel
theorem d_La_law_517 : decode c_La_law 517 = .ok (.invokestatic 82, 3) := by decide +kernel
theorem d_La_law_520 : decode c_La_law 520 = .ok (.istore 5, 2) := by decide +kernel
theorem d_La_law_522 : decode c_La_law 522 = .ok (.aload_n 2, 1) := by decide +kernel
theorem d_La_law_523 : decode c_La_law 523 = .ok (.aload_n 0, 1) := by decide +kernel
theorem d_La_law_524 : decode c_La_law 524 = .ok (.iload 4, 2) := by decide +kernel
theorem d_La_law_526 : decode c_La_law 526 = .ok (.iconst 1, 1) := by decide +kernel
theorem d_La_law_527 : decode c_La_law 527 = .ok (.iadd, 1) := by decide +kernel
theorem d_La_law_528 : decode c_La_law 528 = .ok (.iaload, 1) := by decide +kernel
theorem d_La_law_529 : decode c_La_law 529 = .ok (.aload_n 0, 1) := by decide +kernel
theorem d_La_law_530 : decode c_La_law 530 = .ok (.iload 4, 2) := by decide +kernel
theorem d_La_law_532 : decode c_La_law 532 = .ok (.iconst 2, 1) := by decide +kernel
theorem d_La_law_533 : decode c_La_law 533 = .ok (.iadd, 1) := by decide +kernel
theorem d_La_law_534 : decode c_La_law 534 = .ok (.iaload, 1) := by decide +kernel
theorem d_La_law_535 : decode c_La_law 535 = .ok (.invokevirtual 84, 3) := by decide +kernel
theorem d_La_law_538 : decode c_La_law 538 = .ok (.aload_n 2, 1) := by decide +kernel
theorem d_La_law_539 : decode c_La_law 539 = .ok (.invokevirtual 59, 3) := by decide +kernel
theorem d_La_law_542 : decode c_La_law 542 = .ok (.iload 5, 2) := by decide +kernel
theorem d_La_law_544 : decode c_La_law 544 = .ok (.if_icmp .eq 5, 3) := by decide +kernel
theorem d_La_law_547 : decode c_La_law 547 = .ok (.iconst 0, 1) := by decide +kernel
theorem d_La_law_548 : decode c_La_law 548 = .ok (.ireturn, 1) := by decide +kernel
theorem d_La_law_549 : decode c_La_law 549 = .ok (.goto 272, 3) := by decide +kernel
theorem d_La_law_552 : decode c_La_law 552 = .ok (.aload_n 1, 1) := by decide +kernel
theorem d_La_law_553 : decode c_La_law 553 = .ok (.aload_n 0, 1) := by decide +kernel
theorem d_La_law_554 : decode c_La_law 554 = .ok (.iload 4, 2) := by decide +kernel
theorem d_La_law_556 : decode c_La_law 556 = .ok (.iconst 1, 1) := by decide +kernel
theorem d_La_law_557 : decode c_La_law 557 = .ok (.iadd, 1) := by decide +kernel
theorem d_La_law_558 : decode c_La_law 558 = .ok (.iaload, 1) := by decide +kernel
theorem d_La_law_559 : decode c_La_law 559 = .ok (.invokevirtual 85, 3) := by decide +kernel
theorem d_La_law_562 : decode c_La_law 562 = .ok (.aload_n 2, 1) := by decide +kernel
theorem d_La_law_563 : decode c_La_law 563 = .ok (.aload_n 0, 1) := by decide +kernel
theorem d_La_law_564 : decode c_La_law 564 = .ok (.iload 4, 2) := by decide +kernel
theorem d_La_law_566 : decode c_La_law 566 = .ok (.iconst 1, 1) := by decide +kernel
theorem d_La_law_567 : decode c_La_law 567 = .ok (.iadd, 1) := by decide +kernel
theorem d_La_law_568 : decode c_La_law 568 = .ok (.iaload, 1) := by decide +kernel
theorem d_La_law_569 : decode c_La_law 569 = .ok (.invokevirtual 89, 3) := by decide +kernel
theorem d_La_law_572 : decode c_La_law 572 = .ok (.if_icmp .eq 249, 3) := by decide +kernel
theorem d_La_law_575 : decode c_La_law 575 = .ok (.iconst 0, 1) := by decide +kernel
theorem d_La_law_576 : decode c_La_law 576 = .ok (.ireturn, 1) := by decide +kernel
theorem d_La_law_577 : decode c_La_law 577 = .ok (.aload_n 1, 1) := by decide +kernel
theorem d_La_law_578 : decode c_La_law 578 = .ok (.aload_n 0, 1) := by decide +kernel
theorem d_La_law_579 : decode c_La_law 579 = .ok (.iload 4, 2) := by decide +kernel
theorem d_La_law_581 : decode c_La_law 581 = .ok (.iconst 1, 1) := by decide +kernel
theorem d_La_law_582 : decode c_La_law 582 = .ok (.iadd, 1) := by decide +kernel
theorem d_La_law_583 : decode c_La_law 583 = .ok (.iaload, 1) := by decide +kernel
theorem d_La_law_584 : decode c_La_law 584 = .ok (.invokevirtual 90, 3) := by decide +kernel
theorem d_La_law_587 : decode c_La_law 587 = .ok (.aload_n 2, 1) := by decide +kernel
theorem d_La_law_588 : decode c_La_law 588 = .ok (.aload_n 0, 1) := by decide +kernel
theorem d_La_law_589 : decode c_La_law 589 = .ok (.iload 4, 2) := by decide +kernel
theorem d_La_law_591 : decode c_La_law 591 = .ok (.iconst 1, 1) := by decide +kernel
theorem d_La_law_592 : decode c_La_law 592 = .ok (.iadd, 1) := by decide +kernel
theorem d_La_law_593 : decode c_La_law 593 = .ok (.iaload, 1) := by decide +kernel
theorem d_La_law_594 : decode c_La_law 594 = .ok (.invokevirtual 93, 3) := by decide +kernel
theorem d_La_law_597 : decode c_La_law 597 = .ok (.if_icmp .eq 224, 3) := by decide +kernel
theorem d_La_law_600 : decode c_La_law 600 = .ok (.iconst 0, 1) := by decide +kernel
theorem d_La_law_601 : decode c_La_law 601 = .ok (.ireturn, 1) := by decide +kernel
theorem d_La_law_602 : decode c_La_law 602 = .ok (.aload_n 1, 1) := by decide +kernel
theorem d_La_law_603 : decode c_La_law 603 = .ok (.aload_n 0, 1) := by decide +kernel
theorem d_La_law_604 : decode c_La_law 604 = .ok (.iload 4, 2) := by decide +kernel
theorem d_La_law_606 : decode c_La_law 606 = .ok (.iconst 1, 1) := by decide +kernel
theorem d_La_law_607 : decode c_La_law 607 = .ok (.iadd, 1) := by decide +kernel
theorem d_La_law_608 : decode c_La_law 608 = .ok (.iaload, 1) := by decide +kernel
theorem d_La_law_609 : decode c_La_law 609 = .ok (.invokevirtual 94, 3) := by decide +kernel
theorem d_La_law_612 : decode c_La_law 612 = .ok (.aload_n 2, 1) := by decide +kernel
theorem d_La_law_613 : decode c_La_law 613 = .ok (.aload_n 0, 1) := by decide +kernel
theorem d_La_law_614 : decode c_La_law 614 = .ok (.iload 4, 2) := by decide +kernel
theorem d_La_law_616 : decode c_La_law 616 = .ok (.iconst 1, 1) := by decide +kernel
theorem d_La_law_617 : decode c_La_law 617 = .ok (.iadd, 1) := by decide +kernel
theorem d_La_law_618 : decode c_La_law 618 = .ok (.iaload, 1) := by decide +kernel
theorem d_La_law_619 : decode c_La_law 619 = .ok (.invokevirtual 97, 3) := by decide +kernel
theorem d_La_law_622 : decode c_La_law 622 = .ok (.if_icmp .eq 199, 3) := by decide +kernel
theorem d_La_law_625 : decode c_La_law 625 = .ok (.iconst 0, 1) := by decide +kernel
theorem d_La_law_626 : decode c_La_law 626 = .ok (.ireturn, 1) := by decide +kernel
theorem d_La_law_627 : decode c_La_law 627 = .ok (.aload_n 1, 1) := by decide +kernel
theorem d_La_law_628 : decode c_La_law 628 = .ok (.aload_n 0, 1) := by decide +kernel
theorem d_La_law_629 : decode c_La_law 629 = .ok (.iload 4, 2) := by decide +kernel
theorem d_La_law_631 : decode c_La_law 631 = .ok (.iconst 1, 1) := by decide +kernel
theorem d_La_law_632 : decode c_La_law 632 = .ok (.iadd, 1) := by decide +kernel
theorem d_La_law_633 : decode c_La_law 633 = .ok (.iaload, 1) := by decide +kernel
theorem d_La_law_634 : decode c_La_law 634 = .ok (.aload_n 0, 1) := by decide +kernel
theorem d_La_law_635 : decode c_La_law 635 = .ok (.iload 4, 2) := by decide +kernel
theorem d_La_law_637 : decode c_La_law 637 = .ok (.iconst 2, 1) := by decide +kernel
theorem d_La_law_638 : decode c_La_law 638 = .ok (.iadd, 1) := by decide +kernel
theorem d_La_law_639 : decode c_La_law 639 = .ok (.iaload, 1) := by decide +kernel
theorem d_La_law_640 : decode c_La_law 640 = .ok (.invokevirtual 98, 3) := by decide +kernel
theorem d_La_law_643 : decode c_La_law 643 = .ok (.aload_n 2, 1) := by decide +kernel
theorem d_La_law_644 : decode c_La_law 644 = .ok (.aload_n 0, 1) := by decide +kernel
theorem d_La_law_645 : decode c_La_law 645 = .ok (.iload 4, 2) := by decide +kernel
theorem d_La_law_647 : decode c_La_law 647 = .ok (.iconst 1, 1) := by decide +kernel
theorem d_La_law_648 : decode c_La_law 648 = .ok (.iadd, 1) := by decide +kernel
theorem d_La_law_649 : decode c_La_law 649 = .ok (.iaload, 1) := by decide +kernel
theorem d_La_law_650 : decode c_La_law 650 = .ok (.aload_n 0, 1) := by decide +kernel
theorem d_La_law_651 : decode c_La_law 651 = .ok (.iload 4, 2) := by decide +kernel
theorem d_La_law_653 : decode c_La_law 653 = .ok (.iconst 2, 1) := by decide +kernel
theorem d_La_law_654 : decode c_La_law 654 = .ok (.iadd, 1) := by decide +kernel
theorem d_La_law_655 : decode c_La_law 655 = .ok (.iaload, 1) := by decide +kernel
theorem d_La_law_656 : decode c_La_law 656 = .ok (.invokevirtual 102, 3) := by decide +kernel
theorem d_La_law_659 : decode c_La_law 659 = .ok (.if_icmp .eq 162, 3) := by decide +kernel
theorem d_La_law_662 : decode c_La_law 662 = .ok (.iconst 0, 1) := by decide +kernel
theorem d_La_law_663 : decode c_La_law 663 = .ok (.ireturn, 1) := by decide +kernel
theorem d_La_law_664 : decode c_La_law 664 = .ok (.aload_n 1, 1) := by decide +kernel
theorem d_La_law_665 : decode c_La_law 665 = .ok (.aload_n 0, 1) := by decide +kernel
theorem d_La_law_666 : decode c_La_law 666 = .ok (.iload 4, 2) := by decide +kernel
theorem d_La_law_668 : decode c_La_law 668 = .ok (.iconst 1, 1) := by decide +kernel
theorem d_La_law_669 : decode c_La_law 669 = .ok (.iadd, 1) := by decide +kernel
theorem d_La_law_670 : decode c_La_law 670 = .ok (.iaload, 1) := by decide +kernel
theorem d_La_law_671 : decode c_La_law 671 = .ok (.invokevirtual 103, 3) := by decide +kernel
theorem d_La_law_674 : decode c_La_law 674 = .ok (.aload_n 2, 1) := by decide +kernel
theorem d_La_law_675 : decode c_La_law 675 = .ok (.aload_n 0, 1) := by decide +kernel
theorem d_La_law_676 : decode c_La_law 676 = .ok (.iload 4, 2) := by decide +kernel
theorem d_La_law_678 : decode c_La_law 678 = .ok (.iconst 1, 1) := by decide +kernel
theorem d_La_law_679 : decode c_La_law 679 = .ok (.iadd, 1) := by decide +kernel
theorem d_La_law_680 : decode c_La_law 680 = .ok (.iaload, 1) := by decide +kernel
theorem d_La_law_681 : decode c_La_law 681 = .ok (.invokevirtual 106, 3) := by decide +kernel
theorem d_La_law_684 : decode c_La_law 684 = .ok (.if_icmp .eq 137, 3) := by decide +kernel
theorem d_La_law_687 : decode c_La_law 687 = .ok (.iconst 0, 1) := by decide +kernel
theorem d_La_law_688 : decode c_La_law 688 = .ok (.ireturn, 1) := by decide +kernel
theorem d_La_law_689 : decode c_La_law 689 = .ok (.aload_n 1, 1) := by decide +kernel
theorem d_La_law_690 : decode c_La_law 690 = .ok (.aload_n 0, 1) := by decide +kernel
theorem d_La_law_691 : decode c_La_law 691 = .ok (.iload 4, 2) := by decide +kernel
theorem d_La_law_693 : decode c_La_law 693 = .ok (.iconst 1, 1) := by decide +kernel
theorem d_La_law_694 : decode c_La_law 694 = .ok (.iadd, 1) := by decide +kernel
theorem d_La_law_695 : decode c_La_law 695 = .ok (.iaload, 1) := by decide +kernel
theorem d_La_law_696 : decode c_La_law 696 = .ok (.invokevirtual 107, 3) := by decide +kernel
theorem d_La_law_699 : decode c_La_law 699 = .ok (.aload_n 2, 1) := by decide +kernel
theorem d_La_law_700 : decode c_La_law 700 = .ok (.aload_n 0, 1) := by decide +kernel
theorem d_La_law_701 : decode c_La_law 701 = .ok (.iload 4, 2) := by decide +kernel
theorem d_La_law_703 : decode c_La_law 703 = .ok (.iconst 1, 1) := by decide +kernel
theorem d_La_law_704 : decode c_La_law 704 = .ok (.iadd, 1) := by decide +kernel
theorem d_La_law_705 : decode c_La_law 705 = .ok (.iaload, 1) := by decide +kernel
theorem d_La_law_706 : decode c_La_law 706 = .ok (.invokevirtual 110, 3) := by decide +kernel
theorem d_La_law_709 : decode c_La_law 709 = .ok (.if_icmp .eq 112, 3) := by decide +kernel
theorem d_La_law_712 : decode c_La_law 712 = .ok (.iconst 0, 1) := by decide +kernel
theorem d_La_law_713 : decode c_La_law 713 = .ok (.ireturn, 1) := by decide +kernel
theorem d_La_law_714 : decode c_La_law 714 = .ok (.aload_n 1, 1) := by decide +kernel
theorem d_La_law_715 : decode c_La_law 715 = .ok (.aload_n 3, 1) := by decide +kernel
theorem d_La_law_716 : decode c_La_law 716 = .ok (.invokestatic 111, 3) := by decide +kernel
theorem d_La_law_719 : decode c_La_law 719 = .ok (.istore 5, 2) := by decide +kernel
theorem d_La_law_721 : decode c_La_law 721 = .ok (.aload_n 2, 1) := by decide +kernel
theorem d_La_law_722 : decode c_La_law 722 = .ok (.invokevirtual 114, 3) := by decide +kernel
theorem d_La_law_725 : decode c_La_law 725 = .ok (.istore 6, 2) := by decide +kernel
theorem d_La_law_727 : decode c_La_law 727 = .ok (.aload_n 2, 1) := by decide +kernel
theorem d_La_law_728 : decode c_La_law 728 = .ok (.invokevirtual 59, 3) := by decide +kernel
theorem d_La_law_731 : decode c_La_law 731 = .ok (.iload 5, 2) := by decide +kernel
theorem d_La_law_733 : decode c_La_law 733 = .ok (.if_icmp .eq 5, 3) := by decide +kernel
theorem d_La_law_736 : decode c_La_law 736 = .ok (.iconst 0, 1) := by decide +kernel
theorem d_La_law_737 : decode c_La_law 737 = .ok (.ireturn, 1) := by decide +kernel
theorem d_La_law_738 : decode c_La_law 738 = .ok (.iload 5, 2) := by decide +kernel
theorem d_La_law_740 : decode c_La_law 740 = .ok (.ifCond .ne 15, 3) := by decide +kernel
theorem d_La_law_743 : decode c_La_law 743 = .ok (.aload_n 3, 1) := by decide +kernel
theorem d_La_law_744 : decode c_La_law 744 = .ok (.iconst 0, 1) := by decide +kernel
theorem d_La_law_745 : decode c_La_law 745 = .ok (.laload, 1) := by decide +kernel
theorem d_La_law_746 : decode c_La_law 746 = .ok (.iload 6, 2) := by decide +kernel
theorem d_La_law_748 : decode c_La_law 748 = .ok (.i2l, 1) := by decide +kernel
theorem d_La_law_749 : decode c_La_law 749 = .ok (.lcmp, 1) := by decide +kernel
theorem d_La_law_750 : decode c_La_law 750 = .ok (.ifCond .eq 5, 3) := by decide +kernel
theorem d_La_law_753 : decode c_La_law 753 = .ok (.iconst 0, 1) := by decide +kernel
theorem d_La_law_754 : decode c_La_law 754 = .ok (.ireturn, 1) := by decide +kernel
theorem d_La_law_755 : decode c_La_law 755 = .ok (.goto 66, 3) := by decide +kernel
theorem d_La_law_758 : decode c_La_law 758 = .ok (.aload_n 1, 1) := by decide +kernel
theorem d_La_law_759 : decode c_La_law 759 = .ok (.invokevirtual 115, 3) := by decide +kernel
theorem d_La_law_762 : decode c_La_law 762 = .ok (.aload_n 2, 1) := by decide +kernel
theorem d_La_law_763 : decode c_La_law 763 = .ok (.invokevirtual 118, 3) := by decide +kernel
theorem d_La_law_766 : decode c_La_law 766 = .ok (.if_icmp .eq 55, 3) := by decide +kernel
theorem d_La_law_769 : decode c_La_law 769 = .ok (.iconst 0, 1) := by decide +kernel
theorem d_La_law_770 : decode c_La_law 770 = .ok (.ireturn, 1) := by decide +kernel
theorem d_La_law_771 : decode c_La_law 771 = .ok (.aload_n 1, 1) := by decide +kernel
theorem d_La_law_772 : decode c_La_law 772 = .ok (.aload_n 0, 1) := by decide +kernel
theorem d_La_law_773 : decode c_La_law 773 = .ok (.iload 4, 2) := by decide +kernel
theorem d_La_law_775 : decode c_La_law 775 = .ok (.iconst 1, 1) := by decide +kernel
theorem d_La_law_776 : decode c_La_law 776 = .ok (.iadd, 1) := by decide +kernel
theorem d_La_law_777 : decode c_La_law 777 = .ok (.iaload, 1) := by decide +kernel
theorem d_La_law_778 : decode c_La_law 778 = .ok (.invokevirtual 119, 3) := by decide +kernel
theorem d_La_law_781 : decode c_La_law 781 = .ok (.aload_n 2, 1) := by decide +kernel
theorem d_La_law_782 : decode c_La_law 782 = .ok (.aload_n 0, 1) := by decide +kernel
theorem d_La_law_783 : decode c_La_law 783 = .ok (.iload 4, 2) := by decide +kernel
theorem d_La_law_785 : decode c_La_law 785 = .ok (.iconst 1, 1) := by decide +kernel
theorem d_La_law_786 : decode c_La_law 786 = .ok (.iadd, 1) := by decide +kernel
theorem d_La_law_787 : decode c_La_law 787 = .ok (.iaload, 1) := by decide +kernel
theorem d_La_law_788 : decode c_La_law 788 = .ok (.invokevirtual 122, 3) := by decide +kernel
theorem d_La_law_791 : decode c_La_law 791 = .ok (.if_icmp .eq 30, 3) := by decide +kernel
theorem d_La_law_794 : decode c_La_law 794 = .ok (.iconst 0, 1) := by decide +kernel
theorem d_La_law_795 : decode c_La_law 795 = .ok (.ireturn, 1) := by decide +kernel
theorem d_La_law_796 : decode c_La_law 796 = .ok (.aload_n 1, 1) := by decide +kernel
theorem d_La_law_797 : decode c_La_law 797 = .ok (.aload_n 0, 1) := by decide +kernel
theorem d_La_law_798 : decode c_La_law 798 = .ok (.iload 4, 2) := by decide +kernel
theorem d_La_law_800 : decode c_La_law 800 = .ok (.iconst 1, 1) := by decide +kernel
theorem d_La_law_801 : decode c_La_law 801 = .ok (.iadd, 1) := by decide +kernel
theorem d_La_law_802 : decode c_La_law 802 = .ok (.iaload, 1) := by decide +kernel
theorem d_La_law_803 : decode c_La_law 803 = .ok (.invokevirtual 123, 3) := by decide +kernel
theorem d_La_law_806 : decode c_La_law 806 = .ok (.aload_n 2, 1) := by decide +kernel
theorem d_La_law_807 : decode c_La_law 807 = .ok (.aload_n 0, 1) := by decide +kernel
theorem d_La_law_808 : decode c_La_law 808 = .ok (.iload 4, 2) := by decide +kernel
theorem d_La_law_810 : decode c_La_law 810 = .ok (.iconst 1, 1) := by decide +kernel
theorem d_La_law_811 : decode c_La_law 811 = .ok (.iadd, 1) := by decide +kernel
theorem d_La_law_812 : decode c_La_law 812 = .ok (.iaload, 1) := by decide +kernel
theorem d_La_law_813 : decode c_La_law 813 = .ok (.invokevirtual 126, 3) := by decide +kernel
theorem d_La_law_816 : decode c_La_law 816 = .ok (.if_icmp .eq 5, 3) := by decide +kernel
theorem d_La_law_819 : decode c_La_law 819 = .ok (.iconst 0, 1) := by decide +kernel
theorem d_La_law_820 : decode c_La_law 820 = .ok (.ireturn, 1) := by decide +kernel
theorem d_La_law_821 : decode c_La_law 821 = .ok (.iinc 4 4, 3) := by decide +kernel
theorem d_La_law_824 : decode c_La_law 824 = .ok (.goto (-771), 3) := by decide +kernel
theorem d_La_law_827 : decode c_La_law 827 = .ok (.iconst 1, 1) := by decide +kernel
theorem d_La_law_828 : decode c_La_law 828 = .ok (.ireturn, 1) := by decide +kernel
end
section
theorem nd_La_8 : ND "TwoGenerationsLaw" 8 0 := ⟨_, _, _, ty_TG, rfl, rfl, uw_TG, tyok_TG, (fun k hk => by rcases (by omega : k = 0 ∨ k = 1 ∨ k = 2 ∨ k = 3 ∨ k = 4 ∨ k = 5) with rfl | rfl | rfl | rfl | rfl | rfl <;> rfl), m_42, m_43, m_28⟩
theorem lk_La_50 : LK "TwoGenerationsLaw" 50 y_TG_init := m_44
theorem lk_TG_7 : LK "TwoGenerations" 7 y_TG_within := m_50
theorem nq_TG_13 : NQ "TwoGenerations" 13 3 := ⟨by decide, rfl, _, rfl, m_53, m_54⟩
theorem iy_TG_13_3 : IY "TwoGenerations" 13 3 := ⟨_, _, rfl, m_53, Or.inl m_671⟩
theorem iy_TG_13_4 : IY "TwoGenerations" 13 4 := ⟨_, _, rfl, m_53, Or.inl m_672⟩
theorem iy_TG_13_5 : IY "TwoGenerations" 13 5 := ⟨_, _, rfl, m_53, Or.inl m_673⟩
theorem nd_TG_19 : ND "TwoGenerations" 19 1 := ⟨_, _, _, ty_Gen, rfl, rfl, uw_Gen, tyok_Gen, (fun k hk => by rcases (by omega : k = 0 ∨ k = 1 ∨ k = 2 ∨ k = 3) with rfl | rfl | rfl | rfl <;> rfl), m_55, m_56, m_29⟩
theorem lk_TG_21 : LK "TwoGenerations" 21 y_Gen_init := m_57
theorem nq_Gen_13 : NQ "TwoGenerations$Generation" 13 4 := ⟨by decide, rfl, _, rfl, m_61, m_62⟩
theorem iy_Gen_13_3 : IY "TwoGenerations$Generation" 13 3 := ⟨_, _, rfl, m_61, Or.inl m_668⟩
theorem iy_Gen_13_4 : IY "TwoGenerations$Generation" 13 4 := ⟨_, _, rfl, m_61, Or.inl m_669⟩
theorem in_Gen_13_5 : IN "TwoGenerations$Generation" 13 5 := ⟨_, _, rfl, m_61, by decide⟩
theorem fa_Gen_7_1 : FA "TwoGenerations$Generation" 7 1 0 := ⟨_, _, _, rfl, rfl, by decide, uw_Gen, Or.inl m_63⟩
theorem ff_Gen_7_1 : FF "TwoGenerations$Generation" 7 1 0 (.int) := ⟨_, _, _, ty_Gen, rfl, rfl, by decide, uw_Gen, tyok_Gen, nms_Gen, by decide +kernel, m_63, rfl, rfl⟩
theorem fa_TG_33_1 : FA "TwoGenerations" 33 1 0 := ⟨_, _, _, rfl, rfl, by decide, uw_Gen, Or.inl m_64⟩
theorem fa_Gen_15_1 : FA "TwoGenerations$Generation" 15 1 1 := ⟨_, _, _, rfl, rfl, by decide, uw_Gen, Or.inl m_65⟩
theorem ff_Gen_15_1 : FF "TwoGenerations$Generation" 15 1 1 (.array (.object "TwoGenerations$Thing")) := ⟨_, _, _, ty_Gen, rfl, rfl, by decide, uw_Gen, tyok_Gen, nms_Gen, by decide +kernel, m_65, rfl, rfl⟩
theorem fa_Tr_32_1 : FA "TwoGenerations$Trace" 32 1 1 := ⟨_, _, _, rfl, rfl, by decide, uw_Gen, Or.inl m_66⟩
theorem fa_Gen_22_1 : FA "TwoGenerations$Generation" 22 1 2 := ⟨_, _, _, rfl, rfl, by decide, uw_Gen, Or.inl m_67⟩
theorem fp_Gen_22_1 : FP "TwoGenerations$Generation" 22 1 2 (.int) := ⟨_, _, _, ty_Gen, rfl, rfl, by decide, uw_Gen, tyok_Gen, nms_Gen, by decide +kernel, Or.inl ⟨m_67, rfl⟩⟩
theorem fa_Tr_29_1 : FA "TwoGenerations$Trace" 29 1 2 := ⟨_, _, _, rfl, rfl, by decide, uw_Gen, Or.inl m_68⟩
theorem fp_Tr_29_1 : FP "TwoGenerations$Trace" 29 1 2 (.int) := ⟨_, _, _, ty_Gen, rfl, rfl, by decide, uw_Gen, tyok_Gen, nms_Gen, by decide +kernel, Or.inl ⟨m_68, rfl⟩⟩
theorem fa_Gen_19_1 : FA "TwoGenerations$Generation" 19 1 3 := ⟨_, _, _, rfl, rfl, by decide, uw_Gen, Or.inl m_69⟩
theorem fp_Gen_19_1 : FP "TwoGenerations$Generation" 19 1 3 (.int) := ⟨_, _, _, ty_Gen, rfl, rfl, by decide, uw_Gen, tyok_Gen, nms_Gen, by decide +kernel, Or.inl ⟨m_69, rfl⟩⟩
theorem fa_TG_140_1 : FA "TwoGenerations" 140 1 3 := ⟨_, _, _, rfl, rfl, by decide, uw_Gen, Or.inl m_70⟩
theorem fp_TG_140_1 : FP "TwoGenerations" 140 1 3 (.int) := ⟨_, _, _, ty_Gen, rfl, rfl, by decide, uw_Gen, tyok_Gen, nms_Gen, by decide +kernel, Or.inl ⟨m_70, rfl⟩⟩
theorem nd_TG_31 : ND "TwoGenerations" 31 2 := ⟨_, _, _, ty_Tr, rfl, rfl, uw_Tr, tyok_Tr, (fun k hk => by rcases (by omega : k = 0 ∨ k = 1 ∨ k = 2) with rfl | rfl | rfl <;> rfl), m_80, m_81, m_30⟩
theorem lk_TG_37 : LK "TwoGenerations" 37 y_Tr_init := m_82
theorem nq_Tr_7 : NQ "TwoGenerations$Trace" 7 4 := ⟨by decide, rfl, _, rfl, m_86, m_62⟩
theorem iy_Tr_7_3 : IY "TwoGenerations$Trace" 7 3 := ⟨_, _, rfl, m_86, Or.inl m_668⟩
theorem iy_Tr_7_4 : IY "TwoGenerations$Trace" 7 4 := ⟨_, _, rfl, m_86, Or.inl m_669⟩
theorem in_Tr_7_5 : IN "TwoGenerations$Trace" 7 5 := ⟨_, _, rfl, m_86, by decide⟩
theorem fa_Tr_9_2 : FA "TwoGenerations$Trace" 9 2 0 := ⟨_, _, _, rfl, rfl, by decide, uw_Tr, Or.inl m_87⟩
theorem ff_Tr_9_2 : FF "TwoGenerations$Trace" 9 2 0 (.array (.object "TwoGenerations$Thing")) := ⟨_, _, _, ty_Tr, rfl, rfl, by decide, uw_Tr, tyok_Tr, nms_Tr, by decide +kernel, m_87, rfl, rfl⟩
theorem fa_Tr_15_2 : FA "TwoGenerations$Trace" 15 2 1 := ⟨_, _, _, rfl, rfl, by decide, uw_Tr, Or.inl m_88⟩
theorem fp_Tr_15_2 : FP "TwoGenerations$Trace" 15 2 1 (.int) := ⟨_, _, _, ty_Tr, rfl, rfl, by decide, uw_Tr, tyok_Tr, nms_Tr, by decide +kernel, Or.inl ⟨m_88, rfl⟩⟩
theorem fa_Tr_23_2 : FA "TwoGenerations$Trace" 23 2 2 := ⟨_, _, _, rfl, rfl, by decide, uw_Tr, Or.inl m_89⟩
theorem fp_Tr_23_2 : FP "TwoGenerations$Trace" 23 2 2 (.int) := ⟨_, _, _, ty_Tr, rfl, rfl, by decide, uw_Tr, tyok_Tr, nms_Tr, by decide +kernel, Or.inl ⟨m_89, rfl⟩⟩
theorem fa_TG_125_2 : FA "TwoGenerations" 125 2 2 := ⟨_, _, _, rfl, rfl, by decide, uw_Tr, Or.inl m_90⟩
theorem fp_TG_125_2 : FP "TwoGenerations" 125 2 2 (.int) := ⟨_, _, _, ty_Tr, rfl, rfl, by decide, uw_Tr, tyok_Tr, nms_Tr, by decide +kernel, Or.inl ⟨m_90, rfl⟩⟩
theorem fa_TG_15_0 : FA "TwoGenerations" 15 0 0 := ⟨_, _, _, rfl, rfl, by decide, uw_TG, Or.inl m_98⟩
theorem ff_TG_15_0 : FF "TwoGenerations" 15 0 0 (.array (.object "TwoGenerations$Value")) := ⟨_, _, _, ty_TG, rfl, rfl, by decide, uw_TG, tyok_TG, nms_TG, by decide +kernel, m_98, rfl, rfl⟩
theorem fa_TG_24_0 : FA "TwoGenerations" 24 0 1 := ⟨_, _, _, rfl, rfl, by decide, uw_TG, Or.inl m_99⟩
theorem ff_TG_24_0 : FF "TwoGenerations" 24 0 1 (.object "TwoGenerations$Generation") := ⟨_, _, _, ty_TG, rfl, rfl, by decide, uw_TG, tyok_TG, nms_TG, by decide +kernel, m_99, rfl, rfl⟩
theorem fa_TG_28_0 : FA "TwoGenerations" 28 0 2 := ⟨_, _, _, rfl, rfl, by decide, uw_TG, Or.inl m_100⟩
theorem ff_TG_28_0 : FF "TwoGenerations" 28 0 2 (.object "TwoGenerations$Generation") := ⟨_, _, _, ty_TG, rfl, rfl, by decide, uw_TG, tyok_TG, nms_TG, by decide +kernel, m_100, rfl, rfl⟩
theorem fa_TG_38_0 : FA "TwoGenerations" 38 0 3 := ⟨_, _, _, rfl, rfl, by decide, uw_TG, Or.inl m_101⟩
theorem ff_TG_38_0 : FF "TwoGenerations" 38 0 3 (.object "TwoGenerations$Trace") := ⟨_, _, _, ty_TG, rfl, rfl, by decide, uw_TG, tyok_TG, nms_TG, by decide +kernel, m_101, rfl, rfl⟩
theorem fa_TG_143_0 : FA "TwoGenerations" 143 0 4 := ⟨_, _, _, rfl, rfl, by decide, uw_TG, Or.inl m_102⟩
theorem fp_TG_143_0 : FP "TwoGenerations" 143 0 4 (.int) := ⟨_, _, _, ty_TG, rfl, rfl, by decide, uw_TG, tyok_TG, nms_TG, by decide +kernel, Or.inl ⟨m_102, rfl⟩⟩
theorem fa_TG_146_0 : FA "TwoGenerations" 146 0 5 := ⟨_, _, _, rfl, rfl, by decide, uw_TG, Or.inl m_103⟩
theorem fp_TG_146_0 : FP "TwoGenerations" 146 0 5 (.int) := ⟨_, _, _, ty_TG, rfl, rfl, by decide, uw_TG, tyok_TG, nms_TG, by decide +kernel, Or.inl ⟨m_103, rfl⟩⟩
theorem lk_La_85 : LK "TwoGenerationsLaw" 85 y_TG_kind := m_117
theorem lk_TG_42 : LK "TwoGenerations" 42 y_TG_isRegister := m_121
theorem nd_TG_97 : ND "TwoGenerations" 97 5 := ⟨_, _, _, ty_Wh, rfl, rfl, uw_Wh, tyok_Wh, (fun k hk => by rcases (by omega : k = 0) with rfl <;> rfl), m_125, m_436, m_41⟩
theorem in_TG_97_3 : IN "TwoGenerations" 97 3 := ⟨_, _, rfl, m_125, by decide⟩
theorem in_TG_97_4 : IN "TwoGenerations" 97 4 := ⟨_, _, rfl, m_125, by decide⟩
theorem iy_TG_97_5 : IY "TwoGenerations" 97 5 := ⟨_, _, rfl, m_125, Or.inl m_666⟩
theorem nd_TG_53 : ND "TwoGenerations" 53 3 := ⟨_, _, _, ty_Pl, rfl, rfl, uw_Pl, tyok_Pl, (fun k hk => by rcases (by omega : k = 0 ∨ k = 1 ∨ k = 2 ∨ k = 3) with rfl | rfl | rfl | rfl <;> rfl), m_126, m_298, m_38⟩
theorem iy_TG_53_3 : IY "TwoGenerations" 53 3 := ⟨_, _, rfl, m_126, Or.inl m_667⟩
theorem in_TG_53_4 : IN "TwoGenerations" 53 4 := ⟨_, _, rfl, m_126, by decide⟩
theorem in_TG_53_5 : IN "TwoGenerations" 53 5 := ⟨_, _, rfl, m_126, by decide⟩
theorem lk_La_90 : LK "TwoGenerationsLaw" 90 y_TG_value := m_127
theorem lk_TG_102 : LK "TwoGenerations" 102 y_TG_heldIn := m_131
theorem lk_La_94 : LK "TwoGenerationsLaw" 94 y_TG_fields := m_135
theorem lk_TG_71 : LK "TwoGenerations" 71 y_TG_plainIn := m_139
theorem lk_La_98 : LK "TwoGenerationsLaw" 98 y_TG_same := m_143
theorem lk_La_103 : LK "TwoGenerationsLaw" 103 y_TG_generation := m_147
theorem lk_TG_60 : LK "TwoGenerations" 60 y_TG_thingIn := m_151
theorem nq_TG_110 : NQ "TwoGenerations" 110 4 := ⟨by decide, rfl, _, rfl, m_155, m_62⟩
theorem iy_TG_110_3 : IY "TwoGenerations" 110 3 := ⟨_, _, rfl, m_155, Or.inl m_668⟩
theorem iy_TG_110_4 : IY "TwoGenerations" 110 4 := ⟨_, _, rfl, m_155, Or.inl m_669⟩
theorem in_TG_110_5 : IN "TwoGenerations" 110 5 := ⟨_, _, rfl, m_155, by decide⟩
theorem lk_La_107 : LK "TwoGenerationsLaw" 107 y_TG_reach := m_156
theorem lk_TG_115 : LK "TwoGenerations" 115 y_Tr_restart := m_160
theorem lk_TG_118 : LK "TwoGenerations" 118 y_Tr_find := m_164
theorem lk_TG_122 : LK "TwoGenerations" 122 y_Tr_follow := m_168
theorem nd_Tr_39 : ND "TwoGenerations$Trace" 39 3 := ⟨_, _, _, ty_Pl, rfl, rfl, uw_Pl, tyok_Pl, (fun k hk => by rcases (by omega : k = 0 ∨ k = 1 ∨ k = 2 ∨ k = 3) with rfl | rfl | rfl | rfl <;> rfl), m_172, m_298, m_38⟩
theorem iy_Tr_39_3 : IY "TwoGenerations$Trace" 39 3 := ⟨_, _, rfl, m_172, Or.inl m_667⟩
theorem in_Tr_39_4 : IN "TwoGenerations$Trace" 39 4 := ⟨_, _, rfl, m_172, by decide⟩
theorem in_Tr_39_5 : IN "TwoGenerations$Trace" 39 5 := ⟨_, _, rfl, m_172, by decide⟩
theorem lk_Tr_41 : LK "TwoGenerations$Trace" 41 y_Tr_findContents := m_173
theorem lk_Tr_35 : LK "TwoGenerations$Trace" 35 y_Tr_find := m_177
theorem lk_La_115 : LK "TwoGenerationsLaw" 115 y_TG_great := m_178
theorem lk_TG_137 : LK "TwoGenerations" 137 y_TG_collectOld := m_182
theorem lk_TG_158 : LK "TwoGenerations" 158 y_TG_findRegisters := m_186
theorem lk_TG_168 : LK "TwoGenerations" 168 y_Gen_cutTargets := m_190
theorem nd_Gen_32 : ND "TwoGenerations$Generation" 32 4 := ⟨_, _, _, ty_Wk, rfl, rfl, uw_Wk, tyok_Wk, (fun k hk => by rcases (by omega : k = 0 ∨ k = 1 ∨ k = 2 ∨ k = 3) with rfl | rfl | rfl | rfl <;> rfl), m_194, m_382, m_40⟩
theorem in_Gen_32_3 : IN "TwoGenerations$Generation" 32 3 := ⟨_, _, rfl, m_194, by decide⟩
theorem iy_Gen_32_4 : IY "TwoGenerations$Generation" 32 4 := ⟨_, _, rfl, m_194, Or.inl m_670⟩
theorem in_Gen_32_5 : IN "TwoGenerations$Generation" 32 5 := ⟨_, _, rfl, m_194, by decide⟩
theorem lk_Gen_34 : LK "TwoGenerations$Generation" 34 y_Wk_cutUnreachedTarget := m_195
theorem lk_TG_177 : LK "TwoGenerations" 177 y_Gen_keepReached := m_199
theorem lk_Gen_37 : LK "TwoGenerations$Generation" 37 y_Gen_empty := m_203
theorem lk_Gen_40 : LK "TwoGenerations$Generation" 40 y_Gen_add := m_207
theorem lk_La_119 : LK "TwoGenerationsLaw" 119 y_TG_cells := m_211
theorem lk_La_123 : LK "TwoGenerationsLaw" 123 y_TG_collections := m_215
theorem lk_La_44 : LK "TwoGenerationsLaw" 44 y_La_cell := m_219
theorem lk_La_55 : LK "TwoGenerationsLaw" 55 y_La_make := m_222
theorem lk_La_7 : LK "TwoGenerationsLaw" 7 y_TG_make := m_227
theorem lk_TG_55 : LK "TwoGenerations" 55 y_Pl_init := m_299
theorem lk_Pl_1 : LK "TwoGenerations$Plain" 1 y_Th_init := m_302
theorem nq_Pl_7 : NQ "TwoGenerations$Plain" 7 3 := ⟨by decide, rfl, _, rfl, m_309, m_54⟩
theorem iy_Pl_7_3 : IY "TwoGenerations$Plain" 7 3 := ⟨_, _, rfl, m_309, Or.inl m_671⟩
theorem iy_Pl_7_4 : IY "TwoGenerations$Plain" 7 4 := ⟨_, _, rfl, m_309, Or.inl m_672⟩
theorem iy_Pl_7_5 : IY "TwoGenerations$Plain" 7 5 := ⟨_, _, rfl, m_309, Or.inl m_673⟩
theorem fa_Pl_9_3 : FA "TwoGenerations$Plain" 9 3 3 := ⟨_, _, _, rfl, rfl, by decide, uw_Pl, Or.inl m_310⟩
theorem ff_Pl_9_3 : FF "TwoGenerations$Plain" 9 3 3 (.array (.object "TwoGenerations$Value")) := ⟨_, _, _, ty_Pl, rfl, rfl, by decide, uw_Pl, tyok_Pl, nms_Pl, by decide +kernel, m_310, rfl, rfl⟩
theorem fa_TG_80_3 : FA "TwoGenerations" 80 3 3 := ⟨_, _, _, rfl, rfl, by decide, uw_Pl, Or.inl m_311⟩
theorem fa_Tr_45_3 : FA "TwoGenerations$Trace" 45 3 3 := ⟨_, _, _, rfl, rfl, by decide, uw_Pl, Or.inl m_312⟩
theorem fa_Th_7_3 : FA "TwoGenerations$Thing" 7 3 0 := ⟨_, _, _, rfl, rfl, by decide, uw_Pl, Or.inl m_313⟩
theorem ff_Th_7_3 : FF "TwoGenerations$Thing" 7 3 0 (.int) := ⟨_, _, _, ty_Pl, rfl, rfl, by decide, uw_Pl, tyok_Pl, nms_Pl, by decide +kernel, m_313, rfl, rfl⟩
theorem fa_Th_7_4 : FA "TwoGenerations$Thing" 7 4 0 := ⟨_, _, _, rfl, rfl, by decide, uw_Wk, Or.inl m_313⟩
theorem ff_Th_7_4 : FF "TwoGenerations$Thing" 7 4 0 (.int) := ⟨_, _, _, ty_Wk, rfl, rfl, by decide, uw_Wk, tyok_Wk, nms_Wk, by decide +kernel, m_313, rfl, rfl⟩
theorem fa_Gen_25_3 : FA "TwoGenerations$Generation" 25 3 0 := ⟨_, _, _, rfl, rfl, by decide, uw_Pl, Or.inl m_314⟩
theorem fa_Gen_25_4 : FA "TwoGenerations$Generation" 25 4 0 := ⟨_, _, _, rfl, rfl, by decide, uw_Wk, Or.inl m_314⟩
theorem fa_Tr_26_3 : FA "TwoGenerations$Trace" 26 3 0 := ⟨_, _, _, rfl, rfl, by decide, uw_Pl, Or.inl m_315⟩
theorem fa_Tr_26_4 : FA "TwoGenerations$Trace" 26 4 0 := ⟨_, _, _, rfl, rfl, by decide, uw_Wk, Or.inl m_315⟩
theorem fa_TG_149_3 : FA "TwoGenerations" 149 3 0 := ⟨_, _, _, rfl, rfl, by decide, uw_Pl, Or.inl m_316⟩
theorem fa_TG_149_4 : FA "TwoGenerations" 149 4 0 := ⟨_, _, _, rfl, rfl, by decide, uw_Wk, Or.inl m_316⟩
theorem fa_Gen_44_3 : FA "TwoGenerations$Generation" 44 3 1 := ⟨_, _, _, rfl, rfl, by decide, uw_Pl, Or.inl m_317⟩
theorem fp_Gen_44_3 : FP "TwoGenerations$Generation" 44 3 1 (.boolean) := ⟨_, _, _, ty_Pl, rfl, rfl, by decide, uw_Pl, tyok_Pl, nms_Pl, by decide +kernel, Or.inl ⟨m_317, rfl⟩⟩
theorem fa_Gen_44_4 : FA "TwoGenerations$Generation" 44 4 1 := ⟨_, _, _, rfl, rfl, by decide, uw_Wk, Or.inl m_317⟩
theorem fp_Gen_44_4 : FP "TwoGenerations$Generation" 44 4 1 (.boolean) := ⟨_, _, _, ty_Wk, rfl, rfl, by decide, uw_Wk, tyok_Wk, nms_Wk, by decide +kernel, Or.inl ⟨m_317, rfl⟩⟩
theorem fa_TG_109_3 : FA "TwoGenerations" 109 3 1 := ⟨_, _, _, rfl, rfl, by decide, uw_Pl, Or.inl m_318⟩
theorem fp_TG_109_3 : FP "TwoGenerations" 109 3 1 (.boolean) := ⟨_, _, _, ty_Pl, rfl, rfl, by decide, uw_Pl, tyok_Pl, nms_Pl, by decide +kernel, Or.inl ⟨m_318, rfl⟩⟩
theorem fa_TG_109_4 : FA "TwoGenerations" 109 4 1 := ⟨_, _, _, rfl, rfl, by decide, uw_Wk, Or.inl m_318⟩
theorem fp_TG_109_4 : FP "TwoGenerations" 109 4 1 (.boolean) := ⟨_, _, _, ty_Wk, rfl, rfl, by decide, uw_Wk, tyok_Wk, nms_Wk, by decide +kernel, Or.inl ⟨m_318, rfl⟩⟩
theorem fa_Wk_13_3 : FA "TwoGenerations$Weak" 13 3 2 := ⟨_, _, _, rfl, rfl, by decide, uw_Pl, Or.inl m_319⟩
theorem fp_Wk_13_3 : FP "TwoGenerations$Weak" 13 3 2 (.boolean) := ⟨_, _, _, ty_Pl, rfl, rfl, by decide, uw_Pl, tyok_Pl, nms_Pl, by decide +kernel, Or.inl ⟨m_319, rfl⟩⟩
theorem fa_Wk_13_4 : FA "TwoGenerations$Weak" 13 4 2 := ⟨_, _, _, rfl, rfl, by decide, uw_Wk, Or.inl m_319⟩
theorem fp_Wk_13_4 : FP "TwoGenerations$Weak" 13 4 2 (.boolean) := ⟨_, _, _, ty_Wk, rfl, rfl, by decide, uw_Wk, tyok_Wk, nms_Wk, by decide +kernel, Or.inl ⟨m_319, rfl⟩⟩
theorem fa_Tr_19_3 : FA "TwoGenerations$Trace" 19 3 2 := ⟨_, _, _, rfl, rfl, by decide, uw_Pl, Or.inl m_320⟩
theorem fp_Tr_19_3 : FP "TwoGenerations$Trace" 19 3 2 (.boolean) := ⟨_, _, _, ty_Pl, rfl, rfl, by decide, uw_Pl, tyok_Pl, nms_Pl, by decide +kernel, Or.inl ⟨m_320, rfl⟩⟩
theorem fa_Tr_19_4 : FA "TwoGenerations$Trace" 19 4 2 := ⟨_, _, _, rfl, rfl, by decide, uw_Wk, Or.inl m_320⟩
theorem fp_Tr_19_4 : FP "TwoGenerations$Trace" 19 4 2 (.boolean) := ⟨_, _, _, ty_Wk, rfl, rfl, by decide, uw_Wk, tyok_Wk, nms_Wk, by decide +kernel, Or.inl ⟨m_320, rfl⟩⟩
theorem fa_Gen_28_3 : FA "TwoGenerations$Generation" 28 3 2 := ⟨_, _, _, rfl, rfl, by decide, uw_Pl, Or.inl m_321⟩
theorem fp_Gen_28_3 : FP "TwoGenerations$Generation" 28 3 2 (.boolean) := ⟨_, _, _, ty_Pl, rfl, rfl, by decide, uw_Pl, tyok_Pl, nms_Pl, by decide +kernel, Or.inl ⟨m_321, rfl⟩⟩
theorem fa_Gen_28_4 : FA "TwoGenerations$Generation" 28 4 2 := ⟨_, _, _, rfl, rfl, by decide, uw_Wk, Or.inl m_321⟩
theorem fp_Gen_28_4 : FP "TwoGenerations$Generation" 28 4 2 (.boolean) := ⟨_, _, _, ty_Wk, rfl, rfl, by decide, uw_Wk, tyok_Wk, nms_Wk, by decide +kernel, Or.inl ⟨m_321, rfl⟩⟩
theorem lk_TG_56 : LK "TwoGenerations" 56 y_TG_bear := m_331
theorem lk_TG_152 : LK "TwoGenerations" 152 y_Gen_free := m_335
theorem lk_TG_128 : LK "TwoGenerations" 128 y_TG_collectYoung := m_339
theorem lk_TG_161 : LK "TwoGenerations" 161 y_Tr_findAll := m_343
theorem lk_TG_165 : LK "TwoGenerations" 165 y_Gen_reachedCells := m_347
theorem lk_TG_171 : LK "TwoGenerations" 171 y_Gen_adoptReached := m_351
theorem lk_TG_174 : LK "TwoGenerations" 174 y_Gen_empty := m_355
theorem lk_TG_155 : LK "TwoGenerations" 155 y_Gen_add := m_372
theorem lk_La_62 : LK "TwoGenerationsLaw" 62 y_La_weak := m_373
theorem lk_La_17 : LK "TwoGenerationsLaw" 17 y_TG_weak := m_376
theorem nd_TG_66 : ND "TwoGenerations" 66 4 := ⟨_, _, _, ty_Wk, rfl, rfl, uw_Wk, tyok_Wk, (fun k hk => by rcases (by omega : k = 0 ∨ k = 1 ∨ k = 2 ∨ k = 3) with rfl | rfl | rfl | rfl <;> rfl), m_381, m_382, m_40⟩
theorem in_TG_66_3 : IN "TwoGenerations" 66 3 := ⟨_, _, rfl, m_381, by decide⟩
theorem iy_TG_66_4 : IY "TwoGenerations" 66 4 := ⟨_, _, rfl, m_381, Or.inl m_670⟩
theorem in_TG_66_5 : IN "TwoGenerations" 66 5 := ⟨_, _, rfl, m_381, by decide⟩
theorem lk_TG_68 : LK "TwoGenerations" 68 y_Wk_init := m_383
theorem lk_Wk_1 : LK "TwoGenerations$Weak" 1 y_Th_init := m_386
theorem fa_Wk_7_4 : FA "TwoGenerations$Weak" 7 4 3 := ⟨_, _, _, rfl, rfl, by decide, uw_Wk, Or.inl m_387⟩
theorem fp_Wk_7_4 : FP "TwoGenerations$Weak" 7 4 3 (.object "TwoGenerations$Thing") := ⟨_, _, _, ty_Wk, rfl, rfl, by decide, uw_Wk, tyok_Wk, nms_Wk, by decide +kernel, Or.inl ⟨m_387, rfl⟩⟩
theorem fa_TG_89_4 : FA "TwoGenerations" 89 4 3 := ⟨_, _, _, rfl, rfl, by decide, uw_Wk, Or.inl m_388⟩
theorem fp_TG_89_4 : FP "TwoGenerations" 89 4 3 (.object "TwoGenerations$Thing") := ⟨_, _, _, ty_Wk, rfl, rfl, by decide, uw_Wk, tyok_Wk, nms_Wk, by decide +kernel, Or.inl ⟨m_388, rfl⟩⟩
theorem lk_La_65 : LK "TwoGenerationsLaw" 65 y_La_load := m_395
theorem lk_La_20 : LK "TwoGenerationsLaw" 20 y_TG_load := m_398
theorem lk_TG_75 : LK "TwoGenerations" 75 y_Pl_hasField := m_402
theorem lk_La_69 : LK "TwoGenerationsLaw" 69 y_La_store := m_407
theorem lk_La_24 : LK "TwoGenerationsLaw" 24 y_TG_store := m_410
theorem lk_La_72 : LK "TwoGenerationsLaw" 72 y_La_target := m_414
theorem lk_La_27 : LK "TwoGenerationsLaw" 27 y_TG_target := m_417
theorem lk_TG_83 : LK "TwoGenerations" 83 y_TG_weakIn := m_421
theorem lk_La_75 : LK "TwoGenerationsLaw" 75 y_La_number := m_426
theorem lk_La_30 : LK "TwoGenerationsLaw" 30 y_TG_number := m_429
theorem lk_TG_99 : LK "TwoGenerations" 99 y_Wh_init := m_437
theorem fa_Wh_7_5 : FA "TwoGenerations$Whole" 7 5 0 := ⟨_, _, _, rfl, rfl, by decide, uw_Wh, Or.inl m_441⟩
theorem ff_Wh_7_5 : FF "TwoGenerations$Whole" 7 5 0 (.int) := ⟨_, _, _, ty_Wh, rfl, rfl, by decide, uw_Wh, tyok_Wh, nms_Wh, by decide +kernel, m_441, rfl, rfl⟩
theorem fa_TG_106_5 : FA "TwoGenerations" 106 5 0 := ⟨_, _, _, rfl, rfl, by decide, uw_Wh, Or.inl m_442⟩
theorem lk_La_78 : LK "TwoGenerationsLaw" 78 y_La_clear := m_446
theorem lk_La_33 : LK "TwoGenerationsLaw" 33 y_TG_clear := m_449
theorem lk_La_82 : LK "TwoGenerationsLaw" 82 y_La_move := m_454
theorem lk_La_37 : LK "TwoGenerationsLaw" 37 y_TG_move := m_457
theorem lk_La_111 : LK "TwoGenerationsLaw" 111 y_La_small := m_461
theorem lk_La_40 : LK "TwoGenerationsLaw" 40 y_TG_small := m_464
theorem nd_La_52 : ND "TwoGenerationsLaw" 52 6 := ⟨_, _, _, ty_Mo, rfl, rfl, uw_Mo, tyok_Mo, (fun k hk => by rcases (by omega : k = 0 ∨ k = 1 ∨ k = 2 ∨ k = 3 ∨ k = 4 ∨ k = 5 ∨ k = 6 ∨ k = 7 ∨ k = 8 ∨ k = 9 ∨ k = 10 ∨ k = 11 ∨ k = 12) with rfl | rfl | rfl | rfl | rfl | rfl | rfl | rfl | rfl | rfl | rfl | rfl | rfl <;> rfl), m_468, m_469, m_31⟩
theorem lk_La_54 : LK "TwoGenerationsLaw" 54 y_Mo_init := m_470
theorem fa_Mo_45_6 : FA "TwoGenerationsModel" 45 6 0 := ⟨_, _, _, rfl, rfl, by decide, uw_Mo, Or.inl m_475⟩
theorem fp_Mo_45_6 : FP "TwoGenerationsModel" 45 6 0 (.int) := ⟨_, _, _, ty_Mo, rfl, rfl, by decide, uw_Mo, tyok_Mo, nms_Mo, by decide +kernel, Or.inl ⟨m_475, rfl⟩⟩
theorem fa_Mo_33_6 : FA "TwoGenerationsModel" 33 6 1 := ⟨_, _, _, rfl, rfl, by decide, uw_Mo, Or.inl m_476⟩
theorem fp_Mo_33_6 : FP "TwoGenerationsModel" 33 6 1 (.int) := ⟨_, _, _, ty_Mo, rfl, rfl, by decide, uw_Mo, tyok_Mo, nms_Mo, by decide +kernel, Or.inl ⟨m_476, rfl⟩⟩
theorem fa_Mo_37_6 : FA "TwoGenerationsModel" 37 6 2 := ⟨_, _, _, rfl, rfl, by decide, uw_Mo, Or.inl m_477⟩
theorem fp_Mo_37_6 : FP "TwoGenerationsModel" 37 6 2 (.int) := ⟨_, _, _, ty_Mo, rfl, rfl, by decide, uw_Mo, tyok_Mo, nms_Mo, by decide +kernel, Or.inl ⟨m_477, rfl⟩⟩
theorem fa_Mo_40_6 : FA "TwoGenerationsModel" 40 6 3 := ⟨_, _, _, rfl, rfl, by decide, uw_Mo, Or.inl m_478⟩
theorem fp_Mo_40_6 : FP "TwoGenerationsModel" 40 6 3 (.int) := ⟨_, _, _, ty_Mo, rfl, rfl, by decide, uw_Mo, tyok_Mo, nms_Mo, by decide +kernel, Or.inl ⟨m_478, rfl⟩⟩
theorem fa_Mo_7_6 : FA "TwoGenerationsModel" 7 6 4 := ⟨_, _, _, rfl, rfl, by decide, uw_Mo, Or.inl m_479⟩
theorem ff_Mo_7_6 : FF "TwoGenerationsModel" 7 6 4 (.array .long) := ⟨_, _, _, ty_Mo, rfl, rfl, by decide, uw_Mo, tyok_Mo, nms_Mo, by decide +kernel, m_479, rfl, rfl⟩
theorem fa_Mo_13_6 : FA "TwoGenerationsModel" 13 6 5 := ⟨_, _, _, rfl, rfl, by decide, uw_Mo, Or.inl m_480⟩
theorem ff_Mo_13_6 : FF "TwoGenerationsModel" 13 6 5 (.array .boolean) := ⟨_, _, _, ty_Mo, rfl, rfl, by decide, uw_Mo, tyok_Mo, nms_Mo, by decide +kernel, m_480, rfl, rfl⟩
theorem fa_Mo_17_6 : FA "TwoGenerationsModel" 17 6 6 := ⟨_, _, _, rfl, rfl, by decide, uw_Mo, Or.inl m_481⟩
theorem ff_Mo_17_6 : FF "TwoGenerationsModel" 17 6 6 (.array .boolean) := ⟨_, _, _, ty_Mo, rfl, rfl, by decide, uw_Mo, tyok_Mo, nms_Mo, by decide +kernel, m_481, rfl, rfl⟩
theorem fa_Mo_20_6 : FA "TwoGenerationsModel" 20 6 7 := ⟨_, _, _, rfl, rfl, by decide, uw_Mo, Or.inl m_482⟩
theorem ff_Mo_20_6 : FF "TwoGenerationsModel" 20 6 7 (.array .int) := ⟨_, _, _, ty_Mo, rfl, rfl, by decide, uw_Mo, tyok_Mo, nms_Mo, by decide +kernel, m_482, rfl, rfl⟩
theorem fa_Mo_24_6 : FA "TwoGenerationsModel" 24 6 8 := ⟨_, _, _, rfl, rfl, by decide, uw_Mo, Or.inl m_483⟩
theorem ff_Mo_24_6 : FF "TwoGenerationsModel" 24 6 8 (.array .int) := ⟨_, _, _, ty_Mo, rfl, rfl, by decide, uw_Mo, tyok_Mo, nms_Mo, by decide +kernel, m_483, rfl, rfl⟩
theorem fa_Mo_27_6 : FA "TwoGenerationsModel" 27 6 9 := ⟨_, _, _, rfl, rfl, by decide, uw_Mo, Or.inl m_484⟩
theorem ff_Mo_27_6 : FF "TwoGenerationsModel" 27 6 9 (.array .long) := ⟨_, _, _, ty_Mo, rfl, rfl, by decide, uw_Mo, tyok_Mo, nms_Mo, by decide +kernel, m_484, rfl, rfl⟩
theorem fa_Mo_30_6 : FA "TwoGenerationsModel" 30 6 10 := ⟨_, _, _, rfl, rfl, by decide, uw_Mo, Or.inl m_485⟩
theorem ff_Mo_30_6 : FF "TwoGenerationsModel" 30 6 10 (.array .boolean) := ⟨_, _, _, ty_Mo, rfl, rfl, by decide, uw_Mo, tyok_Mo, nms_Mo, by decide +kernel, m_485, rfl, rfl⟩
theorem fa_Mo_89_6 : FA "TwoGenerationsModel" 89 6 11 := ⟨_, _, _, rfl, rfl, by decide, uw_Mo, Or.inl m_486⟩
theorem fp_Mo_89_6 : FP "TwoGenerationsModel" 89 6 11 (.int) := ⟨_, _, _, ty_Mo, rfl, rfl, by decide, uw_Mo, tyok_Mo, nms_Mo, by decide +kernel, Or.inl ⟨m_486, rfl⟩⟩
theorem fa_Mo_79_6 : FA "TwoGenerationsModel" 79 6 12 := ⟨_, _, _, rfl, rfl, by decide, uw_Mo, Or.inl m_487⟩
theorem fp_Mo_79_6 : FP "TwoGenerationsModel" 79 6 12 (.int) := ⟨_, _, _, ty_Mo, rfl, rfl, by decide, uw_Mo, tyok_Mo, nms_Mo, by decide +kernel, Or.inl ⟨m_487, rfl⟩⟩
theorem lk_La_59 : LK "TwoGenerationsLaw" 59 y_Mo_thrown := m_518
theorem lk_La_58 : LK "TwoGenerationsLaw" 58 y_Mo_make := m_522
theorem lk_Mo_48 : LK "TwoGenerationsModel" 48 y_Mo_is := m_526
theorem lk_Mo_98 : LK "TwoGenerationsModel" 98 y_Mo_when := m_530
theorem lk_Mo_102 : LK "TwoGenerationsModel" 102 y_Mo_room := m_534
theorem lk_Mo_82 : LK "TwoGenerationsModel" 82 y_Mo_taken := m_538
theorem lk_Mo_54 : LK "TwoGenerationsModel" 54 y_Mo_cellsOf := m_542
theorem lk_Mo_95 : LK "TwoGenerationsModel" 95 y_Mo_grow := m_546
theorem lk_Mo_86 : LK "TwoGenerationsModel" 86 y_Mo_clearOld := m_550
theorem lk_Mo_70 : LK "TwoGenerationsModel" 70 y_Mo_nothing := m_554
theorem lk_Mo_73 : LK "TwoGenerationsModel" 73 y_Mo_markRegisters := m_558
theorem lk_Mo_58 : LK "TwoGenerationsModel" 58 y_Mo_mark := m_562
theorem lk_Mo_76 : LK "TwoGenerationsModel" 76 y_Mo_spread := m_567
theorem lk_Mo_62 : LK "TwoGenerationsModel" 62 y_Mo_marked := m_571
theorem lk_Mo_66 : LK "TwoGenerationsModel" 66 y_Mo_markFields := m_575
theorem lk_Mo_92 : LK "TwoGenerationsModel" 92 y_Mo_tellWeak := m_579
theorem lk_Mo_105 : LK "TwoGenerationsModel" 105 y_Mo_born := m_583
theorem lk_La_64 : LK "TwoGenerationsLaw" 64 y_Mo_weak := m_587
theorem lk_Mo_109 : LK "TwoGenerationsModel" 109 y_Mo_placeIn := m_591
theorem lk_La_114 : LK "TwoGenerationsLaw" 114 y_Mo_small := m_595
theorem lk_La_118 : LK "TwoGenerationsLaw" 118 y_Mo_great := m_599
theorem lk_La_68 : LK "TwoGenerationsLaw" 68 y_Mo_load := m_603
theorem lk_Mo_112 : LK "TwoGenerationsModel" 112 y_Mo_hasField := m_607
theorem lk_La_71 : LK "TwoGenerationsLaw" 71 y_Mo_store := m_611
theorem lk_La_74 : LK "TwoGenerationsLaw" 74 y_Mo_target := m_615
theorem lk_La_77 : LK "TwoGenerationsLaw" 77 y_Mo_number := m_619
theorem lk_La_81 : LK "TwoGenerationsLaw" 81 y_Mo_clear := m_625
theorem lk_La_84 : LK "TwoGenerationsLaw" 84 y_Mo_move := m_629
theorem lk_La_89 : LK "TwoGenerationsLaw" 89 y_Mo_kind := m_633
theorem lk_La_93 : LK "TwoGenerationsLaw" 93 y_Mo_value := m_637
theorem lk_La_97 : LK "TwoGenerationsLaw" 97 y_Mo_fields := m_641
theorem lk_La_102 : LK "TwoGenerationsLaw" 102 y_Mo_same := m_645
theorem lk_La_106 : LK "TwoGenerationsLaw" 106 y_Mo_generation := m_649
theorem lk_La_110 : LK "TwoGenerationsLaw" 110 y_Mo_reach := m_653
theorem lk_La_122 : LK "TwoGenerationsLaw" 122 y_Mo_cells := m_657
theorem lk_La_126 : LK "TwoGenerationsLaw" 126 y_Mo_collections := m_661
theorem faT_Th_7 {ci : Nat} (h : ci = 3 ∨ ci = 4) : FA "TwoGenerations$Thing" 7 ci 0 ∧ ft ci 0 = true := by
  rcases h with rfl | rfl
  · exact ⟨fa_Th_7_3, rfl⟩
  · exact ⟨fa_Th_7_4, rfl⟩
theorem ffT_Th_7 {ci : Nat} (h : ci = 3 ∨ ci = 4) : FF "TwoGenerations$Thing" 7 ci 0 .int ∧ ft ci 0 = true := by
  rcases h with rfl | rfl
  · exact ⟨ff_Th_7_3, rfl⟩
  · exact ⟨ff_Th_7_4, rfl⟩
theorem faT_Gen_25 {ci : Nat} (h : ci = 3 ∨ ci = 4) : FA "TwoGenerations$Generation" 25 ci 0 ∧ ft ci 0 = true := by
  rcases h with rfl | rfl
  · exact ⟨fa_Gen_25_3, rfl⟩
  · exact ⟨fa_Gen_25_4, rfl⟩
theorem faT_Tr_26 {ci : Nat} (h : ci = 3 ∨ ci = 4) : FA "TwoGenerations$Trace" 26 ci 0 ∧ ft ci 0 = true := by
  rcases h with rfl | rfl
  · exact ⟨fa_Tr_26_3, rfl⟩
  · exact ⟨fa_Tr_26_4, rfl⟩
theorem faT_TG_149 {ci : Nat} (h : ci = 3 ∨ ci = 4) : FA "TwoGenerations" 149 ci 0 ∧ ft ci 0 = true := by
  rcases h with rfl | rfl
  · exact ⟨fa_TG_149_3, rfl⟩
  · exact ⟨fa_TG_149_4, rfl⟩
theorem faT_Gen_44 {ci : Nat} (h : ci = 3 ∨ ci = 4) : FA "TwoGenerations$Generation" 44 ci 1 ∧ ft ci 1 = true := by
  rcases h with rfl | rfl
  · exact ⟨fa_Gen_44_3, rfl⟩
  · exact ⟨fa_Gen_44_4, rfl⟩
theorem fpT_Gen_44 {ci : Nat} (h : ci = 3 ∨ ci = 4) : FP "TwoGenerations$Generation" 44 ci 1 .boolean ∧ ft ci 1 = true := by
  rcases h with rfl | rfl
  · exact ⟨fp_Gen_44_3, rfl⟩
  · exact ⟨fp_Gen_44_4, rfl⟩
theorem faT_TG_109 {ci : Nat} (h : ci = 3 ∨ ci = 4) : FA "TwoGenerations" 109 ci 1 ∧ ft ci 1 = true := by
  rcases h with rfl | rfl
  · exact ⟨fa_TG_109_3, rfl⟩
  · exact ⟨fa_TG_109_4, rfl⟩
theorem fpT_TG_109 {ci : Nat} (h : ci = 3 ∨ ci = 4) : FP "TwoGenerations" 109 ci 1 .boolean ∧ ft ci 1 = true := by
  rcases h with rfl | rfl
  · exact ⟨fp_TG_109_3, rfl⟩
  · exact ⟨fp_TG_109_4, rfl⟩
theorem faT_Wk_13 {ci : Nat} (h : ci = 3 ∨ ci = 4) : FA "TwoGenerations$Weak" 13 ci 2 ∧ ft ci 2 = true := by
  rcases h with rfl | rfl
  · exact ⟨fa_Wk_13_3, rfl⟩
  · exact ⟨fa_Wk_13_4, rfl⟩
theorem fpT_Wk_13 {ci : Nat} (h : ci = 3 ∨ ci = 4) : FP "TwoGenerations$Weak" 13 ci 2 .boolean ∧ ft ci 2 = true := by
  rcases h with rfl | rfl
  · exact ⟨fp_Wk_13_3, rfl⟩
  · exact ⟨fp_Wk_13_4, rfl⟩
theorem faT_Tr_19 {ci : Nat} (h : ci = 3 ∨ ci = 4) : FA "TwoGenerations$Trace" 19 ci 2 ∧ ft ci 2 = true := by
  rcases h with rfl | rfl
  · exact ⟨fa_Tr_19_3, rfl⟩
  · exact ⟨fa_Tr_19_4, rfl⟩
theorem fpT_Tr_19 {ci : Nat} (h : ci = 3 ∨ ci = 4) : FP "TwoGenerations$Trace" 19 ci 2 .boolean ∧ ft ci 2 = true := by
  rcases h with rfl | rfl
  · exact ⟨fp_Tr_19_3, rfl⟩
  · exact ⟨fp_Tr_19_4, rfl⟩
theorem faT_Gen_28 {ci : Nat} (h : ci = 3 ∨ ci = 4) : FA "TwoGenerations$Generation" 28 ci 2 ∧ ft ci 2 = true := by
  rcases h with rfl | rfl
  · exact ⟨fa_Gen_28_3, rfl⟩
  · exact ⟨fa_Gen_28_4, rfl⟩
theorem fpT_Gen_28 {ci : Nat} (h : ci = 3 ∨ ci = 4) : FP "TwoGenerations$Generation" 28 ci 2 .boolean ∧ ft ci 2 = true := by
  rcases h with rfl | rfl
  · exact ⟨fp_Gen_28_3, rfl⟩
  · exact ⟨fp_Gen_28_4, rfl⟩
theorem ac_3_3 : AC 3 3 := ⟨_, _, rfl, rfl, Or.inl m_671⟩
theorem ac_3_4 : AC 3 4 := ⟨_, _, rfl, rfl, Or.inl m_668⟩
theorem ac_4_3 : AC 4 3 := ⟨_, _, rfl, rfl, Or.inl m_672⟩
theorem ac_4_4 : AC 4 4 := ⟨_, _, rfl, rfl, Or.inl m_669⟩
theorem ac_5_3 : AC 5 3 := ⟨_, _, rfl, rfl, Or.inl m_673⟩
theorem cd_TG_init : CD y_TG_init (h_TG_init) 3 := ⟨m_46, m_28, by decide, by decide +kernel⟩
theorem ii_TG_init : y_TG_init.name = "<init>" ∧ Cond.instanceMethod y_TG_init ∈ TT := ⟨rfl, m_45⟩
theorem cd_TG_within : CD y_TG_within (h_TG_within) 3 := ⟨m_52, m_28, by decide, by decide +kernel⟩
theorem st_TG_within : Cond.static y_TG_within ∈ TT := m_51
theorem cd_Gen_init : CD y_Gen_init (h_Gen_init) 1 := ⟨m_59, m_29, by decide, by decide +kernel⟩
theorem ii_Gen_init : y_Gen_init.name = "<init>" ∧ Cond.instanceMethod y_Gen_init ∈ TT := ⟨rfl, m_58⟩
theorem cd_Tr_init : CD y_Tr_init (h_Tr_init) 1 := ⟨m_84, m_30, by decide, by decide +kernel⟩
theorem ii_Tr_init : y_Tr_init.name = "<init>" ∧ Cond.instanceMethod y_Tr_init ∈ TT := ⟨rfl, m_83⟩
theorem cd_TG_kind : CD y_TG_kind (h_TG_kind) 1 := ⟨m_120, m_28, by decide, by decide +kernel⟩
theorem vi_TG_kind : Cond.instanceMethod y_TG_kind ∈ TT ∧ Cond.selects "TwoGenerations" y_TG_kind y_TG_kind ∈ TT := ⟨m_118, m_119⟩
theorem cd_TG_isRegister : CD y_TG_isRegister (h_TG_isRegister) 1 := ⟨m_124, m_28, by decide, by decide +kernel⟩
theorem vi_TG_isRegister : Cond.instanceMethod y_TG_isRegister ∈ TT ∧ Cond.selects "TwoGenerations" y_TG_isRegister y_TG_isRegister ∈ TT := ⟨m_123, m_0⟩
theorem cd_TG_value : CD y_TG_value (h_TG_value) 1 := ⟨m_130, m_28, by decide, by decide +kernel⟩
theorem vi_TG_value : Cond.instanceMethod y_TG_value ∈ TT ∧ Cond.selects "TwoGenerations" y_TG_value y_TG_value ∈ TT := ⟨m_128, m_129⟩
theorem cd_TG_heldIn : CD y_TG_heldIn (h_TG_heldIn) 1 := ⟨m_134, m_28, by decide, by decide +kernel⟩
theorem vi_TG_heldIn : Cond.instanceMethod y_TG_heldIn ∈ TT ∧ Cond.selects "TwoGenerations" y_TG_heldIn y_TG_heldIn ∈ TT := ⟨m_133, m_1⟩
theorem cd_TG_fields : CD y_TG_fields (h_TG_fields) 1 := ⟨m_138, m_28, by decide, by decide +kernel⟩
theorem vi_TG_fields : Cond.instanceMethod y_TG_fields ∈ TT ∧ Cond.selects "TwoGenerations" y_TG_fields y_TG_fields ∈ TT := ⟨m_136, m_137⟩
theorem cd_TG_plainIn : CD y_TG_plainIn (h_TG_plainIn) 1 := ⟨m_142, m_28, by decide, by decide +kernel⟩
theorem vi_TG_plainIn : Cond.instanceMethod y_TG_plainIn ∈ TT ∧ Cond.selects "TwoGenerations" y_TG_plainIn y_TG_plainIn ∈ TT := ⟨m_141, m_2⟩
theorem cd_TG_same : CD y_TG_same (h_TG_same) 2 := ⟨m_146, m_28, by decide, by decide +kernel⟩
theorem vi_TG_same : Cond.instanceMethod y_TG_same ∈ TT ∧ Cond.selects "TwoGenerations" y_TG_same y_TG_same ∈ TT := ⟨m_144, m_145⟩
theorem cd_TG_generation : CD y_TG_generation (h_TG_generation) 1 := ⟨m_150, m_28, by decide, by decide +kernel⟩
theorem vi_TG_generation : Cond.instanceMethod y_TG_generation ∈ TT ∧ Cond.selects "TwoGenerations" y_TG_generation y_TG_generation ∈ TT := ⟨m_148, m_149⟩
theorem cd_TG_thingIn : CD y_TG_thingIn (h_TG_thingIn) 1 := ⟨m_154, m_28, by decide, by decide +kernel⟩
theorem vi_TG_thingIn : Cond.instanceMethod y_TG_thingIn ∈ TT ∧ Cond.selects "TwoGenerations" y_TG_thingIn y_TG_thingIn ∈ TT := ⟨m_153, m_3⟩
theorem cd_TG_reach : CD y_TG_reach (h_TG_reach) 1 := ⟨m_159, m_28, by decide, by decide +kernel⟩
theorem vi_TG_reach : Cond.instanceMethod y_TG_reach ∈ TT ∧ Cond.selects "TwoGenerations" y_TG_reach y_TG_reach ∈ TT := ⟨m_157, m_158⟩
theorem cd_Tr_restart : CD y_Tr_restart (h_Tr_restart) 0 := ⟨m_163, m_30, by decide, by decide +kernel⟩
theorem vi_Tr_restart : Cond.instanceMethod y_Tr_restart ∈ TT ∧ Cond.selects "TwoGenerations$Trace" y_Tr_restart y_Tr_restart ∈ TT := ⟨m_161, m_162⟩
theorem cd_Tr_find : CD y_Tr_find (h_Tr_find) 1 := ⟨m_167, m_30, by decide, by decide +kernel⟩
theorem vi_Tr_find : Cond.instanceMethod y_Tr_find ∈ TT ∧ Cond.selects "TwoGenerations$Trace" y_Tr_find y_Tr_find ∈ TT := ⟨m_165, m_166⟩
theorem cd_Tr_follow : CD y_Tr_follow (h_Tr_follow) 0 := ⟨m_171, m_30, by decide, by decide +kernel⟩
theorem vi_Tr_follow : Cond.instanceMethod y_Tr_follow ∈ TT ∧ Cond.selects "TwoGenerations$Trace" y_Tr_follow y_Tr_follow ∈ TT := ⟨m_169, m_170⟩
theorem cd_Tr_findContents : CD y_Tr_findContents (h_Tr_findContents) 1 := ⟨m_176, m_30, by decide, by decide +kernel⟩
theorem vi_Tr_findContents : Cond.instanceMethod y_Tr_findContents ∈ TT ∧ Cond.selects "TwoGenerations$Trace" y_Tr_findContents y_Tr_findContents ∈ TT := ⟨m_174, m_175⟩
theorem cd_TG_great : CD y_TG_great (h_TG_great) 0 := ⟨m_181, m_28, by decide, by decide +kernel⟩
theorem vi_TG_great : Cond.instanceMethod y_TG_great ∈ TT ∧ Cond.selects "TwoGenerations" y_TG_great y_TG_great ∈ TT := ⟨m_179, m_180⟩
theorem cd_TG_collectOld : CD y_TG_collectOld (h_TG_collectOld) 0 := ⟨m_185, m_28, by decide, by decide +kernel⟩
theorem vi_TG_collectOld : Cond.instanceMethod y_TG_collectOld ∈ TT ∧ Cond.selects "TwoGenerations" y_TG_collectOld y_TG_collectOld ∈ TT := ⟨m_184, m_4⟩
theorem cd_TG_findRegisters : CD y_TG_findRegisters (h_TG_findRegisters) 0 := ⟨m_189, m_28, by decide, by decide +kernel⟩
theorem vi_TG_findRegisters : Cond.instanceMethod y_TG_findRegisters ∈ TT ∧ Cond.selects "TwoGenerations" y_TG_findRegisters y_TG_findRegisters ∈ TT := ⟨m_188, m_5⟩
theorem cd_Gen_cutTargets : CD y_Gen_cutTargets (h_Gen_cutTargets) 0 := ⟨m_193, m_29, by decide, by decide +kernel⟩
theorem vi_Gen_cutTargets : Cond.instanceMethod y_Gen_cutTargets ∈ TT ∧ Cond.selects "TwoGenerations$Generation" y_Gen_cutTargets y_Gen_cutTargets ∈ TT := ⟨m_191, m_192⟩
theorem cd_Wk_cutUnreachedTarget : CD y_Wk_cutUnreachedTarget (h_Wk_cutUnreachedTarget) 0 := ⟨m_198, m_40, by decide, by decide +kernel⟩
theorem vi_Wk_cutUnreachedTarget : Cond.instanceMethod y_Wk_cutUnreachedTarget ∈ TT ∧ Cond.selects "TwoGenerations$Weak" y_Wk_cutUnreachedTarget y_Wk_cutUnreachedTarget ∈ TT := ⟨m_196, m_197⟩
theorem cd_Gen_keepReached : CD y_Gen_keepReached (h_Gen_keepReached) 0 := ⟨m_202, m_29, by decide, by decide +kernel⟩
theorem vi_Gen_keepReached : Cond.instanceMethod y_Gen_keepReached ∈ TT ∧ Cond.selects "TwoGenerations$Generation" y_Gen_keepReached y_Gen_keepReached ∈ TT := ⟨m_200, m_201⟩
theorem cd_Gen_empty : CD y_Gen_empty (h_Gen_empty) 0 := ⟨m_206, m_29, by decide, by decide +kernel⟩
theorem vi_Gen_empty : Cond.instanceMethod y_Gen_empty ∈ TT ∧ Cond.selects "TwoGenerations$Generation" y_Gen_empty y_Gen_empty ∈ TT := ⟨m_204, m_205⟩
theorem cd_Gen_add : CD y_Gen_add (h_Gen_add) 1 := ⟨m_210, m_29, by decide, by decide +kernel⟩
theorem vi_Gen_add : Cond.instanceMethod y_Gen_add ∈ TT ∧ Cond.selects "TwoGenerations$Generation" y_Gen_add y_Gen_add ∈ TT := ⟨m_208, m_209⟩
theorem cd_TG_cells : CD y_TG_cells (h_TG_cells) 1 := ⟨m_214, m_28, by decide, by decide +kernel⟩
theorem vi_TG_cells : Cond.instanceMethod y_TG_cells ∈ TT ∧ Cond.selects "TwoGenerations" y_TG_cells y_TG_cells ∈ TT := ⟨m_212, m_213⟩
theorem cd_TG_collections : CD y_TG_collections (h_TG_collections) 1 := ⟨m_218, m_28, by decide, by decide +kernel⟩
theorem vi_TG_collections : Cond.instanceMethod y_TG_collections ∈ TT ∧ Cond.selects "TwoGenerations" y_TG_collections y_TG_collections ∈ TT := ⟨m_216, m_217⟩
theorem cd_La_cell : CD y_La_cell (h_La_cell) 2 := ⟨m_221, m_27, by decide, by decide +kernel⟩
theorem st_La_cell : Cond.static y_La_cell ∈ TT := m_220
theorem cd_La_make : CD y_La_make (h_La_make) 3 := ⟨m_224, m_27, by decide, by decide +kernel⟩
theorem st_La_make : Cond.static y_La_make ∈ TT := m_223
theorem cd_TG_make : CD y_TG_make (h_TG_make) 2 := ⟨m_230, m_28, by decide, by decide +kernel⟩
theorem vi_TG_make : Cond.instanceMethod y_TG_make ∈ TT ∧ Cond.selects "TwoGenerations" y_TG_make y_TG_make ∈ TT := ⟨m_228, m_229⟩
theorem cd_Pl_init : CD y_Pl_init (h_Pl_init) 1 := ⟨m_301, m_38, by decide, by decide +kernel⟩
theorem ii_Pl_init : y_Pl_init.name = "<init>" ∧ Cond.instanceMethod y_Pl_init ∈ TT := ⟨rfl, m_300⟩
theorem cd_Th_init : CD y_Th_init (h_Th_init) 1 := ⟨m_304, m_37, by decide, by decide +kernel⟩
theorem ii_Th_init : y_Th_init.name = "<init>" ∧ Cond.instanceMethod y_Th_init ∈ TT := ⟨rfl, m_303⟩
theorem cd_Va_init : CD y_Va_init (h_Va_init) 0 := ⟨m_307, m_36, by decide, by decide +kernel⟩
theorem ii_Va_init : y_Va_init.name = "<init>" ∧ Cond.instanceMethod y_Va_init ∈ TT := ⟨rfl, m_306⟩
theorem cd_TG_bear : CD y_TG_bear (h_TG_bear) 2 := ⟨m_334, m_28, by decide, by decide +kernel⟩
theorem vi_TG_bear : Cond.instanceMethod y_TG_bear ∈ TT ∧ Cond.selects "TwoGenerations" y_TG_bear y_TG_bear ∈ TT := ⟨m_333, m_7⟩
theorem cd_Gen_free : CD y_Gen_free (h_Gen_free) 0 := ⟨m_338, m_29, by decide, by decide +kernel⟩
theorem vi_Gen_free : Cond.instanceMethod y_Gen_free ∈ TT ∧ Cond.selects "TwoGenerations$Generation" y_Gen_free y_Gen_free ∈ TT := ⟨m_336, m_337⟩
theorem cd_TG_collectYoung : CD y_TG_collectYoung (h_TG_collectYoung) 0 := ⟨m_342, m_28, by decide, by decide +kernel⟩
theorem vi_TG_collectYoung : Cond.instanceMethod y_TG_collectYoung ∈ TT ∧ Cond.selects "TwoGenerations" y_TG_collectYoung y_TG_collectYoung ∈ TT := ⟨m_341, m_8⟩
theorem cd_Tr_findAll : CD y_Tr_findAll (h_Tr_findAll) 1 := ⟨m_346, m_30, by decide, by decide +kernel⟩
theorem vi_Tr_findAll : Cond.instanceMethod y_Tr_findAll ∈ TT ∧ Cond.selects "TwoGenerations$Trace" y_Tr_findAll y_Tr_findAll ∈ TT := ⟨m_344, m_345⟩
theorem cd_Gen_reachedCells : CD y_Gen_reachedCells (h_Gen_reachedCells) 0 := ⟨m_350, m_29, by decide, by decide +kernel⟩
theorem vi_Gen_reachedCells : Cond.instanceMethod y_Gen_reachedCells ∈ TT ∧ Cond.selects "TwoGenerations$Generation" y_Gen_reachedCells y_Gen_reachedCells ∈ TT := ⟨m_348, m_349⟩
theorem cd_Gen_adoptReached : CD y_Gen_adoptReached (h_Gen_adoptReached) 1 := ⟨m_354, m_29, by decide, by decide +kernel⟩
theorem vi_Gen_adoptReached : Cond.instanceMethod y_Gen_adoptReached ∈ TT ∧ Cond.selects "TwoGenerations$Generation" y_Gen_adoptReached y_Gen_adoptReached ∈ TT := ⟨m_352, m_353⟩
theorem cd_La_weak : CD y_La_weak (h_La_weak) 3 := ⟨m_375, m_27, by decide, by decide +kernel⟩
theorem st_La_weak : Cond.static y_La_weak ∈ TT := m_374
theorem cd_TG_weak : CD y_TG_weak (h_TG_weak) 2 := ⟨m_379, m_28, by decide, by decide +kernel⟩
theorem vi_TG_weak : Cond.instanceMethod y_TG_weak ∈ TT ∧ Cond.selects "TwoGenerations" y_TG_weak y_TG_weak ∈ TT := ⟨m_377, m_378⟩
theorem cd_Wk_init : CD y_Wk_init (h_Wk_init) 1 := ⟨m_385, m_40, by decide, by decide +kernel⟩
theorem ii_Wk_init : y_Wk_init.name = "<init>" ∧ Cond.instanceMethod y_Wk_init ∈ TT := ⟨rfl, m_384⟩
theorem cd_La_load : CD y_La_load (h_La_load) 4 := ⟨m_397, m_27, by decide, by decide +kernel⟩
theorem st_La_load : Cond.static y_La_load ∈ TT := m_396
theorem cd_TG_load : CD y_TG_load (h_TG_load) 3 := ⟨m_401, m_28, by decide, by decide +kernel⟩
theorem vi_TG_load : Cond.instanceMethod y_TG_load ∈ TT ∧ Cond.selects "TwoGenerations" y_TG_load y_TG_load ∈ TT := ⟨m_399, m_400⟩
theorem cd_Pl_hasField : CD y_Pl_hasField (h_Pl_hasField) 1 := ⟨m_405, m_38, by decide, by decide +kernel⟩
theorem vi_Pl_hasField : Cond.instanceMethod y_Pl_hasField ∈ TT ∧ Cond.selects "TwoGenerations$Plain" y_Pl_hasField y_Pl_hasField ∈ TT := ⟨m_403, m_404⟩
theorem cd_La_store : CD y_La_store (h_La_store) 4 := ⟨m_409, m_27, by decide, by decide +kernel⟩
theorem st_La_store : Cond.static y_La_store ∈ TT := m_408
theorem cd_TG_store : CD y_TG_store (h_TG_store) 3 := ⟨m_413, m_28, by decide, by decide +kernel⟩
theorem vi_TG_store : Cond.instanceMethod y_TG_store ∈ TT ∧ Cond.selects "TwoGenerations" y_TG_store y_TG_store ∈ TT := ⟨m_411, m_412⟩
theorem cd_La_target : CD y_La_target (h_La_target) 3 := ⟨m_416, m_27, by decide, by decide +kernel⟩
theorem st_La_target : Cond.static y_La_target ∈ TT := m_415
theorem cd_TG_target : CD y_TG_target (h_TG_target) 2 := ⟨m_420, m_28, by decide, by decide +kernel⟩
theorem vi_TG_target : Cond.instanceMethod y_TG_target ∈ TT ∧ Cond.selects "TwoGenerations" y_TG_target y_TG_target ∈ TT := ⟨m_418, m_419⟩
theorem cd_TG_weakIn : CD y_TG_weakIn (h_TG_weakIn) 1 := ⟨m_424, m_28, by decide, by decide +kernel⟩
theorem vi_TG_weakIn : Cond.instanceMethod y_TG_weakIn ∈ TT ∧ Cond.selects "TwoGenerations" y_TG_weakIn y_TG_weakIn ∈ TT := ⟨m_423, m_9⟩
theorem cd_La_number : CD y_La_number (h_La_number) 3 := ⟨m_428, m_27, by decide, by decide +kernel⟩
theorem st_La_number : Cond.static y_La_number ∈ TT := m_427
theorem cd_TG_number : CD y_TG_number (h_TG_number) 2 := ⟨m_432, m_28, by decide, by decide +kernel⟩
theorem vi_TG_number : Cond.instanceMethod y_TG_number ∈ TT ∧ Cond.selects "TwoGenerations" y_TG_number y_TG_number ∈ TT := ⟨m_430, m_431⟩
theorem cd_Wh_init : CD y_Wh_init (h_Wh_init) 1 := ⟨m_439, m_41, by decide, by decide +kernel⟩
theorem ii_Wh_init : y_Wh_init.name = "<init>" ∧ Cond.instanceMethod y_Wh_init ∈ TT := ⟨rfl, m_438⟩
theorem cd_La_clear : CD y_La_clear (h_La_clear) 2 := ⟨m_448, m_27, by decide, by decide +kernel⟩
theorem st_La_clear : Cond.static y_La_clear ∈ TT := m_447
theorem cd_TG_clear : CD y_TG_clear (h_TG_clear) 1 := ⟨m_452, m_28, by decide, by decide +kernel⟩
theorem vi_TG_clear : Cond.instanceMethod y_TG_clear ∈ TT ∧ Cond.selects "TwoGenerations" y_TG_clear y_TG_clear ∈ TT := ⟨m_450, m_451⟩
theorem cd_La_move : CD y_La_move (h_La_move) 3 := ⟨m_456, m_27, by decide, by decide +kernel⟩
theorem st_La_move : Cond.static y_La_move ∈ TT := m_455
theorem cd_TG_move : CD y_TG_move (h_TG_move) 2 := ⟨m_460, m_28, by decide, by decide +kernel⟩
theorem vi_TG_move : Cond.instanceMethod y_TG_move ∈ TT ∧ Cond.selects "TwoGenerations" y_TG_move y_TG_move ∈ TT := ⟨m_458, m_459⟩
theorem cd_La_small : CD y_La_small (h_La_small) 2 := ⟨m_463, m_27, by decide, by decide +kernel⟩
theorem st_La_small : Cond.static y_La_small ∈ TT := m_462
theorem cd_TG_small : CD y_TG_small (h_TG_small) 0 := ⟨m_467, m_28, by decide, by decide +kernel⟩
theorem vi_TG_small : Cond.instanceMethod y_TG_small ∈ TT ∧ Cond.selects "TwoGenerations" y_TG_small y_TG_small ∈ TT := ⟨m_465, m_466⟩
theorem cd_Mo_init : CD y_Mo_init (h_Mo_init) 3 := ⟨m_472, m_31, by decide, by decide +kernel⟩
theorem ii_Mo_init : y_Mo_init.name = "<init>" ∧ Cond.instanceMethod y_Mo_init ∈ TT := ⟨rfl, m_471⟩
theorem cd_Mo_thrown : CD y_Mo_thrown (h_Mo_thrown) 0 := ⟨m_521, m_31, by decide, by decide +kernel⟩
theorem vi_Mo_thrown : Cond.instanceMethod y_Mo_thrown ∈ TT ∧ Cond.selects "TwoGenerationsModel" y_Mo_thrown y_Mo_thrown ∈ TT := ⟨m_519, m_520⟩
theorem cd_Mo_make : CD y_Mo_make (h_Mo_make) 2 := ⟨m_525, m_31, by decide, by decide +kernel⟩
theorem vi_Mo_make : Cond.instanceMethod y_Mo_make ∈ TT ∧ Cond.selects "TwoGenerationsModel" y_Mo_make y_Mo_make ∈ TT := ⟨m_523, m_524⟩
theorem cd_Mo_is : CD y_Mo_is (h_Mo_is) 1 := ⟨m_529, m_31, by decide, by decide +kernel⟩
theorem vi_Mo_is : Cond.instanceMethod y_Mo_is ∈ TT ∧ Cond.selects "TwoGenerationsModel" y_Mo_is y_Mo_is ∈ TT := ⟨m_528, m_10⟩
theorem cd_Mo_when : CD y_Mo_when (h_Mo_when) 2 := ⟨m_533, m_31, by decide, by decide +kernel⟩
theorem vi_Mo_when : Cond.instanceMethod y_Mo_when ∈ TT ∧ Cond.selects "TwoGenerationsModel" y_Mo_when y_Mo_when ∈ TT := ⟨m_532, m_11⟩
theorem cd_Mo_room : CD y_Mo_room (h_Mo_room) 1 := ⟨m_537, m_31, by decide, by decide +kernel⟩
theorem vi_Mo_room : Cond.instanceMethod y_Mo_room ∈ TT ∧ Cond.selects "TwoGenerationsModel" y_Mo_room y_Mo_room ∈ TT := ⟨m_536, m_12⟩
theorem cd_Mo_taken : CD y_Mo_taken (h_Mo_taken) 1 := ⟨m_541, m_31, by decide, by decide +kernel⟩
theorem vi_Mo_taken : Cond.instanceMethod y_Mo_taken ∈ TT ∧ Cond.selects "TwoGenerationsModel" y_Mo_taken y_Mo_taken ∈ TT := ⟨m_540, m_13⟩
theorem cd_Mo_cellsOf : CD y_Mo_cellsOf (h_Mo_cellsOf) 1 := ⟨m_545, m_31, by decide, by decide +kernel⟩
theorem vi_Mo_cellsOf : Cond.instanceMethod y_Mo_cellsOf ∈ TT ∧ Cond.selects "TwoGenerationsModel" y_Mo_cellsOf y_Mo_cellsOf ∈ TT := ⟨m_544, m_14⟩
theorem cd_Mo_grow : CD y_Mo_grow (h_Mo_grow) 0 := ⟨m_549, m_31, by decide, by decide +kernel⟩
theorem vi_Mo_grow : Cond.instanceMethod y_Mo_grow ∈ TT ∧ Cond.selects "TwoGenerationsModel" y_Mo_grow y_Mo_grow ∈ TT := ⟨m_548, m_15⟩
theorem cd_Mo_clearOld : CD y_Mo_clearOld (h_Mo_clearOld) 0 := ⟨m_553, m_31, by decide, by decide +kernel⟩
theorem vi_Mo_clearOld : Cond.instanceMethod y_Mo_clearOld ∈ TT ∧ Cond.selects "TwoGenerationsModel" y_Mo_clearOld y_Mo_clearOld ∈ TT := ⟨m_552, m_16⟩
theorem cd_Mo_nothing : CD y_Mo_nothing (h_Mo_nothing) 0 := ⟨m_557, m_31, by decide, by decide +kernel⟩
theorem vi_Mo_nothing : Cond.instanceMethod y_Mo_nothing ∈ TT ∧ Cond.selects "TwoGenerationsModel" y_Mo_nothing y_Mo_nothing ∈ TT := ⟨m_556, m_17⟩
theorem cd_Mo_markRegisters : CD y_Mo_markRegisters (h_Mo_markRegisters) 0 := ⟨m_561, m_31, by decide, by decide +kernel⟩
theorem vi_Mo_markRegisters : Cond.instanceMethod y_Mo_markRegisters ∈ TT ∧ Cond.selects "TwoGenerationsModel" y_Mo_markRegisters y_Mo_markRegisters ∈ TT := ⟨m_560, m_18⟩
theorem cd_Mo_mark : CD y_Mo_mark (h_Mo_mark) 1 := ⟨m_565, m_31, by decide, by decide +kernel⟩
theorem vi_Mo_mark : Cond.instanceMethod y_Mo_mark ∈ TT ∧ Cond.selects "TwoGenerationsModel" y_Mo_mark y_Mo_mark ∈ TT := ⟨m_564, m_19⟩
theorem cd_Mo_spread : CD y_Mo_spread (h_Mo_spread) 0 := ⟨m_570, m_31, by decide, by decide +kernel⟩
theorem vi_Mo_spread : Cond.instanceMethod y_Mo_spread ∈ TT ∧ Cond.selects "TwoGenerationsModel" y_Mo_spread y_Mo_spread ∈ TT := ⟨m_569, m_20⟩
theorem cd_Mo_marked : CD y_Mo_marked (h_Mo_marked) 0 := ⟨m_574, m_31, by decide, by decide +kernel⟩
theorem vi_Mo_marked : Cond.instanceMethod y_Mo_marked ∈ TT ∧ Cond.selects "TwoGenerationsModel" y_Mo_marked y_Mo_marked ∈ TT := ⟨m_573, m_21⟩
theorem cd_Mo_markFields : CD y_Mo_markFields (h_Mo_markFields) 1 := ⟨m_578, m_31, by decide, by decide +kernel⟩
theorem vi_Mo_markFields : Cond.instanceMethod y_Mo_markFields ∈ TT ∧ Cond.selects "TwoGenerationsModel" y_Mo_markFields y_Mo_markFields ∈ TT := ⟨m_577, m_22⟩
theorem cd_Mo_tellWeak : CD y_Mo_tellWeak (h_Mo_tellWeak) 0 := ⟨m_582, m_31, by decide, by decide +kernel⟩
theorem vi_Mo_tellWeak : Cond.instanceMethod y_Mo_tellWeak ∈ TT ∧ Cond.selects "TwoGenerationsModel" y_Mo_tellWeak y_Mo_tellWeak ∈ TT := ⟨m_581, m_23⟩
theorem cd_Mo_born : CD y_Mo_born (h_Mo_born) 3 := ⟨m_586, m_31, by decide, by decide +kernel⟩
theorem vi_Mo_born : Cond.instanceMethod y_Mo_born ∈ TT ∧ Cond.selects "TwoGenerationsModel" y_Mo_born y_Mo_born ∈ TT := ⟨m_585, m_24⟩
theorem cd_Mo_weak : CD y_Mo_weak (h_Mo_weak) 2 := ⟨m_590, m_31, by decide, by decide +kernel⟩
theorem vi_Mo_weak : Cond.instanceMethod y_Mo_weak ∈ TT ∧ Cond.selects "TwoGenerationsModel" y_Mo_weak y_Mo_weak ∈ TT := ⟨m_588, m_589⟩
theorem cd_Mo_placeIn : CD y_Mo_placeIn (h_Mo_placeIn) 1 := ⟨m_594, m_31, by decide, by decide +kernel⟩
theorem vi_Mo_placeIn : Cond.instanceMethod y_Mo_placeIn ∈ TT ∧ Cond.selects "TwoGenerationsModel" y_Mo_placeIn y_Mo_placeIn ∈ TT := ⟨m_593, m_25⟩
theorem cd_Mo_small : CD y_Mo_small (h_Mo_small) 0 := ⟨m_598, m_31, by decide, by decide +kernel⟩
theorem vi_Mo_small : Cond.instanceMethod y_Mo_small ∈ TT ∧ Cond.selects "TwoGenerationsModel" y_Mo_small y_Mo_small ∈ TT := ⟨m_596, m_597⟩
theorem cd_Mo_great : CD y_Mo_great (h_Mo_great) 0 := ⟨m_602, m_31, by decide, by decide +kernel⟩
theorem vi_Mo_great : Cond.instanceMethod y_Mo_great ∈ TT ∧ Cond.selects "TwoGenerationsModel" y_Mo_great y_Mo_great ∈ TT := ⟨m_600, m_601⟩
theorem cd_Mo_load : CD y_Mo_load (h_Mo_load) 3 := ⟨m_606, m_31, by decide, by decide +kernel⟩
theorem vi_Mo_load : Cond.instanceMethod y_Mo_load ∈ TT ∧ Cond.selects "TwoGenerationsModel" y_Mo_load y_Mo_load ∈ TT := ⟨m_604, m_605⟩
theorem cd_Mo_hasField : CD y_Mo_hasField (h_Mo_hasField) 2 := ⟨m_610, m_31, by decide, by decide +kernel⟩
theorem vi_Mo_hasField : Cond.instanceMethod y_Mo_hasField ∈ TT ∧ Cond.selects "TwoGenerationsModel" y_Mo_hasField y_Mo_hasField ∈ TT := ⟨m_609, m_26⟩
theorem cd_Mo_store : CD y_Mo_store (h_Mo_store) 3 := ⟨m_614, m_31, by decide, by decide +kernel⟩
theorem vi_Mo_store : Cond.instanceMethod y_Mo_store ∈ TT ∧ Cond.selects "TwoGenerationsModel" y_Mo_store y_Mo_store ∈ TT := ⟨m_612, m_613⟩
theorem cd_Mo_target : CD y_Mo_target (h_Mo_target) 2 := ⟨m_618, m_31, by decide, by decide +kernel⟩
theorem vi_Mo_target : Cond.instanceMethod y_Mo_target ∈ TT ∧ Cond.selects "TwoGenerationsModel" y_Mo_target y_Mo_target ∈ TT := ⟨m_616, m_617⟩
theorem cd_Mo_number : CD y_Mo_number (h_Mo_number) 2 := ⟨m_622, m_31, by decide, by decide +kernel⟩
theorem vi_Mo_number : Cond.instanceMethod y_Mo_number ∈ TT ∧ Cond.selects "TwoGenerationsModel" y_Mo_number y_Mo_number ∈ TT := ⟨m_620, m_621⟩
theorem cd_Mo_clear : CD y_Mo_clear (h_Mo_clear) 1 := ⟨m_628, m_31, by decide, by decide +kernel⟩
theorem vi_Mo_clear : Cond.instanceMethod y_Mo_clear ∈ TT ∧ Cond.selects "TwoGenerationsModel" y_Mo_clear y_Mo_clear ∈ TT := ⟨m_626, m_627⟩
theorem cd_Mo_move : CD y_Mo_move (h_Mo_move) 2 := ⟨m_632, m_31, by decide, by decide +kernel⟩
theorem vi_Mo_move : Cond.instanceMethod y_Mo_move ∈ TT ∧ Cond.selects "TwoGenerationsModel" y_Mo_move y_Mo_move ∈ TT := ⟨m_630, m_631⟩
theorem cd_Mo_kind : CD y_Mo_kind (h_Mo_kind) 1 := ⟨m_636, m_31, by decide, by decide +kernel⟩
theorem vi_Mo_kind : Cond.instanceMethod y_Mo_kind ∈ TT ∧ Cond.selects "TwoGenerationsModel" y_Mo_kind y_Mo_kind ∈ TT := ⟨m_634, m_635⟩
theorem cd_Mo_value : CD y_Mo_value (h_Mo_value) 1 := ⟨m_640, m_31, by decide, by decide +kernel⟩
theorem vi_Mo_value : Cond.instanceMethod y_Mo_value ∈ TT ∧ Cond.selects "TwoGenerationsModel" y_Mo_value y_Mo_value ∈ TT := ⟨m_638, m_639⟩
theorem cd_Mo_fields : CD y_Mo_fields (h_Mo_fields) 1 := ⟨m_644, m_31, by decide, by decide +kernel⟩
theorem vi_Mo_fields : Cond.instanceMethod y_Mo_fields ∈ TT ∧ Cond.selects "TwoGenerationsModel" y_Mo_fields y_Mo_fields ∈ TT := ⟨m_642, m_643⟩
theorem cd_Mo_same : CD y_Mo_same (h_Mo_same) 2 := ⟨m_648, m_31, by decide, by decide +kernel⟩
theorem vi_Mo_same : Cond.instanceMethod y_Mo_same ∈ TT ∧ Cond.selects "TwoGenerationsModel" y_Mo_same y_Mo_same ∈ TT := ⟨m_646, m_647⟩
theorem cd_Mo_generation : CD y_Mo_generation (h_Mo_generation) 1 := ⟨m_652, m_31, by decide, by decide +kernel⟩
theorem vi_Mo_generation : Cond.instanceMethod y_Mo_generation ∈ TT ∧ Cond.selects "TwoGenerationsModel" y_Mo_generation y_Mo_generation ∈ TT := ⟨m_650, m_651⟩
theorem cd_Mo_reach : CD y_Mo_reach (h_Mo_reach) 1 := ⟨m_656, m_31, by decide, by decide +kernel⟩
theorem vi_Mo_reach : Cond.instanceMethod y_Mo_reach ∈ TT ∧ Cond.selects "TwoGenerationsModel" y_Mo_reach y_Mo_reach ∈ TT := ⟨m_654, m_655⟩
theorem cd_Mo_cells : CD y_Mo_cells (h_Mo_cells) 1 := ⟨m_660, m_31, by decide, by decide +kernel⟩
theorem vi_Mo_cells : Cond.instanceMethod y_Mo_cells ∈ TT ∧ Cond.selects "TwoGenerationsModel" y_Mo_cells y_Mo_cells ∈ TT := ⟨m_658, m_659⟩
theorem cd_Mo_collections : CD y_Mo_collections (h_Mo_collections) 1 := ⟨m_664, m_31, by decide, by decide +kernel⟩
theorem vi_Mo_collections : Cond.instanceMethod y_Mo_collections ∈ TT ∧ Cond.selects "TwoGenerationsModel" y_Mo_collections y_Mo_collections ∈ TT := ⟨m_662, m_663⟩
end
section
def rmL (d mc ms : Nat) : Room := { frames := d, cells := mc, slots := ms, locals := 26 * d }
section JS
variable {Γ : Cxt} {Δ : Dat} {A : Nat → Prop} {l0 : Launch} {cc : ByteArray} {own : String} {nL : Nat} {R0 : Room} {ret : Option FieldType} {nm : String} {w : Wd} {cells slots : Nat} {Q : State → Prop} {pc : Nat} {L : List (Option Value)} {st : List Value}
theorem J_aload_nr (X : Cx Γ Δ A l0 cc own nL R0 ret nm) {k0 : Fin 4} {i : Nat} {a : Nat} (hd : decode cc pc = .ok (.aload_n k0, 1)) (hi : (k0 : Nat) = i) (hL : L[i]? = some (some (.ref a))) (k : J Γ Δ A nL w cells slots Q (pc + 1) L ((.ref a) :: st)) : J Γ Δ A nL w cells slots Q (pc) L (st) := J_aload_n (o := some a) X hd hi hL k
theorem J_aloadr (X : Cx Γ Δ A l0 cc own nL R0 ret nm) {i : Nat} {a : Nat} (hd : decode cc pc = .ok (.aload i, 2)) (hL : L[i]? = some (some (.ref a))) (k : J Γ Δ A nL w cells slots Q (pc + 2) L ((.ref a) :: st)) : J Γ Δ A nL w cells slots Q (pc) L (st) := J_aload (o := some a) X hd hL k
theorem J_astore_nr (X : Cx Γ Δ A l0 cc own nL R0 ret nm) {k0 : Fin 4} {i : Nat} {a : Nat} (hd : decode cc pc = .ok (.astore_n k0, 1)) (hi : (k0 : Nat) = i) (hn : i < nL) {L' : List (Option Value)} (hL : L.set i (some (.ref a)) = L') (k : J Γ Δ A nL w cells slots Q (pc + 1) L' (st)) (hk : lok L = true := by first | rfl | simp [lok, va_rf_cat, vc_r, vc_i, vc_0]) : J Γ Δ A nL w cells slots Q (pc) L ((.ref a) :: st) := J_astore_n (o := some a) X hd hi hn hL k hk
theorem J_astorer (X : Cx Γ Δ A l0 cc own nL R0 ret nm) {i : Nat} {a : Nat} (hd : decode cc pc = .ok (.astore i, 2)) (hn : i < nL) {L' : List (Option Value)} (hL : L.set i (some (.ref a)) = L') (k : J Γ Δ A nL w cells slots Q (pc + 2) L' (st)) (hk : lok L = true := by first | rfl | simp [lok, va_rf_cat, vc_r, vc_i, vc_0]) : J Γ Δ A nL w cells slots Q (pc) L ((.ref a) :: st) := J_astore (o := some a) X hd hn hL k hk
theorem J_putPr (X : Cx Γ Δ A l0 cc own nL R0 ret nm) {a ci k idx : Nat} {b : Nat} {ty : FieldType} (ha : wK w a = some (.inl ci)) (hf : FP own idx ci k ty) (hty : (∃ C, ty = .object C) ∨ ∃ t, ty = .array t) (hft : ft ci k = false) (hd : decode cc pc = .ok (.putfield idx, 3)) (kk : J Γ Δ A nL (uP w a k (some b)) cells slots Q (pc + 3) L (st)) : J Γ Δ A nL w cells slots Q (pc) L ((.ref b) :: .ref a :: st) := J_putP (o := some b) X ha hf hty hft hd kk
theorem J_putPFr (X : Cx Γ Δ A l0 cc own nL R0 ret nm) {a ci k idx : Nat} {b : Nat} {ty : FieldType} (ha : wK w a = some (.inl ci)) (hf : FF own idx ci k ty) (hin2 : nm = "<init>") (hty : (∃ C, ty = .object C) ∨ ∃ t, ty = .array t) (hft : ft ci k = false) (hd : decode cc pc = .ok (.putfield idx, 3)) (kk : J Γ Δ A nL (uP w a k (some b)) cells slots Q (pc + 3) L (st)) : J Γ Δ A nL w cells slots Q (pc) L ((.ref b) :: .ref a :: st) := J_putPF (o := some b) X ha hf hin2 hty hft hd kk
theorem J_aload_n0 (X : Cx Γ Δ A l0 cc own nL R0 ret nm) {k0 : Fin 4} {i : Nat} (hd : decode cc pc = .ok (.aload_n k0, 1)) (hi : (k0 : Nat) = i) (hL : L[i]? = some (some .null)) (k : J Γ Δ A nL w cells slots Q (pc + 1) L (.null :: st)) : J Γ Δ A nL w cells slots Q (pc) L (st) := J_aload_n (o := none) X hd hi hL k
theorem J_aload0 (X : Cx Γ Δ A l0 cc own nL R0 ret nm) {i : Nat} (hd : decode cc pc = .ok (.aload i, 2)) (hL : L[i]? = some (some .null)) (k : J Γ Δ A nL w cells slots Q (pc + 2) L (.null :: st)) : J Γ Δ A nL w cells slots Q (pc) L (st) := J_aload (o := none) X hd hL k
theorem J_astore_n0 (X : Cx Γ Δ A l0 cc own nL R0 ret nm) {k0 : Fin 4} {i : Nat} (hd : decode cc pc = .ok (.astore_n k0, 1)) (hi : (k0 : Nat) = i) (hn : i < nL) {L' : List (Option Value)} (hL : L.set i (some .null) = L') (k : J Γ Δ A nL w cells slots Q (pc + 1) L' (st)) (hk : lok L = true := by first | rfl | simp [lok, va_rf_cat, vc_r, vc_i, vc_0]) : J Γ Δ A nL w cells slots Q (pc) L (.null :: st) := J_astore_n (o := none) X hd hi hn hL k hk
theorem J_astore0 (X : Cx Γ Δ A l0 cc own nL R0 ret nm) {i : Nat} (hd : decode cc pc = .ok (.astore i, 2)) (hn : i < nL) {L' : List (Option Value)} (hL : L.set i (some .null) = L') (k : J Γ Δ A nL w cells slots Q (pc + 2) L' (st)) (hk : lok L = true := by first | rfl | simp [lok, va_rf_cat, vc_r, vc_i, vc_0]) : J Γ Δ A nL w cells slots Q (pc) L (.null :: st) := J_astore (o := none) X hd hn hL k hk
theorem J_putP0 (X : Cx Γ Δ A l0 cc own nL R0 ret nm) {a ci k idx : Nat} {ty : FieldType} (ha : wK w a = some (.inl ci)) (hf : FP own idx ci k ty) (hty : (∃ C, ty = .object C) ∨ ∃ t, ty = .array t) (hft : ft ci k = false) (hd : decode cc pc = .ok (.putfield idx, 3)) (kk : J Γ Δ A nL (uP w a k (none)) cells slots Q (pc + 3) L (st)) : J Γ Δ A nL w cells slots Q (pc) L (.null :: .ref a :: st) := J_putP (o := none) X ha hf hty hft hd kk
theorem J_putPF0 (X : Cx Γ Δ A l0 cc own nL R0 ret nm) {a ci k idx : Nat} {ty : FieldType} (ha : wK w a = some (.inl ci)) (hf : FF own idx ci k ty) (hin2 : nm = "<init>") (hty : (∃ C, ty = .object C) ∨ ∃ t, ty = .array t) (hft : ft ci k = false) (hd : decode cc pc = .ok (.putfield idx, 3)) (kk : J Γ Δ A nL (uP w a k (none)) cells slots Q (pc + 3) L (st)) : J Γ Δ A nL w cells slots Q (pc) L (.null :: .ref a :: st) := J_putPF (o := none) X ha hf hin2 hty hft hd kk
theorem J_ifnullr (X : Cx Γ Δ A l0 cc own nL R0 ret nm) {a : Nat} {off : Int} (hd : decode cc pc = .ok (.ifnull off, 3)) (k : J Γ Δ A nL w cells slots Q (pc + 3) L (st)) : J Γ Δ A nL w cells slots Q (pc) L (.ref a :: st) := by
  obtain ⟨p, l, e, R, s, m, args, below, meth, c⟩ := Γ
  obtain ⟨hl, hR, hx, hb, -⟩ := X
  exact fun H locs ws ls h1 h2 h3 h4 h5 => lv_ifnull hx hb hd (k H locs ws ls h1 h2 h3 h4 h5)
theorem J_ifnull0 (X : Cx Γ Δ A l0 cc own nL R0 ret nm) {off : Int} {tgt : Nat} (hd : decode cc pc = .ok (.ifnull off, 3)) (ht : (pc : Int) + off = (tgt : Int)) (k : J Γ Δ A nL w cells slots Q (tgt) L (st)) : J Γ Δ A nL w cells slots Q (pc) L (.null :: st) := by
  obtain ⟨p, l, e, R, s, m, args, below, meth, c⟩ := Γ
  obtain ⟨hl, hR, hx, hb, -⟩ := X
  exact fun H locs ws ls h1 h2 h3 h4 h5 => lv_ifnullN hx hb hd ht (k H locs ws ls h1 h2 h3 h4 h5)
theorem J_ifnonnullr (X : Cx Γ Δ A l0 cc own nL R0 ret nm) {a : Nat} {off : Int} {tgt : Nat} (hd : decode cc pc = .ok (.ifnonnull off, 3)) (ht : (pc : Int) + off = (tgt : Int)) (k : J Γ Δ A nL w cells slots Q (tgt) L (st)) : J Γ Δ A nL w cells slots Q (pc) L (.ref a :: st) := by
  obtain ⟨p, l, e, R, s, m, args, below, meth, c⟩ := Γ
  obtain ⟨hl, hR, hx, hb, -⟩ := X
  exact fun H locs ws ls h1 h2 h3 h4 h5 => lv_ifnonnull hx hb hd ht (k H locs ws ls h1 h2 h3 h4 h5)
theorem J_ifnonnull0 (X : Cx Γ Δ A l0 cc own nL R0 ret nm) {off : Int} (hd : decode cc pc = .ok (.ifnonnull off, 3)) (k : J Γ Δ A nL w cells slots Q (pc + 3) L (st)) : J Γ Δ A nL w cells slots Q (pc) L (.null :: st) := by
  obtain ⟨p, l, e, R, s, m, args, below, meth, c⟩ := Γ
  obtain ⟨hl, hR, hx, hb, -⟩ := X
  exact fun H locs ws ls h1 h2 h3 h4 h5 => lv_ifnonnullN hx hb hd (k H locs ws ls h1 h2 h3 h4 h5)
theorem J_aastr (X : Cx Γ Δ A l0 cc own nL R0 ret nm) {a t n j y : Nat} {i : Int32} (ha : wK w a = some (.inr (t, n))) (ht : t < nT) (htk : tyK t = 1) (hty : ∃ C, tyL t = .object C) (ho : ∃ ci, wK w y = some (.inl ci) ∧ AC ci t) (hi : i = nI j) (hj : j < n) (hn : n < 2 ^ 31) (hd : decode cc pc = .ok (.aastore, 1)) (kk : J Γ Δ A nL (uP w a j (some y)) cells slots Q (pc + 1) L (st)) : J Γ Δ A nL w cells slots Q (pc) L (.ref y :: .int i :: .ref a :: st) := J_aast (o := some y) X ha ht htk hty (fun z hz => by cases hz; exact ho) hi hj hn hd kk
theorem J_aast0 (X : Cx Γ Δ A l0 cc own nL R0 ret nm) {a t n j : Nat} {i : Int32} (ha : wK w a = some (.inr (t, n))) (ht : t < nT) (htk : tyK t = 1) (hty : ∃ C, tyL t = .object C) (hi : i = nI j) (hj : j < n) (hn : n < 2 ^ 31) (hd : decode cc pc = .ok (.aastore, 1)) (kk : J Γ Δ A nL (uP w a j none) cells slots Q (pc + 1) L (st)) : J Γ Δ A nL w cells slots Q (pc) L (.null :: .int i :: .ref a :: st) := J_aast (o := none) X ha ht htk hty (fun z hz => nomatch hz) hi hj hn hd kk
theorem J_aaldr (X : Cx Γ Δ A l0 cc own nL R0 ret nm) {a t n j v : Nat} {i : Int32} (ha : wK w a = some (.inr (t, n))) (ht : t < nT) (htk : tyK t = 1) (hty : ∃ C, tyL t = .object C) (hi : i = nI j) (hj : j < n) (hn : n < 2 ^ 31) (hv : wP w a j = some v) (hd : decode cc pc = .ok (.aaload, 1)) (kk : J Γ Δ A nL w cells slots Q (pc + 1) L (.ref v :: st)) : J Γ Δ A nL w cells slots Q (pc) L (.int i :: .ref a :: st) := J_aald X ha ht htk hty hi hj hn hv hd kk
variable {post : Option Value → Wd → Prop} {rm : Room} {w0 : Wd}
theorem J_aretr {rt0 : FieldType} (X : Cx Γ Δ (AE Γ w0) l0 cc own nL R0 (some rt0) nm) {a : Nat} (hrt : (∃ n, rt0 = .object n) ∨ ∃ t, rt0 = .array t) (hp : post (some (.ref a)) w) (hc : cells ≤ rm.cells) (hs : slots ≤ rm.slots) (hd : decode cc pc = .ok (.areturn, 1)) : J Γ Δ (AE Γ w0) nL w cells slots (QE Γ Δ w0 post rm) pc L [(.ref a)] := J_aret (o := some a) X hrt hp hc hs hd
theorem J_aret0 {rt0 : FieldType} (X : Cx Γ Δ (AE Γ w0) l0 cc own nL R0 (some rt0) nm) (hrt : (∃ n, rt0 = .object n) ∨ ∃ t, rt0 = .array t) (hp : post (some .null) w) (hc : cells ≤ rm.cells) (hs : slots ≤ rm.slots) (hd : decode cc pc = .ok (.areturn, 1)) : J Γ Δ (AE Γ w0) nL w cells slots (QE Γ Δ w0 post rm) pc L [.null] := J_aret (o := none) X hrt hp hc hs hd
end JS
end
section
/-! leaves of the class: within, free, empty, hasField, the constructors -/
section LF
variable {l : Launch} {Δ : Dat} {w : Wd}
set_option maxRecDepth 100000 in
theorem k_within {v lo hi : Int32} : Ct l y_TG_within h_TG_within (rmL 0 0 0) Δ [.int v, .int lo, .int hi] w (fun r w' => r = some (.int (if lo ≤ v ∧ v ≤ hi then 1 else 0)) ∧ w' = w) := by
  refine Ct_of (L := [some (.int v), some (.int lo), some (.int hi)]) (by decide) (by first | exact Nat.le_of_ble_eq_true rfl | simp [lg_sl, va_rf_cat, vc_r, vc_i, vc_0]) (by first | rfl | simp [lin, va_rf_cat, vc_r, vc_i, vc_0]) (fun Γ X => ?_)
  refine J_iload_n X d_TG_within_0 rfl rfl ?_
  refine J_iload_n X d_TG_within_1 rfl rfl ?_
  refine J_icmp_gt (tgt := 14) X d_TG_within_2 (by decide) (fun g => ?_) (fun g => ?_)
  · refine J_iconst (v := 0) X d_TG_within_14 (by decide) ?_
    exact J_zret X (Or.inl rfl) ⟨by rw [if_neg (fun q => (Int32.not_le.mpr g) q.1)], rfl⟩ (by decide) (by decide) d_TG_within_15
  · refine J_iload_n X d_TG_within_5 rfl rfl ?_
    refine J_iload_n X d_TG_within_6 rfl rfl ?_
    refine J_icmp_gt (tgt := 14) X d_TG_within_7 (by decide) (fun g2 => ?_) (fun g2 => ?_)
    · refine J_iconst (v := 0) X d_TG_within_14 (by decide) ?_
      exact J_zret X (Or.inl rfl) ⟨by rw [if_neg (fun q => (Int32.not_le.mpr g2) q.2)], rfl⟩ (by decide) (by decide) d_TG_within_15
    · refine J_iconst (v := 1) X d_TG_within_10 (by decide) ?_
      refine J_goto (tgt := 15) X d_TG_within_11 (by decide) ?_
      exact J_zret X (Or.inr rfl) ⟨by rw [if_pos ⟨Int32.not_lt.mp g, Int32.not_lt.mp g2⟩], rfl⟩ (by decide) (by decide) d_TG_within_15
set_option maxRecDepth 100000 in
theorem k_free {g : Nat} (hg : wK w g = some (.inl 1)) : Ct l y_Gen_free h_Gen_free (rmL 0 0 0) Δ [.ref g] w (fun r w' => r = some (.int (wI w g 0 - wI w g 3)) ∧ w' = w) := by
  refine Ct_of (L := [some (.ref g)]) (by decide) (by first | exact Nat.le_of_ble_eq_true rfl | simp [lg_sl, va_rf_cat, vc_r, vc_i, vc_0]) (by first | rfl | simp [lin, va_rf_cat, vc_r, vc_i, vc_0]) (fun Γ X => ?_)
  first | refine J_aload_nr X d_Gen_free_0 rfl rfl ?_ | refine J_aload_n X d_Gen_free_0 rfl rfl ?_ | refine J_aload_n0 X d_Gen_free_0 rfl rfl ?_
  refine J_getI X (hg) fa_Gen_7_1 rfl (rfl) d_Gen_free_1 ?_
  first | refine J_aload_nr X d_Gen_free_4 rfl rfl ?_ | refine J_aload_n X d_Gen_free_4 rfl rfl ?_ | refine J_aload_n0 X d_Gen_free_4 rfl rfl ?_
  refine J_getI X (hg) fa_Gen_19_1 rfl (rfl) d_Gen_free_5 ?_
  refine J_isub X d_Gen_free_8 ?_
  exact J_iret X ⟨rfl, rfl⟩ (by decide) (by decide) d_Gen_free_9
set_option maxRecDepth 100000 in
theorem k_empty {g : Nat} (hg : wK w g = some (.inl 1)) : Ct l y_Gen_empty h_Gen_empty (rmL 0 0 0) Δ [.ref g] w (fun r w' => r = none ∧ w' = uI (uI w g 2 0) g 3 0) := by
  refine Ct_of (L := [some (.ref g)]) (by decide) (by first | exact Nat.le_of_ble_eq_true rfl | simp [lg_sl, va_rf_cat, vc_r, vc_i, vc_0]) (by first | rfl | simp [lin, va_rf_cat, vc_r, vc_i, vc_0]) (fun Γ X => ?_)
  first | refine J_aload_nr X d_Gen_empty_0 rfl rfl ?_ | refine J_aload_n X d_Gen_empty_0 rfl rfl ?_ | refine J_aload_n0 X d_Gen_empty_0 rfl rfl ?_
  refine J_iconst (v := 0) X d_Gen_empty_1 (by decide) ?_
  refine J_putI X (hg) fp_Gen_22_1 rfl d_Gen_empty_2 ?_
  first | refine J_aload_nr X d_Gen_empty_5 rfl rfl ?_ | refine J_aload_n X d_Gen_empty_5 rfl rfl ?_ | refine J_aload_n0 X d_Gen_empty_5 rfl rfl ?_
  refine J_iconst (v := 0) X d_Gen_empty_6 (by decide) ?_
  refine J_putI X (hg) fp_Gen_19_1 rfl d_Gen_empty_7 ?_
  exact J_vret X ⟨rfl, rfl⟩ (by decide) (by decide) d_Gen_empty_10
set_option maxRecDepth 100000 in
theorem k_hasField {p c n : Nat} {i : Int32} (hp : wK w p = some (.inl 3)) (hc : wP w p 3 = some c) (hn : wK w c = some (.inr (3, n))) : Ct l y_Pl_hasField h_Pl_hasField (rmL 0 0 0) Δ [.ref p, .int i] w (fun r w' => r = some (.int (if 0 ≤ i ∧ i < nI n then 1 else 0)) ∧ w' = w) := by
  refine Ct_of (L := [some (.ref p), some (.int i)]) (by decide) (by first | exact Nat.le_of_ble_eq_true rfl | simp [lg_sl, va_rf_cat, vc_r, vc_i, vc_0]) (by first | rfl | simp [lin, va_rf_cat, vc_r, vc_i, vc_0]) (fun Γ X => ?_)
  refine J_iconst (v := 0) X d_Pl_hasField_0 (by decide) ?_
  refine J_iload_n X d_Pl_hasField_1 rfl rfl ?_
  refine J_icmp_gt (tgt := 18) X d_Pl_hasField_2 (by decide) (fun g => ?_) (fun g => ?_)
  · refine J_iconst (v := 0) X d_Pl_hasField_18 (by decide) ?_
    exact J_zret X (Or.inl rfl) ⟨by rw [if_neg (fun q => (Int32.not_le.mpr g) q.1)], rfl⟩ (by decide) (by decide) d_Pl_hasField_19
  · refine J_iload_n X d_Pl_hasField_5 rfl rfl ?_
    first | refine J_aload_nr X d_Pl_hasField_6 rfl rfl ?_ | refine J_aload_n X d_Pl_hasField_6 rfl rfl ?_ | refine J_aload_n0 X d_Pl_hasField_6 rfl rfl ?_
    refine J_getR X (hp) fa_Pl_9_3 rfl (hc) d_Pl_hasField_7 ?_
    refine J_alen X (hn) (by decide) d_Pl_hasField_10 ?_
    refine J_icmp_ge (tgt := 18) X d_Pl_hasField_11 (by decide) (fun g2 => ?_) (fun g2 => ?_)
    · refine J_iconst (v := 0) X d_Pl_hasField_18 (by decide) ?_
      exact J_zret X (Or.inl rfl) ⟨by rw [if_neg (fun q => (Int32.not_lt.mpr g2) q.2)], rfl⟩ (by decide) (by decide) d_Pl_hasField_19
    · refine J_iconst (v := 1) X d_Pl_hasField_14 (by decide) ?_
      refine J_goto (tgt := 19) X d_Pl_hasField_15 (by decide) ?_
      exact J_zret X (Or.inr rfl) ⟨by rw [if_pos ⟨Int32.not_lt.mp g, Int32.not_le.mp g2⟩], rfl⟩ (by decide) (by decide) d_Pl_hasField_19
set_option maxRecDepth 100000 in
theorem k_Va_init {a : Nat} : Ct l y_Va_init h_Va_init (rmL 1 0 0) Δ [.ref a] w (fun r w' => r = none ∧ w' = w) := by
  refine Ct_of (L := [some (.ref a)]) (by decide) (by first | exact Nat.le_of_ble_eq_true rfl | simp [lg_sl, va_rf_cat, vc_r, vc_i, vc_0]) (by first | rfl | simp [lin, va_rf_cat, vc_r, vc_i, vc_0]) (fun Γ X => ?_)
  first | refine J_aload_nr X d_Va_init_0 rfl rfl ?_ | refine J_aload_n X d_Va_init_0 rfl rfl ?_ | refine J_aload_n0 X d_Va_init_0 rfl rfl ?_
  refine J_objInit X m_308 m_48 m_49 (by decide) (by decide) (by first | decide | simp [va_rf_cat, vc_r, vc_i, vc_0]) d_Va_init_1 ?_
  exact J_vret X ⟨rfl, rfl⟩ (by decide) (by decide) d_Va_init_4
set_option maxRecDepth 100000 in
theorem k_Th_init {a ci : Nat} {n : Int32} (hci : ci = 3 ∨ ci = 4) (ha : wK w a = some (.inl ci)) : Ct l y_Th_init h_Th_init (rmL 2 0 0) Δ [.ref a, .int n] w (fun r w' => r = none ∧ w' = uI w a 0 n) := by
  refine Ct_of (L := [some (.ref a), some (.int n)]) (by decide) (by first | exact Nat.le_of_ble_eq_true rfl | simp [lg_sl, va_rf_cat, vc_r, vc_i, vc_0]) (by first | rfl | simp [lin, va_rf_cat, vc_r, vc_i, vc_0]) (fun Γ X => ?_)
  first | refine J_aload_nr X d_Th_init_0 rfl rfl ?_ | refine J_aload_n X d_Th_init_0 rfl rfl ?_ | refine J_aload_n0 X d_Th_init_0 rfl rfl ?_
  refine J_callIN X (k_Va_init (a := a)) cd_Va_init m_305 ii_Va_init (by decide) (by decide) (by decide) (by decide) rfl (by first | decide | simp [va_rf_cat, vc_r, vc_i, vc_0]) d_Th_init_1 (fun r w1 hr => ?_)
  obtain ⟨rfl, rfl⟩ := hr
  first | refine J_aload_nr X d_Th_init_4 rfl rfl ?_ | refine J_aload_n X d_Th_init_4 rfl rfl ?_ | refine J_aload_n0 X d_Th_init_4 rfl rfl ?_
  refine J_iload_n X d_Th_init_5 rfl rfl ?_
  refine J_putIF X (ha) (ffT_Th_7 hci).1 rfl (ffT_Th_7 hci).2 d_Th_init_6 ?_
  exact J_vret X ⟨rfl, rfl⟩ (by decide) (by decide) d_Th_init_9
set_option maxRecDepth 100000 in
theorem k_Wh_init {a : Nat} {n : Int32} (ha : wK w a = some (.inl 5)) : Ct l y_Wh_init h_Wh_init (rmL 2 0 0) Δ [.ref a, .int n] w (fun r w' => r = none ∧ w' = uI w a 0 n) := by
  refine Ct_of (L := [some (.ref a), some (.int n)]) (by decide) (by first | exact Nat.le_of_ble_eq_true rfl | simp [lg_sl, va_rf_cat, vc_r, vc_i, vc_0]) (by first | rfl | simp [lin, va_rf_cat, vc_r, vc_i, vc_0]) (fun Γ X => ?_)
  first | refine J_aload_nr X d_Wh_init_0 rfl rfl ?_ | refine J_aload_n X d_Wh_init_0 rfl rfl ?_ | refine J_aload_n0 X d_Wh_init_0 rfl rfl ?_
  refine J_callIN X (k_Va_init (a := a)) cd_Va_init m_440 ii_Va_init (by decide) (by decide) (by decide) (by decide) rfl (by first | decide | simp [va_rf_cat, vc_r, vc_i, vc_0]) d_Wh_init_1 (fun r w1 hr => ?_)
  obtain ⟨rfl, rfl⟩ := hr
  first | refine J_aload_nr X d_Wh_init_4 rfl rfl ?_ | refine J_aload_n X d_Wh_init_4 rfl rfl ?_ | refine J_aload_n0 X d_Wh_init_4 rfl rfl ?_
  refine J_iload_n X d_Wh_init_5 rfl rfl ?_
  refine J_putIF X (ha) ff_Wh_7_5 rfl rfl d_Wh_init_6 ?_
  exact J_vret X ⟨rfl, rfl⟩ (by decide) (by decide) d_Wh_init_9
set_option maxRecDepth 100000 in
theorem k_Wk_init {a : Nat} {o : Option Nat} (ha : wK w a = some (.inl 4)) : Ct l y_Wk_init h_Wk_init (rmL 3 0 0) Δ [.ref a, va_rf o] w (fun r w' => r = none ∧ w' = uP (uI w a 0 2) a 3 o) := by
  refine Ct_of (L := [some (.ref a), some (va_rf o)]) (by decide) (by first | exact Nat.le_of_ble_eq_true rfl | simp [lg_sl, va_rf_cat, vc_r, vc_i, vc_0]) (by first | rfl | simp [lin, va_rf_cat, vc_r, vc_i, vc_0]) (fun Γ X => ?_)
  first | refine J_aload_nr X d_Wk_init_0 rfl rfl ?_ | refine J_aload_n X d_Wk_init_0 rfl rfl ?_ | refine J_aload_n0 X d_Wk_init_0 rfl rfl ?_
  refine J_iconst (v := 2) X d_Wk_init_1 (by decide) ?_
  refine J_callI X (k_Th_init (a := a) (n := 2) (Or.inr rfl) ha) cd_Th_init lk_Wk_1 ii_Th_init (by decide) (by decide) (by decide) (by decide) rfl (by first | decide | simp [va_rf_cat, vc_r, vc_i, vc_0]) d_Wk_init_2 (fun r w1 hr => ?_)
  obtain ⟨rfl, rfl⟩ := hr
  first | refine J_aload_nr X d_Wk_init_5 rfl rfl ?_ | refine J_aload_n X d_Wk_init_5 rfl rfl ?_ | refine J_aload_n0 X d_Wk_init_5 rfl rfl ?_
  first | refine J_aload_nr X d_Wk_init_6 rfl rfl ?_ | refine J_aload_n X d_Wk_init_6 rfl rfl ?_ | refine J_aload_n0 X d_Wk_init_6 rfl rfl ?_
  first | refine J_putPr X (ha) fp_Wk_7_4 (Or.inl ⟨_, rfl⟩) rfl d_Wk_init_7 ?_ | refine J_putP X (ha) fp_Wk_7_4 (Or.inl ⟨_, rfl⟩) rfl d_Wk_init_7 ?_ | refine J_putP0 X (ha) fp_Wk_7_4 (Or.inl ⟨_, rfl⟩) rfl d_Wk_init_7 ?_
  exact J_vret X ⟨rfl, rfl⟩ (by decide) (by decide) d_Wk_init_10
set_option maxRecDepth 100000 in
theorem k_Pl_init {a n : Nat} (ha : wK w a = some (.inl 3)) (hn : n ≤ 11) : Ct l y_Pl_init h_Pl_init (rmL 3 1 11) Δ [.ref a, .int (nI n)] w (fun r w' => r = none ∧ ∃ q, wK w q = none ∧ w' = uP (uN (uI w a 0 (nI (n + 1))) q (.inr (3, n))) a 3 (some q)) := by
  refine Ct_of (L := [some (.ref a), some (.int (nI n))]) (by decide) (by first | exact Nat.le_of_ble_eq_true rfl | simp [lg_sl, va_rf_cat, vc_r, vc_i, vc_0]) (by first | rfl | simp [lin, va_rf_cat, vc_r, vc_i, vc_0]) (fun Γ X => ?_)
  first | refine J_aload_nr X d_Pl_init_0 rfl rfl ?_ | refine J_aload_n X d_Pl_init_0 rfl rfl ?_ | refine J_aload_n0 X d_Pl_init_0 rfl rfl ?_
  refine J_iload_n X d_Pl_init_1 rfl rfl ?_
  refine J_iconst (v := 1) X d_Pl_init_2 (by decide) ?_
  refine J_iadd X d_Pl_init_3 ?_
  refine J_top (v' := .int (nI (n + 1))) (by rw [show (1 : Int32) = nI 1 from rfl, nI_add]) ?_
  refine J_callI X (k_Th_init (a := a) (n := nI (n + 1)) (Or.inl rfl) ha) cd_Th_init lk_Pl_1 ii_Th_init (by decide) (by decide) (by decide) (by decide) rfl (by first | decide | simp [va_rf_cat, vc_r, vc_i, vc_0]) d_Pl_init_4 (fun r w1 hr => ?_)
  obtain ⟨rfl, rfl⟩ := hr
  first | refine J_aload_nr X d_Pl_init_7 rfl rfl ?_ | refine J_aload_n X d_Pl_init_7 rfl rfl ?_ | refine J_aload_n0 X d_Pl_init_7 rfl rfl ?_
  refine J_iload_n X d_Pl_init_8 rfl rfl ?_
  refine J_newq X nq_Pl_7 rfl (by omega) (by decide) (by show 0 + 0 + n ≤ 11; omega) d_Pl_init_9 (fun q hq => ?_)
  have hqa : a ≠ q := ne_new ha hq
  first | refine J_putPFr X (by rw [wK_uN, if_neg hqa]; exact ha) ff_Pl_9_3 rfl (Or.inr ⟨_, rfl⟩) rfl d_Pl_init_12 ?_ | refine J_putPF X (by rw [wK_uN, if_neg hqa]; exact ha) ff_Pl_9_3 rfl (Or.inr ⟨_, rfl⟩) rfl d_Pl_init_12 ?_ | refine J_putPF0 X (by rw [wK_uN, if_neg hqa]; exact ha) ff_Pl_9_3 rfl (Or.inr ⟨_, rfl⟩) rfl d_Pl_init_12 ?_
  exact J_vret X ⟨rfl, q, hq, rfl⟩ (by decide) (by show 0 + 0 + n ≤ 11; omega) d_Pl_init_15
end LF
end
section
/-! the trace: worlds of a search, find -/
def isTb (w : Wd) (t : Nat) : Bool := match wK w t with
  | some (.inl 3) => true
  | some (.inl 4) => true
  | _ => false
theorem isTb_of {w : Wd} {t ci : Nat} (hci : ci = 3 ∨ ci = 4) (h : wK w t = some (.inl ci)) : isTb w t = true := by
  rcases hci with rfl | rfl <;> simp [isTb, h]
theorem isTb_to {w : Wd} {t : Nat} (h : isTb w t = true) : ∃ ci, (ci = 3 ∨ ci = 4) ∧ wK w t = some (.inl ci) := by
  unfold isTb at h
  split at h
  · rename_i e; exact ⟨3, Or.inl rfl, e⟩
  · rename_i e; exact ⟨4, Or.inr rfl, e⟩
  · cases h
theorem isTb_no {w : Wd} {t : Nat} (h : wK w t = some (.inl 5)) : isTb w t = false := by simp [isTb, h]
/-- null, an int, an object -/
def oV (w : Wd) (o : Option Nat) : Prop := ∀ t, o = some t → isTb w t = true ∨ wK w t = some (.inl 5)
def szw (w : Wd) (t : Nat) : Nat := (wI w t 0).toNatClampNeg
def sumI (w : Wd) (xs : List Nat) : Int32 := nI ((xs.map (szw w)).sum)
/-- the world in which the search has found xs -/
def trW (w : Wd) (tr fa : Nat) (xs : List Nat) : Wd :=
  (w.1, fun b k => if b = tr ∧ k = 1 then nI xs.length else if b = tr ∧ k = 2 then sumI w xs else if k = 2 ∧ b ∈ xs then 1 else w.2.1 b k, fun b k => if b = fa then (if k < xs.length then xs[k]? else w.2.2.1 b k) else w.2.2.1 b k, w.2.2.2)
theorem trW_cnt (w : Wd) (tr fa : Nat) (xs : List Nat) : wI (trW w tr fa xs) tr 1 = nI xs.length := by simp [trW, wI]
theorem trW_cel (w : Wd) (tr fa : Nat) (xs : List Nat) : wI (trW w tr fa xs) tr 2 = sumI w xs := by simp [trW, wI]
theorem trW_flag {w : Wd} {tr fa : Nat} {xs : List Nat} {t : Nat} (h : t ≠ tr) : wI (trW w tr fa xs) t 2 = if t ∈ xs then 1 else wI w t 2 := by simp [trW, wI, h]
theorem trW_int {w : Wd} {tr fa : Nat} {xs : List Nat} {b k : Nat} (h : b ≠ tr) (hk : k ≠ 2) : wI (trW w tr fa xs) b k = wI w b k := by simp [trW, wI, h, hk]
theorem trW_int0 {w : Wd} {tr fa : Nat} {xs : List Nat} {b : Nat} : wI (trW w tr fa xs) b 0 = wI w b 0 := by simp [trW, wI]
theorem trW_ptr {w : Wd} {tr fa : Nat} {xs : List Nat} {b k : Nat} (h : b ≠ fa) : wP (trW w tr fa xs) b k = wP w b k := by simp [trW, wP, h]
theorem trW_fa {w : Wd} {tr fa : Nat} {xs : List Nat} {k x : Nat} (h : xs[k]? = some x) : wP (trW w tr fa xs) fa k = some x := by
  have := (List.getElem?_eq_some_iff.mp h).1
  simp [trW, wP, this]
  exact (List.getElem?_eq_some_iff.mp h).2
theorem trW_push {w : Wd} {tr fa : Nat} {xs : List Nat} {t : Nat} (ht : t ≠ tr) (hs : wI w t 0 = nI (szw w t)) :
    uI (uI (uP (uI (trW w tr fa xs) t 2 1) fa xs.length (some t)) tr 1 (nI (xs.length + 1))) tr 2 (sumI w xs + wI w t 0) = trW w tr fa (xs ++ [t]) := by
  have e2 : sumI w (xs ++ [t]) = sumI w xs + wI w t 0 := by
    rw [hs, sumI, sumI, nI_add]
    simp
  refine Prod.ext rfl (Prod.ext ?_ (Prod.ext ?_ rfl))
  · funext b k
    show (if b = tr ∧ k = 2 then sumI w xs + wI w t 0 else if b = tr ∧ k = 1 then nI (xs.length + 1) else if b = t ∧ k = 2 then (1 : Int32) else (if b = tr ∧ k = 1 then nI xs.length else if b = tr ∧ k = 2 then sumI w xs else if k = 2 ∧ b ∈ xs then 1 else w.2.1 b k)) = (if b = tr ∧ k = 1 then nI (xs ++ [t]).length else if b = tr ∧ k = 2 then sumI w (xs ++ [t]) else if k = 2 ∧ b ∈ xs ++ [t] then 1 else w.2.1 b k)
    rw [e2]
    by_cases h1 : b = tr
    · subst h1
      by_cases k1 : k = 1
      · subst k1; simp
      · by_cases k2 : k = 2
        · subst k2; simp
        · simp [k1, k2]
    · by_cases k2 : k = 2
      · subst k2
        by_cases hb : b = t
        · subst hb; simp [h1]
        · simp [h1, hb]
      · simp [h1, k2]
  · funext b k
    show (if b = fa ∧ k = xs.length then some t else (if b = fa then (if k < xs.length then xs[k]? else w.2.2.1 b k) else w.2.2.1 b k)) = (if b = fa then (if k < (xs ++ [t]).length then (xs ++ [t])[k]? else w.2.2.1 b k) else w.2.2.1 b k)
    by_cases hb : b = fa
    · subst hb
      by_cases k1 : k = xs.length
      · subst k1; simp
      · by_cases k2 : k < xs.length
        · rw [if_neg (by simp [k1]), if_pos rfl, if_pos rfl, if_pos k2, if_pos (by simp; omega), List.getElem?_append_left k2]
        · rw [if_neg (by simp [k1]), if_pos rfl, if_pos rfl, if_neg k2, if_neg (by simp; omega)]
    · simp [hb]
theorem trW_nil {w : Wd} {tr fa : Nat} (h1 : wI w tr 1 = 0) (h2 : wI w tr 2 = 0) : trW w tr fa [] = w := by
  refine Prod.ext rfl (Prod.ext ?_ (Prod.ext ?_ rfl))
  · funext b k
    show (if b = tr ∧ k = 1 then nI 0 else if b = tr ∧ k = 2 then sumI w [] else if k = 2 ∧ b ∈ ([] : List Nat) then 1 else w.2.1 b k) = w.2.1 b k
    by_cases g1 : b = tr ∧ k = 1
    · rw [if_pos g1]; obtain ⟨rfl, rfl⟩ := g1; exact h1.symm
    · rw [if_neg g1]
      by_cases g2 : b = tr ∧ k = 2
      · rw [if_pos g2]; obtain ⟨rfl, rfl⟩ := g2; exact h2.symm
      · rw [if_neg g2]; simp
  · funext b k
    show (if b = fa then (if k < 0 then _ else w.2.2.1 b k) else w.2.2.1 b k) = w.2.2.1 b k
    simp
/-- what find adds -/
def fnd (w : Wd) (xs : List Nat) (o : Option Nat) : List Nat := match o with
  | some t => if isTb w t = true ∧ t ∉ xs then xs ++ [t] else xs
  | none => xs
/-- the trace object and its row -/
def TrO (w : Wd) (tr fa N : Nat) : Prop := wK w tr = some (.inl 2) ∧ wP w tr 0 = some fa ∧ wK w fa = some (.inr (4, N)) ∧ N < 2 ^ 31 ∧ ∀ t, isTb w t = true → wI w t 2 = 0 ∧ wI w t 0 = nI (szw w t)
theorem isTb_ne {w : Wd} {t a : Nat} {d : Kd} (h : isTb w t = true) (ha : wK w a = some d) (hd : d ≠ .inl 3 ∧ d ≠ .inl 4) : t ≠ a := by
  rintro rfl
  obtain ⟨ci, hci, h⟩ := isTb_to h
  rw [ha] at h
  cases h
  rcases hci with rfl | rfl
  · exact hd.1 rfl
  · exact hd.2 rfl
section TR
variable {l : Launch} {Δ : Dat} {w : Wd} {tr fa N : Nat} {xs : List Nat}
set_option maxRecDepth 100000 in
set_option maxHeartbeats 1000000 in
theorem k_find {o : Option Nat} (H : TrO w tr fa N) (hv : oV w o) (hroom : ∀ t, o = some t → isTb w t = true → t ∉ xs → xs.length < N) (hlen : xs.length ≤ N) :
    Ct l y_Tr_find h_Tr_find (rmL 0 0 0) Δ [.ref tr, va_rf o] (trW w tr fa xs) (fun r w' => r = none ∧ w' = trW w tr fa (fnd w xs o)) := by
  obtain ⟨htr, hfa, hfk, hN, hth⟩ := H
  cases o with
  | none =>
    refine Ct_of (L := [some (.ref tr), some .null, none]) (by decide) (by first | exact Nat.le_of_ble_eq_true rfl | simp [lg_sl, va_rf_cat, vc_r, vc_i, vc_0]) (by first | rfl | simp [lin, va_rf_cat, vc_r, vc_i, vc_0]) (fun Γ X => ?_)
    first | refine J_aload_nr X d_Tr_find_0 rfl rfl ?_ | refine J_aload_n X d_Tr_find_0 rfl rfl ?_ | refine J_aload_n0 X d_Tr_find_0 rfl rfl ?_
    refine J_inst0 X d_Tr_find_1 ?_
    refine J_if_eq (tgt := 69) X d_Tr_find_4 (by decide) (fun g => ?_) (fun g => ?_)
    · exact J_vret X ⟨rfl, rfl⟩ (by decide) (by decide) d_Tr_find_69
    · exact absurd rfl g
  | some t =>
    refine Ct_of (L := [some (.ref tr), some (.ref t), none]) (by decide) (by first | exact Nat.le_of_ble_eq_true rfl | simp [lg_sl, va_rf_cat, vc_r, vc_i, vc_0]) (by first | rfl | simp [lin, va_rf_cat, vc_r, vc_i, vc_0]) (fun Γ X => ?_)
    first | refine J_aload_nr X d_Tr_find_0 rfl rfl ?_ | refine J_aload_n X d_Tr_find_0 rfl rfl ?_ | refine J_aload_n0 X d_Tr_find_0 rfl rfl ?_
    rcases hv t rfl with ht | ht
    · obtain ⟨ci, hci, hk⟩ := isTb_to ht
      have hne : t ≠ tr := isTb_ne ht htr (by decide)
      refine J_instY X hk (by rcases hci with rfl | rfl; exact iy_Tr_7_3; exact iy_Tr_7_4) d_Tr_find_1 ?_
      refine J_if_eq (tgt := 69) X d_Tr_find_4 (by decide) (fun g => ?_) (fun g => ?_)
      · exact absurd g (by decide)
      · first | refine J_aload_nr X d_Tr_find_7 rfl rfl ?_ | refine J_aload_n X d_Tr_find_7 rfl rfl ?_ | refine J_aload_n0 X d_Tr_find_7 rfl rfl ?_
        refine J_cast X hk (by rcases hci with rfl | rfl; exact iy_Tr_7_3; exact iy_Tr_7_4) d_Tr_find_8 ?_
        by_cases hx : t ∈ xs
        · first | refine J_astore_nr X d_Tr_find_11 rfl (by decide) rfl ?_ | refine J_astore_n X d_Tr_find_11 rfl (by decide) rfl ?_ | refine J_astore_n0 X d_Tr_find_11 rfl (by decide) rfl ?_
          first | refine J_aload_nr X d_Tr_find_12 rfl rfl ?_ | refine J_aload_n X d_Tr_find_12 rfl rfl ?_ | refine J_aload_n0 X d_Tr_find_12 rfl rfl ?_
          refine J_getI X (hk) (faT_Tr_19 hci).1 (faT_Tr_19 hci).2 ((trW_flag hne).trans (if_pos hx)) d_Tr_find_13 ?_
          refine J_if_ne (tgt := 69) X d_Tr_find_16 (by decide) (fun g2 => ?_) (fun g2 => ?_)
          · exact J_vret X ⟨rfl, by rw [fnd, if_neg (fun q => q.2 hx)]⟩ (by decide) (by decide) d_Tr_find_69
          · exact absurd g2 (by decide)
        · have hlt := hroom t rfl ht hx
          have hfar : tr ≠ fa := fun e => by rw [e, hfk] at htr; cases htr
          have hf' : wP (trW w tr fa xs) tr 0 = some fa := (trW_ptr hfar).trans hfa
          have h0 : wI (trW w tr fa xs) t 2 = 0 := (trW_flag hne).trans ((if_neg hx).trans (hth t ht).1)
          first | refine J_astore_nr X d_Tr_find_11 rfl (by decide) rfl ?_ | refine J_astore_n X d_Tr_find_11 rfl (by decide) rfl ?_ | refine J_astore_n0 X d_Tr_find_11 rfl (by decide) rfl ?_
          first | refine J_aload_nr X d_Tr_find_12 rfl rfl ?_ | refine J_aload_n X d_Tr_find_12 rfl rfl ?_ | refine J_aload_n0 X d_Tr_find_12 rfl rfl ?_
          refine J_getI X (hk) (faT_Tr_19 hci).1 (faT_Tr_19 hci).2 (h0) d_Tr_find_13 ?_
          refine J_if_ne (tgt := 69) X d_Tr_find_16 (by decide) (fun g2 => ?_) (fun g2 => ?_)
          · exact absurd rfl g2
          · first | refine J_aload_nr X d_Tr_find_19 rfl rfl ?_ | refine J_aload_n X d_Tr_find_19 rfl rfl ?_ | refine J_aload_n0 X d_Tr_find_19 rfl rfl ?_
            refine J_getI X (htr) fa_Tr_15_2 rfl (trW_cnt _ _ _ _) d_Tr_find_20 ?_
            first | refine J_aload_nr X d_Tr_find_23 rfl rfl ?_ | refine J_aload_n X d_Tr_find_23 rfl rfl ?_ | refine J_aload_n0 X d_Tr_find_23 rfl rfl ?_
            refine J_getR X (htr) fa_Tr_9_2 rfl (hf') d_Tr_find_24 ?_
            refine J_alen X (hfk) (by decide) d_Tr_find_27 ?_
            refine J_icmp_ge (tgt := 69) X d_Tr_find_28 (by decide) (fun g3 => ?_) (fun g3 => ?_)
            · exact absurd g3 (nI_ge hlt hN)
            · first | refine J_aload_nr X d_Tr_find_31 rfl rfl ?_ | refine J_aload_n X d_Tr_find_31 rfl rfl ?_ | refine J_aload_n0 X d_Tr_find_31 rfl rfl ?_
              refine J_iconst (v := 1) X d_Tr_find_32 (by decide) ?_
              refine J_putZ X (hk) (fpT_Tr_19 hci).1 (fpT_Tr_19 hci).2 (by decide) d_Tr_find_33 ?_
              first | refine J_aload_nr X d_Tr_find_36 rfl rfl ?_ | refine J_aload_n X d_Tr_find_36 rfl rfl ?_ | refine J_aload_n0 X d_Tr_find_36 rfl rfl ?_
              refine J_getR X (htr) fa_Tr_9_2 rfl (hf') d_Tr_find_37 ?_
              first | refine J_aload_nr X d_Tr_find_40 rfl rfl ?_ | refine J_aload_n X d_Tr_find_40 rfl rfl ?_ | refine J_aload_n0 X d_Tr_find_40 rfl rfl ?_
              refine J_getI X (htr) fa_Tr_15_2 rfl (by rw [wI_uI, if_neg (fun q => hne q.1.symm)]; exact trW_cnt _ _ _ _ : _ = nI xs.length) d_Tr_find_41 ?_
              first | refine J_aload_nr X d_Tr_find_44 rfl rfl ?_ | refine J_aload_n X d_Tr_find_44 rfl rfl ?_ | refine J_aload_n0 X d_Tr_find_44 rfl rfl ?_
              refine J_aastr X hfk (by decide) rfl ⟨_, rfl⟩ ⟨ci, hk, by rcases hci with rfl | rfl; exact ac_3_4; exact ac_4_4⟩ rfl hlt hN d_Tr_find_45 ?_
              first | refine J_aload_nr X d_Tr_find_46 rfl rfl ?_ | refine J_aload_n X d_Tr_find_46 rfl rfl ?_ | refine J_aload_n0 X d_Tr_find_46 rfl rfl ?_
              refine J_dup X d_Tr_find_47 (rfl) ?_
              refine J_getI X (htr) fa_Tr_15_2 rfl (by rw [wI_uP, wI_uI, if_neg (fun q => hne q.1.symm)]; exact trW_cnt _ _ _ _ : _ = nI xs.length) d_Tr_find_48 ?_
              refine J_iconst (v := 1) X d_Tr_find_51 (by decide) ?_
              refine J_iadd X d_Tr_find_52 ?_
              refine J_top (v' := .int (nI (xs.length + 1))) (by rw [show (1 : Int32) = nI 1 from rfl, nI_add]) ?_
              refine J_putI X (htr) fp_Tr_15_2 rfl d_Tr_find_53 ?_
              first | refine J_aload_nr X d_Tr_find_56 rfl rfl ?_ | refine J_aload_n X d_Tr_find_56 rfl rfl ?_ | refine J_aload_n0 X d_Tr_find_56 rfl rfl ?_
              refine J_dup X d_Tr_find_57 (rfl) ?_
              refine J_getI X (htr) fa_Tr_23_2 rfl (by rw [wI_uI, if_neg (by simp), wI_uP, wI_uI, if_neg (fun q => hne q.1.symm)]; exact trW_cel _ _ _ _ : _ = sumI w xs) d_Tr_find_58 ?_
              first | refine J_aload_nr X d_Tr_find_61 rfl rfl ?_ | refine J_aload_n X d_Tr_find_61 rfl rfl ?_ | refine J_aload_n0 X d_Tr_find_61 rfl rfl ?_
              refine J_getI X (hk) (faT_Tr_26 hci).1 (faT_Tr_26 hci).2 (by rw [wI_uI, if_neg (fun q => hne q.1), wI_uP, wI_uI, if_neg (by simp)]; exact trW_int0 : _ = wI w t 0) d_Tr_find_62 ?_
              refine J_iadd X d_Tr_find_65 ?_
              refine J_putI X (htr) fp_Tr_23_2 rfl d_Tr_find_66 ?_
              exact J_vret X ⟨rfl, by rw [trW_push hne (hth t ht).2, fnd, if_pos ⟨ht, hx⟩]⟩ (by decide) (by decide) d_Tr_find_69
    · refine J_instN X ht in_Tr_7_5 d_Tr_find_1 ?_
      refine J_if_eq (tgt := 69) X d_Tr_find_4 (by decide) (fun g => ?_) (fun g => ?_)
      · exact J_vret X ⟨rfl, by rw [fnd, if_neg (fun q => by rw [isTb_no ht] at q; cases q.1)]⟩ (by decide) (by decide) d_Tr_find_69
      · exact absurd rfl g
end TR
end
section
/-! the trace's loops: restart, findAll, findContents, findRegisters, follow -/
theorem forget_ok {L : List (Option Value)} (j : Nat) : ∀ (i : Nat) (v : Value), (L.set j none)[i]? = some (some v) → L[i]? = some (some v) := by
  intro i v h
  by_cases e : j = i
  · subst e
    by_cases hl : j < L.length
    · rw [List.getElem?_set_self hl] at h; cases h
    · rw [List.getElem?_eq_none (by rw [List.length_set]; omega)] at h; cases h
  · rwa [List.getElem?_set_ne e] at h
theorem J_forget {Γ : Cxt} {Δ : Dat} {A : Nat → Prop} {nL : Nat} {w : Wd} {cells slots : Nat} {Q : State → Prop} {pc : Nat} {L L' : List (Option Value)} {st : List Value} (j : Nat) (hL : L.set j none = L') (k : J Γ Δ A nL w cells slots Q pc L' st) : J Γ Δ A nL w cells slots Q pc L st := by
  subst hL
  exact J_loc (forget_ok j) k
theorem nI_s (i : Nat) : nI i + Int32.ofInt 1 = nI (i + 1) := by rw [show Int32.ofInt 1 = nI 1 from rfl, nI_add]
/-- the flags of xs cleared -/
def clrR (w : Wd) (xs : List Nat) : Wd := (w.1, fun b k => if k = 2 ∧ b ∈ xs then 0 else w.2.1 b k, w.2.2)
theorem clrR_nil (w : Wd) : clrR w [] = w := by
  refine Prod.ext rfl (Prod.ext ?_ rfl)
  funext b k
  show (if k = 2 ∧ b ∈ ([] : List Nat) then 0 else w.2.1 b k) = w.2.1 b k
  simp
theorem clrR_step {w : Wd} {xs : List Nat} {x : Nat} : uI (clrR w xs) x 2 0 = clrR w (xs ++ [x]) := by
  refine Prod.ext rfl (Prod.ext ?_ rfl)
  funext b k
  show (if b = x ∧ k = 2 then 0 else if k = 2 ∧ b ∈ xs then 0 else w.2.1 b k) = if k = 2 ∧ b ∈ xs ++ [x] then 0 else w.2.1 b k
  by_cases k2 : k = 2
  · subst k2
    by_cases hb : b = x
    · subst hb; simp
    · simp [hb]
  · simp [k2]
theorem take_s {α : Type} {xs : List α} {i : Nat} {x : α} (h : xs[i]? = some x) : xs.take (i + 1) = xs.take i ++ [x] := by
  rw [List.take_add_one, h]
  rfl
theorem at_lt {α : Type} {xs : List α} {i : Nat} (h : i < xs.length) : ∃ x, xs[i]? = some x := ⟨xs[i], List.getElem?_eq_getElem h⟩
section TL
variable {l : Launch} {Δ : Dat} {w : Wd} {tr fa N : Nat} {xs : List Nat}
set_option maxRecDepth 100000 in
set_option maxHeartbeats 1000000 in
theorem k_restart (htr : wK w tr = some (.inl 2)) (hfa : wP w tr 0 = some fa) (hfk : wK w fa = some (.inr (4, N))) (hN : N < 2 ^ 31) (hlen : xs.length ≤ N) (hcnt : wI w tr 1 = nI xs.length) (harr : ∀ i x, xs[i]? = some x → wP w fa i = some x) (hxs : ∀ x ∈ xs, isTb w x = true) :
    Ct l y_Tr_restart h_Tr_restart (rmL 0 0 0) Δ [.ref tr] w (fun r w' => r = none ∧ w' = uI (uI (clrR w xs) tr 1 0) tr 2 0) := by
  refine Ct_of (L := [some (.ref tr), none, none]) (by decide) (by first | exact Nat.le_of_ble_eq_true rfl | simp [lg_sl, va_rf_cat, vc_r, vc_i, vc_0]) (by first | rfl | simp [lin, va_rf_cat, vc_r, vc_i, vc_0]) (fun Γ X => ?_)
  refine J_iconst (v := 0) X d_Tr_restart_0 (by decide) ?_
  refine J_istore_n X d_Tr_restart_1 rfl (by decide) rfl ?_
  have loop : ∀ (k i : Nat), k + i = xs.length → J Γ Δ (AE Γ w) 3 (clrR w (xs.take i)) 0 0 (QE Γ Δ w (fun r w' => r = none ∧ w' = uI (uI (clrR w xs) tr 1 0) tr 2 0) (rmL 0 0 0)) 2 [some (.ref tr), some (.int (nI i)), none] [] := by
    intro k
    induction k with
    | zero =>
      intro i hi
      have hc : wI (clrR w (xs.take i)) tr 1 = nI xs.length := hcnt
      refine J_iload_n X d_Tr_restart_2 rfl rfl ?_
      first | refine J_aload_nr X d_Tr_restart_3 rfl rfl ?_ | refine J_aload_n X d_Tr_restart_3 rfl rfl ?_ | refine J_aload_n0 X d_Tr_restart_3 rfl rfl ?_
      refine J_getI X (htr) fa_Tr_15_2 rfl (hc) d_Tr_restart_4 ?_
      refine J_icmp_ge (tgt := 32) X d_Tr_restart_7 (by decide) (fun g => ?_) (fun g => ?_)
      · first | refine J_aload_nr X d_Tr_restart_32 rfl rfl ?_ | refine J_aload_n X d_Tr_restart_32 rfl rfl ?_ | refine J_aload_n0 X d_Tr_restart_32 rfl rfl ?_
        refine J_iconst (v := 0) X d_Tr_restart_33 (by decide) ?_
        refine J_putI X (htr) fp_Tr_15_2 rfl d_Tr_restart_34 ?_
        first | refine J_aload_nr X d_Tr_restart_37 rfl rfl ?_ | refine J_aload_n X d_Tr_restart_37 rfl rfl ?_ | refine J_aload_n0 X d_Tr_restart_37 rfl rfl ?_
        refine J_iconst (v := 0) X d_Tr_restart_38 (by decide) ?_
        refine J_putI X (htr) fp_Tr_23_2 rfl d_Tr_restart_39 ?_
        exact J_vret X ⟨rfl, by rw [List.take_of_length_le (by omega)]⟩ (by decide) (by decide) d_Tr_restart_42
      · exact absurd (nI_le (by omega) (by omega)) g
    | succ k ih =>
      intro i hi
      obtain ⟨x, hx⟩ := at_lt (xs := xs) (i := i) (by omega)
      have hc : wI (clrR w (xs.take i)) tr 1 = nI xs.length := hcnt
      obtain ⟨ci, hci, hk⟩ := isTb_to (hxs x (List.mem_of_getElem? hx))
      have hxa : wP (clrR w (xs.take i)) fa i = some x := harr i x hx
      refine J_iload_n X d_Tr_restart_2 rfl rfl ?_
      first | refine J_aload_nr X d_Tr_restart_3 rfl rfl ?_ | refine J_aload_n X d_Tr_restart_3 rfl rfl ?_ | refine J_aload_n0 X d_Tr_restart_3 rfl rfl ?_
      refine J_getI X (htr) fa_Tr_15_2 rfl (hc) d_Tr_restart_4 ?_
      refine J_icmp_ge (tgt := 32) X d_Tr_restart_7 (by decide) (fun g => ?_) (fun g => ?_)
      · exact absurd g (nI_ge (by omega) (by omega))
      · first | refine J_aload_nr X d_Tr_restart_10 rfl rfl ?_ | refine J_aload_n X d_Tr_restart_10 rfl rfl ?_ | refine J_aload_n0 X d_Tr_restart_10 rfl rfl ?_
        refine J_getR X (htr) fa_Tr_9_2 rfl (hfa) d_Tr_restart_11 ?_
        refine J_iload_n X d_Tr_restart_14 rfl rfl ?_
        refine J_aaldr X (hfk) (by decide) rfl ⟨_, rfl⟩ (rfl) (by omega) (hN) (hxa) d_Tr_restart_15 ?_
        first | refine J_astore_nr X d_Tr_restart_16 rfl (by decide) rfl ?_ | refine J_astore_n X d_Tr_restart_16 rfl (by decide) rfl ?_ | refine J_astore_n0 X d_Tr_restart_16 rfl (by decide) rfl ?_
        first | refine J_aload_nr X d_Tr_restart_17 rfl rfl ?_ | refine J_aload_n X d_Tr_restart_17 rfl rfl ?_ | refine J_aload_n0 X d_Tr_restart_17 rfl rfl ?_
        refine J_ifnullr X d_Tr_restart_18 ?_
        first | refine J_aload_nr X d_Tr_restart_21 rfl rfl ?_ | refine J_aload_n X d_Tr_restart_21 rfl rfl ?_ | refine J_aload_n0 X d_Tr_restart_21 rfl rfl ?_
        refine J_iconst (v := 0) X d_Tr_restart_22 (by decide) ?_
        refine J_putZ X (hk) (fpT_Tr_19 hci).1 (fpT_Tr_19 hci).2 (by decide) d_Tr_restart_23 ?_
        refine J_iinc X d_Tr_restart_26 rfl (by decide) (nI_s i) rfl ?_
        refine J_goto (tgt := 2) X d_Tr_restart_29 (by decide) ?_
        refine J_forget 2 rfl ?_
        refine J_eq (w' := clrR w (xs.take (i + 1))) (by rw [clrR_step, take_s hx]) rfl ?_
        exact ih (i + 1) (by omega)
  exact J_eq (w' := clrR w (xs.take 0)) (by rw [List.take_zero, clrR_nil]) rfl (loop xs.length 0 rfl)
end TL
end
section
/-! findContents, findAll, findRegisters, follow -/
def pA (w : Wd) (a k : Nat) : Nat := (wP w a k).getD 0
def kN (w : Wd) (a : Nat) : Nat := match wK w a with
  | some (.inr (_, n)) => n
  | _ => 0
def rowL (w : Wd) (a n : Nat) : List (Option Nat) := (List.range n).map (wP w a)
theorem rowL_len (w : Wd) (a n : Nat) : (rowL w a n).length = n := by simp [rowL]
theorem rowL_at {w : Wd} {a n i : Nat} (h : i < n) : (rowL w a n)[i]? = some (wP w a i) := by
  rw [rowL, List.getElem?_map, List.getElem?_range h]; rfl
theorem rowL_mem {w : Wd} {a n : Nat} {o : Option Nat} : o ∈ rowL w a n ↔ ∃ i, i < n ∧ wP w a i = o := by
  simp [rowL]
def fnds (w : Wd) (xs : List Nat) (os : List (Option Nat)) : List Nat := os.foldl (fnd w) xs
theorem fnds_take {w : Wd} {xs : List Nat} {os : List (Option Nat)} {i : Nat} {o : Option Nat} (h : os[i]? = some o) : fnds w xs (os.take (i + 1)) = fnd w (fnds w xs (os.take i)) o := by
  rw [take_s h, fnds, List.foldl_append]; rfl
/-- found things: each once, all among B -/
def Bd (B xs : List Nat) : Prop := xs.Nodup ∧ ∀ x ∈ xs, x ∈ B
def oB (w : Wd) (B : List Nat) (o : Option Nat) : Prop := ∀ t, o = some t → isTb w t = true → t ∈ B
theorem fnd_bd {w : Wd} {B xs : List Nat} {o : Option Nat} (h : Bd B xs) (ho : oB w B o) : Bd B (fnd w xs o) := by
  cases o with
  | none => exact h
  | some t =>
    show Bd B (if isTb w t = true ∧ t ∉ xs then xs ++ [t] else xs)
    split
    · rename_i g
      refine ⟨?_, fun x hx => ?_⟩
      · rw [List.nodup_append]
        exact ⟨h.1, by simp, fun a ha b hb => by rw [List.mem_singleton.mp hb]; rintro rfl; exact g.2 ha⟩
      · rcases List.mem_append.mp hx with hx | hx
        · exact h.2 x hx
        · rw [List.mem_singleton.mp hx]; exact ho t rfl g.1
    · exact h
theorem fnds_bd {w : Wd} {B : List Nat} {os : List (Option Nat)} (ho : ∀ o ∈ os, oB w B o) : ∀ {xs : List Nat}, Bd B xs → Bd B (fnds w xs os) := by
  induction os with
  | nil => exact fun h => h
  | cons o t ih => exact fun h => ih (fun z hz => ho z (List.mem_cons_of_mem _ hz)) (fnd_bd h (ho o List.mem_cons_self))
theorem bd_len {B xs : List Nat} {N : Nat} (h : Bd B xs) (hB : B.length ≤ N) : xs.length ≤ N := Nat.le_trans (h.1.length_le_of_subset (fun x hx => h.2 x hx)) hB
theorem bd_room {B xs : List Nat} {N t : Nat} (h : Bd B xs) (hB : B.length ≤ N) (ht : t ∈ B) (hx : t ∉ xs) : xs.length < N := by
  have h2 : (t :: xs).length ≤ B.length := List.Nodup.length_le_of_subset (List.nodup_cons.mpr ⟨hx, h.1⟩) (fun z hz => by
    rcases List.mem_cons.mp hz with rfl | hz
    · exact ht
    · exact h.2 z hz)
  simp only [List.length_cons] at h2
  omega
theorem bd_take {w : Wd} {B xs : List Nat} {os : List (Option Nat)} (h : Bd B xs) (ho : ∀ o ∈ os, oB w B o) (i : Nat) : Bd B (fnds w xs (os.take i)) := fnds_bd (fun o ho' => ho o (List.mem_of_mem_take ho')) h
section TF
variable {l : Launch} {Δ : Dat} {w : Wd} {tr fa N : Nat} {xs B : List Nat}
theorem k_findB {o : Option Nat} (H : TrO w tr fa N) (hB : B.length ≤ N) (hb : Bd B xs) (hv : oV w o) (ho : oB w B o) :
    Ct l y_Tr_find h_Tr_find (rmL 0 0 0) Δ [.ref tr, va_rf o] (trW w tr fa xs) (fun r w' => r = none ∧ w' = trW w tr fa (fnd w xs o)) :=
  k_find H hv (fun t e ht hx => bd_room hb hB (ho t e ht) hx) (bd_len hb hB)
set_option maxRecDepth 100000 in
set_option maxHeartbeats 1000000 in
theorem k_findContents {p c n : Nat} (H : TrO w tr fa N) (hB : B.length ≤ N) (hb : Bd B xs) (hp : wK w p = some (.inl 3)) (hc : wP w p 3 = some c) (hn : wK w c = some (.inr (3, n))) (hn2 : n < 10000) (hv : ∀ o ∈ rowL w c n, oV w o) (ho : ∀ o ∈ rowL w c n, oB w B o) :
    Ct l y_Tr_findContents h_Tr_findContents (rmL 1 0 0) Δ [.ref tr, .ref p] (trW w tr fa xs) (fun r w' => r = none ∧ w' = trW w tr fa (fnds w xs (rowL w c n))) := by
  have htr := H.1
  have hfk := H.2.2.1
  have hpfa : p ≠ fa := fun e => by rw [e, hfk] at hp; cases hp
  have hcfa : c ≠ fa := fun e => by rw [e, hfk] at hn; cases hn
  refine Ct_of (L := [some (.ref tr), some (.ref p), none]) (by decide) (by first | exact Nat.le_of_ble_eq_true rfl | simp [lg_sl, va_rf_cat, vc_r, vc_i, vc_0]) (by first | rfl | simp [lin, va_rf_cat, vc_r, vc_i, vc_0]) (fun Γ X => ?_)
  refine J_iconst (v := 0) X d_Tr_findContents_0 (by decide) ?_
  refine J_istore_n X d_Tr_findContents_1 rfl (by decide) rfl ?_
  have loop : ∀ (k i : Nat), k + i = n → J Γ Δ (AE Γ (trW w tr fa xs)) 3 (trW w tr fa (fnds w xs ((rowL w c n).take i))) 0 0 (QE Γ Δ (trW w tr fa xs) (fun r w' => r = none ∧ w' = trW w tr fa (fnds w xs (rowL w c n))) (rmL 1 0 0)) 2 [some (.ref tr), some (.ref p), some (.int (nI i))] [] := by
    intro k
    induction k with
    | zero =>
      intro i hi
      have hc' : wP (trW w tr fa (fnds w xs ((rowL w c n).take i))) p 3 = some c := (trW_ptr hpfa).trans hc
      refine J_iload_n X d_Tr_findContents_2 rfl rfl ?_
      first | refine J_aload_nr X d_Tr_findContents_3 rfl rfl ?_ | refine J_aload_n X d_Tr_findContents_3 rfl rfl ?_ | refine J_aload_n0 X d_Tr_findContents_3 rfl rfl ?_
      refine J_getR X (hp) fa_Tr_45_3 rfl (hc') d_Tr_findContents_4 ?_
      refine J_alen X (hn) (by decide) d_Tr_findContents_7 ?_
      refine J_icmp_ge (tgt := 27) X d_Tr_findContents_8 (by decide) (fun g => ?_) (fun g => ?_)
      · exact J_vret X ⟨rfl, by rw [List.take_of_length_le (by rw [rowL_len]; omega)]⟩ (by decide) (by decide) d_Tr_findContents_27
      · exact absurd (nI_le (by omega) (by omega)) g
    | succ k ih =>
      intro i hi
      have hi' : i < n := by omega
      have hc' : wP (trW w tr fa (fnds w xs ((rowL w c n).take i))) p 3 = some c := (trW_ptr hpfa).trans hc
      have ha' : wP (trW w tr fa (fnds w xs ((rowL w c n).take i))) c i = wP w c i := trW_ptr hcfa
      have hm : wP w c i ∈ rowL w c n := rowL_mem.mpr ⟨i, hi', rfl⟩
      refine J_iload_n X d_Tr_findContents_2 rfl rfl ?_
      first | refine J_aload_nr X d_Tr_findContents_3 rfl rfl ?_ | refine J_aload_n X d_Tr_findContents_3 rfl rfl ?_ | refine J_aload_n0 X d_Tr_findContents_3 rfl rfl ?_
      refine J_getR X (hp) fa_Tr_45_3 rfl (hc') d_Tr_findContents_4 ?_
      refine J_alen X (hn) (by decide) d_Tr_findContents_7 ?_
      refine J_icmp_ge (tgt := 27) X d_Tr_findContents_8 (by decide) (fun g => ?_) (fun g => ?_)
      · exact absurd g (nI_ge (by omega) (by omega))
      · first | refine J_aload_nr X d_Tr_findContents_11 rfl rfl ?_ | refine J_aload_n X d_Tr_findContents_11 rfl rfl ?_ | refine J_aload_n0 X d_Tr_findContents_11 rfl rfl ?_
        first | refine J_aload_nr X d_Tr_findContents_12 rfl rfl ?_ | refine J_aload_n X d_Tr_findContents_12 rfl rfl ?_ | refine J_aload_n0 X d_Tr_findContents_12 rfl rfl ?_
        refine J_getR X (hp) fa_Tr_45_3 rfl (hc') d_Tr_findContents_13 ?_
        refine J_iload_n X d_Tr_findContents_16 rfl rfl ?_
        refine J_aald X (hn) (by decide) rfl ⟨_, rfl⟩ (rfl) (hi') (by omega) (ha') d_Tr_findContents_17 ?_
        refine J_callV X (htr) rfl (k_findB (B := B) H hB (bd_take hb ho i) (hv _ hm) (ho _ hm)) cd_Tr_find lk_Tr_35 vi_Tr_find (by decide) (by decide) (by decide) (by decide) rfl (by first | decide | simp [va_rf_cat, vc_r, vc_i, vc_0]) d_Tr_findContents_18 (fun r w1 hr => ?_)
        obtain ⟨rfl, rfl⟩ := hr
        refine J_iinc X d_Tr_findContents_21 rfl (by decide) (nI_s i) rfl ?_
        refine J_goto (tgt := 2) X d_Tr_findContents_24 (by decide) ?_
        refine J_eq (w' := trW w tr fa (fnds w xs ((rowL w c n).take (i + 1)))) (by rw [fnds_take (rowL_at hi')]) rfl ?_
        exact ih (i + 1) (by omega)
  exact loop n 0 (by omega)
set_option maxRecDepth 100000 in
set_option maxHeartbeats 1000000 in
theorem k_findAll {g ga n m : Nat} (H : TrO w tr fa N) (hBT : ∀ b ∈ B, isTb w b = true) (hB : B.length ≤ N) (hb : Bd B xs) (hg : wK w g = some (.inl 1)) (hga : wP w g 1 = some ga) (hgk : wK w ga = some (.inr (4, m))) (hcnt : wI w g 2 = nI n) (hnm : n ≤ m) (hm2 : m < 10000) (hne : ga ≠ fa) (hv : ∀ o ∈ rowL w ga n, oV w o) (ho : ∀ o ∈ rowL w ga n, oB w B o) :
    Ct l y_Tr_findAll h_Tr_findAll (rmL 1 0 0) Δ [.ref tr, .ref g] (trW w tr fa xs) (fun r w' => r = none ∧ w' = trW w tr fa (fnds w xs (rowL w ga n))) := by
  have htr := H.1
  have hfk := H.2.2.1
  have hgt : g ≠ tr := fun e => by rw [e, htr] at hg; cases hg
  have hgfa : g ≠ fa := fun e => by rw [e, hfk] at hg; cases hg
  have hgT : isTb w g = false := by simp [isTb, hg]
  refine Ct_of (L := [some (.ref tr), some (.ref g), none]) (by decide) (by first | exact Nat.le_of_ble_eq_true rfl | simp [lg_sl, va_rf_cat, vc_r, vc_i, vc_0]) (by first | rfl | simp [lin, va_rf_cat, vc_r, vc_i, vc_0]) (fun Γ X => ?_)
  refine J_iconst (v := 0) X d_Tr_findAll_0 (by decide) ?_
  refine J_istore_n X d_Tr_findAll_1 rfl (by decide) rfl ?_
  have loop : ∀ (k i : Nat), k + i = n → J Γ Δ (AE Γ (trW w tr fa xs)) 3 (trW w tr fa (fnds w xs ((rowL w ga n).take i))) 0 0 (QE Γ Δ (trW w tr fa xs) (fun r w' => r = none ∧ w' = trW w tr fa (fnds w xs (rowL w ga n))) (rmL 1 0 0)) 2 [some (.ref tr), some (.ref g), some (.int (nI i))] [] := by
    intro k
    induction k with
    | zero =>
      intro i hi
      have hbd := bd_take hb ho i
      have hc' : wI (trW w tr fa (fnds w xs ((rowL w ga n).take i))) g 2 = nI n := (trW_flag hgt).trans ((if_neg (fun q => by have := hBT g (hbd.2 g q); rw [hgT] at this; cases this)).trans hcnt)
      refine J_iload_n X d_Tr_findAll_2 rfl rfl ?_
      first | refine J_aload_nr X d_Tr_findAll_3 rfl rfl ?_ | refine J_aload_n X d_Tr_findAll_3 rfl rfl ?_ | refine J_aload_n0 X d_Tr_findAll_3 rfl rfl ?_
      refine J_getI X (hg) fa_Tr_29_1 rfl (hc') d_Tr_findAll_4 ?_
      refine J_icmp_ge (tgt := 26) X d_Tr_findAll_7 (by decide) (fun g2 => ?_) (fun g2 => ?_)
      · exact J_vret X ⟨rfl, by rw [List.take_of_length_le (by rw [rowL_len]; omega)]⟩ (by decide) (by decide) d_Tr_findAll_26
      · exact absurd (nI_le (by omega) (by omega)) g2
    | succ k ih =>
      intro i hi
      have hi' : i < n := by omega
      have hbd := bd_take hb ho i
      have hc' : wI (trW w tr fa (fnds w xs ((rowL w ga n).take i))) g 2 = nI n := (trW_flag hgt).trans ((if_neg (fun q => by have := hBT g (hbd.2 g q); rw [hgT] at this; cases this)).trans hcnt)
      have hg' : wP (trW w tr fa (fnds w xs ((rowL w ga n).take i))) g 1 = some ga := (trW_ptr hgfa).trans hga
      have ha' : wP (trW w tr fa (fnds w xs ((rowL w ga n).take i))) ga i = wP w ga i := trW_ptr hne
      have hm : wP w ga i ∈ rowL w ga n := rowL_mem.mpr ⟨i, hi', rfl⟩
      refine J_iload_n X d_Tr_findAll_2 rfl rfl ?_
      first | refine J_aload_nr X d_Tr_findAll_3 rfl rfl ?_ | refine J_aload_n X d_Tr_findAll_3 rfl rfl ?_ | refine J_aload_n0 X d_Tr_findAll_3 rfl rfl ?_
      refine J_getI X (hg) fa_Tr_29_1 rfl (hc') d_Tr_findAll_4 ?_
      refine J_icmp_ge (tgt := 26) X d_Tr_findAll_7 (by decide) (fun g2 => ?_) (fun g2 => ?_)
      · exact absurd g2 (nI_ge (by omega) (by omega))
      · first | refine J_aload_nr X d_Tr_findAll_10 rfl rfl ?_ | refine J_aload_n X d_Tr_findAll_10 rfl rfl ?_ | refine J_aload_n0 X d_Tr_findAll_10 rfl rfl ?_
        first | refine J_aload_nr X d_Tr_findAll_11 rfl rfl ?_ | refine J_aload_n X d_Tr_findAll_11 rfl rfl ?_ | refine J_aload_n0 X d_Tr_findAll_11 rfl rfl ?_
        refine J_getR X (hg) fa_Tr_32_1 rfl (hg') d_Tr_findAll_12 ?_
        refine J_iload_n X d_Tr_findAll_15 rfl rfl ?_
        refine J_aald X (hgk) (by decide) rfl ⟨_, rfl⟩ (rfl) (by omega) (by omega) (ha') d_Tr_findAll_16 ?_
        refine J_callV X (htr) rfl (k_findB (B := B) H hB hbd (hv _ hm) (ho _ hm)) cd_Tr_find lk_Tr_35 vi_Tr_find (by decide) (by decide) (by decide) (by decide) rfl (by first | decide | simp [va_rf_cat, vc_r, vc_i, vc_0]) d_Tr_findAll_17 (fun r w1 hr => ?_)
        obtain ⟨rfl, rfl⟩ := hr
        refine J_iinc X d_Tr_findAll_20 rfl (by decide) (nI_s i) rfl ?_
        refine J_goto (tgt := 2) X d_Tr_findAll_23 (by decide) ?_
        refine J_eq (w' := trW w tr fa (fnds w xs ((rowL w ga n).take (i + 1)))) (by rw [fnds_take (rowL_at hi')]) rfl ?_
        exact ih (i + 1) (by omega)
  exact loop n 0 (by omega)
set_option maxRecDepth 100000 in
set_option maxHeartbeats 1000000 in
theorem k_findRegisters {x rg n : Nat} (H : TrO w tr fa N) (hB : B.length ≤ N) (hb : Bd B xs) (hx : wK w x = some (.inl 0)) (hrg : wP w x 0 = some rg) (htx : wP w x 3 = some tr) (hrk : wK w rg = some (.inr (3, n))) (hn2 : n < 10000) (hv : ∀ o ∈ rowL w rg n, oV w o) (ho : ∀ o ∈ rowL w rg n, oB w B o) :
    Ct l y_TG_findRegisters h_TG_findRegisters (rmL 1 0 0) Δ [.ref x] (trW w tr fa xs) (fun r w' => r = none ∧ w' = trW w tr fa (fnds w xs (rowL w rg n))) := by
  have htr := H.1
  have hfk := H.2.2.1
  have hxfa : x ≠ fa := fun e => by rw [e, hfk] at hx; cases hx
  have hrfa : rg ≠ fa := fun e => by rw [e, hfk] at hrk; cases hrk
  refine Ct_of (L := [some (.ref x), none]) (by decide) (by first | exact Nat.le_of_ble_eq_true rfl | simp [lg_sl, va_rf_cat, vc_r, vc_i, vc_0]) (by first | rfl | simp [lin, va_rf_cat, vc_r, vc_i, vc_0]) (fun Γ X => ?_)
  refine J_iconst (v := 0) X d_TG_findRegisters_0 (by decide) ?_
  refine J_istore_n X d_TG_findRegisters_1 rfl (by decide) rfl ?_
  have loop : ∀ (k i : Nat), k + i = n → J Γ Δ (AE Γ (trW w tr fa xs)) 2 (trW w tr fa (fnds w xs ((rowL w rg n).take i))) 0 0 (QE Γ Δ (trW w tr fa xs) (fun r w' => r = none ∧ w' = trW w tr fa (fnds w xs (rowL w rg n))) (rmL 1 0 0)) 2 [some (.ref x), some (.int (nI i))] [] := by
    intro k
    induction k with
    | zero =>
      intro i hi
      have hc' : wP (trW w tr fa (fnds w xs ((rowL w rg n).take i))) x 0 = some rg := (trW_ptr hxfa).trans hrg
      refine J_iload_n X d_TG_findRegisters_2 rfl rfl ?_
      first | refine J_aload_nr X d_TG_findRegisters_3 rfl rfl ?_ | refine J_aload_n X d_TG_findRegisters_3 rfl rfl ?_ | refine J_aload_n0 X d_TG_findRegisters_3 rfl rfl ?_
      refine J_getR X (hx) fa_TG_15_0 rfl (hc') d_TG_findRegisters_4 ?_
      refine J_alen X (hrk) (by decide) d_TG_findRegisters_7 ?_
      refine J_icmp_ge (tgt := 30) X d_TG_findRegisters_8 (by decide) (fun g => ?_) (fun g => ?_)
      · exact J_vret X ⟨rfl, by rw [List.take_of_length_le (by rw [rowL_len]; omega)]⟩ (by decide) (by decide) d_TG_findRegisters_30
      · exact absurd (nI_le (by omega) (by omega)) g
    | succ k ih =>
      intro i hi
      have hi' : i < n := by omega
      have hc' : wP (trW w tr fa (fnds w xs ((rowL w rg n).take i))) x 0 = some rg := (trW_ptr hxfa).trans hrg
      have hc3 : wP (trW w tr fa (fnds w xs ((rowL w rg n).take i))) x 3 = some tr := (trW_ptr hxfa).trans htx
      have ha' : wP (trW w tr fa (fnds w xs ((rowL w rg n).take i))) rg i = wP w rg i := trW_ptr hrfa
      have hm : wP w rg i ∈ rowL w rg n := rowL_mem.mpr ⟨i, hi', rfl⟩
      refine J_iload_n X d_TG_findRegisters_2 rfl rfl ?_
      first | refine J_aload_nr X d_TG_findRegisters_3 rfl rfl ?_ | refine J_aload_n X d_TG_findRegisters_3 rfl rfl ?_ | refine J_aload_n0 X d_TG_findRegisters_3 rfl rfl ?_
      refine J_getR X (hx) fa_TG_15_0 rfl (hc') d_TG_findRegisters_4 ?_
      refine J_alen X (hrk) (by decide) d_TG_findRegisters_7 ?_
      refine J_icmp_ge (tgt := 30) X d_TG_findRegisters_8 (by decide) (fun g => ?_) (fun g => ?_)
      · exact absurd g (nI_ge (by omega) (by omega))
      · first | refine J_aload_nr X d_TG_findRegisters_11 rfl rfl ?_ | refine J_aload_n X d_TG_findRegisters_11 rfl rfl ?_ | refine J_aload_n0 X d_TG_findRegisters_11 rfl rfl ?_
        refine J_getR X (hx) fa_TG_38_0 rfl (hc3) d_TG_findRegisters_12 ?_
        first | refine J_aload_nr X d_TG_findRegisters_15 rfl rfl ?_ | refine J_aload_n X d_TG_findRegisters_15 rfl rfl ?_ | refine J_aload_n0 X d_TG_findRegisters_15 rfl rfl ?_
        refine J_getR X (hx) fa_TG_15_0 rfl (hc') d_TG_findRegisters_16 ?_
        refine J_iload_n X d_TG_findRegisters_19 rfl rfl ?_
        refine J_aald X (hrk) (by decide) rfl ⟨_, rfl⟩ (rfl) (hi') (by omega) (ha') d_TG_findRegisters_20 ?_
        refine J_callV X (htr) rfl (k_findB (B := B) H hB (bd_take hb ho i) (hv _ hm) (ho _ hm)) cd_Tr_find lk_TG_118 vi_Tr_find (by decide) (by decide) (by decide) (by decide) rfl (by first | decide | simp [va_rf_cat, vc_r, vc_i, vc_0]) d_TG_findRegisters_21 (fun r w1 hr => ?_)
        obtain ⟨rfl, rfl⟩ := hr
        refine J_iinc X d_TG_findRegisters_24 rfl (by decide) (nI_s i) rfl ?_
        refine J_goto (tgt := 2) X d_TG_findRegisters_27 (by decide) ?_
        refine J_eq (w' := trW w tr fa (fnds w xs ((rowL w rg n).take (i + 1)))) (by rw [fnds_take (rowL_at hi')]) rfl ?_
        exact ih (i + 1) (by omega)
  exact loop n 0 (by omega)
end TF
/-- what a found thing leads to -/
def sucL (w : Wd) (t : Nat) : List (Option Nat) := if wK w t = some (.inl 3) then rowL w (pA w t 3) (kN w (pA w t 3)) else []
def flw (w : Wd) : Nat → Nat → List Nat → List Nat
  | 0, _, xs => xs
  | f + 1, i, xs => match xs[i]? with
    | some t => flw w f (i + 1) (fnds w xs (sucL w t))
    | none => xs
/-- B holds what is found and what that leads to; its plain objects have their rows -/
def BC (w : Wd) (B : List Nat) : Prop := ∀ b ∈ B, isTb w b = true ∧ (wK w b = some (.inl 3) → ∃ c n, wP w b 3 = some c ∧ wK w c = some (.inr (3, n)) ∧ n < 10000 ∧ ∀ o ∈ rowL w c n, oV w o ∧ oB w B o)
theorem sucL_of {w : Wd} {t c n : Nat} (h1 : wK w t = some (.inl 3)) (h2 : wP w t 3 = some c) (h3 : wK w c = some (.inr (3, n))) : sucL w t = rowL w c n := by
  rw [sucL, if_pos h1, pA, h2, Option.getD_some, kN, h3]
theorem sucL_no {w : Wd} {t : Nat} (h1 : wK w t = some (.inl 4)) : sucL w t = [] := by
  rw [sucL, if_neg (by rw [h1]; decide)]
theorem sucL_ok {w : Wd} {B : List Nat} (hC : BC w B) {t : Nat} (ht : t ∈ B) : ∀ o ∈ sucL w t, oV w o ∧ oB w B o := by
  obtain ⟨h1, h2⟩ := hC t ht
  obtain ⟨ci, hci, hk⟩ := isTb_to h1
  rcases hci with rfl | rfl
  · obtain ⟨c, n, g1, g2, -, g3⟩ := h2 hk
    rw [sucL_of hk g1 g2]
    exact g3
  · rw [sucL_no hk]
    exact fun o ho => nomatch ho
section TG2
variable {l : Launch} {Δ : Dat} {w : Wd} {tr fa N : Nat} {xs B : List Nat}
set_option maxRecDepth 100000 in
set_option maxHeartbeats 1000000 in
theorem k_follow (H : TrO w tr fa N) (hN2 : N < 10000) (hB : B.length ≤ N) (hC : BC w B) (hb : Bd B xs) :
    Ct l y_Tr_follow h_Tr_follow (rmL 2 0 0) Δ [.ref tr] (trW w tr fa xs) (fun r w' => r = none ∧ w' = trW w tr fa (flw w N 0 xs)) := by
  have htr := H.1
  have hfa := H.2.1
  have hfk := H.2.2.1
  have hfar : tr ≠ fa := fun e => by rw [e, hfk] at htr; cases htr
  refine Ct_of (L := [some (.ref tr), none, none, none]) (by decide) (by first | exact Nat.le_of_ble_eq_true rfl | simp [lg_sl, va_rf_cat, vc_r, vc_i, vc_0]) (by first | rfl | simp [lin, va_rf_cat, vc_r, vc_i, vc_0]) (fun Γ X => ?_)
  refine J_iconst (v := 0) X d_Tr_follow_0 (by decide) ?_
  refine J_istore_n X d_Tr_follow_1 rfl (by decide) rfl ?_
  have loop : ∀ (k i : Nat) (zs : List Nat), k + i = N → Bd B zs → flw w N 0 xs = flw w k i zs → J Γ Δ (AE Γ (trW w tr fa xs)) 4 (trW w tr fa zs) 0 0 (QE Γ Δ (trW w tr fa xs) (fun r w' => r = none ∧ w' = trW w tr fa (flw w N 0 xs)) (rmL 2 0 0)) 2 [some (.ref tr), some (.int (nI i)), none, none] [] := by
    intro k
    induction k with
    | zero =>
      intro i zs hi hz he
      have hf' : wP (trW w tr fa zs) tr 0 = some fa := (trW_ptr hfar).trans hfa
      refine J_iload_n X d_Tr_follow_2 rfl rfl ?_
      first | refine J_aload_nr X d_Tr_follow_3 rfl rfl ?_ | refine J_aload_n X d_Tr_follow_3 rfl rfl ?_ | refine J_aload_n0 X d_Tr_follow_3 rfl rfl ?_
      refine J_getR X (htr) fa_Tr_9_2 rfl (hf') d_Tr_follow_4 ?_
      refine J_alen X (hfk) (by decide) d_Tr_follow_7 ?_
      refine J_icmp_ge (tgt := 49) X d_Tr_follow_8 (by decide) (fun g => ?_) (fun g => ?_)
      · exact J_vret X ⟨rfl, by rw [he]; rfl⟩ (by decide) (by decide) d_Tr_follow_49
      · exact absurd (nI_le (by omega) (by omega)) g
    | succ k ih =>
      intro i zs hi hz he
      have hf' : wP (trW w tr fa zs) tr 0 = some fa := (trW_ptr hfar).trans hfa
      have hzl := bd_len hz hB
      refine J_iload_n X d_Tr_follow_2 rfl rfl ?_
      first | refine J_aload_nr X d_Tr_follow_3 rfl rfl ?_ | refine J_aload_n X d_Tr_follow_3 rfl rfl ?_ | refine J_aload_n0 X d_Tr_follow_3 rfl rfl ?_
      refine J_getR X (htr) fa_Tr_9_2 rfl (hf') d_Tr_follow_4 ?_
      refine J_alen X (hfk) (by decide) d_Tr_follow_7 ?_
      refine J_icmp_ge (tgt := 49) X d_Tr_follow_8 (by decide) (fun g => ?_) (fun g => ?_)
      · exact absurd g (nI_ge (by omega) (by omega))
      · refine J_iload_n X d_Tr_follow_11 rfl rfl ?_
        first | refine J_aload_nr X d_Tr_follow_12 rfl rfl ?_ | refine J_aload_n X d_Tr_follow_12 rfl rfl ?_ | refine J_aload_n0 X d_Tr_follow_12 rfl rfl ?_
        refine J_getI X (htr) fa_Tr_15_2 rfl (trW_cnt _ _ _ _) d_Tr_follow_13 ?_
        by_cases hlt : i < zs.length
        · obtain ⟨t, ht⟩ := at_lt hlt
          have htB := hz.2 t (List.mem_of_getElem? ht)
          obtain ⟨hT, hP⟩ := hC t htB
          obtain ⟨ci, hci, hk⟩ := isTb_to hT
          have hat : wP (trW w tr fa zs) fa i = some t := trW_fa ht
          have he' : flw w N 0 xs = flw w k (i + 1) (fnds w zs (sucL w t)) := by rw [he, flw, ht]
          refine J_icmp_ge (tgt := 49) X d_Tr_follow_16 (by decide) (fun g2 => ?_) (fun g2 => ?_)
          · exact absurd g2 (nI_ge hlt (by omega))
          · first | refine J_aload_nr X d_Tr_follow_19 rfl rfl ?_ | refine J_aload_n X d_Tr_follow_19 rfl rfl ?_ | refine J_aload_n0 X d_Tr_follow_19 rfl rfl ?_
            refine J_getR X (htr) fa_Tr_9_2 rfl (hf') d_Tr_follow_20 ?_
            refine J_iload_n X d_Tr_follow_23 rfl rfl ?_
            refine J_aaldr X (hfk) (by decide) rfl ⟨_, rfl⟩ (rfl) (by omega) (by omega) (hat) d_Tr_follow_24 ?_
            first | refine J_astore_nr X d_Tr_follow_25 rfl (by decide) rfl ?_ | refine J_astore_n X d_Tr_follow_25 rfl (by decide) rfl ?_ | refine J_astore_n0 X d_Tr_follow_25 rfl (by decide) rfl ?_
            first | refine J_aload_nr X d_Tr_follow_26 rfl rfl ?_ | refine J_aload_n X d_Tr_follow_26 rfl rfl ?_ | refine J_aload_n0 X d_Tr_follow_26 rfl rfl ?_
            rcases hci with rfl | rfl
            · obtain ⟨c, n, g3, g4, g5, g6⟩ := hP hk
              refine J_instY X hk iy_Tr_39_3 d_Tr_follow_27 ?_
              refine J_if_eq (tgt := 43) X d_Tr_follow_30 (by decide) (fun g7 => ?_) (fun g7 => ?_)
              · exact absurd g7 (by decide)
              · first | refine J_aload_nr X d_Tr_follow_33 rfl rfl ?_ | refine J_aload_n X d_Tr_follow_33 rfl rfl ?_ | refine J_aload_n0 X d_Tr_follow_33 rfl rfl ?_
                refine J_cast X hk iy_Tr_39_3 d_Tr_follow_34 ?_
                first | refine J_astore_nr X d_Tr_follow_37 rfl (by decide) rfl ?_ | refine J_astore_n X d_Tr_follow_37 rfl (by decide) rfl ?_ | refine J_astore_n0 X d_Tr_follow_37 rfl (by decide) rfl ?_
                first | refine J_aload_nr X d_Tr_follow_38 rfl rfl ?_ | refine J_aload_n X d_Tr_follow_38 rfl rfl ?_ | refine J_aload_n0 X d_Tr_follow_38 rfl rfl ?_
                first | refine J_aload_nr X d_Tr_follow_39 rfl rfl ?_ | refine J_aload_n X d_Tr_follow_39 rfl rfl ?_ | refine J_aload_n0 X d_Tr_follow_39 rfl rfl ?_
                refine J_callV X (htr) rfl (k_findContents (B := B) H hB hz hk g3 g4 g5 (fun o ho => (g6 o ho).1) (fun o ho => (g6 o ho).2)) cd_Tr_findContents lk_Tr_41 vi_Tr_findContents (by decide) (by decide) (by decide) (by decide) rfl (by first | decide | simp [va_rf_cat, vc_r, vc_i, vc_0]) d_Tr_follow_40 (fun r w1 hr => ?_)
                obtain ⟨rfl, rfl⟩ := hr
                refine J_iinc X d_Tr_follow_43 rfl (by decide) (nI_s i) rfl ?_
                refine J_goto (tgt := 2) X d_Tr_follow_46 (by decide) ?_
                refine J_forget 2 rfl ?_
                refine J_forget 3 rfl ?_
                refine ih (i + 1) _ (by omega) (fnds_bd (fun o ho => (g6 o ho).2) hz) ?_
                rw [he', sucL_of hk g3 g4]
            · refine J_instN X hk in_Tr_39_4 d_Tr_follow_27 ?_
              refine J_if_eq (tgt := 43) X d_Tr_follow_30 (by decide) (fun g7 => ?_) (fun g7 => ?_)
              · refine J_iinc X d_Tr_follow_43 rfl (by decide) (nI_s i) rfl ?_
                refine J_goto (tgt := 2) X d_Tr_follow_46 (by decide) ?_
                refine J_forget 3 rfl ?_
                refine ih (i + 1) zs (by omega) hz ?_
                rw [he', sucL_no hk]
                rfl
              · exact absurd rfl g7
        · refine J_icmp_ge (tgt := 49) X d_Tr_follow_16 (by decide) (fun g2 => ?_) (fun g2 => ?_)
          · refine J_vret X ⟨rfl, ?_⟩ (by decide) (by decide) d_Tr_follow_49
            rw [he, flw, List.getElem?_eq_none (by omega)]
          · exact absurd (nI_le (by omega) (by omega)) g2
  exact loop N 0 xs (by omega) hb rfl
end TG2
end
section
/-! the generations' methods -/
def rch (w : Wd) (t : Nat) : Bool := decide (¬ wI w t 2 = 0)
/-- the world in which the generation g (its row ga) holds zs -/
def genW (w : Wd) (g ga : Nat) (zs : List Nat) : Wd :=
  (w.1, fun b k => if b = g ∧ k = 2 then nI zs.length else if b = g ∧ k = 3 then sumI w zs else w.2.1 b k, fun b k => if b = ga then (if k < zs.length then zs[k]? else w.2.2.1 b k) else w.2.2.1 b k, w.2.2.2)
theorem genW_cnt (w : Wd) (g ga : Nat) (zs : List Nat) : wI (genW w g ga zs) g 2 = nI zs.length := by simp [genW, wI]
theorem genW_tak (w : Wd) (g ga : Nat) (zs : List Nat) : wI (genW w g ga zs) g 3 = sumI w zs := by simp [genW, wI]
theorem genW_int {w : Wd} {g ga : Nat} {zs : List Nat} {b k : Nat} (h : b ≠ g ∨ (k ≠ 2 ∧ k ≠ 3)) : wI (genW w g ga zs) b k = wI w b k := by
  rcases h with h | ⟨h1, h2⟩
  · simp [genW, wI, h]
  · simp [genW, wI, h1, h2]
theorem genW_ptr {w : Wd} {g ga : Nat} {zs : List Nat} {b k : Nat} (h : b ≠ ga ∨ zs.length ≤ k) : wP (genW w g ga zs) b k = wP w b k := by
  rcases h with h | h
  · simp [genW, wP, h]
  · by_cases e : b = ga
    · simp [genW, wP, e, Nat.not_lt.mpr h]
    · simp [genW, wP, e]
theorem genW_row {w : Wd} {g ga : Nat} {zs : List Nat} {k x : Nat} (h : zs[k]? = some x) : wP (genW w g ga zs) ga k = some x := by
  have := (List.getElem?_eq_some_iff.mp h).1
  simp [genW, wP, this]
  exact (List.getElem?_eq_some_iff.mp h).2
theorem genW_add {w : Wd} {g ga : Nat} {zs : List Nat} {t : Nat} (hs : wI w t 0 = nI (szw w t)) :
    uI (uI (uP (genW w g ga zs) ga zs.length (some t)) g 2 (nI (zs.length + 1))) g 3 (sumI w zs + wI w t 0) = genW w g ga (zs ++ [t]) := by
  have e2 : sumI w (zs ++ [t]) = sumI w zs + wI w t 0 := by
    rw [hs, sumI, sumI, nI_add]
    simp
  refine Prod.ext rfl (Prod.ext ?_ (Prod.ext ?_ rfl))
  · funext b k
    show (if b = g ∧ k = 3 then sumI w zs + wI w t 0 else if b = g ∧ k = 2 then nI (zs.length + 1) else (if b = g ∧ k = 2 then nI zs.length else if b = g ∧ k = 3 then sumI w zs else w.2.1 b k)) = (if b = g ∧ k = 2 then nI (zs ++ [t]).length else if b = g ∧ k = 3 then sumI w (zs ++ [t]) else w.2.1 b k)
    rw [e2]
    by_cases h1 : b = g
    · subst h1
      by_cases k1 : k = 3
      · subst k1; simp
      · by_cases k2 : k = 2
        · subst k2; simp
        · simp [k1, k2]
    · simp [h1]
  · funext b k
    show (if b = ga ∧ k = zs.length then some t else (if b = ga then (if k < zs.length then zs[k]? else w.2.2.1 b k) else w.2.2.1 b k)) = (if b = ga then (if k < (zs ++ [t]).length then (zs ++ [t])[k]? else w.2.2.1 b k) else w.2.2.1 b k)
    by_cases hb : b = ga
    · subst hb
      by_cases k1 : k = zs.length
      · subst k1; simp
      · by_cases k2 : k < zs.length
        · rw [if_neg (by simp [k1]), if_pos rfl, if_pos rfl, if_pos k2, if_pos (by simp; omega), List.getElem?_append_left k2]
        · rw [if_neg (by simp [k1]), if_pos rfl, if_pos rfl, if_neg k2, if_neg (by simp; omega)]
    · simp [hb]
theorem genW_nil (w : Wd) (g ga : Nat) : uI (uI w g 2 0) g 3 0 = genW w g ga [] := by
  refine Prod.ext rfl (Prod.ext ?_ (Prod.ext ?_ rfl))
  · funext b k
    show (if b = g ∧ k = 3 then 0 else if b = g ∧ k = 2 then 0 else w.2.1 b k) = (if b = g ∧ k = 2 then nI 0 else if b = g ∧ k = 3 then sumI w [] else w.2.1 b k)
    by_cases h1 : b = g
    · subst h1
      by_cases k1 : k = 3
      · subst k1; simp; rfl
      · by_cases k2 : k = 2
        · subst k2; simp; rfl
        · simp [k1, k2]
    · simp [h1]
  · funext b k
    show w.2.2.1 b k = (if b = ga then (if k < 0 then _ else w.2.2.1 b k) else w.2.2.1 b k)
    simp
theorem genW_self {w : Wd} {g ga : Nat} {zs : List Nat} (h1 : wI w g 2 = nI zs.length) (h2 : wI w g 3 = sumI w zs) (h3 : ∀ i x, zs[i]? = some x → wP w ga i = some x) : genW w g ga zs = w := by
  refine Prod.ext rfl (Prod.ext ?_ (Prod.ext ?_ rfl))
  · funext b k
    show (if b = g ∧ k = 2 then nI zs.length else if b = g ∧ k = 3 then sumI w zs else w.2.1 b k) = w.2.1 b k
    by_cases g1 : b = g ∧ k = 2
    · rw [if_pos g1]; obtain ⟨rfl, rfl⟩ := g1; exact h1.symm
    · rw [if_neg g1]
      by_cases g2 : b = g ∧ k = 3
      · rw [if_pos g2]; obtain ⟨rfl, rfl⟩ := g2; exact h2.symm
      · rw [if_neg g2]
  · funext b k
    show (if b = ga then (if k < zs.length then zs[k]? else w.2.2.1 b k) else w.2.2.1 b k) = w.2.2.1 b k
    by_cases hb : b = ga
    · subst hb
      rw [if_pos rfl]
      by_cases hk : k < zs.length
      · obtain ⟨x, hx⟩ := at_lt hk
        rw [if_pos hk, hx]
        exact (h3 k x hx).symm
      · rw [if_neg hk]
    · rw [if_neg hb]
theorem filt_s {xs : List Nat} {p : Nat → Bool} {i x : Nat} (h : xs[i]? = some x) : (xs.take (i + 1)).filter p = if p x = true then (xs.take i).filter p ++ [x] else (xs.take i).filter p := by
  rw [take_s h, List.filter_append]
  by_cases hp : p x = true <;> simp [hp]
/-- the generation object g with its row ga of m places, holding xs -/
def GeO (w : Wd) (g ga m : Nat) : Prop := wK w g = some (.inl 1) ∧ wP w g 1 = some ga ∧ wK w ga = some (.inr (4, m)) ∧ m < 10000
def GeL (w : Wd) (g ga m : Nat) (xs : List Nat) : Prop := GeO w g ga m ∧ wI w g 2 = nI xs.length ∧ xs.length ≤ m ∧ ∀ i x, xs[i]? = some x → wP w ga i = some x ∧ isTb w x = true
section GE
variable {l : Launch} {Δ : Dat} {w : Wd} {g ga m : Nat} {xs : List Nat}
set_option maxRecDepth 100000 in
set_option maxHeartbeats 1000000 in
theorem k_add {n t : Nat} (H : GeO w g ga m) (hcnt : wI w g 2 = nI n) (hn : n < m) (ht : isTb w t = true) :
    Ct l y_Gen_add h_Gen_add (rmL 0 0 0) Δ [.ref g, .ref t] w (fun r w' => r = none ∧ w' = uI (uI (uP w ga n (some t)) g 2 (nI (n + 1))) g 3 (wI w g 3 + wI w t 0)) := by
  obtain ⟨hg, hga, hgk, hm⟩ := H
  obtain ⟨ci, hci, hk⟩ := isTb_to ht
  have hne : t ≠ g := isTb_ne ht hg (by decide)
  have hgg : g ≠ ga := fun e => by rw [e, hgk] at hg; cases hg
  refine Ct_of (L := [some (.ref g), some (.ref t)]) (by decide) (by first | exact Nat.le_of_ble_eq_true rfl | simp [lg_sl, va_rf_cat, vc_r, vc_i, vc_0]) (by first | rfl | simp [lin, va_rf_cat, vc_r, vc_i, vc_0]) (fun Γ X => ?_)
  first | refine J_aload_nr X d_Gen_add_0 rfl rfl ?_ | refine J_aload_n X d_Gen_add_0 rfl rfl ?_ | refine J_aload_n0 X d_Gen_add_0 rfl rfl ?_
  refine J_getI X (hg) fa_Gen_22_1 rfl (hcnt) d_Gen_add_1 ?_
  first | refine J_aload_nr X d_Gen_add_4 rfl rfl ?_ | refine J_aload_n X d_Gen_add_4 rfl rfl ?_ | refine J_aload_n0 X d_Gen_add_4 rfl rfl ?_
  refine J_getR X (hg) fa_Gen_15_1 rfl (hga) d_Gen_add_5 ?_
  refine J_alen X (hgk) (by decide) d_Gen_add_8 ?_
  refine J_icmp_ge (tgt := 45) X d_Gen_add_9 (by decide) (fun g2 => ?_) (fun g2 => ?_)
  · exact absurd g2 (nI_ge hn (by omega))
  · first | refine J_aload_nr X d_Gen_add_12 rfl rfl ?_ | refine J_aload_n X d_Gen_add_12 rfl rfl ?_ | refine J_aload_n0 X d_Gen_add_12 rfl rfl ?_
    refine J_getR X (hg) fa_Gen_15_1 rfl (hga) d_Gen_add_13 ?_
    first | refine J_aload_nr X d_Gen_add_16 rfl rfl ?_ | refine J_aload_n X d_Gen_add_16 rfl rfl ?_ | refine J_aload_n0 X d_Gen_add_16 rfl rfl ?_
    refine J_getI X (hg) fa_Gen_22_1 rfl (hcnt) d_Gen_add_17 ?_
    first | refine J_aload_nr X d_Gen_add_20 rfl rfl ?_ | refine J_aload_n X d_Gen_add_20 rfl rfl ?_ | refine J_aload_n0 X d_Gen_add_20 rfl rfl ?_
    refine J_aastr X hgk (by decide) rfl ⟨_, rfl⟩ ⟨ci, hk, by rcases hci with rfl | rfl; exact ac_3_4; exact ac_4_4⟩ rfl hn (by omega) d_Gen_add_21 ?_
    first | refine J_aload_nr X d_Gen_add_22 rfl rfl ?_ | refine J_aload_n X d_Gen_add_22 rfl rfl ?_ | refine J_aload_n0 X d_Gen_add_22 rfl rfl ?_
    refine J_dup X d_Gen_add_23 (rfl) ?_
    refine J_getI X (hg) fa_Gen_22_1 rfl (hcnt) d_Gen_add_24 ?_
    refine J_iconst (v := 1) X d_Gen_add_27 (by decide) ?_
    refine J_iadd X d_Gen_add_28 ?_
    refine J_top (v' := .int (nI (n + 1))) (by rw [show (1 : Int32) = nI 1 from rfl, nI_add]) ?_
    refine J_putI X (hg) fp_Gen_22_1 rfl d_Gen_add_29 ?_
    first | refine J_aload_nr X d_Gen_add_32 rfl rfl ?_ | refine J_aload_n X d_Gen_add_32 rfl rfl ?_ | refine J_aload_n0 X d_Gen_add_32 rfl rfl ?_
    refine J_dup X d_Gen_add_33 (rfl) ?_
    refine J_getI X (hg) fa_Gen_19_1 rfl (by rw [wI_uI, if_neg (by simp), wI_uP] : _ = wI w g 3) d_Gen_add_34 ?_
    first | refine J_aload_nr X d_Gen_add_37 rfl rfl ?_ | refine J_aload_n X d_Gen_add_37 rfl rfl ?_ | refine J_aload_n0 X d_Gen_add_37 rfl rfl ?_
    refine J_getI X (hk) (faT_Gen_25 hci).1 (faT_Gen_25 hci).2 (by rw [wI_uI, if_neg (by simp), wI_uP] : _ = wI w t 0) d_Gen_add_38 ?_
    refine J_iadd X d_Gen_add_41 ?_
    refine J_putI X (hg) fp_Gen_19_1 rfl d_Gen_add_42 ?_
    exact J_vret X ⟨rfl, rfl⟩ (by decide) (by decide) d_Gen_add_45
/-- add, where the generation holds zs -/
theorem k_addW {zs : List Nat} {t : Nat} (H : GeO w g ga m) (hn : zs.length < m) (ht : isTb w t = true) (hs : wI w t 0 = nI (szw w t)) :
    Ct l y_Gen_add h_Gen_add (rmL 0 0 0) Δ [.ref g, .ref t] (genW w g ga zs) (fun r w' => r = none ∧ w' = genW w g ga (zs ++ [t])) := by
  have hne : t ≠ g := isTb_ne ht H.1 (by decide)
  have hgg : g ≠ ga := fun e => by have := H.1; rw [e, H.2.2.1] at this; cases this
  have H' : GeO (genW w g ga zs) g ga m := ⟨H.1, (genW_ptr (Or.inl hgg)).trans H.2.1, H.2.2.1, H.2.2.2⟩
  have k := k_add (l := l) (Δ := Δ) (w := genW w g ga zs) (n := zs.length) H' (genW_cnt _ _ _ _) hn ht
  rw [genW_tak, genW_int (b := t) (k := 0) (Or.inl hne), genW_add hs] at k
  exact k
set_option maxRecDepth 100000 in
set_option maxHeartbeats 1000000 in
theorem k_reachedCells (H : GeL w g ga m xs) (hsz : ∀ t, isTb w t = true → wI w t 0 = nI (szw w t)) :
    Ct l y_Gen_reachedCells h_Gen_reachedCells (rmL 0 0 0) Δ [.ref g] w (fun r w' => r = some (.int (sumI w (xs.filter (rch w)))) ∧ w' = w) := by
  obtain ⟨⟨hg, hga, hgk, hm⟩, hcnt, hxm, hat⟩ := H
  refine Ct_of (L := [some (.ref g), none, none, none]) (by decide) (by first | exact Nat.le_of_ble_eq_true rfl | simp [lg_sl, va_rf_cat, vc_r, vc_i, vc_0]) (by first | rfl | simp [lin, va_rf_cat, vc_r, vc_i, vc_0]) (fun Γ X => ?_)
  refine J_iconst (v := 0) X d_Gen_reachedCells_0 (by decide) ?_
  refine J_istore_n X d_Gen_reachedCells_1 rfl (by decide) rfl ?_
  refine J_iconst (v := 0) X d_Gen_reachedCells_2 (by decide) ?_
  refine J_istore_n X d_Gen_reachedCells_3 rfl (by decide) rfl ?_
  have loop : ∀ (k i : Nat), k + i = xs.length → J Γ Δ (AE Γ w) 4 w 0 0 (QE Γ Δ w (fun r w' => r = some (.int (sumI w (xs.filter (rch w)))) ∧ w' = w) (rmL 0 0 0)) 4 [some (.ref g), some (.int (sumI w ((xs.take i).filter (rch w)))), some (.int (nI i)), none] [] := by
    intro k
    induction k with
    | zero =>
      intro i hi
      refine J_iload_n X d_Gen_reachedCells_4 rfl rfl ?_
      first | refine J_aload_nr X d_Gen_reachedCells_5 rfl rfl ?_ | refine J_aload_n X d_Gen_reachedCells_5 rfl rfl ?_ | refine J_aload_n0 X d_Gen_reachedCells_5 rfl rfl ?_
      refine J_getI X (hg) fa_Gen_22_1 rfl (hcnt) d_Gen_reachedCells_6 ?_
      refine J_icmp_ge (tgt := 43) X d_Gen_reachedCells_9 (by decide) (fun g2 => ?_) (fun g2 => ?_)
      · refine J_iload_n X d_Gen_reachedCells_43 rfl rfl ?_
        refine J_iret X ⟨?_, rfl⟩ (by decide) (by decide) d_Gen_reachedCells_44
        rw [List.take_of_length_le (by omega)]
      · exact absurd (nI_le (by omega) (by omega)) g2
    | succ k ih =>
      intro i hi
      obtain ⟨x, hx⟩ := at_lt (xs := xs) (i := i) (by omega)
      obtain ⟨hxa, hT⟩ := hat i x hx
      obtain ⟨ci, hci, hk⟩ := isTb_to hT
      refine J_iload_n X d_Gen_reachedCells_4 rfl rfl ?_
      first | refine J_aload_nr X d_Gen_reachedCells_5 rfl rfl ?_ | refine J_aload_n X d_Gen_reachedCells_5 rfl rfl ?_ | refine J_aload_n0 X d_Gen_reachedCells_5 rfl rfl ?_
      refine J_getI X (hg) fa_Gen_22_1 rfl (hcnt) d_Gen_reachedCells_6 ?_
      refine J_icmp_ge (tgt := 43) X d_Gen_reachedCells_9 (by decide) (fun g2 => ?_) (fun g2 => ?_)
      · exact absurd g2 (nI_ge (by omega) (by omega))
      · first | refine J_aload_nr X d_Gen_reachedCells_12 rfl rfl ?_ | refine J_aload_n X d_Gen_reachedCells_12 rfl rfl ?_ | refine J_aload_n0 X d_Gen_reachedCells_12 rfl rfl ?_
        refine J_getR X (hg) fa_Gen_15_1 rfl (hga) d_Gen_reachedCells_13 ?_
        refine J_iload_n X d_Gen_reachedCells_16 rfl rfl ?_
        refine J_aaldr X (hgk) (by decide) rfl ⟨_, rfl⟩ (rfl) (by omega) (by omega) (hxa) d_Gen_reachedCells_17 ?_
        first | refine J_astore_nr X d_Gen_reachedCells_18 rfl (by decide) rfl ?_ | refine J_astore_n X d_Gen_reachedCells_18 rfl (by decide) rfl ?_ | refine J_astore_n0 X d_Gen_reachedCells_18 rfl (by decide) rfl ?_
        first | refine J_aload_nr X d_Gen_reachedCells_19 rfl rfl ?_ | refine J_aload_n X d_Gen_reachedCells_19 rfl rfl ?_ | refine J_aload_n0 X d_Gen_reachedCells_19 rfl rfl ?_
        refine J_ifnullr X d_Gen_reachedCells_20 ?_
        first | refine J_aload_nr X d_Gen_reachedCells_23 rfl rfl ?_ | refine J_aload_n X d_Gen_reachedCells_23 rfl rfl ?_ | refine J_aload_n0 X d_Gen_reachedCells_23 rfl rfl ?_
        refine J_getI X (hk) (faT_Gen_28 hci).1 (faT_Gen_28 hci).2 (rfl) d_Gen_reachedCells_24 ?_
        refine J_if_eq (tgt := 37) X d_Gen_reachedCells_27 (by decide) (fun g3 => ?_) (fun g3 => ?_)
        · refine J_iinc X d_Gen_reachedCells_37 rfl (by decide) (nI_s i) rfl ?_
          refine J_goto (tgt := 4) X d_Gen_reachedCells_40 (by decide) ?_
          refine J_forget 3 rfl ?_
          have e := ih (i + 1) (by omega)
          rw [filt_s hx, if_neg (by simp [rch, g3])] at e
          exact e
        · refine J_iload_n X d_Gen_reachedCells_30 rfl rfl ?_
          first | refine J_aload_nr X d_Gen_reachedCells_31 rfl rfl ?_ | refine J_aload_n X d_Gen_reachedCells_31 rfl rfl ?_ | refine J_aload_n0 X d_Gen_reachedCells_31 rfl rfl ?_
          refine J_getI X (hk) (faT_Gen_25 hci).1 (faT_Gen_25 hci).2 (rfl) d_Gen_reachedCells_32 ?_
          refine J_iadd X d_Gen_reachedCells_35 ?_
          refine J_top (v' := .int (sumI w ((xs.take i).filter (rch w) ++ [x]))) (by rw [hsz x hT, sumI, sumI, nI_add]; simp) ?_
          refine J_istore_n X d_Gen_reachedCells_36 rfl (by decide) rfl ?_
          refine J_iinc X d_Gen_reachedCells_37 rfl (by decide) (nI_s i) rfl ?_
          refine J_goto (tgt := 4) X d_Gen_reachedCells_40 (by decide) ?_
          refine J_forget 3 rfl ?_
          have e := ih (i + 1) (by omega)
          rw [filt_s hx, if_pos (by simp [rch, g3])] at e
          exact e
  exact loop xs.length 0 rfl
end GE
end
section
/-! cutUnreachedTarget, cutTargets, keepReached, adoptReached -/
/-- is the target of the weak cell b to be cut? -/
def cutB (w : Wd) (b : Nat) : Bool := match wK w b with
  | some (.inl 4) => match wP w b 3 with
    | some t => decide (wI w t 2 = 0)
    | none => false
  | _ => false
/-- the world in which the unreached targets of ys are cut -/
def cutW (w : Wd) (ys : List Nat) : Wd := (w.1, w.2.1, fun b k => if k = 3 ∧ b ∈ ys ∧ cutB w b = true then none else w.2.2.1 b k, w.2.2.2)
theorem cutW_nil (w : Wd) : cutW w [] = w := by
  refine Prod.ext rfl (Prod.ext rfl (Prod.ext ?_ rfl))
  funext b k
  show (if k = 3 ∧ b ∈ ([] : List Nat) ∧ cutB w b = true then none else w.2.2.1 b k) = w.2.2.1 b k
  simp
theorem cutW_no {w : Wd} {ys : List Nat} {x : Nat} (h : cutB w x = false) : cutW w (ys ++ [x]) = cutW w ys := by
  refine Prod.ext rfl (Prod.ext rfl (Prod.ext ?_ rfl))
  funext b k
  show (if k = 3 ∧ b ∈ ys ++ [x] ∧ cutB w b = true then none else w.2.2.1 b k) = if k = 3 ∧ b ∈ ys ∧ cutB w b = true then none else w.2.2.1 b k
  by_cases hb : b = x
  · subst hb; simp [h]
  · simp [hb]
theorem cutW_yes {w : Wd} {ys : List Nat} {x : Nat} (h : cutB w x = true) : uP (cutW w ys) x 3 none = cutW w (ys ++ [x]) := by
  refine Prod.ext rfl (Prod.ext rfl (Prod.ext ?_ rfl))
  funext b k
  show (if b = x ∧ k = 3 then none else if k = 3 ∧ b ∈ ys ∧ cutB w b = true then none else w.2.2.1 b k) = if k = 3 ∧ b ∈ ys ++ [x] ∧ cutB w b = true then none else w.2.2.1 b k
  by_cases hb : b = x
  · subst hb
    by_cases hk : k = 3
    · subst hk; simp [h]
    · simp [hk]
  · simp [hb]
theorem cutW_ptr {w : Wd} {ys : List Nat} {b k : Nat} (h : k ≠ 3 ∨ b ∉ ys) : wP (cutW w ys) b k = wP w b k := by
  rcases h with h | h <;> simp [cutW, wP, h]
theorem cutW_again {w : Wd} {ys : List Nat} {x : Nat} (h : cutB w x = true) (hx : x ∈ ys) : cutW w (ys ++ [x]) = cutW w ys := by
  refine Prod.ext rfl (Prod.ext rfl (Prod.ext ?_ rfl))
  funext b k
  show (if k = 3 ∧ b ∈ ys ++ [x] ∧ cutB w b = true then none else w.2.2.1 b k) = if k = 3 ∧ b ∈ ys ∧ cutB w b = true then none else w.2.2.1 b k
  by_cases hb : b = x
  · subst hb; simp [hx]
  · simp [hb]
/-- the flag isOld set at zs -/
def oldF (w : Wd) (zs : List Nat) : Wd := (w.1, fun b k => if k = 1 ∧ b ∈ zs then 1 else w.2.1 b k, w.2.2)
theorem oldF_nil (w : Wd) : oldF w [] = w := by
  refine Prod.ext rfl (Prod.ext ?_ rfl)
  funext b k
  show (if k = 1 ∧ b ∈ ([] : List Nat) then 1 else w.2.1 b k) = w.2.1 b k
  simp
theorem oldF_int {w : Wd} {zs : List Nat} {b k : Nat} (h : k ≠ 1) : wI (oldF w zs) b k = wI w b k := by simp [oldF, wI, h]
theorem oldF_s {w : Wd} {zs : List Nat} {x : Nat} : uI (oldF w zs) x 1 1 = oldF w (zs ++ [x]) := by
  refine Prod.ext rfl (Prod.ext ?_ rfl)
  funext b k
  show (if b = x ∧ k = 1 then 1 else if k = 1 ∧ b ∈ zs then 1 else w.2.1 b k) = if k = 1 ∧ b ∈ zs ++ [x] then 1 else w.2.1 b k
  by_cases k1 : k = 1
  · subst k1
    by_cases hb : b = x
    · subst hb; simp
    · simp [hb]
  · simp [k1]
theorem oldF_genW {w : Wd} {g ga : Nat} {zs xs : List Nat} (hg : g ∉ xs ∨ True) : oldF (genW w g ga zs) xs = genW (oldF w xs) g ga zs := by
  have hz : sumI (oldF w xs) zs = sumI w zs := by
    unfold sumI
    congr 2
  refine Prod.ext rfl (Prod.ext ?_ rfl)
  funext b k
  show (if k = 1 ∧ b ∈ xs then 1 else (if b = g ∧ k = 2 then nI zs.length else if b = g ∧ k = 3 then sumI w zs else w.2.1 b k)) = (if b = g ∧ k = 2 then nI zs.length else if b = g ∧ k = 3 then sumI (oldF w xs) zs else (if k = 1 ∧ b ∈ xs then 1 else w.2.1 b k))
  rw [hz]
  by_cases k1 : k = 1
  · subst k1; simp
  · simp [k1]
section GX
variable {l : Launch} {Δ : Dat} {w : Wd} {g ga m : Nat} {xs : List Nat}
set_option maxRecDepth 100000 in
set_option maxHeartbeats 1000000 in
theorem k_cutUnreached {b : Nat} (hb : wK w b = some (.inl 4)) (ht : ∀ t, wP w b 3 = some t → isTb w t = true) :
    Ct l y_Wk_cutUnreachedTarget h_Wk_cutUnreachedTarget (rmL 0 0 0) Δ [.ref b] w (fun r w' => r = none ∧ w' = if cutB w b = true then uP w b 3 none else w) := by
  refine Ct_of (L := [some (.ref b)]) (by decide) (by first | exact Nat.le_of_ble_eq_true rfl | simp [lg_sl, va_rf_cat, vc_r, vc_i, vc_0]) (by first | rfl | simp [lin, va_rf_cat, vc_r, vc_i, vc_0]) (fun Γ X => ?_)
  cases ho : wP w b 3 with
  | none =>
    first | refine J_aload_nr X d_Wk_cutUnreachedTarget_0 rfl rfl ?_ | refine J_aload_n X d_Wk_cutUnreachedTarget_0 rfl rfl ?_ | refine J_aload_n0 X d_Wk_cutUnreachedTarget_0 rfl rfl ?_
    refine J_getP X (hb) fa_Wk_7_4 rfl (ho) d_Wk_cutUnreachedTarget_1 ?_
    refine J_ifnull0 (tgt := 22) X d_Wk_cutUnreachedTarget_4 (by decide) ?_
    exact J_vret X ⟨rfl, by rw [if_neg (by simp [cutB, hb, ho])]⟩ (by decide) (by decide) d_Wk_cutUnreachedTarget_22
  | some t =>
    obtain ⟨ci, hci, hk⟩ := isTb_to (ht t ho)
    first | refine J_aload_nr X d_Wk_cutUnreachedTarget_0 rfl rfl ?_ | refine J_aload_n X d_Wk_cutUnreachedTarget_0 rfl rfl ?_ | refine J_aload_n0 X d_Wk_cutUnreachedTarget_0 rfl rfl ?_
    refine J_getR X (hb) fa_Wk_7_4 rfl (ho) d_Wk_cutUnreachedTarget_1 ?_
    refine J_ifnullr X d_Wk_cutUnreachedTarget_4 ?_
    first | refine J_aload_nr X d_Wk_cutUnreachedTarget_7 rfl rfl ?_ | refine J_aload_n X d_Wk_cutUnreachedTarget_7 rfl rfl ?_ | refine J_aload_n0 X d_Wk_cutUnreachedTarget_7 rfl rfl ?_
    refine J_getR X (hb) fa_Wk_7_4 rfl (ho) d_Wk_cutUnreachedTarget_8 ?_
    refine J_getI X (hk) (faT_Wk_13 hci).1 (faT_Wk_13 hci).2 (rfl) d_Wk_cutUnreachedTarget_11 ?_
    refine J_if_ne (tgt := 22) X d_Wk_cutUnreachedTarget_14 (by decide) (fun g2 => ?_) (fun g2 => ?_)
    · exact J_vret X ⟨rfl, by rw [if_neg (by simp [cutB, hb, ho, g2])]⟩ (by decide) (by decide) d_Wk_cutUnreachedTarget_22
    · first | refine J_aload_nr X d_Wk_cutUnreachedTarget_17 rfl rfl ?_ | refine J_aload_n X d_Wk_cutUnreachedTarget_17 rfl rfl ?_ | refine J_aload_n0 X d_Wk_cutUnreachedTarget_17 rfl rfl ?_
      refine J_null X d_Wk_cutUnreachedTarget_18 ?_
      first | refine J_putPr X (hb) fp_Wk_7_4 (Or.inl ⟨_, rfl⟩) rfl d_Wk_cutUnreachedTarget_19 ?_ | refine J_putP X (hb) fp_Wk_7_4 (Or.inl ⟨_, rfl⟩) rfl d_Wk_cutUnreachedTarget_19 ?_ | refine J_putP0 X (hb) fp_Wk_7_4 (Or.inl ⟨_, rfl⟩) rfl d_Wk_cutUnreachedTarget_19 ?_
      exact J_vret X ⟨rfl, by rw [if_pos (by simp [cutB, hb, ho, g2])]⟩ (by decide) (by decide) d_Wk_cutUnreachedTarget_22
set_option maxRecDepth 100000 in
set_option maxHeartbeats 1000000 in
theorem k_cutTargets (H : GeL w g ga m xs) (hnd : xs.Nodup) (hwk : ∀ b t, wK w b = some (.inl 4) → wP w b 3 = some t → isTb w t = true) :
    Ct l y_Gen_cutTargets h_Gen_cutTargets (rmL 1 0 0) Δ [.ref g] w (fun r w' => r = none ∧ w' = cutW w xs) := by
  obtain ⟨⟨hg, hga, hgk, hm⟩, hcnt, hxm, hat⟩ := H
  have hnT : ∀ a d, wK w a = some d → (d ≠ .inl 3 ∧ d ≠ .inl 4) → a ∉ xs := by
    intro a d ha hd hx
    obtain ⟨i, hi⟩ := List.getElem?_of_mem hx
    exact isTb_ne (hat i a hi).2 ha hd rfl
  have hgx := hnT g _ hg (by decide)
  have hgax := hnT ga _ hgk (by simp)
  refine Ct_of (L := [some (.ref g), none, none, none]) (by decide) (by first | exact Nat.le_of_ble_eq_true rfl | simp [lg_sl, va_rf_cat, vc_r, vc_i, vc_0]) (by first | rfl | simp [lin, va_rf_cat, vc_r, vc_i, vc_0]) (fun Γ X => ?_)
  refine J_iconst (v := 0) X d_Gen_cutTargets_0 (by decide) ?_
  refine J_istore_n X d_Gen_cutTargets_1 rfl (by decide) rfl ?_
  have loop : ∀ (k i : Nat), k + i = xs.length → J Γ Δ (AE Γ w) 4 (cutW w (xs.take i)) 0 0 (QE Γ Δ w (fun r w' => r = none ∧ w' = cutW w xs) (rmL 1 0 0)) 2 [some (.ref g), some (.int (nI i)), none, none] [] := by
    intro k
    induction k with
    | zero =>
      intro i hi
      refine J_iload_n X d_Gen_cutTargets_2 rfl rfl ?_
      first | refine J_aload_nr X d_Gen_cutTargets_3 rfl rfl ?_ | refine J_aload_n X d_Gen_cutTargets_3 rfl rfl ?_ | refine J_aload_n0 X d_Gen_cutTargets_3 rfl rfl ?_
      refine J_getI X (hg) fa_Gen_22_1 rfl (hcnt) d_Gen_cutTargets_4 ?_
      refine J_icmp_ge (tgt := 39) X d_Gen_cutTargets_7 (by decide) (fun g2 => ?_) (fun g2 => ?_)
      · exact J_vret X ⟨rfl, by rw [List.take_of_length_le (by omega)]⟩ (by decide) (by decide) d_Gen_cutTargets_39
      · exact absurd (nI_le (by omega) (by omega)) g2
    | succ k ih =>
      intro i hi
      obtain ⟨x, hx⟩ := at_lt (xs := xs) (i := i) (by omega)
      obtain ⟨hxa, hT⟩ := hat i x hx
      obtain ⟨ci, hci, hk⟩ := isTb_to hT
      have hga' : wP (cutW w (xs.take i)) g 1 = some ga := (cutW_ptr (Or.inl (by decide))).trans hga
      have hxa' : wP (cutW w (xs.take i)) ga i = some x := (cutW_ptr (Or.inr (fun q => hgax (List.mem_of_mem_take q)))).trans hxa
      have hxt : x ∉ xs.take i := by
        intro q
        obtain ⟨j, hj⟩ := List.getElem?_of_mem q
        rw [List.getElem?_take] at hj
        split at hj
        · rename_i hji
          have := (List.getElem?_inj (by omega : j < xs.length) hnd).mp (hj.trans hx.symm)
          omega
        · cases hj
      refine J_iload_n X d_Gen_cutTargets_2 rfl rfl ?_
      first | refine J_aload_nr X d_Gen_cutTargets_3 rfl rfl ?_ | refine J_aload_n X d_Gen_cutTargets_3 rfl rfl ?_ | refine J_aload_n0 X d_Gen_cutTargets_3 rfl rfl ?_
      refine J_getI X (hg) fa_Gen_22_1 rfl (hcnt) d_Gen_cutTargets_4 ?_
      refine J_icmp_ge (tgt := 39) X d_Gen_cutTargets_7 (by decide) (fun g2 => ?_) (fun g2 => ?_)
      · exact absurd g2 (nI_ge (by omega) (by omega))
      · first | refine J_aload_nr X d_Gen_cutTargets_10 rfl rfl ?_ | refine J_aload_n X d_Gen_cutTargets_10 rfl rfl ?_ | refine J_aload_n0 X d_Gen_cutTargets_10 rfl rfl ?_
        refine J_getR X (hg) fa_Gen_15_1 rfl (hga') d_Gen_cutTargets_11 ?_
        refine J_iload_n X d_Gen_cutTargets_14 rfl rfl ?_
        refine J_aaldr X (hgk) (by decide) rfl ⟨_, rfl⟩ (rfl) (by omega) (by omega) (hxa') d_Gen_cutTargets_15 ?_
        first | refine J_astore_nr X d_Gen_cutTargets_16 rfl (by decide) rfl ?_ | refine J_astore_n X d_Gen_cutTargets_16 rfl (by decide) rfl ?_ | refine J_astore_n0 X d_Gen_cutTargets_16 rfl (by decide) rfl ?_
        first | refine J_aload_nr X d_Gen_cutTargets_17 rfl rfl ?_ | refine J_aload_n X d_Gen_cutTargets_17 rfl rfl ?_ | refine J_aload_n0 X d_Gen_cutTargets_17 rfl rfl ?_
        rcases hci with rfl | rfl
        · refine J_instN X hk in_Gen_32_3 d_Gen_cutTargets_18 ?_
          refine J_if_eq (tgt := 33) X d_Gen_cutTargets_21 (by decide) (fun g3 => ?_) (fun g3 => ?_)
          · refine J_iinc X d_Gen_cutTargets_33 rfl (by decide) (nI_s i) rfl ?_
            refine J_goto (tgt := 2) X d_Gen_cutTargets_36 (by decide) ?_
            refine J_forget 3 rfl ?_
            have e := ih (i + 1) (by omega)
            rw [take_s hx, cutW_no (by simp [cutB, hk])] at e
            exact e
          · exact absurd rfl g3
        · refine J_instY X hk iy_Gen_32_4 d_Gen_cutTargets_18 ?_
          refine J_if_eq (tgt := 33) X d_Gen_cutTargets_21 (by decide) (fun g3 => ?_) (fun g3 => ?_)
          · exact absurd g3 (by decide)
          · first | refine J_aload_nr X d_Gen_cutTargets_24 rfl rfl ?_ | refine J_aload_n X d_Gen_cutTargets_24 rfl rfl ?_ | refine J_aload_n0 X d_Gen_cutTargets_24 rfl rfl ?_
            refine J_cast X hk iy_Gen_32_4 d_Gen_cutTargets_25 ?_
            first | refine J_astore_nr X d_Gen_cutTargets_28 rfl (by decide) rfl ?_ | refine J_astore_n X d_Gen_cutTargets_28 rfl (by decide) rfl ?_ | refine J_astore_n0 X d_Gen_cutTargets_28 rfl (by decide) rfl ?_
            first | refine J_aload_nr X d_Gen_cutTargets_29 rfl rfl ?_ | refine J_aload_n X d_Gen_cutTargets_29 rfl rfl ?_ | refine J_aload_n0 X d_Gen_cutTargets_29 rfl rfl ?_
            have hp3 : wP (cutW w (xs.take i)) x 3 = wP w x 3 := cutW_ptr (Or.inr hxt)
            have hcb : cutB (cutW w (xs.take i)) x = cutB w x := by
              unfold cutB
              rw [show wK (cutW w (xs.take i)) x = wK w x from rfl, hp3]
              rfl
            refine J_callV X (hk) rfl (k_cutUnreached (w := cutW w (xs.take i)) hk (fun t ht => hwk x t hk (hp3.symm.trans ht))) cd_Wk_cutUnreachedTarget lk_Gen_34 vi_Wk_cutUnreachedTarget (by decide) (by decide) (by decide) (by decide) rfl (by first | decide | simp [va_rf_cat, vc_r, vc_i, vc_0]) d_Gen_cutTargets_30 (fun r w1 hr => ?_)
            obtain ⟨rfl, rfl⟩ := hr
            refine J_iinc X d_Gen_cutTargets_33 rfl (by decide) (nI_s i) rfl ?_
            refine J_goto (tgt := 2) X d_Gen_cutTargets_36 (by decide) ?_
            refine J_forget 2 rfl ?_
            refine J_forget 3 rfl ?_
            refine J_eq (w' := cutW w (xs.take (i + 1))) ?_ rfl (ih (i + 1) (by omega))
            rw [hcb, take_s hx]
            by_cases hc : cutB w x = true
            · rw [if_pos hc, cutW_yes hc]
            · rw [if_neg hc, cutW_no (by simpa using hc)]
  exact J_eq (w' := cutW w (xs.take 0)) (by rw [List.take_zero, cutW_nil]) rfl (loop xs.length 0 rfl)
set_option maxRecDepth 100000 in
set_option maxHeartbeats 1000000 in
theorem k_keepReached (H : GeL w g ga m xs) (hsz : ∀ t, isTb w t = true → wI w t 0 = nI (szw w t)) :
    Ct l y_Gen_keepReached h_Gen_keepReached (rmL 1 0 0) Δ [.ref g] w (fun r w' => r = none ∧ w' = genW w g ga (xs.filter (rch w))) := by
  obtain ⟨⟨hg, hga, hgk, hm⟩, hcnt, hxm, hat⟩ := H
  have hgg : g ≠ ga := fun e => by rw [e, hgk] at hg; cases hg
  refine Ct_of (L := [some (.ref g), none, none, none]) (by decide) (by first | exact Nat.le_of_ble_eq_true rfl | simp [lg_sl, va_rf_cat, vc_r, vc_i, vc_0]) (by first | rfl | simp [lin, va_rf_cat, vc_r, vc_i, vc_0]) (fun Γ X => ?_)
  first | refine J_aload_nr X d_Gen_keepReached_0 rfl rfl ?_ | refine J_aload_n X d_Gen_keepReached_0 rfl rfl ?_ | refine J_aload_n0 X d_Gen_keepReached_0 rfl rfl ?_
  refine J_getI X (hg) fa_Gen_22_1 rfl (hcnt) d_Gen_keepReached_1 ?_
  refine J_istore_n X d_Gen_keepReached_4 rfl (by decide) rfl ?_
  first | refine J_aload_nr X d_Gen_keepReached_5 rfl rfl ?_ | refine J_aload_n X d_Gen_keepReached_5 rfl rfl ?_ | refine J_aload_n0 X d_Gen_keepReached_5 rfl rfl ?_
  refine J_callV X (hg) rfl (k_empty hg) cd_Gen_empty lk_Gen_37 vi_Gen_empty (by decide) (by decide) (by decide) (by decide) rfl (by first | decide | simp [va_rf_cat, vc_r, vc_i, vc_0]) d_Gen_keepReached_6 (fun r w1 hr => ?_)
  obtain ⟨rfl, rfl⟩ := hr
  refine J_iconst (v := 0) X d_Gen_keepReached_9 (by decide) ?_
  refine J_istore_n X d_Gen_keepReached_10 rfl (by decide) rfl ?_
  have loop : ∀ (k i : Nat), k + i = xs.length → J Γ Δ (AE Γ w) 4 (genW w g ga ((xs.take i).filter (rch w))) 0 0 (QE Γ Δ w (fun r w' => r = none ∧ w' = genW w g ga (xs.filter (rch w))) (rmL 1 0 0)) 11 [some (.ref g), some (.int (nI xs.length)), some (.int (nI i)), none] [] := by
    intro k
    induction k with
    | zero =>
      intro i hi
      refine J_iload_n X d_Gen_keepReached_11 rfl rfl ?_
      refine J_iload_n X d_Gen_keepReached_12 rfl rfl ?_
      refine J_icmp_ge (tgt := 45) X d_Gen_keepReached_13 (by decide) (fun g2 => ?_) (fun g2 => ?_)
      · exact J_vret X ⟨rfl, by rw [List.take_of_length_le (by omega)]⟩ (by decide) (by decide) d_Gen_keepReached_45
      · exact absurd (nI_le (by omega) (by omega)) g2
    | succ k ih =>
      intro i hi
      obtain ⟨x, hx⟩ := at_lt (xs := xs) (i := i) (by omega)
      obtain ⟨hxa, hT⟩ := hat i x hx
      obtain ⟨ci, hci, hk⟩ := isTb_to hT
      have hne : x ≠ g := isTb_ne hT hg (by decide)
      have hfl : ((xs.take i).filter (rch w)).length ≤ i := Nat.le_trans (List.length_filter_le _ _) (by rw [List.length_take]; omega)
      have hga' : wP (genW w g ga ((xs.take i).filter (rch w))) g 1 = some ga := (genW_ptr (Or.inl hgg)).trans hga
      have hxa' : wP (genW w g ga ((xs.take i).filter (rch w))) ga i = some x := (genW_ptr (Or.inr hfl)).trans hxa
      have hr' : wI (genW w g ga ((xs.take i).filter (rch w))) x 2 = wI w x 2 := genW_int (Or.inl hne)
      refine J_iload_n X d_Gen_keepReached_11 rfl rfl ?_
      refine J_iload_n X d_Gen_keepReached_12 rfl rfl ?_
      refine J_icmp_ge (tgt := 45) X d_Gen_keepReached_13 (by decide) (fun g2 => ?_) (fun g2 => ?_)
      · exact absurd g2 (nI_ge (by omega) (by omega))
      · first | refine J_aload_nr X d_Gen_keepReached_16 rfl rfl ?_ | refine J_aload_n X d_Gen_keepReached_16 rfl rfl ?_ | refine J_aload_n0 X d_Gen_keepReached_16 rfl rfl ?_
        refine J_getR X (hg) fa_Gen_15_1 rfl (hga') d_Gen_keepReached_17 ?_
        refine J_iload_n X d_Gen_keepReached_20 rfl rfl ?_
        refine J_aaldr X (hgk) (by decide) rfl ⟨_, rfl⟩ (rfl) (by omega) (by omega) (hxa') d_Gen_keepReached_21 ?_
        first | refine J_astore_nr X d_Gen_keepReached_22 rfl (by decide) rfl ?_ | refine J_astore_n X d_Gen_keepReached_22 rfl (by decide) rfl ?_ | refine J_astore_n0 X d_Gen_keepReached_22 rfl (by decide) rfl ?_
        first | refine J_aload_nr X d_Gen_keepReached_23 rfl rfl ?_ | refine J_aload_n X d_Gen_keepReached_23 rfl rfl ?_ | refine J_aload_n0 X d_Gen_keepReached_23 rfl rfl ?_
        refine J_ifnullr X d_Gen_keepReached_24 ?_
        first | refine J_aload_nr X d_Gen_keepReached_27 rfl rfl ?_ | refine J_aload_n X d_Gen_keepReached_27 rfl rfl ?_ | refine J_aload_n0 X d_Gen_keepReached_27 rfl rfl ?_
        refine J_getI X (hk) (faT_Gen_28 hci).1 (faT_Gen_28 hci).2 (hr') d_Gen_keepReached_28 ?_
        refine J_if_eq (tgt := 39) X d_Gen_keepReached_31 (by decide) (fun g3 => ?_) (fun g3 => ?_)
        · refine J_iinc X d_Gen_keepReached_39 rfl (by decide) (nI_s i) rfl ?_
          refine J_goto (tgt := 11) X d_Gen_keepReached_42 (by decide) ?_
          refine J_forget 3 rfl ?_
          have e := ih (i + 1) (by omega)
          rw [filt_s hx, if_neg (by simp [rch, g3])] at e
          exact e
        · first | refine J_aload_nr X d_Gen_keepReached_34 rfl rfl ?_ | refine J_aload_n X d_Gen_keepReached_34 rfl rfl ?_ | refine J_aload_n0 X d_Gen_keepReached_34 rfl rfl ?_
          first | refine J_aload_nr X d_Gen_keepReached_35 rfl rfl ?_ | refine J_aload_n X d_Gen_keepReached_35 rfl rfl ?_ | refine J_aload_n0 X d_Gen_keepReached_35 rfl rfl ?_
          refine J_callV X (hg) rfl (k_addW (w := w) (zs := (xs.take i).filter (rch w)) (t := x) ⟨hg, hga, hgk, hm⟩ (by omega) hT (hsz x hT)) cd_Gen_add lk_Gen_40 vi_Gen_add (by decide) (by decide) (by decide) (by decide) rfl (by first | decide | simp [va_rf_cat, vc_r, vc_i, vc_0]) d_Gen_keepReached_36 (fun r w1 hr => ?_)
          obtain ⟨rfl, rfl⟩ := hr
          refine J_iinc X d_Gen_keepReached_39 rfl (by decide) (nI_s i) rfl ?_
          refine J_goto (tgt := 11) X d_Gen_keepReached_42 (by decide) ?_
          refine J_forget 3 rfl ?_
          have e := ih (i + 1) (by omega)
          rw [filt_s hx, if_pos (by simp [rch, g3])] at e
          exact e
  exact J_eq (w' := genW w g ga ((xs.take 0).filter (rch w))) (genW_nil w g ga) rfl (loop xs.length 0 rfl)
set_option maxRecDepth 100000 in
set_option maxHeartbeats 1000000 in
theorem k_adoptReached {yg ya ym : Nat} {ys : List Nat} (H : GeL w g ga m xs) (HY : GeL w yg ya ym ys) (hne : g ≠ yg) (hna : ga ≠ ya) (htk : wI w g 3 = sumI w xs) (hroom : xs.length + (ys.filter (rch w)).length ≤ m) (hsz : ∀ t, isTb w t = true → wI w t 0 = nI (szw w t)) :
    Ct l y_Gen_adoptReached h_Gen_adoptReached (rmL 1 0 0) Δ [.ref g, .ref yg] w (fun r w' => r = none ∧ w' = genW (oldF w (ys.filter (rch w))) g ga (xs ++ ys.filter (rch w))) := by
  obtain ⟨⟨hg, hga, hgk, hm⟩, hcnt, hxm, hat⟩ := H
  obtain ⟨⟨hyg, hyga, hygk, hym⟩, hycnt, hyxm, hyat⟩ := HY
  have hgg : g ≠ ga := fun e => by rw [e, hgk] at hg; cases hg
  have hyga' : yg ≠ ga := fun e => by rw [e, hgk] at hyg; cases hyg
  refine Ct_of (L := [some (.ref g), some (.ref yg), none, none]) (by decide) (by first | exact Nat.le_of_ble_eq_true rfl | simp [lg_sl, va_rf_cat, vc_r, vc_i, vc_0]) (by first | rfl | simp [lin, va_rf_cat, vc_r, vc_i, vc_0]) (fun Γ X => ?_)
  refine J_iconst (v := 0) X d_Gen_adoptReached_0 (by decide) ?_
  refine J_istore_n X d_Gen_adoptReached_1 rfl (by decide) rfl ?_
  have loop : ∀ (k i : Nat), k + i = ys.length → J Γ Δ (AE Γ w) 4 (genW (oldF w ((ys.take i).filter (rch w))) g ga (xs ++ (ys.take i).filter (rch w))) 0 0 (QE Γ Δ w (fun r w' => r = none ∧ w' = genW (oldF w (ys.filter (rch w))) g ga (xs ++ ys.filter (rch w))) (rmL 1 0 0)) 2 [some (.ref g), some (.ref yg), some (.int (nI i)), none] [] := by
    intro k
    induction k with
    | zero =>
      intro i hi
      have hc' : wI (genW (oldF w ((ys.take i).filter (rch w))) g ga (xs ++ (ys.take i).filter (rch w))) yg 2 = nI ys.length := (genW_int (Or.inl hne.symm)).trans ((oldF_int (by decide)).trans hycnt)
      refine J_iload_n X d_Gen_adoptReached_2 rfl rfl ?_
      first | refine J_aload_nr X d_Gen_adoptReached_3 rfl rfl ?_ | refine J_aload_n X d_Gen_adoptReached_3 rfl rfl ?_ | refine J_aload_n0 X d_Gen_adoptReached_3 rfl rfl ?_
      refine J_getI X (hyg) fa_Gen_22_1 rfl (hc') d_Gen_adoptReached_4 ?_
      refine J_icmp_ge (tgt := 44) X d_Gen_adoptReached_7 (by decide) (fun g2 => ?_) (fun g2 => ?_)
      · exact J_vret X ⟨rfl, by rw [List.take_of_length_le (by omega)]⟩ (by decide) (by decide) d_Gen_adoptReached_44
      · exact absurd (nI_le (by omega) (by omega)) g2
    | succ k ih =>
      intro i hi
      have hc' : wI (genW (oldF w ((ys.take i).filter (rch w))) g ga (xs ++ (ys.take i).filter (rch w))) yg 2 = nI ys.length := (genW_int (Or.inl hne.symm)).trans ((oldF_int (by decide)).trans hycnt)
      obtain ⟨x, hx⟩ := at_lt (xs := ys) (i := i) (by omega)
      obtain ⟨hxa, hT⟩ := hyat i x hx
      obtain ⟨ci, hci, hk⟩ := isTb_to hT
      have hxg : x ≠ g := isTb_ne hT hg (by decide)
      have hya' : wP (genW (oldF w ((ys.take i).filter (rch w))) g ga (xs ++ (ys.take i).filter (rch w))) yg 1 = some ya := (genW_ptr (Or.inl hyga')).trans hyga
      have hxa' : wP (genW (oldF w ((ys.take i).filter (rch w))) g ga (xs ++ (ys.take i).filter (rch w))) ya i = some x := (genW_ptr (Or.inl hna.symm)).trans hxa
      have hr' : wI (genW (oldF w ((ys.take i).filter (rch w))) g ga (xs ++ (ys.take i).filter (rch w))) x 2 = wI w x 2 := (genW_int (Or.inl hxg)).trans (oldF_int (by decide))
      refine J_iload_n X d_Gen_adoptReached_2 rfl rfl ?_
      first | refine J_aload_nr X d_Gen_adoptReached_3 rfl rfl ?_ | refine J_aload_n X d_Gen_adoptReached_3 rfl rfl ?_ | refine J_aload_n0 X d_Gen_adoptReached_3 rfl rfl ?_
      refine J_getI X (hyg) fa_Gen_22_1 rfl (hc') d_Gen_adoptReached_4 ?_
      refine J_icmp_ge (tgt := 44) X d_Gen_adoptReached_7 (by decide) (fun g2 => ?_) (fun g2 => ?_)
      · exact absurd g2 (nI_ge (by omega) (by omega))
      · first | refine J_aload_nr X d_Gen_adoptReached_10 rfl rfl ?_ | refine J_aload_n X d_Gen_adoptReached_10 rfl rfl ?_ | refine J_aload_n0 X d_Gen_adoptReached_10 rfl rfl ?_
        refine J_getR X (hyg) fa_Gen_15_1 rfl (hya') d_Gen_adoptReached_11 ?_
        refine J_iload_n X d_Gen_adoptReached_14 rfl rfl ?_
        refine J_aaldr X (hygk) (by decide) rfl ⟨_, rfl⟩ (rfl) (by omega) (by omega) (hxa') d_Gen_adoptReached_15 ?_
        first | refine J_astore_nr X d_Gen_adoptReached_16 rfl (by decide) rfl ?_ | refine J_astore_n X d_Gen_adoptReached_16 rfl (by decide) rfl ?_ | refine J_astore_n0 X d_Gen_adoptReached_16 rfl (by decide) rfl ?_
        first | refine J_aload_nr X d_Gen_adoptReached_17 rfl rfl ?_ | refine J_aload_n X d_Gen_adoptReached_17 rfl rfl ?_ | refine J_aload_n0 X d_Gen_adoptReached_17 rfl rfl ?_
        refine J_ifnullr X d_Gen_adoptReached_18 ?_
        first | refine J_aload_nr X d_Gen_adoptReached_21 rfl rfl ?_ | refine J_aload_n X d_Gen_adoptReached_21 rfl rfl ?_ | refine J_aload_n0 X d_Gen_adoptReached_21 rfl rfl ?_
        refine J_getI X (hk) (faT_Gen_28 hci).1 (faT_Gen_28 hci).2 (hr') d_Gen_adoptReached_22 ?_
        refine J_if_eq (tgt := 38) X d_Gen_adoptReached_25 (by decide) (fun g3 => ?_) (fun g3 => ?_)
        · refine J_iinc X d_Gen_adoptReached_38 rfl (by decide) (nI_s i) rfl ?_
          refine J_goto (tgt := 2) X d_Gen_adoptReached_41 (by decide) ?_
          refine J_forget 3 rfl ?_
          have e := ih (i + 1) (by omega)
          rw [filt_s hx, if_neg (by simp [rch, g3])] at e
          exact e
        · first | refine J_aload_nr X d_Gen_adoptReached_28 rfl rfl ?_ | refine J_aload_n X d_Gen_adoptReached_28 rfl rfl ?_ | refine J_aload_n0 X d_Gen_adoptReached_28 rfl rfl ?_
          refine J_iconst (v := 1) X d_Gen_adoptReached_29 (by decide) ?_
          refine J_putZ X (hk) (fpT_Gen_44 hci).1 (fpT_Gen_44 hci).2 (by decide) d_Gen_adoptReached_30 ?_
          first | refine J_aload_nr X d_Gen_adoptReached_33 rfl rfl ?_ | refine J_aload_n X d_Gen_adoptReached_33 rfl rfl ?_ | refine J_aload_n0 X d_Gen_adoptReached_33 rfl rfl ?_
          first | refine J_aload_nr X d_Gen_adoptReached_34 rfl rfl ?_ | refine J_aload_n X d_Gen_adoptReached_34 rfl rfl ?_ | refine J_aload_n0 X d_Gen_adoptReached_34 rfl rfl ?_
          have hsub : ((ys.take i).filter (rch w)).length + 1 ≤ (ys.filter (rch w)).length := by
            have h1 : ((ys.take (i + 1)).filter (rch w)).length ≤ (ys.filter (rch w)).length := ((List.take_sublist _ _).filter _).length_le
            rw [filt_s hx, if_pos (by simp [rch, g3])] at h1
            simpa using h1
          refine J_eq (w' := genW (oldF w ((ys.take i).filter (rch w) ++ [x])) g ga (xs ++ (ys.take i).filter (rch w))) (by rw [← oldF_genW (Or.inr trivial), oldF_s, oldF_genW (Or.inr trivial)]) rfl ?_
          refine J_callV X (hg) rfl (k_addW (w := oldF w ((ys.take i).filter (rch w) ++ [x])) (zs := xs ++ (ys.take i).filter (rch w)) (t := x) ⟨hg, hga, hgk, hm⟩ (by rw [List.length_append]; omega) hT (by rw [oldF_int (by decide)]; exact hsz x hT)) cd_Gen_add lk_Gen_40 vi_Gen_add (by decide) (by decide) (by decide) (by decide) rfl (by first | decide | simp [va_rf_cat, vc_r, vc_i, vc_0]) d_Gen_adoptReached_35 (fun r w1 hr => ?_)
          obtain ⟨rfl, rfl⟩ := hr
          refine J_iinc X d_Gen_adoptReached_38 rfl (by decide) (nI_s i) rfl ?_
          refine J_goto (tgt := 2) X d_Gen_adoptReached_41 (by decide) ?_
          refine J_forget 3 rfl ?_
          have e := ih (i + 1) (by omega)
          rw [filt_s hx, if_pos (by simp [rch, g3]), ← List.append_assoc] at e
          exact e
  refine J_eq (w' := genW (oldF w ((ys.take 0).filter (rch w))) g ga (xs ++ (ys.take 0).filter (rch w))) ?_ rfl (loop ys.length 0 rfl)
  rw [List.take_zero, List.filter_nil, List.append_nil, oldF_nil]
  exact (genW_self hcnt htk (fun i x hi => (hat i x hi).1)).symm
end GX
end
section
/-! isRegister, heldIn, thingIn, plainIn, weakIn -/
abbrev regB (nr : Nat) (r : Int32) : Prop := 0 ≤ r ∧ r ≤ nI (nr - 1)
theorem regB_at {nr : Nat} {r : Int32} (h1 : 1 ≤ nr) (h2 : nr < 1000) (h : regB nr r) : ∃ j, j < nr ∧ r = nI j := by
  obtain ⟨j, hj, e⟩ := nI_of2 (M := nI (nr - 1)) (n := nr - 1) (nI_toInt (by omega)) (Int32.not_lt.mpr h.1) h.2
  exact ⟨j, by omega, e⟩
theorem regB_nI {nr j : Nat} (h2 : nr < 1000) (h : j < nr) : regB nr (nI j) := ⟨nI_pos' (by omega), nI_le (by omega) (by omega)⟩
/-- what a register holds -/
def held (w : Wd) (rg nr : Nat) (r : Int32) : Option Nat := if regB nr r then wP w rg r.toNatClampNeg else none
theorem held_at {w : Wd} {rg nr j : Nat} (h2 : nr < 1000) (h : j < nr) : held w rg nr (nI j) = wP w rg j := by
  rw [held, if_pos (regB_nI h2 h), nI_clamp (by omega)]
theorem held_no {w : Wd} {rg nr : Nat} {r : Int32} (h : ¬ regB nr r) : held w rg nr r = none := if_neg h
theorem held_oV {w : Wd} {rg nr : Nat} {r : Int32} (h1 : 1 ≤ nr) (h2 : nr < 1000) (hv : ∀ j, j < nr → oV w (wP w rg j)) : oV w (held w rg nr r) := by
  by_cases h : regB nr r
  · obtain ⟨j, hj, rfl⟩ := regB_at h1 h2 h
    rw [held_at h2 hj]
    exact hv j hj
  · rw [held_no h]
    exact fun t ht => nomatch ht
def only (w : Wd) (d : Nat → Bool) (o : Option Nat) : Option Nat := match o with
  | some t => if d t = true then some t else none
  | none => none
def isP (w : Wd) (t : Nat) : Bool := match wK w t with
  | some (.inl 3) => true
  | _ => false
def isWk (w : Wd) (t : Nat) : Bool := match wK w t with
  | some (.inl 4) => true
  | _ => false
/-- the register row of x -/
def Rg (w : Wd) (x rg nr : Nat) : Prop := wK w x = some (.inl 0) ∧ wP w x 0 = some rg ∧ wK w rg = some (.inr (3, nr)) ∧ 1 ≤ nr ∧ nr < 1000
section HE
variable {l : Launch} {Δ : Dat} {w : Wd} {x rg nr : Nat} {r : Int32}
set_option maxRecDepth 100000 in
theorem k_isRegister (H : Rg w x rg nr) : Ct l y_TG_isRegister h_TG_isRegister (rmL 1 0 0) Δ [.ref x, .int r] w (fun q w' => q = some (.int (if regB nr r then 1 else 0)) ∧ w' = w) := by
  obtain ⟨hx, hrg, hrk, h1, h2⟩ := H
  refine Ct_of (L := [some (.ref x), some (.int r)]) (by decide) (by first | exact Nat.le_of_ble_eq_true rfl | simp [lg_sl, va_rf_cat, vc_r, vc_i, vc_0]) (by first | rfl | simp [lin, va_rf_cat, vc_r, vc_i, vc_0]) (fun Γ X => ?_)
  refine J_iload_n X d_TG_isRegister_0 rfl rfl ?_
  refine J_iconst (v := 0) X d_TG_isRegister_1 (by decide) ?_
  first | refine J_aload_nr X d_TG_isRegister_2 rfl rfl ?_ | refine J_aload_n X d_TG_isRegister_2 rfl rfl ?_ | refine J_aload_n0 X d_TG_isRegister_2 rfl rfl ?_
  refine J_getR X (hx) fa_TG_15_0 rfl (hrg) d_TG_isRegister_3 ?_
  refine J_alen X (hrk) (by decide) d_TG_isRegister_6 ?_
  refine J_iconst (v := 1) X d_TG_isRegister_7 (by decide) ?_
  refine J_isub X d_TG_isRegister_8 ?_
  refine J_top (v' := .int (nI (nr - 1))) (by rw [show (1 : Int32) = nI 1 from rfl, pk_sub h1]) ?_
  refine J_callS X (k_within (v := r) (lo := 0) (hi := nI (nr - 1))) cd_TG_within lk_TG_7 st_TG_within (by decide) (by decide) (by decide) (by decide) rfl (by first | decide | simp [va_rf_cat, vc_r, vc_i, vc_0]) d_TG_isRegister_9 (fun q w1 hq => ?_)
  obtain ⟨rfl, hw1⟩ := hq
  refine J_eq hw1 rfl ?_
  refine J_zret X (by split <;> simp) ⟨rfl, rfl⟩ (by decide) (by decide) d_TG_isRegister_12
set_option maxRecDepth 100000 in
theorem k_heldIn (H : Rg w x rg nr) : Ct l y_TG_heldIn h_TG_heldIn (rmL 2 0 0) Δ [.ref x, .int r] w (fun q w' => q = some (va_rf (held w rg nr r)) ∧ w' = w) := by
  have H' := H
  obtain ⟨hx, hrg, hrk, h1, h2⟩ := H'
  refine Ct_of (L := [some (.ref x), some (.int r)]) (by decide) (by first | exact Nat.le_of_ble_eq_true rfl | simp [lg_sl, va_rf_cat, vc_r, vc_i, vc_0]) (by first | rfl | simp [lin, va_rf_cat, vc_r, vc_i, vc_0]) (fun Γ X => ?_)
  first | refine J_aload_nr X d_TG_heldIn_0 rfl rfl ?_ | refine J_aload_n X d_TG_heldIn_0 rfl rfl ?_ | refine J_aload_n0 X d_TG_heldIn_0 rfl rfl ?_
  refine J_iload_n X d_TG_heldIn_1 rfl rfl ?_
  refine J_callV X (hx) rfl (k_isRegister (r := r) H) cd_TG_isRegister lk_TG_42 vi_TG_isRegister (by decide) (by decide) (by decide) (by decide) rfl (by first | decide | simp [va_rf_cat, vc_r, vc_i, vc_0]) d_TG_heldIn_2 (fun q w1 hq => ?_)
  obtain ⟨rfl, hw1⟩ := hq
  refine J_eq hw1 rfl ?_
  by_cases h : regB nr r
  · refine J_top (v' := .int 1) (by rw [if_pos h]) ?_
    refine J_if_eq (tgt := 17) X d_TG_heldIn_5 (by decide) (fun g => ?_) (fun g => ?_)
    · exact absurd g (by decide)
    · obtain ⟨j, hj, rfl⟩ := regB_at h1 h2 h
      have hh : wP w rg j = held w rg nr (nI j) := (held_at h2 hj).symm
      first | refine J_aload_nr X d_TG_heldIn_8 rfl rfl ?_ | refine J_aload_n X d_TG_heldIn_8 rfl rfl ?_ | refine J_aload_n0 X d_TG_heldIn_8 rfl rfl ?_
      refine J_getR X (hx) fa_TG_15_0 rfl (hrg) d_TG_heldIn_9 ?_
      refine J_iload_n X d_TG_heldIn_12 rfl rfl ?_
      refine J_aald X (hrk) (by decide) rfl ⟨_, rfl⟩ (rfl) (hj) (by omega) (hh) d_TG_heldIn_13 ?_
      refine J_goto (tgt := 18) X d_TG_heldIn_14 (by decide) ?_
      exact J_aret X (Or.inl ⟨_, rfl⟩) ⟨rfl, rfl⟩ (by decide) (by decide) d_TG_heldIn_18
  · refine J_top (v' := .int 0) (by rw [if_neg h]) ?_
    refine J_if_eq (tgt := 17) X d_TG_heldIn_5 (by decide) (fun g => ?_) (fun g => ?_)
    · refine J_null X d_TG_heldIn_17 ?_
      exact J_aret0 X (Or.inl ⟨_, rfl⟩) ⟨by rw [held_no h]; rfl, rfl⟩ (by decide) (by decide) d_TG_heldIn_18
    · exact absurd rfl g
set_option maxRecDepth 100000 in
theorem k_thingIn (H : Rg w x rg nr) (hv : ∀ j, j < nr → oV w (wP w rg j)) : Ct l y_TG_thingIn h_TG_thingIn (rmL 3 0 0) Δ [.ref x, .int r] w (fun q w' => q = some (va_rf (only w (isTb w) (held w rg nr r))) ∧ w' = w) := by
  have hx := H.1
  have ho := held_oV (r := r) H.2.2.2.1 H.2.2.2.2 hv
  refine Ct_of (L := [some (.ref x), some (.int r), none, none]) (by decide) (by first | exact Nat.le_of_ble_eq_true rfl | simp [lg_sl, va_rf_cat, vc_r, vc_i, vc_0]) (by first | rfl | simp [lin, va_rf_cat, vc_r, vc_i, vc_0]) (fun Γ X => ?_)
  first | refine J_aload_nr X d_TG_thingIn_0 rfl rfl ?_ | refine J_aload_n X d_TG_thingIn_0 rfl rfl ?_ | refine J_aload_n0 X d_TG_thingIn_0 rfl rfl ?_
  refine J_iload_n X d_TG_thingIn_1 rfl rfl ?_
  refine J_callV X (hx) rfl (k_heldIn (r := r) H) cd_TG_heldIn lk_TG_102 vi_TG_heldIn (by decide) (by decide) (by decide) (by decide) rfl (by first | decide | simp [va_rf_cat, vc_r, vc_i, vc_0]) d_TG_thingIn_2 (fun q w1 hq => ?_)
  obtain ⟨rfl, hw1⟩ := hq
  refine J_eq hw1 rfl ?_
  cases hh : held w rg nr r with
  | none =>
    first | refine J_astore_nr X d_TG_thingIn_5 rfl (by decide) rfl ?_ | refine J_astore_n X d_TG_thingIn_5 rfl (by decide) rfl ?_ | refine J_astore_n0 X d_TG_thingIn_5 rfl (by decide) rfl ?_
    first | refine J_aload_nr X d_TG_thingIn_6 rfl rfl ?_ | refine J_aload_n X d_TG_thingIn_6 rfl rfl ?_ | refine J_aload_n0 X d_TG_thingIn_6 rfl rfl ?_
    refine J_inst0 X d_TG_thingIn_7 ?_
    refine J_if_eq (tgt := 22) X d_TG_thingIn_10 (by decide) (fun g => ?_) (fun g => ?_)
    · refine J_null X d_TG_thingIn_22 ?_
      exact J_aret0 X (Or.inl ⟨_, rfl⟩) ⟨rfl, rfl⟩ (by decide) (by decide) d_TG_thingIn_23
    · exact absurd rfl g
  | some t =>
    first | refine J_astore_nr X d_TG_thingIn_5 rfl (by decide) rfl ?_ | refine J_astore_n X d_TG_thingIn_5 rfl (by decide) rfl ?_ | refine J_astore_n0 X d_TG_thingIn_5 rfl (by decide) rfl ?_
    first | refine J_aload_nr X d_TG_thingIn_6 rfl rfl ?_ | refine J_aload_n X d_TG_thingIn_6 rfl rfl ?_ | refine J_aload_n0 X d_TG_thingIn_6 rfl rfl ?_
    rcases ho t hh with ht | ht
    · obtain ⟨ci, hci, hk⟩ := isTb_to ht
      refine J_instY X hk (by rcases hci with rfl | rfl; exact iy_TG_110_3; exact iy_TG_110_4) d_TG_thingIn_7 ?_
      refine J_if_eq (tgt := 22) X d_TG_thingIn_10 (by decide) (fun g => ?_) (fun g => ?_)
      · exact absurd g (by decide)
      · first | refine J_aload_nr X d_TG_thingIn_13 rfl rfl ?_ | refine J_aload_n X d_TG_thingIn_13 rfl rfl ?_ | refine J_aload_n0 X d_TG_thingIn_13 rfl rfl ?_
        refine J_cast X hk (by rcases hci with rfl | rfl; exact iy_TG_110_3; exact iy_TG_110_4) d_TG_thingIn_14 ?_
        first | refine J_astore_nr X d_TG_thingIn_17 rfl (by decide) rfl ?_ | refine J_astore_n X d_TG_thingIn_17 rfl (by decide) rfl ?_ | refine J_astore_n0 X d_TG_thingIn_17 rfl (by decide) rfl ?_
        first | refine J_aload_nr X d_TG_thingIn_18 rfl rfl ?_ | refine J_aload_n X d_TG_thingIn_18 rfl rfl ?_ | refine J_aload_n0 X d_TG_thingIn_18 rfl rfl ?_
        refine J_goto (tgt := 23) X d_TG_thingIn_19 (by decide) ?_
        exact J_aretr X (Or.inl ⟨_, rfl⟩) ⟨by rw [only, if_pos ht]; rfl, rfl⟩ (by decide) (by decide) d_TG_thingIn_23
    · refine J_instN X ht in_TG_110_5 d_TG_thingIn_7 ?_
      refine J_if_eq (tgt := 22) X d_TG_thingIn_10 (by decide) (fun g => ?_) (fun g => ?_)
      · refine J_null X d_TG_thingIn_22 ?_
        exact J_aret0 X (Or.inl ⟨_, rfl⟩) ⟨by rw [only, if_neg (by rw [isTb_no ht]; decide)]; rfl, rfl⟩ (by decide) (by decide) d_TG_thingIn_23
      · exact absurd rfl g
set_option maxRecDepth 100000 in
theorem k_plainIn (H : Rg w x rg nr) (hv : ∀ j, j < nr → oV w (wP w rg j)) : Ct l y_TG_plainIn h_TG_plainIn (rmL 3 0 0) Δ [.ref x, .int r] w (fun q w' => q = some (va_rf (only w (isP w) (held w rg nr r))) ∧ w' = w) := by
  have hx := H.1
  have ho := held_oV (r := r) H.2.2.2.1 H.2.2.2.2 hv
  refine Ct_of (L := [some (.ref x), some (.int r), none, none]) (by decide) (by first | exact Nat.le_of_ble_eq_true rfl | simp [lg_sl, va_rf_cat, vc_r, vc_i, vc_0]) (by first | rfl | simp [lin, va_rf_cat, vc_r, vc_i, vc_0]) (fun Γ X => ?_)
  first | refine J_aload_nr X d_TG_plainIn_0 rfl rfl ?_ | refine J_aload_n X d_TG_plainIn_0 rfl rfl ?_ | refine J_aload_n0 X d_TG_plainIn_0 rfl rfl ?_
  refine J_iload_n X d_TG_plainIn_1 rfl rfl ?_
  refine J_callV X (hx) rfl (k_heldIn (r := r) H) cd_TG_heldIn lk_TG_102 vi_TG_heldIn (by decide) (by decide) (by decide) (by decide) rfl (by first | decide | simp [va_rf_cat, vc_r, vc_i, vc_0]) d_TG_plainIn_2 (fun q w1 hq => ?_)
  obtain ⟨rfl, hw1⟩ := hq
  refine J_eq hw1 rfl ?_
  cases hh : held w rg nr r with
  | none =>
    first | refine J_astore_nr X d_TG_plainIn_5 rfl (by decide) rfl ?_ | refine J_astore_n X d_TG_plainIn_5 rfl (by decide) rfl ?_ | refine J_astore_n0 X d_TG_plainIn_5 rfl (by decide) rfl ?_
    first | refine J_aload_nr X d_TG_plainIn_6 rfl rfl ?_ | refine J_aload_n X d_TG_plainIn_6 rfl rfl ?_ | refine J_aload_n0 X d_TG_plainIn_6 rfl rfl ?_
    refine J_inst0 X d_TG_plainIn_7 ?_
    refine J_if_eq (tgt := 22) X d_TG_plainIn_10 (by decide) (fun g => ?_) (fun g => ?_)
    · refine J_null X d_TG_plainIn_22 ?_
      exact J_aret0 X (Or.inl ⟨_, rfl⟩) ⟨rfl, rfl⟩ (by decide) (by decide) d_TG_plainIn_23
    · exact absurd rfl g
  | some t =>
    first | refine J_astore_nr X d_TG_plainIn_5 rfl (by decide) rfl ?_ | refine J_astore_n X d_TG_plainIn_5 rfl (by decide) rfl ?_ | refine J_astore_n0 X d_TG_plainIn_5 rfl (by decide) rfl ?_
    first | refine J_aload_nr X d_TG_plainIn_6 rfl rfl ?_ | refine J_aload_n X d_TG_plainIn_6 rfl rfl ?_ | refine J_aload_n0 X d_TG_plainIn_6 rfl rfl ?_
    have hk : wK w t = some (.inl 3) ∨ wK w t = some (.inl 4) ∨ wK w t = some (.inl 5) := by
      rcases ho t hh with ht | ht
      · obtain ⟨ci, hci, hk⟩ := isTb_to ht
        rcases hci with rfl | rfl
        · exact Or.inl hk
        · exact Or.inr (Or.inl hk)
      · exact Or.inr (Or.inr ht)
    rcases hk with hk | hk | hk
    · refine J_instY X hk iy_TG_53_3 d_TG_plainIn_7 ?_
      refine J_if_eq (tgt := 22) X d_TG_plainIn_10 (by decide) (fun g => ?_) (fun g => ?_)
      · exact absurd g (by decide)
      · first | refine J_aload_nr X d_TG_plainIn_13 rfl rfl ?_ | refine J_aload_n X d_TG_plainIn_13 rfl rfl ?_ | refine J_aload_n0 X d_TG_plainIn_13 rfl rfl ?_
        refine J_cast X hk iy_TG_53_3 d_TG_plainIn_14 ?_
        first | refine J_astore_nr X d_TG_plainIn_17 rfl (by decide) rfl ?_ | refine J_astore_n X d_TG_plainIn_17 rfl (by decide) rfl ?_ | refine J_astore_n0 X d_TG_plainIn_17 rfl (by decide) rfl ?_
        first | refine J_aload_nr X d_TG_plainIn_18 rfl rfl ?_ | refine J_aload_n X d_TG_plainIn_18 rfl rfl ?_ | refine J_aload_n0 X d_TG_plainIn_18 rfl rfl ?_
        refine J_goto (tgt := 23) X d_TG_plainIn_19 (by decide) ?_
        exact J_aretr X (Or.inl ⟨_, rfl⟩) ⟨by rw [only, if_pos (by simp [isP, isWk, hk])]; rfl, rfl⟩ (by decide) (by decide) d_TG_plainIn_23
    · refine J_instN X hk in_TG_53_4 d_TG_plainIn_7 ?_
      refine J_if_eq (tgt := 22) X d_TG_plainIn_10 (by decide) (fun g => ?_) (fun g => ?_)
      · refine J_null X d_TG_plainIn_22 ?_
        exact J_aret0 X (Or.inl ⟨_, rfl⟩) ⟨by rw [only, if_neg (by simp [isP, isWk, hk])]; rfl, rfl⟩ (by decide) (by decide) d_TG_plainIn_23
      · exact absurd rfl g
    · refine J_instN X hk in_TG_53_5 d_TG_plainIn_7 ?_
      refine J_if_eq (tgt := 22) X d_TG_plainIn_10 (by decide) (fun g => ?_) (fun g => ?_)
      · refine J_null X d_TG_plainIn_22 ?_
        exact J_aret0 X (Or.inl ⟨_, rfl⟩) ⟨by rw [only, if_neg (by simp [isP, isWk, hk])]; rfl, rfl⟩ (by decide) (by decide) d_TG_plainIn_23
      · exact absurd rfl g
set_option maxRecDepth 100000 in
theorem k_weakIn (H : Rg w x rg nr) (hv : ∀ j, j < nr → oV w (wP w rg j)) : Ct l y_TG_weakIn h_TG_weakIn (rmL 3 0 0) Δ [.ref x, .int r] w (fun q w' => q = some (va_rf (only w (isWk w) (held w rg nr r))) ∧ w' = w) := by
  have hx := H.1
  have ho := held_oV (r := r) H.2.2.2.1 H.2.2.2.2 hv
  refine Ct_of (L := [some (.ref x), some (.int r), none, none]) (by decide) (by first | exact Nat.le_of_ble_eq_true rfl | simp [lg_sl, va_rf_cat, vc_r, vc_i, vc_0]) (by first | rfl | simp [lin, va_rf_cat, vc_r, vc_i, vc_0]) (fun Γ X => ?_)
  first | refine J_aload_nr X d_TG_weakIn_0 rfl rfl ?_ | refine J_aload_n X d_TG_weakIn_0 rfl rfl ?_ | refine J_aload_n0 X d_TG_weakIn_0 rfl rfl ?_
  refine J_iload_n X d_TG_weakIn_1 rfl rfl ?_
  refine J_callV X (hx) rfl (k_heldIn (r := r) H) cd_TG_heldIn lk_TG_102 vi_TG_heldIn (by decide) (by decide) (by decide) (by decide) rfl (by first | decide | simp [va_rf_cat, vc_r, vc_i, vc_0]) d_TG_weakIn_2 (fun q w1 hq => ?_)
  obtain ⟨rfl, hw1⟩ := hq
  refine J_eq hw1 rfl ?_
  cases hh : held w rg nr r with
  | none =>
    first | refine J_astore_nr X d_TG_weakIn_5 rfl (by decide) rfl ?_ | refine J_astore_n X d_TG_weakIn_5 rfl (by decide) rfl ?_ | refine J_astore_n0 X d_TG_weakIn_5 rfl (by decide) rfl ?_
    first | refine J_aload_nr X d_TG_weakIn_6 rfl rfl ?_ | refine J_aload_n X d_TG_weakIn_6 rfl rfl ?_ | refine J_aload_n0 X d_TG_weakIn_6 rfl rfl ?_
    refine J_inst0 X d_TG_weakIn_7 ?_
    refine J_if_eq (tgt := 22) X d_TG_weakIn_10 (by decide) (fun g => ?_) (fun g => ?_)
    · refine J_null X d_TG_weakIn_22 ?_
      exact J_aret0 X (Or.inl ⟨_, rfl⟩) ⟨rfl, rfl⟩ (by decide) (by decide) d_TG_weakIn_23
    · exact absurd rfl g
  | some t =>
    first | refine J_astore_nr X d_TG_weakIn_5 rfl (by decide) rfl ?_ | refine J_astore_n X d_TG_weakIn_5 rfl (by decide) rfl ?_ | refine J_astore_n0 X d_TG_weakIn_5 rfl (by decide) rfl ?_
    first | refine J_aload_nr X d_TG_weakIn_6 rfl rfl ?_ | refine J_aload_n X d_TG_weakIn_6 rfl rfl ?_ | refine J_aload_n0 X d_TG_weakIn_6 rfl rfl ?_
    have hk : wK w t = some (.inl 3) ∨ wK w t = some (.inl 4) ∨ wK w t = some (.inl 5) := by
      rcases ho t hh with ht | ht
      · obtain ⟨ci, hci, hk⟩ := isTb_to ht
        rcases hci with rfl | rfl
        · exact Or.inl hk
        · exact Or.inr (Or.inl hk)
      · exact Or.inr (Or.inr ht)
    rcases hk with hk | hk | hk
    · refine J_instN X hk in_TG_66_3 d_TG_weakIn_7 ?_
      refine J_if_eq (tgt := 22) X d_TG_weakIn_10 (by decide) (fun g => ?_) (fun g => ?_)
      · refine J_null X d_TG_weakIn_22 ?_
        exact J_aret0 X (Or.inl ⟨_, rfl⟩) ⟨by rw [only, if_neg (by simp [isP, isWk, hk])]; rfl, rfl⟩ (by decide) (by decide) d_TG_weakIn_23
      · exact absurd rfl g
    · refine J_instY X hk iy_TG_66_4 d_TG_weakIn_7 ?_
      refine J_if_eq (tgt := 22) X d_TG_weakIn_10 (by decide) (fun g => ?_) (fun g => ?_)
      · exact absurd g (by decide)
      · first | refine J_aload_nr X d_TG_weakIn_13 rfl rfl ?_ | refine J_aload_n X d_TG_weakIn_13 rfl rfl ?_ | refine J_aload_n0 X d_TG_weakIn_13 rfl rfl ?_
        refine J_cast X hk iy_TG_66_4 d_TG_weakIn_14 ?_
        first | refine J_astore_nr X d_TG_weakIn_17 rfl (by decide) rfl ?_ | refine J_astore_n X d_TG_weakIn_17 rfl (by decide) rfl ?_ | refine J_astore_n0 X d_TG_weakIn_17 rfl (by decide) rfl ?_
        first | refine J_aload_nr X d_TG_weakIn_18 rfl rfl ?_ | refine J_aload_n X d_TG_weakIn_18 rfl rfl ?_ | refine J_aload_n0 X d_TG_weakIn_18 rfl rfl ?_
        refine J_goto (tgt := 23) X d_TG_weakIn_19 (by decide) ?_
        exact J_aretr X (Or.inl ⟨_, rfl⟩) ⟨by rw [only, if_pos (by simp [isP, isWk, hk])]; rfl, rfl⟩ (by decide) (by decide) d_TG_weakIn_23
    · refine J_instN X hk in_TG_66_5 d_TG_weakIn_7 ?_
      refine J_if_eq (tgt := 22) X d_TG_weakIn_10 (by decide) (fun g => ?_) (fun g => ?_)
      · refine J_null X d_TG_weakIn_22 ?_
        exact J_aret0 X (Or.inl ⟨_, rfl⟩) ⟨by rw [only, if_neg (by simp [isP, isWk, hk])]; rfl, rfl⟩ (by decide) (by decide) d_TG_weakIn_23
      · exact absurd rfl g
end HE
end
section
/-! the class's state; what the steps of a collection keep of it -/
theorem isTb_congr {w w' : Wd} (hK : ∀ b, wK w' b = wK w b) (t : Nat) : isTb w' t = isTb w t := by unfold isTb; rw [hK]
theorem oV_congr {w w' : Wd} (hK : ∀ b, wK w' b = wK w b) {o : Option Nat} (h : oV w o) : oV w' o := fun t ht => by rw [isTb_congr hK, hK]; exact h t ht
theorem oB_congr {w w' : Wd} (hK : ∀ b, wK w' b = wK w b) {B : List Nat} {o : Option Nat} (h : oB w B o) : oB w' B o := fun t ht => by rw [isTb_congr hK]; exact h t ht
theorem szw_congr {w w' : Wd} {t : Nat} (h : wI w' t 0 = wI w t 0) : szw w' t = szw w t := by unfold szw; rw [h]
theorem sumI_congr {w w' : Wd} {xs : List Nat} (h : ∀ t ∈ xs, wI w' t 0 = wI w t 0) : sumI w' xs = sumI w xs := by
  unfold sumI
  congr 2
  exact List.map_congr_left (fun a ha => szw_congr (h a ha))
theorem rowL_congr {w w' : Wd} {a n : Nat} (h : ∀ i, wP w' a i = wP w a i) : rowL w' a n = rowL w a n := by
  unfold rowL
  exact List.map_congr_left (fun i _ => h i)
theorem GeO_congr {w w' : Wd} {g ga m : Nat} (hK : ∀ b, wK w' b = wK w b) (h1 : wP w' g 1 = wP w g 1) (H : GeO w g ga m) : GeO w' g ga m := ⟨(hK g).trans H.1, h1.trans H.2.1, (hK ga).trans H.2.2.1, H.2.2.2⟩
theorem GeL_congr {w w' : Wd} {g ga m : Nat} {xs : List Nat} (hK : ∀ b, wK w' b = wK w b) (h1 : wP w' g 1 = wP w g 1) (h2 : wI w' g 2 = wI w g 2) (h3 : ∀ i, wP w' ga i = wP w ga i) (H : GeL w g ga m xs) : GeL w' g ga m xs :=
  ⟨GeO_congr hK h1 H.1, h2.trans H.2.1, H.2.2.1, fun i x hx => ⟨(h3 i).trans (H.2.2.2 i x hx).1, (isTb_congr hK x).trans (H.2.2.2 i x hx).2⟩⟩
theorem GeL_mem {w : Wd} {g ga m : Nat} {xs : List Nat} (H : GeL w g ga m xs) {x : Nat} (hx : x ∈ xs) : isTb w x = true := by
  obtain ⟨i, hi⟩ := List.getElem?_of_mem hx
  exact (H.2.2.2 i x hi).2
/-- the objects that the class is made of -/
def CS (w : Wd) (x rg nr yg ya ly og oa lo tr fa : Nat) : Prop :=
  Rg w x rg nr ∧ nr ≤ 8 ∧ wP w x 1 = some yg ∧ wP w x 2 = some og ∧ wP w x 3 = some tr ∧ GeO w yg ya ly ∧ GeO w og oa lo ∧ wI w yg 0 = nI ly ∧ wI w og 0 = nI lo ∧ (4 ≤ ly ∧ ly ≤ 60) ∧ (4 ≤ lo ∧ lo ≤ 120) ∧
  wK w tr = some (.inl 2) ∧ wP w tr 0 = some fa ∧ wK w fa = some (.inr (4, ly + lo)) ∧ yg ≠ og ∧ ya ≠ oa ∧ ya ≠ fa ∧ oa ≠ fa
/-- things are well made: sizes, rows of their own, references to values -/
def HT (w : Wd) (rg nr : Nat) : Prop :=
  (∀ t, wK w t = some (.inl 3) → ∃ c n, wP w t 3 = some c ∧ wK w c = some (.inr (3, n)) ∧ n ≤ 11 ∧ c ≠ rg ∧ wI w t 0 = nI (n + 1) ∧ ∀ i, i < n → oV w (wP w c i)) ∧
  (∀ t t' c, wK w t = some (.inl 3) → wK w t' = some (.inl 3) → wP w t 3 = some c → wP w t' 3 = some c → t = t') ∧
  (∀ t, wK w t = some (.inl 4) → wI w t 0 = 2 ∧ ∀ u, wP w t 3 = some u → isTb w u = true) ∧
  ∀ r, r < nr → oV w (wP w rg r)
/-- what the newest search has found -/
def FL (w : Wd) (tr fa N : Nat) (F : List Nat) : Prop := wI w tr 1 = nI F.length ∧ F.length ≤ N ∧ (∀ i t, F[i]? = some t → wP w fa i = some t) ∧ (∀ t ∈ F, isTb w t = true) ∧ ∀ t, isTb w t = true → wI w t 2 = if t ∈ F then 1 else 0
/-- G: things from which only things of G are reached, by fields or targets -/
def GC (w : Wd) (rg nr : Nat) (Y O G : List Nat) : Prop := G.Nodup ∧ (∀ t ∈ G, t ∈ Y ++ O) ∧ (∀ t ∈ O, t ∈ G) ∧ (∀ r, r < nr → oB w G (wP w rg r)) ∧ (∀ t ∈ G, ∀ o ∈ sucL w t, oB w G o) ∧ ∀ t ∈ G, ∀ u, wK w t = some (.inl 4) → wP w t 3 = some u → u ∈ G
/-- the state: young and old things, what is found, the good ones -/
def CI (w : Wd) (x rg nr yg ya ly og oa lo tr fa : Nat) (Y O F G : List Nat) : Prop :=
  CS w x rg nr yg ya ly og oa lo tr fa ∧ HT w rg nr ∧ GeL w yg ya ly Y ∧ GeL w og oa lo O ∧ wI w yg 3 = sumI w Y ∧ wI w og 3 = sumI w O ∧ (Y ++ O).Nodup ∧ ((Y.map (szw w)).sum ≤ ly ∧ (O.map (szw w)).sum ≤ lo) ∧ FL w tr fa (ly + lo) F ∧ ((∀ t ∈ Y, wI w t 1 = 0) ∧ ∀ t ∈ O, wI w t 1 = 1) ∧ GC w rg nr Y O G
theorem HT_sz {w : Wd} {rg nr : Nat} (H : HT w rg nr) {t : Nat} (ht : isTb w t = true) : wI w t 0 = nI (szw w t) ∧ 1 ≤ szw w t ∧ szw w t ≤ 12 := by
  obtain ⟨ci, hci, hk⟩ := isTb_to ht
  rcases hci with rfl | rfl
  · obtain ⟨c, n, -, -, hn, -, hs, -⟩ := H.1 t hk
    have : szw w t = n + 1 := by rw [szw, hs, nI_clamp (by omega)]
    rw [this]
    exact ⟨hs, by omega, by omega⟩
  · have hs := (H.2.2.1 t hk).1
    have : szw w t = 2 := by rw [szw, hs]; rfl
    rw [this]
    exact ⟨hs, by omega, by omega⟩
theorem sz_len {w : Wd} {xs : List Nat} (h : ∀ t ∈ xs, 1 ≤ szw w t) : xs.length ≤ (xs.map (szw w)).sum := by
  induction xs with
  | nil => simp
  | cons a t ih =>
    have h1 := h a List.mem_cons_self
    have h2 := ih (fun z hz => h z (List.mem_cons_of_mem _ hz))
    simp only [List.length_cons, List.map_cons, List.sum_cons]
    omega
/-- behind restart -/
def rsW (w : Wd) (tr : Nat) (F : List Nat) : Wd := uI (uI (clrR w F) tr 1 0) tr 2 0
theorem rsW_int {w : Wd} {tr : Nat} {F : List Nat} {b k : Nat} (hb : b ≠ tr ∨ k = 0) (hk : k ≠ 2 ∨ b ∉ F) : wI (rsW w tr F) b k = wI w b k := by
  have e1 : ¬ (b = tr ∧ k = 2) := by rintro ⟨rfl, rfl⟩; rcases hb with h | h; exact h rfl; cases h
  have e2 : ¬ (b = tr ∧ k = 1) := by rintro ⟨rfl, rfl⟩; rcases hb with h | h; exact h rfl; cases h
  have e3 : ¬ (k = 2 ∧ b ∈ F) := by rintro ⟨rfl, q⟩; rcases hk with h | h; exact h rfl; exact h q
  show (if b = tr ∧ k = 2 then 0 else if b = tr ∧ k = 1 then 0 else if k = 2 ∧ b ∈ F then 0 else w.2.1 b k) = _
  rw [if_neg e1, if_neg e2, if_neg e3]
  rfl
theorem rsW_0 {w : Wd} {tr : Nat} {F : List Nat} {b : Nat} : wI (rsW w tr F) b 0 = wI w b 0 := rsW_int (Or.inr rfl) (Or.inl (by decide))
theorem rsW_flag {w : Wd} {tr fa N : Nat} {F : List Nat} (H : FL w tr fa N F) (htr : wK w tr = some (.inl 2)) {t : Nat} (ht : isTb w t = true) : wI (rsW w tr F) t 2 = 0 := by
  have hne : t ≠ tr := isTb_ne ht htr (by decide)
  by_cases h : t ∈ F
  · show (if t = tr ∧ 2 = 2 then 0 else if t = tr ∧ 2 = 1 then 0 else if 2 = 2 ∧ t ∈ F then 0 else w.2.1 t 2) = 0
    rw [if_neg (fun q => hne q.1), if_neg (fun q => hne q.1), if_pos ⟨rfl, h⟩]
  · rw [rsW_int (Or.inl hne) (Or.inr h), H.2.2.2.2 t ht, if_neg h]
theorem rsW_nil {w : Wd} {tr fa : Nat} {F : List Nat} : trW (rsW w tr F) tr fa [] = rsW w tr F := trW_nil (by simp [rsW, wI_uI]) (by simp [rsW, wI_uI])
section ST
variable {w : Wd} {x rg nr yg ya ly og oa lo tr fa : Nat} {Y O F G : List Nat}
theorem CI_len (H : CI w x rg nr yg ya ly og oa lo tr fa Y O F G) : G.length ≤ ly + lo := by
  obtain ⟨-, hT, hY, hO, -, -, -, ⟨h1, h2⟩, -, -, hG⟩ := H
  have e1 := hG.1.length_le_of_subset (fun t ht => hG.2.1 t ht)
  have e2 := sz_len (w := w) (xs := Y) (fun t ht => (HT_sz hT (GeL_mem hY ht)).2.1)
  have e3 := sz_len (w := w) (xs := O) (fun t ht => (HT_sz hT (GeL_mem hO ht)).2.1)
  rw [List.length_append] at e1
  omega
theorem CI_G (H : CI w x rg nr yg ya ly og oa lo tr fa Y O F G) {t : Nat} (ht : t ∈ G) : isTb w t = true := by
  obtain ⟨-, -, hY, hO, -, -, -, -, -, -, hG⟩ := H
  rcases List.mem_append.mp (hG.2.1 t ht) with h | h
  · exact GeL_mem hY h
  · exact GeL_mem hO h
/-- behind restart the search may begin -/
theorem CI_TrO (H : CI w x rg nr yg ya ly og oa lo tr fa Y O F G) : TrO (rsW w tr F) tr fa (ly + lo) := by
  obtain ⟨hS, hT, -, -, -, -, -, -, hF, -, -⟩ := H
  obtain ⟨-, -, -, -, -, -, -, -, -, h1, h2, h3, h4, h5, -⟩ := hS
  refine ⟨h3, h4, h5, by omega, fun t ht => ?_⟩
  have ht' : isTb w t = true := ht
  exact ⟨rsW_flag hF h3 ht', by rw [rsW_0, szw_congr rsW_0]; exact (HT_sz hT ht').1⟩
theorem sucL_rs : sucL (rsW w tr F) = sucL w := rfl
theorem CI_BC (H : CI w x rg nr yg ya ly og oa lo tr fa Y O F G) : BC (rsW w tr F) G := by
  intro b hb
  refine ⟨CI_G H hb, fun hk => ?_⟩
  obtain ⟨-, hT, -, -, -, -, -, -, -, -, hG⟩ := H
  obtain ⟨c, n, h1, h2, h3, -, -, h4⟩ := hT.1 b hk
  refine ⟨c, n, h1, h2, by omega, fun o ho => ?_⟩
  obtain ⟨i, hi, rfl⟩ := rowL_mem.mp ho
  refine ⟨h4 i hi, hG.2.2.2.2.1 b hb _ ?_⟩
  rw [sucL_of (w := w) hk h1 h2]
  exact rowL_mem.mpr ⟨i, hi, rfl⟩
theorem CI_regs (H : CI w x rg nr yg ya ly og oa lo tr fa Y O F G) : ∀ o ∈ rowL (rsW w tr F) rg nr, oV (rsW w tr F) o ∧ oB (rsW w tr F) G o := by
  intro o ho
  obtain ⟨i, hi, rfl⟩ := rowL_mem.mp ho
  exact ⟨H.2.1.2.2.2 i hi, H.2.2.2.2.2.2.2.2.2.2.2.2.2.1 i hi⟩
end ST
end
section
/-! collectOld -/
theorem flw_bd {w : Wd} {B : List Nat} (hC : BC w B) : ∀ (k i : Nat) {xs : List Nat}, Bd B xs → Bd B (flw w k i xs) := by
  intro k
  induction k with
  | zero => intro i xs h; exact h
  | succ k ih =>
    intro i xs h
    rw [flw]
    split
    · rename_i t ht
      exact ih (i + 1) (fnds_bd (fun o ho => (sucL_ok hC (h.2 t (List.mem_of_getElem? ht)) o ho).2) h)
    · exact h
def inL (R : List Nat) (t : Nat) : Bool := decide (t ∈ R)
/-- what a great collection's search finds -/
def colR (w : Wd) (rg nr N tr : Nat) (F : List Nat) : List Nat := flw (rsW w tr F) N 0 (fnds (rsW w tr F) [] (rowL (rsW w tr F) rg nr))
/-- behind a search and the cutting of targets -/
def cutY (w : Wd) (tr fa : Nat) (Y O F R : List Nat) : Wd := cutW (cutW (trW (rsW w tr F) tr fa R) Y) O
def colOW (w : Wd) (x og oa tr fa : Nat) (Y O F R : List Nat) : Wd := uI (genW (cutY w tr fa Y O F R) og oa (O.filter (inL R))) x 5 (wI w x 5 + 1)
section CO
variable {l : Launch} {Δ : Dat} {w : Wd} {x rg nr yg ya ly og oa lo tr fa : Nat} {Y O F G R : List Nat}
theorem cutY_int {b k : Nat} : wI (cutY w tr fa Y O F R) b k = wI (trW (rsW w tr F) tr fa R) b k := rfl
theorem cutY_0 {b : Nat} : wI (cutY w tr fa Y O F R) b 0 = wI w b 0 := by rw [cutY_int, trW_int0, rsW_0]
theorem notT {t : Nat} {d : Kd} (hR : ∀ t ∈ R, isTb w t = true) (h : wK w t = some d) (hd : d ≠ .inl 3 ∧ d ≠ .inl 4) : t ∉ R := fun q => isTb_ne (hR t q) h hd rfl
theorem tr_other {b k : Nat} {d : Kd} (hR : ∀ t ∈ R, isTb w t = true) (hF : ∀ t ∈ F, isTb w t = true) (h : wK w b = some d) (hd : d ≠ .inl 3 ∧ d ≠ .inl 4) (hne : b ≠ tr) : wI (trW (rsW w tr F) tr fa R) b k = wI w b k := by
  have e1 := notT hR h hd
  have e2 := notT hF h hd
  by_cases k2 : k = 2
  · subst k2
    rw [trW_flag hne, if_neg e1, rsW_int (Or.inl hne) (Or.inr e2)]
  · rw [trW_int hne k2, rsW_int (Or.inl hne) (Or.inl k2)]
theorem tr_flag {t : Nat} (hF : FL w tr fa (ly + lo) F) (htr : wK w tr = some (.inl 2)) (ht : isTb w t = true) : wI (trW (rsW w tr F) tr fa R) t 2 = if t ∈ R then 1 else 0 := by
  rw [trW_flag (isTb_ne ht htr (by decide)), rsW_flag hF htr ht]
theorem tr_rch {t : Nat} (hF : FL w tr fa (ly + lo) F) (htr : wK w tr = some (.inl 2)) (ht : isTb w t = true) : rch (trW (rsW w tr F) tr fa R) t = inL R t := by
  unfold rch inL
  rw [tr_flag hF htr ht]
  by_cases h : t ∈ R <;> simp [h]
theorem rch_congr {w w' : Wd} {t : Nat} (h : wI w' t 2 = wI w t 2) : rch w' t = rch w t := by unfold rch; rw [h]
theorem filt_rch {zs : List Nat} {w' : Wd} (h : ∀ t ∈ zs, rch w' t = inL R t) : zs.filter (rch w') = zs.filter (inL R) := List.filter_congr h
/-- the generations' rows lie apart from what a search and a cutting change -/
theorem GeL_tr {g ga m : Nat} {zs : List Nat} (hR : ∀ t ∈ R, isTb w t = true) (hF : ∀ t ∈ F, isTb w t = true) (htr : wK w tr = some (.inl 2)) {N : Nat} (hfk : wK w fa = some (.inr (4, N))) (hne : ga ≠ fa) (H : GeL w g ga m zs) : GeL (trW (rsW w tr F) tr fa R) g ga m zs :=
  GeL_congr (w := w) (w' := trW (rsW w tr F) tr fa R) (fun _ => rfl) (trW_ptr (w := rsW w tr F) (b := g) (fun e => by have := H.1.1; rw [e, hfk] at this; cases this)) (tr_other hR hF H.1.1 (by decide) (fun e => by have := H.1.1; rw [e, htr] at this; cases this)) (fun _ => trW_ptr (w := rsW w tr F) hne) H
theorem GeL_cut {g ga m : Nat} {zs ys : List Nat} {w' : Wd} (hys : ∀ t ∈ ys, isTb w' t = true) (H : GeL w' g ga m zs) : GeL (cutW w' ys) g ga m zs :=
  GeL_congr (w := w') (w' := cutW w' ys) (fun _ => rfl) (cutW_ptr (Or.inl (by decide))) rfl (fun _ => cutW_ptr (Or.inr (fun q => isTb_ne (hys _ q) H.1.2.2.1 (by simp) rfl))) H
theorem cutW_tgt {w' : Wd} {ys : List Nat} {b t : Nat} (h : wP (cutW w' ys) b 3 = some t) : wP w' b 3 = some t := by
  have e : wP (cutW w' ys) b 3 = if 3 = 3 ∧ b ∈ ys ∧ cutB w' b = true then none else wP w' b 3 := rfl
  rw [e] at h
  split at h
  · cases h
  · exact h
set_option maxRecDepth 100000 in
set_option maxHeartbeats 400000 in
theorem k_collectOld (H : CI w x rg nr yg ya ly og oa lo tr fa Y O F G) :
    Ct l y_TG_collectOld h_TG_collectOld (rmL 3 0 0) Δ [.ref x] w (fun r w' => r = some (.int (sumI w O - sumI w (O.filter (inL (colR w rg nr (ly + lo) tr F))))) ∧ w' = colOW w x og oa tr fa Y O F (colR w rg nr (ly + lo) tr F)) := by
  have hlen := CI_len H
  have hTrO := CI_TrO H
  have hBC := CI_BC H
  have hregs := CI_regs H
  have hGT : ∀ t ∈ G, isTb w t = true := fun t ht => CI_G H ht
  obtain ⟨hS, hT, hY, hO, hty, hto, hnd, hsum, hF, hol, hG⟩ := H
  obtain ⟨hRg, hnr, h1, h2, h3, hyO, hoO, -, -, hly, hlo, htr, htf, hfk, hgg, hya, hyf, hof⟩ := hS
  have hx := hRg.1
  have hFT := hF.2.2.2.1
  have hxfa : x ≠ fa := fun e => by rw [e, hfk] at hx; cases hx
  have hxtr : x ≠ tr := fun e => by rw [e, htr] at hx; cases hx
  have hogfa : og ≠ fa := fun e => by have := hoO.1; rw [e, hfk] at this; cases this
  have hogtr : og ≠ tr := fun e => by have := hoO.1; rw [e, htr] at this; cases this
  have hb1 : Bd G (fnds (rsW w tr F) [] (rowL (rsW w tr F) rg nr)) := fnds_bd (fun o ho => (hregs o ho).2) ⟨List.nodup_nil, fun _ h => nomatch h⟩
  have hbR : Bd G (colR w rg nr (ly + lo) tr F) := flw_bd hBC _ _ hb1
  have hRT : ∀ t ∈ colR w rg nr (ly + lo) tr F, isTb w t = true := fun t ht => hGT t (hbR.2 t ht)
  have hOT : ∀ t ∈ O, isTb w t = true := fun t ht => GeL_mem hO ht
  have hYT : ∀ t ∈ Y, isTb w t = true := fun t ht => GeL_mem hY ht
  rw [List.nodup_append] at hnd
  refine Ct_of (L := [some (.ref x), none]) (by decide) (by first | exact Nat.le_of_ble_eq_true rfl | simp [lg_sl, va_rf_cat, vc_r, vc_i, vc_0]) (by first | rfl | simp [lin, va_rf_cat, vc_r, vc_i, vc_0]) (fun Γ X => ?_)
  first | refine J_aload_nr X d_TG_collectOld_0 rfl rfl ?_ | refine J_aload_n X d_TG_collectOld_0 rfl rfl ?_ | refine J_aload_n0 X d_TG_collectOld_0 rfl rfl ?_
  refine J_getR X (hx) fa_TG_38_0 rfl (h3) d_TG_collectOld_1 ?_
  refine J_callV X (htr) rfl (k_restart (xs := F) htr htf hfk (by omega) hF.2.1 hF.1 hF.2.2.1 hFT) cd_Tr_restart lk_TG_115 vi_Tr_restart (by decide) (by decide) (by decide) (by decide) rfl (by first | decide | simp [va_rf_cat, vc_r, vc_i, vc_0]) d_TG_collectOld_4 (fun r w1 hr => ?_)
  obtain ⟨rfl, rfl⟩ := hr
  refine J_eq (w' := trW (rsW w tr F) tr fa []) rsW_nil.symm rfl ?_
  first | refine J_aload_nr X d_TG_collectOld_7 rfl rfl ?_ | refine J_aload_n X d_TG_collectOld_7 rfl rfl ?_ | refine J_aload_n0 X d_TG_collectOld_7 rfl rfl ?_
  refine J_callV X (hx) rfl (k_findRegisters (w := rsW w tr F) (B := G) (xs := []) hTrO hlen ⟨List.nodup_nil, fun _ h => nomatch h⟩ hx hRg.2.1 h3 hRg.2.2.1 (by omega) (fun o ho => (hregs o ho).1) (fun o ho => (hregs o ho).2)) cd_TG_findRegisters lk_TG_158 vi_TG_findRegisters (by decide) (by decide) (by decide) (by decide) rfl (by first | decide | simp [va_rf_cat, vc_r, vc_i, vc_0]) d_TG_collectOld_8 (fun r w1 hr => ?_)
  obtain ⟨rfl, rfl⟩ := hr
  have g3 : wP (trW (rsW w tr F) tr fa (fnds (rsW w tr F) [] (rowL (rsW w tr F) rg nr))) x 3 = some tr := (trW_ptr hxfa).trans h3
  first | refine J_aload_nr X d_TG_collectOld_11 rfl rfl ?_ | refine J_aload_n X d_TG_collectOld_11 rfl rfl ?_ | refine J_aload_n0 X d_TG_collectOld_11 rfl rfl ?_
  refine J_getR X (hx) fa_TG_38_0 rfl (g3) d_TG_collectOld_12 ?_
  refine J_callV X (htr) rfl (k_follow (w := rsW w tr F) (B := G) hTrO (by omega) hlen hBC hb1) cd_Tr_follow lk_TG_122 vi_Tr_follow (by decide) (by decide) (by decide) (by decide) rfl (by first | decide | simp [va_rf_cat, vc_r, vc_i, vc_0]) d_TG_collectOld_15 (fun r w1 hr => ?_)
  obtain ⟨rfl, rfl⟩ := hr
  refine J_eq (w' := trW (rsW w tr F) tr fa (colR w rg nr (ly + lo) tr F)) rfl rfl ?_
  generalize hRe : colR w rg nr (ly + lo) tr F = R at hbR hRT ⊢
  have g1 : wP (trW (rsW w tr F) tr fa R) x 1 = some yg := (trW_ptr hxfa).trans h1
  have hY1 : GeL (trW (rsW w tr F) tr fa R) yg ya ly Y := GeL_tr hRT hFT htr hfk hyf hY
  have hO1 : GeL (trW (rsW w tr F) tr fa R) og oa lo O := GeL_tr hRT hFT htr hfk hof hO
  have hw1 : ∀ b t, wK (trW (rsW w tr F) tr fa R) b = some (.inl 4) → wP (trW (rsW w tr F) tr fa R) b 3 = some t → isTb (trW (rsW w tr F) tr fa R) t = true := fun b t hb ht => by
    have hbf : b ≠ fa := fun e => by rw [e] at hb; exact absurd (hfk.symm.trans hb) (by simp)
    rw [trW_ptr hbf] at ht
    exact (hT.2.2.1 b hb).2 t ht
  first | refine J_aload_nr X d_TG_collectOld_18 rfl rfl ?_ | refine J_aload_n X d_TG_collectOld_18 rfl rfl ?_ | refine J_aload_n0 X d_TG_collectOld_18 rfl rfl ?_
  refine J_getR X (hx) fa_TG_24_0 rfl (g1) d_TG_collectOld_19 ?_
  refine J_callV X (hyO.1) rfl (k_cutTargets hY1 hnd.1 hw1) cd_Gen_cutTargets lk_TG_168 vi_Gen_cutTargets (by decide) (by decide) (by decide) (by decide) rfl (by first | decide | simp [va_rf_cat, vc_r, vc_i, vc_0]) d_TG_collectOld_22 (fun r w1 hr => ?_)
  obtain ⟨rfl, rfl⟩ := hr
  have g2 : wP (cutW (trW (rsW w tr F) tr fa R) Y) x 2 = some og := (cutW_ptr (Or.inl (by decide))).trans ((trW_ptr hxfa).trans h2)
  first | refine J_aload_nr X d_TG_collectOld_25 rfl rfl ?_ | refine J_aload_n X d_TG_collectOld_25 rfl rfl ?_ | refine J_aload_n0 X d_TG_collectOld_25 rfl rfl ?_
  refine J_getR X (hx) fa_TG_28_0 rfl (g2) d_TG_collectOld_26 ?_
  refine J_callV X (hoO.1) rfl (k_cutTargets (GeL_cut hYT hO1) hnd.2.1 (fun b t hb ht => hw1 b t hb (cutW_tgt ht))) cd_Gen_cutTargets lk_TG_168 vi_Gen_cutTargets (by decide) (by decide) (by decide) (by decide) rfl (by first | decide | simp [va_rf_cat, vc_r, vc_i, vc_0]) d_TG_collectOld_29 (fun r w1 hr => ?_)
  obtain ⟨rfl, rfl⟩ := hr
  refine J_eq (w' := cutY w tr fa Y O F R) rfl rfl ?_
  have g4 : wP (cutY w tr fa Y O F R) x 2 = some og := (cutW_ptr (Or.inl (by decide))).trans g2
  have g5 : wI (cutY w tr fa Y O F R) og 3 = sumI w O := by rw [cutY_int]; exact (tr_other hRT hFT hoO.1 (by decide) hogtr).trans hto
  have hO3 : GeL (cutY w tr fa Y O F R) og oa lo O := GeL_cut hOT (GeL_cut hYT hO1)
  have hsz3 : ∀ t, isTb (cutY w tr fa Y O F R) t = true → wI (cutY w tr fa Y O F R) t 0 = nI (szw (cutY w tr fa Y O F R) t) := fun t ht => by
    rw [cutY_0, szw_congr cutY_0]; exact (HT_sz hT ht).1
  have hfil : O.filter (rch (cutY w tr fa Y O F R)) = O.filter (inL R) := filt_rch (fun t ht => (rch_congr cutY_int).trans (tr_rch hF htr (hOT t ht)))
  have hK3 : ∀ b, wK (cutY w tr fa Y O F R) b = wK w b := fun _ => rfl
  have hi3 : wI (cutY w tr fa Y O F R) x 5 = wI w x 5 := by rw [cutY_int]; exact tr_other hRT hFT hx (by decide) hxtr
  have h03 : ∀ t, wI (cutY w tr fa Y O F R) t 0 = wI w t 0 := fun t => cutY_0
  generalize hw3 : cutY w tr fa Y O F R = w3 at g4 g5 hO3 hsz3 hfil hK3 hi3 h03 ⊢
  have kx := (hK3 x).trans hx
  have kog := (hK3 og).trans hoO.1
  first | refine J_aload_nr X d_TG_collectOld_32 rfl rfl ?_ | refine J_aload_n X d_TG_collectOld_32 rfl rfl ?_ | refine J_aload_n0 X d_TG_collectOld_32 rfl rfl ?_
  refine J_getR X (kx) fa_TG_28_0 rfl (g4) d_TG_collectOld_33 ?_
  refine J_getI X (kog) fa_TG_140_1 rfl (g5) d_TG_collectOld_36 ?_
  refine J_istore_n X d_TG_collectOld_39 rfl (by decide) rfl ?_
  first | refine J_aload_nr X d_TG_collectOld_40 rfl rfl ?_ | refine J_aload_n X d_TG_collectOld_40 rfl rfl ?_ | refine J_aload_n0 X d_TG_collectOld_40 rfl rfl ?_
  refine J_getR X (kx) fa_TG_28_0 rfl (g4) d_TG_collectOld_41 ?_
  refine J_callV X (kog) rfl (k_keepReached hO3 hsz3) cd_Gen_keepReached lk_TG_177 vi_Gen_keepReached (by decide) (by decide) (by decide) (by decide) rfl (by first | decide | simp [va_rf_cat, vc_r, vc_i, vc_0]) d_TG_collectOld_44 (fun r w1 hr => ?_)
  obtain ⟨rfl, hw4⟩ := hr
  rw [hfil] at hw4
  have hxog : x ≠ og := fun e => by have := hoO.1; rw [← e, hx] at this; cases this
  have hxoa : x ≠ oa := fun e => by have := hoO.2.2.1; rw [← e, hx] at this; cases this
  have g6 : wI w1 x 5 = wI w x 5 := by rw [hw4, genW_int (Or.inl hxog)]; exact hi3
  have g7 : wP w1 x 2 = some og := by rw [hw4, genW_ptr (Or.inl hxoa)]; exact g4
  have g8 : wI w1 og 3 = sumI w (O.filter (inL R)) := by rw [hw4, genW_tak]; exact sumI_congr (fun t _ => h03 t)
  have k1x : wK w1 x = some (.inl 0) := by rw [hw4]; exact kx
  have k1og : wK w1 og = some (.inl 1) := by rw [hw4]; exact kog
  first | refine J_aload_nr X d_TG_collectOld_47 rfl rfl ?_ | refine J_aload_n X d_TG_collectOld_47 rfl rfl ?_ | refine J_aload_n0 X d_TG_collectOld_47 rfl rfl ?_
  refine J_dup X d_TG_collectOld_48 (rfl) ?_
  refine J_getI X (k1x) fa_TG_146_0 rfl (g6) d_TG_collectOld_49 ?_
  refine J_iconst (v := 1) X d_TG_collectOld_52 (by decide) ?_
  refine J_iadd X d_TG_collectOld_53 ?_
  refine J_putI X (k1x) fp_TG_146_0 rfl d_TG_collectOld_54 ?_
  have g9 : wI (uI w1 x 5 (wI w x 5 + 1)) og 3 = sumI w (O.filter (inL R)) := by rw [wI_uI, if_neg (fun q => hxog q.1.symm)]; exact g8
  refine J_iload_n X d_TG_collectOld_57 rfl rfl ?_
  first | refine J_aload_nr X d_TG_collectOld_58 rfl rfl ?_ | refine J_aload_n X d_TG_collectOld_58 rfl rfl ?_ | refine J_aload_n0 X d_TG_collectOld_58 rfl rfl ?_
  refine J_getR X (k1x) fa_TG_28_0 rfl (g7) d_TG_collectOld_59 ?_
  refine J_getI X (k1og) fa_TG_140_1 rfl (g9) d_TG_collectOld_62 ?_
  refine J_isub X d_TG_collectOld_65 ?_
  exact J_iret X ⟨rfl, by rw [hw4, ← hw3]; rfl⟩ (by decide) (by decide) d_TG_collectOld_66
end CO
end
section
/-! what a search finds: the least set that holds its start and what its members lead to -/
theorem fnd_mem {w : Wd} {xs : List Nat} {o : Option Nat} {t : Nat} : t ∈ fnd w xs o ↔ t ∈ xs ∨ (o = some t ∧ isTb w t = true) := by
  cases o with
  | none => simp [fnd]
  | some u =>
    show t ∈ (if isTb w u = true ∧ u ∉ xs then xs ++ [u] else xs) ↔ _
    by_cases h1 : isTb w u = true
    · by_cases h2 : u ∈ xs
      · rw [if_neg (fun q => q.2 h2)]
        constructor
        · exact Or.inl
        · rintro (h | ⟨e, -⟩)
          · exact h
          · cases e; exact h2
      · rw [if_pos ⟨h1, h2⟩, List.mem_append, List.mem_singleton]
        constructor
        · rintro (h | rfl)
          · exact Or.inl h
          · exact Or.inr ⟨rfl, h1⟩
        · rintro (h | ⟨e, -⟩)
          · exact Or.inl h
          · cases e; exact Or.inr rfl
    · rw [if_neg (fun q => h1 q.1)]
      constructor
      · exact Or.inl
      · rintro (h | ⟨e, h⟩)
        · exact h
        · cases e; exact absurd h h1
theorem fnds_mem {w : Wd} {os : List (Option Nat)} {t : Nat} : ∀ {xs : List Nat}, t ∈ fnds w xs os ↔ t ∈ xs ∨ (some t ∈ os ∧ isTb w t = true) := by
  induction os with
  | nil => intro xs; simp [fnds]
  | cons o r ih =>
    intro xs
    show t ∈ fnds w (fnd w xs o) r ↔ _
    rw [ih, fnd_mem]
    constructor
    · rintro ((h | ⟨e, h⟩) | ⟨h1, h2⟩)
      · exact Or.inl h
      · exact Or.inr ⟨by rw [e]; exact List.mem_cons_self, h⟩
      · exact Or.inr ⟨List.mem_cons_of_mem _ h1, h2⟩
    · rintro (h | ⟨h1, h2⟩)
      · exact Or.inl (Or.inl h)
      · rcases List.mem_cons.mp h1 with e | h1
        · exact Or.inl (Or.inr ⟨e.symm, h2⟩)
        · exact Or.inr ⟨h1, h2⟩
theorem fnd_pre {w : Wd} {xs : List Nat} {o : Option Nat} : ∃ zs, fnd w xs o = xs ++ zs := by
  cases o with
  | none => exact ⟨[], by simp [fnd]⟩
  | some u =>
    show ∃ zs, (if isTb w u = true ∧ u ∉ xs then xs ++ [u] else xs) = xs ++ zs
    split
    · exact ⟨[u], rfl⟩
    · exact ⟨[], by simp⟩
theorem fnds_pre {w : Wd} {os : List (Option Nat)} : ∀ {xs : List Nat}, ∃ zs, fnds w xs os = xs ++ zs := by
  induction os with
  | nil => intro xs; exact ⟨[], by simp [fnds]⟩
  | cons o r ih =>
    intro xs
    obtain ⟨z1, h1⟩ := fnd_pre (w := w) (xs := xs) (o := o)
    obtain ⟨z2, h2⟩ := ih (xs := fnd w xs o)
    exact ⟨z1 ++ z2, by show fnds w (fnd w xs o) r = _; rw [h2, h1, List.append_assoc]⟩
theorem pre_at {xs zs : List Nat} {i t : Nat} (h : xs[i]? = some t) : (xs ++ zs)[i]? = some t := by
  rw [List.getElem?_append_left (List.getElem?_eq_some_iff.mp h).1]; exact h
/-- whatever it leads to is among xs -/
def dn (w : Wd) (xs : List Nat) (t : Nat) : Prop := ∀ v, some v ∈ sucL w t → isTb w v = true → v ∈ xs
theorem flw_closed {w : Wd} {B : List Nat} {N : Nat} (hC : BC w B) (hB : B.length ≤ N) : ∀ (k i : Nat) (xs : List Nat), k + i = N → Bd B xs → (∀ j t, j < i → xs[j]? = some t → dn w xs t) → (∀ t ∈ flw w k i xs, dn w (flw w k i xs) t) ∧ ∃ zs, flw w k i xs = xs ++ zs := by
  intro k
  induction k with
  | zero =>
    intro i xs hi hb hd
    refine ⟨fun t ht => ?_, [], by simp [flw]⟩
    obtain ⟨j, hj⟩ := List.getElem?_of_mem ht
    have := bd_len hb hB
    exact hd j t (by have := (List.getElem?_eq_some_iff.mp hj).1; simp only [flw] at this; omega) hj
  | succ k ih =>
    intro i xs hi hb hd
    cases hx : xs[i]? with
    | none =>
      have e : flw w (k + 1) i xs = xs := by rw [flw, hx]
      rw [e]
      refine ⟨fun t ht => ?_, [], by simp⟩
      obtain ⟨j, hj⟩ := List.getElem?_of_mem ht
      have h1 := (List.getElem?_eq_some_iff.mp hj).1
      have h2 := List.getElem?_eq_none_iff.mp hx
      exact hd j t (by omega) hj
    | some u =>
      have e : flw w (k + 1) i xs = flw w k (i + 1) (fnds w xs (sucL w u)) := by rw [flw, hx]
      rw [e]
      have hu := hb.2 u (List.mem_of_getElem? hx)
      have hb' : Bd B (fnds w xs (sucL w u)) := fnds_bd (fun o ho => (sucL_ok hC hu o ho).2) hb
      obtain ⟨zs, hz⟩ := fnds_pre (w := w) (xs := xs) (os := sucL w u)
      obtain ⟨h1, ys, h2⟩ := ih (i + 1) (fnds w xs (sucL w u)) (by omega) hb' (fun j t hj ht => by
        by_cases hji : j < i
        · obtain ⟨y, hy⟩ := at_lt (xs := xs) (i := j) (by have := (List.getElem?_eq_some_iff.mp hx).1; omega)
          rw [hz, pre_at hy] at ht
          cases ht
          exact fun v hv hT => fnds_mem.mpr (Or.inl (hd j t hji hy v hv hT))
        · have : j = i := by omega
          subst this
          rw [hz, pre_at hx] at ht
          cases ht
          exact fun v hv hT => fnds_mem.mpr (Or.inr ⟨hv, hT⟩))
      exact ⟨h1, zs ++ ys, by rw [h2, hz, List.append_assoc]⟩
theorem flw_least {w : Wd} {S : Nat → Prop} (hS : ∀ u, S u → ∀ v, some v ∈ sucL w u → isTb w v = true → S v) : ∀ (k i : Nat) (xs : List Nat), (∀ t ∈ xs, S t) → ∀ t ∈ flw w k i xs, S t := by
  intro k
  induction k with
  | zero => intro i xs h; exact h
  | succ k ih =>
    intro i xs h
    cases hx : xs[i]? with
    | none =>
      have e : flw w (k + 1) i xs = xs := by rw [flw, hx]
      rw [e]; exact h
    | some u =>
      have e : flw w (k + 1) i xs = flw w k (i + 1) (fnds w xs (sucL w u)) := by rw [flw, hx]
      rw [e]
      refine ih (i + 1) _ (fun t ht => ?_)
      rcases fnds_mem.mp ht with ht | ⟨h1, h2⟩
      · exact h t ht
      · exact hS u (h u (List.mem_of_getElem? hx)) t h1 h2
/-- the least set over S0 -/
def Rc (w : Wd) (S0 : Nat → Prop) (t : Nat) : Prop := ∀ S : Nat → Prop, (∀ u, S0 u → S u) → (∀ u, S u → ∀ v, some v ∈ sucL w u → isTb w v = true → S v) → S t
theorem flw_mem {w : Wd} {B xs : List Nat} {N : Nat} (hC : BC w B) (hB : B.length ≤ N) (hb : Bd B xs) {t : Nat} : t ∈ flw w N 0 xs ↔ Rc w (fun u => u ∈ xs) t := by
  obtain ⟨h1, zs, h2⟩ := flw_closed hC hB N 0 xs (by omega) hb (fun j t hj => by omega)
  constructor
  · intro ht S hS0 hS
    exact flw_least hS N 0 xs hS0 t ht
  · intro h
    exact h (fun u => u ∈ flw w N 0 xs) (fun u hu => by rw [h2]; exact List.mem_append_left _ hu) (fun u hu v hv hT => h1 u hu v hv hT)
/-! ===== what a world's change keeps ===== -/
theorem HT_congr {w w' : Wd} {rg nr : Nat} (hK : ∀ b, wK w' b = wK w b) (h0 : ∀ t, isTb w t = true → wI w' t 0 = wI w t 0) (hP : ∀ t, wK w t = some (.inl 3) → wP w' t 3 = wP w t 3) (hA : ∀ c n, wK w c = some (.inr (3, n)) → ∀ i, wP w' c i = wP w c i) (hrk : wK w rg = some (.inr (3, nr)))
    (hW : ∀ t, wK w t = some (.inl 4) → wP w' t 3 = wP w t 3 ∨ wP w' t 3 = none) (H : HT w rg nr) : HT w' rg nr := by
  refine ⟨fun t ht => ?_, fun t t' c ht ht' h1 h2 => ?_, fun t ht => ?_, fun r hr => ?_⟩
  · rw [hK] at ht
    obtain ⟨c, n, a1, a2, a3, a4, a5, a6⟩ := H.1 t ht
    exact ⟨c, n, (hP t ht).trans a1, (hK c).trans a2, a3, a4, (h0 t (isTb_of (Or.inl rfl) ht)).trans a5, fun i hi => by rw [hA c n a2 i]; exact oV_congr hK (a6 i hi)⟩
  · rw [hK] at ht ht'
    rw [hP t ht] at h1
    rw [hP t' ht'] at h2
    exact H.2.1 t t' c ht ht' h1 h2
  · rw [hK] at ht
    obtain ⟨a1, a2⟩ := H.2.2.1 t ht
    refine ⟨(h0 t (isTb_of (Or.inr rfl) ht)).trans a1, fun u hu => ?_⟩
    rw [isTb_congr hK]
    rcases hW t ht with h | h
    · rw [h] at hu; exact a2 u hu
    · rw [h] at hu; cases hu
  · rw [hA rg nr hrk r]
    exact oV_congr hK (H.2.2.2 r hr)
theorem CS_congr {w w' : Wd} {x rg nr yg ya ly og oa lo tr fa : Nat} (hK : ∀ b, wK w' b = wK w b) (hx : ∀ k, k < 4 → wP w' x k = wP w x k) (h1 : wP w' yg 1 = wP w yg 1) (h2 : wP w' og 1 = wP w og 1) (h3 : wP w' tr 0 = wP w tr 0) (h4 : wI w' yg 0 = wI w yg 0) (h5 : wI w' og 0 = wI w og 0) (H : CS w x rg nr yg ya ly og oa lo tr fa) : CS w' x rg nr yg ya ly og oa lo tr fa := by
  obtain ⟨⟨a1, a2, a3, a4, a5⟩, b1, b2, b3, b4, b5, b6, b7, b8, b9, c1, c2, c3, c4, c5⟩ := H
  exact ⟨⟨(hK x).trans a1, (hx 0 (by decide)).trans a2, (hK rg).trans a3, a4, a5⟩, b1, (hx 1 (by decide)).trans b2, (hx 2 (by decide)).trans b3, (hx 3 (by decide)).trans b4, GeO_congr hK h1 b5, GeO_congr hK h2 b6, h4.trans b7, h5.trans b8, b9, c1, (hK tr).trans c2, h3.trans c3, (hK fa).trans c4, c5⟩
theorem sucL_congr {w w' : Wd} (hK : ∀ b, wK w' b = wK w b) (hP : ∀ t, wK w t = some (.inl 3) → wP w' t 3 = wP w t 3) (hA : ∀ c n, wK w c = some (.inr (3, n)) → ∀ i, wP w' c i = wP w c i) {rg nr : Nat} (H : HT w rg nr) (t : Nat) : sucL w' t = sucL w t := by
  by_cases ht : wK w t = some (.inl 3)
  · obtain ⟨c, n, a1, a2, -⟩ := H.1 t ht
    rw [sucL_of ((hK t).trans ht) ((hP t ht).trans a1) ((hK c).trans a2), sucL_of ht a1 a2]
    exact rowL_congr (hA c n a2)
  · rw [sucL, sucL, if_neg ht, if_neg (by rw [hK]; exact ht)]
end
section
/-! the state behind a great collection -/
def fil (R : List Nat) (o : Option Nat) : Option Nat := match o with
  | some u => if u ∈ R then some u else none
  | none => none
theorem cutW_at {w : Wd} {ys : List Nat} {b : Nat} : wP (cutW w ys) b 3 = if b ∈ ys ∧ cutB w b = true then none else wP w b 3 := by simp [cutW, wP]
theorem cutB_no {w : Wd} {b : Nat} (h : wK w b ≠ some (.inl 4)) : cutB w b = false := by
  unfold cutB
  split
  · rename_i e; exact absurd e h
  · rfl
theorem cutB_eq {w : Wd} {b : Nat} (h : wK w b = some (.inl 4)) : cutB w b = match wP w b 3 with | some t => decide (wI w t 2 = 0) | none => false := by
  unfold cutB; rw [h]; rfl
section CP
variable {w : Wd} {x rg nr yg ya ly og oa lo tr fa : Nat} {Y O F G R : List Nat}
theorem cutY_ptr {b k : Nat} (hb : b ≠ fa) (h : k ≠ 3 ∨ wK w b ≠ some (.inl 4)) : wP (cutY w tr fa Y O F R) b k = wP w b k := by
  have e : wP (trW (rsW w tr F) tr fa R) b k = wP w b k := trW_ptr (w := rsW w tr F) hb
  by_cases hk : k = 3
  · subst hk
    have h' : wK w b ≠ some (.inl 4) := by rcases h with h | h; exact absurd rfl h; exact h
    have n1 : cutB (cutW (trW (rsW w tr F) tr fa R) Y) b = false := cutB_no (w := cutW (trW (rsW w tr F) tr fa R) Y) h'
    have n2 : cutB (trW (rsW w tr F) tr fa R) b = false := cutB_no (w := trW (rsW w tr F) tr fa R) h'
    rw [cutY, cutW_at, n1, if_neg (by simp), cutW_at, n2, if_neg (by simp)]
    exact e
  · rw [cutY, cutW_ptr (Or.inl hk), cutW_ptr (Or.inl hk)]
    exact e
theorem cutY_tgt {b : Nat} (hF : FL w tr fa (ly + lo) F) (htr : wK w tr = some (.inl 2)) (hfk : wK w fa = some (.inr (4, ly + lo))) (hb : wK w b = some (.inl 4)) (hm : b ∈ Y ++ O) (hT : ∀ u, wP w b 3 = some u → isTb w u = true) : wP (cutY w tr fa Y O F R) b 3 = fil R (wP w b 3) := by
  have hbf : b ≠ fa := fun e => by rw [e, hfk] at hb; cases hb
  have e : wP (trW (rsW w tr F) tr fa R) b 3 = wP w b 3 := trW_ptr (w := rsW w tr F) hbf
  have c1 : cutB (trW (rsW w tr F) tr fa R) b = match wP w b 3 with | some t => decide (wI (trW (rsW w tr F) tr fa R) t 2 = 0) | none => false := by rw [cutB_eq (w := trW (rsW w tr F) tr fa R) hb, e]
  cases ho : wP w b 3 with
  | none =>
    rw [ho] at e c1
    rw [cutY, cutW_at]
    split
    · rfl
    · rw [cutW_at]
      split
      · rfl
      · exact e
  | some u =>
    rw [ho] at e c1
    have fl := tr_flag (R := R) hF htr (hT u ho)
    by_cases hu : u ∈ R
    · rw [if_pos hu] at fl
      have c1' : cutB (trW (rsW w tr F) tr fa R) b = false := by rw [c1]; show decide (wI (trW (rsW w tr F) tr fa R) u 2 = 0) = false; rw [fl]; decide
      have e2 : wP (cutW (trW (rsW w tr F) tr fa R) Y) b 3 = some u := by rw [cutW_at, c1', if_neg (by simp)]; exact e
      have c2 : cutB (cutW (trW (rsW w tr F) tr fa R) Y) b = false := by
        rw [cutB_eq (w := cutW (trW (rsW w tr F) tr fa R) Y) hb, e2]
        show decide (wI (cutW (trW (rsW w tr F) tr fa R) Y) u 2 = 0) = false
        rw [show wI (cutW (trW (rsW w tr F) tr fa R) Y) u 2 = wI (trW (rsW w tr F) tr fa R) u 2 from rfl, fl]; decide
      rw [cutY, cutW_at, c2, if_neg (by simp), e2, fil, if_pos hu]
    · rw [if_neg hu] at fl
      have c1' : cutB (trW (rsW w tr F) tr fa R) b = true := by rw [c1]; show decide (wI (trW (rsW w tr F) tr fa R) u 2 = 0) = true; rw [fl]; decide
      rw [fil, if_neg hu]
      by_cases hY : b ∈ Y
      · have e2 : wP (cutW (trW (rsW w tr F) tr fa R) Y) b 3 = none := by rw [cutW_at, if_pos ⟨hY, c1'⟩]
        rw [cutY, cutW_at]
        split
        · rfl
        · exact e2
      · have hO : b ∈ O := by rcases List.mem_append.mp hm with h | h; exact absurd h hY; exact h
        have e2 : wP (cutW (trW (rsW w tr F) tr fa R) Y) b 3 = some u := by rw [cutW_at, if_neg (fun q => hY q.1)]; exact e
        have c2 : cutB (cutW (trW (rsW w tr F) tr fa R) Y) b = true := by
          rw [cutB_eq (w := cutW (trW (rsW w tr F) tr fa R) Y) hb, e2]
          show decide (wI (cutW (trW (rsW w tr F) tr fa R) Y) u 2 = 0) = true
          rw [show wI (cutW (trW (rsW w tr F) tr fa R) Y) u 2 = wI (trW (rsW w tr F) tr fa R) u 2 from rfl, fl]; decide
        rw [cutY, cutW_at, if_pos ⟨hO, c2⟩]
theorem cutY_wk {b : Nat} (hfk : wK w fa = some (.inr (4, ly + lo))) (hb : wK w b = some (.inl 4)) : wP (cutY w tr fa Y O F R) b 3 = wP w b 3 ∨ wP (cutY w tr fa Y O F R) b 3 = none := by
  have hbf : b ≠ fa := fun e => by rw [e, hfk] at hb; cases hb
  have e : wP (trW (rsW w tr F) tr fa R) b 3 = wP w b 3 := trW_ptr (w := rsW w tr F) hbf
  rw [cutY, cutW_at]
  split
  · exact Or.inr rfl
  · rw [cutW_at]
    split
    · exact Or.inr rfl
    · exact Or.inl e
/-- behind a search and a cutting: the same things, their targets among R or cut -/
theorem CI_cut (H : CI w x rg nr yg ya ly og oa lo tr fa Y O F G) (hR : ∀ t ∈ R, isTb w t = true) :
    (∀ b, wK (cutY w tr fa Y O F R) b = wK w b) ∧ CS (cutY w tr fa Y O F R) x rg nr yg ya ly og oa lo tr fa ∧ HT (cutY w tr fa Y O F R) rg nr ∧ GeL (cutY w tr fa Y O F R) yg ya ly Y ∧ GeL (cutY w tr fa Y O F R) og oa lo O ∧ (∀ t, wI (cutY w tr fa Y O F R) t 0 = wI w t 0) ∧ (∀ t, isTb w t = true → wI (cutY w tr fa Y O F R) t 1 = wI w t 1) ∧
    (∀ t, isTb w t = true → wI (cutY w tr fa Y O F R) t 2 = if t ∈ R then 1 else 0) ∧ (wI (cutY w tr fa Y O F R) yg 3 = wI w yg 3 ∧ wI (cutY w tr fa Y O F R) og 3 = wI w og 3) ∧ (∀ k, wI (cutY w tr fa Y O F R) x k = wI w x k) ∧ (∀ t, sucL (cutY w tr fa Y O F R) t = sucL w t) ∧ (∀ i, wP (cutY w tr fa Y O F R) rg i = wP w rg i) ∧
    (wI (cutY w tr fa Y O F R) tr 1 = nI R.length ∧ ∀ i t, R[i]? = some t → wP (cutY w tr fa Y O F R) fa i = some t) := by
  obtain ⟨hS, hT, hY, hO, hty, hto, hnd, hsum, hF, hol, hG⟩ := H
  have hS' := hS
  obtain ⟨hRg, hnr, h1, h2, h3, hyO, hoO, -, -, hly, hlo, htr, htf, hfk, hgg, hya, hyf, hof⟩ := hS'
  have hFT := hF.2.2.2.1
  have hYT : ∀ t ∈ Y, isTb w t = true := fun t ht => GeL_mem hY ht
  have hOT : ∀ t ∈ O, isTb w t = true := fun t ht => GeL_mem hO ht
  have hK : ∀ b, wK (cutY w tr fa Y O F R) b = wK w b := fun _ => rfl
  have nf : ∀ {b : Nat} {d : Kd}, wK w b = some d → d ≠ .inr (4, ly + lo) → b ≠ fa := fun hb hd e => by rw [e, hfk] at hb; cases hb; exact hd rfl
  have nt : ∀ {b : Nat} {d : Kd}, wK w b = some d → d ≠ .inl 2 → b ≠ tr := fun hb hd e => by rw [e, htr] at hb; cases hb; exact hd rfl
  have hP : ∀ t, wK w t = some (.inl 3) → wP (cutY w tr fa Y O F R) t 3 = wP w t 3 := fun t ht => cutY_ptr (nf ht (by simp)) (Or.inr (by rw [ht]; simp))
  have hA : ∀ c n, wK w c = some (.inr (3, n)) → ∀ i, wP (cutY w tr fa Y O F R) c i = wP w c i := fun c n hc i => cutY_ptr (nf hc (by simp)) (Or.inr (by rw [hc]; simp))
  have hxp : ∀ k, wP (cutY w tr fa Y O F R) x k = wP w x k := fun k => cutY_ptr (nf hRg.1 (by simp)) (Or.inr (by rw [hRg.1]; simp))
  have hoth : ∀ {b : Nat} {d : Kd} (k : Nat), wK w b = some d → (d ≠ .inl 3 ∧ d ≠ .inl 4) → d ≠ .inl 2 → wI (cutY w tr fa Y O F R) b k = wI w b k := fun k hb hd h2 => by rw [cutY_int]; exact tr_other hR hFT hb hd (nt hb h2)
  refine ⟨hK, CS_congr hK (fun k _ => hxp k) (cutY_ptr (nf hyO.1 (by simp)) (Or.inl (by decide))) (cutY_ptr (nf hoO.1 (by simp)) (Or.inl (by decide))) (cutY_ptr (nf htr (by simp)) (Or.inl (by decide))) cutY_0 cutY_0 hS, HT_congr hK (fun t _ => cutY_0) hP hA hRg.2.2.1 (fun t ht => cutY_wk hfk ht) hT, ?_, ?_, fun t => cutY_0, fun t ht => ?_, fun t ht => ?_, ⟨hoth 3 hyO.1 (by simp) (by simp), hoth 3 hoO.1 (by simp) (by simp)⟩, fun k => hoth k hRg.1 (by simp) (by simp), fun t => sucL_congr hK hP hA hT t, fun i => hA rg nr hRg.2.2.1 i, ?_, fun i t hi => ?_⟩
  · exact GeL_congr hK (cutY_ptr (nf hyO.1 (by simp)) (Or.inl (by decide))) (hoth 2 hyO.1 (by simp) (by simp)) (fun i => cutY_ptr hyf (Or.inr (by rw [hyO.2.2.1]; simp))) hY
  · exact GeL_congr hK (cutY_ptr (nf hoO.1 (by simp)) (Or.inl (by decide))) (hoth 2 hoO.1 (by simp) (by simp)) (fun i => cutY_ptr hof (Or.inr (by rw [hoO.2.2.1]; simp))) hO
  · rw [cutY_int, trW_int (isTb_ne ht htr (by decide)) (by decide), rsW_int (Or.inl (isTb_ne ht htr (by decide))) (Or.inl (by decide))]
  · rw [cutY_int]; exact tr_flag hF htr ht
  · rw [cutY_int]; exact trW_cnt _ _ _ _
  · have hn4 : wK w fa ≠ some (.inl 4) := by rw [hfk]; simp
    have e1 : wP (trW (rsW w tr F) tr fa R) fa i = some t := trW_fa hi
    by_cases hk : i = 3
    · subst hk
      have n1 : cutB (cutW (trW (rsW w tr F) tr fa R) Y) fa = false := cutB_no (w := cutW (trW (rsW w tr F) tr fa R) Y) hn4
      have n2 : cutB (trW (rsW w tr F) tr fa R) fa = false := cutB_no (w := trW (rsW w tr F) tr fa R) hn4
      rw [cutY, cutW_at, n1, if_neg (by simp), cutW_at, n2, if_neg (by simp)]
      exact e1
    · rw [cutY, cutW_ptr (Or.inl hk), cutW_ptr (Or.inl hk)]
      exact e1
/-- R: nodup, among the young and old, closed, and all that the registers hold is in it -/
def RC (w : Wd) (rg nr : Nat) (Y O R : List Nat) : Prop := R.Nodup ∧ (∀ t ∈ R, t ∈ Y ++ O) ∧ (∀ r, r < nr → oB w R (wP w rg r)) ∧ ∀ t ∈ R, dn w R t
theorem CI_colR (H : CI w x rg nr yg ya ly og oa lo tr fa Y O F G) : RC w rg nr Y O (colR w rg nr (ly + lo) tr F) ∧ ∀ t, t ∈ colR w rg nr (ly + lo) tr F ↔ Rc w (fun u => ∃ r, r < nr ∧ wP w rg r = some u ∧ isTb w u = true) t := by
  have hlen := CI_len H
  have hBC := CI_BC H
  have hregs := CI_regs H
  obtain ⟨-, -, -, -, -, -, -, -, -, -, hG⟩ := H
  have hb1 : Bd G (fnds (rsW w tr F) [] (rowL (rsW w tr F) rg nr)) := fnds_bd (fun o ho => (hregs o ho).2) ⟨List.nodup_nil, fun _ h => nomatch h⟩
  obtain ⟨h1, zs, h2⟩ := flw_closed hBC hlen (ly + lo) 0 _ (by omega) hb1 (fun j t hj => by omega)
  have hbR : Bd G (colR w rg nr (ly + lo) tr F) := flw_bd hBC _ _ hb1
  have e1 : ∀ u, u ∈ fnds (rsW w tr F) [] (rowL (rsW w tr F) rg nr) ↔ ∃ r, r < nr ∧ wP w rg r = some u ∧ isTb w u = true := by
    intro u
    rw [fnds_mem]
    constructor
    · rintro (h | ⟨h, hT⟩)
      · cases h
      · obtain ⟨i, hi, e⟩ := rowL_mem.mp h
        exact ⟨i, hi, e, hT⟩
    · rintro ⟨i, hi, e, hT⟩
      exact Or.inr ⟨rowL_mem.mpr ⟨i, hi, e⟩, hT⟩
  refine ⟨⟨hbR.1, fun t ht => hG.2.1 t (hbR.2 t ht), fun r hr t e hT => ?_, fun t ht => h1 t ht⟩, fun t => ?_⟩
  · show t ∈ flw _ _ _ _
    rw [h2]
    exact List.mem_append_left _ ((e1 t).mpr ⟨r, hr, e, hT⟩)
  · show t ∈ flw _ _ _ _ ↔ _
    rw [flw_mem hBC hlen hb1]
    have e2 : (fun u => u ∈ fnds (rsW w tr F) [] (rowL (rsW w tr F) rg nr)) = fun u => ∃ r, r < nr ∧ wP w rg r = some u ∧ isTb w u = true := funext fun u => propext (e1 u)
    rw [e2]
    exact Iff.rfl
theorem sum_filt {f : Nat → Nat} {p : Nat → Bool} (xs : List Nat) : ((xs.filter p).map f).sum ≤ (xs.map f).sum := by
  induction xs with
  | nil => simp
  | cons a t ih =>
    by_cases h : p a = true
    · simp only [List.filter_cons, h, if_true, List.map_cons, List.sum_cons]; omega
    · simp only [List.filter_cons, h, List.map_cons, List.sum_cons]
      simp only [Bool.false_eq_true, if_false]
      omega
theorem CI_colO (H : CI w x rg nr yg ya ly og oa lo tr fa Y O F G) (hR : RC w rg nr Y O R) : CI (colOW w x og oa tr fa Y O F R) x rg nr yg ya ly og oa lo tr fa Y (O.filter (inL R)) R R := by
  have hRT : ∀ t ∈ R, isTb w t = true := fun t ht => by
    rcases List.mem_append.mp (hR.2.1 t ht) with h | h
    · exact GeL_mem H.2.2.1 h
    · exact GeL_mem H.2.2.2.1 h
  obtain ⟨hK, c1, c2, c3, c4, c5, c6, c7, ⟨c8, c9⟩, d1, d2, d3, d4, d5⟩ := CI_cut (R := R) H hRT
  obtain ⟨hS, hT, hY, hO, hty, hto, hnd, hsum, hF, hol, hG⟩ := H
  have hS' := hS
  obtain ⟨hRg, hnr, h1, h2, h3, hyO, hoO, -, -, hly, hlo, htr, htf, hfk, hgg, hya, hyf, hof⟩ := hS'
  have htg : ∀ b, wK w b = some (.inl 4) → b ∈ Y ++ O → wP (cutY w tr fa Y O F R) b 3 = fil R (wP w b 3) := fun b hb hm => cutY_tgt hF htr hfk hb hm (fun u hu => (hT.2.2.1 b hb).2 u hu)
  have hsz : ∀ zs, sumI (cutY w tr fa Y O F R) zs = sumI w zs := fun zs => sumI_congr (fun t _ => c5 t)
  have hszw : szw (cutY w tr fa Y O F R) = szw w := funext fun t => szw_congr (c5 t)
  have hYT : ∀ t ∈ Y, isTb w t = true := fun t ht => GeL_mem hY ht
  have hOT : ∀ t ∈ O, isTb w t = true := fun t ht => GeL_mem hO ht
  have e0 : colOW w x og oa tr fa Y O F R = uI (genW (cutY w tr fa Y O F R) og oa (O.filter (inL R))) x 5 (wI w x 5 + 1) := rfl
  rw [e0]
  generalize cutY w tr fa Y O F R = w3 at hK c1 c2 c3 c4 c5 c6 c7 c8 c9 d1 d2 d3 d4 d5 htg hsz hszw ⊢
  have nx : ∀ {b : Nat} {d : Kd}, wK w b = some d → d ≠ .inl 0 → b ≠ x := fun hb hd e => by rw [e, hRg.1] at hb; cases hb; exact hd rfl
  have no : ∀ {b : Nat} {d : Kd}, wK w b = some d → d ≠ .inl 1 → b ≠ og := fun hb hd e => by rw [e, hoO.1] at hb; cases hb; exact hd rfl
  have na : ∀ {b : Nat} {d : Kd}, wK w b = some d → d ≠ .inr (4, lo) → b ≠ oa := fun hb hd e => by rw [e, hoO.2.2.1] at hb; cases hb; exact hd rfl
  have ip : ∀ {b k : Nat}, b ≠ oa → wP (uI (genW w3 og oa (O.filter (inL R))) x 5 (wI w x 5 + 1)) b k = wP w3 b k := fun h => by rw [wP_uI, genW_ptr (Or.inl h)]
  have ii : ∀ {b k : Nat}, b ≠ x ∨ k ≠ 5 → (b ≠ og ∨ (k ≠ 2 ∧ k ≠ 3)) → wI (uI (genW w3 og oa (O.filter (inL R))) x 5 (wI w x 5 + 1)) b k = wI w3 b k := fun h1 h2 => by
    rw [wI_uI, if_neg (by rintro ⟨e1, e2⟩; rcases h1 with h | h; exact h e1; exact h e2), genW_int h2]
  have iT : ∀ {t k : Nat}, isTb w t = true → wI (uI (genW w3 og oa (O.filter (inL R))) x 5 (wI w x 5 + 1)) t k = wI w3 t k := fun ht => ii (Or.inl (isTb_ne ht hRg.1 (by decide))) (Or.inl (isTb_ne ht hoO.1 (by decide)))
  have hK' : ∀ b, wK (uI (genW w3 og oa (O.filter (inL R))) x 5 (wI w x 5 + 1)) b = wK w3 b := fun _ => rfl
  have z0 : ∀ t, wI (uI (genW w3 og oa (O.filter (inL R))) x 5 (wI w x 5 + 1)) t 0 = wI w3 t 0 := fun t => ii (Or.inr (by decide)) (Or.inr (by decide))
  have hcnt : wI (uI (genW w3 og oa (O.filter (inL R))) x 5 (wI w x 5 + 1)) og 2 = nI (O.filter (inL R)).length := by rw [wI_uI, if_neg (by simp), genW_cnt]
  have htak : wI (uI (genW w3 og oa (O.filter (inL R))) x 5 (wI w x 5 + 1)) og 3 = sumI w3 (O.filter (inL R)) := by rw [wI_uI, if_neg (by simp), genW_tak]
  have hrow : ∀ i t, (O.filter (inL R))[i]? = some t → wP (uI (genW w3 og oa (O.filter (inL R))) x 5 (wI w x 5 + 1)) oa i = some t := fun i t hi => by rw [wP_uI]; exact genW_row hi
  generalize uI (genW w3 og oa (O.filter (inL R))) x 5 (wI w x 5 + 1) = w' at ip ii iT hK' z0 hcnt htak hrow ⊢
  have hKK : ∀ b, wK w' b = wK w b := fun b => (hK' b).trans (hK b)
  have hTT : ∀ t, isTb w' t = isTb w t := fun t => isTb_congr hKK t
  have ssz : ∀ zs, sumI w' zs = sumI w zs := fun zs => (sumI_congr (fun t _ => z0 t)).trans (hsz zs)
  have szz : szw w' = szw w := (funext fun t => szw_congr (z0 t)).trans hszw
  have hP3 : ∀ t, wK w3 t = some (.inl 3) → wP w' t 3 = wP w3 t 3 := fun t ht => ip (na ((hK t).symm.trans ht) (by simp))
  have hA3 : ∀ c n, wK w3 c = some (.inr (3, n)) → ∀ i, wP w' c i = wP w3 c i := fun c n hc i => ip (na ((hK c).symm.trans hc) (by simp))
  have hsub : ∀ t ∈ O.filter (inL R), t ∈ O := fun t ht => (List.mem_filter.mp ht).1
  have hsuc : ∀ t, sucL w' t = sucL w t := fun t => (sucL_congr hK' hP3 hA3 c2 t).trans (d2 t)
  refine ⟨CS_congr hK' (fun k _ => ip (na hRg.1 (by simp))) (ip (na hyO.1 (by simp))) (ip (na hoO.1 (by simp))) (ip (na htr (by simp))) (z0 _) (z0 _) c1, HT_congr hK' (fun t _ => z0 t) hP3 hA3 ((hK rg).trans hRg.2.2.1) (fun t ht => Or.inl (ip (na ((hK t).symm.trans ht) (by simp)))) c2, ?_, ?_, ?_, ?_, ?_, ?_, ?_, ?_, ?_⟩
  · exact GeL_congr hK' (ip (na hyO.1 (by simp))) (ii (Or.inl (nx hyO.1 (by simp))) (Or.inl hgg)) (fun i => ip hya) c3
  · exact ⟨GeO_congr hKK ((ip (na hoO.1 (by simp))).trans (c4.1.2.1.trans hoO.2.1.symm)) hoO, hcnt, Nat.le_trans (List.length_filter_le _ _) hO.2.2.1, fun i t hi => ⟨hrow i t hi, (hTT t).trans (hOT t (hsub t (List.mem_of_getElem? hi)))⟩⟩
  · rw [ssz, ii (Or.inl (nx hyO.1 (by simp))) (Or.inl hgg), c8]; exact hty
  · rw [ssz, htak, hsz]
  · rw [List.nodup_append] at hnd ⊢
    exact ⟨hnd.1, hnd.2.1.sublist List.filter_sublist, fun a ha b hb => hnd.2.2 a ha b (hsub b hb)⟩
  · rw [szz]; exact ⟨hsum.1, Nat.le_trans (sum_filt O) hsum.2⟩
  · refine ⟨(ii (Or.inl (nx htr (by simp))) (Or.inl (no htr (by simp)))).trans d4, ?_, fun i t hi => (ip (Ne.symm hof)).trans (d5 i t hi), fun t ht => (hTT t).trans (hRT t ht), fun t ht => ?_⟩
    · have a1 := hR.1.length_le_of_subset (fun t ht => hR.2.1 t ht)
      have a2 := sz_len (w := w) (xs := Y) (fun t ht => (HT_sz hT (hYT t ht)).2.1)
      have a3 := sz_len (w := w) (xs := O) (fun t ht => (HT_sz hT (hOT t ht)).2.1)
      rw [List.length_append] at a1
      omega
    · rw [hTT] at ht
      rw [iT ht]; exact c7 t ht
  · exact ⟨fun t ht => by rw [iT (hYT t ht), c6 t (hYT t ht)]; exact hol.1 t ht, fun t ht => by rw [iT (hOT t (hsub t ht)), c6 t (hOT t (hsub t ht))]; exact hol.2 t (hsub t ht)⟩
  · refine ⟨hR.1, fun t ht => ?_, fun t ht => ?_, fun r hr => ?_, fun t ht o ho u e hu => ?_, fun t ht u hk e => ?_⟩
    · rcases List.mem_append.mp (hR.2.1 t ht) with h | h
      · exact List.mem_append_left _ h
      · exact List.mem_append_right _ (List.mem_filter.mpr ⟨h, by simp [inL, ht]⟩)
    · have := (List.mem_filter.mp ht).2; simpa [inL] using this
    · rw [ip (na hRg.2.2.1 (by simp)), d3 r]; exact oB_congr hKK (hR.2.2.1 r hr)
    · rw [hsuc] at ho
      rw [hTT] at hu
      exact hR.2.2.2 t ht u (by rw [← e]; exact ho) hu
    · rw [hKK] at hk
      rw [ip (na hk (by simp)), htg t hk (hR.2.1 t ht)] at e
      cases ho : wP w t 3 with
      | none => rw [ho] at e; cases e
      | some v =>
        rw [ho, fil] at e
        split at e
        · cases e; assumption
        · cases e
end CP
end
section
/-! collectYoung -/
def sumN (w : Wd) (xs : List Nat) : Nat := (xs.map (szw w)).sum
theorem sumI_N (w : Wd) (xs : List Nat) : sumI w xs = nI (sumN w xs) := rfl
/-- what a small collection's search finds -/
def colS (w : Wd) (rg nr N tr oa : Nat) (O F : List Nat) : List Nat := flw (rsW w tr F) N 0 (fnds (rsW w tr F) (fnds (rsW w tr F) [] (rowL (rsW w tr F) rg nr)) (rowL (rsW w tr F) oa O.length))
def colYW (w : Wd) (x yg ya og oa tr fa : Nat) (Y O F R : List Nat) : Wd := uI (genW (genW (oldF (cutY w tr fa Y O F R) (Y.filter (inL R))) og oa (O ++ Y.filter (inL R))) yg ya []) x 4 (wI w x 4 + 1)
section CY
variable {l : Launch} {Δ : Dat} {w : Wd} {x rg nr yg ya ly og oa lo tr fa : Nat} {Y O F G R : List Nat}
theorem CI_olds (H : CI w x rg nr yg ya ly og oa lo tr fa Y O F G) : ∀ o ∈ rowL (rsW w tr F) oa O.length, ∃ t, o = some t ∧ t ∈ O := by
  intro o ho
  obtain ⟨i, hi, e⟩ := rowL_mem.mp ho
  obtain ⟨t, ht⟩ := at_lt hi
  have := (H.2.2.2.1.2.2.2 i t ht).1
  exact ⟨t, by rw [← e]; exact this, List.mem_of_getElem? ht⟩
theorem CI_olds2 (H : CI w x rg nr yg ya ly og oa lo tr fa Y O F G) : ∀ o ∈ rowL (rsW w tr F) oa O.length, oV (rsW w tr F) o ∧ oB (rsW w tr F) G o := by
  intro o ho
  obtain ⟨t, rfl, ht⟩ := CI_olds H o ho
  exact ⟨fun u e => by cases e; exact Or.inl (GeL_mem H.2.2.2.1 ht), fun u e _ => by cases e; exact H.2.2.2.2.2.2.2.2.2.2.2.2.1 t ht⟩
theorem CI_colS (H : CI w x rg nr yg ya ly og oa lo tr fa Y O F G) : RC w rg nr Y O (colS w rg nr (ly + lo) tr oa O F) ∧ (∀ t ∈ O, t ∈ colS w rg nr (ly + lo) tr oa O F) ∧ ∀ t, t ∈ colS w rg nr (ly + lo) tr oa O F ↔ Rc w (fun u => (∃ r, r < nr ∧ wP w rg r = some u ∧ isTb w u = true) ∨ u ∈ O) t := by
  have hlen := CI_len H
  have hBC := CI_BC H
  have hregs := CI_regs H
  have hold := CI_olds2 H
  have hold1 := CI_olds H
  obtain ⟨-, -, -, hO, -, -, -, -, -, -, hG⟩ := H
  have hb0 : Bd G (fnds (rsW w tr F) [] (rowL (rsW w tr F) rg nr)) := fnds_bd (fun o ho => (hregs o ho).2) ⟨List.nodup_nil, fun _ h => nomatch h⟩
  have hb1 : Bd G (fnds (rsW w tr F) (fnds (rsW w tr F) [] (rowL (rsW w tr F) rg nr)) (rowL (rsW w tr F) oa O.length)) := fnds_bd (fun o ho => (hold o ho).2) hb0
  obtain ⟨h1, zs, h2⟩ := flw_closed hBC hlen (ly + lo) 0 _ (by omega) hb1 (fun j t hj => by omega)
  have hbR : Bd G (colS w rg nr (ly + lo) tr oa O F) := flw_bd hBC _ _ hb1
  have e1 : ∀ u, u ∈ fnds (rsW w tr F) (fnds (rsW w tr F) [] (rowL (rsW w tr F) rg nr)) (rowL (rsW w tr F) oa O.length) ↔ (∃ r, r < nr ∧ wP w rg r = some u ∧ isTb w u = true) ∨ u ∈ O := by
    intro u
    rw [fnds_mem, fnds_mem]
    constructor
    · rintro ((h | ⟨h, hT⟩) | ⟨h, hT⟩)
      · cases h
      · obtain ⟨i, hi, e⟩ := rowL_mem.mp h
        exact Or.inl ⟨i, hi, e, hT⟩
      · obtain ⟨t, e, ht⟩ := hold1 _ h
        cases e
        exact Or.inr ht
    · rintro (⟨i, hi, e, hT⟩ | h)
      · exact Or.inl (Or.inr ⟨rowL_mem.mpr ⟨i, hi, e⟩, hT⟩)
      · obtain ⟨i, hi⟩ := List.getElem?_of_mem h
        exact Or.inr ⟨rowL_mem.mpr ⟨i, (List.getElem?_eq_some_iff.mp hi).1, (hO.2.2.2 i u hi).1⟩, GeL_mem hO h⟩
  have sub : ∀ u, ((∃ r, r < nr ∧ wP w rg r = some u ∧ isTb w u = true) ∨ u ∈ O) → u ∈ colS w rg nr (ly + lo) tr oa O F := fun u hu => by
    show u ∈ flw _ _ _ _
    rw [h2]
    exact List.mem_append_left _ ((e1 u).mpr hu)
  refine ⟨⟨hbR.1, fun t ht => hG.2.1 t (hbR.2 t ht), fun r hr t e hT => sub t (Or.inl ⟨r, hr, e, hT⟩), fun t ht => h1 t ht⟩, fun t ht => sub t (Or.inr ht), fun t => ?_⟩
  show t ∈ flw _ _ _ _ ↔ _
  rw [flw_mem hBC hlen hb1]
  have e2 : (fun u => u ∈ fnds (rsW w tr F) (fnds (rsW w tr F) [] (rowL (rsW w tr F) rg nr)) (rowL (rsW w tr F) oa O.length)) = fun u => (∃ r, r < nr ∧ wP w rg r = some u ∧ isTb w u = true) ∨ u ∈ O := funext fun u => propext (e1 u)
  rw [e2]
  exact Iff.rfl
theorem free_eq {a b : Nat} (h : b ≤ a) : nI a - nI b = nI (a - b) := pk_sub h
set_option maxRecDepth 100000 in
set_option maxHeartbeats 1000000 in
/-- collectYoung from its search on -/
theorem young2 {Γ : Cxt} {w00 : Wd} {post : Option Value → Wd → Prop} (X : Cx Γ Δ (AE Γ w00) l c_TG_collectYoung "TwoGenerations" 2 (rmL 4 0 0) (some .int) "collectYoung") (H : CI w x rg nr yg ya ly og oa lo tr fa Y O F G)
    (hp1 : lo - sumN w O < sumN w (Y.filter (inL (colS w rg nr (ly + lo) tr oa O F))) → post (some (.int (-1))) (trW (rsW w tr F) tr fa (colS w rg nr (ly + lo) tr oa O F)))
    (hp2 : sumN w (Y.filter (inL (colS w rg nr (ly + lo) tr oa O F))) ≤ lo - sumN w O → post (some (.int (nI (sumN w (Y.filter (inL (colS w rg nr (ly + lo) tr oa O F))))))) (colYW w x yg ya og oa tr fa Y O F (colS w rg nr (ly + lo) tr oa O F))) :
    J Γ Δ (AE Γ w00) 2 w 0 0 (QE Γ Δ w00 post (rmL 4 0 0)) 22 [some (.ref x), none] [] := by
  have hlen := CI_len H
  have hTrO := CI_TrO H
  have hBC := CI_BC H
  have hregs := CI_regs H
  have hold := CI_olds2 H
  have hGT : ∀ t ∈ G, isTb w t = true := fun t ht => CI_G H ht
  have hCut := fun R hR => CI_cut (R := R) H hR
  have hI := H
  obtain ⟨hS, hT, hY, hO, hty, hto, hnd, hsum, hF, hol, hG⟩ := H
  have hRC := (CI_colS hI).1
  obtain ⟨hRg, hnr, h1, h2, h3, hyO, hoO, hl1, hl2, hly, hlo, htr, htf, hfk, hgg, hya, hyf, hof⟩ := hS
  have hx := hRg.1
  have hFT := hF.2.2.2.1
  have hxfa : x ≠ fa := fun e => by rw [e, hfk] at hx; cases hx
  have hxtr : x ≠ tr := fun e => by rw [e, htr] at hx; cases hx
  have hogfa : og ≠ fa := fun e => by have := hoO.1; rw [e, hfk] at this; cases this
  have hogtr : og ≠ tr := fun e => by have := hoO.1; rw [e, htr] at this; cases this
  have hxog : x ≠ og := fun e => by have := hoO.1; rw [← e, hx] at this; cases this
  have hxyg : x ≠ yg := fun e => by have := hyO.1; rw [← e, hx] at this; cases this
  have hxoa : x ≠ oa := fun e => by have := hoO.2.2.1; rw [← e, hx] at this; cases this
  have hxya : x ≠ ya := fun e => by have := hyO.2.2.1; rw [← e, hx] at this; cases this
  have hb0 : Bd G (fnds (rsW w tr F) [] (rowL (rsW w tr F) rg nr)) := fnds_bd (fun o ho => (hregs o ho).2) ⟨List.nodup_nil, fun _ h => nomatch h⟩
  have hb1 : Bd G (fnds (rsW w tr F) (fnds (rsW w tr F) [] (rowL (rsW w tr F) rg nr)) (rowL (rsW w tr F) oa O.length)) := fnds_bd (fun o ho => (hold o ho).2) hb0
  have hbR : Bd G (colS w rg nr (ly + lo) tr oa O F) := flw_bd hBC _ _ hb1
  have hRT : ∀ t ∈ colS w rg nr (ly + lo) tr oa O F, isTb w t = true := fun t ht => hGT t (hbR.2 t ht)
  have hOT : ∀ t ∈ O, isTb w t = true := fun t ht => GeL_mem hO ht
  have hYT : ∀ t ∈ Y, isTb w t = true := fun t ht => GeL_mem hY ht
  rw [List.nodup_append] at hnd
  first | refine J_aload_nr X d_TG_collectYoung_22 rfl rfl ?_ | refine J_aload_n X d_TG_collectYoung_22 rfl rfl ?_ | refine J_aload_n0 X d_TG_collectYoung_22 rfl rfl ?_
  refine J_getR X (hx) fa_TG_38_0 rfl (h3) d_TG_collectYoung_23 ?_
  refine J_callV X (htr) rfl (k_restart (xs := F) htr htf hfk (by omega) hF.2.1 hF.1 hF.2.2.1 hFT) cd_Tr_restart lk_TG_115 vi_Tr_restart (by decide) (by decide) (by decide) (by decide) rfl (by first | decide | simp [va_rf_cat, vc_r, vc_i, vc_0]) d_TG_collectYoung_26 (fun r w1 hr => ?_)
  obtain ⟨rfl, rfl⟩ := hr
  refine J_eq (w' := trW (rsW w tr F) tr fa []) rsW_nil.symm rfl ?_
  first | refine J_aload_nr X d_TG_collectYoung_29 rfl rfl ?_ | refine J_aload_n X d_TG_collectYoung_29 rfl rfl ?_ | refine J_aload_n0 X d_TG_collectYoung_29 rfl rfl ?_
  refine J_callV X (hx) rfl (k_findRegisters (w := rsW w tr F) (B := G) (xs := []) hTrO hlen ⟨List.nodup_nil, fun _ h => nomatch h⟩ hx hRg.2.1 h3 hRg.2.2.1 (by omega) (fun o ho => (hregs o ho).1) (fun o ho => (hregs o ho).2)) cd_TG_findRegisters lk_TG_158 vi_TG_findRegisters (by decide) (by decide) (by decide) (by decide) rfl (by first | decide | simp [va_rf_cat, vc_r, vc_i, vc_0]) d_TG_collectYoung_30 (fun r w1 hr => ?_)
  obtain ⟨rfl, rfl⟩ := hr
  have a3 : wP (trW (rsW w tr F) tr fa (fnds (rsW w tr F) [] (rowL (rsW w tr F) rg nr))) x 3 = some tr := (trW_ptr (w := rsW w tr F) hxfa).trans h3
  have a2 : wP (trW (rsW w tr F) tr fa (fnds (rsW w tr F) [] (rowL (rsW w tr F) rg nr))) x 2 = some og := (trW_ptr (w := rsW w tr F) hxfa).trans h2
  have ocnt : wI (rsW w tr F) og 2 = nI O.length := (rsW_int (Or.inl hogtr) (Or.inr (notT hFT hoO.1 (by decide)))).trans hO.2.1
  first | refine J_aload_nr X d_TG_collectYoung_33 rfl rfl ?_ | refine J_aload_n X d_TG_collectYoung_33 rfl rfl ?_ | refine J_aload_n0 X d_TG_collectYoung_33 rfl rfl ?_
  refine J_getR X (hx) fa_TG_38_0 rfl (a3) d_TG_collectYoung_34 ?_
  first | refine J_aload_nr X d_TG_collectYoung_37 rfl rfl ?_ | refine J_aload_n X d_TG_collectYoung_37 rfl rfl ?_ | refine J_aload_n0 X d_TG_collectYoung_37 rfl rfl ?_
  refine J_getR X (hx) fa_TG_28_0 rfl (a2) d_TG_collectYoung_38 ?_
  refine J_callV X (htr) rfl (k_findAll (w := rsW w tr F) (B := G) hTrO (fun b hb => hGT b hb) hlen hb0 hoO.1 hoO.2.1 hoO.2.2.1 ocnt hO.2.2.1 (by omega) hof (fun o ho => (hold o ho).1) (fun o ho => (hold o ho).2)) cd_Tr_findAll lk_TG_161 vi_Tr_findAll (by decide) (by decide) (by decide) (by decide) rfl (by first | decide | simp [va_rf_cat, vc_r, vc_i, vc_0]) d_TG_collectYoung_41 (fun r w1 hr => ?_)
  obtain ⟨rfl, rfl⟩ := hr
  have a4 : wP (trW (rsW w tr F) tr fa (fnds (rsW w tr F) (fnds (rsW w tr F) [] (rowL (rsW w tr F) rg nr)) (rowL (rsW w tr F) oa O.length))) x 3 = some tr := (trW_ptr (w := rsW w tr F) hxfa).trans h3
  first | refine J_aload_nr X d_TG_collectYoung_44 rfl rfl ?_ | refine J_aload_n X d_TG_collectYoung_44 rfl rfl ?_ | refine J_aload_n0 X d_TG_collectYoung_44 rfl rfl ?_
  refine J_getR X (hx) fa_TG_38_0 rfl (a4) d_TG_collectYoung_45 ?_
  refine J_callV X (htr) rfl (k_follow (w := rsW w tr F) (B := G) hTrO (by omega) hlen hBC hb1) cd_Tr_follow lk_TG_122 vi_Tr_follow (by decide) (by decide) (by decide) (by decide) rfl (by first | decide | simp [va_rf_cat, vc_r, vc_i, vc_0]) d_TG_collectYoung_48 (fun r w1 hr => ?_)
  obtain ⟨rfl, rfl⟩ := hr
  refine J_eq (w' := trW (rsW w tr F) tr fa (colS w rg nr (ly + lo) tr oa O F)) rfl rfl ?_
  generalize hRe : colS w rg nr (ly + lo) tr oa O F = R at hbR hRT hp1 hp2 hRC ⊢
  have hcutY : cutW (cutW (trW (rsW w tr F) tr fa R) Y) O = cutY w tr fa Y O F R := rfl
  obtain ⟨cK, cS, cT, cY, cO, c5, c6, c7, ⟨c8, c9⟩, d1, d2, d3, -⟩ := hCut R hRT
  have cxp : ∀ k, wP (cutY w tr fa Y O F R) x k = wP w x k := fun k => cutY_ptr hxfa (Or.inr (by rw [hx]; simp))
  have hfil3 : Y.filter (rch (cutY w tr fa Y O F R)) = Y.filter (inL R) := filt_rch (fun t ht => by
    rw [rch, c7 t (hYT t ht), inL]
    by_cases h : t ∈ R <;> simp [h])
  have f1 : wP (trW (rsW w tr F) tr fa R) x 1 = some yg := (trW_ptr (w := rsW w tr F) hxfa).trans h1
  have f2 : wP (trW (rsW w tr F) tr fa R) x 2 = some og := (trW_ptr (w := rsW w tr F) hxfa).trans h2
  have hY1 : GeL (trW (rsW w tr F) tr fa R) yg ya ly Y := GeL_tr hRT hFT htr hfk hyf hY
  have hO1 : GeL (trW (rsW w tr F) tr fa R) og oa lo O := GeL_tr hRT hFT htr hfk hof hO
  have hO2 : GeL (cutW (trW (rsW w tr F) tr fa R) Y) og oa lo O := GeL_cut hYT hO1
  have hw1 : ∀ b t, wK (trW (rsW w tr F) tr fa R) b = some (.inl 4) → wP (trW (rsW w tr F) tr fa R) b 3 = some t → isTb (trW (rsW w tr F) tr fa R) t = true := fun b t hb ht => by
    have hbf : b ≠ fa := fun e => by rw [e] at hb; exact absurd (hfk.symm.trans hb) (by simp)
    rw [trW_ptr hbf] at ht
    exact (hT.2.2.1 b hb).2 t ht
  have hw2 : ∀ b t, wK (cutW (trW (rsW w tr F) tr fa R) Y) b = some (.inl 4) → wP (cutW (trW (rsW w tr F) tr fa R) Y) b 3 = some t → isTb (cutW (trW (rsW w tr F) tr fa R) Y) t = true := fun b t hb ht => hw1 b t hb (cutW_tgt ht)
  have f3 : wP (cutW (trW (rsW w tr F) tr fa R) Y) x 2 = some og := (cutW_ptr (Or.inl (by decide))).trans f2
  have tI0 : ∀ b, wI (trW (rsW w tr F) tr fa R) b 0 = wI w b 0 := fun b => by rw [trW_int0, rsW_0]
  have tsz : ∀ t, isTb (trW (rsW w tr F) tr fa R) t = true → wI (trW (rsW w tr F) tr fa R) t 0 = nI (szw (trW (rsW w tr F) tr fa R) t) := fun t ht => by
    rw [tI0, szw_congr (tI0 t)]; exact (HT_sz hT ht).1
  have tfil : Y.filter (rch (trW (rsW w tr F) tr fa R)) = Y.filter (inL R) := filt_rch (fun t ht => tr_rch hF htr (hYT t ht))
  have tog3 : wI (trW (rsW w tr F) tr fa R) og 3 = wI w og 3 := tr_other hRT hFT hoO.1 (by decide) hogtr
  have tsum : sumI (trW (rsW w tr F) tr fa R) (Y.filter (inL R)) = nI (sumN w (Y.filter (inL R))) := sumI_congr (fun t _ => tI0 t)
  have tK : ∀ b, wK (trW (rsW w tr F) tr fa R) b = wK w b := fun _ => rfl
  generalize hw1e : trW (rsW w tr F) tr fa R = w1 at f1 f2 hY1 hO1 hO2 hw1 hw2 f3 tI0 tsz tfil tog3 tsum tK hcutY hp1 ⊢
  have k1x := (tK x).trans hx
  have k1y := (tK yg).trans hyO.1
  have k1o := (tK og).trans hoO.1
  first | refine J_aload_nr X d_TG_collectYoung_51 rfl rfl ?_ | refine J_aload_n X d_TG_collectYoung_51 rfl rfl ?_ | refine J_aload_n0 X d_TG_collectYoung_51 rfl rfl ?_
  refine J_getR X (k1x) fa_TG_24_0 rfl (f1) d_TG_collectYoung_52 ?_
  refine J_callV X (k1y) rfl (k_reachedCells hY1 tsz) cd_Gen_reachedCells lk_TG_165 vi_Gen_reachedCells (by decide) (by decide) (by decide) (by decide) rfl (by first | decide | simp [va_rf_cat, vc_r, vc_i, vc_0]) d_TG_collectYoung_55 (fun r w2 hr => ?_)
  obtain ⟨rfl, hw2e⟩ := hr
  refine J_eq hw2e rfl ?_
  rw [tfil, tsum]
  refine J_istore_n X d_TG_collectYoung_58 rfl (by decide) rfl ?_
  refine J_iload_n X d_TG_collectYoung_59 rfl rfl ?_
  first | refine J_aload_nr X d_TG_collectYoung_60 rfl rfl ?_ | refine J_aload_n X d_TG_collectYoung_60 rfl rfl ?_ | refine J_aload_n0 X d_TG_collectYoung_60 rfl rfl ?_
  refine J_getR X (k1x) fa_TG_28_0 rfl (f2) d_TG_collectYoung_61 ?_
  refine J_callV X (k1o) rfl (k_free k1o) cd_Gen_free lk_TG_152 vi_Gen_free (by decide) (by decide) (by decide) (by decide) rfl (by first | decide | simp [va_rf_cat, vc_r, vc_i, vc_0]) d_TG_collectYoung_64 (fun r w2 hr => ?_)
  obtain ⟨rfl, hw2e'⟩ := hr
  refine J_eq hw2e' rfl ?_
  have hfree : wI w1 og 0 - wI w1 og 3 = nI (lo - sumN w O) := by rw [tI0, hl2, tog3, hto, sumI_N, free_eq (show sumN w O ≤ lo from hsum.2)]
  rw [hfree]
  have b1 : sumN w (Y.filter (inL R)) ≤ 60 := Nat.le_trans (sum_filt Y) (Nat.le_trans hsum.1 hly.2)
  refine J_icmp_le (tgt := 72) X d_TG_collectYoung_67 (by decide) (fun g => ?_) (fun g => ?_)
  · have hle : sumN w (Y.filter (inL R)) ≤ lo - sumN w O := (nI_leI (by omega) (by omega)).mp g
    first | refine J_aload_nr X d_TG_collectYoung_72 rfl rfl ?_ | refine J_aload_n X d_TG_collectYoung_72 rfl rfl ?_ | refine J_aload_n0 X d_TG_collectYoung_72 rfl rfl ?_
    refine J_getR X (k1x) fa_TG_24_0 rfl (f1) d_TG_collectYoung_73 ?_
    refine J_callV X (k1y) rfl (k_cutTargets hY1 hnd.1 hw1) cd_Gen_cutTargets lk_TG_168 vi_Gen_cutTargets (by decide) (by decide) (by decide) (by decide) rfl (by first | decide | simp [va_rf_cat, vc_r, vc_i, vc_0]) d_TG_collectYoung_76 (fun r w2 hr => ?_)
    obtain ⟨rfl, rfl⟩ := hr
    have k2x : wK (cutW w1 Y) x = some (.inl 0) := k1x
    have k2o : wK (cutW w1 Y) og = some (.inl 1) := k1o
    first | refine J_aload_nr X d_TG_collectYoung_79 rfl rfl ?_ | refine J_aload_n X d_TG_collectYoung_79 rfl rfl ?_ | refine J_aload_n0 X d_TG_collectYoung_79 rfl rfl ?_
    refine J_getR X (k2x) fa_TG_28_0 rfl (f3) d_TG_collectYoung_80 ?_
    refine J_callV X (k2o) rfl (k_cutTargets hO2 hnd.2.1 hw2) cd_Gen_cutTargets lk_TG_168 vi_Gen_cutTargets (by decide) (by decide) (by decide) (by decide) rfl (by first | decide | simp [va_rf_cat, vc_r, vc_i, vc_0]) d_TG_collectYoung_83 (fun r w2 hr => ?_)
    obtain ⟨rfl, hw2c⟩ := hr
    refine J_eq (hw2c.trans hcutY) rfl ?_
    have cog3 : wI (cutY w tr fa Y O F R) og 3 = sumI (cutY w tr fa Y O F R) O := by rw [c9, hto]; exact (sumI_congr (fun t _ => c5 t)).symm
    have csz : ∀ t, isTb (cutY w tr fa Y O F R) t = true → wI (cutY w tr fa Y O F R) t 0 = nI (szw (cutY w tr fa Y O F R) t) := fun t ht => by
      rw [isTb_congr cK] at ht
      rw [c5, szw_congr (c5 t)]; exact (HT_sz hT ht).1
    have e5 : colYW w x yg ya og oa tr fa Y O F R = uI (genW (genW (oldF (cutY w tr fa Y O F R) (Y.filter (inL R))) og oa (O ++ Y.filter (inL R))) yg ya []) x 4 (wI w x 4 + 1) := rfl
    rw [e5] at hp2
    generalize hw3e : cutY w tr fa Y O F R = w3 at cK cS cT cY cO c5 c6 c7 c8 c9 d1 d2 d3 cxp hfil3 cog3 csz hp2 ⊢
    have k3x := (cK x).trans hx
    have k3y := (cK yg).trans hyO.1
    have k3o := (cK og).trans hoO.1
    have p1 := (cxp 1).trans h1
    have p2 := (cxp 2).trans h2
    have hroom : O.length + (Y.filter (rch w3)).length ≤ lo := by
      rw [hfil3]
      have a1 := sz_len (w := w) (xs := O) (fun t ht => (HT_sz hT (hOT t ht)).2.1)
      have a2 := sz_len (w := w) (xs := Y.filter (inL R)) (fun t ht => (HT_sz hT (hYT t (List.mem_filter.mp ht).1)).2.1)
      have a3 := hsum.2
      have a4 : ((Y.filter (inL R)).map (szw w)).sum ≤ lo - (O.map (szw w)).sum := hle
      omega
    first | refine J_aload_nr X d_TG_collectYoung_86 rfl rfl ?_ | refine J_aload_n X d_TG_collectYoung_86 rfl rfl ?_ | refine J_aload_n0 X d_TG_collectYoung_86 rfl rfl ?_
    refine J_getR X (k3x) fa_TG_28_0 rfl (p2) d_TG_collectYoung_87 ?_
    first | refine J_aload_nr X d_TG_collectYoung_90 rfl rfl ?_ | refine J_aload_n X d_TG_collectYoung_90 rfl rfl ?_ | refine J_aload_n0 X d_TG_collectYoung_90 rfl rfl ?_
    refine J_getR X (k3x) fa_TG_24_0 rfl (p1) d_TG_collectYoung_91 ?_
    refine J_callV X (k3o) rfl (k_adoptReached cO cY (Ne.symm hgg) (Ne.symm hya) cog3 hroom csz) cd_Gen_adoptReached lk_TG_171 vi_Gen_adoptReached (by decide) (by decide) (by decide) (by decide) rfl (by first | decide | simp [va_rf_cat, vc_r, vc_i, vc_0]) d_TG_collectYoung_94 (fun r w2 hr => ?_)
    obtain ⟨rfl, hw4⟩ := hr
    rw [hfil3] at hw4
    have k4x : wK w2 x = some (.inl 0) := by rw [hw4]; exact k3x
    have k4y : wK w2 yg = some (.inl 1) := by rw [hw4]; exact k3y
    have p4 : wP w2 x 1 = some yg := by rw [hw4, genW_ptr (Or.inl hxoa)]; exact p1
    have i4 : wI w2 x 4 = wI w x 4 := by rw [hw4, genW_int (Or.inl hxog), oldF_int (by decide)]; exact d1 4
    first | refine J_aload_nr X d_TG_collectYoung_97 rfl rfl ?_ | refine J_aload_n X d_TG_collectYoung_97 rfl rfl ?_ | refine J_aload_n0 X d_TG_collectYoung_97 rfl rfl ?_
    refine J_getR X (k4x) fa_TG_24_0 rfl (p4) d_TG_collectYoung_98 ?_
    refine J_callV X (k4y) rfl (k_empty k4y) cd_Gen_empty lk_TG_174 vi_Gen_empty (by decide) (by decide) (by decide) (by decide) rfl (by first | decide | simp [va_rf_cat, vc_r, vc_i, vc_0]) d_TG_collectYoung_101 (fun r w5 hr => ?_)
    obtain ⟨rfl, hw5⟩ := hr
    rw [genW_nil w2 yg ya] at hw5
    have k5x : wK w5 x = some (.inl 0) := by rw [hw5]; exact k4x
    have i5 : wI w5 x 4 = wI w x 4 := by rw [hw5, genW_int (Or.inl hxyg)]; exact i4
    first | refine J_aload_nr X d_TG_collectYoung_104 rfl rfl ?_ | refine J_aload_n X d_TG_collectYoung_104 rfl rfl ?_ | refine J_aload_n0 X d_TG_collectYoung_104 rfl rfl ?_
    refine J_dup X d_TG_collectYoung_105 (rfl) ?_
    refine J_getI X (k5x) fa_TG_143_0 rfl (i5) d_TG_collectYoung_106 ?_
    refine J_iconst (v := 1) X d_TG_collectYoung_109 (by decide) ?_
    refine J_iadd X d_TG_collectYoung_110 ?_
    refine J_putI X (k5x) fp_TG_143_0 rfl d_TG_collectYoung_111 ?_
    refine J_iload_n X d_TG_collectYoung_114 rfl rfl ?_
    refine J_iret X ?_ (by decide) (by decide) d_TG_collectYoung_115
    have := hp2 hle
    rw [← hw4, ← hw5] at this
    exact this
  · have hlt : lo - sumN w O < sumN w (Y.filter (inL R)) := Nat.lt_of_not_le (fun q => g ((nI_leI (by omega) (by omega)).mpr q))
    refine J_iconst (v := -1) X d_TG_collectYoung_70 (by decide) ?_
    exact J_iret X (hp1 hlt) (by decide) (by decide) d_TG_collectYoung_71
/-- the great collection that may go ahead of a small one -/
def St1 (w wA : Wd) (x rg nr ly og oa lo tr fa : Nat) (Y O F G O1 F1 G1 : List Nat) : Prop := (sumN w Y ≤ lo - sumN w O ∧ wA = w ∧ O1 = O ∧ F1 = F ∧ G1 = G) ∨ (lo - sumN w O < sumN w Y ∧ wA = colOW w x og oa tr fa Y O F (colR w rg nr (ly + lo) tr F) ∧ O1 = O.filter (inL (colR w rg nr (ly + lo) tr F)) ∧ F1 = colR w rg nr (ly + lo) tr F ∧ G1 = colR w rg nr (ly + lo) tr F)
/-- the small collection's end: it fails, or it grows the old -/
def YoP (w : Wd) (x rg nr yg ya ly og oa lo tr fa : Nat) (Y O F : List Nat) (r : Option Value) (w' : Wd) : Prop :=
  (lo - sumN w O < sumN w (Y.filter (inL (colS w rg nr (ly + lo) tr oa O F))) ∧ r = some (.int (-1)) ∧ w' = trW (rsW w tr F) tr fa (colS w rg nr (ly + lo) tr oa O F)) ∨
  (sumN w (Y.filter (inL (colS w rg nr (ly + lo) tr oa O F))) ≤ lo - sumN w O ∧ r = some (.int (nI (sumN w (Y.filter (inL (colS w rg nr (ly + lo) tr oa O F)))))) ∧ w' = colYW w x yg ya og oa tr fa Y O F (colS w rg nr (ly + lo) tr oa O F))
theorem St1_CI {wA : Wd} {O1 F1 G1 : List Nat} (H : CI w x rg nr yg ya ly og oa lo tr fa Y O F G) (h : St1 w wA x rg nr ly og oa lo tr fa Y O F G O1 F1 G1) : CI wA x rg nr yg ya ly og oa lo tr fa Y O1 F1 G1 := by
  rcases h with ⟨-, rfl, rfl, rfl, rfl⟩ | ⟨-, rfl, rfl, rfl, rfl⟩
  · exact H
  · exact CI_colO H (CI_colR H).1
set_option maxRecDepth 100000 in
set_option maxHeartbeats 1000000 in
theorem k_collectYoung (H : CI w x rg nr yg ya ly og oa lo tr fa Y O F G) :
    Ct l y_TG_collectYoung h_TG_collectYoung (rmL 4 0 0) Δ [.ref x] w (fun r w' => ∃ wA O1 F1 G1, St1 w wA x rg nr ly og oa lo tr fa Y O F G O1 F1 G1 ∧ YoP wA x rg nr yg ya ly og oa lo tr fa Y O1 F1 r w') := by
  have hI := H
  obtain ⟨hS, hT, hY, hO, hty, hto, hnd, hsum, hF, hol, hG⟩ := H
  obtain ⟨hRg, hnr, h1, h2, h3, hyO, hoO, hl1, hl2, hly, hlo, htr, htf, hfk, hgg, hya, hyf, hof⟩ := hS
  have hx := hRg.1
  have ty : wI w yg 3 = nI (sumN w Y) := hty
  refine Ct_of (L := [some (.ref x), none]) (by decide) (by first | exact Nat.le_of_ble_eq_true rfl | simp [lg_sl, va_rf_cat, vc_r, vc_i, vc_0]) (by first | rfl | simp [lin, va_rf_cat, vc_r, vc_i, vc_0]) (fun Γ X => ?_)
  first | refine J_aload_nr X d_TG_collectYoung_0 rfl rfl ?_ | refine J_aload_n X d_TG_collectYoung_0 rfl rfl ?_ | refine J_aload_n0 X d_TG_collectYoung_0 rfl rfl ?_
  refine J_getR X (hx) fa_TG_28_0 rfl (h2) d_TG_collectYoung_1 ?_
  refine J_callV X (hoO.1) rfl (k_free hoO.1) cd_Gen_free lk_TG_152 vi_Gen_free (by decide) (by decide) (by decide) (by decide) rfl (by first | decide | simp [va_rf_cat, vc_r, vc_i, vc_0]) d_TG_collectYoung_4 (fun r w1 hr => ?_)
  obtain ⟨rfl, hw1⟩ := hr
  refine J_eq hw1 rfl ?_
  have hfree : wI w og 0 - wI w og 3 = nI (lo - sumN w O) := by rw [hl2, hto, sumI_N, free_eq (show sumN w O ≤ lo from hsum.2)]
  rw [hfree]
  first | refine J_aload_nr X d_TG_collectYoung_7 rfl rfl ?_ | refine J_aload_n X d_TG_collectYoung_7 rfl rfl ?_ | refine J_aload_n0 X d_TG_collectYoung_7 rfl rfl ?_
  refine J_getR X (hx) fa_TG_24_0 rfl (h1) d_TG_collectYoung_8 ?_
  refine J_getI X (hyO.1) fa_TG_140_1 rfl (ty) d_TG_collectYoung_11 ?_
  have b1 : sumN w Y ≤ 60 := Nat.le_trans hsum.1 hly.2
  refine J_icmp_ge (tgt := 22) X d_TG_collectYoung_14 (by decide) (fun g => ?_) (fun g => ?_)
  · have hle : sumN w Y ≤ lo - sumN w O := (nI_leI (by omega) (by omega)).mp g
    refine J_widen (c2 := 0) (s2 := 0) (by decide) (by decide) ?_
    exact young2 X hI (fun h => ⟨w, O, F, G, Or.inl ⟨hle, rfl, rfl, rfl, rfl⟩, Or.inl ⟨h, rfl, rfl⟩⟩) (fun h => ⟨w, O, F, G, Or.inl ⟨hle, rfl, rfl, rfl, rfl⟩, Or.inr ⟨h, rfl, rfl⟩⟩)
  · have hlt : lo - sumN w O < sumN w Y := Nat.lt_of_not_le (fun q => g ((nI_leI (by omega) (by omega)).mpr q))
    first | refine J_aload_nr X d_TG_collectYoung_17 rfl rfl ?_ | refine J_aload_n X d_TG_collectYoung_17 rfl rfl ?_ | refine J_aload_n0 X d_TG_collectYoung_17 rfl rfl ?_
    refine J_callV X (hx) rfl (k_collectOld hI) cd_TG_collectOld lk_TG_137 vi_TG_collectOld (by decide) (by decide) (by decide) (by decide) rfl (by first | decide | simp [va_rf_cat, vc_r, vc_i, vc_0]) d_TG_collectYoung_18 (fun r w2 hr => ?_)
    obtain ⟨rfl, hw2⟩ := hr
    refine J_pop X d_TG_collectYoung_21 (rfl) ?_
    refine J_eq hw2 rfl ?_
    refine J_widen (c2 := 0) (s2 := 0) (by decide) (by decide) ?_
    exact young2 X (CI_colO hI (CI_colR hI).1) (fun h => ⟨_, _, _, _, Or.inr ⟨hlt, rfl, rfl, rfl, rfl⟩, Or.inl ⟨h, rfl, rfl⟩⟩) (fun h => ⟨_, _, _, _, Or.inr ⟨hlt, rfl, rfl, rfl, rfl⟩, Or.inr ⟨h, rfl, rfl⟩⟩)
end CY
end
section
/-! the state behind a search; behind a small collection -/
section YC
variable {w : Wd} {x rg nr yg ya ly og oa lo tr fa : Nat} {Y O F G R : List Nat}
theorem CI_tr (H : CI w x rg nr yg ya ly og oa lo tr fa Y O F G) (hRl : R.length ≤ ly + lo) (hRT : ∀ t ∈ R, isTb w t = true) : CI (trW (rsW w tr F) tr fa R) x rg nr yg ya ly og oa lo tr fa Y O R G := by
  obtain ⟨hS, hT, hY, hO, hty, hto, hnd, hsum, hF, hol, hG⟩ := H
  have hS' := hS
  obtain ⟨hRg, hnr, h1, h2, h3, hyO, hoO, -, -, hly, hlo, htr, htf, hfk, hgg, hya, hyf, hof⟩ := hS'
  have hFT := hF.2.2.2.1
  have nf : ∀ {b : Nat} {d : Kd}, wK w b = some d → d ≠ .inr (4, ly + lo) → b ≠ fa := fun hb hd e => by rw [e, hfk] at hb; cases hb; exact hd rfl
  have nt : ∀ {b : Nat} {d : Kd}, wK w b = some d → d ≠ .inl 2 → b ≠ tr := fun hb hd e => by rw [e, htr] at hb; cases hb; exact hd rfl
  have ip : ∀ {b k : Nat}, b ≠ fa → wP (trW (rsW w tr F) tr fa R) b k = wP w b k := fun h => trW_ptr (w := rsW w tr F) h
  have hK : ∀ b, wK (trW (rsW w tr F) tr fa R) b = wK w b := fun _ => rfl
  have z0 : ∀ b, wI (trW (rsW w tr F) tr fa R) b 0 = wI w b 0 := fun b => by rw [trW_int0, rsW_0]
  have z1 : ∀ t, isTb w t = true → wI (trW (rsW w tr F) tr fa R) t 1 = wI w t 1 := fun t ht => by
    rw [trW_int (isTb_ne ht htr (by decide)) (by decide), rsW_int (Or.inl (isTb_ne ht htr (by decide))) (Or.inl (by decide))]
  have z2 : ∀ t, isTb w t = true → wI (trW (rsW w tr F) tr fa R) t 2 = if t ∈ R then 1 else 0 := fun t ht => tr_flag hF htr ht
  have hoth : ∀ {b : Nat} {d : Kd} (k : Nat), wK w b = some d → (d ≠ .inl 3 ∧ d ≠ .inl 4) → d ≠ .inl 2 → wI (trW (rsW w tr F) tr fa R) b k = wI w b k := fun k hb hd h2 => tr_other hRT hFT hb hd (nt hb h2)
  have t1 : wI (trW (rsW w tr F) tr fa R) tr 1 = nI R.length := trW_cnt _ _ _ _
  have t2 : ∀ i t, R[i]? = some t → wP (trW (rsW w tr F) tr fa R) fa i = some t := fun i t hi => trW_fa hi
  generalize trW (rsW w tr F) tr fa R = w' at ip hK z0 z1 z2 hoth t1 t2 ⊢
  have hP : ∀ t, wK w t = some (.inl 3) → wP w' t 3 = wP w t 3 := fun t ht => ip (nf ht (by simp))
  have hA : ∀ c n, wK w c = some (.inr (3, n)) → ∀ i, wP w' c i = wP w c i := fun c n hc i => ip (nf hc (by simp))
  have ssz : ∀ zs, sumI w' zs = sumI w zs := fun zs => sumI_congr (fun t _ => z0 t)
  have szz : szw w' = szw w := funext fun t => szw_congr (z0 t)
  have hTT : ∀ t, isTb w' t = isTb w t := fun t => isTb_congr hK t
  refine ⟨CS_congr hK (fun k _ => ip (nf hRg.1 (by simp))) (ip (nf hyO.1 (by simp))) (ip (nf hoO.1 (by simp))) (ip (nf htr (by simp))) (z0 _) (z0 _) hS, HT_congr hK (fun t _ => z0 t) hP hA hRg.2.2.1 (fun t ht => Or.inl (ip (nf ht (by simp)))) hT, GeL_congr hK (ip (nf hyO.1 (by simp))) (hoth 2 hyO.1 (by simp) (by simp)) (fun i => ip hyf) hY, GeL_congr hK (ip (nf hoO.1 (by simp))) (hoth 2 hoO.1 (by simp) (by simp)) (fun i => ip hof) hO, ?_, ?_, hnd, by rw [szz]; exact hsum, ⟨t1, hRl, t2, fun t ht => (hTT t).trans (hRT t ht), fun t ht => z2 t ((hTT t).symm.trans ht)⟩, ⟨fun t ht => (z1 t (GeL_mem hY ht)).trans (hol.1 t ht), fun t ht => (z1 t (GeL_mem hO ht)).trans (hol.2 t ht)⟩, hG.1, hG.2.1, hG.2.2.1, fun r hr => ?_, fun t ht o ho => ?_, fun t ht u hk hu => ?_⟩
  · rw [ssz, hoth 3 hyO.1 (by simp) (by simp)]; exact hty
  · rw [ssz, hoth 3 hoO.1 (by simp) (by simp)]; exact hto
  · rw [hA rg nr hRg.2.2.1 r]; exact oB_congr hK (hG.2.2.2.1 r hr)
  · rw [sucL_congr hK hP hA hT t] at ho; exact oB_congr hK (hG.2.2.2.2.1 t ht o ho)
  · rw [hK] at hk
    rw [ip (nf hk (by simp))] at hu
    exact hG.2.2.2.2.2 t ht u hk hu
theorem sumN_app (w : Wd) (xs ys : List Nat) : sumN w (xs ++ ys) = sumN w xs + sumN w ys := by simp [sumN]
theorem CI_colY (H : CI w x rg nr yg ya ly og oa lo tr fa Y O F G) (hR : RC w rg nr Y O R) (hOR : ∀ t ∈ O, t ∈ R) (hfit : sumN w (Y.filter (inL R)) ≤ lo - sumN w O) : CI (colYW w x yg ya og oa tr fa Y O F R) x rg nr yg ya ly og oa lo tr fa [] (O ++ Y.filter (inL R)) R R := by
  have hRT : ∀ t ∈ R, isTb w t = true := fun t ht => by
    rcases List.mem_append.mp (hR.2.1 t ht) with h | h
    · exact GeL_mem H.2.2.1 h
    · exact GeL_mem H.2.2.2.1 h
  obtain ⟨hK, c1, c2, c3, c4, c5, c6, c7, ⟨c8, c9⟩, d1, d2, d3, d4, d5⟩ := CI_cut (R := R) H hRT
  obtain ⟨hS, hT, hY, hO, hty, hto, hnd, hsum, hF, hol, hG⟩ := H
  have hS' := hS
  obtain ⟨hRg, hnr, h1, h2, h3, hyO, hoO, -, -, hly, hlo, htr, htf, hfk, hgg, hya, hyf, hof⟩ := hS'
  have htg : ∀ b, wK w b = some (.inl 4) → b ∈ Y ++ O → wP (cutY w tr fa Y O F R) b 3 = fil R (wP w b 3) := fun b hb hm => cutY_tgt hF htr hfk hb hm (fun u hu => (hT.2.2.1 b hb).2 u hu)
  have hsz : ∀ zs, sumI (cutY w tr fa Y O F R) zs = sumI w zs := fun zs => sumI_congr (fun t _ => c5 t)
  have hszw : szw (cutY w tr fa Y O F R) = szw w := funext fun t => szw_congr (c5 t)
  have hYT : ∀ t ∈ Y, isTb w t = true := fun t ht => GeL_mem hY ht
  have hOT : ∀ t ∈ O, isTb w t = true := fun t ht => GeL_mem hO ht
  have e0 : colYW w x yg ya og oa tr fa Y O F R = uI (genW (genW (oldF (cutY w tr fa Y O F R) (Y.filter (inL R))) og oa (O ++ Y.filter (inL R))) yg ya []) x 4 (wI w x 4 + 1) := rfl
  rw [e0]
  generalize cutY w tr fa Y O F R = w3 at hK c1 c2 c3 c4 c5 c6 c7 c8 c9 d1 d2 d3 d4 d5 htg hsz hszw ⊢
  have hYs : ∀ t ∈ Y.filter (inL R), t ∈ Y ∧ t ∈ R := fun t ht => ⟨(List.mem_filter.mp ht).1, by have := (List.mem_filter.mp ht).2; simpa [inL] using this⟩
  have nx : ∀ {b : Nat} {d : Kd}, wK w b = some d → d ≠ .inl 0 → b ≠ x := fun hb hd e => by rw [e, hRg.1] at hb; cases hb; exact hd rfl
  have no : ∀ {b : Nat} {d : Kd}, wK w b = some d → d ≠ .inl 1 → b ≠ og := fun hb hd e => by rw [e, hoO.1] at hb; cases hb; exact hd rfl
  have ny : ∀ {b : Nat} {d : Kd}, wK w b = some d → d ≠ .inl 1 → b ≠ yg := fun hb hd e => by rw [e, hyO.1] at hb; cases hb; exact hd rfl
  have na : ∀ {b : Nat} {d : Kd}, wK w b = some d → d ≠ .inr (4, lo) → b ≠ oa := fun hb hd e => by rw [e, hoO.2.2.1] at hb; cases hb; exact hd rfl
  have ip : ∀ {b k : Nat}, b ≠ oa → wP (uI (genW (genW (oldF w3 (Y.filter (inL R))) og oa (O ++ Y.filter (inL R))) yg ya []) x 4 (wI w x 4 + 1)) b k = wP w3 b k := fun h => by
    rw [wP_uI, genW_ptr (Or.inr (Nat.zero_le _)), genW_ptr (Or.inl h)]; rfl
  have ii : ∀ {b k : Nat}, b ≠ x ∨ k ≠ 4 → (b ≠ og ∨ (k ≠ 2 ∧ k ≠ 3)) → (b ≠ yg ∨ (k ≠ 2 ∧ k ≠ 3)) → k ≠ 1 → wI (uI (genW (genW (oldF w3 (Y.filter (inL R))) og oa (O ++ Y.filter (inL R))) yg ya []) x 4 (wI w x 4 + 1)) b k = wI w3 b k := fun h1 h2 h3 h4 => by
    rw [wI_uI, if_neg (by rintro ⟨e1, e2⟩; rcases h1 with h | h; exact h e1; exact h e2), genW_int h3, genW_int h2, oldF_int h4]
  have iold : ∀ t, isTb w t = true → wI (uI (genW (genW (oldF w3 (Y.filter (inL R))) og oa (O ++ Y.filter (inL R))) yg ya []) x 4 (wI w x 4 + 1)) t 1 = if t ∈ Y.filter (inL R) then 1 else wI w3 t 1 := fun t ht => by
    rw [wI_uI, if_neg (by simp), genW_int (Or.inl (isTb_ne ht hyO.1 (by decide))), genW_int (Or.inl (isTb_ne ht hoO.1 (by decide)))]
    show (if 1 = 1 ∧ t ∈ Y.filter (inL R) then (1 : Int32) else w3.2.1 t 1) = _
    by_cases h : t ∈ Y.filter (inL R) <;> simp [h, wI]
  have itr : wI (uI (genW (genW (oldF w3 (Y.filter (inL R))) og oa (O ++ Y.filter (inL R))) yg ya []) x 4 (wI w x 4 + 1)) tr 1 = wI w3 tr 1 := by
    rw [wI_uI, if_neg (by simp), genW_int (Or.inl (ny htr (by simp))), genW_int (Or.inl (no htr (by simp)))]
    show (if 1 = 1 ∧ tr ∈ Y.filter (inL R) then (1 : Int32) else w3.2.1 tr 1) = _
    rw [if_neg (fun h => isTb_ne (hYT tr (hYs tr h.2).1) htr (by decide) rfl)]; rfl
  have hK' : ∀ b, wK (uI (genW (genW (oldF w3 (Y.filter (inL R))) og oa (O ++ Y.filter (inL R))) yg ya []) x 4 (wI w x 4 + 1)) b = wK w3 b := fun _ => rfl
  have so : sumI (oldF w3 (Y.filter (inL R))) (O ++ Y.filter (inL R)) = sumI w3 (O ++ Y.filter (inL R)) := sumI_congr (fun t _ => oldF_int (by decide))
  have hcnt : wI (uI (genW (genW (oldF w3 (Y.filter (inL R))) og oa (O ++ Y.filter (inL R))) yg ya []) x 4 (wI w x 4 + 1)) og 2 = nI (O ++ Y.filter (inL R)).length := by rw [wI_uI, if_neg (by simp), genW_int (Or.inl (Ne.symm hgg)), genW_cnt]
  have htak : wI (uI (genW (genW (oldF w3 (Y.filter (inL R))) og oa (O ++ Y.filter (inL R))) yg ya []) x 4 (wI w x 4 + 1)) og 3 = sumI w3 (O ++ Y.filter (inL R)) := by rw [wI_uI, if_neg (by simp), genW_int (Or.inl (Ne.symm hgg)), genW_tak, so]
  have ycnt : wI (uI (genW (genW (oldF w3 (Y.filter (inL R))) og oa (O ++ Y.filter (inL R))) yg ya []) x 4 (wI w x 4 + 1)) yg 2 = nI 0 := by rw [wI_uI, if_neg (by simp), genW_cnt]; rfl
  have ytak : wI (uI (genW (genW (oldF w3 (Y.filter (inL R))) og oa (O ++ Y.filter (inL R))) yg ya []) x 4 (wI w x 4 + 1)) yg 3 = nI 0 := by rw [wI_uI, if_neg (by simp), genW_tak]; rfl
  have hrow : ∀ i t, (O ++ Y.filter (inL R))[i]? = some t → wP (uI (genW (genW (oldF w3 (Y.filter (inL R))) og oa (O ++ Y.filter (inL R))) yg ya []) x 4 (wI w x 4 + 1)) oa i = some t := fun i t hi => by rw [wP_uI, genW_ptr (Or.inr (Nat.zero_le _))]; exact genW_row hi
  generalize uI (genW (genW (oldF w3 (Y.filter (inL R))) og oa (O ++ Y.filter (inL R))) yg ya []) x 4 (wI w x 4 + 1) = w' at ip ii itr iold hK' hcnt htak ycnt ytak hrow ⊢
  have hKK : ∀ b, wK w' b = wK w b := fun b => (hK' b).trans (hK b)
  have hTT : ∀ t, isTb w' t = isTb w t := fun t => isTb_congr hKK t
  have z0 : ∀ t, wI w' t 0 = wI w3 t 0 := fun t => ii (Or.inr (by decide)) (Or.inr (by decide)) (Or.inr (by decide)) (by decide)
  have ssz : ∀ zs, sumI w' zs = sumI w zs := fun zs => (sumI_congr (fun t _ => z0 t)).trans (hsz zs)
  have szz : szw w' = szw w := (funext fun t => szw_congr (z0 t)).trans hszw
  have hP3 : ∀ t, wK w3 t = some (.inl 3) → wP w' t 3 = wP w3 t 3 := fun t ht => ip (na ((hK t).symm.trans ht) (by simp))
  have hA3 : ∀ c n, wK w3 c = some (.inr (3, n)) → ∀ i, wP w' c i = wP w3 c i := fun c n hc i => ip (na ((hK c).symm.trans hc) (by simp))
  have hsuc : ∀ t, sucL w' t = sucL w t := fun t => (sucL_congr hK' hP3 hA3 c2 t).trans (d2 t)
  have hNT : ∀ t ∈ O ++ Y.filter (inL R), isTb w t = true := fun t ht => by
    rcases List.mem_append.mp ht with h | h
    · exact hOT t h
    · exact hYT t (hYs t h).1
  have hlen : (O ++ Y.filter (inL R)).length ≤ lo := by
    have a1 := sz_len (w := w) (xs := O ++ Y.filter (inL R)) (fun t ht => (HT_sz hT (hNT t ht)).2.1)
    have a2 : sumN w (O ++ Y.filter (inL R)) = sumN w O + sumN w (Y.filter (inL R)) := sumN_app _ _ _
    have a3 : sumN w O ≤ lo := hsum.2
    have a4 : (O ++ Y.filter (inL R)).length ≤ sumN w (O ++ Y.filter (inL R)) := a1
    omega
  refine ⟨CS_congr hK' (fun k _ => ip (na hRg.1 (by simp))) (ip (na hyO.1 (by simp))) (ip (na hoO.1 (by simp))) (ip (na htr (by simp))) (z0 _) (z0 _) c1, HT_congr hK' (fun t _ => z0 t) hP3 hA3 ((hK rg).trans hRg.2.2.1) (fun t ht => Or.inl (ip (na ((hK t).symm.trans ht) (by simp)))) c2, ?_, ?_, ?_, ?_, ?_, ?_, ?_, ?_, ?_⟩
  · exact ⟨GeO_congr hKK ((ip (na hyO.1 (by simp))).trans (c3.1.2.1.trans hyO.2.1.symm)) hyO, ycnt, Nat.zero_le _, fun i t hi => by cases hi⟩
  · exact ⟨GeO_congr hKK ((ip (na hoO.1 (by simp))).trans (c4.1.2.1.trans hoO.2.1.symm)) hoO, hcnt, hlen, fun i t hi => ⟨hrow i t hi, (hTT t).trans (hNT t (List.mem_of_getElem? hi))⟩⟩
  · rw [ytak]; rfl
  · rw [ssz, htak, hsz]
  · rw [List.nodup_append] at hnd
    rw [List.nil_append, List.nodup_append]
    exact ⟨hnd.2.1, hnd.1.sublist List.filter_sublist, fun a ha b hb => fun e => hnd.2.2 b (hYs b hb).1 a ha e.symm⟩
  · rw [szz]
    refine ⟨by simp, ?_⟩
    have a2 : sumN w (O ++ Y.filter (inL R)) = sumN w O + sumN w (Y.filter (inL R)) := sumN_app _ _ _
    have a3 : sumN w O ≤ lo := hsum.2
    show sumN w (O ++ Y.filter (inL R)) ≤ lo
    omega
  · refine ⟨itr.trans d4, ?_, fun i t hi => (ip (Ne.symm hof)).trans (d5 i t hi), fun t ht => (hTT t).trans (hRT t ht), fun t ht => ?_⟩
    · have a1 := hR.1.length_le_of_subset (fun t ht => hR.2.1 t ht)
      have a2 := sz_len (w := w) (xs := Y) (fun t ht => (HT_sz hT (hYT t ht)).2.1)
      have a3 := sz_len (w := w) (xs := O) (fun t ht => (HT_sz hT (hOT t ht)).2.1)
      rw [List.length_append] at a1
      omega
    · rw [hTT] at ht
      rw [ii (Or.inr (by decide)) (Or.inl (isTb_ne ht hoO.1 (by decide))) (Or.inl (isTb_ne ht hyO.1 (by decide))) (by decide)]; exact c7 t ht
  · refine ⟨fun t ht => (by cases ht), fun t ht => ?_⟩
    rw [iold t (hNT t ht)]
    by_cases h : t ∈ Y.filter (inL R)
    · rw [if_pos h]
    · rw [if_neg h]
      rcases List.mem_append.mp ht with h' | h'
      · rw [c6 t (hOT t h')]; exact hol.2 t h'
      · exact absurd h' h
  · refine ⟨hR.1, fun t ht => ?_, fun t ht => ?_, fun r hr => ?_, fun t ht o ho u e hu => ?_, fun t ht u hk e => ?_⟩
    · rw [List.nil_append]
      rcases List.mem_append.mp (hR.2.1 t ht) with h | h
      · exact List.mem_append_right _ (List.mem_filter.mpr ⟨h, by simp [inL, ht]⟩)
      · exact List.mem_append_left _ h
    · rcases List.mem_append.mp ht with h | h
      · exact hOR t h
      · exact (hYs t h).2
    · rw [ip (na hRg.2.2.1 (by simp)), d3 r]; exact oB_congr hKK (hR.2.2.1 r hr)
    · rw [hsuc] at ho
      rw [hTT] at hu
      exact hR.2.2.2 t ht u (by rw [← e]; exact ho) hu
    · rw [hKK] at hk
      rw [ip (na hk (by simp)), htg t hk (hR.2.1 t ht)] at e
      cases ho : wP w t 3 with
      | none => rw [ho] at e; cases e
      | some v =>
        rw [ho, fil] at e
        split at e
        · cases e; assumption
        · cases e
end YC
end
section
/-! the methods that only read: kind, value, fields, same, generation, cells, collections; great; reach -/
def kindI (w : Wd) (o : Option Nat) : Int32 := match o with
  | none => 0
  | some t => match wK w t with
    | some (.inl 5) => 1
    | some (.inl 3) => 2
    | _ => 3
def valI (w : Wd) (o : Option Nat) : Int32 := match o with
  | none => 0
  | some t => match wK w t with
    | some (.inl 5) => wI w t 0
    | _ => 0
def isWh (w : Wd) (t : Nat) : Bool := match wK w t with
  | some (.inl 5) => true
  | _ => false
/-- two values are the same -/
def sameP (w : Wd) (a b : Option Nat) : Prop := a = b ∨ ∃ s t, a = some s ∧ b = some t ∧ isWh w s = true ∧ isWh w t = true ∧ wI w s 0 = wI w t 0
def sameV (w : Wd) (a b : Option Nat) : Bool := decide (a = b) || (match a, b with
  | some s, some t => isWh w s && isWh w t && decide (wI w s 0 = wI w t 0)
  | _, _ => false)
theorem sameV_iff {w : Wd} {a b : Option Nat} : sameV w a b = true ↔ sameP w a b := by
  unfold sameV sameP
  cases a with
  | none => simp
  | some s =>
    cases b with
    | none => simp
    | some t => simp [and_assoc]
theorem oV_kd {w : Wd} {t : Nat} {o : Option Nat} (h : oV w o) (e : o = some t) : wK w t = some (.inl 3) ∨ wK w t = some (.inl 4) ∨ wK w t = some (.inl 5) := by
  rcases h t e with ht | ht
  · obtain ⟨ci, hci, hk⟩ := isTb_to ht
    rcases hci with rfl | rfl
    · exact Or.inl hk
    · exact Or.inr (Or.inl hk)
  · exact Or.inr (Or.inr ht)
section RD
variable {l : Launch} {Δ : Dat} {w : Wd} {x rg nr : Nat} {r : Int32}
set_option maxRecDepth 100000 in
theorem k_kind (H : Rg w x rg nr) (hv : ∀ j, j < nr → oV w (wP w rg j)) : Ct l y_TG_kind h_TG_kind (rmL 3 0 0) Δ [.ref x, .int r] w (fun q w' => q = some (.int (if regB nr r then kindI w (held w rg nr r) else -1)) ∧ w' = w) := by
  have H' := H
  obtain ⟨hx, hrg, hrk, h1, h2⟩ := H'
  refine Ct_of (L := [some (.ref x), some (.int r), none]) (by decide) (by first | exact Nat.le_of_ble_eq_true rfl | simp [lg_sl, va_rf_cat, vc_r, vc_i, vc_0]) (by first | rfl | simp [lin, va_rf_cat, vc_r, vc_i, vc_0]) (fun Γ X => ?_)
  first | refine J_aload_nr X d_TG_kind_0 rfl rfl ?_ | refine J_aload_n X d_TG_kind_0 rfl rfl ?_ | refine J_aload_n0 X d_TG_kind_0 rfl rfl ?_
  refine J_iload_n X d_TG_kind_1 rfl rfl ?_
  refine J_callV X (hx) rfl (k_isRegister (r := r) H) cd_TG_isRegister lk_TG_42 vi_TG_isRegister (by decide) (by decide) (by decide) (by decide) rfl (by first | decide | simp [va_rf_cat, vc_r, vc_i, vc_0]) d_TG_kind_2 (fun q w1 hq => ?_)
  obtain ⟨rfl, hw1⟩ := hq
  refine J_eq hw1 rfl ?_
  by_cases h : regB nr r
  · refine J_top (v' := .int 1) (by rw [if_pos h]) ?_
    refine J_if_ne (tgt := 10) X d_TG_kind_5 (by decide) (fun g => ?_) (fun g => ?_)
    · obtain ⟨j, hj, rfl⟩ := regB_at h1 h2 h
      rw [if_pos h, held_at h2 hj]
      cases hh : wP w rg j with
      | none =>
        first | refine J_aload_nr X d_TG_kind_10 rfl rfl ?_ | refine J_aload_n X d_TG_kind_10 rfl rfl ?_ | refine J_aload_n0 X d_TG_kind_10 rfl rfl ?_
        refine J_getR X (hx) fa_TG_15_0 rfl (hrg) d_TG_kind_11 ?_
        refine J_iload_n X d_TG_kind_14 rfl rfl ?_
        refine J_aald X (hrk) (by decide) rfl ⟨_, rfl⟩ (rfl) (hj) (by omega) (hh) d_TG_kind_15 ?_
        first | refine J_astore_nr X d_TG_kind_16 rfl (by decide) rfl ?_ | refine J_astore_n X d_TG_kind_16 rfl (by decide) rfl ?_ | refine J_astore_n0 X d_TG_kind_16 rfl (by decide) rfl ?_
        first | refine J_aload_nr X d_TG_kind_17 rfl rfl ?_ | refine J_aload_n X d_TG_kind_17 rfl rfl ?_ | refine J_aload_n0 X d_TG_kind_17 rfl rfl ?_
        refine J_ifnonnull0 X d_TG_kind_18 ?_
        refine J_iconst (v := 0) X d_TG_kind_21 (by decide) ?_
        exact J_iret X ⟨rfl, rfl⟩ (by decide) (by decide) d_TG_kind_22
      | some t =>
        first | refine J_aload_nr X d_TG_kind_10 rfl rfl ?_ | refine J_aload_n X d_TG_kind_10 rfl rfl ?_ | refine J_aload_n0 X d_TG_kind_10 rfl rfl ?_
        refine J_getR X (hx) fa_TG_15_0 rfl (hrg) d_TG_kind_11 ?_
        refine J_iload_n X d_TG_kind_14 rfl rfl ?_
        refine J_aaldr X (hrk) (by decide) rfl ⟨_, rfl⟩ (rfl) (hj) (by omega) (hh) d_TG_kind_15 ?_
        first | refine J_astore_nr X d_TG_kind_16 rfl (by decide) rfl ?_ | refine J_astore_n X d_TG_kind_16 rfl (by decide) rfl ?_ | refine J_astore_n0 X d_TG_kind_16 rfl (by decide) rfl ?_
        first | refine J_aload_nr X d_TG_kind_17 rfl rfl ?_ | refine J_aload_n X d_TG_kind_17 rfl rfl ?_ | refine J_aload_n0 X d_TG_kind_17 rfl rfl ?_
        refine J_ifnonnullr (tgt := 23) X d_TG_kind_18 (by decide) ?_
        first | refine J_aload_nr X d_TG_kind_23 rfl rfl ?_ | refine J_aload_n X d_TG_kind_23 rfl rfl ?_ | refine J_aload_n0 X d_TG_kind_23 rfl rfl ?_
        rcases oV_kd (hv j hj) hh with hk | hk | hk
        · refine J_instN X hk in_TG_97_3 d_TG_kind_24 ?_
          refine J_if_eq (tgt := 32) X d_TG_kind_27 (by decide) (fun g => ?_) (fun g => ?_)
          · first | refine J_aload_nr X d_TG_kind_32 rfl rfl ?_ | refine J_aload_n X d_TG_kind_32 rfl rfl ?_ | refine J_aload_n0 X d_TG_kind_32 rfl rfl ?_
            refine J_instY X hk iy_TG_53_3 d_TG_kind_33 ?_
            refine J_if_eq (tgt := 43) X d_TG_kind_36 (by decide) (fun g => ?_) (fun g => ?_)
            · exact absurd g (by decide)
            · refine J_iconst (v := 2) X d_TG_kind_39 (by decide) ?_
              refine J_goto (tgt := 44) X d_TG_kind_40 (by decide) ?_
              exact J_iret X ⟨by simp [kindI, hk], rfl⟩ (by decide) (by decide) d_TG_kind_44
          · exact absurd rfl g
        · refine J_instN X hk in_TG_97_4 d_TG_kind_24 ?_
          refine J_if_eq (tgt := 32) X d_TG_kind_27 (by decide) (fun g => ?_) (fun g => ?_)
          · first | refine J_aload_nr X d_TG_kind_32 rfl rfl ?_ | refine J_aload_n X d_TG_kind_32 rfl rfl ?_ | refine J_aload_n0 X d_TG_kind_32 rfl rfl ?_
            refine J_instN X hk in_TG_53_4 d_TG_kind_33 ?_
            refine J_if_eq (tgt := 43) X d_TG_kind_36 (by decide) (fun g => ?_) (fun g => ?_)
            · refine J_iconst (v := 3) X d_TG_kind_43 (by decide) ?_
              exact J_iret X ⟨by simp [kindI, hk], rfl⟩ (by decide) (by decide) d_TG_kind_44
            · exact absurd rfl g
          · exact absurd rfl g
        · refine J_instY X hk iy_TG_97_5 d_TG_kind_24 ?_
          refine J_if_eq (tgt := 32) X d_TG_kind_27 (by decide) (fun g => ?_) (fun g => ?_)
          · exact absurd g (by decide)
          · refine J_iconst (v := 1) X d_TG_kind_30 (by decide) ?_
            exact J_iret X ⟨by simp [kindI, hk], rfl⟩ (by decide) (by decide) d_TG_kind_31
    · exact absurd g (by decide)
  · refine J_top (v' := .int 0) (by rw [if_neg h]) ?_
    refine J_if_ne (tgt := 10) X d_TG_kind_5 (by decide) (fun g => ?_) (fun g => ?_)
    · exact absurd rfl g
    · refine J_iconst (v := -1) X d_TG_kind_8 (by decide) ?_
      exact J_iret X ⟨by rw [if_neg h], rfl⟩ (by decide) (by decide) d_TG_kind_9
set_option maxRecDepth 100000 in
theorem k_value (H : Rg w x rg nr) (hv : ∀ j, j < nr → oV w (wP w rg j)) : Ct l y_TG_value h_TG_value (rmL 3 0 0) Δ [.ref x, .int r] w (fun q w' => q = some (.int (valI w (held w rg nr r))) ∧ w' = w) := by
  have hx := H.1
  have ho := held_oV (r := r) H.2.2.2.1 H.2.2.2.2 hv
  refine Ct_of (L := [some (.ref x), some (.int r), none, none]) (by decide) (by first | exact Nat.le_of_ble_eq_true rfl | simp [lg_sl, va_rf_cat, vc_r, vc_i, vc_0]) (by first | rfl | simp [lin, va_rf_cat, vc_r, vc_i, vc_0]) (fun Γ X => ?_)
  first | refine J_aload_nr X d_TG_value_0 rfl rfl ?_ | refine J_aload_n X d_TG_value_0 rfl rfl ?_ | refine J_aload_n0 X d_TG_value_0 rfl rfl ?_
  refine J_iload_n X d_TG_value_1 rfl rfl ?_
  refine J_callV X (hx) rfl (k_heldIn (r := r) H) cd_TG_heldIn lk_TG_102 vi_TG_heldIn (by decide) (by decide) (by decide) (by decide) rfl (by first | decide | simp [va_rf_cat, vc_r, vc_i, vc_0]) d_TG_value_2 (fun q w1 hq => ?_)
  obtain ⟨rfl, hw1⟩ := hq
  refine J_eq hw1 rfl ?_
  cases hh : held w rg nr r with
  | none =>
    first | refine J_astore_nr X d_TG_value_5 rfl (by decide) rfl ?_ | refine J_astore_n X d_TG_value_5 rfl (by decide) rfl ?_ | refine J_astore_n0 X d_TG_value_5 rfl (by decide) rfl ?_
    first | refine J_aload_nr X d_TG_value_6 rfl rfl ?_ | refine J_aload_n X d_TG_value_6 rfl rfl ?_ | refine J_aload_n0 X d_TG_value_6 rfl rfl ?_
    refine J_inst0 X d_TG_value_7 ?_
    refine J_if_eq (tgt := 25) X d_TG_value_10 (by decide) (fun g => ?_) (fun g => ?_)
    · refine J_iconst (v := 0) X d_TG_value_25 (by decide) ?_
      exact J_iret X ⟨rfl, rfl⟩ (by decide) (by decide) d_TG_value_26
    · exact absurd rfl g
  | some t =>
    first | refine J_astore_nr X d_TG_value_5 rfl (by decide) rfl ?_ | refine J_astore_n X d_TG_value_5 rfl (by decide) rfl ?_ | refine J_astore_n0 X d_TG_value_5 rfl (by decide) rfl ?_
    first | refine J_aload_nr X d_TG_value_6 rfl rfl ?_ | refine J_aload_n X d_TG_value_6 rfl rfl ?_ | refine J_aload_n0 X d_TG_value_6 rfl rfl ?_
    rcases oV_kd ho hh with hk | hk | hk
    · refine J_instN X hk in_TG_97_3 d_TG_value_7 ?_
      refine J_if_eq (tgt := 25) X d_TG_value_10 (by decide) (fun g => ?_) (fun g => ?_)
      · refine J_iconst (v := 0) X d_TG_value_25 (by decide) ?_
        exact J_iret X ⟨by simp [valI, hk], rfl⟩ (by decide) (by decide) d_TG_value_26
      · exact absurd rfl g
    · refine J_instN X hk in_TG_97_4 d_TG_value_7 ?_
      refine J_if_eq (tgt := 25) X d_TG_value_10 (by decide) (fun g => ?_) (fun g => ?_)
      · refine J_iconst (v := 0) X d_TG_value_25 (by decide) ?_
        exact J_iret X ⟨by simp [valI, hk], rfl⟩ (by decide) (by decide) d_TG_value_26
      · exact absurd rfl g
    · refine J_instY X hk iy_TG_97_5 d_TG_value_7 ?_
      refine J_if_eq (tgt := 25) X d_TG_value_10 (by decide) (fun g => ?_) (fun g => ?_)
      · exact absurd g (by decide)
      · first | refine J_aload_nr X d_TG_value_13 rfl rfl ?_ | refine J_aload_n X d_TG_value_13 rfl rfl ?_ | refine J_aload_n0 X d_TG_value_13 rfl rfl ?_
        refine J_cast X hk iy_TG_97_5 d_TG_value_14 ?_
        first | refine J_astore_nr X d_TG_value_17 rfl (by decide) rfl ?_ | refine J_astore_n X d_TG_value_17 rfl (by decide) rfl ?_ | refine J_astore_n0 X d_TG_value_17 rfl (by decide) rfl ?_
        first | refine J_aload_nr X d_TG_value_18 rfl rfl ?_ | refine J_aload_n X d_TG_value_18 rfl rfl ?_ | refine J_aload_n0 X d_TG_value_18 rfl rfl ?_
        refine J_getI X (hk) fa_TG_106_5 rfl (rfl) d_TG_value_19 ?_
        refine J_goto (tgt := 26) X d_TG_value_22 (by decide) ?_
        exact J_iret X ⟨by simp [valI, hk], rfl⟩ (by decide) (by decide) d_TG_value_26
set_option maxRecDepth 100000 in
theorem k_fields (H : Rg w x rg nr) (hT : HT w rg nr) : Ct l y_TG_fields h_TG_fields (rmL 4 0 0) Δ [.ref x, .int r] w (fun q w' => q = some (.int (match only w (isP w) (held w rg nr r) with | none => -1 | some t => nI (sucL w t).length)) ∧ w' = w) := by
  have hx := H.1
  refine Ct_of (L := [some (.ref x), some (.int r), none]) (by decide) (by first | exact Nat.le_of_ble_eq_true rfl | simp [lg_sl, va_rf_cat, vc_r, vc_i, vc_0]) (by first | rfl | simp [lin, va_rf_cat, vc_r, vc_i, vc_0]) (fun Γ X => ?_)
  first | refine J_aload_nr X d_TG_fields_0 rfl rfl ?_ | refine J_aload_n X d_TG_fields_0 rfl rfl ?_ | refine J_aload_n0 X d_TG_fields_0 rfl rfl ?_
  refine J_iload_n X d_TG_fields_1 rfl rfl ?_
  refine J_callV X (hx) rfl (k_plainIn (r := r) H hT.2.2.2) cd_TG_plainIn lk_TG_71 vi_TG_plainIn (by decide) (by decide) (by decide) (by decide) rfl (by first | decide | simp [va_rf_cat, vc_r, vc_i, vc_0]) d_TG_fields_2 (fun q w1 hq => ?_)
  obtain ⟨rfl, hw1⟩ := hq
  refine J_eq hw1 rfl ?_
  cases hh : only w (isP w) (held w rg nr r) with
  | none =>
    first | refine J_astore_nr X d_TG_fields_5 rfl (by decide) rfl ?_ | refine J_astore_n X d_TG_fields_5 rfl (by decide) rfl ?_ | refine J_astore_n0 X d_TG_fields_5 rfl (by decide) rfl ?_
    first | refine J_aload_nr X d_TG_fields_6 rfl rfl ?_ | refine J_aload_n X d_TG_fields_6 rfl rfl ?_ | refine J_aload_n0 X d_TG_fields_6 rfl rfl ?_
    refine J_ifnonnull0 X d_TG_fields_7 ?_
    refine J_iconst (v := -1) X d_TG_fields_10 (by decide) ?_
    refine J_goto (tgt := 19) X d_TG_fields_11 (by decide) ?_
    exact J_iret X ⟨rfl, rfl⟩ (by decide) (by decide) d_TG_fields_19
  | some t =>
    first | refine J_astore_nr X d_TG_fields_5 rfl (by decide) rfl ?_ | refine J_astore_n X d_TG_fields_5 rfl (by decide) rfl ?_ | refine J_astore_n0 X d_TG_fields_5 rfl (by decide) rfl ?_
    first | refine J_aload_nr X d_TG_fields_6 rfl rfl ?_ | refine J_aload_n X d_TG_fields_6 rfl rfl ?_ | refine J_aload_n0 X d_TG_fields_6 rfl rfl ?_
    refine J_ifnonnullr (tgt := 14) X d_TG_fields_7 (by decide) ?_
    have hk : wK w t = some (.inl 3) := by
      cases hg : held w rg nr r with
      | none => rw [hg] at hh; cases hh
      | some u =>
        rw [hg, only] at hh
        split at hh
        · rename_i hu
          cases hh
          unfold isP at hu
          split at hu
          · assumption
          · cases hu
        · cases hh
    obtain ⟨c, n, e1, e2, e3, -⟩ := hT.1 t hk
    first | refine J_aload_nr X d_TG_fields_14 rfl rfl ?_ | refine J_aload_n X d_TG_fields_14 rfl rfl ?_ | refine J_aload_n0 X d_TG_fields_14 rfl rfl ?_
    refine J_getR X (hk) fa_TG_80_3 rfl (e1) d_TG_fields_15 ?_
    refine J_alen X (e2) (by decide) d_TG_fields_18 ?_
    exact J_iret X ⟨by show _ = some (Value.int (nI (sucL w t).length)); rw [sucL_of (w := w) hk e1 e2]; simp [rowL], rfl⟩ (by decide) (by decide) d_TG_fields_19
set_option maxRecDepth 100000 in
theorem k_generation (H : Rg w x rg nr) (hv : ∀ j, j < nr → oV w (wP w rg j)) : Ct l y_TG_generation h_TG_generation (rmL 4 0 0) Δ [.ref x, .int r] w (fun q w' => q = some (.int (match only w (isTb w) (held w rg nr r) with | none => -1 | some t => if wI w t 1 = 0 then 0 else 1)) ∧ w' = w) := by
  have hx := H.1
  refine Ct_of (L := [some (.ref x), some (.int r), none]) (by decide) (by first | exact Nat.le_of_ble_eq_true rfl | simp [lg_sl, va_rf_cat, vc_r, vc_i, vc_0]) (by first | rfl | simp [lin, va_rf_cat, vc_r, vc_i, vc_0]) (fun Γ X => ?_)
  first | refine J_aload_nr X d_TG_generation_0 rfl rfl ?_ | refine J_aload_n X d_TG_generation_0 rfl rfl ?_ | refine J_aload_n0 X d_TG_generation_0 rfl rfl ?_
  refine J_iload_n X d_TG_generation_1 rfl rfl ?_
  refine J_callV X (hx) rfl (k_thingIn (r := r) H hv) cd_TG_thingIn lk_TG_60 vi_TG_thingIn (by decide) (by decide) (by decide) (by decide) rfl (by first | decide | simp [va_rf_cat, vc_r, vc_i, vc_0]) d_TG_generation_2 (fun q w1 hq => ?_)
  obtain ⟨rfl, hw1⟩ := hq
  refine J_eq hw1 rfl ?_
  cases hh : only w (isTb w) (held w rg nr r) with
  | none =>
    first | refine J_astore_nr X d_TG_generation_5 rfl (by decide) rfl ?_ | refine J_astore_n X d_TG_generation_5 rfl (by decide) rfl ?_ | refine J_astore_n0 X d_TG_generation_5 rfl (by decide) rfl ?_
    first | refine J_aload_nr X d_TG_generation_6 rfl rfl ?_ | refine J_aload_n X d_TG_generation_6 rfl rfl ?_ | refine J_aload_n0 X d_TG_generation_6 rfl rfl ?_
    refine J_ifnonnull0 X d_TG_generation_7 ?_
    refine J_iconst (v := -1) X d_TG_generation_10 (by decide) ?_
    exact J_iret X ⟨rfl, rfl⟩ (by decide) (by decide) d_TG_generation_11
  | some t =>
    first | refine J_astore_nr X d_TG_generation_5 rfl (by decide) rfl ?_ | refine J_astore_n X d_TG_generation_5 rfl (by decide) rfl ?_ | refine J_astore_n0 X d_TG_generation_5 rfl (by decide) rfl ?_
    first | refine J_aload_nr X d_TG_generation_6 rfl rfl ?_ | refine J_aload_n X d_TG_generation_6 rfl rfl ?_ | refine J_aload_n0 X d_TG_generation_6 rfl rfl ?_
    refine J_ifnonnullr (tgt := 12) X d_TG_generation_7 (by decide) ?_
    have ht : isTb w t = true := by
      cases hg : held w rg nr r with
      | none => rw [hg] at hh; cases hh
      | some u =>
        rw [hg, only] at hh
        split at hh
        · rename_i hu
          cases hh
          exact hu
        · cases hh
    obtain ⟨ci, hci, hk⟩ := isTb_to ht
    first | refine J_aload_nr X d_TG_generation_12 rfl rfl ?_ | refine J_aload_n X d_TG_generation_12 rfl rfl ?_ | refine J_aload_n0 X d_TG_generation_12 rfl rfl ?_
    refine J_getI X (hk) (faT_TG_109 hci).1 (faT_TG_109 hci).2 (rfl) d_TG_generation_13 ?_
    refine J_if_eq (tgt := 23) X d_TG_generation_16 (by decide) (fun g => ?_) (fun g => ?_)
    · refine J_iconst (v := 0) X d_TG_generation_23 (by decide) ?_
      exact J_iret X ⟨by simp [g], rfl⟩ (by decide) (by decide) d_TG_generation_24
    · refine J_iconst (v := 1) X d_TG_generation_19 (by decide) ?_
      refine J_goto (tgt := 24) X d_TG_generation_20 (by decide) ?_
      exact J_iret X ⟨by simp [g], rfl⟩ (by decide) (by decide) d_TG_generation_24
set_option maxRecDepth 100000 in
theorem k_collections (hx : wK w x = some (.inl 0)) : Ct l y_TG_collections h_TG_collections (rmL 0 0 0) Δ [.ref x, .int r] w (fun q w' => q = some (.int (if r = 0 then wI w x 4 else if r = 1 then wI w x 5 else -1)) ∧ w' = w) := by
  refine Ct_of (L := [some (.ref x), some (.int r)]) (by decide) (by first | exact Nat.le_of_ble_eq_true rfl | simp [lg_sl, va_rf_cat, vc_r, vc_i, vc_0]) (by first | rfl | simp [lin, va_rf_cat, vc_r, vc_i, vc_0]) (fun Γ X => ?_)
  refine J_iload_n X d_TG_collections_0 rfl rfl ?_
  refine J_if_ne (tgt := 9) X d_TG_collections_1 (by decide) (fun g => ?_) (fun g => ?_)
  · refine J_iload_n X d_TG_collections_9 rfl rfl ?_
    refine J_iconst (v := 1) X d_TG_collections_10 (by decide) ?_
    refine J_icmp_ne (tgt := 21) X d_TG_collections_11 (by decide) (fun g2 => ?_) (fun g2 => ?_)
    · refine J_iconst (v := -1) X d_TG_collections_21 (by decide) ?_
      exact J_iret X ⟨by rw [if_neg g, if_neg g2], rfl⟩ (by decide) (by decide) d_TG_collections_22
    · first | refine J_aload_nr X d_TG_collections_14 rfl rfl ?_ | refine J_aload_n X d_TG_collections_14 rfl rfl ?_ | refine J_aload_n0 X d_TG_collections_14 rfl rfl ?_
      refine J_getI X (hx) fa_TG_146_0 rfl (rfl) d_TG_collections_15 ?_
      refine J_goto (tgt := 22) X d_TG_collections_18 (by decide) ?_
      exact J_iret X ⟨by rw [if_neg g, if_pos g2], rfl⟩ (by decide) (by decide) d_TG_collections_22
  · first | refine J_aload_nr X d_TG_collections_4 rfl rfl ?_ | refine J_aload_n X d_TG_collections_4 rfl rfl ?_ | refine J_aload_n0 X d_TG_collections_4 rfl rfl ?_
    refine J_getI X (hx) fa_TG_143_0 rfl (rfl) d_TG_collections_5 ?_
    exact J_iret X ⟨by rw [if_pos g], rfl⟩ (by decide) (by decide) d_TG_collections_8
set_option maxRecDepth 100000 in
theorem k_cells {yg og : Nat} (hx : wK w x = some (.inl 0)) (h1 : wP w x 1 = some yg) (h2 : wP w x 2 = some og) (hy : wK w yg = some (.inl 1)) (ho : wK w og = some (.inl 1)) : Ct l y_TG_cells h_TG_cells (rmL 0 0 0) Δ [.ref x, .int r] w (fun q w' => q = some (.int (if r = 0 then wI w yg 3 else if r = 1 then wI w og 3 else -1)) ∧ w' = w) := by
  refine Ct_of (L := [some (.ref x), some (.int r)]) (by decide) (by first | exact Nat.le_of_ble_eq_true rfl | simp [lg_sl, va_rf_cat, vc_r, vc_i, vc_0]) (by first | rfl | simp [lin, va_rf_cat, vc_r, vc_i, vc_0]) (fun Γ X => ?_)
  refine J_iload_n X d_TG_cells_0 rfl rfl ?_
  refine J_if_ne (tgt := 12) X d_TG_cells_1 (by decide) (fun g => ?_) (fun g => ?_)
  · refine J_iload_n X d_TG_cells_12 rfl rfl ?_
    refine J_iconst (v := 1) X d_TG_cells_13 (by decide) ?_
    refine J_icmp_ne (tgt := 27) X d_TG_cells_14 (by decide) (fun g2 => ?_) (fun g2 => ?_)
    · refine J_iconst (v := -1) X d_TG_cells_27 (by decide) ?_
      exact J_iret X ⟨by rw [if_neg g, if_neg g2], rfl⟩ (by decide) (by decide) d_TG_cells_28
    · first | refine J_aload_nr X d_TG_cells_17 rfl rfl ?_ | refine J_aload_n X d_TG_cells_17 rfl rfl ?_ | refine J_aload_n0 X d_TG_cells_17 rfl rfl ?_
      refine J_getR X (hx) fa_TG_28_0 rfl (h2) d_TG_cells_18 ?_
      refine J_getI X (ho) fa_TG_140_1 rfl (rfl) d_TG_cells_21 ?_
      refine J_goto (tgt := 28) X d_TG_cells_24 (by decide) ?_
      exact J_iret X ⟨by rw [if_neg g, if_pos g2], rfl⟩ (by decide) (by decide) d_TG_cells_28
  · first | refine J_aload_nr X d_TG_cells_4 rfl rfl ?_ | refine J_aload_n X d_TG_cells_4 rfl rfl ?_ | refine J_aload_n0 X d_TG_cells_4 rfl rfl ?_
    refine J_getR X (hx) fa_TG_24_0 rfl (h1) d_TG_cells_5 ?_
    refine J_getI X (hy) fa_TG_140_1 rfl (rfl) d_TG_cells_8 ?_
    exact J_iret X ⟨by rw [if_pos g], rfl⟩ (by decide) (by decide) d_TG_cells_11
set_option maxRecDepth 100000 in
/-- same, from its last comparison on -/
theorem same2 {Γ : Cxt} {w0 : Wd} {post : Option Value → Wd → Prop} {i j : Nat} {L : List (Option Value)} (X : Cx Γ Δ (AE Γ w0) l c_TG_same "TwoGenerations" 6 (rmL 3 0 0) (some .boolean) "same") (H : Rg w x rg nr) (hi : i < nr) (hj : j < nr) (h0 : L[0]? = some (some (.ref x))) (h1 : L[1]? = some (some (.int (nI i)))) (h2 : L[2]? = some (some (.int (nI j))))
    (hp : post (some (.int (if wP w rg i = wP w rg j then 1 else 0))) w) : J Γ Δ (AE Γ w0) 6 w 0 0 (QE Γ Δ w0 post (rmL 3 0 0)) 81 L [] := by
  obtain ⟨hx, hrg, hrk, n1, n2⟩ := H
  refine J_aload_nr X d_TG_same_81 rfl h0 ?_
  refine J_getR X (hx) fa_TG_15_0 rfl (hrg) d_TG_same_82 ?_
  refine J_iload_n X d_TG_same_85 rfl h1 ?_
  refine J_aald X (hrk) (by decide) rfl ⟨_, rfl⟩ (rfl) (hi) (by omega) (rfl) d_TG_same_86 ?_
  refine J_aload_nr X d_TG_same_87 rfl h0 ?_
  refine J_getR X (hx) fa_TG_15_0 rfl (hrg) d_TG_same_88 ?_
  refine J_iload_n X d_TG_same_91 rfl h2 ?_
  refine J_aald X (hrk) (by decide) rfl ⟨_, rfl⟩ (rfl) (hj) (by omega) (rfl) d_TG_same_92 ?_
  refine J_acmp_ne (tgt := 100) X d_TG_same_93 (by decide) (fun g => ?_) (fun g => ?_)
  · refine J_iconst (v := 0) X d_TG_same_100 (by decide) ?_
    exact J_zret X (Or.inl rfl) (by rw [if_neg g] at hp; exact hp) (by decide) (by decide) d_TG_same_101
  · refine J_iconst (v := 1) X d_TG_same_96 (by decide) ?_
    refine J_goto (tgt := 101) X d_TG_same_97 (by decide) ?_
    exact J_zret X (Or.inr rfl) (by rw [if_pos g] at hp; exact hp) (by decide) (by decide) d_TG_same_101
set_option maxRecDepth 100000 in
theorem k_same {r2 : Int32} (H : Rg w x rg nr) (hv : ∀ j, j < nr → oV w (wP w rg j)) : Ct l y_TG_same h_TG_same (rmL 3 0 0) Δ [.ref x, .int r, .int r2] w (fun q w' => q = some (.int (if regB nr r ∧ regB nr r2 ∧ sameV w (held w rg nr r) (held w rg nr r2) = true then 1 else 0)) ∧ w' = w) := by
  have H' := H
  obtain ⟨hx, hrg, hrk, h1, h2⟩ := H'
  refine Ct_of (L := [some (.ref x), some (.int r), some (.int r2), none, none, none]) (by decide) (by first | exact Nat.le_of_ble_eq_true rfl | simp [lg_sl, va_rf_cat, vc_r, vc_i, vc_0]) (by first | rfl | simp [lin, va_rf_cat, vc_r, vc_i, vc_0]) (fun Γ X => ?_)
  first | refine J_aload_nr X d_TG_same_0 rfl rfl ?_ | refine J_aload_n X d_TG_same_0 rfl rfl ?_ | refine J_aload_n0 X d_TG_same_0 rfl rfl ?_
  refine J_iload_n X d_TG_same_1 rfl rfl ?_
  refine J_callV X (hx) rfl (k_isRegister (r := r) H) cd_TG_isRegister lk_TG_42 vi_TG_isRegister (by decide) (by decide) (by decide) (by decide) rfl (by first | decide | simp [va_rf_cat, vc_r, vc_i, vc_0]) d_TG_same_2 (fun q w1 hq => ?_)
  obtain ⟨rfl, hw1⟩ := hq
  refine J_eq hw1 rfl ?_
  by_cases h : regB nr r
  · refine J_top (v' := .int 1) (by rw [if_pos h]) ?_
    refine J_if_eq (tgt := 16) X d_TG_same_5 (by decide) (fun g => ?_) (fun g => ?_)
    · exact absurd g (by decide)
    · first | refine J_aload_nr X d_TG_same_8 rfl rfl ?_ | refine J_aload_n X d_TG_same_8 rfl rfl ?_ | refine J_aload_n0 X d_TG_same_8 rfl rfl ?_
      refine J_iload_n X d_TG_same_9 rfl rfl ?_
      refine J_callV X (hx) rfl (k_isRegister (r := r2) H) cd_TG_isRegister lk_TG_42 vi_TG_isRegister (by decide) (by decide) (by decide) (by decide) rfl (by first | decide | simp [va_rf_cat, vc_r, vc_i, vc_0]) d_TG_same_10 (fun q w2 hq => ?_)
      obtain ⟨rfl, hw2⟩ := hq
      refine J_eq hw2 rfl ?_
      by_cases h' : regB nr r2
      · refine J_top (v' := .int 1) (by rw [if_pos h']) ?_
        obtain ⟨i, hi, rfl⟩ := regB_at h1 h2 h
        obtain ⟨j, hj, rfl⟩ := regB_at h1 h2 h'
        rw [held_at h2 hi, held_at h2 hj]
        have last : ∀ o : Prop, (¬ ∃ s t, wP w rg i = some s ∧ wP w rg j = some t ∧ isWh w s = true ∧ isWh w t = true ∧ wI w s 0 = wI w t 0) → (some (Value.int (if wP w rg i = wP w rg j then 1 else 0)) = some (Value.int (if regB nr (nI i) ∧ regB nr (nI j) ∧ sameV w (wP w rg i) (wP w rg j) = true then 1 else 0))) := fun _ hn => by
          by_cases e : wP w rg i = wP w rg j
          · rw [if_pos e, if_pos ⟨h, h', sameV_iff.mpr (Or.inl e)⟩]
          · rw [if_neg e, if_neg (fun q => (sameV_iff.mp q.2.2).elim e hn)]
        refine J_if_ne (tgt := 18) X d_TG_same_13 (by decide) (fun g => ?_) (fun g => ?_)
        · cases hh : wP w rg i with
          | none =>
            first | refine J_aload_nr X d_TG_same_18 rfl rfl ?_ | refine J_aload_n X d_TG_same_18 rfl rfl ?_ | refine J_aload_n0 X d_TG_same_18 rfl rfl ?_
            refine J_getR X (hx) fa_TG_15_0 rfl (hrg) d_TG_same_19 ?_
            refine J_iload_n X d_TG_same_22 rfl rfl ?_
            refine J_aald X (hrk) (by decide) rfl ⟨_, rfl⟩ (rfl) (hi) (by omega) (hh) d_TG_same_23 ?_
            first | refine J_astorer X d_TG_same_24 (by decide) rfl ?_ | refine J_astore X d_TG_same_24 (by decide) rfl ?_ | refine J_astore0 X d_TG_same_24 (by decide) rfl ?_
            first | refine J_aloadr X d_TG_same_26 rfl ?_ | refine J_aload X d_TG_same_26 rfl ?_ | refine J_aload0 X d_TG_same_26 rfl ?_
            refine J_inst0 X d_TG_same_28 ?_
            refine J_if_eq (tgt := 81) X d_TG_same_31 (by decide) (fun g => ?_) (fun g => ?_)
            · exact same2 X H hi hj rfl rfl rfl ⟨by rw [← hh]; exact last True (by rintro ⟨s, t, e, -⟩; rw [hh] at e; cases e), rfl⟩
            · exact absurd rfl g
          | some s =>
            first | refine J_aload_nr X d_TG_same_18 rfl rfl ?_ | refine J_aload_n X d_TG_same_18 rfl rfl ?_ | refine J_aload_n0 X d_TG_same_18 rfl rfl ?_
            refine J_getR X (hx) fa_TG_15_0 rfl (hrg) d_TG_same_19 ?_
            refine J_iload_n X d_TG_same_22 rfl rfl ?_
            refine J_aaldr X (hrk) (by decide) rfl ⟨_, rfl⟩ (rfl) (hi) (by omega) (hh) d_TG_same_23 ?_
            first | refine J_astorer X d_TG_same_24 (by decide) rfl ?_ | refine J_astore X d_TG_same_24 (by decide) rfl ?_ | refine J_astore0 X d_TG_same_24 (by decide) rfl ?_
            first | refine J_aloadr X d_TG_same_26 rfl ?_ | refine J_aload X d_TG_same_26 rfl ?_ | refine J_aload0 X d_TG_same_26 rfl ?_
            have no : isWh w s = false → ¬ ∃ s' t, wP w rg i = some s' ∧ wP w rg j = some t ∧ isWh w s' = true ∧ isWh w t = true ∧ wI w s' 0 = wI w t 0 := by
              rintro hs ⟨s', t, e, -, q, -⟩
              rw [hh] at e
              cases e
              rw [hs] at q
              cases q
            rcases oV_kd (hv i hi) hh with hk | hk | hk
            · refine J_instN X hk in_TG_97_3 d_TG_same_28 ?_
              refine J_if_eq (tgt := 81) X d_TG_same_31 (by decide) (fun g => ?_) (fun g => ?_)
              · exact same2 X H hi hj rfl rfl rfl ⟨by rw [← hh]; exact last True (no (by simp [isWh, hk])), rfl⟩
              · exact absurd rfl g
            · refine J_instN X hk in_TG_97_4 d_TG_same_28 ?_
              refine J_if_eq (tgt := 81) X d_TG_same_31 (by decide) (fun g => ?_) (fun g => ?_)
              · exact same2 X H hi hj rfl rfl rfl ⟨by rw [← hh]; exact last True (no (by simp [isWh, hk])), rfl⟩
              · exact absurd rfl g
            · refine J_instY X hk iy_TG_97_5 d_TG_same_28 ?_
              refine J_if_eq (tgt := 81) X d_TG_same_31 (by decide) (fun g => ?_) (fun g => ?_)
              · exact absurd g (by decide)
              · first | refine J_aloadr X d_TG_same_34 rfl ?_ | refine J_aload X d_TG_same_34 rfl ?_ | refine J_aload0 X d_TG_same_34 rfl ?_
                refine J_cast X hk iy_TG_97_5 d_TG_same_36 ?_
                have hs : isWh w s = true := by simp [isWh, hk]
                cases hh2 : wP w rg j with
                | none =>
                  first | refine J_astore_nr X d_TG_same_39 rfl (by decide) rfl ?_ | refine J_astore_n X d_TG_same_39 rfl (by decide) rfl ?_ | refine J_astore_n0 X d_TG_same_39 rfl (by decide) rfl ?_
                  first | refine J_aload_nr X d_TG_same_40 rfl rfl ?_ | refine J_aload_n X d_TG_same_40 rfl rfl ?_ | refine J_aload_n0 X d_TG_same_40 rfl rfl ?_
                  refine J_getR X (hx) fa_TG_15_0 rfl (hrg) d_TG_same_41 ?_
                  refine J_iload_n X d_TG_same_44 rfl rfl ?_
                  refine J_aald X (hrk) (by decide) rfl ⟨_, rfl⟩ (rfl) (hj) (by omega) (hh2) d_TG_same_45 ?_
                  first | refine J_astorer X d_TG_same_46 (by decide) rfl ?_ | refine J_astore X d_TG_same_46 (by decide) rfl ?_ | refine J_astore0 X d_TG_same_46 (by decide) rfl ?_
                  first | refine J_aloadr X d_TG_same_48 rfl ?_ | refine J_aload X d_TG_same_48 rfl ?_ | refine J_aload0 X d_TG_same_48 rfl ?_
                  refine J_inst0 X d_TG_same_50 ?_
                  refine J_if_eq (tgt := 81) X d_TG_same_53 (by decide) (fun g => ?_) (fun g => ?_)
                  · exact same2 X H hi hj rfl rfl rfl ⟨by rw [← hh, ← hh2]; exact last True (by rintro ⟨s', t, -, e, -⟩; rw [hh2] at e; cases e), rfl⟩
                  · exact absurd rfl g
                | some t =>
                  first | refine J_astore_nr X d_TG_same_39 rfl (by decide) rfl ?_ | refine J_astore_n X d_TG_same_39 rfl (by decide) rfl ?_ | refine J_astore_n0 X d_TG_same_39 rfl (by decide) rfl ?_
                  first | refine J_aload_nr X d_TG_same_40 rfl rfl ?_ | refine J_aload_n X d_TG_same_40 rfl rfl ?_ | refine J_aload_n0 X d_TG_same_40 rfl rfl ?_
                  refine J_getR X (hx) fa_TG_15_0 rfl (hrg) d_TG_same_41 ?_
                  refine J_iload_n X d_TG_same_44 rfl rfl ?_
                  refine J_aaldr X (hrk) (by decide) rfl ⟨_, rfl⟩ (rfl) (hj) (by omega) (hh2) d_TG_same_45 ?_
                  first | refine J_astorer X d_TG_same_46 (by decide) rfl ?_ | refine J_astore X d_TG_same_46 (by decide) rfl ?_ | refine J_astore0 X d_TG_same_46 (by decide) rfl ?_
                  first | refine J_aloadr X d_TG_same_48 rfl ?_ | refine J_aload X d_TG_same_48 rfl ?_ | refine J_aload0 X d_TG_same_48 rfl ?_
                  have no2 : isWh w t = false → ¬ ∃ s' t', wP w rg i = some s' ∧ wP w rg j = some t' ∧ isWh w s' = true ∧ isWh w t' = true ∧ wI w s' 0 = wI w t' 0 := by
                    rintro hs ⟨s', t', -, e, -, q, -⟩
                    rw [hh2] at e
                    cases e
                    rw [hs] at q
                    cases q
                  rcases oV_kd (hv j hj) hh2 with hk2 | hk2 | hk2
                  · refine J_instN X hk2 in_TG_97_3 d_TG_same_50 ?_
                    refine J_if_eq (tgt := 81) X d_TG_same_53 (by decide) (fun g => ?_) (fun g => ?_)
                    · exact same2 X H hi hj rfl rfl rfl ⟨by rw [← hh, ← hh2]; exact last True (no2 (by simp [isWh, hk2])), rfl⟩
                    · exact absurd rfl g
                  · refine J_instN X hk2 in_TG_97_4 d_TG_same_50 ?_
                    refine J_if_eq (tgt := 81) X d_TG_same_53 (by decide) (fun g => ?_) (fun g => ?_)
                    · exact same2 X H hi hj rfl rfl rfl ⟨by rw [← hh, ← hh2]; exact last True (no2 (by simp [isWh, hk2])), rfl⟩
                    · exact absurd rfl g
                  · refine J_instY X hk2 iy_TG_97_5 d_TG_same_50 ?_
                    have ht : isWh w t = true := by simp [isWh, hk2]
                    refine J_if_eq (tgt := 81) X d_TG_same_53 (by decide) (fun g => ?_) (fun g => ?_)
                    · exact absurd g (by decide)
                    · first | refine J_aloadr X d_TG_same_56 rfl ?_ | refine J_aload X d_TG_same_56 rfl ?_ | refine J_aload0 X d_TG_same_56 rfl ?_
                      refine J_cast X hk2 iy_TG_97_5 d_TG_same_58 ?_
                      first | refine J_astorer X d_TG_same_61 (by decide) rfl ?_ | refine J_astore X d_TG_same_61 (by decide) rfl ?_ | refine J_astore0 X d_TG_same_61 (by decide) rfl ?_
                      first | refine J_aload_nr X d_TG_same_63 rfl rfl ?_ | refine J_aload_n X d_TG_same_63 rfl rfl ?_ | refine J_aload_n0 X d_TG_same_63 rfl rfl ?_
                      refine J_getI X (hk) fa_TG_106_5 rfl (rfl) d_TG_same_64 ?_
                      first | refine J_aloadr X d_TG_same_67 rfl ?_ | refine J_aload X d_TG_same_67 rfl ?_ | refine J_aload0 X d_TG_same_67 rfl ?_
                      refine J_getI X (hk2) fa_TG_106_5 rfl (rfl) d_TG_same_69 ?_
                      refine J_icmp_ne (tgt := 79) X d_TG_same_72 (by decide) (fun g => ?_) (fun g => ?_)
                      · refine J_iconst (v := 0) X d_TG_same_79 (by decide) ?_
                        exact J_zret X (Or.inl rfl) ⟨by rw [if_neg (fun q => (sameV_iff.mp q.2.2).elim (fun e => g (by cases e; rfl)) (fun ⟨s', t', e1, e2, _, _, e⟩ => g (by cases e1; cases e2; exact e)))], rfl⟩ (by decide) (by decide) d_TG_same_80
                      · refine J_iconst (v := 1) X d_TG_same_75 (by decide) ?_
                        refine J_goto (tgt := 80) X d_TG_same_76 (by decide) ?_
                        exact J_zret X (Or.inr rfl) ⟨by rw [if_pos ⟨h, h', sameV_iff.mpr (Or.inr ⟨s, t, rfl, rfl, hs, ht, g⟩)⟩], rfl⟩ (by decide) (by decide) d_TG_same_80
        · exact absurd g (by decide)
      · refine J_top (v' := .int 0) (by rw [if_neg h']) ?_
        refine J_if_ne (tgt := 18) X d_TG_same_13 (by decide) (fun g => ?_) (fun g => ?_)
        · exact absurd rfl g
        · refine J_iconst (v := 0) X d_TG_same_16 (by decide) ?_
          exact J_zret X (Or.inl rfl) ⟨by rw [if_neg (fun q => h' q.2.1)], rfl⟩ (by decide) (by decide) d_TG_same_17
  · refine J_top (v' := .int 0) (by rw [if_neg h]) ?_
    refine J_if_eq (tgt := 16) X d_TG_same_5 (by decide) (fun g => ?_) (fun g => ?_)
    · refine J_iconst (v := 0) X d_TG_same_16 (by decide) ?_
      exact J_zret X (Or.inl rfl) ⟨by rw [if_neg (fun q => h q.1)], rfl⟩ (by decide) (by decide) d_TG_same_17
    · exact absurd rfl g
end RD
end
section
/-! what throws; the methods that may throw; reach, great -/
theorem xd_at50 : ∀ x ∈ vx_atS "TwoGenerations" 50 "java/lang/IllegalArgumentException" ["java/lang/RuntimeException", "java/lang/Exception"], x ∈ TT := by decide +kernel
theorem xd_at136 : ∀ x ∈ vx_atS "TwoGenerations" 136 "java/lang/IllegalStateException" ["java/lang/RuntimeException", "java/lang/Exception"], x ∈ TT := by decide +kernel
theorem xd_ot50 : ∀ x ∈ Cond.classLink "TwoGenerations" 46 "java/lang/IllegalArgumentException" :: Cond.initialized "java/lang/IllegalArgumentException" :: vx_atS "TwoGenerations" 50 "java/lang/IllegalArgumentException" ["java/lang/RuntimeException", "java/lang/Exception"], vx_ot x = true := by decide +kernel
theorem xd_ot136 : ∀ x ∈ Cond.classLink "TwoGenerations" 132 "java/lang/IllegalStateException" :: Cond.initialized "java/lang/IllegalStateException" :: vx_atS "TwoGenerations" 136 "java/lang/IllegalStateException" ["java/lang/RuntimeException", "java/lang/Exception"], vx_ot x = true := by decide +kernel
theorem xd_IA {is : Nat} {text : String} (h : (is, text) ∈ srL) : XD "TwoGenerations" 46 is 50 "java/lang/IllegalArgumentException" text := ⟨by decide +kernel, by decide +kernel, by decide +kernel, h, xd_at50, xd_ot50⟩
theorem xd_IS {is : Nat} {text : String} (h : (is, text) ∈ srL) : XD "TwoGenerations" 132 is 136 "java/lang/IllegalStateException" text := ⟨by decide +kernel, by decide +kernel, by decide +kernel, h, xd_at136, xd_ot136⟩
theorem sr_48 : (48, "no such register, or too few or too many fields") ∈ srL := by decide
theorem sr_134 : (134, "the old generation is full") ∈ srL := by decide
theorem sr_64 : (64, "no such register, or no object to aim at") ∈ srL := by decide
theorem sr_78 : (78, "no such register or field") ∈ srL := by decide
theorem sr_87 : (87, "no such register, or no weak cell") ∈ srL := by decide
theorem sr_95 : (95, "no such register, or the int is out of range") ∈ srL := by decide
theorem sr_100 : (100, "no such register") ∈ srL := by decide
end
section
/-! number, clear, move, load, store, target -/
abbrev IAE : String := "java/lang/IllegalArgumentException"
abbrev ISE : String := "java/lang/IllegalStateException"
theorem only_some {w : Wd} {d : Nat → Bool} {o : Option Nat} {t : Nat} (h : only w d o = some t) : o = some t ∧ d t = true := by
  cases o with
  | none => cases h
  | some u =>
    rw [only] at h
    split at h
    · cases h; exact ⟨rfl, by assumption⟩
    · cases h
theorem isP_k {w : Wd} {t : Nat} (h : isP w t = true) : wK w t = some (.inl 3) := by
  unfold isP at h
  split at h
  · assumption
  · cases h
theorem isWk_k {w : Wd} {t : Nat} (h : isWk w t = true) : wK w t = some (.inl 4) := by
  unfold isWk at h
  split at h
  · assumption
  · cases h
theorem oV_aast {w : Wd} {o : Option Nat} (h : oV w o) : ∀ y, o = some y → ∃ ci, wK w y = some (.inl ci) ∧ AC ci 3 := fun y e => by
  rcases oV_kd h e with hk | hk | hk
  · exact ⟨3, hk, ac_3_3⟩
  · exact ⟨4, hk, ac_4_3⟩
  · exact ⟨5, hk, ac_5_3⟩
theorem nI_of1 {n : Nat} {r : Int32} (hn : n < 2 ^ 31) (h0 : 0 ≤ r) (h1 : r < nI n) : ∃ k, k < n ∧ r = nI k := by
  obtain ⟨k, hk, rfl⟩ := nI_of (Int32.not_lt.mpr h0)
  exact ⟨k, (nI_ltI hk hn).mp h1, rfl⟩
section SE
variable {l : Launch} {Δ : Dat} {w : Wd} {x rg nr : Nat} {r : Int32}
set_option maxRecDepth 100000 in
theorem k_clear (hfl : l.stackTraces = false) (H : Rg w x rg nr) : Cx2 l y_TG_clear h_TG_clear (rmL 6 1 6) Δ [.ref x, .int r] w (fun q w' => q = none ∧ ∃ i, i < nr ∧ r = nI i ∧ w' = uP w rg i none) (fun E w' => E = IAE ∧ ¬ regB nr r ∧ w' = w) := by
  have H' := H
  obtain ⟨hx, hrg, hrk, h1, h2⟩ := H'
  refine Cx2_of (L := [some (.ref x), some (.int r)]) (by decide) (by first | exact Nat.le_of_ble_eq_true rfl | simp [lg_sl, va_rf_cat, vc_r, vc_i, vc_0]) (by first | rfl | simp [lin, va_rf_cat, vc_r, vc_i, vc_0]) (fun Γ X HT => ?_)
  first | refine J_aload_nr X d_TG_clear_0 rfl rfl ?_ | refine J_aload_n X d_TG_clear_0 rfl rfl ?_ | refine J_aload_n0 X d_TG_clear_0 rfl rfl ?_
  refine J_iload_n X d_TG_clear_1 rfl rfl ?_
  refine J_callV X (hx) rfl (k_isRegister (r := r) H) cd_TG_isRegister lk_TG_42 vi_TG_isRegister (by decide) (by decide) (by decide) (by decide) rfl (by first | decide | simp [va_rf_cat, vc_r, vc_i, vc_0]) d_TG_clear_2 (fun q w1 hq => ?_)
  obtain ⟨rfl, hw1⟩ := hq
  refine J_eq hw1 rfl ?_
  by_cases h : regB nr r
  · refine J_top (v' := .int 1) (by rw [if_pos h]) ?_
    refine J_if_ne (tgt := 18) X d_TG_clear_5 (by decide) (fun g => ?_) (fun g => ?_)
    · obtain ⟨i, hi, rfl⟩ := regB_at h1 h2 h
      first | refine J_aload_nr X d_TG_clear_18 rfl rfl ?_ | refine J_aload_n X d_TG_clear_18 rfl rfl ?_ | refine J_aload_n0 X d_TG_clear_18 rfl rfl ?_
      refine J_getR X (hx) fa_TG_15_0 rfl (hrg) d_TG_clear_19 ?_
      refine J_iload_n X d_TG_clear_22 rfl rfl ?_
      refine J_null X d_TG_clear_23 ?_
      refine J_aast0 X hrk (by decide) rfl ⟨_, rfl⟩ rfl hi (by omega) d_TG_clear_24 ?_
      exact J_lift (J_vret X ⟨rfl, i, hi, rfl, rfl⟩ (by decide) (by decide) d_TG_clear_25)
    · exact absurd g (by decide)
  · refine J_top (v' := .int 0) (by rw [if_neg h]) ?_
    refine J_if_ne (tgt := 18) X d_TG_clear_5 (by decide) (fun g => ?_) (fun g => ?_)
    · exact absurd rfl g
    · exact J_throw X hfl HT (xd_IA sr_100) (⟨rfl, h, rfl⟩) d_TG_clear_8 d_TG_clear_11 d_TG_clear_12 d_TG_clear_14 d_TG_clear_17 (by decide) (by decide) (by decide) (by decide) (by decide) (by decide) (by decide)
set_option maxRecDepth 100000 in
theorem k_move {r2 : Int32} (hfl : l.stackTraces = false) (H : Rg w x rg nr) (hv : ∀ j, j < nr → oV w (wP w rg j)) : Cx2 l y_TG_move h_TG_move (rmL 6 1 6) Δ [.ref x, .int r, .int r2] w (fun q w' => q = none ∧ ∃ i j, i < nr ∧ r = nI i ∧ j < nr ∧ r2 = nI j ∧ w' = uP w rg i (wP w rg j)) (fun E w' => E = IAE ∧ ¬ (regB nr r ∧ regB nr r2) ∧ w' = w) := by
  have H' := H
  obtain ⟨hx, hrg, hrk, h1, h2⟩ := H'
  refine Cx2_of (L := [some (.ref x), some (.int r), some (.int r2)]) (by decide) (by first | exact Nat.le_of_ble_eq_true rfl | simp [lg_sl, va_rf_cat, vc_r, vc_i, vc_0]) (by first | rfl | simp [lin, va_rf_cat, vc_r, vc_i, vc_0]) (fun Γ X HT => ?_)
  first | refine J_aload_nr X d_TG_move_0 rfl rfl ?_ | refine J_aload_n X d_TG_move_0 rfl rfl ?_ | refine J_aload_n0 X d_TG_move_0 rfl rfl ?_
  refine J_iload_n X d_TG_move_1 rfl rfl ?_
  refine J_callV X (hx) rfl (k_isRegister (r := r) H) cd_TG_isRegister lk_TG_42 vi_TG_isRegister (by decide) (by decide) (by decide) (by decide) rfl (by first | decide | simp [va_rf_cat, vc_r, vc_i, vc_0]) d_TG_move_2 (fun q w1 hq => ?_)
  obtain ⟨rfl, hw1⟩ := hq
  refine J_eq hw1 rfl ?_
  by_cases h : regB nr r
  · refine J_top (v' := .int 1) (by rw [if_pos h]) ?_
    refine J_if_eq (tgt := 16) X d_TG_move_5 (by decide) (fun g => ?_) (fun g => ?_)
    · exact absurd g (by decide)
    · first | refine J_aload_nr X d_TG_move_8 rfl rfl ?_ | refine J_aload_n X d_TG_move_8 rfl rfl ?_ | refine J_aload_n0 X d_TG_move_8 rfl rfl ?_
      refine J_iload_n X d_TG_move_9 rfl rfl ?_
      refine J_callV X (hx) rfl (k_isRegister (r := r2) H) cd_TG_isRegister lk_TG_42 vi_TG_isRegister (by decide) (by decide) (by decide) (by decide) rfl (by first | decide | simp [va_rf_cat, vc_r, vc_i, vc_0]) d_TG_move_10 (fun q w2 hq => ?_)
      obtain ⟨rfl, hw2⟩ := hq
      refine J_eq hw2 rfl ?_
      by_cases h' : regB nr r2
      · refine J_top (v' := .int 1) (by rw [if_pos h']) ?_
        obtain ⟨i, hi, rfl⟩ := regB_at h1 h2 h
        obtain ⟨j, hj, rfl⟩ := regB_at h1 h2 h'
        refine J_if_ne (tgt := 26) X d_TG_move_13 (by decide) (fun g => ?_) (fun g => ?_)
        · first | refine J_aload_nr X d_TG_move_26 rfl rfl ?_ | refine J_aload_n X d_TG_move_26 rfl rfl ?_ | refine J_aload_n0 X d_TG_move_26 rfl rfl ?_
          refine J_getR X (hx) fa_TG_15_0 rfl (hrg) d_TG_move_27 ?_
          refine J_iload_n X d_TG_move_30 rfl rfl ?_
          first | refine J_aload_nr X d_TG_move_31 rfl rfl ?_ | refine J_aload_n X d_TG_move_31 rfl rfl ?_ | refine J_aload_n0 X d_TG_move_31 rfl rfl ?_
          refine J_getR X (hx) fa_TG_15_0 rfl (hrg) d_TG_move_32 ?_
          refine J_iload_n X d_TG_move_35 rfl rfl ?_
          refine J_aald X (hrk) (by decide) rfl ⟨_, rfl⟩ (rfl) (hj) (by omega) (rfl) d_TG_move_36 ?_
          refine J_aast X hrk (by decide) rfl ⟨_, rfl⟩ (oV_aast (hv j hj)) rfl hi (by omega) d_TG_move_37 ?_
          exact J_lift (J_vret X ⟨rfl, i, j, hi, rfl, hj, rfl, rfl⟩ (by decide) (by decide) d_TG_move_38)
        · exact absurd g (by decide)
      · refine J_top (v' := .int 0) (by rw [if_neg h']) ?_
        refine J_if_ne (tgt := 26) X d_TG_move_13 (by decide) (fun g => ?_) (fun g => ?_)
        · exact absurd rfl g
        · exact J_throw X hfl HT (xd_IA sr_100) (⟨rfl, fun q => h' q.2, rfl⟩) d_TG_move_16 d_TG_move_19 d_TG_move_20 d_TG_move_22 d_TG_move_25 (by decide) (by decide) (by decide) (by decide) (by decide) (by decide) (by decide)
  · refine J_top (v' := .int 0) (by rw [if_neg h]) ?_
    refine J_if_eq (tgt := 16) X d_TG_move_5 (by decide) (fun g => ?_) (fun g => ?_)
    · exact J_throw X hfl HT (xd_IA sr_100) (⟨rfl, fun q => h q.1, rfl⟩) d_TG_move_16 d_TG_move_19 d_TG_move_20 d_TG_move_22 d_TG_move_25 (by decide) (by decide) (by decide) (by decide) (by decide) (by decide) (by decide)
    · exact absurd rfl g
set_option maxRecDepth 100000 in
theorem k_number {v : Int32} (hfl : l.stackTraces = false) (H : Rg w x rg nr) : Cx2 l y_TG_number h_TG_number (rmL 6 1 6) Δ [.ref x, .int r, .int v] w (fun q w' => q = none ∧ ∃ i a, i < nr ∧ r = nI i ∧ (-1073741824 ≤ v ∧ v ≤ 1073741823) ∧ wK w a = none ∧ w' = uP (uI (uN w a (.inl 5)) a 0 v) rg i (some a)) (fun E w' => E = IAE ∧ ¬ (regB nr r ∧ (-1073741824 ≤ v ∧ v ≤ 1073741823)) ∧ w' = w) := by
  have H' := H
  obtain ⟨hx, hrg, hrk, h1, h2⟩ := H'
  refine Cx2_of (L := [some (.ref x), some (.int r), some (.int v)]) (by decide) (by first | exact Nat.le_of_ble_eq_true rfl | simp [lg_sl, va_rf_cat, vc_r, vc_i, vc_0]) (by first | rfl | simp [lin, va_rf_cat, vc_r, vc_i, vc_0]) (fun Γ X HT => ?_)
  first | refine J_aload_nr X d_TG_number_0 rfl rfl ?_ | refine J_aload_n X d_TG_number_0 rfl rfl ?_ | refine J_aload_n0 X d_TG_number_0 rfl rfl ?_
  refine J_iload_n X d_TG_number_1 rfl rfl ?_
  refine J_callV X (hx) rfl (k_isRegister (r := r) H) cd_TG_isRegister lk_TG_42 vi_TG_isRegister (by decide) (by decide) (by decide) (by decide) rfl (by first | decide | simp [va_rf_cat, vc_r, vc_i, vc_0]) d_TG_number_2 (fun q w1 hq => ?_)
  obtain ⟨rfl, hw1⟩ := hq
  refine J_eq hw1 rfl ?_
  by_cases h : regB nr r
  · refine J_top (v' := .int 1) (by rw [if_pos h]) ?_
    refine J_if_eq (tgt := 19) X d_TG_number_5 (by decide) (fun g => ?_) (fun g => ?_)
    · exact absurd g (by decide)
    · refine J_iload_n X d_TG_number_8 rfl rfl ?_
      refine J_ldc X d_TG_number_9 m_433 ?_
      refine J_ldc X d_TG_number_11 m_434 ?_
      refine J_callS X (k_within (v := v) (lo := -1073741824) (hi := 1073741823)) cd_TG_within lk_TG_7 st_TG_within (by decide) (by decide) (by decide) (by decide) rfl (by first | decide | simp [va_rf_cat, vc_r, vc_i, vc_0]) d_TG_number_13 (fun q w2 hq => ?_)
      obtain ⟨rfl, hw2⟩ := hq
      refine J_eq hw2 rfl ?_
      by_cases h' : -1073741824 ≤ v ∧ v ≤ 1073741823
      · refine J_top (v' := .int 1) (by rw [if_pos h']) ?_
        obtain ⟨i, hi, rfl⟩ := regB_at h1 h2 h
        refine J_if_ne (tgt := 29) X d_TG_number_16 (by decide) (fun g => ?_) (fun g => ?_)
        · first | refine J_aload_nr X d_TG_number_29 rfl rfl ?_ | refine J_aload_n X d_TG_number_29 rfl rfl ?_ | refine J_aload_n0 X d_TG_number_29 rfl rfl ?_
          refine J_getR X (hx) fa_TG_15_0 rfl (hrg) d_TG_number_30 ?_
          refine J_iload_n X d_TG_number_33 rfl rfl ?_
          refine J_new X nd_TG_97 (by decide) (by decide) d_TG_number_34 (fun a ha => ?_)
          have hak : wK (uN w a (.inl 5)) a = some (.inl 5) := by rw [wK_uN, if_pos rfl]
          have hrga : rg ≠ a := ne_new hrk ha
          refine J_dup X d_TG_number_37 (rfl) ?_
          refine J_iload_n X d_TG_number_38 rfl rfl ?_
          refine J_callI X (k_Wh_init (a := a) (n := v) hak) cd_Wh_init lk_TG_99 ii_Wh_init (by decide) (by decide) (by decide) (by decide) rfl (by first | decide | simp [va_rf_cat, vc_r, vc_i, vc_0]) d_TG_number_39 (fun r w1 hr => ?_)
          obtain ⟨rfl, rfl⟩ := hr
          refine J_aastr X (n := nr) (by rw [wK_uI, wK_uN, if_neg hrga]; exact hrk) (by decide) rfl ⟨_, rfl⟩ ⟨5, hak, ac_5_3⟩ rfl hi (by omega) d_TG_number_42 ?_
          exact J_lift (J_vret X ⟨rfl, i, a, hi, rfl, h', ha, rfl⟩ (by decide) (by decide) d_TG_number_43)
        · exact absurd g (by decide)
      · refine J_top (v' := .int 0) (by rw [if_neg h']) ?_
        refine J_if_ne (tgt := 29) X d_TG_number_16 (by decide) (fun g => ?_) (fun g => ?_)
        · exact absurd rfl g
        · exact J_throw X hfl HT (xd_IA sr_95) (⟨rfl, fun q => h' q.2, rfl⟩) d_TG_number_19 d_TG_number_22 d_TG_number_23 d_TG_number_25 d_TG_number_28 (by decide) (by decide) (by decide) (by decide) (by decide) (by decide) (by decide)
  · refine J_top (v' := .int 0) (by rw [if_neg h]) ?_
    refine J_if_eq (tgt := 19) X d_TG_number_5 (by decide) (fun g => ?_) (fun g => ?_)
    · exact J_throw X hfl HT (xd_IA sr_95) (⟨rfl, fun q => h q.1, rfl⟩) d_TG_number_19 d_TG_number_22 d_TG_number_23 d_TG_number_25 d_TG_number_28 (by decide) (by decide) (by decide) (by decide) (by decide) (by decide) (by decide)
    · exact absurd rfl g
set_option maxRecDepth 100000 in
theorem k_target {r2 : Int32} (hfl : l.stackTraces = false) (H : Rg w x rg nr) (hT : HT w rg nr) : Cx2 l y_TG_target h_TG_target (rmL 6 1 6) Δ [.ref x, .int r, .int r2] w (fun q w' => q = none ∧ ∃ i t, i < nr ∧ r = nI i ∧ only w (isWk w) (held w rg nr r2) = some t ∧ w' = uP w rg i (wP w t 3)) (fun E w' => E = IAE ∧ ¬ (regB nr r ∧ ∃ t, only w (isWk w) (held w rg nr r2) = some t) ∧ w' = w) := by
  have H' := H
  obtain ⟨hx, hrg, hrk, h1, h2⟩ := H'
  have hv := hT.2.2.2
  refine Cx2_of (L := [some (.ref x), some (.int r), some (.int r2), none]) (by decide) (by first | exact Nat.le_of_ble_eq_true rfl | simp [lg_sl, va_rf_cat, vc_r, vc_i, vc_0]) (by first | rfl | simp [lin, va_rf_cat, vc_r, vc_i, vc_0]) (fun Γ X HT => ?_)
  first | refine J_aload_nr X d_TG_target_0 rfl rfl ?_ | refine J_aload_n X d_TG_target_0 rfl rfl ?_ | refine J_aload_n0 X d_TG_target_0 rfl rfl ?_
  refine J_iload_n X d_TG_target_1 rfl rfl ?_
  refine J_callV X (hx) rfl (k_weakIn (r := r2) H hv) cd_TG_weakIn lk_TG_83 vi_TG_weakIn (by decide) (by decide) (by decide) (by decide) rfl (by first | decide | simp [va_rf_cat, vc_r, vc_i, vc_0]) d_TG_target_2 (fun q w1 hq => ?_)
  obtain ⟨rfl, hw1⟩ := hq
  refine J_eq hw1 rfl ?_
  first | refine J_astore_nr X d_TG_target_5 rfl (by decide) rfl ?_ | refine J_astore_n X d_TG_target_5 rfl (by decide) rfl ?_ | refine J_astore_n0 X d_TG_target_5 rfl (by decide) rfl ?_
  first | refine J_aload_nr X d_TG_target_6 rfl rfl ?_ | refine J_aload_n X d_TG_target_6 rfl rfl ?_ | refine J_aload_n0 X d_TG_target_6 rfl rfl ?_
  refine J_iload_n X d_TG_target_7 rfl rfl ?_
  refine J_callV X (hx) rfl (k_isRegister (r := r) H) cd_TG_isRegister lk_TG_42 vi_TG_isRegister (by decide) (by decide) (by decide) (by decide) rfl (by first | decide | simp [va_rf_cat, vc_r, vc_i, vc_0]) d_TG_target_8 (fun q w1 hq => ?_)
  obtain ⟨rfl, hw1⟩ := hq
  refine J_eq hw1 rfl ?_
  by_cases h : regB nr r
  · refine J_top (v' := .int 1) (by rw [if_pos h]) ?_
    refine J_if_eq (tgt := 18) X d_TG_target_11 (by decide) (fun g => ?_) (fun g => ?_)
    · exact absurd g (by decide)
    · cases hh : only w (isWk w) (held w rg nr r2) with
      | none =>
        first | refine J_aload_nr X d_TG_target_14 rfl rfl ?_ | refine J_aload_n X d_TG_target_14 rfl rfl ?_ | refine J_aload_n0 X d_TG_target_14 rfl rfl ?_
        refine J_ifnonnull0 X d_TG_target_15 ?_
        exact J_throw X hfl HT (xd_IA sr_87) (⟨rfl, fun q => (by obtain ⟨t, ht⟩ := q.2; cases ht), rfl⟩) d_TG_target_18 d_TG_target_21 d_TG_target_22 d_TG_target_24 d_TG_target_27 (by decide) (by decide) (by decide) (by decide) (by decide) (by decide) (by decide)
      | some t =>
        first | refine J_aload_nr X d_TG_target_14 rfl rfl ?_ | refine J_aload_n X d_TG_target_14 rfl rfl ?_ | refine J_aload_n0 X d_TG_target_14 rfl rfl ?_
        refine J_ifnonnullr (tgt := 28) X d_TG_target_15 (by decide) ?_
        obtain ⟨i, hi, rfl⟩ := regB_at h1 h2 h
        have hk := isWk_k (only_some hh).2
        first | refine J_aload_nr X d_TG_target_28 rfl rfl ?_ | refine J_aload_n X d_TG_target_28 rfl rfl ?_ | refine J_aload_n0 X d_TG_target_28 rfl rfl ?_
        refine J_getR X (hx) fa_TG_15_0 rfl (hrg) d_TG_target_29 ?_
        refine J_iload_n X d_TG_target_32 rfl rfl ?_
        first | refine J_aload_nr X d_TG_target_33 rfl rfl ?_ | refine J_aload_n X d_TG_target_33 rfl rfl ?_ | refine J_aload_n0 X d_TG_target_33 rfl rfl ?_
        refine J_getP X (hk) fa_TG_89_4 rfl (rfl) d_TG_target_34 ?_
        refine J_aast X hrk (by decide) rfl ⟨_, rfl⟩ (oV_aast (fun u hu => Or.inl ((hT.2.2.1 t hk).2 u hu))) rfl hi (by omega) d_TG_target_37 ?_
        exact J_lift (J_vret X ⟨rfl, i, t, hi, rfl, rfl, rfl⟩ (by decide) (by decide) d_TG_target_38)
  · refine J_top (v' := .int 0) (by rw [if_neg h]) ?_
    refine J_if_eq (tgt := 18) X d_TG_target_11 (by decide) (fun g => ?_) (fun g => ?_)
    · exact J_throw X hfl HT (xd_IA sr_87) (⟨rfl, fun q => h q.1, rfl⟩) d_TG_target_18 d_TG_target_21 d_TG_target_22 d_TG_target_24 d_TG_target_27 (by decide) (by decide) (by decide) (by decide) (by decide) (by decide) (by decide)
    · exact absurd rfl g
set_option maxRecDepth 100000 in
theorem k_load {r2 r3 : Int32} (hfl : l.stackTraces = false) (H : Rg w x rg nr) (hT : HT w rg nr) : Cx2 l y_TG_load h_TG_load (rmL 6 1 6) Δ [.ref x, .int r, .int r2, .int r3] w (fun q w' => q = none ∧ ∃ i t c n k, i < nr ∧ r = nI i ∧ only w (isP w) (held w rg nr r2) = some t ∧ wP w t 3 = some c ∧ wK w c = some (.inr (3, n)) ∧ k < n ∧ r3 = nI k ∧ w' = uP w rg i (wP w c k)) (fun E w' => E = IAE ∧ ¬ (regB nr r ∧ ∃ t, only w (isP w) (held w rg nr r2) = some t ∧ 0 ≤ r3 ∧ r3 < nI (sucL w t).length) ∧ w' = w) := by
  have H' := H
  obtain ⟨hx, hrg, hrk, h1, h2⟩ := H'
  have hv := hT.2.2.2
  refine Cx2_of (L := [some (.ref x), some (.int r), some (.int r2), some (.int r3), none]) (by decide) (by first | exact Nat.le_of_ble_eq_true rfl | simp [lg_sl, va_rf_cat, vc_r, vc_i, vc_0]) (by first | rfl | simp [lin, va_rf_cat, vc_r, vc_i, vc_0]) (fun Γ X HT => ?_)
  first | refine J_aload_nr X d_TG_load_0 rfl rfl ?_ | refine J_aload_n X d_TG_load_0 rfl rfl ?_ | refine J_aload_n0 X d_TG_load_0 rfl rfl ?_
  refine J_iload_n X d_TG_load_1 rfl rfl ?_
  refine J_callV X (hx) rfl (k_plainIn (r := r2) H hv) cd_TG_plainIn lk_TG_71 vi_TG_plainIn (by decide) (by decide) (by decide) (by decide) rfl (by first | decide | simp [va_rf_cat, vc_r, vc_i, vc_0]) d_TG_load_2 (fun q w1 hq => ?_)
  obtain ⟨rfl, hw1⟩ := hq
  refine J_eq hw1 rfl ?_
  first | refine J_astorer X d_TG_load_5 (by decide) rfl ?_ | refine J_astore X d_TG_load_5 (by decide) rfl ?_ | refine J_astore0 X d_TG_load_5 (by decide) rfl ?_
  first | refine J_aload_nr X d_TG_load_7 rfl rfl ?_ | refine J_aload_n X d_TG_load_7 rfl rfl ?_ | refine J_aload_n0 X d_TG_load_7 rfl rfl ?_
  refine J_iload_n X d_TG_load_8 rfl rfl ?_
  refine J_callV X (hx) rfl (k_isRegister (r := r) H) cd_TG_isRegister lk_TG_42 vi_TG_isRegister (by decide) (by decide) (by decide) (by decide) rfl (by first | decide | simp [va_rf_cat, vc_r, vc_i, vc_0]) d_TG_load_9 (fun q w1 hq => ?_)
  obtain ⟨rfl, hw1⟩ := hq
  refine J_eq hw1 rfl ?_
  by_cases h : regB nr r
  · refine J_top (v' := .int 1) (by rw [if_pos h]) ?_
    refine J_if_eq (tgt := 29) X d_TG_load_12 (by decide) (fun g => ?_) (fun g => ?_)
    · exact absurd g (by decide)
    · cases hh : only w (isP w) (held w rg nr r2) with
      | none =>
        first | refine J_aloadr X d_TG_load_15 rfl ?_ | refine J_aload X d_TG_load_15 rfl ?_ | refine J_aload0 X d_TG_load_15 rfl ?_
        refine J_ifnull0 (tgt := 29) X d_TG_load_17 (by decide) ?_
        exact J_throw X hfl HT (xd_IA sr_78) (⟨rfl, fun q => (by obtain ⟨t, ht, -⟩ := q.2; cases ht), rfl⟩) d_TG_load_29 d_TG_load_32 d_TG_load_33 d_TG_load_35 d_TG_load_38 (by decide) (by decide) (by decide) (by decide) (by decide) (by decide) (by decide)
      | some t =>
        first | refine J_aloadr X d_TG_load_15 rfl ?_ | refine J_aload X d_TG_load_15 rfl ?_ | refine J_aload0 X d_TG_load_15 rfl ?_
        refine J_ifnullr X d_TG_load_17 ?_
        have hk := isP_k (only_some hh).2
        obtain ⟨c, n, e1, e2, e3, -, -, e4⟩ := hT.1 t hk
        have el : (sucL w t).length = n := by rw [sucL_of (w := w) hk e1 e2]; simp [rowL]
        first | refine J_aloadr X d_TG_load_20 rfl ?_ | refine J_aload X d_TG_load_20 rfl ?_ | refine J_aload0 X d_TG_load_20 rfl ?_
        refine J_iload_n X d_TG_load_22 rfl rfl ?_
        refine J_callV X (hk) rfl (k_hasField (i := r3) hk e1 e2) cd_Pl_hasField lk_TG_75 vi_Pl_hasField (by decide) (by decide) (by decide) (by decide) rfl (by first | decide | simp [va_rf_cat, vc_r, vc_i, vc_0]) d_TG_load_23 (fun q w1 hq => ?_)
        obtain ⟨rfl, hw1⟩ := hq
        refine J_eq hw1 rfl ?_
        by_cases h' : 0 ≤ r3 ∧ r3 < nI n
        · refine J_top (v' := .int 1) (by rw [if_pos h']) ?_
          obtain ⟨i, hi, rfl⟩ := regB_at h1 h2 h
          refine J_if_ne (tgt := 39) X d_TG_load_26 (by decide) (fun g => ?_) (fun g => ?_)
          · obtain ⟨k, hkn, rfl⟩ : ∃ k, k < n ∧ r3 = nI k := nI_of1 (by omega) h'.1 h'.2
            first | refine J_aload_nr X d_TG_load_39 rfl rfl ?_ | refine J_aload_n X d_TG_load_39 rfl rfl ?_ | refine J_aload_n0 X d_TG_load_39 rfl rfl ?_
            refine J_getR X (hx) fa_TG_15_0 rfl (hrg) d_TG_load_40 ?_
            refine J_iload_n X d_TG_load_43 rfl rfl ?_
            first | refine J_aloadr X d_TG_load_44 rfl ?_ | refine J_aload X d_TG_load_44 rfl ?_ | refine J_aload0 X d_TG_load_44 rfl ?_
            refine J_getR X (hk) fa_TG_80_3 rfl (e1) d_TG_load_46 ?_
            refine J_iload_n X d_TG_load_49 rfl rfl ?_
            refine J_aald X (e2) (by decide) rfl ⟨_, rfl⟩ (rfl) (hkn) (by omega) (rfl) d_TG_load_50 ?_
            refine J_aast X hrk (by decide) rfl ⟨_, rfl⟩ (oV_aast (e4 k hkn)) rfl hi (by omega) d_TG_load_51 ?_
            exact J_lift (J_vret X ⟨rfl, i, t, c, n, k, hi, rfl, rfl, e1, e2, hkn, rfl, rfl⟩ (by decide) (by decide) d_TG_load_52)
          · exact absurd g (by decide)
        · refine J_top (v' := .int 0) (by rw [if_neg h']) ?_
          refine J_if_ne (tgt := 39) X d_TG_load_26 (by decide) (fun g => ?_) (fun g => ?_)
          · exact absurd rfl g
          · exact J_throw X hfl HT (xd_IA sr_78) (⟨rfl, fun q => by obtain ⟨u, hu, a1, a2⟩ := q.2; cases hu; rw [el] at a2; exact h' ⟨a1, a2⟩, rfl⟩) d_TG_load_29 d_TG_load_32 d_TG_load_33 d_TG_load_35 d_TG_load_38 (by decide) (by decide) (by decide) (by decide) (by decide) (by decide) (by decide)
  · refine J_top (v' := .int 0) (by rw [if_neg h]) ?_
    refine J_if_eq (tgt := 29) X d_TG_load_12 (by decide) (fun g => ?_) (fun g => ?_)
    · exact J_throw X hfl HT (xd_IA sr_78) (⟨rfl, fun q => h q.1, rfl⟩) d_TG_load_29 d_TG_load_32 d_TG_load_33 d_TG_load_35 d_TG_load_38 (by decide) (by decide) (by decide) (by decide) (by decide) (by decide) (by decide)
    · exact absurd rfl g
set_option maxRecDepth 100000 in
theorem k_store {r2 r3 : Int32} (hfl : l.stackTraces = false) (H : Rg w x rg nr) (hT : HT w rg nr) : Cx2 l y_TG_store h_TG_store (rmL 6 1 6) Δ [.ref x, .int r, .int r2, .int r3] w (fun q w' => q = none ∧ ∃ j t c n k, j < nr ∧ r3 = nI j ∧ only w (isP w) (held w rg nr r) = some t ∧ wP w t 3 = some c ∧ wK w c = some (.inr (3, n)) ∧ k < n ∧ r2 = nI k ∧ w' = uP w c k (wP w rg j)) (fun E w' => E = IAE ∧ ¬ (regB nr r3 ∧ ∃ t, only w (isP w) (held w rg nr r) = some t ∧ 0 ≤ r2 ∧ r2 < nI (sucL w t).length) ∧ w' = w) := by
  have H' := H
  obtain ⟨hx, hrg, hrk, h1, h2⟩ := H'
  have hv := hT.2.2.2
  refine Cx2_of (L := [some (.ref x), some (.int r), some (.int r2), some (.int r3), none]) (by decide) (by first | exact Nat.le_of_ble_eq_true rfl | simp [lg_sl, va_rf_cat, vc_r, vc_i, vc_0]) (by first | rfl | simp [lin, va_rf_cat, vc_r, vc_i, vc_0]) (fun Γ X HT => ?_)
  first | refine J_aload_nr X d_TG_store_0 rfl rfl ?_ | refine J_aload_n X d_TG_store_0 rfl rfl ?_ | refine J_aload_n0 X d_TG_store_0 rfl rfl ?_
  refine J_iload_n X d_TG_store_1 rfl rfl ?_
  refine J_callV X (hx) rfl (k_plainIn (r := r) H hv) cd_TG_plainIn lk_TG_71 vi_TG_plainIn (by decide) (by decide) (by decide) (by decide) rfl (by first | decide | simp [va_rf_cat, vc_r, vc_i, vc_0]) d_TG_store_2 (fun q w1 hq => ?_)
  obtain ⟨rfl, hw1⟩ := hq
  refine J_eq hw1 rfl ?_
  first | refine J_astorer X d_TG_store_5 (by decide) rfl ?_ | refine J_astore X d_TG_store_5 (by decide) rfl ?_ | refine J_astore0 X d_TG_store_5 (by decide) rfl ?_
  first | refine J_aload_nr X d_TG_store_7 rfl rfl ?_ | refine J_aload_n X d_TG_store_7 rfl rfl ?_ | refine J_aload_n0 X d_TG_store_7 rfl rfl ?_
  refine J_iload_n X d_TG_store_8 rfl rfl ?_
  refine J_callV X (hx) rfl (k_isRegister (r := r3) H) cd_TG_isRegister lk_TG_42 vi_TG_isRegister (by decide) (by decide) (by decide) (by decide) rfl (by first | decide | simp [va_rf_cat, vc_r, vc_i, vc_0]) d_TG_store_9 (fun q w1 hq => ?_)
  obtain ⟨rfl, hw1⟩ := hq
  refine J_eq hw1 rfl ?_
  by_cases h : regB nr r3
  · refine J_top (v' := .int 1) (by rw [if_pos h]) ?_
    refine J_if_eq (tgt := 29) X d_TG_store_12 (by decide) (fun g => ?_) (fun g => ?_)
    · exact absurd g (by decide)
    · cases hh : only w (isP w) (held w rg nr r) with
      | none =>
        first | refine J_aloadr X d_TG_store_15 rfl ?_ | refine J_aload X d_TG_store_15 rfl ?_ | refine J_aload0 X d_TG_store_15 rfl ?_
        refine J_ifnull0 (tgt := 29) X d_TG_store_17 (by decide) ?_
        exact J_throw X hfl HT (xd_IA sr_78) (⟨rfl, fun q => (by obtain ⟨t, ht, -⟩ := q.2; cases ht), rfl⟩) d_TG_store_29 d_TG_store_32 d_TG_store_33 d_TG_store_35 d_TG_store_38 (by decide) (by decide) (by decide) (by decide) (by decide) (by decide) (by decide)
      | some t =>
        first | refine J_aloadr X d_TG_store_15 rfl ?_ | refine J_aload X d_TG_store_15 rfl ?_ | refine J_aload0 X d_TG_store_15 rfl ?_
        refine J_ifnullr X d_TG_store_17 ?_
        have hk := isP_k (only_some hh).2
        obtain ⟨c, n, e1, e2, e3, -, -, e4⟩ := hT.1 t hk
        have el : (sucL w t).length = n := by rw [sucL_of (w := w) hk e1 e2]; simp [rowL]
        first | refine J_aloadr X d_TG_store_20 rfl ?_ | refine J_aload X d_TG_store_20 rfl ?_ | refine J_aload0 X d_TG_store_20 rfl ?_
        refine J_iload_n X d_TG_store_22 rfl rfl ?_
        refine J_callV X (hk) rfl (k_hasField (i := r2) hk e1 e2) cd_Pl_hasField lk_TG_75 vi_Pl_hasField (by decide) (by decide) (by decide) (by decide) rfl (by first | decide | simp [va_rf_cat, vc_r, vc_i, vc_0]) d_TG_store_23 (fun q w1 hq => ?_)
        obtain ⟨rfl, hw1⟩ := hq
        refine J_eq hw1 rfl ?_
        by_cases h' : 0 ≤ r2 ∧ r2 < nI n
        · refine J_top (v' := .int 1) (by rw [if_pos h']) ?_
          obtain ⟨j, hj, rfl⟩ := regB_at h1 h2 h
          refine J_if_ne (tgt := 39) X d_TG_store_26 (by decide) (fun g => ?_) (fun g => ?_)
          · obtain ⟨k, hkn, rfl⟩ : ∃ k, k < n ∧ r2 = nI k := nI_of1 (by omega) h'.1 h'.2
            first | refine J_aloadr X d_TG_store_39 rfl ?_ | refine J_aload X d_TG_store_39 rfl ?_ | refine J_aload0 X d_TG_store_39 rfl ?_
            refine J_getR X (hk) fa_TG_80_3 rfl (e1) d_TG_store_41 ?_
            refine J_iload_n X d_TG_store_44 rfl rfl ?_
            first | refine J_aload_nr X d_TG_store_45 rfl rfl ?_ | refine J_aload_n X d_TG_store_45 rfl rfl ?_ | refine J_aload_n0 X d_TG_store_45 rfl rfl ?_
            refine J_getR X (hx) fa_TG_15_0 rfl (hrg) d_TG_store_46 ?_
            refine J_iload_n X d_TG_store_49 rfl rfl ?_
            refine J_aald X (hrk) (by decide) rfl ⟨_, rfl⟩ (rfl) (hj) (by omega) (rfl) d_TG_store_50 ?_
            refine J_aast X e2 (by decide) rfl ⟨_, rfl⟩ (oV_aast (hv j hj)) rfl hkn (by omega) d_TG_store_51 ?_
            exact J_lift (J_vret X ⟨rfl, j, t, c, n, k, hj, rfl, rfl, e1, e2, hkn, rfl, rfl⟩ (by decide) (by decide) d_TG_store_52)
          · exact absurd g (by decide)
        · refine J_top (v' := .int 0) (by rw [if_neg h']) ?_
          refine J_if_ne (tgt := 39) X d_TG_store_26 (by decide) (fun g => ?_) (fun g => ?_)
          · exact absurd rfl g
          · exact J_throw X hfl HT (xd_IA sr_78) (⟨rfl, fun q => by obtain ⟨u, hu, a1, a2⟩ := q.2; cases hu; rw [el] at a2; exact h' ⟨a1, a2⟩, rfl⟩) d_TG_store_29 d_TG_store_32 d_TG_store_33 d_TG_store_35 d_TG_store_38 (by decide) (by decide) (by decide) (by decide) (by decide) (by decide) (by decide)
  · refine J_top (v' := .int 0) (by rw [if_neg h]) ?_
    refine J_if_eq (tgt := 29) X d_TG_store_12 (by decide) (fun g => ?_) (fun g => ?_)
    · exact J_throw X hfl HT (xd_IA sr_78) (⟨rfl, fun q => h q.1, rfl⟩) d_TG_store_29 d_TG_store_32 d_TG_store_33 d_TG_store_35 d_TG_store_38 (by decide) (by decide) (by decide) (by decide) (by decide) (by decide) (by decide)
    · exact absurd rfl g
end SE
end
section
/-! what collections keep, point by point; what the class keeps of the model -/
def mdl : Kd → Bool
  | .inl 6 => true
  | .inr (0, _) => true
  | .inr (1, _) => true
  | .inr (2, _) => true
  | _ => false
/-- the cells of the model's kinds stay -/
def FrC (w W : Wd) : Prop := ∀ b d, wK w b = some d → mdl d = true → wK W b = some d ∧ ∀ k, wI W b k = wI w b k ∧ wP W b k = wP w b k ∧ wL W b k = wL w b k
theorem FrC_refl (w : Wd) : FrC w w := fun _ _ h _ => ⟨h, fun _ => ⟨rfl, rfl, rfl⟩⟩
theorem FrC_trans {w w' w'' : Wd} (h1 : FrC w w') (h2 : FrC w' w'') : FrC w w'' := fun b d hb hd => by
  obtain ⟨a1, a2⟩ := h1 b d hb hd
  obtain ⟨b1, b2⟩ := h2 b d a1 hd
  exact ⟨b1, fun k => ⟨(b2 k).1.trans (a2 k).1, (b2 k).2.1.trans (a2 k).2.1, (b2 k).2.2.trans (a2 k).2.2⟩⟩
theorem mdl_ne {w : Wd} {a b : Nat} {d d' : Kd} (hb : wK w b = some d) (hd : mdl d = true) (ha : wK w a = some d') (hd' : mdl d' = false) : b ≠ a := by
  rintro rfl
  rw [hb] at ha
  cases ha
  rw [hd] at hd'
  cases hd'
theorem FrC_uI {w : Wd} {a k : Nat} {v : Int32} {d' : Kd} (ha : wK w a = some d') (hd' : mdl d' = false) : FrC w (uI w a k v) := fun b d hb hd => ⟨hb, fun j => ⟨by rw [wI_uI, if_neg (fun q => mdl_ne hb hd ha hd' q.1)], rfl, rfl⟩⟩
theorem FrC_uP {w : Wd} {a k : Nat} {v : Option Nat} {d' : Kd} (ha : wK w a = some d') (hd' : mdl d' = false) : FrC w (uP w a k v) := fun b d hb hd => ⟨hb, fun j => ⟨rfl, by rw [wP_uP, if_neg (fun q => mdl_ne hb hd ha hd' q.1)], rfl⟩⟩
theorem FrC_uN {w : Wd} {a : Nat} {d' : Kd} (ha : wK w a = none) : FrC w (uN w a d') := fun b d hb hd => by
  have : b ≠ a := ne_new hb ha
  exact ⟨by rw [wK_uN, if_neg this]; exact hb, fun j => ⟨by rw [wI_uN, if_neg this], by rw [wP_uN, if_neg this], by rw [wL_uN, if_neg this]⟩⟩
/-- a collection over Y and O: what the world behind it shows -/
def CF (w W : Wd) (Y O R : List Nat) : Prop :=
  (∀ b, wK W b = wK w b) ∧ (∀ b, wI W b 0 = wI w b 0) ∧ (∀ t, wK w t = some (.inl 3) → wP W t 3 = wP w t 3) ∧ (∀ c n, wK w c = some (.inr (3, n)) → ∀ i, wP W c i = wP w c i) ∧ (∀ b, wK w b = some (.inl 4) → b ∈ Y ++ O → wP W b 3 = fil R (wP w b 3)) ∧ (∀ b, wK w b = some (.inl 4) → b ∉ Y ++ O → wP W b 3 = wP w b 3) ∧ (∀ t, isTb w t = true → t ∉ Y → wI W t 1 = wI w t 1) ∧ FrC w W
section CF
variable {w W : Wd} {x rg nr yg ya ly og oa lo tr fa : Nat} {Y O F G R : List Nat}
theorem CF_suc (H : CF w W Y O R) (hT : HT w rg nr) (t : Nat) : sucL W t = sucL w t := sucL_congr H.1 H.2.2.1 H.2.2.2.1 hT t
theorem CF_cut (H : CI w x rg nr yg ya ly og oa lo tr fa Y O F G) (hRT : ∀ t ∈ R, isTb w t = true) : CF w (cutY w tr fa Y O F R) Y O R := by
  obtain ⟨hK, -, -, -, -, c5, c6, -⟩ := CI_cut (R := R) H hRT
  obtain ⟨hS, hT, hY, hO, hty, hto, hnd, hsum, hF, hol, hG⟩ := H
  obtain ⟨hRg, hnr, h1, h2, h3, hyO, hoO, -, -, hly, hlo, htr, htf, hfk, hgg, hya, hyf, hof⟩ := hS
  have nf : ∀ {b : Nat} {d : Kd}, wK w b = some d → d ≠ .inr (4, ly + lo) → b ≠ fa := fun hb hd e => by rw [e, hfk] at hb; cases hb; exact hd rfl
  refine ⟨hK, c5, fun t ht => cutY_ptr (nf ht (by simp)) (Or.inr (by rw [ht]; simp)), fun c n hc i => cutY_ptr (nf hc (by simp)) (Or.inr (by rw [hc]; simp)), fun b hb hm => cutY_tgt hF htr hfk hb hm (fun u hu => (hT.2.2.1 b hb).2 u hu), fun b hb hm => ?_, fun t ht _ => c6 t ht, fun b d hb hd => ⟨(hK b).trans hb, fun k => ⟨?_, ?_, rfl⟩⟩⟩
  · rw [List.mem_append, not_or] at hm
    rw [cutY, cutW_ptr (Or.inr hm.2), cutW_ptr (Or.inr hm.1), trW_ptr (nf hb (by simp))]; rfl
  · rw [cutY_int]
    refine tr_other hRT hF.2.2.2.1 hb ⟨?_, ?_⟩ ?_
    · rintro rfl; cases hd
    · rintro rfl; cases hd
    · exact mdl_ne hb hd htr rfl
  · refine cutY_ptr (mdl_ne hb hd hfk rfl) (Or.inr ?_)
    rw [hb]
    rintro ⟨⟩
    cases hd
theorem CF_gen {g ga m : Nat} {zs : List Nat} (H : CF w W Y O R) (hg : wK w g = some (.inl 1)) (hga : wK w ga = some (.inr (4, m))) : CF w (genW W g ga zs) Y O R := by
  obtain ⟨a1, a2, a3, a4, a5, a6, a7, a8⟩ := H
  have na : ∀ {b : Nat} {d : Kd}, wK w b = some d → d ≠ .inr (4, m) → b ≠ ga := fun hb hd e => by rw [e, hga] at hb; cases hb; exact hd rfl
  refine ⟨a1, fun b => (genW_int (Or.inr (by decide))).trans (a2 b), fun t ht => (genW_ptr (Or.inl (na ht (by simp)))).trans (a3 t ht), fun c n hc i => (genW_ptr (Or.inl (na hc (by simp)))).trans (a4 c n hc i), fun b hb hm => (genW_ptr (Or.inl (na hb (by simp)))).trans (a5 b hb hm), fun b hb hm => (genW_ptr (Or.inl (na hb (by simp)))).trans (a6 b hb hm), fun t ht hy => (genW_int (Or.inr (by decide))).trans (a7 t ht hy), fun b d hb hd => ⟨(a8 b d hb hd).1, fun k => ⟨?_, ?_, ((a8 b d hb hd).2 k).2.2⟩⟩⟩
  · exact (genW_int (Or.inl (mdl_ne hb hd hg rfl))).trans ((a8 b d hb hd).2 k).1
  · exact (genW_ptr (Or.inl (mdl_ne hb hd hga rfl))).trans ((a8 b d hb hd).2 k).2.1
theorem CF_old {zs : List Nat} (H : CF w W Y O R) (hz : ∀ t ∈ zs, t ∈ Y ∧ isTb w t = true) : CF w (oldF W zs) Y O R := by
  obtain ⟨a1, a2, a3, a4, a5, a6, a7, a8⟩ := H
  have hno : ∀ {b k : Nat}, b ∉ zs → wI (oldF W zs) b k = wI W b k := fun hb => by
    show (if _ ∧ _ ∈ zs then (1 : Int32) else W.2.1 _ _) = _
    rw [if_neg (fun q => hb q.2)]; rfl
  exact ⟨a1, fun b => (oldF_int (by decide)).trans (a2 b), a3, a4, a5, a6, fun t ht hy => (hno (fun q => hy (hz t q).1)).trans (a7 t ht hy), fun b d hb hd => ⟨(a8 b d hb hd).1, fun k => ⟨(hno (fun q => by
    obtain ⟨ci, hci, hk⟩ := isTb_to (hz b q).2
    rw [hb] at hk
    cases hk
    rcases hci with rfl | rfl <;> cases hd)).trans ((a8 b d hb hd).2 k).1, ((a8 b d hb hd).2 k).2⟩⟩⟩
theorem CF_x {k0 : Nat} {v : Int32} (H : CF w W Y O R) (hx : wK w x = some (.inl 0)) (hk : k0 ≠ 0) : CF w (uI W x k0 v) Y O R := by
  obtain ⟨a1, a2, a3, a4, a5, a6, a7, a8⟩ := H
  refine ⟨a1, fun b => ?_, a3, a4, a5, a6, fun t ht hy => ?_, fun b d hb hd => ⟨(a8 b d hb hd).1, fun k => ⟨?_, ((a8 b d hb hd).2 k).2⟩⟩⟩
  · rw [wI_uI, if_neg (fun q => hk q.2.symm)]; exact a2 b
  · rw [wI_uI, if_neg (fun q => isTb_ne ht hx (by decide) q.1)]; exact a7 t ht hy
  · rw [wI_uI, if_neg (fun q => mdl_ne hb hd hx rfl q.1)]; exact ((a8 b d hb hd).2 k).1
theorem CF_colO (H : CI w x rg nr yg ya ly og oa lo tr fa Y O F G) (hRT : ∀ t ∈ R, isTb w t = true) : CF w (colOW w x og oa tr fa Y O F R) Y O R ∧ wI (colOW w x og oa tr fa Y O F R) x 4 = wI w x 4 ∧ wI (colOW w x og oa tr fa Y O F R) x 5 = wI w x 5 + 1 := by
  have hc := CF_cut H hRT
  obtain ⟨-, -, -, -, -, -, -, -, -, d1, -⟩ := CI_cut (R := R) H hRT
  obtain ⟨hS, -⟩ := H
  obtain ⟨hRg, -, -, -, -, -, hoO, -⟩ := hS
  have hxo : x ≠ og := fun e => by have := hoO.1; rw [← e, hRg.1] at this; cases this
  exact ⟨CF_x (CF_gen hc hoO.1 hoO.2.2.1) hRg.1 (by decide), by rw [colOW, wI_uI, if_neg (by simp), genW_int (Or.inl hxo)]; exact d1 4, by rw [colOW, wI_uI, if_pos ⟨rfl, rfl⟩]⟩
theorem CF_colY (H : CI w x rg nr yg ya ly og oa lo tr fa Y O F G) (hRT : ∀ t ∈ R, isTb w t = true) : CF w (colYW w x yg ya og oa tr fa Y O F R) Y O R ∧ wI (colYW w x yg ya og oa tr fa Y O F R) x 4 = wI w x 4 + 1 ∧ wI (colYW w x yg ya og oa tr fa Y O F R) x 5 = wI w x 5 := by
  have hc := CF_cut H hRT
  obtain ⟨-, -, -, -, -, -, -, -, -, d1, -⟩ := CI_cut (R := R) H hRT
  have hYT : ∀ t ∈ Y, isTb w t = true := fun t ht => GeL_mem H.2.2.1 ht
  obtain ⟨hS, -⟩ := H
  obtain ⟨hRg, -, -, -, -, hyO, hoO, -⟩ := hS
  have hxo : x ≠ og := fun e => by have := hoO.1; rw [← e, hRg.1] at this; cases this
  have hxy : x ≠ yg := fun e => by have := hyO.1; rw [← e, hRg.1] at this; cases this
  exact ⟨CF_x (CF_gen (CF_gen (CF_old hc (fun t ht => ⟨(List.mem_filter.mp ht).1, hYT t (List.mem_filter.mp ht).1⟩)) hoO.1 hoO.2.2.1) hyO.1 hyO.2.2.1) hRg.1 (by decide), by rw [colYW, wI_uI, if_pos ⟨rfl, rfl⟩], by rw [colYW, wI_uI, if_neg (by simp), genW_int (Or.inl hxy), genW_int (Or.inl hxo), oldF_int (by decide)]; exact d1 5⟩
/-- behind a search alone -/
def TF (w W : Wd) : Prop :=
  (∀ b, wK W b = wK w b) ∧ (∀ b, wI W b 0 = wI w b 0) ∧ (∀ t, wK w t = some (.inl 3) → wP W t 3 = wP w t 3) ∧ (∀ c n, wK w c = some (.inr (3, n)) → ∀ i, wP W c i = wP w c i) ∧ (∀ b, wK w b = some (.inl 4) → wP W b 3 = wP w b 3) ∧ (∀ t, isTb w t = true → wI W t 1 = wI w t 1) ∧ (∀ t k, wK w t = some (.inl 0) → wI W t k = wI w t k) ∧ FrC w W
theorem TF_tr (H : CI w x rg nr yg ya ly og oa lo tr fa Y O F G) (hRT : ∀ t ∈ R, isTb w t = true) : TF w (trW (rsW w tr F) tr fa R) := by
  obtain ⟨hS, hT, hY, hO, hty, hto, hnd, hsum, hF, hol, hG⟩ := H
  obtain ⟨hRg, hnr, h1, h2, h3, hyO, hoO, -, -, hly, hlo, htr, htf, hfk, hgg, hya, hyf, hof⟩ := hS
  have nf : ∀ {b : Nat} {d : Kd}, wK w b = some d → d ≠ .inr (4, ly + lo) → b ≠ fa := fun hb hd e => by rw [e, hfk] at hb; cases hb; exact hd rfl
  refine ⟨fun _ => rfl, fun b => by rw [trW_int0, rsW_0], fun t ht => trW_ptr (w := rsW w tr F) (nf ht (by simp)), fun c n hc i => trW_ptr (w := rsW w tr F) (nf hc (by simp)), fun b hb => trW_ptr (w := rsW w tr F) (nf hb (by simp)), fun t ht => ?_, fun t k ht => ?_, fun b d hb hd => ⟨hb, fun k => ⟨?_, trW_ptr (w := rsW w tr F) (mdl_ne hb hd hfk rfl), rfl⟩⟩⟩
  · rw [trW_int (isTb_ne ht htr (by decide)) (by decide), rsW_int (Or.inl (isTb_ne ht htr (by decide))) (Or.inl (by decide))]
  · exact tr_other hRT hF.2.2.2.1 ht (by decide) (fun e => by rw [e, htr] at ht; cases ht)
  · refine tr_other hRT hF.2.2.2.1 hb ⟨?_, ?_⟩ (mdl_ne hb hd htr rfl)
    · rintro rfl; cases hd
    · rintro rfl; cases hd
end CF
end
section
/-! great, reach, small, bear, make, weak -/
/-- what a search from a register finds -/
def rchR (w : Wd) (rg nr N tr : Nat) (F : List Nat) (r : Int32) : List Nat := flw (rsW w tr F) N 0 (fnd (rsW w tr F) [] (held w rg nr r))
/-- the search of a small collection that has its room -/
abbrev fitY (w : Wd) (rg nr ly lo tr oa : Nat) (Y O F : List Nat) : Prop := sumN w (Y.filter (inL (colS w rg nr (ly + lo) tr oa O F))) ≤ lo - sumN w O
section BE
variable {l : Launch} {Δ : Dat} {w : Wd} {x rg nr yg ya ly og oa lo tr fa : Nat} {Y O F G : List Nat} {r : Int32}
theorem held_oB (H : CI w x rg nr yg ya ly og oa lo tr fa Y O F G) : oV w (held w rg nr r) ∧ oB w G (held w rg nr r) := by
  have hRg := H.1.1
  refine ⟨held_oV hRg.2.2.2.1 hRg.2.2.2.2 H.2.1.2.2.2, ?_⟩
  by_cases h : regB nr r
  · obtain ⟨j, hj, rfl⟩ := regB_at hRg.2.2.2.1 hRg.2.2.2.2 h
    rw [held_at hRg.2.2.2.2 hj]
    exact H.2.2.2.2.2.2.2.2.2.2.2.2.2.1 j hj
  · rw [held_no h]
    exact fun t ht => nomatch ht
theorem CI_rchR (H : CI w x rg nr yg ya ly og oa lo tr fa Y O F G) : (rchR w rg nr (ly + lo) tr F r).Nodup ∧ (∀ t ∈ rchR w rg nr (ly + lo) tr F r, t ∈ G) ∧ ∀ t, t ∈ rchR w rg nr (ly + lo) tr F r ↔ Rc w (fun u => held w rg nr r = some u ∧ isTb w u = true) t := by
  have hb : Bd G (fnd (rsW w tr F) [] (held w rg nr r)) := fnd_bd ⟨List.nodup_nil, fun _ h => nomatch h⟩ (held_oB H).2
  have hbR := flw_bd (CI_BC H) (ly + lo) 0 hb
  refine ⟨hbR.1, hbR.2, fun t => ?_⟩
  rw [rchR, flw_mem (CI_BC H) (CI_len H) hb]
  have e : (fun u => u ∈ fnd (rsW w tr F) [] (held w rg nr r)) = fun u => held w rg nr r = some u ∧ isTb w u = true := funext fun u => propext (by
    rw [fnd_mem]
    constructor
    · rintro (h | h)
      · cases h
      · exact h
    · exact Or.inr)
  rw [e]
  exact Iff.rfl
set_option maxRecDepth 100000 in
theorem k_great (H : CI w x rg nr yg ya ly og oa lo tr fa Y O F G) : Ct l y_TG_great h_TG_great (rmL 4 0 0) Δ [.ref x] w (fun r w' => r = some (.int (sumI w O - sumI w (O.filter (inL (colR w rg nr (ly + lo) tr F))))) ∧ w' = colOW w x og oa tr fa Y O F (colR w rg nr (ly + lo) tr F)) := by
  have hx := H.1.1.1
  refine Ct_of (L := [some (.ref x)]) (by decide) (by first | exact Nat.le_of_ble_eq_true rfl | simp [lg_sl, va_rf_cat, vc_r, vc_i, vc_0]) (by first | rfl | simp [lin, va_rf_cat, vc_r, vc_i, vc_0]) (fun Γ X => ?_)
  first | refine J_aload_nr X d_TG_great_0 rfl rfl ?_ | refine J_aload_n X d_TG_great_0 rfl rfl ?_ | refine J_aload_n0 X d_TG_great_0 rfl rfl ?_
  refine J_callV X (hx) rfl (k_collectOld H) cd_TG_collectOld lk_TG_137 vi_TG_collectOld (by decide) (by decide) (by decide) (by decide) rfl (by first | decide | simp [va_rf_cat, vc_r, vc_i, vc_0]) d_TG_great_1 (fun r w1 hr => ?_)
  obtain ⟨rfl, hw⟩ := hr
  exact J_iret X ⟨rfl, hw⟩ (by decide) (by decide) d_TG_great_4
set_option maxRecDepth 100000 in
theorem k_reach (H : CI w x rg nr yg ya ly og oa lo tr fa Y O F G) : Ct l y_TG_reach h_TG_reach (rmL 3 0 0) Δ [.ref x, .int r] w (fun q w' => q = some (.int (sumI w (rchR w rg nr (ly + lo) tr F r))) ∧ w' = trW (rsW w tr F) tr fa (rchR w rg nr (ly + lo) tr F r)) := by
  have hlen := CI_len H
  have hTrO := CI_TrO H
  have hBC := CI_BC H
  have hh := held_oB (r := r) H
  have hb : Bd G (fnd (rsW w tr F) [] (held w rg nr r)) := fnd_bd ⟨List.nodup_nil, fun _ h => nomatch h⟩ hh.2
  obtain ⟨hS, hT, hY, hO, hty, hto, hnd, hsum, hF, hol, hG⟩ := H
  obtain ⟨hRg, hnr, h1, h2, h3, hyO, hoO, hl1, hl2, hly, hlo, htr, htf, hfk, hgg, hya, hyf, hof⟩ := hS
  have hx := hRg.1
  have hxfa : x ≠ fa := fun e => by rw [e, hfk] at hx; cases hx
  refine Ct_of (L := [some (.ref x), some (.int r)]) (by decide) (by first | exact Nat.le_of_ble_eq_true rfl | simp [lg_sl, va_rf_cat, vc_r, vc_i, vc_0]) (by first | rfl | simp [lin, va_rf_cat, vc_r, vc_i, vc_0]) (fun Γ X => ?_)
  first | refine J_aload_nr X d_TG_reach_0 rfl rfl ?_ | refine J_aload_n X d_TG_reach_0 rfl rfl ?_ | refine J_aload_n0 X d_TG_reach_0 rfl rfl ?_
  refine J_getR X (hx) fa_TG_38_0 rfl (h3) d_TG_reach_1 ?_
  refine J_callV X (htr) rfl (k_restart (xs := F) htr htf hfk (by omega) hF.2.1 hF.1 hF.2.2.1 hF.2.2.2.1) cd_Tr_restart lk_TG_115 vi_Tr_restart (by decide) (by decide) (by decide) (by decide) rfl (by first | decide | simp [va_rf_cat, vc_r, vc_i, vc_0]) d_TG_reach_4 (fun r0 w1 hr => ?_)
  obtain ⟨rfl, rfl⟩ := hr
  refine J_eq (w' := rsW w tr F) rfl rfl ?_
  have hRg' : Rg (rsW w tr F) x rg nr := ⟨hRg.1, hRg.2.1, hRg.2.2.1, hRg.2.2.2⟩
  have hx' : wK (rsW w tr F) x = some (.inl 0) := hx
  have h3' : wP (rsW w tr F) x 3 = some tr := h3
  first | refine J_aload_nr X d_TG_reach_7 rfl rfl ?_ | refine J_aload_n X d_TG_reach_7 rfl rfl ?_ | refine J_aload_n0 X d_TG_reach_7 rfl rfl ?_
  refine J_getR X (hx') fa_TG_38_0 rfl (h3') d_TG_reach_8 ?_
  first | refine J_aload_nr X d_TG_reach_11 rfl rfl ?_ | refine J_aload_n X d_TG_reach_11 rfl rfl ?_ | refine J_aload_n0 X d_TG_reach_11 rfl rfl ?_
  refine J_iload_n X d_TG_reach_12 rfl rfl ?_
  refine J_callV X (hx') rfl (k_heldIn (r := r) hRg') cd_TG_heldIn lk_TG_102 vi_TG_heldIn (by decide) (by decide) (by decide) (by decide) rfl (by first | decide | simp [va_rf_cat, vc_r, vc_i, vc_0]) d_TG_reach_13 (fun r0 w1 hr => ?_)
  obtain ⟨rfl, hw1⟩ := hr
  refine J_eq (hw1.trans (rsW_nil (fa := fa)).symm) (st' := [va_rf (held w rg nr r), .ref tr]) rfl ?_
  refine J_callV X (htr) rfl (k_find (w := rsW w tr F) (xs := []) (o := held w rg nr r) hTrO hh.1 (fun t _ _ _ => by show 0 < ly + lo; omega) (Nat.zero_le _)) cd_Tr_find lk_TG_118 vi_Tr_find (by decide) (by decide) (by decide) (by decide) rfl (by first | decide | simp [va_rf_cat, vc_r, vc_i, vc_0]) d_TG_reach_16 (fun r0 w2 hr => ?_)
  obtain ⟨rfl, rfl⟩ := hr
  have a3 : wP (trW (rsW w tr F) tr fa (fnd (rsW w tr F) [] (held w rg nr r))) x 3 = some tr := (trW_ptr (w := rsW w tr F) hxfa).trans h3
  first | refine J_aload_nr X d_TG_reach_19 rfl rfl ?_ | refine J_aload_n X d_TG_reach_19 rfl rfl ?_ | refine J_aload_n0 X d_TG_reach_19 rfl rfl ?_
  refine J_getR X (hx) fa_TG_38_0 rfl (a3) d_TG_reach_20 ?_
  refine J_callV X (htr) rfl (k_follow (w := rsW w tr F) (B := G) hTrO (by omega) hlen hBC hb) cd_Tr_follow lk_TG_122 vi_Tr_follow (by decide) (by decide) (by decide) (by decide) rfl (by first | decide | simp [va_rf_cat, vc_r, vc_i, vc_0]) d_TG_reach_23 (fun r0 w2 hr => ?_)
  obtain ⟨rfl, rfl⟩ := hr
  refine J_eq (w' := trW (rsW w tr F) tr fa (rchR w rg nr (ly + lo) tr F r)) rfl rfl ?_
  have a4 : wP (trW (rsW w tr F) tr fa (rchR w rg nr (ly + lo) tr F r)) x 3 = some tr := (trW_ptr (w := rsW w tr F) hxfa).trans h3
  have a5 : wI (trW (rsW w tr F) tr fa (rchR w rg nr (ly + lo) tr F r)) tr 2 = sumI w (rchR w rg nr (ly + lo) tr F r) := (trW_cel _ _ _ _).trans (sumI_congr (fun t _ => rsW_0))
  first | refine J_aload_nr X d_TG_reach_26 rfl rfl ?_ | refine J_aload_n X d_TG_reach_26 rfl rfl ?_ | refine J_aload_n0 X d_TG_reach_26 rfl rfl ?_
  refine J_getR X (hx) fa_TG_38_0 rfl (a4) d_TG_reach_27 ?_
  refine J_getI X (htr) fa_TG_125_2 rfl (a5) d_TG_reach_30 ?_
  exact J_iret X ⟨rfl, rfl⟩ (by decide) (by decide) d_TG_reach_33
set_option maxRecDepth 100000 in
theorem k_small (hfl : l.stackTraces = false) (H : CI w x rg nr yg ya ly og oa lo tr fa Y O F G) : Cx2 l y_TG_small h_TG_small (rmL 6 1 6) Δ [.ref x] w
    (fun q w' => ∃ wA O1 F1 G1, St1 w wA x rg nr ly og oa lo tr fa Y O F G O1 F1 G1 ∧ fitY wA rg nr ly lo tr oa Y O1 F1 ∧ q = some (.int (nI (sumN wA (Y.filter (inL (colS wA rg nr (ly + lo) tr oa O1 F1)))))) ∧ w' = colYW wA x yg ya og oa tr fa Y O1 F1 (colS wA rg nr (ly + lo) tr oa O1 F1))
    (fun E w' => E = ISE ∧ ∃ wA O1 F1 G1, St1 w wA x rg nr ly og oa lo tr fa Y O F G O1 F1 G1 ∧ ¬ fitY wA rg nr ly lo tr oa Y O1 F1 ∧ w' = trW (rsW wA tr F1) tr fa (colS wA rg nr (ly + lo) tr oa O1 F1)) := by
  have hx := H.1.1.1
  refine Cx2_of (L := [some (.ref x), none]) (by decide) (by first | exact Nat.le_of_ble_eq_true rfl | simp [lg_sl, va_rf_cat, vc_r, vc_i, vc_0]) (by first | rfl | simp [lin, va_rf_cat, vc_r, vc_i, vc_0]) (fun Γ X HT => ?_)
  first | refine J_aload_nr X d_TG_small_0 rfl rfl ?_ | refine J_aload_n X d_TG_small_0 rfl rfl ?_ | refine J_aload_n0 X d_TG_small_0 rfl rfl ?_
  refine J_callV X (hx) rfl (k_collectYoung H) cd_TG_collectYoung lk_TG_128 vi_TG_collectYoung (by decide) (by decide) (by decide) (by decide) rfl (by first | decide | simp [va_rf_cat, vc_r, vc_i, vc_0]) d_TG_small_1 (fun r w1 hr => ?_)
  obtain ⟨wA, O1, F1, G1, hS1, hY1⟩ := hr
  have HA := St1_CI H hS1
  rcases hY1 with ⟨a1, rfl, a3⟩ | ⟨a1, rfl, a3⟩
  · refine J_istore_n X d_TG_small_4 rfl (by decide) rfl ?_
    refine J_iload_n X d_TG_small_5 rfl rfl ?_
    refine J_iconst (v := -1) X d_TG_small_6 (by decide) ?_
    refine J_icmp_ne (tgt := 20) X d_TG_small_7 (by decide) (fun g => ?_) (fun g => ?_)
    · exact absurd rfl g
    · exact J_throw X hfl HT (xd_IS sr_134) (⟨rfl, wA, O1, F1, G1, hS1, Nat.not_le_of_lt a1, a3⟩) d_TG_small_10 d_TG_small_13 d_TG_small_14 d_TG_small_16 d_TG_small_19 (by decide) (by decide) (by decide) (by decide) (by decide) (by decide) (by decide)
  · refine J_istore_n X d_TG_small_4 rfl (by decide) rfl ?_
    refine J_iload_n X d_TG_small_5 rfl rfl ?_
    refine J_iconst (v := -1) X d_TG_small_6 (by decide) ?_
    have b1 : sumN wA (Y.filter (inL (colS wA rg nr (ly + lo) tr oa O1 F1))) ≤ 120 := Nat.le_trans a1 (Nat.le_trans (Nat.sub_le _ _) HA.1.2.2.2.2.2.2.2.2.2.2.1.2)
    refine J_icmp_ne (tgt := 20) X d_TG_small_7 (by decide) (fun g => ?_) (fun g => ?_)
    · refine J_iload_n X d_TG_small_20 rfl rfl ?_
      exact J_lift (J_iret X ⟨wA, O1, F1, G1, hS1, a1, rfl, a3⟩ (by decide) (by decide) d_TG_small_21)
    · have := nI_pos (n := sumN wA (Y.filter (inL (colS wA rg nr (ly + lo) tr oa O1 F1)))) (by omega)
      rw [g] at this
      exact absurd (by decide) this
/-- where a thing is born: at once, or behind a small collection -/
def Bo (w wB : Wd) (x rg nr yg ya ly og oa lo tr fa c : Nat) (Y O F G Y1 O1 F1 G1 : List Nat) : Prop :=
  (c + sumN w Y ≤ ly ∧ wB = w ∧ Y1 = Y ∧ O1 = O ∧ F1 = F ∧ G1 = G) ∨
  (ly < c + sumN w Y ∧ Y1 = [] ∧ ∃ wA O' F' G', St1 w wA x rg nr ly og oa lo tr fa Y O F G O' F' G' ∧ fitY wA rg nr ly lo tr oa Y O' F' ∧ O1 = O' ++ Y.filter (inL (colS wA rg nr (ly + lo) tr oa O' F')) ∧ F1 = colS wA rg nr (ly + lo) tr oa O' F' ∧ G1 = colS wA rg nr (ly + lo) tr oa O' F' ∧ wB = colYW wA x yg ya og oa tr fa Y O' F' (colS wA rg nr (ly + lo) tr oa O' F'))
theorem Bo_CI {wB : Wd} {c : Nat} {Y1 O1 F1 G1 : List Nat} (H : CI w x rg nr yg ya ly og oa lo tr fa Y O F G) (h : Bo w wB x rg nr yg ya ly og oa lo tr fa c Y O F G Y1 O1 F1 G1) : CI wB x rg nr yg ya ly og oa lo tr fa Y1 O1 F1 G1 := by
  rcases h with ⟨-, rfl, rfl, rfl, rfl, rfl⟩ | ⟨-, rfl, wA, O', F', G', hS, hf, rfl, rfl, rfl, rfl⟩
  · exact H
  · have HA := St1_CI H hS
    exact CI_colY HA (CI_colS HA).1 (CI_colS HA).2.1 hf
/-- the collections ahead of a birth keep kinds, sizes -/
theorem Bo_K {wB : Wd} {c : Nat} {Y1 O1 F1 G1 : List Nat} (H : CI w x rg nr yg ya ly og oa lo tr fa Y O F G) (h : Bo w wB x rg nr yg ya ly og oa lo tr fa c Y O F G Y1 O1 F1 G1) : (∀ b, wK wB b = wK w b) ∧ ∀ b, wI wB b 0 = wI w b 0 := by
  rcases h with ⟨-, rfl, rfl, rfl, rfl, rfl⟩ | ⟨-, rfl, wA, O', F', G', hS, hf, rfl, rfl, rfl, rfl⟩
  · exact ⟨fun _ => rfl, fun _ => rfl⟩
  · have HA := St1_CI H hS
    have hC := (CF_colY HA (R := colS wA rg nr (ly + lo) tr oa O' F') (fun t ht => by
      rcases List.mem_append.mp ((CI_colS HA).1.2.1 t ht) with q | q
      · exact GeL_mem HA.2.2.1 q
      · exact GeL_mem HA.2.2.2.1 q)).1
    rcases hS with ⟨-, rfl, -⟩ | ⟨-, rfl, -⟩
    · exact ⟨hC.1, hC.2.1⟩
    · have hD := (CF_colO H (R := colR w rg nr (ly + lo) tr F) (fun t ht => by
        rcases List.mem_append.mp ((CI_colR H).1.2.1 t ht) with q | q
        · exact GeL_mem H.2.2.1 q
        · exact GeL_mem H.2.2.2.1 q)).1
      exact ⟨fun b => (hC.1 b).trans (hD.1 b), fun b => (hC.2.1 b).trans (hD.2.1 b)⟩
theorem genW_CI (H : CI w x rg nr yg ya ly og oa lo tr fa Y O F G) : genW w yg ya Y = w := genW_self H.2.2.1.2.1 H.2.2.2.2.1 (fun i t hi => (H.2.2.1.2.2.2 i t hi).1)
set_option maxRecDepth 100000 in
/-- bear from its add on -/
theorem bear2 {Γ : Cxt} {w0 : Wd} {post : Option Value → Wd → Prop} {px : String → Wd → Prop} {t i : Nat} (X : Cx Γ Δ (AE Γ w0) l c_TG_bear "TwoGenerations" 3 (rmL 6 1 6) none "bear") (H : CI w x rg nr yg ya ly og oa lo tr fa Y O F G) (ht : isTb w t = true) (hc : szw w t + sumN w Y ≤ ly) (hi : i < nr)
    (hp : post none (uP (genW w yg ya (Y ++ [t])) rg i (some t))) : J Γ Δ (AE Γ w0) 3 w 0 0 (QX Γ Δ w0 post px (rmL 6 1 6)) 32 [some (.ref x), some (.int (nI i)), some (.ref t)] [] := by
  have e := genW_CI H
  obtain ⟨hS, hT, hY, hO, hty, hto, hnd, hsum, hF, hol, hG⟩ := H
  obtain ⟨hRg, hnr, h1, h2, h3, hyO, hoO, hl1, hl2, hly, hlo, htr, htf, hfk, hgg, hya, hyf, hof⟩ := hS
  have hx := hRg.1
  have hsz := HT_sz hT ht
  have hYl : Y.length < ly := by
    have a1 := sz_len (w := w) (xs := Y) (fun u hu => (HT_sz hT (GeL_mem hY hu)).2.1)
    have a2 : Y.length ≤ sumN w Y := a1
    omega
  have hxya : x ≠ ya := fun e => by have := hyO.2.2.1; rw [← e, hx] at this; cases this
  first | refine J_aload_nr X d_TG_bear_32 rfl rfl ?_ | refine J_aload_n X d_TG_bear_32 rfl rfl ?_ | refine J_aload_n0 X d_TG_bear_32 rfl rfl ?_
  refine J_getR X (hx) fa_TG_24_0 rfl (h1) d_TG_bear_33 ?_
  first | refine J_aload_nr X d_TG_bear_36 rfl rfl ?_ | refine J_aload_n X d_TG_bear_36 rfl rfl ?_ | refine J_aload_n0 X d_TG_bear_36 rfl rfl ?_
  refine J_eq e.symm rfl ?_
  refine J_callV X (hyO.1) rfl (k_addW (zs := Y) (t := t) hyO hYl ht hsz.1) cd_Gen_add lk_TG_155 vi_Gen_add (by decide) (by decide) (by decide) (by decide) rfl (by first | decide | simp [va_rf_cat, vc_r, vc_i, vc_0]) d_TG_bear_37 (fun r w1 hr => ?_)
  obtain ⟨rfl, hw1⟩ := hr
  refine J_eq hw1 rfl ?_
  have a0 : wP (genW w yg ya (Y ++ [t])) x 0 = some rg := (genW_ptr (Or.inl hxya)).trans hRg.2.1
  obtain ⟨ci, hci, hk⟩ := isTb_to ht
  have hk' : wK (genW w yg ya (Y ++ [t])) t = some (.inl ci) := hk
  first | refine J_aload_nr X d_TG_bear_40 rfl rfl ?_ | refine J_aload_n X d_TG_bear_40 rfl rfl ?_ | refine J_aload_n0 X d_TG_bear_40 rfl rfl ?_
  refine J_getR X (hx) fa_TG_15_0 rfl (a0) d_TG_bear_41 ?_
  refine J_iload_n X d_TG_bear_44 rfl rfl ?_
  first | refine J_aload_nr X d_TG_bear_45 rfl rfl ?_ | refine J_aload_n X d_TG_bear_45 rfl rfl ?_ | refine J_aload_n0 X d_TG_bear_45 rfl rfl ?_
  refine J_aastr X (n := nr) hRg.2.2.1 (by decide) rfl ⟨_, rfl⟩ ⟨ci, hk', by rcases hci with rfl | rfl; exact ac_3_3; exact ac_4_3⟩ rfl hi (by omega) d_TG_bear_46 ?_
  exact J_lift (J_vret X hp (by decide) (by decide) d_TG_bear_47)
set_option maxRecDepth 100000 in
theorem k_bear {t i : Nat} (hfl : l.stackTraces = false) (H : CI w x rg nr yg ya ly og oa lo tr fa Y O F G) (ht : isTb w t = true) (hc : szw w t ≤ ly) (hi : i < nr) : Cx2 l y_TG_bear h_TG_bear (rmL 6 1 6) Δ [.ref x, .int (nI i), .ref t] w
    (fun q w' => q = none ∧ ∃ wB Y1 O1 F1 G1, Bo w wB x rg nr yg ya ly og oa lo tr fa (szw w t) Y O F G Y1 O1 F1 G1 ∧ w' = uP (genW wB yg ya (Y1 ++ [t])) rg i (some t))
    (fun E w' => E = ISE ∧ ly < szw w t + sumN w Y ∧ ∃ wA O1 F1 G1, St1 w wA x rg nr ly og oa lo tr fa Y O F G O1 F1 G1 ∧ ¬ fitY wA rg nr ly lo tr oa Y O1 F1 ∧ w' = trW (rsW wA tr F1) tr fa (colS wA rg nr (ly + lo) tr oa O1 F1)) := by
  have hI := H
  obtain ⟨hS, hT, hY, hO, hty, hto, hnd, hsum, hF, hol, hG⟩ := H
  obtain ⟨hRg, hnr, h1, h2, h3, hyO, hoO, hl1, hl2, hly, hlo, htr, htf, hfk, hgg, hya, hyf, hof⟩ := hS
  have hx := hRg.1
  have hsz := HT_sz hT ht
  obtain ⟨ci, hci, hk⟩ := isTb_to ht
  have s1 : sumN w Y ≤ ly := hsum.1
  refine Cx2_of (L := [some (.ref x), some (.int (nI i)), some (.ref t)]) (by decide) (by first | exact Nat.le_of_ble_eq_true rfl | simp [lg_sl, va_rf_cat, vc_r, vc_i, vc_0]) (by first | rfl | simp [lin, va_rf_cat, vc_r, vc_i, vc_0]) (fun Γ X HT => ?_)
  first | refine J_aload_nr X d_TG_bear_0 rfl rfl ?_ | refine J_aload_n X d_TG_bear_0 rfl rfl ?_ | refine J_aload_n0 X d_TG_bear_0 rfl rfl ?_
  refine J_getI X (hk) (faT_TG_149 hci).1 (faT_TG_149 hci).2 (hsz.1) d_TG_bear_1 ?_
  first | refine J_aload_nr X d_TG_bear_4 rfl rfl ?_ | refine J_aload_n X d_TG_bear_4 rfl rfl ?_ | refine J_aload_n0 X d_TG_bear_4 rfl rfl ?_
  refine J_getR X (hx) fa_TG_24_0 rfl (h1) d_TG_bear_5 ?_
  refine J_callV X (hyO.1) rfl (k_free hyO.1) cd_Gen_free lk_TG_152 vi_Gen_free (by decide) (by decide) (by decide) (by decide) rfl (by first | decide | simp [va_rf_cat, vc_r, vc_i, vc_0]) d_TG_bear_8 (fun r w1 hr => ?_)
  obtain ⟨rfl, hw1⟩ := hr
  refine J_eq hw1 rfl ?_
  have hfree : wI w yg 0 - wI w yg 3 = nI (ly - sumN w Y) := by rw [hl1, hty, sumI_N, free_eq s1]
  rw [hfree]
  refine J_icmp_le (tgt := 32) X d_TG_bear_11 (by decide) (fun g => ?_) (fun g => ?_)
  · have hle : szw w t ≤ ly - sumN w Y := (nI_leI (by omega) (by omega)).mp g
    refine J_widen (c2 := 0) (s2 := 0) (by decide) (by decide) ?_
    exact bear2 X hI ht (by omega) hi ⟨rfl, w, Y, O, F, G, Or.inl ⟨by omega, rfl, rfl, rfl, rfl, rfl⟩, rfl⟩
  · have hlt : ly - sumN w Y < szw w t := Nat.lt_of_not_le (fun q => g ((nI_leI (by omega) (by omega)).mpr q))
    first | refine J_aload_nr X d_TG_bear_14 rfl rfl ?_ | refine J_aload_n X d_TG_bear_14 rfl rfl ?_ | refine J_aload_n0 X d_TG_bear_14 rfl rfl ?_
    refine J_callV X (hx) rfl (k_collectYoung hI) cd_TG_collectYoung lk_TG_128 vi_TG_collectYoung (by decide) (by decide) (by decide) (by decide) rfl (by first | decide | simp [va_rf_cat, vc_r, vc_i, vc_0]) d_TG_bear_15 (fun r w2 hr => ?_)
    obtain ⟨wA, O1, F1, G1, hS1, hY1⟩ := hr
    have HA := St1_CI hI hS1
    rcases hY1 with ⟨a1, rfl, a3⟩ | ⟨a1, rfl, a3⟩
    · refine J_iconst (v := -1) X d_TG_bear_18 (by decide) ?_
      refine J_icmp_ne (tgt := 32) X d_TG_bear_19 (by decide) (fun g => ?_) (fun g => ?_)
      · exact absurd rfl g
      · exact J_throw X hfl HT (xd_IS sr_134) (⟨rfl, by omega, wA, O1, F1, G1, hS1, Nat.not_le_of_lt a1, a3⟩) d_TG_bear_22 d_TG_bear_25 d_TG_bear_26 d_TG_bear_28 d_TG_bear_31 (by decide) (by decide) (by decide) (by decide) (by decide) (by decide) (by decide)
    · refine J_iconst (v := -1) X d_TG_bear_18 (by decide) ?_
      have b1 : sumN wA (Y.filter (inL (colS wA rg nr (ly + lo) tr oa O1 F1))) ≤ 120 := Nat.le_trans a1 (Nat.le_trans (Nat.sub_le _ _) HA.1.2.2.2.2.2.2.2.2.2.2.1.2)
      refine J_icmp_ne (tgt := 32) X d_TG_bear_19 (by decide) (fun g => ?_) (fun g => ?_)
      · have hB : Bo w w2 x rg nr yg ya ly og oa lo tr fa (szw w t) Y O F G [] (O1 ++ Y.filter (inL (colS wA rg nr (ly + lo) tr oa O1 F1))) (colS wA rg nr (ly + lo) tr oa O1 F1) (colS wA rg nr (ly + lo) tr oa O1 F1) := Or.inr ⟨by omega, rfl, wA, O1, F1, G1, hS1, a1, rfl, rfl, rfl, a3⟩
        have hBK := Bo_K hI hB
        refine J_widen (c2 := 0) (s2 := 0) (by decide) (by decide) ?_
        refine bear2 X (Bo_CI hI hB) ((isTb_congr hBK.1 t).trans ht) ?_ hi ⟨rfl, w2, _, _, _, _, hB, rfl⟩
        rw [szw_congr (hBK.2 t)]
        show szw w t + 0 ≤ ly
        omega
      · have := nI_pos (n := sumN wA (Y.filter (inL (colS wA rg nr (ly + lo) tr oa O1 F1)))) (by omega)
        rw [g] at this
        exact absurd (by decide) this
end BE
end
section
/-! worlds with new cells; make, weak -/
def Ext (w w' : Wd) : Prop := ∀ b d, wK w b = some d → wK w' b = some d ∧ ∀ k, wI w' b k = wI w b k ∧ wP w' b k = wP w b k
section EX
variable {w w' : Wd} {x rg nr yg ya ly og oa lo tr fa : Nat} {Y O F G : List Nat}
theorem Ext_isTb (h : Ext w w') {t : Nat} (ht : isTb w t = true) : isTb w' t = true := by
  obtain ⟨ci, hci, hk⟩ := isTb_to ht
  exact isTb_of hci (h t _ hk).1
theorem Ext_back (h : Ext w w') {t : Nat} {d : Kd} (hk : wK w t = some d) (ht : isTb w' t = true) : isTb w t = true := by
  obtain ⟨ci, hci, hk'⟩ := isTb_to ht
  rw [(h t d hk).1] at hk'
  cases hk'
  exact isTb_of hci hk
theorem Ext_oV (h : Ext w w') {o : Option Nat} (ho : oV w o) : oV w' o := fun t e => by
  rcases ho t e with q | q
  · exact Or.inl (Ext_isTb h q)
  · exact Or.inr (h t _ q).1
theorem Ext_oB (h : Ext w w') {o : Option Nat} (hv : oV w o) (ho : oB w G o) : oB w' G o := fun t e ht => by
  rcases hv t e with q | q
  · exact ho t e q
  · exact ho t e (Ext_back h q ht)
theorem HT_ext (hE : Ext w w') (hp : ∀ t, wK w t = none → wK w' t = some (.inl 3) → ∃ c n, wP w' t 3 = some c ∧ wK w c = none ∧ wK w' c = some (.inr (3, n)) ∧ n ≤ 11 ∧ wI w' t 0 = nI (n + 1) ∧ ∀ i, i < n → oV w' (wP w' c i))
    (hu : ∀ t t', wK w t = none → wK w' t = some (.inl 3) → wK w t' = none → wK w' t' = some (.inl 3) → t = t') (hk : ∀ t, wK w t = none → wK w' t = some (.inl 4) → wI w' t 0 = 2 ∧ ∀ u, wP w' t 3 = some u → isTb w' u = true) (hrg : wK w rg = some (.inr (3, nr))) (H : HT w rg nr) : HT w' rg nr := by
  have old : ∀ {t ci : Nat}, wK w' t = some (.inl ci) → wK w t = none ∨ wK w t = some (.inl ci) := fun {t ci} ht => by
    cases hc : wK w t with
    | none => exact Or.inl rfl
    | some d =>
      right
      rw [(hE t d hc).1] at ht
      exact ht
  refine ⟨fun t ht => ?_, fun t t' c ht ht' e e' => ?_, fun t ht => ?_, fun r hr => ?_⟩
  · rcases old ht with h | h
    · obtain ⟨c, n, a1, a2, a3, a4, a5, a6⟩ := hp t h ht
      exact ⟨c, n, a1, a3, a4, fun q => (by rw [q, hrg] at a2; cases a2), a5, a6⟩
    · obtain ⟨c, n, a1, a2, a3, a4, a5, a6⟩ := H.1 t h
      exact ⟨c, n, ((hE t _ h).2 3).2.trans a1, (hE c _ a2).1, a3, a4, ((hE t _ h).2 0).1.trans a5, fun i hi => by rw [((hE c _ a2).2 i).2]; exact Ext_oV hE (a6 i hi)⟩
  · rcases old ht with h | h
    · rcases old ht' with h' | h'
      · exact hu t t' h ht h' ht'
      · obtain ⟨c1, n, a1, a2, -⟩ := hp t h ht
        obtain ⟨c2, n', b1, b2, -⟩ := H.1 t' h'
        have e1 : c1 = c := Option.some.inj (a1.symm.trans e)
        have e2 : c2 = c := Option.some.inj (b1.symm.trans (((hE t' _ h').2 3).2.symm.trans e'))
        rw [e1] at a2
        rw [e2, a2] at b2
        cases b2
    · rcases old ht' with h' | h'
      · obtain ⟨c1, n, a1, a2, -⟩ := hp t' h' ht'
        obtain ⟨c2, n', b1, b2, -⟩ := H.1 t h
        have e1 : c1 = c := Option.some.inj (a1.symm.trans e')
        have e2 : c2 = c := Option.some.inj (b1.symm.trans (((hE t _ h).2 3).2.symm.trans e))
        rw [e1] at a2
        rw [e2, a2] at b2
        cases b2
      · exact H.2.1 t t' c h h' (((hE t _ h).2 3).2.symm.trans e) (((hE t' _ h').2 3).2.symm.trans e')
  · rcases old ht with h | h
    · exact hk t h ht
    · exact ⟨((hE t _ h).2 0).1.trans (H.2.2.1 t h).1, fun u hu => Ext_isTb hE ((H.2.2.1 t h).2 u (((hE t _ h).2 3).2.symm.trans hu))⟩
  · rw [((hE rg _ hrg).2 r).2]; exact Ext_oV hE (H.2.2.2 r hr)
theorem Ext_suc (hE : Ext w w') (H : HT w rg nr) {t : Nat} (ht : isTb w t = true) : sucL w' t = sucL w t := by
  obtain ⟨ci, hci, hk⟩ := isTb_to ht
  rcases hci with rfl | rfl
  · obtain ⟨c, n, a1, a2, -⟩ := H.1 t hk
    rw [sucL_of (hE t _ hk).1 (((hE t _ hk).2 3).2.trans a1) (hE c _ a2).1, sucL_of hk a1 a2]
    exact rowL_congr (fun i => ((hE c _ a2).2 i).2)
  · rw [sucL_no hk, sucL_no (hE t _ hk).1]
theorem suc_oV (H : HT w rg nr) {t : Nat} {o : Option Nat} (ho : o ∈ sucL w t) : oV w o := by
  by_cases hk : wK w t = some (.inl 3)
  · obtain ⟨c, n, a1, a2, -, -, -, a6⟩ := H.1 t hk
    rw [sucL_of hk a1 a2] at ho
    obtain ⟨i, hi, rfl⟩ := rowL_mem.mp ho
    exact a6 i hi
  · rw [sucL, if_neg hk] at ho; cases ho
theorem CI_ext (hE : Ext w w') (hT' : HT w' rg nr) (hfl : ∀ t, isTb w' t = true → wK w t = none → wI w' t 2 = 0) (H : CI w x rg nr yg ya ly og oa lo tr fa Y O F G) : CI w' x rg nr yg ya ly og oa lo tr fa Y O F G := by
  have hGT : ∀ t ∈ G, isTb w t = true := fun t ht => CI_G H ht
  obtain ⟨hS, hT, hY, hO, hty, hto, hnd, hsum, hF, hol, hG⟩ := H
  obtain ⟨hRg, hnr, h1, h2, h3, hyO, hoO, hl1, hl2, hly, hlo, htr, htf, hfk, hgg⟩ := hS
  have eK : ∀ {b : Nat} {d : Kd}, wK w b = some d → wK w' b = some d := fun h => (hE _ _ h).1
  have eI : ∀ {b : Nat} {d : Kd} (k : Nat), wK w b = some d → wI w' b k = wI w b k := fun k h => ((hE _ _ h).2 k).1
  have eP : ∀ {b : Nat} {d : Kd} (k : Nat), wK w b = some d → wP w' b k = wP w b k := fun k h => ((hE _ _ h).2 k).2
  have tI : ∀ {t : Nat} (k : Nat), isTb w t = true → wI w' t k = wI w t k := fun k ht => by obtain ⟨ci, -, hk⟩ := isTb_to ht; exact eI k hk
  have geO : ∀ {g ga m : Nat}, GeO w g ga m → GeO w' g ga m := fun h => ⟨eK h.1, (eP 1 h.1).trans h.2.1, eK h.2.2.1, h.2.2.2⟩
  have geL : ∀ {g ga m : Nat} {zs : List Nat}, GeL w g ga m zs → GeL w' g ga m zs := fun h => ⟨geO h.1, (eI 2 h.1.1).trans h.2.1, h.2.2.1, fun i t hi => ⟨(eP i h.1.2.2.1).trans (h.2.2.2 i t hi).1, Ext_isTb hE (h.2.2.2 i t hi).2⟩⟩
  have sI : ∀ {zs : List Nat}, (∀ t ∈ zs, isTb w t = true) → sumI w' zs = sumI w zs := fun h => sumI_congr (fun t ht => tI 0 (h t ht))
  have sZ : ∀ {zs : List Nat}, (∀ t ∈ zs, isTb w t = true) → zs.map (szw w') = zs.map (szw w) := fun h => List.map_congr_left (fun t ht => szw_congr (tI 0 (h t ht)))
  have hYT : ∀ t ∈ Y, isTb w t = true := fun t ht => GeL_mem hY ht
  have hOT : ∀ t ∈ O, isTb w t = true := fun t ht => GeL_mem hO ht
  refine ⟨⟨⟨eK hRg.1, (eP 0 hRg.1).trans hRg.2.1, eK hRg.2.2.1, hRg.2.2.2⟩, hnr, (eP 1 hRg.1).trans h1, (eP 2 hRg.1).trans h2, (eP 3 hRg.1).trans h3, geO hyO, geO hoO, (eI 0 hyO.1).trans hl1, (eI 0 hoO.1).trans hl2, hly, hlo, eK htr, (eP 0 htr).trans htf, eK hfk, hgg⟩, hT', geL hY, geL hO, by rw [eI 3 hyO.1, sI hYT]; exact hty, by rw [eI 3 hoO.1, sI hOT]; exact hto, hnd, by rw [sZ hYT, sZ hOT]; exact hsum, ⟨(eI 1 htr).trans hF.1, hF.2.1, fun i t hi => (eP i hfk).trans (hF.2.2.1 i t hi), fun t ht => Ext_isTb hE (hF.2.2.2.1 t ht), fun t ht => ?_⟩, ⟨fun t ht => (tI 1 (hYT t ht)).trans (hol.1 t ht), fun t ht => (tI 1 (hOT t ht)).trans (hol.2 t ht)⟩, hG.1, hG.2.1, hG.2.2.1, fun r hr => ?_, fun t ht o ho => ?_, fun t ht u hk hu => ?_⟩
  · cases hc : wK w t with
    | none =>
      rw [hfl t ht hc, if_neg]
      intro q
      obtain ⟨ci, -, hk⟩ := isTb_to (hF.2.2.2.1 t q)
      rw [hc] at hk
      cases hk
    | some d =>
      have ht' := Ext_back hE hc ht
      rw [tI 2 ht']
      exact hF.2.2.2.2 t ht'
  · rw [eP r hRg.2.2.1]; exact Ext_oB hE (hT.2.2.2 r hr) (hG.2.2.2.1 r hr)
  · rw [Ext_suc hE hT (hGT t ht)] at ho
    exact Ext_oB hE (suc_oV hT ho) (hG.2.2.2.2.1 t ht o ho)
  · obtain ⟨ci, hci, hk0⟩ := isTb_to (hGT t ht)
    have hk4 : wK w t = some (.inl 4) := by
      have := eK hk0
      rw [hk] at this
      cases this
      exact hk0
    exact hG.2.2.2.2.2 t ht u hk4 ((eP 3 hk4).symm.trans hu)
end EX
def newP (w : Wd) (t c n : Nat) : Wd := uP (uN (uI (uN w t (.inl 3)) t 0 (nI (n + 1))) c (.inr (3, n))) t 3 (some c)
def newK (w : Wd) (t u : Nat) : Wd := uP (uI (uN w t (.inl 4)) t 0 2) t 3 (some u)
def newN (w : Wd) (a : Nat) (v : Int32) : Wd := uI (uN w a (.inl 5)) a 0 v
section NW
variable {w : Wd} {x rg nr yg ya ly og oa lo tr fa : Nat} {Y O F G : List Nat} {t c n u : Nat}
theorem fresh2 {d : Kd} {v : Int32} (h : wK (uI (uN w t d) t 0 v) c = none) : c ≠ t ∧ wK w c = none := by
  rw [wK_uI, wK_uN] at h
  by_cases e : c = t
  · rw [if_pos e] at h; cases h
  · rw [if_neg e] at h; exact ⟨e, h⟩
theorem newP_K (b : Nat) : wK (newP w t c n) b = if b = c then some (.inr (3, n)) else if b = t then some (.inl 3) else wK w b := rfl
theorem newP_I (b k : Nat) : wI (newP w t c n) b k = if b = c then 0 else if b = t ∧ k = 0 then nI (n + 1) else if b = t then 0 else wI w b k := rfl
theorem newP_P (b k : Nat) : wP (newP w t c n) b k = if b = t ∧ k = 3 then some c else if b = c then none else if b = t then none else wP w b k := rfl
theorem newK_K (b : Nat) : wK (newK w t u) b = if b = t then some (.inl 4) else wK w b := rfl
theorem newK_I (b k : Nat) : wI (newK w t u) b k = if b = t ∧ k = 0 then 2 else if b = t then 0 else wI w b k := rfl
theorem newK_P (b k : Nat) : wP (newK w t u) b k = if b = t ∧ k = 3 then some u else if b = t then none else wP w b k := rfl
theorem newN_K {v : Int32} (b : Nat) : wK (newN w t v) b = if b = t then some (.inl 5) else wK w b := rfl
theorem newN_I {v : Int32} (b k : Nat) : wI (newN w t v) b k = if b = t ∧ k = 0 then v else if b = t then 0 else wI w b k := rfl
theorem newN_P {v : Int32} (b k : Nat) : wP (newN w t v) b k = if b = t then none else wP w b k := rfl
theorem newP_ext (ht : wK w t = none) (hc : wK w c = none) : Ext w (newP w t c n) := fun b d hb => by
  have h1 := ne_new hb ht
  have h2 := ne_new hb hc
  exact ⟨by rw [newP_K, if_neg h2, if_neg h1]; exact hb, fun k => ⟨by rw [newP_I, if_neg h2, if_neg (fun q => h1 q.1), if_neg h1], by rw [newP_P, if_neg (fun q => h1 q.1), if_neg h2, if_neg h1]⟩⟩
theorem newK_ext (ht : wK w t = none) : Ext w (newK w t u) := fun b d hb => by
  have h1 := ne_new hb ht
  exact ⟨by rw [newK_K, if_neg h1]; exact hb, fun k => ⟨by rw [newK_I, if_neg (fun q => h1 q.1), if_neg h1], by rw [newK_P, if_neg (fun q => h1 q.1), if_neg h1]⟩⟩
theorem newN_ext {v : Int32} (ht : wK w t = none) : Ext w (newN w t v) := fun b d hb => by
  have h1 := ne_new hb ht
  exact ⟨by rw [newN_K, if_neg h1]; exact hb, fun k => ⟨by rw [newN_I, if_neg (fun q => h1 q.1), if_neg h1], by rw [newN_P, if_neg h1]⟩⟩
theorem newP_fr (ht : wK w t = none) (hc : wK w c = none) (hct : c ≠ t) : FrC w (newP w t c n) := fun b d hb hd => by
  obtain ⟨h1, h2⟩ := newP_ext (n := n) ht hc b d hb
  refine ⟨h1, fun k => ⟨(h2 k).1, (h2 k).2, ?_⟩⟩
  show wL (uN (uI (uN w t (.inl 3)) t 0 (nI (n + 1))) c (.inr (3, n))) b k = _
  rw [wL_uN, if_neg (ne_new hb hc), wL_uI, wL_uN, if_neg (ne_new hb ht)]
theorem newK_fr (ht : wK w t = none) : FrC w (newK w t u) := fun b d hb hd => by
  obtain ⟨h1, h2⟩ := newK_ext (u := u) ht b d hb
  refine ⟨h1, fun k => ⟨(h2 k).1, (h2 k).2, ?_⟩⟩
  show wL (uN w t (.inl 4)) b k = _
  rw [wL_uN, if_neg (ne_new hb ht)]
theorem newN_fr {v : Int32} (ht : wK w t = none) : FrC w (newN w t v) := fun b d hb hd => by
  obtain ⟨h1, h2⟩ := newN_ext (v := v) ht b d hb
  refine ⟨h1, fun k => ⟨(h2 k).1, (h2 k).2, ?_⟩⟩
  show wL (uN w t (.inl 5)) b k = _
  rw [wL_uN, if_neg (ne_new hb ht)]
theorem newP_CI (H : CI w x rg nr yg ya ly og oa lo tr fa Y O F G) (ht : wK w t = none) (hc : wK w c = none) (hct : c ≠ t) (hn : n ≤ 11) : CI (newP w t c n) x rg nr yg ya ly og oa lo tr fa Y O F G := by
  have hE := newP_ext (n := n) ht hc
  have nt : ∀ {b ci : Nat}, wK w b = none → wK (newP w t c n) b = some (.inl ci) → b = t ∧ ci = 3 := fun {b ci} hb h => by
    rw [newP_K] at h
    by_cases e : b = c
    · rw [if_pos e] at h; cases h
    · rw [if_neg e] at h
      by_cases e' : b = t
      · rw [if_pos e'] at h; cases h; exact ⟨e', rfl⟩
      · rw [if_neg e', hb] at h; cases h
  refine CI_ext hE (HT_ext hE (fun b hb h => ?_) (fun b b' hb h hb' h' => (nt hb h).1.trans (nt hb' h').1.symm) (fun b hb h => by have := (nt hb h).2; cases this) H.1.1.2.2.1 H.2.1) (fun b hb h => ?_) H
  · obtain ⟨rfl, -⟩ := nt hb h
    refine ⟨c, n, by rw [newP_P, if_pos ⟨rfl, rfl⟩], hc, by rw [newP_K, if_pos rfl], hn, by rw [newP_I, if_neg (Ne.symm hct), if_pos ⟨rfl, rfl⟩], fun i _ => ?_⟩
    rw [newP_P, if_neg (fun q => hct q.1), if_pos rfl]
    exact fun z hz => nomatch hz
  · obtain ⟨ci, -, hk⟩ := isTb_to hb
    obtain ⟨rfl, -⟩ := nt h hk
    rw [newP_I, if_neg (Ne.symm hct), if_neg (by simp), if_pos rfl]
theorem newK_CI (H : CI w x rg nr yg ya ly og oa lo tr fa Y O F G) (ht : wK w t = none) (hu : isTb w u = true) : CI (newK w t u) x rg nr yg ya ly og oa lo tr fa Y O F G := by
  have hE := newK_ext (u := u) ht
  have nt : ∀ {b ci : Nat}, wK w b = none → wK (newK w t u) b = some (.inl ci) → b = t ∧ ci = 4 := fun {b ci} hb h => by
    rw [newK_K] at h
    by_cases e' : b = t
    · rw [if_pos e'] at h; cases h; exact ⟨e', rfl⟩
    · rw [if_neg e', hb] at h; cases h
  refine CI_ext hE (HT_ext hE (fun b hb h => by have := (nt hb h).2; cases this) (fun b b' hb h hb' h' => (nt hb h).1.trans (nt hb' h').1.symm) (fun b hb h => ?_) H.1.1.2.2.1 H.2.1) (fun b hb h => ?_) H
  · obtain ⟨rfl, -⟩ := nt hb h
    refine ⟨by rw [newK_I, if_pos ⟨rfl, rfl⟩], fun z hz => ?_⟩
    rw [newK_P, if_pos ⟨rfl, rfl⟩] at hz
    cases hz
    exact Ext_isTb hE hu
  · obtain ⟨ci, -, hk⟩ := isTb_to hb
    obtain ⟨rfl, -⟩ := nt h hk
    rw [newK_I, if_neg (by simp), if_pos rfl]
theorem newN_CI {v : Int32} (H : CI w x rg nr yg ya ly og oa lo tr fa Y O F G) (ht : wK w t = none) : CI (newN w t v) x rg nr yg ya ly og oa lo tr fa Y O F G := by
  have hE := newN_ext (v := v) ht
  have nt : ∀ {b ci : Nat}, wK w b = none → wK (newN w t v) b = some (.inl ci) → b = t ∧ ci = 5 := fun {b ci} hb h => by
    rw [newN_K] at h
    by_cases e' : b = t
    · rw [if_pos e'] at h; cases h; exact ⟨e', rfl⟩
    · rw [if_neg e', hb] at h; cases h
  refine CI_ext hE (HT_ext hE (fun b hb h => by have := (nt hb h).2; cases this) (fun b b' hb h hb' h' => (nt hb h).1.trans (nt hb' h').1.symm) (fun b hb h => by have := (nt hb h).2; cases this) H.1.1.2.2.1 H.2.1) (fun b hb h => ?_) H
  obtain ⟨ci, hci, hk⟩ := isTb_to hb
  obtain ⟨rfl, rfl⟩ := nt h hk
  rcases hci with e | e <;> cases e
end NW
end
