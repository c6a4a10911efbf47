/-! Worlds as maps: a kind at each address, ints, references, longs at each place of it; J: the machine at a frame over such a world. -/
abbrev Kd : Type := Nat ⊕ (Nat × Nat)
abbrev Wd : Type := (Nat → Option Kd) × (Nat → Nat → Int32) × (Nat → Nat → Option Nat) × (Nat → Nat → Int64)
def wK (w : Wd) (a : Nat) : Option Kd := w.1 a
def wI (w : Wd) (a k : Nat) : Int32 := w.2.1 a k
def wP (w : Wd) (a k : Nat) : Option Nat := w.2.2.1 a k
def wL (w : Wd) (a k : Nat) : Int64 := w.2.2.2 a k
def uI (w : Wd) (a k : Nat) (x : Int32) : Wd := (w.1, fun b j => if b = a ∧ j = k then x else w.2.1 b j, w.2.2)
def uP (w : Wd) (a k : Nat) (o : Option Nat) : Wd := (w.1, w.2.1, fun b j => if b = a ∧ j = k then o else w.2.2.1 b j, w.2.2.2)
def uL (w : Wd) (a k : Nat) (x : Int64) : Wd := (w.1, w.2.1, w.2.2.1, fun b j => if b = a ∧ j = k then x else w.2.2.2 b j)
def uN (w : Wd) (a : Nat) (d : Kd) : Wd := (fun b => if b = a then some d else w.1 b, fun b j => if b = a then 0 else w.2.1 b j, fun b j => if b = a then none else w.2.2.1 b j, fun b j => if b = a then 0 else w.2.2.2 b j)
theorem wK_uI (w : Wd) (a k : Nat) (x : Int32) (b : Nat) : wK (uI w a k x) b = wK w b := rfl
theorem wK_uP (w : Wd) (a k : Nat) (x : Option Nat) (b : Nat) : wK (uP w a k x) b = wK w b := rfl
theorem wK_uL (w : Wd) (a k : Nat) (x : Int64) (b : Nat) : wK (uL w a k x) b = wK w b := rfl
theorem wK_uN (w : Wd) (a : Nat) (d : Kd) (b : Nat) : wK (uN w a d) b = if b = a then some d else wK w b := rfl
theorem wI_uI (w : Wd) (a k : Nat) (x : Int32) (b j : Nat) : wI (uI w a k x) b j = if b = a ∧ j = k then x else wI w b j := rfl
theorem wI_uP (w : Wd) (a k : Nat) (x : Option Nat) (b j : Nat) : wI (uP w a k x) b j = wI w b j := rfl
theorem wI_uL (w : Wd) (a k : Nat) (x : Int64) (b j : Nat) : wI (uL w a k x) b j = wI w b j := rfl
theorem wI_uN (w : Wd) (a : Nat) (d : Kd) (b j : Nat) : wI (uN w a d) b j = if b = a then 0 else wI w b j := rfl
theorem wP_uI (w : Wd) (a k : Nat) (x : Int32) (b j : Nat) : wP (uI w a k x) b j = wP w b j := rfl
theorem wP_uP (w : Wd) (a k : Nat) (x : Option Nat) (b j : Nat) : wP (uP w a k x) b j = if b = a ∧ j = k then x else wP w b j := rfl
theorem wP_uL (w : Wd) (a k : Nat) (x : Int64) (b j : Nat) : wP (uL w a k x) b j = wP w b j := rfl
theorem wP_uN (w : Wd) (a : Nat) (d : Kd) (b j : Nat) : wP (uN w a d) b j = if b = a then none else wP w b j := rfl
theorem wL_uI (w : Wd) (a k : Nat) (x : Int32) (b j : Nat) : wL (uI w a k x) b j = wL w b j := rfl
theorem wL_uP (w : Wd) (a k : Nat) (x : Option Nat) (b j : Nat) : wL (uP w a k x) b j = wL w b j := rfl
theorem wL_uL (w : Wd) (a k : Nat) (x : Int64) (b j : Nat) : wL (uL w a k x) b j = if b = a ∧ j = k then x else wL w b j := rfl
theorem wL_uN (w : Wd) (a : Nat) (d : Kd) (b j : Nat) : wL (uN w a d) b j = if b = a then 0 else wL w b j := rfl
theorem vc_r (a : Nat) : (Value.ref a).category = 1 := rfl
theorem vc_i (x : Int32) : (Value.int x).category = 1 := rfl
theorem vc_0 : Value.null.category = 1 := rfl
theorem ne_new {w : Wd} {a q : Nat} {d : Kd} (ha : wK w a = some d) (hq : wK w q = none) : a ≠ q := fun e => by rw [e, hq] at ha; cases ha
theorem va_rf_cat (o : Option Nat) : (va_rf o).category = 1 := by cases o <;> rfl
/-- a field's value -/
def fV (w : Wd) (a ci k : Nat) : Value := if ft ci k = true then .int (wI w a k) else va_rf (wP w a k)
/-- what a cell is -/
def ent (cA : Nat → ClassId) (w : Wd) (a : Nat) : Kd → va_E
  | .inl ci => .inr (ci, (List.range (nF ci)).map (fV w a ci))
  | .inr (t, n) => .inl (cA t, n, if tyK t = 0 then .inl (wI w a) else if tyK t = 1 then .inr (.inr (.inr (.inr (wP w a)))) else .inr (.inl (wL w a)))
def wrep (cA : Nat → ClassId) (w : Wd) (ws : va_W) : Prop := ∀ (a : Nat) (x : va_E), (a, x) ∈ ws ↔ ∃ d, wK w a = some d ∧ x = ent cA w a d
theorem wrep_at {cA : Nat → ClassId} {w : Wd} {ws : va_W} (h : wrep cA w ws) {a : Nat} {d : Kd} (ha : wK w a = some d) : ∃ q0 : Nat, ws[q0]? = some (a, ent cA w a d) := List.getElem?_of_mem ((h a _).mpr ⟨d, ha, rfl⟩)
/-- a cell changes, its kind stays, all else is as it was -/
theorem wrep_set {cA : Nat → ClassId} {w w' : Wd} {ws : va_W} {A : Nat → Prop} (h : wrep cA w ws) (hD : va_D A ws) {q0 a : Nat} {x0 : va_E} {d : Kd} (hq : ws[q0]? = some (a, x0)) (ha : wK w a = some d) (hk : ∀ b, wK w' b = wK w b) (ho : ∀ b, b ≠ a → ∀ d', ent cA w' b d' = ent cA w b d') {x : va_E} (hx : x = ent cA w' a d) : wrep cA w' (ws.set q0 (a, x)) := by
  have hl := (List.getElem?_eq_some_iff.mp hq).1
  intro b y
  constructor
  · intro hb
    obtain ⟨k, hk'⟩ := List.getElem?_of_mem hb
    by_cases hkq : q0 = k
    · subst hkq
      rw [List.getElem?_set_self hl] at hk'
      cases hk'
      exact ⟨d, (hk _).trans ha, hx⟩
    · rw [List.getElem?_set_ne hkq] at hk'
      have hba : b ≠ a := fun e => hkq (hD.1 q0 k (a, x0) (b, y) hq hk' e.symm)
      obtain ⟨d', h1, h2⟩ := (h b y).mp (List.mem_of_getElem? hk')
      exact ⟨d', (hk b).trans h1, h2.trans (ho b hba d').symm⟩
  · rintro ⟨d', h1, h2⟩
    rw [hk b] at h1
    by_cases hba : b = a
    · subst hba
      have : d' = d := Option.some.inj (h1.symm.trans ha)
      subst this
      rw [h2, ← hx]
      exact List.mem_of_getElem? (List.getElem?_set_self hl)
    · obtain ⟨k, hk'⟩ := List.getElem?_of_mem ((h b (ent cA w b d')).mpr ⟨d', h1, rfl⟩)
      have hkq : q0 ≠ k := by
        intro e
        subst e
        rw [hq] at hk'
        cases hk'
        exact hba rfl
      rw [h2, ho b hba d']
      exact List.mem_of_getElem? ((List.getElem?_set_ne hkq).trans hk')
/-- a new cell -/
theorem wrep_push {cA : Nat → ClassId} {w : Wd} {ws : va_W} {A : Nat → Prop} {a : Nat} {d : Kd} {x : va_E} (h : wrep cA w ws) (hD : va_D A (ws ++ [(a, x)])) (hx : x = ent cA (uN w a d) a d) : wK w a = none ∧ wrep cA (uN w a d) (ws ++ [(a, x)]) := by
  have hn : wK w a = none := by
    cases hc : wK w a with
    | none => rfl
    | some d0 =>
      obtain ⟨k, hk⟩ := wrep_at h hc
      have hl := (List.getElem?_eq_some_iff.mp hk).1
      have e := hD.1 k ws.length _ (a, x) ((List.getElem?_append_left hl).trans hk) (by rw [List.getElem?_append_right (Nat.le_refl _), Nat.sub_self]; rfl) rfl
      omega
  have ho : ∀ b, b ≠ a → ∀ d', ent cA (uN w a d) b d' = ent cA w b d' := by
    intro b hb d'
    have f1 : wI (uN w a d) b = wI w b := by funext j; rw [wI_uN, if_neg hb]
    have f2 : wP (uN w a d) b = wP w b := by funext j; rw [wP_uN, if_neg hb]
    have f3 : wL (uN w a d) b = wL w b := by funext j; rw [wL_uN, if_neg hb]
    cases d' with
    | inl ci =>
      have : fV (uN w a d) b ci = fV w b ci := by funext k; simp only [fV, f1, f2]
      simp only [ent, this]
    | inr tn => simp only [ent, f1, f2, f3]
  refine ⟨hn, fun b y => ⟨fun hb => ?_, ?_⟩⟩
  · rcases List.mem_append.mp hb with hb | hb
    · obtain ⟨d', h1, h2⟩ := (h b y).mp hb
      have hba : b ≠ a := fun e => by rw [e, hn] at h1; cases h1
      exact ⟨d', by rw [wK_uN, if_neg hba]; exact h1, h2.trans (ho b hba d').symm⟩
    · cases List.mem_singleton.mp hb
      exact ⟨d, by rw [wK_uN, if_pos rfl], hx⟩
  · rintro ⟨d', h1, h2⟩
    by_cases hba : b = a
    · subst hba
      rw [wK_uN, if_pos rfl] at h1
      cases h1
      rw [h2, ← hx]
      exact List.mem_append_right _ List.mem_cons_self
    · rw [wK_uN, if_neg hba] at h1
      refine List.mem_append_left _ ((h b y).mpr ⟨d', h1, h2.trans (ho b hba d')⟩)
/-- locals -/
def lhas (ls : Array Slot) (nL : Nat) (L : List (Option Value)) : Prop := ls.size = nL ∧ lv_wf ls ∧ ∀ (i : Nat) (v : Value), L[i]? = some (some v) → ls[i]? = some (.val v)
def lok (L : List (Option Value)) : Bool := L.all (fun o => match o with | some v => v.category == 1 | none => true)
theorem lok_at {L : List (Option Value)} (h : lok L = true) {i : Nat} {v : Value} (hi : L[i]? = some (some v)) : v.category = 1 := by
  have := List.all_eq_true.mp h _ (List.mem_of_getElem? hi)
  simpa using this
def lps : Nat → List (Option Value) → List (Nat × Value)
  | _, [] => []
  | i, none :: t => lps (i + 1) t
  | i, some v :: t => (i, v) :: lps (i + 1) t
theorem lps_mem : ∀ (L : List (Option Value)) (i : Nat) (q : Nat × Value), q ∈ lps i L ↔ i ≤ q.1 ∧ L[q.1 - i]? = some (some q.2)
  | [], i, q => by simp [lps]
  | none :: t, i, q => by
    rw [lps, lps_mem t (i + 1) q]
    constructor
    · rintro ⟨h1, h2⟩
      refine ⟨by omega, ?_⟩
      rw [show q.1 - i = (q.1 - (i + 1)) + 1 by omega, List.getElem?_cons_succ]
      exact h2
    · rintro ⟨h1, h2⟩
      by_cases e : q.1 = i
      · rw [e, Nat.sub_self, List.getElem?_cons_zero] at h2
        cases h2
      · refine ⟨by omega, ?_⟩
        rw [show q.1 - i = (q.1 - (i + 1)) + 1 by omega, List.getElem?_cons_succ] at h2
        exact h2
  | some v :: t, i, q => by
    rw [lps, List.mem_cons, lps_mem t (i + 1) q]
    constructor
    · rintro (h | ⟨h1, h2⟩)
      · subst h
        exact ⟨Nat.le_refl _, by rw [Nat.sub_self]; rfl⟩
      · refine ⟨by omega, ?_⟩
        rw [show q.1 - i = (q.1 - (i + 1)) + 1 by omega, List.getElem?_cons_succ]
        exact h2
    · rintro ⟨h1, h2⟩
      by_cases e : q.1 = i
      · rw [e, Nat.sub_self, List.getElem?_cons_zero] at h2
        cases h2
        exact Or.inl (by rw [← e])
      · refine Or.inr ⟨by omega, ?_⟩
        rw [show q.1 - i = (q.1 - (i + 1)) + 1 by omega, List.getElem?_cons_succ] at h2
        exact h2
theorem lhas.lv {ls : Array Slot} {nL : Nat} {L : List (Option Value)} (h : lhas ls nL L) : lv_has ls nL (lps 0 L) :=
  ⟨h.1, h.2.1, fun q hq => h.2.2 q.1 q.2 (by have := ((lps_mem L 0 q).mp hq).2; rwa [Nat.sub_zero] at this)⟩
theorem lhas.put {ls ls' : Array Slot} {nL : Nat} {L : List (Option Value)} {i : Nat} {v : Value} (h : lhas ls nL L) (hk : lok L = true) (h' : lv_has ls' nL ((i, v) :: (lps 0 L).filter (fun q => !(q.1 == i) && !(q.1 + 1 == i && q.2.category == 2)))) : lhas ls' nL (L.set i (some v)) := by
  refine ⟨h'.1, h'.2.1, fun j u hj => ?_⟩
  by_cases e : i = j
  · subst e
    have hl : i < L.length := by
      have := (List.getElem?_eq_some_iff.mp hj).1
      rwa [List.length_set] at this
    rw [List.getElem?_set_self hl] at hj
    cases hj
    exact h'.2.2 (i, v) List.mem_cons_self
  · rw [List.getElem?_set_ne e] at hj
    have hu := lok_at hk hj
    refine h'.2.2 (j, u) (List.mem_cons_of_mem _ (List.mem_filter.mpr ⟨(lps_mem L 0 (j, u)).mpr ⟨Nat.zero_le _, by rw [Nat.sub_zero]; exact hj⟩, ?_⟩))
    have e' : ¬ j = i := fun q => e q.symm
    simp [e', hu]
theorem lhas.idx {ls : Array Slot} {nL : Nat} {L : List (Option Value)} {i : Nat} {v : Value} (_h : lhas ls nL L) (hj : L[i]? = some (some v)) : ∃ k : Nat, (lps 0 L)[k]? = some (i, v) := List.getElem?_of_mem ((lps_mem L 0 (i, v)).mpr ⟨Nat.zero_le _, by rw [Nat.sub_zero]; exact hj⟩)
theorem lhas.mono {ls : Array Slot} {nL : Nat} {L L' : List (Option Value)} (h : lhas ls nL L) (hs : ∀ (i : Nat) (v : Value), L'[i]? = some (some v) → L[i]? = some (some v)) : lhas ls nL L' := ⟨h.1, h.2.1, fun i v hi => h.2.2 i v (hs i v hi)⟩
def lin : List Value → Nat → List (Option Value)
  | [], n => List.replicate n none
  | v :: t, n => if v.category = 2 then some v :: none :: lin t (n - 2) else some v :: lin t (n - 1)
theorem lin_args : ∀ (vs : List Value) (i n j : Nat) (v : Value), (lin vs n)[j]? = some (some v) → (i + j, v) ∈ lv_args i vs
  | [], i, n, j, v, h => by
    rw [lin, List.getElem?_replicate] at h
    split at h <;> simp at h
  | u :: t, i, n, j, v, h => by
    rw [lin] at h
    rw [lv_args]
    by_cases hu : u.category = 2
    · rw [if_pos hu] at h ⊢
      match j with
      | 0 =>
        rw [List.getElem?_cons_zero] at h
        cases h
        exact List.mem_cons_self
      | 1 =>
        rw [List.getElem?_cons_succ, List.getElem?_cons_zero] at h
        cases h
      | j + 2 =>
        rw [List.getElem?_cons_succ, List.getElem?_cons_succ] at h
        have h1 := lin_args t (i + 2) (n - 2) j v h
        rw [show i + (j + 2) = i + 2 + j by omega]
        exact List.mem_cons_of_mem _ h1
    · rw [if_neg hu] at h ⊢
      match j with
      | 0 =>
        rw [List.getElem?_cons_zero] at h
        cases h
        exact List.mem_cons_self
      | j + 1 =>
        rw [List.getElem?_cons_succ] at h
        have h1 := lin_args t (i + 1) (n - 1) j v h
        rw [show i + (j + 1) = i + 1 + j by omega]
        exact List.mem_cons_of_mem _ h1
theorem lhas_entry (vs : List Value) {n : Nat} (hn : (lg_sl vs).length ≤ n) : lhas ((lg_sl vs ++ List.replicate (n - (lg_sl vs).length) Slot.unset).toArray) n (lin vs n) := by
  have h := lv_entry vs (n := n) hn
  refine ⟨h.1, h.2.1, fun i v hi => ?_⟩
  have h1 := lin_args vs 0 n i v hi
  rw [Nat.zero_add] at h1
  exact h.2.2 (i, v) h1
/-! ===== the judgement ===== -/
abbrev Cxt : Type := Program × Launch × Env × Room × State × MethodId × Array Value × List Frame × Method × Code
abbrev Dat : Type := va_G × (Nat → ClassId)
def tysOf (cA : Nat → ClassId) : List (ClassId × FieldType) := (List.range nT).map (fun t => (cA t, tyL t))
theorem tysOf_at {cA : Nat → ClassId} {t : Nat} (h : t < nT) : (tysOf cA)[t]? = some (cA t, tyL t) := by
  rw [tysOf, List.getElem?_map, List.getElem?_range h]
  rfl
/-- what the tables and the statics say, beyond the words -/
def SK (Δ : Dat) (A : Nat → Prop) (U : State) (H : Heap) : Prop := va_K Δ.1 vwCl (tysOf Δ.2) U ∧ (∀ q ∈ ncL, va_Nc q.1 q.2 U) ∧ (∀ q ∈ srL, ∃ a, vk_R "TwoGenerations" q.1 q.2 a U) ∧ vx_Zq Bundle.tN "UNASSIGNED_STACK" Bundle.steD A U H ∧ vx_Zq Bundle.tN "SUPPRESSED_SENTINEL" Bundle.listD A U H
theorem SK.warm {Δ : Dat} {A B : Nat → Prop} {s U : State} {H H1 : Heap} (hW : s.WarmedH U.vm) (hAB : ∀ q, B q → A q) (hq : ∀ a : Nat, a < H.size → ¬ A a → H1[a]? = H[a]?) (h : SK Δ A s H) : SK Δ B U H1 :=
  ⟨va_K.moved hW.alike h.1, fun q hq => (h.2.1 q hq).moved hW.alike, fun q hq => by
    obtain ⟨a, ha⟩ := h.2.2.1 q hq
    exact ⟨a, vk_R.warm hW ha⟩, vx_Zq.moved hW.alike ((h.2.2.2.1.kept hq).narrow hAB), vx_Zq.moved hW.alike ((h.2.2.2.2.kept hq).narrow hAB)⟩
theorem SK.same {Δ : Dat} {A : Nat → Prop} {u U : State} {H : Heap} (hv : u.vm = U.vm) (h : SK Δ A u H) : SK Δ A U H := by
  have ha : u.vm.Alike U.vm := by rw [hv]; exact Vm.Alike.refl _
  exact ⟨va_K.moved ha h.1, fun q hq => (h.2.1 q hq).moved ha, fun q hq => by
    obtain ⟨a, ha⟩ := h.2.2.1 q hq
    exact ⟨a, vk_R.same hv.symm ha⟩, vx_Zq.moved ha h.2.2.2.1, vx_Zq.moved ha h.2.2.2.2⟩
def J (Γ : Cxt) (Δ : Dat) (A : Nat → Prop) (nL : Nat) (w : Wd) (cells slots : Nat) (Q : State → Prop) (pc : Nat) (L : List (Option Value)) (st : List Value) : Prop :=
  match Γ with
  | (p, l, e, R, s, m, args, below, meth, c) =>
    ∀ (H : Heap) (locs : List Loc) (ws : va_W) (ls : Array Slot), wrep Δ.2 w ws → va_P Δ.1 vwCl ws H → va_D A ws → va_S A s.heap H locs → lhas ls nL L → W p l e R s m args below meth c H locs cells slots Q (F0 m pc ls st)
/-- what a walk stands on -/
def Cx (Γ : Cxt) (Δ : Dat) (A : Nat → Prop) (l0 : Launch) (cc : ByteArray) (own : String) (nL : Nat) (R0 : Room) (ret : Option FieldType) (nm : String) : Prop :=
  match Γ with
  | (p, l, e, R, s, m, args, below, meth, c) =>
    l = l0 ∧ R = R0 ∧ p.tables.exec = Jvm.exec ∧ c.code = cc ∧ s.vm.findClass own = some m.cls ∧ c.maxLocals = nL ∧ (∀ x ∈ TT, x.before args s = true) ∧ SK Δ A s s.heap ∧ (∀ q, s.heap.size ≤ q → A q) ∧ meth.sig.returnType = ret ∧ meth.locks = false ∧ meth.name = nm ∧ ∀ (q : Nat) (cell : Cell), A q → s.heap[q]? = some cell → cell.vm.isStatics = false
section JR
variable {Γ : Cxt} {Δ : Dat} {A : Nat → Prop} {l0 : Launch} {cc : ByteArray} {own : String} {nL : Nat} {R0 : Room} {ret : Option FieldType} {nm : String} {w : Wd} {cells slots : Nat} {Q : State → Prop} {pc : Nat} {L : List (Option Value)} {st : List Value}

theorem J_iconst (X : Cx Γ Δ A l0 cc own nL R0 ret nm) {n : Int} {v : Int32} (hd : decode cc pc = .ok (.iconst n, 1)) (hv : Int32.ofInt n = v) (k : J Γ Δ A nL w cells slots Q (pc + 1) L (.int v :: st)) : J Γ Δ A nL w cells slots Q (pc) L (st) := by
  obtain ⟨p, l, e, R, s, m, args, below, meth, c⟩ := Γ
  obtain ⟨hl, hR, hx, hb, hown, hml, hts, hK, hA, -⟩ := X
  exact fun H locs ws ls h1 h2 h3 h4 h5 => lv_iconst hx hb hd hv (k H locs ws ls h1 h2 h3 h4 h5)
theorem J_bipush (X : Cx Γ Δ A l0 cc own nL R0 ret nm) {n : Int} {v : Int32} (hd : decode cc pc = .ok (.bipush n, 2)) (hv : (Int8.ofInt n).toInt32 = v) (k : J Γ Δ A nL w cells slots Q (pc + 2) L (.int v :: st)) : J Γ Δ A nL w cells slots Q (pc) L (st) := by
  obtain ⟨p, l, e, R, s, m, args, below, meth, c⟩ := Γ
  obtain ⟨hl, hR, hx, hb, hown, hml, hts, hK, hA, -⟩ := X
  exact fun H locs ws ls h1 h2 h3 h4 h5 => lv_bipush hx hb hd hv (k H locs ws ls h1 h2 h3 h4 h5)
theorem J_sipush (X : Cx Γ Δ A l0 cc own nL R0 ret nm) {n : Int} {v : Int32} (hd : decode cc pc = .ok (.sipush n, 3)) (hv : (Int16.ofInt n).toInt32 = v) (k : J Γ Δ A nL w cells slots Q (pc + 3) L (.int v :: st)) : J Γ Δ A nL w cells slots Q (pc) L (st) := by
  obtain ⟨p, l, e, R, s, m, args, below, meth, c⟩ := Γ
  obtain ⟨hl, hR, hx, hb, hown, hml, hts, hK, hA, -⟩ := X
  exact fun H locs ws ls h1 h2 h3 h4 h5 => lv_sipush hx hb hd hv (k H locs ws ls h1 h2 h3 h4 h5)
theorem J_null (X : Cx Γ Δ A l0 cc own nL R0 ret nm)  (hd : decode cc pc = .ok (.aconst_null, 1))  (k : J Γ Δ A nL w cells slots Q (pc + 1) L (.null :: st)) : J Γ Δ A nL w cells slots Q (pc) L (st) := by
  obtain ⟨p, l, e, R, s, m, args, below, meth, c⟩ := Γ
  obtain ⟨hl, hR, hx, hb, hown, hml, hts, hK, hA, -⟩ := X
  exact fun H locs ws ls h1 h2 h3 h4 h5 => lv_null hx hb hd (k H locs ws ls h1 h2 h3 h4 h5)
theorem J_iload_n (X : Cx Γ Δ A l0 cc own nL R0 ret nm) {k0 : Fin 4} {i : Nat} {x : Int32} (hd : decode cc pc = .ok (.iload_n k0, 1)) (hi : (k0 : Nat) = i) (hL : L[i]? = some (some (.int x))) (k : J Γ Δ A nL w cells slots Q (pc + 1) L (.int x :: st)) : J Γ Δ A nL w cells slots Q (pc) L (st) := by
  obtain ⟨p, l, e, R, s, m, args, below, meth, c⟩ := Γ
  obtain ⟨hl, hR, hx, hb, hown, hml, hts, hK, hA, -⟩ := X
  exact fun H locs ws ls h1 h2 h3 h4 h5 => lv_iload_n hx hb hd hi (h5.2.2 i _ hL) (k H locs ws ls h1 h2 h3 h4 h5)
theorem J_iload (X : Cx Γ Δ A l0 cc own nL R0 ret nm) {i : Nat} {x : Int32} (hd : decode cc pc = .ok (.iload i, 2)) (hL : L[i]? = some (some (.int x))) (k : J Γ Δ A nL w cells slots Q (pc + 2) L (.int x :: st)) : J Γ Δ A nL w cells slots Q (pc) L (st) := by
  obtain ⟨p, l, e, R, s, m, args, below, meth, c⟩ := Γ
  obtain ⟨hl, hR, hx, hb, hown, hml, hts, hK, hA, -⟩ := X
  exact fun H locs ws ls h1 h2 h3 h4 h5 => lv_iload hx hb hd (h5.2.2 i _ hL) (k H locs ws ls h1 h2 h3 h4 h5)
theorem J_iadd (X : Cx Γ Δ A l0 cc own nL R0 ret nm) {x y : Int32} (hd : decode cc pc = .ok (.iadd, 1))  (k : J Γ Δ A nL w cells slots Q (pc + 1) L (.int (x + y) :: st)) : J Γ Δ A nL w cells slots Q (pc) L (.int y :: .int x :: st) := by
  obtain ⟨p, l, e, R, s, m, args, below, meth, c⟩ := Γ
  obtain ⟨hl, hR, hx, hb, hown, hml, hts, hK, hA, -⟩ := X
  exact fun H locs ws ls h1 h2 h3 h4 h5 => lv_iadd hx hb hd (k H locs ws ls h1 h2 h3 h4 h5)
theorem J_isub (X : Cx Γ Δ A l0 cc own nL R0 ret nm) {x y : Int32} (hd : decode cc pc = .ok (.isub, 1))  (k : J Γ Δ A nL w cells slots Q (pc + 1) L (.int (x - y) :: st)) : J Γ Δ A nL w cells slots Q (pc) L (.int y :: .int x :: st) := by
  obtain ⟨p, l, e, R, s, m, args, below, meth, c⟩ := Γ
  obtain ⟨hl, hR, hx, hb, hown, hml, hts, hK, hA, -⟩ := X
  exact fun H locs ws ls h1 h2 h3 h4 h5 => lv_isub hx hb hd (k H locs ws ls h1 h2 h3 h4 h5)
theorem J_imul (X : Cx Γ Δ A l0 cc own nL R0 ret nm) {x y : Int32} (hd : decode cc pc = .ok (.imul, 1))  (k : J Γ Δ A nL w cells slots Q (pc + 1) L (.int (x * y) :: st)) : J Γ Δ A nL w cells slots Q (pc) L (.int y :: .int x :: st) := by
  obtain ⟨p, l, e, R, s, m, args, below, meth, c⟩ := Γ
  obtain ⟨hl, hR, hx, hb, hown, hml, hts, hK, hA, -⟩ := X
  exact fun H locs ws ls h1 h2 h3 h4 h5 => lv_imul hx hb hd (k H locs ws ls h1 h2 h3 h4 h5)
theorem J_iand (X : Cx Γ Δ A l0 cc own nL R0 ret nm) {x y : Int32} (hd : decode cc pc = .ok (.iand, 1))  (k : J Γ Δ A nL w cells slots Q (pc + 1) L (.int (x &&& y) :: st)) : J Γ Δ A nL w cells slots Q (pc) L (.int y :: .int x :: st) := by
  obtain ⟨p, l, e, R, s, m, args, below, meth, c⟩ := Γ
  obtain ⟨hl, hR, hx, hb, hown, hml, hts, hK, hA, -⟩ := X
  exact fun H locs ws ls h1 h2 h3 h4 h5 => lv_iand hx hb hd (k H locs ws ls h1 h2 h3 h4 h5)
theorem J_ior (X : Cx Γ Δ A l0 cc own nL R0 ret nm) {x y : Int32} (hd : decode cc pc = .ok (.ior, 1))  (k : J Γ Δ A nL w cells slots Q (pc + 1) L (.int (x ||| y) :: st)) : J Γ Δ A nL w cells slots Q (pc) L (.int y :: .int x :: st) := by
  obtain ⟨p, l, e, R, s, m, args, below, meth, c⟩ := Γ
  obtain ⟨hl, hR, hx, hb, hown, hml, hts, hK, hA, -⟩ := X
  exact fun H locs ws ls h1 h2 h3 h4 h5 => lv_ior hx hb hd (k H locs ws ls h1 h2 h3 h4 h5)
theorem J_ineg (X : Cx Γ Δ A l0 cc own nL R0 ret nm) {x : Int32} (hd : decode cc pc = .ok (.ineg, 1))  (k : J Γ Δ A nL w cells slots Q (pc + 1) L (.int (-x) :: st)) : J Γ Δ A nL w cells slots Q (pc) L (.int x :: st) := by
  obtain ⟨p, l, e, R, s, m, args, below, meth, c⟩ := Γ
  obtain ⟨hl, hR, hx, hb, hown, hml, hts, hK, hA, -⟩ := X
  exact fun H locs ws ls h1 h2 h3 h4 h5 => lv_ineg hx hb hd (k H locs ws ls h1 h2 h3 h4 h5)
theorem J_ishl (X : Cx Γ Δ A l0 cc own nL R0 ret nm) {x y : Int32} (hd : decode cc pc = .ok (.ishl, 1))  (k : J Γ Δ A nL w cells slots Q (pc + 1) L (.int (x <<< (y &&& 31)) :: st)) : J Γ Δ A nL w cells slots Q (pc) L (.int y :: .int x :: st) := by
  obtain ⟨p, l, e, R, s, m, args, below, meth, c⟩ := Γ
  obtain ⟨hl, hR, hx, hb, hown, hml, hts, hK, hA, -⟩ := X
  exact fun H locs ws ls h1 h2 h3 h4 h5 => lv_ishl hx hb hd (k H locs ws ls h1 h2 h3 h4 h5)
theorem J_i2l (X : Cx Γ Δ A l0 cc own nL R0 ret nm) {x : Int32} (hd : decode cc pc = .ok (.i2l, 1))  (k : J Γ Δ A nL w cells slots Q (pc + 1) L (.long x.toInt64 :: st)) : J Γ Δ A nL w cells slots Q (pc) L (.int x :: st) := by
  obtain ⟨p, l, e, R, s, m, args, below, meth, c⟩ := Γ
  obtain ⟨hl, hR, hx, hb, hown, hml, hts, hK, hA, -⟩ := X
  exact fun H locs ws ls h1 h2 h3 h4 h5 => lv_i2l hx hb hd rfl (k H locs ws ls h1 h2 h3 h4 h5)
theorem J_lload_n (X : Cx Γ Δ A l0 cc own nL R0 ret nm) {k0 : Fin 4} {i : Nat} {x : Int64} (hd : decode cc pc = .ok (.lload_n k0, 1)) (hi : (k0 : Nat) = i) (hL : L[i]? = some (some (.long x))) (k : J Γ Δ A nL w cells slots Q (pc + 1) L (.long x :: st)) : J Γ Δ A nL w cells slots Q (pc) L (st) := by
  obtain ⟨p, l, e, R, s, m, args, below, meth, c⟩ := Γ
  obtain ⟨hl, hR, hx, hb, hown, hml, hts, hK, hA, -⟩ := X
  exact fun H locs ws ls h1 h2 h3 h4 h5 => lv_lload_n hx hb hd hi (h5.2.2 i _ hL) (k H locs ws ls h1 h2 h3 h4 h5)
theorem J_ladd (X : Cx Γ Δ A l0 cc own nL R0 ret nm) {x y : Int64} (hd : decode cc pc = .ok (.ladd, 1))  (k : J Γ Δ A nL w cells slots Q (pc + 1) L (.long (x + y) :: st)) : J Γ Δ A nL w cells slots Q (pc) L (.long y :: .long x :: st) := by
  obtain ⟨p, l, e, R, s, m, args, below, meth, c⟩ := Γ
  obtain ⟨hl, hR, hx, hb, hown, hml, hts, hK, hA, -⟩ := X
  exact fun H locs ws ls h1 h2 h3 h4 h5 => lv_ladd hx hb hd (k H locs ws ls h1 h2 h3 h4 h5)
theorem J_lsub (X : Cx Γ Δ A l0 cc own nL R0 ret nm) {x y : Int64} (hd : decode cc pc = .ok (.lsub, 1))  (k : J Γ Δ A nL w cells slots Q (pc + 1) L (.long (x - y) :: st)) : J Γ Δ A nL w cells slots Q (pc) L (.long y :: .long x :: st) := by
  obtain ⟨p, l, e, R, s, m, args, below, meth, c⟩ := Γ
  obtain ⟨hl, hR, hx, hb, hown, hml, hts, hK, hA, -⟩ := X
  exact fun H locs ws ls h1 h2 h3 h4 h5 => lv_lsub hx hb hd (k H locs ws ls h1 h2 h3 h4 h5)
theorem J_l2i (X : Cx Γ Δ A l0 cc own nL R0 ret nm) {x : Int64} (hd : decode cc pc = .ok (.l2i, 1))  (k : J Γ Δ A nL w cells slots Q (pc + 1) L (.int x.toInt32 :: st)) : J Γ Δ A nL w cells slots Q (pc) L (.long x :: st) := by
  obtain ⟨p, l, e, R, s, m, args, below, meth, c⟩ := Γ
  obtain ⟨hl, hR, hx, hb, hown, hml, hts, hK, hA, -⟩ := X
  exact fun H locs ws ls h1 h2 h3 h4 h5 => lv_l2i hx hb hd rfl (k H locs ws ls h1 h2 h3 h4 h5)
theorem J_dup2 (X : Cx Γ Δ A l0 cc own nL R0 ret nm) {v u : Value} (hd : decode cc pc = .ok (.dup2, 1)) (hv : v.category = 1) (hu : u.category = 1) (k : J Γ Δ A nL w cells slots Q (pc + 1) L (v :: u :: v :: u :: st)) : J Γ Δ A nL w cells slots Q (pc) L (v :: u :: st) := by
  obtain ⟨p, l, e, R, s, m, args, below, meth, c⟩ := Γ
  obtain ⟨hl, hR, hx, hb, hown, hml, hts, hK, hA, -⟩ := X
  exact fun H locs ws ls h1 h2 h3 h4 h5 => lv_dup2_11 hx hb hd hv hu (k H locs ws ls h1 h2 h3 h4 h5)
theorem J_lcmp (X : Cx Γ Δ A l0 cc own nL R0 ret nm) {x y : Int64} (hd : decode cc pc = .ok (.lcmp, 1))  (k : J Γ Δ A nL w cells slots Q (pc + 1) L (.int (lg_cmp x y) :: st)) : J Γ Δ A nL w cells slots Q (pc) L (.long y :: .long x :: st) := by
  obtain ⟨p, l, e, R, s, m, args, below, meth, c⟩ := Γ
  obtain ⟨hl, hR, hx, hb, hown, hml, hts, hK, hA, -⟩ := X
  exact fun H locs ws ls h1 h2 h3 h4 h5 => W.lcmp hx hb hd (k H locs ws ls h1 h2 h3 h4 h5)
theorem J_dup (X : Cx Γ Δ A l0 cc own nL R0 ret nm) {v : Value} (hd : decode cc pc = .ok (.dup, 1)) (hv : v.category = 1) (k : J Γ Δ A nL w cells slots Q (pc + 1) L (v :: v :: st)) : J Γ Δ A nL w cells slots Q (pc) L (v :: st) := by
  obtain ⟨p, l, e, R, s, m, args, below, meth, c⟩ := Γ
  obtain ⟨hl, hR, hx, hb, hown, hml, hts, hK, hA, -⟩ := X
  exact fun H locs ws ls h1 h2 h3 h4 h5 => lv_dup hx hb hd hv (k H locs ws ls h1 h2 h3 h4 h5)
theorem J_pop (X : Cx Γ Δ A l0 cc own nL R0 ret nm) {v : Value} (hd : decode cc pc = .ok (.pop, 1)) (hv : v.category = 1) (k : J Γ Δ A nL w cells slots Q (pc + 1) L (st)) : J Γ Δ A nL w cells slots Q (pc) L (v :: st) := by
  obtain ⟨p, l, e, R, s, m, args, below, meth, c⟩ := Γ
  obtain ⟨hl, hR, hx, hb, hown, hml, hts, hK, hA, -⟩ := X
  exact fun H locs ws ls h1 h2 h3 h4 h5 => lv_pop hx hb hd hv (k H locs ws ls h1 h2 h3 h4 h5)
theorem J_dup_x1 (X : Cx Γ Δ A l0 cc own nL R0 ret nm) {v u : Value} (hd : decode cc pc = .ok (.dup_x1, 1)) (hv : v.category = 1) (hu : u.category = 1) (k : J Γ Δ A nL w cells slots Q (pc + 1) L (v :: u :: v :: st)) : J Γ Δ A nL w cells slots Q (pc) L (v :: u :: st) := by
  obtain ⟨p, l, e, R, s, m, args, below, meth, c⟩ := Γ
  obtain ⟨hl, hR, hx, hb, hown, hml, hts, hK, hA, -⟩ := X
  exact fun H locs ws ls h1 h2 h3 h4 h5 => lv_dup_x1 hx hb hd hv hu (k H locs ws ls h1 h2 h3 h4 h5)
theorem J_aload_n (X : Cx Γ Δ A l0 cc own nL R0 ret nm) {k0 : Fin 4} {i : Nat} {o : Option Nat} (hd : decode cc pc = .ok (.aload_n k0, 1)) (hi : (k0 : Nat) = i) (hL : L[i]? = some (some (va_rf o))) (k : J Γ Δ A nL w cells slots Q (pc + 1) L (va_rf o :: st)) : J Γ Δ A nL w cells slots Q (pc) L (st) := by
  obtain ⟨p, l, e, R, s, m, args, below, meth, c⟩ := Γ
  obtain ⟨hl, hR, hx, hb, hown, hml, hts, hK, hA, -⟩ := X
  intro H locs ws ls h1 h2 h3 h4 h5
  have hL' := (h5.2.2 i _ hL)
  have k' := k H locs ws ls h1 h2 h3 h4 h5
  cases o with
  | none => exact lv_aload_nN hx hb hd hi hL' k'
  | some y => exact lv_aload_n hx hb hd hi hL' k'
theorem J_aload (X : Cx Γ Δ A l0 cc own nL R0 ret nm) {i : Nat} {o : Option Nat} (hd : decode cc pc = .ok (.aload i, 2)) (hL : L[i]? = some (some (va_rf o))) (k : J Γ Δ A nL w cells slots Q (pc + 2) L (va_rf o :: st)) : J Γ Δ A nL w cells slots Q (pc) L (st) := by
  obtain ⟨p, l, e, R, s, m, args, below, meth, c⟩ := Γ
  obtain ⟨hl, hR, hx, hb, hown, hml, hts, hK, hA, -⟩ := X
  intro H locs ws ls h1 h2 h3 h4 h5
  have hL' := (h5.2.2 i _ hL)
  have k' := k H locs ws ls h1 h2 h3 h4 h5
  cases o with
  | none => exact lv_aloadN hx hb hd hL' k'
  | some y => exact lv_aload hx hb hd hL' k'
theorem J_istore_n (X : Cx Γ Δ A l0 cc own nL R0 ret nm) {k0 : Fin 4} {i : Nat} {x : Int32} (hd : decode cc pc = .ok (.istore_n k0, 1)) (hi : (k0 : Nat) = i) (hn : i < nL) {L' : List (Option Value)} (hL : L.set i (some (.int x)) = L') (k : J Γ Δ A nL w cells slots Q (pc + 1) L' (st)) (hk : lok L = true := by first | rfl | simp [lok, va_rf_cat, vc_r, vc_i, vc_0]) : J Γ Δ A nL w cells slots Q (pc) L (.int x :: st) := by
  obtain ⟨p, l, e, R, s, m, args, below, meth, c⟩ := Γ
  obtain ⟨hl, hR, hx, hb, hown, hml, hts, hK, hA, -⟩ := X
  intro H locs ws ls h1 h2 h3 h4 h5
  subst hL
  exact lv_istore_n hx hb hd hi h5.lv hn rfl (fun ls' h' => k H locs ws ls' h1 h2 h3 h4 (h5.put hk h'))
theorem J_istore (X : Cx Γ Δ A l0 cc own nL R0 ret nm) {i : Nat} {x : Int32} (hd : decode cc pc = .ok (.istore i, 2)) (hn : i < nL) {L' : List (Option Value)} (hL : L.set i (some (.int x)) = L') (k : J Γ Δ A nL w cells slots Q (pc + 2) L' (st)) (hk : lok L = true := by first | rfl | simp [lok, va_rf_cat, vc_r, vc_i, vc_0]) : J Γ Δ A nL w cells slots Q (pc) L (.int x :: st) := by
  obtain ⟨p, l, e, R, s, m, args, below, meth, c⟩ := Γ
  obtain ⟨hl, hR, hx, hb, hown, hml, hts, hK, hA, -⟩ := X
  intro H locs ws ls h1 h2 h3 h4 h5
  subst hL
  exact lv_istore hx hb hd h5.lv hn rfl (fun ls' h' => k H locs ws ls' h1 h2 h3 h4 (h5.put hk h'))
theorem J_astore_n (X : Cx Γ Δ A l0 cc own nL R0 ret nm) {k0 : Fin 4} {i : Nat} {o : Option Nat} (hd : decode cc pc = .ok (.astore_n k0, 1)) (hi : (k0 : Nat) = i) (hn : i < nL) {L' : List (Option Value)} (hL : L.set i (some (va_rf o)) = L') (k : J Γ Δ A nL w cells slots Q (pc + 1) L' (st)) (hk : lok L = true := by first | rfl | simp [lok, va_rf_cat, vc_r, vc_i, vc_0]) : J Γ Δ A nL w cells slots Q (pc) L (va_rf o :: st) := by
  obtain ⟨p, l, e, R, s, m, args, below, meth, c⟩ := Γ
  obtain ⟨hl, hR, hx, hb, hown, hml, hts, hK, hA, -⟩ := X
  intro H locs ws ls h1 h2 h3 h4 h5
  subst hL
  cases o with
  | none => exact lv_astore_nN hx hb hd hi h5.lv hn rfl (fun ls' h' => k H locs ws ls' h1 h2 h3 h4 (h5.put hk h'))
  | some y => exact lv_astore_n hx hb hd hi h5.lv hn rfl (fun ls' h' => k H locs ws ls' h1 h2 h3 h4 (h5.put hk h'))
theorem J_astore (X : Cx Γ Δ A l0 cc own nL R0 ret nm) {i : Nat} {o : Option Nat} (hd : decode cc pc = .ok (.astore i, 2)) (hn : i < nL) {L' : List (Option Value)} (hL : L.set i (some (va_rf o)) = L') (k : J Γ Δ A nL w cells slots Q (pc + 2) L' (st)) (hk : lok L = true := by first | rfl | simp [lok, va_rf_cat, vc_r, vc_i, vc_0]) : J Γ Δ A nL w cells slots Q (pc) L (va_rf o :: st) := by
  obtain ⟨p, l, e, R, s, m, args, below, meth, c⟩ := Γ
  obtain ⟨hl, hR, hx, hb, hown, hml, hts, hK, hA, -⟩ := X
  intro H locs ws ls h1 h2 h3 h4 h5
  subst hL
  cases o with
  | none => exact lv_astoreN hx hb hd h5.lv hn rfl (fun ls' h' => k H locs ws ls' h1 h2 h3 h4 (h5.put hk h'))
  | some y => exact lv_astore hx hb hd h5.lv hn rfl (fun ls' h' => k H locs ws ls' h1 h2 h3 h4 (h5.put hk h'))
theorem J_iinc (X : Cx Γ Δ A l0 cc own nL R0 ret nm) {i : Nat} {n : Int} {x : Int32} (hd : decode cc pc = .ok (.iinc i n, 3)) (hx0 : L[i]? = some (some (.int x))) (hn : i < nL) {v : Int32} (hv : x + Int32.ofInt n = v) {L' : List (Option Value)} (hL : L.set i (some (.int v)) = L') (k : J Γ Δ A nL w cells slots Q (pc + 3) L' (st)) (hk : lok L = true := by first | rfl | simp [lok, va_rf_cat, vc_r, vc_i, vc_0]) : J Γ Δ A nL w cells slots Q (pc) L (st) := by
  obtain ⟨p, l, e, R, s, m, args, below, meth, c⟩ := Γ
  obtain ⟨hl, hR, hx, hb, hown, hml, hts, hK, hA, -⟩ := X
  intro H locs ws ls h1 h2 h3 h4 h5
  subst hL
  obtain ⟨j, hj⟩ := h5.idx hx0
  exact lv_iinc hx hb hd h5.lv hj hv hn rfl (fun ls' h' => k H locs ws ls' h1 h2 h3 h4 (h5.put hk h'))
theorem J_if_eq (X : Cx Γ Δ A l0 cc own nL R0 ret nm) {x : Int32} {off : Int} {tgt : Nat} (hd : decode cc pc = .ok (.ifCond .eq off, 3)) (ht : (pc : Int) + off = (tgt : Int)) (kt : x = 0 → J Γ Δ A nL w cells slots Q (tgt) L (st)) (kf : ¬ x = 0 → J Γ Δ A nL w cells slots Q (pc + 3) L (st)) : J Γ Δ A nL w cells slots Q (pc) L (.int x :: st) := by
  obtain ⟨p, l, e, R, s, m, args, below, meth, c⟩ := Γ
  obtain ⟨hl, hR, hx, hb, hown, hml, hts, hK, hA, -⟩ := X
  exact fun H locs ws ls h1 h2 h3 h4 h5 => lv_if_eq hx hb hd ht (fun h => kt h H locs ws ls h1 h2 h3 h4 h5) (fun h => kf h H locs ws ls h1 h2 h3 h4 h5)
theorem J_if_ne (X : Cx Γ Δ A l0 cc own nL R0 ret nm) {x : Int32} {off : Int} {tgt : Nat} (hd : decode cc pc = .ok (.ifCond .ne off, 3)) (ht : (pc : Int) + off = (tgt : Int)) (kt : ¬ x = 0 → J Γ Δ A nL w cells slots Q (tgt) L (st)) (kf : x = 0 → J Γ Δ A nL w cells slots Q (pc + 3) L (st)) : J Γ Δ A nL w cells slots Q (pc) L (.int x :: st) := by
  obtain ⟨p, l, e, R, s, m, args, below, meth, c⟩ := Γ
  obtain ⟨hl, hR, hx, hb, hown, hml, hts, hK, hA, -⟩ := X
  exact fun H locs ws ls h1 h2 h3 h4 h5 => lv_if_ne hx hb hd ht (fun h => kt h H locs ws ls h1 h2 h3 h4 h5) (fun h => kf h H locs ws ls h1 h2 h3 h4 h5)
theorem J_if_lt (X : Cx Γ Δ A l0 cc own nL R0 ret nm) {x : Int32} {off : Int} {tgt : Nat} (hd : decode cc pc = .ok (.ifCond .lt off, 3)) (ht : (pc : Int) + off = (tgt : Int)) (kt : x < 0 → J Γ Δ A nL w cells slots Q (tgt) L (st)) (kf : ¬ x < 0 → J Γ Δ A nL w cells slots Q (pc + 3) L (st)) : J Γ Δ A nL w cells slots Q (pc) L (.int x :: st) := by
  obtain ⟨p, l, e, R, s, m, args, below, meth, c⟩ := Γ
  obtain ⟨hl, hR, hx, hb, hown, hml, hts, hK, hA, -⟩ := X
  exact fun H locs ws ls h1 h2 h3 h4 h5 => lv_if_lt hx hb hd ht (fun h => kt h H locs ws ls h1 h2 h3 h4 h5) (fun h => kf h H locs ws ls h1 h2 h3 h4 h5)
theorem J_if_ge (X : Cx Γ Δ A l0 cc own nL R0 ret nm) {x : Int32} {off : Int} {tgt : Nat} (hd : decode cc pc = .ok (.ifCond .ge off, 3)) (ht : (pc : Int) + off = (tgt : Int)) (kt : 0 ≤ x → J Γ Δ A nL w cells slots Q (tgt) L (st)) (kf : ¬ 0 ≤ x → J Γ Δ A nL w cells slots Q (pc + 3) L (st)) : J Γ Δ A nL w cells slots Q (pc) L (.int x :: st) := by
  obtain ⟨p, l, e, R, s, m, args, below, meth, c⟩ := Γ
  obtain ⟨hl, hR, hx, hb, hown, hml, hts, hK, hA, -⟩ := X
  exact fun H locs ws ls h1 h2 h3 h4 h5 => lv_if_ge hx hb hd ht (fun h => kt h H locs ws ls h1 h2 h3 h4 h5) (fun h => kf h H locs ws ls h1 h2 h3 h4 h5)
theorem J_if_gt (X : Cx Γ Δ A l0 cc own nL R0 ret nm) {x : Int32} {off : Int} {tgt : Nat} (hd : decode cc pc = .ok (.ifCond .gt off, 3)) (ht : (pc : Int) + off = (tgt : Int)) (kt : 0 < x → J Γ Δ A nL w cells slots Q (tgt) L (st)) (kf : ¬ 0 < x → J Γ Δ A nL w cells slots Q (pc + 3) L (st)) : J Γ Δ A nL w cells slots Q (pc) L (.int x :: st) := by
  obtain ⟨p, l, e, R, s, m, args, below, meth, c⟩ := Γ
  obtain ⟨hl, hR, hx, hb, hown, hml, hts, hK, hA, -⟩ := X
  exact fun H locs ws ls h1 h2 h3 h4 h5 => lv_if_gt hx hb hd ht (fun h => kt h H locs ws ls h1 h2 h3 h4 h5) (fun h => kf h H locs ws ls h1 h2 h3 h4 h5)
theorem J_if_le (X : Cx Γ Δ A l0 cc own nL R0 ret nm) {x : Int32} {off : Int} {tgt : Nat} (hd : decode cc pc = .ok (.ifCond .le off, 3)) (ht : (pc : Int) + off = (tgt : Int)) (kt : x ≤ 0 → J Γ Δ A nL w cells slots Q (tgt) L (st)) (kf : ¬ x ≤ 0 → J Γ Δ A nL w cells slots Q (pc + 3) L (st)) : J Γ Δ A nL w cells slots Q (pc) L (.int x :: st) := by
  obtain ⟨p, l, e, R, s, m, args, below, meth, c⟩ := Γ
  obtain ⟨hl, hR, hx, hb, hown, hml, hts, hK, hA, -⟩ := X
  exact fun H locs ws ls h1 h2 h3 h4 h5 => lv_if_le hx hb hd ht (fun h => kt h H locs ws ls h1 h2 h3 h4 h5) (fun h => kf h H locs ws ls h1 h2 h3 h4 h5)
theorem J_icmp_eq (X : Cx Γ Δ A l0 cc own nL R0 ret nm) {x y : Int32} {off : Int} {tgt : Nat} (hd : decode cc pc = .ok (.if_icmp .eq off, 3)) (ht : (pc : Int) + off = (tgt : Int)) (kt : x = y → J Γ Δ A nL w cells slots Q (tgt) L (st)) (kf : ¬ x = y → J Γ Δ A nL w cells slots Q (pc + 3) L (st)) : J Γ Δ A nL w cells slots Q (pc) L (.int y :: .int x :: st) := by
  obtain ⟨p, l, e, R, s, m, args, below, meth, c⟩ := Γ
  obtain ⟨hl, hR, hx, hb, hown, hml, hts, hK, hA, -⟩ := X
  exact fun H locs ws ls h1 h2 h3 h4 h5 => lv_icmp_eq hx hb hd ht (fun h => kt h H locs ws ls h1 h2 h3 h4 h5) (fun h => kf h H locs ws ls h1 h2 h3 h4 h5)
theorem J_icmp_ne (X : Cx Γ Δ A l0 cc own nL R0 ret nm) {x y : Int32} {off : Int} {tgt : Nat} (hd : decode cc pc = .ok (.if_icmp .ne off, 3)) (ht : (pc : Int) + off = (tgt : Int)) (kt : ¬ x = y → J Γ Δ A nL w cells slots Q (tgt) L (st)) (kf : x = y → J Γ Δ A nL w cells slots Q (pc + 3) L (st)) : J Γ Δ A nL w cells slots Q (pc) L (.int y :: .int x :: st) := by
  obtain ⟨p, l, e, R, s, m, args, below, meth, c⟩ := Γ
  obtain ⟨hl, hR, hx, hb, hown, hml, hts, hK, hA, -⟩ := X
  exact fun H locs ws ls h1 h2 h3 h4 h5 => lv_icmp_ne hx hb hd ht (fun h => kt h H locs ws ls h1 h2 h3 h4 h5) (fun h => kf h H locs ws ls h1 h2 h3 h4 h5)
theorem J_icmp_lt (X : Cx Γ Δ A l0 cc own nL R0 ret nm) {x y : Int32} {off : Int} {tgt : Nat} (hd : decode cc pc = .ok (.if_icmp .lt off, 3)) (ht : (pc : Int) + off = (tgt : Int)) (kt : x < y → J Γ Δ A nL w cells slots Q (tgt) L (st)) (kf : ¬ x < y → J Γ Δ A nL w cells slots Q (pc + 3) L (st)) : J Γ Δ A nL w cells slots Q (pc) L (.int y :: .int x :: st) := by
  obtain ⟨p, l, e, R, s, m, args, below, meth, c⟩ := Γ
  obtain ⟨hl, hR, hx, hb, hown, hml, hts, hK, hA, -⟩ := X
  exact fun H locs ws ls h1 h2 h3 h4 h5 => lv_icmp_lt hx hb hd ht (fun h => kt h H locs ws ls h1 h2 h3 h4 h5) (fun h => kf h H locs ws ls h1 h2 h3 h4 h5)
theorem J_icmp_ge (X : Cx Γ Δ A l0 cc own nL R0 ret nm) {x y : Int32} {off : Int} {tgt : Nat} (hd : decode cc pc = .ok (.if_icmp .ge off, 3)) (ht : (pc : Int) + off = (tgt : Int)) (kt : y ≤ x → J Γ Δ A nL w cells slots Q (tgt) L (st)) (kf : ¬ y ≤ x → J Γ Δ A nL w cells slots Q (pc + 3) L (st)) : J Γ Δ A nL w cells slots Q (pc) L (.int y :: .int x :: st) := by
  obtain ⟨p, l, e, R, s, m, args, below, meth, c⟩ := Γ
  obtain ⟨hl, hR, hx, hb, hown, hml, hts, hK, hA, -⟩ := X
  exact fun H locs ws ls h1 h2 h3 h4 h5 => lv_icmp_ge hx hb hd ht (fun h => kt h H locs ws ls h1 h2 h3 h4 h5) (fun h => kf h H locs ws ls h1 h2 h3 h4 h5)
theorem J_icmp_gt (X : Cx Γ Δ A l0 cc own nL R0 ret nm) {x y : Int32} {off : Int} {tgt : Nat} (hd : decode cc pc = .ok (.if_icmp .gt off, 3)) (ht : (pc : Int) + off = (tgt : Int)) (kt : y < x → J Γ Δ A nL w cells slots Q (tgt) L (st)) (kf : ¬ y < x → J Γ Δ A nL w cells slots Q (pc + 3) L (st)) : J Γ Δ A nL w cells slots Q (pc) L (.int y :: .int x :: st) := by
  obtain ⟨p, l, e, R, s, m, args, below, meth, c⟩ := Γ
  obtain ⟨hl, hR, hx, hb, hown, hml, hts, hK, hA, -⟩ := X
  exact fun H locs ws ls h1 h2 h3 h4 h5 => lv_icmp_gt hx hb hd ht (fun h => kt h H locs ws ls h1 h2 h3 h4 h5) (fun h => kf h H locs ws ls h1 h2 h3 h4 h5)
theorem J_icmp_le (X : Cx Γ Δ A l0 cc own nL R0 ret nm) {x y : Int32} {off : Int} {tgt : Nat} (hd : decode cc pc = .ok (.if_icmp .le off, 3)) (ht : (pc : Int) + off = (tgt : Int)) (kt : x ≤ y → J Γ Δ A nL w cells slots Q (tgt) L (st)) (kf : ¬ x ≤ y → J Γ Δ A nL w cells slots Q (pc + 3) L (st)) : J Γ Δ A nL w cells slots Q (pc) L (.int y :: .int x :: st) := by
  obtain ⟨p, l, e, R, s, m, args, below, meth, c⟩ := Γ
  obtain ⟨hl, hR, hx, hb, hown, hml, hts, hK, hA, -⟩ := X
  exact fun H locs ws ls h1 h2 h3 h4 h5 => lv_icmp_le hx hb hd ht (fun h => kt h H locs ws ls h1 h2 h3 h4 h5) (fun h => kf h H locs ws ls h1 h2 h3 h4 h5)
theorem J_acmp_eq (X : Cx Γ Δ A l0 cc own nL R0 ret nm) {rx ry : Option Nat} {off : Int} {tgt : Nat} (hd : decode cc pc = .ok (.if_acmp .eq off, 3)) (ht : (pc : Int) + off = (tgt : Int)) (kt : rx = ry → J Γ Δ A nL w cells slots Q (tgt) L (st)) (kf : ¬ rx = ry → J Γ Δ A nL w cells slots Q (pc + 3) L (st)) : J Γ Δ A nL w cells slots Q (pc) L (va_rf ry :: va_rf rx :: st) := by
  obtain ⟨p, l, e, R, s, m, args, below, meth, c⟩ := Γ
  obtain ⟨hl, hR, hx, hb, hown, hml, hts, hK, hA, -⟩ := X
  exact fun H locs ws ls h1 h2 h3 h4 h5 => lv_acmp_eq hx hb hd ht (fun h => kt h H locs ws ls h1 h2 h3 h4 h5) (fun h => kf h H locs ws ls h1 h2 h3 h4 h5)
theorem J_acmp_ne (X : Cx Γ Δ A l0 cc own nL R0 ret nm) {rx ry : Option Nat} {off : Int} {tgt : Nat} (hd : decode cc pc = .ok (.if_acmp .ne off, 3)) (ht : (pc : Int) + off = (tgt : Int)) (kt : ¬ rx = ry → J Γ Δ A nL w cells slots Q (tgt) L (st)) (kf : rx = ry → J Γ Δ A nL w cells slots Q (pc + 3) L (st)) : J Γ Δ A nL w cells slots Q (pc) L (va_rf ry :: va_rf rx :: st) := by
  obtain ⟨p, l, e, R, s, m, args, below, meth, c⟩ := Γ
  obtain ⟨hl, hR, hx, hb, hown, hml, hts, hK, hA, -⟩ := X
  exact fun H locs ws ls h1 h2 h3 h4 h5 => lv_acmp_ne hx hb hd ht (fun h => kt h H locs ws ls h1 h2 h3 h4 h5) (fun h => kf h H locs ws ls h1 h2 h3 h4 h5)
theorem J_ifnull (X : Cx Γ Δ A l0 cc own nL R0 ret nm) {o : Option Nat} {off : Int} {tgt : Nat} (hd : decode cc pc = .ok (.ifnull off, 3)) (ht : (pc : Int) + off = (tgt : Int)) (kt : o = none → J Γ Δ A nL w cells slots Q (tgt) L (st)) (kf : ∀ y : Nat, o = some y → J Γ Δ A nL w cells slots Q (pc + 3) L (st)) : J Γ Δ A nL w cells slots Q (pc) L (va_rf o :: st) := by
  obtain ⟨p, l, e, R, s, m, args, below, meth, c⟩ := Γ
  obtain ⟨hl, hR, hx, hb, hown, hml, hts, hK, hA, -⟩ := X
  intro H locs ws ls h1 h2 h3 h4 h5
  cases o with
  | none => exact lv_ifnullN hx hb hd ht ((kt rfl) H locs ws ls h1 h2 h3 h4 h5)
  | some y => exact lv_ifnull hx hb hd ((kf y rfl) H locs ws ls h1 h2 h3 h4 h5)
theorem J_ifnonnull (X : Cx Γ Δ A l0 cc own nL R0 ret nm) {o : Option Nat} {off : Int} {tgt : Nat} (hd : decode cc pc = .ok (.ifnonnull off, 3)) (ht : (pc : Int) + off = (tgt : Int)) (kt : ∀ y : Nat, o = some y → J Γ Δ A nL w cells slots Q (tgt) L (st)) (kf : o = none → J Γ Δ A nL w cells slots Q (pc + 3) L (st)) : J Γ Δ A nL w cells slots Q (pc) L (va_rf o :: st) := by
  obtain ⟨p, l, e, R, s, m, args, below, meth, c⟩ := Γ
  obtain ⟨hl, hR, hx, hb, hown, hml, hts, hK, hA, -⟩ := X
  intro H locs ws ls h1 h2 h3 h4 h5
  cases o with
  | none => exact lv_ifnonnullN hx hb hd ((kf rfl) H locs ws ls h1 h2 h3 h4 h5)
  | some y => exact lv_ifnonnull hx hb hd ht ((kt y rfl) H locs ws ls h1 h2 h3 h4 h5)
theorem J_goto (X : Cx Γ Δ A l0 cc own nL R0 ret nm) {off : Int} {tgt : Nat} (hd : decode cc pc = .ok (.goto off, 3)) (ht : (pc : Int) + off = (tgt : Int)) (k : J Γ Δ A nL w cells slots Q (tgt) L (st)) : J Γ Δ A nL w cells slots Q (pc) L (st) := by
  obtain ⟨p, l, e, R, s, m, args, below, meth, c⟩ := Γ
  obtain ⟨hl, hR, hx, hb, hown, hml, hts, hK, hA, -⟩ := X
  exact fun H locs ws ls h1 h2 h3 h4 h5 => lv_goto hx hb hd ht (k H locs ws ls h1 h2 h3 h4 h5)
theorem J_tableIn (X : Cx Γ Δ A l0 cc own nL R0 ret nm) {dflt lo hi : Int} {offs : Array Int} {len : Nat} {x : Int32} {off : Int} {tgt : Nat} (hd : decode cc pc = .ok (.tableswitch dflt lo hi offs, len)) (g1 : ¬ x.toInt < lo) (g2 : ¬ hi < x.toInt) (ho : offs[(x.toInt - lo).toNat]? = some off) (ht : (pc : Int) + off = (tgt : Int)) (k : J Γ Δ A nL w cells slots Q (tgt) L (st)) : J Γ Δ A nL w cells slots Q (pc) L (.int x :: st) := by
  obtain ⟨p, l, e, R, s, m, args, below, meth, c⟩ := Γ
  obtain ⟨hl, hR, hx, hb, hown, hml, hts, hK, hA, -⟩ := X
  exact fun H locs ws ls h1 h2 h3 h4 h5 => lv_tableIn hx hb hd g1 g2 ho ht (k H locs ws ls h1 h2 h3 h4 h5)
theorem J_tableOut (X : Cx Γ Δ A l0 cc own nL R0 ret nm) {dflt lo hi : Int} {offs : Array Int} {len : Nat} {x : Int32} {tgt : Nat} (hd : decode cc pc = .ok (.tableswitch dflt lo hi offs, len)) (g1 : x.toInt < lo ∨ hi < x.toInt) (ht : (pc : Int) + dflt = (tgt : Int)) (k : J Γ Δ A nL w cells slots Q (tgt) L (st)) : J Γ Δ A nL w cells slots Q (pc) L (.int x :: st) := by
  obtain ⟨p, l, e, R, s, m, args, below, meth, c⟩ := Γ
  obtain ⟨hl, hR, hx, hb, hown, hml, hts, hK, hA, -⟩ := X
  exact fun H locs ws ls h1 h2 h3 h4 h5 => lv_tableOut hx hb hd g1 ht (k H locs ws ls h1 h2 h3 h4 h5)
theorem J_ldc (X : Cx Γ Δ A l0 cc own nL R0 ret nm) {idx : Nat} {v : Int32} (hd : decode cc pc = .ok (.ldc idx, 2)) (hc : Cond.constant own idx v ∈ TT) (k : J Γ Δ A nL w cells slots Q (pc + 2) L (.int v :: st)) : J Γ Δ A nL w cells slots Q (pc) L (st) := by
  obtain ⟨p, l, e, R, s, m, args, below, meth, c⟩ := Γ
  obtain ⟨hl, hR, hx, hb, hown, hml, hts, hK, hA, -⟩ := X
  exact fun H locs ws ls h1 h2 h3 h4 h5 => lv_ldc hx hb hown (hts _ hc) hd (k H locs ws ls h1 h2 h3 h4 h5)
theorem J_ldc2 (X : Cx Γ Δ A l0 cc own nL R0 ret nm) {idx : Nat} {v : Int64} (hd : decode cc pc = .ok (.ldc2_w idx, 3)) (hc : Cond.constantLong own idx v ∈ TT) (k : J Γ Δ A nL w cells slots Q (pc + 3) L (.long v :: st)) : J Γ Δ A nL w cells slots Q (pc) L (st) := by
  obtain ⟨p, l, e, R, s, m, args, below, meth, c⟩ := Γ
  obtain ⟨hl, hR, hx, hb, hown, hml, hts, hK, hA, -⟩ := X
  exact fun H locs ws ls h1 h2 h3 h4 h5 => lv_ldc2 hx hb hown (hts _ hc) hd (k H locs ws ls h1 h2 h3 h4 h5)
theorem J_widen {c2 s2 : Nat} (hc : cells ≤ c2) (hs : slots ≤ s2) (k : J Γ Δ A nL w c2 s2 Q pc L st) : J Γ Δ A nL w cells slots Q (pc) L (st) := by
  obtain ⟨p, l, e, R, s, m, args, below, meth, c⟩ := Γ
  exact fun H locs ws ls h1 h2 h3 h4 h5 => W.widen hc hs (k H locs ws ls h1 h2 h3 h4 h5)
theorem J_eq {w' : Wd} {st' : List Value} (hw : w = w') (hs : st = st') (k : J Γ Δ A nL w' cells slots Q pc L st') : J Γ Δ A nL w cells slots Q (pc) L (st) := by
  subst hw; subst hs; exact k
theorem J_top {v v' : Value} (hs : v = v') (k : J Γ Δ A nL w cells slots Q (pc) L (v' :: st)) : J Γ Δ A nL w cells slots Q (pc) L (v :: st) := by
  subst hs; exact k
theorem J_loc {L' : List (Option Value)} (hs : ∀ (i : Nat) (v : Value), L'[i]? = some (some v) → L[i]? = some (some v)) (k : J Γ Δ A nL w cells slots Q pc L' st) : J Γ Δ A nL w cells slots Q (pc) L (st) := by
  obtain ⟨p, l, e, R, s, m, args, below, meth, c⟩ := Γ
  exact fun H locs ws ls h1 h2 h3 h4 h5 => k H locs ws ls h1 h2 h3 h4 (h5.mono hs)
end JR
