/-! ===== fields ===== -/
theorem map_set {α : Type} {N k : Nat} {f g : Nat → α} {v : α} (hk : g k = v) (ho : ∀ j, j ≠ k → g j = f j) : ((List.range N).map f).set k v = (List.range N).map g := by
  apply List.ext_getElem?
  intro j
  by_cases e : k = j
  · subst e
    by_cases h : k < N
    · rw [List.getElem?_set_self (by simpa using h), List.getElem?_map, List.getElem?_range h]
      simp [hk]
    · rw [List.getElem?_eq_none (by simpa using Nat.le_of_not_lt h), List.getElem?_eq_none (by simpa using Nat.le_of_not_lt h)]
  · rw [List.getElem?_set_ne e, List.getElem?_map, List.getElem?_map]
    by_cases h : j < N
    · rw [List.getElem?_range h]
      simp [ho j (fun q => e q.symm)]
    · rw [List.getElem?_eq_none (by simpa using Nat.le_of_not_lt h)]
      rfl
theorem ent_i {cA : Nat → ClassId} {w : Wd} {a t n : Nat} (h : tyK t = 0) : ent cA w a (.inr (t, n)) = .inl (cA t, n, .inl (wI w a)) := by simp [ent, h]
theorem ent_q {cA : Nat → ClassId} {w : Wd} {a t n : Nat} (h : tyK t = 1) : ent cA w a (.inr (t, n)) = .inl (cA t, n, .inr (.inr (.inr (.inr (wP w a))))) := by simp [ent, h]
theorem ent_l {cA : Nat → ClassId} {w : Wd} {a t n : Nat} (h : tyK t = 2) : ent cA w a (.inr (t, n)) = .inl (cA t, n, .inr (.inl (wL w a))) := by simp [ent, h]
theorem ent_oI {cA : Nat → ClassId} {w : Wd} {a k : Nat} {x : Int32} : ∀ b, b ≠ a → ∀ d', ent cA (uI w a k x) b d' = ent cA w b d' := by
  intro b hb d'
  have f1 : wI (uI w a k x) b = wI w b := by funext j; rw [wI_uI, if_neg (fun q => hb q.1)]
  cases d' with
  | inl ci =>
    have : fV (uI w a k x) b ci = fV w b ci := by funext k'; simp only [fV, f1, wP_uI]
    simp only [ent, this]
  | inr tn =>
    have f2 : wP (uI w a k x) b = wP w b := rfl
    have f3 : wL (uI w a k x) b = wL w b := rfl
    simp only [ent, f1, f2, f3]
theorem ent_oP {cA : Nat → ClassId} {w : Wd} {a k : Nat} {x : Option Nat} : ∀ b, b ≠ a → ∀ d', ent cA (uP w a k x) b d' = ent cA w b d' := by
  intro b hb d'
  have f1 : wP (uP w a k x) b = wP w b := by funext j; rw [wP_uP, if_neg (fun q => hb q.1)]
  cases d' with
  | inl ci =>
    have : fV (uP w a k x) b ci = fV w b ci := by funext k'; simp only [fV, f1, wI_uP]
    simp only [ent, this]
  | inr tn =>
    have f2 : wI (uP w a k x) b = wI w b := rfl
    have f3 : wL (uP w a k x) b = wL w b := rfl
    simp only [ent, f1, f2, f3]
theorem ent_oL {cA : Nat → ClassId} {w : Wd} {a k : Nat} {x : Int64} : ∀ b, b ≠ a → ∀ d', ent cA (uL w a k x) b d' = ent cA w b d' := by
  intro b hb d'
  have f1 : wL (uL w a k x) b = wL w b := by funext j; rw [wL_uL, if_neg (fun q => hb q.1)]
  cases d' with
  | inl ci =>
    have : fV (uL w a k x) b ci = fV w b ci := by funext k'; simp only [fV, wP_uL, wI_uL]
    simp only [ent, this]
  | inr tn =>
    have f2 : wI (uL w a k x) b = wI w b := rfl
    have f3 : wP (uL w a k x) b = wP w b := rfl
    simp only [ent, f1, f2, f3]
/-- a field's access by a place of the pool -/
def FA (own : String) (idx ci k : Nat) : Prop := ∃ (C : String) (T : u_T) (N : Nat), vwCl[ci]? = some (C, T, N) ∧ N = nF ci ∧ k < N ∧ (∀ x ∈ u_ws C T N, x ∈ TT) ∧ (Cond.fieldLink own idx (T k).1 (T k).2.1 (T k).2.2.1 ∈ TT ∨ ∃ host, Cond.fieldLinkNest own idx (T k).1 (T k).2.1 (T k).2.2.1 host ∈ TT)
/-- a field's write by a place of the pool -/
def FP (own : String) (idx ci k : Nat) (ty : FieldType) : Prop := ∃ (C : String) (T : u_T) (N : Nat) (ty0 : Nat → FieldType), vwCl[ci]? = some (C, T, N) ∧ N = nF ci ∧ k < N ∧ (∀ x ∈ u_ws C T N, x ∈ TT) ∧ (∀ k, k < N → parseFieldDescriptor (T k).2.2.1 = some (ty0 k)) ∧ (∀ a, a < N → ∀ b, b < N → a ≠ b → (T a).2.1 ≠ (T b).2.1) ∧ parseFieldDescriptor (T k).2.2.1 = some ty ∧
  ((Cond.fieldLink own idx (T k).1 (T k).2.1 (T k).2.2.1 ∈ TT ∧ (T k).2.2.2 = false) ∨ (∃ host, Cond.fieldLinkNest own idx (T k).1 (T k).2.1 (T k).2.2.1 host ∈ TT ∧ (T k).2.2.2 = false))
/-- the same of a final field, in the constructor -/
def FF (own : String) (idx ci k : Nat) (ty : FieldType) : Prop := ∃ (C : String) (T : u_T) (N : Nat) (ty0 : Nat → FieldType), vwCl[ci]? = some (C, T, N) ∧ N = nF ci ∧ k < N ∧ (∀ x ∈ u_ws C T N, x ∈ TT) ∧ (∀ k, k < N → parseFieldDescriptor (T k).2.2.1 = some (ty0 k)) ∧ (∀ a, a < N → ∀ b, b < N → a ≠ b → (T a).2.1 ≠ (T b).2.1) ∧ parseFieldDescriptor (T k).2.2.1 = some ty ∧
  Cond.fieldLink own idx (T k).1 (T k).2.1 (T k).2.2.1 ∈ TT ∧ (T k).2.2.2 = true ∧ (T k).1 = own
section JH
variable {Γ : Cxt} {Δ : Dat} {A : Nat → Prop} {l0 : Launch} {cc : ByteArray} {own : String} {nL : Nat} {R0 : Room} {ret : Option FieldType} {nm : String} {w : Wd} {cells slots : Nat} {Q : State → Prop} {pc : Nat} {L : List (Option Value)} {st : List Value}

theorem J_getV (X : Cx Γ Δ A l0 cc own nL R0 ret nm) {a ci k idx : Nat} (ha : wK w a = some (.inl ci)) (hf : FA own idx ci k) (hd : decode cc pc = .ok (.getfield idx, 3)) (kk : J Γ Δ A nL w cells slots Q (pc + 3) L (fV w a ci k :: st)) : J Γ Δ A nL w cells slots Q (pc) L (.ref a :: st) := by
  obtain ⟨p, l, e, R, s, m, args, below, meth, c⟩ := Γ
  obtain ⟨hl, hR, hx, hb, hown, hml, hts, hK, hA, hret, hlk0, hnm, hst0⟩ := X
  intro H locs ws ls h1 h2 h3 h4 h5
  obtain ⟨q0, hq⟩ := wrep_at h1 ha
  obtain ⟨C, T, N, hc, hN, hk, hin, hlk⟩ := hf
  subst hN
  have hv : ((List.range (nF ci)).map (fV w a ci))[k]? = some (fV w a ci k) := by
    rw [List.getElem?_map, List.getElem?_range hk]
    rfl
  rcases hlk with hlk | ⟨host, hlk⟩
  · exact va_get (D := Δ.1) (cl := vwCl) (tys := tysOf Δ.2) hx hb hts hin hown hK.1 h2 q0 hq hc k hk (hts _ hlk) (fun _ h => h) hv hd (kk H locs ws ls h1 h2 h3 h4 h5)
  · exact va_getN (D := Δ.1) (cl := vwCl) (tys := tysOf Δ.2) hx hb hts hin hown hK.1 h2 q0 hq hc k hk (hts _ hlk) (fun _ h => h) hv hd (kk H locs ws ls h1 h2 h3 h4 h5)
theorem J_getI (X : Cx Γ Δ A l0 cc own nL R0 ret nm) {a ci k idx : Nat} {x : Int32} (ha : wK w a = some (.inl ci)) (hf : FA own idx ci k) (hft : ft ci k = true) (hv : wI w a k = x) (hd : decode cc pc = .ok (.getfield idx, 3)) (kk : J Γ Δ A nL w cells slots Q (pc + 3) L (.int x :: st)) : J Γ Δ A nL w cells slots Q (pc) L (.ref a :: st) := by
  refine J_getV X ha hf hd (J_top (v' := .int x) ?_ kk)
  rw [fV, if_pos hft, hv]
theorem J_getP (X : Cx Γ Δ A l0 cc own nL R0 ret nm) {a ci k idx : Nat} {o : Option Nat} (ha : wK w a = some (.inl ci)) (hf : FA own idx ci k) (hft : ft ci k = false) (hv : wP w a k = o) (hd : decode cc pc = .ok (.getfield idx, 3)) (kk : J Γ Δ A nL w cells slots Q (pc + 3) L (va_rf o :: st)) : J Γ Δ A nL w cells slots Q (pc) L (.ref a :: st) := by
  refine J_getV X ha hf hd (J_top (v' := va_rf o) ?_ kk)
  rw [fV, if_neg (by rw [hft]; decide), hv]
theorem J_getR (X : Cx Γ Δ A l0 cc own nL R0 ret nm) {a ci k idx b : Nat} (ha : wK w a = some (.inl ci)) (hf : FA own idx ci k) (hft : ft ci k = false) (hv : wP w a k = some b) (hd : decode cc pc = .ok (.getfield idx, 3)) (kk : J Γ Δ A nL w cells slots Q (pc + 3) L (.ref b :: st)) : J Γ Δ A nL w cells slots Q (pc) L (.ref a :: st) := J_getP X ha hf hft hv hd kk
theorem J_putV (X : Cx Γ Δ A l0 cc own nL R0 ret nm) {a ci k idx : Nat} {ty : FieldType} {v : Value} {w' : Wd} (ha : wK w a = some (.inl ci)) (hf : FP own idx ci k ty) (hn : narrow ty v = v) (hfit : fits ty v = true) (hw1 : ∀ b, wK w' b = wK w b) (hw2 : ∀ cA b, b ≠ a → ∀ d', ent cA w' b d' = ent cA w b d') (hw3 : fV w' a ci k = v) (hw4 : ∀ j, j ≠ k → fV w' a ci j = fV w a ci j) (hd : decode cc pc = .ok (.putfield idx, 3)) (kk : J Γ Δ A nL w' cells slots Q (pc + 3) L (st)) : J Γ Δ A nL w cells slots Q (pc) L (v :: .ref a :: st) := by
  obtain ⟨p, l, e, R, s, m, args, below, meth, c⟩ := Γ
  obtain ⟨hl, hR, hx, hb, hown, hml, hts, hK, hA, hret, hlk0, hnm, hst0⟩ := X
  intro H locs ws ls h1 h2 h3 h4 h5
  obtain ⟨q0, hq⟩ := wrep_at h1 ha
  obtain ⟨C, T, N, ty0, hc, hN, hk, hin, hty, hnms, hdsc, hlk⟩ := hf
  subst hN
  have hx' : (Sum.inr (ci, ((List.range (nF ci)).map (fV w a ci)).set k v) : va_E) = ent Δ.2 w' a (.inl ci) := by
    rw [map_set hw3 hw4]
    rfl
  have hlen : k < ((List.range (nF ci)).map (fV w a ci)).length := by simpa using hk
  rcases hlk with ⟨hlk, hfin⟩ | ⟨host, hlk, hfin⟩
  · exact va_put (D := Δ.1) (cl := vwCl) (tys := tysOf Δ.2) hx hb hts hin ty0 hty hnms hown hK.1 h2 h3 h4 q0 hq hc k hk (hts _ hlk) (fun _ h => h) hfin hdsc hn hfit hlen hd (fun H1 locs1 g1 g2 g3 => kk H1 locs1 _ ls (wrep_set h1 h3 hq ha hw1 (hw2 _) hx') g1 g2 g3 h5)
  · exact va_putN (D := Δ.1) (cl := vwCl) (tys := tysOf Δ.2) hx hb hts hin ty0 hty hnms hown hK.1 h2 h3 h4 q0 hq hc k hk (hts _ hlk) (fun _ h => h) hfin hdsc hn hfit hlen hd (fun H1 locs1 g1 g2 g3 => kk H1 locs1 _ ls (wrep_set h1 h3 hq ha hw1 (hw2 _) hx') g1 g2 g3 h5)
theorem J_putVF (X : Cx Γ Δ A l0 cc own nL R0 ret nm) {a ci k idx : Nat} {ty : FieldType} {v : Value} {w' : Wd} (ha : wK w a = some (.inl ci)) (hf : FF own idx ci k ty) (hin2 : nm = "<init>") (hn : narrow ty v = v) (hfit : fits ty v = true) (hw1 : ∀ b, wK w' b = wK w b) (hw2 : ∀ cA b, b ≠ a → ∀ d', ent cA w' b d' = ent cA w b d') (hw3 : fV w' a ci k = v) (hw4 : ∀ j, j ≠ k → fV w' a ci j = fV w a ci j) (hd : decode cc pc = .ok (.putfield idx, 3)) (kk : J Γ Δ A nL w' cells slots Q (pc + 3) L (st)) : J Γ Δ A nL w cells slots Q (pc) L (v :: .ref a :: st) := by
  obtain ⟨p, l, e, R, s, m, args, below, meth, c⟩ := Γ
  obtain ⟨hl, hR, hx, hb, hown, hml, hts, hK, hA, hret, hlk0, hnm, hst0⟩ := X
  intro H locs ws ls h1 h2 h3 h4 h5
  obtain ⟨q0, hq⟩ := wrep_at h1 ha
  obtain ⟨C, T, N, ty0, hc, hN, hk, hin, hty, hnms, hdsc, hlk⟩ := hf
  subst hN
  have hx' : (Sum.inr (ci, ((List.range (nF ci)).map (fV w a ci)).set k v) : va_E) = ent Δ.2 w' a (.inl ci) := by
    rw [map_set hw3 hw4]
    rfl
  have hlen : k < ((List.range (nF ci)).map (fV w a ci)).length := by simpa using hk
  obtain ⟨hlk, hfin, hdecl⟩ := hlk
  exact va_putF (D := Δ.1) (cl := vwCl) (tys := tysOf Δ.2) hx hb hts hin ty0 hty hnms hown hK.1 h2 h3 h4 q0 hq hc k hk (hts _ hlk) (fun _ h => h) hfin (hnm.trans hin2) hdecl hdsc hn hfit hlen hd (fun H1 locs1 g1 g2 g3 => kk H1 locs1 _ ls (wrep_set h1 h3 hq ha hw1 (hw2 _) hx') g1 g2 g3 h5)
theorem J_putI (X : Cx Γ Δ A l0 cc own nL R0 ret nm) {a ci k idx : Nat} {x : Int32} (ha : wK w a = some (.inl ci)) (hf : FP own idx ci k .int) (hft : ft ci k = true) (hd : decode cc pc = .ok (.putfield idx, 3)) (kk : J Γ Δ A nL (uI w a k x) cells slots Q (pc + 3) L (st)) : J Γ Δ A nL w cells slots Q (pc) L (.int x :: .ref a :: st) :=
  J_putV (w' := uI w a k x) X ha hf rfl rfl (fun _ => rfl) (fun _ => ent_oI) (by rw [fV, if_pos hft, wI_uI, if_pos ⟨rfl, rfl⟩]) (fun j hj => by simp only [fV, wI_uI, wP_uI, hj, and_false, if_false]) hd kk
theorem J_putZ (X : Cx Γ Δ A l0 cc own nL R0 ret nm) {a ci k idx : Nat} {x : Int32} (ha : wK w a = some (.inl ci)) (hf : FP own idx ci k .boolean) (hft : ft ci k = true) (hz : x = 0 ∨ x = 1) (hd : decode cc pc = .ok (.putfield idx, 3)) (kk : J Γ Δ A nL (uI w a k x) cells slots Q (pc + 3) L (st)) : J Γ Δ A nL w cells slots Q (pc) L (.int x :: .ref a :: st) :=
  J_putV (w' := uI w a k x) X ha hf (by rcases hz with rfl | rfl <;> rfl) (by rcases hz with rfl | rfl <;> rfl) (fun _ => rfl) (fun _ => ent_oI) (by rw [fV, if_pos hft, wI_uI, if_pos ⟨rfl, rfl⟩]) (fun j hj => by simp only [fV, wI_uI, wP_uI, hj, and_false, if_false]) hd kk
theorem J_putP (X : Cx Γ Δ A l0 cc own nL R0 ret nm) {a ci k idx : Nat} {o : Option Nat} {ty : FieldType} (ha : wK w a = some (.inl ci)) (hf : FP own idx ci k ty) (hty : (∃ C, ty = .object C) ∨ ∃ t, ty = .array t) (hft : ft ci k = false) (hd : decode cc pc = .ok (.putfield idx, 3)) (kk : J Γ Δ A nL (uP w a k o) cells slots Q (pc + 3) L (st)) : J Γ Δ A nL w cells slots Q (pc) L (va_rf o :: .ref a :: st) :=
  J_putV (w' := uP w a k o) X ha hf (by rcases hty with ⟨C, rfl⟩ | ⟨t, rfl⟩ <;> cases o <;> rfl) (by rcases hty with ⟨C, rfl⟩ | ⟨t, rfl⟩ <;> cases o <;> rfl) (fun _ => rfl) (fun _ => ent_oP) (by rw [fV, if_neg (by rw [hft]; decide), wP_uP, if_pos ⟨rfl, rfl⟩]) (fun j hj => by simp only [fV, wI_uP, wP_uP, hj, and_false, if_false]) hd kk
theorem J_putIF (X : Cx Γ Δ A l0 cc own nL R0 ret nm) {a ci k idx : Nat} {x : Int32} (ha : wK w a = some (.inl ci)) (hf : FF own idx ci k .int) (hin2 : nm = "<init>") (hft : ft ci k = true) (hd : decode cc pc = .ok (.putfield idx, 3)) (kk : J Γ Δ A nL (uI w a k x) cells slots Q (pc + 3) L (st)) : J Γ Δ A nL w cells slots Q (pc) L (.int x :: .ref a :: st) :=
  J_putVF (w' := uI w a k x) X ha hf hin2 rfl rfl (fun _ => rfl) (fun _ => ent_oI) (by rw [fV, if_pos hft, wI_uI, if_pos ⟨rfl, rfl⟩]) (fun j hj => by simp only [fV, wI_uI, wP_uI, hj, and_false, if_false]) hd kk
theorem J_putZF (X : Cx Γ Δ A l0 cc own nL R0 ret nm) {a ci k idx : Nat} {x : Int32} (ha : wK w a = some (.inl ci)) (hf : FF own idx ci k .boolean) (hin2 : nm = "<init>") (hft : ft ci k = true) (hz : x = 0 ∨ x = 1) (hd : decode cc pc = .ok (.putfield idx, 3)) (kk : J Γ Δ A nL (uI w a k x) cells slots Q (pc + 3) L (st)) : J Γ Δ A nL w cells slots Q (pc) L (.int x :: .ref a :: st) :=
  J_putVF (w' := uI w a k x) X ha hf hin2 (by rcases hz with rfl | rfl <;> rfl) (by rcases hz with rfl | rfl <;> rfl) (fun _ => rfl) (fun _ => ent_oI) (by rw [fV, if_pos hft, wI_uI, if_pos ⟨rfl, rfl⟩]) (fun j hj => by simp only [fV, wI_uI, wP_uI, hj, and_false, if_false]) hd kk
theorem J_putPF (X : Cx Γ Δ A l0 cc own nL R0 ret nm) {a ci k idx : Nat} {o : Option Nat} {ty : FieldType} (ha : wK w a = some (.inl ci)) (hf : FF own idx ci k ty) (hin2 : nm = "<init>") (hty : (∃ C, ty = .object C) ∨ ∃ t, ty = .array t) (hft : ft ci k = false) (hd : decode cc pc = .ok (.putfield idx, 3)) (kk : J Γ Δ A nL (uP w a k o) cells slots Q (pc + 3) L (st)) : J Γ Δ A nL w cells slots Q (pc) L (va_rf o :: .ref a :: st) :=
  J_putVF (w' := uP w a k o) X ha hf hin2 (by rcases hty with ⟨C, rfl⟩ | ⟨t, rfl⟩ <;> cases o <;> rfl) (by rcases hty with ⟨C, rfl⟩ | ⟨t, rfl⟩ <;> cases o <;> rfl) (fun _ => rfl) (fun _ => ent_oP) (by rw [fV, if_neg (by rw [hft]; decide), wP_uP, if_pos ⟨rfl, rfl⟩]) (fun j hj => by simp only [fV, wI_uP, wP_uP, hj, and_false, if_false]) hd kk
theorem J_alen (X : Cx Γ Δ A l0 cc own nL R0 ret nm) {a t n : Nat} (ha : wK w a = some (.inr (t, n))) (ht : t < nT) (hd : decode cc pc = .ok (.arraylength, 1)) (kk : J Γ Δ A nL w cells slots Q (pc + 1) L (.int (nI n) :: st)) : J Γ Δ A nL w cells slots Q (pc) L (.ref a :: st) := by
  obtain ⟨p, l, e, R, s, m, args, below, meth, c⟩ := Γ
  obtain ⟨hl, hR, hx, hb, hown, hml, hts, hK, hA, hret, hlk0, hnm, hst0⟩ := X
  intro H locs ws ls h1 h2 h3 h4 h5
  obtain ⟨q0, hq⟩ := wrep_at h1 ha
  exact va_alen (D := Δ.1) (cl := vwCl) (tys := tysOf Δ.2) hx hb hK.1 h2 q0 t hq (tysOf_at ht) rfl hd (kk H locs ws ls h1 h2 h3 h4 h5)
theorem vp_in_j {j n : Nat} (hj : j < n) (hn : n < 2 ^ 31) : vp_in (nI j) n := vp_in_nI hj hn
theorem J_aald (X : Cx Γ Δ A l0 cc own nL R0 ret nm) {a t n j : Nat} {i : Int32} {v : Option Nat} (ha : wK w a = some (.inr (t, n))) (ht : t < nT) (htk : tyK t = 1) (hty : ∃ C, tyL t = .object C) (hi : i = nI j) (hj : j < n) (hn : n < 2 ^ 31) (hv : wP w a j = v) (hd : decode cc pc = .ok (.aaload, 1)) (kk : J Γ Δ A nL w cells slots Q (pc + 1) L (va_rf v :: st)) : J Γ Δ A nL w cells slots Q (pc) L (.int i :: .ref a :: st) := by
  obtain ⟨p, l, e, R, s, m, args, below, meth, c⟩ := Γ
  obtain ⟨hl, hR, hx, hb, hown, hml, hts, hK, hA, hret, hlk0, hnm, hst0⟩ := X
  intro H locs ws ls h1 h2 h3 h4 h5
  obtain ⟨q0, hq⟩ := wrep_at h1 ha
  rw [ent_q htk] at hq
  have hc : (nI j).toNatClampNeg = j := nI_clamp (by omega)
  have hw : wP w a (nI j).toNatClampNeg = v := by rw [hc]; exact hv
  obtain ⟨C, hty⟩ := hty
  subst hi
  refine va_aldq (D := Δ.1) (cl := vwCl) (tys := tysOf Δ.2) hx hb hK.1 h2 q0 t hq (by rw [tysOf_at ht, hty]) (vp_in_j hj hn) hd ?_
  rw [hw]
  exact kk H locs ws ls h1 h2 h3 h4 h5
theorem J_iald (X : Cx Γ Δ A l0 cc own nL R0 ret nm) {a t n j : Nat} {i : Int32} {v : Int32} (ha : wK w a = some (.inr (t, n))) (ht : t < nT) (htk : tyK t = 0) (hty : tyL t = .int) (hi : i = nI j) (hj : j < n) (hn : n < 2 ^ 31) (hv : wI w a j = v) (hd : decode cc pc = .ok (.iaload, 1)) (kk : J Γ Δ A nL w cells slots Q (pc + 1) L (.int v :: st)) : J Γ Δ A nL w cells slots Q (pc) L (.int i :: .ref a :: st) := by
  obtain ⟨p, l, e, R, s, m, args, below, meth, c⟩ := Γ
  obtain ⟨hl, hR, hx, hb, hown, hml, hts, hK, hA, hret, hlk0, hnm, hst0⟩ := X
  intro H locs ws ls h1 h2 h3 h4 h5
  obtain ⟨q0, hq⟩ := wrep_at h1 ha
  rw [ent_i htk] at hq
  have hc : (nI j).toNatClampNeg = j := nI_clamp (by omega)
  have hw : wI w a (nI j).toNatClampNeg = v := by rw [hc]; exact hv
  skip
  subst hi
  refine va_iald (D := Δ.1) (cl := vwCl) (tys := tysOf Δ.2) hx hb hK.1 h2 q0 t hq (by rw [tysOf_at ht, hty]) (vp_in_j hj hn) hd ?_
  rw [hw]
  exact kk H locs ws ls h1 h2 h3 h4 h5
theorem J_zald (X : Cx Γ Δ A l0 cc own nL R0 ret nm) {a t n j : Nat} {i : Int32} {v : Int32} (ha : wK w a = some (.inr (t, n))) (ht : t < nT) (htk : tyK t = 0) (hty : tyL t = .boolean) (hi : i = nI j) (hj : j < n) (hn : n < 2 ^ 31) (hv : wI w a j = v) (hd : decode cc pc = .ok (.baload, 1)) (kk : J Γ Δ A nL w cells slots Q (pc + 1) L (.int v :: st)) : J Γ Δ A nL w cells slots Q (pc) L (.int i :: .ref a :: st) := by
  obtain ⟨p, l, e, R, s, m, args, below, meth, c⟩ := Γ
  obtain ⟨hl, hR, hx, hb, hown, hml, hts, hK, hA, hret, hlk0, hnm, hst0⟩ := X
  intro H locs ws ls h1 h2 h3 h4 h5
  obtain ⟨q0, hq⟩ := wrep_at h1 ha
  rw [ent_i htk] at hq
  have hc : (nI j).toNatClampNeg = j := nI_clamp (by omega)
  have hw : wI w a (nI j).toNatClampNeg = v := by rw [hc]; exact hv
  skip
  subst hi
  refine va_zald (D := Δ.1) (cl := vwCl) (tys := tysOf Δ.2) hx hb hK.1 h2 q0 t hq (by rw [tysOf_at ht, hty]) (vp_in_j hj hn) hd ?_
  rw [hw]
  exact kk H locs ws ls h1 h2 h3 h4 h5
theorem J_lald (X : Cx Γ Δ A l0 cc own nL R0 ret nm) {a t n j : Nat} {i : Int32} {v : Int64} (ha : wK w a = some (.inr (t, n))) (ht : t < nT) (htk : tyK t = 2) (hty : tyL t = .long) (hi : i = nI j) (hj : j < n) (hn : n < 2 ^ 31) (hv : wL w a j = v) (hd : decode cc pc = .ok (.laload, 1)) (kk : J Γ Δ A nL w cells slots Q (pc + 1) L (.long v :: st)) : J Γ Δ A nL w cells slots Q (pc) L (.int i :: .ref a :: st) := by
  obtain ⟨p, l, e, R, s, m, args, below, meth, c⟩ := Γ
  obtain ⟨hl, hR, hx, hb, hown, hml, hts, hK, hA, hret, hlk0, hnm, hst0⟩ := X
  intro H locs ws ls h1 h2 h3 h4 h5
  obtain ⟨q0, hq⟩ := wrep_at h1 ha
  rw [ent_l htk] at hq
  have hc : (nI j).toNatClampNeg = j := nI_clamp (by omega)
  have hw : wL w a (nI j).toNatClampNeg = v := by rw [hc]; exact hv
  skip
  subst hi
  refine va_lald (D := Δ.1) (cl := vwCl) (tys := tysOf Δ.2) hx hb hK.1 h2 q0 t hq (by rw [tysOf_at ht, hty]) (vp_in_j hj hn) hd ?_
  rw [hw]
  exact kk H locs ws ls h1 h2 h3 h4 h5
theorem wP_up (w : Wd) (a j : Nat) (o : Option Nat) : wP (uP w a j o) a = va_up (wP w a) j o := by
  funext k; by_cases h : k = j <;> simp [wP_uP, va_up, h]
theorem wI_up (w : Wd) (a j : Nat) (x : Int32) : wI (uI w a j x) a = upd (wI w a) j x := by
  funext k; by_cases h : k = j <;> simp [wI_uI, upd, h]
theorem wL_up (w : Wd) (a j : Nat) (x : Int64) : wL (uL w a j x) a = vp_updL (wL w a) j x := by
  funext k; by_cases h : k = j <;> simp [wL_uL, vp_updL, h]
theorem J_iast (X : Cx Γ Δ A l0 cc own nL R0 ret nm) {a t n j : Nat} {i : Int32} {x : Int32} (ha : wK w a = some (.inr (t, n))) (ht : t < nT) (htk : tyK t = 0) (hty : tyL t = .int) (hi : i = nI j) (hj : j < n) (hn : n < 2 ^ 31) (hd : decode cc pc = .ok (.iastore, 1)) (kk : J Γ Δ A nL (uI w a j x) cells slots Q (pc + 1) L (st)) : J Γ Δ A nL w cells slots Q (pc) L (.int x :: .int i :: .ref a :: st) := by
  obtain ⟨p, l, e, R, s, m, args, below, meth, c⟩ := Γ
  obtain ⟨hl, hR, hx, hb, hown, hml, hts, hK, hA, hret, hlk0, hnm, hst0⟩ := X
  intro H locs ws ls h1 h2 h3 h4 h5
  obtain ⟨q0, hq⟩ := wrep_at h1 ha
  rw [ent_i htk] at hq
  have hc : (nI j).toNatClampNeg = j := nI_clamp (by omega)
  skip
  subst hi
  refine va_iast (D := Δ.1) (cl := vwCl) (tys := tysOf Δ.2) hx hb hK.1 h2 h3 h4 q0 t hq (by rw [tysOf_at ht, hty]) (vp_in_j hj hn) hd (fun H1 locs1 g1 g2 g3 => ?_)
  rw [hc] at g1 g2
  skip
  exact kk H1 locs1 _ ls (wrep_set (w' := uI w a j x) h1 h3 hq ha (fun _ => rfl) (ent_oI) (by rw [ent_i htk, wI_up])) g1 g2 g3 h5
theorem J_zast (X : Cx Γ Δ A l0 cc own nL R0 ret nm) {a t n j : Nat} {i : Int32} {x : Int32} (ha : wK w a = some (.inr (t, n))) (ht : t < nT) (htk : tyK t = 0) (hty : tyL t = .boolean) (hz : x = 0 ∨ x = 1) (hi : i = nI j) (hj : j < n) (hn : n < 2 ^ 31) (hd : decode cc pc = .ok (.bastore, 1)) (kk : J Γ Δ A nL (uI w a j x) cells slots Q (pc + 1) L (st)) : J Γ Δ A nL w cells slots Q (pc) L (.int x :: .int i :: .ref a :: st) := by
  obtain ⟨p, l, e, R, s, m, args, below, meth, c⟩ := Γ
  obtain ⟨hl, hR, hx, hb, hown, hml, hts, hK, hA, hret, hlk0, hnm, hst0⟩ := X
  intro H locs ws ls h1 h2 h3 h4 h5
  obtain ⟨q0, hq⟩ := wrep_at h1 ha
  rw [ent_i htk] at hq
  have hc : (nI j).toNatClampNeg = j := nI_clamp (by omega)
  skip
  subst hi
  refine va_zast (D := Δ.1) (cl := vwCl) (tys := tysOf Δ.2) hx hb hK.1 h2 h3 h4 q0 t hq (by rw [tysOf_at ht, hty]) (vp_in_j hj hn) hd (fun H1 locs1 g1 g2 g3 => ?_)
  rw [hc] at g1 g2
  have hz' : vp_nar .boolean x = x := by rcases hz with rfl | rfl <;> rfl
  rw [hz'] at g1 g2
  exact kk H1 locs1 _ ls (wrep_set (w' := uI w a j x) h1 h3 hq ha (fun _ => rfl) (ent_oI) (by rw [ent_i htk, wI_up])) g1 g2 g3 h5
theorem J_last (X : Cx Γ Δ A l0 cc own nL R0 ret nm) {a t n j : Nat} {i : Int32} {x : Int64} (ha : wK w a = some (.inr (t, n))) (ht : t < nT) (htk : tyK t = 2) (hty : tyL t = .long) (hi : i = nI j) (hj : j < n) (hn : n < 2 ^ 31) (hd : decode cc pc = .ok (.lastore, 1)) (kk : J Γ Δ A nL (uL w a j x) cells slots Q (pc + 1) L (st)) : J Γ Δ A nL w cells slots Q (pc) L (.long x :: .int i :: .ref a :: st) := by
  obtain ⟨p, l, e, R, s, m, args, below, meth, c⟩ := Γ
  obtain ⟨hl, hR, hx, hb, hown, hml, hts, hK, hA, hret, hlk0, hnm, hst0⟩ := X
  intro H locs ws ls h1 h2 h3 h4 h5
  obtain ⟨q0, hq⟩ := wrep_at h1 ha
  rw [ent_l htk] at hq
  have hc : (nI j).toNatClampNeg = j := nI_clamp (by omega)
  skip
  subst hi
  refine va_last (D := Δ.1) (cl := vwCl) (tys := tysOf Δ.2) hx hb hK.1 h2 h3 h4 q0 t hq (by rw [tysOf_at ht, hty]) (vp_in_j hj hn) hd (fun H1 locs1 g1 g2 g3 => ?_)
  rw [hc] at g1 g2
  skip
  exact kk H1 locs1 _ ls (wrep_set (w' := uL w a j x) h1 h3 hq ha (fun _ => rfl) (ent_oL) (by rw [ent_l htk, wL_up])) g1 g2 g3 h5
/-- an object of class ci may stand in an array of type t -/
def AC (ci t : Nat) : Prop := ∃ (r : vw_C) (E : String), vwCl[ci]? = some r ∧ tyL t = .object E ∧ (Cond.castable r.1 E ∈ TT ∨ r.1 = E)
theorem J_aast (X : Cx Γ Δ A l0 cc own nL R0 ret nm) {a t n j : Nat} {i : Int32} {o : Option Nat} (ha : wK w a = some (.inr (t, n))) (ht : t < nT) (htk : tyK t = 1) (hty : ∃ C, tyL t = .object C) (ho : ∀ y, o = some y → ∃ ci, wK w y = some (.inl ci) ∧ AC ci t) (hi : i = nI j) (hj : j < n) (hn : n < 2 ^ 31) (hd : decode cc pc = .ok (.aastore, 1)) (kk : J Γ Δ A nL (uP w a j o) cells slots Q (pc + 1) L (st)) : J Γ Δ A nL w cells slots Q (pc) L (va_rf o :: .int i :: .ref a :: st) := by
  obtain ⟨p, l, e, R, s, m, args, below, meth, c⟩ := Γ
  obtain ⟨hl, hR, hx, hb, hown, hml, hts, hK, hA, hret, hlk0, hnm, hst0⟩ := X
  intro H locs ws ls h1 h2 h3 h4 h5
  obtain ⟨q0, hq⟩ := wrep_at h1 ha
  rw [ent_q htk] at hq
  have hc : (nI j).toNatClampNeg = j := nI_clamp (by omega)
  subst hi
  cases o with
  | none =>
    obtain ⟨C, hty⟩ := hty
    refine va_astqN (D := Δ.1) (cl := vwCl) (tys := tysOf Δ.2) hx hb hK.1 h2 h3 h4 q0 t hq (by rw [tysOf_at ht, hty]) (vp_in_j hj hn) hd (fun H1 locs1 g1 g2 g3 => ?_)
    rw [hc] at g1 g2
    exact kk H1 locs1 _ ls (wrep_set (w' := uP w a j none) h1 h3 hq ha (fun _ => rfl) ent_oP (by rw [ent_q htk, wP_up])) g1 g2 g3 h5
  | some y =>
    obtain ⟨ci, hy, r, E, hr, hty, hca⟩ := ho y rfl
    obtain ⟨q1, hq1⟩ := wrep_at h1 hy
    have kx : ∀ (H1 : Heap) (locs1 : List Loc), va_P Δ.1 vwCl (ws.set q0 (a, .inl (Δ.2 t, n, .inr (.inr (.inr (.inr (va_up (wP w a) (nI j).toNatClampNeg (some y)))))))) H1 → va_D A (ws.set q0 (a, .inl (Δ.2 t, n, .inr (.inr (.inr (.inr (va_up (wP w a) (nI j).toNatClampNeg (some y)))))))) → va_S A s.heap H1 locs1 → W p l e R s m args below meth c H1 locs1 cells slots Q (F0 m (pc + 1) ls st) := by
      intro H1 locs1 g1 g2 g3
      rw [hc] at g1 g2
      exact kk H1 locs1 _ ls (wrep_set (w' := uP w a j (some y)) h1 h3 hq ha (fun _ => rfl) ent_oP (by rw [ent_q htk, wP_up])) g1 g2 g3 h5
    rcases hca with hca | hca
    · exact va_astqO (D := Δ.1) (cl := vwCl) (tys := tysOf Δ.2) hx hb hK.1 h2 h3 h4 q0 t q1 ci hq (by rw [tysOf_at ht, hty]) (va_Nw.of rfl (hts _ hca)) hq1 hr (vp_in_j hj hn) hd kx
    · exact va_astq (D := Δ.1) (cl := vwCl) (tys := tysOf Δ.2) hx hb hK.1 h2 h3 h4 q0 t q1 ci hq (by rw [tysOf_at ht, hty, hca]) hq1 hr (vp_in_j hj hn) hd kx
/-- a new object by a place of the pool -/
def ND (own : String) (idx ci : Nat) : Prop := ∃ (C : String) (T : u_T) (N : Nat) (ty : Nat → FieldType), vwCl[ci]? = some (C, T, N) ∧ N = nF ci ∧ (∀ x ∈ u_ws C T N, x ∈ TT) ∧ (∀ k, k < N → parseFieldDescriptor (T k).2.2.1 = some (ty k)) ∧ (∀ k, k < N → defaultValue (ty k) = if ft ci k = true then .int 0 else .null) ∧ Cond.classLink own idx C ∈ TT ∧ Cond.instantiable C N ∈ TT ∧ Cond.initialized C ∈ TT
theorem J_new (X : Cx Γ Δ A l0 cc own nL R0 ret nm) {ci idx : Nat} (hf : ND own idx ci) (hc1 : cells + 1 ≤ R0.cells) (hs1 : slots + nF ci ≤ R0.slots) (hd : decode cc pc = .ok (.new idx, 3)) (kk : ∀ q, wK w q = none → J Γ Δ A nL (uN w q (.inl ci)) (cells + 1) (slots + nF ci) Q (pc + 3) L (.ref q :: st)) : J Γ Δ A nL w cells slots Q (pc) L (st) := by
  obtain ⟨p, l, e, R, s, m, args, below, meth, c⟩ := Γ
  obtain ⟨hl, hR, hx, hb, hown, hml, hts, hK, hA, hret, hlk0, hnm, hst0⟩ := X
  intro H locs ws ls h1 h2 h3 h4 h5
  obtain ⟨C, T, N, ty, hc, hN, hin, hty, hdv, k1, k2, k3⟩ := hf
  subst hN
  subst hR
  refine va_new (D := Δ.1) (cl := vwCl) (tys := tysOf Δ.2) (fs := (List.range (nF ci)).map (fun k => if ft ci k = true then Value.int 0 else .null)) hx hb hts hin ty hty hown (hts _ k1) (hts _ k2) (hts _ k3) hK.1 h2 h3 h4 hA hc (fun j hj => ?_) hc1 hs1 hd (fun q H1 g1 g2 g3 => ?_)
  · rw [hdv j hj, vp_V, List.getD_eq_getElem?_getD, List.getElem?_map, List.getElem?_range hj]
    rfl
  · obtain ⟨e1, e2⟩ := wrep_push (d := .inl ci) h1 g2 (by
      show _ = (Sum.inr (ci, (List.range (nF ci)).map (fV (uN w q (.inl ci)) q ci)) : va_E)
      congr 3
      funext k
      rw [fV, wI_uN, wP_uN, if_pos rfl, if_pos rfl]
      rfl)
    exact kk q e1 H1 locs _ ls e2 g1 g2 g3 h5
/-- a new array of references by a place of the pool -/
def NQ (own : String) (idx t : Nat) : Prop := t < nT ∧ tyK t = 1 ∧ ∃ C : String, tyL t = .object C ∧ Cond.classLink own idx C ∈ TT ∧ Cond.arrayOver (.object C) ∈ TT
theorem J_newq (X : Cx Γ Δ A l0 cc own nL R0 ret nm) {t idx n : Nat} {i : Int32} (hf : NQ own idx t) (hi : i = nI n) (hn : n < 10000) (hc1 : cells + 1 ≤ R0.cells) (hs1 : slots + n ≤ R0.slots) (hd : decode cc pc = .ok (.anewarray idx, 3)) (kk : ∀ q, wK w q = none → J Γ Δ A nL (uN w q (.inr (t, n))) (cells + 1) (slots + n) Q (pc + 3) L (.ref q :: st)) : J Γ Δ A nL w cells slots Q (pc) L (.int i :: st) := by
  obtain ⟨p, l, e, R, s, m, args, below, meth, c⟩ := Γ
  obtain ⟨hl, hR, hx, hb, hown, hml, hts, hK, hA, hret, hlk0, hnm, hst0⟩ := X
  intro H locs ws ls h1 h2 h3 h4 h5
  obtain ⟨ht, htk, C, hty, k1, k2⟩ := hf
  subst hR; subst hi
  refine va_newq (D := Δ.1) (cl := vwCl) (tys := tysOf Δ.2) hx hb hown (hts _ k1) (va_AO.of (hts _ k2)) hK.1 h2 h3 h4 hA (N' := n) (nI_pos (by omega)) (nI_clamp (by omega)) (by omega) hc1 hs1 hd (fun q cA H1 g0 g1 g2 g3 => ?_)
  have hcA : cA = Δ.2 t := by
    have r1 := (hK.1.2 t _ (tysOf_at ht)).2
    rw [hty] at r1
    obtain ⟨_, _, _, _, _, f1⟩ := r1
    obtain ⟨_, _, _, _, _, f2⟩ := (g0.2 (tysOf Δ.2).length (cA, .object C) (by rw [List.getElem?_append_right (Nat.le_refl _), Nat.sub_self]; rfl)).2
    exact Option.some.inj (f2.symm.trans f1)
  subst hcA
  obtain ⟨e1, e2⟩ := wrep_push (d := .inr (t, n)) h1 g2 (by
    rw [ent_q htk]
    have : wP (uN w q (.inr (t, n))) q = fun _ => none := by funext j; rw [wP_uN, if_pos rfl]
    rw [this])
  exact kk q e1 H1 locs _ ls e2 g1 g2 g3 h5
theorem J_newi (X : Cx Γ Δ A l0 cc own nL R0 ret nm) {t n : Nat} {i : Int32} {aty : ArrayType} (haty : newarray.typeOf aty = .int) (ht : t < nT) (htk : tyK t = 0) (hty : tyL t = .int) (hw : Cond.arrayClass .int ∈ TT) (hi : i = nI n) (hn : n < 10000) (hc1 : cells + 1 ≤ R0.cells) (hs1 : slots + n ≤ R0.slots) (hd : decode cc pc = .ok (.newarray aty, 2)) (kk : ∀ q, wK w q = none → J Γ Δ A nL (uN w q (.inr (t, n))) (cells + 1) (slots + n) Q (pc + 2) L (.ref q :: st)) : J Γ Δ A nL w cells slots Q (pc) L (.int i :: st) := by
  obtain ⟨p, l, e, R, s, m, args, below, meth, c⟩ := Γ
  obtain ⟨hl, hR, hx, hb, hown, hml, hts, hK, hA, hret, hlk0, hnm, hst0⟩ := X
  intro H locs ws ls h1 h2 h3 h4 h5
  subst hR; subst hi
  refine va_newa (D := Δ.1) (cl := vwCl) (tys := tysOf Δ.2) hx hb (by rw [haty]; exact hts _ hw) haty hK.1 h2 h3 h4 hA (N' := n) (a0 := (n, .inl (fun _ => 0))) (fun _ => rfl) (nI_pos (by omega)) (nI_clamp (by omega)) (Nat.le_trans (Nat.mul_le_mul_left n (by decide : componentBytes .int ≤ 8)) (by omega)) hc1 hs1 hd (fun q cA H1 g0 g1 g2 g3 => ?_)
  have hcA : cA = Δ.2 t := by
    have r1 := (hK.1.2 t _ (tysOf_at ht)).2
    rw [hty] at r1
    have r2 := (g0.2 (tysOf Δ.2).length (cA, .int) (by rw [List.getElem?_append_right (Nat.le_refl _), Nat.sub_self]; rfl)).2
    exact Option.some.inj (r2.symm.trans r1)
  subst hcA
  obtain ⟨e1, e2⟩ := wrep_push (d := .inr (t, n)) h1 g2 (by
    rw [ent_i htk]
    have : wI (uN w q (.inr (t, n))) q = fun _ => 0 := by funext j; rw [wI_uN, if_pos rfl]
    rw [this])
  exact kk q e1 H1 locs _ ls e2 g1 g2 g3 h5
theorem J_newz (X : Cx Γ Δ A l0 cc own nL R0 ret nm) {t n : Nat} {i : Int32} {aty : ArrayType} (haty : newarray.typeOf aty = .boolean) (ht : t < nT) (htk : tyK t = 0) (hty : tyL t = .boolean) (hw : Cond.arrayClass .boolean ∈ TT) (hi : i = nI n) (hn : n < 10000) (hc1 : cells + 1 ≤ R0.cells) (hs1 : slots + n ≤ R0.slots) (hd : decode cc pc = .ok (.newarray aty, 2)) (kk : ∀ q, wK w q = none → J Γ Δ A nL (uN w q (.inr (t, n))) (cells + 1) (slots + n) Q (pc + 2) L (.ref q :: st)) : J Γ Δ A nL w cells slots Q (pc) L (.int i :: st) := by
  obtain ⟨p, l, e, R, s, m, args, below, meth, c⟩ := Γ
  obtain ⟨hl, hR, hx, hb, hown, hml, hts, hK, hA, hret, hlk0, hnm, hst0⟩ := X
  intro H locs ws ls h1 h2 h3 h4 h5
  subst hR; subst hi
  refine va_newa (D := Δ.1) (cl := vwCl) (tys := tysOf Δ.2) hx hb (by rw [haty]; exact hts _ hw) haty hK.1 h2 h3 h4 hA (N' := n) (a0 := (n, .inl (fun _ => 0))) (fun _ => rfl) (nI_pos (by omega)) (nI_clamp (by omega)) (Nat.le_trans (Nat.mul_le_mul_left n (by decide : componentBytes .boolean ≤ 8)) (by omega)) hc1 hs1 hd (fun q cA H1 g0 g1 g2 g3 => ?_)
  have hcA : cA = Δ.2 t := by
    have r1 := (hK.1.2 t _ (tysOf_at ht)).2
    rw [hty] at r1
    have r2 := (g0.2 (tysOf Δ.2).length (cA, .boolean) (by rw [List.getElem?_append_right (Nat.le_refl _), Nat.sub_self]; rfl)).2
    exact Option.some.inj (r2.symm.trans r1)
  subst hcA
  obtain ⟨e1, e2⟩ := wrep_push (d := .inr (t, n)) h1 g2 (by
    rw [ent_i htk]
    have : wI (uN w q (.inr (t, n))) q = fun _ => 0 := by funext j; rw [wI_uN, if_pos rfl]
    rw [this])
  exact kk q e1 H1 locs _ ls e2 g1 g2 g3 h5
theorem J_newl (X : Cx Γ Δ A l0 cc own nL R0 ret nm) {t n : Nat} {i : Int32} {aty : ArrayType} (haty : newarray.typeOf aty = .long) (ht : t < nT) (htk : tyK t = 2) (hty : tyL t = .long) (hw : Cond.arrayClass .long ∈ TT) (hi : i = nI n) (hn : n < 10000) (hc1 : cells + 1 ≤ R0.cells) (hs1 : slots + n ≤ R0.slots) (hd : decode cc pc = .ok (.newarray aty, 2)) (kk : ∀ q, wK w q = none → J Γ Δ A nL (uN w q (.inr (t, n))) (cells + 1) (slots + n) Q (pc + 2) L (.ref q :: st)) : J Γ Δ A nL w cells slots Q (pc) L (.int i :: st) := by
  obtain ⟨p, l, e, R, s, m, args, below, meth, c⟩ := Γ
  obtain ⟨hl, hR, hx, hb, hown, hml, hts, hK, hA, hret, hlk0, hnm, hst0⟩ := X
  intro H locs ws ls h1 h2 h3 h4 h5
  subst hR; subst hi
  refine va_newa (D := Δ.1) (cl := vwCl) (tys := tysOf Δ.2) hx hb (by rw [haty]; exact hts _ hw) haty hK.1 h2 h3 h4 hA (N' := n) (a0 := (n, .inr (.inl (fun _ => 0)))) (fun _ => rfl) (nI_pos (by omega)) (nI_clamp (by omega)) (Nat.le_trans (Nat.mul_le_mul_left n (by decide : componentBytes .long ≤ 8)) (by omega)) hc1 hs1 hd (fun q cA H1 g0 g1 g2 g3 => ?_)
  have hcA : cA = Δ.2 t := by
    have r1 := (hK.1.2 t _ (tysOf_at ht)).2
    rw [hty] at r1
    have r2 := (g0.2 (tysOf Δ.2).length (cA, .long) (by rw [List.getElem?_append_right (Nat.le_refl _), Nat.sub_self]; rfl)).2
    exact Option.some.inj (r2.symm.trans r1)
  subst hcA
  obtain ⟨e1, e2⟩ := wrep_push (d := .inr (t, n)) h1 g2 (by
    rw [ent_l htk]
    have : wL (uN w q (.inr (t, n))) q = fun _ => 0 := by funext j; rw [wL_uN, if_pos rfl]
    rw [this])
  exact kk q e1 H1 locs _ ls e2 g1 g2 g3 h5
/-- objects of class ci are (yes), are not (no) of the class at a place of the pool -/
def IY (own : String) (idx ci : Nat) : Prop := ∃ (r : vw_C) (E : String), vwCl[ci]? = some r ∧ Cond.classLink own idx E ∈ TT ∧ (Cond.castable r.1 E ∈ TT ∨ r.1 = E)
def IN (own : String) (idx ci : Nat) : Prop := ∃ (r : vw_C) (E : String), vwCl[ci]? = some r ∧ Cond.classLink own idx E ∈ TT ∧ (r.1, E) ∈ ncL
theorem J_instY (X : Cx Γ Δ A l0 cc own nL R0 ret nm) {a ci idx : Nat} (ha : wK w a = some (.inl ci)) (hf : IY own idx ci) (hd : decode cc pc = .ok (.instanceof idx, 3)) (kk : J Γ Δ A nL w cells slots Q (pc + 3) L (.int 1 :: st)) : J Γ Δ A nL w cells slots Q (pc) L (.ref a :: st) := by
  obtain ⟨p, l, e, R, s, m, args, below, meth, c⟩ := Γ
  obtain ⟨hl, hR, hx, hb, hown, hml, hts, hK, hA, hret, hlk0, hnm, hst0⟩ := X
  intro H locs ws ls h1 h2 h3 h4 h5
  obtain ⟨q0, hq⟩ := wrep_at h1 ha
  obtain ⟨r, E, hr, k1, k2⟩ := hf
  have hrc := va_recv hK.1 h2 hr hq
  rcases k2 with k2 | k2
  · exact va_instY hx hb hown (hts _ k1) (va_Nw.of rfl (hts _ k2)) hrc hd (kk H locs ws ls h1 h2 h3 h4 h5)
  · subst k2
    exact va_instS hx hb hown (hts _ k1) (hK.1.1 ci r hr).2 hrc hd (kk H locs ws ls h1 h2 h3 h4 h5)
theorem J_cast (X : Cx Γ Δ A l0 cc own nL R0 ret nm) {a ci idx : Nat} (ha : wK w a = some (.inl ci)) (hf : IY own idx ci) (hd : decode cc pc = .ok (.checkcast idx, 3)) (kk : J Γ Δ A nL w cells slots Q (pc + 3) L (.ref a :: st)) : J Γ Δ A nL w cells slots Q (pc) L (.ref a :: st) := by
  obtain ⟨p, l, e, R, s, m, args, below, meth, c⟩ := Γ
  obtain ⟨hl, hR, hx, hb, hown, hml, hts, hK, hA, hret, hlk0, hnm, hst0⟩ := X
  intro H locs ws ls h1 h2 h3 h4 h5
  obtain ⟨q0, hq⟩ := wrep_at h1 ha
  obtain ⟨r, E, hr, k1, k2⟩ := hf
  have hrc := va_recv hK.1 h2 hr hq
  rcases k2 with k2 | k2
  · exact va_castY hx hb hown (hts _ k1) (va_Nw.of rfl (hts _ k2)) hrc hd (kk H locs ws ls h1 h2 h3 h4 h5)
  · subst k2
    exact va_castS hx hb hown (hts _ k1) (hK.1.1 ci r hr).2 hrc hd (kk H locs ws ls h1 h2 h3 h4 h5)
theorem J_instN (X : Cx Γ Δ A l0 cc own nL R0 ret nm) {a ci idx : Nat} (ha : wK w a = some (.inl ci)) (hf : IN own idx ci) (hd : decode cc pc = .ok (.instanceof idx, 3)) (kk : J Γ Δ A nL w cells slots Q (pc + 3) L (.int 0 :: st)) : J Γ Δ A nL w cells slots Q (pc) L (.ref a :: st) := by
  obtain ⟨p, l, e, R, s, m, args, below, meth, c⟩ := Γ
  obtain ⟨hl, hR, hx, hb, hown, hml, hts, hK, hA, hret, hlk0, hnm, hst0⟩ := X
  intro H locs ws ls h1 h2 h3 h4 h5
  obtain ⟨q0, hq⟩ := wrep_at h1 ha
  obtain ⟨r, E, hr, k1, k2⟩ := hf
  exact va_instNo hx hb hown (hts _ k1) (hK.2.1 _ k2) (va_recv hK.1 h2 hr hq) hd (kk H locs ws ls h1 h2 h3 h4 h5)
theorem J_inst0 (X : Cx Γ Δ A l0 cc own nL R0 ret nm) {idx : Nat} (hd : decode cc pc = .ok (.instanceof idx, 3)) (kk : J Γ Δ A nL w cells slots Q (pc + 3) L (.int 0 :: st)) : J Γ Δ A nL w cells slots Q (pc) L (.null :: st) := by
  obtain ⟨p, l, e, R, s, m, args, below, meth, c⟩ := Γ
  obtain ⟨hl, hR, hx, hb, hown, hml, hts, hK, hA, hret, hlk0, hnm, hst0⟩ := X
  exact fun H locs ws ls h1 h2 h3 h4 h5 => lv_instN hx hb hd (kk H locs ws ls h1 h2 h3 h4 h5)
theorem J_cast0 (X : Cx Γ Δ A l0 cc own nL R0 ret nm) {idx : Nat} (hd : decode cc pc = .ok (.checkcast idx, 3)) (kk : J Γ Δ A nL w cells slots Q (pc + 3) L (.null :: st)) : J Γ Δ A nL w cells slots Q (pc) L (.null :: st) := by
  obtain ⟨p, l, e, R, s, m, args, below, meth, c⟩ := Γ
  obtain ⟨hl, hR, hx, hb, hown, hml, hts, hK, hA, hret, hlk0, hnm, hst0⟩ := X
  exact fun H locs ws ls h1 h2 h3 h4 h5 => lv_castN hx hb hd (kk H locs ws ls h1 h2 h3 h4 h5)
end JH
