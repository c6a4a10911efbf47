/-! the model: grow, room -/
/-- the fields of the old, marked -/
def pasO (w : Wd) (th ol fd sz : Nat) (ρ : Nat → Bool) : Nat → (Nat → Bool)
  | 0 => ρ
  | n + 1 => if wI w th n ≠ 0 ∧ wI w ol n ≠ 0 then mks (pasO w th ol fd sz ρ n) (fldL w fd sz n) else pasO w th ol fd sz ρ n
theorem pasO_iff {w : Wd} {th ol fd sz : Nat} {ρ : Nat → Bool} {k : Nat} : ∀ {n : Nat}, pasO w th ol fd sz ρ n k = true ↔ ρ k = true ∨ ∃ p, p < n ∧ (wI w th p ≠ 0 ∧ wI w ol p ≠ 0) ∧ RF k ∈ fldL w fd sz p
  | 0 => by
    constructor
    · exact Or.inl
    · rintro (h | ⟨p, hp, -⟩)
      · exact h
      · omega
  | n + 1 => by
    rw [pasO]
    split
    · rename_i hc
      rw [mks_iff, pasO_iff]
      constructor
      · rintro ((h | ⟨p, hp, h1, h2⟩) | h)
        · exact Or.inl h
        · exact Or.inr ⟨p, by omega, h1, h2⟩
        · exact Or.inr ⟨n, by omega, hc, h⟩
      · rintro (h | ⟨p, hp, h1, h2⟩)
        · exact Or.inl (Or.inl h)
        · by_cases e : p = n
          · subst e; exact Or.inr h2
          · exact Or.inl (Or.inr ⟨p, by omega, h1, h2⟩)
    · rename_i hc
      rw [pasO_iff]
      constructor
      · rintro (h | ⟨p, hp, h1, h2⟩)
        · exact Or.inl h
        · exact Or.inr ⟨p, by omega, h1, h2⟩
      · rintro (h | ⟨p, hp, h1, h2⟩)
        · exact Or.inl h
        · by_cases e : p = n
          · subst e; exact absurd h1 hc
          · exact Or.inr ⟨p, by omega, h1, h2⟩
def isYo (w : Wd) (th ol p : Nat) : Bool := decide (wI w th p ≠ 0) && decide (wI w ol p = 0)
def kepF (w : Wd) (th ol sz : Nat) (ρ : Nat → Bool) (p : Nat) : Int32 := if (isYo w th ol p && ρ p) = true then celI w sz p else 0
def grT (w : Wd) (th ol : Nat) (ρ : Nat → Bool) (p : Nat) : Int32 := if isYo w th ol p = true then bI (ρ p) else wI w th p
def grO (w : Wd) (th ol : Nat) (p : Nat) : Int32 := if isYo w th ol p = true then 1 else wI w ol p
/-- behind grow -/
def grW (w : Wd) (m th ol am rc : Nat) (ρ : Nat → Bool) : Wd := aI (aI (aI (uI (rcW w rc ρ) m 11 (wI w m 11 + 1)) th 200 (grT w th ol ρ)) ol 200 (grO w th ol)) am 200 (fun p => cutA (grT w th ol ρ) (wI w am p))
/-- the old are of B -/
def OlB (w : Wd) (th ol : Nat) (B : Nat → Prop) : Prop := ∀ p, p < 200 → wI w th p ≠ 0 → wI w ol p ≠ 0 → B p
/-- the seeds of a small collection -/
def seedO (w : Wd) (re th ol fd sz nr : Nat) : Nat → Bool := pasO w th ol fd sz (mks (fun _ => false) (regL w re nr)) 200
def GrE (w : Wd) (m re th ol sz am fd rc nr lo : Nat) (q : Option Value) (w' : Wd) : Prop := ∃ ρ, Least w fd sz (seedO w re th ol fd sz nr) ρ ∧
  ((sumTo (kepF w th ol sz ρ) 200 ≤ nI lo - sumTo (takF w th ol sz 1) 200 ∧ q = some (.int (sumTo (kepF w th ol sz ρ) 200)) ∧ w' = grW w m th ol am rc ρ) ∨ (¬ sumTo (kepF w th ol sz ρ) 200 ≤ nI lo - sumTo (takF w th ol sz 1) 200 ∧ q = some (.int (-1)) ∧ w' = rcW w rc ρ))
def GrS (w w1 : Wd) (m re th ol sz am fd rc nr lo : Nat) : Prop := (¬ nI lo - sumTo (takF w th ol sz 1) 200 < sumTo (takF w th ol sz 0) 200 ∧ w1 = w) ∨ (nI lo - sumTo (takF w th ol sz 1) 200 < sumTo (takF w th ol sz 0) 200 ∧ ∃ ρ, Least w fd sz (mks (fun _ => false) (regL w re nr)) ρ ∧ w1 = clW w m th ol am rc ρ)
def RoE (w : Wd) (m re th ol sz am fd rc nr ly lo : Nat) (c : Int32) (q : Int32) (w' : Wd) : Prop := (sumTo (takF w th ol sz 0) 200 + c ≤ nI ly ∧ q = 1 ∧ w' = w) ∨ (¬ sumTo (takF w th ol sz 0) 200 + c ≤ nI ly ∧ ∃ v, q = (if v < 0 then 0 else 1) ∧ ∃ w1, GrS w w1 m re th ol sz am fd rc nr lo ∧ GrE w1 m re th ol sz am fd rc nr lo (some (.int v)) w')
section GR
variable {l : Launch} {Δ : Dat} {w w0 : Wd} {m re th ol sz am fd rc nr ly lo : Nat} {B : Nat → Prop} {Γ : Cxt} {post : Option Value → Wd → Prop}
theorem seedO_B (hB : Bk w fd sz B) (hR : ReB w re nr B) (hO : OlB w th ol B) : ∀ n, n ≤ 200 → ∀ k, k < 200 → pasO w th ol fd sz (mks (fun _ => false) (regL w re nr)) n k = true → B k := fun n hn k hk h => by
  rcases pasO_iff.mp h with q | ⟨p, hp, ⟨h1, h2⟩, h3⟩
  · exact ReB_mks hR k hk q
  · exact Bk_clo hB p (by omega) (hO p (by omega) h1 h2) k hk h3
theorem sum_rc {ρ : Nat → Bool} {v : Int32} (H : MS w m re th ol sz am fd rc nr ly lo) (b : Int32) : sumTo (takF (rcW w rc ρ) th ol sz b) 200 = sumTo (takF w th ol sz b) 200 := by
  obtain ⟨⟨e1, e2, e3, e4, e5, e6⟩, -⟩ := MS_ne H
  obtain ⟨-, -, -, -, -, -, -, -, -, ⟨n1, n2, n3, n4⟩, -⟩ := H
  refine sumTo_congr (fun k hk => ?_)
  rw [takF, takF, rcW_no n2, rcW_no n3, celI, celI, rcW_no (Ne.symm e5)]
set_option maxRecDepth 100000 in
set_option maxHeartbeats 1000000 in
theorem grow3 (X : Cx Γ Δ (AE Γ w0) l c_Mo_grow "TwoGenerationsModel" 3 (rmL 4 0 0) (some .int) "grow") (H : MS w m re th ol sz am fd rc nr ly lo) (ha : amok w am) {ρ : Nat → Bool} {kv : Int32} (hp : post (some (.int kv)) (grW w m th ol am rc ρ)) :
    J Γ Δ (AE Γ w0) 3 (rcW w rc ρ) 0 0 (QE Γ Δ w0 post (rmL 4 0 0)) 145 [some (.ref m), some (.int kv), none] [] := by
  have hne := MS_ne H
  have H' := H
  obtain ⟨hm, -, -, ⟨h5, kt⟩, ⟨h6, ko⟩, ⟨h7, ks⟩, ⟨h8, ka⟩, -, ⟨h10, kr⟩, ⟨n1, n2, n3, n4⟩, -⟩ := H'
  obtain ⟨⟨e1, e2, e3, e4, e5, e6⟩, ⟨f1, f2, f3, f4, f5, f6, f7⟩, -⟩ := hne
  have r11 : wI (rcW w rc ρ) m 11 = wI w m 11 := rcW_no f5
  have bm : ∀ {b k : Nat}, b ≠ m → wI (uI (rcW w rc ρ) m 11 (wI w m 11 + 1)) b k = wI (rcW w rc ρ) b k := fun h => by rw [wI_uI, if_neg (fun q => h q.1)]
  first | refine J_aload_nr X d_Mo_grow_145 rfl rfl ?_ | refine J_aload_n X d_Mo_grow_145 rfl rfl ?_ | refine J_aload_n0 X d_Mo_grow_145 rfl rfl ?_
  refine J_dup X d_Mo_grow_146 (rfl) ?_
  refine J_getI X (hm) fa_Mo_89_6 rfl (r11) d_Mo_grow_147 ?_
  refine J_iconst (v := 1) X d_Mo_grow_150 (by decide) ?_
  refine J_iadd X d_Mo_grow_151 ?_
  refine J_putI X (hm) fp_Mo_89_6 rfl d_Mo_grow_152 ?_
  refine J_iconst (v := 0) X d_Mo_grow_155 (by decide) ?_
  refine J_istore_n X d_Mo_grow_156 rfl (by decide) rfl ?_
  have loop : ∀ (k i : Nat), k + i = 200 → J Γ Δ (AE Γ w0) 3 (aI (aI (uI (rcW w rc ρ) m 11 (wI w m 11 + 1)) th i (grT w th ol ρ)) ol i (grO w th ol)) 0 0 (QE Γ Δ w0 post (rmL 4 0 0)) 157 [some (.ref m), some (.int kv), some (.int (nI i))] [] := by
    intro k
    induction k with
    | zero =>
      intro i hi
      have hi' : i = 200 := by omega
      subst hi'
      have HM : MS (aI (aI (uI (rcW w rc ρ) m 11 (wI w m 11 + 1)) th 200 (grT w th ol ρ)) ol 200 (grO w th ol)) m re th ol sz am fd rc nr ly lo := MS_aI (t := 1) (z := 200) ko (MS_aI (t := 1) (z := 200) kt (MS_uI (Or.inr (by decide)) (MS_aI kr H)))
      have ram : ∀ p, wI (aI (aI (uI (rcW w rc ρ) m 11 (wI w m 11 + 1)) th 200 (grT w th ol ρ)) ol 200 (grO w th ol)) am p = wI w am p := fun p => by
        rw [aI_out (Or.inl (Ne.symm e4)), aI_out (Or.inl (Ne.symm e2)), bm (Ne.symm f4), rcW_no (Ne.symm e6)]
      have rth : ∀ p, p < 200 → wI (aI (aI (uI (rcW w rc ρ) m 11 (wI w m 11 + 1)) th 200 (grT w th ol ρ)) ol 200 (grO w th ol)) th p = grT w th ol ρ p := fun p hp => by
        rw [aI_out (Or.inl n1), aI_in hp]
      refine J_iload_n X d_Mo_grow_157 rfl rfl ?_
      refine J_sipush (v := 200) X d_Mo_grow_158 (by decide) ?_
      refine J_icmp_ge (tgt := 207) X d_Mo_grow_161 (by decide) (fun g => ?_) (fun g => ?_)
      · first | refine J_aload_nr X d_Mo_grow_207 rfl rfl ?_ | refine J_aload_n X d_Mo_grow_207 rfl rfl ?_ | refine J_aload_n0 X d_Mo_grow_207 rfl rfl ?_
        refine J_callV X (hm) rfl (k_tellWeak HM (fun p hp => by rw [ram]; exact ha p hp)) cd_Mo_tellWeak lk_Mo_92 vi_Mo_tellWeak (by decide) (by decide) (by decide) (by decide) rfl (by first | decide | simp [va_rf_cat, vc_r, vc_i, vc_0]) d_Mo_grow_208 (fun q w1 hq => ?_)
        obtain ⟨rfl, hw1⟩ := hq
        refine J_iload_n X d_Mo_grow_211 rfl rfl ?_
        refine J_iret X ?_ (by decide) (by decide) d_Mo_grow_212
        have e : w1 = grW w m th ol am rc ρ := by
          rw [hw1, grW]
          refine aI_congr (fun p hp => ?_)
          rw [ram]
          rcases ha p hp with z | ⟨q, hq, z⟩
          · rw [z]; rfl
          · rw [z, cutA, cutA, nI_clamp (by omega), rth q hq]
        rw [e]
        exact hp
      · exact absurd (by decide) g
    | succ k ih =>
      intro i hi
      have a1 : wI (aI (aI (uI (rcW w rc ρ) m 11 (wI w m 11 + 1)) th i (grT w th ol ρ)) ol i (grO w th ol)) th i = wI w th i := by
        rw [aI_out (Or.inl n1), aI_out (Or.inr (Nat.le_refl _)), bm (Ne.symm f1), rcW_no n2]
      have a2 : wI (aI (aI (uI (rcW w rc ρ) m 11 (wI w m 11 + 1)) th i (grT w th ol ρ)) ol i (grO w th ol)) ol i = wI w ol i := by
        rw [aI_out (Or.inr (Nat.le_refl _)), aI_out (Or.inl (Ne.symm n1)), bm (Ne.symm f2), rcW_no n3]
      have a3 : wI (aI (aI (uI (rcW w rc ρ) m 11 (wI w m 11 + 1)) th i (grT w th ol ρ)) ol i (grO w th ol)) rc i = bI (ρ i) := by
        rw [aI_out (Or.inl (Ne.symm n3)), aI_out (Or.inl (Ne.symm n2)), bm (Ne.symm f5), rcW_at (by omega)]
      have fin : ∀ {W : Wd}, W = aI (aI (uI (rcW w rc ρ) m 11 (wI w m 11 + 1)) th (i + 1) (grT w th ol ρ)) ol (i + 1) (grO w th ol) → J Γ Δ (AE Γ w0) 3 W 0 0 (QE Γ Δ w0 post (rmL 4 0 0)) 201 [some (.ref m), some (.int kv), some (.int (nI i))] [] := fun hW => by
        subst hW
        refine J_iinc X d_Mo_grow_201 rfl (by decide) (nI_s i) rfl ?_
        refine J_goto (tgt := 157) X d_Mo_grow_204 (by decide) ?_
        exact ih (i + 1) (by omega)
      have keep : isYo w th ol i = false → aI (aI (uI (rcW w rc ρ) m 11 (wI w m 11 + 1)) th i (grT w th ol ρ)) ol i (grO w th ol) = aI (aI (uI (rcW w rc ρ) m 11 (wI w m 11 + 1)) th (i + 1) (grT w th ol ρ)) ol (i + 1) (grO w th ol) := fun hy => by
        rw [aI_next (a := th) (by rw [show grT w th ol ρ i = wI w th i from if_neg (by rw [hy]; decide), bm (Ne.symm f1), rcW_no n2])]
        refine (aI_next ?_).symm
        rw [show grO w th ol i = wI w ol i from if_neg (by rw [hy]; decide), aI_out (Or.inl (Ne.symm n1)), bm (Ne.symm f2), rcW_no n3]
      refine J_iload_n X d_Mo_grow_157 rfl rfl ?_
      refine J_sipush (v := 200) X d_Mo_grow_158 (by decide) ?_
      refine J_icmp_ge (tgt := 207) X d_Mo_grow_161 (by decide) (fun g => ?_) (fun g => ?_)
      · exact absurd g (by rw [show (200 : Int32) = nI 200 from rfl]; exact nI_ge (by omega) (by omega))
      · first | refine J_aload_nr X d_Mo_grow_164 rfl rfl ?_ | refine J_aload_n X d_Mo_grow_164 rfl rfl ?_ | refine J_aload_n0 X d_Mo_grow_164 rfl rfl ?_
        refine J_getR X (hm) fa_Mo_13_6 rfl (h5) d_Mo_grow_165 ?_
        refine J_iload_n X d_Mo_grow_168 rfl rfl ?_
        refine J_zald X (kt) (by decide) rfl rfl (rfl) (by omega) (by decide) (a1) d_Mo_grow_169 ?_
        refine J_if_eq (tgt := 201) X d_Mo_grow_170 (by decide) (fun g1 => ?_) (fun g1 => ?_)
        · exact fin (keep (by simp [isYo, g1]))
        · first | refine J_aload_nr X d_Mo_grow_173 rfl rfl ?_ | refine J_aload_n X d_Mo_grow_173 rfl rfl ?_ | refine J_aload_n0 X d_Mo_grow_173 rfl rfl ?_
          refine J_getR X (hm) fa_Mo_17_6 rfl (h6) d_Mo_grow_174 ?_
          refine J_iload_n X d_Mo_grow_177 rfl rfl ?_
          refine J_zald X (ko) (by decide) rfl rfl (rfl) (by omega) (by decide) (a2) d_Mo_grow_178 ?_
          refine J_if_ne (tgt := 201) X d_Mo_grow_179 (by decide) (fun g2 => ?_) (fun g2 => ?_)
          · exact fin (keep (by simp [isYo, g2]))
          · have hy : isYo w th ol i = true := by simp [isYo, g1, g2]
            have hb01 : bI (ρ i) = 0 ∨ bI (ρ i) = 1 := by cases ρ i <;> simp [bI]
            first | refine J_aload_nr X d_Mo_grow_182 rfl rfl ?_ | refine J_aload_n X d_Mo_grow_182 rfl rfl ?_ | refine J_aload_n0 X d_Mo_grow_182 rfl rfl ?_
            refine J_getR X (hm) fa_Mo_13_6 rfl (h5) d_Mo_grow_183 ?_
            refine J_iload_n X d_Mo_grow_186 rfl rfl ?_
            first | refine J_aload_nr X d_Mo_grow_187 rfl rfl ?_ | refine J_aload_n X d_Mo_grow_187 rfl rfl ?_ | refine J_aload_n0 X d_Mo_grow_187 rfl rfl ?_
            refine J_getR X (hm) fa_Mo_30_6 rfl (h10) d_Mo_grow_188 ?_
            refine J_iload_n X d_Mo_grow_191 rfl rfl ?_
            refine J_zald X (kr) (by decide) rfl rfl (rfl) (by omega) (by decide) (a3) d_Mo_grow_192 ?_
            refine J_zast X (kt) (by decide) rfl rfl (hb01) (rfl) (by omega) (by decide) d_Mo_grow_193 ?_
            first | refine J_aload_nr X d_Mo_grow_194 rfl rfl ?_ | refine J_aload_n X d_Mo_grow_194 rfl rfl ?_ | refine J_aload_n0 X d_Mo_grow_194 rfl rfl ?_
            refine J_getR X (hm) fa_Mo_17_6 rfl (h6) d_Mo_grow_195 ?_
            refine J_iload_n X d_Mo_grow_198 rfl rfl ?_
            refine J_iconst (v := 1) X d_Mo_grow_199 (by decide) ?_
            refine J_zast X (ko) (by decide) rfl rfl (by decide) (rfl) (by omega) (by decide) d_Mo_grow_200 ?_
            refine fin ?_
            rw [aI_comm n1]
            have z1 := aI_step (uI (rcW w rc ρ) m 11 (wI w m 11 + 1)) th i (grT w th ol ρ)
            rw [show grT w th ol ρ i = bI (ρ i) from if_pos hy] at z1
            rw [z1]
            have z2 := aI_step (aI (uI (rcW w rc ρ) m 11 (wI w m 11 + 1)) th (i + 1) (grT w th ol ρ)) ol i (grO w th ol)
            rw [show grO w th ol i = 1 from if_pos hy] at z2
            exact z2
  exact J_eq (by rw [aI_zero, aI_zero]) rfl (loop 200 0 rfl)
set_option maxRecDepth 100000 in
set_option maxHeartbeats 1000000 in
theorem grow2 (X : Cx Γ Δ (AE Γ w0) l c_Mo_grow "TwoGenerationsModel" 3 (rmL 4 0 0) (some .int) "grow") (H : MS w m re th ol sz am fd rc nr ly lo) (ha : amok w am) (hB : Bk w fd sz B) (hR : ReB w re nr B) (hO : OlB w th ol B) (hp : ∀ q w', GrE w m re th ol sz am fd rc nr lo q w' → post q w') :
    J Γ Δ (AE Γ w0) 3 w 0 0 (QE Γ Δ w0 post (rmL 4 0 0)) 23 [some (.ref m), none, none] [] := by
  have hne := MS_ne H
  have H' := H
  obtain ⟨hm, ⟨-, -, hlo⟩, -, ⟨h5, kt⟩, ⟨h6, ko⟩, ⟨h7, ks⟩, ⟨h8, ka⟩, -, ⟨h10, kr⟩, ⟨n1, n2, n3, n4⟩, -⟩ := H'
  obtain ⟨⟨e1, e2, e3, e4, e5, e6⟩, ⟨f1, f2, f3, f4, f5, f6, f7⟩, -⟩ := hne
  first | refine J_aload_nr X d_Mo_grow_23 rfl rfl ?_ | refine J_aload_n X d_Mo_grow_23 rfl rfl ?_ | refine J_aload_n0 X d_Mo_grow_23 rfl rfl ?_
  refine J_callV X (hm) rfl (k_nothing H) cd_Mo_nothing lk_Mo_70 vi_Mo_nothing (by decide) (by decide) (by decide) (by decide) rfl (by first | decide | simp [va_rf_cat, vc_r, vc_i, vc_0]) d_Mo_grow_24 (fun q w1 hq => ?_)
  obtain ⟨rfl, hw1⟩ := hq
  refine J_eq hw1 rfl ?_
  first | refine J_aload_nr X d_Mo_grow_27 rfl rfl ?_ | refine J_aload_n X d_Mo_grow_27 rfl rfl ?_ | refine J_aload_n0 X d_Mo_grow_27 rfl rfl ?_
  refine J_callV X (hm) rfl (k_markRegisters (ρ := fun _ => false) H (ReB_vok hR)) cd_Mo_markRegisters lk_Mo_73 vi_Mo_markRegisters (by decide) (by decide) (by decide) (by decide) rfl (by first | decide | simp [va_rf_cat, vc_r, vc_i, vc_0]) d_Mo_grow_28 (fun q w2 hq => ?_)
  obtain ⟨rfl, hw2⟩ := hq
  refine J_eq (w' := rcW w rc (mks (fun _ => false) (regL w re nr))) hw2 rfl ?_
  refine J_iconst (v := 0) X d_Mo_grow_31 (by decide) ?_
  refine J_istore_n X d_Mo_grow_32 rfl (by decide) rfl ?_
  refine J_widen (c2 := 0) (s2 := 0) (by decide) (by decide) ?_
  have loop1 : ∀ (k i : Nat), k + i = 200 → J Γ Δ (AE Γ w0) 3 (rcW w rc (pasO w th ol fd sz (mks (fun _ => false) (regL w re nr)) i)) 0 0 (QE Γ Δ w0 post (rmL 4 0 0)) 33 [some (.ref m), some (.int (nI i)), none] [] := by
    intro k
    induction k with
    | zero =>
      intro i hi
      have hi' : i = 200 := by omega
      subst hi'
      refine J_iload_n X d_Mo_grow_33 rfl rfl ?_
      refine J_sipush (v := 200) X d_Mo_grow_34 (by decide) ?_
      refine J_icmp_ge (tgt := 69) X d_Mo_grow_37 (by decide) (fun g => ?_) (fun g => ?_)
      · first | refine J_aload_nr X d_Mo_grow_69 rfl rfl ?_ | refine J_aload_n X d_Mo_grow_69 rfl rfl ?_ | refine J_aload_n0 X d_Mo_grow_69 rfl rfl ?_
        refine J_callV X (hm) rfl (k_spread (ρ := seedO w re th ol fd sz nr) H hB (seedO_B hB hR hO 200 (Nat.le_refl _))) cd_Mo_spread lk_Mo_76 vi_Mo_spread (by decide) (by decide) (by decide) (by decide) rfl (by first | decide | simp [va_rf_cat, vc_r, vc_i, vc_0]) d_Mo_grow_70 (fun q w3 hq => ?_)
        obtain ⟨rfl, ρ, hw3, hL⟩ := hq
        refine J_eq hw3 rfl ?_
        refine J_iconst (v := 0) X d_Mo_grow_73 (by decide) ?_
        refine J_istore_n X d_Mo_grow_74 rfl (by decide) rfl ?_
        refine J_iconst (v := 0) X d_Mo_grow_75 (by decide) ?_
        refine J_istore_n X d_Mo_grow_76 rfl (by decide) rfl ?_
        refine J_widen (c2 := 0) (s2 := 0) (by decide) (by decide) ?_
        have loop2 : ∀ (k i : Nat), k + i = 200 → J Γ Δ (AE Γ w0) 3 (rcW w rc ρ) 0 0 (QE Γ Δ w0 post (rmL 4 0 0)) 77 [some (.ref m), some (.int (sumTo (kepF w th ol sz ρ) i)), some (.int (nI i))] [] := by
          intro k
          induction k with
          | zero =>
            intro i hi
            have hi' : i = 200 := by omega
            subst hi'
            have r3 : wI (rcW w rc ρ) m 3 = nI lo := (rcW_no f5).trans hlo
            refine J_iload_n X d_Mo_grow_77 rfl rfl ?_
            refine J_sipush (v := 200) X d_Mo_grow_78 (by decide) ?_
            refine J_icmp_ge (tgt := 129) X d_Mo_grow_81 (by decide) (fun g => ?_) (fun g => ?_)
            · refine J_iload_n X d_Mo_grow_129 rfl rfl ?_
              first | refine J_aload_nr X d_Mo_grow_130 rfl rfl ?_ | refine J_aload_n X d_Mo_grow_130 rfl rfl ?_ | refine J_aload_n0 X d_Mo_grow_130 rfl rfl ?_
              refine J_getI X (hm) fa_Mo_40_6 rfl (r3) d_Mo_grow_131 ?_
              first | refine J_aload_nr X d_Mo_grow_134 rfl rfl ?_ | refine J_aload_n X d_Mo_grow_134 rfl rfl ?_ | refine J_aload_n0 X d_Mo_grow_134 rfl rfl ?_
              refine J_iconst (v := 1) X d_Mo_grow_135 (by decide) ?_
              refine J_callV X (hm) rfl (k_taken (b := 1) (MS_aI kr H)) cd_Mo_taken lk_Mo_82 vi_Mo_taken (by decide) (by decide) (by decide) (by decide) rfl (by first | decide | simp [va_rf_cat, vc_r, vc_i, vc_0]) d_Mo_grow_136 (fun q w4 hq => ?_)
              obtain ⟨rfl, hw4⟩ := hq
              refine J_eq hw4 rfl ?_
              rw [sum_rc (ρ := ρ) (v := 0) H 1]
              refine J_isub X d_Mo_grow_139 ?_
              refine J_icmp_le (tgt := 145) X d_Mo_grow_140 (by decide) (fun g2 => ?_) (fun g2 => ?_)
              · refine J_forget 2 rfl ?_
                refine J_widen (c2 := 0) (s2 := 0) (by decide) (by decide) ?_
                exact grow3 X H ha (hp _ _ ⟨ρ, hL, Or.inl ⟨g2, rfl, rfl⟩⟩)
              · refine J_iconst (v := -1) X d_Mo_grow_143 (by decide) ?_
                exact J_iret X (hp _ _ ⟨ρ, hL, Or.inr ⟨g2, rfl, rfl⟩⟩) (by decide) (by decide) d_Mo_grow_144
            · exact absurd (by decide) g
          | succ k ih =>
            intro i hi
            have b1 : wI (rcW w rc ρ) th i = wI w th i := rcW_no n2
            have b2 : wI (rcW w rc ρ) ol i = wI w ol i := rcW_no n3
            have b3 : wI (rcW w rc ρ) rc i = bI (ρ i) := rcW_at (by omega)
            refine J_iload_n X d_Mo_grow_77 rfl rfl ?_
            refine J_sipush (v := 200) X d_Mo_grow_78 (by decide) ?_
            refine J_icmp_ge (tgt := 129) X d_Mo_grow_81 (by decide) (fun g => ?_) (fun g => ?_)
            · exact absurd g (by rw [show (200 : Int32) = nI 200 from rfl]; exact nI_ge (by omega) (by omega))
            · have step : ∀ {v : Int32} {c0 s0 : Nat}, c0 ≤ 0 → s0 ≤ 0 → v = kepF w th ol sz ρ i → J Γ Δ (AE Γ w0) 3 (rcW w rc ρ) c0 s0 (QE Γ Δ w0 post (rmL 4 0 0)) 121 [some (.ref m), some (.int (sumTo (kepF w th ol sz ρ) i)), some (.int (nI i))] [.int v, .int (sumTo (kepF w th ol sz ρ) i)] := fun hc hs hv => by
                refine J_widen (c2 := 0) (s2 := 0) hc hs ?_
                refine J_iadd X d_Mo_grow_121 ?_
                refine J_istore_n X d_Mo_grow_122 rfl (by decide) rfl ?_
                refine J_iinc X d_Mo_grow_123 rfl (by decide) (nI_s i) rfl ?_
                refine J_goto (tgt := 77) X d_Mo_grow_126 (by decide) ?_
                subst hv
                exact ih (i + 1) (by omega)
              refine J_iload_n X d_Mo_grow_84 rfl rfl ?_
              first | refine J_aload_nr X d_Mo_grow_85 rfl rfl ?_ | refine J_aload_n X d_Mo_grow_85 rfl rfl ?_ | refine J_aload_n0 X d_Mo_grow_85 rfl rfl ?_
              refine J_getR X (hm) fa_Mo_13_6 rfl (h5) d_Mo_grow_86 ?_
              refine J_iload_n X d_Mo_grow_89 rfl rfl ?_
              refine J_zald X (kt) (by decide) rfl rfl (rfl) (by omega) (by decide) (b1) d_Mo_grow_90 ?_
              refine J_if_eq (tgt := 120) X d_Mo_grow_91 (by decide) (fun g1 => ?_) (fun g1 => ?_)
              · refine J_iconst (v := 0) X d_Mo_grow_120 (by decide) ?_
                exact step (by decide) (by decide) (by rw [kepF, if_neg (by simp [isYo, g1])])
              · first | refine J_aload_nr X d_Mo_grow_94 rfl rfl ?_ | refine J_aload_n X d_Mo_grow_94 rfl rfl ?_ | refine J_aload_n0 X d_Mo_grow_94 rfl rfl ?_
                refine J_getR X (hm) fa_Mo_17_6 rfl (h6) d_Mo_grow_95 ?_
                refine J_iload_n X d_Mo_grow_98 rfl rfl ?_
                refine J_zald X (ko) (by decide) rfl rfl (rfl) (by omega) (by decide) (b2) d_Mo_grow_99 ?_
                refine J_if_ne (tgt := 120) X d_Mo_grow_100 (by decide) (fun g2 => ?_) (fun g2 => ?_)
                · refine J_iconst (v := 0) X d_Mo_grow_120 (by decide) ?_
                  exact step (by decide) (by decide) (by rw [kepF, if_neg (by simp [isYo, g2])])
                · first | refine J_aload_nr X d_Mo_grow_103 rfl rfl ?_ | refine J_aload_n X d_Mo_grow_103 rfl rfl ?_ | refine J_aload_n0 X d_Mo_grow_103 rfl rfl ?_
                  refine J_getR X (hm) fa_Mo_30_6 rfl (h10) d_Mo_grow_104 ?_
                  refine J_iload_n X d_Mo_grow_107 rfl rfl ?_
                  refine J_zald X (kr) (by decide) rfl rfl (rfl) (by omega) (by decide) (b3) d_Mo_grow_108 ?_
                  refine J_if_eq (tgt := 120) X d_Mo_grow_109 (by decide) (fun g3 => ?_) (fun g3 => ?_)
                  · refine J_iconst (v := 0) X d_Mo_grow_120 (by decide) ?_
                    exact step (by decide) (by decide) (by rw [kepF, if_neg (by rw [bI_0.mp g3]; simp)])
                  · have ht : ρ i = true := by
                      cases hb : ρ i with
                      | true => rfl
                      | false => rw [hb] at g3; exact absurd rfl g3
                    first | refine J_aload_nr X d_Mo_grow_112 rfl rfl ?_ | refine J_aload_n X d_Mo_grow_112 rfl rfl ?_ | refine J_aload_n0 X d_Mo_grow_112 rfl rfl ?_
                    refine J_iload_n X d_Mo_grow_113 rfl rfl ?_
                    refine J_callV X (hm) rfl (k_cellsOf (p := i) hm h7 ks (by omega)) cd_Mo_cellsOf lk_Mo_54 vi_Mo_cellsOf (by decide) (by decide) (by decide) (by decide) rfl (by first | decide | simp [va_rf_cat, vc_r, vc_i, vc_0]) d_Mo_grow_114 (fun q w4 hq => ?_)
                    obtain ⟨rfl, hw4⟩ := hq
                    refine J_eq hw4 rfl ?_
                    have hcel : celI (rcW w rc ρ) sz i = celI w sz i := by rw [celI, celI, rcW_no (Ne.symm e5)]
                    rw [hcel]
                    refine J_goto (tgt := 121) X d_Mo_grow_117 (by decide) ?_
                    exact step (by decide) (by decide) (by rw [kepF, if_pos (by simp [isYo, g1, g2, ht])])
        exact loop2 200 0 rfl
      · exact absurd (by decide) g
    | succ k ih =>
      intro i hi
      have b1 : wI (rcW w rc (pasO w th ol fd sz (mks (fun _ => false) (regL w re nr)) i)) th i = wI w th i := rcW_no n2
      have b2 : wI (rcW w rc (pasO w th ol fd sz (mks (fun _ => false) (regL w re nr)) i)) ol i = wI w ol i := rcW_no n3
      refine J_iload_n X d_Mo_grow_33 rfl rfl ?_
      refine J_sipush (v := 200) X d_Mo_grow_34 (by decide) ?_
      refine J_icmp_ge (tgt := 69) X d_Mo_grow_37 (by decide) (fun g => ?_) (fun g => ?_)
      · exact absurd g (by rw [show (200 : Int32) = nI 200 from rfl]; exact nI_ge (by omega) (by omega))
      · have fin : ∀ {W : Wd} {c0 s0 : Nat}, c0 ≤ 0 → s0 ≤ 0 → W = rcW w rc (pasO w th ol fd sz (mks (fun _ => false) (regL w re nr)) (i + 1)) → J Γ Δ (AE Γ w0) 3 W c0 s0 (QE Γ Δ w0 post (rmL 4 0 0)) 63 [some (.ref m), some (.int (nI i)), none] [] := fun hc hs hW => by
          subst hW
          refine J_widen (c2 := 0) (s2 := 0) hc hs ?_
          refine J_iinc X d_Mo_grow_63 rfl (by decide) (nI_s i) rfl ?_
          refine J_goto (tgt := 33) X d_Mo_grow_66 (by decide) ?_
          exact ih (i + 1) (by omega)
        first | refine J_aload_nr X d_Mo_grow_40 rfl rfl ?_ | refine J_aload_n X d_Mo_grow_40 rfl rfl ?_ | refine J_aload_n0 X d_Mo_grow_40 rfl rfl ?_
        refine J_getR X (hm) fa_Mo_13_6 rfl (h5) d_Mo_grow_41 ?_
        refine J_iload_n X d_Mo_grow_44 rfl rfl ?_
        refine J_zald X (kt) (by decide) rfl rfl (rfl) (by omega) (by decide) (b1) d_Mo_grow_45 ?_
        refine J_if_eq (tgt := 63) X d_Mo_grow_46 (by decide) (fun g1 => ?_) (fun g1 => ?_)
        · exact fin (by decide) (by decide) (by rw [pasO, if_neg (fun q => q.1 g1)])
        · first | refine J_aload_nr X d_Mo_grow_49 rfl rfl ?_ | refine J_aload_n X d_Mo_grow_49 rfl rfl ?_ | refine J_aload_n0 X d_Mo_grow_49 rfl rfl ?_
          refine J_getR X (hm) fa_Mo_17_6 rfl (h6) d_Mo_grow_50 ?_
          refine J_iload_n X d_Mo_grow_53 rfl rfl ?_
          refine J_zald X (ko) (by decide) rfl rfl (rfl) (by omega) (by decide) (b2) d_Mo_grow_54 ?_
          refine J_if_eq (tgt := 63) X d_Mo_grow_55 (by decide) (fun g2 => ?_) (fun g2 => ?_)
          · exact fin (by decide) (by decide) (by rw [pasO, if_neg (fun q => q.2 g2)])
          · have hBi := hO i (by omega) g1 g2
            first | refine J_aload_nr X d_Mo_grow_58 rfl rfl ?_ | refine J_aload_n X d_Mo_grow_58 rfl rfl ?_ | refine J_aload_n0 X d_Mo_grow_58 rfl rfl ?_
            refine J_iload_n X d_Mo_grow_59 rfl rfl ?_
            refine J_callV X (hm) rfl (k_markFields (p := i) H (by omega) (hB i (by omega) hBi).1 (Bk_vok hB (by omega) hBi)) cd_Mo_markFields lk_Mo_66 vi_Mo_markFields (by decide) (by decide) (by decide) (by decide) rfl (by first | decide | simp [va_rf_cat, vc_r, vc_i, vc_0]) d_Mo_grow_60 (fun q w4 hq => ?_)
            obtain ⟨rfl, hw4⟩ := hq
            exact fin (by decide) (by decide) (hw4.trans (by rw [pasO, if_pos ⟨g1, g2⟩]))
  exact loop1 200 0 rfl
theorem clW_facts {ρ : Nat → Bool} (H : MS w m re th ol sz am fd rc nr ly lo) (ha : amok w am) : MS (clW w m th ol am rc ρ) m re th ol sz am fd rc nr ly lo ∧ amok (clW w m th ol am rc ρ) am ∧ (∀ p, wI (clW w m th ol am rc ρ) sz p = wI w sz p) ∧ (∀ p, fldL (clW w m th ol am rc ρ) fd sz p = fldL w fd sz p) ∧ regL (clW w m th ol am rc ρ) re nr = regL w re nr ∧ (∀ p, p < 200 → wI (clW w m th ol am rc ρ) th p = clT w th ol ρ p) ∧ (∀ p, wI (clW w m th ol am rc ρ) ol p = wI w ol p) ∧ (∀ p, p < 200 → wI (clW w m th ol am rc ρ) am p = clA w am ρ p) ∧ wI (clW w m th ol am rc ρ) m 11 = wI w m 11 ∧ wI (clW w m th ol am rc ρ) m 12 = wI w m 12 + 1 := by
  have hne := MS_ne H
  have H' := H
  obtain ⟨hm, -, -, ⟨h5, kt⟩, ⟨h6, ko⟩, ⟨h7, ks⟩, ⟨h8, ka⟩, -, ⟨h10, kr⟩, ⟨n1, n2, n3, n4⟩, -⟩ := H'
  obtain ⟨⟨e1, e2, e3, e4, e5, e6⟩, ⟨f1, f2, f3, f4, f5, f6, f7⟩, -⟩ := hne
  have bm : ∀ {b k : Nat}, b ≠ m → wI (uI (rcW w rc ρ) m 12 (wI w m 12 + 1)) b k = wI (rcW w rc ρ) b k := fun h => by rw [wI_uI, if_neg (fun q => h q.1)]
  have rsz : ∀ p, wI (clW w m th ol am rc ρ) sz p = wI w sz p := fun p => by
    rw [clW, aI_out (Or.inl (Ne.symm e1)), aI_out (Or.inl n4), bm (Ne.symm f3), rcW_no (Ne.symm e5)]
  have ram : ∀ p, p < 200 → wI (clW w m th ol am rc ρ) am p = clA w am ρ p := fun p hp => by
    rw [clW, aI_out (Or.inl (Ne.symm e2)), aI_in hp]
  refine ⟨MS_aI (t := 1) (z := 200) kt (MS_aI (t := 0) (z := 200) ka (MS_uI (Or.inr (by decide)) (MS_aI kr H))), fun p hp => ?_, rsz, fun p => ?_, rfl, fun p hp => by rw [clW, aI_in hp], fun p => ?_, ram, ?_, ?_⟩
  · rw [ram p hp]; exact cutA_ok (ha p hp)
  · rw [fldL, fldL, szN, szN, rsz]; rfl
  · rw [clW, aI_out (Or.inl (Ne.symm n1)), aI_out (Or.inl e4), bm (Ne.symm f2), rcW_no n3]
  · rw [clW, aI_out (Or.inl f1), aI_out (Or.inl f4), wI_uI, if_neg (by simp), rcW_no f5]
  · rw [clW, aI_out (Or.inl f1), aI_out (Or.inl f4), wI_uI, if_pos ⟨rfl, rfl⟩]
theorem Bk_congr {w' : Wd} (h1 : ∀ p, wI w' sz p = wI w sz p) (h2 : ∀ p, fldL w' fd sz p = fldL w fd sz p) (h : Bk w fd sz B) : Bk w' fd sz B := fun p hp hb => by
  rw [szok, h1, h2]; exact h p hp hb
theorem clT_ne {ρ : Nat → Bool} {p : Nat} (h : clT w th ol ρ p ≠ 0) : wI w th p ≠ 0 := by
  unfold clT at h
  split at h
  · exact absurd rfl h
  · exact h
set_option maxRecDepth 100000 in
theorem k_grow (H : MS w m re th ol sz am fd rc nr ly lo) (ha : amok w am) (hB : Bk w fd sz B) (hR : ReB w re nr B) (hO : OlB w th ol B) : Ct l y_Mo_grow h_Mo_grow (rmL 4 0 0) Δ [.ref m] w (fun q w' => ∃ w1, GrS w w1 m re th ol sz am fd rc nr lo ∧ GrE w1 m re th ol sz am fd rc nr lo q w') := by
  have H' := H
  obtain ⟨hm, ⟨-, -, hlo⟩, -⟩ := H'
  refine Ct_of (L := [some (.ref m), none, none]) (by decide) (by first | exact Nat.le_of_ble_eq_true rfl | simp [lg_sl, va_rf_cat, vc_r, vc_i, vc_0]) (by first | rfl | simp [lin, va_rf_cat, vc_r, vc_i, vc_0]) (fun Γ X => ?_)
  first | refine J_aload_nr X d_Mo_grow_0 rfl rfl ?_ | refine J_aload_n X d_Mo_grow_0 rfl rfl ?_ | refine J_aload_n0 X d_Mo_grow_0 rfl rfl ?_
  refine J_getI X (hm) fa_Mo_40_6 rfl (hlo) d_Mo_grow_1 ?_
  first | refine J_aload_nr X d_Mo_grow_4 rfl rfl ?_ | refine J_aload_n X d_Mo_grow_4 rfl rfl ?_ | refine J_aload_n0 X d_Mo_grow_4 rfl rfl ?_
  refine J_iconst (v := 1) X d_Mo_grow_5 (by decide) ?_
  refine J_callV X (hm) rfl (k_taken (b := 1) H) cd_Mo_taken lk_Mo_82 vi_Mo_taken (by decide) (by decide) (by decide) (by decide) rfl (by first | decide | simp [va_rf_cat, vc_r, vc_i, vc_0]) d_Mo_grow_6 (fun q w1 hq => ?_)
  obtain ⟨rfl, hw1⟩ := hq
  refine J_eq hw1 rfl ?_
  refine J_isub X d_Mo_grow_9 ?_
  first | refine J_aload_nr X d_Mo_grow_10 rfl rfl ?_ | refine J_aload_n X d_Mo_grow_10 rfl rfl ?_ | refine J_aload_n0 X d_Mo_grow_10 rfl rfl ?_
  refine J_iconst (v := 0) X d_Mo_grow_11 (by decide) ?_
  refine J_callV X (hm) rfl (k_taken (b := 0) H) cd_Mo_taken lk_Mo_82 vi_Mo_taken (by decide) (by decide) (by decide) (by decide) rfl (by first | decide | simp [va_rf_cat, vc_r, vc_i, vc_0]) d_Mo_grow_12 (fun q w1 hq => ?_)
  obtain ⟨rfl, hw1⟩ := hq
  refine J_eq hw1 rfl ?_
  refine J_icmp_ge (tgt := 23) X d_Mo_grow_15 (by decide) (fun g => ?_) (fun g => ?_)
  · refine J_widen (c2 := 0) (s2 := 0) (by decide) (by decide) ?_
    exact grow2 X H ha hB hR hO (fun q w' h => ⟨w, Or.inl ⟨Int32.not_lt.mpr g, rfl⟩, h⟩)
  · first | refine J_aload_nr X d_Mo_grow_18 rfl rfl ?_ | refine J_aload_n X d_Mo_grow_18 rfl rfl ?_ | refine J_aload_n0 X d_Mo_grow_18 rfl rfl ?_
    refine J_callV X (hm) rfl (k_clearOld H ha hB hR) cd_Mo_clearOld lk_Mo_86 vi_Mo_clearOld (by decide) (by decide) (by decide) (by decide) rfl (by first | decide | simp [va_rf_cat, vc_r, vc_i, vc_0]) d_Mo_grow_19 (fun q w2 hq => ?_)
    obtain ⟨ρ, hL, rfl, hw2⟩ := hq
    refine J_pop X d_Mo_grow_22 (rfl) ?_
    refine J_eq hw2 rfl ?_
    obtain ⟨c1, c2, c3, c4, c5, c6, c7, c8, -⟩ := clW_facts (ρ := ρ) H ha
    refine J_widen (c2 := 0) (s2 := 0) (by decide) (by decide) ?_
    exact grow2 X c1 c2 (Bk_congr c3 c4 hB) (by rw [ReB, c5]; exact hR) (fun p hp h1 h2 => hO p hp (by rw [c6 p hp] at h1; exact clT_ne h1) (by rw [c7] at h2; exact h2)) (fun q w' h => ⟨_, Or.inr ⟨Int32.not_le.mp g, ρ, hL, rfl⟩, h⟩)
set_option maxRecDepth 100000 in
theorem k_room {c : Int32} (H : MS w m re th ol sz am fd rc nr ly lo) (ha : amok w am) (hB : Bk w fd sz B) (hR : ReB w re nr B) (hO : OlB w th ol B) : Ct l y_Mo_room h_Mo_room (rmL 5 0 0) Δ [.ref m, .int c] w (fun q w' => ∃ z, q = some (.int z) ∧ RoE w m re th ol sz am fd rc nr ly lo c z w') := by
  have H' := H
  obtain ⟨hm, ⟨-, hly, -⟩, -⟩ := H'
  refine Ct_of (L := [some (.ref m), some (.int c)]) (by decide) (by first | exact Nat.le_of_ble_eq_true rfl | simp [lg_sl, va_rf_cat, vc_r, vc_i, vc_0]) (by first | rfl | simp [lin, va_rf_cat, vc_r, vc_i, vc_0]) (fun Γ X => ?_)
  first | refine J_aload_nr X d_Mo_room_0 rfl rfl ?_ | refine J_aload_n X d_Mo_room_0 rfl rfl ?_ | refine J_aload_n0 X d_Mo_room_0 rfl rfl ?_
  refine J_iconst (v := 0) X d_Mo_room_1 (by decide) ?_
  refine J_callV X (hm) rfl (k_taken (b := 0) H) cd_Mo_taken lk_Mo_82 vi_Mo_taken (by decide) (by decide) (by decide) (by decide) rfl (by first | decide | simp [va_rf_cat, vc_r, vc_i, vc_0]) d_Mo_room_2 (fun q w1 hq => ?_)
  obtain ⟨rfl, hw1⟩ := hq
  refine J_eq hw1 rfl ?_
  refine J_iload_n X d_Mo_room_5 rfl rfl ?_
  refine J_iadd X d_Mo_room_6 ?_
  first | refine J_aload_nr X d_Mo_room_7 rfl rfl ?_ | refine J_aload_n X d_Mo_room_7 rfl rfl ?_ | refine J_aload_n0 X d_Mo_room_7 rfl rfl ?_
  refine J_getI X (hm) fa_Mo_37_6 rfl (hly) d_Mo_room_8 ?_
  refine J_icmp_le (tgt := 21) X d_Mo_room_11 (by decide) (fun g => ?_) (fun g => ?_)
  · refine J_iconst (v := 1) X d_Mo_room_21 (by decide) ?_
    refine J_goto (tgt := 26) X d_Mo_room_22 (by decide) ?_
    exact J_zret X (Or.inr rfl) ⟨1, rfl, Or.inl ⟨g, rfl, rfl⟩⟩ (by decide) (by decide) d_Mo_room_26
  · first | refine J_aload_nr X d_Mo_room_14 rfl rfl ?_ | refine J_aload_n X d_Mo_room_14 rfl rfl ?_ | refine J_aload_n0 X d_Mo_room_14 rfl rfl ?_
    refine J_callV X (hm) rfl (k_grow H ha hB hR hO) cd_Mo_grow lk_Mo_95 vi_Mo_grow (by decide) (by decide) (by decide) (by decide) rfl (by first | decide | simp [va_rf_cat, vc_r, vc_i, vc_0]) d_Mo_room_15 (fun q w2 hq => ?_)
    obtain ⟨w3, hS, hE⟩ := hq
    have hq : ∃ v, q = some (.int v) := by
      obtain ⟨ρ, -, ⟨-, e, -⟩ | ⟨-, e, -⟩⟩ := hE
      · exact ⟨_, e⟩
      · exact ⟨_, e⟩
    obtain ⟨v, rfl⟩ := hq
    refine J_if_lt (tgt := 25) X d_Mo_room_18 (by decide) (fun g2 => ?_) (fun g2 => ?_)
    · refine J_iconst (v := 0) X d_Mo_room_25 (by decide) ?_
      exact J_zret X (Or.inl rfl) ⟨0, rfl, Or.inr ⟨g, v, by rw [if_pos g2], w3, hS, hE⟩⟩ (by decide) (by decide) d_Mo_room_26
    · refine J_iconst (v := 1) X d_Mo_room_21 (by decide) ?_
      refine J_goto (tgt := 26) X d_Mo_room_22 (by decide) ?_
      exact J_zret X (Or.inr rfl) ⟨1, rfl, Or.inr ⟨g, v, by rw [if_neg g2], w3, hS, hE⟩⟩ (by decide) (by decide) d_Mo_room_26
end GR
