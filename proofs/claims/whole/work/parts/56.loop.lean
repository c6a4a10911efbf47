/-! the law's loop -/
theorem and31 (a : Int32) : ∃ k, k < 32 ∧ a &&& 31 = nI k := by
  refine ⟨a.toBitVec.toNat % 32, Nat.mod_lt _ (by decide), ?_⟩
  apply Int32.toBitVec_inj.mp
  apply BitVec.eq_of_toNat_eq
  rw [Int32.toBitVec_and, BitVec.toNat_and, show (31 : Int32).toBitVec.toNat = 2 ^ 5 - 1 from by decide, Nat.and_two_pow_sub_one_eq_mod]
  show _ = (BitVec.ofNat 32 _).toNat
  rw [BitVec.toNat_ofNat]
  have := a.toBitVec.isLt
  omega
theorem lp_cond {N i : Nat} (hN : N < 2 ^ 30) (hi : i < 2 ^ 31) : nI N - 4 < nI i ↔ N < i + 4 := by
  rw [Int32.lt_iff_toInt_lt, show (4 : Int32) = nI 4 from rfl, pk_sub_toInt hN (by decide), nI_toInt hi]
  omega
section LL
variable {l : Launch} {Γ : Cxt} {Δ : Dat} {A : Nat → Prop} {w : Wd} {x rg nr yg ya ly og oa lo tr fa m re th ol sz am fd rc s N o i C S : Nat} {f : Nat → Int32} {Q : State → Prop}
set_option maxRecDepth 100000 in
theorem la_step (hfl : l.stackTraces = false) (X : LX l Γ Δ A) (HS : SC Γ A s N f) (K : KS w x rg nr yg ya ly og oa lo tr fa m re th ol sz am fd rc o) (hi : i + 3 < N) (hN : N < 2 ^ 31) (hC : C + 3 ≤ 601024) (hS : S + 21 ≤ 7293000) (kont : ∀ w', KS w' x rg nr yg ya ly og oa lo tr fa m re th ol sz am fd rc o → LJ Γ Δ A w' Q (C + 3) (S + 21) s x m o i 821) : LJ Γ Δ A w Q C S s x m o i 62 := by
  first | refine J_aload_nr X d_La_law_62 rfl rfl ?_ | refine J_aload_n X d_La_law_62 rfl rfl ?_ | refine J_aload_n0 X d_La_law_62 rfl rfl ?_
  refine J_iload X d_La_law_63 rfl ?_
  refine J_sald X HS (rfl) (by omega) hN d_La_law_65 ?_
  refine J_bipush (v := 31) X d_La_law_66 (by decide) ?_
  refine J_iand X d_La_law_68 ?_
  obtain ⟨k, hk, e⟩ := and31 (f i)
  refine J_top (v' := .int (nI k)) (by rw [e]) ?_
  rcases Nat.lt_or_ge k 18 with h | h
  · match k, h with
    | 0, _ => exact J_tableIn (off := 87) (tgt := 156) X d_La_law_69 (by decide) (by decide) (by decide) (by decide) (la_make hfl X HS K hi hN hC hS kont)
    | 1, _ => exact J_tableIn (off := 135) (tgt := 204) X d_La_law_69 (by decide) (by decide) (by decide) (by decide) (la_weak hfl X HS K hi hN hC hS kont)
    | 2, _ => exact J_tableIn (off := 183) (tgt := 252) X d_La_law_69 (by decide) (by decide) (by decide) (by decide) (la_load hfl X HS K hi hN hC hS kont)
    | 3, _ => exact J_tableIn (off := 243) (tgt := 312) X d_La_law_69 (by decide) (by decide) (by decide) (by decide) (la_store hfl X HS K hi hN hC hS kont)
    | 4, _ => exact J_tableIn (off := 303) (tgt := 372) X d_La_law_69 (by decide) (by decide) (by decide) (by decide) (la_target hfl X HS K hi hN hC hS kont)
    | 5, _ => exact J_tableIn (off := 351) (tgt := 420) X d_La_law_69 (by decide) (by decide) (by decide) (by decide) (la_number hfl X HS K hi hN hC hS kont)
    | 6, _ => exact J_tableIn (off := 399) (tgt := 468) X d_La_law_69 (by decide) (by decide) (by decide) (by decide) (la_clear hfl X HS K hi hN hC hS kont)
    | 7, _ => exact J_tableIn (off := 435) (tgt := 504) X d_La_law_69 (by decide) (by decide) (by decide) (by decide) (la_move hfl X HS K hi hN hC hS kont)
    | 8, _ => exact J_tableIn (off := 483) (tgt := 552) X d_La_law_69 (by decide) (by decide) (by decide) (by decide) (la_kind hfl X HS K hi hN hC hS kont)
    | 9, _ => exact J_tableIn (off := 508) (tgt := 577) X d_La_law_69 (by decide) (by decide) (by decide) (by decide) (la_value hfl X HS K hi hN hC hS kont)
    | 10, _ => exact J_tableIn (off := 533) (tgt := 602) X d_La_law_69 (by decide) (by decide) (by decide) (by decide) (la_fields hfl X HS K hi hN hC hS kont)
    | 11, _ => exact J_tableIn (off := 558) (tgt := 627) X d_La_law_69 (by decide) (by decide) (by decide) (by decide) (la_same hfl X HS K hi hN hC hS kont)
    | 12, _ => exact J_tableIn (off := 595) (tgt := 664) X d_La_law_69 (by decide) (by decide) (by decide) (by decide) (la_generation hfl X HS K hi hN hC hS kont)
    | 13, _ => exact J_tableIn (off := 620) (tgt := 689) X d_La_law_69 (by decide) (by decide) (by decide) (by decide) (la_reach hfl X HS K hi hN hC hS kont)
    | 14, _ => exact J_tableIn (off := 645) (tgt := 714) X d_La_law_69 (by decide) (by decide) (by decide) (by decide) (la_small hfl X HS K hi hN hC hS kont)
    | 15, _ => exact J_tableIn (off := 689) (tgt := 758) X d_La_law_69 (by decide) (by decide) (by decide) (by decide) (la_great hfl X HS K hi hN hC hS kont)
    | 16, _ => exact J_tableIn (off := 702) (tgt := 771) X d_La_law_69 (by decide) (by decide) (by decide) (by decide) (la_cells hfl X HS K hi hN hC hS kont)
    | 17, _ => exact J_tableIn (off := 727) (tgt := 796) X d_La_law_69 (by decide) (by decide) (by decide) (by decide) (la_collections hfl X HS K hi hN hC hS kont)
    | n + 18, h' => exact absurd h' (by omega)
  · exact J_tableOut (tgt := 821) X d_La_law_69 (Or.inr (by rw [nI_toInt (by omega)]; omega)) (by decide) (J_widen (c2 := C + 3) (s2 := S + 21) (Nat.le_add_right C 3) (Nat.le_add_right S 21) (kont w K))
set_option maxRecDepth 100000 in
theorem la_loop (hfl : l.stackTraces = false) (X : LX l Γ Δ A) (HS : SC Γ A s N f) (hN : N < 2 ^ 30) (hend : ∀ w' C' S' L', C' ≤ 601024 → S' ≤ 7293000 → J Γ Δ A 7 w' C' S' Q 828 L' [.int 1]) : ∀ (n i : Nat) (w : Wd) (C S : Nat), N < i + 4 * (n + 1) → i < 2 ^ 30 + 4 → C + 3 * n ≤ 601024 → S + 21 * n ≤ 7293000 → KS w x rg nr yg ya ly og oa lo tr fa m re th ol sz am fd rc o → LJ Γ Δ A w Q C S s x m o i 53 := by
  intro n
  induction n with
  | zero =>
    intro i w C S h1 h2 h3 h4 K
    refine J_iload X d_La_law_53 rfl ?_
    first | refine J_aload_nr X d_La_law_55 rfl rfl ?_ | refine J_aload_n X d_La_law_55 rfl rfl ?_ | refine J_aload_n0 X d_La_law_55 rfl rfl ?_
    refine J_slen X HS d_La_law_56 ?_
    refine J_iconst (v := 4) X d_La_law_57 (by decide) ?_
    refine J_isub X d_La_law_58 ?_
    refine J_icmp_gt (tgt := 827) X d_La_law_59 (by decide) (fun g => ?_) (fun g => ?_)
    · refine J_iconst (v := 1) X d_La_law_827 (by decide) ?_
      exact hend w C S _ (by omega) (by omega)
    · exact absurd ((lp_cond hN (by omega)).mpr (by omega)) g
  | succ n ih =>
    intro i w C S h1 h2 h3 h4 K
    refine J_iload X d_La_law_53 rfl ?_
    first | refine J_aload_nr X d_La_law_55 rfl rfl ?_ | refine J_aload_n X d_La_law_55 rfl rfl ?_ | refine J_aload_n0 X d_La_law_55 rfl rfl ?_
    refine J_slen X HS d_La_law_56 ?_
    refine J_iconst (v := 4) X d_La_law_57 (by decide) ?_
    refine J_isub X d_La_law_58 ?_
    refine J_icmp_gt (tgt := 827) X d_La_law_59 (by decide) (fun g => ?_) (fun g => ?_)
    · refine J_iconst (v := 1) X d_La_law_827 (by decide) ?_
      exact hend w C S _ (by omega) (by omega)
    · have hlt : i + 4 ≤ N := Nat.le_of_not_lt (fun q => g ((lp_cond hN (by omega)).mpr q))
      refine la_step hfl X HS K (by omega) (by omega) (by omega) (by omega) (fun w' K' => ?_)
      refine J_iinc X d_La_law_821 rfl (by decide) (by rw [show Int32.ofInt 4 = nI 4 from rfl, nI_add]) rfl ?_
      refine J_goto (tgt := 53) X d_La_law_824 (by decide) ?_
      exact ih (i + 4) w' (C + 3) (S + 21) (by omega) (by omega) (by omega) (by omega) K'
end LL
