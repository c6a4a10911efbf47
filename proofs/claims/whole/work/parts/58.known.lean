/-! what the tables say at the start -/
set_option maxRecDepth 100000 in
theorem SK_start {b : Nat} {s : State} (hts : ∀ w ∈ lw_tbl, w.before #[Value.ref b] s = true) (hgv : (Jvm.Cond.and given_1 narrow_1).before #[Value.ref b] s = true) : ∃ Δ : Dat, SK Δ (fun q => s.heap.size ≤ q) s s.heap := by
  have ht : ∀ x ∈ TT, x.before #[Value.ref b] s = true := fun x hx => hts x (List.mem_filter.mp hx).1
  have hs := flat_of_before _ hgv
  obtain ⟨c0, i0, k0⟩ := u_known (ws := TT) ht uw_TG (ht _ m_43)
  obtain ⟨c1, i1, k1⟩ := u_known (ws := TT) ht uw_Gen (ht _ m_56)
  obtain ⟨c2, i2, k2⟩ := u_known (ws := TT) ht uw_Tr (ht _ m_81)
  obtain ⟨c3, i3, k3⟩ := u_known (ws := TT) ht uw_Pl (ht _ m_298)
  obtain ⟨c4, i4, k4⟩ := u_known (ws := TT) ht uw_Wk (ht _ m_382)
  obtain ⟨c5, i5, k5⟩ := u_known (ws := TT) ht uw_Wh (ht _ m_436)
  obtain ⟨c6, i6, k6⟩ := u_known (ws := TT) ht uw_Mo (ht _ m_469)
  obtain ⟨a0, x0, y0, e0, f0, g0⟩ := Cond.arrayClass_spec (ht _ m_517)
  obtain ⟨a1, x1, y1, e1, f1, g1⟩ := Cond.arrayClass_spec (ht _ m_516)
  obtain ⟨a2, x2, y2, e2, f2, g2⟩ := Cond.arrayClass_spec (ht _ m_515)
  obtain ⟨p3, a3, x3, e3, -, f3, g3, h3⟩ := Cond.arrayOver_spec (ht _ m_54)
  obtain ⟨p4, a4, x4, e4, -, f4, g4, h4⟩ := Cond.arrayOver_spec (ht _ m_62)
  have str : ∀ (k : Nat) (tx : String), Cond.stringRef "TwoGenerations" k tx ∈ TT → (Cond.exactly (.string "TwoGenerations" k) "java/lang/String").before #[Value.ref b] s = true → ∃ a, vk_R "TwoGenerations" k tx a s := fun k tx h1 h2 => by
    obtain ⟨a, c, cell, kk, q, -⟩ := Cond.exactly_spec h2
    exact ⟨a, vk_R.of (ht _ h1) q⟩
  have hA : ∀ a : Nat, a < s.heap.size → ¬ s.heap.size ≤ a := fun a h => Nat.not_le.mpr h
  refine ⟨((fun c => match c with | 0 => c0 | 1 => c1 | 2 => c2 | 3 => c3 | 4 => c4 | 5 => c5 | _ => c6, fun c => match c with | 0 => i0 | 1 => i1 | 2 => i2 | 3 => i3 | 4 => i4 | 5 => i5 | _ => i6), fun t => match t with | 0 => a0 | 1 => a1 | 2 => a2 | 3 => a3 | _ => a4), ⟨fun c q hq => ?_, fun k q hq => ?_⟩, fun q hq => ?_, fun q hq => ?_, ?_, ?_⟩
  · match c, hq with
    | 0, hq => cases hq; exact k0
    | 1, hq => cases hq; exact k1
    | 2, hq => cases hq; exact k2
    | 3, hq => cases hq; exact k3
    | 4, hq => cases hq; exact k4
    | 5, hq => cases hq; exact k5
    | 6, hq => cases hq; exact k6
    | n + 7, hq => simp [vwCl] at hq
  · match k, hq with
    | 0, hq =>
      have hq : some (a0, FieldType.int) = some q := hq
      cases hq
      exact ⟨fun n z => ⟨fun k h => (by cases h), x0, f0, y0, g0⟩, e0⟩
    | 1, hq =>
      have hq : some (a1, FieldType.boolean) = some q := hq
      cases hq
      exact ⟨fun n z => ⟨fun k h => (by cases h), x1, f1, y1, g1⟩, e1⟩
    | 2, hq =>
      have hq : some (a2, FieldType.long) = some q := hq
      cases hq
      exact ⟨fun n z => ⟨fun k h => (by cases h), x2, f2, y2, g2⟩, e2⟩
    | 3, hq =>
      have hq : some (a3, FieldType.object "TwoGenerations$Value") = some q := hq
      cases hq
      exact ⟨fun n z => ⟨fun k h => (by cases h), x3, f3, p3, g3⟩, x3, p3, f3, g3, e3, h3⟩
    | 4, hq =>
      have hq : some (a4, FieldType.object "TwoGenerations$Thing") = some q := hq
      cases hq
      exact ⟨fun n z => ⟨fun k h => (by cases h), x4, f4, p4, g4⟩, x4, p4, f4, g4, e4, h4⟩
    | n + 5, hq =>
      have := (List.getElem?_eq_some_iff.mp hq).1
      simp [tysOf, nT] at this
      omega
  · simp only [ncL, List.mem_cons, List.not_mem_nil, or_false] at hq
    rcases hq with rfl | rfl | rfl | rfl | rfl | rfl | rfl | rfl
    · exact va_Nc.of (hs _ (by decide +kernel))
    · exact va_Nc.of (hs _ (by decide +kernel))
    · exact va_Nc.of (hs _ (by decide +kernel))
    · exact va_Nc.of (hs _ (by decide +kernel))
    · exact va_Nc.of (hs _ (by decide +kernel))
    · exact va_Nc.of (hs _ (by decide +kernel))
    · exact va_Nc.of (hs _ (by decide +kernel))
    · exact va_Nc.of (hs _ (by decide +kernel))
  · simp only [srL, List.mem_cons, List.not_mem_nil, or_false] at hq
    rcases hq with rfl | rfl | rfl | rfl | rfl | rfl | rfl
    · exact str _ _ m_271 (hs _ (by decide +kernel))
    · exact str _ _ m_365 (hs _ (by decide +kernel))
    · exact str _ _ m_380 (hs _ (by decide +kernel))
    · exact str _ _ m_406 (hs _ (by decide +kernel))
    · exact str _ _ m_425 (hs _ (by decide +kernel))
    · exact str _ _ m_435 (hs _ (by decide +kernel))
    · exact str _ _ m_453 (hs _ (by decide +kernel))
  · exact vx_Zqof (hts _ (List.mem_of_getElem? (i := 258) rfl)) (ht _ m_32) (hs _ (by decide +kernel)) hA
  · exact vx_Zqof (hts _ (List.mem_of_getElem? (i := 260) rfl)) (ht _ m_32) (hs _ (by decide +kernel)) hA
