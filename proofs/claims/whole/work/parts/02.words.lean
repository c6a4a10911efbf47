/-- words that stay true under warmer tables -/
def okW : Cond → Bool
  | .arrayClass _ => true
  | .arrayOver (.object _) => true
  | .stringRef .. => true
  | .castable .. => true
  | .declares _ => true
  | w => w.onTables && w.keepsH
def TT : List Cond := lw_tbl.filter okW
theorem okW_warm {w : Cond} (h : okW w = true) {args a' : Array Value} {s U : State} (hW : s.WarmedH U.vm) (hb : w.before args s = true) : w.before a' U = true := by
  have gen : (w.onTables && w.keepsH) = true → w.before a' U = true := fun g => by
    simp only [Bool.and_eq_true] at g
    have h1 := Cond.onTables_warmH (T := U) (args' := a') hW g.1 g.2 hb
    rwa [State.setVm_self] at h1
  cases w with
  | arrayClass t => exact word_at hW (Or.inr ⟨t, rfl⟩) hb
  | arrayOver t =>
    cases t with
    | object C => exact (va_AO.moved hW.alike (va_AO.of hb)).use
    | _ => exact gen h
  | stringRef a b c =>
    have h2 : (Cond.stringRef a b c).before #[] (s.setVm U.vm) = true := Cond.stringRef_warmed hW hb
    exact h2
  | castable a b => exact va_Nw.use rfl (va_Nw.warmC hW (va_Nw.of rfl hb))
  | declares y => exact va_Nw.use rfl (va_Nw.warmD hW (va_Nw.of rfl hb))
  | _ => exact gen h
theorem TT_warm : ∀ x ∈ TT, ∀ (args a' : Array Value) (s U : State), s.WarmedH U.vm → x.before args s = true → x.before a' U = true := fun _ hx _ _ _ _ hW hb => okW_warm (List.mem_filter.mp hx).2 hW hb
theorem TT_in {k : Nat} {x : Cond} (h : lw_tbl[k]? = some x) (ho : okW x = true) : x ∈ TT := List.mem_filter.mpr ⟨List.mem_of_getElem? h, ho⟩
set_option maxRecDepth 20000 in
theorem m_0 : Cond.selects "TwoGenerations" ⟨"TwoGenerations", "isRegister", "(I)Z"⟩ ⟨"TwoGenerations", "isRegister", "(I)Z"⟩ ∈ TT := TT_in (k := 0) rfl rfl
set_option maxRecDepth 20000 in
theorem m_1 : Cond.selects "TwoGenerations" ⟨"TwoGenerations", "heldIn", "(I)LTwoGenerations$Value;"⟩ ⟨"TwoGenerations", "heldIn", "(I)LTwoGenerations$Value;"⟩ ∈ TT := TT_in (k := 1) rfl rfl
set_option maxRecDepth 20000 in
theorem m_2 : Cond.selects "TwoGenerations" ⟨"TwoGenerations", "plainIn", "(I)LTwoGenerations$Plain;"⟩ ⟨"TwoGenerations", "plainIn", "(I)LTwoGenerations$Plain;"⟩ ∈ TT := TT_in (k := 2) rfl rfl
set_option maxRecDepth 20000 in
theorem m_3 : Cond.selects "TwoGenerations" ⟨"TwoGenerations", "thingIn", "(I)LTwoGenerations$Thing;"⟩ ⟨"TwoGenerations", "thingIn", "(I)LTwoGenerations$Thing;"⟩ ∈ TT := TT_in (k := 3) rfl rfl
set_option maxRecDepth 20000 in
theorem m_4 : Cond.selects "TwoGenerations" ⟨"TwoGenerations", "collectOld", "()I"⟩ ⟨"TwoGenerations", "collectOld", "()I"⟩ ∈ TT := TT_in (k := 4) rfl rfl
set_option maxRecDepth 20000 in
theorem m_5 : Cond.selects "TwoGenerations" ⟨"TwoGenerations", "findRegisters", "()V"⟩ ⟨"TwoGenerations", "findRegisters", "()V"⟩ ∈ TT := TT_in (k := 5) rfl rfl
set_option maxRecDepth 20000 in
theorem m_6 : Cond.selects "java/lang/Throwable" ⟨"java/lang/Throwable", "fillInStackTrace", "(I)Ljava/lang/Throwable;"⟩ ⟨"java/lang/Throwable", "fillInStackTrace", "(I)Ljava/lang/Throwable;"⟩ ∈ TT := TT_in (k := 6) rfl rfl
set_option maxRecDepth 20000 in
theorem m_7 : Cond.selects "TwoGenerations" ⟨"TwoGenerations", "bear", "(ILTwoGenerations$Thing;)V"⟩ ⟨"TwoGenerations", "bear", "(ILTwoGenerations$Thing;)V"⟩ ∈ TT := TT_in (k := 7) rfl rfl
set_option maxRecDepth 20000 in
theorem m_8 : Cond.selects "TwoGenerations" ⟨"TwoGenerations", "collectYoung", "()I"⟩ ⟨"TwoGenerations", "collectYoung", "()I"⟩ ∈ TT := TT_in (k := 8) rfl rfl
set_option maxRecDepth 20000 in
theorem m_9 : Cond.selects "TwoGenerations" ⟨"TwoGenerations", "weakIn", "(I)LTwoGenerations$Weak;"⟩ ⟨"TwoGenerations", "weakIn", "(I)LTwoGenerations$Weak;"⟩ ∈ TT := TT_in (k := 9) rfl rfl
set_option maxRecDepth 20000 in
theorem m_10 : Cond.selects "TwoGenerationsModel" ⟨"TwoGenerationsModel", "is", "(I)Z"⟩ ⟨"TwoGenerationsModel", "is", "(I)Z"⟩ ∈ TT := TT_in (k := 10) rfl rfl
set_option maxRecDepth 20000 in
theorem m_11 : Cond.selects "TwoGenerationsModel" ⟨"TwoGenerationsModel", "when", "(ZI)Z"⟩ ⟨"TwoGenerationsModel", "when", "(ZI)Z"⟩ ∈ TT := TT_in (k := 11) rfl rfl
set_option maxRecDepth 20000 in
theorem m_12 : Cond.selects "TwoGenerationsModel" ⟨"TwoGenerationsModel", "room", "(I)Z"⟩ ⟨"TwoGenerationsModel", "room", "(I)Z"⟩ ∈ TT := TT_in (k := 12) rfl rfl
set_option maxRecDepth 20000 in
theorem m_13 : Cond.selects "TwoGenerationsModel" ⟨"TwoGenerationsModel", "taken", "(Z)I"⟩ ⟨"TwoGenerationsModel", "taken", "(Z)I"⟩ ∈ TT := TT_in (k := 13) rfl rfl
set_option maxRecDepth 20000 in
theorem m_14 : Cond.selects "TwoGenerationsModel" ⟨"TwoGenerationsModel", "cellsOf", "(I)I"⟩ ⟨"TwoGenerationsModel", "cellsOf", "(I)I"⟩ ∈ TT := TT_in (k := 14) rfl rfl
set_option maxRecDepth 20000 in
theorem m_15 : Cond.selects "TwoGenerationsModel" ⟨"TwoGenerationsModel", "grow", "()I"⟩ ⟨"TwoGenerationsModel", "grow", "()I"⟩ ∈ TT := TT_in (k := 15) rfl rfl
set_option maxRecDepth 20000 in
theorem m_16 : Cond.selects "TwoGenerationsModel" ⟨"TwoGenerationsModel", "clearOld", "()I"⟩ ⟨"TwoGenerationsModel", "clearOld", "()I"⟩ ∈ TT := TT_in (k := 16) rfl rfl
set_option maxRecDepth 20000 in
theorem m_17 : Cond.selects "TwoGenerationsModel" ⟨"TwoGenerationsModel", "nothing", "()V"⟩ ⟨"TwoGenerationsModel", "nothing", "()V"⟩ ∈ TT := TT_in (k := 17) rfl rfl
set_option maxRecDepth 20000 in
theorem m_18 : Cond.selects "TwoGenerationsModel" ⟨"TwoGenerationsModel", "markRegisters", "()V"⟩ ⟨"TwoGenerationsModel", "markRegisters", "()V"⟩ ∈ TT := TT_in (k := 18) rfl rfl
set_option maxRecDepth 20000 in
theorem m_19 : Cond.selects "TwoGenerationsModel" ⟨"TwoGenerationsModel", "mark", "(J)V"⟩ ⟨"TwoGenerationsModel", "mark", "(J)V"⟩ ∈ TT := TT_in (k := 19) rfl rfl
set_option maxRecDepth 20000 in
theorem m_20 : Cond.selects "TwoGenerationsModel" ⟨"TwoGenerationsModel", "spread", "()V"⟩ ⟨"TwoGenerationsModel", "spread", "()V"⟩ ∈ TT := TT_in (k := 20) rfl rfl
set_option maxRecDepth 20000 in
theorem m_21 : Cond.selects "TwoGenerationsModel" ⟨"TwoGenerationsModel", "marked", "()I"⟩ ⟨"TwoGenerationsModel", "marked", "()I"⟩ ∈ TT := TT_in (k := 21) rfl rfl
set_option maxRecDepth 20000 in
theorem m_22 : Cond.selects "TwoGenerationsModel" ⟨"TwoGenerationsModel", "markFields", "(I)V"⟩ ⟨"TwoGenerationsModel", "markFields", "(I)V"⟩ ∈ TT := TT_in (k := 22) rfl rfl
set_option maxRecDepth 20000 in
theorem m_23 : Cond.selects "TwoGenerationsModel" ⟨"TwoGenerationsModel", "tellWeak", "()V"⟩ ⟨"TwoGenerationsModel", "tellWeak", "()V"⟩ ∈ TT := TT_in (k := 23) rfl rfl
set_option maxRecDepth 20000 in
theorem m_24 : Cond.selects "TwoGenerationsModel" ⟨"TwoGenerationsModel", "born", "(III)V"⟩ ⟨"TwoGenerationsModel", "born", "(III)V"⟩ ∈ TT := TT_in (k := 24) rfl rfl
set_option maxRecDepth 20000 in
theorem m_25 : Cond.selects "TwoGenerationsModel" ⟨"TwoGenerationsModel", "placeIn", "(I)I"⟩ ⟨"TwoGenerationsModel", "placeIn", "(I)I"⟩ ∈ TT := TT_in (k := 25) rfl rfl
set_option maxRecDepth 20000 in
theorem m_26 : Cond.selects "TwoGenerationsModel" ⟨"TwoGenerationsModel", "hasField", "(II)Z"⟩ ⟨"TwoGenerationsModel", "hasField", "(II)Z"⟩ ∈ TT := TT_in (k := 26) rfl rfl
set_option maxRecDepth 20000 in
theorem m_27 : Jvm.Cond.initialized "TwoGenerationsLaw" ∈ TT := TT_in (k := 27) rfl rfl
set_option maxRecDepth 20000 in
theorem m_28 : Jvm.Cond.initialized "TwoGenerations" ∈ TT := TT_in (k := 28) rfl rfl
set_option maxRecDepth 20000 in
theorem m_29 : Jvm.Cond.initialized "TwoGenerations$Generation" ∈ TT := TT_in (k := 29) rfl rfl
set_option maxRecDepth 20000 in
theorem m_30 : Jvm.Cond.initialized "TwoGenerations$Trace" ∈ TT := TT_in (k := 30) rfl rfl
set_option maxRecDepth 20000 in
theorem m_31 : Jvm.Cond.initialized "TwoGenerationsModel" ∈ TT := TT_in (k := 31) rfl rfl
set_option maxRecDepth 20000 in
theorem m_32 : Jvm.Cond.initialized "java/lang/Throwable" ∈ TT := TT_in (k := 32) rfl rfl
set_option maxRecDepth 20000 in
theorem m_33 : Jvm.Cond.initialized "java/lang/Exception" ∈ TT := TT_in (k := 33) rfl rfl
set_option maxRecDepth 20000 in
theorem m_34 : Jvm.Cond.initialized "java/lang/RuntimeException" ∈ TT := TT_in (k := 34) rfl rfl
set_option maxRecDepth 20000 in
theorem m_35 : Jvm.Cond.initialized "java/lang/IllegalArgumentException" ∈ TT := TT_in (k := 35) rfl rfl
set_option maxRecDepth 20000 in
theorem m_36 : Jvm.Cond.initialized "TwoGenerations$Value" ∈ TT := TT_in (k := 36) rfl rfl
set_option maxRecDepth 20000 in
theorem m_37 : Jvm.Cond.initialized "TwoGenerations$Thing" ∈ TT := TT_in (k := 37) rfl rfl
set_option maxRecDepth 20000 in
theorem m_38 : Jvm.Cond.initialized "TwoGenerations$Plain" ∈ TT := TT_in (k := 38) rfl rfl
set_option maxRecDepth 20000 in
theorem m_39 : Jvm.Cond.initialized "java/lang/IllegalStateException" ∈ TT := TT_in (k := 39) rfl rfl
set_option maxRecDepth 20000 in
theorem m_40 : Jvm.Cond.initialized "TwoGenerations$Weak" ∈ TT := TT_in (k := 40) rfl rfl
set_option maxRecDepth 20000 in
theorem m_41 : Jvm.Cond.initialized "TwoGenerations$Whole" ∈ TT := TT_in (k := 41) rfl rfl
set_option maxRecDepth 20000 in
theorem m_42 : Jvm.Cond.classLink "TwoGenerationsLaw" (8 : Nat) "TwoGenerations" ∈ TT := TT_in (k := 42) rfl rfl
set_option maxRecDepth 20000 in
theorem m_43 : Jvm.Cond.instantiable "TwoGenerations" (6 : Nat) ∈ TT := TT_in (k := 43) rfl rfl
set_option maxRecDepth 20000 in
theorem m_44 : Jvm.Cond.methodLink "TwoGenerationsLaw" (50 : Nat) ({ cls := "TwoGenerations", name := "<init>", desc := "(III)V" } : Jvm.MethodName) ∈ TT := TT_in (k := 44) rfl rfl
set_option maxRecDepth 20000 in
theorem m_45 : Jvm.Cond.instanceMethod ({ cls := "TwoGenerations", name := "<init>", desc := "(III)V" } : Jvm.MethodName) ∈ TT := TT_in (k := 45) rfl rfl
set_option maxRecDepth 20000 in
theorem m_46 : Jvm.Cond.code ({ cls := "TwoGenerations", name := "<init>", desc := "(III)V" } : Jvm.MethodName) prog_1_method_1_code (4 : Nat) (Option.none : Option Jvm.ClassFile.FieldType) ∈ TT := TT_in (k := 46) rfl rfl
set_option maxRecDepth 20000 in
theorem m_47 : Jvm.Cond.methodLink "TwoGenerations" (1 : Nat) ({ cls := "java/lang/Object", name := "<init>", desc := "()V" } : Jvm.MethodName) ∈ TT := TT_in (k := 47) rfl rfl
set_option maxRecDepth 20000 in
theorem m_48 : Jvm.Cond.instanceMethod ({ cls := "java/lang/Object", name := "<init>", desc := "()V" } : Jvm.MethodName) ∈ TT := TT_in (k := 48) rfl rfl
set_option maxRecDepth 20000 in
theorem m_49 : Jvm.Cond.code ({ cls := "java/lang/Object", name := "<init>", desc := "()V" } : Jvm.MethodName) object_method_1_code (1 : Nat) (Option.none : Option Jvm.ClassFile.FieldType) ∈ TT := TT_in (k := 49) rfl rfl
set_option maxRecDepth 20000 in
theorem m_50 : Jvm.Cond.methodLink "TwoGenerations" (7 : Nat) ({ cls := "TwoGenerations", name := "within", desc := "(III)Z" } : Jvm.MethodName) ∈ TT := TT_in (k := 50) rfl rfl
set_option maxRecDepth 20000 in
theorem m_51 : Jvm.Cond.static ({ cls := "TwoGenerations", name := "within", desc := "(III)Z" } : Jvm.MethodName) ∈ TT := TT_in (k := 51) rfl rfl
set_option maxRecDepth 20000 in
theorem m_52 : Jvm.Cond.code ({ cls := "TwoGenerations", name := "within", desc := "(III)Z" } : Jvm.MethodName) prog_1_method_20_code (3 : Nat) (Option.some Jvm.ClassFile.FieldType.boolean) ∈ TT := TT_in (k := 52) rfl rfl
set_option maxRecDepth 20000 in
theorem m_53 : Jvm.Cond.classLink "TwoGenerations" (13 : Nat) "TwoGenerations$Value" ∈ TT := TT_in (k := 53) rfl rfl
set_option maxRecDepth 20000 in
theorem m_54 : Jvm.Cond.arrayOver (Jvm.ClassFile.FieldType.object "TwoGenerations$Value") ∈ TT := TT_in (k := 54) rfl rfl
set_option maxRecDepth 20000 in
theorem m_55 : Jvm.Cond.classLink "TwoGenerations" (19 : Nat) "TwoGenerations$Generation" ∈ TT := TT_in (k := 55) rfl rfl
set_option maxRecDepth 20000 in
theorem m_56 : Jvm.Cond.instantiable "TwoGenerations$Generation" (4 : Nat) ∈ TT := TT_in (k := 56) rfl rfl
set_option maxRecDepth 20000 in
theorem m_57 : Jvm.Cond.methodLink "TwoGenerations" (21 : Nat) ({ cls := "TwoGenerations$Generation", name := "<init>", desc := "(I)V" } : Jvm.MethodName) ∈ TT := TT_in (k := 57) rfl rfl
set_option maxRecDepth 20000 in
theorem m_58 : Jvm.Cond.instanceMethod ({ cls := "TwoGenerations$Generation", name := "<init>", desc := "(I)V" } : Jvm.MethodName) ∈ TT := TT_in (k := 58) rfl rfl
set_option maxRecDepth 20000 in
theorem m_59 : Jvm.Cond.code ({ cls := "TwoGenerations$Generation", name := "<init>", desc := "(I)V" } : Jvm.MethodName) prog_2_method_1_code (2 : Nat) (Option.none : Option Jvm.ClassFile.FieldType) ∈ TT := TT_in (k := 59) rfl rfl
set_option maxRecDepth 20000 in
theorem m_60 : Jvm.Cond.methodLink "TwoGenerations$Generation" (1 : Nat) ({ cls := "java/lang/Object", name := "<init>", desc := "()V" } : Jvm.MethodName) ∈ TT := TT_in (k := 60) rfl rfl
set_option maxRecDepth 20000 in
theorem m_61 : Jvm.Cond.classLink "TwoGenerations$Generation" (13 : Nat) "TwoGenerations$Thing" ∈ TT := TT_in (k := 61) rfl rfl
set_option maxRecDepth 20000 in
theorem m_62 : Jvm.Cond.arrayOver (Jvm.ClassFile.FieldType.object "TwoGenerations$Thing") ∈ TT := TT_in (k := 62) rfl rfl
set_option maxRecDepth 20000 in
theorem m_63 : Jvm.Cond.fieldLink "TwoGenerations$Generation" (7 : Nat) "TwoGenerations$Generation" "limit" "I" ∈ TT := TT_in (k := 63) rfl rfl
set_option maxRecDepth 20000 in
theorem m_64 : Jvm.Cond.fieldLink "TwoGenerations" (33 : Nat) "TwoGenerations$Generation" "limit" "I" ∈ TT := TT_in (k := 64) rfl rfl
set_option maxRecDepth 20000 in
theorem m_65 : Jvm.Cond.fieldLink "TwoGenerations$Generation" (15 : Nat) "TwoGenerations$Generation" "things" "[LTwoGenerations$Thing;" ∈ TT := TT_in (k := 65) rfl rfl
set_option maxRecDepth 20000 in
theorem m_66 : Jvm.Cond.fieldLink "TwoGenerations$Trace" (32 : Nat) "TwoGenerations$Generation" "things" "[LTwoGenerations$Thing;" ∈ TT := TT_in (k := 66) rfl rfl
set_option maxRecDepth 20000 in
theorem m_67 : Jvm.Cond.fieldLink "TwoGenerations$Generation" (22 : Nat) "TwoGenerations$Generation" "count" "I" ∈ TT := TT_in (k := 67) rfl rfl
set_option maxRecDepth 20000 in
theorem m_68 : Jvm.Cond.fieldLink "TwoGenerations$Trace" (29 : Nat) "TwoGenerations$Generation" "count" "I" ∈ TT := TT_in (k := 68) rfl rfl
set_option maxRecDepth 20000 in
theorem m_69 : Jvm.Cond.fieldLink "TwoGenerations$Generation" (19 : Nat) "TwoGenerations$Generation" "taken" "I" ∈ TT := TT_in (k := 69) rfl rfl
set_option maxRecDepth 20000 in
theorem m_70 : Jvm.Cond.fieldLink "TwoGenerations" (140 : Nat) "TwoGenerations$Generation" "taken" "I" ∈ TT := TT_in (k := 70) rfl rfl
set_option maxRecDepth 20000 in
theorem m_71 : Jvm.Cond.laysFinal "TwoGenerations$Generation" "TwoGenerations$Generation" "limit" "I" ∈ TT := TT_in (k := 71) rfl rfl
set_option maxRecDepth 20000 in
theorem m_72 : Jvm.Cond.soleField "TwoGenerations$Generation" "limit" ∈ TT := TT_in (k := 72) rfl rfl
set_option maxRecDepth 20000 in
theorem m_73 : Jvm.Cond.laysFinal "TwoGenerations$Generation" "TwoGenerations$Generation" "things" "[LTwoGenerations$Thing;" ∈ TT := TT_in (k := 73) rfl rfl
set_option maxRecDepth 20000 in
theorem m_74 : Jvm.Cond.soleField "TwoGenerations$Generation" "things" ∈ TT := TT_in (k := 74) rfl rfl
set_option maxRecDepth 20000 in
theorem m_75 : Jvm.Cond.lays "TwoGenerations$Generation" "TwoGenerations$Generation" "count" "I" ∈ TT := TT_in (k := 75) rfl rfl
set_option maxRecDepth 20000 in
theorem m_76 : Jvm.Cond.soleField "TwoGenerations$Generation" "count" ∈ TT := TT_in (k := 76) rfl rfl
set_option maxRecDepth 20000 in
theorem m_77 : Jvm.Cond.lays "TwoGenerations$Generation" "TwoGenerations$Generation" "taken" "I" ∈ TT := TT_in (k := 77) rfl rfl
set_option maxRecDepth 20000 in
theorem m_78 : Jvm.Cond.soleField "TwoGenerations$Generation" "taken" ∈ TT := TT_in (k := 78) rfl rfl
set_option maxRecDepth 20000 in
theorem m_79 : Jvm.Cond.superclass "TwoGenerations$Generation" "java/lang/Object" ∈ TT := TT_in (k := 79) rfl rfl
set_option maxRecDepth 20000 in
theorem m_80 : Jvm.Cond.classLink "TwoGenerations" (31 : Nat) "TwoGenerations$Trace" ∈ TT := TT_in (k := 80) rfl rfl
set_option maxRecDepth 20000 in
theorem m_81 : Jvm.Cond.instantiable "TwoGenerations$Trace" (3 : Nat) ∈ TT := TT_in (k := 81) rfl rfl
set_option maxRecDepth 20000 in
theorem m_82 : Jvm.Cond.methodLink "TwoGenerations" (37 : Nat) ({ cls := "TwoGenerations$Trace", name := "<init>", desc := "(I)V" } : Jvm.MethodName) ∈ TT := TT_in (k := 82) rfl rfl
set_option maxRecDepth 20000 in
theorem m_83 : Jvm.Cond.instanceMethod ({ cls := "TwoGenerations$Trace", name := "<init>", desc := "(I)V" } : Jvm.MethodName) ∈ TT := TT_in (k := 83) rfl rfl
set_option maxRecDepth 20000 in
theorem m_84 : Jvm.Cond.code ({ cls := "TwoGenerations$Trace", name := "<init>", desc := "(I)V" } : Jvm.MethodName) prog_5_method_1_code (2 : Nat) (Option.none : Option Jvm.ClassFile.FieldType) ∈ TT := TT_in (k := 84) rfl rfl
set_option maxRecDepth 20000 in
theorem m_85 : Jvm.Cond.methodLink "TwoGenerations$Trace" (1 : Nat) ({ cls := "java/lang/Object", name := "<init>", desc := "()V" } : Jvm.MethodName) ∈ TT := TT_in (k := 85) rfl rfl
set_option maxRecDepth 20000 in
theorem m_86 : Jvm.Cond.classLink "TwoGenerations$Trace" (7 : Nat) "TwoGenerations$Thing" ∈ TT := TT_in (k := 86) rfl rfl
set_option maxRecDepth 20000 in
theorem m_87 : Jvm.Cond.fieldLink "TwoGenerations$Trace" (9 : Nat) "TwoGenerations$Trace" "found" "[LTwoGenerations$Thing;" ∈ TT := TT_in (k := 87) rfl rfl
set_option maxRecDepth 20000 in
theorem m_88 : Jvm.Cond.fieldLink "TwoGenerations$Trace" (15 : Nat) "TwoGenerations$Trace" "count" "I" ∈ TT := TT_in (k := 88) rfl rfl
set_option maxRecDepth 20000 in
theorem m_89 : Jvm.Cond.fieldLink "TwoGenerations$Trace" (23 : Nat) "TwoGenerations$Trace" "cells" "I" ∈ TT := TT_in (k := 89) rfl rfl
set_option maxRecDepth 20000 in
theorem m_90 : Jvm.Cond.fieldLink "TwoGenerations" (125 : Nat) "TwoGenerations$Trace" "cells" "I" ∈ TT := TT_in (k := 90) rfl rfl
set_option maxRecDepth 20000 in
theorem m_91 : Jvm.Cond.laysFinal "TwoGenerations$Trace" "TwoGenerations$Trace" "found" "[LTwoGenerations$Thing;" ∈ TT := TT_in (k := 91) rfl rfl
set_option maxRecDepth 20000 in
theorem m_92 : Jvm.Cond.soleField "TwoGenerations$Trace" "found" ∈ TT := TT_in (k := 92) rfl rfl
set_option maxRecDepth 20000 in
theorem m_93 : Jvm.Cond.lays "TwoGenerations$Trace" "TwoGenerations$Trace" "count" "I" ∈ TT := TT_in (k := 93) rfl rfl
set_option maxRecDepth 20000 in
theorem m_94 : Jvm.Cond.soleField "TwoGenerations$Trace" "count" ∈ TT := TT_in (k := 94) rfl rfl
set_option maxRecDepth 20000 in
theorem m_95 : Jvm.Cond.lays "TwoGenerations$Trace" "TwoGenerations$Trace" "cells" "I" ∈ TT := TT_in (k := 95) rfl rfl
set_option maxRecDepth 20000 in
theorem m_96 : Jvm.Cond.soleField "TwoGenerations$Trace" "cells" ∈ TT := TT_in (k := 96) rfl rfl
set_option maxRecDepth 20000 in
theorem m_97 : Jvm.Cond.superclass "TwoGenerations$Trace" "java/lang/Object" ∈ TT := TT_in (k := 97) rfl rfl
set_option maxRecDepth 20000 in
theorem m_98 : Jvm.Cond.fieldLink "TwoGenerations" (15 : Nat) "TwoGenerations" "registers" "[LTwoGenerations$Value;" ∈ TT := TT_in (k := 98) rfl rfl
set_option maxRecDepth 20000 in
theorem m_99 : Jvm.Cond.fieldLink "TwoGenerations" (24 : Nat) "TwoGenerations" "young" "LTwoGenerations$Generation;" ∈ TT := TT_in (k := 99) rfl rfl
set_option maxRecDepth 20000 in
theorem m_100 : Jvm.Cond.fieldLink "TwoGenerations" (28 : Nat) "TwoGenerations" "old" "LTwoGenerations$Generation;" ∈ TT := TT_in (k := 100) rfl rfl
set_option maxRecDepth 20000 in
theorem m_101 : Jvm.Cond.fieldLink "TwoGenerations" (38 : Nat) "TwoGenerations" "trace" "LTwoGenerations$Trace;" ∈ TT := TT_in (k := 101) rfl rfl
set_option maxRecDepth 20000 in
theorem m_102 : Jvm.Cond.fieldLink "TwoGenerations" (143 : Nat) "TwoGenerations" "smallCollections" "I" ∈ TT := TT_in (k := 102) rfl rfl
set_option maxRecDepth 20000 in
theorem m_103 : Jvm.Cond.fieldLink "TwoGenerations" (146 : Nat) "TwoGenerations" "greatCollections" "I" ∈ TT := TT_in (k := 103) rfl rfl
set_option maxRecDepth 20000 in
theorem m_104 : Jvm.Cond.laysFinal "TwoGenerations" "TwoGenerations" "registers" "[LTwoGenerations$Value;" ∈ TT := TT_in (k := 104) rfl rfl
set_option maxRecDepth 20000 in
theorem m_105 : Jvm.Cond.soleField "TwoGenerations" "registers" ∈ TT := TT_in (k := 105) rfl rfl
set_option maxRecDepth 20000 in
theorem m_106 : Jvm.Cond.laysFinal "TwoGenerations" "TwoGenerations" "young" "LTwoGenerations$Generation;" ∈ TT := TT_in (k := 106) rfl rfl
set_option maxRecDepth 20000 in
theorem m_107 : Jvm.Cond.soleField "TwoGenerations" "young" ∈ TT := TT_in (k := 107) rfl rfl
set_option maxRecDepth 20000 in
theorem m_108 : Jvm.Cond.laysFinal "TwoGenerations" "TwoGenerations" "old" "LTwoGenerations$Generation;" ∈ TT := TT_in (k := 108) rfl rfl
set_option maxRecDepth 20000 in
theorem m_109 : Jvm.Cond.soleField "TwoGenerations" "old" ∈ TT := TT_in (k := 109) rfl rfl
set_option maxRecDepth 20000 in
theorem m_110 : Jvm.Cond.laysFinal "TwoGenerations" "TwoGenerations" "trace" "LTwoGenerations$Trace;" ∈ TT := TT_in (k := 110) rfl rfl
set_option maxRecDepth 20000 in
theorem m_111 : Jvm.Cond.soleField "TwoGenerations" "trace" ∈ TT := TT_in (k := 111) rfl rfl
set_option maxRecDepth 20000 in
theorem m_112 : Jvm.Cond.lays "TwoGenerations" "TwoGenerations" "smallCollections" "I" ∈ TT := TT_in (k := 112) rfl rfl
set_option maxRecDepth 20000 in
theorem m_113 : Jvm.Cond.soleField "TwoGenerations" "smallCollections" ∈ TT := TT_in (k := 113) rfl rfl
set_option maxRecDepth 20000 in
theorem m_114 : Jvm.Cond.lays "TwoGenerations" "TwoGenerations" "greatCollections" "I" ∈ TT := TT_in (k := 114) rfl rfl
set_option maxRecDepth 20000 in
theorem m_115 : Jvm.Cond.soleField "TwoGenerations" "greatCollections" ∈ TT := TT_in (k := 115) rfl rfl
set_option maxRecDepth 20000 in
theorem m_116 : Jvm.Cond.superclass "TwoGenerations" "java/lang/Object" ∈ TT := TT_in (k := 116) rfl rfl
set_option maxRecDepth 20000 in
theorem m_117 : Jvm.Cond.methodLink "TwoGenerationsLaw" (85 : Nat) ({ cls := "TwoGenerations", name := "kind", desc := "(I)I" } : Jvm.MethodName) ∈ TT := TT_in (k := 117) rfl rfl
set_option maxRecDepth 20000 in
theorem m_118 : Jvm.Cond.instanceMethod ({ cls := "TwoGenerations", name := "kind", desc := "(I)I" } : Jvm.MethodName) ∈ TT := TT_in (k := 118) rfl rfl
set_option maxRecDepth 20000 in
theorem m_119 : Jvm.Cond.selects "TwoGenerations" ({ cls := "TwoGenerations", name := "kind", desc := "(I)I" } : Jvm.MethodName) ({ cls := "TwoGenerations", name := "kind", desc := "(I)I" } : Jvm.MethodName) ∈ TT := TT_in (k := 119) rfl rfl
set_option maxRecDepth 20000 in
theorem m_120 : Jvm.Cond.code ({ cls := "TwoGenerations", name := "kind", desc := "(I)I" } : Jvm.MethodName) prog_1_method_10_code (3 : Nat) (Option.some Jvm.ClassFile.FieldType.int) ∈ TT := TT_in (k := 120) rfl rfl
set_option maxRecDepth 20000 in
theorem m_121 : Jvm.Cond.methodLink "TwoGenerations" (42 : Nat) ({ cls := "TwoGenerations", name := "isRegister", desc := "(I)Z" } : Jvm.MethodName) ∈ TT := TT_in (k := 121) rfl rfl
set_option maxRecDepth 20000 in
theorem m_123 : Jvm.Cond.instanceMethod ({ cls := "TwoGenerations", name := "isRegister", desc := "(I)Z" } : Jvm.MethodName) ∈ TT := TT_in (k := 123) rfl rfl
set_option maxRecDepth 20000 in
theorem m_124 : Jvm.Cond.code ({ cls := "TwoGenerations", name := "isRegister", desc := "(I)Z" } : Jvm.MethodName) prog_1_method_21_code (2 : Nat) (Option.some Jvm.ClassFile.FieldType.boolean) ∈ TT := TT_in (k := 124) rfl rfl
set_option maxRecDepth 20000 in
theorem m_125 : Jvm.Cond.classLink "TwoGenerations" (97 : Nat) "TwoGenerations$Whole" ∈ TT := TT_in (k := 125) rfl rfl
set_option maxRecDepth 20000 in
theorem m_126 : Jvm.Cond.classLink "TwoGenerations" (53 : Nat) "TwoGenerations$Plain" ∈ TT := TT_in (k := 126) rfl rfl
set_option maxRecDepth 20000 in
theorem m_127 : Jvm.Cond.methodLink "TwoGenerationsLaw" (90 : Nat) ({ cls := "TwoGenerations", name := "value", desc := "(I)I" } : Jvm.MethodName) ∈ TT := TT_in (k := 127) rfl rfl
set_option maxRecDepth 20000 in
theorem m_128 : Jvm.Cond.instanceMethod ({ cls := "TwoGenerations", name := "value", desc := "(I)I" } : Jvm.MethodName) ∈ TT := TT_in (k := 128) rfl rfl
set_option maxRecDepth 20000 in
theorem m_129 : Jvm.Cond.selects "TwoGenerations" ({ cls := "TwoGenerations", name := "value", desc := "(I)I" } : Jvm.MethodName) ({ cls := "TwoGenerations", name := "value", desc := "(I)I" } : Jvm.MethodName) ∈ TT := TT_in (k := 129) rfl rfl
set_option maxRecDepth 20000 in
theorem m_130 : Jvm.Cond.code ({ cls := "TwoGenerations", name := "value", desc := "(I)I" } : Jvm.MethodName) prog_1_method_11_code (4 : Nat) (Option.some Jvm.ClassFile.FieldType.int) ∈ TT := TT_in (k := 130) rfl rfl
set_option maxRecDepth 20000 in
theorem m_131 : Jvm.Cond.methodLink "TwoGenerations" (102 : Nat) ({ cls := "TwoGenerations", name := "heldIn", desc := "(I)LTwoGenerations$Value;" } : Jvm.MethodName) ∈ TT := TT_in (k := 131) rfl rfl
set_option maxRecDepth 20000 in
theorem m_133 : Jvm.Cond.instanceMethod ({ cls := "TwoGenerations", name := "heldIn", desc := "(I)LTwoGenerations$Value;" } : Jvm.MethodName) ∈ TT := TT_in (k := 133) rfl rfl
set_option maxRecDepth 20000 in
theorem m_134 : Jvm.Cond.code ({ cls := "TwoGenerations", name := "heldIn", desc := "(I)LTwoGenerations$Value;" } : Jvm.MethodName) prog_1_method_22_code (2 : Nat) (Option.some (Jvm.ClassFile.FieldType.object "TwoGenerations$Value")) ∈ TT := TT_in (k := 134) rfl rfl
set_option maxRecDepth 20000 in
theorem m_135 : Jvm.Cond.methodLink "TwoGenerationsLaw" (94 : Nat) ({ cls := "TwoGenerations", name := "fields", desc := "(I)I" } : Jvm.MethodName) ∈ TT := TT_in (k := 135) rfl rfl
set_option maxRecDepth 20000 in
theorem m_136 : Jvm.Cond.instanceMethod ({ cls := "TwoGenerations", name := "fields", desc := "(I)I" } : Jvm.MethodName) ∈ TT := TT_in (k := 136) rfl rfl
set_option maxRecDepth 20000 in
theorem m_137 : Jvm.Cond.selects "TwoGenerations" ({ cls := "TwoGenerations", name := "fields", desc := "(I)I" } : Jvm.MethodName) ({ cls := "TwoGenerations", name := "fields", desc := "(I)I" } : Jvm.MethodName) ∈ TT := TT_in (k := 137) rfl rfl
set_option maxRecDepth 20000 in
theorem m_138 : Jvm.Cond.code ({ cls := "TwoGenerations", name := "fields", desc := "(I)I" } : Jvm.MethodName) prog_1_method_12_code (3 : Nat) (Option.some Jvm.ClassFile.FieldType.int) ∈ TT := TT_in (k := 138) rfl rfl
set_option maxRecDepth 20000 in
theorem m_139 : Jvm.Cond.methodLink "TwoGenerations" (71 : Nat) ({ cls := "TwoGenerations", name := "plainIn", desc := "(I)LTwoGenerations$Plain;" } : Jvm.MethodName) ∈ TT := TT_in (k := 139) rfl rfl
set_option maxRecDepth 20000 in
theorem m_141 : Jvm.Cond.instanceMethod ({ cls := "TwoGenerations", name := "plainIn", desc := "(I)LTwoGenerations$Plain;" } : Jvm.MethodName) ∈ TT := TT_in (k := 141) rfl rfl
set_option maxRecDepth 20000 in
theorem m_142 : Jvm.Cond.code ({ cls := "TwoGenerations", name := "plainIn", desc := "(I)LTwoGenerations$Plain;" } : Jvm.MethodName) prog_1_method_24_code (4 : Nat) (Option.some (Jvm.ClassFile.FieldType.object "TwoGenerations$Plain")) ∈ TT := TT_in (k := 142) rfl rfl
set_option maxRecDepth 20000 in
theorem m_143 : Jvm.Cond.methodLink "TwoGenerationsLaw" (98 : Nat) ({ cls := "TwoGenerations", name := "same", desc := "(II)Z" } : Jvm.MethodName) ∈ TT := TT_in (k := 143) rfl rfl
set_option maxRecDepth 20000 in
theorem m_144 : Jvm.Cond.instanceMethod ({ cls := "TwoGenerations", name := "same", desc := "(II)Z" } : Jvm.MethodName) ∈ TT := TT_in (k := 144) rfl rfl
set_option maxRecDepth 20000 in
theorem m_145 : Jvm.Cond.selects "TwoGenerations" ({ cls := "TwoGenerations", name := "same", desc := "(II)Z" } : Jvm.MethodName) ({ cls := "TwoGenerations", name := "same", desc := "(II)Z" } : Jvm.MethodName) ∈ TT := TT_in (k := 145) rfl rfl
set_option maxRecDepth 20000 in
theorem m_146 : Jvm.Cond.code ({ cls := "TwoGenerations", name := "same", desc := "(II)Z" } : Jvm.MethodName) prog_1_method_13_code (6 : Nat) (Option.some Jvm.ClassFile.FieldType.boolean) ∈ TT := TT_in (k := 146) rfl rfl
set_option maxRecDepth 20000 in
theorem m_147 : Jvm.Cond.methodLink "TwoGenerationsLaw" (103 : Nat) ({ cls := "TwoGenerations", name := "generation", desc := "(I)I" } : Jvm.MethodName) ∈ TT := TT_in (k := 147) rfl rfl
set_option maxRecDepth 20000 in
theorem m_148 : Jvm.Cond.instanceMethod ({ cls := "TwoGenerations", name := "generation", desc := "(I)I" } : Jvm.MethodName) ∈ TT := TT_in (k := 148) rfl rfl
set_option maxRecDepth 20000 in
theorem m_149 : Jvm.Cond.selects "TwoGenerations" ({ cls := "TwoGenerations", name := "generation", desc := "(I)I" } : Jvm.MethodName) ({ cls := "TwoGenerations", name := "generation", desc := "(I)I" } : Jvm.MethodName) ∈ TT := TT_in (k := 149) rfl rfl
set_option maxRecDepth 20000 in
theorem m_150 : Jvm.Cond.code ({ cls := "TwoGenerations", name := "generation", desc := "(I)I" } : Jvm.MethodName) prog_1_method_14_code (3 : Nat) (Option.some Jvm.ClassFile.FieldType.int) ∈ TT := TT_in (k := 150) rfl rfl
set_option maxRecDepth 20000 in
theorem m_151 : Jvm.Cond.methodLink "TwoGenerations" (60 : Nat) ({ cls := "TwoGenerations", name := "thingIn", desc := "(I)LTwoGenerations$Thing;" } : Jvm.MethodName) ∈ TT := TT_in (k := 151) rfl rfl
set_option maxRecDepth 20000 in
theorem m_153 : Jvm.Cond.instanceMethod ({ cls := "TwoGenerations", name := "thingIn", desc := "(I)LTwoGenerations$Thing;" } : Jvm.MethodName) ∈ TT := TT_in (k := 153) rfl rfl
set_option maxRecDepth 20000 in
theorem m_154 : Jvm.Cond.code ({ cls := "TwoGenerations", name := "thingIn", desc := "(I)LTwoGenerations$Thing;" } : Jvm.MethodName) prog_1_method_23_code (4 : Nat) (Option.some (Jvm.ClassFile.FieldType.object "TwoGenerations$Thing")) ∈ TT := TT_in (k := 154) rfl rfl
set_option maxRecDepth 20000 in
theorem m_155 : Jvm.Cond.classLink "TwoGenerations" (110 : Nat) "TwoGenerations$Thing" ∈ TT := TT_in (k := 155) rfl rfl
set_option maxRecDepth 20000 in
theorem m_156 : Jvm.Cond.methodLink "TwoGenerationsLaw" (107 : Nat) ({ cls := "TwoGenerations", name := "reach", desc := "(I)I" } : Jvm.MethodName) ∈ TT := TT_in (k := 156) rfl rfl
set_option maxRecDepth 20000 in
theorem m_157 : Jvm.Cond.instanceMethod ({ cls := "TwoGenerations", name := "reach", desc := "(I)I" } : Jvm.MethodName) ∈ TT := TT_in (k := 157) rfl rfl
set_option maxRecDepth 20000 in
theorem m_158 : Jvm.Cond.selects "TwoGenerations" ({ cls := "TwoGenerations", name := "reach", desc := "(I)I" } : Jvm.MethodName) ({ cls := "TwoGenerations", name := "reach", desc := "(I)I" } : Jvm.MethodName) ∈ TT := TT_in (k := 158) rfl rfl
set_option maxRecDepth 20000 in
theorem m_159 : Jvm.Cond.code ({ cls := "TwoGenerations", name := "reach", desc := "(I)I" } : Jvm.MethodName) prog_1_method_15_code (2 : Nat) (Option.some Jvm.ClassFile.FieldType.int) ∈ TT := TT_in (k := 159) rfl rfl
set_option maxRecDepth 20000 in
theorem m_160 : Jvm.Cond.methodLink "TwoGenerations" (115 : Nat) ({ cls := "TwoGenerations$Trace", name := "restart", desc := "()V" } : Jvm.MethodName) ∈ TT := TT_in (k := 160) rfl rfl
set_option maxRecDepth 20000 in
theorem m_161 : Jvm.Cond.instanceMethod ({ cls := "TwoGenerations$Trace", name := "restart", desc := "()V" } : Jvm.MethodName) ∈ TT := TT_in (k := 161) rfl rfl
set_option maxRecDepth 20000 in
theorem m_162 : Jvm.Cond.selects "TwoGenerations$Trace" ({ cls := "TwoGenerations$Trace", name := "restart", desc := "()V" } : Jvm.MethodName) ({ cls := "TwoGenerations$Trace", name := "restart", desc := "()V" } : Jvm.MethodName) ∈ TT := TT_in (k := 162) rfl rfl
set_option maxRecDepth 20000 in
theorem m_163 : Jvm.Cond.code ({ cls := "TwoGenerations$Trace", name := "restart", desc := "()V" } : Jvm.MethodName) prog_5_method_2_code (3 : Nat) (Option.none : Option Jvm.ClassFile.FieldType) ∈ TT := TT_in (k := 163) rfl rfl
set_option maxRecDepth 20000 in
theorem m_164 : Jvm.Cond.methodLink "TwoGenerations" (118 : Nat) ({ cls := "TwoGenerations$Trace", name := "find", desc := "(LTwoGenerations$Value;)V" } : Jvm.MethodName) ∈ TT := TT_in (k := 164) rfl rfl
set_option maxRecDepth 20000 in
theorem m_165 : Jvm.Cond.instanceMethod ({ cls := "TwoGenerations$Trace", name := "find", desc := "(LTwoGenerations$Value;)V" } : Jvm.MethodName) ∈ TT := TT_in (k := 165) rfl rfl
set_option maxRecDepth 20000 in
theorem m_166 : Jvm.Cond.selects "TwoGenerations$Trace" ({ cls := "TwoGenerations$Trace", name := "find", desc := "(LTwoGenerations$Value;)V" } : Jvm.MethodName) ({ cls := "TwoGenerations$Trace", name := "find", desc := "(LTwoGenerations$Value;)V" } : Jvm.MethodName) ∈ TT := TT_in (k := 166) rfl rfl
set_option maxRecDepth 20000 in
theorem m_167 : Jvm.Cond.code ({ cls := "TwoGenerations$Trace", name := "find", desc := "(LTwoGenerations$Value;)V" } : Jvm.MethodName) prog_5_method_3_code (3 : Nat) (Option.none : Option Jvm.ClassFile.FieldType) ∈ TT := TT_in (k := 167) rfl rfl
set_option maxRecDepth 20000 in
theorem m_168 : Jvm.Cond.methodLink "TwoGenerations" (122 : Nat) ({ cls := "TwoGenerations$Trace", name := "follow", desc := "()V" } : Jvm.MethodName) ∈ TT := TT_in (k := 168) rfl rfl
set_option maxRecDepth 20000 in
theorem m_169 : Jvm.Cond.instanceMethod ({ cls := "TwoGenerations$Trace", name := "follow", desc := "()V" } : Jvm.MethodName) ∈ TT := TT_in (k := 169) rfl rfl
set_option maxRecDepth 20000 in
theorem m_170 : Jvm.Cond.selects "TwoGenerations$Trace" ({ cls := "TwoGenerations$Trace", name := "follow", desc := "()V" } : Jvm.MethodName) ({ cls := "TwoGenerations$Trace", name := "follow", desc := "()V" } : Jvm.MethodName) ∈ TT := TT_in (k := 170) rfl rfl
set_option maxRecDepth 20000 in
theorem m_171 : Jvm.Cond.code ({ cls := "TwoGenerations$Trace", name := "follow", desc := "()V" } : Jvm.MethodName) prog_5_method_5_code (4 : Nat) (Option.none : Option Jvm.ClassFile.FieldType) ∈ TT := TT_in (k := 171) rfl rfl
set_option maxRecDepth 20000 in
theorem m_172 : Jvm.Cond.classLink "TwoGenerations$Trace" (39 : Nat) "TwoGenerations$Plain" ∈ TT := TT_in (k := 172) rfl rfl
set_option maxRecDepth 20000 in
theorem m_173 : Jvm.Cond.methodLink "TwoGenerations$Trace" (41 : Nat) ({ cls := "TwoGenerations$Trace", name := "findContents", desc := "(LTwoGenerations$Plain;)V" } : Jvm.MethodName) ∈ TT := TT_in (k := 173) rfl rfl
set_option maxRecDepth 20000 in
theorem m_174 : Jvm.Cond.instanceMethod ({ cls := "TwoGenerations$Trace", name := "findContents", desc := "(LTwoGenerations$Plain;)V" } : Jvm.MethodName) ∈ TT := TT_in (k := 174) rfl rfl
set_option maxRecDepth 20000 in
theorem m_175 : Jvm.Cond.selects "TwoGenerations$Trace" ({ cls := "TwoGenerations$Trace", name := "findContents", desc := "(LTwoGenerations$Plain;)V" } : Jvm.MethodName) ({ cls := "TwoGenerations$Trace", name := "findContents", desc := "(LTwoGenerations$Plain;)V" } : Jvm.MethodName) ∈ TT := TT_in (k := 175) rfl rfl
set_option maxRecDepth 20000 in
theorem m_176 : Jvm.Cond.code ({ cls := "TwoGenerations$Trace", name := "findContents", desc := "(LTwoGenerations$Plain;)V" } : Jvm.MethodName) prog_5_method_6_code (3 : Nat) (Option.none : Option Jvm.ClassFile.FieldType) ∈ TT := TT_in (k := 176) rfl rfl
set_option maxRecDepth 20000 in
theorem m_177 : Jvm.Cond.methodLink "TwoGenerations$Trace" (35 : Nat) ({ cls := "TwoGenerations$Trace", name := "find", desc := "(LTwoGenerations$Value;)V" } : Jvm.MethodName) ∈ TT := TT_in (k := 177) rfl rfl
set_option maxRecDepth 20000 in
theorem m_178 : Jvm.Cond.methodLink "TwoGenerationsLaw" (115 : Nat) ({ cls := "TwoGenerations", name := "great", desc := "()I" } : Jvm.MethodName) ∈ TT := TT_in (k := 178) rfl rfl
set_option maxRecDepth 20000 in
theorem m_179 : Jvm.Cond.instanceMethod ({ cls := "TwoGenerations", name := "great", desc := "()I" } : Jvm.MethodName) ∈ TT := TT_in (k := 179) rfl rfl
set_option maxRecDepth 20000 in
theorem m_180 : Jvm.Cond.selects "TwoGenerations" ({ cls := "TwoGenerations", name := "great", desc := "()I" } : Jvm.MethodName) ({ cls := "TwoGenerations", name := "great", desc := "()I" } : Jvm.MethodName) ∈ TT := TT_in (k := 180) rfl rfl
set_option maxRecDepth 20000 in
theorem m_181 : Jvm.Cond.code ({ cls := "TwoGenerations", name := "great", desc := "()I" } : Jvm.MethodName) prog_1_method_17_code (1 : Nat) (Option.some Jvm.ClassFile.FieldType.int) ∈ TT := TT_in (k := 181) rfl rfl
set_option maxRecDepth 20000 in
theorem m_182 : Jvm.Cond.methodLink "TwoGenerations" (137 : Nat) ({ cls := "TwoGenerations", name := "collectOld", desc := "()I" } : Jvm.MethodName) ∈ TT := TT_in (k := 182) rfl rfl
set_option maxRecDepth 20000 in
theorem m_184 : Jvm.Cond.instanceMethod ({ cls := "TwoGenerations", name := "collectOld", desc := "()I" } : Jvm.MethodName) ∈ TT := TT_in (k := 184) rfl rfl
set_option maxRecDepth 20000 in
theorem m_185 : Jvm.Cond.code ({ cls := "TwoGenerations", name := "collectOld", desc := "()I" } : Jvm.MethodName) prog_1_method_28_code (2 : Nat) (Option.some Jvm.ClassFile.FieldType.int) ∈ TT := TT_in (k := 185) rfl rfl
set_option maxRecDepth 20000 in
theorem m_186 : Jvm.Cond.methodLink "TwoGenerations" (158 : Nat) ({ cls := "TwoGenerations", name := "findRegisters", desc := "()V" } : Jvm.MethodName) ∈ TT := TT_in (k := 186) rfl rfl
set_option maxRecDepth 20000 in
theorem m_188 : Jvm.Cond.instanceMethod ({ cls := "TwoGenerations", name := "findRegisters", desc := "()V" } : Jvm.MethodName) ∈ TT := TT_in (k := 188) rfl rfl
set_option maxRecDepth 20000 in
theorem m_189 : Jvm.Cond.code ({ cls := "TwoGenerations", name := "findRegisters", desc := "()V" } : Jvm.MethodName) prog_1_method_29_code (2 : Nat) (Option.none : Option Jvm.ClassFile.FieldType) ∈ TT := TT_in (k := 189) rfl rfl
set_option maxRecDepth 20000 in
theorem m_190 : Jvm.Cond.methodLink "TwoGenerations" (168 : Nat) ({ cls := "TwoGenerations$Generation", name := "cutTargets", desc := "()V" } : Jvm.MethodName) ∈ TT := TT_in (k := 190) rfl rfl
set_option maxRecDepth 20000 in
theorem m_191 : Jvm.Cond.instanceMethod ({ cls := "TwoGenerations$Generation", name := "cutTargets", desc := "()V" } : Jvm.MethodName) ∈ TT := TT_in (k := 191) rfl rfl
set_option maxRecDepth 20000 in
theorem m_192 : Jvm.Cond.selects "TwoGenerations$Generation" ({ cls := "TwoGenerations$Generation", name := "cutTargets", desc := "()V" } : Jvm.MethodName) ({ cls := "TwoGenerations$Generation", name := "cutTargets", desc := "()V" } : Jvm.MethodName) ∈ TT := TT_in (k := 192) rfl rfl
set_option maxRecDepth 20000 in
theorem m_193 : Jvm.Cond.code ({ cls := "TwoGenerations$Generation", name := "cutTargets", desc := "()V" } : Jvm.MethodName) prog_2_method_6_code (4 : Nat) (Option.none : Option Jvm.ClassFile.FieldType) ∈ TT := TT_in (k := 193) rfl rfl
set_option maxRecDepth 20000 in
theorem m_194 : Jvm.Cond.classLink "TwoGenerations$Generation" (32 : Nat) "TwoGenerations$Weak" ∈ TT := TT_in (k := 194) rfl rfl
set_option maxRecDepth 20000 in
theorem m_195 : Jvm.Cond.methodLink "TwoGenerations$Generation" (34 : Nat) ({ cls := "TwoGenerations$Weak", name := "cutUnreachedTarget", desc := "()V" } : Jvm.MethodName) ∈ TT := TT_in (k := 195) rfl rfl
set_option maxRecDepth 20000 in
theorem m_196 : Jvm.Cond.instanceMethod ({ cls := "TwoGenerations$Weak", name := "cutUnreachedTarget", desc := "()V" } : Jvm.MethodName) ∈ TT := TT_in (k := 196) rfl rfl
set_option maxRecDepth 20000 in
theorem m_197 : Jvm.Cond.selects "TwoGenerations$Weak" ({ cls := "TwoGenerations$Weak", name := "cutUnreachedTarget", desc := "()V" } : Jvm.MethodName) ({ cls := "TwoGenerations$Weak", name := "cutUnreachedTarget", desc := "()V" } : Jvm.MethodName) ∈ TT := TT_in (k := 197) rfl rfl
set_option maxRecDepth 20000 in
theorem m_198 : Jvm.Cond.code ({ cls := "TwoGenerations$Weak", name := "cutUnreachedTarget", desc := "()V" } : Jvm.MethodName) prog_7_method_2_code (1 : Nat) (Option.none : Option Jvm.ClassFile.FieldType) ∈ TT := TT_in (k := 198) rfl rfl
set_option maxRecDepth 20000 in
theorem m_199 : Jvm.Cond.methodLink "TwoGenerations" (177 : Nat) ({ cls := "TwoGenerations$Generation", name := "keepReached", desc := "()V" } : Jvm.MethodName) ∈ TT := TT_in (k := 199) rfl rfl
set_option maxRecDepth 20000 in
theorem m_200 : Jvm.Cond.instanceMethod ({ cls := "TwoGenerations$Generation", name := "keepReached", desc := "()V" } : Jvm.MethodName) ∈ TT := TT_in (k := 200) rfl rfl
set_option maxRecDepth 20000 in
theorem m_201 : Jvm.Cond.selects "TwoGenerations$Generation" ({ cls := "TwoGenerations$Generation", name := "keepReached", desc := "()V" } : Jvm.MethodName) ({ cls := "TwoGenerations$Generation", name := "keepReached", desc := "()V" } : Jvm.MethodName) ∈ TT := TT_in (k := 201) rfl rfl
set_option maxRecDepth 20000 in
theorem m_202 : Jvm.Cond.code ({ cls := "TwoGenerations$Generation", name := "keepReached", desc := "()V" } : Jvm.MethodName) prog_2_method_7_code (4 : Nat) (Option.none : Option Jvm.ClassFile.FieldType) ∈ TT := TT_in (k := 202) rfl rfl
set_option maxRecDepth 20000 in
theorem m_203 : Jvm.Cond.methodLink "TwoGenerations$Generation" (37 : Nat) ({ cls := "TwoGenerations$Generation", name := "empty", desc := "()V" } : Jvm.MethodName) ∈ TT := TT_in (k := 203) rfl rfl
set_option maxRecDepth 20000 in
theorem m_204 : Jvm.Cond.instanceMethod ({ cls := "TwoGenerations$Generation", name := "empty", desc := "()V" } : Jvm.MethodName) ∈ TT := TT_in (k := 204) rfl rfl
set_option maxRecDepth 20000 in
theorem m_205 : Jvm.Cond.selects "TwoGenerations$Generation" ({ cls := "TwoGenerations$Generation", name := "empty", desc := "()V" } : Jvm.MethodName) ({ cls := "TwoGenerations$Generation", name := "empty", desc := "()V" } : Jvm.MethodName) ∈ TT := TT_in (k := 205) rfl rfl
set_option maxRecDepth 20000 in
theorem m_206 : Jvm.Cond.code ({ cls := "TwoGenerations$Generation", name := "empty", desc := "()V" } : Jvm.MethodName) prog_2_method_4_code (1 : Nat) (Option.none : Option Jvm.ClassFile.FieldType) ∈ TT := TT_in (k := 206) rfl rfl
set_option maxRecDepth 20000 in
theorem m_207 : Jvm.Cond.methodLink "TwoGenerations$Generation" (40 : Nat) ({ cls := "TwoGenerations$Generation", name := "add", desc := "(LTwoGenerations$Thing;)V" } : Jvm.MethodName) ∈ TT := TT_in (k := 207) rfl rfl
set_option maxRecDepth 20000 in
theorem m_208 : Jvm.Cond.instanceMethod ({ cls := "TwoGenerations$Generation", name := "add", desc := "(LTwoGenerations$Thing;)V" } : Jvm.MethodName) ∈ TT := TT_in (k := 208) rfl rfl
set_option maxRecDepth 20000 in
theorem m_209 : Jvm.Cond.selects "TwoGenerations$Generation" ({ cls := "TwoGenerations$Generation", name := "add", desc := "(LTwoGenerations$Thing;)V" } : Jvm.MethodName) ({ cls := "TwoGenerations$Generation", name := "add", desc := "(LTwoGenerations$Thing;)V" } : Jvm.MethodName) ∈ TT := TT_in (k := 209) rfl rfl
set_option maxRecDepth 20000 in
theorem m_210 : Jvm.Cond.code ({ cls := "TwoGenerations$Generation", name := "add", desc := "(LTwoGenerations$Thing;)V" } : Jvm.MethodName) prog_2_method_3_code (2 : Nat) (Option.none : Option Jvm.ClassFile.FieldType) ∈ TT := TT_in (k := 210) rfl rfl
set_option maxRecDepth 20000 in
theorem m_211 : Jvm.Cond.methodLink "TwoGenerationsLaw" (119 : Nat) ({ cls := "TwoGenerations", name := "cells", desc := "(I)I" } : Jvm.MethodName) ∈ TT := TT_in (k := 211) rfl rfl
set_option maxRecDepth 20000 in
theorem m_212 : Jvm.Cond.instanceMethod ({ cls := "TwoGenerations", name := "cells", desc := "(I)I" } : Jvm.MethodName) ∈ TT := TT_in (k := 212) rfl rfl
set_option maxRecDepth 20000 in
theorem m_213 : Jvm.Cond.selects "TwoGenerations" ({ cls := "TwoGenerations", name := "cells", desc := "(I)I" } : Jvm.MethodName) ({ cls := "TwoGenerations", name := "cells", desc := "(I)I" } : Jvm.MethodName) ∈ TT := TT_in (k := 213) rfl rfl
set_option maxRecDepth 20000 in
theorem m_214 : Jvm.Cond.code ({ cls := "TwoGenerations", name := "cells", desc := "(I)I" } : Jvm.MethodName) prog_1_method_18_code (2 : Nat) (Option.some Jvm.ClassFile.FieldType.int) ∈ TT := TT_in (k := 214) rfl rfl
set_option maxRecDepth 20000 in
theorem m_215 : Jvm.Cond.methodLink "TwoGenerationsLaw" (123 : Nat) ({ cls := "TwoGenerations", name := "collections", desc := "(I)I" } : Jvm.MethodName) ∈ TT := TT_in (k := 215) rfl rfl
set_option maxRecDepth 20000 in
theorem m_216 : Jvm.Cond.instanceMethod ({ cls := "TwoGenerations", name := "collections", desc := "(I)I" } : Jvm.MethodName) ∈ TT := TT_in (k := 216) rfl rfl
set_option maxRecDepth 20000 in
theorem m_217 : Jvm.Cond.selects "TwoGenerations" ({ cls := "TwoGenerations", name := "collections", desc := "(I)I" } : Jvm.MethodName) ({ cls := "TwoGenerations", name := "collections", desc := "(I)I" } : Jvm.MethodName) ∈ TT := TT_in (k := 217) rfl rfl
set_option maxRecDepth 20000 in
theorem m_218 : Jvm.Cond.code ({ cls := "TwoGenerations", name := "collections", desc := "(I)I" } : Jvm.MethodName) prog_1_method_19_code (2 : Nat) (Option.some Jvm.ClassFile.FieldType.int) ∈ TT := TT_in (k := 218) rfl rfl
set_option maxRecDepth 20000 in
theorem m_219 : Jvm.Cond.methodLink "TwoGenerationsLaw" (44 : Nat) ({ cls := "TwoGenerationsLaw", name := "cell", desc := "([II)I" } : Jvm.MethodName) ∈ TT := TT_in (k := 219) rfl rfl
set_option maxRecDepth 20000 in
theorem m_220 : Jvm.Cond.static ({ cls := "TwoGenerationsLaw", name := "cell", desc := "([II)I" } : Jvm.MethodName) ∈ TT := TT_in (k := 220) rfl rfl
set_option maxRecDepth 20000 in
theorem m_221 : Jvm.Cond.code ({ cls := "TwoGenerationsLaw", name := "cell", desc := "([II)I" } : Jvm.MethodName) method_2_code (2 : Nat) (Option.some Jvm.ClassFile.FieldType.int) ∈ TT := TT_in (k := 221) rfl rfl
set_option maxRecDepth 20000 in
theorem m_222 : Jvm.Cond.methodLink "TwoGenerationsLaw" (55 : Nat) ({ cls := "TwoGenerationsLaw", name := "make", desc := "(LTwoGenerations;II)I" } : Jvm.MethodName) ∈ TT := TT_in (k := 222) rfl rfl
set_option maxRecDepth 20000 in
theorem m_223 : Jvm.Cond.static ({ cls := "TwoGenerationsLaw", name := "make", desc := "(LTwoGenerations;II)I" } : Jvm.MethodName) ∈ TT := TT_in (k := 223) rfl rfl
set_option maxRecDepth 20000 in
theorem m_224 : Jvm.Cond.codeWith ({ cls := "TwoGenerationsLaw", name := "make", desc := "(LTwoGenerations;II)I" } : Jvm.MethodName) method_3_code (4 : Nat) (Option.some Jvm.ClassFile.FieldType.int) [((0 : Nat), (6 : Nat), (9 : Nat), (13 : Nat)), ((0 : Nat), (6 : Nat), (12 : Nat), (15 : Nat))] ∈ TT := TT_in (k := 224) rfl rfl
set_option maxRecDepth 20000 in
theorem m_225 : Jvm.Cond.classLink "TwoGenerationsLaw" (13 : Nat) "java/lang/IllegalArgumentException" ∈ TT := TT_in (k := 225) rfl rfl
set_option maxRecDepth 20000 in
theorem m_226 : Jvm.Cond.classLink "TwoGenerationsLaw" (15 : Nat) "java/lang/IllegalStateException" ∈ TT := TT_in (k := 226) rfl rfl
set_option maxRecDepth 20000 in
theorem m_227 : Jvm.Cond.methodLink "TwoGenerationsLaw" (7 : Nat) ({ cls := "TwoGenerations", name := "make", desc := "(II)V" } : Jvm.MethodName) ∈ TT := TT_in (k := 227) rfl rfl
set_option maxRecDepth 20000 in
theorem m_228 : Jvm.Cond.instanceMethod ({ cls := "TwoGenerations", name := "make", desc := "(II)V" } : Jvm.MethodName) ∈ TT := TT_in (k := 228) rfl rfl
set_option maxRecDepth 20000 in
theorem m_229 : Jvm.Cond.selects "TwoGenerations" ({ cls := "TwoGenerations", name := "make", desc := "(II)V" } : Jvm.MethodName) ({ cls := "TwoGenerations", name := "make", desc := "(II)V" } : Jvm.MethodName) ∈ TT := TT_in (k := 229) rfl rfl
set_option maxRecDepth 20000 in
theorem m_230 : Jvm.Cond.code ({ cls := "TwoGenerations", name := "make", desc := "(II)V" } : Jvm.MethodName) prog_1_method_2_code (3 : Nat) (Option.none : Option Jvm.ClassFile.FieldType) ∈ TT := TT_in (k := 230) rfl rfl
set_option maxRecDepth 20000 in
theorem m_231 : Jvm.Cond.classLink "TwoGenerations" (46 : Nat) "java/lang/IllegalArgumentException" ∈ TT := TT_in (k := 231) rfl rfl
set_option maxRecDepth 20000 in
theorem m_232 : Jvm.Cond.instantiable "java/lang/IllegalArgumentException" (6 : Nat) ∈ TT := TT_in (k := 232) rfl rfl
set_option maxRecDepth 20000 in
theorem m_233 : Jvm.Cond.castable "java/lang/IllegalArgumentException" "java/lang/IllegalArgumentException" ∈ TT := TT_in (k := 233) rfl rfl
set_option maxRecDepth 20000 in
theorem m_234 : Jvm.Cond.declares ({ cls := "java/lang/RuntimeException", name := "<init>", desc := "()V" } : Jvm.MethodName) ∈ TT := TT_in (k := 234) rfl rfl
set_option maxRecDepth 20000 in
theorem m_235 : Jvm.Cond.declares ({ cls := "java/lang/RuntimeException", name := "<init>", desc := "(Ljava/lang/String;)V" } : Jvm.MethodName) ∈ TT := TT_in (k := 235) rfl rfl
set_option maxRecDepth 20000 in
theorem m_236 : Jvm.Cond.declares ({ cls := "java/lang/Exception", name := "<init>", desc := "()V" } : Jvm.MethodName) ∈ TT := TT_in (k := 236) rfl rfl
set_option maxRecDepth 20000 in
theorem m_237 : Jvm.Cond.declares ({ cls := "java/lang/Exception", name := "<init>", desc := "(Ljava/lang/String;)V" } : Jvm.MethodName) ∈ TT := TT_in (k := 237) rfl rfl
set_option maxRecDepth 20000 in
theorem m_238 : Jvm.Cond.declares ({ cls := "java/lang/Throwable", name := "<init>", desc := "()V" } : Jvm.MethodName) ∈ TT := TT_in (k := 238) rfl rfl
set_option maxRecDepth 20000 in
theorem m_239 : Jvm.Cond.declares ({ cls := "java/lang/Throwable", name := "<init>", desc := "(Ljava/lang/String;)V" } : Jvm.MethodName) ∈ TT := TT_in (k := 239) rfl rfl
set_option maxRecDepth 20000 in
theorem m_240 : Jvm.Cond.selects "java/lang/IllegalArgumentException" ({ cls := "java/lang/Throwable", name := "fillInStackTrace", desc := "(I)Ljava/lang/Throwable;" } : Jvm.MethodName) ({ cls := "java/lang/Throwable", name := "fillInStackTrace", desc := "(I)Ljava/lang/Throwable;" } : Jvm.MethodName) ∈ TT := TT_in (k := 240) rfl rfl
set_option maxRecDepth 20000 in
theorem m_241 : Jvm.Cond.selects "java/lang/IllegalArgumentException" ({ cls := "java/lang/Throwable", name := "fillInStackTrace", desc := "()Ljava/lang/Throwable;" } : Jvm.MethodName) ({ cls := "java/lang/Throwable", name := "fillInStackTrace", desc := "()Ljava/lang/Throwable;" } : Jvm.MethodName) ∈ TT := TT_in (k := 241) rfl rfl
set_option maxRecDepth 20000 in
theorem m_242 : Jvm.Cond.lays "java/lang/IllegalArgumentException" "java/lang/Throwable" "cause" "Ljava/lang/Throwable;" ∈ TT := TT_in (k := 242) rfl rfl
set_option maxRecDepth 20000 in
theorem m_243 : Jvm.Cond.lays "java/lang/Throwable" "java/lang/Throwable" "cause" "Ljava/lang/Throwable;" ∈ TT := TT_in (k := 243) rfl rfl
set_option maxRecDepth 20000 in
theorem m_244 : Jvm.Cond.lays "java/lang/IllegalArgumentException" "java/lang/Throwable" "stackTrace" "[Ljava/lang/StackTraceElement;" ∈ TT := TT_in (k := 244) rfl rfl
set_option maxRecDepth 20000 in
theorem m_245 : Jvm.Cond.lays "java/lang/Throwable" "java/lang/Throwable" "stackTrace" "[Ljava/lang/StackTraceElement;" ∈ TT := TT_in (k := 245) rfl rfl
set_option maxRecDepth 20000 in
theorem m_246 : Jvm.Cond.lays "java/lang/IllegalArgumentException" "java/lang/Throwable" "suppressedExceptions" "Ljava/util/List;" ∈ TT := TT_in (k := 246) rfl rfl
set_option maxRecDepth 20000 in
theorem m_247 : Jvm.Cond.lays "java/lang/Throwable" "java/lang/Throwable" "suppressedExceptions" "Ljava/util/List;" ∈ TT := TT_in (k := 247) rfl rfl
set_option maxRecDepth 20000 in
theorem m_248 : Jvm.Cond.lays "java/lang/IllegalArgumentException" "java/lang/Throwable" "detailMessage" "Ljava/lang/String;" ∈ TT := TT_in (k := 248) rfl rfl
set_option maxRecDepth 20000 in
theorem m_249 : Jvm.Cond.lays "java/lang/Throwable" "java/lang/Throwable" "detailMessage" "Ljava/lang/String;" ∈ TT := TT_in (k := 249) rfl rfl
set_option maxRecDepth 20000 in
theorem m_250 : Jvm.Cond.lays "java/lang/IllegalArgumentException" "java/lang/Throwable" "backtrace" "Ljava/lang/Object;" ∈ TT := TT_in (k := 250) rfl rfl
set_option maxRecDepth 20000 in
theorem m_251 : Jvm.Cond.lays "java/lang/Throwable" "java/lang/Throwable" "backtrace" "Ljava/lang/Object;" ∈ TT := TT_in (k := 251) rfl rfl
set_option maxRecDepth 20000 in
theorem m_252 : Jvm.Cond.fieldLink "java/lang/Throwable" (198 : Nat) "java/lang/Throwable" "backtrace" "Ljava/lang/Object;" ∈ TT := TT_in (k := 252) rfl rfl
set_option maxRecDepth 20000 in
theorem m_253 : Jvm.Cond.superclass "java/lang/Throwable" "java/lang/Object" ∈ TT := TT_in (k := 253) rfl rfl
set_option maxRecDepth 20000 in
theorem m_254 : Jvm.Cond.instanceMethod ({ cls := "java/lang/Throwable", name := "<init>", desc := "()V" } : Jvm.MethodName) ∈ TT := TT_in (k := 254) rfl rfl
set_option maxRecDepth 20000 in
theorem m_255 : Jvm.Cond.code ({ cls := "java/lang/Throwable", name := "<init>", desc := "()V" } : Jvm.MethodName) prog_16_method_1_code (1 : Nat) (Option.none : Option Jvm.ClassFile.FieldType) ∈ TT := TT_in (k := 255) rfl rfl
set_option maxRecDepth 20000 in
theorem m_256 : Jvm.Cond.methodLink "java/lang/Throwable" (1 : Nat) ({ cls := "java/lang/Object", name := "<init>", desc := "()V" } : Jvm.MethodName) ∈ TT := TT_in (k := 256) rfl rfl
set_option maxRecDepth 20000 in
theorem m_257 : Jvm.Cond.fieldLink "java/lang/Throwable" (13 : Nat) "java/lang/Throwable" "UNASSIGNED_STACK" "[Ljava/lang/StackTraceElement;" ∈ TT := TT_in (k := 257) rfl rfl
set_option maxRecDepth 20000 in
theorem m_259 : Jvm.Cond.fieldLink "java/lang/Throwable" (20 : Nat) "java/lang/Throwable" "SUPPRESSED_SENTINEL" "Ljava/util/List;" ∈ TT := TT_in (k := 259) rfl rfl
set_option maxRecDepth 20000 in
theorem m_261 : Jvm.Cond.methodLink "java/lang/Throwable" (27 : Nat) ({ cls := "java/lang/Throwable", name := "fillInStackTrace", desc := "()Ljava/lang/Throwable;" } : Jvm.MethodName) ∈ TT := TT_in (k := 261) rfl rfl
set_option maxRecDepth 20000 in
theorem m_262 : Jvm.Cond.instanceMethod ({ cls := "java/lang/Throwable", name := "fillInStackTrace", desc := "()Ljava/lang/Throwable;" } : Jvm.MethodName) ∈ TT := TT_in (k := 262) rfl rfl
set_option maxRecDepth 20000 in
theorem m_263 : Jvm.Cond.sameMethod "java/lang/Throwable" "java/lang/Throwable" "fillInStackTrace" "()Ljava/lang/Throwable;" ∈ TT := TT_in (k := 263) rfl rfl
set_option maxRecDepth 20000 in
theorem m_264 : Jvm.Cond.selects "java/lang/IllegalStateException" ({ cls := "java/lang/Throwable", name := "fillInStackTrace", desc := "()Ljava/lang/Throwable;" } : Jvm.MethodName) ({ cls := "java/lang/Throwable", name := "fillInStackTrace", desc := "()Ljava/lang/Throwable;" } : Jvm.MethodName) ∈ TT := TT_in (k := 264) rfl rfl
set_option maxRecDepth 20000 in
theorem m_265 : Jvm.Cond.codeSync ({ cls := "java/lang/Throwable", name := "fillInStackTrace", desc := "()Ljava/lang/Throwable;" } : Jvm.MethodName) prog_16_method_18_code (1 : Nat) (Option.some (Jvm.ClassFile.FieldType.object "java/lang/Throwable")) ∈ TT := TT_in (k := 265) rfl rfl
set_option maxRecDepth 20000 in
theorem m_266 : Jvm.Cond.methodLink "java/lang/Throwable" (202 : Nat) ({ cls := "java/lang/Throwable", name := "fillInStackTrace", desc := "(I)Ljava/lang/Throwable;" } : Jvm.MethodName) ∈ TT := TT_in (k := 266) rfl rfl
set_option maxRecDepth 20000 in
theorem m_268 : Jvm.Cond.instanceMethod ({ cls := "java/lang/Throwable", name := "fillInStackTrace", desc := "(I)Ljava/lang/Throwable;" } : Jvm.MethodName) ∈ TT := TT_in (k := 268) rfl rfl
set_option maxRecDepth 20000 in
theorem m_269 : Jvm.Cond.instantiable "java/lang/Throwable" (6 : Nat) ∈ TT := TT_in (k := 269) rfl rfl
set_option maxRecDepth 20000 in
theorem m_270 : Jvm.Cond.native ({ cls := "java/lang/Throwable", name := "fillInStackTrace", desc := "(I)Ljava/lang/Throwable;" } : Jvm.MethodName) ∈ TT := TT_in (k := 270) rfl rfl
set_option maxRecDepth 20000 in
theorem m_271 : Jvm.Cond.stringRef "TwoGenerations" (48 : Nat) "no such register, or too few or too many fields" ∈ TT := TT_in (k := 271) rfl rfl
set_option maxRecDepth 20000 in
theorem m_272 : Jvm.Cond.methodLink "TwoGenerations" (50 : Nat) ({ cls := "java/lang/IllegalArgumentException", name := "<init>", desc := "(Ljava/lang/String;)V" } : Jvm.MethodName) ∈ TT := TT_in (k := 272) rfl rfl
set_option maxRecDepth 20000 in
theorem m_273 : Jvm.Cond.instanceMethod ({ cls := "java/lang/IllegalArgumentException", name := "<init>", desc := "(Ljava/lang/String;)V" } : Jvm.MethodName) ∈ TT := TT_in (k := 273) rfl rfl
set_option maxRecDepth 20000 in
theorem m_274 : Jvm.Cond.code ({ cls := "java/lang/IllegalArgumentException", name := "<init>", desc := "(Ljava/lang/String;)V" } : Jvm.MethodName) prog_12_method_2_code (2 : Nat) (Option.none : Option Jvm.ClassFile.FieldType) ∈ TT := TT_in (k := 274) rfl rfl
set_option maxRecDepth 20000 in
theorem m_275 : Jvm.Cond.methodLink "java/lang/IllegalArgumentException" (7 : Nat) ({ cls := "java/lang/RuntimeException", name := "<init>", desc := "(Ljava/lang/String;)V" } : Jvm.MethodName) ∈ TT := TT_in (k := 275) rfl rfl
set_option maxRecDepth 20000 in
theorem m_276 : Jvm.Cond.instanceMethod ({ cls := "java/lang/RuntimeException", name := "<init>", desc := "(Ljava/lang/String;)V" } : Jvm.MethodName) ∈ TT := TT_in (k := 276) rfl rfl
set_option maxRecDepth 20000 in
theorem m_277 : Jvm.Cond.code ({ cls := "java/lang/RuntimeException", name := "<init>", desc := "(Ljava/lang/String;)V" } : Jvm.MethodName) prog_14_method_2_code (2 : Nat) (Option.none : Option Jvm.ClassFile.FieldType) ∈ TT := TT_in (k := 277) rfl rfl
set_option maxRecDepth 20000 in
theorem m_278 : Jvm.Cond.methodLink "java/lang/RuntimeException" (7 : Nat) ({ cls := "java/lang/Exception", name := "<init>", desc := "(Ljava/lang/String;)V" } : Jvm.MethodName) ∈ TT := TT_in (k := 278) rfl rfl
set_option maxRecDepth 20000 in
theorem m_279 : Jvm.Cond.instanceMethod ({ cls := "java/lang/Exception", name := "<init>", desc := "(Ljava/lang/String;)V" } : Jvm.MethodName) ∈ TT := TT_in (k := 279) rfl rfl
set_option maxRecDepth 20000 in
theorem m_280 : Jvm.Cond.code ({ cls := "java/lang/Exception", name := "<init>", desc := "(Ljava/lang/String;)V" } : Jvm.MethodName) prog_11_method_2_code (2 : Nat) (Option.none : Option Jvm.ClassFile.FieldType) ∈ TT := TT_in (k := 280) rfl rfl
set_option maxRecDepth 20000 in
theorem m_281 : Jvm.Cond.methodLink "java/lang/Exception" (7 : Nat) ({ cls := "java/lang/Throwable", name := "<init>", desc := "(Ljava/lang/String;)V" } : Jvm.MethodName) ∈ TT := TT_in (k := 281) rfl rfl
set_option maxRecDepth 20000 in
theorem m_282 : Jvm.Cond.instanceMethod ({ cls := "java/lang/Throwable", name := "<init>", desc := "(Ljava/lang/String;)V" } : Jvm.MethodName) ∈ TT := TT_in (k := 282) rfl rfl
set_option maxRecDepth 20000 in
theorem m_283 : Jvm.Cond.code ({ cls := "java/lang/Throwable", name := "<init>", desc := "(Ljava/lang/String;)V" } : Jvm.MethodName) prog_16_method_2_code (2 : Nat) (Option.none : Option Jvm.ClassFile.FieldType) ∈ TT := TT_in (k := 283) rfl rfl
set_option maxRecDepth 20000 in
theorem m_284 : Jvm.Cond.fieldLink "java/lang/Throwable" (198 : Nat) "java/lang/Throwable" "backtrace" "Ljava/lang/Object;" ∈ TT := TT_in (k := 284) rfl rfl
set_option maxRecDepth 20000 in
theorem m_285 : Jvm.Cond.fieldLink "java/lang/Throwable" (31 : Nat) "java/lang/Throwable" "detailMessage" "Ljava/lang/String;" ∈ TT := TT_in (k := 285) rfl rfl
set_option maxRecDepth 20000 in
theorem m_286 : Jvm.Cond.fieldLink "java/lang/Throwable" (7 : Nat) "java/lang/Throwable" "cause" "Ljava/lang/Throwable;" ∈ TT := TT_in (k := 286) rfl rfl
set_option maxRecDepth 20000 in
theorem m_287 : Jvm.Cond.fieldLink "java/lang/Throwable" (17 : Nat) "java/lang/Throwable" "stackTrace" "[Ljava/lang/StackTraceElement;" ∈ TT := TT_in (k := 287) rfl rfl
set_option maxRecDepth 20000 in
theorem m_288 : Jvm.Cond.fieldLink "java/lang/Throwable" (24 : Nat) "java/lang/Throwable" "suppressedExceptions" "Ljava/util/List;" ∈ TT := TT_in (k := 288) rfl rfl
set_option maxRecDepth 20000 in
theorem m_289 : Jvm.Cond.soleField "java/lang/Throwable" "backtrace" ∈ TT := TT_in (k := 289) rfl rfl
set_option maxRecDepth 20000 in
theorem m_290 : Jvm.Cond.soleField "java/lang/Throwable" "detailMessage" ∈ TT := TT_in (k := 290) rfl rfl
set_option maxRecDepth 20000 in
theorem m_291 : Jvm.Cond.soleField "java/lang/Throwable" "cause" ∈ TT := TT_in (k := 291) rfl rfl
set_option maxRecDepth 20000 in
theorem m_292 : Jvm.Cond.soleField "java/lang/Throwable" "stackTrace" ∈ TT := TT_in (k := 292) rfl rfl
set_option maxRecDepth 20000 in
theorem m_293 : Jvm.Cond.lays "java/lang/IllegalArgumentException" "java/lang/Throwable" "depth" "I" ∈ TT := TT_in (k := 293) rfl rfl
set_option maxRecDepth 20000 in
theorem m_294 : Jvm.Cond.soleField "java/lang/Throwable" "depth" ∈ TT := TT_in (k := 294) rfl rfl
set_option maxRecDepth 20000 in
theorem m_295 : Jvm.Cond.soleField "java/lang/Throwable" "suppressedExceptions" ∈ TT := TT_in (k := 295) rfl rfl
set_option maxRecDepth 20000 in
theorem m_296 : Jvm.Cond.superclass "java/lang/IllegalArgumentException" "java/lang/RuntimeException" ∈ TT := TT_in (k := 296) rfl rfl
set_option maxRecDepth 20000 in
theorem m_297 : Jvm.Cond.arrayClass Jvm.ClassFile.FieldType.byte ∈ TT := TT_in (k := 297) rfl rfl
set_option maxRecDepth 20000 in
theorem m_298 : Jvm.Cond.instantiable "TwoGenerations$Plain" (4 : Nat) ∈ TT := TT_in (k := 298) rfl rfl
set_option maxRecDepth 20000 in
theorem m_299 : Jvm.Cond.methodLink "TwoGenerations" (55 : Nat) ({ cls := "TwoGenerations$Plain", name := "<init>", desc := "(I)V" } : Jvm.MethodName) ∈ TT := TT_in (k := 299) rfl rfl
set_option maxRecDepth 20000 in
theorem m_300 : Jvm.Cond.instanceMethod ({ cls := "TwoGenerations$Plain", name := "<init>", desc := "(I)V" } : Jvm.MethodName) ∈ TT := TT_in (k := 300) rfl rfl
set_option maxRecDepth 20000 in
theorem m_301 : Jvm.Cond.code ({ cls := "TwoGenerations$Plain", name := "<init>", desc := "(I)V" } : Jvm.MethodName) prog_3_method_1_code (2 : Nat) (Option.none : Option Jvm.ClassFile.FieldType) ∈ TT := TT_in (k := 301) rfl rfl
set_option maxRecDepth 20000 in
theorem m_302 : Jvm.Cond.methodLink "TwoGenerations$Plain" (1 : Nat) ({ cls := "TwoGenerations$Thing", name := "<init>", desc := "(I)V" } : Jvm.MethodName) ∈ TT := TT_in (k := 302) rfl rfl
set_option maxRecDepth 20000 in
theorem m_303 : Jvm.Cond.instanceMethod ({ cls := "TwoGenerations$Thing", name := "<init>", desc := "(I)V" } : Jvm.MethodName) ∈ TT := TT_in (k := 303) rfl rfl
set_option maxRecDepth 20000 in
theorem m_304 : Jvm.Cond.code ({ cls := "TwoGenerations$Thing", name := "<init>", desc := "(I)V" } : Jvm.MethodName) prog_4_method_1_code (2 : Nat) (Option.none : Option Jvm.ClassFile.FieldType) ∈ TT := TT_in (k := 304) rfl rfl
set_option maxRecDepth 20000 in
theorem m_305 : Jvm.Cond.methodLinkNest "TwoGenerations$Thing" (1 : Nat) ({ cls := "TwoGenerations$Value", name := "<init>", desc := "()V" } : Jvm.MethodName) "TwoGenerations" ∈ TT := TT_in (k := 305) rfl rfl
set_option maxRecDepth 20000 in
theorem m_306 : Jvm.Cond.instanceMethod ({ cls := "TwoGenerations$Value", name := "<init>", desc := "()V" } : Jvm.MethodName) ∈ TT := TT_in (k := 306) rfl rfl
set_option maxRecDepth 20000 in
theorem m_307 : Jvm.Cond.code ({ cls := "TwoGenerations$Value", name := "<init>", desc := "()V" } : Jvm.MethodName) prog_6_method_1_code (1 : Nat) (Option.none : Option Jvm.ClassFile.FieldType) ∈ TT := TT_in (k := 307) rfl rfl
set_option maxRecDepth 20000 in
theorem m_308 : Jvm.Cond.methodLink "TwoGenerations$Value" (1 : Nat) ({ cls := "java/lang/Object", name := "<init>", desc := "()V" } : Jvm.MethodName) ∈ TT := TT_in (k := 308) rfl rfl
set_option maxRecDepth 20000 in
theorem m_309 : Jvm.Cond.classLink "TwoGenerations$Plain" (7 : Nat) "TwoGenerations$Value" ∈ TT := TT_in (k := 309) rfl rfl
set_option maxRecDepth 20000 in
theorem m_310 : Jvm.Cond.fieldLink "TwoGenerations$Plain" (9 : Nat) "TwoGenerations$Plain" "contents" "[LTwoGenerations$Value;" ∈ TT := TT_in (k := 310) rfl rfl
set_option maxRecDepth 20000 in
theorem m_311 : Jvm.Cond.fieldLink "TwoGenerations" (80 : Nat) "TwoGenerations$Plain" "contents" "[LTwoGenerations$Value;" ∈ TT := TT_in (k := 311) rfl rfl
set_option maxRecDepth 20000 in
theorem m_312 : Jvm.Cond.fieldLink "TwoGenerations$Trace" (45 : Nat) "TwoGenerations$Plain" "contents" "[LTwoGenerations$Value;" ∈ TT := TT_in (k := 312) rfl rfl
set_option maxRecDepth 20000 in
theorem m_313 : Jvm.Cond.fieldLink "TwoGenerations$Thing" (7 : Nat) "TwoGenerations$Thing" "size" "I" ∈ TT := TT_in (k := 313) rfl rfl
set_option maxRecDepth 20000 in
theorem m_314 : Jvm.Cond.fieldLink "TwoGenerations$Generation" (25 : Nat) "TwoGenerations$Thing" "size" "I" ∈ TT := TT_in (k := 314) rfl rfl
set_option maxRecDepth 20000 in
theorem m_315 : Jvm.Cond.fieldLink "TwoGenerations$Trace" (26 : Nat) "TwoGenerations$Thing" "size" "I" ∈ TT := TT_in (k := 315) rfl rfl
set_option maxRecDepth 20000 in
theorem m_316 : Jvm.Cond.fieldLink "TwoGenerations" (149 : Nat) "TwoGenerations$Thing" "size" "I" ∈ TT := TT_in (k := 316) rfl rfl
set_option maxRecDepth 20000 in
theorem m_317 : Jvm.Cond.fieldLink "TwoGenerations$Generation" (44 : Nat) "TwoGenerations$Thing" "isOld" "Z" ∈ TT := TT_in (k := 317) rfl rfl
set_option maxRecDepth 20000 in
theorem m_318 : Jvm.Cond.fieldLink "TwoGenerations" (109 : Nat) "TwoGenerations$Thing" "isOld" "Z" ∈ TT := TT_in (k := 318) rfl rfl
set_option maxRecDepth 20000 in
theorem m_319 : Jvm.Cond.fieldLink "TwoGenerations$Weak" (13 : Nat) "TwoGenerations$Thing" "isReached" "Z" ∈ TT := TT_in (k := 319) rfl rfl
set_option maxRecDepth 20000 in
theorem m_320 : Jvm.Cond.fieldLink "TwoGenerations$Trace" (19 : Nat) "TwoGenerations$Thing" "isReached" "Z" ∈ TT := TT_in (k := 320) rfl rfl
set_option maxRecDepth 20000 in
theorem m_321 : Jvm.Cond.fieldLink "TwoGenerations$Generation" (28 : Nat) "TwoGenerations$Thing" "isReached" "Z" ∈ TT := TT_in (k := 321) rfl rfl
set_option maxRecDepth 20000 in
theorem m_322 : Jvm.Cond.laysFinal "TwoGenerations$Plain" "TwoGenerations$Plain" "contents" "[LTwoGenerations$Value;" ∈ TT := TT_in (k := 322) rfl rfl
set_option maxRecDepth 20000 in
theorem m_323 : Jvm.Cond.soleField "TwoGenerations$Plain" "contents" ∈ TT := TT_in (k := 323) rfl rfl
set_option maxRecDepth 20000 in
theorem m_324 : Jvm.Cond.laysFinal "TwoGenerations$Plain" "TwoGenerations$Thing" "size" "I" ∈ TT := TT_in (k := 324) rfl rfl
set_option maxRecDepth 20000 in
theorem m_325 : Jvm.Cond.soleField "TwoGenerations$Thing" "size" ∈ TT := TT_in (k := 325) rfl rfl
set_option maxRecDepth 20000 in
theorem m_326 : Jvm.Cond.lays "TwoGenerations$Plain" "TwoGenerations$Thing" "isOld" "Z" ∈ TT := TT_in (k := 326) rfl rfl
set_option maxRecDepth 20000 in
theorem m_327 : Jvm.Cond.soleField "TwoGenerations$Thing" "isOld" ∈ TT := TT_in (k := 327) rfl rfl
set_option maxRecDepth 20000 in
theorem m_328 : Jvm.Cond.lays "TwoGenerations$Plain" "TwoGenerations$Thing" "isReached" "Z" ∈ TT := TT_in (k := 328) rfl rfl
set_option maxRecDepth 20000 in
theorem m_329 : Jvm.Cond.soleField "TwoGenerations$Thing" "isReached" ∈ TT := TT_in (k := 329) rfl rfl
set_option maxRecDepth 20000 in
theorem m_330 : Jvm.Cond.superclass "TwoGenerations$Plain" "TwoGenerations$Thing" ∈ TT := TT_in (k := 330) rfl rfl
set_option maxRecDepth 20000 in
theorem m_331 : Jvm.Cond.methodLink "TwoGenerations" (56 : Nat) ({ cls := "TwoGenerations", name := "bear", desc := "(ILTwoGenerations$Thing;)V" } : Jvm.MethodName) ∈ TT := TT_in (k := 331) rfl rfl
set_option maxRecDepth 20000 in
theorem m_333 : Jvm.Cond.instanceMethod ({ cls := "TwoGenerations", name := "bear", desc := "(ILTwoGenerations$Thing;)V" } : Jvm.MethodName) ∈ TT := TT_in (k := 333) rfl rfl
set_option maxRecDepth 20000 in
theorem m_334 : Jvm.Cond.code ({ cls := "TwoGenerations", name := "bear", desc := "(ILTwoGenerations$Thing;)V" } : Jvm.MethodName) prog_1_method_26_code (3 : Nat) (Option.none : Option Jvm.ClassFile.FieldType) ∈ TT := TT_in (k := 334) rfl rfl
set_option maxRecDepth 20000 in
theorem m_335 : Jvm.Cond.methodLink "TwoGenerations" (152 : Nat) ({ cls := "TwoGenerations$Generation", name := "free", desc := "()I" } : Jvm.MethodName) ∈ TT := TT_in (k := 335) rfl rfl
set_option maxRecDepth 20000 in
theorem m_336 : Jvm.Cond.instanceMethod ({ cls := "TwoGenerations$Generation", name := "free", desc := "()I" } : Jvm.MethodName) ∈ TT := TT_in (k := 336) rfl rfl
set_option maxRecDepth 20000 in
theorem m_337 : Jvm.Cond.selects "TwoGenerations$Generation" ({ cls := "TwoGenerations$Generation", name := "free", desc := "()I" } : Jvm.MethodName) ({ cls := "TwoGenerations$Generation", name := "free", desc := "()I" } : Jvm.MethodName) ∈ TT := TT_in (k := 337) rfl rfl
set_option maxRecDepth 20000 in
theorem m_338 : Jvm.Cond.code ({ cls := "TwoGenerations$Generation", name := "free", desc := "()I" } : Jvm.MethodName) prog_2_method_2_code (1 : Nat) (Option.some Jvm.ClassFile.FieldType.int) ∈ TT := TT_in (k := 338) rfl rfl
set_option maxRecDepth 20000 in
theorem m_339 : Jvm.Cond.methodLink "TwoGenerations" (128 : Nat) ({ cls := "TwoGenerations", name := "collectYoung", desc := "()I" } : Jvm.MethodName) ∈ TT := TT_in (k := 339) rfl rfl
set_option maxRecDepth 20000 in
theorem m_341 : Jvm.Cond.instanceMethod ({ cls := "TwoGenerations", name := "collectYoung", desc := "()I" } : Jvm.MethodName) ∈ TT := TT_in (k := 341) rfl rfl
set_option maxRecDepth 20000 in
theorem m_342 : Jvm.Cond.code ({ cls := "TwoGenerations", name := "collectYoung", desc := "()I" } : Jvm.MethodName) prog_1_method_27_code (2 : Nat) (Option.some Jvm.ClassFile.FieldType.int) ∈ TT := TT_in (k := 342) rfl rfl
set_option maxRecDepth 20000 in
theorem m_343 : Jvm.Cond.methodLink "TwoGenerations" (161 : Nat) ({ cls := "TwoGenerations$Trace", name := "findAll", desc := "(LTwoGenerations$Generation;)V" } : Jvm.MethodName) ∈ TT := TT_in (k := 343) rfl rfl
set_option maxRecDepth 20000 in
theorem m_344 : Jvm.Cond.instanceMethod ({ cls := "TwoGenerations$Trace", name := "findAll", desc := "(LTwoGenerations$Generation;)V" } : Jvm.MethodName) ∈ TT := TT_in (k := 344) rfl rfl
set_option maxRecDepth 20000 in
theorem m_345 : Jvm.Cond.selects "TwoGenerations$Trace" ({ cls := "TwoGenerations$Trace", name := "findAll", desc := "(LTwoGenerations$Generation;)V" } : Jvm.MethodName) ({ cls := "TwoGenerations$Trace", name := "findAll", desc := "(LTwoGenerations$Generation;)V" } : Jvm.MethodName) ∈ TT := TT_in (k := 345) rfl rfl
set_option maxRecDepth 20000 in
theorem m_346 : Jvm.Cond.code ({ cls := "TwoGenerations$Trace", name := "findAll", desc := "(LTwoGenerations$Generation;)V" } : Jvm.MethodName) prog_5_method_4_code (3 : Nat) (Option.none : Option Jvm.ClassFile.FieldType) ∈ TT := TT_in (k := 346) rfl rfl
set_option maxRecDepth 20000 in
theorem m_347 : Jvm.Cond.methodLink "TwoGenerations" (165 : Nat) ({ cls := "TwoGenerations$Generation", name := "reachedCells", desc := "()I" } : Jvm.MethodName) ∈ TT := TT_in (k := 347) rfl rfl
set_option maxRecDepth 20000 in
theorem m_348 : Jvm.Cond.instanceMethod ({ cls := "TwoGenerations$Generation", name := "reachedCells", desc := "()I" } : Jvm.MethodName) ∈ TT := TT_in (k := 348) rfl rfl
set_option maxRecDepth 20000 in
theorem m_349 : Jvm.Cond.selects "TwoGenerations$Generation" ({ cls := "TwoGenerations$Generation", name := "reachedCells", desc := "()I" } : Jvm.MethodName) ({ cls := "TwoGenerations$Generation", name := "reachedCells", desc := "()I" } : Jvm.MethodName) ∈ TT := TT_in (k := 349) rfl rfl
set_option maxRecDepth 20000 in
theorem m_350 : Jvm.Cond.code ({ cls := "TwoGenerations$Generation", name := "reachedCells", desc := "()I" } : Jvm.MethodName) prog_2_method_5_code (4 : Nat) (Option.some Jvm.ClassFile.FieldType.int) ∈ TT := TT_in (k := 350) rfl rfl
set_option maxRecDepth 20000 in
theorem m_351 : Jvm.Cond.methodLink "TwoGenerations" (171 : Nat) ({ cls := "TwoGenerations$Generation", name := "adoptReached", desc := "(LTwoGenerations$Generation;)V" } : Jvm.MethodName) ∈ TT := TT_in (k := 351) rfl rfl
set_option maxRecDepth 20000 in
theorem m_352 : Jvm.Cond.instanceMethod ({ cls := "TwoGenerations$Generation", name := "adoptReached", desc := "(LTwoGenerations$Generation;)V" } : Jvm.MethodName) ∈ TT := TT_in (k := 352) rfl rfl
set_option maxRecDepth 20000 in
theorem m_353 : Jvm.Cond.selects "TwoGenerations$Generation" ({ cls := "TwoGenerations$Generation", name := "adoptReached", desc := "(LTwoGenerations$Generation;)V" } : Jvm.MethodName) ({ cls := "TwoGenerations$Generation", name := "adoptReached", desc := "(LTwoGenerations$Generation;)V" } : Jvm.MethodName) ∈ TT := TT_in (k := 353) rfl rfl
set_option maxRecDepth 20000 in
theorem m_354 : Jvm.Cond.code ({ cls := "TwoGenerations$Generation", name := "adoptReached", desc := "(LTwoGenerations$Generation;)V" } : Jvm.MethodName) prog_2_method_8_code (4 : Nat) (Option.none : Option Jvm.ClassFile.FieldType) ∈ TT := TT_in (k := 354) rfl rfl
set_option maxRecDepth 20000 in
theorem m_355 : Jvm.Cond.methodLink "TwoGenerations" (174 : Nat) ({ cls := "TwoGenerations$Generation", name := "empty", desc := "()V" } : Jvm.MethodName) ∈ TT := TT_in (k := 355) rfl rfl
set_option maxRecDepth 20000 in
theorem m_356 : Jvm.Cond.classLink "TwoGenerations" (132 : Nat) "java/lang/IllegalStateException" ∈ TT := TT_in (k := 356) rfl rfl
set_option maxRecDepth 20000 in
theorem m_357 : Jvm.Cond.instantiable "java/lang/IllegalStateException" (6 : Nat) ∈ TT := TT_in (k := 357) rfl rfl
set_option maxRecDepth 20000 in
theorem m_358 : Jvm.Cond.castable "java/lang/IllegalStateException" "java/lang/IllegalStateException" ∈ TT := TT_in (k := 358) rfl rfl
set_option maxRecDepth 20000 in
theorem m_359 : Jvm.Cond.selects "java/lang/IllegalStateException" ({ cls := "java/lang/Throwable", name := "fillInStackTrace", desc := "(I)Ljava/lang/Throwable;" } : Jvm.MethodName) ({ cls := "java/lang/Throwable", name := "fillInStackTrace", desc := "(I)Ljava/lang/Throwable;" } : Jvm.MethodName) ∈ TT := TT_in (k := 359) rfl rfl
set_option maxRecDepth 20000 in
theorem m_360 : Jvm.Cond.lays "java/lang/IllegalStateException" "java/lang/Throwable" "cause" "Ljava/lang/Throwable;" ∈ TT := TT_in (k := 360) rfl rfl
set_option maxRecDepth 20000 in
theorem m_361 : Jvm.Cond.lays "java/lang/IllegalStateException" "java/lang/Throwable" "stackTrace" "[Ljava/lang/StackTraceElement;" ∈ TT := TT_in (k := 361) rfl rfl
set_option maxRecDepth 20000 in
theorem m_362 : Jvm.Cond.lays "java/lang/IllegalStateException" "java/lang/Throwable" "suppressedExceptions" "Ljava/util/List;" ∈ TT := TT_in (k := 362) rfl rfl
set_option maxRecDepth 20000 in
theorem m_363 : Jvm.Cond.lays "java/lang/IllegalStateException" "java/lang/Throwable" "detailMessage" "Ljava/lang/String;" ∈ TT := TT_in (k := 363) rfl rfl
set_option maxRecDepth 20000 in
theorem m_364 : Jvm.Cond.lays "java/lang/IllegalStateException" "java/lang/Throwable" "backtrace" "Ljava/lang/Object;" ∈ TT := TT_in (k := 364) rfl rfl
set_option maxRecDepth 20000 in
theorem m_365 : Jvm.Cond.stringRef "TwoGenerations" (134 : Nat) "the old generation is full" ∈ TT := TT_in (k := 365) rfl rfl
set_option maxRecDepth 20000 in
theorem m_366 : Jvm.Cond.methodLink "TwoGenerations" (136 : Nat) ({ cls := "java/lang/IllegalStateException", name := "<init>", desc := "(Ljava/lang/String;)V" } : Jvm.MethodName) ∈ TT := TT_in (k := 366) rfl rfl
set_option maxRecDepth 20000 in
theorem m_367 : Jvm.Cond.instanceMethod ({ cls := "java/lang/IllegalStateException", name := "<init>", desc := "(Ljava/lang/String;)V" } : Jvm.MethodName) ∈ TT := TT_in (k := 367) rfl rfl
set_option maxRecDepth 20000 in
theorem m_368 : Jvm.Cond.code ({ cls := "java/lang/IllegalStateException", name := "<init>", desc := "(Ljava/lang/String;)V" } : Jvm.MethodName) prog_13_method_2_code (2 : Nat) (Option.none : Option Jvm.ClassFile.FieldType) ∈ TT := TT_in (k := 368) rfl rfl
set_option maxRecDepth 20000 in
theorem m_369 : Jvm.Cond.methodLink "java/lang/IllegalStateException" (7 : Nat) ({ cls := "java/lang/RuntimeException", name := "<init>", desc := "(Ljava/lang/String;)V" } : Jvm.MethodName) ∈ TT := TT_in (k := 369) rfl rfl
set_option maxRecDepth 20000 in
theorem m_370 : Jvm.Cond.lays "java/lang/IllegalStateException" "java/lang/Throwable" "depth" "I" ∈ TT := TT_in (k := 370) rfl rfl
set_option maxRecDepth 20000 in
theorem m_371 : Jvm.Cond.superclass "java/lang/IllegalStateException" "java/lang/RuntimeException" ∈ TT := TT_in (k := 371) rfl rfl
set_option maxRecDepth 20000 in
theorem m_372 : Jvm.Cond.methodLink "TwoGenerations" (155 : Nat) ({ cls := "TwoGenerations$Generation", name := "add", desc := "(LTwoGenerations$Thing;)V" } : Jvm.MethodName) ∈ TT := TT_in (k := 372) rfl rfl
set_option maxRecDepth 20000 in
theorem m_373 : Jvm.Cond.methodLink "TwoGenerationsLaw" (62 : Nat) ({ cls := "TwoGenerationsLaw", name := "weak", desc := "(LTwoGenerations;II)I" } : Jvm.MethodName) ∈ TT := TT_in (k := 373) rfl rfl
set_option maxRecDepth 20000 in
theorem m_374 : Jvm.Cond.static ({ cls := "TwoGenerationsLaw", name := "weak", desc := "(LTwoGenerations;II)I" } : Jvm.MethodName) ∈ TT := TT_in (k := 374) rfl rfl
set_option maxRecDepth 20000 in
theorem m_375 : Jvm.Cond.codeWith ({ cls := "TwoGenerationsLaw", name := "weak", desc := "(LTwoGenerations;II)I" } : Jvm.MethodName) method_4_code (4 : Nat) (Option.some Jvm.ClassFile.FieldType.int) [((0 : Nat), (6 : Nat), (9 : Nat), (13 : Nat)), ((0 : Nat), (6 : Nat), (12 : Nat), (15 : Nat))] ∈ TT := TT_in (k := 375) rfl rfl
set_option maxRecDepth 20000 in
theorem m_376 : Jvm.Cond.methodLink "TwoGenerationsLaw" (17 : Nat) ({ cls := "TwoGenerations", name := "weak", desc := "(II)V" } : Jvm.MethodName) ∈ TT := TT_in (k := 376) rfl rfl
set_option maxRecDepth 20000 in
theorem m_377 : Jvm.Cond.instanceMethod ({ cls := "TwoGenerations", name := "weak", desc := "(II)V" } : Jvm.MethodName) ∈ TT := TT_in (k := 377) rfl rfl
set_option maxRecDepth 20000 in
theorem m_378 : Jvm.Cond.selects "TwoGenerations" ({ cls := "TwoGenerations", name := "weak", desc := "(II)V" } : Jvm.MethodName) ({ cls := "TwoGenerations", name := "weak", desc := "(II)V" } : Jvm.MethodName) ∈ TT := TT_in (k := 378) rfl rfl
set_option maxRecDepth 20000 in
theorem m_379 : Jvm.Cond.code ({ cls := "TwoGenerations", name := "weak", desc := "(II)V" } : Jvm.MethodName) prog_1_method_3_code (4 : Nat) (Option.none : Option Jvm.ClassFile.FieldType) ∈ TT := TT_in (k := 379) rfl rfl
set_option maxRecDepth 20000 in
theorem m_380 : Jvm.Cond.stringRef "TwoGenerations" (64 : Nat) "no such register, or no object to aim at" ∈ TT := TT_in (k := 380) rfl rfl
set_option maxRecDepth 20000 in
theorem m_381 : Jvm.Cond.classLink "TwoGenerations" (66 : Nat) "TwoGenerations$Weak" ∈ TT := TT_in (k := 381) rfl rfl
set_option maxRecDepth 20000 in
theorem m_382 : Jvm.Cond.instantiable "TwoGenerations$Weak" (4 : Nat) ∈ TT := TT_in (k := 382) rfl rfl
set_option maxRecDepth 20000 in
theorem m_383 : Jvm.Cond.methodLink "TwoGenerations" (68 : Nat) ({ cls := "TwoGenerations$Weak", name := "<init>", desc := "(LTwoGenerations$Thing;)V" } : Jvm.MethodName) ∈ TT := TT_in (k := 383) rfl rfl
set_option maxRecDepth 20000 in
theorem m_384 : Jvm.Cond.instanceMethod ({ cls := "TwoGenerations$Weak", name := "<init>", desc := "(LTwoGenerations$Thing;)V" } : Jvm.MethodName) ∈ TT := TT_in (k := 384) rfl rfl
set_option maxRecDepth 20000 in
theorem m_385 : Jvm.Cond.code ({ cls := "TwoGenerations$Weak", name := "<init>", desc := "(LTwoGenerations$Thing;)V" } : Jvm.MethodName) prog_7_method_1_code (2 : Nat) (Option.none : Option Jvm.ClassFile.FieldType) ∈ TT := TT_in (k := 385) rfl rfl
set_option maxRecDepth 20000 in
theorem m_386 : Jvm.Cond.methodLink "TwoGenerations$Weak" (1 : Nat) ({ cls := "TwoGenerations$Thing", name := "<init>", desc := "(I)V" } : Jvm.MethodName) ∈ TT := TT_in (k := 386) rfl rfl
set_option maxRecDepth 20000 in
theorem m_387 : Jvm.Cond.fieldLink "TwoGenerations$Weak" (7 : Nat) "TwoGenerations$Weak" "target" "LTwoGenerations$Thing;" ∈ TT := TT_in (k := 387) rfl rfl
set_option maxRecDepth 20000 in
theorem m_388 : Jvm.Cond.fieldLink "TwoGenerations" (89 : Nat) "TwoGenerations$Weak" "target" "LTwoGenerations$Thing;" ∈ TT := TT_in (k := 388) rfl rfl
set_option maxRecDepth 20000 in
theorem m_389 : Jvm.Cond.lays "TwoGenerations$Weak" "TwoGenerations$Weak" "target" "LTwoGenerations$Thing;" ∈ TT := TT_in (k := 389) rfl rfl
set_option maxRecDepth 20000 in
theorem m_390 : Jvm.Cond.soleField "TwoGenerations$Weak" "target" ∈ TT := TT_in (k := 390) rfl rfl
set_option maxRecDepth 20000 in
theorem m_391 : Jvm.Cond.laysFinal "TwoGenerations$Weak" "TwoGenerations$Thing" "size" "I" ∈ TT := TT_in (k := 391) rfl rfl
set_option maxRecDepth 20000 in
theorem m_392 : Jvm.Cond.lays "TwoGenerations$Weak" "TwoGenerations$Thing" "isOld" "Z" ∈ TT := TT_in (k := 392) rfl rfl
set_option maxRecDepth 20000 in
theorem m_393 : Jvm.Cond.lays "TwoGenerations$Weak" "TwoGenerations$Thing" "isReached" "Z" ∈ TT := TT_in (k := 393) rfl rfl
set_option maxRecDepth 20000 in
theorem m_394 : Jvm.Cond.superclass "TwoGenerations$Weak" "TwoGenerations$Thing" ∈ TT := TT_in (k := 394) rfl rfl
set_option maxRecDepth 20000 in
theorem m_395 : Jvm.Cond.methodLink "TwoGenerationsLaw" (65 : Nat) ({ cls := "TwoGenerationsLaw", name := "load", desc := "(LTwoGenerations;III)I" } : Jvm.MethodName) ∈ TT := TT_in (k := 395) rfl rfl
set_option maxRecDepth 20000 in
theorem m_396 : Jvm.Cond.static ({ cls := "TwoGenerationsLaw", name := "load", desc := "(LTwoGenerations;III)I" } : Jvm.MethodName) ∈ TT := TT_in (k := 396) rfl rfl
set_option maxRecDepth 20000 in
theorem m_397 : Jvm.Cond.codeWith ({ cls := "TwoGenerationsLaw", name := "load", desc := "(LTwoGenerations;III)I" } : Jvm.MethodName) method_5_code (5 : Nat) (Option.some Jvm.ClassFile.FieldType.int) [((0 : Nat), (7 : Nat), (10 : Nat), (13 : Nat))] ∈ TT := TT_in (k := 397) rfl rfl
set_option maxRecDepth 20000 in
theorem m_398 : Jvm.Cond.methodLink "TwoGenerationsLaw" (20 : Nat) ({ cls := "TwoGenerations", name := "load", desc := "(III)V" } : Jvm.MethodName) ∈ TT := TT_in (k := 398) rfl rfl
set_option maxRecDepth 20000 in
theorem m_399 : Jvm.Cond.instanceMethod ({ cls := "TwoGenerations", name := "load", desc := "(III)V" } : Jvm.MethodName) ∈ TT := TT_in (k := 399) rfl rfl
set_option maxRecDepth 20000 in
theorem m_400 : Jvm.Cond.selects "TwoGenerations" ({ cls := "TwoGenerations", name := "load", desc := "(III)V" } : Jvm.MethodName) ({ cls := "TwoGenerations", name := "load", desc := "(III)V" } : Jvm.MethodName) ∈ TT := TT_in (k := 400) rfl rfl
set_option maxRecDepth 20000 in
theorem m_401 : Jvm.Cond.code ({ cls := "TwoGenerations", name := "load", desc := "(III)V" } : Jvm.MethodName) prog_1_method_4_code (5 : Nat) (Option.none : Option Jvm.ClassFile.FieldType) ∈ TT := TT_in (k := 401) rfl rfl
set_option maxRecDepth 20000 in
theorem m_402 : Jvm.Cond.methodLink "TwoGenerations" (75 : Nat) ({ cls := "TwoGenerations$Plain", name := "hasField", desc := "(I)Z" } : Jvm.MethodName) ∈ TT := TT_in (k := 402) rfl rfl
set_option maxRecDepth 20000 in
theorem m_403 : Jvm.Cond.instanceMethod ({ cls := "TwoGenerations$Plain", name := "hasField", desc := "(I)Z" } : Jvm.MethodName) ∈ TT := TT_in (k := 403) rfl rfl
set_option maxRecDepth 20000 in
theorem m_404 : Jvm.Cond.selects "TwoGenerations$Plain" ({ cls := "TwoGenerations$Plain", name := "hasField", desc := "(I)Z" } : Jvm.MethodName) ({ cls := "TwoGenerations$Plain", name := "hasField", desc := "(I)Z" } : Jvm.MethodName) ∈ TT := TT_in (k := 404) rfl rfl
set_option maxRecDepth 20000 in
theorem m_405 : Jvm.Cond.code ({ cls := "TwoGenerations$Plain", name := "hasField", desc := "(I)Z" } : Jvm.MethodName) prog_3_method_2_code (2 : Nat) (Option.some Jvm.ClassFile.FieldType.boolean) ∈ TT := TT_in (k := 405) rfl rfl
set_option maxRecDepth 20000 in
theorem m_406 : Jvm.Cond.stringRef "TwoGenerations" (78 : Nat) "no such register or field" ∈ TT := TT_in (k := 406) rfl rfl
set_option maxRecDepth 20000 in
theorem m_407 : Jvm.Cond.methodLink "TwoGenerationsLaw" (69 : Nat) ({ cls := "TwoGenerationsLaw", name := "store", desc := "(LTwoGenerations;III)I" } : Jvm.MethodName) ∈ TT := TT_in (k := 407) rfl rfl
set_option maxRecDepth 20000 in
theorem m_408 : Jvm.Cond.static ({ cls := "TwoGenerationsLaw", name := "store", desc := "(LTwoGenerations;III)I" } : Jvm.MethodName) ∈ TT := TT_in (k := 408) rfl rfl
set_option maxRecDepth 20000 in
theorem m_409 : Jvm.Cond.codeWith ({ cls := "TwoGenerationsLaw", name := "store", desc := "(LTwoGenerations;III)I" } : Jvm.MethodName) method_6_code (5 : Nat) (Option.some Jvm.ClassFile.FieldType.int) [((0 : Nat), (7 : Nat), (10 : Nat), (13 : Nat))] ∈ TT := TT_in (k := 409) rfl rfl
set_option maxRecDepth 20000 in
theorem m_410 : Jvm.Cond.methodLink "TwoGenerationsLaw" (24 : Nat) ({ cls := "TwoGenerations", name := "store", desc := "(III)V" } : Jvm.MethodName) ∈ TT := TT_in (k := 410) rfl rfl
set_option maxRecDepth 20000 in
theorem m_411 : Jvm.Cond.instanceMethod ({ cls := "TwoGenerations", name := "store", desc := "(III)V" } : Jvm.MethodName) ∈ TT := TT_in (k := 411) rfl rfl
set_option maxRecDepth 20000 in
theorem m_412 : Jvm.Cond.selects "TwoGenerations" ({ cls := "TwoGenerations", name := "store", desc := "(III)V" } : Jvm.MethodName) ({ cls := "TwoGenerations", name := "store", desc := "(III)V" } : Jvm.MethodName) ∈ TT := TT_in (k := 412) rfl rfl
set_option maxRecDepth 20000 in
theorem m_413 : Jvm.Cond.code ({ cls := "TwoGenerations", name := "store", desc := "(III)V" } : Jvm.MethodName) prog_1_method_5_code (5 : Nat) (Option.none : Option Jvm.ClassFile.FieldType) ∈ TT := TT_in (k := 413) rfl rfl
set_option maxRecDepth 20000 in
theorem m_414 : Jvm.Cond.methodLink "TwoGenerationsLaw" (72 : Nat) ({ cls := "TwoGenerationsLaw", name := "target", desc := "(LTwoGenerations;II)I" } : Jvm.MethodName) ∈ TT := TT_in (k := 414) rfl rfl
set_option maxRecDepth 20000 in
theorem m_415 : Jvm.Cond.static ({ cls := "TwoGenerationsLaw", name := "target", desc := "(LTwoGenerations;II)I" } : Jvm.MethodName) ∈ TT := TT_in (k := 415) rfl rfl
set_option maxRecDepth 20000 in
theorem m_416 : Jvm.Cond.codeWith ({ cls := "TwoGenerationsLaw", name := "target", desc := "(LTwoGenerations;II)I" } : Jvm.MethodName) method_7_code (4 : Nat) (Option.some Jvm.ClassFile.FieldType.int) [((0 : Nat), (6 : Nat), (9 : Nat), (13 : Nat))] ∈ TT := TT_in (k := 416) rfl rfl
set_option maxRecDepth 20000 in
theorem m_417 : Jvm.Cond.methodLink "TwoGenerationsLaw" (27 : Nat) ({ cls := "TwoGenerations", name := "target", desc := "(II)V" } : Jvm.MethodName) ∈ TT := TT_in (k := 417) rfl rfl
set_option maxRecDepth 20000 in
theorem m_418 : Jvm.Cond.instanceMethod ({ cls := "TwoGenerations", name := "target", desc := "(II)V" } : Jvm.MethodName) ∈ TT := TT_in (k := 418) rfl rfl
set_option maxRecDepth 20000 in
theorem m_419 : Jvm.Cond.selects "TwoGenerations" ({ cls := "TwoGenerations", name := "target", desc := "(II)V" } : Jvm.MethodName) ({ cls := "TwoGenerations", name := "target", desc := "(II)V" } : Jvm.MethodName) ∈ TT := TT_in (k := 419) rfl rfl
set_option maxRecDepth 20000 in
theorem m_420 : Jvm.Cond.code ({ cls := "TwoGenerations", name := "target", desc := "(II)V" } : Jvm.MethodName) prog_1_method_6_code (4 : Nat) (Option.none : Option Jvm.ClassFile.FieldType) ∈ TT := TT_in (k := 420) rfl rfl
set_option maxRecDepth 20000 in
theorem m_421 : Jvm.Cond.methodLink "TwoGenerations" (83 : Nat) ({ cls := "TwoGenerations", name := "weakIn", desc := "(I)LTwoGenerations$Weak;" } : Jvm.MethodName) ∈ TT := TT_in (k := 421) rfl rfl
set_option maxRecDepth 20000 in
theorem m_423 : Jvm.Cond.instanceMethod ({ cls := "TwoGenerations", name := "weakIn", desc := "(I)LTwoGenerations$Weak;" } : Jvm.MethodName) ∈ TT := TT_in (k := 423) rfl rfl
set_option maxRecDepth 20000 in
theorem m_424 : Jvm.Cond.code ({ cls := "TwoGenerations", name := "weakIn", desc := "(I)LTwoGenerations$Weak;" } : Jvm.MethodName) prog_1_method_25_code (4 : Nat) (Option.some (Jvm.ClassFile.FieldType.object "TwoGenerations$Weak")) ∈ TT := TT_in (k := 424) rfl rfl
set_option maxRecDepth 20000 in
theorem m_425 : Jvm.Cond.stringRef "TwoGenerations" (87 : Nat) "no such register, or no weak cell" ∈ TT := TT_in (k := 425) rfl rfl
set_option maxRecDepth 20000 in
theorem m_426 : Jvm.Cond.methodLink "TwoGenerationsLaw" (75 : Nat) ({ cls := "TwoGenerationsLaw", name := "number", desc := "(LTwoGenerations;II)I" } : Jvm.MethodName) ∈ TT := TT_in (k := 426) rfl rfl
set_option maxRecDepth 20000 in
theorem m_427 : Jvm.Cond.static ({ cls := "TwoGenerationsLaw", name := "number", desc := "(LTwoGenerations;II)I" } : Jvm.MethodName) ∈ TT := TT_in (k := 427) rfl rfl
set_option maxRecDepth 20000 in
theorem m_428 : Jvm.Cond.codeWith ({ cls := "TwoGenerationsLaw", name := "number", desc := "(LTwoGenerations;II)I" } : Jvm.MethodName) method_8_code (4 : Nat) (Option.some Jvm.ClassFile.FieldType.int) [((0 : Nat), (6 : Nat), (9 : Nat), (13 : Nat))] ∈ TT := TT_in (k := 428) rfl rfl
set_option maxRecDepth 20000 in
theorem m_429 : Jvm.Cond.methodLink "TwoGenerationsLaw" (30 : Nat) ({ cls := "TwoGenerations", name := "number", desc := "(II)V" } : Jvm.MethodName) ∈ TT := TT_in (k := 429) rfl rfl
set_option maxRecDepth 20000 in
theorem m_430 : Jvm.Cond.instanceMethod ({ cls := "TwoGenerations", name := "number", desc := "(II)V" } : Jvm.MethodName) ∈ TT := TT_in (k := 430) rfl rfl
set_option maxRecDepth 20000 in
theorem m_431 : Jvm.Cond.selects "TwoGenerations" ({ cls := "TwoGenerations", name := "number", desc := "(II)V" } : Jvm.MethodName) ({ cls := "TwoGenerations", name := "number", desc := "(II)V" } : Jvm.MethodName) ∈ TT := TT_in (k := 431) rfl rfl
set_option maxRecDepth 20000 in
theorem m_432 : Jvm.Cond.code ({ cls := "TwoGenerations", name := "number", desc := "(II)V" } : Jvm.MethodName) prog_1_method_7_code (3 : Nat) (Option.none : Option Jvm.ClassFile.FieldType) ∈ TT := TT_in (k := 432) rfl rfl
set_option maxRecDepth 20000 in
theorem m_433 : Jvm.Cond.constant "TwoGenerations" (93 : Nat) (-1073741824 : Int32) ∈ TT := TT_in (k := 433) rfl rfl
set_option maxRecDepth 20000 in
theorem m_434 : Jvm.Cond.constant "TwoGenerations" (94 : Nat) (1073741823 : Int32) ∈ TT := TT_in (k := 434) rfl rfl
set_option maxRecDepth 20000 in
theorem m_435 : Jvm.Cond.stringRef "TwoGenerations" (95 : Nat) "no such register, or the int is out of range" ∈ TT := TT_in (k := 435) rfl rfl
set_option maxRecDepth 20000 in
theorem m_436 : Jvm.Cond.instantiable "TwoGenerations$Whole" (1 : Nat) ∈ TT := TT_in (k := 436) rfl rfl
set_option maxRecDepth 20000 in
theorem m_437 : Jvm.Cond.methodLink "TwoGenerations" (99 : Nat) ({ cls := "TwoGenerations$Whole", name := "<init>", desc := "(I)V" } : Jvm.MethodName) ∈ TT := TT_in (k := 437) rfl rfl
set_option maxRecDepth 20000 in
theorem m_438 : Jvm.Cond.instanceMethod ({ cls := "TwoGenerations$Whole", name := "<init>", desc := "(I)V" } : Jvm.MethodName) ∈ TT := TT_in (k := 438) rfl rfl
set_option maxRecDepth 20000 in
theorem m_439 : Jvm.Cond.code ({ cls := "TwoGenerations$Whole", name := "<init>", desc := "(I)V" } : Jvm.MethodName) prog_8_method_1_code (2 : Nat) (Option.none : Option Jvm.ClassFile.FieldType) ∈ TT := TT_in (k := 439) rfl rfl
set_option maxRecDepth 20000 in
theorem m_440 : Jvm.Cond.methodLinkNest "TwoGenerations$Whole" (1 : Nat) ({ cls := "TwoGenerations$Value", name := "<init>", desc := "()V" } : Jvm.MethodName) "TwoGenerations" ∈ TT := TT_in (k := 440) rfl rfl
set_option maxRecDepth 20000 in
theorem m_441 : Jvm.Cond.fieldLink "TwoGenerations$Whole" (7 : Nat) "TwoGenerations$Whole" "number" "I" ∈ TT := TT_in (k := 441) rfl rfl
set_option maxRecDepth 20000 in
theorem m_442 : Jvm.Cond.fieldLink "TwoGenerations" (106 : Nat) "TwoGenerations$Whole" "number" "I" ∈ TT := TT_in (k := 442) rfl rfl
set_option maxRecDepth 20000 in
theorem m_443 : Jvm.Cond.laysFinal "TwoGenerations$Whole" "TwoGenerations$Whole" "number" "I" ∈ TT := TT_in (k := 443) rfl rfl
set_option maxRecDepth 20000 in
theorem m_444 : Jvm.Cond.soleField "TwoGenerations$Whole" "number" ∈ TT := TT_in (k := 444) rfl rfl
set_option maxRecDepth 20000 in
theorem m_445 : Jvm.Cond.superclass "TwoGenerations$Whole" "TwoGenerations$Value" ∈ TT := TT_in (k := 445) rfl rfl
set_option maxRecDepth 20000 in
theorem m_446 : Jvm.Cond.methodLink "TwoGenerationsLaw" (78 : Nat) ({ cls := "TwoGenerationsLaw", name := "clear", desc := "(LTwoGenerations;I)I" } : Jvm.MethodName) ∈ TT := TT_in (k := 446) rfl rfl
set_option maxRecDepth 20000 in
theorem m_447 : Jvm.Cond.static ({ cls := "TwoGenerationsLaw", name := "clear", desc := "(LTwoGenerations;I)I" } : Jvm.MethodName) ∈ TT := TT_in (k := 447) rfl rfl
set_option maxRecDepth 20000 in
theorem m_448 : Jvm.Cond.codeWith ({ cls := "TwoGenerationsLaw", name := "clear", desc := "(LTwoGenerations;I)I" } : Jvm.MethodName) method_9_code (3 : Nat) (Option.some Jvm.ClassFile.FieldType.int) [((0 : Nat), (5 : Nat), (8 : Nat), (13 : Nat))] ∈ TT := TT_in (k := 448) rfl rfl
set_option maxRecDepth 20000 in
theorem m_449 : Jvm.Cond.methodLink "TwoGenerationsLaw" (33 : Nat) ({ cls := "TwoGenerations", name := "clear", desc := "(I)V" } : Jvm.MethodName) ∈ TT := TT_in (k := 449) rfl rfl
set_option maxRecDepth 20000 in
theorem m_450 : Jvm.Cond.instanceMethod ({ cls := "TwoGenerations", name := "clear", desc := "(I)V" } : Jvm.MethodName) ∈ TT := TT_in (k := 450) rfl rfl
set_option maxRecDepth 20000 in
theorem m_451 : Jvm.Cond.selects "TwoGenerations" ({ cls := "TwoGenerations", name := "clear", desc := "(I)V" } : Jvm.MethodName) ({ cls := "TwoGenerations", name := "clear", desc := "(I)V" } : Jvm.MethodName) ∈ TT := TT_in (k := 451) rfl rfl
set_option maxRecDepth 20000 in
theorem m_452 : Jvm.Cond.code ({ cls := "TwoGenerations", name := "clear", desc := "(I)V" } : Jvm.MethodName) prog_1_method_8_code (2 : Nat) (Option.none : Option Jvm.ClassFile.FieldType) ∈ TT := TT_in (k := 452) rfl rfl
set_option maxRecDepth 20000 in
theorem m_453 : Jvm.Cond.stringRef "TwoGenerations" (100 : Nat) "no such register" ∈ TT := TT_in (k := 453) rfl rfl
set_option maxRecDepth 20000 in
theorem m_454 : Jvm.Cond.methodLink "TwoGenerationsLaw" (82 : Nat) ({ cls := "TwoGenerationsLaw", name := "move", desc := "(LTwoGenerations;II)I" } : Jvm.MethodName) ∈ TT := TT_in (k := 454) rfl rfl
set_option maxRecDepth 20000 in
theorem m_455 : Jvm.Cond.static ({ cls := "TwoGenerationsLaw", name := "move", desc := "(LTwoGenerations;II)I" } : Jvm.MethodName) ∈ TT := TT_in (k := 455) rfl rfl
set_option maxRecDepth 20000 in
theorem m_456 : Jvm.Cond.codeWith ({ cls := "TwoGenerationsLaw", name := "move", desc := "(LTwoGenerations;II)I" } : Jvm.MethodName) method_10_code (4 : Nat) (Option.some Jvm.ClassFile.FieldType.int) [((0 : Nat), (6 : Nat), (9 : Nat), (13 : Nat))] ∈ TT := TT_in (k := 456) rfl rfl
set_option maxRecDepth 20000 in
theorem m_457 : Jvm.Cond.methodLink "TwoGenerationsLaw" (37 : Nat) ({ cls := "TwoGenerations", name := "move", desc := "(II)V" } : Jvm.MethodName) ∈ TT := TT_in (k := 457) rfl rfl
set_option maxRecDepth 20000 in
theorem m_458 : Jvm.Cond.instanceMethod ({ cls := "TwoGenerations", name := "move", desc := "(II)V" } : Jvm.MethodName) ∈ TT := TT_in (k := 458) rfl rfl
set_option maxRecDepth 20000 in
theorem m_459 : Jvm.Cond.selects "TwoGenerations" ({ cls := "TwoGenerations", name := "move", desc := "(II)V" } : Jvm.MethodName) ({ cls := "TwoGenerations", name := "move", desc := "(II)V" } : Jvm.MethodName) ∈ TT := TT_in (k := 459) rfl rfl
set_option maxRecDepth 20000 in
theorem m_460 : Jvm.Cond.code ({ cls := "TwoGenerations", name := "move", desc := "(II)V" } : Jvm.MethodName) prog_1_method_9_code (3 : Nat) (Option.none : Option Jvm.ClassFile.FieldType) ∈ TT := TT_in (k := 460) rfl rfl
set_option maxRecDepth 20000 in
theorem m_461 : Jvm.Cond.methodLink "TwoGenerationsLaw" (111 : Nat) ({ cls := "TwoGenerationsLaw", name := "small", desc := "(LTwoGenerations;[J)I" } : Jvm.MethodName) ∈ TT := TT_in (k := 461) rfl rfl
set_option maxRecDepth 20000 in
theorem m_462 : Jvm.Cond.static ({ cls := "TwoGenerationsLaw", name := "small", desc := "(LTwoGenerations;[J)I" } : Jvm.MethodName) ∈ TT := TT_in (k := 462) rfl rfl
set_option maxRecDepth 20000 in
theorem m_463 : Jvm.Cond.codeWith ({ cls := "TwoGenerationsLaw", name := "small", desc := "(LTwoGenerations;[J)I" } : Jvm.MethodName) method_11_code (3 : Nat) (Option.some Jvm.ClassFile.FieldType.int) [((0 : Nat), (8 : Nat), (11 : Nat), (15 : Nat))] ∈ TT := TT_in (k := 463) rfl rfl
set_option maxRecDepth 20000 in
theorem m_464 : Jvm.Cond.methodLink "TwoGenerationsLaw" (40 : Nat) ({ cls := "TwoGenerations", name := "small", desc := "()I" } : Jvm.MethodName) ∈ TT := TT_in (k := 464) rfl rfl
set_option maxRecDepth 20000 in
theorem m_465 : Jvm.Cond.instanceMethod ({ cls := "TwoGenerations", name := "small", desc := "()I" } : Jvm.MethodName) ∈ TT := TT_in (k := 465) rfl rfl
set_option maxRecDepth 20000 in
theorem m_466 : Jvm.Cond.selects "TwoGenerations" ({ cls := "TwoGenerations", name := "small", desc := "()I" } : Jvm.MethodName) ({ cls := "TwoGenerations", name := "small", desc := "()I" } : Jvm.MethodName) ∈ TT := TT_in (k := 466) rfl rfl
set_option maxRecDepth 20000 in
theorem m_467 : Jvm.Cond.code ({ cls := "TwoGenerations", name := "small", desc := "()I" } : Jvm.MethodName) prog_1_method_16_code (2 : Nat) (Option.some Jvm.ClassFile.FieldType.int) ∈ TT := TT_in (k := 467) rfl rfl
set_option maxRecDepth 20000 in
theorem m_468 : Jvm.Cond.classLink "TwoGenerationsLaw" (52 : Nat) "TwoGenerationsModel" ∈ TT := TT_in (k := 468) rfl rfl
set_option maxRecDepth 20000 in
theorem m_469 : Jvm.Cond.instantiable "TwoGenerationsModel" (13 : Nat) ∈ TT := TT_in (k := 469) rfl rfl
set_option maxRecDepth 20000 in
theorem m_470 : Jvm.Cond.methodLink "TwoGenerationsLaw" (54 : Nat) ({ cls := "TwoGenerationsModel", name := "<init>", desc := "(III)V" } : Jvm.MethodName) ∈ TT := TT_in (k := 470) rfl rfl
set_option maxRecDepth 20000 in
theorem m_471 : Jvm.Cond.instanceMethod ({ cls := "TwoGenerationsModel", name := "<init>", desc := "(III)V" } : Jvm.MethodName) ∈ TT := TT_in (k := 471) rfl rfl
set_option maxRecDepth 20000 in
theorem m_472 : Jvm.Cond.code ({ cls := "TwoGenerationsModel", name := "<init>", desc := "(III)V" } : Jvm.MethodName) prog_10_method_1_code (5 : Nat) (Option.none : Option Jvm.ClassFile.FieldType) ∈ TT := TT_in (k := 472) rfl rfl
set_option maxRecDepth 20000 in
theorem m_473 : Jvm.Cond.methodLink "TwoGenerationsModel" (1 : Nat) ({ cls := "java/lang/Object", name := "<init>", desc := "()V" } : Jvm.MethodName) ∈ TT := TT_in (k := 473) rfl rfl
set_option maxRecDepth 20000 in
theorem m_474 : Jvm.Cond.constantLong "TwoGenerationsModel" (43 : Nat) (1099511627776 : Int64) ∈ TT := TT_in (k := 474) rfl rfl
set_option maxRecDepth 20000 in
theorem m_475 : Jvm.Cond.fieldLink "TwoGenerationsModel" (45 : Nat) "TwoGenerationsModel" "fault" "I" ∈ TT := TT_in (k := 475) rfl rfl
set_option maxRecDepth 20000 in
theorem m_476 : Jvm.Cond.fieldLink "TwoGenerationsModel" (33 : Nat) "TwoGenerationsModel" "registers" "I" ∈ TT := TT_in (k := 476) rfl rfl
set_option maxRecDepth 20000 in
theorem m_477 : Jvm.Cond.fieldLink "TwoGenerationsModel" (37 : Nat) "TwoGenerationsModel" "youngMost" "I" ∈ TT := TT_in (k := 477) rfl rfl
set_option maxRecDepth 20000 in
theorem m_478 : Jvm.Cond.fieldLink "TwoGenerationsModel" (40 : Nat) "TwoGenerationsModel" "oldMost" "I" ∈ TT := TT_in (k := 478) rfl rfl
set_option maxRecDepth 20000 in
theorem m_479 : Jvm.Cond.fieldLink "TwoGenerationsModel" (7 : Nat) "TwoGenerationsModel" "register" "[J" ∈ TT := TT_in (k := 479) rfl rfl
set_option maxRecDepth 20000 in
theorem m_480 : Jvm.Cond.fieldLink "TwoGenerationsModel" (13 : Nat) "TwoGenerationsModel" "there" "[Z" ∈ TT := TT_in (k := 480) rfl rfl
set_option maxRecDepth 20000 in
theorem m_481 : Jvm.Cond.fieldLink "TwoGenerationsModel" (17 : Nat) "TwoGenerationsModel" "old" "[Z" ∈ TT := TT_in (k := 481) rfl rfl
set_option maxRecDepth 20000 in
theorem m_482 : Jvm.Cond.fieldLink "TwoGenerationsModel" (20 : Nat) "TwoGenerationsModel" "size" "[I" ∈ TT := TT_in (k := 482) rfl rfl
set_option maxRecDepth 20000 in
theorem m_483 : Jvm.Cond.fieldLink "TwoGenerationsModel" (24 : Nat) "TwoGenerationsModel" "aim" "[I" ∈ TT := TT_in (k := 483) rfl rfl
set_option maxRecDepth 20000 in
theorem m_484 : Jvm.Cond.fieldLink "TwoGenerationsModel" (27 : Nat) "TwoGenerationsModel" "field" "[J" ∈ TT := TT_in (k := 484) rfl rfl
set_option maxRecDepth 20000 in
theorem m_485 : Jvm.Cond.fieldLink "TwoGenerationsModel" (30 : Nat) "TwoGenerationsModel" "reached" "[Z" ∈ TT := TT_in (k := 485) rfl rfl
set_option maxRecDepth 20000 in
theorem m_486 : Jvm.Cond.fieldLink "TwoGenerationsModel" (89 : Nat) "TwoGenerationsModel" "smalls" "I" ∈ TT := TT_in (k := 486) rfl rfl
set_option maxRecDepth 20000 in
theorem m_487 : Jvm.Cond.fieldLink "TwoGenerationsModel" (79 : Nat) "TwoGenerationsModel" "greats" "I" ∈ TT := TT_in (k := 487) rfl rfl
set_option maxRecDepth 20000 in
theorem m_488 : Jvm.Cond.lays "TwoGenerationsModel" "TwoGenerationsModel" "fault" "I" ∈ TT := TT_in (k := 488) rfl rfl
set_option maxRecDepth 20000 in
theorem m_489 : Jvm.Cond.soleField "TwoGenerationsModel" "fault" ∈ TT := TT_in (k := 489) rfl rfl
set_option maxRecDepth 20000 in
theorem m_490 : Jvm.Cond.lays "TwoGenerationsModel" "TwoGenerationsModel" "registers" "I" ∈ TT := TT_in (k := 490) rfl rfl
set_option maxRecDepth 20000 in
theorem m_491 : Jvm.Cond.soleField "TwoGenerationsModel" "registers" ∈ TT := TT_in (k := 491) rfl rfl
set_option maxRecDepth 20000 in
theorem m_492 : Jvm.Cond.lays "TwoGenerationsModel" "TwoGenerationsModel" "youngMost" "I" ∈ TT := TT_in (k := 492) rfl rfl
set_option maxRecDepth 20000 in
theorem m_493 : Jvm.Cond.soleField "TwoGenerationsModel" "youngMost" ∈ TT := TT_in (k := 493) rfl rfl
set_option maxRecDepth 20000 in
theorem m_494 : Jvm.Cond.lays "TwoGenerationsModel" "TwoGenerationsModel" "oldMost" "I" ∈ TT := TT_in (k := 494) rfl rfl
set_option maxRecDepth 20000 in
theorem m_495 : Jvm.Cond.soleField "TwoGenerationsModel" "oldMost" ∈ TT := TT_in (k := 495) rfl rfl
set_option maxRecDepth 20000 in
theorem m_496 : Jvm.Cond.laysFinal "TwoGenerationsModel" "TwoGenerationsModel" "register" "[J" ∈ TT := TT_in (k := 496) rfl rfl
set_option maxRecDepth 20000 in
theorem m_497 : Jvm.Cond.soleField "TwoGenerationsModel" "register" ∈ TT := TT_in (k := 497) rfl rfl
set_option maxRecDepth 20000 in
theorem m_498 : Jvm.Cond.laysFinal "TwoGenerationsModel" "TwoGenerationsModel" "there" "[Z" ∈ TT := TT_in (k := 498) rfl rfl
set_option maxRecDepth 20000 in
theorem m_499 : Jvm.Cond.soleField "TwoGenerationsModel" "there" ∈ TT := TT_in (k := 499) rfl rfl
set_option maxRecDepth 20000 in
theorem m_500 : Jvm.Cond.laysFinal "TwoGenerationsModel" "TwoGenerationsModel" "old" "[Z" ∈ TT := TT_in (k := 500) rfl rfl
set_option maxRecDepth 20000 in
theorem m_501 : Jvm.Cond.soleField "TwoGenerationsModel" "old" ∈ TT := TT_in (k := 501) rfl rfl
set_option maxRecDepth 20000 in
theorem m_502 : Jvm.Cond.laysFinal "TwoGenerationsModel" "TwoGenerationsModel" "size" "[I" ∈ TT := TT_in (k := 502) rfl rfl
set_option maxRecDepth 20000 in
theorem m_503 : Jvm.Cond.soleField "TwoGenerationsModel" "size" ∈ TT := TT_in (k := 503) rfl rfl
set_option maxRecDepth 20000 in
theorem m_504 : Jvm.Cond.laysFinal "TwoGenerationsModel" "TwoGenerationsModel" "aim" "[I" ∈ TT := TT_in (k := 504) rfl rfl
set_option maxRecDepth 20000 in
theorem m_505 : Jvm.Cond.soleField "TwoGenerationsModel" "aim" ∈ TT := TT_in (k := 505) rfl rfl
set_option maxRecDepth 20000 in
theorem m_506 : Jvm.Cond.laysFinal "TwoGenerationsModel" "TwoGenerationsModel" "field" "[J" ∈ TT := TT_in (k := 506) rfl rfl
set_option maxRecDepth 20000 in
theorem m_507 : Jvm.Cond.soleField "TwoGenerationsModel" "field" ∈ TT := TT_in (k := 507) rfl rfl
set_option maxRecDepth 20000 in
theorem m_508 : Jvm.Cond.laysFinal "TwoGenerationsModel" "TwoGenerationsModel" "reached" "[Z" ∈ TT := TT_in (k := 508) rfl rfl
set_option maxRecDepth 20000 in
theorem m_509 : Jvm.Cond.soleField "TwoGenerationsModel" "reached" ∈ TT := TT_in (k := 509) rfl rfl
set_option maxRecDepth 20000 in
theorem m_510 : Jvm.Cond.lays "TwoGenerationsModel" "TwoGenerationsModel" "smalls" "I" ∈ TT := TT_in (k := 510) rfl rfl
set_option maxRecDepth 20000 in
theorem m_511 : Jvm.Cond.soleField "TwoGenerationsModel" "smalls" ∈ TT := TT_in (k := 511) rfl rfl
set_option maxRecDepth 20000 in
theorem m_512 : Jvm.Cond.lays "TwoGenerationsModel" "TwoGenerationsModel" "greats" "I" ∈ TT := TT_in (k := 512) rfl rfl
set_option maxRecDepth 20000 in
theorem m_513 : Jvm.Cond.soleField "TwoGenerationsModel" "greats" ∈ TT := TT_in (k := 513) rfl rfl
set_option maxRecDepth 20000 in
theorem m_514 : Jvm.Cond.superclass "TwoGenerationsModel" "java/lang/Object" ∈ TT := TT_in (k := 514) rfl rfl
set_option maxRecDepth 20000 in
theorem m_515 : Jvm.Cond.arrayClass Jvm.ClassFile.FieldType.long ∈ TT := TT_in (k := 515) rfl rfl
set_option maxRecDepth 20000 in
theorem m_516 : Jvm.Cond.arrayClass Jvm.ClassFile.FieldType.boolean ∈ TT := TT_in (k := 516) rfl rfl
set_option maxRecDepth 20000 in
theorem m_517 : Jvm.Cond.arrayClass Jvm.ClassFile.FieldType.int ∈ TT := TT_in (k := 517) rfl rfl
set_option maxRecDepth 20000 in
theorem m_518 : Jvm.Cond.methodLink "TwoGenerationsLaw" (59 : Nat) ({ cls := "TwoGenerationsModel", name := "thrown", desc := "()I" } : Jvm.MethodName) ∈ TT := TT_in (k := 518) rfl rfl
set_option maxRecDepth 20000 in
theorem m_519 : Jvm.Cond.instanceMethod ({ cls := "TwoGenerationsModel", name := "thrown", desc := "()I" } : Jvm.MethodName) ∈ TT := TT_in (k := 519) rfl rfl
set_option maxRecDepth 20000 in
theorem m_520 : Jvm.Cond.selects "TwoGenerationsModel" ({ cls := "TwoGenerationsModel", name := "thrown", desc := "()I" } : Jvm.MethodName) ({ cls := "TwoGenerationsModel", name := "thrown", desc := "()I" } : Jvm.MethodName) ∈ TT := TT_in (k := 520) rfl rfl
set_option maxRecDepth 20000 in
theorem m_521 : Jvm.Cond.code ({ cls := "TwoGenerationsModel", name := "thrown", desc := "()I" } : Jvm.MethodName) prog_10_method_2_code (1 : Nat) (Option.some Jvm.ClassFile.FieldType.int) ∈ TT := TT_in (k := 521) rfl rfl
set_option maxRecDepth 20000 in
theorem m_522 : Jvm.Cond.methodLink "TwoGenerationsLaw" (58 : Nat) ({ cls := "TwoGenerationsModel", name := "make", desc := "(II)V" } : Jvm.MethodName) ∈ TT := TT_in (k := 522) rfl rfl
set_option maxRecDepth 20000 in
theorem m_523 : Jvm.Cond.instanceMethod ({ cls := "TwoGenerationsModel", name := "make", desc := "(II)V" } : Jvm.MethodName) ∈ TT := TT_in (k := 523) rfl rfl
set_option maxRecDepth 20000 in
theorem m_524 : Jvm.Cond.selects "TwoGenerationsModel" ({ cls := "TwoGenerationsModel", name := "make", desc := "(II)V" } : Jvm.MethodName) ({ cls := "TwoGenerationsModel", name := "make", desc := "(II)V" } : Jvm.MethodName) ∈ TT := TT_in (k := 524) rfl rfl
set_option maxRecDepth 20000 in
theorem m_525 : Jvm.Cond.code ({ cls := "TwoGenerationsModel", name := "make", desc := "(II)V" } : Jvm.MethodName) prog_10_method_19_code (3 : Nat) (Option.none : Option Jvm.ClassFile.FieldType) ∈ TT := TT_in (k := 525) rfl rfl
set_option maxRecDepth 20000 in
theorem m_526 : Jvm.Cond.methodLink "TwoGenerationsModel" (48 : Nat) ({ cls := "TwoGenerationsModel", name := "is", desc := "(I)Z" } : Jvm.MethodName) ∈ TT := TT_in (k := 526) rfl rfl
set_option maxRecDepth 20000 in
theorem m_528 : Jvm.Cond.instanceMethod ({ cls := "TwoGenerationsModel", name := "is", desc := "(I)Z" } : Jvm.MethodName) ∈ TT := TT_in (k := 528) rfl rfl
set_option maxRecDepth 20000 in
theorem m_529 : Jvm.Cond.code ({ cls := "TwoGenerationsModel", name := "is", desc := "(I)Z" } : Jvm.MethodName) prog_10_method_4_code (2 : Nat) (Option.some Jvm.ClassFile.FieldType.boolean) ∈ TT := TT_in (k := 529) rfl rfl
set_option maxRecDepth 20000 in
theorem m_530 : Jvm.Cond.methodLink "TwoGenerationsModel" (98 : Nat) ({ cls := "TwoGenerationsModel", name := "when", desc := "(ZI)Z" } : Jvm.MethodName) ∈ TT := TT_in (k := 530) rfl rfl
set_option maxRecDepth 20000 in
theorem m_532 : Jvm.Cond.instanceMethod ({ cls := "TwoGenerationsModel", name := "when", desc := "(ZI)Z" } : Jvm.MethodName) ∈ TT := TT_in (k := 532) rfl rfl
set_option maxRecDepth 20000 in
theorem m_533 : Jvm.Cond.code ({ cls := "TwoGenerationsModel", name := "when", desc := "(ZI)Z" } : Jvm.MethodName) prog_10_method_3_code (3 : Nat) (Option.some Jvm.ClassFile.FieldType.boolean) ∈ TT := TT_in (k := 533) rfl rfl
set_option maxRecDepth 20000 in
theorem m_534 : Jvm.Cond.methodLink "TwoGenerationsModel" (102 : Nat) ({ cls := "TwoGenerationsModel", name := "room", desc := "(I)Z" } : Jvm.MethodName) ∈ TT := TT_in (k := 534) rfl rfl
set_option maxRecDepth 20000 in
theorem m_536 : Jvm.Cond.instanceMethod ({ cls := "TwoGenerationsModel", name := "room", desc := "(I)Z" } : Jvm.MethodName) ∈ TT := TT_in (k := 536) rfl rfl
set_option maxRecDepth 20000 in
theorem m_537 : Jvm.Cond.code ({ cls := "TwoGenerationsModel", name := "room", desc := "(I)Z" } : Jvm.MethodName) prog_10_method_17_code (2 : Nat) (Option.some Jvm.ClassFile.FieldType.boolean) ∈ TT := TT_in (k := 537) rfl rfl
set_option maxRecDepth 20000 in
theorem m_538 : Jvm.Cond.methodLink "TwoGenerationsModel" (82 : Nat) ({ cls := "TwoGenerationsModel", name := "taken", desc := "(Z)I" } : Jvm.MethodName) ∈ TT := TT_in (k := 538) rfl rfl
set_option maxRecDepth 20000 in
theorem m_540 : Jvm.Cond.instanceMethod ({ cls := "TwoGenerationsModel", name := "taken", desc := "(Z)I" } : Jvm.MethodName) ∈ TT := TT_in (k := 540) rfl rfl
set_option maxRecDepth 20000 in
theorem m_541 : Jvm.Cond.code ({ cls := "TwoGenerationsModel", name := "taken", desc := "(Z)I" } : Jvm.MethodName) prog_10_method_7_code (4 : Nat) (Option.some Jvm.ClassFile.FieldType.int) ∈ TT := TT_in (k := 541) rfl rfl
set_option maxRecDepth 20000 in
theorem m_542 : Jvm.Cond.methodLink "TwoGenerationsModel" (54 : Nat) ({ cls := "TwoGenerationsModel", name := "cellsOf", desc := "(I)I" } : Jvm.MethodName) ∈ TT := TT_in (k := 542) rfl rfl
set_option maxRecDepth 20000 in
theorem m_544 : Jvm.Cond.instanceMethod ({ cls := "TwoGenerationsModel", name := "cellsOf", desc := "(I)I" } : Jvm.MethodName) ∈ TT := TT_in (k := 544) rfl rfl
set_option maxRecDepth 20000 in
theorem m_545 : Jvm.Cond.code ({ cls := "TwoGenerationsModel", name := "cellsOf", desc := "(I)I" } : Jvm.MethodName) prog_10_method_6_code (2 : Nat) (Option.some Jvm.ClassFile.FieldType.int) ∈ TT := TT_in (k := 545) rfl rfl
set_option maxRecDepth 20000 in
theorem m_546 : Jvm.Cond.methodLink "TwoGenerationsModel" (95 : Nat) ({ cls := "TwoGenerationsModel", name := "grow", desc := "()I" } : Jvm.MethodName) ∈ TT := TT_in (k := 546) rfl rfl
set_option maxRecDepth 20000 in
theorem m_548 : Jvm.Cond.instanceMethod ({ cls := "TwoGenerationsModel", name := "grow", desc := "()I" } : Jvm.MethodName) ∈ TT := TT_in (k := 548) rfl rfl
set_option maxRecDepth 20000 in
theorem m_549 : Jvm.Cond.code ({ cls := "TwoGenerationsModel", name := "grow", desc := "()I" } : Jvm.MethodName) prog_10_method_16_code (3 : Nat) (Option.some Jvm.ClassFile.FieldType.int) ∈ TT := TT_in (k := 549) rfl rfl
set_option maxRecDepth 20000 in
theorem m_550 : Jvm.Cond.methodLink "TwoGenerationsModel" (86 : Nat) ({ cls := "TwoGenerationsModel", name := "clearOld", desc := "()I" } : Jvm.MethodName) ∈ TT := TT_in (k := 550) rfl rfl
set_option maxRecDepth 20000 in
theorem m_552 : Jvm.Cond.instanceMethod ({ cls := "TwoGenerationsModel", name := "clearOld", desc := "()I" } : Jvm.MethodName) ∈ TT := TT_in (k := 552) rfl rfl
set_option maxRecDepth 20000 in
theorem m_553 : Jvm.Cond.code ({ cls := "TwoGenerationsModel", name := "clearOld", desc := "()I" } : Jvm.MethodName) prog_10_method_15_code (3 : Nat) (Option.some Jvm.ClassFile.FieldType.int) ∈ TT := TT_in (k := 553) rfl rfl
set_option maxRecDepth 20000 in
theorem m_554 : Jvm.Cond.methodLink "TwoGenerationsModel" (70 : Nat) ({ cls := "TwoGenerationsModel", name := "nothing", desc := "()V" } : Jvm.MethodName) ∈ TT := TT_in (k := 554) rfl rfl
set_option maxRecDepth 20000 in
theorem m_556 : Jvm.Cond.instanceMethod ({ cls := "TwoGenerationsModel", name := "nothing", desc := "()V" } : Jvm.MethodName) ∈ TT := TT_in (k := 556) rfl rfl
set_option maxRecDepth 20000 in
theorem m_557 : Jvm.Cond.code ({ cls := "TwoGenerationsModel", name := "nothing", desc := "()V" } : Jvm.MethodName) prog_10_method_8_code (2 : Nat) (Option.none : Option Jvm.ClassFile.FieldType) ∈ TT := TT_in (k := 557) rfl rfl
set_option maxRecDepth 20000 in
theorem m_558 : Jvm.Cond.methodLink "TwoGenerationsModel" (73 : Nat) ({ cls := "TwoGenerationsModel", name := "markRegisters", desc := "()V" } : Jvm.MethodName) ∈ TT := TT_in (k := 558) rfl rfl
set_option maxRecDepth 20000 in
theorem m_560 : Jvm.Cond.instanceMethod ({ cls := "TwoGenerationsModel", name := "markRegisters", desc := "()V" } : Jvm.MethodName) ∈ TT := TT_in (k := 560) rfl rfl
set_option maxRecDepth 20000 in
theorem m_561 : Jvm.Cond.code ({ cls := "TwoGenerationsModel", name := "markRegisters", desc := "()V" } : Jvm.MethodName) prog_10_method_13_code (2 : Nat) (Option.none : Option Jvm.ClassFile.FieldType) ∈ TT := TT_in (k := 561) rfl rfl
set_option maxRecDepth 20000 in
theorem m_562 : Jvm.Cond.methodLink "TwoGenerationsModel" (58 : Nat) ({ cls := "TwoGenerationsModel", name := "mark", desc := "(J)V" } : Jvm.MethodName) ∈ TT := TT_in (k := 562) rfl rfl
set_option maxRecDepth 20000 in
theorem m_564 : Jvm.Cond.instanceMethod ({ cls := "TwoGenerationsModel", name := "mark", desc := "(J)V" } : Jvm.MethodName) ∈ TT := TT_in (k := 564) rfl rfl
set_option maxRecDepth 20000 in
theorem m_565 : Jvm.Cond.code ({ cls := "TwoGenerationsModel", name := "mark", desc := "(J)V" } : Jvm.MethodName) prog_10_method_9_code (3 : Nat) (Option.none : Option Jvm.ClassFile.FieldType) ∈ TT := TT_in (k := 565) rfl rfl
set_option maxRecDepth 20000 in
theorem m_566 : Jvm.Cond.constantLong "TwoGenerationsModel" (52 : Nat) (2199023255552 : Int64) ∈ TT := TT_in (k := 566) rfl rfl
set_option maxRecDepth 20000 in
theorem m_567 : Jvm.Cond.methodLink "TwoGenerationsModel" (76 : Nat) ({ cls := "TwoGenerationsModel", name := "spread", desc := "()V" } : Jvm.MethodName) ∈ TT := TT_in (k := 567) rfl rfl
set_option maxRecDepth 20000 in
theorem m_569 : Jvm.Cond.instanceMethod ({ cls := "TwoGenerationsModel", name := "spread", desc := "()V" } : Jvm.MethodName) ∈ TT := TT_in (k := 569) rfl rfl
set_option maxRecDepth 20000 in
theorem m_570 : Jvm.Cond.code ({ cls := "TwoGenerationsModel", name := "spread", desc := "()V" } : Jvm.MethodName) prog_10_method_12_code (3 : Nat) (Option.none : Option Jvm.ClassFile.FieldType) ∈ TT := TT_in (k := 570) rfl rfl
set_option maxRecDepth 20000 in
theorem m_571 : Jvm.Cond.methodLink "TwoGenerationsModel" (62 : Nat) ({ cls := "TwoGenerationsModel", name := "marked", desc := "()I" } : Jvm.MethodName) ∈ TT := TT_in (k := 571) rfl rfl
set_option maxRecDepth 20000 in
theorem m_573 : Jvm.Cond.instanceMethod ({ cls := "TwoGenerationsModel", name := "marked", desc := "()I" } : Jvm.MethodName) ∈ TT := TT_in (k := 573) rfl rfl
set_option maxRecDepth 20000 in
theorem m_574 : Jvm.Cond.code ({ cls := "TwoGenerationsModel", name := "marked", desc := "()I" } : Jvm.MethodName) prog_10_method_11_code (3 : Nat) (Option.some Jvm.ClassFile.FieldType.int) ∈ TT := TT_in (k := 574) rfl rfl
set_option maxRecDepth 20000 in
theorem m_575 : Jvm.Cond.methodLink "TwoGenerationsModel" (66 : Nat) ({ cls := "TwoGenerationsModel", name := "markFields", desc := "(I)V" } : Jvm.MethodName) ∈ TT := TT_in (k := 575) rfl rfl
set_option maxRecDepth 20000 in
theorem m_577 : Jvm.Cond.instanceMethod ({ cls := "TwoGenerationsModel", name := "markFields", desc := "(I)V" } : Jvm.MethodName) ∈ TT := TT_in (k := 577) rfl rfl
set_option maxRecDepth 20000 in
theorem m_578 : Jvm.Cond.code ({ cls := "TwoGenerationsModel", name := "markFields", desc := "(I)V" } : Jvm.MethodName) prog_10_method_10_code (3 : Nat) (Option.none : Option Jvm.ClassFile.FieldType) ∈ TT := TT_in (k := 578) rfl rfl
set_option maxRecDepth 20000 in
theorem m_579 : Jvm.Cond.methodLink "TwoGenerationsModel" (92 : Nat) ({ cls := "TwoGenerationsModel", name := "tellWeak", desc := "()V" } : Jvm.MethodName) ∈ TT := TT_in (k := 579) rfl rfl
set_option maxRecDepth 20000 in
theorem m_581 : Jvm.Cond.instanceMethod ({ cls := "TwoGenerationsModel", name := "tellWeak", desc := "()V" } : Jvm.MethodName) ∈ TT := TT_in (k := 581) rfl rfl
set_option maxRecDepth 20000 in
theorem m_582 : Jvm.Cond.code ({ cls := "TwoGenerationsModel", name := "tellWeak", desc := "()V" } : Jvm.MethodName) prog_10_method_14_code (2 : Nat) (Option.none : Option Jvm.ClassFile.FieldType) ∈ TT := TT_in (k := 582) rfl rfl
set_option maxRecDepth 20000 in
theorem m_583 : Jvm.Cond.methodLink "TwoGenerationsModel" (105 : Nat) ({ cls := "TwoGenerationsModel", name := "born", desc := "(III)V" } : Jvm.MethodName) ∈ TT := TT_in (k := 583) rfl rfl
set_option maxRecDepth 20000 in
theorem m_585 : Jvm.Cond.instanceMethod ({ cls := "TwoGenerationsModel", name := "born", desc := "(III)V" } : Jvm.MethodName) ∈ TT := TT_in (k := 585) rfl rfl
set_option maxRecDepth 20000 in
theorem m_586 : Jvm.Cond.code ({ cls := "TwoGenerationsModel", name := "born", desc := "(III)V" } : Jvm.MethodName) prog_10_method_18_code (6 : Nat) (Option.none : Option Jvm.ClassFile.FieldType) ∈ TT := TT_in (k := 586) rfl rfl
set_option maxRecDepth 20000 in
theorem m_587 : Jvm.Cond.methodLink "TwoGenerationsLaw" (64 : Nat) ({ cls := "TwoGenerationsModel", name := "weak", desc := "(II)V" } : Jvm.MethodName) ∈ TT := TT_in (k := 587) rfl rfl
set_option maxRecDepth 20000 in
theorem m_588 : Jvm.Cond.instanceMethod ({ cls := "TwoGenerationsModel", name := "weak", desc := "(II)V" } : Jvm.MethodName) ∈ TT := TT_in (k := 588) rfl rfl
set_option maxRecDepth 20000 in
theorem m_589 : Jvm.Cond.selects "TwoGenerationsModel" ({ cls := "TwoGenerationsModel", name := "weak", desc := "(II)V" } : Jvm.MethodName) ({ cls := "TwoGenerationsModel", name := "weak", desc := "(II)V" } : Jvm.MethodName) ∈ TT := TT_in (k := 589) rfl rfl
set_option maxRecDepth 20000 in
theorem m_590 : Jvm.Cond.code ({ cls := "TwoGenerationsModel", name := "weak", desc := "(II)V" } : Jvm.MethodName) prog_10_method_20_code (3 : Nat) (Option.none : Option Jvm.ClassFile.FieldType) ∈ TT := TT_in (k := 590) rfl rfl
set_option maxRecDepth 20000 in
theorem m_591 : Jvm.Cond.methodLink "TwoGenerationsModel" (109 : Nat) ({ cls := "TwoGenerationsModel", name := "placeIn", desc := "(I)I" } : Jvm.MethodName) ∈ TT := TT_in (k := 591) rfl rfl
set_option maxRecDepth 20000 in
theorem m_593 : Jvm.Cond.instanceMethod ({ cls := "TwoGenerationsModel", name := "placeIn", desc := "(I)I" } : Jvm.MethodName) ∈ TT := TT_in (k := 593) rfl rfl
set_option maxRecDepth 20000 in
theorem m_594 : Jvm.Cond.code ({ cls := "TwoGenerationsModel", name := "placeIn", desc := "(I)I" } : Jvm.MethodName) prog_10_method_5_code (2 : Nat) (Option.some Jvm.ClassFile.FieldType.int) ∈ TT := TT_in (k := 594) rfl rfl
set_option maxRecDepth 20000 in
theorem m_595 : Jvm.Cond.methodLink "TwoGenerationsLaw" (114 : Nat) ({ cls := "TwoGenerationsModel", name := "small", desc := "()I" } : Jvm.MethodName) ∈ TT := TT_in (k := 595) rfl rfl
set_option maxRecDepth 20000 in
theorem m_596 : Jvm.Cond.instanceMethod ({ cls := "TwoGenerationsModel", name := "small", desc := "()I" } : Jvm.MethodName) ∈ TT := TT_in (k := 596) rfl rfl
set_option maxRecDepth 20000 in
theorem m_597 : Jvm.Cond.selects "TwoGenerationsModel" ({ cls := "TwoGenerationsModel", name := "small", desc := "()I" } : Jvm.MethodName) ({ cls := "TwoGenerationsModel", name := "small", desc := "()I" } : Jvm.MethodName) ∈ TT := TT_in (k := 597) rfl rfl
set_option maxRecDepth 20000 in
theorem m_598 : Jvm.Cond.code ({ cls := "TwoGenerationsModel", name := "small", desc := "()I" } : Jvm.MethodName) prog_10_method_21_code (2 : Nat) (Option.some Jvm.ClassFile.FieldType.int) ∈ TT := TT_in (k := 598) rfl rfl
set_option maxRecDepth 20000 in
theorem m_599 : Jvm.Cond.methodLink "TwoGenerationsLaw" (118 : Nat) ({ cls := "TwoGenerationsModel", name := "great", desc := "()I" } : Jvm.MethodName) ∈ TT := TT_in (k := 599) rfl rfl
set_option maxRecDepth 20000 in
theorem m_600 : Jvm.Cond.instanceMethod ({ cls := "TwoGenerationsModel", name := "great", desc := "()I" } : Jvm.MethodName) ∈ TT := TT_in (k := 600) rfl rfl
set_option maxRecDepth 20000 in
theorem m_601 : Jvm.Cond.selects "TwoGenerationsModel" ({ cls := "TwoGenerationsModel", name := "great", desc := "()I" } : Jvm.MethodName) ({ cls := "TwoGenerationsModel", name := "great", desc := "()I" } : Jvm.MethodName) ∈ TT := TT_in (k := 601) rfl rfl
set_option maxRecDepth 20000 in
theorem m_602 : Jvm.Cond.code ({ cls := "TwoGenerationsModel", name := "great", desc := "()I" } : Jvm.MethodName) prog_10_method_22_code (1 : Nat) (Option.some Jvm.ClassFile.FieldType.int) ∈ TT := TT_in (k := 602) rfl rfl
set_option maxRecDepth 20000 in
theorem m_603 : Jvm.Cond.methodLink "TwoGenerationsLaw" (68 : Nat) ({ cls := "TwoGenerationsModel", name := "load", desc := "(III)V" } : Jvm.MethodName) ∈ TT := TT_in (k := 603) rfl rfl
set_option maxRecDepth 20000 in
theorem m_604 : Jvm.Cond.instanceMethod ({ cls := "TwoGenerationsModel", name := "load", desc := "(III)V" } : Jvm.MethodName) ∈ TT := TT_in (k := 604) rfl rfl
set_option maxRecDepth 20000 in
theorem m_605 : Jvm.Cond.selects "TwoGenerationsModel" ({ cls := "TwoGenerationsModel", name := "load", desc := "(III)V" } : Jvm.MethodName) ({ cls := "TwoGenerationsModel", name := "load", desc := "(III)V" } : Jvm.MethodName) ∈ TT := TT_in (k := 605) rfl rfl
set_option maxRecDepth 20000 in
theorem m_606 : Jvm.Cond.code ({ cls := "TwoGenerationsModel", name := "load", desc := "(III)V" } : Jvm.MethodName) prog_10_method_24_code (4 : Nat) (Option.none : Option Jvm.ClassFile.FieldType) ∈ TT := TT_in (k := 606) rfl rfl
set_option maxRecDepth 20000 in
theorem m_607 : Jvm.Cond.methodLink "TwoGenerationsModel" (112 : Nat) ({ cls := "TwoGenerationsModel", name := "hasField", desc := "(II)Z" } : Jvm.MethodName) ∈ TT := TT_in (k := 607) rfl rfl
set_option maxRecDepth 20000 in
theorem m_609 : Jvm.Cond.instanceMethod ({ cls := "TwoGenerationsModel", name := "hasField", desc := "(II)Z" } : Jvm.MethodName) ∈ TT := TT_in (k := 609) rfl rfl
set_option maxRecDepth 20000 in
theorem m_610 : Jvm.Cond.code ({ cls := "TwoGenerationsModel", name := "hasField", desc := "(II)Z" } : Jvm.MethodName) prog_10_method_23_code (4 : Nat) (Option.some Jvm.ClassFile.FieldType.boolean) ∈ TT := TT_in (k := 610) rfl rfl
set_option maxRecDepth 20000 in
theorem m_611 : Jvm.Cond.methodLink "TwoGenerationsLaw" (71 : Nat) ({ cls := "TwoGenerationsModel", name := "store", desc := "(III)V" } : Jvm.MethodName) ∈ TT := TT_in (k := 611) rfl rfl
set_option maxRecDepth 20000 in
theorem m_612 : Jvm.Cond.instanceMethod ({ cls := "TwoGenerationsModel", name := "store", desc := "(III)V" } : Jvm.MethodName) ∈ TT := TT_in (k := 612) rfl rfl
set_option maxRecDepth 20000 in
theorem m_613 : Jvm.Cond.selects "TwoGenerationsModel" ({ cls := "TwoGenerationsModel", name := "store", desc := "(III)V" } : Jvm.MethodName) ({ cls := "TwoGenerationsModel", name := "store", desc := "(III)V" } : Jvm.MethodName) ∈ TT := TT_in (k := 613) rfl rfl
set_option maxRecDepth 20000 in
theorem m_614 : Jvm.Cond.code ({ cls := "TwoGenerationsModel", name := "store", desc := "(III)V" } : Jvm.MethodName) prog_10_method_25_code (4 : Nat) (Option.none : Option Jvm.ClassFile.FieldType) ∈ TT := TT_in (k := 614) rfl rfl
set_option maxRecDepth 20000 in
theorem m_615 : Jvm.Cond.methodLink "TwoGenerationsLaw" (74 : Nat) ({ cls := "TwoGenerationsModel", name := "target", desc := "(II)V" } : Jvm.MethodName) ∈ TT := TT_in (k := 615) rfl rfl
set_option maxRecDepth 20000 in
theorem m_616 : Jvm.Cond.instanceMethod ({ cls := "TwoGenerationsModel", name := "target", desc := "(II)V" } : Jvm.MethodName) ∈ TT := TT_in (k := 616) rfl rfl
set_option maxRecDepth 20000 in
theorem m_617 : Jvm.Cond.selects "TwoGenerationsModel" ({ cls := "TwoGenerationsModel", name := "target", desc := "(II)V" } : Jvm.MethodName) ({ cls := "TwoGenerationsModel", name := "target", desc := "(II)V" } : Jvm.MethodName) ∈ TT := TT_in (k := 617) rfl rfl
set_option maxRecDepth 20000 in
theorem m_618 : Jvm.Cond.code ({ cls := "TwoGenerationsModel", name := "target", desc := "(II)V" } : Jvm.MethodName) prog_10_method_26_code (4 : Nat) (Option.none : Option Jvm.ClassFile.FieldType) ∈ TT := TT_in (k := 618) rfl rfl
set_option maxRecDepth 20000 in
theorem m_619 : Jvm.Cond.methodLink "TwoGenerationsLaw" (77 : Nat) ({ cls := "TwoGenerationsModel", name := "number", desc := "(II)V" } : Jvm.MethodName) ∈ TT := TT_in (k := 619) rfl rfl
set_option maxRecDepth 20000 in
theorem m_620 : Jvm.Cond.instanceMethod ({ cls := "TwoGenerationsModel", name := "number", desc := "(II)V" } : Jvm.MethodName) ∈ TT := TT_in (k := 620) rfl rfl
set_option maxRecDepth 20000 in
theorem m_621 : Jvm.Cond.selects "TwoGenerationsModel" ({ cls := "TwoGenerationsModel", name := "number", desc := "(II)V" } : Jvm.MethodName) ({ cls := "TwoGenerationsModel", name := "number", desc := "(II)V" } : Jvm.MethodName) ∈ TT := TT_in (k := 621) rfl rfl
set_option maxRecDepth 20000 in
theorem m_622 : Jvm.Cond.code ({ cls := "TwoGenerationsModel", name := "number", desc := "(II)V" } : Jvm.MethodName) prog_10_method_27_code (3 : Nat) (Option.none : Option Jvm.ClassFile.FieldType) ∈ TT := TT_in (k := 622) rfl rfl
set_option maxRecDepth 20000 in
theorem m_623 : Jvm.Cond.constant "TwoGenerationsModel" (116 : Nat) (-1073741824 : Int32) ∈ TT := TT_in (k := 623) rfl rfl
set_option maxRecDepth 20000 in
theorem m_624 : Jvm.Cond.constant "TwoGenerationsModel" (117 : Nat) (1073741824 : Int32) ∈ TT := TT_in (k := 624) rfl rfl
set_option maxRecDepth 20000 in
theorem m_625 : Jvm.Cond.methodLink "TwoGenerationsLaw" (81 : Nat) ({ cls := "TwoGenerationsModel", name := "clear", desc := "(I)V" } : Jvm.MethodName) ∈ TT := TT_in (k := 625) rfl rfl
set_option maxRecDepth 20000 in
theorem m_626 : Jvm.Cond.instanceMethod ({ cls := "TwoGenerationsModel", name := "clear", desc := "(I)V" } : Jvm.MethodName) ∈ TT := TT_in (k := 626) rfl rfl
set_option maxRecDepth 20000 in
theorem m_627 : Jvm.Cond.selects "TwoGenerationsModel" ({ cls := "TwoGenerationsModel", name := "clear", desc := "(I)V" } : Jvm.MethodName) ({ cls := "TwoGenerationsModel", name := "clear", desc := "(I)V" } : Jvm.MethodName) ∈ TT := TT_in (k := 627) rfl rfl
set_option maxRecDepth 20000 in
theorem m_628 : Jvm.Cond.code ({ cls := "TwoGenerationsModel", name := "clear", desc := "(I)V" } : Jvm.MethodName) prog_10_method_28_code (2 : Nat) (Option.none : Option Jvm.ClassFile.FieldType) ∈ TT := TT_in (k := 628) rfl rfl
set_option maxRecDepth 20000 in
theorem m_629 : Jvm.Cond.methodLink "TwoGenerationsLaw" (84 : Nat) ({ cls := "TwoGenerationsModel", name := "move", desc := "(II)V" } : Jvm.MethodName) ∈ TT := TT_in (k := 629) rfl rfl
set_option maxRecDepth 20000 in
theorem m_630 : Jvm.Cond.instanceMethod ({ cls := "TwoGenerationsModel", name := "move", desc := "(II)V" } : Jvm.MethodName) ∈ TT := TT_in (k := 630) rfl rfl
set_option maxRecDepth 20000 in
theorem m_631 : Jvm.Cond.selects "TwoGenerationsModel" ({ cls := "TwoGenerationsModel", name := "move", desc := "(II)V" } : Jvm.MethodName) ({ cls := "TwoGenerationsModel", name := "move", desc := "(II)V" } : Jvm.MethodName) ∈ TT := TT_in (k := 631) rfl rfl
set_option maxRecDepth 20000 in
theorem m_632 : Jvm.Cond.code ({ cls := "TwoGenerationsModel", name := "move", desc := "(II)V" } : Jvm.MethodName) prog_10_method_29_code (3 : Nat) (Option.none : Option Jvm.ClassFile.FieldType) ∈ TT := TT_in (k := 632) rfl rfl
set_option maxRecDepth 20000 in
theorem m_633 : Jvm.Cond.methodLink "TwoGenerationsLaw" (89 : Nat) ({ cls := "TwoGenerationsModel", name := "kind", desc := "(I)I" } : Jvm.MethodName) ∈ TT := TT_in (k := 633) rfl rfl
set_option maxRecDepth 20000 in
theorem m_634 : Jvm.Cond.instanceMethod ({ cls := "TwoGenerationsModel", name := "kind", desc := "(I)I" } : Jvm.MethodName) ∈ TT := TT_in (k := 634) rfl rfl
set_option maxRecDepth 20000 in
theorem m_635 : Jvm.Cond.selects "TwoGenerationsModel" ({ cls := "TwoGenerationsModel", name := "kind", desc := "(I)I" } : Jvm.MethodName) ({ cls := "TwoGenerationsModel", name := "kind", desc := "(I)I" } : Jvm.MethodName) ∈ TT := TT_in (k := 635) rfl rfl
set_option maxRecDepth 20000 in
theorem m_636 : Jvm.Cond.code ({ cls := "TwoGenerationsModel", name := "kind", desc := "(I)I" } : Jvm.MethodName) prog_10_method_30_code (3 : Nat) (Option.some Jvm.ClassFile.FieldType.int) ∈ TT := TT_in (k := 636) rfl rfl
set_option maxRecDepth 20000 in
theorem m_637 : Jvm.Cond.methodLink "TwoGenerationsLaw" (93 : Nat) ({ cls := "TwoGenerationsModel", name := "value", desc := "(I)I" } : Jvm.MethodName) ∈ TT := TT_in (k := 637) rfl rfl
set_option maxRecDepth 20000 in
theorem m_638 : Jvm.Cond.instanceMethod ({ cls := "TwoGenerationsModel", name := "value", desc := "(I)I" } : Jvm.MethodName) ∈ TT := TT_in (k := 638) rfl rfl
set_option maxRecDepth 20000 in
theorem m_639 : Jvm.Cond.selects "TwoGenerationsModel" ({ cls := "TwoGenerationsModel", name := "value", desc := "(I)I" } : Jvm.MethodName) ({ cls := "TwoGenerationsModel", name := "value", desc := "(I)I" } : Jvm.MethodName) ∈ TT := TT_in (k := 639) rfl rfl
set_option maxRecDepth 20000 in
theorem m_640 : Jvm.Cond.code ({ cls := "TwoGenerationsModel", name := "value", desc := "(I)I" } : Jvm.MethodName) prog_10_method_31_code (2 : Nat) (Option.some Jvm.ClassFile.FieldType.int) ∈ TT := TT_in (k := 640) rfl rfl
set_option maxRecDepth 20000 in
theorem m_641 : Jvm.Cond.methodLink "TwoGenerationsLaw" (97 : Nat) ({ cls := "TwoGenerationsModel", name := "fields", desc := "(I)I" } : Jvm.MethodName) ∈ TT := TT_in (k := 641) rfl rfl
set_option maxRecDepth 20000 in
theorem m_642 : Jvm.Cond.instanceMethod ({ cls := "TwoGenerationsModel", name := "fields", desc := "(I)I" } : Jvm.MethodName) ∈ TT := TT_in (k := 642) rfl rfl
set_option maxRecDepth 20000 in
theorem m_643 : Jvm.Cond.selects "TwoGenerationsModel" ({ cls := "TwoGenerationsModel", name := "fields", desc := "(I)I" } : Jvm.MethodName) ({ cls := "TwoGenerationsModel", name := "fields", desc := "(I)I" } : Jvm.MethodName) ∈ TT := TT_in (k := 643) rfl rfl
set_option maxRecDepth 20000 in
theorem m_644 : Jvm.Cond.code ({ cls := "TwoGenerationsModel", name := "fields", desc := "(I)I" } : Jvm.MethodName) prog_10_method_32_code (3 : Nat) (Option.some Jvm.ClassFile.FieldType.int) ∈ TT := TT_in (k := 644) rfl rfl
set_option maxRecDepth 20000 in
theorem m_645 : Jvm.Cond.methodLink "TwoGenerationsLaw" (102 : Nat) ({ cls := "TwoGenerationsModel", name := "same", desc := "(II)Z" } : Jvm.MethodName) ∈ TT := TT_in (k := 645) rfl rfl
set_option maxRecDepth 20000 in
theorem m_646 : Jvm.Cond.instanceMethod ({ cls := "TwoGenerationsModel", name := "same", desc := "(II)Z" } : Jvm.MethodName) ∈ TT := TT_in (k := 646) rfl rfl
set_option maxRecDepth 20000 in
theorem m_647 : Jvm.Cond.selects "TwoGenerationsModel" ({ cls := "TwoGenerationsModel", name := "same", desc := "(II)Z" } : Jvm.MethodName) ({ cls := "TwoGenerationsModel", name := "same", desc := "(II)Z" } : Jvm.MethodName) ∈ TT := TT_in (k := 647) rfl rfl
set_option maxRecDepth 20000 in
theorem m_648 : Jvm.Cond.code ({ cls := "TwoGenerationsModel", name := "same", desc := "(II)Z" } : Jvm.MethodName) prog_10_method_33_code (3 : Nat) (Option.some Jvm.ClassFile.FieldType.boolean) ∈ TT := TT_in (k := 648) rfl rfl
set_option maxRecDepth 20000 in
theorem m_649 : Jvm.Cond.methodLink "TwoGenerationsLaw" (106 : Nat) ({ cls := "TwoGenerationsModel", name := "generation", desc := "(I)I" } : Jvm.MethodName) ∈ TT := TT_in (k := 649) rfl rfl
set_option maxRecDepth 20000 in
theorem m_650 : Jvm.Cond.instanceMethod ({ cls := "TwoGenerationsModel", name := "generation", desc := "(I)I" } : Jvm.MethodName) ∈ TT := TT_in (k := 650) rfl rfl
set_option maxRecDepth 20000 in
theorem m_651 : Jvm.Cond.selects "TwoGenerationsModel" ({ cls := "TwoGenerationsModel", name := "generation", desc := "(I)I" } : Jvm.MethodName) ({ cls := "TwoGenerationsModel", name := "generation", desc := "(I)I" } : Jvm.MethodName) ∈ TT := TT_in (k := 651) rfl rfl
set_option maxRecDepth 20000 in
theorem m_652 : Jvm.Cond.code ({ cls := "TwoGenerationsModel", name := "generation", desc := "(I)I" } : Jvm.MethodName) prog_10_method_34_code (3 : Nat) (Option.some Jvm.ClassFile.FieldType.int) ∈ TT := TT_in (k := 652) rfl rfl
set_option maxRecDepth 20000 in
theorem m_653 : Jvm.Cond.methodLink "TwoGenerationsLaw" (110 : Nat) ({ cls := "TwoGenerationsModel", name := "reach", desc := "(I)I" } : Jvm.MethodName) ∈ TT := TT_in (k := 653) rfl rfl
set_option maxRecDepth 20000 in
theorem m_654 : Jvm.Cond.instanceMethod ({ cls := "TwoGenerationsModel", name := "reach", desc := "(I)I" } : Jvm.MethodName) ∈ TT := TT_in (k := 654) rfl rfl
set_option maxRecDepth 20000 in
theorem m_655 : Jvm.Cond.selects "TwoGenerationsModel" ({ cls := "TwoGenerationsModel", name := "reach", desc := "(I)I" } : Jvm.MethodName) ({ cls := "TwoGenerationsModel", name := "reach", desc := "(I)I" } : Jvm.MethodName) ∈ TT := TT_in (k := 655) rfl rfl
set_option maxRecDepth 20000 in
theorem m_656 : Jvm.Cond.code ({ cls := "TwoGenerationsModel", name := "reach", desc := "(I)I" } : Jvm.MethodName) prog_10_method_35_code (4 : Nat) (Option.some Jvm.ClassFile.FieldType.int) ∈ TT := TT_in (k := 656) rfl rfl
set_option maxRecDepth 20000 in
theorem m_657 : Jvm.Cond.methodLink "TwoGenerationsLaw" (122 : Nat) ({ cls := "TwoGenerationsModel", name := "cells", desc := "(I)I" } : Jvm.MethodName) ∈ TT := TT_in (k := 657) rfl rfl
set_option maxRecDepth 20000 in
theorem m_658 : Jvm.Cond.instanceMethod ({ cls := "TwoGenerationsModel", name := "cells", desc := "(I)I" } : Jvm.MethodName) ∈ TT := TT_in (k := 658) rfl rfl
set_option maxRecDepth 20000 in
theorem m_659 : Jvm.Cond.selects "TwoGenerationsModel" ({ cls := "TwoGenerationsModel", name := "cells", desc := "(I)I" } : Jvm.MethodName) ({ cls := "TwoGenerationsModel", name := "cells", desc := "(I)I" } : Jvm.MethodName) ∈ TT := TT_in (k := 659) rfl rfl
set_option maxRecDepth 20000 in
theorem m_660 : Jvm.Cond.code ({ cls := "TwoGenerationsModel", name := "cells", desc := "(I)I" } : Jvm.MethodName) prog_10_method_36_code (2 : Nat) (Option.some Jvm.ClassFile.FieldType.int) ∈ TT := TT_in (k := 660) rfl rfl
set_option maxRecDepth 20000 in
theorem m_661 : Jvm.Cond.methodLink "TwoGenerationsLaw" (126 : Nat) ({ cls := "TwoGenerationsModel", name := "collections", desc := "(I)I" } : Jvm.MethodName) ∈ TT := TT_in (k := 661) rfl rfl
set_option maxRecDepth 20000 in
theorem m_662 : Jvm.Cond.instanceMethod ({ cls := "TwoGenerationsModel", name := "collections", desc := "(I)I" } : Jvm.MethodName) ∈ TT := TT_in (k := 662) rfl rfl
set_option maxRecDepth 20000 in
theorem m_663 : Jvm.Cond.selects "TwoGenerationsModel" ({ cls := "TwoGenerationsModel", name := "collections", desc := "(I)I" } : Jvm.MethodName) ({ cls := "TwoGenerationsModel", name := "collections", desc := "(I)I" } : Jvm.MethodName) ∈ TT := TT_in (k := 663) rfl rfl
set_option maxRecDepth 20000 in
theorem m_664 : Jvm.Cond.code ({ cls := "TwoGenerationsModel", name := "collections", desc := "(I)I" } : Jvm.MethodName) prog_10_method_37_code (2 : Nat) (Option.some Jvm.ClassFile.FieldType.int) ∈ TT := TT_in (k := 664) rfl rfl
set_option maxRecDepth 20000 in
theorem m_665 : Jvm.Cond.sameMethod "java/lang/Throwable" "java/lang/Throwable" "fillInStackTrace" "(I)Ljava/lang/Throwable;" ∈ TT := TT_in (k := 665) rfl rfl
set_option maxRecDepth 20000 in
theorem m_666 : Jvm.Cond.castable "TwoGenerations$Whole" "TwoGenerations$Whole" ∈ TT := TT_in (k := 666) rfl rfl
set_option maxRecDepth 20000 in
theorem m_667 : Jvm.Cond.castable "TwoGenerations$Plain" "TwoGenerations$Plain" ∈ TT := TT_in (k := 667) rfl rfl
set_option maxRecDepth 20000 in
theorem m_668 : Jvm.Cond.castable "TwoGenerations$Plain" "TwoGenerations$Thing" ∈ TT := TT_in (k := 668) rfl rfl
set_option maxRecDepth 20000 in
theorem m_669 : Jvm.Cond.castable "TwoGenerations$Weak" "TwoGenerations$Thing" ∈ TT := TT_in (k := 669) rfl rfl
set_option maxRecDepth 20000 in
theorem m_670 : Jvm.Cond.castable "TwoGenerations$Weak" "TwoGenerations$Weak" ∈ TT := TT_in (k := 670) rfl rfl
set_option maxRecDepth 20000 in
theorem m_671 : Jvm.Cond.castable "TwoGenerations$Plain" "TwoGenerations$Value" ∈ TT := TT_in (k := 671) rfl rfl
set_option maxRecDepth 20000 in
theorem m_672 : Jvm.Cond.castable "TwoGenerations$Weak" "TwoGenerations$Value" ∈ TT := TT_in (k := 672) rfl rfl
set_option maxRecDepth 20000 in
theorem m_673 : Jvm.Cond.castable "TwoGenerations$Whole" "TwoGenerations$Value" ∈ TT := TT_in (k := 673) rfl rfl
def T_TG : u_T := fun k => match k with
  | 0 => ("TwoGenerations", "registers", "[LTwoGenerations$Value;", true)
  | 1 => ("TwoGenerations", "young", "LTwoGenerations$Generation;", true)
  | 2 => ("TwoGenerations", "old", "LTwoGenerations$Generation;", true)
  | 3 => ("TwoGenerations", "trace", "LTwoGenerations$Trace;", true)
  | 4 => ("TwoGenerations", "smallCollections", "I", false)
  | _ => ("TwoGenerations", "greatCollections", "I", false)
def ty_TG : Nat → FieldType := fun k => match k with
  | 0 => .array (.object "TwoGenerations$Value")
  | 1 => .object "TwoGenerations$Generation"
  | 2 => .object "TwoGenerations$Generation"
  | 3 => .object "TwoGenerations$Trace"
  | 4 => .int
  | _ => .int
theorem tyok_TG : ∀ k, k < 6 → parseFieldDescriptor (T_TG k).2.2.1 = some (ty_TG k) := by decide +kernel
theorem nms_TG : ∀ a, a < 6 → ∀ b, b < 6 → a ≠ b → (T_TG a).2.1 ≠ (T_TG b).2.1 := by decide +kernel
theorem uw_TG : ∀ x ∈ u_ws "TwoGenerations" T_TG 6, x ∈ TT := by
  intro x hx
  obtain ⟨k, hk, rfl⟩ := List.mem_map.mp hx
  rw [List.mem_range] at hk
  rcases (by omega : k = 0 ∨ k = 1 ∨ k = 2 ∨ k = 3 ∨ k = 4 ∨ k = 5) with rfl | rfl | rfl | rfl | rfl | rfl
  · exact m_104
  · exact m_106
  · exact m_108
  · exact m_110
  · exact m_112
  · exact m_114
def T_Gen : u_T := fun k => match k with
  | 0 => ("TwoGenerations$Generation", "limit", "I", true)
  | 1 => ("TwoGenerations$Generation", "things", "[LTwoGenerations$Thing;", true)
  | 2 => ("TwoGenerations$Generation", "count", "I", false)
  | _ => ("TwoGenerations$Generation", "taken", "I", false)
def ty_Gen : Nat → FieldType := fun k => match k with
  | 0 => .int
  | 1 => .array (.object "TwoGenerations$Thing")
  | 2 => .int
  | _ => .int
theorem tyok_Gen : ∀ k, k < 4 → parseFieldDescriptor (T_Gen k).2.2.1 = some (ty_Gen k) := by decide +kernel
theorem nms_Gen : ∀ a, a < 4 → ∀ b, b < 4 → a ≠ b → (T_Gen a).2.1 ≠ (T_Gen b).2.1 := by decide +kernel
theorem uw_Gen : ∀ x ∈ u_ws "TwoGenerations$Generation" T_Gen 4, x ∈ TT := by
  intro x hx
  obtain ⟨k, hk, rfl⟩ := List.mem_map.mp hx
  rw [List.mem_range] at hk
  rcases (by omega : k = 0 ∨ k = 1 ∨ k = 2 ∨ k = 3) with rfl | rfl | rfl | rfl
  · exact m_71
  · exact m_73
  · exact m_75
  · exact m_77
def T_Tr : u_T := fun k => match k with
  | 0 => ("TwoGenerations$Trace", "found", "[LTwoGenerations$Thing;", true)
  | 1 => ("TwoGenerations$Trace", "count", "I", false)
  | _ => ("TwoGenerations$Trace", "cells", "I", false)
def ty_Tr : Nat → FieldType := fun k => match k with
  | 0 => .array (.object "TwoGenerations$Thing")
  | 1 => .int
  | _ => .int
theorem tyok_Tr : ∀ k, k < 3 → parseFieldDescriptor (T_Tr k).2.2.1 = some (ty_Tr k) := by decide +kernel
theorem nms_Tr : ∀ a, a < 3 → ∀ b, b < 3 → a ≠ b → (T_Tr a).2.1 ≠ (T_Tr b).2.1 := by decide +kernel
theorem uw_Tr : ∀ x ∈ u_ws "TwoGenerations$Trace" T_Tr 3, x ∈ TT := by
  intro x hx
  obtain ⟨k, hk, rfl⟩ := List.mem_map.mp hx
  rw [List.mem_range] at hk
  rcases (by omega : k = 0 ∨ k = 1 ∨ k = 2) with rfl | rfl | rfl
  · exact m_91
  · exact m_93
  · exact m_95
def T_Pl : u_T := fun k => match k with
  | 0 => ("TwoGenerations$Thing", "size", "I", true)
  | 1 => ("TwoGenerations$Thing", "isOld", "Z", false)
  | 2 => ("TwoGenerations$Thing", "isReached", "Z", false)
  | _ => ("TwoGenerations$Plain", "contents", "[LTwoGenerations$Value;", true)
def ty_Pl : Nat → FieldType := fun k => match k with
  | 0 => .int
  | 1 => .boolean
  | 2 => .boolean
  | _ => .array (.object "TwoGenerations$Value")
theorem tyok_Pl : ∀ k, k < 4 → parseFieldDescriptor (T_Pl k).2.2.1 = some (ty_Pl k) := by decide +kernel
theorem nms_Pl : ∀ a, a < 4 → ∀ b, b < 4 → a ≠ b → (T_Pl a).2.1 ≠ (T_Pl b).2.1 := by decide +kernel
theorem uw_Pl : ∀ x ∈ u_ws "TwoGenerations$Plain" T_Pl 4, x ∈ TT := by
  intro x hx
  obtain ⟨k, hk, rfl⟩ := List.mem_map.mp hx
  rw [List.mem_range] at hk
  rcases (by omega : k = 0 ∨ k = 1 ∨ k = 2 ∨ k = 3) with rfl | rfl | rfl | rfl
  · exact m_324
  · exact m_326
  · exact m_328
  · exact m_322
def T_Wk : u_T := fun k => match k with
  | 0 => ("TwoGenerations$Thing", "size", "I", true)
  | 1 => ("TwoGenerations$Thing", "isOld", "Z", false)
  | 2 => ("TwoGenerations$Thing", "isReached", "Z", false)
  | _ => ("TwoGenerations$Weak", "target", "LTwoGenerations$Thing;", false)
def ty_Wk : Nat → FieldType := fun k => match k with
  | 0 => .int
  | 1 => .boolean
  | 2 => .boolean
  | _ => .object "TwoGenerations$Thing"
theorem tyok_Wk : ∀ k, k < 4 → parseFieldDescriptor (T_Wk k).2.2.1 = some (ty_Wk k) := by decide +kernel
theorem nms_Wk : ∀ a, a < 4 → ∀ b, b < 4 → a ≠ b → (T_Wk a).2.1 ≠ (T_Wk b).2.1 := by decide +kernel
theorem uw_Wk : ∀ x ∈ u_ws "TwoGenerations$Weak" T_Wk 4, x ∈ TT := by
  intro x hx
  obtain ⟨k, hk, rfl⟩ := List.mem_map.mp hx
  rw [List.mem_range] at hk
  rcases (by omega : k = 0 ∨ k = 1 ∨ k = 2 ∨ k = 3) with rfl | rfl | rfl | rfl
  · exact m_391
  · exact m_392
  · exact m_393
  · exact m_389
def T_Wh : u_T := fun k => match k with
  | _ => ("TwoGenerations$Whole", "number", "I", true)
def ty_Wh : Nat → FieldType := fun k => match k with
  | _ => .int
theorem tyok_Wh : ∀ k, k < 1 → parseFieldDescriptor (T_Wh k).2.2.1 = some (ty_Wh k) := by decide +kernel
theorem nms_Wh : ∀ a, a < 1 → ∀ b, b < 1 → a ≠ b → (T_Wh a).2.1 ≠ (T_Wh b).2.1 := by decide +kernel
theorem uw_Wh : ∀ x ∈ u_ws "TwoGenerations$Whole" T_Wh 1, x ∈ TT := by
  intro x hx
  obtain ⟨k, hk, rfl⟩ := List.mem_map.mp hx
  rw [List.mem_range] at hk
  rcases (by omega : k = 0) with rfl
  · exact m_443
def T_Mo : u_T := fun k => match k with
  | 0 => ("TwoGenerationsModel", "fault", "I", false)
  | 1 => ("TwoGenerationsModel", "registers", "I", false)
  | 2 => ("TwoGenerationsModel", "youngMost", "I", false)
  | 3 => ("TwoGenerationsModel", "oldMost", "I", false)
  | 4 => ("TwoGenerationsModel", "register", "[J", true)
  | 5 => ("TwoGenerationsModel", "there", "[Z", true)
  | 6 => ("TwoGenerationsModel", "old", "[Z", true)
  | 7 => ("TwoGenerationsModel", "size", "[I", true)
  | 8 => ("TwoGenerationsModel", "aim", "[I", true)
  | 9 => ("TwoGenerationsModel", "field", "[J", true)
  | 10 => ("TwoGenerationsModel", "reached", "[Z", true)
  | 11 => ("TwoGenerationsModel", "smalls", "I", false)
  | _ => ("TwoGenerationsModel", "greats", "I", false)
def ty_Mo : Nat → FieldType := fun k => match k with
  | 0 => .int
  | 1 => .int
  | 2 => .int
  | 3 => .int
  | 4 => .array .long
  | 5 => .array .boolean
  | 6 => .array .boolean
  | 7 => .array .int
  | 8 => .array .int
  | 9 => .array .long
  | 10 => .array .boolean
  | 11 => .int
  | _ => .int
theorem tyok_Mo : ∀ k, k < 13 → parseFieldDescriptor (T_Mo k).2.2.1 = some (ty_Mo k) := by decide +kernel
theorem nms_Mo : ∀ a, a < 13 → ∀ b, b < 13 → a ≠ b → (T_Mo a).2.1 ≠ (T_Mo b).2.1 := by decide +kernel
theorem uw_Mo : ∀ x ∈ u_ws "TwoGenerationsModel" T_Mo 13, x ∈ TT := by
  intro x hx
  obtain ⟨k, hk, rfl⟩ := List.mem_map.mp hx
  rw [List.mem_range] at hk
  rcases (by omega : k = 0 ∨ k = 1 ∨ k = 2 ∨ k = 3 ∨ k = 4 ∨ k = 5 ∨ k = 6 ∨ k = 7 ∨ k = 8 ∨ k = 9 ∨ k = 10 ∨ k = 11 ∨ k = 12) with rfl | rfl | rfl | rfl | rfl | rfl | rfl | rfl | rfl | rfl | rfl | rfl | rfl
  · exact m_488
  · exact m_490
  · exact m_492
  · exact m_494
  · exact m_496
  · exact m_498
  · exact m_500
  · exact m_502
  · exact m_504
  · exact m_506
  · exact m_508
  · exact m_510
  · exact m_512
abbrev vwCl : List vw_C := [("TwoGenerations", T_TG, 6), ("TwoGenerations$Generation", T_Gen, 4), ("TwoGenerations$Trace", T_Tr, 3), ("TwoGenerations$Plain", T_Pl, 4), ("TwoGenerations$Weak", T_Wk, 4), ("TwoGenerations$Whole", T_Wh, 1), ("TwoGenerationsModel", T_Mo, 13)]
def nF (ci : Nat) : Nat := match ci with
  | 0 => 6
  | 1 => 4
  | 2 => 3
  | 3 => 4
  | 4 => 4
  | 5 => 1
  | 6 => 13
  | _ => 0
def ft (ci k : Nat) : Bool := match ci, k with
  | 0, 4 => true
  | 0, 5 => true
  | 1, 0 => true
  | 1, 2 => true
  | 1, 3 => true
  | 2, 1 => true
  | 2, 2 => true
  | 3, 0 => true
  | 3, 1 => true
  | 3, 2 => true
  | 4, 0 => true
  | 4, 1 => true
  | 4, 2 => true
  | 5, 0 => true
  | 6, 0 => true
  | 6, 1 => true
  | 6, 2 => true
  | 6, 3 => true
  | 6, 11 => true
  | 6, 12 => true
  | _, _ => false
def nT : Nat := 5
def tyL (t : Nat) : FieldType := match t with
  | 0 => .int
  | 1 => .boolean
  | 2 => .long
  | 3 => .object "TwoGenerations$Value"
  | _ => .object "TwoGenerations$Thing"
def tyK (t : Nat) : Nat := match t with
  | 0 => 0
  | 1 => 0
  | 2 => 2
  | _ => 1
def ncL : List (String × String) := [("TwoGenerations$Whole", "TwoGenerations$Thing"), ("TwoGenerations$Whole", "TwoGenerations$Plain"), ("TwoGenerations$Whole", "TwoGenerations$Weak"), ("TwoGenerations$Plain", "TwoGenerations$Whole"), ("TwoGenerations$Weak", "TwoGenerations$Whole"), ("TwoGenerations$Plain", "TwoGenerations$Weak"), ("TwoGenerations$Weak", "TwoGenerations$Plain"), ("java/lang/IllegalStateException", "java/lang/IllegalArgumentException")]
def srL : List (Nat × String) := [(48, "no such register, or too few or too many fields"), (134, "the old generation is full"), (64, "no such register, or no object to aim at"), (78, "no such register or field"), (87, "no such register, or no weak cell"), (95, "no such register, or the int is out of range"), (100, "no such register")]
