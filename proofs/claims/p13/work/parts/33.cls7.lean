theorem in_X7_trace_X7 : ∀ w ∈ wsX70, w ∈ wsX7_trace := fun _ h9 => List.mem_cons_of_mem _ (List.mem_append_right _ h9)
def rmX7_trace : Room := { frames := 0, cells := 0, slots := 0, locals := 0 }
def fX7_trace (n : Nat) (I : Nat → Int32) (R : Nat → Nat → Int32) : Option (Int32 × mSt) :=
  some ((I 8), I, R)
set_option maxRecDepth 20000 in
set_option maxHeartbeats 2000000 in
theorem fX7_trace_w {p : Program} {l : Launch} {e : Env} {s : State} {m : MethodId} {args : Array Value} {below : List Frame} {meth : Method} {c : Code} {D : va_G} {y : ClassId} {yS : ClassId × ClassId} {q : Nat → Nat} {n : Nat} {z : Int32 × mSt} (X : cX p s m args c cX7_trace 1 wsX7_trace RX7 D y yS) (hr : meth.sig.returnType = some .int ∧ meth.locks = false) {I : Nat → Int32} {R : Nat → Nat → Int32} {H : Heap} {locs : List Loc} {ls : Array Slot} (w : cH s D y yS q H locs I R) (hl : lv_has ls 1 [(0, .ref (q 0))]) (e0 : fX7_trace n I R = some z) : W p l e rmX7_trace s m args below meth c H locs 0 0 (MQ below (cQi D y yS q (cS y yS q s.heap.size) z) args s 0 0 (cS y yS q s.heap.size)) (F0 m 0 ls []) := by
  have hx := X.1.1
  have hb := X.1.2.1
  unfold fX7_trace at e0
  refine lv_aload_n hx hb dX7_trace_0 rfl (lv_at hl 0 rfl) ?_
  refine c_get X w (cat_RR _ _ _ _ _) rfl in_X7_trace_X7 7 (by decide) (index := 298) rfl (by decide +kernel) (cf_RR_7 _ _) dX7_trace_1 ?_
  have e0 := Option.some.inj e0
  subst e0
  exact c_iret X w hr dX7_trace_4
set_option maxRecDepth 20000 in
theorem fX7_trace_met (l : Launch) (D : va_G) (y : ClassId) (yS : ClassId × ClassId) (q : Nat → Nat) (sz n : Nat) (I : Nat → Int32) (R : Nat → Nat → Int32) (z : Int32 × mSt) (e0 : fX7_trace n I R = some z) : Met l yX7_trace wsX7_trace rmX7_trace (va_Pc [.ref (q 0)] (cPre D y yS q sz I R)) (cQi D y yS q (cS y yS q sz) z) 0 0 (cS y yS q sz) := by
  refine Met.ofW (cc := cX7_trace) (maxL := 1) (ret := some .int) (by decide) rfl ?_
  intro p e s m args below meth c s₁ B hml hv
  obtain ⟨rfl, hsz, hP, hK, hN, hD⟩ := hv
  subst hsz
  have hl := lv_entry ([.ref (q 0)]) (n := 1) (Nat.le_of_ble_eq_true rfl)
  rw [lg_entry_eq]
  exact fX7_trace_w (s := s) ⟨⟨B.exec, B.bytes, hml, findClass_of_methodNamed B.named, atoms_spec (ws := wsX7_trace) B.pre⟩, hK, hN⟩ ⟨B.returns, B.notSynchronized⟩ ⟨hP, cS_D hD, va_S.rf⟩ hl e0
theorem in_X7_fault_X7 : ∀ w ∈ wsX70, w ∈ wsX7_fault := fun _ h9 => List.mem_cons_of_mem _ (List.mem_append_right _ h9)
def rmX7_fault : Room := { frames := 0, cells := 0, slots := 0, locals := 0 }
def fX7_fault (n : Nat) (I : Nat → Int32) (R : Nat → Nat → Int32) : Option (Int32 × mSt) :=
  some ((I 9), I, R)
set_option maxRecDepth 20000 in
set_option maxHeartbeats 2000000 in
theorem fX7_fault_w {p : Program} {l : Launch} {e : Env} {s : State} {m : MethodId} {args : Array Value} {below : List Frame} {meth : Method} {c : Code} {D : va_G} {y : ClassId} {yS : ClassId × ClassId} {q : Nat → Nat} {n : Nat} {z : Int32 × mSt} (X : cX p s m args c cX7_fault 1 wsX7_fault RX7 D y yS) (hr : meth.sig.returnType = some .int ∧ meth.locks = false) {I : Nat → Int32} {R : Nat → Nat → Int32} {H : Heap} {locs : List Loc} {ls : Array Slot} (w : cH s D y yS q H locs I R) (hl : lv_has ls 1 [(0, .ref (q 0))]) (e0 : fX7_fault n I R = some z) : W p l e rmX7_fault s m args below meth c H locs 0 0 (MQ below (cQi D y yS q (cS y yS q s.heap.size) z) args s 0 0 (cS y yS q s.heap.size)) (F0 m 0 ls []) := by
  have hx := X.1.1
  have hb := X.1.2.1
  unfold fX7_fault at e0
  refine lv_aload_n hx hb dX7_fault_0 rfl (lv_at hl 0 rfl) ?_
  refine c_get X w (cat_RR _ _ _ _ _) rfl in_X7_fault_X7 8 (by decide) (index := 42) rfl (by decide +kernel) (cf_RR_8 _ _) dX7_fault_1 ?_
  have e0 := Option.some.inj e0
  subst e0
  exact c_iret X w hr dX7_fault_4
set_option maxRecDepth 20000 in
theorem fX7_fault_met (l : Launch) (D : va_G) (y : ClassId) (yS : ClassId × ClassId) (q : Nat → Nat) (sz n : Nat) (I : Nat → Int32) (R : Nat → Nat → Int32) (z : Int32 × mSt) (e0 : fX7_fault n I R = some z) : Met l yX7_fault wsX7_fault rmX7_fault (va_Pc [.ref (q 0)] (cPre D y yS q sz I R)) (cQi D y yS q (cS y yS q sz) z) 0 0 (cS y yS q sz) := by
  refine Met.ofW (cc := cX7_fault) (maxL := 1) (ret := some .int) (by decide) rfl ?_
  intro p e s m args below meth c s₁ B hml hv
  obtain ⟨rfl, hsz, hP, hK, hN, hD⟩ := hv
  subst hsz
  have hl := lv_entry ([.ref (q 0)]) (n := 1) (Nat.le_of_ble_eq_true rfl)
  rw [lg_entry_eq]
  exact fX7_fault_w (s := s) ⟨⟨B.exec, B.bytes, hml, findClass_of_methodNamed B.named, atoms_spec (ws := wsX7_fault) B.pre⟩, hK, hN⟩ ⟨B.returns, B.notSynchronized⟩ ⟨hP, cS_D hD, va_S.rf⟩ hl e0
theorem in_X7_many_X7 : ∀ w ∈ wsX70, w ∈ wsX7_many := fun _ h9 => List.mem_cons_of_mem _ (List.mem_append_left _ (List.mem_append_left _ (List.mem_append_left _ (List.mem_append_left _ (List.mem_append_left _ (List.mem_append_right _ h9))))))
theorem in_X7_many_X6 : ∀ w ∈ wsX60, w ∈ wsX7_many := fun _ h9 => List.mem_cons_of_mem _ (List.mem_append_left _ (List.mem_append_left _ (List.mem_append_left _ (List.mem_append_left _ (List.mem_append_right _ h9)))))
theorem in_X7_many_X2 : ∀ w ∈ wsX20, w ∈ wsX7_many := fun _ h9 => List.mem_cons_of_mem _ (List.mem_append_left _ (List.mem_append_left _ (List.mem_append_left _ (List.mem_append_right _ h9))))
theorem in_X7_many_X1 : ∀ w ∈ wsX10, w ∈ wsX7_many := fun _ h9 => List.mem_cons_of_mem _ (List.mem_append_left _ (List.mem_append_left _ (List.mem_append_right _ h9)))
theorem in_X7_many_X3 : ∀ w ∈ wsX30, w ∈ wsX7_many := fun _ h9 => List.mem_cons_of_mem _ (List.mem_append_left _ (List.mem_append_right _ h9))
theorem in_X7_many_X0 : ∀ w ∈ wsX00, w ∈ wsX7_many := fun _ h9 => List.mem_cons_of_mem _ (List.mem_append_right _ h9)
def rmX7_many : Room := { frames := 6, cells := 0, slots := 0, locals := 133 }
def fX7_many (n : Nat) (a1 : Int32) (I : Nat → Int32) (R : Nat → Nat → Int32) : Option (Int32 × mSt) :=
  if a1 = 0 then
    some ((I (118 + 100 * 0)), I, R)
  else
    if a1 = 1 then
      some ((I (119 + 100 * 0)), I, R)
    else
      if a1 = 2 then
        (fX6_settle n 0 I R).bind fun z8 =>
        (fX3_held n 0 z8.1 z8.2).bind fun z10 =>
        some (z10.1, z10.2.1, z10.2.2)
      else
        if a1 = 3 then
          (fX2_toldCount n 0 I R).bind fun z6 =>
          some (z6.1, z6.2.1, z6.2.2)
        else
          if a1 = 4 then
            some ((I 7), I, R)
          else
            some ((-2), I, R)
set_option maxRecDepth 20000 in
set_option maxHeartbeats 2000000 in
theorem fX7_many_w {p : Program} {l : Launch} {e : Env} {s : State} {m : MethodId} {args : Array Value} {below : List Frame} {meth : Method} {c : Code} {D : va_G} {y : ClassId} {yS : ClassId × ClassId} {q : Nat → Nat} {n : Nat} {z : Int32 × mSt} (X : cX p s m args c cX7_many 2 wsX7_many RX7 D y yS) (hr : meth.sig.returnType = some .int ∧ meth.locks = false) {a1 : Int32} {I : Nat → Int32} {R : Nat → Nat → Int32} {H : Heap} {locs : List Loc} {ls : Array Slot} (w : cH s D y yS q H locs I R) (hl : lv_has ls 2 [(0, .ref (q 0)), (1, .int a1)]) (e0 : fX7_many n a1 I R = some z) : W p l e rmX7_many s m args below meth c H locs 0 0 (MQ below (cQi D y yS q (cS y yS q s.heap.size) z) args s 0 0 (cS y yS q s.heap.size)) (F0 m 0 ls []) := by
  have hx := X.1.1
  have hb := X.1.2.1
  unfold fX7_many at e0
  refine lv_iload_n hx hb dX7_many_0 rfl (lv_at hl 1 rfl) ?_
  by_cases c1 : a1 = 0
  · have e0 := itp _ c1 e0
    refine lv_tableIn (off := 35) (tgt := 36) hx hb dX7_many_1 (by rw [c1]; decide) (by rw [c1]; decide) (by rw [c1]; decide) (by decide) ?_
    refine lv_aload_n hx hb dX7_many_36 rfl (lv_at hl 0 rfl) ?_
    refine c_get X w (cat_RR _ _ _ _ _) rfl in_X7_many_X7 1 (by decide) (index := 21) rfl (by decide +kernel) (cf_RR_1 _ _) dX7_many_37 ?_
    refine c_get X w (cat_WO _ _ _ _ _ 0 (by decide)) rfl in_X7_many_X6 0 (by decide) (index := 68) rfl (by decide +kernel) (cf_WO_0 _ _ _) dX7_many_40 ?_
    refine c_get X w (cat_PR _ _ _ _ _ 0 (by decide)) rfl in_X7_many_X2 7 (by decide) (index := 236) rfl (by decide +kernel) (cf_PR_7 _ _ _) dX7_many_43 ?_
    have e0 := Option.some.inj e0
    subst e0
    exact c_iret X w hr dX7_many_46
  · have e0 := itn _ c1 e0
    by_cases c2 : a1 = 1
    · have e0 := itp _ c2 e0
      refine lv_tableIn (off := 46) (tgt := 47) hx hb dX7_many_1 (by rw [c2]; decide) (by rw [c2]; decide) (by rw [c2]; decide) (by decide) ?_
      refine lv_aload_n hx hb dX7_many_47 rfl (lv_at hl 0 rfl) ?_
      refine c_get X w (cat_RR _ _ _ _ _) rfl in_X7_many_X7 1 (by decide) (index := 21) rfl (by decide +kernel) (cf_RR_1 _ _) dX7_many_48 ?_
      refine c_get X w (cat_WO _ _ _ _ _ 0 (by decide)) rfl in_X7_many_X6 0 (by decide) (index := 68) rfl (by decide +kernel) (cf_WO_0 _ _ _) dX7_many_51 ?_
      refine c_get X w (cat_PR _ _ _ _ _ 0 (by decide)) rfl in_X7_many_X2 8 (by decide) (index := 100) rfl (by decide +kernel) (cf_PR_8 _ _ _) dX7_many_54 ?_
      have e0 := Option.some.inj e0
      subst e0
      exact c_iret X w hr dX7_many_57
    · have e0 := itn _ c2 e0
      by_cases c3 : a1 = 2
      · have e0 := itp _ c3 e0
        refine lv_tableIn (off := 57) (tgt := 58) hx hb dX7_many_1 (by rw [c3]; decide) (by rw [c3]; decide) (by rw [c3]; decide) (by decide) ?_
        refine lv_aload_n hx hb dX7_many_58 rfl (lv_at hl 0 rfl) ?_
        refine c_get X w (cat_RR _ _ _ _ _) rfl in_X7_many_X7 1 (by decide) (index := 21) rfl (by decide +kernel) (cf_RR_1 _ _) dX7_many_59 ?_
        refine bd e0 (fun z8 e9 e0 => ?_)
        refine c_callv X w (c_rec X w (cat_WO _ _ _ _ _ 0 (by decide)) rfl) (n := 0) (As := []) (rest := []) (fX6_settle_met l _ _ _ _ _ _ _ (by decide)  _ _ _ e9) gX7_many_X6_settle rfl rfl rfl (by decide +kernel) ⟨Nat.le_of_ble_eq_true rfl, Nat.le_of_ble_eq_true rfl⟩ rfl hl.1 rfl (Nat.le_of_ble_eq_true rfl) dX7_many_62 (fun H locs w => ?_)
        refine lv_aload_n hx hb dX7_many_65 rfl (lv_at hl 0 rfl) ?_
        refine c_get X w (cat_RR _ _ _ _ _) rfl in_X7_many_X7 1 (by decide) (index := 21) rfl (by decide +kernel) (cf_RR_1 _ _) dX7_many_66 ?_
        refine c_get X w (cat_WO _ _ _ _ _ 0 (by decide)) rfl in_X7_many_X6 2 (by decide) (index := 141) rfl (by decide +kernel) (cf_WO_2 _ _ _) dX7_many_69 ?_
        refine bd e0 (fun z10 e11 e0 => ?_)
        refine c_calli X w (c_rec X w (cat_RO _ _ _ _ _ 0 (by decide)) rfl) (n := 0) (As := []) (rest := []) (fX3_held_met l _ _ _ _ _ _ _ (by decide)  _ _ _ e11) gX7_many_X3_held rfl rfl rfl (by decide +kernel) ⟨Nat.le_of_ble_eq_true rfl, Nat.le_of_ble_eq_true rfl⟩ rfl hl.1 rfl (Nat.le_of_ble_eq_true rfl) dX7_many_72 (fun H locs w => ?_)
        have e0 := Option.some.inj e0
        subst e0
        exact c_iret X w hr dX7_many_75
      · have e0 := itn _ c3 e0
        by_cases c4 : a1 = 3
        · have e0 := itp _ c4 e0
          refine lv_tableIn (off := 75) (tgt := 76) hx hb dX7_many_1 (by rw [c4]; decide) (by rw [c4]; decide) (by rw [c4]; decide) (by decide) ?_
          refine lv_aload_n hx hb dX7_many_76 rfl (lv_at hl 0 rfl) ?_
          refine c_get X w (cat_RR _ _ _ _ _) rfl in_X7_many_X7 1 (by decide) (index := 21) rfl (by decide +kernel) (cf_RR_1 _ _) dX7_many_77 ?_
          refine c_get X w (cat_WO _ _ _ _ _ 0 (by decide)) rfl in_X7_many_X6 0 (by decide) (index := 68) rfl (by decide +kernel) (cf_WO_0 _ _ _) dX7_many_80 ?_
          refine bd e0 (fun z6 e7 e0 => ?_)
          refine c_calli X w (c_rec X w (cat_PR _ _ _ _ _ 0 (by decide)) rfl) (n := 0) (As := []) (rest := []) (fX2_toldCount_met l _ _ _ _ _ _ _ (by decide)  _ _ _ e7) gX7_many_X2_toldCount rfl rfl rfl (by decide +kernel) ⟨Nat.le_of_ble_eq_true rfl, Nat.le_of_ble_eq_true rfl⟩ rfl hl.1 rfl (Nat.le_of_ble_eq_true rfl) dX7_many_83 (fun H locs w => ?_)
          have e0 := Option.some.inj e0
          subst e0
          exact c_iret X w hr dX7_many_86
        · have e0 := itn _ c4 e0
          by_cases c5 : a1 = 4
          · have e0 := itp _ c5 e0
            refine lv_tableIn (off := 86) (tgt := 87) hx hb dX7_many_1 (by rw [c5]; decide) (by rw [c5]; decide) (by rw [c5]; decide) (by decide) ?_
            refine lv_aload_n hx hb dX7_many_87 rfl (lv_at hl 0 rfl) ?_
            refine c_get X w (cat_RR _ _ _ _ _) rfl in_X7_many_X7 6 (by decide) (index := 97) rfl (by decide +kernel) (cf_RR_6 _ _) dX7_many_88 ?_
            have e0 := Option.some.inj e0
            subst e0
            exact c_iret X w hr dX7_many_91
          · have e0 := itn _ c5 e0
            refine lv_tableOut (tgt := 92) hx hb dX7_many_1 (by have hc1 := lv_neT c1 (a := 0) (by decide); have hc2 := lv_neT c2 (a := 1) (by decide); have hc3 := lv_neT c3 (a := 2) (by decide); have hc4 := lv_neT c4 (a := 3) (by decide); have hc5 := lv_neT c5 (a := 4) (by decide); omega) (by decide) ?_
            refine lv_bipush (v := (-2)) hx hb dX7_many_92 (by decide) ?_
            have e0 := Option.some.inj e0
            subst e0
            exact c_iret X w hr dX7_many_94
set_option maxRecDepth 20000 in
theorem fX7_many_met (l : Launch) (D : va_G) (y : ClassId) (yS : ClassId × ClassId) (q : Nat → Nat) (sz n : Nat) (a1 : Int32) (I : Nat → Int32) (R : Nat → Nat → Int32) (z : Int32 × mSt) (e0 : fX7_many n a1 I R = some z) : Met l yX7_many wsX7_many rmX7_many (va_Pc [.ref (q 0), .int a1] (cPre D y yS q sz I R)) (cQi D y yS q (cS y yS q sz) z) 0 0 (cS y yS q sz) := by
  refine Met.ofW (cc := cX7_many) (maxL := 2) (ret := some .int) (by decide) rfl ?_
  intro p e s m args below meth c s₁ B hml hv
  obtain ⟨rfl, hsz, hP, hK, hN, hD⟩ := hv
  subst hsz
  have hl := lv_entry ([.ref (q 0), .int a1]) (n := 2) (Nat.le_of_ble_eq_true rfl)
  rw [lg_entry_eq]
  exact fX7_many_w (s := s) ⟨⟨B.exec, B.bytes, hml, findClass_of_methodNamed B.named, atoms_spec (ws := wsX7_many) B.pre⟩, hK, hN⟩ ⟨B.returns, B.notSynchronized⟩ ⟨hP, cS_D hD, va_S.rf⟩ hl e0
