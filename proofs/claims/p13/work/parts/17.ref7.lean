def rmX8_trace : Room := { frames := 0, cells := 0, slots := 0, locals := 0 }
def fX8_trace (n : Nat) (I : Nat → Int32) (R : Nat → Nat → Int32) : Option (Int32 × mSt) :=
  some ((I 1), I, R)
set_option maxRecDepth 20000 in
set_option maxHeartbeats 1000000 in
theorem fX8_trace_w {p : Program} {l : Launch} {e : Env} {s : State} {m : MethodId} {args : Array Value} {below : List Frame} {meth : Method} {c : Code} {D : va_G} {y : ClassId} {h : Nat} {q : Nat → Nat} {n : Nat} {z : Int32 × mSt} (X : mX p s m args c cX8_trace 1 wsX8_trace D y) (hr : meth.sig.returnType = some .int ∧ meth.locks = false) {I : Nat → Int32} {R : Nat → Nat → Int32} {H : Heap} {locs : List Loc} {ls : Array Slot} (w : mH s D y h q H locs I R) (hl : lv_has ls 1 [(0, .ref h)]) (e0 : fX8_trace n I R = some z) : W p l e rmX8_trace s m args below meth c H locs 0 0 (MQ below (mQi D y h q (mS y h q s.heap.size) z) args s 0 0 (mS y h q s.heap.size)) (F0 m 0 ls []) := by
  have hx := X.1.1
  have hb := X.1.2.1
  unfold fX8_trace at e0
  refine lv_aload_n hx hb dX8_trace_0 rfl (lv_at hl 0 rfl) ?_
  refine m_get X w 1 (by decide) (index := 255) rfl (by decide +kernel) (mfi1 _ _) dX8_trace_1 ?_
  have e0 := Option.some.inj e0
  subst e0
  exact m_iret X w hr dX8_trace_4
set_option maxRecDepth 20000 in
theorem fX8_trace_met (l : Launch) (D : va_G) (y : ClassId) (h : Nat) (q : Nat → Nat) (sz n : Nat) (I : Nat → Int32) (R : Nat → Nat → Int32) (z : Int32 × mSt) (e0 : fX8_trace n I R = some z) : Met l yX8_trace wsX8_trace rmX8_trace (va_Pc [.ref h] (mPre D y h q sz I R)) (mQi D y h q (mS y h q sz) z) 0 0 (mS y h q sz) := by
  refine Met.ofW (cc := cX8_trace) (maxL := 1) (ret := some .int) (by decide) rfl ?_
  intro p e s m args below meth c s₁ B hml hv
  obtain ⟨rfl, hsz, hP, hK, hD⟩ := hv
  subst hsz
  have hl := lv_entry ([.ref h]) (n := 1) (Nat.le_of_ble_eq_true rfl)
  rw [lg_entry_eq]
  exact fX8_trace_w (s := s) ⟨⟨B.exec, B.bytes, hml, findClass_of_methodNamed B.named, atoms_spec (ws := wsX8_trace) B.pre⟩, fun _ h9 => List.mem_cons_of_mem _ (List.mem_append_right _ h9), hK⟩ ⟨B.returns, B.notSynchronized⟩ ⟨hP, mS_D hD, va_S.rf⟩ hl e0
def rmX8_fault : Room := { frames := 0, cells := 0, slots := 0, locals := 0 }
def fX8_fault (n : Nat) (I : Nat → Int32) (R : Nat → Nat → Int32) : Option (Int32 × mSt) :=
  some ((I 0), I, R)
set_option maxRecDepth 20000 in
set_option maxHeartbeats 1000000 in
theorem fX8_fault_w {p : Program} {l : Launch} {e : Env} {s : State} {m : MethodId} {args : Array Value} {below : List Frame} {meth : Method} {c : Code} {D : va_G} {y : ClassId} {h : Nat} {q : Nat → Nat} {n : Nat} {z : Int32 × mSt} (X : mX p s m args c cX8_fault 1 wsX8_fault D y) (hr : meth.sig.returnType = some .int ∧ meth.locks = false) {I : Nat → Int32} {R : Nat → Nat → Int32} {H : Heap} {locs : List Loc} {ls : Array Slot} (w : mH s D y h q H locs I R) (hl : lv_has ls 1 [(0, .ref h)]) (e0 : fX8_fault n I R = some z) : W p l e rmX8_fault s m args below meth c H locs 0 0 (MQ below (mQi D y h q (mS y h q s.heap.size) z) args s 0 0 (mS y h q s.heap.size)) (F0 m 0 ls []) := by
  have hx := X.1.1
  have hb := X.1.2.1
  unfold fX8_fault at e0
  refine lv_aload_n hx hb dX8_fault_0 rfl (lv_at hl 0 rfl) ?_
  refine m_get X w 0 (by decide) (index := 82) rfl (by decide +kernel) (mfi0 _ _) dX8_fault_1 ?_
  have e0 := Option.some.inj e0
  subst e0
  exact m_iret X w hr dX8_fault_4
set_option maxRecDepth 20000 in
theorem fX8_fault_met (l : Launch) (D : va_G) (y : ClassId) (h : Nat) (q : Nat → Nat) (sz n : Nat) (I : Nat → Int32) (R : Nat → Nat → Int32) (z : Int32 × mSt) (e0 : fX8_fault n I R = some z) : Met l yX8_fault wsX8_fault rmX8_fault (va_Pc [.ref h] (mPre D y h q sz I R)) (mQi D y h q (mS y h q sz) z) 0 0 (mS y h q sz) := by
  refine Met.ofW (cc := cX8_fault) (maxL := 1) (ret := some .int) (by decide) rfl ?_
  intro p e s m args below meth c s₁ B hml hv
  obtain ⟨rfl, hsz, hP, hK, hD⟩ := hv
  subst hsz
  have hl := lv_entry ([.ref h]) (n := 1) (Nat.le_of_ble_eq_true rfl)
  rw [lg_entry_eq]
  exact fX8_fault_w (s := s) ⟨⟨B.exec, B.bytes, hml, findClass_of_methodNamed B.named, atoms_spec (ws := wsX8_fault) B.pre⟩, fun _ h9 => List.mem_cons_of_mem _ (List.mem_append_right _ h9), hK⟩ ⟨B.returns, B.notSynchronized⟩ ⟨hP, mS_D hD, va_S.rf⟩ hl e0
def rmX8_many : Room := { frames := 4, cells := 0, slots := 0, locals := 93 }
def fX8_many (n : Nat) (a1 : Int32) (I : Nat → Int32) (R : Nat → Nat → Int32) : Option (Int32 × mSt) :=
  if a1 = 0 then
    some ((I 5), I, R)
  else
    if a1 = 1 then
      some ((I 6), I, R)
    else
      if a1 = 2 then
        (fX8_findHolds n I R).bind fun z8 =>
        (fX8_allHeld n z8.1 z8.2).bind fun z10 =>
        some (z10.1, z10.2.1, z10.2.2)
      else
        if a1 = 3 then
          (fX8_allTold n I R).bind fun z6 =>
          some (z6.1, z6.2.1, z6.2.2)
        else
          if a1 = 4 then
            some ((I 31), I, R)
          else
            some ((-2), I, R)
set_option maxRecDepth 20000 in
set_option maxHeartbeats 1000000 in
theorem fX8_many_w {p : Program} {l : Launch} {e : Env} {s : State} {m : MethodId} {args : Array Value} {below : List Frame} {meth : Method} {c : Code} {D : va_G} {y : ClassId} {h : Nat} {q : Nat → Nat} {n : Nat} {z : Int32 × mSt} (X : mX p s m args c cX8_many 2 wsX8_many D y) (hr : meth.sig.returnType = some .int ∧ meth.locks = false) {a1 : Int32} {I : Nat → Int32} {R : Nat → Nat → Int32} {H : Heap} {locs : List Loc} {ls : Array Slot} (w : mH s D y h q H locs I R) (hl : lv_has ls 2 [(0, .ref h), (1, .int a1)]) (e0 : fX8_many n a1 I R = some z) : W p l e rmX8_many s m args below meth c H locs 0 0 (MQ below (mQi D y h q (mS y h q s.heap.size) z) args s 0 0 (mS y h q s.heap.size)) (F0 m 0 ls []) := by
  have hx := X.1.1
  have hb := X.1.2.1
  unfold fX8_many at e0
  refine lv_iload_n hx hb dX8_many_0 rfl (lv_at hl 1 rfl) ?_
  by_cases c1 : a1 = 0
  · have e0 := itp _ c1 e0
    refine lv_tableIn (off := 35) (tgt := 36) hx hb dX8_many_1 (by rw [c1]; decide) (by rw [c1]; decide) (by rw [c1]; decide) (by decide) ?_
    refine lv_aload_n hx hb dX8_many_36 rfl (lv_at hl 0 rfl) ?_
    refine m_get X w 5 (by decide) (index := 92) rfl (by decide +kernel) (mfi5 _ _) dX8_many_37 ?_
    have e0 := Option.some.inj e0
    subst e0
    exact m_iret X w hr dX8_many_40
  · have e0 := itn _ c1 e0
    by_cases c2 : a1 = 1
    · have e0 := itp _ c2 e0
      refine lv_tableIn (off := 40) (tgt := 41) hx hb dX8_many_1 (by rw [c2]; decide) (by rw [c2]; decide) (by rw [c2]; decide) (by decide) ?_
      refine lv_aload_n hx hb dX8_many_41 rfl (lv_at hl 0 rfl) ?_
      refine m_get X w 6 (by decide) (index := 95) rfl (by decide +kernel) (mfi6 _ _) dX8_many_42 ?_
      have e0 := Option.some.inj e0
      subst e0
      exact m_iret X w hr dX8_many_45
    · have e0 := itn _ c2 e0
      by_cases c3 : a1 = 2
      · have e0 := itp _ c3 e0
        refine lv_tableIn (off := 45) (tgt := 46) hx hb dX8_many_1 (by rw [c3]; decide) (by rw [c3]; decide) (by rw [c3]; decide) (by decide) ?_
        refine lv_aload_n hx hb dX8_many_46 rfl (lv_at hl 0 rfl) ?_
        refine bd e0 (fun z8 e9 e0 => ?_)
        refine m_callv X w (n := 0) (As := []) (rest := []) (fX8_findHolds_met l _ _ _ _ _ _  _ _ _ e9) gX8_many_X8_findHolds rfl rfl rfl (by decide +kernel) ⟨Nat.le_of_ble_eq_true rfl, Nat.le_of_ble_eq_true rfl⟩ rfl hl.1 rfl (Nat.le_of_ble_eq_true rfl) dX8_many_47 (fun H locs w => ?_)
        refine lv_aload_n hx hb dX8_many_50 rfl (lv_at hl 0 rfl) ?_
        refine bd e0 (fun z10 e11 e0 => ?_)
        refine m_calli X w (n := 0) (As := []) (rest := []) (fX8_allHeld_met l _ _ _ _ _ _  _ _ _ e11) gX8_many_X8_allHeld rfl rfl rfl (by decide +kernel) ⟨Nat.le_of_ble_eq_true rfl, Nat.le_of_ble_eq_true rfl⟩ rfl hl.1 rfl (Nat.le_of_ble_eq_true rfl) dX8_many_51 (fun H locs w => ?_)
        have e0 := Option.some.inj e0
        subst e0
        exact m_iret X w hr dX8_many_54
      · have e0 := itn _ c3 e0
        by_cases c4 : a1 = 3
        · have e0 := itp _ c4 e0
          refine lv_tableIn (off := 54) (tgt := 55) hx hb dX8_many_1 (by rw [c4]; decide) (by rw [c4]; decide) (by rw [c4]; decide) (by decide) ?_
          refine lv_aload_n hx hb dX8_many_55 rfl (lv_at hl 0 rfl) ?_
          refine bd e0 (fun z6 e7 e0 => ?_)
          refine m_calli X w (n := 0) (As := []) (rest := []) (fX8_allTold_met l _ _ _ _ _ _  _ _ _ e7) gX8_many_X8_allTold rfl rfl rfl (by decide +kernel) ⟨Nat.le_of_ble_eq_true rfl, Nat.le_of_ble_eq_true rfl⟩ rfl hl.1 rfl (Nat.le_of_ble_eq_true rfl) dX8_many_56 (fun H locs w => ?_)
          have e0 := Option.some.inj e0
          subst e0
          exact m_iret X w hr dX8_many_59
        · have e0 := itn _ c4 e0
          by_cases c5 : a1 = 4
          · have e0 := itp _ c5 e0
            refine lv_tableIn (off := 59) (tgt := 60) hx hb dX8_many_1 (by rw [c5]; decide) (by rw [c5]; decide) (by rw [c5]; decide) (by decide) ?_
            refine lv_aload_n hx hb dX8_many_60 rfl (lv_at hl 0 rfl) ?_
            refine m_get X w 31 (by decide) (index := 135) rfl (by decide +kernel) (mfi31 _ _) dX8_many_61 ?_
            have e0 := Option.some.inj e0
            subst e0
            exact m_iret X w hr dX8_many_64
          · have e0 := itn _ c5 e0
            refine lv_tableOut (tgt := 65) hx hb dX8_many_1 (by have hc1 := lv_neT c1 (a := 0) (by decide); have hc2 := lv_neT c2 (a := 1) (by decide); have hc3 := lv_neT c3 (a := 2) (by decide); have hc4 := lv_neT c4 (a := 3) (by decide); have hc5 := lv_neT c5 (a := 4) (by decide); omega) (by decide) ?_
            refine lv_bipush (v := (-2)) hx hb dX8_many_65 (by decide) ?_
            have e0 := Option.some.inj e0
            subst e0
            exact m_iret X w hr dX8_many_67
set_option maxRecDepth 20000 in
theorem fX8_many_met (l : Launch) (D : va_G) (y : ClassId) (h : Nat) (q : Nat → Nat) (sz n : Nat) (a1 : Int32) (I : Nat → Int32) (R : Nat → Nat → Int32) (z : Int32 × mSt) (e0 : fX8_many n a1 I R = some z) : Met l yX8_many wsX8_many rmX8_many (va_Pc [.ref h, .int a1] (mPre D y h q sz I R)) (mQi D y h q (mS y h q sz) z) 0 0 (mS y h q sz) := by
  refine Met.ofW (cc := cX8_many) (maxL := 2) (ret := some .int) (by decide) rfl ?_
  intro p e s m args below meth c s₁ B hml hv
  obtain ⟨rfl, hsz, hP, hK, hD⟩ := hv
  subst hsz
  have hl := lv_entry ([.ref h, .int a1]) (n := 2) (Nat.le_of_ble_eq_true rfl)
  rw [lg_entry_eq]
  exact fX8_many_w (s := s) ⟨⟨B.exec, B.bytes, hml, findClass_of_methodNamed B.named, atoms_spec (ws := wsX8_many) B.pre⟩, fun _ h9 => List.mem_cons_of_mem _ (List.mem_append_right _ h9), hK⟩ ⟨B.returns, B.notSynchronized⟩ ⟨hP, mS_D hD, va_S.rf⟩ hl e0
