def rmX8_fails : Room := { frames := 0, cells := 0, slots := 0, locals := 0 }
def fX8_fails (n : Nat) (a1 : Int32) (I : Nat → Int32) (R : Nat → Nat → Int32) : Option (Int32 × mSt) :=
  some (((-10) - a1), (upd I 0 a1), R)
set_option maxRecDepth 20000 in
set_option maxHeartbeats 1000000 in
theorem fX8_fails_w {p : Program} {l : Launch} {e : Env} {s : State} {m : MethodId} {args : Array Value} {below : List Frame} {meth : Method} {c : Code} {D : va_G} {y : ClassId} {h : Nat} {q : Nat → Nat} {n : Nat} {z : Int32 × mSt} (X : mX p s m args c cX8_fails 2 wsX8_fails D y) (hr : meth.sig.returnType = some .int ∧ meth.locks = false) {a1 : Int32} {I : Nat → Int32} {R : Nat → Nat → Int32} {H : Heap} {locs : List Loc} {ls : Array Slot} (w : mH s D y h q H locs I R) (hl : lv_has ls 2 [(0, .ref h), (1, .int a1)]) (e0 : fX8_fails n a1 I R = some z) : W p l e rmX8_fails s m args below meth c H locs 0 0 (MQ below (mQi D y h q (mS y h q s.heap.size) z) args s 0 0 (mS y h q s.heap.size)) (F0 m 0 ls []) := by
  have hx := X.1.1
  have hb := X.1.2.1
  unfold fX8_fails at e0
  refine lv_aload_n hx hb dX8_fails_0 rfl (lv_at hl 0 rfl) ?_
  refine lv_iload_n hx hb dX8_fails_1 rfl (lv_at hl 1 rfl) ?_
  refine m_put X w 0 (by decide) (index := 82) rfl rfl (by decide +kernel) (by decide +kernel) (mps0 _ _ _) dX8_fails_2 (fun H locs w => ?_)
  refine lv_bipush (v := (-10)) hx hb dX8_fails_5 (by decide) ?_
  refine lv_iload_n hx hb dX8_fails_7 rfl (lv_at hl 1 rfl) ?_
  refine lv_isub hx hb dX8_fails_8 ?_
  have e0 := Option.some.inj e0
  subst e0
  exact m_iret X w hr dX8_fails_9
set_option maxRecDepth 20000 in
theorem fX8_fails_met (l : Launch) (D : va_G) (y : ClassId) (h : Nat) (q : Nat → Nat) (sz n : Nat) (a1 : Int32) (I : Nat → Int32) (R : Nat → Nat → Int32) (z : Int32 × mSt) (e0 : fX8_fails n a1 I R = some z) : Met l yX8_fails wsX8_fails rmX8_fails (va_Pc [.ref h, .int a1] (mPre D y h q sz I R)) (mQi D y h q (mS y h q sz) z) 0 0 (mS y h q sz) := by
  refine Met.ofW (cc := cX8_fails) (maxL := 2) (ret := some .int) (by decide) rfl ?_
  intro p e s m args below meth c s₁ B hml hv
  obtain ⟨rfl, hsz, hP, hK, hD⟩ := hv
  subst hsz
  have hl := lv_entry ([.ref h, .int a1]) (n := 2) (Nat.le_of_ble_eq_true rfl)
  rw [lg_entry_eq]
  exact fX8_fails_w (s := s) ⟨⟨B.exec, B.bytes, hml, findClass_of_methodNamed B.named, atoms_spec (ws := wsX8_fails) B.pre⟩, fun _ h9 => List.mem_cons_of_mem _ (List.mem_append_right _ h9), hK⟩ ⟨B.returns, B.notSynchronized⟩ ⟨hP, mS_D hD, va_S.rf⟩ hl e0
def rmX8_lost : Room := { frames := 0, cells := 0, slots := 0, locals := 0 }
def fX8_lost (n : Nat) (a1 : Int32) (I : Nat → Int32) (R : Nat → Nat → Int32) : Option (Int64 × mSt) :=
  some ((-9223372036854775808), (upd I 0 a1), R)
set_option maxRecDepth 20000 in
set_option maxHeartbeats 1000000 in
theorem fX8_lost_w {p : Program} {l : Launch} {e : Env} {s : State} {m : MethodId} {args : Array Value} {below : List Frame} {meth : Method} {c : Code} {D : va_G} {y : ClassId} {h : Nat} {q : Nat → Nat} {n : Nat} {z : Int64 × mSt} (X : mX p s m args c cX8_lost 2 wsX8_lost D y) (hr : meth.sig.returnType = some .long ∧ meth.locks = false) {a1 : Int32} {I : Nat → Int32} {R : Nat → Nat → Int32} {H : Heap} {locs : List Loc} {ls : Array Slot} (w : mH s D y h q H locs I R) (hl : lv_has ls 2 [(0, .ref h), (1, .int a1)]) (e0 : fX8_lost n a1 I R = some z) : W p l e rmX8_lost s m args below meth c H locs 0 0 (MQ below (mQl D y h q (mS y h q s.heap.size) z) args s 0 0 (mS y h q s.heap.size)) (F0 m 0 ls []) := by
  have hx := X.1.1
  have hb := X.1.2.1
  unfold fX8_lost at e0
  refine lv_aload_n hx hb dX8_lost_0 rfl (lv_at hl 0 rfl) ?_
  refine lv_iload_n hx hb dX8_lost_1 rfl (lv_at hl 1 rfl) ?_
  refine m_put X w 0 (by decide) (index := 82) rfl rfl (by decide +kernel) (by decide +kernel) (mps0 _ _ _) dX8_lost_2 (fun H locs w => ?_)
  refine lv_ldc2 (own := RX8) (v := (-9223372036854775808)) hx hb X.1.2.2.2.1 (X.1.2.2.2.2 _ (by decide +kernel)) dX8_lost_5 ?_
  have e0 := Option.some.inj e0
  subst e0
  exact m_lret X w hr dX8_lost_8
set_option maxRecDepth 20000 in
theorem fX8_lost_met (l : Launch) (D : va_G) (y : ClassId) (h : Nat) (q : Nat → Nat) (sz n : Nat) (a1 : Int32) (I : Nat → Int32) (R : Nat → Nat → Int32) (z : Int64 × mSt) (e0 : fX8_lost n a1 I R = some z) : Met l yX8_lost wsX8_lost rmX8_lost (va_Pc [.ref h, .int a1] (mPre D y h q sz I R)) (mQl D y h q (mS y h q sz) z) 0 0 (mS y h q sz) := by
  refine Met.ofW (cc := cX8_lost) (maxL := 2) (ret := some .long) (by decide) rfl ?_
  intro p e s m args below meth c s₁ B hml hv
  obtain ⟨rfl, hsz, hP, hK, hD⟩ := hv
  subst hsz
  have hl := lv_entry ([.ref h, .int a1]) (n := 2) (Nat.le_of_ble_eq_true rfl)
  rw [lg_entry_eq]
  exact fX8_lost_w (s := s) ⟨⟨B.exec, B.bytes, hml, findClass_of_methodNamed B.named, atoms_spec (ws := wsX8_lost) B.pre⟩, fun _ h9 => List.mem_cons_of_mem _ (List.mem_append_right _ h9), hK⟩ ⟨B.returns, B.notSynchronized⟩ ⟨hP, mS_D hD, va_S.rf⟩ hl e0
def rmX8_within : Room := { frames := 0, cells := 0, slots := 0, locals := 0 }
def fX8_within (n : Nat) (a0 : Int32) (a1 : Int32) (a2 : Int32) : Option (Int32) :=
  if a0 < a1 then
    some 0
  else
    if a2 < a0 then
      some 0
    else
      some 1
set_option maxRecDepth 20000 in
set_option maxHeartbeats 1000000 in
theorem fX8_within_w {p : Program} {l : Launch} {e : Env} {s : State} {m : MethodId} {args : Array Value} {below : List Frame} {meth : Method} {c : Code} {n : Nat} {z : Int32} (X : sX p s m args c cX8_within 3 wsX8_within) (hr : meth.sig.returnType = some .boolean ∧ meth.locks = false) {a0 : Int32} {a1 : Int32} {a2 : Int32} {H : Heap} {locs : List Loc} {ls : Array Slot} (w : sH s H locs) (hl : lv_has ls 3 [(0, .int a0), (1, .int a1), (2, .int a2)]) (e0 : fX8_within n a0 a1 a2 = some z) : W p l e rmX8_within s m args below meth c H locs 0 0 (MQ below (sQi z) args s 0 0 (fun _ => False)) (F0 m 0 ls []) := by
  have hx := X.1
  have hb := X.2.1
  unfold fX8_within at e0
  refine lv_iload_n hx hb dX8_within_0 rfl (lv_at hl 0 rfl) ?_
  refine lv_iload_n hx hb dX8_within_1 rfl (lv_at hl 1 rfl) ?_
  refine lv_icmp_lt (tgt := 14) hx hb dX8_within_2 (by decide) (fun c2 => ?_) (fun c2 => ?_)
  · have e0 := itp _ c2 e0
    refine lv_iconst (v := 0) hx hb dX8_within_14 (by decide) ?_
    have e0 := Option.some.inj e0
    subst e0
    exact s_zret X w hr rfl dX8_within_15
  · have e0 := itn _ c2 e0
    refine lv_iload_n hx hb dX8_within_5 rfl (lv_at hl 0 rfl) ?_
    refine lv_iload_n hx hb dX8_within_6 rfl (lv_at hl 2 rfl) ?_
    refine lv_icmp_gt (tgt := 14) hx hb dX8_within_7 (by decide) (fun c1 => ?_) (fun c1 => ?_)
    · have e0 := itp _ c1 e0
      refine lv_iconst (v := 0) hx hb dX8_within_14 (by decide) ?_
      have e0 := Option.some.inj e0
      subst e0
      exact s_zret X w hr rfl dX8_within_15
    · have e0 := itn _ c1 e0
      refine lv_iconst (v := 1) hx hb dX8_within_10 (by decide) ?_
      refine lv_goto (tgt := 15) hx hb dX8_within_11 (by decide) ?_
      have e0 := Option.some.inj e0
      subst e0
      exact s_zret X w hr rfl dX8_within_15
set_option maxRecDepth 20000 in
theorem fX8_within_met (l : Launch) (n : Nat) (a0 : Int32) (a1 : Int32) (a2 : Int32) (z : Int32) (e0 : fX8_within n a0 a1 a2 = some z) : Met l yX8_within wsX8_within rmX8_within (va_Pc [.int a0, .int a1, .int a2] (fun _ => True)) (sQi z) 0 0 (fun _ => False) := by
  refine Met.ofW (cc := cX8_within) (maxL := 3) (ret := some .boolean) (by decide) rfl ?_
  intro p e s m args below meth c s₁ B hml hv
  obtain ⟨rfl, -⟩ := hv
  have hl := lv_entry ([.int a0, .int a1, .int a2]) (n := 3) (Nat.le_of_ble_eq_true rfl)
  rw [lg_entry_eq]
  exact fX8_within_w (s := s) ⟨B.exec, B.bytes, hml, findClass_of_methodNamed B.named, atoms_spec (ws := wsX8_within) B.pre⟩ ⟨B.returns, B.notSynchronized⟩ va_S.rf hl e0
def rmX8_isSheet : Room := { frames := 1, cells := 0, slots := 0, locals := 22 }
def fX8_isSheet (n : Nat) (a0 : Int32) : Option (Int32) :=
  (fX8_within n a0 0 3).bind fun z1 =>
  if isB z1 = true then
  some z1
  else none
set_option maxRecDepth 20000 in
set_option maxHeartbeats 1000000 in
theorem fX8_isSheet_w {p : Program} {l : Launch} {e : Env} {s : State} {m : MethodId} {args : Array Value} {below : List Frame} {meth : Method} {c : Code} {n : Nat} {z : Int32} (X : sX p s m args c cX8_isSheet 1 wsX8_isSheet) (hr : meth.sig.returnType = some .boolean ∧ meth.locks = false) {a0 : Int32} {H : Heap} {locs : List Loc} {ls : Array Slot} (w : sH s H locs) (hl : lv_has ls 1 [(0, .int a0)]) (e0 : fX8_isSheet n a0 = some z) : W p l e rmX8_isSheet s m args below meth c H locs 0 0 (MQ below (sQi z) args s 0 0 (fun _ => False)) (F0 m 0 ls []) := by
  have hx := X.1
  have hb := X.2.1
  unfold fX8_isSheet at e0
  refine lv_iload_n hx hb dX8_isSheet_0 rfl (lv_at hl 0 rfl) ?_
  refine lv_iconst (v := 0) hx hb dX8_isSheet_1 (by decide) ?_
  refine lv_iconst (v := 3) hx hb dX8_isSheet_2 (by decide) ?_
  refine bd e0 (fun z1 e2 e0 => ?_)
  refine s_callsi X w (n := 3) (As := [.int a0, .int 0, .int 3]) (rest := []) (fX8_within_met l _ _ _ _ _ e2) gX8_isSheet_X8_within rfl rfl rfl (by decide +kernel) ⟨Nat.le_of_ble_eq_true rfl, Nat.le_of_ble_eq_true rfl⟩ rfl hl.1 rfl (Nat.le_of_ble_eq_true rfl) dX8_isSheet_3 (fun H locs w => ?_)
  refine gd e0 (fun g3 e0 => ?_)
  have e0 := Option.some.inj e0
  subst e0
  exact s_zret X w hr g3 dX8_isSheet_6
set_option maxRecDepth 20000 in
theorem fX8_isSheet_met (l : Launch) (n : Nat) (a0 : Int32) (z : Int32) (e0 : fX8_isSheet n a0 = some z) : Met l yX8_isSheet wsX8_isSheet rmX8_isSheet (va_Pc [.int a0] (fun _ => True)) (sQi z) 0 0 (fun _ => False) := by
  refine Met.ofW (cc := cX8_isSheet) (maxL := 1) (ret := some .boolean) (by decide) rfl ?_
  intro p e s m args below meth c s₁ B hml hv
  obtain ⟨rfl, -⟩ := hv
  have hl := lv_entry ([.int a0]) (n := 1) (Nat.le_of_ble_eq_true rfl)
  rw [lg_entry_eq]
  exact fX8_isSheet_w (s := s) ⟨B.exec, B.bytes, hml, findClass_of_methodNamed B.named, atoms_spec (ws := wsX8_isSheet) B.pre⟩ ⟨B.returns, B.notSynchronized⟩ va_S.rf hl e0
def rmX8_isSort : Room := { frames := 1, cells := 0, slots := 0, locals := 22 }
def fX8_isSort (n : Nat) (a0 : Int32) : Option (Int32) :=
  (fX8_within n a0 0 2).bind fun z1 =>
  if isB z1 = true then
  some z1
  else none
set_option maxRecDepth 20000 in
set_option maxHeartbeats 1000000 in
theorem fX8_isSort_w {p : Program} {l : Launch} {e : Env} {s : State} {m : MethodId} {args : Array Value} {below : List Frame} {meth : Method} {c : Code} {n : Nat} {z : Int32} (X : sX p s m args c cX8_isSort 1 wsX8_isSort) (hr : meth.sig.returnType = some .boolean ∧ meth.locks = false) {a0 : Int32} {H : Heap} {locs : List Loc} {ls : Array Slot} (w : sH s H locs) (hl : lv_has ls 1 [(0, .int a0)]) (e0 : fX8_isSort n a0 = some z) : W p l e rmX8_isSort s m args below meth c H locs 0 0 (MQ below (sQi z) args s 0 0 (fun _ => False)) (F0 m 0 ls []) := by
  have hx := X.1
  have hb := X.2.1
  unfold fX8_isSort at e0
  refine lv_iload_n hx hb dX8_isSort_0 rfl (lv_at hl 0 rfl) ?_
  refine lv_iconst (v := 0) hx hb dX8_isSort_1 (by decide) ?_
  refine lv_iconst (v := 2) hx hb dX8_isSort_2 (by decide) ?_
  refine bd e0 (fun z1 e2 e0 => ?_)
  refine s_callsi X w (n := 3) (As := [.int a0, .int 0, .int 2]) (rest := []) (fX8_within_met l _ _ _ _ _ e2) gX8_isSort_X8_within rfl rfl rfl (by decide +kernel) ⟨Nat.le_of_ble_eq_true rfl, Nat.le_of_ble_eq_true rfl⟩ rfl hl.1 rfl (Nat.le_of_ble_eq_true rfl) dX8_isSort_3 (fun H locs w => ?_)
  refine gd e0 (fun g3 e0 => ?_)
  have e0 := Option.some.inj e0
  subst e0
  exact s_zret X w hr g3 dX8_isSort_6
set_option maxRecDepth 20000 in
theorem fX8_isSort_met (l : Launch) (n : Nat) (a0 : Int32) (z : Int32) (e0 : fX8_isSort n a0 = some z) : Met l yX8_isSort wsX8_isSort rmX8_isSort (va_Pc [.int a0] (fun _ => True)) (sQi z) 0 0 (fun _ => False) := by
  refine Met.ofW (cc := cX8_isSort) (maxL := 1) (ret := some .boolean) (by decide) rfl ?_
  intro p e s m args below meth c s₁ B hml hv
  obtain ⟨rfl, -⟩ := hv
  have hl := lv_entry ([.int a0]) (n := 1) (Nat.le_of_ble_eq_true rfl)
  rw [lg_entry_eq]
  exact fX8_isSort_w (s := s) ⟨B.exec, B.bytes, hml, findClass_of_methodNamed B.named, atoms_spec (ws := wsX8_isSort) B.pre⟩ ⟨B.returns, B.notSynchronized⟩ va_S.rf hl e0
def rmX8_against : Room := { frames := 0, cells := 0, slots := 0, locals := 0 }
def fX8_against_b23 (n : Nat) (a1 : Int32) (a3 : Int32) (a4 : Int32) (I : Nat → Int32) (R : Nat → Nat → Int32) : Option (Int32 × mSt) :=
  if inb a1 4 = true then
  if (getA R 2 a1) = (-9) then
    some (1, I, R)
  else
    if 0 ≤ a4 then
      if a3 < 0 then
        some (3, I, R)
      else
        if inb a1 4 = true then
        if (getA R 3 a1) < a3 then
          some (3, I, R)
        else
          if inb a1 4 = true then
          if a4 ≤ ((getA R 3 a1) - a3) then
            some (0, I, R)
          else
            some (3, I, R)
          else none
        else none
    else
      some (4, I, R)
  else none
set_option maxRecDepth 20000 in
set_option maxHeartbeats 1000000 in
theorem fX8_against_b23_w {p : Program} {l : Launch} {e : Env} {s : State} {m : MethodId} {args : Array Value} {below : List Frame} {meth : Method} {c : Code} {D : va_G} {y : ClassId} {h : Nat} {q : Nat → Nat} {n : Nat} {z : Int32 × mSt} (X : mX p s m args c cX8_against 5 wsX8_against D y) (hr : meth.sig.returnType = some .int ∧ meth.locks = false) {a1 : Int32} {a3 : Int32} {a4 : Int32} {I : Nat → Int32} {R : Nat → Nat → Int32} {H : Heap} {locs : List Loc} {ls : Array Slot} (w : mH s D y h q H locs I R) (hl : lv_has ls 5 [(0, .ref h), (1, .int a1), (3, .int a3), (4, .int a4)]) (e0 : fX8_against_b23 n a1 a3 a4 I R = some z) : W p l e rmX8_against s m args below meth c H locs 0 0 (MQ below (mQi D y h q (mS y h q s.heap.size) z) args s 0 0 (mS y h q s.heap.size)) (F0 m 23 ls []) := by
  have hx := X.1.1
  have hb := X.1.2.1
  unfold fX8_against_b23 at e0
  refine lv_aload_n hx hb dX8_against_23 rfl (lv_at hl 0 rfl) ?_
  refine m_get X w 2 (by decide) (index := 9) rfl (by decide +kernel) (mfr2 _ _) dX8_against_24 ?_
  refine lv_iload_n hx hb dX8_against_27 rfl (lv_at hl 1 rfl) ?_
  refine gd e0 (fun g5 e0 => ?_)
  refine m_ald X w 1 2 (mat2 _ _ _ _ _) g5 dX8_against_28 ?_
  refine lv_bipush (v := (-9)) hx hb dX8_against_29 (by decide) ?_
  refine lv_icmp_ne (tgt := 36) hx hb dX8_against_31 (by decide) (fun c12 => ?_) (fun c12 => ?_)
  · have e0 := itn _ c12 e0
    refine lv_iload hx hb dX8_against_36 (lv_at hl 3 rfl) ?_
    refine lv_if_ge (tgt := 43) hx hb dX8_against_38 (by decide) (fun c11 => ?_) (fun c11 => ?_)
    · have e0 := itp _ c11 e0
      refine lv_iload_n hx hb dX8_against_43 rfl (lv_at hl 2 rfl) ?_
      refine lv_if_lt (tgt := 70) hx hb dX8_against_44 (by decide) (fun c10 => ?_) (fun c10 => ?_)
      · have e0 := itp _ c10 e0
        refine lv_iconst (v := 3) hx hb dX8_against_70 (by decide) ?_
        refine lv_goto (tgt := 75) hx hb dX8_against_71 (by decide) ?_
        have e0 := Option.some.inj e0
        subst e0
        exact m_iret X w hr dX8_against_75
      · have e0 := itn _ c10 e0
        refine lv_iload_n hx hb dX8_against_47 rfl (lv_at hl 2 rfl) ?_
        refine lv_aload_n hx hb dX8_against_48 rfl (lv_at hl 0 rfl) ?_
        refine m_get X w 3 (by decide) (index := 13) rfl (by decide +kernel) (mfr3 _ _) dX8_against_49 ?_
        refine lv_iload_n hx hb dX8_against_52 rfl (lv_at hl 1 rfl) ?_
        refine gd e0 (fun g6 e0 => ?_)
        refine m_ald X w 2 3 (mat3 _ _ _ _ _) g6 dX8_against_53 ?_
        refine lv_icmp_gt (tgt := 70) hx hb dX8_against_54 (by decide) (fun c9 => ?_) (fun c9 => ?_)
        · have e0 := itp _ c9 e0
          refine lv_iconst (v := 3) hx hb dX8_against_70 (by decide) ?_
          refine lv_goto (tgt := 75) hx hb dX8_against_71 (by decide) ?_
          have e0 := Option.some.inj e0
          subst e0
          exact m_iret X w hr dX8_against_75
        · have e0 := itn _ c9 e0
          refine lv_iload hx hb dX8_against_57 (lv_at hl 3 rfl) ?_
          refine lv_aload_n hx hb dX8_against_59 rfl (lv_at hl 0 rfl) ?_
          refine m_get X w 3 (by decide) (index := 13) rfl (by decide +kernel) (mfr3 _ _) dX8_against_60 ?_
          refine lv_iload_n hx hb dX8_against_63 rfl (lv_at hl 1 rfl) ?_
          refine gd e0 (fun g7 e0 => ?_)
          refine m_ald X w 2 3 (mat3 _ _ _ _ _) g7 dX8_against_64 ?_
          refine lv_iload_n hx hb dX8_against_65 rfl (lv_at hl 2 rfl) ?_
          refine lv_isub hx hb dX8_against_66 ?_
          refine lv_icmp_le (tgt := 74) hx hb dX8_against_67 (by decide) (fun c8 => ?_) (fun c8 => ?_)
          · have e0 := itp _ c8 e0
            refine lv_iconst (v := 0) hx hb dX8_against_74 (by decide) ?_
            have e0 := Option.some.inj e0
            subst e0
            exact m_iret X w hr dX8_against_75
          · have e0 := itn _ c8 e0
            refine lv_iconst (v := 3) hx hb dX8_against_70 (by decide) ?_
            refine lv_goto (tgt := 75) hx hb dX8_against_71 (by decide) ?_
            have e0 := Option.some.inj e0
            subst e0
            exact m_iret X w hr dX8_against_75
    · have e0 := itn _ c11 e0
      refine lv_iconst (v := 4) hx hb dX8_against_41 (by decide) ?_
      have e0 := Option.some.inj e0
      subst e0
      exact m_iret X w hr dX8_against_42
  · have e0 := itp _ c12 e0
    refine lv_iconst (v := 1) hx hb dX8_against_34 (by decide) ?_
    have e0 := Option.some.inj e0
    subst e0
    exact m_iret X w hr dX8_against_35
def fX8_against (n : Nat) (a1 : Int32) (a2 : Int32) (a3 : Int32) (a4 : Int32) (I : Nat → Int32) (R : Nat → Nat → Int32) : Option (Int32 × mSt) :=
  if inb a1 4 = true then
  if (getA R 2 a1) = (-9) then
    fX8_against_b23 n a1 a3 a4 I R
  else
    if inb a1 4 = true then
    if (getA R 2 a1) = a2 then
      fX8_against_b23 n a1 a3 a4 I R
    else
      some (2, I, R)
    else none
  else none
set_option maxRecDepth 20000 in
set_option maxHeartbeats 1000000 in
theorem fX8_against_w {p : Program} {l : Launch} {e : Env} {s : State} {m : MethodId} {args : Array Value} {below : List Frame} {meth : Method} {c : Code} {D : va_G} {y : ClassId} {h : Nat} {q : Nat → Nat} {n : Nat} {z : Int32 × mSt} (X : mX p s m args c cX8_against 5 wsX8_against D y) (hr : meth.sig.returnType = some .int ∧ meth.locks = false) {a1 : Int32} {a2 : Int32} {a3 : Int32} {a4 : Int32} {I : Nat → Int32} {R : Nat → Nat → Int32} {H : Heap} {locs : List Loc} {ls : Array Slot} (w : mH s D y h q H locs I R) (hl : lv_has ls 5 [(0, .ref h), (1, .int a1), (2, .int a2), (3, .int a3), (4, .int a4)]) (e0 : fX8_against n a1 a2 a3 a4 I R = some z) : W p l e rmX8_against s m args below meth c H locs 0 0 (MQ below (mQi D y h q (mS y h q s.heap.size) z) args s 0 0 (mS y h q s.heap.size)) (F0 m 0 ls []) := by
  have hx := X.1.1
  have hb := X.1.2.1
  unfold fX8_against at e0
  refine lv_aload_n hx hb dX8_against_0 rfl (lv_at hl 0 rfl) ?_
  refine m_get X w 2 (by decide) (index := 9) rfl (by decide +kernel) (mfr2 _ _) dX8_against_1 ?_
  refine lv_iload_n hx hb dX8_against_4 rfl (lv_at hl 1 rfl) ?_
  refine gd e0 (fun g1 e0 => ?_)
  refine m_ald X w 1 2 (mat2 _ _ _ _ _) g1 dX8_against_5 ?_
  refine lv_bipush (v := (-9)) hx hb dX8_against_6 (by decide) ?_
  refine lv_icmp_eq (tgt := 23) hx hb dX8_against_8 (by decide) (fun c4 => ?_) (fun c4 => ?_)
  · have e0 := itp _ c4 e0
    exact fX8_against_b23_w (l := l) X hr w (lv_sub hl [0, 1, 3, 4] rfl) e0
  · have e0 := itn _ c4 e0
    refine lv_aload_n hx hb dX8_against_11 rfl (lv_at hl 0 rfl) ?_
    refine m_get X w 2 (by decide) (index := 9) rfl (by decide +kernel) (mfr2 _ _) dX8_against_12 ?_
    refine lv_iload_n hx hb dX8_against_15 rfl (lv_at hl 1 rfl) ?_
    refine gd e0 (fun g2 e0 => ?_)
    refine m_ald X w 1 2 (mat2 _ _ _ _ _) g2 dX8_against_16 ?_
    refine lv_iload_n hx hb dX8_against_17 rfl (lv_at hl 2 rfl) ?_
    refine lv_icmp_eq (tgt := 23) hx hb dX8_against_18 (by decide) (fun c3 => ?_) (fun c3 => ?_)
    · have e0 := itp _ c3 e0
      exact fX8_against_b23_w (l := l) X hr w (lv_sub hl [0, 1, 3, 4] rfl) e0
    · have e0 := itn _ c3 e0
      refine lv_iconst (v := 2) hx hb dX8_against_21 (by decide) ?_
      have e0 := Option.some.inj e0
      subst e0
      exact m_iret X w hr dX8_against_22
set_option maxRecDepth 20000 in
theorem fX8_against_met (l : Launch) (D : va_G) (y : ClassId) (h : Nat) (q : Nat → Nat) (sz n : Nat) (a1 : Int32) (a2 : Int32) (a3 : Int32) (a4 : Int32) (I : Nat → Int32) (R : Nat → Nat → Int32) (z : Int32 × mSt) (e0 : fX8_against n a1 a2 a3 a4 I R = some z) : Met l yX8_against wsX8_against rmX8_against (va_Pc [.ref h, .int a1, .int a2, .int a3, .int a4] (mPre D y h q sz I R)) (mQi D y h q (mS y h q sz) z) 0 0 (mS y h q sz) := by
  refine Met.ofW (cc := cX8_against) (maxL := 5) (ret := some .int) (by decide) rfl ?_
  intro p e s m args below meth c s₁ B hml hv
  obtain ⟨rfl, hsz, hP, hK, hD⟩ := hv
  subst hsz
  have hl := lv_entry ([.ref h, .int a1, .int a2, .int a3, .int a4]) (n := 5) (Nat.le_of_ble_eq_true rfl)
  rw [lg_entry_eq]
  exact fX8_against_w (s := s) ⟨⟨B.exec, B.bytes, hml, findClass_of_methodNamed B.named, atoms_spec (ws := wsX8_against) B.pre⟩, fun _ h9 => List.mem_cons_of_mem _ (List.mem_append_right _ h9), hK⟩ ⟨B.returns, B.notSynchronized⟩ ⟨hP, mS_D hD, va_S.rf⟩ hl e0
def rmX8_isRelation : Room := { frames := 0, cells := 0, slots := 0, locals := 0 }
def fX8_isRelation (n : Nat) (a1 : Int32) (I : Nat → Int32) (R : Nat → Nat → Int32) : Option (Int32 × mSt) :=
  if a1 < 0 then
    some (0, I, R)
  else
    if (I 5) ≤ a1 then
      some (0, I, R)
    else
      some (1, I, R)
set_option maxRecDepth 20000 in
set_option maxHeartbeats 1000000 in
theorem fX8_isRelation_w {p : Program} {l : Launch} {e : Env} {s : State} {m : MethodId} {args : Array Value} {below : List Frame} {meth : Method} {c : Code} {D : va_G} {y : ClassId} {h : Nat} {q : Nat → Nat} {n : Nat} {z : Int32 × mSt} (X : mX p s m args c cX8_isRelation 2 wsX8_isRelation D y) (hr : meth.sig.returnType = some .boolean ∧ meth.locks = false) {a1 : Int32} {I : Nat → Int32} {R : Nat → Nat → Int32} {H : Heap} {locs : List Loc} {ls : Array Slot} (w : mH s D y h q H locs I R) (hl : lv_has ls 2 [(0, .ref h), (1, .int a1)]) (e0 : fX8_isRelation n a1 I R = some z) : W p l e rmX8_isRelation s m args below meth c H locs 0 0 (MQ below (mQi D y h q (mS y h q s.heap.size) z) args s 0 0 (mS y h q s.heap.size)) (F0 m 0 ls []) := by
  have hx := X.1.1
  have hb := X.1.2.1
  unfold fX8_isRelation at e0
  refine lv_iload_n hx hb dX8_isRelation_0 rfl (lv_at hl 1 rfl) ?_
  refine lv_if_lt (tgt := 16) hx hb dX8_isRelation_1 (by decide) (fun c2 => ?_) (fun c2 => ?_)
  · have e0 := itp _ c2 e0
    refine lv_iconst (v := 0) hx hb dX8_isRelation_16 (by decide) ?_
    have e0 := Option.some.inj e0
    subst e0
    exact m_zret X w hr rfl dX8_isRelation_17
  · have e0 := itn _ c2 e0
    refine lv_iload_n hx hb dX8_isRelation_4 rfl (lv_at hl 1 rfl) ?_
    refine lv_aload_n hx hb dX8_isRelation_5 rfl (lv_at hl 0 rfl) ?_
    refine m_get X w 5 (by decide) (index := 92) rfl (by decide +kernel) (mfi5 _ _) dX8_isRelation_6 ?_
    refine lv_icmp_ge (tgt := 16) hx hb dX8_isRelation_9 (by decide) (fun c1 => ?_) (fun c1 => ?_)
    · have e0 := itp _ c1 e0
      refine lv_iconst (v := 0) hx hb dX8_isRelation_16 (by decide) ?_
      have e0 := Option.some.inj e0
      subst e0
      exact m_zret X w hr rfl dX8_isRelation_17
    · have e0 := itn _ c1 e0
      refine lv_iconst (v := 1) hx hb dX8_isRelation_12 (by decide) ?_
      refine lv_goto (tgt := 17) hx hb dX8_isRelation_13 (by decide) ?_
      have e0 := Option.some.inj e0
      subst e0
      exact m_zret X w hr rfl dX8_isRelation_17
set_option maxRecDepth 20000 in
theorem fX8_isRelation_met (l : Launch) (D : va_G) (y : ClassId) (h : Nat) (q : Nat → Nat) (sz n : Nat) (a1 : Int32) (I : Nat → Int32) (R : Nat → Nat → Int32) (z : Int32 × mSt) (e0 : fX8_isRelation n a1 I R = some z) : Met l yX8_isRelation wsX8_isRelation rmX8_isRelation (va_Pc [.ref h, .int a1] (mPre D y h q sz I R)) (mQi D y h q (mS y h q sz) z) 0 0 (mS y h q sz) := by
  refine Met.ofW (cc := cX8_isRelation) (maxL := 2) (ret := some .boolean) (by decide) rfl ?_
  intro p e s m args below meth c s₁ B hml hv
  obtain ⟨rfl, hsz, hP, hK, hD⟩ := hv
  subst hsz
  have hl := lv_entry ([.ref h, .int a1]) (n := 2) (Nat.le_of_ble_eq_true rfl)
  rw [lg_entry_eq]
  exact fX8_isRelation_w (s := s) ⟨⟨B.exec, B.bytes, hml, findClass_of_methodNamed B.named, atoms_spec (ws := wsX8_isRelation) B.pre⟩, fun _ h9 => List.mem_cons_of_mem _ (List.mem_append_right _ h9), hK⟩ ⟨B.returns, B.notSynchronized⟩ ⟨hP, mS_D hD, va_S.rf⟩ hl e0
def rmX8_isRule : Room := { frames := 0, cells := 0, slots := 0, locals := 0 }
def fX8_isRule (n : Nat) (a1 : Int32) (I : Nat → Int32) (R : Nat → Nat → Int32) : Option (Int32 × mSt) :=
  if a1 < 0 then
    some (0, I, R)
  else
    if (I 6) ≤ a1 then
      some (0, I, R)
    else
      some (1, I, R)
set_option maxRecDepth 20000 in
set_option maxHeartbeats 1000000 in
theorem fX8_isRule_w {p : Program} {l : Launch} {e : Env} {s : State} {m : MethodId} {args : Array Value} {below : List Frame} {meth : Method} {c : Code} {D : va_G} {y : ClassId} {h : Nat} {q : Nat → Nat} {n : Nat} {z : Int32 × mSt} (X : mX p s m args c cX8_isRule 2 wsX8_isRule D y) (hr : meth.sig.returnType = some .boolean ∧ meth.locks = false) {a1 : Int32} {I : Nat → Int32} {R : Nat → Nat → Int32} {H : Heap} {locs : List Loc} {ls : Array Slot} (w : mH s D y h q H locs I R) (hl : lv_has ls 2 [(0, .ref h), (1, .int a1)]) (e0 : fX8_isRule n a1 I R = some z) : W p l e rmX8_isRule s m args below meth c H locs 0 0 (MQ below (mQi D y h q (mS y h q s.heap.size) z) args s 0 0 (mS y h q s.heap.size)) (F0 m 0 ls []) := by
  have hx := X.1.1
  have hb := X.1.2.1
  unfold fX8_isRule at e0
  refine lv_iload_n hx hb dX8_isRule_0 rfl (lv_at hl 1 rfl) ?_
  refine lv_if_lt (tgt := 16) hx hb dX8_isRule_1 (by decide) (fun c2 => ?_) (fun c2 => ?_)
  · have e0 := itp _ c2 e0
    refine lv_iconst (v := 0) hx hb dX8_isRule_16 (by decide) ?_
    have e0 := Option.some.inj e0
    subst e0
    exact m_zret X w hr rfl dX8_isRule_17
  · have e0 := itn _ c2 e0
    refine lv_iload_n hx hb dX8_isRule_4 rfl (lv_at hl 1 rfl) ?_
    refine lv_aload_n hx hb dX8_isRule_5 rfl (lv_at hl 0 rfl) ?_
    refine m_get X w 6 (by decide) (index := 95) rfl (by decide +kernel) (mfi6 _ _) dX8_isRule_6 ?_
    refine lv_icmp_ge (tgt := 16) hx hb dX8_isRule_9 (by decide) (fun c1 => ?_) (fun c1 => ?_)
    · have e0 := itp _ c1 e0
      refine lv_iconst (v := 0) hx hb dX8_isRule_16 (by decide) ?_
      have e0 := Option.some.inj e0
      subst e0
      exact m_zret X w hr rfl dX8_isRule_17
    · have e0 := itn _ c1 e0
      refine lv_iconst (v := 1) hx hb dX8_isRule_12 (by decide) ?_
      refine lv_goto (tgt := 17) hx hb dX8_isRule_13 (by decide) ?_
      have e0 := Option.some.inj e0
      subst e0
      exact m_zret X w hr rfl dX8_isRule_17
set_option maxRecDepth 20000 in
theorem fX8_isRule_met (l : Launch) (D : va_G) (y : ClassId) (h : Nat) (q : Nat → Nat) (sz n : Nat) (a1 : Int32) (I : Nat → Int32) (R : Nat → Nat → Int32) (z : Int32 × mSt) (e0 : fX8_isRule n a1 I R = some z) : Met l yX8_isRule wsX8_isRule rmX8_isRule (va_Pc [.ref h, .int a1] (mPre D y h q sz I R)) (mQi D y h q (mS y h q sz) z) 0 0 (mS y h q sz) := by
  refine Met.ofW (cc := cX8_isRule) (maxL := 2) (ret := some .boolean) (by decide) rfl ?_
  intro p e s m args below meth c s₁ B hml hv
  obtain ⟨rfl, hsz, hP, hK, hD⟩ := hv
  subst hsz
  have hl := lv_entry ([.ref h, .int a1]) (n := 2) (Nat.le_of_ble_eq_true rfl)
  rw [lg_entry_eq]
  exact fX8_isRule_w (s := s) ⟨⟨B.exec, B.bytes, hml, findClass_of_methodNamed B.named, atoms_spec (ws := wsX8_isRule) B.pre⟩, fun _ h9 => List.mem_cons_of_mem _ (List.mem_append_right _ h9), hK⟩ ⟨B.returns, B.notSynchronized⟩ ⟨hP, mS_D hD, va_S.rf⟩ hl e0
def rmX8_isThing : Room := { frames := 1, cells := 0, slots := 0, locals := 22 }
def fX8_isThing (n : Nat) (a0 : Int32) : Option (Int32) :=
  (fX8_within n a0 0 3).bind fun z1 =>
  if isB z1 = true then
  some z1
  else none
set_option maxRecDepth 20000 in
set_option maxHeartbeats 1000000 in
theorem fX8_isThing_w {p : Program} {l : Launch} {e : Env} {s : State} {m : MethodId} {args : Array Value} {below : List Frame} {meth : Method} {c : Code} {n : Nat} {z : Int32} (X : sX p s m args c cX8_isThing 1 wsX8_isThing) (hr : meth.sig.returnType = some .boolean ∧ meth.locks = false) {a0 : Int32} {H : Heap} {locs : List Loc} {ls : Array Slot} (w : sH s H locs) (hl : lv_has ls 1 [(0, .int a0)]) (e0 : fX8_isThing n a0 = some z) : W p l e rmX8_isThing s m args below meth c H locs 0 0 (MQ below (sQi z) args s 0 0 (fun _ => False)) (F0 m 0 ls []) := by
  have hx := X.1
  have hb := X.2.1
  unfold fX8_isThing at e0
  refine lv_iload_n hx hb dX8_isThing_0 rfl (lv_at hl 0 rfl) ?_
  refine lv_iconst (v := 0) hx hb dX8_isThing_1 (by decide) ?_
  refine lv_iconst (v := 3) hx hb dX8_isThing_2 (by decide) ?_
  refine bd e0 (fun z1 e2 e0 => ?_)
  refine s_callsi X w (n := 3) (As := [.int a0, .int 0, .int 3]) (rest := []) (fX8_within_met l _ _ _ _ _ e2) gX8_isThing_X8_within rfl rfl rfl (by decide +kernel) ⟨Nat.le_of_ble_eq_true rfl, Nat.le_of_ble_eq_true rfl⟩ rfl hl.1 rfl (Nat.le_of_ble_eq_true rfl) dX8_isThing_3 (fun H locs w => ?_)
  refine gd e0 (fun g3 e0 => ?_)
  have e0 := Option.some.inj e0
  subst e0
  exact s_zret X w hr g3 dX8_isThing_6
set_option maxRecDepth 20000 in
theorem fX8_isThing_met (l : Launch) (n : Nat) (a0 : Int32) (z : Int32) (e0 : fX8_isThing n a0 = some z) : Met l yX8_isThing wsX8_isThing rmX8_isThing (va_Pc [.int a0] (fun _ => True)) (sQi z) 0 0 (fun _ => False) := by
  refine Met.ofW (cc := cX8_isThing) (maxL := 1) (ret := some .boolean) (by decide) rfl ?_
  intro p e s m args below meth c s₁ B hml hv
  obtain ⟨rfl, -⟩ := hv
  have hl := lv_entry ([.int a0]) (n := 1) (Nat.le_of_ble_eq_true rfl)
  rw [lg_entry_eq]
  exact fX8_isThing_w (s := s) ⟨B.exec, B.bytes, hml, findClass_of_methodNamed B.named, atoms_spec (ws := wsX8_isThing) B.pre⟩ ⟨B.returns, B.notSynchronized⟩ va_S.rf hl e0
def rmX8_isOf : Room := { frames := 0, cells := 0, slots := 0, locals := 0 }
def fX8_isOf (n : Nat) (a0 : Int32) (a1 : Int32) : Option (Int32) :=
  if ((a0 >>> (a1 &&& 31)) &&& 1) = 1 then
    some 1
  else
    some 0
set_option maxRecDepth 20000 in
set_option maxHeartbeats 1000000 in
theorem fX8_isOf_w {p : Program} {l : Launch} {e : Env} {s : State} {m : MethodId} {args : Array Value} {below : List Frame} {meth : Method} {c : Code} {n : Nat} {z : Int32} (X : sX p s m args c cX8_isOf 2 wsX8_isOf) (hr : meth.sig.returnType = some .boolean ∧ meth.locks = false) {a0 : Int32} {a1 : Int32} {H : Heap} {locs : List Loc} {ls : Array Slot} (w : sH s H locs) (hl : lv_has ls 2 [(0, .int a0), (1, .int a1)]) (e0 : fX8_isOf n a0 a1 = some z) : W p l e rmX8_isOf s m args below meth c H locs 0 0 (MQ below (sQi z) args s 0 0 (fun _ => False)) (F0 m 0 ls []) := by
  have hx := X.1
  have hb := X.2.1
  unfold fX8_isOf at e0
  refine lv_iload_n hx hb dX8_isOf_0 rfl (lv_at hl 0 rfl) ?_
  refine lv_iload_n hx hb dX8_isOf_1 rfl (lv_at hl 1 rfl) ?_
  refine lv_ishr hx hb dX8_isOf_2 ?_
  refine lv_iconst (v := 1) hx hb dX8_isOf_3 (by decide) ?_
  refine lv_iand hx hb dX8_isOf_4 ?_
  refine lv_iconst (v := 1) hx hb dX8_isOf_5 (by decide) ?_
  refine lv_icmp_ne (tgt := 13) hx hb dX8_isOf_6 (by decide) (fun c1 => ?_) (fun c1 => ?_)
  · have e0 := itn _ c1 e0
    refine lv_iconst (v := 0) hx hb dX8_isOf_13 (by decide) ?_
    have e0 := Option.some.inj e0
    subst e0
    exact s_zret X w hr rfl dX8_isOf_14
  · have e0 := itp _ c1 e0
    refine lv_iconst (v := 1) hx hb dX8_isOf_9 (by decide) ?_
    refine lv_goto (tgt := 14) hx hb dX8_isOf_10 (by decide) ?_
    have e0 := Option.some.inj e0
    subst e0
    exact s_zret X w hr rfl dX8_isOf_14
set_option maxRecDepth 20000 in
theorem fX8_isOf_met (l : Launch) (n : Nat) (a0 : Int32) (a1 : Int32) (z : Int32) (e0 : fX8_isOf n a0 a1 = some z) : Met l yX8_isOf wsX8_isOf rmX8_isOf (va_Pc [.int a0, .int a1] (fun _ => True)) (sQi z) 0 0 (fun _ => False) := by
  refine Met.ofW (cc := cX8_isOf) (maxL := 2) (ret := some .boolean) (by decide) rfl ?_
  intro p e s m args below meth c s₁ B hml hv
  obtain ⟨rfl, -⟩ := hv
  have hl := lv_entry ([.int a0, .int a1]) (n := 2) (Nat.le_of_ble_eq_true rfl)
  rw [lg_entry_eq]
  exact fX8_isOf_w (s := s) ⟨B.exec, B.bytes, hml, findClass_of_methodNamed B.named, atoms_spec (ws := wsX8_isOf) B.pre⟩ ⟨B.returns, B.notSynchronized⟩ va_S.rf hl e0
def rmX8_digit : Room := { frames := 1, cells := 0, slots := 0, locals := 22 }
def fX8_digit (n : Nat) (a1 : Int32) (a2 : Int32) (a3 : Int32) (I : Nat → Int32) (R : Nat → Nat → Int32) : Option (Int32 × mSt) :=
  if a1 ≤ (I 14) then
    some ((-9), I, R)
  else
    if inb (I 14) 240 = true then
    (fX8_within n (getA R 4 (I 14)) (48 + a2) (48 + a3)).bind fun z2 =>
    if z2 = 0 then
      some ((-9), I, R)
    else
      if inb (((upd I 14 ((I 14) + 1)) 14) - 1) 240 = true then
      some (((getA R 4 (((upd I 14 ((I 14) + 1)) 14) - 1)) - 48), (upd I 14 ((I 14) + 1)), R)
      else none
    else none
set_option maxRecDepth 20000 in
set_option maxHeartbeats 1000000 in
theorem fX8_digit_w {p : Program} {l : Launch} {e : Env} {s : State} {m : MethodId} {args : Array Value} {below : List Frame} {meth : Method} {c : Code} {D : va_G} {y : ClassId} {h : Nat} {q : Nat → Nat} {n : Nat} {z : Int32 × mSt} (X : mX p s m args c cX8_digit 4 wsX8_digit D y) (hr : meth.sig.returnType = some .int ∧ meth.locks = false) {a1 : Int32} {a2 : Int32} {a3 : Int32} {I : Nat → Int32} {R : Nat → Nat → Int32} {H : Heap} {locs : List Loc} {ls : Array Slot} (w : mH s D y h q H locs I R) (hl : lv_has ls 4 [(0, .ref h), (1, .int a1), (2, .int a2), (3, .int a3)]) (e0 : fX8_digit n a1 a2 a3 I R = some z) : W p l e rmX8_digit s m args below meth c H locs 0 0 (MQ below (mQi D y h q (mS y h q s.heap.size) z) args s 0 0 (mS y h q s.heap.size)) (F0 m 0 ls []) := by
  have hx := X.1.1
  have hb := X.1.2.1
  unfold fX8_digit at e0
  refine lv_aload_n hx hb dX8_digit_0 rfl (lv_at hl 0 rfl) ?_
  refine m_get X w 14 (by decide) (index := 98) rfl (by decide +kernel) (mfi14 _ _) dX8_digit_1 ?_
  refine lv_iload_n hx hb dX8_digit_4 rfl (lv_at hl 1 rfl) ?_
  refine lv_icmp_ge (tgt := 31) hx hb dX8_digit_5 (by decide) (fun c6 => ?_) (fun c6 => ?_)
  · have e0 := itp _ c6 e0
    refine lv_bipush (v := (-9)) hx hb dX8_digit_31 (by decide) ?_
    have e0 := Option.some.inj e0
    subst e0
    exact m_iret X w hr dX8_digit_33
  · have e0 := itn _ c6 e0
    refine lv_aload_n hx hb dX8_digit_8 rfl (lv_at hl 0 rfl) ?_
    refine m_get X w 4 (by decide) (index := 16) rfl (by decide +kernel) (mfr4 _ _) dX8_digit_9 ?_
    refine lv_aload_n hx hb dX8_digit_12 rfl (lv_at hl 0 rfl) ?_
    refine m_get X w 14 (by decide) (index := 98) rfl (by decide +kernel) (mfi14 _ _) dX8_digit_13 ?_
    refine gd e0 (fun g1 e0 => ?_)
    refine m_ald X w 3 4 (mat4 _ _ _ _ _) g1 dX8_digit_16 ?_
    refine lv_bipush (v := 48) hx hb dX8_digit_17 (by decide) ?_
    refine lv_iload_n hx hb dX8_digit_19 rfl (lv_at hl 2 rfl) ?_
    refine lv_iadd hx hb dX8_digit_20 ?_
    refine lv_bipush (v := 48) hx hb dX8_digit_21 (by decide) ?_
    refine lv_iload_n hx hb dX8_digit_23 rfl (lv_at hl 3 rfl) ?_
    refine lv_iadd hx hb dX8_digit_24 ?_
    refine bd e0 (fun z2 e3 e0 => ?_)
    refine m_callsi X w (n := 3) (As := [.int (getA R 4 (I 14)), .int (48 + a2), .int (48 + a3)]) (rest := []) (fX8_within_met l _ _ _ _ _ e3) gX8_digit_X8_within rfl rfl rfl (by decide +kernel) ⟨Nat.le_of_ble_eq_true rfl, Nat.le_of_ble_eq_true rfl⟩ rfl hl.1 rfl (Nat.le_of_ble_eq_true rfl) dX8_digit_25 (fun H locs w => ?_)
    refine lv_if_ne (tgt := 34) hx hb dX8_digit_28 (by decide) (fun c5 => ?_) (fun c5 => ?_)
    · have e0 := itn _ c5 e0
      refine lv_aload_n hx hb dX8_digit_34 rfl (lv_at hl 0 rfl) ?_
      refine lv_dup hx hb dX8_digit_35 rfl ?_
      refine m_get X w 14 (by decide) (index := 98) rfl (by decide +kernel) (mfi14 _ _) dX8_digit_36 ?_
      refine lv_iconst (v := 1) hx hb dX8_digit_39 (by decide) ?_
      refine lv_iadd hx hb dX8_digit_40 ?_
      refine m_put X w 14 (by decide) (index := 98) rfl rfl (by decide +kernel) (by decide +kernel) (mps14 _ _ _) dX8_digit_41 (fun H locs w => ?_)
      refine lv_aload_n hx hb dX8_digit_44 rfl (lv_at hl 0 rfl) ?_
      refine m_get X w 4 (by decide) (index := 16) rfl (by decide +kernel) (mfr4 _ _) dX8_digit_45 ?_
      refine lv_aload_n hx hb dX8_digit_48 rfl (lv_at hl 0 rfl) ?_
      refine m_get X w 14 (by decide) (index := 98) rfl (by decide +kernel) (mfi14 _ _) dX8_digit_49 ?_
      refine lv_iconst (v := 1) hx hb dX8_digit_52 (by decide) ?_
      refine lv_isub hx hb dX8_digit_53 ?_
      refine gd e0 (fun g4 e0 => ?_)
      refine m_ald X w 3 4 (mat4 _ _ _ _ _) g4 dX8_digit_54 ?_
      refine lv_bipush (v := 48) hx hb dX8_digit_55 (by decide) ?_
      refine lv_isub hx hb dX8_digit_57 ?_
      have e0 := Option.some.inj e0
      subst e0
      exact m_iret X w hr dX8_digit_58
    · have e0 := itp _ c5 e0
      refine lv_bipush (v := (-9)) hx hb dX8_digit_31 (by decide) ?_
      have e0 := Option.some.inj e0
      subst e0
      exact m_iret X w hr dX8_digit_33
set_option maxRecDepth 20000 in
theorem fX8_digit_met (l : Launch) (D : va_G) (y : ClassId) (h : Nat) (q : Nat → Nat) (sz n : Nat) (a1 : Int32) (a2 : Int32) (a3 : Int32) (I : Nat → Int32) (R : Nat → Nat → Int32) (z : Int32 × mSt) (e0 : fX8_digit n a1 a2 a3 I R = some z) : Met l yX8_digit wsX8_digit rmX8_digit (va_Pc [.ref h, .int a1, .int a2, .int a3] (mPre D y h q sz I R)) (mQi D y h q (mS y h q sz) z) 0 0 (mS y h q sz) := by
  refine Met.ofW (cc := cX8_digit) (maxL := 4) (ret := some .int) (by decide) rfl ?_
  intro p e s m args below meth c s₁ B hml hv
  obtain ⟨rfl, hsz, hP, hK, hD⟩ := hv
  subst hsz
  have hl := lv_entry ([.ref h, .int a1, .int a2, .int a3]) (n := 4) (Nat.le_of_ble_eq_true rfl)
  rw [lg_entry_eq]
  exact fX8_digit_w (s := s) ⟨⟨B.exec, B.bytes, hml, findClass_of_methodNamed B.named, atoms_spec (ws := wsX8_digit) B.pre⟩, fun _ h9 => List.mem_cons_of_mem _ (List.mem_append_right _ h9), hK⟩ ⟨B.returns, B.notSynchronized⟩ ⟨hP, mS_D hD, va_S.rf⟩ hl e0
def rmX8_isSign : Room := { frames := 0, cells := 0, slots := 0, locals := 0 }
def fX8_isSign (n : Nat) (a1 : Int32) (a2 : Int32) (I : Nat → Int32) (R : Nat → Nat → Int32) : Option (Int32 × mSt) :=
  if a1 ≤ (I 14) then
    some (0, I, R)
  else
    if inb (I 14) 240 = true then
    if (getA R 4 (I 14)) = a2 then
      some (1, (upd I 14 ((I 14) + 1)), R)
    else
      some (0, I, R)
    else none
set_option maxRecDepth 20000 in
set_option maxHeartbeats 1000000 in
theorem fX8_isSign_w {p : Program} {l : Launch} {e : Env} {s : State} {m : MethodId} {args : Array Value} {below : List Frame} {meth : Method} {c : Code} {D : va_G} {y : ClassId} {h : Nat} {q : Nat → Nat} {n : Nat} {z : Int32 × mSt} (X : mX p s m args c cX8_isSign 3 wsX8_isSign D y) (hr : meth.sig.returnType = some .boolean ∧ meth.locks = false) {a1 : Int32} {a2 : Int32} {I : Nat → Int32} {R : Nat → Nat → Int32} {H : Heap} {locs : List Loc} {ls : Array Slot} (w : mH s D y h q H locs I R) (hl : lv_has ls 3 [(0, .ref h), (1, .int a1), (2, .int a2)]) (e0 : fX8_isSign n a1 a2 I R = some z) : W p l e rmX8_isSign s m args below meth c H locs 0 0 (MQ below (mQi D y h q (mS y h q s.heap.size) z) args s 0 0 (mS y h q s.heap.size)) (F0 m 0 ls []) := by
  have hx := X.1.1
  have hb := X.1.2.1
  unfold fX8_isSign at e0
  refine lv_aload_n hx hb dX8_isSign_0 rfl (lv_at hl 0 rfl) ?_
  refine m_get X w 14 (by decide) (index := 98) rfl (by decide +kernel) (mfi14 _ _) dX8_isSign_1 ?_
  refine lv_iload_n hx hb dX8_isSign_4 rfl (lv_at hl 1 rfl) ?_
  refine lv_icmp_ge (tgt := 21) hx hb dX8_isSign_5 (by decide) (fun c3 => ?_) (fun c3 => ?_)
  · have e0 := itp _ c3 e0
    refine lv_iconst (v := 0) hx hb dX8_isSign_21 (by decide) ?_
    have e0 := Option.some.inj e0
    subst e0
    exact m_zret X w hr rfl dX8_isSign_22
  · have e0 := itn _ c3 e0
    refine lv_aload_n hx hb dX8_isSign_8 rfl (lv_at hl 0 rfl) ?_
    refine m_get X w 4 (by decide) (index := 16) rfl (by decide +kernel) (mfr4 _ _) dX8_isSign_9 ?_
    refine lv_aload_n hx hb dX8_isSign_12 rfl (lv_at hl 0 rfl) ?_
    refine m_get X w 14 (by decide) (index := 98) rfl (by decide +kernel) (mfi14 _ _) dX8_isSign_13 ?_
    refine gd e0 (fun g1 e0 => ?_)
    refine m_ald X w 3 4 (mat4 _ _ _ _ _) g1 dX8_isSign_16 ?_
    refine lv_iload_n hx hb dX8_isSign_17 rfl (lv_at hl 2 rfl) ?_
    refine lv_icmp_eq (tgt := 23) hx hb dX8_isSign_18 (by decide) (fun c2 => ?_) (fun c2 => ?_)
    · have e0 := itp _ c2 e0
      refine lv_aload_n hx hb dX8_isSign_23 rfl (lv_at hl 0 rfl) ?_
      refine lv_dup hx hb dX8_isSign_24 rfl ?_
      refine m_get X w 14 (by decide) (index := 98) rfl (by decide +kernel) (mfi14 _ _) dX8_isSign_25 ?_
      refine lv_iconst (v := 1) hx hb dX8_isSign_28 (by decide) ?_
      refine lv_iadd hx hb dX8_isSign_29 ?_
      refine m_put X w 14 (by decide) (index := 98) rfl rfl (by decide +kernel) (by decide +kernel) (mps14 _ _ _) dX8_isSign_30 (fun H locs w => ?_)
      refine lv_iconst (v := 1) hx hb dX8_isSign_33 (by decide) ?_
      have e0 := Option.some.inj e0
      subst e0
      exact m_zret X w hr rfl dX8_isSign_34
    · have e0 := itn _ c2 e0
      refine lv_iconst (v := 0) hx hb dX8_isSign_21 (by decide) ?_
      have e0 := Option.some.inj e0
      subst e0
      exact m_zret X w hr rfl dX8_isSign_22
set_option maxRecDepth 20000 in
theorem fX8_isSign_met (l : Launch) (D : va_G) (y : ClassId) (h : Nat) (q : Nat → Nat) (sz n : Nat) (a1 : Int32) (a2 : Int32) (I : Nat → Int32) (R : Nat → Nat → Int32) (z : Int32 × mSt) (e0 : fX8_isSign n a1 a2 I R = some z) : Met l yX8_isSign wsX8_isSign rmX8_isSign (va_Pc [.ref h, .int a1, .int a2] (mPre D y h q sz I R)) (mQi D y h q (mS y h q sz) z) 0 0 (mS y h q sz) := by
  refine Met.ofW (cc := cX8_isSign) (maxL := 3) (ret := some .boolean) (by decide) rfl ?_
  intro p e s m args below meth c s₁ B hml hv
  obtain ⟨rfl, hsz, hP, hK, hD⟩ := hv
  subst hsz
  have hl := lv_entry ([.ref h, .int a1, .int a2]) (n := 3) (Nat.le_of_ble_eq_true rfl)
  rw [lg_entry_eq]
  exact fX8_isSign_w (s := s) ⟨⟨B.exec, B.bytes, hml, findClass_of_methodNamed B.named, atoms_spec (ws := wsX8_isSign) B.pre⟩, fun _ h9 => List.mem_cons_of_mem _ (List.mem_append_right _ h9), hK⟩ ⟨B.returns, B.notSynchronized⟩ ⟨hP, mS_D hD, va_S.rf⟩ hl e0
def rmX8_readRule : Room := { frames := 2, cells := 0, slots := 0, locals := 45 }
def fX8_readRule_b243 (n : Nat) : Nat → Int32 → Int32 → Int32 → Int32 → (Nat → Int32) → (Nat → Nat → Int32) → Option (Int32 × mSt)
  | 0, _, _, _, _, _, _ => none
  | j + 1, a1, a2, a4, a5, I, R =>
    if a4 ≤ a5 then
      some (1, I, R)
    else
      (fX8_digit n a1 0 ((I 15) - 1) I R).bind fun z26 =>
      if inb ((a2 + 3) + a5) 30 = true then
      if inb ((a2 + 3) + a5) 30 = true then
      if (getA (setA z26.2.2 18 ((a2 + 3) + a5) z26.1) 18 ((a2 + 3) + a5)) = (-9) then
        some (0, z26.2.1, (setA z26.2.2 18 ((a2 + 3) + a5) z26.1))
      else
        fX8_readRule_b243 n j a1 a2 a4 (a5 + 1) z26.2.1 (setA z26.2.2 18 ((a2 + 3) + a5) z26.1)
      else none
      else none
set_option maxRecDepth 20000 in
set_option maxHeartbeats 1000000 in
theorem fX8_readRule_b243_w {p : Program} {l : Launch} {e : Env} {s : State} {m : MethodId} {args : Array Value} {below : List Frame} {meth : Method} {c : Code} {D : va_G} {y : ClassId} {h : Nat} {q : Nat → Nat} {n : Nat} {z : Int32 × mSt} (X : mX p s m args c cX8_readRule 6 wsX8_readRule D y) (hr : meth.sig.returnType = some .boolean ∧ meth.locks = false) : ∀ (j : Nat) (a1 : Int32) (a2 : Int32) (a4 : Int32) (a5 : Int32) (I : Nat → Int32) (R : Nat → Nat → Int32) (H : Heap) (locs : List Loc) (ls : Array Slot), mH s D y h q H locs I R → lv_has ls 6 [(0, .ref h), (1, .int a1), (2, .int a2), (4, .int a4), (5, .int a5)] → fX8_readRule_b243 n j a1 a2 a4 a5 I R = some z → W p l e rmX8_readRule s m args below meth c H locs 0 0 (MQ below (mQi D y h q (mS y h q s.heap.size) z) args s 0 0 (mS y h q s.heap.size)) (F0 m 243 ls []) := by
  have hx := X.1.1
  have hb := X.1.2.1
  intro j
  induction j with
  | zero =>
    intro a1 a2 a4 a5 I R H locs ls w hl e0
    cases e0
  | succ j ih =>
    intro a1 a2 a4 a5 I R H locs ls w hl e0
    rw [fX8_readRule_b243] at e0
    refine lv_iload hx hb dX8_readRule_243 (lv_at hl 4 rfl) ?_
    refine lv_iload hx hb dX8_readRule_245 (lv_at hl 3 rfl) ?_
    refine lv_icmp_ge (tgt := 297) hx hb dX8_readRule_247 (by decide) (fun c31 => ?_) (fun c31 => ?_)
    · have e0 := itp _ c31 e0
      refine lv_iconst (v := 1) hx hb dX8_readRule_297 (by decide) ?_
      have e0 := Option.some.inj e0
      subst e0
      exact m_zret X w hr rfl dX8_readRule_298
    · have e0 := itn _ c31 e0
      refine lv_aload_n hx hb dX8_readRule_250 rfl (lv_at hl 0 rfl) ?_
      refine m_get X w 18 (by decide) (index := 40) rfl (by decide +kernel) (mfr18 _ _) dX8_readRule_251 ?_
      refine lv_iload_n hx hb dX8_readRule_254 rfl (lv_at hl 2 rfl) ?_
      refine lv_iconst (v := 3) hx hb dX8_readRule_255 (by decide) ?_
      refine lv_iadd hx hb dX8_readRule_256 ?_
      refine lv_iload hx hb dX8_readRule_257 (lv_at hl 4 rfl) ?_
      refine lv_iadd hx hb dX8_readRule_259 ?_
      refine lv_aload_n hx hb dX8_readRule_260 rfl (lv_at hl 0 rfl) ?_
      refine lv_iload_n hx hb dX8_readRule_261 rfl (lv_at hl 1 rfl) ?_
      refine lv_iconst (v := 0) hx hb dX8_readRule_262 (by decide) ?_
      refine lv_aload_n hx hb dX8_readRule_263 rfl (lv_at hl 0 rfl) ?_
      refine m_get X w 15 (by decide) (index := 138) rfl (by decide +kernel) (mfi15 _ _) dX8_readRule_264 ?_
      refine lv_iconst (v := 1) hx hb dX8_readRule_267 (by decide) ?_
      refine lv_isub hx hb dX8_readRule_268 ?_
      refine bd e0 (fun z26 e27 e0 => ?_)
      refine m_calli X w (n := 3) (As := [.int a1, .int 0, .int ((I 15) - 1)]) (rest := [.int ((a2 + 3) + a5), .ref (q 18)]) (fX8_digit_met l _ _ _ _ _ _ _ _ _ _ _ _ e27) gX8_readRule_X8_digit rfl rfl rfl (by decide +kernel) ⟨Nat.le_of_ble_eq_true rfl, Nat.le_of_ble_eq_true rfl⟩ rfl hl.1 rfl (Nat.le_of_ble_eq_true rfl) dX8_readRule_269 (fun H locs w => ?_)
      refine gd e0 (fun g28 e0 => ?_)
      refine m_ast X w 11 18 (mat18 _ _ _ _ _) (mset18 _ _ _ _ _) g28 dX8_readRule_272 (fun H locs w => ?_)
      refine lv_aload_n hx hb dX8_readRule_273 rfl (lv_at hl 0 rfl) ?_
      refine m_get X w 18 (by decide) (index := 40) rfl (by decide +kernel) (mfr18 _ _) dX8_readRule_274 ?_
      refine lv_iload_n hx hb dX8_readRule_277 rfl (lv_at hl 2 rfl) ?_
      refine lv_iconst (v := 3) hx hb dX8_readRule_278 (by decide) ?_
      refine lv_iadd hx hb dX8_readRule_279 ?_
      refine lv_iload hx hb dX8_readRule_280 (lv_at hl 4 rfl) ?_
      refine lv_iadd hx hb dX8_readRule_282 ?_
      refine gd e0 (fun g29 e0 => ?_)
      refine m_ald X w 11 18 (mat18 _ _ _ _ _) g29 dX8_readRule_283 ?_
      refine lv_bipush (v := (-9)) hx hb dX8_readRule_284 (by decide) ?_
      refine lv_icmp_ne (tgt := 291) hx hb dX8_readRule_286 (by decide) (fun c30 => ?_) (fun c30 => ?_)
      · have e0 := itn _ c30 e0
        refine lv_iinc (v := (a5 + 1)) (lv' := [(5, .int (a5 + 1)), (0, .ref h), (1, .int a1), (2, .int a2), (4, .int a4)]) hx hb dX8_readRule_291 hl (k := 4) rfl rfl (by decide) rfl (fun ls hl => ?_)
        refine lv_goto (tgt := 243) hx hb dX8_readRule_294 (by decide) ?_
        exact ih _ _ _ _ _ _ _ _ _ w (lv_sub hl [1, 2, 3, 4, 0] rfl) e0
      · have e0 := itp _ c30 e0
        refine lv_iconst (v := 0) hx hb dX8_readRule_289 (by decide) ?_
        have e0 := Option.some.inj e0
        subst e0
        exact m_zret X w hr rfl dX8_readRule_290
def fX8_readRule_b228 (n : Nat) (a1 : Int32) (a2 : Int32) (t0 : Int32) (I : Nat → Int32) (R : Nat → Nat → Int32) : Option (Int32 × mSt) :=
  if inb (a2 + 5) 30 = true then
  fX8_readRule_b243 n n a1 a2 t0 0 I (setA R 18 (a2 + 5) (-9))
  else none
set_option maxRecDepth 20000 in
set_option maxHeartbeats 1000000 in
theorem fX8_readRule_b228_w {p : Program} {l : Launch} {e : Env} {s : State} {m : MethodId} {args : Array Value} {below : List Frame} {meth : Method} {c : Code} {D : va_G} {y : ClassId} {h : Nat} {q : Nat → Nat} {n : Nat} {z : Int32 × mSt} (X : mX p s m args c cX8_readRule 6 wsX8_readRule D y) (hr : meth.sig.returnType = some .boolean ∧ meth.locks = false) {a1 : Int32} {a2 : Int32} {t0 : Int32} {I : Nat → Int32} {R : Nat → Nat → Int32} {H : Heap} {locs : List Loc} {ls : Array Slot} (w : mH s D y h q H locs I R) (hl : lv_has ls 6 [(0, .ref h), (1, .int a1), (2, .int a2)]) (e0 : fX8_readRule_b228 n a1 a2 t0 I R = some z) : W p l e rmX8_readRule s m args below meth c H locs 0 0 (MQ below (mQi D y h q (mS y h q s.heap.size) z) args s 0 0 (mS y h q s.heap.size)) (F0 m 228 ls [.int t0]) := by
  have hx := X.1.1
  have hb := X.1.2.1
  unfold fX8_readRule_b228 at e0
  refine lv_istore (lv' := [(4, .int t0), (0, .ref h), (1, .int a1), (2, .int a2)]) hx hb dX8_readRule_228 hl (by decide) rfl (fun ls hl => ?_)
  refine lv_aload_n hx hb dX8_readRule_230 rfl (lv_at hl 1 rfl) ?_
  refine m_get X w 18 (by decide) (index := 40) rfl (by decide +kernel) (mfr18 _ _) dX8_readRule_231 ?_
  refine lv_iload_n hx hb dX8_readRule_234 rfl (lv_at hl 3 rfl) ?_
  refine lv_iconst (v := 5) hx hb dX8_readRule_235 (by decide) ?_
  refine lv_iadd hx hb dX8_readRule_236 ?_
  refine lv_bipush (v := (-9)) hx hb dX8_readRule_237 (by decide) ?_
  refine gd e0 (fun g25 e0 => ?_)
  refine m_ast X w 11 18 (mat18 _ _ _ _ _) (mset18 _ _ _ _ _) g25 dX8_readRule_239 (fun H locs w => ?_)
  refine lv_iconst (v := 0) hx hb dX8_readRule_240 (by decide) ?_
  refine lv_istore (lv' := [(5, .int 0), (4, .int t0), (0, .ref h), (1, .int a1), (2, .int a2)]) hx hb dX8_readRule_241 hl (by decide) rfl (fun ls hl => ?_)
  exact fX8_readRule_b243_w (l := l) X hr n _ _ _ _ _ _ _ _ _ w (lv_sub hl [2, 3, 4, 1, 0] rfl) e0
def fX8_readRule_b185 (n : Nat) (a1 : Int32) (a2 : Int32) (t0 : Int32) (t1 : Int32) (I : Nat → Int32) (R : Nat → Nat → Int32) : Option (Int32 × mSt) :=
  if inb t1 30 = true then
  if inb (a2 + 2) 30 = true then
  if (getA (setA R 18 t1 t0) 18 (a2 + 2)) = (-9) then
    some (0, I, (setA R 18 t1 t0))
  else
    if inb (a2 + 2) 30 = true then
    if 2 ≤ (getA (setA R 18 t1 t0) 18 (a2 + 2)) then
      fX8_readRule_b228 n a1 a2 3 (upd I 14 ((I 14) + 1)) (setA R 18 t1 t0)
    else
      fX8_readRule_b228 n a1 a2 2 (upd I 14 ((I 14) + 1)) (setA R 18 t1 t0)
    else none
  else none
  else none
set_option maxRecDepth 20000 in
set_option maxHeartbeats 1000000 in
theorem fX8_readRule_b185_w {p : Program} {l : Launch} {e : Env} {s : State} {m : MethodId} {args : Array Value} {below : List Frame} {meth : Method} {c : Code} {D : va_G} {y : ClassId} {h : Nat} {q : Nat → Nat} {n : Nat} {z : Int32 × mSt} (X : mX p s m args c cX8_readRule 6 wsX8_readRule D y) (hr : meth.sig.returnType = some .boolean ∧ meth.locks = false) {a1 : Int32} {a2 : Int32} {t0 : Int32} {t1 : Int32} {I : Nat → Int32} {R : Nat → Nat → Int32} {H : Heap} {locs : List Loc} {ls : Array Slot} (w : mH s D y h q H locs I R) (hl : lv_has ls 6 [(0, .ref h), (1, .int a1), (2, .int a2)]) (e0 : fX8_readRule_b185 n a1 a2 t0 t1 I R = some z) : W p l e rmX8_readRule s m args below meth c H locs 0 0 (MQ below (mQi D y h q (mS y h q s.heap.size) z) args s 0 0 (mS y h q s.heap.size)) (F0 m 185 ls [.int t0, .int t1, .ref (q 18)]) := by
  have hx := X.1.1
  have hb := X.1.2.1
  unfold fX8_readRule_b185 at e0
  refine gd e0 (fun g20 e0 => ?_)
  refine m_ast X w 11 18 (mat18 _ _ _ _ _) (mset18 _ _ _ _ _) g20 dX8_readRule_185 (fun H locs w => ?_)
  refine lv_aload_n hx hb dX8_readRule_186 rfl (lv_at hl 0 rfl) ?_
  refine m_get X w 18 (by decide) (index := 40) rfl (by decide +kernel) (mfr18 _ _) dX8_readRule_187 ?_
  refine lv_iload_n hx hb dX8_readRule_190 rfl (lv_at hl 2 rfl) ?_
  refine lv_iconst (v := 2) hx hb dX8_readRule_191 (by decide) ?_
  refine lv_iadd hx hb dX8_readRule_192 ?_
  refine gd e0 (fun g21 e0 => ?_)
  refine m_ald X w 11 18 (mat18 _ _ _ _ _) g21 dX8_readRule_193 ?_
  refine lv_bipush (v := (-9)) hx hb dX8_readRule_194 (by decide) ?_
  refine lv_icmp_ne (tgt := 201) hx hb dX8_readRule_196 (by decide) (fun c24 => ?_) (fun c24 => ?_)
  · have e0 := itn _ c24 e0
    refine lv_aload_n hx hb dX8_readRule_201 rfl (lv_at hl 0 rfl) ?_
    refine lv_dup hx hb dX8_readRule_202 rfl ?_
    refine m_get X w 14 (by decide) (index := 98) rfl (by decide +kernel) (mfi14 _ _) dX8_readRule_203 ?_
    refine lv_iconst (v := 1) hx hb dX8_readRule_206 (by decide) ?_
    refine lv_iadd hx hb dX8_readRule_207 ?_
    refine m_put X w 14 (by decide) (index := 98) rfl rfl (by decide +kernel) (by decide +kernel) (mps14 _ _ _) dX8_readRule_208 (fun H locs w => ?_)
    refine lv_aload_n hx hb dX8_readRule_211 rfl (lv_at hl 0 rfl) ?_
    refine m_get X w 18 (by decide) (index := 40) rfl (by decide +kernel) (mfr18 _ _) dX8_readRule_212 ?_
    refine lv_iload_n hx hb dX8_readRule_215 rfl (lv_at hl 2 rfl) ?_
    refine lv_iconst (v := 2) hx hb dX8_readRule_216 (by decide) ?_
    refine lv_iadd hx hb dX8_readRule_217 ?_
    refine gd e0 (fun g22 e0 => ?_)
    refine m_ald X w 11 18 (mat18 _ _ _ _ _) g22 dX8_readRule_218 ?_
    refine lv_iconst (v := 2) hx hb dX8_readRule_219 (by decide) ?_
    refine lv_icmp_ge (tgt := 227) hx hb dX8_readRule_220 (by decide) (fun c23 => ?_) (fun c23 => ?_)
    · have e0 := itp _ c23 e0
      refine lv_iconst (v := 3) hx hb dX8_readRule_227 (by decide) ?_
      exact fX8_readRule_b228_w (l := l) X hr w (lv_sub hl [0, 1, 2] rfl) e0
    · have e0 := itn _ c23 e0
      refine lv_iconst (v := 2) hx hb dX8_readRule_223 (by decide) ?_
      refine lv_goto (tgt := 228) hx hb dX8_readRule_224 (by decide) ?_
      exact fX8_readRule_b228_w (l := l) X hr w (lv_sub hl [0, 1, 2] rfl) e0
  · have e0 := itp _ c24 e0
    refine lv_iconst (v := 0) hx hb dX8_readRule_199 (by decide) ?_
    have e0 := Option.some.inj e0
    subst e0
    exact m_zret X w hr rfl dX8_readRule_200
def fX8_readRule_b135 (n : Nat) (a1 : Int32) (a2 : Int32) (t0 : Int32) (I : Nat → Int32) (R : Nat → Nat → Int32) : Option (Int32 × mSt) :=
  if t0 = 99 then
    fX8_readRule_b185 n a1 a2 0 (a2 + 2) I R
  else
    if t0 = 116 then
      fX8_readRule_b185 n a1 a2 1 (a2 + 2) I R
    else
      if t0 = 106 then
        fX8_readRule_b185 n a1 a2 2 (a2 + 2) I R
      else
        if t0 = 110 then
          fX8_readRule_b185 n a1 a2 3 (a2 + 2) I R
        else
          fX8_readRule_b185 n a1 a2 (-9) (a2 + 2) I R
set_option maxRecDepth 20000 in
set_option maxHeartbeats 1000000 in
theorem fX8_readRule_b135_w {p : Program} {l : Launch} {e : Env} {s : State} {m : MethodId} {args : Array Value} {below : List Frame} {meth : Method} {c : Code} {D : va_G} {y : ClassId} {h : Nat} {q : Nat → Nat} {n : Nat} {z : Int32 × mSt} (X : mX p s m args c cX8_readRule 6 wsX8_readRule D y) (hr : meth.sig.returnType = some .boolean ∧ meth.locks = false) {a1 : Int32} {a2 : Int32} {t0 : Int32} {I : Nat → Int32} {R : Nat → Nat → Int32} {H : Heap} {locs : List Loc} {ls : Array Slot} (w : mH s D y h q H locs I R) (hl : lv_has ls 6 [(0, .ref h), (1, .int a1), (2, .int a2)]) (e0 : fX8_readRule_b135 n a1 a2 t0 I R = some z) : W p l e rmX8_readRule s m args below meth c H locs 0 0 (MQ below (mQi D y h q (mS y h q s.heap.size) z) args s 0 0 (mS y h q s.heap.size)) (F0 m 135 ls [.int t0]) := by
  have hx := X.1.1
  have hb := X.1.2.1
  unfold fX8_readRule_b135 at e0
  refine lv_istore_n (lv' := [(3, .int t0), (0, .ref h), (1, .int a1), (2, .int a2)]) hx hb dX8_readRule_135 rfl hl (by decide) rfl (fun ls hl => ?_)
  refine lv_aload_n hx hb dX8_readRule_136 rfl (lv_at hl 1 rfl) ?_
  refine m_get X w 18 (by decide) (index := 40) rfl (by decide +kernel) (mfr18 _ _) dX8_readRule_137 ?_
  refine lv_iload_n hx hb dX8_readRule_140 rfl (lv_at hl 3 rfl) ?_
  refine lv_iconst (v := 2) hx hb dX8_readRule_141 (by decide) ?_
  refine lv_iadd hx hb dX8_readRule_142 ?_
  refine lv_iload_n hx hb dX8_readRule_143 rfl (lv_at hl 0 rfl) ?_
  refine lv_bipush (v := 99) hx hb dX8_readRule_144 (by decide) ?_
  refine lv_icmp_ne (tgt := 153) hx hb dX8_readRule_146 (by decide) (fun c19 => ?_) (fun c19 => ?_)
  · have e0 := itn _ c19 e0
    refine lv_iload_n hx hb dX8_readRule_153 rfl (lv_at hl 0 rfl) ?_
    refine lv_bipush (v := 116) hx hb dX8_readRule_154 (by decide) ?_
    refine lv_icmp_ne (tgt := 163) hx hb dX8_readRule_156 (by decide) (fun c18 => ?_) (fun c18 => ?_)
    · have e0 := itn _ c18 e0
      refine lv_iload_n hx hb dX8_readRule_163 rfl (lv_at hl 0 rfl) ?_
      refine lv_bipush (v := 106) hx hb dX8_readRule_164 (by decide) ?_
      refine lv_icmp_ne (tgt := 173) hx hb dX8_readRule_166 (by decide) (fun c17 => ?_) (fun c17 => ?_)
      · have e0 := itn _ c17 e0
        refine lv_iload_n hx hb dX8_readRule_173 rfl (lv_at hl 0 rfl) ?_
        refine lv_bipush (v := 110) hx hb dX8_readRule_174 (by decide) ?_
        refine lv_icmp_ne (tgt := 183) hx hb dX8_readRule_176 (by decide) (fun c16 => ?_) (fun c16 => ?_)
        · have e0 := itn _ c16 e0
          refine lv_bipush (v := (-9)) hx hb dX8_readRule_183 (by decide) ?_
          exact fX8_readRule_b185_w (l := l) X hr w (lv_sub hl [1, 2, 3] rfl) e0
        · have e0 := itp _ c16 e0
          refine lv_iconst (v := 3) hx hb dX8_readRule_179 (by decide) ?_
          refine lv_goto (tgt := 185) hx hb dX8_readRule_180 (by decide) ?_
          exact fX8_readRule_b185_w (l := l) X hr w (lv_sub hl [1, 2, 3] rfl) e0
      · have e0 := itp _ c17 e0
        refine lv_iconst (v := 2) hx hb dX8_readRule_169 (by decide) ?_
        refine lv_goto (tgt := 185) hx hb dX8_readRule_170 (by decide) ?_
        exact fX8_readRule_b185_w (l := l) X hr w (lv_sub hl [1, 2, 3] rfl) e0
    · have e0 := itp _ c18 e0
      refine lv_iconst (v := 1) hx hb dX8_readRule_159 (by decide) ?_
      refine lv_goto (tgt := 185) hx hb dX8_readRule_160 (by decide) ?_
      exact fX8_readRule_b185_w (l := l) X hr w (lv_sub hl [1, 2, 3] rfl) e0
  · have e0 := itp _ c19 e0
    refine lv_iconst (v := 0) hx hb dX8_readRule_149 (by decide) ?_
    refine lv_goto (tgt := 185) hx hb dX8_readRule_150 (by decide) ?_
    exact fX8_readRule_b185_w (l := l) X hr w (lv_sub hl [1, 2, 3] rfl) e0
def fX8_readRule_b59 (n : Nat) (a1 : Int32) (a2 : Int32) (t0 : Int32) (t1 : Int32) (I : Nat → Int32) (R : Nat → Nat → Int32) : Option (Int32 × mSt) :=
  if inb t1 30 = true then
  if inb a2 30 = true then
  if (getA (setA R 18 t1 t0) 18 a2) = (-9) then
    some (0, I, (setA R 18 t1 t0))
  else
    (fX8_digit n a1 1 9 (upd I 14 ((I 14) + 1)) (setA R 18 t1 t0)).bind fun z8 =>
    if inb (a2 + 1) 30 = true then
    if inb (a2 + 1) 30 = true then
    if (getA (setA z8.2.2 18 (a2 + 1) z8.1) 18 (a2 + 1)) = (-9) then
      some (0, z8.2.1, (setA z8.2.2 18 (a2 + 1) z8.1))
    else
      if a1 ≤ (z8.2.1 14) then
        fX8_readRule_b135 n a1 a2 0 z8.2.1 (setA z8.2.2 18 (a2 + 1) z8.1)
      else
        if inb (z8.2.1 14) 240 = true then
        fX8_readRule_b135 n a1 a2 (getA (setA z8.2.2 18 (a2 + 1) z8.1) 4 (z8.2.1 14)) z8.2.1 (setA z8.2.2 18 (a2 + 1) z8.1)
        else none
    else none
    else none
  else none
  else none
set_option maxRecDepth 20000 in
set_option maxHeartbeats 1000000 in
theorem fX8_readRule_b59_w {p : Program} {l : Launch} {e : Env} {s : State} {m : MethodId} {args : Array Value} {below : List Frame} {meth : Method} {c : Code} {D : va_G} {y : ClassId} {h : Nat} {q : Nat → Nat} {n : Nat} {z : Int32 × mSt} (X : mX p s m args c cX8_readRule 6 wsX8_readRule D y) (hr : meth.sig.returnType = some .boolean ∧ meth.locks = false) {a1 : Int32} {a2 : Int32} {t0 : Int32} {t1 : Int32} {I : Nat → Int32} {R : Nat → Nat → Int32} {H : Heap} {locs : List Loc} {ls : Array Slot} (w : mH s D y h q H locs I R) (hl : lv_has ls 6 [(0, .ref h), (1, .int a1), (2, .int a2)]) (e0 : fX8_readRule_b59 n a1 a2 t0 t1 I R = some z) : W p l e rmX8_readRule s m args below meth c H locs 0 0 (MQ below (mQi D y h q (mS y h q s.heap.size) z) args s 0 0 (mS y h q s.heap.size)) (F0 m 59 ls [.int t0, .int t1, .ref (q 18)]) := by
  have hx := X.1.1
  have hb := X.1.2.1
  unfold fX8_readRule_b59 at e0
  refine gd e0 (fun g6 e0 => ?_)
  refine m_ast X w 11 18 (mat18 _ _ _ _ _) (mset18 _ _ _ _ _) g6 dX8_readRule_59 (fun H locs w => ?_)
  refine lv_aload_n hx hb dX8_readRule_60 rfl (lv_at hl 0 rfl) ?_
  refine m_get X w 18 (by decide) (index := 40) rfl (by decide +kernel) (mfr18 _ _) dX8_readRule_61 ?_
  refine lv_iload_n hx hb dX8_readRule_64 rfl (lv_at hl 2 rfl) ?_
  refine gd e0 (fun g7 e0 => ?_)
  refine m_ald X w 11 18 (mat18 _ _ _ _ _) g7 dX8_readRule_65 ?_
  refine lv_bipush (v := (-9)) hx hb dX8_readRule_66 (by decide) ?_
  refine lv_icmp_ne (tgt := 73) hx hb dX8_readRule_68 (by decide) (fun c15 => ?_) (fun c15 => ?_)
  · have e0 := itn _ c15 e0
    refine lv_aload_n hx hb dX8_readRule_73 rfl (lv_at hl 0 rfl) ?_
    refine lv_dup hx hb dX8_readRule_74 rfl ?_
    refine m_get X w 14 (by decide) (index := 98) rfl (by decide +kernel) (mfi14 _ _) dX8_readRule_75 ?_
    refine lv_iconst (v := 1) hx hb dX8_readRule_78 (by decide) ?_
    refine lv_iadd hx hb dX8_readRule_79 ?_
    refine m_put X w 14 (by decide) (index := 98) rfl rfl (by decide +kernel) (by decide +kernel) (mps14 _ _ _) dX8_readRule_80 (fun H locs w => ?_)
    refine lv_aload_n hx hb dX8_readRule_83 rfl (lv_at hl 0 rfl) ?_
    refine m_get X w 18 (by decide) (index := 40) rfl (by decide +kernel) (mfr18 _ _) dX8_readRule_84 ?_
    refine lv_iload_n hx hb dX8_readRule_87 rfl (lv_at hl 2 rfl) ?_
    refine lv_iconst (v := 1) hx hb dX8_readRule_88 (by decide) ?_
    refine lv_iadd hx hb dX8_readRule_89 ?_
    refine lv_aload_n hx hb dX8_readRule_90 rfl (lv_at hl 0 rfl) ?_
    refine lv_iload_n hx hb dX8_readRule_91 rfl (lv_at hl 1 rfl) ?_
    refine lv_iconst (v := 1) hx hb dX8_readRule_92 (by decide) ?_
    refine lv_bipush (v := 9) hx hb dX8_readRule_93 (by decide) ?_
    refine bd e0 (fun z8 e9 e0 => ?_)
    refine m_calli X w (n := 3) (As := [.int a1, .int 1, .int 9]) (rest := [.int (a2 + 1), .ref (q 18)]) (fX8_digit_met l _ _ _ _ _ _ _ _ _ _ _ _ e9) gX8_readRule_X8_digit rfl rfl rfl (by decide +kernel) ⟨Nat.le_of_ble_eq_true rfl, Nat.le_of_ble_eq_true rfl⟩ rfl hl.1 rfl (Nat.le_of_ble_eq_true rfl) dX8_readRule_95 (fun H locs w => ?_)
    refine gd e0 (fun g10 e0 => ?_)
    refine m_ast X w 11 18 (mat18 _ _ _ _ _) (mset18 _ _ _ _ _) g10 dX8_readRule_98 (fun H locs w => ?_)
    refine lv_aload_n hx hb dX8_readRule_99 rfl (lv_at hl 0 rfl) ?_
    refine m_get X w 18 (by decide) (index := 40) rfl (by decide +kernel) (mfr18 _ _) dX8_readRule_100 ?_
    refine lv_iload_n hx hb dX8_readRule_103 rfl (lv_at hl 2 rfl) ?_
    refine lv_iconst (v := 1) hx hb dX8_readRule_104 (by decide) ?_
    refine lv_iadd hx hb dX8_readRule_105 ?_
    refine gd e0 (fun g11 e0 => ?_)
    refine m_ald X w 11 18 (mat18 _ _ _ _ _) g11 dX8_readRule_106 ?_
    refine lv_bipush (v := (-9)) hx hb dX8_readRule_107 (by decide) ?_
    refine lv_icmp_ne (tgt := 114) hx hb dX8_readRule_109 (by decide) (fun c14 => ?_) (fun c14 => ?_)
    · have e0 := itn _ c14 e0
      refine lv_aload_n hx hb dX8_readRule_114 rfl (lv_at hl 0 rfl) ?_
      refine m_get X w 14 (by decide) (index := 98) rfl (by decide +kernel) (mfi14 _ _) dX8_readRule_115 ?_
      refine lv_iload_n hx hb dX8_readRule_118 rfl (lv_at hl 1 rfl) ?_
      refine lv_icmp_ge (tgt := 134) hx hb dX8_readRule_119 (by decide) (fun c13 => ?_) (fun c13 => ?_)
      · have e0 := itp _ c13 e0
        refine lv_iconst (v := 0) hx hb dX8_readRule_134 (by decide) ?_
        exact fX8_readRule_b135_w (l := l) X hr w (lv_sub hl [0, 1, 2] rfl) e0
      · have e0 := itn _ c13 e0
        refine lv_aload_n hx hb dX8_readRule_122 rfl (lv_at hl 0 rfl) ?_
        refine m_get X w 4 (by decide) (index := 16) rfl (by decide +kernel) (mfr4 _ _) dX8_readRule_123 ?_
        refine lv_aload_n hx hb dX8_readRule_126 rfl (lv_at hl 0 rfl) ?_
        refine m_get X w 14 (by decide) (index := 98) rfl (by decide +kernel) (mfi14 _ _) dX8_readRule_127 ?_
        refine gd e0 (fun g12 e0 => ?_)
        refine m_ald X w 3 4 (mat4 _ _ _ _ _) g12 dX8_readRule_130 ?_
        refine lv_goto (tgt := 135) hx hb dX8_readRule_131 (by decide) ?_
        exact fX8_readRule_b135_w (l := l) X hr w (lv_sub hl [0, 1, 2] rfl) e0
    · have e0 := itp _ c14 e0
      refine lv_iconst (v := 0) hx hb dX8_readRule_112 (by decide) ?_
      have e0 := Option.some.inj e0
      subst e0
      exact m_zret X w hr rfl dX8_readRule_113
  · have e0 := itp _ c15 e0
    refine lv_iconst (v := 0) hx hb dX8_readRule_71 (by decide) ?_
    have e0 := Option.some.inj e0
    subst e0
    exact m_zret X w hr rfl dX8_readRule_72
def fX8_readRule_b21 (n : Nat) (a1 : Int32) (a2 : Int32) (t0 : Int32) (I : Nat → Int32) (R : Nat → Nat → Int32) : Option (Int32 × mSt) :=
  if t0 = 112 then
    fX8_readRule_b59 n a1 a2 0 a2 I R
  else
    if t0 = 98 then
      fX8_readRule_b59 n a1 a2 1 a2 I R
    else
      if t0 = 119 then
        fX8_readRule_b59 n a1 a2 2 a2 I R
      else
        fX8_readRule_b59 n a1 a2 (-9) a2 I R
set_option maxRecDepth 20000 in
set_option maxHeartbeats 1000000 in
theorem fX8_readRule_b21_w {p : Program} {l : Launch} {e : Env} {s : State} {m : MethodId} {args : Array Value} {below : List Frame} {meth : Method} {c : Code} {D : va_G} {y : ClassId} {h : Nat} {q : Nat → Nat} {n : Nat} {z : Int32 × mSt} (X : mX p s m args c cX8_readRule 6 wsX8_readRule D y) (hr : meth.sig.returnType = some .boolean ∧ meth.locks = false) {a1 : Int32} {a2 : Int32} {t0 : Int32} {I : Nat → Int32} {R : Nat → Nat → Int32} {H : Heap} {locs : List Loc} {ls : Array Slot} (w : mH s D y h q H locs I R) (hl : lv_has ls 6 [(0, .ref h), (1, .int a1), (2, .int a2)]) (e0 : fX8_readRule_b21 n a1 a2 t0 I R = some z) : W p l e rmX8_readRule s m args below meth c H locs 0 0 (MQ below (mQi D y h q (mS y h q s.heap.size) z) args s 0 0 (mS y h q s.heap.size)) (F0 m 21 ls [.int t0]) := by
  have hx := X.1.1
  have hb := X.1.2.1
  unfold fX8_readRule_b21 at e0
  refine lv_istore_n (lv' := [(3, .int t0), (0, .ref h), (1, .int a1), (2, .int a2)]) hx hb dX8_readRule_21 rfl hl (by decide) rfl (fun ls hl => ?_)
  refine lv_aload_n hx hb dX8_readRule_22 rfl (lv_at hl 1 rfl) ?_
  refine m_get X w 18 (by decide) (index := 40) rfl (by decide +kernel) (mfr18 _ _) dX8_readRule_23 ?_
  refine lv_iload_n hx hb dX8_readRule_26 rfl (lv_at hl 3 rfl) ?_
  refine lv_iload_n hx hb dX8_readRule_27 rfl (lv_at hl 0 rfl) ?_
  refine lv_bipush (v := 112) hx hb dX8_readRule_28 (by decide) ?_
  refine lv_icmp_ne (tgt := 37) hx hb dX8_readRule_30 (by decide) (fun c5 => ?_) (fun c5 => ?_)
  · have e0 := itn _ c5 e0
    refine lv_iload_n hx hb dX8_readRule_37 rfl (lv_at hl 0 rfl) ?_
    refine lv_bipush (v := 98) hx hb dX8_readRule_38 (by decide) ?_
    refine lv_icmp_ne (tgt := 47) hx hb dX8_readRule_40 (by decide) (fun c4 => ?_) (fun c4 => ?_)
    · have e0 := itn _ c4 e0
      refine lv_iload_n hx hb dX8_readRule_47 rfl (lv_at hl 0 rfl) ?_
      refine lv_bipush (v := 119) hx hb dX8_readRule_48 (by decide) ?_
      refine lv_icmp_ne (tgt := 57) hx hb dX8_readRule_50 (by decide) (fun c3 => ?_) (fun c3 => ?_)
      · have e0 := itn _ c3 e0
        refine lv_bipush (v := (-9)) hx hb dX8_readRule_57 (by decide) ?_
        exact fX8_readRule_b59_w (l := l) X hr w (lv_sub hl [1, 2, 3] rfl) e0
      · have e0 := itp _ c3 e0
        refine lv_iconst (v := 2) hx hb dX8_readRule_53 (by decide) ?_
        refine lv_goto (tgt := 59) hx hb dX8_readRule_54 (by decide) ?_
        exact fX8_readRule_b59_w (l := l) X hr w (lv_sub hl [1, 2, 3] rfl) e0
    · have e0 := itp _ c4 e0
      refine lv_iconst (v := 1) hx hb dX8_readRule_43 (by decide) ?_
      refine lv_goto (tgt := 59) hx hb dX8_readRule_44 (by decide) ?_
      exact fX8_readRule_b59_w (l := l) X hr w (lv_sub hl [1, 2, 3] rfl) e0
  · have e0 := itp _ c5 e0
    refine lv_iconst (v := 0) hx hb dX8_readRule_33 (by decide) ?_
    refine lv_goto (tgt := 59) hx hb dX8_readRule_34 (by decide) ?_
    exact fX8_readRule_b59_w (l := l) X hr w (lv_sub hl [1, 2, 3] rfl) e0
def fX8_readRule (n : Nat) (a1 : Int32) (a2 : Int32) (I : Nat → Int32) (R : Nat → Nat → Int32) : Option (Int32 × mSt) :=
  if a1 ≤ (I 14) then
    fX8_readRule_b21 n a1 a2 0 I R
  else
    if inb (I 14) 240 = true then
    fX8_readRule_b21 n a1 a2 (getA R 4 (I 14)) I R
    else none
set_option maxRecDepth 20000 in
set_option maxHeartbeats 1000000 in
theorem fX8_readRule_w {p : Program} {l : Launch} {e : Env} {s : State} {m : MethodId} {args : Array Value} {below : List Frame} {meth : Method} {c : Code} {D : va_G} {y : ClassId} {h : Nat} {q : Nat → Nat} {n : Nat} {z : Int32 × mSt} (X : mX p s m args c cX8_readRule 6 wsX8_readRule D y) (hr : meth.sig.returnType = some .boolean ∧ meth.locks = false) {a1 : Int32} {a2 : Int32} {I : Nat → Int32} {R : Nat → Nat → Int32} {H : Heap} {locs : List Loc} {ls : Array Slot} (w : mH s D y h q H locs I R) (hl : lv_has ls 6 [(0, .ref h), (1, .int a1), (2, .int a2)]) (e0 : fX8_readRule n a1 a2 I R = some z) : W p l e rmX8_readRule s m args below meth c H locs 0 0 (MQ below (mQi D y h q (mS y h q s.heap.size) z) args s 0 0 (mS y h q s.heap.size)) (F0 m 0 ls []) := by
  have hx := X.1.1
  have hb := X.1.2.1
  unfold fX8_readRule at e0
  refine lv_aload_n hx hb dX8_readRule_0 rfl (lv_at hl 0 rfl) ?_
  refine m_get X w 14 (by decide) (index := 98) rfl (by decide +kernel) (mfi14 _ _) dX8_readRule_1 ?_
  refine lv_iload_n hx hb dX8_readRule_4 rfl (lv_at hl 1 rfl) ?_
  refine lv_icmp_ge (tgt := 20) hx hb dX8_readRule_5 (by decide) (fun c2 => ?_) (fun c2 => ?_)
  · have e0 := itp _ c2 e0
    refine lv_iconst (v := 0) hx hb dX8_readRule_20 (by decide) ?_
    exact fX8_readRule_b21_w (l := l) X hr w (lv_sub hl [0, 1, 2] rfl) e0
  · have e0 := itn _ c2 e0
    refine lv_aload_n hx hb dX8_readRule_8 rfl (lv_at hl 0 rfl) ?_
    refine m_get X w 4 (by decide) (index := 16) rfl (by decide +kernel) (mfr4 _ _) dX8_readRule_9 ?_
    refine lv_aload_n hx hb dX8_readRule_12 rfl (lv_at hl 0 rfl) ?_
    refine m_get X w 14 (by decide) (index := 98) rfl (by decide +kernel) (mfi14 _ _) dX8_readRule_13 ?_
    refine gd e0 (fun g1 e0 => ?_)
    refine m_ald X w 3 4 (mat4 _ _ _ _ _) g1 dX8_readRule_16 ?_
    refine lv_goto (tgt := 21) hx hb dX8_readRule_17 (by decide) ?_
    exact fX8_readRule_b21_w (l := l) X hr w (lv_sub hl [0, 1, 2] rfl) e0
set_option maxRecDepth 20000 in
theorem fX8_readRule_met (l : Launch) (D : va_G) (y : ClassId) (h : Nat) (q : Nat → Nat) (sz n : Nat) (a1 : Int32) (a2 : Int32) (I : Nat → Int32) (R : Nat → Nat → Int32) (z : Int32 × mSt) (e0 : fX8_readRule n a1 a2 I R = some z) : Met l yX8_readRule wsX8_readRule rmX8_readRule (va_Pc [.ref h, .int a1, .int a2] (mPre D y h q sz I R)) (mQi D y h q (mS y h q sz) z) 0 0 (mS y h q sz) := by
  refine Met.ofW (cc := cX8_readRule) (maxL := 6) (ret := some .boolean) (by decide) rfl ?_
  intro p e s m args below meth c s₁ B hml hv
  obtain ⟨rfl, hsz, hP, hK, hD⟩ := hv
  subst hsz
  have hl := lv_entry ([.ref h, .int a1, .int a2]) (n := 6) (Nat.le_of_ble_eq_true rfl)
  rw [lg_entry_eq]
  exact fX8_readRule_w (s := s) ⟨⟨B.exec, B.bytes, hml, findClass_of_methodNamed B.named, atoms_spec (ws := wsX8_readRule) B.pre⟩, fun _ h9 => List.mem_cons_of_mem _ (List.mem_append_right _ h9), hK⟩ ⟨B.returns, B.notSynchronized⟩ ⟨hP, mS_D hD, va_S.rf⟩ hl e0
def rmX8_readFactNext : Room := { frames := 2, cells := 0, slots := 0, locals := 45 }
def fX8_readFactNext_b90 (n : Nat) : Nat → Int32 → Int32 → (Nat → Int32) → (Nat → Nat → Int32) → Option (Int32 × mSt)
  | 0, _, _, _, _ => none
  | j + 1, a4, a5, I, R =>
    if (I 17) ≤ a5 then
      if inb ((upd I 14 ((I 14) + 1)) 17) 5 = true then
      some (1, (upd (upd I 14 ((I 14) + 1)) 17 (((upd I 14 ((I 14) + 1)) 17) + 1)), (setA R 19 ((upd I 14 ((I 14) + 1)) 17) a4))
      else none
    else
      if inb a5 5 = true then
      if (getA R 19 a5) = a4 then
        some (0, I, R)
      else
        fX8_readFactNext_b90 n j a4 (a5 + 1) I R
      else none
set_option maxRecDepth 20000 in
set_option maxHeartbeats 1000000 in
theorem fX8_readFactNext_b90_w {p : Program} {l : Launch} {e : Env} {s : State} {m : MethodId} {args : Array Value} {below : List Frame} {meth : Method} {c : Code} {D : va_G} {y : ClassId} {h : Nat} {q : Nat → Nat} {n : Nat} {z : Int32 × mSt} (X : mX p s m args c cX8_readFactNext 6 wsX8_readFactNext D y) (hr : meth.sig.returnType = some .boolean ∧ meth.locks = false) : ∀ (j : Nat) (a4 : Int32) (a5 : Int32) (I : Nat → Int32) (R : Nat → Nat → Int32) (H : Heap) (locs : List Loc) (ls : Array Slot), mH s D y h q H locs I R → lv_has ls 6 [(0, .ref h), (4, .int a4), (5, .int a5)] → fX8_readFactNext_b90 n j a4 a5 I R = some z → W p l e rmX8_readFactNext s m args below meth c H locs 0 0 (MQ below (mQi D y h q (mS y h q s.heap.size) z) args s 0 0 (mS y h q s.heap.size)) (F0 m 90 ls []) := by
  have hx := X.1.1
  have hb := X.1.2.1
  intro j
  induction j with
  | zero =>
    intro a4 a5 I R H locs ls w hl e0
    cases e0
  | succ j ih =>
    intro a4 a5 I R H locs ls w hl e0
    rw [fX8_readFactNext_b90] at e0
    refine lv_iload hx hb dX8_readFactNext_90 (lv_at hl 2 rfl) ?_
    refine lv_aload_n hx hb dX8_readFactNext_92 rfl (lv_at hl 0 rfl) ?_
    refine m_get X w 17 (by decide) (index := 132) rfl (by decide +kernel) (mfi17 _ _) dX8_readFactNext_93 ?_
    refine lv_icmp_ge (tgt := 119) hx hb dX8_readFactNext_96 (by decide) (fun c16 => ?_) (fun c16 => ?_)
    · have e0 := itp _ c16 e0
      refine lv_aload_n hx hb dX8_readFactNext_119 rfl (lv_at hl 0 rfl) ?_
      refine lv_dup hx hb dX8_readFactNext_120 rfl ?_
      refine m_get X w 14 (by decide) (index := 98) rfl (by decide +kernel) (mfi14 _ _) dX8_readFactNext_121 ?_
      refine lv_iconst (v := 1) hx hb dX8_readFactNext_124 (by decide) ?_
      refine lv_iadd hx hb dX8_readFactNext_125 ?_
      refine m_put X w 14 (by decide) (index := 98) rfl rfl (by decide +kernel) (by decide +kernel) (mps14 _ _ _) dX8_readFactNext_126 (fun H locs w => ?_)
      refine lv_aload_n hx hb dX8_readFactNext_129 rfl (lv_at hl 0 rfl) ?_
      refine m_get X w 19 (by decide) (index := 43) rfl (by decide +kernel) (mfr19 _ _) dX8_readFactNext_130 ?_
      refine lv_aload_n hx hb dX8_readFactNext_133 rfl (lv_at hl 0 rfl) ?_
      refine m_get X w 17 (by decide) (index := 132) rfl (by decide +kernel) (mfi17 _ _) dX8_readFactNext_134 ?_
      refine lv_iload hx hb dX8_readFactNext_137 (lv_at hl 1 rfl) ?_
      refine gd e0 (fun g13 e0 => ?_)
      refine m_ast X w 12 19 (mat19 _ _ _ _ _) (mset19 _ _ _ _ _) g13 dX8_readFactNext_139 (fun H locs w => ?_)
      refine lv_aload_n hx hb dX8_readFactNext_140 rfl (lv_at hl 0 rfl) ?_
      refine lv_dup hx hb dX8_readFactNext_141 rfl ?_
      refine m_get X w 17 (by decide) (index := 132) rfl (by decide +kernel) (mfi17 _ _) dX8_readFactNext_142 ?_
      refine lv_iconst (v := 1) hx hb dX8_readFactNext_145 (by decide) ?_
      refine lv_iadd hx hb dX8_readFactNext_146 ?_
      refine m_put X w 17 (by decide) (index := 132) rfl rfl (by decide +kernel) (by decide +kernel) (mps17 _ _ _) dX8_readFactNext_147 (fun H locs w => ?_)
      refine lv_iconst (v := 1) hx hb dX8_readFactNext_150 (by decide) ?_
      have e0 := Option.some.inj e0
      subst e0
      exact m_zret X w hr rfl dX8_readFactNext_151
    · have e0 := itn _ c16 e0
      refine lv_aload_n hx hb dX8_readFactNext_99 rfl (lv_at hl 0 rfl) ?_
      refine m_get X w 19 (by decide) (index := 43) rfl (by decide +kernel) (mfr19 _ _) dX8_readFactNext_100 ?_
      refine lv_iload hx hb dX8_readFactNext_103 (lv_at hl 2 rfl) ?_
      refine gd e0 (fun g14 e0 => ?_)
      refine m_ald X w 12 19 (mat19 _ _ _ _ _) g14 dX8_readFactNext_105 ?_
      refine lv_iload hx hb dX8_readFactNext_106 (lv_at hl 1 rfl) ?_
      refine lv_icmp_ne (tgt := 113) hx hb dX8_readFactNext_108 (by decide) (fun c15 => ?_) (fun c15 => ?_)
      · have e0 := itn _ c15 e0
        refine lv_iinc (v := (a5 + 1)) (lv' := [(5, .int (a5 + 1)), (0, .ref h), (4, .int a4)]) hx hb dX8_readFactNext_113 hl (k := 2) rfl rfl (by decide) rfl (fun ls hl => ?_)
        refine lv_goto (tgt := 90) hx hb dX8_readFactNext_116 (by decide) ?_
        exact ih _ _ _ _ _ _ _ w (lv_sub hl [1, 2, 0] rfl) e0
      · have e0 := itp _ c15 e0
        refine lv_iconst (v := 0) hx hb dX8_readFactNext_111 (by decide) ?_
        have e0 := Option.some.inj e0
        subst e0
        exact m_zret X w hr rfl dX8_readFactNext_112
def fX8_readFactNext (n : Nat) (a1 : Int32) (I : Nat → Int32) (R : Nat → Nat → Int32) : Option (Int32 × mSt) :=
  (fX8_digit n a1 0 ((I 15) - 1) I R).bind fun z1 =>
  if z1.1 = (-9) then
    some (0, z1.2.1, z1.2.2)
  else
    (fX8_digit n a1 0 3 z1.2.1 z1.2.2).bind fun z3 =>
    if z3.1 = (-9) then
      some (0, z3.2.1, z3.2.2)
    else
      if a1 ≤ (z3.2.1 14) then
        some (0, z3.2.1, z3.2.2)
      else
        if inb (z3.2.1 14) 240 = true then
        (fX8_within n (getA z3.2.2 4 (z3.2.1 14)) 48 51).bind fun z6 =>
        if z6 = 0 then
          some (0, z3.2.1, z3.2.2)
        else
          if inb (z3.2.1 14) 240 = true then
          fX8_readFactNext_b90 n n ((((16 * z1.1) + (4 * z3.1)) + (getA z3.2.2 4 (z3.2.1 14))) - 48) 0 z3.2.1 z3.2.2
          else none
        else none
set_option maxRecDepth 20000 in
set_option maxHeartbeats 1000000 in
theorem fX8_readFactNext_w {p : Program} {l : Launch} {e : Env} {s : State} {m : MethodId} {args : Array Value} {below : List Frame} {meth : Method} {c : Code} {D : va_G} {y : ClassId} {h : Nat} {q : Nat → Nat} {n : Nat} {z : Int32 × mSt} (X : mX p s m args c cX8_readFactNext 6 wsX8_readFactNext D y) (hr : meth.sig.returnType = some .boolean ∧ meth.locks = false) {a1 : Int32} {I : Nat → Int32} {R : Nat → Nat → Int32} {H : Heap} {locs : List Loc} {ls : Array Slot} (w : mH s D y h q H locs I R) (hl : lv_has ls 6 [(0, .ref h), (1, .int a1)]) (e0 : fX8_readFactNext n a1 I R = some z) : W p l e rmX8_readFactNext s m args below meth c H locs 0 0 (MQ below (mQi D y h q (mS y h q s.heap.size) z) args s 0 0 (mS y h q s.heap.size)) (F0 m 0 ls []) := by
  have hx := X.1.1
  have hb := X.1.2.1
  unfold fX8_readFactNext at e0
  refine lv_aload_n hx hb dX8_readFactNext_0 rfl (lv_at hl 0 rfl) ?_
  refine lv_iload_n hx hb dX8_readFactNext_1 rfl (lv_at hl 1 rfl) ?_
  refine lv_iconst (v := 0) hx hb dX8_readFactNext_2 (by decide) ?_
  refine lv_aload_n hx hb dX8_readFactNext_3 rfl (lv_at hl 0 rfl) ?_
  refine m_get X w 15 (by decide) (index := 138) rfl (by decide +kernel) (mfi15 _ _) dX8_readFactNext_4 ?_
  refine lv_iconst (v := 1) hx hb dX8_readFactNext_7 (by decide) ?_
  refine lv_isub hx hb dX8_readFactNext_8 ?_
  refine bd e0 (fun z1 e2 e0 => ?_)
  refine m_calli X w (n := 3) (As := [.int a1, .int 0, .int ((I 15) - 1)]) (rest := []) (fX8_digit_met l _ _ _ _ _ _ _ _ _ _ _ _ e2) gX8_readFactNext_X8_digit rfl rfl rfl (by decide +kernel) ⟨Nat.le_of_ble_eq_true rfl, Nat.le_of_ble_eq_true rfl⟩ rfl hl.1 rfl (Nat.le_of_ble_eq_true rfl) dX8_readFactNext_9 (fun H locs w => ?_)
  refine lv_istore_n (lv' := [(2, .int z1.1), (0, .ref h), (1, .int a1)]) hx hb dX8_readFactNext_12 rfl hl (by decide) rfl (fun ls hl => ?_)
  refine lv_iload_n hx hb dX8_readFactNext_13 rfl (lv_at hl 0 rfl) ?_
  refine lv_bipush (v := (-9)) hx hb dX8_readFactNext_14 (by decide) ?_
  refine lv_icmp_ne (tgt := 21) hx hb dX8_readFactNext_16 (by decide) (fun c12 => ?_) (fun c12 => ?_)
  · have e0 := itn _ c12 e0
    refine lv_aload_n hx hb dX8_readFactNext_21 rfl (lv_at hl 1 rfl) ?_
    refine lv_iload_n hx hb dX8_readFactNext_22 rfl (lv_at hl 2 rfl) ?_
    refine lv_iconst (v := 0) hx hb dX8_readFactNext_23 (by decide) ?_
    refine lv_iconst (v := 3) hx hb dX8_readFactNext_24 (by decide) ?_
    refine bd e0 (fun z3 e4 e0 => ?_)
    refine m_calli X w (n := 3) (As := [.int a1, .int 0, .int 3]) (rest := []) (fX8_digit_met l _ _ _ _ _ _ _ _ _ _ _ _ e4) gX8_readFactNext_X8_digit rfl rfl rfl (by decide +kernel) ⟨Nat.le_of_ble_eq_true rfl, Nat.le_of_ble_eq_true rfl⟩ rfl hl.1 rfl (Nat.le_of_ble_eq_true rfl) dX8_readFactNext_25 (fun H locs w => ?_)
    refine lv_istore_n (lv' := [(3, .int z3.1), (2, .int z1.1), (0, .ref h), (1, .int a1)]) hx hb dX8_readFactNext_28 rfl hl (by decide) rfl (fun ls hl => ?_)
    refine lv_iload_n hx hb dX8_readFactNext_29 rfl (lv_at hl 0 rfl) ?_
    refine lv_bipush (v := (-9)) hx hb dX8_readFactNext_30 (by decide) ?_
    refine lv_icmp_eq (tgt := 62) hx hb dX8_readFactNext_32 (by decide) (fun c11 => ?_) (fun c11 => ?_)
    · have e0 := itp _ c11 e0
      refine lv_iconst (v := 0) hx hb dX8_readFactNext_62 (by decide) ?_
      have e0 := Option.some.inj e0
      subst e0
      exact m_zret X w hr rfl dX8_readFactNext_63
    · have e0 := itn _ c11 e0
      refine lv_aload_n hx hb dX8_readFactNext_35 rfl (lv_at hl 2 rfl) ?_
      refine m_get X w 14 (by decide) (index := 98) rfl (by decide +kernel) (mfi14 _ _) dX8_readFactNext_36 ?_
      refine lv_iload_n hx hb dX8_readFactNext_39 rfl (lv_at hl 3 rfl) ?_
      refine lv_icmp_ge (tgt := 62) hx hb dX8_readFactNext_40 (by decide) (fun c10 => ?_) (fun c10 => ?_)
      · have e0 := itp _ c10 e0
        refine lv_iconst (v := 0) hx hb dX8_readFactNext_62 (by decide) ?_
        have e0 := Option.some.inj e0
        subst e0
        exact m_zret X w hr rfl dX8_readFactNext_63
      · have e0 := itn _ c10 e0
        refine lv_aload_n hx hb dX8_readFactNext_43 rfl (lv_at hl 2 rfl) ?_
        refine m_get X w 4 (by decide) (index := 16) rfl (by decide +kernel) (mfr4 _ _) dX8_readFactNext_44 ?_
        refine lv_aload_n hx hb dX8_readFactNext_47 rfl (lv_at hl 2 rfl) ?_
        refine m_get X w 14 (by decide) (index := 98) rfl (by decide +kernel) (mfi14 _ _) dX8_readFactNext_48 ?_
        refine gd e0 (fun g5 e0 => ?_)
        refine m_ald X w 3 4 (mat4 _ _ _ _ _) g5 dX8_readFactNext_51 ?_
        refine lv_bipush (v := 48) hx hb dX8_readFactNext_52 (by decide) ?_
        refine lv_bipush (v := 51) hx hb dX8_readFactNext_54 (by decide) ?_
        refine bd e0 (fun z6 e7 e0 => ?_)
        refine m_callsi X w (n := 3) (As := [.int (getA z3.2.2 4 (z3.2.1 14)), .int 48, .int 51]) (rest := []) (fX8_within_met l _ _ _ _ _ e7) gX8_readFactNext_X8_within rfl rfl rfl (by decide +kernel) ⟨Nat.le_of_ble_eq_true rfl, Nat.le_of_ble_eq_true rfl⟩ rfl hl.1 rfl (Nat.le_of_ble_eq_true rfl) dX8_readFactNext_56 (fun H locs w => ?_)
        refine lv_if_ne (tgt := 64) hx hb dX8_readFactNext_59 (by decide) (fun c9 => ?_) (fun c9 => ?_)
        · have e0 := itn _ c9 e0
          refine lv_bipush (v := 16) hx hb dX8_readFactNext_64 (by decide) ?_
          refine lv_iload_n hx hb dX8_readFactNext_66 rfl (lv_at hl 1 rfl) ?_
          refine lv_imul hx hb dX8_readFactNext_67 ?_
          refine lv_iconst (v := 4) hx hb dX8_readFactNext_68 (by decide) ?_
          refine lv_iload_n hx hb dX8_readFactNext_69 rfl (lv_at hl 0 rfl) ?_
          refine lv_imul hx hb dX8_readFactNext_70 ?_
          refine lv_iadd hx hb dX8_readFactNext_71 ?_
          refine lv_aload_n hx hb dX8_readFactNext_72 rfl (lv_at hl 2 rfl) ?_
          refine m_get X w 4 (by decide) (index := 16) rfl (by decide +kernel) (mfr4 _ _) dX8_readFactNext_73 ?_
          refine lv_aload_n hx hb dX8_readFactNext_76 rfl (lv_at hl 2 rfl) ?_
          refine m_get X w 14 (by decide) (index := 98) rfl (by decide +kernel) (mfi14 _ _) dX8_readFactNext_77 ?_
          refine gd e0 (fun g8 e0 => ?_)
          refine m_ald X w 3 4 (mat4 _ _ _ _ _) g8 dX8_readFactNext_80 ?_
          refine lv_iadd hx hb dX8_readFactNext_81 ?_
          refine lv_bipush (v := 48) hx hb dX8_readFactNext_82 (by decide) ?_
          refine lv_isub hx hb dX8_readFactNext_84 ?_
          refine lv_istore (lv' := [(4, .int ((((16 * z1.1) + (4 * z3.1)) + (getA z3.2.2 4 (z3.2.1 14))) - 48)), (3, .int z3.1), (2, .int z1.1), (0, .ref h), (1, .int a1)]) hx hb dX8_readFactNext_85 hl (by decide) rfl (fun ls hl => ?_)
          refine lv_iconst (v := 0) hx hb dX8_readFactNext_87 (by decide) ?_
          refine lv_istore (lv' := [(5, .int 0), (4, .int ((((16 * z1.1) + (4 * z3.1)) + (getA z3.2.2 4 (z3.2.1 14))) - 48)), (3, .int z3.1), (2, .int z1.1), (0, .ref h), (1, .int a1)]) hx hb dX8_readFactNext_88 hl (by decide) rfl (fun ls hl => ?_)
          exact fX8_readFactNext_b90_w (l := l) X hr n _ _ _ _ _ _ _ w (lv_sub hl [4, 1, 0] rfl) e0
        · have e0 := itp _ c9 e0
          refine lv_iconst (v := 0) hx hb dX8_readFactNext_62 (by decide) ?_
          have e0 := Option.some.inj e0
          subst e0
          exact m_zret X w hr rfl dX8_readFactNext_63
  · have e0 := itp _ c12 e0
    refine lv_iconst (v := 0) hx hb dX8_readFactNext_19 (by decide) ?_
    have e0 := Option.some.inj e0
    subst e0
    exact m_zret X w hr rfl dX8_readFactNext_20
set_option maxRecDepth 20000 in
theorem fX8_readFactNext_met (l : Launch) (D : va_G) (y : ClassId) (h : Nat) (q : Nat → Nat) (sz n : Nat) (a1 : Int32) (I : Nat → Int32) (R : Nat → Nat → Int32) (z : Int32 × mSt) (e0 : fX8_readFactNext n a1 I R = some z) : Met l yX8_readFactNext wsX8_readFactNext rmX8_readFactNext (va_Pc [.ref h, .int a1] (mPre D y h q sz I R)) (mQi D y h q (mS y h q sz) z) 0 0 (mS y h q sz) := by
  refine Met.ofW (cc := cX8_readFactNext) (maxL := 6) (ret := some .boolean) (by decide) rfl ?_
  intro p e s m args below meth c s₁ B hml hv
  obtain ⟨rfl, hsz, hP, hK, hD⟩ := hv
  subst hsz
  have hl := lv_entry ([.ref h, .int a1]) (n := 6) (Nat.le_of_ble_eq_true rfl)
  rw [lg_entry_eq]
  exact fX8_readFactNext_w (s := s) ⟨⟨B.exec, B.bytes, hml, findClass_of_methodNamed B.named, atoms_spec (ws := wsX8_readFactNext) B.pre⟩, fun _ h9 => List.mem_cons_of_mem _ (List.mem_append_right _ h9), hK⟩ ⟨B.returns, B.notSynchronized⟩ ⟨hP, mS_D hD, va_S.rf⟩ hl e0
def rmX8_readAll : Room := { frames := 3, cells := 0, slots := 0, locals := 70 }
def fX8_readAll_b150 (n : Nat) (a1 : Int32) (I : Nat → Int32) (R : Nat → Nat → Int32) : Option (Int32 × mSt) :=
  if (I 14) = a1 then
    some (1, I, R)
  else
    some (0, I, R)
set_option maxRecDepth 20000 in
set_option maxHeartbeats 1000000 in
theorem fX8_readAll_b150_w {p : Program} {l : Launch} {e : Env} {s : State} {m : MethodId} {args : Array Value} {below : List Frame} {meth : Method} {c : Code} {D : va_G} {y : ClassId} {h : Nat} {q : Nat → Nat} {n : Nat} {z : Int32 × mSt} (X : mX p s m args c cX8_readAll 2 wsX8_readAll D y) (hr : meth.sig.returnType = some .boolean ∧ meth.locks = false) {a1 : Int32} {I : Nat → Int32} {R : Nat → Nat → Int32} {H : Heap} {locs : List Loc} {ls : Array Slot} (w : mH s D y h q H locs I R) (hl : lv_has ls 2 [(0, .ref h), (1, .int a1)]) (e0 : fX8_readAll_b150 n a1 I R = some z) : W p l e rmX8_readAll s m args below meth c H locs 0 0 (MQ below (mQi D y h q (mS y h q s.heap.size) z) args s 0 0 (mS y h q s.heap.size)) (F0 m 150 ls []) := by
  have hx := X.1.1
  have hb := X.1.2.1
  unfold fX8_readAll_b150 at e0
  refine lv_aload_n hx hb dX8_readAll_150 rfl (lv_at hl 0 rfl) ?_
  refine m_get X w 14 (by decide) (index := 98) rfl (by decide +kernel) (mfi14 _ _) dX8_readAll_151 ?_
  refine lv_iload_n hx hb dX8_readAll_154 rfl (lv_at hl 1 rfl) ?_
  refine lv_icmp_ne (tgt := 162) hx hb dX8_readAll_155 (by decide) (fun c22 => ?_) (fun c22 => ?_)
  · have e0 := itn _ c22 e0
    refine lv_iconst (v := 0) hx hb dX8_readAll_162 (by decide) ?_
    have e0 := Option.some.inj e0
    subst e0
    exact m_zret X w hr rfl dX8_readAll_163
  · have e0 := itp _ c22 e0
    refine lv_iconst (v := 1) hx hb dX8_readAll_158 (by decide) ?_
    refine lv_goto (tgt := 163) hx hb dX8_readAll_159 (by decide) ?_
    have e0 := Option.some.inj e0
    subst e0
    exact m_zret X w hr rfl dX8_readAll_163
def fX8_readAll_b114 (n : Nat) : Nat → Int32 → (Nat → Int32) → (Nat → Nat → Int32) → Option (Int32 × mSt)
  | 0, _, _, _ => none
  | j + 1, a1, I, R =>
    if 5 ≤ (I 17) then
      fX8_readAll_b150 n a1 I R
    else
      if a1 ≤ (I 14) then
        fX8_readAll_b150 n a1 I R
      else
        (fX8_isSign n a1 44 I R).bind fun z14 =>
        if z14.1 = 0 then
          some (0, z14.2.1, z14.2.2)
        else
          (fX8_readFactNext n a1 z14.2.1 z14.2.2).bind fun z16 =>
          if z16.1 = 0 then
            some (0, z16.2.1, z16.2.2)
          else
            fX8_readAll_b114 n j a1 z16.2.1 z16.2.2
set_option maxRecDepth 20000 in
set_option maxHeartbeats 1000000 in
theorem fX8_readAll_b114_w {p : Program} {l : Launch} {e : Env} {s : State} {m : MethodId} {args : Array Value} {below : List Frame} {meth : Method} {c : Code} {D : va_G} {y : ClassId} {h : Nat} {q : Nat → Nat} {n : Nat} {z : Int32 × mSt} (X : mX p s m args c cX8_readAll 2 wsX8_readAll D y) (hr : meth.sig.returnType = some .boolean ∧ meth.locks = false) : ∀ (j : Nat) (a1 : Int32) (I : Nat → Int32) (R : Nat → Nat → Int32) (H : Heap) (locs : List Loc) (ls : Array Slot), mH s D y h q H locs I R → lv_has ls 2 [(0, .ref h), (1, .int a1)] → fX8_readAll_b114 n j a1 I R = some z → W p l e rmX8_readAll s m args below meth c H locs 0 0 (MQ below (mQi D y h q (mS y h q s.heap.size) z) args s 0 0 (mS y h q s.heap.size)) (F0 m 114 ls []) := by
  have hx := X.1.1
  have hb := X.1.2.1
  intro j
  induction j with
  | zero =>
    intro a1 I R H locs ls w hl e0
    cases e0
  | succ j ih =>
    intro a1 I R H locs ls w hl e0
    rw [fX8_readAll_b114] at e0
    refine lv_aload_n hx hb dX8_readAll_114 rfl (lv_at hl 0 rfl) ?_
    refine m_get X w 17 (by decide) (index := 132) rfl (by decide +kernel) (mfi17 _ _) dX8_readAll_115 ?_
    refine lv_iconst (v := 5) hx hb dX8_readAll_118 (by decide) ?_
    refine lv_icmp_ge (tgt := 150) hx hb dX8_readAll_119 (by decide) (fun c21 => ?_) (fun c21 => ?_)
    · have e0 := itp _ c21 e0
      exact fX8_readAll_b150_w (l := l) X hr w (lv_sub hl [0, 1] rfl) e0
    · have e0 := itn _ c21 e0
      refine lv_aload_n hx hb dX8_readAll_122 rfl (lv_at hl 0 rfl) ?_
      refine m_get X w 14 (by decide) (index := 98) rfl (by decide +kernel) (mfi14 _ _) dX8_readAll_123 ?_
      refine lv_iload_n hx hb dX8_readAll_126 rfl (lv_at hl 1 rfl) ?_
      refine lv_icmp_ge (tgt := 150) hx hb dX8_readAll_127 (by decide) (fun c20 => ?_) (fun c20 => ?_)
      · have e0 := itp _ c20 e0
        exact fX8_readAll_b150_w (l := l) X hr w (lv_sub hl [0, 1] rfl) e0
      · have e0 := itn _ c20 e0
        refine lv_aload_n hx hb dX8_readAll_130 rfl (lv_at hl 0 rfl) ?_
        refine lv_iload_n hx hb dX8_readAll_131 rfl (lv_at hl 1 rfl) ?_
        refine lv_bipush (v := 44) hx hb dX8_readAll_132 (by decide) ?_
        refine bd e0 (fun z14 e15 e0 => ?_)
        refine m_calli X w (n := 2) (As := [.int a1, .int 44]) (rest := []) (fX8_isSign_met l _ _ _ _ _ _ _ _ _ _ _ e15) gX8_readAll_X8_isSign rfl rfl rfl (by decide +kernel) ⟨Nat.le_of_ble_eq_true rfl, Nat.le_of_ble_eq_true rfl⟩ rfl hl.1 rfl (Nat.le_of_ble_eq_true rfl) dX8_readAll_134 (fun H locs w => ?_)
        refine lv_if_eq (tgt := 148) hx hb dX8_readAll_137 (by decide) (fun c19 => ?_) (fun c19 => ?_)
        · have e0 := itp _ c19 e0
          refine lv_iconst (v := 0) hx hb dX8_readAll_148 (by decide) ?_
          have e0 := Option.some.inj e0
          subst e0
          exact m_zret X w hr rfl dX8_readAll_149
        · have e0 := itn _ c19 e0
          refine lv_aload_n hx hb dX8_readAll_140 rfl (lv_at hl 0 rfl) ?_
          refine lv_iload_n hx hb dX8_readAll_141 rfl (lv_at hl 1 rfl) ?_
          refine bd e0 (fun z16 e17 e0 => ?_)
          refine m_calli X w (n := 1) (As := [.int a1]) (rest := []) (fX8_readFactNext_met l _ _ _ _ _ _ _ _ _ _ e17) gX8_readAll_X8_readFactNext rfl rfl rfl (by decide +kernel) ⟨Nat.le_of_ble_eq_true rfl, Nat.le_of_ble_eq_true rfl⟩ rfl hl.1 rfl (Nat.le_of_ble_eq_true rfl) dX8_readAll_142 (fun H locs w => ?_)
          refine lv_if_ne (tgt := 114) hx hb dX8_readAll_145 (by decide) (fun c18 => ?_) (fun c18 => ?_)
          · have e0 := itn _ c18 e0
            exact ih _ _ _ _ _ _ w (lv_sub hl [0, 1] rfl) e0
          · have e0 := itp _ c18 e0
            refine lv_iconst (v := 0) hx hb dX8_readAll_148 (by decide) ?_
            have e0 := Option.some.inj e0
            subst e0
            exact m_zret X w hr rfl dX8_readAll_149
def fX8_readAll_b44 (n : Nat) : Nat → Int32 → (Nat → Int32) → (Nat → Nat → Int32) → Option (Int32 × mSt)
  | 0, _, _, _ => none
  | j + 1, a1, I, R =>
    if 5 ≤ (I 16) then
      fX8_readAll_b114 n n a1 I R
    else
      if a1 ≤ (I 14) then
        fX8_readAll_b114 n n a1 I R
      else
        if inb (I 14) 240 = true then
        if (getA R 4 (I 14)) = 59 then
          (fX8_readRule n a1 (6 * ((upd I 14 ((I 14) + 1)) 16)) (upd I 14 ((I 14) + 1)) R).bind fun z8 =>
          if z8.1 = 0 then
            some (0, z8.2.1, z8.2.2)
          else
            fX8_readAll_b44 n j a1 (upd z8.2.1 16 ((z8.2.1 16) + 1)) z8.2.2
        else
          fX8_readAll_b114 n n a1 I R
        else none
set_option maxRecDepth 20000 in
set_option maxHeartbeats 1000000 in
theorem fX8_readAll_b44_w {p : Program} {l : Launch} {e : Env} {s : State} {m : MethodId} {args : Array Value} {below : List Frame} {meth : Method} {c : Code} {D : va_G} {y : ClassId} {h : Nat} {q : Nat → Nat} {n : Nat} {z : Int32 × mSt} (X : mX p s m args c cX8_readAll 2 wsX8_readAll D y) (hr : meth.sig.returnType = some .boolean ∧ meth.locks = false) : ∀ (j : Nat) (a1 : Int32) (I : Nat → Int32) (R : Nat → Nat → Int32) (H : Heap) (locs : List Loc) (ls : Array Slot), mH s D y h q H locs I R → lv_has ls 2 [(0, .ref h), (1, .int a1)] → fX8_readAll_b44 n j a1 I R = some z → W p l e rmX8_readAll s m args below meth c H locs 0 0 (MQ below (mQi D y h q (mS y h q s.heap.size) z) args s 0 0 (mS y h q s.heap.size)) (F0 m 44 ls []) := by
  have hx := X.1.1
  have hb := X.1.2.1
  intro j
  induction j with
  | zero =>
    intro a1 I R H locs ls w hl e0
    cases e0
  | succ j ih =>
    intro a1 I R H locs ls w hl e0
    rw [fX8_readAll_b44] at e0
    refine lv_aload_n hx hb dX8_readAll_44 rfl (lv_at hl 0 rfl) ?_
    refine m_get X w 16 (by decide) (index := 141) rfl (by decide +kernel) (mfi16 _ _) dX8_readAll_45 ?_
    refine lv_iconst (v := 5) hx hb dX8_readAll_48 (by decide) ?_
    refine lv_icmp_ge (tgt := 114) hx hb dX8_readAll_49 (by decide) (fun c13 => ?_) (fun c13 => ?_)
    · have e0 := itp _ c13 e0
      exact fX8_readAll_b114_w (l := l) X hr n _ _ _ _ _ _ w (lv_sub hl [0, 1] rfl) e0
    · have e0 := itn _ c13 e0
      refine lv_aload_n hx hb dX8_readAll_52 rfl (lv_at hl 0 rfl) ?_
      refine m_get X w 14 (by decide) (index := 98) rfl (by decide +kernel) (mfi14 _ _) dX8_readAll_53 ?_
      refine lv_iload_n hx hb dX8_readAll_56 rfl (lv_at hl 1 rfl) ?_
      refine lv_icmp_ge (tgt := 114) hx hb dX8_readAll_57 (by decide) (fun c12 => ?_) (fun c12 => ?_)
      · have e0 := itp _ c12 e0
        exact fX8_readAll_b114_w (l := l) X hr n _ _ _ _ _ _ w (lv_sub hl [0, 1] rfl) e0
      · have e0 := itn _ c12 e0
        refine lv_aload_n hx hb dX8_readAll_60 rfl (lv_at hl 0 rfl) ?_
        refine m_get X w 4 (by decide) (index := 16) rfl (by decide +kernel) (mfr4 _ _) dX8_readAll_61 ?_
        refine lv_aload_n hx hb dX8_readAll_64 rfl (lv_at hl 0 rfl) ?_
        refine m_get X w 14 (by decide) (index := 98) rfl (by decide +kernel) (mfi14 _ _) dX8_readAll_65 ?_
        refine gd e0 (fun g7 e0 => ?_)
        refine m_ald X w 3 4 (mat4 _ _ _ _ _) g7 dX8_readAll_68 ?_
        refine lv_bipush (v := 59) hx hb dX8_readAll_69 (by decide) ?_
        refine lv_icmp_ne (tgt := 114) hx hb dX8_readAll_71 (by decide) (fun c11 => ?_) (fun c11 => ?_)
        · have e0 := itn _ c11 e0
          exact fX8_readAll_b114_w (l := l) X hr n _ _ _ _ _ _ w (lv_sub hl [0, 1] rfl) e0
        · have e0 := itp _ c11 e0
          refine lv_aload_n hx hb dX8_readAll_74 rfl (lv_at hl 0 rfl) ?_
          refine lv_dup hx hb dX8_readAll_75 rfl ?_
          refine m_get X w 14 (by decide) (index := 98) rfl (by decide +kernel) (mfi14 _ _) dX8_readAll_76 ?_
          refine lv_iconst (v := 1) hx hb dX8_readAll_79 (by decide) ?_
          refine lv_iadd hx hb dX8_readAll_80 ?_
          refine m_put X w 14 (by decide) (index := 98) rfl rfl (by decide +kernel) (by decide +kernel) (mps14 _ _ _) dX8_readAll_81 (fun H locs w => ?_)
          refine lv_aload_n hx hb dX8_readAll_84 rfl (lv_at hl 0 rfl) ?_
          refine lv_iload_n hx hb dX8_readAll_85 rfl (lv_at hl 1 rfl) ?_
          refine lv_bipush (v := 6) hx hb dX8_readAll_86 (by decide) ?_
          refine lv_aload_n hx hb dX8_readAll_88 rfl (lv_at hl 0 rfl) ?_
          refine m_get X w 16 (by decide) (index := 141) rfl (by decide +kernel) (mfi16 _ _) dX8_readAll_89 ?_
          refine lv_imul hx hb dX8_readAll_92 ?_
          refine bd e0 (fun z8 e9 e0 => ?_)
          refine m_calli X w (n := 2) (As := [.int a1, .int (6 * ((upd I 14 ((I 14) + 1)) 16))]) (rest := []) (fX8_readRule_met l _ _ _ _ _ _ _ _ _ _ _ e9) gX8_readAll_X8_readRule rfl rfl rfl (by decide +kernel) ⟨Nat.le_of_ble_eq_true rfl, Nat.le_of_ble_eq_true rfl⟩ rfl hl.1 rfl (Nat.le_of_ble_eq_true rfl) dX8_readAll_93 (fun H locs w => ?_)
          refine lv_if_ne (tgt := 101) hx hb dX8_readAll_96 (by decide) (fun c10 => ?_) (fun c10 => ?_)
          · have e0 := itn _ c10 e0
            refine lv_aload_n hx hb dX8_readAll_101 rfl (lv_at hl 0 rfl) ?_
            refine lv_dup hx hb dX8_readAll_102 rfl ?_
            refine m_get X w 16 (by decide) (index := 141) rfl (by decide +kernel) (mfi16 _ _) dX8_readAll_103 ?_
            refine lv_iconst (v := 1) hx hb dX8_readAll_106 (by decide) ?_
            refine lv_iadd hx hb dX8_readAll_107 ?_
            refine m_put X w 16 (by decide) (index := 141) rfl rfl (by decide +kernel) (by decide +kernel) (mps16 _ _ _) dX8_readAll_108 (fun H locs w => ?_)
            refine lv_goto (tgt := 44) hx hb dX8_readAll_111 (by decide) ?_
            exact ih _ _ _ _ _ _ w (lv_sub hl [0, 1] rfl) e0
          · have e0 := itp _ c10 e0
            refine lv_iconst (v := 0) hx hb dX8_readAll_99 (by decide) ?_
            have e0 := Option.some.inj e0
            subst e0
            exact m_zret X w hr rfl dX8_readAll_100
def fX8_readAll (n : Nat) (a1 : Int32) (I : Nat → Int32) (R : Nat → Nat → Int32) : Option (Int32 × mSt) :=
  (fX8_isSign n a1 100 (upd (upd I 16 0) 17 0) R).bind fun z1 =>
  if z1.1 = 0 then
    some (0, z1.2.1, z1.2.2)
  else
    (fX8_digit n a1 1 4 z1.2.1 z1.2.2).bind fun z3 =>
    if ((upd z3.2.1 15 z3.1) 15) = (-9) then
      some (0, (upd z3.2.1 15 z3.1), z3.2.2)
    else
      fX8_readAll_b44 n n a1 (upd z3.2.1 15 z3.1) z3.2.2
set_option maxRecDepth 20000 in
set_option maxHeartbeats 1000000 in
theorem fX8_readAll_w {p : Program} {l : Launch} {e : Env} {s : State} {m : MethodId} {args : Array Value} {below : List Frame} {meth : Method} {c : Code} {D : va_G} {y : ClassId} {h : Nat} {q : Nat → Nat} {n : Nat} {z : Int32 × mSt} (X : mX p s m args c cX8_readAll 2 wsX8_readAll D y) (hr : meth.sig.returnType = some .boolean ∧ meth.locks = false) {a1 : Int32} {I : Nat → Int32} {R : Nat → Nat → Int32} {H : Heap} {locs : List Loc} {ls : Array Slot} (w : mH s D y h q H locs I R) (hl : lv_has ls 2 [(0, .ref h), (1, .int a1)]) (e0 : fX8_readAll n a1 I R = some z) : W p l e rmX8_readAll s m args below meth c H locs 0 0 (MQ below (mQi D y h q (mS y h q s.heap.size) z) args s 0 0 (mS y h q s.heap.size)) (F0 m 0 ls []) := by
  have hx := X.1.1
  have hb := X.1.2.1
  unfold fX8_readAll at e0
  refine lv_aload_n hx hb dX8_readAll_0 rfl (lv_at hl 0 rfl) ?_
  refine lv_iconst (v := 0) hx hb dX8_readAll_1 (by decide) ?_
  refine m_put X w 16 (by decide) (index := 141) rfl rfl (by decide +kernel) (by decide +kernel) (mps16 _ _ _) dX8_readAll_2 (fun H locs w => ?_)
  refine lv_aload_n hx hb dX8_readAll_5 rfl (lv_at hl 0 rfl) ?_
  refine lv_iconst (v := 0) hx hb dX8_readAll_6 (by decide) ?_
  refine m_put X w 17 (by decide) (index := 132) rfl rfl (by decide +kernel) (by decide +kernel) (mps17 _ _ _) dX8_readAll_7 (fun H locs w => ?_)
  refine lv_aload_n hx hb dX8_readAll_10 rfl (lv_at hl 0 rfl) ?_
  refine lv_iload_n hx hb dX8_readAll_11 rfl (lv_at hl 1 rfl) ?_
  refine lv_bipush (v := 100) hx hb dX8_readAll_12 (by decide) ?_
  refine bd e0 (fun z1 e2 e0 => ?_)
  refine m_calli X w (n := 2) (As := [.int a1, .int 100]) (rest := []) (fX8_isSign_met l _ _ _ _ _ _ _ _ _ _ _ e2) gX8_readAll_X8_isSign rfl rfl rfl (by decide +kernel) ⟨Nat.le_of_ble_eq_true rfl, Nat.le_of_ble_eq_true rfl⟩ rfl hl.1 rfl (Nat.le_of_ble_eq_true rfl) dX8_readAll_14 (fun H locs w => ?_)
  refine lv_if_ne (tgt := 22) hx hb dX8_readAll_17 (by decide) (fun c6 => ?_) (fun c6 => ?_)
  · have e0 := itn _ c6 e0
    refine lv_aload_n hx hb dX8_readAll_22 rfl (lv_at hl 0 rfl) ?_
    refine lv_aload_n hx hb dX8_readAll_23 rfl (lv_at hl 0 rfl) ?_
    refine lv_iload_n hx hb dX8_readAll_24 rfl (lv_at hl 1 rfl) ?_
    refine lv_iconst (v := 1) hx hb dX8_readAll_25 (by decide) ?_
    refine lv_iconst (v := 4) hx hb dX8_readAll_26 (by decide) ?_
    refine bd e0 (fun z3 e4 e0 => ?_)
    refine m_calli X w (n := 3) (As := [.int a1, .int 1, .int 4]) (rest := [.ref h]) (fX8_digit_met l _ _ _ _ _ _ _ _ _ _ _ _ e4) gX8_readAll_X8_digit rfl rfl rfl (by decide +kernel) ⟨Nat.le_of_ble_eq_true rfl, Nat.le_of_ble_eq_true rfl⟩ rfl hl.1 rfl (Nat.le_of_ble_eq_true rfl) dX8_readAll_27 (fun H locs w => ?_)
    refine m_put X w 15 (by decide) (index := 138) rfl rfl (by decide +kernel) (by decide +kernel) (mps15 _ _ _) dX8_readAll_30 (fun H locs w => ?_)
    refine lv_aload_n hx hb dX8_readAll_33 rfl (lv_at hl 0 rfl) ?_
    refine m_get X w 15 (by decide) (index := 138) rfl (by decide +kernel) (mfi15 _ _) dX8_readAll_34 ?_
    refine lv_bipush (v := (-9)) hx hb dX8_readAll_37 (by decide) ?_
    refine lv_icmp_ne (tgt := 44) hx hb dX8_readAll_39 (by decide) (fun c5 => ?_) (fun c5 => ?_)
    · have e0 := itn _ c5 e0
      exact fX8_readAll_b44_w (l := l) X hr n _ _ _ _ _ _ w (lv_sub hl [0, 1] rfl) e0
    · have e0 := itp _ c5 e0
      refine lv_iconst (v := 0) hx hb dX8_readAll_42 (by decide) ?_
      have e0 := Option.some.inj e0
      subst e0
      exact m_zret X w hr rfl dX8_readAll_43
  · have e0 := itp _ c6 e0
    refine lv_iconst (v := 0) hx hb dX8_readAll_20 (by decide) ?_
    have e0 := Option.some.inj e0
    subst e0
    exact m_zret X w hr rfl dX8_readAll_21
set_option maxRecDepth 20000 in
theorem fX8_readAll_met (l : Launch) (D : va_G) (y : ClassId) (h : Nat) (q : Nat → Nat) (sz n : Nat) (a1 : Int32) (I : Nat → Int32) (R : Nat → Nat → Int32) (z : Int32 × mSt) (e0 : fX8_readAll n a1 I R = some z) : Met l yX8_readAll wsX8_readAll rmX8_readAll (va_Pc [.ref h, .int a1] (mPre D y h q sz I R)) (mQi D y h q (mS y h q sz) z) 0 0 (mS y h q sz) := by
  refine Met.ofW (cc := cX8_readAll) (maxL := 2) (ret := some .boolean) (by decide) rfl ?_
  intro p e s m args below meth c s₁ B hml hv
  obtain ⟨rfl, hsz, hP, hK, hD⟩ := hv
  subst hsz
  have hl := lv_entry ([.ref h, .int a1]) (n := 2) (Nat.le_of_ble_eq_true rfl)
  rw [lg_entry_eq]
  exact fX8_readAll_w (s := s) ⟨⟨B.exec, B.bytes, hml, findClass_of_methodNamed B.named, atoms_spec (ws := wsX8_readAll) B.pre⟩, fun _ h9 => List.mem_cons_of_mem _ (List.mem_append_right _ h9), hK⟩ ⟨B.returns, B.notSynchronized⟩ ⟨hP, mS_D hD, va_S.rf⟩ hl e0
