def rmX8_odds : Room := { frames := 4, cells := 0, slots := 0, locals := 93 }
def fX8_odds (n : Nat) (a1 : Int32) (a2 : Int32) (I : Nat → Int32) (R : Nat → Nat → Int32) : Option (Int64 × mSt) :=
  (fX8_isRelation n a1 I R).bind fun z1 =>
  if z1.1 = 0 then
    some ((-9223372036854775808), z1.2.1, z1.2.2)
  else
    (fX8_within n a2 0 1).bind fun z3 =>
    if z3 = 0 then
      some ((-9223372036854775808), z1.2.1, z1.2.2)
    else
      (fX8_findHolds n z1.2.1 z1.2.2).bind fun z5 =>
      (fX8_countHeld n a1 z5.1 z5.2).bind fun z7 =>
      (fX8_inLeastTerms n ((z7.1).toInt64) 16 a2).bind fun z9 =>
      some (z9, z7.2.1, z7.2.2)
set_option maxRecDepth 20000 in
set_option maxHeartbeats 1000000 in
theorem fX8_odds_w {p : Program} {l : Launch} {e : Env} {s : State} {m : MethodId} {args : Array Value} {below : List Frame} {meth : Method} {c : Code} {D : va_G} {y : ClassId} {h : Nat} {q : Nat → Nat} {n : Nat} {z : Int64 × mSt} (X : mX p s m args c cX8_odds 3 wsX8_odds D y) (hr : meth.sig.returnType = some .long ∧ meth.locks = false) {a1 : Int32} {a2 : Int32} {I : Nat → Int32} {R : Nat → Nat → Int32} {H : Heap} {locs : List Loc} {ls : Array Slot} (w : mH s D y h q H locs I R) (hl : lv_has ls 3 [(0, .ref h), (1, .int a1), (2, .int a2)]) (e0 : fX8_odds n a1 a2 I R = some z) : W p l e rmX8_odds s m args below meth c H locs 0 0 (MQ below (mQl D y h q (mS y h q s.heap.size) z) args s 0 0 (mS y h q s.heap.size)) (F0 m 0 ls []) := by
  have hx := X.1.1
  have hb := X.1.2.1
  unfold fX8_odds at e0
  refine lv_aload_n hx hb dX8_odds_0 rfl (lv_at hl 0 rfl) ?_
  refine lv_iload_n hx hb dX8_odds_1 rfl (lv_at hl 1 rfl) ?_
  refine bd e0 (fun z1 e2 e0 => ?_)
  refine m_calli X w (n := 1) (As := [.int a1]) (rest := []) (fX8_isRelation_met l _ _ _ _ _ _ _ _ _ _ e2) gX8_odds_X8_isRelation rfl rfl rfl (by decide +kernel) ⟨Nat.le_of_ble_eq_true rfl, Nat.le_of_ble_eq_true rfl⟩ rfl hl.1 rfl (Nat.le_of_ble_eq_true rfl) dX8_odds_2 (fun H locs w => ?_)
  refine lv_if_eq (tgt := 17) hx hb dX8_odds_5 (by decide) (fun c12 => ?_) (fun c12 => ?_)
  · have e0 := itp _ c12 e0
    refine lv_ldc2 (own := RX8) (v := (-9223372036854775808)) hx hb X.1.2.2.2.1 (X.1.2.2.2.2 _ (by decide +kernel)) dX8_odds_17 ?_
    have e0 := Option.some.inj e0
    subst e0
    exact m_lret X w hr dX8_odds_20
  · have e0 := itn _ c12 e0
    refine lv_iload_n hx hb dX8_odds_8 rfl (lv_at hl 2 rfl) ?_
    refine lv_iconst (v := 0) hx hb dX8_odds_9 (by decide) ?_
    refine lv_iconst (v := 1) hx hb dX8_odds_10 (by decide) ?_
    refine bd e0 (fun z3 e4 e0 => ?_)
    refine m_callsi X w (n := 3) (As := [.int a2, .int 0, .int 1]) (rest := []) (fX8_within_met l _ _ _ _ _ e4) gX8_odds_X8_within rfl rfl rfl (by decide +kernel) ⟨Nat.le_of_ble_eq_true rfl, Nat.le_of_ble_eq_true rfl⟩ rfl hl.1 rfl (Nat.le_of_ble_eq_true rfl) dX8_odds_11 (fun H locs w => ?_)
    refine lv_if_ne (tgt := 21) hx hb dX8_odds_14 (by decide) (fun c11 => ?_) (fun c11 => ?_)
    · have e0 := itn _ c11 e0
      refine lv_aload_n hx hb dX8_odds_21 rfl (lv_at hl 0 rfl) ?_
      refine bd e0 (fun z5 e6 e0 => ?_)
      refine m_callv X w (n := 0) (As := []) (rest := []) (fX8_findHolds_met l _ _ _ _ _ _  _ _ _ e6) gX8_odds_X8_findHolds rfl rfl rfl (by decide +kernel) ⟨Nat.le_of_ble_eq_true rfl, Nat.le_of_ble_eq_true rfl⟩ rfl hl.1 rfl (Nat.le_of_ble_eq_true rfl) dX8_odds_22 (fun H locs w => ?_)
      refine lv_aload_n hx hb dX8_odds_25 rfl (lv_at hl 0 rfl) ?_
      refine lv_iload_n hx hb dX8_odds_26 rfl (lv_at hl 1 rfl) ?_
      refine bd e0 (fun z7 e8 e0 => ?_)
      refine m_calli X w (n := 1) (As := [.int a1]) (rest := []) (fX8_countHeld_met l _ _ _ _ _ _ _ _ _ _ e8) gX8_odds_X8_countHeld rfl rfl rfl (by decide +kernel) ⟨Nat.le_of_ble_eq_true rfl, Nat.le_of_ble_eq_true rfl⟩ rfl hl.1 rfl (Nat.le_of_ble_eq_true rfl) dX8_odds_27 (fun H locs w => ?_)
      refine lv_i2l (v := ((z7.1).toInt64)) hx hb dX8_odds_30 rfl ?_
      refine lv_ldc2 (own := RX8) (v := 16) hx hb X.1.2.2.2.1 (X.1.2.2.2.2 _ (by decide +kernel)) dX8_odds_31 ?_
      refine lv_iload_n hx hb dX8_odds_34 rfl (lv_at hl 2 rfl) ?_
      refine bd e0 (fun z9 e10 e0 => ?_)
      refine m_callsl X w (n := 3) (As := [.long ((z7.1).toInt64), .long 16, .int a2]) (rest := []) (fX8_inLeastTerms_met l _ _ _ _ _ e10) gX8_odds_X8_inLeastTerms rfl rfl rfl (by decide +kernel) ⟨Nat.le_of_ble_eq_true rfl, Nat.le_of_ble_eq_true rfl⟩ rfl hl.1 rfl (Nat.le_of_ble_eq_true rfl) dX8_odds_35 (fun H locs w => ?_)
      have e0 := Option.some.inj e0
      subst e0
      exact m_lret X w hr dX8_odds_38
    · have e0 := itp _ c11 e0
      refine lv_ldc2 (own := RX8) (v := (-9223372036854775808)) hx hb X.1.2.2.2.1 (X.1.2.2.2.2 _ (by decide +kernel)) dX8_odds_17 ?_
      have e0 := Option.some.inj e0
      subst e0
      exact m_lret X w hr dX8_odds_20
set_option maxRecDepth 20000 in
theorem fX8_odds_met (l : Launch) (D : va_G) (y : ClassId) (h : Nat) (q : Nat → Nat) (sz n : Nat) (a1 : Int32) (a2 : Int32) (I : Nat → Int32) (R : Nat → Nat → Int32) (z : Int64 × mSt) (e0 : fX8_odds n a1 a2 I R = some z) : Met l yX8_odds wsX8_odds rmX8_odds (va_Pc [.ref h, .int a1, .int a2] (mPre D y h q sz I R)) (mQl D y h q (mS y h q sz) z) 0 0 (mS y h q sz) := by
  refine Met.ofW (cc := cX8_odds) (maxL := 3) (ret := some .long) (by decide) rfl ?_
  intro p e s m args below meth c s₁ B hml hv
  obtain ⟨rfl, hsz, hP, hK, hD⟩ := hv
  subst hsz
  have hl := lv_entry ([.ref h, .int a1, .int a2]) (n := 3) (Nat.le_of_ble_eq_true rfl)
  rw [lg_entry_eq]
  exact fX8_odds_w (s := s) ⟨⟨B.exec, B.bytes, hml, findClass_of_methodNamed B.named, atoms_spec (ws := wsX8_odds) B.pre⟩, fun _ h9 => List.mem_cons_of_mem _ (List.mem_append_right _ h9), hK⟩ ⟨B.returns, B.notSynchronized⟩ ⟨hP, mS_D hD, va_S.rf⟩ hl e0
def rmX8_sheet : Room := { frames := 2, cells := 0, slots := 0, locals := 42 }
def fX8_sheet_b57 (n : Nat) : Nat → Int32 → Int32 → (Nat → Int32) → (Nat → Nat → Int32) → Option (Int32 × mSt)
  | 0, _, _, _, _ => none
  | j + 1, a1, a4, I, R =>
    if 60 ≤ a4 then
      some (1, I, R)
    else
      if inb ((60 * a1) + a4) 240 = true then
      fX8_sheet_b57 n j a1 (a4 + 1) I (setA R 4 ((60 * a1) + a4) 0)
      else none
set_option maxRecDepth 20000 in
set_option maxHeartbeats 1000000 in
theorem fX8_sheet_b57_w {p : Program} {l : Launch} {e : Env} {s : State} {m : MethodId} {args : Array Value} {below : List Frame} {meth : Method} {c : Code} {D : va_G} {y : ClassId} {h : Nat} {q : Nat → Nat} {n : Nat} {z : Int32 × mSt} (X : mX p s m args c cX8_sheet 5 wsX8_sheet D y) (hr : meth.sig.returnType = some .int ∧ meth.locks = false) : ∀ (j : Nat) (a1 : Int32) (a4 : Int32) (I : Nat → Int32) (R : Nat → Nat → Int32) (H : Heap) (locs : List Loc) (ls : Array Slot), mH s D y h q H locs I R → lv_has ls 5 [(0, .ref h), (1, .int a1), (4, .int a4)] → fX8_sheet_b57 n j a1 a4 I R = some z → W p l e rmX8_sheet s m args below meth c H locs 0 0 (MQ below (mQi D y h q (mS y h q s.heap.size) z) args s 0 0 (mS y h q s.heap.size)) (F0 m 57 ls []) := by
  have hx := X.1.1
  have hb := X.1.2.1
  intro j
  induction j with
  | zero =>
    intro a1 a4 I R H locs ls w hl e0
    cases e0
  | succ j ih =>
    intro a1 a4 I R H locs ls w hl e0
    rw [fX8_sheet_b57] at e0
    refine lv_iload hx hb dX8_sheet_57 (lv_at hl 2 rfl) ?_
    refine lv_bipush (v := 60) hx hb dX8_sheet_59 (by decide) ?_
    refine lv_icmp_ge (tgt := 83) hx hb dX8_sheet_61 (by decide) (fun c14 => ?_) (fun c14 => ?_)
    · have e0 := itp _ c14 e0
      refine lv_iconst (v := 1) hx hb dX8_sheet_83 (by decide) ?_
      have e0 := Option.some.inj e0
      subst e0
      exact m_iret X w hr dX8_sheet_84
    · have e0 := itn _ c14 e0
      refine lv_aload_n hx hb dX8_sheet_64 rfl (lv_at hl 0 rfl) ?_
      refine m_get X w 4 (by decide) (index := 16) rfl (by decide +kernel) (mfr4 _ _) dX8_sheet_65 ?_
      refine lv_bipush (v := 60) hx hb dX8_sheet_68 (by decide) ?_
      refine lv_iload_n hx hb dX8_sheet_70 rfl (lv_at hl 1 rfl) ?_
      refine lv_imul hx hb dX8_sheet_71 ?_
      refine lv_iload hx hb dX8_sheet_72 (lv_at hl 2 rfl) ?_
      refine lv_iadd hx hb dX8_sheet_74 ?_
      refine lv_iconst (v := 0) hx hb dX8_sheet_75 (by decide) ?_
      refine gd e0 (fun g13 e0 => ?_)
      refine m_ast X w 3 4 (mat4 _ _ _ _ _) (mset4 _ _ _ _ _) g13 dX8_sheet_76 (fun H locs w => ?_)
      refine lv_iinc (v := (a4 + 1)) (lv' := [(4, .int (a4 + 1)), (0, .ref h), (1, .int a1)]) hx hb dX8_sheet_77 hl (k := 2) rfl rfl (by decide) rfl (fun ls hl => ?_)
      refine lv_goto (tgt := 57) hx hb dX8_sheet_80 (by decide) ?_
      exact ih _ _ _ _ _ _ _ w (lv_sub hl [1, 2, 0] rfl) e0
def fX8_sheet (n : Nat) (a1 : Int32) (a2 : Int32) (a3 : Int32) (I : Nat → Int32) (R : Nat → Nat → Int32) : Option (Int32 × mSt) :=
  (fX8_isSheet n a1).bind fun z1 =>
  if z1 = 0 then
    some ((-1), (upd I 0 0), R)
  else
    (fX8_isSort n a2).bind fun z3 =>
    if z3 = 0 then
      some ((-2), (upd I 0 0), R)
    else
      if a3 ≤ 60 then
        if 0 ≤ a3 then
          if inb a1 4 = true then
          if inb a1 4 = true then
          fX8_sheet_b57 n n a1 0 (upd I 0 0) (setA (setA R 2 a1 a2) 3 a1 a3)
          else none
          else none
        else
          (fX8_fails n 4 (upd I 0 0) R).bind fun z7 =>
          some (z7.1, z7.2.1, z7.2.2)
      else
        some ((-2), (upd I 0 0), R)
set_option maxRecDepth 20000 in
set_option maxHeartbeats 1000000 in
theorem fX8_sheet_w {p : Program} {l : Launch} {e : Env} {s : State} {m : MethodId} {args : Array Value} {below : List Frame} {meth : Method} {c : Code} {D : va_G} {y : ClassId} {h : Nat} {q : Nat → Nat} {n : Nat} {z : Int32 × mSt} (X : mX p s m args c cX8_sheet 5 wsX8_sheet D y) (hr : meth.sig.returnType = some .int ∧ meth.locks = false) {a1 : Int32} {a2 : Int32} {a3 : Int32} {I : Nat → Int32} {R : Nat → Nat → Int32} {H : Heap} {locs : List Loc} {ls : Array Slot} (w : mH s D y h q H locs I R) (hl : lv_has ls 5 [(0, .ref h), (1, .int a1), (2, .int a2), (3, .int a3)]) (e0 : fX8_sheet n a1 a2 a3 I R = some z) : W p l e rmX8_sheet s m args below meth c H locs 0 0 (MQ below (mQi D y h q (mS y h q s.heap.size) z) args s 0 0 (mS y h q s.heap.size)) (F0 m 0 ls []) := by
  have hx := X.1.1
  have hb := X.1.2.1
  unfold fX8_sheet at e0
  refine lv_aload_n hx hb dX8_sheet_0 rfl (lv_at hl 0 rfl) ?_
  refine lv_iconst (v := 0) hx hb dX8_sheet_1 (by decide) ?_
  refine m_put X w 0 (by decide) (index := 82) rfl rfl (by decide +kernel) (by decide +kernel) (mps0 _ _ _) dX8_sheet_2 (fun H locs w => ?_)
  refine lv_iload_n hx hb dX8_sheet_5 rfl (lv_at hl 1 rfl) ?_
  refine bd e0 (fun z1 e2 e0 => ?_)
  refine m_callsi X w (n := 1) (As := [.int a1]) (rest := []) (fX8_isSheet_met l _ _ _ e2) gX8_sheet_X8_isSheet rfl rfl rfl (by decide +kernel) ⟨Nat.le_of_ble_eq_true rfl, Nat.le_of_ble_eq_true rfl⟩ rfl hl.1 rfl (Nat.le_of_ble_eq_true rfl) dX8_sheet_6 (fun H locs w => ?_)
  refine lv_if_ne (tgt := 14) hx hb dX8_sheet_9 (by decide) (fun c12 => ?_) (fun c12 => ?_)
  · have e0 := itn _ c12 e0
    refine lv_iload_n hx hb dX8_sheet_14 rfl (lv_at hl 2 rfl) ?_
    refine bd e0 (fun z3 e4 e0 => ?_)
    refine m_callsi X w (n := 1) (As := [.int a2]) (rest := []) (fX8_isSort_met l _ _ _ e4) gX8_sheet_X8_isSort rfl rfl rfl (by decide +kernel) ⟨Nat.le_of_ble_eq_true rfl, Nat.le_of_ble_eq_true rfl⟩ rfl hl.1 rfl (Nat.le_of_ble_eq_true rfl) dX8_sheet_15 (fun H locs w => ?_)
    refine lv_if_eq (tgt := 27) hx hb dX8_sheet_18 (by decide) (fun c11 => ?_) (fun c11 => ?_)
    · have e0 := itp _ c11 e0
      refine lv_bipush (v := (-2)) hx hb dX8_sheet_27 (by decide) ?_
      have e0 := Option.some.inj e0
      subst e0
      exact m_iret X w hr dX8_sheet_29
    · have e0 := itn _ c11 e0
      refine lv_iload_n hx hb dX8_sheet_21 rfl (lv_at hl 3 rfl) ?_
      refine lv_bipush (v := 60) hx hb dX8_sheet_22 (by decide) ?_
      refine lv_icmp_le (tgt := 30) hx hb dX8_sheet_24 (by decide) (fun c10 => ?_) (fun c10 => ?_)
      · have e0 := itp _ c10 e0
        refine lv_iload_n hx hb dX8_sheet_30 rfl (lv_at hl 3 rfl) ?_
        refine lv_if_ge (tgt := 40) hx hb dX8_sheet_31 (by decide) (fun c9 => ?_) (fun c9 => ?_)
        · have e0 := itp _ c9 e0
          refine lv_aload_n hx hb dX8_sheet_40 rfl (lv_at hl 0 rfl) ?_
          refine m_get X w 2 (by decide) (index := 9) rfl (by decide +kernel) (mfr2 _ _) dX8_sheet_41 ?_
          refine lv_iload_n hx hb dX8_sheet_44 rfl (lv_at hl 1 rfl) ?_
          refine lv_iload_n hx hb dX8_sheet_45 rfl (lv_at hl 2 rfl) ?_
          refine gd e0 (fun g5 e0 => ?_)
          refine m_ast X w 1 2 (mat2 _ _ _ _ _) (mset2 _ _ _ _ _) g5 dX8_sheet_46 (fun H locs w => ?_)
          refine lv_aload_n hx hb dX8_sheet_47 rfl (lv_at hl 0 rfl) ?_
          refine m_get X w 3 (by decide) (index := 13) rfl (by decide +kernel) (mfr3 _ _) dX8_sheet_48 ?_
          refine lv_iload_n hx hb dX8_sheet_51 rfl (lv_at hl 1 rfl) ?_
          refine lv_iload_n hx hb dX8_sheet_52 rfl (lv_at hl 3 rfl) ?_
          refine gd e0 (fun g6 e0 => ?_)
          refine m_ast X w 2 3 (mat3 _ _ _ _ _) (mset3 _ _ _ _ _) g6 dX8_sheet_53 (fun H locs w => ?_)
          refine lv_iconst (v := 0) hx hb dX8_sheet_54 (by decide) ?_
          refine lv_istore (lv' := [(4, .int 0), (0, .ref h), (1, .int a1), (2, .int a2), (3, .int a3)]) hx hb dX8_sheet_55 hl (by decide) rfl (fun ls hl => ?_)
          exact fX8_sheet_b57_w (l := l) X hr n _ _ _ _ _ _ _ w (lv_sub hl [1, 2, 0] rfl) e0
        · have e0 := itn _ c9 e0
          refine lv_aload_n hx hb dX8_sheet_34 rfl (lv_at hl 0 rfl) ?_
          refine lv_iconst (v := 4) hx hb dX8_sheet_35 (by decide) ?_
          refine bd e0 (fun z7 e8 e0 => ?_)
          refine m_calli X w (n := 1) (As := [.int 4]) (rest := []) (fX8_fails_met l _ _ _ _ _ _ _ _ _ _ e8) gX8_sheet_X8_fails rfl rfl rfl (by decide +kernel) ⟨Nat.le_of_ble_eq_true rfl, Nat.le_of_ble_eq_true rfl⟩ rfl hl.1 rfl (Nat.le_of_ble_eq_true rfl) dX8_sheet_36 (fun H locs w => ?_)
          have e0 := Option.some.inj e0
          subst e0
          exact m_iret X w hr dX8_sheet_39
      · have e0 := itn _ c10 e0
        refine lv_bipush (v := (-2)) hx hb dX8_sheet_27 (by decide) ?_
        have e0 := Option.some.inj e0
        subst e0
        exact m_iret X w hr dX8_sheet_29
  · have e0 := itp _ c12 e0
    refine lv_iconst (v := (-1)) hx hb dX8_sheet_12 (by decide) ?_
    have e0 := Option.some.inj e0
    subst e0
    exact m_iret X w hr dX8_sheet_13
set_option maxRecDepth 20000 in
theorem fX8_sheet_met (l : Launch) (D : va_G) (y : ClassId) (h : Nat) (q : Nat → Nat) (sz n : Nat) (a1 : Int32) (a2 : Int32) (a3 : Int32) (I : Nat → Int32) (R : Nat → Nat → Int32) (z : Int32 × mSt) (e0 : fX8_sheet n a1 a2 a3 I R = some z) : Met l yX8_sheet wsX8_sheet rmX8_sheet (va_Pc [.ref h, .int a1, .int a2, .int a3] (mPre D y h q sz I R)) (mQi D y h q (mS y h q sz) z) 0 0 (mS y h q sz) := by
  refine Met.ofW (cc := cX8_sheet) (maxL := 5) (ret := some .int) (by decide) rfl ?_
  intro p e s m args below meth c s₁ B hml hv
  obtain ⟨rfl, hsz, hP, hK, hD⟩ := hv
  subst hsz
  have hl := lv_entry ([.ref h, .int a1, .int a2, .int a3]) (n := 5) (Nat.le_of_ble_eq_true rfl)
  rw [lg_entry_eq]
  exact fX8_sheet_w (s := s) ⟨⟨B.exec, B.bytes, hml, findClass_of_methodNamed B.named, atoms_spec (ws := wsX8_sheet) B.pre⟩, fun _ h9 => List.mem_cons_of_mem _ (List.mem_append_right _ h9), hK⟩ ⟨B.returns, B.notSynchronized⟩ ⟨hP, mS_D hD, va_S.rf⟩ hl e0
def rmX8_lose : Room := { frames := 2, cells := 0, slots := 0, locals := 42 }
def fX8_lose_b25 (n : Nat) (a1 : Int32) (t0 : Int32) (I : Nat → Int32) (R : Nat → Nat → Int32) : Option (Int32 × mSt) :=
  if inb a1 4 = true then
  some (t0, I, (setA R 2 a1 (-9)))
  else none
set_option maxRecDepth 20000 in
set_option maxHeartbeats 1000000 in
theorem fX8_lose_b25_w {p : Program} {l : Launch} {e : Env} {s : State} {m : MethodId} {args : Array Value} {below : List Frame} {meth : Method} {c : Code} {D : va_G} {y : ClassId} {h : Nat} {q : Nat → Nat} {n : Nat} {z : Int32 × mSt} (X : mX p s m args c cX8_lose 3 wsX8_lose D y) (hr : meth.sig.returnType = some .int ∧ meth.locks = false) {a1 : Int32} {t0 : Int32} {I : Nat → Int32} {R : Nat → Nat → Int32} {H : Heap} {locs : List Loc} {ls : Array Slot} (w : mH s D y h q H locs I R) (hl : lv_has ls 3 [(0, .ref h), (1, .int a1)]) (e0 : fX8_lose_b25 n a1 t0 I R = some z) : W p l e rmX8_lose s m args below meth c H locs 0 0 (MQ below (mQi D y h q (mS y h q s.heap.size) z) args s 0 0 (mS y h q s.heap.size)) (F0 m 25 ls [.int t0]) := by
  have hx := X.1.1
  have hb := X.1.2.1
  unfold fX8_lose_b25 at e0
  refine lv_istore_n (lv' := [(2, .int t0), (0, .ref h), (1, .int a1)]) hx hb dX8_lose_25 rfl hl (by decide) rfl (fun ls hl => ?_)
  refine lv_aload_n hx hb dX8_lose_26 rfl (lv_at hl 1 rfl) ?_
  refine m_get X w 2 (by decide) (index := 9) rfl (by decide +kernel) (mfr2 _ _) dX8_lose_27 ?_
  refine lv_iload_n hx hb dX8_lose_30 rfl (lv_at hl 2 rfl) ?_
  refine lv_bipush (v := (-9)) hx hb dX8_lose_31 (by decide) ?_
  refine gd e0 (fun g6 e0 => ?_)
  refine m_ast X w 1 2 (mat2 _ _ _ _ _) (mset2 _ _ _ _ _) g6 dX8_lose_33 (fun H locs w => ?_)
  refine lv_iload_n hx hb dX8_lose_34 rfl (lv_at hl 0 rfl) ?_
  have e0 := Option.some.inj e0
  subst e0
  exact m_iret X w hr dX8_lose_35
def fX8_lose (n : Nat) (a1 : Int32) (I : Nat → Int32) (R : Nat → Nat → Int32) : Option (Int32 × mSt) :=
  (fX8_isSheet n a1).bind fun z1 =>
  if z1 = 0 then
    some ((-1), I, R)
  else
    if inb a1 4 = true then
    if (getA R 2 a1) = (-9) then
      fX8_lose_b25 n a1 0 I R
    else
      fX8_lose_b25 n a1 1 I R
    else none
set_option maxRecDepth 20000 in
set_option maxHeartbeats 1000000 in
theorem fX8_lose_w {p : Program} {l : Launch} {e : Env} {s : State} {m : MethodId} {args : Array Value} {below : List Frame} {meth : Method} {c : Code} {D : va_G} {y : ClassId} {h : Nat} {q : Nat → Nat} {n : Nat} {z : Int32 × mSt} (X : mX p s m args c cX8_lose 3 wsX8_lose D y) (hr : meth.sig.returnType = some .int ∧ meth.locks = false) {a1 : Int32} {I : Nat → Int32} {R : Nat → Nat → Int32} {H : Heap} {locs : List Loc} {ls : Array Slot} (w : mH s D y h q H locs I R) (hl : lv_has ls 3 [(0, .ref h), (1, .int a1)]) (e0 : fX8_lose n a1 I R = some z) : W p l e rmX8_lose s m args below meth c H locs 0 0 (MQ below (mQi D y h q (mS y h q s.heap.size) z) args s 0 0 (mS y h q s.heap.size)) (F0 m 0 ls []) := by
  have hx := X.1.1
  have hb := X.1.2.1
  unfold fX8_lose at e0
  refine lv_iload_n hx hb dX8_lose_0 rfl (lv_at hl 1 rfl) ?_
  refine bd e0 (fun z1 e2 e0 => ?_)
  refine m_callsi X w (n := 1) (As := [.int a1]) (rest := []) (fX8_isSheet_met l _ _ _ e2) gX8_lose_X8_isSheet rfl rfl rfl (by decide +kernel) ⟨Nat.le_of_ble_eq_true rfl, Nat.le_of_ble_eq_true rfl⟩ rfl hl.1 rfl (Nat.le_of_ble_eq_true rfl) dX8_lose_1 (fun H locs w => ?_)
  refine lv_if_ne (tgt := 9) hx hb dX8_lose_4 (by decide) (fun c5 => ?_) (fun c5 => ?_)
  · have e0 := itn _ c5 e0
    refine lv_aload_n hx hb dX8_lose_9 rfl (lv_at hl 0 rfl) ?_
    refine m_get X w 2 (by decide) (index := 9) rfl (by decide +kernel) (mfr2 _ _) dX8_lose_10 ?_
    refine lv_iload_n hx hb dX8_lose_13 rfl (lv_at hl 1 rfl) ?_
    refine gd e0 (fun g3 e0 => ?_)
    refine m_ald X w 1 2 (mat2 _ _ _ _ _) g3 dX8_lose_14 ?_
    refine lv_bipush (v := (-9)) hx hb dX8_lose_15 (by decide) ?_
    refine lv_icmp_ne (tgt := 24) hx hb dX8_lose_17 (by decide) (fun c4 => ?_) (fun c4 => ?_)
    · have e0 := itn _ c4 e0
      refine lv_iconst (v := 1) hx hb dX8_lose_24 (by decide) ?_
      exact fX8_lose_b25_w (l := l) X hr w (lv_sub hl [0, 1] rfl) e0
    · have e0 := itp _ c4 e0
      refine lv_iconst (v := 0) hx hb dX8_lose_20 (by decide) ?_
      refine lv_goto (tgt := 25) hx hb dX8_lose_21 (by decide) ?_
      exact fX8_lose_b25_w (l := l) X hr w (lv_sub hl [0, 1] rfl) e0
  · have e0 := itp _ c5 e0
    refine lv_iconst (v := (-1)) hx hb dX8_lose_7 (by decide) ?_
    have e0 := Option.some.inj e0
    subst e0
    exact m_iret X w hr dX8_lose_8
set_option maxRecDepth 20000 in
theorem fX8_lose_met (l : Launch) (D : va_G) (y : ClassId) (h : Nat) (q : Nat → Nat) (sz n : Nat) (a1 : Int32) (I : Nat → Int32) (R : Nat → Nat → Int32) (z : Int32 × mSt) (e0 : fX8_lose n a1 I R = some z) : Met l yX8_lose wsX8_lose rmX8_lose (va_Pc [.ref h, .int a1] (mPre D y h q sz I R)) (mQi D y h q (mS y h q sz) z) 0 0 (mS y h q sz) := by
  refine Met.ofW (cc := cX8_lose) (maxL := 3) (ret := some .int) (by decide) rfl ?_
  intro p e s m args below meth c s₁ B hml hv
  obtain ⟨rfl, hsz, hP, hK, hD⟩ := hv
  subst hsz
  have hl := lv_entry ([.ref h, .int a1]) (n := 3) (Nat.le_of_ble_eq_true rfl)
  rw [lg_entry_eq]
  exact fX8_lose_w (s := s) ⟨⟨B.exec, B.bytes, hml, findClass_of_methodNamed B.named, atoms_spec (ws := wsX8_lose) B.pre⟩, fun _ h9 => List.mem_cons_of_mem _ (List.mem_append_right _ h9), hK⟩ ⟨B.returns, B.notSynchronized⟩ ⟨hP, mS_D hD, va_S.rf⟩ hl e0
def rmX8_put : Room := { frames := 2, cells := 0, slots := 0, locals := 42 }
def fX8_put_b93 (n : Nat) (t0 : Int32) (t1 : Int32) (I : Nat → Int32) (R : Nat → Nat → Int32) : Option (Int32 × mSt) :=
  if inb t1 240 = true then
  some (1, I, (setA R 4 t1 t0))
  else none
set_option maxRecDepth 20000 in
set_option maxHeartbeats 1000000 in
theorem fX8_put_b93_w {p : Program} {l : Launch} {e : Env} {s : State} {m : MethodId} {args : Array Value} {below : List Frame} {meth : Method} {c : Code} {D : va_G} {y : ClassId} {h : Nat} {q : Nat → Nat} {n : Nat} {z : Int32 × mSt} (X : mX p s m args c cX8_put 4 wsX8_put D y) (hr : meth.sig.returnType = some .int ∧ meth.locks = false) {t0 : Int32} {t1 : Int32} {I : Nat → Int32} {R : Nat → Nat → Int32} {H : Heap} {locs : List Loc} {ls : Array Slot} (w : mH s D y h q H locs I R) (hl : lv_has ls 4 [(0, .ref h)]) (e0 : fX8_put_b93 n t0 t1 I R = some z) : W p l e rmX8_put s m args below meth c H locs 0 0 (MQ below (mQi D y h q (mS y h q s.heap.size) z) args s 0 0 (mS y h q s.heap.size)) (F0 m 93 ls [.int t0, .int t1, .ref (q 4)]) := by
  have hx := X.1.1
  have hb := X.1.2.1
  unfold fX8_put_b93 at e0
  refine gd e0 (fun g18 e0 => ?_)
  refine m_ast X w 3 4 (mat4 _ _ _ _ _) (mset4 _ _ _ _ _) g18 dX8_put_93 (fun H locs w => ?_)
  refine lv_iconst (v := 1) hx hb dX8_put_94 (by decide) ?_
  have e0 := Option.some.inj e0
  subst e0
  exact m_iret X w hr dX8_put_95
def fX8_put (n : Nat) (a1 : Int32) (a2 : Int32) (a3 : Int32) (I : Nat → Int32) (R : Nat → Nat → Int32) : Option (Int32 × mSt) :=
  (fX8_isSheet n a1).bind fun z1 =>
  if z1 = 0 then
    some ((-1), (upd I 0 0), R)
  else
    if inb a1 4 = true then
    if (getA R 2 a1) = (-9) then
      (fX8_fails n 1 (upd I 0 0) R).bind fun z14 =>
      some (z14.1, z14.2.1, z14.2.2)
    else
      if inb a1 4 = true then
      (fX8_within n a2 0 ((getA R 3 a1) - 1)).bind fun z5 =>
      if z5 = 0 then
        (fX8_fails n 3 (upd I 0 0) R).bind fun z11 =>
        some (z11.1, z11.2.1, z11.2.2)
      else
        if inb a1 4 = true then
        if (getA R 2 a1) = 0 then
          fX8_put_b93 n ((a3).toInt8.toInt32) ((60 * a1) + a2) (upd I 0 0) R
        else
          if inb a1 4 = true then
          if (getA R 2 a1) = 1 then
            fX8_put_b93 n ((a3).toInt16.toInt32) ((60 * a1) + a2) (upd I 0 0) R
          else
            fX8_put_b93 n a3 ((60 * a1) + a2) (upd I 0 0) R
          else none
        else none
      else none
    else none
set_option maxRecDepth 20000 in
set_option maxHeartbeats 1000000 in
theorem fX8_put_w {p : Program} {l : Launch} {e : Env} {s : State} {m : MethodId} {args : Array Value} {below : List Frame} {meth : Method} {c : Code} {D : va_G} {y : ClassId} {h : Nat} {q : Nat → Nat} {n : Nat} {z : Int32 × mSt} (X : mX p s m args c cX8_put 4 wsX8_put D y) (hr : meth.sig.returnType = some .int ∧ meth.locks = false) {a1 : Int32} {a2 : Int32} {a3 : Int32} {I : Nat → Int32} {R : Nat → Nat → Int32} {H : Heap} {locs : List Loc} {ls : Array Slot} (w : mH s D y h q H locs I R) (hl : lv_has ls 4 [(0, .ref h), (1, .int a1), (2, .int a2), (3, .int a3)]) (e0 : fX8_put n a1 a2 a3 I R = some z) : W p l e rmX8_put s m args below meth c H locs 0 0 (MQ below (mQi D y h q (mS y h q s.heap.size) z) args s 0 0 (mS y h q s.heap.size)) (F0 m 0 ls []) := by
  have hx := X.1.1
  have hb := X.1.2.1
  unfold fX8_put at e0
  refine lv_aload_n hx hb dX8_put_0 rfl (lv_at hl 0 rfl) ?_
  refine lv_iconst (v := 0) hx hb dX8_put_1 (by decide) ?_
  refine m_put X w 0 (by decide) (index := 82) rfl rfl (by decide +kernel) (by decide +kernel) (mps0 _ _ _) dX8_put_2 (fun H locs w => ?_)
  refine lv_iload_n hx hb dX8_put_5 rfl (lv_at hl 1 rfl) ?_
  refine bd e0 (fun z1 e2 e0 => ?_)
  refine m_callsi X w (n := 1) (As := [.int a1]) (rest := []) (fX8_isSheet_met l _ _ _ e2) gX8_put_X8_isSheet rfl rfl rfl (by decide +kernel) ⟨Nat.le_of_ble_eq_true rfl, Nat.le_of_ble_eq_true rfl⟩ rfl hl.1 rfl (Nat.le_of_ble_eq_true rfl) dX8_put_6 (fun H locs w => ?_)
  refine lv_if_ne (tgt := 14) hx hb dX8_put_9 (by decide) (fun c17 => ?_) (fun c17 => ?_)
  · have e0 := itn _ c17 e0
    refine lv_aload_n hx hb dX8_put_14 rfl (lv_at hl 0 rfl) ?_
    refine m_get X w 2 (by decide) (index := 9) rfl (by decide +kernel) (mfr2 _ _) dX8_put_15 ?_
    refine lv_iload_n hx hb dX8_put_18 rfl (lv_at hl 1 rfl) ?_
    refine gd e0 (fun g3 e0 => ?_)
    refine m_ald X w 1 2 (mat2 _ _ _ _ _) g3 dX8_put_19 ?_
    refine lv_bipush (v := (-9)) hx hb dX8_put_20 (by decide) ?_
    refine lv_icmp_ne (tgt := 31) hx hb dX8_put_22 (by decide) (fun c16 => ?_) (fun c16 => ?_)
    · have e0 := itn _ c16 e0
      refine lv_iload_n hx hb dX8_put_31 rfl (lv_at hl 2 rfl) ?_
      refine lv_iconst (v := 0) hx hb dX8_put_32 (by decide) ?_
      refine lv_aload_n hx hb dX8_put_33 rfl (lv_at hl 0 rfl) ?_
      refine m_get X w 3 (by decide) (index := 13) rfl (by decide +kernel) (mfr3 _ _) dX8_put_34 ?_
      refine lv_iload_n hx hb dX8_put_37 rfl (lv_at hl 1 rfl) ?_
      refine gd e0 (fun g4 e0 => ?_)
      refine m_ald X w 2 3 (mat3 _ _ _ _ _) g4 dX8_put_38 ?_
      refine lv_iconst (v := 1) hx hb dX8_put_39 (by decide) ?_
      refine lv_isub hx hb dX8_put_40 ?_
      refine bd e0 (fun z5 e6 e0 => ?_)
      refine m_callsi X w (n := 3) (As := [.int a2, .int 0, .int ((getA R 3 a1) - 1)]) (rest := []) (fX8_within_met l _ _ _ _ _ e6) gX8_put_X8_within rfl rfl rfl (by decide +kernel) ⟨Nat.le_of_ble_eq_true rfl, Nat.le_of_ble_eq_true rfl⟩ rfl hl.1 rfl (Nat.le_of_ble_eq_true rfl) dX8_put_41 (fun H locs w => ?_)
      refine lv_if_ne (tgt := 53) hx hb dX8_put_44 (by decide) (fun c13 => ?_) (fun c13 => ?_)
      · have e0 := itn _ c13 e0
        refine lv_aload_n hx hb dX8_put_53 rfl (lv_at hl 0 rfl) ?_
        refine m_get X w 4 (by decide) (index := 16) rfl (by decide +kernel) (mfr4 _ _) dX8_put_54 ?_
        refine lv_bipush (v := 60) hx hb dX8_put_57 (by decide) ?_
        refine lv_iload_n hx hb dX8_put_59 rfl (lv_at hl 1 rfl) ?_
        refine lv_imul hx hb dX8_put_60 ?_
        refine lv_iload_n hx hb dX8_put_61 rfl (lv_at hl 2 rfl) ?_
        refine lv_iadd hx hb dX8_put_62 ?_
        refine lv_aload_n hx hb dX8_put_63 rfl (lv_at hl 0 rfl) ?_
        refine m_get X w 2 (by decide) (index := 9) rfl (by decide +kernel) (mfr2 _ _) dX8_put_64 ?_
        refine lv_iload_n hx hb dX8_put_67 rfl (lv_at hl 1 rfl) ?_
        refine gd e0 (fun g7 e0 => ?_)
        refine m_ald X w 1 2 (mat2 _ _ _ _ _) g7 dX8_put_68 ?_
        refine lv_if_ne (tgt := 77) hx hb dX8_put_69 (by decide) (fun c10 => ?_) (fun c10 => ?_)
        · have e0 := itn _ c10 e0
          refine lv_aload_n hx hb dX8_put_77 rfl (lv_at hl 0 rfl) ?_
          refine m_get X w 2 (by decide) (index := 9) rfl (by decide +kernel) (mfr2 _ _) dX8_put_78 ?_
          refine lv_iload_n hx hb dX8_put_81 rfl (lv_at hl 1 rfl) ?_
          refine gd e0 (fun g8 e0 => ?_)
          refine m_ald X w 1 2 (mat2 _ _ _ _ _) g8 dX8_put_82 ?_
          refine lv_iconst (v := 1) hx hb dX8_put_83 (by decide) ?_
          refine lv_icmp_ne (tgt := 92) hx hb dX8_put_84 (by decide) (fun c9 => ?_) (fun c9 => ?_)
          · have e0 := itn _ c9 e0
            refine lv_iload_n hx hb dX8_put_92 rfl (lv_at hl 3 rfl) ?_
            exact fX8_put_b93_w (l := l) X hr w (lv_sub hl [0] rfl) e0
          · have e0 := itp _ c9 e0
            refine lv_iload_n hx hb dX8_put_87 rfl (lv_at hl 3 rfl) ?_
            refine lv_i2s (v := ((a3).toInt16.toInt32)) hx hb dX8_put_88 rfl ?_
            refine lv_goto (tgt := 93) hx hb dX8_put_89 (by decide) ?_
            exact fX8_put_b93_w (l := l) X hr w (lv_sub hl [0] rfl) e0
        · have e0 := itp _ c10 e0
          refine lv_iload_n hx hb dX8_put_72 rfl (lv_at hl 3 rfl) ?_
          refine lv_i2b (v := ((a3).toInt8.toInt32)) hx hb dX8_put_73 rfl ?_
          refine lv_goto (tgt := 93) hx hb dX8_put_74 (by decide) ?_
          exact fX8_put_b93_w (l := l) X hr w (lv_sub hl [0] rfl) e0
      · have e0 := itp _ c13 e0
        refine lv_aload_n hx hb dX8_put_47 rfl (lv_at hl 0 rfl) ?_
        refine lv_iconst (v := 3) hx hb dX8_put_48 (by decide) ?_
        refine bd e0 (fun z11 e12 e0 => ?_)
        refine m_calli X w (n := 1) (As := [.int 3]) (rest := []) (fX8_fails_met l _ _ _ _ _ _ _ _ _ _ e12) gX8_put_X8_fails rfl rfl rfl (by decide +kernel) ⟨Nat.le_of_ble_eq_true rfl, Nat.le_of_ble_eq_true rfl⟩ rfl hl.1 rfl (Nat.le_of_ble_eq_true rfl) dX8_put_49 (fun H locs w => ?_)
        have e0 := Option.some.inj e0
        subst e0
        exact m_iret X w hr dX8_put_52
    · have e0 := itp _ c16 e0
      refine lv_aload_n hx hb dX8_put_25 rfl (lv_at hl 0 rfl) ?_
      refine lv_iconst (v := 1) hx hb dX8_put_26 (by decide) ?_
      refine bd e0 (fun z14 e15 e0 => ?_)
      refine m_calli X w (n := 1) (As := [.int 1]) (rest := []) (fX8_fails_met l _ _ _ _ _ _ _ _ _ _ e15) gX8_put_X8_fails rfl rfl rfl (by decide +kernel) ⟨Nat.le_of_ble_eq_true rfl, Nat.le_of_ble_eq_true rfl⟩ rfl hl.1 rfl (Nat.le_of_ble_eq_true rfl) dX8_put_27 (fun H locs w => ?_)
      have e0 := Option.some.inj e0
      subst e0
      exact m_iret X w hr dX8_put_30
  · have e0 := itp _ c17 e0
    refine lv_iconst (v := (-1)) hx hb dX8_put_12 (by decide) ?_
    have e0 := Option.some.inj e0
    subst e0
    exact m_iret X w hr dX8_put_13
set_option maxRecDepth 20000 in
theorem fX8_put_met (l : Launch) (D : va_G) (y : ClassId) (h : Nat) (q : Nat → Nat) (sz n : Nat) (a1 : Int32) (a2 : Int32) (a3 : Int32) (I : Nat → Int32) (R : Nat → Nat → Int32) (z : Int32 × mSt) (e0 : fX8_put n a1 a2 a3 I R = some z) : Met l yX8_put wsX8_put rmX8_put (va_Pc [.ref h, .int a1, .int a2, .int a3] (mPre D y h q sz I R)) (mQi D y h q (mS y h q sz) z) 0 0 (mS y h q sz) := by
  refine Met.ofW (cc := cX8_put) (maxL := 4) (ret := some .int) (by decide) rfl ?_
  intro p e s m args below meth c s₁ B hml hv
  obtain ⟨rfl, hsz, hP, hK, hD⟩ := hv
  subst hsz
  have hl := lv_entry ([.ref h, .int a1, .int a2, .int a3]) (n := 4) (Nat.le_of_ble_eq_true rfl)
  rw [lg_entry_eq]
  exact fX8_put_w (s := s) ⟨⟨B.exec, B.bytes, hml, findClass_of_methodNamed B.named, atoms_spec (ws := wsX8_put) B.pre⟩, fun _ h9 => List.mem_cons_of_mem _ (List.mem_append_right _ h9), hK⟩ ⟨B.returns, B.notSynchronized⟩ ⟨hP, mS_D hD, va_S.rf⟩ hl e0
def rmX8_cell : Room := { frames := 2, cells := 0, slots := 0, locals := 42 }
def fX8_cell_b50 (n : Nat) (a1 : Int32) (a2 : Int32) (I : Nat → Int32) (R : Nat → Nat → Int32) : Option (Int64 × mSt) :=
  if inb a1 4 = true then
  if (getA R 2 a1) = (-9) then
    (fX8_lost n 1 I R).bind fun z21 =>
    some (z21.1, z21.2.1, z21.2.2)
  else
    if inb a1 4 = true then
    (fX8_within n a2 0 ((getA R 3 a1) - 1)).bind fun z15 =>
    if z15 = 0 then
      (fX8_lost n 3 I R).bind fun z18 =>
      some (z18.1, z18.2.1, z18.2.2)
    else
      if inb ((60 * a1) + a2) 240 = true then
      some ((((getA R 4 ((60 * a1) + a2))).toInt64), I, R)
      else none
    else none
  else none
set_option maxRecDepth 20000 in
set_option maxHeartbeats 1000000 in
theorem fX8_cell_b50_w {p : Program} {l : Launch} {e : Env} {s : State} {m : MethodId} {args : Array Value} {below : List Frame} {meth : Method} {c : Code} {D : va_G} {y : ClassId} {h : Nat} {q : Nat → Nat} {n : Nat} {z : Int64 × mSt} (X : mX p s m args c cX8_cell 4 wsX8_cell D y) (hr : meth.sig.returnType = some .long ∧ meth.locks = false) {a1 : Int32} {a2 : Int32} {I : Nat → Int32} {R : Nat → Nat → Int32} {H : Heap} {locs : List Loc} {ls : Array Slot} (w : mH s D y h q H locs I R) (hl : lv_has ls 4 [(0, .ref h), (1, .int a1), (2, .int a2)]) (e0 : fX8_cell_b50 n a1 a2 I R = some z) : W p l e rmX8_cell s m args below meth c H locs 0 0 (MQ below (mQl D y h q (mS y h q s.heap.size) z) args s 0 0 (mS y h q s.heap.size)) (F0 m 50 ls []) := by
  have hx := X.1.1
  have hb := X.1.2.1
  unfold fX8_cell_b50 at e0
  refine lv_aload_n hx hb dX8_cell_50 rfl (lv_at hl 0 rfl) ?_
  refine m_get X w 2 (by decide) (index := 9) rfl (by decide +kernel) (mfr2 _ _) dX8_cell_51 ?_
  refine lv_iload_n hx hb dX8_cell_54 rfl (lv_at hl 1 rfl) ?_
  refine gd e0 (fun g13 e0 => ?_)
  refine m_ald X w 1 2 (mat2 _ _ _ _ _) g13 dX8_cell_55 ?_
  refine lv_bipush (v := (-9)) hx hb dX8_cell_56 (by decide) ?_
  refine lv_icmp_ne (tgt := 67) hx hb dX8_cell_58 (by decide) (fun c23 => ?_) (fun c23 => ?_)
  · have e0 := itn _ c23 e0
    refine lv_iload_n hx hb dX8_cell_67 rfl (lv_at hl 2 rfl) ?_
    refine lv_iconst (v := 0) hx hb dX8_cell_68 (by decide) ?_
    refine lv_aload_n hx hb dX8_cell_69 rfl (lv_at hl 0 rfl) ?_
    refine m_get X w 3 (by decide) (index := 13) rfl (by decide +kernel) (mfr3 _ _) dX8_cell_70 ?_
    refine lv_iload_n hx hb dX8_cell_73 rfl (lv_at hl 1 rfl) ?_
    refine gd e0 (fun g14 e0 => ?_)
    refine m_ald X w 2 3 (mat3 _ _ _ _ _) g14 dX8_cell_74 ?_
    refine lv_iconst (v := 1) hx hb dX8_cell_75 (by decide) ?_
    refine lv_isub hx hb dX8_cell_76 ?_
    refine bd e0 (fun z15 e16 e0 => ?_)
    refine m_callsi X w (n := 3) (As := [.int a2, .int 0, .int ((getA R 3 a1) - 1)]) (rest := []) (fX8_within_met l _ _ _ _ _ e16) gX8_cell_X8_within rfl rfl rfl (by decide +kernel) ⟨Nat.le_of_ble_eq_true rfl, Nat.le_of_ble_eq_true rfl⟩ rfl hl.1 rfl (Nat.le_of_ble_eq_true rfl) dX8_cell_77 (fun H locs w => ?_)
    refine lv_if_ne (tgt := 89) hx hb dX8_cell_80 (by decide) (fun c20 => ?_) (fun c20 => ?_)
    · have e0 := itn _ c20 e0
      refine lv_aload_n hx hb dX8_cell_89 rfl (lv_at hl 0 rfl) ?_
      refine m_get X w 4 (by decide) (index := 16) rfl (by decide +kernel) (mfr4 _ _) dX8_cell_90 ?_
      refine lv_bipush (v := 60) hx hb dX8_cell_93 (by decide) ?_
      refine lv_iload_n hx hb dX8_cell_95 rfl (lv_at hl 1 rfl) ?_
      refine lv_imul hx hb dX8_cell_96 ?_
      refine lv_iload_n hx hb dX8_cell_97 rfl (lv_at hl 2 rfl) ?_
      refine lv_iadd hx hb dX8_cell_98 ?_
      refine gd e0 (fun g17 e0 => ?_)
      refine m_ald X w 3 4 (mat4 _ _ _ _ _) g17 dX8_cell_99 ?_
      refine lv_i2l (v := (((getA R 4 ((60 * a1) + a2))).toInt64)) hx hb dX8_cell_100 rfl ?_
      have e0 := Option.some.inj e0
      subst e0
      exact m_lret X w hr dX8_cell_101
    · have e0 := itp _ c20 e0
      refine lv_aload_n hx hb dX8_cell_83 rfl (lv_at hl 0 rfl) ?_
      refine lv_iconst (v := 3) hx hb dX8_cell_84 (by decide) ?_
      refine bd e0 (fun z18 e19 e0 => ?_)
      refine m_calll X w (n := 1) (As := [.int 3]) (rest := []) (fX8_lost_met l _ _ _ _ _ _ _ _ _ _ e19) gX8_cell_X8_lost rfl rfl rfl (by decide +kernel) ⟨Nat.le_of_ble_eq_true rfl, Nat.le_of_ble_eq_true rfl⟩ rfl hl.1 rfl (Nat.le_of_ble_eq_true rfl) dX8_cell_85 (fun H locs w => ?_)
      have e0 := Option.some.inj e0
      subst e0
      exact m_lret X w hr dX8_cell_88
  · have e0 := itp _ c23 e0
    refine lv_aload_n hx hb dX8_cell_61 rfl (lv_at hl 0 rfl) ?_
    refine lv_iconst (v := 1) hx hb dX8_cell_62 (by decide) ?_
    refine bd e0 (fun z21 e22 e0 => ?_)
    refine m_calll X w (n := 1) (As := [.int 1]) (rest := []) (fX8_lost_met l _ _ _ _ _ _ _ _ _ _ e22) gX8_cell_X8_lost rfl rfl rfl (by decide +kernel) ⟨Nat.le_of_ble_eq_true rfl, Nat.le_of_ble_eq_true rfl⟩ rfl hl.1 rfl (Nat.le_of_ble_eq_true rfl) dX8_cell_63 (fun H locs w => ?_)
    have e0 := Option.some.inj e0
    subst e0
    exact m_lret X w hr dX8_cell_66
def fX8_cell (n : Nat) (a1 : Int32) (a2 : Int32) (a3 : Int32) (I : Nat → Int32) (R : Nat → Nat → Int32) : Option (Int64 × mSt) :=
  (fX8_isSheet n a1).bind fun z1 =>
  if z1 = 0 then
    some ((-9223372036854775808), (upd I 0 0), R)
  else
    (fX8_isSort n a3).bind fun z3 =>
    if z3 = 0 then
      some ((-9223372036854775808), (upd I 0 0), R)
    else
      if inb a1 4 = true then
      if (getA R 2 a1) = (-9) then
        fX8_cell_b50 n a1 a2 (upd I 0 0) R
      else
        if inb a1 4 = true then
        if (getA R 2 a1) = a3 then
          fX8_cell_b50 n a1 a2 (upd I 0 0) R
        else
          (fX8_lost n 2 (upd I 0 0) R).bind fun z7 =>
          some (z7.1, z7.2.1, z7.2.2)
        else none
      else none
set_option maxRecDepth 20000 in
set_option maxHeartbeats 1000000 in
theorem fX8_cell_w {p : Program} {l : Launch} {e : Env} {s : State} {m : MethodId} {args : Array Value} {below : List Frame} {meth : Method} {c : Code} {D : va_G} {y : ClassId} {h : Nat} {q : Nat → Nat} {n : Nat} {z : Int64 × mSt} (X : mX p s m args c cX8_cell 4 wsX8_cell D y) (hr : meth.sig.returnType = some .long ∧ meth.locks = false) {a1 : Int32} {a2 : Int32} {a3 : Int32} {I : Nat → Int32} {R : Nat → Nat → Int32} {H : Heap} {locs : List Loc} {ls : Array Slot} (w : mH s D y h q H locs I R) (hl : lv_has ls 4 [(0, .ref h), (1, .int a1), (2, .int a2), (3, .int a3)]) (e0 : fX8_cell n a1 a2 a3 I R = some z) : W p l e rmX8_cell s m args below meth c H locs 0 0 (MQ below (mQl D y h q (mS y h q s.heap.size) z) args s 0 0 (mS y h q s.heap.size)) (F0 m 0 ls []) := by
  have hx := X.1.1
  have hb := X.1.2.1
  unfold fX8_cell at e0
  refine lv_aload_n hx hb dX8_cell_0 rfl (lv_at hl 0 rfl) ?_
  refine lv_iconst (v := 0) hx hb dX8_cell_1 (by decide) ?_
  refine m_put X w 0 (by decide) (index := 82) rfl rfl (by decide +kernel) (by decide +kernel) (mps0 _ _ _) dX8_cell_2 (fun H locs w => ?_)
  refine lv_iload_n hx hb dX8_cell_5 rfl (lv_at hl 1 rfl) ?_
  refine bd e0 (fun z1 e2 e0 => ?_)
  refine m_callsi X w (n := 1) (As := [.int a1]) (rest := []) (fX8_isSheet_met l _ _ _ e2) gX8_cell_X8_isSheet rfl rfl rfl (by decide +kernel) ⟨Nat.le_of_ble_eq_true rfl, Nat.le_of_ble_eq_true rfl⟩ rfl hl.1 rfl (Nat.le_of_ble_eq_true rfl) dX8_cell_6 (fun H locs w => ?_)
  refine lv_if_eq (tgt := 19) hx hb dX8_cell_9 (by decide) (fun c12 => ?_) (fun c12 => ?_)
  · have e0 := itp _ c12 e0
    refine lv_ldc2 (own := RX8) (v := (-9223372036854775808)) hx hb X.1.2.2.2.1 (X.1.2.2.2.2 _ (by decide +kernel)) dX8_cell_19 ?_
    have e0 := Option.some.inj e0
    subst e0
    exact m_lret X w hr dX8_cell_22
  · have e0 := itn _ c12 e0
    refine lv_iload_n hx hb dX8_cell_12 rfl (lv_at hl 3 rfl) ?_
    refine bd e0 (fun z3 e4 e0 => ?_)
    refine m_callsi X w (n := 1) (As := [.int a3]) (rest := []) (fX8_isSort_met l _ _ _ e4) gX8_cell_X8_isSort rfl rfl rfl (by decide +kernel) ⟨Nat.le_of_ble_eq_true rfl, Nat.le_of_ble_eq_true rfl⟩ rfl hl.1 rfl (Nat.le_of_ble_eq_true rfl) dX8_cell_13 (fun H locs w => ?_)
    refine lv_if_ne (tgt := 23) hx hb dX8_cell_16 (by decide) (fun c11 => ?_) (fun c11 => ?_)
    · have e0 := itn _ c11 e0
      refine lv_aload_n hx hb dX8_cell_23 rfl (lv_at hl 0 rfl) ?_
      refine m_get X w 2 (by decide) (index := 9) rfl (by decide +kernel) (mfr2 _ _) dX8_cell_24 ?_
      refine lv_iload_n hx hb dX8_cell_27 rfl (lv_at hl 1 rfl) ?_
      refine gd e0 (fun g5 e0 => ?_)
      refine m_ald X w 1 2 (mat2 _ _ _ _ _) g5 dX8_cell_28 ?_
      refine lv_bipush (v := (-9)) hx hb dX8_cell_29 (by decide) ?_
      refine lv_icmp_eq (tgt := 50) hx hb dX8_cell_31 (by decide) (fun c10 => ?_) (fun c10 => ?_)
      · have e0 := itp _ c10 e0
        exact fX8_cell_b50_w (l := l) X hr w (lv_sub hl [0, 1, 2] rfl) e0
      · have e0 := itn _ c10 e0
        refine lv_aload_n hx hb dX8_cell_34 rfl (lv_at hl 0 rfl) ?_
        refine m_get X w 2 (by decide) (index := 9) rfl (by decide +kernel) (mfr2 _ _) dX8_cell_35 ?_
        refine lv_iload_n hx hb dX8_cell_38 rfl (lv_at hl 1 rfl) ?_
        refine gd e0 (fun g6 e0 => ?_)
        refine m_ald X w 1 2 (mat2 _ _ _ _ _) g6 dX8_cell_39 ?_
        refine lv_iload_n hx hb dX8_cell_40 rfl (lv_at hl 3 rfl) ?_
        refine lv_icmp_eq (tgt := 50) hx hb dX8_cell_41 (by decide) (fun c9 => ?_) (fun c9 => ?_)
        · have e0 := itp _ c9 e0
          exact fX8_cell_b50_w (l := l) X hr w (lv_sub hl [0, 1, 2] rfl) e0
        · have e0 := itn _ c9 e0
          refine lv_aload_n hx hb dX8_cell_44 rfl (lv_at hl 0 rfl) ?_
          refine lv_iconst (v := 2) hx hb dX8_cell_45 (by decide) ?_
          refine bd e0 (fun z7 e8 e0 => ?_)
          refine m_calll X w (n := 1) (As := [.int 2]) (rest := []) (fX8_lost_met l _ _ _ _ _ _ _ _ _ _ e8) gX8_cell_X8_lost rfl rfl rfl (by decide +kernel) ⟨Nat.le_of_ble_eq_true rfl, Nat.le_of_ble_eq_true rfl⟩ rfl hl.1 rfl (Nat.le_of_ble_eq_true rfl) dX8_cell_46 (fun H locs w => ?_)
          have e0 := Option.some.inj e0
          subst e0
          exact m_lret X w hr dX8_cell_49
    · have e0 := itp _ c11 e0
      refine lv_ldc2 (own := RX8) (v := (-9223372036854775808)) hx hb X.1.2.2.2.1 (X.1.2.2.2.2 _ (by decide +kernel)) dX8_cell_19 ?_
      have e0 := Option.some.inj e0
      subst e0
      exact m_lret X w hr dX8_cell_22
set_option maxRecDepth 20000 in
theorem fX8_cell_met (l : Launch) (D : va_G) (y : ClassId) (h : Nat) (q : Nat → Nat) (sz n : Nat) (a1 : Int32) (a2 : Int32) (a3 : Int32) (I : Nat → Int32) (R : Nat → Nat → Int32) (z : Int64 × mSt) (e0 : fX8_cell n a1 a2 a3 I R = some z) : Met l yX8_cell wsX8_cell rmX8_cell (va_Pc [.ref h, .int a1, .int a2, .int a3] (mPre D y h q sz I R)) (mQl D y h q (mS y h q sz) z) 0 0 (mS y h q sz) := by
  refine Met.ofW (cc := cX8_cell) (maxL := 4) (ret := some .long) (by decide) rfl ?_
  intro p e s m args below meth c s₁ B hml hv
  obtain ⟨rfl, hsz, hP, hK, hD⟩ := hv
  subst hsz
  have hl := lv_entry ([.ref h, .int a1, .int a2, .int a3]) (n := 4) (Nat.le_of_ble_eq_true rfl)
  rw [lg_entry_eq]
  exact fX8_cell_w (s := s) ⟨⟨B.exec, B.bytes, hml, findClass_of_methodNamed B.named, atoms_spec (ws := wsX8_cell) B.pre⟩, fun _ h9 => List.mem_cons_of_mem _ (List.mem_append_right _ h9), hK⟩ ⟨B.returns, B.notSynchronized⟩ ⟨hP, mS_D hD, va_S.rf⟩ hl e0
def rmX8_copy : Room := { frames := 2, cells := 0, slots := 0, locals := 42 }
def fX8_copy_b43 (n : Nat) (I : Nat → Int32) (R : Nat → Nat → Int32) : Option (Int32 × mSt) :=
  (fX8_fails n 1 I R).bind fun z23 =>
  some (z23.1, z23.2.1, z23.2.2)
set_option maxRecDepth 20000 in
set_option maxHeartbeats 1000000 in
theorem fX8_copy_b43_w {p : Program} {l : Launch} {e : Env} {s : State} {m : MethodId} {args : Array Value} {below : List Frame} {meth : Method} {c : Code} {D : va_G} {y : ClassId} {h : Nat} {q : Nat → Nat} {n : Nat} {z : Int32 × mSt} (X : mX p s m args c cX8_copy 10 wsX8_copy D y) (hr : meth.sig.returnType = some .int ∧ meth.locks = false) {I : Nat → Int32} {R : Nat → Nat → Int32} {H : Heap} {locs : List Loc} {ls : Array Slot} (w : mH s D y h q H locs I R) (hl : lv_has ls 10 [(0, .ref h)]) (e0 : fX8_copy_b43 n I R = some z) : W p l e rmX8_copy s m args below meth c H locs 0 0 (MQ below (mQi D y h q (mS y h q s.heap.size) z) args s 0 0 (mS y h q s.heap.size)) (F0 m 43 ls []) := by
  have hx := X.1.1
  have hb := X.1.2.1
  unfold fX8_copy_b43 at e0
  refine lv_aload_n hx hb dX8_copy_43 rfl (lv_at hl 0 rfl) ?_
  refine lv_iconst (v := 1) hx hb dX8_copy_44 (by decide) ?_
  refine bd e0 (fun z23 e24 e0 => ?_)
  refine m_calli X w (n := 1) (As := [.int 1]) (rest := []) (fX8_fails_met l _ _ _ _ _ _ _ _ _ _ e24) gX8_copy_X8_fails rfl rfl rfl (by decide +kernel) ⟨Nat.le_of_ble_eq_true rfl, Nat.le_of_ble_eq_true rfl⟩ rfl hl.1 rfl (Nat.le_of_ble_eq_true rfl) dX8_copy_45 (fun H locs w => ?_)
  have e0 := Option.some.inj e0
  subst e0
  exact m_iret X w hr dX8_copy_48
def fX8_copy_b144 (n : Nat) (I : Nat → Int32) (R : Nat → Nat → Int32) : Option (Int32 × mSt) :=
  (fX8_fails n 3 I R).bind fun z31 =>
  some (z31.1, z31.2.1, z31.2.2)
set_option maxRecDepth 20000 in
set_option maxHeartbeats 1000000 in
theorem fX8_copy_b144_w {p : Program} {l : Launch} {e : Env} {s : State} {m : MethodId} {args : Array Value} {below : List Frame} {meth : Method} {c : Code} {D : va_G} {y : ClassId} {h : Nat} {q : Nat → Nat} {n : Nat} {z : Int32 × mSt} (X : mX p s m args c cX8_copy 10 wsX8_copy D y) (hr : meth.sig.returnType = some .int ∧ meth.locks = false) {I : Nat → Int32} {R : Nat → Nat → Int32} {H : Heap} {locs : List Loc} {ls : Array Slot} (w : mH s D y h q H locs I R) (hl : lv_has ls 10 [(0, .ref h)]) (e0 : fX8_copy_b144 n I R = some z) : W p l e rmX8_copy s m args below meth c H locs 0 0 (MQ below (mQi D y h q (mS y h q s.heap.size) z) args s 0 0 (mS y h q s.heap.size)) (F0 m 144 ls []) := by
  have hx := X.1.1
  have hb := X.1.2.1
  unfold fX8_copy_b144 at e0
  refine lv_aload_n hx hb dX8_copy_144 rfl (lv_at hl 0 rfl) ?_
  refine lv_iconst (v := 3) hx hb dX8_copy_145 (by decide) ?_
  refine bd e0 (fun z31 e32 e0 => ?_)
  refine m_calli X w (n := 1) (As := [.int 3]) (rest := []) (fX8_fails_met l _ _ _ _ _ _ _ _ _ _ e32) gX8_copy_X8_fails rfl rfl rfl (by decide +kernel) ⟨Nat.le_of_ble_eq_true rfl, Nat.le_of_ble_eq_true rfl⟩ rfl hl.1 rfl (Nat.le_of_ble_eq_true rfl) dX8_copy_146 (fun H locs w => ?_)
  have e0 := Option.some.inj e0
  subst e0
  exact m_iret X w hr dX8_copy_149
def fX8_copy_b190 (n : Nat) (k166 : Int32 → Int32 → Int32 → Int32 → Int32 → Int32 → Int32 → (Nat → Int32) → (Nat → Nat → Int32) → Option (Int32 × mSt)) (a1 : Int32) (a2 : Int32) (a3 : Int32) (a4 : Int32) (a5 : Int32) (a7 : Int32) (a8 : Int32) (t0 : Int32) (I : Nat → Int32) (R : Nat → Nat → Int32) : Option (Int32 × mSt) :=
  if inb (((60 * a1) + a2) + t0) 240 = true then
  if inb (((60 * a3) + a4) + t0) 240 = true then
  k166 a1 a2 a3 a4 a5 a7 (a8 + 1) I (setA R 4 (((60 * a3) + a4) + t0) (getA R 4 (((60 * a1) + a2) + t0)))
  else none
  else none
set_option maxRecDepth 20000 in
set_option maxHeartbeats 1000000 in
theorem fX8_copy_b190_w {p : Program} {l : Launch} {e : Env} {s : State} {m : MethodId} {args : Array Value} {below : List Frame} {meth : Method} {c : Code} {D : va_G} {y : ClassId} {h : Nat} {q : Nat → Nat} {n : Nat} {z : Int32 × mSt} (X : mX p s m args c cX8_copy 10 wsX8_copy D y) (hr : meth.sig.returnType = some .int ∧ meth.locks = false) {k166 : Int32 → Int32 → Int32 → Int32 → Int32 → Int32 → Int32 → (Nat → Int32) → (Nat → Nat → Int32) → Option (Int32 × mSt)} (hk166 : ∀ (a1 : Int32) (a2 : Int32) (a3 : Int32) (a4 : Int32) (a5 : Int32) (a7 : Int32) (a8 : Int32) (I : Nat → Int32) (R : Nat → Nat → Int32) (H : Heap) (locs : List Loc) (ls : Array Slot), mH s D y h q H locs I R → lv_has ls 10 [(0, .ref h), (1, .int a1), (2, .int a2), (3, .int a3), (4, .int a4), (5, .int a5), (7, .int a7), (8, .int a8)] → k166 a1 a2 a3 a4 a5 a7 a8 I R = some z → W p l e rmX8_copy s m args below meth c H locs 0 0 (MQ below (mQi D y h q (mS y h q s.heap.size) z) args s 0 0 (mS y h q s.heap.size)) (F0 m 166 ls [])) {a1 : Int32} {a2 : Int32} {a3 : Int32} {a4 : Int32} {a5 : Int32} {a7 : Int32} {a8 : Int32} {t0 : Int32} {I : Nat → Int32} {R : Nat → Nat → Int32} {H : Heap} {locs : List Loc} {ls : Array Slot} (w : mH s D y h q H locs I R) (hl : lv_has ls 10 [(0, .ref h), (1, .int a1), (2, .int a2), (3, .int a3), (4, .int a4), (5, .int a5), (7, .int a7), (8, .int a8)]) (e0 : fX8_copy_b190 n k166 a1 a2 a3 a4 a5 a7 a8 t0 I R = some z) : W p l e rmX8_copy s m args below meth c H locs 0 0 (MQ below (mQi D y h q (mS y h q s.heap.size) z) args s 0 0 (mS y h q s.heap.size)) (F0 m 190 ls [.int t0]) := by
  have hx := X.1.1
  have hb := X.1.2.1
  unfold fX8_copy_b190 at e0
  refine lv_istore (lv' := [(9, .int t0), (0, .ref h), (1, .int a1), (2, .int a2), (3, .int a3), (4, .int a4), (5, .int a5), (7, .int a7), (8, .int a8)]) hx hb dX8_copy_190 hl (by decide) rfl (fun ls hl => ?_)
  refine lv_aload_n hx hb dX8_copy_192 rfl (lv_at hl 1 rfl) ?_
  refine m_get X w 4 (by decide) (index := 16) rfl (by decide +kernel) (mfr4 _ _) dX8_copy_193 ?_
  refine lv_bipush (v := 60) hx hb dX8_copy_196 (by decide) ?_
  refine lv_iload_n hx hb dX8_copy_198 rfl (lv_at hl 4 rfl) ?_
  refine lv_imul hx hb dX8_copy_199 ?_
  refine lv_iload hx hb dX8_copy_200 (lv_at hl 5 rfl) ?_
  refine lv_iadd hx hb dX8_copy_202 ?_
  refine lv_iload hx hb dX8_copy_203 (lv_at hl 0 rfl) ?_
  refine lv_iadd hx hb dX8_copy_205 ?_
  refine lv_aload_n hx hb dX8_copy_206 rfl (lv_at hl 1 rfl) ?_
  refine m_get X w 4 (by decide) (index := 16) rfl (by decide +kernel) (mfr4 _ _) dX8_copy_207 ?_
  refine lv_bipush (v := 60) hx hb dX8_copy_210 (by decide) ?_
  refine lv_iload_n hx hb dX8_copy_212 rfl (lv_at hl 2 rfl) ?_
  refine lv_imul hx hb dX8_copy_213 ?_
  refine lv_iload_n hx hb dX8_copy_214 rfl (lv_at hl 3 rfl) ?_
  refine lv_iadd hx hb dX8_copy_215 ?_
  refine lv_iload hx hb dX8_copy_216 (lv_at hl 0 rfl) ?_
  refine lv_iadd hx hb dX8_copy_218 ?_
  refine gd e0 (fun g35 e0 => ?_)
  refine m_ald X w 3 4 (mat4 _ _ _ _ _) g35 dX8_copy_219 ?_
  refine gd e0 (fun g36 e0 => ?_)
  refine m_ast X w 3 4 (mat4 _ _ _ _ _) (mset4 _ _ _ _ _) g36 dX8_copy_220 (fun H locs w => ?_)
  refine lv_iinc (v := (a8 + 1)) (lv' := [(8, .int (a8 + 1)), (9, .int t0), (0, .ref h), (1, .int a1), (2, .int a2), (3, .int a3), (4, .int a4), (5, .int a5), (7, .int a7)]) hx hb dX8_copy_221 hl (k := 8) rfl rfl (by decide) rfl (fun ls hl => ?_)
  refine lv_goto (tgt := 166) hx hb dX8_copy_224 (by decide) ?_
  exact hk166 _ _ _ _ _ _ _ _ _ _ _ _ w (lv_sub hl [2, 3, 4, 5, 6, 7, 8, 0] rfl) e0
def fX8_copy_b166 (n : Nat) : Nat → Int32 → Int32 → Int32 → Int32 → Int32 → Int32 → Int32 → (Nat → Int32) → (Nat → Nat → Int32) → Option (Int32 × mSt)
  | 0, _, _, _, _, _, _, _, _, _ => none
  | j + 1, a1, a2, a3, a4, a5, a7, a8, I, R =>
    if a5 ≤ a8 then
      some (a5, I, R)
    else
      if a7 = 0 then
        fX8_copy_b190 n (fX8_copy_b166 n j) a1 a2 a3 a4 a5 a7 a8 a8 I R
      else
        fX8_copy_b190 n (fX8_copy_b166 n j) a1 a2 a3 a4 a5 a7 a8 ((a5 - 1) - a8) I R
set_option maxRecDepth 20000 in
set_option maxHeartbeats 1000000 in
theorem fX8_copy_b166_w {p : Program} {l : Launch} {e : Env} {s : State} {m : MethodId} {args : Array Value} {below : List Frame} {meth : Method} {c : Code} {D : va_G} {y : ClassId} {h : Nat} {q : Nat → Nat} {n : Nat} {z : Int32 × mSt} (X : mX p s m args c cX8_copy 10 wsX8_copy D y) (hr : meth.sig.returnType = some .int ∧ meth.locks = false) : ∀ (j : Nat) (a1 : Int32) (a2 : Int32) (a3 : Int32) (a4 : Int32) (a5 : Int32) (a7 : Int32) (a8 : Int32) (I : Nat → Int32) (R : Nat → Nat → Int32) (H : Heap) (locs : List Loc) (ls : Array Slot), mH s D y h q H locs I R → lv_has ls 10 [(0, .ref h), (1, .int a1), (2, .int a2), (3, .int a3), (4, .int a4), (5, .int a5), (7, .int a7), (8, .int a8)] → fX8_copy_b166 n j a1 a2 a3 a4 a5 a7 a8 I R = some z → W p l e rmX8_copy s m args below meth c H locs 0 0 (MQ below (mQi D y h q (mS y h q s.heap.size) z) args s 0 0 (mS y h q s.heap.size)) (F0 m 166 ls []) := by
  have hx := X.1.1
  have hb := X.1.2.1
  intro j
  induction j with
  | zero =>
    intro a1 a2 a3 a4 a5 a7 a8 I R H locs ls w hl e0
    cases e0
  | succ j ih =>
    intro a1 a2 a3 a4 a5 a7 a8 I R H locs ls w hl e0
    rw [fX8_copy_b166] at e0
    refine lv_iload hx hb dX8_copy_166 (lv_at hl 7 rfl) ?_
    refine lv_iload hx hb dX8_copy_168 (lv_at hl 5 rfl) ?_
    refine lv_icmp_ge (tgt := 227) hx hb dX8_copy_170 (by decide) (fun c34 => ?_) (fun c34 => ?_)
    · have e0 := itp _ c34 e0
      refine lv_iload hx hb dX8_copy_227 (lv_at hl 5 rfl) ?_
      have e0 := Option.some.inj e0
      subst e0
      exact m_iret X w hr dX8_copy_229
    · have e0 := itn _ c34 e0
      refine lv_iload hx hb dX8_copy_173 (lv_at hl 6 rfl) ?_
      refine lv_if_eq (tgt := 188) hx hb dX8_copy_175 (by decide) (fun c33 => ?_) (fun c33 => ?_)
      · have e0 := itp _ c33 e0
        refine lv_iload hx hb dX8_copy_188 (lv_at hl 7 rfl) ?_
        exact fX8_copy_b190_w (l := l) X hr ih w (lv_sub hl [0, 1, 2, 3, 4, 5, 6, 7] rfl) e0
      · have e0 := itn _ c33 e0
        refine lv_iload hx hb dX8_copy_178 (lv_at hl 5 rfl) ?_
        refine lv_iconst (v := 1) hx hb dX8_copy_180 (by decide) ?_
        refine lv_isub hx hb dX8_copy_181 ?_
        refine lv_iload hx hb dX8_copy_182 (lv_at hl 7 rfl) ?_
        refine lv_isub hx hb dX8_copy_184 ?_
        refine lv_goto (tgt := 190) hx hb dX8_copy_185 (by decide) ?_
        exact fX8_copy_b190_w (l := l) X hr ih w (lv_sub hl [0, 1, 2, 3, 4, 5, 6, 7] rfl) e0
def fX8_copy_b161 (n : Nat) (a1 : Int32) (a2 : Int32) (a3 : Int32) (a4 : Int32) (a5 : Int32) (t0 : Int32) (I : Nat → Int32) (R : Nat → Nat → Int32) : Option (Int32 × mSt) :=
  fX8_copy_b166 n n a1 a2 a3 a4 a5 t0 0 I R
set_option maxRecDepth 20000 in
set_option maxHeartbeats 1000000 in
theorem fX8_copy_b161_w {p : Program} {l : Launch} {e : Env} {s : State} {m : MethodId} {args : Array Value} {below : List Frame} {meth : Method} {c : Code} {D : va_G} {y : ClassId} {h : Nat} {q : Nat → Nat} {n : Nat} {z : Int32 × mSt} (X : mX p s m args c cX8_copy 10 wsX8_copy D y) (hr : meth.sig.returnType = some .int ∧ meth.locks = false) {a1 : Int32} {a2 : Int32} {a3 : Int32} {a4 : Int32} {a5 : Int32} {t0 : Int32} {I : Nat → Int32} {R : Nat → Nat → Int32} {H : Heap} {locs : List Loc} {ls : Array Slot} (w : mH s D y h q H locs I R) (hl : lv_has ls 10 [(0, .ref h), (1, .int a1), (2, .int a2), (3, .int a3), (4, .int a4), (5, .int a5)]) (e0 : fX8_copy_b161 n a1 a2 a3 a4 a5 t0 I R = some z) : W p l e rmX8_copy s m args below meth c H locs 0 0 (MQ below (mQi D y h q (mS y h q s.heap.size) z) args s 0 0 (mS y h q s.heap.size)) (F0 m 161 ls [.int t0]) := by
  have hx := X.1.1
  have hb := X.1.2.1
  unfold fX8_copy_b161 at e0
  refine lv_istore (lv' := [(7, .int t0), (0, .ref h), (1, .int a1), (2, .int a2), (3, .int a3), (4, .int a4), (5, .int a5)]) hx hb dX8_copy_161 hl (by decide) rfl (fun ls hl => ?_)
  refine lv_iconst (v := 0) hx hb dX8_copy_163 (by decide) ?_
  refine lv_istore (lv' := [(8, .int 0), (7, .int t0), (0, .ref h), (1, .int a1), (2, .int a2), (3, .int a3), (4, .int a4), (5, .int a5)]) hx hb dX8_copy_164 hl (by decide) rfl (fun ls hl => ?_)
  exact fX8_copy_b166_w (l := l) X hr n _ _ _ _ _ _ _ _ _ _ _ _ w (lv_sub hl [2, 3, 4, 5, 6, 7, 1, 0] rfl) e0
def fX8_copy_b110 (n : Nat) (a1 : Int32) (a2 : Int32) (a3 : Int32) (a4 : Int32) (a5 : Int32) (t0 : Int32) (I : Nat → Int32) (R : Nat → Nat → Int32) : Option (Int32 × mSt) :=
  if t0 = 0 then
    fX8_copy_b144 n I R
  else
    if inb a1 4 = true then
    if ((getA R 3 a1) - a2) < a5 then
      fX8_copy_b144 n I R
    else
      if inb a3 4 = true then
      if a5 ≤ ((getA R 3 a3) - a4) then
        if a4 ≤ a2 then
          fX8_copy_b161 n a1 a2 a3 a4 a5 0 I R
        else
          fX8_copy_b161 n a1 a2 a3 a4 a5 1 I R
      else
        fX8_copy_b144 n I R
      else none
    else none
set_option maxRecDepth 20000 in
set_option maxHeartbeats 1000000 in
theorem fX8_copy_b110_w {p : Program} {l : Launch} {e : Env} {s : State} {m : MethodId} {args : Array Value} {below : List Frame} {meth : Method} {c : Code} {D : va_G} {y : ClassId} {h : Nat} {q : Nat → Nat} {n : Nat} {z : Int32 × mSt} (X : mX p s m args c cX8_copy 10 wsX8_copy D y) (hr : meth.sig.returnType = some .int ∧ meth.locks = false) {a1 : Int32} {a2 : Int32} {a3 : Int32} {a4 : Int32} {a5 : Int32} {t0 : Int32} {I : Nat → Int32} {R : Nat → Nat → Int32} {H : Heap} {locs : List Loc} {ls : Array Slot} (w : mH s D y h q H locs I R) (hl : lv_has ls 10 [(0, .ref h), (1, .int a1), (2, .int a2), (3, .int a3), (4, .int a4), (5, .int a5)]) (e0 : fX8_copy_b110 n a1 a2 a3 a4 a5 t0 I R = some z) : W p l e rmX8_copy s m args below meth c H locs 0 0 (MQ below (mQi D y h q (mS y h q s.heap.size) z) args s 0 0 (mS y h q s.heap.size)) (F0 m 110 ls [.int t0]) := by
  have hx := X.1.1
  have hb := X.1.2.1
  unfold fX8_copy_b110 at e0
  refine lv_istore (lv' := [(6, .int t0), (0, .ref h), (1, .int a1), (2, .int a2), (3, .int a3), (4, .int a4), (5, .int a5)]) hx hb dX8_copy_110 hl (by decide) rfl (fun ls hl => ?_)
  refine lv_iload hx hb dX8_copy_112 (lv_at hl 0 rfl) ?_
  refine lv_if_eq (tgt := 144) hx hb dX8_copy_114 (by decide) (fun c30 => ?_) (fun c30 => ?_)
  · have e0 := itp _ c30 e0
    exact fX8_copy_b144_w (l := l) X hr w (lv_sub hl [1] rfl) e0
  · have e0 := itn _ c30 e0
    refine lv_iload hx hb dX8_copy_117 (lv_at hl 6 rfl) ?_
    refine lv_aload_n hx hb dX8_copy_119 rfl (lv_at hl 1 rfl) ?_
    refine m_get X w 3 (by decide) (index := 13) rfl (by decide +kernel) (mfr3 _ _) dX8_copy_120 ?_
    refine lv_iload_n hx hb dX8_copy_123 rfl (lv_at hl 2 rfl) ?_
    refine gd e0 (fun g25 e0 => ?_)
    refine m_ald X w 2 3 (mat3 _ _ _ _ _) g25 dX8_copy_124 ?_
    refine lv_iload_n hx hb dX8_copy_125 rfl (lv_at hl 3 rfl) ?_
    refine lv_isub hx hb dX8_copy_126 ?_
    refine lv_icmp_gt (tgt := 144) hx hb dX8_copy_127 (by decide) (fun c29 => ?_) (fun c29 => ?_)
    · have e0 := itp _ c29 e0
      exact fX8_copy_b144_w (l := l) X hr w (lv_sub hl [1] rfl) e0
    · have e0 := itn _ c29 e0
      refine lv_iload hx hb dX8_copy_130 (lv_at hl 6 rfl) ?_
      refine lv_aload_n hx hb dX8_copy_132 rfl (lv_at hl 1 rfl) ?_
      refine m_get X w 3 (by decide) (index := 13) rfl (by decide +kernel) (mfr3 _ _) dX8_copy_133 ?_
      refine lv_iload_n hx hb dX8_copy_136 rfl (lv_at hl 4 rfl) ?_
      refine gd e0 (fun g26 e0 => ?_)
      refine m_ald X w 2 3 (mat3 _ _ _ _ _) g26 dX8_copy_137 ?_
      refine lv_iload hx hb dX8_copy_138 (lv_at hl 5 rfl) ?_
      refine lv_isub hx hb dX8_copy_140 ?_
      refine lv_icmp_le (tgt := 150) hx hb dX8_copy_141 (by decide) (fun c28 => ?_) (fun c28 => ?_)
      · have e0 := itp _ c28 e0
        refine lv_iload_n hx hb dX8_copy_150 rfl (lv_at hl 3 rfl) ?_
        refine lv_iload hx hb dX8_copy_151 (lv_at hl 5 rfl) ?_
        refine lv_icmp_ge (tgt := 160) hx hb dX8_copy_153 (by decide) (fun c27 => ?_) (fun c27 => ?_)
        · have e0 := itp _ c27 e0
          refine lv_iconst (v := 0) hx hb dX8_copy_160 (by decide) ?_
          exact fX8_copy_b161_w (l := l) X hr w (lv_sub hl [1, 2, 3, 4, 5, 6] rfl) e0
        · have e0 := itn _ c27 e0
          refine lv_iconst (v := 1) hx hb dX8_copy_156 (by decide) ?_
          refine lv_goto (tgt := 161) hx hb dX8_copy_157 (by decide) ?_
          exact fX8_copy_b161_w (l := l) X hr w (lv_sub hl [1, 2, 3, 4, 5, 6] rfl) e0
      · have e0 := itn _ c28 e0
        exact fX8_copy_b144_w (l := l) X hr w (lv_sub hl [1] rfl) e0
def fX8_copy_b109 (n : Nat) (a1 : Int32) (a2 : Int32) (a3 : Int32) (a4 : Int32) (a5 : Int32) (I : Nat → Int32) (R : Nat → Nat → Int32) : Option (Int32 × mSt) :=
  fX8_copy_b110 n a1 a2 a3 a4 a5 0 I R
set_option maxRecDepth 20000 in
set_option maxHeartbeats 1000000 in
theorem fX8_copy_b109_w {p : Program} {l : Launch} {e : Env} {s : State} {m : MethodId} {args : Array Value} {below : List Frame} {meth : Method} {c : Code} {D : va_G} {y : ClassId} {h : Nat} {q : Nat → Nat} {n : Nat} {z : Int32 × mSt} (X : mX p s m args c cX8_copy 10 wsX8_copy D y) (hr : meth.sig.returnType = some .int ∧ meth.locks = false) {a1 : Int32} {a2 : Int32} {a3 : Int32} {a4 : Int32} {a5 : Int32} {I : Nat → Int32} {R : Nat → Nat → Int32} {H : Heap} {locs : List Loc} {ls : Array Slot} (w : mH s D y h q H locs I R) (hl : lv_has ls 10 [(0, .ref h), (1, .int a1), (2, .int a2), (3, .int a3), (4, .int a4), (5, .int a5)]) (e0 : fX8_copy_b109 n a1 a2 a3 a4 a5 I R = some z) : W p l e rmX8_copy s m args below meth c H locs 0 0 (MQ below (mQi D y h q (mS y h q s.heap.size) z) args s 0 0 (mS y h q s.heap.size)) (F0 m 109 ls []) := by
  have hx := X.1.1
  have hb := X.1.2.1
  unfold fX8_copy_b109 at e0
  refine lv_iconst (v := 0) hx hb dX8_copy_109 (by decide) ?_
  exact fX8_copy_b110_w (l := l) X hr w (lv_sub hl [0, 1, 2, 3, 4, 5] rfl) e0
def fX8_copy (n : Nat) (a1 : Int32) (a2 : Int32) (a3 : Int32) (a4 : Int32) (a5 : Int32) (I : Nat → Int32) (R : Nat → Nat → Int32) : Option (Int32 × mSt) :=
  (fX8_isSheet n a1).bind fun z1 =>
  if z1 = 0 then
    some ((-1), (upd I 0 0), R)
  else
    (fX8_isSheet n a3).bind fun z3 =>
    if z3 = 0 then
      some ((-1), (upd I 0 0), R)
    else
      if inb a1 4 = true then
      if (getA R 2 a1) = (-9) then
        fX8_copy_b43 n (upd I 0 0) R
      else
        if inb a3 4 = true then
        if (getA R 2 a3) = (-9) then
          fX8_copy_b43 n (upd I 0 0) R
        else
          if inb a1 4 = true then
          if inb a3 4 = true then
          if (getA R 2 a1) = (getA R 2 a3) then
            if a2 < 0 then
              fX8_copy_b109 n a1 a2 a3 a4 a5 (upd I 0 0) R
            else
              if a4 < 0 then
                fX8_copy_b109 n a1 a2 a3 a4 a5 (upd I 0 0) R
              else
                if a5 < 0 then
                  fX8_copy_b109 n a1 a2 a3 a4 a5 (upd I 0 0) R
                else
                  if inb a1 4 = true then
                  if (getA R 3 a1) < a2 then
                    fX8_copy_b109 n a1 a2 a3 a4 a5 (upd I 0 0) R
                  else
                    if inb a3 4 = true then
                    if (getA R 3 a3) < a4 then
                      fX8_copy_b109 n a1 a2 a3 a4 a5 (upd I 0 0) R
                    else
                      fX8_copy_b110 n a1 a2 a3 a4 a5 1 (upd I 0 0) R
                    else none
                  else none
          else
            (fX8_fails n 2 (upd I 0 0) R).bind fun z16 =>
            some (z16.1, z16.2.1, z16.2.2)
          else none
          else none
        else none
      else none
set_option maxRecDepth 20000 in
set_option maxHeartbeats 1000000 in
theorem fX8_copy_w {p : Program} {l : Launch} {e : Env} {s : State} {m : MethodId} {args : Array Value} {below : List Frame} {meth : Method} {c : Code} {D : va_G} {y : ClassId} {h : Nat} {q : Nat → Nat} {n : Nat} {z : Int32 × mSt} (X : mX p s m args c cX8_copy 10 wsX8_copy D y) (hr : meth.sig.returnType = some .int ∧ meth.locks = false) {a1 : Int32} {a2 : Int32} {a3 : Int32} {a4 : Int32} {a5 : Int32} {I : Nat → Int32} {R : Nat → Nat → Int32} {H : Heap} {locs : List Loc} {ls : Array Slot} (w : mH s D y h q H locs I R) (hl : lv_has ls 10 [(0, .ref h), (1, .int a1), (2, .int a2), (3, .int a3), (4, .int a4), (5, .int a5)]) (e0 : fX8_copy n a1 a2 a3 a4 a5 I R = some z) : W p l e rmX8_copy s m args below meth c H locs 0 0 (MQ below (mQi D y h q (mS y h q s.heap.size) z) args s 0 0 (mS y h q s.heap.size)) (F0 m 0 ls []) := by
  have hx := X.1.1
  have hb := X.1.2.1
  unfold fX8_copy at e0
  refine lv_aload_n hx hb dX8_copy_0 rfl (lv_at hl 0 rfl) ?_
  refine lv_iconst (v := 0) hx hb dX8_copy_1 (by decide) ?_
  refine m_put X w 0 (by decide) (index := 82) rfl rfl (by decide +kernel) (by decide +kernel) (mps0 _ _ _) dX8_copy_2 (fun H locs w => ?_)
  refine lv_iload_n hx hb dX8_copy_5 rfl (lv_at hl 1 rfl) ?_
  refine bd e0 (fun z1 e2 e0 => ?_)
  refine m_callsi X w (n := 1) (As := [.int a1]) (rest := []) (fX8_isSheet_met l _ _ _ e2) gX8_copy_X8_isSheet rfl rfl rfl (by decide +kernel) ⟨Nat.le_of_ble_eq_true rfl, Nat.le_of_ble_eq_true rfl⟩ rfl hl.1 rfl (Nat.le_of_ble_eq_true rfl) dX8_copy_6 (fun H locs w => ?_)
  refine lv_if_eq (tgt := 19) hx hb dX8_copy_9 (by decide) (fun c22 => ?_) (fun c22 => ?_)
  · have e0 := itp _ c22 e0
    refine lv_iconst (v := (-1)) hx hb dX8_copy_19 (by decide) ?_
    have e0 := Option.some.inj e0
    subst e0
    exact m_iret X w hr dX8_copy_20
  · have e0 := itn _ c22 e0
    refine lv_iload_n hx hb dX8_copy_12 rfl (lv_at hl 3 rfl) ?_
    refine bd e0 (fun z3 e4 e0 => ?_)
    refine m_callsi X w (n := 1) (As := [.int a3]) (rest := []) (fX8_isSheet_met l _ _ _ e4) gX8_copy_X8_isSheet rfl rfl rfl (by decide +kernel) ⟨Nat.le_of_ble_eq_true rfl, Nat.le_of_ble_eq_true rfl⟩ rfl hl.1 rfl (Nat.le_of_ble_eq_true rfl) dX8_copy_13 (fun H locs w => ?_)
    refine lv_if_ne (tgt := 21) hx hb dX8_copy_16 (by decide) (fun c21 => ?_) (fun c21 => ?_)
    · have e0 := itn _ c21 e0
      refine lv_aload_n hx hb dX8_copy_21 rfl (lv_at hl 0 rfl) ?_
      refine m_get X w 2 (by decide) (index := 9) rfl (by decide +kernel) (mfr2 _ _) dX8_copy_22 ?_
      refine lv_iload_n hx hb dX8_copy_25 rfl (lv_at hl 1 rfl) ?_
      refine gd e0 (fun g5 e0 => ?_)
      refine m_ald X w 1 2 (mat2 _ _ _ _ _) g5 dX8_copy_26 ?_
      refine lv_bipush (v := (-9)) hx hb dX8_copy_27 (by decide) ?_
      refine lv_icmp_eq (tgt := 43) hx hb dX8_copy_29 (by decide) (fun c20 => ?_) (fun c20 => ?_)
      · have e0 := itp _ c20 e0
        exact fX8_copy_b43_w (l := l) X hr w (lv_sub hl [0] rfl) e0
      · have e0 := itn _ c20 e0
        refine lv_aload_n hx hb dX8_copy_32 rfl (lv_at hl 0 rfl) ?_
        refine m_get X w 2 (by decide) (index := 9) rfl (by decide +kernel) (mfr2 _ _) dX8_copy_33 ?_
        refine lv_iload_n hx hb dX8_copy_36 rfl (lv_at hl 3 rfl) ?_
        refine gd e0 (fun g6 e0 => ?_)
        refine m_ald X w 1 2 (mat2 _ _ _ _ _) g6 dX8_copy_37 ?_
        refine lv_bipush (v := (-9)) hx hb dX8_copy_38 (by decide) ?_
        refine lv_icmp_ne (tgt := 49) hx hb dX8_copy_40 (by decide) (fun c19 => ?_) (fun c19 => ?_)
        · have e0 := itn _ c19 e0
          refine lv_aload_n hx hb dX8_copy_49 rfl (lv_at hl 0 rfl) ?_
          refine m_get X w 2 (by decide) (index := 9) rfl (by decide +kernel) (mfr2 _ _) dX8_copy_50 ?_
          refine lv_iload_n hx hb dX8_copy_53 rfl (lv_at hl 1 rfl) ?_
          refine gd e0 (fun g7 e0 => ?_)
          refine m_ald X w 1 2 (mat2 _ _ _ _ _) g7 dX8_copy_54 ?_
          refine lv_aload_n hx hb dX8_copy_55 rfl (lv_at hl 0 rfl) ?_
          refine m_get X w 2 (by decide) (index := 9) rfl (by decide +kernel) (mfr2 _ _) dX8_copy_56 ?_
          refine lv_iload_n hx hb dX8_copy_59 rfl (lv_at hl 3 rfl) ?_
          refine gd e0 (fun g8 e0 => ?_)
          refine m_ald X w 1 2 (mat2 _ _ _ _ _) g8 dX8_copy_60 ?_
          refine lv_icmp_eq (tgt := 70) hx hb dX8_copy_61 (by decide) (fun c18 => ?_) (fun c18 => ?_)
          · have e0 := itp _ c18 e0
            refine lv_iload_n hx hb dX8_copy_70 rfl (lv_at hl 2 rfl) ?_
            refine lv_if_lt (tgt := 109) hx hb dX8_copy_71 (by decide) (fun c15 => ?_) (fun c15 => ?_)
            · have e0 := itp _ c15 e0
              exact fX8_copy_b109_w (l := l) X hr w (lv_sub hl [0, 1, 2, 3, 4, 5] rfl) e0
            · have e0 := itn _ c15 e0
              refine lv_iload hx hb dX8_copy_74 (lv_at hl 4 rfl) ?_
              refine lv_if_lt (tgt := 109) hx hb dX8_copy_76 (by decide) (fun c14 => ?_) (fun c14 => ?_)
              · have e0 := itp _ c14 e0
                exact fX8_copy_b109_w (l := l) X hr w (lv_sub hl [0, 1, 2, 3, 4, 5] rfl) e0
              · have e0 := itn _ c14 e0
                refine lv_iload hx hb dX8_copy_79 (lv_at hl 5 rfl) ?_
                refine lv_if_lt (tgt := 109) hx hb dX8_copy_81 (by decide) (fun c13 => ?_) (fun c13 => ?_)
                · have e0 := itp _ c13 e0
                  exact fX8_copy_b109_w (l := l) X hr w (lv_sub hl [0, 1, 2, 3, 4, 5] rfl) e0
                · have e0 := itn _ c13 e0
                  refine lv_iload_n hx hb dX8_copy_84 rfl (lv_at hl 2 rfl) ?_
                  refine lv_aload_n hx hb dX8_copy_85 rfl (lv_at hl 0 rfl) ?_
                  refine m_get X w 3 (by decide) (index := 13) rfl (by decide +kernel) (mfr3 _ _) dX8_copy_86 ?_
                  refine lv_iload_n hx hb dX8_copy_89 rfl (lv_at hl 1 rfl) ?_
                  refine gd e0 (fun g9 e0 => ?_)
                  refine m_ald X w 2 3 (mat3 _ _ _ _ _) g9 dX8_copy_90 ?_
                  refine lv_icmp_gt (tgt := 109) hx hb dX8_copy_91 (by decide) (fun c12 => ?_) (fun c12 => ?_)
                  · have e0 := itp _ c12 e0
                    exact fX8_copy_b109_w (l := l) X hr w (lv_sub hl [0, 1, 2, 3, 4, 5] rfl) e0
                  · have e0 := itn _ c12 e0
                    refine lv_iload hx hb dX8_copy_94 (lv_at hl 4 rfl) ?_
                    refine lv_aload_n hx hb dX8_copy_96 rfl (lv_at hl 0 rfl) ?_
                    refine m_get X w 3 (by decide) (index := 13) rfl (by decide +kernel) (mfr3 _ _) dX8_copy_97 ?_
                    refine lv_iload_n hx hb dX8_copy_100 rfl (lv_at hl 3 rfl) ?_
                    refine gd e0 (fun g10 e0 => ?_)
                    refine m_ald X w 2 3 (mat3 _ _ _ _ _) g10 dX8_copy_101 ?_
                    refine lv_icmp_gt (tgt := 109) hx hb dX8_copy_102 (by decide) (fun c11 => ?_) (fun c11 => ?_)
                    · have e0 := itp _ c11 e0
                      exact fX8_copy_b109_w (l := l) X hr w (lv_sub hl [0, 1, 2, 3, 4, 5] rfl) e0
                    · have e0 := itn _ c11 e0
                      refine lv_iconst (v := 1) hx hb dX8_copy_105 (by decide) ?_
                      refine lv_goto (tgt := 110) hx hb dX8_copy_106 (by decide) ?_
                      exact fX8_copy_b110_w (l := l) X hr w (lv_sub hl [0, 1, 2, 3, 4, 5] rfl) e0
          · have e0 := itn _ c18 e0
            refine lv_aload_n hx hb dX8_copy_64 rfl (lv_at hl 0 rfl) ?_
            refine lv_iconst (v := 2) hx hb dX8_copy_65 (by decide) ?_
            refine bd e0 (fun z16 e17 e0 => ?_)
            refine m_calli X w (n := 1) (As := [.int 2]) (rest := []) (fX8_fails_met l _ _ _ _ _ _ _ _ _ _ e17) gX8_copy_X8_fails rfl rfl rfl (by decide +kernel) ⟨Nat.le_of_ble_eq_true rfl, Nat.le_of_ble_eq_true rfl⟩ rfl hl.1 rfl (Nat.le_of_ble_eq_true rfl) dX8_copy_66 (fun H locs w => ?_)
            have e0 := Option.some.inj e0
            subst e0
            exact m_iret X w hr dX8_copy_69
        · have e0 := itp _ c19 e0
          exact fX8_copy_b43_w (l := l) X hr w (lv_sub hl [0] rfl) e0
    · have e0 := itp _ c21 e0
      refine lv_iconst (v := (-1)) hx hb dX8_copy_19 (by decide) ?_
      have e0 := Option.some.inj e0
      subst e0
      exact m_iret X w hr dX8_copy_20
set_option maxRecDepth 20000 in
theorem fX8_copy_met (l : Launch) (D : va_G) (y : ClassId) (h : Nat) (q : Nat → Nat) (sz n : Nat) (a1 : Int32) (a2 : Int32) (a3 : Int32) (a4 : Int32) (a5 : Int32) (I : Nat → Int32) (R : Nat → Nat → Int32) (z : Int32 × mSt) (e0 : fX8_copy n a1 a2 a3 a4 a5 I R = some z) : Met l yX8_copy wsX8_copy rmX8_copy (va_Pc [.ref h, .int a1, .int a2, .int a3, .int a4, .int a5] (mPre D y h q sz I R)) (mQi D y h q (mS y h q sz) z) 0 0 (mS y h q sz) := by
  refine Met.ofW (cc := cX8_copy) (maxL := 10) (ret := some .int) (by decide) rfl ?_
  intro p e s m args below meth c s₁ B hml hv
  obtain ⟨rfl, hsz, hP, hK, hD⟩ := hv
  subst hsz
  have hl := lv_entry ([.ref h, .int a1, .int a2, .int a3, .int a4, .int a5]) (n := 10) (Nat.le_of_ble_eq_true rfl)
  rw [lg_entry_eq]
  exact fX8_copy_w (s := s) ⟨⟨B.exec, B.bytes, hml, findClass_of_methodNamed B.named, atoms_spec (ws := wsX8_copy) B.pre⟩, fun _ h9 => List.mem_cons_of_mem _ (List.mem_append_right _ h9), hK⟩ ⟨B.returns, B.notSynchronized⟩ ⟨hP, mS_D hD, va_S.rf⟩ hl e0
def rmX8_begins : Room := { frames := 0, cells := 0, slots := 0, locals := 0 }
def fX8_begins (n : Nat) (a1 : Int32) (I : Nat → Int32) (R : Nat → Nat → Int32) : Option (mSt) :=
  some ((upd I 1 ((31 * (I 1)) + a1)), R)
set_option maxRecDepth 20000 in
set_option maxHeartbeats 1000000 in
theorem fX8_begins_w {p : Program} {l : Launch} {e : Env} {s : State} {m : MethodId} {args : Array Value} {below : List Frame} {meth : Method} {c : Code} {D : va_G} {y : ClassId} {h : Nat} {q : Nat → Nat} {n : Nat} {z : mSt} (X : mX p s m args c cX8_begins 2 wsX8_begins D y) (hr : meth.sig.returnType = none ∧ meth.locks = false) {a1 : Int32} {I : Nat → Int32} {R : Nat → Nat → Int32} {H : Heap} {locs : List Loc} {ls : Array Slot} (w : mH s D y h q H locs I R) (hl : lv_has ls 2 [(0, .ref h), (1, .int a1)]) (e0 : fX8_begins n a1 I R = some z) : W p l e rmX8_begins s m args below meth c H locs 0 0 (MQ below (mQv D y h q (mS y h q s.heap.size) z) args s 0 0 (mS y h q s.heap.size)) (F0 m 0 ls []) := by
  have hx := X.1.1
  have hb := X.1.2.1
  unfold fX8_begins at e0
  refine lv_aload_n hx hb dX8_begins_0 rfl (lv_at hl 0 rfl) ?_
  refine lv_bipush (v := 31) hx hb dX8_begins_1 (by decide) ?_
  refine lv_aload_n hx hb dX8_begins_3 rfl (lv_at hl 0 rfl) ?_
  refine m_get X w 1 (by decide) (index := 255) rfl (by decide +kernel) (mfi1 _ _) dX8_begins_4 ?_
  refine lv_imul hx hb dX8_begins_7 ?_
  refine lv_iload_n hx hb dX8_begins_8 rfl (lv_at hl 1 rfl) ?_
  refine lv_iadd hx hb dX8_begins_9 ?_
  refine m_put X w 1 (by decide) (index := 255) rfl rfl (by decide +kernel) (by decide +kernel) (mps1 _ _ _) dX8_begins_10 (fun H locs w => ?_)
  have e0 := Option.some.inj e0
  subst e0
  exact m_vret X w hr dX8_begins_13
set_option maxRecDepth 20000 in
theorem fX8_begins_met (l : Launch) (D : va_G) (y : ClassId) (h : Nat) (q : Nat → Nat) (sz n : Nat) (a1 : Int32) (I : Nat → Int32) (R : Nat → Nat → Int32) (z : mSt) (e0 : fX8_begins n a1 I R = some z) : Met l yX8_begins wsX8_begins rmX8_begins (va_Pc [.ref h, .int a1] (mPre D y h q sz I R)) (mQv D y h q (mS y h q sz) z) 0 0 (mS y h q sz) := by
  refine Met.ofW (cc := cX8_begins) (maxL := 2) (ret := none) (by decide) rfl ?_
  intro p e s m args below meth c s₁ B hml hv
  obtain ⟨rfl, hsz, hP, hK, hD⟩ := hv
  subst hsz
  have hl := lv_entry ([.ref h, .int a1]) (n := 2) (Nat.le_of_ble_eq_true rfl)
  rw [lg_entry_eq]
  exact fX8_begins_w (s := s) ⟨⟨B.exec, B.bytes, hml, findClass_of_methodNamed B.named, atoms_spec (ws := wsX8_begins) B.pre⟩, fun _ h9 => List.mem_cons_of_mem _ (List.mem_append_right _ h9), hK⟩ ⟨B.returns, B.notSynchronized⟩ ⟨hP, mS_D hD, va_S.rf⟩ hl e0
def rmX8_speak : Room := { frames := 1, cells := 0, slots := 0, locals := 21 }
def fX8_speak (n : Nat) (a1 : Int32) (I : Nat → Int32) (R : Nat → Nat → Int32) : Option (Int32 × mSt) :=
  (fX8_isRule n a1 I R).bind fun z1 =>
  if z1.1 = 0 then
    some ((-1), z1.2.1, z1.2.2)
  else
    if inb a1 5 = true then
    if inb a1 5 = true then
    if (getA z1.2.2 7 a1) = 1 then
      (fX8_begins n 2 z1.2.1 z1.2.2).bind fun z17 =>
      (fX8_begins n 1 z17.1 z17.2).bind fun z19 =>
      some (((getA z1.2.2 8 a1) + 100), z19.1, z19.2)
    else
      if (getA z1.2.2 7 a1) = 2 then
        (fX8_begins n 3 z1.2.1 z1.2.2).bind fun z9 =>
        (fX8_begins n 2 z9.1 z9.2).bind fun z11 =>
        (fX8_begins n 1 z11.1 z11.2).bind fun z13 =>
        (fX8_begins n 1 z13.1 z13.2).bind fun z15 =>
        some (((2 * (getA z1.2.2 8 a1)) + 100), z15.1, z15.2)
      else
        (fX8_begins n 1 z1.2.1 z1.2.2).bind fun z7 =>
        some ((getA z1.2.2 8 a1), z7.1, z7.2)
    else none
    else none
set_option maxRecDepth 20000 in
set_option maxHeartbeats 1000000 in
theorem fX8_speak_w {p : Program} {l : Launch} {e : Env} {s : State} {m : MethodId} {args : Array Value} {below : List Frame} {meth : Method} {c : Code} {D : va_G} {y : ClassId} {h : Nat} {q : Nat → Nat} {n : Nat} {z : Int32 × mSt} (X : mX p s m args c cX8_speak 3 wsX8_speak D y) (hr : meth.sig.returnType = some .int ∧ meth.locks = false) {a1 : Int32} {I : Nat → Int32} {R : Nat → Nat → Int32} {H : Heap} {locs : List Loc} {ls : Array Slot} (w : mH s D y h q H locs I R) (hl : lv_has ls 3 [(0, .ref h), (1, .int a1)]) (e0 : fX8_speak n a1 I R = some z) : W p l e rmX8_speak s m args below meth c H locs 0 0 (MQ below (mQi D y h q (mS y h q s.heap.size) z) args s 0 0 (mS y h q s.heap.size)) (F0 m 0 ls []) := by
  have hx := X.1.1
  have hb := X.1.2.1
  unfold fX8_speak at e0
  refine lv_aload_n hx hb dX8_speak_0 rfl (lv_at hl 0 rfl) ?_
  refine lv_iload_n hx hb dX8_speak_1 rfl (lv_at hl 1 rfl) ?_
  refine bd e0 (fun z1 e2 e0 => ?_)
  refine m_calli X w (n := 1) (As := [.int a1]) (rest := []) (fX8_isRule_met l _ _ _ _ _ _ _ _ _ _ e2) gX8_speak_X8_isRule rfl rfl rfl (by decide +kernel) ⟨Nat.le_of_ble_eq_true rfl, Nat.le_of_ble_eq_true rfl⟩ rfl hl.1 rfl (Nat.le_of_ble_eq_true rfl) dX8_speak_2 (fun H locs w => ?_)
  refine lv_if_ne (tgt := 10) hx hb dX8_speak_5 (by decide) (fun c21 => ?_) (fun c21 => ?_)
  · have e0 := itn _ c21 e0
    refine lv_aload_n hx hb dX8_speak_10 rfl (lv_at hl 0 rfl) ?_
    refine m_get X w 8 (by decide) (index := 22) rfl (by decide +kernel) (mfr8 _ _) dX8_speak_11 ?_
    refine lv_iload_n hx hb dX8_speak_14 rfl (lv_at hl 1 rfl) ?_
    refine gd e0 (fun g3 e0 => ?_)
    refine m_ald X w 5 8 (mat8 _ _ _ _ _) g3 dX8_speak_15 ?_
    refine lv_istore_n (lv' := [(2, .int (getA z1.2.2 8 a1)), (0, .ref h), (1, .int a1)]) hx hb dX8_speak_16 rfl hl (by decide) rfl (fun ls hl => ?_)
    refine lv_aload_n hx hb dX8_speak_17 rfl (lv_at hl 1 rfl) ?_
    refine m_get X w 7 (by decide) (index := 19) rfl (by decide +kernel) (mfr7 _ _) dX8_speak_18 ?_
    refine lv_iload_n hx hb dX8_speak_21 rfl (lv_at hl 2 rfl) ?_
    refine gd e0 (fun g4 e0 => ?_)
    refine m_ald X w 4 7 (mat7 _ _ _ _ _) g4 dX8_speak_22 ?_
    by_cases c5 : (getA z1.2.2 7 a1) = 1
    · have e0 := itp _ c5 e0
      refine lv_lookup (off := 25) (tgt := 48) hx hb dX8_speak_23 (by decide) (by rw [c5]; decide) (by decide) ?_
      refine lv_aload_n hx hb dX8_speak_48 rfl (lv_at hl 1 rfl) ?_
      refine lv_iconst (v := 2) hx hb dX8_speak_49 (by decide) ?_
      refine bd e0 (fun z17 e18 e0 => ?_)
      refine m_callv X w (n := 1) (As := [.int 2]) (rest := []) (fX8_begins_met l _ _ _ _ _ _ _ _ _ _ e18) gX8_speak_X8_begins rfl rfl rfl (by decide +kernel) ⟨Nat.le_of_ble_eq_true rfl, Nat.le_of_ble_eq_true rfl⟩ rfl hl.1 rfl (Nat.le_of_ble_eq_true rfl) dX8_speak_50 (fun H locs w => ?_)
      refine lv_aload_n hx hb dX8_speak_53 rfl (lv_at hl 1 rfl) ?_
      refine lv_iconst (v := 1) hx hb dX8_speak_54 (by decide) ?_
      refine bd e0 (fun z19 e20 e0 => ?_)
      refine m_callv X w (n := 1) (As := [.int 1]) (rest := []) (fX8_begins_met l _ _ _ _ _ _ _ _ _ _ e20) gX8_speak_X8_begins rfl rfl rfl (by decide +kernel) ⟨Nat.le_of_ble_eq_true rfl, Nat.le_of_ble_eq_true rfl⟩ rfl hl.1 rfl (Nat.le_of_ble_eq_true rfl) dX8_speak_55 (fun H locs w => ?_)
      refine lv_iload_n hx hb dX8_speak_58 rfl (lv_at hl 0 rfl) ?_
      refine lv_bipush (v := 100) hx hb dX8_speak_59 (by decide) ?_
      refine lv_iadd hx hb dX8_speak_61 ?_
      have e0 := Option.some.inj e0
      subst e0
      exact m_iret X w hr dX8_speak_62
    · have e0 := itn _ c5 e0
      by_cases c6 : (getA z1.2.2 7 a1) = 2
      · have e0 := itp _ c6 e0
        refine lv_lookup (off := 40) (tgt := 63) hx hb dX8_speak_23 (by decide) (by rw [c6]; decide) (by decide) ?_
        refine lv_aload_n hx hb dX8_speak_63 rfl (lv_at hl 1 rfl) ?_
        refine lv_iconst (v := 3) hx hb dX8_speak_64 (by decide) ?_
        refine bd e0 (fun z9 e10 e0 => ?_)
        refine m_callv X w (n := 1) (As := [.int 3]) (rest := []) (fX8_begins_met l _ _ _ _ _ _ _ _ _ _ e10) gX8_speak_X8_begins rfl rfl rfl (by decide +kernel) ⟨Nat.le_of_ble_eq_true rfl, Nat.le_of_ble_eq_true rfl⟩ rfl hl.1 rfl (Nat.le_of_ble_eq_true rfl) dX8_speak_65 (fun H locs w => ?_)
        refine lv_aload_n hx hb dX8_speak_68 rfl (lv_at hl 1 rfl) ?_
        refine lv_iconst (v := 2) hx hb dX8_speak_69 (by decide) ?_
        refine bd e0 (fun z11 e12 e0 => ?_)
        refine m_callv X w (n := 1) (As := [.int 2]) (rest := []) (fX8_begins_met l _ _ _ _ _ _ _ _ _ _ e12) gX8_speak_X8_begins rfl rfl rfl (by decide +kernel) ⟨Nat.le_of_ble_eq_true rfl, Nat.le_of_ble_eq_true rfl⟩ rfl hl.1 rfl (Nat.le_of_ble_eq_true rfl) dX8_speak_70 (fun H locs w => ?_)
        refine lv_aload_n hx hb dX8_speak_73 rfl (lv_at hl 1 rfl) ?_
        refine lv_iconst (v := 1) hx hb dX8_speak_74 (by decide) ?_
        refine bd e0 (fun z13 e14 e0 => ?_)
        refine m_callv X w (n := 1) (As := [.int 1]) (rest := []) (fX8_begins_met l _ _ _ _ _ _ _ _ _ _ e14) gX8_speak_X8_begins rfl rfl rfl (by decide +kernel) ⟨Nat.le_of_ble_eq_true rfl, Nat.le_of_ble_eq_true rfl⟩ rfl hl.1 rfl (Nat.le_of_ble_eq_true rfl) dX8_speak_75 (fun H locs w => ?_)
        refine lv_aload_n hx hb dX8_speak_78 rfl (lv_at hl 1 rfl) ?_
        refine lv_iconst (v := 1) hx hb dX8_speak_79 (by decide) ?_
        refine bd e0 (fun z15 e16 e0 => ?_)
        refine m_callv X w (n := 1) (As := [.int 1]) (rest := []) (fX8_begins_met l _ _ _ _ _ _ _ _ _ _ e16) gX8_speak_X8_begins rfl rfl rfl (by decide +kernel) ⟨Nat.le_of_ble_eq_true rfl, Nat.le_of_ble_eq_true rfl⟩ rfl hl.1 rfl (Nat.le_of_ble_eq_true rfl) dX8_speak_80 (fun H locs w => ?_)
        refine lv_iconst (v := 2) hx hb dX8_speak_83 (by decide) ?_
        refine lv_iload_n hx hb dX8_speak_84 rfl (lv_at hl 0 rfl) ?_
        refine lv_imul hx hb dX8_speak_85 ?_
        refine lv_bipush (v := 100) hx hb dX8_speak_86 (by decide) ?_
        refine lv_iadd hx hb dX8_speak_88 ?_
        have e0 := Option.some.inj e0
        subst e0
        exact m_iret X w hr dX8_speak_89
      · have e0 := itn _ c6 e0
        refine lv_lookup (off := 67) (tgt := 90) hx hb dX8_speak_23 (by decide) (by show Op.lookupswitch.offset [(1, 25), (2, 40)] 67 _ = 67; rw [lv_osw c5 (by decide), lv_osw c6 (by decide)]; rfl) (by decide) ?_
        refine lv_aload_n hx hb dX8_speak_90 rfl (lv_at hl 1 rfl) ?_
        refine lv_iconst (v := 1) hx hb dX8_speak_91 (by decide) ?_
        refine bd e0 (fun z7 e8 e0 => ?_)
        refine m_callv X w (n := 1) (As := [.int 1]) (rest := []) (fX8_begins_met l _ _ _ _ _ _ _ _ _ _ e8) gX8_speak_X8_begins rfl rfl rfl (by decide +kernel) ⟨Nat.le_of_ble_eq_true rfl, Nat.le_of_ble_eq_true rfl⟩ rfl hl.1 rfl (Nat.le_of_ble_eq_true rfl) dX8_speak_92 (fun H locs w => ?_)
        refine lv_iload_n hx hb dX8_speak_95 rfl (lv_at hl 0 rfl) ?_
        have e0 := Option.some.inj e0
        subst e0
        exact m_iret X w hr dX8_speak_96
  · have e0 := itp _ c21 e0
    refine lv_iconst (v := (-1)) hx hb dX8_speak_8 (by decide) ?_
    have e0 := Option.some.inj e0
    subst e0
    exact m_iret X w hr dX8_speak_9
set_option maxRecDepth 20000 in
theorem fX8_speak_met (l : Launch) (D : va_G) (y : ClassId) (h : Nat) (q : Nat → Nat) (sz n : Nat) (a1 : Int32) (I : Nat → Int32) (R : Nat → Nat → Int32) (z : Int32 × mSt) (e0 : fX8_speak n a1 I R = some z) : Met l yX8_speak wsX8_speak rmX8_speak (va_Pc [.ref h, .int a1] (mPre D y h q sz I R)) (mQi D y h q (mS y h q sz) z) 0 0 (mS y h q sz) := by
  refine Met.ofW (cc := cX8_speak) (maxL := 3) (ret := some .int) (by decide) rfl ?_
  intro p e s m args below meth c s₁ B hml hv
  obtain ⟨rfl, hsz, hP, hK, hD⟩ := hv
  subst hsz
  have hl := lv_entry ([.ref h, .int a1]) (n := 3) (Nat.le_of_ble_eq_true rfl)
  rw [lg_entry_eq]
  exact fX8_speak_w (s := s) ⟨⟨B.exec, B.bytes, hml, findClass_of_methodNamed B.named, atoms_spec (ws := wsX8_speak) B.pre⟩, fun _ h9 => List.mem_cons_of_mem _ (List.mem_append_right _ h9), hK⟩ ⟨B.returns, B.notSynchronized⟩ ⟨hP, mS_D hD, va_S.rf⟩ hl e0
def rmX8_quote : Room := { frames := 1, cells := 0, slots := 0, locals := 21 }
def fX8_quote_b26 (n : Nat) (a1 : Int32) (t0 : Int32) (I : Nat → Int32) (R : Nat → Nat → Int32) : Option (Int32 × mSt) :=
  (fX8_begins n t0 I R).bind fun z6 =>
  if inb a1 5 = true then
  if (getA z6.2 7 a1) = 2 then
    some (40, z6.1, z6.2)
  else
    if inb a1 5 = true then
    some ((getA z6.2 10 a1), z6.1, z6.2)
    else none
  else none
set_option maxRecDepth 20000 in
set_option maxHeartbeats 1000000 in
theorem fX8_quote_b26_w {p : Program} {l : Launch} {e : Env} {s : State} {m : MethodId} {args : Array Value} {below : List Frame} {meth : Method} {c : Code} {D : va_G} {y : ClassId} {h : Nat} {q : Nat → Nat} {n : Nat} {z : Int32 × mSt} (X : mX p s m args c cX8_quote 2 wsX8_quote D y) (hr : meth.sig.returnType = some .int ∧ meth.locks = false) {a1 : Int32} {t0 : Int32} {I : Nat → Int32} {R : Nat → Nat → Int32} {H : Heap} {locs : List Loc} {ls : Array Slot} (w : mH s D y h q H locs I R) (hl : lv_has ls 2 [(0, .ref h), (1, .int a1)]) (e0 : fX8_quote_b26 n a1 t0 I R = some z) : W p l e rmX8_quote s m args below meth c H locs 0 0 (MQ below (mQi D y h q (mS y h q s.heap.size) z) args s 0 0 (mS y h q s.heap.size)) (F0 m 26 ls [.int t0, .ref h]) := by
  have hx := X.1.1
  have hb := X.1.2.1
  unfold fX8_quote_b26 at e0
  refine bd e0 (fun z6 e7 e0 => ?_)
  refine m_callv X w (n := 1) (As := [.int t0]) (rest := []) (fX8_begins_met l _ _ _ _ _ _ _ _ _ _ e7) gX8_quote_X8_begins rfl rfl rfl (by decide +kernel) ⟨Nat.le_of_ble_eq_true rfl, Nat.le_of_ble_eq_true rfl⟩ rfl hl.1 rfl (Nat.le_of_ble_eq_true rfl) dX8_quote_26 (fun H locs w => ?_)
  refine lv_aload_n hx hb dX8_quote_29 rfl (lv_at hl 0 rfl) ?_
  refine m_get X w 7 (by decide) (index := 19) rfl (by decide +kernel) (mfr7 _ _) dX8_quote_30 ?_
  refine lv_iload_n hx hb dX8_quote_33 rfl (lv_at hl 1 rfl) ?_
  refine gd e0 (fun g8 e0 => ?_)
  refine m_ald X w 4 7 (mat7 _ _ _ _ _) g8 dX8_quote_34 ?_
  refine lv_iconst (v := 2) hx hb dX8_quote_35 (by decide) ?_
  refine lv_icmp_ne (tgt := 44) hx hb dX8_quote_36 (by decide) (fun c10 => ?_) (fun c10 => ?_)
  · have e0 := itn _ c10 e0
    refine lv_aload_n hx hb dX8_quote_44 rfl (lv_at hl 0 rfl) ?_
    refine m_get X w 10 (by decide) (index := 28) rfl (by decide +kernel) (mfr10 _ _) dX8_quote_45 ?_
    refine lv_iload_n hx hb dX8_quote_48 rfl (lv_at hl 1 rfl) ?_
    refine gd e0 (fun g9 e0 => ?_)
    refine m_ald X w 7 10 (mat10 _ _ _ _ _) g9 dX8_quote_49 ?_
    have e0 := Option.some.inj e0
    subst e0
    exact m_iret X w hr dX8_quote_50
  · have e0 := itp _ c10 e0
    refine lv_bipush (v := 40) hx hb dX8_quote_39 (by decide) ?_
    refine lv_goto (tgt := 50) hx hb dX8_quote_41 (by decide) ?_
    have e0 := Option.some.inj e0
    subst e0
    exact m_iret X w hr dX8_quote_50
def fX8_quote (n : Nat) (a1 : Int32) (I : Nat → Int32) (R : Nat → Nat → Int32) : Option (Int32 × mSt) :=
  (fX8_isRule n a1 I R).bind fun z1 =>
  if z1.1 = 0 then
    some ((-1), z1.2.1, z1.2.2)
  else
    if inb a1 5 = true then
    if (getA z1.2.2 7 a1) = 2 then
      fX8_quote_b26 n a1 5 z1.2.1 z1.2.2
    else
      fX8_quote_b26 n a1 4 z1.2.1 z1.2.2
    else none
set_option maxRecDepth 20000 in
set_option maxHeartbeats 1000000 in
theorem fX8_quote_w {p : Program} {l : Launch} {e : Env} {s : State} {m : MethodId} {args : Array Value} {below : List Frame} {meth : Method} {c : Code} {D : va_G} {y : ClassId} {h : Nat} {q : Nat → Nat} {n : Nat} {z : Int32 × mSt} (X : mX p s m args c cX8_quote 2 wsX8_quote D y) (hr : meth.sig.returnType = some .int ∧ meth.locks = false) {a1 : Int32} {I : Nat → Int32} {R : Nat → Nat → Int32} {H : Heap} {locs : List Loc} {ls : Array Slot} (w : mH s D y h q H locs I R) (hl : lv_has ls 2 [(0, .ref h), (1, .int a1)]) (e0 : fX8_quote n a1 I R = some z) : W p l e rmX8_quote s m args below meth c H locs 0 0 (MQ below (mQi D y h q (mS y h q s.heap.size) z) args s 0 0 (mS y h q s.heap.size)) (F0 m 0 ls []) := by
  have hx := X.1.1
  have hb := X.1.2.1
  unfold fX8_quote at e0
  refine lv_aload_n hx hb dX8_quote_0 rfl (lv_at hl 0 rfl) ?_
  refine lv_iload_n hx hb dX8_quote_1 rfl (lv_at hl 1 rfl) ?_
  refine bd e0 (fun z1 e2 e0 => ?_)
  refine m_calli X w (n := 1) (As := [.int a1]) (rest := []) (fX8_isRule_met l _ _ _ _ _ _ _ _ _ _ e2) gX8_quote_X8_isRule rfl rfl rfl (by decide +kernel) ⟨Nat.le_of_ble_eq_true rfl, Nat.le_of_ble_eq_true rfl⟩ rfl hl.1 rfl (Nat.le_of_ble_eq_true rfl) dX8_quote_2 (fun H locs w => ?_)
  refine lv_if_ne (tgt := 10) hx hb dX8_quote_5 (by decide) (fun c5 => ?_) (fun c5 => ?_)
  · have e0 := itn _ c5 e0
    refine lv_aload_n hx hb dX8_quote_10 rfl (lv_at hl 0 rfl) ?_
    refine lv_aload_n hx hb dX8_quote_11 rfl (lv_at hl 0 rfl) ?_
    refine m_get X w 7 (by decide) (index := 19) rfl (by decide +kernel) (mfr7 _ _) dX8_quote_12 ?_
    refine lv_iload_n hx hb dX8_quote_15 rfl (lv_at hl 1 rfl) ?_
    refine gd e0 (fun g3 e0 => ?_)
    refine m_ald X w 4 7 (mat7 _ _ _ _ _) g3 dX8_quote_16 ?_
    refine lv_iconst (v := 2) hx hb dX8_quote_17 (by decide) ?_
    refine lv_icmp_ne (tgt := 25) hx hb dX8_quote_18 (by decide) (fun c4 => ?_) (fun c4 => ?_)
    · have e0 := itn _ c4 e0
      refine lv_iconst (v := 4) hx hb dX8_quote_25 (by decide) ?_
      exact fX8_quote_b26_w (l := l) X hr w (lv_sub hl [0, 1] rfl) e0
    · have e0 := itp _ c4 e0
      refine lv_iconst (v := 5) hx hb dX8_quote_21 (by decide) ?_
      refine lv_goto (tgt := 26) hx hb dX8_quote_22 (by decide) ?_
      exact fX8_quote_b26_w (l := l) X hr w (lv_sub hl [0, 1] rfl) e0
  · have e0 := itp _ c5 e0
    refine lv_iconst (v := (-1)) hx hb dX8_quote_8 (by decide) ?_
    have e0 := Option.some.inj e0
    subst e0
    exact m_iret X w hr dX8_quote_9
set_option maxRecDepth 20000 in
theorem fX8_quote_met (l : Launch) (D : va_G) (y : ClassId) (h : Nat) (q : Nat → Nat) (sz n : Nat) (a1 : Int32) (I : Nat → Int32) (R : Nat → Nat → Int32) (z : Int32 × mSt) (e0 : fX8_quote n a1 I R = some z) : Met l yX8_quote wsX8_quote rmX8_quote (va_Pc [.ref h, .int a1] (mPre D y h q sz I R)) (mQi D y h q (mS y h q sz) z) 0 0 (mS y h q sz) := by
  refine Met.ofW (cc := cX8_quote) (maxL := 2) (ret := some .int) (by decide) rfl ?_
  intro p e s m args below meth c s₁ B hml hv
  obtain ⟨rfl, hsz, hP, hK, hD⟩ := hv
  subst hsz
  have hl := lv_entry ([.ref h, .int a1]) (n := 2) (Nat.le_of_ble_eq_true rfl)
  rw [lg_entry_eq]
  exact fX8_quote_w (s := s) ⟨⟨B.exec, B.bytes, hml, findClass_of_methodNamed B.named, atoms_spec (ws := wsX8_quote) B.pre⟩, fun _ h9 => List.mem_cons_of_mem _ (List.mem_append_right _ h9), hK⟩ ⟨B.returns, B.notSynchronized⟩ ⟨hP, mS_D hD, va_S.rf⟩ hl e0
def rmX8_as : Room := { frames := 1, cells := 0, slots := 0, locals := 22 }
def fX8_as (n : Nat) (a1 : Int32) (a2 : Int32) (I : Nat → Int32) (R : Nat → Nat → Int32) : Option (Int32 × mSt) :=
  (fX8_isRule n a1 (upd I 0 0) R).bind fun z1 =>
  if z1.1 = 0 then
    some ((-1), z1.2.1, z1.2.2)
  else
    (fX8_within n a2 0 2).bind fun z3 =>
    if z3 = 0 then
      some ((-2), z1.2.1, z1.2.2)
    else
      if inb a1 5 = true then
      if (getA z1.2.2 7 a1) < a2 then
        (fX8_fails n 2 z1.2.1 z1.2.2).bind fun z6 =>
        some (z6.1, z6.2.1, z6.2.2)
      else
        some (1, z1.2.1, z1.2.2)
      else none
set_option maxRecDepth 20000 in
set_option maxHeartbeats 1000000 in
theorem fX8_as_w {p : Program} {l : Launch} {e : Env} {s : State} {m : MethodId} {args : Array Value} {below : List Frame} {meth : Method} {c : Code} {D : va_G} {y : ClassId} {h : Nat} {q : Nat → Nat} {n : Nat} {z : Int32 × mSt} (X : mX p s m args c cX8_as 3 wsX8_as D y) (hr : meth.sig.returnType = some .int ∧ meth.locks = false) {a1 : Int32} {a2 : Int32} {I : Nat → Int32} {R : Nat → Nat → Int32} {H : Heap} {locs : List Loc} {ls : Array Slot} (w : mH s D y h q H locs I R) (hl : lv_has ls 3 [(0, .ref h), (1, .int a1), (2, .int a2)]) (e0 : fX8_as n a1 a2 I R = some z) : W p l e rmX8_as s m args below meth c H locs 0 0 (MQ below (mQi D y h q (mS y h q s.heap.size) z) args s 0 0 (mS y h q s.heap.size)) (F0 m 0 ls []) := by
  have hx := X.1.1
  have hb := X.1.2.1
  unfold fX8_as at e0
  refine lv_aload_n hx hb dX8_as_0 rfl (lv_at hl 0 rfl) ?_
  refine lv_iconst (v := 0) hx hb dX8_as_1 (by decide) ?_
  refine m_put X w 0 (by decide) (index := 82) rfl rfl (by decide +kernel) (by decide +kernel) (mps0 _ _ _) dX8_as_2 (fun H locs w => ?_)
  refine lv_aload_n hx hb dX8_as_5 rfl (lv_at hl 0 rfl) ?_
  refine lv_iload_n hx hb dX8_as_6 rfl (lv_at hl 1 rfl) ?_
  refine bd e0 (fun z1 e2 e0 => ?_)
  refine m_calli X w (n := 1) (As := [.int a1]) (rest := []) (fX8_isRule_met l _ _ _ _ _ _ _ _ _ _ e2) gX8_as_X8_isRule rfl rfl rfl (by decide +kernel) ⟨Nat.le_of_ble_eq_true rfl, Nat.le_of_ble_eq_true rfl⟩ rfl hl.1 rfl (Nat.le_of_ble_eq_true rfl) dX8_as_7 (fun H locs w => ?_)
  refine lv_if_ne (tgt := 15) hx hb dX8_as_10 (by decide) (fun c10 => ?_) (fun c10 => ?_)
  · have e0 := itn _ c10 e0
    refine lv_iload_n hx hb dX8_as_15 rfl (lv_at hl 2 rfl) ?_
    refine lv_iconst (v := 0) hx hb dX8_as_16 (by decide) ?_
    refine lv_iconst (v := 2) hx hb dX8_as_17 (by decide) ?_
    refine bd e0 (fun z3 e4 e0 => ?_)
    refine m_callsi X w (n := 3) (As := [.int a2, .int 0, .int 2]) (rest := []) (fX8_within_met l _ _ _ _ _ e4) gX8_as_X8_within rfl rfl rfl (by decide +kernel) ⟨Nat.le_of_ble_eq_true rfl, Nat.le_of_ble_eq_true rfl⟩ rfl hl.1 rfl (Nat.le_of_ble_eq_true rfl) dX8_as_18 (fun H locs w => ?_)
    refine lv_if_ne (tgt := 27) hx hb dX8_as_21 (by decide) (fun c9 => ?_) (fun c9 => ?_)
    · have e0 := itn _ c9 e0
      refine lv_aload_n hx hb dX8_as_27 rfl (lv_at hl 0 rfl) ?_
      refine m_get X w 7 (by decide) (index := 19) rfl (by decide +kernel) (mfr7 _ _) dX8_as_28 ?_
      refine lv_iload_n hx hb dX8_as_31 rfl (lv_at hl 1 rfl) ?_
      refine gd e0 (fun g5 e0 => ?_)
      refine m_ald X w 4 7 (mat7 _ _ _ _ _) g5 dX8_as_32 ?_
      refine lv_iload_n hx hb dX8_as_33 rfl (lv_at hl 2 rfl) ?_
      refine lv_icmp_lt (tgt := 41) hx hb dX8_as_34 (by decide) (fun c8 => ?_) (fun c8 => ?_)
      · have e0 := itp _ c8 e0
        refine lv_aload_n hx hb dX8_as_41 rfl (lv_at hl 0 rfl) ?_
        refine lv_iconst (v := 2) hx hb dX8_as_42 (by decide) ?_
        refine bd e0 (fun z6 e7 e0 => ?_)
        refine m_calli X w (n := 1) (As := [.int 2]) (rest := []) (fX8_fails_met l _ _ _ _ _ _ _ _ _ _ e7) gX8_as_X8_fails rfl rfl rfl (by decide +kernel) ⟨Nat.le_of_ble_eq_true rfl, Nat.le_of_ble_eq_true rfl⟩ rfl hl.1 rfl (Nat.le_of_ble_eq_true rfl) dX8_as_43 (fun H locs w => ?_)
        have e0 := Option.some.inj e0
        subst e0
        exact m_iret X w hr dX8_as_46
      · have e0 := itn _ c8 e0
        refine lv_iconst (v := 1) hx hb dX8_as_37 (by decide) ?_
        refine lv_goto (tgt := 46) hx hb dX8_as_38 (by decide) ?_
        have e0 := Option.some.inj e0
        subst e0
        exact m_iret X w hr dX8_as_46
    · have e0 := itp _ c9 e0
      refine lv_bipush (v := (-2)) hx hb dX8_as_24 (by decide) ?_
      have e0 := Option.some.inj e0
      subst e0
      exact m_iret X w hr dX8_as_26
  · have e0 := itp _ c10 e0
    refine lv_iconst (v := (-1)) hx hb dX8_as_13 (by decide) ?_
    have e0 := Option.some.inj e0
    subst e0
    exact m_iret X w hr dX8_as_14
set_option maxRecDepth 20000 in
theorem fX8_as_met (l : Launch) (D : va_G) (y : ClassId) (h : Nat) (q : Nat → Nat) (sz n : Nat) (a1 : Int32) (a2 : Int32) (I : Nat → Int32) (R : Nat → Nat → Int32) (z : Int32 × mSt) (e0 : fX8_as n a1 a2 I R = some z) : Met l yX8_as wsX8_as rmX8_as (va_Pc [.ref h, .int a1, .int a2] (mPre D y h q sz I R)) (mQi D y h q (mS y h q sz) z) 0 0 (mS y h q sz) := by
  refine Met.ofW (cc := cX8_as) (maxL := 3) (ret := some .int) (by decide) rfl ?_
  intro p e s m args below meth c s₁ B hml hv
  obtain ⟨rfl, hsz, hP, hK, hD⟩ := hv
  subst hsz
  have hl := lv_entry ([.ref h, .int a1, .int a2]) (n := 3) (Nat.le_of_ble_eq_true rfl)
  rw [lg_entry_eq]
  exact fX8_as_w (s := s) ⟨⟨B.exec, B.bytes, hml, findClass_of_methodNamed B.named, atoms_spec (ws := wsX8_as) B.pre⟩, fun _ h9 => List.mem_cons_of_mem _ (List.mem_append_right _ h9), hK⟩ ⟨B.returns, B.notSynchronized⟩ ⟨hP, mS_D hD, va_S.rf⟩ hl e0
