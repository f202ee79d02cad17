def rmX8_does : Room := { frames := 4, cells := 0, slots := 0, locals := 94 }
def fX8_does (n : Nat) (a1 : Int32) (I : Nat → Int32) (R : Nat → Nat → Int32) : Option (Int32 × mSt) :=
  if inb a1 240 = true then
  if inb (a1 + 1) 240 = true then
  if inb (a1 + 2) 240 = true then
  if (getA R 4 a1) < 10 then
    (fX8_isRelation n (getA R 4 a1) I R).bind fun z4 =>
    if z4.1 = 0 then
      some (0, z4.2.1, z4.2.2)
    else
      (fX8_isThing n (getA R 4 (a1 + 1))).bind fun z6 =>
      if z6 = 0 then
        some (0, z4.2.1, z4.2.2)
      else
        (fX8_isThing n (getA R 4 (a1 + 2))).bind fun z8 =>
        if z8 = 0 then
          some (0, z4.2.1, z4.2.2)
        else
          (fX8_factOf n (getA R 4 a1) (getA R 4 (a1 + 1)) (getA R 4 (a1 + 2))).bind fun z10 =>
          (fX8_factOf n (getA R 4 a1) (getA R 4 (a1 + 1)) (getA R 4 (a1 + 2))).bind fun z12 =>
          if inb z12 64 = true then
          if inb z10 64 = true then
          some (1, z4.2.1, (setA z4.2.2 13 z10 (1 - (getA z4.2.2 13 z12))))
          else none
          else none
  else
    (fX8_isRule n ((getA R 4 a1) - 10) I R).bind fun z19 =>
    if z19.1 = 0 then
      some (0, z19.2.1, z19.2.2)
    else
      (fX8_isForm n ((getA R 4 a1) - 10) (getA R 4 (a1 + 1)) z19.2.1 z19.2.2).bind fun z21 =>
      if z21.1 = 0 then
        some (0, z21.2.1, z21.2.2)
      else
        (fX8_gets n ((getA R 4 a1) - 10) (getA R 4 (a1 + 1)) z21.2.1 z21.2.2).bind fun z23 =>
        if z23.1 = 0 then
          some (0, z23.2.1, z23.2.2)
        else
          some (1, z23.2.1, z23.2.2)
  else none
  else none
  else none
set_option maxRecDepth 20000 in
set_option maxHeartbeats 1000000 in
theorem fX8_does_w {p : Program} {l : Launch} {e : Env} {s : State} {m : MethodId} {args : Array Value} {below : List Frame} {meth : Method} {c : Code} {D : va_G} {y : ClassId} {h : Nat} {q : Nat → Nat} {n : Nat} {z : Int32 × mSt} (X : mX p s m args c cX8_does 6 wsX8_does D y) (hr : meth.sig.returnType = some .boolean ∧ meth.locks = false) {a1 : Int32} {I : Nat → Int32} {R : Nat → Nat → Int32} {H : Heap} {locs : List Loc} {ls : Array Slot} (w : mH s D y h q H locs I R) (hl : lv_has ls 6 [(0, .ref h), (1, .int a1)]) (e0 : fX8_does n a1 I R = some z) : W p l e rmX8_does s m args below meth c H locs 0 0 (MQ below (mQi D y h q (mS y h q s.heap.size) z) args s 0 0 (mS y h q s.heap.size)) (F0 m 0 ls []) := by
  have hx := X.1.1
  have hb := X.1.2.1
  unfold fX8_does at e0
  refine lv_aload_n hx hb dX8_does_0 rfl (lv_at hl 0 rfl) ?_
  refine m_get X w 4 (by decide) (index := 16) rfl (by decide +kernel) (mfr4 _ _) dX8_does_1 ?_
  refine lv_iload_n hx hb dX8_does_4 rfl (lv_at hl 1 rfl) ?_
  refine gd e0 (fun g1 e0 => ?_)
  refine m_ald X w 3 4 (mat4 _ _ _ _ _) g1 dX8_does_5 ?_
  refine lv_istore_n (lv' := [(2, .int (getA R 4 a1)), (0, .ref h), (1, .int a1)]) hx hb dX8_does_6 rfl hl (by decide) rfl (fun ls hl => ?_)
  refine lv_aload_n hx hb dX8_does_7 rfl (lv_at hl 1 rfl) ?_
  refine m_get X w 4 (by decide) (index := 16) rfl (by decide +kernel) (mfr4 _ _) dX8_does_8 ?_
  refine lv_iload_n hx hb dX8_does_11 rfl (lv_at hl 2 rfl) ?_
  refine lv_iconst (v := 1) hx hb dX8_does_12 (by decide) ?_
  refine lv_iadd hx hb dX8_does_13 ?_
  refine gd e0 (fun g2 e0 => ?_)
  refine m_ald X w 3 4 (mat4 _ _ _ _ _) g2 dX8_does_14 ?_
  refine lv_istore_n (lv' := [(3, .int (getA R 4 (a1 + 1))), (2, .int (getA R 4 a1)), (0, .ref h), (1, .int a1)]) hx hb dX8_does_15 rfl hl (by decide) rfl (fun ls hl => ?_)
  refine lv_aload_n hx hb dX8_does_16 rfl (lv_at hl 2 rfl) ?_
  refine m_get X w 4 (by decide) (index := 16) rfl (by decide +kernel) (mfr4 _ _) dX8_does_17 ?_
  refine lv_iload_n hx hb dX8_does_20 rfl (lv_at hl 3 rfl) ?_
  refine lv_iconst (v := 2) hx hb dX8_does_21 (by decide) ?_
  refine lv_iadd hx hb dX8_does_22 ?_
  refine gd e0 (fun g3 e0 => ?_)
  refine m_ald X w 3 4 (mat4 _ _ _ _ _) g3 dX8_does_23 ?_
  refine lv_istore (lv' := [(4, .int (getA R 4 (a1 + 2))), (3, .int (getA R 4 (a1 + 1))), (2, .int (getA R 4 a1)), (0, .ref h), (1, .int a1)]) hx hb dX8_does_24 hl (by decide) rfl (fun ls hl => ?_)
  refine lv_iload_n hx hb dX8_does_26 rfl (lv_at hl 2 rfl) ?_
  refine lv_bipush (v := 10) hx hb dX8_does_27 (by decide) ?_
  refine lv_icmp_lt (tgt := 73) hx hb dX8_does_29 (by decide) (fun c28 => ?_) (fun c28 => ?_)
  · have e0 := itp _ c28 e0
    refine lv_aload_n hx hb dX8_does_73 rfl (lv_at hl 3 rfl) ?_
    refine lv_iload_n hx hb dX8_does_74 rfl (lv_at hl 2 rfl) ?_
    refine bd e0 (fun z4 e5 e0 => ?_)
    refine m_calli X w (n := 1) (As := [.int (getA R 4 a1)]) (rest := []) (fX8_isRelation_met l _ _ _ _ _ _ _ _ _ _ e5) gX8_does_X8_isRelation rfl rfl rfl (by decide +kernel) ⟨Nat.le_of_ble_eq_true rfl, Nat.le_of_ble_eq_true rfl⟩ rfl hl.1 rfl (Nat.le_of_ble_eq_true rfl) dX8_does_75 (fun H locs w => ?_)
    refine lv_if_eq (tgt := 96) hx hb dX8_does_78 (by decide) (fun c18 => ?_) (fun c18 => ?_)
    · have e0 := itp _ c18 e0
      refine lv_iconst (v := 0) hx hb dX8_does_96 (by decide) ?_
      have e0 := Option.some.inj e0
      subst e0
      exact m_zret X w hr rfl dX8_does_97
    · have e0 := itn _ c18 e0
      refine lv_iload_n hx hb dX8_does_81 rfl (lv_at hl 1 rfl) ?_
      refine bd e0 (fun z6 e7 e0 => ?_)
      refine m_callsi X w (n := 1) (As := [.int (getA R 4 (a1 + 1))]) (rest := []) (fX8_isThing_met l _ _ _ e7) gX8_does_X8_isThing rfl rfl rfl (by decide +kernel) ⟨Nat.le_of_ble_eq_true rfl, Nat.le_of_ble_eq_true rfl⟩ rfl hl.1 rfl (Nat.le_of_ble_eq_true rfl) dX8_does_82 (fun H locs w => ?_)
      refine lv_if_eq (tgt := 96) hx hb dX8_does_85 (by decide) (fun c17 => ?_) (fun c17 => ?_)
      · have e0 := itp _ c17 e0
        refine lv_iconst (v := 0) hx hb dX8_does_96 (by decide) ?_
        have e0 := Option.some.inj e0
        subst e0
        exact m_zret X w hr rfl dX8_does_97
      · have e0 := itn _ c17 e0
        refine lv_iload hx hb dX8_does_88 (lv_at hl 0 rfl) ?_
        refine bd e0 (fun z8 e9 e0 => ?_)
        refine m_callsi X w (n := 1) (As := [.int (getA R 4 (a1 + 2))]) (rest := []) (fX8_isThing_met l _ _ _ e9) gX8_does_X8_isThing rfl rfl rfl (by decide +kernel) ⟨Nat.le_of_ble_eq_true rfl, Nat.le_of_ble_eq_true rfl⟩ rfl hl.1 rfl (Nat.le_of_ble_eq_true rfl) dX8_does_90 (fun H locs w => ?_)
        refine lv_if_ne (tgt := 98) hx hb dX8_does_93 (by decide) (fun c16 => ?_) (fun c16 => ?_)
        · have e0 := itn _ c16 e0
          refine lv_aload_n hx hb dX8_does_98 rfl (lv_at hl 3 rfl) ?_
          refine m_get X w 13 (by decide) (index := 37) rfl (by decide +kernel) (mfr13 _ _) dX8_does_99 ?_
          refine lv_iload_n hx hb dX8_does_102 rfl (lv_at hl 2 rfl) ?_
          refine lv_iload_n hx hb dX8_does_103 rfl (lv_at hl 1 rfl) ?_
          refine lv_iload hx hb dX8_does_104 (lv_at hl 0 rfl) ?_
          refine bd e0 (fun z10 e11 e0 => ?_)
          refine m_callsi X w (n := 3) (As := [.int (getA R 4 a1), .int (getA R 4 (a1 + 1)), .int (getA R 4 (a1 + 2))]) (rest := [.ref (q 13)]) (fX8_factOf_met l _ _ _ _ _ e11) gX8_does_X8_factOf rfl rfl rfl (by decide +kernel) ⟨Nat.le_of_ble_eq_true rfl, Nat.le_of_ble_eq_true rfl⟩ rfl hl.1 rfl (Nat.le_of_ble_eq_true rfl) dX8_does_106 (fun H locs w => ?_)
          refine lv_iconst (v := 1) hx hb dX8_does_109 (by decide) ?_
          refine lv_aload_n hx hb dX8_does_110 rfl (lv_at hl 3 rfl) ?_
          refine m_get X w 13 (by decide) (index := 37) rfl (by decide +kernel) (mfr13 _ _) dX8_does_111 ?_
          refine lv_iload_n hx hb dX8_does_114 rfl (lv_at hl 2 rfl) ?_
          refine lv_iload_n hx hb dX8_does_115 rfl (lv_at hl 1 rfl) ?_
          refine lv_iload hx hb dX8_does_116 (lv_at hl 0 rfl) ?_
          refine bd e0 (fun z12 e13 e0 => ?_)
          refine m_callsi X w (n := 3) (As := [.int (getA R 4 a1), .int (getA R 4 (a1 + 1)), .int (getA R 4 (a1 + 2))]) (rest := [.ref (q 13), .int 1, .int z10, .ref (q 13)]) (fX8_factOf_met l _ _ _ _ _ e13) gX8_does_X8_factOf rfl rfl rfl (by decide +kernel) ⟨Nat.le_of_ble_eq_true rfl, Nat.le_of_ble_eq_true rfl⟩ rfl hl.1 rfl (Nat.le_of_ble_eq_true rfl) dX8_does_118 (fun H locs w => ?_)
          refine gd e0 (fun g14 e0 => ?_)
          refine m_ald X w 10 13 (mat13 _ _ _ _ _) g14 dX8_does_121 ?_
          refine lv_isub hx hb dX8_does_122 ?_
          refine gd e0 (fun g15 e0 => ?_)
          refine m_ast X w 10 13 (mat13 _ _ _ _ _) (mset13 _ _ _ _ _) g15 dX8_does_123 (fun H locs w => ?_)
          refine lv_iconst (v := 1) hx hb dX8_does_124 (by decide) ?_
          have e0 := Option.some.inj e0
          subst e0
          exact m_zret X w hr rfl dX8_does_125
        · have e0 := itp _ c16 e0
          refine lv_iconst (v := 0) hx hb dX8_does_96 (by decide) ?_
          have e0 := Option.some.inj e0
          subst e0
          exact m_zret X w hr rfl dX8_does_97
  · have e0 := itn _ c28 e0
    refine lv_iload_n hx hb dX8_does_32 rfl (lv_at hl 2 rfl) ?_
    refine lv_bipush (v := 10) hx hb dX8_does_33 (by decide) ?_
    refine lv_isub hx hb dX8_does_35 ?_
    refine lv_istore (lv' := [(5, .int ((getA R 4 a1) - 10)), (4, .int (getA R 4 (a1 + 2))), (3, .int (getA R 4 (a1 + 1))), (2, .int (getA R 4 a1)), (0, .ref h), (1, .int a1)]) hx hb dX8_does_36 hl (by decide) rfl (fun ls hl => ?_)
    refine lv_aload_n hx hb dX8_does_38 rfl (lv_at hl 4 rfl) ?_
    refine lv_iload hx hb dX8_does_39 (lv_at hl 0 rfl) ?_
    refine bd e0 (fun z19 e20 e0 => ?_)
    refine m_calli X w (n := 1) (As := [.int ((getA R 4 a1) - 10)]) (rest := []) (fX8_isRule_met l _ _ _ _ _ _ _ _ _ _ e20) gX8_does_X8_isRule rfl rfl rfl (by decide +kernel) ⟨Nat.le_of_ble_eq_true rfl, Nat.le_of_ble_eq_true rfl⟩ rfl hl.1 rfl (Nat.le_of_ble_eq_true rfl) dX8_does_41 (fun H locs w => ?_)
    refine lv_if_eq (tgt := 71) hx hb dX8_does_44 (by decide) (fun c27 => ?_) (fun c27 => ?_)
    · have e0 := itp _ c27 e0
      refine lv_iconst (v := 0) hx hb dX8_does_71 (by decide) ?_
      have e0 := Option.some.inj e0
      subst e0
      exact m_zret X w hr rfl dX8_does_72
    · have e0 := itn _ c27 e0
      refine lv_aload_n hx hb dX8_does_47 rfl (lv_at hl 4 rfl) ?_
      refine lv_iload hx hb dX8_does_48 (lv_at hl 0 rfl) ?_
      refine lv_iload_n hx hb dX8_does_50 rfl (lv_at hl 2 rfl) ?_
      refine bd e0 (fun z21 e22 e0 => ?_)
      refine m_calli X w (n := 2) (As := [.int ((getA R 4 a1) - 10), .int (getA R 4 (a1 + 1))]) (rest := []) (fX8_isForm_met l _ _ _ _ _ _ _ _ _ _ _ e22) gX8_does_X8_isForm rfl rfl rfl (by decide +kernel) ⟨Nat.le_of_ble_eq_true rfl, Nat.le_of_ble_eq_true rfl⟩ rfl hl.1 rfl (Nat.le_of_ble_eq_true rfl) dX8_does_51 (fun H locs w => ?_)
      refine lv_if_eq (tgt := 71) hx hb dX8_does_54 (by decide) (fun c26 => ?_) (fun c26 => ?_)
      · have e0 := itp _ c26 e0
        refine lv_iconst (v := 0) hx hb dX8_does_71 (by decide) ?_
        have e0 := Option.some.inj e0
        subst e0
        exact m_zret X w hr rfl dX8_does_72
      · have e0 := itn _ c26 e0
        refine lv_aload_n hx hb dX8_does_57 rfl (lv_at hl 4 rfl) ?_
        refine lv_iload hx hb dX8_does_58 (lv_at hl 0 rfl) ?_
        refine lv_iload_n hx hb dX8_does_60 rfl (lv_at hl 2 rfl) ?_
        refine bd e0 (fun z23 e24 e0 => ?_)
        refine m_calli X w (n := 2) (As := [.int ((getA R 4 a1) - 10), .int (getA R 4 (a1 + 1))]) (rest := []) (fX8_gets_met l _ _ _ _ _ _ _ _ _ _ _ e24) gX8_does_X8_gets rfl rfl rfl (by decide +kernel) ⟨Nat.le_of_ble_eq_true rfl, Nat.le_of_ble_eq_true rfl⟩ rfl hl.1 rfl (Nat.le_of_ble_eq_true rfl) dX8_does_61 (fun H locs w => ?_)
        refine lv_if_eq (tgt := 71) hx hb dX8_does_64 (by decide) (fun c25 => ?_) (fun c25 => ?_)
        · have e0 := itp _ c25 e0
          refine lv_iconst (v := 0) hx hb dX8_does_71 (by decide) ?_
          have e0 := Option.some.inj e0
          subst e0
          exact m_zret X w hr rfl dX8_does_72
        · have e0 := itn _ c25 e0
          refine lv_iconst (v := 1) hx hb dX8_does_67 (by decide) ?_
          refine lv_goto (tgt := 72) hx hb dX8_does_68 (by decide) ?_
          have e0 := Option.some.inj e0
          subst e0
          exact m_zret X w hr rfl dX8_does_72
set_option maxRecDepth 20000 in
theorem fX8_does_met (l : Launch) (D : va_G) (y : ClassId) (h : Nat) (q : Nat → Nat) (sz n : Nat) (a1 : Int32) (I : Nat → Int32) (R : Nat → Nat → Int32) (z : Int32 × mSt) (e0 : fX8_does n a1 I R = some z) : Met l yX8_does wsX8_does rmX8_does (va_Pc [.ref h, .int a1] (mPre D y h q sz I R)) (mQi D y h q (mS y h q sz) z) 0 0 (mS y h q sz) := by
  refine Met.ofW (cc := cX8_does) (maxL := 6) (ret := some .boolean) (by decide) rfl ?_
  intro p e s m args below meth c s₁ B hml hv
  obtain ⟨rfl, hsz, hP, hK, hD⟩ := hv
  subst hsz
  have hl := lv_entry ([.ref h, .int a1]) (n := 6) (Nat.le_of_ble_eq_true rfl)
  rw [lg_entry_eq]
  exact fX8_does_w (s := s) ⟨⟨B.exec, B.bytes, hml, findClass_of_methodNamed B.named, atoms_spec (ws := wsX8_does) B.pre⟩, fun _ h9 => List.mem_cons_of_mem _ (List.mem_append_right _ h9), hK⟩ ⟨B.returns, B.notSynchronized⟩ ⟨hP, mS_D hD, va_S.rf⟩ hl e0
def rmX8_goDay : Room := { frames := 5, cells := 0, slots := 0, locals := 119 }
def fX8_goDay_b2 (n : Nat) : Nat → Int32 → Int32 → Int32 → (Nat → Int32) → (Nat → Nat → Int32) → Option (Int32 × mSt)
  | 0, _, _, _, _, _ => none
  | j + 1, a1, a2, a3, I, R =>
    if a2 ≤ a3 then
      some ((-9), I, R)
    else
      (fX8_does n (a1 + (3 * a3)) I R).bind fun z1 =>
      if z1.1 = 0 then
        some (a3, z1.2.1, z1.2.2)
      else
        fX8_goDay_b2 n j a1 a2 (a3 + 1) z1.2.1 z1.2.2
set_option maxRecDepth 20000 in
set_option maxHeartbeats 1000000 in
theorem fX8_goDay_b2_w {p : Program} {l : Launch} {e : Env} {s : State} {m : MethodId} {args : Array Value} {below : List Frame} {meth : Method} {c : Code} {D : va_G} {y : ClassId} {h : Nat} {q : Nat → Nat} {n : Nat} {z : Int32 × mSt} (X : mX p s m args c cX8_goDay 4 wsX8_goDay D y) (hr : meth.sig.returnType = some .int ∧ meth.locks = false) : ∀ (j : Nat) (a1 : Int32) (a2 : Int32) (a3 : Int32) (I : Nat → Int32) (R : Nat → Nat → Int32) (H : Heap) (locs : List Loc) (ls : Array Slot), mH s D y h q H locs I R → lv_has ls 4 [(0, .ref h), (1, .int a1), (2, .int a2), (3, .int a3)] → fX8_goDay_b2 n j a1 a2 a3 I R = some z → W p l e rmX8_goDay s m args below meth c H locs 0 0 (MQ below (mQi D y h q (mS y h q s.heap.size) z) args s 0 0 (mS y h q s.heap.size)) (F0 m 2 ls []) := by
  have hx := X.1.1
  have hb := X.1.2.1
  intro j
  induction j with
  | zero =>
    intro a1 a2 a3 I R H locs ls w hl e0
    cases e0
  | succ j ih =>
    intro a1 a2 a3 I R H locs ls w hl e0
    rw [fX8_goDay_b2] at e0
    refine lv_iload_n hx hb dX8_goDay_2 rfl (lv_at hl 3 rfl) ?_
    refine lv_iload_n hx hb dX8_goDay_3 rfl (lv_at hl 2 rfl) ?_
    refine lv_icmp_ge (tgt := 27) hx hb dX8_goDay_4 (by decide) (fun c4 => ?_) (fun c4 => ?_)
    · have e0 := itp _ c4 e0
      refine lv_bipush (v := (-9)) hx hb dX8_goDay_27 (by decide) ?_
      have e0 := Option.some.inj e0
      subst e0
      exact m_iret X w hr dX8_goDay_29
    · have e0 := itn _ c4 e0
      refine lv_aload_n hx hb dX8_goDay_7 rfl (lv_at hl 0 rfl) ?_
      refine lv_iload_n hx hb dX8_goDay_8 rfl (lv_at hl 1 rfl) ?_
      refine lv_iconst (v := 3) hx hb dX8_goDay_9 (by decide) ?_
      refine lv_iload_n hx hb dX8_goDay_10 rfl (lv_at hl 3 rfl) ?_
      refine lv_imul hx hb dX8_goDay_11 ?_
      refine lv_iadd hx hb dX8_goDay_12 ?_
      refine bd e0 (fun z1 e2 e0 => ?_)
      refine m_calli X w (n := 1) (As := [.int (a1 + (3 * a3))]) (rest := []) (fX8_does_met l _ _ _ _ _ _ _ _ _ _ e2) gX8_goDay_X8_does rfl rfl rfl (by decide +kernel) ⟨Nat.le_of_ble_eq_true rfl, Nat.le_of_ble_eq_true rfl⟩ rfl hl.1 rfl (Nat.le_of_ble_eq_true rfl) dX8_goDay_13 (fun H locs w => ?_)
      refine lv_if_ne (tgt := 21) hx hb dX8_goDay_16 (by decide) (fun c3 => ?_) (fun c3 => ?_)
      · have e0 := itn _ c3 e0
        refine lv_iinc (v := (a3 + 1)) (lv' := [(3, .int (a3 + 1)), (0, .ref h), (1, .int a1), (2, .int a2)]) hx hb dX8_goDay_21 hl (k := 3) rfl rfl (by decide) rfl (fun ls hl => ?_)
        refine lv_goto (tgt := 2) hx hb dX8_goDay_24 (by decide) ?_
        exact ih _ _ _ _ _ _ _ _ w (lv_sub hl [1, 2, 3, 0] rfl) e0
      · have e0 := itp _ c3 e0
        refine lv_iload_n hx hb dX8_goDay_19 rfl (lv_at hl 3 rfl) ?_
        have e0 := Option.some.inj e0
        subst e0
        exact m_iret X w hr dX8_goDay_20
def fX8_goDay (n : Nat) (a1 : Int32) (a2 : Int32) (I : Nat → Int32) (R : Nat → Nat → Int32) : Option (Int32 × mSt) :=
  fX8_goDay_b2 n n a1 a2 0 I R
set_option maxRecDepth 20000 in
set_option maxHeartbeats 1000000 in
theorem fX8_goDay_w {p : Program} {l : Launch} {e : Env} {s : State} {m : MethodId} {args : Array Value} {below : List Frame} {meth : Method} {c : Code} {D : va_G} {y : ClassId} {h : Nat} {q : Nat → Nat} {n : Nat} {z : Int32 × mSt} (X : mX p s m args c cX8_goDay 4 wsX8_goDay D y) (hr : meth.sig.returnType = some .int ∧ meth.locks = false) {a1 : Int32} {a2 : Int32} {I : Nat → Int32} {R : Nat → Nat → Int32} {H : Heap} {locs : List Loc} {ls : Array Slot} (w : mH s D y h q H locs I R) (hl : lv_has ls 4 [(0, .ref h), (1, .int a1), (2, .int a2)]) (e0 : fX8_goDay n a1 a2 I R = some z) : W p l e rmX8_goDay s m args below meth c H locs 0 0 (MQ below (mQi D y h q (mS y h q s.heap.size) z) args s 0 0 (mS y h q s.heap.size)) (F0 m 0 ls []) := by
  have hx := X.1.1
  have hb := X.1.2.1
  unfold fX8_goDay at e0
  refine lv_iconst (v := 0) hx hb dX8_goDay_0 (by decide) ?_
  refine lv_istore_n (lv' := [(3, .int 0), (0, .ref h), (1, .int a1), (2, .int a2)]) hx hb dX8_goDay_1 rfl hl (by decide) rfl (fun ls hl => ?_)
  exact fX8_goDay_b2_w (l := l) X hr n _ _ _ _ _ _ _ _ w (lv_sub hl [1, 2, 3, 0] rfl) e0
set_option maxRecDepth 20000 in
theorem fX8_goDay_met (l : Launch) (D : va_G) (y : ClassId) (h : Nat) (q : Nat → Nat) (sz n : Nat) (a1 : Int32) (a2 : Int32) (I : Nat → Int32) (R : Nat → Nat → Int32) (z : Int32 × mSt) (e0 : fX8_goDay n a1 a2 I R = some z) : Met l yX8_goDay wsX8_goDay rmX8_goDay (va_Pc [.ref h, .int a1, .int a2] (mPre D y h q sz I R)) (mQi D y h q (mS y h q sz) z) 0 0 (mS y h q sz) := by
  refine Met.ofW (cc := cX8_goDay) (maxL := 4) (ret := some .int) (by decide) rfl ?_
  intro p e s m args below meth c s₁ B hml hv
  obtain ⟨rfl, hsz, hP, hK, hD⟩ := hv
  subst hsz
  have hl := lv_entry ([.ref h, .int a1, .int a2]) (n := 4) (Nat.le_of_ble_eq_true rfl)
  rw [lg_entry_eq]
  exact fX8_goDay_w (s := s) ⟨⟨B.exec, B.bytes, hml, findClass_of_methodNamed B.named, atoms_spec (ws := wsX8_goDay) B.pre⟩, fun _ h9 => List.mem_cons_of_mem _ (List.mem_append_right _ h9), hK⟩ ⟨B.returns, B.notSynchronized⟩ ⟨hP, mS_D hD, va_S.rf⟩ hl e0
def rmX8_allHeld : Room := { frames := 1, cells := 0, slots := 0, locals := 23 }
def fX8_allHeld (n : Nat) (I : Nat → Int32) (R : Nat → Nat → Int32) : Option (Int32 × mSt) :=
  (fX8_countHeld n 0 I R).bind fun z1 =>
  (fX8_countHeld n 1 z1.2.1 z1.2.2).bind fun z3 =>
  (fX8_countHeld n 2 z3.2.1 z3.2.2).bind fun z5 =>
  (fX8_countHeld n 3 z5.2.1 z5.2.2).bind fun z7 =>
  some ((((z1.1 + z3.1) + z5.1) + z7.1), z7.2.1, z7.2.2)
set_option maxRecDepth 20000 in
set_option maxHeartbeats 1000000 in
theorem fX8_allHeld_w {p : Program} {l : Launch} {e : Env} {s : State} {m : MethodId} {args : Array Value} {below : List Frame} {meth : Method} {c : Code} {D : va_G} {y : ClassId} {h : Nat} {q : Nat → Nat} {n : Nat} {z : Int32 × mSt} (X : mX p s m args c cX8_allHeld 1 wsX8_allHeld D y) (hr : meth.sig.returnType = some .int ∧ meth.locks = false) {I : Nat → Int32} {R : Nat → Nat → Int32} {H : Heap} {locs : List Loc} {ls : Array Slot} (w : mH s D y h q H locs I R) (hl : lv_has ls 1 [(0, .ref h)]) (e0 : fX8_allHeld n I R = some z) : W p l e rmX8_allHeld s m args below meth c H locs 0 0 (MQ below (mQi D y h q (mS y h q s.heap.size) z) args s 0 0 (mS y h q s.heap.size)) (F0 m 0 ls []) := by
  have hx := X.1.1
  have hb := X.1.2.1
  unfold fX8_allHeld at e0
  refine lv_aload_n hx hb dX8_allHeld_0 rfl (lv_at hl 0 rfl) ?_
  refine lv_iconst (v := 0) hx hb dX8_allHeld_1 (by decide) ?_
  refine bd e0 (fun z1 e2 e0 => ?_)
  refine m_calli X w (n := 1) (As := [.int 0]) (rest := []) (fX8_countHeld_met l _ _ _ _ _ _ _ _ _ _ e2) gX8_allHeld_X8_countHeld rfl rfl rfl (by decide +kernel) ⟨Nat.le_of_ble_eq_true rfl, Nat.le_of_ble_eq_true rfl⟩ rfl hl.1 rfl (Nat.le_of_ble_eq_true rfl) dX8_allHeld_2 (fun H locs w => ?_)
  refine lv_aload_n hx hb dX8_allHeld_5 rfl (lv_at hl 0 rfl) ?_
  refine lv_iconst (v := 1) hx hb dX8_allHeld_6 (by decide) ?_
  refine bd e0 (fun z3 e4 e0 => ?_)
  refine m_calli X w (n := 1) (As := [.int 1]) (rest := [.int z1.1]) (fX8_countHeld_met l _ _ _ _ _ _ _ _ _ _ e4) gX8_allHeld_X8_countHeld rfl rfl rfl (by decide +kernel) ⟨Nat.le_of_ble_eq_true rfl, Nat.le_of_ble_eq_true rfl⟩ rfl hl.1 rfl (Nat.le_of_ble_eq_true rfl) dX8_allHeld_7 (fun H locs w => ?_)
  refine lv_iadd hx hb dX8_allHeld_10 ?_
  refine lv_aload_n hx hb dX8_allHeld_11 rfl (lv_at hl 0 rfl) ?_
  refine lv_iconst (v := 2) hx hb dX8_allHeld_12 (by decide) ?_
  refine bd e0 (fun z5 e6 e0 => ?_)
  refine m_calli X w (n := 1) (As := [.int 2]) (rest := [.int (z1.1 + z3.1)]) (fX8_countHeld_met l _ _ _ _ _ _ _ _ _ _ e6) gX8_allHeld_X8_countHeld rfl rfl rfl (by decide +kernel) ⟨Nat.le_of_ble_eq_true rfl, Nat.le_of_ble_eq_true rfl⟩ rfl hl.1 rfl (Nat.le_of_ble_eq_true rfl) dX8_allHeld_13 (fun H locs w => ?_)
  refine lv_iadd hx hb dX8_allHeld_16 ?_
  refine lv_aload_n hx hb dX8_allHeld_17 rfl (lv_at hl 0 rfl) ?_
  refine lv_iconst (v := 3) hx hb dX8_allHeld_18 (by decide) ?_
  refine bd e0 (fun z7 e8 e0 => ?_)
  refine m_calli X w (n := 1) (As := [.int 3]) (rest := [.int ((z1.1 + z3.1) + z5.1)]) (fX8_countHeld_met l _ _ _ _ _ _ _ _ _ _ e8) gX8_allHeld_X8_countHeld rfl rfl rfl (by decide +kernel) ⟨Nat.le_of_ble_eq_true rfl, Nat.le_of_ble_eq_true rfl⟩ rfl hl.1 rfl (Nat.le_of_ble_eq_true rfl) dX8_allHeld_19 (fun H locs w => ?_)
  refine lv_iadd hx hb dX8_allHeld_22 ?_
  have e0 := Option.some.inj e0
  subst e0
  exact m_iret X w hr dX8_allHeld_23
set_option maxRecDepth 20000 in
theorem fX8_allHeld_met (l : Launch) (D : va_G) (y : ClassId) (h : Nat) (q : Nat → Nat) (sz n : Nat) (I : Nat → Int32) (R : Nat → Nat → Int32) (z : Int32 × mSt) (e0 : fX8_allHeld n I R = some z) : Met l yX8_allHeld wsX8_allHeld rmX8_allHeld (va_Pc [.ref h] (mPre D y h q sz I R)) (mQi D y h q (mS y h q sz) z) 0 0 (mS y h q sz) := by
  refine Met.ofW (cc := cX8_allHeld) (maxL := 1) (ret := some .int) (by decide) rfl ?_
  intro p e s m args below meth c s₁ B hml hv
  obtain ⟨rfl, hsz, hP, hK, hD⟩ := hv
  subst hsz
  have hl := lv_entry ([.ref h]) (n := 1) (Nat.le_of_ble_eq_true rfl)
  rw [lg_entry_eq]
  exact fX8_allHeld_w (s := s) ⟨⟨B.exec, B.bytes, hml, findClass_of_methodNamed B.named, atoms_spec (ws := wsX8_allHeld) B.pre⟩, fun _ h9 => List.mem_cons_of_mem _ (List.mem_append_right _ h9), hK⟩ ⟨B.returns, B.notSynchronized⟩ ⟨hP, mS_D hD, va_S.rf⟩ hl e0
def rmX8_allTold : Room := { frames := 1, cells := 0, slots := 0, locals := 23 }
def fX8_allTold (n : Nat) (I : Nat → Int32) (R : Nat → Nat → Int32) : Option (Int32 × mSt) :=
  (fX8_countTold n 0 I R).bind fun z1 =>
  (fX8_countTold n 1 z1.2.1 z1.2.2).bind fun z3 =>
  (fX8_countTold n 2 z3.2.1 z3.2.2).bind fun z5 =>
  (fX8_countTold n 3 z5.2.1 z5.2.2).bind fun z7 =>
  some ((((z1.1 + z3.1) + z5.1) + z7.1), z7.2.1, z7.2.2)
set_option maxRecDepth 20000 in
set_option maxHeartbeats 1000000 in
theorem fX8_allTold_w {p : Program} {l : Launch} {e : Env} {s : State} {m : MethodId} {args : Array Value} {below : List Frame} {meth : Method} {c : Code} {D : va_G} {y : ClassId} {h : Nat} {q : Nat → Nat} {n : Nat} {z : Int32 × mSt} (X : mX p s m args c cX8_allTold 1 wsX8_allTold D y) (hr : meth.sig.returnType = some .int ∧ meth.locks = false) {I : Nat → Int32} {R : Nat → Nat → Int32} {H : Heap} {locs : List Loc} {ls : Array Slot} (w : mH s D y h q H locs I R) (hl : lv_has ls 1 [(0, .ref h)]) (e0 : fX8_allTold n I R = some z) : W p l e rmX8_allTold s m args below meth c H locs 0 0 (MQ below (mQi D y h q (mS y h q s.heap.size) z) args s 0 0 (mS y h q s.heap.size)) (F0 m 0 ls []) := by
  have hx := X.1.1
  have hb := X.1.2.1
  unfold fX8_allTold at e0
  refine lv_aload_n hx hb dX8_allTold_0 rfl (lv_at hl 0 rfl) ?_
  refine lv_iconst (v := 0) hx hb dX8_allTold_1 (by decide) ?_
  refine bd e0 (fun z1 e2 e0 => ?_)
  refine m_calli X w (n := 1) (As := [.int 0]) (rest := []) (fX8_countTold_met l _ _ _ _ _ _ _ _ _ _ e2) gX8_allTold_X8_countTold rfl rfl rfl (by decide +kernel) ⟨Nat.le_of_ble_eq_true rfl, Nat.le_of_ble_eq_true rfl⟩ rfl hl.1 rfl (Nat.le_of_ble_eq_true rfl) dX8_allTold_2 (fun H locs w => ?_)
  refine lv_aload_n hx hb dX8_allTold_5 rfl (lv_at hl 0 rfl) ?_
  refine lv_iconst (v := 1) hx hb dX8_allTold_6 (by decide) ?_
  refine bd e0 (fun z3 e4 e0 => ?_)
  refine m_calli X w (n := 1) (As := [.int 1]) (rest := [.int z1.1]) (fX8_countTold_met l _ _ _ _ _ _ _ _ _ _ e4) gX8_allTold_X8_countTold rfl rfl rfl (by decide +kernel) ⟨Nat.le_of_ble_eq_true rfl, Nat.le_of_ble_eq_true rfl⟩ rfl hl.1 rfl (Nat.le_of_ble_eq_true rfl) dX8_allTold_7 (fun H locs w => ?_)
  refine lv_iadd hx hb dX8_allTold_10 ?_
  refine lv_aload_n hx hb dX8_allTold_11 rfl (lv_at hl 0 rfl) ?_
  refine lv_iconst (v := 2) hx hb dX8_allTold_12 (by decide) ?_
  refine bd e0 (fun z5 e6 e0 => ?_)
  refine m_calli X w (n := 1) (As := [.int 2]) (rest := [.int (z1.1 + z3.1)]) (fX8_countTold_met l _ _ _ _ _ _ _ _ _ _ e6) gX8_allTold_X8_countTold rfl rfl rfl (by decide +kernel) ⟨Nat.le_of_ble_eq_true rfl, Nat.le_of_ble_eq_true rfl⟩ rfl hl.1 rfl (Nat.le_of_ble_eq_true rfl) dX8_allTold_13 (fun H locs w => ?_)
  refine lv_iadd hx hb dX8_allTold_16 ?_
  refine lv_aload_n hx hb dX8_allTold_17 rfl (lv_at hl 0 rfl) ?_
  refine lv_iconst (v := 3) hx hb dX8_allTold_18 (by decide) ?_
  refine bd e0 (fun z7 e8 e0 => ?_)
  refine m_calli X w (n := 1) (As := [.int 3]) (rest := [.int ((z1.1 + z3.1) + z5.1)]) (fX8_countTold_met l _ _ _ _ _ _ _ _ _ _ e8) gX8_allTold_X8_countTold rfl rfl rfl (by decide +kernel) ⟨Nat.le_of_ble_eq_true rfl, Nat.le_of_ble_eq_true rfl⟩ rfl hl.1 rfl (Nat.le_of_ble_eq_true rfl) dX8_allTold_19 (fun H locs w => ?_)
  refine lv_iadd hx hb dX8_allTold_22 ?_
  have e0 := Option.some.inj e0
  subst e0
  exact m_iret X w hr dX8_allTold_23
set_option maxRecDepth 20000 in
theorem fX8_allTold_met (l : Launch) (D : va_G) (y : ClassId) (h : Nat) (q : Nat → Nat) (sz n : Nat) (I : Nat → Int32) (R : Nat → Nat → Int32) (z : Int32 × mSt) (e0 : fX8_allTold n I R = some z) : Met l yX8_allTold wsX8_allTold rmX8_allTold (va_Pc [.ref h] (mPre D y h q sz I R)) (mQi D y h q (mS y h q sz) z) 0 0 (mS y h q sz) := by
  refine Met.ofW (cc := cX8_allTold) (maxL := 1) (ret := some .int) (by decide) rfl ?_
  intro p e s m args below meth c s₁ B hml hv
  obtain ⟨rfl, hsz, hP, hK, hD⟩ := hv
  subst hsz
  have hl := lv_entry ([.ref h]) (n := 1) (Nat.le_of_ble_eq_true rfl)
  rw [lg_entry_eq]
  exact fX8_allTold_w (s := s) ⟨⟨B.exec, B.bytes, hml, findClass_of_methodNamed B.named, atoms_spec (ws := wsX8_allTold) B.pre⟩, fun _ h9 => List.mem_cons_of_mem _ (List.mem_append_right _ h9), hK⟩ ⟨B.returns, B.notSynchronized⟩ ⟨hP, mS_D hD, va_S.rf⟩ hl e0
def rmX8_tellDay : Room := { frames := 5, cells := 0, slots := 0, locals := 115 }
def fX8_tellDay_b108 (n : Nat) (k82 : Int32 → Int32 → (Nat → Int32) → (Nat → Nat → Int32) → Option (Int32 × mSt)) (a3 : Int32) (t0 : Int32) (I : Nat → Int32) (R : Nat → Nat → Int32) : Option (Int32 × mSt) :=
  k82 t0 (a3 + 1) I R
set_option maxRecDepth 20000 in
set_option maxHeartbeats 1000000 in
theorem fX8_tellDay_b108_w {p : Program} {l : Launch} {e : Env} {s : State} {m : MethodId} {args : Array Value} {below : List Frame} {meth : Method} {c : Code} {D : va_G} {y : ClassId} {h : Nat} {q : Nat → Nat} {n : Nat} {z : Int32 × mSt} (X : mX p s m args c cX8_tellDay 4 wsX8_tellDay D y) (hr : meth.sig.returnType = some .int ∧ meth.locks = false) {k82 : Int32 → Int32 → (Nat → Int32) → (Nat → Nat → Int32) → Option (Int32 × mSt)} (hk82 : ∀ (a2 : Int32) (a3 : Int32) (I : Nat → Int32) (R : Nat → Nat → Int32) (H : Heap) (locs : List Loc) (ls : Array Slot), mH s D y h q H locs I R → lv_has ls 4 [(0, .ref h), (2, .int a2), (3, .int a3)] → k82 a2 a3 I R = some z → W p l e rmX8_tellDay s m args below meth c H locs 0 0 (MQ below (mQi D y h q (mS y h q s.heap.size) z) args s 0 0 (mS y h q s.heap.size)) (F0 m 82 ls [])) {a3 : Int32} {t0 : Int32} {I : Nat → Int32} {R : Nat → Nat → Int32} {H : Heap} {locs : List Loc} {ls : Array Slot} (w : mH s D y h q H locs I R) (hl : lv_has ls 4 [(0, .ref h), (3, .int a3)]) (e0 : fX8_tellDay_b108 n k82 a3 t0 I R = some z) : W p l e rmX8_tellDay s m args below meth c H locs 0 0 (MQ below (mQi D y h q (mS y h q s.heap.size) z) args s 0 0 (mS y h q s.heap.size)) (F0 m 108 ls [.int t0]) := by
  have hx := X.1.1
  have hb := X.1.2.1
  unfold fX8_tellDay_b108 at e0
  refine lv_istore_n (lv' := [(2, .int t0), (0, .ref h), (3, .int a3)]) hx hb dX8_tellDay_108 rfl hl (by decide) rfl (fun ls hl => ?_)
  refine lv_iinc (v := (a3 + 1)) (lv' := [(3, .int (a3 + 1)), (2, .int t0), (0, .ref h)]) hx hb dX8_tellDay_109 hl (k := 2) rfl rfl (by decide) rfl (fun ls hl => ?_)
  refine lv_goto (tgt := 82) hx hb dX8_tellDay_112 (by decide) ?_
  exact hk82 _ _ _ _ _ _ _ w (lv_sub hl [2, 1, 0] rfl) e0
def fX8_tellDay_b82 (n : Nat) : Nat → Int32 → Int32 → (Nat → Int32) → (Nat → Nat → Int32) → Option (Int32 × mSt)
  | 0, _, _, _, _ => none
  | j + 1, a2, a3, I, R =>
    if 64 ≤ a3 then
      some (a2, I, R)
    else
      if inb a3 64 = true then
      if (getA R 26 a3) ≤ a2 then
        fX8_tellDay_b108 n (fX8_tellDay_b82 n j) a3 a2 I R
      else
        if inb a3 64 = true then
        fX8_tellDay_b108 n (fX8_tellDay_b82 n j) a3 (getA R 26 a3) I R
        else none
      else none
set_option maxRecDepth 20000 in
set_option maxHeartbeats 1000000 in
theorem fX8_tellDay_b82_w {p : Program} {l : Launch} {e : Env} {s : State} {m : MethodId} {args : Array Value} {below : List Frame} {meth : Method} {c : Code} {D : va_G} {y : ClassId} {h : Nat} {q : Nat → Nat} {n : Nat} {z : Int32 × mSt} (X : mX p s m args c cX8_tellDay 4 wsX8_tellDay D y) (hr : meth.sig.returnType = some .int ∧ meth.locks = false) : ∀ (j : Nat) (a2 : Int32) (a3 : Int32) (I : Nat → Int32) (R : Nat → Nat → Int32) (H : Heap) (locs : List Loc) (ls : Array Slot), mH s D y h q H locs I R → lv_has ls 4 [(0, .ref h), (2, .int a2), (3, .int a3)] → fX8_tellDay_b82 n j a2 a3 I R = some z → W p l e rmX8_tellDay s m args below meth c H locs 0 0 (MQ below (mQi D y h q (mS y h q s.heap.size) z) args s 0 0 (mS y h q s.heap.size)) (F0 m 82 ls []) := by
  have hx := X.1.1
  have hb := X.1.2.1
  intro j
  induction j with
  | zero =>
    intro a2 a3 I R H locs ls w hl e0
    cases e0
  | succ j ih =>
    intro a2 a3 I R H locs ls w hl e0
    rw [fX8_tellDay_b82] at e0
    refine lv_iload_n hx hb dX8_tellDay_82 rfl (lv_at hl 2 rfl) ?_
    refine lv_bipush (v := 64) hx hb dX8_tellDay_83 (by decide) ?_
    refine lv_icmp_ge (tgt := 115) hx hb dX8_tellDay_85 (by decide) (fun c22 => ?_) (fun c22 => ?_)
    · have e0 := itp _ c22 e0
      refine lv_iload_n hx hb dX8_tellDay_115 rfl (lv_at hl 1 rfl) ?_
      have e0 := Option.some.inj e0
      subst e0
      exact m_iret X w hr dX8_tellDay_116
    · have e0 := itn _ c22 e0
      refine lv_aload_n hx hb dX8_tellDay_88 rfl (lv_at hl 0 rfl) ?_
      refine m_get X w 26 (by decide) (index := 61) rfl (by decide +kernel) (mfr26 _ _) dX8_tellDay_89 ?_
      refine lv_iload_n hx hb dX8_tellDay_92 rfl (lv_at hl 2 rfl) ?_
      refine gd e0 (fun g19 e0 => ?_)
      refine m_ald X w 18 26 (mat26 _ _ _ _ _) g19 dX8_tellDay_93 ?_
      refine lv_iload_n hx hb dX8_tellDay_94 rfl (lv_at hl 1 rfl) ?_
      refine lv_icmp_le (tgt := 107) hx hb dX8_tellDay_95 (by decide) (fun c21 => ?_) (fun c21 => ?_)
      · have e0 := itp _ c21 e0
        refine lv_iload_n hx hb dX8_tellDay_107 rfl (lv_at hl 1 rfl) ?_
        exact fX8_tellDay_b108_w (l := l) X hr ih w (lv_sub hl [0, 2] rfl) e0
      · have e0 := itn _ c21 e0
        refine lv_aload_n hx hb dX8_tellDay_98 rfl (lv_at hl 0 rfl) ?_
        refine m_get X w 26 (by decide) (index := 61) rfl (by decide +kernel) (mfr26 _ _) dX8_tellDay_99 ?_
        refine lv_iload_n hx hb dX8_tellDay_102 rfl (lv_at hl 2 rfl) ?_
        refine gd e0 (fun g20 e0 => ?_)
        refine m_ald X w 18 26 (mat26 _ _ _ _ _) g20 dX8_tellDay_103 ?_
        refine lv_goto (tgt := 108) hx hb dX8_tellDay_104 (by decide) ?_
        exact fX8_tellDay_b108_w (l := l) X hr ih w (lv_sub hl [0, 2] rfl) e0
def fX8_tellDay (n : Nat) (a1 : Int32) (I : Nat → Int32) (R : Nat → Nat → Int32) : Option (Int32 × mSt) :=
  (fX8_findCheap n I R).bind fun z1 =>
  if a1 < 10 then
    if a1 = 0 then
      (fX8_allHeld n z1.1 z1.2).bind fun z11 =>
      some (z11.1, z11.2.1, z11.2.2)
    else
      if a1 = 1 then
        (fX8_allTold n z1.1 z1.2).bind fun z9 =>
        some (z9.1, z9.2.1, z9.2.2)
      else
        if a1 = 2 then
          some ((z1.1 25), z1.1, z1.2)
        else
          if a1 = 3 then
            fX8_tellDay_b82 n n 0 0 z1.1 z1.2
          else
            (fX8_allTold n z1.1 z1.2).bind fun z7 =>
            some (z7.1, z7.2.1, z7.2.2)
  else
    (fX8_isRelation n (a1 - 10) z1.1 z1.2).bind fun z13 =>
    if z13.1 = 0 then
      some ((-9), z13.2.1, z13.2.2)
    else
      (fX8_countHeld n (a1 - 10) z13.2.1 z13.2.2).bind fun z15 =>
      some (z15.1, z15.2.1, z15.2.2)
set_option maxRecDepth 20000 in
set_option maxHeartbeats 1000000 in
theorem fX8_tellDay_w {p : Program} {l : Launch} {e : Env} {s : State} {m : MethodId} {args : Array Value} {below : List Frame} {meth : Method} {c : Code} {D : va_G} {y : ClassId} {h : Nat} {q : Nat → Nat} {n : Nat} {z : Int32 × mSt} (X : mX p s m args c cX8_tellDay 4 wsX8_tellDay D y) (hr : meth.sig.returnType = some .int ∧ meth.locks = false) {a1 : Int32} {I : Nat → Int32} {R : Nat → Nat → Int32} {H : Heap} {locs : List Loc} {ls : Array Slot} (w : mH s D y h q H locs I R) (hl : lv_has ls 4 [(0, .ref h), (1, .int a1)]) (e0 : fX8_tellDay n a1 I R = some z) : W p l e rmX8_tellDay s m args below meth c H locs 0 0 (MQ below (mQi D y h q (mS y h q s.heap.size) z) args s 0 0 (mS y h q s.heap.size)) (F0 m 0 ls []) := by
  have hx := X.1.1
  have hb := X.1.2.1
  unfold fX8_tellDay at e0
  refine lv_aload_n hx hb dX8_tellDay_0 rfl (lv_at hl 0 rfl) ?_
  refine bd e0 (fun z1 e2 e0 => ?_)
  refine m_callv X w (n := 0) (As := []) (rest := []) (fX8_findCheap_met l _ _ _ _ _ _  _ _ _ e2) gX8_tellDay_X8_findCheap rfl rfl rfl (by decide +kernel) ⟨Nat.le_of_ble_eq_true rfl, Nat.le_of_ble_eq_true rfl⟩ rfl hl.1 rfl (Nat.le_of_ble_eq_true rfl) dX8_tellDay_1 (fun H locs w => ?_)
  refine lv_iload_n hx hb dX8_tellDay_4 rfl (lv_at hl 1 rfl) ?_
  refine lv_bipush (v := 10) hx hb dX8_tellDay_5 (by decide) ?_
  refine lv_icmp_lt (tgt := 35) hx hb dX8_tellDay_7 (by decide) (fun c18 => ?_) (fun c18 => ?_)
  · have e0 := itp _ c18 e0
    refine lv_iload_n hx hb dX8_tellDay_35 rfl (lv_at hl 1 rfl) ?_
    by_cases c3 : a1 = 0
    · have e0 := itp _ c3 e0
      refine lv_tableIn (off := 32) (tgt := 68) hx hb dX8_tellDay_36 (by rw [c3]; decide) (by rw [c3]; decide) (by rw [c3]; decide) (by decide) ?_
      refine lv_aload_n hx hb dX8_tellDay_68 rfl (lv_at hl 0 rfl) ?_
      refine bd e0 (fun z11 e12 e0 => ?_)
      refine m_calli X w (n := 0) (As := []) (rest := []) (fX8_allHeld_met l _ _ _ _ _ _  _ _ _ e12) gX8_tellDay_X8_allHeld rfl rfl rfl (by decide +kernel) ⟨Nat.le_of_ble_eq_true rfl, Nat.le_of_ble_eq_true rfl⟩ rfl hl.1 rfl (Nat.le_of_ble_eq_true rfl) dX8_tellDay_69 (fun H locs w => ?_)
      have e0 := Option.some.inj e0
      subst e0
      exact m_iret X w hr dX8_tellDay_72
    · have e0 := itn _ c3 e0
      by_cases c4 : a1 = 1
      · have e0 := itp _ c4 e0
        refine lv_tableIn (off := 81) (tgt := 117) hx hb dX8_tellDay_36 (by rw [c4]; decide) (by rw [c4]; decide) (by rw [c4]; decide) (by decide) ?_
        refine lv_aload_n hx hb dX8_tellDay_117 rfl (lv_at hl 0 rfl) ?_
        refine bd e0 (fun z9 e10 e0 => ?_)
        refine m_calli X w (n := 0) (As := []) (rest := []) (fX8_allTold_met l _ _ _ _ _ _  _ _ _ e10) gX8_tellDay_X8_allTold rfl rfl rfl (by decide +kernel) ⟨Nat.le_of_ble_eq_true rfl, Nat.le_of_ble_eq_true rfl⟩ rfl hl.1 rfl (Nat.le_of_ble_eq_true rfl) dX8_tellDay_118 (fun H locs w => ?_)
        have e0 := Option.some.inj e0
        subst e0
        exact m_iret X w hr dX8_tellDay_121
      · have e0 := itn _ c4 e0
        by_cases c5 : a1 = 2
        · have e0 := itp _ c5 e0
          refine lv_tableIn (off := 37) (tgt := 73) hx hb dX8_tellDay_36 (by rw [c5]; decide) (by rw [c5]; decide) (by rw [c5]; decide) (by decide) ?_
          refine lv_aload_n hx hb dX8_tellDay_73 rfl (lv_at hl 0 rfl) ?_
          refine m_get X w 25 (by decide) (index := 170) rfl (by decide +kernel) (mfi25 _ _) dX8_tellDay_74 ?_
          have e0 := Option.some.inj e0
          subst e0
          exact m_iret X w hr dX8_tellDay_77
        · have e0 := itn _ c5 e0
          by_cases c6 : a1 = 3
          · have e0 := itp _ c6 e0
            refine lv_tableIn (off := 42) (tgt := 78) hx hb dX8_tellDay_36 (by rw [c6]; decide) (by rw [c6]; decide) (by rw [c6]; decide) (by decide) ?_
            refine lv_iconst (v := 0) hx hb dX8_tellDay_78 (by decide) ?_
            refine lv_istore_n (lv' := [(2, .int 0), (0, .ref h), (1, .int a1)]) hx hb dX8_tellDay_79 rfl hl (by decide) rfl (fun ls hl => ?_)
            refine lv_iconst (v := 0) hx hb dX8_tellDay_80 (by decide) ?_
            refine lv_istore_n (lv' := [(3, .int 0), (2, .int 0), (0, .ref h), (1, .int a1)]) hx hb dX8_tellDay_81 rfl hl (by decide) rfl (fun ls hl => ?_)
            exact fX8_tellDay_b82_w (l := l) X hr n _ _ _ _ _ _ _ w (lv_sub hl [2, 1, 0] rfl) e0
          · have e0 := itn _ c6 e0
            refine lv_tableOut (tgt := 117) hx hb dX8_tellDay_36 (by have hc3 := lv_neT c3 (a := 0) (by decide); have hc4 := lv_neT c4 (a := 1) (by decide); have hc5 := lv_neT c5 (a := 2) (by decide); have hc6 := lv_neT c6 (a := 3) (by decide); omega) (by decide) ?_
            refine lv_aload_n hx hb dX8_tellDay_117 rfl (lv_at hl 0 rfl) ?_
            refine bd e0 (fun z7 e8 e0 => ?_)
            refine m_calli X w (n := 0) (As := []) (rest := []) (fX8_allTold_met l _ _ _ _ _ _  _ _ _ e8) gX8_tellDay_X8_allTold rfl rfl rfl (by decide +kernel) ⟨Nat.le_of_ble_eq_true rfl, Nat.le_of_ble_eq_true rfl⟩ rfl hl.1 rfl (Nat.le_of_ble_eq_true rfl) dX8_tellDay_118 (fun H locs w => ?_)
            have e0 := Option.some.inj e0
            subst e0
            exact m_iret X w hr dX8_tellDay_121
  · have e0 := itn _ c18 e0
    refine lv_aload_n hx hb dX8_tellDay_10 rfl (lv_at hl 0 rfl) ?_
    refine lv_iload_n hx hb dX8_tellDay_11 rfl (lv_at hl 1 rfl) ?_
    refine lv_bipush (v := 10) hx hb dX8_tellDay_12 (by decide) ?_
    refine lv_isub hx hb dX8_tellDay_14 ?_
    refine bd e0 (fun z13 e14 e0 => ?_)
    refine m_calli X w (n := 1) (As := [.int (a1 - 10)]) (rest := []) (fX8_isRelation_met l _ _ _ _ _ _ _ _ _ _ e14) gX8_tellDay_X8_isRelation rfl rfl rfl (by decide +kernel) ⟨Nat.le_of_ble_eq_true rfl, Nat.le_of_ble_eq_true rfl⟩ rfl hl.1 rfl (Nat.le_of_ble_eq_true rfl) dX8_tellDay_15 (fun H locs w => ?_)
    refine lv_if_eq (tgt := 32) hx hb dX8_tellDay_18 (by decide) (fun c17 => ?_) (fun c17 => ?_)
    · have e0 := itp _ c17 e0
      refine lv_bipush (v := (-9)) hx hb dX8_tellDay_32 (by decide) ?_
      have e0 := Option.some.inj e0
      subst e0
      exact m_iret X w hr dX8_tellDay_34
    · have e0 := itn _ c17 e0
      refine lv_aload_n hx hb dX8_tellDay_21 rfl (lv_at hl 0 rfl) ?_
      refine lv_iload_n hx hb dX8_tellDay_22 rfl (lv_at hl 1 rfl) ?_
      refine lv_bipush (v := 10) hx hb dX8_tellDay_23 (by decide) ?_
      refine lv_isub hx hb dX8_tellDay_25 ?_
      refine bd e0 (fun z15 e16 e0 => ?_)
      refine m_calli X w (n := 1) (As := [.int (a1 - 10)]) (rest := []) (fX8_countHeld_met l _ _ _ _ _ _ _ _ _ _ e16) gX8_tellDay_X8_countHeld rfl rfl rfl (by decide +kernel) ⟨Nat.le_of_ble_eq_true rfl, Nat.le_of_ble_eq_true rfl⟩ rfl hl.1 rfl (Nat.le_of_ble_eq_true rfl) dX8_tellDay_26 (fun H locs w => ?_)
      refine lv_goto (tgt := 34) hx hb dX8_tellDay_29 (by decide) ?_
      have e0 := Option.some.inj e0
      subst e0
      exact m_iret X w hr dX8_tellDay_34
set_option maxRecDepth 20000 in
theorem fX8_tellDay_met (l : Launch) (D : va_G) (y : ClassId) (h : Nat) (q : Nat → Nat) (sz n : Nat) (a1 : Int32) (I : Nat → Int32) (R : Nat → Nat → Int32) (z : Int32 × mSt) (e0 : fX8_tellDay n a1 I R = some z) : Met l yX8_tellDay wsX8_tellDay rmX8_tellDay (va_Pc [.ref h, .int a1] (mPre D y h q sz I R)) (mQi D y h q (mS y h q sz) z) 0 0 (mS y h q sz) := by
  refine Met.ofW (cc := cX8_tellDay) (maxL := 4) (ret := some .int) (by decide) rfl ?_
  intro p e s m args below meth c s₁ B hml hv
  obtain ⟨rfl, hsz, hP, hK, hD⟩ := hv
  subst hsz
  have hl := lv_entry ([.ref h, .int a1]) (n := 4) (Nat.le_of_ble_eq_true rfl)
  rw [lg_entry_eq]
  exact fX8_tellDay_w (s := s) ⟨⟨B.exec, B.bytes, hml, findClass_of_methodNamed B.named, atoms_spec (ws := wsX8_tellDay) B.pre⟩, fun _ h9 => List.mem_cons_of_mem _ (List.mem_append_right _ h9), hK⟩ ⟨B.returns, B.notSynchronized⟩ ⟨hP, mS_D hD, va_S.rf⟩ hl e0
def rmX8_day : Room := { frames := 6, cells := 0, slots := 0, locals := 142 }
def fX8_day_b155 (n : Nat) (k103 : Int32 → Int32 → Int32 → Int32 → (Nat → Int32) → (Nat → Nat → Int32) → Option (Int32 × mSt)) (a4 : Int32) (a5 : Int32) (a7 : Int32) (a8 : Int32) (I : Nat → Int32) (R : Nat → Nat → Int32) : Option (Int32 × mSt) :=
  k103 a4 a5 a7 (a8 + 1) I R
set_option maxRecDepth 20000 in
set_option maxHeartbeats 1000000 in
theorem fX8_day_b155_w {p : Program} {l : Launch} {e : Env} {s : State} {m : MethodId} {args : Array Value} {below : List Frame} {meth : Method} {c : Code} {D : va_G} {y : ClassId} {h : Nat} {q : Nat → Nat} {n : Nat} {z : Int32 × mSt} (X : mX p s m args c cX8_day 11 wsX8_day D y) (hr : meth.sig.returnType = some .int ∧ meth.locks = false) {k103 : Int32 → Int32 → Int32 → Int32 → (Nat → Int32) → (Nat → Nat → Int32) → Option (Int32 × mSt)} (hk103 : ∀ (a4 : Int32) (a5 : Int32) (a7 : Int32) (a8 : Int32) (I : Nat → Int32) (R : Nat → Nat → Int32) (H : Heap) (locs : List Loc) (ls : Array Slot), mH s D y h q H locs I R → lv_has ls 11 [(0, .ref h), (4, .int a4), (5, .int a5), (7, .int a7), (8, .int a8)] → k103 a4 a5 a7 a8 I R = some z → W p l e rmX8_day s m args below meth c H locs 0 0 (MQ below (mQi D y h q (mS y h q s.heap.size) z) args s 0 0 (mS y h q s.heap.size)) (F0 m 103 ls [])) {a4 : Int32} {a5 : Int32} {a7 : Int32} {a8 : Int32} {I : Nat → Int32} {R : Nat → Nat → Int32} {H : Heap} {locs : List Loc} {ls : Array Slot} (w : mH s D y h q H locs I R) (hl : lv_has ls 11 [(0, .ref h), (4, .int a4), (5, .int a5), (7, .int a7), (8, .int a8)]) (e0 : fX8_day_b155 n k103 a4 a5 a7 a8 I R = some z) : W p l e rmX8_day s m args below meth c H locs 0 0 (MQ below (mQi D y h q (mS y h q s.heap.size) z) args s 0 0 (mS y h q s.heap.size)) (F0 m 155 ls []) := by
  have hx := X.1.1
  have hb := X.1.2.1
  unfold fX8_day_b155 at e0
  refine lv_iinc (v := (a8 + 1)) (lv' := [(8, .int (a8 + 1)), (0, .ref h), (4, .int a4), (5, .int a5), (7, .int a7)]) hx hb dX8_day_155 hl (k := 4) rfl rfl (by decide) rfl (fun ls hl => ?_)
  refine lv_goto (tgt := 103) hx hb dX8_day_158 (by decide) ?_
  exact hk103 _ _ _ _ _ _ _ _ _ w (lv_sub hl [1, 2, 3, 4, 0] rfl) e0
def fX8_day_b271 (n : Nat) : Nat → Int32 → Int32 → Int32 → Int32 → (Nat → Int32) → (Nat → Nat → Int32) → Option (Int32 × mSt)
  | 0, _, _, _, _, _, _ => none
  | j + 1, a5, a8, a9, a10, I, R =>
    if 5 ≤ a10 then
      if a5 = 1 then
        some (a8, I, R)
      else
        if a8 = (-9) then
          some (a9, I, R)
        else
          some (((-100) - a8), I, R)
    else
      if inb a10 5 = true then
      if inb a10 5 = true then
      fX8_day_b271 n j a5 a8 a9 (a10 + 1) I (setA R 9 a10 (getA R 30 a10))
      else none
      else none
set_option maxRecDepth 20000 in
set_option maxHeartbeats 1000000 in
theorem fX8_day_b271_w {p : Program} {l : Launch} {e : Env} {s : State} {m : MethodId} {args : Array Value} {below : List Frame} {meth : Method} {c : Code} {D : va_G} {y : ClassId} {h : Nat} {q : Nat → Nat} {n : Nat} {z : Int32 × mSt} (X : mX p s m args c cX8_day 11 wsX8_day D y) (hr : meth.sig.returnType = some .int ∧ meth.locks = false) : ∀ (j : Nat) (a5 : Int32) (a8 : Int32) (a9 : Int32) (a10 : Int32) (I : Nat → Int32) (R : Nat → Nat → Int32) (H : Heap) (locs : List Loc) (ls : Array Slot), mH s D y h q H locs I R → lv_has ls 11 [(0, .ref h), (5, .int a5), (8, .int a8), (9, .int a9), (10, .int a10)] → fX8_day_b271 n j a5 a8 a9 a10 I R = some z → W p l e rmX8_day s m args below meth c H locs 0 0 (MQ below (mQi D y h q (mS y h q s.heap.size) z) args s 0 0 (mS y h q s.heap.size)) (F0 m 271 ls []) := by
  have hx := X.1.1
  have hb := X.1.2.1
  intro j
  induction j with
  | zero =>
    intro a5 a8 a9 a10 I R H locs ls w hl e0
    cases e0
  | succ j ih =>
    intro a5 a8 a9 a10 I R H locs ls w hl e0
    rw [fX8_day_b271] at e0
    refine lv_iload hx hb dX8_day_271 (lv_at hl 4 rfl) ?_
    refine lv_iconst (v := 5) hx hb dX8_day_273 (by decide) ?_
    refine lv_icmp_ge (tgt := 297) hx hb dX8_day_274 (by decide) (fun c48 => ?_) (fun c48 => ?_)
    · have e0 := itp _ c48 e0
      refine lv_iload hx hb dX8_day_297 (lv_at hl 1 rfl) ?_
      refine lv_iconst (v := 1) hx hb dX8_day_299 (by decide) ?_
      refine lv_icmp_ne (tgt := 308) hx hb dX8_day_300 (by decide) (fun c45 => ?_) (fun c45 => ?_)
      · have e0 := itn _ c45 e0
        refine lv_iload hx hb dX8_day_308 (lv_at hl 2 rfl) ?_
        refine lv_bipush (v := (-9)) hx hb dX8_day_310 (by decide) ?_
        refine lv_icmp_ne (tgt := 320) hx hb dX8_day_312 (by decide) (fun c44 => ?_) (fun c44 => ?_)
        · have e0 := itn _ c44 e0
          refine lv_bipush (v := (-100)) hx hb dX8_day_320 (by decide) ?_
          refine lv_iload hx hb dX8_day_322 (lv_at hl 2 rfl) ?_
          refine lv_isub hx hb dX8_day_324 ?_
          have e0 := Option.some.inj e0
          subst e0
          exact m_iret X w hr dX8_day_325
        · have e0 := itp _ c44 e0
          refine lv_iload hx hb dX8_day_315 (lv_at hl 3 rfl) ?_
          refine lv_goto (tgt := 325) hx hb dX8_day_317 (by decide) ?_
          have e0 := Option.some.inj e0
          subst e0
          exact m_iret X w hr dX8_day_325
      · have e0 := itp _ c45 e0
        refine lv_iload hx hb dX8_day_303 (lv_at hl 2 rfl) ?_
        refine lv_goto (tgt := 325) hx hb dX8_day_305 (by decide) ?_
        have e0 := Option.some.inj e0
        subst e0
        exact m_iret X w hr dX8_day_325
    · have e0 := itn _ c48 e0
      refine lv_aload_n hx hb dX8_day_277 rfl (lv_at hl 0 rfl) ?_
      refine m_get X w 9 (by decide) (index := 25) rfl (by decide +kernel) (mfr9 _ _) dX8_day_278 ?_
      refine lv_iload hx hb dX8_day_281 (lv_at hl 4 rfl) ?_
      refine lv_aload_n hx hb dX8_day_283 rfl (lv_at hl 0 rfl) ?_
      refine m_get X w 30 (by decide) (index := 73) rfl (by decide +kernel) (mfr30 _ _) dX8_day_284 ?_
      refine lv_iload hx hb dX8_day_287 (lv_at hl 4 rfl) ?_
      refine gd e0 (fun g46 e0 => ?_)
      refine m_ald X w 22 30 (mat30 _ _ _ _ _) g46 dX8_day_289 ?_
      refine gd e0 (fun g47 e0 => ?_)
      refine m_ast X w 6 9 (mat9 _ _ _ _ _) (mset9 _ _ _ _ _) g47 dX8_day_290 (fun H locs w => ?_)
      refine lv_iinc (v := (a10 + 1)) (lv' := [(10, .int (a10 + 1)), (0, .ref h), (5, .int a5), (8, .int a8), (9, .int a9)]) hx hb dX8_day_291 hl (k := 4) rfl rfl (by decide) rfl (fun ls hl => ?_)
      refine lv_goto (tgt := 271) hx hb dX8_day_294 (by decide) ?_
      exact ih _ _ _ _ _ _ _ _ _ w (lv_sub hl [1, 2, 3, 4, 0] rfl) e0
def fX8_day_b241 (n : Nat) : Nat → Int32 → Int32 → Int32 → Int32 → (Nat → Int32) → (Nat → Nat → Int32) → Option (Int32 × mSt)
  | 0, _, _, _, _, _, _ => none
  | j + 1, a5, a8, a9, a10, I, R =>
    if 64 ≤ a10 then
      fX8_day_b271 n n a5 a8 a9 0 I R
    else
      if inb a10 64 = true then
      if inb a10 64 = true then
      fX8_day_b241 n j a5 a8 a9 (a10 + 1) I (setA R 13 a10 (getA R 29 a10))
      else none
      else none
set_option maxRecDepth 20000 in
set_option maxHeartbeats 1000000 in
theorem fX8_day_b241_w {p : Program} {l : Launch} {e : Env} {s : State} {m : MethodId} {args : Array Value} {below : List Frame} {meth : Method} {c : Code} {D : va_G} {y : ClassId} {h : Nat} {q : Nat → Nat} {n : Nat} {z : Int32 × mSt} (X : mX p s m args c cX8_day 11 wsX8_day D y) (hr : meth.sig.returnType = some .int ∧ meth.locks = false) : ∀ (j : Nat) (a5 : Int32) (a8 : Int32) (a9 : Int32) (a10 : Int32) (I : Nat → Int32) (R : Nat → Nat → Int32) (H : Heap) (locs : List Loc) (ls : Array Slot), mH s D y h q H locs I R → lv_has ls 11 [(0, .ref h), (5, .int a5), (8, .int a8), (9, .int a9), (10, .int a10)] → fX8_day_b241 n j a5 a8 a9 a10 I R = some z → W p l e rmX8_day s m args below meth c H locs 0 0 (MQ below (mQi D y h q (mS y h q s.heap.size) z) args s 0 0 (mS y h q s.heap.size)) (F0 m 241 ls []) := by
  have hx := X.1.1
  have hb := X.1.2.1
  intro j
  induction j with
  | zero =>
    intro a5 a8 a9 a10 I R H locs ls w hl e0
    cases e0
  | succ j ih =>
    intro a5 a8 a9 a10 I R H locs ls w hl e0
    rw [fX8_day_b241] at e0
    refine lv_iload hx hb dX8_day_241 (lv_at hl 4 rfl) ?_
    refine lv_bipush (v := 64) hx hb dX8_day_243 (by decide) ?_
    refine lv_icmp_ge (tgt := 268) hx hb dX8_day_245 (by decide) (fun c43 => ?_) (fun c43 => ?_)
    · have e0 := itp _ c43 e0
      refine lv_iconst (v := 0) hx hb dX8_day_268 (by decide) ?_
      refine lv_istore (lv' := [(10, .int 0), (0, .ref h), (5, .int a5), (8, .int a8), (9, .int a9)]) hx hb dX8_day_269 hl (by decide) rfl (fun ls hl => ?_)
      exact fX8_day_b271_w (l := l) X hr n _ _ _ _ _ _ _ _ _ w (lv_sub hl [1, 2, 3, 4, 0] rfl) e0
    · have e0 := itn _ c43 e0
      refine lv_aload_n hx hb dX8_day_248 rfl (lv_at hl 0 rfl) ?_
      refine m_get X w 13 (by decide) (index := 37) rfl (by decide +kernel) (mfr13 _ _) dX8_day_249 ?_
      refine lv_iload hx hb dX8_day_252 (lv_at hl 4 rfl) ?_
      refine lv_aload_n hx hb dX8_day_254 rfl (lv_at hl 0 rfl) ?_
      refine m_get X w 29 (by decide) (index := 70) rfl (by decide +kernel) (mfr29 _ _) dX8_day_255 ?_
      refine lv_iload hx hb dX8_day_258 (lv_at hl 4 rfl) ?_
      refine gd e0 (fun g41 e0 => ?_)
      refine m_ald X w 21 29 (mat29 _ _ _ _ _) g41 dX8_day_260 ?_
      refine gd e0 (fun g42 e0 => ?_)
      refine m_ast X w 10 13 (mat13 _ _ _ _ _) (mset13 _ _ _ _ _) g42 dX8_day_261 (fun H locs w => ?_)
      refine lv_iinc (v := (a10 + 1)) (lv' := [(10, .int (a10 + 1)), (0, .ref h), (5, .int a5), (8, .int a8), (9, .int a9)]) hx hb dX8_day_262 hl (k := 4) rfl rfl (by decide) rfl (fun ls hl => ?_)
      refine lv_goto (tgt := 241) hx hb dX8_day_265 (by decide) ?_
      exact ih _ _ _ _ _ _ _ _ _ w (lv_sub hl [1, 2, 3, 4, 0] rfl) e0
def fX8_day_b194 (n : Nat) : Nat → Int32 → Int32 → Int32 → Int32 → (Nat → Int32) → (Nat → Nat → Int32) → Option (Int32 × mSt)
  | 0, _, _, _, _, _, _ => none
  | j + 1, a4, a5, a7, a8, I, R =>
    if 5 ≤ a8 then
      (fX8_goDay n a7 a4 I R).bind fun z34 =>
      (fX8_tellDay n a5 z34.2.1 z34.2.2).bind fun z36 =>
      fX8_day_b241 n n a5 z34.1 z36.1 0 z36.2.1 z36.2.2
    else
      if inb a8 5 = true then
      if inb a8 5 = true then
      fX8_day_b194 n j a4 a5 a7 (a8 + 1) I (setA R 30 a8 (getA R 9 a8))
      else none
      else none
set_option maxRecDepth 20000 in
set_option maxHeartbeats 1000000 in
theorem fX8_day_b194_w {p : Program} {l : Launch} {e : Env} {s : State} {m : MethodId} {args : Array Value} {below : List Frame} {meth : Method} {c : Code} {D : va_G} {y : ClassId} {h : Nat} {q : Nat → Nat} {n : Nat} {z : Int32 × mSt} (X : mX p s m args c cX8_day 11 wsX8_day D y) (hr : meth.sig.returnType = some .int ∧ meth.locks = false) : ∀ (j : Nat) (a4 : Int32) (a5 : Int32) (a7 : Int32) (a8 : Int32) (I : Nat → Int32) (R : Nat → Nat → Int32) (H : Heap) (locs : List Loc) (ls : Array Slot), mH s D y h q H locs I R → lv_has ls 11 [(0, .ref h), (4, .int a4), (5, .int a5), (7, .int a7), (8, .int a8)] → fX8_day_b194 n j a4 a5 a7 a8 I R = some z → W p l e rmX8_day s m args below meth c H locs 0 0 (MQ below (mQi D y h q (mS y h q s.heap.size) z) args s 0 0 (mS y h q s.heap.size)) (F0 m 194 ls []) := by
  have hx := X.1.1
  have hb := X.1.2.1
  intro j
  induction j with
  | zero =>
    intro a4 a5 a7 a8 I R H locs ls w hl e0
    cases e0
  | succ j ih =>
    intro a4 a5 a7 a8 I R H locs ls w hl e0
    rw [fX8_day_b194] at e0
    refine lv_iload hx hb dX8_day_194 (lv_at hl 4 rfl) ?_
    refine lv_iconst (v := 5) hx hb dX8_day_196 (by decide) ?_
    refine lv_icmp_ge (tgt := 220) hx hb dX8_day_197 (by decide) (fun c40 => ?_) (fun c40 => ?_)
    · have e0 := itp _ c40 e0
      refine lv_aload_n hx hb dX8_day_220 rfl (lv_at hl 0 rfl) ?_
      refine lv_iload hx hb dX8_day_221 (lv_at hl 3 rfl) ?_
      refine lv_iload hx hb dX8_day_223 (lv_at hl 1 rfl) ?_
      refine bd e0 (fun z34 e35 e0 => ?_)
      refine m_calli X w (n := 2) (As := [.int a7, .int a4]) (rest := []) (fX8_goDay_met l _ _ _ _ _ _ _ _ _ _ _ e35) gX8_day_X8_goDay rfl rfl rfl (by decide +kernel) ⟨Nat.le_of_ble_eq_true rfl, Nat.le_of_ble_eq_true rfl⟩ rfl hl.1 rfl (Nat.le_of_ble_eq_true rfl) dX8_day_225 (fun H locs w => ?_)
      refine lv_istore (lv' := [(8, .int z34.1), (0, .ref h), (4, .int a4), (5, .int a5), (7, .int a7)]) hx hb dX8_day_228 hl (by decide) rfl (fun ls hl => ?_)
      refine lv_aload_n hx hb dX8_day_230 rfl (lv_at hl 1 rfl) ?_
      refine lv_iload hx hb dX8_day_231 (lv_at hl 3 rfl) ?_
      refine bd e0 (fun z36 e37 e0 => ?_)
      refine m_calli X w (n := 1) (As := [.int a5]) (rest := []) (fX8_tellDay_met l _ _ _ _ _ _ _ _ _ _ e37) gX8_day_X8_tellDay rfl rfl rfl (by decide +kernel) ⟨Nat.le_of_ble_eq_true rfl, Nat.le_of_ble_eq_true rfl⟩ rfl hl.1 rfl (Nat.le_of_ble_eq_true rfl) dX8_day_233 (fun H locs w => ?_)
      refine lv_istore (lv' := [(9, .int z36.1), (8, .int z34.1), (0, .ref h), (4, .int a4), (5, .int a5), (7, .int a7)]) hx hb dX8_day_236 hl (by decide) rfl (fun ls hl => ?_)
      refine lv_iconst (v := 0) hx hb dX8_day_238 (by decide) ?_
      refine lv_istore (lv' := [(10, .int 0), (9, .int z36.1), (8, .int z34.1), (0, .ref h), (4, .int a4), (5, .int a5), (7, .int a7)]) hx hb dX8_day_239 hl (by decide) rfl (fun ls hl => ?_)
      exact fX8_day_b241_w (l := l) X hr n _ _ _ _ _ _ _ _ _ w (lv_sub hl [3, 5, 2, 1, 0] rfl) e0
    · have e0 := itn _ c40 e0
      refine lv_aload_n hx hb dX8_day_200 rfl (lv_at hl 0 rfl) ?_
      refine m_get X w 30 (by decide) (index := 73) rfl (by decide +kernel) (mfr30 _ _) dX8_day_201 ?_
      refine lv_iload hx hb dX8_day_204 (lv_at hl 4 rfl) ?_
      refine lv_aload_n hx hb dX8_day_206 rfl (lv_at hl 0 rfl) ?_
      refine m_get X w 9 (by decide) (index := 25) rfl (by decide +kernel) (mfr9 _ _) dX8_day_207 ?_
      refine lv_iload hx hb dX8_day_210 (lv_at hl 4 rfl) ?_
      refine gd e0 (fun g38 e0 => ?_)
      refine m_ald X w 6 9 (mat9 _ _ _ _ _) g38 dX8_day_212 ?_
      refine gd e0 (fun g39 e0 => ?_)
      refine m_ast X w 22 30 (mat30 _ _ _ _ _) (mset30 _ _ _ _ _) g39 dX8_day_213 (fun H locs w => ?_)
      refine lv_iinc (v := (a8 + 1)) (lv' := [(8, .int (a8 + 1)), (0, .ref h), (4, .int a4), (5, .int a5), (7, .int a7)]) hx hb dX8_day_214 hl (k := 4) rfl rfl (by decide) rfl (fun ls hl => ?_)
      refine lv_goto (tgt := 194) hx hb dX8_day_217 (by decide) ?_
      exact ih _ _ _ _ _ _ _ _ _ w (lv_sub hl [1, 2, 3, 4, 0] rfl) e0
def fX8_day_b164 (n : Nat) : Nat → Int32 → Int32 → Int32 → Int32 → (Nat → Int32) → (Nat → Nat → Int32) → Option (Int32 × mSt)
  | 0, _, _, _, _, _, _ => none
  | j + 1, a4, a5, a7, a8, I, R =>
    if 64 ≤ a8 then
      fX8_day_b194 n n a4 a5 a7 0 I R
    else
      if inb a8 64 = true then
      if inb a8 64 = true then
      fX8_day_b164 n j a4 a5 a7 (a8 + 1) I (setA R 29 a8 (getA R 13 a8))
      else none
      else none
set_option maxRecDepth 20000 in
set_option maxHeartbeats 1000000 in
theorem fX8_day_b164_w {p : Program} {l : Launch} {e : Env} {s : State} {m : MethodId} {args : Array Value} {below : List Frame} {meth : Method} {c : Code} {D : va_G} {y : ClassId} {h : Nat} {q : Nat → Nat} {n : Nat} {z : Int32 × mSt} (X : mX p s m args c cX8_day 11 wsX8_day D y) (hr : meth.sig.returnType = some .int ∧ meth.locks = false) : ∀ (j : Nat) (a4 : Int32) (a5 : Int32) (a7 : Int32) (a8 : Int32) (I : Nat → Int32) (R : Nat → Nat → Int32) (H : Heap) (locs : List Loc) (ls : Array Slot), mH s D y h q H locs I R → lv_has ls 11 [(0, .ref h), (4, .int a4), (5, .int a5), (7, .int a7), (8, .int a8)] → fX8_day_b164 n j a4 a5 a7 a8 I R = some z → W p l e rmX8_day s m args below meth c H locs 0 0 (MQ below (mQi D y h q (mS y h q s.heap.size) z) args s 0 0 (mS y h q s.heap.size)) (F0 m 164 ls []) := by
  have hx := X.1.1
  have hb := X.1.2.1
  intro j
  induction j with
  | zero =>
    intro a4 a5 a7 a8 I R H locs ls w hl e0
    cases e0
  | succ j ih =>
    intro a4 a5 a7 a8 I R H locs ls w hl e0
    rw [fX8_day_b164] at e0
    refine lv_iload hx hb dX8_day_164 (lv_at hl 4 rfl) ?_
    refine lv_bipush (v := 64) hx hb dX8_day_166 (by decide) ?_
    refine lv_icmp_ge (tgt := 191) hx hb dX8_day_168 (by decide) (fun c33 => ?_) (fun c33 => ?_)
    · have e0 := itp _ c33 e0
      refine lv_iconst (v := 0) hx hb dX8_day_191 (by decide) ?_
      refine lv_istore (lv' := [(8, .int 0), (0, .ref h), (4, .int a4), (5, .int a5), (7, .int a7)]) hx hb dX8_day_192 hl (by decide) rfl (fun ls hl => ?_)
      exact fX8_day_b194_w (l := l) X hr n _ _ _ _ _ _ _ _ _ w (lv_sub hl [1, 2, 3, 4, 0] rfl) e0
    · have e0 := itn _ c33 e0
      refine lv_aload_n hx hb dX8_day_171 rfl (lv_at hl 0 rfl) ?_
      refine m_get X w 29 (by decide) (index := 70) rfl (by decide +kernel) (mfr29 _ _) dX8_day_172 ?_
      refine lv_iload hx hb dX8_day_175 (lv_at hl 4 rfl) ?_
      refine lv_aload_n hx hb dX8_day_177 rfl (lv_at hl 0 rfl) ?_
      refine m_get X w 13 (by decide) (index := 37) rfl (by decide +kernel) (mfr13 _ _) dX8_day_178 ?_
      refine lv_iload hx hb dX8_day_181 (lv_at hl 4 rfl) ?_
      refine gd e0 (fun g31 e0 => ?_)
      refine m_ald X w 10 13 (mat13 _ _ _ _ _) g31 dX8_day_183 ?_
      refine gd e0 (fun g32 e0 => ?_)
      refine m_ast X w 21 29 (mat29 _ _ _ _ _) (mset29 _ _ _ _ _) g32 dX8_day_184 (fun H locs w => ?_)
      refine lv_iinc (v := (a8 + 1)) (lv' := [(8, .int (a8 + 1)), (0, .ref h), (4, .int a4), (5, .int a5), (7, .int a7)]) hx hb dX8_day_185 hl (k := 4) rfl rfl (by decide) rfl (fun ls hl => ?_)
      refine lv_goto (tgt := 164) hx hb dX8_day_188 (by decide) ?_
      exact ih _ _ _ _ _ _ _ _ _ w (lv_sub hl [1, 2, 3, 4, 0] rfl) e0
def fX8_day_b103 (n : Nat) : Nat → Int32 → Int32 → Int32 → Int32 → (Nat → Int32) → (Nat → Nat → Int32) → Option (Int32 × mSt)
  | 0, _, _, _, _, _, _ => none
  | j + 1, a4, a5, a7, a8, I, R =>
    if a4 ≤ a8 then
      fX8_day_b164 n n a4 a5 a7 0 I R
    else
      if inb (a7 + (3 * a8)) 240 = true then
      (fX8_within n (getA R 4 (a7 + (3 * a8))) 0 3).bind fun z23 =>
      if z23 = 0 then
        if inb (a7 + (3 * a8)) 240 = true then
        (fX8_within n (getA R 4 (a7 + (3 * a8))) 10 14).bind fun z26 =>
        if z26 = 0 then
          some ((-2), I, R)
        else
          fX8_day_b155 n (fX8_day_b103 n j) a4 a5 a7 a8 I R
        else none
      else
        fX8_day_b155 n (fX8_day_b103 n j) a4 a5 a7 a8 I R
      else none
set_option maxRecDepth 20000 in
set_option maxHeartbeats 1000000 in
theorem fX8_day_b103_w {p : Program} {l : Launch} {e : Env} {s : State} {m : MethodId} {args : Array Value} {below : List Frame} {meth : Method} {c : Code} {D : va_G} {y : ClassId} {h : Nat} {q : Nat → Nat} {n : Nat} {z : Int32 × mSt} (X : mX p s m args c cX8_day 11 wsX8_day D y) (hr : meth.sig.returnType = some .int ∧ meth.locks = false) : ∀ (j : Nat) (a4 : Int32) (a5 : Int32) (a7 : Int32) (a8 : Int32) (I : Nat → Int32) (R : Nat → Nat → Int32) (H : Heap) (locs : List Loc) (ls : Array Slot), mH s D y h q H locs I R → lv_has ls 11 [(0, .ref h), (4, .int a4), (5, .int a5), (7, .int a7), (8, .int a8)] → fX8_day_b103 n j a4 a5 a7 a8 I R = some z → W p l e rmX8_day s m args below meth c H locs 0 0 (MQ below (mQi D y h q (mS y h q s.heap.size) z) args s 0 0 (mS y h q s.heap.size)) (F0 m 103 ls []) := by
  have hx := X.1.1
  have hb := X.1.2.1
  intro j
  induction j with
  | zero =>
    intro a4 a5 a7 a8 I R H locs ls w hl e0
    cases e0
  | succ j ih =>
    intro a4 a5 a7 a8 I R H locs ls w hl e0
    rw [fX8_day_b103] at e0
    refine lv_iload hx hb dX8_day_103 (lv_at hl 4 rfl) ?_
    refine lv_iload hx hb dX8_day_105 (lv_at hl 1 rfl) ?_
    refine lv_icmp_ge (tgt := 161) hx hb dX8_day_107 (by decide) (fun c30 => ?_) (fun c30 => ?_)
    · have e0 := itp _ c30 e0
      refine lv_iconst (v := 0) hx hb dX8_day_161 (by decide) ?_
      refine lv_istore (lv' := [(8, .int 0), (0, .ref h), (4, .int a4), (5, .int a5), (7, .int a7)]) hx hb dX8_day_162 hl (by decide) rfl (fun ls hl => ?_)
      exact fX8_day_b164_w (l := l) X hr n _ _ _ _ _ _ _ _ _ w (lv_sub hl [1, 2, 3, 4, 0] rfl) e0
    · have e0 := itn _ c30 e0
      refine lv_aload_n hx hb dX8_day_110 rfl (lv_at hl 0 rfl) ?_
      refine m_get X w 4 (by decide) (index := 16) rfl (by decide +kernel) (mfr4 _ _) dX8_day_111 ?_
      refine lv_iload hx hb dX8_day_114 (lv_at hl 3 rfl) ?_
      refine lv_iconst (v := 3) hx hb dX8_day_116 (by decide) ?_
      refine lv_iload hx hb dX8_day_117 (lv_at hl 4 rfl) ?_
      refine lv_imul hx hb dX8_day_119 ?_
      refine lv_iadd hx hb dX8_day_120 ?_
      refine gd e0 (fun g22 e0 => ?_)
      refine m_ald X w 3 4 (mat4 _ _ _ _ _) g22 dX8_day_121 ?_
      refine lv_iconst (v := 0) hx hb dX8_day_122 (by decide) ?_
      refine lv_iconst (v := 3) hx hb dX8_day_123 (by decide) ?_
      refine bd e0 (fun z23 e24 e0 => ?_)
      refine m_callsi X w (n := 3) (As := [.int (getA R 4 (a7 + (3 * a8))), .int 0, .int 3]) (rest := []) (fX8_within_met l _ _ _ _ _ e24) gX8_day_X8_within rfl rfl rfl (by decide +kernel) ⟨Nat.le_of_ble_eq_true rfl, Nat.le_of_ble_eq_true rfl⟩ rfl hl.1 rfl (Nat.le_of_ble_eq_true rfl) dX8_day_124 (fun H locs w => ?_)
      refine lv_if_ne (tgt := 155) hx hb dX8_day_127 (by decide) (fun c29 => ?_) (fun c29 => ?_)
      · have e0 := itn _ c29 e0
        exact fX8_day_b155_w (l := l) X hr ih w (lv_sub hl [0, 1, 2, 3, 4] rfl) e0
      · have e0 := itp _ c29 e0
        refine lv_aload_n hx hb dX8_day_130 rfl (lv_at hl 0 rfl) ?_
        refine m_get X w 4 (by decide) (index := 16) rfl (by decide +kernel) (mfr4 _ _) dX8_day_131 ?_
        refine lv_iload hx hb dX8_day_134 (lv_at hl 3 rfl) ?_
        refine lv_iconst (v := 3) hx hb dX8_day_136 (by decide) ?_
        refine lv_iload hx hb dX8_day_137 (lv_at hl 4 rfl) ?_
        refine lv_imul hx hb dX8_day_139 ?_
        refine lv_iadd hx hb dX8_day_140 ?_
        refine gd e0 (fun g25 e0 => ?_)
        refine m_ald X w 3 4 (mat4 _ _ _ _ _) g25 dX8_day_141 ?_
        refine lv_bipush (v := 10) hx hb dX8_day_142 (by decide) ?_
        refine lv_bipush (v := 14) hx hb dX8_day_144 (by decide) ?_
        refine bd e0 (fun z26 e27 e0 => ?_)
        refine m_callsi X w (n := 3) (As := [.int (getA R 4 (a7 + (3 * a8))), .int 10, .int 14]) (rest := []) (fX8_within_met l _ _ _ _ _ e27) gX8_day_X8_within rfl rfl rfl (by decide +kernel) ⟨Nat.le_of_ble_eq_true rfl, Nat.le_of_ble_eq_true rfl⟩ rfl hl.1 rfl (Nat.le_of_ble_eq_true rfl) dX8_day_146 (fun H locs w => ?_)
        refine lv_if_ne (tgt := 155) hx hb dX8_day_149 (by decide) (fun c28 => ?_) (fun c28 => ?_)
        · have e0 := itn _ c28 e0
          exact fX8_day_b155_w (l := l) X hr ih w (lv_sub hl [0, 1, 2, 3, 4] rfl) e0
        · have e0 := itp _ c28 e0
          refine lv_bipush (v := (-2)) hx hb dX8_day_152 (by decide) ?_
          have e0 := Option.some.inj e0
          subst e0
          exact m_iret X w hr dX8_day_154
def fX8_day_b57 (n : Nat) (a1 : Int32) (a2 : Int32) (a3 : Int32) (a4 : Int32) (a5 : Int32) (I : Nat → Int32) (R : Nat → Nat → Int32) : Option (Int32 × mSt) :=
  (fX8_against n a1 a2 a3 (3 * a4) I R).bind fun z16 =>
  if z16.1 = 0 then
    if (z16.2.1 5) = 0 then
      some ((-3), z16.2.1, z16.2.2)
    else
      fX8_day_b103 n n a4 a5 ((60 * a1) + a3) 0 z16.2.1 z16.2.2
  else
    (fX8_fails n z16.1 z16.2.1 z16.2.2).bind fun z19 =>
    some (z19.1, z19.2.1, z19.2.2)
set_option maxRecDepth 20000 in
set_option maxHeartbeats 1000000 in
theorem fX8_day_b57_w {p : Program} {l : Launch} {e : Env} {s : State} {m : MethodId} {args : Array Value} {below : List Frame} {meth : Method} {c : Code} {D : va_G} {y : ClassId} {h : Nat} {q : Nat → Nat} {n : Nat} {z : Int32 × mSt} (X : mX p s m args c cX8_day 11 wsX8_day D y) (hr : meth.sig.returnType = some .int ∧ meth.locks = false) {a1 : Int32} {a2 : Int32} {a3 : Int32} {a4 : Int32} {a5 : Int32} {I : Nat → Int32} {R : Nat → Nat → Int32} {H : Heap} {locs : List Loc} {ls : Array Slot} (w : mH s D y h q H locs I R) (hl : lv_has ls 11 [(0, .ref h), (1, .int a1), (2, .int a2), (3, .int a3), (4, .int a4), (5, .int a5)]) (e0 : fX8_day_b57 n a1 a2 a3 a4 a5 I R = some z) : W p l e rmX8_day s m args below meth c H locs 0 0 (MQ below (mQi D y h q (mS y h q s.heap.size) z) args s 0 0 (mS y h q s.heap.size)) (F0 m 57 ls []) := by
  have hx := X.1.1
  have hb := X.1.2.1
  unfold fX8_day_b57 at e0
  refine lv_aload_n hx hb dX8_day_57 rfl (lv_at hl 0 rfl) ?_
  refine lv_iload_n hx hb dX8_day_58 rfl (lv_at hl 1 rfl) ?_
  refine lv_iload_n hx hb dX8_day_59 rfl (lv_at hl 2 rfl) ?_
  refine lv_iload_n hx hb dX8_day_60 rfl (lv_at hl 3 rfl) ?_
  refine lv_iconst (v := 3) hx hb dX8_day_61 (by decide) ?_
  refine lv_iload hx hb dX8_day_62 (lv_at hl 4 rfl) ?_
  refine lv_imul hx hb dX8_day_64 ?_
  refine bd e0 (fun z16 e17 e0 => ?_)
  refine m_calli X w (n := 4) (As := [.int a1, .int a2, .int a3, .int (3 * a4)]) (rest := []) (fX8_against_met l _ _ _ _ _ _ _ _ _ _ _ _ _ e17) gX8_day_X8_against rfl rfl rfl (by decide +kernel) ⟨Nat.le_of_ble_eq_true rfl, Nat.le_of_ble_eq_true rfl⟩ rfl hl.1 rfl (Nat.le_of_ble_eq_true rfl) dX8_day_65 (fun H locs w => ?_)
  refine lv_istore (lv' := [(6, .int z16.1), (0, .ref h), (1, .int a1), (2, .int a2), (3, .int a3), (4, .int a4), (5, .int a5)]) hx hb dX8_day_68 hl (by decide) rfl (fun ls hl => ?_)
  refine lv_iload hx hb dX8_day_70 (lv_at hl 0 rfl) ?_
  refine lv_if_eq (tgt := 82) hx hb dX8_day_72 (by decide) (fun c21 => ?_) (fun c21 => ?_)
  · have e0 := itp _ c21 e0
    refine lv_aload_n hx hb dX8_day_82 rfl (lv_at hl 1 rfl) ?_
    refine m_get X w 5 (by decide) (index := 92) rfl (by decide +kernel) (mfi5 _ _) dX8_day_83 ?_
    refine lv_if_ne (tgt := 92) hx hb dX8_day_86 (by decide) (fun c18 => ?_) (fun c18 => ?_)
    · have e0 := itn _ c18 e0
      refine lv_bipush (v := 60) hx hb dX8_day_92 (by decide) ?_
      refine lv_iload_n hx hb dX8_day_94 rfl (lv_at hl 2 rfl) ?_
      refine lv_imul hx hb dX8_day_95 ?_
      refine lv_iload_n hx hb dX8_day_96 rfl (lv_at hl 4 rfl) ?_
      refine lv_iadd hx hb dX8_day_97 ?_
      refine lv_istore (lv' := [(7, .int ((60 * a1) + a3)), (6, .int z16.1), (0, .ref h), (1, .int a1), (2, .int a2), (3, .int a3), (4, .int a4), (5, .int a5)]) hx hb dX8_day_98 hl (by decide) rfl (fun ls hl => ?_)
      refine lv_iconst (v := 0) hx hb dX8_day_100 (by decide) ?_
      refine lv_istore (lv' := [(8, .int 0), (7, .int ((60 * a1) + a3)), (6, .int z16.1), (0, .ref h), (1, .int a1), (2, .int a2), (3, .int a3), (4, .int a4), (5, .int a5)]) hx hb dX8_day_101 hl (by decide) rfl (fun ls hl => ?_)
      exact fX8_day_b103_w (l := l) X hr n _ _ _ _ _ _ _ _ _ w (lv_sub hl [3, 7, 8, 1, 0] rfl) e0
    · have e0 := itp _ c18 e0
      refine lv_bipush (v := (-3)) hx hb dX8_day_89 (by decide) ?_
      have e0 := Option.some.inj e0
      subst e0
      exact m_iret X w hr dX8_day_91
  · have e0 := itn _ c21 e0
    refine lv_aload_n hx hb dX8_day_75 rfl (lv_at hl 1 rfl) ?_
    refine lv_iload hx hb dX8_day_76 (lv_at hl 0 rfl) ?_
    refine bd e0 (fun z19 e20 e0 => ?_)
    refine m_calli X w (n := 1) (As := [.int z16.1]) (rest := []) (fX8_fails_met l _ _ _ _ _ _ _ _ _ _ e20) gX8_day_X8_fails rfl rfl rfl (by decide +kernel) ⟨Nat.le_of_ble_eq_true rfl, Nat.le_of_ble_eq_true rfl⟩ rfl hl.1 rfl (Nat.le_of_ble_eq_true rfl) dX8_day_78 (fun H locs w => ?_)
    have e0 := Option.some.inj e0
    subst e0
    exact m_iret X w hr dX8_day_81
def fX8_day (n : Nat) (a1 : Int32) (a2 : Int32) (a3 : Int32) (a4 : Int32) (a5 : Int32) (I : Nat → Int32) (R : Nat → Nat → Int32) : Option (Int32 × mSt) :=
  (fX8_isSheet n a1).bind fun z1 =>
  if z1 = 0 then
    some ((-1), (upd I 0 0), R)
  else
    (fX8_isSort n a2).bind fun z3 =>
    if z3 = 0 then
      some ((-2), (upd I 0 0), R)
    else
      (fX8_within n a4 0 20).bind fun z5 =>
      if z5 = 0 then
        some ((-2), (upd I 0 0), R)
      else
        (fX8_within n a5 0 4).bind fun z7 =>
        if z7 = 0 then
          (fX8_within n a5 10 13).bind fun z9 =>
          if z9 = 0 then
            some ((-2), (upd I 0 0), R)
          else
            fX8_day_b57 n a1 a2 a3 a4 a5 (upd I 0 0) R
        else
          fX8_day_b57 n a1 a2 a3 a4 a5 (upd I 0 0) R
set_option maxRecDepth 20000 in
set_option maxHeartbeats 1000000 in
theorem fX8_day_w {p : Program} {l : Launch} {e : Env} {s : State} {m : MethodId} {args : Array Value} {below : List Frame} {meth : Method} {c : Code} {D : va_G} {y : ClassId} {h : Nat} {q : Nat → Nat} {n : Nat} {z : Int32 × mSt} (X : mX p s m args c cX8_day 11 wsX8_day D y) (hr : meth.sig.returnType = some .int ∧ meth.locks = false) {a1 : Int32} {a2 : Int32} {a3 : Int32} {a4 : Int32} {a5 : Int32} {I : Nat → Int32} {R : Nat → Nat → Int32} {H : Heap} {locs : List Loc} {ls : Array Slot} (w : mH s D y h q H locs I R) (hl : lv_has ls 11 [(0, .ref h), (1, .int a1), (2, .int a2), (3, .int a3), (4, .int a4), (5, .int a5)]) (e0 : fX8_day n a1 a2 a3 a4 a5 I R = some z) : W p l e rmX8_day s m args below meth c H locs 0 0 (MQ below (mQi D y h q (mS y h q s.heap.size) z) args s 0 0 (mS y h q s.heap.size)) (F0 m 0 ls []) := by
  have hx := X.1.1
  have hb := X.1.2.1
  unfold fX8_day at e0
  refine lv_aload_n hx hb dX8_day_0 rfl (lv_at hl 0 rfl) ?_
  refine lv_iconst (v := 0) hx hb dX8_day_1 (by decide) ?_
  refine m_put X w 0 (by decide) (index := 82) rfl rfl (by decide +kernel) (by decide +kernel) (mps0 _ _ _) dX8_day_2 (fun H locs w => ?_)
  refine lv_iload_n hx hb dX8_day_5 rfl (lv_at hl 1 rfl) ?_
  refine bd e0 (fun z1 e2 e0 => ?_)
  refine m_callsi X w (n := 1) (As := [.int a1]) (rest := []) (fX8_isSheet_met l _ _ _ e2) gX8_day_X8_isSheet rfl rfl rfl (by decide +kernel) ⟨Nat.le_of_ble_eq_true rfl, Nat.le_of_ble_eq_true rfl⟩ rfl hl.1 rfl (Nat.le_of_ble_eq_true rfl) dX8_day_6 (fun H locs w => ?_)
  refine lv_if_ne (tgt := 14) hx hb dX8_day_9 (by decide) (fun c15 => ?_) (fun c15 => ?_)
  · have e0 := itn _ c15 e0
    refine lv_iload_n hx hb dX8_day_14 rfl (lv_at hl 2 rfl) ?_
    refine bd e0 (fun z3 e4 e0 => ?_)
    refine m_callsi X w (n := 1) (As := [.int a2]) (rest := []) (fX8_isSort_met l _ _ _ e4) gX8_day_X8_isSort rfl rfl rfl (by decide +kernel) ⟨Nat.le_of_ble_eq_true rfl, Nat.le_of_ble_eq_true rfl⟩ rfl hl.1 rfl (Nat.le_of_ble_eq_true rfl) dX8_day_15 (fun H locs w => ?_)
    refine lv_if_eq (tgt := 54) hx hb dX8_day_18 (by decide) (fun c14 => ?_) (fun c14 => ?_)
    · have e0 := itp _ c14 e0
      refine lv_bipush (v := (-2)) hx hb dX8_day_54 (by decide) ?_
      have e0 := Option.some.inj e0
      subst e0
      exact m_iret X w hr dX8_day_56
    · have e0 := itn _ c14 e0
      refine lv_iload hx hb dX8_day_21 (lv_at hl 4 rfl) ?_
      refine lv_iconst (v := 0) hx hb dX8_day_23 (by decide) ?_
      refine lv_bipush (v := 20) hx hb dX8_day_24 (by decide) ?_
      refine bd e0 (fun z5 e6 e0 => ?_)
      refine m_callsi X w (n := 3) (As := [.int a4, .int 0, .int 20]) (rest := []) (fX8_within_met l _ _ _ _ _ e6) gX8_day_X8_within rfl rfl rfl (by decide +kernel) ⟨Nat.le_of_ble_eq_true rfl, Nat.le_of_ble_eq_true rfl⟩ rfl hl.1 rfl (Nat.le_of_ble_eq_true rfl) dX8_day_26 (fun H locs w => ?_)
      refine lv_if_eq (tgt := 54) hx hb dX8_day_29 (by decide) (fun c13 => ?_) (fun c13 => ?_)
      · have e0 := itp _ c13 e0
        refine lv_bipush (v := (-2)) hx hb dX8_day_54 (by decide) ?_
        have e0 := Option.some.inj e0
        subst e0
        exact m_iret X w hr dX8_day_56
      · have e0 := itn _ c13 e0
        refine lv_iload hx hb dX8_day_32 (lv_at hl 5 rfl) ?_
        refine lv_iconst (v := 0) hx hb dX8_day_34 (by decide) ?_
        refine lv_iconst (v := 4) hx hb dX8_day_35 (by decide) ?_
        refine bd e0 (fun z7 e8 e0 => ?_)
        refine m_callsi X w (n := 3) (As := [.int a5, .int 0, .int 4]) (rest := []) (fX8_within_met l _ _ _ _ _ e8) gX8_day_X8_within rfl rfl rfl (by decide +kernel) ⟨Nat.le_of_ble_eq_true rfl, Nat.le_of_ble_eq_true rfl⟩ rfl hl.1 rfl (Nat.le_of_ble_eq_true rfl) dX8_day_36 (fun H locs w => ?_)
        refine lv_if_ne (tgt := 57) hx hb dX8_day_39 (by decide) (fun c12 => ?_) (fun c12 => ?_)
        · have e0 := itn _ c12 e0
          exact fX8_day_b57_w (l := l) X hr w (lv_sub hl [0, 1, 2, 3, 4, 5] rfl) e0
        · have e0 := itp _ c12 e0
          refine lv_iload hx hb dX8_day_42 (lv_at hl 5 rfl) ?_
          refine lv_bipush (v := 10) hx hb dX8_day_44 (by decide) ?_
          refine lv_bipush (v := 13) hx hb dX8_day_46 (by decide) ?_
          refine bd e0 (fun z9 e10 e0 => ?_)
          refine m_callsi X w (n := 3) (As := [.int a5, .int 10, .int 13]) (rest := []) (fX8_within_met l _ _ _ _ _ e10) gX8_day_X8_within rfl rfl rfl (by decide +kernel) ⟨Nat.le_of_ble_eq_true rfl, Nat.le_of_ble_eq_true rfl⟩ rfl hl.1 rfl (Nat.le_of_ble_eq_true rfl) dX8_day_48 (fun H locs w => ?_)
          refine lv_if_ne (tgt := 57) hx hb dX8_day_51 (by decide) (fun c11 => ?_) (fun c11 => ?_)
          · have e0 := itn _ c11 e0
            exact fX8_day_b57_w (l := l) X hr w (lv_sub hl [0, 1, 2, 3, 4, 5] rfl) e0
          · have e0 := itp _ c11 e0
            refine lv_bipush (v := (-2)) hx hb dX8_day_54 (by decide) ?_
            have e0 := Option.some.inj e0
            subst e0
            exact m_iret X w hr dX8_day_56
  · have e0 := itp _ c15 e0
    refine lv_iconst (v := (-1)) hx hb dX8_day_12 (by decide) ?_
    have e0 := Option.some.inj e0
    subst e0
    exact m_iret X w hr dX8_day_13
set_option maxRecDepth 20000 in
theorem fX8_day_met (l : Launch) (D : va_G) (y : ClassId) (h : Nat) (q : Nat → Nat) (sz n : Nat) (a1 : Int32) (a2 : Int32) (a3 : Int32) (a4 : Int32) (a5 : Int32) (I : Nat → Int32) (R : Nat → Nat → Int32) (z : Int32 × mSt) (e0 : fX8_day n a1 a2 a3 a4 a5 I R = some z) : Met l yX8_day wsX8_day rmX8_day (va_Pc [.ref h, .int a1, .int a2, .int a3, .int a4, .int a5] (mPre D y h q sz I R)) (mQi D y h q (mS y h q sz) z) 0 0 (mS y h q sz) := by
  refine Met.ofW (cc := cX8_day) (maxL := 11) (ret := some .int) (by decide) rfl ?_
  intro p e s m args below meth c s₁ B hml hv
  obtain ⟨rfl, hsz, hP, hK, hD⟩ := hv
  subst hsz
  have hl := lv_entry ([.ref h, .int a1, .int a2, .int a3, .int a4, .int a5]) (n := 11) (Nat.le_of_ble_eq_true rfl)
  rw [lg_entry_eq]
  exact fX8_day_w (s := s) ⟨⟨B.exec, B.bytes, hml, findClass_of_methodNamed B.named, atoms_spec (ws := wsX8_day) B.pre⟩, fun _ h9 => List.mem_cons_of_mem _ (List.mem_append_right _ h9), hK⟩ ⟨B.returns, B.notSynchronized⟩ ⟨hP, mS_D hD, va_S.rf⟩ hl e0
def rmX8_rounds : Room := { frames := 4, cells := 0, slots := 0, locals := 93 }
def fX8_rounds (n : Nat) (I : Nat → Int32) (R : Nat → Nat → Int32) : Option (Int32 × mSt) :=
  if (I 5) = 0 then
    some ((-3), I, R)
  else
    (fX8_findHolds n I R).bind fun z1 =>
    some ((z1.1 25), z1.1, z1.2)
set_option maxRecDepth 20000 in
set_option maxHeartbeats 1000000 in
theorem fX8_rounds_w {p : Program} {l : Launch} {e : Env} {s : State} {m : MethodId} {args : Array Value} {below : List Frame} {meth : Method} {c : Code} {D : va_G} {y : ClassId} {h : Nat} {q : Nat → Nat} {n : Nat} {z : Int32 × mSt} (X : mX p s m args c cX8_rounds 1 wsX8_rounds D y) (hr : meth.sig.returnType = some .int ∧ meth.locks = false) {I : Nat → Int32} {R : Nat → Nat → Int32} {H : Heap} {locs : List Loc} {ls : Array Slot} (w : mH s D y h q H locs I R) (hl : lv_has ls 1 [(0, .ref h)]) (e0 : fX8_rounds n I R = some z) : W p l e rmX8_rounds s m args below meth c H locs 0 0 (MQ below (mQi D y h q (mS y h q s.heap.size) z) args s 0 0 (mS y h q s.heap.size)) (F0 m 0 ls []) := by
  have hx := X.1.1
  have hb := X.1.2.1
  unfold fX8_rounds at e0
  refine lv_aload_n hx hb dX8_rounds_0 rfl (lv_at hl 0 rfl) ?_
  refine m_get X w 5 (by decide) (index := 92) rfl (by decide +kernel) (mfi5 _ _) dX8_rounds_1 ?_
  refine lv_if_ne (tgt := 10) hx hb dX8_rounds_4 (by decide) (fun c3 => ?_) (fun c3 => ?_)
  · have e0 := itn _ c3 e0
    refine lv_aload_n hx hb dX8_rounds_10 rfl (lv_at hl 0 rfl) ?_
    refine bd e0 (fun z1 e2 e0 => ?_)
    refine m_callv X w (n := 0) (As := []) (rest := []) (fX8_findHolds_met l _ _ _ _ _ _  _ _ _ e2) gX8_rounds_X8_findHolds rfl rfl rfl (by decide +kernel) ⟨Nat.le_of_ble_eq_true rfl, Nat.le_of_ble_eq_true rfl⟩ rfl hl.1 rfl (Nat.le_of_ble_eq_true rfl) dX8_rounds_11 (fun H locs w => ?_)
    refine lv_aload_n hx hb dX8_rounds_14 rfl (lv_at hl 0 rfl) ?_
    refine m_get X w 25 (by decide) (index := 170) rfl (by decide +kernel) (mfi25 _ _) dX8_rounds_15 ?_
    have e0 := Option.some.inj e0
    subst e0
    exact m_iret X w hr dX8_rounds_18
  · have e0 := itp _ c3 e0
    refine lv_bipush (v := (-3)) hx hb dX8_rounds_7 (by decide) ?_
    have e0 := Option.some.inj e0
    subst e0
    exact m_iret X w hr dX8_rounds_9
set_option maxRecDepth 20000 in
theorem fX8_rounds_met (l : Launch) (D : va_G) (y : ClassId) (h : Nat) (q : Nat → Nat) (sz n : Nat) (I : Nat → Int32) (R : Nat → Nat → Int32) (z : Int32 × mSt) (e0 : fX8_rounds n I R = some z) : Met l yX8_rounds wsX8_rounds rmX8_rounds (va_Pc [.ref h] (mPre D y h q sz I R)) (mQi D y h q (mS y h q sz) z) 0 0 (mS y h q sz) := by
  refine Met.ofW (cc := cX8_rounds) (maxL := 1) (ret := some .int) (by decide) rfl ?_
  intro p e s m args below meth c s₁ B hml hv
  obtain ⟨rfl, hsz, hP, hK, hD⟩ := hv
  subst hsz
  have hl := lv_entry ([.ref h]) (n := 1) (Nat.le_of_ble_eq_true rfl)
  rw [lg_entry_eq]
  exact fX8_rounds_w (s := s) ⟨⟨B.exec, B.bytes, hml, findClass_of_methodNamed B.named, atoms_spec (ws := wsX8_rounds) B.pre⟩, fun _ h9 => List.mem_cons_of_mem _ (List.mem_append_right _ h9), hK⟩ ⟨B.returns, B.notSynchronized⟩ ⟨hP, mS_D hD, va_S.rf⟩ hl e0
def rmX8_born : Room := { frames := 4, cells := 0, slots := 0, locals := 93 }
def fX8_born_b57 (n : Nat) (k25 : Int32 → Int32 → Int32 → (Nat → Int32) → (Nat → Nat → Int32) → Option (Int32 × mSt)) (a1 : Int32) (a3 : Int32) (t0 : Int32) (t1 : Int32) (I : Nat → Int32) (R : Nat → Nat → Int32) : Option (Int32 × mSt) :=
  k25 a1 (t1 + t0) (a3 + 1) I R
set_option maxRecDepth 20000 in
set_option maxHeartbeats 1000000 in
theorem fX8_born_b57_w {p : Program} {l : Launch} {e : Env} {s : State} {m : MethodId} {args : Array Value} {below : List Frame} {meth : Method} {c : Code} {D : va_G} {y : ClassId} {h : Nat} {q : Nat → Nat} {n : Nat} {z : Int32 × mSt} (X : mX p s m args c cX8_born 4 wsX8_born D y) (hr : meth.sig.returnType = some .int ∧ meth.locks = false) {k25 : Int32 → Int32 → Int32 → (Nat → Int32) → (Nat → Nat → Int32) → Option (Int32 × mSt)} (hk25 : ∀ (a1 : Int32) (a2 : Int32) (a3 : Int32) (I : Nat → Int32) (R : Nat → Nat → Int32) (H : Heap) (locs : List Loc) (ls : Array Slot), mH s D y h q H locs I R → lv_has ls 4 [(0, .ref h), (1, .int a1), (2, .int a2), (3, .int a3)] → k25 a1 a2 a3 I R = some z → W p l e rmX8_born s m args below meth c H locs 0 0 (MQ below (mQi D y h q (mS y h q s.heap.size) z) args s 0 0 (mS y h q s.heap.size)) (F0 m 25 ls [])) {a1 : Int32} {a3 : Int32} {t0 : Int32} {t1 : Int32} {I : Nat → Int32} {R : Nat → Nat → Int32} {H : Heap} {locs : List Loc} {ls : Array Slot} (w : mH s D y h q H locs I R) (hl : lv_has ls 4 [(0, .ref h), (1, .int a1), (3, .int a3)]) (e0 : fX8_born_b57 n k25 a1 a3 t0 t1 I R = some z) : W p l e rmX8_born s m args below meth c H locs 0 0 (MQ below (mQi D y h q (mS y h q s.heap.size) z) args s 0 0 (mS y h q s.heap.size)) (F0 m 57 ls [.int t0, .int t1]) := by
  have hx := X.1.1
  have hb := X.1.2.1
  unfold fX8_born_b57 at e0
  refine lv_iadd hx hb dX8_born_57 ?_
  refine lv_istore_n (lv' := [(2, .int (t1 + t0)), (0, .ref h), (1, .int a1), (3, .int a3)]) hx hb dX8_born_58 rfl hl (by decide) rfl (fun ls hl => ?_)
  refine lv_iinc (v := (a3 + 1)) (lv' := [(3, .int (a3 + 1)), (2, .int (t1 + t0)), (0, .ref h), (1, .int a1)]) hx hb dX8_born_59 hl (k := 3) rfl rfl (by decide) rfl (fun ls hl => ?_)
  refine lv_goto (tgt := 25) hx hb dX8_born_62 (by decide) ?_
  exact hk25 _ _ _ _ _ _ _ _ w (lv_sub hl [2, 3, 1, 0] rfl) e0
def fX8_born_b56 (n : Nat) (k25 : Int32 → Int32 → Int32 → (Nat → Int32) → (Nat → Nat → Int32) → Option (Int32 × mSt)) (a1 : Int32) (a3 : Int32) (t0 : Int32) (I : Nat → Int32) (R : Nat → Nat → Int32) : Option (Int32 × mSt) :=
  fX8_born_b57 n k25 a1 a3 0 t0 I R
set_option maxRecDepth 20000 in
set_option maxHeartbeats 1000000 in
theorem fX8_born_b56_w {p : Program} {l : Launch} {e : Env} {s : State} {m : MethodId} {args : Array Value} {below : List Frame} {meth : Method} {c : Code} {D : va_G} {y : ClassId} {h : Nat} {q : Nat → Nat} {n : Nat} {z : Int32 × mSt} (X : mX p s m args c cX8_born 4 wsX8_born D y) (hr : meth.sig.returnType = some .int ∧ meth.locks = false) {k25 : Int32 → Int32 → Int32 → (Nat → Int32) → (Nat → Nat → Int32) → Option (Int32 × mSt)} (hk25 : ∀ (a1 : Int32) (a2 : Int32) (a3 : Int32) (I : Nat → Int32) (R : Nat → Nat → Int32) (H : Heap) (locs : List Loc) (ls : Array Slot), mH s D y h q H locs I R → lv_has ls 4 [(0, .ref h), (1, .int a1), (2, .int a2), (3, .int a3)] → k25 a1 a2 a3 I R = some z → W p l e rmX8_born s m args below meth c H locs 0 0 (MQ below (mQi D y h q (mS y h q s.heap.size) z) args s 0 0 (mS y h q s.heap.size)) (F0 m 25 ls [])) {a1 : Int32} {a3 : Int32} {t0 : Int32} {I : Nat → Int32} {R : Nat → Nat → Int32} {H : Heap} {locs : List Loc} {ls : Array Slot} (w : mH s D y h q H locs I R) (hl : lv_has ls 4 [(0, .ref h), (1, .int a1), (3, .int a3)]) (e0 : fX8_born_b56 n k25 a1 a3 t0 I R = some z) : W p l e rmX8_born s m args below meth c H locs 0 0 (MQ below (mQi D y h q (mS y h q s.heap.size) z) args s 0 0 (mS y h q s.heap.size)) (F0 m 56 ls [.int t0]) := by
  have hx := X.1.1
  have hb := X.1.2.1
  unfold fX8_born_b56 at e0
  refine lv_iconst (v := 0) hx hb dX8_born_56 (by decide) ?_
  exact fX8_born_b57_w (l := l) X hr hk25 w (lv_sub hl [0, 1, 2] rfl) e0
def fX8_born_b25 (n : Nat) : Nat → Int32 → Int32 → Int32 → (Nat → Int32) → (Nat → Nat → Int32) → Option (Int32 × mSt)
  | 0, _, _, _, _, _ => none
  | j + 1, a1, a2, a3, I, R =>
    if 64 ≤ a3 then
      some (a2, I, R)
    else
      if inb a3 64 = true then
      if (getA R 22 a3) = 1 then
        if inb a3 64 = true then
        if (getA R 24 a3) = a1 then
          fX8_born_b57 n (fX8_born_b25 n j) a1 a3 1 a2 I R
        else
          fX8_born_b56 n (fX8_born_b25 n j) a1 a3 a2 I R
        else none
      else
        fX8_born_b56 n (fX8_born_b25 n j) a1 a3 a2 I R
      else none
set_option maxRecDepth 20000 in
set_option maxHeartbeats 1000000 in
theorem fX8_born_b25_w {p : Program} {l : Launch} {e : Env} {s : State} {m : MethodId} {args : Array Value} {below : List Frame} {meth : Method} {c : Code} {D : va_G} {y : ClassId} {h : Nat} {q : Nat → Nat} {n : Nat} {z : Int32 × mSt} (X : mX p s m args c cX8_born 4 wsX8_born D y) (hr : meth.sig.returnType = some .int ∧ meth.locks = false) : ∀ (j : Nat) (a1 : Int32) (a2 : Int32) (a3 : Int32) (I : Nat → Int32) (R : Nat → Nat → Int32) (H : Heap) (locs : List Loc) (ls : Array Slot), mH s D y h q H locs I R → lv_has ls 4 [(0, .ref h), (1, .int a1), (2, .int a2), (3, .int a3)] → fX8_born_b25 n j a1 a2 a3 I R = some z → W p l e rmX8_born s m args below meth c H locs 0 0 (MQ below (mQi D y h q (mS y h q s.heap.size) z) args s 0 0 (mS y h q s.heap.size)) (F0 m 25 ls []) := by
  have hx := X.1.1
  have hb := X.1.2.1
  intro j
  induction j with
  | zero =>
    intro a1 a2 a3 I R H locs ls w hl e0
    cases e0
  | succ j ih =>
    intro a1 a2 a3 I R H locs ls w hl e0
    rw [fX8_born_b25] at e0
    refine lv_iload_n hx hb dX8_born_25 rfl (lv_at hl 3 rfl) ?_
    refine lv_bipush (v := 64) hx hb dX8_born_26 (by decide) ?_
    refine lv_icmp_ge (tgt := 65) hx hb dX8_born_28 (by decide) (fun c9 => ?_) (fun c9 => ?_)
    · have e0 := itp _ c9 e0
      refine lv_iload_n hx hb dX8_born_65 rfl (lv_at hl 2 rfl) ?_
      have e0 := Option.some.inj e0
      subst e0
      exact m_iret X w hr dX8_born_66
    · have e0 := itn _ c9 e0
      refine lv_iload_n hx hb dX8_born_31 rfl (lv_at hl 2 rfl) ?_
      refine lv_aload_n hx hb dX8_born_32 rfl (lv_at hl 0 rfl) ?_
      refine m_get X w 22 (by decide) (index := 52) rfl (by decide +kernel) (mfr22 _ _) dX8_born_33 ?_
      refine lv_iload_n hx hb dX8_born_36 rfl (lv_at hl 3 rfl) ?_
      refine gd e0 (fun g5 e0 => ?_)
      refine m_ald X w 15 22 (mat22 _ _ _ _ _) g5 dX8_born_37 ?_
      refine lv_iconst (v := 1) hx hb dX8_born_38 (by decide) ?_
      refine lv_icmp_ne (tgt := 56) hx hb dX8_born_39 (by decide) (fun c8 => ?_) (fun c8 => ?_)
      · have e0 := itn _ c8 e0
        exact fX8_born_b56_w (l := l) X hr ih w (lv_sub hl [0, 1, 3] rfl) e0
      · have e0 := itp _ c8 e0
        refine lv_aload_n hx hb dX8_born_42 rfl (lv_at hl 0 rfl) ?_
        refine m_get X w 24 (by decide) (index := 58) rfl (by decide +kernel) (mfr24 _ _) dX8_born_43 ?_
        refine lv_iload_n hx hb dX8_born_46 rfl (lv_at hl 3 rfl) ?_
        refine gd e0 (fun g6 e0 => ?_)
        refine m_ald X w 17 24 (mat24 _ _ _ _ _) g6 dX8_born_47 ?_
        refine lv_iload_n hx hb dX8_born_48 rfl (lv_at hl 1 rfl) ?_
        refine lv_icmp_ne (tgt := 56) hx hb dX8_born_49 (by decide) (fun c7 => ?_) (fun c7 => ?_)
        · have e0 := itn _ c7 e0
          exact fX8_born_b56_w (l := l) X hr ih w (lv_sub hl [0, 1, 3] rfl) e0
        · have e0 := itp _ c7 e0
          refine lv_iconst (v := 1) hx hb dX8_born_52 (by decide) ?_
          refine lv_goto (tgt := 57) hx hb dX8_born_53 (by decide) ?_
          exact fX8_born_b57_w (l := l) X hr ih w (lv_sub hl [0, 1, 3] rfl) e0
def fX8_born (n : Nat) (a1 : Int32) (I : Nat → Int32) (R : Nat → Nat → Int32) : Option (Int32 × mSt) :=
  if 0 ≤ a1 then
    if (I 5) = 0 then
      some ((-3), I, R)
    else
      (fX8_findHolds n I R).bind fun z1 =>
      fX8_born_b25 n n a1 0 0 z1.1 z1.2
  else
    some ((-2), I, R)
set_option maxRecDepth 20000 in
set_option maxHeartbeats 1000000 in
theorem fX8_born_w {p : Program} {l : Launch} {e : Env} {s : State} {m : MethodId} {args : Array Value} {below : List Frame} {meth : Method} {c : Code} {D : va_G} {y : ClassId} {h : Nat} {q : Nat → Nat} {n : Nat} {z : Int32 × mSt} (X : mX p s m args c cX8_born 4 wsX8_born D y) (hr : meth.sig.returnType = some .int ∧ meth.locks = false) {a1 : Int32} {I : Nat → Int32} {R : Nat → Nat → Int32} {H : Heap} {locs : List Loc} {ls : Array Slot} (w : mH s D y h q H locs I R) (hl : lv_has ls 4 [(0, .ref h), (1, .int a1)]) (e0 : fX8_born n a1 I R = some z) : W p l e rmX8_born s m args below meth c H locs 0 0 (MQ below (mQi D y h q (mS y h q s.heap.size) z) args s 0 0 (mS y h q s.heap.size)) (F0 m 0 ls []) := by
  have hx := X.1.1
  have hb := X.1.2.1
  unfold fX8_born at e0
  refine lv_iload_n hx hb dX8_born_0 rfl (lv_at hl 1 rfl) ?_
  refine lv_if_ge (tgt := 7) hx hb dX8_born_1 (by decide) (fun c4 => ?_) (fun c4 => ?_)
  · have e0 := itp _ c4 e0
    refine lv_aload_n hx hb dX8_born_7 rfl (lv_at hl 0 rfl) ?_
    refine m_get X w 5 (by decide) (index := 92) rfl (by decide +kernel) (mfi5 _ _) dX8_born_8 ?_
    refine lv_if_ne (tgt := 17) hx hb dX8_born_11 (by decide) (fun c3 => ?_) (fun c3 => ?_)
    · have e0 := itn _ c3 e0
      refine lv_aload_n hx hb dX8_born_17 rfl (lv_at hl 0 rfl) ?_
      refine bd e0 (fun z1 e2 e0 => ?_)
      refine m_callv X w (n := 0) (As := []) (rest := []) (fX8_findHolds_met l _ _ _ _ _ _  _ _ _ e2) gX8_born_X8_findHolds rfl rfl rfl (by decide +kernel) ⟨Nat.le_of_ble_eq_true rfl, Nat.le_of_ble_eq_true rfl⟩ rfl hl.1 rfl (Nat.le_of_ble_eq_true rfl) dX8_born_18 (fun H locs w => ?_)
      refine lv_iconst (v := 0) hx hb dX8_born_21 (by decide) ?_
      refine lv_istore_n (lv' := [(2, .int 0), (0, .ref h), (1, .int a1)]) hx hb dX8_born_22 rfl hl (by decide) rfl (fun ls hl => ?_)
      refine lv_iconst (v := 0) hx hb dX8_born_23 (by decide) ?_
      refine lv_istore_n (lv' := [(3, .int 0), (2, .int 0), (0, .ref h), (1, .int a1)]) hx hb dX8_born_24 rfl hl (by decide) rfl (fun ls hl => ?_)
      exact fX8_born_b25_w (l := l) X hr n _ _ _ _ _ _ _ _ w (lv_sub hl [2, 3, 1, 0] rfl) e0
    · have e0 := itp _ c3 e0
      refine lv_bipush (v := (-3)) hx hb dX8_born_14 (by decide) ?_
      have e0 := Option.some.inj e0
      subst e0
      exact m_iret X w hr dX8_born_16
  · have e0 := itn _ c4 e0
    refine lv_bipush (v := (-2)) hx hb dX8_born_4 (by decide) ?_
    have e0 := Option.some.inj e0
    subst e0
    exact m_iret X w hr dX8_born_6
set_option maxRecDepth 20000 in
theorem fX8_born_met (l : Launch) (D : va_G) (y : ClassId) (h : Nat) (q : Nat → Nat) (sz n : Nat) (a1 : Int32) (I : Nat → Int32) (R : Nat → Nat → Int32) (z : Int32 × mSt) (e0 : fX8_born n a1 I R = some z) : Met l yX8_born wsX8_born rmX8_born (va_Pc [.ref h, .int a1] (mPre D y h q sz I R)) (mQi D y h q (mS y h q sz) z) 0 0 (mS y h q sz) := by
  refine Met.ofW (cc := cX8_born) (maxL := 4) (ret := some .int) (by decide) rfl ?_
  intro p e s m args below meth c s₁ B hml hv
  obtain ⟨rfl, hsz, hP, hK, hD⟩ := hv
  subst hsz
  have hl := lv_entry ([.ref h, .int a1]) (n := 4) (Nat.le_of_ble_eq_true rfl)
  rw [lg_entry_eq]
  exact fX8_born_w (s := s) ⟨⟨B.exec, B.bytes, hml, findClass_of_methodNamed B.named, atoms_spec (ws := wsX8_born) B.pre⟩, fun _ h9 => List.mem_cons_of_mem _ (List.mem_append_right _ h9), hK⟩ ⟨B.returns, B.notSynchronized⟩ ⟨hP, mS_D hD, va_S.rf⟩ hl e0
def rmX8_isCheaper : Room := { frames := 0, cells := 0, slots := 0, locals := 0 }
def fX8_isCheaper (n : Nat) (a1 : Int32) (a2 : Int32) (I : Nat → Int32) (R : Nat → Nat → Int32) : Option (Int32 × mSt) :=
  if inb a1 64 = true then
  if inb a2 64 = true then
  if (getA R 26 a1) = (getA R 26 a2) then
    if a2 ≤ a1 then
      some (0, I, R)
    else
      some (1, I, R)
  else
    if inb a1 64 = true then
    if inb a2 64 = true then
    if (getA R 26 a2) ≤ (getA R 26 a1) then
      some (0, I, R)
    else
      some (1, I, R)
    else none
    else none
  else none
  else none
set_option maxRecDepth 20000 in
set_option maxHeartbeats 1000000 in
theorem fX8_isCheaper_w {p : Program} {l : Launch} {e : Env} {s : State} {m : MethodId} {args : Array Value} {below : List Frame} {meth : Method} {c : Code} {D : va_G} {y : ClassId} {h : Nat} {q : Nat → Nat} {n : Nat} {z : Int32 × mSt} (X : mX p s m args c cX8_isCheaper 3 wsX8_isCheaper D y) (hr : meth.sig.returnType = some .boolean ∧ meth.locks = false) {a1 : Int32} {a2 : Int32} {I : Nat → Int32} {R : Nat → Nat → Int32} {H : Heap} {locs : List Loc} {ls : Array Slot} (w : mH s D y h q H locs I R) (hl : lv_has ls 3 [(0, .ref h), (1, .int a1), (2, .int a2)]) (e0 : fX8_isCheaper n a1 a2 I R = some z) : W p l e rmX8_isCheaper s m args below meth c H locs 0 0 (MQ below (mQi D y h q (mS y h q s.heap.size) z) args s 0 0 (mS y h q s.heap.size)) (F0 m 0 ls []) := by
  have hx := X.1.1
  have hb := X.1.2.1
  unfold fX8_isCheaper at e0
  refine lv_aload_n hx hb dX8_isCheaper_0 rfl (lv_at hl 0 rfl) ?_
  refine m_get X w 26 (by decide) (index := 61) rfl (by decide +kernel) (mfr26 _ _) dX8_isCheaper_1 ?_
  refine lv_iload_n hx hb dX8_isCheaper_4 rfl (lv_at hl 1 rfl) ?_
  refine gd e0 (fun g1 e0 => ?_)
  refine m_ald X w 18 26 (mat26 _ _ _ _ _) g1 dX8_isCheaper_5 ?_
  refine lv_aload_n hx hb dX8_isCheaper_6 rfl (lv_at hl 0 rfl) ?_
  refine m_get X w 26 (by decide) (index := 61) rfl (by decide +kernel) (mfr26 _ _) dX8_isCheaper_7 ?_
  refine lv_iload_n hx hb dX8_isCheaper_10 rfl (lv_at hl 2 rfl) ?_
  refine gd e0 (fun g2 e0 => ?_)
  refine m_ald X w 18 26 (mat26 _ _ _ _ _) g2 dX8_isCheaper_11 ?_
  refine lv_icmp_eq (tgt := 38) hx hb dX8_isCheaper_12 (by decide) (fun c7 => ?_) (fun c7 => ?_)
  · have e0 := itp _ c7 e0
    refine lv_iload_n hx hb dX8_isCheaper_38 rfl (lv_at hl 1 rfl) ?_
    refine lv_iload_n hx hb dX8_isCheaper_39 rfl (lv_at hl 2 rfl) ?_
    refine lv_icmp_ge (tgt := 47) hx hb dX8_isCheaper_40 (by decide) (fun c3 => ?_) (fun c3 => ?_)
    · have e0 := itp _ c3 e0
      refine lv_iconst (v := 0) hx hb dX8_isCheaper_47 (by decide) ?_
      have e0 := Option.some.inj e0
      subst e0
      exact m_zret X w hr rfl dX8_isCheaper_48
    · have e0 := itn _ c3 e0
      refine lv_iconst (v := 1) hx hb dX8_isCheaper_43 (by decide) ?_
      refine lv_goto (tgt := 48) hx hb dX8_isCheaper_44 (by decide) ?_
      have e0 := Option.some.inj e0
      subst e0
      exact m_zret X w hr rfl dX8_isCheaper_48
  · have e0 := itn _ c7 e0
    refine lv_aload_n hx hb dX8_isCheaper_15 rfl (lv_at hl 0 rfl) ?_
    refine m_get X w 26 (by decide) (index := 61) rfl (by decide +kernel) (mfr26 _ _) dX8_isCheaper_16 ?_
    refine lv_iload_n hx hb dX8_isCheaper_19 rfl (lv_at hl 1 rfl) ?_
    refine gd e0 (fun g4 e0 => ?_)
    refine m_ald X w 18 26 (mat26 _ _ _ _ _) g4 dX8_isCheaper_20 ?_
    refine lv_aload_n hx hb dX8_isCheaper_21 rfl (lv_at hl 0 rfl) ?_
    refine m_get X w 26 (by decide) (index := 61) rfl (by decide +kernel) (mfr26 _ _) dX8_isCheaper_22 ?_
    refine lv_iload_n hx hb dX8_isCheaper_25 rfl (lv_at hl 2 rfl) ?_
    refine gd e0 (fun g5 e0 => ?_)
    refine m_ald X w 18 26 (mat26 _ _ _ _ _) g5 dX8_isCheaper_26 ?_
    refine lv_icmp_ge (tgt := 34) hx hb dX8_isCheaper_27 (by decide) (fun c6 => ?_) (fun c6 => ?_)
    · have e0 := itp _ c6 e0
      refine lv_iconst (v := 0) hx hb dX8_isCheaper_34 (by decide) ?_
      refine lv_goto (tgt := 48) hx hb dX8_isCheaper_35 (by decide) ?_
      have e0 := Option.some.inj e0
      subst e0
      exact m_zret X w hr rfl dX8_isCheaper_48
    · have e0 := itn _ c6 e0
      refine lv_iconst (v := 1) hx hb dX8_isCheaper_30 (by decide) ?_
      refine lv_goto (tgt := 48) hx hb dX8_isCheaper_31 (by decide) ?_
      have e0 := Option.some.inj e0
      subst e0
      exact m_zret X w hr rfl dX8_isCheaper_48
set_option maxRecDepth 20000 in
theorem fX8_isCheaper_met (l : Launch) (D : va_G) (y : ClassId) (h : Nat) (q : Nat → Nat) (sz n : Nat) (a1 : Int32) (a2 : Int32) (I : Nat → Int32) (R : Nat → Nat → Int32) (z : Int32 × mSt) (e0 : fX8_isCheaper n a1 a2 I R = some z) : Met l yX8_isCheaper wsX8_isCheaper rmX8_isCheaper (va_Pc [.ref h, .int a1, .int a2] (mPre D y h q sz I R)) (mQi D y h q (mS y h q sz) z) 0 0 (mS y h q sz) := by
  refine Met.ofW (cc := cX8_isCheaper) (maxL := 3) (ret := some .boolean) (by decide) rfl ?_
  intro p e s m args below meth c s₁ B hml hv
  obtain ⟨rfl, hsz, hP, hK, hD⟩ := hv
  subst hsz
  have hl := lv_entry ([.ref h, .int a1, .int a2]) (n := 3) (Nat.le_of_ble_eq_true rfl)
  rw [lg_entry_eq]
  exact fX8_isCheaper_w (s := s) ⟨⟨B.exec, B.bytes, hml, findClass_of_methodNamed B.named, atoms_spec (ws := wsX8_isCheaper) B.pre⟩, fun _ h9 => List.mem_cons_of_mem _ (List.mem_append_right _ h9), hK⟩ ⟨B.returns, B.notSynchronized⟩ ⟨hP, mS_D hD, va_S.rf⟩ hl e0
def rmX8_ranked : Room := { frames := 5, cells := 0, slots := 0, locals := 115 }
def fX8_ranked_b84 (n : Nat) (k26 : Int32 → Int32 → Int32 → (Nat → Int32) → (Nat → Nat → Int32) → Option (Int32 × mSt)) (k45 : Int32 → Int32 → Int32 → Int32 → Int32 → (Nat → Int32) → (Nat → Nat → Int32) → Option (Int32 × mSt)) (a1 : Int32) (a2 : Int32) (a3 : Int32) (a5 : Int32) (t0 : Int32) (t1 : Int32) (I : Nat → Int32) (R : Nat → Nat → Int32) : Option (Int32 × mSt) :=
  k45 a1 a2 a3 (t1 + t0) (a5 + 1) I R
set_option maxRecDepth 20000 in
set_option maxHeartbeats 1000000 in
theorem fX8_ranked_b84_w {p : Program} {l : Launch} {e : Env} {s : State} {m : MethodId} {args : Array Value} {below : List Frame} {meth : Method} {c : Code} {D : va_G} {y : ClassId} {h : Nat} {q : Nat → Nat} {n : Nat} {z : Int32 × mSt} (X : mX p s m args c cX8_ranked 6 wsX8_ranked D y) (hr : meth.sig.returnType = some .int ∧ meth.locks = false) {k26 : Int32 → Int32 → Int32 → (Nat → Int32) → (Nat → Nat → Int32) → Option (Int32 × mSt)} (hk26 : ∀ (a1 : Int32) (a2 : Int32) (a3 : Int32) (I : Nat → Int32) (R : Nat → Nat → Int32) (H : Heap) (locs : List Loc) (ls : Array Slot), mH s D y h q H locs I R → lv_has ls 6 [(0, .ref h), (1, .int a1), (2, .int a2), (3, .int a3)] → k26 a1 a2 a3 I R = some z → W p l e rmX8_ranked s m args below meth c H locs 0 0 (MQ below (mQi D y h q (mS y h q s.heap.size) z) args s 0 0 (mS y h q s.heap.size)) (F0 m 26 ls [])) {k45 : Int32 → Int32 → Int32 → Int32 → Int32 → (Nat → Int32) → (Nat → Nat → Int32) → Option (Int32 × mSt)} (hk45 : ∀ (a1 : Int32) (a2 : Int32) (a3 : Int32) (a4 : Int32) (a5 : Int32) (I : Nat → Int32) (R : Nat → Nat → Int32) (H : Heap) (locs : List Loc) (ls : Array Slot), mH s D y h q H locs I R → lv_has ls 6 [(0, .ref h), (1, .int a1), (2, .int a2), (3, .int a3), (4, .int a4), (5, .int a5)] → k45 a1 a2 a3 a4 a5 I R = some z → W p l e rmX8_ranked s m args below meth c H locs 0 0 (MQ below (mQi D y h q (mS y h q s.heap.size) z) args s 0 0 (mS y h q s.heap.size)) (F0 m 45 ls [])) {a1 : Int32} {a2 : Int32} {a3 : Int32} {a5 : Int32} {t0 : Int32} {t1 : Int32} {I : Nat → Int32} {R : Nat → Nat → Int32} {H : Heap} {locs : List Loc} {ls : Array Slot} (w : mH s D y h q H locs I R) (hl : lv_has ls 6 [(0, .ref h), (1, .int a1), (2, .int a2), (3, .int a3), (5, .int a5)]) (e0 : fX8_ranked_b84 n k26 k45 a1 a2 a3 a5 t0 t1 I R = some z) : W p l e rmX8_ranked s m args below meth c H locs 0 0 (MQ below (mQi D y h q (mS y h q s.heap.size) z) args s 0 0 (mS y h q s.heap.size)) (F0 m 84 ls [.int t0, .int t1]) := by
  have hx := X.1.1
  have hb := X.1.2.1
  unfold fX8_ranked_b84 at e0
  refine lv_iadd hx hb dX8_ranked_84 ?_
  refine lv_istore (lv' := [(4, .int (t1 + t0)), (0, .ref h), (1, .int a1), (2, .int a2), (3, .int a3), (5, .int a5)]) hx hb dX8_ranked_85 hl (by decide) rfl (fun ls hl => ?_)
  refine lv_iinc (v := (a5 + 1)) (lv' := [(5, .int (a5 + 1)), (4, .int (t1 + t0)), (0, .ref h), (1, .int a1), (2, .int a2), (3, .int a3)]) hx hb dX8_ranked_87 hl (k := 5) rfl rfl (by decide) rfl (fun ls hl => ?_)
  refine lv_goto (tgt := 45) hx hb dX8_ranked_90 (by decide) ?_
  exact hk45 _ _ _ _ _ _ _ _ _ _ w (lv_sub hl [2, 3, 4, 5, 1, 0] rfl) e0
def fX8_ranked_b83 (n : Nat) (k26 : Int32 → Int32 → Int32 → (Nat → Int32) → (Nat → Nat → Int32) → Option (Int32 × mSt)) (k45 : Int32 → Int32 → Int32 → Int32 → Int32 → (Nat → Int32) → (Nat → Nat → Int32) → Option (Int32 × mSt)) (a1 : Int32) (a2 : Int32) (a3 : Int32) (a5 : Int32) (t0 : Int32) (I : Nat → Int32) (R : Nat → Nat → Int32) : Option (Int32 × mSt) :=
  fX8_ranked_b84 n k26 k45 a1 a2 a3 a5 0 t0 I R
set_option maxRecDepth 20000 in
set_option maxHeartbeats 1000000 in
theorem fX8_ranked_b83_w {p : Program} {l : Launch} {e : Env} {s : State} {m : MethodId} {args : Array Value} {below : List Frame} {meth : Method} {c : Code} {D : va_G} {y : ClassId} {h : Nat} {q : Nat → Nat} {n : Nat} {z : Int32 × mSt} (X : mX p s m args c cX8_ranked 6 wsX8_ranked D y) (hr : meth.sig.returnType = some .int ∧ meth.locks = false) {k26 : Int32 → Int32 → Int32 → (Nat → Int32) → (Nat → Nat → Int32) → Option (Int32 × mSt)} (hk26 : ∀ (a1 : Int32) (a2 : Int32) (a3 : Int32) (I : Nat → Int32) (R : Nat → Nat → Int32) (H : Heap) (locs : List Loc) (ls : Array Slot), mH s D y h q H locs I R → lv_has ls 6 [(0, .ref h), (1, .int a1), (2, .int a2), (3, .int a3)] → k26 a1 a2 a3 I R = some z → W p l e rmX8_ranked s m args below meth c H locs 0 0 (MQ below (mQi D y h q (mS y h q s.heap.size) z) args s 0 0 (mS y h q s.heap.size)) (F0 m 26 ls [])) {k45 : Int32 → Int32 → Int32 → Int32 → Int32 → (Nat → Int32) → (Nat → Nat → Int32) → Option (Int32 × mSt)} (hk45 : ∀ (a1 : Int32) (a2 : Int32) (a3 : Int32) (a4 : Int32) (a5 : Int32) (I : Nat → Int32) (R : Nat → Nat → Int32) (H : Heap) (locs : List Loc) (ls : Array Slot), mH s D y h q H locs I R → lv_has ls 6 [(0, .ref h), (1, .int a1), (2, .int a2), (3, .int a3), (4, .int a4), (5, .int a5)] → k45 a1 a2 a3 a4 a5 I R = some z → W p l e rmX8_ranked s m args below meth c H locs 0 0 (MQ below (mQi D y h q (mS y h q s.heap.size) z) args s 0 0 (mS y h q s.heap.size)) (F0 m 45 ls [])) {a1 : Int32} {a2 : Int32} {a3 : Int32} {a5 : Int32} {t0 : Int32} {I : Nat → Int32} {R : Nat → Nat → Int32} {H : Heap} {locs : List Loc} {ls : Array Slot} (w : mH s D y h q H locs I R) (hl : lv_has ls 6 [(0, .ref h), (1, .int a1), (2, .int a2), (3, .int a3), (5, .int a5)]) (e0 : fX8_ranked_b83 n k26 k45 a1 a2 a3 a5 t0 I R = some z) : W p l e rmX8_ranked s m args below meth c H locs 0 0 (MQ below (mQi D y h q (mS y h q s.heap.size) z) args s 0 0 (mS y h q s.heap.size)) (F0 m 83 ls [.int t0]) := by
  have hx := X.1.1
  have hb := X.1.2.1
  unfold fX8_ranked_b83 at e0
  refine lv_iconst (v := 0) hx hb dX8_ranked_83 (by decide) ?_
  exact fX8_ranked_b84_w (l := l) X hr hk26 hk45 w (lv_sub hl [0, 1, 2, 3, 4] rfl) e0
def fX8_ranked_b116 (n : Nat) (k26 : Int32 → Int32 → Int32 → (Nat → Int32) → (Nat → Nat → Int32) → Option (Int32 × mSt)) (a1 : Int32) (a2 : Int32) (a3 : Int32) (I : Nat → Int32) (R : Nat → Nat → Int32) : Option (Int32 × mSt) :=
  k26 a1 a2 (a3 + 1) I R
set_option maxRecDepth 20000 in
set_option maxHeartbeats 1000000 in
theorem fX8_ranked_b116_w {p : Program} {l : Launch} {e : Env} {s : State} {m : MethodId} {args : Array Value} {below : List Frame} {meth : Method} {c : Code} {D : va_G} {y : ClassId} {h : Nat} {q : Nat → Nat} {n : Nat} {z : Int32 × mSt} (X : mX p s m args c cX8_ranked 6 wsX8_ranked D y) (hr : meth.sig.returnType = some .int ∧ meth.locks = false) {k26 : Int32 → Int32 → Int32 → (Nat → Int32) → (Nat → Nat → Int32) → Option (Int32 × mSt)} (hk26 : ∀ (a1 : Int32) (a2 : Int32) (a3 : Int32) (I : Nat → Int32) (R : Nat → Nat → Int32) (H : Heap) (locs : List Loc) (ls : Array Slot), mH s D y h q H locs I R → lv_has ls 6 [(0, .ref h), (1, .int a1), (2, .int a2), (3, .int a3)] → k26 a1 a2 a3 I R = some z → W p l e rmX8_ranked s m args below meth c H locs 0 0 (MQ below (mQi D y h q (mS y h q s.heap.size) z) args s 0 0 (mS y h q s.heap.size)) (F0 m 26 ls [])) {a1 : Int32} {a2 : Int32} {a3 : Int32} {I : Nat → Int32} {R : Nat → Nat → Int32} {H : Heap} {locs : List Loc} {ls : Array Slot} (w : mH s D y h q H locs I R) (hl : lv_has ls 6 [(0, .ref h), (1, .int a1), (2, .int a2), (3, .int a3)]) (e0 : fX8_ranked_b116 n k26 a1 a2 a3 I R = some z) : W p l e rmX8_ranked s m args below meth c H locs 0 0 (MQ below (mQi D y h q (mS y h q s.heap.size) z) args s 0 0 (mS y h q s.heap.size)) (F0 m 116 ls []) := by
  have hx := X.1.1
  have hb := X.1.2.1
  unfold fX8_ranked_b116 at e0
  refine lv_iinc (v := (a3 + 1)) (lv' := [(3, .int (a3 + 1)), (0, .ref h), (1, .int a1), (2, .int a2)]) hx hb dX8_ranked_116 hl (k := 3) rfl rfl (by decide) rfl (fun ls hl => ?_)
  refine lv_goto (tgt := 26) hx hb dX8_ranked_119 (by decide) ?_
  exact hk26 _ _ _ _ _ _ _ _ w (lv_sub hl [1, 2, 3, 0] rfl) e0
def fX8_ranked_b45 (n : Nat) (k26 : Int32 → Int32 → Int32 → (Nat → Int32) → (Nat → Nat → Int32) → Option (Int32 × mSt)) : Nat → Int32 → Int32 → Int32 → Int32 → Int32 → (Nat → Int32) → (Nat → Nat → Int32) → Option (Int32 × mSt)
  | 0, _, _, _, _, _, _, _ => none
  | j + 1, a1, a2, a3, a4, a5, I, R =>
    if (16 * (a1 + 1)) ≤ a5 then
      if inb a3 64 = true then
      if (getA R 22 a3) = 1 then
        if a4 = a2 then
          some ((a3 - (16 * a1)), I, R)
        else
          fX8_ranked_b116 n k26 a1 a2 a3 I R
      else
        fX8_ranked_b116 n k26 a1 a2 a3 I R
      else none
    else
      if inb a5 64 = true then
      if (getA R 22 a5) = 1 then
        (fX8_isCheaper n a5 a3 I R).bind fun z12 =>
        if z12.1 = 0 then
          fX8_ranked_b83 n k26 (fX8_ranked_b45 n k26 j) a1 a2 a3 a5 a4 z12.2.1 z12.2.2
        else
          fX8_ranked_b84 n k26 (fX8_ranked_b45 n k26 j) a1 a2 a3 a5 1 a4 z12.2.1 z12.2.2
      else
        fX8_ranked_b83 n k26 (fX8_ranked_b45 n k26 j) a1 a2 a3 a5 a4 I R
      else none
set_option maxRecDepth 20000 in
set_option maxHeartbeats 1000000 in
theorem fX8_ranked_b45_w {p : Program} {l : Launch} {e : Env} {s : State} {m : MethodId} {args : Array Value} {below : List Frame} {meth : Method} {c : Code} {D : va_G} {y : ClassId} {h : Nat} {q : Nat → Nat} {n : Nat} {z : Int32 × mSt} (X : mX p s m args c cX8_ranked 6 wsX8_ranked D y) (hr : meth.sig.returnType = some .int ∧ meth.locks = false) {k26 : Int32 → Int32 → Int32 → (Nat → Int32) → (Nat → Nat → Int32) → Option (Int32 × mSt)} (hk26 : ∀ (a1 : Int32) (a2 : Int32) (a3 : Int32) (I : Nat → Int32) (R : Nat → Nat → Int32) (H : Heap) (locs : List Loc) (ls : Array Slot), mH s D y h q H locs I R → lv_has ls 6 [(0, .ref h), (1, .int a1), (2, .int a2), (3, .int a3)] → k26 a1 a2 a3 I R = some z → W p l e rmX8_ranked s m args below meth c H locs 0 0 (MQ below (mQi D y h q (mS y h q s.heap.size) z) args s 0 0 (mS y h q s.heap.size)) (F0 m 26 ls [])) : ∀ (j : Nat) (a1 : Int32) (a2 : Int32) (a3 : Int32) (a4 : Int32) (a5 : Int32) (I : Nat → Int32) (R : Nat → Nat → Int32) (H : Heap) (locs : List Loc) (ls : Array Slot), mH s D y h q H locs I R → lv_has ls 6 [(0, .ref h), (1, .int a1), (2, .int a2), (3, .int a3), (4, .int a4), (5, .int a5)] → fX8_ranked_b45 n k26 j a1 a2 a3 a4 a5 I R = some z → W p l e rmX8_ranked s m args below meth c H locs 0 0 (MQ below (mQi D y h q (mS y h q s.heap.size) z) args s 0 0 (mS y h q s.heap.size)) (F0 m 45 ls []) := by
  have hx := X.1.1
  have hb := X.1.2.1
  intro j
  induction j with
  | zero =>
    intro a1 a2 a3 a4 a5 I R H locs ls w hl e0
    cases e0
  | succ j ih =>
    intro a1 a2 a3 a4 a5 I R H locs ls w hl e0
    rw [fX8_ranked_b45] at e0
    refine lv_iload hx hb dX8_ranked_45 (lv_at hl 5 rfl) ?_
    refine lv_bipush (v := 16) hx hb dX8_ranked_47 (by decide) ?_
    refine lv_iload_n hx hb dX8_ranked_49 rfl (lv_at hl 1 rfl) ?_
    refine lv_iconst (v := 1) hx hb dX8_ranked_50 (by decide) ?_
    refine lv_iadd hx hb dX8_ranked_51 ?_
    refine lv_imul hx hb dX8_ranked_52 ?_
    refine lv_icmp_ge (tgt := 93) hx hb dX8_ranked_53 (by decide) (fun c16 => ?_) (fun c16 => ?_)
    · have e0 := itp _ c16 e0
      refine lv_aload_n hx hb dX8_ranked_93 rfl (lv_at hl 0 rfl) ?_
      refine m_get X w 22 (by decide) (index := 52) rfl (by decide +kernel) (mfr22 _ _) dX8_ranked_94 ?_
      refine lv_iload_n hx hb dX8_ranked_97 rfl (lv_at hl 3 rfl) ?_
      refine gd e0 (fun g8 e0 => ?_)
      refine m_ald X w 15 22 (mat22 _ _ _ _ _) g8 dX8_ranked_98 ?_
      refine lv_iconst (v := 1) hx hb dX8_ranked_99 (by decide) ?_
      refine lv_icmp_ne (tgt := 116) hx hb dX8_ranked_100 (by decide) (fun c10 => ?_) (fun c10 => ?_)
      · have e0 := itn _ c10 e0
        exact fX8_ranked_b116_w (l := l) X hr hk26 w (lv_sub hl [0, 1, 2, 3] rfl) e0
      · have e0 := itp _ c10 e0
        refine lv_iload hx hb dX8_ranked_103 (lv_at hl 4 rfl) ?_
        refine lv_iload_n hx hb dX8_ranked_105 rfl (lv_at hl 2 rfl) ?_
        refine lv_icmp_ne (tgt := 116) hx hb dX8_ranked_106 (by decide) (fun c9 => ?_) (fun c9 => ?_)
        · have e0 := itn _ c9 e0
          exact fX8_ranked_b116_w (l := l) X hr hk26 w (lv_sub hl [0, 1, 2, 3] rfl) e0
        · have e0 := itp _ c9 e0
          refine lv_iload_n hx hb dX8_ranked_109 rfl (lv_at hl 3 rfl) ?_
          refine lv_bipush (v := 16) hx hb dX8_ranked_110 (by decide) ?_
          refine lv_iload_n hx hb dX8_ranked_112 rfl (lv_at hl 1 rfl) ?_
          refine lv_imul hx hb dX8_ranked_113 ?_
          refine lv_isub hx hb dX8_ranked_114 ?_
          have e0 := Option.some.inj e0
          subst e0
          exact m_iret X w hr dX8_ranked_115
    · have e0 := itn _ c16 e0
      refine lv_iload hx hb dX8_ranked_56 (lv_at hl 4 rfl) ?_
      refine lv_aload_n hx hb dX8_ranked_58 rfl (lv_at hl 0 rfl) ?_
      refine m_get X w 22 (by decide) (index := 52) rfl (by decide +kernel) (mfr22 _ _) dX8_ranked_59 ?_
      refine lv_iload hx hb dX8_ranked_62 (lv_at hl 5 rfl) ?_
      refine gd e0 (fun g11 e0 => ?_)
      refine m_ald X w 15 22 (mat22 _ _ _ _ _) g11 dX8_ranked_64 ?_
      refine lv_iconst (v := 1) hx hb dX8_ranked_65 (by decide) ?_
      refine lv_icmp_ne (tgt := 83) hx hb dX8_ranked_66 (by decide) (fun c15 => ?_) (fun c15 => ?_)
      · have e0 := itn _ c15 e0
        exact fX8_ranked_b83_w (l := l) X hr hk26 ih w (lv_sub hl [0, 1, 2, 3, 5] rfl) e0
      · have e0 := itp _ c15 e0
        refine lv_aload_n hx hb dX8_ranked_69 rfl (lv_at hl 0 rfl) ?_
        refine lv_iload hx hb dX8_ranked_70 (lv_at hl 5 rfl) ?_
        refine lv_iload_n hx hb dX8_ranked_72 rfl (lv_at hl 3 rfl) ?_
        refine bd e0 (fun z12 e13 e0 => ?_)
        refine m_calli X w (n := 2) (As := [.int a5, .int a3]) (rest := [.int a4]) (fX8_isCheaper_met l _ _ _ _ _ _ _ _ _ _ _ e13) gX8_ranked_X8_isCheaper rfl rfl rfl (by decide +kernel) ⟨Nat.le_of_ble_eq_true rfl, Nat.le_of_ble_eq_true rfl⟩ rfl hl.1 rfl (Nat.le_of_ble_eq_true rfl) dX8_ranked_73 (fun H locs w => ?_)
        refine lv_if_eq (tgt := 83) hx hb dX8_ranked_76 (by decide) (fun c14 => ?_) (fun c14 => ?_)
        · have e0 := itp _ c14 e0
          exact fX8_ranked_b83_w (l := l) X hr hk26 ih w (lv_sub hl [0, 1, 2, 3, 5] rfl) e0
        · have e0 := itn _ c14 e0
          refine lv_iconst (v := 1) hx hb dX8_ranked_79 (by decide) ?_
          refine lv_goto (tgt := 84) hx hb dX8_ranked_80 (by decide) ?_
          exact fX8_ranked_b84_w (l := l) X hr hk26 ih w (lv_sub hl [0, 1, 2, 3, 5] rfl) e0
def fX8_ranked_b26 (n : Nat) : Nat → Int32 → Int32 → Int32 → (Nat → Int32) → (Nat → Nat → Int32) → Option (Int32 × mSt)
  | 0, _, _, _, _, _ => none
  | j + 1, a1, a2, a3, I, R =>
    if (16 * (a1 + 1)) ≤ a3 then
      some ((-9), I, R)
    else
      fX8_ranked_b45 n (fX8_ranked_b26 n j) n a1 a2 a3 0 (16 * a1) I R
set_option maxRecDepth 20000 in
set_option maxHeartbeats 1000000 in
theorem fX8_ranked_b26_w {p : Program} {l : Launch} {e : Env} {s : State} {m : MethodId} {args : Array Value} {below : List Frame} {meth : Method} {c : Code} {D : va_G} {y : ClassId} {h : Nat} {q : Nat → Nat} {n : Nat} {z : Int32 × mSt} (X : mX p s m args c cX8_ranked 6 wsX8_ranked D y) (hr : meth.sig.returnType = some .int ∧ meth.locks = false) : ∀ (j : Nat) (a1 : Int32) (a2 : Int32) (a3 : Int32) (I : Nat → Int32) (R : Nat → Nat → Int32) (H : Heap) (locs : List Loc) (ls : Array Slot), mH s D y h q H locs I R → lv_has ls 6 [(0, .ref h), (1, .int a1), (2, .int a2), (3, .int a3)] → fX8_ranked_b26 n j a1 a2 a3 I R = some z → W p l e rmX8_ranked s m args below meth c H locs 0 0 (MQ below (mQi D y h q (mS y h q s.heap.size) z) args s 0 0 (mS y h q s.heap.size)) (F0 m 26 ls []) := by
  have hx := X.1.1
  have hb := X.1.2.1
  intro j
  induction j with
  | zero =>
    intro a1 a2 a3 I R H locs ls w hl e0
    cases e0
  | succ j ih =>
    intro a1 a2 a3 I R H locs ls w hl e0
    rw [fX8_ranked_b26] at e0
    refine lv_iload_n hx hb dX8_ranked_26 rfl (lv_at hl 3 rfl) ?_
    refine lv_bipush (v := 16) hx hb dX8_ranked_27 (by decide) ?_
    refine lv_iload_n hx hb dX8_ranked_29 rfl (lv_at hl 1 rfl) ?_
    refine lv_iconst (v := 1) hx hb dX8_ranked_30 (by decide) ?_
    refine lv_iadd hx hb dX8_ranked_31 ?_
    refine lv_imul hx hb dX8_ranked_32 ?_
    refine lv_icmp_ge (tgt := 122) hx hb dX8_ranked_33 (by decide) (fun c7 => ?_) (fun c7 => ?_)
    · have e0 := itp _ c7 e0
      refine lv_bipush (v := (-9)) hx hb dX8_ranked_122 (by decide) ?_
      have e0 := Option.some.inj e0
      subst e0
      exact m_iret X w hr dX8_ranked_124
    · have e0 := itn _ c7 e0
      refine lv_iconst (v := 0) hx hb dX8_ranked_36 (by decide) ?_
      refine lv_istore (lv' := [(4, .int 0), (0, .ref h), (1, .int a1), (2, .int a2), (3, .int a3)]) hx hb dX8_ranked_37 hl (by decide) rfl (fun ls hl => ?_)
      refine lv_bipush (v := 16) hx hb dX8_ranked_39 (by decide) ?_
      refine lv_iload_n hx hb dX8_ranked_41 rfl (lv_at hl 2 rfl) ?_
      refine lv_imul hx hb dX8_ranked_42 ?_
      refine lv_istore (lv' := [(5, .int (16 * a1)), (4, .int 0), (0, .ref h), (1, .int a1), (2, .int a2), (3, .int a3)]) hx hb dX8_ranked_43 hl (by decide) rfl (fun ls hl => ?_)
      exact fX8_ranked_b45_w (l := l) X hr ih n _ _ _ _ _ _ _ _ _ _ w (lv_sub hl [2, 3, 4, 5, 1, 0] rfl) e0
def fX8_ranked (n : Nat) (a1 : Int32) (a2 : Int32) (I : Nat → Int32) (R : Nat → Nat → Int32) : Option (Int32 × mSt) :=
  (fX8_isRelation n a1 I R).bind fun z1 =>
  if z1.1 = 0 then
    some ((-1), z1.2.1, z1.2.2)
  else
    if 0 ≤ a2 then
      (fX8_findCheap n z1.2.1 z1.2.2).bind fun z3 =>
      fX8_ranked_b26 n n a1 a2 (16 * a1) z3.1 z3.2
    else
      some ((-2), z1.2.1, z1.2.2)
set_option maxRecDepth 20000 in
set_option maxHeartbeats 1000000 in
theorem fX8_ranked_w {p : Program} {l : Launch} {e : Env} {s : State} {m : MethodId} {args : Array Value} {below : List Frame} {meth : Method} {c : Code} {D : va_G} {y : ClassId} {h : Nat} {q : Nat → Nat} {n : Nat} {z : Int32 × mSt} (X : mX p s m args c cX8_ranked 6 wsX8_ranked D y) (hr : meth.sig.returnType = some .int ∧ meth.locks = false) {a1 : Int32} {a2 : Int32} {I : Nat → Int32} {R : Nat → Nat → Int32} {H : Heap} {locs : List Loc} {ls : Array Slot} (w : mH s D y h q H locs I R) (hl : lv_has ls 6 [(0, .ref h), (1, .int a1), (2, .int a2)]) (e0 : fX8_ranked n a1 a2 I R = some z) : W p l e rmX8_ranked s m args below meth c H locs 0 0 (MQ below (mQi D y h q (mS y h q s.heap.size) z) args s 0 0 (mS y h q s.heap.size)) (F0 m 0 ls []) := by
  have hx := X.1.1
  have hb := X.1.2.1
  unfold fX8_ranked at e0
  refine lv_aload_n hx hb dX8_ranked_0 rfl (lv_at hl 0 rfl) ?_
  refine lv_iload_n hx hb dX8_ranked_1 rfl (lv_at hl 1 rfl) ?_
  refine bd e0 (fun z1 e2 e0 => ?_)
  refine m_calli X w (n := 1) (As := [.int a1]) (rest := []) (fX8_isRelation_met l _ _ _ _ _ _ _ _ _ _ e2) gX8_ranked_X8_isRelation rfl rfl rfl (by decide +kernel) ⟨Nat.le_of_ble_eq_true rfl, Nat.le_of_ble_eq_true rfl⟩ rfl hl.1 rfl (Nat.le_of_ble_eq_true rfl) dX8_ranked_2 (fun H locs w => ?_)
  refine lv_if_ne (tgt := 10) hx hb dX8_ranked_5 (by decide) (fun c6 => ?_) (fun c6 => ?_)
  · have e0 := itn _ c6 e0
    refine lv_iload_n hx hb dX8_ranked_10 rfl (lv_at hl 2 rfl) ?_
    refine lv_if_ge (tgt := 17) hx hb dX8_ranked_11 (by decide) (fun c5 => ?_) (fun c5 => ?_)
    · have e0 := itp _ c5 e0
      refine lv_aload_n hx hb dX8_ranked_17 rfl (lv_at hl 0 rfl) ?_
      refine bd e0 (fun z3 e4 e0 => ?_)
      refine m_callv X w (n := 0) (As := []) (rest := []) (fX8_findCheap_met l _ _ _ _ _ _  _ _ _ e4) gX8_ranked_X8_findCheap rfl rfl rfl (by decide +kernel) ⟨Nat.le_of_ble_eq_true rfl, Nat.le_of_ble_eq_true rfl⟩ rfl hl.1 rfl (Nat.le_of_ble_eq_true rfl) dX8_ranked_18 (fun H locs w => ?_)
      refine lv_bipush (v := 16) hx hb dX8_ranked_21 (by decide) ?_
      refine lv_iload_n hx hb dX8_ranked_23 rfl (lv_at hl 1 rfl) ?_
      refine lv_imul hx hb dX8_ranked_24 ?_
      refine lv_istore_n (lv' := [(3, .int (16 * a1)), (0, .ref h), (1, .int a1), (2, .int a2)]) hx hb dX8_ranked_25 rfl hl (by decide) rfl (fun ls hl => ?_)
      exact fX8_ranked_b26_w (l := l) X hr n _ _ _ _ _ _ _ _ w (lv_sub hl [1, 2, 3, 0] rfl) e0
    · have e0 := itn _ c5 e0
      refine lv_bipush (v := (-2)) hx hb dX8_ranked_14 (by decide) ?_
      have e0 := Option.some.inj e0
      subst e0
      exact m_iret X w hr dX8_ranked_16
  · have e0 := itp _ c6 e0
    refine lv_iconst (v := (-1)) hx hb dX8_ranked_8 (by decide) ?_
    have e0 := Option.some.inj e0
    subst e0
    exact m_iret X w hr dX8_ranked_9
set_option maxRecDepth 20000 in
theorem fX8_ranked_met (l : Launch) (D : va_G) (y : ClassId) (h : Nat) (q : Nat → Nat) (sz n : Nat) (a1 : Int32) (a2 : Int32) (I : Nat → Int32) (R : Nat → Nat → Int32) (z : Int32 × mSt) (e0 : fX8_ranked n a1 a2 I R = some z) : Met l yX8_ranked wsX8_ranked rmX8_ranked (va_Pc [.ref h, .int a1, .int a2] (mPre D y h q sz I R)) (mQi D y h q (mS y h q sz) z) 0 0 (mS y h q sz) := by
  refine Met.ofW (cc := cX8_ranked) (maxL := 6) (ret := some .int) (by decide) rfl ?_
  intro p e s m args below meth c s₁ B hml hv
  obtain ⟨rfl, hsz, hP, hK, hD⟩ := hv
  subst hsz
  have hl := lv_entry ([.ref h, .int a1, .int a2]) (n := 6) (Nat.le_of_ble_eq_true rfl)
  rw [lg_entry_eq]
  exact fX8_ranked_w (s := s) ⟨⟨B.exec, B.bytes, hml, findClass_of_methodNamed B.named, atoms_spec (ws := wsX8_ranked) B.pre⟩, fun _ h9 => List.mem_cons_of_mem _ (List.mem_append_right _ h9), hK⟩ ⟨B.returns, B.notSynchronized⟩ ⟨hP, mS_D hD, va_S.rf⟩ hl e0
