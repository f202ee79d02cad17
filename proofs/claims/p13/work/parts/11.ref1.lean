def rmX8_keepRules : Room := { frames := 0, cells := 0, slots := 0, locals := 0 }
def fX8_keepRules_b2 (n : Nat) : Nat → Int32 → (Nat → Int32) → (Nat → Nat → Int32) → Option (mSt)
  | 0, _, _, _ => none
  | j + 1, a1, I, R =>
    if 5 ≤ a1 then
      some (I, R)
    else
      if inb a1 5 = true then
      if inb (6 * a1) 30 = true then
      if inb a1 5 = true then
      if inb ((6 * a1) + 1) 30 = true then
      if inb a1 5 = true then
      if inb ((6 * a1) + 2) 30 = true then
      if inb a1 5 = true then
      if inb ((6 * a1) + 3) 30 = true then
      if inb a1 5 = true then
      if inb ((6 * a1) + 4) 30 = true then
      if inb a1 5 = true then
      if inb ((6 * a1) + 5) 30 = true then
      fX8_keepRules_b2 n j (a1 + 1) I (setA (setA (setA (setA (setA (setA R 20 (6 * a1) (getA R 7 a1)) 20 ((6 * a1) + 1) (getA (setA R 20 (6 * a1) (getA R 7 a1)) 8 a1)) 20 ((6 * a1) + 2) (getA (setA (setA R 20 (6 * a1) (getA R 7 a1)) 20 ((6 * a1) + 1) (getA (setA R 20 (6 * a1) (getA R 7 a1)) 8 a1)) 9 a1)) 20 ((6 * a1) + 3) (getA (setA (setA (setA R 20 (6 * a1) (getA R 7 a1)) 20 ((6 * a1) + 1) (getA (setA R 20 (6 * a1) (getA R 7 a1)) 8 a1)) 20 ((6 * a1) + 2) (getA (setA (setA R 20 (6 * a1) (getA R 7 a1)) 20 ((6 * a1) + 1) (getA (setA R 20 (6 * a1) (getA R 7 a1)) 8 a1)) 9 a1)) 10 a1)) 20 ((6 * a1) + 4) (getA (setA (setA (setA (setA R 20 (6 * a1) (getA R 7 a1)) 20 ((6 * a1) + 1) (getA (setA R 20 (6 * a1) (getA R 7 a1)) 8 a1)) 20 ((6 * a1) + 2) (getA (setA (setA R 20 (6 * a1) (getA R 7 a1)) 20 ((6 * a1) + 1) (getA (setA R 20 (6 * a1) (getA R 7 a1)) 8 a1)) 9 a1)) 20 ((6 * a1) + 3) (getA (setA (setA (setA R 20 (6 * a1) (getA R 7 a1)) 20 ((6 * a1) + 1) (getA (setA R 20 (6 * a1) (getA R 7 a1)) 8 a1)) 20 ((6 * a1) + 2) (getA (setA (setA R 20 (6 * a1) (getA R 7 a1)) 20 ((6 * a1) + 1) (getA (setA R 20 (6 * a1) (getA R 7 a1)) 8 a1)) 9 a1)) 10 a1)) 11 a1)) 20 ((6 * a1) + 5) (getA (setA (setA (setA (setA (setA R 20 (6 * a1) (getA R 7 a1)) 20 ((6 * a1) + 1) (getA (setA R 20 (6 * a1) (getA R 7 a1)) 8 a1)) 20 ((6 * a1) + 2) (getA (setA (setA R 20 (6 * a1) (getA R 7 a1)) 20 ((6 * a1) + 1) (getA (setA R 20 (6 * a1) (getA R 7 a1)) 8 a1)) 9 a1)) 20 ((6 * a1) + 3) (getA (setA (setA (setA R 20 (6 * a1) (getA R 7 a1)) 20 ((6 * a1) + 1) (getA (setA R 20 (6 * a1) (getA R 7 a1)) 8 a1)) 20 ((6 * a1) + 2) (getA (setA (setA R 20 (6 * a1) (getA R 7 a1)) 20 ((6 * a1) + 1) (getA (setA R 20 (6 * a1) (getA R 7 a1)) 8 a1)) 9 a1)) 10 a1)) 20 ((6 * a1) + 4) (getA (setA (setA (setA (setA R 20 (6 * a1) (getA R 7 a1)) 20 ((6 * a1) + 1) (getA (setA R 20 (6 * a1) (getA R 7 a1)) 8 a1)) 20 ((6 * a1) + 2) (getA (setA (setA R 20 (6 * a1) (getA R 7 a1)) 20 ((6 * a1) + 1) (getA (setA R 20 (6 * a1) (getA R 7 a1)) 8 a1)) 9 a1)) 20 ((6 * a1) + 3) (getA (setA (setA (setA R 20 (6 * a1) (getA R 7 a1)) 20 ((6 * a1) + 1) (getA (setA R 20 (6 * a1) (getA R 7 a1)) 8 a1)) 20 ((6 * a1) + 2) (getA (setA (setA R 20 (6 * a1) (getA R 7 a1)) 20 ((6 * a1) + 1) (getA (setA R 20 (6 * a1) (getA R 7 a1)) 8 a1)) 9 a1)) 10 a1)) 11 a1)) 12 a1))
      else none
      else none
      else none
      else none
      else none
      else none
      else none
      else none
      else none
      else none
      else none
      else none
set_option maxRecDepth 20000 in
set_option maxHeartbeats 1000000 in
theorem fX8_keepRules_b2_w {p : Program} {l : Launch} {e : Env} {s : State} {m : MethodId} {args : Array Value} {below : List Frame} {meth : Method} {c : Code} {D : va_G} {y : ClassId} {h : Nat} {q : Nat → Nat} {n : Nat} {z : mSt} (X : mX p s m args c cX8_keepRules 2 wsX8_keepRules D y) (hr : meth.sig.returnType = none ∧ meth.locks = false) : ∀ (j : Nat) (a1 : Int32) (I : Nat → Int32) (R : Nat → Nat → Int32) (H : Heap) (locs : List Loc) (ls : Array Slot), mH s D y h q H locs I R → lv_has ls 2 [(0, .ref h), (1, .int a1)] → fX8_keepRules_b2 n j a1 I R = some z → W p l e rmX8_keepRules s m args below meth c H locs 0 0 (MQ below (mQv D y h q (mS y h q s.heap.size) z) args s 0 0 (mS y h q s.heap.size)) (F0 m 2 ls []) := by
  have hx := X.1.1
  have hb := X.1.2.1
  intro j
  induction j with
  | zero =>
    intro a1 I R H locs ls w hl e0
    cases e0
  | succ j ih =>
    intro a1 I R H locs ls w hl e0
    rw [fX8_keepRules_b2] at e0
    refine lv_iload_n hx hb dX8_keepRules_2 rfl (lv_at hl 1 rfl) ?_
    refine lv_iconst (v := 5) hx hb dX8_keepRules_3 (by decide) ?_
    refine lv_icmp_ge (tgt := 113) hx hb dX8_keepRules_4 (by decide) (fun c13 => ?_) (fun c13 => ?_)
    · have e0 := itp _ c13 e0
      have e0 := Option.some.inj e0
      subst e0
      exact m_vret X w hr dX8_keepRules_113
    · have e0 := itn _ c13 e0
      refine lv_aload_n hx hb dX8_keepRules_7 rfl (lv_at hl 0 rfl) ?_
      refine m_get X w 20 (by decide) (index := 46) rfl (by decide +kernel) (mfr20 _ _) dX8_keepRules_8 ?_
      refine lv_bipush (v := 6) hx hb dX8_keepRules_11 (by decide) ?_
      refine lv_iload_n hx hb dX8_keepRules_13 rfl (lv_at hl 1 rfl) ?_
      refine lv_imul hx hb dX8_keepRules_14 ?_
      refine lv_aload_n hx hb dX8_keepRules_15 rfl (lv_at hl 0 rfl) ?_
      refine m_get X w 7 (by decide) (index := 19) rfl (by decide +kernel) (mfr7 _ _) dX8_keepRules_16 ?_
      refine lv_iload_n hx hb dX8_keepRules_19 rfl (lv_at hl 1 rfl) ?_
      refine gd e0 (fun g1 e0 => ?_)
      refine m_ald X w 4 7 (mat7 _ _ _ _ _) g1 dX8_keepRules_20 ?_
      refine gd e0 (fun g2 e0 => ?_)
      refine m_ast X w 13 20 (mat20 _ _ _ _ _) (mset20 _ _ _ _ _) g2 dX8_keepRules_21 (fun H locs w => ?_)
      refine lv_aload_n hx hb dX8_keepRules_22 rfl (lv_at hl 0 rfl) ?_
      refine m_get X w 20 (by decide) (index := 46) rfl (by decide +kernel) (mfr20 _ _) dX8_keepRules_23 ?_
      refine lv_bipush (v := 6) hx hb dX8_keepRules_26 (by decide) ?_
      refine lv_iload_n hx hb dX8_keepRules_28 rfl (lv_at hl 1 rfl) ?_
      refine lv_imul hx hb dX8_keepRules_29 ?_
      refine lv_iconst (v := 1) hx hb dX8_keepRules_30 (by decide) ?_
      refine lv_iadd hx hb dX8_keepRules_31 ?_
      refine lv_aload_n hx hb dX8_keepRules_32 rfl (lv_at hl 0 rfl) ?_
      refine m_get X w 8 (by decide) (index := 22) rfl (by decide +kernel) (mfr8 _ _) dX8_keepRules_33 ?_
      refine lv_iload_n hx hb dX8_keepRules_36 rfl (lv_at hl 1 rfl) ?_
      refine gd e0 (fun g3 e0 => ?_)
      refine m_ald X w 5 8 (mat8 _ _ _ _ _) g3 dX8_keepRules_37 ?_
      refine gd e0 (fun g4 e0 => ?_)
      refine m_ast X w 13 20 (mat20 _ _ _ _ _) (mset20 _ _ _ _ _) g4 dX8_keepRules_38 (fun H locs w => ?_)
      refine lv_aload_n hx hb dX8_keepRules_39 rfl (lv_at hl 0 rfl) ?_
      refine m_get X w 20 (by decide) (index := 46) rfl (by decide +kernel) (mfr20 _ _) dX8_keepRules_40 ?_
      refine lv_bipush (v := 6) hx hb dX8_keepRules_43 (by decide) ?_
      refine lv_iload_n hx hb dX8_keepRules_45 rfl (lv_at hl 1 rfl) ?_
      refine lv_imul hx hb dX8_keepRules_46 ?_
      refine lv_iconst (v := 2) hx hb dX8_keepRules_47 (by decide) ?_
      refine lv_iadd hx hb dX8_keepRules_48 ?_
      refine lv_aload_n hx hb dX8_keepRules_49 rfl (lv_at hl 0 rfl) ?_
      refine m_get X w 9 (by decide) (index := 25) rfl (by decide +kernel) (mfr9 _ _) dX8_keepRules_50 ?_
      refine lv_iload_n hx hb dX8_keepRules_53 rfl (lv_at hl 1 rfl) ?_
      refine gd e0 (fun g5 e0 => ?_)
      refine m_ald X w 6 9 (mat9 _ _ _ _ _) g5 dX8_keepRules_54 ?_
      refine gd e0 (fun g6 e0 => ?_)
      refine m_ast X w 13 20 (mat20 _ _ _ _ _) (mset20 _ _ _ _ _) g6 dX8_keepRules_55 (fun H locs w => ?_)
      refine lv_aload_n hx hb dX8_keepRules_56 rfl (lv_at hl 0 rfl) ?_
      refine m_get X w 20 (by decide) (index := 46) rfl (by decide +kernel) (mfr20 _ _) dX8_keepRules_57 ?_
      refine lv_bipush (v := 6) hx hb dX8_keepRules_60 (by decide) ?_
      refine lv_iload_n hx hb dX8_keepRules_62 rfl (lv_at hl 1 rfl) ?_
      refine lv_imul hx hb dX8_keepRules_63 ?_
      refine lv_iconst (v := 3) hx hb dX8_keepRules_64 (by decide) ?_
      refine lv_iadd hx hb dX8_keepRules_65 ?_
      refine lv_aload_n hx hb dX8_keepRules_66 rfl (lv_at hl 0 rfl) ?_
      refine m_get X w 10 (by decide) (index := 28) rfl (by decide +kernel) (mfr10 _ _) dX8_keepRules_67 ?_
      refine lv_iload_n hx hb dX8_keepRules_70 rfl (lv_at hl 1 rfl) ?_
      refine gd e0 (fun g7 e0 => ?_)
      refine m_ald X w 7 10 (mat10 _ _ _ _ _) g7 dX8_keepRules_71 ?_
      refine gd e0 (fun g8 e0 => ?_)
      refine m_ast X w 13 20 (mat20 _ _ _ _ _) (mset20 _ _ _ _ _) g8 dX8_keepRules_72 (fun H locs w => ?_)
      refine lv_aload_n hx hb dX8_keepRules_73 rfl (lv_at hl 0 rfl) ?_
      refine m_get X w 20 (by decide) (index := 46) rfl (by decide +kernel) (mfr20 _ _) dX8_keepRules_74 ?_
      refine lv_bipush (v := 6) hx hb dX8_keepRules_77 (by decide) ?_
      refine lv_iload_n hx hb dX8_keepRules_79 rfl (lv_at hl 1 rfl) ?_
      refine lv_imul hx hb dX8_keepRules_80 ?_
      refine lv_iconst (v := 4) hx hb dX8_keepRules_81 (by decide) ?_
      refine lv_iadd hx hb dX8_keepRules_82 ?_
      refine lv_aload_n hx hb dX8_keepRules_83 rfl (lv_at hl 0 rfl) ?_
      refine m_get X w 11 (by decide) (index := 31) rfl (by decide +kernel) (mfr11 _ _) dX8_keepRules_84 ?_
      refine lv_iload_n hx hb dX8_keepRules_87 rfl (lv_at hl 1 rfl) ?_
      refine gd e0 (fun g9 e0 => ?_)
      refine m_ald X w 8 11 (mat11 _ _ _ _ _) g9 dX8_keepRules_88 ?_
      refine gd e0 (fun g10 e0 => ?_)
      refine m_ast X w 13 20 (mat20 _ _ _ _ _) (mset20 _ _ _ _ _) g10 dX8_keepRules_89 (fun H locs w => ?_)
      refine lv_aload_n hx hb dX8_keepRules_90 rfl (lv_at hl 0 rfl) ?_
      refine m_get X w 20 (by decide) (index := 46) rfl (by decide +kernel) (mfr20 _ _) dX8_keepRules_91 ?_
      refine lv_bipush (v := 6) hx hb dX8_keepRules_94 (by decide) ?_
      refine lv_iload_n hx hb dX8_keepRules_96 rfl (lv_at hl 1 rfl) ?_
      refine lv_imul hx hb dX8_keepRules_97 ?_
      refine lv_iconst (v := 5) hx hb dX8_keepRules_98 (by decide) ?_
      refine lv_iadd hx hb dX8_keepRules_99 ?_
      refine lv_aload_n hx hb dX8_keepRules_100 rfl (lv_at hl 0 rfl) ?_
      refine m_get X w 12 (by decide) (index := 34) rfl (by decide +kernel) (mfr12 _ _) dX8_keepRules_101 ?_
      refine lv_iload_n hx hb dX8_keepRules_104 rfl (lv_at hl 1 rfl) ?_
      refine gd e0 (fun g11 e0 => ?_)
      refine m_ald X w 9 12 (mat12 _ _ _ _ _) g11 dX8_keepRules_105 ?_
      refine gd e0 (fun g12 e0 => ?_)
      refine m_ast X w 13 20 (mat20 _ _ _ _ _) (mset20 _ _ _ _ _) g12 dX8_keepRules_106 (fun H locs w => ?_)
      refine lv_iinc (v := (a1 + 1)) (lv' := [(1, .int (a1 + 1)), (0, .ref h)]) hx hb dX8_keepRules_107 hl (k := 1) rfl rfl (by decide) rfl (fun ls hl => ?_)
      refine lv_goto (tgt := 2) hx hb dX8_keepRules_110 (by decide) ?_
      exact ih _ _ _ _ _ _ w (lv_sub hl [1, 0] rfl) e0
def fX8_keepRules (n : Nat) (I : Nat → Int32) (R : Nat → Nat → Int32) : Option (mSt) :=
  fX8_keepRules_b2 n n 0 I R
set_option maxRecDepth 20000 in
set_option maxHeartbeats 1000000 in
theorem fX8_keepRules_w {p : Program} {l : Launch} {e : Env} {s : State} {m : MethodId} {args : Array Value} {below : List Frame} {meth : Method} {c : Code} {D : va_G} {y : ClassId} {h : Nat} {q : Nat → Nat} {n : Nat} {z : mSt} (X : mX p s m args c cX8_keepRules 2 wsX8_keepRules D y) (hr : meth.sig.returnType = none ∧ meth.locks = false) {I : Nat → Int32} {R : Nat → Nat → Int32} {H : Heap} {locs : List Loc} {ls : Array Slot} (w : mH s D y h q H locs I R) (hl : lv_has ls 2 [(0, .ref h)]) (e0 : fX8_keepRules n I R = some z) : W p l e rmX8_keepRules s m args below meth c H locs 0 0 (MQ below (mQv D y h q (mS y h q s.heap.size) z) args s 0 0 (mS y h q s.heap.size)) (F0 m 0 ls []) := by
  have hx := X.1.1
  have hb := X.1.2.1
  unfold fX8_keepRules at e0
  refine lv_iconst (v := 0) hx hb dX8_keepRules_0 (by decide) ?_
  refine lv_istore_n (lv' := [(1, .int 0), (0, .ref h)]) hx hb dX8_keepRules_1 rfl hl (by decide) rfl (fun ls hl => ?_)
  exact fX8_keepRules_b2_w (l := l) X hr n _ _ _ _ _ _ w (lv_sub hl [1, 0] rfl) e0
set_option maxRecDepth 20000 in
theorem fX8_keepRules_met (l : Launch) (D : va_G) (y : ClassId) (h : Nat) (q : Nat → Nat) (sz n : Nat) (I : Nat → Int32) (R : Nat → Nat → Int32) (z : mSt) (e0 : fX8_keepRules n I R = some z) : Met l yX8_keepRules wsX8_keepRules rmX8_keepRules (va_Pc [.ref h] (mPre D y h q sz I R)) (mQv D y h q (mS y h q sz) z) 0 0 (mS y h q sz) := by
  refine Met.ofW (cc := cX8_keepRules) (maxL := 2) (ret := none) (by decide) rfl ?_
  intro p e s m args below meth c s₁ B hml hv
  obtain ⟨rfl, hsz, hP, hK, hD⟩ := hv
  subst hsz
  have hl := lv_entry ([.ref h]) (n := 2) (Nat.le_of_ble_eq_true rfl)
  rw [lg_entry_eq]
  exact fX8_keepRules_w (s := s) ⟨⟨B.exec, B.bytes, hml, findClass_of_methodNamed B.named, atoms_spec (ws := wsX8_keepRules) B.pre⟩, fun _ h9 => List.mem_cons_of_mem _ (List.mem_append_right _ h9), hK⟩ ⟨B.returns, B.notSynchronized⟩ ⟨hP, mS_D hD, va_S.rf⟩ hl e0
def rmX8_takeRules : Room := { frames := 0, cells := 0, slots := 0, locals := 0 }
def fX8_takeRules_b18 (n : Nat) : Nat → Int32 → (Nat → Int32) → (Nat → Nat → Int32) → Option (mSt)
  | 0, _, _, _ => none
  | j + 1, a1, I, R =>
    if (I 6) ≤ a1 then
      some (I, R)
    else
      if inb (6 * a1) 30 = true then
      if inb a1 5 = true then
      if inb ((6 * a1) + 1) 30 = true then
      if inb a1 5 = true then
      if inb ((6 * a1) + 2) 30 = true then
      if inb a1 5 = true then
      if inb ((6 * a1) + 3) 30 = true then
      if inb a1 5 = true then
      if inb ((6 * a1) + 4) 30 = true then
      if inb a1 5 = true then
      if inb ((6 * a1) + 5) 30 = true then
      if inb a1 5 = true then
      fX8_takeRules_b18 n j (a1 + 1) I (setA (setA (setA (setA (setA (setA R 7 a1 (getA R 18 (6 * a1))) 8 a1 (getA (setA R 7 a1 (getA R 18 (6 * a1))) 18 ((6 * a1) + 1))) 9 a1 (getA (setA (setA R 7 a1 (getA R 18 (6 * a1))) 8 a1 (getA (setA R 7 a1 (getA R 18 (6 * a1))) 18 ((6 * a1) + 1))) 18 ((6 * a1) + 2))) 10 a1 (getA (setA (setA (setA R 7 a1 (getA R 18 (6 * a1))) 8 a1 (getA (setA R 7 a1 (getA R 18 (6 * a1))) 18 ((6 * a1) + 1))) 9 a1 (getA (setA (setA R 7 a1 (getA R 18 (6 * a1))) 8 a1 (getA (setA R 7 a1 (getA R 18 (6 * a1))) 18 ((6 * a1) + 1))) 18 ((6 * a1) + 2))) 18 ((6 * a1) + 3))) 11 a1 (getA (setA (setA (setA (setA R 7 a1 (getA R 18 (6 * a1))) 8 a1 (getA (setA R 7 a1 (getA R 18 (6 * a1))) 18 ((6 * a1) + 1))) 9 a1 (getA (setA (setA R 7 a1 (getA R 18 (6 * a1))) 8 a1 (getA (setA R 7 a1 (getA R 18 (6 * a1))) 18 ((6 * a1) + 1))) 18 ((6 * a1) + 2))) 10 a1 (getA (setA (setA (setA R 7 a1 (getA R 18 (6 * a1))) 8 a1 (getA (setA R 7 a1 (getA R 18 (6 * a1))) 18 ((6 * a1) + 1))) 9 a1 (getA (setA (setA R 7 a1 (getA R 18 (6 * a1))) 8 a1 (getA (setA R 7 a1 (getA R 18 (6 * a1))) 18 ((6 * a1) + 1))) 18 ((6 * a1) + 2))) 18 ((6 * a1) + 3))) 18 ((6 * a1) + 4))) 12 a1 (getA (setA (setA (setA (setA (setA R 7 a1 (getA R 18 (6 * a1))) 8 a1 (getA (setA R 7 a1 (getA R 18 (6 * a1))) 18 ((6 * a1) + 1))) 9 a1 (getA (setA (setA R 7 a1 (getA R 18 (6 * a1))) 8 a1 (getA (setA R 7 a1 (getA R 18 (6 * a1))) 18 ((6 * a1) + 1))) 18 ((6 * a1) + 2))) 10 a1 (getA (setA (setA (setA R 7 a1 (getA R 18 (6 * a1))) 8 a1 (getA (setA R 7 a1 (getA R 18 (6 * a1))) 18 ((6 * a1) + 1))) 9 a1 (getA (setA (setA R 7 a1 (getA R 18 (6 * a1))) 8 a1 (getA (setA R 7 a1 (getA R 18 (6 * a1))) 18 ((6 * a1) + 1))) 18 ((6 * a1) + 2))) 18 ((6 * a1) + 3))) 11 a1 (getA (setA (setA (setA (setA R 7 a1 (getA R 18 (6 * a1))) 8 a1 (getA (setA R 7 a1 (getA R 18 (6 * a1))) 18 ((6 * a1) + 1))) 9 a1 (getA (setA (setA R 7 a1 (getA R 18 (6 * a1))) 8 a1 (getA (setA R 7 a1 (getA R 18 (6 * a1))) 18 ((6 * a1) + 1))) 18 ((6 * a1) + 2))) 10 a1 (getA (setA (setA (setA R 7 a1 (getA R 18 (6 * a1))) 8 a1 (getA (setA R 7 a1 (getA R 18 (6 * a1))) 18 ((6 * a1) + 1))) 9 a1 (getA (setA (setA R 7 a1 (getA R 18 (6 * a1))) 8 a1 (getA (setA R 7 a1 (getA R 18 (6 * a1))) 18 ((6 * a1) + 1))) 18 ((6 * a1) + 2))) 18 ((6 * a1) + 3))) 18 ((6 * a1) + 4))) 18 ((6 * a1) + 5)))
      else none
      else none
      else none
      else none
      else none
      else none
      else none
      else none
      else none
      else none
      else none
      else none
set_option maxRecDepth 20000 in
set_option maxHeartbeats 1000000 in
theorem fX8_takeRules_b18_w {p : Program} {l : Launch} {e : Env} {s : State} {m : MethodId} {args : Array Value} {below : List Frame} {meth : Method} {c : Code} {D : va_G} {y : ClassId} {h : Nat} {q : Nat → Nat} {n : Nat} {z : mSt} (X : mX p s m args c cX8_takeRules 2 wsX8_takeRules D y) (hr : meth.sig.returnType = none ∧ meth.locks = false) : ∀ (j : Nat) (a1 : Int32) (I : Nat → Int32) (R : Nat → Nat → Int32) (H : Heap) (locs : List Loc) (ls : Array Slot), mH s D y h q H locs I R → lv_has ls 2 [(0, .ref h), (1, .int a1)] → fX8_takeRules_b18 n j a1 I R = some z → W p l e rmX8_takeRules s m args below meth c H locs 0 0 (MQ below (mQv D y h q (mS y h q s.heap.size) z) args s 0 0 (mS y h q s.heap.size)) (F0 m 18 ls []) := by
  have hx := X.1.1
  have hb := X.1.2.1
  intro j
  induction j with
  | zero =>
    intro a1 I R H locs ls w hl e0
    cases e0
  | succ j ih =>
    intro a1 I R H locs ls w hl e0
    rw [fX8_takeRules_b18] at e0
    refine lv_iload_n hx hb dX8_takeRules_18 rfl (lv_at hl 1 rfl) ?_
    refine lv_aload_n hx hb dX8_takeRules_19 rfl (lv_at hl 0 rfl) ?_
    refine m_get X w 6 (by decide) (index := 95) rfl (by decide +kernel) (mfi6 _ _) dX8_takeRules_20 ?_
    refine lv_icmp_ge (tgt := 132) hx hb dX8_takeRules_23 (by decide) (fun c13 => ?_) (fun c13 => ?_)
    · have e0 := itp _ c13 e0
      have e0 := Option.some.inj e0
      subst e0
      exact m_vret X w hr dX8_takeRules_132
    · have e0 := itn _ c13 e0
      refine lv_aload_n hx hb dX8_takeRules_26 rfl (lv_at hl 0 rfl) ?_
      refine m_get X w 7 (by decide) (index := 19) rfl (by decide +kernel) (mfr7 _ _) dX8_takeRules_27 ?_
      refine lv_iload_n hx hb dX8_takeRules_30 rfl (lv_at hl 1 rfl) ?_
      refine lv_aload_n hx hb dX8_takeRules_31 rfl (lv_at hl 0 rfl) ?_
      refine m_get X w 18 (by decide) (index := 40) rfl (by decide +kernel) (mfr18 _ _) dX8_takeRules_32 ?_
      refine lv_bipush (v := 6) hx hb dX8_takeRules_35 (by decide) ?_
      refine lv_iload_n hx hb dX8_takeRules_37 rfl (lv_at hl 1 rfl) ?_
      refine lv_imul hx hb dX8_takeRules_38 ?_
      refine gd e0 (fun g1 e0 => ?_)
      refine m_ald X w 11 18 (mat18 _ _ _ _ _) g1 dX8_takeRules_39 ?_
      refine gd e0 (fun g2 e0 => ?_)
      refine m_ast X w 4 7 (mat7 _ _ _ _ _) (mset7 _ _ _ _ _) g2 dX8_takeRules_40 (fun H locs w => ?_)
      refine lv_aload_n hx hb dX8_takeRules_41 rfl (lv_at hl 0 rfl) ?_
      refine m_get X w 8 (by decide) (index := 22) rfl (by decide +kernel) (mfr8 _ _) dX8_takeRules_42 ?_
      refine lv_iload_n hx hb dX8_takeRules_45 rfl (lv_at hl 1 rfl) ?_
      refine lv_aload_n hx hb dX8_takeRules_46 rfl (lv_at hl 0 rfl) ?_
      refine m_get X w 18 (by decide) (index := 40) rfl (by decide +kernel) (mfr18 _ _) dX8_takeRules_47 ?_
      refine lv_bipush (v := 6) hx hb dX8_takeRules_50 (by decide) ?_
      refine lv_iload_n hx hb dX8_takeRules_52 rfl (lv_at hl 1 rfl) ?_
      refine lv_imul hx hb dX8_takeRules_53 ?_
      refine lv_iconst (v := 1) hx hb dX8_takeRules_54 (by decide) ?_
      refine lv_iadd hx hb dX8_takeRules_55 ?_
      refine gd e0 (fun g3 e0 => ?_)
      refine m_ald X w 11 18 (mat18 _ _ _ _ _) g3 dX8_takeRules_56 ?_
      refine gd e0 (fun g4 e0 => ?_)
      refine m_ast X w 5 8 (mat8 _ _ _ _ _) (mset8 _ _ _ _ _) g4 dX8_takeRules_57 (fun H locs w => ?_)
      refine lv_aload_n hx hb dX8_takeRules_58 rfl (lv_at hl 0 rfl) ?_
      refine m_get X w 9 (by decide) (index := 25) rfl (by decide +kernel) (mfr9 _ _) dX8_takeRules_59 ?_
      refine lv_iload_n hx hb dX8_takeRules_62 rfl (lv_at hl 1 rfl) ?_
      refine lv_aload_n hx hb dX8_takeRules_63 rfl (lv_at hl 0 rfl) ?_
      refine m_get X w 18 (by decide) (index := 40) rfl (by decide +kernel) (mfr18 _ _) dX8_takeRules_64 ?_
      refine lv_bipush (v := 6) hx hb dX8_takeRules_67 (by decide) ?_
      refine lv_iload_n hx hb dX8_takeRules_69 rfl (lv_at hl 1 rfl) ?_
      refine lv_imul hx hb dX8_takeRules_70 ?_
      refine lv_iconst (v := 2) hx hb dX8_takeRules_71 (by decide) ?_
      refine lv_iadd hx hb dX8_takeRules_72 ?_
      refine gd e0 (fun g5 e0 => ?_)
      refine m_ald X w 11 18 (mat18 _ _ _ _ _) g5 dX8_takeRules_73 ?_
      refine gd e0 (fun g6 e0 => ?_)
      refine m_ast X w 6 9 (mat9 _ _ _ _ _) (mset9 _ _ _ _ _) g6 dX8_takeRules_74 (fun H locs w => ?_)
      refine lv_aload_n hx hb dX8_takeRules_75 rfl (lv_at hl 0 rfl) ?_
      refine m_get X w 10 (by decide) (index := 28) rfl (by decide +kernel) (mfr10 _ _) dX8_takeRules_76 ?_
      refine lv_iload_n hx hb dX8_takeRules_79 rfl (lv_at hl 1 rfl) ?_
      refine lv_aload_n hx hb dX8_takeRules_80 rfl (lv_at hl 0 rfl) ?_
      refine m_get X w 18 (by decide) (index := 40) rfl (by decide +kernel) (mfr18 _ _) dX8_takeRules_81 ?_
      refine lv_bipush (v := 6) hx hb dX8_takeRules_84 (by decide) ?_
      refine lv_iload_n hx hb dX8_takeRules_86 rfl (lv_at hl 1 rfl) ?_
      refine lv_imul hx hb dX8_takeRules_87 ?_
      refine lv_iconst (v := 3) hx hb dX8_takeRules_88 (by decide) ?_
      refine lv_iadd hx hb dX8_takeRules_89 ?_
      refine gd e0 (fun g7 e0 => ?_)
      refine m_ald X w 11 18 (mat18 _ _ _ _ _) g7 dX8_takeRules_90 ?_
      refine gd e0 (fun g8 e0 => ?_)
      refine m_ast X w 7 10 (mat10 _ _ _ _ _) (mset10 _ _ _ _ _) g8 dX8_takeRules_91 (fun H locs w => ?_)
      refine lv_aload_n hx hb dX8_takeRules_92 rfl (lv_at hl 0 rfl) ?_
      refine m_get X w 11 (by decide) (index := 31) rfl (by decide +kernel) (mfr11 _ _) dX8_takeRules_93 ?_
      refine lv_iload_n hx hb dX8_takeRules_96 rfl (lv_at hl 1 rfl) ?_
      refine lv_aload_n hx hb dX8_takeRules_97 rfl (lv_at hl 0 rfl) ?_
      refine m_get X w 18 (by decide) (index := 40) rfl (by decide +kernel) (mfr18 _ _) dX8_takeRules_98 ?_
      refine lv_bipush (v := 6) hx hb dX8_takeRules_101 (by decide) ?_
      refine lv_iload_n hx hb dX8_takeRules_103 rfl (lv_at hl 1 rfl) ?_
      refine lv_imul hx hb dX8_takeRules_104 ?_
      refine lv_iconst (v := 4) hx hb dX8_takeRules_105 (by decide) ?_
      refine lv_iadd hx hb dX8_takeRules_106 ?_
      refine gd e0 (fun g9 e0 => ?_)
      refine m_ald X w 11 18 (mat18 _ _ _ _ _) g9 dX8_takeRules_107 ?_
      refine gd e0 (fun g10 e0 => ?_)
      refine m_ast X w 8 11 (mat11 _ _ _ _ _) (mset11 _ _ _ _ _) g10 dX8_takeRules_108 (fun H locs w => ?_)
      refine lv_aload_n hx hb dX8_takeRules_109 rfl (lv_at hl 0 rfl) ?_
      refine m_get X w 12 (by decide) (index := 34) rfl (by decide +kernel) (mfr12 _ _) dX8_takeRules_110 ?_
      refine lv_iload_n hx hb dX8_takeRules_113 rfl (lv_at hl 1 rfl) ?_
      refine lv_aload_n hx hb dX8_takeRules_114 rfl (lv_at hl 0 rfl) ?_
      refine m_get X w 18 (by decide) (index := 40) rfl (by decide +kernel) (mfr18 _ _) dX8_takeRules_115 ?_
      refine lv_bipush (v := 6) hx hb dX8_takeRules_118 (by decide) ?_
      refine lv_iload_n hx hb dX8_takeRules_120 rfl (lv_at hl 1 rfl) ?_
      refine lv_imul hx hb dX8_takeRules_121 ?_
      refine lv_iconst (v := 5) hx hb dX8_takeRules_122 (by decide) ?_
      refine lv_iadd hx hb dX8_takeRules_123 ?_
      refine gd e0 (fun g11 e0 => ?_)
      refine m_ald X w 11 18 (mat18 _ _ _ _ _) g11 dX8_takeRules_124 ?_
      refine gd e0 (fun g12 e0 => ?_)
      refine m_ast X w 9 12 (mat12 _ _ _ _ _) (mset12 _ _ _ _ _) g12 dX8_takeRules_125 (fun H locs w => ?_)
      refine lv_iinc (v := (a1 + 1)) (lv' := [(1, .int (a1 + 1)), (0, .ref h)]) hx hb dX8_takeRules_126 hl (k := 1) rfl rfl (by decide) rfl (fun ls hl => ?_)
      refine lv_goto (tgt := 18) hx hb dX8_takeRules_129 (by decide) ?_
      exact ih _ _ _ _ _ _ w (lv_sub hl [1, 0] rfl) e0
def fX8_takeRules (n : Nat) (I : Nat → Int32) (R : Nat → Nat → Int32) : Option (mSt) :=
  fX8_takeRules_b18 n n 0 (upd (upd I 5 (I 15)) 6 ((upd I 5 (I 15)) 16)) R
set_option maxRecDepth 20000 in
set_option maxHeartbeats 1000000 in
theorem fX8_takeRules_w {p : Program} {l : Launch} {e : Env} {s : State} {m : MethodId} {args : Array Value} {below : List Frame} {meth : Method} {c : Code} {D : va_G} {y : ClassId} {h : Nat} {q : Nat → Nat} {n : Nat} {z : mSt} (X : mX p s m args c cX8_takeRules 2 wsX8_takeRules D y) (hr : meth.sig.returnType = none ∧ meth.locks = false) {I : Nat → Int32} {R : Nat → Nat → Int32} {H : Heap} {locs : List Loc} {ls : Array Slot} (w : mH s D y h q H locs I R) (hl : lv_has ls 2 [(0, .ref h)]) (e0 : fX8_takeRules n I R = some z) : W p l e rmX8_takeRules s m args below meth c H locs 0 0 (MQ below (mQv D y h q (mS y h q s.heap.size) z) args s 0 0 (mS y h q s.heap.size)) (F0 m 0 ls []) := by
  have hx := X.1.1
  have hb := X.1.2.1
  unfold fX8_takeRules at e0
  refine lv_aload_n hx hb dX8_takeRules_0 rfl (lv_at hl 0 rfl) ?_
  refine lv_aload_n hx hb dX8_takeRules_1 rfl (lv_at hl 0 rfl) ?_
  refine m_get X w 15 (by decide) (index := 138) rfl (by decide +kernel) (mfi15 _ _) dX8_takeRules_2 ?_
  refine m_put X w 5 (by decide) (index := 92) rfl rfl (by decide +kernel) (by decide +kernel) (mps5 _ _ _) dX8_takeRules_5 (fun H locs w => ?_)
  refine lv_aload_n hx hb dX8_takeRules_8 rfl (lv_at hl 0 rfl) ?_
  refine lv_aload_n hx hb dX8_takeRules_9 rfl (lv_at hl 0 rfl) ?_
  refine m_get X w 16 (by decide) (index := 141) rfl (by decide +kernel) (mfi16 _ _) dX8_takeRules_10 ?_
  refine m_put X w 6 (by decide) (index := 95) rfl rfl (by decide +kernel) (by decide +kernel) (mps6 _ _ _) dX8_takeRules_13 (fun H locs w => ?_)
  refine lv_iconst (v := 0) hx hb dX8_takeRules_16 (by decide) ?_
  refine lv_istore_n (lv' := [(1, .int 0), (0, .ref h)]) hx hb dX8_takeRules_17 rfl hl (by decide) rfl (fun ls hl => ?_)
  exact fX8_takeRules_b18_w (l := l) X hr n _ _ _ _ _ _ w (lv_sub hl [1, 0] rfl) e0
set_option maxRecDepth 20000 in
theorem fX8_takeRules_met (l : Launch) (D : va_G) (y : ClassId) (h : Nat) (q : Nat → Nat) (sz n : Nat) (I : Nat → Int32) (R : Nat → Nat → Int32) (z : mSt) (e0 : fX8_takeRules n I R = some z) : Met l yX8_takeRules wsX8_takeRules rmX8_takeRules (va_Pc [.ref h] (mPre D y h q sz I R)) (mQv D y h q (mS y h q sz) z) 0 0 (mS y h q sz) := by
  refine Met.ofW (cc := cX8_takeRules) (maxL := 2) (ret := none) (by decide) rfl ?_
  intro p e s m args below meth c s₁ B hml hv
  obtain ⟨rfl, hsz, hP, hK, hD⟩ := hv
  subst hsz
  have hl := lv_entry ([.ref h]) (n := 2) (Nat.le_of_ble_eq_true rfl)
  rw [lg_entry_eq]
  exact fX8_takeRules_w (s := s) ⟨⟨B.exec, B.bytes, hml, findClass_of_methodNamed B.named, atoms_spec (ws := wsX8_takeRules) B.pre⟩, fun _ h9 => List.mem_cons_of_mem _ (List.mem_append_right _ h9), hK⟩ ⟨B.returns, B.notSynchronized⟩ ⟨hP, mS_D hD, va_S.rf⟩ hl e0
def rmX8_leads : Room := { frames := 1, cells := 0, slots := 0, locals := 21 }
def fX8_leads_b134 (n : Nat) (k4 : Int32 → Int32 → Int32 → (Nat → Int32) → (Nat → Nat → Int32) → Option (Int32 × mSt)) (k25 : Int32 → Int32 → Int32 → Int32 → Int32 → (Nat → Int32) → (Nat → Nat → Int32) → Option (Int32 × mSt)) (a1 : Int32) (a2 : Int32) (a3 : Int32) (a4 : Int32) (a5 : Int32) (I : Nat → Int32) (R : Nat → Nat → Int32) : Option (Int32 × mSt) :=
  k25 a1 a2 a3 a4 (a5 + 1) I R
set_option maxRecDepth 20000 in
set_option maxHeartbeats 1000000 in
theorem fX8_leads_b134_w {p : Program} {l : Launch} {e : Env} {s : State} {m : MethodId} {args : Array Value} {below : List Frame} {meth : Method} {c : Code} {D : va_G} {y : ClassId} {h : Nat} {q : Nat → Nat} {n : Nat} {z : Int32 × mSt} (X : mX p s m args c cX8_leads 8 wsX8_leads D y) (hr : meth.sig.returnType = some .int ∧ meth.locks = false) {k4 : Int32 → Int32 → Int32 → (Nat → Int32) → (Nat → Nat → Int32) → Option (Int32 × mSt)} (hk4 : ∀ (a1 : Int32) (a2 : Int32) (a3 : Int32) (I : Nat → Int32) (R : Nat → Nat → Int32) (H : Heap) (locs : List Loc) (ls : Array Slot), mH s D y h q H locs I R → lv_has ls 8 [(0, .ref h), (1, .int a1), (2, .int a2), (3, .int a3)] → k4 a1 a2 a3 I R = some z → W p l e rmX8_leads s m args below meth c H locs 0 0 (MQ below (mQi D y h q (mS y h q s.heap.size) z) args s 0 0 (mS y h q s.heap.size)) (F0 m 4 ls [])) {k25 : Int32 → Int32 → Int32 → Int32 → Int32 → (Nat → Int32) → (Nat → Nat → Int32) → Option (Int32 × mSt)} (hk25 : ∀ (a1 : Int32) (a2 : Int32) (a3 : Int32) (a4 : Int32) (a5 : Int32) (I : Nat → Int32) (R : Nat → Nat → Int32) (H : Heap) (locs : List Loc) (ls : Array Slot), mH s D y h q H locs I R → lv_has ls 8 [(0, .ref h), (1, .int a1), (2, .int a2), (3, .int a3), (4, .int a4), (5, .int a5)] → k25 a1 a2 a3 a4 a5 I R = some z → W p l e rmX8_leads s m args below meth c H locs 0 0 (MQ below (mQi D y h q (mS y h q s.heap.size) z) args s 0 0 (mS y h q s.heap.size)) (F0 m 25 ls [])) {a1 : Int32} {a2 : Int32} {a3 : Int32} {a4 : Int32} {a5 : Int32} {I : Nat → Int32} {R : Nat → Nat → Int32} {H : Heap} {locs : List Loc} {ls : Array Slot} (w : mH s D y h q H locs I R) (hl : lv_has ls 8 [(0, .ref h), (1, .int a1), (2, .int a2), (3, .int a3), (4, .int a4), (5, .int a5)]) (e0 : fX8_leads_b134 n k4 k25 a1 a2 a3 a4 a5 I R = some z) : W p l e rmX8_leads s m args below meth c H locs 0 0 (MQ below (mQi D y h q (mS y h q s.heap.size) z) args s 0 0 (mS y h q s.heap.size)) (F0 m 134 ls []) := by
  have hx := X.1.1
  have hb := X.1.2.1
  unfold fX8_leads_b134 at e0
  refine lv_iinc (v := (a5 + 1)) (lv' := [(5, .int (a5 + 1)), (0, .ref h), (1, .int a1), (2, .int a2), (3, .int a3), (4, .int a4)]) hx hb dX8_leads_134 hl (k := 5) rfl rfl (by decide) rfl (fun ls hl => ?_)
  refine lv_goto (tgt := 25) hx hb dX8_leads_137 (by decide) ?_
  exact hk25 _ _ _ _ _ _ _ _ _ _ w (lv_sub hl [1, 2, 3, 4, 5, 0] rfl) e0
def fX8_leads_b103 (n : Nat) (k4 : Int32 → Int32 → Int32 → (Nat → Int32) → (Nat → Nat → Int32) → Option (Int32 × mSt)) (k25 : Int32 → Int32 → Int32 → Int32 → Int32 → (Nat → Int32) → (Nat → Nat → Int32) → Option (Int32 × mSt)) (a1 : Int32) (a2 : Int32) (a3 : Int32) (a4 : Int32) (a5 : Int32) (a6 : Int32) (I : Nat → Int32) (R : Nat → Nat → Int32) : Option (Int32 × mSt) :=
  if inb a3 5 = true then
  if (getA R 9 a3) = 3 then
    if inb a3 5 = true then
    (fX8_isOf n a6 (getA R 12 a3)).bind fun z17 =>
    if z17 = 0 then
      fX8_leads_b134 n k4 k25 a1 a2 a3 a4 a5 I R
    else
      fX8_leads_b134 n k4 k25 a1 (a2 ||| (a4 <<< (4 &&& 31))) a3 a4 a5 I R
    else none
  else
    fX8_leads_b134 n k4 k25 a1 a2 a3 a4 a5 I R
  else none
set_option maxRecDepth 20000 in
set_option maxHeartbeats 1000000 in
theorem fX8_leads_b103_w {p : Program} {l : Launch} {e : Env} {s : State} {m : MethodId} {args : Array Value} {below : List Frame} {meth : Method} {c : Code} {D : va_G} {y : ClassId} {h : Nat} {q : Nat → Nat} {n : Nat} {z : Int32 × mSt} (X : mX p s m args c cX8_leads 8 wsX8_leads D y) (hr : meth.sig.returnType = some .int ∧ meth.locks = false) {k4 : Int32 → Int32 → Int32 → (Nat → Int32) → (Nat → Nat → Int32) → Option (Int32 × mSt)} (hk4 : ∀ (a1 : Int32) (a2 : Int32) (a3 : Int32) (I : Nat → Int32) (R : Nat → Nat → Int32) (H : Heap) (locs : List Loc) (ls : Array Slot), mH s D y h q H locs I R → lv_has ls 8 [(0, .ref h), (1, .int a1), (2, .int a2), (3, .int a3)] → k4 a1 a2 a3 I R = some z → W p l e rmX8_leads s m args below meth c H locs 0 0 (MQ below (mQi D y h q (mS y h q s.heap.size) z) args s 0 0 (mS y h q s.heap.size)) (F0 m 4 ls [])) {k25 : Int32 → Int32 → Int32 → Int32 → Int32 → (Nat → Int32) → (Nat → Nat → Int32) → Option (Int32 × mSt)} (hk25 : ∀ (a1 : Int32) (a2 : Int32) (a3 : Int32) (a4 : Int32) (a5 : Int32) (I : Nat → Int32) (R : Nat → Nat → Int32) (H : Heap) (locs : List Loc) (ls : Array Slot), mH s D y h q H locs I R → lv_has ls 8 [(0, .ref h), (1, .int a1), (2, .int a2), (3, .int a3), (4, .int a4), (5, .int a5)] → k25 a1 a2 a3 a4 a5 I R = some z → W p l e rmX8_leads s m args below meth c H locs 0 0 (MQ below (mQi D y h q (mS y h q s.heap.size) z) args s 0 0 (mS y h q s.heap.size)) (F0 m 25 ls [])) {a1 : Int32} {a2 : Int32} {a3 : Int32} {a4 : Int32} {a5 : Int32} {a6 : Int32} {I : Nat → Int32} {R : Nat → Nat → Int32} {H : Heap} {locs : List Loc} {ls : Array Slot} (w : mH s D y h q H locs I R) (hl : lv_has ls 8 [(0, .ref h), (1, .int a1), (2, .int a2), (3, .int a3), (4, .int a4), (5, .int a5), (6, .int a6)]) (e0 : fX8_leads_b103 n k4 k25 a1 a2 a3 a4 a5 a6 I R = some z) : W p l e rmX8_leads s m args below meth c H locs 0 0 (MQ below (mQi D y h q (mS y h q s.heap.size) z) args s 0 0 (mS y h q s.heap.size)) (F0 m 103 ls []) := by
  have hx := X.1.1
  have hb := X.1.2.1
  unfold fX8_leads_b103 at e0
  refine lv_aload_n hx hb dX8_leads_103 rfl (lv_at hl 0 rfl) ?_
  refine m_get X w 9 (by decide) (index := 25) rfl (by decide +kernel) (mfr9 _ _) dX8_leads_104 ?_
  refine lv_iload_n hx hb dX8_leads_107 rfl (lv_at hl 3 rfl) ?_
  refine gd e0 (fun g15 e0 => ?_)
  refine m_ald X w 6 9 (mat9 _ _ _ _ _) g15 dX8_leads_108 ?_
  refine lv_iconst (v := 3) hx hb dX8_leads_109 (by decide) ?_
  refine lv_icmp_ne (tgt := 134) hx hb dX8_leads_110 (by decide) (fun c20 => ?_) (fun c20 => ?_)
  · have e0 := itn _ c20 e0
    exact fX8_leads_b134_w (l := l) X hr hk4 hk25 w (lv_sub hl [0, 1, 2, 3, 4, 5] rfl) e0
  · have e0 := itp _ c20 e0
    refine lv_iload hx hb dX8_leads_113 (lv_at hl 6 rfl) ?_
    refine lv_aload_n hx hb dX8_leads_115 rfl (lv_at hl 0 rfl) ?_
    refine m_get X w 12 (by decide) (index := 34) rfl (by decide +kernel) (mfr12 _ _) dX8_leads_116 ?_
    refine lv_iload_n hx hb dX8_leads_119 rfl (lv_at hl 3 rfl) ?_
    refine gd e0 (fun g16 e0 => ?_)
    refine m_ald X w 9 12 (mat12 _ _ _ _ _) g16 dX8_leads_120 ?_
    refine bd e0 (fun z17 e18 e0 => ?_)
    refine m_callsi X w (n := 2) (As := [.int a6, .int (getA R 12 a3)]) (rest := []) (fX8_isOf_met l _ _ _ _ e18) gX8_leads_X8_isOf rfl rfl rfl (by decide +kernel) ⟨Nat.le_of_ble_eq_true rfl, Nat.le_of_ble_eq_true rfl⟩ rfl hl.1 rfl (Nat.le_of_ble_eq_true rfl) dX8_leads_121 (fun H locs w => ?_)
    refine lv_if_eq (tgt := 134) hx hb dX8_leads_124 (by decide) (fun c19 => ?_) (fun c19 => ?_)
    · have e0 := itp _ c19 e0
      exact fX8_leads_b134_w (l := l) X hr hk4 hk25 w (lv_sub hl [0, 1, 2, 3, 4, 5] rfl) e0
    · have e0 := itn _ c19 e0
      refine lv_iload_n hx hb dX8_leads_127 rfl (lv_at hl 2 rfl) ?_
      refine lv_iload hx hb dX8_leads_128 (lv_at hl 4 rfl) ?_
      refine lv_iconst (v := 4) hx hb dX8_leads_130 (by decide) ?_
      refine lv_ishl hx hb dX8_leads_131 ?_
      refine lv_ior hx hb dX8_leads_132 ?_
      refine lv_istore_n (lv' := [(2, .int (a2 ||| (a4 <<< (4 &&& 31)))), (0, .ref h), (1, .int a1), (3, .int a3), (4, .int a4), (5, .int a5), (6, .int a6)]) hx hb dX8_leads_133 rfl hl (by decide) rfl (fun ls hl => ?_)
      exact fX8_leads_b134_w (l := l) X hr hk4 hk25 w (lv_sub hl [1, 2, 0, 3, 4, 5] rfl) e0
def fX8_leads_b95 (n : Nat) (k4 : Int32 → Int32 → Int32 → (Nat → Int32) → (Nat → Nat → Int32) → Option (Int32 × mSt)) (k25 : Int32 → Int32 → Int32 → Int32 → Int32 → (Nat → Int32) → (Nat → Nat → Int32) → Option (Int32 × mSt)) (a1 : Int32) (a2 : Int32) (a3 : Int32) (a4 : Int32) (a5 : Int32) (a6 : Int32) (a7 : Int32) (I : Nat → Int32) (R : Nat → Nat → Int32) : Option (Int32 × mSt) :=
  fX8_leads_b103 n k4 k25 a1 (a2 ||| (a4 <<< (a7 &&& 31))) a3 a4 a5 a6 I R
set_option maxRecDepth 20000 in
set_option maxHeartbeats 1000000 in
theorem fX8_leads_b95_w {p : Program} {l : Launch} {e : Env} {s : State} {m : MethodId} {args : Array Value} {below : List Frame} {meth : Method} {c : Code} {D : va_G} {y : ClassId} {h : Nat} {q : Nat → Nat} {n : Nat} {z : Int32 × mSt} (X : mX p s m args c cX8_leads 8 wsX8_leads D y) (hr : meth.sig.returnType = some .int ∧ meth.locks = false) {k4 : Int32 → Int32 → Int32 → (Nat → Int32) → (Nat → Nat → Int32) → Option (Int32 × mSt)} (hk4 : ∀ (a1 : Int32) (a2 : Int32) (a3 : Int32) (I : Nat → Int32) (R : Nat → Nat → Int32) (H : Heap) (locs : List Loc) (ls : Array Slot), mH s D y h q H locs I R → lv_has ls 8 [(0, .ref h), (1, .int a1), (2, .int a2), (3, .int a3)] → k4 a1 a2 a3 I R = some z → W p l e rmX8_leads s m args below meth c H locs 0 0 (MQ below (mQi D y h q (mS y h q s.heap.size) z) args s 0 0 (mS y h q s.heap.size)) (F0 m 4 ls [])) {k25 : Int32 → Int32 → Int32 → Int32 → Int32 → (Nat → Int32) → (Nat → Nat → Int32) → Option (Int32 × mSt)} (hk25 : ∀ (a1 : Int32) (a2 : Int32) (a3 : Int32) (a4 : Int32) (a5 : Int32) (I : Nat → Int32) (R : Nat → Nat → Int32) (H : Heap) (locs : List Loc) (ls : Array Slot), mH s D y h q H locs I R → lv_has ls 8 [(0, .ref h), (1, .int a1), (2, .int a2), (3, .int a3), (4, .int a4), (5, .int a5)] → k25 a1 a2 a3 a4 a5 I R = some z → W p l e rmX8_leads s m args below meth c H locs 0 0 (MQ below (mQi D y h q (mS y h q s.heap.size) z) args s 0 0 (mS y h q s.heap.size)) (F0 m 25 ls [])) {a1 : Int32} {a2 : Int32} {a3 : Int32} {a4 : Int32} {a5 : Int32} {a6 : Int32} {a7 : Int32} {I : Nat → Int32} {R : Nat → Nat → Int32} {H : Heap} {locs : List Loc} {ls : Array Slot} (w : mH s D y h q H locs I R) (hl : lv_has ls 8 [(0, .ref h), (1, .int a1), (2, .int a2), (3, .int a3), (4, .int a4), (5, .int a5), (6, .int a6), (7, .int a7)]) (e0 : fX8_leads_b95 n k4 k25 a1 a2 a3 a4 a5 a6 a7 I R = some z) : W p l e rmX8_leads s m args below meth c H locs 0 0 (MQ below (mQi D y h q (mS y h q s.heap.size) z) args s 0 0 (mS y h q s.heap.size)) (F0 m 95 ls []) := by
  have hx := X.1.1
  have hb := X.1.2.1
  unfold fX8_leads_b95 at e0
  refine lv_iload_n hx hb dX8_leads_95 rfl (lv_at hl 2 rfl) ?_
  refine lv_iload hx hb dX8_leads_96 (lv_at hl 4 rfl) ?_
  refine lv_iload hx hb dX8_leads_98 (lv_at hl 7 rfl) ?_
  refine lv_ishl hx hb dX8_leads_100 ?_
  refine lv_ior hx hb dX8_leads_101 ?_
  refine lv_istore_n (lv' := [(2, .int (a2 ||| (a4 <<< (a7 &&& 31)))), (0, .ref h), (1, .int a1), (3, .int a3), (4, .int a4), (5, .int a5), (6, .int a6), (7, .int a7)]) hx hb dX8_leads_102 rfl hl (by decide) rfl (fun ls hl => ?_)
  exact fX8_leads_b103_w (l := l) X hr hk4 hk25 w (lv_sub hl [1, 2, 0, 3, 4, 5, 6] rfl) e0
def fX8_leads_b49 (n : Nat) (k4 : Int32 → Int32 → Int32 → (Nat → Int32) → (Nat → Nat → Int32) → Option (Int32 × mSt)) (k25 : Int32 → Int32 → Int32 → Int32 → Int32 → (Nat → Int32) → (Nat → Nat → Int32) → Option (Int32 × mSt)) (a1 : Int32) (a2 : Int32) (a3 : Int32) (a4 : Int32) (a5 : Int32) (t0 : Int32) (I : Nat → Int32) (R : Nat → Nat → Int32) : Option (Int32 × mSt) :=
  if inb a3 5 = true then
  (fX8_isOf n t0 (getA R 11 a3)).bind fun z6 =>
  if z6 = 0 then
    if inb a3 5 = true then
    if (getA R 9 a3) = 2 then
      if inb a3 5 = true then
      (fX8_isOf n t0 (getA R 12 a3)).bind fun z10 =>
      if z10 = 0 then
        fX8_leads_b103 n k4 k25 a1 a2 a3 a4 a5 t0 I R
      else
        fX8_leads_b95 n k4 k25 a1 a2 a3 a4 a5 t0 (4 * a5) I R
      else none
    else
      fX8_leads_b103 n k4 k25 a1 a2 a3 a4 a5 t0 I R
    else none
  else
    fX8_leads_b95 n k4 k25 a1 a2 a3 a4 a5 t0 (4 * a5) I R
  else none
set_option maxRecDepth 20000 in
set_option maxHeartbeats 1000000 in
theorem fX8_leads_b49_w {p : Program} {l : Launch} {e : Env} {s : State} {m : MethodId} {args : Array Value} {below : List Frame} {meth : Method} {c : Code} {D : va_G} {y : ClassId} {h : Nat} {q : Nat → Nat} {n : Nat} {z : Int32 × mSt} (X : mX p s m args c cX8_leads 8 wsX8_leads D y) (hr : meth.sig.returnType = some .int ∧ meth.locks = false) {k4 : Int32 → Int32 → Int32 → (Nat → Int32) → (Nat → Nat → Int32) → Option (Int32 × mSt)} (hk4 : ∀ (a1 : Int32) (a2 : Int32) (a3 : Int32) (I : Nat → Int32) (R : Nat → Nat → Int32) (H : Heap) (locs : List Loc) (ls : Array Slot), mH s D y h q H locs I R → lv_has ls 8 [(0, .ref h), (1, .int a1), (2, .int a2), (3, .int a3)] → k4 a1 a2 a3 I R = some z → W p l e rmX8_leads s m args below meth c H locs 0 0 (MQ below (mQi D y h q (mS y h q s.heap.size) z) args s 0 0 (mS y h q s.heap.size)) (F0 m 4 ls [])) {k25 : Int32 → Int32 → Int32 → Int32 → Int32 → (Nat → Int32) → (Nat → Nat → Int32) → Option (Int32 × mSt)} (hk25 : ∀ (a1 : Int32) (a2 : Int32) (a3 : Int32) (a4 : Int32) (a5 : Int32) (I : Nat → Int32) (R : Nat → Nat → Int32) (H : Heap) (locs : List Loc) (ls : Array Slot), mH s D y h q H locs I R → lv_has ls 8 [(0, .ref h), (1, .int a1), (2, .int a2), (3, .int a3), (4, .int a4), (5, .int a5)] → k25 a1 a2 a3 a4 a5 I R = some z → W p l e rmX8_leads s m args below meth c H locs 0 0 (MQ below (mQi D y h q (mS y h q s.heap.size) z) args s 0 0 (mS y h q s.heap.size)) (F0 m 25 ls [])) {a1 : Int32} {a2 : Int32} {a3 : Int32} {a4 : Int32} {a5 : Int32} {t0 : Int32} {I : Nat → Int32} {R : Nat → Nat → Int32} {H : Heap} {locs : List Loc} {ls : Array Slot} (w : mH s D y h q H locs I R) (hl : lv_has ls 8 [(0, .ref h), (1, .int a1), (2, .int a2), (3, .int a3), (4, .int a4), (5, .int a5)]) (e0 : fX8_leads_b49 n k4 k25 a1 a2 a3 a4 a5 t0 I R = some z) : W p l e rmX8_leads s m args below meth c H locs 0 0 (MQ below (mQi D y h q (mS y h q s.heap.size) z) args s 0 0 (mS y h q s.heap.size)) (F0 m 49 ls [.int t0]) := by
  have hx := X.1.1
  have hb := X.1.2.1
  unfold fX8_leads_b49 at e0
  refine lv_istore (lv' := [(6, .int t0), (0, .ref h), (1, .int a1), (2, .int a2), (3, .int a3), (4, .int a4), (5, .int a5)]) hx hb dX8_leads_49 hl (by decide) rfl (fun ls hl => ?_)
  refine lv_iconst (v := 4) hx hb dX8_leads_51 (by decide) ?_
  refine lv_iload hx hb dX8_leads_52 (lv_at hl 6 rfl) ?_
  refine lv_imul hx hb dX8_leads_54 ?_
  refine lv_istore (lv' := [(7, .int (4 * a5)), (6, .int t0), (0, .ref h), (1, .int a1), (2, .int a2), (3, .int a3), (4, .int a4), (5, .int a5)]) hx hb dX8_leads_55 hl (by decide) rfl (fun ls hl => ?_)
  refine lv_iload hx hb dX8_leads_57 (lv_at hl 1 rfl) ?_
  refine lv_aload_n hx hb dX8_leads_59 rfl (lv_at hl 2 rfl) ?_
  refine m_get X w 11 (by decide) (index := 31) rfl (by decide +kernel) (mfr11 _ _) dX8_leads_60 ?_
  refine lv_iload_n hx hb dX8_leads_63 rfl (lv_at hl 5 rfl) ?_
  refine gd e0 (fun g5 e0 => ?_)
  refine m_ald X w 8 11 (mat11 _ _ _ _ _) g5 dX8_leads_64 ?_
  refine bd e0 (fun z6 e7 e0 => ?_)
  refine m_callsi X w (n := 2) (As := [.int t0, .int (getA R 11 a3)]) (rest := []) (fX8_isOf_met l _ _ _ _ e7) gX8_leads_X8_isOf rfl rfl rfl (by decide +kernel) ⟨Nat.le_of_ble_eq_true rfl, Nat.le_of_ble_eq_true rfl⟩ rfl hl.1 rfl (Nat.le_of_ble_eq_true rfl) dX8_leads_65 (fun H locs w => ?_)
  refine lv_if_ne (tgt := 95) hx hb dX8_leads_68 (by decide) (fun c14 => ?_) (fun c14 => ?_)
  · have e0 := itn _ c14 e0
    exact fX8_leads_b95_w (l := l) X hr hk4 hk25 w (lv_sub hl [2, 3, 4, 5, 6, 7, 1, 0] rfl) e0
  · have e0 := itp _ c14 e0
    refine lv_aload_n hx hb dX8_leads_71 rfl (lv_at hl 2 rfl) ?_
    refine m_get X w 9 (by decide) (index := 25) rfl (by decide +kernel) (mfr9 _ _) dX8_leads_72 ?_
    refine lv_iload_n hx hb dX8_leads_75 rfl (lv_at hl 5 rfl) ?_
    refine gd e0 (fun g8 e0 => ?_)
    refine m_ald X w 6 9 (mat9 _ _ _ _ _) g8 dX8_leads_76 ?_
    refine lv_iconst (v := 2) hx hb dX8_leads_77 (by decide) ?_
    refine lv_icmp_ne (tgt := 103) hx hb dX8_leads_78 (by decide) (fun c13 => ?_) (fun c13 => ?_)
    · have e0 := itn _ c13 e0
      exact fX8_leads_b103_w (l := l) X hr hk4 hk25 w (lv_sub hl [2, 3, 4, 5, 6, 7, 1] rfl) e0
    · have e0 := itp _ c13 e0
      refine lv_iload hx hb dX8_leads_81 (lv_at hl 1 rfl) ?_
      refine lv_aload_n hx hb dX8_leads_83 rfl (lv_at hl 2 rfl) ?_
      refine m_get X w 12 (by decide) (index := 34) rfl (by decide +kernel) (mfr12 _ _) dX8_leads_84 ?_
      refine lv_iload_n hx hb dX8_leads_87 rfl (lv_at hl 5 rfl) ?_
      refine gd e0 (fun g9 e0 => ?_)
      refine m_ald X w 9 12 (mat12 _ _ _ _ _) g9 dX8_leads_88 ?_
      refine bd e0 (fun z10 e11 e0 => ?_)
      refine m_callsi X w (n := 2) (As := [.int t0, .int (getA R 12 a3)]) (rest := []) (fX8_isOf_met l _ _ _ _ e11) gX8_leads_X8_isOf rfl rfl rfl (by decide +kernel) ⟨Nat.le_of_ble_eq_true rfl, Nat.le_of_ble_eq_true rfl⟩ rfl hl.1 rfl (Nat.le_of_ble_eq_true rfl) dX8_leads_89 (fun H locs w => ?_)
      refine lv_if_eq (tgt := 103) hx hb dX8_leads_92 (by decide) (fun c12 => ?_) (fun c12 => ?_)
      · have e0 := itp _ c12 e0
        exact fX8_leads_b103_w (l := l) X hr hk4 hk25 w (lv_sub hl [2, 3, 4, 5, 6, 7, 1] rfl) e0
      · have e0 := itn _ c12 e0
        exact fX8_leads_b95_w (l := l) X hr hk4 hk25 w (lv_sub hl [2, 3, 4, 5, 6, 7, 1, 0] rfl) e0
def fX8_leads_b25 (n : Nat) (k4 : Int32 → Int32 → Int32 → (Nat → Int32) → (Nat → Nat → Int32) → Option (Int32 × mSt)) : Nat → Int32 → Int32 → Int32 → Int32 → Int32 → (Nat → Int32) → (Nat → Nat → Int32) → Option (Int32 × mSt)
  | 0, _, _, _, _, _, _, _ => none
  | j + 1, a1, a2, a3, a4, a5, I, R =>
    if 2 ≤ a5 then
      k4 a1 a2 (a3 + 1) I R
    else
      if a5 = 0 then
        fX8_leads_b49 n k4 (fX8_leads_b25 n k4 j) a1 a2 a3 a4 a5 (a1 &&& 15) I R
      else
        fX8_leads_b49 n k4 (fX8_leads_b25 n k4 j) a1 a2 a3 a4 a5 ((a1 >>> (4 &&& 31)) &&& 15) I R
set_option maxRecDepth 20000 in
set_option maxHeartbeats 1000000 in
theorem fX8_leads_b25_w {p : Program} {l : Launch} {e : Env} {s : State} {m : MethodId} {args : Array Value} {below : List Frame} {meth : Method} {c : Code} {D : va_G} {y : ClassId} {h : Nat} {q : Nat → Nat} {n : Nat} {z : Int32 × mSt} (X : mX p s m args c cX8_leads 8 wsX8_leads D y) (hr : meth.sig.returnType = some .int ∧ meth.locks = false) {k4 : Int32 → Int32 → Int32 → (Nat → Int32) → (Nat → Nat → Int32) → Option (Int32 × mSt)} (hk4 : ∀ (a1 : Int32) (a2 : Int32) (a3 : Int32) (I : Nat → Int32) (R : Nat → Nat → Int32) (H : Heap) (locs : List Loc) (ls : Array Slot), mH s D y h q H locs I R → lv_has ls 8 [(0, .ref h), (1, .int a1), (2, .int a2), (3, .int a3)] → k4 a1 a2 a3 I R = some z → W p l e rmX8_leads s m args below meth c H locs 0 0 (MQ below (mQi D y h q (mS y h q s.heap.size) z) args s 0 0 (mS y h q s.heap.size)) (F0 m 4 ls [])) : ∀ (j : Nat) (a1 : Int32) (a2 : Int32) (a3 : Int32) (a4 : Int32) (a5 : Int32) (I : Nat → Int32) (R : Nat → Nat → Int32) (H : Heap) (locs : List Loc) (ls : Array Slot), mH s D y h q H locs I R → lv_has ls 8 [(0, .ref h), (1, .int a1), (2, .int a2), (3, .int a3), (4, .int a4), (5, .int a5)] → fX8_leads_b25 n k4 j a1 a2 a3 a4 a5 I R = some z → W p l e rmX8_leads s m args below meth c H locs 0 0 (MQ below (mQi D y h q (mS y h q s.heap.size) z) args s 0 0 (mS y h q s.heap.size)) (F0 m 25 ls []) := by
  have hx := X.1.1
  have hb := X.1.2.1
  intro j
  induction j with
  | zero =>
    intro a1 a2 a3 a4 a5 I R H locs ls w hl e0
    cases e0
  | succ j ih =>
    intro a1 a2 a3 a4 a5 I R H locs ls w hl e0
    rw [fX8_leads_b25] at e0
    refine lv_iload hx hb dX8_leads_25 (lv_at hl 5 rfl) ?_
    refine lv_iconst (v := 2) hx hb dX8_leads_27 (by decide) ?_
    refine lv_icmp_ge (tgt := 140) hx hb dX8_leads_28 (by decide) (fun c4 => ?_) (fun c4 => ?_)
    · have e0 := itp _ c4 e0
      refine lv_iinc (v := (a3 + 1)) (lv' := [(3, .int (a3 + 1)), (0, .ref h), (1, .int a1), (2, .int a2), (4, .int a4), (5, .int a5)]) hx hb dX8_leads_140 hl (k := 3) rfl rfl (by decide) rfl (fun ls hl => ?_)
      refine lv_goto (tgt := 4) hx hb dX8_leads_143 (by decide) ?_
      exact hk4 _ _ _ _ _ _ _ _ w (lv_sub hl [1, 2, 3, 0] rfl) e0
    · have e0 := itn _ c4 e0
      refine lv_iload hx hb dX8_leads_31 (lv_at hl 5 rfl) ?_
      refine lv_if_ne (tgt := 43) hx hb dX8_leads_33 (by decide) (fun c3 => ?_) (fun c3 => ?_)
      · have e0 := itn _ c3 e0
        refine lv_iload_n hx hb dX8_leads_43 rfl (lv_at hl 1 rfl) ?_
        refine lv_iconst (v := 4) hx hb dX8_leads_44 (by decide) ?_
        refine lv_ishr hx hb dX8_leads_45 ?_
        refine lv_bipush (v := 15) hx hb dX8_leads_46 (by decide) ?_
        refine lv_iand hx hb dX8_leads_48 ?_
        exact fX8_leads_b49_w (l := l) X hr hk4 ih w (lv_sub hl [0, 1, 2, 3, 4, 5] rfl) e0
      · have e0 := itp _ c3 e0
        refine lv_iload_n hx hb dX8_leads_36 rfl (lv_at hl 1 rfl) ?_
        refine lv_bipush (v := 15) hx hb dX8_leads_37 (by decide) ?_
        refine lv_iand hx hb dX8_leads_39 ?_
        refine lv_goto (tgt := 49) hx hb dX8_leads_40 (by decide) ?_
        exact fX8_leads_b49_w (l := l) X hr hk4 ih w (lv_sub hl [0, 1, 2, 3, 4, 5] rfl) e0
def fX8_leads_b4 (n : Nat) : Nat → Int32 → Int32 → Int32 → (Nat → Int32) → (Nat → Nat → Int32) → Option (Int32 × mSt)
  | 0, _, _, _, _, _ => none
  | j + 1, a1, a2, a3, I, R =>
    if (I 6) ≤ a3 then
      some (a2, I, R)
    else
      if inb a3 5 = true then
      fX8_leads_b25 n (fX8_leads_b4 n j) n a1 a2 a3 (1 <<< ((getA R 10 a3) &&& 31)) 0 I R
      else none
set_option maxRecDepth 20000 in
set_option maxHeartbeats 1000000 in
theorem fX8_leads_b4_w {p : Program} {l : Launch} {e : Env} {s : State} {m : MethodId} {args : Array Value} {below : List Frame} {meth : Method} {c : Code} {D : va_G} {y : ClassId} {h : Nat} {q : Nat → Nat} {n : Nat} {z : Int32 × mSt} (X : mX p s m args c cX8_leads 8 wsX8_leads D y) (hr : meth.sig.returnType = some .int ∧ meth.locks = false) : ∀ (j : Nat) (a1 : Int32) (a2 : Int32) (a3 : Int32) (I : Nat → Int32) (R : Nat → Nat → Int32) (H : Heap) (locs : List Loc) (ls : Array Slot), mH s D y h q H locs I R → lv_has ls 8 [(0, .ref h), (1, .int a1), (2, .int a2), (3, .int a3)] → fX8_leads_b4 n j a1 a2 a3 I R = some z → W p l e rmX8_leads s m args below meth c H locs 0 0 (MQ below (mQi D y h q (mS y h q s.heap.size) z) args s 0 0 (mS y h q s.heap.size)) (F0 m 4 ls []) := by
  have hx := X.1.1
  have hb := X.1.2.1
  intro j
  induction j with
  | zero =>
    intro a1 a2 a3 I R H locs ls w hl e0
    cases e0
  | succ j ih =>
    intro a1 a2 a3 I R H locs ls w hl e0
    rw [fX8_leads_b4] at e0
    refine lv_iload_n hx hb dX8_leads_4 rfl (lv_at hl 3 rfl) ?_
    refine lv_aload_n hx hb dX8_leads_5 rfl (lv_at hl 0 rfl) ?_
    refine m_get X w 6 (by decide) (index := 95) rfl (by decide +kernel) (mfi6 _ _) dX8_leads_6 ?_
    refine lv_icmp_ge (tgt := 146) hx hb dX8_leads_9 (by decide) (fun c2 => ?_) (fun c2 => ?_)
    · have e0 := itp _ c2 e0
      refine lv_iload_n hx hb dX8_leads_146 rfl (lv_at hl 2 rfl) ?_
      have e0 := Option.some.inj e0
      subst e0
      exact m_iret X w hr dX8_leads_147
    · have e0 := itn _ c2 e0
      refine lv_iconst (v := 1) hx hb dX8_leads_12 (by decide) ?_
      refine lv_aload_n hx hb dX8_leads_13 rfl (lv_at hl 0 rfl) ?_
      refine m_get X w 10 (by decide) (index := 28) rfl (by decide +kernel) (mfr10 _ _) dX8_leads_14 ?_
      refine lv_iload_n hx hb dX8_leads_17 rfl (lv_at hl 3 rfl) ?_
      refine gd e0 (fun g1 e0 => ?_)
      refine m_ald X w 7 10 (mat10 _ _ _ _ _) g1 dX8_leads_18 ?_
      refine lv_ishl hx hb dX8_leads_19 ?_
      refine lv_istore (lv' := [(4, .int (1 <<< ((getA R 10 a3) &&& 31))), (0, .ref h), (1, .int a1), (2, .int a2), (3, .int a3)]) hx hb dX8_leads_20 hl (by decide) rfl (fun ls hl => ?_)
      refine lv_iconst (v := 0) hx hb dX8_leads_22 (by decide) ?_
      refine lv_istore (lv' := [(5, .int 0), (4, .int (1 <<< ((getA R 10 a3) &&& 31))), (0, .ref h), (1, .int a1), (2, .int a2), (3, .int a3)]) hx hb dX8_leads_23 hl (by decide) rfl (fun ls hl => ?_)
      exact fX8_leads_b25_w (l := l) X hr ih n _ _ _ _ _ _ _ _ _ _ w (lv_sub hl [2, 3, 4, 5, 1, 0] rfl) e0
def fX8_leads (n : Nat) (a1 : Int32) (I : Nat → Int32) (R : Nat → Nat → Int32) : Option (Int32 × mSt) :=
  fX8_leads_b4 n n a1 a1 0 I R
set_option maxRecDepth 20000 in
set_option maxHeartbeats 1000000 in
theorem fX8_leads_w {p : Program} {l : Launch} {e : Env} {s : State} {m : MethodId} {args : Array Value} {below : List Frame} {meth : Method} {c : Code} {D : va_G} {y : ClassId} {h : Nat} {q : Nat → Nat} {n : Nat} {z : Int32 × mSt} (X : mX p s m args c cX8_leads 8 wsX8_leads D y) (hr : meth.sig.returnType = some .int ∧ meth.locks = false) {a1 : Int32} {I : Nat → Int32} {R : Nat → Nat → Int32} {H : Heap} {locs : List Loc} {ls : Array Slot} (w : mH s D y h q H locs I R) (hl : lv_has ls 8 [(0, .ref h), (1, .int a1)]) (e0 : fX8_leads n a1 I R = some z) : W p l e rmX8_leads s m args below meth c H locs 0 0 (MQ below (mQi D y h q (mS y h q s.heap.size) z) args s 0 0 (mS y h q s.heap.size)) (F0 m 0 ls []) := by
  have hx := X.1.1
  have hb := X.1.2.1
  unfold fX8_leads at e0
  refine lv_iload_n hx hb dX8_leads_0 rfl (lv_at hl 1 rfl) ?_
  refine lv_istore_n (lv' := [(2, .int a1), (0, .ref h), (1, .int a1)]) hx hb dX8_leads_1 rfl hl (by decide) rfl (fun ls hl => ?_)
  refine lv_iconst (v := 0) hx hb dX8_leads_2 (by decide) ?_
  refine lv_istore_n (lv' := [(3, .int 0), (2, .int a1), (0, .ref h), (1, .int a1)]) hx hb dX8_leads_3 rfl hl (by decide) rfl (fun ls hl => ?_)
  exact fX8_leads_b4_w (l := l) X hr n _ _ _ _ _ _ _ _ w (lv_sub hl [2, 3, 1, 0] rfl) e0
set_option maxRecDepth 20000 in
theorem fX8_leads_met (l : Launch) (D : va_G) (y : ClassId) (h : Nat) (q : Nat → Nat) (sz n : Nat) (a1 : Int32) (I : Nat → Int32) (R : Nat → Nat → Int32) (z : Int32 × mSt) (e0 : fX8_leads n a1 I R = some z) : Met l yX8_leads wsX8_leads rmX8_leads (va_Pc [.ref h, .int a1] (mPre D y h q sz I R)) (mQi D y h q (mS y h q sz) z) 0 0 (mS y h q sz) := by
  refine Met.ofW (cc := cX8_leads) (maxL := 8) (ret := some .int) (by decide) rfl ?_
  intro p e s m args below meth c s₁ B hml hv
  obtain ⟨rfl, hsz, hP, hK, hD⟩ := hv
  subst hsz
  have hl := lv_entry ([.ref h, .int a1]) (n := 8) (Nat.le_of_ble_eq_true rfl)
  rw [lg_entry_eq]
  exact fX8_leads_w (s := s) ⟨⟨B.exec, B.bytes, hml, findClass_of_methodNamed B.named, atoms_spec (ws := wsX8_leads) B.pre⟩, fun _ h9 => List.mem_cons_of_mem _ (List.mem_append_right _ h9), hK⟩ ⟨B.returns, B.notSynchronized⟩ ⟨hP, mS_D hD, va_S.rf⟩ hl e0
def rmX8_goesRoundBy : Room := { frames := 2, cells := 0, slots := 0, locals := 48 }
def fX8_goesRoundBy_b16 (n : Nat) (k2 : Int32 → (Nat → Int32) → (Nat → Nat → Int32) → Option (Int32 × mSt)) : Nat → Int32 → Int32 → Int32 → (Nat → Int32) → (Nat → Nat → Int32) → Option (Int32 × mSt)
  | 0, _, _, _, _, _ => none
  | j + 1, a1, a2, a3, I, R =>
    if a2 = a3 then
      (fX8_isOf n a2 (4 + a1)).bind fun z2 =>
      if z2 = 0 then
        k2 (a1 + 1) I R
      else
        some (a1, I, R)
    else
      (fX8_leads n a2 I R).bind fun z5 =>
      fX8_goesRoundBy_b16 n k2 j a1 z5.1 a2 z5.2.1 z5.2.2
set_option maxRecDepth 20000 in
set_option maxHeartbeats 1000000 in
theorem fX8_goesRoundBy_b16_w {p : Program} {l : Launch} {e : Env} {s : State} {m : MethodId} {args : Array Value} {below : List Frame} {meth : Method} {c : Code} {D : va_G} {y : ClassId} {h : Nat} {q : Nat → Nat} {n : Nat} {z : Int32 × mSt} (X : mX p s m args c cX8_goesRoundBy 4 wsX8_goesRoundBy D y) (hr : meth.sig.returnType = some .int ∧ meth.locks = false) {k2 : Int32 → (Nat → Int32) → (Nat → Nat → Int32) → Option (Int32 × mSt)} (hk2 : ∀ (a1 : Int32) (I : Nat → Int32) (R : Nat → Nat → Int32) (H : Heap) (locs : List Loc) (ls : Array Slot), mH s D y h q H locs I R → lv_has ls 4 [(0, .ref h), (1, .int a1)] → k2 a1 I R = some z → W p l e rmX8_goesRoundBy s m args below meth c H locs 0 0 (MQ below (mQi D y h q (mS y h q s.heap.size) z) args s 0 0 (mS y h q s.heap.size)) (F0 m 2 ls [])) : ∀ (j : Nat) (a1 : Int32) (a2 : Int32) (a3 : Int32) (I : Nat → Int32) (R : Nat → Nat → Int32) (H : Heap) (locs : List Loc) (ls : Array Slot), mH s D y h q H locs I R → lv_has ls 4 [(0, .ref h), (1, .int a1), (2, .int a2), (3, .int a3)] → fX8_goesRoundBy_b16 n k2 j a1 a2 a3 I R = some z → W p l e rmX8_goesRoundBy s m args below meth c H locs 0 0 (MQ below (mQi D y h q (mS y h q s.heap.size) z) args s 0 0 (mS y h q s.heap.size)) (F0 m 16 ls []) := by
  have hx := X.1.1
  have hb := X.1.2.1
  intro j
  induction j with
  | zero =>
    intro a1 a2 a3 I R H locs ls w hl e0
    cases e0
  | succ j ih =>
    intro a1 a2 a3 I R H locs ls w hl e0
    rw [fX8_goesRoundBy_b16] at e0
    refine lv_iload_n hx hb dX8_goesRoundBy_16 rfl (lv_at hl 2 rfl) ?_
    refine lv_iload_n hx hb dX8_goesRoundBy_17 rfl (lv_at hl 3 rfl) ?_
    refine lv_icmp_eq (tgt := 32) hx hb dX8_goesRoundBy_18 (by decide) (fun c7 => ?_) (fun c7 => ?_)
    · have e0 := itp _ c7 e0
      refine lv_iload_n hx hb dX8_goesRoundBy_32 rfl (lv_at hl 2 rfl) ?_
      refine lv_iconst (v := 4) hx hb dX8_goesRoundBy_33 (by decide) ?_
      refine lv_iload_n hx hb dX8_goesRoundBy_34 rfl (lv_at hl 1 rfl) ?_
      refine lv_iadd hx hb dX8_goesRoundBy_35 ?_
      refine bd e0 (fun z2 e3 e0 => ?_)
      refine m_callsi X w (n := 2) (As := [.int a2, .int (4 + a1)]) (rest := []) (fX8_isOf_met l _ _ _ _ e3) gX8_goesRoundBy_X8_isOf rfl rfl rfl (by decide +kernel) ⟨Nat.le_of_ble_eq_true rfl, Nat.le_of_ble_eq_true rfl⟩ rfl hl.1 rfl (Nat.le_of_ble_eq_true rfl) dX8_goesRoundBy_36 (fun H locs w => ?_)
      refine lv_if_eq (tgt := 44) hx hb dX8_goesRoundBy_39 (by decide) (fun c4 => ?_) (fun c4 => ?_)
      · have e0 := itp _ c4 e0
        refine lv_iinc (v := (a1 + 1)) (lv' := [(1, .int (a1 + 1)), (0, .ref h), (2, .int a2), (3, .int a3)]) hx hb dX8_goesRoundBy_44 hl (k := 1) rfl rfl (by decide) rfl (fun ls hl => ?_)
        refine lv_goto (tgt := 2) hx hb dX8_goesRoundBy_47 (by decide) ?_
        exact hk2 _ _ _ _ _ _ w (lv_sub hl [1, 0] rfl) e0
      · have e0 := itn _ c4 e0
        refine lv_iload_n hx hb dX8_goesRoundBy_42 rfl (lv_at hl 1 rfl) ?_
        have e0 := Option.some.inj e0
        subst e0
        exact m_iret X w hr dX8_goesRoundBy_43
    · have e0 := itn _ c7 e0
      refine lv_iload_n hx hb dX8_goesRoundBy_21 rfl (lv_at hl 2 rfl) ?_
      refine lv_istore_n (lv' := [(3, .int a2), (0, .ref h), (1, .int a1), (2, .int a2)]) hx hb dX8_goesRoundBy_22 rfl hl (by decide) rfl (fun ls hl => ?_)
      refine lv_aload_n hx hb dX8_goesRoundBy_23 rfl (lv_at hl 1 rfl) ?_
      refine lv_iload_n hx hb dX8_goesRoundBy_24 rfl (lv_at hl 3 rfl) ?_
      refine bd e0 (fun z5 e6 e0 => ?_)
      refine m_calli X w (n := 1) (As := [.int a2]) (rest := []) (fX8_leads_met l _ _ _ _ _ _ _ _ _ _ e6) gX8_goesRoundBy_X8_leads rfl rfl rfl (by decide +kernel) ⟨Nat.le_of_ble_eq_true rfl, Nat.le_of_ble_eq_true rfl⟩ rfl hl.1 rfl (Nat.le_of_ble_eq_true rfl) dX8_goesRoundBy_25 (fun H locs w => ?_)
      refine lv_istore_n (lv' := [(2, .int z5.1), (3, .int a2), (0, .ref h), (1, .int a1)]) hx hb dX8_goesRoundBy_28 rfl hl (by decide) rfl (fun ls hl => ?_)
      refine lv_goto (tgt := 16) hx hb dX8_goesRoundBy_29 (by decide) ?_
      exact ih _ _ _ _ _ _ _ _ w (lv_sub hl [2, 3, 0, 1] rfl) e0
def fX8_goesRoundBy_b2 (n : Nat) : Nat → Int32 → (Nat → Int32) → (Nat → Nat → Int32) → Option (Int32 × mSt)
  | 0, _, _, _ => none
  | j + 1, a1, I, R =>
    if (I 5) ≤ a1 then
      some ((-9), I, R)
    else
      fX8_goesRoundBy_b16 n (fX8_goesRoundBy_b2 n j) n a1 (1 <<< (a1 &&& 31)) 0 I R
set_option maxRecDepth 20000 in
set_option maxHeartbeats 1000000 in
theorem fX8_goesRoundBy_b2_w {p : Program} {l : Launch} {e : Env} {s : State} {m : MethodId} {args : Array Value} {below : List Frame} {meth : Method} {c : Code} {D : va_G} {y : ClassId} {h : Nat} {q : Nat → Nat} {n : Nat} {z : Int32 × mSt} (X : mX p s m args c cX8_goesRoundBy 4 wsX8_goesRoundBy D y) (hr : meth.sig.returnType = some .int ∧ meth.locks = false) : ∀ (j : Nat) (a1 : Int32) (I : Nat → Int32) (R : Nat → Nat → Int32) (H : Heap) (locs : List Loc) (ls : Array Slot), mH s D y h q H locs I R → lv_has ls 4 [(0, .ref h), (1, .int a1)] → fX8_goesRoundBy_b2 n j a1 I R = some z → W p l e rmX8_goesRoundBy s m args below meth c H locs 0 0 (MQ below (mQi D y h q (mS y h q s.heap.size) z) args s 0 0 (mS y h q s.heap.size)) (F0 m 2 ls []) := by
  have hx := X.1.1
  have hb := X.1.2.1
  intro j
  induction j with
  | zero =>
    intro a1 I R H locs ls w hl e0
    cases e0
  | succ j ih =>
    intro a1 I R H locs ls w hl e0
    rw [fX8_goesRoundBy_b2] at e0
    refine lv_iload_n hx hb dX8_goesRoundBy_2 rfl (lv_at hl 1 rfl) ?_
    refine lv_aload_n hx hb dX8_goesRoundBy_3 rfl (lv_at hl 0 rfl) ?_
    refine m_get X w 5 (by decide) (index := 92) rfl (by decide +kernel) (mfi5 _ _) dX8_goesRoundBy_4 ?_
    refine lv_icmp_ge (tgt := 50) hx hb dX8_goesRoundBy_7 (by decide) (fun c1 => ?_) (fun c1 => ?_)
    · have e0 := itp _ c1 e0
      refine lv_bipush (v := (-9)) hx hb dX8_goesRoundBy_50 (by decide) ?_
      have e0 := Option.some.inj e0
      subst e0
      exact m_iret X w hr dX8_goesRoundBy_52
    · have e0 := itn _ c1 e0
      refine lv_iconst (v := 1) hx hb dX8_goesRoundBy_10 (by decide) ?_
      refine lv_iload_n hx hb dX8_goesRoundBy_11 rfl (lv_at hl 1 rfl) ?_
      refine lv_ishl hx hb dX8_goesRoundBy_12 ?_
      refine lv_istore_n (lv' := [(2, .int (1 <<< (a1 &&& 31))), (0, .ref h), (1, .int a1)]) hx hb dX8_goesRoundBy_13 rfl hl (by decide) rfl (fun ls hl => ?_)
      refine lv_iconst (v := 0) hx hb dX8_goesRoundBy_14 (by decide) ?_
      refine lv_istore_n (lv' := [(3, .int 0), (2, .int (1 <<< (a1 &&& 31))), (0, .ref h), (1, .int a1)]) hx hb dX8_goesRoundBy_15 rfl hl (by decide) rfl (fun ls hl => ?_)
      exact fX8_goesRoundBy_b16_w (l := l) X hr ih n _ _ _ _ _ _ _ _ w (lv_sub hl [2, 3, 1, 0] rfl) e0
def fX8_goesRoundBy (n : Nat) (I : Nat → Int32) (R : Nat → Nat → Int32) : Option (Int32 × mSt) :=
  fX8_goesRoundBy_b2 n n 0 I R
set_option maxRecDepth 20000 in
set_option maxHeartbeats 1000000 in
theorem fX8_goesRoundBy_w {p : Program} {l : Launch} {e : Env} {s : State} {m : MethodId} {args : Array Value} {below : List Frame} {meth : Method} {c : Code} {D : va_G} {y : ClassId} {h : Nat} {q : Nat → Nat} {n : Nat} {z : Int32 × mSt} (X : mX p s m args c cX8_goesRoundBy 4 wsX8_goesRoundBy D y) (hr : meth.sig.returnType = some .int ∧ meth.locks = false) {I : Nat → Int32} {R : Nat → Nat → Int32} {H : Heap} {locs : List Loc} {ls : Array Slot} (w : mH s D y h q H locs I R) (hl : lv_has ls 4 [(0, .ref h)]) (e0 : fX8_goesRoundBy n I R = some z) : W p l e rmX8_goesRoundBy s m args below meth c H locs 0 0 (MQ below (mQi D y h q (mS y h q s.heap.size) z) args s 0 0 (mS y h q s.heap.size)) (F0 m 0 ls []) := by
  have hx := X.1.1
  have hb := X.1.2.1
  unfold fX8_goesRoundBy at e0
  refine lv_iconst (v := 0) hx hb dX8_goesRoundBy_0 (by decide) ?_
  refine lv_istore_n (lv' := [(1, .int 0), (0, .ref h)]) hx hb dX8_goesRoundBy_1 rfl hl (by decide) rfl (fun ls hl => ?_)
  exact fX8_goesRoundBy_b2_w (l := l) X hr n _ _ _ _ _ _ w (lv_sub hl [1, 0] rfl) e0
set_option maxRecDepth 20000 in
theorem fX8_goesRoundBy_met (l : Launch) (D : va_G) (y : ClassId) (h : Nat) (q : Nat → Nat) (sz n : Nat) (I : Nat → Int32) (R : Nat → Nat → Int32) (z : Int32 × mSt) (e0 : fX8_goesRoundBy n I R = some z) : Met l yX8_goesRoundBy wsX8_goesRoundBy rmX8_goesRoundBy (va_Pc [.ref h] (mPre D y h q sz I R)) (mQi D y h q (mS y h q sz) z) 0 0 (mS y h q sz) := by
  refine Met.ofW (cc := cX8_goesRoundBy) (maxL := 4) (ret := some .int) (by decide) rfl ?_
  intro p e s m args below meth c s₁ B hml hv
  obtain ⟨rfl, hsz, hP, hK, hD⟩ := hv
  subst hsz
  have hl := lv_entry ([.ref h]) (n := 4) (Nat.le_of_ble_eq_true rfl)
  rw [lg_entry_eq]
  exact fX8_goesRoundBy_w (s := s) ⟨⟨B.exec, B.bytes, hml, findClass_of_methodNamed B.named, atoms_spec (ws := wsX8_goesRoundBy) B.pre⟩, fun _ h9 => List.mem_cons_of_mem _ (List.mem_append_right _ h9), hK⟩ ⟨B.returns, B.notSynchronized⟩ ⟨hP, mS_D hD, va_S.rf⟩ hl e0
def rmX8_putRulesBack : Room := { frames := 0, cells := 0, slots := 0, locals := 0 }
def fX8_putRulesBack_b2 (n : Nat) : Nat → Int32 → (Nat → Int32) → (Nat → Nat → Int32) → Option (mSt)
  | 0, _, _, _ => none
  | j + 1, a1, I, R =>
    if 5 ≤ a1 then
      some (I, R)
    else
      if inb (6 * a1) 30 = true then
      if inb a1 5 = true then
      if inb ((6 * a1) + 1) 30 = true then
      if inb a1 5 = true then
      if inb ((6 * a1) + 2) 30 = true then
      if inb a1 5 = true then
      if inb ((6 * a1) + 3) 30 = true then
      if inb a1 5 = true then
      if inb ((6 * a1) + 4) 30 = true then
      if inb a1 5 = true then
      if inb ((6 * a1) + 5) 30 = true then
      if inb a1 5 = true then
      fX8_putRulesBack_b2 n j (a1 + 1) I (setA (setA (setA (setA (setA (setA R 7 a1 (getA R 20 (6 * a1))) 8 a1 (getA (setA R 7 a1 (getA R 20 (6 * a1))) 20 ((6 * a1) + 1))) 9 a1 (getA (setA (setA R 7 a1 (getA R 20 (6 * a1))) 8 a1 (getA (setA R 7 a1 (getA R 20 (6 * a1))) 20 ((6 * a1) + 1))) 20 ((6 * a1) + 2))) 10 a1 (getA (setA (setA (setA R 7 a1 (getA R 20 (6 * a1))) 8 a1 (getA (setA R 7 a1 (getA R 20 (6 * a1))) 20 ((6 * a1) + 1))) 9 a1 (getA (setA (setA R 7 a1 (getA R 20 (6 * a1))) 8 a1 (getA (setA R 7 a1 (getA R 20 (6 * a1))) 20 ((6 * a1) + 1))) 20 ((6 * a1) + 2))) 20 ((6 * a1) + 3))) 11 a1 (getA (setA (setA (setA (setA R 7 a1 (getA R 20 (6 * a1))) 8 a1 (getA (setA R 7 a1 (getA R 20 (6 * a1))) 20 ((6 * a1) + 1))) 9 a1 (getA (setA (setA R 7 a1 (getA R 20 (6 * a1))) 8 a1 (getA (setA R 7 a1 (getA R 20 (6 * a1))) 20 ((6 * a1) + 1))) 20 ((6 * a1) + 2))) 10 a1 (getA (setA (setA (setA R 7 a1 (getA R 20 (6 * a1))) 8 a1 (getA (setA R 7 a1 (getA R 20 (6 * a1))) 20 ((6 * a1) + 1))) 9 a1 (getA (setA (setA R 7 a1 (getA R 20 (6 * a1))) 8 a1 (getA (setA R 7 a1 (getA R 20 (6 * a1))) 20 ((6 * a1) + 1))) 20 ((6 * a1) + 2))) 20 ((6 * a1) + 3))) 20 ((6 * a1) + 4))) 12 a1 (getA (setA (setA (setA (setA (setA R 7 a1 (getA R 20 (6 * a1))) 8 a1 (getA (setA R 7 a1 (getA R 20 (6 * a1))) 20 ((6 * a1) + 1))) 9 a1 (getA (setA (setA R 7 a1 (getA R 20 (6 * a1))) 8 a1 (getA (setA R 7 a1 (getA R 20 (6 * a1))) 20 ((6 * a1) + 1))) 20 ((6 * a1) + 2))) 10 a1 (getA (setA (setA (setA R 7 a1 (getA R 20 (6 * a1))) 8 a1 (getA (setA R 7 a1 (getA R 20 (6 * a1))) 20 ((6 * a1) + 1))) 9 a1 (getA (setA (setA R 7 a1 (getA R 20 (6 * a1))) 8 a1 (getA (setA R 7 a1 (getA R 20 (6 * a1))) 20 ((6 * a1) + 1))) 20 ((6 * a1) + 2))) 20 ((6 * a1) + 3))) 11 a1 (getA (setA (setA (setA (setA R 7 a1 (getA R 20 (6 * a1))) 8 a1 (getA (setA R 7 a1 (getA R 20 (6 * a1))) 20 ((6 * a1) + 1))) 9 a1 (getA (setA (setA R 7 a1 (getA R 20 (6 * a1))) 8 a1 (getA (setA R 7 a1 (getA R 20 (6 * a1))) 20 ((6 * a1) + 1))) 20 ((6 * a1) + 2))) 10 a1 (getA (setA (setA (setA R 7 a1 (getA R 20 (6 * a1))) 8 a1 (getA (setA R 7 a1 (getA R 20 (6 * a1))) 20 ((6 * a1) + 1))) 9 a1 (getA (setA (setA R 7 a1 (getA R 20 (6 * a1))) 8 a1 (getA (setA R 7 a1 (getA R 20 (6 * a1))) 20 ((6 * a1) + 1))) 20 ((6 * a1) + 2))) 20 ((6 * a1) + 3))) 20 ((6 * a1) + 4))) 20 ((6 * a1) + 5)))
      else none
      else none
      else none
      else none
      else none
      else none
      else none
      else none
      else none
      else none
      else none
      else none
set_option maxRecDepth 20000 in
set_option maxHeartbeats 1000000 in
theorem fX8_putRulesBack_b2_w {p : Program} {l : Launch} {e : Env} {s : State} {m : MethodId} {args : Array Value} {below : List Frame} {meth : Method} {c : Code} {D : va_G} {y : ClassId} {h : Nat} {q : Nat → Nat} {n : Nat} {z : mSt} (X : mX p s m args c cX8_putRulesBack 2 wsX8_putRulesBack D y) (hr : meth.sig.returnType = none ∧ meth.locks = false) : ∀ (j : Nat) (a1 : Int32) (I : Nat → Int32) (R : Nat → Nat → Int32) (H : Heap) (locs : List Loc) (ls : Array Slot), mH s D y h q H locs I R → lv_has ls 2 [(0, .ref h), (1, .int a1)] → fX8_putRulesBack_b2 n j a1 I R = some z → W p l e rmX8_putRulesBack s m args below meth c H locs 0 0 (MQ below (mQv D y h q (mS y h q s.heap.size) z) args s 0 0 (mS y h q s.heap.size)) (F0 m 2 ls []) := by
  have hx := X.1.1
  have hb := X.1.2.1
  intro j
  induction j with
  | zero =>
    intro a1 I R H locs ls w hl e0
    cases e0
  | succ j ih =>
    intro a1 I R H locs ls w hl e0
    rw [fX8_putRulesBack_b2] at e0
    refine lv_iload_n hx hb dX8_putRulesBack_2 rfl (lv_at hl 1 rfl) ?_
    refine lv_iconst (v := 5) hx hb dX8_putRulesBack_3 (by decide) ?_
    refine lv_icmp_ge (tgt := 113) hx hb dX8_putRulesBack_4 (by decide) (fun c13 => ?_) (fun c13 => ?_)
    · have e0 := itp _ c13 e0
      have e0 := Option.some.inj e0
      subst e0
      exact m_vret X w hr dX8_putRulesBack_113
    · have e0 := itn _ c13 e0
      refine lv_aload_n hx hb dX8_putRulesBack_7 rfl (lv_at hl 0 rfl) ?_
      refine m_get X w 7 (by decide) (index := 19) rfl (by decide +kernel) (mfr7 _ _) dX8_putRulesBack_8 ?_
      refine lv_iload_n hx hb dX8_putRulesBack_11 rfl (lv_at hl 1 rfl) ?_
      refine lv_aload_n hx hb dX8_putRulesBack_12 rfl (lv_at hl 0 rfl) ?_
      refine m_get X w 20 (by decide) (index := 46) rfl (by decide +kernel) (mfr20 _ _) dX8_putRulesBack_13 ?_
      refine lv_bipush (v := 6) hx hb dX8_putRulesBack_16 (by decide) ?_
      refine lv_iload_n hx hb dX8_putRulesBack_18 rfl (lv_at hl 1 rfl) ?_
      refine lv_imul hx hb dX8_putRulesBack_19 ?_
      refine gd e0 (fun g1 e0 => ?_)
      refine m_ald X w 13 20 (mat20 _ _ _ _ _) g1 dX8_putRulesBack_20 ?_
      refine gd e0 (fun g2 e0 => ?_)
      refine m_ast X w 4 7 (mat7 _ _ _ _ _) (mset7 _ _ _ _ _) g2 dX8_putRulesBack_21 (fun H locs w => ?_)
      refine lv_aload_n hx hb dX8_putRulesBack_22 rfl (lv_at hl 0 rfl) ?_
      refine m_get X w 8 (by decide) (index := 22) rfl (by decide +kernel) (mfr8 _ _) dX8_putRulesBack_23 ?_
      refine lv_iload_n hx hb dX8_putRulesBack_26 rfl (lv_at hl 1 rfl) ?_
      refine lv_aload_n hx hb dX8_putRulesBack_27 rfl (lv_at hl 0 rfl) ?_
      refine m_get X w 20 (by decide) (index := 46) rfl (by decide +kernel) (mfr20 _ _) dX8_putRulesBack_28 ?_
      refine lv_bipush (v := 6) hx hb dX8_putRulesBack_31 (by decide) ?_
      refine lv_iload_n hx hb dX8_putRulesBack_33 rfl (lv_at hl 1 rfl) ?_
      refine lv_imul hx hb dX8_putRulesBack_34 ?_
      refine lv_iconst (v := 1) hx hb dX8_putRulesBack_35 (by decide) ?_
      refine lv_iadd hx hb dX8_putRulesBack_36 ?_
      refine gd e0 (fun g3 e0 => ?_)
      refine m_ald X w 13 20 (mat20 _ _ _ _ _) g3 dX8_putRulesBack_37 ?_
      refine gd e0 (fun g4 e0 => ?_)
      refine m_ast X w 5 8 (mat8 _ _ _ _ _) (mset8 _ _ _ _ _) g4 dX8_putRulesBack_38 (fun H locs w => ?_)
      refine lv_aload_n hx hb dX8_putRulesBack_39 rfl (lv_at hl 0 rfl) ?_
      refine m_get X w 9 (by decide) (index := 25) rfl (by decide +kernel) (mfr9 _ _) dX8_putRulesBack_40 ?_
      refine lv_iload_n hx hb dX8_putRulesBack_43 rfl (lv_at hl 1 rfl) ?_
      refine lv_aload_n hx hb dX8_putRulesBack_44 rfl (lv_at hl 0 rfl) ?_
      refine m_get X w 20 (by decide) (index := 46) rfl (by decide +kernel) (mfr20 _ _) dX8_putRulesBack_45 ?_
      refine lv_bipush (v := 6) hx hb dX8_putRulesBack_48 (by decide) ?_
      refine lv_iload_n hx hb dX8_putRulesBack_50 rfl (lv_at hl 1 rfl) ?_
      refine lv_imul hx hb dX8_putRulesBack_51 ?_
      refine lv_iconst (v := 2) hx hb dX8_putRulesBack_52 (by decide) ?_
      refine lv_iadd hx hb dX8_putRulesBack_53 ?_
      refine gd e0 (fun g5 e0 => ?_)
      refine m_ald X w 13 20 (mat20 _ _ _ _ _) g5 dX8_putRulesBack_54 ?_
      refine gd e0 (fun g6 e0 => ?_)
      refine m_ast X w 6 9 (mat9 _ _ _ _ _) (mset9 _ _ _ _ _) g6 dX8_putRulesBack_55 (fun H locs w => ?_)
      refine lv_aload_n hx hb dX8_putRulesBack_56 rfl (lv_at hl 0 rfl) ?_
      refine m_get X w 10 (by decide) (index := 28) rfl (by decide +kernel) (mfr10 _ _) dX8_putRulesBack_57 ?_
      refine lv_iload_n hx hb dX8_putRulesBack_60 rfl (lv_at hl 1 rfl) ?_
      refine lv_aload_n hx hb dX8_putRulesBack_61 rfl (lv_at hl 0 rfl) ?_
      refine m_get X w 20 (by decide) (index := 46) rfl (by decide +kernel) (mfr20 _ _) dX8_putRulesBack_62 ?_
      refine lv_bipush (v := 6) hx hb dX8_putRulesBack_65 (by decide) ?_
      refine lv_iload_n hx hb dX8_putRulesBack_67 rfl (lv_at hl 1 rfl) ?_
      refine lv_imul hx hb dX8_putRulesBack_68 ?_
      refine lv_iconst (v := 3) hx hb dX8_putRulesBack_69 (by decide) ?_
      refine lv_iadd hx hb dX8_putRulesBack_70 ?_
      refine gd e0 (fun g7 e0 => ?_)
      refine m_ald X w 13 20 (mat20 _ _ _ _ _) g7 dX8_putRulesBack_71 ?_
      refine gd e0 (fun g8 e0 => ?_)
      refine m_ast X w 7 10 (mat10 _ _ _ _ _) (mset10 _ _ _ _ _) g8 dX8_putRulesBack_72 (fun H locs w => ?_)
      refine lv_aload_n hx hb dX8_putRulesBack_73 rfl (lv_at hl 0 rfl) ?_
      refine m_get X w 11 (by decide) (index := 31) rfl (by decide +kernel) (mfr11 _ _) dX8_putRulesBack_74 ?_
      refine lv_iload_n hx hb dX8_putRulesBack_77 rfl (lv_at hl 1 rfl) ?_
      refine lv_aload_n hx hb dX8_putRulesBack_78 rfl (lv_at hl 0 rfl) ?_
      refine m_get X w 20 (by decide) (index := 46) rfl (by decide +kernel) (mfr20 _ _) dX8_putRulesBack_79 ?_
      refine lv_bipush (v := 6) hx hb dX8_putRulesBack_82 (by decide) ?_
      refine lv_iload_n hx hb dX8_putRulesBack_84 rfl (lv_at hl 1 rfl) ?_
      refine lv_imul hx hb dX8_putRulesBack_85 ?_
      refine lv_iconst (v := 4) hx hb dX8_putRulesBack_86 (by decide) ?_
      refine lv_iadd hx hb dX8_putRulesBack_87 ?_
      refine gd e0 (fun g9 e0 => ?_)
      refine m_ald X w 13 20 (mat20 _ _ _ _ _) g9 dX8_putRulesBack_88 ?_
      refine gd e0 (fun g10 e0 => ?_)
      refine m_ast X w 8 11 (mat11 _ _ _ _ _) (mset11 _ _ _ _ _) g10 dX8_putRulesBack_89 (fun H locs w => ?_)
      refine lv_aload_n hx hb dX8_putRulesBack_90 rfl (lv_at hl 0 rfl) ?_
      refine m_get X w 12 (by decide) (index := 34) rfl (by decide +kernel) (mfr12 _ _) dX8_putRulesBack_91 ?_
      refine lv_iload_n hx hb dX8_putRulesBack_94 rfl (lv_at hl 1 rfl) ?_
      refine lv_aload_n hx hb dX8_putRulesBack_95 rfl (lv_at hl 0 rfl) ?_
      refine m_get X w 20 (by decide) (index := 46) rfl (by decide +kernel) (mfr20 _ _) dX8_putRulesBack_96 ?_
      refine lv_bipush (v := 6) hx hb dX8_putRulesBack_99 (by decide) ?_
      refine lv_iload_n hx hb dX8_putRulesBack_101 rfl (lv_at hl 1 rfl) ?_
      refine lv_imul hx hb dX8_putRulesBack_102 ?_
      refine lv_iconst (v := 5) hx hb dX8_putRulesBack_103 (by decide) ?_
      refine lv_iadd hx hb dX8_putRulesBack_104 ?_
      refine gd e0 (fun g11 e0 => ?_)
      refine m_ald X w 13 20 (mat20 _ _ _ _ _) g11 dX8_putRulesBack_105 ?_
      refine gd e0 (fun g12 e0 => ?_)
      refine m_ast X w 9 12 (mat12 _ _ _ _ _) (mset12 _ _ _ _ _) g12 dX8_putRulesBack_106 (fun H locs w => ?_)
      refine lv_iinc (v := (a1 + 1)) (lv' := [(1, .int (a1 + 1)), (0, .ref h)]) hx hb dX8_putRulesBack_107 hl (k := 1) rfl rfl (by decide) rfl (fun ls hl => ?_)
      refine lv_goto (tgt := 2) hx hb dX8_putRulesBack_110 (by decide) ?_
      exact ih _ _ _ _ _ _ w (lv_sub hl [1, 0] rfl) e0
def fX8_putRulesBack (n : Nat) (I : Nat → Int32) (R : Nat → Nat → Int32) : Option (mSt) :=
  fX8_putRulesBack_b2 n n 0 I R
set_option maxRecDepth 20000 in
set_option maxHeartbeats 1000000 in
theorem fX8_putRulesBack_w {p : Program} {l : Launch} {e : Env} {s : State} {m : MethodId} {args : Array Value} {below : List Frame} {meth : Method} {c : Code} {D : va_G} {y : ClassId} {h : Nat} {q : Nat → Nat} {n : Nat} {z : mSt} (X : mX p s m args c cX8_putRulesBack 2 wsX8_putRulesBack D y) (hr : meth.sig.returnType = none ∧ meth.locks = false) {I : Nat → Int32} {R : Nat → Nat → Int32} {H : Heap} {locs : List Loc} {ls : Array Slot} (w : mH s D y h q H locs I R) (hl : lv_has ls 2 [(0, .ref h)]) (e0 : fX8_putRulesBack n I R = some z) : W p l e rmX8_putRulesBack s m args below meth c H locs 0 0 (MQ below (mQv D y h q (mS y h q s.heap.size) z) args s 0 0 (mS y h q s.heap.size)) (F0 m 0 ls []) := by
  have hx := X.1.1
  have hb := X.1.2.1
  unfold fX8_putRulesBack at e0
  refine lv_iconst (v := 0) hx hb dX8_putRulesBack_0 (by decide) ?_
  refine lv_istore_n (lv' := [(1, .int 0), (0, .ref h)]) hx hb dX8_putRulesBack_1 rfl hl (by decide) rfl (fun ls hl => ?_)
  exact fX8_putRulesBack_b2_w (l := l) X hr n _ _ _ _ _ _ w (lv_sub hl [1, 0] rfl) e0
set_option maxRecDepth 20000 in
theorem fX8_putRulesBack_met (l : Launch) (D : va_G) (y : ClassId) (h : Nat) (q : Nat → Nat) (sz n : Nat) (I : Nat → Int32) (R : Nat → Nat → Int32) (z : mSt) (e0 : fX8_putRulesBack n I R = some z) : Met l yX8_putRulesBack wsX8_putRulesBack rmX8_putRulesBack (va_Pc [.ref h] (mPre D y h q sz I R)) (mQv D y h q (mS y h q sz) z) 0 0 (mS y h q sz) := by
  refine Met.ofW (cc := cX8_putRulesBack) (maxL := 2) (ret := none) (by decide) rfl ?_
  intro p e s m args below meth c s₁ B hml hv
  obtain ⟨rfl, hsz, hP, hK, hD⟩ := hv
  subst hsz
  have hl := lv_entry ([.ref h]) (n := 2) (Nat.le_of_ble_eq_true rfl)
  rw [lg_entry_eq]
  exact fX8_putRulesBack_w (s := s) ⟨⟨B.exec, B.bytes, hml, findClass_of_methodNamed B.named, atoms_spec (ws := wsX8_putRulesBack) B.pre⟩, fun _ h9 => List.mem_cons_of_mem _ (List.mem_append_right _ h9), hK⟩ ⟨B.returns, B.notSynchronized⟩ ⟨hP, mS_D hD, va_S.rf⟩ hl e0
def rmX8_program : Room := { frames := 4, cells := 0, slots := 0, locals := 91 }
def fX8_program_b167 (n : Nat) : Nat → Int32 → (Nat → Int32) → (Nat → Nat → Int32) → Option (Int32 × mSt)
  | 0, _, _, _ => none
  | j + 1, a10, I, R =>
    if (I 17) ≤ a10 then
      some (((upd I 31 0) 6), (upd I 31 0), R)
    else
      if inb a10 5 = true then
      if inb (getA R 19 a10) 64 = true then
      fX8_program_b167 n j (a10 + 1) I (setA R 13 (getA R 19 a10) 1)
      else none
      else none
set_option maxRecDepth 20000 in
set_option maxHeartbeats 1000000 in
theorem fX8_program_b167_w {p : Program} {l : Launch} {e : Env} {s : State} {m : MethodId} {args : Array Value} {below : List Frame} {meth : Method} {c : Code} {D : va_G} {y : ClassId} {h : Nat} {q : Nat → Nat} {n : Nat} {z : Int32 × mSt} (X : mX p s m args c cX8_program 11 wsX8_program D y) (hr : meth.sig.returnType = some .int ∧ meth.locks = false) : ∀ (j : Nat) (a10 : Int32) (I : Nat → Int32) (R : Nat → Nat → Int32) (H : Heap) (locs : List Loc) (ls : Array Slot), mH s D y h q H locs I R → lv_has ls 11 [(0, .ref h), (10, .int a10)] → fX8_program_b167 n j a10 I R = some z → W p l e rmX8_program s m args below meth c H locs 0 0 (MQ below (mQi D y h q (mS y h q s.heap.size) z) args s 0 0 (mS y h q s.heap.size)) (F0 m 167 ls []) := by
  have hx := X.1.1
  have hb := X.1.2.1
  intro j
  induction j with
  | zero =>
    intro a10 I R H locs ls w hl e0
    cases e0
  | succ j ih =>
    intro a10 I R H locs ls w hl e0
    rw [fX8_program_b167] at e0
    refine lv_iload hx hb dX8_program_167 (lv_at hl 1 rfl) ?_
    refine lv_aload_n hx hb dX8_program_169 rfl (lv_at hl 0 rfl) ?_
    refine m_get X w 17 (by decide) (index := 132) rfl (by decide +kernel) (mfi17 _ _) dX8_program_170 ?_
    refine lv_icmp_ge (tgt := 195) hx hb dX8_program_173 (by decide) (fun c28 => ?_) (fun c28 => ?_)
    · have e0 := itp _ c28 e0
      refine lv_aload_n hx hb dX8_program_195 rfl (lv_at hl 0 rfl) ?_
      refine lv_iconst (v := 0) hx hb dX8_program_196 (by decide) ?_
      refine m_put X w 31 (by decide) (index := 135) rfl rfl (by decide +kernel) (by decide +kernel) (mps31 _ _ _) dX8_program_197 (fun H locs w => ?_)
      refine lv_aload_n hx hb dX8_program_200 rfl (lv_at hl 0 rfl) ?_
      refine m_get X w 6 (by decide) (index := 95) rfl (by decide +kernel) (mfi6 _ _) dX8_program_201 ?_
      have e0 := Option.some.inj e0
      subst e0
      exact m_iret X w hr dX8_program_204
    · have e0 := itn _ c28 e0
      refine lv_aload_n hx hb dX8_program_176 rfl (lv_at hl 0 rfl) ?_
      refine m_get X w 13 (by decide) (index := 37) rfl (by decide +kernel) (mfr13 _ _) dX8_program_177 ?_
      refine lv_aload_n hx hb dX8_program_180 rfl (lv_at hl 0 rfl) ?_
      refine m_get X w 19 (by decide) (index := 43) rfl (by decide +kernel) (mfr19 _ _) dX8_program_181 ?_
      refine lv_iload hx hb dX8_program_184 (lv_at hl 1 rfl) ?_
      refine gd e0 (fun g26 e0 => ?_)
      refine m_ald X w 12 19 (mat19 _ _ _ _ _) g26 dX8_program_186 ?_
      refine lv_iconst (v := 1) hx hb dX8_program_187 (by decide) ?_
      refine gd e0 (fun g27 e0 => ?_)
      refine m_ast X w 10 13 (mat13 _ _ _ _ _) (mset13 _ _ _ _ _) g27 dX8_program_188 (fun H locs w => ?_)
      refine lv_iinc (v := (a10 + 1)) (lv' := [(10, .int (a10 + 1)), (0, .ref h)]) hx hb dX8_program_189 hl (k := 1) rfl rfl (by decide) rfl (fun ls hl => ?_)
      refine lv_goto (tgt := 167) hx hb dX8_program_192 (by decide) ?_
      exact ih _ _ _ _ _ _ w (lv_sub hl [1, 0] rfl) e0
def fX8_program_b143 (n : Nat) : Nat → Int32 → (Nat → Int32) → (Nat → Nat → Int32) → Option (Int32 × mSt)
  | 0, _, _, _ => none
  | j + 1, a10, I, R =>
    if 64 ≤ a10 then
      fX8_program_b167 n n 0 I R
    else
      if inb a10 64 = true then
      fX8_program_b143 n j (a10 + 1) I (setA R 13 a10 0)
      else none
set_option maxRecDepth 20000 in
set_option maxHeartbeats 1000000 in
theorem fX8_program_b143_w {p : Program} {l : Launch} {e : Env} {s : State} {m : MethodId} {args : Array Value} {below : List Frame} {meth : Method} {c : Code} {D : va_G} {y : ClassId} {h : Nat} {q : Nat → Nat} {n : Nat} {z : Int32 × mSt} (X : mX p s m args c cX8_program 11 wsX8_program D y) (hr : meth.sig.returnType = some .int ∧ meth.locks = false) : ∀ (j : Nat) (a10 : Int32) (I : Nat → Int32) (R : Nat → Nat → Int32) (H : Heap) (locs : List Loc) (ls : Array Slot), mH s D y h q H locs I R → lv_has ls 11 [(0, .ref h), (10, .int a10)] → fX8_program_b143 n j a10 I R = some z → W p l e rmX8_program s m args below meth c H locs 0 0 (MQ below (mQi D y h q (mS y h q s.heap.size) z) args s 0 0 (mS y h q s.heap.size)) (F0 m 143 ls []) := by
  have hx := X.1.1
  have hb := X.1.2.1
  intro j
  induction j with
  | zero =>
    intro a10 I R H locs ls w hl e0
    cases e0
  | succ j ih =>
    intro a10 I R H locs ls w hl e0
    rw [fX8_program_b143] at e0
    refine lv_iload hx hb dX8_program_143 (lv_at hl 1 rfl) ?_
    refine lv_bipush (v := 64) hx hb dX8_program_145 (by decide) ?_
    refine lv_icmp_ge (tgt := 164) hx hb dX8_program_147 (by decide) (fun c25 => ?_) (fun c25 => ?_)
    · have e0 := itp _ c25 e0
      refine lv_iconst (v := 0) hx hb dX8_program_164 (by decide) ?_
      refine lv_istore (lv' := [(10, .int 0), (0, .ref h)]) hx hb dX8_program_165 hl (by decide) rfl (fun ls hl => ?_)
      exact fX8_program_b167_w (l := l) X hr n _ _ _ _ _ _ w (lv_sub hl [1, 0] rfl) e0
    · have e0 := itn _ c25 e0
      refine lv_aload_n hx hb dX8_program_150 rfl (lv_at hl 0 rfl) ?_
      refine m_get X w 13 (by decide) (index := 37) rfl (by decide +kernel) (mfr13 _ _) dX8_program_151 ?_
      refine lv_iload hx hb dX8_program_154 (lv_at hl 1 rfl) ?_
      refine lv_iconst (v := 0) hx hb dX8_program_156 (by decide) ?_
      refine gd e0 (fun g24 e0 => ?_)
      refine m_ast X w 10 13 (mat13 _ _ _ _ _) (mset13 _ _ _ _ _) g24 dX8_program_157 (fun H locs w => ?_)
      refine lv_iinc (v := (a10 + 1)) (lv' := [(10, .int (a10 + 1)), (0, .ref h)]) hx hb dX8_program_158 hl (k := 1) rfl rfl (by decide) rfl (fun ls hl => ?_)
      refine lv_goto (tgt := 143) hx hb dX8_program_161 (by decide) ?_
      exact ih _ _ _ _ _ _ w (lv_sub hl [1, 0] rfl) e0
def fX8_program (n : Nat) (a1 : Int32) (a2 : Int32) (a3 : Int32) (a4 : Int32) (I : Nat → Int32) (R : Nat → Nat → Int32) : Option (Int32 × mSt) :=
  (fX8_isSheet n a1).bind fun z1 =>
  if z1 = 0 then
    some ((-1), (upd I 0 0), R)
  else
    (fX8_isSort n a2).bind fun z3 =>
    if z3 = 0 then
      some ((-2), (upd I 0 0), R)
    else
      (fX8_against n a1 a2 a3 a4 (upd I 0 0) R).bind fun z5 =>
      if z5.1 = 0 then
        (fX8_readAll n (((60 * a1) + a3) + a4) (upd z5.2.1 14 ((60 * a1) + a3)) z5.2.2).bind fun z7 =>
        if z7.1 = 0 then
          some (((-100) - ((z7.2.1 14) - ((60 * a1) + a3))), z7.2.1, z7.2.2)
        else
          (fX8_keepRules n z7.2.1 z7.2.2).bind fun z9 =>
          (fX8_takeRules n z9.1 z9.2).bind fun z11 =>
          (fX8_goesRoundBy n z11.1 z11.2).bind fun z13 =>
          if z13.1 = (-9) then
            fX8_program_b143 n n 0 z13.2.1 z13.2.2
          else
            (fX8_putRulesBack n (upd (upd z13.2.1 5 (z7.2.1 5)) 6 (z7.2.1 6)) z13.2.2).bind fun z15 =>
            some (((-200) - z13.1), z15.1, z15.2)
      else
        (fX8_fails n z5.1 z5.2.1 z5.2.2).bind fun z19 =>
        some (z19.1, z19.2.1, z19.2.2)
set_option maxRecDepth 20000 in
set_option maxHeartbeats 1000000 in
theorem fX8_program_w {p : Program} {l : Launch} {e : Env} {s : State} {m : MethodId} {args : Array Value} {below : List Frame} {meth : Method} {c : Code} {D : va_G} {y : ClassId} {h : Nat} {q : Nat → Nat} {n : Nat} {z : Int32 × mSt} (X : mX p s m args c cX8_program 11 wsX8_program D y) (hr : meth.sig.returnType = some .int ∧ meth.locks = false) {a1 : Int32} {a2 : Int32} {a3 : Int32} {a4 : Int32} {I : Nat → Int32} {R : Nat → Nat → Int32} {H : Heap} {locs : List Loc} {ls : Array Slot} (w : mH s D y h q H locs I R) (hl : lv_has ls 11 [(0, .ref h), (1, .int a1), (2, .int a2), (3, .int a3), (4, .int a4)]) (e0 : fX8_program n a1 a2 a3 a4 I R = some z) : W p l e rmX8_program s m args below meth c H locs 0 0 (MQ below (mQi D y h q (mS y h q s.heap.size) z) args s 0 0 (mS y h q s.heap.size)) (F0 m 0 ls []) := by
  have hx := X.1.1
  have hb := X.1.2.1
  unfold fX8_program at e0
  refine lv_aload_n hx hb dX8_program_0 rfl (lv_at hl 0 rfl) ?_
  refine lv_iconst (v := 0) hx hb dX8_program_1 (by decide) ?_
  refine m_put X w 0 (by decide) (index := 82) rfl rfl (by decide +kernel) (by decide +kernel) (mps0 _ _ _) dX8_program_2 (fun H locs w => ?_)
  refine lv_iload_n hx hb dX8_program_5 rfl (lv_at hl 1 rfl) ?_
  refine bd e0 (fun z1 e2 e0 => ?_)
  refine m_callsi X w (n := 1) (As := [.int a1]) (rest := []) (fX8_isSheet_met l _ _ _ e2) gX8_program_X8_isSheet rfl rfl rfl (by decide +kernel) ⟨Nat.le_of_ble_eq_true rfl, Nat.le_of_ble_eq_true rfl⟩ rfl hl.1 rfl (Nat.le_of_ble_eq_true rfl) dX8_program_6 (fun H locs w => ?_)
  refine lv_if_ne (tgt := 14) hx hb dX8_program_9 (by decide) (fun c23 => ?_) (fun c23 => ?_)
  · have e0 := itn _ c23 e0
    refine lv_iload_n hx hb dX8_program_14 rfl (lv_at hl 2 rfl) ?_
    refine bd e0 (fun z3 e4 e0 => ?_)
    refine m_callsi X w (n := 1) (As := [.int a2]) (rest := []) (fX8_isSort_met l _ _ _ e4) gX8_program_X8_isSort rfl rfl rfl (by decide +kernel) ⟨Nat.le_of_ble_eq_true rfl, Nat.le_of_ble_eq_true rfl⟩ rfl hl.1 rfl (Nat.le_of_ble_eq_true rfl) dX8_program_15 (fun H locs w => ?_)
    refine lv_if_ne (tgt := 24) hx hb dX8_program_18 (by decide) (fun c22 => ?_) (fun c22 => ?_)
    · have e0 := itn _ c22 e0
      refine lv_aload_n hx hb dX8_program_24 rfl (lv_at hl 0 rfl) ?_
      refine lv_iload_n hx hb dX8_program_25 rfl (lv_at hl 1 rfl) ?_
      refine lv_iload_n hx hb dX8_program_26 rfl (lv_at hl 2 rfl) ?_
      refine lv_iload_n hx hb dX8_program_27 rfl (lv_at hl 3 rfl) ?_
      refine lv_iload hx hb dX8_program_28 (lv_at hl 4 rfl) ?_
      refine bd e0 (fun z5 e6 e0 => ?_)
      refine m_calli X w (n := 4) (As := [.int a1, .int a2, .int a3, .int a4]) (rest := []) (fX8_against_met l _ _ _ _ _ _ _ _ _ _ _ _ _ e6) gX8_program_X8_against rfl rfl rfl (by decide +kernel) ⟨Nat.le_of_ble_eq_true rfl, Nat.le_of_ble_eq_true rfl⟩ rfl hl.1 rfl (Nat.le_of_ble_eq_true rfl) dX8_program_30 (fun H locs w => ?_)
      refine lv_istore (lv' := [(5, .int z5.1), (0, .ref h), (1, .int a1), (2, .int a2), (3, .int a3), (4, .int a4)]) hx hb dX8_program_33 hl (by decide) rfl (fun ls hl => ?_)
      refine lv_iload hx hb dX8_program_35 (lv_at hl 0 rfl) ?_
      refine lv_if_eq (tgt := 47) hx hb dX8_program_37 (by decide) (fun c21 => ?_) (fun c21 => ?_)
      · have e0 := itp _ c21 e0
        refine lv_bipush (v := 60) hx hb dX8_program_47 (by decide) ?_
        refine lv_iload_n hx hb dX8_program_49 rfl (lv_at hl 2 rfl) ?_
        refine lv_imul hx hb dX8_program_50 ?_
        refine lv_iload_n hx hb dX8_program_51 rfl (lv_at hl 4 rfl) ?_
        refine lv_iadd hx hb dX8_program_52 ?_
        refine lv_istore (lv' := [(6, .int ((60 * a1) + a3)), (5, .int z5.1), (0, .ref h), (1, .int a1), (2, .int a2), (3, .int a3), (4, .int a4)]) hx hb dX8_program_53 hl (by decide) rfl (fun ls hl => ?_)
        refine lv_aload_n hx hb dX8_program_55 rfl (lv_at hl 2 rfl) ?_
        refine lv_iload hx hb dX8_program_56 (lv_at hl 0 rfl) ?_
        refine m_put X w 14 (by decide) (index := 98) rfl rfl (by decide +kernel) (by decide +kernel) (mps14 _ _ _) dX8_program_58 (fun H locs w => ?_)
        refine lv_aload_n hx hb dX8_program_61 rfl (lv_at hl 2 rfl) ?_
        refine lv_iload hx hb dX8_program_62 (lv_at hl 0 rfl) ?_
        refine lv_iload hx hb dX8_program_64 (lv_at hl 6 rfl) ?_
        refine lv_iadd hx hb dX8_program_66 ?_
        refine bd e0 (fun z7 e8 e0 => ?_)
        refine m_calli X w (n := 1) (As := [.int (((60 * a1) + a3) + a4)]) (rest := []) (fX8_readAll_met l _ _ _ _ _ _ _ _ _ _ e8) gX8_program_X8_readAll rfl rfl rfl (by decide +kernel) ⟨Nat.le_of_ble_eq_true rfl, Nat.le_of_ble_eq_true rfl⟩ rfl hl.1 rfl (Nat.le_of_ble_eq_true rfl) dX8_program_67 (fun H locs w => ?_)
        refine lv_if_ne (tgt := 84) hx hb dX8_program_70 (by decide) (fun c18 => ?_) (fun c18 => ?_)
        · have e0 := itn _ c18 e0
          refine lv_aload_n hx hb dX8_program_84 rfl (lv_at hl 2 rfl) ?_
          refine m_get X w 5 (by decide) (index := 92) rfl (by decide +kernel) (mfi5 _ _) dX8_program_85 ?_
          refine lv_istore (lv' := [(7, .int (z7.2.1 5)), (6, .int ((60 * a1) + a3)), (5, .int z5.1), (0, .ref h), (1, .int a1), (2, .int a2), (3, .int a3), (4, .int a4)]) hx hb dX8_program_88 hl (by decide) rfl (fun ls hl => ?_)
          refine lv_aload_n hx hb dX8_program_90 rfl (lv_at hl 3 rfl) ?_
          refine m_get X w 6 (by decide) (index := 95) rfl (by decide +kernel) (mfi6 _ _) dX8_program_91 ?_
          refine lv_istore (lv' := [(8, .int (z7.2.1 6)), (7, .int (z7.2.1 5)), (6, .int ((60 * a1) + a3)), (5, .int z5.1), (0, .ref h), (1, .int a1), (2, .int a2), (3, .int a3), (4, .int a4)]) hx hb dX8_program_94 hl (by decide) rfl (fun ls hl => ?_)
          refine lv_aload_n hx hb dX8_program_96 rfl (lv_at hl 4 rfl) ?_
          refine bd e0 (fun z9 e10 e0 => ?_)
          refine m_callv X w (n := 0) (As := []) (rest := []) (fX8_keepRules_met l _ _ _ _ _ _  _ _ _ e10) gX8_program_X8_keepRules rfl rfl rfl (by decide +kernel) ⟨Nat.le_of_ble_eq_true rfl, Nat.le_of_ble_eq_true rfl⟩ rfl hl.1 rfl (Nat.le_of_ble_eq_true rfl) dX8_program_97 (fun H locs w => ?_)
          refine lv_aload_n hx hb dX8_program_100 rfl (lv_at hl 4 rfl) ?_
          refine bd e0 (fun z11 e12 e0 => ?_)
          refine m_callv X w (n := 0) (As := []) (rest := []) (fX8_takeRules_met l _ _ _ _ _ _  _ _ _ e12) gX8_program_X8_takeRules rfl rfl rfl (by decide +kernel) ⟨Nat.le_of_ble_eq_true rfl, Nat.le_of_ble_eq_true rfl⟩ rfl hl.1 rfl (Nat.le_of_ble_eq_true rfl) dX8_program_101 (fun H locs w => ?_)
          refine lv_aload_n hx hb dX8_program_104 rfl (lv_at hl 4 rfl) ?_
          refine bd e0 (fun z13 e14 e0 => ?_)
          refine m_calli X w (n := 0) (As := []) (rest := []) (fX8_goesRoundBy_met l _ _ _ _ _ _  _ _ _ e14) gX8_program_X8_goesRoundBy rfl rfl rfl (by decide +kernel) ⟨Nat.le_of_ble_eq_true rfl, Nat.le_of_ble_eq_true rfl⟩ rfl hl.1 rfl (Nat.le_of_ble_eq_true rfl) dX8_program_105 (fun H locs w => ?_)
          refine lv_istore (lv' := [(9, .int z13.1), (8, .int (z7.2.1 6)), (7, .int (z7.2.1 5)), (6, .int ((60 * a1) + a3)), (5, .int z5.1), (0, .ref h), (1, .int a1), (2, .int a2), (3, .int a3), (4, .int a4)]) hx hb dX8_program_108 hl (by decide) rfl (fun ls hl => ?_)
          refine lv_iload hx hb dX8_program_110 (lv_at hl 0 rfl) ?_
          refine lv_bipush (v := (-9)) hx hb dX8_program_112 (by decide) ?_
          refine lv_icmp_eq (tgt := 140) hx hb dX8_program_114 (by decide) (fun c17 => ?_) (fun c17 => ?_)
          · have e0 := itp _ c17 e0
            refine lv_iconst (v := 0) hx hb dX8_program_140 (by decide) ?_
            refine lv_istore (lv' := [(10, .int 0), (9, .int z13.1), (8, .int (z7.2.1 6)), (7, .int (z7.2.1 5)), (6, .int ((60 * a1) + a3)), (5, .int z5.1), (0, .ref h), (1, .int a1), (2, .int a2), (3, .int a3), (4, .int a4)]) hx hb dX8_program_141 hl (by decide) rfl (fun ls hl => ?_)
            exact fX8_program_b143_w (l := l) X hr n _ _ _ _ _ _ w (lv_sub hl [6, 0] rfl) e0
          · have e0 := itn _ c17 e0
            refine lv_aload_n hx hb dX8_program_117 rfl (lv_at hl 5 rfl) ?_
            refine lv_iload hx hb dX8_program_118 (lv_at hl 2 rfl) ?_
            refine m_put X w 5 (by decide) (index := 92) rfl rfl (by decide +kernel) (by decide +kernel) (mps5 _ _ _) dX8_program_120 (fun H locs w => ?_)
            refine lv_aload_n hx hb dX8_program_123 rfl (lv_at hl 5 rfl) ?_
            refine lv_iload hx hb dX8_program_124 (lv_at hl 1 rfl) ?_
            refine m_put X w 6 (by decide) (index := 95) rfl rfl (by decide +kernel) (by decide +kernel) (mps6 _ _ _) dX8_program_126 (fun H locs w => ?_)
            refine lv_aload_n hx hb dX8_program_129 rfl (lv_at hl 5 rfl) ?_
            refine bd e0 (fun z15 e16 e0 => ?_)
            refine m_callv X w (n := 0) (As := []) (rest := []) (fX8_putRulesBack_met l _ _ _ _ _ _  _ _ _ e16) gX8_program_X8_putRulesBack rfl rfl rfl (by decide +kernel) ⟨Nat.le_of_ble_eq_true rfl, Nat.le_of_ble_eq_true rfl⟩ rfl hl.1 rfl (Nat.le_of_ble_eq_true rfl) dX8_program_130 (fun H locs w => ?_)
            refine lv_sipush (v := (-200)) hx hb dX8_program_133 (by decide) ?_
            refine lv_iload hx hb dX8_program_136 (lv_at hl 0 rfl) ?_
            refine lv_isub hx hb dX8_program_138 ?_
            have e0 := Option.some.inj e0
            subst e0
            exact m_iret X w hr dX8_program_139
        · have e0 := itp _ c18 e0
          refine lv_bipush (v := (-100)) hx hb dX8_program_73 (by decide) ?_
          refine lv_aload_n hx hb dX8_program_75 rfl (lv_at hl 2 rfl) ?_
          refine m_get X w 14 (by decide) (index := 98) rfl (by decide +kernel) (mfi14 _ _) dX8_program_76 ?_
          refine lv_iload hx hb dX8_program_79 (lv_at hl 0 rfl) ?_
          refine lv_isub hx hb dX8_program_81 ?_
          refine lv_isub hx hb dX8_program_82 ?_
          have e0 := Option.some.inj e0
          subst e0
          exact m_iret X w hr dX8_program_83
      · have e0 := itn _ c21 e0
        refine lv_aload_n hx hb dX8_program_40 rfl (lv_at hl 1 rfl) ?_
        refine lv_iload hx hb dX8_program_41 (lv_at hl 0 rfl) ?_
        refine bd e0 (fun z19 e20 e0 => ?_)
        refine m_calli X w (n := 1) (As := [.int z5.1]) (rest := []) (fX8_fails_met l _ _ _ _ _ _ _ _ _ _ e20) gX8_program_X8_fails rfl rfl rfl (by decide +kernel) ⟨Nat.le_of_ble_eq_true rfl, Nat.le_of_ble_eq_true rfl⟩ rfl hl.1 rfl (Nat.le_of_ble_eq_true rfl) dX8_program_43 (fun H locs w => ?_)
        have e0 := Option.some.inj e0
        subst e0
        exact m_iret X w hr dX8_program_46
    · have e0 := itp _ c22 e0
      refine lv_bipush (v := (-2)) hx hb dX8_program_21 (by decide) ?_
      have e0 := Option.some.inj e0
      subst e0
      exact m_iret X w hr dX8_program_23
  · have e0 := itp _ c23 e0
    refine lv_iconst (v := (-1)) hx hb dX8_program_12 (by decide) ?_
    have e0 := Option.some.inj e0
    subst e0
    exact m_iret X w hr dX8_program_13
set_option maxRecDepth 20000 in
theorem fX8_program_met (l : Launch) (D : va_G) (y : ClassId) (h : Nat) (q : Nat → Nat) (sz n : Nat) (a1 : Int32) (a2 : Int32) (a3 : Int32) (a4 : Int32) (I : Nat → Int32) (R : Nat → Nat → Int32) (z : Int32 × mSt) (e0 : fX8_program n a1 a2 a3 a4 I R = some z) : Met l yX8_program wsX8_program rmX8_program (va_Pc [.ref h, .int a1, .int a2, .int a3, .int a4] (mPre D y h q sz I R)) (mQi D y h q (mS y h q sz) z) 0 0 (mS y h q sz) := by
  refine Met.ofW (cc := cX8_program) (maxL := 11) (ret := some .int) (by decide) rfl ?_
  intro p e s m args below meth c s₁ B hml hv
  obtain ⟨rfl, hsz, hP, hK, hD⟩ := hv
  subst hsz
  have hl := lv_entry ([.ref h, .int a1, .int a2, .int a3, .int a4]) (n := 11) (Nat.le_of_ble_eq_true rfl)
  rw [lg_entry_eq]
  exact fX8_program_w (s := s) ⟨⟨B.exec, B.bytes, hml, findClass_of_methodNamed B.named, atoms_spec (ws := wsX8_program) B.pre⟩, fun _ h9 => List.mem_cons_of_mem _ (List.mem_append_right _ h9), hK⟩ ⟨B.returns, B.notSynchronized⟩ ⟨hP, mS_D hD, va_S.rf⟩ hl e0
