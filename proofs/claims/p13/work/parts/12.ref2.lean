def rmX8_costOf : Room := { frames := 0, cells := 0, slots := 0, locals := 0 }
def fX8_costOf (n : Nat) (a1 : Int32) (I : Nat → Int32) (R : Nat → Nat → Int32) : Option (Int32 × mSt) :=
  if inb a1 5 = true then
  if (getA R 7 a1) = 0 then
    if inb a1 5 = true then
    some ((getA R 8 a1), I, R)
    else none
  else
    if inb a1 5 = true then
    if (getA R 7 a1) = 1 then
      if inb a1 5 = true then
      some (((getA R 8 a1) + 1), I, R)
      else none
    else
      if inb a1 5 = true then
      some ((2 * (getA R 8 a1)), I, R)
      else none
    else none
  else none
set_option maxRecDepth 20000 in
set_option maxHeartbeats 1000000 in
theorem fX8_costOf_w {p : Program} {l : Launch} {e : Env} {s : State} {m : MethodId} {args : Array Value} {below : List Frame} {meth : Method} {c : Code} {D : va_G} {y : ClassId} {h : Nat} {q : Nat → Nat} {n : Nat} {z : Int32 × mSt} (X : mX p s m args c cX8_costOf 2 wsX8_costOf D y) (hr : meth.sig.returnType = some .int ∧ meth.locks = false) {a1 : Int32} {I : Nat → Int32} {R : Nat → Nat → Int32} {H : Heap} {locs : List Loc} {ls : Array Slot} (w : mH s D y h q H locs I R) (hl : lv_has ls 2 [(0, .ref h), (1, .int a1)]) (e0 : fX8_costOf n a1 I R = some z) : W p l e rmX8_costOf s m args below meth c H locs 0 0 (MQ below (mQi D y h q (mS y h q s.heap.size) z) args s 0 0 (mS y h q s.heap.size)) (F0 m 0 ls []) := by
  have hx := X.1.1
  have hb := X.1.2.1
  unfold fX8_costOf at e0
  refine lv_aload_n hx hb dX8_costOf_0 rfl (lv_at hl 0 rfl) ?_
  refine m_get X w 7 (by decide) (index := 19) rfl (by decide +kernel) (mfr7 _ _) dX8_costOf_1 ?_
  refine lv_iload_n hx hb dX8_costOf_4 rfl (lv_at hl 1 rfl) ?_
  refine gd e0 (fun g1 e0 => ?_)
  refine m_ald X w 4 7 (mat7 _ _ _ _ _) g1 dX8_costOf_5 ?_
  refine lv_if_ne (tgt := 18) hx hb dX8_costOf_6 (by decide) (fun c7 => ?_) (fun c7 => ?_)
  · have e0 := itn _ c7 e0
    refine lv_aload_n hx hb dX8_costOf_18 rfl (lv_at hl 0 rfl) ?_
    refine m_get X w 7 (by decide) (index := 19) rfl (by decide +kernel) (mfr7 _ _) dX8_costOf_19 ?_
    refine lv_iload_n hx hb dX8_costOf_22 rfl (lv_at hl 1 rfl) ?_
    refine gd e0 (fun g2 e0 => ?_)
    refine m_ald X w 4 7 (mat7 _ _ _ _ _) g2 dX8_costOf_23 ?_
    refine lv_iconst (v := 1) hx hb dX8_costOf_24 (by decide) ?_
    refine lv_icmp_ne (tgt := 39) hx hb dX8_costOf_25 (by decide) (fun c5 => ?_) (fun c5 => ?_)
    · have e0 := itn _ c5 e0
      refine lv_iconst (v := 2) hx hb dX8_costOf_39 (by decide) ?_
      refine lv_aload_n hx hb dX8_costOf_40 rfl (lv_at hl 0 rfl) ?_
      refine m_get X w 8 (by decide) (index := 22) rfl (by decide +kernel) (mfr8 _ _) dX8_costOf_41 ?_
      refine lv_iload_n hx hb dX8_costOf_44 rfl (lv_at hl 1 rfl) ?_
      refine gd e0 (fun g3 e0 => ?_)
      refine m_ald X w 5 8 (mat8 _ _ _ _ _) g3 dX8_costOf_45 ?_
      refine lv_imul hx hb dX8_costOf_46 ?_
      have e0 := Option.some.inj e0
      subst e0
      exact m_iret X w hr dX8_costOf_47
    · have e0 := itp _ c5 e0
      refine lv_aload_n hx hb dX8_costOf_28 rfl (lv_at hl 0 rfl) ?_
      refine m_get X w 8 (by decide) (index := 22) rfl (by decide +kernel) (mfr8 _ _) dX8_costOf_29 ?_
      refine lv_iload_n hx hb dX8_costOf_32 rfl (lv_at hl 1 rfl) ?_
      refine gd e0 (fun g4 e0 => ?_)
      refine m_ald X w 5 8 (mat8 _ _ _ _ _) g4 dX8_costOf_33 ?_
      refine lv_iconst (v := 1) hx hb dX8_costOf_34 (by decide) ?_
      refine lv_iadd hx hb dX8_costOf_35 ?_
      refine lv_goto (tgt := 47) hx hb dX8_costOf_36 (by decide) ?_
      have e0 := Option.some.inj e0
      subst e0
      exact m_iret X w hr dX8_costOf_47
  · have e0 := itp _ c7 e0
    refine lv_aload_n hx hb dX8_costOf_9 rfl (lv_at hl 0 rfl) ?_
    refine m_get X w 8 (by decide) (index := 22) rfl (by decide +kernel) (mfr8 _ _) dX8_costOf_10 ?_
    refine lv_iload_n hx hb dX8_costOf_13 rfl (lv_at hl 1 rfl) ?_
    refine gd e0 (fun g6 e0 => ?_)
    refine m_ald X w 5 8 (mat8 _ _ _ _ _) g6 dX8_costOf_14 ?_
    refine lv_goto (tgt := 47) hx hb dX8_costOf_15 (by decide) ?_
    have e0 := Option.some.inj e0
    subst e0
    exact m_iret X w hr dX8_costOf_47
set_option maxRecDepth 20000 in
theorem fX8_costOf_met (l : Launch) (D : va_G) (y : ClassId) (h : Nat) (q : Nat → Nat) (sz n : Nat) (a1 : Int32) (I : Nat → Int32) (R : Nat → Nat → Int32) (z : Int32 × mSt) (e0 : fX8_costOf n a1 I R = some z) : Met l yX8_costOf wsX8_costOf rmX8_costOf (va_Pc [.ref h, .int a1] (mPre D y h q sz I R)) (mQi D y h q (mS y h q sz) z) 0 0 (mS y h q sz) := by
  refine Met.ofW (cc := cX8_costOf) (maxL := 2) (ret := some .int) (by decide) rfl ?_
  intro p e s m args below meth c s₁ B hml hv
  obtain ⟨rfl, hsz, hP, hK, hD⟩ := hv
  subst hsz
  have hl := lv_entry ([.ref h, .int a1]) (n := 2) (Nat.le_of_ble_eq_true rfl)
  rw [lg_entry_eq]
  exact fX8_costOf_w (s := s) ⟨⟨B.exec, B.bytes, hml, findClass_of_methodNamed B.named, atoms_spec (ws := wsX8_costOf) B.pre⟩, fun _ h9 => List.mem_cons_of_mem _ (List.mem_append_right _ h9), hK⟩ ⟨B.returns, B.notSynchronized⟩ ⟨hP, mS_D hD, va_S.rf⟩ hl e0
def rmX8_findLayers : Room := { frames := 0, cells := 0, slots := 0, locals := 0 }
def fX8_findLayers_b131 (n : Nat) (k22 : Int32 → (Nat → Int32) → (Nat → Nat → Int32) → Option (mSt)) (k30 : Int32 → Int32 → (Nat → Int32) → (Nat → Nat → Int32) → Option (mSt)) (a1 : Int32) (a2 : Int32) (I : Nat → Int32) (R : Nat → Nat → Int32) : Option (mSt) :=
  k30 a1 (a2 + 1) I R
set_option maxRecDepth 20000 in
set_option maxHeartbeats 1000000 in
theorem fX8_findLayers_b131_w {p : Program} {l : Launch} {e : Env} {s : State} {m : MethodId} {args : Array Value} {below : List Frame} {meth : Method} {c : Code} {D : va_G} {y : ClassId} {h : Nat} {q : Nat → Nat} {n : Nat} {z : mSt} (X : mX p s m args c cX8_findLayers 5 wsX8_findLayers D y) (hr : meth.sig.returnType = none ∧ meth.locks = false) {k22 : Int32 → (Nat → Int32) → (Nat → Nat → Int32) → Option (mSt)} (hk22 : ∀ (a1 : Int32) (I : Nat → Int32) (R : Nat → Nat → Int32) (H : Heap) (locs : List Loc) (ls : Array Slot), mH s D y h q H locs I R → lv_has ls 5 [(0, .ref h), (1, .int a1)] → k22 a1 I R = some z → W p l e rmX8_findLayers s m args below meth c H locs 0 0 (MQ below (mQv D y h q (mS y h q s.heap.size) z) args s 0 0 (mS y h q s.heap.size)) (F0 m 22 ls [])) {k30 : Int32 → Int32 → (Nat → Int32) → (Nat → Nat → Int32) → Option (mSt)} (hk30 : ∀ (a1 : Int32) (a2 : Int32) (I : Nat → Int32) (R : Nat → Nat → Int32) (H : Heap) (locs : List Loc) (ls : Array Slot), mH s D y h q H locs I R → lv_has ls 5 [(0, .ref h), (1, .int a1), (2, .int a2)] → k30 a1 a2 I R = some z → W p l e rmX8_findLayers s m args below meth c H locs 0 0 (MQ below (mQv D y h q (mS y h q s.heap.size) z) args s 0 0 (mS y h q s.heap.size)) (F0 m 30 ls [])) {a1 : Int32} {a2 : Int32} {I : Nat → Int32} {R : Nat → Nat → Int32} {H : Heap} {locs : List Loc} {ls : Array Slot} (w : mH s D y h q H locs I R) (hl : lv_has ls 5 [(0, .ref h), (1, .int a1), (2, .int a2)]) (e0 : fX8_findLayers_b131 n k22 k30 a1 a2 I R = some z) : W p l e rmX8_findLayers s m args below meth c H locs 0 0 (MQ below (mQv D y h q (mS y h q s.heap.size) z) args s 0 0 (mS y h q s.heap.size)) (F0 m 131 ls []) := by
  have hx := X.1.1
  have hb := X.1.2.1
  unfold fX8_findLayers_b131 at e0
  refine lv_iinc (v := (a2 + 1)) (lv' := [(2, .int (a2 + 1)), (0, .ref h), (1, .int a1)]) hx hb dX8_findLayers_131 hl (k := 2) rfl rfl (by decide) rfl (fun ls hl => ?_)
  refine lv_goto (tgt := 30) hx hb dX8_findLayers_134 (by decide) ?_
  exact hk30 _ _ _ _ _ _ _ w (lv_sub hl [1, 2, 0] rfl) e0
def fX8_findLayers_b102 (n : Nat) (k22 : Int32 → (Nat → Int32) → (Nat → Nat → Int32) → Option (mSt)) (k30 : Int32 → Int32 → (Nat → Int32) → (Nat → Nat → Int32) → Option (mSt)) (a1 : Int32) (a2 : Int32) (a3 : Int32) (I : Nat → Int32) (R : Nat → Nat → Int32) : Option (mSt) :=
  if inb a2 5 = true then
  if inb (getA R 10 a2) 4 = true then
  if a3 ≤ (getA R 21 (getA R 10 a2)) then
    fX8_findLayers_b131 n k22 k30 a1 a2 I R
  else
    if inb a2 5 = true then
    if inb (getA R 10 a2) 4 = true then
    fX8_findLayers_b131 n k22 k30 1 a2 I (setA R 21 (getA R 10 a2) a3)
    else none
    else none
  else none
  else none
set_option maxRecDepth 20000 in
set_option maxHeartbeats 1000000 in
theorem fX8_findLayers_b102_w {p : Program} {l : Launch} {e : Env} {s : State} {m : MethodId} {args : Array Value} {below : List Frame} {meth : Method} {c : Code} {D : va_G} {y : ClassId} {h : Nat} {q : Nat → Nat} {n : Nat} {z : mSt} (X : mX p s m args c cX8_findLayers 5 wsX8_findLayers D y) (hr : meth.sig.returnType = none ∧ meth.locks = false) {k22 : Int32 → (Nat → Int32) → (Nat → Nat → Int32) → Option (mSt)} (hk22 : ∀ (a1 : Int32) (I : Nat → Int32) (R : Nat → Nat → Int32) (H : Heap) (locs : List Loc) (ls : Array Slot), mH s D y h q H locs I R → lv_has ls 5 [(0, .ref h), (1, .int a1)] → k22 a1 I R = some z → W p l e rmX8_findLayers s m args below meth c H locs 0 0 (MQ below (mQv D y h q (mS y h q s.heap.size) z) args s 0 0 (mS y h q s.heap.size)) (F0 m 22 ls [])) {k30 : Int32 → Int32 → (Nat → Int32) → (Nat → Nat → Int32) → Option (mSt)} (hk30 : ∀ (a1 : Int32) (a2 : Int32) (I : Nat → Int32) (R : Nat → Nat → Int32) (H : Heap) (locs : List Loc) (ls : Array Slot), mH s D y h q H locs I R → lv_has ls 5 [(0, .ref h), (1, .int a1), (2, .int a2)] → k30 a1 a2 I R = some z → W p l e rmX8_findLayers s m args below meth c H locs 0 0 (MQ below (mQv D y h q (mS y h q s.heap.size) z) args s 0 0 (mS y h q s.heap.size)) (F0 m 30 ls [])) {a1 : Int32} {a2 : Int32} {a3 : Int32} {I : Nat → Int32} {R : Nat → Nat → Int32} {H : Heap} {locs : List Loc} {ls : Array Slot} (w : mH s D y h q H locs I R) (hl : lv_has ls 5 [(0, .ref h), (1, .int a1), (2, .int a2), (3, .int a3)]) (e0 : fX8_findLayers_b102 n k22 k30 a1 a2 a3 I R = some z) : W p l e rmX8_findLayers s m args below meth c H locs 0 0 (MQ below (mQv D y h q (mS y h q s.heap.size) z) args s 0 0 (mS y h q s.heap.size)) (F0 m 102 ls []) := by
  have hx := X.1.1
  have hb := X.1.2.1
  unfold fX8_findLayers_b102 at e0
  refine lv_aload_n hx hb dX8_findLayers_102 rfl (lv_at hl 0 rfl) ?_
  refine m_get X w 21 (by decide) (index := 49) rfl (by decide +kernel) (mfr21 _ _) dX8_findLayers_103 ?_
  refine lv_aload_n hx hb dX8_findLayers_106 rfl (lv_at hl 0 rfl) ?_
  refine m_get X w 10 (by decide) (index := 28) rfl (by decide +kernel) (mfr10 _ _) dX8_findLayers_107 ?_
  refine lv_iload_n hx hb dX8_findLayers_110 rfl (lv_at hl 2 rfl) ?_
  refine gd e0 (fun g13 e0 => ?_)
  refine m_ald X w 7 10 (mat10 _ _ _ _ _) g13 dX8_findLayers_111 ?_
  refine gd e0 (fun g14 e0 => ?_)
  refine m_ald X w 14 21 (mat21 _ _ _ _ _) g14 dX8_findLayers_112 ?_
  refine lv_iload_n hx hb dX8_findLayers_113 rfl (lv_at hl 3 rfl) ?_
  refine lv_icmp_ge (tgt := 131) hx hb dX8_findLayers_114 (by decide) (fun c17 => ?_) (fun c17 => ?_)
  · have e0 := itp _ c17 e0
    exact fX8_findLayers_b131_w (l := l) X hr hk22 hk30 w (lv_sub hl [0, 1, 2] rfl) e0
  · have e0 := itn _ c17 e0
    refine lv_aload_n hx hb dX8_findLayers_117 rfl (lv_at hl 0 rfl) ?_
    refine m_get X w 21 (by decide) (index := 49) rfl (by decide +kernel) (mfr21 _ _) dX8_findLayers_118 ?_
    refine lv_aload_n hx hb dX8_findLayers_121 rfl (lv_at hl 0 rfl) ?_
    refine m_get X w 10 (by decide) (index := 28) rfl (by decide +kernel) (mfr10 _ _) dX8_findLayers_122 ?_
    refine lv_iload_n hx hb dX8_findLayers_125 rfl (lv_at hl 2 rfl) ?_
    refine gd e0 (fun g15 e0 => ?_)
    refine m_ald X w 7 10 (mat10 _ _ _ _ _) g15 dX8_findLayers_126 ?_
    refine lv_iload_n hx hb dX8_findLayers_127 rfl (lv_at hl 3 rfl) ?_
    refine gd e0 (fun g16 e0 => ?_)
    refine m_ast X w 14 21 (mat21 _ _ _ _ _) (mset21 _ _ _ _ _) g16 dX8_findLayers_128 (fun H locs w => ?_)
    refine lv_iconst (v := 1) hx hb dX8_findLayers_129 (by decide) ?_
    refine lv_istore_n (lv' := [(1, .int 1), (0, .ref h), (2, .int a2), (3, .int a3)]) hx hb dX8_findLayers_130 rfl hl (by decide) rfl (fun ls hl => ?_)
    exact fX8_findLayers_b131_w (l := l) X hr hk22 hk30 w (lv_sub hl [1, 0, 2] rfl) e0
def fX8_findLayers_b101 (n : Nat) (k22 : Int32 → (Nat → Int32) → (Nat → Nat → Int32) → Option (mSt)) (k30 : Int32 → Int32 → (Nat → Int32) → (Nat → Nat → Int32) → Option (mSt)) (a1 : Int32) (a2 : Int32) (t0 : Int32) (I : Nat → Int32) (R : Nat → Nat → Int32) : Option (mSt) :=
  fX8_findLayers_b102 n k22 k30 a1 a2 t0 I R
set_option maxRecDepth 20000 in
set_option maxHeartbeats 1000000 in
theorem fX8_findLayers_b101_w {p : Program} {l : Launch} {e : Env} {s : State} {m : MethodId} {args : Array Value} {below : List Frame} {meth : Method} {c : Code} {D : va_G} {y : ClassId} {h : Nat} {q : Nat → Nat} {n : Nat} {z : mSt} (X : mX p s m args c cX8_findLayers 5 wsX8_findLayers D y) (hr : meth.sig.returnType = none ∧ meth.locks = false) {k22 : Int32 → (Nat → Int32) → (Nat → Nat → Int32) → Option (mSt)} (hk22 : ∀ (a1 : Int32) (I : Nat → Int32) (R : Nat → Nat → Int32) (H : Heap) (locs : List Loc) (ls : Array Slot), mH s D y h q H locs I R → lv_has ls 5 [(0, .ref h), (1, .int a1)] → k22 a1 I R = some z → W p l e rmX8_findLayers s m args below meth c H locs 0 0 (MQ below (mQv D y h q (mS y h q s.heap.size) z) args s 0 0 (mS y h q s.heap.size)) (F0 m 22 ls [])) {k30 : Int32 → Int32 → (Nat → Int32) → (Nat → Nat → Int32) → Option (mSt)} (hk30 : ∀ (a1 : Int32) (a2 : Int32) (I : Nat → Int32) (R : Nat → Nat → Int32) (H : Heap) (locs : List Loc) (ls : Array Slot), mH s D y h q H locs I R → lv_has ls 5 [(0, .ref h), (1, .int a1), (2, .int a2)] → k30 a1 a2 I R = some z → W p l e rmX8_findLayers s m args below meth c H locs 0 0 (MQ below (mQv D y h q (mS y h q s.heap.size) z) args s 0 0 (mS y h q s.heap.size)) (F0 m 30 ls [])) {a1 : Int32} {a2 : Int32} {t0 : Int32} {I : Nat → Int32} {R : Nat → Nat → Int32} {H : Heap} {locs : List Loc} {ls : Array Slot} (w : mH s D y h q H locs I R) (hl : lv_has ls 5 [(0, .ref h), (1, .int a1), (2, .int a2)]) (e0 : fX8_findLayers_b101 n k22 k30 a1 a2 t0 I R = some z) : W p l e rmX8_findLayers s m args below meth c H locs 0 0 (MQ below (mQv D y h q (mS y h q s.heap.size) z) args s 0 0 (mS y h q s.heap.size)) (F0 m 101 ls [.int t0]) := by
  have hx := X.1.1
  have hb := X.1.2.1
  unfold fX8_findLayers_b101 at e0
  refine lv_istore_n (lv' := [(3, .int t0), (0, .ref h), (1, .int a1), (2, .int a2)]) hx hb dX8_findLayers_101 rfl hl (by decide) rfl (fun ls hl => ?_)
  exact fX8_findLayers_b102_w (l := l) X hr hk22 hk30 w (lv_sub hl [1, 2, 3, 0] rfl) e0
def fX8_findLayers_b86 (n : Nat) (k22 : Int32 → (Nat → Int32) → (Nat → Nat → Int32) → Option (mSt)) (k30 : Int32 → Int32 → (Nat → Int32) → (Nat → Nat → Int32) → Option (mSt)) (a1 : Int32) (a2 : Int32) (a3 : Int32) (t0 : Int32) (t1 : Int32) (I : Nat → Int32) (R : Nat → Nat → Int32) : Option (mSt) :=
  if (t1 + t0) ≤ a3 then
    fX8_findLayers_b101 n k22 k30 a1 a2 a3 I R
  else
    fX8_findLayers_b101 n k22 k30 a1 a2 (t1 + t0) I R
set_option maxRecDepth 20000 in
set_option maxHeartbeats 1000000 in
theorem fX8_findLayers_b86_w {p : Program} {l : Launch} {e : Env} {s : State} {m : MethodId} {args : Array Value} {below : List Frame} {meth : Method} {c : Code} {D : va_G} {y : ClassId} {h : Nat} {q : Nat → Nat} {n : Nat} {z : mSt} (X : mX p s m args c cX8_findLayers 5 wsX8_findLayers D y) (hr : meth.sig.returnType = none ∧ meth.locks = false) {k22 : Int32 → (Nat → Int32) → (Nat → Nat → Int32) → Option (mSt)} (hk22 : ∀ (a1 : Int32) (I : Nat → Int32) (R : Nat → Nat → Int32) (H : Heap) (locs : List Loc) (ls : Array Slot), mH s D y h q H locs I R → lv_has ls 5 [(0, .ref h), (1, .int a1)] → k22 a1 I R = some z → W p l e rmX8_findLayers s m args below meth c H locs 0 0 (MQ below (mQv D y h q (mS y h q s.heap.size) z) args s 0 0 (mS y h q s.heap.size)) (F0 m 22 ls [])) {k30 : Int32 → Int32 → (Nat → Int32) → (Nat → Nat → Int32) → Option (mSt)} (hk30 : ∀ (a1 : Int32) (a2 : Int32) (I : Nat → Int32) (R : Nat → Nat → Int32) (H : Heap) (locs : List Loc) (ls : Array Slot), mH s D y h q H locs I R → lv_has ls 5 [(0, .ref h), (1, .int a1), (2, .int a2)] → k30 a1 a2 I R = some z → W p l e rmX8_findLayers s m args below meth c H locs 0 0 (MQ below (mQv D y h q (mS y h q s.heap.size) z) args s 0 0 (mS y h q s.heap.size)) (F0 m 30 ls [])) {a1 : Int32} {a2 : Int32} {a3 : Int32} {t0 : Int32} {t1 : Int32} {I : Nat → Int32} {R : Nat → Nat → Int32} {H : Heap} {locs : List Loc} {ls : Array Slot} (w : mH s D y h q H locs I R) (hl : lv_has ls 5 [(0, .ref h), (1, .int a1), (2, .int a2), (3, .int a3)]) (e0 : fX8_findLayers_b86 n k22 k30 a1 a2 a3 t0 t1 I R = some z) : W p l e rmX8_findLayers s m args below meth c H locs 0 0 (MQ below (mQv D y h q (mS y h q s.heap.size) z) args s 0 0 (mS y h q s.heap.size)) (F0 m 86 ls [.int t0, .int t1]) := by
  have hx := X.1.1
  have hb := X.1.2.1
  unfold fX8_findLayers_b86 at e0
  refine lv_iadd hx hb dX8_findLayers_86 ?_
  refine lv_istore (lv' := [(4, .int (t1 + t0)), (0, .ref h), (1, .int a1), (2, .int a2), (3, .int a3)]) hx hb dX8_findLayers_87 hl (by decide) rfl (fun ls hl => ?_)
  refine lv_iload hx hb dX8_findLayers_89 (lv_at hl 0 rfl) ?_
  refine lv_iload_n hx hb dX8_findLayers_91 rfl (lv_at hl 4 rfl) ?_
  refine lv_icmp_le (tgt := 100) hx hb dX8_findLayers_92 (by decide) (fun c18 => ?_) (fun c18 => ?_)
  · have e0 := itp _ c18 e0
    refine lv_iload_n hx hb dX8_findLayers_100 rfl (lv_at hl 4 rfl) ?_
    exact fX8_findLayers_b101_w (l := l) X hr hk22 hk30 w (lv_sub hl [1, 2, 3] rfl) e0
  · have e0 := itn _ c18 e0
    refine lv_iload hx hb dX8_findLayers_95 (lv_at hl 0 rfl) ?_
    refine lv_goto (tgt := 101) hx hb dX8_findLayers_97 (by decide) ?_
    exact fX8_findLayers_b101_w (l := l) X hr hk22 hk30 w (lv_sub hl [1, 2, 3] rfl) e0
def fX8_findLayers_b30 (n : Nat) (k22 : Int32 → (Nat → Int32) → (Nat → Nat → Int32) → Option (mSt)) : Nat → Int32 → Int32 → (Nat → Int32) → (Nat → Nat → Int32) → Option (mSt)
  | 0, _, _, _, _ => none
  | j + 1, a1, a2, I, R =>
    if (I 6) ≤ a2 then
      k22 a1 I R
    else
      if inb a2 5 = true then
      if inb (getA R 11 a2) 4 = true then
      if inb a2 5 = true then
      if (getA R 9 a2) < 2 then
        fX8_findLayers_b102 n k22 (fX8_findLayers_b30 n k22 j) a1 a2 (getA R 21 (getA R 11 a2)) I R
      else
        if inb a2 5 = true then
        if inb (getA R 12 a2) 4 = true then
        if inb a2 5 = true then
        if (getA R 9 a2) = 3 then
          fX8_findLayers_b86 n k22 (fX8_findLayers_b30 n k22 j) a1 a2 (getA R 21 (getA R 11 a2)) 1 (getA R 21 (getA R 12 a2)) I R
        else
          fX8_findLayers_b86 n k22 (fX8_findLayers_b30 n k22 j) a1 a2 (getA R 21 (getA R 11 a2)) 0 (getA R 21 (getA R 12 a2)) I R
        else none
        else none
        else none
      else none
      else none
      else none
set_option maxRecDepth 20000 in
set_option maxHeartbeats 1000000 in
theorem fX8_findLayers_b30_w {p : Program} {l : Launch} {e : Env} {s : State} {m : MethodId} {args : Array Value} {below : List Frame} {meth : Method} {c : Code} {D : va_G} {y : ClassId} {h : Nat} {q : Nat → Nat} {n : Nat} {z : mSt} (X : mX p s m args c cX8_findLayers 5 wsX8_findLayers D y) (hr : meth.sig.returnType = none ∧ meth.locks = false) {k22 : Int32 → (Nat → Int32) → (Nat → Nat → Int32) → Option (mSt)} (hk22 : ∀ (a1 : Int32) (I : Nat → Int32) (R : Nat → Nat → Int32) (H : Heap) (locs : List Loc) (ls : Array Slot), mH s D y h q H locs I R → lv_has ls 5 [(0, .ref h), (1, .int a1)] → k22 a1 I R = some z → W p l e rmX8_findLayers s m args below meth c H locs 0 0 (MQ below (mQv D y h q (mS y h q s.heap.size) z) args s 0 0 (mS y h q s.heap.size)) (F0 m 22 ls [])) : ∀ (j : Nat) (a1 : Int32) (a2 : Int32) (I : Nat → Int32) (R : Nat → Nat → Int32) (H : Heap) (locs : List Loc) (ls : Array Slot), mH s D y h q H locs I R → lv_has ls 5 [(0, .ref h), (1, .int a1), (2, .int a2)] → fX8_findLayers_b30 n k22 j a1 a2 I R = some z → W p l e rmX8_findLayers s m args below meth c H locs 0 0 (MQ below (mQv D y h q (mS y h q s.heap.size) z) args s 0 0 (mS y h q s.heap.size)) (F0 m 30 ls []) := by
  have hx := X.1.1
  have hb := X.1.2.1
  intro j
  induction j with
  | zero =>
    intro a1 a2 I R H locs ls w hl e0
    cases e0
  | succ j ih =>
    intro a1 a2 I R H locs ls w hl e0
    rw [fX8_findLayers_b30] at e0
    refine lv_iload_n hx hb dX8_findLayers_30 rfl (lv_at hl 2 rfl) ?_
    refine lv_aload_n hx hb dX8_findLayers_31 rfl (lv_at hl 0 rfl) ?_
    refine m_get X w 6 (by decide) (index := 95) rfl (by decide +kernel) (mfi6 _ _) dX8_findLayers_32 ?_
    refine lv_icmp_ge (tgt := 137) hx hb dX8_findLayers_35 (by decide) (fun c12 => ?_) (fun c12 => ?_)
    · have e0 := itp _ c12 e0
      refine lv_goto (tgt := 22) hx hb dX8_findLayers_137 (by decide) ?_
      exact hk22 _ _ _ _ _ _ w (lv_sub hl [0, 1] rfl) e0
    · have e0 := itn _ c12 e0
      refine lv_aload_n hx hb dX8_findLayers_38 rfl (lv_at hl 0 rfl) ?_
      refine m_get X w 21 (by decide) (index := 49) rfl (by decide +kernel) (mfr21 _ _) dX8_findLayers_39 ?_
      refine lv_aload_n hx hb dX8_findLayers_42 rfl (lv_at hl 0 rfl) ?_
      refine m_get X w 11 (by decide) (index := 31) rfl (by decide +kernel) (mfr11 _ _) dX8_findLayers_43 ?_
      refine lv_iload_n hx hb dX8_findLayers_46 rfl (lv_at hl 2 rfl) ?_
      refine gd e0 (fun g4 e0 => ?_)
      refine m_ald X w 8 11 (mat11 _ _ _ _ _) g4 dX8_findLayers_47 ?_
      refine gd e0 (fun g5 e0 => ?_)
      refine m_ald X w 14 21 (mat21 _ _ _ _ _) g5 dX8_findLayers_48 ?_
      refine lv_istore_n (lv' := [(3, .int (getA R 21 (getA R 11 a2))), (0, .ref h), (1, .int a1), (2, .int a2)]) hx hb dX8_findLayers_49 rfl hl (by decide) rfl (fun ls hl => ?_)
      refine lv_aload_n hx hb dX8_findLayers_50 rfl (lv_at hl 1 rfl) ?_
      refine m_get X w 9 (by decide) (index := 25) rfl (by decide +kernel) (mfr9 _ _) dX8_findLayers_51 ?_
      refine lv_iload_n hx hb dX8_findLayers_54 rfl (lv_at hl 3 rfl) ?_
      refine gd e0 (fun g6 e0 => ?_)
      refine m_ald X w 6 9 (mat9 _ _ _ _ _) g6 dX8_findLayers_55 ?_
      refine lv_iconst (v := 2) hx hb dX8_findLayers_56 (by decide) ?_
      refine lv_icmp_lt (tgt := 102) hx hb dX8_findLayers_57 (by decide) (fun c11 => ?_) (fun c11 => ?_)
      · have e0 := itp _ c11 e0
        exact fX8_findLayers_b102_w (l := l) X hr hk22 ih w (lv_sub hl [1, 2, 3, 0] rfl) e0
      · have e0 := itn _ c11 e0
        refine lv_aload_n hx hb dX8_findLayers_60 rfl (lv_at hl 1 rfl) ?_
        refine m_get X w 21 (by decide) (index := 49) rfl (by decide +kernel) (mfr21 _ _) dX8_findLayers_61 ?_
        refine lv_aload_n hx hb dX8_findLayers_64 rfl (lv_at hl 1 rfl) ?_
        refine m_get X w 12 (by decide) (index := 34) rfl (by decide +kernel) (mfr12 _ _) dX8_findLayers_65 ?_
        refine lv_iload_n hx hb dX8_findLayers_68 rfl (lv_at hl 3 rfl) ?_
        refine gd e0 (fun g7 e0 => ?_)
        refine m_ald X w 9 12 (mat12 _ _ _ _ _) g7 dX8_findLayers_69 ?_
        refine gd e0 (fun g8 e0 => ?_)
        refine m_ald X w 14 21 (mat21 _ _ _ _ _) g8 dX8_findLayers_70 ?_
        refine lv_aload_n hx hb dX8_findLayers_71 rfl (lv_at hl 1 rfl) ?_
        refine m_get X w 9 (by decide) (index := 25) rfl (by decide +kernel) (mfr9 _ _) dX8_findLayers_72 ?_
        refine lv_iload_n hx hb dX8_findLayers_75 rfl (lv_at hl 3 rfl) ?_
        refine gd e0 (fun g9 e0 => ?_)
        refine m_ald X w 6 9 (mat9 _ _ _ _ _) g9 dX8_findLayers_76 ?_
        refine lv_iconst (v := 3) hx hb dX8_findLayers_77 (by decide) ?_
        refine lv_icmp_ne (tgt := 85) hx hb dX8_findLayers_78 (by decide) (fun c10 => ?_) (fun c10 => ?_)
        · have e0 := itn _ c10 e0
          refine lv_iconst (v := 0) hx hb dX8_findLayers_85 (by decide) ?_
          exact fX8_findLayers_b86_w (l := l) X hr hk22 ih w (lv_sub hl [1, 2, 3, 0] rfl) e0
        · have e0 := itp _ c10 e0
          refine lv_iconst (v := 1) hx hb dX8_findLayers_81 (by decide) ?_
          refine lv_goto (tgt := 86) hx hb dX8_findLayers_82 (by decide) ?_
          exact fX8_findLayers_b86_w (l := l) X hr hk22 ih w (lv_sub hl [1, 2, 3, 0] rfl) e0
def fX8_findLayers_b22 (n : Nat) : Nat → Int32 → (Nat → Int32) → (Nat → Nat → Int32) → Option (mSt)
  | 0, _, _, _ => none
  | j + 1, a1, I, R =>
    if a1 = 0 then
      some (I, R)
    else
      fX8_findLayers_b30 n (fX8_findLayers_b22 n j) n 0 0 I R
set_option maxRecDepth 20000 in
set_option maxHeartbeats 1000000 in
theorem fX8_findLayers_b22_w {p : Program} {l : Launch} {e : Env} {s : State} {m : MethodId} {args : Array Value} {below : List Frame} {meth : Method} {c : Code} {D : va_G} {y : ClassId} {h : Nat} {q : Nat → Nat} {n : Nat} {z : mSt} (X : mX p s m args c cX8_findLayers 5 wsX8_findLayers D y) (hr : meth.sig.returnType = none ∧ meth.locks = false) : ∀ (j : Nat) (a1 : Int32) (I : Nat → Int32) (R : Nat → Nat → Int32) (H : Heap) (locs : List Loc) (ls : Array Slot), mH s D y h q H locs I R → lv_has ls 5 [(0, .ref h), (1, .int a1)] → fX8_findLayers_b22 n j a1 I R = some z → W p l e rmX8_findLayers s m args below meth c H locs 0 0 (MQ below (mQv D y h q (mS y h q s.heap.size) z) args s 0 0 (mS y h q s.heap.size)) (F0 m 22 ls []) := by
  have hx := X.1.1
  have hb := X.1.2.1
  intro j
  induction j with
  | zero =>
    intro a1 I R H locs ls w hl e0
    cases e0
  | succ j ih =>
    intro a1 I R H locs ls w hl e0
    rw [fX8_findLayers_b22] at e0
    refine lv_iload_n hx hb dX8_findLayers_22 rfl (lv_at hl 1 rfl) ?_
    refine lv_if_eq (tgt := 140) hx hb dX8_findLayers_23 (by decide) (fun c3 => ?_) (fun c3 => ?_)
    · have e0 := itp _ c3 e0
      have e0 := Option.some.inj e0
      subst e0
      exact m_vret X w hr dX8_findLayers_140
    · have e0 := itn _ c3 e0
      refine lv_iconst (v := 0) hx hb dX8_findLayers_26 (by decide) ?_
      refine lv_istore_n (lv' := [(1, .int 0), (0, .ref h)]) hx hb dX8_findLayers_27 rfl hl (by decide) rfl (fun ls hl => ?_)
      refine lv_iconst (v := 0) hx hb dX8_findLayers_28 (by decide) ?_
      refine lv_istore_n (lv' := [(2, .int 0), (1, .int 0), (0, .ref h)]) hx hb dX8_findLayers_29 rfl hl (by decide) rfl (fun ls hl => ?_)
      exact fX8_findLayers_b30_w (l := l) X hr ih n _ _ _ _ _ _ _ w (lv_sub hl [2, 1, 0] rfl) e0
def fX8_findLayers_b2 (n : Nat) : Nat → Int32 → (Nat → Int32) → (Nat → Nat → Int32) → Option (mSt)
  | 0, _, _, _ => none
  | j + 1, a1, I, R =>
    if 4 ≤ a1 then
      fX8_findLayers_b22 n n 1 I R
    else
      if inb a1 4 = true then
      fX8_findLayers_b2 n j (a1 + 1) I (setA R 21 a1 0)
      else none
set_option maxRecDepth 20000 in
set_option maxHeartbeats 1000000 in
theorem fX8_findLayers_b2_w {p : Program} {l : Launch} {e : Env} {s : State} {m : MethodId} {args : Array Value} {below : List Frame} {meth : Method} {c : Code} {D : va_G} {y : ClassId} {h : Nat} {q : Nat → Nat} {n : Nat} {z : mSt} (X : mX p s m args c cX8_findLayers 5 wsX8_findLayers D y) (hr : meth.sig.returnType = none ∧ meth.locks = false) : ∀ (j : Nat) (a1 : Int32) (I : Nat → Int32) (R : Nat → Nat → Int32) (H : Heap) (locs : List Loc) (ls : Array Slot), mH s D y h q H locs I R → lv_has ls 5 [(0, .ref h), (1, .int a1)] → fX8_findLayers_b2 n j a1 I R = some z → W p l e rmX8_findLayers s m args below meth c H locs 0 0 (MQ below (mQv D y h q (mS y h q s.heap.size) z) args s 0 0 (mS y h q s.heap.size)) (F0 m 2 ls []) := by
  have hx := X.1.1
  have hb := X.1.2.1
  intro j
  induction j with
  | zero =>
    intro a1 I R H locs ls w hl e0
    cases e0
  | succ j ih =>
    intro a1 I R H locs ls w hl e0
    rw [fX8_findLayers_b2] at e0
    refine lv_iload_n hx hb dX8_findLayers_2 rfl (lv_at hl 1 rfl) ?_
    refine lv_iconst (v := 4) hx hb dX8_findLayers_3 (by decide) ?_
    refine lv_icmp_ge (tgt := 20) hx hb dX8_findLayers_4 (by decide) (fun c2 => ?_) (fun c2 => ?_)
    · have e0 := itp _ c2 e0
      refine lv_iconst (v := 1) hx hb dX8_findLayers_20 (by decide) ?_
      refine lv_istore_n (lv' := [(1, .int 1), (0, .ref h)]) hx hb dX8_findLayers_21 rfl hl (by decide) rfl (fun ls hl => ?_)
      exact fX8_findLayers_b22_w (l := l) X hr n _ _ _ _ _ _ w (lv_sub hl [1, 0] rfl) e0
    · have e0 := itn _ c2 e0
      refine lv_aload_n hx hb dX8_findLayers_7 rfl (lv_at hl 0 rfl) ?_
      refine m_get X w 21 (by decide) (index := 49) rfl (by decide +kernel) (mfr21 _ _) dX8_findLayers_8 ?_
      refine lv_iload_n hx hb dX8_findLayers_11 rfl (lv_at hl 1 rfl) ?_
      refine lv_iconst (v := 0) hx hb dX8_findLayers_12 (by decide) ?_
      refine gd e0 (fun g1 e0 => ?_)
      refine m_ast X w 14 21 (mat21 _ _ _ _ _) (mset21 _ _ _ _ _) g1 dX8_findLayers_13 (fun H locs w => ?_)
      refine lv_iinc (v := (a1 + 1)) (lv' := [(1, .int (a1 + 1)), (0, .ref h)]) hx hb dX8_findLayers_14 hl (k := 1) rfl rfl (by decide) rfl (fun ls hl => ?_)
      refine lv_goto (tgt := 2) hx hb dX8_findLayers_17 (by decide) ?_
      exact ih _ _ _ _ _ _ w (lv_sub hl [1, 0] rfl) e0
def fX8_findLayers (n : Nat) (I : Nat → Int32) (R : Nat → Nat → Int32) : Option (mSt) :=
  fX8_findLayers_b2 n n 0 I R
set_option maxRecDepth 20000 in
set_option maxHeartbeats 1000000 in
theorem fX8_findLayers_w {p : Program} {l : Launch} {e : Env} {s : State} {m : MethodId} {args : Array Value} {below : List Frame} {meth : Method} {c : Code} {D : va_G} {y : ClassId} {h : Nat} {q : Nat → Nat} {n : Nat} {z : mSt} (X : mX p s m args c cX8_findLayers 5 wsX8_findLayers D y) (hr : meth.sig.returnType = none ∧ meth.locks = false) {I : Nat → Int32} {R : Nat → Nat → Int32} {H : Heap} {locs : List Loc} {ls : Array Slot} (w : mH s D y h q H locs I R) (hl : lv_has ls 5 [(0, .ref h)]) (e0 : fX8_findLayers n I R = some z) : W p l e rmX8_findLayers s m args below meth c H locs 0 0 (MQ below (mQv D y h q (mS y h q s.heap.size) z) args s 0 0 (mS y h q s.heap.size)) (F0 m 0 ls []) := by
  have hx := X.1.1
  have hb := X.1.2.1
  unfold fX8_findLayers at e0
  refine lv_iconst (v := 0) hx hb dX8_findLayers_0 (by decide) ?_
  refine lv_istore_n (lv' := [(1, .int 0), (0, .ref h)]) hx hb dX8_findLayers_1 rfl hl (by decide) rfl (fun ls hl => ?_)
  exact fX8_findLayers_b2_w (l := l) X hr n _ _ _ _ _ _ w (lv_sub hl [1, 0] rfl) e0
set_option maxRecDepth 20000 in
theorem fX8_findLayers_met (l : Launch) (D : va_G) (y : ClassId) (h : Nat) (q : Nat → Nat) (sz n : Nat) (I : Nat → Int32) (R : Nat → Nat → Int32) (z : mSt) (e0 : fX8_findLayers n I R = some z) : Met l yX8_findLayers wsX8_findLayers rmX8_findLayers (va_Pc [.ref h] (mPre D y h q sz I R)) (mQv D y h q (mS y h q sz) z) 0 0 (mS y h q sz) := by
  refine Met.ofW (cc := cX8_findLayers) (maxL := 5) (ret := none) (by decide) rfl ?_
  intro p e s m args below meth c s₁ B hml hv
  obtain ⟨rfl, hsz, hP, hK, hD⟩ := hv
  subst hsz
  have hl := lv_entry ([.ref h]) (n := 5) (Nat.le_of_ble_eq_true rfl)
  rw [lg_entry_eq]
  exact fX8_findLayers_w (s := s) ⟨⟨B.exec, B.bytes, hml, findClass_of_methodNamed B.named, atoms_spec (ws := wsX8_findLayers) B.pre⟩, fun _ h9 => List.mem_cons_of_mem _ (List.mem_append_right _ h9), hK⟩ ⟨B.returns, B.notSynchronized⟩ ⟨hP, mS_D hD, va_S.rf⟩ hl e0
def rmX8_factOf : Room := { frames := 0, cells := 0, slots := 0, locals := 0 }
def fX8_factOf (n : Nat) (a0 : Int32) (a1 : Int32) (a2 : Int32) : Option (Int32) :=
  some (((16 * a0) + (4 * a1)) + a2)
set_option maxRecDepth 20000 in
set_option maxHeartbeats 1000000 in
theorem fX8_factOf_w {p : Program} {l : Launch} {e : Env} {s : State} {m : MethodId} {args : Array Value} {below : List Frame} {meth : Method} {c : Code} {n : Nat} {z : Int32} (X : sX p s m args c cX8_factOf 3 wsX8_factOf) (hr : meth.sig.returnType = some .int ∧ meth.locks = false) {a0 : Int32} {a1 : Int32} {a2 : Int32} {H : Heap} {locs : List Loc} {ls : Array Slot} (w : sH s H locs) (hl : lv_has ls 3 [(0, .int a0), (1, .int a1), (2, .int a2)]) (e0 : fX8_factOf n a0 a1 a2 = some z) : W p l e rmX8_factOf s m args below meth c H locs 0 0 (MQ below (sQi z) args s 0 0 (fun _ => False)) (F0 m 0 ls []) := by
  have hx := X.1
  have hb := X.2.1
  unfold fX8_factOf at e0
  refine lv_bipush (v := 16) hx hb dX8_factOf_0 (by decide) ?_
  refine lv_iload_n hx hb dX8_factOf_2 rfl (lv_at hl 0 rfl) ?_
  refine lv_imul hx hb dX8_factOf_3 ?_
  refine lv_iconst (v := 4) hx hb dX8_factOf_4 (by decide) ?_
  refine lv_iload_n hx hb dX8_factOf_5 rfl (lv_at hl 1 rfl) ?_
  refine lv_imul hx hb dX8_factOf_6 ?_
  refine lv_iadd hx hb dX8_factOf_7 ?_
  refine lv_iload_n hx hb dX8_factOf_8 rfl (lv_at hl 2 rfl) ?_
  refine lv_iadd hx hb dX8_factOf_9 ?_
  have e0 := Option.some.inj e0
  subst e0
  exact s_iret X w hr dX8_factOf_10
set_option maxRecDepth 20000 in
theorem fX8_factOf_met (l : Launch) (n : Nat) (a0 : Int32) (a1 : Int32) (a2 : Int32) (z : Int32) (e0 : fX8_factOf n a0 a1 a2 = some z) : Met l yX8_factOf wsX8_factOf rmX8_factOf (va_Pc [.int a0, .int a1, .int a2] (fun _ => True)) (sQi z) 0 0 (fun _ => False) := by
  refine Met.ofW (cc := cX8_factOf) (maxL := 3) (ret := some .int) (by decide) rfl ?_
  intro p e s m args below meth c s₁ B hml hv
  obtain ⟨rfl, -⟩ := hv
  have hl := lv_entry ([.int a0, .int a1, .int a2]) (n := 3) (Nat.le_of_ble_eq_true rfl)
  rw [lg_entry_eq]
  exact fX8_factOf_w (s := s) ⟨B.exec, B.bytes, hml, findClass_of_methodNamed B.named, atoms_spec (ws := wsX8_factOf) B.pre⟩ ⟨B.returns, B.notSynchronized⟩ va_S.rf hl e0
def rmX8_follows : Room := { frames := 1, cells := 0, slots := 0, locals := 22 }
def fX8_follows_b63 (n : Nat) (k13 : Int32 → Int32 → Int32 → Int32 → (Nat → Int32) → (Nat → Nat → Int32) → Option (Int32 × mSt)) (a1 : Int32) (a2 : Int32) (a3 : Int32) (a4 : Int32) (I : Nat → Int32) (R : Nat → Nat → Int32) : Option (Int32 × mSt) :=
  k13 a1 a2 a3 (a4 + 1) I R
set_option maxRecDepth 20000 in
set_option maxHeartbeats 1000000 in
theorem fX8_follows_b63_w {p : Program} {l : Launch} {e : Env} {s : State} {m : MethodId} {args : Array Value} {below : List Frame} {meth : Method} {c : Code} {D : va_G} {y : ClassId} {h : Nat} {q : Nat → Nat} {n : Nat} {z : Int32 × mSt} (X : mX p s m args c cX8_follows 5 wsX8_follows D y) (hr : meth.sig.returnType = some .boolean ∧ meth.locks = false) {k13 : Int32 → Int32 → Int32 → Int32 → (Nat → Int32) → (Nat → Nat → Int32) → Option (Int32 × mSt)} (hk13 : ∀ (a1 : Int32) (a2 : Int32) (a3 : Int32) (a4 : Int32) (I : Nat → Int32) (R : Nat → Nat → Int32) (H : Heap) (locs : List Loc) (ls : Array Slot), mH s D y h q H locs I R → lv_has ls 5 [(0, .ref h), (1, .int a1), (2, .int a2), (3, .int a3), (4, .int a4)] → k13 a1 a2 a3 a4 I R = some z → W p l e rmX8_follows s m args below meth c H locs 0 0 (MQ below (mQi D y h q (mS y h q s.heap.size) z) args s 0 0 (mS y h q s.heap.size)) (F0 m 13 ls [])) {a1 : Int32} {a2 : Int32} {a3 : Int32} {a4 : Int32} {I : Nat → Int32} {R : Nat → Nat → Int32} {H : Heap} {locs : List Loc} {ls : Array Slot} (w : mH s D y h q H locs I R) (hl : lv_has ls 5 [(0, .ref h), (1, .int a1), (2, .int a2), (3, .int a3), (4, .int a4)]) (e0 : fX8_follows_b63 n k13 a1 a2 a3 a4 I R = some z) : W p l e rmX8_follows s m args below meth c H locs 0 0 (MQ below (mQi D y h q (mS y h q s.heap.size) z) args s 0 0 (mS y h q s.heap.size)) (F0 m 63 ls []) := by
  have hx := X.1.1
  have hb := X.1.2.1
  unfold fX8_follows_b63 at e0
  refine lv_iinc (v := (a4 + 1)) (lv' := [(4, .int (a4 + 1)), (0, .ref h), (1, .int a1), (2, .int a2), (3, .int a3)]) hx hb dX8_follows_63 hl (k := 4) rfl rfl (by decide) rfl (fun ls hl => ?_)
  refine lv_goto (tgt := 13) hx hb dX8_follows_66 (by decide) ?_
  exact hk13 _ _ _ _ _ _ _ _ _ w (lv_sub hl [1, 2, 3, 4, 0] rfl) e0
def fX8_follows_b13 (n : Nat) : Nat → Int32 → Int32 → Int32 → Int32 → (Nat → Int32) → (Nat → Nat → Int32) → Option (Int32 × mSt)
  | 0, _, _, _, _, _, _ => none
  | j + 1, a1, a2, a3, a4, I, R =>
    if 4 ≤ a4 then
      some (0, I, R)
    else
      if inb a1 5 = true then
      (fX8_factOf n (getA R 11 a1) a2 a4).bind fun z26 =>
      if inb z26 64 = true then
      if (getA R 22 z26) = 1 then
        if inb a1 5 = true then
        (fX8_factOf n (getA R 12 a1) a4 a3).bind fun z30 =>
        if inb z30 64 = true then
        if (getA R 22 z30) = 1 then
          some (1, I, R)
        else
          fX8_follows_b63 n (fX8_follows_b13 n j) a1 a2 a3 a4 I R
        else none
        else none
      else
        fX8_follows_b63 n (fX8_follows_b13 n j) a1 a2 a3 a4 I R
      else none
      else none
set_option maxRecDepth 20000 in
set_option maxHeartbeats 1000000 in
theorem fX8_follows_b13_w {p : Program} {l : Launch} {e : Env} {s : State} {m : MethodId} {args : Array Value} {below : List Frame} {meth : Method} {c : Code} {D : va_G} {y : ClassId} {h : Nat} {q : Nat → Nat} {n : Nat} {z : Int32 × mSt} (X : mX p s m args c cX8_follows 5 wsX8_follows D y) (hr : meth.sig.returnType = some .boolean ∧ meth.locks = false) : ∀ (j : Nat) (a1 : Int32) (a2 : Int32) (a3 : Int32) (a4 : Int32) (I : Nat → Int32) (R : Nat → Nat → Int32) (H : Heap) (locs : List Loc) (ls : Array Slot), mH s D y h q H locs I R → lv_has ls 5 [(0, .ref h), (1, .int a1), (2, .int a2), (3, .int a3), (4, .int a4)] → fX8_follows_b13 n j a1 a2 a3 a4 I R = some z → W p l e rmX8_follows s m args below meth c H locs 0 0 (MQ below (mQi D y h q (mS y h q s.heap.size) z) args s 0 0 (mS y h q s.heap.size)) (F0 m 13 ls []) := by
  have hx := X.1.1
  have hb := X.1.2.1
  intro j
  induction j with
  | zero =>
    intro a1 a2 a3 a4 I R H locs ls w hl e0
    cases e0
  | succ j ih =>
    intro a1 a2 a3 a4 I R H locs ls w hl e0
    rw [fX8_follows_b13] at e0
    refine lv_iload hx hb dX8_follows_13 (lv_at hl 4 rfl) ?_
    refine lv_iconst (v := 4) hx hb dX8_follows_15 (by decide) ?_
    refine lv_icmp_ge (tgt := 69) hx hb dX8_follows_16 (by decide) (fun c35 => ?_) (fun c35 => ?_)
    · have e0 := itp _ c35 e0
      refine lv_iconst (v := 0) hx hb dX8_follows_69 (by decide) ?_
      have e0 := Option.some.inj e0
      subst e0
      exact m_zret X w hr rfl dX8_follows_70
    · have e0 := itn _ c35 e0
      refine lv_aload_n hx hb dX8_follows_19 rfl (lv_at hl 0 rfl) ?_
      refine m_get X w 22 (by decide) (index := 52) rfl (by decide +kernel) (mfr22 _ _) dX8_follows_20 ?_
      refine lv_aload_n hx hb dX8_follows_23 rfl (lv_at hl 0 rfl) ?_
      refine m_get X w 11 (by decide) (index := 31) rfl (by decide +kernel) (mfr11 _ _) dX8_follows_24 ?_
      refine lv_iload_n hx hb dX8_follows_27 rfl (lv_at hl 1 rfl) ?_
      refine gd e0 (fun g25 e0 => ?_)
      refine m_ald X w 8 11 (mat11 _ _ _ _ _) g25 dX8_follows_28 ?_
      refine lv_iload_n hx hb dX8_follows_29 rfl (lv_at hl 2 rfl) ?_
      refine lv_iload hx hb dX8_follows_30 (lv_at hl 4 rfl) ?_
      refine bd e0 (fun z26 e27 e0 => ?_)
      refine m_callsi X w (n := 3) (As := [.int (getA R 11 a1), .int a2, .int a4]) (rest := [.ref (q 22)]) (fX8_factOf_met l _ _ _ _ _ e27) gX8_follows_X8_factOf rfl rfl rfl (by decide +kernel) ⟨Nat.le_of_ble_eq_true rfl, Nat.le_of_ble_eq_true rfl⟩ rfl hl.1 rfl (Nat.le_of_ble_eq_true rfl) dX8_follows_32 (fun H locs w => ?_)
      refine gd e0 (fun g28 e0 => ?_)
      refine m_ald X w 15 22 (mat22 _ _ _ _ _) g28 dX8_follows_35 ?_
      refine lv_iconst (v := 1) hx hb dX8_follows_36 (by decide) ?_
      refine lv_icmp_ne (tgt := 63) hx hb dX8_follows_37 (by decide) (fun c34 => ?_) (fun c34 => ?_)
      · have e0 := itn _ c34 e0
        exact fX8_follows_b63_w (l := l) X hr ih w (lv_sub hl [0, 1, 2, 3, 4] rfl) e0
      · have e0 := itp _ c34 e0
        refine lv_aload_n hx hb dX8_follows_40 rfl (lv_at hl 0 rfl) ?_
        refine m_get X w 22 (by decide) (index := 52) rfl (by decide +kernel) (mfr22 _ _) dX8_follows_41 ?_
        refine lv_aload_n hx hb dX8_follows_44 rfl (lv_at hl 0 rfl) ?_
        refine m_get X w 12 (by decide) (index := 34) rfl (by decide +kernel) (mfr12 _ _) dX8_follows_45 ?_
        refine lv_iload_n hx hb dX8_follows_48 rfl (lv_at hl 1 rfl) ?_
        refine gd e0 (fun g29 e0 => ?_)
        refine m_ald X w 9 12 (mat12 _ _ _ _ _) g29 dX8_follows_49 ?_
        refine lv_iload hx hb dX8_follows_50 (lv_at hl 4 rfl) ?_
        refine lv_iload_n hx hb dX8_follows_52 rfl (lv_at hl 3 rfl) ?_
        refine bd e0 (fun z30 e31 e0 => ?_)
        refine m_callsi X w (n := 3) (As := [.int (getA R 12 a1), .int a4, .int a3]) (rest := [.ref (q 22)]) (fX8_factOf_met l _ _ _ _ _ e31) gX8_follows_X8_factOf rfl rfl rfl (by decide +kernel) ⟨Nat.le_of_ble_eq_true rfl, Nat.le_of_ble_eq_true rfl⟩ rfl hl.1 rfl (Nat.le_of_ble_eq_true rfl) dX8_follows_53 (fun H locs w => ?_)
        refine gd e0 (fun g32 e0 => ?_)
        refine m_ald X w 15 22 (mat22 _ _ _ _ _) g32 dX8_follows_56 ?_
        refine lv_iconst (v := 1) hx hb dX8_follows_57 (by decide) ?_
        refine lv_icmp_ne (tgt := 63) hx hb dX8_follows_58 (by decide) (fun c33 => ?_) (fun c33 => ?_)
        · have e0 := itn _ c33 e0
          exact fX8_follows_b63_w (l := l) X hr ih w (lv_sub hl [0, 1, 2, 3, 4] rfl) e0
        · have e0 := itp _ c33 e0
          refine lv_iconst (v := 1) hx hb dX8_follows_61 (by decide) ?_
          have e0 := Option.some.inj e0
          subst e0
          exact m_zret X w hr rfl dX8_follows_62
def fX8_follows_b164 (n : Nat) (t0 : Int32) (I : Nat → Int32) (R : Nat → Nat → Int32) : Option (Int32 × mSt) :=
  if inb t0 64 = true then
  if (getA R 22 t0) = 1 then
    some (1, I, R)
  else
    some (0, I, R)
  else none
set_option maxRecDepth 20000 in
set_option maxHeartbeats 1000000 in
theorem fX8_follows_b164_w {p : Program} {l : Launch} {e : Env} {s : State} {m : MethodId} {args : Array Value} {below : List Frame} {meth : Method} {c : Code} {D : va_G} {y : ClassId} {h : Nat} {q : Nat → Nat} {n : Nat} {z : Int32 × mSt} (X : mX p s m args c cX8_follows 5 wsX8_follows D y) (hr : meth.sig.returnType = some .boolean ∧ meth.locks = false) {t0 : Int32} {I : Nat → Int32} {R : Nat → Nat → Int32} {H : Heap} {locs : List Loc} {ls : Array Slot} (w : mH s D y h q H locs I R) (hl : lv_has ls 5 [(0, .ref h)]) (e0 : fX8_follows_b164 n t0 I R = some z) : W p l e rmX8_follows s m args below meth c H locs 0 0 (MQ below (mQi D y h q (mS y h q s.heap.size) z) args s 0 0 (mS y h q s.heap.size)) (F0 m 164 ls [.int t0, .ref (q 22)]) := by
  have hx := X.1.1
  have hb := X.1.2.1
  unfold fX8_follows_b164 at e0
  refine gd e0 (fun g23 e0 => ?_)
  refine m_ald X w 15 22 (mat22 _ _ _ _ _) g23 dX8_follows_164 ?_
  refine lv_iconst (v := 1) hx hb dX8_follows_165 (by decide) ?_
  refine lv_icmp_ne (tgt := 173) hx hb dX8_follows_166 (by decide) (fun c24 => ?_) (fun c24 => ?_)
  · have e0 := itn _ c24 e0
    refine lv_iconst (v := 0) hx hb dX8_follows_173 (by decide) ?_
    have e0 := Option.some.inj e0
    subst e0
    exact m_zret X w hr rfl dX8_follows_174
  · have e0 := itp _ c24 e0
    refine lv_iconst (v := 1) hx hb dX8_follows_169 (by decide) ?_
    refine lv_goto (tgt := 174) hx hb dX8_follows_170 (by decide) ?_
    have e0 := Option.some.inj e0
    subst e0
    exact m_zret X w hr rfl dX8_follows_174
def fX8_follows (n : Nat) (a1 : Int32) (a2 : Int32) (a3 : Int32) (I : Nat → Int32) (R : Nat → Nat → Int32) : Option (Int32 × mSt) :=
  if inb a1 5 = true then
  if (getA R 9 a1) = 2 then
    fX8_follows_b13 n n a1 a2 a3 0 I R
  else
    if inb a1 5 = true then
    if (getA R 9 a1) = 3 then
      if inb a1 5 = true then
      (fX8_factOf n (getA R 11 a1) a2 a3).bind fun z12 =>
      if inb z12 64 = true then
      if (getA R 22 z12) = 1 then
        if inb a1 5 = true then
        (fX8_factOf n (getA R 12 a1) a2 a3).bind fun z16 =>
        if inb z16 64 = true then
        if (getA R 22 z16) = 0 then
          some (1, I, R)
        else
          some (0, I, R)
        else none
        else none
      else
        some (0, I, R)
      else none
      else none
    else
      if inb a1 5 = true then
      if (getA R 9 a1) = 0 then
        if inb a1 5 = true then
        (fX8_factOf n (getA R 11 a1) a2 a3).bind fun z8 =>
        fX8_follows_b164 n z8 I R
        else none
      else
        if inb a1 5 = true then
        (fX8_factOf n (getA R 11 a1) a3 a2).bind fun z5 =>
        fX8_follows_b164 n z5 I R
        else none
      else none
    else none
  else none
set_option maxRecDepth 20000 in
set_option maxHeartbeats 1000000 in
theorem fX8_follows_w {p : Program} {l : Launch} {e : Env} {s : State} {m : MethodId} {args : Array Value} {below : List Frame} {meth : Method} {c : Code} {D : va_G} {y : ClassId} {h : Nat} {q : Nat → Nat} {n : Nat} {z : Int32 × mSt} (X : mX p s m args c cX8_follows 5 wsX8_follows D y) (hr : meth.sig.returnType = some .boolean ∧ meth.locks = false) {a1 : Int32} {a2 : Int32} {a3 : Int32} {I : Nat → Int32} {R : Nat → Nat → Int32} {H : Heap} {locs : List Loc} {ls : Array Slot} (w : mH s D y h q H locs I R) (hl : lv_has ls 5 [(0, .ref h), (1, .int a1), (2, .int a2), (3, .int a3)]) (e0 : fX8_follows n a1 a2 a3 I R = some z) : W p l e rmX8_follows s m args below meth c H locs 0 0 (MQ below (mQi D y h q (mS y h q s.heap.size) z) args s 0 0 (mS y h q s.heap.size)) (F0 m 0 ls []) := by
  have hx := X.1.1
  have hb := X.1.2.1
  unfold fX8_follows at e0
  refine lv_aload_n hx hb dX8_follows_0 rfl (lv_at hl 0 rfl) ?_
  refine m_get X w 9 (by decide) (index := 25) rfl (by decide +kernel) (mfr9 _ _) dX8_follows_1 ?_
  refine lv_iload_n hx hb dX8_follows_4 rfl (lv_at hl 1 rfl) ?_
  refine gd e0 (fun g1 e0 => ?_)
  refine m_ald X w 6 9 (mat9 _ _ _ _ _) g1 dX8_follows_5 ?_
  refine lv_iconst (v := 2) hx hb dX8_follows_6 (by decide) ?_
  refine lv_icmp_ne (tgt := 71) hx hb dX8_follows_7 (by decide) (fun c22 => ?_) (fun c22 => ?_)
  · have e0 := itn _ c22 e0
    refine lv_aload_n hx hb dX8_follows_71 rfl (lv_at hl 0 rfl) ?_
    refine m_get X w 9 (by decide) (index := 25) rfl (by decide +kernel) (mfr9 _ _) dX8_follows_72 ?_
    refine lv_iload_n hx hb dX8_follows_75 rfl (lv_at hl 1 rfl) ?_
    refine gd e0 (fun g2 e0 => ?_)
    refine m_ald X w 6 9 (mat9 _ _ _ _ _) g2 dX8_follows_76 ?_
    refine lv_iconst (v := 3) hx hb dX8_follows_77 (by decide) ?_
    refine lv_icmp_ne (tgt := 126) hx hb dX8_follows_78 (by decide) (fun c21 => ?_) (fun c21 => ?_)
    · have e0 := itn _ c21 e0
      refine lv_aload_n hx hb dX8_follows_126 rfl (lv_at hl 0 rfl) ?_
      refine m_get X w 22 (by decide) (index := 52) rfl (by decide +kernel) (mfr22 _ _) dX8_follows_127 ?_
      refine lv_aload_n hx hb dX8_follows_130 rfl (lv_at hl 0 rfl) ?_
      refine m_get X w 9 (by decide) (index := 25) rfl (by decide +kernel) (mfr9 _ _) dX8_follows_131 ?_
      refine lv_iload_n hx hb dX8_follows_134 rfl (lv_at hl 1 rfl) ?_
      refine gd e0 (fun g3 e0 => ?_)
      refine m_ald X w 6 9 (mat9 _ _ _ _ _) g3 dX8_follows_135 ?_
      refine lv_if_ne (tgt := 153) hx hb dX8_follows_136 (by decide) (fun c10 => ?_) (fun c10 => ?_)
      · have e0 := itn _ c10 e0
        refine lv_aload_n hx hb dX8_follows_153 rfl (lv_at hl 0 rfl) ?_
        refine m_get X w 11 (by decide) (index := 31) rfl (by decide +kernel) (mfr11 _ _) dX8_follows_154 ?_
        refine lv_iload_n hx hb dX8_follows_157 rfl (lv_at hl 1 rfl) ?_
        refine gd e0 (fun g4 e0 => ?_)
        refine m_ald X w 8 11 (mat11 _ _ _ _ _) g4 dX8_follows_158 ?_
        refine lv_iload_n hx hb dX8_follows_159 rfl (lv_at hl 3 rfl) ?_
        refine lv_iload_n hx hb dX8_follows_160 rfl (lv_at hl 2 rfl) ?_
        refine bd e0 (fun z5 e6 e0 => ?_)
        refine m_callsi X w (n := 3) (As := [.int (getA R 11 a1), .int a3, .int a2]) (rest := [.ref (q 22)]) (fX8_factOf_met l _ _ _ _ _ e6) gX8_follows_X8_factOf rfl rfl rfl (by decide +kernel) ⟨Nat.le_of_ble_eq_true rfl, Nat.le_of_ble_eq_true rfl⟩ rfl hl.1 rfl (Nat.le_of_ble_eq_true rfl) dX8_follows_161 (fun H locs w => ?_)
        exact fX8_follows_b164_w (l := l) X hr w (lv_sub hl [0] rfl) e0
      · have e0 := itp _ c10 e0
        refine lv_aload_n hx hb dX8_follows_139 rfl (lv_at hl 0 rfl) ?_
        refine m_get X w 11 (by decide) (index := 31) rfl (by decide +kernel) (mfr11 _ _) dX8_follows_140 ?_
        refine lv_iload_n hx hb dX8_follows_143 rfl (lv_at hl 1 rfl) ?_
        refine gd e0 (fun g7 e0 => ?_)
        refine m_ald X w 8 11 (mat11 _ _ _ _ _) g7 dX8_follows_144 ?_
        refine lv_iload_n hx hb dX8_follows_145 rfl (lv_at hl 2 rfl) ?_
        refine lv_iload_n hx hb dX8_follows_146 rfl (lv_at hl 3 rfl) ?_
        refine bd e0 (fun z8 e9 e0 => ?_)
        refine m_callsi X w (n := 3) (As := [.int (getA R 11 a1), .int a2, .int a3]) (rest := [.ref (q 22)]) (fX8_factOf_met l _ _ _ _ _ e9) gX8_follows_X8_factOf rfl rfl rfl (by decide +kernel) ⟨Nat.le_of_ble_eq_true rfl, Nat.le_of_ble_eq_true rfl⟩ rfl hl.1 rfl (Nat.le_of_ble_eq_true rfl) dX8_follows_147 (fun H locs w => ?_)
        refine lv_goto (tgt := 164) hx hb dX8_follows_150 (by decide) ?_
        exact fX8_follows_b164_w (l := l) X hr w (lv_sub hl [0] rfl) e0
    · have e0 := itp _ c21 e0
      refine lv_aload_n hx hb dX8_follows_81 rfl (lv_at hl 0 rfl) ?_
      refine m_get X w 22 (by decide) (index := 52) rfl (by decide +kernel) (mfr22 _ _) dX8_follows_82 ?_
      refine lv_aload_n hx hb dX8_follows_85 rfl (lv_at hl 0 rfl) ?_
      refine m_get X w 11 (by decide) (index := 31) rfl (by decide +kernel) (mfr11 _ _) dX8_follows_86 ?_
      refine lv_iload_n hx hb dX8_follows_89 rfl (lv_at hl 1 rfl) ?_
      refine gd e0 (fun g11 e0 => ?_)
      refine m_ald X w 8 11 (mat11 _ _ _ _ _) g11 dX8_follows_90 ?_
      refine lv_iload_n hx hb dX8_follows_91 rfl (lv_at hl 2 rfl) ?_
      refine lv_iload_n hx hb dX8_follows_92 rfl (lv_at hl 3 rfl) ?_
      refine bd e0 (fun z12 e13 e0 => ?_)
      refine m_callsi X w (n := 3) (As := [.int (getA R 11 a1), .int a2, .int a3]) (rest := [.ref (q 22)]) (fX8_factOf_met l _ _ _ _ _ e13) gX8_follows_X8_factOf rfl rfl rfl (by decide +kernel) ⟨Nat.le_of_ble_eq_true rfl, Nat.le_of_ble_eq_true rfl⟩ rfl hl.1 rfl (Nat.le_of_ble_eq_true rfl) dX8_follows_93 (fun H locs w => ?_)
      refine gd e0 (fun g14 e0 => ?_)
      refine m_ald X w 15 22 (mat22 _ _ _ _ _) g14 dX8_follows_96 ?_
      refine lv_iconst (v := 1) hx hb dX8_follows_97 (by decide) ?_
      refine lv_icmp_ne (tgt := 124) hx hb dX8_follows_98 (by decide) (fun c20 => ?_) (fun c20 => ?_)
      · have e0 := itn _ c20 e0
        refine lv_iconst (v := 0) hx hb dX8_follows_124 (by decide) ?_
        have e0 := Option.some.inj e0
        subst e0
        exact m_zret X w hr rfl dX8_follows_125
      · have e0 := itp _ c20 e0
        refine lv_aload_n hx hb dX8_follows_101 rfl (lv_at hl 0 rfl) ?_
        refine m_get X w 22 (by decide) (index := 52) rfl (by decide +kernel) (mfr22 _ _) dX8_follows_102 ?_
        refine lv_aload_n hx hb dX8_follows_105 rfl (lv_at hl 0 rfl) ?_
        refine m_get X w 12 (by decide) (index := 34) rfl (by decide +kernel) (mfr12 _ _) dX8_follows_106 ?_
        refine lv_iload_n hx hb dX8_follows_109 rfl (lv_at hl 1 rfl) ?_
        refine gd e0 (fun g15 e0 => ?_)
        refine m_ald X w 9 12 (mat12 _ _ _ _ _) g15 dX8_follows_110 ?_
        refine lv_iload_n hx hb dX8_follows_111 rfl (lv_at hl 2 rfl) ?_
        refine lv_iload_n hx hb dX8_follows_112 rfl (lv_at hl 3 rfl) ?_
        refine bd e0 (fun z16 e17 e0 => ?_)
        refine m_callsi X w (n := 3) (As := [.int (getA R 12 a1), .int a2, .int a3]) (rest := [.ref (q 22)]) (fX8_factOf_met l _ _ _ _ _ e17) gX8_follows_X8_factOf rfl rfl rfl (by decide +kernel) ⟨Nat.le_of_ble_eq_true rfl, Nat.le_of_ble_eq_true rfl⟩ rfl hl.1 rfl (Nat.le_of_ble_eq_true rfl) dX8_follows_113 (fun H locs w => ?_)
        refine gd e0 (fun g18 e0 => ?_)
        refine m_ald X w 15 22 (mat22 _ _ _ _ _) g18 dX8_follows_116 ?_
        refine lv_if_ne (tgt := 124) hx hb dX8_follows_117 (by decide) (fun c19 => ?_) (fun c19 => ?_)
        · have e0 := itn _ c19 e0
          refine lv_iconst (v := 0) hx hb dX8_follows_124 (by decide) ?_
          have e0 := Option.some.inj e0
          subst e0
          exact m_zret X w hr rfl dX8_follows_125
        · have e0 := itp _ c19 e0
          refine lv_iconst (v := 1) hx hb dX8_follows_120 (by decide) ?_
          refine lv_goto (tgt := 125) hx hb dX8_follows_121 (by decide) ?_
          have e0 := Option.some.inj e0
          subst e0
          exact m_zret X w hr rfl dX8_follows_125
  · have e0 := itp _ c22 e0
    refine lv_iconst (v := 0) hx hb dX8_follows_10 (by decide) ?_
    refine lv_istore (lv' := [(4, .int 0), (0, .ref h), (1, .int a1), (2, .int a2), (3, .int a3)]) hx hb dX8_follows_11 hl (by decide) rfl (fun ls hl => ?_)
    exact fX8_follows_b13_w (l := l) X hr n _ _ _ _ _ _ _ _ _ w (lv_sub hl [1, 2, 3, 4, 0] rfl) e0
set_option maxRecDepth 20000 in
theorem fX8_follows_met (l : Launch) (D : va_G) (y : ClassId) (h : Nat) (q : Nat → Nat) (sz n : Nat) (a1 : Int32) (a2 : Int32) (a3 : Int32) (I : Nat → Int32) (R : Nat → Nat → Int32) (z : Int32 × mSt) (e0 : fX8_follows n a1 a2 a3 I R = some z) : Met l yX8_follows wsX8_follows rmX8_follows (va_Pc [.ref h, .int a1, .int a2, .int a3] (mPre D y h q sz I R)) (mQi D y h q (mS y h q sz) z) 0 0 (mS y h q sz) := by
  refine Met.ofW (cc := cX8_follows) (maxL := 5) (ret := some .boolean) (by decide) rfl ?_
  intro p e s m args below meth c s₁ B hml hv
  obtain ⟨rfl, hsz, hP, hK, hD⟩ := hv
  subst hsz
  have hl := lv_entry ([.ref h, .int a1, .int a2, .int a3]) (n := 5) (Nat.le_of_ble_eq_true rfl)
  rw [lg_entry_eq]
  exact fX8_follows_w (s := s) ⟨⟨B.exec, B.bytes, hml, findClass_of_methodNamed B.named, atoms_spec (ws := wsX8_follows) B.pre⟩, fun _ h9 => List.mem_cons_of_mem _ (List.mem_append_right _ h9), hK⟩ ⟨B.returns, B.notSynchronized⟩ ⟨hP, mS_D hD, va_S.rf⟩ hl e0
def rmX8_goesRound : Room := { frames := 2, cells := 0, slots := 0, locals := 46 }
def fX8_goesRound_b126 (n : Nat) (k30 : Int32 → Int32 → Int32 → (Nat → Int32) → (Nat → Nat → Int32) → Option (Int32 × mSt)) (k41 : Int32 → Int32 → Int32 → Int32 → (Nat → Int32) → (Nat → Nat → Int32) → Option (Int32 × mSt)) (a1 : Int32) (a2 : Int32) (a3 : Int32) (a4 : Int32) (I : Nat → Int32) (R : Nat → Nat → Int32) : Option (Int32 × mSt) :=
  k41 a1 a2 a3 (a4 + 1) I R
set_option maxRecDepth 20000 in
set_option maxHeartbeats 1000000 in
theorem fX8_goesRound_b126_w {p : Program} {l : Launch} {e : Env} {s : State} {m : MethodId} {args : Array Value} {below : List Frame} {meth : Method} {c : Code} {D : va_G} {y : ClassId} {h : Nat} {q : Nat → Nat} {n : Nat} {z : Int32 × mSt} (X : mX p s m args c cX8_goesRound 6 wsX8_goesRound D y) (hr : meth.sig.returnType = some .boolean ∧ meth.locks = false) {k30 : Int32 → Int32 → Int32 → (Nat → Int32) → (Nat → Nat → Int32) → Option (Int32 × mSt)} (hk30 : ∀ (a1 : Int32) (a2 : Int32) (a3 : Int32) (I : Nat → Int32) (R : Nat → Nat → Int32) (H : Heap) (locs : List Loc) (ls : Array Slot), mH s D y h q H locs I R → lv_has ls 6 [(0, .ref h), (1, .int a1), (2, .int a2), (3, .int a3)] → k30 a1 a2 a3 I R = some z → W p l e rmX8_goesRound s m args below meth c H locs 0 0 (MQ below (mQi D y h q (mS y h q s.heap.size) z) args s 0 0 (mS y h q s.heap.size)) (F0 m 30 ls [])) {k41 : Int32 → Int32 → Int32 → Int32 → (Nat → Int32) → (Nat → Nat → Int32) → Option (Int32 × mSt)} (hk41 : ∀ (a1 : Int32) (a2 : Int32) (a3 : Int32) (a4 : Int32) (I : Nat → Int32) (R : Nat → Nat → Int32) (H : Heap) (locs : List Loc) (ls : Array Slot), mH s D y h q H locs I R → lv_has ls 6 [(0, .ref h), (1, .int a1), (2, .int a2), (3, .int a3), (4, .int a4)] → k41 a1 a2 a3 a4 I R = some z → W p l e rmX8_goesRound s m args below meth c H locs 0 0 (MQ below (mQi D y h q (mS y h q s.heap.size) z) args s 0 0 (mS y h q s.heap.size)) (F0 m 41 ls [])) {a1 : Int32} {a2 : Int32} {a3 : Int32} {a4 : Int32} {I : Nat → Int32} {R : Nat → Nat → Int32} {H : Heap} {locs : List Loc} {ls : Array Slot} (w : mH s D y h q H locs I R) (hl : lv_has ls 6 [(0, .ref h), (1, .int a1), (2, .int a2), (3, .int a3), (4, .int a4)]) (e0 : fX8_goesRound_b126 n k30 k41 a1 a2 a3 a4 I R = some z) : W p l e rmX8_goesRound s m args below meth c H locs 0 0 (MQ below (mQi D y h q (mS y h q s.heap.size) z) args s 0 0 (mS y h q s.heap.size)) (F0 m 126 ls []) := by
  have hx := X.1.1
  have hb := X.1.2.1
  unfold fX8_goesRound_b126 at e0
  refine lv_iinc (v := (a4 + 1)) (lv' := [(4, .int (a4 + 1)), (0, .ref h), (1, .int a1), (2, .int a2), (3, .int a3)]) hx hb dX8_goesRound_126 hl (k := 4) rfl rfl (by decide) rfl (fun ls hl => ?_)
  refine lv_goto (tgt := 41) hx hb dX8_goesRound_129 (by decide) ?_
  exact hk41 _ _ _ _ _ _ _ _ _ w (lv_sub hl [1, 2, 3, 4, 0] rfl) e0
def fX8_goesRound_b132 (n : Nat) (k30 : Int32 → Int32 → Int32 → (Nat → Int32) → (Nat → Nat → Int32) → Option (Int32 × mSt)) (a1 : Int32) (a2 : Int32) (a3 : Int32) (I : Nat → Int32) (R : Nat → Nat → Int32) : Option (Int32 × mSt) :=
  k30 a1 a2 (a3 + 1) I R
set_option maxRecDepth 20000 in
set_option maxHeartbeats 1000000 in
theorem fX8_goesRound_b132_w {p : Program} {l : Launch} {e : Env} {s : State} {m : MethodId} {args : Array Value} {below : List Frame} {meth : Method} {c : Code} {D : va_G} {y : ClassId} {h : Nat} {q : Nat → Nat} {n : Nat} {z : Int32 × mSt} (X : mX p s m args c cX8_goesRound 6 wsX8_goesRound D y) (hr : meth.sig.returnType = some .boolean ∧ meth.locks = false) {k30 : Int32 → Int32 → Int32 → (Nat → Int32) → (Nat → Nat → Int32) → Option (Int32 × mSt)} (hk30 : ∀ (a1 : Int32) (a2 : Int32) (a3 : Int32) (I : Nat → Int32) (R : Nat → Nat → Int32) (H : Heap) (locs : List Loc) (ls : Array Slot), mH s D y h q H locs I R → lv_has ls 6 [(0, .ref h), (1, .int a1), (2, .int a2), (3, .int a3)] → k30 a1 a2 a3 I R = some z → W p l e rmX8_goesRound s m args below meth c H locs 0 0 (MQ below (mQi D y h q (mS y h q s.heap.size) z) args s 0 0 (mS y h q s.heap.size)) (F0 m 30 ls [])) {a1 : Int32} {a2 : Int32} {a3 : Int32} {I : Nat → Int32} {R : Nat → Nat → Int32} {H : Heap} {locs : List Loc} {ls : Array Slot} (w : mH s D y h q H locs I R) (hl : lv_has ls 6 [(0, .ref h), (1, .int a1), (2, .int a2), (3, .int a3)]) (e0 : fX8_goesRound_b132 n k30 a1 a2 a3 I R = some z) : W p l e rmX8_goesRound s m args below meth c H locs 0 0 (MQ below (mQi D y h q (mS y h q s.heap.size) z) args s 0 0 (mS y h q s.heap.size)) (F0 m 132 ls []) := by
  have hx := X.1.1
  have hb := X.1.2.1
  unfold fX8_goesRound_b132 at e0
  refine lv_iinc (v := (a3 + 1)) (lv' := [(3, .int (a3 + 1)), (0, .ref h), (1, .int a1), (2, .int a2)]) hx hb dX8_goesRound_132 hl (k := 3) rfl rfl (by decide) rfl (fun ls hl => ?_)
  refine lv_goto (tgt := 30) hx hb dX8_goesRound_135 (by decide) ?_
  exact hk30 _ _ _ _ _ _ _ _ w (lv_sub hl [1, 2, 3, 0] rfl) e0
def fX8_goesRound_b41 (n : Nat) (k30 : Int32 → Int32 → Int32 → (Nat → Int32) → (Nat → Nat → Int32) → Option (Int32 × mSt)) : Nat → Int32 → Int32 → Int32 → Int32 → (Nat → Int32) → (Nat → Nat → Int32) → Option (Int32 × mSt)
  | 0, _, _, _, _, _, _ => none
  | j + 1, a1, a2, a3, a4, I, R =>
    if 16 ≤ a4 then
      fX8_goesRound_b132 n k30 a1 a2 a3 I R
    else
      if inb a3 5 = true then
      if inb (getA R 10 a3) 4 = true then
      if (getA R 21 (getA R 10 a3)) = a1 then
        if inb a3 5 = true then
        if inb ((16 * (getA R 10 a3)) + a4) 64 = true then
        if (getA R 23 ((16 * (getA R 10 a3)) + a4)) = 0 then
          (fX8_follows n a3 (a4 / 4) (a4 - a4 / 4 * 4) I R).bind fun z13 =>
          if z13.1 = 0 then
            fX8_goesRound_b126 n k30 (fX8_goesRound_b41 n k30 j) a1 a2 a3 a4 z13.2.1 z13.2.2
          else
            if inb ((16 * (getA R 10 a3)) + a4) 64 = true then
            if inb ((16 * (getA R 10 a3)) + a4) 64 = true then
            fX8_goesRound_b126 n k30 (fX8_goesRound_b41 n k30 j) a1 1 a3 a4 z13.2.1 (setA (setA z13.2.2 23 ((16 * (getA R 10 a3)) + a4) 1) 24 ((16 * (getA R 10 a3)) + a4) ((z13.2.1 25) + 1))
            else none
            else none
        else
          fX8_goesRound_b126 n k30 (fX8_goesRound_b41 n k30 j) a1 a2 a3 a4 I R
        else none
        else none
      else
        fX8_goesRound_b132 n k30 a1 a2 a3 I R
      else none
      else none
set_option maxRecDepth 20000 in
set_option maxHeartbeats 1000000 in
theorem fX8_goesRound_b41_w {p : Program} {l : Launch} {e : Env} {s : State} {m : MethodId} {args : Array Value} {below : List Frame} {meth : Method} {c : Code} {D : va_G} {y : ClassId} {h : Nat} {q : Nat → Nat} {n : Nat} {z : Int32 × mSt} (X : mX p s m args c cX8_goesRound 6 wsX8_goesRound D y) (hr : meth.sig.returnType = some .boolean ∧ meth.locks = false) {k30 : Int32 → Int32 → Int32 → (Nat → Int32) → (Nat → Nat → Int32) → Option (Int32 × mSt)} (hk30 : ∀ (a1 : Int32) (a2 : Int32) (a3 : Int32) (I : Nat → Int32) (R : Nat → Nat → Int32) (H : Heap) (locs : List Loc) (ls : Array Slot), mH s D y h q H locs I R → lv_has ls 6 [(0, .ref h), (1, .int a1), (2, .int a2), (3, .int a3)] → k30 a1 a2 a3 I R = some z → W p l e rmX8_goesRound s m args below meth c H locs 0 0 (MQ below (mQi D y h q (mS y h q s.heap.size) z) args s 0 0 (mS y h q s.heap.size)) (F0 m 30 ls [])) : ∀ (j : Nat) (a1 : Int32) (a2 : Int32) (a3 : Int32) (a4 : Int32) (I : Nat → Int32) (R : Nat → Nat → Int32) (H : Heap) (locs : List Loc) (ls : Array Slot), mH s D y h q H locs I R → lv_has ls 6 [(0, .ref h), (1, .int a1), (2, .int a2), (3, .int a3), (4, .int a4)] → fX8_goesRound_b41 n k30 j a1 a2 a3 a4 I R = some z → W p l e rmX8_goesRound s m args below meth c H locs 0 0 (MQ below (mQi D y h q (mS y h q s.heap.size) z) args s 0 0 (mS y h q s.heap.size)) (F0 m 41 ls []) := by
  have hx := X.1.1
  have hb := X.1.2.1
  intro j
  induction j with
  | zero =>
    intro a1 a2 a3 a4 I R H locs ls w hl e0
    cases e0
  | succ j ih =>
    intro a1 a2 a3 a4 I R H locs ls w hl e0
    rw [fX8_goesRound_b41] at e0
    refine lv_iload hx hb dX8_goesRound_41 (lv_at hl 4 rfl) ?_
    refine lv_bipush (v := 16) hx hb dX8_goesRound_43 (by decide) ?_
    refine lv_icmp_ge (tgt := 132) hx hb dX8_goesRound_45 (by decide) (fun c20 => ?_) (fun c20 => ?_)
    · have e0 := itp _ c20 e0
      exact fX8_goesRound_b132_w (l := l) X hr hk30 w (lv_sub hl [0, 1, 2, 3] rfl) e0
    · have e0 := itn _ c20 e0
      refine lv_aload_n hx hb dX8_goesRound_48 rfl (lv_at hl 0 rfl) ?_
      refine m_get X w 21 (by decide) (index := 49) rfl (by decide +kernel) (mfr21 _ _) dX8_goesRound_49 ?_
      refine lv_aload_n hx hb dX8_goesRound_52 rfl (lv_at hl 0 rfl) ?_
      refine m_get X w 10 (by decide) (index := 28) rfl (by decide +kernel) (mfr10 _ _) dX8_goesRound_53 ?_
      refine lv_iload_n hx hb dX8_goesRound_56 rfl (lv_at hl 3 rfl) ?_
      refine gd e0 (fun g9 e0 => ?_)
      refine m_ald X w 7 10 (mat10 _ _ _ _ _) g9 dX8_goesRound_57 ?_
      refine gd e0 (fun g10 e0 => ?_)
      refine m_ald X w 14 21 (mat21 _ _ _ _ _) g10 dX8_goesRound_58 ?_
      refine lv_iload_n hx hb dX8_goesRound_59 rfl (lv_at hl 1 rfl) ?_
      refine lv_icmp_ne (tgt := 132) hx hb dX8_goesRound_60 (by decide) (fun c19 => ?_) (fun c19 => ?_)
      · have e0 := itn _ c19 e0
        exact fX8_goesRound_b132_w (l := l) X hr hk30 w (lv_sub hl [0, 1, 2, 3] rfl) e0
      · have e0 := itp _ c19 e0
        refine lv_bipush (v := 16) hx hb dX8_goesRound_63 (by decide) ?_
        refine lv_aload_n hx hb dX8_goesRound_65 rfl (lv_at hl 0 rfl) ?_
        refine m_get X w 10 (by decide) (index := 28) rfl (by decide +kernel) (mfr10 _ _) dX8_goesRound_66 ?_
        refine lv_iload_n hx hb dX8_goesRound_69 rfl (lv_at hl 3 rfl) ?_
        refine gd e0 (fun g11 e0 => ?_)
        refine m_ald X w 7 10 (mat10 _ _ _ _ _) g11 dX8_goesRound_70 ?_
        refine lv_imul hx hb dX8_goesRound_71 ?_
        refine lv_iload hx hb dX8_goesRound_72 (lv_at hl 4 rfl) ?_
        refine lv_iadd hx hb dX8_goesRound_74 ?_
        refine lv_istore (lv' := [(5, .int ((16 * (getA R 10 a3)) + a4)), (0, .ref h), (1, .int a1), (2, .int a2), (3, .int a3), (4, .int a4)]) hx hb dX8_goesRound_75 hl (by decide) rfl (fun ls hl => ?_)
        refine lv_aload_n hx hb dX8_goesRound_77 rfl (lv_at hl 1 rfl) ?_
        refine m_get X w 23 (by decide) (index := 55) rfl (by decide +kernel) (mfr23 _ _) dX8_goesRound_78 ?_
        refine lv_iload hx hb dX8_goesRound_81 (lv_at hl 0 rfl) ?_
        refine gd e0 (fun g12 e0 => ?_)
        refine m_ald X w 16 23 (mat23 _ _ _ _ _) g12 dX8_goesRound_83 ?_
        refine lv_if_ne (tgt := 126) hx hb dX8_goesRound_84 (by decide) (fun c18 => ?_) (fun c18 => ?_)
        · have e0 := itn _ c18 e0
          exact fX8_goesRound_b126_w (l := l) X hr hk30 ih w (lv_sub hl [1, 2, 3, 4, 5] rfl) e0
        · have e0 := itp _ c18 e0
          refine lv_aload_n hx hb dX8_goesRound_87 rfl (lv_at hl 1 rfl) ?_
          refine lv_iload_n hx hb dX8_goesRound_88 rfl (lv_at hl 4 rfl) ?_
          refine lv_iload hx hb dX8_goesRound_89 (lv_at hl 5 rfl) ?_
          refine lv_iconst (v := 4) hx hb dX8_goesRound_91 (by decide) ?_
          refine lv_idiv hx hb dX8_goesRound_92 (by decide) ?_
          refine lv_iload hx hb dX8_goesRound_93 (lv_at hl 5 rfl) ?_
          refine lv_iconst (v := 4) hx hb dX8_goesRound_95 (by decide) ?_
          refine lv_irem hx hb dX8_goesRound_96 (by decide) ?_
          refine bd e0 (fun z13 e14 e0 => ?_)
          refine m_calli X w (n := 3) (As := [.int a3, .int (a4 / 4), .int (a4 - a4 / 4 * 4)]) (rest := []) (fX8_follows_met l _ _ _ _ _ _ _ _ _ _ _ _ e14) gX8_goesRound_X8_follows rfl rfl rfl (by decide +kernel) ⟨Nat.le_of_ble_eq_true rfl, Nat.le_of_ble_eq_true rfl⟩ rfl hl.1 rfl (Nat.le_of_ble_eq_true rfl) dX8_goesRound_97 (fun H locs w => ?_)
          refine lv_if_eq (tgt := 126) hx hb dX8_goesRound_100 (by decide) (fun c17 => ?_) (fun c17 => ?_)
          · have e0 := itp _ c17 e0
            exact fX8_goesRound_b126_w (l := l) X hr hk30 ih w (lv_sub hl [1, 2, 3, 4, 5] rfl) e0
          · have e0 := itn _ c17 e0
            refine lv_aload_n hx hb dX8_goesRound_103 rfl (lv_at hl 1 rfl) ?_
            refine m_get X w 23 (by decide) (index := 55) rfl (by decide +kernel) (mfr23 _ _) dX8_goesRound_104 ?_
            refine lv_iload hx hb dX8_goesRound_107 (lv_at hl 0 rfl) ?_
            refine lv_iconst (v := 1) hx hb dX8_goesRound_109 (by decide) ?_
            refine gd e0 (fun g15 e0 => ?_)
            refine m_ast X w 16 23 (mat23 _ _ _ _ _) (mset23 _ _ _ _ _) g15 dX8_goesRound_110 (fun H locs w => ?_)
            refine lv_aload_n hx hb dX8_goesRound_111 rfl (lv_at hl 1 rfl) ?_
            refine m_get X w 24 (by decide) (index := 58) rfl (by decide +kernel) (mfr24 _ _) dX8_goesRound_112 ?_
            refine lv_iload hx hb dX8_goesRound_115 (lv_at hl 0 rfl) ?_
            refine lv_aload_n hx hb dX8_goesRound_117 rfl (lv_at hl 1 rfl) ?_
            refine m_get X w 25 (by decide) (index := 170) rfl (by decide +kernel) (mfi25 _ _) dX8_goesRound_118 ?_
            refine lv_iconst (v := 1) hx hb dX8_goesRound_121 (by decide) ?_
            refine lv_iadd hx hb dX8_goesRound_122 ?_
            refine gd e0 (fun g16 e0 => ?_)
            refine m_ast X w 17 24 (mat24 _ _ _ _ _) (mset24 _ _ _ _ _) g16 dX8_goesRound_123 (fun H locs w => ?_)
            refine lv_iconst (v := 1) hx hb dX8_goesRound_124 (by decide) ?_
            refine lv_istore_n (lv' := [(2, .int 1), (5, .int ((16 * (getA R 10 a3)) + a4)), (0, .ref h), (1, .int a1), (3, .int a3), (4, .int a4)]) hx hb dX8_goesRound_125 rfl hl (by decide) rfl (fun ls hl => ?_)
            exact fX8_goesRound_b126_w (l := l) X hr hk30 ih w (lv_sub hl [2, 3, 0, 4, 5] rfl) e0
def fX8_goesRound_b178 (n : Nat) (a2 : Int32) (t0 : Int32) (t1 : Int32) (I : Nat → Int32) (R : Nat → Nat → Int32) : Option (Int32 × mSt) :=
  if isB a2 = true then
  some (a2, (upd I 25 (t1 + t0)), R)
  else none
set_option maxRecDepth 20000 in
set_option maxHeartbeats 1000000 in
theorem fX8_goesRound_b178_w {p : Program} {l : Launch} {e : Env} {s : State} {m : MethodId} {args : Array Value} {below : List Frame} {meth : Method} {c : Code} {D : va_G} {y : ClassId} {h : Nat} {q : Nat → Nat} {n : Nat} {z : Int32 × mSt} (X : mX p s m args c cX8_goesRound 6 wsX8_goesRound D y) (hr : meth.sig.returnType = some .boolean ∧ meth.locks = false) {a2 : Int32} {t0 : Int32} {t1 : Int32} {I : Nat → Int32} {R : Nat → Nat → Int32} {H : Heap} {locs : List Loc} {ls : Array Slot} (w : mH s D y h q H locs I R) (hl : lv_has ls 6 [(0, .ref h), (2, .int a2)]) (e0 : fX8_goesRound_b178 n a2 t0 t1 I R = some z) : W p l e rmX8_goesRound s m args below meth c H locs 0 0 (MQ below (mQi D y h q (mS y h q s.heap.size) z) args s 0 0 (mS y h q s.heap.size)) (F0 m 178 ls [.int t0, .int t1, .ref h]) := by
  have hx := X.1.1
  have hb := X.1.2.1
  unfold fX8_goesRound_b178 at e0
  refine lv_iadd hx hb dX8_goesRound_178 ?_
  refine m_put X w 25 (by decide) (index := 170) rfl rfl (by decide +kernel) (by decide +kernel) (mps25 _ _ _) dX8_goesRound_179 (fun H locs w => ?_)
  refine lv_iload_n hx hb dX8_goesRound_182 rfl (lv_at hl 1 rfl) ?_
  refine gd e0 (fun g21 e0 => ?_)
  have e0 := Option.some.inj e0
  subst e0
  exact m_zret X w hr g21 dX8_goesRound_183
def fX8_goesRound_b140 (n : Nat) : Nat → Int32 → Int32 → (Nat → Int32) → (Nat → Nat → Int32) → Option (Int32 × mSt)
  | 0, _, _, _, _ => none
  | j + 1, a2, a3, I, R =>
    if 64 ≤ a3 then
      if a2 = 0 then
        fX8_goesRound_b178 n a2 0 (I 25) I R
      else
        fX8_goesRound_b178 n a2 1 (I 25) I R
    else
      if inb a3 64 = true then
      if inb a3 64 = true then
      fX8_goesRound_b140 n j a2 (a3 + 1) I (setA R 22 a3 (getA R 23 a3))
      else none
      else none
set_option maxRecDepth 20000 in
set_option maxHeartbeats 1000000 in
theorem fX8_goesRound_b140_w {p : Program} {l : Launch} {e : Env} {s : State} {m : MethodId} {args : Array Value} {below : List Frame} {meth : Method} {c : Code} {D : va_G} {y : ClassId} {h : Nat} {q : Nat → Nat} {n : Nat} {z : Int32 × mSt} (X : mX p s m args c cX8_goesRound 6 wsX8_goesRound D y) (hr : meth.sig.returnType = some .boolean ∧ meth.locks = false) : ∀ (j : Nat) (a2 : Int32) (a3 : Int32) (I : Nat → Int32) (R : Nat → Nat → Int32) (H : Heap) (locs : List Loc) (ls : Array Slot), mH s D y h q H locs I R → lv_has ls 6 [(0, .ref h), (2, .int a2), (3, .int a3)] → fX8_goesRound_b140 n j a2 a3 I R = some z → W p l e rmX8_goesRound s m args below meth c H locs 0 0 (MQ below (mQi D y h q (mS y h q s.heap.size) z) args s 0 0 (mS y h q s.heap.size)) (F0 m 140 ls []) := by
  have hx := X.1.1
  have hb := X.1.2.1
  intro j
  induction j with
  | zero =>
    intro a2 a3 I R H locs ls w hl e0
    cases e0
  | succ j ih =>
    intro a2 a3 I R H locs ls w hl e0
    rw [fX8_goesRound_b140] at e0
    refine lv_iload_n hx hb dX8_goesRound_140 rfl (lv_at hl 2 rfl) ?_
    refine lv_bipush (v := 64) hx hb dX8_goesRound_141 (by decide) ?_
    refine lv_icmp_ge (tgt := 164) hx hb dX8_goesRound_143 (by decide) (fun c8 => ?_) (fun c8 => ?_)
    · have e0 := itp _ c8 e0
      refine lv_aload_n hx hb dX8_goesRound_164 rfl (lv_at hl 0 rfl) ?_
      refine lv_dup hx hb dX8_goesRound_165 rfl ?_
      refine m_get X w 25 (by decide) (index := 170) rfl (by decide +kernel) (mfi25 _ _) dX8_goesRound_166 ?_
      refine lv_iload_n hx hb dX8_goesRound_169 rfl (lv_at hl 1 rfl) ?_
      refine lv_if_eq (tgt := 177) hx hb dX8_goesRound_170 (by decide) (fun c5 => ?_) (fun c5 => ?_)
      · have e0 := itp _ c5 e0
        refine lv_iconst (v := 0) hx hb dX8_goesRound_177 (by decide) ?_
        exact fX8_goesRound_b178_w (l := l) X hr w (lv_sub hl [0, 1] rfl) e0
      · have e0 := itn _ c5 e0
        refine lv_iconst (v := 1) hx hb dX8_goesRound_173 (by decide) ?_
        refine lv_goto (tgt := 178) hx hb dX8_goesRound_174 (by decide) ?_
        exact fX8_goesRound_b178_w (l := l) X hr w (lv_sub hl [0, 1] rfl) e0
    · have e0 := itn _ c8 e0
      refine lv_aload_n hx hb dX8_goesRound_146 rfl (lv_at hl 0 rfl) ?_
      refine m_get X w 22 (by decide) (index := 52) rfl (by decide +kernel) (mfr22 _ _) dX8_goesRound_147 ?_
      refine lv_iload_n hx hb dX8_goesRound_150 rfl (lv_at hl 2 rfl) ?_
      refine lv_aload_n hx hb dX8_goesRound_151 rfl (lv_at hl 0 rfl) ?_
      refine m_get X w 23 (by decide) (index := 55) rfl (by decide +kernel) (mfr23 _ _) dX8_goesRound_152 ?_
      refine lv_iload_n hx hb dX8_goesRound_155 rfl (lv_at hl 2 rfl) ?_
      refine gd e0 (fun g6 e0 => ?_)
      refine m_ald X w 16 23 (mat23 _ _ _ _ _) g6 dX8_goesRound_156 ?_
      refine gd e0 (fun g7 e0 => ?_)
      refine m_ast X w 15 22 (mat22 _ _ _ _ _) (mset22 _ _ _ _ _) g7 dX8_goesRound_157 (fun H locs w => ?_)
      refine lv_iinc (v := (a3 + 1)) (lv' := [(3, .int (a3 + 1)), (0, .ref h), (2, .int a2)]) hx hb dX8_goesRound_158 hl (k := 2) rfl rfl (by decide) rfl (fun ls hl => ?_)
      refine lv_goto (tgt := 140) hx hb dX8_goesRound_161 (by decide) ?_
      exact ih _ _ _ _ _ _ _ w (lv_sub hl [1, 2, 0] rfl) e0
def fX8_goesRound_b30 (n : Nat) : Nat → Int32 → Int32 → Int32 → (Nat → Int32) → (Nat → Nat → Int32) → Option (Int32 × mSt)
  | 0, _, _, _, _, _ => none
  | j + 1, a1, a2, a3, I, R =>
    if (I 6) ≤ a3 then
      fX8_goesRound_b140 n n a2 0 I R
    else
      fX8_goesRound_b41 n (fX8_goesRound_b30 n j) n a1 a2 a3 0 I R
set_option maxRecDepth 20000 in
set_option maxHeartbeats 1000000 in
theorem fX8_goesRound_b30_w {p : Program} {l : Launch} {e : Env} {s : State} {m : MethodId} {args : Array Value} {below : List Frame} {meth : Method} {c : Code} {D : va_G} {y : ClassId} {h : Nat} {q : Nat → Nat} {n : Nat} {z : Int32 × mSt} (X : mX p s m args c cX8_goesRound 6 wsX8_goesRound D y) (hr : meth.sig.returnType = some .boolean ∧ meth.locks = false) : ∀ (j : Nat) (a1 : Int32) (a2 : Int32) (a3 : Int32) (I : Nat → Int32) (R : Nat → Nat → Int32) (H : Heap) (locs : List Loc) (ls : Array Slot), mH s D y h q H locs I R → lv_has ls 6 [(0, .ref h), (1, .int a1), (2, .int a2), (3, .int a3)] → fX8_goesRound_b30 n j a1 a2 a3 I R = some z → W p l e rmX8_goesRound s m args below meth c H locs 0 0 (MQ below (mQi D y h q (mS y h q s.heap.size) z) args s 0 0 (mS y h q s.heap.size)) (F0 m 30 ls []) := by
  have hx := X.1.1
  have hb := X.1.2.1
  intro j
  induction j with
  | zero =>
    intro a1 a2 a3 I R H locs ls w hl e0
    cases e0
  | succ j ih =>
    intro a1 a2 a3 I R H locs ls w hl e0
    rw [fX8_goesRound_b30] at e0
    refine lv_iload_n hx hb dX8_goesRound_30 rfl (lv_at hl 3 rfl) ?_
    refine lv_aload_n hx hb dX8_goesRound_31 rfl (lv_at hl 0 rfl) ?_
    refine m_get X w 6 (by decide) (index := 95) rfl (by decide +kernel) (mfi6 _ _) dX8_goesRound_32 ?_
    refine lv_icmp_ge (tgt := 138) hx hb dX8_goesRound_35 (by decide) (fun c4 => ?_) (fun c4 => ?_)
    · have e0 := itp _ c4 e0
      refine lv_iconst (v := 0) hx hb dX8_goesRound_138 (by decide) ?_
      refine lv_istore_n (lv' := [(3, .int 0), (0, .ref h), (1, .int a1), (2, .int a2)]) hx hb dX8_goesRound_139 rfl hl (by decide) rfl (fun ls hl => ?_)
      exact fX8_goesRound_b140_w (l := l) X hr n _ _ _ _ _ _ _ w (lv_sub hl [1, 3, 0] rfl) e0
    · have e0 := itn _ c4 e0
      refine lv_iconst (v := 0) hx hb dX8_goesRound_38 (by decide) ?_
      refine lv_istore (lv' := [(4, .int 0), (0, .ref h), (1, .int a1), (2, .int a2), (3, .int a3)]) hx hb dX8_goesRound_39 hl (by decide) rfl (fun ls hl => ?_)
      exact fX8_goesRound_b41_w (l := l) X hr ih n _ _ _ _ _ _ _ _ _ w (lv_sub hl [1, 2, 3, 4, 0] rfl) e0
def fX8_goesRound_b4 (n : Nat) : Nat → Int32 → Int32 → Int32 → (Nat → Int32) → (Nat → Nat → Int32) → Option (Int32 × mSt)
  | 0, _, _, _, _, _ => none
  | j + 1, a1, a2, a3, I, R =>
    if 64 ≤ a3 then
      fX8_goesRound_b30 n n a1 a2 0 I R
    else
      if inb a3 64 = true then
      if inb a3 64 = true then
      fX8_goesRound_b4 n j a1 a2 (a3 + 1) I (setA R 23 a3 (getA R 22 a3))
      else none
      else none
set_option maxRecDepth 20000 in
set_option maxHeartbeats 1000000 in
theorem fX8_goesRound_b4_w {p : Program} {l : Launch} {e : Env} {s : State} {m : MethodId} {args : Array Value} {below : List Frame} {meth : Method} {c : Code} {D : va_G} {y : ClassId} {h : Nat} {q : Nat → Nat} {n : Nat} {z : Int32 × mSt} (X : mX p s m args c cX8_goesRound 6 wsX8_goesRound D y) (hr : meth.sig.returnType = some .boolean ∧ meth.locks = false) : ∀ (j : Nat) (a1 : Int32) (a2 : Int32) (a3 : Int32) (I : Nat → Int32) (R : Nat → Nat → Int32) (H : Heap) (locs : List Loc) (ls : Array Slot), mH s D y h q H locs I R → lv_has ls 6 [(0, .ref h), (1, .int a1), (2, .int a2), (3, .int a3)] → fX8_goesRound_b4 n j a1 a2 a3 I R = some z → W p l e rmX8_goesRound s m args below meth c H locs 0 0 (MQ below (mQi D y h q (mS y h q s.heap.size) z) args s 0 0 (mS y h q s.heap.size)) (F0 m 4 ls []) := by
  have hx := X.1.1
  have hb := X.1.2.1
  intro j
  induction j with
  | zero =>
    intro a1 a2 a3 I R H locs ls w hl e0
    cases e0
  | succ j ih =>
    intro a1 a2 a3 I R H locs ls w hl e0
    rw [fX8_goesRound_b4] at e0
    refine lv_iload_n hx hb dX8_goesRound_4 rfl (lv_at hl 3 rfl) ?_
    refine lv_bipush (v := 64) hx hb dX8_goesRound_5 (by decide) ?_
    refine lv_icmp_ge (tgt := 28) hx hb dX8_goesRound_7 (by decide) (fun c3 => ?_) (fun c3 => ?_)
    · have e0 := itp _ c3 e0
      refine lv_iconst (v := 0) hx hb dX8_goesRound_28 (by decide) ?_
      refine lv_istore_n (lv' := [(3, .int 0), (0, .ref h), (1, .int a1), (2, .int a2)]) hx hb dX8_goesRound_29 rfl hl (by decide) rfl (fun ls hl => ?_)
      exact fX8_goesRound_b30_w (l := l) X hr n _ _ _ _ _ _ _ _ w (lv_sub hl [1, 2, 3, 0] rfl) e0
    · have e0 := itn _ c3 e0
      refine lv_aload_n hx hb dX8_goesRound_10 rfl (lv_at hl 0 rfl) ?_
      refine m_get X w 23 (by decide) (index := 55) rfl (by decide +kernel) (mfr23 _ _) dX8_goesRound_11 ?_
      refine lv_iload_n hx hb dX8_goesRound_14 rfl (lv_at hl 3 rfl) ?_
      refine lv_aload_n hx hb dX8_goesRound_15 rfl (lv_at hl 0 rfl) ?_
      refine m_get X w 22 (by decide) (index := 52) rfl (by decide +kernel) (mfr22 _ _) dX8_goesRound_16 ?_
      refine lv_iload_n hx hb dX8_goesRound_19 rfl (lv_at hl 3 rfl) ?_
      refine gd e0 (fun g1 e0 => ?_)
      refine m_ald X w 15 22 (mat22 _ _ _ _ _) g1 dX8_goesRound_20 ?_
      refine gd e0 (fun g2 e0 => ?_)
      refine m_ast X w 16 23 (mat23 _ _ _ _ _) (mset23 _ _ _ _ _) g2 dX8_goesRound_21 (fun H locs w => ?_)
      refine lv_iinc (v := (a3 + 1)) (lv' := [(3, .int (a3 + 1)), (0, .ref h), (1, .int a1), (2, .int a2)]) hx hb dX8_goesRound_22 hl (k := 3) rfl rfl (by decide) rfl (fun ls hl => ?_)
      refine lv_goto (tgt := 4) hx hb dX8_goesRound_25 (by decide) ?_
      exact ih _ _ _ _ _ _ _ _ w (lv_sub hl [1, 2, 3, 0] rfl) e0
def fX8_goesRound (n : Nat) (a1 : Int32) (I : Nat → Int32) (R : Nat → Nat → Int32) : Option (Int32 × mSt) :=
  fX8_goesRound_b4 n n a1 0 0 I R
set_option maxRecDepth 20000 in
set_option maxHeartbeats 1000000 in
theorem fX8_goesRound_w {p : Program} {l : Launch} {e : Env} {s : State} {m : MethodId} {args : Array Value} {below : List Frame} {meth : Method} {c : Code} {D : va_G} {y : ClassId} {h : Nat} {q : Nat → Nat} {n : Nat} {z : Int32 × mSt} (X : mX p s m args c cX8_goesRound 6 wsX8_goesRound D y) (hr : meth.sig.returnType = some .boolean ∧ meth.locks = false) {a1 : Int32} {I : Nat → Int32} {R : Nat → Nat → Int32} {H : Heap} {locs : List Loc} {ls : Array Slot} (w : mH s D y h q H locs I R) (hl : lv_has ls 6 [(0, .ref h), (1, .int a1)]) (e0 : fX8_goesRound n a1 I R = some z) : W p l e rmX8_goesRound s m args below meth c H locs 0 0 (MQ below (mQi D y h q (mS y h q s.heap.size) z) args s 0 0 (mS y h q s.heap.size)) (F0 m 0 ls []) := by
  have hx := X.1.1
  have hb := X.1.2.1
  unfold fX8_goesRound at e0
  refine lv_iconst (v := 0) hx hb dX8_goesRound_0 (by decide) ?_
  refine lv_istore_n (lv' := [(2, .int 0), (0, .ref h), (1, .int a1)]) hx hb dX8_goesRound_1 rfl hl (by decide) rfl (fun ls hl => ?_)
  refine lv_iconst (v := 0) hx hb dX8_goesRound_2 (by decide) ?_
  refine lv_istore_n (lv' := [(3, .int 0), (2, .int 0), (0, .ref h), (1, .int a1)]) hx hb dX8_goesRound_3 rfl hl (by decide) rfl (fun ls hl => ?_)
  exact fX8_goesRound_b4_w (l := l) X hr n _ _ _ _ _ _ _ _ w (lv_sub hl [2, 3, 1, 0] rfl) e0
set_option maxRecDepth 20000 in
theorem fX8_goesRound_met (l : Launch) (D : va_G) (y : ClassId) (h : Nat) (q : Nat → Nat) (sz n : Nat) (a1 : Int32) (I : Nat → Int32) (R : Nat → Nat → Int32) (z : Int32 × mSt) (e0 : fX8_goesRound n a1 I R = some z) : Met l yX8_goesRound wsX8_goesRound rmX8_goesRound (va_Pc [.ref h, .int a1] (mPre D y h q sz I R)) (mQi D y h q (mS y h q sz) z) 0 0 (mS y h q sz) := by
  refine Met.ofW (cc := cX8_goesRound) (maxL := 6) (ret := some .boolean) (by decide) rfl ?_
  intro p e s m args below meth c s₁ B hml hv
  obtain ⟨rfl, hsz, hP, hK, hD⟩ := hv
  subst hsz
  have hl := lv_entry ([.ref h, .int a1]) (n := 6) (Nat.le_of_ble_eq_true rfl)
  rw [lg_entry_eq]
  exact fX8_goesRound_w (s := s) ⟨⟨B.exec, B.bytes, hml, findClass_of_methodNamed B.named, atoms_spec (ws := wsX8_goesRound) B.pre⟩, fun _ h9 => List.mem_cons_of_mem _ (List.mem_append_right _ h9), hK⟩ ⟨B.returns, B.notSynchronized⟩ ⟨hP, mS_D hD, va_S.rf⟩ hl e0
def rmX8_findHolds : Room := { frames := 3, cells := 0, slots := 0, locals := 71 }
def fX8_findHolds_b51 (n : Nat) (k44 : Int32 → (Nat → Int32) → (Nat → Nat → Int32) → Option (mSt)) : Nat → Int32 → Int32 → (Nat → Int32) → (Nat → Nat → Int32) → Option (mSt)
  | 0, _, _, _, _ => none
  | j + 1, a1, a2, I, R =>
    if a2 = 0 then
      k44 (a1 + 1) I R
    else
      (fX8_goesRound n a1 I R).bind fun z8 =>
      fX8_findHolds_b51 n k44 j a1 z8.1 z8.2.1 z8.2.2
set_option maxRecDepth 20000 in
set_option maxHeartbeats 1000000 in
theorem fX8_findHolds_b51_w {p : Program} {l : Launch} {e : Env} {s : State} {m : MethodId} {args : Array Value} {below : List Frame} {meth : Method} {c : Code} {D : va_G} {y : ClassId} {h : Nat} {q : Nat → Nat} {n : Nat} {z : mSt} (X : mX p s m args c cX8_findHolds 3 wsX8_findHolds D y) (hr : meth.sig.returnType = none ∧ meth.locks = false) {k44 : Int32 → (Nat → Int32) → (Nat → Nat → Int32) → Option (mSt)} (hk44 : ∀ (a1 : Int32) (I : Nat → Int32) (R : Nat → Nat → Int32) (H : Heap) (locs : List Loc) (ls : Array Slot), mH s D y h q H locs I R → lv_has ls 3 [(0, .ref h), (1, .int a1)] → k44 a1 I R = some z → W p l e rmX8_findHolds s m args below meth c H locs 0 0 (MQ below (mQv D y h q (mS y h q s.heap.size) z) args s 0 0 (mS y h q s.heap.size)) (F0 m 44 ls [])) : ∀ (j : Nat) (a1 : Int32) (a2 : Int32) (I : Nat → Int32) (R : Nat → Nat → Int32) (H : Heap) (locs : List Loc) (ls : Array Slot), mH s D y h q H locs I R → lv_has ls 3 [(0, .ref h), (1, .int a1), (2, .int a2)] → fX8_findHolds_b51 n k44 j a1 a2 I R = some z → W p l e rmX8_findHolds s m args below meth c H locs 0 0 (MQ below (mQv D y h q (mS y h q s.heap.size) z) args s 0 0 (mS y h q s.heap.size)) (F0 m 51 ls []) := by
  have hx := X.1.1
  have hb := X.1.2.1
  intro j
  induction j with
  | zero =>
    intro a1 a2 I R H locs ls w hl e0
    cases e0
  | succ j ih =>
    intro a1 a2 I R H locs ls w hl e0
    rw [fX8_findHolds_b51] at e0
    refine lv_iload_n hx hb dX8_findHolds_51 rfl (lv_at hl 2 rfl) ?_
    refine lv_if_eq (tgt := 64) hx hb dX8_findHolds_52 (by decide) (fun c10 => ?_) (fun c10 => ?_)
    · have e0 := itp _ c10 e0
      refine lv_iinc (v := (a1 + 1)) (lv' := [(1, .int (a1 + 1)), (0, .ref h), (2, .int a2)]) hx hb dX8_findHolds_64 hl (k := 1) rfl rfl (by decide) rfl (fun ls hl => ?_)
      refine lv_goto (tgt := 44) hx hb dX8_findHolds_67 (by decide) ?_
      exact hk44 _ _ _ _ _ _ w (lv_sub hl [1, 0] rfl) e0
    · have e0 := itn _ c10 e0
      refine lv_aload_n hx hb dX8_findHolds_55 rfl (lv_at hl 0 rfl) ?_
      refine lv_iload_n hx hb dX8_findHolds_56 rfl (lv_at hl 1 rfl) ?_
      refine bd e0 (fun z8 e9 e0 => ?_)
      refine m_calli X w (n := 1) (As := [.int a1]) (rest := []) (fX8_goesRound_met l _ _ _ _ _ _ _ _ _ _ e9) gX8_findHolds_X8_goesRound rfl rfl rfl (by decide +kernel) ⟨Nat.le_of_ble_eq_true rfl, Nat.le_of_ble_eq_true rfl⟩ rfl hl.1 rfl (Nat.le_of_ble_eq_true rfl) dX8_findHolds_57 (fun H locs w => ?_)
      refine lv_istore_n (lv' := [(2, .int z8.1), (0, .ref h), (1, .int a1)]) hx hb dX8_findHolds_60 rfl hl (by decide) rfl (fun ls hl => ?_)
      refine lv_goto (tgt := 51) hx hb dX8_findHolds_61 (by decide) ?_
      exact ih _ _ _ _ _ _ _ w (lv_sub hl [1, 2, 0] rfl) e0
def fX8_findHolds_b44 (n : Nat) : Nat → Int32 → (Nat → Int32) → (Nat → Nat → Int32) → Option (mSt)
  | 0, _, _, _ => none
  | j + 1, a1, I, R =>
    if 4 ≤ a1 then
      some (I, R)
    else
      fX8_findHolds_b51 n (fX8_findHolds_b44 n j) n a1 1 I R
set_option maxRecDepth 20000 in
set_option maxHeartbeats 1000000 in
theorem fX8_findHolds_b44_w {p : Program} {l : Launch} {e : Env} {s : State} {m : MethodId} {args : Array Value} {below : List Frame} {meth : Method} {c : Code} {D : va_G} {y : ClassId} {h : Nat} {q : Nat → Nat} {n : Nat} {z : mSt} (X : mX p s m args c cX8_findHolds 3 wsX8_findHolds D y) (hr : meth.sig.returnType = none ∧ meth.locks = false) : ∀ (j : Nat) (a1 : Int32) (I : Nat → Int32) (R : Nat → Nat → Int32) (H : Heap) (locs : List Loc) (ls : Array Slot), mH s D y h q H locs I R → lv_has ls 3 [(0, .ref h), (1, .int a1)] → fX8_findHolds_b44 n j a1 I R = some z → W p l e rmX8_findHolds s m args below meth c H locs 0 0 (MQ below (mQv D y h q (mS y h q s.heap.size) z) args s 0 0 (mS y h q s.heap.size)) (F0 m 44 ls []) := by
  have hx := X.1.1
  have hb := X.1.2.1
  intro j
  induction j with
  | zero =>
    intro a1 I R H locs ls w hl e0
    cases e0
  | succ j ih =>
    intro a1 I R H locs ls w hl e0
    rw [fX8_findHolds_b44] at e0
    refine lv_iload_n hx hb dX8_findHolds_44 rfl (lv_at hl 1 rfl) ?_
    refine lv_iconst (v := 4) hx hb dX8_findHolds_45 (by decide) ?_
    refine lv_icmp_ge (tgt := 70) hx hb dX8_findHolds_46 (by decide) (fun c7 => ?_) (fun c7 => ?_)
    · have e0 := itp _ c7 e0
      have e0 := Option.some.inj e0
      subst e0
      exact m_vret X w hr dX8_findHolds_70
    · have e0 := itn _ c7 e0
      refine lv_iconst (v := 1) hx hb dX8_findHolds_49 (by decide) ?_
      refine lv_istore_n (lv' := [(2, .int 1), (0, .ref h), (1, .int a1)]) hx hb dX8_findHolds_50 rfl hl (by decide) rfl (fun ls hl => ?_)
      exact fX8_findHolds_b51_w (l := l) X hr ih n _ _ _ _ _ _ _ w (lv_sub hl [1, 2, 0] rfl) e0
def fX8_findHolds_b11 (n : Nat) : Nat → Int32 → (Nat → Int32) → (Nat → Nat → Int32) → Option (mSt)
  | 0, _, _, _ => none
  | j + 1, a1, I, R =>
    if 64 ≤ a1 then
      fX8_findHolds_b44 n n 0 I R
    else
      if inb a1 64 = true then
      if inb a1 64 = true then
      if inb a1 64 = true then
      fX8_findHolds_b11 n j (a1 + 1) I (setA (setA R 22 a1 (getA R 13 a1)) 24 a1 0)
      else none
      else none
      else none
set_option maxRecDepth 20000 in
set_option maxHeartbeats 1000000 in
theorem fX8_findHolds_b11_w {p : Program} {l : Launch} {e : Env} {s : State} {m : MethodId} {args : Array Value} {below : List Frame} {meth : Method} {c : Code} {D : va_G} {y : ClassId} {h : Nat} {q : Nat → Nat} {n : Nat} {z : mSt} (X : mX p s m args c cX8_findHolds 3 wsX8_findHolds D y) (hr : meth.sig.returnType = none ∧ meth.locks = false) : ∀ (j : Nat) (a1 : Int32) (I : Nat → Int32) (R : Nat → Nat → Int32) (H : Heap) (locs : List Loc) (ls : Array Slot), mH s D y h q H locs I R → lv_has ls 3 [(0, .ref h), (1, .int a1)] → fX8_findHolds_b11 n j a1 I R = some z → W p l e rmX8_findHolds s m args below meth c H locs 0 0 (MQ below (mQv D y h q (mS y h q s.heap.size) z) args s 0 0 (mS y h q s.heap.size)) (F0 m 11 ls []) := by
  have hx := X.1.1
  have hb := X.1.2.1
  intro j
  induction j with
  | zero =>
    intro a1 I R H locs ls w hl e0
    cases e0
  | succ j ih =>
    intro a1 I R H locs ls w hl e0
    rw [fX8_findHolds_b11] at e0
    refine lv_iload_n hx hb dX8_findHolds_11 rfl (lv_at hl 1 rfl) ?_
    refine lv_bipush (v := 64) hx hb dX8_findHolds_12 (by decide) ?_
    refine lv_icmp_ge (tgt := 42) hx hb dX8_findHolds_14 (by decide) (fun c6 => ?_) (fun c6 => ?_)
    · have e0 := itp _ c6 e0
      refine lv_iconst (v := 0) hx hb dX8_findHolds_42 (by decide) ?_
      refine lv_istore_n (lv' := [(1, .int 0), (0, .ref h)]) hx hb dX8_findHolds_43 rfl hl (by decide) rfl (fun ls hl => ?_)
      exact fX8_findHolds_b44_w (l := l) X hr n _ _ _ _ _ _ w (lv_sub hl [1, 0] rfl) e0
    · have e0 := itn _ c6 e0
      refine lv_aload_n hx hb dX8_findHolds_17 rfl (lv_at hl 0 rfl) ?_
      refine m_get X w 22 (by decide) (index := 52) rfl (by decide +kernel) (mfr22 _ _) dX8_findHolds_18 ?_
      refine lv_iload_n hx hb dX8_findHolds_21 rfl (lv_at hl 1 rfl) ?_
      refine lv_aload_n hx hb dX8_findHolds_22 rfl (lv_at hl 0 rfl) ?_
      refine m_get X w 13 (by decide) (index := 37) rfl (by decide +kernel) (mfr13 _ _) dX8_findHolds_23 ?_
      refine lv_iload_n hx hb dX8_findHolds_26 rfl (lv_at hl 1 rfl) ?_
      refine gd e0 (fun g3 e0 => ?_)
      refine m_ald X w 10 13 (mat13 _ _ _ _ _) g3 dX8_findHolds_27 ?_
      refine gd e0 (fun g4 e0 => ?_)
      refine m_ast X w 15 22 (mat22 _ _ _ _ _) (mset22 _ _ _ _ _) g4 dX8_findHolds_28 (fun H locs w => ?_)
      refine lv_aload_n hx hb dX8_findHolds_29 rfl (lv_at hl 0 rfl) ?_
      refine m_get X w 24 (by decide) (index := 58) rfl (by decide +kernel) (mfr24 _ _) dX8_findHolds_30 ?_
      refine lv_iload_n hx hb dX8_findHolds_33 rfl (lv_at hl 1 rfl) ?_
      refine lv_iconst (v := 0) hx hb dX8_findHolds_34 (by decide) ?_
      refine gd e0 (fun g5 e0 => ?_)
      refine m_ast X w 17 24 (mat24 _ _ _ _ _) (mset24 _ _ _ _ _) g5 dX8_findHolds_35 (fun H locs w => ?_)
      refine lv_iinc (v := (a1 + 1)) (lv' := [(1, .int (a1 + 1)), (0, .ref h)]) hx hb dX8_findHolds_36 hl (k := 1) rfl rfl (by decide) rfl (fun ls hl => ?_)
      refine lv_goto (tgt := 11) hx hb dX8_findHolds_39 (by decide) ?_
      exact ih _ _ _ _ _ _ w (lv_sub hl [1, 0] rfl) e0
def fX8_findHolds (n : Nat) (I : Nat → Int32) (R : Nat → Nat → Int32) : Option (mSt) :=
  (fX8_findLayers n I R).bind fun z1 =>
  fX8_findHolds_b11 n n 0 (upd z1.1 25 0) z1.2
set_option maxRecDepth 20000 in
set_option maxHeartbeats 1000000 in
theorem fX8_findHolds_w {p : Program} {l : Launch} {e : Env} {s : State} {m : MethodId} {args : Array Value} {below : List Frame} {meth : Method} {c : Code} {D : va_G} {y : ClassId} {h : Nat} {q : Nat → Nat} {n : Nat} {z : mSt} (X : mX p s m args c cX8_findHolds 3 wsX8_findHolds D y) (hr : meth.sig.returnType = none ∧ meth.locks = false) {I : Nat → Int32} {R : Nat → Nat → Int32} {H : Heap} {locs : List Loc} {ls : Array Slot} (w : mH s D y h q H locs I R) (hl : lv_has ls 3 [(0, .ref h)]) (e0 : fX8_findHolds n I R = some z) : W p l e rmX8_findHolds s m args below meth c H locs 0 0 (MQ below (mQv D y h q (mS y h q s.heap.size) z) args s 0 0 (mS y h q s.heap.size)) (F0 m 0 ls []) := by
  have hx := X.1.1
  have hb := X.1.2.1
  unfold fX8_findHolds at e0
  refine lv_aload_n hx hb dX8_findHolds_0 rfl (lv_at hl 0 rfl) ?_
  refine bd e0 (fun z1 e2 e0 => ?_)
  refine m_callv X w (n := 0) (As := []) (rest := []) (fX8_findLayers_met l _ _ _ _ _ _  _ _ _ e2) gX8_findHolds_X8_findLayers rfl rfl rfl (by decide +kernel) ⟨Nat.le_of_ble_eq_true rfl, Nat.le_of_ble_eq_true rfl⟩ rfl hl.1 rfl (Nat.le_of_ble_eq_true rfl) dX8_findHolds_1 (fun H locs w => ?_)
  refine lv_aload_n hx hb dX8_findHolds_4 rfl (lv_at hl 0 rfl) ?_
  refine lv_iconst (v := 0) hx hb dX8_findHolds_5 (by decide) ?_
  refine m_put X w 25 (by decide) (index := 170) rfl rfl (by decide +kernel) (by decide +kernel) (mps25 _ _ _) dX8_findHolds_6 (fun H locs w => ?_)
  refine lv_iconst (v := 0) hx hb dX8_findHolds_9 (by decide) ?_
  refine lv_istore_n (lv' := [(1, .int 0), (0, .ref h)]) hx hb dX8_findHolds_10 rfl hl (by decide) rfl (fun ls hl => ?_)
  exact fX8_findHolds_b11_w (l := l) X hr n _ _ _ _ _ _ w (lv_sub hl [1, 0] rfl) e0
set_option maxRecDepth 20000 in
theorem fX8_findHolds_met (l : Launch) (D : va_G) (y : ClassId) (h : Nat) (q : Nat → Nat) (sz n : Nat) (I : Nat → Int32) (R : Nat → Nat → Int32) (z : mSt) (e0 : fX8_findHolds n I R = some z) : Met l yX8_findHolds wsX8_findHolds rmX8_findHolds (va_Pc [.ref h] (mPre D y h q sz I R)) (mQv D y h q (mS y h q sz) z) 0 0 (mS y h q sz) := by
  refine Met.ofW (cc := cX8_findHolds) (maxL := 3) (ret := none) (by decide) rfl ?_
  intro p e s m args below meth c s₁ B hml hv
  obtain ⟨rfl, hsz, hP, hK, hD⟩ := hv
  subst hsz
  have hl := lv_entry ([.ref h]) (n := 3) (Nat.le_of_ble_eq_true rfl)
  rw [lg_entry_eq]
  exact fX8_findHolds_w (s := s) ⟨⟨B.exec, B.bytes, hml, findClass_of_methodNamed B.named, atoms_spec (ws := wsX8_findHolds) B.pre⟩, fun _ h9 => List.mem_cons_of_mem _ (List.mem_append_right _ h9), hK⟩ ⟨B.returns, B.notSynchronized⟩ ⟨hP, mS_D hD, va_S.rf⟩ hl e0
def rmX8_costBy : Room := { frames := 1, cells := 0, slots := 0, locals := 22 }
def fX8_costBy_b138 (n : Nat) (a1 : Int32) (a5 : Int32) (t0 : Int32) (I : Nat → Int32) (R : Nat → Nat → Int32) : Option (Int32 × mSt) :=
  if t0 = (-9) then
    some ((-9), I, R)
  else
    (fX8_costOf n a1 I R).bind fun z29 =>
    some (((z29.1 + a5) + t0), z29.2.1, z29.2.2)
set_option maxRecDepth 20000 in
set_option maxHeartbeats 1000000 in
theorem fX8_costBy_b138_w {p : Program} {l : Launch} {e : Env} {s : State} {m : MethodId} {args : Array Value} {below : List Frame} {meth : Method} {c : Code} {D : va_G} {y : ClassId} {h : Nat} {q : Nat → Nat} {n : Nat} {z : Int32 × mSt} (X : mX p s m args c cX8_costBy 7 wsX8_costBy D y) (hr : meth.sig.returnType = some .int ∧ meth.locks = false) {a1 : Int32} {a5 : Int32} {t0 : Int32} {I : Nat → Int32} {R : Nat → Nat → Int32} {H : Heap} {locs : List Loc} {ls : Array Slot} (w : mH s D y h q H locs I R) (hl : lv_has ls 7 [(0, .ref h), (1, .int a1), (5, .int a5)]) (e0 : fX8_costBy_b138 n a1 a5 t0 I R = some z) : W p l e rmX8_costBy s m args below meth c H locs 0 0 (MQ below (mQi D y h q (mS y h q s.heap.size) z) args s 0 0 (mS y h q s.heap.size)) (F0 m 138 ls [.int t0]) := by
  have hx := X.1.1
  have hb := X.1.2.1
  unfold fX8_costBy_b138 at e0
  refine lv_istore (lv' := [(6, .int t0), (0, .ref h), (1, .int a1), (5, .int a5)]) hx hb dX8_costBy_138 hl (by decide) rfl (fun ls hl => ?_)
  refine lv_iload hx hb dX8_costBy_140 (lv_at hl 0 rfl) ?_
  refine lv_bipush (v := (-9)) hx hb dX8_costBy_142 (by decide) ?_
  refine lv_icmp_ne (tgt := 152) hx hb dX8_costBy_144 (by decide) (fun c31 => ?_) (fun c31 => ?_)
  · have e0 := itn _ c31 e0
    refine lv_aload_n hx hb dX8_costBy_152 rfl (lv_at hl 1 rfl) ?_
    refine lv_iload_n hx hb dX8_costBy_153 rfl (lv_at hl 2 rfl) ?_
    refine bd e0 (fun z29 e30 e0 => ?_)
    refine m_calli X w (n := 1) (As := [.int a1]) (rest := []) (fX8_costOf_met l _ _ _ _ _ _ _ _ _ _ e30) gX8_costBy_X8_costOf rfl rfl rfl (by decide +kernel) ⟨Nat.le_of_ble_eq_true rfl, Nat.le_of_ble_eq_true rfl⟩ rfl hl.1 rfl (Nat.le_of_ble_eq_true rfl) dX8_costBy_154 (fun H locs w => ?_)
    refine lv_iload hx hb dX8_costBy_157 (lv_at hl 3 rfl) ?_
    refine lv_iadd hx hb dX8_costBy_159 ?_
    refine lv_iload hx hb dX8_costBy_160 (lv_at hl 0 rfl) ?_
    refine lv_iadd hx hb dX8_costBy_162 ?_
    have e0 := Option.some.inj e0
    subst e0
    exact m_iret X w hr dX8_costBy_163
  · have e0 := itp _ c31 e0
    refine lv_bipush (v := (-9)) hx hb dX8_costBy_147 (by decide) ?_
    refine lv_goto (tgt := 163) hx hb dX8_costBy_149 (by decide) ?_
    have e0 := Option.some.inj e0
    subst e0
    exact m_iret X w hr dX8_costBy_163
def fX8_costBy_b107 (n : Nat) (a1 : Int32) (a3 : Int32) (a4 : Int32) (a5 : Int32) (I : Nat → Int32) (R : Nat → Nat → Int32) : Option (Int32 × mSt) :=
  if inb a1 5 = true then
  if (getA R 9 a1) = 2 then
    if inb a1 5 = true then
    (fX8_factOf n (getA R 12 a1) a4 a3).bind fun z25 =>
    if inb z25 64 = true then
    fX8_costBy_b138 n a1 a5 (getA R 26 z25) I R
    else none
    else none
  else
    fX8_costBy_b138 n a1 a5 0 I R
  else none
set_option maxRecDepth 20000 in
set_option maxHeartbeats 1000000 in
theorem fX8_costBy_b107_w {p : Program} {l : Launch} {e : Env} {s : State} {m : MethodId} {args : Array Value} {below : List Frame} {meth : Method} {c : Code} {D : va_G} {y : ClassId} {h : Nat} {q : Nat → Nat} {n : Nat} {z : Int32 × mSt} (X : mX p s m args c cX8_costBy 7 wsX8_costBy D y) (hr : meth.sig.returnType = some .int ∧ meth.locks = false) {a1 : Int32} {a3 : Int32} {a4 : Int32} {a5 : Int32} {I : Nat → Int32} {R : Nat → Nat → Int32} {H : Heap} {locs : List Loc} {ls : Array Slot} (w : mH s D y h q H locs I R) (hl : lv_has ls 7 [(0, .ref h), (1, .int a1), (3, .int a3), (4, .int a4), (5, .int a5)]) (e0 : fX8_costBy_b107 n a1 a3 a4 a5 I R = some z) : W p l e rmX8_costBy s m args below meth c H locs 0 0 (MQ below (mQi D y h q (mS y h q s.heap.size) z) args s 0 0 (mS y h q s.heap.size)) (F0 m 107 ls []) := by
  have hx := X.1.1
  have hb := X.1.2.1
  unfold fX8_costBy_b107 at e0
  refine lv_aload_n hx hb dX8_costBy_107 rfl (lv_at hl 0 rfl) ?_
  refine m_get X w 9 (by decide) (index := 25) rfl (by decide +kernel) (mfr9 _ _) dX8_costBy_108 ?_
  refine lv_iload_n hx hb dX8_costBy_111 rfl (lv_at hl 1 rfl) ?_
  refine gd e0 (fun g23 e0 => ?_)
  refine m_ald X w 6 9 (mat9 _ _ _ _ _) g23 dX8_costBy_112 ?_
  refine lv_iconst (v := 2) hx hb dX8_costBy_113 (by decide) ?_
  refine lv_icmp_ne (tgt := 137) hx hb dX8_costBy_114 (by decide) (fun c28 => ?_) (fun c28 => ?_)
  · have e0 := itn _ c28 e0
    refine lv_iconst (v := 0) hx hb dX8_costBy_137 (by decide) ?_
    exact fX8_costBy_b138_w (l := l) X hr w (lv_sub hl [0, 1, 4] rfl) e0
  · have e0 := itp _ c28 e0
    refine lv_aload_n hx hb dX8_costBy_117 rfl (lv_at hl 0 rfl) ?_
    refine m_get X w 26 (by decide) (index := 61) rfl (by decide +kernel) (mfr26 _ _) dX8_costBy_118 ?_
    refine lv_aload_n hx hb dX8_costBy_121 rfl (lv_at hl 0 rfl) ?_
    refine m_get X w 12 (by decide) (index := 34) rfl (by decide +kernel) (mfr12 _ _) dX8_costBy_122 ?_
    refine lv_iload_n hx hb dX8_costBy_125 rfl (lv_at hl 1 rfl) ?_
    refine gd e0 (fun g24 e0 => ?_)
    refine m_ald X w 9 12 (mat12 _ _ _ _ _) g24 dX8_costBy_126 ?_
    refine lv_iload hx hb dX8_costBy_127 (lv_at hl 3 rfl) ?_
    refine lv_iload_n hx hb dX8_costBy_129 rfl (lv_at hl 2 rfl) ?_
    refine bd e0 (fun z25 e26 e0 => ?_)
    refine m_callsi X w (n := 3) (As := [.int (getA R 12 a1), .int a4, .int a3]) (rest := [.ref (q 26)]) (fX8_factOf_met l _ _ _ _ _ e26) gX8_costBy_X8_factOf rfl rfl rfl (by decide +kernel) ⟨Nat.le_of_ble_eq_true rfl, Nat.le_of_ble_eq_true rfl⟩ rfl hl.1 rfl (Nat.le_of_ble_eq_true rfl) dX8_costBy_130 (fun H locs w => ?_)
    refine gd e0 (fun g27 e0 => ?_)
    refine m_ald X w 18 26 (mat26 _ _ _ _ _) g27 dX8_costBy_133 ?_
    refine lv_goto (tgt := 138) hx hb dX8_costBy_134 (by decide) ?_
    exact fX8_costBy_b138_w (l := l) X hr w (lv_sub hl [0, 1, 4] rfl) e0
def fX8_costBy_b64 (n : Nat) (a1 : Int32) (a2 : Int32) (a3 : Int32) (a4 : Int32) (t0 : Int32) (I : Nat → Int32) (R : Nat → Nat → Int32) : Option (Int32 × mSt) :=
  if inb t0 64 = true then
  if (getA R 26 t0) = (-9) then
    some ((-9), I, R)
  else
    if inb a1 5 = true then
    if (getA R 9 a1) = 3 then
      if inb a1 5 = true then
      (fX8_factOf n (getA R 12 a1) a2 a3).bind fun z17 =>
      if inb z17 64 = true then
      if (getA R 22 z17) = 1 then
        some ((-9), I, R)
      else
        fX8_costBy_b107 n a1 a3 a4 (getA R 26 t0) I R
      else none
      else none
    else
      fX8_costBy_b107 n a1 a3 a4 (getA R 26 t0) I R
    else none
  else none
set_option maxRecDepth 20000 in
set_option maxHeartbeats 1000000 in
theorem fX8_costBy_b64_w {p : Program} {l : Launch} {e : Env} {s : State} {m : MethodId} {args : Array Value} {below : List Frame} {meth : Method} {c : Code} {D : va_G} {y : ClassId} {h : Nat} {q : Nat → Nat} {n : Nat} {z : Int32 × mSt} (X : mX p s m args c cX8_costBy 7 wsX8_costBy D y) (hr : meth.sig.returnType = some .int ∧ meth.locks = false) {a1 : Int32} {a2 : Int32} {a3 : Int32} {a4 : Int32} {t0 : Int32} {I : Nat → Int32} {R : Nat → Nat → Int32} {H : Heap} {locs : List Loc} {ls : Array Slot} (w : mH s D y h q H locs I R) (hl : lv_has ls 7 [(0, .ref h), (1, .int a1), (2, .int a2), (3, .int a3), (4, .int a4)]) (e0 : fX8_costBy_b64 n a1 a2 a3 a4 t0 I R = some z) : W p l e rmX8_costBy s m args below meth c H locs 0 0 (MQ below (mQi D y h q (mS y h q s.heap.size) z) args s 0 0 (mS y h q s.heap.size)) (F0 m 64 ls [.int t0, .ref (q 26)]) := by
  have hx := X.1.1
  have hb := X.1.2.1
  unfold fX8_costBy_b64 at e0
  refine gd e0 (fun g14 e0 => ?_)
  refine m_ald X w 18 26 (mat26 _ _ _ _ _) g14 dX8_costBy_64 ?_
  refine lv_istore (lv' := [(5, .int (getA R 26 t0)), (0, .ref h), (1, .int a1), (2, .int a2), (3, .int a3), (4, .int a4)]) hx hb dX8_costBy_65 hl (by decide) rfl (fun ls hl => ?_)
  refine lv_iload hx hb dX8_costBy_67 (lv_at hl 0 rfl) ?_
  refine lv_bipush (v := (-9)) hx hb dX8_costBy_69 (by decide) ?_
  refine lv_icmp_eq (tgt := 104) hx hb dX8_costBy_71 (by decide) (fun c22 => ?_) (fun c22 => ?_)
  · have e0 := itp _ c22 e0
    refine lv_bipush (v := (-9)) hx hb dX8_costBy_104 (by decide) ?_
    have e0 := Option.some.inj e0
    subst e0
    exact m_iret X w hr dX8_costBy_106
  · have e0 := itn _ c22 e0
    refine lv_aload_n hx hb dX8_costBy_74 rfl (lv_at hl 1 rfl) ?_
    refine m_get X w 9 (by decide) (index := 25) rfl (by decide +kernel) (mfr9 _ _) dX8_costBy_75 ?_
    refine lv_iload_n hx hb dX8_costBy_78 rfl (lv_at hl 2 rfl) ?_
    refine gd e0 (fun g15 e0 => ?_)
    refine m_ald X w 6 9 (mat9 _ _ _ _ _) g15 dX8_costBy_79 ?_
    refine lv_iconst (v := 3) hx hb dX8_costBy_80 (by decide) ?_
    refine lv_icmp_ne (tgt := 107) hx hb dX8_costBy_81 (by decide) (fun c21 => ?_) (fun c21 => ?_)
    · have e0 := itn _ c21 e0
      exact fX8_costBy_b107_w (l := l) X hr w (lv_sub hl [1, 2, 4, 5, 0] rfl) e0
    · have e0 := itp _ c21 e0
      refine lv_aload_n hx hb dX8_costBy_84 rfl (lv_at hl 1 rfl) ?_
      refine m_get X w 22 (by decide) (index := 52) rfl (by decide +kernel) (mfr22 _ _) dX8_costBy_85 ?_
      refine lv_aload_n hx hb dX8_costBy_88 rfl (lv_at hl 1 rfl) ?_
      refine m_get X w 12 (by decide) (index := 34) rfl (by decide +kernel) (mfr12 _ _) dX8_costBy_89 ?_
      refine lv_iload_n hx hb dX8_costBy_92 rfl (lv_at hl 2 rfl) ?_
      refine gd e0 (fun g16 e0 => ?_)
      refine m_ald X w 9 12 (mat12 _ _ _ _ _) g16 dX8_costBy_93 ?_
      refine lv_iload_n hx hb dX8_costBy_94 rfl (lv_at hl 3 rfl) ?_
      refine lv_iload_n hx hb dX8_costBy_95 rfl (lv_at hl 4 rfl) ?_
      refine bd e0 (fun z17 e18 e0 => ?_)
      refine m_callsi X w (n := 3) (As := [.int (getA R 12 a1), .int a2, .int a3]) (rest := [.ref (q 22)]) (fX8_factOf_met l _ _ _ _ _ e18) gX8_costBy_X8_factOf rfl rfl rfl (by decide +kernel) ⟨Nat.le_of_ble_eq_true rfl, Nat.le_of_ble_eq_true rfl⟩ rfl hl.1 rfl (Nat.le_of_ble_eq_true rfl) dX8_costBy_96 (fun H locs w => ?_)
      refine gd e0 (fun g19 e0 => ?_)
      refine m_ald X w 15 22 (mat22 _ _ _ _ _) g19 dX8_costBy_99 ?_
      refine lv_iconst (v := 1) hx hb dX8_costBy_100 (by decide) ?_
      refine lv_icmp_ne (tgt := 107) hx hb dX8_costBy_101 (by decide) (fun c20 => ?_) (fun c20 => ?_)
      · have e0 := itn _ c20 e0
        exact fX8_costBy_b107_w (l := l) X hr w (lv_sub hl [1, 2, 4, 5, 0] rfl) e0
      · have e0 := itp _ c20 e0
        refine lv_bipush (v := (-9)) hx hb dX8_costBy_104 (by decide) ?_
        have e0 := Option.some.inj e0
        subst e0
        exact m_iret X w hr dX8_costBy_106
def fX8_costBy (n : Nat) (a1 : Int32) (a2 : Int32) (a3 : Int32) (a4 : Int32) (I : Nat → Int32) (R : Nat → Nat → Int32) : Option (Int32 × mSt) :=
  if inb a1 5 = true then
  if (getA R 9 a1) = 2 then
    if inb a1 5 = true then
    (fX8_factOf n (getA R 11 a1) a2 a4).bind fun z11 =>
    fX8_costBy_b64 n a1 a2 a3 a4 z11 I R
    else none
  else
    if inb a1 5 = true then
    if (getA R 9 a1) = 1 then
      if inb a1 5 = true then
      (fX8_factOf n (getA R 11 a1) a3 a2).bind fun z7 =>
      fX8_costBy_b64 n a1 a2 a3 a4 z7 I R
      else none
    else
      if inb a1 5 = true then
      (fX8_factOf n (getA R 11 a1) a2 a3).bind fun z4 =>
      fX8_costBy_b64 n a1 a2 a3 a4 z4 I R
      else none
    else none
  else none
set_option maxRecDepth 20000 in
set_option maxHeartbeats 1000000 in
theorem fX8_costBy_w {p : Program} {l : Launch} {e : Env} {s : State} {m : MethodId} {args : Array Value} {below : List Frame} {meth : Method} {c : Code} {D : va_G} {y : ClassId} {h : Nat} {q : Nat → Nat} {n : Nat} {z : Int32 × mSt} (X : mX p s m args c cX8_costBy 7 wsX8_costBy D y) (hr : meth.sig.returnType = some .int ∧ meth.locks = false) {a1 : Int32} {a2 : Int32} {a3 : Int32} {a4 : Int32} {I : Nat → Int32} {R : Nat → Nat → Int32} {H : Heap} {locs : List Loc} {ls : Array Slot} (w : mH s D y h q H locs I R) (hl : lv_has ls 7 [(0, .ref h), (1, .int a1), (2, .int a2), (3, .int a3), (4, .int a4)]) (e0 : fX8_costBy n a1 a2 a3 a4 I R = some z) : W p l e rmX8_costBy s m args below meth c H locs 0 0 (MQ below (mQi D y h q (mS y h q s.heap.size) z) args s 0 0 (mS y h q s.heap.size)) (F0 m 0 ls []) := by
  have hx := X.1.1
  have hb := X.1.2.1
  unfold fX8_costBy at e0
  refine lv_aload_n hx hb dX8_costBy_0 rfl (lv_at hl 0 rfl) ?_
  refine m_get X w 26 (by decide) (index := 61) rfl (by decide +kernel) (mfr26 _ _) dX8_costBy_1 ?_
  refine lv_aload_n hx hb dX8_costBy_4 rfl (lv_at hl 0 rfl) ?_
  refine m_get X w 9 (by decide) (index := 25) rfl (by decide +kernel) (mfr9 _ _) dX8_costBy_5 ?_
  refine lv_iload_n hx hb dX8_costBy_8 rfl (lv_at hl 1 rfl) ?_
  refine gd e0 (fun g1 e0 => ?_)
  refine m_ald X w 6 9 (mat9 _ _ _ _ _) g1 dX8_costBy_9 ?_
  refine lv_iconst (v := 2) hx hb dX8_costBy_10 (by decide) ?_
  refine lv_icmp_ne (tgt := 29) hx hb dX8_costBy_11 (by decide) (fun c13 => ?_) (fun c13 => ?_)
  · have e0 := itn _ c13 e0
    refine lv_aload_n hx hb dX8_costBy_29 rfl (lv_at hl 0 rfl) ?_
    refine m_get X w 9 (by decide) (index := 25) rfl (by decide +kernel) (mfr9 _ _) dX8_costBy_30 ?_
    refine lv_iload_n hx hb dX8_costBy_33 rfl (lv_at hl 1 rfl) ?_
    refine gd e0 (fun g2 e0 => ?_)
    refine m_ald X w 6 9 (mat9 _ _ _ _ _) g2 dX8_costBy_34 ?_
    refine lv_iconst (v := 1) hx hb dX8_costBy_35 (by decide) ?_
    refine lv_icmp_ne (tgt := 53) hx hb dX8_costBy_36 (by decide) (fun c9 => ?_) (fun c9 => ?_)
    · have e0 := itn _ c9 e0
      refine lv_aload_n hx hb dX8_costBy_53 rfl (lv_at hl 0 rfl) ?_
      refine m_get X w 11 (by decide) (index := 31) rfl (by decide +kernel) (mfr11 _ _) dX8_costBy_54 ?_
      refine lv_iload_n hx hb dX8_costBy_57 rfl (lv_at hl 1 rfl) ?_
      refine gd e0 (fun g3 e0 => ?_)
      refine m_ald X w 8 11 (mat11 _ _ _ _ _) g3 dX8_costBy_58 ?_
      refine lv_iload_n hx hb dX8_costBy_59 rfl (lv_at hl 2 rfl) ?_
      refine lv_iload_n hx hb dX8_costBy_60 rfl (lv_at hl 3 rfl) ?_
      refine bd e0 (fun z4 e5 e0 => ?_)
      refine m_callsi X w (n := 3) (As := [.int (getA R 11 a1), .int a2, .int a3]) (rest := [.ref (q 26)]) (fX8_factOf_met l _ _ _ _ _ e5) gX8_costBy_X8_factOf rfl rfl rfl (by decide +kernel) ⟨Nat.le_of_ble_eq_true rfl, Nat.le_of_ble_eq_true rfl⟩ rfl hl.1 rfl (Nat.le_of_ble_eq_true rfl) dX8_costBy_61 (fun H locs w => ?_)
      exact fX8_costBy_b64_w (l := l) X hr w (lv_sub hl [0, 1, 2, 3, 4] rfl) e0
    · have e0 := itp _ c9 e0
      refine lv_aload_n hx hb dX8_costBy_39 rfl (lv_at hl 0 rfl) ?_
      refine m_get X w 11 (by decide) (index := 31) rfl (by decide +kernel) (mfr11 _ _) dX8_costBy_40 ?_
      refine lv_iload_n hx hb dX8_costBy_43 rfl (lv_at hl 1 rfl) ?_
      refine gd e0 (fun g6 e0 => ?_)
      refine m_ald X w 8 11 (mat11 _ _ _ _ _) g6 dX8_costBy_44 ?_
      refine lv_iload_n hx hb dX8_costBy_45 rfl (lv_at hl 3 rfl) ?_
      refine lv_iload_n hx hb dX8_costBy_46 rfl (lv_at hl 2 rfl) ?_
      refine bd e0 (fun z7 e8 e0 => ?_)
      refine m_callsi X w (n := 3) (As := [.int (getA R 11 a1), .int a3, .int a2]) (rest := [.ref (q 26)]) (fX8_factOf_met l _ _ _ _ _ e8) gX8_costBy_X8_factOf rfl rfl rfl (by decide +kernel) ⟨Nat.le_of_ble_eq_true rfl, Nat.le_of_ble_eq_true rfl⟩ rfl hl.1 rfl (Nat.le_of_ble_eq_true rfl) dX8_costBy_47 (fun H locs w => ?_)
      refine lv_goto (tgt := 64) hx hb dX8_costBy_50 (by decide) ?_
      exact fX8_costBy_b64_w (l := l) X hr w (lv_sub hl [0, 1, 2, 3, 4] rfl) e0
  · have e0 := itp _ c13 e0
    refine lv_aload_n hx hb dX8_costBy_14 rfl (lv_at hl 0 rfl) ?_
    refine m_get X w 11 (by decide) (index := 31) rfl (by decide +kernel) (mfr11 _ _) dX8_costBy_15 ?_
    refine lv_iload_n hx hb dX8_costBy_18 rfl (lv_at hl 1 rfl) ?_
    refine gd e0 (fun g10 e0 => ?_)
    refine m_ald X w 8 11 (mat11 _ _ _ _ _) g10 dX8_costBy_19 ?_
    refine lv_iload_n hx hb dX8_costBy_20 rfl (lv_at hl 2 rfl) ?_
    refine lv_iload hx hb dX8_costBy_21 (lv_at hl 4 rfl) ?_
    refine bd e0 (fun z11 e12 e0 => ?_)
    refine m_callsi X w (n := 3) (As := [.int (getA R 11 a1), .int a2, .int a4]) (rest := [.ref (q 26)]) (fX8_factOf_met l _ _ _ _ _ e12) gX8_costBy_X8_factOf rfl rfl rfl (by decide +kernel) ⟨Nat.le_of_ble_eq_true rfl, Nat.le_of_ble_eq_true rfl⟩ rfl hl.1 rfl (Nat.le_of_ble_eq_true rfl) dX8_costBy_23 (fun H locs w => ?_)
    refine lv_goto (tgt := 64) hx hb dX8_costBy_26 (by decide) ?_
    exact fX8_costBy_b64_w (l := l) X hr w (lv_sub hl [0, 1, 2, 3, 4] rfl) e0
set_option maxRecDepth 20000 in
theorem fX8_costBy_met (l : Launch) (D : va_G) (y : ClassId) (h : Nat) (q : Nat → Nat) (sz n : Nat) (a1 : Int32) (a2 : Int32) (a3 : Int32) (a4 : Int32) (I : Nat → Int32) (R : Nat → Nat → Int32) (z : Int32 × mSt) (e0 : fX8_costBy n a1 a2 a3 a4 I R = some z) : Met l yX8_costBy wsX8_costBy rmX8_costBy (va_Pc [.ref h, .int a1, .int a2, .int a3, .int a4] (mPre D y h q sz I R)) (mQi D y h q (mS y h q sz) z) 0 0 (mS y h q sz) := by
  refine Met.ofW (cc := cX8_costBy) (maxL := 7) (ret := some .int) (by decide) rfl ?_
  intro p e s m args below meth c s₁ B hml hv
  obtain ⟨rfl, hsz, hP, hK, hD⟩ := hv
  subst hsz
  have hl := lv_entry ([.ref h, .int a1, .int a2, .int a3, .int a4]) (n := 7) (Nat.le_of_ble_eq_true rfl)
  rw [lg_entry_eq]
  exact fX8_costBy_w (s := s) ⟨⟨B.exec, B.bytes, hml, findClass_of_methodNamed B.named, atoms_spec (ws := wsX8_costBy) B.pre⟩, fun _ h9 => List.mem_cons_of_mem _ (List.mem_append_right _ h9), hK⟩ ⟨B.returns, B.notSynchronized⟩ ⟨hP, mS_D hD, va_S.rf⟩ hl e0
