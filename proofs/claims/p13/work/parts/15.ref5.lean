def rmX8_settled : Room := { frames := 5, cells := 0, slots := 0, locals := 115 }
def fX8_settled_b100 (n : Nat) (k23 : Int32 → Int32 → (Nat → Int32) → (Nat → Nat → Int32) → Option (Int32 × mSt)) (k34 : Int32 → Int32 → Int32 → Int32 → (Nat → Int32) → (Nat → Nat → Int32) → Option (Int32 × mSt)) (a1 : Int32) (a2 : Int32) (a4 : Int32) (t0 : Int32) (t1 : Int32) (I : Nat → Int32) (R : Nat → Nat → Int32) : Option (Int32 × mSt) :=
  k34 a1 a2 (t1 + t0) (a4 + 1) I R
set_option maxRecDepth 20000 in
set_option maxHeartbeats 1000000 in
theorem fX8_settled_b100_w {p : Program} {l : Launch} {e : Env} {s : State} {m : MethodId} {args : Array Value} {below : List Frame} {meth : Method} {c : Code} {D : va_G} {y : ClassId} {h : Nat} {q : Nat → Nat} {n : Nat} {z : Int32 × mSt} (X : mX p s m args c cX8_settled 6 wsX8_settled D y) (hr : meth.sig.returnType = some .int ∧ meth.locks = false) {k23 : Int32 → Int32 → (Nat → Int32) → (Nat → Nat → Int32) → Option (Int32 × mSt)} (hk23 : ∀ (a1 : Int32) (a2 : Int32) (I : Nat → Int32) (R : Nat → Nat → Int32) (H : Heap) (locs : List Loc) (ls : Array Slot), mH s D y h q H locs I R → lv_has ls 6 [(0, .ref h), (1, .int a1), (2, .int a2)] → k23 a1 a2 I R = some z → W p l e rmX8_settled s m args below meth c H locs 0 0 (MQ below (mQi D y h q (mS y h q s.heap.size) z) args s 0 0 (mS y h q s.heap.size)) (F0 m 23 ls [])) {k34 : Int32 → Int32 → Int32 → Int32 → (Nat → Int32) → (Nat → Nat → Int32) → Option (Int32 × mSt)} (hk34 : ∀ (a1 : Int32) (a2 : Int32) (a3 : Int32) (a4 : Int32) (I : Nat → Int32) (R : Nat → Nat → Int32) (H : Heap) (locs : List Loc) (ls : Array Slot), mH s D y h q H locs I R → lv_has ls 6 [(0, .ref h), (1, .int a1), (2, .int a2), (3, .int a3), (4, .int a4)] → k34 a1 a2 a3 a4 I R = some z → W p l e rmX8_settled s m args below meth c H locs 0 0 (MQ below (mQi D y h q (mS y h q s.heap.size) z) args s 0 0 (mS y h q s.heap.size)) (F0 m 34 ls [])) {a1 : Int32} {a2 : Int32} {a4 : Int32} {t0 : Int32} {t1 : Int32} {I : Nat → Int32} {R : Nat → Nat → Int32} {H : Heap} {locs : List Loc} {ls : Array Slot} (w : mH s D y h q H locs I R) (hl : lv_has ls 6 [(0, .ref h), (1, .int a1), (2, .int a2), (4, .int a4)]) (e0 : fX8_settled_b100 n k23 k34 a1 a2 a4 t0 t1 I R = some z) : W p l e rmX8_settled s m args below meth c H locs 0 0 (MQ below (mQi D y h q (mS y h q s.heap.size) z) args s 0 0 (mS y h q s.heap.size)) (F0 m 100 ls [.int t0, .int t1]) := by
  have hx := X.1.1
  have hb := X.1.2.1
  unfold fX8_settled_b100 at e0
  refine lv_iadd hx hb dX8_settled_100 ?_
  refine lv_istore_n (lv' := [(3, .int (t1 + t0)), (0, .ref h), (1, .int a1), (2, .int a2), (4, .int a4)]) hx hb dX8_settled_101 rfl hl (by decide) rfl (fun ls hl => ?_)
  refine lv_iinc (v := (a4 + 1)) (lv' := [(4, .int (a4 + 1)), (3, .int (t1 + t0)), (0, .ref h), (1, .int a1), (2, .int a2)]) hx hb dX8_settled_102 hl (k := 4) rfl rfl (by decide) rfl (fun ls hl => ?_)
  refine lv_goto (tgt := 34) hx hb dX8_settled_105 (by decide) ?_
  exact hk34 _ _ _ _ _ _ _ _ _ w (lv_sub hl [2, 3, 4, 1, 0] rfl) e0
def fX8_settled_b95 (n : Nat) (k23 : Int32 → Int32 → (Nat → Int32) → (Nat → Nat → Int32) → Option (Int32 × mSt)) (k34 : Int32 → Int32 → Int32 → Int32 → (Nat → Int32) → (Nat → Nat → Int32) → Option (Int32 × mSt)) (a1 : Int32) (a2 : Int32) (a4 : Int32) (t0 : Int32) (I : Nat → Int32) (R : Nat → Nat → Int32) : Option (Int32 × mSt) :=
  fX8_settled_b100 n k23 k34 a1 a2 a4 1 t0 I R
set_option maxRecDepth 20000 in
set_option maxHeartbeats 1000000 in
theorem fX8_settled_b95_w {p : Program} {l : Launch} {e : Env} {s : State} {m : MethodId} {args : Array Value} {below : List Frame} {meth : Method} {c : Code} {D : va_G} {y : ClassId} {h : Nat} {q : Nat → Nat} {n : Nat} {z : Int32 × mSt} (X : mX p s m args c cX8_settled 6 wsX8_settled D y) (hr : meth.sig.returnType = some .int ∧ meth.locks = false) {k23 : Int32 → Int32 → (Nat → Int32) → (Nat → Nat → Int32) → Option (Int32 × mSt)} (hk23 : ∀ (a1 : Int32) (a2 : Int32) (I : Nat → Int32) (R : Nat → Nat → Int32) (H : Heap) (locs : List Loc) (ls : Array Slot), mH s D y h q H locs I R → lv_has ls 6 [(0, .ref h), (1, .int a1), (2, .int a2)] → k23 a1 a2 I R = some z → W p l e rmX8_settled s m args below meth c H locs 0 0 (MQ below (mQi D y h q (mS y h q s.heap.size) z) args s 0 0 (mS y h q s.heap.size)) (F0 m 23 ls [])) {k34 : Int32 → Int32 → Int32 → Int32 → (Nat → Int32) → (Nat → Nat → Int32) → Option (Int32 × mSt)} (hk34 : ∀ (a1 : Int32) (a2 : Int32) (a3 : Int32) (a4 : Int32) (I : Nat → Int32) (R : Nat → Nat → Int32) (H : Heap) (locs : List Loc) (ls : Array Slot), mH s D y h q H locs I R → lv_has ls 6 [(0, .ref h), (1, .int a1), (2, .int a2), (3, .int a3), (4, .int a4)] → k34 a1 a2 a3 a4 I R = some z → W p l e rmX8_settled s m args below meth c H locs 0 0 (MQ below (mQi D y h q (mS y h q s.heap.size) z) args s 0 0 (mS y h q s.heap.size)) (F0 m 34 ls [])) {a1 : Int32} {a2 : Int32} {a4 : Int32} {t0 : Int32} {I : Nat → Int32} {R : Nat → Nat → Int32} {H : Heap} {locs : List Loc} {ls : Array Slot} (w : mH s D y h q H locs I R) (hl : lv_has ls 6 [(0, .ref h), (1, .int a1), (2, .int a2), (4, .int a4)]) (e0 : fX8_settled_b95 n k23 k34 a1 a2 a4 t0 I R = some z) : W p l e rmX8_settled s m args below meth c H locs 0 0 (MQ below (mQi D y h q (mS y h q s.heap.size) z) args s 0 0 (mS y h q s.heap.size)) (F0 m 95 ls [.int t0]) := by
  have hx := X.1.1
  have hb := X.1.2.1
  unfold fX8_settled_b95 at e0
  refine lv_iconst (v := 1) hx hb dX8_settled_95 (by decide) ?_
  refine lv_goto (tgt := 100) hx hb dX8_settled_96 (by decide) ?_
  exact fX8_settled_b100_w (l := l) X hr hk23 hk34 w (lv_sub hl [0, 1, 2, 3] rfl) e0
def fX8_settled_b99 (n : Nat) (k23 : Int32 → Int32 → (Nat → Int32) → (Nat → Nat → Int32) → Option (Int32 × mSt)) (k34 : Int32 → Int32 → Int32 → Int32 → (Nat → Int32) → (Nat → Nat → Int32) → Option (Int32 × mSt)) (a1 : Int32) (a2 : Int32) (a4 : Int32) (t0 : Int32) (I : Nat → Int32) (R : Nat → Nat → Int32) : Option (Int32 × mSt) :=
  fX8_settled_b100 n k23 k34 a1 a2 a4 0 t0 I R
set_option maxRecDepth 20000 in
set_option maxHeartbeats 1000000 in
theorem fX8_settled_b99_w {p : Program} {l : Launch} {e : Env} {s : State} {m : MethodId} {args : Array Value} {below : List Frame} {meth : Method} {c : Code} {D : va_G} {y : ClassId} {h : Nat} {q : Nat → Nat} {n : Nat} {z : Int32 × mSt} (X : mX p s m args c cX8_settled 6 wsX8_settled D y) (hr : meth.sig.returnType = some .int ∧ meth.locks = false) {k23 : Int32 → Int32 → (Nat → Int32) → (Nat → Nat → Int32) → Option (Int32 × mSt)} (hk23 : ∀ (a1 : Int32) (a2 : Int32) (I : Nat → Int32) (R : Nat → Nat → Int32) (H : Heap) (locs : List Loc) (ls : Array Slot), mH s D y h q H locs I R → lv_has ls 6 [(0, .ref h), (1, .int a1), (2, .int a2)] → k23 a1 a2 I R = some z → W p l e rmX8_settled s m args below meth c H locs 0 0 (MQ below (mQi D y h q (mS y h q s.heap.size) z) args s 0 0 (mS y h q s.heap.size)) (F0 m 23 ls [])) {k34 : Int32 → Int32 → Int32 → Int32 → (Nat → Int32) → (Nat → Nat → Int32) → Option (Int32 × mSt)} (hk34 : ∀ (a1 : Int32) (a2 : Int32) (a3 : Int32) (a4 : Int32) (I : Nat → Int32) (R : Nat → Nat → Int32) (H : Heap) (locs : List Loc) (ls : Array Slot), mH s D y h q H locs I R → lv_has ls 6 [(0, .ref h), (1, .int a1), (2, .int a2), (3, .int a3), (4, .int a4)] → k34 a1 a2 a3 a4 I R = some z → W p l e rmX8_settled s m args below meth c H locs 0 0 (MQ below (mQi D y h q (mS y h q s.heap.size) z) args s 0 0 (mS y h q s.heap.size)) (F0 m 34 ls [])) {a1 : Int32} {a2 : Int32} {a4 : Int32} {t0 : Int32} {I : Nat → Int32} {R : Nat → Nat → Int32} {H : Heap} {locs : List Loc} {ls : Array Slot} (w : mH s D y h q H locs I R) (hl : lv_has ls 6 [(0, .ref h), (1, .int a1), (2, .int a2), (4, .int a4)]) (e0 : fX8_settled_b99 n k23 k34 a1 a2 a4 t0 I R = some z) : W p l e rmX8_settled s m args below meth c H locs 0 0 (MQ below (mQi D y h q (mS y h q s.heap.size) z) args s 0 0 (mS y h q s.heap.size)) (F0 m 99 ls [.int t0]) := by
  have hx := X.1.1
  have hb := X.1.2.1
  unfold fX8_settled_b99 at e0
  refine lv_iconst (v := 0) hx hb dX8_settled_99 (by decide) ?_
  exact fX8_settled_b100_w (l := l) X hr hk23 hk34 w (lv_sub hl [0, 1, 2, 3] rfl) e0
def fX8_settled_b125 (n : Nat) (k23 : Int32 → Int32 → (Nat → Int32) → (Nat → Nat → Int32) → Option (Int32 × mSt)) (a1 : Int32) (a2 : Int32) (I : Nat → Int32) (R : Nat → Nat → Int32) : Option (Int32 × mSt) :=
  k23 a1 (a2 + 1) I R
set_option maxRecDepth 20000 in
set_option maxHeartbeats 1000000 in
theorem fX8_settled_b125_w {p : Program} {l : Launch} {e : Env} {s : State} {m : MethodId} {args : Array Value} {below : List Frame} {meth : Method} {c : Code} {D : va_G} {y : ClassId} {h : Nat} {q : Nat → Nat} {n : Nat} {z : Int32 × mSt} (X : mX p s m args c cX8_settled 6 wsX8_settled D y) (hr : meth.sig.returnType = some .int ∧ meth.locks = false) {k23 : Int32 → Int32 → (Nat → Int32) → (Nat → Nat → Int32) → Option (Int32 × mSt)} (hk23 : ∀ (a1 : Int32) (a2 : Int32) (I : Nat → Int32) (R : Nat → Nat → Int32) (H : Heap) (locs : List Loc) (ls : Array Slot), mH s D y h q H locs I R → lv_has ls 6 [(0, .ref h), (1, .int a1), (2, .int a2)] → k23 a1 a2 I R = some z → W p l e rmX8_settled s m args below meth c H locs 0 0 (MQ below (mQi D y h q (mS y h q s.heap.size) z) args s 0 0 (mS y h q s.heap.size)) (F0 m 23 ls [])) {a1 : Int32} {a2 : Int32} {I : Nat → Int32} {R : Nat → Nat → Int32} {H : Heap} {locs : List Loc} {ls : Array Slot} (w : mH s D y h q H locs I R) (hl : lv_has ls 6 [(0, .ref h), (1, .int a1), (2, .int a2)]) (e0 : fX8_settled_b125 n k23 a1 a2 I R = some z) : W p l e rmX8_settled s m args below meth c H locs 0 0 (MQ below (mQi D y h q (mS y h q s.heap.size) z) args s 0 0 (mS y h q s.heap.size)) (F0 m 125 ls []) := by
  have hx := X.1.1
  have hb := X.1.2.1
  unfold fX8_settled_b125 at e0
  refine lv_iinc (v := (a2 + 1)) (lv' := [(2, .int (a2 + 1)), (0, .ref h), (1, .int a1)]) hx hb dX8_settled_125 hl (k := 2) rfl rfl (by decide) rfl (fun ls hl => ?_)
  refine lv_goto (tgt := 23) hx hb dX8_settled_128 (by decide) ?_
  exact hk23 _ _ _ _ _ _ _ w (lv_sub hl [1, 2, 0] rfl) e0
def fX8_settled_b34 (n : Nat) (k23 : Int32 → Int32 → (Nat → Int32) → (Nat → Nat → Int32) → Option (Int32 × mSt)) : Nat → Int32 → Int32 → Int32 → Int32 → (Nat → Int32) → (Nat → Nat → Int32) → Option (Int32 × mSt)
  | 0, _, _, _, _, _, _ => none
  | j + 1, a1, a2, a3, a4, I, R =>
    if 64 ≤ a4 then
      if inb a2 64 = true then
      if (getA R 22 a2) = 1 then
        if a3 = a1 then
          some (a2, I, R)
        else
          fX8_settled_b125 n k23 a1 a2 I R
      else
        fX8_settled_b125 n k23 a1 a2 I R
      else none
    else
      if inb (a4 / 16) 4 = true then
      if inb (a2 / 16) 4 = true then
      if inb a4 64 = true then
      if (getA R 22 a4) = 1 then
        if ((getA R 21 (a4 / 16)) - (getA R 21 (a2 / 16))) < 0 then
          fX8_settled_b95 n k23 (fX8_settled_b34 n k23 j) a1 a2 a4 a3 I R
        else
          if ((getA R 21 (a4 / 16)) - (getA R 21 (a2 / 16))) = 0 then
            (fX8_isCheaper n a4 a2 I R).bind fun z12 =>
            if z12.1 = 0 then
              fX8_settled_b99 n k23 (fX8_settled_b34 n k23 j) a1 a2 a4 a3 z12.2.1 z12.2.2
            else
              fX8_settled_b95 n k23 (fX8_settled_b34 n k23 j) a1 a2 a4 a3 z12.2.1 z12.2.2
          else
            fX8_settled_b99 n k23 (fX8_settled_b34 n k23 j) a1 a2 a4 a3 I R
      else
        fX8_settled_b99 n k23 (fX8_settled_b34 n k23 j) a1 a2 a4 a3 I R
      else none
      else none
      else none
set_option maxRecDepth 20000 in
set_option maxHeartbeats 1000000 in
theorem fX8_settled_b34_w {p : Program} {l : Launch} {e : Env} {s : State} {m : MethodId} {args : Array Value} {below : List Frame} {meth : Method} {c : Code} {D : va_G} {y : ClassId} {h : Nat} {q : Nat → Nat} {n : Nat} {z : Int32 × mSt} (X : mX p s m args c cX8_settled 6 wsX8_settled D y) (hr : meth.sig.returnType = some .int ∧ meth.locks = false) {k23 : Int32 → Int32 → (Nat → Int32) → (Nat → Nat → Int32) → Option (Int32 × mSt)} (hk23 : ∀ (a1 : Int32) (a2 : Int32) (I : Nat → Int32) (R : Nat → Nat → Int32) (H : Heap) (locs : List Loc) (ls : Array Slot), mH s D y h q H locs I R → lv_has ls 6 [(0, .ref h), (1, .int a1), (2, .int a2)] → k23 a1 a2 I R = some z → W p l e rmX8_settled s m args below meth c H locs 0 0 (MQ below (mQi D y h q (mS y h q s.heap.size) z) args s 0 0 (mS y h q s.heap.size)) (F0 m 23 ls [])) : ∀ (j : Nat) (a1 : Int32) (a2 : Int32) (a3 : Int32) (a4 : Int32) (I : Nat → Int32) (R : Nat → Nat → Int32) (H : Heap) (locs : List Loc) (ls : Array Slot), mH s D y h q H locs I R → lv_has ls 6 [(0, .ref h), (1, .int a1), (2, .int a2), (3, .int a3), (4, .int a4)] → fX8_settled_b34 n k23 j a1 a2 a3 a4 I R = some z → W p l e rmX8_settled s m args below meth c H locs 0 0 (MQ below (mQi D y h q (mS y h q s.heap.size) z) args s 0 0 (mS y h q s.heap.size)) (F0 m 34 ls []) := by
  have hx := X.1.1
  have hb := X.1.2.1
  intro j
  induction j with
  | zero =>
    intro a1 a2 a3 a4 I R H locs ls w hl e0
    cases e0
  | succ j ih =>
    intro a1 a2 a3 a4 I R H locs ls w hl e0
    rw [fX8_settled_b34] at e0
    refine lv_iload hx hb dX8_settled_34 (lv_at hl 4 rfl) ?_
    refine lv_bipush (v := 64) hx hb dX8_settled_36 (by decide) ?_
    refine lv_icmp_ge (tgt := 108) hx hb dX8_settled_38 (by decide) (fun c18 => ?_) (fun c18 => ?_)
    · have e0 := itp _ c18 e0
      refine lv_aload_n hx hb dX8_settled_108 rfl (lv_at hl 0 rfl) ?_
      refine m_get X w 22 (by decide) (index := 52) rfl (by decide +kernel) (mfr22 _ _) dX8_settled_109 ?_
      refine lv_iload_n hx hb dX8_settled_112 rfl (lv_at hl 2 rfl) ?_
      refine gd e0 (fun g6 e0 => ?_)
      refine m_ald X w 15 22 (mat22 _ _ _ _ _) g6 dX8_settled_113 ?_
      refine lv_iconst (v := 1) hx hb dX8_settled_114 (by decide) ?_
      refine lv_icmp_ne (tgt := 125) hx hb dX8_settled_115 (by decide) (fun c8 => ?_) (fun c8 => ?_)
      · have e0 := itn _ c8 e0
        exact fX8_settled_b125_w (l := l) X hr hk23 w (lv_sub hl [0, 1, 2] rfl) e0
      · have e0 := itp _ c8 e0
        refine lv_iload_n hx hb dX8_settled_118 rfl (lv_at hl 3 rfl) ?_
        refine lv_iload_n hx hb dX8_settled_119 rfl (lv_at hl 1 rfl) ?_
        refine lv_icmp_ne (tgt := 125) hx hb dX8_settled_120 (by decide) (fun c7 => ?_) (fun c7 => ?_)
        · have e0 := itn _ c7 e0
          exact fX8_settled_b125_w (l := l) X hr hk23 w (lv_sub hl [0, 1, 2] rfl) e0
        · have e0 := itp _ c7 e0
          refine lv_iload_n hx hb dX8_settled_123 rfl (lv_at hl 2 rfl) ?_
          have e0 := Option.some.inj e0
          subst e0
          exact m_iret X w hr dX8_settled_124
    · have e0 := itn _ c18 e0
      refine lv_aload_n hx hb dX8_settled_41 rfl (lv_at hl 0 rfl) ?_
      refine m_get X w 21 (by decide) (index := 49) rfl (by decide +kernel) (mfr21 _ _) dX8_settled_42 ?_
      refine lv_iload hx hb dX8_settled_45 (lv_at hl 4 rfl) ?_
      refine lv_bipush (v := 16) hx hb dX8_settled_47 (by decide) ?_
      refine lv_idiv hx hb dX8_settled_49 (by decide) ?_
      refine gd e0 (fun g9 e0 => ?_)
      refine m_ald X w 14 21 (mat21 _ _ _ _ _) g9 dX8_settled_50 ?_
      refine lv_aload_n hx hb dX8_settled_51 rfl (lv_at hl 0 rfl) ?_
      refine m_get X w 21 (by decide) (index := 49) rfl (by decide +kernel) (mfr21 _ _) dX8_settled_52 ?_
      refine lv_iload_n hx hb dX8_settled_55 rfl (lv_at hl 2 rfl) ?_
      refine lv_bipush (v := 16) hx hb dX8_settled_56 (by decide) ?_
      refine lv_idiv hx hb dX8_settled_58 (by decide) ?_
      refine gd e0 (fun g10 e0 => ?_)
      refine m_ald X w 14 21 (mat21 _ _ _ _ _) g10 dX8_settled_59 ?_
      refine lv_isub hx hb dX8_settled_60 ?_
      refine lv_istore (lv' := [(5, .int ((getA R 21 (a4 / 16)) - (getA R 21 (a2 / 16)))), (0, .ref h), (1, .int a1), (2, .int a2), (3, .int a3), (4, .int a4)]) hx hb dX8_settled_61 hl (by decide) rfl (fun ls hl => ?_)
      refine lv_iload_n hx hb dX8_settled_63 rfl (lv_at hl 4 rfl) ?_
      refine lv_aload_n hx hb dX8_settled_64 rfl (lv_at hl 1 rfl) ?_
      refine m_get X w 22 (by decide) (index := 52) rfl (by decide +kernel) (mfr22 _ _) dX8_settled_65 ?_
      refine lv_iload hx hb dX8_settled_68 (lv_at hl 5 rfl) ?_
      refine gd e0 (fun g11 e0 => ?_)
      refine m_ald X w 15 22 (mat22 _ _ _ _ _) g11 dX8_settled_70 ?_
      refine lv_iconst (v := 1) hx hb dX8_settled_71 (by decide) ?_
      refine lv_icmp_ne (tgt := 99) hx hb dX8_settled_72 (by decide) (fun c17 => ?_) (fun c17 => ?_)
      · have e0 := itn _ c17 e0
        exact fX8_settled_b99_w (l := l) X hr hk23 ih w (lv_sub hl [1, 2, 3, 5] rfl) e0
      · have e0 := itp _ c17 e0
        refine lv_iload hx hb dX8_settled_75 (lv_at hl 0 rfl) ?_
        refine lv_if_lt (tgt := 95) hx hb dX8_settled_77 (by decide) (fun c16 => ?_) (fun c16 => ?_)
        · have e0 := itp _ c16 e0
          exact fX8_settled_b95_w (l := l) X hr hk23 ih w (lv_sub hl [1, 2, 3, 5] rfl) e0
        · have e0 := itn _ c16 e0
          refine lv_iload hx hb dX8_settled_80 (lv_at hl 0 rfl) ?_
          refine lv_if_ne (tgt := 99) hx hb dX8_settled_82 (by decide) (fun c15 => ?_) (fun c15 => ?_)
          · have e0 := itn _ c15 e0
            exact fX8_settled_b99_w (l := l) X hr hk23 ih w (lv_sub hl [1, 2, 3, 5] rfl) e0
          · have e0 := itp _ c15 e0
            refine lv_aload_n hx hb dX8_settled_85 rfl (lv_at hl 1 rfl) ?_
            refine lv_iload hx hb dX8_settled_86 (lv_at hl 5 rfl) ?_
            refine lv_iload_n hx hb dX8_settled_88 rfl (lv_at hl 3 rfl) ?_
            refine bd e0 (fun z12 e13 e0 => ?_)
            refine m_calli X w (n := 2) (As := [.int a4, .int a2]) (rest := [.int a3]) (fX8_isCheaper_met l _ _ _ _ _ _ _ _ _ _ _ e13) gX8_settled_X8_isCheaper rfl rfl rfl (by decide +kernel) ⟨Nat.le_of_ble_eq_true rfl, Nat.le_of_ble_eq_true rfl⟩ rfl hl.1 rfl (Nat.le_of_ble_eq_true rfl) dX8_settled_89 (fun H locs w => ?_)
            refine lv_if_eq (tgt := 99) hx hb dX8_settled_92 (by decide) (fun c14 => ?_) (fun c14 => ?_)
            · have e0 := itp _ c14 e0
              exact fX8_settled_b99_w (l := l) X hr hk23 ih w (lv_sub hl [1, 2, 3, 5] rfl) e0
            · have e0 := itn _ c14 e0
              exact fX8_settled_b95_w (l := l) X hr hk23 ih w (lv_sub hl [1, 2, 3, 5] rfl) e0
def fX8_settled_b23 (n : Nat) : Nat → Int32 → Int32 → (Nat → Int32) → (Nat → Nat → Int32) → Option (Int32 × mSt)
  | 0, _, _, _, _ => none
  | j + 1, a1, a2, I, R =>
    if 64 ≤ a2 then
      some ((-9), I, R)
    else
      fX8_settled_b34 n (fX8_settled_b23 n j) n a1 a2 0 0 I R
set_option maxRecDepth 20000 in
set_option maxHeartbeats 1000000 in
theorem fX8_settled_b23_w {p : Program} {l : Launch} {e : Env} {s : State} {m : MethodId} {args : Array Value} {below : List Frame} {meth : Method} {c : Code} {D : va_G} {y : ClassId} {h : Nat} {q : Nat → Nat} {n : Nat} {z : Int32 × mSt} (X : mX p s m args c cX8_settled 6 wsX8_settled D y) (hr : meth.sig.returnType = some .int ∧ meth.locks = false) : ∀ (j : Nat) (a1 : Int32) (a2 : Int32) (I : Nat → Int32) (R : Nat → Nat → Int32) (H : Heap) (locs : List Loc) (ls : Array Slot), mH s D y h q H locs I R → lv_has ls 6 [(0, .ref h), (1, .int a1), (2, .int a2)] → fX8_settled_b23 n j a1 a2 I R = some z → W p l e rmX8_settled s m args below meth c H locs 0 0 (MQ below (mQi D y h q (mS y h q s.heap.size) z) args s 0 0 (mS y h q s.heap.size)) (F0 m 23 ls []) := by
  have hx := X.1.1
  have hb := X.1.2.1
  intro j
  induction j with
  | zero =>
    intro a1 a2 I R H locs ls w hl e0
    cases e0
  | succ j ih =>
    intro a1 a2 I R H locs ls w hl e0
    rw [fX8_settled_b23] at e0
    refine lv_iload_n hx hb dX8_settled_23 rfl (lv_at hl 2 rfl) ?_
    refine lv_bipush (v := 64) hx hb dX8_settled_24 (by decide) ?_
    refine lv_icmp_ge (tgt := 131) hx hb dX8_settled_26 (by decide) (fun c5 => ?_) (fun c5 => ?_)
    · have e0 := itp _ c5 e0
      refine lv_bipush (v := (-9)) hx hb dX8_settled_131 (by decide) ?_
      have e0 := Option.some.inj e0
      subst e0
      exact m_iret X w hr dX8_settled_133
    · have e0 := itn _ c5 e0
      refine lv_iconst (v := 0) hx hb dX8_settled_29 (by decide) ?_
      refine lv_istore_n (lv' := [(3, .int 0), (0, .ref h), (1, .int a1), (2, .int a2)]) hx hb dX8_settled_30 rfl hl (by decide) rfl (fun ls hl => ?_)
      refine lv_iconst (v := 0) hx hb dX8_settled_31 (by decide) ?_
      refine lv_istore (lv' := [(4, .int 0), (3, .int 0), (0, .ref h), (1, .int a1), (2, .int a2)]) hx hb dX8_settled_32 hl (by decide) rfl (fun ls hl => ?_)
      exact fX8_settled_b34_w (l := l) X hr ih n _ _ _ _ _ _ _ _ _ w (lv_sub hl [2, 3, 4, 1, 0] rfl) e0
def fX8_settled (n : Nat) (a1 : Int32) (I : Nat → Int32) (R : Nat → Nat → Int32) : Option (Int32 × mSt) :=
  if 0 ≤ a1 then
    if (I 5) = 0 then
      some ((-3), I, R)
    else
      (fX8_findCheap n I R).bind fun z1 =>
      fX8_settled_b23 n n a1 0 z1.1 z1.2
  else
    some ((-2), I, R)
set_option maxRecDepth 20000 in
set_option maxHeartbeats 1000000 in
theorem fX8_settled_w {p : Program} {l : Launch} {e : Env} {s : State} {m : MethodId} {args : Array Value} {below : List Frame} {meth : Method} {c : Code} {D : va_G} {y : ClassId} {h : Nat} {q : Nat → Nat} {n : Nat} {z : Int32 × mSt} (X : mX p s m args c cX8_settled 6 wsX8_settled D y) (hr : meth.sig.returnType = some .int ∧ meth.locks = false) {a1 : Int32} {I : Nat → Int32} {R : Nat → Nat → Int32} {H : Heap} {locs : List Loc} {ls : Array Slot} (w : mH s D y h q H locs I R) (hl : lv_has ls 6 [(0, .ref h), (1, .int a1)]) (e0 : fX8_settled n a1 I R = some z) : W p l e rmX8_settled s m args below meth c H locs 0 0 (MQ below (mQi D y h q (mS y h q s.heap.size) z) args s 0 0 (mS y h q s.heap.size)) (F0 m 0 ls []) := by
  have hx := X.1.1
  have hb := X.1.2.1
  unfold fX8_settled at e0
  refine lv_iload_n hx hb dX8_settled_0 rfl (lv_at hl 1 rfl) ?_
  refine lv_if_ge (tgt := 7) hx hb dX8_settled_1 (by decide) (fun c4 => ?_) (fun c4 => ?_)
  · have e0 := itp _ c4 e0
    refine lv_aload_n hx hb dX8_settled_7 rfl (lv_at hl 0 rfl) ?_
    refine m_get X w 5 (by decide) (index := 92) rfl (by decide +kernel) (mfi5 _ _) dX8_settled_8 ?_
    refine lv_if_ne (tgt := 17) hx hb dX8_settled_11 (by decide) (fun c3 => ?_) (fun c3 => ?_)
    · have e0 := itn _ c3 e0
      refine lv_aload_n hx hb dX8_settled_17 rfl (lv_at hl 0 rfl) ?_
      refine bd e0 (fun z1 e2 e0 => ?_)
      refine m_callv X w (n := 0) (As := []) (rest := []) (fX8_findCheap_met l _ _ _ _ _ _  _ _ _ e2) gX8_settled_X8_findCheap rfl rfl rfl (by decide +kernel) ⟨Nat.le_of_ble_eq_true rfl, Nat.le_of_ble_eq_true rfl⟩ rfl hl.1 rfl (Nat.le_of_ble_eq_true rfl) dX8_settled_18 (fun H locs w => ?_)
      refine lv_iconst (v := 0) hx hb dX8_settled_21 (by decide) ?_
      refine lv_istore_n (lv' := [(2, .int 0), (0, .ref h), (1, .int a1)]) hx hb dX8_settled_22 rfl hl (by decide) rfl (fun ls hl => ?_)
      exact fX8_settled_b23_w (l := l) X hr n _ _ _ _ _ _ _ w (lv_sub hl [1, 2, 0] rfl) e0
    · have e0 := itp _ c3 e0
      refine lv_bipush (v := (-3)) hx hb dX8_settled_14 (by decide) ?_
      have e0 := Option.some.inj e0
      subst e0
      exact m_iret X w hr dX8_settled_16
  · have e0 := itn _ c4 e0
    refine lv_bipush (v := (-2)) hx hb dX8_settled_4 (by decide) ?_
    have e0 := Option.some.inj e0
    subst e0
    exact m_iret X w hr dX8_settled_6
set_option maxRecDepth 20000 in
theorem fX8_settled_met (l : Launch) (D : va_G) (y : ClassId) (h : Nat) (q : Nat → Nat) (sz n : Nat) (a1 : Int32) (I : Nat → Int32) (R : Nat → Nat → Int32) (z : Int32 × mSt) (e0 : fX8_settled n a1 I R = some z) : Met l yX8_settled wsX8_settled rmX8_settled (va_Pc [.ref h, .int a1] (mPre D y h q sz I R)) (mQi D y h q (mS y h q sz) z) 0 0 (mS y h q sz) := by
  refine Met.ofW (cc := cX8_settled) (maxL := 6) (ret := some .int) (by decide) rfl ?_
  intro p e s m args below meth c s₁ B hml hv
  obtain ⟨rfl, hsz, hP, hK, hD⟩ := hv
  subst hsz
  have hl := lv_entry ([.ref h, .int a1]) (n := 6) (Nat.le_of_ble_eq_true rfl)
  rw [lg_entry_eq]
  exact fX8_settled_w (s := s) ⟨⟨B.exec, B.bytes, hml, findClass_of_methodNamed B.named, atoms_spec (ws := wsX8_settled) B.pre⟩, fun _ h9 => List.mem_cons_of_mem _ (List.mem_append_right _ h9), hK⟩ ⟨B.returns, B.notSynchronized⟩ ⟨hP, mS_D hD, va_S.rf⟩ hl e0
def rmX8_demandsOf : Room := { frames := 1, cells := 0, slots := 0, locals := 22 }
def fX8_demandsOf_b118 (n : Nat) (k63 : Int32 → Int32 → Int32 → Int32 → (Nat → Int32) → (Nat → Nat → Int32) → Option (Int32 × mSt)) (a1 : Int32) (a2 : Int32) (a4 : Int32) (t0 : Int32) (t1 : Int32) (I : Nat → Int32) (R : Nat → Nat → Int32) : Option (Int32 × mSt) :=
  k63 a1 a2 (t1 ||| t0) (a4 + 1) I R
set_option maxRecDepth 20000 in
set_option maxHeartbeats 1000000 in
theorem fX8_demandsOf_b118_w {p : Program} {l : Launch} {e : Env} {s : State} {m : MethodId} {args : Array Value} {below : List Frame} {meth : Method} {c : Code} {D : va_G} {y : ClassId} {h : Nat} {q : Nat → Nat} {n : Nat} {z : Int32 × mSt} (X : mX p s m args c cX8_demandsOf 5 wsX8_demandsOf D y) (hr : meth.sig.returnType = some .int ∧ meth.locks = false) {k63 : Int32 → Int32 → Int32 → Int32 → (Nat → Int32) → (Nat → Nat → Int32) → Option (Int32 × mSt)} (hk63 : ∀ (a1 : Int32) (a2 : Int32) (a3 : Int32) (a4 : Int32) (I : Nat → Int32) (R : Nat → Nat → Int32) (H : Heap) (locs : List Loc) (ls : Array Slot), mH s D y h q H locs I R → lv_has ls 5 [(0, .ref h), (1, .int a1), (2, .int a2), (3, .int a3), (4, .int a4)] → k63 a1 a2 a3 a4 I R = some z → W p l e rmX8_demandsOf s m args below meth c H locs 0 0 (MQ below (mQi D y h q (mS y h q s.heap.size) z) args s 0 0 (mS y h q s.heap.size)) (F0 m 63 ls [])) {a1 : Int32} {a2 : Int32} {a4 : Int32} {t0 : Int32} {t1 : Int32} {I : Nat → Int32} {R : Nat → Nat → Int32} {H : Heap} {locs : List Loc} {ls : Array Slot} (w : mH s D y h q H locs I R) (hl : lv_has ls 5 [(0, .ref h), (1, .int a1), (2, .int a2), (4, .int a4)]) (e0 : fX8_demandsOf_b118 n k63 a1 a2 a4 t0 t1 I R = some z) : W p l e rmX8_demandsOf s m args below meth c H locs 0 0 (MQ below (mQi D y h q (mS y h q s.heap.size) z) args s 0 0 (mS y h q s.heap.size)) (F0 m 118 ls [.int t0, .int t1]) := by
  have hx := X.1.1
  have hb := X.1.2.1
  unfold fX8_demandsOf_b118 at e0
  refine lv_ior hx hb dX8_demandsOf_118 ?_
  refine lv_istore_n (lv' := [(3, .int (t1 ||| t0)), (0, .ref h), (1, .int a1), (2, .int a2), (4, .int a4)]) hx hb dX8_demandsOf_119 rfl hl (by decide) rfl (fun ls hl => ?_)
  refine lv_iinc (v := (a4 + 1)) (lv' := [(4, .int (a4 + 1)), (3, .int (t1 ||| t0)), (0, .ref h), (1, .int a1), (2, .int a2)]) hx hb dX8_demandsOf_120 hl (k := 4) rfl rfl (by decide) rfl (fun ls hl => ?_)
  refine lv_goto (tgt := 63) hx hb dX8_demandsOf_123 (by decide) ?_
  exact hk63 _ _ _ _ _ _ _ _ _ w (lv_sub hl [2, 3, 4, 1, 0] rfl) e0
def fX8_demandsOf_b63 (n : Nat) : Nat → Int32 → Int32 → Int32 → Int32 → (Nat → Int32) → (Nat → Nat → Int32) → Option (Int32 × mSt)
  | 0, _, _, _, _, _, _ => none
  | j + 1, a1, a2, a3, a4, I, R =>
    if 4 ≤ a4 then
      some (a3, I, R)
    else
      if inb a1 5 = true then
      if (getA R 9 a1) = 2 then
        if inb a1 5 = true then
        (fX8_factOf n (getA R 11 a1) a2 a4).bind fun z10 =>
        if inb z10 64 = true then
        if (getA R 22 z10) = 1 then
          if inb a1 5 = true then
          fX8_demandsOf_b118 n (fX8_demandsOf_b63 n j) a1 a2 a4 (1 <<< (((4 * (getA R 12 a1)) + a4) &&& 31)) a3 I R
          else none
        else
          fX8_demandsOf_b118 n (fX8_demandsOf_b63 n j) a1 a2 a4 0 a3 I R
        else none
        else none
      else
        some (a3, I, R)
      else none
set_option maxRecDepth 20000 in
set_option maxHeartbeats 1000000 in
theorem fX8_demandsOf_b63_w {p : Program} {l : Launch} {e : Env} {s : State} {m : MethodId} {args : Array Value} {below : List Frame} {meth : Method} {c : Code} {D : va_G} {y : ClassId} {h : Nat} {q : Nat → Nat} {n : Nat} {z : Int32 × mSt} (X : mX p s m args c cX8_demandsOf 5 wsX8_demandsOf D y) (hr : meth.sig.returnType = some .int ∧ meth.locks = false) : ∀ (j : Nat) (a1 : Int32) (a2 : Int32) (a3 : Int32) (a4 : Int32) (I : Nat → Int32) (R : Nat → Nat → Int32) (H : Heap) (locs : List Loc) (ls : Array Slot), mH s D y h q H locs I R → lv_has ls 5 [(0, .ref h), (1, .int a1), (2, .int a2), (3, .int a3), (4, .int a4)] → fX8_demandsOf_b63 n j a1 a2 a3 a4 I R = some z → W p l e rmX8_demandsOf s m args below meth c H locs 0 0 (MQ below (mQi D y h q (mS y h q s.heap.size) z) args s 0 0 (mS y h q s.heap.size)) (F0 m 63 ls []) := by
  have hx := X.1.1
  have hb := X.1.2.1
  intro j
  induction j with
  | zero =>
    intro a1 a2 a3 a4 I R H locs ls w hl e0
    cases e0
  | succ j ih =>
    intro a1 a2 a3 a4 I R H locs ls w hl e0
    rw [fX8_demandsOf_b63] at e0
    refine lv_iload hx hb dX8_demandsOf_63 (lv_at hl 4 rfl) ?_
    refine lv_iconst (v := 4) hx hb dX8_demandsOf_65 (by decide) ?_
    refine lv_icmp_ge (tgt := 126) hx hb dX8_demandsOf_66 (by decide) (fun c16 => ?_) (fun c16 => ?_)
    · have e0 := itp _ c16 e0
      refine lv_iload_n hx hb dX8_demandsOf_126 rfl (lv_at hl 3 rfl) ?_
      have e0 := Option.some.inj e0
      subst e0
      exact m_iret X w hr dX8_demandsOf_127
    · have e0 := itn _ c16 e0
      refine lv_aload_n hx hb dX8_demandsOf_69 rfl (lv_at hl 0 rfl) ?_
      refine m_get X w 9 (by decide) (index := 25) rfl (by decide +kernel) (mfr9 _ _) dX8_demandsOf_70 ?_
      refine lv_iload_n hx hb dX8_demandsOf_73 rfl (lv_at hl 1 rfl) ?_
      refine gd e0 (fun g8 e0 => ?_)
      refine m_ald X w 6 9 (mat9 _ _ _ _ _) g8 dX8_demandsOf_74 ?_
      refine lv_iconst (v := 2) hx hb dX8_demandsOf_75 (by decide) ?_
      refine lv_icmp_ne (tgt := 126) hx hb dX8_demandsOf_76 (by decide) (fun c15 => ?_) (fun c15 => ?_)
      · have e0 := itn _ c15 e0
        refine lv_iload_n hx hb dX8_demandsOf_126 rfl (lv_at hl 3 rfl) ?_
        have e0 := Option.some.inj e0
        subst e0
        exact m_iret X w hr dX8_demandsOf_127
      · have e0 := itp _ c15 e0
        refine lv_iload_n hx hb dX8_demandsOf_79 rfl (lv_at hl 3 rfl) ?_
        refine lv_aload_n hx hb dX8_demandsOf_80 rfl (lv_at hl 0 rfl) ?_
        refine m_get X w 22 (by decide) (index := 52) rfl (by decide +kernel) (mfr22 _ _) dX8_demandsOf_81 ?_
        refine lv_aload_n hx hb dX8_demandsOf_84 rfl (lv_at hl 0 rfl) ?_
        refine m_get X w 11 (by decide) (index := 31) rfl (by decide +kernel) (mfr11 _ _) dX8_demandsOf_85 ?_
        refine lv_iload_n hx hb dX8_demandsOf_88 rfl (lv_at hl 1 rfl) ?_
        refine gd e0 (fun g9 e0 => ?_)
        refine m_ald X w 8 11 (mat11 _ _ _ _ _) g9 dX8_demandsOf_89 ?_
        refine lv_iload_n hx hb dX8_demandsOf_90 rfl (lv_at hl 2 rfl) ?_
        refine lv_iload hx hb dX8_demandsOf_91 (lv_at hl 4 rfl) ?_
        refine bd e0 (fun z10 e11 e0 => ?_)
        refine m_callsi X w (n := 3) (As := [.int (getA R 11 a1), .int a2, .int a4]) (rest := [.ref (q 22), .int a3]) (fX8_factOf_met l _ _ _ _ _ e11) gX8_demandsOf_X8_factOf rfl rfl rfl (by decide +kernel) ⟨Nat.le_of_ble_eq_true rfl, Nat.le_of_ble_eq_true rfl⟩ rfl hl.1 rfl (Nat.le_of_ble_eq_true rfl) dX8_demandsOf_93 (fun H locs w => ?_)
        refine gd e0 (fun g12 e0 => ?_)
        refine m_ald X w 15 22 (mat22 _ _ _ _ _) g12 dX8_demandsOf_96 ?_
        refine lv_iconst (v := 1) hx hb dX8_demandsOf_97 (by decide) ?_
        refine lv_icmp_ne (tgt := 117) hx hb dX8_demandsOf_98 (by decide) (fun c14 => ?_) (fun c14 => ?_)
        · have e0 := itn _ c14 e0
          refine lv_iconst (v := 0) hx hb dX8_demandsOf_117 (by decide) ?_
          exact fX8_demandsOf_b118_w (l := l) X hr ih w (lv_sub hl [0, 1, 2, 4] rfl) e0
        · have e0 := itp _ c14 e0
          refine lv_iconst (v := 1) hx hb dX8_demandsOf_101 (by decide) ?_
          refine lv_iconst (v := 4) hx hb dX8_demandsOf_102 (by decide) ?_
          refine lv_aload_n hx hb dX8_demandsOf_103 rfl (lv_at hl 0 rfl) ?_
          refine m_get X w 12 (by decide) (index := 34) rfl (by decide +kernel) (mfr12 _ _) dX8_demandsOf_104 ?_
          refine lv_iload_n hx hb dX8_demandsOf_107 rfl (lv_at hl 1 rfl) ?_
          refine gd e0 (fun g13 e0 => ?_)
          refine m_ald X w 9 12 (mat12 _ _ _ _ _) g13 dX8_demandsOf_108 ?_
          refine lv_imul hx hb dX8_demandsOf_109 ?_
          refine lv_iload hx hb dX8_demandsOf_110 (lv_at hl 4 rfl) ?_
          refine lv_iadd hx hb dX8_demandsOf_112 ?_
          refine lv_ishl hx hb dX8_demandsOf_113 ?_
          refine lv_goto (tgt := 118) hx hb dX8_demandsOf_114 (by decide) ?_
          exact fX8_demandsOf_b118_w (l := l) X hr ih w (lv_sub hl [0, 1, 2, 4] rfl) e0
def fX8_demandsOf_b60 (n : Nat) (a1 : Int32) (a2 : Int32) (a3 : Int32) (I : Nat → Int32) (R : Nat → Nat → Int32) : Option (Int32 × mSt) :=
  fX8_demandsOf_b63 n n a1 a2 a3 0 I R
set_option maxRecDepth 20000 in
set_option maxHeartbeats 1000000 in
theorem fX8_demandsOf_b60_w {p : Program} {l : Launch} {e : Env} {s : State} {m : MethodId} {args : Array Value} {below : List Frame} {meth : Method} {c : Code} {D : va_G} {y : ClassId} {h : Nat} {q : Nat → Nat} {n : Nat} {z : Int32 × mSt} (X : mX p s m args c cX8_demandsOf 5 wsX8_demandsOf D y) (hr : meth.sig.returnType = some .int ∧ meth.locks = false) {a1 : Int32} {a2 : Int32} {a3 : Int32} {I : Nat → Int32} {R : Nat → Nat → Int32} {H : Heap} {locs : List Loc} {ls : Array Slot} (w : mH s D y h q H locs I R) (hl : lv_has ls 5 [(0, .ref h), (1, .int a1), (2, .int a2), (3, .int a3)]) (e0 : fX8_demandsOf_b60 n a1 a2 a3 I R = some z) : W p l e rmX8_demandsOf s m args below meth c H locs 0 0 (MQ below (mQi D y h q (mS y h q s.heap.size) z) args s 0 0 (mS y h q s.heap.size)) (F0 m 60 ls []) := by
  have hx := X.1.1
  have hb := X.1.2.1
  unfold fX8_demandsOf_b60 at e0
  refine lv_iconst (v := 0) hx hb dX8_demandsOf_60 (by decide) ?_
  refine lv_istore (lv' := [(4, .int 0), (0, .ref h), (1, .int a1), (2, .int a2), (3, .int a3)]) hx hb dX8_demandsOf_61 hl (by decide) rfl (fun ls hl => ?_)
  exact fX8_demandsOf_b63_w (l := l) X hr n _ _ _ _ _ _ _ _ _ w (lv_sub hl [1, 2, 3, 4, 0] rfl) e0
def fX8_demandsOf_b35 (n : Nat) (a1 : Int32) (a2 : Int32) (a3 : Int32) (I : Nat → Int32) (R : Nat → Nat → Int32) : Option (Int32 × mSt) :=
  if inb a1 5 = true then
  if (getA R 9 a1) = 3 then
    if inb a1 5 = true then
    fX8_demandsOf_b60 n a1 a2 (a3 ||| (1 <<< (((4 * (getA R 12 a1)) + a2) &&& 31))) I R
    else none
  else
    fX8_demandsOf_b60 n a1 a2 a3 I R
  else none
set_option maxRecDepth 20000 in
set_option maxHeartbeats 1000000 in
theorem fX8_demandsOf_b35_w {p : Program} {l : Launch} {e : Env} {s : State} {m : MethodId} {args : Array Value} {below : List Frame} {meth : Method} {c : Code} {D : va_G} {y : ClassId} {h : Nat} {q : Nat → Nat} {n : Nat} {z : Int32 × mSt} (X : mX p s m args c cX8_demandsOf 5 wsX8_demandsOf D y) (hr : meth.sig.returnType = some .int ∧ meth.locks = false) {a1 : Int32} {a2 : Int32} {a3 : Int32} {I : Nat → Int32} {R : Nat → Nat → Int32} {H : Heap} {locs : List Loc} {ls : Array Slot} (w : mH s D y h q H locs I R) (hl : lv_has ls 5 [(0, .ref h), (1, .int a1), (2, .int a2), (3, .int a3)]) (e0 : fX8_demandsOf_b35 n a1 a2 a3 I R = some z) : W p l e rmX8_demandsOf s m args below meth c H locs 0 0 (MQ below (mQi D y h q (mS y h q s.heap.size) z) args s 0 0 (mS y h q s.heap.size)) (F0 m 35 ls []) := by
  have hx := X.1.1
  have hb := X.1.2.1
  unfold fX8_demandsOf_b35 at e0
  refine lv_aload_n hx hb dX8_demandsOf_35 rfl (lv_at hl 0 rfl) ?_
  refine m_get X w 9 (by decide) (index := 25) rfl (by decide +kernel) (mfr9 _ _) dX8_demandsOf_36 ?_
  refine lv_iload_n hx hb dX8_demandsOf_39 rfl (lv_at hl 1 rfl) ?_
  refine gd e0 (fun g5 e0 => ?_)
  refine m_ald X w 6 9 (mat9 _ _ _ _ _) g5 dX8_demandsOf_40 ?_
  refine lv_iconst (v := 3) hx hb dX8_demandsOf_41 (by decide) ?_
  refine lv_icmp_ne (tgt := 60) hx hb dX8_demandsOf_42 (by decide) (fun c7 => ?_) (fun c7 => ?_)
  · have e0 := itn _ c7 e0
    exact fX8_demandsOf_b60_w (l := l) X hr w (lv_sub hl [0, 1, 2, 3] rfl) e0
  · have e0 := itp _ c7 e0
    refine lv_iload_n hx hb dX8_demandsOf_45 rfl (lv_at hl 3 rfl) ?_
    refine lv_iconst (v := 1) hx hb dX8_demandsOf_46 (by decide) ?_
    refine lv_iconst (v := 4) hx hb dX8_demandsOf_47 (by decide) ?_
    refine lv_aload_n hx hb dX8_demandsOf_48 rfl (lv_at hl 0 rfl) ?_
    refine m_get X w 12 (by decide) (index := 34) rfl (by decide +kernel) (mfr12 _ _) dX8_demandsOf_49 ?_
    refine lv_iload_n hx hb dX8_demandsOf_52 rfl (lv_at hl 1 rfl) ?_
    refine gd e0 (fun g6 e0 => ?_)
    refine m_ald X w 9 12 (mat12 _ _ _ _ _) g6 dX8_demandsOf_53 ?_
    refine lv_imul hx hb dX8_demandsOf_54 ?_
    refine lv_iload_n hx hb dX8_demandsOf_55 rfl (lv_at hl 2 rfl) ?_
    refine lv_iadd hx hb dX8_demandsOf_56 ?_
    refine lv_ishl hx hb dX8_demandsOf_57 ?_
    refine lv_ior hx hb dX8_demandsOf_58 ?_
    refine lv_istore_n (lv' := [(3, .int (a3 ||| (1 <<< (((4 * (getA R 12 a1)) + a2) &&& 31)))), (0, .ref h), (1, .int a1), (2, .int a2)]) hx hb dX8_demandsOf_59 rfl hl (by decide) rfl (fun ls hl => ?_)
    exact fX8_demandsOf_b60_w (l := l) X hr w (lv_sub hl [1, 2, 3, 0] rfl) e0
def fX8_demandsOf (n : Nat) (a1 : Int32) (a2 : Int32) (I : Nat → Int32) (R : Nat → Nat → Int32) : Option (Int32 × mSt) :=
  if inb a1 5 = true then
  if inb a1 5 = true then
  if (getA R 9 a1) = 1 then
    if inb a1 5 = true then
    fX8_demandsOf_b35 n a1 a2 (15 <<< ((4 * (getA R 11 a1)) &&& 31)) I R
    else none
  else
    fX8_demandsOf_b35 n a1 a2 (1 <<< (((4 * (getA R 11 a1)) + a2) &&& 31)) I R
  else none
  else none
set_option maxRecDepth 20000 in
set_option maxHeartbeats 1000000 in
theorem fX8_demandsOf_w {p : Program} {l : Launch} {e : Env} {s : State} {m : MethodId} {args : Array Value} {below : List Frame} {meth : Method} {c : Code} {D : va_G} {y : ClassId} {h : Nat} {q : Nat → Nat} {n : Nat} {z : Int32 × mSt} (X : mX p s m args c cX8_demandsOf 5 wsX8_demandsOf D y) (hr : meth.sig.returnType = some .int ∧ meth.locks = false) {a1 : Int32} {a2 : Int32} {I : Nat → Int32} {R : Nat → Nat → Int32} {H : Heap} {locs : List Loc} {ls : Array Slot} (w : mH s D y h q H locs I R) (hl : lv_has ls 5 [(0, .ref h), (1, .int a1), (2, .int a2)]) (e0 : fX8_demandsOf n a1 a2 I R = some z) : W p l e rmX8_demandsOf s m args below meth c H locs 0 0 (MQ below (mQi D y h q (mS y h q s.heap.size) z) args s 0 0 (mS y h q s.heap.size)) (F0 m 0 ls []) := by
  have hx := X.1.1
  have hb := X.1.2.1
  unfold fX8_demandsOf at e0
  refine lv_iconst (v := 1) hx hb dX8_demandsOf_0 (by decide) ?_
  refine lv_iconst (v := 4) hx hb dX8_demandsOf_1 (by decide) ?_
  refine lv_aload_n hx hb dX8_demandsOf_2 rfl (lv_at hl 0 rfl) ?_
  refine m_get X w 11 (by decide) (index := 31) rfl (by decide +kernel) (mfr11 _ _) dX8_demandsOf_3 ?_
  refine lv_iload_n hx hb dX8_demandsOf_6 rfl (lv_at hl 1 rfl) ?_
  refine gd e0 (fun g1 e0 => ?_)
  refine m_ald X w 8 11 (mat11 _ _ _ _ _) g1 dX8_demandsOf_7 ?_
  refine lv_imul hx hb dX8_demandsOf_8 ?_
  refine lv_iload_n hx hb dX8_demandsOf_9 rfl (lv_at hl 2 rfl) ?_
  refine lv_iadd hx hb dX8_demandsOf_10 ?_
  refine lv_ishl hx hb dX8_demandsOf_11 ?_
  refine lv_istore_n (lv' := [(3, .int (1 <<< (((4 * (getA R 11 a1)) + a2) &&& 31))), (0, .ref h), (1, .int a1), (2, .int a2)]) hx hb dX8_demandsOf_12 rfl hl (by decide) rfl (fun ls hl => ?_)
  refine lv_aload_n hx hb dX8_demandsOf_13 rfl (lv_at hl 1 rfl) ?_
  refine m_get X w 9 (by decide) (index := 25) rfl (by decide +kernel) (mfr9 _ _) dX8_demandsOf_14 ?_
  refine lv_iload_n hx hb dX8_demandsOf_17 rfl (lv_at hl 2 rfl) ?_
  refine gd e0 (fun g2 e0 => ?_)
  refine m_ald X w 6 9 (mat9 _ _ _ _ _) g2 dX8_demandsOf_18 ?_
  refine lv_iconst (v := 1) hx hb dX8_demandsOf_19 (by decide) ?_
  refine lv_icmp_ne (tgt := 35) hx hb dX8_demandsOf_20 (by decide) (fun c4 => ?_) (fun c4 => ?_)
  · have e0 := itn _ c4 e0
    exact fX8_demandsOf_b35_w (l := l) X hr w (lv_sub hl [1, 2, 3, 0] rfl) e0
  · have e0 := itp _ c4 e0
    refine lv_bipush (v := 15) hx hb dX8_demandsOf_23 (by decide) ?_
    refine lv_iconst (v := 4) hx hb dX8_demandsOf_25 (by decide) ?_
    refine lv_aload_n hx hb dX8_demandsOf_26 rfl (lv_at hl 1 rfl) ?_
    refine m_get X w 11 (by decide) (index := 31) rfl (by decide +kernel) (mfr11 _ _) dX8_demandsOf_27 ?_
    refine lv_iload_n hx hb dX8_demandsOf_30 rfl (lv_at hl 2 rfl) ?_
    refine gd e0 (fun g3 e0 => ?_)
    refine m_ald X w 8 11 (mat11 _ _ _ _ _) g3 dX8_demandsOf_31 ?_
    refine lv_imul hx hb dX8_demandsOf_32 ?_
    refine lv_ishl hx hb dX8_demandsOf_33 ?_
    refine lv_istore_n (lv' := [(3, .int (15 <<< ((4 * (getA R 11 a1)) &&& 31))), (0, .ref h), (1, .int a1), (2, .int a2)]) hx hb dX8_demandsOf_34 rfl hl (by decide) rfl (fun ls hl => ?_)
    exact fX8_demandsOf_b35_w (l := l) X hr w (lv_sub hl [1, 2, 3, 0] rfl) e0
set_option maxRecDepth 20000 in
theorem fX8_demandsOf_met (l : Launch) (D : va_G) (y : ClassId) (h : Nat) (q : Nat → Nat) (sz n : Nat) (a1 : Int32) (a2 : Int32) (I : Nat → Int32) (R : Nat → Nat → Int32) (z : Int32 × mSt) (e0 : fX8_demandsOf n a1 a2 I R = some z) : Met l yX8_demandsOf wsX8_demandsOf rmX8_demandsOf (va_Pc [.ref h, .int a1, .int a2] (mPre D y h q sz I R)) (mQi D y h q (mS y h q sz) z) 0 0 (mS y h q sz) := by
  refine Met.ofW (cc := cX8_demandsOf) (maxL := 5) (ret := some .int) (by decide) rfl ?_
  intro p e s m args below meth c s₁ B hml hv
  obtain ⟨rfl, hsz, hP, hK, hD⟩ := hv
  subst hsz
  have hl := lv_entry ([.ref h, .int a1, .int a2]) (n := 5) (Nat.le_of_ble_eq_true rfl)
  rw [lg_entry_eq]
  exact fX8_demandsOf_w (s := s) ⟨⟨B.exec, B.bytes, hml, findClass_of_methodNamed B.named, atoms_spec (ws := wsX8_demandsOf) B.pre⟩, fun _ h9 => List.mem_cons_of_mem _ (List.mem_append_right _ h9), hK⟩ ⟨B.returns, B.notSynchronized⟩ ⟨hP, mS_D hD, va_S.rf⟩ hl e0
def rmX8_demands : Room := { frames := 4, cells := 0, slots := 0, locals := 93 }
def fX8_demands_b98 (n : Nat) (k35 : Int32 → Int32 → (Nat → Int32) → (Nat → Nat → Int32) → Option (Int32 × mSt)) (k47 : Int32 → Int32 → Int32 → (Nat → Int32) → (Nat → Nat → Int32) → Option (Int32 × mSt)) (k59 : Int32 → Int32 → Int32 → Int32 → (Nat → Int32) → (Nat → Nat → Int32) → Option (Int32 × mSt)) (a4 : Int32) (a5 : Int32) (a6 : Int32) (t0 : Int32) (t1 : Int32) (I : Nat → Int32) (R : Nat → Nat → Int32) : Option (Int32 × mSt) :=
  k59 (t1 ||| t0) a4 a5 (a6 + 1) I R
set_option maxRecDepth 20000 in
set_option maxHeartbeats 1000000 in
theorem fX8_demands_b98_w {p : Program} {l : Launch} {e : Env} {s : State} {m : MethodId} {args : Array Value} {below : List Frame} {meth : Method} {c : Code} {D : va_G} {y : ClassId} {h : Nat} {q : Nat → Nat} {n : Nat} {z : Int32 × mSt} (X : mX p s m args c cX8_demands 7 wsX8_demands D y) (hr : meth.sig.returnType = some .int ∧ meth.locks = false) {k35 : Int32 → Int32 → (Nat → Int32) → (Nat → Nat → Int32) → Option (Int32 × mSt)} (hk35 : ∀ (a3 : Int32) (a4 : Int32) (I : Nat → Int32) (R : Nat → Nat → Int32) (H : Heap) (locs : List Loc) (ls : Array Slot), mH s D y h q H locs I R → lv_has ls 7 [(0, .ref h), (3, .int a3), (4, .int a4)] → k35 a3 a4 I R = some z → W p l e rmX8_demands s m args below meth c H locs 0 0 (MQ below (mQi D y h q (mS y h q s.heap.size) z) args s 0 0 (mS y h q s.heap.size)) (F0 m 35 ls [])) {k47 : Int32 → Int32 → Int32 → (Nat → Int32) → (Nat → Nat → Int32) → Option (Int32 × mSt)} (hk47 : ∀ (a3 : Int32) (a4 : Int32) (a5 : Int32) (I : Nat → Int32) (R : Nat → Nat → Int32) (H : Heap) (locs : List Loc) (ls : Array Slot), mH s D y h q H locs I R → lv_has ls 7 [(0, .ref h), (3, .int a3), (4, .int a4), (5, .int a5)] → k47 a3 a4 a5 I R = some z → W p l e rmX8_demands s m args below meth c H locs 0 0 (MQ below (mQi D y h q (mS y h q s.heap.size) z) args s 0 0 (mS y h q s.heap.size)) (F0 m 47 ls [])) {k59 : Int32 → Int32 → Int32 → Int32 → (Nat → Int32) → (Nat → Nat → Int32) → Option (Int32 × mSt)} (hk59 : ∀ (a3 : Int32) (a4 : Int32) (a5 : Int32) (a6 : Int32) (I : Nat → Int32) (R : Nat → Nat → Int32) (H : Heap) (locs : List Loc) (ls : Array Slot), mH s D y h q H locs I R → lv_has ls 7 [(0, .ref h), (3, .int a3), (4, .int a4), (5, .int a5), (6, .int a6)] → k59 a3 a4 a5 a6 I R = some z → W p l e rmX8_demands s m args below meth c H locs 0 0 (MQ below (mQi D y h q (mS y h q s.heap.size) z) args s 0 0 (mS y h q s.heap.size)) (F0 m 59 ls [])) {a4 : Int32} {a5 : Int32} {a6 : Int32} {t0 : Int32} {t1 : Int32} {I : Nat → Int32} {R : Nat → Nat → Int32} {H : Heap} {locs : List Loc} {ls : Array Slot} (w : mH s D y h q H locs I R) (hl : lv_has ls 7 [(0, .ref h), (4, .int a4), (5, .int a5), (6, .int a6)]) (e0 : fX8_demands_b98 n k35 k47 k59 a4 a5 a6 t0 t1 I R = some z) : W p l e rmX8_demands s m args below meth c H locs 0 0 (MQ below (mQi D y h q (mS y h q s.heap.size) z) args s 0 0 (mS y h q s.heap.size)) (F0 m 98 ls [.int t0, .int t1]) := by
  have hx := X.1.1
  have hb := X.1.2.1
  unfold fX8_demands_b98 at e0
  refine lv_ior hx hb dX8_demands_98 ?_
  refine lv_istore_n (lv' := [(3, .int (t1 ||| t0)), (0, .ref h), (4, .int a4), (5, .int a5), (6, .int a6)]) hx hb dX8_demands_99 rfl hl (by decide) rfl (fun ls hl => ?_)
  refine lv_iinc (v := (a6 + 1)) (lv' := [(6, .int (a6 + 1)), (3, .int (t1 ||| t0)), (0, .ref h), (4, .int a4), (5, .int a5)]) hx hb dX8_demands_100 hl (k := 4) rfl rfl (by decide) rfl (fun ls hl => ?_)
  refine lv_goto (tgt := 59) hx hb dX8_demands_103 (by decide) ?_
  exact hk59 _ _ _ _ _ _ _ _ _ w (lv_sub hl [2, 1, 3, 4, 0] rfl) e0
def fX8_demands_b59 (n : Nat) (k35 : Int32 → Int32 → (Nat → Int32) → (Nat → Nat → Int32) → Option (Int32 × mSt)) (k47 : Int32 → Int32 → Int32 → (Nat → Int32) → (Nat → Nat → Int32) → Option (Int32 × mSt)) : Nat → Int32 → Int32 → Int32 → Int32 → (Nat → Int32) → (Nat → Nat → Int32) → Option (Int32 × mSt)
  | 0, _, _, _, _, _, _ => none
  | j + 1, a3, a4, a5, a6, I, R =>
    if 4 ≤ a6 then
      k47 a3 a4 (a5 + 1) I R
    else
      if inb a5 5 = true then
      (fX8_isOf n a4 ((4 * (getA R 10 a5)) + a6)).bind fun z12 =>
      if z12 = 0 then
        fX8_demands_b98 n k35 k47 (fX8_demands_b59 n k35 k47 j) a4 a5 a6 0 a3 I R
      else
        (fX8_demandsOf n a5 a6 I R).bind fun z14 =>
        fX8_demands_b98 n k35 k47 (fX8_demands_b59 n k35 k47 j) a4 a5 a6 z14.1 a3 z14.2.1 z14.2.2
      else none
set_option maxRecDepth 20000 in
set_option maxHeartbeats 1000000 in
theorem fX8_demands_b59_w {p : Program} {l : Launch} {e : Env} {s : State} {m : MethodId} {args : Array Value} {below : List Frame} {meth : Method} {c : Code} {D : va_G} {y : ClassId} {h : Nat} {q : Nat → Nat} {n : Nat} {z : Int32 × mSt} (X : mX p s m args c cX8_demands 7 wsX8_demands D y) (hr : meth.sig.returnType = some .int ∧ meth.locks = false) {k35 : Int32 → Int32 → (Nat → Int32) → (Nat → Nat → Int32) → Option (Int32 × mSt)} (hk35 : ∀ (a3 : Int32) (a4 : Int32) (I : Nat → Int32) (R : Nat → Nat → Int32) (H : Heap) (locs : List Loc) (ls : Array Slot), mH s D y h q H locs I R → lv_has ls 7 [(0, .ref h), (3, .int a3), (4, .int a4)] → k35 a3 a4 I R = some z → W p l e rmX8_demands s m args below meth c H locs 0 0 (MQ below (mQi D y h q (mS y h q s.heap.size) z) args s 0 0 (mS y h q s.heap.size)) (F0 m 35 ls [])) {k47 : Int32 → Int32 → Int32 → (Nat → Int32) → (Nat → Nat → Int32) → Option (Int32 × mSt)} (hk47 : ∀ (a3 : Int32) (a4 : Int32) (a5 : Int32) (I : Nat → Int32) (R : Nat → Nat → Int32) (H : Heap) (locs : List Loc) (ls : Array Slot), mH s D y h q H locs I R → lv_has ls 7 [(0, .ref h), (3, .int a3), (4, .int a4), (5, .int a5)] → k47 a3 a4 a5 I R = some z → W p l e rmX8_demands s m args below meth c H locs 0 0 (MQ below (mQi D y h q (mS y h q s.heap.size) z) args s 0 0 (mS y h q s.heap.size)) (F0 m 47 ls [])) : ∀ (j : Nat) (a3 : Int32) (a4 : Int32) (a5 : Int32) (a6 : Int32) (I : Nat → Int32) (R : Nat → Nat → Int32) (H : Heap) (locs : List Loc) (ls : Array Slot), mH s D y h q H locs I R → lv_has ls 7 [(0, .ref h), (3, .int a3), (4, .int a4), (5, .int a5), (6, .int a6)] → fX8_demands_b59 n k35 k47 j a3 a4 a5 a6 I R = some z → W p l e rmX8_demands s m args below meth c H locs 0 0 (MQ below (mQi D y h q (mS y h q s.heap.size) z) args s 0 0 (mS y h q s.heap.size)) (F0 m 59 ls []) := by
  have hx := X.1.1
  have hb := X.1.2.1
  intro j
  induction j with
  | zero =>
    intro a3 a4 a5 a6 I R H locs ls w hl e0
    cases e0
  | succ j ih =>
    intro a3 a4 a5 a6 I R H locs ls w hl e0
    rw [fX8_demands_b59] at e0
    refine lv_iload hx hb dX8_demands_59 (lv_at hl 4 rfl) ?_
    refine lv_iconst (v := 4) hx hb dX8_demands_61 (by decide) ?_
    refine lv_icmp_ge (tgt := 106) hx hb dX8_demands_62 (by decide) (fun c17 => ?_) (fun c17 => ?_)
    · have e0 := itp _ c17 e0
      refine lv_iinc (v := (a5 + 1)) (lv' := [(5, .int (a5 + 1)), (0, .ref h), (3, .int a3), (4, .int a4), (6, .int a6)]) hx hb dX8_demands_106 hl (k := 3) rfl rfl (by decide) rfl (fun ls hl => ?_)
      refine lv_goto (tgt := 47) hx hb dX8_demands_109 (by decide) ?_
      exact hk47 _ _ _ _ _ _ _ _ w (lv_sub hl [1, 2, 3, 0] rfl) e0
    · have e0 := itn _ c17 e0
      refine lv_iload_n hx hb dX8_demands_65 rfl (lv_at hl 1 rfl) ?_
      refine lv_iload hx hb dX8_demands_66 (lv_at hl 2 rfl) ?_
      refine lv_iconst (v := 4) hx hb dX8_demands_68 (by decide) ?_
      refine lv_aload_n hx hb dX8_demands_69 rfl (lv_at hl 0 rfl) ?_
      refine m_get X w 10 (by decide) (index := 28) rfl (by decide +kernel) (mfr10 _ _) dX8_demands_70 ?_
      refine lv_iload hx hb dX8_demands_73 (lv_at hl 3 rfl) ?_
      refine gd e0 (fun g11 e0 => ?_)
      refine m_ald X w 7 10 (mat10 _ _ _ _ _) g11 dX8_demands_75 ?_
      refine lv_imul hx hb dX8_demands_76 ?_
      refine lv_iload hx hb dX8_demands_77 (lv_at hl 4 rfl) ?_
      refine lv_iadd hx hb dX8_demands_79 ?_
      refine bd e0 (fun z12 e13 e0 => ?_)
      refine m_callsi X w (n := 2) (As := [.int a4, .int ((4 * (getA R 10 a5)) + a6)]) (rest := [.int a3]) (fX8_isOf_met l _ _ _ _ e13) gX8_demands_X8_isOf rfl rfl rfl (by decide +kernel) ⟨Nat.le_of_ble_eq_true rfl, Nat.le_of_ble_eq_true rfl⟩ rfl hl.1 rfl (Nat.le_of_ble_eq_true rfl) dX8_demands_80 (fun H locs w => ?_)
      refine lv_if_eq (tgt := 97) hx hb dX8_demands_83 (by decide) (fun c16 => ?_) (fun c16 => ?_)
      · have e0 := itp _ c16 e0
        refine lv_iconst (v := 0) hx hb dX8_demands_97 (by decide) ?_
        exact fX8_demands_b98_w (l := l) X hr hk35 hk47 ih w (lv_sub hl [0, 2, 3, 4] rfl) e0
      · have e0 := itn _ c16 e0
        refine lv_aload_n hx hb dX8_demands_86 rfl (lv_at hl 0 rfl) ?_
        refine lv_iload hx hb dX8_demands_87 (lv_at hl 3 rfl) ?_
        refine lv_iload hx hb dX8_demands_89 (lv_at hl 4 rfl) ?_
        refine bd e0 (fun z14 e15 e0 => ?_)
        refine m_calli X w (n := 2) (As := [.int a5, .int a6]) (rest := [.int a3]) (fX8_demandsOf_met l _ _ _ _ _ _ _ _ _ _ _ e15) gX8_demands_X8_demandsOf rfl rfl rfl (by decide +kernel) ⟨Nat.le_of_ble_eq_true rfl, Nat.le_of_ble_eq_true rfl⟩ rfl hl.1 rfl (Nat.le_of_ble_eq_true rfl) dX8_demands_91 (fun H locs w => ?_)
        refine lv_goto (tgt := 98) hx hb dX8_demands_94 (by decide) ?_
        exact fX8_demands_b98_w (l := l) X hr hk35 hk47 ih w (lv_sub hl [0, 2, 3, 4] rfl) e0
def fX8_demands_b47 (n : Nat) (k35 : Int32 → Int32 → (Nat → Int32) → (Nat → Nat → Int32) → Option (Int32 × mSt)) : Nat → Int32 → Int32 → Int32 → (Nat → Int32) → (Nat → Nat → Int32) → Option (Int32 × mSt)
  | 0, _, _, _, _, _ => none
  | j + 1, a3, a4, a5, I, R =>
    if (I 6) ≤ a5 then
      k35 a3 a4 I R
    else
      fX8_demands_b59 n k35 (fX8_demands_b47 n k35 j) n a3 a4 a5 0 I R
set_option maxRecDepth 20000 in
set_option maxHeartbeats 1000000 in
theorem fX8_demands_b47_w {p : Program} {l : Launch} {e : Env} {s : State} {m : MethodId} {args : Array Value} {below : List Frame} {meth : Method} {c : Code} {D : va_G} {y : ClassId} {h : Nat} {q : Nat → Nat} {n : Nat} {z : Int32 × mSt} (X : mX p s m args c cX8_demands 7 wsX8_demands D y) (hr : meth.sig.returnType = some .int ∧ meth.locks = false) {k35 : Int32 → Int32 → (Nat → Int32) → (Nat → Nat → Int32) → Option (Int32 × mSt)} (hk35 : ∀ (a3 : Int32) (a4 : Int32) (I : Nat → Int32) (R : Nat → Nat → Int32) (H : Heap) (locs : List Loc) (ls : Array Slot), mH s D y h q H locs I R → lv_has ls 7 [(0, .ref h), (3, .int a3), (4, .int a4)] → k35 a3 a4 I R = some z → W p l e rmX8_demands s m args below meth c H locs 0 0 (MQ below (mQi D y h q (mS y h q s.heap.size) z) args s 0 0 (mS y h q s.heap.size)) (F0 m 35 ls [])) : ∀ (j : Nat) (a3 : Int32) (a4 : Int32) (a5 : Int32) (I : Nat → Int32) (R : Nat → Nat → Int32) (H : Heap) (locs : List Loc) (ls : Array Slot), mH s D y h q H locs I R → lv_has ls 7 [(0, .ref h), (3, .int a3), (4, .int a4), (5, .int a5)] → fX8_demands_b47 n k35 j a3 a4 a5 I R = some z → W p l e rmX8_demands s m args below meth c H locs 0 0 (MQ below (mQi D y h q (mS y h q s.heap.size) z) args s 0 0 (mS y h q s.heap.size)) (F0 m 47 ls []) := by
  have hx := X.1.1
  have hb := X.1.2.1
  intro j
  induction j with
  | zero =>
    intro a3 a4 a5 I R H locs ls w hl e0
    cases e0
  | succ j ih =>
    intro a3 a4 a5 I R H locs ls w hl e0
    rw [fX8_demands_b47] at e0
    refine lv_iload hx hb dX8_demands_47 (lv_at hl 3 rfl) ?_
    refine lv_aload_n hx hb dX8_demands_49 rfl (lv_at hl 0 rfl) ?_
    refine m_get X w 6 (by decide) (index := 95) rfl (by decide +kernel) (mfi6 _ _) dX8_demands_50 ?_
    refine lv_icmp_ge (tgt := 112) hx hb dX8_demands_53 (by decide) (fun c10 => ?_) (fun c10 => ?_)
    · have e0 := itp _ c10 e0
      refine lv_goto (tgt := 35) hx hb dX8_demands_112 (by decide) ?_
      exact hk35 _ _ _ _ _ _ _ w (lv_sub hl [0, 1, 2] rfl) e0
    · have e0 := itn _ c10 e0
      refine lv_iconst (v := 0) hx hb dX8_demands_56 (by decide) ?_
      refine lv_istore (lv' := [(6, .int 0), (0, .ref h), (3, .int a3), (4, .int a4), (5, .int a5)]) hx hb dX8_demands_57 hl (by decide) rfl (fun ls hl => ?_)
      exact fX8_demands_b59_w (l := l) X hr hk35 ih n _ _ _ _ _ _ _ _ _ w (lv_sub hl [1, 2, 3, 4, 0] rfl) e0
def fX8_demands_b35 (n : Nat) : Nat → Int32 → Int32 → (Nat → Int32) → (Nat → Nat → Int32) → Option (Int32 × mSt)
  | 0, _, _, _, _ => none
  | j + 1, a3, a4, I, R =>
    if a3 = a4 then
      some (a3, I, R)
    else
      fX8_demands_b47 n (fX8_demands_b35 n j) n a3 a3 0 I R
set_option maxRecDepth 20000 in
set_option maxHeartbeats 1000000 in
theorem fX8_demands_b35_w {p : Program} {l : Launch} {e : Env} {s : State} {m : MethodId} {args : Array Value} {below : List Frame} {meth : Method} {c : Code} {D : va_G} {y : ClassId} {h : Nat} {q : Nat → Nat} {n : Nat} {z : Int32 × mSt} (X : mX p s m args c cX8_demands 7 wsX8_demands D y) (hr : meth.sig.returnType = some .int ∧ meth.locks = false) : ∀ (j : Nat) (a3 : Int32) (a4 : Int32) (I : Nat → Int32) (R : Nat → Nat → Int32) (H : Heap) (locs : List Loc) (ls : Array Slot), mH s D y h q H locs I R → lv_has ls 7 [(0, .ref h), (3, .int a3), (4, .int a4)] → fX8_demands_b35 n j a3 a4 I R = some z → W p l e rmX8_demands s m args below meth c H locs 0 0 (MQ below (mQi D y h q (mS y h q s.heap.size) z) args s 0 0 (mS y h q s.heap.size)) (F0 m 35 ls []) := by
  have hx := X.1.1
  have hb := X.1.2.1
  intro j
  induction j with
  | zero =>
    intro a3 a4 I R H locs ls w hl e0
    cases e0
  | succ j ih =>
    intro a3 a4 I R H locs ls w hl e0
    rw [fX8_demands_b35] at e0
    refine lv_iload_n hx hb dX8_demands_35 rfl (lv_at hl 1 rfl) ?_
    refine lv_iload hx hb dX8_demands_36 (lv_at hl 2 rfl) ?_
    refine lv_icmp_eq (tgt := 115) hx hb dX8_demands_38 (by decide) (fun c9 => ?_) (fun c9 => ?_)
    · have e0 := itp _ c9 e0
      refine lv_iload_n hx hb dX8_demands_115 rfl (lv_at hl 1 rfl) ?_
      have e0 := Option.some.inj e0
      subst e0
      exact m_iret X w hr dX8_demands_116
    · have e0 := itn _ c9 e0
      refine lv_iload_n hx hb dX8_demands_41 rfl (lv_at hl 1 rfl) ?_
      refine lv_istore (lv' := [(4, .int a3), (0, .ref h), (3, .int a3)]) hx hb dX8_demands_42 hl (by decide) rfl (fun ls hl => ?_)
      refine lv_iconst (v := 0) hx hb dX8_demands_44 (by decide) ?_
      refine lv_istore (lv' := [(5, .int 0), (4, .int a3), (0, .ref h), (3, .int a3)]) hx hb dX8_demands_45 hl (by decide) rfl (fun ls hl => ?_)
      exact fX8_demands_b47_w (l := l) X hr ih n _ _ _ _ _ _ _ _ w (lv_sub hl [2, 3, 1, 0] rfl) e0
def fX8_demands (n : Nat) (a1 : Int32) (a2 : Int32) (I : Nat → Int32) (R : Nat → Nat → Int32) : Option (Int32 × mSt) :=
  (fX8_isRelation n a1 I R).bind fun z1 =>
  if z1.1 = 0 then
    some ((-1), z1.2.1, z1.2.2)
  else
    (fX8_isThing n a2).bind fun z3 =>
    if z3 = 0 then
      some ((-2), z1.2.1, z1.2.2)
    else
      (fX8_findHolds n z1.2.1 z1.2.2).bind fun z5 =>
      fX8_demands_b35 n n (1 <<< (((4 * a1) + a2) &&& 31)) 0 z5.1 z5.2
set_option maxRecDepth 20000 in
set_option maxHeartbeats 1000000 in
theorem fX8_demands_w {p : Program} {l : Launch} {e : Env} {s : State} {m : MethodId} {args : Array Value} {below : List Frame} {meth : Method} {c : Code} {D : va_G} {y : ClassId} {h : Nat} {q : Nat → Nat} {n : Nat} {z : Int32 × mSt} (X : mX p s m args c cX8_demands 7 wsX8_demands D y) (hr : meth.sig.returnType = some .int ∧ meth.locks = false) {a1 : Int32} {a2 : Int32} {I : Nat → Int32} {R : Nat → Nat → Int32} {H : Heap} {locs : List Loc} {ls : Array Slot} (w : mH s D y h q H locs I R) (hl : lv_has ls 7 [(0, .ref h), (1, .int a1), (2, .int a2)]) (e0 : fX8_demands n a1 a2 I R = some z) : W p l e rmX8_demands s m args below meth c H locs 0 0 (MQ below (mQi D y h q (mS y h q s.heap.size) z) args s 0 0 (mS y h q s.heap.size)) (F0 m 0 ls []) := by
  have hx := X.1.1
  have hb := X.1.2.1
  unfold fX8_demands at e0
  refine lv_aload_n hx hb dX8_demands_0 rfl (lv_at hl 0 rfl) ?_
  refine lv_iload_n hx hb dX8_demands_1 rfl (lv_at hl 1 rfl) ?_
  refine bd e0 (fun z1 e2 e0 => ?_)
  refine m_calli X w (n := 1) (As := [.int a1]) (rest := []) (fX8_isRelation_met l _ _ _ _ _ _ _ _ _ _ e2) gX8_demands_X8_isRelation rfl rfl rfl (by decide +kernel) ⟨Nat.le_of_ble_eq_true rfl, Nat.le_of_ble_eq_true rfl⟩ rfl hl.1 rfl (Nat.le_of_ble_eq_true rfl) dX8_demands_2 (fun H locs w => ?_)
  refine lv_if_ne (tgt := 10) hx hb dX8_demands_5 (by decide) (fun c8 => ?_) (fun c8 => ?_)
  · have e0 := itn _ c8 e0
    refine lv_iload_n hx hb dX8_demands_10 rfl (lv_at hl 2 rfl) ?_
    refine bd e0 (fun z3 e4 e0 => ?_)
    refine m_callsi X w (n := 1) (As := [.int a2]) (rest := []) (fX8_isThing_met l _ _ _ e4) gX8_demands_X8_isThing rfl rfl rfl (by decide +kernel) ⟨Nat.le_of_ble_eq_true rfl, Nat.le_of_ble_eq_true rfl⟩ rfl hl.1 rfl (Nat.le_of_ble_eq_true rfl) dX8_demands_11 (fun H locs w => ?_)
    refine lv_if_ne (tgt := 20) hx hb dX8_demands_14 (by decide) (fun c7 => ?_) (fun c7 => ?_)
    · have e0 := itn _ c7 e0
      refine lv_aload_n hx hb dX8_demands_20 rfl (lv_at hl 0 rfl) ?_
      refine bd e0 (fun z5 e6 e0 => ?_)
      refine m_callv X w (n := 0) (As := []) (rest := []) (fX8_findHolds_met l _ _ _ _ _ _  _ _ _ e6) gX8_demands_X8_findHolds rfl rfl rfl (by decide +kernel) ⟨Nat.le_of_ble_eq_true rfl, Nat.le_of_ble_eq_true rfl⟩ rfl hl.1 rfl (Nat.le_of_ble_eq_true rfl) dX8_demands_21 (fun H locs w => ?_)
      refine lv_iconst (v := 1) hx hb dX8_demands_24 (by decide) ?_
      refine lv_iconst (v := 4) hx hb dX8_demands_25 (by decide) ?_
      refine lv_iload_n hx hb dX8_demands_26 rfl (lv_at hl 1 rfl) ?_
      refine lv_imul hx hb dX8_demands_27 ?_
      refine lv_iload_n hx hb dX8_demands_28 rfl (lv_at hl 2 rfl) ?_
      refine lv_iadd hx hb dX8_demands_29 ?_
      refine lv_ishl hx hb dX8_demands_30 ?_
      refine lv_istore_n (lv' := [(3, .int (1 <<< (((4 * a1) + a2) &&& 31))), (0, .ref h), (1, .int a1), (2, .int a2)]) hx hb dX8_demands_31 rfl hl (by decide) rfl (fun ls hl => ?_)
      refine lv_iconst (v := 0) hx hb dX8_demands_32 (by decide) ?_
      refine lv_istore (lv' := [(4, .int 0), (3, .int (1 <<< (((4 * a1) + a2) &&& 31))), (0, .ref h), (1, .int a1), (2, .int a2)]) hx hb dX8_demands_33 hl (by decide) rfl (fun ls hl => ?_)
      exact fX8_demands_b35_w (l := l) X hr n _ _ _ _ _ _ _ w (lv_sub hl [2, 1, 0] rfl) e0
    · have e0 := itp _ c7 e0
      refine lv_bipush (v := (-2)) hx hb dX8_demands_17 (by decide) ?_
      have e0 := Option.some.inj e0
      subst e0
      exact m_iret X w hr dX8_demands_19
  · have e0 := itp _ c8 e0
    refine lv_iconst (v := (-1)) hx hb dX8_demands_8 (by decide) ?_
    have e0 := Option.some.inj e0
    subst e0
    exact m_iret X w hr dX8_demands_9
set_option maxRecDepth 20000 in
theorem fX8_demands_met (l : Launch) (D : va_G) (y : ClassId) (h : Nat) (q : Nat → Nat) (sz n : Nat) (a1 : Int32) (a2 : Int32) (I : Nat → Int32) (R : Nat → Nat → Int32) (z : Int32 × mSt) (e0 : fX8_demands n a1 a2 I R = some z) : Met l yX8_demands wsX8_demands rmX8_demands (va_Pc [.ref h, .int a1, .int a2] (mPre D y h q sz I R)) (mQi D y h q (mS y h q sz) z) 0 0 (mS y h q sz) := by
  refine Met.ofW (cc := cX8_demands) (maxL := 7) (ret := some .int) (by decide) rfl ?_
  intro p e s m args below meth c s₁ B hml hv
  obtain ⟨rfl, hsz, hP, hK, hD⟩ := hv
  subst hsz
  have hl := lv_entry ([.ref h, .int a1, .int a2]) (n := 7) (Nat.le_of_ble_eq_true rfl)
  rw [lg_entry_eq]
  exact fX8_demands_w (s := s) ⟨⟨B.exec, B.bytes, hml, findClass_of_methodNamed B.named, atoms_spec (ws := wsX8_demands) B.pre⟩, fun _ h9 => List.mem_cons_of_mem _ (List.mem_append_right _ h9), hK⟩ ⟨B.returns, B.notSynchronized⟩ ⟨hP, mS_D hD, va_S.rf⟩ hl e0
def rmX8_reading : Room := { frames := 2, cells := 0, slots := 0, locals := 42 }
def fX8_reading_b46 (n : Nat) (a1 : Int32) (a2 : Int32) (a3 : Int32) (a4 : Int32) (I : Nat → Int32) (R : Nat → Nat → Int32) : Option (Int32 × mSt) :=
  if (I 31) = 8 then
    some ((-4), I, R)
  else
    (fX8_factOf n a1 a2 a3).bind fun z14 =>
    if inb (I 31) 8 = true then
    if inb (I 31) 8 = true then
    some ((((upd I 31 ((I 31) + 1)) 31) - 1), (upd I 31 ((I 31) + 1)), (setA (setA R 32 (I 31) z14) 33 (I 31) a4))
    else none
    else none
set_option maxRecDepth 20000 in
set_option maxHeartbeats 1000000 in
theorem fX8_reading_b46_w {p : Program} {l : Launch} {e : Env} {s : State} {m : MethodId} {args : Array Value} {below : List Frame} {meth : Method} {c : Code} {D : va_G} {y : ClassId} {h : Nat} {q : Nat → Nat} {n : Nat} {z : Int32 × mSt} (X : mX p s m args c cX8_reading 5 wsX8_reading D y) (hr : meth.sig.returnType = some .int ∧ meth.locks = false) {a1 : Int32} {a2 : Int32} {a3 : Int32} {a4 : Int32} {I : Nat → Int32} {R : Nat → Nat → Int32} {H : Heap} {locs : List Loc} {ls : Array Slot} (w : mH s D y h q H locs I R) (hl : lv_has ls 5 [(0, .ref h), (1, .int a1), (2, .int a2), (3, .int a3), (4, .int a4)]) (e0 : fX8_reading_b46 n a1 a2 a3 a4 I R = some z) : W p l e rmX8_reading s m args below meth c H locs 0 0 (MQ below (mQi D y h q (mS y h q s.heap.size) z) args s 0 0 (mS y h q s.heap.size)) (F0 m 46 ls []) := by
  have hx := X.1.1
  have hb := X.1.2.1
  unfold fX8_reading_b46 at e0
  refine lv_aload_n hx hb dX8_reading_46 rfl (lv_at hl 0 rfl) ?_
  refine m_get X w 31 (by decide) (index := 135) rfl (by decide +kernel) (mfi31 _ _) dX8_reading_47 ?_
  refine lv_bipush (v := 8) hx hb dX8_reading_50 (by decide) ?_
  refine lv_icmp_ne (tgt := 58) hx hb dX8_reading_52 (by decide) (fun c18 => ?_) (fun c18 => ?_)
  · have e0 := itn _ c18 e0
    refine lv_aload_n hx hb dX8_reading_58 rfl (lv_at hl 0 rfl) ?_
    refine m_get X w 32 (by decide) (index := 76) rfl (by decide +kernel) (mfr32 _ _) dX8_reading_59 ?_
    refine lv_aload_n hx hb dX8_reading_62 rfl (lv_at hl 0 rfl) ?_
    refine m_get X w 31 (by decide) (index := 135) rfl (by decide +kernel) (mfi31 _ _) dX8_reading_63 ?_
    refine lv_iload_n hx hb dX8_reading_66 rfl (lv_at hl 1 rfl) ?_
    refine lv_iload_n hx hb dX8_reading_67 rfl (lv_at hl 2 rfl) ?_
    refine lv_iload_n hx hb dX8_reading_68 rfl (lv_at hl 3 rfl) ?_
    refine bd e0 (fun z14 e15 e0 => ?_)
    refine m_callsi X w (n := 3) (As := [.int a1, .int a2, .int a3]) (rest := [.int (I 31), .ref (q 32)]) (fX8_factOf_met l _ _ _ _ _ e15) gX8_reading_X8_factOf rfl rfl rfl (by decide +kernel) ⟨Nat.le_of_ble_eq_true rfl, Nat.le_of_ble_eq_true rfl⟩ rfl hl.1 rfl (Nat.le_of_ble_eq_true rfl) dX8_reading_69 (fun H locs w => ?_)
    refine gd e0 (fun g16 e0 => ?_)
    refine m_ast X w 23 32 (mat32 _ _ _ _ _) (mset32 _ _ _ _ _) g16 dX8_reading_72 (fun H locs w => ?_)
    refine lv_aload_n hx hb dX8_reading_73 rfl (lv_at hl 0 rfl) ?_
    refine m_get X w 33 (by decide) (index := 79) rfl (by decide +kernel) (mfr33 _ _) dX8_reading_74 ?_
    refine lv_aload_n hx hb dX8_reading_77 rfl (lv_at hl 0 rfl) ?_
    refine m_get X w 31 (by decide) (index := 135) rfl (by decide +kernel) (mfi31 _ _) dX8_reading_78 ?_
    refine lv_iload hx hb dX8_reading_81 (lv_at hl 4 rfl) ?_
    refine gd e0 (fun g17 e0 => ?_)
    refine m_ast X w 24 33 (mat33 _ _ _ _ _) (mset33 _ _ _ _ _) g17 dX8_reading_83 (fun H locs w => ?_)
    refine lv_aload_n hx hb dX8_reading_84 rfl (lv_at hl 0 rfl) ?_
    refine lv_dup hx hb dX8_reading_85 rfl ?_
    refine m_get X w 31 (by decide) (index := 135) rfl (by decide +kernel) (mfi31 _ _) dX8_reading_86 ?_
    refine lv_iconst (v := 1) hx hb dX8_reading_89 (by decide) ?_
    refine lv_iadd hx hb dX8_reading_90 ?_
    refine m_put X w 31 (by decide) (index := 135) rfl rfl (by decide +kernel) (by decide +kernel) (mps31 _ _ _) dX8_reading_91 (fun H locs w => ?_)
    refine lv_aload_n hx hb dX8_reading_94 rfl (lv_at hl 0 rfl) ?_
    refine m_get X w 31 (by decide) (index := 135) rfl (by decide +kernel) (mfi31 _ _) dX8_reading_95 ?_
    refine lv_iconst (v := 1) hx hb dX8_reading_98 (by decide) ?_
    refine lv_isub hx hb dX8_reading_99 ?_
    have e0 := Option.some.inj e0
    subst e0
    exact m_iret X w hr dX8_reading_100
  · have e0 := itp _ c18 e0
    refine lv_bipush (v := (-4)) hx hb dX8_reading_55 (by decide) ?_
    have e0 := Option.some.inj e0
    subst e0
    exact m_iret X w hr dX8_reading_57
def fX8_reading (n : Nat) (a1 : Int32) (a2 : Int32) (a3 : Int32) (a4 : Int32) (I : Nat → Int32) (R : Nat → Nat → Int32) : Option (Int32 × mSt) :=
  (fX8_isRelation n a1 I R).bind fun z1 =>
  if z1.1 = 0 then
    some ((-1), z1.2.1, z1.2.2)
  else
    (fX8_isThing n a2).bind fun z3 =>
    if z3 = 0 then
      some ((-2), z1.2.1, z1.2.2)
    else
      (fX8_isThing n a3).bind fun z5 =>
      if z5 = 0 then
        some ((-2), z1.2.1, z1.2.2)
      else
        if a4 = (-9) then
          fX8_reading_b46 n a1 a2 a3 a4 z1.2.1 z1.2.2
        else
          (fX8_within n a4 0 1000).bind fun z7 =>
          if z7 = 0 then
            some ((-2), z1.2.1, z1.2.2)
          else
            fX8_reading_b46 n a1 a2 a3 a4 z1.2.1 z1.2.2
set_option maxRecDepth 20000 in
set_option maxHeartbeats 1000000 in
theorem fX8_reading_w {p : Program} {l : Launch} {e : Env} {s : State} {m : MethodId} {args : Array Value} {below : List Frame} {meth : Method} {c : Code} {D : va_G} {y : ClassId} {h : Nat} {q : Nat → Nat} {n : Nat} {z : Int32 × mSt} (X : mX p s m args c cX8_reading 5 wsX8_reading D y) (hr : meth.sig.returnType = some .int ∧ meth.locks = false) {a1 : Int32} {a2 : Int32} {a3 : Int32} {a4 : Int32} {I : Nat → Int32} {R : Nat → Nat → Int32} {H : Heap} {locs : List Loc} {ls : Array Slot} (w : mH s D y h q H locs I R) (hl : lv_has ls 5 [(0, .ref h), (1, .int a1), (2, .int a2), (3, .int a3), (4, .int a4)]) (e0 : fX8_reading n a1 a2 a3 a4 I R = some z) : W p l e rmX8_reading s m args below meth c H locs 0 0 (MQ below (mQi D y h q (mS y h q s.heap.size) z) args s 0 0 (mS y h q s.heap.size)) (F0 m 0 ls []) := by
  have hx := X.1.1
  have hb := X.1.2.1
  unfold fX8_reading at e0
  refine lv_aload_n hx hb dX8_reading_0 rfl (lv_at hl 0 rfl) ?_
  refine lv_iload_n hx hb dX8_reading_1 rfl (lv_at hl 1 rfl) ?_
  refine bd e0 (fun z1 e2 e0 => ?_)
  refine m_calli X w (n := 1) (As := [.int a1]) (rest := []) (fX8_isRelation_met l _ _ _ _ _ _ _ _ _ _ e2) gX8_reading_X8_isRelation rfl rfl rfl (by decide +kernel) ⟨Nat.le_of_ble_eq_true rfl, Nat.le_of_ble_eq_true rfl⟩ rfl hl.1 rfl (Nat.le_of_ble_eq_true rfl) dX8_reading_2 (fun H locs w => ?_)
  refine lv_if_ne (tgt := 10) hx hb dX8_reading_5 (by decide) (fun c13 => ?_) (fun c13 => ?_)
  · have e0 := itn _ c13 e0
    refine lv_iload_n hx hb dX8_reading_10 rfl (lv_at hl 2 rfl) ?_
    refine bd e0 (fun z3 e4 e0 => ?_)
    refine m_callsi X w (n := 1) (As := [.int a2]) (rest := []) (fX8_isThing_met l _ _ _ e4) gX8_reading_X8_isThing rfl rfl rfl (by decide +kernel) ⟨Nat.le_of_ble_eq_true rfl, Nat.le_of_ble_eq_true rfl⟩ rfl hl.1 rfl (Nat.le_of_ble_eq_true rfl) dX8_reading_11 (fun H locs w => ?_)
    refine lv_if_eq (tgt := 43) hx hb dX8_reading_14 (by decide) (fun c12 => ?_) (fun c12 => ?_)
    · have e0 := itp _ c12 e0
      refine lv_bipush (v := (-2)) hx hb dX8_reading_43 (by decide) ?_
      have e0 := Option.some.inj e0
      subst e0
      exact m_iret X w hr dX8_reading_45
    · have e0 := itn _ c12 e0
      refine lv_iload_n hx hb dX8_reading_17 rfl (lv_at hl 3 rfl) ?_
      refine bd e0 (fun z5 e6 e0 => ?_)
      refine m_callsi X w (n := 1) (As := [.int a3]) (rest := []) (fX8_isThing_met l _ _ _ e6) gX8_reading_X8_isThing rfl rfl rfl (by decide +kernel) ⟨Nat.le_of_ble_eq_true rfl, Nat.le_of_ble_eq_true rfl⟩ rfl hl.1 rfl (Nat.le_of_ble_eq_true rfl) dX8_reading_18 (fun H locs w => ?_)
      refine lv_if_eq (tgt := 43) hx hb dX8_reading_21 (by decide) (fun c11 => ?_) (fun c11 => ?_)
      · have e0 := itp _ c11 e0
        refine lv_bipush (v := (-2)) hx hb dX8_reading_43 (by decide) ?_
        have e0 := Option.some.inj e0
        subst e0
        exact m_iret X w hr dX8_reading_45
      · have e0 := itn _ c11 e0
        refine lv_iload hx hb dX8_reading_24 (lv_at hl 4 rfl) ?_
        refine lv_bipush (v := (-9)) hx hb dX8_reading_26 (by decide) ?_
        refine lv_icmp_eq (tgt := 46) hx hb dX8_reading_28 (by decide) (fun c10 => ?_) (fun c10 => ?_)
        · have e0 := itp _ c10 e0
          exact fX8_reading_b46_w (l := l) X hr w (lv_sub hl [0, 1, 2, 3, 4] rfl) e0
        · have e0 := itn _ c10 e0
          refine lv_iload hx hb dX8_reading_31 (lv_at hl 4 rfl) ?_
          refine lv_iconst (v := 0) hx hb dX8_reading_33 (by decide) ?_
          refine lv_sipush (v := 1000) hx hb dX8_reading_34 (by decide) ?_
          refine bd e0 (fun z7 e8 e0 => ?_)
          refine m_callsi X w (n := 3) (As := [.int a4, .int 0, .int 1000]) (rest := []) (fX8_within_met l _ _ _ _ _ e8) gX8_reading_X8_within rfl rfl rfl (by decide +kernel) ⟨Nat.le_of_ble_eq_true rfl, Nat.le_of_ble_eq_true rfl⟩ rfl hl.1 rfl (Nat.le_of_ble_eq_true rfl) dX8_reading_37 (fun H locs w => ?_)
          refine lv_if_ne (tgt := 46) hx hb dX8_reading_40 (by decide) (fun c9 => ?_) (fun c9 => ?_)
          · have e0 := itn _ c9 e0
            exact fX8_reading_b46_w (l := l) X hr w (lv_sub hl [0, 1, 2, 3, 4] rfl) e0
          · have e0 := itp _ c9 e0
            refine lv_bipush (v := (-2)) hx hb dX8_reading_43 (by decide) ?_
            have e0 := Option.some.inj e0
            subst e0
            exact m_iret X w hr dX8_reading_45
  · have e0 := itp _ c13 e0
    refine lv_iconst (v := (-1)) hx hb dX8_reading_8 (by decide) ?_
    have e0 := Option.some.inj e0
    subst e0
    exact m_iret X w hr dX8_reading_9
set_option maxRecDepth 20000 in
theorem fX8_reading_met (l : Launch) (D : va_G) (y : ClassId) (h : Nat) (q : Nat → Nat) (sz n : Nat) (a1 : Int32) (a2 : Int32) (a3 : Int32) (a4 : Int32) (I : Nat → Int32) (R : Nat → Nat → Int32) (z : Int32 × mSt) (e0 : fX8_reading n a1 a2 a3 a4 I R = some z) : Met l yX8_reading wsX8_reading rmX8_reading (va_Pc [.ref h, .int a1, .int a2, .int a3, .int a4] (mPre D y h q sz I R)) (mQi D y h q (mS y h q sz) z) 0 0 (mS y h q sz) := by
  refine Met.ofW (cc := cX8_reading) (maxL := 5) (ret := some .int) (by decide) rfl ?_
  intro p e s m args below meth c s₁ B hml hv
  obtain ⟨rfl, hsz, hP, hK, hD⟩ := hv
  subst hsz
  have hl := lv_entry ([.ref h, .int a1, .int a2, .int a3, .int a4]) (n := 5) (Nat.le_of_ble_eq_true rfl)
  rw [lg_entry_eq]
  exact fX8_reading_w (s := s) ⟨⟨B.exec, B.bytes, hml, findClass_of_methodNamed B.named, atoms_spec (ws := wsX8_reading) B.pre⟩, fun _ h9 => List.mem_cons_of_mem _ (List.mem_append_right _ h9), hK⟩ ⟨B.returns, B.notSynchronized⟩ ⟨hP, mS_D hD, va_S.rf⟩ hl e0
def rmX8_back : Room := { frames := 1, cells := 0, slots := 0, locals := 22 }
def fX8_back (n : Nat) (a1 : Int32) (I : Nat → Int32) (R : Nat → Nat → Int32) : Option (Int32 × mSt) :=
  (fX8_within n a1 0 (I 31)).bind fun z1 =>
  if z1 = 0 then
    some ((-2), I, R)
  else
    some (((upd I 31 ((I 31) - a1)) 31), (upd I 31 ((I 31) - a1)), R)
set_option maxRecDepth 20000 in
set_option maxHeartbeats 1000000 in
theorem fX8_back_w {p : Program} {l : Launch} {e : Env} {s : State} {m : MethodId} {args : Array Value} {below : List Frame} {meth : Method} {c : Code} {D : va_G} {y : ClassId} {h : Nat} {q : Nat → Nat} {n : Nat} {z : Int32 × mSt} (X : mX p s m args c cX8_back 2 wsX8_back D y) (hr : meth.sig.returnType = some .int ∧ meth.locks = false) {a1 : Int32} {I : Nat → Int32} {R : Nat → Nat → Int32} {H : Heap} {locs : List Loc} {ls : Array Slot} (w : mH s D y h q H locs I R) (hl : lv_has ls 2 [(0, .ref h), (1, .int a1)]) (e0 : fX8_back n a1 I R = some z) : W p l e rmX8_back s m args below meth c H locs 0 0 (MQ below (mQi D y h q (mS y h q s.heap.size) z) args s 0 0 (mS y h q s.heap.size)) (F0 m 0 ls []) := by
  have hx := X.1.1
  have hb := X.1.2.1
  unfold fX8_back at e0
  refine lv_iload_n hx hb dX8_back_0 rfl (lv_at hl 1 rfl) ?_
  refine lv_iconst (v := 0) hx hb dX8_back_1 (by decide) ?_
  refine lv_aload_n hx hb dX8_back_2 rfl (lv_at hl 0 rfl) ?_
  refine m_get X w 31 (by decide) (index := 135) rfl (by decide +kernel) (mfi31 _ _) dX8_back_3 ?_
  refine bd e0 (fun z1 e2 e0 => ?_)
  refine m_callsi X w (n := 3) (As := [.int a1, .int 0, .int (I 31)]) (rest := []) (fX8_within_met l _ _ _ _ _ e2) gX8_back_X8_within rfl rfl rfl (by decide +kernel) ⟨Nat.le_of_ble_eq_true rfl, Nat.le_of_ble_eq_true rfl⟩ rfl hl.1 rfl (Nat.le_of_ble_eq_true rfl) dX8_back_6 (fun H locs w => ?_)
  refine lv_if_ne (tgt := 15) hx hb dX8_back_9 (by decide) (fun c3 => ?_) (fun c3 => ?_)
  · have e0 := itn _ c3 e0
    refine lv_aload_n hx hb dX8_back_15 rfl (lv_at hl 0 rfl) ?_
    refine lv_dup hx hb dX8_back_16 rfl ?_
    refine m_get X w 31 (by decide) (index := 135) rfl (by decide +kernel) (mfi31 _ _) dX8_back_17 ?_
    refine lv_iload_n hx hb dX8_back_20 rfl (lv_at hl 1 rfl) ?_
    refine lv_isub hx hb dX8_back_21 ?_
    refine m_put X w 31 (by decide) (index := 135) rfl rfl (by decide +kernel) (by decide +kernel) (mps31 _ _ _) dX8_back_22 (fun H locs w => ?_)
    refine lv_aload_n hx hb dX8_back_25 rfl (lv_at hl 0 rfl) ?_
    refine m_get X w 31 (by decide) (index := 135) rfl (by decide +kernel) (mfi31 _ _) dX8_back_26 ?_
    have e0 := Option.some.inj e0
    subst e0
    exact m_iret X w hr dX8_back_29
  · have e0 := itp _ c3 e0
    refine lv_bipush (v := (-2)) hx hb dX8_back_12 (by decide) ?_
    have e0 := Option.some.inj e0
    subst e0
    exact m_iret X w hr dX8_back_14
set_option maxRecDepth 20000 in
theorem fX8_back_met (l : Launch) (D : va_G) (y : ClassId) (h : Nat) (q : Nat → Nat) (sz n : Nat) (a1 : Int32) (I : Nat → Int32) (R : Nat → Nat → Int32) (z : Int32 × mSt) (e0 : fX8_back n a1 I R = some z) : Met l yX8_back wsX8_back rmX8_back (va_Pc [.ref h, .int a1] (mPre D y h q sz I R)) (mQi D y h q (mS y h q sz) z) 0 0 (mS y h q sz) := by
  refine Met.ofW (cc := cX8_back) (maxL := 2) (ret := some .int) (by decide) rfl ?_
  intro p e s m args below meth c s₁ B hml hv
  obtain ⟨rfl, hsz, hP, hK, hD⟩ := hv
  subst hsz
  have hl := lv_entry ([.ref h, .int a1]) (n := 2) (Nat.le_of_ble_eq_true rfl)
  rw [lg_entry_eq]
  exact fX8_back_w (s := s) ⟨⟨B.exec, B.bytes, hml, findClass_of_methodNamed B.named, atoms_spec (ws := wsX8_back) B.pre⟩, fun _ h9 => List.mem_cons_of_mem _ (List.mem_append_right _ h9), hK⟩ ⟨B.returns, B.notSynchronized⟩ ⟨hP, mS_D hD, va_S.rf⟩ hl e0
def rmX8_areSo : Room := { frames := 5, cells := 0, slots := 0, locals := 115 }
def fX8_areSo_b17 (n : Nat) : Nat → Int32 → (Nat → Int32) → (Nat → Nat → Int32) → Option (Int32 × mSt)
  | 0, _, _, _ => none
  | j + 1, a1, I, R =>
    if (I 31) ≤ a1 then
      some (1, I, R)
    else
      if inb a1 8 = true then
      if inb (getA R 32 a1) 64 = true then
      if inb a1 8 = true then
      if (getA R 26 (getA R 32 a1)) = (getA R 33 a1) then
        fX8_areSo_b17 n j (a1 + 1) I R
      else
        some (0, I, R)
      else none
      else none
      else none
set_option maxRecDepth 20000 in
set_option maxHeartbeats 1000000 in
theorem fX8_areSo_b17_w {p : Program} {l : Launch} {e : Env} {s : State} {m : MethodId} {args : Array Value} {below : List Frame} {meth : Method} {c : Code} {D : va_G} {y : ClassId} {h : Nat} {q : Nat → Nat} {n : Nat} {z : Int32 × mSt} (X : mX p s m args c cX8_areSo 2 wsX8_areSo D y) (hr : meth.sig.returnType = some .boolean ∧ meth.locks = false) : ∀ (j : Nat) (a1 : Int32) (I : Nat → Int32) (R : Nat → Nat → Int32) (H : Heap) (locs : List Loc) (ls : Array Slot), mH s D y h q H locs I R → lv_has ls 2 [(0, .ref h), (1, .int a1)] → fX8_areSo_b17 n j a1 I R = some z → W p l e rmX8_areSo s m args below meth c H locs 0 0 (MQ below (mQi D y h q (mS y h q s.heap.size) z) args s 0 0 (mS y h q s.heap.size)) (F0 m 17 ls []) := by
  have hx := X.1.1
  have hb := X.1.2.1
  intro j
  induction j with
  | zero =>
    intro a1 I R H locs ls w hl e0
    cases e0
  | succ j ih =>
    intro a1 I R H locs ls w hl e0
    rw [fX8_areSo_b17] at e0
    refine lv_iload_n hx hb dX8_areSo_17 rfl (lv_at hl 1 rfl) ?_
    refine lv_aload_n hx hb dX8_areSo_18 rfl (lv_at hl 0 rfl) ?_
    refine m_get X w 31 (by decide) (index := 135) rfl (by decide +kernel) (mfi31 _ _) dX8_areSo_19 ?_
    refine lv_icmp_ge (tgt := 53) hx hb dX8_areSo_22 (by decide) (fun c10 => ?_) (fun c10 => ?_)
    · have e0 := itp _ c10 e0
      refine lv_iconst (v := 1) hx hb dX8_areSo_53 (by decide) ?_
      have e0 := Option.some.inj e0
      subst e0
      exact m_zret X w hr rfl dX8_areSo_54
    · have e0 := itn _ c10 e0
      refine lv_aload_n hx hb dX8_areSo_25 rfl (lv_at hl 0 rfl) ?_
      refine m_get X w 26 (by decide) (index := 61) rfl (by decide +kernel) (mfr26 _ _) dX8_areSo_26 ?_
      refine lv_aload_n hx hb dX8_areSo_29 rfl (lv_at hl 0 rfl) ?_
      refine m_get X w 32 (by decide) (index := 76) rfl (by decide +kernel) (mfr32 _ _) dX8_areSo_30 ?_
      refine lv_iload_n hx hb dX8_areSo_33 rfl (lv_at hl 1 rfl) ?_
      refine gd e0 (fun g6 e0 => ?_)
      refine m_ald X w 23 32 (mat32 _ _ _ _ _) g6 dX8_areSo_34 ?_
      refine gd e0 (fun g7 e0 => ?_)
      refine m_ald X w 18 26 (mat26 _ _ _ _ _) g7 dX8_areSo_35 ?_
      refine lv_aload_n hx hb dX8_areSo_36 rfl (lv_at hl 0 rfl) ?_
      refine m_get X w 33 (by decide) (index := 79) rfl (by decide +kernel) (mfr33 _ _) dX8_areSo_37 ?_
      refine lv_iload_n hx hb dX8_areSo_40 rfl (lv_at hl 1 rfl) ?_
      refine gd e0 (fun g8 e0 => ?_)
      refine m_ald X w 24 33 (mat33 _ _ _ _ _) g8 dX8_areSo_41 ?_
      refine lv_icmp_eq (tgt := 47) hx hb dX8_areSo_42 (by decide) (fun c9 => ?_) (fun c9 => ?_)
      · have e0 := itp _ c9 e0
        refine lv_iinc (v := (a1 + 1)) (lv' := [(1, .int (a1 + 1)), (0, .ref h)]) hx hb dX8_areSo_47 hl (k := 1) rfl rfl (by decide) rfl (fun ls hl => ?_)
        refine lv_goto (tgt := 17) hx hb dX8_areSo_50 (by decide) ?_
        exact ih _ _ _ _ _ _ w (lv_sub hl [1, 0] rfl) e0
      · have e0 := itn _ c9 e0
        refine lv_iconst (v := 0) hx hb dX8_areSo_45 (by decide) ?_
        have e0 := Option.some.inj e0
        subst e0
        exact m_zret X w hr rfl dX8_areSo_46
def fX8_areSo (n : Nat) (I : Nat → Int32) (R : Nat → Nat → Int32) : Option (Int32 × mSt) :=
  (fX8_goesRoundBy n I R).bind fun z1 =>
  if z1.1 = (-9) then
    (fX8_findCheap n z1.2.1 z1.2.2).bind fun z3 =>
    fX8_areSo_b17 n n 0 z3.1 z3.2
  else
    some (0, z1.2.1, z1.2.2)
set_option maxRecDepth 20000 in
set_option maxHeartbeats 1000000 in
theorem fX8_areSo_w {p : Program} {l : Launch} {e : Env} {s : State} {m : MethodId} {args : Array Value} {below : List Frame} {meth : Method} {c : Code} {D : va_G} {y : ClassId} {h : Nat} {q : Nat → Nat} {n : Nat} {z : Int32 × mSt} (X : mX p s m args c cX8_areSo 2 wsX8_areSo D y) (hr : meth.sig.returnType = some .boolean ∧ meth.locks = false) {I : Nat → Int32} {R : Nat → Nat → Int32} {H : Heap} {locs : List Loc} {ls : Array Slot} (w : mH s D y h q H locs I R) (hl : lv_has ls 2 [(0, .ref h)]) (e0 : fX8_areSo n I R = some z) : W p l e rmX8_areSo s m args below meth c H locs 0 0 (MQ below (mQi D y h q (mS y h q s.heap.size) z) args s 0 0 (mS y h q s.heap.size)) (F0 m 0 ls []) := by
  have hx := X.1.1
  have hb := X.1.2.1
  unfold fX8_areSo at e0
  refine lv_aload_n hx hb dX8_areSo_0 rfl (lv_at hl 0 rfl) ?_
  refine bd e0 (fun z1 e2 e0 => ?_)
  refine m_calli X w (n := 0) (As := []) (rest := []) (fX8_goesRoundBy_met l _ _ _ _ _ _  _ _ _ e2) gX8_areSo_X8_goesRoundBy rfl rfl rfl (by decide +kernel) ⟨Nat.le_of_ble_eq_true rfl, Nat.le_of_ble_eq_true rfl⟩ rfl hl.1 rfl (Nat.le_of_ble_eq_true rfl) dX8_areSo_1 (fun H locs w => ?_)
  refine lv_bipush (v := (-9)) hx hb dX8_areSo_4 (by decide) ?_
  refine lv_icmp_eq (tgt := 11) hx hb dX8_areSo_6 (by decide) (fun c5 => ?_) (fun c5 => ?_)
  · have e0 := itp _ c5 e0
    refine lv_aload_n hx hb dX8_areSo_11 rfl (lv_at hl 0 rfl) ?_
    refine bd e0 (fun z3 e4 e0 => ?_)
    refine m_callv X w (n := 0) (As := []) (rest := []) (fX8_findCheap_met l _ _ _ _ _ _  _ _ _ e4) gX8_areSo_X8_findCheap rfl rfl rfl (by decide +kernel) ⟨Nat.le_of_ble_eq_true rfl, Nat.le_of_ble_eq_true rfl⟩ rfl hl.1 rfl (Nat.le_of_ble_eq_true rfl) dX8_areSo_12 (fun H locs w => ?_)
    refine lv_iconst (v := 0) hx hb dX8_areSo_15 (by decide) ?_
    refine lv_istore_n (lv' := [(1, .int 0), (0, .ref h)]) hx hb dX8_areSo_16 rfl hl (by decide) rfl (fun ls hl => ?_)
    exact fX8_areSo_b17_w (l := l) X hr n _ _ _ _ _ _ w (lv_sub hl [1, 0] rfl) e0
  · have e0 := itn _ c5 e0
    refine lv_iconst (v := 0) hx hb dX8_areSo_9 (by decide) ?_
    have e0 := Option.some.inj e0
    subst e0
    exact m_zret X w hr rfl dX8_areSo_10
set_option maxRecDepth 20000 in
theorem fX8_areSo_met (l : Launch) (D : va_G) (y : ClassId) (h : Nat) (q : Nat → Nat) (sz n : Nat) (I : Nat → Int32) (R : Nat → Nat → Int32) (z : Int32 × mSt) (e0 : fX8_areSo n I R = some z) : Met l yX8_areSo wsX8_areSo rmX8_areSo (va_Pc [.ref h] (mPre D y h q sz I R)) (mQi D y h q (mS y h q sz) z) 0 0 (mS y h q sz) := by
  refine Met.ofW (cc := cX8_areSo) (maxL := 2) (ret := some .boolean) (by decide) rfl ?_
  intro p e s m args below meth c s₁ B hml hv
  obtain ⟨rfl, hsz, hP, hK, hD⟩ := hv
  subst hsz
  have hl := lv_entry ([.ref h]) (n := 2) (Nat.le_of_ble_eq_true rfl)
  rw [lg_entry_eq]
  exact fX8_areSo_w (s := s) ⟨⟨B.exec, B.bytes, hml, findClass_of_methodNamed B.named, atoms_spec (ws := wsX8_areSo) B.pre⟩, fun _ h9 => List.mem_cons_of_mem _ (List.mem_append_right _ h9), hK⟩ ⟨B.returns, B.notSynchronized⟩ ⟨hP, mS_D hD, va_S.rf⟩ hl e0
def rmX8_kinds : Room := { frames := 6, cells := 0, slots := 0, locals := 136 }
def fX8_kinds_b52 (n : Nat) (k22 : Int32 → Int32 → Int32 → Int32 → (Nat → Int32) → (Nat → Nat → Int32) → Option (Int32 × mSt)) (a1 : Int32) (a2 : Int32) (a4 : Int32) (t0 : Int32) (t1 : Int32) (I : Nat → Int32) (R : Nat → Nat → Int32) : Option (Int32 × mSt) :=
  k22 a1 a2 (t1 ||| t0) (a4 + 1) I R
set_option maxRecDepth 20000 in
set_option maxHeartbeats 1000000 in
theorem fX8_kinds_b52_w {p : Program} {l : Launch} {e : Env} {s : State} {m : MethodId} {args : Array Value} {below : List Frame} {meth : Method} {c : Code} {D : va_G} {y : ClassId} {h : Nat} {q : Nat → Nat} {n : Nat} {z : Int32 × mSt} (X : mX p s m args c cX8_kinds 5 wsX8_kinds D y) (hr : meth.sig.returnType = some .int ∧ meth.locks = false) {k22 : Int32 → Int32 → Int32 → Int32 → (Nat → Int32) → (Nat → Nat → Int32) → Option (Int32 × mSt)} (hk22 : ∀ (a1 : Int32) (a2 : Int32) (a3 : Int32) (a4 : Int32) (I : Nat → Int32) (R : Nat → Nat → Int32) (H : Heap) (locs : List Loc) (ls : Array Slot), mH s D y h q H locs I R → lv_has ls 5 [(0, .ref h), (1, .int a1), (2, .int a2), (3, .int a3), (4, .int a4)] → k22 a1 a2 a3 a4 I R = some z → W p l e rmX8_kinds s m args below meth c H locs 0 0 (MQ below (mQi D y h q (mS y h q s.heap.size) z) args s 0 0 (mS y h q s.heap.size)) (F0 m 22 ls [])) {a1 : Int32} {a2 : Int32} {a4 : Int32} {t0 : Int32} {t1 : Int32} {I : Nat → Int32} {R : Nat → Nat → Int32} {H : Heap} {locs : List Loc} {ls : Array Slot} (w : mH s D y h q H locs I R) (hl : lv_has ls 5 [(0, .ref h), (1, .int a1), (2, .int a2), (4, .int a4)]) (e0 : fX8_kinds_b52 n k22 a1 a2 a4 t0 t1 I R = some z) : W p l e rmX8_kinds s m args below meth c H locs 0 0 (MQ below (mQi D y h q (mS y h q s.heap.size) z) args s 0 0 (mS y h q s.heap.size)) (F0 m 52 ls [.int t0, .int t1]) := by
  have hx := X.1.1
  have hb := X.1.2.1
  unfold fX8_kinds_b52 at e0
  refine lv_ior hx hb dX8_kinds_52 ?_
  refine lv_istore_n (lv' := [(3, .int (t1 ||| t0)), (0, .ref h), (1, .int a1), (2, .int a2), (4, .int a4)]) hx hb dX8_kinds_53 rfl hl (by decide) rfl (fun ls hl => ?_)
  refine lv_iinc (v := (a4 + 1)) (lv' := [(4, .int (a4 + 1)), (3, .int (t1 ||| t0)), (0, .ref h), (1, .int a1), (2, .int a2)]) hx hb dX8_kinds_54 hl (k := 4) rfl rfl (by decide) rfl (fun ls hl => ?_)
  refine lv_goto (tgt := 22) hx hb dX8_kinds_57 (by decide) ?_
  exact hk22 _ _ _ _ _ _ _ _ _ w (lv_sub hl [2, 3, 4, 1, 0] rfl) e0
def fX8_kinds_b22 (n : Nat) : Nat → Int32 → Int32 → Int32 → Int32 → (Nat → Int32) → (Nat → Nat → Int32) → Option (Int32 × mSt)
  | 0, _, _, _, _, _, _ => none
  | j + 1, a1, a2, a3, a4, I, R =>
    if 3 ≤ a4 then
      if inb a1 5 = true then
      some (a3, I, (setA R 7 a1 a2))
      else none
    else
      if inb a1 5 = true then
      (fX8_areSo n I (setA R 7 a1 a4)).bind fun z7 =>
      if z7.1 = 0 then
        fX8_kinds_b52 n (fX8_kinds_b22 n j) a1 a2 a4 0 a3 z7.2.1 z7.2.2
      else
        fX8_kinds_b52 n (fX8_kinds_b22 n j) a1 a2 a4 (1 <<< (a4 &&& 31)) a3 z7.2.1 z7.2.2
      else none
set_option maxRecDepth 20000 in
set_option maxHeartbeats 1000000 in
theorem fX8_kinds_b22_w {p : Program} {l : Launch} {e : Env} {s : State} {m : MethodId} {args : Array Value} {below : List Frame} {meth : Method} {c : Code} {D : va_G} {y : ClassId} {h : Nat} {q : Nat → Nat} {n : Nat} {z : Int32 × mSt} (X : mX p s m args c cX8_kinds 5 wsX8_kinds D y) (hr : meth.sig.returnType = some .int ∧ meth.locks = false) : ∀ (j : Nat) (a1 : Int32) (a2 : Int32) (a3 : Int32) (a4 : Int32) (I : Nat → Int32) (R : Nat → Nat → Int32) (H : Heap) (locs : List Loc) (ls : Array Slot), mH s D y h q H locs I R → lv_has ls 5 [(0, .ref h), (1, .int a1), (2, .int a2), (3, .int a3), (4, .int a4)] → fX8_kinds_b22 n j a1 a2 a3 a4 I R = some z → W p l e rmX8_kinds s m args below meth c H locs 0 0 (MQ below (mQi D y h q (mS y h q s.heap.size) z) args s 0 0 (mS y h q s.heap.size)) (F0 m 22 ls []) := by
  have hx := X.1.1
  have hb := X.1.2.1
  intro j
  induction j with
  | zero =>
    intro a1 a2 a3 a4 I R H locs ls w hl e0
    cases e0
  | succ j ih =>
    intro a1 a2 a3 a4 I R H locs ls w hl e0
    rw [fX8_kinds_b22] at e0
    refine lv_iload hx hb dX8_kinds_22 (lv_at hl 4 rfl) ?_
    refine lv_iconst (v := 3) hx hb dX8_kinds_24 (by decide) ?_
    refine lv_icmp_ge (tgt := 60) hx hb dX8_kinds_25 (by decide) (fun c10 => ?_) (fun c10 => ?_)
    · have e0 := itp _ c10 e0
      refine lv_aload_n hx hb dX8_kinds_60 rfl (lv_at hl 0 rfl) ?_
      refine m_get X w 7 (by decide) (index := 19) rfl (by decide +kernel) (mfr7 _ _) dX8_kinds_61 ?_
      refine lv_iload_n hx hb dX8_kinds_64 rfl (lv_at hl 1 rfl) ?_
      refine lv_iload_n hx hb dX8_kinds_65 rfl (lv_at hl 2 rfl) ?_
      refine gd e0 (fun g5 e0 => ?_)
      refine m_ast X w 4 7 (mat7 _ _ _ _ _) (mset7 _ _ _ _ _) g5 dX8_kinds_66 (fun H locs w => ?_)
      refine lv_iload_n hx hb dX8_kinds_67 rfl (lv_at hl 3 rfl) ?_
      have e0 := Option.some.inj e0
      subst e0
      exact m_iret X w hr dX8_kinds_68
    · have e0 := itn _ c10 e0
      refine lv_aload_n hx hb dX8_kinds_28 rfl (lv_at hl 0 rfl) ?_
      refine m_get X w 7 (by decide) (index := 19) rfl (by decide +kernel) (mfr7 _ _) dX8_kinds_29 ?_
      refine lv_iload_n hx hb dX8_kinds_32 rfl (lv_at hl 1 rfl) ?_
      refine lv_iload hx hb dX8_kinds_33 (lv_at hl 4 rfl) ?_
      refine gd e0 (fun g6 e0 => ?_)
      refine m_ast X w 4 7 (mat7 _ _ _ _ _) (mset7 _ _ _ _ _) g6 dX8_kinds_35 (fun H locs w => ?_)
      refine lv_iload_n hx hb dX8_kinds_36 rfl (lv_at hl 3 rfl) ?_
      refine lv_aload_n hx hb dX8_kinds_37 rfl (lv_at hl 0 rfl) ?_
      refine bd e0 (fun z7 e8 e0 => ?_)
      refine m_calli X w (n := 0) (As := []) (rest := [.int a3]) (fX8_areSo_met l _ _ _ _ _ _  _ _ _ e8) gX8_kinds_X8_areSo rfl rfl rfl (by decide +kernel) ⟨Nat.le_of_ble_eq_true rfl, Nat.le_of_ble_eq_true rfl⟩ rfl hl.1 rfl (Nat.le_of_ble_eq_true rfl) dX8_kinds_38 (fun H locs w => ?_)
      refine lv_if_eq (tgt := 51) hx hb dX8_kinds_41 (by decide) (fun c9 => ?_) (fun c9 => ?_)
      · have e0 := itp _ c9 e0
        refine lv_iconst (v := 0) hx hb dX8_kinds_51 (by decide) ?_
        exact fX8_kinds_b52_w (l := l) X hr ih w (lv_sub hl [0, 1, 2, 4] rfl) e0
      · have e0 := itn _ c9 e0
        refine lv_iconst (v := 1) hx hb dX8_kinds_44 (by decide) ?_
        refine lv_iload hx hb dX8_kinds_45 (lv_at hl 4 rfl) ?_
        refine lv_ishl hx hb dX8_kinds_47 ?_
        refine lv_goto (tgt := 52) hx hb dX8_kinds_48 (by decide) ?_
        exact fX8_kinds_b52_w (l := l) X hr ih w (lv_sub hl [0, 1, 2, 4] rfl) e0
def fX8_kinds (n : Nat) (a1 : Int32) (I : Nat → Int32) (R : Nat → Nat → Int32) : Option (Int32 × mSt) :=
  (fX8_isRule n a1 I R).bind fun z1 =>
  if z1.1 = 0 then
    some ((-1), z1.2.1, z1.2.2)
  else
    if inb a1 5 = true then
    fX8_kinds_b22 n n a1 (getA z1.2.2 7 a1) 0 0 z1.2.1 z1.2.2
    else none
set_option maxRecDepth 20000 in
set_option maxHeartbeats 1000000 in
theorem fX8_kinds_w {p : Program} {l : Launch} {e : Env} {s : State} {m : MethodId} {args : Array Value} {below : List Frame} {meth : Method} {c : Code} {D : va_G} {y : ClassId} {h : Nat} {q : Nat → Nat} {n : Nat} {z : Int32 × mSt} (X : mX p s m args c cX8_kinds 5 wsX8_kinds D y) (hr : meth.sig.returnType = some .int ∧ meth.locks = false) {a1 : Int32} {I : Nat → Int32} {R : Nat → Nat → Int32} {H : Heap} {locs : List Loc} {ls : Array Slot} (w : mH s D y h q H locs I R) (hl : lv_has ls 5 [(0, .ref h), (1, .int a1)]) (e0 : fX8_kinds n a1 I R = some z) : W p l e rmX8_kinds s m args below meth c H locs 0 0 (MQ below (mQi D y h q (mS y h q s.heap.size) z) args s 0 0 (mS y h q s.heap.size)) (F0 m 0 ls []) := by
  have hx := X.1.1
  have hb := X.1.2.1
  unfold fX8_kinds at e0
  refine lv_aload_n hx hb dX8_kinds_0 rfl (lv_at hl 0 rfl) ?_
  refine lv_iload_n hx hb dX8_kinds_1 rfl (lv_at hl 1 rfl) ?_
  refine bd e0 (fun z1 e2 e0 => ?_)
  refine m_calli X w (n := 1) (As := [.int a1]) (rest := []) (fX8_isRule_met l _ _ _ _ _ _ _ _ _ _ e2) gX8_kinds_X8_isRule rfl rfl rfl (by decide +kernel) ⟨Nat.le_of_ble_eq_true rfl, Nat.le_of_ble_eq_true rfl⟩ rfl hl.1 rfl (Nat.le_of_ble_eq_true rfl) dX8_kinds_2 (fun H locs w => ?_)
  refine lv_if_ne (tgt := 10) hx hb dX8_kinds_5 (by decide) (fun c4 => ?_) (fun c4 => ?_)
  · have e0 := itn _ c4 e0
    refine lv_aload_n hx hb dX8_kinds_10 rfl (lv_at hl 0 rfl) ?_
    refine m_get X w 7 (by decide) (index := 19) rfl (by decide +kernel) (mfr7 _ _) dX8_kinds_11 ?_
    refine lv_iload_n hx hb dX8_kinds_14 rfl (lv_at hl 1 rfl) ?_
    refine gd e0 (fun g3 e0 => ?_)
    refine m_ald X w 4 7 (mat7 _ _ _ _ _) g3 dX8_kinds_15 ?_
    refine lv_istore_n (lv' := [(2, .int (getA z1.2.2 7 a1)), (0, .ref h), (1, .int a1)]) hx hb dX8_kinds_16 rfl hl (by decide) rfl (fun ls hl => ?_)
    refine lv_iconst (v := 0) hx hb dX8_kinds_17 (by decide) ?_
    refine lv_istore_n (lv' := [(3, .int 0), (2, .int (getA z1.2.2 7 a1)), (0, .ref h), (1, .int a1)]) hx hb dX8_kinds_18 rfl hl (by decide) rfl (fun ls hl => ?_)
    refine lv_iconst (v := 0) hx hb dX8_kinds_19 (by decide) ?_
    refine lv_istore (lv' := [(4, .int 0), (3, .int 0), (2, .int (getA z1.2.2 7 a1)), (0, .ref h), (1, .int a1)]) hx hb dX8_kinds_20 hl (by decide) rfl (fun ls hl => ?_)
    exact fX8_kinds_b22_w (l := l) X hr n _ _ _ _ _ _ _ _ _ w (lv_sub hl [3, 4, 2, 1, 0] rfl) e0
  · have e0 := itp _ c4 e0
    refine lv_iconst (v := (-1)) hx hb dX8_kinds_8 (by decide) ?_
    have e0 := Option.some.inj e0
    subst e0
    exact m_iret X w hr dX8_kinds_9
set_option maxRecDepth 20000 in
theorem fX8_kinds_met (l : Launch) (D : va_G) (y : ClassId) (h : Nat) (q : Nat → Nat) (sz n : Nat) (a1 : Int32) (I : Nat → Int32) (R : Nat → Nat → Int32) (z : Int32 × mSt) (e0 : fX8_kinds n a1 I R = some z) : Met l yX8_kinds wsX8_kinds rmX8_kinds (va_Pc [.ref h, .int a1] (mPre D y h q sz I R)) (mQi D y h q (mS y h q sz) z) 0 0 (mS y h q sz) := by
  refine Met.ofW (cc := cX8_kinds) (maxL := 5) (ret := some .int) (by decide) rfl ?_
  intro p e s m args below meth c s₁ B hml hv
  obtain ⟨rfl, hsz, hP, hK, hD⟩ := hv
  subst hsz
  have hl := lv_entry ([.ref h, .int a1]) (n := 5) (Nat.le_of_ble_eq_true rfl)
  rw [lg_entry_eq]
  exact fX8_kinds_w (s := s) ⟨⟨B.exec, B.bytes, hml, findClass_of_methodNamed B.named, atoms_spec (ws := wsX8_kinds) B.pre⟩, fun _ h9 => List.mem_cons_of_mem _ (List.mem_append_right _ h9), hK⟩ ⟨B.returns, B.notSynchronized⟩ ⟨hP, mS_D hD, va_S.rf⟩ hl e0
def rmX8_forms : Room := { frames := 6, cells := 0, slots := 0, locals := 136 }
def fX8_forms_b67 (n : Nat) (k34 : Int32 → Int32 → Int32 → Int32 → Int32 → (Nat → Int32) → (Nat → Nat → Int32) → Option (Int32 × mSt)) (a1 : Int32) (a2 : Int32) (a3 : Int32) (a5 : Int32) (t0 : Int32) (t1 : Int32) (I : Nat → Int32) (R : Nat → Nat → Int32) : Option (Int32 × mSt) :=
  k34 a1 a2 a3 (t1 ||| t0) (a5 + 1) I R
set_option maxRecDepth 20000 in
set_option maxHeartbeats 1000000 in
theorem fX8_forms_b67_w {p : Program} {l : Launch} {e : Env} {s : State} {m : MethodId} {args : Array Value} {below : List Frame} {meth : Method} {c : Code} {D : va_G} {y : ClassId} {h : Nat} {q : Nat → Nat} {n : Nat} {z : Int32 × mSt} (X : mX p s m args c cX8_forms 6 wsX8_forms D y) (hr : meth.sig.returnType = some .int ∧ meth.locks = false) {k34 : Int32 → Int32 → Int32 → Int32 → Int32 → (Nat → Int32) → (Nat → Nat → Int32) → Option (Int32 × mSt)} (hk34 : ∀ (a1 : Int32) (a2 : Int32) (a3 : Int32) (a4 : Int32) (a5 : Int32) (I : Nat → Int32) (R : Nat → Nat → Int32) (H : Heap) (locs : List Loc) (ls : Array Slot), mH s D y h q H locs I R → lv_has ls 6 [(0, .ref h), (1, .int a1), (2, .int a2), (3, .int a3), (4, .int a4), (5, .int a5)] → k34 a1 a2 a3 a4 a5 I R = some z → W p l e rmX8_forms s m args below meth c H locs 0 0 (MQ below (mQi D y h q (mS y h q s.heap.size) z) args s 0 0 (mS y h q s.heap.size)) (F0 m 34 ls [])) {a1 : Int32} {a2 : Int32} {a3 : Int32} {a5 : Int32} {t0 : Int32} {t1 : Int32} {I : Nat → Int32} {R : Nat → Nat → Int32} {H : Heap} {locs : List Loc} {ls : Array Slot} (w : mH s D y h q H locs I R) (hl : lv_has ls 6 [(0, .ref h), (1, .int a1), (2, .int a2), (3, .int a3), (5, .int a5)]) (e0 : fX8_forms_b67 n k34 a1 a2 a3 a5 t0 t1 I R = some z) : W p l e rmX8_forms s m args below meth c H locs 0 0 (MQ below (mQi D y h q (mS y h q s.heap.size) z) args s 0 0 (mS y h q s.heap.size)) (F0 m 67 ls [.int t0, .int t1]) := by
  have hx := X.1.1
  have hb := X.1.2.1
  unfold fX8_forms_b67 at e0
  refine lv_ior hx hb dX8_forms_67 ?_
  refine lv_istore (lv' := [(4, .int (t1 ||| t0)), (0, .ref h), (1, .int a1), (2, .int a2), (3, .int a3), (5, .int a5)]) hx hb dX8_forms_68 hl (by decide) rfl (fun ls hl => ?_)
  refine lv_iinc (v := (a5 + 1)) (lv' := [(5, .int (a5 + 1)), (4, .int (t1 ||| t0)), (0, .ref h), (1, .int a1), (2, .int a2), (3, .int a3)]) hx hb dX8_forms_70 hl (k := 5) rfl rfl (by decide) rfl (fun ls hl => ?_)
  refine lv_goto (tgt := 34) hx hb dX8_forms_73 (by decide) ?_
  exact hk34 _ _ _ _ _ _ _ _ _ _ w (lv_sub hl [2, 3, 4, 5, 1, 0] rfl) e0
def fX8_forms_b34 (n : Nat) : Nat → Int32 → Int32 → Int32 → Int32 → Int32 → (Nat → Int32) → (Nat → Nat → Int32) → Option (Int32 × mSt)
  | 0, _, _, _, _, _, _, _ => none
  | j + 1, a1, a2, a3, a4, a5, I, R =>
    if (a3 + 2) ≤ a5 then
      if inb a1 5 = true then
      some (a4, I, (setA R 9 a1 a2))
      else none
    else
      if inb a1 5 = true then
      (fX8_areSo n I (setA R 9 a1 a5)).bind fun z8 =>
      if z8.1 = 0 then
        fX8_forms_b67 n (fX8_forms_b34 n j) a1 a2 a3 a5 0 a4 z8.2.1 z8.2.2
      else
        fX8_forms_b67 n (fX8_forms_b34 n j) a1 a2 a3 a5 (1 <<< (a5 &&& 31)) a4 z8.2.1 z8.2.2
      else none
set_option maxRecDepth 20000 in
set_option maxHeartbeats 1000000 in
theorem fX8_forms_b34_w {p : Program} {l : Launch} {e : Env} {s : State} {m : MethodId} {args : Array Value} {below : List Frame} {meth : Method} {c : Code} {D : va_G} {y : ClassId} {h : Nat} {q : Nat → Nat} {n : Nat} {z : Int32 × mSt} (X : mX p s m args c cX8_forms 6 wsX8_forms D y) (hr : meth.sig.returnType = some .int ∧ meth.locks = false) : ∀ (j : Nat) (a1 : Int32) (a2 : Int32) (a3 : Int32) (a4 : Int32) (a5 : Int32) (I : Nat → Int32) (R : Nat → Nat → Int32) (H : Heap) (locs : List Loc) (ls : Array Slot), mH s D y h q H locs I R → lv_has ls 6 [(0, .ref h), (1, .int a1), (2, .int a2), (3, .int a3), (4, .int a4), (5, .int a5)] → fX8_forms_b34 n j a1 a2 a3 a4 a5 I R = some z → W p l e rmX8_forms s m args below meth c H locs 0 0 (MQ below (mQi D y h q (mS y h q s.heap.size) z) args s 0 0 (mS y h q s.heap.size)) (F0 m 34 ls []) := by
  have hx := X.1.1
  have hb := X.1.2.1
  intro j
  induction j with
  | zero =>
    intro a1 a2 a3 a4 a5 I R H locs ls w hl e0
    cases e0
  | succ j ih =>
    intro a1 a2 a3 a4 a5 I R H locs ls w hl e0
    rw [fX8_forms_b34] at e0
    refine lv_iload hx hb dX8_forms_34 (lv_at hl 5 rfl) ?_
    refine lv_iload_n hx hb dX8_forms_36 rfl (lv_at hl 3 rfl) ?_
    refine lv_iconst (v := 2) hx hb dX8_forms_37 (by decide) ?_
    refine lv_iadd hx hb dX8_forms_38 ?_
    refine lv_icmp_ge (tgt := 76) hx hb dX8_forms_39 (by decide) (fun c11 => ?_) (fun c11 => ?_)
    · have e0 := itp _ c11 e0
      refine lv_aload_n hx hb dX8_forms_76 rfl (lv_at hl 0 rfl) ?_
      refine m_get X w 9 (by decide) (index := 25) rfl (by decide +kernel) (mfr9 _ _) dX8_forms_77 ?_
      refine lv_iload_n hx hb dX8_forms_80 rfl (lv_at hl 1 rfl) ?_
      refine lv_iload_n hx hb dX8_forms_81 rfl (lv_at hl 2 rfl) ?_
      refine gd e0 (fun g6 e0 => ?_)
      refine m_ast X w 6 9 (mat9 _ _ _ _ _) (mset9 _ _ _ _ _) g6 dX8_forms_82 (fun H locs w => ?_)
      refine lv_iload hx hb dX8_forms_83 (lv_at hl 4 rfl) ?_
      have e0 := Option.some.inj e0
      subst e0
      exact m_iret X w hr dX8_forms_85
    · have e0 := itn _ c11 e0
      refine lv_aload_n hx hb dX8_forms_42 rfl (lv_at hl 0 rfl) ?_
      refine m_get X w 9 (by decide) (index := 25) rfl (by decide +kernel) (mfr9 _ _) dX8_forms_43 ?_
      refine lv_iload_n hx hb dX8_forms_46 rfl (lv_at hl 1 rfl) ?_
      refine lv_iload hx hb dX8_forms_47 (lv_at hl 5 rfl) ?_
      refine gd e0 (fun g7 e0 => ?_)
      refine m_ast X w 6 9 (mat9 _ _ _ _ _) (mset9 _ _ _ _ _) g7 dX8_forms_49 (fun H locs w => ?_)
      refine lv_iload hx hb dX8_forms_50 (lv_at hl 4 rfl) ?_
      refine lv_aload_n hx hb dX8_forms_52 rfl (lv_at hl 0 rfl) ?_
      refine bd e0 (fun z8 e9 e0 => ?_)
      refine m_calli X w (n := 0) (As := []) (rest := [.int a4]) (fX8_areSo_met l _ _ _ _ _ _  _ _ _ e9) gX8_forms_X8_areSo rfl rfl rfl (by decide +kernel) ⟨Nat.le_of_ble_eq_true rfl, Nat.le_of_ble_eq_true rfl⟩ rfl hl.1 rfl (Nat.le_of_ble_eq_true rfl) dX8_forms_53 (fun H locs w => ?_)
      refine lv_if_eq (tgt := 66) hx hb dX8_forms_56 (by decide) (fun c10 => ?_) (fun c10 => ?_)
      · have e0 := itp _ c10 e0
        refine lv_iconst (v := 0) hx hb dX8_forms_66 (by decide) ?_
        exact fX8_forms_b67_w (l := l) X hr ih w (lv_sub hl [0, 1, 2, 3, 5] rfl) e0
      · have e0 := itn _ c10 e0
        refine lv_iconst (v := 1) hx hb dX8_forms_59 (by decide) ?_
        refine lv_iload hx hb dX8_forms_60 (lv_at hl 5 rfl) ?_
        refine lv_ishl hx hb dX8_forms_62 ?_
        refine lv_goto (tgt := 67) hx hb dX8_forms_63 (by decide) ?_
        exact fX8_forms_b67_w (l := l) X hr ih w (lv_sub hl [0, 1, 2, 3, 5] rfl) e0
def fX8_forms_b27 (n : Nat) (a1 : Int32) (a2 : Int32) (t0 : Int32) (I : Nat → Int32) (R : Nat → Nat → Int32) : Option (Int32 × mSt) :=
  fX8_forms_b34 n n a1 a2 t0 0 t0 I R
set_option maxRecDepth 20000 in
set_option maxHeartbeats 1000000 in
theorem fX8_forms_b27_w {p : Program} {l : Launch} {e : Env} {s : State} {m : MethodId} {args : Array Value} {below : List Frame} {meth : Method} {c : Code} {D : va_G} {y : ClassId} {h : Nat} {q : Nat → Nat} {n : Nat} {z : Int32 × mSt} (X : mX p s m args c cX8_forms 6 wsX8_forms D y) (hr : meth.sig.returnType = some .int ∧ meth.locks = false) {a1 : Int32} {a2 : Int32} {t0 : Int32} {I : Nat → Int32} {R : Nat → Nat → Int32} {H : Heap} {locs : List Loc} {ls : Array Slot} (w : mH s D y h q H locs I R) (hl : lv_has ls 6 [(0, .ref h), (1, .int a1), (2, .int a2)]) (e0 : fX8_forms_b27 n a1 a2 t0 I R = some z) : W p l e rmX8_forms s m args below meth c H locs 0 0 (MQ below (mQi D y h q (mS y h q s.heap.size) z) args s 0 0 (mS y h q s.heap.size)) (F0 m 27 ls [.int t0]) := by
  have hx := X.1.1
  have hb := X.1.2.1
  unfold fX8_forms_b27 at e0
  refine lv_istore_n (lv' := [(3, .int t0), (0, .ref h), (1, .int a1), (2, .int a2)]) hx hb dX8_forms_27 rfl hl (by decide) rfl (fun ls hl => ?_)
  refine lv_iconst (v := 0) hx hb dX8_forms_28 (by decide) ?_
  refine lv_istore (lv' := [(4, .int 0), (3, .int t0), (0, .ref h), (1, .int a1), (2, .int a2)]) hx hb dX8_forms_29 hl (by decide) rfl (fun ls hl => ?_)
  refine lv_iload_n hx hb dX8_forms_31 rfl (lv_at hl 1 rfl) ?_
  refine lv_istore (lv' := [(5, .int t0), (4, .int 0), (3, .int t0), (0, .ref h), (1, .int a1), (2, .int a2)]) hx hb dX8_forms_32 hl (by decide) rfl (fun ls hl => ?_)
  exact fX8_forms_b34_w (l := l) X hr n _ _ _ _ _ _ _ _ _ _ w (lv_sub hl [3, 4, 5, 2, 1, 0] rfl) e0
def fX8_forms (n : Nat) (a1 : Int32) (I : Nat → Int32) (R : Nat → Nat → Int32) : Option (Int32 × mSt) :=
  (fX8_isRule n a1 I R).bind fun z1 =>
  if z1.1 = 0 then
    some ((-1), z1.2.1, z1.2.2)
  else
    if inb a1 5 = true then
    if 2 ≤ (getA z1.2.2 9 a1) then
      fX8_forms_b27 n a1 (getA z1.2.2 9 a1) 2 z1.2.1 z1.2.2
    else
      fX8_forms_b27 n a1 (getA z1.2.2 9 a1) 0 z1.2.1 z1.2.2
    else none
set_option maxRecDepth 20000 in
set_option maxHeartbeats 1000000 in
theorem fX8_forms_w {p : Program} {l : Launch} {e : Env} {s : State} {m : MethodId} {args : Array Value} {below : List Frame} {meth : Method} {c : Code} {D : va_G} {y : ClassId} {h : Nat} {q : Nat → Nat} {n : Nat} {z : Int32 × mSt} (X : mX p s m args c cX8_forms 6 wsX8_forms D y) (hr : meth.sig.returnType = some .int ∧ meth.locks = false) {a1 : Int32} {I : Nat → Int32} {R : Nat → Nat → Int32} {H : Heap} {locs : List Loc} {ls : Array Slot} (w : mH s D y h q H locs I R) (hl : lv_has ls 6 [(0, .ref h), (1, .int a1)]) (e0 : fX8_forms n a1 I R = some z) : W p l e rmX8_forms s m args below meth c H locs 0 0 (MQ below (mQi D y h q (mS y h q s.heap.size) z) args s 0 0 (mS y h q s.heap.size)) (F0 m 0 ls []) := by
  have hx := X.1.1
  have hb := X.1.2.1
  unfold fX8_forms at e0
  refine lv_aload_n hx hb dX8_forms_0 rfl (lv_at hl 0 rfl) ?_
  refine lv_iload_n hx hb dX8_forms_1 rfl (lv_at hl 1 rfl) ?_
  refine bd e0 (fun z1 e2 e0 => ?_)
  refine m_calli X w (n := 1) (As := [.int a1]) (rest := []) (fX8_isRule_met l _ _ _ _ _ _ _ _ _ _ e2) gX8_forms_X8_isRule rfl rfl rfl (by decide +kernel) ⟨Nat.le_of_ble_eq_true rfl, Nat.le_of_ble_eq_true rfl⟩ rfl hl.1 rfl (Nat.le_of_ble_eq_true rfl) dX8_forms_2 (fun H locs w => ?_)
  refine lv_if_ne (tgt := 10) hx hb dX8_forms_5 (by decide) (fun c5 => ?_) (fun c5 => ?_)
  · have e0 := itn _ c5 e0
    refine lv_aload_n hx hb dX8_forms_10 rfl (lv_at hl 0 rfl) ?_
    refine m_get X w 9 (by decide) (index := 25) rfl (by decide +kernel) (mfr9 _ _) dX8_forms_11 ?_
    refine lv_iload_n hx hb dX8_forms_14 rfl (lv_at hl 1 rfl) ?_
    refine gd e0 (fun g3 e0 => ?_)
    refine m_ald X w 6 9 (mat9 _ _ _ _ _) g3 dX8_forms_15 ?_
    refine lv_istore_n (lv' := [(2, .int (getA z1.2.2 9 a1)), (0, .ref h), (1, .int a1)]) hx hb dX8_forms_16 rfl hl (by decide) rfl (fun ls hl => ?_)
    refine lv_iload_n hx hb dX8_forms_17 rfl (lv_at hl 0 rfl) ?_
    refine lv_iconst (v := 2) hx hb dX8_forms_18 (by decide) ?_
    refine lv_icmp_ge (tgt := 26) hx hb dX8_forms_19 (by decide) (fun c4 => ?_) (fun c4 => ?_)
    · have e0 := itp _ c4 e0
      refine lv_iconst (v := 2) hx hb dX8_forms_26 (by decide) ?_
      exact fX8_forms_b27_w (l := l) X hr w (lv_sub hl [1, 2, 0] rfl) e0
    · have e0 := itn _ c4 e0
      refine lv_iconst (v := 0) hx hb dX8_forms_22 (by decide) ?_
      refine lv_goto (tgt := 27) hx hb dX8_forms_23 (by decide) ?_
      exact fX8_forms_b27_w (l := l) X hr w (lv_sub hl [1, 2, 0] rfl) e0
  · have e0 := itp _ c5 e0
    refine lv_iconst (v := (-1)) hx hb dX8_forms_8 (by decide) ?_
    have e0 := Option.some.inj e0
    subst e0
    exact m_iret X w hr dX8_forms_9
set_option maxRecDepth 20000 in
theorem fX8_forms_met (l : Launch) (D : va_G) (y : ClassId) (h : Nat) (q : Nat → Nat) (sz n : Nat) (a1 : Int32) (I : Nat → Int32) (R : Nat → Nat → Int32) (z : Int32 × mSt) (e0 : fX8_forms n a1 I R = some z) : Met l yX8_forms wsX8_forms rmX8_forms (va_Pc [.ref h, .int a1] (mPre D y h q sz I R)) (mQi D y h q (mS y h q sz) z) 0 0 (mS y h q sz) := by
  refine Met.ofW (cc := cX8_forms) (maxL := 6) (ret := some .int) (by decide) rfl ?_
  intro p e s m args below meth c s₁ B hml hv
  obtain ⟨rfl, hsz, hP, hK, hD⟩ := hv
  subst hsz
  have hl := lv_entry ([.ref h, .int a1]) (n := 6) (Nat.le_of_ble_eq_true rfl)
  rw [lg_entry_eq]
  exact fX8_forms_w (s := s) ⟨⟨B.exec, B.bytes, hml, findClass_of_methodNamed B.named, atoms_spec (ws := wsX8_forms) B.pre⟩, fun _ h9 => List.mem_cons_of_mem _ (List.mem_append_right _ h9), hK⟩ ⟨B.returns, B.notSynchronized⟩ ⟨hP, mS_D hD, va_S.rf⟩ hl e0
def rmX8_inLeastTerms : Room := { frames := 0, cells := 0, slots := 0, locals := 0 }
def fX8_inLeastTerms_b6 (n : Nat) : Nat → Int64 → Int64 → Int32 → Int64 → Int64 → Option (Int64)
  | 0, _, _, _, _, _ => none
  | j + 1, a0, a2, a4, a5, a7 =>
    if (lg_cmp a7 0) = 0 then
      if a4 = 0 then
        if (!(decide (a5 = 0))) = true then
        some (a0 / a5)
        else none
      else
        if (!(decide (a5 = 0))) = true then
        some (a2 / a5)
        else none
    else
      if (!(decide (a7 = 0))) = true then
      fX8_inLeastTerms_b6 n j a0 a2 a4 a7 (a5 - a5 / a7 * a7)
      else none
set_option maxRecDepth 20000 in
set_option maxHeartbeats 1000000 in
theorem fX8_inLeastTerms_b6_w {p : Program} {l : Launch} {e : Env} {s : State} {m : MethodId} {args : Array Value} {below : List Frame} {meth : Method} {c : Code} {n : Nat} {z : Int64} (X : sX p s m args c cX8_inLeastTerms 11 wsX8_inLeastTerms) (hr : meth.sig.returnType = some .long ∧ meth.locks = false) : ∀ (j : Nat) (a0 : Int64) (a2 : Int64) (a4 : Int32) (a5 : Int64) (a7 : Int64) (H : Heap) (locs : List Loc) (ls : Array Slot), sH s H locs → lv_has ls 11 [(0, .long a0), (2, .long a2), (4, .int a4), (5, .long a5), (7, .long a7)] → fX8_inLeastTerms_b6 n j a0 a2 a4 a5 a7 = some z → W p l e rmX8_inLeastTerms s m args below meth c H locs 0 0 (MQ below (sQl z) args s 0 0 (fun _ => False)) (F0 m 6 ls []) := by
  have hx := X.1
  have hb := X.2.1
  intro j
  induction j with
  | zero =>
    intro a0 a2 a4 a5 a7 H locs ls w hl e0
    cases e0
  | succ j ih =>
    intro a0 a2 a4 a5 a7 H locs ls w hl e0
    rw [fX8_inLeastTerms_b6] at e0
    refine lv_lload hx hb dX8_inLeastTerms_6 (lv_at hl 4 rfl) ?_
    refine lv_lconst (v := 0) hx hb dX8_inLeastTerms_8 (by decide) ?_
    refine W.lcmp hx hb dX8_inLeastTerms_9 ?_
    refine lv_if_eq (tgt := 31) hx hb dX8_inLeastTerms_10 (by decide) (fun c5 => ?_) (fun c5 => ?_)
    · have e0 := itp _ c5 e0
      refine lv_iload hx hb dX8_inLeastTerms_31 (lv_at hl 2 rfl) ?_
      refine lv_if_ne (tgt := 43) hx hb dX8_inLeastTerms_33 (by decide) (fun c3 => ?_) (fun c3 => ?_)
      · have e0 := itn _ c3 e0
        refine lv_lload_n hx hb dX8_inLeastTerms_43 rfl (lv_at hl 1 rfl) ?_
        refine lv_lload hx hb dX8_inLeastTerms_44 (lv_at hl 3 rfl) ?_
        refine gd e0 (fun g1 e0 => ?_)
        refine lv_ldiv hx hb dX8_inLeastTerms_46 (nz g1) ?_
        have e0 := Option.some.inj e0
        subst e0
        exact s_lret X w hr dX8_inLeastTerms_47
      · have e0 := itp _ c3 e0
        refine lv_lload_n hx hb dX8_inLeastTerms_36 rfl (lv_at hl 0 rfl) ?_
        refine lv_lload hx hb dX8_inLeastTerms_37 (lv_at hl 3 rfl) ?_
        refine gd e0 (fun g2 e0 => ?_)
        refine lv_ldiv hx hb dX8_inLeastTerms_39 (nz g2) ?_
        refine lv_goto (tgt := 47) hx hb dX8_inLeastTerms_40 (by decide) ?_
        have e0 := Option.some.inj e0
        subst e0
        exact s_lret X w hr dX8_inLeastTerms_47
    · have e0 := itn _ c5 e0
      refine lv_lload hx hb dX8_inLeastTerms_13 (lv_at hl 3 rfl) ?_
      refine lv_lload hx hb dX8_inLeastTerms_15 (lv_at hl 4 rfl) ?_
      refine gd e0 (fun g4 e0 => ?_)
      refine lv_lrem hx hb dX8_inLeastTerms_17 (nz g4) ?_
      refine lv_lstore (lv' := [(9, .long (a5 - a5 / a7 * a7)), (0, .long a0), (2, .long a2), (4, .int a4), (5, .long a5), (7, .long a7)]) hx hb dX8_inLeastTerms_18 hl (by decide) rfl (fun ls hl => ?_)
      refine lv_lload hx hb dX8_inLeastTerms_20 (lv_at hl 5 rfl) ?_
      refine lv_lstore (lv' := [(5, .long a7), (9, .long (a5 - a5 / a7 * a7)), (0, .long a0), (2, .long a2), (4, .int a4), (7, .long a7)]) hx hb dX8_inLeastTerms_22 hl (by decide) rfl (fun ls hl => ?_)
      refine lv_lload hx hb dX8_inLeastTerms_24 (lv_at hl 1 rfl) ?_
      refine lv_lstore (lv' := [(7, .long (a5 - a5 / a7 * a7)), (5, .long a7), (9, .long (a5 - a5 / a7 * a7)), (0, .long a0), (2, .long a2), (4, .int a4)]) hx hb dX8_inLeastTerms_26 hl (by decide) rfl (fun ls hl => ?_)
      refine lv_goto (tgt := 6) hx hb dX8_inLeastTerms_28 (by decide) ?_
      exact ih _ _ _ _ _ _ _ _ w (lv_sub hl [3, 4, 5, 1, 0] rfl) e0
def fX8_inLeastTerms (n : Nat) (a0 : Int64) (a2 : Int64) (a4 : Int32) : Option (Int64) :=
  fX8_inLeastTerms_b6 n n a0 a2 a4 a0 a2
set_option maxRecDepth 20000 in
set_option maxHeartbeats 1000000 in
theorem fX8_inLeastTerms_w {p : Program} {l : Launch} {e : Env} {s : State} {m : MethodId} {args : Array Value} {below : List Frame} {meth : Method} {c : Code} {n : Nat} {z : Int64} (X : sX p s m args c cX8_inLeastTerms 11 wsX8_inLeastTerms) (hr : meth.sig.returnType = some .long ∧ meth.locks = false) {a0 : Int64} {a2 : Int64} {a4 : Int32} {H : Heap} {locs : List Loc} {ls : Array Slot} (w : sH s H locs) (hl : lv_has ls 11 [(0, .long a0), (2, .long a2), (4, .int a4)]) (e0 : fX8_inLeastTerms n a0 a2 a4 = some z) : W p l e rmX8_inLeastTerms s m args below meth c H locs 0 0 (MQ below (sQl z) args s 0 0 (fun _ => False)) (F0 m 0 ls []) := by
  have hx := X.1
  have hb := X.2.1
  unfold fX8_inLeastTerms at e0
  refine lv_lload_n hx hb dX8_inLeastTerms_0 rfl (lv_at hl 0 rfl) ?_
  refine lv_lstore (lv' := [(5, .long a0), (0, .long a0), (2, .long a2), (4, .int a4)]) hx hb dX8_inLeastTerms_1 hl (by decide) rfl (fun ls hl => ?_)
  refine lv_lload_n hx hb dX8_inLeastTerms_3 rfl (lv_at hl 2 rfl) ?_
  refine lv_lstore (lv' := [(7, .long a2), (5, .long a0), (0, .long a0), (2, .long a2), (4, .int a4)]) hx hb dX8_inLeastTerms_4 hl (by decide) rfl (fun ls hl => ?_)
  exact fX8_inLeastTerms_b6_w (l := l) X hr n _ _ _ _ _ _ _ _ w (lv_sub hl [2, 3, 4, 1, 0] rfl) e0
set_option maxRecDepth 20000 in
theorem fX8_inLeastTerms_met (l : Launch) (n : Nat) (a0 : Int64) (a2 : Int64) (a4 : Int32) (z : Int64) (e0 : fX8_inLeastTerms n a0 a2 a4 = some z) : Met l yX8_inLeastTerms wsX8_inLeastTerms rmX8_inLeastTerms (va_Pc [.long a0, .long a2, .int a4] (fun _ => True)) (sQl z) 0 0 (fun _ => False) := by
  refine Met.ofW (cc := cX8_inLeastTerms) (maxL := 11) (ret := some .long) (by decide) rfl ?_
  intro p e s m args below meth c s₁ B hml hv
  obtain ⟨rfl, -⟩ := hv
  have hl := lv_entry ([.long a0, .long a2, .int a4]) (n := 11) (Nat.le_of_ble_eq_true rfl)
  rw [lg_entry_eq]
  exact fX8_inLeastTerms_w (s := s) ⟨B.exec, B.bytes, hml, findClass_of_methodNamed B.named, atoms_spec (ws := wsX8_inLeastTerms) B.pre⟩ ⟨B.returns, B.notSynchronized⟩ va_S.rf hl e0
