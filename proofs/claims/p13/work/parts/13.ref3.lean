def rmX8_getsCheaper : Room := { frames := 2, cells := 0, slots := 0, locals := 48 }
def fX8_getsCheaper_b100 (n : Nat) (k16 : Int32 → Int32 → Int32 → Int32 → Int32 → (Nat → Int32) → (Nat → Nat → Int32) → Option (Int32 × mSt)) (k28 : Int32 → Int32 → Int32 → Int32 → Int32 → Int32 → (Nat → Int32) → (Nat → Nat → Int32) → Option (Int32 × mSt)) (a1 : Int32) (a2 : Int32) (a3 : Int32) (a4 : Int32) (a5 : Int32) (a6 : Int32) (I : Nat → Int32) (R : Nat → Nat → Int32) : Option (Int32 × mSt) :=
  k28 a1 a2 a3 a4 a5 (a6 + 1) I R
set_option maxRecDepth 20000 in
set_option maxHeartbeats 1000000 in
theorem fX8_getsCheaper_b100_w {p : Program} {l : Launch} {e : Env} {s : State} {m : MethodId} {args : Array Value} {below : List Frame} {meth : Method} {c : Code} {D : va_G} {y : ClassId} {h : Nat} {q : Nat → Nat} {n : Nat} {z : Int32 × mSt} (X : mX p s m args c cX8_getsCheaper 8 wsX8_getsCheaper D y) (hr : meth.sig.returnType = some .boolean ∧ meth.locks = false) {k16 : Int32 → Int32 → Int32 → Int32 → Int32 → (Nat → Int32) → (Nat → Nat → Int32) → Option (Int32 × mSt)} (hk16 : ∀ (a1 : Int32) (a2 : Int32) (a3 : Int32) (a4 : Int32) (a5 : Int32) (I : Nat → Int32) (R : Nat → Nat → Int32) (H : Heap) (locs : List Loc) (ls : Array Slot), mH s D y h q H locs I R → lv_has ls 8 [(0, .ref h), (1, .int a1), (2, .int a2), (3, .int a3), (4, .int a4), (5, .int a5)] → k16 a1 a2 a3 a4 a5 I R = some z → W p l e rmX8_getsCheaper s m args below meth c H locs 0 0 (MQ below (mQi D y h q (mS y h q s.heap.size) z) args s 0 0 (mS y h q s.heap.size)) (F0 m 16 ls [])) {k28 : Int32 → Int32 → Int32 → Int32 → Int32 → Int32 → (Nat → Int32) → (Nat → Nat → Int32) → Option (Int32 × mSt)} (hk28 : ∀ (a1 : Int32) (a2 : Int32) (a3 : Int32) (a4 : Int32) (a5 : Int32) (a6 : Int32) (I : Nat → Int32) (R : Nat → Nat → Int32) (H : Heap) (locs : List Loc) (ls : Array Slot), mH s D y h q H locs I R → lv_has ls 8 [(0, .ref h), (1, .int a1), (2, .int a2), (3, .int a3), (4, .int a4), (5, .int a5), (6, .int a6)] → k28 a1 a2 a3 a4 a5 a6 I R = some z → W p l e rmX8_getsCheaper s m args below meth c H locs 0 0 (MQ below (mQi D y h q (mS y h q s.heap.size) z) args s 0 0 (mS y h q s.heap.size)) (F0 m 28 ls [])) {a1 : Int32} {a2 : Int32} {a3 : Int32} {a4 : Int32} {a5 : Int32} {a6 : Int32} {I : Nat → Int32} {R : Nat → Nat → Int32} {H : Heap} {locs : List Loc} {ls : Array Slot} (w : mH s D y h q H locs I R) (hl : lv_has ls 8 [(0, .ref h), (1, .int a1), (2, .int a2), (3, .int a3), (4, .int a4), (5, .int a5), (6, .int a6)]) (e0 : fX8_getsCheaper_b100 n k16 k28 a1 a2 a3 a4 a5 a6 I R = some z) : W p l e rmX8_getsCheaper s m args below meth c H locs 0 0 (MQ below (mQi D y h q (mS y h q s.heap.size) z) args s 0 0 (mS y h q s.heap.size)) (F0 m 100 ls []) := by
  have hx := X.1.1
  have hb := X.1.2.1
  unfold fX8_getsCheaper_b100 at e0
  refine lv_iinc (v := (a6 + 1)) (lv' := [(6, .int (a6 + 1)), (0, .ref h), (1, .int a1), (2, .int a2), (3, .int a3), (4, .int a4), (5, .int a5)]) hx hb dX8_getsCheaper_100 hl (k := 6) rfl rfl (by decide) rfl (fun ls hl => ?_)
  refine lv_goto (tgt := 28) hx hb dX8_getsCheaper_103 (by decide) ?_
  exact hk28 _ _ _ _ _ _ _ _ _ _ _ w (lv_sub hl [1, 2, 3, 4, 5, 6, 0] rfl) e0
def fX8_getsCheaper_b89 (n : Nat) (k16 : Int32 → Int32 → Int32 → Int32 → Int32 → (Nat → Int32) → (Nat → Nat → Int32) → Option (Int32 × mSt)) (k28 : Int32 → Int32 → Int32 → Int32 → Int32 → Int32 → (Nat → Int32) → (Nat → Nat → Int32) → Option (Int32 × mSt)) (a1 : Int32) (a2 : Int32) (a3 : Int32) (a5 : Int32) (a6 : Int32) (a7 : Int32) (I : Nat → Int32) (R : Nat → Nat → Int32) : Option (Int32 × mSt) :=
  if inb a1 64 = true then
  fX8_getsCheaper_b100 n k16 k28 a1 a2 a3 1 a5 a6 I (setA R 26 a1 a7)
  else none
set_option maxRecDepth 20000 in
set_option maxHeartbeats 1000000 in
theorem fX8_getsCheaper_b89_w {p : Program} {l : Launch} {e : Env} {s : State} {m : MethodId} {args : Array Value} {below : List Frame} {meth : Method} {c : Code} {D : va_G} {y : ClassId} {h : Nat} {q : Nat → Nat} {n : Nat} {z : Int32 × mSt} (X : mX p s m args c cX8_getsCheaper 8 wsX8_getsCheaper D y) (hr : meth.sig.returnType = some .boolean ∧ meth.locks = false) {k16 : Int32 → Int32 → Int32 → Int32 → Int32 → (Nat → Int32) → (Nat → Nat → Int32) → Option (Int32 × mSt)} (hk16 : ∀ (a1 : Int32) (a2 : Int32) (a3 : Int32) (a4 : Int32) (a5 : Int32) (I : Nat → Int32) (R : Nat → Nat → Int32) (H : Heap) (locs : List Loc) (ls : Array Slot), mH s D y h q H locs I R → lv_has ls 8 [(0, .ref h), (1, .int a1), (2, .int a2), (3, .int a3), (4, .int a4), (5, .int a5)] → k16 a1 a2 a3 a4 a5 I R = some z → W p l e rmX8_getsCheaper s m args below meth c H locs 0 0 (MQ below (mQi D y h q (mS y h q s.heap.size) z) args s 0 0 (mS y h q s.heap.size)) (F0 m 16 ls [])) {k28 : Int32 → Int32 → Int32 → Int32 → Int32 → Int32 → (Nat → Int32) → (Nat → Nat → Int32) → Option (Int32 × mSt)} (hk28 : ∀ (a1 : Int32) (a2 : Int32) (a3 : Int32) (a4 : Int32) (a5 : Int32) (a6 : Int32) (I : Nat → Int32) (R : Nat → Nat → Int32) (H : Heap) (locs : List Loc) (ls : Array Slot), mH s D y h q H locs I R → lv_has ls 8 [(0, .ref h), (1, .int a1), (2, .int a2), (3, .int a3), (4, .int a4), (5, .int a5), (6, .int a6)] → k28 a1 a2 a3 a4 a5 a6 I R = some z → W p l e rmX8_getsCheaper s m args below meth c H locs 0 0 (MQ below (mQi D y h q (mS y h q s.heap.size) z) args s 0 0 (mS y h q s.heap.size)) (F0 m 28 ls [])) {a1 : Int32} {a2 : Int32} {a3 : Int32} {a5 : Int32} {a6 : Int32} {a7 : Int32} {I : Nat → Int32} {R : Nat → Nat → Int32} {H : Heap} {locs : List Loc} {ls : Array Slot} (w : mH s D y h q H locs I R) (hl : lv_has ls 8 [(0, .ref h), (1, .int a1), (2, .int a2), (3, .int a3), (5, .int a5), (6, .int a6), (7, .int a7)]) (e0 : fX8_getsCheaper_b89 n k16 k28 a1 a2 a3 a5 a6 a7 I R = some z) : W p l e rmX8_getsCheaper s m args below meth c H locs 0 0 (MQ below (mQi D y h q (mS y h q s.heap.size) z) args s 0 0 (mS y h q s.heap.size)) (F0 m 89 ls []) := by
  have hx := X.1.1
  have hb := X.1.2.1
  unfold fX8_getsCheaper_b89 at e0
  refine lv_aload_n hx hb dX8_getsCheaper_89 rfl (lv_at hl 0 rfl) ?_
  refine m_get X w 26 (by decide) (index := 61) rfl (by decide +kernel) (mfr26 _ _) dX8_getsCheaper_90 ?_
  refine lv_iload_n hx hb dX8_getsCheaper_93 rfl (lv_at hl 1 rfl) ?_
  refine lv_iload hx hb dX8_getsCheaper_94 (lv_at hl 6 rfl) ?_
  refine gd e0 (fun g13 e0 => ?_)
  refine m_ast X w 18 26 (mat26 _ _ _ _ _) (mset26 _ _ _ _ _) g13 dX8_getsCheaper_96 (fun H locs w => ?_)
  refine lv_iconst (v := 1) hx hb dX8_getsCheaper_97 (by decide) ?_
  refine lv_istore (lv' := [(4, .int 1), (0, .ref h), (1, .int a1), (2, .int a2), (3, .int a3), (5, .int a5), (6, .int a6), (7, .int a7)]) hx hb dX8_getsCheaper_98 hl (by decide) rfl (fun ls hl => ?_)
  exact fX8_getsCheaper_b100_w (l := l) X hr hk16 hk28 w (lv_sub hl [1, 2, 3, 4, 0, 5, 6] rfl) e0
def fX8_getsCheaper_b106 (n : Nat) (k16 : Int32 → Int32 → Int32 → Int32 → Int32 → (Nat → Int32) → (Nat → Nat → Int32) → Option (Int32 × mSt)) (a1 : Int32) (a2 : Int32) (a3 : Int32) (a4 : Int32) (a5 : Int32) (I : Nat → Int32) (R : Nat → Nat → Int32) : Option (Int32 × mSt) :=
  k16 a1 a2 a3 a4 (a5 + 1) I R
set_option maxRecDepth 20000 in
set_option maxHeartbeats 1000000 in
theorem fX8_getsCheaper_b106_w {p : Program} {l : Launch} {e : Env} {s : State} {m : MethodId} {args : Array Value} {below : List Frame} {meth : Method} {c : Code} {D : va_G} {y : ClassId} {h : Nat} {q : Nat → Nat} {n : Nat} {z : Int32 × mSt} (X : mX p s m args c cX8_getsCheaper 8 wsX8_getsCheaper D y) (hr : meth.sig.returnType = some .boolean ∧ meth.locks = false) {k16 : Int32 → Int32 → Int32 → Int32 → Int32 → (Nat → Int32) → (Nat → Nat → Int32) → Option (Int32 × mSt)} (hk16 : ∀ (a1 : Int32) (a2 : Int32) (a3 : Int32) (a4 : Int32) (a5 : Int32) (I : Nat → Int32) (R : Nat → Nat → Int32) (H : Heap) (locs : List Loc) (ls : Array Slot), mH s D y h q H locs I R → lv_has ls 8 [(0, .ref h), (1, .int a1), (2, .int a2), (3, .int a3), (4, .int a4), (5, .int a5)] → k16 a1 a2 a3 a4 a5 I R = some z → W p l e rmX8_getsCheaper s m args below meth c H locs 0 0 (MQ below (mQi D y h q (mS y h q s.heap.size) z) args s 0 0 (mS y h q s.heap.size)) (F0 m 16 ls [])) {a1 : Int32} {a2 : Int32} {a3 : Int32} {a4 : Int32} {a5 : Int32} {I : Nat → Int32} {R : Nat → Nat → Int32} {H : Heap} {locs : List Loc} {ls : Array Slot} (w : mH s D y h q H locs I R) (hl : lv_has ls 8 [(0, .ref h), (1, .int a1), (2, .int a2), (3, .int a3), (4, .int a4), (5, .int a5)]) (e0 : fX8_getsCheaper_b106 n k16 a1 a2 a3 a4 a5 I R = some z) : W p l e rmX8_getsCheaper s m args below meth c H locs 0 0 (MQ below (mQi D y h q (mS y h q s.heap.size) z) args s 0 0 (mS y h q s.heap.size)) (F0 m 106 ls []) := by
  have hx := X.1.1
  have hb := X.1.2.1
  unfold fX8_getsCheaper_b106 at e0
  refine lv_iinc (v := (a5 + 1)) (lv' := [(5, .int (a5 + 1)), (0, .ref h), (1, .int a1), (2, .int a2), (3, .int a3), (4, .int a4)]) hx hb dX8_getsCheaper_106 hl (k := 5) rfl rfl (by decide) rfl (fun ls hl => ?_)
  refine lv_goto (tgt := 16) hx hb dX8_getsCheaper_109 (by decide) ?_
  exact hk16 _ _ _ _ _ _ _ _ _ _ w (lv_sub hl [1, 2, 3, 4, 5, 0] rfl) e0
def fX8_getsCheaper_b28 (n : Nat) (k16 : Int32 → Int32 → Int32 → Int32 → Int32 → (Nat → Int32) → (Nat → Nat → Int32) → Option (Int32 × mSt)) : Nat → Int32 → Int32 → Int32 → Int32 → Int32 → Int32 → (Nat → Int32) → (Nat → Nat → Int32) → Option (Int32 × mSt)
  | 0, _, _, _, _, _, _, _, _ => none
  | j + 1, a1, a2, a3, a4, a5, a6, I, R =>
    if 4 ≤ a6 then
      fX8_getsCheaper_b106 n k16 a1 a2 a3 a4 a5 I R
    else
      if inb a5 5 = true then
      if (getA R 10 a5) = (a1 / 16) then
        (fX8_costBy n a5 a2 a3 a6 I R).bind fun z4 =>
        if z4.1 = (-9) then
          fX8_getsCheaper_b100 n k16 (fX8_getsCheaper_b28 n k16 j) a1 a2 a3 a4 a5 a6 z4.2.1 z4.2.2
        else
          if inb a1 64 = true then
          if (getA z4.2.2 26 a1) = (-9) then
            fX8_getsCheaper_b89 n k16 (fX8_getsCheaper_b28 n k16 j) a1 a2 a3 a5 a6 z4.1 z4.2.1 z4.2.2
          else
            if inb a1 64 = true then
            if (getA z4.2.2 26 a1) ≤ z4.1 then
              fX8_getsCheaper_b100 n k16 (fX8_getsCheaper_b28 n k16 j) a1 a2 a3 a4 a5 a6 z4.2.1 z4.2.2
            else
              fX8_getsCheaper_b89 n k16 (fX8_getsCheaper_b28 n k16 j) a1 a2 a3 a5 a6 z4.1 z4.2.1 z4.2.2
            else none
          else none
      else
        fX8_getsCheaper_b106 n k16 a1 a2 a3 a4 a5 I R
      else none
set_option maxRecDepth 20000 in
set_option maxHeartbeats 1000000 in
theorem fX8_getsCheaper_b28_w {p : Program} {l : Launch} {e : Env} {s : State} {m : MethodId} {args : Array Value} {below : List Frame} {meth : Method} {c : Code} {D : va_G} {y : ClassId} {h : Nat} {q : Nat → Nat} {n : Nat} {z : Int32 × mSt} (X : mX p s m args c cX8_getsCheaper 8 wsX8_getsCheaper D y) (hr : meth.sig.returnType = some .boolean ∧ meth.locks = false) {k16 : Int32 → Int32 → Int32 → Int32 → Int32 → (Nat → Int32) → (Nat → Nat → Int32) → Option (Int32 × mSt)} (hk16 : ∀ (a1 : Int32) (a2 : Int32) (a3 : Int32) (a4 : Int32) (a5 : Int32) (I : Nat → Int32) (R : Nat → Nat → Int32) (H : Heap) (locs : List Loc) (ls : Array Slot), mH s D y h q H locs I R → lv_has ls 8 [(0, .ref h), (1, .int a1), (2, .int a2), (3, .int a3), (4, .int a4), (5, .int a5)] → k16 a1 a2 a3 a4 a5 I R = some z → W p l e rmX8_getsCheaper s m args below meth c H locs 0 0 (MQ below (mQi D y h q (mS y h q s.heap.size) z) args s 0 0 (mS y h q s.heap.size)) (F0 m 16 ls [])) : ∀ (j : Nat) (a1 : Int32) (a2 : Int32) (a3 : Int32) (a4 : Int32) (a5 : Int32) (a6 : Int32) (I : Nat → Int32) (R : Nat → Nat → Int32) (H : Heap) (locs : List Loc) (ls : Array Slot), mH s D y h q H locs I R → lv_has ls 8 [(0, .ref h), (1, .int a1), (2, .int a2), (3, .int a3), (4, .int a4), (5, .int a5), (6, .int a6)] → fX8_getsCheaper_b28 n k16 j a1 a2 a3 a4 a5 a6 I R = some z → W p l e rmX8_getsCheaper s m args below meth c H locs 0 0 (MQ below (mQi D y h q (mS y h q s.heap.size) z) args s 0 0 (mS y h q s.heap.size)) (F0 m 28 ls []) := by
  have hx := X.1.1
  have hb := X.1.2.1
  intro j
  induction j with
  | zero =>
    intro a1 a2 a3 a4 a5 a6 I R H locs ls w hl e0
    cases e0
  | succ j ih =>
    intro a1 a2 a3 a4 a5 a6 I R H locs ls w hl e0
    rw [fX8_getsCheaper_b28] at e0
    refine lv_iload hx hb dX8_getsCheaper_28 (lv_at hl 6 rfl) ?_
    refine lv_iconst (v := 4) hx hb dX8_getsCheaper_30 (by decide) ?_
    refine lv_icmp_ge (tgt := 106) hx hb dX8_getsCheaper_31 (by decide) (fun c12 => ?_) (fun c12 => ?_)
    · have e0 := itp _ c12 e0
      exact fX8_getsCheaper_b106_w (l := l) X hr hk16 w (lv_sub hl [0, 1, 2, 3, 4, 5] rfl) e0
    · have e0 := itn _ c12 e0
      refine lv_aload_n hx hb dX8_getsCheaper_34 rfl (lv_at hl 0 rfl) ?_
      refine m_get X w 10 (by decide) (index := 28) rfl (by decide +kernel) (mfr10 _ _) dX8_getsCheaper_35 ?_
      refine lv_iload hx hb dX8_getsCheaper_38 (lv_at hl 5 rfl) ?_
      refine gd e0 (fun g3 e0 => ?_)
      refine m_ald X w 7 10 (mat10 _ _ _ _ _) g3 dX8_getsCheaper_40 ?_
      refine lv_iload_n hx hb dX8_getsCheaper_41 rfl (lv_at hl 1 rfl) ?_
      refine lv_bipush (v := 16) hx hb dX8_getsCheaper_42 (by decide) ?_
      refine lv_idiv hx hb dX8_getsCheaper_44 (by decide) ?_
      refine lv_icmp_ne (tgt := 106) hx hb dX8_getsCheaper_45 (by decide) (fun c11 => ?_) (fun c11 => ?_)
      · have e0 := itn _ c11 e0
        exact fX8_getsCheaper_b106_w (l := l) X hr hk16 w (lv_sub hl [0, 1, 2, 3, 4, 5] rfl) e0
      · have e0 := itp _ c11 e0
        refine lv_aload_n hx hb dX8_getsCheaper_48 rfl (lv_at hl 0 rfl) ?_
        refine lv_iload hx hb dX8_getsCheaper_49 (lv_at hl 5 rfl) ?_
        refine lv_iload_n hx hb dX8_getsCheaper_51 rfl (lv_at hl 2 rfl) ?_
        refine lv_iload_n hx hb dX8_getsCheaper_52 rfl (lv_at hl 3 rfl) ?_
        refine lv_iload hx hb dX8_getsCheaper_53 (lv_at hl 6 rfl) ?_
        refine bd e0 (fun z4 e5 e0 => ?_)
        refine m_calli X w (n := 4) (As := [.int a5, .int a2, .int a3, .int a6]) (rest := []) (fX8_costBy_met l _ _ _ _ _ _ _ _ _ _ _ _ _ e5) gX8_getsCheaper_X8_costBy rfl rfl rfl (by decide +kernel) ⟨Nat.le_of_ble_eq_true rfl, Nat.le_of_ble_eq_true rfl⟩ rfl hl.1 rfl (Nat.le_of_ble_eq_true rfl) dX8_getsCheaper_55 (fun H locs w => ?_)
        refine lv_istore (lv' := [(7, .int z4.1), (0, .ref h), (1, .int a1), (2, .int a2), (3, .int a3), (4, .int a4), (5, .int a5), (6, .int a6)]) hx hb dX8_getsCheaper_58 hl (by decide) rfl (fun ls hl => ?_)
        refine lv_iload hx hb dX8_getsCheaper_60 (lv_at hl 0 rfl) ?_
        refine lv_bipush (v := (-9)) hx hb dX8_getsCheaper_62 (by decide) ?_
        refine lv_icmp_eq (tgt := 100) hx hb dX8_getsCheaper_64 (by decide) (fun c10 => ?_) (fun c10 => ?_)
        · have e0 := itp _ c10 e0
          exact fX8_getsCheaper_b100_w (l := l) X hr hk16 ih w (lv_sub hl [1, 2, 3, 4, 5, 6, 7] rfl) e0
        · have e0 := itn _ c10 e0
          refine lv_aload_n hx hb dX8_getsCheaper_67 rfl (lv_at hl 1 rfl) ?_
          refine m_get X w 26 (by decide) (index := 61) rfl (by decide +kernel) (mfr26 _ _) dX8_getsCheaper_68 ?_
          refine lv_iload_n hx hb dX8_getsCheaper_71 rfl (lv_at hl 2 rfl) ?_
          refine gd e0 (fun g6 e0 => ?_)
          refine m_ald X w 18 26 (mat26 _ _ _ _ _) g6 dX8_getsCheaper_72 ?_
          refine lv_bipush (v := (-9)) hx hb dX8_getsCheaper_73 (by decide) ?_
          refine lv_icmp_eq (tgt := 89) hx hb dX8_getsCheaper_75 (by decide) (fun c9 => ?_) (fun c9 => ?_)
          · have e0 := itp _ c9 e0
            exact fX8_getsCheaper_b89_w (l := l) X hr hk16 ih w (lv_sub hl [1, 2, 3, 4, 6, 7, 0] rfl) e0
          · have e0 := itn _ c9 e0
            refine lv_iload hx hb dX8_getsCheaper_78 (lv_at hl 0 rfl) ?_
            refine lv_aload_n hx hb dX8_getsCheaper_80 rfl (lv_at hl 1 rfl) ?_
            refine m_get X w 26 (by decide) (index := 61) rfl (by decide +kernel) (mfr26 _ _) dX8_getsCheaper_81 ?_
            refine lv_iload_n hx hb dX8_getsCheaper_84 rfl (lv_at hl 2 rfl) ?_
            refine gd e0 (fun g7 e0 => ?_)
            refine m_ald X w 18 26 (mat26 _ _ _ _ _) g7 dX8_getsCheaper_85 ?_
            refine lv_icmp_ge (tgt := 100) hx hb dX8_getsCheaper_86 (by decide) (fun c8 => ?_) (fun c8 => ?_)
            · have e0 := itp _ c8 e0
              exact fX8_getsCheaper_b100_w (l := l) X hr hk16 ih w (lv_sub hl [1, 2, 3, 4, 5, 6, 7] rfl) e0
            · have e0 := itn _ c8 e0
              exact fX8_getsCheaper_b89_w (l := l) X hr hk16 ih w (lv_sub hl [1, 2, 3, 4, 6, 7, 0] rfl) e0
def fX8_getsCheaper_b16 (n : Nat) : Nat → Int32 → Int32 → Int32 → Int32 → Int32 → (Nat → Int32) → (Nat → Nat → Int32) → Option (Int32 × mSt)
  | 0, _, _, _, _, _, _, _ => none
  | j + 1, a1, a2, a3, a4, a5, I, R =>
    if (I 6) ≤ a5 then
      if isB a4 = true then
      some (a4, I, R)
      else none
    else
      fX8_getsCheaper_b28 n (fX8_getsCheaper_b16 n j) n a1 a2 a3 a4 a5 0 I R
set_option maxRecDepth 20000 in
set_option maxHeartbeats 1000000 in
theorem fX8_getsCheaper_b16_w {p : Program} {l : Launch} {e : Env} {s : State} {m : MethodId} {args : Array Value} {below : List Frame} {meth : Method} {c : Code} {D : va_G} {y : ClassId} {h : Nat} {q : Nat → Nat} {n : Nat} {z : Int32 × mSt} (X : mX p s m args c cX8_getsCheaper 8 wsX8_getsCheaper D y) (hr : meth.sig.returnType = some .boolean ∧ meth.locks = false) : ∀ (j : Nat) (a1 : Int32) (a2 : Int32) (a3 : Int32) (a4 : Int32) (a5 : Int32) (I : Nat → Int32) (R : Nat → Nat → Int32) (H : Heap) (locs : List Loc) (ls : Array Slot), mH s D y h q H locs I R → lv_has ls 8 [(0, .ref h), (1, .int a1), (2, .int a2), (3, .int a3), (4, .int a4), (5, .int a5)] → fX8_getsCheaper_b16 n j a1 a2 a3 a4 a5 I R = some z → W p l e rmX8_getsCheaper s m args below meth c H locs 0 0 (MQ below (mQi D y h q (mS y h q s.heap.size) z) args s 0 0 (mS y h q s.heap.size)) (F0 m 16 ls []) := by
  have hx := X.1.1
  have hb := X.1.2.1
  intro j
  induction j with
  | zero =>
    intro a1 a2 a3 a4 a5 I R H locs ls w hl e0
    cases e0
  | succ j ih =>
    intro a1 a2 a3 a4 a5 I R H locs ls w hl e0
    rw [fX8_getsCheaper_b16] at e0
    refine lv_iload hx hb dX8_getsCheaper_16 (lv_at hl 5 rfl) ?_
    refine lv_aload_n hx hb dX8_getsCheaper_18 rfl (lv_at hl 0 rfl) ?_
    refine m_get X w 6 (by decide) (index := 95) rfl (by decide +kernel) (mfi6 _ _) dX8_getsCheaper_19 ?_
    refine lv_icmp_ge (tgt := 112) hx hb dX8_getsCheaper_22 (by decide) (fun c2 => ?_) (fun c2 => ?_)
    · have e0 := itp _ c2 e0
      refine lv_iload hx hb dX8_getsCheaper_112 (lv_at hl 4 rfl) ?_
      refine gd e0 (fun g1 e0 => ?_)
      have e0 := Option.some.inj e0
      subst e0
      exact m_zret X w hr g1 dX8_getsCheaper_114
    · have e0 := itn _ c2 e0
      refine lv_iconst (v := 0) hx hb dX8_getsCheaper_25 (by decide) ?_
      refine lv_istore (lv' := [(6, .int 0), (0, .ref h), (1, .int a1), (2, .int a2), (3, .int a3), (4, .int a4), (5, .int a5)]) hx hb dX8_getsCheaper_26 hl (by decide) rfl (fun ls hl => ?_)
      exact fX8_getsCheaper_b28_w (l := l) X hr ih n _ _ _ _ _ _ _ _ _ _ _ w (lv_sub hl [1, 2, 3, 4, 5, 6, 0] rfl) e0
def fX8_getsCheaper (n : Nat) (a1 : Int32) (I : Nat → Int32) (R : Nat → Nat → Int32) : Option (Int32 × mSt) :=
  fX8_getsCheaper_b16 n n a1 ((a1 / 4) - (a1 / 4) / 4 * 4) (a1 - a1 / 4 * 4) 0 0 I R
set_option maxRecDepth 20000 in
set_option maxHeartbeats 1000000 in
theorem fX8_getsCheaper_w {p : Program} {l : Launch} {e : Env} {s : State} {m : MethodId} {args : Array Value} {below : List Frame} {meth : Method} {c : Code} {D : va_G} {y : ClassId} {h : Nat} {q : Nat → Nat} {n : Nat} {z : Int32 × mSt} (X : mX p s m args c cX8_getsCheaper 8 wsX8_getsCheaper D y) (hr : meth.sig.returnType = some .boolean ∧ meth.locks = false) {a1 : Int32} {I : Nat → Int32} {R : Nat → Nat → Int32} {H : Heap} {locs : List Loc} {ls : Array Slot} (w : mH s D y h q H locs I R) (hl : lv_has ls 8 [(0, .ref h), (1, .int a1)]) (e0 : fX8_getsCheaper n a1 I R = some z) : W p l e rmX8_getsCheaper s m args below meth c H locs 0 0 (MQ below (mQi D y h q (mS y h q s.heap.size) z) args s 0 0 (mS y h q s.heap.size)) (F0 m 0 ls []) := by
  have hx := X.1.1
  have hb := X.1.2.1
  unfold fX8_getsCheaper at e0
  refine lv_iload_n hx hb dX8_getsCheaper_0 rfl (lv_at hl 1 rfl) ?_
  refine lv_iconst (v := 4) hx hb dX8_getsCheaper_1 (by decide) ?_
  refine lv_idiv hx hb dX8_getsCheaper_2 (by decide) ?_
  refine lv_iconst (v := 4) hx hb dX8_getsCheaper_3 (by decide) ?_
  refine lv_irem hx hb dX8_getsCheaper_4 (by decide) ?_
  refine lv_istore_n (lv' := [(2, .int ((a1 / 4) - (a1 / 4) / 4 * 4)), (0, .ref h), (1, .int a1)]) hx hb dX8_getsCheaper_5 rfl hl (by decide) rfl (fun ls hl => ?_)
  refine lv_iload_n hx hb dX8_getsCheaper_6 rfl (lv_at hl 2 rfl) ?_
  refine lv_iconst (v := 4) hx hb dX8_getsCheaper_7 (by decide) ?_
  refine lv_irem hx hb dX8_getsCheaper_8 (by decide) ?_
  refine lv_istore_n (lv' := [(3, .int (a1 - a1 / 4 * 4)), (2, .int ((a1 / 4) - (a1 / 4) / 4 * 4)), (0, .ref h), (1, .int a1)]) hx hb dX8_getsCheaper_9 rfl hl (by decide) rfl (fun ls hl => ?_)
  refine lv_iconst (v := 0) hx hb dX8_getsCheaper_10 (by decide) ?_
  refine lv_istore (lv' := [(4, .int 0), (3, .int (a1 - a1 / 4 * 4)), (2, .int ((a1 / 4) - (a1 / 4) / 4 * 4)), (0, .ref h), (1, .int a1)]) hx hb dX8_getsCheaper_11 hl (by decide) rfl (fun ls hl => ?_)
  refine lv_iconst (v := 0) hx hb dX8_getsCheaper_13 (by decide) ?_
  refine lv_istore (lv' := [(5, .int 0), (4, .int 0), (3, .int (a1 - a1 / 4 * 4)), (2, .int ((a1 / 4) - (a1 / 4) / 4 * 4)), (0, .ref h), (1, .int a1)]) hx hb dX8_getsCheaper_14 hl (by decide) rfl (fun ls hl => ?_)
  exact fX8_getsCheaper_b16_w (l := l) X hr n _ _ _ _ _ _ _ _ _ _ w (lv_sub hl [4, 5, 3, 2, 1, 0] rfl) e0
set_option maxRecDepth 20000 in
theorem fX8_getsCheaper_met (l : Launch) (D : va_G) (y : ClassId) (h : Nat) (q : Nat → Nat) (sz n : Nat) (a1 : Int32) (I : Nat → Int32) (R : Nat → Nat → Int32) (z : Int32 × mSt) (e0 : fX8_getsCheaper n a1 I R = some z) : Met l yX8_getsCheaper wsX8_getsCheaper rmX8_getsCheaper (va_Pc [.ref h, .int a1] (mPre D y h q sz I R)) (mQi D y h q (mS y h q sz) z) 0 0 (mS y h q sz) := by
  refine Met.ofW (cc := cX8_getsCheaper) (maxL := 8) (ret := some .boolean) (by decide) rfl ?_
  intro p e s m args below meth c s₁ B hml hv
  obtain ⟨rfl, hsz, hP, hK, hD⟩ := hv
  subst hsz
  have hl := lv_entry ([.ref h, .int a1]) (n := 8) (Nat.le_of_ble_eq_true rfl)
  rw [lg_entry_eq]
  exact fX8_getsCheaper_w (s := s) ⟨⟨B.exec, B.bytes, hml, findClass_of_methodNamed B.named, atoms_spec (ws := wsX8_getsCheaper) B.pre⟩, fun _ h9 => List.mem_cons_of_mem _ (List.mem_append_right _ h9), hK⟩ ⟨B.returns, B.notSynchronized⟩ ⟨hP, mS_D hD, va_S.rf⟩ hl e0
def rmX8_findLast : Room := { frames := 2, cells := 0, slots := 0, locals := 48 }
def fX8_findLast_b120 (n : Nat) (k45 : Int32 → Int32 → (Nat → Int32) → (Nat → Nat → Int32) → Option (mSt)) (k51 : Int32 → Int32 → Int32 → (Nat → Int32) → (Nat → Nat → Int32) → Option (mSt)) (a1 : Int32) (a2 : Int32) (a3 : Int32) (I : Nat → Int32) (R : Nat → Nat → Int32) : Option (mSt) :=
  k51 a1 a2 (a3 + (-1)) I R
set_option maxRecDepth 20000 in
set_option maxHeartbeats 1000000 in
theorem fX8_findLast_b120_w {p : Program} {l : Launch} {e : Env} {s : State} {m : MethodId} {args : Array Value} {below : List Frame} {meth : Method} {c : Code} {D : va_G} {y : ClassId} {h : Nat} {q : Nat → Nat} {n : Nat} {z : mSt} (X : mX p s m args c cX8_findLast 4 wsX8_findLast D y) (hr : meth.sig.returnType = none ∧ meth.locks = false) {k45 : Int32 → Int32 → (Nat → Int32) → (Nat → Nat → Int32) → Option (mSt)} (hk45 : ∀ (a1 : Int32) (a2 : Int32) (I : Nat → Int32) (R : Nat → Nat → Int32) (H : Heap) (locs : List Loc) (ls : Array Slot), mH s D y h q H locs I R → lv_has ls 4 [(0, .ref h), (1, .int a1), (2, .int a2)] → k45 a1 a2 I R = some z → W p l e rmX8_findLast s m args below meth c H locs 0 0 (MQ below (mQv D y h q (mS y h q s.heap.size) z) args s 0 0 (mS y h q s.heap.size)) (F0 m 45 ls [])) {k51 : Int32 → Int32 → Int32 → (Nat → Int32) → (Nat → Nat → Int32) → Option (mSt)} (hk51 : ∀ (a1 : Int32) (a2 : Int32) (a3 : Int32) (I : Nat → Int32) (R : Nat → Nat → Int32) (H : Heap) (locs : List Loc) (ls : Array Slot), mH s D y h q H locs I R → lv_has ls 4 [(0, .ref h), (1, .int a1), (2, .int a2), (3, .int a3)] → k51 a1 a2 a3 I R = some z → W p l e rmX8_findLast s m args below meth c H locs 0 0 (MQ below (mQv D y h q (mS y h q s.heap.size) z) args s 0 0 (mS y h q s.heap.size)) (F0 m 51 ls [])) {a1 : Int32} {a2 : Int32} {a3 : Int32} {I : Nat → Int32} {R : Nat → Nat → Int32} {H : Heap} {locs : List Loc} {ls : Array Slot} (w : mH s D y h q H locs I R) (hl : lv_has ls 4 [(0, .ref h), (1, .int a1), (2, .int a2), (3, .int a3)]) (e0 : fX8_findLast_b120 n k45 k51 a1 a2 a3 I R = some z) : W p l e rmX8_findLast s m args below meth c H locs 0 0 (MQ below (mQv D y h q (mS y h q s.heap.size) z) args s 0 0 (mS y h q s.heap.size)) (F0 m 120 ls []) := by
  have hx := X.1.1
  have hb := X.1.2.1
  unfold fX8_findLast_b120 at e0
  refine lv_iinc (v := (a3 + (-1))) (lv' := [(3, .int (a3 + (-1))), (0, .ref h), (1, .int a1), (2, .int a2)]) hx hb dX8_findLast_120 hl (k := 3) rfl rfl (by decide) rfl (fun ls hl => ?_)
  refine lv_goto (tgt := 51) hx hb dX8_findLast_123 (by decide) ?_
  exact hk51 _ _ _ _ _ _ _ _ w (lv_sub hl [1, 2, 3, 0] rfl) e0
def fX8_findLast_b119 (n : Nat) (k45 : Int32 → Int32 → (Nat → Int32) → (Nat → Nat → Int32) → Option (mSt)) (k51 : Int32 → Int32 → Int32 → (Nat → Int32) → (Nat → Nat → Int32) → Option (mSt)) (a1 : Int32) (a2 : Int32) (a3 : Int32) (t0 : Int32) (t1 : Int32) (I : Nat → Int32) (R : Nat → Nat → Int32) : Option (mSt) :=
  if inb t1 64 = true then
  fX8_findLast_b120 n k45 k51 a1 a2 a3 I (setA R 28 t1 t0)
  else none
set_option maxRecDepth 20000 in
set_option maxHeartbeats 1000000 in
theorem fX8_findLast_b119_w {p : Program} {l : Launch} {e : Env} {s : State} {m : MethodId} {args : Array Value} {below : List Frame} {meth : Method} {c : Code} {D : va_G} {y : ClassId} {h : Nat} {q : Nat → Nat} {n : Nat} {z : mSt} (X : mX p s m args c cX8_findLast 4 wsX8_findLast D y) (hr : meth.sig.returnType = none ∧ meth.locks = false) {k45 : Int32 → Int32 → (Nat → Int32) → (Nat → Nat → Int32) → Option (mSt)} (hk45 : ∀ (a1 : Int32) (a2 : Int32) (I : Nat → Int32) (R : Nat → Nat → Int32) (H : Heap) (locs : List Loc) (ls : Array Slot), mH s D y h q H locs I R → lv_has ls 4 [(0, .ref h), (1, .int a1), (2, .int a2)] → k45 a1 a2 I R = some z → W p l e rmX8_findLast s m args below meth c H locs 0 0 (MQ below (mQv D y h q (mS y h q s.heap.size) z) args s 0 0 (mS y h q s.heap.size)) (F0 m 45 ls [])) {k51 : Int32 → Int32 → Int32 → (Nat → Int32) → (Nat → Nat → Int32) → Option (mSt)} (hk51 : ∀ (a1 : Int32) (a2 : Int32) (a3 : Int32) (I : Nat → Int32) (R : Nat → Nat → Int32) (H : Heap) (locs : List Loc) (ls : Array Slot), mH s D y h q H locs I R → lv_has ls 4 [(0, .ref h), (1, .int a1), (2, .int a2), (3, .int a3)] → k51 a1 a2 a3 I R = some z → W p l e rmX8_findLast s m args below meth c H locs 0 0 (MQ below (mQv D y h q (mS y h q s.heap.size) z) args s 0 0 (mS y h q s.heap.size)) (F0 m 51 ls [])) {a1 : Int32} {a2 : Int32} {a3 : Int32} {t0 : Int32} {t1 : Int32} {I : Nat → Int32} {R : Nat → Nat → Int32} {H : Heap} {locs : List Loc} {ls : Array Slot} (w : mH s D y h q H locs I R) (hl : lv_has ls 4 [(0, .ref h), (1, .int a1), (2, .int a2), (3, .int a3)]) (e0 : fX8_findLast_b119 n k45 k51 a1 a2 a3 t0 t1 I R = some z) : W p l e rmX8_findLast s m args below meth c H locs 0 0 (MQ below (mQv D y h q (mS y h q s.heap.size) z) args s 0 0 (mS y h q s.heap.size)) (F0 m 119 ls [.int t0, .int t1, .ref (q 28)]) := by
  have hx := X.1.1
  have hb := X.1.2.1
  unfold fX8_findLast_b119 at e0
  refine gd e0 (fun g18 e0 => ?_)
  refine m_ast X w 20 28 (mat28 _ _ _ _ _) (mset28 _ _ _ _ _) g18 dX8_findLast_119 (fun H locs w => ?_)
  exact fX8_findLast_b120_w (l := l) X hr hk45 hk51 w (lv_sub hl [0, 1, 2, 3] rfl) e0
def fX8_findLast_b126 (n : Nat) (k45 : Int32 → Int32 → (Nat → Int32) → (Nat → Nat → Int32) → Option (mSt)) (a1 : Int32) (a2 : Int32) (I : Nat → Int32) (R : Nat → Nat → Int32) : Option (mSt) :=
  k45 a1 (a2 + (-1)) I R
set_option maxRecDepth 20000 in
set_option maxHeartbeats 1000000 in
theorem fX8_findLast_b126_w {p : Program} {l : Launch} {e : Env} {s : State} {m : MethodId} {args : Array Value} {below : List Frame} {meth : Method} {c : Code} {D : va_G} {y : ClassId} {h : Nat} {q : Nat → Nat} {n : Nat} {z : mSt} (X : mX p s m args c cX8_findLast 4 wsX8_findLast D y) (hr : meth.sig.returnType = none ∧ meth.locks = false) {k45 : Int32 → Int32 → (Nat → Int32) → (Nat → Nat → Int32) → Option (mSt)} (hk45 : ∀ (a1 : Int32) (a2 : Int32) (I : Nat → Int32) (R : Nat → Nat → Int32) (H : Heap) (locs : List Loc) (ls : Array Slot), mH s D y h q H locs I R → lv_has ls 4 [(0, .ref h), (1, .int a1), (2, .int a2)] → k45 a1 a2 I R = some z → W p l e rmX8_findLast s m args below meth c H locs 0 0 (MQ below (mQv D y h q (mS y h q s.heap.size) z) args s 0 0 (mS y h q s.heap.size)) (F0 m 45 ls [])) {a1 : Int32} {a2 : Int32} {I : Nat → Int32} {R : Nat → Nat → Int32} {H : Heap} {locs : List Loc} {ls : Array Slot} (w : mH s D y h q H locs I R) (hl : lv_has ls 4 [(0, .ref h), (1, .int a1), (2, .int a2)]) (e0 : fX8_findLast_b126 n k45 a1 a2 I R = some z) : W p l e rmX8_findLast s m args below meth c H locs 0 0 (MQ below (mQv D y h q (mS y h q s.heap.size) z) args s 0 0 (mS y h q s.heap.size)) (F0 m 126 ls []) := by
  have hx := X.1.1
  have hb := X.1.2.1
  unfold fX8_findLast_b126 at e0
  refine lv_iinc (v := (a2 + (-1))) (lv' := [(2, .int (a2 + (-1))), (0, .ref h), (1, .int a1)]) hx hb dX8_findLast_126 hl (k := 2) rfl rfl (by decide) rfl (fun ls hl => ?_)
  refine lv_goto (tgt := 45) hx hb dX8_findLast_129 (by decide) ?_
  exact hk45 _ _ _ _ _ _ _ w (lv_sub hl [1, 2, 0] rfl) e0
def fX8_findLast_b51 (n : Nat) (k45 : Int32 → Int32 → (Nat → Int32) → (Nat → Nat → Int32) → Option (mSt)) : Nat → Int32 → Int32 → Int32 → (Nat → Int32) → (Nat → Nat → Int32) → Option (mSt)
  | 0, _, _, _, _, _ => none
  | j + 1, a1, a2, a3, I, R =>
    if a3 < 0 then
      fX8_findLast_b126 n k45 a1 a2 I R
    else
      if inb a2 5 = true then
      if (getA R 10 a2) = (a1 / 16) then
        (fX8_costBy n a2 ((a1 / 4) - (a1 / 4) / 4 * 4) (a1 - a1 / 4 * 4) a3 I R).bind fun z9 =>
        if inb a1 64 = true then
        if z9.1 = (getA z9.2.2 26 a1) then
          if inb a1 64 = true then
          if inb a2 5 = true then
          if (getA (setA z9.2.2 27 a1 a2) 9 a2) = 2 then
            fX8_findLast_b119 n k45 (fX8_findLast_b51 n k45 j) a1 a2 a3 a3 a1 z9.2.1 (setA z9.2.2 27 a1 a2)
          else
            fX8_findLast_b119 n k45 (fX8_findLast_b51 n k45 j) a1 a2 a3 (-9) a1 z9.2.1 (setA z9.2.2 27 a1 a2)
          else none
          else none
        else
          fX8_findLast_b120 n k45 (fX8_findLast_b51 n k45 j) a1 a2 a3 z9.2.1 z9.2.2
        else none
      else
        fX8_findLast_b126 n k45 a1 a2 I R
      else none
set_option maxRecDepth 20000 in
set_option maxHeartbeats 1000000 in
theorem fX8_findLast_b51_w {p : Program} {l : Launch} {e : Env} {s : State} {m : MethodId} {args : Array Value} {below : List Frame} {meth : Method} {c : Code} {D : va_G} {y : ClassId} {h : Nat} {q : Nat → Nat} {n : Nat} {z : mSt} (X : mX p s m args c cX8_findLast 4 wsX8_findLast D y) (hr : meth.sig.returnType = none ∧ meth.locks = false) {k45 : Int32 → Int32 → (Nat → Int32) → (Nat → Nat → Int32) → Option (mSt)} (hk45 : ∀ (a1 : Int32) (a2 : Int32) (I : Nat → Int32) (R : Nat → Nat → Int32) (H : Heap) (locs : List Loc) (ls : Array Slot), mH s D y h q H locs I R → lv_has ls 4 [(0, .ref h), (1, .int a1), (2, .int a2)] → k45 a1 a2 I R = some z → W p l e rmX8_findLast s m args below meth c H locs 0 0 (MQ below (mQv D y h q (mS y h q s.heap.size) z) args s 0 0 (mS y h q s.heap.size)) (F0 m 45 ls [])) : ∀ (j : Nat) (a1 : Int32) (a2 : Int32) (a3 : Int32) (I : Nat → Int32) (R : Nat → Nat → Int32) (H : Heap) (locs : List Loc) (ls : Array Slot), mH s D y h q H locs I R → lv_has ls 4 [(0, .ref h), (1, .int a1), (2, .int a2), (3, .int a3)] → fX8_findLast_b51 n k45 j a1 a2 a3 I R = some z → W p l e rmX8_findLast s m args below meth c H locs 0 0 (MQ below (mQv D y h q (mS y h q s.heap.size) z) args s 0 0 (mS y h q s.heap.size)) (F0 m 51 ls []) := by
  have hx := X.1.1
  have hb := X.1.2.1
  intro j
  induction j with
  | zero =>
    intro a1 a2 a3 I R H locs ls w hl e0
    cases e0
  | succ j ih =>
    intro a1 a2 a3 I R H locs ls w hl e0
    rw [fX8_findLast_b51] at e0
    refine lv_iload_n hx hb dX8_findLast_51 rfl (lv_at hl 3 rfl) ?_
    refine lv_if_lt (tgt := 126) hx hb dX8_findLast_52 (by decide) (fun c17 => ?_) (fun c17 => ?_)
    · have e0 := itp _ c17 e0
      exact fX8_findLast_b126_w (l := l) X hr hk45 w (lv_sub hl [0, 1, 2] rfl) e0
    · have e0 := itn _ c17 e0
      refine lv_aload_n hx hb dX8_findLast_55 rfl (lv_at hl 0 rfl) ?_
      refine m_get X w 10 (by decide) (index := 28) rfl (by decide +kernel) (mfr10 _ _) dX8_findLast_56 ?_
      refine lv_iload_n hx hb dX8_findLast_59 rfl (lv_at hl 2 rfl) ?_
      refine gd e0 (fun g8 e0 => ?_)
      refine m_ald X w 7 10 (mat10 _ _ _ _ _) g8 dX8_findLast_60 ?_
      refine lv_iload_n hx hb dX8_findLast_61 rfl (lv_at hl 1 rfl) ?_
      refine lv_bipush (v := 16) hx hb dX8_findLast_62 (by decide) ?_
      refine lv_idiv hx hb dX8_findLast_64 (by decide) ?_
      refine lv_icmp_ne (tgt := 126) hx hb dX8_findLast_65 (by decide) (fun c16 => ?_) (fun c16 => ?_)
      · have e0 := itn _ c16 e0
        exact fX8_findLast_b126_w (l := l) X hr hk45 w (lv_sub hl [0, 1, 2] rfl) e0
      · have e0 := itp _ c16 e0
        refine lv_aload_n hx hb dX8_findLast_68 rfl (lv_at hl 0 rfl) ?_
        refine lv_iload_n hx hb dX8_findLast_69 rfl (lv_at hl 2 rfl) ?_
        refine lv_iload_n hx hb dX8_findLast_70 rfl (lv_at hl 1 rfl) ?_
        refine lv_iconst (v := 4) hx hb dX8_findLast_71 (by decide) ?_
        refine lv_idiv hx hb dX8_findLast_72 (by decide) ?_
        refine lv_iconst (v := 4) hx hb dX8_findLast_73 (by decide) ?_
        refine lv_irem hx hb dX8_findLast_74 (by decide) ?_
        refine lv_iload_n hx hb dX8_findLast_75 rfl (lv_at hl 1 rfl) ?_
        refine lv_iconst (v := 4) hx hb dX8_findLast_76 (by decide) ?_
        refine lv_irem hx hb dX8_findLast_77 (by decide) ?_
        refine lv_iload_n hx hb dX8_findLast_78 rfl (lv_at hl 3 rfl) ?_
        refine bd e0 (fun z9 e10 e0 => ?_)
        refine m_calli X w (n := 4) (As := [.int a2, .int ((a1 / 4) - (a1 / 4) / 4 * 4), .int (a1 - a1 / 4 * 4), .int a3]) (rest := []) (fX8_costBy_met l _ _ _ _ _ _ _ _ _ _ _ _ _ e10) gX8_findLast_X8_costBy rfl rfl rfl (by decide +kernel) ⟨Nat.le_of_ble_eq_true rfl, Nat.le_of_ble_eq_true rfl⟩ rfl hl.1 rfl (Nat.le_of_ble_eq_true rfl) dX8_findLast_79 (fun H locs w => ?_)
        refine lv_aload_n hx hb dX8_findLast_82 rfl (lv_at hl 0 rfl) ?_
        refine m_get X w 26 (by decide) (index := 61) rfl (by decide +kernel) (mfr26 _ _) dX8_findLast_83 ?_
        refine lv_iload_n hx hb dX8_findLast_86 rfl (lv_at hl 1 rfl) ?_
        refine gd e0 (fun g11 e0 => ?_)
        refine m_ald X w 18 26 (mat26 _ _ _ _ _) g11 dX8_findLast_87 ?_
        refine lv_icmp_ne (tgt := 120) hx hb dX8_findLast_88 (by decide) (fun c15 => ?_) (fun c15 => ?_)
        · have e0 := itn _ c15 e0
          exact fX8_findLast_b120_w (l := l) X hr hk45 ih w (lv_sub hl [0, 1, 2, 3] rfl) e0
        · have e0 := itp _ c15 e0
          refine lv_aload_n hx hb dX8_findLast_91 rfl (lv_at hl 0 rfl) ?_
          refine m_get X w 27 (by decide) (index := 64) rfl (by decide +kernel) (mfr27 _ _) dX8_findLast_92 ?_
          refine lv_iload_n hx hb dX8_findLast_95 rfl (lv_at hl 1 rfl) ?_
          refine lv_iload_n hx hb dX8_findLast_96 rfl (lv_at hl 2 rfl) ?_
          refine gd e0 (fun g12 e0 => ?_)
          refine m_ast X w 19 27 (mat27 _ _ _ _ _) (mset27 _ _ _ _ _) g12 dX8_findLast_97 (fun H locs w => ?_)
          refine lv_aload_n hx hb dX8_findLast_98 rfl (lv_at hl 0 rfl) ?_
          refine m_get X w 28 (by decide) (index := 67) rfl (by decide +kernel) (mfr28 _ _) dX8_findLast_99 ?_
          refine lv_iload_n hx hb dX8_findLast_102 rfl (lv_at hl 1 rfl) ?_
          refine lv_aload_n hx hb dX8_findLast_103 rfl (lv_at hl 0 rfl) ?_
          refine m_get X w 9 (by decide) (index := 25) rfl (by decide +kernel) (mfr9 _ _) dX8_findLast_104 ?_
          refine lv_iload_n hx hb dX8_findLast_107 rfl (lv_at hl 2 rfl) ?_
          refine gd e0 (fun g13 e0 => ?_)
          refine m_ald X w 6 9 (mat9 _ _ _ _ _) g13 dX8_findLast_108 ?_
          refine lv_iconst (v := 2) hx hb dX8_findLast_109 (by decide) ?_
          refine lv_icmp_ne (tgt := 117) hx hb dX8_findLast_110 (by decide) (fun c14 => ?_) (fun c14 => ?_)
          · have e0 := itn _ c14 e0
            refine lv_bipush (v := (-9)) hx hb dX8_findLast_117 (by decide) ?_
            exact fX8_findLast_b119_w (l := l) X hr hk45 ih w (lv_sub hl [0, 1, 2, 3] rfl) e0
          · have e0 := itp _ c14 e0
            refine lv_iload_n hx hb dX8_findLast_113 rfl (lv_at hl 3 rfl) ?_
            refine lv_goto (tgt := 119) hx hb dX8_findLast_114 (by decide) ?_
            exact fX8_findLast_b119_w (l := l) X hr hk45 ih w (lv_sub hl [0, 1, 2, 3] rfl) e0
def fX8_findLast_b45 (n : Nat) : Nat → Int32 → Int32 → (Nat → Int32) → (Nat → Nat → Int32) → Option (mSt)
  | 0, _, _, _, _ => none
  | j + 1, a1, a2, I, R =>
    if a2 < 0 then
      some (I, R)
    else
      fX8_findLast_b51 n (fX8_findLast_b45 n j) n a1 a2 3 I R
set_option maxRecDepth 20000 in
set_option maxHeartbeats 1000000 in
theorem fX8_findLast_b45_w {p : Program} {l : Launch} {e : Env} {s : State} {m : MethodId} {args : Array Value} {below : List Frame} {meth : Method} {c : Code} {D : va_G} {y : ClassId} {h : Nat} {q : Nat → Nat} {n : Nat} {z : mSt} (X : mX p s m args c cX8_findLast 4 wsX8_findLast D y) (hr : meth.sig.returnType = none ∧ meth.locks = false) : ∀ (j : Nat) (a1 : Int32) (a2 : Int32) (I : Nat → Int32) (R : Nat → Nat → Int32) (H : Heap) (locs : List Loc) (ls : Array Slot), mH s D y h q H locs I R → lv_has ls 4 [(0, .ref h), (1, .int a1), (2, .int a2)] → fX8_findLast_b45 n j a1 a2 I R = some z → W p l e rmX8_findLast s m args below meth c H locs 0 0 (MQ below (mQv D y h q (mS y h q s.heap.size) z) args s 0 0 (mS y h q s.heap.size)) (F0 m 45 ls []) := by
  have hx := X.1.1
  have hb := X.1.2.1
  intro j
  induction j with
  | zero =>
    intro a1 a2 I R H locs ls w hl e0
    cases e0
  | succ j ih =>
    intro a1 a2 I R H locs ls w hl e0
    rw [fX8_findLast_b45] at e0
    refine lv_iload_n hx hb dX8_findLast_45 rfl (lv_at hl 2 rfl) ?_
    refine lv_if_lt (tgt := 132) hx hb dX8_findLast_46 (by decide) (fun c7 => ?_) (fun c7 => ?_)
    · have e0 := itp _ c7 e0
      have e0 := Option.some.inj e0
      subst e0
      exact m_vret X w hr dX8_findLast_132
    · have e0 := itn _ c7 e0
      refine lv_iconst (v := 3) hx hb dX8_findLast_49 (by decide) ?_
      refine lv_istore_n (lv' := [(3, .int 3), (0, .ref h), (1, .int a1), (2, .int a2)]) hx hb dX8_findLast_50 rfl hl (by decide) rfl (fun ls hl => ?_)
      exact fX8_findLast_b51_w (l := l) X hr ih n _ _ _ _ _ _ _ _ w (lv_sub hl [1, 2, 3, 0] rfl) e0
def fX8_findLast (n : Nat) (a1 : Int32) (I : Nat → Int32) (R : Nat → Nat → Int32) : Option (mSt) :=
  if inb a1 64 = true then
  if inb a1 64 = true then
  if inb a1 64 = true then
  if (getA (setA (setA R 27 a1 (-9)) 28 a1 (-9)) 26 a1) = (-9) then
    some (I, (setA (setA R 27 a1 (-9)) 28 a1 (-9)))
  else
    if inb a1 64 = true then
    if (getA (setA (setA R 27 a1 (-9)) 28 a1 (-9)) 13 a1) = 1 then
      some (I, (setA (setA R 27 a1 (-9)) 28 a1 (-9)))
    else
      fX8_findLast_b45 n n a1 ((I 6) - 1) I (setA (setA R 27 a1 (-9)) 28 a1 (-9))
    else none
  else none
  else none
  else none
set_option maxRecDepth 20000 in
set_option maxHeartbeats 1000000 in
theorem fX8_findLast_w {p : Program} {l : Launch} {e : Env} {s : State} {m : MethodId} {args : Array Value} {below : List Frame} {meth : Method} {c : Code} {D : va_G} {y : ClassId} {h : Nat} {q : Nat → Nat} {n : Nat} {z : mSt} (X : mX p s m args c cX8_findLast 4 wsX8_findLast D y) (hr : meth.sig.returnType = none ∧ meth.locks = false) {a1 : Int32} {I : Nat → Int32} {R : Nat → Nat → Int32} {H : Heap} {locs : List Loc} {ls : Array Slot} (w : mH s D y h q H locs I R) (hl : lv_has ls 4 [(0, .ref h), (1, .int a1)]) (e0 : fX8_findLast n a1 I R = some z) : W p l e rmX8_findLast s m args below meth c H locs 0 0 (MQ below (mQv D y h q (mS y h q s.heap.size) z) args s 0 0 (mS y h q s.heap.size)) (F0 m 0 ls []) := by
  have hx := X.1.1
  have hb := X.1.2.1
  unfold fX8_findLast at e0
  refine lv_aload_n hx hb dX8_findLast_0 rfl (lv_at hl 0 rfl) ?_
  refine m_get X w 27 (by decide) (index := 64) rfl (by decide +kernel) (mfr27 _ _) dX8_findLast_1 ?_
  refine lv_iload_n hx hb dX8_findLast_4 rfl (lv_at hl 1 rfl) ?_
  refine lv_bipush (v := (-9)) hx hb dX8_findLast_5 (by decide) ?_
  refine gd e0 (fun g1 e0 => ?_)
  refine m_ast X w 19 27 (mat27 _ _ _ _ _) (mset27 _ _ _ _ _) g1 dX8_findLast_7 (fun H locs w => ?_)
  refine lv_aload_n hx hb dX8_findLast_8 rfl (lv_at hl 0 rfl) ?_
  refine m_get X w 28 (by decide) (index := 67) rfl (by decide +kernel) (mfr28 _ _) dX8_findLast_9 ?_
  refine lv_iload_n hx hb dX8_findLast_12 rfl (lv_at hl 1 rfl) ?_
  refine lv_bipush (v := (-9)) hx hb dX8_findLast_13 (by decide) ?_
  refine gd e0 (fun g2 e0 => ?_)
  refine m_ast X w 20 28 (mat28 _ _ _ _ _) (mset28 _ _ _ _ _) g2 dX8_findLast_15 (fun H locs w => ?_)
  refine lv_aload_n hx hb dX8_findLast_16 rfl (lv_at hl 0 rfl) ?_
  refine m_get X w 26 (by decide) (index := 61) rfl (by decide +kernel) (mfr26 _ _) dX8_findLast_17 ?_
  refine lv_iload_n hx hb dX8_findLast_20 rfl (lv_at hl 1 rfl) ?_
  refine gd e0 (fun g3 e0 => ?_)
  refine m_ald X w 18 26 (mat26 _ _ _ _ _) g3 dX8_findLast_21 ?_
  refine lv_bipush (v := (-9)) hx hb dX8_findLast_22 (by decide) ?_
  refine lv_icmp_eq (tgt := 37) hx hb dX8_findLast_24 (by decide) (fun c6 => ?_) (fun c6 => ?_)
  · have e0 := itp _ c6 e0
    have e0 := Option.some.inj e0
    subst e0
    exact m_vret X w hr dX8_findLast_37
  · have e0 := itn _ c6 e0
    refine lv_aload_n hx hb dX8_findLast_27 rfl (lv_at hl 0 rfl) ?_
    refine m_get X w 13 (by decide) (index := 37) rfl (by decide +kernel) (mfr13 _ _) dX8_findLast_28 ?_
    refine lv_iload_n hx hb dX8_findLast_31 rfl (lv_at hl 1 rfl) ?_
    refine gd e0 (fun g4 e0 => ?_)
    refine m_ald X w 10 13 (mat13 _ _ _ _ _) g4 dX8_findLast_32 ?_
    refine lv_iconst (v := 1) hx hb dX8_findLast_33 (by decide) ?_
    refine lv_icmp_ne (tgt := 38) hx hb dX8_findLast_34 (by decide) (fun c5 => ?_) (fun c5 => ?_)
    · have e0 := itn _ c5 e0
      refine lv_aload_n hx hb dX8_findLast_38 rfl (lv_at hl 0 rfl) ?_
      refine m_get X w 6 (by decide) (index := 95) rfl (by decide +kernel) (mfi6 _ _) dX8_findLast_39 ?_
      refine lv_iconst (v := 1) hx hb dX8_findLast_42 (by decide) ?_
      refine lv_isub hx hb dX8_findLast_43 ?_
      refine lv_istore_n (lv' := [(2, .int ((I 6) - 1)), (0, .ref h), (1, .int a1)]) hx hb dX8_findLast_44 rfl hl (by decide) rfl (fun ls hl => ?_)
      exact fX8_findLast_b45_w (l := l) X hr n _ _ _ _ _ _ _ w (lv_sub hl [1, 2, 0] rfl) e0
    · have e0 := itp _ c5 e0
      have e0 := Option.some.inj e0
      subst e0
      exact m_vret X w hr dX8_findLast_37
set_option maxRecDepth 20000 in
theorem fX8_findLast_met (l : Launch) (D : va_G) (y : ClassId) (h : Nat) (q : Nat → Nat) (sz n : Nat) (a1 : Int32) (I : Nat → Int32) (R : Nat → Nat → Int32) (z : mSt) (e0 : fX8_findLast n a1 I R = some z) : Met l yX8_findLast wsX8_findLast rmX8_findLast (va_Pc [.ref h, .int a1] (mPre D y h q sz I R)) (mQv D y h q (mS y h q sz) z) 0 0 (mS y h q sz) := by
  refine Met.ofW (cc := cX8_findLast) (maxL := 4) (ret := none) (by decide) rfl ?_
  intro p e s m args below meth c s₁ B hml hv
  obtain ⟨rfl, hsz, hP, hK, hD⟩ := hv
  subst hsz
  have hl := lv_entry ([.ref h, .int a1]) (n := 4) (Nat.le_of_ble_eq_true rfl)
  rw [lg_entry_eq]
  exact fX8_findLast_w (s := s) ⟨⟨B.exec, B.bytes, hml, findClass_of_methodNamed B.named, atoms_spec (ws := wsX8_findLast) B.pre⟩, fun _ h9 => List.mem_cons_of_mem _ (List.mem_append_right _ h9), hK⟩ ⟨B.returns, B.notSynchronized⟩ ⟨hP, mS_D hD, va_S.rf⟩ hl e0
def rmX8_findCheap : Room := { frames := 4, cells := 0, slots := 0, locals := 93 }
def fX8_findCheap_b33 (n : Nat) (k6 : Int32 → (Nat → Int32) → (Nat → Nat → Int32) → Option (mSt)) (a1 : Int32) (t0 : Int32) (t1 : Int32) (I : Nat → Int32) (R : Nat → Nat → Int32) : Option (mSt) :=
  if inb t1 64 = true then
  k6 (a1 + 1) I (setA R 26 t1 t0)
  else none
set_option maxRecDepth 20000 in
set_option maxHeartbeats 1000000 in
theorem fX8_findCheap_b33_w {p : Program} {l : Launch} {e : Env} {s : State} {m : MethodId} {args : Array Value} {below : List Frame} {meth : Method} {c : Code} {D : va_G} {y : ClassId} {h : Nat} {q : Nat → Nat} {n : Nat} {z : mSt} (X : mX p s m args c cX8_findCheap 3 wsX8_findCheap D y) (hr : meth.sig.returnType = none ∧ meth.locks = false) {k6 : Int32 → (Nat → Int32) → (Nat → Nat → Int32) → Option (mSt)} (hk6 : ∀ (a1 : Int32) (I : Nat → Int32) (R : Nat → Nat → Int32) (H : Heap) (locs : List Loc) (ls : Array Slot), mH s D y h q H locs I R → lv_has ls 3 [(0, .ref h), (1, .int a1)] → k6 a1 I R = some z → W p l e rmX8_findCheap s m args below meth c H locs 0 0 (MQ below (mQv D y h q (mS y h q s.heap.size) z) args s 0 0 (mS y h q s.heap.size)) (F0 m 6 ls [])) {a1 : Int32} {t0 : Int32} {t1 : Int32} {I : Nat → Int32} {R : Nat → Nat → Int32} {H : Heap} {locs : List Loc} {ls : Array Slot} (w : mH s D y h q H locs I R) (hl : lv_has ls 3 [(0, .ref h), (1, .int a1)]) (e0 : fX8_findCheap_b33 n k6 a1 t0 t1 I R = some z) : W p l e rmX8_findCheap s m args below meth c H locs 0 0 (MQ below (mQv D y h q (mS y h q s.heap.size) z) args s 0 0 (mS y h q s.heap.size)) (F0 m 33 ls [.int t0, .int t1, .ref (q 26)]) := by
  have hx := X.1.1
  have hb := X.1.2.1
  unfold fX8_findCheap_b33 at e0
  refine gd e0 (fun g7 e0 => ?_)
  refine m_ast X w 18 26 (mat26 _ _ _ _ _) (mset26 _ _ _ _ _) g7 dX8_findCheap_33 (fun H locs w => ?_)
  refine lv_iinc (v := (a1 + 1)) (lv' := [(1, .int (a1 + 1)), (0, .ref h)]) hx hb dX8_findCheap_34 hl (k := 1) rfl rfl (by decide) rfl (fun ls hl => ?_)
  refine lv_goto (tgt := 6) hx hb dX8_findCheap_37 (by decide) ?_
  exact hk6 _ _ _ _ _ _ w (lv_sub hl [1, 0] rfl) e0
def fX8_findCheap_b82 (n : Nat) (k42 : Int32 → (Nat → Int32) → (Nat → Nat → Int32) → Option (mSt)) (k50 : Int32 → Int32 → (Nat → Int32) → (Nat → Nat → Int32) → Option (mSt)) (a2 : Int32) (t0 : Int32) (I : Nat → Int32) (R : Nat → Nat → Int32) : Option (mSt) :=
  k50 t0 (a2 + 1) I R
set_option maxRecDepth 20000 in
set_option maxHeartbeats 1000000 in
theorem fX8_findCheap_b82_w {p : Program} {l : Launch} {e : Env} {s : State} {m : MethodId} {args : Array Value} {below : List Frame} {meth : Method} {c : Code} {D : va_G} {y : ClassId} {h : Nat} {q : Nat → Nat} {n : Nat} {z : mSt} (X : mX p s m args c cX8_findCheap 3 wsX8_findCheap D y) (hr : meth.sig.returnType = none ∧ meth.locks = false) {k42 : Int32 → (Nat → Int32) → (Nat → Nat → Int32) → Option (mSt)} (hk42 : ∀ (a1 : Int32) (I : Nat → Int32) (R : Nat → Nat → Int32) (H : Heap) (locs : List Loc) (ls : Array Slot), mH s D y h q H locs I R → lv_has ls 3 [(0, .ref h), (1, .int a1)] → k42 a1 I R = some z → W p l e rmX8_findCheap s m args below meth c H locs 0 0 (MQ below (mQv D y h q (mS y h q s.heap.size) z) args s 0 0 (mS y h q s.heap.size)) (F0 m 42 ls [])) {k50 : Int32 → Int32 → (Nat → Int32) → (Nat → Nat → Int32) → Option (mSt)} (hk50 : ∀ (a1 : Int32) (a2 : Int32) (I : Nat → Int32) (R : Nat → Nat → Int32) (H : Heap) (locs : List Loc) (ls : Array Slot), mH s D y h q H locs I R → lv_has ls 3 [(0, .ref h), (1, .int a1), (2, .int a2)] → k50 a1 a2 I R = some z → W p l e rmX8_findCheap s m args below meth c H locs 0 0 (MQ below (mQv D y h q (mS y h q s.heap.size) z) args s 0 0 (mS y h q s.heap.size)) (F0 m 50 ls [])) {a2 : Int32} {t0 : Int32} {I : Nat → Int32} {R : Nat → Nat → Int32} {H : Heap} {locs : List Loc} {ls : Array Slot} (w : mH s D y h q H locs I R) (hl : lv_has ls 3 [(0, .ref h), (2, .int a2)]) (e0 : fX8_findCheap_b82 n k42 k50 a2 t0 I R = some z) : W p l e rmX8_findCheap s m args below meth c H locs 0 0 (MQ below (mQv D y h q (mS y h q s.heap.size) z) args s 0 0 (mS y h q s.heap.size)) (F0 m 82 ls [.int t0]) := by
  have hx := X.1.1
  have hb := X.1.2.1
  unfold fX8_findCheap_b82 at e0
  refine lv_istore_n (lv' := [(1, .int t0), (0, .ref h), (2, .int a2)]) hx hb dX8_findCheap_82 rfl hl (by decide) rfl (fun ls hl => ?_)
  refine lv_iinc (v := (a2 + 1)) (lv' := [(2, .int (a2 + 1)), (1, .int t0), (0, .ref h)]) hx hb dX8_findCheap_83 hl (k := 2) rfl rfl (by decide) rfl (fun ls hl => ?_)
  refine lv_goto (tgt := 50) hx hb dX8_findCheap_86 (by decide) ?_
  exact hk50 _ _ _ _ _ _ _ w (lv_sub hl [2, 1, 0] rfl) e0
def fX8_findCheap_b77 (n : Nat) (k42 : Int32 → (Nat → Int32) → (Nat → Nat → Int32) → Option (mSt)) (k50 : Int32 → Int32 → (Nat → Int32) → (Nat → Nat → Int32) → Option (mSt)) (a2 : Int32) (I : Nat → Int32) (R : Nat → Nat → Int32) : Option (mSt) :=
  fX8_findCheap_b82 n k42 k50 a2 1 I R
set_option maxRecDepth 20000 in
set_option maxHeartbeats 1000000 in
theorem fX8_findCheap_b77_w {p : Program} {l : Launch} {e : Env} {s : State} {m : MethodId} {args : Array Value} {below : List Frame} {meth : Method} {c : Code} {D : va_G} {y : ClassId} {h : Nat} {q : Nat → Nat} {n : Nat} {z : mSt} (X : mX p s m args c cX8_findCheap 3 wsX8_findCheap D y) (hr : meth.sig.returnType = none ∧ meth.locks = false) {k42 : Int32 → (Nat → Int32) → (Nat → Nat → Int32) → Option (mSt)} (hk42 : ∀ (a1 : Int32) (I : Nat → Int32) (R : Nat → Nat → Int32) (H : Heap) (locs : List Loc) (ls : Array Slot), mH s D y h q H locs I R → lv_has ls 3 [(0, .ref h), (1, .int a1)] → k42 a1 I R = some z → W p l e rmX8_findCheap s m args below meth c H locs 0 0 (MQ below (mQv D y h q (mS y h q s.heap.size) z) args s 0 0 (mS y h q s.heap.size)) (F0 m 42 ls [])) {k50 : Int32 → Int32 → (Nat → Int32) → (Nat → Nat → Int32) → Option (mSt)} (hk50 : ∀ (a1 : Int32) (a2 : Int32) (I : Nat → Int32) (R : Nat → Nat → Int32) (H : Heap) (locs : List Loc) (ls : Array Slot), mH s D y h q H locs I R → lv_has ls 3 [(0, .ref h), (1, .int a1), (2, .int a2)] → k50 a1 a2 I R = some z → W p l e rmX8_findCheap s m args below meth c H locs 0 0 (MQ below (mQv D y h q (mS y h q s.heap.size) z) args s 0 0 (mS y h q s.heap.size)) (F0 m 50 ls [])) {a2 : Int32} {I : Nat → Int32} {R : Nat → Nat → Int32} {H : Heap} {locs : List Loc} {ls : Array Slot} (w : mH s D y h q H locs I R) (hl : lv_has ls 3 [(0, .ref h), (2, .int a2)]) (e0 : fX8_findCheap_b77 n k42 k50 a2 I R = some z) : W p l e rmX8_findCheap s m args below meth c H locs 0 0 (MQ below (mQv D y h q (mS y h q s.heap.size) z) args s 0 0 (mS y h q s.heap.size)) (F0 m 77 ls []) := by
  have hx := X.1.1
  have hb := X.1.2.1
  unfold fX8_findCheap_b77 at e0
  refine lv_iconst (v := 1) hx hb dX8_findCheap_77 (by decide) ?_
  refine lv_goto (tgt := 82) hx hb dX8_findCheap_78 (by decide) ?_
  exact fX8_findCheap_b82_w (l := l) X hr hk42 hk50 w (lv_sub hl [0, 1] rfl) e0
def fX8_findCheap_b73 (n : Nat) (k42 : Int32 → (Nat → Int32) → (Nat → Nat → Int32) → Option (mSt)) (k50 : Int32 → Int32 → (Nat → Int32) → (Nat → Nat → Int32) → Option (mSt)) (a1 : Int32) (a2 : Int32) (I : Nat → Int32) (R : Nat → Nat → Int32) : Option (mSt) :=
  if a1 = 0 then
    fX8_findCheap_b82 n k42 k50 a2 0 I R
  else
    fX8_findCheap_b77 n k42 k50 a2 I R
set_option maxRecDepth 20000 in
set_option maxHeartbeats 1000000 in
theorem fX8_findCheap_b73_w {p : Program} {l : Launch} {e : Env} {s : State} {m : MethodId} {args : Array Value} {below : List Frame} {meth : Method} {c : Code} {D : va_G} {y : ClassId} {h : Nat} {q : Nat → Nat} {n : Nat} {z : mSt} (X : mX p s m args c cX8_findCheap 3 wsX8_findCheap D y) (hr : meth.sig.returnType = none ∧ meth.locks = false) {k42 : Int32 → (Nat → Int32) → (Nat → Nat → Int32) → Option (mSt)} (hk42 : ∀ (a1 : Int32) (I : Nat → Int32) (R : Nat → Nat → Int32) (H : Heap) (locs : List Loc) (ls : Array Slot), mH s D y h q H locs I R → lv_has ls 3 [(0, .ref h), (1, .int a1)] → k42 a1 I R = some z → W p l e rmX8_findCheap s m args below meth c H locs 0 0 (MQ below (mQv D y h q (mS y h q s.heap.size) z) args s 0 0 (mS y h q s.heap.size)) (F0 m 42 ls [])) {k50 : Int32 → Int32 → (Nat → Int32) → (Nat → Nat → Int32) → Option (mSt)} (hk50 : ∀ (a1 : Int32) (a2 : Int32) (I : Nat → Int32) (R : Nat → Nat → Int32) (H : Heap) (locs : List Loc) (ls : Array Slot), mH s D y h q H locs I R → lv_has ls 3 [(0, .ref h), (1, .int a1), (2, .int a2)] → k50 a1 a2 I R = some z → W p l e rmX8_findCheap s m args below meth c H locs 0 0 (MQ below (mQv D y h q (mS y h q s.heap.size) z) args s 0 0 (mS y h q s.heap.size)) (F0 m 50 ls [])) {a1 : Int32} {a2 : Int32} {I : Nat → Int32} {R : Nat → Nat → Int32} {H : Heap} {locs : List Loc} {ls : Array Slot} (w : mH s D y h q H locs I R) (hl : lv_has ls 3 [(0, .ref h), (1, .int a1), (2, .int a2)]) (e0 : fX8_findCheap_b73 n k42 k50 a1 a2 I R = some z) : W p l e rmX8_findCheap s m args below meth c H locs 0 0 (MQ below (mQv D y h q (mS y h q s.heap.size) z) args s 0 0 (mS y h q s.heap.size)) (F0 m 73 ls []) := by
  have hx := X.1.1
  have hb := X.1.2.1
  unfold fX8_findCheap_b73 at e0
  refine lv_iload_n hx hb dX8_findCheap_73 rfl (lv_at hl 1 rfl) ?_
  refine lv_if_eq (tgt := 81) hx hb dX8_findCheap_74 (by decide) (fun c17 => ?_) (fun c17 => ?_)
  · have e0 := itp _ c17 e0
    refine lv_iconst (v := 0) hx hb dX8_findCheap_81 (by decide) ?_
    exact fX8_findCheap_b82_w (l := l) X hr hk42 hk50 w (lv_sub hl [0, 2] rfl) e0
  · have e0 := itn _ c17 e0
    exact fX8_findCheap_b77_w (l := l) X hr hk42 hk50 w (lv_sub hl [0, 2] rfl) e0
def fX8_findCheap_b50 (n : Nat) (k42 : Int32 → (Nat → Int32) → (Nat → Nat → Int32) → Option (mSt)) : Nat → Int32 → Int32 → (Nat → Int32) → (Nat → Nat → Int32) → Option (mSt)
  | 0, _, _, _, _ => none
  | j + 1, a1, a2, I, R =>
    if 64 ≤ a2 then
      k42 a1 I R
    else
      if inb a2 64 = true then
      if (getA R 13 a2) = 0 then
        (fX8_getsCheaper n a2 I R).bind fun z12 =>
        if z12.1 = 0 then
          fX8_findCheap_b73 n k42 (fX8_findCheap_b50 n k42 j) a1 a2 z12.2.1 z12.2.2
        else
          fX8_findCheap_b77 n k42 (fX8_findCheap_b50 n k42 j) a2 z12.2.1 z12.2.2
      else
        fX8_findCheap_b73 n k42 (fX8_findCheap_b50 n k42 j) a1 a2 I R
      else none
set_option maxRecDepth 20000 in
set_option maxHeartbeats 1000000 in
theorem fX8_findCheap_b50_w {p : Program} {l : Launch} {e : Env} {s : State} {m : MethodId} {args : Array Value} {below : List Frame} {meth : Method} {c : Code} {D : va_G} {y : ClassId} {h : Nat} {q : Nat → Nat} {n : Nat} {z : mSt} (X : mX p s m args c cX8_findCheap 3 wsX8_findCheap D y) (hr : meth.sig.returnType = none ∧ meth.locks = false) {k42 : Int32 → (Nat → Int32) → (Nat → Nat → Int32) → Option (mSt)} (hk42 : ∀ (a1 : Int32) (I : Nat → Int32) (R : Nat → Nat → Int32) (H : Heap) (locs : List Loc) (ls : Array Slot), mH s D y h q H locs I R → lv_has ls 3 [(0, .ref h), (1, .int a1)] → k42 a1 I R = some z → W p l e rmX8_findCheap s m args below meth c H locs 0 0 (MQ below (mQv D y h q (mS y h q s.heap.size) z) args s 0 0 (mS y h q s.heap.size)) (F0 m 42 ls [])) : ∀ (j : Nat) (a1 : Int32) (a2 : Int32) (I : Nat → Int32) (R : Nat → Nat → Int32) (H : Heap) (locs : List Loc) (ls : Array Slot), mH s D y h q H locs I R → lv_has ls 3 [(0, .ref h), (1, .int a1), (2, .int a2)] → fX8_findCheap_b50 n k42 j a1 a2 I R = some z → W p l e rmX8_findCheap s m args below meth c H locs 0 0 (MQ below (mQv D y h q (mS y h q s.heap.size) z) args s 0 0 (mS y h q s.heap.size)) (F0 m 50 ls []) := by
  have hx := X.1.1
  have hb := X.1.2.1
  intro j
  induction j with
  | zero =>
    intro a1 a2 I R H locs ls w hl e0
    cases e0
  | succ j ih =>
    intro a1 a2 I R H locs ls w hl e0
    rw [fX8_findCheap_b50] at e0
    refine lv_iload_n hx hb dX8_findCheap_50 rfl (lv_at hl 2 rfl) ?_
    refine lv_bipush (v := 64) hx hb dX8_findCheap_51 (by decide) ?_
    refine lv_icmp_ge (tgt := 89) hx hb dX8_findCheap_53 (by decide) (fun c16 => ?_) (fun c16 => ?_)
    · have e0 := itp _ c16 e0
      refine lv_goto (tgt := 42) hx hb dX8_findCheap_89 (by decide) ?_
      exact hk42 _ _ _ _ _ _ w (lv_sub hl [0, 1] rfl) e0
    · have e0 := itn _ c16 e0
      refine lv_aload_n hx hb dX8_findCheap_56 rfl (lv_at hl 0 rfl) ?_
      refine m_get X w 13 (by decide) (index := 37) rfl (by decide +kernel) (mfr13 _ _) dX8_findCheap_57 ?_
      refine lv_iload_n hx hb dX8_findCheap_60 rfl (lv_at hl 2 rfl) ?_
      refine gd e0 (fun g11 e0 => ?_)
      refine m_ald X w 10 13 (mat13 _ _ _ _ _) g11 dX8_findCheap_61 ?_
      refine lv_if_ne (tgt := 73) hx hb dX8_findCheap_62 (by decide) (fun c15 => ?_) (fun c15 => ?_)
      · have e0 := itn _ c15 e0
        exact fX8_findCheap_b73_w (l := l) X hr hk42 ih w (lv_sub hl [0, 1, 2] rfl) e0
      · have e0 := itp _ c15 e0
        refine lv_aload_n hx hb dX8_findCheap_65 rfl (lv_at hl 0 rfl) ?_
        refine lv_iload_n hx hb dX8_findCheap_66 rfl (lv_at hl 2 rfl) ?_
        refine bd e0 (fun z12 e13 e0 => ?_)
        refine m_calli X w (n := 1) (As := [.int a2]) (rest := []) (fX8_getsCheaper_met l _ _ _ _ _ _ _ _ _ _ e13) gX8_findCheap_X8_getsCheaper rfl rfl rfl (by decide +kernel) ⟨Nat.le_of_ble_eq_true rfl, Nat.le_of_ble_eq_true rfl⟩ rfl hl.1 rfl (Nat.le_of_ble_eq_true rfl) dX8_findCheap_67 (fun H locs w => ?_)
        refine lv_if_ne (tgt := 77) hx hb dX8_findCheap_70 (by decide) (fun c14 => ?_) (fun c14 => ?_)
        · have e0 := itn _ c14 e0
          exact fX8_findCheap_b77_w (l := l) X hr hk42 ih w (lv_sub hl [0, 2] rfl) e0
        · have e0 := itp _ c14 e0
          exact fX8_findCheap_b73_w (l := l) X hr hk42 ih w (lv_sub hl [0, 1, 2] rfl) e0
def fX8_findCheap_b94 (n : Nat) : Nat → Int32 → (Nat → Int32) → (Nat → Nat → Int32) → Option (mSt)
  | 0, _, _, _ => none
  | j + 1, a2, I, R =>
    if 64 ≤ a2 then
      some (I, R)
    else
      (fX8_findLast n a2 I R).bind fun z8 =>
      fX8_findCheap_b94 n j (a2 + 1) z8.1 z8.2
set_option maxRecDepth 20000 in
set_option maxHeartbeats 1000000 in
theorem fX8_findCheap_b94_w {p : Program} {l : Launch} {e : Env} {s : State} {m : MethodId} {args : Array Value} {below : List Frame} {meth : Method} {c : Code} {D : va_G} {y : ClassId} {h : Nat} {q : Nat → Nat} {n : Nat} {z : mSt} (X : mX p s m args c cX8_findCheap 3 wsX8_findCheap D y) (hr : meth.sig.returnType = none ∧ meth.locks = false) : ∀ (j : Nat) (a2 : Int32) (I : Nat → Int32) (R : Nat → Nat → Int32) (H : Heap) (locs : List Loc) (ls : Array Slot), mH s D y h q H locs I R → lv_has ls 3 [(0, .ref h), (2, .int a2)] → fX8_findCheap_b94 n j a2 I R = some z → W p l e rmX8_findCheap s m args below meth c H locs 0 0 (MQ below (mQv D y h q (mS y h q s.heap.size) z) args s 0 0 (mS y h q s.heap.size)) (F0 m 94 ls []) := by
  have hx := X.1.1
  have hb := X.1.2.1
  intro j
  induction j with
  | zero =>
    intro a2 I R H locs ls w hl e0
    cases e0
  | succ j ih =>
    intro a2 I R H locs ls w hl e0
    rw [fX8_findCheap_b94] at e0
    refine lv_iload_n hx hb dX8_findCheap_94 rfl (lv_at hl 1 rfl) ?_
    refine lv_bipush (v := 64) hx hb dX8_findCheap_95 (by decide) ?_
    refine lv_icmp_ge (tgt := 111) hx hb dX8_findCheap_97 (by decide) (fun c10 => ?_) (fun c10 => ?_)
    · have e0 := itp _ c10 e0
      have e0 := Option.some.inj e0
      subst e0
      exact m_vret X w hr dX8_findCheap_111
    · have e0 := itn _ c10 e0
      refine lv_aload_n hx hb dX8_findCheap_100 rfl (lv_at hl 0 rfl) ?_
      refine lv_iload_n hx hb dX8_findCheap_101 rfl (lv_at hl 1 rfl) ?_
      refine bd e0 (fun z8 e9 e0 => ?_)
      refine m_callv X w (n := 1) (As := [.int a2]) (rest := []) (fX8_findLast_met l _ _ _ _ _ _ _ _ _ _ e9) gX8_findCheap_X8_findLast rfl rfl rfl (by decide +kernel) ⟨Nat.le_of_ble_eq_true rfl, Nat.le_of_ble_eq_true rfl⟩ rfl hl.1 rfl (Nat.le_of_ble_eq_true rfl) dX8_findCheap_102 (fun H locs w => ?_)
      refine lv_iinc (v := (a2 + 1)) (lv' := [(2, .int (a2 + 1)), (0, .ref h)]) hx hb dX8_findCheap_105 hl (k := 1) rfl rfl (by decide) rfl (fun ls hl => ?_)
      refine lv_goto (tgt := 94) hx hb dX8_findCheap_108 (by decide) ?_
      exact ih _ _ _ _ _ _ w (lv_sub hl [1, 0] rfl) e0
def fX8_findCheap_b42 (n : Nat) : Nat → Int32 → (Nat → Int32) → (Nat → Nat → Int32) → Option (mSt)
  | 0, _, _, _ => none
  | j + 1, a1, I, R =>
    if a1 = 0 then
      fX8_findCheap_b94 n n 0 I R
    else
      fX8_findCheap_b50 n (fX8_findCheap_b42 n j) n 0 0 I R
set_option maxRecDepth 20000 in
set_option maxHeartbeats 1000000 in
theorem fX8_findCheap_b42_w {p : Program} {l : Launch} {e : Env} {s : State} {m : MethodId} {args : Array Value} {below : List Frame} {meth : Method} {c : Code} {D : va_G} {y : ClassId} {h : Nat} {q : Nat → Nat} {n : Nat} {z : mSt} (X : mX p s m args c cX8_findCheap 3 wsX8_findCheap D y) (hr : meth.sig.returnType = none ∧ meth.locks = false) : ∀ (j : Nat) (a1 : Int32) (I : Nat → Int32) (R : Nat → Nat → Int32) (H : Heap) (locs : List Loc) (ls : Array Slot), mH s D y h q H locs I R → lv_has ls 3 [(0, .ref h), (1, .int a1)] → fX8_findCheap_b42 n j a1 I R = some z → W p l e rmX8_findCheap s m args below meth c H locs 0 0 (MQ below (mQv D y h q (mS y h q s.heap.size) z) args s 0 0 (mS y h q s.heap.size)) (F0 m 42 ls []) := by
  have hx := X.1.1
  have hb := X.1.2.1
  intro j
  induction j with
  | zero =>
    intro a1 I R H locs ls w hl e0
    cases e0
  | succ j ih =>
    intro a1 I R H locs ls w hl e0
    rw [fX8_findCheap_b42] at e0
    refine lv_iload_n hx hb dX8_findCheap_42 rfl (lv_at hl 1 rfl) ?_
    refine lv_if_eq (tgt := 92) hx hb dX8_findCheap_43 (by decide) (fun c6 => ?_) (fun c6 => ?_)
    · have e0 := itp _ c6 e0
      refine lv_iconst (v := 0) hx hb dX8_findCheap_92 (by decide) ?_
      refine lv_istore_n (lv' := [(2, .int 0), (0, .ref h), (1, .int a1)]) hx hb dX8_findCheap_93 rfl hl (by decide) rfl (fun ls hl => ?_)
      exact fX8_findCheap_b94_w (l := l) X hr n _ _ _ _ _ _ w (lv_sub hl [1, 0] rfl) e0
    · have e0 := itn _ c6 e0
      refine lv_iconst (v := 0) hx hb dX8_findCheap_46 (by decide) ?_
      refine lv_istore_n (lv' := [(1, .int 0), (0, .ref h)]) hx hb dX8_findCheap_47 rfl hl (by decide) rfl (fun ls hl => ?_)
      refine lv_iconst (v := 0) hx hb dX8_findCheap_48 (by decide) ?_
      refine lv_istore_n (lv' := [(2, .int 0), (1, .int 0), (0, .ref h)]) hx hb dX8_findCheap_49 rfl hl (by decide) rfl (fun ls hl => ?_)
      exact fX8_findCheap_b50_w (l := l) X hr ih n _ _ _ _ _ _ _ w (lv_sub hl [2, 1, 0] rfl) e0
def fX8_findCheap_b6 (n : Nat) : Nat → Int32 → (Nat → Int32) → (Nat → Nat → Int32) → Option (mSt)
  | 0, _, _, _ => none
  | j + 1, a1, I, R =>
    if 64 ≤ a1 then
      fX8_findCheap_b42 n n 1 I R
    else
      if inb a1 64 = true then
      if (getA R 13 a1) = 1 then
        fX8_findCheap_b33 n (fX8_findCheap_b6 n j) a1 0 a1 I R
      else
        fX8_findCheap_b33 n (fX8_findCheap_b6 n j) a1 (-9) a1 I R
      else none
set_option maxRecDepth 20000 in
set_option maxHeartbeats 1000000 in
theorem fX8_findCheap_b6_w {p : Program} {l : Launch} {e : Env} {s : State} {m : MethodId} {args : Array Value} {below : List Frame} {meth : Method} {c : Code} {D : va_G} {y : ClassId} {h : Nat} {q : Nat → Nat} {n : Nat} {z : mSt} (X : mX p s m args c cX8_findCheap 3 wsX8_findCheap D y) (hr : meth.sig.returnType = none ∧ meth.locks = false) : ∀ (j : Nat) (a1 : Int32) (I : Nat → Int32) (R : Nat → Nat → Int32) (H : Heap) (locs : List Loc) (ls : Array Slot), mH s D y h q H locs I R → lv_has ls 3 [(0, .ref h), (1, .int a1)] → fX8_findCheap_b6 n j a1 I R = some z → W p l e rmX8_findCheap s m args below meth c H locs 0 0 (MQ below (mQv D y h q (mS y h q s.heap.size) z) args s 0 0 (mS y h q s.heap.size)) (F0 m 6 ls []) := by
  have hx := X.1.1
  have hb := X.1.2.1
  intro j
  induction j with
  | zero =>
    intro a1 I R H locs ls w hl e0
    cases e0
  | succ j ih =>
    intro a1 I R H locs ls w hl e0
    rw [fX8_findCheap_b6] at e0
    refine lv_iload_n hx hb dX8_findCheap_6 rfl (lv_at hl 1 rfl) ?_
    refine lv_bipush (v := 64) hx hb dX8_findCheap_7 (by decide) ?_
    refine lv_icmp_ge (tgt := 40) hx hb dX8_findCheap_9 (by decide) (fun c5 => ?_) (fun c5 => ?_)
    · have e0 := itp _ c5 e0
      refine lv_iconst (v := 1) hx hb dX8_findCheap_40 (by decide) ?_
      refine lv_istore_n (lv' := [(1, .int 1), (0, .ref h)]) hx hb dX8_findCheap_41 rfl hl (by decide) rfl (fun ls hl => ?_)
      exact fX8_findCheap_b42_w (l := l) X hr n _ _ _ _ _ _ w (lv_sub hl [1, 0] rfl) e0
    · have e0 := itn _ c5 e0
      refine lv_aload_n hx hb dX8_findCheap_12 rfl (lv_at hl 0 rfl) ?_
      refine m_get X w 26 (by decide) (index := 61) rfl (by decide +kernel) (mfr26 _ _) dX8_findCheap_13 ?_
      refine lv_iload_n hx hb dX8_findCheap_16 rfl (lv_at hl 1 rfl) ?_
      refine lv_aload_n hx hb dX8_findCheap_17 rfl (lv_at hl 0 rfl) ?_
      refine m_get X w 13 (by decide) (index := 37) rfl (by decide +kernel) (mfr13 _ _) dX8_findCheap_18 ?_
      refine lv_iload_n hx hb dX8_findCheap_21 rfl (lv_at hl 1 rfl) ?_
      refine gd e0 (fun g3 e0 => ?_)
      refine m_ald X w 10 13 (mat13 _ _ _ _ _) g3 dX8_findCheap_22 ?_
      refine lv_iconst (v := 1) hx hb dX8_findCheap_23 (by decide) ?_
      refine lv_icmp_ne (tgt := 31) hx hb dX8_findCheap_24 (by decide) (fun c4 => ?_) (fun c4 => ?_)
      · have e0 := itn _ c4 e0
        refine lv_bipush (v := (-9)) hx hb dX8_findCheap_31 (by decide) ?_
        exact fX8_findCheap_b33_w (l := l) X hr ih w (lv_sub hl [0, 1] rfl) e0
      · have e0 := itp _ c4 e0
        refine lv_iconst (v := 0) hx hb dX8_findCheap_27 (by decide) ?_
        refine lv_goto (tgt := 33) hx hb dX8_findCheap_28 (by decide) ?_
        exact fX8_findCheap_b33_w (l := l) X hr ih w (lv_sub hl [0, 1] rfl) e0
def fX8_findCheap (n : Nat) (I : Nat → Int32) (R : Nat → Nat → Int32) : Option (mSt) :=
  (fX8_findHolds n I R).bind fun z1 =>
  fX8_findCheap_b6 n n 0 z1.1 z1.2
set_option maxRecDepth 20000 in
set_option maxHeartbeats 1000000 in
theorem fX8_findCheap_w {p : Program} {l : Launch} {e : Env} {s : State} {m : MethodId} {args : Array Value} {below : List Frame} {meth : Method} {c : Code} {D : va_G} {y : ClassId} {h : Nat} {q : Nat → Nat} {n : Nat} {z : mSt} (X : mX p s m args c cX8_findCheap 3 wsX8_findCheap D y) (hr : meth.sig.returnType = none ∧ meth.locks = false) {I : Nat → Int32} {R : Nat → Nat → Int32} {H : Heap} {locs : List Loc} {ls : Array Slot} (w : mH s D y h q H locs I R) (hl : lv_has ls 3 [(0, .ref h)]) (e0 : fX8_findCheap n I R = some z) : W p l e rmX8_findCheap s m args below meth c H locs 0 0 (MQ below (mQv D y h q (mS y h q s.heap.size) z) args s 0 0 (mS y h q s.heap.size)) (F0 m 0 ls []) := by
  have hx := X.1.1
  have hb := X.1.2.1
  unfold fX8_findCheap at e0
  refine lv_aload_n hx hb dX8_findCheap_0 rfl (lv_at hl 0 rfl) ?_
  refine bd e0 (fun z1 e2 e0 => ?_)
  refine m_callv X w (n := 0) (As := []) (rest := []) (fX8_findHolds_met l _ _ _ _ _ _  _ _ _ e2) gX8_findCheap_X8_findHolds rfl rfl rfl (by decide +kernel) ⟨Nat.le_of_ble_eq_true rfl, Nat.le_of_ble_eq_true rfl⟩ rfl hl.1 rfl (Nat.le_of_ble_eq_true rfl) dX8_findCheap_1 (fun H locs w => ?_)
  refine lv_iconst (v := 0) hx hb dX8_findCheap_4 (by decide) ?_
  refine lv_istore_n (lv' := [(1, .int 0), (0, .ref h)]) hx hb dX8_findCheap_5 rfl hl (by decide) rfl (fun ls hl => ?_)
  exact fX8_findCheap_b6_w (l := l) X hr n _ _ _ _ _ _ w (lv_sub hl [1, 0] rfl) e0
set_option maxRecDepth 20000 in
theorem fX8_findCheap_met (l : Launch) (D : va_G) (y : ClassId) (h : Nat) (q : Nat → Nat) (sz n : Nat) (I : Nat → Int32) (R : Nat → Nat → Int32) (z : mSt) (e0 : fX8_findCheap n I R = some z) : Met l yX8_findCheap wsX8_findCheap rmX8_findCheap (va_Pc [.ref h] (mPre D y h q sz I R)) (mQv D y h q (mS y h q sz) z) 0 0 (mS y h q sz) := by
  refine Met.ofW (cc := cX8_findCheap) (maxL := 3) (ret := none) (by decide) rfl ?_
  intro p e s m args below meth c s₁ B hml hv
  obtain ⟨rfl, hsz, hP, hK, hD⟩ := hv
  subst hsz
  have hl := lv_entry ([.ref h]) (n := 3) (Nat.le_of_ble_eq_true rfl)
  rw [lg_entry_eq]
  exact fX8_findCheap_w (s := s) ⟨⟨B.exec, B.bytes, hml, findClass_of_methodNamed B.named, atoms_spec (ws := wsX8_findCheap) B.pre⟩, fun _ h9 => List.mem_cons_of_mem _ (List.mem_append_right _ h9), hK⟩ ⟨B.returns, B.notSynchronized⟩ ⟨hP, mS_D hD, va_S.rf⟩ hl e0
def rmX8_countHeld : Room := { frames := 0, cells := 0, slots := 0, locals := 0 }
def fX8_countHeld_b4 (n : Nat) : Nat → Int32 → Int32 → Int32 → (Nat → Int32) → (Nat → Nat → Int32) → Option (Int32 × mSt)
  | 0, _, _, _, _, _ => none
  | j + 1, a1, a2, a3, I, R =>
    if 16 ≤ a3 then
      some (a2, I, R)
    else
      if inb ((16 * a1) + a3) 64 = true then
      fX8_countHeld_b4 n j a1 (a2 + (getA R 22 ((16 * a1) + a3))) (a3 + 1) I R
      else none
set_option maxRecDepth 20000 in
set_option maxHeartbeats 1000000 in
theorem fX8_countHeld_b4_w {p : Program} {l : Launch} {e : Env} {s : State} {m : MethodId} {args : Array Value} {below : List Frame} {meth : Method} {c : Code} {D : va_G} {y : ClassId} {h : Nat} {q : Nat → Nat} {n : Nat} {z : Int32 × mSt} (X : mX p s m args c cX8_countHeld 4 wsX8_countHeld D y) (hr : meth.sig.returnType = some .int ∧ meth.locks = false) : ∀ (j : Nat) (a1 : Int32) (a2 : Int32) (a3 : Int32) (I : Nat → Int32) (R : Nat → Nat → Int32) (H : Heap) (locs : List Loc) (ls : Array Slot), mH s D y h q H locs I R → lv_has ls 4 [(0, .ref h), (1, .int a1), (2, .int a2), (3, .int a3)] → fX8_countHeld_b4 n j a1 a2 a3 I R = some z → W p l e rmX8_countHeld s m args below meth c H locs 0 0 (MQ below (mQi D y h q (mS y h q s.heap.size) z) args s 0 0 (mS y h q s.heap.size)) (F0 m 4 ls []) := by
  have hx := X.1.1
  have hb := X.1.2.1
  intro j
  induction j with
  | zero =>
    intro a1 a2 a3 I R H locs ls w hl e0
    cases e0
  | succ j ih =>
    intro a1 a2 a3 I R H locs ls w hl e0
    rw [fX8_countHeld_b4] at e0
    refine lv_iload_n hx hb dX8_countHeld_4 rfl (lv_at hl 3 rfl) ?_
    refine lv_bipush (v := 16) hx hb dX8_countHeld_5 (by decide) ?_
    refine lv_icmp_ge (tgt := 30) hx hb dX8_countHeld_7 (by decide) (fun c2 => ?_) (fun c2 => ?_)
    · have e0 := itp _ c2 e0
      refine lv_iload_n hx hb dX8_countHeld_30 rfl (lv_at hl 2 rfl) ?_
      have e0 := Option.some.inj e0
      subst e0
      exact m_iret X w hr dX8_countHeld_31
    · have e0 := itn _ c2 e0
      refine lv_iload_n hx hb dX8_countHeld_10 rfl (lv_at hl 2 rfl) ?_
      refine lv_aload_n hx hb dX8_countHeld_11 rfl (lv_at hl 0 rfl) ?_
      refine m_get X w 22 (by decide) (index := 52) rfl (by decide +kernel) (mfr22 _ _) dX8_countHeld_12 ?_
      refine lv_bipush (v := 16) hx hb dX8_countHeld_15 (by decide) ?_
      refine lv_iload_n hx hb dX8_countHeld_17 rfl (lv_at hl 1 rfl) ?_
      refine lv_imul hx hb dX8_countHeld_18 ?_
      refine lv_iload_n hx hb dX8_countHeld_19 rfl (lv_at hl 3 rfl) ?_
      refine lv_iadd hx hb dX8_countHeld_20 ?_
      refine gd e0 (fun g1 e0 => ?_)
      refine m_ald X w 15 22 (mat22 _ _ _ _ _) g1 dX8_countHeld_21 ?_
      refine lv_iadd hx hb dX8_countHeld_22 ?_
      refine lv_istore_n (lv' := [(2, .int (a2 + (getA R 22 ((16 * a1) + a3)))), (0, .ref h), (1, .int a1), (3, .int a3)]) hx hb dX8_countHeld_23 rfl hl (by decide) rfl (fun ls hl => ?_)
      refine lv_iinc (v := (a3 + 1)) (lv' := [(3, .int (a3 + 1)), (2, .int (a2 + (getA R 22 ((16 * a1) + a3)))), (0, .ref h), (1, .int a1)]) hx hb dX8_countHeld_24 hl (k := 3) rfl rfl (by decide) rfl (fun ls hl => ?_)
      refine lv_goto (tgt := 4) hx hb dX8_countHeld_27 (by decide) ?_
      exact ih _ _ _ _ _ _ _ _ w (lv_sub hl [2, 3, 1, 0] rfl) e0
def fX8_countHeld (n : Nat) (a1 : Int32) (I : Nat → Int32) (R : Nat → Nat → Int32) : Option (Int32 × mSt) :=
  fX8_countHeld_b4 n n a1 0 0 I R
set_option maxRecDepth 20000 in
set_option maxHeartbeats 1000000 in
theorem fX8_countHeld_w {p : Program} {l : Launch} {e : Env} {s : State} {m : MethodId} {args : Array Value} {below : List Frame} {meth : Method} {c : Code} {D : va_G} {y : ClassId} {h : Nat} {q : Nat → Nat} {n : Nat} {z : Int32 × mSt} (X : mX p s m args c cX8_countHeld 4 wsX8_countHeld D y) (hr : meth.sig.returnType = some .int ∧ meth.locks = false) {a1 : Int32} {I : Nat → Int32} {R : Nat → Nat → Int32} {H : Heap} {locs : List Loc} {ls : Array Slot} (w : mH s D y h q H locs I R) (hl : lv_has ls 4 [(0, .ref h), (1, .int a1)]) (e0 : fX8_countHeld n a1 I R = some z) : W p l e rmX8_countHeld s m args below meth c H locs 0 0 (MQ below (mQi D y h q (mS y h q s.heap.size) z) args s 0 0 (mS y h q s.heap.size)) (F0 m 0 ls []) := by
  have hx := X.1.1
  have hb := X.1.2.1
  unfold fX8_countHeld at e0
  refine lv_iconst (v := 0) hx hb dX8_countHeld_0 (by decide) ?_
  refine lv_istore_n (lv' := [(2, .int 0), (0, .ref h), (1, .int a1)]) hx hb dX8_countHeld_1 rfl hl (by decide) rfl (fun ls hl => ?_)
  refine lv_iconst (v := 0) hx hb dX8_countHeld_2 (by decide) ?_
  refine lv_istore_n (lv' := [(3, .int 0), (2, .int 0), (0, .ref h), (1, .int a1)]) hx hb dX8_countHeld_3 rfl hl (by decide) rfl (fun ls hl => ?_)
  exact fX8_countHeld_b4_w (l := l) X hr n _ _ _ _ _ _ _ _ w (lv_sub hl [2, 3, 1, 0] rfl) e0
set_option maxRecDepth 20000 in
theorem fX8_countHeld_met (l : Launch) (D : va_G) (y : ClassId) (h : Nat) (q : Nat → Nat) (sz n : Nat) (a1 : Int32) (I : Nat → Int32) (R : Nat → Nat → Int32) (z : Int32 × mSt) (e0 : fX8_countHeld n a1 I R = some z) : Met l yX8_countHeld wsX8_countHeld rmX8_countHeld (va_Pc [.ref h, .int a1] (mPre D y h q sz I R)) (mQi D y h q (mS y h q sz) z) 0 0 (mS y h q sz) := by
  refine Met.ofW (cc := cX8_countHeld) (maxL := 4) (ret := some .int) (by decide) rfl ?_
  intro p e s m args below meth c s₁ B hml hv
  obtain ⟨rfl, hsz, hP, hK, hD⟩ := hv
  subst hsz
  have hl := lv_entry ([.ref h, .int a1]) (n := 4) (Nat.le_of_ble_eq_true rfl)
  rw [lg_entry_eq]
  exact fX8_countHeld_w (s := s) ⟨⟨B.exec, B.bytes, hml, findClass_of_methodNamed B.named, atoms_spec (ws := wsX8_countHeld) B.pre⟩, fun _ h9 => List.mem_cons_of_mem _ (List.mem_append_right _ h9), hK⟩ ⟨B.returns, B.notSynchronized⟩ ⟨hP, mS_D hD, va_S.rf⟩ hl e0
def rmX8_countTold : Room := { frames := 0, cells := 0, slots := 0, locals := 0 }
def fX8_countTold_b4 (n : Nat) : Nat → Int32 → Int32 → Int32 → (Nat → Int32) → (Nat → Nat → Int32) → Option (Int32 × mSt)
  | 0, _, _, _, _, _ => none
  | j + 1, a1, a2, a3, I, R =>
    if 16 ≤ a3 then
      some (a2, I, R)
    else
      if inb ((16 * a1) + a3) 64 = true then
      fX8_countTold_b4 n j a1 (a2 + (getA R 13 ((16 * a1) + a3))) (a3 + 1) I R
      else none
set_option maxRecDepth 20000 in
set_option maxHeartbeats 1000000 in
theorem fX8_countTold_b4_w {p : Program} {l : Launch} {e : Env} {s : State} {m : MethodId} {args : Array Value} {below : List Frame} {meth : Method} {c : Code} {D : va_G} {y : ClassId} {h : Nat} {q : Nat → Nat} {n : Nat} {z : Int32 × mSt} (X : mX p s m args c cX8_countTold 4 wsX8_countTold D y) (hr : meth.sig.returnType = some .int ∧ meth.locks = false) : ∀ (j : Nat) (a1 : Int32) (a2 : Int32) (a3 : Int32) (I : Nat → Int32) (R : Nat → Nat → Int32) (H : Heap) (locs : List Loc) (ls : Array Slot), mH s D y h q H locs I R → lv_has ls 4 [(0, .ref h), (1, .int a1), (2, .int a2), (3, .int a3)] → fX8_countTold_b4 n j a1 a2 a3 I R = some z → W p l e rmX8_countTold s m args below meth c H locs 0 0 (MQ below (mQi D y h q (mS y h q s.heap.size) z) args s 0 0 (mS y h q s.heap.size)) (F0 m 4 ls []) := by
  have hx := X.1.1
  have hb := X.1.2.1
  intro j
  induction j with
  | zero =>
    intro a1 a2 a3 I R H locs ls w hl e0
    cases e0
  | succ j ih =>
    intro a1 a2 a3 I R H locs ls w hl e0
    rw [fX8_countTold_b4] at e0
    refine lv_iload_n hx hb dX8_countTold_4 rfl (lv_at hl 3 rfl) ?_
    refine lv_bipush (v := 16) hx hb dX8_countTold_5 (by decide) ?_
    refine lv_icmp_ge (tgt := 30) hx hb dX8_countTold_7 (by decide) (fun c2 => ?_) (fun c2 => ?_)
    · have e0 := itp _ c2 e0
      refine lv_iload_n hx hb dX8_countTold_30 rfl (lv_at hl 2 rfl) ?_
      have e0 := Option.some.inj e0
      subst e0
      exact m_iret X w hr dX8_countTold_31
    · have e0 := itn _ c2 e0
      refine lv_iload_n hx hb dX8_countTold_10 rfl (lv_at hl 2 rfl) ?_
      refine lv_aload_n hx hb dX8_countTold_11 rfl (lv_at hl 0 rfl) ?_
      refine m_get X w 13 (by decide) (index := 37) rfl (by decide +kernel) (mfr13 _ _) dX8_countTold_12 ?_
      refine lv_bipush (v := 16) hx hb dX8_countTold_15 (by decide) ?_
      refine lv_iload_n hx hb dX8_countTold_17 rfl (lv_at hl 1 rfl) ?_
      refine lv_imul hx hb dX8_countTold_18 ?_
      refine lv_iload_n hx hb dX8_countTold_19 rfl (lv_at hl 3 rfl) ?_
      refine lv_iadd hx hb dX8_countTold_20 ?_
      refine gd e0 (fun g1 e0 => ?_)
      refine m_ald X w 10 13 (mat13 _ _ _ _ _) g1 dX8_countTold_21 ?_
      refine lv_iadd hx hb dX8_countTold_22 ?_
      refine lv_istore_n (lv' := [(2, .int (a2 + (getA R 13 ((16 * a1) + a3)))), (0, .ref h), (1, .int a1), (3, .int a3)]) hx hb dX8_countTold_23 rfl hl (by decide) rfl (fun ls hl => ?_)
      refine lv_iinc (v := (a3 + 1)) (lv' := [(3, .int (a3 + 1)), (2, .int (a2 + (getA R 13 ((16 * a1) + a3)))), (0, .ref h), (1, .int a1)]) hx hb dX8_countTold_24 hl (k := 3) rfl rfl (by decide) rfl (fun ls hl => ?_)
      refine lv_goto (tgt := 4) hx hb dX8_countTold_27 (by decide) ?_
      exact ih _ _ _ _ _ _ _ _ w (lv_sub hl [2, 3, 1, 0] rfl) e0
def fX8_countTold (n : Nat) (a1 : Int32) (I : Nat → Int32) (R : Nat → Nat → Int32) : Option (Int32 × mSt) :=
  fX8_countTold_b4 n n a1 0 0 I R
set_option maxRecDepth 20000 in
set_option maxHeartbeats 1000000 in
theorem fX8_countTold_w {p : Program} {l : Launch} {e : Env} {s : State} {m : MethodId} {args : Array Value} {below : List Frame} {meth : Method} {c : Code} {D : va_G} {y : ClassId} {h : Nat} {q : Nat → Nat} {n : Nat} {z : Int32 × mSt} (X : mX p s m args c cX8_countTold 4 wsX8_countTold D y) (hr : meth.sig.returnType = some .int ∧ meth.locks = false) {a1 : Int32} {I : Nat → Int32} {R : Nat → Nat → Int32} {H : Heap} {locs : List Loc} {ls : Array Slot} (w : mH s D y h q H locs I R) (hl : lv_has ls 4 [(0, .ref h), (1, .int a1)]) (e0 : fX8_countTold n a1 I R = some z) : W p l e rmX8_countTold s m args below meth c H locs 0 0 (MQ below (mQi D y h q (mS y h q s.heap.size) z) args s 0 0 (mS y h q s.heap.size)) (F0 m 0 ls []) := by
  have hx := X.1.1
  have hb := X.1.2.1
  unfold fX8_countTold at e0
  refine lv_iconst (v := 0) hx hb dX8_countTold_0 (by decide) ?_
  refine lv_istore_n (lv' := [(2, .int 0), (0, .ref h), (1, .int a1)]) hx hb dX8_countTold_1 rfl hl (by decide) rfl (fun ls hl => ?_)
  refine lv_iconst (v := 0) hx hb dX8_countTold_2 (by decide) ?_
  refine lv_istore_n (lv' := [(3, .int 0), (2, .int 0), (0, .ref h), (1, .int a1)]) hx hb dX8_countTold_3 rfl hl (by decide) rfl (fun ls hl => ?_)
  exact fX8_countTold_b4_w (l := l) X hr n _ _ _ _ _ _ _ _ w (lv_sub hl [2, 3, 1, 0] rfl) e0
set_option maxRecDepth 20000 in
theorem fX8_countTold_met (l : Launch) (D : va_G) (y : ClassId) (h : Nat) (q : Nat → Nat) (sz n : Nat) (a1 : Int32) (I : Nat → Int32) (R : Nat → Nat → Int32) (z : Int32 × mSt) (e0 : fX8_countTold n a1 I R = some z) : Met l yX8_countTold wsX8_countTold rmX8_countTold (va_Pc [.ref h, .int a1] (mPre D y h q sz I R)) (mQi D y h q (mS y h q sz) z) 0 0 (mS y h q sz) := by
  refine Met.ofW (cc := cX8_countTold) (maxL := 4) (ret := some .int) (by decide) rfl ?_
  intro p e s m args below meth c s₁ B hml hv
  obtain ⟨rfl, hsz, hP, hK, hD⟩ := hv
  subst hsz
  have hl := lv_entry ([.ref h, .int a1]) (n := 4) (Nat.le_of_ble_eq_true rfl)
  rw [lg_entry_eq]
  exact fX8_countTold_w (s := s) ⟨⟨B.exec, B.bytes, hml, findClass_of_methodNamed B.named, atoms_spec (ws := wsX8_countTold) B.pre⟩, fun _ h9 => List.mem_cons_of_mem _ (List.mem_append_right _ h9), hK⟩ ⟨B.returns, B.notSynchronized⟩ ⟨hP, mS_D hD, va_S.rf⟩ hl e0
def rmX8_ofRule : Room := { frames := 1, cells := 0, slots := 0, locals := 21 }
def fX8_ofRule (n : Nat) (a1 : Int32) (a2 : Int32) (I : Nat → Int32) (R : Nat → Nat → Int32) : Option (Int32 × mSt) :=
  (fX8_isRule n a1 I R).bind fun z1 =>
  if z1.1 = 0 then
    some ((-1), z1.2.1, z1.2.2)
  else
    if a2 = 0 then
      if inb a1 5 = true then
      some ((getA z1.2.2 7 a1), z1.2.1, z1.2.2)
      else none
    else
      if a2 = 1 then
        if inb a1 5 = true then
        some ((getA z1.2.2 8 a1), z1.2.1, z1.2.2)
        else none
      else
        if a2 = 2 then
          (fX8_costOf n a1 z1.2.1 z1.2.2).bind fun z14 =>
          some (z14.1, z14.2.1, z14.2.2)
        else
          if a2 = 3 then
            if inb a1 5 = true then
            some ((getA z1.2.2 9 a1), z1.2.1, z1.2.2)
            else none
          else
            if a2 = 4 then
              if inb a1 5 = true then
              some ((getA z1.2.2 10 a1), z1.2.1, z1.2.2)
              else none
            else
              if a2 = 5 then
                if inb a1 5 = true then
                some ((getA z1.2.2 11 a1), z1.2.1, z1.2.2)
                else none
              else
                if a2 = 6 then
                  if inb a1 5 = true then
                  some ((getA z1.2.2 12 a1), z1.2.1, z1.2.2)
                  else none
                else
                  some ((-2), z1.2.1, z1.2.2)
set_option maxRecDepth 20000 in
set_option maxHeartbeats 1000000 in
theorem fX8_ofRule_w {p : Program} {l : Launch} {e : Env} {s : State} {m : MethodId} {args : Array Value} {below : List Frame} {meth : Method} {c : Code} {D : va_G} {y : ClassId} {h : Nat} {q : Nat → Nat} {n : Nat} {z : Int32 × mSt} (X : mX p s m args c cX8_ofRule 3 wsX8_ofRule D y) (hr : meth.sig.returnType = some .int ∧ meth.locks = false) {a1 : Int32} {a2 : Int32} {I : Nat → Int32} {R : Nat → Nat → Int32} {H : Heap} {locs : List Loc} {ls : Array Slot} (w : mH s D y h q H locs I R) (hl : lv_has ls 3 [(0, .ref h), (1, .int a1), (2, .int a2)]) (e0 : fX8_ofRule n a1 a2 I R = some z) : W p l e rmX8_ofRule s m args below meth c H locs 0 0 (MQ below (mQi D y h q (mS y h q s.heap.size) z) args s 0 0 (mS y h q s.heap.size)) (F0 m 0 ls []) := by
  have hx := X.1.1
  have hb := X.1.2.1
  unfold fX8_ofRule at e0
  refine lv_aload_n hx hb dX8_ofRule_0 rfl (lv_at hl 0 rfl) ?_
  refine lv_iload_n hx hb dX8_ofRule_1 rfl (lv_at hl 1 rfl) ?_
  refine bd e0 (fun z1 e2 e0 => ?_)
  refine m_calli X w (n := 1) (As := [.int a1]) (rest := []) (fX8_isRule_met l _ _ _ _ _ _ _ _ _ _ e2) gX8_ofRule_X8_isRule rfl rfl rfl (by decide +kernel) ⟨Nat.le_of_ble_eq_true rfl, Nat.le_of_ble_eq_true rfl⟩ rfl hl.1 rfl (Nat.le_of_ble_eq_true rfl) dX8_ofRule_2 (fun H locs w => ?_)
  refine lv_if_ne (tgt := 10) hx hb dX8_ofRule_5 (by decide) (fun c18 => ?_) (fun c18 => ?_)
  · have e0 := itn _ c18 e0
    refine lv_iload_n hx hb dX8_ofRule_10 rfl (lv_at hl 2 rfl) ?_
    by_cases c3 : a2 = 0
    · have e0 := itp _ c3 e0
      refine lv_tableIn (off := 41) (tgt := 52) hx hb dX8_ofRule_11 (by rw [c3]; decide) (by rw [c3]; decide) (by rw [c3]; decide) (by decide) ?_
      refine lv_aload_n hx hb dX8_ofRule_52 rfl (lv_at hl 0 rfl) ?_
      refine m_get X w 7 (by decide) (index := 19) rfl (by decide +kernel) (mfr7 _ _) dX8_ofRule_53 ?_
      refine lv_iload_n hx hb dX8_ofRule_56 rfl (lv_at hl 1 rfl) ?_
      refine gd e0 (fun g17 e0 => ?_)
      refine m_ald X w 4 7 (mat7 _ _ _ _ _) g17 dX8_ofRule_57 ?_
      have e0 := Option.some.inj e0
      subst e0
      exact m_iret X w hr dX8_ofRule_58
    · have e0 := itn _ c3 e0
      by_cases c4 : a2 = 1
      · have e0 := itp _ c4 e0
        refine lv_tableIn (off := 48) (tgt := 59) hx hb dX8_ofRule_11 (by rw [c4]; decide) (by rw [c4]; decide) (by rw [c4]; decide) (by decide) ?_
        refine lv_aload_n hx hb dX8_ofRule_59 rfl (lv_at hl 0 rfl) ?_
        refine m_get X w 8 (by decide) (index := 22) rfl (by decide +kernel) (mfr8 _ _) dX8_ofRule_60 ?_
        refine lv_iload_n hx hb dX8_ofRule_63 rfl (lv_at hl 1 rfl) ?_
        refine gd e0 (fun g16 e0 => ?_)
        refine m_ald X w 5 8 (mat8 _ _ _ _ _) g16 dX8_ofRule_64 ?_
        have e0 := Option.some.inj e0
        subst e0
        exact m_iret X w hr dX8_ofRule_65
      · have e0 := itn _ c4 e0
        by_cases c5 : a2 = 2
        · have e0 := itp _ c5 e0
          refine lv_tableIn (off := 55) (tgt := 66) hx hb dX8_ofRule_11 (by rw [c5]; decide) (by rw [c5]; decide) (by rw [c5]; decide) (by decide) ?_
          refine lv_aload_n hx hb dX8_ofRule_66 rfl (lv_at hl 0 rfl) ?_
          refine lv_iload_n hx hb dX8_ofRule_67 rfl (lv_at hl 1 rfl) ?_
          refine bd e0 (fun z14 e15 e0 => ?_)
          refine m_calli X w (n := 1) (As := [.int a1]) (rest := []) (fX8_costOf_met l _ _ _ _ _ _ _ _ _ _ e15) gX8_ofRule_X8_costOf rfl rfl rfl (by decide +kernel) ⟨Nat.le_of_ble_eq_true rfl, Nat.le_of_ble_eq_true rfl⟩ rfl hl.1 rfl (Nat.le_of_ble_eq_true rfl) dX8_ofRule_68 (fun H locs w => ?_)
          have e0 := Option.some.inj e0
          subst e0
          exact m_iret X w hr dX8_ofRule_71
        · have e0 := itn _ c5 e0
          by_cases c6 : a2 = 3
          · have e0 := itp _ c6 e0
            refine lv_tableIn (off := 61) (tgt := 72) hx hb dX8_ofRule_11 (by rw [c6]; decide) (by rw [c6]; decide) (by rw [c6]; decide) (by decide) ?_
            refine lv_aload_n hx hb dX8_ofRule_72 rfl (lv_at hl 0 rfl) ?_
            refine m_get X w 9 (by decide) (index := 25) rfl (by decide +kernel) (mfr9 _ _) dX8_ofRule_73 ?_
            refine lv_iload_n hx hb dX8_ofRule_76 rfl (lv_at hl 1 rfl) ?_
            refine gd e0 (fun g13 e0 => ?_)
            refine m_ald X w 6 9 (mat9 _ _ _ _ _) g13 dX8_ofRule_77 ?_
            have e0 := Option.some.inj e0
            subst e0
            exact m_iret X w hr dX8_ofRule_78
          · have e0 := itn _ c6 e0
            by_cases c7 : a2 = 4
            · have e0 := itp _ c7 e0
              refine lv_tableIn (off := 68) (tgt := 79) hx hb dX8_ofRule_11 (by rw [c7]; decide) (by rw [c7]; decide) (by rw [c7]; decide) (by decide) ?_
              refine lv_aload_n hx hb dX8_ofRule_79 rfl (lv_at hl 0 rfl) ?_
              refine m_get X w 10 (by decide) (index := 28) rfl (by decide +kernel) (mfr10 _ _) dX8_ofRule_80 ?_
              refine lv_iload_n hx hb dX8_ofRule_83 rfl (lv_at hl 1 rfl) ?_
              refine gd e0 (fun g12 e0 => ?_)
              refine m_ald X w 7 10 (mat10 _ _ _ _ _) g12 dX8_ofRule_84 ?_
              have e0 := Option.some.inj e0
              subst e0
              exact m_iret X w hr dX8_ofRule_85
            · have e0 := itn _ c7 e0
              by_cases c8 : a2 = 5
              · have e0 := itp _ c8 e0
                refine lv_tableIn (off := 75) (tgt := 86) hx hb dX8_ofRule_11 (by rw [c8]; decide) (by rw [c8]; decide) (by rw [c8]; decide) (by decide) ?_
                refine lv_aload_n hx hb dX8_ofRule_86 rfl (lv_at hl 0 rfl) ?_
                refine m_get X w 11 (by decide) (index := 31) rfl (by decide +kernel) (mfr11 _ _) dX8_ofRule_87 ?_
                refine lv_iload_n hx hb dX8_ofRule_90 rfl (lv_at hl 1 rfl) ?_
                refine gd e0 (fun g11 e0 => ?_)
                refine m_ald X w 8 11 (mat11 _ _ _ _ _) g11 dX8_ofRule_91 ?_
                have e0 := Option.some.inj e0
                subst e0
                exact m_iret X w hr dX8_ofRule_92
              · have e0 := itn _ c8 e0
                by_cases c9 : a2 = 6
                · have e0 := itp _ c9 e0
                  refine lv_tableIn (off := 82) (tgt := 93) hx hb dX8_ofRule_11 (by rw [c9]; decide) (by rw [c9]; decide) (by rw [c9]; decide) (by decide) ?_
                  refine lv_aload_n hx hb dX8_ofRule_93 rfl (lv_at hl 0 rfl) ?_
                  refine m_get X w 12 (by decide) (index := 34) rfl (by decide +kernel) (mfr12 _ _) dX8_ofRule_94 ?_
                  refine lv_iload_n hx hb dX8_ofRule_97 rfl (lv_at hl 1 rfl) ?_
                  refine gd e0 (fun g10 e0 => ?_)
                  refine m_ald X w 9 12 (mat12 _ _ _ _ _) g10 dX8_ofRule_98 ?_
                  have e0 := Option.some.inj e0
                  subst e0
                  exact m_iret X w hr dX8_ofRule_99
                · have e0 := itn _ c9 e0
                  refine lv_tableOut (tgt := 100) hx hb dX8_ofRule_11 (by have hc3 := lv_neT c3 (a := 0) (by decide); have hc4 := lv_neT c4 (a := 1) (by decide); have hc5 := lv_neT c5 (a := 2) (by decide); have hc6 := lv_neT c6 (a := 3) (by decide); have hc7 := lv_neT c7 (a := 4) (by decide); have hc8 := lv_neT c8 (a := 5) (by decide); have hc9 := lv_neT c9 (a := 6) (by decide); omega) (by decide) ?_
                  refine lv_bipush (v := (-2)) hx hb dX8_ofRule_100 (by decide) ?_
                  have e0 := Option.some.inj e0
                  subst e0
                  exact m_iret X w hr dX8_ofRule_102
  · have e0 := itp _ c18 e0
    refine lv_iconst (v := (-1)) hx hb dX8_ofRule_8 (by decide) ?_
    have e0 := Option.some.inj e0
    subst e0
    exact m_iret X w hr dX8_ofRule_9
set_option maxRecDepth 20000 in
theorem fX8_ofRule_met (l : Launch) (D : va_G) (y : ClassId) (h : Nat) (q : Nat → Nat) (sz n : Nat) (a1 : Int32) (a2 : Int32) (I : Nat → Int32) (R : Nat → Nat → Int32) (z : Int32 × mSt) (e0 : fX8_ofRule n a1 a2 I R = some z) : Met l yX8_ofRule wsX8_ofRule rmX8_ofRule (va_Pc [.ref h, .int a1, .int a2] (mPre D y h q sz I R)) (mQi D y h q (mS y h q sz) z) 0 0 (mS y h q sz) := by
  refine Met.ofW (cc := cX8_ofRule) (maxL := 3) (ret := some .int) (by decide) rfl ?_
  intro p e s m args below meth c s₁ B hml hv
  obtain ⟨rfl, hsz, hP, hK, hD⟩ := hv
  subst hsz
  have hl := lv_entry ([.ref h, .int a1, .int a2]) (n := 3) (Nat.le_of_ble_eq_true rfl)
  rw [lg_entry_eq]
  exact fX8_ofRule_w (s := s) ⟨⟨B.exec, B.bytes, hml, findClass_of_methodNamed B.named, atoms_spec (ws := wsX8_ofRule) B.pre⟩, fun _ h9 => List.mem_cons_of_mem _ (List.mem_append_right _ h9), hK⟩ ⟨B.returns, B.notSynchronized⟩ ⟨hP, mS_D hD, va_S.rf⟩ hl e0
def rmX8_ofRelation : Room := { frames := 4, cells := 0, slots := 0, locals := 93 }
def fX8_ofRelation_b97 (n : Nat) (k68 : Int32 → Int32 → Int32 → (Nat → Int32) → (Nat → Nat → Int32) → Option (Int32 × mSt)) (a1 : Int32) (a4 : Int32) (t0 : Int32) (t1 : Int32) (I : Nat → Int32) (R : Nat → Nat → Int32) : Option (Int32 × mSt) :=
  k68 a1 (t1 ||| t0) (a4 + 1) I R
set_option maxRecDepth 20000 in
set_option maxHeartbeats 1000000 in
theorem fX8_ofRelation_b97_w {p : Program} {l : Launch} {e : Env} {s : State} {m : MethodId} {args : Array Value} {below : List Frame} {meth : Method} {c : Code} {D : va_G} {y : ClassId} {h : Nat} {q : Nat → Nat} {n : Nat} {z : Int32 × mSt} (X : mX p s m args c cX8_ofRelation 5 wsX8_ofRelation D y) (hr : meth.sig.returnType = some .int ∧ meth.locks = false) {k68 : Int32 → Int32 → Int32 → (Nat → Int32) → (Nat → Nat → Int32) → Option (Int32 × mSt)} (hk68 : ∀ (a1 : Int32) (a3 : Int32) (a4 : Int32) (I : Nat → Int32) (R : Nat → Nat → Int32) (H : Heap) (locs : List Loc) (ls : Array Slot), mH s D y h q H locs I R → lv_has ls 5 [(0, .ref h), (1, .int a1), (3, .int a3), (4, .int a4)] → k68 a1 a3 a4 I R = some z → W p l e rmX8_ofRelation s m args below meth c H locs 0 0 (MQ below (mQi D y h q (mS y h q s.heap.size) z) args s 0 0 (mS y h q s.heap.size)) (F0 m 68 ls [])) {a1 : Int32} {a4 : Int32} {t0 : Int32} {t1 : Int32} {I : Nat → Int32} {R : Nat → Nat → Int32} {H : Heap} {locs : List Loc} {ls : Array Slot} (w : mH s D y h q H locs I R) (hl : lv_has ls 5 [(0, .ref h), (1, .int a1), (4, .int a4)]) (e0 : fX8_ofRelation_b97 n k68 a1 a4 t0 t1 I R = some z) : W p l e rmX8_ofRelation s m args below meth c H locs 0 0 (MQ below (mQi D y h q (mS y h q s.heap.size) z) args s 0 0 (mS y h q s.heap.size)) (F0 m 97 ls [.int t0, .int t1]) := by
  have hx := X.1.1
  have hb := X.1.2.1
  unfold fX8_ofRelation_b97 at e0
  refine lv_ior hx hb dX8_ofRelation_97 ?_
  refine lv_istore_n (lv' := [(3, .int (t1 ||| t0)), (0, .ref h), (1, .int a1), (4, .int a4)]) hx hb dX8_ofRelation_98 rfl hl (by decide) rfl (fun ls hl => ?_)
  refine lv_iinc (v := (a4 + 1)) (lv' := [(4, .int (a4 + 1)), (3, .int (t1 ||| t0)), (0, .ref h), (1, .int a1)]) hx hb dX8_ofRelation_99 hl (k := 3) rfl rfl (by decide) rfl (fun ls hl => ?_)
  refine lv_goto (tgt := 68) hx hb dX8_ofRelation_102 (by decide) ?_
  exact hk68 _ _ _ _ _ _ _ _ w (lv_sub hl [2, 3, 1, 0] rfl) e0
def fX8_ofRelation_b68 (n : Nat) : Nat → Int32 → Int32 → Int32 → (Nat → Int32) → (Nat → Nat → Int32) → Option (Int32 × mSt)
  | 0, _, _, _, _, _ => none
  | j + 1, a1, a3, a4, I, R =>
    if (I 6) ≤ a4 then
      some (a3, I, R)
    else
      if inb a4 5 = true then
      if (getA R 10 a4) = a1 then
        fX8_ofRelation_b97 n (fX8_ofRelation_b68 n j) a1 a4 (1 <<< (a4 &&& 31)) a3 I R
      else
        fX8_ofRelation_b97 n (fX8_ofRelation_b68 n j) a1 a4 0 a3 I R
      else none
set_option maxRecDepth 20000 in
set_option maxHeartbeats 1000000 in
theorem fX8_ofRelation_b68_w {p : Program} {l : Launch} {e : Env} {s : State} {m : MethodId} {args : Array Value} {below : List Frame} {meth : Method} {c : Code} {D : va_G} {y : ClassId} {h : Nat} {q : Nat → Nat} {n : Nat} {z : Int32 × mSt} (X : mX p s m args c cX8_ofRelation 5 wsX8_ofRelation D y) (hr : meth.sig.returnType = some .int ∧ meth.locks = false) : ∀ (j : Nat) (a1 : Int32) (a3 : Int32) (a4 : Int32) (I : Nat → Int32) (R : Nat → Nat → Int32) (H : Heap) (locs : List Loc) (ls : Array Slot), mH s D y h q H locs I R → lv_has ls 5 [(0, .ref h), (1, .int a1), (3, .int a3), (4, .int a4)] → fX8_ofRelation_b68 n j a1 a3 a4 I R = some z → W p l e rmX8_ofRelation s m args below meth c H locs 0 0 (MQ below (mQi D y h q (mS y h q s.heap.size) z) args s 0 0 (mS y h q s.heap.size)) (F0 m 68 ls []) := by
  have hx := X.1.1
  have hb := X.1.2.1
  intro j
  induction j with
  | zero =>
    intro a1 a3 a4 I R H locs ls w hl e0
    cases e0
  | succ j ih =>
    intro a1 a3 a4 I R H locs ls w hl e0
    rw [fX8_ofRelation_b68] at e0
    refine lv_iload hx hb dX8_ofRelation_68 (lv_at hl 3 rfl) ?_
    refine lv_aload_n hx hb dX8_ofRelation_70 rfl (lv_at hl 0 rfl) ?_
    refine m_get X w 6 (by decide) (index := 95) rfl (by decide +kernel) (mfi6 _ _) dX8_ofRelation_71 ?_
    refine lv_icmp_ge (tgt := 105) hx hb dX8_ofRelation_74 (by decide) (fun c17 => ?_) (fun c17 => ?_)
    · have e0 := itp _ c17 e0
      refine lv_iload_n hx hb dX8_ofRelation_105 rfl (lv_at hl 2 rfl) ?_
      have e0 := Option.some.inj e0
      subst e0
      exact m_iret X w hr dX8_ofRelation_106
    · have e0 := itn _ c17 e0
      refine lv_iload_n hx hb dX8_ofRelation_77 rfl (lv_at hl 2 rfl) ?_
      refine lv_aload_n hx hb dX8_ofRelation_78 rfl (lv_at hl 0 rfl) ?_
      refine m_get X w 10 (by decide) (index := 28) rfl (by decide +kernel) (mfr10 _ _) dX8_ofRelation_79 ?_
      refine lv_iload hx hb dX8_ofRelation_82 (lv_at hl 3 rfl) ?_
      refine gd e0 (fun g15 e0 => ?_)
      refine m_ald X w 7 10 (mat10 _ _ _ _ _) g15 dX8_ofRelation_84 ?_
      refine lv_iload_n hx hb dX8_ofRelation_85 rfl (lv_at hl 1 rfl) ?_
      refine lv_icmp_ne (tgt := 96) hx hb dX8_ofRelation_86 (by decide) (fun c16 => ?_) (fun c16 => ?_)
      · have e0 := itn _ c16 e0
        refine lv_iconst (v := 0) hx hb dX8_ofRelation_96 (by decide) ?_
        exact fX8_ofRelation_b97_w (l := l) X hr ih w (lv_sub hl [0, 1, 3] rfl) e0
      · have e0 := itp _ c16 e0
        refine lv_iconst (v := 1) hx hb dX8_ofRelation_89 (by decide) ?_
        refine lv_iload hx hb dX8_ofRelation_90 (lv_at hl 3 rfl) ?_
        refine lv_ishl hx hb dX8_ofRelation_92 ?_
        refine lv_goto (tgt := 97) hx hb dX8_ofRelation_93 (by decide) ?_
        exact fX8_ofRelation_b97_w (l := l) X hr ih w (lv_sub hl [0, 1, 3] rfl) e0
def fX8_ofRelation (n : Nat) (a1 : Int32) (a2 : Int32) (I : Nat → Int32) (R : Nat → Nat → Int32) : Option (Int32 × mSt) :=
  (fX8_isRelation n a1 I R).bind fun z1 =>
  if z1.1 = 0 then
    some ((-1), z1.2.1, z1.2.2)
  else
    (fX8_findHolds n z1.2.1 z1.2.2).bind fun z3 =>
    if a2 = 0 then
      if inb a1 4 = true then
      some ((getA z3.2 21 a1), z3.1, z3.2)
      else none
    else
      if a2 = 1 then
        (fX8_countHeld n a1 z3.1 z3.2).bind fun z11 =>
        some (z11.1, z11.2.1, z11.2.2)
      else
        if a2 = 2 then
          (fX8_countTold n a1 z3.1 z3.2).bind fun z9 =>
          some (z9.1, z9.2.1, z9.2.2)
        else
          if a2 = 3 then
            fX8_ofRelation_b68 n n a1 0 0 z3.1 z3.2
          else
            some ((-2), z3.1, z3.2)
set_option maxRecDepth 20000 in
set_option maxHeartbeats 1000000 in
theorem fX8_ofRelation_w {p : Program} {l : Launch} {e : Env} {s : State} {m : MethodId} {args : Array Value} {below : List Frame} {meth : Method} {c : Code} {D : va_G} {y : ClassId} {h : Nat} {q : Nat → Nat} {n : Nat} {z : Int32 × mSt} (X : mX p s m args c cX8_ofRelation 5 wsX8_ofRelation D y) (hr : meth.sig.returnType = some .int ∧ meth.locks = false) {a1 : Int32} {a2 : Int32} {I : Nat → Int32} {R : Nat → Nat → Int32} {H : Heap} {locs : List Loc} {ls : Array Slot} (w : mH s D y h q H locs I R) (hl : lv_has ls 5 [(0, .ref h), (1, .int a1), (2, .int a2)]) (e0 : fX8_ofRelation n a1 a2 I R = some z) : W p l e rmX8_ofRelation s m args below meth c H locs 0 0 (MQ below (mQi D y h q (mS y h q s.heap.size) z) args s 0 0 (mS y h q s.heap.size)) (F0 m 0 ls []) := by
  have hx := X.1.1
  have hb := X.1.2.1
  unfold fX8_ofRelation at e0
  refine lv_aload_n hx hb dX8_ofRelation_0 rfl (lv_at hl 0 rfl) ?_
  refine lv_iload_n hx hb dX8_ofRelation_1 rfl (lv_at hl 1 rfl) ?_
  refine bd e0 (fun z1 e2 e0 => ?_)
  refine m_calli X w (n := 1) (As := [.int a1]) (rest := []) (fX8_isRelation_met l _ _ _ _ _ _ _ _ _ _ e2) gX8_ofRelation_X8_isRelation rfl rfl rfl (by decide +kernel) ⟨Nat.le_of_ble_eq_true rfl, Nat.le_of_ble_eq_true rfl⟩ rfl hl.1 rfl (Nat.le_of_ble_eq_true rfl) dX8_ofRelation_2 (fun H locs w => ?_)
  refine lv_if_ne (tgt := 10) hx hb dX8_ofRelation_5 (by decide) (fun c14 => ?_) (fun c14 => ?_)
  · have e0 := itn _ c14 e0
    refine lv_aload_n hx hb dX8_ofRelation_10 rfl (lv_at hl 0 rfl) ?_
    refine bd e0 (fun z3 e4 e0 => ?_)
    refine m_callv X w (n := 0) (As := []) (rest := []) (fX8_findHolds_met l _ _ _ _ _ _  _ _ _ e4) gX8_ofRelation_X8_findHolds rfl rfl rfl (by decide +kernel) ⟨Nat.le_of_ble_eq_true rfl, Nat.le_of_ble_eq_true rfl⟩ rfl hl.1 rfl (Nat.le_of_ble_eq_true rfl) dX8_ofRelation_11 (fun H locs w => ?_)
    refine lv_iload_n hx hb dX8_ofRelation_14 rfl (lv_at hl 2 rfl) ?_
    by_cases c5 : a2 = 0
    · have e0 := itp _ c5 e0
      refine lv_tableIn (off := 29) (tgt := 44) hx hb dX8_ofRelation_15 (by rw [c5]; decide) (by rw [c5]; decide) (by rw [c5]; decide) (by decide) ?_
      refine lv_aload_n hx hb dX8_ofRelation_44 rfl (lv_at hl 0 rfl) ?_
      refine m_get X w 21 (by decide) (index := 49) rfl (by decide +kernel) (mfr21 _ _) dX8_ofRelation_45 ?_
      refine lv_iload_n hx hb dX8_ofRelation_48 rfl (lv_at hl 1 rfl) ?_
      refine gd e0 (fun g13 e0 => ?_)
      refine m_ald X w 14 21 (mat21 _ _ _ _ _) g13 dX8_ofRelation_49 ?_
      have e0 := Option.some.inj e0
      subst e0
      exact m_iret X w hr dX8_ofRelation_50
    · have e0 := itn _ c5 e0
      by_cases c6 : a2 = 1
      · have e0 := itp _ c6 e0
        refine lv_tableIn (off := 36) (tgt := 51) hx hb dX8_ofRelation_15 (by rw [c6]; decide) (by rw [c6]; decide) (by rw [c6]; decide) (by decide) ?_
        refine lv_aload_n hx hb dX8_ofRelation_51 rfl (lv_at hl 0 rfl) ?_
        refine lv_iload_n hx hb dX8_ofRelation_52 rfl (lv_at hl 1 rfl) ?_
        refine bd e0 (fun z11 e12 e0 => ?_)
        refine m_calli X w (n := 1) (As := [.int a1]) (rest := []) (fX8_countHeld_met l _ _ _ _ _ _ _ _ _ _ e12) gX8_ofRelation_X8_countHeld rfl rfl rfl (by decide +kernel) ⟨Nat.le_of_ble_eq_true rfl, Nat.le_of_ble_eq_true rfl⟩ rfl hl.1 rfl (Nat.le_of_ble_eq_true rfl) dX8_ofRelation_53 (fun H locs w => ?_)
        have e0 := Option.some.inj e0
        subst e0
        exact m_iret X w hr dX8_ofRelation_56
      · have e0 := itn _ c6 e0
        by_cases c7 : a2 = 2
        · have e0 := itp _ c7 e0
          refine lv_tableIn (off := 42) (tgt := 57) hx hb dX8_ofRelation_15 (by rw [c7]; decide) (by rw [c7]; decide) (by rw [c7]; decide) (by decide) ?_
          refine lv_aload_n hx hb dX8_ofRelation_57 rfl (lv_at hl 0 rfl) ?_
          refine lv_iload_n hx hb dX8_ofRelation_58 rfl (lv_at hl 1 rfl) ?_
          refine bd e0 (fun z9 e10 e0 => ?_)
          refine m_calli X w (n := 1) (As := [.int a1]) (rest := []) (fX8_countTold_met l _ _ _ _ _ _ _ _ _ _ e10) gX8_ofRelation_X8_countTold rfl rfl rfl (by decide +kernel) ⟨Nat.le_of_ble_eq_true rfl, Nat.le_of_ble_eq_true rfl⟩ rfl hl.1 rfl (Nat.le_of_ble_eq_true rfl) dX8_ofRelation_59 (fun H locs w => ?_)
          have e0 := Option.some.inj e0
          subst e0
          exact m_iret X w hr dX8_ofRelation_62
        · have e0 := itn _ c7 e0
          by_cases c8 : a2 = 3
          · have e0 := itp _ c8 e0
            refine lv_tableIn (off := 48) (tgt := 63) hx hb dX8_ofRelation_15 (by rw [c8]; decide) (by rw [c8]; decide) (by rw [c8]; decide) (by decide) ?_
            refine lv_iconst (v := 0) hx hb dX8_ofRelation_63 (by decide) ?_
            refine lv_istore_n (lv' := [(3, .int 0), (0, .ref h), (1, .int a1), (2, .int a2)]) hx hb dX8_ofRelation_64 rfl hl (by decide) rfl (fun ls hl => ?_)
            refine lv_iconst (v := 0) hx hb dX8_ofRelation_65 (by decide) ?_
            refine lv_istore (lv' := [(4, .int 0), (3, .int 0), (0, .ref h), (1, .int a1), (2, .int a2)]) hx hb dX8_ofRelation_66 hl (by decide) rfl (fun ls hl => ?_)
            exact fX8_ofRelation_b68_w (l := l) X hr n _ _ _ _ _ _ _ _ w (lv_sub hl [2, 3, 1, 0] rfl) e0
          · have e0 := itn _ c8 e0
            refine lv_tableOut (tgt := 107) hx hb dX8_ofRelation_15 (by have hc5 := lv_neT c5 (a := 0) (by decide); have hc6 := lv_neT c6 (a := 1) (by decide); have hc7 := lv_neT c7 (a := 2) (by decide); have hc8 := lv_neT c8 (a := 3) (by decide); omega) (by decide) ?_
            refine lv_bipush (v := (-2)) hx hb dX8_ofRelation_107 (by decide) ?_
            have e0 := Option.some.inj e0
            subst e0
            exact m_iret X w hr dX8_ofRelation_109
  · have e0 := itp _ c14 e0
    refine lv_iconst (v := (-1)) hx hb dX8_ofRelation_8 (by decide) ?_
    have e0 := Option.some.inj e0
    subst e0
    exact m_iret X w hr dX8_ofRelation_9
set_option maxRecDepth 20000 in
theorem fX8_ofRelation_met (l : Launch) (D : va_G) (y : ClassId) (h : Nat) (q : Nat → Nat) (sz n : Nat) (a1 : Int32) (a2 : Int32) (I : Nat → Int32) (R : Nat → Nat → Int32) (z : Int32 × mSt) (e0 : fX8_ofRelation n a1 a2 I R = some z) : Met l yX8_ofRelation wsX8_ofRelation rmX8_ofRelation (va_Pc [.ref h, .int a1, .int a2] (mPre D y h q sz I R)) (mQi D y h q (mS y h q sz) z) 0 0 (mS y h q sz) := by
  refine Met.ofW (cc := cX8_ofRelation) (maxL := 5) (ret := some .int) (by decide) rfl ?_
  intro p e s m args below meth c s₁ B hml hv
  obtain ⟨rfl, hsz, hP, hK, hD⟩ := hv
  subst hsz
  have hl := lv_entry ([.ref h, .int a1, .int a2]) (n := 5) (Nat.le_of_ble_eq_true rfl)
  rw [lg_entry_eq]
  exact fX8_ofRelation_w (s := s) ⟨⟨B.exec, B.bytes, hml, findClass_of_methodNamed B.named, atoms_spec (ws := wsX8_ofRelation) B.pre⟩, fun _ h9 => List.mem_cons_of_mem _ (List.mem_append_right _ h9), hK⟩ ⟨B.returns, B.notSynchronized⟩ ⟨hP, mS_D hD, va_S.rf⟩ hl e0
def rmX8_gets : Room := { frames := 3, cells := 0, slots := 0, locals := 71 }
def fX8_gets (n : Nat) (a1 : Int32) (a2 : Int32) (I : Nat → Int32) (R : Nat → Nat → Int32) : Option (Int32 × mSt) :=
  if inb a1 5 = true then
  if inb a1 5 = true then
  (fX8_goesRoundBy n I (setA R 9 a1 a2)).bind fun z3 =>
  if z3.1 = (-9) then
    some (1, z3.2.1, z3.2.2)
  else
    if inb a1 5 = true then
    some (0, z3.2.1, (setA z3.2.2 9 a1 (getA R 9 a1)))
    else none
  else none
  else none
set_option maxRecDepth 20000 in
set_option maxHeartbeats 1000000 in
theorem fX8_gets_w {p : Program} {l : Launch} {e : Env} {s : State} {m : MethodId} {args : Array Value} {below : List Frame} {meth : Method} {c : Code} {D : va_G} {y : ClassId} {h : Nat} {q : Nat → Nat} {n : Nat} {z : Int32 × mSt} (X : mX p s m args c cX8_gets 4 wsX8_gets D y) (hr : meth.sig.returnType = some .boolean ∧ meth.locks = false) {a1 : Int32} {a2 : Int32} {I : Nat → Int32} {R : Nat → Nat → Int32} {H : Heap} {locs : List Loc} {ls : Array Slot} (w : mH s D y h q H locs I R) (hl : lv_has ls 4 [(0, .ref h), (1, .int a1), (2, .int a2)]) (e0 : fX8_gets n a1 a2 I R = some z) : W p l e rmX8_gets s m args below meth c H locs 0 0 (MQ below (mQi D y h q (mS y h q s.heap.size) z) args s 0 0 (mS y h q s.heap.size)) (F0 m 0 ls []) := by
  have hx := X.1.1
  have hb := X.1.2.1
  unfold fX8_gets at e0
  refine lv_aload_n hx hb dX8_gets_0 rfl (lv_at hl 0 rfl) ?_
  refine m_get X w 9 (by decide) (index := 25) rfl (by decide +kernel) (mfr9 _ _) dX8_gets_1 ?_
  refine lv_iload_n hx hb dX8_gets_4 rfl (lv_at hl 1 rfl) ?_
  refine gd e0 (fun g1 e0 => ?_)
  refine m_ald X w 6 9 (mat9 _ _ _ _ _) g1 dX8_gets_5 ?_
  refine lv_istore_n (lv' := [(3, .int (getA R 9 a1)), (0, .ref h), (1, .int a1), (2, .int a2)]) hx hb dX8_gets_6 rfl hl (by decide) rfl (fun ls hl => ?_)
  refine lv_aload_n hx hb dX8_gets_7 rfl (lv_at hl 1 rfl) ?_
  refine m_get X w 9 (by decide) (index := 25) rfl (by decide +kernel) (mfr9 _ _) dX8_gets_8 ?_
  refine lv_iload_n hx hb dX8_gets_11 rfl (lv_at hl 2 rfl) ?_
  refine lv_iload_n hx hb dX8_gets_12 rfl (lv_at hl 3 rfl) ?_
  refine gd e0 (fun g2 e0 => ?_)
  refine m_ast X w 6 9 (mat9 _ _ _ _ _) (mset9 _ _ _ _ _) g2 dX8_gets_13 (fun H locs w => ?_)
  refine lv_aload_n hx hb dX8_gets_14 rfl (lv_at hl 1 rfl) ?_
  refine bd e0 (fun z3 e4 e0 => ?_)
  refine m_calli X w (n := 0) (As := []) (rest := []) (fX8_goesRoundBy_met l _ _ _ _ _ _  _ _ _ e4) gX8_gets_X8_goesRoundBy rfl rfl rfl (by decide +kernel) ⟨Nat.le_of_ble_eq_true rfl, Nat.le_of_ble_eq_true rfl⟩ rfl hl.1 rfl (Nat.le_of_ble_eq_true rfl) dX8_gets_15 (fun H locs w => ?_)
  refine lv_bipush (v := (-9)) hx hb dX8_gets_18 (by decide) ?_
  refine lv_icmp_ne (tgt := 25) hx hb dX8_gets_20 (by decide) (fun c6 => ?_) (fun c6 => ?_)
  · have e0 := itn _ c6 e0
    refine lv_aload_n hx hb dX8_gets_25 rfl (lv_at hl 1 rfl) ?_
    refine m_get X w 9 (by decide) (index := 25) rfl (by decide +kernel) (mfr9 _ _) dX8_gets_26 ?_
    refine lv_iload_n hx hb dX8_gets_29 rfl (lv_at hl 2 rfl) ?_
    refine lv_iload_n hx hb dX8_gets_30 rfl (lv_at hl 0 rfl) ?_
    refine gd e0 (fun g5 e0 => ?_)
    refine m_ast X w 6 9 (mat9 _ _ _ _ _) (mset9 _ _ _ _ _) g5 dX8_gets_31 (fun H locs w => ?_)
    refine lv_iconst (v := 0) hx hb dX8_gets_32 (by decide) ?_
    have e0 := Option.some.inj e0
    subst e0
    exact m_zret X w hr rfl dX8_gets_33
  · have e0 := itp _ c6 e0
    refine lv_iconst (v := 1) hx hb dX8_gets_23 (by decide) ?_
    have e0 := Option.some.inj e0
    subst e0
    exact m_zret X w hr rfl dX8_gets_24
set_option maxRecDepth 20000 in
theorem fX8_gets_met (l : Launch) (D : va_G) (y : ClassId) (h : Nat) (q : Nat → Nat) (sz n : Nat) (a1 : Int32) (a2 : Int32) (I : Nat → Int32) (R : Nat → Nat → Int32) (z : Int32 × mSt) (e0 : fX8_gets n a1 a2 I R = some z) : Met l yX8_gets wsX8_gets rmX8_gets (va_Pc [.ref h, .int a1, .int a2] (mPre D y h q sz I R)) (mQi D y h q (mS y h q sz) z) 0 0 (mS y h q sz) := by
  refine Met.ofW (cc := cX8_gets) (maxL := 4) (ret := some .boolean) (by decide) rfl ?_
  intro p e s m args below meth c s₁ B hml hv
  obtain ⟨rfl, hsz, hP, hK, hD⟩ := hv
  subst hsz
  have hl := lv_entry ([.ref h, .int a1, .int a2]) (n := 4) (Nat.le_of_ble_eq_true rfl)
  rw [lg_entry_eq]
  exact fX8_gets_w (s := s) ⟨⟨B.exec, B.bytes, hml, findClass_of_methodNamed B.named, atoms_spec (ws := wsX8_gets) B.pre⟩, fun _ h9 => List.mem_cons_of_mem _ (List.mem_append_right _ h9), hK⟩ ⟨B.returns, B.notSynchronized⟩ ⟨hP, mS_D hD, va_S.rf⟩ hl e0
def rmX8_isForm : Room := { frames := 1, cells := 0, slots := 0, locals := 22 }
def fX8_isForm (n : Nat) (a1 : Int32) (a2 : Int32) (I : Nat → Int32) (R : Nat → Nat → Int32) : Option (Int32 × mSt) :=
  if inb a1 5 = true then
  if 2 ≤ (getA R 9 a1) then
    (fX8_within n a2 2 3).bind fun z2 =>
    if isB z2 = true then
    some (z2, I, R)
    else none
  else
    (fX8_within n a2 0 1).bind fun z5 =>
    if isB z5 = true then
    some (z5, I, R)
    else none
  else none
set_option maxRecDepth 20000 in
set_option maxHeartbeats 1000000 in
theorem fX8_isForm_w {p : Program} {l : Launch} {e : Env} {s : State} {m : MethodId} {args : Array Value} {below : List Frame} {meth : Method} {c : Code} {D : va_G} {y : ClassId} {h : Nat} {q : Nat → Nat} {n : Nat} {z : Int32 × mSt} (X : mX p s m args c cX8_isForm 3 wsX8_isForm D y) (hr : meth.sig.returnType = some .boolean ∧ meth.locks = false) {a1 : Int32} {a2 : Int32} {I : Nat → Int32} {R : Nat → Nat → Int32} {H : Heap} {locs : List Loc} {ls : Array Slot} (w : mH s D y h q H locs I R) (hl : lv_has ls 3 [(0, .ref h), (1, .int a1), (2, .int a2)]) (e0 : fX8_isForm n a1 a2 I R = some z) : W p l e rmX8_isForm s m args below meth c H locs 0 0 (MQ below (mQi D y h q (mS y h q s.heap.size) z) args s 0 0 (mS y h q s.heap.size)) (F0 m 0 ls []) := by
  have hx := X.1.1
  have hb := X.1.2.1
  unfold fX8_isForm at e0
  refine lv_aload_n hx hb dX8_isForm_0 rfl (lv_at hl 0 rfl) ?_
  refine m_get X w 9 (by decide) (index := 25) rfl (by decide +kernel) (mfr9 _ _) dX8_isForm_1 ?_
  refine lv_iload_n hx hb dX8_isForm_4 rfl (lv_at hl 1 rfl) ?_
  refine gd e0 (fun g1 e0 => ?_)
  refine m_ald X w 6 9 (mat9 _ _ _ _ _) g1 dX8_isForm_5 ?_
  refine lv_iconst (v := 2) hx hb dX8_isForm_6 (by decide) ?_
  refine lv_icmp_ge (tgt := 19) hx hb dX8_isForm_7 (by decide) (fun c8 => ?_) (fun c8 => ?_)
  · have e0 := itp _ c8 e0
    refine lv_iload_n hx hb dX8_isForm_19 rfl (lv_at hl 2 rfl) ?_
    refine lv_iconst (v := 2) hx hb dX8_isForm_20 (by decide) ?_
    refine lv_iconst (v := 3) hx hb dX8_isForm_21 (by decide) ?_
    refine bd e0 (fun z2 e3 e0 => ?_)
    refine m_callsi X w (n := 3) (As := [.int a2, .int 2, .int 3]) (rest := []) (fX8_within_met l _ _ _ _ _ e3) gX8_isForm_X8_within rfl rfl rfl (by decide +kernel) ⟨Nat.le_of_ble_eq_true rfl, Nat.le_of_ble_eq_true rfl⟩ rfl hl.1 rfl (Nat.le_of_ble_eq_true rfl) dX8_isForm_22 (fun H locs w => ?_)
    refine gd e0 (fun g4 e0 => ?_)
    have e0 := Option.some.inj e0
    subst e0
    exact m_zret X w hr g4 dX8_isForm_25
  · have e0 := itn _ c8 e0
    refine lv_iload_n hx hb dX8_isForm_10 rfl (lv_at hl 2 rfl) ?_
    refine lv_iconst (v := 0) hx hb dX8_isForm_11 (by decide) ?_
    refine lv_iconst (v := 1) hx hb dX8_isForm_12 (by decide) ?_
    refine bd e0 (fun z5 e6 e0 => ?_)
    refine m_callsi X w (n := 3) (As := [.int a2, .int 0, .int 1]) (rest := []) (fX8_within_met l _ _ _ _ _ e6) gX8_isForm_X8_within rfl rfl rfl (by decide +kernel) ⟨Nat.le_of_ble_eq_true rfl, Nat.le_of_ble_eq_true rfl⟩ rfl hl.1 rfl (Nat.le_of_ble_eq_true rfl) dX8_isForm_13 (fun H locs w => ?_)
    refine lv_goto (tgt := 25) hx hb dX8_isForm_16 (by decide) ?_
    refine gd e0 (fun g7 e0 => ?_)
    have e0 := Option.some.inj e0
    subst e0
    exact m_zret X w hr g7 dX8_isForm_25
set_option maxRecDepth 20000 in
theorem fX8_isForm_met (l : Launch) (D : va_G) (y : ClassId) (h : Nat) (q : Nat → Nat) (sz n : Nat) (a1 : Int32) (a2 : Int32) (I : Nat → Int32) (R : Nat → Nat → Int32) (z : Int32 × mSt) (e0 : fX8_isForm n a1 a2 I R = some z) : Met l yX8_isForm wsX8_isForm rmX8_isForm (va_Pc [.ref h, .int a1, .int a2] (mPre D y h q sz I R)) (mQi D y h q (mS y h q sz) z) 0 0 (mS y h q sz) := by
  refine Met.ofW (cc := cX8_isForm) (maxL := 3) (ret := some .boolean) (by decide) rfl ?_
  intro p e s m args below meth c s₁ B hml hv
  obtain ⟨rfl, hsz, hP, hK, hD⟩ := hv
  subst hsz
  have hl := lv_entry ([.ref h, .int a1, .int a2]) (n := 3) (Nat.le_of_ble_eq_true rfl)
  rw [lg_entry_eq]
  exact fX8_isForm_w (s := s) ⟨⟨B.exec, B.bytes, hml, findClass_of_methodNamed B.named, atoms_spec (ws := wsX8_isForm) B.pre⟩, fun _ h9 => List.mem_cons_of_mem _ (List.mem_append_right _ h9), hK⟩ ⟨B.returns, B.notSynchronized⟩ ⟨hP, mS_D hD, va_S.rf⟩ hl e0
def rmX8_form : Room := { frames := 4, cells := 0, slots := 0, locals := 94 }
def fX8_form (n : Nat) (a1 : Int32) (a2 : Int32) (I : Nat → Int32) (R : Nat → Nat → Int32) : Option (Int32 × mSt) :=
  (fX8_isRule n a1 I R).bind fun z1 =>
  if z1.1 = 0 then
    some ((-1), z1.2.1, z1.2.2)
  else
    (fX8_isForm n a1 a2 z1.2.1 z1.2.2).bind fun z3 =>
    if z3.1 = 0 then
      some ((-2), z3.2.1, z3.2.2)
    else
      if inb a1 5 = true then
      (fX8_gets n a1 a2 z3.2.1 z3.2.2).bind fun z6 =>
      if z6.1 = 0 then
        some ((-3), z6.2.1, z6.2.2)
      else
        some ((getA z3.2.2 9 a1), z6.2.1, z6.2.2)
      else none
set_option maxRecDepth 20000 in
set_option maxHeartbeats 1000000 in
theorem fX8_form_w {p : Program} {l : Launch} {e : Env} {s : State} {m : MethodId} {args : Array Value} {below : List Frame} {meth : Method} {c : Code} {D : va_G} {y : ClassId} {h : Nat} {q : Nat → Nat} {n : Nat} {z : Int32 × mSt} (X : mX p s m args c cX8_form 4 wsX8_form D y) (hr : meth.sig.returnType = some .int ∧ meth.locks = false) {a1 : Int32} {a2 : Int32} {I : Nat → Int32} {R : Nat → Nat → Int32} {H : Heap} {locs : List Loc} {ls : Array Slot} (w : mH s D y h q H locs I R) (hl : lv_has ls 4 [(0, .ref h), (1, .int a1), (2, .int a2)]) (e0 : fX8_form n a1 a2 I R = some z) : W p l e rmX8_form s m args below meth c H locs 0 0 (MQ below (mQi D y h q (mS y h q s.heap.size) z) args s 0 0 (mS y h q s.heap.size)) (F0 m 0 ls []) := by
  have hx := X.1.1
  have hb := X.1.2.1
  unfold fX8_form at e0
  refine lv_aload_n hx hb dX8_form_0 rfl (lv_at hl 0 rfl) ?_
  refine lv_iload_n hx hb dX8_form_1 rfl (lv_at hl 1 rfl) ?_
  refine bd e0 (fun z1 e2 e0 => ?_)
  refine m_calli X w (n := 1) (As := [.int a1]) (rest := []) (fX8_isRule_met l _ _ _ _ _ _ _ _ _ _ e2) gX8_form_X8_isRule rfl rfl rfl (by decide +kernel) ⟨Nat.le_of_ble_eq_true rfl, Nat.le_of_ble_eq_true rfl⟩ rfl hl.1 rfl (Nat.le_of_ble_eq_true rfl) dX8_form_2 (fun H locs w => ?_)
  refine lv_if_ne (tgt := 10) hx hb dX8_form_5 (by decide) (fun c10 => ?_) (fun c10 => ?_)
  · have e0 := itn _ c10 e0
    refine lv_aload_n hx hb dX8_form_10 rfl (lv_at hl 0 rfl) ?_
    refine lv_iload_n hx hb dX8_form_11 rfl (lv_at hl 1 rfl) ?_
    refine lv_iload_n hx hb dX8_form_12 rfl (lv_at hl 2 rfl) ?_
    refine bd e0 (fun z3 e4 e0 => ?_)
    refine m_calli X w (n := 2) (As := [.int a1, .int a2]) (rest := []) (fX8_isForm_met l _ _ _ _ _ _ _ _ _ _ _ e4) gX8_form_X8_isForm rfl rfl rfl (by decide +kernel) ⟨Nat.le_of_ble_eq_true rfl, Nat.le_of_ble_eq_true rfl⟩ rfl hl.1 rfl (Nat.le_of_ble_eq_true rfl) dX8_form_13 (fun H locs w => ?_)
    refine lv_if_ne (tgt := 22) hx hb dX8_form_16 (by decide) (fun c9 => ?_) (fun c9 => ?_)
    · have e0 := itn _ c9 e0
      refine lv_aload_n hx hb dX8_form_22 rfl (lv_at hl 0 rfl) ?_
      refine m_get X w 9 (by decide) (index := 25) rfl (by decide +kernel) (mfr9 _ _) dX8_form_23 ?_
      refine lv_iload_n hx hb dX8_form_26 rfl (lv_at hl 1 rfl) ?_
      refine gd e0 (fun g5 e0 => ?_)
      refine m_ald X w 6 9 (mat9 _ _ _ _ _) g5 dX8_form_27 ?_
      refine lv_istore_n (lv' := [(3, .int (getA z3.2.2 9 a1)), (0, .ref h), (1, .int a1), (2, .int a2)]) hx hb dX8_form_28 rfl hl (by decide) rfl (fun ls hl => ?_)
      refine lv_aload_n hx hb dX8_form_29 rfl (lv_at hl 1 rfl) ?_
      refine lv_iload_n hx hb dX8_form_30 rfl (lv_at hl 2 rfl) ?_
      refine lv_iload_n hx hb dX8_form_31 rfl (lv_at hl 3 rfl) ?_
      refine bd e0 (fun z6 e7 e0 => ?_)
      refine m_calli X w (n := 2) (As := [.int a1, .int a2]) (rest := []) (fX8_gets_met l _ _ _ _ _ _ _ _ _ _ _ e7) gX8_form_X8_gets rfl rfl rfl (by decide +kernel) ⟨Nat.le_of_ble_eq_true rfl, Nat.le_of_ble_eq_true rfl⟩ rfl hl.1 rfl (Nat.le_of_ble_eq_true rfl) dX8_form_32 (fun H locs w => ?_)
      refine lv_if_eq (tgt := 42) hx hb dX8_form_35 (by decide) (fun c8 => ?_) (fun c8 => ?_)
      · have e0 := itp _ c8 e0
        refine lv_bipush (v := (-3)) hx hb dX8_form_42 (by decide) ?_
        have e0 := Option.some.inj e0
        subst e0
        exact m_iret X w hr dX8_form_44
      · have e0 := itn _ c8 e0
        refine lv_iload_n hx hb dX8_form_38 rfl (lv_at hl 0 rfl) ?_
        refine lv_goto (tgt := 44) hx hb dX8_form_39 (by decide) ?_
        have e0 := Option.some.inj e0
        subst e0
        exact m_iret X w hr dX8_form_44
    · have e0 := itp _ c9 e0
      refine lv_bipush (v := (-2)) hx hb dX8_form_19 (by decide) ?_
      have e0 := Option.some.inj e0
      subst e0
      exact m_iret X w hr dX8_form_21
  · have e0 := itp _ c10 e0
    refine lv_iconst (v := (-1)) hx hb dX8_form_8 (by decide) ?_
    have e0 := Option.some.inj e0
    subst e0
    exact m_iret X w hr dX8_form_9
set_option maxRecDepth 20000 in
theorem fX8_form_met (l : Launch) (D : va_G) (y : ClassId) (h : Nat) (q : Nat → Nat) (sz n : Nat) (a1 : Int32) (a2 : Int32) (I : Nat → Int32) (R : Nat → Nat → Int32) (z : Int32 × mSt) (e0 : fX8_form n a1 a2 I R = some z) : Met l yX8_form wsX8_form rmX8_form (va_Pc [.ref h, .int a1, .int a2] (mPre D y h q sz I R)) (mQi D y h q (mS y h q sz) z) 0 0 (mS y h q sz) := by
  refine Met.ofW (cc := cX8_form) (maxL := 4) (ret := some .int) (by decide) rfl ?_
  intro p e s m args below meth c s₁ B hml hv
  obtain ⟨rfl, hsz, hP, hK, hD⟩ := hv
  subst hsz
  have hl := lv_entry ([.ref h, .int a1, .int a2]) (n := 4) (Nat.le_of_ble_eq_true rfl)
  rw [lg_entry_eq]
  exact fX8_form_w (s := s) ⟨⟨B.exec, B.bytes, hml, findClass_of_methodNamed B.named, atoms_spec (ws := wsX8_form) B.pre⟩, fun _ h9 => List.mem_cons_of_mem _ (List.mem_append_right _ h9), hK⟩ ⟨B.returns, B.notSynchronized⟩ ⟨hP, mS_D hD, va_S.rf⟩ hl e0
def rmX8_tell : Room := { frames := 2, cells := 0, slots := 0, locals := 42 }
def fX8_tell (n : Nat) (a1 : Int32) (a2 : Int32) (a3 : Int32) (I : Nat → Int32) (R : Nat → Nat → Int32) : Option (Int32 × mSt) :=
  (fX8_isRelation n a1 I R).bind fun z1 =>
  if z1.1 = 0 then
    some ((-1), z1.2.1, z1.2.2)
  else
    (fX8_isThing n a2).bind fun z3 =>
    if z3 = 0 then
      some ((-2), z1.2.1, z1.2.2)
    else
      (fX8_isThing n a3).bind fun z5 =>
      if z5 = 0 then
        some ((-2), z1.2.1, z1.2.2)
      else
        (fX8_factOf n a1 a2 a3).bind fun z7 =>
        if inb z7 64 = true then
        if inb z7 64 = true then
        if inb z7 64 = true then
        some ((getA (setA z1.2.2 13 z7 (1 - (getA z1.2.2 13 z7))) 13 z7), z1.2.1, (setA z1.2.2 13 z7 (1 - (getA z1.2.2 13 z7))))
        else none
        else none
        else none
set_option maxRecDepth 20000 in
set_option maxHeartbeats 1000000 in
theorem fX8_tell_w {p : Program} {l : Launch} {e : Env} {s : State} {m : MethodId} {args : Array Value} {below : List Frame} {meth : Method} {c : Code} {D : va_G} {y : ClassId} {h : Nat} {q : Nat → Nat} {n : Nat} {z : Int32 × mSt} (X : mX p s m args c cX8_tell 5 wsX8_tell D y) (hr : meth.sig.returnType = some .int ∧ meth.locks = false) {a1 : Int32} {a2 : Int32} {a3 : Int32} {I : Nat → Int32} {R : Nat → Nat → Int32} {H : Heap} {locs : List Loc} {ls : Array Slot} (w : mH s D y h q H locs I R) (hl : lv_has ls 5 [(0, .ref h), (1, .int a1), (2, .int a2), (3, .int a3)]) (e0 : fX8_tell n a1 a2 a3 I R = some z) : W p l e rmX8_tell s m args below meth c H locs 0 0 (MQ below (mQi D y h q (mS y h q s.heap.size) z) args s 0 0 (mS y h q s.heap.size)) (F0 m 0 ls []) := by
  have hx := X.1.1
  have hb := X.1.2.1
  unfold fX8_tell at e0
  refine lv_aload_n hx hb dX8_tell_0 rfl (lv_at hl 0 rfl) ?_
  refine lv_iload_n hx hb dX8_tell_1 rfl (lv_at hl 1 rfl) ?_
  refine bd e0 (fun z1 e2 e0 => ?_)
  refine m_calli X w (n := 1) (As := [.int a1]) (rest := []) (fX8_isRelation_met l _ _ _ _ _ _ _ _ _ _ e2) gX8_tell_X8_isRelation rfl rfl rfl (by decide +kernel) ⟨Nat.le_of_ble_eq_true rfl, Nat.le_of_ble_eq_true rfl⟩ rfl hl.1 rfl (Nat.le_of_ble_eq_true rfl) dX8_tell_2 (fun H locs w => ?_)
  refine lv_if_ne (tgt := 10) hx hb dX8_tell_5 (by decide) (fun c14 => ?_) (fun c14 => ?_)
  · have e0 := itn _ c14 e0
    refine lv_iload_n hx hb dX8_tell_10 rfl (lv_at hl 2 rfl) ?_
    refine bd e0 (fun z3 e4 e0 => ?_)
    refine m_callsi X w (n := 1) (As := [.int a2]) (rest := []) (fX8_isThing_met l _ _ _ e4) gX8_tell_X8_isThing rfl rfl rfl (by decide +kernel) ⟨Nat.le_of_ble_eq_true rfl, Nat.le_of_ble_eq_true rfl⟩ rfl hl.1 rfl (Nat.le_of_ble_eq_true rfl) dX8_tell_11 (fun H locs w => ?_)
    refine lv_if_eq (tgt := 24) hx hb dX8_tell_14 (by decide) (fun c13 => ?_) (fun c13 => ?_)
    · have e0 := itp _ c13 e0
      refine lv_bipush (v := (-2)) hx hb dX8_tell_24 (by decide) ?_
      have e0 := Option.some.inj e0
      subst e0
      exact m_iret X w hr dX8_tell_26
    · have e0 := itn _ c13 e0
      refine lv_iload_n hx hb dX8_tell_17 rfl (lv_at hl 3 rfl) ?_
      refine bd e0 (fun z5 e6 e0 => ?_)
      refine m_callsi X w (n := 1) (As := [.int a3]) (rest := []) (fX8_isThing_met l _ _ _ e6) gX8_tell_X8_isThing rfl rfl rfl (by decide +kernel) ⟨Nat.le_of_ble_eq_true rfl, Nat.le_of_ble_eq_true rfl⟩ rfl hl.1 rfl (Nat.le_of_ble_eq_true rfl) dX8_tell_18 (fun H locs w => ?_)
      refine lv_if_ne (tgt := 27) hx hb dX8_tell_21 (by decide) (fun c12 => ?_) (fun c12 => ?_)
      · have e0 := itn _ c12 e0
        refine lv_iload_n hx hb dX8_tell_27 rfl (lv_at hl 1 rfl) ?_
        refine lv_iload_n hx hb dX8_tell_28 rfl (lv_at hl 2 rfl) ?_
        refine lv_iload_n hx hb dX8_tell_29 rfl (lv_at hl 3 rfl) ?_
        refine bd e0 (fun z7 e8 e0 => ?_)
        refine m_callsi X w (n := 3) (As := [.int a1, .int a2, .int a3]) (rest := []) (fX8_factOf_met l _ _ _ _ _ e8) gX8_tell_X8_factOf rfl rfl rfl (by decide +kernel) ⟨Nat.le_of_ble_eq_true rfl, Nat.le_of_ble_eq_true rfl⟩ rfl hl.1 rfl (Nat.le_of_ble_eq_true rfl) dX8_tell_30 (fun H locs w => ?_)
        refine lv_istore (lv' := [(4, .int z7), (0, .ref h), (1, .int a1), (2, .int a2), (3, .int a3)]) hx hb dX8_tell_33 hl (by decide) rfl (fun ls hl => ?_)
        refine lv_aload_n hx hb dX8_tell_35 rfl (lv_at hl 1 rfl) ?_
        refine m_get X w 13 (by decide) (index := 37) rfl (by decide +kernel) (mfr13 _ _) dX8_tell_36 ?_
        refine lv_iload hx hb dX8_tell_39 (lv_at hl 0 rfl) ?_
        refine lv_iconst (v := 1) hx hb dX8_tell_41 (by decide) ?_
        refine lv_aload_n hx hb dX8_tell_42 rfl (lv_at hl 1 rfl) ?_
        refine m_get X w 13 (by decide) (index := 37) rfl (by decide +kernel) (mfr13 _ _) dX8_tell_43 ?_
        refine lv_iload hx hb dX8_tell_46 (lv_at hl 0 rfl) ?_
        refine gd e0 (fun g9 e0 => ?_)
        refine m_ald X w 10 13 (mat13 _ _ _ _ _) g9 dX8_tell_48 ?_
        refine lv_isub hx hb dX8_tell_49 ?_
        refine gd e0 (fun g10 e0 => ?_)
        refine m_ast X w 10 13 (mat13 _ _ _ _ _) (mset13 _ _ _ _ _) g10 dX8_tell_50 (fun H locs w => ?_)
        refine lv_aload_n hx hb dX8_tell_51 rfl (lv_at hl 1 rfl) ?_
        refine m_get X w 13 (by decide) (index := 37) rfl (by decide +kernel) (mfr13 _ _) dX8_tell_52 ?_
        refine lv_iload hx hb dX8_tell_55 (lv_at hl 0 rfl) ?_
        refine gd e0 (fun g11 e0 => ?_)
        refine m_ald X w 10 13 (mat13 _ _ _ _ _) g11 dX8_tell_57 ?_
        have e0 := Option.some.inj e0
        subst e0
        exact m_iret X w hr dX8_tell_58
      · have e0 := itp _ c12 e0
        refine lv_bipush (v := (-2)) hx hb dX8_tell_24 (by decide) ?_
        have e0 := Option.some.inj e0
        subst e0
        exact m_iret X w hr dX8_tell_26
  · have e0 := itp _ c14 e0
    refine lv_iconst (v := (-1)) hx hb dX8_tell_8 (by decide) ?_
    have e0 := Option.some.inj e0
    subst e0
    exact m_iret X w hr dX8_tell_9
set_option maxRecDepth 20000 in
theorem fX8_tell_met (l : Launch) (D : va_G) (y : ClassId) (h : Nat) (q : Nat → Nat) (sz n : Nat) (a1 : Int32) (a2 : Int32) (a3 : Int32) (I : Nat → Int32) (R : Nat → Nat → Int32) (z : Int32 × mSt) (e0 : fX8_tell n a1 a2 a3 I R = some z) : Met l yX8_tell wsX8_tell rmX8_tell (va_Pc [.ref h, .int a1, .int a2, .int a3] (mPre D y h q sz I R)) (mQi D y h q (mS y h q sz) z) 0 0 (mS y h q sz) := by
  refine Met.ofW (cc := cX8_tell) (maxL := 5) (ret := some .int) (by decide) rfl ?_
  intro p e s m args below meth c s₁ B hml hv
  obtain ⟨rfl, hsz, hP, hK, hD⟩ := hv
  subst hsz
  have hl := lv_entry ([.ref h, .int a1, .int a2, .int a3]) (n := 5) (Nat.le_of_ble_eq_true rfl)
  rw [lg_entry_eq]
  exact fX8_tell_w (s := s) ⟨⟨B.exec, B.bytes, hml, findClass_of_methodNamed B.named, atoms_spec (ws := wsX8_tell) B.pre⟩, fun _ h9 => List.mem_cons_of_mem _ (List.mem_append_right _ h9), hK⟩ ⟨B.returns, B.notSynchronized⟩ ⟨hP, mS_D hD, va_S.rf⟩ hl e0
def rmX8_ofFact : Room := { frames := 5, cells := 0, slots := 0, locals := 115 }
def fX8_ofFact (n : Nat) (a1 : Int32) (a2 : Int32) (a3 : Int32) (a4 : Int32) (I : Nat → Int32) (R : Nat → Nat → Int32) : Option (Int32 × mSt) :=
  (fX8_isRelation n a1 I R).bind fun z1 =>
  if z1.1 = 0 then
    some ((-1), z1.2.1, z1.2.2)
  else
    (fX8_isThing n a2).bind fun z3 =>
    if z3 = 0 then
      some ((-2), z1.2.1, z1.2.2)
    else
      (fX8_isThing n a3).bind fun z5 =>
      if z5 = 0 then
        some ((-2), z1.2.1, z1.2.2)
      else
        (fX8_within n a4 0 5).bind fun z7 =>
        if z7 = 0 then
          some ((-2), z1.2.1, z1.2.2)
        else
          (fX8_findCheap n z1.2.1 z1.2.2).bind fun z9 =>
          (fX8_factOf n a1 a2 a3).bind fun z11 =>
          if 2 ≤ a4 then
            if inb z11 64 = true then
            if (getA z9.2 22 z11) = 0 then
              some ((-9), z9.1, z9.2)
            else
              if a4 = 2 then
                if inb z11 64 = true then
                some ((getA z9.2 24 z11), z9.1, z9.2)
                else none
              else
                if a4 = 3 then
                  if inb z11 64 = true then
                  some ((getA z9.2 26 z11), z9.1, z9.2)
                  else none
                else
                  if a4 = 4 then
                    if inb z11 64 = true then
                    some ((getA z9.2 27 z11), z9.1, z9.2)
                    else none
                  else
                    if inb z11 64 = true then
                    some ((getA z9.2 28 z11), z9.1, z9.2)
                    else none
            else none
          else
            if a4 = 0 then
              if inb z11 64 = true then
              some ((getA z9.2 22 z11), z9.1, z9.2)
              else none
            else
              if inb z11 64 = true then
              some ((getA z9.2 13 z11), z9.1, z9.2)
              else none
set_option maxRecDepth 20000 in
set_option maxHeartbeats 1000000 in
theorem fX8_ofFact_w {p : Program} {l : Launch} {e : Env} {s : State} {m : MethodId} {args : Array Value} {below : List Frame} {meth : Method} {c : Code} {D : va_G} {y : ClassId} {h : Nat} {q : Nat → Nat} {n : Nat} {z : Int32 × mSt} (X : mX p s m args c cX8_ofFact 6 wsX8_ofFact D y) (hr : meth.sig.returnType = some .int ∧ meth.locks = false) {a1 : Int32} {a2 : Int32} {a3 : Int32} {a4 : Int32} {I : Nat → Int32} {R : Nat → Nat → Int32} {H : Heap} {locs : List Loc} {ls : Array Slot} (w : mH s D y h q H locs I R) (hl : lv_has ls 6 [(0, .ref h), (1, .int a1), (2, .int a2), (3, .int a3), (4, .int a4)]) (e0 : fX8_ofFact n a1 a2 a3 a4 I R = some z) : W p l e rmX8_ofFact s m args below meth c H locs 0 0 (MQ below (mQi D y h q (mS y h q s.heap.size) z) args s 0 0 (mS y h q s.heap.size)) (F0 m 0 ls []) := by
  have hx := X.1.1
  have hb := X.1.2.1
  unfold fX8_ofFact at e0
  refine lv_aload_n hx hb dX8_ofFact_0 rfl (lv_at hl 0 rfl) ?_
  refine lv_iload_n hx hb dX8_ofFact_1 rfl (lv_at hl 1 rfl) ?_
  refine bd e0 (fun z1 e2 e0 => ?_)
  refine m_calli X w (n := 1) (As := [.int a1]) (rest := []) (fX8_isRelation_met l _ _ _ _ _ _ _ _ _ _ e2) gX8_ofFact_X8_isRelation rfl rfl rfl (by decide +kernel) ⟨Nat.le_of_ble_eq_true rfl, Nat.le_of_ble_eq_true rfl⟩ rfl hl.1 rfl (Nat.le_of_ble_eq_true rfl) dX8_ofFact_2 (fun H locs w => ?_)
  refine lv_if_ne (tgt := 10) hx hb dX8_ofFact_5 (by decide) (fun c29 => ?_) (fun c29 => ?_)
  · have e0 := itn _ c29 e0
    refine lv_iload_n hx hb dX8_ofFact_10 rfl (lv_at hl 2 rfl) ?_
    refine bd e0 (fun z3 e4 e0 => ?_)
    refine m_callsi X w (n := 1) (As := [.int a2]) (rest := []) (fX8_isThing_met l _ _ _ e4) gX8_ofFact_X8_isThing rfl rfl rfl (by decide +kernel) ⟨Nat.le_of_ble_eq_true rfl, Nat.le_of_ble_eq_true rfl⟩ rfl hl.1 rfl (Nat.le_of_ble_eq_true rfl) dX8_ofFact_11 (fun H locs w => ?_)
    refine lv_if_eq (tgt := 34) hx hb dX8_ofFact_14 (by decide) (fun c28 => ?_) (fun c28 => ?_)
    · have e0 := itp _ c28 e0
      refine lv_bipush (v := (-2)) hx hb dX8_ofFact_34 (by decide) ?_
      have e0 := Option.some.inj e0
      subst e0
      exact m_iret X w hr dX8_ofFact_36
    · have e0 := itn _ c28 e0
      refine lv_iload_n hx hb dX8_ofFact_17 rfl (lv_at hl 3 rfl) ?_
      refine bd e0 (fun z5 e6 e0 => ?_)
      refine m_callsi X w (n := 1) (As := [.int a3]) (rest := []) (fX8_isThing_met l _ _ _ e6) gX8_ofFact_X8_isThing rfl rfl rfl (by decide +kernel) ⟨Nat.le_of_ble_eq_true rfl, Nat.le_of_ble_eq_true rfl⟩ rfl hl.1 rfl (Nat.le_of_ble_eq_true rfl) dX8_ofFact_18 (fun H locs w => ?_)
      refine lv_if_eq (tgt := 34) hx hb dX8_ofFact_21 (by decide) (fun c27 => ?_) (fun c27 => ?_)
      · have e0 := itp _ c27 e0
        refine lv_bipush (v := (-2)) hx hb dX8_ofFact_34 (by decide) ?_
        have e0 := Option.some.inj e0
        subst e0
        exact m_iret X w hr dX8_ofFact_36
      · have e0 := itn _ c27 e0
        refine lv_iload hx hb dX8_ofFact_24 (lv_at hl 4 rfl) ?_
        refine lv_iconst (v := 0) hx hb dX8_ofFact_26 (by decide) ?_
        refine lv_iconst (v := 5) hx hb dX8_ofFact_27 (by decide) ?_
        refine bd e0 (fun z7 e8 e0 => ?_)
        refine m_callsi X w (n := 3) (As := [.int a4, .int 0, .int 5]) (rest := []) (fX8_within_met l _ _ _ _ _ e8) gX8_ofFact_X8_within rfl rfl rfl (by decide +kernel) ⟨Nat.le_of_ble_eq_true rfl, Nat.le_of_ble_eq_true rfl⟩ rfl hl.1 rfl (Nat.le_of_ble_eq_true rfl) dX8_ofFact_28 (fun H locs w => ?_)
        refine lv_if_ne (tgt := 37) hx hb dX8_ofFact_31 (by decide) (fun c26 => ?_) (fun c26 => ?_)
        · have e0 := itn _ c26 e0
          refine lv_aload_n hx hb dX8_ofFact_37 rfl (lv_at hl 0 rfl) ?_
          refine bd e0 (fun z9 e10 e0 => ?_)
          refine m_callv X w (n := 0) (As := []) (rest := []) (fX8_findCheap_met l _ _ _ _ _ _  _ _ _ e10) gX8_ofFact_X8_findCheap rfl rfl rfl (by decide +kernel) ⟨Nat.le_of_ble_eq_true rfl, Nat.le_of_ble_eq_true rfl⟩ rfl hl.1 rfl (Nat.le_of_ble_eq_true rfl) dX8_ofFact_38 (fun H locs w => ?_)
          refine lv_iload_n hx hb dX8_ofFact_41 rfl (lv_at hl 1 rfl) ?_
          refine lv_iload_n hx hb dX8_ofFact_42 rfl (lv_at hl 2 rfl) ?_
          refine lv_iload_n hx hb dX8_ofFact_43 rfl (lv_at hl 3 rfl) ?_
          refine bd e0 (fun z11 e12 e0 => ?_)
          refine m_callsi X w (n := 3) (As := [.int a1, .int a2, .int a3]) (rest := []) (fX8_factOf_met l _ _ _ _ _ e12) gX8_ofFact_X8_factOf rfl rfl rfl (by decide +kernel) ⟨Nat.le_of_ble_eq_true rfl, Nat.le_of_ble_eq_true rfl⟩ rfl hl.1 rfl (Nat.le_of_ble_eq_true rfl) dX8_ofFact_44 (fun H locs w => ?_)
          refine lv_istore (lv' := [(5, .int z11), (0, .ref h), (1, .int a1), (2, .int a2), (3, .int a3), (4, .int a4)]) hx hb dX8_ofFact_47 hl (by decide) rfl (fun ls hl => ?_)
          refine lv_iload hx hb dX8_ofFact_49 (lv_at hl 5 rfl) ?_
          refine lv_iconst (v := 2) hx hb dX8_ofFact_51 (by decide) ?_
          refine lv_icmp_ge (tgt := 78) hx hb dX8_ofFact_52 (by decide) (fun c25 => ?_) (fun c25 => ?_)
          · have e0 := itp _ c25 e0
            refine lv_aload_n hx hb dX8_ofFact_78 rfl (lv_at hl 1 rfl) ?_
            refine m_get X w 22 (by decide) (index := 52) rfl (by decide +kernel) (mfr22 _ _) dX8_ofFact_79 ?_
            refine lv_iload hx hb dX8_ofFact_82 (lv_at hl 0 rfl) ?_
            refine gd e0 (fun g13 e0 => ?_)
            refine m_ald X w 15 22 (mat22 _ _ _ _ _) g13 dX8_ofFact_84 ?_
            refine lv_if_ne (tgt := 91) hx hb dX8_ofFact_85 (by decide) (fun c21 => ?_) (fun c21 => ?_)
            · have e0 := itn _ c21 e0
              refine lv_iload hx hb dX8_ofFact_91 (lv_at hl 5 rfl) ?_
              refine lv_iconst (v := 2) hx hb dX8_ofFact_93 (by decide) ?_
              refine lv_icmp_ne (tgt := 107) hx hb dX8_ofFact_94 (by decide) (fun c20 => ?_) (fun c20 => ?_)
              · have e0 := itn _ c20 e0
                refine lv_iload hx hb dX8_ofFact_107 (lv_at hl 5 rfl) ?_
                refine lv_iconst (v := 3) hx hb dX8_ofFact_109 (by decide) ?_
                refine lv_icmp_ne (tgt := 123) hx hb dX8_ofFact_110 (by decide) (fun c18 => ?_) (fun c18 => ?_)
                · have e0 := itn _ c18 e0
                  refine lv_iload hx hb dX8_ofFact_123 (lv_at hl 5 rfl) ?_
                  refine lv_iconst (v := 4) hx hb dX8_ofFact_125 (by decide) ?_
                  refine lv_icmp_ne (tgt := 139) hx hb dX8_ofFact_126 (by decide) (fun c16 => ?_) (fun c16 => ?_)
                  · have e0 := itn _ c16 e0
                    refine lv_aload_n hx hb dX8_ofFact_139 rfl (lv_at hl 1 rfl) ?_
                    refine m_get X w 28 (by decide) (index := 67) rfl (by decide +kernel) (mfr28 _ _) dX8_ofFact_140 ?_
                    refine lv_iload hx hb dX8_ofFact_143 (lv_at hl 0 rfl) ?_
                    refine gd e0 (fun g14 e0 => ?_)
                    refine m_ald X w 20 28 (mat28 _ _ _ _ _) g14 dX8_ofFact_145 ?_
                    have e0 := Option.some.inj e0
                    subst e0
                    exact m_iret X w hr dX8_ofFact_146
                  · have e0 := itp _ c16 e0
                    refine lv_aload_n hx hb dX8_ofFact_129 rfl (lv_at hl 1 rfl) ?_
                    refine m_get X w 27 (by decide) (index := 64) rfl (by decide +kernel) (mfr27 _ _) dX8_ofFact_130 ?_
                    refine lv_iload hx hb dX8_ofFact_133 (lv_at hl 0 rfl) ?_
                    refine gd e0 (fun g15 e0 => ?_)
                    refine m_ald X w 19 27 (mat27 _ _ _ _ _) g15 dX8_ofFact_135 ?_
                    refine lv_goto (tgt := 146) hx hb dX8_ofFact_136 (by decide) ?_
                    have e0 := Option.some.inj e0
                    subst e0
                    exact m_iret X w hr dX8_ofFact_146
                · have e0 := itp _ c18 e0
                  refine lv_aload_n hx hb dX8_ofFact_113 rfl (lv_at hl 1 rfl) ?_
                  refine m_get X w 26 (by decide) (index := 61) rfl (by decide +kernel) (mfr26 _ _) dX8_ofFact_114 ?_
                  refine lv_iload hx hb dX8_ofFact_117 (lv_at hl 0 rfl) ?_
                  refine gd e0 (fun g17 e0 => ?_)
                  refine m_ald X w 18 26 (mat26 _ _ _ _ _) g17 dX8_ofFact_119 ?_
                  refine lv_goto (tgt := 146) hx hb dX8_ofFact_120 (by decide) ?_
                  have e0 := Option.some.inj e0
                  subst e0
                  exact m_iret X w hr dX8_ofFact_146
              · have e0 := itp _ c20 e0
                refine lv_aload_n hx hb dX8_ofFact_97 rfl (lv_at hl 1 rfl) ?_
                refine m_get X w 24 (by decide) (index := 58) rfl (by decide +kernel) (mfr24 _ _) dX8_ofFact_98 ?_
                refine lv_iload hx hb dX8_ofFact_101 (lv_at hl 0 rfl) ?_
                refine gd e0 (fun g19 e0 => ?_)
                refine m_ald X w 17 24 (mat24 _ _ _ _ _) g19 dX8_ofFact_103 ?_
                refine lv_goto (tgt := 146) hx hb dX8_ofFact_104 (by decide) ?_
                have e0 := Option.some.inj e0
                subst e0
                exact m_iret X w hr dX8_ofFact_146
            · have e0 := itp _ c21 e0
              refine lv_bipush (v := (-9)) hx hb dX8_ofFact_88 (by decide) ?_
              have e0 := Option.some.inj e0
              subst e0
              exact m_iret X w hr dX8_ofFact_90
          · have e0 := itn _ c25 e0
            refine lv_iload hx hb dX8_ofFact_55 (lv_at hl 5 rfl) ?_
            refine lv_if_ne (tgt := 70) hx hb dX8_ofFact_57 (by decide) (fun c24 => ?_) (fun c24 => ?_)
            · have e0 := itn _ c24 e0
              refine lv_aload_n hx hb dX8_ofFact_70 rfl (lv_at hl 1 rfl) ?_
              refine m_get X w 13 (by decide) (index := 37) rfl (by decide +kernel) (mfr13 _ _) dX8_ofFact_71 ?_
              refine lv_iload hx hb dX8_ofFact_74 (lv_at hl 0 rfl) ?_
              refine gd e0 (fun g22 e0 => ?_)
              refine m_ald X w 10 13 (mat13 _ _ _ _ _) g22 dX8_ofFact_76 ?_
              have e0 := Option.some.inj e0
              subst e0
              exact m_iret X w hr dX8_ofFact_77
            · have e0 := itp _ c24 e0
              refine lv_aload_n hx hb dX8_ofFact_60 rfl (lv_at hl 1 rfl) ?_
              refine m_get X w 22 (by decide) (index := 52) rfl (by decide +kernel) (mfr22 _ _) dX8_ofFact_61 ?_
              refine lv_iload hx hb dX8_ofFact_64 (lv_at hl 0 rfl) ?_
              refine gd e0 (fun g23 e0 => ?_)
              refine m_ald X w 15 22 (mat22 _ _ _ _ _) g23 dX8_ofFact_66 ?_
              refine lv_goto (tgt := 77) hx hb dX8_ofFact_67 (by decide) ?_
              have e0 := Option.some.inj e0
              subst e0
              exact m_iret X w hr dX8_ofFact_77
        · have e0 := itp _ c26 e0
          refine lv_bipush (v := (-2)) hx hb dX8_ofFact_34 (by decide) ?_
          have e0 := Option.some.inj e0
          subst e0
          exact m_iret X w hr dX8_ofFact_36
  · have e0 := itp _ c29 e0
    refine lv_iconst (v := (-1)) hx hb dX8_ofFact_8 (by decide) ?_
    have e0 := Option.some.inj e0
    subst e0
    exact m_iret X w hr dX8_ofFact_9
set_option maxRecDepth 20000 in
theorem fX8_ofFact_met (l : Launch) (D : va_G) (y : ClassId) (h : Nat) (q : Nat → Nat) (sz n : Nat) (a1 : Int32) (a2 : Int32) (a3 : Int32) (a4 : Int32) (I : Nat → Int32) (R : Nat → Nat → Int32) (z : Int32 × mSt) (e0 : fX8_ofFact n a1 a2 a3 a4 I R = some z) : Met l yX8_ofFact wsX8_ofFact rmX8_ofFact (va_Pc [.ref h, .int a1, .int a2, .int a3, .int a4] (mPre D y h q sz I R)) (mQi D y h q (mS y h q sz) z) 0 0 (mS y h q sz) := by
  refine Met.ofW (cc := cX8_ofFact) (maxL := 6) (ret := some .int) (by decide) rfl ?_
  intro p e s m args below meth c s₁ B hml hv
  obtain ⟨rfl, hsz, hP, hK, hD⟩ := hv
  subst hsz
  have hl := lv_entry ([.ref h, .int a1, .int a2, .int a3, .int a4]) (n := 6) (Nat.le_of_ble_eq_true rfl)
  rw [lg_entry_eq]
  exact fX8_ofFact_w (s := s) ⟨⟨B.exec, B.bytes, hml, findClass_of_methodNamed B.named, atoms_spec (ws := wsX8_ofFact) B.pre⟩, fun _ h9 => List.mem_cons_of_mem _ (List.mem_append_right _ h9), hK⟩ ⟨B.returns, B.notSynchronized⟩ ⟨hP, mS_D hD, va_S.rf⟩ hl e0
