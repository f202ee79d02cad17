theorem in_X0_greatest_X0 : ∀ w ∈ wsX00, w ∈ wsX0_greatest := fun _ h9 => List.mem_cons_of_mem _ (List.mem_append_left _ (List.mem_append_right _ h9))
theorem in_X0_greatest_X3 : ∀ w ∈ wsX30, w ∈ wsX0_greatest := fun _ h9 => List.mem_cons_of_mem _ (List.mem_append_right _ h9)
def rmX0_greatest : Room := { frames := 1, cells := 0, slots := 0, locals := 30 }
def fX0_greatest_b32 (n : Nat) (u : Nat) (k4 : Int64 → Int32 → (Nat → Int32) → (Nat → Nat → Int32) → Option (Int32 × mSt)) (a1 : Int64) (a3 : Int32) (I : Nat → Int32) (R : Nat → Nat → Int32) : Option (Int32 × mSt) :=
  k4 a1 (a3 + 1) I R
set_option maxRecDepth 20000 in
set_option maxHeartbeats 2000000 in
theorem fX0_greatest_b32_w {p : Program} {l : Launch} {e : Env} {s : State} {m : MethodId} {args : Array Value} {below : List Frame} {meth : Method} {c : Code} {D : va_G} {y : ClassId} {yS : ClassId × ClassId} {q : Nat → Nat} {n : Nat} {z : Int32 × mSt} {u : Nat} (hu : u < 2) (X : cX p s m args c cX0_greatest 4 wsX0_greatest RX0 D y yS) (hr : meth.sig.returnType = some .int ∧ meth.locks = false) {k4 : Int64 → Int32 → (Nat → Int32) → (Nat → Nat → Int32) → Option (Int32 × mSt)} (hk4 : ∀ (a1 : Int64) (a3 : Int32) (I : Nat → Int32) (R : Nat → Nat → Int32) (H : Heap) (locs : List Loc) (ls : Array Slot), cH s D y yS q H locs I R → lv_has ls 4 [(0, .ref (q (150 + 100 * u))), (1, .long a1), (3, .int a3)] → k4 a1 a3 I R = some z → W p l e rmX0_greatest s m args below meth c H locs 0 0 (MQ below (cQi D y yS q (cS y yS q s.heap.size) z) args s 0 0 (cS y yS q s.heap.size)) (F0 m 4 ls [])) {a1 : Int64} {a3 : Int32} {I : Nat → Int32} {R : Nat → Nat → Int32} {H : Heap} {locs : List Loc} {ls : Array Slot} (w : cH s D y yS q H locs I R) (hl : lv_has ls 4 [(0, .ref (q (150 + 100 * u))), (1, .long a1), (3, .int a3)]) (e0 : fX0_greatest_b32 n u k4 a1 a3 I R = some z) : W p l e rmX0_greatest s m args below meth c H locs 0 0 (MQ below (cQi D y yS q (cS y yS q s.heap.size) z) args s 0 0 (cS y yS q s.heap.size)) (F0 m 32 ls []) := by
  have hx := X.1.1
  have hb := X.1.2.1
  unfold fX0_greatest_b32 at e0
  refine lv_iinc (v := (a3 + 1)) (lv' := [(3, .int (a3 + 1)), (0, .ref (q (150 + 100 * u))), (1, .long a1)]) hx hb dX0_greatest_32 hl (k := 2) rfl rfl (by decide) rfl (fun ls hl => ?_)
  refine lv_goto (tgt := 4) hx hb dX0_greatest_35 (by decide) ?_
  exact hk4 _ _ _ _ _ _ _ w (lv_sub hl [1, 2, 0] rfl) e0
def fX0_greatest_b4 (n : Nat) (u : Nat) : Nat → Int64 → Int32 → (Nat → Int32) → (Nat → Nat → Int32) → Option (Int32 × mSt)
  | 0, _, _, _, _ => none
  | j + 1, a1, a3, I, R =>
    if 64 ≤ a3 then
      some (((a1).toInt32), I, R)
    else
      (fX3_isHeld n u a3 I R).bind fun z1 =>
      if z1.1 = 0 then
        fX0_greatest_b32 n u (fX0_greatest_b4 n u j) a1 a3 z1.2.1 z1.2.2
      else
        if inb a3 64 = true then
        fX0_greatest_b32 n u (fX0_greatest_b4 n u j) (if (getL z1.2.2 (154 + 100 * u) a3) < a1 then a1 else (getL z1.2.2 (154 + 100 * u) a3)) a3 z1.2.1 z1.2.2
        else none
set_option maxRecDepth 20000 in
set_option maxHeartbeats 2000000 in
theorem fX0_greatest_b4_w {p : Program} {l : Launch} {e : Env} {s : State} {m : MethodId} {args : Array Value} {below : List Frame} {meth : Method} {c : Code} {D : va_G} {y : ClassId} {yS : ClassId × ClassId} {q : Nat → Nat} {n : Nat} {z : Int32 × mSt} {u : Nat} (hu : u < 2) (X : cX p s m args c cX0_greatest 4 wsX0_greatest RX0 D y yS) (hr : meth.sig.returnType = some .int ∧ meth.locks = false) : ∀ (j : Nat) (a1 : Int64) (a3 : Int32) (I : Nat → Int32) (R : Nat → Nat → Int32) (H : Heap) (locs : List Loc) (ls : Array Slot), cH s D y yS q H locs I R → lv_has ls 4 [(0, .ref (q (150 + 100 * u))), (1, .long a1), (3, .int a3)] → fX0_greatest_b4 n u j a1 a3 I R = some z → W p l e rmX0_greatest s m args below meth c H locs 0 0 (MQ below (cQi D y yS q (cS y yS q s.heap.size) z) args s 0 0 (cS y yS q s.heap.size)) (F0 m 4 ls []) := by
  have hx := X.1.1
  have hb := X.1.2.1
  intro j
  induction j with
  | zero =>
    intro a1 a3 I R H locs ls w hl e0
    cases e0
  | succ j ih =>
    intro a1 a3 I R H locs ls w hl e0
    rw [fX0_greatest_b4] at e0
    refine lv_iload_n hx hb dX0_greatest_4 rfl (lv_at hl 2 rfl) ?_
    refine lv_bipush (v := 64) hx hb dX0_greatest_5 (by decide) ?_
    refine lv_icmp_ge (tgt := 38) hx hb dX0_greatest_7 (by decide) (fun c5 => ?_) (fun c5 => ?_)
    · have e0 := itp _ c5 e0
      refine lv_lload_n hx hb dX0_greatest_38 rfl (lv_at hl 1 rfl) ?_
      refine lv_l2i (v := ((a1).toInt32)) hx hb dX0_greatest_39 rfl ?_
      have e0 := Option.some.inj e0
      subst e0
      exact c_iret X w hr dX0_greatest_40
    · have e0 := itn _ c5 e0
      refine lv_aload_n hx hb dX0_greatest_10 rfl (lv_at hl 0 rfl) ?_
      refine c_get X w (cat_CO _ _ _ _ _ u hu) rfl in_X0_greatest_X0 2 (by decide) (index := 27) rfl (by decide +kernel) (cf_CO_2 _ _ _) dX0_greatest_11 ?_
      refine lv_iload_n hx hb dX0_greatest_14 rfl (lv_at hl 2 rfl) ?_
      refine bd e0 (fun z1 e2 e0 => ?_)
      refine c_calli X w (c_rec X w (cat_RO _ _ _ _ _ u hu) rfl) (n := 1) (As := [.int a3]) (rest := []) (fX3_isHeld_met l _ _ _ _ _ _ _ hu _ _ _ _ e2) gX0_greatest_X3_isHeld rfl rfl rfl (by decide +kernel) ⟨Nat.le_of_ble_eq_true rfl, Nat.le_of_ble_eq_true rfl⟩ rfl hl.1 rfl (Nat.le_of_ble_eq_true rfl) dX0_greatest_15 (fun H locs w => ?_)
      refine lv_if_eq (tgt := 32) hx hb dX0_greatest_18 (by decide) (fun c4 => ?_) (fun c4 => ?_)
      · have e0 := itp _ c4 e0
        exact fX0_greatest_b32_w (l := l) hu X hr ih w (lv_sub hl [0, 1, 2] rfl) e0
      · have e0 := itn _ c4 e0
        refine lv_lload_n hx hb dX0_greatest_21 rfl (lv_at hl 1 rfl) ?_
        refine lv_aload_n hx hb dX0_greatest_22 rfl (lv_at hl 0 rfl) ?_
        refine c_get X w (cat_CO _ _ _ _ _ u hu) rfl in_X0_greatest_X0 3 (by decide) (index := 9) rfl (by decide +kernel) (cf_CO_3 _ _ _) dX0_greatest_23 ?_
        refine lv_iload_n hx hb dX0_greatest_26 rfl (lv_at hl 2 rfl) ?_
        refine gd e0 (fun g3 e0 => ?_)
        refine c_lald X w (cat_a154 _ _ _ _ _ u hu) g3 dX0_greatest_27 ?_
        refine va_mmax_long (rest := []) hx hb (X.1.2.2.1.trans hl.1.symm) X.1.2.2.2.1 (X.1.2.2.2.2 _ (by decide +kernel)) (X.1.2.2.2.2 _ (by decide +kernel)) (X.1.2.2.2.2 _ (by decide +kernel)) (X.1.2.2.2.2 _ (by decide +kernel)) (Nat.le_of_ble_eq_true rfl) (Nat.le_of_ble_eq_true rfl) (Nat.zero_le _) (Nat.zero_le _) dX0_greatest_28 ?_
        refine lv_lstore_n (lv' := [(1, .long (if (getL z1.2.2 (154 + 100 * u) a3) < a1 then a1 else (getL z1.2.2 (154 + 100 * u) a3))), (0, .ref (q (150 + 100 * u))), (3, .int a3)]) hx hb dX0_greatest_31 rfl hl (by decide) rfl (fun ls hl => ?_)
        exact fX0_greatest_b32_w (l := l) hu X hr ih w (lv_sub hl [1, 0, 2] rfl) e0
def fX0_greatest (n : Nat) (u : Nat) (I : Nat → Int32) (R : Nat → Nat → Int32) : Option (Int32 × mSt) :=
  fX0_greatest_b4 n u n 0 0 I R
set_option maxRecDepth 20000 in
set_option maxHeartbeats 2000000 in
theorem fX0_greatest_w {p : Program} {l : Launch} {e : Env} {s : State} {m : MethodId} {args : Array Value} {below : List Frame} {meth : Method} {c : Code} {D : va_G} {y : ClassId} {yS : ClassId × ClassId} {q : Nat → Nat} {n : Nat} {z : Int32 × mSt} {u : Nat} (hu : u < 2) (X : cX p s m args c cX0_greatest 4 wsX0_greatest RX0 D y yS) (hr : meth.sig.returnType = some .int ∧ meth.locks = false) {I : Nat → Int32} {R : Nat → Nat → Int32} {H : Heap} {locs : List Loc} {ls : Array Slot} (w : cH s D y yS q H locs I R) (hl : lv_has ls 4 [(0, .ref (q (150 + 100 * u)))]) (e0 : fX0_greatest n u I R = some z) : W p l e rmX0_greatest s m args below meth c H locs 0 0 (MQ below (cQi D y yS q (cS y yS q s.heap.size) z) args s 0 0 (cS y yS q s.heap.size)) (F0 m 0 ls []) := by
  have hx := X.1.1
  have hb := X.1.2.1
  unfold fX0_greatest at e0
  refine lv_lconst (v := 0) hx hb dX0_greatest_0 (by decide) ?_
  refine lv_lstore_n (lv' := [(1, .long 0), (0, .ref (q (150 + 100 * u)))]) hx hb dX0_greatest_1 rfl hl (by decide) rfl (fun ls hl => ?_)
  refine lv_iconst (v := 0) hx hb dX0_greatest_2 (by decide) ?_
  refine lv_istore_n (lv' := [(3, .int 0), (1, .long 0), (0, .ref (q (150 + 100 * u)))]) hx hb dX0_greatest_3 rfl hl (by decide) rfl (fun ls hl => ?_)
  exact fX0_greatest_b4_w (l := l) hu X hr n _ _ _ _ _ _ _ w (lv_sub hl [2, 1, 0] rfl) e0
set_option maxRecDepth 20000 in
theorem fX0_greatest_met (l : Launch) (D : va_G) (y : ClassId) (yS : ClassId × ClassId) (q : Nat → Nat) (sz n : Nat) (u : Nat) (hu : u < 2) (I : Nat → Int32) (R : Nat → Nat → Int32) (z : Int32 × mSt) (e0 : fX0_greatest n u I R = some z) : Met l yX0_greatest wsX0_greatest rmX0_greatest (va_Pc [.ref (q (150 + 100 * u))] (cPre D y yS q sz I R)) (cQi D y yS q (cS y yS q sz) z) 0 0 (cS y yS q sz) := by
  refine Met.ofW (cc := cX0_greatest) (maxL := 4) (ret := some .int) (by decide) rfl ?_
  intro p e s m args below meth c s₁ B hml hv
  obtain ⟨rfl, hsz, hP, hK, hN, hD⟩ := hv
  subst hsz
  have hl := lv_entry ([.ref (q (150 + 100 * u))]) (n := 4) (Nat.le_of_ble_eq_true rfl)
  rw [lg_entry_eq]
  exact fX0_greatest_w (s := s) hu ⟨⟨B.exec, B.bytes, hml, findClass_of_methodNamed B.named, atoms_spec (ws := wsX0_greatest) B.pre⟩, hK, hN⟩ ⟨B.returns, B.notSynchronized⟩ ⟨hP, cS_D hD, va_S.rf⟩ hl e0
theorem in_X0_comesAhead_X0 : ∀ w ∈ wsX00, w ∈ wsX0_comesAhead := fun _ h9 => List.mem_cons_of_mem _ (List.mem_append_left _ (List.mem_append_right _ h9))
theorem in_X0_comesAhead_X1 : ∀ w ∈ wsX10, w ∈ wsX0_comesAhead := fun _ h9 => List.mem_cons_of_mem _ (List.mem_append_right _ h9)
def rmX0_comesAhead : Room := { frames := 0, cells := 0, slots := 0, locals := 0 }
def fX0_comesAhead (n : Nat) (u : Nat) (a1 : Int32) (a2 : Int32) (I : Nat → Int32) (R : Nat → Nat → Int32) : Option (Int32 × mSt) :=
  if inb (a1 / 16) 4 = true then
  if inb (a2 / 16) 4 = true then
  if (getA R (132 + 100 * u) (a1 / 16)) < (getA R (132 + 100 * u) (a2 / 16)) then
    some (1, I, R)
  else
    if (getA R (132 + 100 * u) (a1 / 16)) = (getA R (132 + 100 * u) (a2 / 16)) then
      if inb a1 64 = true then
      if inb a2 64 = true then
      if 0 ≤ (lcmpI (getL R (154 + 100 * u) a1) (getL R (154 + 100 * u) a2)) then
        some (0, I, R)
      else
        some (1, I, R)
      else none
      else none
    else
      some (0, I, R)
  else none
  else none
set_option maxRecDepth 20000 in
set_option maxHeartbeats 2000000 in
theorem fX0_comesAhead_w {p : Program} {l : Launch} {e : Env} {s : State} {m : MethodId} {args : Array Value} {below : List Frame} {meth : Method} {c : Code} {D : va_G} {y : ClassId} {yS : ClassId × ClassId} {q : Nat → Nat} {n : Nat} {z : Int32 × mSt} {u : Nat} (hu : u < 2) (X : cX p s m args c cX0_comesAhead 5 wsX0_comesAhead RX0 D y yS) (hr : meth.sig.returnType = some .boolean ∧ meth.locks = false) {a1 : Int32} {a2 : Int32} {I : Nat → Int32} {R : Nat → Nat → Int32} {H : Heap} {locs : List Loc} {ls : Array Slot} (w : cH s D y yS q H locs I R) (hl : lv_has ls 5 [(0, .ref (q (150 + 100 * u))), (1, .int a1), (2, .int a2)]) (e0 : fX0_comesAhead n u a1 a2 I R = some z) : W p l e rmX0_comesAhead s m args below meth c H locs 0 0 (MQ below (cQi D y yS q (cS y yS q s.heap.size) z) args s 0 0 (cS y yS q s.heap.size)) (F0 m 0 ls []) := by
  have hx := X.1.1
  have hb := X.1.2.1
  unfold fX0_comesAhead at e0
  refine lv_aload_n hx hb dX0_comesAhead_0 rfl (lv_at hl 0 rfl) ?_
  refine c_get X w (cat_CO _ _ _ _ _ u hu) rfl in_X0_comesAhead_X0 1 (by decide) (index := 23) rfl (by decide +kernel) (cf_CO_1 _ _ _) dX0_comesAhead_1 ?_
  refine c_get X w (cat_LA _ _ _ _ _ u hu) rfl in_X0_comesAhead_X1 1 (by decide) (index := 108) rfl (by decide +kernel) (cf_LA_1 _ _ _) dX0_comesAhead_4 ?_
  refine lv_iload_n hx hb dX0_comesAhead_7 rfl (lv_at hl 1 rfl) ?_
  refine lv_bipush (v := 16) hx hb dX0_comesAhead_8 (by decide) ?_
  refine lv_idiv hx hb dX0_comesAhead_10 (by decide) ?_
  refine gd e0 (fun g1 e0 => ?_)
  refine c_ald X w (cat_a132 _ _ _ _ _ u hu) g1 dX0_comesAhead_11 ?_
  refine lv_istore_n (lv' := [(3, .int (getA R (132 + 100 * u) (a1 / 16))), (0, .ref (q (150 + 100 * u))), (1, .int a1), (2, .int a2)]) hx hb dX0_comesAhead_12 rfl hl (by decide) rfl (fun ls hl => ?_)
  refine lv_aload_n hx hb dX0_comesAhead_13 rfl (lv_at hl 1 rfl) ?_
  refine c_get X w (cat_CO _ _ _ _ _ u hu) rfl in_X0_comesAhead_X0 1 (by decide) (index := 23) rfl (by decide +kernel) (cf_CO_1 _ _ _) dX0_comesAhead_14 ?_
  refine c_get X w (cat_LA _ _ _ _ _ u hu) rfl in_X0_comesAhead_X1 1 (by decide) (index := 108) rfl (by decide +kernel) (cf_LA_1 _ _ _) dX0_comesAhead_17 ?_
  refine lv_iload_n hx hb dX0_comesAhead_20 rfl (lv_at hl 3 rfl) ?_
  refine lv_bipush (v := 16) hx hb dX0_comesAhead_21 (by decide) ?_
  refine lv_idiv hx hb dX0_comesAhead_23 (by decide) ?_
  refine gd e0 (fun g2 e0 => ?_)
  refine c_ald X w (cat_a132 _ _ _ _ _ u hu) g2 dX0_comesAhead_24 ?_
  refine lv_istore (lv' := [(4, .int (getA R (132 + 100 * u) (a2 / 16))), (3, .int (getA R (132 + 100 * u) (a1 / 16))), (0, .ref (q (150 + 100 * u))), (1, .int a1), (2, .int a2)]) hx hb dX0_comesAhead_25 hl (by decide) rfl (fun ls hl => ?_)
  refine lv_iload_n hx hb dX0_comesAhead_27 rfl (lv_at hl 1 rfl) ?_
  refine lv_iload hx hb dX0_comesAhead_28 (lv_at hl 0 rfl) ?_
  refine lv_icmp_lt (tgt := 55) hx hb dX0_comesAhead_30 (by decide) (fun c7 => ?_) (fun c7 => ?_)
  · have e0 := itp _ c7 e0
    refine lv_iconst (v := 1) hx hb dX0_comesAhead_55 (by decide) ?_
    refine lv_goto (tgt := 60) hx hb dX0_comesAhead_56 (by decide) ?_
    have e0 := Option.some.inj e0
    subst e0
    exact c_zret X w hr rfl dX0_comesAhead_60
  · have e0 := itn _ c7 e0
    refine lv_iload_n hx hb dX0_comesAhead_33 rfl (lv_at hl 1 rfl) ?_
    refine lv_iload hx hb dX0_comesAhead_34 (lv_at hl 0 rfl) ?_
    refine lv_icmp_ne (tgt := 59) hx hb dX0_comesAhead_36 (by decide) (fun c6 => ?_) (fun c6 => ?_)
    · have e0 := itn _ c6 e0
      refine lv_iconst (v := 0) hx hb dX0_comesAhead_59 (by decide) ?_
      have e0 := Option.some.inj e0
      subst e0
      exact c_zret X w hr rfl dX0_comesAhead_60
    · have e0 := itp _ c6 e0
      refine lv_aload_n hx hb dX0_comesAhead_39 rfl (lv_at hl 2 rfl) ?_
      refine c_get X w (cat_CO _ _ _ _ _ u hu) rfl in_X0_comesAhead_X0 3 (by decide) (index := 9) rfl (by decide +kernel) (cf_CO_3 _ _ _) dX0_comesAhead_40 ?_
      refine lv_iload_n hx hb dX0_comesAhead_43 rfl (lv_at hl 3 rfl) ?_
      refine gd e0 (fun g3 e0 => ?_)
      refine c_lald X w (cat_a154 _ _ _ _ _ u hu) g3 dX0_comesAhead_44 ?_
      refine lv_aload_n hx hb dX0_comesAhead_45 rfl (lv_at hl 2 rfl) ?_
      refine c_get X w (cat_CO _ _ _ _ _ u hu) rfl in_X0_comesAhead_X0 3 (by decide) (index := 9) rfl (by decide +kernel) (cf_CO_3 _ _ _) dX0_comesAhead_46 ?_
      refine lv_iload_n hx hb dX0_comesAhead_49 rfl (lv_at hl 4 rfl) ?_
      refine gd e0 (fun g4 e0 => ?_)
      refine c_lald X w (cat_a154 _ _ _ _ _ u hu) g4 dX0_comesAhead_50 ?_
      refine lv_lcmp hx hb dX0_comesAhead_51 ?_
      refine lv_if_ge (tgt := 59) hx hb dX0_comesAhead_52 (by decide) (fun c5 => ?_) (fun c5 => ?_)
      · have e0 := itp _ c5 e0
        refine lv_iconst (v := 0) hx hb dX0_comesAhead_59 (by decide) ?_
        have e0 := Option.some.inj e0
        subst e0
        exact c_zret X w hr rfl dX0_comesAhead_60
      · have e0 := itn _ c5 e0
        refine lv_iconst (v := 1) hx hb dX0_comesAhead_55 (by decide) ?_
        refine lv_goto (tgt := 60) hx hb dX0_comesAhead_56 (by decide) ?_
        have e0 := Option.some.inj e0
        subst e0
        exact c_zret X w hr rfl dX0_comesAhead_60
set_option maxRecDepth 20000 in
theorem fX0_comesAhead_met (l : Launch) (D : va_G) (y : ClassId) (yS : ClassId × ClassId) (q : Nat → Nat) (sz n : Nat) (u : Nat) (hu : u < 2) (a1 : Int32) (a2 : Int32) (I : Nat → Int32) (R : Nat → Nat → Int32) (z : Int32 × mSt) (e0 : fX0_comesAhead n u a1 a2 I R = some z) : Met l yX0_comesAhead wsX0_comesAhead rmX0_comesAhead (va_Pc [.ref (q (150 + 100 * u)), .int a1, .int a2] (cPre D y yS q sz I R)) (cQi D y yS q (cS y yS q sz) z) 0 0 (cS y yS q sz) := by
  refine Met.ofW (cc := cX0_comesAhead) (maxL := 5) (ret := some .boolean) (by decide) rfl ?_
  intro p e s m args below meth c s₁ B hml hv
  obtain ⟨rfl, hsz, hP, hK, hN, hD⟩ := hv
  subst hsz
  have hl := lv_entry ([.ref (q (150 + 100 * u)), .int a1, .int a2]) (n := 5) (Nat.le_of_ble_eq_true rfl)
  rw [lg_entry_eq]
  exact fX0_comesAhead_w (s := s) hu ⟨⟨B.exec, B.bytes, hml, findClass_of_methodNamed B.named, atoms_spec (ws := wsX0_comesAhead) B.pre⟩, hK, hN⟩ ⟨B.returns, B.notSynchronized⟩ ⟨hP, cS_D hD, va_S.rf⟩ hl e0
theorem in_X0_putInOrder_X0 : ∀ w ∈ wsX00, w ∈ wsX0_putInOrder := fun _ h9 => List.mem_cons_of_mem _ (List.mem_append_left _ (List.mem_append_left _ (List.mem_append_right _ h9)))
theorem in_X0_putInOrder_X3 : ∀ w ∈ wsX30, w ∈ wsX0_putInOrder := fun _ h9 => List.mem_cons_of_mem _ (List.mem_append_left _ (List.mem_append_right _ h9))
theorem in_X0_putInOrder_X1 : ∀ w ∈ wsX10, w ∈ wsX0_putInOrder := fun _ h9 => List.mem_cons_of_mem _ (List.mem_append_right _ h9)
def rmX0_putInOrder : Room := { frames := 1, cells := 0, slots := 0, locals := 24 }
def fX0_putInOrder_b99 (n : Nat) (u : Nat) (k20 : Int32 → (Nat → Int32) → (Nat → Nat → Int32) → Option (mSt)) (a1 : Int32) (I : Nat → Int32) (R : Nat → Nat → Int32) : Option (mSt) :=
  k20 (a1 + 1) I R
set_option maxRecDepth 20000 in
set_option maxHeartbeats 2000000 in
theorem fX0_putInOrder_b99_w {p : Program} {l : Launch} {e : Env} {s : State} {m : MethodId} {args : Array Value} {below : List Frame} {meth : Method} {c : Code} {D : va_G} {y : ClassId} {yS : ClassId × ClassId} {q : Nat → Nat} {n : Nat} {z : mSt} {u : Nat} (hu : u < 2) (X : cX p s m args c cX0_putInOrder 3 wsX0_putInOrder RX0 D y yS) (hr : meth.sig.returnType = none ∧ meth.locks = false) {k20 : Int32 → (Nat → Int32) → (Nat → Nat → Int32) → Option (mSt)} (hk20 : ∀ (a1 : Int32) (I : Nat → Int32) (R : Nat → Nat → Int32) (H : Heap) (locs : List Loc) (ls : Array Slot), cH s D y yS q H locs I R → lv_has ls 3 [(0, .ref (q (150 + 100 * u))), (1, .int a1)] → k20 a1 I R = some z → W p l e rmX0_putInOrder s m args below meth c H locs 0 0 (MQ below (cQv D y yS q (cS y yS q s.heap.size) z) args s 0 0 (cS y yS q s.heap.size)) (F0 m 20 ls [])) {a1 : Int32} {I : Nat → Int32} {R : Nat → Nat → Int32} {H : Heap} {locs : List Loc} {ls : Array Slot} (w : cH s D y yS q H locs I R) (hl : lv_has ls 3 [(0, .ref (q (150 + 100 * u))), (1, .int a1)]) (e0 : fX0_putInOrder_b99 n u k20 a1 I R = some z) : W p l e rmX0_putInOrder s m args below meth c H locs 0 0 (MQ below (cQv D y yS q (cS y yS q s.heap.size) z) args s 0 0 (cS y yS q s.heap.size)) (F0 m 99 ls []) := by
  have hx := X.1.1
  have hb := X.1.2.1
  unfold fX0_putInOrder_b99 at e0
  refine lv_iinc (v := (a1 + 1)) (lv' := [(1, .int (a1 + 1)), (0, .ref (q (150 + 100 * u)))]) hx hb dX0_putInOrder_99 hl (k := 1) rfl rfl (by decide) rfl (fun ls hl => ?_)
  refine lv_goto (tgt := 20) hx hb dX0_putInOrder_102 (by decide) ?_
  exact hk20 _ _ _ _ _ _ w (lv_sub hl [1, 0] rfl) e0
def fX0_putInOrder_b82 (n : Nat) (u : Nat) (k20 : Int32 → (Nat → Int32) → (Nat → Nat → Int32) → Option (mSt)) (a1 : Int32) (a2 : Int32) (I : Nat → Int32) (R : Nat → Nat → Int32) : Option (mSt) :=
  if inb a2 64 = true then
  fX0_putInOrder_b99 n u k20 a1 (upd I (156 + 100 * u) ((I (156 + 100 * u)) + 1)) (setA R (155 + 100 * u) a2 a1)
  else none
set_option maxRecDepth 20000 in
set_option maxHeartbeats 2000000 in
theorem fX0_putInOrder_b82_w {p : Program} {l : Launch} {e : Env} {s : State} {m : MethodId} {args : Array Value} {below : List Frame} {meth : Method} {c : Code} {D : va_G} {y : ClassId} {yS : ClassId × ClassId} {q : Nat → Nat} {n : Nat} {z : mSt} {u : Nat} (hu : u < 2) (X : cX p s m args c cX0_putInOrder 3 wsX0_putInOrder RX0 D y yS) (hr : meth.sig.returnType = none ∧ meth.locks = false) {k20 : Int32 → (Nat → Int32) → (Nat → Nat → Int32) → Option (mSt)} (hk20 : ∀ (a1 : Int32) (I : Nat → Int32) (R : Nat → Nat → Int32) (H : Heap) (locs : List Loc) (ls : Array Slot), cH s D y yS q H locs I R → lv_has ls 3 [(0, .ref (q (150 + 100 * u))), (1, .int a1)] → k20 a1 I R = some z → W p l e rmX0_putInOrder s m args below meth c H locs 0 0 (MQ below (cQv D y yS q (cS y yS q s.heap.size) z) args s 0 0 (cS y yS q s.heap.size)) (F0 m 20 ls [])) {a1 : Int32} {a2 : Int32} {I : Nat → Int32} {R : Nat → Nat → Int32} {H : Heap} {locs : List Loc} {ls : Array Slot} (w : cH s D y yS q H locs I R) (hl : lv_has ls 3 [(0, .ref (q (150 + 100 * u))), (1, .int a1), (2, .int a2)]) (e0 : fX0_putInOrder_b82 n u k20 a1 a2 I R = some z) : W p l e rmX0_putInOrder s m args below meth c H locs 0 0 (MQ below (cQv D y yS q (cS y yS q s.heap.size) z) args s 0 0 (cS y yS q s.heap.size)) (F0 m 82 ls []) := by
  have hx := X.1.1
  have hb := X.1.2.1
  unfold fX0_putInOrder_b82 at e0
  refine lv_aload_n hx hb dX0_putInOrder_82 rfl (lv_at hl 0 rfl) ?_
  refine c_get X w (cat_CO _ _ _ _ _ u hu) rfl in_X0_putInOrder_X0 4 (by decide) (index := 15) rfl (by decide +kernel) (cf_CO_4 _ _ _) dX0_putInOrder_83 ?_
  refine lv_iload_n hx hb dX0_putInOrder_86 rfl (lv_at hl 2 rfl) ?_
  refine lv_iload_n hx hb dX0_putInOrder_87 rfl (lv_at hl 1 rfl) ?_
  refine gd e0 (fun g13 e0 => ?_)
  refine c_ast X w (cat_a155 _ _ _ _ _ u hu) (cset_a155 _ _ _ _ _ u hu) g13 dX0_putInOrder_88 (fun H locs w => ?_)
  refine lv_aload_n hx hb dX0_putInOrder_89 rfl (lv_at hl 0 rfl) ?_
  refine lv_dup hx hb dX0_putInOrder_90 rfl ?_
  refine c_get X w (cat_CO _ _ _ _ _ u hu) rfl in_X0_putInOrder_X0 5 (by decide) (index := 101) rfl (by decide +kernel) (cf_CO_5 _ _ _) dX0_putInOrder_91 ?_
  refine lv_iconst (v := 1) hx hb dX0_putInOrder_94 (by decide) ?_
  refine lv_iadd hx hb dX0_putInOrder_95 ?_
  refine c_put X w (cat_CO _ _ _ _ _ u hu) rfl in_X0_putInOrder_X0 tyX0 tyX0_ok nmX0 5 (by decide) (index := 101) (ty := .int) rfl (by decide +kernel) rfl (by decide +kernel) rfl rfl (Nat.le_of_ble_eq_true rfl) (cset_CO_5 _ _ _ _ _ u hu _) dX0_putInOrder_96 (fun H locs w => ?_)
  exact fX0_putInOrder_b99_w (l := l) hu X hr hk20 w (lv_sub hl [0, 1] rfl) e0
def fX0_putInOrder_b42 (n : Nat) (u : Nat) (k20 : Int32 → (Nat → Int32) → (Nat → Nat → Int32) → Option (mSt)) : Nat → Int32 → Int32 → (Nat → Int32) → (Nat → Nat → Int32) → Option (mSt)
  | 0, _, _, _, _ => none
  | j + 1, a1, a2, I, R =>
    if a2 ≤ 0 then
      fX0_putInOrder_b82 n u k20 a1 a2 I R
    else
      if inb (a2 - 1) 64 = true then
      (fX0_comesAhead n u a1 (getA R (155 + 100 * u) (a2 - 1)) I R).bind fun z7 =>
      if z7.1 = 0 then
        fX0_putInOrder_b82 n u k20 a1 a2 z7.2.1 z7.2.2
      else
        if inb (a2 - 1) 64 = true then
        if inb a2 64 = true then
        fX0_putInOrder_b42 n u k20 j a1 (a2 + (-1)) z7.2.1 (setA z7.2.2 (155 + 100 * u) a2 (getA z7.2.2 (155 + 100 * u) (a2 - 1)))
        else none
        else none
      else none
set_option maxRecDepth 20000 in
set_option maxHeartbeats 2000000 in
theorem fX0_putInOrder_b42_w {p : Program} {l : Launch} {e : Env} {s : State} {m : MethodId} {args : Array Value} {below : List Frame} {meth : Method} {c : Code} {D : va_G} {y : ClassId} {yS : ClassId × ClassId} {q : Nat → Nat} {n : Nat} {z : mSt} {u : Nat} (hu : u < 2) (X : cX p s m args c cX0_putInOrder 3 wsX0_putInOrder RX0 D y yS) (hr : meth.sig.returnType = none ∧ meth.locks = false) {k20 : Int32 → (Nat → Int32) → (Nat → Nat → Int32) → Option (mSt)} (hk20 : ∀ (a1 : Int32) (I : Nat → Int32) (R : Nat → Nat → Int32) (H : Heap) (locs : List Loc) (ls : Array Slot), cH s D y yS q H locs I R → lv_has ls 3 [(0, .ref (q (150 + 100 * u))), (1, .int a1)] → k20 a1 I R = some z → W p l e rmX0_putInOrder s m args below meth c H locs 0 0 (MQ below (cQv D y yS q (cS y yS q s.heap.size) z) args s 0 0 (cS y yS q s.heap.size)) (F0 m 20 ls [])) : ∀ (j : Nat) (a1 : Int32) (a2 : Int32) (I : Nat → Int32) (R : Nat → Nat → Int32) (H : Heap) (locs : List Loc) (ls : Array Slot), cH s D y yS q H locs I R → lv_has ls 3 [(0, .ref (q (150 + 100 * u))), (1, .int a1), (2, .int a2)] → fX0_putInOrder_b42 n u k20 j a1 a2 I R = some z → W p l e rmX0_putInOrder s m args below meth c H locs 0 0 (MQ below (cQv D y yS q (cS y yS q s.heap.size) z) args s 0 0 (cS y yS q s.heap.size)) (F0 m 42 ls []) := by
  have hx := X.1.1
  have hb := X.1.2.1
  intro j
  induction j with
  | zero =>
    intro a1 a2 I R H locs ls w hl e0
    cases e0
  | succ j ih =>
    intro a1 a2 I R H locs ls w hl e0
    rw [fX0_putInOrder_b42] at e0
    refine lv_iload_n hx hb dX0_putInOrder_42 rfl (lv_at hl 2 rfl) ?_
    refine lv_if_le (tgt := 82) hx hb dX0_putInOrder_43 (by decide) (fun c12 => ?_) (fun c12 => ?_)
    · have e0 := itp _ c12 e0
      exact fX0_putInOrder_b82_w (l := l) hu X hr hk20 w (lv_sub hl [0, 1, 2] rfl) e0
    · have e0 := itn _ c12 e0
      refine lv_aload_n hx hb dX0_putInOrder_46 rfl (lv_at hl 0 rfl) ?_
      refine lv_iload_n hx hb dX0_putInOrder_47 rfl (lv_at hl 1 rfl) ?_
      refine lv_aload_n hx hb dX0_putInOrder_48 rfl (lv_at hl 0 rfl) ?_
      refine c_get X w (cat_CO _ _ _ _ _ u hu) rfl in_X0_putInOrder_X0 4 (by decide) (index := 15) rfl (by decide +kernel) (cf_CO_4 _ _ _) dX0_putInOrder_49 ?_
      refine lv_iload_n hx hb dX0_putInOrder_52 rfl (lv_at hl 2 rfl) ?_
      refine lv_iconst (v := 1) hx hb dX0_putInOrder_53 (by decide) ?_
      refine lv_isub hx hb dX0_putInOrder_54 ?_
      refine gd e0 (fun g6 e0 => ?_)
      refine c_ald X w (cat_a155 _ _ _ _ _ u hu) g6 dX0_putInOrder_55 ?_
      refine bd e0 (fun z7 e8 e0 => ?_)
      refine c_calli X w (c_rec X w (cat_CO _ _ _ _ _ u hu) rfl) (n := 2) (As := [.int a1, .int (getA R (155 + 100 * u) (a2 - 1))]) (rest := []) (fX0_comesAhead_met l _ _ _ _ _ _ _ hu _ _ _ _ _ e8) gX0_putInOrder_X0_comesAhead rfl rfl rfl (by decide +kernel) ⟨Nat.le_of_ble_eq_true rfl, Nat.le_of_ble_eq_true rfl⟩ rfl hl.1 rfl (Nat.le_of_ble_eq_true rfl) dX0_putInOrder_56 (fun H locs w => ?_)
      refine lv_if_eq (tgt := 82) hx hb dX0_putInOrder_59 (by decide) (fun c11 => ?_) (fun c11 => ?_)
      · have e0 := itp _ c11 e0
        exact fX0_putInOrder_b82_w (l := l) hu X hr hk20 w (lv_sub hl [0, 1, 2] rfl) e0
      · have e0 := itn _ c11 e0
        refine lv_aload_n hx hb dX0_putInOrder_62 rfl (lv_at hl 0 rfl) ?_
        refine c_get X w (cat_CO _ _ _ _ _ u hu) rfl in_X0_putInOrder_X0 4 (by decide) (index := 15) rfl (by decide +kernel) (cf_CO_4 _ _ _) dX0_putInOrder_63 ?_
        refine lv_iload_n hx hb dX0_putInOrder_66 rfl (lv_at hl 2 rfl) ?_
        refine lv_aload_n hx hb dX0_putInOrder_67 rfl (lv_at hl 0 rfl) ?_
        refine c_get X w (cat_CO _ _ _ _ _ u hu) rfl in_X0_putInOrder_X0 4 (by decide) (index := 15) rfl (by decide +kernel) (cf_CO_4 _ _ _) dX0_putInOrder_68 ?_
        refine lv_iload_n hx hb dX0_putInOrder_71 rfl (lv_at hl 2 rfl) ?_
        refine lv_iconst (v := 1) hx hb dX0_putInOrder_72 (by decide) ?_
        refine lv_isub hx hb dX0_putInOrder_73 ?_
        refine gd e0 (fun g9 e0 => ?_)
        refine c_ald X w (cat_a155 _ _ _ _ _ u hu) g9 dX0_putInOrder_74 ?_
        refine gd e0 (fun g10 e0 => ?_)
        refine c_ast X w (cat_a155 _ _ _ _ _ u hu) (cset_a155 _ _ _ _ _ u hu) g10 dX0_putInOrder_75 (fun H locs w => ?_)
        refine lv_iinc (v := (a2 + (-1))) (lv' := [(2, .int (a2 + (-1))), (0, .ref (q (150 + 100 * u))), (1, .int a1)]) hx hb dX0_putInOrder_76 hl (k := 2) rfl rfl (by decide) rfl (fun ls hl => ?_)
        refine lv_goto (tgt := 42) hx hb dX0_putInOrder_79 (by decide) ?_
        exact ih _ _ _ _ _ _ _ w (lv_sub hl [1, 2, 0] rfl) e0
def fX0_putInOrder_b20 (n : Nat) (u : Nat) : Nat → Int32 → (Nat → Int32) → (Nat → Nat → Int32) → Option (mSt)
  | 0, _, _, _ => none
  | j + 1, a1, I, R =>
    if 64 ≤ a1 then
      some (I, R)
    else
      (fX3_isHeld n u a1 I R).bind fun z2 =>
      if z2.1 = 0 then
        fX0_putInOrder_b99 n u (fX0_putInOrder_b20 n u j) a1 z2.2.1 z2.2.2
      else
        fX0_putInOrder_b42 n u (fX0_putInOrder_b20 n u j) n a1 (z2.2.1 (156 + 100 * u)) z2.2.1 z2.2.2
set_option maxRecDepth 20000 in
set_option maxHeartbeats 2000000 in
theorem fX0_putInOrder_b20_w {p : Program} {l : Launch} {e : Env} {s : State} {m : MethodId} {args : Array Value} {below : List Frame} {meth : Method} {c : Code} {D : va_G} {y : ClassId} {yS : ClassId × ClassId} {q : Nat → Nat} {n : Nat} {z : mSt} {u : Nat} (hu : u < 2) (X : cX p s m args c cX0_putInOrder 3 wsX0_putInOrder RX0 D y yS) (hr : meth.sig.returnType = none ∧ meth.locks = false) : ∀ (j : Nat) (a1 : Int32) (I : Nat → Int32) (R : Nat → Nat → Int32) (H : Heap) (locs : List Loc) (ls : Array Slot), cH s D y yS q H locs I R → lv_has ls 3 [(0, .ref (q (150 + 100 * u))), (1, .int a1)] → fX0_putInOrder_b20 n u j a1 I R = some z → W p l e rmX0_putInOrder s m args below meth c H locs 0 0 (MQ below (cQv D y yS q (cS y yS q s.heap.size) z) args s 0 0 (cS y yS q s.heap.size)) (F0 m 20 ls []) := by
  have hx := X.1.1
  have hb := X.1.2.1
  intro j
  induction j with
  | zero =>
    intro a1 I R H locs ls w hl e0
    cases e0
  | succ j ih =>
    intro a1 I R H locs ls w hl e0
    rw [fX0_putInOrder_b20] at e0
    refine lv_iload_n hx hb dX0_putInOrder_20 rfl (lv_at hl 1 rfl) ?_
    refine lv_bipush (v := 64) hx hb dX0_putInOrder_21 (by decide) ?_
    refine lv_icmp_ge (tgt := 105) hx hb dX0_putInOrder_23 (by decide) (fun c5 => ?_) (fun c5 => ?_)
    · have e0 := itp _ c5 e0
      have e0 := Option.some.inj e0
      subst e0
      exact c_vret X w hr dX0_putInOrder_105
    · have e0 := itn _ c5 e0
      refine lv_aload_n hx hb dX0_putInOrder_26 rfl (lv_at hl 0 rfl) ?_
      refine c_get X w (cat_CO _ _ _ _ _ u hu) rfl in_X0_putInOrder_X0 2 (by decide) (index := 27) rfl (by decide +kernel) (cf_CO_2 _ _ _) dX0_putInOrder_27 ?_
      refine lv_iload_n hx hb dX0_putInOrder_30 rfl (lv_at hl 1 rfl) ?_
      refine bd e0 (fun z2 e3 e0 => ?_)
      refine c_calli X w (c_rec X w (cat_RO _ _ _ _ _ u hu) rfl) (n := 1) (As := [.int a1]) (rest := []) (fX3_isHeld_met l _ _ _ _ _ _ _ hu _ _ _ _ e3) gX0_putInOrder_X3_isHeld rfl rfl rfl (by decide +kernel) ⟨Nat.le_of_ble_eq_true rfl, Nat.le_of_ble_eq_true rfl⟩ rfl hl.1 rfl (Nat.le_of_ble_eq_true rfl) dX0_putInOrder_31 (fun H locs w => ?_)
      refine lv_if_eq (tgt := 99) hx hb dX0_putInOrder_34 (by decide) (fun c4 => ?_) (fun c4 => ?_)
      · have e0 := itp _ c4 e0
        exact fX0_putInOrder_b99_w (l := l) hu X hr ih w (lv_sub hl [0, 1] rfl) e0
      · have e0 := itn _ c4 e0
        refine lv_aload_n hx hb dX0_putInOrder_37 rfl (lv_at hl 0 rfl) ?_
        refine c_get X w (cat_CO _ _ _ _ _ u hu) rfl in_X0_putInOrder_X0 5 (by decide) (index := 101) rfl (by decide +kernel) (cf_CO_5 _ _ _) dX0_putInOrder_38 ?_
        refine lv_istore_n (lv' := [(2, .int (z2.2.1 (156 + 100 * u))), (0, .ref (q (150 + 100 * u))), (1, .int a1)]) hx hb dX0_putInOrder_41 rfl hl (by decide) rfl (fun ls hl => ?_)
        exact fX0_putInOrder_b42_w (l := l) hu X hr ih n _ _ _ _ _ _ _ w (lv_sub hl [1, 2, 0] rfl) e0
def fX0_putInOrder (n : Nat) (u : Nat) (I : Nat → Int32) (R : Nat → Nat → Int32) : Option (mSt) :=
  if (I (157 + 100 * u)) = 0 then
    fX0_putInOrder_b20 n u n 0 (upd (upd I (157 + 100 * u) 1) (156 + 100 * u) 0) R
  else
    some (I, R)
set_option maxRecDepth 20000 in
set_option maxHeartbeats 2000000 in
theorem fX0_putInOrder_w {p : Program} {l : Launch} {e : Env} {s : State} {m : MethodId} {args : Array Value} {below : List Frame} {meth : Method} {c : Code} {D : va_G} {y : ClassId} {yS : ClassId × ClassId} {q : Nat → Nat} {n : Nat} {z : mSt} {u : Nat} (hu : u < 2) (X : cX p s m args c cX0_putInOrder 3 wsX0_putInOrder RX0 D y yS) (hr : meth.sig.returnType = none ∧ meth.locks = false) {I : Nat → Int32} {R : Nat → Nat → Int32} {H : Heap} {locs : List Loc} {ls : Array Slot} (w : cH s D y yS q H locs I R) (hl : lv_has ls 3 [(0, .ref (q (150 + 100 * u)))]) (e0 : fX0_putInOrder n u I R = some z) : W p l e rmX0_putInOrder s m args below meth c H locs 0 0 (MQ below (cQv D y yS q (cS y yS q s.heap.size) z) args s 0 0 (cS y yS q s.heap.size)) (F0 m 0 ls []) := by
  have hx := X.1.1
  have hb := X.1.2.1
  unfold fX0_putInOrder at e0
  refine lv_aload_n hx hb dX0_putInOrder_0 rfl (lv_at hl 0 rfl) ?_
  refine c_get X w (cat_CO _ _ _ _ _ u hu) rfl in_X0_putInOrder_X0 6 (by decide) (index := 43) rfl (by decide +kernel) (cf_CO_6 _ _ _) dX0_putInOrder_1 ?_
  refine lv_if_eq (tgt := 8) hx hb dX0_putInOrder_4 (by decide) (fun c1 => ?_) (fun c1 => ?_)
  · have e0 := itp _ c1 e0
    refine lv_aload_n hx hb dX0_putInOrder_8 rfl (lv_at hl 0 rfl) ?_
    refine lv_iconst (v := 1) hx hb dX0_putInOrder_9 (by decide) ?_
    refine c_put X w (cat_CO _ _ _ _ _ u hu) rfl in_X0_putInOrder_X0 tyX0 tyX0_ok nmX0 6 (by decide) (index := 43) (ty := .boolean) rfl (by decide +kernel) rfl (by decide +kernel) rfl rfl (Nat.le_of_ble_eq_true rfl) (cset_CO_6 _ _ _ _ _ u hu _) dX0_putInOrder_10 (fun H locs w => ?_)
    refine lv_aload_n hx hb dX0_putInOrder_13 rfl (lv_at hl 0 rfl) ?_
    refine lv_iconst (v := 0) hx hb dX0_putInOrder_14 (by decide) ?_
    refine c_put X w (cat_CO _ _ _ _ _ u hu) rfl in_X0_putInOrder_X0 tyX0 tyX0_ok nmX0 5 (by decide) (index := 101) (ty := .int) rfl (by decide +kernel) rfl (by decide +kernel) rfl rfl (Nat.le_of_ble_eq_true rfl) (cset_CO_5 _ _ _ _ _ u hu _) dX0_putInOrder_15 (fun H locs w => ?_)
    refine lv_iconst (v := 0) hx hb dX0_putInOrder_18 (by decide) ?_
    refine lv_istore_n (lv' := [(1, .int 0), (0, .ref (q (150 + 100 * u)))]) hx hb dX0_putInOrder_19 rfl hl (by decide) rfl (fun ls hl => ?_)
    exact fX0_putInOrder_b20_w (l := l) hu X hr n _ _ _ _ _ _ w (lv_sub hl [1, 0] rfl) e0
  · have e0 := itn _ c1 e0
    have e0 := Option.some.inj e0
    subst e0
    exact c_vret X w hr dX0_putInOrder_7
set_option maxRecDepth 20000 in
theorem fX0_putInOrder_met (l : Launch) (D : va_G) (y : ClassId) (yS : ClassId × ClassId) (q : Nat → Nat) (sz n : Nat) (u : Nat) (hu : u < 2) (I : Nat → Int32) (R : Nat → Nat → Int32) (z : mSt) (e0 : fX0_putInOrder n u I R = some z) : Met l yX0_putInOrder wsX0_putInOrder rmX0_putInOrder (va_Pc [.ref (q (150 + 100 * u))] (cPre D y yS q sz I R)) (cQv D y yS q (cS y yS q sz) z) 0 0 (cS y yS q sz) := by
  refine Met.ofW (cc := cX0_putInOrder) (maxL := 3) (ret := none) (by decide) rfl ?_
  intro p e s m args below meth c s₁ B hml hv
  obtain ⟨rfl, hsz, hP, hK, hN, hD⟩ := hv
  subst hsz
  have hl := lv_entry ([.ref (q (150 + 100 * u))]) (n := 3) (Nat.le_of_ble_eq_true rfl)
  rw [lg_entry_eq]
  exact fX0_putInOrder_w (s := s) hu ⟨⟨B.exec, B.bytes, hml, findClass_of_methodNamed B.named, atoms_spec (ws := wsX0_putInOrder) B.pre⟩, hK, hN⟩ ⟨B.returns, B.notSynchronized⟩ ⟨hP, cS_D hD, va_S.rf⟩ hl e0
theorem in_X0_settledFact_X0 : ∀ w ∈ wsX00, w ∈ wsX0_settledFact := fun _ h9 => List.mem_cons_of_mem _ (List.mem_append_left _ (List.mem_append_left _ (List.mem_append_right _ h9)))
theorem in_X0_settledFact_X3 : ∀ w ∈ wsX30, w ∈ wsX0_settledFact := fun _ h9 => List.mem_cons_of_mem _ (List.mem_append_left _ (List.mem_append_right _ h9))
theorem in_X0_settledFact_X1 : ∀ w ∈ wsX10, w ∈ wsX0_settledFact := fun _ h9 => List.mem_cons_of_mem _ (List.mem_append_right _ h9)
def rmX0_settledFact : Room := { frames := 2, cells := 0, slots := 0, locals := 46 }
def fX0_settledFact (n : Nat) (u : Nat) (a1 : Int32) (I : Nat → Int32) (R : Nat → Nat → Int32) : Option (Int32 × mSt) :=
  (fX0_putInOrder n u I R).bind fun z1 =>
  if (z1.1 (156 + 100 * u)) ≤ a1 then
    some ((-9), z1.1, z1.2)
  else
    if inb a1 64 = true then
    some ((getA z1.2 (155 + 100 * u) a1), z1.1, z1.2)
    else none
set_option maxRecDepth 20000 in
set_option maxHeartbeats 2000000 in
theorem fX0_settledFact_w {p : Program} {l : Launch} {e : Env} {s : State} {m : MethodId} {args : Array Value} {below : List Frame} {meth : Method} {c : Code} {D : va_G} {y : ClassId} {yS : ClassId × ClassId} {q : Nat → Nat} {n : Nat} {z : Int32 × mSt} {u : Nat} (hu : u < 2) (X : cX p s m args c cX0_settledFact 2 wsX0_settledFact RX0 D y yS) (hr : meth.sig.returnType = some .int ∧ meth.locks = false) {a1 : Int32} {I : Nat → Int32} {R : Nat → Nat → Int32} {H : Heap} {locs : List Loc} {ls : Array Slot} (w : cH s D y yS q H locs I R) (hl : lv_has ls 2 [(0, .ref (q (150 + 100 * u))), (1, .int a1)]) (e0 : fX0_settledFact n u a1 I R = some z) : W p l e rmX0_settledFact s m args below meth c H locs 0 0 (MQ below (cQi D y yS q (cS y yS q s.heap.size) z) args s 0 0 (cS y yS q s.heap.size)) (F0 m 0 ls []) := by
  have hx := X.1.1
  have hb := X.1.2.1
  unfold fX0_settledFact at e0
  refine lv_aload_n hx hb dX0_settledFact_0 rfl (lv_at hl 0 rfl) ?_
  refine bd e0 (fun z1 e2 e0 => ?_)
  refine c_callv X w (c_rec X w (cat_CO _ _ _ _ _ u hu) rfl) (n := 0) (As := []) (rest := []) (fX0_putInOrder_met l _ _ _ _ _ _ _ hu  _ _ _ e2) gX0_settledFact_X0_putInOrder rfl rfl rfl (by decide +kernel) ⟨Nat.le_of_ble_eq_true rfl, Nat.le_of_ble_eq_true rfl⟩ rfl hl.1 rfl (Nat.le_of_ble_eq_true rfl) dX0_settledFact_1 (fun H locs w => ?_)
  refine lv_iload_n hx hb dX0_settledFact_4 rfl (lv_at hl 1 rfl) ?_
  refine lv_aload_n hx hb dX0_settledFact_5 rfl (lv_at hl 0 rfl) ?_
  refine c_get X w (cat_CO _ _ _ _ _ u hu) rfl in_X0_settledFact_X0 5 (by decide) (index := 101) rfl (by decide +kernel) (cf_CO_5 _ _ _) dX0_settledFact_6 ?_
  refine lv_icmp_ge (tgt := 21) hx hb dX0_settledFact_9 (by decide) (fun c4 => ?_) (fun c4 => ?_)
  · have e0 := itp _ c4 e0
    refine lv_bipush (v := (-9)) hx hb dX0_settledFact_21 (by decide) ?_
    have e0 := Option.some.inj e0
    subst e0
    exact c_iret X w hr dX0_settledFact_23
  · have e0 := itn _ c4 e0
    refine lv_aload_n hx hb dX0_settledFact_12 rfl (lv_at hl 0 rfl) ?_
    refine c_get X w (cat_CO _ _ _ _ _ u hu) rfl in_X0_settledFact_X0 4 (by decide) (index := 15) rfl (by decide +kernel) (cf_CO_4 _ _ _) dX0_settledFact_13 ?_
    refine lv_iload_n hx hb dX0_settledFact_16 rfl (lv_at hl 1 rfl) ?_
    refine gd e0 (fun g3 e0 => ?_)
    refine c_ald X w (cat_a155 _ _ _ _ _ u hu) g3 dX0_settledFact_17 ?_
    refine lv_goto (tgt := 23) hx hb dX0_settledFact_18 (by decide) ?_
    have e0 := Option.some.inj e0
    subst e0
    exact c_iret X w hr dX0_settledFact_23
set_option maxRecDepth 20000 in
theorem fX0_settledFact_met (l : Launch) (D : va_G) (y : ClassId) (yS : ClassId × ClassId) (q : Nat → Nat) (sz n : Nat) (u : Nat) (hu : u < 2) (a1 : Int32) (I : Nat → Int32) (R : Nat → Nat → Int32) (z : Int32 × mSt) (e0 : fX0_settledFact n u a1 I R = some z) : Met l yX0_settledFact wsX0_settledFact rmX0_settledFact (va_Pc [.ref (q (150 + 100 * u)), .int a1] (cPre D y yS q sz I R)) (cQi D y yS q (cS y yS q sz) z) 0 0 (cS y yS q sz) := by
  refine Met.ofW (cc := cX0_settledFact) (maxL := 2) (ret := some .int) (by decide) rfl ?_
  intro p e s m args below meth c s₁ B hml hv
  obtain ⟨rfl, hsz, hP, hK, hN, hD⟩ := hv
  subst hsz
  have hl := lv_entry ([.ref (q (150 + 100 * u)), .int a1]) (n := 2) (Nat.le_of_ble_eq_true rfl)
  rw [lg_entry_eq]
  exact fX0_settledFact_w (s := s) hu ⟨⟨B.exec, B.bytes, hml, findClass_of_methodNamed B.named, atoms_spec (ws := wsX0_settledFact) B.pre⟩, hK, hN⟩ ⟨B.returns, B.notSynchronized⟩ ⟨hP, cS_D hD, va_S.rf⟩ hl e0
theorem in_X0_rankedFact_X0 : ∀ w ∈ wsX00, w ∈ wsX0_rankedFact := fun _ h9 => List.mem_cons_of_mem _ (List.mem_append_left _ (List.mem_append_left _ (List.mem_append_right _ h9)))
theorem in_X0_rankedFact_X3 : ∀ w ∈ wsX30, w ∈ wsX0_rankedFact := fun _ h9 => List.mem_cons_of_mem _ (List.mem_append_left _ (List.mem_append_right _ h9))
theorem in_X0_rankedFact_X1 : ∀ w ∈ wsX10, w ∈ wsX0_rankedFact := fun _ h9 => List.mem_cons_of_mem _ (List.mem_append_right _ h9)
def rmX0_rankedFact : Room := { frames := 2, cells := 0, slots := 0, locals := 46 }
def fX0_rankedFact_b51 (n : Nat) (u : Nat) (k9 : Int32 → Int32 → Int32 → Int32 → (Nat → Int32) → (Nat → Nat → Int32) → Option (Int32 × mSt)) (a1 : Int32) (a2 : Int32) (a3 : Int32) (a4 : Int32) (I : Nat → Int32) (R : Nat → Nat → Int32) : Option (Int32 × mSt) :=
  k9 a1 a2 a3 (a4 + 1) I R
set_option maxRecDepth 20000 in
set_option maxHeartbeats 2000000 in
theorem fX0_rankedFact_b51_w {p : Program} {l : Launch} {e : Env} {s : State} {m : MethodId} {args : Array Value} {below : List Frame} {meth : Method} {c : Code} {D : va_G} {y : ClassId} {yS : ClassId × ClassId} {q : Nat → Nat} {n : Nat} {z : Int32 × mSt} {u : Nat} (hu : u < 2) (X : cX p s m args c cX0_rankedFact 5 wsX0_rankedFact RX0 D y yS) (hr : meth.sig.returnType = some .int ∧ meth.locks = false) {k9 : Int32 → Int32 → Int32 → Int32 → (Nat → Int32) → (Nat → Nat → Int32) → Option (Int32 × mSt)} (hk9 : ∀ (a1 : Int32) (a2 : Int32) (a3 : Int32) (a4 : Int32) (I : Nat → Int32) (R : Nat → Nat → Int32) (H : Heap) (locs : List Loc) (ls : Array Slot), cH s D y yS q H locs I R → lv_has ls 5 [(0, .ref (q (150 + 100 * u))), (1, .int a1), (2, .int a2), (3, .int a3), (4, .int a4)] → k9 a1 a2 a3 a4 I R = some z → W p l e rmX0_rankedFact s m args below meth c H locs 0 0 (MQ below (cQi D y yS q (cS y yS q s.heap.size) z) args s 0 0 (cS y yS q s.heap.size)) (F0 m 9 ls [])) {a1 : Int32} {a2 : Int32} {a3 : Int32} {a4 : Int32} {I : Nat → Int32} {R : Nat → Nat → Int32} {H : Heap} {locs : List Loc} {ls : Array Slot} (w : cH s D y yS q H locs I R) (hl : lv_has ls 5 [(0, .ref (q (150 + 100 * u))), (1, .int a1), (2, .int a2), (3, .int a3), (4, .int a4)]) (e0 : fX0_rankedFact_b51 n u k9 a1 a2 a3 a4 I R = some z) : W p l e rmX0_rankedFact s m args below meth c H locs 0 0 (MQ below (cQi D y yS q (cS y yS q s.heap.size) z) args s 0 0 (cS y yS q s.heap.size)) (F0 m 51 ls []) := by
  have hx := X.1.1
  have hb := X.1.2.1
  unfold fX0_rankedFact_b51 at e0
  refine lv_iinc (v := (a4 + 1)) (lv' := [(4, .int (a4 + 1)), (0, .ref (q (150 + 100 * u))), (1, .int a1), (2, .int a2), (3, .int a3)]) hx hb dX0_rankedFact_51 hl (k := 4) rfl rfl (by decide) rfl (fun ls hl => ?_)
  refine lv_goto (tgt := 9) hx hb dX0_rankedFact_54 (by decide) ?_
  exact hk9 _ _ _ _ _ _ _ _ _ w (lv_sub hl [1, 2, 3, 4, 0] rfl) e0
def fX0_rankedFact_b9 (n : Nat) (u : Nat) : Nat → Int32 → Int32 → Int32 → Int32 → (Nat → Int32) → (Nat → Nat → Int32) → Option (Int32 × mSt)
  | 0, _, _, _, _, _, _ => none
  | j + 1, a1, a2, a3, a4, I, R =>
    if (I (156 + 100 * u)) ≤ a4 then
      some ((-9), I, R)
    else
      if inb a4 64 = true then
      if ((getA R (155 + 100 * u) a4) / 16) = a1 then
        if a3 = a2 then
          if inb a4 64 = true then
          some (((getA R (155 + 100 * u) a4) - (getA R (155 + 100 * u) a4) / 16 * 16), I, R)
          else none
        else
          fX0_rankedFact_b51 n u (fX0_rankedFact_b9 n u j) a1 a2 (a3 + 1) a4 I R
      else
        fX0_rankedFact_b51 n u (fX0_rankedFact_b9 n u j) a1 a2 a3 a4 I R
      else none
set_option maxRecDepth 20000 in
set_option maxHeartbeats 2000000 in
theorem fX0_rankedFact_b9_w {p : Program} {l : Launch} {e : Env} {s : State} {m : MethodId} {args : Array Value} {below : List Frame} {meth : Method} {c : Code} {D : va_G} {y : ClassId} {yS : ClassId × ClassId} {q : Nat → Nat} {n : Nat} {z : Int32 × mSt} {u : Nat} (hu : u < 2) (X : cX p s m args c cX0_rankedFact 5 wsX0_rankedFact RX0 D y yS) (hr : meth.sig.returnType = some .int ∧ meth.locks = false) : ∀ (j : Nat) (a1 : Int32) (a2 : Int32) (a3 : Int32) (a4 : Int32) (I : Nat → Int32) (R : Nat → Nat → Int32) (H : Heap) (locs : List Loc) (ls : Array Slot), cH s D y yS q H locs I R → lv_has ls 5 [(0, .ref (q (150 + 100 * u))), (1, .int a1), (2, .int a2), (3, .int a3), (4, .int a4)] → fX0_rankedFact_b9 n u j a1 a2 a3 a4 I R = some z → W p l e rmX0_rankedFact s m args below meth c H locs 0 0 (MQ below (cQi D y yS q (cS y yS q s.heap.size) z) args s 0 0 (cS y yS q s.heap.size)) (F0 m 9 ls []) := by
  have hx := X.1.1
  have hb := X.1.2.1
  intro j
  induction j with
  | zero =>
    intro a1 a2 a3 a4 I R H locs ls w hl e0
    cases e0
  | succ j ih =>
    intro a1 a2 a3 a4 I R H locs ls w hl e0
    rw [fX0_rankedFact_b9] at e0
    refine lv_iload hx hb dX0_rankedFact_9 (lv_at hl 4 rfl) ?_
    refine lv_aload_n hx hb dX0_rankedFact_11 rfl (lv_at hl 0 rfl) ?_
    refine c_get X w (cat_CO _ _ _ _ _ u hu) rfl in_X0_rankedFact_X0 5 (by decide) (index := 101) rfl (by decide +kernel) (cf_CO_5 _ _ _) dX0_rankedFact_12 ?_
    refine lv_icmp_ge (tgt := 57) hx hb dX0_rankedFact_15 (by decide) (fun c7 => ?_) (fun c7 => ?_)
    · have e0 := itp _ c7 e0
      refine lv_bipush (v := (-9)) hx hb dX0_rankedFact_57 (by decide) ?_
      have e0 := Option.some.inj e0
      subst e0
      exact c_iret X w hr dX0_rankedFact_59
    · have e0 := itn _ c7 e0
      refine lv_aload_n hx hb dX0_rankedFact_18 rfl (lv_at hl 0 rfl) ?_
      refine c_get X w (cat_CO _ _ _ _ _ u hu) rfl in_X0_rankedFact_X0 4 (by decide) (index := 15) rfl (by decide +kernel) (cf_CO_4 _ _ _) dX0_rankedFact_19 ?_
      refine lv_iload hx hb dX0_rankedFact_22 (lv_at hl 4 rfl) ?_
      refine gd e0 (fun g3 e0 => ?_)
      refine c_ald X w (cat_a155 _ _ _ _ _ u hu) g3 dX0_rankedFact_24 ?_
      refine lv_bipush (v := 16) hx hb dX0_rankedFact_25 (by decide) ?_
      refine lv_idiv hx hb dX0_rankedFact_27 (by decide) ?_
      refine lv_iload_n hx hb dX0_rankedFact_28 rfl (lv_at hl 1 rfl) ?_
      refine lv_icmp_ne (tgt := 51) hx hb dX0_rankedFact_29 (by decide) (fun c6 => ?_) (fun c6 => ?_)
      · have e0 := itn _ c6 e0
        exact fX0_rankedFact_b51_w (l := l) hu X hr ih w (lv_sub hl [0, 1, 2, 3, 4] rfl) e0
      · have e0 := itp _ c6 e0
        refine lv_iload_n hx hb dX0_rankedFact_32 rfl (lv_at hl 3 rfl) ?_
        refine lv_iload_n hx hb dX0_rankedFact_33 rfl (lv_at hl 2 rfl) ?_
        refine lv_icmp_ne (tgt := 48) hx hb dX0_rankedFact_34 (by decide) (fun c5 => ?_) (fun c5 => ?_)
        · have e0 := itn _ c5 e0
          refine lv_iinc (v := (a3 + 1)) (lv' := [(3, .int (a3 + 1)), (0, .ref (q (150 + 100 * u))), (1, .int a1), (2, .int a2), (4, .int a4)]) hx hb dX0_rankedFact_48 hl (k := 3) rfl rfl (by decide) rfl (fun ls hl => ?_)
          exact fX0_rankedFact_b51_w (l := l) hu X hr ih w (lv_sub hl [1, 2, 3, 0, 4] rfl) e0
        · have e0 := itp _ c5 e0
          refine lv_aload_n hx hb dX0_rankedFact_37 rfl (lv_at hl 0 rfl) ?_
          refine c_get X w (cat_CO _ _ _ _ _ u hu) rfl in_X0_rankedFact_X0 4 (by decide) (index := 15) rfl (by decide +kernel) (cf_CO_4 _ _ _) dX0_rankedFact_38 ?_
          refine lv_iload hx hb dX0_rankedFact_41 (lv_at hl 4 rfl) ?_
          refine gd e0 (fun g4 e0 => ?_)
          refine c_ald X w (cat_a155 _ _ _ _ _ u hu) g4 dX0_rankedFact_43 ?_
          refine lv_bipush (v := 16) hx hb dX0_rankedFact_44 (by decide) ?_
          refine lv_irem hx hb dX0_rankedFact_46 (by decide) ?_
          have e0 := Option.some.inj e0
          subst e0
          exact c_iret X w hr dX0_rankedFact_47
def fX0_rankedFact (n : Nat) (u : Nat) (a1 : Int32) (a2 : Int32) (I : Nat → Int32) (R : Nat → Nat → Int32) : Option (Int32 × mSt) :=
  (fX0_putInOrder n u I R).bind fun z1 =>
  fX0_rankedFact_b9 n u n a1 a2 0 0 z1.1 z1.2
set_option maxRecDepth 20000 in
set_option maxHeartbeats 2000000 in
theorem fX0_rankedFact_w {p : Program} {l : Launch} {e : Env} {s : State} {m : MethodId} {args : Array Value} {below : List Frame} {meth : Method} {c : Code} {D : va_G} {y : ClassId} {yS : ClassId × ClassId} {q : Nat → Nat} {n : Nat} {z : Int32 × mSt} {u : Nat} (hu : u < 2) (X : cX p s m args c cX0_rankedFact 5 wsX0_rankedFact RX0 D y yS) (hr : meth.sig.returnType = some .int ∧ meth.locks = false) {a1 : Int32} {a2 : Int32} {I : Nat → Int32} {R : Nat → Nat → Int32} {H : Heap} {locs : List Loc} {ls : Array Slot} (w : cH s D y yS q H locs I R) (hl : lv_has ls 5 [(0, .ref (q (150 + 100 * u))), (1, .int a1), (2, .int a2)]) (e0 : fX0_rankedFact n u a1 a2 I R = some z) : W p l e rmX0_rankedFact s m args below meth c H locs 0 0 (MQ below (cQi D y yS q (cS y yS q s.heap.size) z) args s 0 0 (cS y yS q s.heap.size)) (F0 m 0 ls []) := by
  have hx := X.1.1
  have hb := X.1.2.1
  unfold fX0_rankedFact at e0
  refine lv_aload_n hx hb dX0_rankedFact_0 rfl (lv_at hl 0 rfl) ?_
  refine bd e0 (fun z1 e2 e0 => ?_)
  refine c_callv X w (c_rec X w (cat_CO _ _ _ _ _ u hu) rfl) (n := 0) (As := []) (rest := []) (fX0_putInOrder_met l _ _ _ _ _ _ _ hu  _ _ _ e2) gX0_rankedFact_X0_putInOrder rfl rfl rfl (by decide +kernel) ⟨Nat.le_of_ble_eq_true rfl, Nat.le_of_ble_eq_true rfl⟩ rfl hl.1 rfl (Nat.le_of_ble_eq_true rfl) dX0_rankedFact_1 (fun H locs w => ?_)
  refine lv_iconst (v := 0) hx hb dX0_rankedFact_4 (by decide) ?_
  refine lv_istore_n (lv' := [(3, .int 0), (0, .ref (q (150 + 100 * u))), (1, .int a1), (2, .int a2)]) hx hb dX0_rankedFact_5 rfl hl (by decide) rfl (fun ls hl => ?_)
  refine lv_iconst (v := 0) hx hb dX0_rankedFact_6 (by decide) ?_
  refine lv_istore (lv' := [(4, .int 0), (3, .int 0), (0, .ref (q (150 + 100 * u))), (1, .int a1), (2, .int a2)]) hx hb dX0_rankedFact_7 hl (by decide) rfl (fun ls hl => ?_)
  exact fX0_rankedFact_b9_w (l := l) hu X hr n _ _ _ _ _ _ _ _ _ w (lv_sub hl [2, 3, 4, 1, 0] rfl) e0
set_option maxRecDepth 20000 in
theorem fX0_rankedFact_met (l : Launch) (D : va_G) (y : ClassId) (yS : ClassId × ClassId) (q : Nat → Nat) (sz n : Nat) (u : Nat) (hu : u < 2) (a1 : Int32) (a2 : Int32) (I : Nat → Int32) (R : Nat → Nat → Int32) (z : Int32 × mSt) (e0 : fX0_rankedFact n u a1 a2 I R = some z) : Met l yX0_rankedFact wsX0_rankedFact rmX0_rankedFact (va_Pc [.ref (q (150 + 100 * u)), .int a1, .int a2] (cPre D y yS q sz I R)) (cQi D y yS q (cS y yS q sz) z) 0 0 (cS y yS q sz) := by
  refine Met.ofW (cc := cX0_rankedFact) (maxL := 5) (ret := some .int) (by decide) rfl ?_
  intro p e s m args below meth c s₁ B hml hv
  obtain ⟨rfl, hsz, hP, hK, hN, hD⟩ := hv
  subst hsz
  have hl := lv_entry ([.ref (q (150 + 100 * u)), .int a1, .int a2]) (n := 5) (Nat.le_of_ble_eq_true rfl)
  rw [lg_entry_eq]
  exact fX0_rankedFact_w (s := s) hu ⟨⟨B.exec, B.bytes, hml, findClass_of_methodNamed B.named, atoms_spec (ws := wsX0_rankedFact) B.pre⟩, hK, hN⟩ ⟨B.returns, B.notSynchronized⟩ ⟨hP, cS_D hD, va_S.rf⟩ hl e0
theorem in_X2_hasOther_X2 : ∀ w ∈ wsX20, w ∈ wsX2_hasOther := fun _ h9 => List.mem_cons_of_mem _ (List.mem_append_right _ h9)
def rmX2_hasOther : Room := { frames := 0, cells := 0, slots := 0, locals := 0 }
def fX2_hasOther (n : Nat) (u : Nat) (a1 : Int32) (I : Nat → Int32) (R : Nat → Nat → Int32) : Option (Int32 × mSt) :=
  if inb a1 5 = true then
  if (getA R (113 + 100 * u) a1) < 2 then
    some (0, I, R)
  else
    some (1, I, R)
  else none
set_option maxRecDepth 20000 in
set_option maxHeartbeats 2000000 in
theorem fX2_hasOther_w {p : Program} {l : Launch} {e : Env} {s : State} {m : MethodId} {args : Array Value} {below : List Frame} {meth : Method} {c : Code} {D : va_G} {y : ClassId} {yS : ClassId × ClassId} {q : Nat → Nat} {n : Nat} {z : Int32 × mSt} {u : Nat} (hu : u < 2) (X : cX p s m args c cX2_hasOther 2 wsX2_hasOther RX2 D y yS) (hr : meth.sig.returnType = some .boolean ∧ meth.locks = false) {a1 : Int32} {I : Nat → Int32} {R : Nat → Nat → Int32} {H : Heap} {locs : List Loc} {ls : Array Slot} (w : cH s D y yS q H locs I R) (hl : lv_has ls 2 [(0, .ref (q (110 + 100 * u))), (1, .int a1)]) (e0 : fX2_hasOther n u a1 I R = some z) : W p l e rmX2_hasOther s m args below meth c H locs 0 0 (MQ below (cQi D y yS q (cS y yS q s.heap.size) z) args s 0 0 (cS y yS q s.heap.size)) (F0 m 0 ls []) := by
  have hx := X.1.1
  have hb := X.1.2.1
  unfold fX2_hasOther at e0
  refine lv_aload_n hx hb dX2_hasOther_0 rfl (lv_at hl 0 rfl) ?_
  refine c_get X w (cat_PR _ _ _ _ _ u hu) rfl in_X2_hasOther_X2 2 (by decide) (index := 18) rfl (by decide +kernel) (cf_PR_2 _ _ _) dX2_hasOther_1 ?_
  refine lv_iload_n hx hb dX2_hasOther_4 rfl (lv_at hl 1 rfl) ?_
  refine gd e0 (fun g1 e0 => ?_)
  refine c_ald X w (cat_a113 _ _ _ _ _ u hu) g1 dX2_hasOther_5 ?_
  refine lv_iconst (v := 2) hx hb dX2_hasOther_6 (by decide) ?_
  refine lv_icmp_lt (tgt := 14) hx hb dX2_hasOther_7 (by decide) (fun c2 => ?_) (fun c2 => ?_)
  · have e0 := itp _ c2 e0
    refine lv_iconst (v := 0) hx hb dX2_hasOther_14 (by decide) ?_
    have e0 := Option.some.inj e0
    subst e0
    exact c_zret X w hr rfl dX2_hasOther_15
  · have e0 := itn _ c2 e0
    refine lv_iconst (v := 1) hx hb dX2_hasOther_10 (by decide) ?_
    refine lv_goto (tgt := 15) hx hb dX2_hasOther_11 (by decide) ?_
    have e0 := Option.some.inj e0
    subst e0
    exact c_zret X w hr rfl dX2_hasOther_15
set_option maxRecDepth 20000 in
theorem fX2_hasOther_met (l : Launch) (D : va_G) (y : ClassId) (yS : ClassId × ClassId) (q : Nat → Nat) (sz n : Nat) (u : Nat) (hu : u < 2) (a1 : Int32) (I : Nat → Int32) (R : Nat → Nat → Int32) (z : Int32 × mSt) (e0 : fX2_hasOther n u a1 I R = some z) : Met l yX2_hasOther wsX2_hasOther rmX2_hasOther (va_Pc [.ref (q (110 + 100 * u)), .int a1] (cPre D y yS q sz I R)) (cQi D y yS q (cS y yS q sz) z) 0 0 (cS y yS q sz) := by
  refine Met.ofW (cc := cX2_hasOther) (maxL := 2) (ret := some .boolean) (by decide) rfl ?_
  intro p e s m args below meth c s₁ B hml hv
  obtain ⟨rfl, hsz, hP, hK, hN, hD⟩ := hv
  subst hsz
  have hl := lv_entry ([.ref (q (110 + 100 * u)), .int a1]) (n := 2) (Nat.le_of_ble_eq_true rfl)
  rw [lg_entry_eq]
  exact fX2_hasOther_w (s := s) hu ⟨⟨B.exec, B.bytes, hml, findClass_of_methodNamed B.named, atoms_spec (ws := wsX2_hasOther) B.pre⟩, hK, hN⟩ ⟨B.returns, B.notSynchronized⟩ ⟨hP, cS_D hD, va_S.rf⟩ hl e0
theorem in_X1_leastOfHead_X1 : ∀ w ∈ wsX10, w ∈ wsX1_leastOfHead := fun _ h9 => List.mem_cons_of_mem _ (List.mem_append_left _ (List.mem_append_right _ h9))
theorem in_X1_leastOfHead_X2 : ∀ w ∈ wsX20, w ∈ wsX1_leastOfHead := fun _ h9 => List.mem_cons_of_mem _ (List.mem_append_right _ h9)
def rmX1_leastOfHead : Room := { frames := 1, cells := 0, slots := 0, locals := 30 }
def fX1_leastOfHead_b64 (n : Nat) (u : Nat) (t0 : Int32) (t1 : Int32) (I : Nat → Int32) (R : Nat → Nat → Int32) : Option (Int32 × mSt) :=
  some ((if t1 < t0 then t0 else t1), I, R)
set_option maxRecDepth 20000 in
set_option maxHeartbeats 2000000 in
theorem fX1_leastOfHead_b64_w {p : Program} {l : Launch} {e : Env} {s : State} {m : MethodId} {args : Array Value} {below : List Frame} {meth : Method} {c : Code} {D : va_G} {y : ClassId} {yS : ClassId × ClassId} {q : Nat → Nat} {n : Nat} {z : Int32 × mSt} {u : Nat} (hu : u < 2) (X : cX p s m args c cX1_leastOfHead 4 wsX1_leastOfHead RX1 D y yS) (hr : meth.sig.returnType = some .int ∧ meth.locks = false) {t0 : Int32} {t1 : Int32} {I : Nat → Int32} {R : Nat → Nat → Int32} {H : Heap} {locs : List Loc} {ls : Array Slot} (w : cH s D y yS q H locs I R) (hl : lv_has ls 4 [(0, .ref (q (130 + 100 * u)))]) (e0 : fX1_leastOfHead_b64 n u t0 t1 I R = some z) : W p l e rmX1_leastOfHead s m args below meth c H locs 0 0 (MQ below (cQi D y yS q (cS y yS q s.heap.size) z) args s 0 0 (cS y yS q s.heap.size)) (F0 m 64 ls [.int t0, .int t1]) := by
  have hx := X.1.1
  have hb := X.1.2.1
  unfold fX1_leastOfHead_b64 at e0
  refine va_mmax (rest := []) hx hb (X.1.2.2.1.trans hl.1.symm) X.1.2.2.2.1 (X.1.2.2.2.2 _ (by decide +kernel)) (X.1.2.2.2.2 _ (by decide +kernel)) (X.1.2.2.2.2 _ (by decide +kernel)) (X.1.2.2.2.2 _ (by decide +kernel)) (Nat.le_of_ble_eq_true rfl) (Nat.le_of_ble_eq_true rfl) (Nat.zero_le _) (Nat.zero_le _) dX1_leastOfHead_64 ?_
  have e0 := Option.some.inj e0
  subst e0
  exact c_iret X w hr dX1_leastOfHead_67
def fX1_leastOfHead (n : Nat) (u : Nat) (a1 : Int32) (I : Nat → Int32) (R : Nat → Nat → Int32) : Option (Int32 × mSt) :=
  if inb a1 5 = true then
  if inb (getA R (115 + 100 * u) a1) 4 = true then
  (fX2_hasOther n u a1 I R).bind fun z3 =>
  if z3.1 = 0 then
    some ((getA R (132 + 100 * u) (getA R (115 + 100 * u) a1)), z3.2.1, z3.2.2)
  else
    if inb a1 5 = true then
    if inb (getA z3.2.2 (116 + 100 * u) a1) 4 = true then
    if inb a1 5 = true then
    if (getA z3.2.2 (113 + 100 * u) a1) = 3 then
      fX1_leastOfHead_b64 n u ((getA z3.2.2 (132 + 100 * u) (getA z3.2.2 (116 + 100 * u) a1)) + 1) (getA R (132 + 100 * u) (getA R (115 + 100 * u) a1)) z3.2.1 z3.2.2
    else
      fX1_leastOfHead_b64 n u (getA z3.2.2 (132 + 100 * u) (getA z3.2.2 (116 + 100 * u) a1)) (getA R (132 + 100 * u) (getA R (115 + 100 * u) a1)) z3.2.1 z3.2.2
    else none
    else none
    else none
  else none
  else none
set_option maxRecDepth 20000 in
set_option maxHeartbeats 2000000 in
theorem fX1_leastOfHead_w {p : Program} {l : Launch} {e : Env} {s : State} {m : MethodId} {args : Array Value} {below : List Frame} {meth : Method} {c : Code} {D : va_G} {y : ClassId} {yS : ClassId × ClassId} {q : Nat → Nat} {n : Nat} {z : Int32 × mSt} {u : Nat} (hu : u < 2) (X : cX p s m args c cX1_leastOfHead 4 wsX1_leastOfHead RX1 D y yS) (hr : meth.sig.returnType = some .int ∧ meth.locks = false) {a1 : Int32} {I : Nat → Int32} {R : Nat → Nat → Int32} {H : Heap} {locs : List Loc} {ls : Array Slot} (w : cH s D y yS q H locs I R) (hl : lv_has ls 4 [(0, .ref (q (130 + 100 * u))), (1, .int a1)]) (e0 : fX1_leastOfHead n u a1 I R = some z) : W p l e rmX1_leastOfHead s m args below meth c H locs 0 0 (MQ below (cQi D y yS q (cS y yS q s.heap.size) z) args s 0 0 (cS y yS q s.heap.size)) (F0 m 0 ls []) := by
  have hx := X.1.1
  have hb := X.1.2.1
  unfold fX1_leastOfHead at e0
  refine lv_aload_n hx hb dX1_leastOfHead_0 rfl (lv_at hl 0 rfl) ?_
  refine c_get X w (cat_LA _ _ _ _ _ u hu) rfl in_X1_leastOfHead_X1 1 (by decide) (index := 9) rfl (by decide +kernel) (cf_LA_1 _ _ _) dX1_leastOfHead_1 ?_
  refine lv_aload_n hx hb dX1_leastOfHead_4 rfl (lv_at hl 0 rfl) ?_
  refine c_get X w (cat_LA _ _ _ _ _ u hu) rfl in_X1_leastOfHead_X1 0 (by decide) (index := 18) rfl (by decide +kernel) (cf_LA_0 _ _ _) dX1_leastOfHead_5 ?_
  refine c_get X w (cat_PR _ _ _ _ _ u hu) rfl in_X1_leastOfHead_X2 4 (by decide) (index := 45) rfl (by decide +kernel) (cf_PR_4 _ _ _) dX1_leastOfHead_8 ?_
  refine lv_iload_n hx hb dX1_leastOfHead_11 rfl (lv_at hl 1 rfl) ?_
  refine gd e0 (fun g1 e0 => ?_)
  refine c_ald X w (cat_a115 _ _ _ _ _ u hu) g1 dX1_leastOfHead_12 ?_
  refine gd e0 (fun g2 e0 => ?_)
  refine c_ald X w (cat_a132 _ _ _ _ _ u hu) g2 dX1_leastOfHead_13 ?_
  refine lv_istore_n (lv' := [(2, .int (getA R (132 + 100 * u) (getA R (115 + 100 * u) a1))), (0, .ref (q (130 + 100 * u))), (1, .int a1)]) hx hb dX1_leastOfHead_14 rfl hl (by decide) rfl (fun ls hl => ?_)
  refine lv_aload_n hx hb dX1_leastOfHead_15 rfl (lv_at hl 1 rfl) ?_
  refine c_get X w (cat_LA _ _ _ _ _ u hu) rfl in_X1_leastOfHead_X1 0 (by decide) (index := 18) rfl (by decide +kernel) (cf_LA_0 _ _ _) dX1_leastOfHead_16 ?_
  refine lv_iload_n hx hb dX1_leastOfHead_19 rfl (lv_at hl 2 rfl) ?_
  refine bd e0 (fun z3 e4 e0 => ?_)
  refine c_calli X w (c_rec X w (cat_PR _ _ _ _ _ u hu) rfl) (n := 1) (As := [.int a1]) (rest := []) (fX2_hasOther_met l _ _ _ _ _ _ _ hu _ _ _ _ e4) gX1_leastOfHead_X2_hasOther rfl rfl rfl (by decide +kernel) ⟨Nat.le_of_ble_eq_true rfl, Nat.le_of_ble_eq_true rfl⟩ rfl hl.1 rfl (Nat.le_of_ble_eq_true rfl) dX1_leastOfHead_20 (fun H locs w => ?_)
  refine lv_if_ne (tgt := 28) hx hb dX1_leastOfHead_23 (by decide) (fun c9 => ?_) (fun c9 => ?_)
  · have e0 := itn _ c9 e0
    refine lv_aload_n hx hb dX1_leastOfHead_28 rfl (lv_at hl 1 rfl) ?_
    refine c_get X w (cat_LA _ _ _ _ _ u hu) rfl in_X1_leastOfHead_X1 1 (by decide) (index := 9) rfl (by decide +kernel) (cf_LA_1 _ _ _) dX1_leastOfHead_29 ?_
    refine lv_aload_n hx hb dX1_leastOfHead_32 rfl (lv_at hl 1 rfl) ?_
    refine c_get X w (cat_LA _ _ _ _ _ u hu) rfl in_X1_leastOfHead_X1 0 (by decide) (index := 18) rfl (by decide +kernel) (cf_LA_0 _ _ _) dX1_leastOfHead_33 ?_
    refine c_get X w (cat_PR _ _ _ _ _ u hu) rfl in_X1_leastOfHead_X2 5 (by decide) (index := 52) rfl (by decide +kernel) (cf_PR_5 _ _ _) dX1_leastOfHead_36 ?_
    refine lv_iload_n hx hb dX1_leastOfHead_39 rfl (lv_at hl 2 rfl) ?_
    refine gd e0 (fun g5 e0 => ?_)
    refine c_ald X w (cat_a116 _ _ _ _ _ u hu) g5 dX1_leastOfHead_40 ?_
    refine gd e0 (fun g6 e0 => ?_)
    refine c_ald X w (cat_a132 _ _ _ _ _ u hu) g6 dX1_leastOfHead_41 ?_
    refine lv_istore_n (lv' := [(3, .int (getA z3.2.2 (132 + 100 * u) (getA z3.2.2 (116 + 100 * u) a1))), (2, .int (getA R (132 + 100 * u) (getA R (115 + 100 * u) a1))), (0, .ref (q (130 + 100 * u))), (1, .int a1)]) hx hb dX1_leastOfHead_42 rfl hl (by decide) rfl (fun ls hl => ?_)
    refine lv_iload_n hx hb dX1_leastOfHead_43 rfl (lv_at hl 1 rfl) ?_
    refine lv_aload_n hx hb dX1_leastOfHead_44 rfl (lv_at hl 2 rfl) ?_
    refine c_get X w (cat_LA _ _ _ _ _ u hu) rfl in_X1_leastOfHead_X1 0 (by decide) (index := 18) rfl (by decide +kernel) (cf_LA_0 _ _ _) dX1_leastOfHead_45 ?_
    refine c_get X w (cat_PR _ _ _ _ _ u hu) rfl in_X1_leastOfHead_X2 2 (by decide) (index := 55) rfl (by decide +kernel) (cf_PR_2 _ _ _) dX1_leastOfHead_48 ?_
    refine lv_iload_n hx hb dX1_leastOfHead_51 rfl (lv_at hl 3 rfl) ?_
    refine gd e0 (fun g7 e0 => ?_)
    refine c_ald X w (cat_a113 _ _ _ _ _ u hu) g7 dX1_leastOfHead_52 ?_
    refine lv_iconst (v := 3) hx hb dX1_leastOfHead_53 (by decide) ?_
    refine lv_icmp_ne (tgt := 63) hx hb dX1_leastOfHead_54 (by decide) (fun c8 => ?_) (fun c8 => ?_)
    · have e0 := itn _ c8 e0
      refine lv_iload_n hx hb dX1_leastOfHead_63 rfl (lv_at hl 0 rfl) ?_
      exact fX1_leastOfHead_b64_w (l := l) hu X hr w (lv_sub hl [2] rfl) e0
    · have e0 := itp _ c8 e0
      refine lv_iload_n hx hb dX1_leastOfHead_57 rfl (lv_at hl 0 rfl) ?_
      refine lv_iconst (v := 1) hx hb dX1_leastOfHead_58 (by decide) ?_
      refine lv_iadd hx hb dX1_leastOfHead_59 ?_
      refine lv_goto (tgt := 64) hx hb dX1_leastOfHead_60 (by decide) ?_
      exact fX1_leastOfHead_b64_w (l := l) hu X hr w (lv_sub hl [2] rfl) e0
  · have e0 := itp _ c9 e0
    refine lv_iload_n hx hb dX1_leastOfHead_26 rfl (lv_at hl 0 rfl) ?_
    have e0 := Option.some.inj e0
    subst e0
    exact c_iret X w hr dX1_leastOfHead_27
set_option maxRecDepth 20000 in
theorem fX1_leastOfHead_met (l : Launch) (D : va_G) (y : ClassId) (yS : ClassId × ClassId) (q : Nat → Nat) (sz n : Nat) (u : Nat) (hu : u < 2) (a1 : Int32) (I : Nat → Int32) (R : Nat → Nat → Int32) (z : Int32 × mSt) (e0 : fX1_leastOfHead n u a1 I R = some z) : Met l yX1_leastOfHead wsX1_leastOfHead rmX1_leastOfHead (va_Pc [.ref (q (130 + 100 * u)), .int a1] (cPre D y yS q sz I R)) (cQi D y yS q (cS y yS q sz) z) 0 0 (cS y yS q sz) := by
  refine Met.ofW (cc := cX1_leastOfHead) (maxL := 4) (ret := some .int) (by decide) rfl ?_
  intro p e s m args below meth c s₁ B hml hv
  obtain ⟨rfl, hsz, hP, hK, hN, hD⟩ := hv
  subst hsz
  have hl := lv_entry ([.ref (q (130 + 100 * u)), .int a1]) (n := 4) (Nat.le_of_ble_eq_true rfl)
  rw [lg_entry_eq]
  exact fX1_leastOfHead_w (s := s) hu ⟨⟨B.exec, B.bytes, hml, findClass_of_methodNamed B.named, atoms_spec (ws := wsX1_leastOfHead) B.pre⟩, hK, hN⟩ ⟨B.returns, B.notSynchronized⟩ ⟨hP, cS_D hD, va_S.rf⟩ hl e0
theorem in_X1_isRaised_X1 : ∀ w ∈ wsX10, w ∈ wsX1_isRaised := fun _ h9 => List.mem_cons_of_mem _ (List.mem_append_left _ (List.mem_append_right _ h9))
theorem in_X1_isRaised_X2 : ∀ w ∈ wsX20, w ∈ wsX1_isRaised := fun _ h9 => List.mem_cons_of_mem _ (List.mem_append_right _ h9)
def rmX1_isRaised : Room := { frames := 2, cells := 0, slots := 0, locals := 53 }
def fX1_isRaised_b53 (n : Nat) (u : Nat) (k4 : Int32 → Int32 → (Nat → Int32) → (Nat → Nat → Int32) → Option (Int32 × mSt)) (a1 : Int32) (a2 : Int32) (I : Nat → Int32) (R : Nat → Nat → Int32) : Option (Int32 × mSt) :=
  k4 a1 (a2 + 1) I R
set_option maxRecDepth 20000 in
set_option maxHeartbeats 2000000 in
theorem fX1_isRaised_b53_w {p : Program} {l : Launch} {e : Env} {s : State} {m : MethodId} {args : Array Value} {below : List Frame} {meth : Method} {c : Code} {D : va_G} {y : ClassId} {yS : ClassId × ClassId} {q : Nat → Nat} {n : Nat} {z : Int32 × mSt} {u : Nat} (hu : u < 2) (X : cX p s m args c cX1_isRaised 5 wsX1_isRaised RX1 D y yS) (hr : meth.sig.returnType = some .boolean ∧ meth.locks = false) {k4 : Int32 → Int32 → (Nat → Int32) → (Nat → Nat → Int32) → Option (Int32 × mSt)} (hk4 : ∀ (a1 : Int32) (a2 : Int32) (I : Nat → Int32) (R : Nat → Nat → Int32) (H : Heap) (locs : List Loc) (ls : Array Slot), cH s D y yS q H locs I R → lv_has ls 5 [(0, .ref (q (130 + 100 * u))), (1, .int a1), (2, .int a2)] → k4 a1 a2 I R = some z → W p l e rmX1_isRaised s m args below meth c H locs 0 0 (MQ below (cQi D y yS q (cS y yS q s.heap.size) z) args s 0 0 (cS y yS q s.heap.size)) (F0 m 4 ls [])) {a1 : Int32} {a2 : Int32} {I : Nat → Int32} {R : Nat → Nat → Int32} {H : Heap} {locs : List Loc} {ls : Array Slot} (w : cH s D y yS q H locs I R) (hl : lv_has ls 5 [(0, .ref (q (130 + 100 * u))), (1, .int a1), (2, .int a2)]) (e0 : fX1_isRaised_b53 n u k4 a1 a2 I R = some z) : W p l e rmX1_isRaised s m args below meth c H locs 0 0 (MQ below (cQi D y yS q (cS y yS q s.heap.size) z) args s 0 0 (cS y yS q s.heap.size)) (F0 m 53 ls []) := by
  have hx := X.1.1
  have hb := X.1.2.1
  unfold fX1_isRaised_b53 at e0
  refine lv_iinc (v := (a2 + 1)) (lv' := [(2, .int (a2 + 1)), (0, .ref (q (130 + 100 * u))), (1, .int a1)]) hx hb dX1_isRaised_53 hl (k := 2) rfl rfl (by decide) rfl (fun ls hl => ?_)
  refine lv_goto (tgt := 4) hx hb dX1_isRaised_56 (by decide) ?_
  exact hk4 _ _ _ _ _ _ _ w (lv_sub hl [1, 2, 0] rfl) e0
def fX1_isRaised_b4 (n : Nat) (u : Nat) : Nat → Int32 → Int32 → (Nat → Int32) → (Nat → Nat → Int32) → Option (Int32 × mSt)
  | 0, _, _, _, _ => none
  | j + 1, a1, a2, I, R =>
    if (I (119 + 100 * u)) ≤ a2 then
      if isB a1 = true then
      some (a1, I, R)
      else none
    else
      (fX1_leastOfHead n u a2 I R).bind fun z2 =>
      if inb a2 5 = true then
      if inb (getA z2.2.2 (114 + 100 * u) a2) 4 = true then
      if z2.1 ≤ (getA z2.2.2 (132 + 100 * u) (getA z2.2.2 (114 + 100 * u) a2)) then
        fX1_isRaised_b53 n u (fX1_isRaised_b4 n u j) a1 a2 z2.2.1 z2.2.2
      else
        if inb (getA z2.2.2 (114 + 100 * u) a2) 4 = true then
        fX1_isRaised_b53 n u (fX1_isRaised_b4 n u j) 1 a2 z2.2.1 (setA z2.2.2 (132 + 100 * u) (getA z2.2.2 (114 + 100 * u) a2) z2.1)
        else none
      else none
      else none
set_option maxRecDepth 20000 in
set_option maxHeartbeats 2000000 in
theorem fX1_isRaised_b4_w {p : Program} {l : Launch} {e : Env} {s : State} {m : MethodId} {args : Array Value} {below : List Frame} {meth : Method} {c : Code} {D : va_G} {y : ClassId} {yS : ClassId × ClassId} {q : Nat → Nat} {n : Nat} {z : Int32 × mSt} {u : Nat} (hu : u < 2) (X : cX p s m args c cX1_isRaised 5 wsX1_isRaised RX1 D y yS) (hr : meth.sig.returnType = some .boolean ∧ meth.locks = false) : ∀ (j : Nat) (a1 : Int32) (a2 : Int32) (I : Nat → Int32) (R : Nat → Nat → Int32) (H : Heap) (locs : List Loc) (ls : Array Slot), cH s D y yS q H locs I R → lv_has ls 5 [(0, .ref (q (130 + 100 * u))), (1, .int a1), (2, .int a2)] → fX1_isRaised_b4 n u j a1 a2 I R = some z → W p l e rmX1_isRaised s m args below meth c H locs 0 0 (MQ below (cQi D y yS q (cS y yS q s.heap.size) z) args s 0 0 (cS y yS q s.heap.size)) (F0 m 4 ls []) := by
  have hx := X.1.1
  have hb := X.1.2.1
  intro j
  induction j with
  | zero =>
    intro a1 a2 I R H locs ls w hl e0
    cases e0
  | succ j ih =>
    intro a1 a2 I R H locs ls w hl e0
    rw [fX1_isRaised_b4] at e0
    refine lv_iload_n hx hb dX1_isRaised_4 rfl (lv_at hl 2 rfl) ?_
    refine lv_aload_n hx hb dX1_isRaised_5 rfl (lv_at hl 0 rfl) ?_
    refine c_get X w (cat_LA _ _ _ _ _ u hu) rfl in_X1_isRaised_X1 0 (by decide) (index := 18) rfl (by decide +kernel) (cf_LA_0 _ _ _) dX1_isRaised_6 ?_
    refine c_get X w (cat_PR _ _ _ _ _ u hu) rfl in_X1_isRaised_X2 8 (by decide) (index := 32) rfl (by decide +kernel) (cf_PR_8 _ _ _) dX1_isRaised_9 ?_
    refine lv_icmp_ge (tgt := 59) hx hb dX1_isRaised_12 (by decide) (fun c8 => ?_) (fun c8 => ?_)
    · have e0 := itp _ c8 e0
      refine lv_iload_n hx hb dX1_isRaised_59 rfl (lv_at hl 1 rfl) ?_
      refine gd e0 (fun g1 e0 => ?_)
      have e0 := Option.some.inj e0
      subst e0
      exact c_zret X w hr g1 dX1_isRaised_60
    · have e0 := itn _ c8 e0
      refine lv_aload_n hx hb dX1_isRaised_15 rfl (lv_at hl 0 rfl) ?_
      refine lv_iload_n hx hb dX1_isRaised_16 rfl (lv_at hl 2 rfl) ?_
      refine bd e0 (fun z2 e3 e0 => ?_)
      refine c_calli X w (c_rec X w (cat_LA _ _ _ _ _ u hu) rfl) (n := 1) (As := [.int a2]) (rest := []) (fX1_leastOfHead_met l _ _ _ _ _ _ _ hu _ _ _ _ e3) gX1_isRaised_X1_leastOfHead rfl rfl rfl (by decide +kernel) ⟨Nat.le_of_ble_eq_true rfl, Nat.le_of_ble_eq_true rfl⟩ rfl hl.1 rfl (Nat.le_of_ble_eq_true rfl) dX1_isRaised_17 (fun H locs w => ?_)
      refine lv_istore_n (lv' := [(3, .int z2.1), (0, .ref (q (130 + 100 * u))), (1, .int a1), (2, .int a2)]) hx hb dX1_isRaised_20 rfl hl (by decide) rfl (fun ls hl => ?_)
      refine lv_aload_n hx hb dX1_isRaised_21 rfl (lv_at hl 1 rfl) ?_
      refine c_get X w (cat_LA _ _ _ _ _ u hu) rfl in_X1_isRaised_X1 0 (by decide) (index := 18) rfl (by decide +kernel) (cf_LA_0 _ _ _) dX1_isRaised_22 ?_
      refine c_get X w (cat_PR _ _ _ _ _ u hu) rfl in_X1_isRaised_X2 3 (by decide) (index := 42) rfl (by decide +kernel) (cf_PR_3 _ _ _) dX1_isRaised_25 ?_
      refine lv_iload_n hx hb dX1_isRaised_28 rfl (lv_at hl 3 rfl) ?_
      refine gd e0 (fun g4 e0 => ?_)
      refine c_ald X w (cat_a114 _ _ _ _ _ u hu) g4 dX1_isRaised_29 ?_
      refine lv_istore (lv' := [(4, .int (getA z2.2.2 (114 + 100 * u) a2)), (3, .int z2.1), (0, .ref (q (130 + 100 * u))), (1, .int a1), (2, .int a2)]) hx hb dX1_isRaised_30 hl (by decide) rfl (fun ls hl => ?_)
      refine lv_aload_n hx hb dX1_isRaised_32 rfl (lv_at hl 2 rfl) ?_
      refine c_get X w (cat_LA _ _ _ _ _ u hu) rfl in_X1_isRaised_X1 1 (by decide) (index := 9) rfl (by decide +kernel) (cf_LA_1 _ _ _) dX1_isRaised_33 ?_
      refine lv_iload hx hb dX1_isRaised_36 (lv_at hl 0 rfl) ?_
      refine gd e0 (fun g5 e0 => ?_)
      refine c_ald X w (cat_a132 _ _ _ _ _ u hu) g5 dX1_isRaised_38 ?_
      refine lv_iload_n hx hb dX1_isRaised_39 rfl (lv_at hl 1 rfl) ?_
      refine lv_icmp_ge (tgt := 53) hx hb dX1_isRaised_40 (by decide) (fun c7 => ?_) (fun c7 => ?_)
      · have e0 := itp _ c7 e0
        exact fX1_isRaised_b53_w (l := l) hu X hr ih w (lv_sub hl [2, 3, 4] rfl) e0
      · have e0 := itn _ c7 e0
        refine lv_aload_n hx hb dX1_isRaised_43 rfl (lv_at hl 2 rfl) ?_
        refine c_get X w (cat_LA _ _ _ _ _ u hu) rfl in_X1_isRaised_X1 1 (by decide) (index := 9) rfl (by decide +kernel) (cf_LA_1 _ _ _) dX1_isRaised_44 ?_
        refine lv_iload hx hb dX1_isRaised_47 (lv_at hl 0 rfl) ?_
        refine lv_iload_n hx hb dX1_isRaised_49 rfl (lv_at hl 1 rfl) ?_
        refine gd e0 (fun g6 e0 => ?_)
        refine c_ast X w (cat_a132 _ _ _ _ _ u hu) (cset_a132 _ _ _ _ _ u hu) g6 dX1_isRaised_50 (fun H locs w => ?_)
        refine lv_iconst (v := 1) hx hb dX1_isRaised_51 (by decide) ?_
        refine lv_istore_n (lv' := [(1, .int 1), (4, .int (getA z2.2.2 (114 + 100 * u) a2)), (3, .int z2.1), (0, .ref (q (130 + 100 * u))), (2, .int a2)]) hx hb dX1_isRaised_52 rfl hl (by decide) rfl (fun ls hl => ?_)
        exact fX1_isRaised_b53_w (l := l) hu X hr ih w (lv_sub hl [3, 0, 4] rfl) e0
def fX1_isRaised (n : Nat) (u : Nat) (I : Nat → Int32) (R : Nat → Nat → Int32) : Option (Int32 × mSt) :=
  fX1_isRaised_b4 n u n 0 0 I R
set_option maxRecDepth 20000 in
set_option maxHeartbeats 2000000 in
theorem fX1_isRaised_w {p : Program} {l : Launch} {e : Env} {s : State} {m : MethodId} {args : Array Value} {below : List Frame} {meth : Method} {c : Code} {D : va_G} {y : ClassId} {yS : ClassId × ClassId} {q : Nat → Nat} {n : Nat} {z : Int32 × mSt} {u : Nat} (hu : u < 2) (X : cX p s m args c cX1_isRaised 5 wsX1_isRaised RX1 D y yS) (hr : meth.sig.returnType = some .boolean ∧ meth.locks = false) {I : Nat → Int32} {R : Nat → Nat → Int32} {H : Heap} {locs : List Loc} {ls : Array Slot} (w : cH s D y yS q H locs I R) (hl : lv_has ls 5 [(0, .ref (q (130 + 100 * u)))]) (e0 : fX1_isRaised n u I R = some z) : W p l e rmX1_isRaised s m args below meth c H locs 0 0 (MQ below (cQi D y yS q (cS y yS q s.heap.size) z) args s 0 0 (cS y yS q s.heap.size)) (F0 m 0 ls []) := by
  have hx := X.1.1
  have hb := X.1.2.1
  unfold fX1_isRaised at e0
  refine lv_iconst (v := 0) hx hb dX1_isRaised_0 (by decide) ?_
  refine lv_istore_n (lv' := [(1, .int 0), (0, .ref (q (130 + 100 * u)))]) hx hb dX1_isRaised_1 rfl hl (by decide) rfl (fun ls hl => ?_)
  refine lv_iconst (v := 0) hx hb dX1_isRaised_2 (by decide) ?_
  refine lv_istore_n (lv' := [(2, .int 0), (1, .int 0), (0, .ref (q (130 + 100 * u)))]) hx hb dX1_isRaised_3 rfl hl (by decide) rfl (fun ls hl => ?_)
  exact fX1_isRaised_b4_w (l := l) hu X hr n _ _ _ _ _ _ _ w (lv_sub hl [2, 1, 0] rfl) e0
set_option maxRecDepth 20000 in
theorem fX1_isRaised_met (l : Launch) (D : va_G) (y : ClassId) (yS : ClassId × ClassId) (q : Nat → Nat) (sz n : Nat) (u : Nat) (hu : u < 2) (I : Nat → Int32) (R : Nat → Nat → Int32) (z : Int32 × mSt) (e0 : fX1_isRaised n u I R = some z) : Met l yX1_isRaised wsX1_isRaised rmX1_isRaised (va_Pc [.ref (q (130 + 100 * u))] (cPre D y yS q sz I R)) (cQi D y yS q (cS y yS q sz) z) 0 0 (cS y yS q sz) := by
  refine Met.ofW (cc := cX1_isRaised) (maxL := 5) (ret := some .boolean) (by decide) rfl ?_
  intro p e s m args below meth c s₁ B hml hv
  obtain ⟨rfl, hsz, hP, hK, hN, hD⟩ := hv
  subst hsz
  have hl := lv_entry ([.ref (q (130 + 100 * u))]) (n := 5) (Nat.le_of_ble_eq_true rfl)
  rw [lg_entry_eq]
  exact fX1_isRaised_w (s := s) hu ⟨⟨B.exec, B.bytes, hml, findClass_of_methodNamed B.named, atoms_spec (ws := wsX1_isRaised) B.pre⟩, hK, hN⟩ ⟨B.returns, B.notSynchronized⟩ ⟨hP, cS_D hD, va_S.rf⟩ hl e0
theorem in_X1_find_X1 : ∀ w ∈ wsX10, w ∈ wsX1_find := fun _ h9 => List.mem_cons_of_mem _ (List.mem_append_left _ (List.mem_append_right _ h9))
theorem in_X1_find_X2 : ∀ w ∈ wsX20, w ∈ wsX1_find := fun _ h9 => List.mem_cons_of_mem _ (List.mem_append_right _ h9)
def rmX1_find : Room := { frames := 3, cells := 0, slots := 0, locals := 77 }
def fX1_find_b10 (n : Nat) (u : Nat) : Nat → Int32 → (Nat → Int32) → (Nat → Nat → Int32) → Option (Int32 × mSt)
  | 0, _, _, _ => none
  | j + 1, a1, I, R =>
    if 4 ≤ a1 then
      some (0, I, R)
    else
      (fX1_isRaised n u I R).bind fun z1 =>
      if z1.1 = 0 then
        some (1, z1.2.1, z1.2.2)
      else
        fX1_find_b10 n u j (a1 + 1) z1.2.1 z1.2.2
set_option maxRecDepth 20000 in
set_option maxHeartbeats 2000000 in
theorem fX1_find_b10_w {p : Program} {l : Launch} {e : Env} {s : State} {m : MethodId} {args : Array Value} {below : List Frame} {meth : Method} {c : Code} {D : va_G} {y : ClassId} {yS : ClassId × ClassId} {q : Nat → Nat} {n : Nat} {z : Int32 × mSt} {u : Nat} (hu : u < 2) (X : cX p s m args c cX1_find 2 wsX1_find RX1 D y yS) (hr : meth.sig.returnType = some .boolean ∧ meth.locks = false) : ∀ (j : Nat) (a1 : Int32) (I : Nat → Int32) (R : Nat → Nat → Int32) (H : Heap) (locs : List Loc) (ls : Array Slot), cH s D y yS q H locs I R → lv_has ls 2 [(0, .ref (q (130 + 100 * u))), (1, .int a1)] → fX1_find_b10 n u j a1 I R = some z → W p l e rmX1_find s m args below meth c H locs 0 0 (MQ below (cQi D y yS q (cS y yS q s.heap.size) z) args s 0 0 (cS y yS q s.heap.size)) (F0 m 10 ls []) := by
  have hx := X.1.1
  have hb := X.1.2.1
  intro j
  induction j with
  | zero =>
    intro a1 I R H locs ls w hl e0
    cases e0
  | succ j ih =>
    intro a1 I R H locs ls w hl e0
    rw [fX1_find_b10] at e0
    refine lv_iload_n hx hb dX1_find_10 rfl (lv_at hl 1 rfl) ?_
    refine lv_iconst (v := 4) hx hb dX1_find_11 (by decide) ?_
    refine lv_icmp_ge (tgt := 30) hx hb dX1_find_12 (by decide) (fun c4 => ?_) (fun c4 => ?_)
    · have e0 := itp _ c4 e0
      refine lv_iconst (v := 0) hx hb dX1_find_30 (by decide) ?_
      have e0 := Option.some.inj e0
      subst e0
      exact c_zret X w hr rfl dX1_find_31
    · have e0 := itn _ c4 e0
      refine lv_aload_n hx hb dX1_find_15 rfl (lv_at hl 0 rfl) ?_
      refine bd e0 (fun z1 e2 e0 => ?_)
      refine c_calli X w (c_rec X w (cat_LA _ _ _ _ _ u hu) rfl) (n := 0) (As := []) (rest := []) (fX1_isRaised_met l _ _ _ _ _ _ _ hu  _ _ _ e2) gX1_find_X1_isRaised rfl rfl rfl (by decide +kernel) ⟨Nat.le_of_ble_eq_true rfl, Nat.le_of_ble_eq_true rfl⟩ rfl hl.1 rfl (Nat.le_of_ble_eq_true rfl) dX1_find_16 (fun H locs w => ?_)
      refine lv_if_ne (tgt := 24) hx hb dX1_find_19 (by decide) (fun c3 => ?_) (fun c3 => ?_)
      · have e0 := itn _ c3 e0
        refine lv_iinc (v := (a1 + 1)) (lv' := [(1, .int (a1 + 1)), (0, .ref (q (130 + 100 * u)))]) hx hb dX1_find_24 hl (k := 1) rfl rfl (by decide) rfl (fun ls hl => ?_)
        refine lv_goto (tgt := 10) hx hb dX1_find_27 (by decide) ?_
        exact ih _ _ _ _ _ _ w (lv_sub hl [1, 0] rfl) e0
      · have e0 := itp _ c3 e0
        refine lv_iconst (v := 1) hx hb dX1_find_22 (by decide) ?_
        have e0 := Option.some.inj e0
        subst e0
        exact c_zret X w hr rfl dX1_find_23
def fX1_find (n : Nat) (u : Nat) (I : Nat → Int32) (R : Nat → Nat → Int32) : Option (Int32 × mSt) :=
  fX1_find_b10 n u n 0 I (flA R (132 + 100 * u) 4 0)
set_option maxRecDepth 20000 in
set_option maxHeartbeats 2000000 in
theorem fX1_find_w {p : Program} {l : Launch} {e : Env} {s : State} {m : MethodId} {args : Array Value} {below : List Frame} {meth : Method} {c : Code} {D : va_G} {y : ClassId} {yS : ClassId × ClassId} {q : Nat → Nat} {n : Nat} {z : Int32 × mSt} {u : Nat} (hu : u < 2) (X : cX p s m args c cX1_find 2 wsX1_find RX1 D y yS) (hr : meth.sig.returnType = some .boolean ∧ meth.locks = false) {I : Nat → Int32} {R : Nat → Nat → Int32} {H : Heap} {locs : List Loc} {ls : Array Slot} (w : cH s D y yS q H locs I R) (hl : lv_has ls 2 [(0, .ref (q (130 + 100 * u)))]) (e0 : fX1_find n u I R = some z) : W p l e rmX1_find s m args below meth c H locs 0 0 (MQ below (cQi D y yS q (cS y yS q s.heap.size) z) args s 0 0 (cS y yS q s.heap.size)) (F0 m 0 ls []) := by
  have hx := X.1.1
  have hb := X.1.2.1
  unfold fX1_find at e0
  refine lv_aload_n hx hb dX1_find_0 rfl (lv_at hl 0 rfl) ?_
  refine c_get X w (cat_LA _ _ _ _ _ u hu) rfl in_X1_find_X1 1 (by decide) (index := 9) rfl (by decide +kernel) (cf_LA_1 _ _ _) dX1_find_1 ?_
  refine lv_iconst (v := 0) hx hb dX1_find_4 (by decide) ?_
  refine c_fill X w (cat_a132 _ _ _ _ _ u hu) (cset_a132 _ _ _ _ _ u hu) (Nat.le_of_ble_eq_true rfl) gX1_find_J7_fill_53178 (by decide +kernel) ⟨Nat.le_of_ble_eq_true rfl, Nat.le_of_ble_eq_true rfl⟩ hl.1 (rest := []) (Nat.le_of_ble_eq_true rfl) dX1_find_5 (fun H locs w => ?_)
  refine lv_iconst (v := 0) hx hb dX1_find_8 (by decide) ?_
  refine lv_istore_n (lv' := [(1, .int 0), (0, .ref (q (130 + 100 * u)))]) hx hb dX1_find_9 rfl hl (by decide) rfl (fun ls hl => ?_)
  exact fX1_find_b10_w (l := l) hu X hr n _ _ _ _ _ _ w (lv_sub hl [1, 0] rfl) e0
set_option maxRecDepth 20000 in
theorem fX1_find_met (l : Launch) (D : va_G) (y : ClassId) (yS : ClassId × ClassId) (q : Nat → Nat) (sz n : Nat) (u : Nat) (hu : u < 2) (I : Nat → Int32) (R : Nat → Nat → Int32) (z : Int32 × mSt) (e0 : fX1_find n u I R = some z) : Met l yX1_find wsX1_find rmX1_find (va_Pc [.ref (q (130 + 100 * u))] (cPre D y yS q sz I R)) (cQi D y yS q (cS y yS q sz) z) 0 0 (cS y yS q sz) := by
  refine Met.ofW (cc := cX1_find) (maxL := 2) (ret := some .boolean) (by decide) rfl ?_
  intro p e s m args below meth c s₁ B hml hv
  obtain ⟨rfl, hsz, hP, hK, hN, hD⟩ := hv
  subst hsz
  have hl := lv_entry ([.ref (q (130 + 100 * u))]) (n := 2) (Nat.le_of_ble_eq_true rfl)
  rw [lg_entry_eq]
  exact fX1_find_w (s := s) hu ⟨⟨B.exec, B.bytes, hml, findClass_of_methodNamed B.named, atoms_spec (ws := wsX1_find) B.pre⟩, hK, hN⟩ ⟨B.returns, B.notSynchronized⟩ ⟨hP, cS_D hD, va_S.rf⟩ hl e0
theorem in_X1_leads_X1 : ∀ w ∈ wsX10, w ∈ wsX1_leads := fun _ h9 => List.mem_cons_of_mem _ (List.mem_append_right _ h9)
def rmX1_leads : Room := { frames := 0, cells := 0, slots := 0, locals := 0 }
def fX1_leads (n : Nat) (u : Nat) (a1 : Int32) (a2 : Int32) (I : Nat → Int32) (R : Nat → Nat → Int32) : Option (Int32 × mSt) :=
  if inb a1 4 = true then
  if (((getA R (133 + 100 * u) a1) >>> (a2 &&& 31)) &&& 1) = 0 then
    some (0, I, R)
  else
    some (1, I, R)
  else none
set_option maxRecDepth 20000 in
set_option maxHeartbeats 2000000 in
theorem fX1_leads_w {p : Program} {l : Launch} {e : Env} {s : State} {m : MethodId} {args : Array Value} {below : List Frame} {meth : Method} {c : Code} {D : va_G} {y : ClassId} {yS : ClassId × ClassId} {q : Nat → Nat} {n : Nat} {z : Int32 × mSt} {u : Nat} (hu : u < 2) (X : cX p s m args c cX1_leads 3 wsX1_leads RX1 D y yS) (hr : meth.sig.returnType = some .boolean ∧ meth.locks = false) {a1 : Int32} {a2 : Int32} {I : Nat → Int32} {R : Nat → Nat → Int32} {H : Heap} {locs : List Loc} {ls : Array Slot} (w : cH s D y yS q H locs I R) (hl : lv_has ls 3 [(0, .ref (q (130 + 100 * u))), (1, .int a1), (2, .int a2)]) (e0 : fX1_leads n u a1 a2 I R = some z) : W p l e rmX1_leads s m args below meth c H locs 0 0 (MQ below (cQi D y yS q (cS y yS q s.heap.size) z) args s 0 0 (cS y yS q s.heap.size)) (F0 m 0 ls []) := by
  have hx := X.1.1
  have hb := X.1.2.1
  unfold fX1_leads at e0
  refine lv_aload_n hx hb dX1_leads_0 rfl (lv_at hl 0 rfl) ?_
  refine c_get X w (cat_LA _ _ _ _ _ u hu) rfl in_X1_leads_X1 2 (by decide) (index := 15) rfl (by decide +kernel) (cf_LA_2 _ _ _) dX1_leads_1 ?_
  refine lv_iload_n hx hb dX1_leads_4 rfl (lv_at hl 1 rfl) ?_
  refine gd e0 (fun g1 e0 => ?_)
  refine c_ald X w (cat_a133 _ _ _ _ _ u hu) g1 dX1_leads_5 ?_
  refine lv_iload_n hx hb dX1_leads_6 rfl (lv_at hl 2 rfl) ?_
  refine lv_ishr hx hb dX1_leads_7 ?_
  refine lv_iconst (v := 1) hx hb dX1_leads_8 (by decide) ?_
  refine lv_iand hx hb dX1_leads_9 ?_
  refine lv_if_eq (tgt := 17) hx hb dX1_leads_10 (by decide) (fun c2 => ?_) (fun c2 => ?_)
  · have e0 := itp _ c2 e0
    refine lv_iconst (v := 0) hx hb dX1_leads_17 (by decide) ?_
    have e0 := Option.some.inj e0
    subst e0
    exact c_zret X w hr rfl dX1_leads_18
  · have e0 := itn _ c2 e0
    refine lv_iconst (v := 1) hx hb dX1_leads_13 (by decide) ?_
    refine lv_goto (tgt := 18) hx hb dX1_leads_14 (by decide) ?_
    have e0 := Option.some.inj e0
    subst e0
    exact c_zret X w hr rfl dX1_leads_18
set_option maxRecDepth 20000 in
theorem fX1_leads_met (l : Launch) (D : va_G) (y : ClassId) (yS : ClassId × ClassId) (q : Nat → Nat) (sz n : Nat) (u : Nat) (hu : u < 2) (a1 : Int32) (a2 : Int32) (I : Nat → Int32) (R : Nat → Nat → Int32) (z : Int32 × mSt) (e0 : fX1_leads n u a1 a2 I R = some z) : Met l yX1_leads wsX1_leads rmX1_leads (va_Pc [.ref (q (130 + 100 * u)), .int a1, .int a2] (cPre D y yS q sz I R)) (cQi D y yS q (cS y yS q sz) z) 0 0 (cS y yS q sz) := by
  refine Met.ofW (cc := cX1_leads) (maxL := 3) (ret := some .boolean) (by decide) rfl ?_
  intro p e s m args below meth c s₁ B hml hv
  obtain ⟨rfl, hsz, hP, hK, hN, hD⟩ := hv
  subst hsz
  have hl := lv_entry ([.ref (q (130 + 100 * u)), .int a1, .int a2]) (n := 3) (Nat.le_of_ble_eq_true rfl)
  rw [lg_entry_eq]
  exact fX1_leads_w (s := s) hu ⟨⟨B.exec, B.bytes, hml, findClass_of_methodNamed B.named, atoms_spec (ws := wsX1_leads) B.pre⟩, hK, hN⟩ ⟨B.returns, B.notSynchronized⟩ ⟨hP, cS_D hD, va_S.rf⟩ hl e0
theorem in_X1_findReach_X1 : ∀ w ∈ wsX10, w ∈ wsX1_findReach := fun _ h9 => List.mem_cons_of_mem _ (List.mem_append_left _ (List.mem_append_right _ h9))
theorem in_X1_findReach_X2 : ∀ w ∈ wsX20, w ∈ wsX1_findReach := fun _ h9 => List.mem_cons_of_mem _ (List.mem_append_right _ h9)
def rmX1_findReach : Room := { frames := 1, cells := 0, slots := 0, locals := 22 }
def fX1_findReach_b132 (n : Nat) (u : Nat) (k24 : Int32 → (Nat → Int32) → (Nat → Nat → Int32) → Option (mSt)) (k31 : Int32 → Int32 → (Nat → Int32) → (Nat → Nat → Int32) → Option (mSt)) (k44 : Int32 → Int32 → Int32 → (Nat → Int32) → (Nat → Nat → Int32) → Option (mSt)) (a1 : Int32) (a2 : Int32) (a3 : Int32) (I : Nat → Int32) (R : Nat → Nat → Int32) : Option (mSt) :=
  k44 a1 a2 (a3 + 1) I R
set_option maxRecDepth 20000 in
set_option maxHeartbeats 2000000 in
theorem fX1_findReach_b132_w {p : Program} {l : Launch} {e : Env} {s : State} {m : MethodId} {args : Array Value} {below : List Frame} {meth : Method} {c : Code} {D : va_G} {y : ClassId} {yS : ClassId × ClassId} {q : Nat → Nat} {n : Nat} {z : mSt} {u : Nat} (hu : u < 2) (X : cX p s m args c cX1_findReach 5 wsX1_findReach RX1 D y yS) (hr : meth.sig.returnType = none ∧ meth.locks = false) {k24 : Int32 → (Nat → Int32) → (Nat → Nat → Int32) → Option (mSt)} (hk24 : ∀ (a1 : Int32) (I : Nat → Int32) (R : Nat → Nat → Int32) (H : Heap) (locs : List Loc) (ls : Array Slot), cH s D y yS q H locs I R → lv_has ls 5 [(0, .ref (q (130 + 100 * u))), (1, .int a1)] → k24 a1 I R = some z → W p l e rmX1_findReach s m args below meth c H locs 0 0 (MQ below (cQv D y yS q (cS y yS q s.heap.size) z) args s 0 0 (cS y yS q s.heap.size)) (F0 m 24 ls [])) {k31 : Int32 → Int32 → (Nat → Int32) → (Nat → Nat → Int32) → Option (mSt)} (hk31 : ∀ (a1 : Int32) (a2 : Int32) (I : Nat → Int32) (R : Nat → Nat → Int32) (H : Heap) (locs : List Loc) (ls : Array Slot), cH s D y yS q H locs I R → lv_has ls 5 [(0, .ref (q (130 + 100 * u))), (1, .int a1), (2, .int a2)] → k31 a1 a2 I R = some z → W p l e rmX1_findReach s m args below meth c H locs 0 0 (MQ below (cQv D y yS q (cS y yS q s.heap.size) z) args s 0 0 (cS y yS q s.heap.size)) (F0 m 31 ls [])) {k44 : Int32 → Int32 → Int32 → (Nat → Int32) → (Nat → Nat → Int32) → Option (mSt)} (hk44 : ∀ (a1 : Int32) (a2 : Int32) (a3 : Int32) (I : Nat → Int32) (R : Nat → Nat → Int32) (H : Heap) (locs : List Loc) (ls : Array Slot), cH s D y yS q H locs I R → lv_has ls 5 [(0, .ref (q (130 + 100 * u))), (1, .int a1), (2, .int a2), (3, .int a3)] → k44 a1 a2 a3 I R = some z → W p l e rmX1_findReach s m args below meth c H locs 0 0 (MQ below (cQv D y yS q (cS y yS q s.heap.size) z) args s 0 0 (cS y yS q s.heap.size)) (F0 m 44 ls [])) {a1 : Int32} {a2 : Int32} {a3 : Int32} {I : Nat → Int32} {R : Nat → Nat → Int32} {H : Heap} {locs : List Loc} {ls : Array Slot} (w : cH s D y yS q H locs I R) (hl : lv_has ls 5 [(0, .ref (q (130 + 100 * u))), (1, .int a1), (2, .int a2), (3, .int a3)]) (e0 : fX1_findReach_b132 n u k24 k31 k44 a1 a2 a3 I R = some z) : W p l e rmX1_findReach s m args below meth c H locs 0 0 (MQ below (cQv D y yS q (cS y yS q s.heap.size) z) args s 0 0 (cS y yS q s.heap.size)) (F0 m 132 ls []) := by
  have hx := X.1.1
  have hb := X.1.2.1
  unfold fX1_findReach_b132 at e0
  refine lv_iinc (v := (a3 + 1)) (lv' := [(3, .int (a3 + 1)), (0, .ref (q (130 + 100 * u))), (1, .int a1), (2, .int a2)]) hx hb dX1_findReach_132 hl (k := 3) rfl rfl (by decide) rfl (fun ls hl => ?_)
  refine lv_goto (tgt := 44) hx hb dX1_findReach_135 (by decide) ?_
  exact hk44 _ _ _ _ _ _ _ _ w (lv_sub hl [1, 2, 3, 0] rfl) e0
def fX1_findReach_b112 (n : Nat) (u : Nat) (k24 : Int32 → (Nat → Int32) → (Nat → Nat → Int32) → Option (mSt)) (k31 : Int32 → Int32 → (Nat → Int32) → (Nat → Nat → Int32) → Option (mSt)) (k44 : Int32 → Int32 → Int32 → (Nat → Int32) → (Nat → Nat → Int32) → Option (mSt)) (a1 : Int32) (a2 : Int32) (a3 : Int32) (I : Nat → Int32) (R : Nat → Nat → Int32) : Option (mSt) :=
  if inb a2 4 = true then
  if inb a3 5 = true then
  if inb a2 4 = true then
  fX1_findReach_b132 n u k24 k31 k44 a1 a2 a3 I (setA R (133 + 100 * u) a2 ((getA R (133 + 100 * u) a2) ||| (1 <<< ((getA R (114 + 100 * u) a3) &&& 31))))
  else none
  else none
  else none
set_option maxRecDepth 20000 in
set_option maxHeartbeats 2000000 in
theorem fX1_findReach_b112_w {p : Program} {l : Launch} {e : Env} {s : State} {m : MethodId} {args : Array Value} {below : List Frame} {meth : Method} {c : Code} {D : va_G} {y : ClassId} {yS : ClassId × ClassId} {q : Nat → Nat} {n : Nat} {z : mSt} {u : Nat} (hu : u < 2) (X : cX p s m args c cX1_findReach 5 wsX1_findReach RX1 D y yS) (hr : meth.sig.returnType = none ∧ meth.locks = false) {k24 : Int32 → (Nat → Int32) → (Nat → Nat → Int32) → Option (mSt)} (hk24 : ∀ (a1 : Int32) (I : Nat → Int32) (R : Nat → Nat → Int32) (H : Heap) (locs : List Loc) (ls : Array Slot), cH s D y yS q H locs I R → lv_has ls 5 [(0, .ref (q (130 + 100 * u))), (1, .int a1)] → k24 a1 I R = some z → W p l e rmX1_findReach s m args below meth c H locs 0 0 (MQ below (cQv D y yS q (cS y yS q s.heap.size) z) args s 0 0 (cS y yS q s.heap.size)) (F0 m 24 ls [])) {k31 : Int32 → Int32 → (Nat → Int32) → (Nat → Nat → Int32) → Option (mSt)} (hk31 : ∀ (a1 : Int32) (a2 : Int32) (I : Nat → Int32) (R : Nat → Nat → Int32) (H : Heap) (locs : List Loc) (ls : Array Slot), cH s D y yS q H locs I R → lv_has ls 5 [(0, .ref (q (130 + 100 * u))), (1, .int a1), (2, .int a2)] → k31 a1 a2 I R = some z → W p l e rmX1_findReach s m args below meth c H locs 0 0 (MQ below (cQv D y yS q (cS y yS q s.heap.size) z) args s 0 0 (cS y yS q s.heap.size)) (F0 m 31 ls [])) {k44 : Int32 → Int32 → Int32 → (Nat → Int32) → (Nat → Nat → Int32) → Option (mSt)} (hk44 : ∀ (a1 : Int32) (a2 : Int32) (a3 : Int32) (I : Nat → Int32) (R : Nat → Nat → Int32) (H : Heap) (locs : List Loc) (ls : Array Slot), cH s D y yS q H locs I R → lv_has ls 5 [(0, .ref (q (130 + 100 * u))), (1, .int a1), (2, .int a2), (3, .int a3)] → k44 a1 a2 a3 I R = some z → W p l e rmX1_findReach s m args below meth c H locs 0 0 (MQ below (cQv D y yS q (cS y yS q s.heap.size) z) args s 0 0 (cS y yS q s.heap.size)) (F0 m 44 ls [])) {a1 : Int32} {a2 : Int32} {a3 : Int32} {I : Nat → Int32} {R : Nat → Nat → Int32} {H : Heap} {locs : List Loc} {ls : Array Slot} (w : cH s D y yS q H locs I R) (hl : lv_has ls 5 [(0, .ref (q (130 + 100 * u))), (1, .int a1), (2, .int a2), (3, .int a3)]) (e0 : fX1_findReach_b112 n u k24 k31 k44 a1 a2 a3 I R = some z) : W p l e rmX1_findReach s m args below meth c H locs 0 0 (MQ below (cQv D y yS q (cS y yS q s.heap.size) z) args s 0 0 (cS y yS q s.heap.size)) (F0 m 112 ls []) := by
  have hx := X.1.1
  have hb := X.1.2.1
  unfold fX1_findReach_b112 at e0
  refine lv_aload_n hx hb dX1_findReach_112 rfl (lv_at hl 0 rfl) ?_
  refine c_get X w (cat_LA _ _ _ _ _ u hu) rfl in_X1_findReach_X1 2 (by decide) (index := 15) rfl (by decide +kernel) (cf_LA_2 _ _ _) dX1_findReach_113 ?_
  refine lv_iload_n hx hb dX1_findReach_116 rfl (lv_at hl 2 rfl) ?_
  refine lv_dup2_11 hx hb dX1_findReach_117 rfl rfl ?_
  refine gd e0 (fun g18 e0 => ?_)
  refine c_ald X w (cat_a133 _ _ _ _ _ u hu) g18 dX1_findReach_118 ?_
  refine lv_iconst (v := 1) hx hb dX1_findReach_119 (by decide) ?_
  refine lv_aload_n hx hb dX1_findReach_120 rfl (lv_at hl 0 rfl) ?_
  refine c_get X w (cat_LA _ _ _ _ _ u hu) rfl in_X1_findReach_X1 0 (by decide) (index := 18) rfl (by decide +kernel) (cf_LA_0 _ _ _) dX1_findReach_121 ?_
  refine c_get X w (cat_PR _ _ _ _ _ u hu) rfl in_X1_findReach_X2 3 (by decide) (index := 42) rfl (by decide +kernel) (cf_PR_3 _ _ _) dX1_findReach_124 ?_
  refine lv_iload_n hx hb dX1_findReach_127 rfl (lv_at hl 3 rfl) ?_
  refine gd e0 (fun g19 e0 => ?_)
  refine c_ald X w (cat_a114 _ _ _ _ _ u hu) g19 dX1_findReach_128 ?_
  refine lv_ishl hx hb dX1_findReach_129 ?_
  refine lv_ior hx hb dX1_findReach_130 ?_
  refine gd e0 (fun g20 e0 => ?_)
  refine c_ast X w (cat_a133 _ _ _ _ _ u hu) (cset_a133 _ _ _ _ _ u hu) g20 dX1_findReach_131 (fun H locs w => ?_)
  exact fX1_findReach_b132_w (l := l) hu X hr hk24 hk31 hk44 w (lv_sub hl [0, 1, 2, 3] rfl) e0
def fX1_findReach_b88 (n : Nat) (u : Nat) (k24 : Int32 → (Nat → Int32) → (Nat → Nat → Int32) → Option (mSt)) (k31 : Int32 → Int32 → (Nat → Int32) → (Nat → Nat → Int32) → Option (mSt)) (k44 : Int32 → Int32 → Int32 → (Nat → Int32) → (Nat → Nat → Int32) → Option (mSt)) (a1 : Int32) (a2 : Int32) (a3 : Int32) (t0 : Int32) (I : Nat → Int32) (R : Nat → Nat → Int32) : Option (mSt) :=
  if t0 = 0 then
    if inb a3 5 = true then
    (fX1_leads n u a2 (getA R (115 + 100 * u) a3) I R).bind fun z14 =>
    if z14.1 = 0 then
      fX1_findReach_b132 n u k24 k31 k44 a1 a2 a3 z14.2.1 z14.2.2
    else
      fX1_findReach_b112 n u k24 k31 k44 a1 a2 a3 z14.2.1 z14.2.2
    else none
  else
    fX1_findReach_b112 n u k24 k31 k44 a1 a2 a3 I R
set_option maxRecDepth 20000 in
set_option maxHeartbeats 2000000 in
theorem fX1_findReach_b88_w {p : Program} {l : Launch} {e : Env} {s : State} {m : MethodId} {args : Array Value} {below : List Frame} {meth : Method} {c : Code} {D : va_G} {y : ClassId} {yS : ClassId × ClassId} {q : Nat → Nat} {n : Nat} {z : mSt} {u : Nat} (hu : u < 2) (X : cX p s m args c cX1_findReach 5 wsX1_findReach RX1 D y yS) (hr : meth.sig.returnType = none ∧ meth.locks = false) {k24 : Int32 → (Nat → Int32) → (Nat → Nat → Int32) → Option (mSt)} (hk24 : ∀ (a1 : Int32) (I : Nat → Int32) (R : Nat → Nat → Int32) (H : Heap) (locs : List Loc) (ls : Array Slot), cH s D y yS q H locs I R → lv_has ls 5 [(0, .ref (q (130 + 100 * u))), (1, .int a1)] → k24 a1 I R = some z → W p l e rmX1_findReach s m args below meth c H locs 0 0 (MQ below (cQv D y yS q (cS y yS q s.heap.size) z) args s 0 0 (cS y yS q s.heap.size)) (F0 m 24 ls [])) {k31 : Int32 → Int32 → (Nat → Int32) → (Nat → Nat → Int32) → Option (mSt)} (hk31 : ∀ (a1 : Int32) (a2 : Int32) (I : Nat → Int32) (R : Nat → Nat → Int32) (H : Heap) (locs : List Loc) (ls : Array Slot), cH s D y yS q H locs I R → lv_has ls 5 [(0, .ref (q (130 + 100 * u))), (1, .int a1), (2, .int a2)] → k31 a1 a2 I R = some z → W p l e rmX1_findReach s m args below meth c H locs 0 0 (MQ below (cQv D y yS q (cS y yS q s.heap.size) z) args s 0 0 (cS y yS q s.heap.size)) (F0 m 31 ls [])) {k44 : Int32 → Int32 → Int32 → (Nat → Int32) → (Nat → Nat → Int32) → Option (mSt)} (hk44 : ∀ (a1 : Int32) (a2 : Int32) (a3 : Int32) (I : Nat → Int32) (R : Nat → Nat → Int32) (H : Heap) (locs : List Loc) (ls : Array Slot), cH s D y yS q H locs I R → lv_has ls 5 [(0, .ref (q (130 + 100 * u))), (1, .int a1), (2, .int a2), (3, .int a3)] → k44 a1 a2 a3 I R = some z → W p l e rmX1_findReach s m args below meth c H locs 0 0 (MQ below (cQv D y yS q (cS y yS q s.heap.size) z) args s 0 0 (cS y yS q s.heap.size)) (F0 m 44 ls [])) {a1 : Int32} {a2 : Int32} {a3 : Int32} {t0 : Int32} {I : Nat → Int32} {R : Nat → Nat → Int32} {H : Heap} {locs : List Loc} {ls : Array Slot} (w : cH s D y yS q H locs I R) (hl : lv_has ls 5 [(0, .ref (q (130 + 100 * u))), (1, .int a1), (2, .int a2), (3, .int a3)]) (e0 : fX1_findReach_b88 n u k24 k31 k44 a1 a2 a3 t0 I R = some z) : W p l e rmX1_findReach s m args below meth c H locs 0 0 (MQ below (cQv D y yS q (cS y yS q s.heap.size) z) args s 0 0 (cS y yS q s.heap.size)) (F0 m 88 ls [.int t0]) := by
  have hx := X.1.1
  have hb := X.1.2.1
  unfold fX1_findReach_b88 at e0
  refine lv_istore (lv' := [(4, .int t0), (0, .ref (q (130 + 100 * u))), (1, .int a1), (2, .int a2), (3, .int a3)]) hx hb dX1_findReach_88 hl (by decide) rfl (fun ls hl => ?_)
  refine lv_iload hx hb dX1_findReach_90 (lv_at hl 0 rfl) ?_
  refine lv_if_ne (tgt := 112) hx hb dX1_findReach_92 (by decide) (fun c17 => ?_) (fun c17 => ?_)
  · have e0 := itn _ c17 e0
    exact fX1_findReach_b112_w (l := l) hu X hr hk24 hk31 hk44 w (lv_sub hl [1, 2, 3, 4] rfl) e0
  · have e0 := itp _ c17 e0
    refine lv_aload_n hx hb dX1_findReach_95 rfl (lv_at hl 1 rfl) ?_
    refine lv_iload_n hx hb dX1_findReach_96 rfl (lv_at hl 3 rfl) ?_
    refine lv_aload_n hx hb dX1_findReach_97 rfl (lv_at hl 1 rfl) ?_
    refine c_get X w (cat_LA _ _ _ _ _ u hu) rfl in_X1_findReach_X1 0 (by decide) (index := 18) rfl (by decide +kernel) (cf_LA_0 _ _ _) dX1_findReach_98 ?_
    refine c_get X w (cat_PR _ _ _ _ _ u hu) rfl in_X1_findReach_X2 4 (by decide) (index := 45) rfl (by decide +kernel) (cf_PR_4 _ _ _) dX1_findReach_101 ?_
    refine lv_iload_n hx hb dX1_findReach_104 rfl (lv_at hl 4 rfl) ?_
    refine gd e0 (fun g13 e0 => ?_)
    refine c_ald X w (cat_a115 _ _ _ _ _ u hu) g13 dX1_findReach_105 ?_
    refine bd e0 (fun z14 e15 e0 => ?_)
    refine c_calli X w (c_rec X w (cat_LA _ _ _ _ _ u hu) rfl) (n := 2) (As := [.int a2, .int (getA R (115 + 100 * u) a3)]) (rest := []) (fX1_leads_met l _ _ _ _ _ _ _ hu _ _ _ _ _ e15) gX1_findReach_X1_leads rfl rfl rfl (by decide +kernel) ⟨Nat.le_of_ble_eq_true rfl, Nat.le_of_ble_eq_true rfl⟩ rfl hl.1 rfl (Nat.le_of_ble_eq_true rfl) dX1_findReach_106 (fun H locs w => ?_)
    refine lv_if_eq (tgt := 132) hx hb dX1_findReach_109 (by decide) (fun c16 => ?_) (fun c16 => ?_)
    · have e0 := itp _ c16 e0
      exact fX1_findReach_b132_w (l := l) hu X hr hk24 hk31 hk44 w (lv_sub hl [1, 2, 3, 4] rfl) e0
    · have e0 := itn _ c16 e0
      exact fX1_findReach_b112_w (l := l) hu X hr hk24 hk31 hk44 w (lv_sub hl [1, 2, 3, 4] rfl) e0
def fX1_findReach_b87 (n : Nat) (u : Nat) (k24 : Int32 → (Nat → Int32) → (Nat → Nat → Int32) → Option (mSt)) (k31 : Int32 → Int32 → (Nat → Int32) → (Nat → Nat → Int32) → Option (mSt)) (k44 : Int32 → Int32 → Int32 → (Nat → Int32) → (Nat → Nat → Int32) → Option (mSt)) (a1 : Int32) (a2 : Int32) (a3 : Int32) (I : Nat → Int32) (R : Nat → Nat → Int32) : Option (mSt) :=
  fX1_findReach_b88 n u k24 k31 k44 a1 a2 a3 0 I R
set_option maxRecDepth 20000 in
set_option maxHeartbeats 2000000 in
theorem fX1_findReach_b87_w {p : Program} {l : Launch} {e : Env} {s : State} {m : MethodId} {args : Array Value} {below : List Frame} {meth : Method} {c : Code} {D : va_G} {y : ClassId} {yS : ClassId × ClassId} {q : Nat → Nat} {n : Nat} {z : mSt} {u : Nat} (hu : u < 2) (X : cX p s m args c cX1_findReach 5 wsX1_findReach RX1 D y yS) (hr : meth.sig.returnType = none ∧ meth.locks = false) {k24 : Int32 → (Nat → Int32) → (Nat → Nat → Int32) → Option (mSt)} (hk24 : ∀ (a1 : Int32) (I : Nat → Int32) (R : Nat → Nat → Int32) (H : Heap) (locs : List Loc) (ls : Array Slot), cH s D y yS q H locs I R → lv_has ls 5 [(0, .ref (q (130 + 100 * u))), (1, .int a1)] → k24 a1 I R = some z → W p l e rmX1_findReach s m args below meth c H locs 0 0 (MQ below (cQv D y yS q (cS y yS q s.heap.size) z) args s 0 0 (cS y yS q s.heap.size)) (F0 m 24 ls [])) {k31 : Int32 → Int32 → (Nat → Int32) → (Nat → Nat → Int32) → Option (mSt)} (hk31 : ∀ (a1 : Int32) (a2 : Int32) (I : Nat → Int32) (R : Nat → Nat → Int32) (H : Heap) (locs : List Loc) (ls : Array Slot), cH s D y yS q H locs I R → lv_has ls 5 [(0, .ref (q (130 + 100 * u))), (1, .int a1), (2, .int a2)] → k31 a1 a2 I R = some z → W p l e rmX1_findReach s m args below meth c H locs 0 0 (MQ below (cQv D y yS q (cS y yS q s.heap.size) z) args s 0 0 (cS y yS q s.heap.size)) (F0 m 31 ls [])) {k44 : Int32 → Int32 → Int32 → (Nat → Int32) → (Nat → Nat → Int32) → Option (mSt)} (hk44 : ∀ (a1 : Int32) (a2 : Int32) (a3 : Int32) (I : Nat → Int32) (R : Nat → Nat → Int32) (H : Heap) (locs : List Loc) (ls : Array Slot), cH s D y yS q H locs I R → lv_has ls 5 [(0, .ref (q (130 + 100 * u))), (1, .int a1), (2, .int a2), (3, .int a3)] → k44 a1 a2 a3 I R = some z → W p l e rmX1_findReach s m args below meth c H locs 0 0 (MQ below (cQv D y yS q (cS y yS q s.heap.size) z) args s 0 0 (cS y yS q s.heap.size)) (F0 m 44 ls [])) {a1 : Int32} {a2 : Int32} {a3 : Int32} {I : Nat → Int32} {R : Nat → Nat → Int32} {H : Heap} {locs : List Loc} {ls : Array Slot} (w : cH s D y yS q H locs I R) (hl : lv_has ls 5 [(0, .ref (q (130 + 100 * u))), (1, .int a1), (2, .int a2), (3, .int a3)]) (e0 : fX1_findReach_b87 n u k24 k31 k44 a1 a2 a3 I R = some z) : W p l e rmX1_findReach s m args below meth c H locs 0 0 (MQ below (cQv D y yS q (cS y yS q s.heap.size) z) args s 0 0 (cS y yS q s.heap.size)) (F0 m 87 ls []) := by
  have hx := X.1.1
  have hb := X.1.2.1
  unfold fX1_findReach_b87 at e0
  refine lv_iconst (v := 0) hx hb dX1_findReach_87 (by decide) ?_
  exact fX1_findReach_b88_w (l := l) hu X hr hk24 hk31 hk44 w (lv_sub hl [0, 1, 2, 3] rfl) e0
def fX1_findReach_b44 (n : Nat) (u : Nat) (k24 : Int32 → (Nat → Int32) → (Nat → Nat → Int32) → Option (mSt)) (k31 : Int32 → Int32 → (Nat → Int32) → (Nat → Nat → Int32) → Option (mSt)) : Nat → Int32 → Int32 → Int32 → (Nat → Int32) → (Nat → Nat → Int32) → Option (mSt)
  | 0, _, _, _, _, _ => none
  | j + 1, a1, a2, a3, I, R =>
    if (I (119 + 100 * u)) ≤ a3 then
      k31 a1 (a2 + 1) I R
    else
      (fX2_hasOther n u a3 I R).bind fun z5 =>
      if z5.1 = 0 then
        fX1_findReach_b87 n u k24 k31 (fX1_findReach_b44 n u k24 k31 j) a1 a2 a3 z5.2.1 z5.2.2
      else
        if inb a3 5 = true then
        (fX1_leads n u a2 (getA z5.2.2 (116 + 100 * u) a3) z5.2.1 z5.2.2).bind fun z8 =>
        if z8.1 = 0 then
          fX1_findReach_b87 n u k24 k31 (fX1_findReach_b44 n u k24 k31 j) a1 a2 a3 z8.2.1 z8.2.2
        else
          fX1_findReach_b88 n u k24 k31 (fX1_findReach_b44 n u k24 k31 j) a1 a2 a3 1 z8.2.1 z8.2.2
        else none
set_option maxRecDepth 20000 in
set_option maxHeartbeats 2000000 in
theorem fX1_findReach_b44_w {p : Program} {l : Launch} {e : Env} {s : State} {m : MethodId} {args : Array Value} {below : List Frame} {meth : Method} {c : Code} {D : va_G} {y : ClassId} {yS : ClassId × ClassId} {q : Nat → Nat} {n : Nat} {z : mSt} {u : Nat} (hu : u < 2) (X : cX p s m args c cX1_findReach 5 wsX1_findReach RX1 D y yS) (hr : meth.sig.returnType = none ∧ meth.locks = false) {k24 : Int32 → (Nat → Int32) → (Nat → Nat → Int32) → Option (mSt)} (hk24 : ∀ (a1 : Int32) (I : Nat → Int32) (R : Nat → Nat → Int32) (H : Heap) (locs : List Loc) (ls : Array Slot), cH s D y yS q H locs I R → lv_has ls 5 [(0, .ref (q (130 + 100 * u))), (1, .int a1)] → k24 a1 I R = some z → W p l e rmX1_findReach s m args below meth c H locs 0 0 (MQ below (cQv D y yS q (cS y yS q s.heap.size) z) args s 0 0 (cS y yS q s.heap.size)) (F0 m 24 ls [])) {k31 : Int32 → Int32 → (Nat → Int32) → (Nat → Nat → Int32) → Option (mSt)} (hk31 : ∀ (a1 : Int32) (a2 : Int32) (I : Nat → Int32) (R : Nat → Nat → Int32) (H : Heap) (locs : List Loc) (ls : Array Slot), cH s D y yS q H locs I R → lv_has ls 5 [(0, .ref (q (130 + 100 * u))), (1, .int a1), (2, .int a2)] → k31 a1 a2 I R = some z → W p l e rmX1_findReach s m args below meth c H locs 0 0 (MQ below (cQv D y yS q (cS y yS q s.heap.size) z) args s 0 0 (cS y yS q s.heap.size)) (F0 m 31 ls [])) : ∀ (j : Nat) (a1 : Int32) (a2 : Int32) (a3 : Int32) (I : Nat → Int32) (R : Nat → Nat → Int32) (H : Heap) (locs : List Loc) (ls : Array Slot), cH s D y yS q H locs I R → lv_has ls 5 [(0, .ref (q (130 + 100 * u))), (1, .int a1), (2, .int a2), (3, .int a3)] → fX1_findReach_b44 n u k24 k31 j a1 a2 a3 I R = some z → W p l e rmX1_findReach s m args below meth c H locs 0 0 (MQ below (cQv D y yS q (cS y yS q s.heap.size) z) args s 0 0 (cS y yS q s.heap.size)) (F0 m 44 ls []) := by
  have hx := X.1.1
  have hb := X.1.2.1
  intro j
  induction j with
  | zero =>
    intro a1 a2 a3 I R H locs ls w hl e0
    cases e0
  | succ j ih =>
    intro a1 a2 a3 I R H locs ls w hl e0
    rw [fX1_findReach_b44] at e0
    refine lv_iload_n hx hb dX1_findReach_44 rfl (lv_at hl 3 rfl) ?_
    refine lv_aload_n hx hb dX1_findReach_45 rfl (lv_at hl 0 rfl) ?_
    refine c_get X w (cat_LA _ _ _ _ _ u hu) rfl in_X1_findReach_X1 0 (by decide) (index := 18) rfl (by decide +kernel) (cf_LA_0 _ _ _) dX1_findReach_46 ?_
    refine c_get X w (cat_PR _ _ _ _ _ u hu) rfl in_X1_findReach_X2 8 (by decide) (index := 32) rfl (by decide +kernel) (cf_PR_8 _ _ _) dX1_findReach_49 ?_
    refine lv_icmp_ge (tgt := 138) hx hb dX1_findReach_52 (by decide) (fun c12 => ?_) (fun c12 => ?_)
    · have e0 := itp _ c12 e0
      refine lv_iinc (v := (a2 + 1)) (lv' := [(2, .int (a2 + 1)), (0, .ref (q (130 + 100 * u))), (1, .int a1), (3, .int a3)]) hx hb dX1_findReach_138 hl (k := 2) rfl rfl (by decide) rfl (fun ls hl => ?_)
      refine lv_goto (tgt := 31) hx hb dX1_findReach_141 (by decide) ?_
      exact hk31 _ _ _ _ _ _ _ w (lv_sub hl [1, 2, 0] rfl) e0
    · have e0 := itn _ c12 e0
      refine lv_aload_n hx hb dX1_findReach_55 rfl (lv_at hl 0 rfl) ?_
      refine c_get X w (cat_LA _ _ _ _ _ u hu) rfl in_X1_findReach_X1 0 (by decide) (index := 18) rfl (by decide +kernel) (cf_LA_0 _ _ _) dX1_findReach_56 ?_
      refine lv_iload_n hx hb dX1_findReach_59 rfl (lv_at hl 3 rfl) ?_
      refine bd e0 (fun z5 e6 e0 => ?_)
      refine c_calli X w (c_rec X w (cat_PR _ _ _ _ _ u hu) rfl) (n := 1) (As := [.int a3]) (rest := []) (fX2_hasOther_met l _ _ _ _ _ _ _ hu _ _ _ _ e6) gX1_findReach_X2_hasOther rfl rfl rfl (by decide +kernel) ⟨Nat.le_of_ble_eq_true rfl, Nat.le_of_ble_eq_true rfl⟩ rfl hl.1 rfl (Nat.le_of_ble_eq_true rfl) dX1_findReach_60 (fun H locs w => ?_)
      refine lv_if_eq (tgt := 87) hx hb dX1_findReach_63 (by decide) (fun c11 => ?_) (fun c11 => ?_)
      · have e0 := itp _ c11 e0
        exact fX1_findReach_b87_w (l := l) hu X hr hk24 hk31 ih w (lv_sub hl [0, 1, 2, 3] rfl) e0
      · have e0 := itn _ c11 e0
        refine lv_aload_n hx hb dX1_findReach_66 rfl (lv_at hl 0 rfl) ?_
        refine lv_iload_n hx hb dX1_findReach_67 rfl (lv_at hl 2 rfl) ?_
        refine lv_aload_n hx hb dX1_findReach_68 rfl (lv_at hl 0 rfl) ?_
        refine c_get X w (cat_LA _ _ _ _ _ u hu) rfl in_X1_findReach_X1 0 (by decide) (index := 18) rfl (by decide +kernel) (cf_LA_0 _ _ _) dX1_findReach_69 ?_
        refine c_get X w (cat_PR _ _ _ _ _ u hu) rfl in_X1_findReach_X2 5 (by decide) (index := 52) rfl (by decide +kernel) (cf_PR_5 _ _ _) dX1_findReach_72 ?_
        refine lv_iload_n hx hb dX1_findReach_75 rfl (lv_at hl 3 rfl) ?_
        refine gd e0 (fun g7 e0 => ?_)
        refine c_ald X w (cat_a116 _ _ _ _ _ u hu) g7 dX1_findReach_76 ?_
        refine bd e0 (fun z8 e9 e0 => ?_)
        refine c_calli X w (c_rec X w (cat_LA _ _ _ _ _ u hu) rfl) (n := 2) (As := [.int a2, .int (getA z5.2.2 (116 + 100 * u) a3)]) (rest := []) (fX1_leads_met l _ _ _ _ _ _ _ hu _ _ _ _ _ e9) gX1_findReach_X1_leads rfl rfl rfl (by decide +kernel) ⟨Nat.le_of_ble_eq_true rfl, Nat.le_of_ble_eq_true rfl⟩ rfl hl.1 rfl (Nat.le_of_ble_eq_true rfl) dX1_findReach_77 (fun H locs w => ?_)
        refine lv_if_eq (tgt := 87) hx hb dX1_findReach_80 (by decide) (fun c10 => ?_) (fun c10 => ?_)
        · have e0 := itp _ c10 e0
          exact fX1_findReach_b87_w (l := l) hu X hr hk24 hk31 ih w (lv_sub hl [0, 1, 2, 3] rfl) e0
        · have e0 := itn _ c10 e0
          refine lv_iconst (v := 1) hx hb dX1_findReach_83 (by decide) ?_
          refine lv_goto (tgt := 88) hx hb dX1_findReach_84 (by decide) ?_
          exact fX1_findReach_b88_w (l := l) hu X hr hk24 hk31 ih w (lv_sub hl [0, 1, 2, 3] rfl) e0
def fX1_findReach_b31 (n : Nat) (u : Nat) (k24 : Int32 → (Nat → Int32) → (Nat → Nat → Int32) → Option (mSt)) : Nat → Int32 → Int32 → (Nat → Int32) → (Nat → Nat → Int32) → Option (mSt)
  | 0, _, _, _, _ => none
  | j + 1, a1, a2, I, R =>
    if (I (118 + 100 * u)) ≤ a2 then
      k24 (a1 + 1) I R
    else
      fX1_findReach_b44 n u k24 (fX1_findReach_b31 n u k24 j) n a1 a2 0 I R
set_option maxRecDepth 20000 in
set_option maxHeartbeats 2000000 in
theorem fX1_findReach_b31_w {p : Program} {l : Launch} {e : Env} {s : State} {m : MethodId} {args : Array Value} {below : List Frame} {meth : Method} {c : Code} {D : va_G} {y : ClassId} {yS : ClassId × ClassId} {q : Nat → Nat} {n : Nat} {z : mSt} {u : Nat} (hu : u < 2) (X : cX p s m args c cX1_findReach 5 wsX1_findReach RX1 D y yS) (hr : meth.sig.returnType = none ∧ meth.locks = false) {k24 : Int32 → (Nat → Int32) → (Nat → Nat → Int32) → Option (mSt)} (hk24 : ∀ (a1 : Int32) (I : Nat → Int32) (R : Nat → Nat → Int32) (H : Heap) (locs : List Loc) (ls : Array Slot), cH s D y yS q H locs I R → lv_has ls 5 [(0, .ref (q (130 + 100 * u))), (1, .int a1)] → k24 a1 I R = some z → W p l e rmX1_findReach s m args below meth c H locs 0 0 (MQ below (cQv D y yS q (cS y yS q s.heap.size) z) args s 0 0 (cS y yS q s.heap.size)) (F0 m 24 ls [])) : ∀ (j : Nat) (a1 : Int32) (a2 : Int32) (I : Nat → Int32) (R : Nat → Nat → Int32) (H : Heap) (locs : List Loc) (ls : Array Slot), cH s D y yS q H locs I R → lv_has ls 5 [(0, .ref (q (130 + 100 * u))), (1, .int a1), (2, .int a2)] → fX1_findReach_b31 n u k24 j a1 a2 I R = some z → W p l e rmX1_findReach s m args below meth c H locs 0 0 (MQ below (cQv D y yS q (cS y yS q s.heap.size) z) args s 0 0 (cS y yS q s.heap.size)) (F0 m 31 ls []) := by
  have hx := X.1.1
  have hb := X.1.2.1
  intro j
  induction j with
  | zero =>
    intro a1 a2 I R H locs ls w hl e0
    cases e0
  | succ j ih =>
    intro a1 a2 I R H locs ls w hl e0
    rw [fX1_findReach_b31] at e0
    refine lv_iload_n hx hb dX1_findReach_31 rfl (lv_at hl 2 rfl) ?_
    refine lv_aload_n hx hb dX1_findReach_32 rfl (lv_at hl 0 rfl) ?_
    refine c_get X w (cat_LA _ _ _ _ _ u hu) rfl in_X1_findReach_X1 0 (by decide) (index := 18) rfl (by decide +kernel) (cf_LA_0 _ _ _) dX1_findReach_33 ?_
    refine c_get X w (cat_PR _ _ _ _ _ u hu) rfl in_X1_findReach_X2 7 (by decide) (index := 67) rfl (by decide +kernel) (cf_PR_7 _ _ _) dX1_findReach_36 ?_
    refine lv_icmp_ge (tgt := 144) hx hb dX1_findReach_39 (by decide) (fun c4 => ?_) (fun c4 => ?_)
    · have e0 := itp _ c4 e0
      refine lv_iinc (v := (a1 + 1)) (lv' := [(1, .int (a1 + 1)), (0, .ref (q (130 + 100 * u))), (2, .int a2)]) hx hb dX1_findReach_144 hl (k := 1) rfl rfl (by decide) rfl (fun ls hl => ?_)
      refine lv_goto (tgt := 24) hx hb dX1_findReach_147 (by decide) ?_
      exact hk24 _ _ _ _ _ _ w (lv_sub hl [1, 0] rfl) e0
    · have e0 := itn _ c4 e0
      refine lv_iconst (v := 0) hx hb dX1_findReach_42 (by decide) ?_
      refine lv_istore_n (lv' := [(3, .int 0), (0, .ref (q (130 + 100 * u))), (1, .int a1), (2, .int a2)]) hx hb dX1_findReach_43 rfl hl (by decide) rfl (fun ls hl => ?_)
      exact fX1_findReach_b44_w (l := l) hu X hr hk24 ih n _ _ _ _ _ _ _ _ w (lv_sub hl [1, 2, 3, 0] rfl) e0
def fX1_findReach_b24 (n : Nat) (u : Nat) : Nat → Int32 → (Nat → Int32) → (Nat → Nat → Int32) → Option (mSt)
  | 0, _, _, _ => none
  | j + 1, a1, I, R =>
    if 4 ≤ a1 then
      some (I, R)
    else
      fX1_findReach_b31 n u (fX1_findReach_b24 n u j) n a1 0 I R
set_option maxRecDepth 20000 in
set_option maxHeartbeats 2000000 in
theorem fX1_findReach_b24_w {p : Program} {l : Launch} {e : Env} {s : State} {m : MethodId} {args : Array Value} {below : List Frame} {meth : Method} {c : Code} {D : va_G} {y : ClassId} {yS : ClassId × ClassId} {q : Nat → Nat} {n : Nat} {z : mSt} {u : Nat} (hu : u < 2) (X : cX p s m args c cX1_findReach 5 wsX1_findReach RX1 D y yS) (hr : meth.sig.returnType = none ∧ meth.locks = false) : ∀ (j : Nat) (a1 : Int32) (I : Nat → Int32) (R : Nat → Nat → Int32) (H : Heap) (locs : List Loc) (ls : Array Slot), cH s D y yS q H locs I R → lv_has ls 5 [(0, .ref (q (130 + 100 * u))), (1, .int a1)] → fX1_findReach_b24 n u j a1 I R = some z → W p l e rmX1_findReach s m args below meth c H locs 0 0 (MQ below (cQv D y yS q (cS y yS q s.heap.size) z) args s 0 0 (cS y yS q s.heap.size)) (F0 m 24 ls []) := by
  have hx := X.1.1
  have hb := X.1.2.1
  intro j
  induction j with
  | zero =>
    intro a1 I R H locs ls w hl e0
    cases e0
  | succ j ih =>
    intro a1 I R H locs ls w hl e0
    rw [fX1_findReach_b24] at e0
    refine lv_iload_n hx hb dX1_findReach_24 rfl (lv_at hl 1 rfl) ?_
    refine lv_iconst (v := 4) hx hb dX1_findReach_25 (by decide) ?_
    refine lv_icmp_ge (tgt := 150) hx hb dX1_findReach_26 (by decide) (fun c3 => ?_) (fun c3 => ?_)
    · have e0 := itp _ c3 e0
      have e0 := Option.some.inj e0
      subst e0
      exact c_vret X w hr dX1_findReach_150
    · have e0 := itn _ c3 e0
      refine lv_iconst (v := 0) hx hb dX1_findReach_29 (by decide) ?_
      refine lv_istore_n (lv' := [(2, .int 0), (0, .ref (q (130 + 100 * u))), (1, .int a1)]) hx hb dX1_findReach_30 rfl hl (by decide) rfl (fun ls hl => ?_)
      exact fX1_findReach_b31_w (l := l) hu X hr ih n _ _ _ _ _ _ _ w (lv_sub hl [1, 2, 0] rfl) e0
def fX1_findReach_b2 (n : Nat) (u : Nat) : Nat → Int32 → (Nat → Int32) → (Nat → Nat → Int32) → Option (mSt)
  | 0, _, _, _ => none
  | j + 1, a1, I, R =>
    if 4 ≤ a1 then
      fX1_findReach_b24 n u n 0 I R
    else
      if inb a1 4 = true then
      fX1_findReach_b2 n u j (a1 + 1) I (setA R (133 + 100 * u) a1 (1 <<< (a1 &&& 31)))
      else none
set_option maxRecDepth 20000 in
set_option maxHeartbeats 2000000 in
theorem fX1_findReach_b2_w {p : Program} {l : Launch} {e : Env} {s : State} {m : MethodId} {args : Array Value} {below : List Frame} {meth : Method} {c : Code} {D : va_G} {y : ClassId} {yS : ClassId × ClassId} {q : Nat → Nat} {n : Nat} {z : mSt} {u : Nat} (hu : u < 2) (X : cX p s m args c cX1_findReach 5 wsX1_findReach RX1 D y yS) (hr : meth.sig.returnType = none ∧ meth.locks = false) : ∀ (j : Nat) (a1 : Int32) (I : Nat → Int32) (R : Nat → Nat → Int32) (H : Heap) (locs : List Loc) (ls : Array Slot), cH s D y yS q H locs I R → lv_has ls 5 [(0, .ref (q (130 + 100 * u))), (1, .int a1)] → fX1_findReach_b2 n u j a1 I R = some z → W p l e rmX1_findReach s m args below meth c H locs 0 0 (MQ below (cQv D y yS q (cS y yS q s.heap.size) z) args s 0 0 (cS y yS q s.heap.size)) (F0 m 2 ls []) := by
  have hx := X.1.1
  have hb := X.1.2.1
  intro j
  induction j with
  | zero =>
    intro a1 I R H locs ls w hl e0
    cases e0
  | succ j ih =>
    intro a1 I R H locs ls w hl e0
    rw [fX1_findReach_b2] at e0
    refine lv_iload_n hx hb dX1_findReach_2 rfl (lv_at hl 1 rfl) ?_
    refine lv_iconst (v := 4) hx hb dX1_findReach_3 (by decide) ?_
    refine lv_icmp_ge (tgt := 22) hx hb dX1_findReach_4 (by decide) (fun c2 => ?_) (fun c2 => ?_)
    · have e0 := itp _ c2 e0
      refine lv_iconst (v := 0) hx hb dX1_findReach_22 (by decide) ?_
      refine lv_istore_n (lv' := [(1, .int 0), (0, .ref (q (130 + 100 * u)))]) hx hb dX1_findReach_23 rfl hl (by decide) rfl (fun ls hl => ?_)
      exact fX1_findReach_b24_w (l := l) hu X hr n _ _ _ _ _ _ w (lv_sub hl [1, 0] rfl) e0
    · have e0 := itn _ c2 e0
      refine lv_aload_n hx hb dX1_findReach_7 rfl (lv_at hl 0 rfl) ?_
      refine c_get X w (cat_LA _ _ _ _ _ u hu) rfl in_X1_findReach_X1 2 (by decide) (index := 15) rfl (by decide +kernel) (cf_LA_2 _ _ _) dX1_findReach_8 ?_
      refine lv_iload_n hx hb dX1_findReach_11 rfl (lv_at hl 1 rfl) ?_
      refine lv_iconst (v := 1) hx hb dX1_findReach_12 (by decide) ?_
      refine lv_iload_n hx hb dX1_findReach_13 rfl (lv_at hl 1 rfl) ?_
      refine lv_ishl hx hb dX1_findReach_14 ?_
      refine gd e0 (fun g1 e0 => ?_)
      refine c_ast X w (cat_a133 _ _ _ _ _ u hu) (cset_a133 _ _ _ _ _ u hu) g1 dX1_findReach_15 (fun H locs w => ?_)
      refine lv_iinc (v := (a1 + 1)) (lv' := [(1, .int (a1 + 1)), (0, .ref (q (130 + 100 * u)))]) hx hb dX1_findReach_16 hl (k := 1) rfl rfl (by decide) rfl (fun ls hl => ?_)
      refine lv_goto (tgt := 2) hx hb dX1_findReach_19 (by decide) ?_
      exact ih _ _ _ _ _ _ w (lv_sub hl [1, 0] rfl) e0
def fX1_findReach (n : Nat) (u : Nat) (I : Nat → Int32) (R : Nat → Nat → Int32) : Option (mSt) :=
  fX1_findReach_b2 n u n 0 I R
set_option maxRecDepth 20000 in
set_option maxHeartbeats 2000000 in
theorem fX1_findReach_w {p : Program} {l : Launch} {e : Env} {s : State} {m : MethodId} {args : Array Value} {below : List Frame} {meth : Method} {c : Code} {D : va_G} {y : ClassId} {yS : ClassId × ClassId} {q : Nat → Nat} {n : Nat} {z : mSt} {u : Nat} (hu : u < 2) (X : cX p s m args c cX1_findReach 5 wsX1_findReach RX1 D y yS) (hr : meth.sig.returnType = none ∧ meth.locks = false) {I : Nat → Int32} {R : Nat → Nat → Int32} {H : Heap} {locs : List Loc} {ls : Array Slot} (w : cH s D y yS q H locs I R) (hl : lv_has ls 5 [(0, .ref (q (130 + 100 * u)))]) (e0 : fX1_findReach n u I R = some z) : W p l e rmX1_findReach s m args below meth c H locs 0 0 (MQ below (cQv D y yS q (cS y yS q s.heap.size) z) args s 0 0 (cS y yS q s.heap.size)) (F0 m 0 ls []) := by
  have hx := X.1.1
  have hb := X.1.2.1
  unfold fX1_findReach at e0
  refine lv_iconst (v := 0) hx hb dX1_findReach_0 (by decide) ?_
  refine lv_istore_n (lv' := [(1, .int 0), (0, .ref (q (130 + 100 * u)))]) hx hb dX1_findReach_1 rfl hl (by decide) rfl (fun ls hl => ?_)
  exact fX1_findReach_b2_w (l := l) hu X hr n _ _ _ _ _ _ w (lv_sub hl [1, 0] rfl) e0
set_option maxRecDepth 20000 in
theorem fX1_findReach_met (l : Launch) (D : va_G) (y : ClassId) (yS : ClassId × ClassId) (q : Nat → Nat) (sz n : Nat) (u : Nat) (hu : u < 2) (I : Nat → Int32) (R : Nat → Nat → Int32) (z : mSt) (e0 : fX1_findReach n u I R = some z) : Met l yX1_findReach wsX1_findReach rmX1_findReach (va_Pc [.ref (q (130 + 100 * u))] (cPre D y yS q sz I R)) (cQv D y yS q (cS y yS q sz) z) 0 0 (cS y yS q sz) := by
  refine Met.ofW (cc := cX1_findReach) (maxL := 5) (ret := none) (by decide) rfl ?_
  intro p e s m args below meth c s₁ B hml hv
  obtain ⟨rfl, hsz, hP, hK, hN, hD⟩ := hv
  subst hsz
  have hl := lv_entry ([.ref (q (130 + 100 * u))]) (n := 5) (Nat.le_of_ble_eq_true rfl)
  rw [lg_entry_eq]
  exact fX1_findReach_w (s := s) hu ⟨⟨B.exec, B.bytes, hml, findClass_of_methodNamed B.named, atoms_spec (ws := wsX1_findReach) B.pre⟩, hK, hN⟩ ⟨B.returns, B.notSynchronized⟩ ⟨hP, cS_D hD, va_S.rf⟩ hl e0
theorem in_X1_goingRound_X1 : ∀ w ∈ wsX10, w ∈ wsX1_goingRound := fun _ h9 => List.mem_cons_of_mem _ (List.mem_append_left _ (List.mem_append_right _ h9))
theorem in_X1_goingRound_X2 : ∀ w ∈ wsX20, w ∈ wsX1_goingRound := fun _ h9 => List.mem_cons_of_mem _ (List.mem_append_right _ h9)
def rmX1_goingRound : Room := { frames := 2, cells := 0, slots := 0, locals := 46 }
def fX1_goingRound_b79 (n : Nat) (u : Nat) (k6 : Int32 → (Nat → Int32) → (Nat → Nat → Int32) → Option (Int32 × mSt)) (k19 : Int32 → Int32 → (Nat → Int32) → (Nat → Nat → Int32) → Option (Int32 × mSt)) (a1 : Int32) (a2 : Int32) (I : Nat → Int32) (R : Nat → Nat → Int32) : Option (Int32 × mSt) :=
  k19 a1 (a2 + 1) I R
set_option maxRecDepth 20000 in
set_option maxHeartbeats 2000000 in
theorem fX1_goingRound_b79_w {p : Program} {l : Launch} {e : Env} {s : State} {m : MethodId} {args : Array Value} {below : List Frame} {meth : Method} {c : Code} {D : va_G} {y : ClassId} {yS : ClassId × ClassId} {q : Nat → Nat} {n : Nat} {z : Int32 × mSt} {u : Nat} (hu : u < 2) (X : cX p s m args c cX1_goingRound 3 wsX1_goingRound RX1 D y yS) (hr : meth.sig.returnType = some .int ∧ meth.locks = false) {k6 : Int32 → (Nat → Int32) → (Nat → Nat → Int32) → Option (Int32 × mSt)} (hk6 : ∀ (a1 : Int32) (I : Nat → Int32) (R : Nat → Nat → Int32) (H : Heap) (locs : List Loc) (ls : Array Slot), cH s D y yS q H locs I R → lv_has ls 3 [(0, .ref (q (130 + 100 * u))), (1, .int a1)] → k6 a1 I R = some z → W p l e rmX1_goingRound s m args below meth c H locs 0 0 (MQ below (cQi D y yS q (cS y yS q s.heap.size) z) args s 0 0 (cS y yS q s.heap.size)) (F0 m 6 ls [])) {k19 : Int32 → Int32 → (Nat → Int32) → (Nat → Nat → Int32) → Option (Int32 × mSt)} (hk19 : ∀ (a1 : Int32) (a2 : Int32) (I : Nat → Int32) (R : Nat → Nat → Int32) (H : Heap) (locs : List Loc) (ls : Array Slot), cH s D y yS q H locs I R → lv_has ls 3 [(0, .ref (q (130 + 100 * u))), (1, .int a1), (2, .int a2)] → k19 a1 a2 I R = some z → W p l e rmX1_goingRound s m args below meth c H locs 0 0 (MQ below (cQi D y yS q (cS y yS q s.heap.size) z) args s 0 0 (cS y yS q s.heap.size)) (F0 m 19 ls [])) {a1 : Int32} {a2 : Int32} {I : Nat → Int32} {R : Nat → Nat → Int32} {H : Heap} {locs : List Loc} {ls : Array Slot} (w : cH s D y yS q H locs I R) (hl : lv_has ls 3 [(0, .ref (q (130 + 100 * u))), (1, .int a1), (2, .int a2)]) (e0 : fX1_goingRound_b79 n u k6 k19 a1 a2 I R = some z) : W p l e rmX1_goingRound s m args below meth c H locs 0 0 (MQ below (cQi D y yS q (cS y yS q s.heap.size) z) args s 0 0 (cS y yS q s.heap.size)) (F0 m 79 ls []) := by
  have hx := X.1.1
  have hb := X.1.2.1
  unfold fX1_goingRound_b79 at e0
  refine lv_iinc (v := (a2 + 1)) (lv' := [(2, .int (a2 + 1)), (0, .ref (q (130 + 100 * u))), (1, .int a1)]) hx hb dX1_goingRound_79 hl (k := 2) rfl rfl (by decide) rfl (fun ls hl => ?_)
  refine lv_goto (tgt := 19) hx hb dX1_goingRound_82 (by decide) ?_
  exact hk19 _ _ _ _ _ _ _ w (lv_sub hl [1, 2, 0] rfl) e0
def fX1_goingRound_b19 (n : Nat) (u : Nat) (k6 : Int32 → (Nat → Int32) → (Nat → Nat → Int32) → Option (Int32 × mSt)) : Nat → Int32 → Int32 → (Nat → Int32) → (Nat → Nat → Int32) → Option (Int32 × mSt)
  | 0, _, _, _, _ => none
  | j + 1, a1, a2, I, R =>
    if (I (119 + 100 * u)) ≤ a2 then
      k6 (a1 + 1) I R
    else
      if inb a2 5 = true then
      if (getA R (113 + 100 * u) a2) = 3 then
        if inb a2 5 = true then
        (fX1_leads n u a1 (getA R (116 + 100 * u) a2) I R).bind fun z6 =>
        if z6.1 = 0 then
          fX1_goingRound_b79 n u k6 (fX1_goingRound_b19 n u k6 j) a1 a2 z6.2.1 z6.2.2
        else
          if inb a2 5 = true then
          (fX1_leads n u (getA z6.2.2 (114 + 100 * u) a2) a1 z6.2.1 z6.2.2).bind fun z9 =>
          if z9.1 = 0 then
            fX1_goingRound_b79 n u k6 (fX1_goingRound_b19 n u k6 j) a1 a2 z9.2.1 z9.2.2
          else
            some (a1, z9.2.1, z9.2.2)
          else none
        else none
      else
        fX1_goingRound_b79 n u k6 (fX1_goingRound_b19 n u k6 j) a1 a2 I R
      else none
set_option maxRecDepth 20000 in
set_option maxHeartbeats 2000000 in
theorem fX1_goingRound_b19_w {p : Program} {l : Launch} {e : Env} {s : State} {m : MethodId} {args : Array Value} {below : List Frame} {meth : Method} {c : Code} {D : va_G} {y : ClassId} {yS : ClassId × ClassId} {q : Nat → Nat} {n : Nat} {z : Int32 × mSt} {u : Nat} (hu : u < 2) (X : cX p s m args c cX1_goingRound 3 wsX1_goingRound RX1 D y yS) (hr : meth.sig.returnType = some .int ∧ meth.locks = false) {k6 : Int32 → (Nat → Int32) → (Nat → Nat → Int32) → Option (Int32 × mSt)} (hk6 : ∀ (a1 : Int32) (I : Nat → Int32) (R : Nat → Nat → Int32) (H : Heap) (locs : List Loc) (ls : Array Slot), cH s D y yS q H locs I R → lv_has ls 3 [(0, .ref (q (130 + 100 * u))), (1, .int a1)] → k6 a1 I R = some z → W p l e rmX1_goingRound s m args below meth c H locs 0 0 (MQ below (cQi D y yS q (cS y yS q s.heap.size) z) args s 0 0 (cS y yS q s.heap.size)) (F0 m 6 ls [])) : ∀ (j : Nat) (a1 : Int32) (a2 : Int32) (I : Nat → Int32) (R : Nat → Nat → Int32) (H : Heap) (locs : List Loc) (ls : Array Slot), cH s D y yS q H locs I R → lv_has ls 3 [(0, .ref (q (130 + 100 * u))), (1, .int a1), (2, .int a2)] → fX1_goingRound_b19 n u k6 j a1 a2 I R = some z → W p l e rmX1_goingRound s m args below meth c H locs 0 0 (MQ below (cQi D y yS q (cS y yS q s.heap.size) z) args s 0 0 (cS y yS q s.heap.size)) (F0 m 19 ls []) := by
  have hx := X.1.1
  have hb := X.1.2.1
  intro j
  induction j with
  | zero =>
    intro a1 a2 I R H locs ls w hl e0
    cases e0
  | succ j ih =>
    intro a1 a2 I R H locs ls w hl e0
    rw [fX1_goingRound_b19] at e0
    refine lv_iload_n hx hb dX1_goingRound_19 rfl (lv_at hl 2 rfl) ?_
    refine lv_aload_n hx hb dX1_goingRound_20 rfl (lv_at hl 0 rfl) ?_
    refine c_get X w (cat_LA _ _ _ _ _ u hu) rfl in_X1_goingRound_X1 0 (by decide) (index := 18) rfl (by decide +kernel) (cf_LA_0 _ _ _) dX1_goingRound_21 ?_
    refine c_get X w (cat_PR _ _ _ _ _ u hu) rfl in_X1_goingRound_X2 8 (by decide) (index := 32) rfl (by decide +kernel) (cf_PR_8 _ _ _) dX1_goingRound_24 ?_
    refine lv_icmp_ge (tgt := 85) hx hb dX1_goingRound_27 (by decide) (fun c14 => ?_) (fun c14 => ?_)
    · have e0 := itp _ c14 e0
      refine lv_iinc (v := (a1 + 1)) (lv' := [(1, .int (a1 + 1)), (0, .ref (q (130 + 100 * u))), (2, .int a2)]) hx hb dX1_goingRound_85 hl (k := 1) rfl rfl (by decide) rfl (fun ls hl => ?_)
      refine lv_goto (tgt := 6) hx hb dX1_goingRound_88 (by decide) ?_
      exact hk6 _ _ _ _ _ _ w (lv_sub hl [1, 0] rfl) e0
    · have e0 := itn _ c14 e0
      refine lv_aload_n hx hb dX1_goingRound_30 rfl (lv_at hl 0 rfl) ?_
      refine c_get X w (cat_LA _ _ _ _ _ u hu) rfl in_X1_goingRound_X1 0 (by decide) (index := 18) rfl (by decide +kernel) (cf_LA_0 _ _ _) dX1_goingRound_31 ?_
      refine c_get X w (cat_PR _ _ _ _ _ u hu) rfl in_X1_goingRound_X2 2 (by decide) (index := 55) rfl (by decide +kernel) (cf_PR_2 _ _ _) dX1_goingRound_34 ?_
      refine lv_iload_n hx hb dX1_goingRound_37 rfl (lv_at hl 2 rfl) ?_
      refine gd e0 (fun g4 e0 => ?_)
      refine c_ald X w (cat_a113 _ _ _ _ _ u hu) g4 dX1_goingRound_38 ?_
      refine lv_iconst (v := 3) hx hb dX1_goingRound_39 (by decide) ?_
      refine lv_icmp_ne (tgt := 79) hx hb dX1_goingRound_40 (by decide) (fun c13 => ?_) (fun c13 => ?_)
      · have e0 := itn _ c13 e0
        exact fX1_goingRound_b79_w (l := l) hu X hr hk6 ih w (lv_sub hl [0, 1, 2] rfl) e0
      · have e0 := itp _ c13 e0
        refine lv_aload_n hx hb dX1_goingRound_43 rfl (lv_at hl 0 rfl) ?_
        refine lv_iload_n hx hb dX1_goingRound_44 rfl (lv_at hl 1 rfl) ?_
        refine lv_aload_n hx hb dX1_goingRound_45 rfl (lv_at hl 0 rfl) ?_
        refine c_get X w (cat_LA _ _ _ _ _ u hu) rfl in_X1_goingRound_X1 0 (by decide) (index := 18) rfl (by decide +kernel) (cf_LA_0 _ _ _) dX1_goingRound_46 ?_
        refine c_get X w (cat_PR _ _ _ _ _ u hu) rfl in_X1_goingRound_X2 5 (by decide) (index := 52) rfl (by decide +kernel) (cf_PR_5 _ _ _) dX1_goingRound_49 ?_
        refine lv_iload_n hx hb dX1_goingRound_52 rfl (lv_at hl 2 rfl) ?_
        refine gd e0 (fun g5 e0 => ?_)
        refine c_ald X w (cat_a116 _ _ _ _ _ u hu) g5 dX1_goingRound_53 ?_
        refine bd e0 (fun z6 e7 e0 => ?_)
        refine c_calli X w (c_rec X w (cat_LA _ _ _ _ _ u hu) rfl) (n := 2) (As := [.int a1, .int (getA R (116 + 100 * u) a2)]) (rest := []) (fX1_leads_met l _ _ _ _ _ _ _ hu _ _ _ _ _ e7) gX1_goingRound_X1_leads rfl rfl rfl (by decide +kernel) ⟨Nat.le_of_ble_eq_true rfl, Nat.le_of_ble_eq_true rfl⟩ rfl hl.1 rfl (Nat.le_of_ble_eq_true rfl) dX1_goingRound_54 (fun H locs w => ?_)
        refine lv_if_eq (tgt := 79) hx hb dX1_goingRound_57 (by decide) (fun c12 => ?_) (fun c12 => ?_)
        · have e0 := itp _ c12 e0
          exact fX1_goingRound_b79_w (l := l) hu X hr hk6 ih w (lv_sub hl [0, 1, 2] rfl) e0
        · have e0 := itn _ c12 e0
          refine lv_aload_n hx hb dX1_goingRound_60 rfl (lv_at hl 0 rfl) ?_
          refine lv_aload_n hx hb dX1_goingRound_61 rfl (lv_at hl 0 rfl) ?_
          refine c_get X w (cat_LA _ _ _ _ _ u hu) rfl in_X1_goingRound_X1 0 (by decide) (index := 18) rfl (by decide +kernel) (cf_LA_0 _ _ _) dX1_goingRound_62 ?_
          refine c_get X w (cat_PR _ _ _ _ _ u hu) rfl in_X1_goingRound_X2 3 (by decide) (index := 42) rfl (by decide +kernel) (cf_PR_3 _ _ _) dX1_goingRound_65 ?_
          refine lv_iload_n hx hb dX1_goingRound_68 rfl (lv_at hl 2 rfl) ?_
          refine gd e0 (fun g8 e0 => ?_)
          refine c_ald X w (cat_a114 _ _ _ _ _ u hu) g8 dX1_goingRound_69 ?_
          refine lv_iload_n hx hb dX1_goingRound_70 rfl (lv_at hl 1 rfl) ?_
          refine bd e0 (fun z9 e10 e0 => ?_)
          refine c_calli X w (c_rec X w (cat_LA _ _ _ _ _ u hu) rfl) (n := 2) (As := [.int (getA z6.2.2 (114 + 100 * u) a2), .int a1]) (rest := []) (fX1_leads_met l _ _ _ _ _ _ _ hu _ _ _ _ _ e10) gX1_goingRound_X1_leads rfl rfl rfl (by decide +kernel) ⟨Nat.le_of_ble_eq_true rfl, Nat.le_of_ble_eq_true rfl⟩ rfl hl.1 rfl (Nat.le_of_ble_eq_true rfl) dX1_goingRound_71 (fun H locs w => ?_)
          refine lv_if_eq (tgt := 79) hx hb dX1_goingRound_74 (by decide) (fun c11 => ?_) (fun c11 => ?_)
          · have e0 := itp _ c11 e0
            exact fX1_goingRound_b79_w (l := l) hu X hr hk6 ih w (lv_sub hl [0, 1, 2] rfl) e0
          · have e0 := itn _ c11 e0
            refine lv_iload_n hx hb dX1_goingRound_77 rfl (lv_at hl 1 rfl) ?_
            have e0 := Option.some.inj e0
            subst e0
            exact c_iret X w hr dX1_goingRound_78
def fX1_goingRound_b6 (n : Nat) (u : Nat) : Nat → Int32 → (Nat → Int32) → (Nat → Nat → Int32) → Option (Int32 × mSt)
  | 0, _, _, _ => none
  | j + 1, a1, I, R =>
    if (I (118 + 100 * u)) ≤ a1 then
      some (0, I, R)
    else
      fX1_goingRound_b19 n u (fX1_goingRound_b6 n u j) n a1 0 I R
set_option maxRecDepth 20000 in
set_option maxHeartbeats 2000000 in
theorem fX1_goingRound_b6_w {p : Program} {l : Launch} {e : Env} {s : State} {m : MethodId} {args : Array Value} {below : List Frame} {meth : Method} {c : Code} {D : va_G} {y : ClassId} {yS : ClassId × ClassId} {q : Nat → Nat} {n : Nat} {z : Int32 × mSt} {u : Nat} (hu : u < 2) (X : cX p s m args c cX1_goingRound 3 wsX1_goingRound RX1 D y yS) (hr : meth.sig.returnType = some .int ∧ meth.locks = false) : ∀ (j : Nat) (a1 : Int32) (I : Nat → Int32) (R : Nat → Nat → Int32) (H : Heap) (locs : List Loc) (ls : Array Slot), cH s D y yS q H locs I R → lv_has ls 3 [(0, .ref (q (130 + 100 * u))), (1, .int a1)] → fX1_goingRound_b6 n u j a1 I R = some z → W p l e rmX1_goingRound s m args below meth c H locs 0 0 (MQ below (cQi D y yS q (cS y yS q s.heap.size) z) args s 0 0 (cS y yS q s.heap.size)) (F0 m 6 ls []) := by
  have hx := X.1.1
  have hb := X.1.2.1
  intro j
  induction j with
  | zero =>
    intro a1 I R H locs ls w hl e0
    cases e0
  | succ j ih =>
    intro a1 I R H locs ls w hl e0
    rw [fX1_goingRound_b6] at e0
    refine lv_iload_n hx hb dX1_goingRound_6 rfl (lv_at hl 1 rfl) ?_
    refine lv_aload_n hx hb dX1_goingRound_7 rfl (lv_at hl 0 rfl) ?_
    refine c_get X w (cat_LA _ _ _ _ _ u hu) rfl in_X1_goingRound_X1 0 (by decide) (index := 18) rfl (by decide +kernel) (cf_LA_0 _ _ _) dX1_goingRound_8 ?_
    refine c_get X w (cat_PR _ _ _ _ _ u hu) rfl in_X1_goingRound_X2 7 (by decide) (index := 67) rfl (by decide +kernel) (cf_PR_7 _ _ _) dX1_goingRound_11 ?_
    refine lv_icmp_ge (tgt := 91) hx hb dX1_goingRound_14 (by decide) (fun c3 => ?_) (fun c3 => ?_)
    · have e0 := itp _ c3 e0
      refine lv_iconst (v := 0) hx hb dX1_goingRound_91 (by decide) ?_
      have e0 := Option.some.inj e0
      subst e0
      exact c_iret X w hr dX1_goingRound_92
    · have e0 := itn _ c3 e0
      refine lv_iconst (v := 0) hx hb dX1_goingRound_17 (by decide) ?_
      refine lv_istore_n (lv' := [(2, .int 0), (0, .ref (q (130 + 100 * u))), (1, .int a1)]) hx hb dX1_goingRound_18 rfl hl (by decide) rfl (fun ls hl => ?_)
      exact fX1_goingRound_b19_w (l := l) hu X hr ih n _ _ _ _ _ _ _ w (lv_sub hl [1, 2, 0] rfl) e0
def fX1_goingRound (n : Nat) (u : Nat) (I : Nat → Int32) (R : Nat → Nat → Int32) : Option (Int32 × mSt) :=
  (fX1_findReach n u I R).bind fun z1 =>
  fX1_goingRound_b6 n u n 0 z1.1 z1.2
set_option maxRecDepth 20000 in
set_option maxHeartbeats 2000000 in
theorem fX1_goingRound_w {p : Program} {l : Launch} {e : Env} {s : State} {m : MethodId} {args : Array Value} {below : List Frame} {meth : Method} {c : Code} {D : va_G} {y : ClassId} {yS : ClassId × ClassId} {q : Nat → Nat} {n : Nat} {z : Int32 × mSt} {u : Nat} (hu : u < 2) (X : cX p s m args c cX1_goingRound 3 wsX1_goingRound RX1 D y yS) (hr : meth.sig.returnType = some .int ∧ meth.locks = false) {I : Nat → Int32} {R : Nat → Nat → Int32} {H : Heap} {locs : List Loc} {ls : Array Slot} (w : cH s D y yS q H locs I R) (hl : lv_has ls 3 [(0, .ref (q (130 + 100 * u)))]) (e0 : fX1_goingRound n u I R = some z) : W p l e rmX1_goingRound s m args below meth c H locs 0 0 (MQ below (cQi D y yS q (cS y yS q s.heap.size) z) args s 0 0 (cS y yS q s.heap.size)) (F0 m 0 ls []) := by
  have hx := X.1.1
  have hb := X.1.2.1
  unfold fX1_goingRound at e0
  refine lv_aload_n hx hb dX1_goingRound_0 rfl (lv_at hl 0 rfl) ?_
  refine bd e0 (fun z1 e2 e0 => ?_)
  refine c_callv X w (c_rec X w (cat_LA _ _ _ _ _ u hu) rfl) (n := 0) (As := []) (rest := []) (fX1_findReach_met l _ _ _ _ _ _ _ hu  _ _ _ e2) gX1_goingRound_X1_findReach rfl rfl rfl (by decide +kernel) ⟨Nat.le_of_ble_eq_true rfl, Nat.le_of_ble_eq_true rfl⟩ rfl hl.1 rfl (Nat.le_of_ble_eq_true rfl) dX1_goingRound_1 (fun H locs w => ?_)
  refine lv_iconst (v := 0) hx hb dX1_goingRound_4 (by decide) ?_
  refine lv_istore_n (lv' := [(1, .int 0), (0, .ref (q (130 + 100 * u)))]) hx hb dX1_goingRound_5 rfl hl (by decide) rfl (fun ls hl => ?_)
  exact fX1_goingRound_b6_w (l := l) hu X hr n _ _ _ _ _ _ w (lv_sub hl [1, 0] rfl) e0
set_option maxRecDepth 20000 in
theorem fX1_goingRound_met (l : Launch) (D : va_G) (y : ClassId) (yS : ClassId × ClassId) (q : Nat → Nat) (sz n : Nat) (u : Nat) (hu : u < 2) (I : Nat → Int32) (R : Nat → Nat → Int32) (z : Int32 × mSt) (e0 : fX1_goingRound n u I R = some z) : Met l yX1_goingRound wsX1_goingRound rmX1_goingRound (va_Pc [.ref (q (130 + 100 * u))] (cPre D y yS q sz I R)) (cQi D y yS q (cS y yS q sz) z) 0 0 (cS y yS q sz) := by
  refine Met.ofW (cc := cX1_goingRound) (maxL := 3) (ret := some .int) (by decide) rfl ?_
  intro p e s m args below meth c s₁ B hml hv
  obtain ⟨rfl, hsz, hP, hK, hN, hD⟩ := hv
  subst hsz
  have hl := lv_entry ([.ref (q (130 + 100 * u))]) (n := 3) (Nat.le_of_ble_eq_true rfl)
  rw [lg_entry_eq]
  exact fX1_goingRound_w (s := s) hu ⟨⟨B.exec, B.bytes, hml, findClass_of_methodNamed B.named, atoms_spec (ws := wsX1_goingRound) B.pre⟩, hK, hN⟩ ⟨B.returns, B.notSynchronized⟩ ⟨hP, cS_D hD, va_S.rf⟩ hl e0
