theorem in_X6_demandsOf_X6 : ∀ w ∈ wsX60, w ∈ wsX6_demandsOf := fun _ h9 => List.mem_cons_of_mem _ (List.mem_append_left _ (List.mem_append_left _ (List.mem_append_right _ h9)))
theorem in_X6_demandsOf_X2 : ∀ w ∈ wsX20, w ∈ wsX6_demandsOf := fun _ h9 => List.mem_cons_of_mem _ (List.mem_append_left _ (List.mem_append_right _ h9))
theorem in_X6_demandsOf_X3 : ∀ w ∈ wsX30, w ∈ wsX6_demandsOf := fun _ h9 => List.mem_cons_of_mem _ (List.mem_append_right _ h9)
def rmX6_demandsOf : Room := { frames := 3, cells := 0, slots := 0, locals := 70 }
def fX6_demandsOf_b73 (n : Nat) (u : Nat) (k14 : Int32 → Int32 → Int32 → (Nat → Int32) → (Nat → Nat → Int32) → Option (Int32 × mSt)) (a5 : Int32) (a6 : Int32) (t0 : Int32) (I : Nat → Int32) (R : Nat → Nat → Int32) : Option (Int32 × mSt) :=
  k14 a6 t0 (a5 + 1) I R
set_option maxRecDepth 20000 in
set_option maxHeartbeats 2000000 in
theorem fX6_demandsOf_b73_w {p : Program} {l : Launch} {e : Env} {s : State} {m : MethodId} {args : Array Value} {below : List Frame} {meth : Method} {c : Code} {D : va_G} {y : ClassId} {yS : ClassId × ClassId} {q : Nat → Nat} {n : Nat} {z : Int32 × mSt} {u : Nat} (hu : u < 2) (X : cX p s m args c cX6_demandsOf 8 wsX6_demandsOf RX6 D y yS) (hr : meth.sig.returnType = some .int ∧ meth.locks = false) {k14 : Int32 → Int32 → Int32 → (Nat → Int32) → (Nat → Nat → Int32) → Option (Int32 × mSt)} (hk14 : ∀ (a3 : Int32) (a4 : Int32) (a5 : Int32) (I : Nat → Int32) (R : Nat → Nat → Int32) (H : Heap) (locs : List Loc) (ls : Array Slot), cH s D y yS q H locs I R → lv_has ls 8 [(0, .ref (q (100 + 100 * u))), (3, .int a3), (4, .int a4), (5, .int a5)] → k14 a3 a4 a5 I R = some z → W p l e rmX6_demandsOf s m args below meth c H locs 0 0 (MQ below (cQi D y yS q (cS y yS q s.heap.size) z) args s 0 0 (cS y yS q s.heap.size)) (F0 m 14 ls [])) {a5 : Int32} {a6 : Int32} {t0 : Int32} {I : Nat → Int32} {R : Nat → Nat → Int32} {H : Heap} {locs : List Loc} {ls : Array Slot} (w : cH s D y yS q H locs I R) (hl : lv_has ls 8 [(0, .ref (q (100 + 100 * u))), (5, .int a5), (6, .int a6)]) (e0 : fX6_demandsOf_b73 n u k14 a5 a6 t0 I R = some z) : W p l e rmX6_demandsOf s m args below meth c H locs 0 0 (MQ below (cQi D y yS q (cS y yS q s.heap.size) z) args s 0 0 (cS y yS q s.heap.size)) (F0 m 73 ls [.int t0]) := by
  have hx := X.1.1
  have hb := X.1.2.1
  unfold fX6_demandsOf_b73 at e0
  refine lv_istore (lv' := [(4, .int t0), (0, .ref (q (100 + 100 * u))), (5, .int a5), (6, .int a6)]) hx hb dX6_demandsOf_73 hl (by decide) rfl (fun ls hl => ?_)
  refine lv_iload hx hb dX6_demandsOf_75 (lv_at hl 3 rfl) ?_
  refine lv_istore_n (lv' := [(3, .int a6), (4, .int t0), (0, .ref (q (100 + 100 * u))), (5, .int a5), (6, .int a6)]) hx hb dX6_demandsOf_77 rfl hl (by decide) rfl (fun ls hl => ?_)
  refine lv_iinc (v := (a5 + 1)) (lv' := [(5, .int (a5 + 1)), (3, .int a6), (4, .int t0), (0, .ref (q (100 + 100 * u))), (6, .int a6)]) hx hb dX6_demandsOf_78 hl (k := 3) rfl rfl (by decide) rfl (fun ls hl => ?_)
  refine lv_goto (tgt := 14) hx hb dX6_demandsOf_81 (by decide) ?_
  exact hk14 _ _ _ _ _ _ _ _ w (lv_sub hl [3, 1, 2, 0] rfl) e0
def fX6_demandsOf_b32 (n : Nat) (u : Nat) (k14 : Int32 → Int32 → Int32 → (Nat → Int32) → (Nat → Nat → Int32) → Option (Int32 × mSt)) : Nat → Int32 → Int32 → Int32 → Int32 → (Nat → Int32) → (Nat → Nat → Int32) → Option (Int32 × mSt)
  | 0, _, _, _, _, _, _ => none
  | j + 1, a3, a5, a6, a7, I, R =>
    if (I (119 + 100 * u)) ≤ a7 then
      if a6 = a3 then
        fX6_demandsOf_b73 n u k14 a5 a6 0 I R
      else
        fX6_demandsOf_b73 n u k14 a5 a6 1 I R
    else
      (fX6_demandsBy n u a7 a3 I R).bind fun z4 =>
      fX6_demandsOf_b32 n u k14 j a3 a5 (a6 ||| z4.1) (a7 + 1) z4.2.1 z4.2.2
set_option maxRecDepth 20000 in
set_option maxHeartbeats 2000000 in
theorem fX6_demandsOf_b32_w {p : Program} {l : Launch} {e : Env} {s : State} {m : MethodId} {args : Array Value} {below : List Frame} {meth : Method} {c : Code} {D : va_G} {y : ClassId} {yS : ClassId × ClassId} {q : Nat → Nat} {n : Nat} {z : Int32 × mSt} {u : Nat} (hu : u < 2) (X : cX p s m args c cX6_demandsOf 8 wsX6_demandsOf RX6 D y yS) (hr : meth.sig.returnType = some .int ∧ meth.locks = false) {k14 : Int32 → Int32 → Int32 → (Nat → Int32) → (Nat → Nat → Int32) → Option (Int32 × mSt)} (hk14 : ∀ (a3 : Int32) (a4 : Int32) (a5 : Int32) (I : Nat → Int32) (R : Nat → Nat → Int32) (H : Heap) (locs : List Loc) (ls : Array Slot), cH s D y yS q H locs I R → lv_has ls 8 [(0, .ref (q (100 + 100 * u))), (3, .int a3), (4, .int a4), (5, .int a5)] → k14 a3 a4 a5 I R = some z → W p l e rmX6_demandsOf s m args below meth c H locs 0 0 (MQ below (cQi D y yS q (cS y yS q s.heap.size) z) args s 0 0 (cS y yS q s.heap.size)) (F0 m 14 ls [])) : ∀ (j : Nat) (a3 : Int32) (a5 : Int32) (a6 : Int32) (a7 : Int32) (I : Nat → Int32) (R : Nat → Nat → Int32) (H : Heap) (locs : List Loc) (ls : Array Slot), cH s D y yS q H locs I R → lv_has ls 8 [(0, .ref (q (100 + 100 * u))), (3, .int a3), (5, .int a5), (6, .int a6), (7, .int a7)] → fX6_demandsOf_b32 n u k14 j a3 a5 a6 a7 I R = some z → W p l e rmX6_demandsOf s m args below meth c H locs 0 0 (MQ below (cQi D y yS q (cS y yS q s.heap.size) z) args s 0 0 (cS y yS q s.heap.size)) (F0 m 32 ls []) := by
  have hx := X.1.1
  have hb := X.1.2.1
  intro j
  induction j with
  | zero =>
    intro a3 a5 a6 a7 I R H locs ls w hl e0
    cases e0
  | succ j ih =>
    intro a3 a5 a6 a7 I R H locs ls w hl e0
    rw [fX6_demandsOf_b32] at e0
    refine lv_iload hx hb dX6_demandsOf_32 (lv_at hl 4 rfl) ?_
    refine lv_aload_n hx hb dX6_demandsOf_34 rfl (lv_at hl 0 rfl) ?_
    refine c_get X w (cat_WO _ _ _ _ _ u hu) rfl in_X6_demandsOf_X6 0 (by decide) (index := 41) rfl (by decide +kernel) (cf_WO_0 _ _ _) dX6_demandsOf_35 ?_
    refine c_get X w (cat_PR _ _ _ _ _ u hu) rfl in_X6_demandsOf_X2 8 (by decide) (index := 67) rfl (by decide +kernel) (cf_PR_8 _ _ _) dX6_demandsOf_38 ?_
    refine lv_icmp_ge (tgt := 62) hx hb dX6_demandsOf_41 (by decide) (fun c6 => ?_) (fun c6 => ?_)
    · have e0 := itp _ c6 e0
      refine lv_iload hx hb dX6_demandsOf_62 (lv_at hl 3 rfl) ?_
      refine lv_iload_n hx hb dX6_demandsOf_64 rfl (lv_at hl 1 rfl) ?_
      refine lv_icmp_eq (tgt := 72) hx hb dX6_demandsOf_65 (by decide) (fun c3 => ?_) (fun c3 => ?_)
      · have e0 := itp _ c3 e0
        refine lv_iconst (v := 0) hx hb dX6_demandsOf_72 (by decide) ?_
        exact fX6_demandsOf_b73_w (l := l) hu X hr hk14 w (lv_sub hl [0, 2, 3] rfl) e0
      · have e0 := itn _ c3 e0
        refine lv_iconst (v := 1) hx hb dX6_demandsOf_68 (by decide) ?_
        refine lv_goto (tgt := 73) hx hb dX6_demandsOf_69 (by decide) ?_
        exact fX6_demandsOf_b73_w (l := l) hu X hr hk14 w (lv_sub hl [0, 2, 3] rfl) e0
    · have e0 := itn _ c6 e0
      refine lv_iload hx hb dX6_demandsOf_44 (lv_at hl 3 rfl) ?_
      refine lv_aload_n hx hb dX6_demandsOf_46 rfl (lv_at hl 0 rfl) ?_
      refine lv_iload hx hb dX6_demandsOf_47 (lv_at hl 4 rfl) ?_
      refine lv_iload_n hx hb dX6_demandsOf_49 rfl (lv_at hl 1 rfl) ?_
      refine bd e0 (fun z4 e5 e0 => ?_)
      refine c_calli X w (c_rec X w (cat_WO _ _ _ _ _ u hu) rfl) (n := 2) (As := [.int a7, .int a3]) (rest := [.int a6]) (fX6_demandsBy_met l _ _ _ _ _ _ _ hu _ _ _ _ _ e5) gX6_demandsOf_X6_demandsBy rfl rfl rfl (by decide +kernel) ⟨Nat.le_of_ble_eq_true rfl, Nat.le_of_ble_eq_true rfl⟩ rfl hl.1 rfl (Nat.le_of_ble_eq_true rfl) dX6_demandsOf_50 (fun H locs w => ?_)
      refine lv_ior hx hb dX6_demandsOf_53 ?_
      refine lv_istore (lv' := [(6, .int (a6 ||| z4.1)), (0, .ref (q (100 + 100 * u))), (3, .int a3), (5, .int a5), (7, .int a7)]) hx hb dX6_demandsOf_54 hl (by decide) rfl (fun ls hl => ?_)
      refine lv_iinc (v := (a7 + 1)) (lv' := [(7, .int (a7 + 1)), (6, .int (a6 ||| z4.1)), (0, .ref (q (100 + 100 * u))), (3, .int a3), (5, .int a5)]) hx hb dX6_demandsOf_56 hl (k := 4) rfl rfl (by decide) rfl (fun ls hl => ?_)
      refine lv_goto (tgt := 32) hx hb dX6_demandsOf_59 (by decide) ?_
      exact ih _ _ _ _ _ _ _ _ _ w (lv_sub hl [2, 3, 4, 1, 0] rfl) e0
def fX6_demandsOf_b14 (n : Nat) (u : Nat) : Nat → Int32 → Int32 → Int32 → (Nat → Int32) → (Nat → Nat → Int32) → Option (Int32 × mSt)
  | 0, _, _, _, _, _ => none
  | j + 1, a3, a4, a5, I, R =>
    if 16 < a5 then
      some (a3, I, R)
    else
      if a4 = 0 then
        some (a3, I, R)
      else
        fX6_demandsOf_b32 n u (fX6_demandsOf_b14 n u j) n a3 a5 a3 0 I R
set_option maxRecDepth 20000 in
set_option maxHeartbeats 2000000 in
theorem fX6_demandsOf_b14_w {p : Program} {l : Launch} {e : Env} {s : State} {m : MethodId} {args : Array Value} {below : List Frame} {meth : Method} {c : Code} {D : va_G} {y : ClassId} {yS : ClassId × ClassId} {q : Nat → Nat} {n : Nat} {z : Int32 × mSt} {u : Nat} (hu : u < 2) (X : cX p s m args c cX6_demandsOf 8 wsX6_demandsOf RX6 D y yS) (hr : meth.sig.returnType = some .int ∧ meth.locks = false) : ∀ (j : Nat) (a3 : Int32) (a4 : Int32) (a5 : Int32) (I : Nat → Int32) (R : Nat → Nat → Int32) (H : Heap) (locs : List Loc) (ls : Array Slot), cH s D y yS q H locs I R → lv_has ls 8 [(0, .ref (q (100 + 100 * u))), (3, .int a3), (4, .int a4), (5, .int a5)] → fX6_demandsOf_b14 n u j a3 a4 a5 I R = some z → W p l e rmX6_demandsOf s m args below meth c H locs 0 0 (MQ below (cQi D y yS q (cS y yS q s.heap.size) z) args s 0 0 (cS y yS q s.heap.size)) (F0 m 14 ls []) := by
  have hx := X.1.1
  have hb := X.1.2.1
  intro j
  induction j with
  | zero =>
    intro a3 a4 a5 I R H locs ls w hl e0
    cases e0
  | succ j ih =>
    intro a3 a4 a5 I R H locs ls w hl e0
    rw [fX6_demandsOf_b14] at e0
    refine lv_iload hx hb dX6_demandsOf_14 (lv_at hl 3 rfl) ?_
    refine lv_bipush (v := 16) hx hb dX6_demandsOf_16 (by decide) ?_
    refine lv_icmp_gt (tgt := 84) hx hb dX6_demandsOf_18 (by decide) (fun c2 => ?_) (fun c2 => ?_)
    · have e0 := itp _ c2 e0
      refine lv_iload_n hx hb dX6_demandsOf_84 rfl (lv_at hl 1 rfl) ?_
      have e0 := Option.some.inj e0
      subst e0
      exact c_iret X w hr dX6_demandsOf_85
    · have e0 := itn _ c2 e0
      refine lv_iload hx hb dX6_demandsOf_21 (lv_at hl 2 rfl) ?_
      refine lv_if_eq (tgt := 84) hx hb dX6_demandsOf_23 (by decide) (fun c1 => ?_) (fun c1 => ?_)
      · have e0 := itp _ c1 e0
        refine lv_iload_n hx hb dX6_demandsOf_84 rfl (lv_at hl 1 rfl) ?_
        have e0 := Option.some.inj e0
        subst e0
        exact c_iret X w hr dX6_demandsOf_85
      · have e0 := itn _ c1 e0
        refine lv_iload_n hx hb dX6_demandsOf_26 rfl (lv_at hl 1 rfl) ?_
        refine lv_istore (lv' := [(6, .int a3), (0, .ref (q (100 + 100 * u))), (3, .int a3), (4, .int a4), (5, .int a5)]) hx hb dX6_demandsOf_27 hl (by decide) rfl (fun ls hl => ?_)
        refine lv_iconst (v := 0) hx hb dX6_demandsOf_29 (by decide) ?_
        refine lv_istore (lv' := [(7, .int 0), (6, .int a3), (0, .ref (q (100 + 100 * u))), (3, .int a3), (4, .int a4), (5, .int a5)]) hx hb dX6_demandsOf_30 hl (by decide) rfl (fun ls hl => ?_)
        exact fX6_demandsOf_b32_w (l := l) hu X hr ih n _ _ _ _ _ _ _ _ _ w (lv_sub hl [2, 3, 5, 1, 0] rfl) e0
def fX6_demandsOf (n : Nat) (u : Nat) (a1 : Int32) (a2 : Int32) (I : Nat → Int32) (R : Nat → Nat → Int32) : Option (Int32 × mSt) :=
  fX6_demandsOf_b14 n u n (1 <<< (((4 * a1) + a2) &&& 31)) 1 0 I R
set_option maxRecDepth 20000 in
set_option maxHeartbeats 2000000 in
theorem fX6_demandsOf_w {p : Program} {l : Launch} {e : Env} {s : State} {m : MethodId} {args : Array Value} {below : List Frame} {meth : Method} {c : Code} {D : va_G} {y : ClassId} {yS : ClassId × ClassId} {q : Nat → Nat} {n : Nat} {z : Int32 × mSt} {u : Nat} (hu : u < 2) (X : cX p s m args c cX6_demandsOf 8 wsX6_demandsOf RX6 D y yS) (hr : meth.sig.returnType = some .int ∧ meth.locks = false) {a1 : Int32} {a2 : Int32} {I : Nat → Int32} {R : Nat → Nat → Int32} {H : Heap} {locs : List Loc} {ls : Array Slot} (w : cH s D y yS q H locs I R) (hl : lv_has ls 8 [(0, .ref (q (100 + 100 * u))), (1, .int a1), (2, .int a2)]) (e0 : fX6_demandsOf n u a1 a2 I R = some z) : W p l e rmX6_demandsOf s m args below meth c H locs 0 0 (MQ below (cQi D y yS q (cS y yS q s.heap.size) z) args s 0 0 (cS y yS q s.heap.size)) (F0 m 0 ls []) := by
  have hx := X.1.1
  have hb := X.1.2.1
  unfold fX6_demandsOf at e0
  refine lv_iconst (v := 1) hx hb dX6_demandsOf_0 (by decide) ?_
  refine lv_iconst (v := 4) hx hb dX6_demandsOf_1 (by decide) ?_
  refine lv_iload_n hx hb dX6_demandsOf_2 rfl (lv_at hl 1 rfl) ?_
  refine lv_imul hx hb dX6_demandsOf_3 ?_
  refine lv_iload_n hx hb dX6_demandsOf_4 rfl (lv_at hl 2 rfl) ?_
  refine lv_iadd hx hb dX6_demandsOf_5 ?_
  refine lv_ishl hx hb dX6_demandsOf_6 ?_
  refine lv_istore_n (lv' := [(3, .int (1 <<< (((4 * a1) + a2) &&& 31))), (0, .ref (q (100 + 100 * u))), (1, .int a1), (2, .int a2)]) hx hb dX6_demandsOf_7 rfl hl (by decide) rfl (fun ls hl => ?_)
  refine lv_iconst (v := 1) hx hb dX6_demandsOf_8 (by decide) ?_
  refine lv_istore (lv' := [(4, .int 1), (3, .int (1 <<< (((4 * a1) + a2) &&& 31))), (0, .ref (q (100 + 100 * u))), (1, .int a1), (2, .int a2)]) hx hb dX6_demandsOf_9 hl (by decide) rfl (fun ls hl => ?_)
  refine lv_iconst (v := 0) hx hb dX6_demandsOf_11 (by decide) ?_
  refine lv_istore (lv' := [(5, .int 0), (4, .int 1), (3, .int (1 <<< (((4 * a1) + a2) &&& 31))), (0, .ref (q (100 + 100 * u))), (1, .int a1), (2, .int a2)]) hx hb dX6_demandsOf_12 hl (by decide) rfl (fun ls hl => ?_)
  exact fX6_demandsOf_b14_w (l := l) hu X hr n _ _ _ _ _ _ _ _ w (lv_sub hl [3, 2, 1, 0] rfl) e0
set_option maxRecDepth 20000 in
theorem fX6_demandsOf_met (l : Launch) (D : va_G) (y : ClassId) (yS : ClassId × ClassId) (q : Nat → Nat) (sz n : Nat) (u : Nat) (hu : u < 2) (a1 : Int32) (a2 : Int32) (I : Nat → Int32) (R : Nat → Nat → Int32) (z : Int32 × mSt) (e0 : fX6_demandsOf n u a1 a2 I R = some z) : Met l yX6_demandsOf wsX6_demandsOf rmX6_demandsOf (va_Pc [.ref (q (100 + 100 * u)), .int a1, .int a2] (cPre D y yS q sz I R)) (cQi D y yS q (cS y yS q sz) z) 0 0 (cS y yS q sz) := by
  refine Met.ofW (cc := cX6_demandsOf) (maxL := 8) (ret := some .int) (by decide) rfl ?_
  intro p e s m args below meth c s₁ B hml hv
  obtain ⟨rfl, hsz, hP, hK, hN, hD⟩ := hv
  subst hsz
  have hl := lv_entry ([.ref (q (100 + 100 * u)), .int a1, .int a2]) (n := 8) (Nat.le_of_ble_eq_true rfl)
  rw [lg_entry_eq]
  exact fX6_demandsOf_w (s := s) hu ⟨⟨B.exec, B.bytes, hml, findClass_of_methodNamed B.named, atoms_spec (ws := wsX6_demandsOf) B.pre⟩, hK, hN⟩ ⟨B.returns, B.notSynchronized⟩ ⟨hP, cS_D hD, va_S.rf⟩ hl e0
def rmX7_isSheet : Room := { frames := 0, cells := 0, slots := 0, locals := 0 }
def fX7_isSheet (n : Nat) (a0 : Int32) : Option (Int32) :=
  if a0 < 0 then
    some 0
  else
    if 4 ≤ a0 then
      some 0
    else
      some 1
set_option maxRecDepth 20000 in
set_option maxHeartbeats 2000000 in
theorem fX7_isSheet_w {p : Program} {l : Launch} {e : Env} {s : State} {m : MethodId} {args : Array Value} {below : List Frame} {meth : Method} {c : Code} {n : Nat} {z : Int32} (X : tX p s m args c cX7_isSheet 1 wsX7_isSheet RX7) (hr : meth.sig.returnType = some .boolean ∧ meth.locks = false) {a0 : Int32} {H : Heap} {locs : List Loc} {ls : Array Slot} (w : sH s H locs) (hl : lv_has ls 1 [(0, .int a0)]) (e0 : fX7_isSheet n a0 = some z) : W p l e rmX7_isSheet s m args below meth c H locs 0 0 (MQ below (sQi z) args s 0 0 (fun _ => False)) (F0 m 0 ls []) := by
  have hx := X.1.1
  have hb := X.1.2.1
  unfold fX7_isSheet at e0
  refine lv_iload_n hx hb dX7_isSheet_0 rfl (lv_at hl 0 rfl) ?_
  refine lv_if_lt (tgt := 13) hx hb dX7_isSheet_1 (by decide) (fun c2 => ?_) (fun c2 => ?_)
  · have e0 := itp _ c2 e0
    refine lv_iconst (v := 0) hx hb dX7_isSheet_13 (by decide) ?_
    have e0 := Option.some.inj e0
    subst e0
    exact t_zret X w hr rfl dX7_isSheet_14
  · have e0 := itn _ c2 e0
    refine lv_iload_n hx hb dX7_isSheet_4 rfl (lv_at hl 0 rfl) ?_
    refine lv_iconst (v := 4) hx hb dX7_isSheet_5 (by decide) ?_
    refine lv_icmp_ge (tgt := 13) hx hb dX7_isSheet_6 (by decide) (fun c1 => ?_) (fun c1 => ?_)
    · have e0 := itp _ c1 e0
      refine lv_iconst (v := 0) hx hb dX7_isSheet_13 (by decide) ?_
      have e0 := Option.some.inj e0
      subst e0
      exact t_zret X w hr rfl dX7_isSheet_14
    · have e0 := itn _ c1 e0
      refine lv_iconst (v := 1) hx hb dX7_isSheet_9 (by decide) ?_
      refine lv_goto (tgt := 14) hx hb dX7_isSheet_10 (by decide) ?_
      have e0 := Option.some.inj e0
      subst e0
      exact t_zret X w hr rfl dX7_isSheet_14
set_option maxRecDepth 20000 in
theorem fX7_isSheet_met (l : Launch) (n : Nat) (a0 : Int32) (z : Int32) (e0 : fX7_isSheet n a0 = some z) : Met l yX7_isSheet wsX7_isSheet rmX7_isSheet (va_Pc [.int a0] (fun U => cN U)) (sQi z) 0 0 (fun _ => False) := by
  refine Met.ofW (cc := cX7_isSheet) (maxL := 1) (ret := some .boolean) (by decide) rfl ?_
  intro p e s m args below meth c s₁ B hml hv
  obtain ⟨rfl, hN⟩ := hv
  have hl := lv_entry ([.int a0]) (n := 1) (Nat.le_of_ble_eq_true rfl)
  rw [lg_entry_eq]
  exact fX7_isSheet_w (s := s) ⟨⟨B.exec, B.bytes, hml, findClass_of_methodNamed B.named, atoms_spec (ws := wsX7_isSheet) B.pre⟩, hN⟩ ⟨B.returns, B.notSynchronized⟩ va_S.rf hl e0
def rmX7_isLane : Room := { frames := 0, cells := 0, slots := 0, locals := 0 }
def fX7_isLane (n : Nat) (a0 : Int32) : Option (Int32) :=
  if a0 < 0 then
    some 0
  else
    if 3 ≤ a0 then
      some 0
    else
      some 1
set_option maxRecDepth 20000 in
set_option maxHeartbeats 2000000 in
theorem fX7_isLane_w {p : Program} {l : Launch} {e : Env} {s : State} {m : MethodId} {args : Array Value} {below : List Frame} {meth : Method} {c : Code} {n : Nat} {z : Int32} (X : tX p s m args c cX7_isLane 1 wsX7_isLane RX7) (hr : meth.sig.returnType = some .boolean ∧ meth.locks = false) {a0 : Int32} {H : Heap} {locs : List Loc} {ls : Array Slot} (w : sH s H locs) (hl : lv_has ls 1 [(0, .int a0)]) (e0 : fX7_isLane n a0 = some z) : W p l e rmX7_isLane s m args below meth c H locs 0 0 (MQ below (sQi z) args s 0 0 (fun _ => False)) (F0 m 0 ls []) := by
  have hx := X.1.1
  have hb := X.1.2.1
  unfold fX7_isLane at e0
  refine lv_iload_n hx hb dX7_isLane_0 rfl (lv_at hl 0 rfl) ?_
  refine lv_if_lt (tgt := 13) hx hb dX7_isLane_1 (by decide) (fun c2 => ?_) (fun c2 => ?_)
  · have e0 := itp _ c2 e0
    refine lv_iconst (v := 0) hx hb dX7_isLane_13 (by decide) ?_
    have e0 := Option.some.inj e0
    subst e0
    exact t_zret X w hr rfl dX7_isLane_14
  · have e0 := itn _ c2 e0
    refine lv_iload_n hx hb dX7_isLane_4 rfl (lv_at hl 0 rfl) ?_
    refine lv_iconst (v := 3) hx hb dX7_isLane_5 (by decide) ?_
    refine lv_icmp_ge (tgt := 13) hx hb dX7_isLane_6 (by decide) (fun c1 => ?_) (fun c1 => ?_)
    · have e0 := itp _ c1 e0
      refine lv_iconst (v := 0) hx hb dX7_isLane_13 (by decide) ?_
      have e0 := Option.some.inj e0
      subst e0
      exact t_zret X w hr rfl dX7_isLane_14
    · have e0 := itn _ c1 e0
      refine lv_iconst (v := 1) hx hb dX7_isLane_9 (by decide) ?_
      refine lv_goto (tgt := 14) hx hb dX7_isLane_10 (by decide) ?_
      have e0 := Option.some.inj e0
      subst e0
      exact t_zret X w hr rfl dX7_isLane_14
set_option maxRecDepth 20000 in
theorem fX7_isLane_met (l : Launch) (n : Nat) (a0 : Int32) (z : Int32) (e0 : fX7_isLane n a0 = some z) : Met l yX7_isLane wsX7_isLane rmX7_isLane (va_Pc [.int a0] (fun U => cN U)) (sQi z) 0 0 (fun _ => False) := by
  refine Met.ofW (cc := cX7_isLane) (maxL := 1) (ret := some .boolean) (by decide) rfl ?_
  intro p e s m args below meth c s₁ B hml hv
  obtain ⟨rfl, hN⟩ := hv
  have hl := lv_entry ([.int a0]) (n := 1) (Nat.le_of_ble_eq_true rfl)
  rw [lg_entry_eq]
  exact fX7_isLane_w (s := s) ⟨⟨B.exec, B.bytes, hml, findClass_of_methodNamed B.named, atoms_spec (ws := wsX7_isLane) B.pre⟩, hN⟩ ⟨B.returns, B.notSynchronized⟩ va_S.rf hl e0
theorem in_X7_failed_X7 : ∀ w ∈ wsX70, w ∈ wsX7_failed := fun _ h9 => List.mem_cons_of_mem _ (List.mem_append_right _ h9)
def rmX7_failed : Room := { frames := 0, cells := 0, slots := 0, locals := 0 }
def fX7_failed (n : Nat) (a1 : Int32) (I : Nat → Int32) (R : Nat → Nat → Int32) : Option (Int32 × mSt) :=
  some (((-10) - a1), (upd I 9 a1), R)
set_option maxRecDepth 20000 in
set_option maxHeartbeats 2000000 in
theorem fX7_failed_w {p : Program} {l : Launch} {e : Env} {s : State} {m : MethodId} {args : Array Value} {below : List Frame} {meth : Method} {c : Code} {D : va_G} {y : ClassId} {yS : ClassId × ClassId} {q : Nat → Nat} {n : Nat} {z : Int32 × mSt} (X : cX p s m args c cX7_failed 2 wsX7_failed RX7 D y yS) (hr : meth.sig.returnType = some .int ∧ meth.locks = false) {a1 : Int32} {I : Nat → Int32} {R : Nat → Nat → Int32} {H : Heap} {locs : List Loc} {ls : Array Slot} (w : cH s D y yS q H locs I R) (hl : lv_has ls 2 [(0, .ref (q 0)), (1, .int a1)]) (e0 : fX7_failed n a1 I R = some z) : W p l e rmX7_failed s m args below meth c H locs 0 0 (MQ below (cQi D y yS q (cS y yS q s.heap.size) z) args s 0 0 (cS y yS q s.heap.size)) (F0 m 0 ls []) := by
  have hx := X.1.1
  have hb := X.1.2.1
  unfold fX7_failed at e0
  refine lv_aload_n hx hb dX7_failed_0 rfl (lv_at hl 0 rfl) ?_
  refine lv_iload_n hx hb dX7_failed_1 rfl (lv_at hl 1 rfl) ?_
  refine c_put X w (cat_RR _ _ _ _ _) rfl in_X7_failed_X7 tyX7 tyX7_ok nmX7 8 (by decide) (index := 42) (ty := .int) rfl (by decide +kernel) rfl (by decide +kernel) rfl rfl (Nat.le_of_ble_eq_true rfl) (cset_RR_8 _ _ _ _ _ _) dX7_failed_2 (fun H locs w => ?_)
  refine lv_bipush (v := (-10)) hx hb dX7_failed_5 (by decide) ?_
  refine lv_iload_n hx hb dX7_failed_7 rfl (lv_at hl 1 rfl) ?_
  refine lv_isub hx hb dX7_failed_8 ?_
  have e0 := Option.some.inj e0
  subst e0
  exact c_iret X w hr dX7_failed_9
set_option maxRecDepth 20000 in
theorem fX7_failed_met (l : Launch) (D : va_G) (y : ClassId) (yS : ClassId × ClassId) (q : Nat → Nat) (sz n : Nat) (a1 : Int32) (I : Nat → Int32) (R : Nat → Nat → Int32) (z : Int32 × mSt) (e0 : fX7_failed n a1 I R = some z) : Met l yX7_failed wsX7_failed rmX7_failed (va_Pc [.ref (q 0), .int a1] (cPre D y yS q sz I R)) (cQi D y yS q (cS y yS q sz) z) 0 0 (cS y yS q sz) := by
  refine Met.ofW (cc := cX7_failed) (maxL := 2) (ret := some .int) (by decide) rfl ?_
  intro p e s m args below meth c s₁ B hml hv
  obtain ⟨rfl, hsz, hP, hK, hN, hD⟩ := hv
  subst hsz
  have hl := lv_entry ([.ref (q 0), .int a1]) (n := 2) (Nat.le_of_ble_eq_true rfl)
  rw [lg_entry_eq]
  exact fX7_failed_w (s := s) ⟨⟨B.exec, B.bytes, hml, findClass_of_methodNamed B.named, atoms_spec (ws := wsX7_failed) B.pre⟩, hK, hN⟩ ⟨B.returns, B.notSynchronized⟩ ⟨hP, cS_D hD, va_S.rf⟩ hl e0
theorem in_X7_isRule_X7 : ∀ w ∈ wsX70, w ∈ wsX7_isRule := fun _ h9 => List.mem_cons_of_mem _ (List.mem_append_left _ (List.mem_append_left _ (List.mem_append_right _ h9)))
theorem in_X7_isRule_X6 : ∀ w ∈ wsX60, w ∈ wsX7_isRule := fun _ h9 => List.mem_cons_of_mem _ (List.mem_append_left _ (List.mem_append_right _ h9))
theorem in_X7_isRule_X2 : ∀ w ∈ wsX20, w ∈ wsX7_isRule := fun _ h9 => List.mem_cons_of_mem _ (List.mem_append_right _ h9)
def rmX7_isRule : Room := { frames := 0, cells := 0, slots := 0, locals := 0 }
def fX7_isRule (n : Nat) (a1 : Int32) (I : Nat → Int32) (R : Nat → Nat → Int32) : Option (Int32 × mSt) :=
  if a1 < 0 then
    some (0, I, R)
  else
    if (I (119 + 100 * 0)) ≤ a1 then
      some (0, I, R)
    else
      some (1, I, R)
set_option maxRecDepth 20000 in
set_option maxHeartbeats 2000000 in
theorem fX7_isRule_w {p : Program} {l : Launch} {e : Env} {s : State} {m : MethodId} {args : Array Value} {below : List Frame} {meth : Method} {c : Code} {D : va_G} {y : ClassId} {yS : ClassId × ClassId} {q : Nat → Nat} {n : Nat} {z : Int32 × mSt} (X : cX p s m args c cX7_isRule 2 wsX7_isRule RX7 D y yS) (hr : meth.sig.returnType = some .boolean ∧ meth.locks = false) {a1 : Int32} {I : Nat → Int32} {R : Nat → Nat → Int32} {H : Heap} {locs : List Loc} {ls : Array Slot} (w : cH s D y yS q H locs I R) (hl : lv_has ls 2 [(0, .ref (q 0)), (1, .int a1)]) (e0 : fX7_isRule n a1 I R = some z) : W p l e rmX7_isRule s m args below meth c H locs 0 0 (MQ below (cQi D y yS q (cS y yS q s.heap.size) z) args s 0 0 (cS y yS q s.heap.size)) (F0 m 0 ls []) := by
  have hx := X.1.1
  have hb := X.1.2.1
  unfold fX7_isRule at e0
  refine lv_iload_n hx hb dX7_isRule_0 rfl (lv_at hl 1 rfl) ?_
  refine lv_if_lt (tgt := 22) hx hb dX7_isRule_1 (by decide) (fun c2 => ?_) (fun c2 => ?_)
  · have e0 := itp _ c2 e0
    refine lv_iconst (v := 0) hx hb dX7_isRule_22 (by decide) ?_
    have e0 := Option.some.inj e0
    subst e0
    exact c_zret X w hr rfl dX7_isRule_23
  · have e0 := itn _ c2 e0
    refine lv_iload_n hx hb dX7_isRule_4 rfl (lv_at hl 1 rfl) ?_
    refine lv_aload_n hx hb dX7_isRule_5 rfl (lv_at hl 0 rfl) ?_
    refine c_get X w (cat_RR _ _ _ _ _) rfl in_X7_isRule_X7 1 (by decide) (index := 21) rfl (by decide +kernel) (cf_RR_1 _ _) dX7_isRule_6 ?_
    refine c_get X w (cat_WO _ _ _ _ _ 0 (by decide)) rfl in_X7_isRule_X6 0 (by decide) (index := 68) rfl (by decide +kernel) (cf_WO_0 _ _ _) dX7_isRule_9 ?_
    refine c_get X w (cat_PR _ _ _ _ _ 0 (by decide)) rfl in_X7_isRule_X2 8 (by decide) (index := 100) rfl (by decide +kernel) (cf_PR_8 _ _ _) dX7_isRule_12 ?_
    refine lv_icmp_ge (tgt := 22) hx hb dX7_isRule_15 (by decide) (fun c1 => ?_) (fun c1 => ?_)
    · have e0 := itp _ c1 e0
      refine lv_iconst (v := 0) hx hb dX7_isRule_22 (by decide) ?_
      have e0 := Option.some.inj e0
      subst e0
      exact c_zret X w hr rfl dX7_isRule_23
    · have e0 := itn _ c1 e0
      refine lv_iconst (v := 1) hx hb dX7_isRule_18 (by decide) ?_
      refine lv_goto (tgt := 23) hx hb dX7_isRule_19 (by decide) ?_
      have e0 := Option.some.inj e0
      subst e0
      exact c_zret X w hr rfl dX7_isRule_23
set_option maxRecDepth 20000 in
theorem fX7_isRule_met (l : Launch) (D : va_G) (y : ClassId) (yS : ClassId × ClassId) (q : Nat → Nat) (sz n : Nat) (a1 : Int32) (I : Nat → Int32) (R : Nat → Nat → Int32) (z : Int32 × mSt) (e0 : fX7_isRule n a1 I R = some z) : Met l yX7_isRule wsX7_isRule rmX7_isRule (va_Pc [.ref (q 0), .int a1] (cPre D y yS q sz I R)) (cQi D y yS q (cS y yS q sz) z) 0 0 (cS y yS q sz) := by
  refine Met.ofW (cc := cX7_isRule) (maxL := 2) (ret := some .boolean) (by decide) rfl ?_
  intro p e s m args below meth c s₁ B hml hv
  obtain ⟨rfl, hsz, hP, hK, hN, hD⟩ := hv
  subst hsz
  have hl := lv_entry ([.ref (q 0), .int a1]) (n := 2) (Nat.le_of_ble_eq_true rfl)
  rw [lg_entry_eq]
  exact fX7_isRule_w (s := s) ⟨⟨B.exec, B.bytes, hml, findClass_of_methodNamed B.named, atoms_spec (ws := wsX7_isRule) B.pre⟩, hK, hN⟩ ⟨B.returns, B.notSynchronized⟩ ⟨hP, cS_D hD, va_S.rf⟩ hl e0
theorem in_X7_ofRule_X7 : ∀ w ∈ wsX70, w ∈ wsX7_ofRule := fun _ h9 => List.mem_cons_of_mem _ (List.mem_append_left _ (List.mem_append_left _ (List.mem_append_right _ h9)))
theorem in_X7_ofRule_X6 : ∀ w ∈ wsX60, w ∈ wsX7_ofRule := fun _ h9 => List.mem_cons_of_mem _ (List.mem_append_left _ (List.mem_append_right _ h9))
theorem in_X7_ofRule_X2 : ∀ w ∈ wsX20, w ∈ wsX7_ofRule := fun _ h9 => List.mem_cons_of_mem _ (List.mem_append_right _ h9)
def rmX7_ofRule : Room := { frames := 1, cells := 0, slots := 0, locals := 21 }
def fX7_ofRule (n : Nat) (a1 : Int32) (a2 : Int32) (I : Nat → Int32) (R : Nat → Nat → Int32) : Option (Int32 × mSt) :=
  (fX7_isRule n a1 I R).bind fun z1 =>
  if z1.1 = 0 then
    some ((-1), z1.2.1, z1.2.2)
  else
    if a2 = 0 then
      if inb a1 5 = true then
      some ((getA z1.2.2 (111 + 100 * 0) a1), z1.2.1, z1.2.2)
      else none
    else
      if a2 = 1 then
        if inb a1 5 = true then
        some ((getA z1.2.2 (112 + 100 * 0) a1), z1.2.1, z1.2.2)
        else none
      else
        if a2 = 2 then
          (fX2_cost n 0 a1 z1.2.1 z1.2.2).bind fun z17 =>
          some (z17.1, z17.2.1, z17.2.2)
        else
          if a2 = 3 then
            if inb a1 5 = true then
            some ((getA z1.2.2 (113 + 100 * 0) a1), z1.2.1, z1.2.2)
            else none
          else
            if a2 = 4 then
              if inb a1 5 = true then
              some ((getA z1.2.2 (114 + 100 * 0) a1), z1.2.1, z1.2.2)
              else none
            else
              if a2 = 5 then
                if inb a1 5 = true then
                some ((getA z1.2.2 (115 + 100 * 0) a1), z1.2.1, z1.2.2)
                else none
              else
                if a2 = 6 then
                  (fX2_hasOther n 0 a1 z1.2.1 z1.2.2).bind fun z10 =>
                  if z10.1 = 0 then
                    some ((-9), z10.2.1, z10.2.2)
                  else
                    if inb a1 5 = true then
                    some ((getA z10.2.2 (116 + 100 * 0) a1), z10.2.1, z10.2.2)
                    else none
                else
                  some ((-2), z1.2.1, z1.2.2)
set_option maxRecDepth 20000 in
set_option maxHeartbeats 2000000 in
theorem fX7_ofRule_w {p : Program} {l : Launch} {e : Env} {s : State} {m : MethodId} {args : Array Value} {below : List Frame} {meth : Method} {c : Code} {D : va_G} {y : ClassId} {yS : ClassId × ClassId} {q : Nat → Nat} {n : Nat} {z : Int32 × mSt} (X : cX p s m args c cX7_ofRule 4 wsX7_ofRule RX7 D y yS) (hr : meth.sig.returnType = some .int ∧ meth.locks = false) {a1 : Int32} {a2 : Int32} {I : Nat → Int32} {R : Nat → Nat → Int32} {H : Heap} {locs : List Loc} {ls : Array Slot} (w : cH s D y yS q H locs I R) (hl : lv_has ls 4 [(0, .ref (q 0)), (1, .int a1), (2, .int a2)]) (e0 : fX7_ofRule n a1 a2 I R = some z) : W p l e rmX7_ofRule s m args below meth c H locs 0 0 (MQ below (cQi D y yS q (cS y yS q s.heap.size) z) args s 0 0 (cS y yS q s.heap.size)) (F0 m 0 ls []) := by
  have hx := X.1.1
  have hb := X.1.2.1
  unfold fX7_ofRule at e0
  refine lv_aload_n hx hb dX7_ofRule_0 rfl (lv_at hl 0 rfl) ?_
  refine lv_iload_n hx hb dX7_ofRule_1 rfl (lv_at hl 1 rfl) ?_
  refine bd e0 (fun z1 e2 e0 => ?_)
  refine c_calli X w (c_rec X w (cat_RR _ _ _ _ _) rfl) (n := 1) (As := [.int a1]) (rest := []) (fX7_isRule_met l _ _ _ _ _ _ _ _ _ _ e2) gX7_ofRule_X7_isRule rfl rfl rfl (by decide +kernel) ⟨Nat.le_of_ble_eq_true rfl, Nat.le_of_ble_eq_true rfl⟩ rfl hl.1 rfl (Nat.le_of_ble_eq_true rfl) dX7_ofRule_2 (fun H locs w => ?_)
  refine lv_if_ne (tgt := 10) hx hb dX7_ofRule_5 (by decide) (fun c21 => ?_) (fun c21 => ?_)
  · have e0 := itn _ c21 e0
    refine lv_aload_n hx hb dX7_ofRule_10 rfl (lv_at hl 0 rfl) ?_
    refine c_get X w (cat_RR _ _ _ _ _) rfl in_X7_ofRule_X7 1 (by decide) (index := 21) rfl (by decide +kernel) (cf_RR_1 _ _) dX7_ofRule_11 ?_
    refine c_get X w (cat_WO _ _ _ _ _ 0 (by decide)) rfl in_X7_ofRule_X6 0 (by decide) (index := 68) rfl (by decide +kernel) (cf_WO_0 _ _ _) dX7_ofRule_14 ?_
    refine lv_astore_n (lv' := [(3, .ref (q (110 + 100 * 0))), (0, .ref (q 0)), (1, .int a1), (2, .int a2)]) hx hb dX7_ofRule_17 rfl hl (by decide) rfl (fun ls hl => ?_)
    refine lv_iload_n hx hb dX7_ofRule_18 rfl (lv_at hl 3 rfl) ?_
    by_cases c3 : a2 = 0
    · have e0 := itp _ c3 e0
      refine lv_tableIn (off := 41) (tgt := 60) hx hb dX7_ofRule_19 (by rw [c3]; decide) (by rw [c3]; decide) (by rw [c3]; decide) (by decide) ?_
      refine lv_aload_n hx hb dX7_ofRule_60 rfl (lv_at hl 0 rfl) ?_
      refine c_get X w (cat_PR _ _ _ _ _ 0 (by decide)) rfl in_X7_ofRule_X2 0 (by decide) (index := 108) rfl (by decide +kernel) (cf_PR_0 _ _ _) dX7_ofRule_61 ?_
      refine lv_iload_n hx hb dX7_ofRule_64 rfl (lv_at hl 2 rfl) ?_
      refine gd e0 (fun g20 e0 => ?_)
      refine c_ald X w (cat_a111 _ _ _ _ _ 0 (by decide)) g20 dX7_ofRule_65 ?_
      have e0 := Option.some.inj e0
      subst e0
      exact c_iret X w hr dX7_ofRule_66
    · have e0 := itn _ c3 e0
      by_cases c4 : a2 = 1
      · have e0 := itp _ c4 e0
        refine lv_tableIn (off := 48) (tgt := 67) hx hb dX7_ofRule_19 (by rw [c4]; decide) (by rw [c4]; decide) (by rw [c4]; decide) (by decide) ?_
        refine lv_aload_n hx hb dX7_ofRule_67 rfl (lv_at hl 0 rfl) ?_
        refine c_get X w (cat_PR _ _ _ _ _ 0 (by decide)) rfl in_X7_ofRule_X2 1 (by decide) (index := 111) rfl (by decide +kernel) (cf_PR_1 _ _ _) dX7_ofRule_68 ?_
        refine lv_iload_n hx hb dX7_ofRule_71 rfl (lv_at hl 2 rfl) ?_
        refine gd e0 (fun g19 e0 => ?_)
        refine c_ald X w (cat_a112 _ _ _ _ _ 0 (by decide)) g19 dX7_ofRule_72 ?_
        have e0 := Option.some.inj e0
        subst e0
        exact c_iret X w hr dX7_ofRule_73
      · have e0 := itn _ c4 e0
        by_cases c5 : a2 = 2
        · have e0 := itp _ c5 e0
          refine lv_tableIn (off := 55) (tgt := 74) hx hb dX7_ofRule_19 (by rw [c5]; decide) (by rw [c5]; decide) (by rw [c5]; decide) (by decide) ?_
          refine lv_aload_n hx hb dX7_ofRule_74 rfl (lv_at hl 0 rfl) ?_
          refine lv_iload_n hx hb dX7_ofRule_75 rfl (lv_at hl 2 rfl) ?_
          refine bd e0 (fun z17 e18 e0 => ?_)
          refine c_calli X w (c_rec X w (cat_PR _ _ _ _ _ 0 (by decide)) rfl) (n := 1) (As := [.int a1]) (rest := []) (fX2_cost_met l _ _ _ _ _ _ _ (by decide) _ _ _ _ e18) gX7_ofRule_X2_cost rfl rfl rfl (by decide +kernel) ⟨Nat.le_of_ble_eq_true rfl, Nat.le_of_ble_eq_true rfl⟩ rfl hl.1 rfl (Nat.le_of_ble_eq_true rfl) dX7_ofRule_76 (fun H locs w => ?_)
          have e0 := Option.some.inj e0
          subst e0
          exact c_iret X w hr dX7_ofRule_79
        · have e0 := itn _ c5 e0
          by_cases c6 : a2 = 3
          · have e0 := itp _ c6 e0
            refine lv_tableIn (off := 61) (tgt := 80) hx hb dX7_ofRule_19 (by rw [c6]; decide) (by rw [c6]; decide) (by rw [c6]; decide) (by decide) ?_
            refine lv_aload_n hx hb dX7_ofRule_80 rfl (lv_at hl 0 rfl) ?_
            refine c_get X w (cat_PR _ _ _ _ _ 0 (by decide)) rfl in_X7_ofRule_X2 2 (by decide) (index := 117) rfl (by decide +kernel) (cf_PR_2 _ _ _) dX7_ofRule_81 ?_
            refine lv_iload_n hx hb dX7_ofRule_84 rfl (lv_at hl 2 rfl) ?_
            refine gd e0 (fun g16 e0 => ?_)
            refine c_ald X w (cat_a113 _ _ _ _ _ 0 (by decide)) g16 dX7_ofRule_85 ?_
            have e0 := Option.some.inj e0
            subst e0
            exact c_iret X w hr dX7_ofRule_86
          · have e0 := itn _ c6 e0
            by_cases c7 : a2 = 4
            · have e0 := itp _ c7 e0
              refine lv_tableIn (off := 68) (tgt := 87) hx hb dX7_ofRule_19 (by rw [c7]; decide) (by rw [c7]; decide) (by rw [c7]; decide) (by decide) ?_
              refine lv_aload_n hx hb dX7_ofRule_87 rfl (lv_at hl 0 rfl) ?_
              refine c_get X w (cat_PR _ _ _ _ _ 0 (by decide)) rfl in_X7_ofRule_X2 3 (by decide) (index := 120) rfl (by decide +kernel) (cf_PR_3 _ _ _) dX7_ofRule_88 ?_
              refine lv_iload_n hx hb dX7_ofRule_91 rfl (lv_at hl 2 rfl) ?_
              refine gd e0 (fun g15 e0 => ?_)
              refine c_ald X w (cat_a114 _ _ _ _ _ 0 (by decide)) g15 dX7_ofRule_92 ?_
              have e0 := Option.some.inj e0
              subst e0
              exact c_iret X w hr dX7_ofRule_93
            · have e0 := itn _ c7 e0
              by_cases c8 : a2 = 5
              · have e0 := itp _ c8 e0
                refine lv_tableIn (off := 75) (tgt := 94) hx hb dX7_ofRule_19 (by rw [c8]; decide) (by rw [c8]; decide) (by rw [c8]; decide) (by decide) ?_
                refine lv_aload_n hx hb dX7_ofRule_94 rfl (lv_at hl 0 rfl) ?_
                refine c_get X w (cat_PR _ _ _ _ _ 0 (by decide)) rfl in_X7_ofRule_X2 4 (by decide) (index := 123) rfl (by decide +kernel) (cf_PR_4 _ _ _) dX7_ofRule_95 ?_
                refine lv_iload_n hx hb dX7_ofRule_98 rfl (lv_at hl 2 rfl) ?_
                refine gd e0 (fun g14 e0 => ?_)
                refine c_ald X w (cat_a115 _ _ _ _ _ 0 (by decide)) g14 dX7_ofRule_99 ?_
                have e0 := Option.some.inj e0
                subst e0
                exact c_iret X w hr dX7_ofRule_100
              · have e0 := itn _ c8 e0
                by_cases c9 : a2 = 6
                · have e0 := itp _ c9 e0
                  refine lv_tableIn (off := 82) (tgt := 101) hx hb dX7_ofRule_19 (by rw [c9]; decide) (by rw [c9]; decide) (by rw [c9]; decide) (by decide) ?_
                  refine lv_aload_n hx hb dX7_ofRule_101 rfl (lv_at hl 0 rfl) ?_
                  refine lv_iload_n hx hb dX7_ofRule_102 rfl (lv_at hl 2 rfl) ?_
                  refine bd e0 (fun z10 e11 e0 => ?_)
                  refine c_calli X w (c_rec X w (cat_PR _ _ _ _ _ 0 (by decide)) rfl) (n := 1) (As := [.int a1]) (rest := []) (fX2_hasOther_met l _ _ _ _ _ _ _ (by decide) _ _ _ _ e11) gX7_ofRule_X2_hasOther rfl rfl rfl (by decide +kernel) ⟨Nat.le_of_ble_eq_true rfl, Nat.le_of_ble_eq_true rfl⟩ rfl hl.1 rfl (Nat.le_of_ble_eq_true rfl) dX7_ofRule_103 (fun H locs w => ?_)
                  refine lv_if_eq (tgt := 118) hx hb dX7_ofRule_106 (by decide) (fun c13 => ?_) (fun c13 => ?_)
                  · have e0 := itp _ c13 e0
                    refine lv_bipush (v := (-9)) hx hb dX7_ofRule_118 (by decide) ?_
                    have e0 := Option.some.inj e0
                    subst e0
                    exact c_iret X w hr dX7_ofRule_120
                  · have e0 := itn _ c13 e0
                    refine lv_aload_n hx hb dX7_ofRule_109 rfl (lv_at hl 0 rfl) ?_
                    refine c_get X w (cat_PR _ _ _ _ _ 0 (by decide)) rfl in_X7_ofRule_X2 5 (by decide) (index := 129) rfl (by decide +kernel) (cf_PR_5 _ _ _) dX7_ofRule_110 ?_
                    refine lv_iload_n hx hb dX7_ofRule_113 rfl (lv_at hl 2 rfl) ?_
                    refine gd e0 (fun g12 e0 => ?_)
                    refine c_ald X w (cat_a116 _ _ _ _ _ 0 (by decide)) g12 dX7_ofRule_114 ?_
                    refine lv_goto (tgt := 120) hx hb dX7_ofRule_115 (by decide) ?_
                    have e0 := Option.some.inj e0
                    subst e0
                    exact c_iret X w hr dX7_ofRule_120
                · have e0 := itn _ c9 e0
                  refine lv_tableOut (tgt := 121) hx hb dX7_ofRule_19 (by have hc3 := lv_neT c3 (a := 0) (by decide); have hc4 := lv_neT c4 (a := 1) (by decide); have hc5 := lv_neT c5 (a := 2) (by decide); have hc6 := lv_neT c6 (a := 3) (by decide); have hc7 := lv_neT c7 (a := 4) (by decide); have hc8 := lv_neT c8 (a := 5) (by decide); have hc9 := lv_neT c9 (a := 6) (by decide); omega) (by decide) ?_
                  refine lv_bipush (v := (-2)) hx hb dX7_ofRule_121 (by decide) ?_
                  have e0 := Option.some.inj e0
                  subst e0
                  exact c_iret X w hr dX7_ofRule_123
  · have e0 := itp _ c21 e0
    refine lv_iconst (v := (-1)) hx hb dX7_ofRule_8 (by decide) ?_
    have e0 := Option.some.inj e0
    subst e0
    exact c_iret X w hr dX7_ofRule_9
set_option maxRecDepth 20000 in
theorem fX7_ofRule_met (l : Launch) (D : va_G) (y : ClassId) (yS : ClassId × ClassId) (q : Nat → Nat) (sz n : Nat) (a1 : Int32) (a2 : Int32) (I : Nat → Int32) (R : Nat → Nat → Int32) (z : Int32 × mSt) (e0 : fX7_ofRule n a1 a2 I R = some z) : Met l yX7_ofRule wsX7_ofRule rmX7_ofRule (va_Pc [.ref (q 0), .int a1, .int a2] (cPre D y yS q sz I R)) (cQi D y yS q (cS y yS q sz) z) 0 0 (cS y yS q sz) := by
  refine Met.ofW (cc := cX7_ofRule) (maxL := 4) (ret := some .int) (by decide) rfl ?_
  intro p e s m args below meth c s₁ B hml hv
  obtain ⟨rfl, hsz, hP, hK, hN, hD⟩ := hv
  subst hsz
  have hl := lv_entry ([.ref (q 0), .int a1, .int a2]) (n := 4) (Nat.le_of_ble_eq_true rfl)
  rw [lg_entry_eq]
  exact fX7_ofRule_w (s := s) ⟨⟨B.exec, B.bytes, hml, findClass_of_methodNamed B.named, atoms_spec (ws := wsX7_ofRule) B.pre⟩, hK, hN⟩ ⟨B.returns, B.notSynchronized⟩ ⟨hP, cS_D hD, va_S.rf⟩ hl e0
theorem in_X7_isRelation_X7 : ∀ w ∈ wsX70, w ∈ wsX7_isRelation := fun _ h9 => List.mem_cons_of_mem _ (List.mem_append_left _ (List.mem_append_left _ (List.mem_append_right _ h9)))
theorem in_X7_isRelation_X6 : ∀ w ∈ wsX60, w ∈ wsX7_isRelation := fun _ h9 => List.mem_cons_of_mem _ (List.mem_append_left _ (List.mem_append_right _ h9))
theorem in_X7_isRelation_X2 : ∀ w ∈ wsX20, w ∈ wsX7_isRelation := fun _ h9 => List.mem_cons_of_mem _ (List.mem_append_right _ h9)
def rmX7_isRelation : Room := { frames := 0, cells := 0, slots := 0, locals := 0 }
def fX7_isRelation (n : Nat) (a1 : Int32) (I : Nat → Int32) (R : Nat → Nat → Int32) : Option (Int32 × mSt) :=
  if a1 < 0 then
    some (0, I, R)
  else
    if (I (118 + 100 * 0)) ≤ a1 then
      some (0, I, R)
    else
      some (1, I, R)
set_option maxRecDepth 20000 in
set_option maxHeartbeats 2000000 in
theorem fX7_isRelation_w {p : Program} {l : Launch} {e : Env} {s : State} {m : MethodId} {args : Array Value} {below : List Frame} {meth : Method} {c : Code} {D : va_G} {y : ClassId} {yS : ClassId × ClassId} {q : Nat → Nat} {n : Nat} {z : Int32 × mSt} (X : cX p s m args c cX7_isRelation 2 wsX7_isRelation RX7 D y yS) (hr : meth.sig.returnType = some .boolean ∧ meth.locks = false) {a1 : Int32} {I : Nat → Int32} {R : Nat → Nat → Int32} {H : Heap} {locs : List Loc} {ls : Array Slot} (w : cH s D y yS q H locs I R) (hl : lv_has ls 2 [(0, .ref (q 0)), (1, .int a1)]) (e0 : fX7_isRelation n a1 I R = some z) : W p l e rmX7_isRelation s m args below meth c H locs 0 0 (MQ below (cQi D y yS q (cS y yS q s.heap.size) z) args s 0 0 (cS y yS q s.heap.size)) (F0 m 0 ls []) := by
  have hx := X.1.1
  have hb := X.1.2.1
  unfold fX7_isRelation at e0
  refine lv_iload_n hx hb dX7_isRelation_0 rfl (lv_at hl 1 rfl) ?_
  refine lv_if_lt (tgt := 22) hx hb dX7_isRelation_1 (by decide) (fun c2 => ?_) (fun c2 => ?_)
  · have e0 := itp _ c2 e0
    refine lv_iconst (v := 0) hx hb dX7_isRelation_22 (by decide) ?_
    have e0 := Option.some.inj e0
    subst e0
    exact c_zret X w hr rfl dX7_isRelation_23
  · have e0 := itn _ c2 e0
    refine lv_iload_n hx hb dX7_isRelation_4 rfl (lv_at hl 1 rfl) ?_
    refine lv_aload_n hx hb dX7_isRelation_5 rfl (lv_at hl 0 rfl) ?_
    refine c_get X w (cat_RR _ _ _ _ _) rfl in_X7_isRelation_X7 1 (by decide) (index := 21) rfl (by decide +kernel) (cf_RR_1 _ _) dX7_isRelation_6 ?_
    refine c_get X w (cat_WO _ _ _ _ _ 0 (by decide)) rfl in_X7_isRelation_X6 0 (by decide) (index := 68) rfl (by decide +kernel) (cf_WO_0 _ _ _) dX7_isRelation_9 ?_
    refine c_get X w (cat_PR _ _ _ _ _ 0 (by decide)) rfl in_X7_isRelation_X2 7 (by decide) (index := 236) rfl (by decide +kernel) (cf_PR_7 _ _ _) dX7_isRelation_12 ?_
    refine lv_icmp_ge (tgt := 22) hx hb dX7_isRelation_15 (by decide) (fun c1 => ?_) (fun c1 => ?_)
    · have e0 := itp _ c1 e0
      refine lv_iconst (v := 0) hx hb dX7_isRelation_22 (by decide) ?_
      have e0 := Option.some.inj e0
      subst e0
      exact c_zret X w hr rfl dX7_isRelation_23
    · have e0 := itn _ c1 e0
      refine lv_iconst (v := 1) hx hb dX7_isRelation_18 (by decide) ?_
      refine lv_goto (tgt := 23) hx hb dX7_isRelation_19 (by decide) ?_
      have e0 := Option.some.inj e0
      subst e0
      exact c_zret X w hr rfl dX7_isRelation_23
set_option maxRecDepth 20000 in
theorem fX7_isRelation_met (l : Launch) (D : va_G) (y : ClassId) (yS : ClassId × ClassId) (q : Nat → Nat) (sz n : Nat) (a1 : Int32) (I : Nat → Int32) (R : Nat → Nat → Int32) (z : Int32 × mSt) (e0 : fX7_isRelation n a1 I R = some z) : Met l yX7_isRelation wsX7_isRelation rmX7_isRelation (va_Pc [.ref (q 0), .int a1] (cPre D y yS q sz I R)) (cQi D y yS q (cS y yS q sz) z) 0 0 (cS y yS q sz) := by
  refine Met.ofW (cc := cX7_isRelation) (maxL := 2) (ret := some .boolean) (by decide) rfl ?_
  intro p e s m args below meth c s₁ B hml hv
  obtain ⟨rfl, hsz, hP, hK, hN, hD⟩ := hv
  subst hsz
  have hl := lv_entry ([.ref (q 0), .int a1]) (n := 2) (Nat.le_of_ble_eq_true rfl)
  rw [lg_entry_eq]
  exact fX7_isRelation_w (s := s) ⟨⟨B.exec, B.bytes, hml, findClass_of_methodNamed B.named, atoms_spec (ws := wsX7_isRelation) B.pre⟩, hK, hN⟩ ⟨B.returns, B.notSynchronized⟩ ⟨hP, cS_D hD, va_S.rf⟩ hl e0
theorem in_X7_ofRelation_X7 : ∀ w ∈ wsX70, w ∈ wsX7_ofRelation := fun _ h9 => List.mem_cons_of_mem _ (List.mem_append_left _ (List.mem_append_left _ (List.mem_append_left _ (List.mem_append_left _ (List.mem_append_left _ (List.mem_append_right _ h9))))))
theorem in_X7_ofRelation_X6 : ∀ w ∈ wsX60, w ∈ wsX7_ofRelation := fun _ h9 => List.mem_cons_of_mem _ (List.mem_append_left _ (List.mem_append_left _ (List.mem_append_left _ (List.mem_append_left _ (List.mem_append_right _ h9)))))
theorem in_X7_ofRelation_X1 : ∀ w ∈ wsX10, w ∈ wsX7_ofRelation := fun _ h9 => List.mem_cons_of_mem _ (List.mem_append_left _ (List.mem_append_left _ (List.mem_append_left _ (List.mem_append_right _ h9))))
theorem in_X7_ofRelation_X3 : ∀ w ∈ wsX30, w ∈ wsX7_ofRelation := fun _ h9 => List.mem_cons_of_mem _ (List.mem_append_left _ (List.mem_append_left _ (List.mem_append_right _ h9)))
theorem in_X7_ofRelation_X2 : ∀ w ∈ wsX20, w ∈ wsX7_ofRelation := fun _ h9 => List.mem_cons_of_mem _ (List.mem_append_left _ (List.mem_append_right _ h9))
theorem in_X7_ofRelation_X0 : ∀ w ∈ wsX00, w ∈ wsX7_ofRelation := fun _ h9 => List.mem_cons_of_mem _ (List.mem_append_right _ h9)
def rmX7_ofRelation : Room := { frames := 6, cells := 0, slots := 0, locals := 133 }
def fX7_ofRelation (n : Nat) (a1 : Int32) (a2 : Int32) (I : Nat → Int32) (R : Nat → Nat → Int32) : Option (Int32 × mSt) :=
  (fX7_isRelation n a1 I R).bind fun z1 =>
  if z1.1 = 0 then
    some ((-1), z1.2.1, z1.2.2)
  else
    (fX6_settle n 0 z1.2.1 z1.2.2).bind fun z3 =>
    if a2 = 0 then
      if inb a1 4 = true then
      some ((getA z3.2 (132 + 100 * 0) a1), z3.1, z3.2)
      else none
    else
      if a2 = 1 then
        if inb a1 4 = true then
        (fJ6_bitCount_0f7a4 n (getA z3.2 (143 + 100 * 0) a1)).bind fun z15 =>
        some (z15, z3.1, z3.2)
        else none
      else
        if a2 = 2 then
          if inb a1 4 = true then
          (fJ6_bitCount_0f7a4 n (getA z3.2 (117 + 100 * 0) a1)).bind fun z12 =>
          some (z12, z3.1, z3.2)
          else none
        else
          if a2 = 3 then
            (fX2_rulesOfHead n 0 a1 z3.1 z3.2).bind fun z9 =>
            some (z9.1, z9.2.1, z9.2.2)
          else
            some ((-2), z3.1, z3.2)
set_option maxRecDepth 20000 in
set_option maxHeartbeats 2000000 in
theorem fX7_ofRelation_w {p : Program} {l : Launch} {e : Env} {s : State} {m : MethodId} {args : Array Value} {below : List Frame} {meth : Method} {c : Code} {D : va_G} {y : ClassId} {yS : ClassId × ClassId} {q : Nat → Nat} {n : Nat} {z : Int32 × mSt} (X : cX p s m args c cX7_ofRelation 3 wsX7_ofRelation RX7 D y yS) (hr : meth.sig.returnType = some .int ∧ meth.locks = false) {a1 : Int32} {a2 : Int32} {I : Nat → Int32} {R : Nat → Nat → Int32} {H : Heap} {locs : List Loc} {ls : Array Slot} (w : cH s D y yS q H locs I R) (hl : lv_has ls 3 [(0, .ref (q 0)), (1, .int a1), (2, .int a2)]) (e0 : fX7_ofRelation n a1 a2 I R = some z) : W p l e rmX7_ofRelation s m args below meth c H locs 0 0 (MQ below (cQi D y yS q (cS y yS q s.heap.size) z) args s 0 0 (cS y yS q s.heap.size)) (F0 m 0 ls []) := by
  have hx := X.1.1
  have hb := X.1.2.1
  unfold fX7_ofRelation at e0
  refine lv_aload_n hx hb dX7_ofRelation_0 rfl (lv_at hl 0 rfl) ?_
  refine lv_iload_n hx hb dX7_ofRelation_1 rfl (lv_at hl 1 rfl) ?_
  refine bd e0 (fun z1 e2 e0 => ?_)
  refine c_calli X w (c_rec X w (cat_RR _ _ _ _ _) rfl) (n := 1) (As := [.int a1]) (rest := []) (fX7_isRelation_met l _ _ _ _ _ _ _ _ _ _ e2) gX7_ofRelation_X7_isRelation rfl rfl rfl (by decide +kernel) ⟨Nat.le_of_ble_eq_true rfl, Nat.le_of_ble_eq_true rfl⟩ rfl hl.1 rfl (Nat.le_of_ble_eq_true rfl) dX7_ofRelation_2 (fun H locs w => ?_)
  refine lv_if_ne (tgt := 10) hx hb dX7_ofRelation_5 (by decide) (fun c18 => ?_) (fun c18 => ?_)
  · have e0 := itn _ c18 e0
    refine lv_aload_n hx hb dX7_ofRelation_10 rfl (lv_at hl 0 rfl) ?_
    refine c_get X w (cat_RR _ _ _ _ _) rfl in_X7_ofRelation_X7 1 (by decide) (index := 21) rfl (by decide +kernel) (cf_RR_1 _ _) dX7_ofRelation_11 ?_
    refine bd e0 (fun z3 e4 e0 => ?_)
    refine c_callv X w (c_rec X w (cat_WO _ _ _ _ _ 0 (by decide)) rfl) (n := 0) (As := []) (rest := []) (fX6_settle_met l _ _ _ _ _ _ _ (by decide)  _ _ _ e4) gX7_ofRelation_X6_settle rfl rfl rfl (by decide +kernel) ⟨Nat.le_of_ble_eq_true rfl, Nat.le_of_ble_eq_true rfl⟩ rfl hl.1 rfl (Nat.le_of_ble_eq_true rfl) dX7_ofRelation_14 (fun H locs w => ?_)
    refine lv_iload_n hx hb dX7_ofRelation_17 rfl (lv_at hl 2 rfl) ?_
    by_cases c5 : a2 = 0
    · have e0 := itp _ c5 e0
      refine lv_tableIn (off := 30) (tgt := 48) hx hb dX7_ofRelation_18 (by rw [c5]; decide) (by rw [c5]; decide) (by rw [c5]; decide) (by decide) ?_
      refine lv_aload_n hx hb dX7_ofRelation_48 rfl (lv_at hl 0 rfl) ?_
      refine c_get X w (cat_RR _ _ _ _ _) rfl in_X7_ofRelation_X7 1 (by decide) (index := 21) rfl (by decide +kernel) (cf_RR_1 _ _) dX7_ofRelation_49 ?_
      refine c_get X w (cat_WO _ _ _ _ _ 0 (by decide)) rfl in_X7_ofRelation_X6 1 (by decide) (index := 79) rfl (by decide +kernel) (cf_WO_1 _ _ _) dX7_ofRelation_52 ?_
      refine c_get X w (cat_LA _ _ _ _ _ 0 (by decide)) rfl in_X7_ofRelation_X1 1 (by decide) (index := 138) rfl (by decide +kernel) (cf_LA_1 _ _ _) dX7_ofRelation_55 ?_
      refine lv_iload_n hx hb dX7_ofRelation_58 rfl (lv_at hl 1 rfl) ?_
      refine gd e0 (fun g17 e0 => ?_)
      refine c_ald X w (cat_a132 _ _ _ _ _ 0 (by decide)) g17 dX7_ofRelation_59 ?_
      have e0 := Option.some.inj e0
      subst e0
      exact c_iret X w hr dX7_ofRelation_60
    · have e0 := itn _ c5 e0
      by_cases c6 : a2 = 1
      · have e0 := itp _ c6 e0
        refine lv_tableIn (off := 43) (tgt := 61) hx hb dX7_ofRelation_18 (by rw [c6]; decide) (by rw [c6]; decide) (by rw [c6]; decide) (by decide) ?_
        refine lv_aload_n hx hb dX7_ofRelation_61 rfl (lv_at hl 0 rfl) ?_
        refine c_get X w (cat_RR _ _ _ _ _) rfl in_X7_ofRelation_X7 1 (by decide) (index := 21) rfl (by decide +kernel) (cf_RR_1 _ _) dX7_ofRelation_62 ?_
        refine c_get X w (cat_WO _ _ _ _ _ 0 (by decide)) rfl in_X7_ofRelation_X6 2 (by decide) (index := 141) rfl (by decide +kernel) (cf_WO_2 _ _ _) dX7_ofRelation_65 ?_
        refine c_get X w (cat_RO _ _ _ _ _ 0 (by decide)) rfl in_X7_ofRelation_X3 2 (by decide) (index := 145) rfl (by decide +kernel) (cf_RO_2 _ _ _) dX7_ofRelation_68 ?_
        refine lv_iload_n hx hb dX7_ofRelation_71 rfl (lv_at hl 1 rfl) ?_
        refine gd e0 (fun g14 e0 => ?_)
        refine c_ald X w (cat_a143 _ _ _ _ _ 0 (by decide)) g14 dX7_ofRelation_72 ?_
        refine bd e0 (fun z15 e16 e0 => ?_)
        refine c_callsi X w (n := 1) (As := [.int (getA z3.2 (143 + 100 * 0) a1)]) (rest := []) (fJ6_bitCount_0f7a4_met l _ _ _ e16) gX7_ofRelation_J6_bitCount_0f7a4 rfl rfl rfl (by decide +kernel) ⟨Nat.le_of_ble_eq_true rfl, Nat.le_of_ble_eq_true rfl⟩ rfl hl.1 rfl (Nat.le_of_ble_eq_true rfl) dX7_ofRelation_73 (fun H locs w => ?_)
        have e0 := Option.some.inj e0
        subst e0
        exact c_iret X w hr dX7_ofRelation_76
      · have e0 := itn _ c6 e0
        by_cases c7 : a2 = 2
        · have e0 := itp _ c7 e0
          refine lv_tableIn (off := 59) (tgt := 77) hx hb dX7_ofRelation_18 (by rw [c7]; decide) (by rw [c7]; decide) (by rw [c7]; decide) (by decide) ?_
          refine lv_aload_n hx hb dX7_ofRelation_77 rfl (lv_at hl 0 rfl) ?_
          refine c_get X w (cat_RR _ _ _ _ _) rfl in_X7_ofRelation_X7 1 (by decide) (index := 21) rfl (by decide +kernel) (cf_RR_1 _ _) dX7_ofRelation_78 ?_
          refine c_get X w (cat_WO _ _ _ _ _ 0 (by decide)) rfl in_X7_ofRelation_X6 0 (by decide) (index := 68) rfl (by decide +kernel) (cf_WO_0 _ _ _) dX7_ofRelation_81 ?_
          refine c_get X w (cat_PR _ _ _ _ _ 0 (by decide)) rfl in_X7_ofRelation_X2 6 (by decide) (index := 155) rfl (by decide +kernel) (cf_PR_6 _ _ _) dX7_ofRelation_84 ?_
          refine lv_iload_n hx hb dX7_ofRelation_87 rfl (lv_at hl 1 rfl) ?_
          refine gd e0 (fun g11 e0 => ?_)
          refine c_ald X w (cat_a117 _ _ _ _ _ 0 (by decide)) g11 dX7_ofRelation_88 ?_
          refine bd e0 (fun z12 e13 e0 => ?_)
          refine c_callsi X w (n := 1) (As := [.int (getA z3.2 (117 + 100 * 0) a1)]) (rest := []) (fJ6_bitCount_0f7a4_met l _ _ _ e13) gX7_ofRelation_J6_bitCount_0f7a4 rfl rfl rfl (by decide +kernel) ⟨Nat.le_of_ble_eq_true rfl, Nat.le_of_ble_eq_true rfl⟩ rfl hl.1 rfl (Nat.le_of_ble_eq_true rfl) dX7_ofRelation_89 (fun H locs w => ?_)
          have e0 := Option.some.inj e0
          subst e0
          exact c_iret X w hr dX7_ofRelation_92
        · have e0 := itn _ c7 e0
          by_cases c8 : a2 = 3
          · have e0 := itp _ c8 e0
            refine lv_tableIn (off := 75) (tgt := 93) hx hb dX7_ofRelation_18 (by rw [c8]; decide) (by rw [c8]; decide) (by rw [c8]; decide) (by decide) ?_
            refine lv_aload_n hx hb dX7_ofRelation_93 rfl (lv_at hl 0 rfl) ?_
            refine c_get X w (cat_RR _ _ _ _ _) rfl in_X7_ofRelation_X7 1 (by decide) (index := 21) rfl (by decide +kernel) (cf_RR_1 _ _) dX7_ofRelation_94 ?_
            refine c_get X w (cat_WO _ _ _ _ _ 0 (by decide)) rfl in_X7_ofRelation_X6 0 (by decide) (index := 68) rfl (by decide +kernel) (cf_WO_0 _ _ _) dX7_ofRelation_97 ?_
            refine lv_iload_n hx hb dX7_ofRelation_100 rfl (lv_at hl 1 rfl) ?_
            refine bd e0 (fun z9 e10 e0 => ?_)
            refine c_calli X w (c_rec X w (cat_PR _ _ _ _ _ 0 (by decide)) rfl) (n := 1) (As := [.int a1]) (rest := []) (fX2_rulesOfHead_met l _ _ _ _ _ _ _ (by decide) _ _ _ _ e10) gX7_ofRelation_X2_rulesOfHead rfl rfl rfl (by decide +kernel) ⟨Nat.le_of_ble_eq_true rfl, Nat.le_of_ble_eq_true rfl⟩ rfl hl.1 rfl (Nat.le_of_ble_eq_true rfl) dX7_ofRelation_101 (fun H locs w => ?_)
            have e0 := Option.some.inj e0
            subst e0
            exact c_iret X w hr dX7_ofRelation_104
          · have e0 := itn _ c8 e0
            refine lv_tableOut (tgt := 105) hx hb dX7_ofRelation_18 (by have hc5 := lv_neT c5 (a := 0) (by decide); have hc6 := lv_neT c6 (a := 1) (by decide); have hc7 := lv_neT c7 (a := 2) (by decide); have hc8 := lv_neT c8 (a := 3) (by decide); omega) (by decide) ?_
            refine lv_bipush (v := (-2)) hx hb dX7_ofRelation_105 (by decide) ?_
            have e0 := Option.some.inj e0
            subst e0
            exact c_iret X w hr dX7_ofRelation_107
  · have e0 := itp _ c18 e0
    refine lv_iconst (v := (-1)) hx hb dX7_ofRelation_8 (by decide) ?_
    have e0 := Option.some.inj e0
    subst e0
    exact c_iret X w hr dX7_ofRelation_9
set_option maxRecDepth 20000 in
theorem fX7_ofRelation_met (l : Launch) (D : va_G) (y : ClassId) (yS : ClassId × ClassId) (q : Nat → Nat) (sz n : Nat) (a1 : Int32) (a2 : Int32) (I : Nat → Int32) (R : Nat → Nat → Int32) (z : Int32 × mSt) (e0 : fX7_ofRelation n a1 a2 I R = some z) : Met l yX7_ofRelation wsX7_ofRelation rmX7_ofRelation (va_Pc [.ref (q 0), .int a1, .int a2] (cPre D y yS q sz I R)) (cQi D y yS q (cS y yS q sz) z) 0 0 (cS y yS q sz) := by
  refine Met.ofW (cc := cX7_ofRelation) (maxL := 3) (ret := some .int) (by decide) rfl ?_
  intro p e s m args below meth c s₁ B hml hv
  obtain ⟨rfl, hsz, hP, hK, hN, hD⟩ := hv
  subst hsz
  have hl := lv_entry ([.ref (q 0), .int a1, .int a2]) (n := 3) (Nat.le_of_ble_eq_true rfl)
  rw [lg_entry_eq]
  exact fX7_ofRelation_w (s := s) ⟨⟨B.exec, B.bytes, hml, findClass_of_methodNamed B.named, atoms_spec (ws := wsX7_ofRelation) B.pre⟩, hK, hN⟩ ⟨B.returns, B.notSynchronized⟩ ⟨hP, cS_D hD, va_S.rf⟩ hl e0
theorem in_X7_form_X7 : ∀ w ∈ wsX70, w ∈ wsX7_form := fun _ h9 => List.mem_cons_of_mem _ (List.mem_append_left _ (List.mem_append_left _ (List.mem_append_left _ (List.mem_append_right _ h9))))
theorem in_X7_form_X6 : ∀ w ∈ wsX60, w ∈ wsX7_form := fun _ h9 => List.mem_cons_of_mem _ (List.mem_append_left _ (List.mem_append_left _ (List.mem_append_right _ h9)))
theorem in_X7_form_X2 : ∀ w ∈ wsX20, w ∈ wsX7_form := fun _ h9 => List.mem_cons_of_mem _ (List.mem_append_left _ (List.mem_append_right _ h9))
theorem in_X7_form_X1 : ∀ w ∈ wsX10, w ∈ wsX7_form := fun _ h9 => List.mem_cons_of_mem _ (List.mem_append_right _ h9)
def rmX7_form : Room := { frames := 5, cells := 0, slots := 0, locals := 121 }
def fX7_form (n : Nat) (a1 : Int32) (a2 : Int32) (I : Nat → Int32) (R : Nat → Nat → Int32) : Option (Int32 × mSt) :=
  (fX7_isRule n a1 I R).bind fun z1 =>
  if z1.1 = 0 then
    some ((-1), z1.2.1, z1.2.2)
  else
    (fX2_fits n 0 a1 a2 z1.2.1 z1.2.2).bind fun z3 =>
    if z3.1 = 0 then
      some ((-2), z3.2.1, z3.2.2)
    else
      if inb a1 5 = true then
      (fX6_reforms n 0 a1 a2 z3.2.1 z3.2.2).bind fun z6 =>
      if z6.1 = 0 then
        some ((-3), z6.2.1, z6.2.2)
      else
        some ((getA z3.2.2 (113 + 100 * 0) a1), z6.2.1, z6.2.2)
      else none
set_option maxRecDepth 20000 in
set_option maxHeartbeats 2000000 in
theorem fX7_form_w {p : Program} {l : Launch} {e : Env} {s : State} {m : MethodId} {args : Array Value} {below : List Frame} {meth : Method} {c : Code} {D : va_G} {y : ClassId} {yS : ClassId × ClassId} {q : Nat → Nat} {n : Nat} {z : Int32 × mSt} (X : cX p s m args c cX7_form 4 wsX7_form RX7 D y yS) (hr : meth.sig.returnType = some .int ∧ meth.locks = false) {a1 : Int32} {a2 : Int32} {I : Nat → Int32} {R : Nat → Nat → Int32} {H : Heap} {locs : List Loc} {ls : Array Slot} (w : cH s D y yS q H locs I R) (hl : lv_has ls 4 [(0, .ref (q 0)), (1, .int a1), (2, .int a2)]) (e0 : fX7_form n a1 a2 I R = some z) : W p l e rmX7_form s m args below meth c H locs 0 0 (MQ below (cQi D y yS q (cS y yS q s.heap.size) z) args s 0 0 (cS y yS q s.heap.size)) (F0 m 0 ls []) := by
  have hx := X.1.1
  have hb := X.1.2.1
  unfold fX7_form at e0
  refine lv_aload_n hx hb dX7_form_0 rfl (lv_at hl 0 rfl) ?_
  refine lv_iload_n hx hb dX7_form_1 rfl (lv_at hl 1 rfl) ?_
  refine bd e0 (fun z1 e2 e0 => ?_)
  refine c_calli X w (c_rec X w (cat_RR _ _ _ _ _) rfl) (n := 1) (As := [.int a1]) (rest := []) (fX7_isRule_met l _ _ _ _ _ _ _ _ _ _ e2) gX7_form_X7_isRule rfl rfl rfl (by decide +kernel) ⟨Nat.le_of_ble_eq_true rfl, Nat.le_of_ble_eq_true rfl⟩ rfl hl.1 rfl (Nat.le_of_ble_eq_true rfl) dX7_form_2 (fun H locs w => ?_)
  refine lv_if_ne (tgt := 10) hx hb dX7_form_5 (by decide) (fun c10 => ?_) (fun c10 => ?_)
  · have e0 := itn _ c10 e0
    refine lv_aload_n hx hb dX7_form_10 rfl (lv_at hl 0 rfl) ?_
    refine c_get X w (cat_RR _ _ _ _ _) rfl in_X7_form_X7 1 (by decide) (index := 21) rfl (by decide +kernel) (cf_RR_1 _ _) dX7_form_11 ?_
    refine c_get X w (cat_WO _ _ _ _ _ 0 (by decide)) rfl in_X7_form_X6 0 (by decide) (index := 68) rfl (by decide +kernel) (cf_WO_0 _ _ _) dX7_form_14 ?_
    refine lv_iload_n hx hb dX7_form_17 rfl (lv_at hl 1 rfl) ?_
    refine lv_iload_n hx hb dX7_form_18 rfl (lv_at hl 2 rfl) ?_
    refine bd e0 (fun z3 e4 e0 => ?_)
    refine c_calli X w (c_rec X w (cat_PR _ _ _ _ _ 0 (by decide)) rfl) (n := 2) (As := [.int a1, .int a2]) (rest := []) (fX2_fits_met l _ _ _ _ _ _ _ (by decide) _ _ _ _ _ e4) gX7_form_X2_fits rfl rfl rfl (by decide +kernel) ⟨Nat.le_of_ble_eq_true rfl, Nat.le_of_ble_eq_true rfl⟩ rfl hl.1 rfl (Nat.le_of_ble_eq_true rfl) dX7_form_19 (fun H locs w => ?_)
    refine lv_if_ne (tgt := 28) hx hb dX7_form_22 (by decide) (fun c9 => ?_) (fun c9 => ?_)
    · have e0 := itn _ c9 e0
      refine lv_aload_n hx hb dX7_form_28 rfl (lv_at hl 0 rfl) ?_
      refine c_get X w (cat_RR _ _ _ _ _) rfl in_X7_form_X7 1 (by decide) (index := 21) rfl (by decide +kernel) (cf_RR_1 _ _) dX7_form_29 ?_
      refine c_get X w (cat_WO _ _ _ _ _ 0 (by decide)) rfl in_X7_form_X6 0 (by decide) (index := 68) rfl (by decide +kernel) (cf_WO_0 _ _ _) dX7_form_32 ?_
      refine c_get X w (cat_PR _ _ _ _ _ 0 (by decide)) rfl in_X7_form_X2 2 (by decide) (index := 117) rfl (by decide +kernel) (cf_PR_2 _ _ _) dX7_form_35 ?_
      refine lv_iload_n hx hb dX7_form_38 rfl (lv_at hl 1 rfl) ?_
      refine gd e0 (fun g5 e0 => ?_)
      refine c_ald X w (cat_a113 _ _ _ _ _ 0 (by decide)) g5 dX7_form_39 ?_
      refine lv_istore_n (lv' := [(3, .int (getA z3.2.2 (113 + 100 * 0) a1)), (0, .ref (q 0)), (1, .int a1), (2, .int a2)]) hx hb dX7_form_40 rfl hl (by decide) rfl (fun ls hl => ?_)
      refine lv_aload_n hx hb dX7_form_41 rfl (lv_at hl 1 rfl) ?_
      refine c_get X w (cat_RR _ _ _ _ _) rfl in_X7_form_X7 1 (by decide) (index := 21) rfl (by decide +kernel) (cf_RR_1 _ _) dX7_form_42 ?_
      refine lv_iload_n hx hb dX7_form_45 rfl (lv_at hl 2 rfl) ?_
      refine lv_iload_n hx hb dX7_form_46 rfl (lv_at hl 3 rfl) ?_
      refine bd e0 (fun z6 e7 e0 => ?_)
      refine c_calli X w (c_rec X w (cat_WO _ _ _ _ _ 0 (by decide)) rfl) (n := 2) (As := [.int a1, .int a2]) (rest := []) (fX6_reforms_met l _ _ _ _ _ _ _ (by decide) _ _ _ _ _ e7) gX7_form_X6_reforms rfl rfl rfl (by decide +kernel) ⟨Nat.le_of_ble_eq_true rfl, Nat.le_of_ble_eq_true rfl⟩ rfl hl.1 rfl (Nat.le_of_ble_eq_true rfl) dX7_form_47 (fun H locs w => ?_)
      refine lv_if_eq (tgt := 57) hx hb dX7_form_50 (by decide) (fun c8 => ?_) (fun c8 => ?_)
      · have e0 := itp _ c8 e0
        refine lv_bipush (v := (-3)) hx hb dX7_form_57 (by decide) ?_
        have e0 := Option.some.inj e0
        subst e0
        exact c_iret X w hr dX7_form_59
      · have e0 := itn _ c8 e0
        refine lv_iload_n hx hb dX7_form_53 rfl (lv_at hl 0 rfl) ?_
        refine lv_goto (tgt := 59) hx hb dX7_form_54 (by decide) ?_
        have e0 := Option.some.inj e0
        subst e0
        exact c_iret X w hr dX7_form_59
    · have e0 := itp _ c9 e0
      refine lv_bipush (v := (-2)) hx hb dX7_form_25 (by decide) ?_
      have e0 := Option.some.inj e0
      subst e0
      exact c_iret X w hr dX7_form_27
  · have e0 := itp _ c10 e0
    refine lv_iconst (v := (-1)) hx hb dX7_form_8 (by decide) ?_
    have e0 := Option.some.inj e0
    subst e0
    exact c_iret X w hr dX7_form_9
set_option maxRecDepth 20000 in
theorem fX7_form_met (l : Launch) (D : va_G) (y : ClassId) (yS : ClassId × ClassId) (q : Nat → Nat) (sz n : Nat) (a1 : Int32) (a2 : Int32) (I : Nat → Int32) (R : Nat → Nat → Int32) (z : Int32 × mSt) (e0 : fX7_form n a1 a2 I R = some z) : Met l yX7_form wsX7_form rmX7_form (va_Pc [.ref (q 0), .int a1, .int a2] (cPre D y yS q sz I R)) (cQi D y yS q (cS y yS q sz) z) 0 0 (cS y yS q sz) := by
  refine Met.ofW (cc := cX7_form) (maxL := 4) (ret := some .int) (by decide) rfl ?_
  intro p e s m args below meth c s₁ B hml hv
  obtain ⟨rfl, hsz, hP, hK, hN, hD⟩ := hv
  subst hsz
  have hl := lv_entry ([.ref (q 0), .int a1, .int a2]) (n := 4) (Nat.le_of_ble_eq_true rfl)
  rw [lg_entry_eq]
  exact fX7_form_w (s := s) ⟨⟨B.exec, B.bytes, hml, findClass_of_methodNamed B.named, atoms_spec (ws := wsX7_form) B.pre⟩, hK, hN⟩ ⟨B.returns, B.notSynchronized⟩ ⟨hP, cS_D hD, va_S.rf⟩ hl e0
def rmX7_isThing : Room := { frames := 0, cells := 0, slots := 0, locals := 0 }
def fX7_isThing (n : Nat) (a0 : Int32) : Option (Int32) :=
  if a0 < 0 then
    some 0
  else
    if 4 ≤ a0 then
      some 0
    else
      some 1
set_option maxRecDepth 20000 in
set_option maxHeartbeats 2000000 in
theorem fX7_isThing_w {p : Program} {l : Launch} {e : Env} {s : State} {m : MethodId} {args : Array Value} {below : List Frame} {meth : Method} {c : Code} {n : Nat} {z : Int32} (X : tX p s m args c cX7_isThing 1 wsX7_isThing RX7) (hr : meth.sig.returnType = some .boolean ∧ meth.locks = false) {a0 : Int32} {H : Heap} {locs : List Loc} {ls : Array Slot} (w : sH s H locs) (hl : lv_has ls 1 [(0, .int a0)]) (e0 : fX7_isThing n a0 = some z) : W p l e rmX7_isThing s m args below meth c H locs 0 0 (MQ below (sQi z) args s 0 0 (fun _ => False)) (F0 m 0 ls []) := by
  have hx := X.1.1
  have hb := X.1.2.1
  unfold fX7_isThing at e0
  refine lv_iload_n hx hb dX7_isThing_0 rfl (lv_at hl 0 rfl) ?_
  refine lv_if_lt (tgt := 13) hx hb dX7_isThing_1 (by decide) (fun c2 => ?_) (fun c2 => ?_)
  · have e0 := itp _ c2 e0
    refine lv_iconst (v := 0) hx hb dX7_isThing_13 (by decide) ?_
    have e0 := Option.some.inj e0
    subst e0
    exact t_zret X w hr rfl dX7_isThing_14
  · have e0 := itn _ c2 e0
    refine lv_iload_n hx hb dX7_isThing_4 rfl (lv_at hl 0 rfl) ?_
    refine lv_iconst (v := 4) hx hb dX7_isThing_5 (by decide) ?_
    refine lv_icmp_ge (tgt := 13) hx hb dX7_isThing_6 (by decide) (fun c1 => ?_) (fun c1 => ?_)
    · have e0 := itp _ c1 e0
      refine lv_iconst (v := 0) hx hb dX7_isThing_13 (by decide) ?_
      have e0 := Option.some.inj e0
      subst e0
      exact t_zret X w hr rfl dX7_isThing_14
    · have e0 := itn _ c1 e0
      refine lv_iconst (v := 1) hx hb dX7_isThing_9 (by decide) ?_
      refine lv_goto (tgt := 14) hx hb dX7_isThing_10 (by decide) ?_
      have e0 := Option.some.inj e0
      subst e0
      exact t_zret X w hr rfl dX7_isThing_14
set_option maxRecDepth 20000 in
theorem fX7_isThing_met (l : Launch) (n : Nat) (a0 : Int32) (z : Int32) (e0 : fX7_isThing n a0 = some z) : Met l yX7_isThing wsX7_isThing rmX7_isThing (va_Pc [.int a0] (fun U => cN U)) (sQi z) 0 0 (fun _ => False) := by
  refine Met.ofW (cc := cX7_isThing) (maxL := 1) (ret := some .boolean) (by decide) rfl ?_
  intro p e s m args below meth c s₁ B hml hv
  obtain ⟨rfl, hN⟩ := hv
  have hl := lv_entry ([.int a0]) (n := 1) (Nat.le_of_ble_eq_true rfl)
  rw [lg_entry_eq]
  exact fX7_isThing_w (s := s) ⟨⟨B.exec, B.bytes, hml, findClass_of_methodNamed B.named, atoms_spec (ws := wsX7_isThing) B.pre⟩, hN⟩ ⟨B.returns, B.notSynchronized⟩ va_S.rf hl e0
theorem in_X7_tell_X7 : ∀ w ∈ wsX70, w ∈ wsX7_tell := fun _ h9 => List.mem_cons_of_mem _ (List.mem_append_left _ (List.mem_append_left _ (List.mem_append_right _ h9)))
theorem in_X7_tell_X6 : ∀ w ∈ wsX60, w ∈ wsX7_tell := fun _ h9 => List.mem_cons_of_mem _ (List.mem_append_left _ (List.mem_append_right _ h9))
theorem in_X7_tell_X2 : ∀ w ∈ wsX20, w ∈ wsX7_tell := fun _ h9 => List.mem_cons_of_mem _ (List.mem_append_right _ h9)
def rmX7_tell : Room := { frames := 1, cells := 0, slots := 0, locals := 24 }
def fX7_tell (n : Nat) (a1 : Int32) (a2 : Int32) (a3 : Int32) (I : Nat → Int32) (R : Nat → Nat → Int32) : Option (Int32 × mSt) :=
  (fX7_isRelation n a1 I R).bind fun z1 =>
  if z1.1 = 0 then
    some ((-1), z1.2.1, z1.2.2)
  else
    (fX7_isThing n a2).bind fun z3 =>
    if z3 = 0 then
      some ((-2), z1.2.1, z1.2.2)
    else
      (fX7_isThing n a3).bind fun z5 =>
      if z5 = 0 then
        some ((-2), z1.2.1, z1.2.2)
      else
        (fX6_toggle n 0 a1 a2 a3 z1.2.1 z1.2.2).bind fun z7 =>
        if z7.1 = 0 then
          some (0, z7.2.1, z7.2.2)
        else
          some (1, z7.2.1, z7.2.2)
set_option maxRecDepth 20000 in
set_option maxHeartbeats 2000000 in
theorem fX7_tell_w {p : Program} {l : Launch} {e : Env} {s : State} {m : MethodId} {args : Array Value} {below : List Frame} {meth : Method} {c : Code} {D : va_G} {y : ClassId} {yS : ClassId × ClassId} {q : Nat → Nat} {n : Nat} {z : Int32 × mSt} (X : cX p s m args c cX7_tell 4 wsX7_tell RX7 D y yS) (hr : meth.sig.returnType = some .int ∧ meth.locks = false) {a1 : Int32} {a2 : Int32} {a3 : Int32} {I : Nat → Int32} {R : Nat → Nat → Int32} {H : Heap} {locs : List Loc} {ls : Array Slot} (w : cH s D y yS q H locs I R) (hl : lv_has ls 4 [(0, .ref (q 0)), (1, .int a1), (2, .int a2), (3, .int a3)]) (e0 : fX7_tell n a1 a2 a3 I R = some z) : W p l e rmX7_tell s m args below meth c H locs 0 0 (MQ below (cQi D y yS q (cS y yS q s.heap.size) z) args s 0 0 (cS y yS q s.heap.size)) (F0 m 0 ls []) := by
  have hx := X.1.1
  have hb := X.1.2.1
  unfold fX7_tell at e0
  refine lv_aload_n hx hb dX7_tell_0 rfl (lv_at hl 0 rfl) ?_
  refine lv_iload_n hx hb dX7_tell_1 rfl (lv_at hl 1 rfl) ?_
  refine bd e0 (fun z1 e2 e0 => ?_)
  refine c_calli X w (c_rec X w (cat_RR _ _ _ _ _) rfl) (n := 1) (As := [.int a1]) (rest := []) (fX7_isRelation_met l _ _ _ _ _ _ _ _ _ _ e2) gX7_tell_X7_isRelation rfl rfl rfl (by decide +kernel) ⟨Nat.le_of_ble_eq_true rfl, Nat.le_of_ble_eq_true rfl⟩ rfl hl.1 rfl (Nat.le_of_ble_eq_true rfl) dX7_tell_2 (fun H locs w => ?_)
  refine lv_if_ne (tgt := 10) hx hb dX7_tell_5 (by decide) (fun c12 => ?_) (fun c12 => ?_)
  · have e0 := itn _ c12 e0
    refine lv_iload_n hx hb dX7_tell_10 rfl (lv_at hl 2 rfl) ?_
    refine bd e0 (fun z3 e4 e0 => ?_)
    refine c_callsi X w (n := 1) (As := [.int a2]) (rest := []) (fX7_isThing_met l _ _ _ e4) gX7_tell_X7_isThing rfl rfl rfl (by decide +kernel) ⟨Nat.le_of_ble_eq_true rfl, Nat.le_of_ble_eq_true rfl⟩ rfl hl.1 rfl (Nat.le_of_ble_eq_true rfl) dX7_tell_11 (fun H locs w => ?_)
    refine lv_if_eq (tgt := 24) hx hb dX7_tell_14 (by decide) (fun c11 => ?_) (fun c11 => ?_)
    · have e0 := itp _ c11 e0
      refine lv_bipush (v := (-2)) hx hb dX7_tell_24 (by decide) ?_
      have e0 := Option.some.inj e0
      subst e0
      exact c_iret X w hr dX7_tell_26
    · have e0 := itn _ c11 e0
      refine lv_iload_n hx hb dX7_tell_17 rfl (lv_at hl 3 rfl) ?_
      refine bd e0 (fun z5 e6 e0 => ?_)
      refine c_callsi X w (n := 1) (As := [.int a3]) (rest := []) (fX7_isThing_met l _ _ _ e6) gX7_tell_X7_isThing rfl rfl rfl (by decide +kernel) ⟨Nat.le_of_ble_eq_true rfl, Nat.le_of_ble_eq_true rfl⟩ rfl hl.1 rfl (Nat.le_of_ble_eq_true rfl) dX7_tell_18 (fun H locs w => ?_)
      refine lv_if_ne (tgt := 27) hx hb dX7_tell_21 (by decide) (fun c10 => ?_) (fun c10 => ?_)
      · have e0 := itn _ c10 e0
        refine lv_aload_n hx hb dX7_tell_27 rfl (lv_at hl 0 rfl) ?_
        refine c_get X w (cat_RR _ _ _ _ _) rfl in_X7_tell_X7 1 (by decide) (index := 21) rfl (by decide +kernel) (cf_RR_1 _ _) dX7_tell_28 ?_
        refine lv_iload_n hx hb dX7_tell_31 rfl (lv_at hl 1 rfl) ?_
        refine lv_iload_n hx hb dX7_tell_32 rfl (lv_at hl 2 rfl) ?_
        refine lv_iload_n hx hb dX7_tell_33 rfl (lv_at hl 3 rfl) ?_
        refine bd e0 (fun z7 e8 e0 => ?_)
        refine c_calli X w (c_rec X w (cat_WO _ _ _ _ _ 0 (by decide)) rfl) (n := 3) (As := [.int a1, .int a2, .int a3]) (rest := []) (fX6_toggle_met l _ _ _ _ _ _ _ (by decide) _ _ _ _ _ _ e8) gX7_tell_X6_toggle rfl rfl rfl (by decide +kernel) ⟨Nat.le_of_ble_eq_true rfl, Nat.le_of_ble_eq_true rfl⟩ rfl hl.1 rfl (Nat.le_of_ble_eq_true rfl) dX7_tell_34 (fun H locs w => ?_)
        refine lv_if_eq (tgt := 44) hx hb dX7_tell_37 (by decide) (fun c9 => ?_) (fun c9 => ?_)
        · have e0 := itp _ c9 e0
          refine lv_iconst (v := 0) hx hb dX7_tell_44 (by decide) ?_
          have e0 := Option.some.inj e0
          subst e0
          exact c_iret X w hr dX7_tell_45
        · have e0 := itn _ c9 e0
          refine lv_iconst (v := 1) hx hb dX7_tell_40 (by decide) ?_
          refine lv_goto (tgt := 45) hx hb dX7_tell_41 (by decide) ?_
          have e0 := Option.some.inj e0
          subst e0
          exact c_iret X w hr dX7_tell_45
      · have e0 := itp _ c10 e0
        refine lv_bipush (v := (-2)) hx hb dX7_tell_24 (by decide) ?_
        have e0 := Option.some.inj e0
        subst e0
        exact c_iret X w hr dX7_tell_26
  · have e0 := itp _ c12 e0
    refine lv_iconst (v := (-1)) hx hb dX7_tell_8 (by decide) ?_
    have e0 := Option.some.inj e0
    subst e0
    exact c_iret X w hr dX7_tell_9
set_option maxRecDepth 20000 in
theorem fX7_tell_met (l : Launch) (D : va_G) (y : ClassId) (yS : ClassId × ClassId) (q : Nat → Nat) (sz n : Nat) (a1 : Int32) (a2 : Int32) (a3 : Int32) (I : Nat → Int32) (R : Nat → Nat → Int32) (z : Int32 × mSt) (e0 : fX7_tell n a1 a2 a3 I R = some z) : Met l yX7_tell wsX7_tell rmX7_tell (va_Pc [.ref (q 0), .int a1, .int a2, .int a3] (cPre D y yS q sz I R)) (cQi D y yS q (cS y yS q sz) z) 0 0 (cS y yS q sz) := by
  refine Met.ofW (cc := cX7_tell) (maxL := 4) (ret := some .int) (by decide) rfl ?_
  intro p e s m args below meth c s₁ B hml hv
  obtain ⟨rfl, hsz, hP, hK, hN, hD⟩ := hv
  subst hsz
  have hl := lv_entry ([.ref (q 0), .int a1, .int a2, .int a3]) (n := 4) (Nat.le_of_ble_eq_true rfl)
  rw [lg_entry_eq]
  exact fX7_tell_w (s := s) ⟨⟨B.exec, B.bytes, hml, findClass_of_methodNamed B.named, atoms_spec (ws := wsX7_tell) B.pre⟩, hK, hN⟩ ⟨B.returns, B.notSynchronized⟩ ⟨hP, cS_D hD, va_S.rf⟩ hl e0
def rmX7_factOf : Room := { frames := 0, cells := 0, slots := 0, locals := 0 }
def fX7_factOf (n : Nat) (a0 : Int32) (a1 : Int32) (a2 : Int32) : Option (Int32) :=
  some (((16 * a0) + (4 * a1)) + a2)
set_option maxRecDepth 20000 in
set_option maxHeartbeats 2000000 in
theorem fX7_factOf_w {p : Program} {l : Launch} {e : Env} {s : State} {m : MethodId} {args : Array Value} {below : List Frame} {meth : Method} {c : Code} {n : Nat} {z : Int32} (X : tX p s m args c cX7_factOf 3 wsX7_factOf RX7) (hr : meth.sig.returnType = some .int ∧ meth.locks = false) {a0 : Int32} {a1 : Int32} {a2 : Int32} {H : Heap} {locs : List Loc} {ls : Array Slot} (w : sH s H locs) (hl : lv_has ls 3 [(0, .int a0), (1, .int a1), (2, .int a2)]) (e0 : fX7_factOf n a0 a1 a2 = some z) : W p l e rmX7_factOf s m args below meth c H locs 0 0 (MQ below (sQi z) args s 0 0 (fun _ => False)) (F0 m 0 ls []) := by
  have hx := X.1.1
  have hb := X.1.2.1
  unfold fX7_factOf at e0
  refine lv_bipush (v := 16) hx hb dX7_factOf_0 (by decide) ?_
  refine lv_iload_n hx hb dX7_factOf_2 rfl (lv_at hl 0 rfl) ?_
  refine lv_imul hx hb dX7_factOf_3 ?_
  refine lv_iconst (v := 4) hx hb dX7_factOf_4 (by decide) ?_
  refine lv_iload_n hx hb dX7_factOf_5 rfl (lv_at hl 1 rfl) ?_
  refine lv_imul hx hb dX7_factOf_6 ?_
  refine lv_iadd hx hb dX7_factOf_7 ?_
  refine lv_iload_n hx hb dX7_factOf_8 rfl (lv_at hl 2 rfl) ?_
  refine lv_iadd hx hb dX7_factOf_9 ?_
  have e0 := Option.some.inj e0
  subst e0
  exact t_iret X w hr dX7_factOf_10
set_option maxRecDepth 20000 in
theorem fX7_factOf_met (l : Launch) (n : Nat) (a0 : Int32) (a1 : Int32) (a2 : Int32) (z : Int32) (e0 : fX7_factOf n a0 a1 a2 = some z) : Met l yX7_factOf wsX7_factOf rmX7_factOf (va_Pc [.int a0, .int a1, .int a2] (fun U => cN U)) (sQi z) 0 0 (fun _ => False) := by
  refine Met.ofW (cc := cX7_factOf) (maxL := 3) (ret := some .int) (by decide) rfl ?_
  intro p e s m args below meth c s₁ B hml hv
  obtain ⟨rfl, hN⟩ := hv
  have hl := lv_entry ([.int a0, .int a1, .int a2]) (n := 3) (Nat.le_of_ble_eq_true rfl)
  rw [lg_entry_eq]
  exact fX7_factOf_w (s := s) ⟨⟨B.exec, B.bytes, hml, findClass_of_methodNamed B.named, atoms_spec (ws := wsX7_factOf) B.pre⟩, hN⟩ ⟨B.returns, B.notSynchronized⟩ va_S.rf hl e0
theorem in_X7_ofFact_X7 : ∀ w ∈ wsX70, w ∈ wsX7_ofFact := fun _ h9 => List.mem_cons_of_mem _ (List.mem_append_left _ (List.mem_append_left _ (List.mem_append_left _ (List.mem_append_left _ (List.mem_append_left _ (List.mem_append_right _ h9))))))
theorem in_X7_ofFact_X6 : ∀ w ∈ wsX60, w ∈ wsX7_ofFact := fun _ h9 => List.mem_cons_of_mem _ (List.mem_append_left _ (List.mem_append_left _ (List.mem_append_left _ (List.mem_append_left _ (List.mem_append_right _ h9)))))
theorem in_X7_ofFact_X3 : ∀ w ∈ wsX30, w ∈ wsX7_ofFact := fun _ h9 => List.mem_cons_of_mem _ (List.mem_append_left _ (List.mem_append_left _ (List.mem_append_left _ (List.mem_append_right _ h9))))
theorem in_X7_ofFact_X2 : ∀ w ∈ wsX20, w ∈ wsX7_ofFact := fun _ h9 => List.mem_cons_of_mem _ (List.mem_append_left _ (List.mem_append_left _ (List.mem_append_right _ h9)))
theorem in_X7_ofFact_X1 : ∀ w ∈ wsX10, w ∈ wsX7_ofFact := fun _ h9 => List.mem_cons_of_mem _ (List.mem_append_left _ (List.mem_append_right _ h9))
theorem in_X7_ofFact_X0 : ∀ w ∈ wsX00, w ∈ wsX7_ofFact := fun _ h9 => List.mem_cons_of_mem _ (List.mem_append_right _ h9)
def rmX7_ofFact : Room := { frames := 6, cells := 0, slots := 0, locals := 133 }
def fX7_ofFact (n : Nat) (a1 : Int32) (a2 : Int32) (a3 : Int32) (a4 : Int32) (I : Nat → Int32) (R : Nat → Nat → Int32) : Option (Int32 × mSt) :=
  (fX7_isRelation n a1 I R).bind fun z1 =>
  if z1.1 = 0 then
    some ((-1), z1.2.1, z1.2.2)
  else
    (fX7_isThing n a2).bind fun z3 =>
    if z3 = 0 then
      some ((-2), z1.2.1, z1.2.2)
    else
      (fX7_isThing n a3).bind fun z5 =>
      if z5 = 0 then
        some ((-2), z1.2.1, z1.2.2)
      else
        (fX6_settle n 0 z1.2.1 z1.2.2).bind fun z7 =>
        (fX7_factOf n a1 a2 a3).bind fun z9 =>
        if a4 = 0 then
          (fX3_isHeld n 0 z9 z7.1 z7.2).bind fun z27 =>
          if z27.1 = 0 then
            some (0, z27.2.1, z27.2.2)
          else
            some (1, z27.2.1, z27.2.2)
        else
          if a4 = 1 then
            (fX2_isTold n 0 z9 z7.1 z7.2).bind fun z24 =>
            if z24.1 = 0 then
              some (0, z24.2.1, z24.2.2)
            else
              some (1, z24.2.1, z24.2.2)
          else
            if a4 = 2 then
              if inb z9 64 = true then
              some ((getA z7.2 (145 + 100 * 0) z9), z7.1, z7.2)
              else none
            else
              if a4 = 3 then
                (fX0_cheapOf n 0 z9 z7.1 z7.2).bind fun z21 =>
                some (z21.1, z21.2.1, z21.2.2)
              else
                if a4 = 4 then
                  (fX0_lastRule n 0 z9 z7.1 z7.2).bind fun z19 =>
                  some (z19.1, z19.2.1, z19.2.2)
                else
                  if a4 = 5 then
                    (fX0_middle n 0 z9 z7.1 z7.2).bind fun z17 =>
                    some (z17.1, z17.2.1, z17.2.2)
                  else
                    some ((-2), z7.1, z7.2)
set_option maxRecDepth 20000 in
set_option maxHeartbeats 2000000 in
theorem fX7_ofFact_w {p : Program} {l : Launch} {e : Env} {s : State} {m : MethodId} {args : Array Value} {below : List Frame} {meth : Method} {c : Code} {D : va_G} {y : ClassId} {yS : ClassId × ClassId} {q : Nat → Nat} {n : Nat} {z : Int32 × mSt} (X : cX p s m args c cX7_ofFact 6 wsX7_ofFact RX7 D y yS) (hr : meth.sig.returnType = some .int ∧ meth.locks = false) {a1 : Int32} {a2 : Int32} {a3 : Int32} {a4 : Int32} {I : Nat → Int32} {R : Nat → Nat → Int32} {H : Heap} {locs : List Loc} {ls : Array Slot} (w : cH s D y yS q H locs I R) (hl : lv_has ls 6 [(0, .ref (q 0)), (1, .int a1), (2, .int a2), (3, .int a3), (4, .int a4)]) (e0 : fX7_ofFact n a1 a2 a3 a4 I R = some z) : W p l e rmX7_ofFact s m args below meth c H locs 0 0 (MQ below (cQi D y yS q (cS y yS q s.heap.size) z) args s 0 0 (cS y yS q s.heap.size)) (F0 m 0 ls []) := by
  have hx := X.1.1
  have hb := X.1.2.1
  unfold fX7_ofFact at e0
  refine lv_aload_n hx hb dX7_ofFact_0 rfl (lv_at hl 0 rfl) ?_
  refine lv_iload_n hx hb dX7_ofFact_1 rfl (lv_at hl 1 rfl) ?_
  refine bd e0 (fun z1 e2 e0 => ?_)
  refine c_calli X w (c_rec X w (cat_RR _ _ _ _ _) rfl) (n := 1) (As := [.int a1]) (rest := []) (fX7_isRelation_met l _ _ _ _ _ _ _ _ _ _ e2) gX7_ofFact_X7_isRelation rfl rfl rfl (by decide +kernel) ⟨Nat.le_of_ble_eq_true rfl, Nat.le_of_ble_eq_true rfl⟩ rfl hl.1 rfl (Nat.le_of_ble_eq_true rfl) dX7_ofFact_2 (fun H locs w => ?_)
  refine lv_if_ne (tgt := 10) hx hb dX7_ofFact_5 (by decide) (fun c32 => ?_) (fun c32 => ?_)
  · have e0 := itn _ c32 e0
    refine lv_iload_n hx hb dX7_ofFact_10 rfl (lv_at hl 2 rfl) ?_
    refine bd e0 (fun z3 e4 e0 => ?_)
    refine c_callsi X w (n := 1) (As := [.int a2]) (rest := []) (fX7_isThing_met l _ _ _ e4) gX7_ofFact_X7_isThing rfl rfl rfl (by decide +kernel) ⟨Nat.le_of_ble_eq_true rfl, Nat.le_of_ble_eq_true rfl⟩ rfl hl.1 rfl (Nat.le_of_ble_eq_true rfl) dX7_ofFact_11 (fun H locs w => ?_)
    refine lv_if_eq (tgt := 24) hx hb dX7_ofFact_14 (by decide) (fun c31 => ?_) (fun c31 => ?_)
    · have e0 := itp _ c31 e0
      refine lv_bipush (v := (-2)) hx hb dX7_ofFact_24 (by decide) ?_
      have e0 := Option.some.inj e0
      subst e0
      exact c_iret X w hr dX7_ofFact_26
    · have e0 := itn _ c31 e0
      refine lv_iload_n hx hb dX7_ofFact_17 rfl (lv_at hl 3 rfl) ?_
      refine bd e0 (fun z5 e6 e0 => ?_)
      refine c_callsi X w (n := 1) (As := [.int a3]) (rest := []) (fX7_isThing_met l _ _ _ e6) gX7_ofFact_X7_isThing rfl rfl rfl (by decide +kernel) ⟨Nat.le_of_ble_eq_true rfl, Nat.le_of_ble_eq_true rfl⟩ rfl hl.1 rfl (Nat.le_of_ble_eq_true rfl) dX7_ofFact_18 (fun H locs w => ?_)
      refine lv_if_ne (tgt := 27) hx hb dX7_ofFact_21 (by decide) (fun c30 => ?_) (fun c30 => ?_)
      · have e0 := itn _ c30 e0
        refine lv_aload_n hx hb dX7_ofFact_27 rfl (lv_at hl 0 rfl) ?_
        refine c_get X w (cat_RR _ _ _ _ _) rfl in_X7_ofFact_X7 1 (by decide) (index := 21) rfl (by decide +kernel) (cf_RR_1 _ _) dX7_ofFact_28 ?_
        refine bd e0 (fun z7 e8 e0 => ?_)
        refine c_callv X w (c_rec X w (cat_WO _ _ _ _ _ 0 (by decide)) rfl) (n := 0) (As := []) (rest := []) (fX6_settle_met l _ _ _ _ _ _ _ (by decide)  _ _ _ e8) gX7_ofFact_X6_settle rfl rfl rfl (by decide +kernel) ⟨Nat.le_of_ble_eq_true rfl, Nat.le_of_ble_eq_true rfl⟩ rfl hl.1 rfl (Nat.le_of_ble_eq_true rfl) dX7_ofFact_31 (fun H locs w => ?_)
        refine lv_iload_n hx hb dX7_ofFact_34 rfl (lv_at hl 1 rfl) ?_
        refine lv_iload_n hx hb dX7_ofFact_35 rfl (lv_at hl 2 rfl) ?_
        refine lv_iload_n hx hb dX7_ofFact_36 rfl (lv_at hl 3 rfl) ?_
        refine bd e0 (fun z9 e10 e0 => ?_)
        refine c_callsi X w (n := 3) (As := [.int a1, .int a2, .int a3]) (rest := []) (fX7_factOf_met l _ _ _ _ _ e10) gX7_ofFact_X7_factOf rfl rfl rfl (by decide +kernel) ⟨Nat.le_of_ble_eq_true rfl, Nat.le_of_ble_eq_true rfl⟩ rfl hl.1 rfl (Nat.le_of_ble_eq_true rfl) dX7_ofFact_37 (fun H locs w => ?_)
        refine lv_istore (lv' := [(5, .int z9), (0, .ref (q 0)), (1, .int a1), (2, .int a2), (3, .int a3), (4, .int a4)]) hx hb dX7_ofFact_40 hl (by decide) rfl (fun ls hl => ?_)
        refine lv_iload hx hb dX7_ofFact_42 (lv_at hl 5 rfl) ?_
        by_cases c11 : a4 = 0
        · have e0 := itp _ c11 e0
          refine lv_tableIn (off := 40) (tgt := 84) hx hb dX7_ofFact_44 (by rw [c11]; decide) (by rw [c11]; decide) (by rw [c11]; decide) (by decide) ?_
          refine lv_aload_n hx hb dX7_ofFact_84 rfl (lv_at hl 1 rfl) ?_
          refine c_get X w (cat_RR _ _ _ _ _) rfl in_X7_ofFact_X7 1 (by decide) (index := 21) rfl (by decide +kernel) (cf_RR_1 _ _) dX7_ofFact_85 ?_
          refine c_get X w (cat_WO _ _ _ _ _ 0 (by decide)) rfl in_X7_ofFact_X6 2 (by decide) (index := 141) rfl (by decide +kernel) (cf_WO_2 _ _ _) dX7_ofFact_88 ?_
          refine lv_iload hx hb dX7_ofFact_91 (lv_at hl 0 rfl) ?_
          refine bd e0 (fun z27 e28 e0 => ?_)
          refine c_calli X w (c_rec X w (cat_RO _ _ _ _ _ 0 (by decide)) rfl) (n := 1) (As := [.int z9]) (rest := []) (fX3_isHeld_met l _ _ _ _ _ _ _ (by decide) _ _ _ _ e28) gX7_ofFact_X3_isHeld rfl rfl rfl (by decide +kernel) ⟨Nat.le_of_ble_eq_true rfl, Nat.le_of_ble_eq_true rfl⟩ rfl hl.1 rfl (Nat.le_of_ble_eq_true rfl) dX7_ofFact_93 (fun H locs w => ?_)
          refine lv_if_eq (tgt := 103) hx hb dX7_ofFact_96 (by decide) (fun c29 => ?_) (fun c29 => ?_)
          · have e0 := itp _ c29 e0
            refine lv_iconst (v := 0) hx hb dX7_ofFact_103 (by decide) ?_
            have e0 := Option.some.inj e0
            subst e0
            exact c_iret X w hr dX7_ofFact_104
          · have e0 := itn _ c29 e0
            refine lv_iconst (v := 1) hx hb dX7_ofFact_99 (by decide) ?_
            refine lv_goto (tgt := 104) hx hb dX7_ofFact_100 (by decide) ?_
            have e0 := Option.some.inj e0
            subst e0
            exact c_iret X w hr dX7_ofFact_104
        · have e0 := itn _ c11 e0
          by_cases c12 : a4 = 1
          · have e0 := itp _ c12 e0
            refine lv_tableIn (off := 61) (tgt := 105) hx hb dX7_ofFact_44 (by rw [c12]; decide) (by rw [c12]; decide) (by rw [c12]; decide) (by decide) ?_
            refine lv_aload_n hx hb dX7_ofFact_105 rfl (lv_at hl 1 rfl) ?_
            refine c_get X w (cat_RR _ _ _ _ _) rfl in_X7_ofFact_X7 1 (by decide) (index := 21) rfl (by decide +kernel) (cf_RR_1 _ _) dX7_ofFact_106 ?_
            refine c_get X w (cat_WO _ _ _ _ _ 0 (by decide)) rfl in_X7_ofFact_X6 0 (by decide) (index := 68) rfl (by decide +kernel) (cf_WO_0 _ _ _) dX7_ofFact_109 ?_
            refine lv_iload hx hb dX7_ofFact_112 (lv_at hl 0 rfl) ?_
            refine bd e0 (fun z24 e25 e0 => ?_)
            refine c_calli X w (c_rec X w (cat_PR _ _ _ _ _ 0 (by decide)) rfl) (n := 1) (As := [.int z9]) (rest := []) (fX2_isTold_met l _ _ _ _ _ _ _ (by decide) _ _ _ _ e25) gX7_ofFact_X2_isTold rfl rfl rfl (by decide +kernel) ⟨Nat.le_of_ble_eq_true rfl, Nat.le_of_ble_eq_true rfl⟩ rfl hl.1 rfl (Nat.le_of_ble_eq_true rfl) dX7_ofFact_114 (fun H locs w => ?_)
            refine lv_if_eq (tgt := 124) hx hb dX7_ofFact_117 (by decide) (fun c26 => ?_) (fun c26 => ?_)
            · have e0 := itp _ c26 e0
              refine lv_iconst (v := 0) hx hb dX7_ofFact_124 (by decide) ?_
              have e0 := Option.some.inj e0
              subst e0
              exact c_iret X w hr dX7_ofFact_125
            · have e0 := itn _ c26 e0
              refine lv_iconst (v := 1) hx hb dX7_ofFact_120 (by decide) ?_
              refine lv_goto (tgt := 125) hx hb dX7_ofFact_121 (by decide) ?_
              have e0 := Option.some.inj e0
              subst e0
              exact c_iret X w hr dX7_ofFact_125
          · have e0 := itn _ c12 e0
            by_cases c13 : a4 = 2
            · have e0 := itp _ c13 e0
              refine lv_tableIn (off := 82) (tgt := 126) hx hb dX7_ofFact_44 (by rw [c13]; decide) (by rw [c13]; decide) (by rw [c13]; decide) (by decide) ?_
              refine lv_aload_n hx hb dX7_ofFact_126 rfl (lv_at hl 1 rfl) ?_
              refine c_get X w (cat_RR _ _ _ _ _) rfl in_X7_ofFact_X7 1 (by decide) (index := 21) rfl (by decide +kernel) (cf_RR_1 _ _) dX7_ofFact_127 ?_
              refine c_get X w (cat_WO _ _ _ _ _ 0 (by decide)) rfl in_X7_ofFact_X6 2 (by decide) (index := 141) rfl (by decide +kernel) (cf_WO_2 _ _ _) dX7_ofFact_130 ?_
              refine c_get X w (cat_RO _ _ _ _ _ 0 (by decide)) rfl in_X7_ofFact_X3 4 (by decide) (index := 184) rfl (by decide +kernel) (cf_RO_4 _ _ _) dX7_ofFact_133 ?_
              refine lv_iload hx hb dX7_ofFact_136 (lv_at hl 0 rfl) ?_
              refine gd e0 (fun g23 e0 => ?_)
              refine c_ald X w (cat_a145 _ _ _ _ _ 0 (by decide)) g23 dX7_ofFact_138 ?_
              have e0 := Option.some.inj e0
              subst e0
              exact c_iret X w hr dX7_ofFact_139
            · have e0 := itn _ c13 e0
              by_cases c14 : a4 = 3
              · have e0 := itp _ c14 e0
                refine lv_tableIn (off := 96) (tgt := 140) hx hb dX7_ofFact_44 (by rw [c14]; decide) (by rw [c14]; decide) (by rw [c14]; decide) (by decide) ?_
                refine lv_aload_n hx hb dX7_ofFact_140 rfl (lv_at hl 1 rfl) ?_
                refine c_get X w (cat_RR _ _ _ _ _) rfl in_X7_ofFact_X7 1 (by decide) (index := 21) rfl (by decide +kernel) (cf_RR_1 _ _) dX7_ofFact_141 ?_
                refine c_get X w (cat_WO _ _ _ _ _ 0 (by decide)) rfl in_X7_ofFact_X6 3 (by decide) (index := 187) rfl (by decide +kernel) (cf_WO_3 _ _ _) dX7_ofFact_144 ?_
                refine lv_iload hx hb dX7_ofFact_147 (lv_at hl 0 rfl) ?_
                refine bd e0 (fun z21 e22 e0 => ?_)
                refine c_calli X w (c_rec X w (cat_CO _ _ _ _ _ 0 (by decide)) rfl) (n := 1) (As := [.int z9]) (rest := []) (fX0_cheapOf_met l _ _ _ _ _ _ _ (by decide) _ _ _ _ e22) gX7_ofFact_X0_cheapOf rfl rfl rfl (by decide +kernel) ⟨Nat.le_of_ble_eq_true rfl, Nat.le_of_ble_eq_true rfl⟩ rfl hl.1 rfl (Nat.le_of_ble_eq_true rfl) dX7_ofFact_149 (fun H locs w => ?_)
                have e0 := Option.some.inj e0
                subst e0
                exact c_iret X w hr dX7_ofFact_152
              · have e0 := itn _ c14 e0
                by_cases c15 : a4 = 4
                · have e0 := itp _ c15 e0
                  refine lv_tableIn (off := 109) (tgt := 153) hx hb dX7_ofFact_44 (by rw [c15]; decide) (by rw [c15]; decide) (by rw [c15]; decide) (by decide) ?_
                  refine lv_aload_n hx hb dX7_ofFact_153 rfl (lv_at hl 1 rfl) ?_
                  refine c_get X w (cat_RR _ _ _ _ _) rfl in_X7_ofFact_X7 1 (by decide) (index := 21) rfl (by decide +kernel) (cf_RR_1 _ _) dX7_ofFact_154 ?_
                  refine c_get X w (cat_WO _ _ _ _ _ 0 (by decide)) rfl in_X7_ofFact_X6 3 (by decide) (index := 187) rfl (by decide +kernel) (cf_WO_3 _ _ _) dX7_ofFact_157 ?_
                  refine lv_iload hx hb dX7_ofFact_160 (lv_at hl 0 rfl) ?_
                  refine bd e0 (fun z19 e20 e0 => ?_)
                  refine c_calli X w (c_rec X w (cat_CO _ _ _ _ _ 0 (by decide)) rfl) (n := 1) (As := [.int z9]) (rest := []) (fX0_lastRule_met l _ _ _ _ _ _ _ (by decide) _ _ _ _ e20) gX7_ofFact_X0_lastRule rfl rfl rfl (by decide +kernel) ⟨Nat.le_of_ble_eq_true rfl, Nat.le_of_ble_eq_true rfl⟩ rfl hl.1 rfl (Nat.le_of_ble_eq_true rfl) dX7_ofFact_162 (fun H locs w => ?_)
                  have e0 := Option.some.inj e0
                  subst e0
                  exact c_iret X w hr dX7_ofFact_165
                · have e0 := itn _ c15 e0
                  by_cases c16 : a4 = 5
                  · have e0 := itp _ c16 e0
                    refine lv_tableIn (off := 122) (tgt := 166) hx hb dX7_ofFact_44 (by rw [c16]; decide) (by rw [c16]; decide) (by rw [c16]; decide) (by decide) ?_
                    refine lv_aload_n hx hb dX7_ofFact_166 rfl (lv_at hl 1 rfl) ?_
                    refine c_get X w (cat_RR _ _ _ _ _) rfl in_X7_ofFact_X7 1 (by decide) (index := 21) rfl (by decide +kernel) (cf_RR_1 _ _) dX7_ofFact_167 ?_
                    refine c_get X w (cat_WO _ _ _ _ _ 0 (by decide)) rfl in_X7_ofFact_X6 3 (by decide) (index := 187) rfl (by decide +kernel) (cf_WO_3 _ _ _) dX7_ofFact_170 ?_
                    refine lv_iload hx hb dX7_ofFact_173 (lv_at hl 0 rfl) ?_
                    refine bd e0 (fun z17 e18 e0 => ?_)
                    refine c_calli X w (c_rec X w (cat_CO _ _ _ _ _ 0 (by decide)) rfl) (n := 1) (As := [.int z9]) (rest := []) (fX0_middle_met l _ _ _ _ _ _ _ (by decide) _ _ _ _ e18) gX7_ofFact_X0_middle rfl rfl rfl (by decide +kernel) ⟨Nat.le_of_ble_eq_true rfl, Nat.le_of_ble_eq_true rfl⟩ rfl hl.1 rfl (Nat.le_of_ble_eq_true rfl) dX7_ofFact_175 (fun H locs w => ?_)
                    have e0 := Option.some.inj e0
                    subst e0
                    exact c_iret X w hr dX7_ofFact_178
                  · have e0 := itn _ c16 e0
                    refine lv_tableOut (tgt := 179) hx hb dX7_ofFact_44 (by have hc11 := lv_neT c11 (a := 0) (by decide); have hc12 := lv_neT c12 (a := 1) (by decide); have hc13 := lv_neT c13 (a := 2) (by decide); have hc14 := lv_neT c14 (a := 3) (by decide); have hc15 := lv_neT c15 (a := 4) (by decide); have hc16 := lv_neT c16 (a := 5) (by decide); omega) (by decide) ?_
                    refine lv_bipush (v := (-2)) hx hb dX7_ofFact_179 (by decide) ?_
                    have e0 := Option.some.inj e0
                    subst e0
                    exact c_iret X w hr dX7_ofFact_181
      · have e0 := itp _ c30 e0
        refine lv_bipush (v := (-2)) hx hb dX7_ofFact_24 (by decide) ?_
        have e0 := Option.some.inj e0
        subst e0
        exact c_iret X w hr dX7_ofFact_26
  · have e0 := itp _ c32 e0
    refine lv_iconst (v := (-1)) hx hb dX7_ofFact_8 (by decide) ?_
    have e0 := Option.some.inj e0
    subst e0
    exact c_iret X w hr dX7_ofFact_9
set_option maxRecDepth 20000 in
theorem fX7_ofFact_met (l : Launch) (D : va_G) (y : ClassId) (yS : ClassId × ClassId) (q : Nat → Nat) (sz n : Nat) (a1 : Int32) (a2 : Int32) (a3 : Int32) (a4 : Int32) (I : Nat → Int32) (R : Nat → Nat → Int32) (z : Int32 × mSt) (e0 : fX7_ofFact n a1 a2 a3 a4 I R = some z) : Met l yX7_ofFact wsX7_ofFact rmX7_ofFact (va_Pc [.ref (q 0), .int a1, .int a2, .int a3, .int a4] (cPre D y yS q sz I R)) (cQi D y yS q (cS y yS q sz) z) 0 0 (cS y yS q sz) := by
  refine Met.ofW (cc := cX7_ofFact) (maxL := 6) (ret := some .int) (by decide) rfl ?_
  intro p e s m args below meth c s₁ B hml hv
  obtain ⟨rfl, hsz, hP, hK, hN, hD⟩ := hv
  subst hsz
  have hl := lv_entry ([.ref (q 0), .int a1, .int a2, .int a3, .int a4]) (n := 6) (Nat.le_of_ble_eq_true rfl)
  rw [lg_entry_eq]
  exact fX7_ofFact_w (s := s) ⟨⟨B.exec, B.bytes, hml, findClass_of_methodNamed B.named, atoms_spec (ws := wsX7_ofFact) B.pre⟩, hK, hN⟩ ⟨B.returns, B.notSynchronized⟩ ⟨hP, cS_D hD, va_S.rf⟩ hl e0
def rmX7_isAskedOfDay : Room := { frames := 0, cells := 0, slots := 0, locals := 0 }
def fX7_isAskedOfDay_b9 (n : Nat) (a0 : Int32) : Option (Int32) :=
  if a0 < 10 then
    some 0
  else
    if 14 ≤ a0 then
      some 0
    else
      some 1
set_option maxRecDepth 20000 in
set_option maxHeartbeats 2000000 in
theorem fX7_isAskedOfDay_b9_w {p : Program} {l : Launch} {e : Env} {s : State} {m : MethodId} {args : Array Value} {below : List Frame} {meth : Method} {c : Code} {n : Nat} {z : Int32} (X : tX p s m args c cX7_isAskedOfDay 1 wsX7_isAskedOfDay RX7) (hr : meth.sig.returnType = some .boolean ∧ meth.locks = false) {a0 : Int32} {H : Heap} {locs : List Loc} {ls : Array Slot} (w : sH s H locs) (hl : lv_has ls 1 [(0, .int a0)]) (e0 : fX7_isAskedOfDay_b9 n a0 = some z) : W p l e rmX7_isAskedOfDay s m args below meth c H locs 0 0 (MQ below (sQi z) args s 0 0 (fun _ => False)) (F0 m 9 ls []) := by
  have hx := X.1.1
  have hb := X.1.2.1
  unfold fX7_isAskedOfDay_b9 at e0
  refine lv_iload_n hx hb dX7_isAskedOfDay_9 rfl (lv_at hl 0 rfl) ?_
  refine lv_bipush (v := 10) hx hb dX7_isAskedOfDay_10 (by decide) ?_
  refine lv_icmp_lt (tgt := 25) hx hb dX7_isAskedOfDay_12 (by decide) (fun c4 => ?_) (fun c4 => ?_)
  · have e0 := itp _ c4 e0
    refine lv_iconst (v := 0) hx hb dX7_isAskedOfDay_25 (by decide) ?_
    have e0 := Option.some.inj e0
    subst e0
    exact t_zret X w hr rfl dX7_isAskedOfDay_26
  · have e0 := itn _ c4 e0
    refine lv_iload_n hx hb dX7_isAskedOfDay_15 rfl (lv_at hl 0 rfl) ?_
    refine lv_bipush (v := 14) hx hb dX7_isAskedOfDay_16 (by decide) ?_
    refine lv_icmp_ge (tgt := 25) hx hb dX7_isAskedOfDay_18 (by decide) (fun c3 => ?_) (fun c3 => ?_)
    · have e0 := itp _ c3 e0
      refine lv_iconst (v := 0) hx hb dX7_isAskedOfDay_25 (by decide) ?_
      have e0 := Option.some.inj e0
      subst e0
      exact t_zret X w hr rfl dX7_isAskedOfDay_26
    · have e0 := itn _ c3 e0
      refine lv_iconst (v := 1) hx hb dX7_isAskedOfDay_21 (by decide) ?_
      refine lv_goto (tgt := 26) hx hb dX7_isAskedOfDay_22 (by decide) ?_
      have e0 := Option.some.inj e0
      subst e0
      exact t_zret X w hr rfl dX7_isAskedOfDay_26
def fX7_isAskedOfDay (n : Nat) (a0 : Int32) : Option (Int32) :=
  if a0 < 0 then
    fX7_isAskedOfDay_b9 n a0
  else
    if a0 ≤ 4 then
      some 1
    else
      fX7_isAskedOfDay_b9 n a0
set_option maxRecDepth 20000 in
set_option maxHeartbeats 2000000 in
theorem fX7_isAskedOfDay_w {p : Program} {l : Launch} {e : Env} {s : State} {m : MethodId} {args : Array Value} {below : List Frame} {meth : Method} {c : Code} {n : Nat} {z : Int32} (X : tX p s m args c cX7_isAskedOfDay 1 wsX7_isAskedOfDay RX7) (hr : meth.sig.returnType = some .boolean ∧ meth.locks = false) {a0 : Int32} {H : Heap} {locs : List Loc} {ls : Array Slot} (w : sH s H locs) (hl : lv_has ls 1 [(0, .int a0)]) (e0 : fX7_isAskedOfDay n a0 = some z) : W p l e rmX7_isAskedOfDay s m args below meth c H locs 0 0 (MQ below (sQi z) args s 0 0 (fun _ => False)) (F0 m 0 ls []) := by
  have hx := X.1.1
  have hb := X.1.2.1
  unfold fX7_isAskedOfDay at e0
  refine lv_iload_n hx hb dX7_isAskedOfDay_0 rfl (lv_at hl 0 rfl) ?_
  refine lv_if_lt (tgt := 9) hx hb dX7_isAskedOfDay_1 (by decide) (fun c2 => ?_) (fun c2 => ?_)
  · have e0 := itp _ c2 e0
    exact fX7_isAskedOfDay_b9_w (l := l) X hr w (lv_sub hl [0] rfl) e0
  · have e0 := itn _ c2 e0
    refine lv_iload_n hx hb dX7_isAskedOfDay_4 rfl (lv_at hl 0 rfl) ?_
    refine lv_iconst (v := 4) hx hb dX7_isAskedOfDay_5 (by decide) ?_
    refine lv_icmp_le (tgt := 21) hx hb dX7_isAskedOfDay_6 (by decide) (fun c1 => ?_) (fun c1 => ?_)
    · have e0 := itp _ c1 e0
      refine lv_iconst (v := 1) hx hb dX7_isAskedOfDay_21 (by decide) ?_
      refine lv_goto (tgt := 26) hx hb dX7_isAskedOfDay_22 (by decide) ?_
      have e0 := Option.some.inj e0
      subst e0
      exact t_zret X w hr rfl dX7_isAskedOfDay_26
    · have e0 := itn _ c1 e0
      exact fX7_isAskedOfDay_b9_w (l := l) X hr w (lv_sub hl [0] rfl) e0
set_option maxRecDepth 20000 in
theorem fX7_isAskedOfDay_met (l : Launch) (n : Nat) (a0 : Int32) (z : Int32) (e0 : fX7_isAskedOfDay n a0 = some z) : Met l yX7_isAskedOfDay wsX7_isAskedOfDay rmX7_isAskedOfDay (va_Pc [.int a0] (fun U => cN U)) (sQi z) 0 0 (fun _ => False) := by
  refine Met.ofW (cc := cX7_isAskedOfDay) (maxL := 1) (ret := some .boolean) (by decide) rfl ?_
  intro p e s m args below meth c s₁ B hml hv
  obtain ⟨rfl, hN⟩ := hv
  have hl := lv_entry ([.int a0]) (n := 1) (Nat.le_of_ble_eq_true rfl)
  rw [lg_entry_eq]
  exact fX7_isAskedOfDay_w (s := s) ⟨⟨B.exec, B.bytes, hml, findClass_of_methodNamed B.named, atoms_spec (ws := wsX7_isAskedOfDay) B.pre⟩, hN⟩ ⟨B.returns, B.notSynchronized⟩ va_S.rf hl e0
theorem in_X7_areActs_X4 : ∀ w ∈ wsX40, w ∈ wsX7_areActs := fun _ h9 => List.mem_cons_of_mem _ (List.mem_append_right _ h9)
def rmX7_areActs : Room := { frames := 0, cells := 0, slots := 0, locals := 0 }
def fX7_areActs_b70 (n : Nat) (r0 : Nat) (k2 : Int32 → Int32 → Int32 → (Nat → Int32) → (Nat → Nat → Int32) → Option (Int32 × mSt)) (a1 : Int32) (a2 : Int32) (a3 : Int32) (I : Nat → Int32) (R : Nat → Nat → Int32) : Option (Int32 × mSt) :=
  k2 a1 a2 (a3 + 1) I R
set_option maxRecDepth 20000 in
set_option maxHeartbeats 2000000 in
theorem fX7_areActs_b70_w {p : Program} {l : Launch} {e : Env} {s : State} {m : MethodId} {args : Array Value} {below : List Frame} {meth : Method} {c : Code} {D : va_G} {y : ClassId} {yS : ClassId × ClassId} {q : Nat → Nat} {n : Nat} {z : Int32 × mSt} {r0 : Nat} (hr0 : r0 < 4) (X : cX p s m args c cX7_areActs 7 wsX7_areActs RX7 D y yS) (hr : meth.sig.returnType = some .boolean ∧ meth.locks = false) {k2 : Int32 → Int32 → Int32 → (Nat → Int32) → (Nat → Nat → Int32) → Option (Int32 × mSt)} (hk2 : ∀ (a1 : Int32) (a2 : Int32) (a3 : Int32) (I : Nat → Int32) (R : Nat → Nat → Int32) (H : Heap) (locs : List Loc) (ls : Array Slot), cH s D y yS q H locs I R → lv_has ls 7 [(0, .ref (q (1000 + 10 * r0))), (1, .int a1), (2, .int a2), (3, .int a3)] → k2 a1 a2 a3 I R = some z → W p l e rmX7_areActs s m args below meth c H locs 0 0 (MQ below (cQi D y yS q (cS y yS q s.heap.size) z) args s 0 0 (cS y yS q s.heap.size)) (F0 m 2 ls [])) {a1 : Int32} {a2 : Int32} {a3 : Int32} {I : Nat → Int32} {R : Nat → Nat → Int32} {H : Heap} {locs : List Loc} {ls : Array Slot} (w : cH s D y yS q H locs I R) (hl : lv_has ls 7 [(0, .ref (q (1000 + 10 * r0))), (1, .int a1), (2, .int a2), (3, .int a3)]) (e0 : fX7_areActs_b70 n r0 k2 a1 a2 a3 I R = some z) : W p l e rmX7_areActs s m args below meth c H locs 0 0 (MQ below (cQi D y yS q (cS y yS q s.heap.size) z) args s 0 0 (cS y yS q s.heap.size)) (F0 m 70 ls []) := by
  have hx := X.1.1
  have hb := X.1.2.1
  unfold fX7_areActs_b70 at e0
  refine lv_iinc (v := (a3 + 1)) (lv' := [(3, .int (a3 + 1)), (0, .ref (q (1000 + 10 * r0))), (1, .int a1), (2, .int a2)]) hx hb dX7_areActs_70 hl (k := 3) rfl rfl (by decide) rfl (fun ls hl => ?_)
  refine lv_goto (tgt := 2) hx hb dX7_areActs_73 (by decide) ?_
  exact hk2 _ _ _ _ _ _ _ _ w (lv_sub hl [1, 2, 3, 0] rfl) e0
def fX7_areActs_b56 (n : Nat) (r0 : Nat) (k2 : Int32 → Int32 → Int32 → (Nat → Int32) → (Nat → Nat → Int32) → Option (Int32 × mSt)) (a1 : Int32) (a2 : Int32) (a3 : Int32) (a5 : Int32) (t0 : Int32) (I : Nat → Int32) (R : Nat → Nat → Int32) : Option (Int32 × mSt) :=
  if a5 = 0 then
    if t0 = 0 then
      some (0, I, R)
    else
      fX7_areActs_b70 n r0 k2 a1 a2 a3 I R
  else
    fX7_areActs_b70 n r0 k2 a1 a2 a3 I R
set_option maxRecDepth 20000 in
set_option maxHeartbeats 2000000 in
theorem fX7_areActs_b56_w {p : Program} {l : Launch} {e : Env} {s : State} {m : MethodId} {args : Array Value} {below : List Frame} {meth : Method} {c : Code} {D : va_G} {y : ClassId} {yS : ClassId × ClassId} {q : Nat → Nat} {n : Nat} {z : Int32 × mSt} {r0 : Nat} (hr0 : r0 < 4) (X : cX p s m args c cX7_areActs 7 wsX7_areActs RX7 D y yS) (hr : meth.sig.returnType = some .boolean ∧ meth.locks = false) {k2 : Int32 → Int32 → Int32 → (Nat → Int32) → (Nat → Nat → Int32) → Option (Int32 × mSt)} (hk2 : ∀ (a1 : Int32) (a2 : Int32) (a3 : Int32) (I : Nat → Int32) (R : Nat → Nat → Int32) (H : Heap) (locs : List Loc) (ls : Array Slot), cH s D y yS q H locs I R → lv_has ls 7 [(0, .ref (q (1000 + 10 * r0))), (1, .int a1), (2, .int a2), (3, .int a3)] → k2 a1 a2 a3 I R = some z → W p l e rmX7_areActs s m args below meth c H locs 0 0 (MQ below (cQi D y yS q (cS y yS q s.heap.size) z) args s 0 0 (cS y yS q s.heap.size)) (F0 m 2 ls [])) {a1 : Int32} {a2 : Int32} {a3 : Int32} {a5 : Int32} {t0 : Int32} {I : Nat → Int32} {R : Nat → Nat → Int32} {H : Heap} {locs : List Loc} {ls : Array Slot} (w : cH s D y yS q H locs I R) (hl : lv_has ls 7 [(0, .ref (q (1000 + 10 * r0))), (1, .int a1), (2, .int a2), (3, .int a3), (5, .int a5)]) (e0 : fX7_areActs_b56 n r0 k2 a1 a2 a3 a5 t0 I R = some z) : W p l e rmX7_areActs s m args below meth c H locs 0 0 (MQ below (cQi D y yS q (cS y yS q s.heap.size) z) args s 0 0 (cS y yS q s.heap.size)) (F0 m 56 ls [.int t0]) := by
  have hx := X.1.1
  have hb := X.1.2.1
  unfold fX7_areActs_b56 at e0
  refine lv_istore (lv' := [(6, .int t0), (0, .ref (q (1000 + 10 * r0))), (1, .int a1), (2, .int a2), (3, .int a3), (5, .int a5)]) hx hb dX7_areActs_56 hl (by decide) rfl (fun ls hl => ?_)
  refine lv_iload hx hb dX7_areActs_58 (lv_at hl 5 rfl) ?_
  refine lv_if_ne (tgt := 70) hx hb dX7_areActs_60 (by decide) (fun c8 => ?_) (fun c8 => ?_)
  · have e0 := itn _ c8 e0
    exact fX7_areActs_b70_w (l := l) hr0 X hr hk2 w (lv_sub hl [1, 2, 3, 4] rfl) e0
  · have e0 := itp _ c8 e0
    refine lv_iload hx hb dX7_areActs_63 (lv_at hl 0 rfl) ?_
    refine lv_if_ne (tgt := 70) hx hb dX7_areActs_65 (by decide) (fun c7 => ?_) (fun c7 => ?_)
    · have e0 := itn _ c7 e0
      exact fX7_areActs_b70_w (l := l) hr0 X hr hk2 w (lv_sub hl [1, 2, 3, 4] rfl) e0
    · have e0 := itp _ c7 e0
      refine lv_iconst (v := 0) hx hb dX7_areActs_68 (by decide) ?_
      have e0 := Option.some.inj e0
      subst e0
      exact c_zret X w hr rfl dX7_areActs_69
def fX7_areActs_b55 (n : Nat) (r0 : Nat) (k2 : Int32 → Int32 → Int32 → (Nat → Int32) → (Nat → Nat → Int32) → Option (Int32 × mSt)) (a1 : Int32) (a2 : Int32) (a3 : Int32) (a5 : Int32) (I : Nat → Int32) (R : Nat → Nat → Int32) : Option (Int32 × mSt) :=
  fX7_areActs_b56 n r0 k2 a1 a2 a3 a5 0 I R
set_option maxRecDepth 20000 in
set_option maxHeartbeats 2000000 in
theorem fX7_areActs_b55_w {p : Program} {l : Launch} {e : Env} {s : State} {m : MethodId} {args : Array Value} {below : List Frame} {meth : Method} {c : Code} {D : va_G} {y : ClassId} {yS : ClassId × ClassId} {q : Nat → Nat} {n : Nat} {z : Int32 × mSt} {r0 : Nat} (hr0 : r0 < 4) (X : cX p s m args c cX7_areActs 7 wsX7_areActs RX7 D y yS) (hr : meth.sig.returnType = some .boolean ∧ meth.locks = false) {k2 : Int32 → Int32 → Int32 → (Nat → Int32) → (Nat → Nat → Int32) → Option (Int32 × mSt)} (hk2 : ∀ (a1 : Int32) (a2 : Int32) (a3 : Int32) (I : Nat → Int32) (R : Nat → Nat → Int32) (H : Heap) (locs : List Loc) (ls : Array Slot), cH s D y yS q H locs I R → lv_has ls 7 [(0, .ref (q (1000 + 10 * r0))), (1, .int a1), (2, .int a2), (3, .int a3)] → k2 a1 a2 a3 I R = some z → W p l e rmX7_areActs s m args below meth c H locs 0 0 (MQ below (cQi D y yS q (cS y yS q s.heap.size) z) args s 0 0 (cS y yS q s.heap.size)) (F0 m 2 ls [])) {a1 : Int32} {a2 : Int32} {a3 : Int32} {a5 : Int32} {I : Nat → Int32} {R : Nat → Nat → Int32} {H : Heap} {locs : List Loc} {ls : Array Slot} (w : cH s D y yS q H locs I R) (hl : lv_has ls 7 [(0, .ref (q (1000 + 10 * r0))), (1, .int a1), (2, .int a2), (3, .int a3), (5, .int a5)]) (e0 : fX7_areActs_b55 n r0 k2 a1 a2 a3 a5 I R = some z) : W p l e rmX7_areActs s m args below meth c H locs 0 0 (MQ below (cQi D y yS q (cS y yS q s.heap.size) z) args s 0 0 (cS y yS q s.heap.size)) (F0 m 55 ls []) := by
  have hx := X.1.1
  have hb := X.1.2.1
  unfold fX7_areActs_b55 at e0
  refine lv_iconst (v := 0) hx hb dX7_areActs_55 (by decide) ?_
  exact fX7_areActs_b56_w (l := l) hr0 X hr hk2 w (lv_sub hl [0, 1, 2, 3, 4] rfl) e0
def fX7_areActs_b35 (n : Nat) (r0 : Nat) (k2 : Int32 → Int32 → Int32 → (Nat → Int32) → (Nat → Nat → Int32) → Option (Int32 × mSt)) (a1 : Int32) (a2 : Int32) (a3 : Int32) (a4 : Int32) (t0 : Int32) (I : Nat → Int32) (R : Nat → Nat → Int32) : Option (Int32 × mSt) :=
  if a4 < 10 then
    fX7_areActs_b55 n r0 k2 a1 a2 a3 t0 I R
  else
    if 15 ≤ a4 then
      fX7_areActs_b55 n r0 k2 a1 a2 a3 t0 I R
    else
      fX7_areActs_b56 n r0 k2 a1 a2 a3 t0 1 I R
set_option maxRecDepth 20000 in
set_option maxHeartbeats 2000000 in
theorem fX7_areActs_b35_w {p : Program} {l : Launch} {e : Env} {s : State} {m : MethodId} {args : Array Value} {below : List Frame} {meth : Method} {c : Code} {D : va_G} {y : ClassId} {yS : ClassId × ClassId} {q : Nat → Nat} {n : Nat} {z : Int32 × mSt} {r0 : Nat} (hr0 : r0 < 4) (X : cX p s m args c cX7_areActs 7 wsX7_areActs RX7 D y yS) (hr : meth.sig.returnType = some .boolean ∧ meth.locks = false) {k2 : Int32 → Int32 → Int32 → (Nat → Int32) → (Nat → Nat → Int32) → Option (Int32 × mSt)} (hk2 : ∀ (a1 : Int32) (a2 : Int32) (a3 : Int32) (I : Nat → Int32) (R : Nat → Nat → Int32) (H : Heap) (locs : List Loc) (ls : Array Slot), cH s D y yS q H locs I R → lv_has ls 7 [(0, .ref (q (1000 + 10 * r0))), (1, .int a1), (2, .int a2), (3, .int a3)] → k2 a1 a2 a3 I R = some z → W p l e rmX7_areActs s m args below meth c H locs 0 0 (MQ below (cQi D y yS q (cS y yS q s.heap.size) z) args s 0 0 (cS y yS q s.heap.size)) (F0 m 2 ls [])) {a1 : Int32} {a2 : Int32} {a3 : Int32} {a4 : Int32} {t0 : Int32} {I : Nat → Int32} {R : Nat → Nat → Int32} {H : Heap} {locs : List Loc} {ls : Array Slot} (w : cH s D y yS q H locs I R) (hl : lv_has ls 7 [(0, .ref (q (1000 + 10 * r0))), (1, .int a1), (2, .int a2), (3, .int a3), (4, .int a4)]) (e0 : fX7_areActs_b35 n r0 k2 a1 a2 a3 a4 t0 I R = some z) : W p l e rmX7_areActs s m args below meth c H locs 0 0 (MQ below (cQi D y yS q (cS y yS q s.heap.size) z) args s 0 0 (cS y yS q s.heap.size)) (F0 m 35 ls [.int t0]) := by
  have hx := X.1.1
  have hb := X.1.2.1
  unfold fX7_areActs_b35 at e0
  refine lv_istore (lv' := [(5, .int t0), (0, .ref (q (1000 + 10 * r0))), (1, .int a1), (2, .int a2), (3, .int a3), (4, .int a4)]) hx hb dX7_areActs_35 hl (by decide) rfl (fun ls hl => ?_)
  refine lv_iload hx hb dX7_areActs_37 (lv_at hl 5 rfl) ?_
  refine lv_bipush (v := 10) hx hb dX7_areActs_39 (by decide) ?_
  refine lv_icmp_lt (tgt := 55) hx hb dX7_areActs_41 (by decide) (fun c6 => ?_) (fun c6 => ?_)
  · have e0 := itp _ c6 e0
    exact fX7_areActs_b55_w (l := l) hr0 X hr hk2 w (lv_sub hl [1, 2, 3, 4, 0] rfl) e0
  · have e0 := itn _ c6 e0
    refine lv_iload hx hb dX7_areActs_44 (lv_at hl 5 rfl) ?_
    refine lv_bipush (v := 15) hx hb dX7_areActs_46 (by decide) ?_
    refine lv_icmp_ge (tgt := 55) hx hb dX7_areActs_48 (by decide) (fun c5 => ?_) (fun c5 => ?_)
    · have e0 := itp _ c5 e0
      exact fX7_areActs_b55_w (l := l) hr0 X hr hk2 w (lv_sub hl [1, 2, 3, 4, 0] rfl) e0
    · have e0 := itn _ c5 e0
      refine lv_iconst (v := 1) hx hb dX7_areActs_51 (by decide) ?_
      refine lv_goto (tgt := 56) hx hb dX7_areActs_52 (by decide) ?_
      exact fX7_areActs_b56_w (l := l) hr0 X hr hk2 w (lv_sub hl [1, 2, 3, 4, 0] rfl) e0
def fX7_areActs_b34 (n : Nat) (r0 : Nat) (k2 : Int32 → Int32 → Int32 → (Nat → Int32) → (Nat → Nat → Int32) → Option (Int32 × mSt)) (a1 : Int32) (a2 : Int32) (a3 : Int32) (a4 : Int32) (I : Nat → Int32) (R : Nat → Nat → Int32) : Option (Int32 × mSt) :=
  fX7_areActs_b35 n r0 k2 a1 a2 a3 a4 0 I R
set_option maxRecDepth 20000 in
set_option maxHeartbeats 2000000 in
theorem fX7_areActs_b34_w {p : Program} {l : Launch} {e : Env} {s : State} {m : MethodId} {args : Array Value} {below : List Frame} {meth : Method} {c : Code} {D : va_G} {y : ClassId} {yS : ClassId × ClassId} {q : Nat → Nat} {n : Nat} {z : Int32 × mSt} {r0 : Nat} (hr0 : r0 < 4) (X : cX p s m args c cX7_areActs 7 wsX7_areActs RX7 D y yS) (hr : meth.sig.returnType = some .boolean ∧ meth.locks = false) {k2 : Int32 → Int32 → Int32 → (Nat → Int32) → (Nat → Nat → Int32) → Option (Int32 × mSt)} (hk2 : ∀ (a1 : Int32) (a2 : Int32) (a3 : Int32) (I : Nat → Int32) (R : Nat → Nat → Int32) (H : Heap) (locs : List Loc) (ls : Array Slot), cH s D y yS q H locs I R → lv_has ls 7 [(0, .ref (q (1000 + 10 * r0))), (1, .int a1), (2, .int a2), (3, .int a3)] → k2 a1 a2 a3 I R = some z → W p l e rmX7_areActs s m args below meth c H locs 0 0 (MQ below (cQi D y yS q (cS y yS q s.heap.size) z) args s 0 0 (cS y yS q s.heap.size)) (F0 m 2 ls [])) {a1 : Int32} {a2 : Int32} {a3 : Int32} {a4 : Int32} {I : Nat → Int32} {R : Nat → Nat → Int32} {H : Heap} {locs : List Loc} {ls : Array Slot} (w : cH s D y yS q H locs I R) (hl : lv_has ls 7 [(0, .ref (q (1000 + 10 * r0))), (1, .int a1), (2, .int a2), (3, .int a3), (4, .int a4)]) (e0 : fX7_areActs_b34 n r0 k2 a1 a2 a3 a4 I R = some z) : W p l e rmX7_areActs s m args below meth c H locs 0 0 (MQ below (cQi D y yS q (cS y yS q s.heap.size) z) args s 0 0 (cS y yS q s.heap.size)) (F0 m 34 ls []) := by
  have hx := X.1.1
  have hb := X.1.2.1
  unfold fX7_areActs_b34 at e0
  refine lv_iconst (v := 0) hx hb dX7_areActs_34 (by decide) ?_
  exact fX7_areActs_b35_w (l := l) hr0 X hr hk2 w (lv_sub hl [0, 1, 2, 3, 4] rfl) e0
def fX7_areActs_b2 (n : Nat) (r0 : Nat) : Nat → Int32 → Int32 → Int32 → (Nat → Int32) → (Nat → Nat → Int32) → Option (Int32 × mSt)
  | 0, _, _, _, _, _ => none
  | j + 1, a1, a2, a3, I, R =>
    if a2 ≤ a3 then
      some (1, I, R)
    else
      if inb (a1 + (3 * a3)) 60 = true then
      if (getA R (1001 + 10 * r0) (a1 + (3 * a3))) < 0 then
        fX7_areActs_b34 n r0 (fX7_areActs_b2 n r0 j) a1 a2 a3 (getA R (1001 + 10 * r0) (a1 + (3 * a3))) I R
      else
        if 4 ≤ (getA R (1001 + 10 * r0) (a1 + (3 * a3))) then
          fX7_areActs_b34 n r0 (fX7_areActs_b2 n r0 j) a1 a2 a3 (getA R (1001 + 10 * r0) (a1 + (3 * a3))) I R
        else
          fX7_areActs_b35 n r0 (fX7_areActs_b2 n r0 j) a1 a2 a3 (getA R (1001 + 10 * r0) (a1 + (3 * a3))) 1 I R
      else none
set_option maxRecDepth 20000 in
set_option maxHeartbeats 2000000 in
theorem fX7_areActs_b2_w {p : Program} {l : Launch} {e : Env} {s : State} {m : MethodId} {args : Array Value} {below : List Frame} {meth : Method} {c : Code} {D : va_G} {y : ClassId} {yS : ClassId × ClassId} {q : Nat → Nat} {n : Nat} {z : Int32 × mSt} {r0 : Nat} (hr0 : r0 < 4) (X : cX p s m args c cX7_areActs 7 wsX7_areActs RX7 D y yS) (hr : meth.sig.returnType = some .boolean ∧ meth.locks = false) : ∀ (j : Nat) (a1 : Int32) (a2 : Int32) (a3 : Int32) (I : Nat → Int32) (R : Nat → Nat → Int32) (H : Heap) (locs : List Loc) (ls : Array Slot), cH s D y yS q H locs I R → lv_has ls 7 [(0, .ref (q (1000 + 10 * r0))), (1, .int a1), (2, .int a2), (3, .int a3)] → fX7_areActs_b2 n r0 j a1 a2 a3 I R = some z → W p l e rmX7_areActs s m args below meth c H locs 0 0 (MQ below (cQi D y yS q (cS y yS q s.heap.size) z) args s 0 0 (cS y yS q s.heap.size)) (F0 m 2 ls []) := by
  have hx := X.1.1
  have hb := X.1.2.1
  intro j
  induction j with
  | zero =>
    intro a1 a2 a3 I R H locs ls w hl e0
    cases e0
  | succ j ih =>
    intro a1 a2 a3 I R H locs ls w hl e0
    rw [fX7_areActs_b2] at e0
    refine lv_iload_n hx hb dX7_areActs_2 rfl (lv_at hl 3 rfl) ?_
    refine lv_iload_n hx hb dX7_areActs_3 rfl (lv_at hl 2 rfl) ?_
    refine lv_icmp_ge (tgt := 76) hx hb dX7_areActs_4 (by decide) (fun c4 => ?_) (fun c4 => ?_)
    · have e0 := itp _ c4 e0
      refine lv_iconst (v := 1) hx hb dX7_areActs_76 (by decide) ?_
      have e0 := Option.some.inj e0
      subst e0
      exact c_zret X w hr rfl dX7_areActs_77
    · have e0 := itn _ c4 e0
      refine lv_aload_n hx hb dX7_areActs_7 rfl (lv_at hl 0 rfl) ?_
      refine c_get X w (cat_SH _ _ _ _ _ r0 hr0) rfl in_X7_areActs_X4 0 (by decide) (index := 218) rfl (by decide +kernel) (cf_SH_0 _ _ _) dX7_areActs_8 ?_
      refine lv_iload_n hx hb dX7_areActs_11 rfl (lv_at hl 1 rfl) ?_
      refine lv_iconst (v := 3) hx hb dX7_areActs_12 (by decide) ?_
      refine lv_iload_n hx hb dX7_areActs_13 rfl (lv_at hl 3 rfl) ?_
      refine lv_imul hx hb dX7_areActs_14 ?_
      refine lv_iadd hx hb dX7_areActs_15 ?_
      refine gd e0 (fun g1 e0 => ?_)
      refine c_ald X w (cat_a1001 _ _ _ _ _ r0 hr0) g1 dX7_areActs_16 ?_
      refine lv_istore (lv' := [(4, .int (getA R (1001 + 10 * r0) (a1 + (3 * a3)))), (0, .ref (q (1000 + 10 * r0))), (1, .int a1), (2, .int a2), (3, .int a3)]) hx hb dX7_areActs_17 hl (by decide) rfl (fun ls hl => ?_)
      refine lv_iload hx hb dX7_areActs_19 (lv_at hl 0 rfl) ?_
      refine lv_if_lt (tgt := 34) hx hb dX7_areActs_21 (by decide) (fun c3 => ?_) (fun c3 => ?_)
      · have e0 := itp _ c3 e0
        exact fX7_areActs_b34_w (l := l) hr0 X hr ih w (lv_sub hl [1, 2, 3, 4, 0] rfl) e0
      · have e0 := itn _ c3 e0
        refine lv_iload hx hb dX7_areActs_24 (lv_at hl 0 rfl) ?_
        refine lv_iconst (v := 4) hx hb dX7_areActs_26 (by decide) ?_
        refine lv_icmp_ge (tgt := 34) hx hb dX7_areActs_27 (by decide) (fun c2 => ?_) (fun c2 => ?_)
        · have e0 := itp _ c2 e0
          exact fX7_areActs_b34_w (l := l) hr0 X hr ih w (lv_sub hl [1, 2, 3, 4, 0] rfl) e0
        · have e0 := itn _ c2 e0
          refine lv_iconst (v := 1) hx hb dX7_areActs_30 (by decide) ?_
          refine lv_goto (tgt := 35) hx hb dX7_areActs_31 (by decide) ?_
          exact fX7_areActs_b35_w (l := l) hr0 X hr ih w (lv_sub hl [1, 2, 3, 4, 0] rfl) e0
def fX7_areActs (n : Nat) (r0 : Nat) (a1 : Int32) (a2 : Int32) (I : Nat → Int32) (R : Nat → Nat → Int32) : Option (Int32 × mSt) :=
  fX7_areActs_b2 n r0 n a1 a2 0 I R
set_option maxRecDepth 20000 in
set_option maxHeartbeats 2000000 in
theorem fX7_areActs_w {p : Program} {l : Launch} {e : Env} {s : State} {m : MethodId} {args : Array Value} {below : List Frame} {meth : Method} {c : Code} {D : va_G} {y : ClassId} {yS : ClassId × ClassId} {q : Nat → Nat} {n : Nat} {z : Int32 × mSt} {r0 : Nat} (hr0 : r0 < 4) (X : cX p s m args c cX7_areActs 7 wsX7_areActs RX7 D y yS) (hr : meth.sig.returnType = some .boolean ∧ meth.locks = false) {a1 : Int32} {a2 : Int32} {I : Nat → Int32} {R : Nat → Nat → Int32} {H : Heap} {locs : List Loc} {ls : Array Slot} (w : cH s D y yS q H locs I R) (hl : lv_has ls 7 [(0, .ref (q (1000 + 10 * r0))), (1, .int a1), (2, .int a2)]) (e0 : fX7_areActs n r0 a1 a2 I R = some z) : W p l e rmX7_areActs s m args below meth c H locs 0 0 (MQ below (cQi D y yS q (cS y yS q s.heap.size) z) args s 0 0 (cS y yS q s.heap.size)) (F0 m 0 ls []) := by
  have hx := X.1.1
  have hb := X.1.2.1
  unfold fX7_areActs at e0
  refine lv_iconst (v := 0) hx hb dX7_areActs_0 (by decide) ?_
  refine lv_istore_n (lv' := [(3, .int 0), (0, .ref (q (1000 + 10 * r0))), (1, .int a1), (2, .int a2)]) hx hb dX7_areActs_1 rfl hl (by decide) rfl (fun ls hl => ?_)
  exact fX7_areActs_b2_w (l := l) hr0 X hr n _ _ _ _ _ _ _ _ w (lv_sub hl [1, 2, 3, 0] rfl) e0
set_option maxRecDepth 20000 in
theorem fX7_areActs_met (l : Launch) (D : va_G) (y : ClassId) (yS : ClassId × ClassId) (q : Nat → Nat) (sz n : Nat) (r0 : Nat) (hr0 : r0 < 4) (a1 : Int32) (a2 : Int32) (I : Nat → Int32) (R : Nat → Nat → Int32) (z : Int32 × mSt) (e0 : fX7_areActs n r0 a1 a2 I R = some z) : Met l yX7_areActs wsX7_areActs rmX7_areActs (va_Pc [.ref (q (1000 + 10 * r0)), .int a1, .int a2] (cPre D y yS q sz I R)) (cQi D y yS q (cS y yS q sz) z) 0 0 (cS y yS q sz) := by
  refine Met.ofW (cc := cX7_areActs) (maxL := 7) (ret := some .boolean) (by decide) rfl ?_
  intro p e s m args below meth c s₁ B hml hv
  obtain ⟨rfl, hsz, hP, hK, hN, hD⟩ := hv
  subst hsz
  have hl := lv_entry ([.ref (q (1000 + 10 * r0)), .int a1, .int a2]) (n := 7) (Nat.le_of_ble_eq_true rfl)
  rw [lg_entry_eq]
  exact fX7_areActs_w (s := s) hr0 ⟨⟨B.exec, B.bytes, hml, findClass_of_methodNamed B.named, atoms_spec (ws := wsX7_areActs) B.pre⟩, hK, hN⟩ ⟨B.returns, B.notSynchronized⟩ ⟨hP, cS_D hD, va_S.rf⟩ hl e0
theorem in_X7_acts_X7 : ∀ w ∈ wsX70, w ∈ wsX7_acts := fun _ h9 => List.mem_cons_of_mem _ (List.mem_append_left _ (List.mem_append_left _ (List.mem_append_left _ (List.mem_append_right _ h9))))
theorem in_X7_acts_X6 : ∀ w ∈ wsX60, w ∈ wsX7_acts := fun _ h9 => List.mem_cons_of_mem _ (List.mem_append_left _ (List.mem_append_left _ (List.mem_append_right _ h9)))
theorem in_X7_acts_X2 : ∀ w ∈ wsX20, w ∈ wsX7_acts := fun _ h9 => List.mem_cons_of_mem _ (List.mem_append_left _ (List.mem_append_right _ h9))
theorem in_X7_acts_X1 : ∀ w ∈ wsX10, w ∈ wsX7_acts := fun _ h9 => List.mem_cons_of_mem _ (List.mem_append_right _ h9)
def rmX7_acts : Room := { frames := 5, cells := 0, slots := 0, locals := 121 }
def fX7_acts (n : Nat) (a1 : Int32) (a2 : Int32) (a3 : Int32) (I : Nat → Int32) (R : Nat → Nat → Int32) : Option (Int32 × mSt) :=
  if a1 < 10 then
    if a1 < 0 then
      some (0, I, R)
    else
      if (I (118 + 100 * 1)) ≤ a1 then
        some (0, I, R)
      else
        (fX7_isThing n a2).bind fun z1 =>
        if z1 = 0 then
          some (0, I, R)
        else
          (fX7_isThing n a3).bind fun z3 =>
          if z3 = 0 then
            some (0, I, R)
          else
            (fX6_toggle n 1 a1 a2 a3 I R).bind fun z5 =>
            some (1, z5.2.1, z5.2.2)
  else
    if (I (119 + 100 * 1)) ≤ (a1 - 10) then
      some (0, I, R)
    else
      (fX2_fits n 1 (a1 - 10) a2 I R).bind fun z11 =>
      if z11.1 = 0 then
        some (0, z11.2.1, z11.2.2)
      else
        (fX6_reforms n 1 (a1 - 10) a2 z11.2.1 z11.2.2).bind fun z13 =>
        if z13.1 = 0 then
          some (0, z13.2.1, z13.2.2)
        else
          some (1, z13.2.1, z13.2.2)
set_option maxRecDepth 20000 in
set_option maxHeartbeats 2000000 in
theorem fX7_acts_w {p : Program} {l : Launch} {e : Env} {s : State} {m : MethodId} {args : Array Value} {below : List Frame} {meth : Method} {c : Code} {D : va_G} {y : ClassId} {yS : ClassId × ClassId} {q : Nat → Nat} {n : Nat} {z : Int32 × mSt} (X : cX p s m args c cX7_acts 5 wsX7_acts RX7 D y yS) (hr : meth.sig.returnType = some .boolean ∧ meth.locks = false) {a1 : Int32} {a2 : Int32} {a3 : Int32} {I : Nat → Int32} {R : Nat → Nat → Int32} {H : Heap} {locs : List Loc} {ls : Array Slot} (w : cH s D y yS q H locs I R) (hl : lv_has ls 5 [(0, .ref (q 0)), (1, .int a1), (2, .int a2), (3, .int a3)]) (e0 : fX7_acts n a1 a2 a3 I R = some z) : W p l e rmX7_acts s m args below meth c H locs 0 0 (MQ below (cQi D y yS q (cS y yS q s.heap.size) z) args s 0 0 (cS y yS q s.heap.size)) (F0 m 0 ls []) := by
  have hx := X.1.1
  have hb := X.1.2.1
  unfold fX7_acts at e0
  refine lv_iload_n hx hb dX7_acts_0 rfl (lv_at hl 1 rfl) ?_
  refine lv_bipush (v := 10) hx hb dX7_acts_1 (by decide) ?_
  refine lv_icmp_lt (tgt := 62) hx hb dX7_acts_3 (by decide) (fun c18 => ?_) (fun c18 => ?_)
  · have e0 := itp _ c18 e0
    refine lv_iload_n hx hb dX7_acts_62 rfl (lv_at hl 1 rfl) ?_
    refine lv_if_lt (tgt := 94) hx hb dX7_acts_63 (by decide) (fun c10 => ?_) (fun c10 => ?_)
    · have e0 := itp _ c10 e0
      refine lv_iconst (v := 0) hx hb dX7_acts_94 (by decide) ?_
      have e0 := Option.some.inj e0
      subst e0
      exact c_zret X w hr rfl dX7_acts_95
    · have e0 := itn _ c10 e0
      refine lv_iload_n hx hb dX7_acts_66 rfl (lv_at hl 1 rfl) ?_
      refine lv_aload_n hx hb dX7_acts_67 rfl (lv_at hl 0 rfl) ?_
      refine c_get X w (cat_RR _ _ _ _ _) rfl in_X7_acts_X7 2 (by decide) (index := 25) rfl (by decide +kernel) (cf_RR_2 _ _) dX7_acts_68 ?_
      refine c_get X w (cat_WO _ _ _ _ _ 1 (by decide)) rfl in_X7_acts_X6 0 (by decide) (index := 68) rfl (by decide +kernel) (cf_WO_0 _ _ _) dX7_acts_71 ?_
      refine c_get X w (cat_PR _ _ _ _ _ 1 (by decide)) rfl in_X7_acts_X2 7 (by decide) (index := 236) rfl (by decide +kernel) (cf_PR_7 _ _ _) dX7_acts_74 ?_
      refine lv_icmp_ge (tgt := 94) hx hb dX7_acts_77 (by decide) (fun c9 => ?_) (fun c9 => ?_)
      · have e0 := itp _ c9 e0
        refine lv_iconst (v := 0) hx hb dX7_acts_94 (by decide) ?_
        have e0 := Option.some.inj e0
        subst e0
        exact c_zret X w hr rfl dX7_acts_95
      · have e0 := itn _ c9 e0
        refine lv_iload_n hx hb dX7_acts_80 rfl (lv_at hl 2 rfl) ?_
        refine bd e0 (fun z1 e2 e0 => ?_)
        refine c_callsi X w (n := 1) (As := [.int a2]) (rest := []) (fX7_isThing_met l _ _ _ e2) gX7_acts_X7_isThing rfl rfl rfl (by decide +kernel) ⟨Nat.le_of_ble_eq_true rfl, Nat.le_of_ble_eq_true rfl⟩ rfl hl.1 rfl (Nat.le_of_ble_eq_true rfl) dX7_acts_81 (fun H locs w => ?_)
        refine lv_if_eq (tgt := 94) hx hb dX7_acts_84 (by decide) (fun c8 => ?_) (fun c8 => ?_)
        · have e0 := itp _ c8 e0
          refine lv_iconst (v := 0) hx hb dX7_acts_94 (by decide) ?_
          have e0 := Option.some.inj e0
          subst e0
          exact c_zret X w hr rfl dX7_acts_95
        · have e0 := itn _ c8 e0
          refine lv_iload_n hx hb dX7_acts_87 rfl (lv_at hl 3 rfl) ?_
          refine bd e0 (fun z3 e4 e0 => ?_)
          refine c_callsi X w (n := 1) (As := [.int a3]) (rest := []) (fX7_isThing_met l _ _ _ e4) gX7_acts_X7_isThing rfl rfl rfl (by decide +kernel) ⟨Nat.le_of_ble_eq_true rfl, Nat.le_of_ble_eq_true rfl⟩ rfl hl.1 rfl (Nat.le_of_ble_eq_true rfl) dX7_acts_88 (fun H locs w => ?_)
          refine lv_if_ne (tgt := 96) hx hb dX7_acts_91 (by decide) (fun c7 => ?_) (fun c7 => ?_)
          · have e0 := itn _ c7 e0
            refine lv_aload_n hx hb dX7_acts_96 rfl (lv_at hl 0 rfl) ?_
            refine c_get X w (cat_RR _ _ _ _ _) rfl in_X7_acts_X7 2 (by decide) (index := 25) rfl (by decide +kernel) (cf_RR_2 _ _) dX7_acts_97 ?_
            refine lv_iload_n hx hb dX7_acts_100 rfl (lv_at hl 1 rfl) ?_
            refine lv_iload_n hx hb dX7_acts_101 rfl (lv_at hl 2 rfl) ?_
            refine lv_iload_n hx hb dX7_acts_102 rfl (lv_at hl 3 rfl) ?_
            refine bd e0 (fun z5 e6 e0 => ?_)
            refine c_calli X w (c_rec X w (cat_WO _ _ _ _ _ 1 (by decide)) rfl) (n := 3) (As := [.int a1, .int a2, .int a3]) (rest := []) (fX6_toggle_met l _ _ _ _ _ _ _ (by decide) _ _ _ _ _ _ e6) gX7_acts_X6_toggle rfl rfl rfl (by decide +kernel) ⟨Nat.le_of_ble_eq_true rfl, Nat.le_of_ble_eq_true rfl⟩ rfl hl.1 rfl (Nat.le_of_ble_eq_true rfl) dX7_acts_103 (fun H locs w => ?_)
            refine lv_pop hx hb dX7_acts_106 rfl ?_
            refine lv_iconst (v := 1) hx hb dX7_acts_107 (by decide) ?_
            have e0 := Option.some.inj e0
            subst e0
            exact c_zret X w hr rfl dX7_acts_108
          · have e0 := itp _ c7 e0
            refine lv_iconst (v := 0) hx hb dX7_acts_94 (by decide) ?_
            have e0 := Option.some.inj e0
            subst e0
            exact c_zret X w hr rfl dX7_acts_95
  · have e0 := itn _ c18 e0
    refine lv_iload_n hx hb dX7_acts_6 rfl (lv_at hl 1 rfl) ?_
    refine lv_bipush (v := 10) hx hb dX7_acts_7 (by decide) ?_
    refine lv_isub hx hb dX7_acts_9 ?_
    refine lv_istore (lv' := [(4, .int (a1 - 10)), (0, .ref (q 0)), (1, .int a1), (2, .int a2), (3, .int a3)]) hx hb dX7_acts_10 hl (by decide) rfl (fun ls hl => ?_)
    refine lv_iload hx hb dX7_acts_12 (lv_at hl 0 rfl) ?_
    refine lv_aload_n hx hb dX7_acts_14 rfl (lv_at hl 1 rfl) ?_
    refine c_get X w (cat_RR _ _ _ _ _) rfl in_X7_acts_X7 2 (by decide) (index := 25) rfl (by decide +kernel) (cf_RR_2 _ _) dX7_acts_15 ?_
    refine c_get X w (cat_WO _ _ _ _ _ 1 (by decide)) rfl in_X7_acts_X6 0 (by decide) (index := 68) rfl (by decide +kernel) (cf_WO_0 _ _ _) dX7_acts_18 ?_
    refine c_get X w (cat_PR _ _ _ _ _ 1 (by decide)) rfl in_X7_acts_X2 8 (by decide) (index := 100) rfl (by decide +kernel) (cf_PR_8 _ _ _) dX7_acts_21 ?_
    refine lv_icmp_ge (tgt := 60) hx hb dX7_acts_24 (by decide) (fun c17 => ?_) (fun c17 => ?_)
    · have e0 := itp _ c17 e0
      refine lv_iconst (v := 0) hx hb dX7_acts_60 (by decide) ?_
      have e0 := Option.some.inj e0
      subst e0
      exact c_zret X w hr rfl dX7_acts_61
    · have e0 := itn _ c17 e0
      refine lv_aload_n hx hb dX7_acts_27 rfl (lv_at hl 1 rfl) ?_
      refine c_get X w (cat_RR _ _ _ _ _) rfl in_X7_acts_X7 2 (by decide) (index := 25) rfl (by decide +kernel) (cf_RR_2 _ _) dX7_acts_28 ?_
      refine c_get X w (cat_WO _ _ _ _ _ 1 (by decide)) rfl in_X7_acts_X6 0 (by decide) (index := 68) rfl (by decide +kernel) (cf_WO_0 _ _ _) dX7_acts_31 ?_
      refine lv_iload hx hb dX7_acts_34 (lv_at hl 0 rfl) ?_
      refine lv_iload_n hx hb dX7_acts_36 rfl (lv_at hl 3 rfl) ?_
      refine bd e0 (fun z11 e12 e0 => ?_)
      refine c_calli X w (c_rec X w (cat_PR _ _ _ _ _ 1 (by decide)) rfl) (n := 2) (As := [.int (a1 - 10), .int a2]) (rest := []) (fX2_fits_met l _ _ _ _ _ _ _ (by decide) _ _ _ _ _ e12) gX7_acts_X2_fits rfl rfl rfl (by decide +kernel) ⟨Nat.le_of_ble_eq_true rfl, Nat.le_of_ble_eq_true rfl⟩ rfl hl.1 rfl (Nat.le_of_ble_eq_true rfl) dX7_acts_37 (fun H locs w => ?_)
      refine lv_if_eq (tgt := 60) hx hb dX7_acts_40 (by decide) (fun c16 => ?_) (fun c16 => ?_)
      · have e0 := itp _ c16 e0
        refine lv_iconst (v := 0) hx hb dX7_acts_60 (by decide) ?_
        have e0 := Option.some.inj e0
        subst e0
        exact c_zret X w hr rfl dX7_acts_61
      · have e0 := itn _ c16 e0
        refine lv_aload_n hx hb dX7_acts_43 rfl (lv_at hl 1 rfl) ?_
        refine c_get X w (cat_RR _ _ _ _ _) rfl in_X7_acts_X7 2 (by decide) (index := 25) rfl (by decide +kernel) (cf_RR_2 _ _) dX7_acts_44 ?_
        refine lv_iload hx hb dX7_acts_47 (lv_at hl 0 rfl) ?_
        refine lv_iload_n hx hb dX7_acts_49 rfl (lv_at hl 3 rfl) ?_
        refine bd e0 (fun z13 e14 e0 => ?_)
        refine c_calli X w (c_rec X w (cat_WO _ _ _ _ _ 1 (by decide)) rfl) (n := 2) (As := [.int (a1 - 10), .int a2]) (rest := []) (fX6_reforms_met l _ _ _ _ _ _ _ (by decide) _ _ _ _ _ e14) gX7_acts_X6_reforms rfl rfl rfl (by decide +kernel) ⟨Nat.le_of_ble_eq_true rfl, Nat.le_of_ble_eq_true rfl⟩ rfl hl.1 rfl (Nat.le_of_ble_eq_true rfl) dX7_acts_50 (fun H locs w => ?_)
        refine lv_if_eq (tgt := 60) hx hb dX7_acts_53 (by decide) (fun c15 => ?_) (fun c15 => ?_)
        · have e0 := itp _ c15 e0
          refine lv_iconst (v := 0) hx hb dX7_acts_60 (by decide) ?_
          have e0 := Option.some.inj e0
          subst e0
          exact c_zret X w hr rfl dX7_acts_61
        · have e0 := itn _ c15 e0
          refine lv_iconst (v := 1) hx hb dX7_acts_56 (by decide) ?_
          refine lv_goto (tgt := 61) hx hb dX7_acts_57 (by decide) ?_
          have e0 := Option.some.inj e0
          subst e0
          exact c_zret X w hr rfl dX7_acts_61
set_option maxRecDepth 20000 in
theorem fX7_acts_met (l : Launch) (D : va_G) (y : ClassId) (yS : ClassId × ClassId) (q : Nat → Nat) (sz n : Nat) (a1 : Int32) (a2 : Int32) (a3 : Int32) (I : Nat → Int32) (R : Nat → Nat → Int32) (z : Int32 × mSt) (e0 : fX7_acts n a1 a2 a3 I R = some z) : Met l yX7_acts wsX7_acts rmX7_acts (va_Pc [.ref (q 0), .int a1, .int a2, .int a3] (cPre D y yS q sz I R)) (cQi D y yS q (cS y yS q sz) z) 0 0 (cS y yS q sz) := by
  refine Met.ofW (cc := cX7_acts) (maxL := 5) (ret := some .boolean) (by decide) rfl ?_
  intro p e s m args below meth c s₁ B hml hv
  obtain ⟨rfl, hsz, hP, hK, hN, hD⟩ := hv
  subst hsz
  have hl := lv_entry ([.ref (q 0), .int a1, .int a2, .int a3]) (n := 5) (Nat.le_of_ble_eq_true rfl)
  rw [lg_entry_eq]
  exact fX7_acts_w (s := s) ⟨⟨B.exec, B.bytes, hml, findClass_of_methodNamed B.named, atoms_spec (ws := wsX7_acts) B.pre⟩, hK, hN⟩ ⟨B.returns, B.notSynchronized⟩ ⟨hP, cS_D hD, va_S.rf⟩ hl e0
