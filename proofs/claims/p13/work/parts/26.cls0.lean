theorem in_X2_isTold_X2 : ∀ w ∈ wsX20, w ∈ wsX2_isTold := fun _ h9 => List.mem_cons_of_mem _ (List.mem_append_right _ h9)
def rmX2_isTold : Room := { frames := 0, cells := 0, slots := 0, locals := 0 }
def fX2_isTold (n : Nat) (u : Nat) (a1 : Int32) (I : Nat → Int32) (R : Nat → Nat → Int32) : Option (Int32 × mSt) :=
  if inb (a1 / 16) 4 = true then
  if (((getA R (117 + 100 * u) (a1 / 16)) >>> ((a1 - a1 / 16 * 16) &&& 31)) &&& 1) = 0 then
    some (0, I, R)
  else
    some (1, I, R)
  else none
set_option maxRecDepth 20000 in
set_option maxHeartbeats 2000000 in
theorem fX2_isTold_w {p : Program} {l : Launch} {e : Env} {s : State} {m : MethodId} {args : Array Value} {below : List Frame} {meth : Method} {c : Code} {D : va_G} {y : ClassId} {yS : ClassId × ClassId} {q : Nat → Nat} {n : Nat} {z : Int32 × mSt} {u : Nat} (hu : u < 2) (X : cX p s m args c cX2_isTold 2 wsX2_isTold RX2 D y yS) (hr : meth.sig.returnType = some .boolean ∧ meth.locks = false) {a1 : Int32} {I : Nat → Int32} {R : Nat → Nat → Int32} {H : Heap} {locs : List Loc} {ls : Array Slot} (w : cH s D y yS q H locs I R) (hl : lv_has ls 2 [(0, .ref (q (110 + 100 * u))), (1, .int a1)]) (e0 : fX2_isTold n u a1 I R = some z) : W p l e rmX2_isTold s m args below meth c H locs 0 0 (MQ below (cQi D y yS q (cS y yS q s.heap.size) z) args s 0 0 (cS y yS q s.heap.size)) (F0 m 0 ls []) := by
  have hx := X.1.1
  have hb := X.1.2.1
  unfold fX2_isTold at e0
  refine lv_aload_n hx hb dX2_isTold_0 rfl (lv_at hl 0 rfl) ?_
  refine c_get X w (cat_PR _ _ _ _ _ u hu) rfl in_X2_isTold_X2 6 (by decide) (index := 30) rfl (by decide +kernel) (cf_PR_6 _ _ _) dX2_isTold_1 ?_
  refine lv_iload_n hx hb dX2_isTold_4 rfl (lv_at hl 1 rfl) ?_
  refine lv_bipush (v := 16) hx hb dX2_isTold_5 (by decide) ?_
  refine lv_idiv hx hb dX2_isTold_7 (by decide) ?_
  refine gd e0 (fun g1 e0 => ?_)
  refine c_ald X w (cat_a117 _ _ _ _ _ u hu) g1 dX2_isTold_8 ?_
  refine lv_iload_n hx hb dX2_isTold_9 rfl (lv_at hl 1 rfl) ?_
  refine lv_bipush (v := 16) hx hb dX2_isTold_10 (by decide) ?_
  refine lv_irem hx hb dX2_isTold_12 (by decide) ?_
  refine lv_ishr hx hb dX2_isTold_13 ?_
  refine lv_iconst (v := 1) hx hb dX2_isTold_14 (by decide) ?_
  refine lv_iand hx hb dX2_isTold_15 ?_
  refine lv_if_eq (tgt := 23) hx hb dX2_isTold_16 (by decide) (fun c2 => ?_) (fun c2 => ?_)
  · have e0 := itp _ c2 e0
    refine lv_iconst (v := 0) hx hb dX2_isTold_23 (by decide) ?_
    have e0 := Option.some.inj e0
    subst e0
    exact c_zret X w hr rfl dX2_isTold_24
  · have e0 := itn _ c2 e0
    refine lv_iconst (v := 1) hx hb dX2_isTold_19 (by decide) ?_
    refine lv_goto (tgt := 24) hx hb dX2_isTold_20 (by decide) ?_
    have e0 := Option.some.inj e0
    subst e0
    exact c_zret X w hr rfl dX2_isTold_24
set_option maxRecDepth 20000 in
theorem fX2_isTold_met (l : Launch) (D : va_G) (y : ClassId) (yS : ClassId × ClassId) (q : Nat → Nat) (sz n : Nat) (u : Nat) (hu : u < 2) (a1 : Int32) (I : Nat → Int32) (R : Nat → Nat → Int32) (z : Int32 × mSt) (e0 : fX2_isTold n u a1 I R = some z) : Met l yX2_isTold wsX2_isTold rmX2_isTold (va_Pc [.ref (q (110 + 100 * u)), .int a1] (cPre D y yS q sz I R)) (cQi D y yS q (cS y yS q sz) z) 0 0 (cS y yS q sz) := by
  refine Met.ofW (cc := cX2_isTold) (maxL := 2) (ret := some .boolean) (by decide) rfl ?_
  intro p e s m args below meth c s₁ B hml hv
  obtain ⟨rfl, hsz, hP, hK, hN, hD⟩ := hv
  subst hsz
  have hl := lv_entry ([.ref (q (110 + 100 * u)), .int a1]) (n := 2) (Nat.le_of_ble_eq_true rfl)
  rw [lg_entry_eq]
  exact fX2_isTold_w (s := s) hu ⟨⟨B.exec, B.bytes, hml, findClass_of_methodNamed B.named, atoms_spec (ws := wsX2_isTold) B.pre⟩, hK, hN⟩ ⟨B.returns, B.notSynchronized⟩ ⟨hP, cS_D hD, va_S.rf⟩ hl e0
theorem in_X0_partsThrough_X0 : ∀ w ∈ wsX00, w ∈ wsX0_partsThrough := fun _ h9 => List.mem_cons_of_mem _ (List.mem_append_left _ (List.mem_append_right _ h9))
theorem in_X0_partsThrough_X2 : ∀ w ∈ wsX20, w ∈ wsX0_partsThrough := fun _ h9 => List.mem_cons_of_mem _ (List.mem_append_right _ h9)
def rmX0_partsThrough : Room := { frames := 0, cells := 0, slots := 0, locals := 0 }
def fX0_partsThrough (n : Nat) (u : Nat) (a1 : Int32) (a2 : Int32) (a3 : Int32) (I : Nat → Int32) (R : Nat → Nat → Int32) : Option (Int64 × mSt) :=
  if inb a1 5 = true then
  if inb a1 5 = true then
  if inb (((16 * (getA R (115 + 100 * u) a1)) + ((a2 / 4) * 4)) + a3) 64 = true then
  if inb (((16 * (getA R (116 + 100 * u) a1)) + (4 * a3)) + (a2 - a2 / 4 * 4)) 64 = true then
  some (((getL R (154 + 100 * u) (((16 * (getA R (115 + 100 * u) a1)) + ((a2 / 4) * 4)) + a3)) + (getL R (154 + 100 * u) (((16 * (getA R (116 + 100 * u) a1)) + (4 * a3)) + (a2 - a2 / 4 * 4)))), I, R)
  else none
  else none
  else none
  else none
set_option maxRecDepth 20000 in
set_option maxHeartbeats 2000000 in
theorem fX0_partsThrough_w {p : Program} {l : Launch} {e : Env} {s : State} {m : MethodId} {args : Array Value} {below : List Frame} {meth : Method} {c : Code} {D : va_G} {y : ClassId} {yS : ClassId × ClassId} {q : Nat → Nat} {n : Nat} {z : Int64 × mSt} {u : Nat} (hu : u < 2) (X : cX p s m args c cX0_partsThrough 6 wsX0_partsThrough RX0 D y yS) (hr : meth.sig.returnType = some .long ∧ meth.locks = false) {a1 : Int32} {a2 : Int32} {a3 : Int32} {I : Nat → Int32} {R : Nat → Nat → Int32} {H : Heap} {locs : List Loc} {ls : Array Slot} (w : cH s D y yS q H locs I R) (hl : lv_has ls 6 [(0, .ref (q (150 + 100 * u))), (1, .int a1), (2, .int a2), (3, .int a3)]) (e0 : fX0_partsThrough n u a1 a2 a3 I R = some z) : W p l e rmX0_partsThrough s m args below meth c H locs 0 0 (MQ below (cQl D y yS q (cS y yS q s.heap.size) z) args s 0 0 (cS y yS q s.heap.size)) (F0 m 0 ls []) := by
  have hx := X.1.1
  have hb := X.1.2.1
  unfold fX0_partsThrough at e0
  refine lv_bipush (v := 16) hx hb dX0_partsThrough_0 (by decide) ?_
  refine lv_aload_n hx hb dX0_partsThrough_2 rfl (lv_at hl 0 rfl) ?_
  refine c_get X w (cat_CO _ _ _ _ _ u hu) rfl in_X0_partsThrough_X0 0 (by decide) (index := 19) rfl (by decide +kernel) (cf_CO_0 _ _ _) dX0_partsThrough_3 ?_
  refine c_get X w (cat_PR _ _ _ _ _ u hu) rfl in_X0_partsThrough_X2 4 (by decide) (index := 92) rfl (by decide +kernel) (cf_PR_4 _ _ _) dX0_partsThrough_6 ?_
  refine lv_iload_n hx hb dX0_partsThrough_9 rfl (lv_at hl 1 rfl) ?_
  refine gd e0 (fun g1 e0 => ?_)
  refine c_ald X w (cat_a115 _ _ _ _ _ u hu) g1 dX0_partsThrough_10 ?_
  refine lv_imul hx hb dX0_partsThrough_11 ?_
  refine lv_iload_n hx hb dX0_partsThrough_12 rfl (lv_at hl 2 rfl) ?_
  refine lv_iconst (v := 4) hx hb dX0_partsThrough_13 (by decide) ?_
  refine lv_idiv hx hb dX0_partsThrough_14 (by decide) ?_
  refine lv_iconst (v := 4) hx hb dX0_partsThrough_15 (by decide) ?_
  refine lv_imul hx hb dX0_partsThrough_16 ?_
  refine lv_iadd hx hb dX0_partsThrough_17 ?_
  refine lv_iload_n hx hb dX0_partsThrough_18 rfl (lv_at hl 3 rfl) ?_
  refine lv_iadd hx hb dX0_partsThrough_19 ?_
  refine lv_istore (lv' := [(4, .int (((16 * (getA R (115 + 100 * u) a1)) + ((a2 / 4) * 4)) + a3)), (0, .ref (q (150 + 100 * u))), (1, .int a1), (2, .int a2), (3, .int a3)]) hx hb dX0_partsThrough_20 hl (by decide) rfl (fun ls hl => ?_)
  refine lv_bipush (v := 16) hx hb dX0_partsThrough_22 (by decide) ?_
  refine lv_aload_n hx hb dX0_partsThrough_24 rfl (lv_at hl 1 rfl) ?_
  refine c_get X w (cat_CO _ _ _ _ _ u hu) rfl in_X0_partsThrough_X0 0 (by decide) (index := 19) rfl (by decide +kernel) (cf_CO_0 _ _ _) dX0_partsThrough_25 ?_
  refine c_get X w (cat_PR _ _ _ _ _ u hu) rfl in_X0_partsThrough_X2 5 (by decide) (index := 83) rfl (by decide +kernel) (cf_PR_5 _ _ _) dX0_partsThrough_28 ?_
  refine lv_iload_n hx hb dX0_partsThrough_31 rfl (lv_at hl 2 rfl) ?_
  refine gd e0 (fun g2 e0 => ?_)
  refine c_ald X w (cat_a116 _ _ _ _ _ u hu) g2 dX0_partsThrough_32 ?_
  refine lv_imul hx hb dX0_partsThrough_33 ?_
  refine lv_iconst (v := 4) hx hb dX0_partsThrough_34 (by decide) ?_
  refine lv_iload_n hx hb dX0_partsThrough_35 rfl (lv_at hl 4 rfl) ?_
  refine lv_imul hx hb dX0_partsThrough_36 ?_
  refine lv_iadd hx hb dX0_partsThrough_37 ?_
  refine lv_iload_n hx hb dX0_partsThrough_38 rfl (lv_at hl 3 rfl) ?_
  refine lv_iconst (v := 4) hx hb dX0_partsThrough_39 (by decide) ?_
  refine lv_irem hx hb dX0_partsThrough_40 (by decide) ?_
  refine lv_iadd hx hb dX0_partsThrough_41 ?_
  refine lv_istore (lv' := [(5, .int (((16 * (getA R (116 + 100 * u) a1)) + (4 * a3)) + (a2 - a2 / 4 * 4))), (4, .int (((16 * (getA R (115 + 100 * u) a1)) + ((a2 / 4) * 4)) + a3)), (0, .ref (q (150 + 100 * u))), (1, .int a1), (2, .int a2), (3, .int a3)]) hx hb dX0_partsThrough_42 hl (by decide) rfl (fun ls hl => ?_)
  refine lv_aload_n hx hb dX0_partsThrough_44 rfl (lv_at hl 2 rfl) ?_
  refine c_get X w (cat_CO _ _ _ _ _ u hu) rfl in_X0_partsThrough_X0 3 (by decide) (index := 9) rfl (by decide +kernel) (cf_CO_3 _ _ _) dX0_partsThrough_45 ?_
  refine lv_iload hx hb dX0_partsThrough_48 (lv_at hl 1 rfl) ?_
  refine gd e0 (fun g3 e0 => ?_)
  refine c_lald X w (cat_a154 _ _ _ _ _ u hu) g3 dX0_partsThrough_50 ?_
  refine lv_aload_n hx hb dX0_partsThrough_51 rfl (lv_at hl 2 rfl) ?_
  refine c_get X w (cat_CO _ _ _ _ _ u hu) rfl in_X0_partsThrough_X0 3 (by decide) (index := 9) rfl (by decide +kernel) (cf_CO_3 _ _ _) dX0_partsThrough_52 ?_
  refine lv_iload hx hb dX0_partsThrough_55 (lv_at hl 0 rfl) ?_
  refine gd e0 (fun g4 e0 => ?_)
  refine c_lald X w (cat_a154 _ _ _ _ _ u hu) g4 dX0_partsThrough_57 ?_
  refine lv_ladd hx hb dX0_partsThrough_58 ?_
  have e0 := Option.some.inj e0
  subst e0
  exact c_lret X w hr dX0_partsThrough_59
set_option maxRecDepth 20000 in
theorem fX0_partsThrough_met (l : Launch) (D : va_G) (y : ClassId) (yS : ClassId × ClassId) (q : Nat → Nat) (sz n : Nat) (u : Nat) (hu : u < 2) (a1 : Int32) (a2 : Int32) (a3 : Int32) (I : Nat → Int32) (R : Nat → Nat → Int32) (z : Int64 × mSt) (e0 : fX0_partsThrough n u a1 a2 a3 I R = some z) : Met l yX0_partsThrough wsX0_partsThrough rmX0_partsThrough (va_Pc [.ref (q (150 + 100 * u)), .int a1, .int a2, .int a3] (cPre D y yS q sz I R)) (cQl D y yS q (cS y yS q sz) z) 0 0 (cS y yS q sz) := by
  refine Met.ofW (cc := cX0_partsThrough) (maxL := 6) (ret := some .long) (by decide) rfl ?_
  intro p e s m args below meth c s₁ B hml hv
  obtain ⟨rfl, hsz, hP, hK, hN, hD⟩ := hv
  subst hsz
  have hl := lv_entry ([.ref (q (150 + 100 * u)), .int a1, .int a2, .int a3]) (n := 6) (Nat.le_of_ble_eq_true rfl)
  rw [lg_entry_eq]
  exact fX0_partsThrough_w (s := s) hu ⟨⟨B.exec, B.bytes, hml, findClass_of_methodNamed B.named, atoms_spec (ws := wsX0_partsThrough) B.pre⟩, hK, hN⟩ ⟨B.returns, B.notSynchronized⟩ ⟨hP, cS_D hD, va_S.rf⟩ hl e0
theorem in_X2_cost_X2 : ∀ w ∈ wsX20, w ∈ wsX2_cost := fun _ h9 => List.mem_cons_of_mem _ (List.mem_append_right _ h9)
def rmX2_cost : Room := { frames := 0, cells := 0, slots := 0, locals := 0 }
def fX2_cost (n : Nat) (u : Nat) (a1 : Int32) (I : Nat → Int32) (R : Nat → Nat → Int32) : Option (Int32 × mSt) :=
  if inb a1 5 = true then
  if (getA R (111 + 100 * u) a1) = 1 then
    if inb a1 5 = true then
    some (((getA R (112 + 100 * u) a1) + 1), I, R)
    else none
  else
    if (getA R (111 + 100 * u) a1) = 2 then
      if inb a1 5 = true then
      some ((2 * (getA R (112 + 100 * u) a1)), I, R)
      else none
    else
      if inb a1 5 = true then
      some ((getA R (112 + 100 * u) a1), I, R)
      else none
  else none
set_option maxRecDepth 20000 in
set_option maxHeartbeats 2000000 in
theorem fX2_cost_w {p : Program} {l : Launch} {e : Env} {s : State} {m : MethodId} {args : Array Value} {below : List Frame} {meth : Method} {c : Code} {D : va_G} {y : ClassId} {yS : ClassId × ClassId} {q : Nat → Nat} {n : Nat} {z : Int32 × mSt} {u : Nat} (hu : u < 2) (X : cX p s m args c cX2_cost 2 wsX2_cost RX2 D y yS) (hr : meth.sig.returnType = some .int ∧ meth.locks = false) {a1 : Int32} {I : Nat → Int32} {R : Nat → Nat → Int32} {H : Heap} {locs : List Loc} {ls : Array Slot} (w : cH s D y yS q H locs I R) (hl : lv_has ls 2 [(0, .ref (q (110 + 100 * u))), (1, .int a1)]) (e0 : fX2_cost n u a1 I R = some z) : W p l e rmX2_cost s m args below meth c H locs 0 0 (MQ below (cQi D y yS q (cS y yS q s.heap.size) z) args s 0 0 (cS y yS q s.heap.size)) (F0 m 0 ls []) := by
  have hx := X.1.1
  have hb := X.1.2.1
  unfold fX2_cost at e0
  refine lv_aload_n hx hb dX2_cost_0 rfl (lv_at hl 0 rfl) ?_
  refine c_get X w (cat_PR _ _ _ _ _ u hu) rfl in_X2_cost_X2 0 (by decide) (index := 9) rfl (by decide +kernel) (cf_PR_0 _ _ _) dX2_cost_1 ?_
  refine lv_iload_n hx hb dX2_cost_4 rfl (lv_at hl 1 rfl) ?_
  refine gd e0 (fun g1 e0 => ?_)
  refine c_ald X w (cat_a111 _ _ _ _ _ u hu) g1 dX2_cost_5 ?_
  by_cases c2 : (getA R (111 + 100 * u) a1) = 1
  · have e0 := itp _ c2 e0
    refine lv_lookup (off := 26) (tgt := 32) hx hb dX2_cost_6 (by decide) (by rw [c2]; decide) (by decide) ?_
    refine lv_aload_n hx hb dX2_cost_32 rfl (lv_at hl 0 rfl) ?_
    refine c_get X w (cat_PR _ _ _ _ _ u hu) rfl in_X2_cost_X2 1 (by decide) (index := 15) rfl (by decide +kernel) (cf_PR_1 _ _ _) dX2_cost_33 ?_
    refine lv_iload_n hx hb dX2_cost_36 rfl (lv_at hl 1 rfl) ?_
    refine gd e0 (fun g6 e0 => ?_)
    refine c_ald X w (cat_a112 _ _ _ _ _ u hu) g6 dX2_cost_37 ?_
    refine lv_iconst (v := 1) hx hb dX2_cost_38 (by decide) ?_
    refine lv_iadd hx hb dX2_cost_39 ?_
    have e0 := Option.some.inj e0
    subst e0
    exact c_iret X w hr dX2_cost_40
  · have e0 := itn _ c2 e0
    by_cases c3 : (getA R (111 + 100 * u) a1) = 2
    · have e0 := itp _ c3 e0
      refine lv_lookup (off := 35) (tgt := 41) hx hb dX2_cost_6 (by decide) (by rw [c3]; decide) (by decide) ?_
      refine lv_iconst (v := 2) hx hb dX2_cost_41 (by decide) ?_
      refine lv_aload_n hx hb dX2_cost_42 rfl (lv_at hl 0 rfl) ?_
      refine c_get X w (cat_PR _ _ _ _ _ u hu) rfl in_X2_cost_X2 1 (by decide) (index := 15) rfl (by decide +kernel) (cf_PR_1 _ _ _) dX2_cost_43 ?_
      refine lv_iload_n hx hb dX2_cost_46 rfl (lv_at hl 1 rfl) ?_
      refine gd e0 (fun g5 e0 => ?_)
      refine c_ald X w (cat_a112 _ _ _ _ _ u hu) g5 dX2_cost_47 ?_
      refine lv_imul hx hb dX2_cost_48 ?_
      have e0 := Option.some.inj e0
      subst e0
      exact c_iret X w hr dX2_cost_49
    · have e0 := itn _ c3 e0
      refine lv_lookup (off := 44) (tgt := 50) hx hb dX2_cost_6 (by decide) (by show Op.lookupswitch.offset [(1, 26), (2, 35)] 44 _ = 44; rw [lv_osw c2 (by decide), lv_osw c3 (by decide)]; rfl) (by decide) ?_
      refine lv_aload_n hx hb dX2_cost_50 rfl (lv_at hl 0 rfl) ?_
      refine c_get X w (cat_PR _ _ _ _ _ u hu) rfl in_X2_cost_X2 1 (by decide) (index := 15) rfl (by decide +kernel) (cf_PR_1 _ _ _) dX2_cost_51 ?_
      refine lv_iload_n hx hb dX2_cost_54 rfl (lv_at hl 1 rfl) ?_
      refine gd e0 (fun g4 e0 => ?_)
      refine c_ald X w (cat_a112 _ _ _ _ _ u hu) g4 dX2_cost_55 ?_
      have e0 := Option.some.inj e0
      subst e0
      exact c_iret X w hr dX2_cost_56
set_option maxRecDepth 20000 in
theorem fX2_cost_met (l : Launch) (D : va_G) (y : ClassId) (yS : ClassId × ClassId) (q : Nat → Nat) (sz n : Nat) (u : Nat) (hu : u < 2) (a1 : Int32) (I : Nat → Int32) (R : Nat → Nat → Int32) (z : Int32 × mSt) (e0 : fX2_cost n u a1 I R = some z) : Met l yX2_cost wsX2_cost rmX2_cost (va_Pc [.ref (q (110 + 100 * u)), .int a1] (cPre D y yS q sz I R)) (cQi D y yS q (cS y yS q sz) z) 0 0 (cS y yS q sz) := by
  refine Met.ofW (cc := cX2_cost) (maxL := 2) (ret := some .int) (by decide) rfl ?_
  intro p e s m args below meth c s₁ B hml hv
  obtain ⟨rfl, hsz, hP, hK, hN, hD⟩ := hv
  subst hsz
  have hl := lv_entry ([.ref (q (110 + 100 * u)), .int a1]) (n := 2) (Nat.le_of_ble_eq_true rfl)
  rw [lg_entry_eq]
  exact fX2_cost_w (s := s) hu ⟨⟨B.exec, B.bytes, hml, findClass_of_methodNamed B.named, atoms_spec (ws := wsX2_cost) B.pre⟩, hK, hN⟩ ⟨B.returns, B.notSynchronized⟩ ⟨hP, cS_D hD, va_S.rf⟩ hl e0
theorem in_X3_isHeld_X3 : ∀ w ∈ wsX30, w ∈ wsX3_isHeld := fun _ h9 => List.mem_cons_of_mem _ (List.mem_append_right _ h9)
def rmX3_isHeld : Room := { frames := 0, cells := 0, slots := 0, locals := 0 }
def fX3_isHeld (n : Nat) (u : Nat) (a1 : Int32) (I : Nat → Int32) (R : Nat → Nat → Int32) : Option (Int32 × mSt) :=
  if inb (a1 / 16) 4 = true then
  if (((getA R (143 + 100 * u) (a1 / 16)) >>> ((a1 - a1 / 16 * 16) &&& 31)) &&& 1) = 0 then
    some (0, I, R)
  else
    some (1, I, R)
  else none
set_option maxRecDepth 20000 in
set_option maxHeartbeats 2000000 in
theorem fX3_isHeld_w {p : Program} {l : Launch} {e : Env} {s : State} {m : MethodId} {args : Array Value} {below : List Frame} {meth : Method} {c : Code} {D : va_G} {y : ClassId} {yS : ClassId × ClassId} {q : Nat → Nat} {n : Nat} {z : Int32 × mSt} {u : Nat} (hu : u < 2) (X : cX p s m args c cX3_isHeld 2 wsX3_isHeld RX3 D y yS) (hr : meth.sig.returnType = some .boolean ∧ meth.locks = false) {a1 : Int32} {I : Nat → Int32} {R : Nat → Nat → Int32} {H : Heap} {locs : List Loc} {ls : Array Slot} (w : cH s D y yS q H locs I R) (hl : lv_has ls 2 [(0, .ref (q (140 + 100 * u))), (1, .int a1)]) (e0 : fX3_isHeld n u a1 I R = some z) : W p l e rmX3_isHeld s m args below meth c H locs 0 0 (MQ below (cQi D y yS q (cS y yS q s.heap.size) z) args s 0 0 (cS y yS q s.heap.size)) (F0 m 0 ls []) := by
  have hx := X.1.1
  have hb := X.1.2.1
  unfold fX3_isHeld at e0
  refine lv_aload_n hx hb dX3_isHeld_0 rfl (lv_at hl 0 rfl) ?_
  refine c_get X w (cat_RO _ _ _ _ _ u hu) rfl in_X3_isHeld_X3 2 (by decide) (index := 9) rfl (by decide +kernel) (cf_RO_2 _ _ _) dX3_isHeld_1 ?_
  refine lv_iload_n hx hb dX3_isHeld_4 rfl (lv_at hl 1 rfl) ?_
  refine lv_bipush (v := 16) hx hb dX3_isHeld_5 (by decide) ?_
  refine lv_idiv hx hb dX3_isHeld_7 (by decide) ?_
  refine gd e0 (fun g1 e0 => ?_)
  refine c_ald X w (cat_a143 _ _ _ _ _ u hu) g1 dX3_isHeld_8 ?_
  refine lv_iload_n hx hb dX3_isHeld_9 rfl (lv_at hl 1 rfl) ?_
  refine lv_bipush (v := 16) hx hb dX3_isHeld_10 (by decide) ?_
  refine lv_irem hx hb dX3_isHeld_12 (by decide) ?_
  refine lv_ishr hx hb dX3_isHeld_13 ?_
  refine lv_iconst (v := 1) hx hb dX3_isHeld_14 (by decide) ?_
  refine lv_iand hx hb dX3_isHeld_15 ?_
  refine lv_if_eq (tgt := 23) hx hb dX3_isHeld_16 (by decide) (fun c2 => ?_) (fun c2 => ?_)
  · have e0 := itp _ c2 e0
    refine lv_iconst (v := 0) hx hb dX3_isHeld_23 (by decide) ?_
    have e0 := Option.some.inj e0
    subst e0
    exact c_zret X w hr rfl dX3_isHeld_24
  · have e0 := itn _ c2 e0
    refine lv_iconst (v := 1) hx hb dX3_isHeld_19 (by decide) ?_
    refine lv_goto (tgt := 24) hx hb dX3_isHeld_20 (by decide) ?_
    have e0 := Option.some.inj e0
    subst e0
    exact c_zret X w hr rfl dX3_isHeld_24
set_option maxRecDepth 20000 in
theorem fX3_isHeld_met (l : Launch) (D : va_G) (y : ClassId) (yS : ClassId × ClassId) (q : Nat → Nat) (sz n : Nat) (u : Nat) (hu : u < 2) (a1 : Int32) (I : Nat → Int32) (R : Nat → Nat → Int32) (z : Int32 × mSt) (e0 : fX3_isHeld n u a1 I R = some z) : Met l yX3_isHeld wsX3_isHeld rmX3_isHeld (va_Pc [.ref (q (140 + 100 * u)), .int a1] (cPre D y yS q sz I R)) (cQi D y yS q (cS y yS q sz) z) 0 0 (cS y yS q sz) := by
  refine Met.ofW (cc := cX3_isHeld) (maxL := 2) (ret := some .boolean) (by decide) rfl ?_
  intro p e s m args below meth c s₁ B hml hv
  obtain ⟨rfl, hsz, hP, hK, hN, hD⟩ := hv
  subst hsz
  have hl := lv_entry ([.ref (q (140 + 100 * u)), .int a1]) (n := 2) (Nat.le_of_ble_eq_true rfl)
  rw [lg_entry_eq]
  exact fX3_isHeld_w (s := s) hu ⟨⟨B.exec, B.bytes, hml, findClass_of_methodNamed B.named, atoms_spec (ws := wsX3_isHeld) B.pre⟩, hK, hN⟩ ⟨B.returns, B.notSynchronized⟩ ⟨hP, cS_D hD, va_S.rf⟩ hl e0
def rmX7_turnedAbout : Room := { frames := 0, cells := 0, slots := 0, locals := 0 }
def fX7_turnedAbout (n : Nat) (a0 : Int32) : Option (Int32) :=
  some (((a0 - a0 / 4 * 4) * 4) + (a0 / 4))
set_option maxRecDepth 20000 in
set_option maxHeartbeats 2000000 in
theorem fX7_turnedAbout_w {p : Program} {l : Launch} {e : Env} {s : State} {m : MethodId} {args : Array Value} {below : List Frame} {meth : Method} {c : Code} {n : Nat} {z : Int32} (X : tX p s m args c cX7_turnedAbout 1 wsX7_turnedAbout RX7) (hr : meth.sig.returnType = some .int ∧ meth.locks = false) {a0 : Int32} {H : Heap} {locs : List Loc} {ls : Array Slot} (w : sH s H locs) (hl : lv_has ls 1 [(0, .int a0)]) (e0 : fX7_turnedAbout n a0 = some z) : W p l e rmX7_turnedAbout s m args below meth c H locs 0 0 (MQ below (sQi z) args s 0 0 (fun _ => False)) (F0 m 0 ls []) := by
  have hx := X.1.1
  have hb := X.1.2.1
  unfold fX7_turnedAbout at e0
  refine lv_iload_n hx hb dX7_turnedAbout_0 rfl (lv_at hl 0 rfl) ?_
  refine lv_iconst (v := 4) hx hb dX7_turnedAbout_1 (by decide) ?_
  refine lv_irem hx hb dX7_turnedAbout_2 (by decide) ?_
  refine lv_iconst (v := 4) hx hb dX7_turnedAbout_3 (by decide) ?_
  refine lv_imul hx hb dX7_turnedAbout_4 ?_
  refine lv_iload_n hx hb dX7_turnedAbout_5 rfl (lv_at hl 0 rfl) ?_
  refine lv_iconst (v := 4) hx hb dX7_turnedAbout_6 (by decide) ?_
  refine lv_idiv hx hb dX7_turnedAbout_7 (by decide) ?_
  refine lv_iadd hx hb dX7_turnedAbout_8 ?_
  have e0 := Option.some.inj e0
  subst e0
  exact t_iret X w hr dX7_turnedAbout_9
set_option maxRecDepth 20000 in
theorem fX7_turnedAbout_met (l : Launch) (n : Nat) (a0 : Int32) (z : Int32) (e0 : fX7_turnedAbout n a0 = some z) : Met l yX7_turnedAbout wsX7_turnedAbout rmX7_turnedAbout (va_Pc [.int a0] (fun U => cN U)) (sQi z) 0 0 (fun _ => False) := by
  refine Met.ofW (cc := cX7_turnedAbout) (maxL := 1) (ret := some .int) (by decide) rfl ?_
  intro p e s m args below meth c s₁ B hml hv
  obtain ⟨rfl, hN⟩ := hv
  have hl := lv_entry ([.int a0]) (n := 1) (Nat.le_of_ble_eq_true rfl)
  rw [lg_entry_eq]
  exact fX7_turnedAbout_w (s := s) ⟨⟨B.exec, B.bytes, hml, findClass_of_methodNamed B.named, atoms_spec (ws := wsX7_turnedAbout) B.pre⟩, hN⟩ ⟨B.returns, B.notSynchronized⟩ va_S.rf hl e0
theorem in_X0_wayBy_X0 : ∀ w ∈ wsX00, w ∈ wsX0_wayBy := fun _ h9 => List.mem_cons_of_mem _ (List.mem_append_left _ (List.mem_append_left _ (List.mem_append_right _ h9)))
theorem in_X0_wayBy_X2 : ∀ w ∈ wsX20, w ∈ wsX0_wayBy := fun _ h9 => List.mem_cons_of_mem _ (List.mem_append_left _ (List.mem_append_right _ h9))
theorem in_X0_wayBy_X3 : ∀ w ∈ wsX30, w ∈ wsX0_wayBy := fun _ h9 => List.mem_cons_of_mem _ (List.mem_append_right _ h9)
def rmX0_wayBy : Room := { frames := 1, cells := 0, slots := 0, locals := 30 }
def fX0_wayBy_b23 (n : Nat) (u : Nat) : Nat → Int32 → Int32 → Int64 → Int32 → (Nat → Int32) → (Nat → Nat → Int32) → Option (Int64 × mSt)
  | 0, _, _, _, _, _, _ => none
  | j + 1, a1, a2, a4, a6, I, R =>
    if 4 ≤ a6 then
      (fX2_cost n u a1 I R).bind fun z11 =>
      some ((((z11.1).toInt64) + a4), z11.2.1, z11.2.2)
    else
      (fX0_partsThrough n u a1 a2 a6 I R).bind fun z13 =>
      fX0_wayBy_b23 n u j a1 a2 (if z13.1 < a4 then z13.1 else a4) (a6 + 1) z13.2.1 z13.2.2
set_option maxRecDepth 20000 in
set_option maxHeartbeats 2000000 in
theorem fX0_wayBy_b23_w {p : Program} {l : Launch} {e : Env} {s : State} {m : MethodId} {args : Array Value} {below : List Frame} {meth : Method} {c : Code} {D : va_G} {y : ClassId} {yS : ClassId × ClassId} {q : Nat → Nat} {n : Nat} {z : Int64 × mSt} {u : Nat} (hu : u < 2) (X : cX p s m args c cX0_wayBy 7 wsX0_wayBy RX0 D y yS) (hr : meth.sig.returnType = some .long ∧ meth.locks = false) : ∀ (j : Nat) (a1 : Int32) (a2 : Int32) (a4 : Int64) (a6 : Int32) (I : Nat → Int32) (R : Nat → Nat → Int32) (H : Heap) (locs : List Loc) (ls : Array Slot), cH s D y yS q H locs I R → lv_has ls 7 [(0, .ref (q (150 + 100 * u))), (1, .int a1), (2, .int a2), (4, .long a4), (6, .int a6)] → fX0_wayBy_b23 n u j a1 a2 a4 a6 I R = some z → W p l e rmX0_wayBy s m args below meth c H locs 0 0 (MQ below (cQl D y yS q (cS y yS q s.heap.size) z) args s 0 0 (cS y yS q s.heap.size)) (F0 m 23 ls []) := by
  have hx := X.1.1
  have hb := X.1.2.1
  intro j
  induction j with
  | zero =>
    intro a1 a2 a4 a6 I R H locs ls w hl e0
    cases e0
  | succ j ih =>
    intro a1 a2 a4 a6 I R H locs ls w hl e0
    rw [fX0_wayBy_b23] at e0
    refine lv_iload hx hb dX0_wayBy_23 (lv_at hl 4 rfl) ?_
    refine lv_iconst (v := 4) hx hb dX0_wayBy_25 (by decide) ?_
    refine lv_icmp_ge (tgt := 50) hx hb dX0_wayBy_26 (by decide) (fun c15 => ?_) (fun c15 => ?_)
    · have e0 := itp _ c15 e0
      refine lv_aload_n hx hb dX0_wayBy_50 rfl (lv_at hl 0 rfl) ?_
      refine c_get X w (cat_CO _ _ _ _ _ u hu) rfl in_X0_wayBy_X0 0 (by decide) (index := 19) rfl (by decide +kernel) (cf_CO_0 _ _ _) dX0_wayBy_51 ?_
      refine lv_iload_n hx hb dX0_wayBy_54 rfl (lv_at hl 1 rfl) ?_
      refine bd e0 (fun z11 e12 e0 => ?_)
      refine c_calli X w (c_rec X w (cat_PR _ _ _ _ _ u hu) rfl) (n := 1) (As := [.int a1]) (rest := []) (fX2_cost_met l _ _ _ _ _ _ _ hu _ _ _ _ e12) gX0_wayBy_X2_cost rfl rfl rfl (by decide +kernel) ⟨Nat.le_of_ble_eq_true rfl, Nat.le_of_ble_eq_true rfl⟩ rfl hl.1 rfl (Nat.le_of_ble_eq_true rfl) dX0_wayBy_55 (fun H locs w => ?_)
      refine lv_i2l (v := ((z11.1).toInt64)) hx hb dX0_wayBy_58 rfl ?_
      refine lv_lload hx hb dX0_wayBy_59 (lv_at hl 3 rfl) ?_
      refine lv_ladd hx hb dX0_wayBy_61 ?_
      have e0 := Option.some.inj e0
      subst e0
      exact c_lret X w hr dX0_wayBy_62
    · have e0 := itn _ c15 e0
      refine lv_lload hx hb dX0_wayBy_29 (lv_at hl 3 rfl) ?_
      refine lv_aload_n hx hb dX0_wayBy_31 rfl (lv_at hl 0 rfl) ?_
      refine lv_iload_n hx hb dX0_wayBy_32 rfl (lv_at hl 1 rfl) ?_
      refine lv_iload_n hx hb dX0_wayBy_33 rfl (lv_at hl 2 rfl) ?_
      refine lv_iload hx hb dX0_wayBy_34 (lv_at hl 4 rfl) ?_
      refine bd e0 (fun z13 e14 e0 => ?_)
      refine c_calll X w (c_rec X w (cat_CO _ _ _ _ _ u hu) rfl) (n := 3) (As := [.int a1, .int a2, .int a6]) (rest := [.long a4]) (fX0_partsThrough_met l _ _ _ _ _ _ _ hu _ _ _ _ _ _ e14) gX0_wayBy_X0_partsThrough rfl rfl rfl (by decide +kernel) ⟨Nat.le_of_ble_eq_true rfl, Nat.le_of_ble_eq_true rfl⟩ rfl hl.1 rfl (Nat.le_of_ble_eq_true rfl) dX0_wayBy_36 (fun H locs w => ?_)
      refine va_mmin_long (rest := []) hx hb (X.1.2.2.1.trans hl.1.symm) X.1.2.2.2.1 (X.1.2.2.2.2 _ (by decide +kernel)) (X.1.2.2.2.2 _ (by decide +kernel)) (X.1.2.2.2.2 _ (by decide +kernel)) (X.1.2.2.2.2 _ (by decide +kernel)) (Nat.le_of_ble_eq_true rfl) (Nat.le_of_ble_eq_true rfl) (Nat.zero_le _) (Nat.zero_le _) dX0_wayBy_39 ?_
      refine lv_lstore (lv' := [(4, .long (if z13.1 < a4 then z13.1 else a4)), (0, .ref (q (150 + 100 * u))), (1, .int a1), (2, .int a2), (6, .int a6)]) hx hb dX0_wayBy_42 hl (by decide) rfl (fun ls hl => ?_)
      refine lv_iinc (v := (a6 + 1)) (lv' := [(6, .int (a6 + 1)), (4, .long (if z13.1 < a4 then z13.1 else a4)), (0, .ref (q (150 + 100 * u))), (1, .int a1), (2, .int a2)]) hx hb dX0_wayBy_44 hl (k := 4) rfl rfl (by decide) rfl (fun ls hl => ?_)
      refine lv_goto (tgt := 23) hx hb dX0_wayBy_47 (by decide) ?_
      exact ih _ _ _ _ _ _ _ _ _ w (lv_sub hl [2, 3, 4, 1, 0] rfl) e0
def fX0_wayBy_b109 (n : Nat) (u : Nat) (a1 : Int32) (t0 : Int32) (I : Nat → Int32) (R : Nat → Nat → Int32) : Option (Int64 × mSt) :=
  (fX2_cost n u a1 I R).bind fun z16 =>
  if inb a1 5 = true then
  if inb ((16 * (getA z16.2.2 (115 + 100 * u) a1)) + t0) 64 = true then
  some ((((z16.1).toInt64) + (getL z16.2.2 (154 + 100 * u) ((16 * (getA z16.2.2 (115 + 100 * u) a1)) + t0))), z16.2.1, z16.2.2)
  else none
  else none
set_option maxRecDepth 20000 in
set_option maxHeartbeats 2000000 in
theorem fX0_wayBy_b109_w {p : Program} {l : Launch} {e : Env} {s : State} {m : MethodId} {args : Array Value} {below : List Frame} {meth : Method} {c : Code} {D : va_G} {y : ClassId} {yS : ClassId × ClassId} {q : Nat → Nat} {n : Nat} {z : Int64 × mSt} {u : Nat} (hu : u < 2) (X : cX p s m args c cX0_wayBy 7 wsX0_wayBy RX0 D y yS) (hr : meth.sig.returnType = some .long ∧ meth.locks = false) {a1 : Int32} {t0 : Int32} {I : Nat → Int32} {R : Nat → Nat → Int32} {H : Heap} {locs : List Loc} {ls : Array Slot} (w : cH s D y yS q H locs I R) (hl : lv_has ls 7 [(0, .ref (q (150 + 100 * u))), (1, .int a1)]) (e0 : fX0_wayBy_b109 n u a1 t0 I R = some z) : W p l e rmX0_wayBy s m args below meth c H locs 0 0 (MQ below (cQl D y yS q (cS y yS q s.heap.size) z) args s 0 0 (cS y yS q s.heap.size)) (F0 m 109 ls [.int t0]) := by
  have hx := X.1.1
  have hb := X.1.2.1
  unfold fX0_wayBy_b109 at e0
  refine lv_istore (lv' := [(4, .int t0), (0, .ref (q (150 + 100 * u))), (1, .int a1)]) hx hb dX0_wayBy_109 hl (by decide) rfl (fun ls hl => ?_)
  refine lv_aload_n hx hb dX0_wayBy_111 rfl (lv_at hl 1 rfl) ?_
  refine c_get X w (cat_CO _ _ _ _ _ u hu) rfl in_X0_wayBy_X0 0 (by decide) (index := 19) rfl (by decide +kernel) (cf_CO_0 _ _ _) dX0_wayBy_112 ?_
  refine lv_iload_n hx hb dX0_wayBy_115 rfl (lv_at hl 2 rfl) ?_
  refine bd e0 (fun z16 e17 e0 => ?_)
  refine c_calli X w (c_rec X w (cat_PR _ _ _ _ _ u hu) rfl) (n := 1) (As := [.int a1]) (rest := []) (fX2_cost_met l _ _ _ _ _ _ _ hu _ _ _ _ e17) gX0_wayBy_X2_cost rfl rfl rfl (by decide +kernel) ⟨Nat.le_of_ble_eq_true rfl, Nat.le_of_ble_eq_true rfl⟩ rfl hl.1 rfl (Nat.le_of_ble_eq_true rfl) dX0_wayBy_116 (fun H locs w => ?_)
  refine lv_i2l (v := ((z16.1).toInt64)) hx hb dX0_wayBy_119 rfl ?_
  refine lv_aload_n hx hb dX0_wayBy_120 rfl (lv_at hl 1 rfl) ?_
  refine c_get X w (cat_CO _ _ _ _ _ u hu) rfl in_X0_wayBy_X0 3 (by decide) (index := 9) rfl (by decide +kernel) (cf_CO_3 _ _ _) dX0_wayBy_121 ?_
  refine lv_bipush (v := 16) hx hb dX0_wayBy_124 (by decide) ?_
  refine lv_aload_n hx hb dX0_wayBy_126 rfl (lv_at hl 1 rfl) ?_
  refine c_get X w (cat_CO _ _ _ _ _ u hu) rfl in_X0_wayBy_X0 0 (by decide) (index := 19) rfl (by decide +kernel) (cf_CO_0 _ _ _) dX0_wayBy_127 ?_
  refine c_get X w (cat_PR _ _ _ _ _ u hu) rfl in_X0_wayBy_X2 4 (by decide) (index := 92) rfl (by decide +kernel) (cf_PR_4 _ _ _) dX0_wayBy_130 ?_
  refine lv_iload_n hx hb dX0_wayBy_133 rfl (lv_at hl 2 rfl) ?_
  refine gd e0 (fun g18 e0 => ?_)
  refine c_ald X w (cat_a115 _ _ _ _ _ u hu) g18 dX0_wayBy_134 ?_
  refine lv_imul hx hb dX0_wayBy_135 ?_
  refine lv_iload hx hb dX0_wayBy_136 (lv_at hl 0 rfl) ?_
  refine lv_iadd hx hb dX0_wayBy_138 ?_
  refine gd e0 (fun g19 e0 => ?_)
  refine c_lald X w (cat_a154 _ _ _ _ _ u hu) g19 dX0_wayBy_139 ?_
  refine lv_ladd hx hb dX0_wayBy_140 ?_
  have e0 := Option.some.inj e0
  subst e0
  exact c_lret X w hr dX0_wayBy_141
def fX0_wayBy_b96 (n : Nat) (u : Nat) (a1 : Int32) (a2 : Int32) (a3 : Int32) (I : Nat → Int32) (R : Nat → Nat → Int32) : Option (Int64 × mSt) :=
  if a3 = 1 then
    (fX7_turnedAbout n a2).bind fun z8 =>
    fX0_wayBy_b109 n u a1 z8 I R
  else
    fX0_wayBy_b109 n u a1 a2 I R
set_option maxRecDepth 20000 in
set_option maxHeartbeats 2000000 in
theorem fX0_wayBy_b96_w {p : Program} {l : Launch} {e : Env} {s : State} {m : MethodId} {args : Array Value} {below : List Frame} {meth : Method} {c : Code} {D : va_G} {y : ClassId} {yS : ClassId × ClassId} {q : Nat → Nat} {n : Nat} {z : Int64 × mSt} {u : Nat} (hu : u < 2) (X : cX p s m args c cX0_wayBy 7 wsX0_wayBy RX0 D y yS) (hr : meth.sig.returnType = some .long ∧ meth.locks = false) {a1 : Int32} {a2 : Int32} {a3 : Int32} {I : Nat → Int32} {R : Nat → Nat → Int32} {H : Heap} {locs : List Loc} {ls : Array Slot} (w : cH s D y yS q H locs I R) (hl : lv_has ls 7 [(0, .ref (q (150 + 100 * u))), (1, .int a1), (2, .int a2), (3, .int a3)]) (e0 : fX0_wayBy_b96 n u a1 a2 a3 I R = some z) : W p l e rmX0_wayBy s m args below meth c H locs 0 0 (MQ below (cQl D y yS q (cS y yS q s.heap.size) z) args s 0 0 (cS y yS q s.heap.size)) (F0 m 96 ls []) := by
  have hx := X.1.1
  have hb := X.1.2.1
  unfold fX0_wayBy_b96 at e0
  refine lv_iload_n hx hb dX0_wayBy_96 rfl (lv_at hl 3 rfl) ?_
  refine lv_iconst (v := 1) hx hb dX0_wayBy_97 (by decide) ?_
  refine lv_icmp_ne (tgt := 108) hx hb dX0_wayBy_98 (by decide) (fun c10 => ?_) (fun c10 => ?_)
  · have e0 := itn _ c10 e0
    refine lv_iload_n hx hb dX0_wayBy_108 rfl (lv_at hl 2 rfl) ?_
    exact fX0_wayBy_b109_w (l := l) hu X hr w (lv_sub hl [0, 1] rfl) e0
  · have e0 := itp _ c10 e0
    refine lv_iload_n hx hb dX0_wayBy_101 rfl (lv_at hl 2 rfl) ?_
    refine bd e0 (fun z8 e9 e0 => ?_)
    refine c_callni X w (n := 1) (As := [.int a2]) (rest := []) (fX7_turnedAbout_met l _ _ _ e9) gX0_wayBy_X7_turnedAbout_n89 (X.2.2.1) (by decide +kernel) (by decide +kernel) rfl rfl rfl (by decide +kernel) ⟨Nat.le_of_ble_eq_true rfl, Nat.le_of_ble_eq_true rfl⟩ rfl hl.1 rfl (Nat.le_of_ble_eq_true rfl) dX0_wayBy_102 (fun H locs w => ?_)
    refine lv_goto (tgt := 109) hx hb dX0_wayBy_105 (by decide) ?_
    exact fX0_wayBy_b109_w (l := l) hu X hr w (lv_sub hl [0, 1] rfl) e0
def fX0_wayBy (n : Nat) (u : Nat) (a1 : Int32) (a2 : Int32) (I : Nat → Int32) (R : Nat → Nat → Int32) : Option (Int64 × mSt) :=
  if inb a1 5 = true then
  if (getA R (113 + 100 * u) a1) = 2 then
    fX0_wayBy_b23 n u n a1 a2 1152921504606846976 0 I R
  else
    if (getA R (113 + 100 * u) a1) = 3 then
      if inb a1 5 = true then
      (fX3_isHeld n u ((16 * (getA R (116 + 100 * u) a1)) + a2) I R).bind fun z3 =>
      if z3.1 = 0 then
        fX0_wayBy_b96 n u a1 a2 (getA R (113 + 100 * u) a1) z3.2.1 z3.2.2
      else
        some (1152921504606846976, z3.2.1, z3.2.2)
      else none
    else
      fX0_wayBy_b96 n u a1 a2 (getA R (113 + 100 * u) a1) I R
  else none
set_option maxRecDepth 20000 in
set_option maxHeartbeats 2000000 in
theorem fX0_wayBy_w {p : Program} {l : Launch} {e : Env} {s : State} {m : MethodId} {args : Array Value} {below : List Frame} {meth : Method} {c : Code} {D : va_G} {y : ClassId} {yS : ClassId × ClassId} {q : Nat → Nat} {n : Nat} {z : Int64 × mSt} {u : Nat} (hu : u < 2) (X : cX p s m args c cX0_wayBy 7 wsX0_wayBy RX0 D y yS) (hr : meth.sig.returnType = some .long ∧ meth.locks = false) {a1 : Int32} {a2 : Int32} {I : Nat → Int32} {R : Nat → Nat → Int32} {H : Heap} {locs : List Loc} {ls : Array Slot} (w : cH s D y yS q H locs I R) (hl : lv_has ls 7 [(0, .ref (q (150 + 100 * u))), (1, .int a1), (2, .int a2)]) (e0 : fX0_wayBy n u a1 a2 I R = some z) : W p l e rmX0_wayBy s m args below meth c H locs 0 0 (MQ below (cQl D y yS q (cS y yS q s.heap.size) z) args s 0 0 (cS y yS q s.heap.size)) (F0 m 0 ls []) := by
  have hx := X.1.1
  have hb := X.1.2.1
  unfold fX0_wayBy at e0
  refine lv_aload_n hx hb dX0_wayBy_0 rfl (lv_at hl 0 rfl) ?_
  refine c_get X w (cat_CO _ _ _ _ _ u hu) rfl in_X0_wayBy_X0 0 (by decide) (index := 19) rfl (by decide +kernel) (cf_CO_0 _ _ _) dX0_wayBy_1 ?_
  refine c_get X w (cat_PR _ _ _ _ _ u hu) rfl in_X0_wayBy_X2 2 (by decide) (index := 66) rfl (by decide +kernel) (cf_PR_2 _ _ _) dX0_wayBy_4 ?_
  refine lv_iload_n hx hb dX0_wayBy_7 rfl (lv_at hl 1 rfl) ?_
  refine gd e0 (fun g1 e0 => ?_)
  refine c_ald X w (cat_a113 _ _ _ _ _ u hu) g1 dX0_wayBy_8 ?_
  refine lv_istore_n (lv' := [(3, .int (getA R (113 + 100 * u) a1)), (0, .ref (q (150 + 100 * u))), (1, .int a1), (2, .int a2)]) hx hb dX0_wayBy_9 rfl hl (by decide) rfl (fun ls hl => ?_)
  refine lv_iload_n hx hb dX0_wayBy_10 rfl (lv_at hl 0 rfl) ?_
  refine lv_iconst (v := 2) hx hb dX0_wayBy_11 (by decide) ?_
  refine lv_icmp_ne (tgt := 63) hx hb dX0_wayBy_12 (by decide) (fun c7 => ?_) (fun c7 => ?_)
  · have e0 := itn _ c7 e0
    refine lv_iload_n hx hb dX0_wayBy_63 rfl (lv_at hl 0 rfl) ?_
    refine lv_iconst (v := 3) hx hb dX0_wayBy_64 (by decide) ?_
    refine lv_icmp_ne (tgt := 96) hx hb dX0_wayBy_65 (by decide) (fun c6 => ?_) (fun c6 => ?_)
    · have e0 := itn _ c6 e0
      exact fX0_wayBy_b96_w (l := l) hu X hr w (lv_sub hl [1, 2, 3, 0] rfl) e0
    · have e0 := itp _ c6 e0
      refine lv_aload_n hx hb dX0_wayBy_68 rfl (lv_at hl 1 rfl) ?_
      refine c_get X w (cat_CO _ _ _ _ _ u hu) rfl in_X0_wayBy_X0 2 (by decide) (index := 27) rfl (by decide +kernel) (cf_CO_2 _ _ _) dX0_wayBy_69 ?_
      refine lv_bipush (v := 16) hx hb dX0_wayBy_72 (by decide) ?_
      refine lv_aload_n hx hb dX0_wayBy_74 rfl (lv_at hl 1 rfl) ?_
      refine c_get X w (cat_CO _ _ _ _ _ u hu) rfl in_X0_wayBy_X0 0 (by decide) (index := 19) rfl (by decide +kernel) (cf_CO_0 _ _ _) dX0_wayBy_75 ?_
      refine c_get X w (cat_PR _ _ _ _ _ u hu) rfl in_X0_wayBy_X2 5 (by decide) (index := 83) rfl (by decide +kernel) (cf_PR_5 _ _ _) dX0_wayBy_78 ?_
      refine lv_iload_n hx hb dX0_wayBy_81 rfl (lv_at hl 2 rfl) ?_
      refine gd e0 (fun g2 e0 => ?_)
      refine c_ald X w (cat_a116 _ _ _ _ _ u hu) g2 dX0_wayBy_82 ?_
      refine lv_imul hx hb dX0_wayBy_83 ?_
      refine lv_iload_n hx hb dX0_wayBy_84 rfl (lv_at hl 3 rfl) ?_
      refine lv_iadd hx hb dX0_wayBy_85 ?_
      refine bd e0 (fun z3 e4 e0 => ?_)
      refine c_calli X w (c_rec X w (cat_RO _ _ _ _ _ u hu) rfl) (n := 1) (As := [.int ((16 * (getA R (116 + 100 * u) a1)) + a2)]) (rest := []) (fX3_isHeld_met l _ _ _ _ _ _ _ hu _ _ _ _ e4) gX0_wayBy_X3_isHeld rfl rfl rfl (by decide +kernel) ⟨Nat.le_of_ble_eq_true rfl, Nat.le_of_ble_eq_true rfl⟩ rfl hl.1 rfl (Nat.le_of_ble_eq_true rfl) dX0_wayBy_86 (fun H locs w => ?_)
      refine lv_if_eq (tgt := 96) hx hb dX0_wayBy_89 (by decide) (fun c5 => ?_) (fun c5 => ?_)
      · have e0 := itp _ c5 e0
        exact fX0_wayBy_b96_w (l := l) hu X hr w (lv_sub hl [1, 2, 3, 0] rfl) e0
      · have e0 := itn _ c5 e0
        refine lv_ldc2 (own := RX0) (v := 1152921504606846976) hx hb X.1.2.2.2.1 (X.1.2.2.2.2 _ (by decide +kernel)) dX0_wayBy_92 ?_
        have e0 := Option.some.inj e0
        subst e0
        exact c_lret X w hr dX0_wayBy_95
  · have e0 := itp _ c7 e0
    refine lv_ldc2 (own := RX0) (v := 1152921504606846976) hx hb X.1.2.2.2.1 (X.1.2.2.2.2 _ (by decide +kernel)) dX0_wayBy_15 ?_
    refine lv_lstore (lv' := [(4, .long 1152921504606846976), (3, .int (getA R (113 + 100 * u) a1)), (0, .ref (q (150 + 100 * u))), (1, .int a1), (2, .int a2)]) hx hb dX0_wayBy_18 hl (by decide) rfl (fun ls hl => ?_)
    refine lv_iconst (v := 0) hx hb dX0_wayBy_20 (by decide) ?_
    refine lv_istore (lv' := [(6, .int 0), (4, .long 1152921504606846976), (3, .int (getA R (113 + 100 * u) a1)), (0, .ref (q (150 + 100 * u))), (1, .int a1), (2, .int a2)]) hx hb dX0_wayBy_21 hl (by decide) rfl (fun ls hl => ?_)
    exact fX0_wayBy_b23_w (l := l) hu X hr n _ _ _ _ _ _ _ _ _ w (lv_sub hl [3, 4, 5, 1, 0] rfl) e0
set_option maxRecDepth 20000 in
theorem fX0_wayBy_met (l : Launch) (D : va_G) (y : ClassId) (yS : ClassId × ClassId) (q : Nat → Nat) (sz n : Nat) (u : Nat) (hu : u < 2) (a1 : Int32) (a2 : Int32) (I : Nat → Int32) (R : Nat → Nat → Int32) (z : Int64 × mSt) (e0 : fX0_wayBy n u a1 a2 I R = some z) : Met l yX0_wayBy wsX0_wayBy rmX0_wayBy (va_Pc [.ref (q (150 + 100 * u)), .int a1, .int a2] (cPre D y yS q sz I R)) (cQl D y yS q (cS y yS q sz) z) 0 0 (cS y yS q sz) := by
  refine Met.ofW (cc := cX0_wayBy) (maxL := 7) (ret := some .long) (by decide) rfl ?_
  intro p e s m args below meth c s₁ B hml hv
  obtain ⟨rfl, hsz, hP, hK, hN, hD⟩ := hv
  subst hsz
  have hl := lv_entry ([.ref (q (150 + 100 * u)), .int a1, .int a2]) (n := 7) (Nat.le_of_ble_eq_true rfl)
  rw [lg_entry_eq]
  exact fX0_wayBy_w (s := s) hu ⟨⟨B.exec, B.bytes, hml, findClass_of_methodNamed B.named, atoms_spec (ws := wsX0_wayBy) B.pre⟩, hK, hN⟩ ⟨B.returns, B.notSynchronized⟩ ⟨hP, cS_D hD, va_S.rf⟩ hl e0
theorem in_X0_isCheapened_X0 : ∀ w ∈ wsX00, w ∈ wsX0_isCheapened := fun _ h9 => List.mem_cons_of_mem _ (List.mem_append_left _ (List.mem_append_left _ (List.mem_append_right _ h9)))
theorem in_X0_isCheapened_X2 : ∀ w ∈ wsX20, w ∈ wsX0_isCheapened := fun _ h9 => List.mem_cons_of_mem _ (List.mem_append_left _ (List.mem_append_right _ h9))
theorem in_X0_isCheapened_X3 : ∀ w ∈ wsX30, w ∈ wsX0_isCheapened := fun _ h9 => List.mem_cons_of_mem _ (List.mem_append_right _ h9)
def rmX0_isCheapened : Room := { frames := 2, cells := 0, slots := 0, locals := 56 }
def fX0_isCheapened_b117 (n : Nat) (u : Nat) (k4 : Int32 → Int32 → (Nat → Int32) → (Nat → Nat → Int32) → Option (Int32 × mSt)) (k51 : Int32 → Int32 → Int32 → Int32 → Int32 → (Nat → Int32) → (Nat → Nat → Int32) → Option (Int32 × mSt)) (a1 : Int32) (a2 : Int32) (a3 : Int32) (a4 : Int32) (a5 : Int32) (I : Nat → Int32) (R : Nat → Nat → Int32) : Option (Int32 × mSt) :=
  k51 a1 a2 a3 a4 (a5 + 1) I R
set_option maxRecDepth 20000 in
set_option maxHeartbeats 2000000 in
theorem fX0_isCheapened_b117_w {p : Program} {l : Launch} {e : Env} {s : State} {m : MethodId} {args : Array Value} {below : List Frame} {meth : Method} {c : Code} {D : va_G} {y : ClassId} {yS : ClassId × ClassId} {q : Nat → Nat} {n : Nat} {z : Int32 × mSt} {u : Nat} (hu : u < 2) (X : cX p s m args c cX0_isCheapened 8 wsX0_isCheapened RX0 D y yS) (hr : meth.sig.returnType = some .boolean ∧ meth.locks = false) {k4 : Int32 → Int32 → (Nat → Int32) → (Nat → Nat → Int32) → Option (Int32 × mSt)} (hk4 : ∀ (a1 : Int32) (a2 : Int32) (I : Nat → Int32) (R : Nat → Nat → Int32) (H : Heap) (locs : List Loc) (ls : Array Slot), cH s D y yS q H locs I R → lv_has ls 8 [(0, .ref (q (150 + 100 * u))), (1, .int a1), (2, .int a2)] → k4 a1 a2 I R = some z → W p l e rmX0_isCheapened s m args below meth c H locs 0 0 (MQ below (cQi D y yS q (cS y yS q s.heap.size) z) args s 0 0 (cS y yS q s.heap.size)) (F0 m 4 ls [])) {k51 : Int32 → Int32 → Int32 → Int32 → Int32 → (Nat → Int32) → (Nat → Nat → Int32) → Option (Int32 × mSt)} (hk51 : ∀ (a1 : Int32) (a2 : Int32) (a3 : Int32) (a4 : Int32) (a5 : Int32) (I : Nat → Int32) (R : Nat → Nat → Int32) (H : Heap) (locs : List Loc) (ls : Array Slot), cH s D y yS q H locs I R → lv_has ls 8 [(0, .ref (q (150 + 100 * u))), (1, .int a1), (2, .int a2), (3, .int a3), (4, .int a4), (5, .int a5)] → k51 a1 a2 a3 a4 a5 I R = some z → W p l e rmX0_isCheapened s m args below meth c H locs 0 0 (MQ below (cQi D y yS q (cS y yS q s.heap.size) z) args s 0 0 (cS y yS q s.heap.size)) (F0 m 51 ls [])) {a1 : Int32} {a2 : Int32} {a3 : Int32} {a4 : Int32} {a5 : Int32} {I : Nat → Int32} {R : Nat → Nat → Int32} {H : Heap} {locs : List Loc} {ls : Array Slot} (w : cH s D y yS q H locs I R) (hl : lv_has ls 8 [(0, .ref (q (150 + 100 * u))), (1, .int a1), (2, .int a2), (3, .int a3), (4, .int a4), (5, .int a5)]) (e0 : fX0_isCheapened_b117 n u k4 k51 a1 a2 a3 a4 a5 I R = some z) : W p l e rmX0_isCheapened s m args below meth c H locs 0 0 (MQ below (cQi D y yS q (cS y yS q s.heap.size) z) args s 0 0 (cS y yS q s.heap.size)) (F0 m 117 ls []) := by
  have hx := X.1.1
  have hb := X.1.2.1
  unfold fX0_isCheapened_b117 at e0
  refine lv_iinc (v := (a5 + 1)) (lv' := [(5, .int (a5 + 1)), (0, .ref (q (150 + 100 * u))), (1, .int a1), (2, .int a2), (3, .int a3), (4, .int a4)]) hx hb dX0_isCheapened_117 hl (k := 5) rfl rfl (by decide) rfl (fun ls hl => ?_)
  refine lv_goto (tgt := 51) hx hb dX0_isCheapened_120 (by decide) ?_
  exact hk51 _ _ _ _ _ _ _ _ _ _ w (lv_sub hl [1, 2, 3, 4, 5, 0] rfl) e0
def fX0_isCheapened_b81 (n : Nat) (u : Nat) (k4 : Int32 → Int32 → (Nat → Int32) → (Nat → Nat → Int32) → Option (Int32 × mSt)) (k51 : Int32 → Int32 → Int32 → Int32 → Int32 → (Nat → Int32) → (Nat → Nat → Int32) → Option (Int32 × mSt)) (a1 : Int32) (a2 : Int32) (a3 : Int32) (a4 : Int32) (a5 : Int32) (t0 : Int64) (I : Nat → Int32) (R : Nat → Nat → Int32) : Option (Int32 × mSt) :=
  if inb ((16 * a3) + a5) 64 = true then
  if 0 ≤ (lcmpI t0 (getL R (154 + 100 * u) ((16 * a3) + a5))) then
    fX0_isCheapened_b117 n u k4 k51 a1 a2 a3 a4 a5 I R
  else
    if inb ((16 * a3) + a5) 64 = true then
    fX0_isCheapened_b117 n u k4 k51 1 a2 a3 a4 a5 I (setL R (154 + 100 * u) ((16 * a3) + a5) t0)
    else none
  else none
set_option maxRecDepth 20000 in
set_option maxHeartbeats 2000000 in
theorem fX0_isCheapened_b81_w {p : Program} {l : Launch} {e : Env} {s : State} {m : MethodId} {args : Array Value} {below : List Frame} {meth : Method} {c : Code} {D : va_G} {y : ClassId} {yS : ClassId × ClassId} {q : Nat → Nat} {n : Nat} {z : Int32 × mSt} {u : Nat} (hu : u < 2) (X : cX p s m args c cX0_isCheapened 8 wsX0_isCheapened RX0 D y yS) (hr : meth.sig.returnType = some .boolean ∧ meth.locks = false) {k4 : Int32 → Int32 → (Nat → Int32) → (Nat → Nat → Int32) → Option (Int32 × mSt)} (hk4 : ∀ (a1 : Int32) (a2 : Int32) (I : Nat → Int32) (R : Nat → Nat → Int32) (H : Heap) (locs : List Loc) (ls : Array Slot), cH s D y yS q H locs I R → lv_has ls 8 [(0, .ref (q (150 + 100 * u))), (1, .int a1), (2, .int a2)] → k4 a1 a2 I R = some z → W p l e rmX0_isCheapened s m args below meth c H locs 0 0 (MQ below (cQi D y yS q (cS y yS q s.heap.size) z) args s 0 0 (cS y yS q s.heap.size)) (F0 m 4 ls [])) {k51 : Int32 → Int32 → Int32 → Int32 → Int32 → (Nat → Int32) → (Nat → Nat → Int32) → Option (Int32 × mSt)} (hk51 : ∀ (a1 : Int32) (a2 : Int32) (a3 : Int32) (a4 : Int32) (a5 : Int32) (I : Nat → Int32) (R : Nat → Nat → Int32) (H : Heap) (locs : List Loc) (ls : Array Slot), cH s D y yS q H locs I R → lv_has ls 8 [(0, .ref (q (150 + 100 * u))), (1, .int a1), (2, .int a2), (3, .int a3), (4, .int a4), (5, .int a5)] → k51 a1 a2 a3 a4 a5 I R = some z → W p l e rmX0_isCheapened s m args below meth c H locs 0 0 (MQ below (cQi D y yS q (cS y yS q s.heap.size) z) args s 0 0 (cS y yS q s.heap.size)) (F0 m 51 ls [])) {a1 : Int32} {a2 : Int32} {a3 : Int32} {a4 : Int32} {a5 : Int32} {t0 : Int64} {I : Nat → Int32} {R : Nat → Nat → Int32} {H : Heap} {locs : List Loc} {ls : Array Slot} (w : cH s D y yS q H locs I R) (hl : lv_has ls 8 [(0, .ref (q (150 + 100 * u))), (1, .int a1), (2, .int a2), (3, .int a3), (4, .int a4), (5, .int a5)]) (e0 : fX0_isCheapened_b81 n u k4 k51 a1 a2 a3 a4 a5 t0 I R = some z) : W p l e rmX0_isCheapened s m args below meth c H locs 0 0 (MQ below (cQi D y yS q (cS y yS q s.heap.size) z) args s 0 0 (cS y yS q s.heap.size)) (F0 m 81 ls [.long t0]) := by
  have hx := X.1.1
  have hb := X.1.2.1
  unfold fX0_isCheapened_b81 at e0
  refine lv_lstore (lv' := [(6, .long t0), (0, .ref (q (150 + 100 * u))), (1, .int a1), (2, .int a2), (3, .int a3), (4, .int a4), (5, .int a5)]) hx hb dX0_isCheapened_81 hl (by decide) rfl (fun ls hl => ?_)
  refine lv_lload hx hb dX0_isCheapened_83 (lv_at hl 0 rfl) ?_
  refine lv_aload_n hx hb dX0_isCheapened_85 rfl (lv_at hl 1 rfl) ?_
  refine c_get X w (cat_CO _ _ _ _ _ u hu) rfl in_X0_isCheapened_X0 3 (by decide) (index := 9) rfl (by decide +kernel) (cf_CO_3 _ _ _) dX0_isCheapened_86 ?_
  refine lv_bipush (v := 16) hx hb dX0_isCheapened_89 (by decide) ?_
  refine lv_iload_n hx hb dX0_isCheapened_91 rfl (lv_at hl 4 rfl) ?_
  refine lv_imul hx hb dX0_isCheapened_92 ?_
  refine lv_iload hx hb dX0_isCheapened_93 (lv_at hl 6 rfl) ?_
  refine lv_iadd hx hb dX0_isCheapened_95 ?_
  refine gd e0 (fun g10 e0 => ?_)
  refine c_lald X w (cat_a154 _ _ _ _ _ u hu) g10 dX0_isCheapened_96 ?_
  refine lv_lcmp hx hb dX0_isCheapened_97 ?_
  refine lv_if_ge (tgt := 117) hx hb dX0_isCheapened_98 (by decide) (fun c12 => ?_) (fun c12 => ?_)
  · have e0 := itp _ c12 e0
    exact fX0_isCheapened_b117_w (l := l) hu X hr hk4 hk51 w (lv_sub hl [1, 2, 3, 4, 5, 6] rfl) e0
  · have e0 := itn _ c12 e0
    refine lv_aload_n hx hb dX0_isCheapened_101 rfl (lv_at hl 1 rfl) ?_
    refine c_get X w (cat_CO _ _ _ _ _ u hu) rfl in_X0_isCheapened_X0 3 (by decide) (index := 9) rfl (by decide +kernel) (cf_CO_3 _ _ _) dX0_isCheapened_102 ?_
    refine lv_bipush (v := 16) hx hb dX0_isCheapened_105 (by decide) ?_
    refine lv_iload_n hx hb dX0_isCheapened_107 rfl (lv_at hl 4 rfl) ?_
    refine lv_imul hx hb dX0_isCheapened_108 ?_
    refine lv_iload hx hb dX0_isCheapened_109 (lv_at hl 6 rfl) ?_
    refine lv_iadd hx hb dX0_isCheapened_111 ?_
    refine lv_lload hx hb dX0_isCheapened_112 (lv_at hl 0 rfl) ?_
    refine gd e0 (fun g11 e0 => ?_)
    refine c_last X w (cat_a154 _ _ _ _ _ u hu) (cset_a154 _ _ _ _ _ u hu) g11 dX0_isCheapened_114 (fun H locs w => ?_)
    refine lv_iconst (v := 1) hx hb dX0_isCheapened_115 (by decide) ?_
    refine lv_istore_n (lv' := [(1, .int 1), (6, .long t0), (0, .ref (q (150 + 100 * u))), (2, .int a2), (3, .int a3), (4, .int a4), (5, .int a5)]) hx hb dX0_isCheapened_116 rfl hl (by decide) rfl (fun ls hl => ?_)
    exact fX0_isCheapened_b117_w (l := l) hu X hr hk4 hk51 w (lv_sub hl [2, 0, 3, 4, 5, 6] rfl) e0
def fX0_isCheapened_b51 (n : Nat) (u : Nat) (k4 : Int32 → Int32 → (Nat → Int32) → (Nat → Nat → Int32) → Option (Int32 × mSt)) : Nat → Int32 → Int32 → Int32 → Int32 → Int32 → (Nat → Int32) → (Nat → Nat → Int32) → Option (Int32 × mSt)
  | 0, _, _, _, _, _, _, _ => none
  | j + 1, a1, a2, a3, a4, a5, I, R =>
    if 16 ≤ a5 then
      k4 a1 (a2 + 1) I R
    else
      if ((a4 >>> (a5 &&& 31)) &&& 1) = 0 then
        fX0_isCheapened_b81 n u k4 (fX0_isCheapened_b51 n u k4 j) a1 a2 a3 a4 a5 1152921504606846976 I R
      else
        (fX0_wayBy n u a2 a5 I R).bind fun z6 =>
        fX0_isCheapened_b81 n u k4 (fX0_isCheapened_b51 n u k4 j) a1 a2 a3 a4 a5 z6.1 z6.2.1 z6.2.2
set_option maxRecDepth 20000 in
set_option maxHeartbeats 2000000 in
theorem fX0_isCheapened_b51_w {p : Program} {l : Launch} {e : Env} {s : State} {m : MethodId} {args : Array Value} {below : List Frame} {meth : Method} {c : Code} {D : va_G} {y : ClassId} {yS : ClassId × ClassId} {q : Nat → Nat} {n : Nat} {z : Int32 × mSt} {u : Nat} (hu : u < 2) (X : cX p s m args c cX0_isCheapened 8 wsX0_isCheapened RX0 D y yS) (hr : meth.sig.returnType = some .boolean ∧ meth.locks = false) {k4 : Int32 → Int32 → (Nat → Int32) → (Nat → Nat → Int32) → Option (Int32 × mSt)} (hk4 : ∀ (a1 : Int32) (a2 : Int32) (I : Nat → Int32) (R : Nat → Nat → Int32) (H : Heap) (locs : List Loc) (ls : Array Slot), cH s D y yS q H locs I R → lv_has ls 8 [(0, .ref (q (150 + 100 * u))), (1, .int a1), (2, .int a2)] → k4 a1 a2 I R = some z → W p l e rmX0_isCheapened s m args below meth c H locs 0 0 (MQ below (cQi D y yS q (cS y yS q s.heap.size) z) args s 0 0 (cS y yS q s.heap.size)) (F0 m 4 ls [])) : ∀ (j : Nat) (a1 : Int32) (a2 : Int32) (a3 : Int32) (a4 : Int32) (a5 : Int32) (I : Nat → Int32) (R : Nat → Nat → Int32) (H : Heap) (locs : List Loc) (ls : Array Slot), cH s D y yS q H locs I R → lv_has ls 8 [(0, .ref (q (150 + 100 * u))), (1, .int a1), (2, .int a2), (3, .int a3), (4, .int a4), (5, .int a5)] → fX0_isCheapened_b51 n u k4 j a1 a2 a3 a4 a5 I R = some z → W p l e rmX0_isCheapened s m args below meth c H locs 0 0 (MQ below (cQi D y yS q (cS y yS q s.heap.size) z) args s 0 0 (cS y yS q s.heap.size)) (F0 m 51 ls []) := by
  have hx := X.1.1
  have hb := X.1.2.1
  intro j
  induction j with
  | zero =>
    intro a1 a2 a3 a4 a5 I R H locs ls w hl e0
    cases e0
  | succ j ih =>
    intro a1 a2 a3 a4 a5 I R H locs ls w hl e0
    rw [fX0_isCheapened_b51] at e0
    refine lv_iload hx hb dX0_isCheapened_51 (lv_at hl 5 rfl) ?_
    refine lv_bipush (v := 16) hx hb dX0_isCheapened_53 (by decide) ?_
    refine lv_icmp_ge (tgt := 123) hx hb dX0_isCheapened_55 (by decide) (fun c9 => ?_) (fun c9 => ?_)
    · have e0 := itp _ c9 e0
      refine lv_iinc (v := (a2 + 1)) (lv' := [(2, .int (a2 + 1)), (0, .ref (q (150 + 100 * u))), (1, .int a1), (3, .int a3), (4, .int a4), (5, .int a5)]) hx hb dX0_isCheapened_123 hl (k := 2) rfl rfl (by decide) rfl (fun ls hl => ?_)
      refine lv_goto (tgt := 4) hx hb dX0_isCheapened_126 (by decide) ?_
      exact hk4 _ _ _ _ _ _ _ w (lv_sub hl [1, 2, 0] rfl) e0
    · have e0 := itn _ c9 e0
      refine lv_iload hx hb dX0_isCheapened_58 (lv_at hl 4 rfl) ?_
      refine lv_iload hx hb dX0_isCheapened_60 (lv_at hl 5 rfl) ?_
      refine lv_ishr hx hb dX0_isCheapened_62 ?_
      refine lv_iconst (v := 1) hx hb dX0_isCheapened_63 (by decide) ?_
      refine lv_iand hx hb dX0_isCheapened_64 ?_
      refine lv_if_ne (tgt := 74) hx hb dX0_isCheapened_65 (by decide) (fun c8 => ?_) (fun c8 => ?_)
      · have e0 := itn _ c8 e0
        refine lv_aload_n hx hb dX0_isCheapened_74 rfl (lv_at hl 0 rfl) ?_
        refine lv_iload_n hx hb dX0_isCheapened_75 rfl (lv_at hl 2 rfl) ?_
        refine lv_iload hx hb dX0_isCheapened_76 (lv_at hl 5 rfl) ?_
        refine bd e0 (fun z6 e7 e0 => ?_)
        refine c_calll X w (c_rec X w (cat_CO _ _ _ _ _ u hu) rfl) (n := 2) (As := [.int a2, .int a5]) (rest := []) (fX0_wayBy_met l _ _ _ _ _ _ _ hu _ _ _ _ _ e7) gX0_isCheapened_X0_wayBy rfl rfl rfl (by decide +kernel) ⟨Nat.le_of_ble_eq_true rfl, Nat.le_of_ble_eq_true rfl⟩ rfl hl.1 rfl (Nat.le_of_ble_eq_true rfl) dX0_isCheapened_78 (fun H locs w => ?_)
        exact fX0_isCheapened_b81_w (l := l) hu X hr hk4 ih w (lv_sub hl [0, 1, 2, 3, 4, 5] rfl) e0
      · have e0 := itp _ c8 e0
        refine lv_ldc2 (own := RX0) (v := 1152921504606846976) hx hb X.1.2.2.2.1 (X.1.2.2.2.2 _ (by decide +kernel)) dX0_isCheapened_68 ?_
        refine lv_goto (tgt := 81) hx hb dX0_isCheapened_71 (by decide) ?_
        exact fX0_isCheapened_b81_w (l := l) hu X hr hk4 ih w (lv_sub hl [0, 1, 2, 3, 4, 5] rfl) e0
def fX0_isCheapened_b4 (n : Nat) (u : Nat) : Nat → Int32 → Int32 → (Nat → Int32) → (Nat → Nat → Int32) → Option (Int32 × mSt)
  | 0, _, _, _, _ => none
  | j + 1, a1, a2, I, R =>
    if (I (119 + 100 * u)) ≤ a2 then
      if isB a1 = true then
      some (a1, I, R)
      else none
    else
      if inb a2 5 = true then
      if inb (getA R (114 + 100 * u) a2) 4 = true then
      if inb (getA R (114 + 100 * u) a2) 4 = true then
      fX0_isCheapened_b51 n u (fX0_isCheapened_b4 n u j) n a1 a2 (getA R (114 + 100 * u) a2) ((getA R (143 + 100 * u) (getA R (114 + 100 * u) a2)) &&& ((getA R (117 + 100 * u) (getA R (114 + 100 * u) a2)) ^^^ (-1))) 0 I R
      else none
      else none
      else none
set_option maxRecDepth 20000 in
set_option maxHeartbeats 2000000 in
theorem fX0_isCheapened_b4_w {p : Program} {l : Launch} {e : Env} {s : State} {m : MethodId} {args : Array Value} {below : List Frame} {meth : Method} {c : Code} {D : va_G} {y : ClassId} {yS : ClassId × ClassId} {q : Nat → Nat} {n : Nat} {z : Int32 × mSt} {u : Nat} (hu : u < 2) (X : cX p s m args c cX0_isCheapened 8 wsX0_isCheapened RX0 D y yS) (hr : meth.sig.returnType = some .boolean ∧ meth.locks = false) : ∀ (j : Nat) (a1 : Int32) (a2 : Int32) (I : Nat → Int32) (R : Nat → Nat → Int32) (H : Heap) (locs : List Loc) (ls : Array Slot), cH s D y yS q H locs I R → lv_has ls 8 [(0, .ref (q (150 + 100 * u))), (1, .int a1), (2, .int a2)] → fX0_isCheapened_b4 n u j a1 a2 I R = some z → W p l e rmX0_isCheapened s m args below meth c H locs 0 0 (MQ below (cQi D y yS q (cS y yS q s.heap.size) z) args s 0 0 (cS y yS q s.heap.size)) (F0 m 4 ls []) := by
  have hx := X.1.1
  have hb := X.1.2.1
  intro j
  induction j with
  | zero =>
    intro a1 a2 I R H locs ls w hl e0
    cases e0
  | succ j ih =>
    intro a1 a2 I R H locs ls w hl e0
    rw [fX0_isCheapened_b4] at e0
    refine lv_iload_n hx hb dX0_isCheapened_4 rfl (lv_at hl 2 rfl) ?_
    refine lv_aload_n hx hb dX0_isCheapened_5 rfl (lv_at hl 0 rfl) ?_
    refine c_get X w (cat_CO _ _ _ _ _ u hu) rfl in_X0_isCheapened_X0 0 (by decide) (index := 19) rfl (by decide +kernel) (cf_CO_0 _ _ _) dX0_isCheapened_6 ?_
    refine c_get X w (cat_PR _ _ _ _ _ u hu) rfl in_X0_isCheapened_X2 8 (by decide) (index := 47) rfl (by decide +kernel) (cf_PR_8 _ _ _) dX0_isCheapened_9 ?_
    refine lv_icmp_ge (tgt := 129) hx hb dX0_isCheapened_12 (by decide) (fun c5 => ?_) (fun c5 => ?_)
    · have e0 := itp _ c5 e0
      refine lv_iload_n hx hb dX0_isCheapened_129 rfl (lv_at hl 1 rfl) ?_
      refine gd e0 (fun g1 e0 => ?_)
      have e0 := Option.some.inj e0
      subst e0
      exact c_zret X w hr g1 dX0_isCheapened_130
    · have e0 := itn _ c5 e0
      refine lv_aload_n hx hb dX0_isCheapened_15 rfl (lv_at hl 0 rfl) ?_
      refine c_get X w (cat_CO _ _ _ _ _ u hu) rfl in_X0_isCheapened_X0 0 (by decide) (index := 19) rfl (by decide +kernel) (cf_CO_0 _ _ _) dX0_isCheapened_16 ?_
      refine c_get X w (cat_PR _ _ _ _ _ u hu) rfl in_X0_isCheapened_X2 3 (by decide) (index := 51) rfl (by decide +kernel) (cf_PR_3 _ _ _) dX0_isCheapened_19 ?_
      refine lv_iload_n hx hb dX0_isCheapened_22 rfl (lv_at hl 2 rfl) ?_
      refine gd e0 (fun g2 e0 => ?_)
      refine c_ald X w (cat_a114 _ _ _ _ _ u hu) g2 dX0_isCheapened_23 ?_
      refine lv_istore_n (lv' := [(3, .int (getA R (114 + 100 * u) a2)), (0, .ref (q (150 + 100 * u))), (1, .int a1), (2, .int a2)]) hx hb dX0_isCheapened_24 rfl hl (by decide) rfl (fun ls hl => ?_)
      refine lv_aload_n hx hb dX0_isCheapened_25 rfl (lv_at hl 1 rfl) ?_
      refine c_get X w (cat_CO _ _ _ _ _ u hu) rfl in_X0_isCheapened_X0 2 (by decide) (index := 27) rfl (by decide +kernel) (cf_CO_2 _ _ _) dX0_isCheapened_26 ?_
      refine c_get X w (cat_RO _ _ _ _ _ u hu) rfl in_X0_isCheapened_X3 2 (by decide) (index := 54) rfl (by decide +kernel) (cf_RO_2 _ _ _) dX0_isCheapened_29 ?_
      refine lv_iload_n hx hb dX0_isCheapened_32 rfl (lv_at hl 0 rfl) ?_
      refine gd e0 (fun g3 e0 => ?_)
      refine c_ald X w (cat_a143 _ _ _ _ _ u hu) g3 dX0_isCheapened_33 ?_
      refine lv_aload_n hx hb dX0_isCheapened_34 rfl (lv_at hl 1 rfl) ?_
      refine c_get X w (cat_CO _ _ _ _ _ u hu) rfl in_X0_isCheapened_X0 0 (by decide) (index := 19) rfl (by decide +kernel) (cf_CO_0 _ _ _) dX0_isCheapened_35 ?_
      refine c_get X w (cat_PR _ _ _ _ _ u hu) rfl in_X0_isCheapened_X2 6 (by decide) (index := 59) rfl (by decide +kernel) (cf_PR_6 _ _ _) dX0_isCheapened_38 ?_
      refine lv_iload_n hx hb dX0_isCheapened_41 rfl (lv_at hl 0 rfl) ?_
      refine gd e0 (fun g4 e0 => ?_)
      refine c_ald X w (cat_a117 _ _ _ _ _ u hu) g4 dX0_isCheapened_42 ?_
      refine lv_iconst (v := (-1)) hx hb dX0_isCheapened_43 (by decide) ?_
      refine lv_ixor hx hb dX0_isCheapened_44 ?_
      refine lv_iand hx hb dX0_isCheapened_45 ?_
      refine lv_istore (lv' := [(4, .int ((getA R (143 + 100 * u) (getA R (114 + 100 * u) a2)) &&& ((getA R (117 + 100 * u) (getA R (114 + 100 * u) a2)) ^^^ (-1)))), (3, .int (getA R (114 + 100 * u) a2)), (0, .ref (q (150 + 100 * u))), (1, .int a1), (2, .int a2)]) hx hb dX0_isCheapened_46 hl (by decide) rfl (fun ls hl => ?_)
      refine lv_iconst (v := 0) hx hb dX0_isCheapened_48 (by decide) ?_
      refine lv_istore (lv' := [(5, .int 0), (4, .int ((getA R (143 + 100 * u) (getA R (114 + 100 * u) a2)) &&& ((getA R (117 + 100 * u) (getA R (114 + 100 * u) a2)) ^^^ (-1)))), (3, .int (getA R (114 + 100 * u) a2)), (0, .ref (q (150 + 100 * u))), (1, .int a1), (2, .int a2)]) hx hb dX0_isCheapened_49 hl (by decide) rfl (fun ls hl => ?_)
      exact fX0_isCheapened_b51_w (l := l) hu X hr ih n _ _ _ _ _ _ _ _ _ _ w (lv_sub hl [3, 4, 5, 2, 1, 0] rfl) e0
def fX0_isCheapened (n : Nat) (u : Nat) (I : Nat → Int32) (R : Nat → Nat → Int32) : Option (Int32 × mSt) :=
  fX0_isCheapened_b4 n u n 0 0 I R
set_option maxRecDepth 20000 in
set_option maxHeartbeats 2000000 in
theorem fX0_isCheapened_w {p : Program} {l : Launch} {e : Env} {s : State} {m : MethodId} {args : Array Value} {below : List Frame} {meth : Method} {c : Code} {D : va_G} {y : ClassId} {yS : ClassId × ClassId} {q : Nat → Nat} {n : Nat} {z : Int32 × mSt} {u : Nat} (hu : u < 2) (X : cX p s m args c cX0_isCheapened 8 wsX0_isCheapened RX0 D y yS) (hr : meth.sig.returnType = some .boolean ∧ meth.locks = false) {I : Nat → Int32} {R : Nat → Nat → Int32} {H : Heap} {locs : List Loc} {ls : Array Slot} (w : cH s D y yS q H locs I R) (hl : lv_has ls 8 [(0, .ref (q (150 + 100 * u)))]) (e0 : fX0_isCheapened n u I R = some z) : W p l e rmX0_isCheapened s m args below meth c H locs 0 0 (MQ below (cQi D y yS q (cS y yS q s.heap.size) z) args s 0 0 (cS y yS q s.heap.size)) (F0 m 0 ls []) := by
  have hx := X.1.1
  have hb := X.1.2.1
  unfold fX0_isCheapened at e0
  refine lv_iconst (v := 0) hx hb dX0_isCheapened_0 (by decide) ?_
  refine lv_istore_n (lv' := [(1, .int 0), (0, .ref (q (150 + 100 * u)))]) hx hb dX0_isCheapened_1 rfl hl (by decide) rfl (fun ls hl => ?_)
  refine lv_iconst (v := 0) hx hb dX0_isCheapened_2 (by decide) ?_
  refine lv_istore_n (lv' := [(2, .int 0), (1, .int 0), (0, .ref (q (150 + 100 * u)))]) hx hb dX0_isCheapened_3 rfl hl (by decide) rfl (fun ls hl => ?_)
  exact fX0_isCheapened_b4_w (l := l) hu X hr n _ _ _ _ _ _ _ w (lv_sub hl [2, 1, 0] rfl) e0
set_option maxRecDepth 20000 in
theorem fX0_isCheapened_met (l : Launch) (D : va_G) (y : ClassId) (yS : ClassId × ClassId) (q : Nat → Nat) (sz n : Nat) (u : Nat) (hu : u < 2) (I : Nat → Int32) (R : Nat → Nat → Int32) (z : Int32 × mSt) (e0 : fX0_isCheapened n u I R = some z) : Met l yX0_isCheapened wsX0_isCheapened rmX0_isCheapened (va_Pc [.ref (q (150 + 100 * u))] (cPre D y yS q sz I R)) (cQi D y yS q (cS y yS q sz) z) 0 0 (cS y yS q sz) := by
  refine Met.ofW (cc := cX0_isCheapened) (maxL := 8) (ret := some .boolean) (by decide) rfl ?_
  intro p e s m args below meth c s₁ B hml hv
  obtain ⟨rfl, hsz, hP, hK, hN, hD⟩ := hv
  subst hsz
  have hl := lv_entry ([.ref (q (150 + 100 * u))]) (n := 8) (Nat.le_of_ble_eq_true rfl)
  rw [lg_entry_eq]
  exact fX0_isCheapened_w (s := s) hu ⟨⟨B.exec, B.bytes, hml, findClass_of_methodNamed B.named, atoms_spec (ws := wsX0_isCheapened) B.pre⟩, hK, hN⟩ ⟨B.returns, B.notSynchronized⟩ ⟨hP, cS_D hD, va_S.rf⟩ hl e0
theorem in_X0_run_X0 : ∀ w ∈ wsX00, w ∈ wsX0_run := fun _ h9 => List.mem_cons_of_mem _ (List.mem_append_left _ (List.mem_append_left _ (List.mem_append_right _ h9)))
theorem in_X0_run_X2 : ∀ w ∈ wsX20, w ∈ wsX0_run := fun _ h9 => List.mem_cons_of_mem _ (List.mem_append_left _ (List.mem_append_right _ h9))
theorem in_X0_run_X3 : ∀ w ∈ wsX30, w ∈ wsX0_run := fun _ h9 => List.mem_cons_of_mem _ (List.mem_append_right _ h9)
def rmX0_run : Room := { frames := 3, cells := 0, slots := 0, locals := 83 }
def fX0_run_b31 (n : Nat) (u : Nat) (k2 : Int32 → (Nat → Int32) → (Nat → Nat → Int32) → Option (mSt)) (a1 : Int32) (t0 : Int64) (t1 : Int32) (I : Nat → Int32) (R : Nat → Nat → Int32) : Option (mSt) :=
  if inb t1 64 = true then
  k2 (a1 + 1) I (setL R (154 + 100 * u) t1 t0)
  else none
set_option maxRecDepth 20000 in
set_option maxHeartbeats 2000000 in
theorem fX0_run_b31_w {p : Program} {l : Launch} {e : Env} {s : State} {m : MethodId} {args : Array Value} {below : List Frame} {meth : Method} {c : Code} {D : va_G} {y : ClassId} {yS : ClassId × ClassId} {q : Nat → Nat} {n : Nat} {z : mSt} {u : Nat} (hu : u < 2) (X : cX p s m args c cX0_run 3 wsX0_run RX0 D y yS) (hr : meth.sig.returnType = none ∧ meth.locks = false) {k2 : Int32 → (Nat → Int32) → (Nat → Nat → Int32) → Option (mSt)} (hk2 : ∀ (a1 : Int32) (I : Nat → Int32) (R : Nat → Nat → Int32) (H : Heap) (locs : List Loc) (ls : Array Slot), cH s D y yS q H locs I R → lv_has ls 3 [(0, .ref (q (150 + 100 * u))), (1, .int a1)] → k2 a1 I R = some z → W p l e rmX0_run s m args below meth c H locs 0 0 (MQ below (cQv D y yS q (cS y yS q s.heap.size) z) args s 0 0 (cS y yS q s.heap.size)) (F0 m 2 ls [])) {a1 : Int32} {t0 : Int64} {t1 : Int32} {I : Nat → Int32} {R : Nat → Nat → Int32} {H : Heap} {locs : List Loc} {ls : Array Slot} (w : cH s D y yS q H locs I R) (hl : lv_has ls 3 [(0, .ref (q (150 + 100 * u))), (1, .int a1)]) (e0 : fX0_run_b31 n u k2 a1 t0 t1 I R = some z) : W p l e rmX0_run s m args below meth c H locs 0 0 (MQ below (cQv D y yS q (cS y yS q s.heap.size) z) args s 0 0 (cS y yS q s.heap.size)) (F0 m 31 ls [.long t0, .int t1, .ref (q (154 + 100 * u))]) := by
  have hx := X.1.1
  have hb := X.1.2.1
  unfold fX0_run_b31 at e0
  refine gd e0 (fun g9 e0 => ?_)
  refine c_last X w (cat_a154 _ _ _ _ _ u hu) (cset_a154 _ _ _ _ _ u hu) g9 dX0_run_31 (fun H locs w => ?_)
  refine lv_iinc (v := (a1 + 1)) (lv' := [(1, .int (a1 + 1)), (0, .ref (q (150 + 100 * u)))]) hx hb dX0_run_32 hl (k := 1) rfl rfl (by decide) rfl (fun ls hl => ?_)
  refine lv_goto (tgt := 2) hx hb dX0_run_35 (by decide) ?_
  exact hk2 _ _ _ _ _ _ w (lv_sub hl [1, 0] rfl) e0
def fX0_run_b63 (n : Nat) (u : Nat) (I : Nat → Int32) (R : Nat → Nat → Int32) : Option (mSt) :=
  some ((upd I (157 + 100 * u) 0), R)
set_option maxRecDepth 20000 in
set_option maxHeartbeats 2000000 in
theorem fX0_run_b63_w {p : Program} {l : Launch} {e : Env} {s : State} {m : MethodId} {args : Array Value} {below : List Frame} {meth : Method} {c : Code} {D : va_G} {y : ClassId} {yS : ClassId × ClassId} {q : Nat → Nat} {n : Nat} {z : mSt} {u : Nat} (hu : u < 2) (X : cX p s m args c cX0_run 3 wsX0_run RX0 D y yS) (hr : meth.sig.returnType = none ∧ meth.locks = false) {I : Nat → Int32} {R : Nat → Nat → Int32} {H : Heap} {locs : List Loc} {ls : Array Slot} (w : cH s D y yS q H locs I R) (hl : lv_has ls 3 [(0, .ref (q (150 + 100 * u)))]) (e0 : fX0_run_b63 n u I R = some z) : W p l e rmX0_run s m args below meth c H locs 0 0 (MQ below (cQv D y yS q (cS y yS q s.heap.size) z) args s 0 0 (cS y yS q s.heap.size)) (F0 m 63 ls []) := by
  have hx := X.1.1
  have hb := X.1.2.1
  unfold fX0_run_b63 at e0
  refine lv_aload_n hx hb dX0_run_63 rfl (lv_at hl 0 rfl) ?_
  refine lv_iconst (v := 0) hx hb dX0_run_64 (by decide) ?_
  refine c_put X w (cat_CO _ _ _ _ _ u hu) rfl in_X0_run_X0 tyX0 tyX0_ok nmX0 6 (by decide) (index := 43) (ty := .boolean) rfl (by decide +kernel) rfl (by decide +kernel) rfl rfl (Nat.le_of_ble_eq_true rfl) (cset_CO_6 _ _ _ _ _ u hu _) dX0_run_65 (fun H locs w => ?_)
  have e0 := Option.some.inj e0
  subst e0
  exact c_vret X w hr dX0_run_68
def fX0_run_b42 (n : Nat) (u : Nat) : Nat → Int32 → Int32 → (Nat → Int32) → (Nat → Nat → Int32) → Option (mSt)
  | 0, _, _, _, _ => none
  | j + 1, a1, a2, I, R =>
    if 64 < a2 then
      fX0_run_b63 n u I R
    else
      if a1 = 0 then
        fX0_run_b63 n u I R
      else
        (fX0_isCheapened n u I R).bind fun z5 =>
        fX0_run_b42 n u j z5.1 (a2 + 1) z5.2.1 z5.2.2
set_option maxRecDepth 20000 in
set_option maxHeartbeats 2000000 in
theorem fX0_run_b42_w {p : Program} {l : Launch} {e : Env} {s : State} {m : MethodId} {args : Array Value} {below : List Frame} {meth : Method} {c : Code} {D : va_G} {y : ClassId} {yS : ClassId × ClassId} {q : Nat → Nat} {n : Nat} {z : mSt} {u : Nat} (hu : u < 2) (X : cX p s m args c cX0_run 3 wsX0_run RX0 D y yS) (hr : meth.sig.returnType = none ∧ meth.locks = false) : ∀ (j : Nat) (a1 : Int32) (a2 : Int32) (I : Nat → Int32) (R : Nat → Nat → Int32) (H : Heap) (locs : List Loc) (ls : Array Slot), cH s D y yS q H locs I R → lv_has ls 3 [(0, .ref (q (150 + 100 * u))), (1, .int a1), (2, .int a2)] → fX0_run_b42 n u j a1 a2 I R = some z → W p l e rmX0_run s m args below meth c H locs 0 0 (MQ below (cQv D y yS q (cS y yS q s.heap.size) z) args s 0 0 (cS y yS q s.heap.size)) (F0 m 42 ls []) := by
  have hx := X.1.1
  have hb := X.1.2.1
  intro j
  induction j with
  | zero =>
    intro a1 a2 I R H locs ls w hl e0
    cases e0
  | succ j ih =>
    intro a1 a2 I R H locs ls w hl e0
    rw [fX0_run_b42] at e0
    refine lv_iload_n hx hb dX0_run_42 rfl (lv_at hl 2 rfl) ?_
    refine lv_bipush (v := 64) hx hb dX0_run_43 (by decide) ?_
    refine lv_icmp_gt (tgt := 63) hx hb dX0_run_45 (by decide) (fun c8 => ?_) (fun c8 => ?_)
    · have e0 := itp _ c8 e0
      exact fX0_run_b63_w (l := l) hu X hr w (lv_sub hl [0] rfl) e0
    · have e0 := itn _ c8 e0
      refine lv_iload_n hx hb dX0_run_48 rfl (lv_at hl 1 rfl) ?_
      refine lv_if_eq (tgt := 63) hx hb dX0_run_49 (by decide) (fun c7 => ?_) (fun c7 => ?_)
      · have e0 := itp _ c7 e0
        exact fX0_run_b63_w (l := l) hu X hr w (lv_sub hl [0] rfl) e0
      · have e0 := itn _ c7 e0
        refine lv_aload_n hx hb dX0_run_52 rfl (lv_at hl 0 rfl) ?_
        refine bd e0 (fun z5 e6 e0 => ?_)
        refine c_calli X w (c_rec X w (cat_CO _ _ _ _ _ u hu) rfl) (n := 0) (As := []) (rest := []) (fX0_isCheapened_met l _ _ _ _ _ _ _ hu  _ _ _ e6) gX0_run_X0_isCheapened rfl rfl rfl (by decide +kernel) ⟨Nat.le_of_ble_eq_true rfl, Nat.le_of_ble_eq_true rfl⟩ rfl hl.1 rfl (Nat.le_of_ble_eq_true rfl) dX0_run_53 (fun H locs w => ?_)
        refine lv_istore_n (lv' := [(1, .int z5.1), (0, .ref (q (150 + 100 * u))), (2, .int a2)]) hx hb dX0_run_56 rfl hl (by decide) rfl (fun ls hl => ?_)
        refine lv_iinc (v := (a2 + 1)) (lv' := [(2, .int (a2 + 1)), (1, .int z5.1), (0, .ref (q (150 + 100 * u)))]) hx hb dX0_run_57 hl (k := 2) rfl rfl (by decide) rfl (fun ls hl => ?_)
        refine lv_goto (tgt := 42) hx hb dX0_run_60 (by decide) ?_
        exact ih _ _ _ _ _ _ _ w (lv_sub hl [2, 1, 0] rfl) e0
def fX0_run_b2 (n : Nat) (u : Nat) : Nat → Int32 → (Nat → Int32) → (Nat → Nat → Int32) → Option (mSt)
  | 0, _, _, _ => none
  | j + 1, a1, I, R =>
    if 64 ≤ a1 then
      fX0_run_b42 n u n 1 0 I R
    else
      (fX2_isTold n u a1 I R).bind fun z1 =>
      if z1.1 = 0 then
        fX0_run_b31 n u (fX0_run_b2 n u j) a1 1152921504606846976 a1 z1.2.1 z1.2.2
      else
        fX0_run_b31 n u (fX0_run_b2 n u j) a1 0 a1 z1.2.1 z1.2.2
set_option maxRecDepth 20000 in
set_option maxHeartbeats 2000000 in
theorem fX0_run_b2_w {p : Program} {l : Launch} {e : Env} {s : State} {m : MethodId} {args : Array Value} {below : List Frame} {meth : Method} {c : Code} {D : va_G} {y : ClassId} {yS : ClassId × ClassId} {q : Nat → Nat} {n : Nat} {z : mSt} {u : Nat} (hu : u < 2) (X : cX p s m args c cX0_run 3 wsX0_run RX0 D y yS) (hr : meth.sig.returnType = none ∧ meth.locks = false) : ∀ (j : Nat) (a1 : Int32) (I : Nat → Int32) (R : Nat → Nat → Int32) (H : Heap) (locs : List Loc) (ls : Array Slot), cH s D y yS q H locs I R → lv_has ls 3 [(0, .ref (q (150 + 100 * u))), (1, .int a1)] → fX0_run_b2 n u j a1 I R = some z → W p l e rmX0_run s m args below meth c H locs 0 0 (MQ below (cQv D y yS q (cS y yS q s.heap.size) z) args s 0 0 (cS y yS q s.heap.size)) (F0 m 2 ls []) := by
  have hx := X.1.1
  have hb := X.1.2.1
  intro j
  induction j with
  | zero =>
    intro a1 I R H locs ls w hl e0
    cases e0
  | succ j ih =>
    intro a1 I R H locs ls w hl e0
    rw [fX0_run_b2] at e0
    refine lv_iload_n hx hb dX0_run_2 rfl (lv_at hl 1 rfl) ?_
    refine lv_bipush (v := 64) hx hb dX0_run_3 (by decide) ?_
    refine lv_icmp_ge (tgt := 38) hx hb dX0_run_5 (by decide) (fun c4 => ?_) (fun c4 => ?_)
    · have e0 := itp _ c4 e0
      refine lv_iconst (v := 1) hx hb dX0_run_38 (by decide) ?_
      refine lv_istore_n (lv' := [(1, .int 1), (0, .ref (q (150 + 100 * u)))]) hx hb dX0_run_39 rfl hl (by decide) rfl (fun ls hl => ?_)
      refine lv_iconst (v := 0) hx hb dX0_run_40 (by decide) ?_
      refine lv_istore_n (lv' := [(2, .int 0), (1, .int 1), (0, .ref (q (150 + 100 * u)))]) hx hb dX0_run_41 rfl hl (by decide) rfl (fun ls hl => ?_)
      exact fX0_run_b42_w (l := l) hu X hr n _ _ _ _ _ _ _ w (lv_sub hl [2, 1, 0] rfl) e0
    · have e0 := itn _ c4 e0
      refine lv_aload_n hx hb dX0_run_8 rfl (lv_at hl 0 rfl) ?_
      refine c_get X w (cat_CO _ _ _ _ _ u hu) rfl in_X0_run_X0 3 (by decide) (index := 9) rfl (by decide +kernel) (cf_CO_3 _ _ _) dX0_run_9 ?_
      refine lv_iload_n hx hb dX0_run_12 rfl (lv_at hl 1 rfl) ?_
      refine lv_aload_n hx hb dX0_run_13 rfl (lv_at hl 0 rfl) ?_
      refine c_get X w (cat_CO _ _ _ _ _ u hu) rfl in_X0_run_X0 0 (by decide) (index := 19) rfl (by decide +kernel) (cf_CO_0 _ _ _) dX0_run_14 ?_
      refine lv_iload_n hx hb dX0_run_17 rfl (lv_at hl 1 rfl) ?_
      refine bd e0 (fun z1 e2 e0 => ?_)
      refine c_calli X w (c_rec X w (cat_PR _ _ _ _ _ u hu) rfl) (n := 1) (As := [.int a1]) (rest := [.int a1, .ref (q (154 + 100 * u))]) (fX2_isTold_met l _ _ _ _ _ _ _ hu _ _ _ _ e2) gX0_run_X2_isTold rfl rfl rfl (by decide +kernel) ⟨Nat.le_of_ble_eq_true rfl, Nat.le_of_ble_eq_true rfl⟩ rfl hl.1 rfl (Nat.le_of_ble_eq_true rfl) dX0_run_18 (fun H locs w => ?_)
      refine lv_if_eq (tgt := 28) hx hb dX0_run_21 (by decide) (fun c3 => ?_) (fun c3 => ?_)
      · have e0 := itp _ c3 e0
        refine lv_ldc2 (own := RX0) (v := 1152921504606846976) hx hb X.1.2.2.2.1 (X.1.2.2.2.2 _ (by decide +kernel)) dX0_run_28 ?_
        exact fX0_run_b31_w (l := l) hu X hr ih w (lv_sub hl [0, 1] rfl) e0
      · have e0 := itn _ c3 e0
        refine lv_lconst (v := 0) hx hb dX0_run_24 (by decide) ?_
        refine lv_goto (tgt := 31) hx hb dX0_run_25 (by decide) ?_
        exact fX0_run_b31_w (l := l) hu X hr ih w (lv_sub hl [0, 1] rfl) e0
def fX0_run (n : Nat) (u : Nat) (I : Nat → Int32) (R : Nat → Nat → Int32) : Option (mSt) :=
  fX0_run_b2 n u n 0 I R
set_option maxRecDepth 20000 in
set_option maxHeartbeats 2000000 in
theorem fX0_run_w {p : Program} {l : Launch} {e : Env} {s : State} {m : MethodId} {args : Array Value} {below : List Frame} {meth : Method} {c : Code} {D : va_G} {y : ClassId} {yS : ClassId × ClassId} {q : Nat → Nat} {n : Nat} {z : mSt} {u : Nat} (hu : u < 2) (X : cX p s m args c cX0_run 3 wsX0_run RX0 D y yS) (hr : meth.sig.returnType = none ∧ meth.locks = false) {I : Nat → Int32} {R : Nat → Nat → Int32} {H : Heap} {locs : List Loc} {ls : Array Slot} (w : cH s D y yS q H locs I R) (hl : lv_has ls 3 [(0, .ref (q (150 + 100 * u)))]) (e0 : fX0_run n u I R = some z) : W p l e rmX0_run s m args below meth c H locs 0 0 (MQ below (cQv D y yS q (cS y yS q s.heap.size) z) args s 0 0 (cS y yS q s.heap.size)) (F0 m 0 ls []) := by
  have hx := X.1.1
  have hb := X.1.2.1
  unfold fX0_run at e0
  refine lv_iconst (v := 0) hx hb dX0_run_0 (by decide) ?_
  refine lv_istore_n (lv' := [(1, .int 0), (0, .ref (q (150 + 100 * u)))]) hx hb dX0_run_1 rfl hl (by decide) rfl (fun ls hl => ?_)
  exact fX0_run_b2_w (l := l) hu X hr n _ _ _ _ _ _ w (lv_sub hl [1, 0] rfl) e0
set_option maxRecDepth 20000 in
theorem fX0_run_met (l : Launch) (D : va_G) (y : ClassId) (yS : ClassId × ClassId) (q : Nat → Nat) (sz n : Nat) (u : Nat) (hu : u < 2) (I : Nat → Int32) (R : Nat → Nat → Int32) (z : mSt) (e0 : fX0_run n u I R = some z) : Met l yX0_run wsX0_run rmX0_run (va_Pc [.ref (q (150 + 100 * u))] (cPre D y yS q sz I R)) (cQv D y yS q (cS y yS q sz) z) 0 0 (cS y yS q sz) := by
  refine Met.ofW (cc := cX0_run) (maxL := 3) (ret := none) (by decide) rfl ?_
  intro p e s m args below meth c s₁ B hml hv
  obtain ⟨rfl, hsz, hP, hK, hN, hD⟩ := hv
  subst hsz
  have hl := lv_entry ([.ref (q (150 + 100 * u))]) (n := 3) (Nat.le_of_ble_eq_true rfl)
  rw [lg_entry_eq]
  exact fX0_run_w (s := s) hu ⟨⟨B.exec, B.bytes, hml, findClass_of_methodNamed B.named, atoms_spec (ws := wsX0_run) B.pre⟩, hK, hN⟩ ⟨B.returns, B.notSynchronized⟩ ⟨hP, cS_D hD, va_S.rf⟩ hl e0
theorem in_X0_cheapOf_X0 : ∀ w ∈ wsX00, w ∈ wsX0_cheapOf := fun _ h9 => List.mem_cons_of_mem _ (List.mem_append_left _ (List.mem_append_right _ h9))
theorem in_X0_cheapOf_X3 : ∀ w ∈ wsX30, w ∈ wsX0_cheapOf := fun _ h9 => List.mem_cons_of_mem _ (List.mem_append_right _ h9)
def rmX0_cheapOf : Room := { frames := 1, cells := 0, slots := 0, locals := 21 }
def fX0_cheapOf (n : Nat) (u : Nat) (a1 : Int32) (I : Nat → Int32) (R : Nat → Nat → Int32) : Option (Int32 × mSt) :=
  (fX3_isHeld n u a1 I R).bind fun z1 =>
  if z1.1 = 0 then
    some ((-9), z1.2.1, z1.2.2)
  else
    if inb a1 64 = true then
    some ((((getL z1.2.2 (154 + 100 * u) a1)).toInt32), z1.2.1, z1.2.2)
    else none
set_option maxRecDepth 20000 in
set_option maxHeartbeats 2000000 in
theorem fX0_cheapOf_w {p : Program} {l : Launch} {e : Env} {s : State} {m : MethodId} {args : Array Value} {below : List Frame} {meth : Method} {c : Code} {D : va_G} {y : ClassId} {yS : ClassId × ClassId} {q : Nat → Nat} {n : Nat} {z : Int32 × mSt} {u : Nat} (hu : u < 2) (X : cX p s m args c cX0_cheapOf 2 wsX0_cheapOf RX0 D y yS) (hr : meth.sig.returnType = some .int ∧ meth.locks = false) {a1 : Int32} {I : Nat → Int32} {R : Nat → Nat → Int32} {H : Heap} {locs : List Loc} {ls : Array Slot} (w : cH s D y yS q H locs I R) (hl : lv_has ls 2 [(0, .ref (q (150 + 100 * u))), (1, .int a1)]) (e0 : fX0_cheapOf n u a1 I R = some z) : W p l e rmX0_cheapOf s m args below meth c H locs 0 0 (MQ below (cQi D y yS q (cS y yS q s.heap.size) z) args s 0 0 (cS y yS q s.heap.size)) (F0 m 0 ls []) := by
  have hx := X.1.1
  have hb := X.1.2.1
  unfold fX0_cheapOf at e0
  refine lv_aload_n hx hb dX0_cheapOf_0 rfl (lv_at hl 0 rfl) ?_
  refine c_get X w (cat_CO _ _ _ _ _ u hu) rfl in_X0_cheapOf_X0 2 (by decide) (index := 27) rfl (by decide +kernel) (cf_CO_2 _ _ _) dX0_cheapOf_1 ?_
  refine lv_iload_n hx hb dX0_cheapOf_4 rfl (lv_at hl 1 rfl) ?_
  refine bd e0 (fun z1 e2 e0 => ?_)
  refine c_calli X w (c_rec X w (cat_RO _ _ _ _ _ u hu) rfl) (n := 1) (As := [.int a1]) (rest := []) (fX3_isHeld_met l _ _ _ _ _ _ _ hu _ _ _ _ e2) gX0_cheapOf_X3_isHeld rfl rfl rfl (by decide +kernel) ⟨Nat.le_of_ble_eq_true rfl, Nat.le_of_ble_eq_true rfl⟩ rfl hl.1 rfl (Nat.le_of_ble_eq_true rfl) dX0_cheapOf_5 (fun H locs w => ?_)
  refine lv_if_eq (tgt := 21) hx hb dX0_cheapOf_8 (by decide) (fun c4 => ?_) (fun c4 => ?_)
  · have e0 := itp _ c4 e0
    refine lv_bipush (v := (-9)) hx hb dX0_cheapOf_21 (by decide) ?_
    have e0 := Option.some.inj e0
    subst e0
    exact c_iret X w hr dX0_cheapOf_23
  · have e0 := itn _ c4 e0
    refine lv_aload_n hx hb dX0_cheapOf_11 rfl (lv_at hl 0 rfl) ?_
    refine c_get X w (cat_CO _ _ _ _ _ u hu) rfl in_X0_cheapOf_X0 3 (by decide) (index := 9) rfl (by decide +kernel) (cf_CO_3 _ _ _) dX0_cheapOf_12 ?_
    refine lv_iload_n hx hb dX0_cheapOf_15 rfl (lv_at hl 1 rfl) ?_
    refine gd e0 (fun g3 e0 => ?_)
    refine c_lald X w (cat_a154 _ _ _ _ _ u hu) g3 dX0_cheapOf_16 ?_
    refine lv_l2i (v := (((getL z1.2.2 (154 + 100 * u) a1)).toInt32)) hx hb dX0_cheapOf_17 rfl ?_
    refine lv_goto (tgt := 23) hx hb dX0_cheapOf_18 (by decide) ?_
    have e0 := Option.some.inj e0
    subst e0
    exact c_iret X w hr dX0_cheapOf_23
set_option maxRecDepth 20000 in
theorem fX0_cheapOf_met (l : Launch) (D : va_G) (y : ClassId) (yS : ClassId × ClassId) (q : Nat → Nat) (sz n : Nat) (u : Nat) (hu : u < 2) (a1 : Int32) (I : Nat → Int32) (R : Nat → Nat → Int32) (z : Int32 × mSt) (e0 : fX0_cheapOf n u a1 I R = some z) : Met l yX0_cheapOf wsX0_cheapOf rmX0_cheapOf (va_Pc [.ref (q (150 + 100 * u)), .int a1] (cPre D y yS q sz I R)) (cQi D y yS q (cS y yS q sz) z) 0 0 (cS y yS q sz) := by
  refine Met.ofW (cc := cX0_cheapOf) (maxL := 2) (ret := some .int) (by decide) rfl ?_
  intro p e s m args below meth c s₁ B hml hv
  obtain ⟨rfl, hsz, hP, hK, hN, hD⟩ := hv
  subst hsz
  have hl := lv_entry ([.ref (q (150 + 100 * u)), .int a1]) (n := 2) (Nat.le_of_ble_eq_true rfl)
  rw [lg_entry_eq]
  exact fX0_cheapOf_w (s := s) hu ⟨⟨B.exec, B.bytes, hml, findClass_of_methodNamed B.named, atoms_spec (ws := wsX0_cheapOf) B.pre⟩, hK, hN⟩ ⟨B.returns, B.notSynchronized⟩ ⟨hP, cS_D hD, va_S.rf⟩ hl e0
theorem in_X0_lastRule_X0 : ∀ w ∈ wsX00, w ∈ wsX0_lastRule := fun _ h9 => List.mem_cons_of_mem _ (List.mem_append_left _ (List.mem_append_left _ (List.mem_append_right _ h9)))
theorem in_X0_lastRule_X2 : ∀ w ∈ wsX20, w ∈ wsX0_lastRule := fun _ h9 => List.mem_cons_of_mem _ (List.mem_append_left _ (List.mem_append_right _ h9))
theorem in_X0_lastRule_X3 : ∀ w ∈ wsX30, w ∈ wsX0_lastRule := fun _ h9 => List.mem_cons_of_mem _ (List.mem_append_right _ h9)
def rmX0_lastRule : Room := { frames := 2, cells := 0, slots := 0, locals := 56 }
def fX0_lastRule_b75 (n : Nat) (u : Nat) (k27 : Int32 → Int32 → (Nat → Int32) → (Nat → Nat → Int32) → Option (Int32 × mSt)) (a1 : Int32) (a2 : Int32) (I : Nat → Int32) (R : Nat → Nat → Int32) : Option (Int32 × mSt) :=
  k27 a1 (a2 + 1) I R
set_option maxRecDepth 20000 in
set_option maxHeartbeats 2000000 in
theorem fX0_lastRule_b75_w {p : Program} {l : Launch} {e : Env} {s : State} {m : MethodId} {args : Array Value} {below : List Frame} {meth : Method} {c : Code} {D : va_G} {y : ClassId} {yS : ClassId × ClassId} {q : Nat → Nat} {n : Nat} {z : Int32 × mSt} {u : Nat} (hu : u < 2) (X : cX p s m args c cX0_lastRule 3 wsX0_lastRule RX0 D y yS) (hr : meth.sig.returnType = some .int ∧ meth.locks = false) {k27 : Int32 → Int32 → (Nat → Int32) → (Nat → Nat → Int32) → Option (Int32 × mSt)} (hk27 : ∀ (a1 : Int32) (a2 : Int32) (I : Nat → Int32) (R : Nat → Nat → Int32) (H : Heap) (locs : List Loc) (ls : Array Slot), cH s D y yS q H locs I R → lv_has ls 3 [(0, .ref (q (150 + 100 * u))), (1, .int a1), (2, .int a2)] → k27 a1 a2 I R = some z → W p l e rmX0_lastRule s m args below meth c H locs 0 0 (MQ below (cQi D y yS q (cS y yS q s.heap.size) z) args s 0 0 (cS y yS q s.heap.size)) (F0 m 27 ls [])) {a1 : Int32} {a2 : Int32} {I : Nat → Int32} {R : Nat → Nat → Int32} {H : Heap} {locs : List Loc} {ls : Array Slot} (w : cH s D y yS q H locs I R) (hl : lv_has ls 3 [(0, .ref (q (150 + 100 * u))), (1, .int a1), (2, .int a2)]) (e0 : fX0_lastRule_b75 n u k27 a1 a2 I R = some z) : W p l e rmX0_lastRule s m args below meth c H locs 0 0 (MQ below (cQi D y yS q (cS y yS q s.heap.size) z) args s 0 0 (cS y yS q s.heap.size)) (F0 m 75 ls []) := by
  have hx := X.1.1
  have hb := X.1.2.1
  unfold fX0_lastRule_b75 at e0
  refine lv_iinc (v := (a2 + 1)) (lv' := [(2, .int (a2 + 1)), (0, .ref (q (150 + 100 * u))), (1, .int a1)]) hx hb dX0_lastRule_75 hl (k := 2) rfl rfl (by decide) rfl (fun ls hl => ?_)
  refine lv_goto (tgt := 27) hx hb dX0_lastRule_78 (by decide) ?_
  exact hk27 _ _ _ _ _ _ _ w (lv_sub hl [1, 2, 0] rfl) e0
def fX0_lastRule_b27 (n : Nat) (u : Nat) : Nat → Int32 → Int32 → (Nat → Int32) → (Nat → Nat → Int32) → Option (Int32 × mSt)
  | 0, _, _, _, _ => none
  | j + 1, a1, a2, I, R =>
    if (I (119 + 100 * u)) ≤ a2 then
      some ((-9), I, R)
    else
      if inb a2 5 = true then
      if (getA R (114 + 100 * u) a2) = (a1 / 16) then
        (fX0_wayBy n u a2 (a1 - a1 / 16 * 16) I R).bind fun z8 =>
        if inb a1 64 = true then
        if (lcmpI z8.1 (getL z8.2.2 (154 + 100 * u) a1)) = 0 then
          some (a2, z8.2.1, z8.2.2)
        else
          fX0_lastRule_b75 n u (fX0_lastRule_b27 n u j) a1 a2 z8.2.1 z8.2.2
        else none
      else
        fX0_lastRule_b75 n u (fX0_lastRule_b27 n u j) a1 a2 I R
      else none
set_option maxRecDepth 20000 in
set_option maxHeartbeats 2000000 in
theorem fX0_lastRule_b27_w {p : Program} {l : Launch} {e : Env} {s : State} {m : MethodId} {args : Array Value} {below : List Frame} {meth : Method} {c : Code} {D : va_G} {y : ClassId} {yS : ClassId × ClassId} {q : Nat → Nat} {n : Nat} {z : Int32 × mSt} {u : Nat} (hu : u < 2) (X : cX p s m args c cX0_lastRule 3 wsX0_lastRule RX0 D y yS) (hr : meth.sig.returnType = some .int ∧ meth.locks = false) : ∀ (j : Nat) (a1 : Int32) (a2 : Int32) (I : Nat → Int32) (R : Nat → Nat → Int32) (H : Heap) (locs : List Loc) (ls : Array Slot), cH s D y yS q H locs I R → lv_has ls 3 [(0, .ref (q (150 + 100 * u))), (1, .int a1), (2, .int a2)] → fX0_lastRule_b27 n u j a1 a2 I R = some z → W p l e rmX0_lastRule s m args below meth c H locs 0 0 (MQ below (cQi D y yS q (cS y yS q s.heap.size) z) args s 0 0 (cS y yS q s.heap.size)) (F0 m 27 ls []) := by
  have hx := X.1.1
  have hb := X.1.2.1
  intro j
  induction j with
  | zero =>
    intro a1 a2 I R H locs ls w hl e0
    cases e0
  | succ j ih =>
    intro a1 a2 I R H locs ls w hl e0
    rw [fX0_lastRule_b27] at e0
    refine lv_iload_n hx hb dX0_lastRule_27 rfl (lv_at hl 2 rfl) ?_
    refine lv_aload_n hx hb dX0_lastRule_28 rfl (lv_at hl 0 rfl) ?_
    refine c_get X w (cat_CO _ _ _ _ _ u hu) rfl in_X0_lastRule_X0 0 (by decide) (index := 19) rfl (by decide +kernel) (cf_CO_0 _ _ _) dX0_lastRule_29 ?_
    refine c_get X w (cat_PR _ _ _ _ _ u hu) rfl in_X0_lastRule_X2 8 (by decide) (index := 47) rfl (by decide +kernel) (cf_PR_8 _ _ _) dX0_lastRule_32 ?_
    refine lv_icmp_ge (tgt := 81) hx hb dX0_lastRule_35 (by decide) (fun c13 => ?_) (fun c13 => ?_)
    · have e0 := itp _ c13 e0
      refine lv_bipush (v := (-9)) hx hb dX0_lastRule_81 (by decide) ?_
      have e0 := Option.some.inj e0
      subst e0
      exact c_iret X w hr dX0_lastRule_83
    · have e0 := itn _ c13 e0
      refine lv_aload_n hx hb dX0_lastRule_38 rfl (lv_at hl 0 rfl) ?_
      refine c_get X w (cat_CO _ _ _ _ _ u hu) rfl in_X0_lastRule_X0 0 (by decide) (index := 19) rfl (by decide +kernel) (cf_CO_0 _ _ _) dX0_lastRule_39 ?_
      refine c_get X w (cat_PR _ _ _ _ _ u hu) rfl in_X0_lastRule_X2 3 (by decide) (index := 51) rfl (by decide +kernel) (cf_PR_3 _ _ _) dX0_lastRule_42 ?_
      refine lv_iload_n hx hb dX0_lastRule_45 rfl (lv_at hl 2 rfl) ?_
      refine gd e0 (fun g7 e0 => ?_)
      refine c_ald X w (cat_a114 _ _ _ _ _ u hu) g7 dX0_lastRule_46 ?_
      refine lv_iload_n hx hb dX0_lastRule_47 rfl (lv_at hl 1 rfl) ?_
      refine lv_bipush (v := 16) hx hb dX0_lastRule_48 (by decide) ?_
      refine lv_idiv hx hb dX0_lastRule_50 (by decide) ?_
      refine lv_icmp_ne (tgt := 75) hx hb dX0_lastRule_51 (by decide) (fun c12 => ?_) (fun c12 => ?_)
      · have e0 := itn _ c12 e0
        exact fX0_lastRule_b75_w (l := l) hu X hr ih w (lv_sub hl [0, 1, 2] rfl) e0
      · have e0 := itp _ c12 e0
        refine lv_aload_n hx hb dX0_lastRule_54 rfl (lv_at hl 0 rfl) ?_
        refine lv_iload_n hx hb dX0_lastRule_55 rfl (lv_at hl 2 rfl) ?_
        refine lv_iload_n hx hb dX0_lastRule_56 rfl (lv_at hl 1 rfl) ?_
        refine lv_bipush (v := 16) hx hb dX0_lastRule_57 (by decide) ?_
        refine lv_irem hx hb dX0_lastRule_59 (by decide) ?_
        refine bd e0 (fun z8 e9 e0 => ?_)
        refine c_calll X w (c_rec X w (cat_CO _ _ _ _ _ u hu) rfl) (n := 2) (As := [.int a2, .int (a1 - a1 / 16 * 16)]) (rest := []) (fX0_wayBy_met l _ _ _ _ _ _ _ hu _ _ _ _ _ e9) gX0_lastRule_X0_wayBy rfl rfl rfl (by decide +kernel) ⟨Nat.le_of_ble_eq_true rfl, Nat.le_of_ble_eq_true rfl⟩ rfl hl.1 rfl (Nat.le_of_ble_eq_true rfl) dX0_lastRule_60 (fun H locs w => ?_)
        refine lv_aload_n hx hb dX0_lastRule_63 rfl (lv_at hl 0 rfl) ?_
        refine c_get X w (cat_CO _ _ _ _ _ u hu) rfl in_X0_lastRule_X0 3 (by decide) (index := 9) rfl (by decide +kernel) (cf_CO_3 _ _ _) dX0_lastRule_64 ?_
        refine lv_iload_n hx hb dX0_lastRule_67 rfl (lv_at hl 1 rfl) ?_
        refine gd e0 (fun g10 e0 => ?_)
        refine c_lald X w (cat_a154 _ _ _ _ _ u hu) g10 dX0_lastRule_68 ?_
        refine lv_lcmp hx hb dX0_lastRule_69 ?_
        refine lv_if_ne (tgt := 75) hx hb dX0_lastRule_70 (by decide) (fun c11 => ?_) (fun c11 => ?_)
        · have e0 := itn _ c11 e0
          exact fX0_lastRule_b75_w (l := l) hu X hr ih w (lv_sub hl [0, 1, 2] rfl) e0
        · have e0 := itp _ c11 e0
          refine lv_iload_n hx hb dX0_lastRule_73 rfl (lv_at hl 2 rfl) ?_
          have e0 := Option.some.inj e0
          subst e0
          exact c_iret X w hr dX0_lastRule_74
def fX0_lastRule (n : Nat) (u : Nat) (a1 : Int32) (I : Nat → Int32) (R : Nat → Nat → Int32) : Option (Int32 × mSt) :=
  (fX3_isHeld n u a1 I R).bind fun z1 =>
  if z1.1 = 0 then
    some ((-9), z1.2.1, z1.2.2)
  else
    (fX2_isTold n u a1 z1.2.1 z1.2.2).bind fun z3 =>
    if z3.1 = 0 then
      fX0_lastRule_b27 n u n a1 0 z3.2.1 z3.2.2
    else
      some ((-9), z3.2.1, z3.2.2)
set_option maxRecDepth 20000 in
set_option maxHeartbeats 2000000 in
theorem fX0_lastRule_w {p : Program} {l : Launch} {e : Env} {s : State} {m : MethodId} {args : Array Value} {below : List Frame} {meth : Method} {c : Code} {D : va_G} {y : ClassId} {yS : ClassId × ClassId} {q : Nat → Nat} {n : Nat} {z : Int32 × mSt} {u : Nat} (hu : u < 2) (X : cX p s m args c cX0_lastRule 3 wsX0_lastRule RX0 D y yS) (hr : meth.sig.returnType = some .int ∧ meth.locks = false) {a1 : Int32} {I : Nat → Int32} {R : Nat → Nat → Int32} {H : Heap} {locs : List Loc} {ls : Array Slot} (w : cH s D y yS q H locs I R) (hl : lv_has ls 3 [(0, .ref (q (150 + 100 * u))), (1, .int a1)]) (e0 : fX0_lastRule n u a1 I R = some z) : W p l e rmX0_lastRule s m args below meth c H locs 0 0 (MQ below (cQi D y yS q (cS y yS q s.heap.size) z) args s 0 0 (cS y yS q s.heap.size)) (F0 m 0 ls []) := by
  have hx := X.1.1
  have hb := X.1.2.1
  unfold fX0_lastRule at e0
  refine lv_aload_n hx hb dX0_lastRule_0 rfl (lv_at hl 0 rfl) ?_
  refine c_get X w (cat_CO _ _ _ _ _ u hu) rfl in_X0_lastRule_X0 2 (by decide) (index := 27) rfl (by decide +kernel) (cf_CO_2 _ _ _) dX0_lastRule_1 ?_
  refine lv_iload_n hx hb dX0_lastRule_4 rfl (lv_at hl 1 rfl) ?_
  refine bd e0 (fun z1 e2 e0 => ?_)
  refine c_calli X w (c_rec X w (cat_RO _ _ _ _ _ u hu) rfl) (n := 1) (As := [.int a1]) (rest := []) (fX3_isHeld_met l _ _ _ _ _ _ _ hu _ _ _ _ e2) gX0_lastRule_X3_isHeld rfl rfl rfl (by decide +kernel) ⟨Nat.le_of_ble_eq_true rfl, Nat.le_of_ble_eq_true rfl⟩ rfl hl.1 rfl (Nat.le_of_ble_eq_true rfl) dX0_lastRule_5 (fun H locs w => ?_)
  refine lv_if_eq (tgt := 22) hx hb dX0_lastRule_8 (by decide) (fun c6 => ?_) (fun c6 => ?_)
  · have e0 := itp _ c6 e0
    refine lv_bipush (v := (-9)) hx hb dX0_lastRule_22 (by decide) ?_
    have e0 := Option.some.inj e0
    subst e0
    exact c_iret X w hr dX0_lastRule_24
  · have e0 := itn _ c6 e0
    refine lv_aload_n hx hb dX0_lastRule_11 rfl (lv_at hl 0 rfl) ?_
    refine c_get X w (cat_CO _ _ _ _ _ u hu) rfl in_X0_lastRule_X0 0 (by decide) (index := 19) rfl (by decide +kernel) (cf_CO_0 _ _ _) dX0_lastRule_12 ?_
    refine lv_iload_n hx hb dX0_lastRule_15 rfl (lv_at hl 1 rfl) ?_
    refine bd e0 (fun z3 e4 e0 => ?_)
    refine c_calli X w (c_rec X w (cat_PR _ _ _ _ _ u hu) rfl) (n := 1) (As := [.int a1]) (rest := []) (fX2_isTold_met l _ _ _ _ _ _ _ hu _ _ _ _ e4) gX0_lastRule_X2_isTold rfl rfl rfl (by decide +kernel) ⟨Nat.le_of_ble_eq_true rfl, Nat.le_of_ble_eq_true rfl⟩ rfl hl.1 rfl (Nat.le_of_ble_eq_true rfl) dX0_lastRule_16 (fun H locs w => ?_)
    refine lv_if_eq (tgt := 25) hx hb dX0_lastRule_19 (by decide) (fun c5 => ?_) (fun c5 => ?_)
    · have e0 := itp _ c5 e0
      refine lv_iconst (v := 0) hx hb dX0_lastRule_25 (by decide) ?_
      refine lv_istore_n (lv' := [(2, .int 0), (0, .ref (q (150 + 100 * u))), (1, .int a1)]) hx hb dX0_lastRule_26 rfl hl (by decide) rfl (fun ls hl => ?_)
      exact fX0_lastRule_b27_w (l := l) hu X hr n _ _ _ _ _ _ _ w (lv_sub hl [1, 2, 0] rfl) e0
    · have e0 := itn _ c5 e0
      refine lv_bipush (v := (-9)) hx hb dX0_lastRule_22 (by decide) ?_
      have e0 := Option.some.inj e0
      subst e0
      exact c_iret X w hr dX0_lastRule_24
set_option maxRecDepth 20000 in
theorem fX0_lastRule_met (l : Launch) (D : va_G) (y : ClassId) (yS : ClassId × ClassId) (q : Nat → Nat) (sz n : Nat) (u : Nat) (hu : u < 2) (a1 : Int32) (I : Nat → Int32) (R : Nat → Nat → Int32) (z : Int32 × mSt) (e0 : fX0_lastRule n u a1 I R = some z) : Met l yX0_lastRule wsX0_lastRule rmX0_lastRule (va_Pc [.ref (q (150 + 100 * u)), .int a1] (cPre D y yS q sz I R)) (cQi D y yS q (cS y yS q sz) z) 0 0 (cS y yS q sz) := by
  refine Met.ofW (cc := cX0_lastRule) (maxL := 3) (ret := some .int) (by decide) rfl ?_
  intro p e s m args below meth c s₁ B hml hv
  obtain ⟨rfl, hsz, hP, hK, hN, hD⟩ := hv
  subst hsz
  have hl := lv_entry ([.ref (q (150 + 100 * u)), .int a1]) (n := 3) (Nat.le_of_ble_eq_true rfl)
  rw [lg_entry_eq]
  exact fX0_lastRule_w (s := s) hu ⟨⟨B.exec, B.bytes, hml, findClass_of_methodNamed B.named, atoms_spec (ws := wsX0_lastRule) B.pre⟩, hK, hN⟩ ⟨B.returns, B.notSynchronized⟩ ⟨hP, cS_D hD, va_S.rf⟩ hl e0
theorem in_X0_middle_X0 : ∀ w ∈ wsX00, w ∈ wsX0_middle := fun _ h9 => List.mem_cons_of_mem _ (List.mem_append_left _ (List.mem_append_left _ (List.mem_append_right _ h9)))
theorem in_X0_middle_X2 : ∀ w ∈ wsX20, w ∈ wsX0_middle := fun _ h9 => List.mem_cons_of_mem _ (List.mem_append_left _ (List.mem_append_right _ h9))
theorem in_X0_middle_X3 : ∀ w ∈ wsX30, w ∈ wsX0_middle := fun _ h9 => List.mem_cons_of_mem _ (List.mem_append_right _ h9)
def rmX0_middle : Room := { frames := 3, cells := 0, slots := 0, locals := 78 }
def fX0_middle_b48 (n : Nat) (u : Nat) : Nat → Int32 → Int32 → Int64 → Int32 → (Nat → Int32) → (Nat → Nat → Int32) → Option (Int32 × mSt)
  | 0, _, _, _, _, _, _ => none
  | j + 1, a1, a2, a3, a5, I, R =>
    if 4 ≤ a5 then
      some ((-9), I, R)
    else
      (fX0_partsThrough n u a2 (a1 - a1 / 16 * 16) a5 I R).bind fun z9 =>
      if (lcmpI z9.1 a3) = 0 then
        some (a5, z9.2.1, z9.2.2)
      else
        fX0_middle_b48 n u j a1 a2 a3 (a5 + 1) z9.2.1 z9.2.2
set_option maxRecDepth 20000 in
set_option maxHeartbeats 2000000 in
theorem fX0_middle_b48_w {p : Program} {l : Launch} {e : Env} {s : State} {m : MethodId} {args : Array Value} {below : List Frame} {meth : Method} {c : Code} {D : va_G} {y : ClassId} {yS : ClassId × ClassId} {q : Nat → Nat} {n : Nat} {z : Int32 × mSt} {u : Nat} (hu : u < 2) (X : cX p s m args c cX0_middle 6 wsX0_middle RX0 D y yS) (hr : meth.sig.returnType = some .int ∧ meth.locks = false) : ∀ (j : Nat) (a1 : Int32) (a2 : Int32) (a3 : Int64) (a5 : Int32) (I : Nat → Int32) (R : Nat → Nat → Int32) (H : Heap) (locs : List Loc) (ls : Array Slot), cH s D y yS q H locs I R → lv_has ls 6 [(0, .ref (q (150 + 100 * u))), (1, .int a1), (2, .int a2), (3, .long a3), (5, .int a5)] → fX0_middle_b48 n u j a1 a2 a3 a5 I R = some z → W p l e rmX0_middle s m args below meth c H locs 0 0 (MQ below (cQi D y yS q (cS y yS q s.heap.size) z) args s 0 0 (cS y yS q s.heap.size)) (F0 m 48 ls []) := by
  have hx := X.1.1
  have hb := X.1.2.1
  intro j
  induction j with
  | zero =>
    intro a1 a2 a3 a5 I R H locs ls w hl e0
    cases e0
  | succ j ih =>
    intro a1 a2 a3 a5 I R H locs ls w hl e0
    rw [fX0_middle_b48] at e0
    refine lv_iload hx hb dX0_middle_48 (lv_at hl 4 rfl) ?_
    refine lv_iconst (v := 4) hx hb dX0_middle_50 (by decide) ?_
    refine lv_icmp_ge (tgt := 79) hx hb dX0_middle_51 (by decide) (fun c12 => ?_) (fun c12 => ?_)
    · have e0 := itp _ c12 e0
      refine lv_bipush (v := (-9)) hx hb dX0_middle_79 (by decide) ?_
      have e0 := Option.some.inj e0
      subst e0
      exact c_iret X w hr dX0_middle_81
    · have e0 := itn _ c12 e0
      refine lv_aload_n hx hb dX0_middle_54 rfl (lv_at hl 0 rfl) ?_
      refine lv_iload_n hx hb dX0_middle_55 rfl (lv_at hl 2 rfl) ?_
      refine lv_iload_n hx hb dX0_middle_56 rfl (lv_at hl 1 rfl) ?_
      refine lv_bipush (v := 16) hx hb dX0_middle_57 (by decide) ?_
      refine lv_irem hx hb dX0_middle_59 (by decide) ?_
      refine lv_iload hx hb dX0_middle_60 (lv_at hl 4 rfl) ?_
      refine bd e0 (fun z9 e10 e0 => ?_)
      refine c_calll X w (c_rec X w (cat_CO _ _ _ _ _ u hu) rfl) (n := 3) (As := [.int a2, .int (a1 - a1 / 16 * 16), .int a5]) (rest := []) (fX0_partsThrough_met l _ _ _ _ _ _ _ hu _ _ _ _ _ _ e10) gX0_middle_X0_partsThrough rfl rfl rfl (by decide +kernel) ⟨Nat.le_of_ble_eq_true rfl, Nat.le_of_ble_eq_true rfl⟩ rfl hl.1 rfl (Nat.le_of_ble_eq_true rfl) dX0_middle_62 (fun H locs w => ?_)
      refine lv_lload_n hx hb dX0_middle_65 rfl (lv_at hl 3 rfl) ?_
      refine lv_lcmp hx hb dX0_middle_66 ?_
      refine lv_if_ne (tgt := 73) hx hb dX0_middle_67 (by decide) (fun c11 => ?_) (fun c11 => ?_)
      · have e0 := itn _ c11 e0
        refine lv_iinc (v := (a5 + 1)) (lv' := [(5, .int (a5 + 1)), (0, .ref (q (150 + 100 * u))), (1, .int a1), (2, .int a2), (3, .long a3)]) hx hb dX0_middle_73 hl (k := 4) rfl rfl (by decide) rfl (fun ls hl => ?_)
        refine lv_goto (tgt := 48) hx hb dX0_middle_76 (by decide) ?_
        exact ih _ _ _ _ _ _ _ _ _ w (lv_sub hl [1, 2, 3, 4, 0] rfl) e0
      · have e0 := itp _ c11 e0
        refine lv_iload hx hb dX0_middle_70 (lv_at hl 4 rfl) ?_
        have e0 := Option.some.inj e0
        subst e0
        exact c_iret X w hr dX0_middle_72
def fX0_middle (n : Nat) (u : Nat) (a1 : Int32) (I : Nat → Int32) (R : Nat → Nat → Int32) : Option (Int32 × mSt) :=
  (fX0_lastRule n u a1 I R).bind fun z1 =>
  if z1.1 = (-9) then
    some ((-9), z1.2.1, z1.2.2)
  else
    if inb z1.1 5 = true then
    if (getA z1.2.2 (113 + 100 * u) z1.1) = 2 then
      if inb a1 64 = true then
      (fX2_cost n u z1.1 z1.2.1 z1.2.2).bind fun z5 =>
      fX0_middle_b48 n u n a1 z1.1 ((getL z1.2.2 (154 + 100 * u) a1) - ((z5.1).toInt64)) 0 z5.2.1 z5.2.2
      else none
    else
      some ((-9), z1.2.1, z1.2.2)
    else none
set_option maxRecDepth 20000 in
set_option maxHeartbeats 2000000 in
theorem fX0_middle_w {p : Program} {l : Launch} {e : Env} {s : State} {m : MethodId} {args : Array Value} {below : List Frame} {meth : Method} {c : Code} {D : va_G} {y : ClassId} {yS : ClassId × ClassId} {q : Nat → Nat} {n : Nat} {z : Int32 × mSt} {u : Nat} (hu : u < 2) (X : cX p s m args c cX0_middle 6 wsX0_middle RX0 D y yS) (hr : meth.sig.returnType = some .int ∧ meth.locks = false) {a1 : Int32} {I : Nat → Int32} {R : Nat → Nat → Int32} {H : Heap} {locs : List Loc} {ls : Array Slot} (w : cH s D y yS q H locs I R) (hl : lv_has ls 6 [(0, .ref (q (150 + 100 * u))), (1, .int a1)]) (e0 : fX0_middle n u a1 I R = some z) : W p l e rmX0_middle s m args below meth c H locs 0 0 (MQ below (cQi D y yS q (cS y yS q s.heap.size) z) args s 0 0 (cS y yS q s.heap.size)) (F0 m 0 ls []) := by
  have hx := X.1.1
  have hb := X.1.2.1
  unfold fX0_middle at e0
  refine lv_aload_n hx hb dX0_middle_0 rfl (lv_at hl 0 rfl) ?_
  refine lv_iload_n hx hb dX0_middle_1 rfl (lv_at hl 1 rfl) ?_
  refine bd e0 (fun z1 e2 e0 => ?_)
  refine c_calli X w (c_rec X w (cat_CO _ _ _ _ _ u hu) rfl) (n := 1) (As := [.int a1]) (rest := []) (fX0_lastRule_met l _ _ _ _ _ _ _ hu _ _ _ _ e2) gX0_middle_X0_lastRule rfl rfl rfl (by decide +kernel) ⟨Nat.le_of_ble_eq_true rfl, Nat.le_of_ble_eq_true rfl⟩ rfl hl.1 rfl (Nat.le_of_ble_eq_true rfl) dX0_middle_2 (fun H locs w => ?_)
  refine lv_istore_n (lv' := [(2, .int z1.1), (0, .ref (q (150 + 100 * u))), (1, .int a1)]) hx hb dX0_middle_5 rfl hl (by decide) rfl (fun ls hl => ?_)
  refine lv_iload_n hx hb dX0_middle_6 rfl (lv_at hl 0 rfl) ?_
  refine lv_bipush (v := (-9)) hx hb dX0_middle_7 (by decide) ?_
  refine lv_icmp_eq (tgt := 25) hx hb dX0_middle_9 (by decide) (fun c8 => ?_) (fun c8 => ?_)
  · have e0 := itp _ c8 e0
    refine lv_bipush (v := (-9)) hx hb dX0_middle_25 (by decide) ?_
    have e0 := Option.some.inj e0
    subst e0
    exact c_iret X w hr dX0_middle_27
  · have e0 := itn _ c8 e0
    refine lv_aload_n hx hb dX0_middle_12 rfl (lv_at hl 1 rfl) ?_
    refine c_get X w (cat_CO _ _ _ _ _ u hu) rfl in_X0_middle_X0 0 (by decide) (index := 19) rfl (by decide +kernel) (cf_CO_0 _ _ _) dX0_middle_13 ?_
    refine c_get X w (cat_PR _ _ _ _ _ u hu) rfl in_X0_middle_X2 2 (by decide) (index := 66) rfl (by decide +kernel) (cf_PR_2 _ _ _) dX0_middle_16 ?_
    refine lv_iload_n hx hb dX0_middle_19 rfl (lv_at hl 0 rfl) ?_
    refine gd e0 (fun g3 e0 => ?_)
    refine c_ald X w (cat_a113 _ _ _ _ _ u hu) g3 dX0_middle_20 ?_
    refine lv_iconst (v := 2) hx hb dX0_middle_21 (by decide) ?_
    refine lv_icmp_eq (tgt := 28) hx hb dX0_middle_22 (by decide) (fun c7 => ?_) (fun c7 => ?_)
    · have e0 := itp _ c7 e0
      refine lv_aload_n hx hb dX0_middle_28 rfl (lv_at hl 1 rfl) ?_
      refine c_get X w (cat_CO _ _ _ _ _ u hu) rfl in_X0_middle_X0 3 (by decide) (index := 9) rfl (by decide +kernel) (cf_CO_3 _ _ _) dX0_middle_29 ?_
      refine lv_iload_n hx hb dX0_middle_32 rfl (lv_at hl 2 rfl) ?_
      refine gd e0 (fun g4 e0 => ?_)
      refine c_lald X w (cat_a154 _ _ _ _ _ u hu) g4 dX0_middle_33 ?_
      refine lv_aload_n hx hb dX0_middle_34 rfl (lv_at hl 1 rfl) ?_
      refine c_get X w (cat_CO _ _ _ _ _ u hu) rfl in_X0_middle_X0 0 (by decide) (index := 19) rfl (by decide +kernel) (cf_CO_0 _ _ _) dX0_middle_35 ?_
      refine lv_iload_n hx hb dX0_middle_38 rfl (lv_at hl 0 rfl) ?_
      refine bd e0 (fun z5 e6 e0 => ?_)
      refine c_calli X w (c_rec X w (cat_PR _ _ _ _ _ u hu) rfl) (n := 1) (As := [.int z1.1]) (rest := [.long (getL z1.2.2 (154 + 100 * u) a1)]) (fX2_cost_met l _ _ _ _ _ _ _ hu _ _ _ _ e6) gX0_middle_X2_cost rfl rfl rfl (by decide +kernel) ⟨Nat.le_of_ble_eq_true rfl, Nat.le_of_ble_eq_true rfl⟩ rfl hl.1 rfl (Nat.le_of_ble_eq_true rfl) dX0_middle_39 (fun H locs w => ?_)
      refine lv_i2l (v := ((z5.1).toInt64)) hx hb dX0_middle_42 rfl ?_
      refine lv_lsub hx hb dX0_middle_43 ?_
      refine lv_lstore_n (lv' := [(3, .long ((getL z1.2.2 (154 + 100 * u) a1) - ((z5.1).toInt64))), (2, .int z1.1), (0, .ref (q (150 + 100 * u))), (1, .int a1)]) hx hb dX0_middle_44 rfl hl (by decide) rfl (fun ls hl => ?_)
      refine lv_iconst (v := 0) hx hb dX0_middle_45 (by decide) ?_
      refine lv_istore (lv' := [(5, .int 0), (3, .long ((getL z1.2.2 (154 + 100 * u) a1) - ((z5.1).toInt64))), (2, .int z1.1), (0, .ref (q (150 + 100 * u))), (1, .int a1)]) hx hb dX0_middle_46 hl (by decide) rfl (fun ls hl => ?_)
      exact fX0_middle_b48_w (l := l) hu X hr n _ _ _ _ _ _ _ _ _ w (lv_sub hl [3, 4, 2, 1, 0] rfl) e0
    · have e0 := itn _ c7 e0
      refine lv_bipush (v := (-9)) hx hb dX0_middle_25 (by decide) ?_
      have e0 := Option.some.inj e0
      subst e0
      exact c_iret X w hr dX0_middle_27
set_option maxRecDepth 20000 in
theorem fX0_middle_met (l : Launch) (D : va_G) (y : ClassId) (yS : ClassId × ClassId) (q : Nat → Nat) (sz n : Nat) (u : Nat) (hu : u < 2) (a1 : Int32) (I : Nat → Int32) (R : Nat → Nat → Int32) (z : Int32 × mSt) (e0 : fX0_middle n u a1 I R = some z) : Met l yX0_middle wsX0_middle rmX0_middle (va_Pc [.ref (q (150 + 100 * u)), .int a1] (cPre D y yS q sz I R)) (cQi D y yS q (cS y yS q sz) z) 0 0 (cS y yS q sz) := by
  refine Met.ofW (cc := cX0_middle) (maxL := 6) (ret := some .int) (by decide) rfl ?_
  intro p e s m args below meth c s₁ B hml hv
  obtain ⟨rfl, hsz, hP, hK, hN, hD⟩ := hv
  subst hsz
  have hl := lv_entry ([.ref (q (150 + 100 * u)), .int a1]) (n := 6) (Nat.le_of_ble_eq_true rfl)
  rw [lg_entry_eq]
  exact fX0_middle_w (s := s) hu ⟨⟨B.exec, B.bytes, hml, findClass_of_methodNamed B.named, atoms_spec (ws := wsX0_middle) B.pre⟩, hK, hN⟩ ⟨B.returns, B.notSynchronized⟩ ⟨hP, cS_D hD, va_S.rf⟩ hl e0
