theorem in_X2_clear_X2 : ∀ w ∈ wsX20, w ∈ wsX2_clear := fun _ h9 => List.mem_cons_of_mem _ (List.mem_append_right _ h9)
def rmX2_clear : Room := { frames := 1, cells := 0, slots := 0, locals := 23 }
def fX2_clear (n : Nat) (u : Nat) (I : Nat → Int32) (R : Nat → Nat → Int32) : Option (mSt) :=
  some ((upd (upd I (118 + 100 * u) 0) (119 + 100 * u) 0), (flA R (117 + 100 * u) 4 0))
set_option maxRecDepth 20000 in
set_option maxHeartbeats 2000000 in
theorem fX2_clear_w {p : Program} {l : Launch} {e : Env} {s : State} {m : MethodId} {args : Array Value} {below : List Frame} {meth : Method} {c : Code} {D : va_G} {y : ClassId} {yS : ClassId × ClassId} {q : Nat → Nat} {n : Nat} {z : mSt} {u : Nat} (hu : u < 2) (X : cX p s m args c cX2_clear 1 wsX2_clear RX2 D y yS) (hr : meth.sig.returnType = none ∧ meth.locks = false) {I : Nat → Int32} {R : Nat → Nat → Int32} {H : Heap} {locs : List Loc} {ls : Array Slot} (w : cH s D y yS q H locs I R) (hl : lv_has ls 1 [(0, .ref (q (110 + 100 * u)))]) (e0 : fX2_clear n u I R = some z) : W p l e rmX2_clear s m args below meth c H locs 0 0 (MQ below (cQv D y yS q (cS y yS q s.heap.size) z) args s 0 0 (cS y yS q s.heap.size)) (F0 m 0 ls []) := by
  have hx := X.1.1
  have hb := X.1.2.1
  unfold fX2_clear at e0
  refine lv_aload_n hx hb dX2_clear_0 rfl (lv_at hl 0 rfl) ?_
  refine c_get X w (cat_PR _ _ _ _ _ u hu) rfl in_X2_clear_X2 6 (by decide) (index := 30) rfl (by decide +kernel) (cf_PR_6 _ _ _) dX2_clear_1 ?_
  refine lv_iconst (v := 0) hx hb dX2_clear_4 (by decide) ?_
  refine c_fill X w (cat_a117 _ _ _ _ _ u hu) (cset_a117 _ _ _ _ _ u hu) (Nat.le_of_ble_eq_true rfl) gX2_clear_J7_fill_53178 (by decide +kernel) ⟨Nat.le_of_ble_eq_true rfl, Nat.le_of_ble_eq_true rfl⟩ hl.1 (rest := []) (Nat.le_of_ble_eq_true rfl) dX2_clear_5 (fun H locs w => ?_)
  refine lv_aload_n hx hb dX2_clear_8 rfl (lv_at hl 0 rfl) ?_
  refine lv_iconst (v := 0) hx hb dX2_clear_9 (by decide) ?_
  refine c_put X w (cat_PR _ _ _ _ _ u hu) rfl in_X2_clear_X2 tyX2 tyX2_ok nmX2 7 (by decide) (index := 39) (ty := .int) rfl (by decide +kernel) rfl (by decide +kernel) rfl rfl (Nat.le_of_ble_eq_true rfl) (cset_PR_7 _ _ _ _ _ u hu _) dX2_clear_10 (fun H locs w => ?_)
  refine lv_aload_n hx hb dX2_clear_13 rfl (lv_at hl 0 rfl) ?_
  refine lv_iconst (v := 0) hx hb dX2_clear_14 (by decide) ?_
  refine c_put X w (cat_PR _ _ _ _ _ u hu) rfl in_X2_clear_X2 tyX2 tyX2_ok nmX2 8 (by decide) (index := 43) (ty := .int) rfl (by decide +kernel) rfl (by decide +kernel) rfl rfl (Nat.le_of_ble_eq_true rfl) (cset_PR_8 _ _ _ _ _ u hu _) dX2_clear_15 (fun H locs w => ?_)
  have e0 := Option.some.inj e0
  subst e0
  exact c_vret X w hr dX2_clear_18
set_option maxRecDepth 20000 in
theorem fX2_clear_met (l : Launch) (D : va_G) (y : ClassId) (yS : ClassId × ClassId) (q : Nat → Nat) (sz n : Nat) (u : Nat) (hu : u < 2) (I : Nat → Int32) (R : Nat → Nat → Int32) (z : mSt) (e0 : fX2_clear n u I R = some z) : Met l yX2_clear wsX2_clear rmX2_clear (va_Pc [.ref (q (110 + 100 * u))] (cPre D y yS q sz I R)) (cQv D y yS q (cS y yS q sz) z) 0 0 (cS y yS q sz) := by
  refine Met.ofW (cc := cX2_clear) (maxL := 1) (ret := none) (by decide) rfl ?_
  intro p e s m args below meth c s₁ B hml hv
  obtain ⟨rfl, hsz, hP, hK, hN, hD⟩ := hv
  subst hsz
  have hl := lv_entry ([.ref (q (110 + 100 * u))]) (n := 1) (Nat.le_of_ble_eq_true rfl)
  rw [lg_entry_eq]
  exact fX2_clear_w (s := s) hu ⟨⟨B.exec, B.bytes, hml, findClass_of_methodNamed B.named, atoms_spec (ws := wsX2_clear) B.pre⟩, hK, hN⟩ ⟨B.returns, B.notSynchronized⟩ ⟨hP, cS_D hD, va_S.rf⟩ hl e0
theorem in_X2_take_X2 : ∀ w ∈ wsX20, w ∈ wsX2_take := fun _ h9 => List.mem_cons_of_mem _ (List.mem_append_right _ h9)
def rmX2_take : Room := { frames := 1, cells := 0, slots := 0, locals := 60 }
def fX2_take (n : Nat) (u : Nat) (r1 : Nat) (I : Nat → Int32) (R : Nat → Nat → Int32) : Option (mSt) :=
  if cpOk 5 5 0 0 5 = true then
  if cpOk 5 5 0 0 5 = true then
  if cpOk 5 5 0 0 5 = true then
  if cpOk 5 5 0 0 5 = true then
  if cpOk 5 5 0 0 5 = true then
  if cpOk 5 5 0 0 5 = true then
  if cpOk 4 4 0 0 4 = true then
  some ((upd (upd I (118 + 100 * u) (I (118 + 100 * r1))) (119 + 100 * u) ((upd I (118 + 100 * u) (I (118 + 100 * r1))) (119 + 100 * r1))), (cpA (cpA (cpA (cpA (cpA (cpA (cpA R (111 + 100 * r1) (111 + 100 * u) 0 0 5) (112 + 100 * r1) (112 + 100 * u) 0 0 5) (113 + 100 * r1) (113 + 100 * u) 0 0 5) (114 + 100 * r1) (114 + 100 * u) 0 0 5) (115 + 100 * r1) (115 + 100 * u) 0 0 5) (116 + 100 * r1) (116 + 100 * u) 0 0 5) (117 + 100 * r1) (117 + 100 * u) 0 0 4))
  else none
  else none
  else none
  else none
  else none
  else none
  else none
set_option maxRecDepth 20000 in
set_option maxHeartbeats 2000000 in
theorem fX2_take_w {p : Program} {l : Launch} {e : Env} {s : State} {m : MethodId} {args : Array Value} {below : List Frame} {meth : Method} {c : Code} {D : va_G} {y : ClassId} {yS : ClassId × ClassId} {q : Nat → Nat} {n : Nat} {z : mSt} {u : Nat} (hu : u < 2) {r1 : Nat} (hr1 : r1 < 2) (X : cX p s m args c cX2_take 2 wsX2_take RX2 D y yS) (hr : meth.sig.returnType = none ∧ meth.locks = false) {I : Nat → Int32} {R : Nat → Nat → Int32} {H : Heap} {locs : List Loc} {ls : Array Slot} (w : cH s D y yS q H locs I R) (hl : lv_has ls 2 [(0, .ref (q (110 + 100 * u))), (1, .ref (q (110 + 100 * r1)))]) (e0 : fX2_take n u r1 I R = some z) : W p l e rmX2_take s m args below meth c H locs 0 0 (MQ below (cQv D y yS q (cS y yS q s.heap.size) z) args s 0 0 (cS y yS q s.heap.size)) (F0 m 0 ls []) := by
  have hx := X.1.1
  have hb := X.1.2.1
  unfold fX2_take at e0
  refine lv_aload_n hx hb dX2_take_0 rfl (lv_at hl 1 rfl) ?_
  refine c_get X w (cat_PR _ _ _ _ _ r1 hr1) rfl in_X2_take_X2 0 (by decide) (index := 9) rfl (by decide +kernel) (cf_PR_0 _ _ _) dX2_take_1 ?_
  refine lv_iconst (v := 0) hx hb dX2_take_4 (by decide) ?_
  refine lv_aload_n hx hb dX2_take_5 rfl (lv_at hl 0 rfl) ?_
  refine c_get X w (cat_PR _ _ _ _ _ u hu) rfl in_X2_take_X2 0 (by decide) (index := 9) rfl (by decide +kernel) (cf_PR_0 _ _ _) dX2_take_6 ?_
  refine lv_iconst (v := 0) hx hb dX2_take_9 (by decide) ?_
  refine lv_iconst (v := 5) hx hb dX2_take_10 (by decide) ?_
  refine gd e0 (fun g1 e0 => ?_)
  refine c_copy X w (rest := []) hl.1 ⟨by decide +kernel, by decide +kernel, by decide +kernel, by decide +kernel⟩ (cat_a111 _ _ _ _ _ r1 hr1) (cat_a111 _ _ _ _ _ u hu) (cset_a111 _ _ _ _ _ u hu) g1 (Nat.le_of_ble_eq_true rfl) (Nat.le_of_ble_eq_true rfl) dX2_take_11 (fun H locs w => ?_)
  refine lv_aload_n hx hb dX2_take_14 rfl (lv_at hl 1 rfl) ?_
  refine c_get X w (cat_PR _ _ _ _ _ r1 hr1) rfl in_X2_take_X2 1 (by decide) (index := 15) rfl (by decide +kernel) (cf_PR_1 _ _ _) dX2_take_15 ?_
  refine lv_iconst (v := 0) hx hb dX2_take_18 (by decide) ?_
  refine lv_aload_n hx hb dX2_take_19 rfl (lv_at hl 0 rfl) ?_
  refine c_get X w (cat_PR _ _ _ _ _ u hu) rfl in_X2_take_X2 1 (by decide) (index := 15) rfl (by decide +kernel) (cf_PR_1 _ _ _) dX2_take_20 ?_
  refine lv_iconst (v := 0) hx hb dX2_take_23 (by decide) ?_
  refine lv_iconst (v := 5) hx hb dX2_take_24 (by decide) ?_
  refine gd e0 (fun g2 e0 => ?_)
  refine c_copy X w (rest := []) hl.1 ⟨by decide +kernel, by decide +kernel, by decide +kernel, by decide +kernel⟩ (cat_a112 _ _ _ _ _ r1 hr1) (cat_a112 _ _ _ _ _ u hu) (cset_a112 _ _ _ _ _ u hu) g2 (Nat.le_of_ble_eq_true rfl) (Nat.le_of_ble_eq_true rfl) dX2_take_25 (fun H locs w => ?_)
  refine lv_aload_n hx hb dX2_take_28 rfl (lv_at hl 1 rfl) ?_
  refine c_get X w (cat_PR _ _ _ _ _ r1 hr1) rfl in_X2_take_X2 2 (by decide) (index := 18) rfl (by decide +kernel) (cf_PR_2 _ _ _) dX2_take_29 ?_
  refine lv_iconst (v := 0) hx hb dX2_take_32 (by decide) ?_
  refine lv_aload_n hx hb dX2_take_33 rfl (lv_at hl 0 rfl) ?_
  refine c_get X w (cat_PR _ _ _ _ _ u hu) rfl in_X2_take_X2 2 (by decide) (index := 18) rfl (by decide +kernel) (cf_PR_2 _ _ _) dX2_take_34 ?_
  refine lv_iconst (v := 0) hx hb dX2_take_37 (by decide) ?_
  refine lv_iconst (v := 5) hx hb dX2_take_38 (by decide) ?_
  refine gd e0 (fun g3 e0 => ?_)
  refine c_copy X w (rest := []) hl.1 ⟨by decide +kernel, by decide +kernel, by decide +kernel, by decide +kernel⟩ (cat_a113 _ _ _ _ _ r1 hr1) (cat_a113 _ _ _ _ _ u hu) (cset_a113 _ _ _ _ _ u hu) g3 (Nat.le_of_ble_eq_true rfl) (Nat.le_of_ble_eq_true rfl) dX2_take_39 (fun H locs w => ?_)
  refine lv_aload_n hx hb dX2_take_42 rfl (lv_at hl 1 rfl) ?_
  refine c_get X w (cat_PR _ _ _ _ _ r1 hr1) rfl in_X2_take_X2 3 (by decide) (index := 21) rfl (by decide +kernel) (cf_PR_3 _ _ _) dX2_take_43 ?_
  refine lv_iconst (v := 0) hx hb dX2_take_46 (by decide) ?_
  refine lv_aload_n hx hb dX2_take_47 rfl (lv_at hl 0 rfl) ?_
  refine c_get X w (cat_PR _ _ _ _ _ u hu) rfl in_X2_take_X2 3 (by decide) (index := 21) rfl (by decide +kernel) (cf_PR_3 _ _ _) dX2_take_48 ?_
  refine lv_iconst (v := 0) hx hb dX2_take_51 (by decide) ?_
  refine lv_iconst (v := 5) hx hb dX2_take_52 (by decide) ?_
  refine gd e0 (fun g4 e0 => ?_)
  refine c_copy X w (rest := []) hl.1 ⟨by decide +kernel, by decide +kernel, by decide +kernel, by decide +kernel⟩ (cat_a114 _ _ _ _ _ r1 hr1) (cat_a114 _ _ _ _ _ u hu) (cset_a114 _ _ _ _ _ u hu) g4 (Nat.le_of_ble_eq_true rfl) (Nat.le_of_ble_eq_true rfl) dX2_take_53 (fun H locs w => ?_)
  refine lv_aload_n hx hb dX2_take_56 rfl (lv_at hl 1 rfl) ?_
  refine c_get X w (cat_PR _ _ _ _ _ r1 hr1) rfl in_X2_take_X2 4 (by decide) (index := 24) rfl (by decide +kernel) (cf_PR_4 _ _ _) dX2_take_57 ?_
  refine lv_iconst (v := 0) hx hb dX2_take_60 (by decide) ?_
  refine lv_aload_n hx hb dX2_take_61 rfl (lv_at hl 0 rfl) ?_
  refine c_get X w (cat_PR _ _ _ _ _ u hu) rfl in_X2_take_X2 4 (by decide) (index := 24) rfl (by decide +kernel) (cf_PR_4 _ _ _) dX2_take_62 ?_
  refine lv_iconst (v := 0) hx hb dX2_take_65 (by decide) ?_
  refine lv_iconst (v := 5) hx hb dX2_take_66 (by decide) ?_
  refine gd e0 (fun g5 e0 => ?_)
  refine c_copy X w (rest := []) hl.1 ⟨by decide +kernel, by decide +kernel, by decide +kernel, by decide +kernel⟩ (cat_a115 _ _ _ _ _ r1 hr1) (cat_a115 _ _ _ _ _ u hu) (cset_a115 _ _ _ _ _ u hu) g5 (Nat.le_of_ble_eq_true rfl) (Nat.le_of_ble_eq_true rfl) dX2_take_67 (fun H locs w => ?_)
  refine lv_aload_n hx hb dX2_take_70 rfl (lv_at hl 1 rfl) ?_
  refine c_get X w (cat_PR _ _ _ _ _ r1 hr1) rfl in_X2_take_X2 5 (by decide) (index := 27) rfl (by decide +kernel) (cf_PR_5 _ _ _) dX2_take_71 ?_
  refine lv_iconst (v := 0) hx hb dX2_take_74 (by decide) ?_
  refine lv_aload_n hx hb dX2_take_75 rfl (lv_at hl 0 rfl) ?_
  refine c_get X w (cat_PR _ _ _ _ _ u hu) rfl in_X2_take_X2 5 (by decide) (index := 27) rfl (by decide +kernel) (cf_PR_5 _ _ _) dX2_take_76 ?_
  refine lv_iconst (v := 0) hx hb dX2_take_79 (by decide) ?_
  refine lv_iconst (v := 5) hx hb dX2_take_80 (by decide) ?_
  refine gd e0 (fun g6 e0 => ?_)
  refine c_copy X w (rest := []) hl.1 ⟨by decide +kernel, by decide +kernel, by decide +kernel, by decide +kernel⟩ (cat_a116 _ _ _ _ _ r1 hr1) (cat_a116 _ _ _ _ _ u hu) (cset_a116 _ _ _ _ _ u hu) g6 (Nat.le_of_ble_eq_true rfl) (Nat.le_of_ble_eq_true rfl) dX2_take_81 (fun H locs w => ?_)
  refine lv_aload_n hx hb dX2_take_84 rfl (lv_at hl 1 rfl) ?_
  refine c_get X w (cat_PR _ _ _ _ _ r1 hr1) rfl in_X2_take_X2 6 (by decide) (index := 30) rfl (by decide +kernel) (cf_PR_6 _ _ _) dX2_take_85 ?_
  refine lv_iconst (v := 0) hx hb dX2_take_88 (by decide) ?_
  refine lv_aload_n hx hb dX2_take_89 rfl (lv_at hl 0 rfl) ?_
  refine c_get X w (cat_PR _ _ _ _ _ u hu) rfl in_X2_take_X2 6 (by decide) (index := 30) rfl (by decide +kernel) (cf_PR_6 _ _ _) dX2_take_90 ?_
  refine lv_iconst (v := 0) hx hb dX2_take_93 (by decide) ?_
  refine lv_iconst (v := 4) hx hb dX2_take_94 (by decide) ?_
  refine gd e0 (fun g7 e0 => ?_)
  refine c_copy X w (rest := []) hl.1 ⟨by decide +kernel, by decide +kernel, by decide +kernel, by decide +kernel⟩ (cat_a117 _ _ _ _ _ r1 hr1) (cat_a117 _ _ _ _ _ u hu) (cset_a117 _ _ _ _ _ u hu) g7 (Nat.le_of_ble_eq_true rfl) (Nat.le_of_ble_eq_true rfl) dX2_take_95 (fun H locs w => ?_)
  refine lv_aload_n hx hb dX2_take_98 rfl (lv_at hl 0 rfl) ?_
  refine lv_aload_n hx hb dX2_take_99 rfl (lv_at hl 1 rfl) ?_
  refine c_get X w (cat_PR _ _ _ _ _ r1 hr1) rfl in_X2_take_X2 7 (by decide) (index := 39) rfl (by decide +kernel) (cf_PR_7 _ _ _) dX2_take_100 ?_
  refine c_put X w (cat_PR _ _ _ _ _ u hu) rfl in_X2_take_X2 tyX2 tyX2_ok nmX2 7 (by decide) (index := 39) (ty := .int) rfl (by decide +kernel) rfl (by decide +kernel) rfl rfl (Nat.le_of_ble_eq_true rfl) (cset_PR_7 _ _ _ _ _ u hu _) dX2_take_103 (fun H locs w => ?_)
  refine lv_aload_n hx hb dX2_take_106 rfl (lv_at hl 0 rfl) ?_
  refine lv_aload_n hx hb dX2_take_107 rfl (lv_at hl 1 rfl) ?_
  refine c_get X w (cat_PR _ _ _ _ _ r1 hr1) rfl in_X2_take_X2 8 (by decide) (index := 43) rfl (by decide +kernel) (cf_PR_8 _ _ _) dX2_take_108 ?_
  refine c_put X w (cat_PR _ _ _ _ _ u hu) rfl in_X2_take_X2 tyX2 tyX2_ok nmX2 8 (by decide) (index := 43) (ty := .int) rfl (by decide +kernel) rfl (by decide +kernel) rfl rfl (Nat.le_of_ble_eq_true rfl) (cset_PR_8 _ _ _ _ _ u hu _) dX2_take_111 (fun H locs w => ?_)
  have e0 := Option.some.inj e0
  subst e0
  exact c_vret X w hr dX2_take_114
set_option maxRecDepth 20000 in
theorem fX2_take_met (l : Launch) (D : va_G) (y : ClassId) (yS : ClassId × ClassId) (q : Nat → Nat) (sz n : Nat) (u : Nat) (hu : u < 2) (r1 : Nat) (hr1 : r1 < 2) (I : Nat → Int32) (R : Nat → Nat → Int32) (z : mSt) (e0 : fX2_take n u r1 I R = some z) : Met l yX2_take wsX2_take rmX2_take (va_Pc [.ref (q (110 + 100 * u)), .ref (q (110 + 100 * r1))] (cPre D y yS q sz I R)) (cQv D y yS q (cS y yS q sz) z) 0 0 (cS y yS q sz) := by
  refine Met.ofW (cc := cX2_take) (maxL := 2) (ret := none) (by decide) rfl ?_
  intro p e s m args below meth c s₁ B hml hv
  obtain ⟨rfl, hsz, hP, hK, hN, hD⟩ := hv
  subst hsz
  have hl := lv_entry ([.ref (q (110 + 100 * u)), .ref (q (110 + 100 * r1))]) (n := 2) (Nat.le_of_ble_eq_true rfl)
  rw [lg_entry_eq]
  exact fX2_take_w (s := s) hu hr1 ⟨⟨B.exec, B.bytes, hml, findClass_of_methodNamed B.named, atoms_spec (ws := wsX2_take) B.pre⟩, hK, hN⟩ ⟨B.returns, B.notSynchronized⟩ ⟨hP, cS_D hD, va_S.rf⟩ hl e0
theorem in_X2_isThere_X2 : ∀ w ∈ wsX20, w ∈ wsX2_isThere := fun _ h9 => List.mem_cons_of_mem _ (List.mem_append_right _ h9)
def rmX2_isThere : Room := { frames := 0, cells := 0, slots := 0, locals := 0 }
def fX2_isThere (n : Nat) (u : Nat) (I : Nat → Int32) (R : Nat → Nat → Int32) : Option (Int32 × mSt) :=
  if (I (118 + 100 * u)) ≤ 0 then
    some (0, I, R)
  else
    some (1, I, R)
set_option maxRecDepth 20000 in
set_option maxHeartbeats 2000000 in
theorem fX2_isThere_w {p : Program} {l : Launch} {e : Env} {s : State} {m : MethodId} {args : Array Value} {below : List Frame} {meth : Method} {c : Code} {D : va_G} {y : ClassId} {yS : ClassId × ClassId} {q : Nat → Nat} {n : Nat} {z : Int32 × mSt} {u : Nat} (hu : u < 2) (X : cX p s m args c cX2_isThere 1 wsX2_isThere RX2 D y yS) (hr : meth.sig.returnType = some .boolean ∧ meth.locks = false) {I : Nat → Int32} {R : Nat → Nat → Int32} {H : Heap} {locs : List Loc} {ls : Array Slot} (w : cH s D y yS q H locs I R) (hl : lv_has ls 1 [(0, .ref (q (110 + 100 * u)))]) (e0 : fX2_isThere n u I R = some z) : W p l e rmX2_isThere s m args below meth c H locs 0 0 (MQ below (cQi D y yS q (cS y yS q s.heap.size) z) args s 0 0 (cS y yS q s.heap.size)) (F0 m 0 ls []) := by
  have hx := X.1.1
  have hb := X.1.2.1
  unfold fX2_isThere at e0
  refine lv_aload_n hx hb dX2_isThere_0 rfl (lv_at hl 0 rfl) ?_
  refine c_get X w (cat_PR _ _ _ _ _ u hu) rfl in_X2_isThere_X2 7 (by decide) (index := 39) rfl (by decide +kernel) (cf_PR_7 _ _ _) dX2_isThere_1 ?_
  refine lv_if_le (tgt := 11) hx hb dX2_isThere_4 (by decide) (fun c1 => ?_) (fun c1 => ?_)
  · have e0 := itp _ c1 e0
    refine lv_iconst (v := 0) hx hb dX2_isThere_11 (by decide) ?_
    have e0 := Option.some.inj e0
    subst e0
    exact c_zret X w hr rfl dX2_isThere_12
  · have e0 := itn _ c1 e0
    refine lv_iconst (v := 1) hx hb dX2_isThere_7 (by decide) ?_
    refine lv_goto (tgt := 12) hx hb dX2_isThere_8 (by decide) ?_
    have e0 := Option.some.inj e0
    subst e0
    exact c_zret X w hr rfl dX2_isThere_12
set_option maxRecDepth 20000 in
theorem fX2_isThere_met (l : Launch) (D : va_G) (y : ClassId) (yS : ClassId × ClassId) (q : Nat → Nat) (sz n : Nat) (u : Nat) (hu : u < 2) (I : Nat → Int32) (R : Nat → Nat → Int32) (z : Int32 × mSt) (e0 : fX2_isThere n u I R = some z) : Met l yX2_isThere wsX2_isThere rmX2_isThere (va_Pc [.ref (q (110 + 100 * u))] (cPre D y yS q sz I R)) (cQi D y yS q (cS y yS q sz) z) 0 0 (cS y yS q sz) := by
  refine Met.ofW (cc := cX2_isThere) (maxL := 1) (ret := some .boolean) (by decide) rfl ?_
  intro p e s m args below meth c s₁ B hml hv
  obtain ⟨rfl, hsz, hP, hK, hN, hD⟩ := hv
  subst hsz
  have hl := lv_entry ([.ref (q (110 + 100 * u))]) (n := 1) (Nat.le_of_ble_eq_true rfl)
  rw [lg_entry_eq]
  exact fX2_isThere_w (s := s) hu ⟨⟨B.exec, B.bytes, hml, findClass_of_methodNamed B.named, atoms_spec (ws := wsX2_isThere) B.pre⟩, hK, hN⟩ ⟨B.returns, B.notSynchronized⟩ ⟨hP, cS_D hD, va_S.rf⟩ hl e0
theorem in_X2_fits_X2 : ∀ w ∈ wsX20, w ∈ wsX2_fits := fun _ h9 => List.mem_cons_of_mem _ (List.mem_append_right _ h9)
def rmX2_fits : Room := { frames := 1, cells := 0, slots := 0, locals := 21 }
def fX2_fits_b19 (n : Nat) (u : Nat) (a1 : Int32) (t0 : Int32) (I : Nat → Int32) (R : Nat → Nat → Int32) : Option (Int32 × mSt) :=
  (fX2_hasOther n u a1 I R).bind fun z4 =>
  if t0 = z4.1 then
    some (1, z4.2.1, z4.2.2)
  else
    some (0, z4.2.1, z4.2.2)
set_option maxRecDepth 20000 in
set_option maxHeartbeats 2000000 in
theorem fX2_fits_b19_w {p : Program} {l : Launch} {e : Env} {s : State} {m : MethodId} {args : Array Value} {below : List Frame} {meth : Method} {c : Code} {D : va_G} {y : ClassId} {yS : ClassId × ClassId} {q : Nat → Nat} {n : Nat} {z : Int32 × mSt} {u : Nat} (hu : u < 2) (X : cX p s m args c cX2_fits 3 wsX2_fits RX2 D y yS) (hr : meth.sig.returnType = some .boolean ∧ meth.locks = false) {a1 : Int32} {t0 : Int32} {I : Nat → Int32} {R : Nat → Nat → Int32} {H : Heap} {locs : List Loc} {ls : Array Slot} (w : cH s D y yS q H locs I R) (hl : lv_has ls 3 [(0, .ref (q (110 + 100 * u))), (1, .int a1)]) (e0 : fX2_fits_b19 n u a1 t0 I R = some z) : W p l e rmX2_fits s m args below meth c H locs 0 0 (MQ below (cQi D y yS q (cS y yS q s.heap.size) z) args s 0 0 (cS y yS q s.heap.size)) (F0 m 19 ls [.int t0]) := by
  have hx := X.1.1
  have hb := X.1.2.1
  unfold fX2_fits_b19 at e0
  refine lv_aload_n hx hb dX2_fits_19 rfl (lv_at hl 0 rfl) ?_
  refine lv_iload_n hx hb dX2_fits_20 rfl (lv_at hl 1 rfl) ?_
  refine bd e0 (fun z4 e5 e0 => ?_)
  refine c_calli X w (c_rec X w (cat_PR _ _ _ _ _ u hu) rfl) (n := 1) (As := [.int a1]) (rest := [.int t0]) (fX2_hasOther_met l _ _ _ _ _ _ _ hu _ _ _ _ e5) gX2_fits_X2_hasOther rfl rfl rfl (by decide +kernel) ⟨Nat.le_of_ble_eq_true rfl, Nat.le_of_ble_eq_true rfl⟩ rfl hl.1 rfl (Nat.le_of_ble_eq_true rfl) dX2_fits_21 (fun H locs w => ?_)
  refine lv_icmp_ne (tgt := 31) hx hb dX2_fits_24 (by decide) (fun c6 => ?_) (fun c6 => ?_)
  · have e0 := itn _ c6 e0
    refine lv_iconst (v := 0) hx hb dX2_fits_31 (by decide) ?_
    have e0 := Option.some.inj e0
    subst e0
    exact c_zret X w hr rfl dX2_fits_32
  · have e0 := itp _ c6 e0
    refine lv_iconst (v := 1) hx hb dX2_fits_27 (by decide) ?_
    refine lv_goto (tgt := 32) hx hb dX2_fits_28 (by decide) ?_
    have e0 := Option.some.inj e0
    subst e0
    exact c_zret X w hr rfl dX2_fits_32
def fX2_fits (n : Nat) (u : Nat) (a1 : Int32) (a2 : Int32) (I : Nat → Int32) (R : Nat → Nat → Int32) : Option (Int32 × mSt) :=
  if a2 < 0 then
    some (0, I, R)
  else
    if 4 ≤ a2 then
      some (0, I, R)
    else
      if a2 < 2 then
        fX2_fits_b19 n u a1 0 I R
      else
        fX2_fits_b19 n u a1 1 I R
set_option maxRecDepth 20000 in
set_option maxHeartbeats 2000000 in
theorem fX2_fits_w {p : Program} {l : Launch} {e : Env} {s : State} {m : MethodId} {args : Array Value} {below : List Frame} {meth : Method} {c : Code} {D : va_G} {y : ClassId} {yS : ClassId × ClassId} {q : Nat → Nat} {n : Nat} {z : Int32 × mSt} {u : Nat} (hu : u < 2) (X : cX p s m args c cX2_fits 3 wsX2_fits RX2 D y yS) (hr : meth.sig.returnType = some .boolean ∧ meth.locks = false) {a1 : Int32} {a2 : Int32} {I : Nat → Int32} {R : Nat → Nat → Int32} {H : Heap} {locs : List Loc} {ls : Array Slot} (w : cH s D y yS q H locs I R) (hl : lv_has ls 3 [(0, .ref (q (110 + 100 * u))), (1, .int a1), (2, .int a2)]) (e0 : fX2_fits n u a1 a2 I R = some z) : W p l e rmX2_fits s m args below meth c H locs 0 0 (MQ below (cQi D y yS q (cS y yS q s.heap.size) z) args s 0 0 (cS y yS q s.heap.size)) (F0 m 0 ls []) := by
  have hx := X.1.1
  have hb := X.1.2.1
  unfold fX2_fits at e0
  refine lv_iload_n hx hb dX2_fits_0 rfl (lv_at hl 2 rfl) ?_
  refine lv_if_lt (tgt := 31) hx hb dX2_fits_1 (by decide) (fun c3 => ?_) (fun c3 => ?_)
  · have e0 := itp _ c3 e0
    refine lv_iconst (v := 0) hx hb dX2_fits_31 (by decide) ?_
    have e0 := Option.some.inj e0
    subst e0
    exact c_zret X w hr rfl dX2_fits_32
  · have e0 := itn _ c3 e0
    refine lv_iload_n hx hb dX2_fits_4 rfl (lv_at hl 2 rfl) ?_
    refine lv_iconst (v := 4) hx hb dX2_fits_5 (by decide) ?_
    refine lv_icmp_ge (tgt := 31) hx hb dX2_fits_6 (by decide) (fun c2 => ?_) (fun c2 => ?_)
    · have e0 := itp _ c2 e0
      refine lv_iconst (v := 0) hx hb dX2_fits_31 (by decide) ?_
      have e0 := Option.some.inj e0
      subst e0
      exact c_zret X w hr rfl dX2_fits_32
    · have e0 := itn _ c2 e0
      refine lv_iload_n hx hb dX2_fits_9 rfl (lv_at hl 2 rfl) ?_
      refine lv_iconst (v := 2) hx hb dX2_fits_10 (by decide) ?_
      refine lv_icmp_lt (tgt := 18) hx hb dX2_fits_11 (by decide) (fun c1 => ?_) (fun c1 => ?_)
      · have e0 := itp _ c1 e0
        refine lv_iconst (v := 0) hx hb dX2_fits_18 (by decide) ?_
        exact fX2_fits_b19_w (l := l) hu X hr w (lv_sub hl [0, 1] rfl) e0
      · have e0 := itn _ c1 e0
        refine lv_iconst (v := 1) hx hb dX2_fits_14 (by decide) ?_
        refine lv_goto (tgt := 19) hx hb dX2_fits_15 (by decide) ?_
        exact fX2_fits_b19_w (l := l) hu X hr w (lv_sub hl [0, 1] rfl) e0
set_option maxRecDepth 20000 in
theorem fX2_fits_met (l : Launch) (D : va_G) (y : ClassId) (yS : ClassId × ClassId) (q : Nat → Nat) (sz n : Nat) (u : Nat) (hu : u < 2) (a1 : Int32) (a2 : Int32) (I : Nat → Int32) (R : Nat → Nat → Int32) (z : Int32 × mSt) (e0 : fX2_fits n u a1 a2 I R = some z) : Met l yX2_fits wsX2_fits rmX2_fits (va_Pc [.ref (q (110 + 100 * u)), .int a1, .int a2] (cPre D y yS q sz I R)) (cQi D y yS q (cS y yS q sz) z) 0 0 (cS y yS q sz) := by
  refine Met.ofW (cc := cX2_fits) (maxL := 3) (ret := some .boolean) (by decide) rfl ?_
  intro p e s m args below meth c s₁ B hml hv
  obtain ⟨rfl, hsz, hP, hK, hN, hD⟩ := hv
  subst hsz
  have hl := lv_entry ([.ref (q (110 + 100 * u)), .int a1, .int a2]) (n := 3) (Nat.le_of_ble_eq_true rfl)
  rw [lg_entry_eq]
  exact fX2_fits_w (s := s) hu ⟨⟨B.exec, B.bytes, hml, findClass_of_methodNamed B.named, atoms_spec (ws := wsX2_fits) B.pre⟩, hK, hN⟩ ⟨B.returns, B.notSynchronized⟩ ⟨hP, cS_D hD, va_S.rf⟩ hl e0
theorem in_X2_rulesOfHead_X2 : ∀ w ∈ wsX20, w ∈ wsX2_rulesOfHead := fun _ h9 => List.mem_cons_of_mem _ (List.mem_append_right _ h9)
def rmX2_rulesOfHead : Room := { frames := 0, cells := 0, slots := 0, locals := 0 }
def fX2_rulesOfHead_b28 (n : Nat) (u : Nat) (k4 : Int32 → Int32 → Int32 → (Nat → Int32) → (Nat → Nat → Int32) → Option (Int32 × mSt)) (a1 : Int32) (a2 : Int32) (a3 : Int32) (I : Nat → Int32) (R : Nat → Nat → Int32) : Option (Int32 × mSt) :=
  k4 a1 a2 (a3 + 1) I R
set_option maxRecDepth 20000 in
set_option maxHeartbeats 2000000 in
theorem fX2_rulesOfHead_b28_w {p : Program} {l : Launch} {e : Env} {s : State} {m : MethodId} {args : Array Value} {below : List Frame} {meth : Method} {c : Code} {D : va_G} {y : ClassId} {yS : ClassId × ClassId} {q : Nat → Nat} {n : Nat} {z : Int32 × mSt} {u : Nat} (hu : u < 2) (X : cX p s m args c cX2_rulesOfHead 4 wsX2_rulesOfHead RX2 D y yS) (hr : meth.sig.returnType = some .int ∧ meth.locks = false) {k4 : Int32 → Int32 → Int32 → (Nat → Int32) → (Nat → Nat → Int32) → Option (Int32 × mSt)} (hk4 : ∀ (a1 : Int32) (a2 : Int32) (a3 : Int32) (I : Nat → Int32) (R : Nat → Nat → Int32) (H : Heap) (locs : List Loc) (ls : Array Slot), cH s D y yS q H locs I R → lv_has ls 4 [(0, .ref (q (110 + 100 * u))), (1, .int a1), (2, .int a2), (3, .int a3)] → k4 a1 a2 a3 I R = some z → W p l e rmX2_rulesOfHead s m args below meth c H locs 0 0 (MQ below (cQi D y yS q (cS y yS q s.heap.size) z) args s 0 0 (cS y yS q s.heap.size)) (F0 m 4 ls [])) {a1 : Int32} {a2 : Int32} {a3 : Int32} {I : Nat → Int32} {R : Nat → Nat → Int32} {H : Heap} {locs : List Loc} {ls : Array Slot} (w : cH s D y yS q H locs I R) (hl : lv_has ls 4 [(0, .ref (q (110 + 100 * u))), (1, .int a1), (2, .int a2), (3, .int a3)]) (e0 : fX2_rulesOfHead_b28 n u k4 a1 a2 a3 I R = some z) : W p l e rmX2_rulesOfHead s m args below meth c H locs 0 0 (MQ below (cQi D y yS q (cS y yS q s.heap.size) z) args s 0 0 (cS y yS q s.heap.size)) (F0 m 28 ls []) := by
  have hx := X.1.1
  have hb := X.1.2.1
  unfold fX2_rulesOfHead_b28 at e0
  refine lv_iinc (v := (a3 + 1)) (lv' := [(3, .int (a3 + 1)), (0, .ref (q (110 + 100 * u))), (1, .int a1), (2, .int a2)]) hx hb dX2_rulesOfHead_28 hl (k := 3) rfl rfl (by decide) rfl (fun ls hl => ?_)
  refine lv_goto (tgt := 4) hx hb dX2_rulesOfHead_31 (by decide) ?_
  exact hk4 _ _ _ _ _ _ _ _ w (lv_sub hl [1, 2, 3, 0] rfl) e0
def fX2_rulesOfHead_b4 (n : Nat) (u : Nat) : Nat → Int32 → Int32 → Int32 → (Nat → Int32) → (Nat → Nat → Int32) → Option (Int32 × mSt)
  | 0, _, _, _, _, _ => none
  | j + 1, a1, a2, a3, I, R =>
    if (I (119 + 100 * u)) ≤ a3 then
      some (a2, I, R)
    else
      if inb a3 5 = true then
      if (getA R (114 + 100 * u) a3) = a1 then
        fX2_rulesOfHead_b28 n u (fX2_rulesOfHead_b4 n u j) a1 (a2 ||| (1 <<< (a3 &&& 31))) a3 I R
      else
        fX2_rulesOfHead_b28 n u (fX2_rulesOfHead_b4 n u j) a1 a2 a3 I R
      else none
set_option maxRecDepth 20000 in
set_option maxHeartbeats 2000000 in
theorem fX2_rulesOfHead_b4_w {p : Program} {l : Launch} {e : Env} {s : State} {m : MethodId} {args : Array Value} {below : List Frame} {meth : Method} {c : Code} {D : va_G} {y : ClassId} {yS : ClassId × ClassId} {q : Nat → Nat} {n : Nat} {z : Int32 × mSt} {u : Nat} (hu : u < 2) (X : cX p s m args c cX2_rulesOfHead 4 wsX2_rulesOfHead RX2 D y yS) (hr : meth.sig.returnType = some .int ∧ meth.locks = false) : ∀ (j : Nat) (a1 : Int32) (a2 : Int32) (a3 : Int32) (I : Nat → Int32) (R : Nat → Nat → Int32) (H : Heap) (locs : List Loc) (ls : Array Slot), cH s D y yS q H locs I R → lv_has ls 4 [(0, .ref (q (110 + 100 * u))), (1, .int a1), (2, .int a2), (3, .int a3)] → fX2_rulesOfHead_b4 n u j a1 a2 a3 I R = some z → W p l e rmX2_rulesOfHead s m args below meth c H locs 0 0 (MQ below (cQi D y yS q (cS y yS q s.heap.size) z) args s 0 0 (cS y yS q s.heap.size)) (F0 m 4 ls []) := by
  have hx := X.1.1
  have hb := X.1.2.1
  intro j
  induction j with
  | zero =>
    intro a1 a2 a3 I R H locs ls w hl e0
    cases e0
  | succ j ih =>
    intro a1 a2 a3 I R H locs ls w hl e0
    rw [fX2_rulesOfHead_b4] at e0
    refine lv_iload_n hx hb dX2_rulesOfHead_4 rfl (lv_at hl 3 rfl) ?_
    refine lv_aload_n hx hb dX2_rulesOfHead_5 rfl (lv_at hl 0 rfl) ?_
    refine c_get X w (cat_PR _ _ _ _ _ u hu) rfl in_X2_rulesOfHead_X2 8 (by decide) (index := 43) rfl (by decide +kernel) (cf_PR_8 _ _ _) dX2_rulesOfHead_6 ?_
    refine lv_icmp_ge (tgt := 34) hx hb dX2_rulesOfHead_9 (by decide) (fun c3 => ?_) (fun c3 => ?_)
    · have e0 := itp _ c3 e0
      refine lv_iload_n hx hb dX2_rulesOfHead_34 rfl (lv_at hl 2 rfl) ?_
      have e0 := Option.some.inj e0
      subst e0
      exact c_iret X w hr dX2_rulesOfHead_35
    · have e0 := itn _ c3 e0
      refine lv_aload_n hx hb dX2_rulesOfHead_12 rfl (lv_at hl 0 rfl) ?_
      refine c_get X w (cat_PR _ _ _ _ _ u hu) rfl in_X2_rulesOfHead_X2 3 (by decide) (index := 21) rfl (by decide +kernel) (cf_PR_3 _ _ _) dX2_rulesOfHead_13 ?_
      refine lv_iload_n hx hb dX2_rulesOfHead_16 rfl (lv_at hl 3 rfl) ?_
      refine gd e0 (fun g1 e0 => ?_)
      refine c_ald X w (cat_a114 _ _ _ _ _ u hu) g1 dX2_rulesOfHead_17 ?_
      refine lv_iload_n hx hb dX2_rulesOfHead_18 rfl (lv_at hl 1 rfl) ?_
      refine lv_icmp_ne (tgt := 28) hx hb dX2_rulesOfHead_19 (by decide) (fun c2 => ?_) (fun c2 => ?_)
      · have e0 := itn _ c2 e0
        exact fX2_rulesOfHead_b28_w (l := l) hu X hr ih w (lv_sub hl [0, 1, 2, 3] rfl) e0
      · have e0 := itp _ c2 e0
        refine lv_iload_n hx hb dX2_rulesOfHead_22 rfl (lv_at hl 2 rfl) ?_
        refine lv_iconst (v := 1) hx hb dX2_rulesOfHead_23 (by decide) ?_
        refine lv_iload_n hx hb dX2_rulesOfHead_24 rfl (lv_at hl 3 rfl) ?_
        refine lv_ishl hx hb dX2_rulesOfHead_25 ?_
        refine lv_ior hx hb dX2_rulesOfHead_26 ?_
        refine lv_istore_n (lv' := [(2, .int (a2 ||| (1 <<< (a3 &&& 31)))), (0, .ref (q (110 + 100 * u))), (1, .int a1), (3, .int a3)]) hx hb dX2_rulesOfHead_27 rfl hl (by decide) rfl (fun ls hl => ?_)
        exact fX2_rulesOfHead_b28_w (l := l) hu X hr ih w (lv_sub hl [1, 2, 0, 3] rfl) e0
def fX2_rulesOfHead (n : Nat) (u : Nat) (a1 : Int32) (I : Nat → Int32) (R : Nat → Nat → Int32) : Option (Int32 × mSt) :=
  fX2_rulesOfHead_b4 n u n a1 0 0 I R
set_option maxRecDepth 20000 in
set_option maxHeartbeats 2000000 in
theorem fX2_rulesOfHead_w {p : Program} {l : Launch} {e : Env} {s : State} {m : MethodId} {args : Array Value} {below : List Frame} {meth : Method} {c : Code} {D : va_G} {y : ClassId} {yS : ClassId × ClassId} {q : Nat → Nat} {n : Nat} {z : Int32 × mSt} {u : Nat} (hu : u < 2) (X : cX p s m args c cX2_rulesOfHead 4 wsX2_rulesOfHead RX2 D y yS) (hr : meth.sig.returnType = some .int ∧ meth.locks = false) {a1 : Int32} {I : Nat → Int32} {R : Nat → Nat → Int32} {H : Heap} {locs : List Loc} {ls : Array Slot} (w : cH s D y yS q H locs I R) (hl : lv_has ls 4 [(0, .ref (q (110 + 100 * u))), (1, .int a1)]) (e0 : fX2_rulesOfHead n u a1 I R = some z) : W p l e rmX2_rulesOfHead s m args below meth c H locs 0 0 (MQ below (cQi D y yS q (cS y yS q s.heap.size) z) args s 0 0 (cS y yS q s.heap.size)) (F0 m 0 ls []) := by
  have hx := X.1.1
  have hb := X.1.2.1
  unfold fX2_rulesOfHead at e0
  refine lv_iconst (v := 0) hx hb dX2_rulesOfHead_0 (by decide) ?_
  refine lv_istore_n (lv' := [(2, .int 0), (0, .ref (q (110 + 100 * u))), (1, .int a1)]) hx hb dX2_rulesOfHead_1 rfl hl (by decide) rfl (fun ls hl => ?_)
  refine lv_iconst (v := 0) hx hb dX2_rulesOfHead_2 (by decide) ?_
  refine lv_istore_n (lv' := [(3, .int 0), (2, .int 0), (0, .ref (q (110 + 100 * u))), (1, .int a1)]) hx hb dX2_rulesOfHead_3 rfl hl (by decide) rfl (fun ls hl => ?_)
  exact fX2_rulesOfHead_b4_w (l := l) hu X hr n _ _ _ _ _ _ _ _ w (lv_sub hl [2, 3, 1, 0] rfl) e0
set_option maxRecDepth 20000 in
theorem fX2_rulesOfHead_met (l : Launch) (D : va_G) (y : ClassId) (yS : ClassId × ClassId) (q : Nat → Nat) (sz n : Nat) (u : Nat) (hu : u < 2) (a1 : Int32) (I : Nat → Int32) (R : Nat → Nat → Int32) (z : Int32 × mSt) (e0 : fX2_rulesOfHead n u a1 I R = some z) : Met l yX2_rulesOfHead wsX2_rulesOfHead rmX2_rulesOfHead (va_Pc [.ref (q (110 + 100 * u)), .int a1] (cPre D y yS q sz I R)) (cQi D y yS q (cS y yS q sz) z) 0 0 (cS y yS q sz) := by
  refine Met.ofW (cc := cX2_rulesOfHead) (maxL := 4) (ret := some .int) (by decide) rfl ?_
  intro p e s m args below meth c s₁ B hml hv
  obtain ⟨rfl, hsz, hP, hK, hN, hD⟩ := hv
  subst hsz
  have hl := lv_entry ([.ref (q (110 + 100 * u)), .int a1]) (n := 4) (Nat.le_of_ble_eq_true rfl)
  rw [lg_entry_eq]
  exact fX2_rulesOfHead_w (s := s) hu ⟨⟨B.exec, B.bytes, hml, findClass_of_methodNamed B.named, atoms_spec (ws := wsX2_rulesOfHead) B.pre⟩, hK, hN⟩ ⟨B.returns, B.notSynchronized⟩ ⟨hP, cS_D hD, va_S.rf⟩ hl e0
def rmJ6_bitCount_0f7a4 : Room := { frames := 0, cells := 0, slots := 0, locals := 0 }
def fJ6_bitCount_0f7a4 (n : Nat) (a0 : Int32) : Option (Int32) :=
  some ((((((((a0 - ((ushr a0 1) &&& 1431655765)) &&& 858993459) + ((ushr (a0 - ((ushr a0 1) &&& 1431655765)) 2) &&& 858993459)) + (ushr (((a0 - ((ushr a0 1) &&& 1431655765)) &&& 858993459) + ((ushr (a0 - ((ushr a0 1) &&& 1431655765)) 2) &&& 858993459)) 4)) &&& 252645135) + (ushr (((((a0 - ((ushr a0 1) &&& 1431655765)) &&& 858993459) + ((ushr (a0 - ((ushr a0 1) &&& 1431655765)) 2) &&& 858993459)) + (ushr (((a0 - ((ushr a0 1) &&& 1431655765)) &&& 858993459) + ((ushr (a0 - ((ushr a0 1) &&& 1431655765)) 2) &&& 858993459)) 4)) &&& 252645135) 8)) + (ushr ((((((a0 - ((ushr a0 1) &&& 1431655765)) &&& 858993459) + ((ushr (a0 - ((ushr a0 1) &&& 1431655765)) 2) &&& 858993459)) + (ushr (((a0 - ((ushr a0 1) &&& 1431655765)) &&& 858993459) + ((ushr (a0 - ((ushr a0 1) &&& 1431655765)) 2) &&& 858993459)) 4)) &&& 252645135) + (ushr (((((a0 - ((ushr a0 1) &&& 1431655765)) &&& 858993459) + ((ushr (a0 - ((ushr a0 1) &&& 1431655765)) 2) &&& 858993459)) + (ushr (((a0 - ((ushr a0 1) &&& 1431655765)) &&& 858993459) + ((ushr (a0 - ((ushr a0 1) &&& 1431655765)) 2) &&& 858993459)) 4)) &&& 252645135) 8)) 16)) &&& 63)
set_option maxRecDepth 20000 in
set_option maxHeartbeats 2000000 in
theorem fJ6_bitCount_0f7a4_w {p : Program} {l : Launch} {e : Env} {s : State} {m : MethodId} {args : Array Value} {below : List Frame} {meth : Method} {c : Code} {n : Nat} {z : Int32} (X : tX p s m args c cJ6_bitCount_0f7a4 1 wsJ6_bitCount_0f7a4 RJ6) (hr : meth.sig.returnType = some .int ∧ meth.locks = false) {a0 : Int32} {H : Heap} {locs : List Loc} {ls : Array Slot} (w : sH s H locs) (hl : lv_has ls 1 [(0, .int a0)]) (e0 : fJ6_bitCount_0f7a4 n a0 = some z) : W p l e rmJ6_bitCount_0f7a4 s m args below meth c H locs 0 0 (MQ below (sQi z) args s 0 0 (fun _ => False)) (F0 m 0 ls []) := by
  have hx := X.1.1
  have hb := X.1.2.1
  unfold fJ6_bitCount_0f7a4 at e0
  refine lv_iload_n hx hb dJ6_bitCount_0f7a4_0 rfl (lv_at hl 0 rfl) ?_
  refine lv_iload_n hx hb dJ6_bitCount_0f7a4_1 rfl (lv_at hl 0 rfl) ?_
  refine lv_iconst (v := 1) hx hb dJ6_bitCount_0f7a4_2 (by decide) ?_
  refine lv_iushr (v := (ushr a0 1)) hx hb dJ6_bitCount_0f7a4_3 rfl ?_
  refine lv_ldcw (own := RJ6) (v := 1431655765) hx hb X.1.2.2.2.1 (X.1.2.2.2.2 _ (by decide +kernel)) dJ6_bitCount_0f7a4_4 ?_
  refine lv_iand hx hb dJ6_bitCount_0f7a4_7 ?_
  refine lv_isub hx hb dJ6_bitCount_0f7a4_8 ?_
  refine lv_istore_n (lv' := [(0, .int (a0 - ((ushr a0 1) &&& 1431655765)))]) hx hb dJ6_bitCount_0f7a4_9 rfl hl (by decide) rfl (fun ls hl => ?_)
  refine lv_iload_n hx hb dJ6_bitCount_0f7a4_10 rfl (lv_at hl 0 rfl) ?_
  refine lv_ldcw (own := RJ6) (v := 858993459) hx hb X.1.2.2.2.1 (X.1.2.2.2.2 _ (by decide +kernel)) dJ6_bitCount_0f7a4_11 ?_
  refine lv_iand hx hb dJ6_bitCount_0f7a4_14 ?_
  refine lv_iload_n hx hb dJ6_bitCount_0f7a4_15 rfl (lv_at hl 0 rfl) ?_
  refine lv_iconst (v := 2) hx hb dJ6_bitCount_0f7a4_16 (by decide) ?_
  refine lv_iushr (v := (ushr (a0 - ((ushr a0 1) &&& 1431655765)) 2)) hx hb dJ6_bitCount_0f7a4_17 rfl ?_
  refine lv_ldcw (own := RJ6) (v := 858993459) hx hb X.1.2.2.2.1 (X.1.2.2.2.2 _ (by decide +kernel)) dJ6_bitCount_0f7a4_18 ?_
  refine lv_iand hx hb dJ6_bitCount_0f7a4_21 ?_
  refine lv_iadd hx hb dJ6_bitCount_0f7a4_22 ?_
  refine lv_istore_n (lv' := [(0, .int (((a0 - ((ushr a0 1) &&& 1431655765)) &&& 858993459) + ((ushr (a0 - ((ushr a0 1) &&& 1431655765)) 2) &&& 858993459)))]) hx hb dJ6_bitCount_0f7a4_23 rfl hl (by decide) rfl (fun ls hl => ?_)
  refine lv_iload_n hx hb dJ6_bitCount_0f7a4_24 rfl (lv_at hl 0 rfl) ?_
  refine lv_iload_n hx hb dJ6_bitCount_0f7a4_25 rfl (lv_at hl 0 rfl) ?_
  refine lv_iconst (v := 4) hx hb dJ6_bitCount_0f7a4_26 (by decide) ?_
  refine lv_iushr (v := (ushr (((a0 - ((ushr a0 1) &&& 1431655765)) &&& 858993459) + ((ushr (a0 - ((ushr a0 1) &&& 1431655765)) 2) &&& 858993459)) 4)) hx hb dJ6_bitCount_0f7a4_27 rfl ?_
  refine lv_iadd hx hb dJ6_bitCount_0f7a4_28 ?_
  refine lv_ldcw (own := RJ6) (v := 252645135) hx hb X.1.2.2.2.1 (X.1.2.2.2.2 _ (by decide +kernel)) dJ6_bitCount_0f7a4_29 ?_
  refine lv_iand hx hb dJ6_bitCount_0f7a4_32 ?_
  refine lv_istore_n (lv' := [(0, .int (((((a0 - ((ushr a0 1) &&& 1431655765)) &&& 858993459) + ((ushr (a0 - ((ushr a0 1) &&& 1431655765)) 2) &&& 858993459)) + (ushr (((a0 - ((ushr a0 1) &&& 1431655765)) &&& 858993459) + ((ushr (a0 - ((ushr a0 1) &&& 1431655765)) 2) &&& 858993459)) 4)) &&& 252645135))]) hx hb dJ6_bitCount_0f7a4_33 rfl hl (by decide) rfl (fun ls hl => ?_)
  refine lv_iload_n hx hb dJ6_bitCount_0f7a4_34 rfl (lv_at hl 0 rfl) ?_
  refine lv_iload_n hx hb dJ6_bitCount_0f7a4_35 rfl (lv_at hl 0 rfl) ?_
  refine lv_bipush (v := 8) hx hb dJ6_bitCount_0f7a4_36 (by decide) ?_
  refine lv_iushr (v := (ushr (((((a0 - ((ushr a0 1) &&& 1431655765)) &&& 858993459) + ((ushr (a0 - ((ushr a0 1) &&& 1431655765)) 2) &&& 858993459)) + (ushr (((a0 - ((ushr a0 1) &&& 1431655765)) &&& 858993459) + ((ushr (a0 - ((ushr a0 1) &&& 1431655765)) 2) &&& 858993459)) 4)) &&& 252645135) 8)) hx hb dJ6_bitCount_0f7a4_38 rfl ?_
  refine lv_iadd hx hb dJ6_bitCount_0f7a4_39 ?_
  refine lv_istore_n (lv' := [(0, .int ((((((a0 - ((ushr a0 1) &&& 1431655765)) &&& 858993459) + ((ushr (a0 - ((ushr a0 1) &&& 1431655765)) 2) &&& 858993459)) + (ushr (((a0 - ((ushr a0 1) &&& 1431655765)) &&& 858993459) + ((ushr (a0 - ((ushr a0 1) &&& 1431655765)) 2) &&& 858993459)) 4)) &&& 252645135) + (ushr (((((a0 - ((ushr a0 1) &&& 1431655765)) &&& 858993459) + ((ushr (a0 - ((ushr a0 1) &&& 1431655765)) 2) &&& 858993459)) + (ushr (((a0 - ((ushr a0 1) &&& 1431655765)) &&& 858993459) + ((ushr (a0 - ((ushr a0 1) &&& 1431655765)) 2) &&& 858993459)) 4)) &&& 252645135) 8)))]) hx hb dJ6_bitCount_0f7a4_40 rfl hl (by decide) rfl (fun ls hl => ?_)
  refine lv_iload_n hx hb dJ6_bitCount_0f7a4_41 rfl (lv_at hl 0 rfl) ?_
  refine lv_iload_n hx hb dJ6_bitCount_0f7a4_42 rfl (lv_at hl 0 rfl) ?_
  refine lv_bipush (v := 16) hx hb dJ6_bitCount_0f7a4_43 (by decide) ?_
  refine lv_iushr (v := (ushr ((((((a0 - ((ushr a0 1) &&& 1431655765)) &&& 858993459) + ((ushr (a0 - ((ushr a0 1) &&& 1431655765)) 2) &&& 858993459)) + (ushr (((a0 - ((ushr a0 1) &&& 1431655765)) &&& 858993459) + ((ushr (a0 - ((ushr a0 1) &&& 1431655765)) 2) &&& 858993459)) 4)) &&& 252645135) + (ushr (((((a0 - ((ushr a0 1) &&& 1431655765)) &&& 858993459) + ((ushr (a0 - ((ushr a0 1) &&& 1431655765)) 2) &&& 858993459)) + (ushr (((a0 - ((ushr a0 1) &&& 1431655765)) &&& 858993459) + ((ushr (a0 - ((ushr a0 1) &&& 1431655765)) 2) &&& 858993459)) 4)) &&& 252645135) 8)) 16)) hx hb dJ6_bitCount_0f7a4_45 rfl ?_
  refine lv_iadd hx hb dJ6_bitCount_0f7a4_46 ?_
  refine lv_istore_n (lv' := [(0, .int (((((((a0 - ((ushr a0 1) &&& 1431655765)) &&& 858993459) + ((ushr (a0 - ((ushr a0 1) &&& 1431655765)) 2) &&& 858993459)) + (ushr (((a0 - ((ushr a0 1) &&& 1431655765)) &&& 858993459) + ((ushr (a0 - ((ushr a0 1) &&& 1431655765)) 2) &&& 858993459)) 4)) &&& 252645135) + (ushr (((((a0 - ((ushr a0 1) &&& 1431655765)) &&& 858993459) + ((ushr (a0 - ((ushr a0 1) &&& 1431655765)) 2) &&& 858993459)) + (ushr (((a0 - ((ushr a0 1) &&& 1431655765)) &&& 858993459) + ((ushr (a0 - ((ushr a0 1) &&& 1431655765)) 2) &&& 858993459)) 4)) &&& 252645135) 8)) + (ushr ((((((a0 - ((ushr a0 1) &&& 1431655765)) &&& 858993459) + ((ushr (a0 - ((ushr a0 1) &&& 1431655765)) 2) &&& 858993459)) + (ushr (((a0 - ((ushr a0 1) &&& 1431655765)) &&& 858993459) + ((ushr (a0 - ((ushr a0 1) &&& 1431655765)) 2) &&& 858993459)) 4)) &&& 252645135) + (ushr (((((a0 - ((ushr a0 1) &&& 1431655765)) &&& 858993459) + ((ushr (a0 - ((ushr a0 1) &&& 1431655765)) 2) &&& 858993459)) + (ushr (((a0 - ((ushr a0 1) &&& 1431655765)) &&& 858993459) + ((ushr (a0 - ((ushr a0 1) &&& 1431655765)) 2) &&& 858993459)) 4)) &&& 252645135) 8)) 16)))]) hx hb dJ6_bitCount_0f7a4_47 rfl hl (by decide) rfl (fun ls hl => ?_)
  refine lv_iload_n hx hb dJ6_bitCount_0f7a4_48 rfl (lv_at hl 0 rfl) ?_
  refine lv_bipush (v := 63) hx hb dJ6_bitCount_0f7a4_49 (by decide) ?_
  refine lv_iand hx hb dJ6_bitCount_0f7a4_51 ?_
  have e0 := Option.some.inj e0
  subst e0
  exact t_iret X w hr dJ6_bitCount_0f7a4_52
set_option maxRecDepth 20000 in
theorem fJ6_bitCount_0f7a4_met (l : Launch) (n : Nat) (a0 : Int32) (z : Int32) (e0 : fJ6_bitCount_0f7a4 n a0 = some z) : Met l yJ6_bitCount_0f7a4 wsJ6_bitCount_0f7a4 rmJ6_bitCount_0f7a4 (va_Pc [.int a0] (fun U => cN U)) (sQi z) 0 0 (fun _ => False) := by
  refine Met.ofW (cc := cJ6_bitCount_0f7a4) (maxL := 1) (ret := some .int) (by decide) rfl ?_
  intro p e s m args below meth c s₁ B hml hv
  obtain ⟨rfl, hN⟩ := hv
  have hl := lv_entry ([.int a0]) (n := 1) (Nat.le_of_ble_eq_true rfl)
  rw [lg_entry_eq]
  exact fJ6_bitCount_0f7a4_w (s := s) ⟨⟨B.exec, B.bytes, hml, findClass_of_methodNamed B.named, atoms_spec (ws := wsJ6_bitCount_0f7a4) B.pre⟩, hN⟩ ⟨B.returns, B.notSynchronized⟩ va_S.rf hl e0
theorem in_X2_toldCount_X2 : ∀ w ∈ wsX20, w ∈ wsX2_toldCount := fun _ h9 => List.mem_cons_of_mem _ (List.mem_append_right _ h9)
def rmX2_toldCount : Room := { frames := 1, cells := 0, slots := 0, locals := 20 }
def fX2_toldCount_b4 (n : Nat) (u : Nat) : Nat → Int32 → Int32 → (Nat → Int32) → (Nat → Nat → Int32) → Option (Int32 × mSt)
  | 0, _, _, _, _ => none
  | j + 1, a1, a2, I, R =>
    if (I (118 + 100 * u)) ≤ a2 then
      some (a1, I, R)
    else
      if inb a2 4 = true then
      (fJ6_bitCount_0f7a4 n (getA R (117 + 100 * u) a2)).bind fun z2 =>
      fX2_toldCount_b4 n u j (a1 + z2) (a2 + 1) I R
      else none
set_option maxRecDepth 20000 in
set_option maxHeartbeats 2000000 in
theorem fX2_toldCount_b4_w {p : Program} {l : Launch} {e : Env} {s : State} {m : MethodId} {args : Array Value} {below : List Frame} {meth : Method} {c : Code} {D : va_G} {y : ClassId} {yS : ClassId × ClassId} {q : Nat → Nat} {n : Nat} {z : Int32 × mSt} {u : Nat} (hu : u < 2) (X : cX p s m args c cX2_toldCount 3 wsX2_toldCount RX2 D y yS) (hr : meth.sig.returnType = some .int ∧ meth.locks = false) : ∀ (j : Nat) (a1 : Int32) (a2 : Int32) (I : Nat → Int32) (R : Nat → Nat → Int32) (H : Heap) (locs : List Loc) (ls : Array Slot), cH s D y yS q H locs I R → lv_has ls 3 [(0, .ref (q (110 + 100 * u))), (1, .int a1), (2, .int a2)] → fX2_toldCount_b4 n u j a1 a2 I R = some z → W p l e rmX2_toldCount s m args below meth c H locs 0 0 (MQ below (cQi D y yS q (cS y yS q s.heap.size) z) args s 0 0 (cS y yS q s.heap.size)) (F0 m 4 ls []) := by
  have hx := X.1.1
  have hb := X.1.2.1
  intro j
  induction j with
  | zero =>
    intro a1 a2 I R H locs ls w hl e0
    cases e0
  | succ j ih =>
    intro a1 a2 I R H locs ls w hl e0
    rw [fX2_toldCount_b4] at e0
    refine lv_iload_n hx hb dX2_toldCount_4 rfl (lv_at hl 2 rfl) ?_
    refine lv_aload_n hx hb dX2_toldCount_5 rfl (lv_at hl 0 rfl) ?_
    refine c_get X w (cat_PR _ _ _ _ _ u hu) rfl in_X2_toldCount_X2 7 (by decide) (index := 39) rfl (by decide +kernel) (cf_PR_7 _ _ _) dX2_toldCount_6 ?_
    refine lv_icmp_ge (tgt := 30) hx hb dX2_toldCount_9 (by decide) (fun c4 => ?_) (fun c4 => ?_)
    · have e0 := itp _ c4 e0
      refine lv_iload_n hx hb dX2_toldCount_30 rfl (lv_at hl 1 rfl) ?_
      have e0 := Option.some.inj e0
      subst e0
      exact c_iret X w hr dX2_toldCount_31
    · have e0 := itn _ c4 e0
      refine lv_iload_n hx hb dX2_toldCount_12 rfl (lv_at hl 1 rfl) ?_
      refine lv_aload_n hx hb dX2_toldCount_13 rfl (lv_at hl 0 rfl) ?_
      refine c_get X w (cat_PR _ _ _ _ _ u hu) rfl in_X2_toldCount_X2 6 (by decide) (index := 30) rfl (by decide +kernel) (cf_PR_6 _ _ _) dX2_toldCount_14 ?_
      refine lv_iload_n hx hb dX2_toldCount_17 rfl (lv_at hl 2 rfl) ?_
      refine gd e0 (fun g1 e0 => ?_)
      refine c_ald X w (cat_a117 _ _ _ _ _ u hu) g1 dX2_toldCount_18 ?_
      refine bd e0 (fun z2 e3 e0 => ?_)
      refine c_callsi X w (n := 1) (As := [.int (getA R (117 + 100 * u) a2)]) (rest := [.int a1]) (fJ6_bitCount_0f7a4_met l _ _ _ e3) gX2_toldCount_J6_bitCount_0f7a4 rfl rfl rfl (by decide +kernel) ⟨Nat.le_of_ble_eq_true rfl, Nat.le_of_ble_eq_true rfl⟩ rfl hl.1 rfl (Nat.le_of_ble_eq_true rfl) dX2_toldCount_19 (fun H locs w => ?_)
      refine lv_iadd hx hb dX2_toldCount_22 ?_
      refine lv_istore_n (lv' := [(1, .int (a1 + z2)), (0, .ref (q (110 + 100 * u))), (2, .int a2)]) hx hb dX2_toldCount_23 rfl hl (by decide) rfl (fun ls hl => ?_)
      refine lv_iinc (v := (a2 + 1)) (lv' := [(2, .int (a2 + 1)), (1, .int (a1 + z2)), (0, .ref (q (110 + 100 * u)))]) hx hb dX2_toldCount_24 hl (k := 2) rfl rfl (by decide) rfl (fun ls hl => ?_)
      refine lv_goto (tgt := 4) hx hb dX2_toldCount_27 (by decide) ?_
      exact ih _ _ _ _ _ _ _ w (lv_sub hl [2, 1, 0] rfl) e0
def fX2_toldCount (n : Nat) (u : Nat) (I : Nat → Int32) (R : Nat → Nat → Int32) : Option (Int32 × mSt) :=
  fX2_toldCount_b4 n u n 0 0 I R
set_option maxRecDepth 20000 in
set_option maxHeartbeats 2000000 in
theorem fX2_toldCount_w {p : Program} {l : Launch} {e : Env} {s : State} {m : MethodId} {args : Array Value} {below : List Frame} {meth : Method} {c : Code} {D : va_G} {y : ClassId} {yS : ClassId × ClassId} {q : Nat → Nat} {n : Nat} {z : Int32 × mSt} {u : Nat} (hu : u < 2) (X : cX p s m args c cX2_toldCount 3 wsX2_toldCount RX2 D y yS) (hr : meth.sig.returnType = some .int ∧ meth.locks = false) {I : Nat → Int32} {R : Nat → Nat → Int32} {H : Heap} {locs : List Loc} {ls : Array Slot} (w : cH s D y yS q H locs I R) (hl : lv_has ls 3 [(0, .ref (q (110 + 100 * u)))]) (e0 : fX2_toldCount n u I R = some z) : W p l e rmX2_toldCount s m args below meth c H locs 0 0 (MQ below (cQi D y yS q (cS y yS q s.heap.size) z) args s 0 0 (cS y yS q s.heap.size)) (F0 m 0 ls []) := by
  have hx := X.1.1
  have hb := X.1.2.1
  unfold fX2_toldCount at e0
  refine lv_iconst (v := 0) hx hb dX2_toldCount_0 (by decide) ?_
  refine lv_istore_n (lv' := [(1, .int 0), (0, .ref (q (110 + 100 * u)))]) hx hb dX2_toldCount_1 rfl hl (by decide) rfl (fun ls hl => ?_)
  refine lv_iconst (v := 0) hx hb dX2_toldCount_2 (by decide) ?_
  refine lv_istore_n (lv' := [(2, .int 0), (1, .int 0), (0, .ref (q (110 + 100 * u)))]) hx hb dX2_toldCount_3 rfl hl (by decide) rfl (fun ls hl => ?_)
  exact fX2_toldCount_b4_w (l := l) hu X hr n _ _ _ _ _ _ _ w (lv_sub hl [2, 1, 0] rfl) e0
set_option maxRecDepth 20000 in
theorem fX2_toldCount_met (l : Launch) (D : va_G) (y : ClassId) (yS : ClassId × ClassId) (q : Nat → Nat) (sz n : Nat) (u : Nat) (hu : u < 2) (I : Nat → Int32) (R : Nat → Nat → Int32) (z : Int32 × mSt) (e0 : fX2_toldCount n u I R = some z) : Met l yX2_toldCount wsX2_toldCount rmX2_toldCount (va_Pc [.ref (q (110 + 100 * u))] (cPre D y yS q sz I R)) (cQi D y yS q (cS y yS q sz) z) 0 0 (cS y yS q sz) := by
  refine Met.ofW (cc := cX2_toldCount) (maxL := 3) (ret := some .int) (by decide) rfl ?_
  intro p e s m args below meth c s₁ B hml hv
  obtain ⟨rfl, hsz, hP, hK, hN, hD⟩ := hv
  subst hsz
  have hl := lv_entry ([.ref (q (110 + 100 * u))]) (n := 3) (Nat.le_of_ble_eq_true rfl)
  rw [lg_entry_eq]
  exact fX2_toldCount_w (s := s) hu ⟨⟨B.exec, B.bytes, hml, findClass_of_methodNamed B.named, atoms_spec (ws := wsX2_toldCount) B.pre⟩, hK, hN⟩ ⟨B.returns, B.notSynchronized⟩ ⟨hP, cS_D hD, va_S.rf⟩ hl e0
theorem in_X3_hold_X3 : ∀ w ∈ wsX30, w ∈ wsX3_hold := fun _ h9 => List.mem_cons_of_mem _ (List.mem_append_right _ h9)
def rmX3_hold : Room := { frames := 0, cells := 0, slots := 0, locals := 0 }
def fX3_hold_b42 (n : Nat) (u : Nat) (k13 : Int32 → Int32 → Int32 → Int32 → (Nat → Int32) → (Nat → Nat → Int32) → Option (mSt)) (a1 : Int32) (a2 : Int32) (a3 : Int32) (a4 : Int32) (I : Nat → Int32) (R : Nat → Nat → Int32) : Option (mSt) :=
  k13 a1 a2 a3 (a4 + 1) I R
set_option maxRecDepth 20000 in
set_option maxHeartbeats 2000000 in
theorem fX3_hold_b42_w {p : Program} {l : Launch} {e : Env} {s : State} {m : MethodId} {args : Array Value} {below : List Frame} {meth : Method} {c : Code} {D : va_G} {y : ClassId} {yS : ClassId × ClassId} {q : Nat → Nat} {n : Nat} {z : mSt} {u : Nat} (hu : u < 2) (X : cX p s m args c cX3_hold 5 wsX3_hold RX3 D y yS) (hr : meth.sig.returnType = none ∧ meth.locks = false) {k13 : Int32 → Int32 → Int32 → Int32 → (Nat → Int32) → (Nat → Nat → Int32) → Option (mSt)} (hk13 : ∀ (a1 : Int32) (a2 : Int32) (a3 : Int32) (a4 : Int32) (I : Nat → Int32) (R : Nat → Nat → Int32) (H : Heap) (locs : List Loc) (ls : Array Slot), cH s D y yS q H locs I R → lv_has ls 5 [(0, .ref (q (140 + 100 * u))), (1, .int a1), (2, .int a2), (3, .int a3), (4, .int a4)] → k13 a1 a2 a3 a4 I R = some z → W p l e rmX3_hold s m args below meth c H locs 0 0 (MQ below (cQv D y yS q (cS y yS q s.heap.size) z) args s 0 0 (cS y yS q s.heap.size)) (F0 m 13 ls [])) {a1 : Int32} {a2 : Int32} {a3 : Int32} {a4 : Int32} {I : Nat → Int32} {R : Nat → Nat → Int32} {H : Heap} {locs : List Loc} {ls : Array Slot} (w : cH s D y yS q H locs I R) (hl : lv_has ls 5 [(0, .ref (q (140 + 100 * u))), (1, .int a1), (2, .int a2), (3, .int a3), (4, .int a4)]) (e0 : fX3_hold_b42 n u k13 a1 a2 a3 a4 I R = some z) : W p l e rmX3_hold s m args below meth c H locs 0 0 (MQ below (cQv D y yS q (cS y yS q s.heap.size) z) args s 0 0 (cS y yS q s.heap.size)) (F0 m 42 ls []) := by
  have hx := X.1.1
  have hb := X.1.2.1
  unfold fX3_hold_b42 at e0
  refine lv_iinc (v := (a4 + 1)) (lv' := [(4, .int (a4 + 1)), (0, .ref (q (140 + 100 * u))), (1, .int a1), (2, .int a2), (3, .int a3)]) hx hb dX3_hold_42 hl (k := 4) rfl rfl (by decide) rfl (fun ls hl => ?_)
  refine lv_goto (tgt := 13) hx hb dX3_hold_45 (by decide) ?_
  exact hk13 _ _ _ _ _ _ _ _ _ w (lv_sub hl [1, 2, 3, 4, 0] rfl) e0
def fX3_hold_b13 (n : Nat) (u : Nat) : Nat → Int32 → Int32 → Int32 → Int32 → (Nat → Int32) → (Nat → Nat → Int32) → Option (mSt)
  | 0, _, _, _, _, _, _ => none
  | j + 1, a1, a2, a3, a4, I, R =>
    if 16 ≤ a4 then
      some (I, R)
    else
      if ((a2 >>> (a4 &&& 31)) &&& 1) = 0 then
        fX3_hold_b42 n u (fX3_hold_b13 n u j) a1 a2 a3 a4 I R
      else
        if inb ((16 * a1) + a4) 64 = true then
        fX3_hold_b42 n u (fX3_hold_b13 n u j) a1 a2 a3 a4 I (setA R (145 + 100 * u) ((16 * a1) + a4) a3)
        else none
set_option maxRecDepth 20000 in
set_option maxHeartbeats 2000000 in
theorem fX3_hold_b13_w {p : Program} {l : Launch} {e : Env} {s : State} {m : MethodId} {args : Array Value} {below : List Frame} {meth : Method} {c : Code} {D : va_G} {y : ClassId} {yS : ClassId × ClassId} {q : Nat → Nat} {n : Nat} {z : mSt} {u : Nat} (hu : u < 2) (X : cX p s m args c cX3_hold 5 wsX3_hold RX3 D y yS) (hr : meth.sig.returnType = none ∧ meth.locks = false) : ∀ (j : Nat) (a1 : Int32) (a2 : Int32) (a3 : Int32) (a4 : Int32) (I : Nat → Int32) (R : Nat → Nat → Int32) (H : Heap) (locs : List Loc) (ls : Array Slot), cH s D y yS q H locs I R → lv_has ls 5 [(0, .ref (q (140 + 100 * u))), (1, .int a1), (2, .int a2), (3, .int a3), (4, .int a4)] → fX3_hold_b13 n u j a1 a2 a3 a4 I R = some z → W p l e rmX3_hold s m args below meth c H locs 0 0 (MQ below (cQv D y yS q (cS y yS q s.heap.size) z) args s 0 0 (cS y yS q s.heap.size)) (F0 m 13 ls []) := by
  have hx := X.1.1
  have hb := X.1.2.1
  intro j
  induction j with
  | zero =>
    intro a1 a2 a3 a4 I R H locs ls w hl e0
    cases e0
  | succ j ih =>
    intro a1 a2 a3 a4 I R H locs ls w hl e0
    rw [fX3_hold_b13] at e0
    refine lv_iload hx hb dX3_hold_13 (lv_at hl 4 rfl) ?_
    refine lv_bipush (v := 16) hx hb dX3_hold_15 (by decide) ?_
    refine lv_icmp_ge (tgt := 48) hx hb dX3_hold_17 (by decide) (fun c5 => ?_) (fun c5 => ?_)
    · have e0 := itp _ c5 e0
      have e0 := Option.some.inj e0
      subst e0
      exact c_vret X w hr dX3_hold_48
    · have e0 := itn _ c5 e0
      refine lv_iload_n hx hb dX3_hold_20 rfl (lv_at hl 2 rfl) ?_
      refine lv_iload hx hb dX3_hold_21 (lv_at hl 4 rfl) ?_
      refine lv_ishr hx hb dX3_hold_23 ?_
      refine lv_iconst (v := 1) hx hb dX3_hold_24 (by decide) ?_
      refine lv_iand hx hb dX3_hold_25 ?_
      refine lv_if_eq (tgt := 42) hx hb dX3_hold_26 (by decide) (fun c4 => ?_) (fun c4 => ?_)
      · have e0 := itp _ c4 e0
        exact fX3_hold_b42_w (l := l) hu X hr ih w (lv_sub hl [0, 1, 2, 3, 4] rfl) e0
      · have e0 := itn _ c4 e0
        refine lv_aload_n hx hb dX3_hold_29 rfl (lv_at hl 0 rfl) ?_
        refine c_get X w (cat_RO _ _ _ _ _ u hu) rfl in_X3_hold_X3 4 (by decide) (index := 18) rfl (by decide +kernel) (cf_RO_4 _ _ _) dX3_hold_30 ?_
        refine lv_bipush (v := 16) hx hb dX3_hold_33 (by decide) ?_
        refine lv_iload_n hx hb dX3_hold_35 rfl (lv_at hl 1 rfl) ?_
        refine lv_imul hx hb dX3_hold_36 ?_
        refine lv_iload hx hb dX3_hold_37 (lv_at hl 4 rfl) ?_
        refine lv_iadd hx hb dX3_hold_39 ?_
        refine lv_iload_n hx hb dX3_hold_40 rfl (lv_at hl 3 rfl) ?_
        refine gd e0 (fun g3 e0 => ?_)
        refine c_ast X w (cat_a145 _ _ _ _ _ u hu) (cset_a145 _ _ _ _ _ u hu) g3 dX3_hold_41 (fun H locs w => ?_)
        exact fX3_hold_b42_w (l := l) hu X hr ih w (lv_sub hl [0, 1, 2, 3, 4] rfl) e0
def fX3_hold (n : Nat) (u : Nat) (a1 : Int32) (a2 : Int32) (a3 : Int32) (I : Nat → Int32) (R : Nat → Nat → Int32) : Option (mSt) :=
  if inb a1 4 = true then
  if inb a1 4 = true then
  fX3_hold_b13 n u n a1 a2 a3 0 I (setA R (143 + 100 * u) a1 ((getA R (143 + 100 * u) a1) ||| a2))
  else none
  else none
set_option maxRecDepth 20000 in
set_option maxHeartbeats 2000000 in
theorem fX3_hold_w {p : Program} {l : Launch} {e : Env} {s : State} {m : MethodId} {args : Array Value} {below : List Frame} {meth : Method} {c : Code} {D : va_G} {y : ClassId} {yS : ClassId × ClassId} {q : Nat → Nat} {n : Nat} {z : mSt} {u : Nat} (hu : u < 2) (X : cX p s m args c cX3_hold 5 wsX3_hold RX3 D y yS) (hr : meth.sig.returnType = none ∧ meth.locks = false) {a1 : Int32} {a2 : Int32} {a3 : Int32} {I : Nat → Int32} {R : Nat → Nat → Int32} {H : Heap} {locs : List Loc} {ls : Array Slot} (w : cH s D y yS q H locs I R) (hl : lv_has ls 5 [(0, .ref (q (140 + 100 * u))), (1, .int a1), (2, .int a2), (3, .int a3)]) (e0 : fX3_hold n u a1 a2 a3 I R = some z) : W p l e rmX3_hold s m args below meth c H locs 0 0 (MQ below (cQv D y yS q (cS y yS q s.heap.size) z) args s 0 0 (cS y yS q s.heap.size)) (F0 m 0 ls []) := by
  have hx := X.1.1
  have hb := X.1.2.1
  unfold fX3_hold at e0
  refine lv_aload_n hx hb dX3_hold_0 rfl (lv_at hl 0 rfl) ?_
  refine c_get X w (cat_RO _ _ _ _ _ u hu) rfl in_X3_hold_X3 2 (by decide) (index := 9) rfl (by decide +kernel) (cf_RO_2 _ _ _) dX3_hold_1 ?_
  refine lv_iload_n hx hb dX3_hold_4 rfl (lv_at hl 1 rfl) ?_
  refine lv_dup2_11 hx hb dX3_hold_5 rfl rfl ?_
  refine gd e0 (fun g1 e0 => ?_)
  refine c_ald X w (cat_a143 _ _ _ _ _ u hu) g1 dX3_hold_6 ?_
  refine lv_iload_n hx hb dX3_hold_7 rfl (lv_at hl 2 rfl) ?_
  refine lv_ior hx hb dX3_hold_8 ?_
  refine gd e0 (fun g2 e0 => ?_)
  refine c_ast X w (cat_a143 _ _ _ _ _ u hu) (cset_a143 _ _ _ _ _ u hu) g2 dX3_hold_9 (fun H locs w => ?_)
  refine lv_iconst (v := 0) hx hb dX3_hold_10 (by decide) ?_
  refine lv_istore (lv' := [(4, .int 0), (0, .ref (q (140 + 100 * u))), (1, .int a1), (2, .int a2), (3, .int a3)]) hx hb dX3_hold_11 hl (by decide) rfl (fun ls hl => ?_)
  exact fX3_hold_b13_w (l := l) hu X hr n _ _ _ _ _ _ _ _ _ w (lv_sub hl [1, 2, 3, 4, 0] rfl) e0
set_option maxRecDepth 20000 in
theorem fX3_hold_met (l : Launch) (D : va_G) (y : ClassId) (yS : ClassId × ClassId) (q : Nat → Nat) (sz n : Nat) (u : Nat) (hu : u < 2) (a1 : Int32) (a2 : Int32) (a3 : Int32) (I : Nat → Int32) (R : Nat → Nat → Int32) (z : mSt) (e0 : fX3_hold n u a1 a2 a3 I R = some z) : Met l yX3_hold wsX3_hold rmX3_hold (va_Pc [.ref (q (140 + 100 * u)), .int a1, .int a2, .int a3] (cPre D y yS q sz I R)) (cQv D y yS q (cS y yS q sz) z) 0 0 (cS y yS q sz) := by
  refine Met.ofW (cc := cX3_hold) (maxL := 5) (ret := none) (by decide) rfl ?_
  intro p e s m args below meth c s₁ B hml hv
  obtain ⟨rfl, hsz, hP, hK, hN, hD⟩ := hv
  subst hsz
  have hl := lv_entry ([.ref (q (140 + 100 * u)), .int a1, .int a2, .int a3]) (n := 5) (Nat.le_of_ble_eq_true rfl)
  rw [lg_entry_eq]
  exact fX3_hold_w (s := s) hu ⟨⟨B.exec, B.bytes, hml, findClass_of_methodNamed B.named, atoms_spec (ws := wsX3_hold) B.pre⟩, hK, hN⟩ ⟨B.returns, B.notSynchronized⟩ ⟨hP, cS_D hD, va_S.rf⟩ hl e0
def rmX3_turnedSet : Room := { frames := 1, cells := 0, slots := 0, locals := 20 }
def fX3_turnedSet_b27 (n : Nat) (k4 : Int32 → Int32 → Int32 → Option (Int32)) (a0 : Int32) (a1 : Int32) (a2 : Int32) : Option (Int32) :=
  k4 a0 a1 (a2 + 1)
set_option maxRecDepth 20000 in
set_option maxHeartbeats 2000000 in
theorem fX3_turnedSet_b27_w {p : Program} {l : Launch} {e : Env} {s : State} {m : MethodId} {args : Array Value} {below : List Frame} {meth : Method} {c : Code} {n : Nat} {z : Int32} (X : tX p s m args c cX3_turnedSet 3 wsX3_turnedSet RX3) (hr : meth.sig.returnType = some .int ∧ meth.locks = false) {k4 : Int32 → Int32 → Int32 → Option (Int32)} (hk4 : ∀ (a0 : Int32) (a1 : Int32) (a2 : Int32) (H : Heap) (locs : List Loc) (ls : Array Slot), sH s H locs → lv_has ls 3 [(0, .int a0), (1, .int a1), (2, .int a2)] → k4 a0 a1 a2 = some z → W p l e rmX3_turnedSet s m args below meth c H locs 0 0 (MQ below (sQi z) args s 0 0 (fun _ => False)) (F0 m 4 ls [])) {a0 : Int32} {a1 : Int32} {a2 : Int32} {H : Heap} {locs : List Loc} {ls : Array Slot} (w : sH s H locs) (hl : lv_has ls 3 [(0, .int a0), (1, .int a1), (2, .int a2)]) (e0 : fX3_turnedSet_b27 n k4 a0 a1 a2 = some z) : W p l e rmX3_turnedSet s m args below meth c H locs 0 0 (MQ below (sQi z) args s 0 0 (fun _ => False)) (F0 m 27 ls []) := by
  have hx := X.1.1
  have hb := X.1.2.1
  unfold fX3_turnedSet_b27 at e0
  refine lv_iinc (v := (a2 + 1)) (lv' := [(2, .int (a2 + 1)), (0, .int a0), (1, .int a1)]) hx hb dX3_turnedSet_27 hl (k := 2) rfl rfl (by decide) rfl (fun ls hl => ?_)
  refine lv_goto (tgt := 4) hx hb dX3_turnedSet_30 (by decide) ?_
  exact hk4 _ _ _ _ _ _ w (lv_sub hl [1, 2, 0] rfl) e0
def fX3_turnedSet_b4 (n : Nat) : Nat → Int32 → Int32 → Int32 → Option (Int32)
  | 0, _, _, _ => none
  | j + 1, a0, a1, a2 =>
    if 16 ≤ a2 then
      some a1
    else
      if ((a0 >>> (a2 &&& 31)) &&& 1) = 0 then
        fX3_turnedSet_b27 n (fX3_turnedSet_b4 n j) a0 a1 a2
      else
        (fX7_turnedAbout n a2).bind fun z1 =>
        fX3_turnedSet_b27 n (fX3_turnedSet_b4 n j) a0 (a1 ||| (1 <<< (z1 &&& 31))) a2
set_option maxRecDepth 20000 in
set_option maxHeartbeats 2000000 in
theorem fX3_turnedSet_b4_w {p : Program} {l : Launch} {e : Env} {s : State} {m : MethodId} {args : Array Value} {below : List Frame} {meth : Method} {c : Code} {n : Nat} {z : Int32} (X : tX p s m args c cX3_turnedSet 3 wsX3_turnedSet RX3) (hr : meth.sig.returnType = some .int ∧ meth.locks = false) : ∀ (j : Nat) (a0 : Int32) (a1 : Int32) (a2 : Int32) (H : Heap) (locs : List Loc) (ls : Array Slot), sH s H locs → lv_has ls 3 [(0, .int a0), (1, .int a1), (2, .int a2)] → fX3_turnedSet_b4 n j a0 a1 a2 = some z → W p l e rmX3_turnedSet s m args below meth c H locs 0 0 (MQ below (sQi z) args s 0 0 (fun _ => False)) (F0 m 4 ls []) := by
  have hx := X.1.1
  have hb := X.1.2.1
  intro j
  induction j with
  | zero =>
    intro a0 a1 a2 H locs ls w hl e0
    cases e0
  | succ j ih =>
    intro a0 a1 a2 H locs ls w hl e0
    rw [fX3_turnedSet_b4] at e0
    refine lv_iload_n hx hb dX3_turnedSet_4 rfl (lv_at hl 2 rfl) ?_
    refine lv_bipush (v := 16) hx hb dX3_turnedSet_5 (by decide) ?_
    refine lv_icmp_ge (tgt := 33) hx hb dX3_turnedSet_7 (by decide) (fun c4 => ?_) (fun c4 => ?_)
    · have e0 := itp _ c4 e0
      refine lv_iload_n hx hb dX3_turnedSet_33 rfl (lv_at hl 1 rfl) ?_
      have e0 := Option.some.inj e0
      subst e0
      exact t_iret X w hr dX3_turnedSet_34
    · have e0 := itn _ c4 e0
      refine lv_iload_n hx hb dX3_turnedSet_10 rfl (lv_at hl 0 rfl) ?_
      refine lv_iload_n hx hb dX3_turnedSet_11 rfl (lv_at hl 2 rfl) ?_
      refine lv_ishr hx hb dX3_turnedSet_12 ?_
      refine lv_iconst (v := 1) hx hb dX3_turnedSet_13 (by decide) ?_
      refine lv_iand hx hb dX3_turnedSet_14 ?_
      refine lv_if_eq (tgt := 27) hx hb dX3_turnedSet_15 (by decide) (fun c3 => ?_) (fun c3 => ?_)
      · have e0 := itp _ c3 e0
        exact fX3_turnedSet_b27_w (l := l) X hr ih w (lv_sub hl [0, 1, 2] rfl) e0
      · have e0 := itn _ c3 e0
        refine lv_iload_n hx hb dX3_turnedSet_18 rfl (lv_at hl 1 rfl) ?_
        refine lv_iconst (v := 1) hx hb dX3_turnedSet_19 (by decide) ?_
        refine lv_iload_n hx hb dX3_turnedSet_20 rfl (lv_at hl 2 rfl) ?_
        refine bd e0 (fun z1 e2 e0 => ?_)
        refine t_callni X w (n := 1) (As := [.int a2]) (rest := [.int 1, .int a1]) (fX7_turnedAbout_met l _ _ _ e2) gX3_turnedSet_X7_turnedAbout_n86 (X.2.2.1) (by decide +kernel) (by decide +kernel) rfl rfl rfl (by decide +kernel) ⟨Nat.le_of_ble_eq_true rfl, Nat.le_of_ble_eq_true rfl⟩ rfl hl.1 rfl (Nat.le_of_ble_eq_true rfl) dX3_turnedSet_21 (fun H locs w => ?_)
        refine lv_ishl hx hb dX3_turnedSet_24 ?_
        refine lv_ior hx hb dX3_turnedSet_25 ?_
        refine lv_istore_n (lv' := [(1, .int (a1 ||| (1 <<< (z1 &&& 31)))), (0, .int a0), (2, .int a2)]) hx hb dX3_turnedSet_26 rfl hl (by decide) rfl (fun ls hl => ?_)
        exact fX3_turnedSet_b27_w (l := l) X hr ih w (lv_sub hl [1, 0, 2] rfl) e0
def fX3_turnedSet (n : Nat) (a0 : Int32) : Option (Int32) :=
  fX3_turnedSet_b4 n n a0 0 0
set_option maxRecDepth 20000 in
set_option maxHeartbeats 2000000 in
theorem fX3_turnedSet_w {p : Program} {l : Launch} {e : Env} {s : State} {m : MethodId} {args : Array Value} {below : List Frame} {meth : Method} {c : Code} {n : Nat} {z : Int32} (X : tX p s m args c cX3_turnedSet 3 wsX3_turnedSet RX3) (hr : meth.sig.returnType = some .int ∧ meth.locks = false) {a0 : Int32} {H : Heap} {locs : List Loc} {ls : Array Slot} (w : sH s H locs) (hl : lv_has ls 3 [(0, .int a0)]) (e0 : fX3_turnedSet n a0 = some z) : W p l e rmX3_turnedSet s m args below meth c H locs 0 0 (MQ below (sQi z) args s 0 0 (fun _ => False)) (F0 m 0 ls []) := by
  have hx := X.1.1
  have hb := X.1.2.1
  unfold fX3_turnedSet at e0
  refine lv_iconst (v := 0) hx hb dX3_turnedSet_0 (by decide) ?_
  refine lv_istore_n (lv' := [(1, .int 0), (0, .int a0)]) hx hb dX3_turnedSet_1 rfl hl (by decide) rfl (fun ls hl => ?_)
  refine lv_iconst (v := 0) hx hb dX3_turnedSet_2 (by decide) ?_
  refine lv_istore_n (lv' := [(2, .int 0), (1, .int 0), (0, .int a0)]) hx hb dX3_turnedSet_3 rfl hl (by decide) rfl (fun ls hl => ?_)
  exact fX3_turnedSet_b4_w (l := l) X hr n _ _ _ _ _ _ w (lv_sub hl [2, 1, 0] rfl) e0
set_option maxRecDepth 20000 in
theorem fX3_turnedSet_met (l : Launch) (n : Nat) (a0 : Int32) (z : Int32) (e0 : fX3_turnedSet n a0 = some z) : Met l yX3_turnedSet wsX3_turnedSet rmX3_turnedSet (va_Pc [.int a0] (fun U => cN U)) (sQi z) 0 0 (fun _ => False) := by
  refine Met.ofW (cc := cX3_turnedSet) (maxL := 3) (ret := some .int) (by decide) rfl ?_
  intro p e s m args below meth c s₁ B hml hv
  obtain ⟨rfl, hN⟩ := hv
  have hl := lv_entry ([.int a0]) (n := 3) (Nat.le_of_ble_eq_true rfl)
  rw [lg_entry_eq]
  exact fX3_turnedSet_w (s := s) ⟨⟨B.exec, B.bytes, hml, findClass_of_methodNamed B.named, atoms_spec (ws := wsX3_turnedSet) B.pre⟩, hN⟩ ⟨B.returns, B.notSynchronized⟩ va_S.rf hl e0
def rmX7_rowOf : Room := { frames := 0, cells := 0, slots := 0, locals := 0 }
def fX7_rowOf (n : Nat) (a0 : Int32) (a1 : Int32) : Option (Int32) :=
  some ((a0 >>> ((4 * a1) &&& 31)) &&& 15)
set_option maxRecDepth 20000 in
set_option maxHeartbeats 2000000 in
theorem fX7_rowOf_w {p : Program} {l : Launch} {e : Env} {s : State} {m : MethodId} {args : Array Value} {below : List Frame} {meth : Method} {c : Code} {n : Nat} {z : Int32} (X : tX p s m args c cX7_rowOf 2 wsX7_rowOf RX7) (hr : meth.sig.returnType = some .int ∧ meth.locks = false) {a0 : Int32} {a1 : Int32} {H : Heap} {locs : List Loc} {ls : Array Slot} (w : sH s H locs) (hl : lv_has ls 2 [(0, .int a0), (1, .int a1)]) (e0 : fX7_rowOf n a0 a1 = some z) : W p l e rmX7_rowOf s m args below meth c H locs 0 0 (MQ below (sQi z) args s 0 0 (fun _ => False)) (F0 m 0 ls []) := by
  have hx := X.1.1
  have hb := X.1.2.1
  unfold fX7_rowOf at e0
  refine lv_iload_n hx hb dX7_rowOf_0 rfl (lv_at hl 0 rfl) ?_
  refine lv_iconst (v := 4) hx hb dX7_rowOf_1 (by decide) ?_
  refine lv_iload_n hx hb dX7_rowOf_2 rfl (lv_at hl 1 rfl) ?_
  refine lv_imul hx hb dX7_rowOf_3 ?_
  refine lv_ishr hx hb dX7_rowOf_4 ?_
  refine lv_bipush (v := 15) hx hb dX7_rowOf_5 (by decide) ?_
  refine lv_iand hx hb dX7_rowOf_7 ?_
  have e0 := Option.some.inj e0
  subst e0
  exact t_iret X w hr dX7_rowOf_8
set_option maxRecDepth 20000 in
theorem fX7_rowOf_met (l : Launch) (n : Nat) (a0 : Int32) (a1 : Int32) (z : Int32) (e0 : fX7_rowOf n a0 a1 = some z) : Met l yX7_rowOf wsX7_rowOf rmX7_rowOf (va_Pc [.int a0, .int a1] (fun U => cN U)) (sQi z) 0 0 (fun _ => False) := by
  refine Met.ofW (cc := cX7_rowOf) (maxL := 2) (ret := some .int) (by decide) rfl ?_
  intro p e s m args below meth c s₁ B hml hv
  obtain ⟨rfl, hN⟩ := hv
  have hl := lv_entry ([.int a0, .int a1]) (n := 2) (Nat.le_of_ble_eq_true rfl)
  rw [lg_entry_eq]
  exact fX7_rowOf_w (s := s) ⟨⟨B.exec, B.bytes, hml, findClass_of_methodNamed B.named, atoms_spec (ws := wsX7_rowOf) B.pre⟩, hN⟩ ⟨B.returns, B.notSynchronized⟩ va_S.rf hl e0
def rmX3_joinedSet : Room := { frames := 1, cells := 0, slots := 0, locals := 21 }
def fX3_joinedSet_b34 (n : Nat) (k4 : Int32 → Int32 → Int32 → Int32 → Option (Int32)) (a0 : Int32) (a1 : Int32) (a2 : Int32) (a3 : Int32) : Option (Int32) :=
  k4 a0 a1 a2 (a3 + 1)
set_option maxRecDepth 20000 in
set_option maxHeartbeats 2000000 in
theorem fX3_joinedSet_b34_w {p : Program} {l : Launch} {e : Env} {s : State} {m : MethodId} {args : Array Value} {below : List Frame} {meth : Method} {c : Code} {n : Nat} {z : Int32} (X : tX p s m args c cX3_joinedSet 4 wsX3_joinedSet RX3) (hr : meth.sig.returnType = some .int ∧ meth.locks = false) {k4 : Int32 → Int32 → Int32 → Int32 → Option (Int32)} (hk4 : ∀ (a0 : Int32) (a1 : Int32) (a2 : Int32) (a3 : Int32) (H : Heap) (locs : List Loc) (ls : Array Slot), sH s H locs → lv_has ls 4 [(0, .int a0), (1, .int a1), (2, .int a2), (3, .int a3)] → k4 a0 a1 a2 a3 = some z → W p l e rmX3_joinedSet s m args below meth c H locs 0 0 (MQ below (sQi z) args s 0 0 (fun _ => False)) (F0 m 4 ls [])) {a0 : Int32} {a1 : Int32} {a2 : Int32} {a3 : Int32} {H : Heap} {locs : List Loc} {ls : Array Slot} (w : sH s H locs) (hl : lv_has ls 4 [(0, .int a0), (1, .int a1), (2, .int a2), (3, .int a3)]) (e0 : fX3_joinedSet_b34 n k4 a0 a1 a2 a3 = some z) : W p l e rmX3_joinedSet s m args below meth c H locs 0 0 (MQ below (sQi z) args s 0 0 (fun _ => False)) (F0 m 34 ls []) := by
  have hx := X.1.1
  have hb := X.1.2.1
  unfold fX3_joinedSet_b34 at e0
  refine lv_iinc (v := (a3 + 1)) (lv' := [(3, .int (a3 + 1)), (0, .int a0), (1, .int a1), (2, .int a2)]) hx hb dX3_joinedSet_34 hl (k := 3) rfl rfl (by decide) rfl (fun ls hl => ?_)
  refine lv_goto (tgt := 4) hx hb dX3_joinedSet_37 (by decide) ?_
  exact hk4 _ _ _ _ _ _ _ w (lv_sub hl [1, 2, 3, 0] rfl) e0
def fX3_joinedSet_b4 (n : Nat) : Nat → Int32 → Int32 → Int32 → Int32 → Option (Int32)
  | 0, _, _, _, _ => none
  | j + 1, a0, a1, a2, a3 =>
    if 16 ≤ a3 then
      some a2
    else
      if ((a0 >>> (a3 &&& 31)) &&& 1) = 0 then
        fX3_joinedSet_b34 n (fX3_joinedSet_b4 n j) a0 a1 a2 a3
      else
        (fX7_rowOf n a1 (a3 - a3 / 4 * 4)).bind fun z1 =>
        fX3_joinedSet_b34 n (fX3_joinedSet_b4 n j) a0 a1 (a2 ||| (z1 <<< ((4 * (a3 / 4)) &&& 31))) a3
set_option maxRecDepth 20000 in
set_option maxHeartbeats 2000000 in
theorem fX3_joinedSet_b4_w {p : Program} {l : Launch} {e : Env} {s : State} {m : MethodId} {args : Array Value} {below : List Frame} {meth : Method} {c : Code} {n : Nat} {z : Int32} (X : tX p s m args c cX3_joinedSet 4 wsX3_joinedSet RX3) (hr : meth.sig.returnType = some .int ∧ meth.locks = false) : ∀ (j : Nat) (a0 : Int32) (a1 : Int32) (a2 : Int32) (a3 : Int32) (H : Heap) (locs : List Loc) (ls : Array Slot), sH s H locs → lv_has ls 4 [(0, .int a0), (1, .int a1), (2, .int a2), (3, .int a3)] → fX3_joinedSet_b4 n j a0 a1 a2 a3 = some z → W p l e rmX3_joinedSet s m args below meth c H locs 0 0 (MQ below (sQi z) args s 0 0 (fun _ => False)) (F0 m 4 ls []) := by
  have hx := X.1.1
  have hb := X.1.2.1
  intro j
  induction j with
  | zero =>
    intro a0 a1 a2 a3 H locs ls w hl e0
    cases e0
  | succ j ih =>
    intro a0 a1 a2 a3 H locs ls w hl e0
    rw [fX3_joinedSet_b4] at e0
    refine lv_iload_n hx hb dX3_joinedSet_4 rfl (lv_at hl 3 rfl) ?_
    refine lv_bipush (v := 16) hx hb dX3_joinedSet_5 (by decide) ?_
    refine lv_icmp_ge (tgt := 40) hx hb dX3_joinedSet_7 (by decide) (fun c4 => ?_) (fun c4 => ?_)
    · have e0 := itp _ c4 e0
      refine lv_iload_n hx hb dX3_joinedSet_40 rfl (lv_at hl 2 rfl) ?_
      have e0 := Option.some.inj e0
      subst e0
      exact t_iret X w hr dX3_joinedSet_41
    · have e0 := itn _ c4 e0
      refine lv_iload_n hx hb dX3_joinedSet_10 rfl (lv_at hl 0 rfl) ?_
      refine lv_iload_n hx hb dX3_joinedSet_11 rfl (lv_at hl 3 rfl) ?_
      refine lv_ishr hx hb dX3_joinedSet_12 ?_
      refine lv_iconst (v := 1) hx hb dX3_joinedSet_13 (by decide) ?_
      refine lv_iand hx hb dX3_joinedSet_14 ?_
      refine lv_if_eq (tgt := 34) hx hb dX3_joinedSet_15 (by decide) (fun c3 => ?_) (fun c3 => ?_)
      · have e0 := itp _ c3 e0
        exact fX3_joinedSet_b34_w (l := l) X hr ih w (lv_sub hl [0, 1, 2, 3] rfl) e0
      · have e0 := itn _ c3 e0
        refine lv_iload_n hx hb dX3_joinedSet_18 rfl (lv_at hl 2 rfl) ?_
        refine lv_iload_n hx hb dX3_joinedSet_19 rfl (lv_at hl 1 rfl) ?_
        refine lv_iload_n hx hb dX3_joinedSet_20 rfl (lv_at hl 3 rfl) ?_
        refine lv_iconst (v := 4) hx hb dX3_joinedSet_21 (by decide) ?_
        refine lv_irem hx hb dX3_joinedSet_22 (by decide) ?_
        refine bd e0 (fun z1 e2 e0 => ?_)
        refine t_callni X w (n := 2) (As := [.int a1, .int (a3 - a3 / 4 * 4)]) (rest := [.int a2]) (fX7_rowOf_met l _ _ _ _ e2) gX3_joinedSet_X7_rowOf_n89 (X.2.2.2.1) (by decide +kernel) (by decide +kernel) rfl rfl rfl (by decide +kernel) ⟨Nat.le_of_ble_eq_true rfl, Nat.le_of_ble_eq_true rfl⟩ rfl hl.1 rfl (Nat.le_of_ble_eq_true rfl) dX3_joinedSet_23 (fun H locs w => ?_)
        refine lv_iconst (v := 4) hx hb dX3_joinedSet_26 (by decide) ?_
        refine lv_iload_n hx hb dX3_joinedSet_27 rfl (lv_at hl 3 rfl) ?_
        refine lv_iconst (v := 4) hx hb dX3_joinedSet_28 (by decide) ?_
        refine lv_idiv hx hb dX3_joinedSet_29 (by decide) ?_
        refine lv_imul hx hb dX3_joinedSet_30 ?_
        refine lv_ishl hx hb dX3_joinedSet_31 ?_
        refine lv_ior hx hb dX3_joinedSet_32 ?_
        refine lv_istore_n (lv' := [(2, .int (a2 ||| (z1 <<< ((4 * (a3 / 4)) &&& 31)))), (0, .int a0), (1, .int a1), (3, .int a3)]) hx hb dX3_joinedSet_33 rfl hl (by decide) rfl (fun ls hl => ?_)
        exact fX3_joinedSet_b34_w (l := l) X hr ih w (lv_sub hl [1, 2, 0, 3] rfl) e0
def fX3_joinedSet (n : Nat) (a0 : Int32) (a1 : Int32) : Option (Int32) :=
  fX3_joinedSet_b4 n n a0 a1 0 0
set_option maxRecDepth 20000 in
set_option maxHeartbeats 2000000 in
theorem fX3_joinedSet_w {p : Program} {l : Launch} {e : Env} {s : State} {m : MethodId} {args : Array Value} {below : List Frame} {meth : Method} {c : Code} {n : Nat} {z : Int32} (X : tX p s m args c cX3_joinedSet 4 wsX3_joinedSet RX3) (hr : meth.sig.returnType = some .int ∧ meth.locks = false) {a0 : Int32} {a1 : Int32} {H : Heap} {locs : List Loc} {ls : Array Slot} (w : sH s H locs) (hl : lv_has ls 4 [(0, .int a0), (1, .int a1)]) (e0 : fX3_joinedSet n a0 a1 = some z) : W p l e rmX3_joinedSet s m args below meth c H locs 0 0 (MQ below (sQi z) args s 0 0 (fun _ => False)) (F0 m 0 ls []) := by
  have hx := X.1.1
  have hb := X.1.2.1
  unfold fX3_joinedSet at e0
  refine lv_iconst (v := 0) hx hb dX3_joinedSet_0 (by decide) ?_
  refine lv_istore_n (lv' := [(2, .int 0), (0, .int a0), (1, .int a1)]) hx hb dX3_joinedSet_1 rfl hl (by decide) rfl (fun ls hl => ?_)
  refine lv_iconst (v := 0) hx hb dX3_joinedSet_2 (by decide) ?_
  refine lv_istore_n (lv' := [(3, .int 0), (2, .int 0), (0, .int a0), (1, .int a1)]) hx hb dX3_joinedSet_3 rfl hl (by decide) rfl (fun ls hl => ?_)
  exact fX3_joinedSet_b4_w (l := l) X hr n _ _ _ _ _ _ _ w (lv_sub hl [2, 3, 1, 0] rfl) e0
set_option maxRecDepth 20000 in
theorem fX3_joinedSet_met (l : Launch) (n : Nat) (a0 : Int32) (a1 : Int32) (z : Int32) (e0 : fX3_joinedSet n a0 a1 = some z) : Met l yX3_joinedSet wsX3_joinedSet rmX3_joinedSet (va_Pc [.int a0, .int a1] (fun U => cN U)) (sQi z) 0 0 (fun _ => False) := by
  refine Met.ofW (cc := cX3_joinedSet) (maxL := 4) (ret := some .int) (by decide) rfl ?_
  intro p e s m args below meth c s₁ B hml hv
  obtain ⟨rfl, hN⟩ := hv
  have hl := lv_entry ([.int a0, .int a1]) (n := 4) (Nat.le_of_ble_eq_true rfl)
  rw [lg_entry_eq]
  exact fX3_joinedSet_w (s := s) ⟨⟨B.exec, B.bytes, hml, findClass_of_methodNamed B.named, atoms_spec (ws := wsX3_joinedSet) B.pre⟩, hN⟩ ⟨B.returns, B.notSynchronized⟩ va_S.rf hl e0
theorem in_X3_followBy_X3 : ∀ w ∈ wsX30, w ∈ wsX3_followBy := fun _ h9 => List.mem_cons_of_mem _ (List.mem_append_left _ (List.mem_append_right _ h9))
theorem in_X3_followBy_X2 : ∀ w ∈ wsX20, w ∈ wsX3_followBy := fun _ h9 => List.mem_cons_of_mem _ (List.mem_append_right _ h9)
def rmX3_followBy : Room := { frames := 2, cells := 0, slots := 0, locals := 44 }
def fX3_followBy (n : Nat) (u : Nat) (a1 : Int32) (I : Nat → Int32) (R : Nat → Nat → Int32) : Option (Int32 × mSt) :=
  if inb a1 5 = true then
  if inb (getA R (115 + 100 * u) a1) 4 = true then
  if inb a1 5 = true then
  if inb (getA R (116 + 100 * u) a1) 4 = true then
  if inb a1 5 = true then
  if (getA R (113 + 100 * u) a1) = 1 then
    (fX3_turnedSet n (getA R (143 + 100 * u) (getA R (115 + 100 * u) a1))).bind fun z11 =>
    some (z11, I, R)
  else
    if (getA R (113 + 100 * u) a1) = 2 then
      (fX3_joinedSet n (getA R (143 + 100 * u) (getA R (115 + 100 * u) a1)) (getA R (143 + 100 * u) (getA R (116 + 100 * u) a1))).bind fun z9 =>
      some (z9, I, R)
    else
      if (getA R (113 + 100 * u) a1) = 3 then
        some (((getA R (143 + 100 * u) (getA R (115 + 100 * u) a1)) &&& ((getA R (143 + 100 * u) (getA R (116 + 100 * u) a1)) ^^^ (-1))), I, R)
      else
        some ((getA R (143 + 100 * u) (getA R (115 + 100 * u) a1)), I, R)
  else none
  else none
  else none
  else none
  else none
set_option maxRecDepth 20000 in
set_option maxHeartbeats 2000000 in
theorem fX3_followBy_w {p : Program} {l : Launch} {e : Env} {s : State} {m : MethodId} {args : Array Value} {below : List Frame} {meth : Method} {c : Code} {D : va_G} {y : ClassId} {yS : ClassId × ClassId} {q : Nat → Nat} {n : Nat} {z : Int32 × mSt} {u : Nat} (hu : u < 2) (X : cX p s m args c cX3_followBy 4 wsX3_followBy RX3 D y yS) (hr : meth.sig.returnType = some .int ∧ meth.locks = false) {a1 : Int32} {I : Nat → Int32} {R : Nat → Nat → Int32} {H : Heap} {locs : List Loc} {ls : Array Slot} (w : cH s D y yS q H locs I R) (hl : lv_has ls 4 [(0, .ref (q (140 + 100 * u))), (1, .int a1)]) (e0 : fX3_followBy n u a1 I R = some z) : W p l e rmX3_followBy s m args below meth c H locs 0 0 (MQ below (cQi D y yS q (cS y yS q s.heap.size) z) args s 0 0 (cS y yS q s.heap.size)) (F0 m 0 ls []) := by
  have hx := X.1.1
  have hb := X.1.2.1
  unfold fX3_followBy at e0
  refine lv_aload_n hx hb dX3_followBy_0 rfl (lv_at hl 0 rfl) ?_
  refine c_get X w (cat_RO _ _ _ _ _ u hu) rfl in_X3_followBy_X3 2 (by decide) (index := 9) rfl (by decide +kernel) (cf_RO_2 _ _ _) dX3_followBy_1 ?_
  refine lv_aload_n hx hb dX3_followBy_4 rfl (lv_at hl 0 rfl) ?_
  refine c_get X w (cat_RO _ _ _ _ _ u hu) rfl in_X3_followBy_X3 0 (by decide) (index := 21) rfl (by decide +kernel) (cf_RO_0 _ _ _) dX3_followBy_5 ?_
  refine c_get X w (cat_PR _ _ _ _ _ u hu) rfl in_X3_followBy_X2 4 (by decide) (index := 70) rfl (by decide +kernel) (cf_PR_4 _ _ _) dX3_followBy_8 ?_
  refine lv_iload_n hx hb dX3_followBy_11 rfl (lv_at hl 1 rfl) ?_
  refine gd e0 (fun g1 e0 => ?_)
  refine c_ald X w (cat_a115 _ _ _ _ _ u hu) g1 dX3_followBy_12 ?_
  refine gd e0 (fun g2 e0 => ?_)
  refine c_ald X w (cat_a143 _ _ _ _ _ u hu) g2 dX3_followBy_13 ?_
  refine lv_istore_n (lv' := [(2, .int (getA R (143 + 100 * u) (getA R (115 + 100 * u) a1))), (0, .ref (q (140 + 100 * u))), (1, .int a1)]) hx hb dX3_followBy_14 rfl hl (by decide) rfl (fun ls hl => ?_)
  refine lv_aload_n hx hb dX3_followBy_15 rfl (lv_at hl 1 rfl) ?_
  refine c_get X w (cat_RO _ _ _ _ _ u hu) rfl in_X3_followBy_X3 2 (by decide) (index := 9) rfl (by decide +kernel) (cf_RO_2 _ _ _) dX3_followBy_16 ?_
  refine lv_aload_n hx hb dX3_followBy_19 rfl (lv_at hl 1 rfl) ?_
  refine c_get X w (cat_RO _ _ _ _ _ u hu) rfl in_X3_followBy_X3 0 (by decide) (index := 21) rfl (by decide +kernel) (cf_RO_0 _ _ _) dX3_followBy_20 ?_
  refine c_get X w (cat_PR _ _ _ _ _ u hu) rfl in_X3_followBy_X2 5 (by decide) (index := 73) rfl (by decide +kernel) (cf_PR_5 _ _ _) dX3_followBy_23 ?_
  refine lv_iload_n hx hb dX3_followBy_26 rfl (lv_at hl 2 rfl) ?_
  refine gd e0 (fun g3 e0 => ?_)
  refine c_ald X w (cat_a116 _ _ _ _ _ u hu) g3 dX3_followBy_27 ?_
  refine gd e0 (fun g4 e0 => ?_)
  refine c_ald X w (cat_a143 _ _ _ _ _ u hu) g4 dX3_followBy_28 ?_
  refine lv_istore_n (lv' := [(3, .int (getA R (143 + 100 * u) (getA R (116 + 100 * u) a1))), (2, .int (getA R (143 + 100 * u) (getA R (115 + 100 * u) a1))), (0, .ref (q (140 + 100 * u))), (1, .int a1)]) hx hb dX3_followBy_29 rfl hl (by decide) rfl (fun ls hl => ?_)
  refine lv_aload_n hx hb dX3_followBy_30 rfl (lv_at hl 2 rfl) ?_
  refine c_get X w (cat_RO _ _ _ _ _ u hu) rfl in_X3_followBy_X3 0 (by decide) (index := 21) rfl (by decide +kernel) (cf_RO_0 _ _ _) dX3_followBy_31 ?_
  refine c_get X w (cat_PR _ _ _ _ _ u hu) rfl in_X3_followBy_X2 2 (by decide) (index := 76) rfl (by decide +kernel) (cf_PR_2 _ _ _) dX3_followBy_34 ?_
  refine lv_iload_n hx hb dX3_followBy_37 rfl (lv_at hl 3 rfl) ?_
  refine gd e0 (fun g5 e0 => ?_)
  refine c_ald X w (cat_a113 _ _ _ _ _ u hu) g5 dX3_followBy_38 ?_
  by_cases c6 : (getA R (113 + 100 * u) a1) = 1
  · have e0 := itp _ c6 e0
    refine lv_tableIn (off := 25) (tgt := 64) hx hb dX3_followBy_39 (by rw [c6]; decide) (by rw [c6]; decide) (by rw [c6]; decide) (by decide) ?_
    refine lv_iload_n hx hb dX3_followBy_64 rfl (lv_at hl 1 rfl) ?_
    refine bd e0 (fun z11 e12 e0 => ?_)
    refine c_callsi X w (n := 1) (As := [.int (getA R (143 + 100 * u) (getA R (115 + 100 * u) a1))]) (rest := []) (fX3_turnedSet_met l _ _ _ e12) gX3_followBy_X3_turnedSet rfl rfl rfl (by decide +kernel) ⟨Nat.le_of_ble_eq_true rfl, Nat.le_of_ble_eq_true rfl⟩ rfl hl.1 rfl (Nat.le_of_ble_eq_true rfl) dX3_followBy_65 (fun H locs w => ?_)
    have e0 := Option.some.inj e0
    subst e0
    exact c_iret X w hr dX3_followBy_68
  · have e0 := itn _ c6 e0
    by_cases c7 : (getA R (113 + 100 * u) a1) = 2
    · have e0 := itp _ c7 e0
      refine lv_tableIn (off := 30) (tgt := 69) hx hb dX3_followBy_39 (by rw [c7]; decide) (by rw [c7]; decide) (by rw [c7]; decide) (by decide) ?_
      refine lv_iload_n hx hb dX3_followBy_69 rfl (lv_at hl 1 rfl) ?_
      refine lv_iload_n hx hb dX3_followBy_70 rfl (lv_at hl 0 rfl) ?_
      refine bd e0 (fun z9 e10 e0 => ?_)
      refine c_callsi X w (n := 2) (As := [.int (getA R (143 + 100 * u) (getA R (115 + 100 * u) a1)), .int (getA R (143 + 100 * u) (getA R (116 + 100 * u) a1))]) (rest := []) (fX3_joinedSet_met l _ _ _ _ e10) gX3_followBy_X3_joinedSet rfl rfl rfl (by decide +kernel) ⟨Nat.le_of_ble_eq_true rfl, Nat.le_of_ble_eq_true rfl⟩ rfl hl.1 rfl (Nat.le_of_ble_eq_true rfl) dX3_followBy_71 (fun H locs w => ?_)
      have e0 := Option.some.inj e0
      subst e0
      exact c_iret X w hr dX3_followBy_74
    · have e0 := itn _ c7 e0
      by_cases c8 : (getA R (113 + 100 * u) a1) = 3
      · have e0 := itp _ c8 e0
        refine lv_tableIn (off := 36) (tgt := 75) hx hb dX3_followBy_39 (by rw [c8]; decide) (by rw [c8]; decide) (by rw [c8]; decide) (by decide) ?_
        refine lv_iload_n hx hb dX3_followBy_75 rfl (lv_at hl 1 rfl) ?_
        refine lv_iload_n hx hb dX3_followBy_76 rfl (lv_at hl 0 rfl) ?_
        refine lv_iconst (v := (-1)) hx hb dX3_followBy_77 (by decide) ?_
        refine lv_ixor hx hb dX3_followBy_78 ?_
        refine lv_iand hx hb dX3_followBy_79 ?_
        have e0 := Option.some.inj e0
        subst e0
        exact c_iret X w hr dX3_followBy_80
      · have e0 := itn _ c8 e0
        refine lv_tableOut (tgt := 81) hx hb dX3_followBy_39 (by have hc6 := lv_neT c6 (a := 1) (by decide); have hc7 := lv_neT c7 (a := 2) (by decide); have hc8 := lv_neT c8 (a := 3) (by decide); omega) (by decide) ?_
        refine lv_iload_n hx hb dX3_followBy_81 rfl (lv_at hl 1 rfl) ?_
        have e0 := Option.some.inj e0
        subst e0
        exact c_iret X w hr dX3_followBy_82
set_option maxRecDepth 20000 in
theorem fX3_followBy_met (l : Launch) (D : va_G) (y : ClassId) (yS : ClassId × ClassId) (q : Nat → Nat) (sz n : Nat) (u : Nat) (hu : u < 2) (a1 : Int32) (I : Nat → Int32) (R : Nat → Nat → Int32) (z : Int32 × mSt) (e0 : fX3_followBy n u a1 I R = some z) : Met l yX3_followBy wsX3_followBy rmX3_followBy (va_Pc [.ref (q (140 + 100 * u)), .int a1] (cPre D y yS q sz I R)) (cQi D y yS q (cS y yS q sz) z) 0 0 (cS y yS q sz) := by
  refine Met.ofW (cc := cX3_followBy) (maxL := 4) (ret := some .int) (by decide) rfl ?_
  intro p e s m args below meth c s₁ B hml hv
  obtain ⟨rfl, hsz, hP, hK, hN, hD⟩ := hv
  subst hsz
  have hl := lv_entry ([.ref (q (140 + 100 * u)), .int a1]) (n := 4) (Nat.le_of_ble_eq_true rfl)
  rw [lg_entry_eq]
  exact fX3_followBy_w (s := s) hu ⟨⟨B.exec, B.bytes, hml, findClass_of_methodNamed B.named, atoms_spec (ws := wsX3_followBy) B.pre⟩, hK, hN⟩ ⟨B.returns, B.notSynchronized⟩ ⟨hP, cS_D hD, va_S.rf⟩ hl e0
theorem in_X3_isRoundIn_X3 : ∀ w ∈ wsX30, w ∈ wsX3_isRoundIn := fun _ h9 => List.mem_cons_of_mem _ (List.mem_append_left _ (List.mem_append_left _ (List.mem_append_right _ h9)))
theorem in_X3_isRoundIn_X2 : ∀ w ∈ wsX20, w ∈ wsX3_isRoundIn := fun _ h9 => List.mem_cons_of_mem _ (List.mem_append_left _ (List.mem_append_right _ h9))
theorem in_X3_isRoundIn_X1 : ∀ w ∈ wsX10, w ∈ wsX3_isRoundIn := fun _ h9 => List.mem_cons_of_mem _ (List.mem_append_right _ h9)
def rmX3_isRoundIn : Room := { frames := 3, cells := 0, slots := 0, locals := 67 }
def fX3_isRoundIn_b67 (n : Nat) (u : Nat) (k10 : Int32 → Int32 → (Nat → Int32) → (Nat → Nat → Int32) → Option (Int32 × mSt)) (a1 : Int32) (a2 : Int32) (I : Nat → Int32) (R : Nat → Nat → Int32) : Option (Int32 × mSt) :=
  k10 a1 (a2 + 1) I R
set_option maxRecDepth 20000 in
set_option maxHeartbeats 2000000 in
theorem fX3_isRoundIn_b67_w {p : Program} {l : Launch} {e : Env} {s : State} {m : MethodId} {args : Array Value} {below : List Frame} {meth : Method} {c : Code} {D : va_G} {y : ClassId} {yS : ClassId × ClassId} {q : Nat → Nat} {n : Nat} {z : Int32 × mSt} {u : Nat} (hu : u < 2) (X : cX p s m args c cX3_isRoundIn 4 wsX3_isRoundIn RX3 D y yS) (hr : meth.sig.returnType = some .boolean ∧ meth.locks = false) {k10 : Int32 → Int32 → (Nat → Int32) → (Nat → Nat → Int32) → Option (Int32 × mSt)} (hk10 : ∀ (a1 : Int32) (a2 : Int32) (I : Nat → Int32) (R : Nat → Nat → Int32) (H : Heap) (locs : List Loc) (ls : Array Slot), cH s D y yS q H locs I R → lv_has ls 4 [(0, .ref (q (140 + 100 * u))), (1, .int a1), (2, .int a2)] → k10 a1 a2 I R = some z → W p l e rmX3_isRoundIn s m args below meth c H locs 0 0 (MQ below (cQi D y yS q (cS y yS q s.heap.size) z) args s 0 0 (cS y yS q s.heap.size)) (F0 m 10 ls [])) {a1 : Int32} {a2 : Int32} {I : Nat → Int32} {R : Nat → Nat → Int32} {H : Heap} {locs : List Loc} {ls : Array Slot} (w : cH s D y yS q H locs I R) (hl : lv_has ls 4 [(0, .ref (q (140 + 100 * u))), (1, .int a1), (2, .int a2)]) (e0 : fX3_isRoundIn_b67 n u k10 a1 a2 I R = some z) : W p l e rmX3_isRoundIn s m args below meth c H locs 0 0 (MQ below (cQi D y yS q (cS y yS q s.heap.size) z) args s 0 0 (cS y yS q s.heap.size)) (F0 m 67 ls []) := by
  have hx := X.1.1
  have hb := X.1.2.1
  unfold fX3_isRoundIn_b67 at e0
  refine lv_iinc (v := (a2 + 1)) (lv' := [(2, .int (a2 + 1)), (0, .ref (q (140 + 100 * u))), (1, .int a1)]) hx hb dX3_isRoundIn_67 hl (k := 2) rfl rfl (by decide) rfl (fun ls hl => ?_)
  refine lv_goto (tgt := 10) hx hb dX3_isRoundIn_70 (by decide) ?_
  exact hk10 _ _ _ _ _ _ _ w (lv_sub hl [1, 2, 0] rfl) e0
def fX3_isRoundIn_b121 (n : Nat) (u : Nat) : Nat → Int32 → (Nat → Int32) → (Nat → Nat → Int32) → Option (Int32 × mSt)
  | 0, _, _, _ => none
  | j + 1, a3, I, R =>
    if (I (118 + 100 * u)) ≤ a3 then
      some (1, I, R)
    else
      if inb a3 4 = true then
      (fX3_hold n u a3 (getA R (144 + 100 * u) a3) (I (146 + 100 * u)) I R).bind fun z14 =>
      fX3_isRoundIn_b121 n u j (a3 + 1) z14.1 z14.2
      else none
set_option maxRecDepth 20000 in
set_option maxHeartbeats 2000000 in
theorem fX3_isRoundIn_b121_w {p : Program} {l : Launch} {e : Env} {s : State} {m : MethodId} {args : Array Value} {below : List Frame} {meth : Method} {c : Code} {D : va_G} {y : ClassId} {yS : ClassId × ClassId} {q : Nat → Nat} {n : Nat} {z : Int32 × mSt} {u : Nat} (hu : u < 2) (X : cX p s m args c cX3_isRoundIn 4 wsX3_isRoundIn RX3 D y yS) (hr : meth.sig.returnType = some .boolean ∧ meth.locks = false) : ∀ (j : Nat) (a3 : Int32) (I : Nat → Int32) (R : Nat → Nat → Int32) (H : Heap) (locs : List Loc) (ls : Array Slot), cH s D y yS q H locs I R → lv_has ls 4 [(0, .ref (q (140 + 100 * u))), (3, .int a3)] → fX3_isRoundIn_b121 n u j a3 I R = some z → W p l e rmX3_isRoundIn s m args below meth c H locs 0 0 (MQ below (cQi D y yS q (cS y yS q s.heap.size) z) args s 0 0 (cS y yS q s.heap.size)) (F0 m 121 ls []) := by
  have hx := X.1.1
  have hb := X.1.2.1
  intro j
  induction j with
  | zero =>
    intro a3 I R H locs ls w hl e0
    cases e0
  | succ j ih =>
    intro a3 I R H locs ls w hl e0
    rw [fX3_isRoundIn_b121] at e0
    refine lv_iload_n hx hb dX3_isRoundIn_121 rfl (lv_at hl 1 rfl) ?_
    refine lv_aload_n hx hb dX3_isRoundIn_122 rfl (lv_at hl 0 rfl) ?_
    refine c_get X w (cat_RO _ _ _ _ _ u hu) rfl in_X3_isRoundIn_X3 0 (by decide) (index := 21) rfl (by decide +kernel) (cf_RO_0 _ _ _) dX3_isRoundIn_123 ?_
    refine c_get X w (cat_PR _ _ _ _ _ u hu) rfl in_X3_isRoundIn_X2 7 (by decide) (index := 39) rfl (by decide +kernel) (cf_PR_7 _ _ _) dX3_isRoundIn_126 ?_
    refine lv_icmp_ge (tgt := 153) hx hb dX3_isRoundIn_129 (by decide) (fun c16 => ?_) (fun c16 => ?_)
    · have e0 := itp _ c16 e0
      refine lv_iconst (v := 1) hx hb dX3_isRoundIn_153 (by decide) ?_
      have e0 := Option.some.inj e0
      subst e0
      exact c_zret X w hr rfl dX3_isRoundIn_154
    · have e0 := itn _ c16 e0
      refine lv_aload_n hx hb dX3_isRoundIn_132 rfl (lv_at hl 0 rfl) ?_
      refine lv_iload_n hx hb dX3_isRoundIn_133 rfl (lv_at hl 1 rfl) ?_
      refine lv_aload_n hx hb dX3_isRoundIn_134 rfl (lv_at hl 0 rfl) ?_
      refine c_get X w (cat_RO _ _ _ _ _ u hu) rfl in_X3_isRoundIn_X3 3 (by decide) (index := 15) rfl (by decide +kernel) (cf_RO_3 _ _ _) dX3_isRoundIn_135 ?_
      refine lv_iload_n hx hb dX3_isRoundIn_138 rfl (lv_at hl 1 rfl) ?_
      refine gd e0 (fun g13 e0 => ?_)
      refine c_ald X w (cat_a144 _ _ _ _ _ u hu) g13 dX3_isRoundIn_139 ?_
      refine lv_aload_n hx hb dX3_isRoundIn_140 rfl (lv_at hl 0 rfl) ?_
      refine c_get X w (cat_RO _ _ _ _ _ u hu) rfl in_X3_isRoundIn_X3 5 (by decide) (index := 35) rfl (by decide +kernel) (cf_RO_5 _ _ _) dX3_isRoundIn_141 ?_
      refine bd e0 (fun z14 e15 e0 => ?_)
      refine c_callv X w (c_rec X w (cat_RO _ _ _ _ _ u hu) rfl) (n := 3) (As := [.int a3, .int (getA R (144 + 100 * u) a3), .int (I (146 + 100 * u))]) (rest := []) (fX3_hold_met l _ _ _ _ _ _ _ hu _ _ _ _ _ _ e15) gX3_isRoundIn_X3_hold rfl rfl rfl (by decide +kernel) ⟨Nat.le_of_ble_eq_true rfl, Nat.le_of_ble_eq_true rfl⟩ rfl hl.1 rfl (Nat.le_of_ble_eq_true rfl) dX3_isRoundIn_144 (fun H locs w => ?_)
      refine lv_iinc (v := (a3 + 1)) (lv' := [(3, .int (a3 + 1)), (0, .ref (q (140 + 100 * u)))]) hx hb dX3_isRoundIn_147 hl (k := 1) rfl rfl (by decide) rfl (fun ls hl => ?_)
      refine lv_goto (tgt := 121) hx hb dX3_isRoundIn_150 (by decide) ?_
      exact ih _ _ _ _ _ _ w (lv_sub hl [1, 0] rfl) e0
def fX3_isRoundIn_b77 (n : Nat) (u : Nat) : Nat → Int32 → Int32 → (Nat → Int32) → (Nat → Nat → Int32) → Option (Int32 × mSt)
  | 0, _, _, _, _ => none
  | j + 1, a2, a3, I, R =>
    if (I (118 + 100 * u)) ≤ a3 then
      if a2 = 0 then
        some (0, I, R)
      else
        fX3_isRoundIn_b121 n u n 0 (upd I (146 + 100 * u) ((I (146 + 100 * u)) + 1)) R
    else
      if inb a3 4 = true then
      fX3_isRoundIn_b77 n u j (a2 ||| (getA R (144 + 100 * u) a3)) (a3 + 1) I R
      else none
set_option maxRecDepth 20000 in
set_option maxHeartbeats 2000000 in
theorem fX3_isRoundIn_b77_w {p : Program} {l : Launch} {e : Env} {s : State} {m : MethodId} {args : Array Value} {below : List Frame} {meth : Method} {c : Code} {D : va_G} {y : ClassId} {yS : ClassId × ClassId} {q : Nat → Nat} {n : Nat} {z : Int32 × mSt} {u : Nat} (hu : u < 2) (X : cX p s m args c cX3_isRoundIn 4 wsX3_isRoundIn RX3 D y yS) (hr : meth.sig.returnType = some .boolean ∧ meth.locks = false) : ∀ (j : Nat) (a2 : Int32) (a3 : Int32) (I : Nat → Int32) (R : Nat → Nat → Int32) (H : Heap) (locs : List Loc) (ls : Array Slot), cH s D y yS q H locs I R → lv_has ls 4 [(0, .ref (q (140 + 100 * u))), (2, .int a2), (3, .int a3)] → fX3_isRoundIn_b77 n u j a2 a3 I R = some z → W p l e rmX3_isRoundIn s m args below meth c H locs 0 0 (MQ below (cQi D y yS q (cS y yS q s.heap.size) z) args s 0 0 (cS y yS q s.heap.size)) (F0 m 77 ls []) := by
  have hx := X.1.1
  have hb := X.1.2.1
  intro j
  induction j with
  | zero =>
    intro a2 a3 I R H locs ls w hl e0
    cases e0
  | succ j ih =>
    intro a2 a3 I R H locs ls w hl e0
    rw [fX3_isRoundIn_b77] at e0
    refine lv_iload_n hx hb dX3_isRoundIn_77 rfl (lv_at hl 2 rfl) ?_
    refine lv_aload_n hx hb dX3_isRoundIn_78 rfl (lv_at hl 0 rfl) ?_
    refine c_get X w (cat_RO _ _ _ _ _ u hu) rfl in_X3_isRoundIn_X3 0 (by decide) (index := 21) rfl (by decide +kernel) (cf_RO_0 _ _ _) dX3_isRoundIn_79 ?_
    refine c_get X w (cat_PR _ _ _ _ _ u hu) rfl in_X3_isRoundIn_X2 7 (by decide) (index := 39) rfl (by decide +kernel) (cf_PR_7 _ _ _) dX3_isRoundIn_82 ?_
    refine lv_icmp_ge (tgt := 103) hx hb dX3_isRoundIn_85 (by decide) (fun c12 => ?_) (fun c12 => ?_)
    · have e0 := itp _ c12 e0
      refine lv_iload_n hx hb dX3_isRoundIn_103 rfl (lv_at hl 1 rfl) ?_
      refine lv_if_ne (tgt := 109) hx hb dX3_isRoundIn_104 (by decide) (fun c10 => ?_) (fun c10 => ?_)
      · have e0 := itn _ c10 e0
        refine lv_aload_n hx hb dX3_isRoundIn_109 rfl (lv_at hl 0 rfl) ?_
        refine lv_dup hx hb dX3_isRoundIn_110 rfl ?_
        refine c_get X w (cat_RO _ _ _ _ _ u hu) rfl in_X3_isRoundIn_X3 5 (by decide) (index := 35) rfl (by decide +kernel) (cf_RO_5 _ _ _) dX3_isRoundIn_111 ?_
        refine lv_iconst (v := 1) hx hb dX3_isRoundIn_114 (by decide) ?_
        refine lv_iadd hx hb dX3_isRoundIn_115 ?_
        refine c_put X w (cat_RO _ _ _ _ _ u hu) rfl in_X3_isRoundIn_X3 tyX3 tyX3_ok nmX3 5 (by decide) (index := 35) (ty := .int) rfl (by decide +kernel) rfl (by decide +kernel) rfl rfl (Nat.le_of_ble_eq_true rfl) (cset_RO_5 _ _ _ _ _ u hu _) dX3_isRoundIn_116 (fun H locs w => ?_)
        refine lv_iconst (v := 0) hx hb dX3_isRoundIn_119 (by decide) ?_
        refine lv_istore_n (lv' := [(3, .int 0), (0, .ref (q (140 + 100 * u))), (2, .int a2)]) hx hb dX3_isRoundIn_120 rfl hl (by decide) rfl (fun ls hl => ?_)
        exact fX3_isRoundIn_b121_w (l := l) hu X hr n _ _ _ _ _ _ w (lv_sub hl [1, 0] rfl) e0
      · have e0 := itp _ c10 e0
        refine lv_iconst (v := 0) hx hb dX3_isRoundIn_107 (by decide) ?_
        have e0 := Option.some.inj e0
        subst e0
        exact c_zret X w hr rfl dX3_isRoundIn_108
    · have e0 := itn _ c12 e0
      refine lv_iload_n hx hb dX3_isRoundIn_88 rfl (lv_at hl 1 rfl) ?_
      refine lv_aload_n hx hb dX3_isRoundIn_89 rfl (lv_at hl 0 rfl) ?_
      refine c_get X w (cat_RO _ _ _ _ _ u hu) rfl in_X3_isRoundIn_X3 3 (by decide) (index := 15) rfl (by decide +kernel) (cf_RO_3 _ _ _) dX3_isRoundIn_90 ?_
      refine lv_iload_n hx hb dX3_isRoundIn_93 rfl (lv_at hl 2 rfl) ?_
      refine gd e0 (fun g11 e0 => ?_)
      refine c_ald X w (cat_a144 _ _ _ _ _ u hu) g11 dX3_isRoundIn_94 ?_
      refine lv_ior hx hb dX3_isRoundIn_95 ?_
      refine lv_istore_n (lv' := [(2, .int (a2 ||| (getA R (144 + 100 * u) a3))), (0, .ref (q (140 + 100 * u))), (3, .int a3)]) hx hb dX3_isRoundIn_96 rfl hl (by decide) rfl (fun ls hl => ?_)
      refine lv_iinc (v := (a3 + 1)) (lv' := [(3, .int (a3 + 1)), (2, .int (a2 ||| (getA R (144 + 100 * u) a3))), (0, .ref (q (140 + 100 * u)))]) hx hb dX3_isRoundIn_97 hl (k := 2) rfl rfl (by decide) rfl (fun ls hl => ?_)
      refine lv_goto (tgt := 77) hx hb dX3_isRoundIn_100 (by decide) ?_
      exact ih _ _ _ _ _ _ _ w (lv_sub hl [2, 1, 0] rfl) e0
def fX3_isRoundIn_b10 (n : Nat) (u : Nat) : Nat → Int32 → Int32 → (Nat → Int32) → (Nat → Nat → Int32) → Option (Int32 × mSt)
  | 0, _, _, _, _ => none
  | j + 1, a1, a2, I, R =>
    if (I (119 + 100 * u)) ≤ a2 then
      fX3_isRoundIn_b77 n u n 0 0 I R
    else
      if inb a2 5 = true then
      if inb (getA R (114 + 100 * u) a2) 4 = true then
      if (getA R (132 + 100 * u) (getA R (114 + 100 * u) a2)) = a1 then
        if inb (getA R (114 + 100 * u) a2) 4 = true then
        (fX3_followBy n u a2 I R).bind fun z4 =>
        if inb (getA R (114 + 100 * u) a2) 4 = true then
        if inb (getA R (114 + 100 * u) a2) 4 = true then
        fX3_isRoundIn_b67 n u (fX3_isRoundIn_b10 n u j) a1 a2 z4.2.1 (setA z4.2.2 (144 + 100 * u) (getA R (114 + 100 * u) a2) ((getA R (144 + 100 * u) (getA R (114 + 100 * u) a2)) ||| (z4.1 &&& ((getA z4.2.2 (143 + 100 * u) (getA R (114 + 100 * u) a2)) ^^^ (-1)))))
        else none
        else none
        else none
      else
        fX3_isRoundIn_b67 n u (fX3_isRoundIn_b10 n u j) a1 a2 I R
      else none
      else none
set_option maxRecDepth 20000 in
set_option maxHeartbeats 2000000 in
theorem fX3_isRoundIn_b10_w {p : Program} {l : Launch} {e : Env} {s : State} {m : MethodId} {args : Array Value} {below : List Frame} {meth : Method} {c : Code} {D : va_G} {y : ClassId} {yS : ClassId × ClassId} {q : Nat → Nat} {n : Nat} {z : Int32 × mSt} {u : Nat} (hu : u < 2) (X : cX p s m args c cX3_isRoundIn 4 wsX3_isRoundIn RX3 D y yS) (hr : meth.sig.returnType = some .boolean ∧ meth.locks = false) : ∀ (j : Nat) (a1 : Int32) (a2 : Int32) (I : Nat → Int32) (R : Nat → Nat → Int32) (H : Heap) (locs : List Loc) (ls : Array Slot), cH s D y yS q H locs I R → lv_has ls 4 [(0, .ref (q (140 + 100 * u))), (1, .int a1), (2, .int a2)] → fX3_isRoundIn_b10 n u j a1 a2 I R = some z → W p l e rmX3_isRoundIn s m args below meth c H locs 0 0 (MQ below (cQi D y yS q (cS y yS q s.heap.size) z) args s 0 0 (cS y yS q s.heap.size)) (F0 m 10 ls []) := by
  have hx := X.1.1
  have hb := X.1.2.1
  intro j
  induction j with
  | zero =>
    intro a1 a2 I R H locs ls w hl e0
    cases e0
  | succ j ih =>
    intro a1 a2 I R H locs ls w hl e0
    rw [fX3_isRoundIn_b10] at e0
    refine lv_iload_n hx hb dX3_isRoundIn_10 rfl (lv_at hl 2 rfl) ?_
    refine lv_aload_n hx hb dX3_isRoundIn_11 rfl (lv_at hl 0 rfl) ?_
    refine c_get X w (cat_RO _ _ _ _ _ u hu) rfl in_X3_isRoundIn_X3 0 (by decide) (index := 21) rfl (by decide +kernel) (cf_RO_0 _ _ _) dX3_isRoundIn_12 ?_
    refine c_get X w (cat_PR _ _ _ _ _ u hu) rfl in_X3_isRoundIn_X2 8 (by decide) (index := 55) rfl (by decide +kernel) (cf_PR_8 _ _ _) dX3_isRoundIn_15 ?_
    refine lv_icmp_ge (tgt := 73) hx hb dX3_isRoundIn_18 (by decide) (fun c9 => ?_) (fun c9 => ?_)
    · have e0 := itp _ c9 e0
      refine lv_iconst (v := 0) hx hb dX3_isRoundIn_73 (by decide) ?_
      refine lv_istore_n (lv' := [(2, .int 0), (0, .ref (q (140 + 100 * u))), (1, .int a1)]) hx hb dX3_isRoundIn_74 rfl hl (by decide) rfl (fun ls hl => ?_)
      refine lv_iconst (v := 0) hx hb dX3_isRoundIn_75 (by decide) ?_
      refine lv_istore_n (lv' := [(3, .int 0), (2, .int 0), (0, .ref (q (140 + 100 * u))), (1, .int a1)]) hx hb dX3_isRoundIn_76 rfl hl (by decide) rfl (fun ls hl => ?_)
      exact fX3_isRoundIn_b77_w (l := l) hu X hr n _ _ _ _ _ _ _ w (lv_sub hl [2, 1, 0] rfl) e0
    · have e0 := itn _ c9 e0
      refine lv_aload_n hx hb dX3_isRoundIn_21 rfl (lv_at hl 0 rfl) ?_
      refine c_get X w (cat_RO _ _ _ _ _ u hu) rfl in_X3_isRoundIn_X3 0 (by decide) (index := 21) rfl (by decide +kernel) (cf_RO_0 _ _ _) dX3_isRoundIn_22 ?_
      refine c_get X w (cat_PR _ _ _ _ _ u hu) rfl in_X3_isRoundIn_X2 3 (by decide) (index := 58) rfl (by decide +kernel) (cf_PR_3 _ _ _) dX3_isRoundIn_25 ?_
      refine lv_iload_n hx hb dX3_isRoundIn_28 rfl (lv_at hl 2 rfl) ?_
      refine gd e0 (fun g1 e0 => ?_)
      refine c_ald X w (cat_a114 _ _ _ _ _ u hu) g1 dX3_isRoundIn_29 ?_
      refine lv_istore_n (lv' := [(3, .int (getA R (114 + 100 * u) a2)), (0, .ref (q (140 + 100 * u))), (1, .int a1), (2, .int a2)]) hx hb dX3_isRoundIn_30 rfl hl (by decide) rfl (fun ls hl => ?_)
      refine lv_aload_n hx hb dX3_isRoundIn_31 rfl (lv_at hl 1 rfl) ?_
      refine c_get X w (cat_RO _ _ _ _ _ u hu) rfl in_X3_isRoundIn_X3 1 (by decide) (index := 25) rfl (by decide +kernel) (cf_RO_1 _ _ _) dX3_isRoundIn_32 ?_
      refine c_get X w (cat_LA _ _ _ _ _ u hu) rfl in_X3_isRoundIn_X1 1 (by decide) (index := 61) rfl (by decide +kernel) (cf_LA_1 _ _ _) dX3_isRoundIn_35 ?_
      refine lv_iload_n hx hb dX3_isRoundIn_38 rfl (lv_at hl 0 rfl) ?_
      refine gd e0 (fun g2 e0 => ?_)
      refine c_ald X w (cat_a132 _ _ _ _ _ u hu) g2 dX3_isRoundIn_39 ?_
      refine lv_iload_n hx hb dX3_isRoundIn_40 rfl (lv_at hl 2 rfl) ?_
      refine lv_icmp_ne (tgt := 67) hx hb dX3_isRoundIn_41 (by decide) (fun c8 => ?_) (fun c8 => ?_)
      · have e0 := itn _ c8 e0
        exact fX3_isRoundIn_b67_w (l := l) hu X hr ih w (lv_sub hl [1, 2, 3] rfl) e0
      · have e0 := itp _ c8 e0
        refine lv_aload_n hx hb dX3_isRoundIn_44 rfl (lv_at hl 1 rfl) ?_
        refine c_get X w (cat_RO _ _ _ _ _ u hu) rfl in_X3_isRoundIn_X3 3 (by decide) (index := 15) rfl (by decide +kernel) (cf_RO_3 _ _ _) dX3_isRoundIn_45 ?_
        refine lv_iload_n hx hb dX3_isRoundIn_48 rfl (lv_at hl 0 rfl) ?_
        refine lv_dup2_11 hx hb dX3_isRoundIn_49 rfl rfl ?_
        refine gd e0 (fun g3 e0 => ?_)
        refine c_ald X w (cat_a144 _ _ _ _ _ u hu) g3 dX3_isRoundIn_50 ?_
        refine lv_aload_n hx hb dX3_isRoundIn_51 rfl (lv_at hl 1 rfl) ?_
        refine lv_iload_n hx hb dX3_isRoundIn_52 rfl (lv_at hl 3 rfl) ?_
        refine bd e0 (fun z4 e5 e0 => ?_)
        refine c_calli X w (c_rec X w (cat_RO _ _ _ _ _ u hu) rfl) (n := 1) (As := [.int a2]) (rest := [.int (getA R (144 + 100 * u) (getA R (114 + 100 * u) a2)), .int (getA R (114 + 100 * u) a2), .ref (q (144 + 100 * u))]) (fX3_followBy_met l _ _ _ _ _ _ _ hu _ _ _ _ e5) gX3_isRoundIn_X3_followBy rfl rfl rfl (by decide +kernel) ⟨Nat.le_of_ble_eq_true rfl, Nat.le_of_ble_eq_true rfl⟩ rfl hl.1 rfl (Nat.le_of_ble_eq_true rfl) dX3_isRoundIn_53 (fun H locs w => ?_)
        refine lv_aload_n hx hb dX3_isRoundIn_56 rfl (lv_at hl 1 rfl) ?_
        refine c_get X w (cat_RO _ _ _ _ _ u hu) rfl in_X3_isRoundIn_X3 2 (by decide) (index := 9) rfl (by decide +kernel) (cf_RO_2 _ _ _) dX3_isRoundIn_57 ?_
        refine lv_iload_n hx hb dX3_isRoundIn_60 rfl (lv_at hl 0 rfl) ?_
        refine gd e0 (fun g6 e0 => ?_)
        refine c_ald X w (cat_a143 _ _ _ _ _ u hu) g6 dX3_isRoundIn_61 ?_
        refine lv_iconst (v := (-1)) hx hb dX3_isRoundIn_62 (by decide) ?_
        refine lv_ixor hx hb dX3_isRoundIn_63 ?_
        refine lv_iand hx hb dX3_isRoundIn_64 ?_
        refine lv_ior hx hb dX3_isRoundIn_65 ?_
        refine gd e0 (fun g7 e0 => ?_)
        refine c_ast X w (cat_a144 _ _ _ _ _ u hu) (cset_a144 _ _ _ _ _ u hu) g7 dX3_isRoundIn_66 (fun H locs w => ?_)
        exact fX3_isRoundIn_b67_w (l := l) hu X hr ih w (lv_sub hl [1, 2, 3] rfl) e0
def fX3_isRoundIn (n : Nat) (u : Nat) (a1 : Int32) (I : Nat → Int32) (R : Nat → Nat → Int32) : Option (Int32 × mSt) :=
  fX3_isRoundIn_b10 n u n a1 0 I (flA R (144 + 100 * u) 4 0)
set_option maxRecDepth 20000 in
set_option maxHeartbeats 2000000 in
theorem fX3_isRoundIn_w {p : Program} {l : Launch} {e : Env} {s : State} {m : MethodId} {args : Array Value} {below : List Frame} {meth : Method} {c : Code} {D : va_G} {y : ClassId} {yS : ClassId × ClassId} {q : Nat → Nat} {n : Nat} {z : Int32 × mSt} {u : Nat} (hu : u < 2) (X : cX p s m args c cX3_isRoundIn 4 wsX3_isRoundIn RX3 D y yS) (hr : meth.sig.returnType = some .boolean ∧ meth.locks = false) {a1 : Int32} {I : Nat → Int32} {R : Nat → Nat → Int32} {H : Heap} {locs : List Loc} {ls : Array Slot} (w : cH s D y yS q H locs I R) (hl : lv_has ls 4 [(0, .ref (q (140 + 100 * u))), (1, .int a1)]) (e0 : fX3_isRoundIn n u a1 I R = some z) : W p l e rmX3_isRoundIn s m args below meth c H locs 0 0 (MQ below (cQi D y yS q (cS y yS q s.heap.size) z) args s 0 0 (cS y yS q s.heap.size)) (F0 m 0 ls []) := by
  have hx := X.1.1
  have hb := X.1.2.1
  unfold fX3_isRoundIn at e0
  refine lv_aload_n hx hb dX3_isRoundIn_0 rfl (lv_at hl 0 rfl) ?_
  refine c_get X w (cat_RO _ _ _ _ _ u hu) rfl in_X3_isRoundIn_X3 3 (by decide) (index := 15) rfl (by decide +kernel) (cf_RO_3 _ _ _) dX3_isRoundIn_1 ?_
  refine lv_iconst (v := 0) hx hb dX3_isRoundIn_4 (by decide) ?_
  refine c_fill X w (cat_a144 _ _ _ _ _ u hu) (cset_a144 _ _ _ _ _ u hu) (Nat.le_of_ble_eq_true rfl) gX3_isRoundIn_J7_fill_53178 (by decide +kernel) ⟨Nat.le_of_ble_eq_true rfl, Nat.le_of_ble_eq_true rfl⟩ hl.1 (rest := []) (Nat.le_of_ble_eq_true rfl) dX3_isRoundIn_5 (fun H locs w => ?_)
  refine lv_iconst (v := 0) hx hb dX3_isRoundIn_8 (by decide) ?_
  refine lv_istore_n (lv' := [(2, .int 0), (0, .ref (q (140 + 100 * u))), (1, .int a1)]) hx hb dX3_isRoundIn_9 rfl hl (by decide) rfl (fun ls hl => ?_)
  exact fX3_isRoundIn_b10_w (l := l) hu X hr n _ _ _ _ _ _ _ w (lv_sub hl [1, 2, 0] rfl) e0
set_option maxRecDepth 20000 in
theorem fX3_isRoundIn_met (l : Launch) (D : va_G) (y : ClassId) (yS : ClassId × ClassId) (q : Nat → Nat) (sz n : Nat) (u : Nat) (hu : u < 2) (a1 : Int32) (I : Nat → Int32) (R : Nat → Nat → Int32) (z : Int32 × mSt) (e0 : fX3_isRoundIn n u a1 I R = some z) : Met l yX3_isRoundIn wsX3_isRoundIn rmX3_isRoundIn (va_Pc [.ref (q (140 + 100 * u)), .int a1] (cPre D y yS q sz I R)) (cQi D y yS q (cS y yS q sz) z) 0 0 (cS y yS q sz) := by
  refine Met.ofW (cc := cX3_isRoundIn) (maxL := 4) (ret := some .boolean) (by decide) rfl ?_
  intro p e s m args below meth c s₁ B hml hv
  obtain ⟨rfl, hsz, hP, hK, hN, hD⟩ := hv
  subst hsz
  have hl := lv_entry ([.ref (q (140 + 100 * u)), .int a1]) (n := 4) (Nat.le_of_ble_eq_true rfl)
  rw [lg_entry_eq]
  exact fX3_isRoundIn_w (s := s) hu ⟨⟨B.exec, B.bytes, hml, findClass_of_methodNamed B.named, atoms_spec (ws := wsX3_isRoundIn) B.pre⟩, hK, hN⟩ ⟨B.returns, B.notSynchronized⟩ ⟨hP, cS_D hD, va_S.rf⟩ hl e0
