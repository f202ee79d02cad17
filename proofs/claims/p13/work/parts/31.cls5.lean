theorem in_X7_firstWrong_X7 : ∀ w ∈ wsX70, w ∈ wsX7_firstWrong := fun _ h9 => List.mem_cons_of_mem _ (List.mem_append_left _ (List.mem_append_left _ (List.mem_append_left _ (List.mem_append_left _ (List.mem_append_right _ h9)))))
theorem in_X7_firstWrong_X6 : ∀ w ∈ wsX60, w ∈ wsX7_firstWrong := fun _ h9 => List.mem_cons_of_mem _ (List.mem_append_left _ (List.mem_append_left _ (List.mem_append_left _ (List.mem_append_right _ h9))))
theorem in_X7_firstWrong_X4 : ∀ w ∈ wsX40, w ∈ wsX7_firstWrong := fun _ h9 => List.mem_cons_of_mem _ (List.mem_append_left _ (List.mem_append_left _ (List.mem_append_right _ h9)))
theorem in_X7_firstWrong_X2 : ∀ w ∈ wsX20, w ∈ wsX7_firstWrong := fun _ h9 => List.mem_cons_of_mem _ (List.mem_append_left _ (List.mem_append_right _ h9))
theorem in_X7_firstWrong_X1 : ∀ w ∈ wsX10, w ∈ wsX7_firstWrong := fun _ h9 => List.mem_cons_of_mem _ (List.mem_append_right _ h9)
def rmX7_firstWrong : Room := { frames := 6, cells := 0, slots := 0, locals := 145 }
def fX7_firstWrong_b17 (n : Nat) (r1 : Nat) : Nat → Int32 → Int32 → Int32 → (Nat → Int32) → (Nat → Nat → Int32) → Option (Int32 × mSt)
  | 0, _, _, _, _, _ => none
  | j + 1, a2, a3, a4, I, R =>
    if a3 ≤ a4 then
      some ((-9), I, R)
    else
      if inb (a2 + (3 * a4)) 60 = true then
      if inb ((a2 + (3 * a4)) + 1) 60 = true then
      if inb ((a2 + (3 * a4)) + 2) 60 = true then
      (fX7_acts n (getA R (1001 + 10 * r1) (a2 + (3 * a4))) (getA R (1001 + 10 * r1) ((a2 + (3 * a4)) + 1)) (getA R (1001 + 10 * r1) ((a2 + (3 * a4)) + 2)) I R).bind fun z6 =>
      if z6.1 = 0 then
        some (a4, z6.2.1, z6.2.2)
      else
        fX7_firstWrong_b17 n r1 j a2 a3 (a4 + 1) z6.2.1 z6.2.2
      else none
      else none
      else none
set_option maxRecDepth 20000 in
set_option maxHeartbeats 2000000 in
theorem fX7_firstWrong_b17_w {p : Program} {l : Launch} {e : Env} {s : State} {m : MethodId} {args : Array Value} {below : List Frame} {meth : Method} {c : Code} {D : va_G} {y : ClassId} {yS : ClassId × ClassId} {q : Nat → Nat} {n : Nat} {z : Int32 × mSt} {r1 : Nat} (hr1 : r1 < 4) (X : cX p s m args c cX7_firstWrong 6 wsX7_firstWrong RX7 D y yS) (hr : meth.sig.returnType = some .int ∧ meth.locks = false) : ∀ (j : Nat) (a2 : Int32) (a3 : Int32) (a4 : Int32) (I : Nat → Int32) (R : Nat → Nat → Int32) (H : Heap) (locs : List Loc) (ls : Array Slot), cH s D y yS q H locs I R → lv_has ls 6 [(0, .ref (q 0)), (1, .ref (q (1000 + 10 * r1))), (2, .int a2), (3, .int a3), (4, .int a4)] → fX7_firstWrong_b17 n r1 j a2 a3 a4 I R = some z → W p l e rmX7_firstWrong s m args below meth c H locs 0 0 (MQ below (cQi D y yS q (cS y yS q s.heap.size) z) args s 0 0 (cS y yS q s.heap.size)) (F0 m 17 ls []) := by
  have hx := X.1.1
  have hb := X.1.2.1
  intro j
  induction j with
  | zero =>
    intro a2 a3 a4 I R H locs ls w hl e0
    cases e0
  | succ j ih =>
    intro a2 a3 a4 I R H locs ls w hl e0
    rw [fX7_firstWrong_b17] at e0
    refine lv_iload hx hb dX7_firstWrong_17 (lv_at hl 4 rfl) ?_
    refine lv_iload_n hx hb dX7_firstWrong_19 rfl (lv_at hl 3 rfl) ?_
    refine lv_icmp_ge (tgt := 72) hx hb dX7_firstWrong_20 (by decide) (fun c9 => ?_) (fun c9 => ?_)
    · have e0 := itp _ c9 e0
      refine lv_bipush (v := (-9)) hx hb dX7_firstWrong_72 (by decide) ?_
      have e0 := Option.some.inj e0
      subst e0
      exact c_iret X w hr dX7_firstWrong_74
    · have e0 := itn _ c9 e0
      refine lv_iload_n hx hb dX7_firstWrong_23 rfl (lv_at hl 2 rfl) ?_
      refine lv_iconst (v := 3) hx hb dX7_firstWrong_24 (by decide) ?_
      refine lv_iload hx hb dX7_firstWrong_25 (lv_at hl 4 rfl) ?_
      refine lv_imul hx hb dX7_firstWrong_27 ?_
      refine lv_iadd hx hb dX7_firstWrong_28 ?_
      refine lv_istore (lv' := [(5, .int (a2 + (3 * a4))), (0, .ref (q 0)), (1, .ref (q (1000 + 10 * r1))), (2, .int a2), (3, .int a3), (4, .int a4)]) hx hb dX7_firstWrong_29 hl (by decide) rfl (fun ls hl => ?_)
      refine lv_aload_n hx hb dX7_firstWrong_31 rfl (lv_at hl 1 rfl) ?_
      refine lv_aload_n hx hb dX7_firstWrong_32 rfl (lv_at hl 2 rfl) ?_
      refine c_get X w (cat_SH _ _ _ _ _ r1 hr1) rfl in_X7_firstWrong_X4 0 (by decide) (index := 218) rfl (by decide +kernel) (cf_SH_0 _ _ _) dX7_firstWrong_33 ?_
      refine lv_iload hx hb dX7_firstWrong_36 (lv_at hl 0 rfl) ?_
      refine gd e0 (fun g3 e0 => ?_)
      refine c_ald X w (cat_a1001 _ _ _ _ _ r1 hr1) g3 dX7_firstWrong_38 ?_
      refine lv_aload_n hx hb dX7_firstWrong_39 rfl (lv_at hl 2 rfl) ?_
      refine c_get X w (cat_SH _ _ _ _ _ r1 hr1) rfl in_X7_firstWrong_X4 0 (by decide) (index := 218) rfl (by decide +kernel) (cf_SH_0 _ _ _) dX7_firstWrong_40 ?_
      refine lv_iload hx hb dX7_firstWrong_43 (lv_at hl 0 rfl) ?_
      refine lv_iconst (v := 1) hx hb dX7_firstWrong_45 (by decide) ?_
      refine lv_iadd hx hb dX7_firstWrong_46 ?_
      refine gd e0 (fun g4 e0 => ?_)
      refine c_ald X w (cat_a1001 _ _ _ _ _ r1 hr1) g4 dX7_firstWrong_47 ?_
      refine lv_aload_n hx hb dX7_firstWrong_48 rfl (lv_at hl 2 rfl) ?_
      refine c_get X w (cat_SH _ _ _ _ _ r1 hr1) rfl in_X7_firstWrong_X4 0 (by decide) (index := 218) rfl (by decide +kernel) (cf_SH_0 _ _ _) dX7_firstWrong_49 ?_
      refine lv_iload hx hb dX7_firstWrong_52 (lv_at hl 0 rfl) ?_
      refine lv_iconst (v := 2) hx hb dX7_firstWrong_54 (by decide) ?_
      refine lv_iadd hx hb dX7_firstWrong_55 ?_
      refine gd e0 (fun g5 e0 => ?_)
      refine c_ald X w (cat_a1001 _ _ _ _ _ r1 hr1) g5 dX7_firstWrong_56 ?_
      refine bd e0 (fun z6 e7 e0 => ?_)
      refine c_calli X w (c_rec X w (cat_RR _ _ _ _ _) rfl) (n := 3) (As := [.int (getA R (1001 + 10 * r1) (a2 + (3 * a4))), .int (getA R (1001 + 10 * r1) ((a2 + (3 * a4)) + 1)), .int (getA R (1001 + 10 * r1) ((a2 + (3 * a4)) + 2))]) (rest := []) (fX7_acts_met l _ _ _ _ _ _ _ _ _ _ _ _ e7) gX7_firstWrong_X7_acts rfl rfl rfl (by decide +kernel) ⟨Nat.le_of_ble_eq_true rfl, Nat.le_of_ble_eq_true rfl⟩ rfl hl.1 rfl (Nat.le_of_ble_eq_true rfl) dX7_firstWrong_57 (fun H locs w => ?_)
      refine lv_if_ne (tgt := 66) hx hb dX7_firstWrong_60 (by decide) (fun c8 => ?_) (fun c8 => ?_)
      · have e0 := itn _ c8 e0
        refine lv_iinc (v := (a4 + 1)) (lv' := [(4, .int (a4 + 1)), (5, .int (a2 + (3 * a4))), (0, .ref (q 0)), (1, .ref (q (1000 + 10 * r1))), (2, .int a2), (3, .int a3)]) hx hb dX7_firstWrong_66 hl (k := 5) rfl rfl (by decide) rfl (fun ls hl => ?_)
        refine lv_goto (tgt := 17) hx hb dX7_firstWrong_69 (by decide) ?_
        exact ih _ _ _ _ _ _ _ _ w (lv_sub hl [2, 3, 4, 5, 0] rfl) e0
      · have e0 := itp _ c8 e0
        refine lv_iload hx hb dX7_firstWrong_63 (lv_at hl 5 rfl) ?_
        have e0 := Option.some.inj e0
        subst e0
        exact c_iret X w hr dX7_firstWrong_65
def fX7_firstWrong (n : Nat) (r1 : Nat) (a2 : Int32) (a3 : Int32) (I : Nat → Int32) (R : Nat → Nat → Int32) : Option (Int32 × mSt) :=
  (fX6_take n 1 0 I R).bind fun z1 =>
  fX7_firstWrong_b17 n r1 n a2 a3 0 z1.1 z1.2
set_option maxRecDepth 20000 in
set_option maxHeartbeats 2000000 in
theorem fX7_firstWrong_w {p : Program} {l : Launch} {e : Env} {s : State} {m : MethodId} {args : Array Value} {below : List Frame} {meth : Method} {c : Code} {D : va_G} {y : ClassId} {yS : ClassId × ClassId} {q : Nat → Nat} {n : Nat} {z : Int32 × mSt} {r1 : Nat} (hr1 : r1 < 4) (X : cX p s m args c cX7_firstWrong 6 wsX7_firstWrong RX7 D y yS) (hr : meth.sig.returnType = some .int ∧ meth.locks = false) {a2 : Int32} {a3 : Int32} {I : Nat → Int32} {R : Nat → Nat → Int32} {H : Heap} {locs : List Loc} {ls : Array Slot} (w : cH s D y yS q H locs I R) (hl : lv_has ls 6 [(0, .ref (q 0)), (1, .ref (q (1000 + 10 * r1))), (2, .int a2), (3, .int a3)]) (e0 : fX7_firstWrong n r1 a2 a3 I R = some z) : W p l e rmX7_firstWrong s m args below meth c H locs 0 0 (MQ below (cQi D y yS q (cS y yS q s.heap.size) z) args s 0 0 (cS y yS q s.heap.size)) (F0 m 0 ls []) := by
  have hx := X.1.1
  have hb := X.1.2.1
  unfold fX7_firstWrong at e0
  refine lv_aload_n hx hb dX7_firstWrong_0 rfl (lv_at hl 0 rfl) ?_
  refine c_get X w (cat_RR _ _ _ _ _) rfl in_X7_firstWrong_X7 2 (by decide) (index := 25) rfl (by decide +kernel) (cf_RR_2 _ _) dX7_firstWrong_1 ?_
  refine lv_aload_n hx hb dX7_firstWrong_4 rfl (lv_at hl 0 rfl) ?_
  refine c_get X w (cat_RR _ _ _ _ _) rfl in_X7_firstWrong_X7 1 (by decide) (index := 21) rfl (by decide +kernel) (cf_RR_1 _ _) dX7_firstWrong_5 ?_
  refine c_get X w (cat_WO _ _ _ _ _ 0 (by decide)) rfl in_X7_firstWrong_X6 0 (by decide) (index := 68) rfl (by decide +kernel) (cf_WO_0 _ _ _) dX7_firstWrong_8 ?_
  refine bd e0 (fun z1 e2 e0 => ?_)
  refine c_callv X w (c_rec X w (cat_WO _ _ _ _ _ 1 (by decide)) rfl) (n := 1) (As := [.ref (q (110 + 100 * 0))]) (rest := []) (fX6_take_met l _ _ _ _ _ _ _ (by decide) _ (by decide)  _ _ _ e2) gX7_firstWrong_X6_take rfl rfl rfl (by decide +kernel) ⟨Nat.le_of_ble_eq_true rfl, Nat.le_of_ble_eq_true rfl⟩ rfl hl.1 rfl (Nat.le_of_ble_eq_true rfl) dX7_firstWrong_11 (fun H locs w => ?_)
  refine lv_iconst (v := 0) hx hb dX7_firstWrong_14 (by decide) ?_
  refine lv_istore (lv' := [(4, .int 0), (0, .ref (q 0)), (1, .ref (q (1000 + 10 * r1))), (2, .int a2), (3, .int a3)]) hx hb dX7_firstWrong_15 hl (by decide) rfl (fun ls hl => ?_)
  exact fX7_firstWrong_b17_w (l := l) hr1 X hr n _ _ _ _ _ _ _ _ w (lv_sub hl [1, 2, 3, 4, 0] rfl) e0
set_option maxRecDepth 20000 in
theorem fX7_firstWrong_met (l : Launch) (D : va_G) (y : ClassId) (yS : ClassId × ClassId) (q : Nat → Nat) (sz n : Nat) (r1 : Nat) (hr1 : r1 < 4) (a2 : Int32) (a3 : Int32) (I : Nat → Int32) (R : Nat → Nat → Int32) (z : Int32 × mSt) (e0 : fX7_firstWrong n r1 a2 a3 I R = some z) : Met l yX7_firstWrong wsX7_firstWrong rmX7_firstWrong (va_Pc [.ref (q 0), .ref (q (1000 + 10 * r1)), .int a2, .int a3] (cPre D y yS q sz I R)) (cQi D y yS q (cS y yS q sz) z) 0 0 (cS y yS q sz) := by
  refine Met.ofW (cc := cX7_firstWrong) (maxL := 6) (ret := some .int) (by decide) rfl ?_
  intro p e s m args below meth c s₁ B hml hv
  obtain ⟨rfl, hsz, hP, hK, hN, hD⟩ := hv
  subst hsz
  have hl := lv_entry ([.ref (q 0), .ref (q (1000 + 10 * r1)), .int a2, .int a3]) (n := 6) (Nat.le_of_ble_eq_true rfl)
  rw [lg_entry_eq]
  exact fX7_firstWrong_w (s := s) hr1 ⟨⟨B.exec, B.bytes, hml, findClass_of_methodNamed B.named, atoms_spec (ws := wsX7_firstWrong) B.pre⟩, hK, hN⟩ ⟨B.returns, B.notSynchronized⟩ ⟨hP, cS_D hD, va_S.rf⟩ hl e0
theorem in_X7_heldInDraft_X7 : ∀ w ∈ wsX70, w ∈ wsX7_heldInDraft := fun _ h9 => List.mem_cons_of_mem _ (List.mem_append_left _ (List.mem_append_left _ (List.mem_append_left _ (List.mem_append_right _ h9))))
theorem in_X7_heldInDraft_X6 : ∀ w ∈ wsX60, w ∈ wsX7_heldInDraft := fun _ h9 => List.mem_cons_of_mem _ (List.mem_append_left _ (List.mem_append_left _ (List.mem_append_right _ h9)))
theorem in_X7_heldInDraft_X2 : ∀ w ∈ wsX20, w ∈ wsX7_heldInDraft := fun _ h9 => List.mem_cons_of_mem _ (List.mem_append_left _ (List.mem_append_right _ h9))
theorem in_X7_heldInDraft_X3 : ∀ w ∈ wsX30, w ∈ wsX7_heldInDraft := fun _ h9 => List.mem_cons_of_mem _ (List.mem_append_right _ h9)
def rmX7_heldInDraft : Room := { frames := 1, cells := 0, slots := 0, locals := 20 }
def fX7_heldInDraft (n : Nat) (a1 : Int32) (I : Nat → Int32) (R : Nat → Nat → Int32) : Option (Int32 × mSt) :=
  if a1 < 0 then
    some ((-9), I, R)
  else
    if (I (118 + 100 * 1)) ≤ a1 then
      some ((-9), I, R)
    else
      if inb a1 4 = true then
      (fJ6_bitCount_0f7a4 n (getA R (143 + 100 * 1) a1)).bind fun z2 =>
      some (z2, I, R)
      else none
set_option maxRecDepth 20000 in
set_option maxHeartbeats 2000000 in
theorem fX7_heldInDraft_w {p : Program} {l : Launch} {e : Env} {s : State} {m : MethodId} {args : Array Value} {below : List Frame} {meth : Method} {c : Code} {D : va_G} {y : ClassId} {yS : ClassId × ClassId} {q : Nat → Nat} {n : Nat} {z : Int32 × mSt} (X : cX p s m args c cX7_heldInDraft 2 wsX7_heldInDraft RX7 D y yS) (hr : meth.sig.returnType = some .int ∧ meth.locks = false) {a1 : Int32} {I : Nat → Int32} {R : Nat → Nat → Int32} {H : Heap} {locs : List Loc} {ls : Array Slot} (w : cH s D y yS q H locs I R) (hl : lv_has ls 2 [(0, .ref (q 0)), (1, .int a1)]) (e0 : fX7_heldInDraft n a1 I R = some z) : W p l e rmX7_heldInDraft s m args below meth c H locs 0 0 (MQ below (cQi D y yS q (cS y yS q s.heap.size) z) args s 0 0 (cS y yS q s.heap.size)) (F0 m 0 ls []) := by
  have hx := X.1.1
  have hb := X.1.2.1
  unfold fX7_heldInDraft at e0
  refine lv_iload_n hx hb dX7_heldInDraft_0 rfl (lv_at hl 1 rfl) ?_
  refine lv_if_lt (tgt := 36) hx hb dX7_heldInDraft_1 (by decide) (fun c5 => ?_) (fun c5 => ?_)
  · have e0 := itp _ c5 e0
    refine lv_bipush (v := (-9)) hx hb dX7_heldInDraft_36 (by decide) ?_
    have e0 := Option.some.inj e0
    subst e0
    exact c_iret X w hr dX7_heldInDraft_38
  · have e0 := itn _ c5 e0
    refine lv_iload_n hx hb dX7_heldInDraft_4 rfl (lv_at hl 1 rfl) ?_
    refine lv_aload_n hx hb dX7_heldInDraft_5 rfl (lv_at hl 0 rfl) ?_
    refine c_get X w (cat_RR _ _ _ _ _) rfl in_X7_heldInDraft_X7 2 (by decide) (index := 25) rfl (by decide +kernel) (cf_RR_2 _ _) dX7_heldInDraft_6 ?_
    refine c_get X w (cat_WO _ _ _ _ _ 1 (by decide)) rfl in_X7_heldInDraft_X6 0 (by decide) (index := 68) rfl (by decide +kernel) (cf_WO_0 _ _ _) dX7_heldInDraft_9 ?_
    refine c_get X w (cat_PR _ _ _ _ _ 1 (by decide)) rfl in_X7_heldInDraft_X2 7 (by decide) (index := 236) rfl (by decide +kernel) (cf_PR_7 _ _ _) dX7_heldInDraft_12 ?_
    refine lv_icmp_ge (tgt := 36) hx hb dX7_heldInDraft_15 (by decide) (fun c4 => ?_) (fun c4 => ?_)
    · have e0 := itp _ c4 e0
      refine lv_bipush (v := (-9)) hx hb dX7_heldInDraft_36 (by decide) ?_
      have e0 := Option.some.inj e0
      subst e0
      exact c_iret X w hr dX7_heldInDraft_38
    · have e0 := itn _ c4 e0
      refine lv_aload_n hx hb dX7_heldInDraft_18 rfl (lv_at hl 0 rfl) ?_
      refine c_get X w (cat_RR _ _ _ _ _) rfl in_X7_heldInDraft_X7 2 (by decide) (index := 25) rfl (by decide +kernel) (cf_RR_2 _ _) dX7_heldInDraft_19 ?_
      refine c_get X w (cat_WO _ _ _ _ _ 1 (by decide)) rfl in_X7_heldInDraft_X6 2 (by decide) (index := 141) rfl (by decide +kernel) (cf_WO_2 _ _ _) dX7_heldInDraft_22 ?_
      refine c_get X w (cat_RO _ _ _ _ _ 1 (by decide)) rfl in_X7_heldInDraft_X3 2 (by decide) (index := 145) rfl (by decide +kernel) (cf_RO_2 _ _ _) dX7_heldInDraft_25 ?_
      refine lv_iload_n hx hb dX7_heldInDraft_28 rfl (lv_at hl 1 rfl) ?_
      refine gd e0 (fun g1 e0 => ?_)
      refine c_ald X w (cat_a143 _ _ _ _ _ 1 (by decide)) g1 dX7_heldInDraft_29 ?_
      refine bd e0 (fun z2 e3 e0 => ?_)
      refine c_callsi X w (n := 1) (As := [.int (getA R (143 + 100 * 1) a1)]) (rest := []) (fJ6_bitCount_0f7a4_met l _ _ _ e3) gX7_heldInDraft_J6_bitCount_0f7a4 rfl rfl rfl (by decide +kernel) ⟨Nat.le_of_ble_eq_true rfl, Nat.le_of_ble_eq_true rfl⟩ rfl hl.1 rfl (Nat.le_of_ble_eq_true rfl) dX7_heldInDraft_30 (fun H locs w => ?_)
      refine lv_goto (tgt := 38) hx hb dX7_heldInDraft_33 (by decide) ?_
      have e0 := Option.some.inj e0
      subst e0
      exact c_iret X w hr dX7_heldInDraft_38
set_option maxRecDepth 20000 in
theorem fX7_heldInDraft_met (l : Launch) (D : va_G) (y : ClassId) (yS : ClassId × ClassId) (q : Nat → Nat) (sz n : Nat) (a1 : Int32) (I : Nat → Int32) (R : Nat → Nat → Int32) (z : Int32 × mSt) (e0 : fX7_heldInDraft n a1 I R = some z) : Met l yX7_heldInDraft wsX7_heldInDraft rmX7_heldInDraft (va_Pc [.ref (q 0), .int a1] (cPre D y yS q sz I R)) (cQi D y yS q (cS y yS q sz) z) 0 0 (cS y yS q sz) := by
  refine Met.ofW (cc := cX7_heldInDraft) (maxL := 2) (ret := some .int) (by decide) rfl ?_
  intro p e s m args below meth c s₁ B hml hv
  obtain ⟨rfl, hsz, hP, hK, hN, hD⟩ := hv
  subst hsz
  have hl := lv_entry ([.ref (q 0), .int a1]) (n := 2) (Nat.le_of_ble_eq_true rfl)
  rw [lg_entry_eq]
  exact fX7_heldInDraft_w (s := s) ⟨⟨B.exec, B.bytes, hml, findClass_of_methodNamed B.named, atoms_spec (ws := wsX7_heldInDraft) B.pre⟩, hK, hN⟩ ⟨B.returns, B.notSynchronized⟩ ⟨hP, cS_D hD, va_S.rf⟩ hl e0
theorem in_X7_ofDraft_X7 : ∀ w ∈ wsX70, w ∈ wsX7_ofDraft := fun _ h9 => List.mem_cons_of_mem _ (List.mem_append_left _ (List.mem_append_left _ (List.mem_append_left _ (List.mem_append_left _ (List.mem_append_right _ h9)))))
theorem in_X7_ofDraft_X6 : ∀ w ∈ wsX60, w ∈ wsX7_ofDraft := fun _ h9 => List.mem_cons_of_mem _ (List.mem_append_left _ (List.mem_append_left _ (List.mem_append_left _ (List.mem_append_right _ h9))))
theorem in_X7_ofDraft_X3 : ∀ w ∈ wsX30, w ∈ wsX7_ofDraft := fun _ h9 => List.mem_cons_of_mem _ (List.mem_append_left _ (List.mem_append_left _ (List.mem_append_right _ h9)))
theorem in_X7_ofDraft_X0 : ∀ w ∈ wsX00, w ∈ wsX7_ofDraft := fun _ h9 => List.mem_cons_of_mem _ (List.mem_append_left _ (List.mem_append_right _ h9))
theorem in_X7_ofDraft_X2 : ∀ w ∈ wsX20, w ∈ wsX7_ofDraft := fun _ h9 => List.mem_cons_of_mem _ (List.mem_append_right _ h9)
def rmX7_ofDraft : Room := { frames := 2, cells := 0, slots := 0, locals := 53 }
def fX7_ofDraft (n : Nat) (a1 : Int32) (I : Nat → Int32) (R : Nat → Nat → Int32) : Option (Int32 × mSt) :=
  if a1 = 0 then
    (fX3_held n 1 I R).bind fun z14 =>
    some (z14.1, z14.2.1, z14.2.2)
  else
    if a1 = 1 then
      (fX7_heldInDraft n (a1 - 10) I R).bind fun z12 =>
      some (z12.1, z12.2.1, z12.2.2)
    else
      if a1 = 2 then
        some ((I (146 + 100 * 1)), I, R)
      else
        if a1 = 3 then
          (fX0_greatest n 1 I R).bind fun z10 =>
          some (z10.1, z10.2.1, z10.2.2)
        else
          if a1 = 4 then
            (fX2_toldCount n 1 I R).bind fun z8 =>
            some (z8.1, z8.2.1, z8.2.2)
          else
            (fX7_heldInDraft n (a1 - 10) I R).bind fun z6 =>
            some (z6.1, z6.2.1, z6.2.2)
set_option maxRecDepth 20000 in
set_option maxHeartbeats 2000000 in
theorem fX7_ofDraft_w {p : Program} {l : Launch} {e : Env} {s : State} {m : MethodId} {args : Array Value} {below : List Frame} {meth : Method} {c : Code} {D : va_G} {y : ClassId} {yS : ClassId × ClassId} {q : Nat → Nat} {n : Nat} {z : Int32 × mSt} (X : cX p s m args c cX7_ofDraft 2 wsX7_ofDraft RX7 D y yS) (hr : meth.sig.returnType = some .int ∧ meth.locks = false) {a1 : Int32} {I : Nat → Int32} {R : Nat → Nat → Int32} {H : Heap} {locs : List Loc} {ls : Array Slot} (w : cH s D y yS q H locs I R) (hl : lv_has ls 2 [(0, .ref (q 0)), (1, .int a1)]) (e0 : fX7_ofDraft n a1 I R = some z) : W p l e rmX7_ofDraft s m args below meth c H locs 0 0 (MQ below (cQi D y yS q (cS y yS q s.heap.size) z) args s 0 0 (cS y yS q s.heap.size)) (F0 m 0 ls []) := by
  have hx := X.1.1
  have hb := X.1.2.1
  unfold fX7_ofDraft at e0
  refine lv_iload_n hx hb dX7_ofDraft_0 rfl (lv_at hl 1 rfl) ?_
  by_cases c1 : a1 = 0
  · have e0 := itp _ c1 e0
    refine lv_tableIn (off := 35) (tgt := 36) hx hb dX7_ofDraft_1 (by rw [c1]; decide) (by rw [c1]; decide) (by rw [c1]; decide) (by decide) ?_
    refine lv_aload_n hx hb dX7_ofDraft_36 rfl (lv_at hl 0 rfl) ?_
    refine c_get X w (cat_RR _ _ _ _ _) rfl in_X7_ofDraft_X7 2 (by decide) (index := 25) rfl (by decide +kernel) (cf_RR_2 _ _) dX7_ofDraft_37 ?_
    refine c_get X w (cat_WO _ _ _ _ _ 1 (by decide)) rfl in_X7_ofDraft_X6 2 (by decide) (index := 141) rfl (by decide +kernel) (cf_WO_2 _ _ _) dX7_ofDraft_40 ?_
    refine bd e0 (fun z14 e15 e0 => ?_)
    refine c_calli X w (c_rec X w (cat_RO _ _ _ _ _ 1 (by decide)) rfl) (n := 0) (As := []) (rest := []) (fX3_held_met l _ _ _ _ _ _ _ (by decide)  _ _ _ e15) gX7_ofDraft_X3_held rfl rfl rfl (by decide +kernel) ⟨Nat.le_of_ble_eq_true rfl, Nat.le_of_ble_eq_true rfl⟩ rfl hl.1 rfl (Nat.le_of_ble_eq_true rfl) dX7_ofDraft_43 (fun H locs w => ?_)
    have e0 := Option.some.inj e0
    subst e0
    exact c_iret X w hr dX7_ofDraft_46
  · have e0 := itn _ c1 e0
    by_cases c2 : a1 = 1
    · have e0 := itp _ c2 e0
      refine lv_tableIn (off := 79) (tgt := 80) hx hb dX7_ofDraft_1 (by rw [c2]; decide) (by rw [c2]; decide) (by rw [c2]; decide) (by decide) ?_
      refine lv_aload_n hx hb dX7_ofDraft_80 rfl (lv_at hl 0 rfl) ?_
      refine lv_iload_n hx hb dX7_ofDraft_81 rfl (lv_at hl 1 rfl) ?_
      refine lv_bipush (v := 10) hx hb dX7_ofDraft_82 (by decide) ?_
      refine lv_isub hx hb dX7_ofDraft_84 ?_
      refine bd e0 (fun z12 e13 e0 => ?_)
      refine c_calli X w (c_rec X w (cat_RR _ _ _ _ _) rfl) (n := 1) (As := [.int (a1 - 10)]) (rest := []) (fX7_heldInDraft_met l _ _ _ _ _ _ _ _ _ _ e13) gX7_ofDraft_X7_heldInDraft rfl rfl rfl (by decide +kernel) ⟨Nat.le_of_ble_eq_true rfl, Nat.le_of_ble_eq_true rfl⟩ rfl hl.1 rfl (Nat.le_of_ble_eq_true rfl) dX7_ofDraft_85 (fun H locs w => ?_)
      have e0 := Option.some.inj e0
      subst e0
      exact c_iret X w hr dX7_ofDraft_88
    · have e0 := itn _ c2 e0
      by_cases c3 : a1 = 2
      · have e0 := itp _ c3 e0
        refine lv_tableIn (off := 46) (tgt := 47) hx hb dX7_ofDraft_1 (by rw [c3]; decide) (by rw [c3]; decide) (by rw [c3]; decide) (by decide) ?_
        refine lv_aload_n hx hb dX7_ofDraft_47 rfl (lv_at hl 0 rfl) ?_
        refine c_get X w (cat_RR _ _ _ _ _) rfl in_X7_ofDraft_X7 2 (by decide) (index := 25) rfl (by decide +kernel) (cf_RR_2 _ _) dX7_ofDraft_48 ?_
        refine c_get X w (cat_WO _ _ _ _ _ 1 (by decide)) rfl in_X7_ofDraft_X6 2 (by decide) (index := 141) rfl (by decide +kernel) (cf_WO_2 _ _ _) dX7_ofDraft_51 ?_
        refine c_get X w (cat_RO _ _ _ _ _ 1 (by decide)) rfl in_X7_ofDraft_X3 5 (by decide) (index := 224) rfl (by decide +kernel) (cf_RO_5 _ _ _) dX7_ofDraft_54 ?_
        have e0 := Option.some.inj e0
        subst e0
        exact c_iret X w hr dX7_ofDraft_57
      · have e0 := itn _ c3 e0
        by_cases c4 : a1 = 3
        · have e0 := itp _ c4 e0
          refine lv_tableIn (off := 57) (tgt := 58) hx hb dX7_ofDraft_1 (by rw [c4]; decide) (by rw [c4]; decide) (by rw [c4]; decide) (by decide) ?_
          refine lv_aload_n hx hb dX7_ofDraft_58 rfl (lv_at hl 0 rfl) ?_
          refine c_get X w (cat_RR _ _ _ _ _) rfl in_X7_ofDraft_X7 2 (by decide) (index := 25) rfl (by decide +kernel) (cf_RR_2 _ _) dX7_ofDraft_59 ?_
          refine c_get X w (cat_WO _ _ _ _ _ 1 (by decide)) rfl in_X7_ofDraft_X6 3 (by decide) (index := 187) rfl (by decide +kernel) (cf_WO_3 _ _ _) dX7_ofDraft_62 ?_
          refine bd e0 (fun z10 e11 e0 => ?_)
          refine c_calli X w (c_rec X w (cat_CO _ _ _ _ _ 1 (by decide)) rfl) (n := 0) (As := []) (rest := []) (fX0_greatest_met l _ _ _ _ _ _ _ (by decide)  _ _ _ e11) gX7_ofDraft_X0_greatest rfl rfl rfl (by decide +kernel) ⟨Nat.le_of_ble_eq_true rfl, Nat.le_of_ble_eq_true rfl⟩ rfl hl.1 rfl (Nat.le_of_ble_eq_true rfl) dX7_ofDraft_65 (fun H locs w => ?_)
          have e0 := Option.some.inj e0
          subst e0
          exact c_iret X w hr dX7_ofDraft_68
        · have e0 := itn _ c4 e0
          by_cases c5 : a1 = 4
          · have e0 := itp _ c5 e0
            refine lv_tableIn (off := 68) (tgt := 69) hx hb dX7_ofDraft_1 (by rw [c5]; decide) (by rw [c5]; decide) (by rw [c5]; decide) (by decide) ?_
            refine lv_aload_n hx hb dX7_ofDraft_69 rfl (lv_at hl 0 rfl) ?_
            refine c_get X w (cat_RR _ _ _ _ _) rfl in_X7_ofDraft_X7 2 (by decide) (index := 25) rfl (by decide +kernel) (cf_RR_2 _ _) dX7_ofDraft_70 ?_
            refine c_get X w (cat_WO _ _ _ _ _ 1 (by decide)) rfl in_X7_ofDraft_X6 0 (by decide) (index := 68) rfl (by decide +kernel) (cf_WO_0 _ _ _) dX7_ofDraft_73 ?_
            refine bd e0 (fun z8 e9 e0 => ?_)
            refine c_calli X w (c_rec X w (cat_PR _ _ _ _ _ 1 (by decide)) rfl) (n := 0) (As := []) (rest := []) (fX2_toldCount_met l _ _ _ _ _ _ _ (by decide)  _ _ _ e9) gX7_ofDraft_X2_toldCount rfl rfl rfl (by decide +kernel) ⟨Nat.le_of_ble_eq_true rfl, Nat.le_of_ble_eq_true rfl⟩ rfl hl.1 rfl (Nat.le_of_ble_eq_true rfl) dX7_ofDraft_76 (fun H locs w => ?_)
            have e0 := Option.some.inj e0
            subst e0
            exact c_iret X w hr dX7_ofDraft_79
          · have e0 := itn _ c5 e0
            refine lv_tableOut (tgt := 80) hx hb dX7_ofDraft_1 (by have hc1 := lv_neT c1 (a := 0) (by decide); have hc2 := lv_neT c2 (a := 1) (by decide); have hc3 := lv_neT c3 (a := 2) (by decide); have hc4 := lv_neT c4 (a := 3) (by decide); have hc5 := lv_neT c5 (a := 4) (by decide); omega) (by decide) ?_
            refine lv_aload_n hx hb dX7_ofDraft_80 rfl (lv_at hl 0 rfl) ?_
            refine lv_iload_n hx hb dX7_ofDraft_81 rfl (lv_at hl 1 rfl) ?_
            refine lv_bipush (v := 10) hx hb dX7_ofDraft_82 (by decide) ?_
            refine lv_isub hx hb dX7_ofDraft_84 ?_
            refine bd e0 (fun z6 e7 e0 => ?_)
            refine c_calli X w (c_rec X w (cat_RR _ _ _ _ _) rfl) (n := 1) (As := [.int (a1 - 10)]) (rest := []) (fX7_heldInDraft_met l _ _ _ _ _ _ _ _ _ _ e7) gX7_ofDraft_X7_heldInDraft rfl rfl rfl (by decide +kernel) ⟨Nat.le_of_ble_eq_true rfl, Nat.le_of_ble_eq_true rfl⟩ rfl hl.1 rfl (Nat.le_of_ble_eq_true rfl) dX7_ofDraft_85 (fun H locs w => ?_)
            have e0 := Option.some.inj e0
            subst e0
            exact c_iret X w hr dX7_ofDraft_88
set_option maxRecDepth 20000 in
theorem fX7_ofDraft_met (l : Launch) (D : va_G) (y : ClassId) (yS : ClassId × ClassId) (q : Nat → Nat) (sz n : Nat) (a1 : Int32) (I : Nat → Int32) (R : Nat → Nat → Int32) (z : Int32 × mSt) (e0 : fX7_ofDraft n a1 I R = some z) : Met l yX7_ofDraft wsX7_ofDraft rmX7_ofDraft (va_Pc [.ref (q 0), .int a1] (cPre D y yS q sz I R)) (cQi D y yS q (cS y yS q sz) z) 0 0 (cS y yS q sz) := by
  refine Met.ofW (cc := cX7_ofDraft) (maxL := 2) (ret := some .int) (by decide) rfl ?_
  intro p e s m args below meth c s₁ B hml hv
  obtain ⟨rfl, hsz, hP, hK, hN, hD⟩ := hv
  subst hsz
  have hl := lv_entry ([.ref (q 0), .int a1]) (n := 2) (Nat.le_of_ble_eq_true rfl)
  rw [lg_entry_eq]
  exact fX7_ofDraft_w (s := s) ⟨⟨B.exec, B.bytes, hml, findClass_of_methodNamed B.named, atoms_spec (ws := wsX7_ofDraft) B.pre⟩, hK, hN⟩ ⟨B.returns, B.notSynchronized⟩ ⟨hP, cS_D hD, va_S.rf⟩ hl e0
theorem in_X7_day_X7 : ∀ w ∈ wsX70, w ∈ wsX7_day := fun _ h9 => List.mem_cons_of_mem _ (List.mem_append_left _ (List.mem_append_left _ (List.mem_append_left _ (List.mem_append_left _ (List.mem_append_left _ (List.mem_append_left _ (List.mem_append_right _ h9)))))))
theorem in_X7_day_X6 : ∀ w ∈ wsX60, w ∈ wsX7_day := fun _ h9 => List.mem_cons_of_mem _ (List.mem_append_left _ (List.mem_append_left _ (List.mem_append_left _ (List.mem_append_left _ (List.mem_append_left _ (List.mem_append_right _ h9))))))
theorem in_X7_day_X4 : ∀ w ∈ wsX40, w ∈ wsX7_day := fun _ h9 => List.mem_cons_of_mem _ (List.mem_append_left _ (List.mem_append_left _ (List.mem_append_left _ (List.mem_append_left _ (List.mem_append_right _ h9)))))
theorem in_X7_day_X2 : ∀ w ∈ wsX20, w ∈ wsX7_day := fun _ h9 => List.mem_cons_of_mem _ (List.mem_append_left _ (List.mem_append_left _ (List.mem_append_left _ (List.mem_append_right _ h9))))
theorem in_X7_day_X1 : ∀ w ∈ wsX10, w ∈ wsX7_day := fun _ h9 => List.mem_cons_of_mem _ (List.mem_append_left _ (List.mem_append_left _ (List.mem_append_right _ h9)))
theorem in_X7_day_X3 : ∀ w ∈ wsX30, w ∈ wsX7_day := fun _ h9 => List.mem_cons_of_mem _ (List.mem_append_left _ (List.mem_append_right _ h9))
theorem in_X7_day_X0 : ∀ w ∈ wsX00, w ∈ wsX7_day := fun _ h9 => List.mem_cons_of_mem _ (List.mem_append_right _ h9)
def rmX7_day : Room := { frames := 7, cells := 0, slots := 0, locals := 170 }
def fX7_day_b81 (n : Nat) (a3 : Int32) (a4 : Int32) (a5 : Int32) (s6 : Nat) (a7 : Int32) (I : Nat → Int32) (R : Nat → Nat → Int32) : Option (Int32 × mSt) :=
  if a7 = 0 then
    (fX2_isThere n 0 I R).bind fun z19 =>
    if z19.1 = 0 then
      some ((-3), z19.2.1, z19.2.2)
    else
      (fX7_areActs n s6 a3 a4 z19.2.1 z19.2.2).bind fun z21 =>
      if z21.1 = 0 then
        some ((-2), z21.2.1, z21.2.2)
      else
        (fX7_firstWrong n s6 a3 a4 z21.2.1 z21.2.2).bind fun z23 =>
        if a5 = 1 then
          some (z23.1, z23.2.1, z23.2.2)
        else
          if z23.1 = (-9) then
            (fX6_settle n 1 z23.2.1 z23.2.2).bind fun z25 =>
            (fX7_ofDraft n a5 z25.1 z25.2).bind fun z27 =>
            some (z27.1, z27.2.1, z27.2.2)
          else
            some (((-100) - z23.1), z23.2.1, z23.2.2)
  else
    (fX7_failed n a7 I R).bind fun z33 =>
    some (z33.1, z33.2.1, z33.2.2)
set_option maxRecDepth 20000 in
set_option maxHeartbeats 2000000 in
theorem fX7_day_b81_w {p : Program} {l : Launch} {e : Env} {s : State} {m : MethodId} {args : Array Value} {below : List Frame} {meth : Method} {c : Code} {D : va_G} {y : ClassId} {yS : ClassId × ClassId} {q : Nat → Nat} {n : Nat} {z : Int32 × mSt} (X : cX p s m args c cX7_day 9 wsX7_day RX7 D y yS) (hr : meth.sig.returnType = some .int ∧ meth.locks = false) {a3 : Int32} {a4 : Int32} {a5 : Int32} {s6 : Nat} {a7 : Int32} {I : Nat → Int32} {R : Nat → Nat → Int32} (hs6 : s6 < 4) {H : Heap} {locs : List Loc} {ls : Array Slot} (w : cH s D y yS q H locs I R) (hl : lv_has ls 9 [(0, .ref (q 0)), (3, .int a3), (4, .int a4), (5, .int a5), (6, .ref (q (1000 + 10 * s6))), (7, .int a7)]) (e0 : fX7_day_b81 n a3 a4 a5 s6 a7 I R = some z) : W p l e rmX7_day s m args below meth c H locs 0 0 (MQ below (cQi D y yS q (cS y yS q s.heap.size) z) args s 0 0 (cS y yS q s.heap.size)) (F0 m 81 ls []) := by
  have hx := X.1.1
  have hb := X.1.2.1
  unfold fX7_day_b81 at e0
  refine lv_iload hx hb dX7_day_81 (lv_at hl 5 rfl) ?_
  refine lv_if_eq (tgt := 93) hx hb dX7_day_83 (by decide) (fun c35 => ?_) (fun c35 => ?_)
  · have e0 := itp _ c35 e0
    refine lv_aload_n hx hb dX7_day_93 rfl (lv_at hl 0 rfl) ?_
    refine c_get X w (cat_RR _ _ _ _ _) rfl in_X7_day_X7 1 (by decide) (index := 21) rfl (by decide +kernel) (cf_RR_1 _ _) dX7_day_94 ?_
    refine c_get X w (cat_WO _ _ _ _ _ 0 (by decide)) rfl in_X7_day_X6 0 (by decide) (index := 68) rfl (by decide +kernel) (cf_WO_0 _ _ _) dX7_day_97 ?_
    refine bd e0 (fun z19 e20 e0 => ?_)
    refine c_calli X w (c_rec X w (cat_PR _ _ _ _ _ 0 (by decide)) rfl) (n := 0) (As := []) (rest := []) (fX2_isThere_met l _ _ _ _ _ _ _ (by decide)  _ _ _ e20) gX7_day_X2_isThere rfl rfl rfl (by decide +kernel) ⟨Nat.le_of_ble_eq_true rfl, Nat.le_of_ble_eq_true rfl⟩ rfl hl.1 rfl (Nat.le_of_ble_eq_true rfl) dX7_day_100 (fun H locs w => ?_)
    refine lv_if_ne (tgt := 109) hx hb dX7_day_103 (by decide) (fun c32 => ?_) (fun c32 => ?_)
    · have e0 := itn _ c32 e0
      refine lv_aload hx hb dX7_day_109 (lv_at hl 4 rfl) ?_
      refine lv_iload_n hx hb dX7_day_111 rfl (lv_at hl 1 rfl) ?_
      refine lv_iload hx hb dX7_day_112 (lv_at hl 2 rfl) ?_
      refine bd e0 (fun z21 e22 e0 => ?_)
      refine c_callwi X w (n := 3) (As := [.ref (q (1000 + 10 * s6)), .int a3, .int a4]) (rest := []) (fX7_areActs_met l _ _ _ _ _ _ _ hs6 _ _ _ _ _ e22) gX7_day_X7_areActs rfl rfl rfl (by decide +kernel) ⟨Nat.le_of_ble_eq_true rfl, Nat.le_of_ble_eq_true rfl⟩ rfl hl.1 rfl (Nat.le_of_ble_eq_true rfl) dX7_day_114 (fun H locs w => ?_)
      refine lv_if_ne (tgt := 123) hx hb dX7_day_117 (by decide) (fun c31 => ?_) (fun c31 => ?_)
      · have e0 := itn _ c31 e0
        refine lv_aload_n hx hb dX7_day_123 rfl (lv_at hl 0 rfl) ?_
        refine lv_aload hx hb dX7_day_124 (lv_at hl 4 rfl) ?_
        refine lv_iload_n hx hb dX7_day_126 rfl (lv_at hl 1 rfl) ?_
        refine lv_iload hx hb dX7_day_127 (lv_at hl 2 rfl) ?_
        refine bd e0 (fun z23 e24 e0 => ?_)
        refine c_calli X w (c_rec X w (cat_RR _ _ _ _ _) rfl) (n := 3) (As := [.ref (q (1000 + 10 * s6)), .int a3, .int a4]) (rest := []) (fX7_firstWrong_met l _ _ _ _ _ _ _ hs6 _ _ _ _ _ e24) gX7_day_X7_firstWrong rfl rfl rfl (by decide +kernel) ⟨Nat.le_of_ble_eq_true rfl, Nat.le_of_ble_eq_true rfl⟩ rfl hl.1 rfl (Nat.le_of_ble_eq_true rfl) dX7_day_129 (fun H locs w => ?_)
        refine lv_istore (lv' := [(8, .int z23.1), (0, .ref (q 0)), (3, .int a3), (4, .int a4), (5, .int a5), (6, .ref (q (1000 + 10 * s6))), (7, .int a7)]) hx hb dX7_day_132 hl (by decide) rfl (fun ls hl => ?_)
        refine lv_iload hx hb dX7_day_134 (lv_at hl 4 rfl) ?_
        refine lv_iconst (v := 1) hx hb dX7_day_136 (by decide) ?_
        refine lv_icmp_ne (tgt := 143) hx hb dX7_day_137 (by decide) (fun c30 => ?_) (fun c30 => ?_)
        · have e0 := itn _ c30 e0
          refine lv_iload hx hb dX7_day_143 (lv_at hl 0 rfl) ?_
          refine lv_bipush (v := (-9)) hx hb dX7_day_145 (by decide) ?_
          refine lv_icmp_eq (tgt := 156) hx hb dX7_day_147 (by decide) (fun c29 => ?_) (fun c29 => ?_)
          · have e0 := itp _ c29 e0
            refine lv_aload_n hx hb dX7_day_156 rfl (lv_at hl 1 rfl) ?_
            refine c_get X w (cat_RR _ _ _ _ _) rfl in_X7_day_X7 2 (by decide) (index := 25) rfl (by decide +kernel) (cf_RR_2 _ _) dX7_day_157 ?_
            refine bd e0 (fun z25 e26 e0 => ?_)
            refine c_callv X w (c_rec X w (cat_WO _ _ _ _ _ 1 (by decide)) rfl) (n := 0) (As := []) (rest := []) (fX6_settle_met l _ _ _ _ _ _ _ (by decide)  _ _ _ e26) gX7_day_X6_settle rfl rfl rfl (by decide +kernel) ⟨Nat.le_of_ble_eq_true rfl, Nat.le_of_ble_eq_true rfl⟩ rfl hl.1 rfl (Nat.le_of_ble_eq_true rfl) dX7_day_160 (fun H locs w => ?_)
            refine lv_aload_n hx hb dX7_day_163 rfl (lv_at hl 1 rfl) ?_
            refine lv_iload hx hb dX7_day_164 (lv_at hl 4 rfl) ?_
            refine bd e0 (fun z27 e28 e0 => ?_)
            refine c_calli X w (c_rec X w (cat_RR _ _ _ _ _) rfl) (n := 1) (As := [.int a5]) (rest := []) (fX7_ofDraft_met l _ _ _ _ _ _ _ _ _ _ e28) gX7_day_X7_ofDraft rfl rfl rfl (by decide +kernel) ⟨Nat.le_of_ble_eq_true rfl, Nat.le_of_ble_eq_true rfl⟩ rfl hl.1 rfl (Nat.le_of_ble_eq_true rfl) dX7_day_166 (fun H locs w => ?_)
            have e0 := Option.some.inj e0
            subst e0
            exact c_iret X w hr dX7_day_169
          · have e0 := itn _ c29 e0
            refine lv_bipush (v := (-100)) hx hb dX7_day_150 (by decide) ?_
            refine lv_iload hx hb dX7_day_152 (lv_at hl 0 rfl) ?_
            refine lv_isub hx hb dX7_day_154 ?_
            have e0 := Option.some.inj e0
            subst e0
            exact c_iret X w hr dX7_day_155
        · have e0 := itp _ c30 e0
          refine lv_iload hx hb dX7_day_140 (lv_at hl 0 rfl) ?_
          have e0 := Option.some.inj e0
          subst e0
          exact c_iret X w hr dX7_day_142
      · have e0 := itp _ c31 e0
        refine lv_bipush (v := (-2)) hx hb dX7_day_120 (by decide) ?_
        have e0 := Option.some.inj e0
        subst e0
        exact c_iret X w hr dX7_day_122
    · have e0 := itp _ c32 e0
      refine lv_bipush (v := (-3)) hx hb dX7_day_106 (by decide) ?_
      have e0 := Option.some.inj e0
      subst e0
      exact c_iret X w hr dX7_day_108
  · have e0 := itn _ c35 e0
    refine lv_aload_n hx hb dX7_day_86 rfl (lv_at hl 0 rfl) ?_
    refine lv_iload hx hb dX7_day_87 (lv_at hl 5 rfl) ?_
    refine bd e0 (fun z33 e34 e0 => ?_)
    refine c_calli X w (c_rec X w (cat_RR _ _ _ _ _) rfl) (n := 1) (As := [.int a7]) (rest := []) (fX7_failed_met l _ _ _ _ _ _ _ _ _ _ e34) gX7_day_X7_failed rfl rfl rfl (by decide +kernel) ⟨Nat.le_of_ble_eq_true rfl, Nat.le_of_ble_eq_true rfl⟩ rfl hl.1 rfl (Nat.le_of_ble_eq_true rfl) dX7_day_89 (fun H locs w => ?_)
    have e0 := Option.some.inj e0
    subst e0
    exact c_iret X w hr dX7_day_92
def fX7_day (n : Nat) (a1 : Int32) (a2 : Int32) (a3 : Int32) (a4 : Int32) (a5 : Int32) (I : Nat → Int32) (R : Nat → Nat → Int32) : Option (Int32 × mSt) :=
  (fX7_isSheet n a1).bind fun z1 =>
  if z1 = 0 then
    some ((-1), (upd I 9 0), R)
  else
    (fX7_isLane n a2).bind fun z3 =>
    if z3 = 0 then
      some ((-2), (upd I 9 0), R)
    else
      if a4 < 0 then
        some ((-2), (upd I 9 0), R)
      else
        if 20 < a4 then
          some ((-2), (upd I 9 0), R)
        else
          (fX7_isAskedOfDay n a5).bind fun z5 =>
          if z5 = 0 then
            some ((-2), (upd I 9 0), R)
          else
            if inb a1 4 = true then
            (fX4_faultAs n (a1.toNatClampNeg) a2 (upd I 9 0) R).bind fun z8 =>
            if z8.1 = 0 then
              (fX4_has n (a1.toNatClampNeg) a3 (3 * a4) z8.2.1 z8.2.2).bind fun z10 =>
              if z10.1 = 0 then
                fX7_day_b81 n a3 a4 a5 a1.toNatClampNeg 3 z10.2.1 z10.2.2
              else
                fX7_day_b81 n a3 a4 a5 a1.toNatClampNeg z8.1 z10.2.1 z10.2.2
            else
              fX7_day_b81 n a3 a4 a5 a1.toNatClampNeg z8.1 z8.2.1 z8.2.2
            else none
set_option maxRecDepth 20000 in
set_option maxHeartbeats 2000000 in
theorem fX7_day_w {p : Program} {l : Launch} {e : Env} {s : State} {m : MethodId} {args : Array Value} {below : List Frame} {meth : Method} {c : Code} {D : va_G} {y : ClassId} {yS : ClassId × ClassId} {q : Nat → Nat} {n : Nat} {z : Int32 × mSt} (X : cX p s m args c cX7_day 9 wsX7_day RX7 D y yS) (hr : meth.sig.returnType = some .int ∧ meth.locks = false) {a1 : Int32} {a2 : Int32} {a3 : Int32} {a4 : Int32} {a5 : Int32} {I : Nat → Int32} {R : Nat → Nat → Int32} {H : Heap} {locs : List Loc} {ls : Array Slot} (w : cH s D y yS q H locs I R) (hl : lv_has ls 9 [(0, .ref (q 0)), (1, .int a1), (2, .int a2), (3, .int a3), (4, .int a4), (5, .int a5)]) (e0 : fX7_day n a1 a2 a3 a4 a5 I R = some z) : W p l e rmX7_day s m args below meth c H locs 0 0 (MQ below (cQi D y yS q (cS y yS q s.heap.size) z) args s 0 0 (cS y yS q s.heap.size)) (F0 m 0 ls []) := by
  have hx := X.1.1
  have hb := X.1.2.1
  unfold fX7_day at e0
  refine lv_aload_n hx hb dX7_day_0 rfl (lv_at hl 0 rfl) ?_
  refine lv_iconst (v := 0) hx hb dX7_day_1 (by decide) ?_
  refine c_put X w (cat_RR _ _ _ _ _) rfl in_X7_day_X7 tyX7 tyX7_ok nmX7 8 (by decide) (index := 42) (ty := .int) rfl (by decide +kernel) rfl (by decide +kernel) rfl rfl (Nat.le_of_ble_eq_true rfl) (cset_RR_8 _ _ _ _ _ _) dX7_day_2 (fun H locs w => ?_)
  refine lv_iload_n hx hb dX7_day_5 rfl (lv_at hl 1 rfl) ?_
  refine bd e0 (fun z1 e2 e0 => ?_)
  refine c_callsi X w (n := 1) (As := [.int a1]) (rest := []) (fX7_isSheet_met l _ _ _ e2) gX7_day_X7_isSheet rfl rfl rfl (by decide +kernel) ⟨Nat.le_of_ble_eq_true rfl, Nat.le_of_ble_eq_true rfl⟩ rfl hl.1 rfl (Nat.le_of_ble_eq_true rfl) dX7_day_6 (fun H locs w => ?_)
  refine lv_if_ne (tgt := 14) hx hb dX7_day_9 (by decide) (fun c18 => ?_) (fun c18 => ?_)
  · have e0 := itn _ c18 e0
    refine lv_iload_n hx hb dX7_day_14 rfl (lv_at hl 2 rfl) ?_
    refine bd e0 (fun z3 e4 e0 => ?_)
    refine c_callsi X w (n := 1) (As := [.int a2]) (rest := []) (fX7_isLane_met l _ _ _ e4) gX7_day_X7_isLane rfl rfl rfl (by decide +kernel) ⟨Nat.le_of_ble_eq_true rfl, Nat.le_of_ble_eq_true rfl⟩ rfl hl.1 rfl (Nat.le_of_ble_eq_true rfl) dX7_day_15 (fun H locs w => ?_)
    refine lv_if_eq (tgt := 41) hx hb dX7_day_18 (by decide) (fun c17 => ?_) (fun c17 => ?_)
    · have e0 := itp _ c17 e0
      refine lv_bipush (v := (-2)) hx hb dX7_day_41 (by decide) ?_
      have e0 := Option.some.inj e0
      subst e0
      exact c_iret X w hr dX7_day_43
    · have e0 := itn _ c17 e0
      refine lv_iload hx hb dX7_day_21 (lv_at hl 4 rfl) ?_
      refine lv_if_lt (tgt := 41) hx hb dX7_day_23 (by decide) (fun c16 => ?_) (fun c16 => ?_)
      · have e0 := itp _ c16 e0
        refine lv_bipush (v := (-2)) hx hb dX7_day_41 (by decide) ?_
        have e0 := Option.some.inj e0
        subst e0
        exact c_iret X w hr dX7_day_43
      · have e0 := itn _ c16 e0
        refine lv_iload hx hb dX7_day_26 (lv_at hl 4 rfl) ?_
        refine lv_bipush (v := 20) hx hb dX7_day_28 (by decide) ?_
        refine lv_icmp_gt (tgt := 41) hx hb dX7_day_30 (by decide) (fun c15 => ?_) (fun c15 => ?_)
        · have e0 := itp _ c15 e0
          refine lv_bipush (v := (-2)) hx hb dX7_day_41 (by decide) ?_
          have e0 := Option.some.inj e0
          subst e0
          exact c_iret X w hr dX7_day_43
        · have e0 := itn _ c15 e0
          refine lv_iload hx hb dX7_day_33 (lv_at hl 5 rfl) ?_
          refine bd e0 (fun z5 e6 e0 => ?_)
          refine c_callsi X w (n := 1) (As := [.int a5]) (rest := []) (fX7_isAskedOfDay_met l _ _ _ e6) gX7_day_X7_isAskedOfDay rfl rfl rfl (by decide +kernel) ⟨Nat.le_of_ble_eq_true rfl, Nat.le_of_ble_eq_true rfl⟩ rfl hl.1 rfl (Nat.le_of_ble_eq_true rfl) dX7_day_35 (fun H locs w => ?_)
          refine lv_if_ne (tgt := 44) hx hb dX7_day_38 (by decide) (fun c14 => ?_) (fun c14 => ?_)
          · have e0 := itn _ c14 e0
            refine lv_aload_n hx hb dX7_day_44 rfl (lv_at hl 0 rfl) ?_
            refine c_get X w (cat_RR _ _ _ _ _) rfl in_X7_day_X7 0 (by decide) (index := 13) rfl (by decide +kernel) (cf_RR_0 _ _) dX7_day_45 ?_
            refine lv_iload_n hx hb dX7_day_48 rfl (lv_at hl 1 rfl) ?_
            refine gd e0 (fun g7 e0 => ?_)
            refine c_shs X w g7 dX7_day_49 ?_
            refine lv_astore (lv' := [(6, .ref (q (1000 + 10 * a1.toNatClampNeg))), (0, .ref (q 0)), (1, .int a1), (2, .int a2), (3, .int a3), (4, .int a4), (5, .int a5)]) hx hb dX7_day_50 hl (by decide) rfl (fun ls hl => ?_)
            refine lv_aload hx hb dX7_day_52 (lv_at hl 0 rfl) ?_
            refine lv_iload_n hx hb dX7_day_54 rfl (lv_at hl 3 rfl) ?_
            refine bd e0 (fun z8 e9 e0 => ?_)
            refine c_calli X w (c_rec X w (cat_SH _ _ _ _ _ a1.toNatClampNeg (inb_lt g7)) rfl) (n := 1) (As := [.int a2]) (rest := []) (fX4_faultAs_met l _ _ _ _ _ _ _ (inb_lt g7) _ _ _ _ e9) gX7_day_X4_faultAs rfl rfl rfl (by decide +kernel) ⟨Nat.le_of_ble_eq_true rfl, Nat.le_of_ble_eq_true rfl⟩ rfl hl.1 rfl (Nat.le_of_ble_eq_true rfl) dX7_day_55 (fun H locs w => ?_)
            refine lv_istore (lv' := [(7, .int z8.1), (6, .ref (q (1000 + 10 * a1.toNatClampNeg))), (0, .ref (q 0)), (1, .int a1), (2, .int a2), (3, .int a3), (4, .int a4), (5, .int a5)]) hx hb dX7_day_58 hl (by decide) rfl (fun ls hl => ?_)
            refine lv_iload hx hb dX7_day_60 (lv_at hl 0 rfl) ?_
            refine lv_if_ne (tgt := 81) hx hb dX7_day_62 (by decide) (fun c13 => ?_) (fun c13 => ?_)
            · have e0 := itn _ c13 e0
              exact fX7_day_b81_w (l := l) X hr (inb_lt g7) w (lv_sub hl [2, 5, 6, 7, 1, 0] rfl) e0
            · have e0 := itp _ c13 e0
              refine lv_aload hx hb dX7_day_65 (lv_at hl 1 rfl) ?_
              refine lv_iload_n hx hb dX7_day_67 rfl (lv_at hl 5 rfl) ?_
              refine lv_iconst (v := 3) hx hb dX7_day_68 (by decide) ?_
              refine lv_iload hx hb dX7_day_69 (lv_at hl 6 rfl) ?_
              refine lv_imul hx hb dX7_day_71 ?_
              refine bd e0 (fun z10 e11 e0 => ?_)
              refine c_calli X w (c_rec X w (cat_SH _ _ _ _ _ a1.toNatClampNeg (inb_lt g7)) rfl) (n := 2) (As := [.int a3, .int (3 * a4)]) (rest := []) (fX4_has_met l _ _ _ _ _ _ _ (inb_lt g7) _ _ _ _ _ e11) gX7_day_X4_has rfl rfl rfl (by decide +kernel) ⟨Nat.le_of_ble_eq_true rfl, Nat.le_of_ble_eq_true rfl⟩ rfl hl.1 rfl (Nat.le_of_ble_eq_true rfl) dX7_day_72 (fun H locs w => ?_)
              refine lv_if_ne (tgt := 81) hx hb dX7_day_75 (by decide) (fun c12 => ?_) (fun c12 => ?_)
              · have e0 := itn _ c12 e0
                exact fX7_day_b81_w (l := l) X hr (inb_lt g7) w (lv_sub hl [2, 5, 6, 7, 1, 0] rfl) e0
              · have e0 := itp _ c12 e0
                refine lv_iconst (v := 3) hx hb dX7_day_78 (by decide) ?_
                refine lv_istore (lv' := [(7, .int 3), (6, .ref (q (1000 + 10 * a1.toNatClampNeg))), (0, .ref (q 0)), (1, .int a1), (2, .int a2), (3, .int a3), (4, .int a4), (5, .int a5)]) hx hb dX7_day_79 hl (by decide) rfl (fun ls hl => ?_)
                exact fX7_day_b81_w (l := l) X hr (inb_lt g7) w (lv_sub hl [2, 5, 6, 7, 1, 0] rfl) e0
          · have e0 := itp _ c14 e0
            refine lv_bipush (v := (-2)) hx hb dX7_day_41 (by decide) ?_
            have e0 := Option.some.inj e0
            subst e0
            exact c_iret X w hr dX7_day_43
  · have e0 := itp _ c18 e0
    refine lv_iconst (v := (-1)) hx hb dX7_day_12 (by decide) ?_
    have e0 := Option.some.inj e0
    subst e0
    exact c_iret X w hr dX7_day_13
set_option maxRecDepth 20000 in
theorem fX7_day_met (l : Launch) (D : va_G) (y : ClassId) (yS : ClassId × ClassId) (q : Nat → Nat) (sz n : Nat) (a1 : Int32) (a2 : Int32) (a3 : Int32) (a4 : Int32) (a5 : Int32) (I : Nat → Int32) (R : Nat → Nat → Int32) (z : Int32 × mSt) (e0 : fX7_day n a1 a2 a3 a4 a5 I R = some z) : Met l yX7_day wsX7_day rmX7_day (va_Pc [.ref (q 0), .int a1, .int a2, .int a3, .int a4, .int a5] (cPre D y yS q sz I R)) (cQi D y yS q (cS y yS q sz) z) 0 0 (cS y yS q sz) := by
  refine Met.ofW (cc := cX7_day) (maxL := 9) (ret := some .int) (by decide) rfl ?_
  intro p e s m args below meth c s₁ B hml hv
  obtain ⟨rfl, hsz, hP, hK, hN, hD⟩ := hv
  subst hsz
  have hl := lv_entry ([.ref (q 0), .int a1, .int a2, .int a3, .int a4, .int a5]) (n := 9) (Nat.le_of_ble_eq_true rfl)
  rw [lg_entry_eq]
  exact fX7_day_w (s := s) ⟨⟨B.exec, B.bytes, hml, findClass_of_methodNamed B.named, atoms_spec (ws := wsX7_day) B.pre⟩, hK, hN⟩ ⟨B.returns, B.notSynchronized⟩ ⟨hP, cS_D hD, va_S.rf⟩ hl e0
theorem in_X7_rounds_X7 : ∀ w ∈ wsX70, w ∈ wsX7_rounds := fun _ h9 => List.mem_cons_of_mem _ (List.mem_append_left _ (List.mem_append_left _ (List.mem_append_left _ (List.mem_append_left _ (List.mem_append_left _ (List.mem_append_right _ h9))))))
theorem in_X7_rounds_X6 : ∀ w ∈ wsX60, w ∈ wsX7_rounds := fun _ h9 => List.mem_cons_of_mem _ (List.mem_append_left _ (List.mem_append_left _ (List.mem_append_left _ (List.mem_append_left _ (List.mem_append_right _ h9)))))
theorem in_X7_rounds_X3 : ∀ w ∈ wsX30, w ∈ wsX7_rounds := fun _ h9 => List.mem_cons_of_mem _ (List.mem_append_left _ (List.mem_append_left _ (List.mem_append_left _ (List.mem_append_right _ h9))))
theorem in_X7_rounds_X2 : ∀ w ∈ wsX20, w ∈ wsX7_rounds := fun _ h9 => List.mem_cons_of_mem _ (List.mem_append_left _ (List.mem_append_left _ (List.mem_append_right _ h9)))
theorem in_X7_rounds_X1 : ∀ w ∈ wsX10, w ∈ wsX7_rounds := fun _ h9 => List.mem_cons_of_mem _ (List.mem_append_left _ (List.mem_append_right _ h9))
theorem in_X7_rounds_X0 : ∀ w ∈ wsX00, w ∈ wsX7_rounds := fun _ h9 => List.mem_cons_of_mem _ (List.mem_append_right _ h9)
def rmX7_rounds : Room := { frames := 6, cells := 0, slots := 0, locals := 133 }
def fX7_rounds (n : Nat) (I : Nat → Int32) (R : Nat → Nat → Int32) : Option (Int32 × mSt) :=
  (fX2_isThere n 0 I R).bind fun z1 =>
  if z1.1 = 0 then
    some ((-3), z1.2.1, z1.2.2)
  else
    (fX6_settle n 0 z1.2.1 z1.2.2).bind fun z3 =>
    some ((z3.1 (146 + 100 * 0)), z3.1, z3.2)
set_option maxRecDepth 20000 in
set_option maxHeartbeats 2000000 in
theorem fX7_rounds_w {p : Program} {l : Launch} {e : Env} {s : State} {m : MethodId} {args : Array Value} {below : List Frame} {meth : Method} {c : Code} {D : va_G} {y : ClassId} {yS : ClassId × ClassId} {q : Nat → Nat} {n : Nat} {z : Int32 × mSt} (X : cX p s m args c cX7_rounds 1 wsX7_rounds RX7 D y yS) (hr : meth.sig.returnType = some .int ∧ meth.locks = false) {I : Nat → Int32} {R : Nat → Nat → Int32} {H : Heap} {locs : List Loc} {ls : Array Slot} (w : cH s D y yS q H locs I R) (hl : lv_has ls 1 [(0, .ref (q 0))]) (e0 : fX7_rounds n I R = some z) : W p l e rmX7_rounds s m args below meth c H locs 0 0 (MQ below (cQi D y yS q (cS y yS q s.heap.size) z) args s 0 0 (cS y yS q s.heap.size)) (F0 m 0 ls []) := by
  have hx := X.1.1
  have hb := X.1.2.1
  unfold fX7_rounds at e0
  refine lv_aload_n hx hb dX7_rounds_0 rfl (lv_at hl 0 rfl) ?_
  refine c_get X w (cat_RR _ _ _ _ _) rfl in_X7_rounds_X7 1 (by decide) (index := 21) rfl (by decide +kernel) (cf_RR_1 _ _) dX7_rounds_1 ?_
  refine c_get X w (cat_WO _ _ _ _ _ 0 (by decide)) rfl in_X7_rounds_X6 0 (by decide) (index := 68) rfl (by decide +kernel) (cf_WO_0 _ _ _) dX7_rounds_4 ?_
  refine bd e0 (fun z1 e2 e0 => ?_)
  refine c_calli X w (c_rec X w (cat_PR _ _ _ _ _ 0 (by decide)) rfl) (n := 0) (As := []) (rest := []) (fX2_isThere_met l _ _ _ _ _ _ _ (by decide)  _ _ _ e2) gX7_rounds_X2_isThere rfl rfl rfl (by decide +kernel) ⟨Nat.le_of_ble_eq_true rfl, Nat.le_of_ble_eq_true rfl⟩ rfl hl.1 rfl (Nat.le_of_ble_eq_true rfl) dX7_rounds_7 (fun H locs w => ?_)
  refine lv_if_ne (tgt := 16) hx hb dX7_rounds_10 (by decide) (fun c5 => ?_) (fun c5 => ?_)
  · have e0 := itn _ c5 e0
    refine lv_aload_n hx hb dX7_rounds_16 rfl (lv_at hl 0 rfl) ?_
    refine c_get X w (cat_RR _ _ _ _ _) rfl in_X7_rounds_X7 1 (by decide) (index := 21) rfl (by decide +kernel) (cf_RR_1 _ _) dX7_rounds_17 ?_
    refine bd e0 (fun z3 e4 e0 => ?_)
    refine c_callv X w (c_rec X w (cat_WO _ _ _ _ _ 0 (by decide)) rfl) (n := 0) (As := []) (rest := []) (fX6_settle_met l _ _ _ _ _ _ _ (by decide)  _ _ _ e4) gX7_rounds_X6_settle rfl rfl rfl (by decide +kernel) ⟨Nat.le_of_ble_eq_true rfl, Nat.le_of_ble_eq_true rfl⟩ rfl hl.1 rfl (Nat.le_of_ble_eq_true rfl) dX7_rounds_20 (fun H locs w => ?_)
    refine lv_aload_n hx hb dX7_rounds_23 rfl (lv_at hl 0 rfl) ?_
    refine c_get X w (cat_RR _ _ _ _ _) rfl in_X7_rounds_X7 1 (by decide) (index := 21) rfl (by decide +kernel) (cf_RR_1 _ _) dX7_rounds_24 ?_
    refine c_get X w (cat_WO _ _ _ _ _ 0 (by decide)) rfl in_X7_rounds_X6 2 (by decide) (index := 141) rfl (by decide +kernel) (cf_WO_2 _ _ _) dX7_rounds_27 ?_
    refine c_get X w (cat_RO _ _ _ _ _ 0 (by decide)) rfl in_X7_rounds_X3 5 (by decide) (index := 224) rfl (by decide +kernel) (cf_RO_5 _ _ _) dX7_rounds_30 ?_
    have e0 := Option.some.inj e0
    subst e0
    exact c_iret X w hr dX7_rounds_33
  · have e0 := itp _ c5 e0
    refine lv_bipush (v := (-3)) hx hb dX7_rounds_13 (by decide) ?_
    have e0 := Option.some.inj e0
    subst e0
    exact c_iret X w hr dX7_rounds_15
set_option maxRecDepth 20000 in
theorem fX7_rounds_met (l : Launch) (D : va_G) (y : ClassId) (yS : ClassId × ClassId) (q : Nat → Nat) (sz n : Nat) (I : Nat → Int32) (R : Nat → Nat → Int32) (z : Int32 × mSt) (e0 : fX7_rounds n I R = some z) : Met l yX7_rounds wsX7_rounds rmX7_rounds (va_Pc [.ref (q 0)] (cPre D y yS q sz I R)) (cQi D y yS q (cS y yS q sz) z) 0 0 (cS y yS q sz) := by
  refine Met.ofW (cc := cX7_rounds) (maxL := 1) (ret := some .int) (by decide) rfl ?_
  intro p e s m args below meth c s₁ B hml hv
  obtain ⟨rfl, hsz, hP, hK, hN, hD⟩ := hv
  subst hsz
  have hl := lv_entry ([.ref (q 0)]) (n := 1) (Nat.le_of_ble_eq_true rfl)
  rw [lg_entry_eq]
  exact fX7_rounds_w (s := s) ⟨⟨B.exec, B.bytes, hml, findClass_of_methodNamed B.named, atoms_spec (ws := wsX7_rounds) B.pre⟩, hK, hN⟩ ⟨B.returns, B.notSynchronized⟩ ⟨hP, cS_D hD, va_S.rf⟩ hl e0
theorem in_X7_born_X7 : ∀ w ∈ wsX70, w ∈ wsX7_born := fun _ h9 => List.mem_cons_of_mem _ (List.mem_append_left _ (List.mem_append_left _ (List.mem_append_left _ (List.mem_append_left _ (List.mem_append_left _ (List.mem_append_right _ h9))))))
theorem in_X7_born_X6 : ∀ w ∈ wsX60, w ∈ wsX7_born := fun _ h9 => List.mem_cons_of_mem _ (List.mem_append_left _ (List.mem_append_left _ (List.mem_append_left _ (List.mem_append_left _ (List.mem_append_right _ h9)))))
theorem in_X7_born_X2 : ∀ w ∈ wsX20, w ∈ wsX7_born := fun _ h9 => List.mem_cons_of_mem _ (List.mem_append_left _ (List.mem_append_left _ (List.mem_append_left _ (List.mem_append_right _ h9))))
theorem in_X7_born_X1 : ∀ w ∈ wsX10, w ∈ wsX7_born := fun _ h9 => List.mem_cons_of_mem _ (List.mem_append_left _ (List.mem_append_left _ (List.mem_append_right _ h9)))
theorem in_X7_born_X3 : ∀ w ∈ wsX30, w ∈ wsX7_born := fun _ h9 => List.mem_cons_of_mem _ (List.mem_append_left _ (List.mem_append_right _ h9))
theorem in_X7_born_X0 : ∀ w ∈ wsX00, w ∈ wsX7_born := fun _ h9 => List.mem_cons_of_mem _ (List.mem_append_right _ h9)
def rmX7_born : Room := { frames := 6, cells := 0, slots := 0, locals := 133 }
def fX7_born (n : Nat) (a1 : Int32) (I : Nat → Int32) (R : Nat → Nat → Int32) : Option (Int32 × mSt) :=
  if 0 ≤ a1 then
    (fX2_isThere n 0 I R).bind fun z1 =>
    if z1.1 = 0 then
      some ((-3), z1.2.1, z1.2.2)
    else
      (fX6_settle n 0 z1.2.1 z1.2.2).bind fun z3 =>
      (fX3_bornAt n 0 a1 z3.1 z3.2).bind fun z5 =>
      some (z5.1, z5.2.1, z5.2.2)
  else
    some ((-2), I, R)
set_option maxRecDepth 20000 in
set_option maxHeartbeats 2000000 in
theorem fX7_born_w {p : Program} {l : Launch} {e : Env} {s : State} {m : MethodId} {args : Array Value} {below : List Frame} {meth : Method} {c : Code} {D : va_G} {y : ClassId} {yS : ClassId × ClassId} {q : Nat → Nat} {n : Nat} {z : Int32 × mSt} (X : cX p s m args c cX7_born 2 wsX7_born RX7 D y yS) (hr : meth.sig.returnType = some .int ∧ meth.locks = false) {a1 : Int32} {I : Nat → Int32} {R : Nat → Nat → Int32} {H : Heap} {locs : List Loc} {ls : Array Slot} (w : cH s D y yS q H locs I R) (hl : lv_has ls 2 [(0, .ref (q 0)), (1, .int a1)]) (e0 : fX7_born n a1 I R = some z) : W p l e rmX7_born s m args below meth c H locs 0 0 (MQ below (cQi D y yS q (cS y yS q s.heap.size) z) args s 0 0 (cS y yS q s.heap.size)) (F0 m 0 ls []) := by
  have hx := X.1.1
  have hb := X.1.2.1
  unfold fX7_born at e0
  refine lv_iload_n hx hb dX7_born_0 rfl (lv_at hl 1 rfl) ?_
  refine lv_if_ge (tgt := 7) hx hb dX7_born_1 (by decide) (fun c8 => ?_) (fun c8 => ?_)
  · have e0 := itp _ c8 e0
    refine lv_aload_n hx hb dX7_born_7 rfl (lv_at hl 0 rfl) ?_
    refine c_get X w (cat_RR _ _ _ _ _) rfl in_X7_born_X7 1 (by decide) (index := 21) rfl (by decide +kernel) (cf_RR_1 _ _) dX7_born_8 ?_
    refine c_get X w (cat_WO _ _ _ _ _ 0 (by decide)) rfl in_X7_born_X6 0 (by decide) (index := 68) rfl (by decide +kernel) (cf_WO_0 _ _ _) dX7_born_11 ?_
    refine bd e0 (fun z1 e2 e0 => ?_)
    refine c_calli X w (c_rec X w (cat_PR _ _ _ _ _ 0 (by decide)) rfl) (n := 0) (As := []) (rest := []) (fX2_isThere_met l _ _ _ _ _ _ _ (by decide)  _ _ _ e2) gX7_born_X2_isThere rfl rfl rfl (by decide +kernel) ⟨Nat.le_of_ble_eq_true rfl, Nat.le_of_ble_eq_true rfl⟩ rfl hl.1 rfl (Nat.le_of_ble_eq_true rfl) dX7_born_14 (fun H locs w => ?_)
    refine lv_if_ne (tgt := 23) hx hb dX7_born_17 (by decide) (fun c7 => ?_) (fun c7 => ?_)
    · have e0 := itn _ c7 e0
      refine lv_aload_n hx hb dX7_born_23 rfl (lv_at hl 0 rfl) ?_
      refine c_get X w (cat_RR _ _ _ _ _) rfl in_X7_born_X7 1 (by decide) (index := 21) rfl (by decide +kernel) (cf_RR_1 _ _) dX7_born_24 ?_
      refine bd e0 (fun z3 e4 e0 => ?_)
      refine c_callv X w (c_rec X w (cat_WO _ _ _ _ _ 0 (by decide)) rfl) (n := 0) (As := []) (rest := []) (fX6_settle_met l _ _ _ _ _ _ _ (by decide)  _ _ _ e4) gX7_born_X6_settle rfl rfl rfl (by decide +kernel) ⟨Nat.le_of_ble_eq_true rfl, Nat.le_of_ble_eq_true rfl⟩ rfl hl.1 rfl (Nat.le_of_ble_eq_true rfl) dX7_born_27 (fun H locs w => ?_)
      refine lv_aload_n hx hb dX7_born_30 rfl (lv_at hl 0 rfl) ?_
      refine c_get X w (cat_RR _ _ _ _ _) rfl in_X7_born_X7 1 (by decide) (index := 21) rfl (by decide +kernel) (cf_RR_1 _ _) dX7_born_31 ?_
      refine c_get X w (cat_WO _ _ _ _ _ 0 (by decide)) rfl in_X7_born_X6 2 (by decide) (index := 141) rfl (by decide +kernel) (cf_WO_2 _ _ _) dX7_born_34 ?_
      refine lv_iload_n hx hb dX7_born_37 rfl (lv_at hl 1 rfl) ?_
      refine bd e0 (fun z5 e6 e0 => ?_)
      refine c_calli X w (c_rec X w (cat_RO _ _ _ _ _ 0 (by decide)) rfl) (n := 1) (As := [.int a1]) (rest := []) (fX3_bornAt_met l _ _ _ _ _ _ _ (by decide) _ _ _ _ e6) gX7_born_X3_bornAt rfl rfl rfl (by decide +kernel) ⟨Nat.le_of_ble_eq_true rfl, Nat.le_of_ble_eq_true rfl⟩ rfl hl.1 rfl (Nat.le_of_ble_eq_true rfl) dX7_born_38 (fun H locs w => ?_)
      have e0 := Option.some.inj e0
      subst e0
      exact c_iret X w hr dX7_born_41
    · have e0 := itp _ c7 e0
      refine lv_bipush (v := (-3)) hx hb dX7_born_20 (by decide) ?_
      have e0 := Option.some.inj e0
      subst e0
      exact c_iret X w hr dX7_born_22
  · have e0 := itn _ c8 e0
    refine lv_bipush (v := (-2)) hx hb dX7_born_4 (by decide) ?_
    have e0 := Option.some.inj e0
    subst e0
    exact c_iret X w hr dX7_born_6
set_option maxRecDepth 20000 in
theorem fX7_born_met (l : Launch) (D : va_G) (y : ClassId) (yS : ClassId × ClassId) (q : Nat → Nat) (sz n : Nat) (a1 : Int32) (I : Nat → Int32) (R : Nat → Nat → Int32) (z : Int32 × mSt) (e0 : fX7_born n a1 I R = some z) : Met l yX7_born wsX7_born rmX7_born (va_Pc [.ref (q 0), .int a1] (cPre D y yS q sz I R)) (cQi D y yS q (cS y yS q sz) z) 0 0 (cS y yS q sz) := by
  refine Met.ofW (cc := cX7_born) (maxL := 2) (ret := some .int) (by decide) rfl ?_
  intro p e s m args below meth c s₁ B hml hv
  obtain ⟨rfl, hsz, hP, hK, hN, hD⟩ := hv
  subst hsz
  have hl := lv_entry ([.ref (q 0), .int a1]) (n := 2) (Nat.le_of_ble_eq_true rfl)
  rw [lg_entry_eq]
  exact fX7_born_w (s := s) ⟨⟨B.exec, B.bytes, hml, findClass_of_methodNamed B.named, atoms_spec (ws := wsX7_born) B.pre⟩, hK, hN⟩ ⟨B.returns, B.notSynchronized⟩ ⟨hP, cS_D hD, va_S.rf⟩ hl e0
theorem in_X7_ranked_X7 : ∀ w ∈ wsX70, w ∈ wsX7_ranked := fun _ h9 => List.mem_cons_of_mem _ (List.mem_append_left _ (List.mem_append_left _ (List.mem_append_left _ (List.mem_append_left _ (List.mem_append_left _ (List.mem_append_right _ h9))))))
theorem in_X7_ranked_X6 : ∀ w ∈ wsX60, w ∈ wsX7_ranked := fun _ h9 => List.mem_cons_of_mem _ (List.mem_append_left _ (List.mem_append_left _ (List.mem_append_left _ (List.mem_append_left _ (List.mem_append_right _ h9)))))
theorem in_X7_ranked_X2 : ∀ w ∈ wsX20, w ∈ wsX7_ranked := fun _ h9 => List.mem_cons_of_mem _ (List.mem_append_left _ (List.mem_append_left _ (List.mem_append_left _ (List.mem_append_right _ h9))))
theorem in_X7_ranked_X1 : ∀ w ∈ wsX10, w ∈ wsX7_ranked := fun _ h9 => List.mem_cons_of_mem _ (List.mem_append_left _ (List.mem_append_left _ (List.mem_append_right _ h9)))
theorem in_X7_ranked_X3 : ∀ w ∈ wsX30, w ∈ wsX7_ranked := fun _ h9 => List.mem_cons_of_mem _ (List.mem_append_left _ (List.mem_append_right _ h9))
theorem in_X7_ranked_X0 : ∀ w ∈ wsX00, w ∈ wsX7_ranked := fun _ h9 => List.mem_cons_of_mem _ (List.mem_append_right _ h9)
def rmX7_ranked : Room := { frames := 6, cells := 0, slots := 0, locals := 133 }
def fX7_ranked (n : Nat) (a1 : Int32) (a2 : Int32) (I : Nat → Int32) (R : Nat → Nat → Int32) : Option (Int32 × mSt) :=
  (fX7_isRelation n a1 I R).bind fun z1 =>
  if z1.1 = 0 then
    some ((-1), z1.2.1, z1.2.2)
  else
    if 0 ≤ a2 then
      (fX6_settle n 0 z1.2.1 z1.2.2).bind fun z3 =>
      (fX0_rankedFact n 0 a1 a2 z3.1 z3.2).bind fun z5 =>
      some (z5.1, z5.2.1, z5.2.2)
    else
      some ((-2), z1.2.1, z1.2.2)
set_option maxRecDepth 20000 in
set_option maxHeartbeats 2000000 in
theorem fX7_ranked_w {p : Program} {l : Launch} {e : Env} {s : State} {m : MethodId} {args : Array Value} {below : List Frame} {meth : Method} {c : Code} {D : va_G} {y : ClassId} {yS : ClassId × ClassId} {q : Nat → Nat} {n : Nat} {z : Int32 × mSt} (X : cX p s m args c cX7_ranked 3 wsX7_ranked RX7 D y yS) (hr : meth.sig.returnType = some .int ∧ meth.locks = false) {a1 : Int32} {a2 : Int32} {I : Nat → Int32} {R : Nat → Nat → Int32} {H : Heap} {locs : List Loc} {ls : Array Slot} (w : cH s D y yS q H locs I R) (hl : lv_has ls 3 [(0, .ref (q 0)), (1, .int a1), (2, .int a2)]) (e0 : fX7_ranked n a1 a2 I R = some z) : W p l e rmX7_ranked s m args below meth c H locs 0 0 (MQ below (cQi D y yS q (cS y yS q s.heap.size) z) args s 0 0 (cS y yS q s.heap.size)) (F0 m 0 ls []) := by
  have hx := X.1.1
  have hb := X.1.2.1
  unfold fX7_ranked at e0
  refine lv_aload_n hx hb dX7_ranked_0 rfl (lv_at hl 0 rfl) ?_
  refine lv_iload_n hx hb dX7_ranked_1 rfl (lv_at hl 1 rfl) ?_
  refine bd e0 (fun z1 e2 e0 => ?_)
  refine c_calli X w (c_rec X w (cat_RR _ _ _ _ _) rfl) (n := 1) (As := [.int a1]) (rest := []) (fX7_isRelation_met l _ _ _ _ _ _ _ _ _ _ e2) gX7_ranked_X7_isRelation rfl rfl rfl (by decide +kernel) ⟨Nat.le_of_ble_eq_true rfl, Nat.le_of_ble_eq_true rfl⟩ rfl hl.1 rfl (Nat.le_of_ble_eq_true rfl) dX7_ranked_2 (fun H locs w => ?_)
  refine lv_if_ne (tgt := 10) hx hb dX7_ranked_5 (by decide) (fun c8 => ?_) (fun c8 => ?_)
  · have e0 := itn _ c8 e0
    refine lv_iload_n hx hb dX7_ranked_10 rfl (lv_at hl 2 rfl) ?_
    refine lv_if_ge (tgt := 17) hx hb dX7_ranked_11 (by decide) (fun c7 => ?_) (fun c7 => ?_)
    · have e0 := itp _ c7 e0
      refine lv_aload_n hx hb dX7_ranked_17 rfl (lv_at hl 0 rfl) ?_
      refine c_get X w (cat_RR _ _ _ _ _) rfl in_X7_ranked_X7 1 (by decide) (index := 21) rfl (by decide +kernel) (cf_RR_1 _ _) dX7_ranked_18 ?_
      refine bd e0 (fun z3 e4 e0 => ?_)
      refine c_callv X w (c_rec X w (cat_WO _ _ _ _ _ 0 (by decide)) rfl) (n := 0) (As := []) (rest := []) (fX6_settle_met l _ _ _ _ _ _ _ (by decide)  _ _ _ e4) gX7_ranked_X6_settle rfl rfl rfl (by decide +kernel) ⟨Nat.le_of_ble_eq_true rfl, Nat.le_of_ble_eq_true rfl⟩ rfl hl.1 rfl (Nat.le_of_ble_eq_true rfl) dX7_ranked_21 (fun H locs w => ?_)
      refine lv_aload_n hx hb dX7_ranked_24 rfl (lv_at hl 0 rfl) ?_
      refine c_get X w (cat_RR _ _ _ _ _) rfl in_X7_ranked_X7 1 (by decide) (index := 21) rfl (by decide +kernel) (cf_RR_1 _ _) dX7_ranked_25 ?_
      refine c_get X w (cat_WO _ _ _ _ _ 0 (by decide)) rfl in_X7_ranked_X6 3 (by decide) (index := 187) rfl (by decide +kernel) (cf_WO_3 _ _ _) dX7_ranked_28 ?_
      refine lv_iload_n hx hb dX7_ranked_31 rfl (lv_at hl 1 rfl) ?_
      refine lv_iload_n hx hb dX7_ranked_32 rfl (lv_at hl 2 rfl) ?_
      refine bd e0 (fun z5 e6 e0 => ?_)
      refine c_calli X w (c_rec X w (cat_CO _ _ _ _ _ 0 (by decide)) rfl) (n := 2) (As := [.int a1, .int a2]) (rest := []) (fX0_rankedFact_met l _ _ _ _ _ _ _ (by decide) _ _ _ _ _ e6) gX7_ranked_X0_rankedFact rfl rfl rfl (by decide +kernel) ⟨Nat.le_of_ble_eq_true rfl, Nat.le_of_ble_eq_true rfl⟩ rfl hl.1 rfl (Nat.le_of_ble_eq_true rfl) dX7_ranked_33 (fun H locs w => ?_)
      have e0 := Option.some.inj e0
      subst e0
      exact c_iret X w hr dX7_ranked_36
    · have e0 := itn _ c7 e0
      refine lv_bipush (v := (-2)) hx hb dX7_ranked_14 (by decide) ?_
      have e0 := Option.some.inj e0
      subst e0
      exact c_iret X w hr dX7_ranked_16
  · have e0 := itp _ c8 e0
    refine lv_iconst (v := (-1)) hx hb dX7_ranked_8 (by decide) ?_
    have e0 := Option.some.inj e0
    subst e0
    exact c_iret X w hr dX7_ranked_9
set_option maxRecDepth 20000 in
theorem fX7_ranked_met (l : Launch) (D : va_G) (y : ClassId) (yS : ClassId × ClassId) (q : Nat → Nat) (sz n : Nat) (a1 : Int32) (a2 : Int32) (I : Nat → Int32) (R : Nat → Nat → Int32) (z : Int32 × mSt) (e0 : fX7_ranked n a1 a2 I R = some z) : Met l yX7_ranked wsX7_ranked rmX7_ranked (va_Pc [.ref (q 0), .int a1, .int a2] (cPre D y yS q sz I R)) (cQi D y yS q (cS y yS q sz) z) 0 0 (cS y yS q sz) := by
  refine Met.ofW (cc := cX7_ranked) (maxL := 3) (ret := some .int) (by decide) rfl ?_
  intro p e s m args below meth c s₁ B hml hv
  obtain ⟨rfl, hsz, hP, hK, hN, hD⟩ := hv
  subst hsz
  have hl := lv_entry ([.ref (q 0), .int a1, .int a2]) (n := 3) (Nat.le_of_ble_eq_true rfl)
  rw [lg_entry_eq]
  exact fX7_ranked_w (s := s) ⟨⟨B.exec, B.bytes, hml, findClass_of_methodNamed B.named, atoms_spec (ws := wsX7_ranked) B.pre⟩, hK, hN⟩ ⟨B.returns, B.notSynchronized⟩ ⟨hP, cS_D hD, va_S.rf⟩ hl e0
theorem in_X7_settled_X7 : ∀ w ∈ wsX70, w ∈ wsX7_settled := fun _ h9 => List.mem_cons_of_mem _ (List.mem_append_left _ (List.mem_append_left _ (List.mem_append_left _ (List.mem_append_left _ (List.mem_append_left _ (List.mem_append_right _ h9))))))
theorem in_X7_settled_X6 : ∀ w ∈ wsX60, w ∈ wsX7_settled := fun _ h9 => List.mem_cons_of_mem _ (List.mem_append_left _ (List.mem_append_left _ (List.mem_append_left _ (List.mem_append_left _ (List.mem_append_right _ h9)))))
theorem in_X7_settled_X2 : ∀ w ∈ wsX20, w ∈ wsX7_settled := fun _ h9 => List.mem_cons_of_mem _ (List.mem_append_left _ (List.mem_append_left _ (List.mem_append_left _ (List.mem_append_right _ h9))))
theorem in_X7_settled_X1 : ∀ w ∈ wsX10, w ∈ wsX7_settled := fun _ h9 => List.mem_cons_of_mem _ (List.mem_append_left _ (List.mem_append_left _ (List.mem_append_right _ h9)))
theorem in_X7_settled_X3 : ∀ w ∈ wsX30, w ∈ wsX7_settled := fun _ h9 => List.mem_cons_of_mem _ (List.mem_append_left _ (List.mem_append_right _ h9))
theorem in_X7_settled_X0 : ∀ w ∈ wsX00, w ∈ wsX7_settled := fun _ h9 => List.mem_cons_of_mem _ (List.mem_append_right _ h9)
def rmX7_settled : Room := { frames := 6, cells := 0, slots := 0, locals := 133 }
def fX7_settled (n : Nat) (a1 : Int32) (I : Nat → Int32) (R : Nat → Nat → Int32) : Option (Int32 × mSt) :=
  if 0 ≤ a1 then
    (fX2_isThere n 0 I R).bind fun z1 =>
    if z1.1 = 0 then
      some ((-3), z1.2.1, z1.2.2)
    else
      (fX6_settle n 0 z1.2.1 z1.2.2).bind fun z3 =>
      (fX0_settledFact n 0 a1 z3.1 z3.2).bind fun z5 =>
      some (z5.1, z5.2.1, z5.2.2)
  else
    some ((-2), I, R)
set_option maxRecDepth 20000 in
set_option maxHeartbeats 2000000 in
theorem fX7_settled_w {p : Program} {l : Launch} {e : Env} {s : State} {m : MethodId} {args : Array Value} {below : List Frame} {meth : Method} {c : Code} {D : va_G} {y : ClassId} {yS : ClassId × ClassId} {q : Nat → Nat} {n : Nat} {z : Int32 × mSt} (X : cX p s m args c cX7_settled 2 wsX7_settled RX7 D y yS) (hr : meth.sig.returnType = some .int ∧ meth.locks = false) {a1 : Int32} {I : Nat → Int32} {R : Nat → Nat → Int32} {H : Heap} {locs : List Loc} {ls : Array Slot} (w : cH s D y yS q H locs I R) (hl : lv_has ls 2 [(0, .ref (q 0)), (1, .int a1)]) (e0 : fX7_settled n a1 I R = some z) : W p l e rmX7_settled s m args below meth c H locs 0 0 (MQ below (cQi D y yS q (cS y yS q s.heap.size) z) args s 0 0 (cS y yS q s.heap.size)) (F0 m 0 ls []) := by
  have hx := X.1.1
  have hb := X.1.2.1
  unfold fX7_settled at e0
  refine lv_iload_n hx hb dX7_settled_0 rfl (lv_at hl 1 rfl) ?_
  refine lv_if_ge (tgt := 7) hx hb dX7_settled_1 (by decide) (fun c8 => ?_) (fun c8 => ?_)
  · have e0 := itp _ c8 e0
    refine lv_aload_n hx hb dX7_settled_7 rfl (lv_at hl 0 rfl) ?_
    refine c_get X w (cat_RR _ _ _ _ _) rfl in_X7_settled_X7 1 (by decide) (index := 21) rfl (by decide +kernel) (cf_RR_1 _ _) dX7_settled_8 ?_
    refine c_get X w (cat_WO _ _ _ _ _ 0 (by decide)) rfl in_X7_settled_X6 0 (by decide) (index := 68) rfl (by decide +kernel) (cf_WO_0 _ _ _) dX7_settled_11 ?_
    refine bd e0 (fun z1 e2 e0 => ?_)
    refine c_calli X w (c_rec X w (cat_PR _ _ _ _ _ 0 (by decide)) rfl) (n := 0) (As := []) (rest := []) (fX2_isThere_met l _ _ _ _ _ _ _ (by decide)  _ _ _ e2) gX7_settled_X2_isThere rfl rfl rfl (by decide +kernel) ⟨Nat.le_of_ble_eq_true rfl, Nat.le_of_ble_eq_true rfl⟩ rfl hl.1 rfl (Nat.le_of_ble_eq_true rfl) dX7_settled_14 (fun H locs w => ?_)
    refine lv_if_ne (tgt := 23) hx hb dX7_settled_17 (by decide) (fun c7 => ?_) (fun c7 => ?_)
    · have e0 := itn _ c7 e0
      refine lv_aload_n hx hb dX7_settled_23 rfl (lv_at hl 0 rfl) ?_
      refine c_get X w (cat_RR _ _ _ _ _) rfl in_X7_settled_X7 1 (by decide) (index := 21) rfl (by decide +kernel) (cf_RR_1 _ _) dX7_settled_24 ?_
      refine bd e0 (fun z3 e4 e0 => ?_)
      refine c_callv X w (c_rec X w (cat_WO _ _ _ _ _ 0 (by decide)) rfl) (n := 0) (As := []) (rest := []) (fX6_settle_met l _ _ _ _ _ _ _ (by decide)  _ _ _ e4) gX7_settled_X6_settle rfl rfl rfl (by decide +kernel) ⟨Nat.le_of_ble_eq_true rfl, Nat.le_of_ble_eq_true rfl⟩ rfl hl.1 rfl (Nat.le_of_ble_eq_true rfl) dX7_settled_27 (fun H locs w => ?_)
      refine lv_aload_n hx hb dX7_settled_30 rfl (lv_at hl 0 rfl) ?_
      refine c_get X w (cat_RR _ _ _ _ _) rfl in_X7_settled_X7 1 (by decide) (index := 21) rfl (by decide +kernel) (cf_RR_1 _ _) dX7_settled_31 ?_
      refine c_get X w (cat_WO _ _ _ _ _ 0 (by decide)) rfl in_X7_settled_X6 3 (by decide) (index := 187) rfl (by decide +kernel) (cf_WO_3 _ _ _) dX7_settled_34 ?_
      refine lv_iload_n hx hb dX7_settled_37 rfl (lv_at hl 1 rfl) ?_
      refine bd e0 (fun z5 e6 e0 => ?_)
      refine c_calli X w (c_rec X w (cat_CO _ _ _ _ _ 0 (by decide)) rfl) (n := 1) (As := [.int a1]) (rest := []) (fX0_settledFact_met l _ _ _ _ _ _ _ (by decide) _ _ _ _ e6) gX7_settled_X0_settledFact rfl rfl rfl (by decide +kernel) ⟨Nat.le_of_ble_eq_true rfl, Nat.le_of_ble_eq_true rfl⟩ rfl hl.1 rfl (Nat.le_of_ble_eq_true rfl) dX7_settled_38 (fun H locs w => ?_)
      have e0 := Option.some.inj e0
      subst e0
      exact c_iret X w hr dX7_settled_41
    · have e0 := itp _ c7 e0
      refine lv_bipush (v := (-3)) hx hb dX7_settled_20 (by decide) ?_
      have e0 := Option.some.inj e0
      subst e0
      exact c_iret X w hr dX7_settled_22
  · have e0 := itn _ c8 e0
    refine lv_bipush (v := (-2)) hx hb dX7_settled_4 (by decide) ?_
    have e0 := Option.some.inj e0
    subst e0
    exact c_iret X w hr dX7_settled_6
set_option maxRecDepth 20000 in
theorem fX7_settled_met (l : Launch) (D : va_G) (y : ClassId) (yS : ClassId × ClassId) (q : Nat → Nat) (sz n : Nat) (a1 : Int32) (I : Nat → Int32) (R : Nat → Nat → Int32) (z : Int32 × mSt) (e0 : fX7_settled n a1 I R = some z) : Met l yX7_settled wsX7_settled rmX7_settled (va_Pc [.ref (q 0), .int a1] (cPre D y yS q sz I R)) (cQi D y yS q (cS y yS q sz) z) 0 0 (cS y yS q sz) := by
  refine Met.ofW (cc := cX7_settled) (maxL := 2) (ret := some .int) (by decide) rfl ?_
  intro p e s m args below meth c s₁ B hml hv
  obtain ⟨rfl, hsz, hP, hK, hN, hD⟩ := hv
  subst hsz
  have hl := lv_entry ([.ref (q 0), .int a1]) (n := 2) (Nat.le_of_ble_eq_true rfl)
  rw [lg_entry_eq]
  exact fX7_settled_w (s := s) ⟨⟨B.exec, B.bytes, hml, findClass_of_methodNamed B.named, atoms_spec (ws := wsX7_settled) B.pre⟩, hK, hN⟩ ⟨B.returns, B.notSynchronized⟩ ⟨hP, cS_D hD, va_S.rf⟩ hl e0
theorem in_X7_demands_X7 : ∀ w ∈ wsX70, w ∈ wsX7_demands := fun _ h9 => List.mem_cons_of_mem _ (List.mem_append_left _ (List.mem_append_left _ (List.mem_append_left _ (List.mem_append_left _ (List.mem_append_left _ (List.mem_append_right _ h9))))))
theorem in_X7_demands_X6 : ∀ w ∈ wsX60, w ∈ wsX7_demands := fun _ h9 => List.mem_cons_of_mem _ (List.mem_append_left _ (List.mem_append_left _ (List.mem_append_left _ (List.mem_append_left _ (List.mem_append_right _ h9)))))
theorem in_X7_demands_X2 : ∀ w ∈ wsX20, w ∈ wsX7_demands := fun _ h9 => List.mem_cons_of_mem _ (List.mem_append_left _ (List.mem_append_left _ (List.mem_append_left _ (List.mem_append_right _ h9))))
theorem in_X7_demands_X1 : ∀ w ∈ wsX10, w ∈ wsX7_demands := fun _ h9 => List.mem_cons_of_mem _ (List.mem_append_left _ (List.mem_append_left _ (List.mem_append_right _ h9)))
theorem in_X7_demands_X3 : ∀ w ∈ wsX30, w ∈ wsX7_demands := fun _ h9 => List.mem_cons_of_mem _ (List.mem_append_left _ (List.mem_append_right _ h9))
theorem in_X7_demands_X0 : ∀ w ∈ wsX00, w ∈ wsX7_demands := fun _ h9 => List.mem_cons_of_mem _ (List.mem_append_right _ h9)
def rmX7_demands : Room := { frames := 6, cells := 0, slots := 0, locals := 133 }
def fX7_demands (n : Nat) (a1 : Int32) (a2 : Int32) (I : Nat → Int32) (R : Nat → Nat → Int32) : Option (Int32 × mSt) :=
  (fX7_isRelation n a1 I R).bind fun z1 =>
  if z1.1 = 0 then
    some ((-1), z1.2.1, z1.2.2)
  else
    (fX7_isThing n a2).bind fun z3 =>
    if z3 = 0 then
      some ((-2), z1.2.1, z1.2.2)
    else
      (fX6_settle n 0 z1.2.1 z1.2.2).bind fun z5 =>
      (fX6_demandsOf n 0 a1 a2 z5.1 z5.2).bind fun z7 =>
      some (z7.1, z7.2.1, z7.2.2)
set_option maxRecDepth 20000 in
set_option maxHeartbeats 2000000 in
theorem fX7_demands_w {p : Program} {l : Launch} {e : Env} {s : State} {m : MethodId} {args : Array Value} {below : List Frame} {meth : Method} {c : Code} {D : va_G} {y : ClassId} {yS : ClassId × ClassId} {q : Nat → Nat} {n : Nat} {z : Int32 × mSt} (X : cX p s m args c cX7_demands 3 wsX7_demands RX7 D y yS) (hr : meth.sig.returnType = some .int ∧ meth.locks = false) {a1 : Int32} {a2 : Int32} {I : Nat → Int32} {R : Nat → Nat → Int32} {H : Heap} {locs : List Loc} {ls : Array Slot} (w : cH s D y yS q H locs I R) (hl : lv_has ls 3 [(0, .ref (q 0)), (1, .int a1), (2, .int a2)]) (e0 : fX7_demands n a1 a2 I R = some z) : W p l e rmX7_demands s m args below meth c H locs 0 0 (MQ below (cQi D y yS q (cS y yS q s.heap.size) z) args s 0 0 (cS y yS q s.heap.size)) (F0 m 0 ls []) := by
  have hx := X.1.1
  have hb := X.1.2.1
  unfold fX7_demands at e0
  refine lv_aload_n hx hb dX7_demands_0 rfl (lv_at hl 0 rfl) ?_
  refine lv_iload_n hx hb dX7_demands_1 rfl (lv_at hl 1 rfl) ?_
  refine bd e0 (fun z1 e2 e0 => ?_)
  refine c_calli X w (c_rec X w (cat_RR _ _ _ _ _) rfl) (n := 1) (As := [.int a1]) (rest := []) (fX7_isRelation_met l _ _ _ _ _ _ _ _ _ _ e2) gX7_demands_X7_isRelation rfl rfl rfl (by decide +kernel) ⟨Nat.le_of_ble_eq_true rfl, Nat.le_of_ble_eq_true rfl⟩ rfl hl.1 rfl (Nat.le_of_ble_eq_true rfl) dX7_demands_2 (fun H locs w => ?_)
  refine lv_if_ne (tgt := 10) hx hb dX7_demands_5 (by decide) (fun c10 => ?_) (fun c10 => ?_)
  · have e0 := itn _ c10 e0
    refine lv_iload_n hx hb dX7_demands_10 rfl (lv_at hl 2 rfl) ?_
    refine bd e0 (fun z3 e4 e0 => ?_)
    refine c_callsi X w (n := 1) (As := [.int a2]) (rest := []) (fX7_isThing_met l _ _ _ e4) gX7_demands_X7_isThing rfl rfl rfl (by decide +kernel) ⟨Nat.le_of_ble_eq_true rfl, Nat.le_of_ble_eq_true rfl⟩ rfl hl.1 rfl (Nat.le_of_ble_eq_true rfl) dX7_demands_11 (fun H locs w => ?_)
    refine lv_if_ne (tgt := 20) hx hb dX7_demands_14 (by decide) (fun c9 => ?_) (fun c9 => ?_)
    · have e0 := itn _ c9 e0
      refine lv_aload_n hx hb dX7_demands_20 rfl (lv_at hl 0 rfl) ?_
      refine c_get X w (cat_RR _ _ _ _ _) rfl in_X7_demands_X7 1 (by decide) (index := 21) rfl (by decide +kernel) (cf_RR_1 _ _) dX7_demands_21 ?_
      refine bd e0 (fun z5 e6 e0 => ?_)
      refine c_callv X w (c_rec X w (cat_WO _ _ _ _ _ 0 (by decide)) rfl) (n := 0) (As := []) (rest := []) (fX6_settle_met l _ _ _ _ _ _ _ (by decide)  _ _ _ e6) gX7_demands_X6_settle rfl rfl rfl (by decide +kernel) ⟨Nat.le_of_ble_eq_true rfl, Nat.le_of_ble_eq_true rfl⟩ rfl hl.1 rfl (Nat.le_of_ble_eq_true rfl) dX7_demands_24 (fun H locs w => ?_)
      refine lv_aload_n hx hb dX7_demands_27 rfl (lv_at hl 0 rfl) ?_
      refine c_get X w (cat_RR _ _ _ _ _) rfl in_X7_demands_X7 1 (by decide) (index := 21) rfl (by decide +kernel) (cf_RR_1 _ _) dX7_demands_28 ?_
      refine lv_iload_n hx hb dX7_demands_31 rfl (lv_at hl 1 rfl) ?_
      refine lv_iload_n hx hb dX7_demands_32 rfl (lv_at hl 2 rfl) ?_
      refine bd e0 (fun z7 e8 e0 => ?_)
      refine c_calli X w (c_rec X w (cat_WO _ _ _ _ _ 0 (by decide)) rfl) (n := 2) (As := [.int a1, .int a2]) (rest := []) (fX6_demandsOf_met l _ _ _ _ _ _ _ (by decide) _ _ _ _ _ e8) gX7_demands_X6_demandsOf rfl rfl rfl (by decide +kernel) ⟨Nat.le_of_ble_eq_true rfl, Nat.le_of_ble_eq_true rfl⟩ rfl hl.1 rfl (Nat.le_of_ble_eq_true rfl) dX7_demands_33 (fun H locs w => ?_)
      have e0 := Option.some.inj e0
      subst e0
      exact c_iret X w hr dX7_demands_36
    · have e0 := itp _ c9 e0
      refine lv_bipush (v := (-2)) hx hb dX7_demands_17 (by decide) ?_
      have e0 := Option.some.inj e0
      subst e0
      exact c_iret X w hr dX7_demands_19
  · have e0 := itp _ c10 e0
    refine lv_iconst (v := (-1)) hx hb dX7_demands_8 (by decide) ?_
    have e0 := Option.some.inj e0
    subst e0
    exact c_iret X w hr dX7_demands_9
set_option maxRecDepth 20000 in
theorem fX7_demands_met (l : Launch) (D : va_G) (y : ClassId) (yS : ClassId × ClassId) (q : Nat → Nat) (sz n : Nat) (a1 : Int32) (a2 : Int32) (I : Nat → Int32) (R : Nat → Nat → Int32) (z : Int32 × mSt) (e0 : fX7_demands n a1 a2 I R = some z) : Met l yX7_demands wsX7_demands rmX7_demands (va_Pc [.ref (q 0), .int a1, .int a2] (cPre D y yS q sz I R)) (cQi D y yS q (cS y yS q sz) z) 0 0 (cS y yS q sz) := by
  refine Met.ofW (cc := cX7_demands) (maxL := 3) (ret := some .int) (by decide) rfl ?_
  intro p e s m args below meth c s₁ B hml hv
  obtain ⟨rfl, hsz, hP, hK, hN, hD⟩ := hv
  subst hsz
  have hl := lv_entry ([.ref (q 0), .int a1, .int a2]) (n := 3) (Nat.le_of_ble_eq_true rfl)
  rw [lg_entry_eq]
  exact fX7_demands_w (s := s) ⟨⟨B.exec, B.bytes, hml, findClass_of_methodNamed B.named, atoms_spec (ws := wsX7_demands) B.pre⟩, hK, hN⟩ ⟨B.returns, B.notSynchronized⟩ ⟨hP, cS_D hD, va_S.rf⟩ hl e0
theorem in_X7_reading_X7 : ∀ w ∈ wsX70, w ∈ wsX7_reading := fun _ h9 => List.mem_cons_of_mem _ (List.mem_append_left _ (List.mem_append_left _ (List.mem_append_right _ h9)))
theorem in_X7_reading_X6 : ∀ w ∈ wsX60, w ∈ wsX7_reading := fun _ h9 => List.mem_cons_of_mem _ (List.mem_append_left _ (List.mem_append_right _ h9))
theorem in_X7_reading_X2 : ∀ w ∈ wsX20, w ∈ wsX7_reading := fun _ h9 => List.mem_cons_of_mem _ (List.mem_append_right _ h9)
def rmX7_reading : Room := { frames := 1, cells := 0, slots := 0, locals := 22 }
def fX7_reading_b35 (n : Nat) (a1 : Int32) (a2 : Int32) (a3 : Int32) (a4 : Int32) (t0 : Int32) (I : Nat → Int32) (R : Nat → Nat → Int32) : Option (Int32 × mSt) :=
  (fX7_isThing n a2).bind fun z7 =>
  if z7 = 0 then
    some ((-2), I, R)
  else
    (fX7_isThing n a3).bind fun z9 =>
    if z9 = 0 then
      some ((-2), I, R)
    else
      if t0 = 0 then
        some ((-2), I, R)
      else
        if (I 7) < 8 then
          (fX7_factOf n a1 a2 a3).bind fun z11 =>
          if inb (I 7) 8 = true then
          if inb (I 7) 8 = true then
          some ((I 7), (upd I 7 ((I 7) + 1)), (setA (setA R 5 (I 7) z11) 6 (I 7) a4))
          else none
          else none
        else
          some ((-4), I, R)
set_option maxRecDepth 20000 in
set_option maxHeartbeats 2000000 in
theorem fX7_reading_b35_w {p : Program} {l : Launch} {e : Env} {s : State} {m : MethodId} {args : Array Value} {below : List Frame} {meth : Method} {c : Code} {D : va_G} {y : ClassId} {yS : ClassId × ClassId} {q : Nat → Nat} {n : Nat} {z : Int32 × mSt} (X : cX p s m args c cX7_reading 7 wsX7_reading RX7 D y yS) (hr : meth.sig.returnType = some .int ∧ meth.locks = false) {a1 : Int32} {a2 : Int32} {a3 : Int32} {a4 : Int32} {t0 : Int32} {I : Nat → Int32} {R : Nat → Nat → Int32} {H : Heap} {locs : List Loc} {ls : Array Slot} (w : cH s D y yS q H locs I R) (hl : lv_has ls 7 [(0, .ref (q 0)), (1, .int a1), (2, .int a2), (3, .int a3), (4, .int a4)]) (e0 : fX7_reading_b35 n a1 a2 a3 a4 t0 I R = some z) : W p l e rmX7_reading s m args below meth c H locs 0 0 (MQ below (cQi D y yS q (cS y yS q s.heap.size) z) args s 0 0 (cS y yS q s.heap.size)) (F0 m 35 ls [.int t0]) := by
  have hx := X.1.1
  have hb := X.1.2.1
  unfold fX7_reading_b35 at e0
  refine lv_istore (lv' := [(5, .int t0), (0, .ref (q 0)), (1, .int a1), (2, .int a2), (3, .int a3), (4, .int a4)]) hx hb dX7_reading_35 hl (by decide) rfl (fun ls hl => ?_)
  refine lv_iload_n hx hb dX7_reading_37 rfl (lv_at hl 3 rfl) ?_
  refine bd e0 (fun z7 e8 e0 => ?_)
  refine c_callsi X w (n := 1) (As := [.int a2]) (rest := []) (fX7_isThing_met l _ _ _ e8) gX7_reading_X7_isThing rfl rfl rfl (by decide +kernel) ⟨Nat.le_of_ble_eq_true rfl, Nat.le_of_ble_eq_true rfl⟩ rfl hl.1 rfl (Nat.le_of_ble_eq_true rfl) dX7_reading_38 (fun H locs w => ?_)
  refine lv_if_eq (tgt := 56) hx hb dX7_reading_41 (by decide) (fun c18 => ?_) (fun c18 => ?_)
  · have e0 := itp _ c18 e0
    refine lv_bipush (v := (-2)) hx hb dX7_reading_56 (by decide) ?_
    have e0 := Option.some.inj e0
    subst e0
    exact c_iret X w hr dX7_reading_58
  · have e0 := itn _ c18 e0
    refine lv_iload_n hx hb dX7_reading_44 rfl (lv_at hl 4 rfl) ?_
    refine bd e0 (fun z9 e10 e0 => ?_)
    refine c_callsi X w (n := 1) (As := [.int a3]) (rest := []) (fX7_isThing_met l _ _ _ e10) gX7_reading_X7_isThing rfl rfl rfl (by decide +kernel) ⟨Nat.le_of_ble_eq_true rfl, Nat.le_of_ble_eq_true rfl⟩ rfl hl.1 rfl (Nat.le_of_ble_eq_true rfl) dX7_reading_45 (fun H locs w => ?_)
    refine lv_if_eq (tgt := 56) hx hb dX7_reading_48 (by decide) (fun c17 => ?_) (fun c17 => ?_)
    · have e0 := itp _ c17 e0
      refine lv_bipush (v := (-2)) hx hb dX7_reading_56 (by decide) ?_
      have e0 := Option.some.inj e0
      subst e0
      exact c_iret X w hr dX7_reading_58
    · have e0 := itn _ c17 e0
      refine lv_iload hx hb dX7_reading_51 (lv_at hl 0 rfl) ?_
      refine lv_if_ne (tgt := 59) hx hb dX7_reading_53 (by decide) (fun c16 => ?_) (fun c16 => ?_)
      · have e0 := itn _ c16 e0
        refine lv_aload_n hx hb dX7_reading_59 rfl (lv_at hl 1 rfl) ?_
        refine c_get X w (cat_RR _ _ _ _ _) rfl in_X7_reading_X7 6 (by decide) (index := 97) rfl (by decide +kernel) (cf_RR_6 _ _) dX7_reading_60 ?_
        refine lv_bipush (v := 8) hx hb dX7_reading_63 (by decide) ?_
        refine lv_icmp_lt (tgt := 71) hx hb dX7_reading_65 (by decide) (fun c15 => ?_) (fun c15 => ?_)
        · have e0 := itp _ c15 e0
          refine lv_aload_n hx hb dX7_reading_71 rfl (lv_at hl 1 rfl) ?_
          refine c_get X w (cat_RR _ _ _ _ _) rfl in_X7_reading_X7 6 (by decide) (index := 97) rfl (by decide +kernel) (cf_RR_6 _ _) dX7_reading_72 ?_
          refine lv_istore (lv' := [(6, .int (I 7)), (5, .int t0), (0, .ref (q 0)), (1, .int a1), (2, .int a2), (3, .int a3), (4, .int a4)]) hx hb dX7_reading_75 hl (by decide) rfl (fun ls hl => ?_)
          refine lv_aload_n hx hb dX7_reading_77 rfl (lv_at hl 2 rfl) ?_
          refine c_get X w (cat_RR _ _ _ _ _) rfl in_X7_reading_X7 4 (by decide) (index := 35) rfl (by decide +kernel) (cf_RR_4 _ _) dX7_reading_78 ?_
          refine lv_iload hx hb dX7_reading_81 (lv_at hl 0 rfl) ?_
          refine lv_iload_n hx hb dX7_reading_83 rfl (lv_at hl 3 rfl) ?_
          refine lv_iload_n hx hb dX7_reading_84 rfl (lv_at hl 4 rfl) ?_
          refine lv_iload_n hx hb dX7_reading_85 rfl (lv_at hl 5 rfl) ?_
          refine bd e0 (fun z11 e12 e0 => ?_)
          refine c_callsi X w (n := 3) (As := [.int a1, .int a2, .int a3]) (rest := [.int (I 7), .ref (q 5)]) (fX7_factOf_met l _ _ _ _ _ e12) gX7_reading_X7_factOf rfl rfl rfl (by decide +kernel) ⟨Nat.le_of_ble_eq_true rfl, Nat.le_of_ble_eq_true rfl⟩ rfl hl.1 rfl (Nat.le_of_ble_eq_true rfl) dX7_reading_86 (fun H locs w => ?_)
          refine gd e0 (fun g13 e0 => ?_)
          refine c_ast X w (cat_a5 _ _ _ _ _) (cset_a5 _ _ _ _ _) g13 dX7_reading_89 (fun H locs w => ?_)
          refine lv_aload_n hx hb dX7_reading_90 rfl (lv_at hl 2 rfl) ?_
          refine c_get X w (cat_RR _ _ _ _ _) rfl in_X7_reading_X7 5 (by decide) (index := 39) rfl (by decide +kernel) (cf_RR_5 _ _) dX7_reading_91 ?_
          refine lv_iload hx hb dX7_reading_94 (lv_at hl 0 rfl) ?_
          refine lv_iload hx hb dX7_reading_96 (lv_at hl 6 rfl) ?_
          refine gd e0 (fun g14 e0 => ?_)
          refine c_ast X w (cat_a6 _ _ _ _ _) (cset_a6 _ _ _ _ _) g14 dX7_reading_98 (fun H locs w => ?_)
          refine lv_aload_n hx hb dX7_reading_99 rfl (lv_at hl 2 rfl) ?_
          refine lv_iload hx hb dX7_reading_100 (lv_at hl 0 rfl) ?_
          refine lv_iconst (v := 1) hx hb dX7_reading_102 (by decide) ?_
          refine lv_iadd hx hb dX7_reading_103 ?_
          refine c_put X w (cat_RR _ _ _ _ _) rfl in_X7_reading_X7 tyX7 tyX7_ok nmX7 6 (by decide) (index := 97) (ty := .int) rfl (by decide +kernel) rfl (by decide +kernel) rfl rfl (Nat.le_of_ble_eq_true rfl) (cset_RR_6 _ _ _ _ _ _) dX7_reading_104 (fun H locs w => ?_)
          refine lv_iload hx hb dX7_reading_107 (lv_at hl 0 rfl) ?_
          have e0 := Option.some.inj e0
          subst e0
          exact c_iret X w hr dX7_reading_109
        · have e0 := itn _ c15 e0
          refine lv_bipush (v := (-4)) hx hb dX7_reading_68 (by decide) ?_
          have e0 := Option.some.inj e0
          subst e0
          exact c_iret X w hr dX7_reading_70
      · have e0 := itp _ c16 e0
        refine lv_bipush (v := (-2)) hx hb dX7_reading_56 (by decide) ?_
        have e0 := Option.some.inj e0
        subst e0
        exact c_iret X w hr dX7_reading_58
def fX7_reading_b30 (n : Nat) (a1 : Int32) (a2 : Int32) (a3 : Int32) (a4 : Int32) (I : Nat → Int32) (R : Nat → Nat → Int32) : Option (Int32 × mSt) :=
  fX7_reading_b35 n a1 a2 a3 a4 1 I R
set_option maxRecDepth 20000 in
set_option maxHeartbeats 2000000 in
theorem fX7_reading_b30_w {p : Program} {l : Launch} {e : Env} {s : State} {m : MethodId} {args : Array Value} {below : List Frame} {meth : Method} {c : Code} {D : va_G} {y : ClassId} {yS : ClassId × ClassId} {q : Nat → Nat} {n : Nat} {z : Int32 × mSt} (X : cX p s m args c cX7_reading 7 wsX7_reading RX7 D y yS) (hr : meth.sig.returnType = some .int ∧ meth.locks = false) {a1 : Int32} {a2 : Int32} {a3 : Int32} {a4 : Int32} {I : Nat → Int32} {R : Nat → Nat → Int32} {H : Heap} {locs : List Loc} {ls : Array Slot} (w : cH s D y yS q H locs I R) (hl : lv_has ls 7 [(0, .ref (q 0)), (1, .int a1), (2, .int a2), (3, .int a3), (4, .int a4)]) (e0 : fX7_reading_b30 n a1 a2 a3 a4 I R = some z) : W p l e rmX7_reading s m args below meth c H locs 0 0 (MQ below (cQi D y yS q (cS y yS q s.heap.size) z) args s 0 0 (cS y yS q s.heap.size)) (F0 m 30 ls []) := by
  have hx := X.1.1
  have hb := X.1.2.1
  unfold fX7_reading_b30 at e0
  refine lv_iconst (v := 1) hx hb dX7_reading_30 (by decide) ?_
  refine lv_goto (tgt := 35) hx hb dX7_reading_31 (by decide) ?_
  exact fX7_reading_b35_w (l := l) X hr w (lv_sub hl [0, 1, 2, 3, 4] rfl) e0
def fX7_reading_b23 (n : Nat) (a1 : Int32) (a2 : Int32) (a3 : Int32) (a4 : Int32) (I : Nat → Int32) (R : Nat → Nat → Int32) : Option (Int32 × mSt) :=
  if a4 = (-9) then
    fX7_reading_b30 n a1 a2 a3 a4 I R
  else
    fX7_reading_b35 n a1 a2 a3 a4 0 I R
set_option maxRecDepth 20000 in
set_option maxHeartbeats 2000000 in
theorem fX7_reading_b23_w {p : Program} {l : Launch} {e : Env} {s : State} {m : MethodId} {args : Array Value} {below : List Frame} {meth : Method} {c : Code} {D : va_G} {y : ClassId} {yS : ClassId × ClassId} {q : Nat → Nat} {n : Nat} {z : Int32 × mSt} (X : cX p s m args c cX7_reading 7 wsX7_reading RX7 D y yS) (hr : meth.sig.returnType = some .int ∧ meth.locks = false) {a1 : Int32} {a2 : Int32} {a3 : Int32} {a4 : Int32} {I : Nat → Int32} {R : Nat → Nat → Int32} {H : Heap} {locs : List Loc} {ls : Array Slot} (w : cH s D y yS q H locs I R) (hl : lv_has ls 7 [(0, .ref (q 0)), (1, .int a1), (2, .int a2), (3, .int a3), (4, .int a4)]) (e0 : fX7_reading_b23 n a1 a2 a3 a4 I R = some z) : W p l e rmX7_reading s m args below meth c H locs 0 0 (MQ below (cQi D y yS q (cS y yS q s.heap.size) z) args s 0 0 (cS y yS q s.heap.size)) (F0 m 23 ls []) := by
  have hx := X.1.1
  have hb := X.1.2.1
  unfold fX7_reading_b23 at e0
  refine lv_iload hx hb dX7_reading_23 (lv_at hl 4 rfl) ?_
  refine lv_bipush (v := (-9)) hx hb dX7_reading_25 (by decide) ?_
  refine lv_icmp_ne (tgt := 34) hx hb dX7_reading_27 (by decide) (fun c6 => ?_) (fun c6 => ?_)
  · have e0 := itn _ c6 e0
    refine lv_iconst (v := 0) hx hb dX7_reading_34 (by decide) ?_
    exact fX7_reading_b35_w (l := l) X hr w (lv_sub hl [0, 1, 2, 3, 4] rfl) e0
  · have e0 := itp _ c6 e0
    exact fX7_reading_b30_w (l := l) X hr w (lv_sub hl [0, 1, 2, 3, 4] rfl) e0
def fX7_reading (n : Nat) (a1 : Int32) (a2 : Int32) (a3 : Int32) (a4 : Int32) (I : Nat → Int32) (R : Nat → Nat → Int32) : Option (Int32 × mSt) :=
  (fX7_isRelation n a1 I R).bind fun z1 =>
  if z1.1 = 0 then
    some ((-1), z1.2.1, z1.2.2)
  else
    if a4 < 0 then
      fX7_reading_b23 n a1 a2 a3 a4 z1.2.1 z1.2.2
    else
      if a4 ≤ 1000 then
        fX7_reading_b30 n a1 a2 a3 a4 z1.2.1 z1.2.2
      else
        fX7_reading_b23 n a1 a2 a3 a4 z1.2.1 z1.2.2
set_option maxRecDepth 20000 in
set_option maxHeartbeats 2000000 in
theorem fX7_reading_w {p : Program} {l : Launch} {e : Env} {s : State} {m : MethodId} {args : Array Value} {below : List Frame} {meth : Method} {c : Code} {D : va_G} {y : ClassId} {yS : ClassId × ClassId} {q : Nat → Nat} {n : Nat} {z : Int32 × mSt} (X : cX p s m args c cX7_reading 7 wsX7_reading RX7 D y yS) (hr : meth.sig.returnType = some .int ∧ meth.locks = false) {a1 : Int32} {a2 : Int32} {a3 : Int32} {a4 : Int32} {I : Nat → Int32} {R : Nat → Nat → Int32} {H : Heap} {locs : List Loc} {ls : Array Slot} (w : cH s D y yS q H locs I R) (hl : lv_has ls 7 [(0, .ref (q 0)), (1, .int a1), (2, .int a2), (3, .int a3), (4, .int a4)]) (e0 : fX7_reading n a1 a2 a3 a4 I R = some z) : W p l e rmX7_reading s m args below meth c H locs 0 0 (MQ below (cQi D y yS q (cS y yS q s.heap.size) z) args s 0 0 (cS y yS q s.heap.size)) (F0 m 0 ls []) := by
  have hx := X.1.1
  have hb := X.1.2.1
  unfold fX7_reading at e0
  refine lv_aload_n hx hb dX7_reading_0 rfl (lv_at hl 0 rfl) ?_
  refine lv_iload_n hx hb dX7_reading_1 rfl (lv_at hl 1 rfl) ?_
  refine bd e0 (fun z1 e2 e0 => ?_)
  refine c_calli X w (c_rec X w (cat_RR _ _ _ _ _) rfl) (n := 1) (As := [.int a1]) (rest := []) (fX7_isRelation_met l _ _ _ _ _ _ _ _ _ _ e2) gX7_reading_X7_isRelation rfl rfl rfl (by decide +kernel) ⟨Nat.le_of_ble_eq_true rfl, Nat.le_of_ble_eq_true rfl⟩ rfl hl.1 rfl (Nat.le_of_ble_eq_true rfl) dX7_reading_2 (fun H locs w => ?_)
  refine lv_if_ne (tgt := 10) hx hb dX7_reading_5 (by decide) (fun c5 => ?_) (fun c5 => ?_)
  · have e0 := itn _ c5 e0
    refine lv_iload hx hb dX7_reading_10 (lv_at hl 4 rfl) ?_
    refine lv_if_lt (tgt := 23) hx hb dX7_reading_12 (by decide) (fun c4 => ?_) (fun c4 => ?_)
    · have e0 := itp _ c4 e0
      exact fX7_reading_b23_w (l := l) X hr w (lv_sub hl [0, 1, 2, 3, 4] rfl) e0
    · have e0 := itn _ c4 e0
      refine lv_iload hx hb dX7_reading_15 (lv_at hl 4 rfl) ?_
      refine lv_sipush (v := 1000) hx hb dX7_reading_17 (by decide) ?_
      refine lv_icmp_le (tgt := 30) hx hb dX7_reading_20 (by decide) (fun c3 => ?_) (fun c3 => ?_)
      · have e0 := itp _ c3 e0
        exact fX7_reading_b30_w (l := l) X hr w (lv_sub hl [0, 1, 2, 3, 4] rfl) e0
      · have e0 := itn _ c3 e0
        exact fX7_reading_b23_w (l := l) X hr w (lv_sub hl [0, 1, 2, 3, 4] rfl) e0
  · have e0 := itp _ c5 e0
    refine lv_iconst (v := (-1)) hx hb dX7_reading_8 (by decide) ?_
    have e0 := Option.some.inj e0
    subst e0
    exact c_iret X w hr dX7_reading_9
set_option maxRecDepth 20000 in
theorem fX7_reading_met (l : Launch) (D : va_G) (y : ClassId) (yS : ClassId × ClassId) (q : Nat → Nat) (sz n : Nat) (a1 : Int32) (a2 : Int32) (a3 : Int32) (a4 : Int32) (I : Nat → Int32) (R : Nat → Nat → Int32) (z : Int32 × mSt) (e0 : fX7_reading n a1 a2 a3 a4 I R = some z) : Met l yX7_reading wsX7_reading rmX7_reading (va_Pc [.ref (q 0), .int a1, .int a2, .int a3, .int a4] (cPre D y yS q sz I R)) (cQi D y yS q (cS y yS q sz) z) 0 0 (cS y yS q sz) := by
  refine Met.ofW (cc := cX7_reading) (maxL := 7) (ret := some .int) (by decide) rfl ?_
  intro p e s m args below meth c s₁ B hml hv
  obtain ⟨rfl, hsz, hP, hK, hN, hD⟩ := hv
  subst hsz
  have hl := lv_entry ([.ref (q 0), .int a1, .int a2, .int a3, .int a4]) (n := 7) (Nat.le_of_ble_eq_true rfl)
  rw [lg_entry_eq]
  exact fX7_reading_w (s := s) ⟨⟨B.exec, B.bytes, hml, findClass_of_methodNamed B.named, atoms_spec (ws := wsX7_reading) B.pre⟩, hK, hN⟩ ⟨B.returns, B.notSynchronized⟩ ⟨hP, cS_D hD, va_S.rf⟩ hl e0
theorem in_X7_back_X7 : ∀ w ∈ wsX70, w ∈ wsX7_back := fun _ h9 => List.mem_cons_of_mem _ (List.mem_append_right _ h9)
def rmX7_back : Room := { frames := 0, cells := 0, slots := 0, locals := 0 }
def fX7_back (n : Nat) (a1 : Int32) (I : Nat → Int32) (R : Nat → Nat → Int32) : Option (Int32 × mSt) :=
  if a1 < 0 then
    some ((-2), I, R)
  else
    if a1 ≤ (I 7) then
      some (((upd I 7 ((I 7) - a1)) 7), (upd I 7 ((I 7) - a1)), R)
    else
      some ((-2), I, R)
set_option maxRecDepth 20000 in
set_option maxHeartbeats 2000000 in
theorem fX7_back_w {p : Program} {l : Launch} {e : Env} {s : State} {m : MethodId} {args : Array Value} {below : List Frame} {meth : Method} {c : Code} {D : va_G} {y : ClassId} {yS : ClassId × ClassId} {q : Nat → Nat} {n : Nat} {z : Int32 × mSt} (X : cX p s m args c cX7_back 2 wsX7_back RX7 D y yS) (hr : meth.sig.returnType = some .int ∧ meth.locks = false) {a1 : Int32} {I : Nat → Int32} {R : Nat → Nat → Int32} {H : Heap} {locs : List Loc} {ls : Array Slot} (w : cH s D y yS q H locs I R) (hl : lv_has ls 2 [(0, .ref (q 0)), (1, .int a1)]) (e0 : fX7_back n a1 I R = some z) : W p l e rmX7_back s m args below meth c H locs 0 0 (MQ below (cQi D y yS q (cS y yS q s.heap.size) z) args s 0 0 (cS y yS q s.heap.size)) (F0 m 0 ls []) := by
  have hx := X.1.1
  have hb := X.1.2.1
  unfold fX7_back at e0
  refine lv_iload_n hx hb dX7_back_0 rfl (lv_at hl 1 rfl) ?_
  refine lv_if_lt (tgt := 12) hx hb dX7_back_1 (by decide) (fun c2 => ?_) (fun c2 => ?_)
  · have e0 := itp _ c2 e0
    refine lv_bipush (v := (-2)) hx hb dX7_back_12 (by decide) ?_
    have e0 := Option.some.inj e0
    subst e0
    exact c_iret X w hr dX7_back_14
  · have e0 := itn _ c2 e0
    refine lv_iload_n hx hb dX7_back_4 rfl (lv_at hl 1 rfl) ?_
    refine lv_aload_n hx hb dX7_back_5 rfl (lv_at hl 0 rfl) ?_
    refine c_get X w (cat_RR _ _ _ _ _) rfl in_X7_back_X7 6 (by decide) (index := 97) rfl (by decide +kernel) (cf_RR_6 _ _) dX7_back_6 ?_
    refine lv_icmp_le (tgt := 15) hx hb dX7_back_9 (by decide) (fun c1 => ?_) (fun c1 => ?_)
    · have e0 := itp _ c1 e0
      refine lv_aload_n hx hb dX7_back_15 rfl (lv_at hl 0 rfl) ?_
      refine lv_dup hx hb dX7_back_16 rfl ?_
      refine c_get X w (cat_RR _ _ _ _ _) rfl in_X7_back_X7 6 (by decide) (index := 97) rfl (by decide +kernel) (cf_RR_6 _ _) dX7_back_17 ?_
      refine lv_iload_n hx hb dX7_back_20 rfl (lv_at hl 1 rfl) ?_
      refine lv_isub hx hb dX7_back_21 ?_
      refine c_put X w (cat_RR _ _ _ _ _) rfl in_X7_back_X7 tyX7 tyX7_ok nmX7 6 (by decide) (index := 97) (ty := .int) rfl (by decide +kernel) rfl (by decide +kernel) rfl rfl (Nat.le_of_ble_eq_true rfl) (cset_RR_6 _ _ _ _ _ _) dX7_back_22 (fun H locs w => ?_)
      refine lv_aload_n hx hb dX7_back_25 rfl (lv_at hl 0 rfl) ?_
      refine c_get X w (cat_RR _ _ _ _ _) rfl in_X7_back_X7 6 (by decide) (index := 97) rfl (by decide +kernel) (cf_RR_6 _ _) dX7_back_26 ?_
      have e0 := Option.some.inj e0
      subst e0
      exact c_iret X w hr dX7_back_29
    · have e0 := itn _ c1 e0
      refine lv_bipush (v := (-2)) hx hb dX7_back_12 (by decide) ?_
      have e0 := Option.some.inj e0
      subst e0
      exact c_iret X w hr dX7_back_14
set_option maxRecDepth 20000 in
theorem fX7_back_met (l : Launch) (D : va_G) (y : ClassId) (yS : ClassId × ClassId) (q : Nat → Nat) (sz n : Nat) (a1 : Int32) (I : Nat → Int32) (R : Nat → Nat → Int32) (z : Int32 × mSt) (e0 : fX7_back n a1 I R = some z) : Met l yX7_back wsX7_back rmX7_back (va_Pc [.ref (q 0), .int a1] (cPre D y yS q sz I R)) (cQi D y yS q (cS y yS q sz) z) 0 0 (cS y yS q sz) := by
  refine Met.ofW (cc := cX7_back) (maxL := 2) (ret := some .int) (by decide) rfl ?_
  intro p e s m args below meth c s₁ B hml hv
  obtain ⟨rfl, hsz, hP, hK, hN, hD⟩ := hv
  subst hsz
  have hl := lv_entry ([.ref (q 0), .int a1]) (n := 2) (Nat.le_of_ble_eq_true rfl)
  rw [lg_entry_eq]
  exact fX7_back_w (s := s) ⟨⟨B.exec, B.bytes, hml, findClass_of_methodNamed B.named, atoms_spec (ws := wsX7_back) B.pre⟩, hK, hN⟩ ⟨B.returns, B.notSynchronized⟩ ⟨hP, cS_D hD, va_S.rf⟩ hl e0
theorem in_X7_areReadingsSo_X7 : ∀ w ∈ wsX70, w ∈ wsX7_areReadingsSo := fun _ h9 => List.mem_cons_of_mem _ (List.mem_append_left _ (List.mem_append_left _ (List.mem_append_left _ (List.mem_append_right _ h9))))
theorem in_X7_areReadingsSo_X6 : ∀ w ∈ wsX60, w ∈ wsX7_areReadingsSo := fun _ h9 => List.mem_cons_of_mem _ (List.mem_append_left _ (List.mem_append_left _ (List.mem_append_right _ h9)))
theorem in_X7_areReadingsSo_X0 : ∀ w ∈ wsX00, w ∈ wsX7_areReadingsSo := fun _ h9 => List.mem_cons_of_mem _ (List.mem_append_left _ (List.mem_append_right _ h9))
theorem in_X7_areReadingsSo_X3 : ∀ w ∈ wsX30, w ∈ wsX7_areReadingsSo := fun _ h9 => List.mem_cons_of_mem _ (List.mem_append_right _ h9)
def rmX7_areReadingsSo : Room := { frames := 2, cells := 0, slots := 0, locals := 42 }
def fX7_areReadingsSo_b2 (n : Nat) : Nat → Int32 → (Nat → Int32) → (Nat → Nat → Int32) → Option (Int32 × mSt)
  | 0, _, _, _ => none
  | j + 1, a1, I, R =>
    if (I 7) ≤ a1 then
      some (1, I, R)
    else
      if inb a1 8 = true then
      (fX0_cheapOf n 1 (getA R 5 a1) I R).bind fun z2 =>
      if inb a1 8 = true then
      if z2.1 = (getA z2.2.2 6 a1) then
        fX7_areReadingsSo_b2 n j (a1 + 1) z2.2.1 z2.2.2
      else
        some (0, z2.2.1, z2.2.2)
      else none
      else none
set_option maxRecDepth 20000 in
set_option maxHeartbeats 2000000 in
theorem fX7_areReadingsSo_b2_w {p : Program} {l : Launch} {e : Env} {s : State} {m : MethodId} {args : Array Value} {below : List Frame} {meth : Method} {c : Code} {D : va_G} {y : ClassId} {yS : ClassId × ClassId} {q : Nat → Nat} {n : Nat} {z : Int32 × mSt} (X : cX p s m args c cX7_areReadingsSo 2 wsX7_areReadingsSo RX7 D y yS) (hr : meth.sig.returnType = some .boolean ∧ meth.locks = false) : ∀ (j : Nat) (a1 : Int32) (I : Nat → Int32) (R : Nat → Nat → Int32) (H : Heap) (locs : List Loc) (ls : Array Slot), cH s D y yS q H locs I R → lv_has ls 2 [(0, .ref (q 0)), (1, .int a1)] → fX7_areReadingsSo_b2 n j a1 I R = some z → W p l e rmX7_areReadingsSo s m args below meth c H locs 0 0 (MQ below (cQi D y yS q (cS y yS q s.heap.size) z) args s 0 0 (cS y yS q s.heap.size)) (F0 m 2 ls []) := by
  have hx := X.1.1
  have hb := X.1.2.1
  intro j
  induction j with
  | zero =>
    intro a1 I R H locs ls w hl e0
    cases e0
  | succ j ih =>
    intro a1 I R H locs ls w hl e0
    rw [fX7_areReadingsSo_b2] at e0
    refine lv_iload_n hx hb dX7_areReadingsSo_2 rfl (lv_at hl 1 rfl) ?_
    refine lv_aload_n hx hb dX7_areReadingsSo_3 rfl (lv_at hl 0 rfl) ?_
    refine c_get X w (cat_RR _ _ _ _ _) rfl in_X7_areReadingsSo_X7 6 (by decide) (index := 97) rfl (by decide +kernel) (cf_RR_6 _ _) dX7_areReadingsSo_4 ?_
    refine lv_icmp_ge (tgt := 43) hx hb dX7_areReadingsSo_7 (by decide) (fun c6 => ?_) (fun c6 => ?_)
    · have e0 := itp _ c6 e0
      refine lv_iconst (v := 1) hx hb dX7_areReadingsSo_43 (by decide) ?_
      have e0 := Option.some.inj e0
      subst e0
      exact c_zret X w hr rfl dX7_areReadingsSo_44
    · have e0 := itn _ c6 e0
      refine lv_aload_n hx hb dX7_areReadingsSo_10 rfl (lv_at hl 0 rfl) ?_
      refine c_get X w (cat_RR _ _ _ _ _) rfl in_X7_areReadingsSo_X7 2 (by decide) (index := 25) rfl (by decide +kernel) (cf_RR_2 _ _) dX7_areReadingsSo_11 ?_
      refine c_get X w (cat_WO _ _ _ _ _ 1 (by decide)) rfl in_X7_areReadingsSo_X6 3 (by decide) (index := 187) rfl (by decide +kernel) (cf_WO_3 _ _ _) dX7_areReadingsSo_14 ?_
      refine lv_aload_n hx hb dX7_areReadingsSo_17 rfl (lv_at hl 0 rfl) ?_
      refine c_get X w (cat_RR _ _ _ _ _) rfl in_X7_areReadingsSo_X7 4 (by decide) (index := 35) rfl (by decide +kernel) (cf_RR_4 _ _) dX7_areReadingsSo_18 ?_
      refine lv_iload_n hx hb dX7_areReadingsSo_21 rfl (lv_at hl 1 rfl) ?_
      refine gd e0 (fun g1 e0 => ?_)
      refine c_ald X w (cat_a5 _ _ _ _ _) g1 dX7_areReadingsSo_22 ?_
      refine bd e0 (fun z2 e3 e0 => ?_)
      refine c_calli X w (c_rec X w (cat_CO _ _ _ _ _ 1 (by decide)) rfl) (n := 1) (As := [.int (getA R 5 a1)]) (rest := []) (fX0_cheapOf_met l _ _ _ _ _ _ _ (by decide) _ _ _ _ e3) gX7_areReadingsSo_X0_cheapOf rfl rfl rfl (by decide +kernel) ⟨Nat.le_of_ble_eq_true rfl, Nat.le_of_ble_eq_true rfl⟩ rfl hl.1 rfl (Nat.le_of_ble_eq_true rfl) dX7_areReadingsSo_23 (fun H locs w => ?_)
      refine lv_aload_n hx hb dX7_areReadingsSo_26 rfl (lv_at hl 0 rfl) ?_
      refine c_get X w (cat_RR _ _ _ _ _) rfl in_X7_areReadingsSo_X7 5 (by decide) (index := 39) rfl (by decide +kernel) (cf_RR_5 _ _) dX7_areReadingsSo_27 ?_
      refine lv_iload_n hx hb dX7_areReadingsSo_30 rfl (lv_at hl 1 rfl) ?_
      refine gd e0 (fun g4 e0 => ?_)
      refine c_ald X w (cat_a6 _ _ _ _ _) g4 dX7_areReadingsSo_31 ?_
      refine lv_icmp_eq (tgt := 37) hx hb dX7_areReadingsSo_32 (by decide) (fun c5 => ?_) (fun c5 => ?_)
      · have e0 := itp _ c5 e0
        refine lv_iinc (v := (a1 + 1)) (lv' := [(1, .int (a1 + 1)), (0, .ref (q 0))]) hx hb dX7_areReadingsSo_37 hl (k := 1) rfl rfl (by decide) rfl (fun ls hl => ?_)
        refine lv_goto (tgt := 2) hx hb dX7_areReadingsSo_40 (by decide) ?_
        exact ih _ _ _ _ _ _ w (lv_sub hl [1, 0] rfl) e0
      · have e0 := itn _ c5 e0
        refine lv_iconst (v := 0) hx hb dX7_areReadingsSo_35 (by decide) ?_
        have e0 := Option.some.inj e0
        subst e0
        exact c_zret X w hr rfl dX7_areReadingsSo_36
def fX7_areReadingsSo (n : Nat) (I : Nat → Int32) (R : Nat → Nat → Int32) : Option (Int32 × mSt) :=
  fX7_areReadingsSo_b2 n n 0 I R
set_option maxRecDepth 20000 in
set_option maxHeartbeats 2000000 in
theorem fX7_areReadingsSo_w {p : Program} {l : Launch} {e : Env} {s : State} {m : MethodId} {args : Array Value} {below : List Frame} {meth : Method} {c : Code} {D : va_G} {y : ClassId} {yS : ClassId × ClassId} {q : Nat → Nat} {n : Nat} {z : Int32 × mSt} (X : cX p s m args c cX7_areReadingsSo 2 wsX7_areReadingsSo RX7 D y yS) (hr : meth.sig.returnType = some .boolean ∧ meth.locks = false) {I : Nat → Int32} {R : Nat → Nat → Int32} {H : Heap} {locs : List Loc} {ls : Array Slot} (w : cH s D y yS q H locs I R) (hl : lv_has ls 2 [(0, .ref (q 0))]) (e0 : fX7_areReadingsSo n I R = some z) : W p l e rmX7_areReadingsSo s m args below meth c H locs 0 0 (MQ below (cQi D y yS q (cS y yS q s.heap.size) z) args s 0 0 (cS y yS q s.heap.size)) (F0 m 0 ls []) := by
  have hx := X.1.1
  have hb := X.1.2.1
  unfold fX7_areReadingsSo at e0
  refine lv_iconst (v := 0) hx hb dX7_areReadingsSo_0 (by decide) ?_
  refine lv_istore_n (lv' := [(1, .int 0), (0, .ref (q 0))]) hx hb dX7_areReadingsSo_1 rfl hl (by decide) rfl (fun ls hl => ?_)
  exact fX7_areReadingsSo_b2_w (l := l) X hr n _ _ _ _ _ _ w (lv_sub hl [1, 0] rfl) e0
set_option maxRecDepth 20000 in
theorem fX7_areReadingsSo_met (l : Launch) (D : va_G) (y : ClassId) (yS : ClassId × ClassId) (q : Nat → Nat) (sz n : Nat) (I : Nat → Int32) (R : Nat → Nat → Int32) (z : Int32 × mSt) (e0 : fX7_areReadingsSo n I R = some z) : Met l yX7_areReadingsSo wsX7_areReadingsSo rmX7_areReadingsSo (va_Pc [.ref (q 0)] (cPre D y yS q sz I R)) (cQi D y yS q (cS y yS q sz) z) 0 0 (cS y yS q sz) := by
  refine Met.ofW (cc := cX7_areReadingsSo) (maxL := 2) (ret := some .boolean) (by decide) rfl ?_
  intro p e s m args below meth c s₁ B hml hv
  obtain ⟨rfl, hsz, hP, hK, hN, hD⟩ := hv
  subst hsz
  have hl := lv_entry ([.ref (q 0)]) (n := 2) (Nat.le_of_ble_eq_true rfl)
  rw [lg_entry_eq]
  exact fX7_areReadingsSo_w (s := s) ⟨⟨B.exec, B.bytes, hml, findClass_of_methodNamed B.named, atoms_spec (ws := wsX7_areReadingsSo) B.pre⟩, hK, hN⟩ ⟨B.returns, B.notSynchronized⟩ ⟨hP, cS_D hD, va_S.rf⟩ hl e0
theorem in_X7_kinds_X7 : ∀ w ∈ wsX70, w ∈ wsX7_kinds := fun _ h9 => List.mem_cons_of_mem _ (List.mem_append_left _ (List.mem_append_left _ (List.mem_append_left _ (List.mem_append_left _ (List.mem_append_left _ (List.mem_append_right _ h9))))))
theorem in_X7_kinds_X6 : ∀ w ∈ wsX60, w ∈ wsX7_kinds := fun _ h9 => List.mem_cons_of_mem _ (List.mem_append_left _ (List.mem_append_left _ (List.mem_append_left _ (List.mem_append_left _ (List.mem_append_right _ h9)))))
theorem in_X7_kinds_X2 : ∀ w ∈ wsX20, w ∈ wsX7_kinds := fun _ h9 => List.mem_cons_of_mem _ (List.mem_append_left _ (List.mem_append_left _ (List.mem_append_left _ (List.mem_append_right _ h9))))
theorem in_X7_kinds_X1 : ∀ w ∈ wsX10, w ∈ wsX7_kinds := fun _ h9 => List.mem_cons_of_mem _ (List.mem_append_left _ (List.mem_append_left _ (List.mem_append_right _ h9)))
theorem in_X7_kinds_X3 : ∀ w ∈ wsX30, w ∈ wsX7_kinds := fun _ h9 => List.mem_cons_of_mem _ (List.mem_append_left _ (List.mem_append_right _ h9))
theorem in_X7_kinds_X0 : ∀ w ∈ wsX00, w ∈ wsX7_kinds := fun _ h9 => List.mem_cons_of_mem _ (List.mem_append_right _ h9)
def rmX7_kinds : Room := { frames := 6, cells := 0, slots := 0, locals := 133 }
def fX7_kinds_b73 (n : Nat) (k14 : Int32 → Int32 → Int32 → (Nat → Int32) → (Nat → Nat → Int32) → Option (Int32 × mSt)) (a1 : Int32) (a2 : Int32) (a3 : Int32) (I : Nat → Int32) (R : Nat → Nat → Int32) : Option (Int32 × mSt) :=
  k14 a1 a2 (a3 + 1) I R
set_option maxRecDepth 20000 in
set_option maxHeartbeats 2000000 in
theorem fX7_kinds_b73_w {p : Program} {l : Launch} {e : Env} {s : State} {m : MethodId} {args : Array Value} {below : List Frame} {meth : Method} {c : Code} {D : va_G} {y : ClassId} {yS : ClassId × ClassId} {q : Nat → Nat} {n : Nat} {z : Int32 × mSt} (X : cX p s m args c cX7_kinds 4 wsX7_kinds RX7 D y yS) (hr : meth.sig.returnType = some .int ∧ meth.locks = false) {k14 : Int32 → Int32 → Int32 → (Nat → Int32) → (Nat → Nat → Int32) → Option (Int32 × mSt)} (hk14 : ∀ (a1 : Int32) (a2 : Int32) (a3 : Int32) (I : Nat → Int32) (R : Nat → Nat → Int32) (H : Heap) (locs : List Loc) (ls : Array Slot), cH s D y yS q H locs I R → lv_has ls 4 [(0, .ref (q 0)), (1, .int a1), (2, .int a2), (3, .int a3)] → k14 a1 a2 a3 I R = some z → W p l e rmX7_kinds s m args below meth c H locs 0 0 (MQ below (cQi D y yS q (cS y yS q s.heap.size) z) args s 0 0 (cS y yS q s.heap.size)) (F0 m 14 ls [])) {a1 : Int32} {a2 : Int32} {a3 : Int32} {I : Nat → Int32} {R : Nat → Nat → Int32} {H : Heap} {locs : List Loc} {ls : Array Slot} (w : cH s D y yS q H locs I R) (hl : lv_has ls 4 [(0, .ref (q 0)), (1, .int a1), (2, .int a2), (3, .int a3)]) (e0 : fX7_kinds_b73 n k14 a1 a2 a3 I R = some z) : W p l e rmX7_kinds s m args below meth c H locs 0 0 (MQ below (cQi D y yS q (cS y yS q s.heap.size) z) args s 0 0 (cS y yS q s.heap.size)) (F0 m 73 ls []) := by
  have hx := X.1.1
  have hb := X.1.2.1
  unfold fX7_kinds_b73 at e0
  refine lv_iinc (v := (a3 + 1)) (lv' := [(3, .int (a3 + 1)), (0, .ref (q 0)), (1, .int a1), (2, .int a2)]) hx hb dX7_kinds_73 hl (k := 3) rfl rfl (by decide) rfl (fun ls hl => ?_)
  refine lv_goto (tgt := 14) hx hb dX7_kinds_76 (by decide) ?_
  exact hk14 _ _ _ _ _ _ _ _ w (lv_sub hl [1, 2, 3, 0] rfl) e0
def fX7_kinds_b60 (n : Nat) (k14 : Int32 → Int32 → Int32 → (Nat → Int32) → (Nat → Nat → Int32) → Option (Int32 × mSt)) (a1 : Int32) (a2 : Int32) (a3 : Int32) (I : Nat → Int32) (R : Nat → Nat → Int32) : Option (Int32 × mSt) :=
  (fX7_areReadingsSo n I R).bind fun z11 =>
  if z11.1 = 0 then
    fX7_kinds_b73 n k14 a1 a2 a3 z11.2.1 z11.2.2
  else
    fX7_kinds_b73 n k14 a1 (a2 ||| (1 <<< (a3 &&& 31))) a3 z11.2.1 z11.2.2
set_option maxRecDepth 20000 in
set_option maxHeartbeats 2000000 in
theorem fX7_kinds_b60_w {p : Program} {l : Launch} {e : Env} {s : State} {m : MethodId} {args : Array Value} {below : List Frame} {meth : Method} {c : Code} {D : va_G} {y : ClassId} {yS : ClassId × ClassId} {q : Nat → Nat} {n : Nat} {z : Int32 × mSt} (X : cX p s m args c cX7_kinds 4 wsX7_kinds RX7 D y yS) (hr : meth.sig.returnType = some .int ∧ meth.locks = false) {k14 : Int32 → Int32 → Int32 → (Nat → Int32) → (Nat → Nat → Int32) → Option (Int32 × mSt)} (hk14 : ∀ (a1 : Int32) (a2 : Int32) (a3 : Int32) (I : Nat → Int32) (R : Nat → Nat → Int32) (H : Heap) (locs : List Loc) (ls : Array Slot), cH s D y yS q H locs I R → lv_has ls 4 [(0, .ref (q 0)), (1, .int a1), (2, .int a2), (3, .int a3)] → k14 a1 a2 a3 I R = some z → W p l e rmX7_kinds s m args below meth c H locs 0 0 (MQ below (cQi D y yS q (cS y yS q s.heap.size) z) args s 0 0 (cS y yS q s.heap.size)) (F0 m 14 ls [])) {a1 : Int32} {a2 : Int32} {a3 : Int32} {I : Nat → Int32} {R : Nat → Nat → Int32} {H : Heap} {locs : List Loc} {ls : Array Slot} (w : cH s D y yS q H locs I R) (hl : lv_has ls 4 [(0, .ref (q 0)), (1, .int a1), (2, .int a2), (3, .int a3)]) (e0 : fX7_kinds_b60 n k14 a1 a2 a3 I R = some z) : W p l e rmX7_kinds s m args below meth c H locs 0 0 (MQ below (cQi D y yS q (cS y yS q s.heap.size) z) args s 0 0 (cS y yS q s.heap.size)) (F0 m 60 ls []) := by
  have hx := X.1.1
  have hb := X.1.2.1
  unfold fX7_kinds_b60 at e0
  refine lv_aload_n hx hb dX7_kinds_60 rfl (lv_at hl 0 rfl) ?_
  refine bd e0 (fun z11 e12 e0 => ?_)
  refine c_calli X w (c_rec X w (cat_RR _ _ _ _ _) rfl) (n := 0) (As := []) (rest := []) (fX7_areReadingsSo_met l _ _ _ _ _ _  _ _ _ e12) gX7_kinds_X7_areReadingsSo rfl rfl rfl (by decide +kernel) ⟨Nat.le_of_ble_eq_true rfl, Nat.le_of_ble_eq_true rfl⟩ rfl hl.1 rfl (Nat.le_of_ble_eq_true rfl) dX7_kinds_61 (fun H locs w => ?_)
  refine lv_if_eq (tgt := 73) hx hb dX7_kinds_64 (by decide) (fun c13 => ?_) (fun c13 => ?_)
  · have e0 := itp _ c13 e0
    exact fX7_kinds_b73_w (l := l) X hr hk14 w (lv_sub hl [0, 1, 2, 3] rfl) e0
  · have e0 := itn _ c13 e0
    refine lv_iload_n hx hb dX7_kinds_67 rfl (lv_at hl 2 rfl) ?_
    refine lv_iconst (v := 1) hx hb dX7_kinds_68 (by decide) ?_
    refine lv_iload_n hx hb dX7_kinds_69 rfl (lv_at hl 3 rfl) ?_
    refine lv_ishl hx hb dX7_kinds_70 ?_
    refine lv_ior hx hb dX7_kinds_71 ?_
    refine lv_istore_n (lv' := [(2, .int (a2 ||| (1 <<< (a3 &&& 31)))), (0, .ref (q 0)), (1, .int a1), (3, .int a3)]) hx hb dX7_kinds_72 rfl hl (by decide) rfl (fun ls hl => ?_)
    exact fX7_kinds_b73_w (l := l) X hr hk14 w (lv_sub hl [1, 2, 0, 3] rfl) e0
def fX7_kinds_b14 (n : Nat) : Nat → Int32 → Int32 → Int32 → (Nat → Int32) → (Nat → Nat → Int32) → Option (Int32 × mSt)
  | 0, _, _, _, _, _ => none
  | j + 1, a1, a2, a3, I, R =>
    if 3 ≤ a3 then
      some (a2, I, R)
    else
      (fX6_take n 1 0 I R).bind fun z4 =>
      if inb a1 5 = true then
      if (z4.1 7) ≤ 0 then
        fX7_kinds_b60 n (fX7_kinds_b14 n j) a1 a2 a3 z4.1 (setA z4.2 (111 + 100 * 1) a1 a3)
      else
        (fX6_settle n 1 z4.1 (setA z4.2 (111 + 100 * 1) a1 a3)).bind fun z7 =>
        fX7_kinds_b60 n (fX7_kinds_b14 n j) a1 a2 a3 z7.1 z7.2
      else none
set_option maxRecDepth 20000 in
set_option maxHeartbeats 2000000 in
theorem fX7_kinds_b14_w {p : Program} {l : Launch} {e : Env} {s : State} {m : MethodId} {args : Array Value} {below : List Frame} {meth : Method} {c : Code} {D : va_G} {y : ClassId} {yS : ClassId × ClassId} {q : Nat → Nat} {n : Nat} {z : Int32 × mSt} (X : cX p s m args c cX7_kinds 4 wsX7_kinds RX7 D y yS) (hr : meth.sig.returnType = some .int ∧ meth.locks = false) : ∀ (j : Nat) (a1 : Int32) (a2 : Int32) (a3 : Int32) (I : Nat → Int32) (R : Nat → Nat → Int32) (H : Heap) (locs : List Loc) (ls : Array Slot), cH s D y yS q H locs I R → lv_has ls 4 [(0, .ref (q 0)), (1, .int a1), (2, .int a2), (3, .int a3)] → fX7_kinds_b14 n j a1 a2 a3 I R = some z → W p l e rmX7_kinds s m args below meth c H locs 0 0 (MQ below (cQi D y yS q (cS y yS q s.heap.size) z) args s 0 0 (cS y yS q s.heap.size)) (F0 m 14 ls []) := by
  have hx := X.1.1
  have hb := X.1.2.1
  intro j
  induction j with
  | zero =>
    intro a1 a2 a3 I R H locs ls w hl e0
    cases e0
  | succ j ih =>
    intro a1 a2 a3 I R H locs ls w hl e0
    rw [fX7_kinds_b14] at e0
    refine lv_iload_n hx hb dX7_kinds_14 rfl (lv_at hl 3 rfl) ?_
    refine lv_iconst (v := 3) hx hb dX7_kinds_15 (by decide) ?_
    refine lv_icmp_ge (tgt := 79) hx hb dX7_kinds_16 (by decide) (fun c10 => ?_) (fun c10 => ?_)
    · have e0 := itp _ c10 e0
      refine lv_iload_n hx hb dX7_kinds_79 rfl (lv_at hl 2 rfl) ?_
      have e0 := Option.some.inj e0
      subst e0
      exact c_iret X w hr dX7_kinds_80
    · have e0 := itn _ c10 e0
      refine lv_aload_n hx hb dX7_kinds_19 rfl (lv_at hl 0 rfl) ?_
      refine c_get X w (cat_RR _ _ _ _ _) rfl in_X7_kinds_X7 2 (by decide) (index := 25) rfl (by decide +kernel) (cf_RR_2 _ _) dX7_kinds_20 ?_
      refine lv_aload_n hx hb dX7_kinds_23 rfl (lv_at hl 0 rfl) ?_
      refine c_get X w (cat_RR _ _ _ _ _) rfl in_X7_kinds_X7 1 (by decide) (index := 21) rfl (by decide +kernel) (cf_RR_1 _ _) dX7_kinds_24 ?_
      refine c_get X w (cat_WO _ _ _ _ _ 0 (by decide)) rfl in_X7_kinds_X6 0 (by decide) (index := 68) rfl (by decide +kernel) (cf_WO_0 _ _ _) dX7_kinds_27 ?_
      refine bd e0 (fun z4 e5 e0 => ?_)
      refine c_callv X w (c_rec X w (cat_WO _ _ _ _ _ 1 (by decide)) rfl) (n := 1) (As := [.ref (q (110 + 100 * 0))]) (rest := []) (fX6_take_met l _ _ _ _ _ _ _ (by decide) _ (by decide)  _ _ _ e5) gX7_kinds_X6_take rfl rfl rfl (by decide +kernel) ⟨Nat.le_of_ble_eq_true rfl, Nat.le_of_ble_eq_true rfl⟩ rfl hl.1 rfl (Nat.le_of_ble_eq_true rfl) dX7_kinds_30 (fun H locs w => ?_)
      refine lv_aload_n hx hb dX7_kinds_33 rfl (lv_at hl 0 rfl) ?_
      refine c_get X w (cat_RR _ _ _ _ _) rfl in_X7_kinds_X7 2 (by decide) (index := 25) rfl (by decide +kernel) (cf_RR_2 _ _) dX7_kinds_34 ?_
      refine c_get X w (cat_WO _ _ _ _ _ 1 (by decide)) rfl in_X7_kinds_X6 0 (by decide) (index := 68) rfl (by decide +kernel) (cf_WO_0 _ _ _) dX7_kinds_37 ?_
      refine c_get X w (cat_PR _ _ _ _ _ 1 (by decide)) rfl in_X7_kinds_X2 0 (by decide) (index := 108) rfl (by decide +kernel) (cf_PR_0 _ _ _) dX7_kinds_40 ?_
      refine lv_iload_n hx hb dX7_kinds_43 rfl (lv_at hl 1 rfl) ?_
      refine lv_iload_n hx hb dX7_kinds_44 rfl (lv_at hl 3 rfl) ?_
      refine gd e0 (fun g6 e0 => ?_)
      refine c_ast X w (cat_a111 _ _ _ _ _ 1 (by decide)) (cset_a111 _ _ _ _ _ 1 (by decide)) g6 dX7_kinds_45 (fun H locs w => ?_)
      refine lv_aload_n hx hb dX7_kinds_46 rfl (lv_at hl 0 rfl) ?_
      refine c_get X w (cat_RR _ _ _ _ _) rfl in_X7_kinds_X7 6 (by decide) (index := 97) rfl (by decide +kernel) (cf_RR_6 _ _) dX7_kinds_47 ?_
      refine lv_if_le (tgt := 60) hx hb dX7_kinds_50 (by decide) (fun c9 => ?_) (fun c9 => ?_)
      · have e0 := itp _ c9 e0
        exact fX7_kinds_b60_w (l := l) X hr ih w (lv_sub hl [0, 1, 2, 3] rfl) e0
      · have e0 := itn _ c9 e0
        refine lv_aload_n hx hb dX7_kinds_53 rfl (lv_at hl 0 rfl) ?_
        refine c_get X w (cat_RR _ _ _ _ _) rfl in_X7_kinds_X7 2 (by decide) (index := 25) rfl (by decide +kernel) (cf_RR_2 _ _) dX7_kinds_54 ?_
        refine bd e0 (fun z7 e8 e0 => ?_)
        refine c_callv X w (c_rec X w (cat_WO _ _ _ _ _ 1 (by decide)) rfl) (n := 0) (As := []) (rest := []) (fX6_settle_met l _ _ _ _ _ _ _ (by decide)  _ _ _ e8) gX7_kinds_X6_settle rfl rfl rfl (by decide +kernel) ⟨Nat.le_of_ble_eq_true rfl, Nat.le_of_ble_eq_true rfl⟩ rfl hl.1 rfl (Nat.le_of_ble_eq_true rfl) dX7_kinds_57 (fun H locs w => ?_)
        exact fX7_kinds_b60_w (l := l) X hr ih w (lv_sub hl [0, 1, 2, 3] rfl) e0
def fX7_kinds (n : Nat) (a1 : Int32) (I : Nat → Int32) (R : Nat → Nat → Int32) : Option (Int32 × mSt) :=
  (fX7_isRule n a1 I R).bind fun z1 =>
  if z1.1 = 0 then
    some ((-1), z1.2.1, z1.2.2)
  else
    fX7_kinds_b14 n n a1 0 0 z1.2.1 z1.2.2
set_option maxRecDepth 20000 in
set_option maxHeartbeats 2000000 in
theorem fX7_kinds_w {p : Program} {l : Launch} {e : Env} {s : State} {m : MethodId} {args : Array Value} {below : List Frame} {meth : Method} {c : Code} {D : va_G} {y : ClassId} {yS : ClassId × ClassId} {q : Nat → Nat} {n : Nat} {z : Int32 × mSt} (X : cX p s m args c cX7_kinds 4 wsX7_kinds RX7 D y yS) (hr : meth.sig.returnType = some .int ∧ meth.locks = false) {a1 : Int32} {I : Nat → Int32} {R : Nat → Nat → Int32} {H : Heap} {locs : List Loc} {ls : Array Slot} (w : cH s D y yS q H locs I R) (hl : lv_has ls 4 [(0, .ref (q 0)), (1, .int a1)]) (e0 : fX7_kinds n a1 I R = some z) : W p l e rmX7_kinds s m args below meth c H locs 0 0 (MQ below (cQi D y yS q (cS y yS q s.heap.size) z) args s 0 0 (cS y yS q s.heap.size)) (F0 m 0 ls []) := by
  have hx := X.1.1
  have hb := X.1.2.1
  unfold fX7_kinds at e0
  refine lv_aload_n hx hb dX7_kinds_0 rfl (lv_at hl 0 rfl) ?_
  refine lv_iload_n hx hb dX7_kinds_1 rfl (lv_at hl 1 rfl) ?_
  refine bd e0 (fun z1 e2 e0 => ?_)
  refine c_calli X w (c_rec X w (cat_RR _ _ _ _ _) rfl) (n := 1) (As := [.int a1]) (rest := []) (fX7_isRule_met l _ _ _ _ _ _ _ _ _ _ e2) gX7_kinds_X7_isRule rfl rfl rfl (by decide +kernel) ⟨Nat.le_of_ble_eq_true rfl, Nat.le_of_ble_eq_true rfl⟩ rfl hl.1 rfl (Nat.le_of_ble_eq_true rfl) dX7_kinds_2 (fun H locs w => ?_)
  refine lv_if_ne (tgt := 10) hx hb dX7_kinds_5 (by decide) (fun c3 => ?_) (fun c3 => ?_)
  · have e0 := itn _ c3 e0
    refine lv_iconst (v := 0) hx hb dX7_kinds_10 (by decide) ?_
    refine lv_istore_n (lv' := [(2, .int 0), (0, .ref (q 0)), (1, .int a1)]) hx hb dX7_kinds_11 rfl hl (by decide) rfl (fun ls hl => ?_)
    refine lv_iconst (v := 0) hx hb dX7_kinds_12 (by decide) ?_
    refine lv_istore_n (lv' := [(3, .int 0), (2, .int 0), (0, .ref (q 0)), (1, .int a1)]) hx hb dX7_kinds_13 rfl hl (by decide) rfl (fun ls hl => ?_)
    exact fX7_kinds_b14_w (l := l) X hr n _ _ _ _ _ _ _ _ w (lv_sub hl [2, 3, 1, 0] rfl) e0
  · have e0 := itp _ c3 e0
    refine lv_iconst (v := (-1)) hx hb dX7_kinds_8 (by decide) ?_
    have e0 := Option.some.inj e0
    subst e0
    exact c_iret X w hr dX7_kinds_9
set_option maxRecDepth 20000 in
theorem fX7_kinds_met (l : Launch) (D : va_G) (y : ClassId) (yS : ClassId × ClassId) (q : Nat → Nat) (sz n : Nat) (a1 : Int32) (I : Nat → Int32) (R : Nat → Nat → Int32) (z : Int32 × mSt) (e0 : fX7_kinds n a1 I R = some z) : Met l yX7_kinds wsX7_kinds rmX7_kinds (va_Pc [.ref (q 0), .int a1] (cPre D y yS q sz I R)) (cQi D y yS q (cS y yS q sz) z) 0 0 (cS y yS q sz) := by
  refine Met.ofW (cc := cX7_kinds) (maxL := 4) (ret := some .int) (by decide) rfl ?_
  intro p e s m args below meth c s₁ B hml hv
  obtain ⟨rfl, hsz, hP, hK, hN, hD⟩ := hv
  subst hsz
  have hl := lv_entry ([.ref (q 0), .int a1]) (n := 4) (Nat.le_of_ble_eq_true rfl)
  rw [lg_entry_eq]
  exact fX7_kinds_w (s := s) ⟨⟨B.exec, B.bytes, hml, findClass_of_methodNamed B.named, atoms_spec (ws := wsX7_kinds) B.pre⟩, hK, hN⟩ ⟨B.returns, B.notSynchronized⟩ ⟨hP, cS_D hD, va_S.rf⟩ hl e0
