theorem in_X5_letter_X5 : ∀ w ∈ wsX50, w ∈ wsX5_letter := fun _ h9 => List.mem_cons_of_mem _ (List.mem_append_right _ h9)
def rmX5_letter : Room := { frames := 4, cells := 0, slots := 0, locals := 111 }
def fX5_letter_b2 (n : Nat) (r1 : Nat) : Nat → Int32 → (Nat → Int32) → (Nat → Nat → Int32) → Option (Int32 × mSt)
  | 0, _, _, _ => none
  | j + 1, a2, I, R =>
    if (kLn r1) ≤ a2 then
      some (0, (upd I 54 1), R)
    else
      if inb a2 (kLen.getD r1 0) = true then
      (fX5_isNext n (kCh r1 a2) I R).bind fun z2 =>
      if z2.1 = 0 then
        fX5_letter_b2 n r1 j (a2 + 1) z2.2.1 z2.2.2
      else
        some (a2, (upd z2.2.1 53 ((z2.2.1 53) + 1)), z2.2.2)
      else none
set_option maxRecDepth 20000 in
set_option maxHeartbeats 2000000 in
theorem fX5_letter_b2_w {p : Program} {l : Launch} {e : Env} {s : State} {m : MethodId} {args : Array Value} {below : List Frame} {meth : Method} {c : Code} {D : va_G} {y : ClassId} {yS : ClassId × ClassId} {q : Nat → Nat} {adK adV : Nat → Nat} {n : Nat} {z : Int32 × mSt} {r1 : Nat} (hr1 : r1 < 3) (XS : cXS p s m args c cX5_letter 3 wsX5_letter RX5 D y yS q adK adV) (hr : meth.sig.returnType = some .int ∧ meth.locks = false) : ∀ (j : Nat) (a2 : Int32) (I : Nat → Int32) (R : Nat → Nat → Int32) (H : Heap) (locs : List Loc) (ls : Array Slot), cH s D y yS q H locs I R → lv_has ls 3 [(0, .ref (q 50)), (1, .ref (adK r1)), (2, .int a2)] → fX5_letter_b2 n r1 j a2 I R = some z → W p l e rmX5_letter s m args below meth c H locs 0 0 (MQ below (cQi D y yS q (cS y yS q s.heap.size) z) args s 0 0 (cS y yS q s.heap.size)) (F0 m 2 ls []) := by
  have X := XS.1
  have hx := X.1.1
  have hb := X.1.2.1
  intro j
  induction j with
  | zero =>
    intro a2 I R H locs ls w hl e0
    cases e0
  | succ j ih =>
    intro a2 I R H locs ls w hl e0
    rw [fX5_letter_b2] at e0
    refine lv_iload_n hx hb dX5_letter_2 rfl (lv_at hl 2 rfl) ?_
    refine lv_aload_n hx hb dX5_letter_3 rfl (lv_at hl 1 rfl) ?_
    refine c_len XS w hr1 gX5_letter_J0_length_8abf5 ⟨Nat.le_of_ble_eq_true rfl, Nat.le_of_ble_eq_true rfl⟩ hl.1 (rest := [.int a2]) (Nat.le_of_ble_eq_true rfl) dX5_letter_4 (fun H locs w => ?_)
    refine lv_icmp_ge (tgt := 40) hx hb dX5_letter_7 (by decide) (fun c5 => ?_) (fun c5 => ?_)
    · have e0 := itp _ c5 e0
      refine lv_aload_n hx hb dX5_letter_40 rfl (lv_at hl 0 rfl) ?_
      refine lv_iconst (v := 1) hx hb dX5_letter_41 (by decide) ?_
      refine c_put X w (cat_TR _ _ _ _ _) rfl in_X5_letter_X5 tyX5 tyX5_ok nmX5 3 (by decide) (index := 33) (ty := .boolean) rfl (by decide +kernel) rfl (by decide +kernel) rfl rfl (Nat.le_of_ble_eq_true rfl) (cset_TR_3 _ _ _ _ _ _) dX5_letter_42 (fun H locs w => ?_)
      refine lv_iconst (v := 0) hx hb dX5_letter_45 (by decide) ?_
      have e0 := Option.some.inj e0
      subst e0
      exact c_iret X w hr dX5_letter_46
    · have e0 := itn _ c5 e0
      refine lv_aload_n hx hb dX5_letter_10 rfl (lv_at hl 0 rfl) ?_
      refine lv_aload_n hx hb dX5_letter_11 rfl (lv_at hl 1 rfl) ?_
      refine lv_iload_n hx hb dX5_letter_12 rfl (lv_at hl 2 rfl) ?_
      refine gd e0 (fun g1 e0 => ?_)
      refine c_chr XS w hr1 g1 gX5_letter_J0_charAt_5068e ⟨Nat.le_of_ble_eq_true rfl, Nat.le_of_ble_eq_true rfl⟩ hl.1 (rest := [.ref (q 50)]) (Nat.le_of_ble_eq_true rfl) dX5_letter_13 (fun H locs w => ?_)
      refine bd e0 (fun z2 e3 e0 => ?_)
      refine c_calli X w (c_rec X w (cat_TR _ _ _ _ _) rfl) (n := 1) (As := [.int (kCh r1 a2)]) (rest := []) (fX5_isNext_met l _ _ _ _ _ _ _ _ _ _ e3) gX5_letter_X5_isNext rfl rfl rfl (by decide +kernel) ⟨Nat.le_of_ble_eq_true rfl, Nat.le_of_ble_eq_true rfl⟩ rfl hl.1 rfl (Nat.le_of_ble_eq_true rfl) dX5_letter_16 (fun H locs w => ?_)
      refine lv_if_eq (tgt := 34) hx hb dX5_letter_19 (by decide) (fun c4 => ?_) (fun c4 => ?_)
      · have e0 := itp _ c4 e0
        refine lv_iinc (v := (a2 + 1)) (lv' := [(2, .int (a2 + 1)), (0, .ref (q 50)), (1, .ref (adK r1))]) hx hb dX5_letter_34 hl (k := 2) rfl rfl (by decide) rfl (fun ls hl => ?_)
        refine lv_goto (tgt := 2) hx hb dX5_letter_37 (by decide) ?_
        exact ih _ _ _ _ _ _ w (lv_sub hl [1, 2, 0] rfl) e0
      · have e0 := itn _ c4 e0
        refine lv_aload_n hx hb dX5_letter_22 rfl (lv_at hl 0 rfl) ?_
        refine lv_dup hx hb dX5_letter_23 rfl ?_
        refine c_get X w (cat_TR _ _ _ _ _) rfl in_X5_letter_X5 2 (by decide) (index := 30) rfl (by decide +kernel) (cf_TR_2 _ _) dX5_letter_24 ?_
        refine lv_iconst (v := 1) hx hb dX5_letter_27 (by decide) ?_
        refine lv_iadd hx hb dX5_letter_28 ?_
        refine c_put X w (cat_TR _ _ _ _ _) rfl in_X5_letter_X5 tyX5 tyX5_ok nmX5 2 (by decide) (index := 30) (ty := .int) rfl (by decide +kernel) rfl (by decide +kernel) rfl rfl (Nat.le_of_ble_eq_true rfl) (cset_TR_2 _ _ _ _ _ _) dX5_letter_29 (fun H locs w => ?_)
        refine lv_iload_n hx hb dX5_letter_32 rfl (lv_at hl 2 rfl) ?_
        have e0 := Option.some.inj e0
        subst e0
        exact c_iret X w hr dX5_letter_33
def fX5_letter (n : Nat) (r1 : Nat) (I : Nat → Int32) (R : Nat → Nat → Int32) : Option (Int32 × mSt) :=
  fX5_letter_b2 n r1 n 0 I R
set_option maxRecDepth 20000 in
set_option maxHeartbeats 2000000 in
theorem fX5_letter_w {p : Program} {l : Launch} {e : Env} {s : State} {m : MethodId} {args : Array Value} {below : List Frame} {meth : Method} {c : Code} {D : va_G} {y : ClassId} {yS : ClassId × ClassId} {q : Nat → Nat} {adK adV : Nat → Nat} {n : Nat} {z : Int32 × mSt} {r1 : Nat} (hr1 : r1 < 3) (XS : cXS p s m args c cX5_letter 3 wsX5_letter RX5 D y yS q adK adV) (hr : meth.sig.returnType = some .int ∧ meth.locks = false) {I : Nat → Int32} {R : Nat → Nat → Int32} {H : Heap} {locs : List Loc} {ls : Array Slot} (w : cH s D y yS q H locs I R) (hl : lv_has ls 3 [(0, .ref (q 50)), (1, .ref (adK r1))]) (e0 : fX5_letter n r1 I R = some z) : W p l e rmX5_letter s m args below meth c H locs 0 0 (MQ below (cQi D y yS q (cS y yS q s.heap.size) z) args s 0 0 (cS y yS q s.heap.size)) (F0 m 0 ls []) := by
  have X := XS.1
  have hx := X.1.1
  have hb := X.1.2.1
  unfold fX5_letter at e0
  refine lv_iconst (v := 0) hx hb dX5_letter_0 (by decide) ?_
  refine lv_istore_n (lv' := [(2, .int 0), (0, .ref (q 50)), (1, .ref (adK r1))]) hx hb dX5_letter_1 rfl hl (by decide) rfl (fun ls hl => ?_)
  exact fX5_letter_b2_w (l := l) hr1 XS hr n _ _ _ _ _ _ w (lv_sub hl [1, 2, 0] rfl) e0
set_option maxRecDepth 20000 in
theorem fX5_letter_met (l : Launch) (D : va_G) (y : ClassId) (yS : ClassId × ClassId) (q adK adV : Nat → Nat) (sz n : Nat) (r1 : Nat) (hr1 : r1 < 3) (I : Nat → Int32) (R : Nat → Nat → Int32) (z : Int32 × mSt) (e0 : fX5_letter n r1 I R = some z) : Met l yX5_letter wsX5_letter rmX5_letter (va_Pc [.ref (q 50), .ref (adK r1)] (cPreS D y yS q adK adV sz I R)) (cQi D y yS q (cS y yS q sz) z) 0 0 (cS y yS q sz) := by
  refine Met.ofW (cc := cX5_letter) (maxL := 3) (ret := some .int) (by decide) rfl ?_
  intro p e s m args below meth c s₁ B hml hv
  obtain ⟨rfl, ⟨hsz, hP, hK, hN, hD⟩, hkS, hkR⟩ := hv
  subst hsz
  have hl := lv_entry ([.ref (q 50), .ref (adK r1)]) (n := 3) (Nat.le_of_ble_eq_true rfl)
  rw [lg_entry_eq]
  exact fX5_letter_w (s := s) hr1 ⟨⟨⟨B.exec, B.bytes, hml, findClass_of_methodNamed B.named, atoms_spec (ws := wsX5_letter) B.pre⟩, hK, hN⟩, hkS, hkR⟩ ⟨B.returns, B.notSynchronized⟩ ⟨hP, cS_D hD, va_S.rf⟩ hl e0
theorem in_X5_readRule_X5 : ∀ w ∈ wsX50, w ∈ wsX5_readRule := fun _ h9 => List.mem_cons_of_mem _ (List.mem_append_left _ (List.mem_append_right _ h9))
theorem in_X5_readRule_X2 : ∀ w ∈ wsX20, w ∈ wsX5_readRule := fun _ h9 => List.mem_cons_of_mem _ (List.mem_append_right _ h9)
def rmX5_readRule : Room := { frames := 5, cells := 0, slots := 0, locals := 133 }
def fX5_readRule_b114 (n : Nat) (r1 : Nat) (a2 : Int32) (t0 : Int32) (t1 : Int32) (I : Nat → Int32) (R : Nat → Nat → Int32) : Option (mSt) :=
  if inb t1 5 = true then
  some ((upd I (119 + 100 * r1) (a2 + 1)), (setA R (116 + 100 * r1) t1 t0))
  else none
set_option maxRecDepth 20000 in
set_option maxHeartbeats 2000000 in
theorem fX5_readRule_b114_w {p : Program} {l : Launch} {e : Env} {s : State} {m : MethodId} {args : Array Value} {below : List Frame} {meth : Method} {c : Code} {D : va_G} {y : ClassId} {yS : ClassId × ClassId} {q : Nat → Nat} {adK adV : Nat → Nat} {n : Nat} {z : mSt} {r1 : Nat} (hr1 : r1 < 2) (XS : cXS p s m args c cX5_readRule 3 wsX5_readRule RX5 D y yS q adK adV) (hr : meth.sig.returnType = none ∧ meth.locks = false) {a2 : Int32} {t0 : Int32} {t1 : Int32} {I : Nat → Int32} {R : Nat → Nat → Int32} {H : Heap} {locs : List Loc} {ls : Array Slot} (w : cH s D y yS q H locs I R) (hl : lv_has ls 3 [(0, .ref (q 50)), (1, .ref (q (110 + 100 * r1))), (2, .int a2)]) (e0 : fX5_readRule_b114 n r1 a2 t0 t1 I R = some z) : W p l e rmX5_readRule s m args below meth c H locs 0 0 (MQ below (cQv D y yS q (cS y yS q s.heap.size) z) args s 0 0 (cS y yS q s.heap.size)) (F0 m 114 ls [.int t0, .int t1, .ref (q (116 + 100 * r1))]) := by
  have X := XS.1
  have hx := X.1.1
  have hb := X.1.2.1
  unfold fX5_readRule_b114 at e0
  refine gd e0 (fun g21 e0 => ?_)
  refine c_ast X w (cat_a116 _ _ _ _ _ r1 hr1) (cset_a116 _ _ _ _ _ r1 hr1) g21 dX5_readRule_114 (fun H locs w => ?_)
  refine lv_aload_n hx hb dX5_readRule_115 rfl (lv_at hl 1 rfl) ?_
  refine lv_iload_n hx hb dX5_readRule_116 rfl (lv_at hl 2 rfl) ?_
  refine lv_iconst (v := 1) hx hb dX5_readRule_117 (by decide) ?_
  refine lv_iadd hx hb dX5_readRule_118 ?_
  refine c_put X w (cat_PR _ _ _ _ _ r1 hr1) rfl in_X5_readRule_X2 tyX2 tyX2_ok nmX2 8 (by decide) (index := 66) (ty := .int) rfl (by decide +kernel) rfl (by decide +kernel) rfl rfl (Nat.le_of_ble_eq_true rfl) (cset_PR_8 _ _ _ _ _ r1 hr1 _) dX5_readRule_119 (fun H locs w => ?_)
  have e0 := Option.some.inj e0
  subst e0
  exact c_vret X w hr dX5_readRule_122
def fX5_readRule (n : Nat) (r1 : Nat) (I : Nat → Int32) (R : Nat → Nat → Int32) : Option (mSt) :=
  (fX5_letter n 1 (upd I 53 ((I 53) + 1)) R).bind fun z1 =>
  if inb ((upd I 53 ((I 53) + 1)) (119 + 100 * r1)) 5 = true then
  (fX5_digit n 1 9 z1.2.1 (setA z1.2.2 (111 + 100 * r1) ((upd I 53 ((I 53) + 1)) (119 + 100 * r1)) z1.1)).bind fun z4 =>
  if inb ((upd I 53 ((I 53) + 1)) (119 + 100 * r1)) 5 = true then
  (fX5_letter n 2 z4.2.1 (setA z4.2.2 (112 + 100 * r1) ((upd I 53 ((I 53) + 1)) (119 + 100 * r1)) z4.1)).bind fun z7 =>
  if inb ((upd I 53 ((I 53) + 1)) (119 + 100 * r1)) 5 = true then
  (fX5_digit n 0 ((z7.2.1 (118 + 100 * r1)) - 1) z7.2.1 (setA z7.2.2 (113 + 100 * r1) ((upd I 53 ((I 53) + 1)) (119 + 100 * r1)) z7.1)).bind fun z10 =>
  if inb ((upd I 53 ((I 53) + 1)) (119 + 100 * r1)) 5 = true then
  (fX5_digit n 0 ((z10.2.1 (118 + 100 * r1)) - 1) z10.2.1 (setA z10.2.2 (114 + 100 * r1) ((upd I 53 ((I 53) + 1)) (119 + 100 * r1)) z10.1)).bind fun z13 =>
  if inb ((upd I 53 ((I 53) + 1)) (119 + 100 * r1)) 5 = true then
  (fX2_hasOther n r1 ((upd I 53 ((I 53) + 1)) (119 + 100 * r1)) z13.2.1 (setA z13.2.2 (115 + 100 * r1) ((upd I 53 ((I 53) + 1)) (119 + 100 * r1)) z13.1)).bind fun z16 =>
  if z16.1 = 0 then
    fX5_readRule_b114 n r1 ((upd I 53 ((I 53) + 1)) (119 + 100 * r1)) 0 ((upd I 53 ((I 53) + 1)) (119 + 100 * r1)) z16.2.1 z16.2.2
  else
    (fX5_digit n 0 ((z16.2.1 (118 + 100 * r1)) - 1) z16.2.1 z16.2.2).bind fun z18 =>
    fX5_readRule_b114 n r1 ((upd I 53 ((I 53) + 1)) (119 + 100 * r1)) z18.1 ((upd I 53 ((I 53) + 1)) (119 + 100 * r1)) z18.2.1 z18.2.2
  else none
  else none
  else none
  else none
  else none
set_option maxRecDepth 20000 in
set_option maxHeartbeats 2000000 in
theorem fX5_readRule_w {p : Program} {l : Launch} {e : Env} {s : State} {m : MethodId} {args : Array Value} {below : List Frame} {meth : Method} {c : Code} {D : va_G} {y : ClassId} {yS : ClassId × ClassId} {q : Nat → Nat} {adK adV : Nat → Nat} {n : Nat} {z : mSt} {r1 : Nat} (hr1 : r1 < 2) (XS : cXS p s m args c cX5_readRule 3 wsX5_readRule RX5 D y yS q adK adV) (hr : meth.sig.returnType = none ∧ meth.locks = false) {I : Nat → Int32} {R : Nat → Nat → Int32} {H : Heap} {locs : List Loc} {ls : Array Slot} (w : cH s D y yS q H locs I R) (hl : lv_has ls 3 [(0, .ref (q 50)), (1, .ref (q (110 + 100 * r1)))]) (e0 : fX5_readRule n r1 I R = some z) : W p l e rmX5_readRule s m args below meth c H locs 0 0 (MQ below (cQv D y yS q (cS y yS q s.heap.size) z) args s 0 0 (cS y yS q s.heap.size)) (F0 m 0 ls []) := by
  have X := XS.1
  have hx := X.1.1
  have hb := X.1.2.1
  unfold fX5_readRule at e0
  refine lv_aload_n hx hb dX5_readRule_0 rfl (lv_at hl 0 rfl) ?_
  refine lv_dup hx hb dX5_readRule_1 rfl ?_
  refine c_get X w (cat_TR _ _ _ _ _) rfl in_X5_readRule_X5 2 (by decide) (index := 30) rfl (by decide +kernel) (cf_TR_2 _ _) dX5_readRule_2 ?_
  refine lv_iconst (v := 1) hx hb dX5_readRule_5 (by decide) ?_
  refine lv_iadd hx hb dX5_readRule_6 ?_
  refine c_put X w (cat_TR _ _ _ _ _) rfl in_X5_readRule_X5 tyX5 tyX5_ok nmX5 2 (by decide) (index := 30) (ty := .int) rfl (by decide +kernel) rfl (by decide +kernel) rfl rfl (Nat.le_of_ble_eq_true rfl) (cset_TR_2 _ _ _ _ _ _) dX5_readRule_7 (fun H locs w => ?_)
  refine lv_aload_n hx hb dX5_readRule_10 rfl (lv_at hl 1 rfl) ?_
  refine c_get X w (cat_PR _ _ _ _ _ r1 hr1) rfl in_X5_readRule_X2 8 (by decide) (index := 66) rfl (by decide +kernel) (cf_PR_8 _ _ _) dX5_readRule_11 ?_
  refine lv_istore_n (lv' := [(2, .int ((upd I 53 ((I 53) + 1)) (119 + 100 * r1))), (0, .ref (q 50)), (1, .ref (q (110 + 100 * r1)))]) hx hb dX5_readRule_14 rfl hl (by decide) rfl (fun ls hl => ?_)
  refine lv_aload_n hx hb dX5_readRule_15 rfl (lv_at hl 2 rfl) ?_
  refine c_get X w (cat_PR _ _ _ _ _ r1 hr1) rfl in_X5_readRule_X2 0 (by decide) (index := 69) rfl (by decide +kernel) (cf_PR_0 _ _ _) dX5_readRule_16 ?_
  refine lv_iload_n hx hb dX5_readRule_19 rfl (lv_at hl 0 rfl) ?_
  refine lv_aload_n hx hb dX5_readRule_20 rfl (lv_at hl 1 rfl) ?_
  refine va_ldcS hx hb X.1.2.2.2.1 XS.2.2.2.1 dX5_readRule_21 ?_
  refine bd e0 (fun z1 e2 e0 => ?_)
  refine c_callSi XS w (c_rec X w (cat_TR _ _ _ _ _) rfl) (n := 1) (As := [.ref (adK 1)]) (rest := [.int ((upd I 53 ((I 53) + 1)) (119 + 100 * r1)), .ref (q (111 + 100 * r1))]) (fX5_letter_met l _ _ _ _ _ _ _ _ _ (by decide)  _ _ _ e2) gX5_readRule_X5_letter rfl rfl rfl (by decide +kernel) ⟨Nat.le_of_ble_eq_true rfl, Nat.le_of_ble_eq_true rfl⟩ rfl hl.1 rfl (Nat.le_of_ble_eq_true rfl) dX5_readRule_23 (fun H locs w => ?_)
  refine gd e0 (fun g3 e0 => ?_)
  refine c_ast X w (cat_a111 _ _ _ _ _ r1 hr1) (cset_a111 _ _ _ _ _ r1 hr1) g3 dX5_readRule_26 (fun H locs w => ?_)
  refine lv_aload_n hx hb dX5_readRule_27 rfl (lv_at hl 2 rfl) ?_
  refine c_get X w (cat_PR _ _ _ _ _ r1 hr1) rfl in_X5_readRule_X2 1 (by decide) (index := 74) rfl (by decide +kernel) (cf_PR_1 _ _ _) dX5_readRule_28 ?_
  refine lv_iload_n hx hb dX5_readRule_31 rfl (lv_at hl 0 rfl) ?_
  refine lv_aload_n hx hb dX5_readRule_32 rfl (lv_at hl 1 rfl) ?_
  refine lv_iconst (v := 1) hx hb dX5_readRule_33 (by decide) ?_
  refine lv_bipush (v := 9) hx hb dX5_readRule_34 (by decide) ?_
  refine bd e0 (fun z4 e5 e0 => ?_)
  refine c_calli X w (c_rec X w (cat_TR _ _ _ _ _) rfl) (n := 2) (As := [.int 1, .int 9]) (rest := [.int ((upd I 53 ((I 53) + 1)) (119 + 100 * r1)), .ref (q (112 + 100 * r1))]) (fX5_digit_met l _ _ _ _ _ _ _ _ _ _ _ e5) gX5_readRule_X5_digit rfl rfl rfl (by decide +kernel) ⟨Nat.le_of_ble_eq_true rfl, Nat.le_of_ble_eq_true rfl⟩ rfl hl.1 rfl (Nat.le_of_ble_eq_true rfl) dX5_readRule_36 (fun H locs w => ?_)
  refine gd e0 (fun g6 e0 => ?_)
  refine c_ast X w (cat_a112 _ _ _ _ _ r1 hr1) (cset_a112 _ _ _ _ _ r1 hr1) g6 dX5_readRule_39 (fun H locs w => ?_)
  refine lv_aload_n hx hb dX5_readRule_40 rfl (lv_at hl 2 rfl) ?_
  refine c_get X w (cat_PR _ _ _ _ _ r1 hr1) rfl in_X5_readRule_X2 2 (by decide) (index := 77) rfl (by decide +kernel) (cf_PR_2 _ _ _) dX5_readRule_41 ?_
  refine lv_iload_n hx hb dX5_readRule_44 rfl (lv_at hl 0 rfl) ?_
  refine lv_aload_n hx hb dX5_readRule_45 rfl (lv_at hl 1 rfl) ?_
  refine va_ldcS hx hb X.1.2.2.2.1 XS.2.2.2.2 dX5_readRule_46 ?_
  refine bd e0 (fun z7 e8 e0 => ?_)
  refine c_callSi XS w (c_rec X w (cat_TR _ _ _ _ _) rfl) (n := 1) (As := [.ref (adK 2)]) (rest := [.int ((upd I 53 ((I 53) + 1)) (119 + 100 * r1)), .ref (q (113 + 100 * r1))]) (fX5_letter_met l _ _ _ _ _ _ _ _ _ (by decide)  _ _ _ e8) gX5_readRule_X5_letter rfl rfl rfl (by decide +kernel) ⟨Nat.le_of_ble_eq_true rfl, Nat.le_of_ble_eq_true rfl⟩ rfl hl.1 rfl (Nat.le_of_ble_eq_true rfl) dX5_readRule_48 (fun H locs w => ?_)
  refine gd e0 (fun g9 e0 => ?_)
  refine c_ast X w (cat_a113 _ _ _ _ _ r1 hr1) (cset_a113 _ _ _ _ _ r1 hr1) g9 dX5_readRule_51 (fun H locs w => ?_)
  refine lv_aload_n hx hb dX5_readRule_52 rfl (lv_at hl 2 rfl) ?_
  refine c_get X w (cat_PR _ _ _ _ _ r1 hr1) rfl in_X5_readRule_X2 3 (by decide) (index := 82) rfl (by decide +kernel) (cf_PR_3 _ _ _) dX5_readRule_53 ?_
  refine lv_iload_n hx hb dX5_readRule_56 rfl (lv_at hl 0 rfl) ?_
  refine lv_aload_n hx hb dX5_readRule_57 rfl (lv_at hl 1 rfl) ?_
  refine lv_iconst (v := 0) hx hb dX5_readRule_58 (by decide) ?_
  refine lv_aload_n hx hb dX5_readRule_59 rfl (lv_at hl 2 rfl) ?_
  refine c_get X w (cat_PR _ _ _ _ _ r1 hr1) rfl in_X5_readRule_X2 7 (by decide) (index := 52) rfl (by decide +kernel) (cf_PR_7 _ _ _) dX5_readRule_60 ?_
  refine lv_iconst (v := 1) hx hb dX5_readRule_63 (by decide) ?_
  refine lv_isub hx hb dX5_readRule_64 ?_
  refine bd e0 (fun z10 e11 e0 => ?_)
  refine c_calli X w (c_rec X w (cat_TR _ _ _ _ _) rfl) (n := 2) (As := [.int 0, .int ((z7.2.1 (118 + 100 * r1)) - 1)]) (rest := [.int ((upd I 53 ((I 53) + 1)) (119 + 100 * r1)), .ref (q (114 + 100 * r1))]) (fX5_digit_met l _ _ _ _ _ _ _ _ _ _ _ e11) gX5_readRule_X5_digit rfl rfl rfl (by decide +kernel) ⟨Nat.le_of_ble_eq_true rfl, Nat.le_of_ble_eq_true rfl⟩ rfl hl.1 rfl (Nat.le_of_ble_eq_true rfl) dX5_readRule_65 (fun H locs w => ?_)
  refine gd e0 (fun g12 e0 => ?_)
  refine c_ast X w (cat_a114 _ _ _ _ _ r1 hr1) (cset_a114 _ _ _ _ _ r1 hr1) g12 dX5_readRule_68 (fun H locs w => ?_)
  refine lv_aload_n hx hb dX5_readRule_69 rfl (lv_at hl 2 rfl) ?_
  refine c_get X w (cat_PR _ _ _ _ _ r1 hr1) rfl in_X5_readRule_X2 4 (by decide) (index := 85) rfl (by decide +kernel) (cf_PR_4 _ _ _) dX5_readRule_70 ?_
  refine lv_iload_n hx hb dX5_readRule_73 rfl (lv_at hl 0 rfl) ?_
  refine lv_aload_n hx hb dX5_readRule_74 rfl (lv_at hl 1 rfl) ?_
  refine lv_iconst (v := 0) hx hb dX5_readRule_75 (by decide) ?_
  refine lv_aload_n hx hb dX5_readRule_76 rfl (lv_at hl 2 rfl) ?_
  refine c_get X w (cat_PR _ _ _ _ _ r1 hr1) rfl in_X5_readRule_X2 7 (by decide) (index := 52) rfl (by decide +kernel) (cf_PR_7 _ _ _) dX5_readRule_77 ?_
  refine lv_iconst (v := 1) hx hb dX5_readRule_80 (by decide) ?_
  refine lv_isub hx hb dX5_readRule_81 ?_
  refine bd e0 (fun z13 e14 e0 => ?_)
  refine c_calli X w (c_rec X w (cat_TR _ _ _ _ _) rfl) (n := 2) (As := [.int 0, .int ((z10.2.1 (118 + 100 * r1)) - 1)]) (rest := [.int ((upd I 53 ((I 53) + 1)) (119 + 100 * r1)), .ref (q (115 + 100 * r1))]) (fX5_digit_met l _ _ _ _ _ _ _ _ _ _ _ e14) gX5_readRule_X5_digit rfl rfl rfl (by decide +kernel) ⟨Nat.le_of_ble_eq_true rfl, Nat.le_of_ble_eq_true rfl⟩ rfl hl.1 rfl (Nat.le_of_ble_eq_true rfl) dX5_readRule_82 (fun H locs w => ?_)
  refine gd e0 (fun g15 e0 => ?_)
  refine c_ast X w (cat_a115 _ _ _ _ _ r1 hr1) (cset_a115 _ _ _ _ _ r1 hr1) g15 dX5_readRule_85 (fun H locs w => ?_)
  refine lv_aload_n hx hb dX5_readRule_86 rfl (lv_at hl 2 rfl) ?_
  refine c_get X w (cat_PR _ _ _ _ _ r1 hr1) rfl in_X5_readRule_X2 5 (by decide) (index := 88) rfl (by decide +kernel) (cf_PR_5 _ _ _) dX5_readRule_87 ?_
  refine lv_iload_n hx hb dX5_readRule_90 rfl (lv_at hl 0 rfl) ?_
  refine lv_aload_n hx hb dX5_readRule_91 rfl (lv_at hl 2 rfl) ?_
  refine lv_iload_n hx hb dX5_readRule_92 rfl (lv_at hl 0 rfl) ?_
  refine bd e0 (fun z16 e17 e0 => ?_)
  refine c_calli X w (c_rec X w (cat_PR _ _ _ _ _ r1 hr1) rfl) (n := 1) (As := [.int ((upd I 53 ((I 53) + 1)) (119 + 100 * r1))]) (rest := [.int ((upd I 53 ((I 53) + 1)) (119 + 100 * r1)), .ref (q (116 + 100 * r1))]) (fX2_hasOther_met l _ _ _ _ _ _ _ hr1 _ _ _ _ e17) gX5_readRule_X2_hasOther rfl rfl rfl (by decide +kernel) ⟨Nat.le_of_ble_eq_true rfl, Nat.le_of_ble_eq_true rfl⟩ rfl hl.1 rfl (Nat.le_of_ble_eq_true rfl) dX5_readRule_93 (fun H locs w => ?_)
  refine lv_if_eq (tgt := 113) hx hb dX5_readRule_96 (by decide) (fun c20 => ?_) (fun c20 => ?_)
  · have e0 := itp _ c20 e0
    refine lv_iconst (v := 0) hx hb dX5_readRule_113 (by decide) ?_
    exact fX5_readRule_b114_w (l := l) hr1 XS hr w (lv_sub hl [1, 2, 0] rfl) e0
  · have e0 := itn _ c20 e0
    refine lv_aload_n hx hb dX5_readRule_99 rfl (lv_at hl 1 rfl) ?_
    refine lv_iconst (v := 0) hx hb dX5_readRule_100 (by decide) ?_
    refine lv_aload_n hx hb dX5_readRule_101 rfl (lv_at hl 2 rfl) ?_
    refine c_get X w (cat_PR _ _ _ _ _ r1 hr1) rfl in_X5_readRule_X2 7 (by decide) (index := 52) rfl (by decide +kernel) (cf_PR_7 _ _ _) dX5_readRule_102 ?_
    refine lv_iconst (v := 1) hx hb dX5_readRule_105 (by decide) ?_
    refine lv_isub hx hb dX5_readRule_106 ?_
    refine bd e0 (fun z18 e19 e0 => ?_)
    refine c_calli X w (c_rec X w (cat_TR _ _ _ _ _) rfl) (n := 2) (As := [.int 0, .int ((z16.2.1 (118 + 100 * r1)) - 1)]) (rest := [.int ((upd I 53 ((I 53) + 1)) (119 + 100 * r1)), .ref (q (116 + 100 * r1))]) (fX5_digit_met l _ _ _ _ _ _ _ _ _ _ _ e19) gX5_readRule_X5_digit rfl rfl rfl (by decide +kernel) ⟨Nat.le_of_ble_eq_true rfl, Nat.le_of_ble_eq_true rfl⟩ rfl hl.1 rfl (Nat.le_of_ble_eq_true rfl) dX5_readRule_107 (fun H locs w => ?_)
    refine lv_goto (tgt := 114) hx hb dX5_readRule_110 (by decide) ?_
    exact fX5_readRule_b114_w (l := l) hr1 XS hr w (lv_sub hl [1, 2, 0] rfl) e0
set_option maxRecDepth 20000 in
theorem fX5_readRule_met (l : Launch) (D : va_G) (y : ClassId) (yS : ClassId × ClassId) (q adK adV : Nat → Nat) (sz n : Nat) (r1 : Nat) (hr1 : r1 < 2) (I : Nat → Int32) (R : Nat → Nat → Int32) (z : mSt) (e0 : fX5_readRule n r1 I R = some z) : Met l yX5_readRule wsX5_readRule rmX5_readRule (va_Pc [.ref (q 50), .ref (q (110 + 100 * r1))] (cPreS D y yS q adK adV sz I R)) (cQv D y yS q (cS y yS q sz) z) 0 0 (cS y yS q sz) := by
  refine Met.ofW (cc := cX5_readRule) (maxL := 3) (ret := none) (by decide) rfl ?_
  intro p e s m args below meth c s₁ B hml hv
  obtain ⟨rfl, ⟨hsz, hP, hK, hN, hD⟩, hkS, hkR⟩ := hv
  subst hsz
  have hl := lv_entry ([.ref (q 50), .ref (q (110 + 100 * r1))]) (n := 3) (Nat.le_of_ble_eq_true rfl)
  rw [lg_entry_eq]
  exact fX5_readRule_w (s := s) hr1 ⟨⟨⟨B.exec, B.bytes, hml, findClass_of_methodNamed B.named, atoms_spec (ws := wsX5_readRule) B.pre⟩, hK, hN⟩, hkS, hkR⟩ ⟨B.returns, B.notSynchronized⟩ ⟨hP, cS_D hD, va_S.rf⟩ hl e0
theorem in_X5_reads_X4 : ∀ w ∈ wsX40, w ∈ wsX5_reads := fun _ h9 => List.mem_cons_of_mem _ (List.mem_append_left _ (List.mem_append_left _ (List.mem_append_right _ h9)))
theorem in_X5_reads_X5 : ∀ w ∈ wsX50, w ∈ wsX5_reads := fun _ h9 => List.mem_cons_of_mem _ (List.mem_append_left _ (List.mem_append_right _ h9))
theorem in_X5_reads_X2 : ∀ w ∈ wsX20, w ∈ wsX5_reads := fun _ h9 => List.mem_cons_of_mem _ (List.mem_append_right _ h9)
def rmX5_reads : Room := { frames := 6, cells := 0, slots := 0, locals := 155 }
def fX5_reads_b112 (n : Nat) (r1 : Nat) (r4 : Nat) (I : Nat → Int32) (R : Nat → Nat → Int32) : Option (Int32 × mSt) :=
  if (I 54) = 0 then
    if (I 53) = (I 52) then
      some (1, I, R)
    else
      some (0, I, R)
  else
    some (0, I, R)
set_option maxRecDepth 20000 in
set_option maxHeartbeats 2000000 in
theorem fX5_reads_b112_w {p : Program} {l : Launch} {e : Env} {s : State} {m : MethodId} {args : Array Value} {below : List Frame} {meth : Method} {c : Code} {D : va_G} {y : ClassId} {yS : ClassId × ClassId} {q : Nat → Nat} {adK adV : Nat → Nat} {n : Nat} {z : Int32 × mSt} {r1 : Nat} (hr1 : r1 < 4) {r4 : Nat} (hr4 : r4 < 2) (XS : cXS p s m args c cX5_reads 6 wsX5_reads RX5 D y yS q adK adV) (hr : meth.sig.returnType = some .boolean ∧ meth.locks = false) {I : Nat → Int32} {R : Nat → Nat → Int32} {H : Heap} {locs : List Loc} {ls : Array Slot} (w : cH s D y yS q H locs I R) (hl : lv_has ls 6 [(0, .ref (q 50))]) (e0 : fX5_reads_b112 n r1 r4 I R = some z) : W p l e rmX5_reads s m args below meth c H locs 0 0 (MQ below (cQi D y yS q (cS y yS q s.heap.size) z) args s 0 0 (cS y yS q s.heap.size)) (F0 m 112 ls []) := by
  have X := XS.1
  have hx := X.1.1
  have hb := X.1.2.1
  unfold fX5_reads_b112 at e0
  refine lv_aload_n hx hb dX5_reads_112 rfl (lv_at hl 0 rfl) ?_
  refine c_get X w (cat_TR _ _ _ _ _) rfl in_X5_reads_X5 3 (by decide) (index := 33) rfl (by decide +kernel) (cf_TR_3 _ _) dX5_reads_113 ?_
  refine lv_if_ne (tgt := 134) hx hb dX5_reads_116 (by decide) (fun c21 => ?_) (fun c21 => ?_)
  · have e0 := itn _ c21 e0
    refine lv_iconst (v := 0) hx hb dX5_reads_134 (by decide) ?_
    have e0 := Option.some.inj e0
    subst e0
    exact c_zret X w hr rfl dX5_reads_135
  · have e0 := itp _ c21 e0
    refine lv_aload_n hx hb dX5_reads_119 rfl (lv_at hl 0 rfl) ?_
    refine c_get X w (cat_TR _ _ _ _ _) rfl in_X5_reads_X5 2 (by decide) (index := 30) rfl (by decide +kernel) (cf_TR_2 _ _) dX5_reads_120 ?_
    refine lv_aload_n hx hb dX5_reads_123 rfl (lv_at hl 0 rfl) ?_
    refine c_get X w (cat_TR _ _ _ _ _) rfl in_X5_reads_X5 1 (by decide) (index := 26) rfl (by decide +kernel) (cf_TR_1 _ _) dX5_reads_124 ?_
    refine lv_icmp_ne (tgt := 134) hx hb dX5_reads_127 (by decide) (fun c20 => ?_) (fun c20 => ?_)
    · have e0 := itn _ c20 e0
      refine lv_iconst (v := 0) hx hb dX5_reads_134 (by decide) ?_
      have e0 := Option.some.inj e0
      subst e0
      exact c_zret X w hr rfl dX5_reads_135
    · have e0 := itp _ c20 e0
      refine lv_iconst (v := 1) hx hb dX5_reads_130 (by decide) ?_
      refine lv_goto (tgt := 135) hx hb dX5_reads_131 (by decide) ?_
      have e0 := Option.some.inj e0
      subst e0
      exact c_zret X w hr rfl dX5_reads_135
def fX5_reads_b85 (n : Nat) (r1 : Nat) (r4 : Nat) : Nat → Int32 → (Nat → Int32) → (Nat → Nat → Int32) → Option (Int32 × mSt)
  | 0, _, _, _ => none
  | j + 1, a5, I, R =>
    if 5 ≤ a5 then
      fX5_reads_b112 n r1 r4 I R
    else
      (fX5_isNext n 44 I R).bind fun z14 =>
      if z14.1 = 0 then
        fX5_reads_b112 n r1 r4 z14.2.1 z14.2.2
      else
        (fX5_readTold n r4 z14.2.1 z14.2.2).bind fun z16 =>
        fX5_reads_b85 n r1 r4 j (a5 + 1) z16.1 z16.2
set_option maxRecDepth 20000 in
set_option maxHeartbeats 2000000 in
theorem fX5_reads_b85_w {p : Program} {l : Launch} {e : Env} {s : State} {m : MethodId} {args : Array Value} {below : List Frame} {meth : Method} {c : Code} {D : va_G} {y : ClassId} {yS : ClassId × ClassId} {q : Nat → Nat} {adK adV : Nat → Nat} {n : Nat} {z : Int32 × mSt} {r1 : Nat} (hr1 : r1 < 4) {r4 : Nat} (hr4 : r4 < 2) (XS : cXS p s m args c cX5_reads 6 wsX5_reads RX5 D y yS q adK adV) (hr : meth.sig.returnType = some .boolean ∧ meth.locks = false) : ∀ (j : Nat) (a5 : Int32) (I : Nat → Int32) (R : Nat → Nat → Int32) (H : Heap) (locs : List Loc) (ls : Array Slot), cH s D y yS q H locs I R → lv_has ls 6 [(0, .ref (q 50)), (4, .ref (q (110 + 100 * r4))), (5, .int a5)] → fX5_reads_b85 n r1 r4 j a5 I R = some z → W p l e rmX5_reads s m args below meth c H locs 0 0 (MQ below (cQi D y yS q (cS y yS q s.heap.size) z) args s 0 0 (cS y yS q s.heap.size)) (F0 m 85 ls []) := by
  have X := XS.1
  have hx := X.1.1
  have hb := X.1.2.1
  intro j
  induction j with
  | zero =>
    intro a5 I R H locs ls w hl e0
    cases e0
  | succ j ih =>
    intro a5 I R H locs ls w hl e0
    rw [fX5_reads_b85] at e0
    refine lv_iload hx hb dX5_reads_85 (lv_at hl 2 rfl) ?_
    refine lv_iconst (v := 5) hx hb dX5_reads_87 (by decide) ?_
    refine lv_icmp_ge (tgt := 112) hx hb dX5_reads_88 (by decide) (fun c19 => ?_) (fun c19 => ?_)
    · have e0 := itp _ c19 e0
      exact fX5_reads_b112_w (l := l) hr1 hr4 XS hr w (lv_sub hl [0] rfl) e0
    · have e0 := itn _ c19 e0
      refine lv_aload_n hx hb dX5_reads_91 rfl (lv_at hl 0 rfl) ?_
      refine lv_bipush (v := 44) hx hb dX5_reads_92 (by decide) ?_
      refine bd e0 (fun z14 e15 e0 => ?_)
      refine c_calli X w (c_rec X w (cat_TR _ _ _ _ _) rfl) (n := 1) (As := [.int 44]) (rest := []) (fX5_isNext_met l _ _ _ _ _ _ _ _ _ _ e15) gX5_reads_X5_isNext rfl rfl rfl (by decide +kernel) ⟨Nat.le_of_ble_eq_true rfl, Nat.le_of_ble_eq_true rfl⟩ rfl hl.1 rfl (Nat.le_of_ble_eq_true rfl) dX5_reads_94 (fun H locs w => ?_)
      refine lv_if_eq (tgt := 112) hx hb dX5_reads_97 (by decide) (fun c18 => ?_) (fun c18 => ?_)
      · have e0 := itp _ c18 e0
        exact fX5_reads_b112_w (l := l) hr1 hr4 XS hr w (lv_sub hl [0] rfl) e0
      · have e0 := itn _ c18 e0
        refine lv_aload_n hx hb dX5_reads_100 rfl (lv_at hl 0 rfl) ?_
        refine lv_aload hx hb dX5_reads_101 (lv_at hl 1 rfl) ?_
        refine bd e0 (fun z16 e17 e0 => ?_)
        refine c_callv X w (c_rec X w (cat_TR _ _ _ _ _) rfl) (n := 1) (As := [.ref (q (110 + 100 * r4))]) (rest := []) (fX5_readTold_met l _ _ _ _ _ _ _ hr4  _ _ _ e17) gX5_reads_X5_readTold rfl rfl rfl (by decide +kernel) ⟨Nat.le_of_ble_eq_true rfl, Nat.le_of_ble_eq_true rfl⟩ rfl hl.1 rfl (Nat.le_of_ble_eq_true rfl) dX5_reads_103 (fun H locs w => ?_)
        refine lv_iinc (v := (a5 + 1)) (lv' := [(5, .int (a5 + 1)), (0, .ref (q 50)), (4, .ref (q (110 + 100 * r4)))]) hx hb dX5_reads_106 hl (k := 2) rfl rfl (by decide) rfl (fun ls hl => ?_)
        refine lv_goto (tgt := 85) hx hb dX5_reads_109 (by decide) ?_
        exact ih _ _ _ _ _ _ w (lv_sub hl [1, 2, 0] rfl) e0
def fX5_reads_b82 (n : Nat) (r1 : Nat) (r4 : Nat) (I : Nat → Int32) (R : Nat → Nat → Int32) : Option (Int32 × mSt) :=
  fX5_reads_b85 n r1 r4 n 0 I R
set_option maxRecDepth 20000 in
set_option maxHeartbeats 2000000 in
theorem fX5_reads_b82_w {p : Program} {l : Launch} {e : Env} {s : State} {m : MethodId} {args : Array Value} {below : List Frame} {meth : Method} {c : Code} {D : va_G} {y : ClassId} {yS : ClassId × ClassId} {q : Nat → Nat} {adK adV : Nat → Nat} {n : Nat} {z : Int32 × mSt} {r1 : Nat} (hr1 : r1 < 4) {r4 : Nat} (hr4 : r4 < 2) (XS : cXS p s m args c cX5_reads 6 wsX5_reads RX5 D y yS q adK adV) (hr : meth.sig.returnType = some .boolean ∧ meth.locks = false) {I : Nat → Int32} {R : Nat → Nat → Int32} {H : Heap} {locs : List Loc} {ls : Array Slot} (w : cH s D y yS q H locs I R) (hl : lv_has ls 6 [(0, .ref (q 50)), (4, .ref (q (110 + 100 * r4)))]) (e0 : fX5_reads_b82 n r1 r4 I R = some z) : W p l e rmX5_reads s m args below meth c H locs 0 0 (MQ below (cQi D y yS q (cS y yS q s.heap.size) z) args s 0 0 (cS y yS q s.heap.size)) (F0 m 82 ls []) := by
  have X := XS.1
  have hx := X.1.1
  have hb := X.1.2.1
  unfold fX5_reads_b82 at e0
  refine lv_iconst (v := 0) hx hb dX5_reads_82 (by decide) ?_
  refine lv_istore (lv' := [(5, .int 0), (0, .ref (q 50)), (4, .ref (q (110 + 100 * r4)))]) hx hb dX5_reads_83 hl (by decide) rfl (fun ls hl => ?_)
  exact fX5_reads_b85_w (l := l) hr1 hr4 XS hr n _ _ _ _ _ _ w (lv_sub hl [1, 2, 0] rfl) e0
def fX5_reads_b55 (n : Nat) (r1 : Nat) (r4 : Nat) : Nat → Int32 → (Nat → Int32) → (Nat → Nat → Int32) → Option (Int32 × mSt)
  | 0, _, _, _ => none
  | j + 1, a5, I, R =>
    if 5 ≤ a5 then
      fX5_reads_b82 n r1 r4 I R
    else
      (fX5_isNext n 59 I R).bind fun z8 =>
      if z8.1 = 0 then
        fX5_reads_b82 n r1 r4 z8.2.1 z8.2.2
      else
        (fX5_readRule n r4 z8.2.1 z8.2.2).bind fun z10 =>
        fX5_reads_b55 n r1 r4 j (a5 + 1) z10.1 z10.2
set_option maxRecDepth 20000 in
set_option maxHeartbeats 2000000 in
theorem fX5_reads_b55_w {p : Program} {l : Launch} {e : Env} {s : State} {m : MethodId} {args : Array Value} {below : List Frame} {meth : Method} {c : Code} {D : va_G} {y : ClassId} {yS : ClassId × ClassId} {q : Nat → Nat} {adK adV : Nat → Nat} {n : Nat} {z : Int32 × mSt} {r1 : Nat} (hr1 : r1 < 4) {r4 : Nat} (hr4 : r4 < 2) (XS : cXS p s m args c cX5_reads 6 wsX5_reads RX5 D y yS q adK adV) (hr : meth.sig.returnType = some .boolean ∧ meth.locks = false) : ∀ (j : Nat) (a5 : Int32) (I : Nat → Int32) (R : Nat → Nat → Int32) (H : Heap) (locs : List Loc) (ls : Array Slot), cH s D y yS q H locs I R → lv_has ls 6 [(0, .ref (q 50)), (4, .ref (q (110 + 100 * r4))), (5, .int a5)] → fX5_reads_b55 n r1 r4 j a5 I R = some z → W p l e rmX5_reads s m args below meth c H locs 0 0 (MQ below (cQi D y yS q (cS y yS q s.heap.size) z) args s 0 0 (cS y yS q s.heap.size)) (F0 m 55 ls []) := by
  have X := XS.1
  have hx := X.1.1
  have hb := X.1.2.1
  intro j
  induction j with
  | zero =>
    intro a5 I R H locs ls w hl e0
    cases e0
  | succ j ih =>
    intro a5 I R H locs ls w hl e0
    rw [fX5_reads_b55] at e0
    refine lv_iload hx hb dX5_reads_55 (lv_at hl 2 rfl) ?_
    refine lv_iconst (v := 5) hx hb dX5_reads_57 (by decide) ?_
    refine lv_icmp_ge (tgt := 82) hx hb dX5_reads_58 (by decide) (fun c13 => ?_) (fun c13 => ?_)
    · have e0 := itp _ c13 e0
      exact fX5_reads_b82_w (l := l) hr1 hr4 XS hr w (lv_sub hl [0, 1] rfl) e0
    · have e0 := itn _ c13 e0
      refine lv_aload_n hx hb dX5_reads_61 rfl (lv_at hl 0 rfl) ?_
      refine lv_bipush (v := 59) hx hb dX5_reads_62 (by decide) ?_
      refine bd e0 (fun z8 e9 e0 => ?_)
      refine c_calli X w (c_rec X w (cat_TR _ _ _ _ _) rfl) (n := 1) (As := [.int 59]) (rest := []) (fX5_isNext_met l _ _ _ _ _ _ _ _ _ _ e9) gX5_reads_X5_isNext rfl rfl rfl (by decide +kernel) ⟨Nat.le_of_ble_eq_true rfl, Nat.le_of_ble_eq_true rfl⟩ rfl hl.1 rfl (Nat.le_of_ble_eq_true rfl) dX5_reads_64 (fun H locs w => ?_)
      refine lv_if_eq (tgt := 82) hx hb dX5_reads_67 (by decide) (fun c12 => ?_) (fun c12 => ?_)
      · have e0 := itp _ c12 e0
        exact fX5_reads_b82_w (l := l) hr1 hr4 XS hr w (lv_sub hl [0, 1] rfl) e0
      · have e0 := itn _ c12 e0
        refine lv_aload_n hx hb dX5_reads_70 rfl (lv_at hl 0 rfl) ?_
        refine lv_aload hx hb dX5_reads_71 (lv_at hl 1 rfl) ?_
        refine bd e0 (fun z10 e11 e0 => ?_)
        refine c_callSv XS w (c_rec X w (cat_TR _ _ _ _ _) rfl) (n := 1) (As := [.ref (q (110 + 100 * r4))]) (rest := []) (fX5_readRule_met l _ _ _ _ _ _ _ _ _ hr4  _ _ _ e11) gX5_reads_X5_readRule rfl rfl rfl (by decide +kernel) ⟨Nat.le_of_ble_eq_true rfl, Nat.le_of_ble_eq_true rfl⟩ rfl hl.1 rfl (Nat.le_of_ble_eq_true rfl) dX5_reads_73 (fun H locs w => ?_)
        refine lv_iinc (v := (a5 + 1)) (lv' := [(5, .int (a5 + 1)), (0, .ref (q 50)), (4, .ref (q (110 + 100 * r4)))]) hx hb dX5_reads_76 hl (k := 2) rfl rfl (by decide) rfl (fun ls hl => ?_)
        refine lv_goto (tgt := 55) hx hb dX5_reads_79 (by decide) ?_
        exact ih _ _ _ _ _ _ w (lv_sub hl [1, 2, 0] rfl) e0
def fX5_reads (n : Nat) (r1 : Nat) (r4 : Nat) (a2 : Int32) (a3 : Int32) (I : Nat → Int32) (R : Nat → Nat → Int32) : Option (Int32 × mSt) :=
  if cpOk 60 60 a2 0 a3 = true then
  (fX2_clear n r4 (upd (upd (upd I 52 a3) 53 0) 54 0) (cpA R (1001 + 10 * r1) 51 a2 0 a3)).bind fun z2 =>
  (fX5_letter n 0 z2.1 z2.2).bind fun z4 =>
  (fX5_digit n 1 4 z4.2.1 z4.2.2).bind fun z6 =>
  fX5_reads_b55 n r1 r4 n 0 (upd z6.2.1 (118 + 100 * r4) z6.1) z6.2.2
  else none
set_option maxRecDepth 20000 in
set_option maxHeartbeats 2000000 in
theorem fX5_reads_w {p : Program} {l : Launch} {e : Env} {s : State} {m : MethodId} {args : Array Value} {below : List Frame} {meth : Method} {c : Code} {D : va_G} {y : ClassId} {yS : ClassId × ClassId} {q : Nat → Nat} {adK adV : Nat → Nat} {n : Nat} {z : Int32 × mSt} {r1 : Nat} (hr1 : r1 < 4) {r4 : Nat} (hr4 : r4 < 2) (XS : cXS p s m args c cX5_reads 6 wsX5_reads RX5 D y yS q adK adV) (hr : meth.sig.returnType = some .boolean ∧ meth.locks = false) {a2 : Int32} {a3 : Int32} {I : Nat → Int32} {R : Nat → Nat → Int32} {H : Heap} {locs : List Loc} {ls : Array Slot} (w : cH s D y yS q H locs I R) (hl : lv_has ls 6 [(0, .ref (q 50)), (1, .ref (q (1000 + 10 * r1))), (2, .int a2), (3, .int a3), (4, .ref (q (110 + 100 * r4)))]) (e0 : fX5_reads n r1 r4 a2 a3 I R = some z) : W p l e rmX5_reads s m args below meth c H locs 0 0 (MQ below (cQi D y yS q (cS y yS q s.heap.size) z) args s 0 0 (cS y yS q s.heap.size)) (F0 m 0 ls []) := by
  have X := XS.1
  have hx := X.1.1
  have hb := X.1.2.1
  unfold fX5_reads at e0
  refine lv_aload_n hx hb dX5_reads_0 rfl (lv_at hl 1 rfl) ?_
  refine c_get X w (cat_SH _ _ _ _ _ r1 hr1) rfl in_X5_reads_X4 0 (by decide) (index := 15) rfl (by decide +kernel) (cf_SH_0 _ _ _) dX5_reads_1 ?_
  refine lv_iload_n hx hb dX5_reads_4 rfl (lv_at hl 2 rfl) ?_
  refine lv_aload_n hx hb dX5_reads_5 rfl (lv_at hl 0 rfl) ?_
  refine c_get X w (cat_TR _ _ _ _ _) rfl in_X5_reads_X5 0 (by decide) (index := 9) rfl (by decide +kernel) (cf_TR_0 _ _) dX5_reads_6 ?_
  refine lv_iconst (v := 0) hx hb dX5_reads_9 (by decide) ?_
  refine lv_iload_n hx hb dX5_reads_10 rfl (lv_at hl 3 rfl) ?_
  refine gd e0 (fun g1 e0 => ?_)
  refine c_copy X w (rest := []) hl.1 ⟨by decide +kernel, by decide +kernel, by decide +kernel, by decide +kernel⟩ (cat_a1001 _ _ _ _ _ r1 hr1) (cat_a51 _ _ _ _ _) (cset_a51 _ _ _ _ _) g1 (Nat.le_of_ble_eq_true rfl) (Nat.le_of_ble_eq_true rfl) dX5_reads_11 (fun H locs w => ?_)
  refine lv_aload_n hx hb dX5_reads_14 rfl (lv_at hl 0 rfl) ?_
  refine lv_iload_n hx hb dX5_reads_15 rfl (lv_at hl 3 rfl) ?_
  refine c_put X w (cat_TR _ _ _ _ _) rfl in_X5_reads_X5 tyX5 tyX5_ok nmX5 1 (by decide) (index := 26) (ty := .int) rfl (by decide +kernel) rfl (by decide +kernel) rfl rfl (Nat.le_of_ble_eq_true rfl) (cset_TR_1 _ _ _ _ _ _) dX5_reads_16 (fun H locs w => ?_)
  refine lv_aload_n hx hb dX5_reads_19 rfl (lv_at hl 0 rfl) ?_
  refine lv_iconst (v := 0) hx hb dX5_reads_20 (by decide) ?_
  refine c_put X w (cat_TR _ _ _ _ _) rfl in_X5_reads_X5 tyX5 tyX5_ok nmX5 2 (by decide) (index := 30) (ty := .int) rfl (by decide +kernel) rfl (by decide +kernel) rfl rfl (Nat.le_of_ble_eq_true rfl) (cset_TR_2 _ _ _ _ _ _) dX5_reads_21 (fun H locs w => ?_)
  refine lv_aload_n hx hb dX5_reads_24 rfl (lv_at hl 0 rfl) ?_
  refine lv_iconst (v := 0) hx hb dX5_reads_25 (by decide) ?_
  refine c_put X w (cat_TR _ _ _ _ _) rfl in_X5_reads_X5 tyX5 tyX5_ok nmX5 3 (by decide) (index := 33) (ty := .boolean) rfl (by decide +kernel) rfl (by decide +kernel) rfl rfl (Nat.le_of_ble_eq_true rfl) (cset_TR_3 _ _ _ _ _ _) dX5_reads_26 (fun H locs w => ?_)
  refine lv_aload hx hb dX5_reads_29 (lv_at hl 4 rfl) ?_
  refine bd e0 (fun z2 e3 e0 => ?_)
  refine c_callv X w (c_rec X w (cat_PR _ _ _ _ _ r4 hr4) rfl) (n := 0) (As := []) (rest := []) (fX2_clear_met l _ _ _ _ _ _ _ hr4  _ _ _ e3) gX5_reads_X2_clear rfl rfl rfl (by decide +kernel) ⟨Nat.le_of_ble_eq_true rfl, Nat.le_of_ble_eq_true rfl⟩ rfl hl.1 rfl (Nat.le_of_ble_eq_true rfl) dX5_reads_31 (fun H locs w => ?_)
  refine lv_aload_n hx hb dX5_reads_34 rfl (lv_at hl 0 rfl) ?_
  refine va_ldcS hx hb X.1.2.2.2.1 XS.2.2.1 dX5_reads_35 ?_
  refine bd e0 (fun z4 e5 e0 => ?_)
  refine c_callSi XS w (c_rec X w (cat_TR _ _ _ _ _) rfl) (n := 1) (As := [.ref (adK 0)]) (rest := []) (fX5_letter_met l _ _ _ _ _ _ _ _ _ (by decide)  _ _ _ e5) gX5_reads_X5_letter rfl rfl rfl (by decide +kernel) ⟨Nat.le_of_ble_eq_true rfl, Nat.le_of_ble_eq_true rfl⟩ rfl hl.1 rfl (Nat.le_of_ble_eq_true rfl) dX5_reads_37 (fun H locs w => ?_)
  refine lv_pop hx hb dX5_reads_40 rfl ?_
  refine lv_aload hx hb dX5_reads_41 (lv_at hl 4 rfl) ?_
  refine lv_aload_n hx hb dX5_reads_43 rfl (lv_at hl 0 rfl) ?_
  refine lv_iconst (v := 1) hx hb dX5_reads_44 (by decide) ?_
  refine lv_iconst (v := 4) hx hb dX5_reads_45 (by decide) ?_
  refine bd e0 (fun z6 e7 e0 => ?_)
  refine c_calli X w (c_rec X w (cat_TR _ _ _ _ _) rfl) (n := 2) (As := [.int 1, .int 4]) (rest := [.ref (q (110 + 100 * r4))]) (fX5_digit_met l _ _ _ _ _ _ _ _ _ _ _ e7) gX5_reads_X5_digit rfl rfl rfl (by decide +kernel) ⟨Nat.le_of_ble_eq_true rfl, Nat.le_of_ble_eq_true rfl⟩ rfl hl.1 rfl (Nat.le_of_ble_eq_true rfl) dX5_reads_46 (fun H locs w => ?_)
  refine c_put X w (cat_PR _ _ _ _ _ r4 hr4) rfl in_X5_reads_X2 tyX2 tyX2_ok nmX2 7 (by decide) (index := 52) (ty := .int) rfl (by decide +kernel) rfl (by decide +kernel) rfl rfl (Nat.le_of_ble_eq_true rfl) (cset_PR_7 _ _ _ _ _ r4 hr4 _) dX5_reads_49 (fun H locs w => ?_)
  refine lv_iconst (v := 0) hx hb dX5_reads_52 (by decide) ?_
  refine lv_istore (lv' := [(5, .int 0), (0, .ref (q 50)), (1, .ref (q (1000 + 10 * r1))), (2, .int a2), (3, .int a3), (4, .ref (q (110 + 100 * r4)))]) hx hb dX5_reads_53 hl (by decide) rfl (fun ls hl => ?_)
  exact fX5_reads_b55_w (l := l) hr1 hr4 XS hr n _ _ _ _ _ _ w (lv_sub hl [1, 5, 0] rfl) e0
set_option maxRecDepth 20000 in
theorem fX5_reads_met (l : Launch) (D : va_G) (y : ClassId) (yS : ClassId × ClassId) (q adK adV : Nat → Nat) (sz n : Nat) (r1 : Nat) (hr1 : r1 < 4) (r4 : Nat) (hr4 : r4 < 2) (a2 : Int32) (a3 : Int32) (I : Nat → Int32) (R : Nat → Nat → Int32) (z : Int32 × mSt) (e0 : fX5_reads n r1 r4 a2 a3 I R = some z) : Met l yX5_reads wsX5_reads rmX5_reads (va_Pc [.ref (q 50), .ref (q (1000 + 10 * r1)), .int a2, .int a3, .ref (q (110 + 100 * r4))] (cPreS D y yS q adK adV sz I R)) (cQi D y yS q (cS y yS q sz) z) 0 0 (cS y yS q sz) := by
  refine Met.ofW (cc := cX5_reads) (maxL := 6) (ret := some .boolean) (by decide) rfl ?_
  intro p e s m args below meth c s₁ B hml hv
  obtain ⟨rfl, ⟨hsz, hP, hK, hN, hD⟩, hkS, hkR⟩ := hv
  subst hsz
  have hl := lv_entry ([.ref (q 50), .ref (q (1000 + 10 * r1)), .int a2, .int a3, .ref (q (110 + 100 * r4))]) (n := 6) (Nat.le_of_ble_eq_true rfl)
  rw [lg_entry_eq]
  exact fX5_reads_w (s := s) hr1 hr4 ⟨⟨⟨B.exec, B.bytes, hml, findClass_of_methodNamed B.named, atoms_spec (ws := wsX5_reads) B.pre⟩, hK, hN⟩, hkS, hkR⟩ ⟨B.returns, B.notSynchronized⟩ ⟨hP, cS_D hD, va_S.rf⟩ hl e0
theorem in_X7_programOf_X7 : ∀ w ∈ wsX70, w ∈ wsX7_programOf := fun _ h9 => List.mem_cons_of_mem _ (List.mem_append_left _ (List.mem_append_left _ (List.mem_append_left _ (List.mem_append_left _ (List.mem_append_left _ (List.mem_append_right _ h9))))))
theorem in_X7_programOf_X6 : ∀ w ∈ wsX60, w ∈ wsX7_programOf := fun _ h9 => List.mem_cons_of_mem _ (List.mem_append_left _ (List.mem_append_left _ (List.mem_append_left _ (List.mem_append_left _ (List.mem_append_right _ h9)))))
theorem in_X7_programOf_X5 : ∀ w ∈ wsX50, w ∈ wsX7_programOf := fun _ h9 => List.mem_cons_of_mem _ (List.mem_append_left _ (List.mem_append_left _ (List.mem_append_left _ (List.mem_append_right _ h9))))
theorem in_X7_programOf_X2 : ∀ w ∈ wsX20, w ∈ wsX7_programOf := fun _ h9 => List.mem_cons_of_mem _ (List.mem_append_left _ (List.mem_append_left _ (List.mem_append_right _ h9)))
theorem in_X7_programOf_X4 : ∀ w ∈ wsX40, w ∈ wsX7_programOf := fun _ h9 => List.mem_cons_of_mem _ (List.mem_append_left _ (List.mem_append_right _ h9))
theorem in_X7_programOf_X1 : ∀ w ∈ wsX10, w ∈ wsX7_programOf := fun _ h9 => List.mem_cons_of_mem _ (List.mem_append_right _ h9)
def rmX7_programOf : Room := { frames := 7, cells := 0, slots := 0, locals := 180 }
def fX7_programOf (n : Nat) (r1 : Nat) (a2 : Int32) (a3 : Int32) (I : Nat → Int32) (R : Nat → Nat → Int32) : Option (Int32 × mSt) :=
  (fX5_reads n r1 1 a2 a3 I R).bind fun z1 =>
  if z1.1 = 0 then
    some (((-100) - (z1.2.1 53)), z1.2.1, z1.2.2)
  else
    (fX1_find n 1 z1.2.1 z1.2.2).bind fun z3 =>
    if z3.1 = 0 then
      (fX1_goingRound n 1 z3.2.1 z3.2.2).bind fun z7 =>
      some (((-200) - z7.1), z7.2.1, z7.2.2)
    else
      (fX6_take n 0 1 z3.2.1 z3.2.2).bind fun z5 =>
      some (((upd z5.1 7 0) (119 + 100 * 0)), (upd z5.1 7 0), z5.2)
set_option maxRecDepth 20000 in
set_option maxHeartbeats 2000000 in
theorem fX7_programOf_w {p : Program} {l : Launch} {e : Env} {s : State} {m : MethodId} {args : Array Value} {below : List Frame} {meth : Method} {c : Code} {D : va_G} {y : ClassId} {yS : ClassId × ClassId} {q : Nat → Nat} {adK adV : Nat → Nat} {n : Nat} {z : Int32 × mSt} {r1 : Nat} (hr1 : r1 < 4) (XS : cXS p s m args c cX7_programOf 4 wsX7_programOf RX7 D y yS q adK adV) (hr : meth.sig.returnType = some .int ∧ meth.locks = false) {a2 : Int32} {a3 : Int32} {I : Nat → Int32} {R : Nat → Nat → Int32} {H : Heap} {locs : List Loc} {ls : Array Slot} (w : cH s D y yS q H locs I R) (hl : lv_has ls 4 [(0, .ref (q 0)), (1, .ref (q (1000 + 10 * r1))), (2, .int a2), (3, .int a3)]) (e0 : fX7_programOf n r1 a2 a3 I R = some z) : W p l e rmX7_programOf s m args below meth c H locs 0 0 (MQ below (cQi D y yS q (cS y yS q s.heap.size) z) args s 0 0 (cS y yS q s.heap.size)) (F0 m 0 ls []) := by
  have X := XS.1
  have hx := X.1.1
  have hb := X.1.2.1
  unfold fX7_programOf at e0
  refine lv_aload_n hx hb dX7_programOf_0 rfl (lv_at hl 0 rfl) ?_
  refine c_get X w (cat_RR _ _ _ _ _) rfl in_X7_programOf_X7 3 (by decide) (index := 31) rfl (by decide +kernel) (cf_RR_3 _ _) dX7_programOf_1 ?_
  refine lv_aload_n hx hb dX7_programOf_4 rfl (lv_at hl 1 rfl) ?_
  refine lv_iload_n hx hb dX7_programOf_5 rfl (lv_at hl 2 rfl) ?_
  refine lv_iload_n hx hb dX7_programOf_6 rfl (lv_at hl 3 rfl) ?_
  refine lv_aload_n hx hb dX7_programOf_7 rfl (lv_at hl 0 rfl) ?_
  refine c_get X w (cat_RR _ _ _ _ _) rfl in_X7_programOf_X7 2 (by decide) (index := 25) rfl (by decide +kernel) (cf_RR_2 _ _) dX7_programOf_8 ?_
  refine c_get X w (cat_WO _ _ _ _ _ 1 (by decide)) rfl in_X7_programOf_X6 0 (by decide) (index := 68) rfl (by decide +kernel) (cf_WO_0 _ _ _) dX7_programOf_11 ?_
  refine bd e0 (fun z1 e2 e0 => ?_)
  refine c_callSi XS w (c_rec X w (cat_TR _ _ _ _ _) rfl) (n := 4) (As := [.ref (q (1000 + 10 * r1)), .int a2, .int a3, .ref (q (110 + 100 * 1))]) (rest := []) (fX5_reads_met l _ _ _ _ _ _ _ _ _ hr1 _ (by decide) _ _ _ _ _ e2) gX7_programOf_X5_reads rfl rfl rfl (by decide +kernel) ⟨Nat.le_of_ble_eq_true rfl, Nat.le_of_ble_eq_true rfl⟩ rfl hl.1 rfl (Nat.le_of_ble_eq_true rfl) dX7_programOf_14 (fun H locs w => ?_)
  refine lv_if_ne (tgt := 31) hx hb dX7_programOf_17 (by decide) (fun c10 => ?_) (fun c10 => ?_)
  · have e0 := itn _ c10 e0
    refine lv_aload_n hx hb dX7_programOf_31 rfl (lv_at hl 0 rfl) ?_
    refine c_get X w (cat_RR _ _ _ _ _) rfl in_X7_programOf_X7 2 (by decide) (index := 25) rfl (by decide +kernel) (cf_RR_2 _ _) dX7_programOf_32 ?_
    refine c_get X w (cat_WO _ _ _ _ _ 1 (by decide)) rfl in_X7_programOf_X6 1 (by decide) (index := 79) rfl (by decide +kernel) (cf_WO_1 _ _ _) dX7_programOf_35 ?_
    refine bd e0 (fun z3 e4 e0 => ?_)
    refine c_calli X w (c_rec X w (cat_LA _ _ _ _ _ 1 (by decide)) rfl) (n := 0) (As := []) (rest := []) (fX1_find_met l _ _ _ _ _ _ _ (by decide)  _ _ _ e4) gX7_programOf_X1_find rfl rfl rfl (by decide +kernel) ⟨Nat.le_of_ble_eq_true rfl, Nat.le_of_ble_eq_true rfl⟩ rfl hl.1 rfl (Nat.le_of_ble_eq_true rfl) dX7_programOf_38 (fun H locs w => ?_)
    refine lv_if_ne (tgt := 59) hx hb dX7_programOf_41 (by decide) (fun c9 => ?_) (fun c9 => ?_)
    · have e0 := itn _ c9 e0
      refine lv_aload_n hx hb dX7_programOf_59 rfl (lv_at hl 0 rfl) ?_
      refine c_get X w (cat_RR _ _ _ _ _) rfl in_X7_programOf_X7 1 (by decide) (index := 21) rfl (by decide +kernel) (cf_RR_1 _ _) dX7_programOf_60 ?_
      refine lv_aload_n hx hb dX7_programOf_63 rfl (lv_at hl 0 rfl) ?_
      refine c_get X w (cat_RR _ _ _ _ _) rfl in_X7_programOf_X7 2 (by decide) (index := 25) rfl (by decide +kernel) (cf_RR_2 _ _) dX7_programOf_64 ?_
      refine c_get X w (cat_WO _ _ _ _ _ 1 (by decide)) rfl in_X7_programOf_X6 0 (by decide) (index := 68) rfl (by decide +kernel) (cf_WO_0 _ _ _) dX7_programOf_67 ?_
      refine bd e0 (fun z5 e6 e0 => ?_)
      refine c_callv X w (c_rec X w (cat_WO _ _ _ _ _ 0 (by decide)) rfl) (n := 1) (As := [.ref (q (110 + 100 * 1))]) (rest := []) (fX6_take_met l _ _ _ _ _ _ _ (by decide) _ (by decide)  _ _ _ e6) gX7_programOf_X6_take rfl rfl rfl (by decide +kernel) ⟨Nat.le_of_ble_eq_true rfl, Nat.le_of_ble_eq_true rfl⟩ rfl hl.1 rfl (Nat.le_of_ble_eq_true rfl) dX7_programOf_70 (fun H locs w => ?_)
      refine lv_aload_n hx hb dX7_programOf_73 rfl (lv_at hl 0 rfl) ?_
      refine lv_iconst (v := 0) hx hb dX7_programOf_74 (by decide) ?_
      refine c_put X w (cat_RR _ _ _ _ _) rfl in_X7_programOf_X7 tyX7 tyX7_ok nmX7 6 (by decide) (index := 97) (ty := .int) rfl (by decide +kernel) rfl (by decide +kernel) rfl rfl (Nat.le_of_ble_eq_true rfl) (cset_RR_6 _ _ _ _ _ _) dX7_programOf_75 (fun H locs w => ?_)
      refine lv_aload_n hx hb dX7_programOf_78 rfl (lv_at hl 0 rfl) ?_
      refine c_get X w (cat_RR _ _ _ _ _) rfl in_X7_programOf_X7 1 (by decide) (index := 21) rfl (by decide +kernel) (cf_RR_1 _ _) dX7_programOf_79 ?_
      refine c_get X w (cat_WO _ _ _ _ _ 0 (by decide)) rfl in_X7_programOf_X6 0 (by decide) (index := 68) rfl (by decide +kernel) (cf_WO_0 _ _ _) dX7_programOf_82 ?_
      refine c_get X w (cat_PR _ _ _ _ _ 0 (by decide)) rfl in_X7_programOf_X2 8 (by decide) (index := 100) rfl (by decide +kernel) (cf_PR_8 _ _ _) dX7_programOf_85 ?_
      have e0 := Option.some.inj e0
      subst e0
      exact c_iret X w hr dX7_programOf_88
    · have e0 := itp _ c9 e0
      refine lv_sipush (v := (-200)) hx hb dX7_programOf_44 (by decide) ?_
      refine lv_aload_n hx hb dX7_programOf_47 rfl (lv_at hl 0 rfl) ?_
      refine c_get X w (cat_RR _ _ _ _ _) rfl in_X7_programOf_X7 2 (by decide) (index := 25) rfl (by decide +kernel) (cf_RR_2 _ _) dX7_programOf_48 ?_
      refine c_get X w (cat_WO _ _ _ _ _ 1 (by decide)) rfl in_X7_programOf_X6 1 (by decide) (index := 79) rfl (by decide +kernel) (cf_WO_1 _ _ _) dX7_programOf_51 ?_
      refine bd e0 (fun z7 e8 e0 => ?_)
      refine c_calli X w (c_rec X w (cat_LA _ _ _ _ _ 1 (by decide)) rfl) (n := 0) (As := []) (rest := [.int (-200)]) (fX1_goingRound_met l _ _ _ _ _ _ _ (by decide)  _ _ _ e8) gX7_programOf_X1_goingRound rfl rfl rfl (by decide +kernel) ⟨Nat.le_of_ble_eq_true rfl, Nat.le_of_ble_eq_true rfl⟩ rfl hl.1 rfl (Nat.le_of_ble_eq_true rfl) dX7_programOf_54 (fun H locs w => ?_)
      refine lv_isub hx hb dX7_programOf_57 ?_
      have e0 := Option.some.inj e0
      subst e0
      exact c_iret X w hr dX7_programOf_58
  · have e0 := itp _ c10 e0
    refine lv_bipush (v := (-100)) hx hb dX7_programOf_20 (by decide) ?_
    refine lv_aload_n hx hb dX7_programOf_22 rfl (lv_at hl 0 rfl) ?_
    refine c_get X w (cat_RR _ _ _ _ _) rfl in_X7_programOf_X7 3 (by decide) (index := 31) rfl (by decide +kernel) (cf_RR_3 _ _) dX7_programOf_23 ?_
    refine c_get X w (cat_TR _ _ _ _ _) rfl in_X7_programOf_X5 2 (by decide) (index := 76) rfl (by decide +kernel) (cf_TR_2 _ _) dX7_programOf_26 ?_
    refine lv_isub hx hb dX7_programOf_29 ?_
    have e0 := Option.some.inj e0
    subst e0
    exact c_iret X w hr dX7_programOf_30
set_option maxRecDepth 20000 in
theorem fX7_programOf_met (l : Launch) (D : va_G) (y : ClassId) (yS : ClassId × ClassId) (q adK adV : Nat → Nat) (sz n : Nat) (r1 : Nat) (hr1 : r1 < 4) (a2 : Int32) (a3 : Int32) (I : Nat → Int32) (R : Nat → Nat → Int32) (z : Int32 × mSt) (e0 : fX7_programOf n r1 a2 a3 I R = some z) : Met l yX7_programOf wsX7_programOf rmX7_programOf (va_Pc [.ref (q 0), .ref (q (1000 + 10 * r1)), .int a2, .int a3] (cPreS D y yS q adK adV sz I R)) (cQi D y yS q (cS y yS q sz) z) 0 0 (cS y yS q sz) := by
  refine Met.ofW (cc := cX7_programOf) (maxL := 4) (ret := some .int) (by decide) rfl ?_
  intro p e s m args below meth c s₁ B hml hv
  obtain ⟨rfl, ⟨hsz, hP, hK, hN, hD⟩, hkS, hkR⟩ := hv
  subst hsz
  have hl := lv_entry ([.ref (q 0), .ref (q (1000 + 10 * r1)), .int a2, .int a3]) (n := 4) (Nat.le_of_ble_eq_true rfl)
  rw [lg_entry_eq]
  exact fX7_programOf_w (s := s) hr1 ⟨⟨⟨B.exec, B.bytes, hml, findClass_of_methodNamed B.named, atoms_spec (ws := wsX7_programOf) B.pre⟩, hK, hN⟩, hkS, hkR⟩ ⟨B.returns, B.notSynchronized⟩ ⟨hP, cS_D hD, va_S.rf⟩ hl e0
theorem in_X7_program_X7 : ∀ w ∈ wsX70, w ∈ wsX7_program := fun _ h9 => List.mem_cons_of_mem _ (List.mem_append_left _ (List.mem_append_left _ (List.mem_append_left _ (List.mem_append_left _ (List.mem_append_left _ (List.mem_append_right _ h9))))))
theorem in_X7_program_X4 : ∀ w ∈ wsX40, w ∈ wsX7_program := fun _ h9 => List.mem_cons_of_mem _ (List.mem_append_left _ (List.mem_append_left _ (List.mem_append_left _ (List.mem_append_left _ (List.mem_append_right _ h9)))))
theorem in_X7_program_X6 : ∀ w ∈ wsX60, w ∈ wsX7_program := fun _ h9 => List.mem_cons_of_mem _ (List.mem_append_left _ (List.mem_append_left _ (List.mem_append_left _ (List.mem_append_right _ h9))))
theorem in_X7_program_X5 : ∀ w ∈ wsX50, w ∈ wsX7_program := fun _ h9 => List.mem_cons_of_mem _ (List.mem_append_left _ (List.mem_append_left _ (List.mem_append_right _ h9)))
theorem in_X7_program_X2 : ∀ w ∈ wsX20, w ∈ wsX7_program := fun _ h9 => List.mem_cons_of_mem _ (List.mem_append_left _ (List.mem_append_right _ h9))
theorem in_X7_program_X1 : ∀ w ∈ wsX10, w ∈ wsX7_program := fun _ h9 => List.mem_cons_of_mem _ (List.mem_append_right _ h9)
def rmX7_program : Room := { frames := 8, cells := 0, slots := 0, locals := 203 }
def fX7_program_b72 (n : Nat) (a3 : Int32) (a4 : Int32) (s5 : Nat) (a6 : Int32) (I : Nat → Int32) (R : Nat → Nat → Int32) : Option (Int32 × mSt) :=
  if a6 = 0 then
    (fX7_programOf n s5 a3 a4 I R).bind fun z18 =>
    some (z18.1, z18.2.1, z18.2.2)
  else
    (fX7_failed n a6 I R).bind fun z16 =>
    some (z16.1, z16.2.1, z16.2.2)
set_option maxRecDepth 20000 in
set_option maxHeartbeats 2000000 in
theorem fX7_program_b72_w {p : Program} {l : Launch} {e : Env} {s : State} {m : MethodId} {args : Array Value} {below : List Frame} {meth : Method} {c : Code} {D : va_G} {y : ClassId} {yS : ClassId × ClassId} {q : Nat → Nat} {adK adV : Nat → Nat} {n : Nat} {z : Int32 × mSt} (XS : cXS p s m args c cX7_program 7 wsX7_program RX7 D y yS q adK adV) (hr : meth.sig.returnType = some .int ∧ meth.locks = false) {a3 : Int32} {a4 : Int32} {s5 : Nat} {a6 : Int32} {I : Nat → Int32} {R : Nat → Nat → Int32} (hs5 : s5 < 4) {H : Heap} {locs : List Loc} {ls : Array Slot} (w : cH s D y yS q H locs I R) (hl : lv_has ls 7 [(0, .ref (q 0)), (3, .int a3), (4, .int a4), (5, .ref (q (1000 + 10 * s5))), (6, .int a6)]) (e0 : fX7_program_b72 n a3 a4 s5 a6 I R = some z) : W p l e rmX7_program s m args below meth c H locs 0 0 (MQ below (cQi D y yS q (cS y yS q s.heap.size) z) args s 0 0 (cS y yS q s.heap.size)) (F0 m 72 ls []) := by
  have X := XS.1
  have hx := X.1.1
  have hb := X.1.2.1
  unfold fX7_program_b72 at e0
  refine lv_iload hx hb dX7_program_72 (lv_at hl 4 rfl) ?_
  refine lv_if_ne (tgt := 89) hx hb dX7_program_74 (by decide) (fun c20 => ?_) (fun c20 => ?_)
  · have e0 := itn _ c20 e0
    refine lv_aload_n hx hb dX7_program_89 rfl (lv_at hl 0 rfl) ?_
    refine lv_iload hx hb dX7_program_90 (lv_at hl 4 rfl) ?_
    refine bd e0 (fun z16 e17 e0 => ?_)
    refine c_calli X w (c_rec X w (cat_RR _ _ _ _ _) rfl) (n := 1) (As := [.int a6]) (rest := []) (fX7_failed_met l _ _ _ _ _ _ _ _ _ _ e17) gX7_program_X7_failed rfl rfl rfl (by decide +kernel) ⟨Nat.le_of_ble_eq_true rfl, Nat.le_of_ble_eq_true rfl⟩ rfl hl.1 rfl (Nat.le_of_ble_eq_true rfl) dX7_program_92 (fun H locs w => ?_)
    have e0 := Option.some.inj e0
    subst e0
    exact c_iret X w hr dX7_program_95
  · have e0 := itp _ c20 e0
    refine lv_aload_n hx hb dX7_program_77 rfl (lv_at hl 0 rfl) ?_
    refine lv_aload hx hb dX7_program_78 (lv_at hl 3 rfl) ?_
    refine lv_iload_n hx hb dX7_program_80 rfl (lv_at hl 1 rfl) ?_
    refine lv_iload hx hb dX7_program_81 (lv_at hl 2 rfl) ?_
    refine bd e0 (fun z18 e19 e0 => ?_)
    refine c_callSi XS w (c_rec X w (cat_RR _ _ _ _ _) rfl) (n := 3) (As := [.ref (q (1000 + 10 * s5)), .int a3, .int a4]) (rest := []) (fX7_programOf_met l _ _ _ _ _ _ _ _ _ hs5 _ _ _ _ _ e19) gX7_program_X7_programOf rfl rfl rfl (by decide +kernel) ⟨Nat.le_of_ble_eq_true rfl, Nat.le_of_ble_eq_true rfl⟩ rfl hl.1 rfl (Nat.le_of_ble_eq_true rfl) dX7_program_83 (fun H locs w => ?_)
    refine lv_goto (tgt := 95) hx hb dX7_program_86 (by decide) ?_
    have e0 := Option.some.inj e0
    subst e0
    exact c_iret X w hr dX7_program_95
def fX7_program_b53 (n : Nat) (a3 : Int32) (a4 : Int32) (s5 : Nat) (a6 : Int32) (I : Nat → Int32) (R : Nat → Nat → Int32) : Option (Int32 × mSt) :=
  if a6 = 0 then
    (fX4_has n s5 a3 a4 I R).bind fun z12 =>
    if z12.1 = 0 then
      fX7_program_b72 n a3 a4 s5 3 z12.2.1 z12.2.2
    else
      fX7_program_b72 n a3 a4 s5 a6 z12.2.1 z12.2.2
  else
    fX7_program_b72 n a3 a4 s5 a6 I R
set_option maxRecDepth 20000 in
set_option maxHeartbeats 2000000 in
theorem fX7_program_b53_w {p : Program} {l : Launch} {e : Env} {s : State} {m : MethodId} {args : Array Value} {below : List Frame} {meth : Method} {c : Code} {D : va_G} {y : ClassId} {yS : ClassId × ClassId} {q : Nat → Nat} {adK adV : Nat → Nat} {n : Nat} {z : Int32 × mSt} (XS : cXS p s m args c cX7_program 7 wsX7_program RX7 D y yS q adK adV) (hr : meth.sig.returnType = some .int ∧ meth.locks = false) {a3 : Int32} {a4 : Int32} {s5 : Nat} {a6 : Int32} {I : Nat → Int32} {R : Nat → Nat → Int32} (hs5 : s5 < 4) {H : Heap} {locs : List Loc} {ls : Array Slot} (w : cH s D y yS q H locs I R) (hl : lv_has ls 7 [(0, .ref (q 0)), (3, .int a3), (4, .int a4), (5, .ref (q (1000 + 10 * s5))), (6, .int a6)]) (e0 : fX7_program_b53 n a3 a4 s5 a6 I R = some z) : W p l e rmX7_program s m args below meth c H locs 0 0 (MQ below (cQi D y yS q (cS y yS q s.heap.size) z) args s 0 0 (cS y yS q s.heap.size)) (F0 m 53 ls []) := by
  have X := XS.1
  have hx := X.1.1
  have hb := X.1.2.1
  unfold fX7_program_b53 at e0
  refine lv_iload hx hb dX7_program_53 (lv_at hl 4 rfl) ?_
  refine lv_if_ne (tgt := 72) hx hb dX7_program_55 (by decide) (fun c15 => ?_) (fun c15 => ?_)
  · have e0 := itn _ c15 e0
    exact fX7_program_b72_w (l := l) XS hr hs5 w (lv_sub hl [0, 1, 2, 3, 4] rfl) e0
  · have e0 := itp _ c15 e0
    refine lv_aload hx hb dX7_program_58 (lv_at hl 3 rfl) ?_
    refine lv_iload_n hx hb dX7_program_60 rfl (lv_at hl 1 rfl) ?_
    refine lv_iload hx hb dX7_program_61 (lv_at hl 2 rfl) ?_
    refine bd e0 (fun z12 e13 e0 => ?_)
    refine c_calli X w (c_rec X w (cat_SH _ _ _ _ _ s5 hs5) rfl) (n := 2) (As := [.int a3, .int a4]) (rest := []) (fX4_has_met l _ _ _ _ _ _ _ hs5 _ _ _ _ _ e13) gX7_program_X4_has rfl rfl rfl (by decide +kernel) ⟨Nat.le_of_ble_eq_true rfl, Nat.le_of_ble_eq_true rfl⟩ rfl hl.1 rfl (Nat.le_of_ble_eq_true rfl) dX7_program_63 (fun H locs w => ?_)
    refine lv_if_ne (tgt := 72) hx hb dX7_program_66 (by decide) (fun c14 => ?_) (fun c14 => ?_)
    · have e0 := itn _ c14 e0
      exact fX7_program_b72_w (l := l) XS hr hs5 w (lv_sub hl [0, 1, 2, 3, 4] rfl) e0
    · have e0 := itp _ c14 e0
      refine lv_iconst (v := 3) hx hb dX7_program_69 (by decide) ?_
      refine lv_istore (lv' := [(6, .int 3), (0, .ref (q 0)), (3, .int a3), (4, .int a4), (5, .ref (q (1000 + 10 * s5)))]) hx hb dX7_program_70 hl (by decide) rfl (fun ls hl => ?_)
      exact fX7_program_b72_w (l := l) XS hr hs5 w (lv_sub hl [1, 2, 3, 4, 0] rfl) e0
def fX7_program (n : Nat) (a1 : Int32) (a2 : Int32) (a3 : Int32) (a4 : Int32) (I : Nat → Int32) (R : Nat → Nat → Int32) : Option (Int32 × mSt) :=
  (fX7_isSheet n a1).bind fun z1 =>
  if z1 = 0 then
    some ((-1), (upd I 9 0), R)
  else
    (fX7_isLane n a2).bind fun z3 =>
    if z3 = 0 then
      some ((-2), (upd I 9 0), R)
    else
      if inb a1 4 = true then
      (fX4_faultAs n (a1.toNatClampNeg) a2 (upd I 9 0) R).bind fun z6 =>
      if z6.1 = 0 then
        if 0 ≤ a4 then
          fX7_program_b53 n a3 a4 a1.toNatClampNeg z6.1 z6.2.1 z6.2.2
        else
          fX7_program_b53 n a3 a4 a1.toNatClampNeg 4 z6.2.1 z6.2.2
      else
        fX7_program_b53 n a3 a4 a1.toNatClampNeg z6.1 z6.2.1 z6.2.2
      else none
set_option maxRecDepth 20000 in
set_option maxHeartbeats 2000000 in
theorem fX7_program_w {p : Program} {l : Launch} {e : Env} {s : State} {m : MethodId} {args : Array Value} {below : List Frame} {meth : Method} {c : Code} {D : va_G} {y : ClassId} {yS : ClassId × ClassId} {q : Nat → Nat} {adK adV : Nat → Nat} {n : Nat} {z : Int32 × mSt} (XS : cXS p s m args c cX7_program 7 wsX7_program RX7 D y yS q adK adV) (hr : meth.sig.returnType = some .int ∧ meth.locks = false) {a1 : Int32} {a2 : Int32} {a3 : Int32} {a4 : Int32} {I : Nat → Int32} {R : Nat → Nat → Int32} {H : Heap} {locs : List Loc} {ls : Array Slot} (w : cH s D y yS q H locs I R) (hl : lv_has ls 7 [(0, .ref (q 0)), (1, .int a1), (2, .int a2), (3, .int a3), (4, .int a4)]) (e0 : fX7_program n a1 a2 a3 a4 I R = some z) : W p l e rmX7_program s m args below meth c H locs 0 0 (MQ below (cQi D y yS q (cS y yS q s.heap.size) z) args s 0 0 (cS y yS q s.heap.size)) (F0 m 0 ls []) := by
  have X := XS.1
  have hx := X.1.1
  have hb := X.1.2.1
  unfold fX7_program at e0
  refine lv_aload_n hx hb dX7_program_0 rfl (lv_at hl 0 rfl) ?_
  refine lv_iconst (v := 0) hx hb dX7_program_1 (by decide) ?_
  refine c_put X w (cat_RR _ _ _ _ _) rfl in_X7_program_X7 tyX7 tyX7_ok nmX7 8 (by decide) (index := 42) (ty := .int) rfl (by decide +kernel) rfl (by decide +kernel) rfl rfl (Nat.le_of_ble_eq_true rfl) (cset_RR_8 _ _ _ _ _ _) dX7_program_2 (fun H locs w => ?_)
  refine lv_iload_n hx hb dX7_program_5 rfl (lv_at hl 1 rfl) ?_
  refine bd e0 (fun z1 e2 e0 => ?_)
  refine c_callsi X w (n := 1) (As := [.int a1]) (rest := []) (fX7_isSheet_met l _ _ _ e2) gX7_program_X7_isSheet rfl rfl rfl (by decide +kernel) ⟨Nat.le_of_ble_eq_true rfl, Nat.le_of_ble_eq_true rfl⟩ rfl hl.1 rfl (Nat.le_of_ble_eq_true rfl) dX7_program_6 (fun H locs w => ?_)
  refine lv_if_ne (tgt := 14) hx hb dX7_program_9 (by decide) (fun c11 => ?_) (fun c11 => ?_)
  · have e0 := itn _ c11 e0
    refine lv_iload_n hx hb dX7_program_14 rfl (lv_at hl 2 rfl) ?_
    refine bd e0 (fun z3 e4 e0 => ?_)
    refine c_callsi X w (n := 1) (As := [.int a2]) (rest := []) (fX7_isLane_met l _ _ _ e4) gX7_program_X7_isLane rfl rfl rfl (by decide +kernel) ⟨Nat.le_of_ble_eq_true rfl, Nat.le_of_ble_eq_true rfl⟩ rfl hl.1 rfl (Nat.le_of_ble_eq_true rfl) dX7_program_15 (fun H locs w => ?_)
    refine lv_if_ne (tgt := 24) hx hb dX7_program_18 (by decide) (fun c10 => ?_) (fun c10 => ?_)
    · have e0 := itn _ c10 e0
      refine lv_aload_n hx hb dX7_program_24 rfl (lv_at hl 0 rfl) ?_
      refine c_get X w (cat_RR _ _ _ _ _) rfl in_X7_program_X7 0 (by decide) (index := 13) rfl (by decide +kernel) (cf_RR_0 _ _) dX7_program_25 ?_
      refine lv_iload_n hx hb dX7_program_28 rfl (lv_at hl 1 rfl) ?_
      refine gd e0 (fun g5 e0 => ?_)
      refine c_shs X w g5 dX7_program_29 ?_
      refine lv_astore (lv' := [(5, .ref (q (1000 + 10 * a1.toNatClampNeg))), (0, .ref (q 0)), (1, .int a1), (2, .int a2), (3, .int a3), (4, .int a4)]) hx hb dX7_program_30 hl (by decide) rfl (fun ls hl => ?_)
      refine lv_aload hx hb dX7_program_32 (lv_at hl 0 rfl) ?_
      refine lv_iload_n hx hb dX7_program_34 rfl (lv_at hl 3 rfl) ?_
      refine bd e0 (fun z6 e7 e0 => ?_)
      refine c_calli X w (c_rec X w (cat_SH _ _ _ _ _ a1.toNatClampNeg (inb_lt g5)) rfl) (n := 1) (As := [.int a2]) (rest := []) (fX4_faultAs_met l _ _ _ _ _ _ _ (inb_lt g5) _ _ _ _ e7) gX7_program_X4_faultAs rfl rfl rfl (by decide +kernel) ⟨Nat.le_of_ble_eq_true rfl, Nat.le_of_ble_eq_true rfl⟩ rfl hl.1 rfl (Nat.le_of_ble_eq_true rfl) dX7_program_35 (fun H locs w => ?_)
      refine lv_istore (lv' := [(6, .int z6.1), (5, .ref (q (1000 + 10 * a1.toNatClampNeg))), (0, .ref (q 0)), (1, .int a1), (2, .int a2), (3, .int a3), (4, .int a4)]) hx hb dX7_program_38 hl (by decide) rfl (fun ls hl => ?_)
      refine lv_iload hx hb dX7_program_40 (lv_at hl 0 rfl) ?_
      refine lv_if_ne (tgt := 53) hx hb dX7_program_42 (by decide) (fun c9 => ?_) (fun c9 => ?_)
      · have e0 := itn _ c9 e0
        exact fX7_program_b53_w (l := l) XS hr (inb_lt g5) w (lv_sub hl [2, 5, 6, 1, 0] rfl) e0
      · have e0 := itp _ c9 e0
        refine lv_iload hx hb dX7_program_45 (lv_at hl 6 rfl) ?_
        refine lv_if_ge (tgt := 53) hx hb dX7_program_47 (by decide) (fun c8 => ?_) (fun c8 => ?_)
        · have e0 := itp _ c8 e0
          exact fX7_program_b53_w (l := l) XS hr (inb_lt g5) w (lv_sub hl [2, 5, 6, 1, 0] rfl) e0
        · have e0 := itn _ c8 e0
          refine lv_iconst (v := 4) hx hb dX7_program_50 (by decide) ?_
          refine lv_istore (lv' := [(6, .int 4), (5, .ref (q (1000 + 10 * a1.toNatClampNeg))), (0, .ref (q 0)), (1, .int a1), (2, .int a2), (3, .int a3), (4, .int a4)]) hx hb dX7_program_51 hl (by decide) rfl (fun ls hl => ?_)
          exact fX7_program_b53_w (l := l) XS hr (inb_lt g5) w (lv_sub hl [2, 5, 6, 1, 0] rfl) e0
    · have e0 := itp _ c10 e0
      refine lv_bipush (v := (-2)) hx hb dX7_program_21 (by decide) ?_
      have e0 := Option.some.inj e0
      subst e0
      exact c_iret X w hr dX7_program_23
  · have e0 := itp _ c11 e0
    refine lv_iconst (v := (-1)) hx hb dX7_program_12 (by decide) ?_
    have e0 := Option.some.inj e0
    subst e0
    exact c_iret X w hr dX7_program_13
set_option maxRecDepth 20000 in
theorem fX7_program_met (l : Launch) (D : va_G) (y : ClassId) (yS : ClassId × ClassId) (q adK adV : Nat → Nat) (sz n : Nat) (a1 : Int32) (a2 : Int32) (a3 : Int32) (a4 : Int32) (I : Nat → Int32) (R : Nat → Nat → Int32) (z : Int32 × mSt) (e0 : fX7_program n a1 a2 a3 a4 I R = some z) : Met l yX7_program wsX7_program rmX7_program (va_Pc [.ref (q 0), .int a1, .int a2, .int a3, .int a4] (cPreS D y yS q adK adV sz I R)) (cQi D y yS q (cS y yS q sz) z) 0 0 (cS y yS q sz) := by
  refine Met.ofW (cc := cX7_program) (maxL := 7) (ret := some .int) (by decide) rfl ?_
  intro p e s m args below meth c s₁ B hml hv
  obtain ⟨rfl, ⟨hsz, hP, hK, hN, hD⟩, hkS, hkR⟩ := hv
  subst hsz
  have hl := lv_entry ([.ref (q 0), .int a1, .int a2, .int a3, .int a4]) (n := 7) (Nat.le_of_ble_eq_true rfl)
  rw [lg_entry_eq]
  exact fX7_program_w (s := s) ⟨⟨⟨B.exec, B.bytes, hml, findClass_of_methodNamed B.named, atoms_spec (ws := wsX7_program) B.pre⟩, hK, hN⟩, hkS, hkR⟩ ⟨B.returns, B.notSynchronized⟩ ⟨hP, cS_D hD, va_S.rf⟩ hl e0
