theorem in_X7_forms_X7 : ∀ w ∈ wsX70, w ∈ wsX7_forms := fun _ h9 => List.mem_cons_of_mem _ (List.mem_append_left _ (List.mem_append_left _ (List.mem_append_left _ (List.mem_append_left _ (List.mem_append_left _ (List.mem_append_right _ h9))))))
theorem in_X7_forms_X6 : ∀ w ∈ wsX60, w ∈ wsX7_forms := fun _ h9 => List.mem_cons_of_mem _ (List.mem_append_left _ (List.mem_append_left _ (List.mem_append_left _ (List.mem_append_left _ (List.mem_append_right _ h9)))))
theorem in_X7_forms_X2 : ∀ w ∈ wsX20, w ∈ wsX7_forms := fun _ h9 => List.mem_cons_of_mem _ (List.mem_append_left _ (List.mem_append_left _ (List.mem_append_left _ (List.mem_append_right _ h9))))
theorem in_X7_forms_X1 : ∀ w ∈ wsX10, w ∈ wsX7_forms := fun _ h9 => List.mem_cons_of_mem _ (List.mem_append_left _ (List.mem_append_left _ (List.mem_append_right _ h9)))
theorem in_X7_forms_X3 : ∀ w ∈ wsX30, w ∈ wsX7_forms := fun _ h9 => List.mem_cons_of_mem _ (List.mem_append_left _ (List.mem_append_right _ h9))
theorem in_X7_forms_X0 : ∀ w ∈ wsX00, w ∈ wsX7_forms := fun _ h9 => List.mem_cons_of_mem _ (List.mem_append_right _ h9)
def rmX7_forms : Room := { frames := 6, cells := 0, slots := 0, locals := 133 }
def fX7_forms_b90 (n : Nat) (k14 : Int32 → Int32 → Int32 → (Nat → Int32) → (Nat → Nat → Int32) → Option (Int32 × mSt)) (a1 : Int32) (a2 : Int32) (a3 : Int32) (I : Nat → Int32) (R : Nat → Nat → Int32) : Option (Int32 × mSt) :=
  k14 a1 a2 (a3 + 1) I R
set_option maxRecDepth 20000 in
set_option maxHeartbeats 2000000 in
theorem fX7_forms_b90_w {p : Program} {l : Launch} {e : Env} {s : State} {m : MethodId} {args : Array Value} {below : List Frame} {meth : Method} {c : Code} {D : va_G} {y : ClassId} {yS : ClassId × ClassId} {q : Nat → Nat} {n : Nat} {z : Int32 × mSt} (X : cX p s m args c cX7_forms 4 wsX7_forms RX7 D y yS) (hr : meth.sig.returnType = some .int ∧ meth.locks = false) {k14 : Int32 → Int32 → Int32 → (Nat → Int32) → (Nat → Nat → Int32) → Option (Int32 × mSt)} (hk14 : ∀ (a1 : Int32) (a2 : Int32) (a3 : Int32) (I : Nat → Int32) (R : Nat → Nat → Int32) (H : Heap) (locs : List Loc) (ls : Array Slot), cH s D y yS q H locs I R → lv_has ls 4 [(0, .ref (q 0)), (1, .int a1), (2, .int a2), (3, .int a3)] → k14 a1 a2 a3 I R = some z → W p l e rmX7_forms s m args below meth c H locs 0 0 (MQ below (cQi D y yS q (cS y yS q s.heap.size) z) args s 0 0 (cS y yS q s.heap.size)) (F0 m 14 ls [])) {a1 : Int32} {a2 : Int32} {a3 : Int32} {I : Nat → Int32} {R : Nat → Nat → Int32} {H : Heap} {locs : List Loc} {ls : Array Slot} (w : cH s D y yS q H locs I R) (hl : lv_has ls 4 [(0, .ref (q 0)), (1, .int a1), (2, .int a2), (3, .int a3)]) (e0 : fX7_forms_b90 n k14 a1 a2 a3 I R = some z) : W p l e rmX7_forms s m args below meth c H locs 0 0 (MQ below (cQi D y yS q (cS y yS q s.heap.size) z) args s 0 0 (cS y yS q s.heap.size)) (F0 m 90 ls []) := by
  have hx := X.1.1
  have hb := X.1.2.1
  unfold fX7_forms_b90 at e0
  refine lv_iinc (v := (a3 + 1)) (lv' := [(3, .int (a3 + 1)), (0, .ref (q 0)), (1, .int a1), (2, .int a2)]) hx hb dX7_forms_90 hl (k := 3) rfl rfl (by decide) rfl (fun ls hl => ?_)
  refine lv_goto (tgt := 14) hx hb dX7_forms_93 (by decide) ?_
  exact hk14 _ _ _ _ _ _ _ _ w (lv_sub hl [1, 2, 3, 0] rfl) e0
def fX7_forms_b77 (n : Nat) (k14 : Int32 → Int32 → Int32 → (Nat → Int32) → (Nat → Nat → Int32) → Option (Int32 × mSt)) (a1 : Int32) (a2 : Int32) (a3 : Int32) (I : Nat → Int32) (R : Nat → Nat → Int32) : Option (Int32 × mSt) :=
  (fX7_areReadingsSo n I R).bind fun z16 =>
  if z16.1 = 0 then
    fX7_forms_b90 n k14 a1 a2 a3 z16.2.1 z16.2.2
  else
    fX7_forms_b90 n k14 a1 (a2 ||| (1 <<< (a3 &&& 31))) a3 z16.2.1 z16.2.2
set_option maxRecDepth 20000 in
set_option maxHeartbeats 2000000 in
theorem fX7_forms_b77_w {p : Program} {l : Launch} {e : Env} {s : State} {m : MethodId} {args : Array Value} {below : List Frame} {meth : Method} {c : Code} {D : va_G} {y : ClassId} {yS : ClassId × ClassId} {q : Nat → Nat} {n : Nat} {z : Int32 × mSt} (X : cX p s m args c cX7_forms 4 wsX7_forms RX7 D y yS) (hr : meth.sig.returnType = some .int ∧ meth.locks = false) {k14 : Int32 → Int32 → Int32 → (Nat → Int32) → (Nat → Nat → Int32) → Option (Int32 × mSt)} (hk14 : ∀ (a1 : Int32) (a2 : Int32) (a3 : Int32) (I : Nat → Int32) (R : Nat → Nat → Int32) (H : Heap) (locs : List Loc) (ls : Array Slot), cH s D y yS q H locs I R → lv_has ls 4 [(0, .ref (q 0)), (1, .int a1), (2, .int a2), (3, .int a3)] → k14 a1 a2 a3 I R = some z → W p l e rmX7_forms s m args below meth c H locs 0 0 (MQ below (cQi D y yS q (cS y yS q s.heap.size) z) args s 0 0 (cS y yS q s.heap.size)) (F0 m 14 ls [])) {a1 : Int32} {a2 : Int32} {a3 : Int32} {I : Nat → Int32} {R : Nat → Nat → Int32} {H : Heap} {locs : List Loc} {ls : Array Slot} (w : cH s D y yS q H locs I R) (hl : lv_has ls 4 [(0, .ref (q 0)), (1, .int a1), (2, .int a2), (3, .int a3)]) (e0 : fX7_forms_b77 n k14 a1 a2 a3 I R = some z) : W p l e rmX7_forms s m args below meth c H locs 0 0 (MQ below (cQi D y yS q (cS y yS q s.heap.size) z) args s 0 0 (cS y yS q s.heap.size)) (F0 m 77 ls []) := by
  have hx := X.1.1
  have hb := X.1.2.1
  unfold fX7_forms_b77 at e0
  refine lv_aload_n hx hb dX7_forms_77 rfl (lv_at hl 0 rfl) ?_
  refine bd e0 (fun z16 e17 e0 => ?_)
  refine c_calli X w (c_rec X w (cat_RR _ _ _ _ _) rfl) (n := 0) (As := []) (rest := []) (fX7_areReadingsSo_met l _ _ _ _ _ _  _ _ _ e17) gX7_forms_X7_areReadingsSo rfl rfl rfl (by decide +kernel) ⟨Nat.le_of_ble_eq_true rfl, Nat.le_of_ble_eq_true rfl⟩ rfl hl.1 rfl (Nat.le_of_ble_eq_true rfl) dX7_forms_78 (fun H locs w => ?_)
  refine lv_if_eq (tgt := 90) hx hb dX7_forms_81 (by decide) (fun c18 => ?_) (fun c18 => ?_)
  · have e0 := itp _ c18 e0
    exact fX7_forms_b90_w (l := l) X hr hk14 w (lv_sub hl [0, 1, 2, 3] rfl) e0
  · have e0 := itn _ c18 e0
    refine lv_iload_n hx hb dX7_forms_84 rfl (lv_at hl 2 rfl) ?_
    refine lv_iconst (v := 1) hx hb dX7_forms_85 (by decide) ?_
    refine lv_iload_n hx hb dX7_forms_86 rfl (lv_at hl 3 rfl) ?_
    refine lv_ishl hx hb dX7_forms_87 ?_
    refine lv_ior hx hb dX7_forms_88 ?_
    refine lv_istore_n (lv' := [(2, .int (a2 ||| (1 <<< (a3 &&& 31)))), (0, .ref (q 0)), (1, .int a1), (3, .int a3)]) hx hb dX7_forms_89 rfl hl (by decide) rfl (fun ls hl => ?_)
    exact fX7_forms_b90_w (l := l) X hr hk14 w (lv_sub hl [1, 2, 0, 3] rfl) e0
def fX7_forms_b14 (n : Nat) : Nat → Int32 → Int32 → Int32 → (Nat → Int32) → (Nat → Nat → Int32) → Option (Int32 × mSt)
  | 0, _, _, _, _, _ => none
  | j + 1, a1, a2, a3, I, R =>
    if 4 ≤ a3 then
      some (a2, I, R)
    else
      (fX6_take n 1 0 I R).bind fun z4 =>
      (fX2_fits n 1 a1 a3 z4.1 z4.2).bind fun z6 =>
      if z6.1 = 0 then
        fX7_forms_b90 n (fX7_forms_b14 n j) a1 a2 a3 z6.2.1 z6.2.2
      else
        (fX6_reforms n 1 a1 a3 z6.2.1 z6.2.2).bind fun z8 =>
        if z8.1 = 0 then
          fX7_forms_b90 n (fX7_forms_b14 n j) a1 a2 a3 z8.2.1 z8.2.2
        else
          if (z8.2.1 7) ≤ 0 then
            fX7_forms_b77 n (fX7_forms_b14 n j) a1 a2 a3 z8.2.1 z8.2.2
          else
            (fX6_settle n 1 z8.2.1 z8.2.2).bind fun z10 =>
            fX7_forms_b77 n (fX7_forms_b14 n j) a1 a2 a3 z10.1 z10.2
set_option maxRecDepth 20000 in
set_option maxHeartbeats 2000000 in
theorem fX7_forms_b14_w {p : Program} {l : Launch} {e : Env} {s : State} {m : MethodId} {args : Array Value} {below : List Frame} {meth : Method} {c : Code} {D : va_G} {y : ClassId} {yS : ClassId × ClassId} {q : Nat → Nat} {n : Nat} {z : Int32 × mSt} (X : cX p s m args c cX7_forms 4 wsX7_forms RX7 D y yS) (hr : meth.sig.returnType = some .int ∧ meth.locks = false) : ∀ (j : Nat) (a1 : Int32) (a2 : Int32) (a3 : Int32) (I : Nat → Int32) (R : Nat → Nat → Int32) (H : Heap) (locs : List Loc) (ls : Array Slot), cH s D y yS q H locs I R → lv_has ls 4 [(0, .ref (q 0)), (1, .int a1), (2, .int a2), (3, .int a3)] → fX7_forms_b14 n j a1 a2 a3 I R = some z → W p l e rmX7_forms s m args below meth c H locs 0 0 (MQ below (cQi D y yS q (cS y yS q s.heap.size) z) args s 0 0 (cS y yS q s.heap.size)) (F0 m 14 ls []) := by
  have hx := X.1.1
  have hb := X.1.2.1
  intro j
  induction j with
  | zero =>
    intro a1 a2 a3 I R H locs ls w hl e0
    cases e0
  | succ j ih =>
    intro a1 a2 a3 I R H locs ls w hl e0
    rw [fX7_forms_b14] at e0
    refine lv_iload_n hx hb dX7_forms_14 rfl (lv_at hl 3 rfl) ?_
    refine lv_iconst (v := 4) hx hb dX7_forms_15 (by decide) ?_
    refine lv_icmp_ge (tgt := 96) hx hb dX7_forms_16 (by decide) (fun c15 => ?_) (fun c15 => ?_)
    · have e0 := itp _ c15 e0
      refine lv_iload_n hx hb dX7_forms_96 rfl (lv_at hl 2 rfl) ?_
      have e0 := Option.some.inj e0
      subst e0
      exact c_iret X w hr dX7_forms_97
    · have e0 := itn _ c15 e0
      refine lv_aload_n hx hb dX7_forms_19 rfl (lv_at hl 0 rfl) ?_
      refine c_get X w (cat_RR _ _ _ _ _) rfl in_X7_forms_X7 2 (by decide) (index := 25) rfl (by decide +kernel) (cf_RR_2 _ _) dX7_forms_20 ?_
      refine lv_aload_n hx hb dX7_forms_23 rfl (lv_at hl 0 rfl) ?_
      refine c_get X w (cat_RR _ _ _ _ _) rfl in_X7_forms_X7 1 (by decide) (index := 21) rfl (by decide +kernel) (cf_RR_1 _ _) dX7_forms_24 ?_
      refine c_get X w (cat_WO _ _ _ _ _ 0 (by decide)) rfl in_X7_forms_X6 0 (by decide) (index := 68) rfl (by decide +kernel) (cf_WO_0 _ _ _) dX7_forms_27 ?_
      refine bd e0 (fun z4 e5 e0 => ?_)
      refine c_callv X w (c_rec X w (cat_WO _ _ _ _ _ 1 (by decide)) rfl) (n := 1) (As := [.ref (q (110 + 100 * 0))]) (rest := []) (fX6_take_met l _ _ _ _ _ _ _ (by decide) _ (by decide)  _ _ _ e5) gX7_forms_X6_take rfl rfl rfl (by decide +kernel) ⟨Nat.le_of_ble_eq_true rfl, Nat.le_of_ble_eq_true rfl⟩ rfl hl.1 rfl (Nat.le_of_ble_eq_true rfl) dX7_forms_30 (fun H locs w => ?_)
      refine lv_aload_n hx hb dX7_forms_33 rfl (lv_at hl 0 rfl) ?_
      refine c_get X w (cat_RR _ _ _ _ _) rfl in_X7_forms_X7 2 (by decide) (index := 25) rfl (by decide +kernel) (cf_RR_2 _ _) dX7_forms_34 ?_
      refine c_get X w (cat_WO _ _ _ _ _ 1 (by decide)) rfl in_X7_forms_X6 0 (by decide) (index := 68) rfl (by decide +kernel) (cf_WO_0 _ _ _) dX7_forms_37 ?_
      refine lv_iload_n hx hb dX7_forms_40 rfl (lv_at hl 1 rfl) ?_
      refine lv_iload_n hx hb dX7_forms_41 rfl (lv_at hl 3 rfl) ?_
      refine bd e0 (fun z6 e7 e0 => ?_)
      refine c_calli X w (c_rec X w (cat_PR _ _ _ _ _ 1 (by decide)) rfl) (n := 2) (As := [.int a1, .int a3]) (rest := []) (fX2_fits_met l _ _ _ _ _ _ _ (by decide) _ _ _ _ _ e7) gX7_forms_X2_fits rfl rfl rfl (by decide +kernel) ⟨Nat.le_of_ble_eq_true rfl, Nat.le_of_ble_eq_true rfl⟩ rfl hl.1 rfl (Nat.le_of_ble_eq_true rfl) dX7_forms_42 (fun H locs w => ?_)
      refine lv_if_eq (tgt := 90) hx hb dX7_forms_45 (by decide) (fun c14 => ?_) (fun c14 => ?_)
      · have e0 := itp _ c14 e0
        exact fX7_forms_b90_w (l := l) X hr ih w (lv_sub hl [0, 1, 2, 3] rfl) e0
      · have e0 := itn _ c14 e0
        refine lv_aload_n hx hb dX7_forms_48 rfl (lv_at hl 0 rfl) ?_
        refine c_get X w (cat_RR _ _ _ _ _) rfl in_X7_forms_X7 2 (by decide) (index := 25) rfl (by decide +kernel) (cf_RR_2 _ _) dX7_forms_49 ?_
        refine lv_iload_n hx hb dX7_forms_52 rfl (lv_at hl 1 rfl) ?_
        refine lv_iload_n hx hb dX7_forms_53 rfl (lv_at hl 3 rfl) ?_
        refine bd e0 (fun z8 e9 e0 => ?_)
        refine c_calli X w (c_rec X w (cat_WO _ _ _ _ _ 1 (by decide)) rfl) (n := 2) (As := [.int a1, .int a3]) (rest := []) (fX6_reforms_met l _ _ _ _ _ _ _ (by decide) _ _ _ _ _ e9) gX7_forms_X6_reforms rfl rfl rfl (by decide +kernel) ⟨Nat.le_of_ble_eq_true rfl, Nat.le_of_ble_eq_true rfl⟩ rfl hl.1 rfl (Nat.le_of_ble_eq_true rfl) dX7_forms_54 (fun H locs w => ?_)
        refine lv_if_ne (tgt := 63) hx hb dX7_forms_57 (by decide) (fun c13 => ?_) (fun c13 => ?_)
        · have e0 := itn _ c13 e0
          refine lv_aload_n hx hb dX7_forms_63 rfl (lv_at hl 0 rfl) ?_
          refine c_get X w (cat_RR _ _ _ _ _) rfl in_X7_forms_X7 6 (by decide) (index := 97) rfl (by decide +kernel) (cf_RR_6 _ _) dX7_forms_64 ?_
          refine lv_if_le (tgt := 77) hx hb dX7_forms_67 (by decide) (fun c12 => ?_) (fun c12 => ?_)
          · have e0 := itp _ c12 e0
            exact fX7_forms_b77_w (l := l) X hr ih w (lv_sub hl [0, 1, 2, 3] rfl) e0
          · have e0 := itn _ c12 e0
            refine lv_aload_n hx hb dX7_forms_70 rfl (lv_at hl 0 rfl) ?_
            refine c_get X w (cat_RR _ _ _ _ _) rfl in_X7_forms_X7 2 (by decide) (index := 25) rfl (by decide +kernel) (cf_RR_2 _ _) dX7_forms_71 ?_
            refine bd e0 (fun z10 e11 e0 => ?_)
            refine c_callv X w (c_rec X w (cat_WO _ _ _ _ _ 1 (by decide)) rfl) (n := 0) (As := []) (rest := []) (fX6_settle_met l _ _ _ _ _ _ _ (by decide)  _ _ _ e11) gX7_forms_X6_settle rfl rfl rfl (by decide +kernel) ⟨Nat.le_of_ble_eq_true rfl, Nat.le_of_ble_eq_true rfl⟩ rfl hl.1 rfl (Nat.le_of_ble_eq_true rfl) dX7_forms_74 (fun H locs w => ?_)
            exact fX7_forms_b77_w (l := l) X hr ih w (lv_sub hl [0, 1, 2, 3] rfl) e0
        · have e0 := itp _ c13 e0
          refine lv_goto (tgt := 90) hx hb dX7_forms_60 (by decide) ?_
          exact fX7_forms_b90_w (l := l) X hr ih w (lv_sub hl [0, 1, 2, 3] rfl) e0
def fX7_forms (n : Nat) (a1 : Int32) (I : Nat → Int32) (R : Nat → Nat → Int32) : Option (Int32 × mSt) :=
  (fX7_isRule n a1 I R).bind fun z1 =>
  if z1.1 = 0 then
    some ((-1), z1.2.1, z1.2.2)
  else
    fX7_forms_b14 n n a1 0 0 z1.2.1 z1.2.2
set_option maxRecDepth 20000 in
set_option maxHeartbeats 2000000 in
theorem fX7_forms_w {p : Program} {l : Launch} {e : Env} {s : State} {m : MethodId} {args : Array Value} {below : List Frame} {meth : Method} {c : Code} {D : va_G} {y : ClassId} {yS : ClassId × ClassId} {q : Nat → Nat} {n : Nat} {z : Int32 × mSt} (X : cX p s m args c cX7_forms 4 wsX7_forms RX7 D y yS) (hr : meth.sig.returnType = some .int ∧ meth.locks = false) {a1 : Int32} {I : Nat → Int32} {R : Nat → Nat → Int32} {H : Heap} {locs : List Loc} {ls : Array Slot} (w : cH s D y yS q H locs I R) (hl : lv_has ls 4 [(0, .ref (q 0)), (1, .int a1)]) (e0 : fX7_forms n a1 I R = some z) : W p l e rmX7_forms s m args below meth c H locs 0 0 (MQ below (cQi D y yS q (cS y yS q s.heap.size) z) args s 0 0 (cS y yS q s.heap.size)) (F0 m 0 ls []) := by
  have hx := X.1.1
  have hb := X.1.2.1
  unfold fX7_forms at e0
  refine lv_aload_n hx hb dX7_forms_0 rfl (lv_at hl 0 rfl) ?_
  refine lv_iload_n hx hb dX7_forms_1 rfl (lv_at hl 1 rfl) ?_
  refine bd e0 (fun z1 e2 e0 => ?_)
  refine c_calli X w (c_rec X w (cat_RR _ _ _ _ _) rfl) (n := 1) (As := [.int a1]) (rest := []) (fX7_isRule_met l _ _ _ _ _ _ _ _ _ _ e2) gX7_forms_X7_isRule rfl rfl rfl (by decide +kernel) ⟨Nat.le_of_ble_eq_true rfl, Nat.le_of_ble_eq_true rfl⟩ rfl hl.1 rfl (Nat.le_of_ble_eq_true rfl) dX7_forms_2 (fun H locs w => ?_)
  refine lv_if_ne (tgt := 10) hx hb dX7_forms_5 (by decide) (fun c3 => ?_) (fun c3 => ?_)
  · have e0 := itn _ c3 e0
    refine lv_iconst (v := 0) hx hb dX7_forms_10 (by decide) ?_
    refine lv_istore_n (lv' := [(2, .int 0), (0, .ref (q 0)), (1, .int a1)]) hx hb dX7_forms_11 rfl hl (by decide) rfl (fun ls hl => ?_)
    refine lv_iconst (v := 0) hx hb dX7_forms_12 (by decide) ?_
    refine lv_istore_n (lv' := [(3, .int 0), (2, .int 0), (0, .ref (q 0)), (1, .int a1)]) hx hb dX7_forms_13 rfl hl (by decide) rfl (fun ls hl => ?_)
    exact fX7_forms_b14_w (l := l) X hr n _ _ _ _ _ _ _ _ w (lv_sub hl [2, 3, 1, 0] rfl) e0
  · have e0 := itp _ c3 e0
    refine lv_iconst (v := (-1)) hx hb dX7_forms_8 (by decide) ?_
    have e0 := Option.some.inj e0
    subst e0
    exact c_iret X w hr dX7_forms_9
set_option maxRecDepth 20000 in
theorem fX7_forms_met (l : Launch) (D : va_G) (y : ClassId) (yS : ClassId × ClassId) (q : Nat → Nat) (sz n : Nat) (a1 : Int32) (I : Nat → Int32) (R : Nat → Nat → Int32) (z : Int32 × mSt) (e0 : fX7_forms n a1 I R = some z) : Met l yX7_forms wsX7_forms rmX7_forms (va_Pc [.ref (q 0), .int a1] (cPre D y yS q sz I R)) (cQi D y yS q (cS y yS q sz) z) 0 0 (cS y yS q sz) := by
  refine Met.ofW (cc := cX7_forms) (maxL := 4) (ret := some .int) (by decide) rfl ?_
  intro p e s m args below meth c s₁ B hml hv
  obtain ⟨rfl, hsz, hP, hK, hN, hD⟩ := hv
  subst hsz
  have hl := lv_entry ([.ref (q 0), .int a1]) (n := 4) (Nat.le_of_ble_eq_true rfl)
  rw [lg_entry_eq]
  exact fX7_forms_w (s := s) ⟨⟨B.exec, B.bytes, hml, findClass_of_methodNamed B.named, atoms_spec (ws := wsX7_forms) B.pre⟩, hK, hN⟩ ⟨B.returns, B.notSynchronized⟩ ⟨hP, cS_D hD, va_S.rf⟩ hl e0
theorem in_X7_odds_X7 : ∀ w ∈ wsX70, w ∈ wsX7_odds := fun _ h9 => List.mem_cons_of_mem _ (List.mem_append_left _ (List.mem_append_left _ (List.mem_append_left _ (List.mem_append_left _ (List.mem_append_left _ (List.mem_append_right _ h9))))))
theorem in_X7_odds_X6 : ∀ w ∈ wsX60, w ∈ wsX7_odds := fun _ h9 => List.mem_cons_of_mem _ (List.mem_append_left _ (List.mem_append_left _ (List.mem_append_left _ (List.mem_append_left _ (List.mem_append_right _ h9)))))
theorem in_X7_odds_X3 : ∀ w ∈ wsX30, w ∈ wsX7_odds := fun _ h9 => List.mem_cons_of_mem _ (List.mem_append_left _ (List.mem_append_left _ (List.mem_append_left _ (List.mem_append_right _ h9))))
theorem in_X7_odds_X2 : ∀ w ∈ wsX20, w ∈ wsX7_odds := fun _ h9 => List.mem_cons_of_mem _ (List.mem_append_left _ (List.mem_append_left _ (List.mem_append_right _ h9)))
theorem in_X7_odds_X1 : ∀ w ∈ wsX10, w ∈ wsX7_odds := fun _ h9 => List.mem_cons_of_mem _ (List.mem_append_left _ (List.mem_append_right _ h9))
theorem in_X7_odds_X0 : ∀ w ∈ wsX00, w ∈ wsX7_odds := fun _ h9 => List.mem_cons_of_mem _ (List.mem_append_right _ h9)
def rmX7_odds : Room := { frames := 6, cells := 0, slots := 0, locals := 133 }
def fX7_odds_b79 (n : Nat) (a2 : Int32) (a3 : Int32) (a4 : Int32) (I : Nat → Int32) (R : Nat → Nat → Int32) : Option (Int64 × mSt) :=
  if a2 = 0 then
    some (((a3).toInt64), I, R)
  else
    some (((a4).toInt64), I, R)
set_option maxRecDepth 20000 in
set_option maxHeartbeats 2000000 in
theorem fX7_odds_b79_w {p : Program} {l : Launch} {e : Env} {s : State} {m : MethodId} {args : Array Value} {below : List Frame} {meth : Method} {c : Code} {D : va_G} {y : ClassId} {yS : ClassId × ClassId} {q : Nat → Nat} {n : Nat} {z : Int64 × mSt} (X : cX p s m args c cX7_odds 6 wsX7_odds RX7 D y yS) (hr : meth.sig.returnType = some .long ∧ meth.locks = false) {a2 : Int32} {a3 : Int32} {a4 : Int32} {I : Nat → Int32} {R : Nat → Nat → Int32} {H : Heap} {locs : List Loc} {ls : Array Slot} (w : cH s D y yS q H locs I R) (hl : lv_has ls 6 [(0, .ref (q 0)), (2, .int a2), (3, .int a3), (4, .int a4)]) (e0 : fX7_odds_b79 n a2 a3 a4 I R = some z) : W p l e rmX7_odds s m args below meth c H locs 0 0 (MQ below (cQl D y yS q (cS y yS q s.heap.size) z) args s 0 0 (cS y yS q s.heap.size)) (F0 m 79 ls []) := by
  have hx := X.1.1
  have hb := X.1.2.1
  unfold fX7_odds_b79 at e0
  refine lv_iload_n hx hb dX7_odds_79 rfl (lv_at hl 1 rfl) ?_
  refine lv_if_ne (tgt := 88) hx hb dX7_odds_80 (by decide) (fun c13 => ?_) (fun c13 => ?_)
  · have e0 := itn _ c13 e0
    refine lv_iload hx hb dX7_odds_88 (lv_at hl 3 rfl) ?_
    refine lv_i2l (v := ((a4).toInt64)) hx hb dX7_odds_90 rfl ?_
    have e0 := Option.some.inj e0
    subst e0
    exact c_lret X w hr dX7_odds_91
  · have e0 := itp _ c13 e0
    refine lv_iload_n hx hb dX7_odds_83 rfl (lv_at hl 2 rfl) ?_
    refine lv_i2l (v := ((a3).toInt64)) hx hb dX7_odds_84 rfl ?_
    refine lv_goto (tgt := 91) hx hb dX7_odds_85 (by decide) ?_
    have e0 := Option.some.inj e0
    subst e0
    exact c_lret X w hr dX7_odds_91
def fX7_odds_b51 (n : Nat) : Nat → Int32 → Int32 → Int32 → Int32 → (Nat → Int32) → (Nat → Nat → Int32) → Option (Int64 × mSt)
  | 0, _, _, _, _, _, _ => none
  | j + 1, a2, a3, a4, a5, I, R =>
    if 4 ≤ a5 then
      fX7_odds_b79 n a2 a3 a4 I R
    else
      if (a3 &&& 1) = 0 then
        fX7_odds_b51 n j a2 (a3 >>> (1 &&& 31)) (a4 >>> (1 &&& 31)) (a5 + 1) I R
      else
        fX7_odds_b79 n a2 a3 a4 I R
set_option maxRecDepth 20000 in
set_option maxHeartbeats 2000000 in
theorem fX7_odds_b51_w {p : Program} {l : Launch} {e : Env} {s : State} {m : MethodId} {args : Array Value} {below : List Frame} {meth : Method} {c : Code} {D : va_G} {y : ClassId} {yS : ClassId × ClassId} {q : Nat → Nat} {n : Nat} {z : Int64 × mSt} (X : cX p s m args c cX7_odds 6 wsX7_odds RX7 D y yS) (hr : meth.sig.returnType = some .long ∧ meth.locks = false) : ∀ (j : Nat) (a2 : Int32) (a3 : Int32) (a4 : Int32) (a5 : Int32) (I : Nat → Int32) (R : Nat → Nat → Int32) (H : Heap) (locs : List Loc) (ls : Array Slot), cH s D y yS q H locs I R → lv_has ls 6 [(0, .ref (q 0)), (2, .int a2), (3, .int a3), (4, .int a4), (5, .int a5)] → fX7_odds_b51 n j a2 a3 a4 a5 I R = some z → W p l e rmX7_odds s m args below meth c H locs 0 0 (MQ below (cQl D y yS q (cS y yS q s.heap.size) z) args s 0 0 (cS y yS q s.heap.size)) (F0 m 51 ls []) := by
  have hx := X.1.1
  have hb := X.1.2.1
  intro j
  induction j with
  | zero =>
    intro a2 a3 a4 a5 I R H locs ls w hl e0
    cases e0
  | succ j ih =>
    intro a2 a3 a4 a5 I R H locs ls w hl e0
    rw [fX7_odds_b51] at e0
    refine lv_iload hx hb dX7_odds_51 (lv_at hl 4 rfl) ?_
    refine lv_iconst (v := 4) hx hb dX7_odds_53 (by decide) ?_
    refine lv_icmp_ge (tgt := 79) hx hb dX7_odds_54 (by decide) (fun c12 => ?_) (fun c12 => ?_)
    · have e0 := itp _ c12 e0
      exact fX7_odds_b79_w (l := l) X hr w (lv_sub hl [0, 1, 2, 3] rfl) e0
    · have e0 := itn _ c12 e0
      refine lv_iload_n hx hb dX7_odds_57 rfl (lv_at hl 2 rfl) ?_
      refine lv_iconst (v := 1) hx hb dX7_odds_58 (by decide) ?_
      refine lv_iand hx hb dX7_odds_59 ?_
      refine lv_if_ne (tgt := 79) hx hb dX7_odds_60 (by decide) (fun c11 => ?_) (fun c11 => ?_)
      · have e0 := itn _ c11 e0
        exact fX7_odds_b79_w (l := l) X hr w (lv_sub hl [0, 1, 2, 3] rfl) e0
      · have e0 := itp _ c11 e0
        refine lv_iload_n hx hb dX7_odds_63 rfl (lv_at hl 2 rfl) ?_
        refine lv_iconst (v := 1) hx hb dX7_odds_64 (by decide) ?_
        refine lv_ishr hx hb dX7_odds_65 ?_
        refine lv_istore_n (lv' := [(3, .int (a3 >>> (1 &&& 31))), (0, .ref (q 0)), (2, .int a2), (4, .int a4), (5, .int a5)]) hx hb dX7_odds_66 rfl hl (by decide) rfl (fun ls hl => ?_)
        refine lv_iload hx hb dX7_odds_67 (lv_at hl 3 rfl) ?_
        refine lv_iconst (v := 1) hx hb dX7_odds_69 (by decide) ?_
        refine lv_ishr hx hb dX7_odds_70 ?_
        refine lv_istore (lv' := [(4, .int (a4 >>> (1 &&& 31))), (3, .int (a3 >>> (1 &&& 31))), (0, .ref (q 0)), (2, .int a2), (5, .int a5)]) hx hb dX7_odds_71 hl (by decide) rfl (fun ls hl => ?_)
        refine lv_iinc (v := (a5 + 1)) (lv' := [(5, .int (a5 + 1)), (4, .int (a4 >>> (1 &&& 31))), (3, .int (a3 >>> (1 &&& 31))), (0, .ref (q 0)), (2, .int a2)]) hx hb dX7_odds_73 hl (k := 4) rfl rfl (by decide) rfl (fun ls hl => ?_)
        refine lv_goto (tgt := 51) hx hb dX7_odds_76 (by decide) ?_
        exact ih _ _ _ _ _ _ _ _ _ w (lv_sub hl [3, 4, 2, 1, 0] rfl) e0
def fX7_odds (n : Nat) (a1 : Int32) (a2 : Int32) (I : Nat → Int32) (R : Nat → Nat → Int32) : Option (Int64 × mSt) :=
  (fX7_isRelation n a1 I R).bind fun z1 =>
  if z1.1 = 0 then
    some ((-9223372036854775808), z1.2.1, z1.2.2)
  else
    if a2 < 0 then
      some ((-9223372036854775808), z1.2.1, z1.2.2)
    else
      if a2 ≤ 1 then
        (fX6_settle n 0 z1.2.1 z1.2.2).bind fun z3 =>
        if inb a1 4 = true then
        (fJ6_bitCount_0f7a4 n (getA z3.2 (143 + 100 * 0) a1)).bind fun z6 =>
        fX7_odds_b51 n n a2 z6 16 0 z3.1 z3.2
        else none
      else
        some ((-9223372036854775808), z1.2.1, z1.2.2)
set_option maxRecDepth 20000 in
set_option maxHeartbeats 2000000 in
theorem fX7_odds_w {p : Program} {l : Launch} {e : Env} {s : State} {m : MethodId} {args : Array Value} {below : List Frame} {meth : Method} {c : Code} {D : va_G} {y : ClassId} {yS : ClassId × ClassId} {q : Nat → Nat} {n : Nat} {z : Int64 × mSt} (X : cX p s m args c cX7_odds 6 wsX7_odds RX7 D y yS) (hr : meth.sig.returnType = some .long ∧ meth.locks = false) {a1 : Int32} {a2 : Int32} {I : Nat → Int32} {R : Nat → Nat → Int32} {H : Heap} {locs : List Loc} {ls : Array Slot} (w : cH s D y yS q H locs I R) (hl : lv_has ls 6 [(0, .ref (q 0)), (1, .int a1), (2, .int a2)]) (e0 : fX7_odds n a1 a2 I R = some z) : W p l e rmX7_odds s m args below meth c H locs 0 0 (MQ below (cQl D y yS q (cS y yS q s.heap.size) z) args s 0 0 (cS y yS q s.heap.size)) (F0 m 0 ls []) := by
  have hx := X.1.1
  have hb := X.1.2.1
  unfold fX7_odds at e0
  refine lv_aload_n hx hb dX7_odds_0 rfl (lv_at hl 0 rfl) ?_
  refine lv_iload_n hx hb dX7_odds_1 rfl (lv_at hl 1 rfl) ?_
  refine bd e0 (fun z1 e2 e0 => ?_)
  refine c_calli X w (c_rec X w (cat_RR _ _ _ _ _) rfl) (n := 1) (As := [.int a1]) (rest := []) (fX7_isRelation_met l _ _ _ _ _ _ _ _ _ _ e2) gX7_odds_X7_isRelation rfl rfl rfl (by decide +kernel) ⟨Nat.le_of_ble_eq_true rfl, Nat.le_of_ble_eq_true rfl⟩ rfl hl.1 rfl (Nat.le_of_ble_eq_true rfl) dX7_odds_2 (fun H locs w => ?_)
  refine lv_if_eq (tgt := 17) hx hb dX7_odds_5 (by decide) (fun c10 => ?_) (fun c10 => ?_)
  · have e0 := itp _ c10 e0
    refine lv_ldc2 (own := RX7) (v := (-9223372036854775808)) hx hb X.1.2.2.2.1 (X.1.2.2.2.2 _ (by decide +kernel)) dX7_odds_17 ?_
    have e0 := Option.some.inj e0
    subst e0
    exact c_lret X w hr dX7_odds_20
  · have e0 := itn _ c10 e0
    refine lv_iload_n hx hb dX7_odds_8 rfl (lv_at hl 2 rfl) ?_
    refine lv_if_lt (tgt := 17) hx hb dX7_odds_9 (by decide) (fun c9 => ?_) (fun c9 => ?_)
    · have e0 := itp _ c9 e0
      refine lv_ldc2 (own := RX7) (v := (-9223372036854775808)) hx hb X.1.2.2.2.1 (X.1.2.2.2.2 _ (by decide +kernel)) dX7_odds_17 ?_
      have e0 := Option.some.inj e0
      subst e0
      exact c_lret X w hr dX7_odds_20
    · have e0 := itn _ c9 e0
      refine lv_iload_n hx hb dX7_odds_12 rfl (lv_at hl 2 rfl) ?_
      refine lv_iconst (v := 1) hx hb dX7_odds_13 (by decide) ?_
      refine lv_icmp_le (tgt := 21) hx hb dX7_odds_14 (by decide) (fun c8 => ?_) (fun c8 => ?_)
      · have e0 := itp _ c8 e0
        refine lv_aload_n hx hb dX7_odds_21 rfl (lv_at hl 0 rfl) ?_
        refine c_get X w (cat_RR _ _ _ _ _) rfl in_X7_odds_X7 1 (by decide) (index := 21) rfl (by decide +kernel) (cf_RR_1 _ _) dX7_odds_22 ?_
        refine bd e0 (fun z3 e4 e0 => ?_)
        refine c_callv X w (c_rec X w (cat_WO _ _ _ _ _ 0 (by decide)) rfl) (n := 0) (As := []) (rest := []) (fX6_settle_met l _ _ _ _ _ _ _ (by decide)  _ _ _ e4) gX7_odds_X6_settle rfl rfl rfl (by decide +kernel) ⟨Nat.le_of_ble_eq_true rfl, Nat.le_of_ble_eq_true rfl⟩ rfl hl.1 rfl (Nat.le_of_ble_eq_true rfl) dX7_odds_25 (fun H locs w => ?_)
        refine lv_aload_n hx hb dX7_odds_28 rfl (lv_at hl 0 rfl) ?_
        refine c_get X w (cat_RR _ _ _ _ _) rfl in_X7_odds_X7 1 (by decide) (index := 21) rfl (by decide +kernel) (cf_RR_1 _ _) dX7_odds_29 ?_
        refine c_get X w (cat_WO _ _ _ _ _ 0 (by decide)) rfl in_X7_odds_X6 2 (by decide) (index := 141) rfl (by decide +kernel) (cf_WO_2 _ _ _) dX7_odds_32 ?_
        refine c_get X w (cat_RO _ _ _ _ _ 0 (by decide)) rfl in_X7_odds_X3 2 (by decide) (index := 145) rfl (by decide +kernel) (cf_RO_2 _ _ _) dX7_odds_35 ?_
        refine lv_iload_n hx hb dX7_odds_38 rfl (lv_at hl 1 rfl) ?_
        refine gd e0 (fun g5 e0 => ?_)
        refine c_ald X w (cat_a143 _ _ _ _ _ 0 (by decide)) g5 dX7_odds_39 ?_
        refine bd e0 (fun z6 e7 e0 => ?_)
        refine c_callsi X w (n := 1) (As := [.int (getA z3.2 (143 + 100 * 0) a1)]) (rest := []) (fJ6_bitCount_0f7a4_met l _ _ _ e7) gX7_odds_J6_bitCount_0f7a4 rfl rfl rfl (by decide +kernel) ⟨Nat.le_of_ble_eq_true rfl, Nat.le_of_ble_eq_true rfl⟩ rfl hl.1 rfl (Nat.le_of_ble_eq_true rfl) dX7_odds_40 (fun H locs w => ?_)
        refine lv_istore_n (lv' := [(3, .int z6), (0, .ref (q 0)), (1, .int a1), (2, .int a2)]) hx hb dX7_odds_43 rfl hl (by decide) rfl (fun ls hl => ?_)
        refine lv_bipush (v := 16) hx hb dX7_odds_44 (by decide) ?_
        refine lv_istore (lv' := [(4, .int 16), (3, .int z6), (0, .ref (q 0)), (1, .int a1), (2, .int a2)]) hx hb dX7_odds_46 hl (by decide) rfl (fun ls hl => ?_)
        refine lv_iconst (v := 0) hx hb dX7_odds_48 (by decide) ?_
        refine lv_istore (lv' := [(5, .int 0), (4, .int 16), (3, .int z6), (0, .ref (q 0)), (1, .int a1), (2, .int a2)]) hx hb dX7_odds_49 hl (by decide) rfl (fun ls hl => ?_)
        exact fX7_odds_b51_w (l := l) X hr n _ _ _ _ _ _ _ _ _ w (lv_sub hl [3, 5, 2, 1, 0] rfl) e0
      · have e0 := itn _ c8 e0
        refine lv_ldc2 (own := RX7) (v := (-9223372036854775808)) hx hb X.1.2.2.2.1 (X.1.2.2.2.2 _ (by decide +kernel)) dX7_odds_17 ?_
        have e0 := Option.some.inj e0
        subst e0
        exact c_lret X w hr dX7_odds_20
set_option maxRecDepth 20000 in
theorem fX7_odds_met (l : Launch) (D : va_G) (y : ClassId) (yS : ClassId × ClassId) (q : Nat → Nat) (sz n : Nat) (a1 : Int32) (a2 : Int32) (I : Nat → Int32) (R : Nat → Nat → Int32) (z : Int64 × mSt) (e0 : fX7_odds n a1 a2 I R = some z) : Met l yX7_odds wsX7_odds rmX7_odds (va_Pc [.ref (q 0), .int a1, .int a2] (cPre D y yS q sz I R)) (cQl D y yS q (cS y yS q sz) z) 0 0 (cS y yS q sz) := by
  refine Met.ofW (cc := cX7_odds) (maxL := 6) (ret := some .long) (by decide) rfl ?_
  intro p e s m args below meth c s₁ B hml hv
  obtain ⟨rfl, hsz, hP, hK, hN, hD⟩ := hv
  subst hsz
  have hl := lv_entry ([.ref (q 0), .int a1, .int a2]) (n := 6) (Nat.le_of_ble_eq_true rfl)
  rw [lg_entry_eq]
  exact fX7_odds_w (s := s) ⟨⟨B.exec, B.bytes, hml, findClass_of_methodNamed B.named, atoms_spec (ws := wsX7_odds) B.pre⟩, hK, hN⟩ ⟨B.returns, B.notSynchronized⟩ ⟨hP, cS_D hD, va_S.rf⟩ hl e0
theorem in_X7_sheet_X7 : ∀ w ∈ wsX70, w ∈ wsX7_sheet := fun _ h9 => List.mem_cons_of_mem _ (List.mem_append_left _ (List.mem_append_right _ h9))
theorem in_X7_sheet_X4 : ∀ w ∈ wsX40, w ∈ wsX7_sheet := fun _ h9 => List.mem_cons_of_mem _ (List.mem_append_right _ h9)
def rmX7_sheet : Room := { frames := 2, cells := 0, slots := 0, locals := 45 }
def fX7_sheet (n : Nat) (a1 : Int32) (a2 : Int32) (a3 : Int32) (I : Nat → Int32) (R : Nat → Nat → Int32) : Option (Int32 × mSt) :=
  (fX7_isSheet n a1).bind fun z1 =>
  if z1 = 0 then
    some ((-1), (upd I 9 0), R)
  else
    (fX7_isLane n a2).bind fun z3 =>
    if z3 = 0 then
      some ((-2), (upd I 9 0), R)
    else
      if a3 ≤ 60 then
        if 0 ≤ a3 then
          if inb a1 4 = true then
          (fX4_renew n (a1.toNatClampNeg) a2 a3 (upd I 9 0) R).bind fun z6 =>
          some (1, z6.1, z6.2)
          else none
        else
          (fX7_failed n 4 (upd I 9 0) R).bind fun z8 =>
          some (z8.1, z8.2.1, z8.2.2)
      else
        some ((-2), (upd I 9 0), R)
set_option maxRecDepth 20000 in
set_option maxHeartbeats 2000000 in
theorem fX7_sheet_w {p : Program} {l : Launch} {e : Env} {s : State} {m : MethodId} {args : Array Value} {below : List Frame} {meth : Method} {c : Code} {D : va_G} {y : ClassId} {yS : ClassId × ClassId} {q : Nat → Nat} {n : Nat} {z : Int32 × mSt} (X : cX p s m args c cX7_sheet 4 wsX7_sheet RX7 D y yS) (hr : meth.sig.returnType = some .int ∧ meth.locks = false) {a1 : Int32} {a2 : Int32} {a3 : Int32} {I : Nat → Int32} {R : Nat → Nat → Int32} {H : Heap} {locs : List Loc} {ls : Array Slot} (w : cH s D y yS q H locs I R) (hl : lv_has ls 4 [(0, .ref (q 0)), (1, .int a1), (2, .int a2), (3, .int a3)]) (e0 : fX7_sheet n a1 a2 a3 I R = some z) : W p l e rmX7_sheet s m args below meth c H locs 0 0 (MQ below (cQi D y yS q (cS y yS q s.heap.size) z) args s 0 0 (cS y yS q s.heap.size)) (F0 m 0 ls []) := by
  have hx := X.1.1
  have hb := X.1.2.1
  unfold fX7_sheet at e0
  refine lv_aload_n hx hb dX7_sheet_0 rfl (lv_at hl 0 rfl) ?_
  refine lv_iconst (v := 0) hx hb dX7_sheet_1 (by decide) ?_
  refine c_put X w (cat_RR _ _ _ _ _) rfl in_X7_sheet_X7 tyX7 tyX7_ok nmX7 8 (by decide) (index := 42) (ty := .int) rfl (by decide +kernel) rfl (by decide +kernel) rfl rfl (Nat.le_of_ble_eq_true rfl) (cset_RR_8 _ _ _ _ _ _) dX7_sheet_2 (fun H locs w => ?_)
  refine lv_iload_n hx hb dX7_sheet_5 rfl (lv_at hl 1 rfl) ?_
  refine bd e0 (fun z1 e2 e0 => ?_)
  refine c_callsi X w (n := 1) (As := [.int a1]) (rest := []) (fX7_isSheet_met l _ _ _ e2) gX7_sheet_X7_isSheet rfl rfl rfl (by decide +kernel) ⟨Nat.le_of_ble_eq_true rfl, Nat.le_of_ble_eq_true rfl⟩ rfl hl.1 rfl (Nat.le_of_ble_eq_true rfl) dX7_sheet_6 (fun H locs w => ?_)
  refine lv_if_ne (tgt := 14) hx hb dX7_sheet_9 (by decide) (fun c13 => ?_) (fun c13 => ?_)
  · have e0 := itn _ c13 e0
    refine lv_iload_n hx hb dX7_sheet_14 rfl (lv_at hl 2 rfl) ?_
    refine bd e0 (fun z3 e4 e0 => ?_)
    refine c_callsi X w (n := 1) (As := [.int a2]) (rest := []) (fX7_isLane_met l _ _ _ e4) gX7_sheet_X7_isLane rfl rfl rfl (by decide +kernel) ⟨Nat.le_of_ble_eq_true rfl, Nat.le_of_ble_eq_true rfl⟩ rfl hl.1 rfl (Nat.le_of_ble_eq_true rfl) dX7_sheet_15 (fun H locs w => ?_)
    refine lv_if_eq (tgt := 27) hx hb dX7_sheet_18 (by decide) (fun c12 => ?_) (fun c12 => ?_)
    · have e0 := itp _ c12 e0
      refine lv_bipush (v := (-2)) hx hb dX7_sheet_27 (by decide) ?_
      have e0 := Option.some.inj e0
      subst e0
      exact c_iret X w hr dX7_sheet_29
    · have e0 := itn _ c12 e0
      refine lv_iload_n hx hb dX7_sheet_21 rfl (lv_at hl 3 rfl) ?_
      refine lv_bipush (v := 60) hx hb dX7_sheet_22 (by decide) ?_
      refine lv_icmp_le (tgt := 30) hx hb dX7_sheet_24 (by decide) (fun c11 => ?_) (fun c11 => ?_)
      · have e0 := itp _ c11 e0
        refine lv_iload_n hx hb dX7_sheet_30 rfl (lv_at hl 3 rfl) ?_
        refine lv_if_ge (tgt := 40) hx hb dX7_sheet_31 (by decide) (fun c10 => ?_) (fun c10 => ?_)
        · have e0 := itp _ c10 e0
          refine lv_aload_n hx hb dX7_sheet_40 rfl (lv_at hl 0 rfl) ?_
          refine c_get X w (cat_RR _ _ _ _ _) rfl in_X7_sheet_X7 0 (by decide) (index := 13) rfl (by decide +kernel) (cf_RR_0 _ _) dX7_sheet_41 ?_
          refine lv_iload_n hx hb dX7_sheet_44 rfl (lv_at hl 1 rfl) ?_
          refine gd e0 (fun g5 e0 => ?_)
          refine c_shs X w g5 dX7_sheet_45 ?_
          refine lv_iload_n hx hb dX7_sheet_46 rfl (lv_at hl 2 rfl) ?_
          refine lv_iload_n hx hb dX7_sheet_47 rfl (lv_at hl 3 rfl) ?_
          refine bd e0 (fun z6 e7 e0 => ?_)
          refine c_callv X w (c_rec X w (cat_SH _ _ _ _ _ a1.toNatClampNeg (inb_lt g5)) rfl) (n := 2) (As := [.int a2, .int a3]) (rest := []) (fX4_renew_met l _ _ _ _ _ _ _ (inb_lt g5) _ _ _ _ _ e7) gX7_sheet_X4_renew rfl rfl rfl (by decide +kernel) ⟨Nat.le_of_ble_eq_true rfl, Nat.le_of_ble_eq_true rfl⟩ rfl hl.1 rfl (Nat.le_of_ble_eq_true rfl) dX7_sheet_48 (fun H locs w => ?_)
          refine lv_iconst (v := 1) hx hb dX7_sheet_51 (by decide) ?_
          have e0 := Option.some.inj e0
          subst e0
          exact c_iret X w hr dX7_sheet_52
        · have e0 := itn _ c10 e0
          refine lv_aload_n hx hb dX7_sheet_34 rfl (lv_at hl 0 rfl) ?_
          refine lv_iconst (v := 4) hx hb dX7_sheet_35 (by decide) ?_
          refine bd e0 (fun z8 e9 e0 => ?_)
          refine c_calli X w (c_rec X w (cat_RR _ _ _ _ _) rfl) (n := 1) (As := [.int 4]) (rest := []) (fX7_failed_met l _ _ _ _ _ _ _ _ _ _ e9) gX7_sheet_X7_failed rfl rfl rfl (by decide +kernel) ⟨Nat.le_of_ble_eq_true rfl, Nat.le_of_ble_eq_true rfl⟩ rfl hl.1 rfl (Nat.le_of_ble_eq_true rfl) dX7_sheet_36 (fun H locs w => ?_)
          have e0 := Option.some.inj e0
          subst e0
          exact c_iret X w hr dX7_sheet_39
      · have e0 := itn _ c11 e0
        refine lv_bipush (v := (-2)) hx hb dX7_sheet_27 (by decide) ?_
        have e0 := Option.some.inj e0
        subst e0
        exact c_iret X w hr dX7_sheet_29
  · have e0 := itp _ c13 e0
    refine lv_iconst (v := (-1)) hx hb dX7_sheet_12 (by decide) ?_
    have e0 := Option.some.inj e0
    subst e0
    exact c_iret X w hr dX7_sheet_13
set_option maxRecDepth 20000 in
theorem fX7_sheet_met (l : Launch) (D : va_G) (y : ClassId) (yS : ClassId × ClassId) (q : Nat → Nat) (sz n : Nat) (a1 : Int32) (a2 : Int32) (a3 : Int32) (I : Nat → Int32) (R : Nat → Nat → Int32) (z : Int32 × mSt) (e0 : fX7_sheet n a1 a2 a3 I R = some z) : Met l yX7_sheet wsX7_sheet rmX7_sheet (va_Pc [.ref (q 0), .int a1, .int a2, .int a3] (cPre D y yS q sz I R)) (cQi D y yS q (cS y yS q sz) z) 0 0 (cS y yS q sz) := by
  refine Met.ofW (cc := cX7_sheet) (maxL := 4) (ret := some .int) (by decide) rfl ?_
  intro p e s m args below meth c s₁ B hml hv
  obtain ⟨rfl, hsz, hP, hK, hN, hD⟩ := hv
  subst hsz
  have hl := lv_entry ([.ref (q 0), .int a1, .int a2, .int a3]) (n := 4) (Nat.le_of_ble_eq_true rfl)
  rw [lg_entry_eq]
  exact fX7_sheet_w (s := s) ⟨⟨B.exec, B.bytes, hml, findClass_of_methodNamed B.named, atoms_spec (ws := wsX7_sheet) B.pre⟩, hK, hN⟩ ⟨B.returns, B.notSynchronized⟩ ⟨hP, cS_D hD, va_S.rf⟩ hl e0
theorem in_X7_lose_X7 : ∀ w ∈ wsX70, w ∈ wsX7_lose := fun _ h9 => List.mem_cons_of_mem _ (List.mem_append_left _ (List.mem_append_right _ h9))
theorem in_X7_lose_X4 : ∀ w ∈ wsX40, w ∈ wsX7_lose := fun _ h9 => List.mem_cons_of_mem _ (List.mem_append_right _ h9)
def rmX7_lose : Room := { frames := 1, cells := 0, slots := 0, locals := 21 }
def fX7_lose (n : Nat) (a1 : Int32) (I : Nat → Int32) (R : Nat → Nat → Int32) : Option (Int32 × mSt) :=
  (fX7_isSheet n a1).bind fun z1 =>
  if z1 = 0 then
    some ((-1), I, R)
  else
    if inb a1 4 = true then
    (fX4_clear n (a1.toNatClampNeg) I R).bind fun z4 =>
    if z4.1 = 0 then
      some (0, z4.2.1, z4.2.2)
    else
      some (1, z4.2.1, z4.2.2)
    else none
set_option maxRecDepth 20000 in
set_option maxHeartbeats 2000000 in
theorem fX7_lose_w {p : Program} {l : Launch} {e : Env} {s : State} {m : MethodId} {args : Array Value} {below : List Frame} {meth : Method} {c : Code} {D : va_G} {y : ClassId} {yS : ClassId × ClassId} {q : Nat → Nat} {n : Nat} {z : Int32 × mSt} (X : cX p s m args c cX7_lose 2 wsX7_lose RX7 D y yS) (hr : meth.sig.returnType = some .int ∧ meth.locks = false) {a1 : Int32} {I : Nat → Int32} {R : Nat → Nat → Int32} {H : Heap} {locs : List Loc} {ls : Array Slot} (w : cH s D y yS q H locs I R) (hl : lv_has ls 2 [(0, .ref (q 0)), (1, .int a1)]) (e0 : fX7_lose n a1 I R = some z) : W p l e rmX7_lose s m args below meth c H locs 0 0 (MQ below (cQi D y yS q (cS y yS q s.heap.size) z) args s 0 0 (cS y yS q s.heap.size)) (F0 m 0 ls []) := by
  have hx := X.1.1
  have hb := X.1.2.1
  unfold fX7_lose at e0
  refine lv_iload_n hx hb dX7_lose_0 rfl (lv_at hl 1 rfl) ?_
  refine bd e0 (fun z1 e2 e0 => ?_)
  refine c_callsi X w (n := 1) (As := [.int a1]) (rest := []) (fX7_isSheet_met l _ _ _ e2) gX7_lose_X7_isSheet rfl rfl rfl (by decide +kernel) ⟨Nat.le_of_ble_eq_true rfl, Nat.le_of_ble_eq_true rfl⟩ rfl hl.1 rfl (Nat.le_of_ble_eq_true rfl) dX7_lose_1 (fun H locs w => ?_)
  refine lv_if_ne (tgt := 9) hx hb dX7_lose_4 (by decide) (fun c7 => ?_) (fun c7 => ?_)
  · have e0 := itn _ c7 e0
    refine lv_aload_n hx hb dX7_lose_9 rfl (lv_at hl 0 rfl) ?_
    refine c_get X w (cat_RR _ _ _ _ _) rfl in_X7_lose_X7 0 (by decide) (index := 13) rfl (by decide +kernel) (cf_RR_0 _ _) dX7_lose_10 ?_
    refine lv_iload_n hx hb dX7_lose_13 rfl (lv_at hl 1 rfl) ?_
    refine gd e0 (fun g3 e0 => ?_)
    refine c_shs X w g3 dX7_lose_14 ?_
    refine bd e0 (fun z4 e5 e0 => ?_)
    refine c_calli X w (c_rec X w (cat_SH _ _ _ _ _ a1.toNatClampNeg (inb_lt g3)) rfl) (n := 0) (As := []) (rest := []) (fX4_clear_met l _ _ _ _ _ _ _ (inb_lt g3)  _ _ _ e5) gX7_lose_X4_clear rfl rfl rfl (by decide +kernel) ⟨Nat.le_of_ble_eq_true rfl, Nat.le_of_ble_eq_true rfl⟩ rfl hl.1 rfl (Nat.le_of_ble_eq_true rfl) dX7_lose_15 (fun H locs w => ?_)
    refine lv_if_eq (tgt := 25) hx hb dX7_lose_18 (by decide) (fun c6 => ?_) (fun c6 => ?_)
    · have e0 := itp _ c6 e0
      refine lv_iconst (v := 0) hx hb dX7_lose_25 (by decide) ?_
      have e0 := Option.some.inj e0
      subst e0
      exact c_iret X w hr dX7_lose_26
    · have e0 := itn _ c6 e0
      refine lv_iconst (v := 1) hx hb dX7_lose_21 (by decide) ?_
      refine lv_goto (tgt := 26) hx hb dX7_lose_22 (by decide) ?_
      have e0 := Option.some.inj e0
      subst e0
      exact c_iret X w hr dX7_lose_26
  · have e0 := itp _ c7 e0
    refine lv_iconst (v := (-1)) hx hb dX7_lose_7 (by decide) ?_
    have e0 := Option.some.inj e0
    subst e0
    exact c_iret X w hr dX7_lose_8
set_option maxRecDepth 20000 in
theorem fX7_lose_met (l : Launch) (D : va_G) (y : ClassId) (yS : ClassId × ClassId) (q : Nat → Nat) (sz n : Nat) (a1 : Int32) (I : Nat → Int32) (R : Nat → Nat → Int32) (z : Int32 × mSt) (e0 : fX7_lose n a1 I R = some z) : Met l yX7_lose wsX7_lose rmX7_lose (va_Pc [.ref (q 0), .int a1] (cPre D y yS q sz I R)) (cQi D y yS q (cS y yS q sz) z) 0 0 (cS y yS q sz) := by
  refine Met.ofW (cc := cX7_lose) (maxL := 2) (ret := some .int) (by decide) rfl ?_
  intro p e s m args below meth c s₁ B hml hv
  obtain ⟨rfl, hsz, hP, hK, hN, hD⟩ := hv
  subst hsz
  have hl := lv_entry ([.ref (q 0), .int a1]) (n := 2) (Nat.le_of_ble_eq_true rfl)
  rw [lg_entry_eq]
  exact fX7_lose_w (s := s) ⟨⟨B.exec, B.bytes, hml, findClass_of_methodNamed B.named, atoms_spec (ws := wsX7_lose) B.pre⟩, hK, hN⟩ ⟨B.returns, B.notSynchronized⟩ ⟨hP, cS_D hD, va_S.rf⟩ hl e0
theorem in_X7_put_X7 : ∀ w ∈ wsX70, w ∈ wsX7_put := fun _ h9 => List.mem_cons_of_mem _ (List.mem_append_left _ (List.mem_append_right _ h9))
theorem in_X7_put_X4 : ∀ w ∈ wsX40, w ∈ wsX7_put := fun _ h9 => List.mem_cons_of_mem _ (List.mem_append_right _ h9)
def rmX7_put : Room := { frames := 1, cells := 0, slots := 0, locals := 21 }
def fX7_put (n : Nat) (a1 : Int32) (a2 : Int32) (a3 : Int32) (I : Nat → Int32) (R : Nat → Nat → Int32) : Option (Int32 × mSt) :=
  (fX7_isSheet n a1).bind fun z1 =>
  if z1 = 0 then
    some ((-1), (upd I 9 0), R)
  else
    if inb a1 4 = true then
    if ((upd I 9 0) (1002 + 10 * a1.toNatClampNeg)) = 0 then
      (fX7_failed n 1 (upd I 9 0) R).bind fun z12 =>
      some (z12.1, z12.2.1, z12.2.2)
    else
      (fX4_hasCell n (a1.toNatClampNeg) a2 (upd I 9 0) R).bind fun z4 =>
      if z4.1 = 0 then
        (fX7_failed n 3 z4.2.1 z4.2.2).bind fun z9 =>
        some (z9.1, z9.2.1, z9.2.2)
      else
        (fX4_cut n (a1.toNatClampNeg) a3 z4.2.1 z4.2.2).bind fun z6 =>
        if inb a2 60 = true then
        some (1, z6.2.1, (setA z6.2.2 (1001 + 10 * a1.toNatClampNeg) a2 z6.1))
        else none
    else none
set_option maxRecDepth 20000 in
set_option maxHeartbeats 2000000 in
theorem fX7_put_w {p : Program} {l : Launch} {e : Env} {s : State} {m : MethodId} {args : Array Value} {below : List Frame} {meth : Method} {c : Code} {D : va_G} {y : ClassId} {yS : ClassId × ClassId} {q : Nat → Nat} {n : Nat} {z : Int32 × mSt} (X : cX p s m args c cX7_put 5 wsX7_put RX7 D y yS) (hr : meth.sig.returnType = some .int ∧ meth.locks = false) {a1 : Int32} {a2 : Int32} {a3 : Int32} {I : Nat → Int32} {R : Nat → Nat → Int32} {H : Heap} {locs : List Loc} {ls : Array Slot} (w : cH s D y yS q H locs I R) (hl : lv_has ls 5 [(0, .ref (q 0)), (1, .int a1), (2, .int a2), (3, .int a3)]) (e0 : fX7_put n a1 a2 a3 I R = some z) : W p l e rmX7_put s m args below meth c H locs 0 0 (MQ below (cQi D y yS q (cS y yS q s.heap.size) z) args s 0 0 (cS y yS q s.heap.size)) (F0 m 0 ls []) := by
  have hx := X.1.1
  have hb := X.1.2.1
  unfold fX7_put at e0
  refine lv_aload_n hx hb dX7_put_0 rfl (lv_at hl 0 rfl) ?_
  refine lv_iconst (v := 0) hx hb dX7_put_1 (by decide) ?_
  refine c_put X w (cat_RR _ _ _ _ _) rfl in_X7_put_X7 tyX7 tyX7_ok nmX7 8 (by decide) (index := 42) (ty := .int) rfl (by decide +kernel) rfl (by decide +kernel) rfl rfl (Nat.le_of_ble_eq_true rfl) (cset_RR_8 _ _ _ _ _ _) dX7_put_2 (fun H locs w => ?_)
  refine lv_iload_n hx hb dX7_put_5 rfl (lv_at hl 1 rfl) ?_
  refine bd e0 (fun z1 e2 e0 => ?_)
  refine c_callsi X w (n := 1) (As := [.int a1]) (rest := []) (fX7_isSheet_met l _ _ _ e2) gX7_put_X7_isSheet rfl rfl rfl (by decide +kernel) ⟨Nat.le_of_ble_eq_true rfl, Nat.le_of_ble_eq_true rfl⟩ rfl hl.1 rfl (Nat.le_of_ble_eq_true rfl) dX7_put_6 (fun H locs w => ?_)
  refine lv_if_ne (tgt := 14) hx hb dX7_put_9 (by decide) (fun c15 => ?_) (fun c15 => ?_)
  · have e0 := itn _ c15 e0
    refine lv_aload_n hx hb dX7_put_14 rfl (lv_at hl 0 rfl) ?_
    refine c_get X w (cat_RR _ _ _ _ _) rfl in_X7_put_X7 0 (by decide) (index := 13) rfl (by decide +kernel) (cf_RR_0 _ _) dX7_put_15 ?_
    refine lv_iload_n hx hb dX7_put_18 rfl (lv_at hl 1 rfl) ?_
    refine gd e0 (fun g3 e0 => ?_)
    refine c_shs X w g3 dX7_put_19 ?_
    refine lv_astore (lv' := [(4, .ref (q (1000 + 10 * a1.toNatClampNeg))), (0, .ref (q 0)), (1, .int a1), (2, .int a2), (3, .int a3)]) hx hb dX7_put_20 hl (by decide) rfl (fun ls hl => ?_)
    refine lv_aload hx hb dX7_put_22 (lv_at hl 0 rfl) ?_
    refine c_get X w (cat_SH _ _ _ _ _ a1.toNatClampNeg (inb_lt g3)) rfl in_X7_put_X4 1 (by decide) (index := 267) rfl (by decide +kernel) (cf_SH_1 _ _ _) dX7_put_24 ?_
    refine lv_if_ne (tgt := 36) hx hb dX7_put_27 (by decide) (fun c14 => ?_) (fun c14 => ?_)
    · have e0 := itn _ c14 e0
      refine lv_aload hx hb dX7_put_36 (lv_at hl 0 rfl) ?_
      refine lv_iload_n hx hb dX7_put_38 rfl (lv_at hl 3 rfl) ?_
      refine bd e0 (fun z4 e5 e0 => ?_)
      refine c_calli X w (c_rec X w (cat_SH _ _ _ _ _ a1.toNatClampNeg (inb_lt g3)) rfl) (n := 1) (As := [.int a2]) (rest := []) (fX4_hasCell_met l _ _ _ _ _ _ _ (inb_lt g3) _ _ _ _ e5) gX7_put_X4_hasCell rfl rfl rfl (by decide +kernel) ⟨Nat.le_of_ble_eq_true rfl, Nat.le_of_ble_eq_true rfl⟩ rfl hl.1 rfl (Nat.le_of_ble_eq_true rfl) dX7_put_39 (fun H locs w => ?_)
      refine lv_if_ne (tgt := 51) hx hb dX7_put_42 (by decide) (fun c11 => ?_) (fun c11 => ?_)
      · have e0 := itn _ c11 e0
        refine lv_aload hx hb dX7_put_51 (lv_at hl 0 rfl) ?_
        refine c_get X w (cat_SH _ _ _ _ _ a1.toNatClampNeg (inb_lt g3)) rfl in_X7_put_X4 0 (by decide) (index := 218) rfl (by decide +kernel) (cf_SH_0 _ _ _) dX7_put_53 ?_
        refine lv_iload_n hx hb dX7_put_56 rfl (lv_at hl 3 rfl) ?_
        refine lv_aload hx hb dX7_put_57 (lv_at hl 0 rfl) ?_
        refine lv_iload_n hx hb dX7_put_59 rfl (lv_at hl 4 rfl) ?_
        refine bd e0 (fun z6 e7 e0 => ?_)
        refine c_calli X w (c_rec X w (cat_SH _ _ _ _ _ a1.toNatClampNeg (inb_lt g3)) rfl) (n := 1) (As := [.int a3]) (rest := [.int a2, .ref (q (1001 + 10 * a1.toNatClampNeg))]) (fX4_cut_met l _ _ _ _ _ _ _ (inb_lt g3) _ _ _ _ e7) gX7_put_X4_cut rfl rfl rfl (by decide +kernel) ⟨Nat.le_of_ble_eq_true rfl, Nat.le_of_ble_eq_true rfl⟩ rfl hl.1 rfl (Nat.le_of_ble_eq_true rfl) dX7_put_60 (fun H locs w => ?_)
        refine gd e0 (fun g8 e0 => ?_)
        refine c_ast X w (cat_a1001 _ _ _ _ _ a1.toNatClampNeg (inb_lt g3)) (cset_a1001 _ _ _ _ _ a1.toNatClampNeg (inb_lt g3)) g8 dX7_put_63 (fun H locs w => ?_)
        refine lv_iconst (v := 1) hx hb dX7_put_64 (by decide) ?_
        have e0 := Option.some.inj e0
        subst e0
        exact c_iret X w hr dX7_put_65
      · have e0 := itp _ c11 e0
        refine lv_aload_n hx hb dX7_put_45 rfl (lv_at hl 1 rfl) ?_
        refine lv_iconst (v := 3) hx hb dX7_put_46 (by decide) ?_
        refine bd e0 (fun z9 e10 e0 => ?_)
        refine c_calli X w (c_rec X w (cat_RR _ _ _ _ _) rfl) (n := 1) (As := [.int 3]) (rest := []) (fX7_failed_met l _ _ _ _ _ _ _ _ _ _ e10) gX7_put_X7_failed rfl rfl rfl (by decide +kernel) ⟨Nat.le_of_ble_eq_true rfl, Nat.le_of_ble_eq_true rfl⟩ rfl hl.1 rfl (Nat.le_of_ble_eq_true rfl) dX7_put_47 (fun H locs w => ?_)
        have e0 := Option.some.inj e0
        subst e0
        exact c_iret X w hr dX7_put_50
    · have e0 := itp _ c14 e0
      refine lv_aload_n hx hb dX7_put_30 rfl (lv_at hl 1 rfl) ?_
      refine lv_iconst (v := 1) hx hb dX7_put_31 (by decide) ?_
      refine bd e0 (fun z12 e13 e0 => ?_)
      refine c_calli X w (c_rec X w (cat_RR _ _ _ _ _) rfl) (n := 1) (As := [.int 1]) (rest := []) (fX7_failed_met l _ _ _ _ _ _ _ _ _ _ e13) gX7_put_X7_failed rfl rfl rfl (by decide +kernel) ⟨Nat.le_of_ble_eq_true rfl, Nat.le_of_ble_eq_true rfl⟩ rfl hl.1 rfl (Nat.le_of_ble_eq_true rfl) dX7_put_32 (fun H locs w => ?_)
      have e0 := Option.some.inj e0
      subst e0
      exact c_iret X w hr dX7_put_35
  · have e0 := itp _ c15 e0
    refine lv_iconst (v := (-1)) hx hb dX7_put_12 (by decide) ?_
    have e0 := Option.some.inj e0
    subst e0
    exact c_iret X w hr dX7_put_13
set_option maxRecDepth 20000 in
theorem fX7_put_met (l : Launch) (D : va_G) (y : ClassId) (yS : ClassId × ClassId) (q : Nat → Nat) (sz n : Nat) (a1 : Int32) (a2 : Int32) (a3 : Int32) (I : Nat → Int32) (R : Nat → Nat → Int32) (z : Int32 × mSt) (e0 : fX7_put n a1 a2 a3 I R = some z) : Met l yX7_put wsX7_put rmX7_put (va_Pc [.ref (q 0), .int a1, .int a2, .int a3] (cPre D y yS q sz I R)) (cQi D y yS q (cS y yS q sz) z) 0 0 (cS y yS q sz) := by
  refine Met.ofW (cc := cX7_put) (maxL := 5) (ret := some .int) (by decide) rfl ?_
  intro p e s m args below meth c s₁ B hml hv
  obtain ⟨rfl, hsz, hP, hK, hN, hD⟩ := hv
  subst hsz
  have hl := lv_entry ([.ref (q 0), .int a1, .int a2, .int a3]) (n := 5) (Nat.le_of_ble_eq_true rfl)
  rw [lg_entry_eq]
  exact fX7_put_w (s := s) ⟨⟨B.exec, B.bytes, hml, findClass_of_methodNamed B.named, atoms_spec (ws := wsX7_put) B.pre⟩, hK, hN⟩ ⟨B.returns, B.notSynchronized⟩ ⟨hP, cS_D hD, va_S.rf⟩ hl e0
theorem in_X7_cell_X7 : ∀ w ∈ wsX70, w ∈ wsX7_cell := fun _ h9 => List.mem_cons_of_mem _ (List.mem_append_left _ (List.mem_append_right _ h9))
theorem in_X7_cell_X4 : ∀ w ∈ wsX40, w ∈ wsX7_cell := fun _ h9 => List.mem_cons_of_mem _ (List.mem_append_right _ h9)
def rmX7_cell : Room := { frames := 1, cells := 0, slots := 0, locals := 21 }
def fX7_cell_b56 (n : Nat) (a2 : Int32) (s4 : Nat) (a5 : Int32) (I : Nat → Int32) (R : Nat → Nat → Int32) : Option (Int64 × mSt) :=
  if a5 = 0 then
    if inb a2 60 = true then
    some ((((getA R (1001 + 10 * s4) a2)).toInt64), I, R)
    else none
  else
    some ((-9223372036854775808), (upd I 9 a5), R)
set_option maxRecDepth 20000 in
set_option maxHeartbeats 2000000 in
theorem fX7_cell_b56_w {p : Program} {l : Launch} {e : Env} {s : State} {m : MethodId} {args : Array Value} {below : List Frame} {meth : Method} {c : Code} {D : va_G} {y : ClassId} {yS : ClassId × ClassId} {q : Nat → Nat} {n : Nat} {z : Int64 × mSt} (X : cX p s m args c cX7_cell 6 wsX7_cell RX7 D y yS) (hr : meth.sig.returnType = some .long ∧ meth.locks = false) {a2 : Int32} {s4 : Nat} {a5 : Int32} {I : Nat → Int32} {R : Nat → Nat → Int32} (hs4 : s4 < 4) {H : Heap} {locs : List Loc} {ls : Array Slot} (w : cH s D y yS q H locs I R) (hl : lv_has ls 6 [(0, .ref (q 0)), (2, .int a2), (4, .ref (q (1000 + 10 * s4))), (5, .int a5)]) (e0 : fX7_cell_b56 n a2 s4 a5 I R = some z) : W p l e rmX7_cell s m args below meth c H locs 0 0 (MQ below (cQl D y yS q (cS y yS q s.heap.size) z) args s 0 0 (cS y yS q s.heap.size)) (F0 m 56 ls []) := by
  have hx := X.1.1
  have hb := X.1.2.1
  unfold fX7_cell_b56 at e0
  refine lv_iload hx hb dX7_cell_56 (lv_at hl 3 rfl) ?_
  refine lv_if_eq (tgt := 71) hx hb dX7_cell_58 (by decide) (fun c15 => ?_) (fun c15 => ?_)
  · have e0 := itp _ c15 e0
    refine lv_aload hx hb dX7_cell_71 (lv_at hl 2 rfl) ?_
    refine c_get X w (cat_SH _ _ _ _ _ s4 hs4) rfl in_X7_cell_X4 0 (by decide) (index := 218) rfl (by decide +kernel) (cf_SH_0 _ _ _) dX7_cell_73 ?_
    refine lv_iload_n hx hb dX7_cell_76 rfl (lv_at hl 1 rfl) ?_
    refine gd e0 (fun g14 e0 => ?_)
    refine c_ald X w (cat_a1001 _ _ _ _ _ s4 hs4) g14 dX7_cell_77 ?_
    refine lv_i2l (v := (((getA R (1001 + 10 * s4) a2)).toInt64)) hx hb dX7_cell_78 rfl ?_
    have e0 := Option.some.inj e0
    subst e0
    exact c_lret X w hr dX7_cell_79
  · have e0 := itn _ c15 e0
    refine lv_aload_n hx hb dX7_cell_61 rfl (lv_at hl 0 rfl) ?_
    refine lv_iload hx hb dX7_cell_62 (lv_at hl 3 rfl) ?_
    refine c_put X w (cat_RR _ _ _ _ _) rfl in_X7_cell_X7 tyX7 tyX7_ok nmX7 8 (by decide) (index := 42) (ty := .int) rfl (by decide +kernel) rfl (by decide +kernel) rfl rfl (Nat.le_of_ble_eq_true rfl) (cset_RR_8 _ _ _ _ _ _) dX7_cell_64 (fun H locs w => ?_)
    refine lv_ldc2 (own := RX7) (v := (-9223372036854775808)) hx hb X.1.2.2.2.1 (X.1.2.2.2.2 _ (by decide +kernel)) dX7_cell_67 ?_
    have e0 := Option.some.inj e0
    subst e0
    exact c_lret X w hr dX7_cell_70
def fX7_cell (n : Nat) (a1 : Int32) (a2 : Int32) (a3 : Int32) (I : Nat → Int32) (R : Nat → Nat → Int32) : Option (Int64 × mSt) :=
  (fX7_isSheet n a1).bind fun z1 =>
  if z1 = 0 then
    some ((-9223372036854775808), (upd I 9 0), R)
  else
    (fX7_isLane n a3).bind fun z3 =>
    if z3 = 0 then
      some ((-9223372036854775808), (upd I 9 0), R)
    else
      if inb a1 4 = true then
      (fX4_faultAs n (a1.toNatClampNeg) a3 (upd I 9 0) R).bind fun z6 =>
      if z6.1 = 0 then
        (fX4_hasCell n (a1.toNatClampNeg) a2 z6.2.1 z6.2.2).bind fun z8 =>
        if z8.1 = 0 then
          fX7_cell_b56 n a2 a1.toNatClampNeg 3 z8.2.1 z8.2.2
        else
          fX7_cell_b56 n a2 a1.toNatClampNeg z6.1 z8.2.1 z8.2.2
      else
        fX7_cell_b56 n a2 a1.toNatClampNeg z6.1 z6.2.1 z6.2.2
      else none
set_option maxRecDepth 20000 in
set_option maxHeartbeats 2000000 in
theorem fX7_cell_w {p : Program} {l : Launch} {e : Env} {s : State} {m : MethodId} {args : Array Value} {below : List Frame} {meth : Method} {c : Code} {D : va_G} {y : ClassId} {yS : ClassId × ClassId} {q : Nat → Nat} {n : Nat} {z : Int64 × mSt} (X : cX p s m args c cX7_cell 6 wsX7_cell RX7 D y yS) (hr : meth.sig.returnType = some .long ∧ meth.locks = false) {a1 : Int32} {a2 : Int32} {a3 : Int32} {I : Nat → Int32} {R : Nat → Nat → Int32} {H : Heap} {locs : List Loc} {ls : Array Slot} (w : cH s D y yS q H locs I R) (hl : lv_has ls 6 [(0, .ref (q 0)), (1, .int a1), (2, .int a2), (3, .int a3)]) (e0 : fX7_cell n a1 a2 a3 I R = some z) : W p l e rmX7_cell s m args below meth c H locs 0 0 (MQ below (cQl D y yS q (cS y yS q s.heap.size) z) args s 0 0 (cS y yS q s.heap.size)) (F0 m 0 ls []) := by
  have hx := X.1.1
  have hb := X.1.2.1
  unfold fX7_cell at e0
  refine lv_aload_n hx hb dX7_cell_0 rfl (lv_at hl 0 rfl) ?_
  refine lv_iconst (v := 0) hx hb dX7_cell_1 (by decide) ?_
  refine c_put X w (cat_RR _ _ _ _ _) rfl in_X7_cell_X7 tyX7 tyX7_ok nmX7 8 (by decide) (index := 42) (ty := .int) rfl (by decide +kernel) rfl (by decide +kernel) rfl rfl (Nat.le_of_ble_eq_true rfl) (cset_RR_8 _ _ _ _ _ _) dX7_cell_2 (fun H locs w => ?_)
  refine lv_iload_n hx hb dX7_cell_5 rfl (lv_at hl 1 rfl) ?_
  refine bd e0 (fun z1 e2 e0 => ?_)
  refine c_callsi X w (n := 1) (As := [.int a1]) (rest := []) (fX7_isSheet_met l _ _ _ e2) gX7_cell_X7_isSheet rfl rfl rfl (by decide +kernel) ⟨Nat.le_of_ble_eq_true rfl, Nat.le_of_ble_eq_true rfl⟩ rfl hl.1 rfl (Nat.le_of_ble_eq_true rfl) dX7_cell_6 (fun H locs w => ?_)
  refine lv_if_eq (tgt := 19) hx hb dX7_cell_9 (by decide) (fun c13 => ?_) (fun c13 => ?_)
  · have e0 := itp _ c13 e0
    refine lv_ldc2 (own := RX7) (v := (-9223372036854775808)) hx hb X.1.2.2.2.1 (X.1.2.2.2.2 _ (by decide +kernel)) dX7_cell_19 ?_
    have e0 := Option.some.inj e0
    subst e0
    exact c_lret X w hr dX7_cell_22
  · have e0 := itn _ c13 e0
    refine lv_iload_n hx hb dX7_cell_12 rfl (lv_at hl 3 rfl) ?_
    refine bd e0 (fun z3 e4 e0 => ?_)
    refine c_callsi X w (n := 1) (As := [.int a3]) (rest := []) (fX7_isLane_met l _ _ _ e4) gX7_cell_X7_isLane rfl rfl rfl (by decide +kernel) ⟨Nat.le_of_ble_eq_true rfl, Nat.le_of_ble_eq_true rfl⟩ rfl hl.1 rfl (Nat.le_of_ble_eq_true rfl) dX7_cell_13 (fun H locs w => ?_)
    refine lv_if_ne (tgt := 23) hx hb dX7_cell_16 (by decide) (fun c12 => ?_) (fun c12 => ?_)
    · have e0 := itn _ c12 e0
      refine lv_aload_n hx hb dX7_cell_23 rfl (lv_at hl 0 rfl) ?_
      refine c_get X w (cat_RR _ _ _ _ _) rfl in_X7_cell_X7 0 (by decide) (index := 13) rfl (by decide +kernel) (cf_RR_0 _ _) dX7_cell_24 ?_
      refine lv_iload_n hx hb dX7_cell_27 rfl (lv_at hl 1 rfl) ?_
      refine gd e0 (fun g5 e0 => ?_)
      refine c_shs X w g5 dX7_cell_28 ?_
      refine lv_astore (lv' := [(4, .ref (q (1000 + 10 * a1.toNatClampNeg))), (0, .ref (q 0)), (1, .int a1), (2, .int a2), (3, .int a3)]) hx hb dX7_cell_29 hl (by decide) rfl (fun ls hl => ?_)
      refine lv_aload hx hb dX7_cell_31 (lv_at hl 0 rfl) ?_
      refine lv_iload_n hx hb dX7_cell_33 rfl (lv_at hl 4 rfl) ?_
      refine bd e0 (fun z6 e7 e0 => ?_)
      refine c_calli X w (c_rec X w (cat_SH _ _ _ _ _ a1.toNatClampNeg (inb_lt g5)) rfl) (n := 1) (As := [.int a3]) (rest := []) (fX4_faultAs_met l _ _ _ _ _ _ _ (inb_lt g5) _ _ _ _ e7) gX7_cell_X4_faultAs rfl rfl rfl (by decide +kernel) ⟨Nat.le_of_ble_eq_true rfl, Nat.le_of_ble_eq_true rfl⟩ rfl hl.1 rfl (Nat.le_of_ble_eq_true rfl) dX7_cell_34 (fun H locs w => ?_)
      refine lv_istore (lv' := [(5, .int z6.1), (4, .ref (q (1000 + 10 * a1.toNatClampNeg))), (0, .ref (q 0)), (1, .int a1), (2, .int a2), (3, .int a3)]) hx hb dX7_cell_37 hl (by decide) rfl (fun ls hl => ?_)
      refine lv_iload hx hb dX7_cell_39 (lv_at hl 0 rfl) ?_
      refine lv_if_ne (tgt := 56) hx hb dX7_cell_41 (by decide) (fun c11 => ?_) (fun c11 => ?_)
      · have e0 := itn _ c11 e0
        exact fX7_cell_b56_w (l := l) X hr (inb_lt g5) w (lv_sub hl [2, 4, 1, 0] rfl) e0
      · have e0 := itp _ c11 e0
        refine lv_aload hx hb dX7_cell_44 (lv_at hl 1 rfl) ?_
        refine lv_iload_n hx hb dX7_cell_46 rfl (lv_at hl 4 rfl) ?_
        refine bd e0 (fun z8 e9 e0 => ?_)
        refine c_calli X w (c_rec X w (cat_SH _ _ _ _ _ a1.toNatClampNeg (inb_lt g5)) rfl) (n := 1) (As := [.int a2]) (rest := []) (fX4_hasCell_met l _ _ _ _ _ _ _ (inb_lt g5) _ _ _ _ e9) gX7_cell_X4_hasCell rfl rfl rfl (by decide +kernel) ⟨Nat.le_of_ble_eq_true rfl, Nat.le_of_ble_eq_true rfl⟩ rfl hl.1 rfl (Nat.le_of_ble_eq_true rfl) dX7_cell_47 (fun H locs w => ?_)
        refine lv_if_ne (tgt := 56) hx hb dX7_cell_50 (by decide) (fun c10 => ?_) (fun c10 => ?_)
        · have e0 := itn _ c10 e0
          exact fX7_cell_b56_w (l := l) X hr (inb_lt g5) w (lv_sub hl [2, 4, 1, 0] rfl) e0
        · have e0 := itp _ c10 e0
          refine lv_iconst (v := 3) hx hb dX7_cell_53 (by decide) ?_
          refine lv_istore (lv' := [(5, .int 3), (4, .ref (q (1000 + 10 * a1.toNatClampNeg))), (0, .ref (q 0)), (1, .int a1), (2, .int a2), (3, .int a3)]) hx hb dX7_cell_54 hl (by decide) rfl (fun ls hl => ?_)
          exact fX7_cell_b56_w (l := l) X hr (inb_lt g5) w (lv_sub hl [2, 4, 1, 0] rfl) e0
    · have e0 := itp _ c12 e0
      refine lv_ldc2 (own := RX7) (v := (-9223372036854775808)) hx hb X.1.2.2.2.1 (X.1.2.2.2.2 _ (by decide +kernel)) dX7_cell_19 ?_
      have e0 := Option.some.inj e0
      subst e0
      exact c_lret X w hr dX7_cell_22
set_option maxRecDepth 20000 in
theorem fX7_cell_met (l : Launch) (D : va_G) (y : ClassId) (yS : ClassId × ClassId) (q : Nat → Nat) (sz n : Nat) (a1 : Int32) (a2 : Int32) (a3 : Int32) (I : Nat → Int32) (R : Nat → Nat → Int32) (z : Int64 × mSt) (e0 : fX7_cell n a1 a2 a3 I R = some z) : Met l yX7_cell wsX7_cell rmX7_cell (va_Pc [.ref (q 0), .int a1, .int a2, .int a3] (cPre D y yS q sz I R)) (cQl D y yS q (cS y yS q sz) z) 0 0 (cS y yS q sz) := by
  refine Met.ofW (cc := cX7_cell) (maxL := 6) (ret := some .long) (by decide) rfl ?_
  intro p e s m args below meth c s₁ B hml hv
  obtain ⟨rfl, hsz, hP, hK, hN, hD⟩ := hv
  subst hsz
  have hl := lv_entry ([.ref (q 0), .int a1, .int a2, .int a3]) (n := 6) (Nat.le_of_ble_eq_true rfl)
  rw [lg_entry_eq]
  exact fX7_cell_w (s := s) ⟨⟨B.exec, B.bytes, hml, findClass_of_methodNamed B.named, atoms_spec (ws := wsX7_cell) B.pre⟩, hK, hN⟩ ⟨B.returns, B.notSynchronized⟩ ⟨hP, cS_D hD, va_S.rf⟩ hl e0
theorem in_X7_copy_X7 : ∀ w ∈ wsX70, w ∈ wsX7_copy := fun _ h9 => List.mem_cons_of_mem _ (List.mem_append_left _ (List.mem_append_right _ h9))
theorem in_X7_copy_X4 : ∀ w ∈ wsX40, w ∈ wsX7_copy := fun _ h9 => List.mem_cons_of_mem _ (List.mem_append_right _ h9)
def rmX7_copy : Room := { frames := 1, cells := 0, slots := 0, locals := 60 }
def fX7_copy_b53 (n : Nat) (I : Nat → Int32) (R : Nat → Nat → Int32) : Option (Int32 × mSt) :=
  (fX7_failed n 1 I R).bind fun z21 =>
  some (z21.1, z21.2.1, z21.2.2)
set_option maxRecDepth 20000 in
set_option maxHeartbeats 2000000 in
theorem fX7_copy_b53_w {p : Program} {l : Launch} {e : Env} {s : State} {m : MethodId} {args : Array Value} {below : List Frame} {meth : Method} {c : Code} {D : va_G} {y : ClassId} {yS : ClassId × ClassId} {q : Nat → Nat} {n : Nat} {z : Int32 × mSt} (X : cX p s m args c cX7_copy 8 wsX7_copy RX7 D y yS) (hr : meth.sig.returnType = some .int ∧ meth.locks = false) {I : Nat → Int32} {R : Nat → Nat → Int32} {H : Heap} {locs : List Loc} {ls : Array Slot} (w : cH s D y yS q H locs I R) (hl : lv_has ls 8 [(0, .ref (q 0))]) (e0 : fX7_copy_b53 n I R = some z) : W p l e rmX7_copy s m args below meth c H locs 0 0 (MQ below (cQi D y yS q (cS y yS q s.heap.size) z) args s 0 0 (cS y yS q s.heap.size)) (F0 m 53 ls []) := by
  have hx := X.1.1
  have hb := X.1.2.1
  unfold fX7_copy_b53 at e0
  refine lv_aload_n hx hb dX7_copy_53 rfl (lv_at hl 0 rfl) ?_
  refine lv_iconst (v := 1) hx hb dX7_copy_54 (by decide) ?_
  refine bd e0 (fun z21 e22 e0 => ?_)
  refine c_calli X w (c_rec X w (cat_RR _ _ _ _ _) rfl) (n := 1) (As := [.int 1]) (rest := []) (fX7_failed_met l _ _ _ _ _ _ _ _ _ _ e22) gX7_copy_X7_failed rfl rfl rfl (by decide +kernel) ⟨Nat.le_of_ble_eq_true rfl, Nat.le_of_ble_eq_true rfl⟩ rfl hl.1 rfl (Nat.le_of_ble_eq_true rfl) dX7_copy_55 (fun H locs w => ?_)
  have e0 := Option.some.inj e0
  subst e0
  exact c_iret X w hr dX7_copy_58
def fX7_copy_b101 (n : Nat) (I : Nat → Int32) (R : Nat → Nat → Int32) : Option (Int32 × mSt) :=
  (fX7_failed n 3 I R).bind fun z23 =>
  some (z23.1, z23.2.1, z23.2.2)
set_option maxRecDepth 20000 in
set_option maxHeartbeats 2000000 in
theorem fX7_copy_b101_w {p : Program} {l : Launch} {e : Env} {s : State} {m : MethodId} {args : Array Value} {below : List Frame} {meth : Method} {c : Code} {D : va_G} {y : ClassId} {yS : ClassId × ClassId} {q : Nat → Nat} {n : Nat} {z : Int32 × mSt} (X : cX p s m args c cX7_copy 8 wsX7_copy RX7 D y yS) (hr : meth.sig.returnType = some .int ∧ meth.locks = false) {I : Nat → Int32} {R : Nat → Nat → Int32} {H : Heap} {locs : List Loc} {ls : Array Slot} (w : cH s D y yS q H locs I R) (hl : lv_has ls 8 [(0, .ref (q 0))]) (e0 : fX7_copy_b101 n I R = some z) : W p l e rmX7_copy s m args below meth c H locs 0 0 (MQ below (cQi D y yS q (cS y yS q s.heap.size) z) args s 0 0 (cS y yS q s.heap.size)) (F0 m 101 ls []) := by
  have hx := X.1.1
  have hb := X.1.2.1
  unfold fX7_copy_b101 at e0
  refine lv_aload_n hx hb dX7_copy_101 rfl (lv_at hl 0 rfl) ?_
  refine lv_iconst (v := 3) hx hb dX7_copy_102 (by decide) ?_
  refine bd e0 (fun z23 e24 e0 => ?_)
  refine c_calli X w (c_rec X w (cat_RR _ _ _ _ _) rfl) (n := 1) (As := [.int 3]) (rest := []) (fX7_failed_met l _ _ _ _ _ _ _ _ _ _ e24) gX7_copy_X7_failed rfl rfl rfl (by decide +kernel) ⟨Nat.le_of_ble_eq_true rfl, Nat.le_of_ble_eq_true rfl⟩ rfl hl.1 rfl (Nat.le_of_ble_eq_true rfl) dX7_copy_103 (fun H locs w => ?_)
  have e0 := Option.some.inj e0
  subst e0
  exact c_iret X w hr dX7_copy_106
def fX7_copy (n : Nat) (a1 : Int32) (a2 : Int32) (a3 : Int32) (a4 : Int32) (a5 : Int32) (I : Nat → Int32) (R : Nat → Nat → Int32) : Option (Int32 × mSt) :=
  (fX7_isSheet n a1).bind fun z1 =>
  if z1 = 0 then
    some ((-1), (upd I 9 0), R)
  else
    (fX7_isSheet n a3).bind fun z3 =>
    if z3 = 0 then
      some ((-1), (upd I 9 0), R)
    else
      if inb a1 4 = true then
      if inb a3 4 = true then
      if ((upd I 9 0) (1002 + 10 * a1.toNatClampNeg)) = 0 then
        fX7_copy_b53 n (upd I 9 0) R
      else
        if ((upd I 9 0) (1002 + 10 * a3.toNatClampNeg)) = 0 then
          fX7_copy_b53 n (upd I 9 0) R
        else
          if ((upd I 9 0) (1003 + 10 * a1.toNatClampNeg)) = ((upd I 9 0) (1003 + 10 * a3.toNatClampNeg)) then
            (fX4_has n (a1.toNatClampNeg) a2 a5 (upd I 9 0) R).bind fun z7 =>
            if z7.1 = 0 then
              fX7_copy_b101 n z7.2.1 z7.2.2
            else
              (fX4_has n (a3.toNatClampNeg) a4 a5 z7.2.1 z7.2.2).bind fun z9 =>
              if z9.1 = 0 then
                fX7_copy_b101 n z9.2.1 z9.2.2
              else
                if cpOk 60 60 a2 a4 a5 = true then
                some (a5, z9.2.1, (cpA z9.2.2 (1001 + 10 * a1.toNatClampNeg) (1001 + 10 * a3.toNatClampNeg) a2 a4 a5))
                else none
          else
            (fX7_failed n 2 (upd I 9 0) R).bind fun z14 =>
            some (z14.1, z14.2.1, z14.2.2)
      else none
      else none
set_option maxRecDepth 20000 in
set_option maxHeartbeats 2000000 in
theorem fX7_copy_w {p : Program} {l : Launch} {e : Env} {s : State} {m : MethodId} {args : Array Value} {below : List Frame} {meth : Method} {c : Code} {D : va_G} {y : ClassId} {yS : ClassId × ClassId} {q : Nat → Nat} {n : Nat} {z : Int32 × mSt} (X : cX p s m args c cX7_copy 8 wsX7_copy RX7 D y yS) (hr : meth.sig.returnType = some .int ∧ meth.locks = false) {a1 : Int32} {a2 : Int32} {a3 : Int32} {a4 : Int32} {a5 : Int32} {I : Nat → Int32} {R : Nat → Nat → Int32} {H : Heap} {locs : List Loc} {ls : Array Slot} (w : cH s D y yS q H locs I R) (hl : lv_has ls 8 [(0, .ref (q 0)), (1, .int a1), (2, .int a2), (3, .int a3), (4, .int a4), (5, .int a5)]) (e0 : fX7_copy n a1 a2 a3 a4 a5 I R = some z) : W p l e rmX7_copy s m args below meth c H locs 0 0 (MQ below (cQi D y yS q (cS y yS q s.heap.size) z) args s 0 0 (cS y yS q s.heap.size)) (F0 m 0 ls []) := by
  have hx := X.1.1
  have hb := X.1.2.1
  unfold fX7_copy at e0
  refine lv_aload_n hx hb dX7_copy_0 rfl (lv_at hl 0 rfl) ?_
  refine lv_iconst (v := 0) hx hb dX7_copy_1 (by decide) ?_
  refine c_put X w (cat_RR _ _ _ _ _) rfl in_X7_copy_X7 tyX7 tyX7_ok nmX7 8 (by decide) (index := 42) (ty := .int) rfl (by decide +kernel) rfl (by decide +kernel) rfl rfl (Nat.le_of_ble_eq_true rfl) (cset_RR_8 _ _ _ _ _ _) dX7_copy_2 (fun H locs w => ?_)
  refine lv_iload_n hx hb dX7_copy_5 rfl (lv_at hl 1 rfl) ?_
  refine bd e0 (fun z1 e2 e0 => ?_)
  refine c_callsi X w (n := 1) (As := [.int a1]) (rest := []) (fX7_isSheet_met l _ _ _ e2) gX7_copy_X7_isSheet rfl rfl rfl (by decide +kernel) ⟨Nat.le_of_ble_eq_true rfl, Nat.le_of_ble_eq_true rfl⟩ rfl hl.1 rfl (Nat.le_of_ble_eq_true rfl) dX7_copy_6 (fun H locs w => ?_)
  refine lv_if_eq (tgt := 19) hx hb dX7_copy_9 (by decide) (fun c20 => ?_) (fun c20 => ?_)
  · have e0 := itp _ c20 e0
    refine lv_iconst (v := (-1)) hx hb dX7_copy_19 (by decide) ?_
    have e0 := Option.some.inj e0
    subst e0
    exact c_iret X w hr dX7_copy_20
  · have e0 := itn _ c20 e0
    refine lv_iload_n hx hb dX7_copy_12 rfl (lv_at hl 3 rfl) ?_
    refine bd e0 (fun z3 e4 e0 => ?_)
    refine c_callsi X w (n := 1) (As := [.int a3]) (rest := []) (fX7_isSheet_met l _ _ _ e4) gX7_copy_X7_isSheet rfl rfl rfl (by decide +kernel) ⟨Nat.le_of_ble_eq_true rfl, Nat.le_of_ble_eq_true rfl⟩ rfl hl.1 rfl (Nat.le_of_ble_eq_true rfl) dX7_copy_13 (fun H locs w => ?_)
    refine lv_if_ne (tgt := 21) hx hb dX7_copy_16 (by decide) (fun c19 => ?_) (fun c19 => ?_)
    · have e0 := itn _ c19 e0
      refine lv_aload_n hx hb dX7_copy_21 rfl (lv_at hl 0 rfl) ?_
      refine c_get X w (cat_RR _ _ _ _ _) rfl in_X7_copy_X7 0 (by decide) (index := 13) rfl (by decide +kernel) (cf_RR_0 _ _) dX7_copy_22 ?_
      refine lv_iload_n hx hb dX7_copy_25 rfl (lv_at hl 1 rfl) ?_
      refine gd e0 (fun g5 e0 => ?_)
      refine c_shs X w g5 dX7_copy_26 ?_
      refine lv_astore (lv' := [(6, .ref (q (1000 + 10 * a1.toNatClampNeg))), (0, .ref (q 0)), (1, .int a1), (2, .int a2), (3, .int a3), (4, .int a4), (5, .int a5)]) hx hb dX7_copy_27 hl (by decide) rfl (fun ls hl => ?_)
      refine lv_aload_n hx hb dX7_copy_29 rfl (lv_at hl 1 rfl) ?_
      refine c_get X w (cat_RR _ _ _ _ _) rfl in_X7_copy_X7 0 (by decide) (index := 13) rfl (by decide +kernel) (cf_RR_0 _ _) dX7_copy_30 ?_
      refine lv_iload_n hx hb dX7_copy_33 rfl (lv_at hl 4 rfl) ?_
      refine gd e0 (fun g6 e0 => ?_)
      refine c_shs X w g6 dX7_copy_34 ?_
      refine lv_astore (lv' := [(7, .ref (q (1000 + 10 * a3.toNatClampNeg))), (6, .ref (q (1000 + 10 * a1.toNatClampNeg))), (0, .ref (q 0)), (1, .int a1), (2, .int a2), (3, .int a3), (4, .int a4), (5, .int a5)]) hx hb dX7_copy_35 hl (by decide) rfl (fun ls hl => ?_)
      refine lv_aload hx hb dX7_copy_37 (lv_at hl 1 rfl) ?_
      refine c_get X w (cat_SH _ _ _ _ _ a1.toNatClampNeg (inb_lt g5)) rfl in_X7_copy_X4 1 (by decide) (index := 267) rfl (by decide +kernel) (cf_SH_1 _ _ _) dX7_copy_39 ?_
      refine lv_if_eq (tgt := 53) hx hb dX7_copy_42 (by decide) (fun c18 => ?_) (fun c18 => ?_)
      · have e0 := itp _ c18 e0
        exact fX7_copy_b53_w (l := l) X hr w (lv_sub hl [2] rfl) e0
      · have e0 := itn _ c18 e0
        refine lv_aload hx hb dX7_copy_45 (lv_at hl 0 rfl) ?_
        refine c_get X w (cat_SH _ _ _ _ _ a3.toNatClampNeg (inb_lt g6)) rfl in_X7_copy_X4 1 (by decide) (index := 267) rfl (by decide +kernel) (cf_SH_1 _ _ _) dX7_copy_47 ?_
        refine lv_if_ne (tgt := 59) hx hb dX7_copy_50 (by decide) (fun c17 => ?_) (fun c17 => ?_)
        · have e0 := itn _ c17 e0
          refine lv_aload hx hb dX7_copy_59 (lv_at hl 1 rfl) ?_
          refine c_get X w (cat_SH _ _ _ _ _ a1.toNatClampNeg (inb_lt g5)) rfl in_X7_copy_X4 2 (by decide) (index := 276) rfl (by decide +kernel) (cf_SH_2 _ _ _) dX7_copy_61 ?_
          refine lv_aload hx hb dX7_copy_64 (lv_at hl 0 rfl) ?_
          refine c_get X w (cat_SH _ _ _ _ _ a3.toNatClampNeg (inb_lt g6)) rfl in_X7_copy_X4 2 (by decide) (index := 276) rfl (by decide +kernel) (cf_SH_2 _ _ _) dX7_copy_66 ?_
          refine lv_icmp_eq (tgt := 78) hx hb dX7_copy_69 (by decide) (fun c16 => ?_) (fun c16 => ?_)
          · have e0 := itp _ c16 e0
            refine lv_aload hx hb dX7_copy_78 (lv_at hl 1 rfl) ?_
            refine lv_iload_n hx hb dX7_copy_80 rfl (lv_at hl 4 rfl) ?_
            refine lv_iload hx hb dX7_copy_81 (lv_at hl 7 rfl) ?_
            refine bd e0 (fun z7 e8 e0 => ?_)
            refine c_calli X w (c_rec X w (cat_SH _ _ _ _ _ a1.toNatClampNeg (inb_lt g5)) rfl) (n := 2) (As := [.int a2, .int a5]) (rest := []) (fX4_has_met l _ _ _ _ _ _ _ (inb_lt g5) _ _ _ _ _ e8) gX7_copy_X4_has rfl rfl rfl (by decide +kernel) ⟨Nat.le_of_ble_eq_true rfl, Nat.le_of_ble_eq_true rfl⟩ rfl hl.1 rfl (Nat.le_of_ble_eq_true rfl) dX7_copy_83 (fun H locs w => ?_)
            refine lv_if_eq (tgt := 101) hx hb dX7_copy_86 (by decide) (fun c13 => ?_) (fun c13 => ?_)
            · have e0 := itp _ c13 e0
              exact fX7_copy_b101_w (l := l) X hr w (lv_sub hl [2] rfl) e0
            · have e0 := itn _ c13 e0
              refine lv_aload hx hb dX7_copy_89 (lv_at hl 0 rfl) ?_
              refine lv_iload hx hb dX7_copy_91 (lv_at hl 6 rfl) ?_
              refine lv_iload hx hb dX7_copy_93 (lv_at hl 7 rfl) ?_
              refine bd e0 (fun z9 e10 e0 => ?_)
              refine c_calli X w (c_rec X w (cat_SH _ _ _ _ _ a3.toNatClampNeg (inb_lt g6)) rfl) (n := 2) (As := [.int a4, .int a5]) (rest := []) (fX4_has_met l _ _ _ _ _ _ _ (inb_lt g6) _ _ _ _ _ e10) gX7_copy_X4_has rfl rfl rfl (by decide +kernel) ⟨Nat.le_of_ble_eq_true rfl, Nat.le_of_ble_eq_true rfl⟩ rfl hl.1 rfl (Nat.le_of_ble_eq_true rfl) dX7_copy_95 (fun H locs w => ?_)
              refine lv_if_ne (tgt := 107) hx hb dX7_copy_98 (by decide) (fun c12 => ?_) (fun c12 => ?_)
              · have e0 := itn _ c12 e0
                refine lv_aload hx hb dX7_copy_107 (lv_at hl 1 rfl) ?_
                refine c_get X w (cat_SH _ _ _ _ _ a1.toNatClampNeg (inb_lt g5)) rfl in_X7_copy_X4 0 (by decide) (index := 218) rfl (by decide +kernel) (cf_SH_0 _ _ _) dX7_copy_109 ?_
                refine lv_iload_n hx hb dX7_copy_112 rfl (lv_at hl 4 rfl) ?_
                refine lv_aload hx hb dX7_copy_113 (lv_at hl 0 rfl) ?_
                refine c_get X w (cat_SH _ _ _ _ _ a3.toNatClampNeg (inb_lt g6)) rfl in_X7_copy_X4 0 (by decide) (index := 218) rfl (by decide +kernel) (cf_SH_0 _ _ _) dX7_copy_115 ?_
                refine lv_iload hx hb dX7_copy_118 (lv_at hl 6 rfl) ?_
                refine lv_iload hx hb dX7_copy_120 (lv_at hl 7 rfl) ?_
                refine gd e0 (fun g11 e0 => ?_)
                refine c_copy X w (rest := []) hl.1 ⟨by decide +kernel, by decide +kernel, by decide +kernel, by decide +kernel⟩ (cat_a1001 _ _ _ _ _ a1.toNatClampNeg (inb_lt g5)) (cat_a1001 _ _ _ _ _ a3.toNatClampNeg (inb_lt g6)) (cset_a1001 _ _ _ _ _ a3.toNatClampNeg (inb_lt g6)) g11 (Nat.le_of_ble_eq_true rfl) (Nat.le_of_ble_eq_true rfl) dX7_copy_122 (fun H locs w => ?_)
                refine lv_iload hx hb dX7_copy_125 (lv_at hl 7 rfl) ?_
                have e0 := Option.some.inj e0
                subst e0
                exact c_iret X w hr dX7_copy_127
              · have e0 := itp _ c12 e0
                exact fX7_copy_b101_w (l := l) X hr w (lv_sub hl [2] rfl) e0
          · have e0 := itn _ c16 e0
            refine lv_aload_n hx hb dX7_copy_72 rfl (lv_at hl 2 rfl) ?_
            refine lv_iconst (v := 2) hx hb dX7_copy_73 (by decide) ?_
            refine bd e0 (fun z14 e15 e0 => ?_)
            refine c_calli X w (c_rec X w (cat_RR _ _ _ _ _) rfl) (n := 1) (As := [.int 2]) (rest := []) (fX7_failed_met l _ _ _ _ _ _ _ _ _ _ e15) gX7_copy_X7_failed rfl rfl rfl (by decide +kernel) ⟨Nat.le_of_ble_eq_true rfl, Nat.le_of_ble_eq_true rfl⟩ rfl hl.1 rfl (Nat.le_of_ble_eq_true rfl) dX7_copy_74 (fun H locs w => ?_)
            have e0 := Option.some.inj e0
            subst e0
            exact c_iret X w hr dX7_copy_77
        · have e0 := itp _ c17 e0
          exact fX7_copy_b53_w (l := l) X hr w (lv_sub hl [2] rfl) e0
    · have e0 := itp _ c19 e0
      refine lv_iconst (v := (-1)) hx hb dX7_copy_19 (by decide) ?_
      have e0 := Option.some.inj e0
      subst e0
      exact c_iret X w hr dX7_copy_20
set_option maxRecDepth 20000 in
theorem fX7_copy_met (l : Launch) (D : va_G) (y : ClassId) (yS : ClassId × ClassId) (q : Nat → Nat) (sz n : Nat) (a1 : Int32) (a2 : Int32) (a3 : Int32) (a4 : Int32) (a5 : Int32) (I : Nat → Int32) (R : Nat → Nat → Int32) (z : Int32 × mSt) (e0 : fX7_copy n a1 a2 a3 a4 a5 I R = some z) : Met l yX7_copy wsX7_copy rmX7_copy (va_Pc [.ref (q 0), .int a1, .int a2, .int a3, .int a4, .int a5] (cPre D y yS q sz I R)) (cQi D y yS q (cS y yS q sz) z) 0 0 (cS y yS q sz) := by
  refine Met.ofW (cc := cX7_copy) (maxL := 8) (ret := some .int) (by decide) rfl ?_
  intro p e s m args below meth c s₁ B hml hv
  obtain ⟨rfl, hsz, hP, hK, hN, hD⟩ := hv
  subst hsz
  have hl := lv_entry ([.ref (q 0), .int a1, .int a2, .int a3, .int a4, .int a5]) (n := 8) (Nat.le_of_ble_eq_true rfl)
  rw [lg_entry_eq]
  exact fX7_copy_w (s := s) ⟨⟨B.exec, B.bytes, hml, findClass_of_methodNamed B.named, atoms_spec (ws := wsX7_copy) B.pre⟩, hK, hN⟩ ⟨B.returns, B.notSynchronized⟩ ⟨hP, cS_D hD, va_S.rf⟩ hl e0
theorem in_X7_leave_X7 : ∀ w ∈ wsX70, w ∈ wsX7_leave := fun _ h9 => List.mem_cons_of_mem _ (List.mem_append_right _ h9)
def rmX7_leave : Room := { frames := 0, cells := 0, slots := 0, locals := 0 }
def fX7_leave (n : Nat) (a1 : Int32) (I : Nat → Int32) (R : Nat → Nat → Int32) : Option (mSt) :=
  some ((upd I 8 ((31 * (I 8)) + a1)), R)
set_option maxRecDepth 20000 in
set_option maxHeartbeats 2000000 in
theorem fX7_leave_w {p : Program} {l : Launch} {e : Env} {s : State} {m : MethodId} {args : Array Value} {below : List Frame} {meth : Method} {c : Code} {D : va_G} {y : ClassId} {yS : ClassId × ClassId} {q : Nat → Nat} {n : Nat} {z : mSt} (X : cX p s m args c cX7_leave 2 wsX7_leave RX7 D y yS) (hr : meth.sig.returnType = none ∧ meth.locks = false) {a1 : Int32} {I : Nat → Int32} {R : Nat → Nat → Int32} {H : Heap} {locs : List Loc} {ls : Array Slot} (w : cH s D y yS q H locs I R) (hl : lv_has ls 2 [(0, .ref (q 0)), (1, .int a1)]) (e0 : fX7_leave n a1 I R = some z) : W p l e rmX7_leave s m args below meth c H locs 0 0 (MQ below (cQv D y yS q (cS y yS q s.heap.size) z) args s 0 0 (cS y yS q s.heap.size)) (F0 m 0 ls []) := by
  have hx := X.1.1
  have hb := X.1.2.1
  unfold fX7_leave at e0
  refine lv_aload_n hx hb dX7_leave_0 rfl (lv_at hl 0 rfl) ?_
  refine lv_bipush (v := 31) hx hb dX7_leave_1 (by decide) ?_
  refine lv_aload_n hx hb dX7_leave_3 rfl (lv_at hl 0 rfl) ?_
  refine c_get X w (cat_RR _ _ _ _ _) rfl in_X7_leave_X7 7 (by decide) (index := 298) rfl (by decide +kernel) (cf_RR_7 _ _) dX7_leave_4 ?_
  refine lv_imul hx hb dX7_leave_7 ?_
  refine lv_iload_n hx hb dX7_leave_8 rfl (lv_at hl 1 rfl) ?_
  refine lv_iadd hx hb dX7_leave_9 ?_
  refine c_put X w (cat_RR _ _ _ _ _) rfl in_X7_leave_X7 tyX7 tyX7_ok nmX7 7 (by decide) (index := 298) (ty := .int) rfl (by decide +kernel) rfl (by decide +kernel) rfl rfl (Nat.le_of_ble_eq_true rfl) (cset_RR_7 _ _ _ _ _ _) dX7_leave_10 (fun H locs w => ?_)
  have e0 := Option.some.inj e0
  subst e0
  exact c_vret X w hr dX7_leave_13
set_option maxRecDepth 20000 in
theorem fX7_leave_met (l : Launch) (D : va_G) (y : ClassId) (yS : ClassId × ClassId) (q : Nat → Nat) (sz n : Nat) (a1 : Int32) (I : Nat → Int32) (R : Nat → Nat → Int32) (z : mSt) (e0 : fX7_leave n a1 I R = some z) : Met l yX7_leave wsX7_leave rmX7_leave (va_Pc [.ref (q 0), .int a1] (cPre D y yS q sz I R)) (cQv D y yS q (cS y yS q sz) z) 0 0 (cS y yS q sz) := by
  refine Met.ofW (cc := cX7_leave) (maxL := 2) (ret := none) (by decide) rfl ?_
  intro p e s m args below meth c s₁ B hml hv
  obtain ⟨rfl, hsz, hP, hK, hN, hD⟩ := hv
  subst hsz
  have hl := lv_entry ([.ref (q 0), .int a1]) (n := 2) (Nat.le_of_ble_eq_true rfl)
  rw [lg_entry_eq]
  exact fX7_leave_w (s := s) ⟨⟨B.exec, B.bytes, hml, findClass_of_methodNamed B.named, atoms_spec (ws := wsX7_leave) B.pre⟩, hK, hN⟩ ⟨B.returns, B.notSynchronized⟩ ⟨hP, cS_D hD, va_S.rf⟩ hl e0
theorem in_X7_plainTelling_X7 : ∀ w ∈ wsX70, w ∈ wsX7_plainTelling := fun _ h9 => List.mem_cons_of_mem _ (List.mem_append_left _ (List.mem_append_left _ (List.mem_append_right _ h9)))
theorem in_X7_plainTelling_X6 : ∀ w ∈ wsX60, w ∈ wsX7_plainTelling := fun _ h9 => List.mem_cons_of_mem _ (List.mem_append_left _ (List.mem_append_right _ h9))
theorem in_X7_plainTelling_X2 : ∀ w ∈ wsX20, w ∈ wsX7_plainTelling := fun _ h9 => List.mem_cons_of_mem _ (List.mem_append_right _ h9)
def rmX7_plainTelling : Room := { frames := 1, cells := 0, slots := 0, locals := 21 }
def fX7_plainTelling (n : Nat) (a1 : Int32) (I : Nat → Int32) (R : Nat → Nat → Int32) : Option (Int32 × mSt) :=
  (fX7_leave n 1 I R).bind fun z1 =>
  if inb a1 5 = true then
  some ((getA z1.2 (112 + 100 * 0) a1), z1.1, z1.2)
  else none
set_option maxRecDepth 20000 in
set_option maxHeartbeats 2000000 in
theorem fX7_plainTelling_w {p : Program} {l : Launch} {e : Env} {s : State} {m : MethodId} {args : Array Value} {below : List Frame} {meth : Method} {c : Code} {D : va_G} {y : ClassId} {yS : ClassId × ClassId} {q : Nat → Nat} {n : Nat} {z : Int32 × mSt} (X : cX p s m args c cX7_plainTelling 2 wsX7_plainTelling RX7 D y yS) (hr : meth.sig.returnType = some .int ∧ meth.locks = false) {a1 : Int32} {I : Nat → Int32} {R : Nat → Nat → Int32} {H : Heap} {locs : List Loc} {ls : Array Slot} (w : cH s D y yS q H locs I R) (hl : lv_has ls 2 [(0, .ref (q 0)), (1, .int a1)]) (e0 : fX7_plainTelling n a1 I R = some z) : W p l e rmX7_plainTelling s m args below meth c H locs 0 0 (MQ below (cQi D y yS q (cS y yS q s.heap.size) z) args s 0 0 (cS y yS q s.heap.size)) (F0 m 0 ls []) := by
  have hx := X.1.1
  have hb := X.1.2.1
  unfold fX7_plainTelling at e0
  refine lv_aload_n hx hb dX7_plainTelling_0 rfl (lv_at hl 0 rfl) ?_
  refine lv_iconst (v := 1) hx hb dX7_plainTelling_1 (by decide) ?_
  refine bd e0 (fun z1 e2 e0 => ?_)
  refine c_callv X w (c_rec X w (cat_RR _ _ _ _ _) rfl) (n := 1) (As := [.int 1]) (rest := []) (fX7_leave_met l _ _ _ _ _ _ _ _ _ _ e2) gX7_plainTelling_X7_leave rfl rfl rfl (by decide +kernel) ⟨Nat.le_of_ble_eq_true rfl, Nat.le_of_ble_eq_true rfl⟩ rfl hl.1 rfl (Nat.le_of_ble_eq_true rfl) dX7_plainTelling_2 (fun H locs w => ?_)
  refine lv_aload_n hx hb dX7_plainTelling_5 rfl (lv_at hl 0 rfl) ?_
  refine c_get X w (cat_RR _ _ _ _ _) rfl in_X7_plainTelling_X7 1 (by decide) (index := 21) rfl (by decide +kernel) (cf_RR_1 _ _) dX7_plainTelling_6 ?_
  refine c_get X w (cat_WO _ _ _ _ _ 0 (by decide)) rfl in_X7_plainTelling_X6 0 (by decide) (index := 68) rfl (by decide +kernel) (cf_WO_0 _ _ _) dX7_plainTelling_9 ?_
  refine c_get X w (cat_PR _ _ _ _ _ 0 (by decide)) rfl in_X7_plainTelling_X2 1 (by decide) (index := 111) rfl (by decide +kernel) (cf_PR_1 _ _ _) dX7_plainTelling_12 ?_
  refine lv_iload_n hx hb dX7_plainTelling_15 rfl (lv_at hl 1 rfl) ?_
  refine gd e0 (fun g3 e0 => ?_)
  refine c_ald X w (cat_a112 _ _ _ _ _ 0 (by decide)) g3 dX7_plainTelling_16 ?_
  have e0 := Option.some.inj e0
  subst e0
  exact c_iret X w hr dX7_plainTelling_17
set_option maxRecDepth 20000 in
theorem fX7_plainTelling_met (l : Launch) (D : va_G) (y : ClassId) (yS : ClassId × ClassId) (q : Nat → Nat) (sz n : Nat) (a1 : Int32) (I : Nat → Int32) (R : Nat → Nat → Int32) (z : Int32 × mSt) (e0 : fX7_plainTelling n a1 I R = some z) : Met l yX7_plainTelling wsX7_plainTelling rmX7_plainTelling (va_Pc [.ref (q 0), .int a1] (cPre D y yS q sz I R)) (cQi D y yS q (cS y yS q sz) z) 0 0 (cS y yS q sz) := by
  refine Met.ofW (cc := cX7_plainTelling) (maxL := 2) (ret := some .int) (by decide) rfl ?_
  intro p e s m args below meth c s₁ B hml hv
  obtain ⟨rfl, hsz, hP, hK, hN, hD⟩ := hv
  subst hsz
  have hl := lv_entry ([.ref (q 0), .int a1]) (n := 2) (Nat.le_of_ble_eq_true rfl)
  rw [lg_entry_eq]
  exact fX7_plainTelling_w (s := s) ⟨⟨B.exec, B.bytes, hml, findClass_of_methodNamed B.named, atoms_spec (ws := wsX7_plainTelling) B.pre⟩, hK, hN⟩ ⟨B.returns, B.notSynchronized⟩ ⟨hP, cS_D hD, va_S.rf⟩ hl e0
theorem in_X7_bulkyTelling_X7 : ∀ w ∈ wsX70, w ∈ wsX7_bulkyTelling := fun _ h9 => List.mem_cons_of_mem _ (List.mem_append_left _ (List.mem_append_left _ (List.mem_append_right _ h9)))
theorem in_X7_bulkyTelling_X6 : ∀ w ∈ wsX60, w ∈ wsX7_bulkyTelling := fun _ h9 => List.mem_cons_of_mem _ (List.mem_append_left _ (List.mem_append_right _ h9))
theorem in_X7_bulkyTelling_X2 : ∀ w ∈ wsX20, w ∈ wsX7_bulkyTelling := fun _ h9 => List.mem_cons_of_mem _ (List.mem_append_right _ h9)
def rmX7_bulkyTelling : Room := { frames := 2, cells := 0, slots := 0, locals := 42 }
def fX7_bulkyTelling (n : Nat) (a1 : Int32) (I : Nat → Int32) (R : Nat → Nat → Int32) : Option (Int32 × mSt) :=
  (fX7_leave n 2 I R).bind fun z1 =>
  (fX7_plainTelling n a1 z1.1 z1.2).bind fun z3 =>
  some ((z3.1 + 100), z3.2.1, z3.2.2)
set_option maxRecDepth 20000 in
set_option maxHeartbeats 2000000 in
theorem fX7_bulkyTelling_w {p : Program} {l : Launch} {e : Env} {s : State} {m : MethodId} {args : Array Value} {below : List Frame} {meth : Method} {c : Code} {D : va_G} {y : ClassId} {yS : ClassId × ClassId} {q : Nat → Nat} {n : Nat} {z : Int32 × mSt} (X : cX p s m args c cX7_bulkyTelling 2 wsX7_bulkyTelling RX7 D y yS) (hr : meth.sig.returnType = some .int ∧ meth.locks = false) {a1 : Int32} {I : Nat → Int32} {R : Nat → Nat → Int32} {H : Heap} {locs : List Loc} {ls : Array Slot} (w : cH s D y yS q H locs I R) (hl : lv_has ls 2 [(0, .ref (q 0)), (1, .int a1)]) (e0 : fX7_bulkyTelling n a1 I R = some z) : W p l e rmX7_bulkyTelling s m args below meth c H locs 0 0 (MQ below (cQi D y yS q (cS y yS q s.heap.size) z) args s 0 0 (cS y yS q s.heap.size)) (F0 m 0 ls []) := by
  have hx := X.1.1
  have hb := X.1.2.1
  unfold fX7_bulkyTelling at e0
  refine lv_aload_n hx hb dX7_bulkyTelling_0 rfl (lv_at hl 0 rfl) ?_
  refine lv_iconst (v := 2) hx hb dX7_bulkyTelling_1 (by decide) ?_
  refine bd e0 (fun z1 e2 e0 => ?_)
  refine c_callv X w (c_rec X w (cat_RR _ _ _ _ _) rfl) (n := 1) (As := [.int 2]) (rest := []) (fX7_leave_met l _ _ _ _ _ _ _ _ _ _ e2) gX7_bulkyTelling_X7_leave rfl rfl rfl (by decide +kernel) ⟨Nat.le_of_ble_eq_true rfl, Nat.le_of_ble_eq_true rfl⟩ rfl hl.1 rfl (Nat.le_of_ble_eq_true rfl) dX7_bulkyTelling_2 (fun H locs w => ?_)
  refine lv_aload_n hx hb dX7_bulkyTelling_5 rfl (lv_at hl 0 rfl) ?_
  refine lv_iload_n hx hb dX7_bulkyTelling_6 rfl (lv_at hl 1 rfl) ?_
  refine bd e0 (fun z3 e4 e0 => ?_)
  refine c_calli X w (c_rec X w (cat_RR _ _ _ _ _) rfl) (n := 1) (As := [.int a1]) (rest := []) (fX7_plainTelling_met l _ _ _ _ _ _ _ _ _ _ e4) gX7_bulkyTelling_X7_plainTelling rfl rfl rfl (by decide +kernel) ⟨Nat.le_of_ble_eq_true rfl, Nat.le_of_ble_eq_true rfl⟩ rfl hl.1 rfl (Nat.le_of_ble_eq_true rfl) dX7_bulkyTelling_7 (fun H locs w => ?_)
  refine lv_bipush (v := 100) hx hb dX7_bulkyTelling_10 (by decide) ?_
  refine lv_iadd hx hb dX7_bulkyTelling_12 ?_
  have e0 := Option.some.inj e0
  subst e0
  exact c_iret X w hr dX7_bulkyTelling_13
set_option maxRecDepth 20000 in
theorem fX7_bulkyTelling_met (l : Launch) (D : va_G) (y : ClassId) (yS : ClassId × ClassId) (q : Nat → Nat) (sz n : Nat) (a1 : Int32) (I : Nat → Int32) (R : Nat → Nat → Int32) (z : Int32 × mSt) (e0 : fX7_bulkyTelling n a1 I R = some z) : Met l yX7_bulkyTelling wsX7_bulkyTelling rmX7_bulkyTelling (va_Pc [.ref (q 0), .int a1] (cPre D y yS q sz I R)) (cQi D y yS q (cS y yS q sz) z) 0 0 (cS y yS q sz) := by
  refine Met.ofW (cc := cX7_bulkyTelling) (maxL := 2) (ret := some .int) (by decide) rfl ?_
  intro p e s m args below meth c s₁ B hml hv
  obtain ⟨rfl, hsz, hP, hK, hN, hD⟩ := hv
  subst hsz
  have hl := lv_entry ([.ref (q 0), .int a1]) (n := 2) (Nat.le_of_ble_eq_true rfl)
  rw [lg_entry_eq]
  exact fX7_bulkyTelling_w (s := s) ⟨⟨B.exec, B.bytes, hml, findClass_of_methodNamed B.named, atoms_spec (ws := wsX7_bulkyTelling) B.pre⟩, hK, hN⟩ ⟨B.returns, B.notSynchronized⟩ ⟨hP, cS_D hD, va_S.rf⟩ hl e0
theorem in_X7_doubleTelling_X7 : ∀ w ∈ wsX70, w ∈ wsX7_doubleTelling := fun _ h9 => List.mem_cons_of_mem _ (List.mem_append_left _ (List.mem_append_left _ (List.mem_append_right _ h9)))
theorem in_X7_doubleTelling_X6 : ∀ w ∈ wsX60, w ∈ wsX7_doubleTelling := fun _ h9 => List.mem_cons_of_mem _ (List.mem_append_left _ (List.mem_append_right _ h9))
theorem in_X7_doubleTelling_X2 : ∀ w ∈ wsX20, w ∈ wsX7_doubleTelling := fun _ h9 => List.mem_cons_of_mem _ (List.mem_append_right _ h9)
def rmX7_doubleTelling : Room := { frames := 3, cells := 0, slots := 0, locals := 63 }
def fX7_doubleTelling (n : Nat) (a1 : Int32) (I : Nat → Int32) (R : Nat → Nat → Int32) : Option (Int32 × mSt) :=
  (fX7_leave n 3 I R).bind fun z1 =>
  (fX7_bulkyTelling n a1 z1.1 z1.2).bind fun z3 =>
  (fX7_plainTelling n a1 z3.2.1 z3.2.2).bind fun z5 =>
  some ((z3.1 + z5.1), z5.2.1, z5.2.2)
set_option maxRecDepth 20000 in
set_option maxHeartbeats 2000000 in
theorem fX7_doubleTelling_w {p : Program} {l : Launch} {e : Env} {s : State} {m : MethodId} {args : Array Value} {below : List Frame} {meth : Method} {c : Code} {D : va_G} {y : ClassId} {yS : ClassId × ClassId} {q : Nat → Nat} {n : Nat} {z : Int32 × mSt} (X : cX p s m args c cX7_doubleTelling 3 wsX7_doubleTelling RX7 D y yS) (hr : meth.sig.returnType = some .int ∧ meth.locks = false) {a1 : Int32} {I : Nat → Int32} {R : Nat → Nat → Int32} {H : Heap} {locs : List Loc} {ls : Array Slot} (w : cH s D y yS q H locs I R) (hl : lv_has ls 3 [(0, .ref (q 0)), (1, .int a1)]) (e0 : fX7_doubleTelling n a1 I R = some z) : W p l e rmX7_doubleTelling s m args below meth c H locs 0 0 (MQ below (cQi D y yS q (cS y yS q s.heap.size) z) args s 0 0 (cS y yS q s.heap.size)) (F0 m 0 ls []) := by
  have hx := X.1.1
  have hb := X.1.2.1
  unfold fX7_doubleTelling at e0
  refine lv_aload_n hx hb dX7_doubleTelling_0 rfl (lv_at hl 0 rfl) ?_
  refine lv_iconst (v := 3) hx hb dX7_doubleTelling_1 (by decide) ?_
  refine bd e0 (fun z1 e2 e0 => ?_)
  refine c_callv X w (c_rec X w (cat_RR _ _ _ _ _) rfl) (n := 1) (As := [.int 3]) (rest := []) (fX7_leave_met l _ _ _ _ _ _ _ _ _ _ e2) gX7_doubleTelling_X7_leave rfl rfl rfl (by decide +kernel) ⟨Nat.le_of_ble_eq_true rfl, Nat.le_of_ble_eq_true rfl⟩ rfl hl.1 rfl (Nat.le_of_ble_eq_true rfl) dX7_doubleTelling_2 (fun H locs w => ?_)
  refine lv_aload_n hx hb dX7_doubleTelling_5 rfl (lv_at hl 0 rfl) ?_
  refine lv_iload_n hx hb dX7_doubleTelling_6 rfl (lv_at hl 1 rfl) ?_
  refine bd e0 (fun z3 e4 e0 => ?_)
  refine c_calli X w (c_rec X w (cat_RR _ _ _ _ _) rfl) (n := 1) (As := [.int a1]) (rest := []) (fX7_bulkyTelling_met l _ _ _ _ _ _ _ _ _ _ e4) gX7_doubleTelling_X7_bulkyTelling rfl rfl rfl (by decide +kernel) ⟨Nat.le_of_ble_eq_true rfl, Nat.le_of_ble_eq_true rfl⟩ rfl hl.1 rfl (Nat.le_of_ble_eq_true rfl) dX7_doubleTelling_7 (fun H locs w => ?_)
  refine lv_istore_n (lv' := [(2, .int z3.1), (0, .ref (q 0)), (1, .int a1)]) hx hb dX7_doubleTelling_10 rfl hl (by decide) rfl (fun ls hl => ?_)
  refine lv_iload_n hx hb dX7_doubleTelling_11 rfl (lv_at hl 0 rfl) ?_
  refine lv_aload_n hx hb dX7_doubleTelling_12 rfl (lv_at hl 1 rfl) ?_
  refine lv_iload_n hx hb dX7_doubleTelling_13 rfl (lv_at hl 2 rfl) ?_
  refine bd e0 (fun z5 e6 e0 => ?_)
  refine c_calli X w (c_rec X w (cat_RR _ _ _ _ _) rfl) (n := 1) (As := [.int a1]) (rest := [.int z3.1]) (fX7_plainTelling_met l _ _ _ _ _ _ _ _ _ _ e6) gX7_doubleTelling_X7_plainTelling rfl rfl rfl (by decide +kernel) ⟨Nat.le_of_ble_eq_true rfl, Nat.le_of_ble_eq_true rfl⟩ rfl hl.1 rfl (Nat.le_of_ble_eq_true rfl) dX7_doubleTelling_14 (fun H locs w => ?_)
  refine lv_iadd hx hb dX7_doubleTelling_17 ?_
  have e0 := Option.some.inj e0
  subst e0
  exact c_iret X w hr dX7_doubleTelling_18
set_option maxRecDepth 20000 in
theorem fX7_doubleTelling_met (l : Launch) (D : va_G) (y : ClassId) (yS : ClassId × ClassId) (q : Nat → Nat) (sz n : Nat) (a1 : Int32) (I : Nat → Int32) (R : Nat → Nat → Int32) (z : Int32 × mSt) (e0 : fX7_doubleTelling n a1 I R = some z) : Met l yX7_doubleTelling wsX7_doubleTelling rmX7_doubleTelling (va_Pc [.ref (q 0), .int a1] (cPre D y yS q sz I R)) (cQi D y yS q (cS y yS q sz) z) 0 0 (cS y yS q sz) := by
  refine Met.ofW (cc := cX7_doubleTelling) (maxL := 3) (ret := some .int) (by decide) rfl ?_
  intro p e s m args below meth c s₁ B hml hv
  obtain ⟨rfl, hsz, hP, hK, hN, hD⟩ := hv
  subst hsz
  have hl := lv_entry ([.ref (q 0), .int a1]) (n := 3) (Nat.le_of_ble_eq_true rfl)
  rw [lg_entry_eq]
  exact fX7_doubleTelling_w (s := s) ⟨⟨B.exec, B.bytes, hml, findClass_of_methodNamed B.named, atoms_spec (ws := wsX7_doubleTelling) B.pre⟩, hK, hN⟩ ⟨B.returns, B.notSynchronized⟩ ⟨hP, cS_D hD, va_S.rf⟩ hl e0
theorem in_X7_speak_X7 : ∀ w ∈ wsX70, w ∈ wsX7_speak := fun _ h9 => List.mem_cons_of_mem _ (List.mem_append_left _ (List.mem_append_left _ (List.mem_append_right _ h9)))
theorem in_X7_speak_X6 : ∀ w ∈ wsX60, w ∈ wsX7_speak := fun _ h9 => List.mem_cons_of_mem _ (List.mem_append_left _ (List.mem_append_right _ h9))
theorem in_X7_speak_X2 : ∀ w ∈ wsX20, w ∈ wsX7_speak := fun _ h9 => List.mem_cons_of_mem _ (List.mem_append_right _ h9)
def rmX7_speak : Room := { frames := 4, cells := 0, slots := 0, locals := 85 }
def fX7_speak (n : Nat) (a1 : Int32) (I : Nat → Int32) (R : Nat → Nat → Int32) : Option (Int32 × mSt) :=
  (fX7_isRule n a1 I R).bind fun z1 =>
  if z1.1 = 0 then
    some ((-1), z1.2.1, z1.2.2)
  else
    if inb a1 5 = true then
    if (getA z1.2.2 (111 + 100 * 0) a1) = 1 then
      (fX7_bulkyTelling n a1 z1.2.1 z1.2.2).bind fun z10 =>
      some (z10.1, z10.2.1, z10.2.2)
    else
      if (getA z1.2.2 (111 + 100 * 0) a1) = 2 then
        (fX7_doubleTelling n a1 z1.2.1 z1.2.2).bind fun z8 =>
        some (z8.1, z8.2.1, z8.2.2)
      else
        (fX7_plainTelling n a1 z1.2.1 z1.2.2).bind fun z6 =>
        some (z6.1, z6.2.1, z6.2.2)
    else none
set_option maxRecDepth 20000 in
set_option maxHeartbeats 2000000 in
theorem fX7_speak_w {p : Program} {l : Launch} {e : Env} {s : State} {m : MethodId} {args : Array Value} {below : List Frame} {meth : Method} {c : Code} {D : va_G} {y : ClassId} {yS : ClassId × ClassId} {q : Nat → Nat} {n : Nat} {z : Int32 × mSt} (X : cX p s m args c cX7_speak 2 wsX7_speak RX7 D y yS) (hr : meth.sig.returnType = some .int ∧ meth.locks = false) {a1 : Int32} {I : Nat → Int32} {R : Nat → Nat → Int32} {H : Heap} {locs : List Loc} {ls : Array Slot} (w : cH s D y yS q H locs I R) (hl : lv_has ls 2 [(0, .ref (q 0)), (1, .int a1)]) (e0 : fX7_speak n a1 I R = some z) : W p l e rmX7_speak s m args below meth c H locs 0 0 (MQ below (cQi D y yS q (cS y yS q s.heap.size) z) args s 0 0 (cS y yS q s.heap.size)) (F0 m 0 ls []) := by
  have hx := X.1.1
  have hb := X.1.2.1
  unfold fX7_speak at e0
  refine lv_aload_n hx hb dX7_speak_0 rfl (lv_at hl 0 rfl) ?_
  refine lv_iload_n hx hb dX7_speak_1 rfl (lv_at hl 1 rfl) ?_
  refine bd e0 (fun z1 e2 e0 => ?_)
  refine c_calli X w (c_rec X w (cat_RR _ _ _ _ _) rfl) (n := 1) (As := [.int a1]) (rest := []) (fX7_isRule_met l _ _ _ _ _ _ _ _ _ _ e2) gX7_speak_X7_isRule rfl rfl rfl (by decide +kernel) ⟨Nat.le_of_ble_eq_true rfl, Nat.le_of_ble_eq_true rfl⟩ rfl hl.1 rfl (Nat.le_of_ble_eq_true rfl) dX7_speak_2 (fun H locs w => ?_)
  refine lv_if_ne (tgt := 10) hx hb dX7_speak_5 (by decide) (fun c12 => ?_) (fun c12 => ?_)
  · have e0 := itn _ c12 e0
    refine lv_aload_n hx hb dX7_speak_10 rfl (lv_at hl 0 rfl) ?_
    refine c_get X w (cat_RR _ _ _ _ _) rfl in_X7_speak_X7 1 (by decide) (index := 21) rfl (by decide +kernel) (cf_RR_1 _ _) dX7_speak_11 ?_
    refine c_get X w (cat_WO _ _ _ _ _ 0 (by decide)) rfl in_X7_speak_X6 0 (by decide) (index := 68) rfl (by decide +kernel) (cf_WO_0 _ _ _) dX7_speak_14 ?_
    refine c_get X w (cat_PR _ _ _ _ _ 0 (by decide)) rfl in_X7_speak_X2 0 (by decide) (index := 108) rfl (by decide +kernel) (cf_PR_0 _ _ _) dX7_speak_17 ?_
    refine lv_iload_n hx hb dX7_speak_20 rfl (lv_at hl 1 rfl) ?_
    refine gd e0 (fun g3 e0 => ?_)
    refine c_ald X w (cat_a111 _ _ _ _ _ 0 (by decide)) g3 dX7_speak_21 ?_
    by_cases c4 : (getA z1.2.2 (111 + 100 * 0) a1) = 1
    · have e0 := itp _ c4 e0
      refine lv_lookup (off := 32) (tgt := 54) hx hb dX7_speak_22 (by decide) (by rw [c4]; decide) (by decide) ?_
      refine lv_aload_n hx hb dX7_speak_54 rfl (lv_at hl 0 rfl) ?_
      refine lv_iload_n hx hb dX7_speak_55 rfl (lv_at hl 1 rfl) ?_
      refine bd e0 (fun z10 e11 e0 => ?_)
      refine c_calli X w (c_rec X w (cat_RR _ _ _ _ _) rfl) (n := 1) (As := [.int a1]) (rest := []) (fX7_bulkyTelling_met l _ _ _ _ _ _ _ _ _ _ e11) gX7_speak_X7_bulkyTelling rfl rfl rfl (by decide +kernel) ⟨Nat.le_of_ble_eq_true rfl, Nat.le_of_ble_eq_true rfl⟩ rfl hl.1 rfl (Nat.le_of_ble_eq_true rfl) dX7_speak_56 (fun H locs w => ?_)
      have e0 := Option.some.inj e0
      subst e0
      exact c_iret X w hr dX7_speak_59
    · have e0 := itn _ c4 e0
      by_cases c5 : (getA z1.2.2 (111 + 100 * 0) a1) = 2
      · have e0 := itp _ c5 e0
        refine lv_lookup (off := 26) (tgt := 48) hx hb dX7_speak_22 (by decide) (by rw [c5]; decide) (by decide) ?_
        refine lv_aload_n hx hb dX7_speak_48 rfl (lv_at hl 0 rfl) ?_
        refine lv_iload_n hx hb dX7_speak_49 rfl (lv_at hl 1 rfl) ?_
        refine bd e0 (fun z8 e9 e0 => ?_)
        refine c_calli X w (c_rec X w (cat_RR _ _ _ _ _) rfl) (n := 1) (As := [.int a1]) (rest := []) (fX7_doubleTelling_met l _ _ _ _ _ _ _ _ _ _ e9) gX7_speak_X7_doubleTelling rfl rfl rfl (by decide +kernel) ⟨Nat.le_of_ble_eq_true rfl, Nat.le_of_ble_eq_true rfl⟩ rfl hl.1 rfl (Nat.le_of_ble_eq_true rfl) dX7_speak_50 (fun H locs w => ?_)
        have e0 := Option.some.inj e0
        subst e0
        exact c_iret X w hr dX7_speak_53
      · have e0 := itn _ c5 e0
        refine lv_lookup (off := 38) (tgt := 60) hx hb dX7_speak_22 (by decide) (by show Op.lookupswitch.offset [(1, 32), (2, 26)] 38 _ = 38; rw [lv_osw c4 (by decide), lv_osw c5 (by decide)]; rfl) (by decide) ?_
        refine lv_aload_n hx hb dX7_speak_60 rfl (lv_at hl 0 rfl) ?_
        refine lv_iload_n hx hb dX7_speak_61 rfl (lv_at hl 1 rfl) ?_
        refine bd e0 (fun z6 e7 e0 => ?_)
        refine c_calli X w (c_rec X w (cat_RR _ _ _ _ _) rfl) (n := 1) (As := [.int a1]) (rest := []) (fX7_plainTelling_met l _ _ _ _ _ _ _ _ _ _ e7) gX7_speak_X7_plainTelling rfl rfl rfl (by decide +kernel) ⟨Nat.le_of_ble_eq_true rfl, Nat.le_of_ble_eq_true rfl⟩ rfl hl.1 rfl (Nat.le_of_ble_eq_true rfl) dX7_speak_62 (fun H locs w => ?_)
        have e0 := Option.some.inj e0
        subst e0
        exact c_iret X w hr dX7_speak_65
  · have e0 := itp _ c12 e0
    refine lv_iconst (v := (-1)) hx hb dX7_speak_8 (by decide) ?_
    have e0 := Option.some.inj e0
    subst e0
    exact c_iret X w hr dX7_speak_9
set_option maxRecDepth 20000 in
theorem fX7_speak_met (l : Launch) (D : va_G) (y : ClassId) (yS : ClassId × ClassId) (q : Nat → Nat) (sz n : Nat) (a1 : Int32) (I : Nat → Int32) (R : Nat → Nat → Int32) (z : Int32 × mSt) (e0 : fX7_speak n a1 I R = some z) : Met l yX7_speak wsX7_speak rmX7_speak (va_Pc [.ref (q 0), .int a1] (cPre D y yS q sz I R)) (cQi D y yS q (cS y yS q sz) z) 0 0 (cS y yS q sz) := by
  refine Met.ofW (cc := cX7_speak) (maxL := 2) (ret := some .int) (by decide) rfl ?_
  intro p e s m args below meth c s₁ B hml hv
  obtain ⟨rfl, hsz, hP, hK, hN, hD⟩ := hv
  subst hsz
  have hl := lv_entry ([.ref (q 0), .int a1]) (n := 2) (Nat.le_of_ble_eq_true rfl)
  rw [lg_entry_eq]
  exact fX7_speak_w (s := s) ⟨⟨B.exec, B.bytes, hml, findClass_of_methodNamed B.named, atoms_spec (ws := wsX7_speak) B.pre⟩, hK, hN⟩ ⟨B.returns, B.notSynchronized⟩ ⟨hP, cS_D hD, va_S.rf⟩ hl e0
theorem in_X7_quote_X7 : ∀ w ∈ wsX70, w ∈ wsX7_quote := fun _ h9 => List.mem_cons_of_mem _ (List.mem_append_left _ (List.mem_append_left _ (List.mem_append_right _ h9)))
theorem in_X7_quote_X6 : ∀ w ∈ wsX60, w ∈ wsX7_quote := fun _ h9 => List.mem_cons_of_mem _ (List.mem_append_left _ (List.mem_append_right _ h9))
theorem in_X7_quote_X2 : ∀ w ∈ wsX20, w ∈ wsX7_quote := fun _ h9 => List.mem_cons_of_mem _ (List.mem_append_right _ h9)
def rmX7_quote : Room := { frames := 1, cells := 0, slots := 0, locals := 21 }
def fX7_quote (n : Nat) (a1 : Int32) (I : Nat → Int32) (R : Nat → Nat → Int32) : Option (Int32 × mSt) :=
  (fX7_isRule n a1 I R).bind fun z1 =>
  if z1.1 = 0 then
    some ((-1), z1.2.1, z1.2.2)
  else
    if inb a1 5 = true then
    if (getA z1.2.2 (111 + 100 * 0) a1) = 2 then
      (fX7_leave n 5 z1.2.1 z1.2.2).bind fun z7 =>
      some (40, z7.1, z7.2)
    else
      (fX7_leave n 4 z1.2.1 z1.2.2).bind fun z4 =>
      if inb a1 5 = true then
      some ((getA z4.2 (114 + 100 * 0) a1), z4.1, z4.2)
      else none
    else none
set_option maxRecDepth 20000 in
set_option maxHeartbeats 2000000 in
theorem fX7_quote_w {p : Program} {l : Launch} {e : Env} {s : State} {m : MethodId} {args : Array Value} {below : List Frame} {meth : Method} {c : Code} {D : va_G} {y : ClassId} {yS : ClassId × ClassId} {q : Nat → Nat} {n : Nat} {z : Int32 × mSt} (X : cX p s m args c cX7_quote 2 wsX7_quote RX7 D y yS) (hr : meth.sig.returnType = some .int ∧ meth.locks = false) {a1 : Int32} {I : Nat → Int32} {R : Nat → Nat → Int32} {H : Heap} {locs : List Loc} {ls : Array Slot} (w : cH s D y yS q H locs I R) (hl : lv_has ls 2 [(0, .ref (q 0)), (1, .int a1)]) (e0 : fX7_quote n a1 I R = some z) : W p l e rmX7_quote s m args below meth c H locs 0 0 (MQ below (cQi D y yS q (cS y yS q s.heap.size) z) args s 0 0 (cS y yS q s.heap.size)) (F0 m 0 ls []) := by
  have hx := X.1.1
  have hb := X.1.2.1
  unfold fX7_quote at e0
  refine lv_aload_n hx hb dX7_quote_0 rfl (lv_at hl 0 rfl) ?_
  refine lv_iload_n hx hb dX7_quote_1 rfl (lv_at hl 1 rfl) ?_
  refine bd e0 (fun z1 e2 e0 => ?_)
  refine c_calli X w (c_rec X w (cat_RR _ _ _ _ _) rfl) (n := 1) (As := [.int a1]) (rest := []) (fX7_isRule_met l _ _ _ _ _ _ _ _ _ _ e2) gX7_quote_X7_isRule rfl rfl rfl (by decide +kernel) ⟨Nat.le_of_ble_eq_true rfl, Nat.le_of_ble_eq_true rfl⟩ rfl hl.1 rfl (Nat.le_of_ble_eq_true rfl) dX7_quote_2 (fun H locs w => ?_)
  refine lv_if_ne (tgt := 10) hx hb dX7_quote_5 (by decide) (fun c10 => ?_) (fun c10 => ?_)
  · have e0 := itn _ c10 e0
    refine lv_aload_n hx hb dX7_quote_10 rfl (lv_at hl 0 rfl) ?_
    refine c_get X w (cat_RR _ _ _ _ _) rfl in_X7_quote_X7 1 (by decide) (index := 21) rfl (by decide +kernel) (cf_RR_1 _ _) dX7_quote_11 ?_
    refine c_get X w (cat_WO _ _ _ _ _ 0 (by decide)) rfl in_X7_quote_X6 0 (by decide) (index := 68) rfl (by decide +kernel) (cf_WO_0 _ _ _) dX7_quote_14 ?_
    refine c_get X w (cat_PR _ _ _ _ _ 0 (by decide)) rfl in_X7_quote_X2 0 (by decide) (index := 108) rfl (by decide +kernel) (cf_PR_0 _ _ _) dX7_quote_17 ?_
    refine lv_iload_n hx hb dX7_quote_20 rfl (lv_at hl 1 rfl) ?_
    refine gd e0 (fun g3 e0 => ?_)
    refine c_ald X w (cat_a111 _ _ _ _ _ 0 (by decide)) g3 dX7_quote_21 ?_
    refine lv_iconst (v := 2) hx hb dX7_quote_22 (by decide) ?_
    refine lv_icmp_ne (tgt := 34) hx hb dX7_quote_23 (by decide) (fun c9 => ?_) (fun c9 => ?_)
    · have e0 := itn _ c9 e0
      refine lv_aload_n hx hb dX7_quote_34 rfl (lv_at hl 0 rfl) ?_
      refine lv_iconst (v := 4) hx hb dX7_quote_35 (by decide) ?_
      refine bd e0 (fun z4 e5 e0 => ?_)
      refine c_callv X w (c_rec X w (cat_RR _ _ _ _ _) rfl) (n := 1) (As := [.int 4]) (rest := []) (fX7_leave_met l _ _ _ _ _ _ _ _ _ _ e5) gX7_quote_X7_leave rfl rfl rfl (by decide +kernel) ⟨Nat.le_of_ble_eq_true rfl, Nat.le_of_ble_eq_true rfl⟩ rfl hl.1 rfl (Nat.le_of_ble_eq_true rfl) dX7_quote_36 (fun H locs w => ?_)
      refine lv_aload_n hx hb dX7_quote_39 rfl (lv_at hl 0 rfl) ?_
      refine c_get X w (cat_RR _ _ _ _ _) rfl in_X7_quote_X7 1 (by decide) (index := 21) rfl (by decide +kernel) (cf_RR_1 _ _) dX7_quote_40 ?_
      refine c_get X w (cat_WO _ _ _ _ _ 0 (by decide)) rfl in_X7_quote_X6 0 (by decide) (index := 68) rfl (by decide +kernel) (cf_WO_0 _ _ _) dX7_quote_43 ?_
      refine c_get X w (cat_PR _ _ _ _ _ 0 (by decide)) rfl in_X7_quote_X2 3 (by decide) (index := 120) rfl (by decide +kernel) (cf_PR_3 _ _ _) dX7_quote_46 ?_
      refine lv_iload_n hx hb dX7_quote_49 rfl (lv_at hl 1 rfl) ?_
      refine gd e0 (fun g6 e0 => ?_)
      refine c_ald X w (cat_a114 _ _ _ _ _ 0 (by decide)) g6 dX7_quote_50 ?_
      have e0 := Option.some.inj e0
      subst e0
      exact c_iret X w hr dX7_quote_51
    · have e0 := itp _ c9 e0
      refine lv_aload_n hx hb dX7_quote_26 rfl (lv_at hl 0 rfl) ?_
      refine lv_iconst (v := 5) hx hb dX7_quote_27 (by decide) ?_
      refine bd e0 (fun z7 e8 e0 => ?_)
      refine c_callv X w (c_rec X w (cat_RR _ _ _ _ _) rfl) (n := 1) (As := [.int 5]) (rest := []) (fX7_leave_met l _ _ _ _ _ _ _ _ _ _ e8) gX7_quote_X7_leave rfl rfl rfl (by decide +kernel) ⟨Nat.le_of_ble_eq_true rfl, Nat.le_of_ble_eq_true rfl⟩ rfl hl.1 rfl (Nat.le_of_ble_eq_true rfl) dX7_quote_28 (fun H locs w => ?_)
      refine lv_bipush (v := 40) hx hb dX7_quote_31 (by decide) ?_
      have e0 := Option.some.inj e0
      subst e0
      exact c_iret X w hr dX7_quote_33
  · have e0 := itp _ c10 e0
    refine lv_iconst (v := (-1)) hx hb dX7_quote_8 (by decide) ?_
    have e0 := Option.some.inj e0
    subst e0
    exact c_iret X w hr dX7_quote_9
set_option maxRecDepth 20000 in
theorem fX7_quote_met (l : Launch) (D : va_G) (y : ClassId) (yS : ClassId × ClassId) (q : Nat → Nat) (sz n : Nat) (a1 : Int32) (I : Nat → Int32) (R : Nat → Nat → Int32) (z : Int32 × mSt) (e0 : fX7_quote n a1 I R = some z) : Met l yX7_quote wsX7_quote rmX7_quote (va_Pc [.ref (q 0), .int a1] (cPre D y yS q sz I R)) (cQi D y yS q (cS y yS q sz) z) 0 0 (cS y yS q sz) := by
  refine Met.ofW (cc := cX7_quote) (maxL := 2) (ret := some .int) (by decide) rfl ?_
  intro p e s m args below meth c s₁ B hml hv
  obtain ⟨rfl, hsz, hP, hK, hN, hD⟩ := hv
  subst hsz
  have hl := lv_entry ([.ref (q 0), .int a1]) (n := 2) (Nat.le_of_ble_eq_true rfl)
  rw [lg_entry_eq]
  exact fX7_quote_w (s := s) ⟨⟨B.exec, B.bytes, hml, findClass_of_methodNamed B.named, atoms_spec (ws := wsX7_quote) B.pre⟩, hK, hN⟩ ⟨B.returns, B.notSynchronized⟩ ⟨hP, cS_D hD, va_S.rf⟩ hl e0
theorem in_X7_as_X7 : ∀ w ∈ wsX70, w ∈ wsX7_as := fun _ h9 => List.mem_cons_of_mem _ (List.mem_append_left _ (List.mem_append_left _ (List.mem_append_right _ h9)))
theorem in_X7_as_X6 : ∀ w ∈ wsX60, w ∈ wsX7_as := fun _ h9 => List.mem_cons_of_mem _ (List.mem_append_left _ (List.mem_append_right _ h9))
theorem in_X7_as_X2 : ∀ w ∈ wsX20, w ∈ wsX7_as := fun _ h9 => List.mem_cons_of_mem _ (List.mem_append_right _ h9)
def rmX7_as : Room := { frames := 1, cells := 0, slots := 0, locals := 21 }
def fX7_as (n : Nat) (a1 : Int32) (a2 : Int32) (I : Nat → Int32) (R : Nat → Nat → Int32) : Option (Int32 × mSt) :=
  (fX7_isRule n a1 (upd I 9 0) R).bind fun z1 =>
  if z1.1 = 0 then
    some ((-1), z1.2.1, z1.2.2)
  else
    if a2 < 0 then
      some ((-2), z1.2.1, z1.2.2)
    else
      if a2 < 3 then
        if inb a1 5 = true then
        if (getA z1.2.2 (111 + 100 * 0) a1) < a2 then
          (fX7_failed n 2 z1.2.1 z1.2.2).bind fun z4 =>
          some (z4.1, z4.2.1, z4.2.2)
        else
          some (1, z1.2.1, z1.2.2)
        else none
      else
        some ((-2), z1.2.1, z1.2.2)
set_option maxRecDepth 20000 in
set_option maxHeartbeats 2000000 in
theorem fX7_as_w {p : Program} {l : Launch} {e : Env} {s : State} {m : MethodId} {args : Array Value} {below : List Frame} {meth : Method} {c : Code} {D : va_G} {y : ClassId} {yS : ClassId × ClassId} {q : Nat → Nat} {n : Nat} {z : Int32 × mSt} (X : cX p s m args c cX7_as 3 wsX7_as RX7 D y yS) (hr : meth.sig.returnType = some .int ∧ meth.locks = false) {a1 : Int32} {a2 : Int32} {I : Nat → Int32} {R : Nat → Nat → Int32} {H : Heap} {locs : List Loc} {ls : Array Slot} (w : cH s D y yS q H locs I R) (hl : lv_has ls 3 [(0, .ref (q 0)), (1, .int a1), (2, .int a2)]) (e0 : fX7_as n a1 a2 I R = some z) : W p l e rmX7_as s m args below meth c H locs 0 0 (MQ below (cQi D y yS q (cS y yS q s.heap.size) z) args s 0 0 (cS y yS q s.heap.size)) (F0 m 0 ls []) := by
  have hx := X.1.1
  have hb := X.1.2.1
  unfold fX7_as at e0
  refine lv_aload_n hx hb dX7_as_0 rfl (lv_at hl 0 rfl) ?_
  refine lv_iconst (v := 0) hx hb dX7_as_1 (by decide) ?_
  refine c_put X w (cat_RR _ _ _ _ _) rfl in_X7_as_X7 tyX7 tyX7_ok nmX7 8 (by decide) (index := 42) (ty := .int) rfl (by decide +kernel) rfl (by decide +kernel) rfl rfl (Nat.le_of_ble_eq_true rfl) (cset_RR_8 _ _ _ _ _ _) dX7_as_2 (fun H locs w => ?_)
  refine lv_aload_n hx hb dX7_as_5 rfl (lv_at hl 0 rfl) ?_
  refine lv_iload_n hx hb dX7_as_6 rfl (lv_at hl 1 rfl) ?_
  refine bd e0 (fun z1 e2 e0 => ?_)
  refine c_calli X w (c_rec X w (cat_RR _ _ _ _ _) rfl) (n := 1) (As := [.int a1]) (rest := []) (fX7_isRule_met l _ _ _ _ _ _ _ _ _ _ e2) gX7_as_X7_isRule rfl rfl rfl (by decide +kernel) ⟨Nat.le_of_ble_eq_true rfl, Nat.le_of_ble_eq_true rfl⟩ rfl hl.1 rfl (Nat.le_of_ble_eq_true rfl) dX7_as_7 (fun H locs w => ?_)
  refine lv_if_ne (tgt := 15) hx hb dX7_as_10 (by decide) (fun c9 => ?_) (fun c9 => ?_)
  · have e0 := itn _ c9 e0
    refine lv_iload_n hx hb dX7_as_15 rfl (lv_at hl 2 rfl) ?_
    refine lv_if_lt (tgt := 24) hx hb dX7_as_16 (by decide) (fun c8 => ?_) (fun c8 => ?_)
    · have e0 := itp _ c8 e0
      refine lv_bipush (v := (-2)) hx hb dX7_as_24 (by decide) ?_
      have e0 := Option.some.inj e0
      subst e0
      exact c_iret X w hr dX7_as_26
    · have e0 := itn _ c8 e0
      refine lv_iload_n hx hb dX7_as_19 rfl (lv_at hl 2 rfl) ?_
      refine lv_iconst (v := 3) hx hb dX7_as_20 (by decide) ?_
      refine lv_icmp_lt (tgt := 27) hx hb dX7_as_21 (by decide) (fun c7 => ?_) (fun c7 => ?_)
      · have e0 := itp _ c7 e0
        refine lv_aload_n hx hb dX7_as_27 rfl (lv_at hl 0 rfl) ?_
        refine c_get X w (cat_RR _ _ _ _ _) rfl in_X7_as_X7 1 (by decide) (index := 21) rfl (by decide +kernel) (cf_RR_1 _ _) dX7_as_28 ?_
        refine c_get X w (cat_WO _ _ _ _ _ 0 (by decide)) rfl in_X7_as_X6 0 (by decide) (index := 68) rfl (by decide +kernel) (cf_WO_0 _ _ _) dX7_as_31 ?_
        refine c_get X w (cat_PR _ _ _ _ _ 0 (by decide)) rfl in_X7_as_X2 0 (by decide) (index := 108) rfl (by decide +kernel) (cf_PR_0 _ _ _) dX7_as_34 ?_
        refine lv_iload_n hx hb dX7_as_37 rfl (lv_at hl 1 rfl) ?_
        refine gd e0 (fun g3 e0 => ?_)
        refine c_ald X w (cat_a111 _ _ _ _ _ 0 (by decide)) g3 dX7_as_38 ?_
        refine lv_iload_n hx hb dX7_as_39 rfl (lv_at hl 2 rfl) ?_
        refine lv_icmp_lt (tgt := 47) hx hb dX7_as_40 (by decide) (fun c6 => ?_) (fun c6 => ?_)
        · have e0 := itp _ c6 e0
          refine lv_aload_n hx hb dX7_as_47 rfl (lv_at hl 0 rfl) ?_
          refine lv_iconst (v := 2) hx hb dX7_as_48 (by decide) ?_
          refine bd e0 (fun z4 e5 e0 => ?_)
          refine c_calli X w (c_rec X w (cat_RR _ _ _ _ _) rfl) (n := 1) (As := [.int 2]) (rest := []) (fX7_failed_met l _ _ _ _ _ _ _ _ _ _ e5) gX7_as_X7_failed rfl rfl rfl (by decide +kernel) ⟨Nat.le_of_ble_eq_true rfl, Nat.le_of_ble_eq_true rfl⟩ rfl hl.1 rfl (Nat.le_of_ble_eq_true rfl) dX7_as_49 (fun H locs w => ?_)
          have e0 := Option.some.inj e0
          subst e0
          exact c_iret X w hr dX7_as_52
        · have e0 := itn _ c6 e0
          refine lv_iconst (v := 1) hx hb dX7_as_43 (by decide) ?_
          refine lv_goto (tgt := 52) hx hb dX7_as_44 (by decide) ?_
          have e0 := Option.some.inj e0
          subst e0
          exact c_iret X w hr dX7_as_52
      · have e0 := itn _ c7 e0
        refine lv_bipush (v := (-2)) hx hb dX7_as_24 (by decide) ?_
        have e0 := Option.some.inj e0
        subst e0
        exact c_iret X w hr dX7_as_26
  · have e0 := itp _ c9 e0
    refine lv_iconst (v := (-1)) hx hb dX7_as_13 (by decide) ?_
    have e0 := Option.some.inj e0
    subst e0
    exact c_iret X w hr dX7_as_14
set_option maxRecDepth 20000 in
theorem fX7_as_met (l : Launch) (D : va_G) (y : ClassId) (yS : ClassId × ClassId) (q : Nat → Nat) (sz n : Nat) (a1 : Int32) (a2 : Int32) (I : Nat → Int32) (R : Nat → Nat → Int32) (z : Int32 × mSt) (e0 : fX7_as n a1 a2 I R = some z) : Met l yX7_as wsX7_as rmX7_as (va_Pc [.ref (q 0), .int a1, .int a2] (cPre D y yS q sz I R)) (cQi D y yS q (cS y yS q sz) z) 0 0 (cS y yS q sz) := by
  refine Met.ofW (cc := cX7_as) (maxL := 3) (ret := some .int) (by decide) rfl ?_
  intro p e s m args below meth c s₁ B hml hv
  obtain ⟨rfl, hsz, hP, hK, hN, hD⟩ := hv
  subst hsz
  have hl := lv_entry ([.ref (q 0), .int a1, .int a2]) (n := 3) (Nat.le_of_ble_eq_true rfl)
  rw [lg_entry_eq]
  exact fX7_as_w (s := s) ⟨⟨B.exec, B.bytes, hml, findClass_of_methodNamed B.named, atoms_spec (ws := wsX7_as) B.pre⟩, hK, hN⟩ ⟨B.returns, B.notSynchronized⟩ ⟨hP, cS_D hD, va_S.rf⟩ hl e0
