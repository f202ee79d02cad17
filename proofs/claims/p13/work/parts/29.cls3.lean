theorem in_X3_run_X3 : ∀ w ∈ wsX30, w ∈ wsX3_run := fun _ h9 => List.mem_cons_of_mem _ (List.mem_append_left _ (List.mem_append_left _ (List.mem_append_right _ h9)))
theorem in_X3_run_X2 : ∀ w ∈ wsX20, w ∈ wsX3_run := fun _ h9 => List.mem_cons_of_mem _ (List.mem_append_left _ (List.mem_append_right _ h9))
theorem in_X3_run_X1 : ∀ w ∈ wsX10, w ∈ wsX3_run := fun _ h9 => List.mem_cons_of_mem _ (List.mem_append_right _ h9)
def rmX3_run : Room := { frames := 4, cells := 0, slots := 0, locals := 90 }
def fX3_run_b89 (n : Nat) (u : Nat) (k58 : Int32 → (Nat → Int32) → (Nat → Nat → Int32) → Option (mSt)) (a1 : Int32) (I : Nat → Int32) (R : Nat → Nat → Int32) : Option (mSt) :=
  k58 (a1 + 1) I R
set_option maxRecDepth 20000 in
set_option maxHeartbeats 2000000 in
theorem fX3_run_b89_w {p : Program} {l : Launch} {e : Env} {s : State} {m : MethodId} {args : Array Value} {below : List Frame} {meth : Method} {c : Code} {D : va_G} {y : ClassId} {yS : ClassId × ClassId} {q : Nat → Nat} {n : Nat} {z : mSt} {u : Nat} (hu : u < 2) (X : cX p s m args c cX3_run 4 wsX3_run RX3 D y yS) (hr : meth.sig.returnType = none ∧ meth.locks = false) {k58 : Int32 → (Nat → Int32) → (Nat → Nat → Int32) → Option (mSt)} (hk58 : ∀ (a1 : Int32) (I : Nat → Int32) (R : Nat → Nat → Int32) (H : Heap) (locs : List Loc) (ls : Array Slot), cH s D y yS q H locs I R → lv_has ls 4 [(0, .ref (q (140 + 100 * u))), (1, .int a1)] → k58 a1 I R = some z → W p l e rmX3_run s m args below meth c H locs 0 0 (MQ below (cQv D y yS q (cS y yS q s.heap.size) z) args s 0 0 (cS y yS q s.heap.size)) (F0 m 58 ls [])) {a1 : Int32} {I : Nat → Int32} {R : Nat → Nat → Int32} {H : Heap} {locs : List Loc} {ls : Array Slot} (w : cH s D y yS q H locs I R) (hl : lv_has ls 4 [(0, .ref (q (140 + 100 * u))), (1, .int a1)]) (e0 : fX3_run_b89 n u k58 a1 I R = some z) : W p l e rmX3_run s m args below meth c H locs 0 0 (MQ below (cQv D y yS q (cS y yS q s.heap.size) z) args s 0 0 (cS y yS q s.heap.size)) (F0 m 89 ls []) := by
  have hx := X.1.1
  have hb := X.1.2.1
  unfold fX3_run_b89 at e0
  refine lv_iinc (v := (a1 + 1)) (lv' := [(1, .int (a1 + 1)), (0, .ref (q (140 + 100 * u)))]) hx hb dX3_run_89 hl (k := 1) rfl rfl (by decide) rfl (fun ls hl => ?_)
  refine lv_goto (tgt := 58) hx hb dX3_run_92 (by decide) ?_
  exact hk58 _ _ _ _ _ _ w (lv_sub hl [1, 0] rfl) e0
def fX3_run_b67 (n : Nat) (u : Nat) (k58 : Int32 → (Nat → Int32) → (Nat → Nat → Int32) → Option (mSt)) : Nat → Int32 → Int32 → Int32 → (Nat → Int32) → (Nat → Nat → Int32) → Option (mSt)
  | 0, _, _, _, _, _ => none
  | j + 1, a1, a2, a3, I, R =>
    if 64 < a3 then
      fX3_run_b89 n u k58 a1 I R
    else
      if a2 = 0 then
        fX3_run_b89 n u k58 a1 I R
      else
        (fX3_isRoundIn n u a1 I R).bind fun z6 =>
        fX3_run_b67 n u k58 j a1 z6.1 (a3 + 1) z6.2.1 z6.2.2
set_option maxRecDepth 20000 in
set_option maxHeartbeats 2000000 in
theorem fX3_run_b67_w {p : Program} {l : Launch} {e : Env} {s : State} {m : MethodId} {args : Array Value} {below : List Frame} {meth : Method} {c : Code} {D : va_G} {y : ClassId} {yS : ClassId × ClassId} {q : Nat → Nat} {n : Nat} {z : mSt} {u : Nat} (hu : u < 2) (X : cX p s m args c cX3_run 4 wsX3_run RX3 D y yS) (hr : meth.sig.returnType = none ∧ meth.locks = false) {k58 : Int32 → (Nat → Int32) → (Nat → Nat → Int32) → Option (mSt)} (hk58 : ∀ (a1 : Int32) (I : Nat → Int32) (R : Nat → Nat → Int32) (H : Heap) (locs : List Loc) (ls : Array Slot), cH s D y yS q H locs I R → lv_has ls 4 [(0, .ref (q (140 + 100 * u))), (1, .int a1)] → k58 a1 I R = some z → W p l e rmX3_run s m args below meth c H locs 0 0 (MQ below (cQv D y yS q (cS y yS q s.heap.size) z) args s 0 0 (cS y yS q s.heap.size)) (F0 m 58 ls [])) : ∀ (j : Nat) (a1 : Int32) (a2 : Int32) (a3 : Int32) (I : Nat → Int32) (R : Nat → Nat → Int32) (H : Heap) (locs : List Loc) (ls : Array Slot), cH s D y yS q H locs I R → lv_has ls 4 [(0, .ref (q (140 + 100 * u))), (1, .int a1), (2, .int a2), (3, .int a3)] → fX3_run_b67 n u k58 j a1 a2 a3 I R = some z → W p l e rmX3_run s m args below meth c H locs 0 0 (MQ below (cQv D y yS q (cS y yS q s.heap.size) z) args s 0 0 (cS y yS q s.heap.size)) (F0 m 67 ls []) := by
  have hx := X.1.1
  have hb := X.1.2.1
  intro j
  induction j with
  | zero =>
    intro a1 a2 a3 I R H locs ls w hl e0
    cases e0
  | succ j ih =>
    intro a1 a2 a3 I R H locs ls w hl e0
    rw [fX3_run_b67] at e0
    refine lv_iload_n hx hb dX3_run_67 rfl (lv_at hl 3 rfl) ?_
    refine lv_bipush (v := 64) hx hb dX3_run_68 (by decide) ?_
    refine lv_icmp_gt (tgt := 89) hx hb dX3_run_70 (by decide) (fun c9 => ?_) (fun c9 => ?_)
    · have e0 := itp _ c9 e0
      exact fX3_run_b89_w (l := l) hu X hr hk58 w (lv_sub hl [0, 1] rfl) e0
    · have e0 := itn _ c9 e0
      refine lv_iload_n hx hb dX3_run_73 rfl (lv_at hl 2 rfl) ?_
      refine lv_if_eq (tgt := 89) hx hb dX3_run_74 (by decide) (fun c8 => ?_) (fun c8 => ?_)
      · have e0 := itp _ c8 e0
        exact fX3_run_b89_w (l := l) hu X hr hk58 w (lv_sub hl [0, 1] rfl) e0
      · have e0 := itn _ c8 e0
        refine lv_aload_n hx hb dX3_run_77 rfl (lv_at hl 0 rfl) ?_
        refine lv_iload_n hx hb dX3_run_78 rfl (lv_at hl 1 rfl) ?_
        refine bd e0 (fun z6 e7 e0 => ?_)
        refine c_calli X w (c_rec X w (cat_RO _ _ _ _ _ u hu) rfl) (n := 1) (As := [.int a1]) (rest := []) (fX3_isRoundIn_met l _ _ _ _ _ _ _ hu _ _ _ _ e7) gX3_run_X3_isRoundIn rfl rfl rfl (by decide +kernel) ⟨Nat.le_of_ble_eq_true rfl, Nat.le_of_ble_eq_true rfl⟩ rfl hl.1 rfl (Nat.le_of_ble_eq_true rfl) dX3_run_79 (fun H locs w => ?_)
        refine lv_istore_n (lv' := [(2, .int z6.1), (0, .ref (q (140 + 100 * u))), (1, .int a1), (3, .int a3)]) hx hb dX3_run_82 rfl hl (by decide) rfl (fun ls hl => ?_)
        refine lv_iinc (v := (a3 + 1)) (lv' := [(3, .int (a3 + 1)), (2, .int z6.1), (0, .ref (q (140 + 100 * u))), (1, .int a1)]) hx hb dX3_run_83 hl (k := 3) rfl rfl (by decide) rfl (fun ls hl => ?_)
        refine lv_goto (tgt := 67) hx hb dX3_run_86 (by decide) ?_
        exact ih _ _ _ _ _ _ _ _ w (lv_sub hl [2, 3, 1, 0] rfl) e0
def fX3_run_b58 (n : Nat) (u : Nat) : Nat → Int32 → (Nat → Int32) → (Nat → Nat → Int32) → Option (mSt)
  | 0, _, _, _ => none
  | j + 1, a1, I, R =>
    if 4 ≤ a1 then
      some (I, R)
    else
      fX3_run_b67 n u (fX3_run_b58 n u j) n a1 1 0 I R
set_option maxRecDepth 20000 in
set_option maxHeartbeats 2000000 in
theorem fX3_run_b58_w {p : Program} {l : Launch} {e : Env} {s : State} {m : MethodId} {args : Array Value} {below : List Frame} {meth : Method} {c : Code} {D : va_G} {y : ClassId} {yS : ClassId × ClassId} {q : Nat → Nat} {n : Nat} {z : mSt} {u : Nat} (hu : u < 2) (X : cX p s m args c cX3_run 4 wsX3_run RX3 D y yS) (hr : meth.sig.returnType = none ∧ meth.locks = false) : ∀ (j : Nat) (a1 : Int32) (I : Nat → Int32) (R : Nat → Nat → Int32) (H : Heap) (locs : List Loc) (ls : Array Slot), cH s D y yS q H locs I R → lv_has ls 4 [(0, .ref (q (140 + 100 * u))), (1, .int a1)] → fX3_run_b58 n u j a1 I R = some z → W p l e rmX3_run s m args below meth c H locs 0 0 (MQ below (cQv D y yS q (cS y yS q s.heap.size) z) args s 0 0 (cS y yS q s.heap.size)) (F0 m 58 ls []) := by
  have hx := X.1.1
  have hb := X.1.2.1
  intro j
  induction j with
  | zero =>
    intro a1 I R H locs ls w hl e0
    cases e0
  | succ j ih =>
    intro a1 I R H locs ls w hl e0
    rw [fX3_run_b58] at e0
    refine lv_iload_n hx hb dX3_run_58 rfl (lv_at hl 1 rfl) ?_
    refine lv_iconst (v := 4) hx hb dX3_run_59 (by decide) ?_
    refine lv_icmp_ge (tgt := 95) hx hb dX3_run_60 (by decide) (fun c5 => ?_) (fun c5 => ?_)
    · have e0 := itp _ c5 e0
      have e0 := Option.some.inj e0
      subst e0
      exact c_vret X w hr dX3_run_95
    · have e0 := itn _ c5 e0
      refine lv_iconst (v := 1) hx hb dX3_run_63 (by decide) ?_
      refine lv_istore_n (lv' := [(2, .int 1), (0, .ref (q (140 + 100 * u))), (1, .int a1)]) hx hb dX3_run_64 rfl hl (by decide) rfl (fun ls hl => ?_)
      refine lv_iconst (v := 0) hx hb dX3_run_65 (by decide) ?_
      refine lv_istore_n (lv' := [(3, .int 0), (2, .int 1), (0, .ref (q (140 + 100 * u))), (1, .int a1)]) hx hb dX3_run_66 rfl hl (by decide) rfl (fun ls hl => ?_)
      exact fX3_run_b67_w (l := l) hu X hr ih n _ _ _ _ _ _ _ _ w (lv_sub hl [2, 3, 1, 0] rfl) e0
def fX3_run_b24 (n : Nat) (u : Nat) : Nat → Int32 → (Nat → Int32) → (Nat → Nat → Int32) → Option (mSt)
  | 0, _, _, _ => none
  | j + 1, a1, I, R =>
    if (I (118 + 100 * u)) ≤ a1 then
      fX3_run_b58 n u n 0 I R
    else
      if inb a1 4 = true then
      (fX3_hold n u a1 (getA R (117 + 100 * u) a1) 0 I R).bind fun z2 =>
      fX3_run_b24 n u j (a1 + 1) z2.1 z2.2
      else none
set_option maxRecDepth 20000 in
set_option maxHeartbeats 2000000 in
theorem fX3_run_b24_w {p : Program} {l : Launch} {e : Env} {s : State} {m : MethodId} {args : Array Value} {below : List Frame} {meth : Method} {c : Code} {D : va_G} {y : ClassId} {yS : ClassId × ClassId} {q : Nat → Nat} {n : Nat} {z : mSt} {u : Nat} (hu : u < 2) (X : cX p s m args c cX3_run 4 wsX3_run RX3 D y yS) (hr : meth.sig.returnType = none ∧ meth.locks = false) : ∀ (j : Nat) (a1 : Int32) (I : Nat → Int32) (R : Nat → Nat → Int32) (H : Heap) (locs : List Loc) (ls : Array Slot), cH s D y yS q H locs I R → lv_has ls 4 [(0, .ref (q (140 + 100 * u))), (1, .int a1)] → fX3_run_b24 n u j a1 I R = some z → W p l e rmX3_run s m args below meth c H locs 0 0 (MQ below (cQv D y yS q (cS y yS q s.heap.size) z) args s 0 0 (cS y yS q s.heap.size)) (F0 m 24 ls []) := by
  have hx := X.1.1
  have hb := X.1.2.1
  intro j
  induction j with
  | zero =>
    intro a1 I R H locs ls w hl e0
    cases e0
  | succ j ih =>
    intro a1 I R H locs ls w hl e0
    rw [fX3_run_b24] at e0
    refine lv_iload_n hx hb dX3_run_24 rfl (lv_at hl 1 rfl) ?_
    refine lv_aload_n hx hb dX3_run_25 rfl (lv_at hl 0 rfl) ?_
    refine c_get X w (cat_RO _ _ _ _ _ u hu) rfl in_X3_run_X3 0 (by decide) (index := 21) rfl (by decide +kernel) (cf_RO_0 _ _ _) dX3_run_26 ?_
    refine c_get X w (cat_PR _ _ _ _ _ u hu) rfl in_X3_run_X2 7 (by decide) (index := 39) rfl (by decide +kernel) (cf_PR_7 _ _ _) dX3_run_29 ?_
    refine lv_icmp_ge (tgt := 56) hx hb dX3_run_32 (by decide) (fun c4 => ?_) (fun c4 => ?_)
    · have e0 := itp _ c4 e0
      refine lv_iconst (v := 0) hx hb dX3_run_56 (by decide) ?_
      refine lv_istore_n (lv' := [(1, .int 0), (0, .ref (q (140 + 100 * u)))]) hx hb dX3_run_57 rfl hl (by decide) rfl (fun ls hl => ?_)
      exact fX3_run_b58_w (l := l) hu X hr n _ _ _ _ _ _ w (lv_sub hl [1, 0] rfl) e0
    · have e0 := itn _ c4 e0
      refine lv_aload_n hx hb dX3_run_35 rfl (lv_at hl 0 rfl) ?_
      refine lv_iload_n hx hb dX3_run_36 rfl (lv_at hl 1 rfl) ?_
      refine lv_aload_n hx hb dX3_run_37 rfl (lv_at hl 0 rfl) ?_
      refine c_get X w (cat_RO _ _ _ _ _ u hu) rfl in_X3_run_X3 0 (by decide) (index := 21) rfl (by decide +kernel) (cf_RO_0 _ _ _) dX3_run_38 ?_
      refine c_get X w (cat_PR _ _ _ _ _ u hu) rfl in_X3_run_X2 6 (by decide) (index := 44) rfl (by decide +kernel) (cf_PR_6 _ _ _) dX3_run_41 ?_
      refine lv_iload_n hx hb dX3_run_44 rfl (lv_at hl 1 rfl) ?_
      refine gd e0 (fun g1 e0 => ?_)
      refine c_ald X w (cat_a117 _ _ _ _ _ u hu) g1 dX3_run_45 ?_
      refine lv_iconst (v := 0) hx hb dX3_run_46 (by decide) ?_
      refine bd e0 (fun z2 e3 e0 => ?_)
      refine c_callv X w (c_rec X w (cat_RO _ _ _ _ _ u hu) rfl) (n := 3) (As := [.int a1, .int (getA R (117 + 100 * u) a1), .int 0]) (rest := []) (fX3_hold_met l _ _ _ _ _ _ _ hu _ _ _ _ _ _ e3) gX3_run_X3_hold rfl rfl rfl (by decide +kernel) ⟨Nat.le_of_ble_eq_true rfl, Nat.le_of_ble_eq_true rfl⟩ rfl hl.1 rfl (Nat.le_of_ble_eq_true rfl) dX3_run_47 (fun H locs w => ?_)
      refine lv_iinc (v := (a1 + 1)) (lv' := [(1, .int (a1 + 1)), (0, .ref (q (140 + 100 * u)))]) hx hb dX3_run_50 hl (k := 1) rfl rfl (by decide) rfl (fun ls hl => ?_)
      refine lv_goto (tgt := 24) hx hb dX3_run_53 (by decide) ?_
      exact ih _ _ _ _ _ _ w (lv_sub hl [1, 0] rfl) e0
def fX3_run (n : Nat) (u : Nat) (I : Nat → Int32) (R : Nat → Nat → Int32) : Option (mSt) :=
  fX3_run_b24 n u n 0 (upd I (146 + 100 * u) 0) (flA (flA R (145 + 100 * u) 64 (-9)) (143 + 100 * u) 4 0)
set_option maxRecDepth 20000 in
set_option maxHeartbeats 2000000 in
theorem fX3_run_w {p : Program} {l : Launch} {e : Env} {s : State} {m : MethodId} {args : Array Value} {below : List Frame} {meth : Method} {c : Code} {D : va_G} {y : ClassId} {yS : ClassId × ClassId} {q : Nat → Nat} {n : Nat} {z : mSt} {u : Nat} (hu : u < 2) (X : cX p s m args c cX3_run 4 wsX3_run RX3 D y yS) (hr : meth.sig.returnType = none ∧ meth.locks = false) {I : Nat → Int32} {R : Nat → Nat → Int32} {H : Heap} {locs : List Loc} {ls : Array Slot} (w : cH s D y yS q H locs I R) (hl : lv_has ls 4 [(0, .ref (q (140 + 100 * u)))]) (e0 : fX3_run n u I R = some z) : W p l e rmX3_run s m args below meth c H locs 0 0 (MQ below (cQv D y yS q (cS y yS q s.heap.size) z) args s 0 0 (cS y yS q s.heap.size)) (F0 m 0 ls []) := by
  have hx := X.1.1
  have hb := X.1.2.1
  unfold fX3_run at e0
  refine lv_aload_n hx hb dX3_run_0 rfl (lv_at hl 0 rfl) ?_
  refine c_get X w (cat_RO _ _ _ _ _ u hu) rfl in_X3_run_X3 4 (by decide) (index := 18) rfl (by decide +kernel) (cf_RO_4 _ _ _) dX3_run_1 ?_
  refine lv_bipush (v := (-9)) hx hb dX3_run_4 (by decide) ?_
  refine c_fill X w (cat_a145 _ _ _ _ _ u hu) (cset_a145 _ _ _ _ _ u hu) (Nat.le_of_ble_eq_true rfl) gX3_run_J7_fill_53178 (by decide +kernel) ⟨Nat.le_of_ble_eq_true rfl, Nat.le_of_ble_eq_true rfl⟩ hl.1 (rest := []) (Nat.le_of_ble_eq_true rfl) dX3_run_6 (fun H locs w => ?_)
  refine lv_aload_n hx hb dX3_run_9 rfl (lv_at hl 0 rfl) ?_
  refine c_get X w (cat_RO _ _ _ _ _ u hu) rfl in_X3_run_X3 2 (by decide) (index := 9) rfl (by decide +kernel) (cf_RO_2 _ _ _) dX3_run_10 ?_
  refine lv_iconst (v := 0) hx hb dX3_run_13 (by decide) ?_
  refine c_fill X w (cat_a143 _ _ _ _ _ u hu) (cset_a143 _ _ _ _ _ u hu) (Nat.le_of_ble_eq_true rfl) gX3_run_J7_fill_53178 (by decide +kernel) ⟨Nat.le_of_ble_eq_true rfl, Nat.le_of_ble_eq_true rfl⟩ hl.1 (rest := []) (Nat.le_of_ble_eq_true rfl) dX3_run_14 (fun H locs w => ?_)
  refine lv_aload_n hx hb dX3_run_17 rfl (lv_at hl 0 rfl) ?_
  refine lv_iconst (v := 0) hx hb dX3_run_18 (by decide) ?_
  refine c_put X w (cat_RO _ _ _ _ _ u hu) rfl in_X3_run_X3 tyX3 tyX3_ok nmX3 5 (by decide) (index := 35) (ty := .int) rfl (by decide +kernel) rfl (by decide +kernel) rfl rfl (Nat.le_of_ble_eq_true rfl) (cset_RO_5 _ _ _ _ _ u hu _) dX3_run_19 (fun H locs w => ?_)
  refine lv_iconst (v := 0) hx hb dX3_run_22 (by decide) ?_
  refine lv_istore_n (lv' := [(1, .int 0), (0, .ref (q (140 + 100 * u)))]) hx hb dX3_run_23 rfl hl (by decide) rfl (fun ls hl => ?_)
  exact fX3_run_b24_w (l := l) hu X hr n _ _ _ _ _ _ w (lv_sub hl [1, 0] rfl) e0
set_option maxRecDepth 20000 in
theorem fX3_run_met (l : Launch) (D : va_G) (y : ClassId) (yS : ClassId × ClassId) (q : Nat → Nat) (sz n : Nat) (u : Nat) (hu : u < 2) (I : Nat → Int32) (R : Nat → Nat → Int32) (z : mSt) (e0 : fX3_run n u I R = some z) : Met l yX3_run wsX3_run rmX3_run (va_Pc [.ref (q (140 + 100 * u))] (cPre D y yS q sz I R)) (cQv D y yS q (cS y yS q sz) z) 0 0 (cS y yS q sz) := by
  refine Met.ofW (cc := cX3_run) (maxL := 4) (ret := none) (by decide) rfl ?_
  intro p e s m args below meth c s₁ B hml hv
  obtain ⟨rfl, hsz, hP, hK, hN, hD⟩ := hv
  subst hsz
  have hl := lv_entry ([.ref (q (140 + 100 * u))]) (n := 4) (Nat.le_of_ble_eq_true rfl)
  rw [lg_entry_eq]
  exact fX3_run_w (s := s) hu ⟨⟨B.exec, B.bytes, hml, findClass_of_methodNamed B.named, atoms_spec (ws := wsX3_run) B.pre⟩, hK, hN⟩ ⟨B.returns, B.notSynchronized⟩ ⟨hP, cS_D hD, va_S.rf⟩ hl e0
theorem in_X3_held_X3 : ∀ w ∈ wsX30, w ∈ wsX3_held := fun _ h9 => List.mem_cons_of_mem _ (List.mem_append_right _ h9)
def rmX3_held : Room := { frames := 1, cells := 0, slots := 0, locals := 20 }
def fX3_held_b4 (n : Nat) (u : Nat) : Nat → Int32 → Int32 → (Nat → Int32) → (Nat → Nat → Int32) → Option (Int32 × mSt)
  | 0, _, _, _, _ => none
  | j + 1, a1, a2, I, R =>
    if 4 ≤ a2 then
      some (a1, I, R)
    else
      if inb a2 4 = true then
      (fJ6_bitCount_0f7a4 n (getA R (143 + 100 * u) a2)).bind fun z2 =>
      fX3_held_b4 n u j (a1 + z2) (a2 + 1) I R
      else none
set_option maxRecDepth 20000 in
set_option maxHeartbeats 2000000 in
theorem fX3_held_b4_w {p : Program} {l : Launch} {e : Env} {s : State} {m : MethodId} {args : Array Value} {below : List Frame} {meth : Method} {c : Code} {D : va_G} {y : ClassId} {yS : ClassId × ClassId} {q : Nat → Nat} {n : Nat} {z : Int32 × mSt} {u : Nat} (hu : u < 2) (X : cX p s m args c cX3_held 3 wsX3_held RX3 D y yS) (hr : meth.sig.returnType = some .int ∧ meth.locks = false) : ∀ (j : Nat) (a1 : Int32) (a2 : Int32) (I : Nat → Int32) (R : Nat → Nat → Int32) (H : Heap) (locs : List Loc) (ls : Array Slot), cH s D y yS q H locs I R → lv_has ls 3 [(0, .ref (q (140 + 100 * u))), (1, .int a1), (2, .int a2)] → fX3_held_b4 n u j a1 a2 I R = some z → W p l e rmX3_held s m args below meth c H locs 0 0 (MQ below (cQi D y yS q (cS y yS q s.heap.size) z) args s 0 0 (cS y yS q s.heap.size)) (F0 m 4 ls []) := by
  have hx := X.1.1
  have hb := X.1.2.1
  intro j
  induction j with
  | zero =>
    intro a1 a2 I R H locs ls w hl e0
    cases e0
  | succ j ih =>
    intro a1 a2 I R H locs ls w hl e0
    rw [fX3_held_b4] at e0
    refine lv_iload_n hx hb dX3_held_4 rfl (lv_at hl 2 rfl) ?_
    refine lv_iconst (v := 4) hx hb dX3_held_5 (by decide) ?_
    refine lv_icmp_ge (tgt := 27) hx hb dX3_held_6 (by decide) (fun c4 => ?_) (fun c4 => ?_)
    · have e0 := itp _ c4 e0
      refine lv_iload_n hx hb dX3_held_27 rfl (lv_at hl 1 rfl) ?_
      have e0 := Option.some.inj e0
      subst e0
      exact c_iret X w hr dX3_held_28
    · have e0 := itn _ c4 e0
      refine lv_iload_n hx hb dX3_held_9 rfl (lv_at hl 1 rfl) ?_
      refine lv_aload_n hx hb dX3_held_10 rfl (lv_at hl 0 rfl) ?_
      refine c_get X w (cat_RO _ _ _ _ _ u hu) rfl in_X3_held_X3 2 (by decide) (index := 9) rfl (by decide +kernel) (cf_RO_2 _ _ _) dX3_held_11 ?_
      refine lv_iload_n hx hb dX3_held_14 rfl (lv_at hl 2 rfl) ?_
      refine gd e0 (fun g1 e0 => ?_)
      refine c_ald X w (cat_a143 _ _ _ _ _ u hu) g1 dX3_held_15 ?_
      refine bd e0 (fun z2 e3 e0 => ?_)
      refine c_callsi X w (n := 1) (As := [.int (getA R (143 + 100 * u) a2)]) (rest := [.int a1]) (fJ6_bitCount_0f7a4_met l _ _ _ e3) gX3_held_J6_bitCount_0f7a4 rfl rfl rfl (by decide +kernel) ⟨Nat.le_of_ble_eq_true rfl, Nat.le_of_ble_eq_true rfl⟩ rfl hl.1 rfl (Nat.le_of_ble_eq_true rfl) dX3_held_16 (fun H locs w => ?_)
      refine lv_iadd hx hb dX3_held_19 ?_
      refine lv_istore_n (lv' := [(1, .int (a1 + z2)), (0, .ref (q (140 + 100 * u))), (2, .int a2)]) hx hb dX3_held_20 rfl hl (by decide) rfl (fun ls hl => ?_)
      refine lv_iinc (v := (a2 + 1)) (lv' := [(2, .int (a2 + 1)), (1, .int (a1 + z2)), (0, .ref (q (140 + 100 * u)))]) hx hb dX3_held_21 hl (k := 2) rfl rfl (by decide) rfl (fun ls hl => ?_)
      refine lv_goto (tgt := 4) hx hb dX3_held_24 (by decide) ?_
      exact ih _ _ _ _ _ _ _ w (lv_sub hl [2, 1, 0] rfl) e0
def fX3_held (n : Nat) (u : Nat) (I : Nat → Int32) (R : Nat → Nat → Int32) : Option (Int32 × mSt) :=
  fX3_held_b4 n u n 0 0 I R
set_option maxRecDepth 20000 in
set_option maxHeartbeats 2000000 in
theorem fX3_held_w {p : Program} {l : Launch} {e : Env} {s : State} {m : MethodId} {args : Array Value} {below : List Frame} {meth : Method} {c : Code} {D : va_G} {y : ClassId} {yS : ClassId × ClassId} {q : Nat → Nat} {n : Nat} {z : Int32 × mSt} {u : Nat} (hu : u < 2) (X : cX p s m args c cX3_held 3 wsX3_held RX3 D y yS) (hr : meth.sig.returnType = some .int ∧ meth.locks = false) {I : Nat → Int32} {R : Nat → Nat → Int32} {H : Heap} {locs : List Loc} {ls : Array Slot} (w : cH s D y yS q H locs I R) (hl : lv_has ls 3 [(0, .ref (q (140 + 100 * u)))]) (e0 : fX3_held n u I R = some z) : W p l e rmX3_held s m args below meth c H locs 0 0 (MQ below (cQi D y yS q (cS y yS q s.heap.size) z) args s 0 0 (cS y yS q s.heap.size)) (F0 m 0 ls []) := by
  have hx := X.1.1
  have hb := X.1.2.1
  unfold fX3_held at e0
  refine lv_iconst (v := 0) hx hb dX3_held_0 (by decide) ?_
  refine lv_istore_n (lv' := [(1, .int 0), (0, .ref (q (140 + 100 * u)))]) hx hb dX3_held_1 rfl hl (by decide) rfl (fun ls hl => ?_)
  refine lv_iconst (v := 0) hx hb dX3_held_2 (by decide) ?_
  refine lv_istore_n (lv' := [(2, .int 0), (1, .int 0), (0, .ref (q (140 + 100 * u)))]) hx hb dX3_held_3 rfl hl (by decide) rfl (fun ls hl => ?_)
  exact fX3_held_b4_w (l := l) hu X hr n _ _ _ _ _ _ _ w (lv_sub hl [2, 1, 0] rfl) e0
set_option maxRecDepth 20000 in
theorem fX3_held_met (l : Launch) (D : va_G) (y : ClassId) (yS : ClassId × ClassId) (q : Nat → Nat) (sz n : Nat) (u : Nat) (hu : u < 2) (I : Nat → Int32) (R : Nat → Nat → Int32) (z : Int32 × mSt) (e0 : fX3_held n u I R = some z) : Met l yX3_held wsX3_held rmX3_held (va_Pc [.ref (q (140 + 100 * u))] (cPre D y yS q sz I R)) (cQi D y yS q (cS y yS q sz) z) 0 0 (cS y yS q sz) := by
  refine Met.ofW (cc := cX3_held) (maxL := 3) (ret := some .int) (by decide) rfl ?_
  intro p e s m args below meth c s₁ B hml hv
  obtain ⟨rfl, hsz, hP, hK, hN, hD⟩ := hv
  subst hsz
  have hl := lv_entry ([.ref (q (140 + 100 * u))]) (n := 3) (Nat.le_of_ble_eq_true rfl)
  rw [lg_entry_eq]
  exact fX3_held_w (s := s) hu ⟨⟨B.exec, B.bytes, hml, findClass_of_methodNamed B.named, atoms_spec (ws := wsX3_held) B.pre⟩, hK, hN⟩ ⟨B.returns, B.notSynchronized⟩ ⟨hP, cS_D hD, va_S.rf⟩ hl e0
theorem in_X3_bornAt_X3 : ∀ w ∈ wsX30, w ∈ wsX3_bornAt := fun _ h9 => List.mem_cons_of_mem _ (List.mem_append_right _ h9)
def rmX3_bornAt : Room := { frames := 0, cells := 0, slots := 0, locals := 0 }
def fX3_bornAt_b23 (n : Nat) (u : Nat) (k4 : Int32 → Int32 → Int32 → (Nat → Int32) → (Nat → Nat → Int32) → Option (Int32 × mSt)) (a1 : Int32) (a2 : Int32) (a3 : Int32) (I : Nat → Int32) (R : Nat → Nat → Int32) : Option (Int32 × mSt) :=
  k4 a1 a2 (a3 + 1) I R
set_option maxRecDepth 20000 in
set_option maxHeartbeats 2000000 in
theorem fX3_bornAt_b23_w {p : Program} {l : Launch} {e : Env} {s : State} {m : MethodId} {args : Array Value} {below : List Frame} {meth : Method} {c : Code} {D : va_G} {y : ClassId} {yS : ClassId × ClassId} {q : Nat → Nat} {n : Nat} {z : Int32 × mSt} {u : Nat} (hu : u < 2) (X : cX p s m args c cX3_bornAt 4 wsX3_bornAt RX3 D y yS) (hr : meth.sig.returnType = some .int ∧ meth.locks = false) {k4 : Int32 → Int32 → Int32 → (Nat → Int32) → (Nat → Nat → Int32) → Option (Int32 × mSt)} (hk4 : ∀ (a1 : Int32) (a2 : Int32) (a3 : Int32) (I : Nat → Int32) (R : Nat → Nat → Int32) (H : Heap) (locs : List Loc) (ls : Array Slot), cH s D y yS q H locs I R → lv_has ls 4 [(0, .ref (q (140 + 100 * u))), (1, .int a1), (2, .int a2), (3, .int a3)] → k4 a1 a2 a3 I R = some z → W p l e rmX3_bornAt s m args below meth c H locs 0 0 (MQ below (cQi D y yS q (cS y yS q s.heap.size) z) args s 0 0 (cS y yS q s.heap.size)) (F0 m 4 ls [])) {a1 : Int32} {a2 : Int32} {a3 : Int32} {I : Nat → Int32} {R : Nat → Nat → Int32} {H : Heap} {locs : List Loc} {ls : Array Slot} (w : cH s D y yS q H locs I R) (hl : lv_has ls 4 [(0, .ref (q (140 + 100 * u))), (1, .int a1), (2, .int a2), (3, .int a3)]) (e0 : fX3_bornAt_b23 n u k4 a1 a2 a3 I R = some z) : W p l e rmX3_bornAt s m args below meth c H locs 0 0 (MQ below (cQi D y yS q (cS y yS q s.heap.size) z) args s 0 0 (cS y yS q s.heap.size)) (F0 m 23 ls []) := by
  have hx := X.1.1
  have hb := X.1.2.1
  unfold fX3_bornAt_b23 at e0
  refine lv_iinc (v := (a3 + 1)) (lv' := [(3, .int (a3 + 1)), (0, .ref (q (140 + 100 * u))), (1, .int a1), (2, .int a2)]) hx hb dX3_bornAt_23 hl (k := 3) rfl rfl (by decide) rfl (fun ls hl => ?_)
  refine lv_goto (tgt := 4) hx hb dX3_bornAt_26 (by decide) ?_
  exact hk4 _ _ _ _ _ _ _ _ w (lv_sub hl [1, 2, 3, 0] rfl) e0
def fX3_bornAt_b4 (n : Nat) (u : Nat) : Nat → Int32 → Int32 → Int32 → (Nat → Int32) → (Nat → Nat → Int32) → Option (Int32 × mSt)
  | 0, _, _, _, _, _ => none
  | j + 1, a1, a2, a3, I, R =>
    if 64 ≤ a3 then
      some (a2, I, R)
    else
      if inb a3 64 = true then
      if (getA R (145 + 100 * u) a3) = a1 then
        fX3_bornAt_b23 n u (fX3_bornAt_b4 n u j) a1 (a2 + 1) a3 I R
      else
        fX3_bornAt_b23 n u (fX3_bornAt_b4 n u j) a1 a2 a3 I R
      else none
set_option maxRecDepth 20000 in
set_option maxHeartbeats 2000000 in
theorem fX3_bornAt_b4_w {p : Program} {l : Launch} {e : Env} {s : State} {m : MethodId} {args : Array Value} {below : List Frame} {meth : Method} {c : Code} {D : va_G} {y : ClassId} {yS : ClassId × ClassId} {q : Nat → Nat} {n : Nat} {z : Int32 × mSt} {u : Nat} (hu : u < 2) (X : cX p s m args c cX3_bornAt 4 wsX3_bornAt RX3 D y yS) (hr : meth.sig.returnType = some .int ∧ meth.locks = false) : ∀ (j : Nat) (a1 : Int32) (a2 : Int32) (a3 : Int32) (I : Nat → Int32) (R : Nat → Nat → Int32) (H : Heap) (locs : List Loc) (ls : Array Slot), cH s D y yS q H locs I R → lv_has ls 4 [(0, .ref (q (140 + 100 * u))), (1, .int a1), (2, .int a2), (3, .int a3)] → fX3_bornAt_b4 n u j a1 a2 a3 I R = some z → W p l e rmX3_bornAt s m args below meth c H locs 0 0 (MQ below (cQi D y yS q (cS y yS q s.heap.size) z) args s 0 0 (cS y yS q s.heap.size)) (F0 m 4 ls []) := by
  have hx := X.1.1
  have hb := X.1.2.1
  intro j
  induction j with
  | zero =>
    intro a1 a2 a3 I R H locs ls w hl e0
    cases e0
  | succ j ih =>
    intro a1 a2 a3 I R H locs ls w hl e0
    rw [fX3_bornAt_b4] at e0
    refine lv_iload_n hx hb dX3_bornAt_4 rfl (lv_at hl 3 rfl) ?_
    refine lv_bipush (v := 64) hx hb dX3_bornAt_5 (by decide) ?_
    refine lv_icmp_ge (tgt := 29) hx hb dX3_bornAt_7 (by decide) (fun c3 => ?_) (fun c3 => ?_)
    · have e0 := itp _ c3 e0
      refine lv_iload_n hx hb dX3_bornAt_29 rfl (lv_at hl 2 rfl) ?_
      have e0 := Option.some.inj e0
      subst e0
      exact c_iret X w hr dX3_bornAt_30
    · have e0 := itn _ c3 e0
      refine lv_aload_n hx hb dX3_bornAt_10 rfl (lv_at hl 0 rfl) ?_
      refine c_get X w (cat_RO _ _ _ _ _ u hu) rfl in_X3_bornAt_X3 4 (by decide) (index := 18) rfl (by decide +kernel) (cf_RO_4 _ _ _) dX3_bornAt_11 ?_
      refine lv_iload_n hx hb dX3_bornAt_14 rfl (lv_at hl 3 rfl) ?_
      refine gd e0 (fun g1 e0 => ?_)
      refine c_ald X w (cat_a145 _ _ _ _ _ u hu) g1 dX3_bornAt_15 ?_
      refine lv_iload_n hx hb dX3_bornAt_16 rfl (lv_at hl 1 rfl) ?_
      refine lv_icmp_ne (tgt := 23) hx hb dX3_bornAt_17 (by decide) (fun c2 => ?_) (fun c2 => ?_)
      · have e0 := itn _ c2 e0
        exact fX3_bornAt_b23_w (l := l) hu X hr ih w (lv_sub hl [0, 1, 2, 3] rfl) e0
      · have e0 := itp _ c2 e0
        refine lv_iinc (v := (a2 + 1)) (lv' := [(2, .int (a2 + 1)), (0, .ref (q (140 + 100 * u))), (1, .int a1), (3, .int a3)]) hx hb dX3_bornAt_20 hl (k := 2) rfl rfl (by decide) rfl (fun ls hl => ?_)
        exact fX3_bornAt_b23_w (l := l) hu X hr ih w (lv_sub hl [1, 2, 0, 3] rfl) e0
def fX3_bornAt (n : Nat) (u : Nat) (a1 : Int32) (I : Nat → Int32) (R : Nat → Nat → Int32) : Option (Int32 × mSt) :=
  fX3_bornAt_b4 n u n a1 0 0 I R
set_option maxRecDepth 20000 in
set_option maxHeartbeats 2000000 in
theorem fX3_bornAt_w {p : Program} {l : Launch} {e : Env} {s : State} {m : MethodId} {args : Array Value} {below : List Frame} {meth : Method} {c : Code} {D : va_G} {y : ClassId} {yS : ClassId × ClassId} {q : Nat → Nat} {n : Nat} {z : Int32 × mSt} {u : Nat} (hu : u < 2) (X : cX p s m args c cX3_bornAt 4 wsX3_bornAt RX3 D y yS) (hr : meth.sig.returnType = some .int ∧ meth.locks = false) {a1 : Int32} {I : Nat → Int32} {R : Nat → Nat → Int32} {H : Heap} {locs : List Loc} {ls : Array Slot} (w : cH s D y yS q H locs I R) (hl : lv_has ls 4 [(0, .ref (q (140 + 100 * u))), (1, .int a1)]) (e0 : fX3_bornAt n u a1 I R = some z) : W p l e rmX3_bornAt s m args below meth c H locs 0 0 (MQ below (cQi D y yS q (cS y yS q s.heap.size) z) args s 0 0 (cS y yS q s.heap.size)) (F0 m 0 ls []) := by
  have hx := X.1.1
  have hb := X.1.2.1
  unfold fX3_bornAt at e0
  refine lv_iconst (v := 0) hx hb dX3_bornAt_0 (by decide) ?_
  refine lv_istore_n (lv' := [(2, .int 0), (0, .ref (q (140 + 100 * u))), (1, .int a1)]) hx hb dX3_bornAt_1 rfl hl (by decide) rfl (fun ls hl => ?_)
  refine lv_iconst (v := 0) hx hb dX3_bornAt_2 (by decide) ?_
  refine lv_istore_n (lv' := [(3, .int 0), (2, .int 0), (0, .ref (q (140 + 100 * u))), (1, .int a1)]) hx hb dX3_bornAt_3 rfl hl (by decide) rfl (fun ls hl => ?_)
  exact fX3_bornAt_b4_w (l := l) hu X hr n _ _ _ _ _ _ _ _ w (lv_sub hl [2, 3, 1, 0] rfl) e0
set_option maxRecDepth 20000 in
theorem fX3_bornAt_met (l : Launch) (D : va_G) (y : ClassId) (yS : ClassId × ClassId) (q : Nat → Nat) (sz n : Nat) (u : Nat) (hu : u < 2) (a1 : Int32) (I : Nat → Int32) (R : Nat → Nat → Int32) (z : Int32 × mSt) (e0 : fX3_bornAt n u a1 I R = some z) : Met l yX3_bornAt wsX3_bornAt rmX3_bornAt (va_Pc [.ref (q (140 + 100 * u)), .int a1] (cPre D y yS q sz I R)) (cQi D y yS q (cS y yS q sz) z) 0 0 (cS y yS q sz) := by
  refine Met.ofW (cc := cX3_bornAt) (maxL := 4) (ret := some .int) (by decide) rfl ?_
  intro p e s m args below meth c s₁ B hml hv
  obtain ⟨rfl, hsz, hP, hK, hN, hD⟩ := hv
  subst hsz
  have hl := lv_entry ([.ref (q (140 + 100 * u)), .int a1]) (n := 4) (Nat.le_of_ble_eq_true rfl)
  rw [lg_entry_eq]
  exact fX3_bornAt_w (s := s) hu ⟨⟨B.exec, B.bytes, hml, findClass_of_methodNamed B.named, atoms_spec (ws := wsX3_bornAt) B.pre⟩, hK, hN⟩ ⟨B.returns, B.notSynchronized⟩ ⟨hP, cS_D hD, va_S.rf⟩ hl e0
theorem in_X4_renew_X4 : ∀ w ∈ wsX40, w ∈ wsX4_renew := fun _ h9 => List.mem_cons_of_mem _ (List.mem_append_right _ h9)
def rmX4_renew : Room := { frames := 1, cells := 0, slots := 0, locals := 23 }
def fX4_renew (n : Nat) (u : Nat) (a1 : Int32) (a2 : Int32) (I : Nat → Int32) (R : Nat → Nat → Int32) : Option (mSt) :=
  some ((upd (upd (upd I (1002 + 10 * u) 1) (1003 + 10 * u) a1) (1004 + 10 * u) a2), (flA R (1001 + 10 * u) 60 0))
set_option maxRecDepth 20000 in
set_option maxHeartbeats 2000000 in
theorem fX4_renew_w {p : Program} {l : Launch} {e : Env} {s : State} {m : MethodId} {args : Array Value} {below : List Frame} {meth : Method} {c : Code} {D : va_G} {y : ClassId} {yS : ClassId × ClassId} {q : Nat → Nat} {n : Nat} {z : mSt} {u : Nat} (hu : u < 4) (X : cX p s m args c cX4_renew 3 wsX4_renew RX4 D y yS) (hr : meth.sig.returnType = none ∧ meth.locks = false) {a1 : Int32} {a2 : Int32} {I : Nat → Int32} {R : Nat → Nat → Int32} {H : Heap} {locs : List Loc} {ls : Array Slot} (w : cH s D y yS q H locs I R) (hl : lv_has ls 3 [(0, .ref (q (1000 + 10 * u))), (1, .int a1), (2, .int a2)]) (e0 : fX4_renew n u a1 a2 I R = some z) : W p l e rmX4_renew s m args below meth c H locs 0 0 (MQ below (cQv D y yS q (cS y yS q s.heap.size) z) args s 0 0 (cS y yS q s.heap.size)) (F0 m 0 ls []) := by
  have hx := X.1.1
  have hb := X.1.2.1
  unfold fX4_renew at e0
  refine lv_aload_n hx hb dX4_renew_0 rfl (lv_at hl 0 rfl) ?_
  refine c_get X w (cat_SH _ _ _ _ _ u hu) rfl in_X4_renew_X4 0 (by decide) (index := 9) rfl (by decide +kernel) (cf_SH_0 _ _ _) dX4_renew_1 ?_
  refine lv_iconst (v := 0) hx hb dX4_renew_4 (by decide) ?_
  refine c_fill X w (cat_a1001 _ _ _ _ _ u hu) (cset_a1001 _ _ _ _ _ u hu) (Nat.le_of_ble_eq_true rfl) gX4_renew_J7_fill_53178 (by decide +kernel) ⟨Nat.le_of_ble_eq_true rfl, Nat.le_of_ble_eq_true rfl⟩ hl.1 (rest := []) (Nat.le_of_ble_eq_true rfl) dX4_renew_5 (fun H locs w => ?_)
  refine lv_aload_n hx hb dX4_renew_8 rfl (lv_at hl 0 rfl) ?_
  refine lv_iconst (v := 1) hx hb dX4_renew_9 (by decide) ?_
  refine c_put X w (cat_SH _ _ _ _ _ u hu) rfl in_X4_renew_X4 tyX4 tyX4_ok nmX4 1 (by decide) (index := 21) (ty := .boolean) rfl (by decide +kernel) rfl (by decide +kernel) rfl rfl (Nat.le_of_ble_eq_true rfl) (cset_SH_1 _ _ _ _ _ u hu _) dX4_renew_10 (fun H locs w => ?_)
  refine lv_aload_n hx hb dX4_renew_13 rfl (lv_at hl 0 rfl) ?_
  refine lv_iload_n hx hb dX4_renew_14 rfl (lv_at hl 1 rfl) ?_
  refine c_put X w (cat_SH _ _ _ _ _ u hu) rfl in_X4_renew_X4 tyX4 tyX4_ok nmX4 2 (by decide) (index := 25) (ty := .int) rfl (by decide +kernel) rfl (by decide +kernel) rfl rfl (Nat.le_of_ble_eq_true rfl) (cset_SH_2 _ _ _ _ _ u hu _) dX4_renew_15 (fun H locs w => ?_)
  refine lv_aload_n hx hb dX4_renew_18 rfl (lv_at hl 0 rfl) ?_
  refine lv_iload_n hx hb dX4_renew_19 rfl (lv_at hl 2 rfl) ?_
  refine c_put X w (cat_SH _ _ _ _ _ u hu) rfl in_X4_renew_X4 tyX4 tyX4_ok nmX4 3 (by decide) (index := 29) (ty := .int) rfl (by decide +kernel) rfl (by decide +kernel) rfl rfl (Nat.le_of_ble_eq_true rfl) (cset_SH_3 _ _ _ _ _ u hu _) dX4_renew_20 (fun H locs w => ?_)
  have e0 := Option.some.inj e0
  subst e0
  exact c_vret X w hr dX4_renew_23
set_option maxRecDepth 20000 in
theorem fX4_renew_met (l : Launch) (D : va_G) (y : ClassId) (yS : ClassId × ClassId) (q : Nat → Nat) (sz n : Nat) (u : Nat) (hu : u < 4) (a1 : Int32) (a2 : Int32) (I : Nat → Int32) (R : Nat → Nat → Int32) (z : mSt) (e0 : fX4_renew n u a1 a2 I R = some z) : Met l yX4_renew wsX4_renew rmX4_renew (va_Pc [.ref (q (1000 + 10 * u)), .int a1, .int a2] (cPre D y yS q sz I R)) (cQv D y yS q (cS y yS q sz) z) 0 0 (cS y yS q sz) := by
  refine Met.ofW (cc := cX4_renew) (maxL := 3) (ret := none) (by decide) rfl ?_
  intro p e s m args below meth c s₁ B hml hv
  obtain ⟨rfl, hsz, hP, hK, hN, hD⟩ := hv
  subst hsz
  have hl := lv_entry ([.ref (q (1000 + 10 * u)), .int a1, .int a2]) (n := 3) (Nat.le_of_ble_eq_true rfl)
  rw [lg_entry_eq]
  exact fX4_renew_w (s := s) hu ⟨⟨B.exec, B.bytes, hml, findClass_of_methodNamed B.named, atoms_spec (ws := wsX4_renew) B.pre⟩, hK, hN⟩ ⟨B.returns, B.notSynchronized⟩ ⟨hP, cS_D hD, va_S.rf⟩ hl e0
theorem in_X4_clear_X4 : ∀ w ∈ wsX40, w ∈ wsX4_clear := fun _ h9 => List.mem_cons_of_mem _ (List.mem_append_right _ h9)
def rmX4_clear : Room := { frames := 0, cells := 0, slots := 0, locals := 0 }
def fX4_clear (n : Nat) (u : Nat) (I : Nat → Int32) (R : Nat → Nat → Int32) : Option (Int32 × mSt) :=
  if isB (I (1002 + 10 * u)) = true then
  some ((I (1002 + 10 * u)), (upd (upd I (1002 + 10 * u) 0) (1004 + 10 * u) 0), R)
  else none
set_option maxRecDepth 20000 in
set_option maxHeartbeats 2000000 in
theorem fX4_clear_w {p : Program} {l : Launch} {e : Env} {s : State} {m : MethodId} {args : Array Value} {below : List Frame} {meth : Method} {c : Code} {D : va_G} {y : ClassId} {yS : ClassId × ClassId} {q : Nat → Nat} {n : Nat} {z : Int32 × mSt} {u : Nat} (hu : u < 4) (X : cX p s m args c cX4_clear 2 wsX4_clear RX4 D y yS) (hr : meth.sig.returnType = some .boolean ∧ meth.locks = false) {I : Nat → Int32} {R : Nat → Nat → Int32} {H : Heap} {locs : List Loc} {ls : Array Slot} (w : cH s D y yS q H locs I R) (hl : lv_has ls 2 [(0, .ref (q (1000 + 10 * u)))]) (e0 : fX4_clear n u I R = some z) : W p l e rmX4_clear s m args below meth c H locs 0 0 (MQ below (cQi D y yS q (cS y yS q s.heap.size) z) args s 0 0 (cS y yS q s.heap.size)) (F0 m 0 ls []) := by
  have hx := X.1.1
  have hb := X.1.2.1
  unfold fX4_clear at e0
  refine lv_aload_n hx hb dX4_clear_0 rfl (lv_at hl 0 rfl) ?_
  refine c_get X w (cat_SH _ _ _ _ _ u hu) rfl in_X4_clear_X4 1 (by decide) (index := 21) rfl (by decide +kernel) (cf_SH_1 _ _ _) dX4_clear_1 ?_
  refine lv_istore_n (lv' := [(1, .int (I (1002 + 10 * u))), (0, .ref (q (1000 + 10 * u)))]) hx hb dX4_clear_4 rfl hl (by decide) rfl (fun ls hl => ?_)
  refine lv_aload_n hx hb dX4_clear_5 rfl (lv_at hl 1 rfl) ?_
  refine lv_iconst (v := 0) hx hb dX4_clear_6 (by decide) ?_
  refine c_put X w (cat_SH _ _ _ _ _ u hu) rfl in_X4_clear_X4 tyX4 tyX4_ok nmX4 1 (by decide) (index := 21) (ty := .boolean) rfl (by decide +kernel) rfl (by decide +kernel) rfl rfl (Nat.le_of_ble_eq_true rfl) (cset_SH_1 _ _ _ _ _ u hu _) dX4_clear_7 (fun H locs w => ?_)
  refine lv_aload_n hx hb dX4_clear_10 rfl (lv_at hl 1 rfl) ?_
  refine lv_iconst (v := 0) hx hb dX4_clear_11 (by decide) ?_
  refine c_put X w (cat_SH _ _ _ _ _ u hu) rfl in_X4_clear_X4 tyX4 tyX4_ok nmX4 3 (by decide) (index := 29) (ty := .int) rfl (by decide +kernel) rfl (by decide +kernel) rfl rfl (Nat.le_of_ble_eq_true rfl) (cset_SH_3 _ _ _ _ _ u hu _) dX4_clear_12 (fun H locs w => ?_)
  refine lv_iload_n hx hb dX4_clear_15 rfl (lv_at hl 0 rfl) ?_
  refine gd e0 (fun g1 e0 => ?_)
  have e0 := Option.some.inj e0
  subst e0
  exact c_zret X w hr g1 dX4_clear_16
set_option maxRecDepth 20000 in
theorem fX4_clear_met (l : Launch) (D : va_G) (y : ClassId) (yS : ClassId × ClassId) (q : Nat → Nat) (sz n : Nat) (u : Nat) (hu : u < 4) (I : Nat → Int32) (R : Nat → Nat → Int32) (z : Int32 × mSt) (e0 : fX4_clear n u I R = some z) : Met l yX4_clear wsX4_clear rmX4_clear (va_Pc [.ref (q (1000 + 10 * u))] (cPre D y yS q sz I R)) (cQi D y yS q (cS y yS q sz) z) 0 0 (cS y yS q sz) := by
  refine Met.ofW (cc := cX4_clear) (maxL := 2) (ret := some .boolean) (by decide) rfl ?_
  intro p e s m args below meth c s₁ B hml hv
  obtain ⟨rfl, hsz, hP, hK, hN, hD⟩ := hv
  subst hsz
  have hl := lv_entry ([.ref (q (1000 + 10 * u))]) (n := 2) (Nat.le_of_ble_eq_true rfl)
  rw [lg_entry_eq]
  exact fX4_clear_w (s := s) hu ⟨⟨B.exec, B.bytes, hml, findClass_of_methodNamed B.named, atoms_spec (ws := wsX4_clear) B.pre⟩, hK, hN⟩ ⟨B.returns, B.notSynchronized⟩ ⟨hP, cS_D hD, va_S.rf⟩ hl e0
theorem in_X4_faultAs_X4 : ∀ w ∈ wsX40, w ∈ wsX4_faultAs := fun _ h9 => List.mem_cons_of_mem _ (List.mem_append_right _ h9)
def rmX4_faultAs : Room := { frames := 0, cells := 0, slots := 0, locals := 0 }
def fX4_faultAs (n : Nat) (u : Nat) (a1 : Int32) (I : Nat → Int32) (R : Nat → Nat → Int32) : Option (Int32 × mSt) :=
  if (I (1002 + 10 * u)) = 0 then
    some (1, I, R)
  else
    if (I (1003 + 10 * u)) = a1 then
      some (0, I, R)
    else
      some (2, I, R)
set_option maxRecDepth 20000 in
set_option maxHeartbeats 2000000 in
theorem fX4_faultAs_w {p : Program} {l : Launch} {e : Env} {s : State} {m : MethodId} {args : Array Value} {below : List Frame} {meth : Method} {c : Code} {D : va_G} {y : ClassId} {yS : ClassId × ClassId} {q : Nat → Nat} {n : Nat} {z : Int32 × mSt} {u : Nat} (hu : u < 4) (X : cX p s m args c cX4_faultAs 2 wsX4_faultAs RX4 D y yS) (hr : meth.sig.returnType = some .int ∧ meth.locks = false) {a1 : Int32} {I : Nat → Int32} {R : Nat → Nat → Int32} {H : Heap} {locs : List Loc} {ls : Array Slot} (w : cH s D y yS q H locs I R) (hl : lv_has ls 2 [(0, .ref (q (1000 + 10 * u))), (1, .int a1)]) (e0 : fX4_faultAs n u a1 I R = some z) : W p l e rmX4_faultAs s m args below meth c H locs 0 0 (MQ below (cQi D y yS q (cS y yS q s.heap.size) z) args s 0 0 (cS y yS q s.heap.size)) (F0 m 0 ls []) := by
  have hx := X.1.1
  have hb := X.1.2.1
  unfold fX4_faultAs at e0
  refine lv_aload_n hx hb dX4_faultAs_0 rfl (lv_at hl 0 rfl) ?_
  refine c_get X w (cat_SH _ _ _ _ _ u hu) rfl in_X4_faultAs_X4 1 (by decide) (index := 21) rfl (by decide +kernel) (cf_SH_1 _ _ _) dX4_faultAs_1 ?_
  refine lv_if_ne (tgt := 9) hx hb dX4_faultAs_4 (by decide) (fun c2 => ?_) (fun c2 => ?_)
  · have e0 := itn _ c2 e0
    refine lv_aload_n hx hb dX4_faultAs_9 rfl (lv_at hl 0 rfl) ?_
    refine c_get X w (cat_SH _ _ _ _ _ u hu) rfl in_X4_faultAs_X4 2 (by decide) (index := 25) rfl (by decide +kernel) (cf_SH_2 _ _ _) dX4_faultAs_10 ?_
    refine lv_iload_n hx hb dX4_faultAs_13 rfl (lv_at hl 1 rfl) ?_
    refine lv_icmp_ne (tgt := 21) hx hb dX4_faultAs_14 (by decide) (fun c1 => ?_) (fun c1 => ?_)
    · have e0 := itn _ c1 e0
      refine lv_iconst (v := 2) hx hb dX4_faultAs_21 (by decide) ?_
      have e0 := Option.some.inj e0
      subst e0
      exact c_iret X w hr dX4_faultAs_22
    · have e0 := itp _ c1 e0
      refine lv_iconst (v := 0) hx hb dX4_faultAs_17 (by decide) ?_
      refine lv_goto (tgt := 22) hx hb dX4_faultAs_18 (by decide) ?_
      have e0 := Option.some.inj e0
      subst e0
      exact c_iret X w hr dX4_faultAs_22
  · have e0 := itp _ c2 e0
    refine lv_iconst (v := 1) hx hb dX4_faultAs_7 (by decide) ?_
    have e0 := Option.some.inj e0
    subst e0
    exact c_iret X w hr dX4_faultAs_8
set_option maxRecDepth 20000 in
theorem fX4_faultAs_met (l : Launch) (D : va_G) (y : ClassId) (yS : ClassId × ClassId) (q : Nat → Nat) (sz n : Nat) (u : Nat) (hu : u < 4) (a1 : Int32) (I : Nat → Int32) (R : Nat → Nat → Int32) (z : Int32 × mSt) (e0 : fX4_faultAs n u a1 I R = some z) : Met l yX4_faultAs wsX4_faultAs rmX4_faultAs (va_Pc [.ref (q (1000 + 10 * u)), .int a1] (cPre D y yS q sz I R)) (cQi D y yS q (cS y yS q sz) z) 0 0 (cS y yS q sz) := by
  refine Met.ofW (cc := cX4_faultAs) (maxL := 2) (ret := some .int) (by decide) rfl ?_
  intro p e s m args below meth c s₁ B hml hv
  obtain ⟨rfl, hsz, hP, hK, hN, hD⟩ := hv
  subst hsz
  have hl := lv_entry ([.ref (q (1000 + 10 * u)), .int a1]) (n := 2) (Nat.le_of_ble_eq_true rfl)
  rw [lg_entry_eq]
  exact fX4_faultAs_w (s := s) hu ⟨⟨B.exec, B.bytes, hml, findClass_of_methodNamed B.named, atoms_spec (ws := wsX4_faultAs) B.pre⟩, hK, hN⟩ ⟨B.returns, B.notSynchronized⟩ ⟨hP, cS_D hD, va_S.rf⟩ hl e0
theorem in_X4_hasCell_X4 : ∀ w ∈ wsX40, w ∈ wsX4_hasCell := fun _ h9 => List.mem_cons_of_mem _ (List.mem_append_right _ h9)
def rmX4_hasCell : Room := { frames := 0, cells := 0, slots := 0, locals := 0 }
def fX4_hasCell (n : Nat) (u : Nat) (a1 : Int32) (I : Nat → Int32) (R : Nat → Nat → Int32) : Option (Int32 × mSt) :=
  if a1 < 0 then
    some (0, I, R)
  else
    if (I (1004 + 10 * u)) ≤ a1 then
      some (0, I, R)
    else
      some (1, I, R)
set_option maxRecDepth 20000 in
set_option maxHeartbeats 2000000 in
theorem fX4_hasCell_w {p : Program} {l : Launch} {e : Env} {s : State} {m : MethodId} {args : Array Value} {below : List Frame} {meth : Method} {c : Code} {D : va_G} {y : ClassId} {yS : ClassId × ClassId} {q : Nat → Nat} {n : Nat} {z : Int32 × mSt} {u : Nat} (hu : u < 4) (X : cX p s m args c cX4_hasCell 2 wsX4_hasCell RX4 D y yS) (hr : meth.sig.returnType = some .boolean ∧ meth.locks = false) {a1 : Int32} {I : Nat → Int32} {R : Nat → Nat → Int32} {H : Heap} {locs : List Loc} {ls : Array Slot} (w : cH s D y yS q H locs I R) (hl : lv_has ls 2 [(0, .ref (q (1000 + 10 * u))), (1, .int a1)]) (e0 : fX4_hasCell n u a1 I R = some z) : W p l e rmX4_hasCell s m args below meth c H locs 0 0 (MQ below (cQi D y yS q (cS y yS q s.heap.size) z) args s 0 0 (cS y yS q s.heap.size)) (F0 m 0 ls []) := by
  have hx := X.1.1
  have hb := X.1.2.1
  unfold fX4_hasCell at e0
  refine lv_iload_n hx hb dX4_hasCell_0 rfl (lv_at hl 1 rfl) ?_
  refine lv_if_lt (tgt := 16) hx hb dX4_hasCell_1 (by decide) (fun c2 => ?_) (fun c2 => ?_)
  · have e0 := itp _ c2 e0
    refine lv_iconst (v := 0) hx hb dX4_hasCell_16 (by decide) ?_
    have e0 := Option.some.inj e0
    subst e0
    exact c_zret X w hr rfl dX4_hasCell_17
  · have e0 := itn _ c2 e0
    refine lv_iload_n hx hb dX4_hasCell_4 rfl (lv_at hl 1 rfl) ?_
    refine lv_aload_n hx hb dX4_hasCell_5 rfl (lv_at hl 0 rfl) ?_
    refine c_get X w (cat_SH _ _ _ _ _ u hu) rfl in_X4_hasCell_X4 3 (by decide) (index := 29) rfl (by decide +kernel) (cf_SH_3 _ _ _) dX4_hasCell_6 ?_
    refine lv_icmp_ge (tgt := 16) hx hb dX4_hasCell_9 (by decide) (fun c1 => ?_) (fun c1 => ?_)
    · have e0 := itp _ c1 e0
      refine lv_iconst (v := 0) hx hb dX4_hasCell_16 (by decide) ?_
      have e0 := Option.some.inj e0
      subst e0
      exact c_zret X w hr rfl dX4_hasCell_17
    · have e0 := itn _ c1 e0
      refine lv_iconst (v := 1) hx hb dX4_hasCell_12 (by decide) ?_
      refine lv_goto (tgt := 17) hx hb dX4_hasCell_13 (by decide) ?_
      have e0 := Option.some.inj e0
      subst e0
      exact c_zret X w hr rfl dX4_hasCell_17
set_option maxRecDepth 20000 in
theorem fX4_hasCell_met (l : Launch) (D : va_G) (y : ClassId) (yS : ClassId × ClassId) (q : Nat → Nat) (sz n : Nat) (u : Nat) (hu : u < 4) (a1 : Int32) (I : Nat → Int32) (R : Nat → Nat → Int32) (z : Int32 × mSt) (e0 : fX4_hasCell n u a1 I R = some z) : Met l yX4_hasCell wsX4_hasCell rmX4_hasCell (va_Pc [.ref (q (1000 + 10 * u)), .int a1] (cPre D y yS q sz I R)) (cQi D y yS q (cS y yS q sz) z) 0 0 (cS y yS q sz) := by
  refine Met.ofW (cc := cX4_hasCell) (maxL := 2) (ret := some .boolean) (by decide) rfl ?_
  intro p e s m args below meth c s₁ B hml hv
  obtain ⟨rfl, hsz, hP, hK, hN, hD⟩ := hv
  subst hsz
  have hl := lv_entry ([.ref (q (1000 + 10 * u)), .int a1]) (n := 2) (Nat.le_of_ble_eq_true rfl)
  rw [lg_entry_eq]
  exact fX4_hasCell_w (s := s) hu ⟨⟨B.exec, B.bytes, hml, findClass_of_methodNamed B.named, atoms_spec (ws := wsX4_hasCell) B.pre⟩, hK, hN⟩ ⟨B.returns, B.notSynchronized⟩ ⟨hP, cS_D hD, va_S.rf⟩ hl e0
theorem in_X4_has_X4 : ∀ w ∈ wsX40, w ∈ wsX4_has := fun _ h9 => List.mem_cons_of_mem _ (List.mem_append_right _ h9)
def rmX4_has : Room := { frames := 0, cells := 0, slots := 0, locals := 0 }
def fX4_has (n : Nat) (u : Nat) (a1 : Int32) (a2 : Int32) (I : Nat → Int32) (R : Nat → Nat → Int32) : Option (Int32 × mSt) :=
  if a1 < 0 then
    some (0, I, R)
  else
    if (I (1004 + 10 * u)) < a1 then
      some (0, I, R)
    else
      if a2 < 0 then
        some (0, I, R)
      else
        if ((I (1004 + 10 * u)) - a1) < a2 then
          some (0, I, R)
        else
          some (1, I, R)
set_option maxRecDepth 20000 in
set_option maxHeartbeats 2000000 in
theorem fX4_has_w {p : Program} {l : Launch} {e : Env} {s : State} {m : MethodId} {args : Array Value} {below : List Frame} {meth : Method} {c : Code} {D : va_G} {y : ClassId} {yS : ClassId × ClassId} {q : Nat → Nat} {n : Nat} {z : Int32 × mSt} {u : Nat} (hu : u < 4) (X : cX p s m args c cX4_has 3 wsX4_has RX4 D y yS) (hr : meth.sig.returnType = some .boolean ∧ meth.locks = false) {a1 : Int32} {a2 : Int32} {I : Nat → Int32} {R : Nat → Nat → Int32} {H : Heap} {locs : List Loc} {ls : Array Slot} (w : cH s D y yS q H locs I R) (hl : lv_has ls 3 [(0, .ref (q (1000 + 10 * u))), (1, .int a1), (2, .int a2)]) (e0 : fX4_has n u a1 a2 I R = some z) : W p l e rmX4_has s m args below meth c H locs 0 0 (MQ below (cQi D y yS q (cS y yS q s.heap.size) z) args s 0 0 (cS y yS q s.heap.size)) (F0 m 0 ls []) := by
  have hx := X.1.1
  have hb := X.1.2.1
  unfold fX4_has at e0
  refine lv_iload_n hx hb dX4_has_0 rfl (lv_at hl 1 rfl) ?_
  refine lv_if_lt (tgt := 30) hx hb dX4_has_1 (by decide) (fun c4 => ?_) (fun c4 => ?_)
  · have e0 := itp _ c4 e0
    refine lv_iconst (v := 0) hx hb dX4_has_30 (by decide) ?_
    have e0 := Option.some.inj e0
    subst e0
    exact c_zret X w hr rfl dX4_has_31
  · have e0 := itn _ c4 e0
    refine lv_iload_n hx hb dX4_has_4 rfl (lv_at hl 1 rfl) ?_
    refine lv_aload_n hx hb dX4_has_5 rfl (lv_at hl 0 rfl) ?_
    refine c_get X w (cat_SH _ _ _ _ _ u hu) rfl in_X4_has_X4 3 (by decide) (index := 29) rfl (by decide +kernel) (cf_SH_3 _ _ _) dX4_has_6 ?_
    refine lv_icmp_gt (tgt := 30) hx hb dX4_has_9 (by decide) (fun c3 => ?_) (fun c3 => ?_)
    · have e0 := itp _ c3 e0
      refine lv_iconst (v := 0) hx hb dX4_has_30 (by decide) ?_
      have e0 := Option.some.inj e0
      subst e0
      exact c_zret X w hr rfl dX4_has_31
    · have e0 := itn _ c3 e0
      refine lv_iload_n hx hb dX4_has_12 rfl (lv_at hl 2 rfl) ?_
      refine lv_if_lt (tgt := 30) hx hb dX4_has_13 (by decide) (fun c2 => ?_) (fun c2 => ?_)
      · have e0 := itp _ c2 e0
        refine lv_iconst (v := 0) hx hb dX4_has_30 (by decide) ?_
        have e0 := Option.some.inj e0
        subst e0
        exact c_zret X w hr rfl dX4_has_31
      · have e0 := itn _ c2 e0
        refine lv_iload_n hx hb dX4_has_16 rfl (lv_at hl 2 rfl) ?_
        refine lv_aload_n hx hb dX4_has_17 rfl (lv_at hl 0 rfl) ?_
        refine c_get X w (cat_SH _ _ _ _ _ u hu) rfl in_X4_has_X4 3 (by decide) (index := 29) rfl (by decide +kernel) (cf_SH_3 _ _ _) dX4_has_18 ?_
        refine lv_iload_n hx hb dX4_has_21 rfl (lv_at hl 1 rfl) ?_
        refine lv_isub hx hb dX4_has_22 ?_
        refine lv_icmp_gt (tgt := 30) hx hb dX4_has_23 (by decide) (fun c1 => ?_) (fun c1 => ?_)
        · have e0 := itp _ c1 e0
          refine lv_iconst (v := 0) hx hb dX4_has_30 (by decide) ?_
          have e0 := Option.some.inj e0
          subst e0
          exact c_zret X w hr rfl dX4_has_31
        · have e0 := itn _ c1 e0
          refine lv_iconst (v := 1) hx hb dX4_has_26 (by decide) ?_
          refine lv_goto (tgt := 31) hx hb dX4_has_27 (by decide) ?_
          have e0 := Option.some.inj e0
          subst e0
          exact c_zret X w hr rfl dX4_has_31
set_option maxRecDepth 20000 in
theorem fX4_has_met (l : Launch) (D : va_G) (y : ClassId) (yS : ClassId × ClassId) (q : Nat → Nat) (sz n : Nat) (u : Nat) (hu : u < 4) (a1 : Int32) (a2 : Int32) (I : Nat → Int32) (R : Nat → Nat → Int32) (z : Int32 × mSt) (e0 : fX4_has n u a1 a2 I R = some z) : Met l yX4_has wsX4_has rmX4_has (va_Pc [.ref (q (1000 + 10 * u)), .int a1, .int a2] (cPre D y yS q sz I R)) (cQi D y yS q (cS y yS q sz) z) 0 0 (cS y yS q sz) := by
  refine Met.ofW (cc := cX4_has) (maxL := 3) (ret := some .boolean) (by decide) rfl ?_
  intro p e s m args below meth c s₁ B hml hv
  obtain ⟨rfl, hsz, hP, hK, hN, hD⟩ := hv
  subst hsz
  have hl := lv_entry ([.ref (q (1000 + 10 * u)), .int a1, .int a2]) (n := 3) (Nat.le_of_ble_eq_true rfl)
  rw [lg_entry_eq]
  exact fX4_has_w (s := s) hu ⟨⟨B.exec, B.bytes, hml, findClass_of_methodNamed B.named, atoms_spec (ws := wsX4_has) B.pre⟩, hK, hN⟩ ⟨B.returns, B.notSynchronized⟩ ⟨hP, cS_D hD, va_S.rf⟩ hl e0
theorem in_X4_cut_X4 : ∀ w ∈ wsX40, w ∈ wsX4_cut := fun _ h9 => List.mem_cons_of_mem _ (List.mem_append_right _ h9)
def rmX4_cut : Room := { frames := 0, cells := 0, slots := 0, locals := 0 }
def fX4_cut (n : Nat) (u : Nat) (a1 : Int32) (I : Nat → Int32) (R : Nat → Nat → Int32) : Option (Int32 × mSt) :=
  if (I (1003 + 10 * u)) = 0 then
    some (((a1).toInt8.toInt32), I, R)
  else
    if (I (1003 + 10 * u)) = 1 then
      some (((a1).toInt16.toInt32), I, R)
    else
      some (a1, I, R)
set_option maxRecDepth 20000 in
set_option maxHeartbeats 2000000 in
theorem fX4_cut_w {p : Program} {l : Launch} {e : Env} {s : State} {m : MethodId} {args : Array Value} {below : List Frame} {meth : Method} {c : Code} {D : va_G} {y : ClassId} {yS : ClassId × ClassId} {q : Nat → Nat} {n : Nat} {z : Int32 × mSt} {u : Nat} (hu : u < 4) (X : cX p s m args c cX4_cut 2 wsX4_cut RX4 D y yS) (hr : meth.sig.returnType = some .int ∧ meth.locks = false) {a1 : Int32} {I : Nat → Int32} {R : Nat → Nat → Int32} {H : Heap} {locs : List Loc} {ls : Array Slot} (w : cH s D y yS q H locs I R) (hl : lv_has ls 2 [(0, .ref (q (1000 + 10 * u))), (1, .int a1)]) (e0 : fX4_cut n u a1 I R = some z) : W p l e rmX4_cut s m args below meth c H locs 0 0 (MQ below (cQi D y yS q (cS y yS q s.heap.size) z) args s 0 0 (cS y yS q s.heap.size)) (F0 m 0 ls []) := by
  have hx := X.1.1
  have hb := X.1.2.1
  unfold fX4_cut at e0
  refine lv_aload_n hx hb dX4_cut_0 rfl (lv_at hl 0 rfl) ?_
  refine c_get X w (cat_SH _ _ _ _ _ u hu) rfl in_X4_cut_X4 2 (by decide) (index := 25) rfl (by decide +kernel) (cf_SH_2 _ _ _) dX4_cut_1 ?_
  by_cases c1 : (I (1003 + 10 * u)) = 0
  · have e0 := itp _ c1 e0
    refine lv_lookup (off := 28) (tgt := 32) hx hb dX4_cut_4 (by decide) (by rw [c1]; decide) (by decide) ?_
    refine lv_iload_n hx hb dX4_cut_32 rfl (lv_at hl 1 rfl) ?_
    refine lv_i2b (v := ((a1).toInt8.toInt32)) hx hb dX4_cut_33 rfl ?_
    have e0 := Option.some.inj e0
    subst e0
    exact c_iret X w hr dX4_cut_34
  · have e0 := itn _ c1 e0
    by_cases c2 : (I (1003 + 10 * u)) = 1
    · have e0 := itp _ c2 e0
      refine lv_lookup (off := 31) (tgt := 35) hx hb dX4_cut_4 (by decide) (by rw [c2]; decide) (by decide) ?_
      refine lv_iload_n hx hb dX4_cut_35 rfl (lv_at hl 1 rfl) ?_
      refine lv_i2s (v := ((a1).toInt16.toInt32)) hx hb dX4_cut_36 rfl ?_
      have e0 := Option.some.inj e0
      subst e0
      exact c_iret X w hr dX4_cut_37
    · have e0 := itn _ c2 e0
      refine lv_lookup (off := 34) (tgt := 38) hx hb dX4_cut_4 (by decide) (by show Op.lookupswitch.offset [(0, 28), (1, 31)] 34 _ = 34; rw [lv_osw c1 (by decide), lv_osw c2 (by decide)]; rfl) (by decide) ?_
      refine lv_iload_n hx hb dX4_cut_38 rfl (lv_at hl 1 rfl) ?_
      have e0 := Option.some.inj e0
      subst e0
      exact c_iret X w hr dX4_cut_39
set_option maxRecDepth 20000 in
theorem fX4_cut_met (l : Launch) (D : va_G) (y : ClassId) (yS : ClassId × ClassId) (q : Nat → Nat) (sz n : Nat) (u : Nat) (hu : u < 4) (a1 : Int32) (I : Nat → Int32) (R : Nat → Nat → Int32) (z : Int32 × mSt) (e0 : fX4_cut n u a1 I R = some z) : Met l yX4_cut wsX4_cut rmX4_cut (va_Pc [.ref (q (1000 + 10 * u)), .int a1] (cPre D y yS q sz I R)) (cQi D y yS q (cS y yS q sz) z) 0 0 (cS y yS q sz) := by
  refine Met.ofW (cc := cX4_cut) (maxL := 2) (ret := some .int) (by decide) rfl ?_
  intro p e s m args below meth c s₁ B hml hv
  obtain ⟨rfl, hsz, hP, hK, hN, hD⟩ := hv
  subst hsz
  have hl := lv_entry ([.ref (q (1000 + 10 * u)), .int a1]) (n := 2) (Nat.le_of_ble_eq_true rfl)
  rw [lg_entry_eq]
  exact fX4_cut_w (s := s) hu ⟨⟨B.exec, B.bytes, hml, findClass_of_methodNamed B.named, atoms_spec (ws := wsX4_cut) B.pre⟩, hK, hN⟩ ⟨B.returns, B.notSynchronized⟩ ⟨hP, cS_D hD, va_S.rf⟩ hl e0
theorem in_X5_isNext_X5 : ∀ w ∈ wsX50, w ∈ wsX5_isNext := fun _ h9 => List.mem_cons_of_mem _ (List.mem_append_right _ h9)
def rmX5_isNext : Room := { frames := 0, cells := 0, slots := 0, locals := 0 }
def fX5_isNext (n : Nat) (a1 : Int32) (I : Nat → Int32) (R : Nat → Nat → Int32) : Option (Int32 × mSt) :=
  if (I 54) = 0 then
    if (I 52) ≤ (I 53) then
      some (0, I, R)
    else
      if inb (I 53) 60 = true then
      if (getA R 51 (I 53)) = a1 then
        some (1, I, R)
      else
        some (0, I, R)
      else none
  else
    some (0, I, R)
set_option maxRecDepth 20000 in
set_option maxHeartbeats 2000000 in
theorem fX5_isNext_w {p : Program} {l : Launch} {e : Env} {s : State} {m : MethodId} {args : Array Value} {below : List Frame} {meth : Method} {c : Code} {D : va_G} {y : ClassId} {yS : ClassId × ClassId} {q : Nat → Nat} {n : Nat} {z : Int32 × mSt} (X : cX p s m args c cX5_isNext 2 wsX5_isNext RX5 D y yS) (hr : meth.sig.returnType = some .boolean ∧ meth.locks = false) {a1 : Int32} {I : Nat → Int32} {R : Nat → Nat → Int32} {H : Heap} {locs : List Loc} {ls : Array Slot} (w : cH s D y yS q H locs I R) (hl : lv_has ls 2 [(0, .ref (q 50)), (1, .int a1)]) (e0 : fX5_isNext n a1 I R = some z) : W p l e rmX5_isNext s m args below meth c H locs 0 0 (MQ below (cQi D y yS q (cS y yS q s.heap.size) z) args s 0 0 (cS y yS q s.heap.size)) (F0 m 0 ls []) := by
  have hx := X.1.1
  have hb := X.1.2.1
  unfold fX5_isNext at e0
  refine lv_aload_n hx hb dX5_isNext_0 rfl (lv_at hl 0 rfl) ?_
  refine c_get X w (cat_TR _ _ _ _ _) rfl in_X5_isNext_X5 3 (by decide) (index := 33) rfl (by decide +kernel) (cf_TR_3 _ _) dX5_isNext_1 ?_
  refine lv_if_ne (tgt := 35) hx hb dX5_isNext_4 (by decide) (fun c4 => ?_) (fun c4 => ?_)
  · have e0 := itn _ c4 e0
    refine lv_iconst (v := 0) hx hb dX5_isNext_35 (by decide) ?_
    have e0 := Option.some.inj e0
    subst e0
    exact c_zret X w hr rfl dX5_isNext_36
  · have e0 := itp _ c4 e0
    refine lv_aload_n hx hb dX5_isNext_7 rfl (lv_at hl 0 rfl) ?_
    refine c_get X w (cat_TR _ _ _ _ _) rfl in_X5_isNext_X5 2 (by decide) (index := 30) rfl (by decide +kernel) (cf_TR_2 _ _) dX5_isNext_8 ?_
    refine lv_aload_n hx hb dX5_isNext_11 rfl (lv_at hl 0 rfl) ?_
    refine c_get X w (cat_TR _ _ _ _ _) rfl in_X5_isNext_X5 1 (by decide) (index := 26) rfl (by decide +kernel) (cf_TR_1 _ _) dX5_isNext_12 ?_
    refine lv_icmp_ge (tgt := 35) hx hb dX5_isNext_15 (by decide) (fun c3 => ?_) (fun c3 => ?_)
    · have e0 := itp _ c3 e0
      refine lv_iconst (v := 0) hx hb dX5_isNext_35 (by decide) ?_
      have e0 := Option.some.inj e0
      subst e0
      exact c_zret X w hr rfl dX5_isNext_36
    · have e0 := itn _ c3 e0
      refine lv_aload_n hx hb dX5_isNext_18 rfl (lv_at hl 0 rfl) ?_
      refine c_get X w (cat_TR _ _ _ _ _) rfl in_X5_isNext_X5 0 (by decide) (index := 9) rfl (by decide +kernel) (cf_TR_0 _ _) dX5_isNext_19 ?_
      refine lv_aload_n hx hb dX5_isNext_22 rfl (lv_at hl 0 rfl) ?_
      refine c_get X w (cat_TR _ _ _ _ _) rfl in_X5_isNext_X5 2 (by decide) (index := 30) rfl (by decide +kernel) (cf_TR_2 _ _) dX5_isNext_23 ?_
      refine gd e0 (fun g1 e0 => ?_)
      refine c_ald X w (cat_a51 _ _ _ _ _) g1 dX5_isNext_26 ?_
      refine lv_iload_n hx hb dX5_isNext_27 rfl (lv_at hl 1 rfl) ?_
      refine lv_icmp_ne (tgt := 35) hx hb dX5_isNext_28 (by decide) (fun c2 => ?_) (fun c2 => ?_)
      · have e0 := itn _ c2 e0
        refine lv_iconst (v := 0) hx hb dX5_isNext_35 (by decide) ?_
        have e0 := Option.some.inj e0
        subst e0
        exact c_zret X w hr rfl dX5_isNext_36
      · have e0 := itp _ c2 e0
        refine lv_iconst (v := 1) hx hb dX5_isNext_31 (by decide) ?_
        refine lv_goto (tgt := 36) hx hb dX5_isNext_32 (by decide) ?_
        have e0 := Option.some.inj e0
        subst e0
        exact c_zret X w hr rfl dX5_isNext_36
set_option maxRecDepth 20000 in
theorem fX5_isNext_met (l : Launch) (D : va_G) (y : ClassId) (yS : ClassId × ClassId) (q : Nat → Nat) (sz n : Nat) (a1 : Int32) (I : Nat → Int32) (R : Nat → Nat → Int32) (z : Int32 × mSt) (e0 : fX5_isNext n a1 I R = some z) : Met l yX5_isNext wsX5_isNext rmX5_isNext (va_Pc [.ref (q 50), .int a1] (cPre D y yS q sz I R)) (cQi D y yS q (cS y yS q sz) z) 0 0 (cS y yS q sz) := by
  refine Met.ofW (cc := cX5_isNext) (maxL := 2) (ret := some .boolean) (by decide) rfl ?_
  intro p e s m args below meth c s₁ B hml hv
  obtain ⟨rfl, hsz, hP, hK, hN, hD⟩ := hv
  subst hsz
  have hl := lv_entry ([.ref (q 50), .int a1]) (n := 2) (Nat.le_of_ble_eq_true rfl)
  rw [lg_entry_eq]
  exact fX5_isNext_w (s := s) ⟨⟨B.exec, B.bytes, hml, findClass_of_methodNamed B.named, atoms_spec (ws := wsX5_isNext) B.pre⟩, hK, hN⟩ ⟨B.returns, B.notSynchronized⟩ ⟨hP, cS_D hD, va_S.rf⟩ hl e0
theorem in_X5_digit_X5 : ∀ w ∈ wsX50, w ∈ wsX5_digit := fun _ h9 => List.mem_cons_of_mem _ (List.mem_append_right _ h9)
def rmX5_digit : Room := { frames := 0, cells := 0, slots := 0, locals := 0 }
def fX5_digit_b45 (n : Nat) (I : Nat → Int32) (R : Nat → Nat → Int32) : Option (Int32 × mSt) :=
  some (0, (upd I 54 1), R)
set_option maxRecDepth 20000 in
set_option maxHeartbeats 2000000 in
theorem fX5_digit_b45_w {p : Program} {l : Launch} {e : Env} {s : State} {m : MethodId} {args : Array Value} {below : List Frame} {meth : Method} {c : Code} {D : va_G} {y : ClassId} {yS : ClassId × ClassId} {q : Nat → Nat} {n : Nat} {z : Int32 × mSt} (X : cX p s m args c cX5_digit 4 wsX5_digit RX5 D y yS) (hr : meth.sig.returnType = some .int ∧ meth.locks = false) {I : Nat → Int32} {R : Nat → Nat → Int32} {H : Heap} {locs : List Loc} {ls : Array Slot} (w : cH s D y yS q H locs I R) (hl : lv_has ls 4 [(0, .ref (q 50))]) (e0 : fX5_digit_b45 n I R = some z) : W p l e rmX5_digit s m args below meth c H locs 0 0 (MQ below (cQi D y yS q (cS y yS q s.heap.size) z) args s 0 0 (cS y yS q s.heap.size)) (F0 m 45 ls []) := by
  have hx := X.1.1
  have hb := X.1.2.1
  unfold fX5_digit_b45 at e0
  refine lv_aload_n hx hb dX5_digit_45 rfl (lv_at hl 0 rfl) ?_
  refine lv_iconst (v := 1) hx hb dX5_digit_46 (by decide) ?_
  refine c_put X w (cat_TR _ _ _ _ _) rfl in_X5_digit_X5 tyX5 tyX5_ok nmX5 3 (by decide) (index := 33) (ty := .boolean) rfl (by decide +kernel) rfl (by decide +kernel) rfl rfl (Nat.le_of_ble_eq_true rfl) (cset_TR_3 _ _ _ _ _ _) dX5_digit_47 (fun H locs w => ?_)
  refine lv_iconst (v := 0) hx hb dX5_digit_50 (by decide) ?_
  have e0 := Option.some.inj e0
  subst e0
  exact c_iret X w hr dX5_digit_51
def fX5_digit_b34 (n : Nat) (a1 : Int32) (a2 : Int32) (t0 : Int32) (I : Nat → Int32) (R : Nat → Nat → Int32) : Option (Int32 × mSt) :=
  if t0 < a1 then
    fX5_digit_b45 n I R
  else
    if t0 ≤ a2 then
      some (t0, (upd I 53 ((I 53) + 1)), R)
    else
      fX5_digit_b45 n I R
set_option maxRecDepth 20000 in
set_option maxHeartbeats 2000000 in
theorem fX5_digit_b34_w {p : Program} {l : Launch} {e : Env} {s : State} {m : MethodId} {args : Array Value} {below : List Frame} {meth : Method} {c : Code} {D : va_G} {y : ClassId} {yS : ClassId × ClassId} {q : Nat → Nat} {n : Nat} {z : Int32 × mSt} (X : cX p s m args c cX5_digit 4 wsX5_digit RX5 D y yS) (hr : meth.sig.returnType = some .int ∧ meth.locks = false) {a1 : Int32} {a2 : Int32} {t0 : Int32} {I : Nat → Int32} {R : Nat → Nat → Int32} {H : Heap} {locs : List Loc} {ls : Array Slot} (w : cH s D y yS q H locs I R) (hl : lv_has ls 4 [(0, .ref (q 50)), (1, .int a1), (2, .int a2)]) (e0 : fX5_digit_b34 n a1 a2 t0 I R = some z) : W p l e rmX5_digit s m args below meth c H locs 0 0 (MQ below (cQi D y yS q (cS y yS q s.heap.size) z) args s 0 0 (cS y yS q s.heap.size)) (F0 m 34 ls [.int t0]) := by
  have hx := X.1.1
  have hb := X.1.2.1
  unfold fX5_digit_b34 at e0
  refine lv_istore_n (lv' := [(3, .int t0), (0, .ref (q 50)), (1, .int a1), (2, .int a2)]) hx hb dX5_digit_34 rfl hl (by decide) rfl (fun ls hl => ?_)
  refine lv_iload_n hx hb dX5_digit_35 rfl (lv_at hl 0 rfl) ?_
  refine lv_iload_n hx hb dX5_digit_36 rfl (lv_at hl 2 rfl) ?_
  refine lv_icmp_lt (tgt := 45) hx hb dX5_digit_37 (by decide) (fun c5 => ?_) (fun c5 => ?_)
  · have e0 := itp _ c5 e0
    exact fX5_digit_b45_w (l := l) X hr w (lv_sub hl [1] rfl) e0
  · have e0 := itn _ c5 e0
    refine lv_iload_n hx hb dX5_digit_40 rfl (lv_at hl 0 rfl) ?_
    refine lv_iload_n hx hb dX5_digit_41 rfl (lv_at hl 3 rfl) ?_
    refine lv_icmp_le (tgt := 52) hx hb dX5_digit_42 (by decide) (fun c4 => ?_) (fun c4 => ?_)
    · have e0 := itp _ c4 e0
      refine lv_aload_n hx hb dX5_digit_52 rfl (lv_at hl 1 rfl) ?_
      refine lv_dup hx hb dX5_digit_53 rfl ?_
      refine c_get X w (cat_TR _ _ _ _ _) rfl in_X5_digit_X5 2 (by decide) (index := 30) rfl (by decide +kernel) (cf_TR_2 _ _) dX5_digit_54 ?_
      refine lv_iconst (v := 1) hx hb dX5_digit_57 (by decide) ?_
      refine lv_iadd hx hb dX5_digit_58 ?_
      refine c_put X w (cat_TR _ _ _ _ _) rfl in_X5_digit_X5 tyX5 tyX5_ok nmX5 2 (by decide) (index := 30) (ty := .int) rfl (by decide +kernel) rfl (by decide +kernel) rfl rfl (Nat.le_of_ble_eq_true rfl) (cset_TR_2 _ _ _ _ _ _) dX5_digit_59 (fun H locs w => ?_)
      refine lv_iload_n hx hb dX5_digit_62 rfl (lv_at hl 0 rfl) ?_
      have e0 := Option.some.inj e0
      subst e0
      exact c_iret X w hr dX5_digit_63
    · have e0 := itn _ c4 e0
      exact fX5_digit_b45_w (l := l) X hr w (lv_sub hl [1] rfl) e0
def fX5_digit_b18 (n : Nat) (a1 : Int32) (a2 : Int32) (I : Nat → Int32) (R : Nat → Nat → Int32) : Option (Int32 × mSt) :=
  fX5_digit_b34 n a1 a2 (-1) I R
set_option maxRecDepth 20000 in
set_option maxHeartbeats 2000000 in
theorem fX5_digit_b18_w {p : Program} {l : Launch} {e : Env} {s : State} {m : MethodId} {args : Array Value} {below : List Frame} {meth : Method} {c : Code} {D : va_G} {y : ClassId} {yS : ClassId × ClassId} {q : Nat → Nat} {n : Nat} {z : Int32 × mSt} (X : cX p s m args c cX5_digit 4 wsX5_digit RX5 D y yS) (hr : meth.sig.returnType = some .int ∧ meth.locks = false) {a1 : Int32} {a2 : Int32} {I : Nat → Int32} {R : Nat → Nat → Int32} {H : Heap} {locs : List Loc} {ls : Array Slot} (w : cH s D y yS q H locs I R) (hl : lv_has ls 4 [(0, .ref (q 50)), (1, .int a1), (2, .int a2)]) (e0 : fX5_digit_b18 n a1 a2 I R = some z) : W p l e rmX5_digit s m args below meth c H locs 0 0 (MQ below (cQi D y yS q (cS y yS q s.heap.size) z) args s 0 0 (cS y yS q s.heap.size)) (F0 m 18 ls []) := by
  have hx := X.1.1
  have hb := X.1.2.1
  unfold fX5_digit_b18 at e0
  refine lv_iconst (v := (-1)) hx hb dX5_digit_18 (by decide) ?_
  refine lv_goto (tgt := 34) hx hb dX5_digit_19 (by decide) ?_
  exact fX5_digit_b34_w (l := l) X hr w (lv_sub hl [0, 1, 2] rfl) e0
def fX5_digit (n : Nat) (a1 : Int32) (a2 : Int32) (I : Nat → Int32) (R : Nat → Nat → Int32) : Option (Int32 × mSt) :=
  if (I 54) = 0 then
    if (I 53) < (I 52) then
      if inb (I 53) 60 = true then
      fX5_digit_b34 n a1 a2 ((getA R 51 (I 53)) - 48) I R
      else none
    else
      fX5_digit_b18 n a1 a2 I R
  else
    fX5_digit_b18 n a1 a2 I R
set_option maxRecDepth 20000 in
set_option maxHeartbeats 2000000 in
theorem fX5_digit_w {p : Program} {l : Launch} {e : Env} {s : State} {m : MethodId} {args : Array Value} {below : List Frame} {meth : Method} {c : Code} {D : va_G} {y : ClassId} {yS : ClassId × ClassId} {q : Nat → Nat} {n : Nat} {z : Int32 × mSt} (X : cX p s m args c cX5_digit 4 wsX5_digit RX5 D y yS) (hr : meth.sig.returnType = some .int ∧ meth.locks = false) {a1 : Int32} {a2 : Int32} {I : Nat → Int32} {R : Nat → Nat → Int32} {H : Heap} {locs : List Loc} {ls : Array Slot} (w : cH s D y yS q H locs I R) (hl : lv_has ls 4 [(0, .ref (q 50)), (1, .int a1), (2, .int a2)]) (e0 : fX5_digit n a1 a2 I R = some z) : W p l e rmX5_digit s m args below meth c H locs 0 0 (MQ below (cQi D y yS q (cS y yS q s.heap.size) z) args s 0 0 (cS y yS q s.heap.size)) (F0 m 0 ls []) := by
  have hx := X.1.1
  have hb := X.1.2.1
  unfold fX5_digit at e0
  refine lv_aload_n hx hb dX5_digit_0 rfl (lv_at hl 0 rfl) ?_
  refine c_get X w (cat_TR _ _ _ _ _) rfl in_X5_digit_X5 3 (by decide) (index := 33) rfl (by decide +kernel) (cf_TR_3 _ _) dX5_digit_1 ?_
  refine lv_if_ne (tgt := 18) hx hb dX5_digit_4 (by decide) (fun c3 => ?_) (fun c3 => ?_)
  · have e0 := itn _ c3 e0
    exact fX5_digit_b18_w (l := l) X hr w (lv_sub hl [0, 1, 2] rfl) e0
  · have e0 := itp _ c3 e0
    refine lv_aload_n hx hb dX5_digit_7 rfl (lv_at hl 0 rfl) ?_
    refine c_get X w (cat_TR _ _ _ _ _) rfl in_X5_digit_X5 2 (by decide) (index := 30) rfl (by decide +kernel) (cf_TR_2 _ _) dX5_digit_8 ?_
    refine lv_aload_n hx hb dX5_digit_11 rfl (lv_at hl 0 rfl) ?_
    refine c_get X w (cat_TR _ _ _ _ _) rfl in_X5_digit_X5 1 (by decide) (index := 26) rfl (by decide +kernel) (cf_TR_1 _ _) dX5_digit_12 ?_
    refine lv_icmp_lt (tgt := 22) hx hb dX5_digit_15 (by decide) (fun c2 => ?_) (fun c2 => ?_)
    · have e0 := itp _ c2 e0
      refine lv_aload_n hx hb dX5_digit_22 rfl (lv_at hl 0 rfl) ?_
      refine c_get X w (cat_TR _ _ _ _ _) rfl in_X5_digit_X5 0 (by decide) (index := 9) rfl (by decide +kernel) (cf_TR_0 _ _) dX5_digit_23 ?_
      refine lv_aload_n hx hb dX5_digit_26 rfl (lv_at hl 0 rfl) ?_
      refine c_get X w (cat_TR _ _ _ _ _) rfl in_X5_digit_X5 2 (by decide) (index := 30) rfl (by decide +kernel) (cf_TR_2 _ _) dX5_digit_27 ?_
      refine gd e0 (fun g1 e0 => ?_)
      refine c_ald X w (cat_a51 _ _ _ _ _) g1 dX5_digit_30 ?_
      refine lv_bipush (v := 48) hx hb dX5_digit_31 (by decide) ?_
      refine lv_isub hx hb dX5_digit_33 ?_
      exact fX5_digit_b34_w (l := l) X hr w (lv_sub hl [0, 1, 2] rfl) e0
    · have e0 := itn _ c2 e0
      exact fX5_digit_b18_w (l := l) X hr w (lv_sub hl [0, 1, 2] rfl) e0
set_option maxRecDepth 20000 in
theorem fX5_digit_met (l : Launch) (D : va_G) (y : ClassId) (yS : ClassId × ClassId) (q : Nat → Nat) (sz n : Nat) (a1 : Int32) (a2 : Int32) (I : Nat → Int32) (R : Nat → Nat → Int32) (z : Int32 × mSt) (e0 : fX5_digit n a1 a2 I R = some z) : Met l yX5_digit wsX5_digit rmX5_digit (va_Pc [.ref (q 50), .int a1, .int a2] (cPre D y yS q sz I R)) (cQi D y yS q (cS y yS q sz) z) 0 0 (cS y yS q sz) := by
  refine Met.ofW (cc := cX5_digit) (maxL := 4) (ret := some .int) (by decide) rfl ?_
  intro p e s m args below meth c s₁ B hml hv
  obtain ⟨rfl, hsz, hP, hK, hN, hD⟩ := hv
  subst hsz
  have hl := lv_entry ([.ref (q 50), .int a1, .int a2]) (n := 4) (Nat.le_of_ble_eq_true rfl)
  rw [lg_entry_eq]
  exact fX5_digit_w (s := s) ⟨⟨B.exec, B.bytes, hml, findClass_of_methodNamed B.named, atoms_spec (ws := wsX5_digit) B.pre⟩, hK, hN⟩ ⟨B.returns, B.notSynchronized⟩ ⟨hP, cS_D hD, va_S.rf⟩ hl e0
theorem in_X5_readTold_X5 : ∀ w ∈ wsX50, w ∈ wsX5_readTold := fun _ h9 => List.mem_cons_of_mem _ (List.mem_append_left _ (List.mem_append_right _ h9))
theorem in_X5_readTold_X2 : ∀ w ∈ wsX20, w ∈ wsX5_readTold := fun _ h9 => List.mem_cons_of_mem _ (List.mem_append_right _ h9)
def rmX5_readTold : Room := { frames := 1, cells := 0, slots := 0, locals := 23 }
def fX5_readTold (n : Nat) (r1 : Nat) (I : Nat → Int32) (R : Nat → Nat → Int32) : Option (mSt) :=
  (fX5_digit n 0 (((upd I 53 ((I 53) + 1)) (118 + 100 * r1)) - 1) (upd I 53 ((I 53) + 1)) R).bind fun z1 =>
  (fX5_digit n 0 3 z1.2.1 z1.2.2).bind fun z3 =>
  (fX5_digit n 0 3 z3.2.1 z3.2.2).bind fun z5 =>
  if (z5.2.1 54) = 0 then
    if inb z1.1 4 = true then
    if ((getA z5.2.2 (117 + 100 * r1) z1.1) &&& (1 <<< (((4 * z3.1) + z5.1) &&& 31))) = 0 then
      if inb z1.1 4 = true then
      if inb z1.1 4 = true then
      some (z5.2.1, (setA z5.2.2 (117 + 100 * r1) z1.1 ((getA z5.2.2 (117 + 100 * r1) z1.1) ||| (1 <<< (((4 * z3.1) + z5.1) &&& 31)))))
      else none
      else none
    else
      some ((upd (upd z5.2.1 53 ((z5.2.1 53) - 1)) 54 1), z5.2.2)
    else none
  else
    some (z5.2.1, z5.2.2)
set_option maxRecDepth 20000 in
set_option maxHeartbeats 2000000 in
theorem fX5_readTold_w {p : Program} {l : Launch} {e : Env} {s : State} {m : MethodId} {args : Array Value} {below : List Frame} {meth : Method} {c : Code} {D : va_G} {y : ClassId} {yS : ClassId × ClassId} {q : Nat → Nat} {n : Nat} {z : mSt} {r1 : Nat} (hr1 : r1 < 2) (X : cX p s m args c cX5_readTold 6 wsX5_readTold RX5 D y yS) (hr : meth.sig.returnType = none ∧ meth.locks = false) {I : Nat → Int32} {R : Nat → Nat → Int32} {H : Heap} {locs : List Loc} {ls : Array Slot} (w : cH s D y yS q H locs I R) (hl : lv_has ls 6 [(0, .ref (q 50)), (1, .ref (q (110 + 100 * r1)))]) (e0 : fX5_readTold n r1 I R = some z) : W p l e rmX5_readTold s m args below meth c H locs 0 0 (MQ below (cQv D y yS q (cS y yS q s.heap.size) z) args s 0 0 (cS y yS q s.heap.size)) (F0 m 0 ls []) := by
  have hx := X.1.1
  have hb := X.1.2.1
  unfold fX5_readTold at e0
  refine lv_aload_n hx hb dX5_readTold_0 rfl (lv_at hl 0 rfl) ?_
  refine lv_dup hx hb dX5_readTold_1 rfl ?_
  refine c_get X w (cat_TR _ _ _ _ _) rfl in_X5_readTold_X5 2 (by decide) (index := 30) rfl (by decide +kernel) (cf_TR_2 _ _) dX5_readTold_2 ?_
  refine lv_iconst (v := 1) hx hb dX5_readTold_5 (by decide) ?_
  refine lv_iadd hx hb dX5_readTold_6 ?_
  refine c_put X w (cat_TR _ _ _ _ _) rfl in_X5_readTold_X5 tyX5 tyX5_ok nmX5 2 (by decide) (index := 30) (ty := .int) rfl (by decide +kernel) rfl (by decide +kernel) rfl rfl (Nat.le_of_ble_eq_true rfl) (cset_TR_2 _ _ _ _ _ _) dX5_readTold_7 (fun H locs w => ?_)
  refine lv_aload_n hx hb dX5_readTold_10 rfl (lv_at hl 0 rfl) ?_
  refine lv_iconst (v := 0) hx hb dX5_readTold_11 (by decide) ?_
  refine lv_aload_n hx hb dX5_readTold_12 rfl (lv_at hl 1 rfl) ?_
  refine c_get X w (cat_PR _ _ _ _ _ r1 hr1) rfl in_X5_readTold_X2 7 (by decide) (index := 52) rfl (by decide +kernel) (cf_PR_7 _ _ _) dX5_readTold_13 ?_
  refine lv_iconst (v := 1) hx hb dX5_readTold_16 (by decide) ?_
  refine lv_isub hx hb dX5_readTold_17 ?_
  refine bd e0 (fun z1 e2 e0 => ?_)
  refine c_calli X w (c_rec X w (cat_TR _ _ _ _ _) rfl) (n := 2) (As := [.int 0, .int (((upd I 53 ((I 53) + 1)) (118 + 100 * r1)) - 1)]) (rest := []) (fX5_digit_met l _ _ _ _ _ _ _ _ _ _ _ e2) gX5_readTold_X5_digit rfl rfl rfl (by decide +kernel) ⟨Nat.le_of_ble_eq_true rfl, Nat.le_of_ble_eq_true rfl⟩ rfl hl.1 rfl (Nat.le_of_ble_eq_true rfl) dX5_readTold_18 (fun H locs w => ?_)
  refine lv_istore_n (lv' := [(2, .int z1.1), (0, .ref (q 50)), (1, .ref (q (110 + 100 * r1)))]) hx hb dX5_readTold_21 rfl hl (by decide) rfl (fun ls hl => ?_)
  refine lv_aload_n hx hb dX5_readTold_22 rfl (lv_at hl 1 rfl) ?_
  refine lv_iconst (v := 0) hx hb dX5_readTold_23 (by decide) ?_
  refine lv_iconst (v := 3) hx hb dX5_readTold_24 (by decide) ?_
  refine bd e0 (fun z3 e4 e0 => ?_)
  refine c_calli X w (c_rec X w (cat_TR _ _ _ _ _) rfl) (n := 2) (As := [.int 0, .int 3]) (rest := []) (fX5_digit_met l _ _ _ _ _ _ _ _ _ _ _ e4) gX5_readTold_X5_digit rfl rfl rfl (by decide +kernel) ⟨Nat.le_of_ble_eq_true rfl, Nat.le_of_ble_eq_true rfl⟩ rfl hl.1 rfl (Nat.le_of_ble_eq_true rfl) dX5_readTold_25 (fun H locs w => ?_)
  refine lv_istore_n (lv' := [(3, .int z3.1), (2, .int z1.1), (0, .ref (q 50)), (1, .ref (q (110 + 100 * r1)))]) hx hb dX5_readTold_28 rfl hl (by decide) rfl (fun ls hl => ?_)
  refine lv_aload_n hx hb dX5_readTold_29 rfl (lv_at hl 2 rfl) ?_
  refine lv_iconst (v := 0) hx hb dX5_readTold_30 (by decide) ?_
  refine lv_iconst (v := 3) hx hb dX5_readTold_31 (by decide) ?_
  refine bd e0 (fun z5 e6 e0 => ?_)
  refine c_calli X w (c_rec X w (cat_TR _ _ _ _ _) rfl) (n := 2) (As := [.int 0, .int 3]) (rest := []) (fX5_digit_met l _ _ _ _ _ _ _ _ _ _ _ e6) gX5_readTold_X5_digit rfl rfl rfl (by decide +kernel) ⟨Nat.le_of_ble_eq_true rfl, Nat.le_of_ble_eq_true rfl⟩ rfl hl.1 rfl (Nat.le_of_ble_eq_true rfl) dX5_readTold_32 (fun H locs w => ?_)
  refine lv_istore (lv' := [(4, .int z5.1), (3, .int z3.1), (2, .int z1.1), (0, .ref (q 50)), (1, .ref (q (110 + 100 * r1)))]) hx hb dX5_readTold_35 hl (by decide) rfl (fun ls hl => ?_)
  refine lv_aload_n hx hb dX5_readTold_37 rfl (lv_at hl 3 rfl) ?_
  refine c_get X w (cat_TR _ _ _ _ _) rfl in_X5_readTold_X5 3 (by decide) (index := 33) rfl (by decide +kernel) (cf_TR_3 _ _) dX5_readTold_38 ?_
  refine lv_if_eq (tgt := 45) hx hb dX5_readTold_41 (by decide) (fun c11 => ?_) (fun c11 => ?_)
  · have e0 := itp _ c11 e0
    refine lv_iconst (v := 1) hx hb dX5_readTold_45 (by decide) ?_
    refine lv_iconst (v := 4) hx hb dX5_readTold_46 (by decide) ?_
    refine lv_iload_n hx hb dX5_readTold_47 rfl (lv_at hl 1 rfl) ?_
    refine lv_imul hx hb dX5_readTold_48 ?_
    refine lv_iload hx hb dX5_readTold_49 (lv_at hl 0 rfl) ?_
    refine lv_iadd hx hb dX5_readTold_51 ?_
    refine lv_ishl hx hb dX5_readTold_52 ?_
    refine lv_istore (lv' := [(5, .int (1 <<< (((4 * z3.1) + z5.1) &&& 31))), (4, .int z5.1), (3, .int z3.1), (2, .int z1.1), (0, .ref (q 50)), (1, .ref (q (110 + 100 * r1)))]) hx hb dX5_readTold_53 hl (by decide) rfl (fun ls hl => ?_)
    refine lv_aload_n hx hb dX5_readTold_55 rfl (lv_at hl 5 rfl) ?_
    refine c_get X w (cat_PR _ _ _ _ _ r1 hr1) rfl in_X5_readTold_X2 6 (by decide) (index := 95) rfl (by decide +kernel) (cf_PR_6 _ _ _) dX5_readTold_56 ?_
    refine lv_iload_n hx hb dX5_readTold_59 rfl (lv_at hl 3 rfl) ?_
    refine gd e0 (fun g7 e0 => ?_)
    refine c_ald X w (cat_a117 _ _ _ _ _ r1 hr1) g7 dX5_readTold_60 ?_
    refine lv_iload hx hb dX5_readTold_61 (lv_at hl 0 rfl) ?_
    refine lv_iand hx hb dX5_readTold_63 ?_
    refine lv_if_eq (tgt := 83) hx hb dX5_readTold_64 (by decide) (fun c10 => ?_) (fun c10 => ?_)
    · have e0 := itp _ c10 e0
      refine lv_aload_n hx hb dX5_readTold_83 rfl (lv_at hl 5 rfl) ?_
      refine c_get X w (cat_PR _ _ _ _ _ r1 hr1) rfl in_X5_readTold_X2 6 (by decide) (index := 95) rfl (by decide +kernel) (cf_PR_6 _ _ _) dX5_readTold_84 ?_
      refine lv_iload_n hx hb dX5_readTold_87 rfl (lv_at hl 3 rfl) ?_
      refine lv_dup2_11 hx hb dX5_readTold_88 rfl rfl ?_
      refine gd e0 (fun g8 e0 => ?_)
      refine c_ald X w (cat_a117 _ _ _ _ _ r1 hr1) g8 dX5_readTold_89 ?_
      refine lv_iload hx hb dX5_readTold_90 (lv_at hl 0 rfl) ?_
      refine lv_ior hx hb dX5_readTold_92 ?_
      refine gd e0 (fun g9 e0 => ?_)
      refine c_ast X w (cat_a117 _ _ _ _ _ r1 hr1) (cset_a117 _ _ _ _ _ r1 hr1) g9 dX5_readTold_93 (fun H locs w => ?_)
      have e0 := Option.some.inj e0
      subst e0
      exact c_vret X w hr dX5_readTold_94
    · have e0 := itn _ c10 e0
      refine lv_aload_n hx hb dX5_readTold_67 rfl (lv_at hl 4 rfl) ?_
      refine lv_dup hx hb dX5_readTold_68 rfl ?_
      refine c_get X w (cat_TR _ _ _ _ _) rfl in_X5_readTold_X5 2 (by decide) (index := 30) rfl (by decide +kernel) (cf_TR_2 _ _) dX5_readTold_69 ?_
      refine lv_iconst (v := 1) hx hb dX5_readTold_72 (by decide) ?_
      refine lv_isub hx hb dX5_readTold_73 ?_
      refine c_put X w (cat_TR _ _ _ _ _) rfl in_X5_readTold_X5 tyX5 tyX5_ok nmX5 2 (by decide) (index := 30) (ty := .int) rfl (by decide +kernel) rfl (by decide +kernel) rfl rfl (Nat.le_of_ble_eq_true rfl) (cset_TR_2 _ _ _ _ _ _) dX5_readTold_74 (fun H locs w => ?_)
      refine lv_aload_n hx hb dX5_readTold_77 rfl (lv_at hl 4 rfl) ?_
      refine lv_iconst (v := 1) hx hb dX5_readTold_78 (by decide) ?_
      refine c_put X w (cat_TR _ _ _ _ _) rfl in_X5_readTold_X5 tyX5 tyX5_ok nmX5 3 (by decide) (index := 33) (ty := .boolean) rfl (by decide +kernel) rfl (by decide +kernel) rfl rfl (Nat.le_of_ble_eq_true rfl) (cset_TR_3 _ _ _ _ _ _) dX5_readTold_79 (fun H locs w => ?_)
      have e0 := Option.some.inj e0
      subst e0
      exact c_vret X w hr dX5_readTold_82
  · have e0 := itn _ c11 e0
    have e0 := Option.some.inj e0
    subst e0
    exact c_vret X w hr dX5_readTold_44
set_option maxRecDepth 20000 in
theorem fX5_readTold_met (l : Launch) (D : va_G) (y : ClassId) (yS : ClassId × ClassId) (q : Nat → Nat) (sz n : Nat) (r1 : Nat) (hr1 : r1 < 2) (I : Nat → Int32) (R : Nat → Nat → Int32) (z : mSt) (e0 : fX5_readTold n r1 I R = some z) : Met l yX5_readTold wsX5_readTold rmX5_readTold (va_Pc [.ref (q 50), .ref (q (110 + 100 * r1))] (cPre D y yS q sz I R)) (cQv D y yS q (cS y yS q sz) z) 0 0 (cS y yS q sz) := by
  refine Met.ofW (cc := cX5_readTold) (maxL := 6) (ret := none) (by decide) rfl ?_
  intro p e s m args below meth c s₁ B hml hv
  obtain ⟨rfl, hsz, hP, hK, hN, hD⟩ := hv
  subst hsz
  have hl := lv_entry ([.ref (q 50), .ref (q (110 + 100 * r1))]) (n := 6) (Nat.le_of_ble_eq_true rfl)
  rw [lg_entry_eq]
  exact fX5_readTold_w (s := s) hr1 ⟨⟨B.exec, B.bytes, hml, findClass_of_methodNamed B.named, atoms_spec (ws := wsX5_readTold) B.pre⟩, hK, hN⟩ ⟨B.returns, B.notSynchronized⟩ ⟨hP, cS_D hD, va_S.rf⟩ hl e0
theorem in_X6_take_X6 : ∀ w ∈ wsX60, w ∈ wsX6_take := fun _ h9 => List.mem_cons_of_mem _ (List.mem_append_left _ (List.mem_append_right _ h9))
theorem in_X6_take_X2 : ∀ w ∈ wsX20, w ∈ wsX6_take := fun _ h9 => List.mem_cons_of_mem _ (List.mem_append_right _ h9)
def rmX6_take : Room := { frames := 2, cells := 0, slots := 0, locals := 81 }
def fX6_take (n : Nat) (u : Nat) (r1 : Nat) (I : Nat → Int32) (R : Nat → Nat → Int32) : Option (mSt) :=
  (fX2_take n u r1 I R).bind fun z1 =>
  some ((upd z1.1 (105 + 100 * u) 0), z1.2)
set_option maxRecDepth 20000 in
set_option maxHeartbeats 2000000 in
theorem fX6_take_w {p : Program} {l : Launch} {e : Env} {s : State} {m : MethodId} {args : Array Value} {below : List Frame} {meth : Method} {c : Code} {D : va_G} {y : ClassId} {yS : ClassId × ClassId} {q : Nat → Nat} {n : Nat} {z : mSt} {u : Nat} (hu : u < 2) {r1 : Nat} (hr1 : r1 < 2) (X : cX p s m args c cX6_take 2 wsX6_take RX6 D y yS) (hr : meth.sig.returnType = none ∧ meth.locks = false) {I : Nat → Int32} {R : Nat → Nat → Int32} {H : Heap} {locs : List Loc} {ls : Array Slot} (w : cH s D y yS q H locs I R) (hl : lv_has ls 2 [(0, .ref (q (100 + 100 * u))), (1, .ref (q (110 + 100 * r1)))]) (e0 : fX6_take n u r1 I R = some z) : W p l e rmX6_take s m args below meth c H locs 0 0 (MQ below (cQv D y yS q (cS y yS q s.heap.size) z) args s 0 0 (cS y yS q s.heap.size)) (F0 m 0 ls []) := by
  have hx := X.1.1
  have hb := X.1.2.1
  unfold fX6_take at e0
  refine lv_aload_n hx hb dX6_take_0 rfl (lv_at hl 0 rfl) ?_
  refine c_get X w (cat_WO _ _ _ _ _ u hu) rfl in_X6_take_X6 0 (by decide) (index := 41) rfl (by decide +kernel) (cf_WO_0 _ _ _) dX6_take_1 ?_
  refine lv_aload_n hx hb dX6_take_4 rfl (lv_at hl 1 rfl) ?_
  refine bd e0 (fun z1 e2 e0 => ?_)
  refine c_callv X w (c_rec X w (cat_PR _ _ _ _ _ u hu) rfl) (n := 1) (As := [.ref (q (110 + 100 * r1))]) (rest := []) (fX2_take_met l _ _ _ _ _ _ _ hu _ hr1  _ _ _ e2) gX6_take_X2_take rfl rfl rfl (by decide +kernel) ⟨Nat.le_of_ble_eq_true rfl, Nat.le_of_ble_eq_true rfl⟩ rfl hl.1 rfl (Nat.le_of_ble_eq_true rfl) dX6_take_5 (fun H locs w => ?_)
  refine lv_aload_n hx hb dX6_take_8 rfl (lv_at hl 0 rfl) ?_
  refine lv_iconst (v := 0) hx hb dX6_take_9 (by decide) ?_
  refine c_put X w (cat_WO _ _ _ _ _ u hu) rfl in_X6_take_X6 tyX6 tyX6_ok nmX6 4 (by decide) (index := 48) (ty := .boolean) rfl (by decide +kernel) rfl (by decide +kernel) rfl rfl (Nat.le_of_ble_eq_true rfl) (cset_WO_4 _ _ _ _ _ u hu _) dX6_take_10 (fun H locs w => ?_)
  have e0 := Option.some.inj e0
  subst e0
  exact c_vret X w hr dX6_take_13
set_option maxRecDepth 20000 in
theorem fX6_take_met (l : Launch) (D : va_G) (y : ClassId) (yS : ClassId × ClassId) (q : Nat → Nat) (sz n : Nat) (u : Nat) (hu : u < 2) (r1 : Nat) (hr1 : r1 < 2) (I : Nat → Int32) (R : Nat → Nat → Int32) (z : mSt) (e0 : fX6_take n u r1 I R = some z) : Met l yX6_take wsX6_take rmX6_take (va_Pc [.ref (q (100 + 100 * u)), .ref (q (110 + 100 * r1))] (cPre D y yS q sz I R)) (cQv D y yS q (cS y yS q sz) z) 0 0 (cS y yS q sz) := by
  refine Met.ofW (cc := cX6_take) (maxL := 2) (ret := none) (by decide) rfl ?_
  intro p e s m args below meth c s₁ B hml hv
  obtain ⟨rfl, hsz, hP, hK, hN, hD⟩ := hv
  subst hsz
  have hl := lv_entry ([.ref (q (100 + 100 * u)), .ref (q (110 + 100 * r1))]) (n := 2) (Nat.le_of_ble_eq_true rfl)
  rw [lg_entry_eq]
  exact fX6_take_w (s := s) hu hr1 ⟨⟨B.exec, B.bytes, hml, findClass_of_methodNamed B.named, atoms_spec (ws := wsX6_take) B.pre⟩, hK, hN⟩ ⟨B.returns, B.notSynchronized⟩ ⟨hP, cS_D hD, va_S.rf⟩ hl e0
theorem in_X6_settle_X6 : ∀ w ∈ wsX60, w ∈ wsX6_settle := fun _ h9 => List.mem_cons_of_mem _ (List.mem_append_left _ (List.mem_append_left _ (List.mem_append_left _ (List.mem_append_left _ (List.mem_append_right _ h9)))))
theorem in_X6_settle_X1 : ∀ w ∈ wsX10, w ∈ wsX6_settle := fun _ h9 => List.mem_cons_of_mem _ (List.mem_append_left _ (List.mem_append_left _ (List.mem_append_left _ (List.mem_append_right _ h9))))
theorem in_X6_settle_X2 : ∀ w ∈ wsX20, w ∈ wsX6_settle := fun _ h9 => List.mem_cons_of_mem _ (List.mem_append_left _ (List.mem_append_left _ (List.mem_append_right _ h9)))
theorem in_X6_settle_X3 : ∀ w ∈ wsX30, w ∈ wsX6_settle := fun _ h9 => List.mem_cons_of_mem _ (List.mem_append_left _ (List.mem_append_right _ h9))
theorem in_X6_settle_X0 : ∀ w ∈ wsX00, w ∈ wsX6_settle := fun _ h9 => List.mem_cons_of_mem _ (List.mem_append_right _ h9)
def rmX6_settle : Room := { frames := 5, cells := 0, slots := 0, locals := 113 }
def fX6_settle (n : Nat) (u : Nat) (I : Nat → Int32) (R : Nat → Nat → Int32) : Option (mSt) :=
  if (I (105 + 100 * u)) = 0 then
    (fX1_find n u I R).bind fun z1 =>
    (fX3_run n u z1.2.1 z1.2.2).bind fun z3 =>
    (fX0_run n u z3.1 z3.2).bind fun z5 =>
    some ((upd z5.1 (105 + 100 * u) 1), z5.2)
  else
    some (I, R)
set_option maxRecDepth 20000 in
set_option maxHeartbeats 2000000 in
theorem fX6_settle_w {p : Program} {l : Launch} {e : Env} {s : State} {m : MethodId} {args : Array Value} {below : List Frame} {meth : Method} {c : Code} {D : va_G} {y : ClassId} {yS : ClassId × ClassId} {q : Nat → Nat} {n : Nat} {z : mSt} {u : Nat} (hu : u < 2) (X : cX p s m args c cX6_settle 1 wsX6_settle RX6 D y yS) (hr : meth.sig.returnType = none ∧ meth.locks = false) {I : Nat → Int32} {R : Nat → Nat → Int32} {H : Heap} {locs : List Loc} {ls : Array Slot} (w : cH s D y yS q H locs I R) (hl : lv_has ls 1 [(0, .ref (q (100 + 100 * u)))]) (e0 : fX6_settle n u I R = some z) : W p l e rmX6_settle s m args below meth c H locs 0 0 (MQ below (cQv D y yS q (cS y yS q s.heap.size) z) args s 0 0 (cS y yS q s.heap.size)) (F0 m 0 ls []) := by
  have hx := X.1.1
  have hb := X.1.2.1
  unfold fX6_settle at e0
  refine lv_aload_n hx hb dX6_settle_0 rfl (lv_at hl 0 rfl) ?_
  refine c_get X w (cat_WO _ _ _ _ _ u hu) rfl in_X6_settle_X6 4 (by decide) (index := 48) rfl (by decide +kernel) (cf_WO_4 _ _ _) dX6_settle_1 ?_
  refine lv_if_eq (tgt := 8) hx hb dX6_settle_4 (by decide) (fun c7 => ?_) (fun c7 => ?_)
  · have e0 := itp _ c7 e0
    refine lv_aload_n hx hb dX6_settle_8 rfl (lv_at hl 0 rfl) ?_
    refine c_get X w (cat_WO _ _ _ _ _ u hu) rfl in_X6_settle_X6 1 (by decide) (index := 37) rfl (by decide +kernel) (cf_WO_1 _ _ _) dX6_settle_9 ?_
    refine bd e0 (fun z1 e2 e0 => ?_)
    refine c_calli X w (c_rec X w (cat_LA _ _ _ _ _ u hu) rfl) (n := 0) (As := []) (rest := []) (fX1_find_met l _ _ _ _ _ _ _ hu  _ _ _ e2) gX6_settle_X1_find rfl rfl rfl (by decide +kernel) ⟨Nat.le_of_ble_eq_true rfl, Nat.le_of_ble_eq_true rfl⟩ rfl hl.1 rfl (Nat.le_of_ble_eq_true rfl) dX6_settle_12 (fun H locs w => ?_)
    refine lv_pop hx hb dX6_settle_15 rfl ?_
    refine lv_aload_n hx hb dX6_settle_16 rfl (lv_at hl 0 rfl) ?_
    refine c_get X w (cat_WO _ _ _ _ _ u hu) rfl in_X6_settle_X6 2 (by decide) (index := 33) rfl (by decide +kernel) (cf_WO_2 _ _ _) dX6_settle_17 ?_
    refine bd e0 (fun z3 e4 e0 => ?_)
    refine c_callv X w (c_rec X w (cat_RO _ _ _ _ _ u hu) rfl) (n := 0) (As := []) (rest := []) (fX3_run_met l _ _ _ _ _ _ _ hu  _ _ _ e4) gX6_settle_X3_run rfl rfl rfl (by decide +kernel) ⟨Nat.le_of_ble_eq_true rfl, Nat.le_of_ble_eq_true rfl⟩ rfl hl.1 rfl (Nat.le_of_ble_eq_true rfl) dX6_settle_20 (fun H locs w => ?_)
    refine lv_aload_n hx hb dX6_settle_23 rfl (lv_at hl 0 rfl) ?_
    refine c_get X w (cat_WO _ _ _ _ _ u hu) rfl in_X6_settle_X6 3 (by decide) (index := 27) rfl (by decide +kernel) (cf_WO_3 _ _ _) dX6_settle_24 ?_
    refine bd e0 (fun z5 e6 e0 => ?_)
    refine c_callv X w (c_rec X w (cat_CO _ _ _ _ _ u hu) rfl) (n := 0) (As := []) (rest := []) (fX0_run_met l _ _ _ _ _ _ _ hu  _ _ _ e6) gX6_settle_X0_run rfl rfl rfl (by decide +kernel) ⟨Nat.le_of_ble_eq_true rfl, Nat.le_of_ble_eq_true rfl⟩ rfl hl.1 rfl (Nat.le_of_ble_eq_true rfl) dX6_settle_27 (fun H locs w => ?_)
    refine lv_aload_n hx hb dX6_settle_30 rfl (lv_at hl 0 rfl) ?_
    refine lv_iconst (v := 1) hx hb dX6_settle_31 (by decide) ?_
    refine c_put X w (cat_WO _ _ _ _ _ u hu) rfl in_X6_settle_X6 tyX6 tyX6_ok nmX6 4 (by decide) (index := 48) (ty := .boolean) rfl (by decide +kernel) rfl (by decide +kernel) rfl rfl (Nat.le_of_ble_eq_true rfl) (cset_WO_4 _ _ _ _ _ u hu _) dX6_settle_32 (fun H locs w => ?_)
    have e0 := Option.some.inj e0
    subst e0
    exact c_vret X w hr dX6_settle_35
  · have e0 := itn _ c7 e0
    have e0 := Option.some.inj e0
    subst e0
    exact c_vret X w hr dX6_settle_7
set_option maxRecDepth 20000 in
theorem fX6_settle_met (l : Launch) (D : va_G) (y : ClassId) (yS : ClassId × ClassId) (q : Nat → Nat) (sz n : Nat) (u : Nat) (hu : u < 2) (I : Nat → Int32) (R : Nat → Nat → Int32) (z : mSt) (e0 : fX6_settle n u I R = some z) : Met l yX6_settle wsX6_settle rmX6_settle (va_Pc [.ref (q (100 + 100 * u))] (cPre D y yS q sz I R)) (cQv D y yS q (cS y yS q sz) z) 0 0 (cS y yS q sz) := by
  refine Met.ofW (cc := cX6_settle) (maxL := 1) (ret := none) (by decide) rfl ?_
  intro p e s m args below meth c s₁ B hml hv
  obtain ⟨rfl, hsz, hP, hK, hN, hD⟩ := hv
  subst hsz
  have hl := lv_entry ([.ref (q (100 + 100 * u))]) (n := 1) (Nat.le_of_ble_eq_true rfl)
  rw [lg_entry_eq]
  exact fX6_settle_w (s := s) hu ⟨⟨B.exec, B.bytes, hml, findClass_of_methodNamed B.named, atoms_spec (ws := wsX6_settle) B.pre⟩, hK, hN⟩ ⟨B.returns, B.notSynchronized⟩ ⟨hP, cS_D hD, va_S.rf⟩ hl e0
theorem in_X6_reforms_X6 : ∀ w ∈ wsX60, w ∈ wsX6_reforms := fun _ h9 => List.mem_cons_of_mem _ (List.mem_append_left _ (List.mem_append_left _ (List.mem_append_right _ h9)))
theorem in_X6_reforms_X2 : ∀ w ∈ wsX20, w ∈ wsX6_reforms := fun _ h9 => List.mem_cons_of_mem _ (List.mem_append_left _ (List.mem_append_right _ h9))
theorem in_X6_reforms_X1 : ∀ w ∈ wsX10, w ∈ wsX6_reforms := fun _ h9 => List.mem_cons_of_mem _ (List.mem_append_right _ h9)
def rmX6_reforms : Room := { frames := 4, cells := 0, slots := 0, locals := 98 }
def fX6_reforms (n : Nat) (u : Nat) (a1 : Int32) (a2 : Int32) (I : Nat → Int32) (R : Nat → Nat → Int32) : Option (Int32 × mSt) :=
  if inb a1 5 = true then
  if inb a1 5 = true then
  (fX1_find n u (upd I (105 + 100 * u) 0) (setA R (113 + 100 * u) a1 a2)).bind fun z3 =>
  if z3.1 = 0 then
    if inb a1 5 = true then
    some (0, z3.2.1, (setA z3.2.2 (113 + 100 * u) a1 (getA R (113 + 100 * u) a1)))
    else none
  else
    some (1, z3.2.1, z3.2.2)
  else none
  else none
set_option maxRecDepth 20000 in
set_option maxHeartbeats 2000000 in
theorem fX6_reforms_w {p : Program} {l : Launch} {e : Env} {s : State} {m : MethodId} {args : Array Value} {below : List Frame} {meth : Method} {c : Code} {D : va_G} {y : ClassId} {yS : ClassId × ClassId} {q : Nat → Nat} {n : Nat} {z : Int32 × mSt} {u : Nat} (hu : u < 2) (X : cX p s m args c cX6_reforms 4 wsX6_reforms RX6 D y yS) (hr : meth.sig.returnType = some .boolean ∧ meth.locks = false) {a1 : Int32} {a2 : Int32} {I : Nat → Int32} {R : Nat → Nat → Int32} {H : Heap} {locs : List Loc} {ls : Array Slot} (w : cH s D y yS q H locs I R) (hl : lv_has ls 4 [(0, .ref (q (100 + 100 * u))), (1, .int a1), (2, .int a2)]) (e0 : fX6_reforms n u a1 a2 I R = some z) : W p l e rmX6_reforms s m args below meth c H locs 0 0 (MQ below (cQi D y yS q (cS y yS q s.heap.size) z) args s 0 0 (cS y yS q s.heap.size)) (F0 m 0 ls []) := by
  have hx := X.1.1
  have hb := X.1.2.1
  unfold fX6_reforms at e0
  refine lv_aload_n hx hb dX6_reforms_0 rfl (lv_at hl 0 rfl) ?_
  refine c_get X w (cat_WO _ _ _ _ _ u hu) rfl in_X6_reforms_X6 0 (by decide) (index := 41) rfl (by decide +kernel) (cf_WO_0 _ _ _) dX6_reforms_1 ?_
  refine c_get X w (cat_PR _ _ _ _ _ u hu) rfl in_X6_reforms_X2 2 (by decide) (index := 60) rfl (by decide +kernel) (cf_PR_2 _ _ _) dX6_reforms_4 ?_
  refine lv_iload_n hx hb dX6_reforms_7 rfl (lv_at hl 1 rfl) ?_
  refine gd e0 (fun g1 e0 => ?_)
  refine c_ald X w (cat_a113 _ _ _ _ _ u hu) g1 dX6_reforms_8 ?_
  refine lv_istore_n (lv' := [(3, .int (getA R (113 + 100 * u) a1)), (0, .ref (q (100 + 100 * u))), (1, .int a1), (2, .int a2)]) hx hb dX6_reforms_9 rfl hl (by decide) rfl (fun ls hl => ?_)
  refine lv_aload_n hx hb dX6_reforms_10 rfl (lv_at hl 1 rfl) ?_
  refine c_get X w (cat_WO _ _ _ _ _ u hu) rfl in_X6_reforms_X6 0 (by decide) (index := 41) rfl (by decide +kernel) (cf_WO_0 _ _ _) dX6_reforms_11 ?_
  refine c_get X w (cat_PR _ _ _ _ _ u hu) rfl in_X6_reforms_X2 2 (by decide) (index := 60) rfl (by decide +kernel) (cf_PR_2 _ _ _) dX6_reforms_14 ?_
  refine lv_iload_n hx hb dX6_reforms_17 rfl (lv_at hl 2 rfl) ?_
  refine lv_iload_n hx hb dX6_reforms_18 rfl (lv_at hl 3 rfl) ?_
  refine gd e0 (fun g2 e0 => ?_)
  refine c_ast X w (cat_a113 _ _ _ _ _ u hu) (cset_a113 _ _ _ _ _ u hu) g2 dX6_reforms_19 (fun H locs w => ?_)
  refine lv_aload_n hx hb dX6_reforms_20 rfl (lv_at hl 1 rfl) ?_
  refine lv_iconst (v := 0) hx hb dX6_reforms_21 (by decide) ?_
  refine c_put X w (cat_WO _ _ _ _ _ u hu) rfl in_X6_reforms_X6 tyX6 tyX6_ok nmX6 4 (by decide) (index := 48) (ty := .boolean) rfl (by decide +kernel) rfl (by decide +kernel) rfl rfl (Nat.le_of_ble_eq_true rfl) (cset_WO_4 _ _ _ _ _ u hu _) dX6_reforms_22 (fun H locs w => ?_)
  refine lv_aload_n hx hb dX6_reforms_25 rfl (lv_at hl 1 rfl) ?_
  refine c_get X w (cat_WO _ _ _ _ _ u hu) rfl in_X6_reforms_X6 1 (by decide) (index := 37) rfl (by decide +kernel) (cf_WO_1 _ _ _) dX6_reforms_26 ?_
  refine bd e0 (fun z3 e4 e0 => ?_)
  refine c_calli X w (c_rec X w (cat_LA _ _ _ _ _ u hu) rfl) (n := 0) (As := []) (rest := []) (fX1_find_met l _ _ _ _ _ _ _ hu  _ _ _ e4) gX6_reforms_X1_find rfl rfl rfl (by decide +kernel) ⟨Nat.le_of_ble_eq_true rfl, Nat.le_of_ble_eq_true rfl⟩ rfl hl.1 rfl (Nat.le_of_ble_eq_true rfl) dX6_reforms_29 (fun H locs w => ?_)
  refine lv_if_eq (tgt := 37) hx hb dX6_reforms_32 (by decide) (fun c6 => ?_) (fun c6 => ?_)
  · have e0 := itp _ c6 e0
    refine lv_aload_n hx hb dX6_reforms_37 rfl (lv_at hl 1 rfl) ?_
    refine c_get X w (cat_WO _ _ _ _ _ u hu) rfl in_X6_reforms_X6 0 (by decide) (index := 41) rfl (by decide +kernel) (cf_WO_0 _ _ _) dX6_reforms_38 ?_
    refine c_get X w (cat_PR _ _ _ _ _ u hu) rfl in_X6_reforms_X2 2 (by decide) (index := 60) rfl (by decide +kernel) (cf_PR_2 _ _ _) dX6_reforms_41 ?_
    refine lv_iload_n hx hb dX6_reforms_44 rfl (lv_at hl 2 rfl) ?_
    refine lv_iload_n hx hb dX6_reforms_45 rfl (lv_at hl 0 rfl) ?_
    refine gd e0 (fun g5 e0 => ?_)
    refine c_ast X w (cat_a113 _ _ _ _ _ u hu) (cset_a113 _ _ _ _ _ u hu) g5 dX6_reforms_46 (fun H locs w => ?_)
    refine lv_iconst (v := 0) hx hb dX6_reforms_47 (by decide) ?_
    have e0 := Option.some.inj e0
    subst e0
    exact c_zret X w hr rfl dX6_reforms_48
  · have e0 := itn _ c6 e0
    refine lv_iconst (v := 1) hx hb dX6_reforms_35 (by decide) ?_
    have e0 := Option.some.inj e0
    subst e0
    exact c_zret X w hr rfl dX6_reforms_36
set_option maxRecDepth 20000 in
theorem fX6_reforms_met (l : Launch) (D : va_G) (y : ClassId) (yS : ClassId × ClassId) (q : Nat → Nat) (sz n : Nat) (u : Nat) (hu : u < 2) (a1 : Int32) (a2 : Int32) (I : Nat → Int32) (R : Nat → Nat → Int32) (z : Int32 × mSt) (e0 : fX6_reforms n u a1 a2 I R = some z) : Met l yX6_reforms wsX6_reforms rmX6_reforms (va_Pc [.ref (q (100 + 100 * u)), .int a1, .int a2] (cPre D y yS q sz I R)) (cQi D y yS q (cS y yS q sz) z) 0 0 (cS y yS q sz) := by
  refine Met.ofW (cc := cX6_reforms) (maxL := 4) (ret := some .boolean) (by decide) rfl ?_
  intro p e s m args below meth c s₁ B hml hv
  obtain ⟨rfl, hsz, hP, hK, hN, hD⟩ := hv
  subst hsz
  have hl := lv_entry ([.ref (q (100 + 100 * u)), .int a1, .int a2]) (n := 4) (Nat.le_of_ble_eq_true rfl)
  rw [lg_entry_eq]
  exact fX6_reforms_w (s := s) hu ⟨⟨B.exec, B.bytes, hml, findClass_of_methodNamed B.named, atoms_spec (ws := wsX6_reforms) B.pre⟩, hK, hN⟩ ⟨B.returns, B.notSynchronized⟩ ⟨hP, cS_D hD, va_S.rf⟩ hl e0
theorem in_X6_toggle_X6 : ∀ w ∈ wsX60, w ∈ wsX6_toggle := fun _ h9 => List.mem_cons_of_mem _ (List.mem_append_left _ (List.mem_append_right _ h9))
theorem in_X6_toggle_X2 : ∀ w ∈ wsX20, w ∈ wsX6_toggle := fun _ h9 => List.mem_cons_of_mem _ (List.mem_append_right _ h9)
def rmX6_toggle : Room := { frames := 0, cells := 0, slots := 0, locals := 0 }
def fX6_toggle (n : Nat) (u : Nat) (a1 : Int32) (a2 : Int32) (a3 : Int32) (I : Nat → Int32) (R : Nat → Nat → Int32) : Option (Int32 × mSt) :=
  if inb a1 4 = true then
  if inb a1 4 = true then
  if inb a1 4 = true then
  if ((getA (setA R (117 + 100 * u) a1 ((getA R (117 + 100 * u) a1) ^^^ (1 <<< (((4 * a2) + a3) &&& 31)))) (117 + 100 * u) a1) &&& (1 <<< (((4 * a2) + a3) &&& 31))) = 0 then
    some (0, (upd I (105 + 100 * u) 0), (setA R (117 + 100 * u) a1 ((getA R (117 + 100 * u) a1) ^^^ (1 <<< (((4 * a2) + a3) &&& 31)))))
  else
    some (1, (upd I (105 + 100 * u) 0), (setA R (117 + 100 * u) a1 ((getA R (117 + 100 * u) a1) ^^^ (1 <<< (((4 * a2) + a3) &&& 31)))))
  else none
  else none
  else none
set_option maxRecDepth 20000 in
set_option maxHeartbeats 2000000 in
theorem fX6_toggle_w {p : Program} {l : Launch} {e : Env} {s : State} {m : MethodId} {args : Array Value} {below : List Frame} {meth : Method} {c : Code} {D : va_G} {y : ClassId} {yS : ClassId × ClassId} {q : Nat → Nat} {n : Nat} {z : Int32 × mSt} {u : Nat} (hu : u < 2) (X : cX p s m args c cX6_toggle 5 wsX6_toggle RX6 D y yS) (hr : meth.sig.returnType = some .boolean ∧ meth.locks = false) {a1 : Int32} {a2 : Int32} {a3 : Int32} {I : Nat → Int32} {R : Nat → Nat → Int32} {H : Heap} {locs : List Loc} {ls : Array Slot} (w : cH s D y yS q H locs I R) (hl : lv_has ls 5 [(0, .ref (q (100 + 100 * u))), (1, .int a1), (2, .int a2), (3, .int a3)]) (e0 : fX6_toggle n u a1 a2 a3 I R = some z) : W p l e rmX6_toggle s m args below meth c H locs 0 0 (MQ below (cQi D y yS q (cS y yS q s.heap.size) z) args s 0 0 (cS y yS q s.heap.size)) (F0 m 0 ls []) := by
  have hx := X.1.1
  have hb := X.1.2.1
  unfold fX6_toggle at e0
  refine lv_iconst (v := 1) hx hb dX6_toggle_0 (by decide) ?_
  refine lv_iconst (v := 4) hx hb dX6_toggle_1 (by decide) ?_
  refine lv_iload_n hx hb dX6_toggle_2 rfl (lv_at hl 2 rfl) ?_
  refine lv_imul hx hb dX6_toggle_3 ?_
  refine lv_iload_n hx hb dX6_toggle_4 rfl (lv_at hl 3 rfl) ?_
  refine lv_iadd hx hb dX6_toggle_5 ?_
  refine lv_ishl hx hb dX6_toggle_6 ?_
  refine lv_istore (lv' := [(4, .int (1 <<< (((4 * a2) + a3) &&& 31))), (0, .ref (q (100 + 100 * u))), (1, .int a1), (2, .int a2), (3, .int a3)]) hx hb dX6_toggle_7 hl (by decide) rfl (fun ls hl => ?_)
  refine lv_aload_n hx hb dX6_toggle_9 rfl (lv_at hl 1 rfl) ?_
  refine c_get X w (cat_WO _ _ _ _ _ u hu) rfl in_X6_toggle_X6 0 (by decide) (index := 41) rfl (by decide +kernel) (cf_WO_0 _ _ _) dX6_toggle_10 ?_
  refine c_get X w (cat_PR _ _ _ _ _ u hu) rfl in_X6_toggle_X2 6 (by decide) (index := 64) rfl (by decide +kernel) (cf_PR_6 _ _ _) dX6_toggle_13 ?_
  refine lv_iload_n hx hb dX6_toggle_16 rfl (lv_at hl 2 rfl) ?_
  refine lv_dup2_11 hx hb dX6_toggle_17 rfl rfl ?_
  refine gd e0 (fun g1 e0 => ?_)
  refine c_ald X w (cat_a117 _ _ _ _ _ u hu) g1 dX6_toggle_18 ?_
  refine lv_iload hx hb dX6_toggle_19 (lv_at hl 0 rfl) ?_
  refine lv_ixor hx hb dX6_toggle_21 ?_
  refine gd e0 (fun g2 e0 => ?_)
  refine c_ast X w (cat_a117 _ _ _ _ _ u hu) (cset_a117 _ _ _ _ _ u hu) g2 dX6_toggle_22 (fun H locs w => ?_)
  refine lv_aload_n hx hb dX6_toggle_23 rfl (lv_at hl 1 rfl) ?_
  refine lv_iconst (v := 0) hx hb dX6_toggle_24 (by decide) ?_
  refine c_put X w (cat_WO _ _ _ _ _ u hu) rfl in_X6_toggle_X6 tyX6 tyX6_ok nmX6 4 (by decide) (index := 48) (ty := .boolean) rfl (by decide +kernel) rfl (by decide +kernel) rfl rfl (Nat.le_of_ble_eq_true rfl) (cset_WO_4 _ _ _ _ _ u hu _) dX6_toggle_25 (fun H locs w => ?_)
  refine lv_aload_n hx hb dX6_toggle_28 rfl (lv_at hl 1 rfl) ?_
  refine c_get X w (cat_WO _ _ _ _ _ u hu) rfl in_X6_toggle_X6 0 (by decide) (index := 41) rfl (by decide +kernel) (cf_WO_0 _ _ _) dX6_toggle_29 ?_
  refine c_get X w (cat_PR _ _ _ _ _ u hu) rfl in_X6_toggle_X2 6 (by decide) (index := 64) rfl (by decide +kernel) (cf_PR_6 _ _ _) dX6_toggle_32 ?_
  refine lv_iload_n hx hb dX6_toggle_35 rfl (lv_at hl 2 rfl) ?_
  refine gd e0 (fun g3 e0 => ?_)
  refine c_ald X w (cat_a117 _ _ _ _ _ u hu) g3 dX6_toggle_36 ?_
  refine lv_iload hx hb dX6_toggle_37 (lv_at hl 0 rfl) ?_
  refine lv_iand hx hb dX6_toggle_39 ?_
  refine lv_if_eq (tgt := 47) hx hb dX6_toggle_40 (by decide) (fun c4 => ?_) (fun c4 => ?_)
  · have e0 := itp _ c4 e0
    refine lv_iconst (v := 0) hx hb dX6_toggle_47 (by decide) ?_
    have e0 := Option.some.inj e0
    subst e0
    exact c_zret X w hr rfl dX6_toggle_48
  · have e0 := itn _ c4 e0
    refine lv_iconst (v := 1) hx hb dX6_toggle_43 (by decide) ?_
    refine lv_goto (tgt := 48) hx hb dX6_toggle_44 (by decide) ?_
    have e0 := Option.some.inj e0
    subst e0
    exact c_zret X w hr rfl dX6_toggle_48
set_option maxRecDepth 20000 in
theorem fX6_toggle_met (l : Launch) (D : va_G) (y : ClassId) (yS : ClassId × ClassId) (q : Nat → Nat) (sz n : Nat) (u : Nat) (hu : u < 2) (a1 : Int32) (a2 : Int32) (a3 : Int32) (I : Nat → Int32) (R : Nat → Nat → Int32) (z : Int32 × mSt) (e0 : fX6_toggle n u a1 a2 a3 I R = some z) : Met l yX6_toggle wsX6_toggle rmX6_toggle (va_Pc [.ref (q (100 + 100 * u)), .int a1, .int a2, .int a3] (cPre D y yS q sz I R)) (cQi D y yS q (cS y yS q sz) z) 0 0 (cS y yS q sz) := by
  refine Met.ofW (cc := cX6_toggle) (maxL := 5) (ret := some .boolean) (by decide) rfl ?_
  intro p e s m args below meth c s₁ B hml hv
  obtain ⟨rfl, hsz, hP, hK, hN, hD⟩ := hv
  subst hsz
  have hl := lv_entry ([.ref (q (100 + 100 * u)), .int a1, .int a2, .int a3]) (n := 5) (Nat.le_of_ble_eq_true rfl)
  rw [lg_entry_eq]
  exact fX6_toggle_w (s := s) hu ⟨⟨B.exec, B.bytes, hml, findClass_of_methodNamed B.named, atoms_spec (ws := wsX6_toggle) B.pre⟩, hK, hN⟩ ⟨B.returns, B.notSynchronized⟩ ⟨hP, cS_D hD, va_S.rf⟩ hl e0
theorem in_X6_middles_X6 : ∀ w ∈ wsX60, w ∈ wsX6_middles := fun _ h9 => List.mem_cons_of_mem _ (List.mem_append_left _ (List.mem_append_right _ h9))
theorem in_X6_middles_X3 : ∀ w ∈ wsX30, w ∈ wsX6_middles := fun _ h9 => List.mem_cons_of_mem _ (List.mem_append_right _ h9)
def rmX6_middles : Room := { frames := 1, cells := 0, slots := 0, locals := 21 }
def fX6_middles_b37 (n : Nat) (u : Nat) (k5 : Int32 → Int32 → Int32 → Int32 → (Nat → Int32) → (Nat → Nat → Int32) → Option (Int32 × mSt)) (a1 : Int32) (a2 : Int32) (a3 : Int32) (a4 : Int32) (I : Nat → Int32) (R : Nat → Nat → Int32) : Option (Int32 × mSt) :=
  k5 a1 a2 a3 (a4 + 1) I R
set_option maxRecDepth 20000 in
set_option maxHeartbeats 2000000 in
theorem fX6_middles_b37_w {p : Program} {l : Launch} {e : Env} {s : State} {m : MethodId} {args : Array Value} {below : List Frame} {meth : Method} {c : Code} {D : va_G} {y : ClassId} {yS : ClassId × ClassId} {q : Nat → Nat} {n : Nat} {z : Int32 × mSt} {u : Nat} (hu : u < 2) (X : cX p s m args c cX6_middles 5 wsX6_middles RX6 D y yS) (hr : meth.sig.returnType = some .int ∧ meth.locks = false) {k5 : Int32 → Int32 → Int32 → Int32 → (Nat → Int32) → (Nat → Nat → Int32) → Option (Int32 × mSt)} (hk5 : ∀ (a1 : Int32) (a2 : Int32) (a3 : Int32) (a4 : Int32) (I : Nat → Int32) (R : Nat → Nat → Int32) (H : Heap) (locs : List Loc) (ls : Array Slot), cH s D y yS q H locs I R → lv_has ls 5 [(0, .ref (q (100 + 100 * u))), (1, .int a1), (2, .int a2), (3, .int a3), (4, .int a4)] → k5 a1 a2 a3 a4 I R = some z → W p l e rmX6_middles s m args below meth c H locs 0 0 (MQ below (cQi D y yS q (cS y yS q s.heap.size) z) args s 0 0 (cS y yS q s.heap.size)) (F0 m 5 ls [])) {a1 : Int32} {a2 : Int32} {a3 : Int32} {a4 : Int32} {I : Nat → Int32} {R : Nat → Nat → Int32} {H : Heap} {locs : List Loc} {ls : Array Slot} (w : cH s D y yS q H locs I R) (hl : lv_has ls 5 [(0, .ref (q (100 + 100 * u))), (1, .int a1), (2, .int a2), (3, .int a3), (4, .int a4)]) (e0 : fX6_middles_b37 n u k5 a1 a2 a3 a4 I R = some z) : W p l e rmX6_middles s m args below meth c H locs 0 0 (MQ below (cQi D y yS q (cS y yS q s.heap.size) z) args s 0 0 (cS y yS q s.heap.size)) (F0 m 37 ls []) := by
  have hx := X.1.1
  have hb := X.1.2.1
  unfold fX6_middles_b37 at e0
  refine lv_iinc (v := (a4 + 1)) (lv' := [(4, .int (a4 + 1)), (0, .ref (q (100 + 100 * u))), (1, .int a1), (2, .int a2), (3, .int a3)]) hx hb dX6_middles_37 hl (k := 4) rfl rfl (by decide) rfl (fun ls hl => ?_)
  refine lv_goto (tgt := 5) hx hb dX6_middles_40 (by decide) ?_
  exact hk5 _ _ _ _ _ _ _ _ _ w (lv_sub hl [1, 2, 3, 4, 0] rfl) e0
def fX6_middles_b5 (n : Nat) (u : Nat) : Nat → Int32 → Int32 → Int32 → Int32 → (Nat → Int32) → (Nat → Nat → Int32) → Option (Int32 × mSt)
  | 0, _, _, _, _, _, _ => none
  | j + 1, a1, a2, a3, a4, I, R =>
    if 4 ≤ a4 then
      some (a3, I, R)
    else
      if ((a2 >>> (a4 &&& 31)) &&& 1) = 0 then
        fX6_middles_b37 n u (fX6_middles_b5 n u j) a1 a2 a3 a4 I R
      else
        if inb a1 4 = true then
        (fX7_rowOf n (getA R (143 + 100 * u) a1) a4).bind fun z2 =>
        fX6_middles_b37 n u (fX6_middles_b5 n u j) a1 a2 (a3 ||| z2) a4 I R
        else none
set_option maxRecDepth 20000 in
set_option maxHeartbeats 2000000 in
theorem fX6_middles_b5_w {p : Program} {l : Launch} {e : Env} {s : State} {m : MethodId} {args : Array Value} {below : List Frame} {meth : Method} {c : Code} {D : va_G} {y : ClassId} {yS : ClassId × ClassId} {q : Nat → Nat} {n : Nat} {z : Int32 × mSt} {u : Nat} (hu : u < 2) (X : cX p s m args c cX6_middles 5 wsX6_middles RX6 D y yS) (hr : meth.sig.returnType = some .int ∧ meth.locks = false) : ∀ (j : Nat) (a1 : Int32) (a2 : Int32) (a3 : Int32) (a4 : Int32) (I : Nat → Int32) (R : Nat → Nat → Int32) (H : Heap) (locs : List Loc) (ls : Array Slot), cH s D y yS q H locs I R → lv_has ls 5 [(0, .ref (q (100 + 100 * u))), (1, .int a1), (2, .int a2), (3, .int a3), (4, .int a4)] → fX6_middles_b5 n u j a1 a2 a3 a4 I R = some z → W p l e rmX6_middles s m args below meth c H locs 0 0 (MQ below (cQi D y yS q (cS y yS q s.heap.size) z) args s 0 0 (cS y yS q s.heap.size)) (F0 m 5 ls []) := by
  have hx := X.1.1
  have hb := X.1.2.1
  intro j
  induction j with
  | zero =>
    intro a1 a2 a3 a4 I R H locs ls w hl e0
    cases e0
  | succ j ih =>
    intro a1 a2 a3 a4 I R H locs ls w hl e0
    rw [fX6_middles_b5] at e0
    refine lv_iload hx hb dX6_middles_5 (lv_at hl 4 rfl) ?_
    refine lv_iconst (v := 4) hx hb dX6_middles_7 (by decide) ?_
    refine lv_icmp_ge (tgt := 43) hx hb dX6_middles_8 (by decide) (fun c5 => ?_) (fun c5 => ?_)
    · have e0 := itp _ c5 e0
      refine lv_iload_n hx hb dX6_middles_43 rfl (lv_at hl 3 rfl) ?_
      have e0 := Option.some.inj e0
      subst e0
      exact c_iret X w hr dX6_middles_44
    · have e0 := itn _ c5 e0
      refine lv_iload_n hx hb dX6_middles_11 rfl (lv_at hl 2 rfl) ?_
      refine lv_iload hx hb dX6_middles_12 (lv_at hl 4 rfl) ?_
      refine lv_ishr hx hb dX6_middles_14 ?_
      refine lv_iconst (v := 1) hx hb dX6_middles_15 (by decide) ?_
      refine lv_iand hx hb dX6_middles_16 ?_
      refine lv_if_eq (tgt := 37) hx hb dX6_middles_17 (by decide) (fun c4 => ?_) (fun c4 => ?_)
      · have e0 := itp _ c4 e0
        exact fX6_middles_b37_w (l := l) hu X hr ih w (lv_sub hl [0, 1, 2, 3, 4] rfl) e0
      · have e0 := itn _ c4 e0
        refine lv_iload_n hx hb dX6_middles_20 rfl (lv_at hl 3 rfl) ?_
        refine lv_aload_n hx hb dX6_middles_21 rfl (lv_at hl 0 rfl) ?_
        refine c_get X w (cat_WO _ _ _ _ _ u hu) rfl in_X6_middles_X6 2 (by decide) (index := 33) rfl (by decide +kernel) (cf_WO_2 _ _ _) dX6_middles_22 ?_
        refine c_get X w (cat_RO _ _ _ _ _ u hu) rfl in_X6_middles_X3 2 (by decide) (index := 90) rfl (by decide +kernel) (cf_RO_2 _ _ _) dX6_middles_25 ?_
        refine lv_iload_n hx hb dX6_middles_28 rfl (lv_at hl 1 rfl) ?_
        refine gd e0 (fun g1 e0 => ?_)
        refine c_ald X w (cat_a143 _ _ _ _ _ u hu) g1 dX6_middles_29 ?_
        refine lv_iload hx hb dX6_middles_30 (lv_at hl 4 rfl) ?_
        refine bd e0 (fun z2 e3 e0 => ?_)
        refine c_callni X w (n := 2) (As := [.int (getA R (143 + 100 * u) a1), .int a4]) (rest := [.int a3]) (fX7_rowOf_met l _ _ _ _ e3) gX6_middles_X7_rowOf_n78 (X.2.2.2.2.2) (by decide +kernel) (by decide +kernel) rfl rfl rfl (by decide +kernel) ⟨Nat.le_of_ble_eq_true rfl, Nat.le_of_ble_eq_true rfl⟩ rfl hl.1 rfl (Nat.le_of_ble_eq_true rfl) dX6_middles_32 (fun H locs w => ?_)
        refine lv_ior hx hb dX6_middles_35 ?_
        refine lv_istore_n (lv' := [(3, .int (a3 ||| z2)), (0, .ref (q (100 + 100 * u))), (1, .int a1), (2, .int a2), (4, .int a4)]) hx hb dX6_middles_36 rfl hl (by decide) rfl (fun ls hl => ?_)
        exact fX6_middles_b37_w (l := l) hu X hr ih w (lv_sub hl [1, 2, 3, 0, 4] rfl) e0
def fX6_middles (n : Nat) (u : Nat) (a1 : Int32) (a2 : Int32) (I : Nat → Int32) (R : Nat → Nat → Int32) : Option (Int32 × mSt) :=
  fX6_middles_b5 n u n a1 a2 0 0 I R
set_option maxRecDepth 20000 in
set_option maxHeartbeats 2000000 in
theorem fX6_middles_w {p : Program} {l : Launch} {e : Env} {s : State} {m : MethodId} {args : Array Value} {below : List Frame} {meth : Method} {c : Code} {D : va_G} {y : ClassId} {yS : ClassId × ClassId} {q : Nat → Nat} {n : Nat} {z : Int32 × mSt} {u : Nat} (hu : u < 2) (X : cX p s m args c cX6_middles 5 wsX6_middles RX6 D y yS) (hr : meth.sig.returnType = some .int ∧ meth.locks = false) {a1 : Int32} {a2 : Int32} {I : Nat → Int32} {R : Nat → Nat → Int32} {H : Heap} {locs : List Loc} {ls : Array Slot} (w : cH s D y yS q H locs I R) (hl : lv_has ls 5 [(0, .ref (q (100 + 100 * u))), (1, .int a1), (2, .int a2)]) (e0 : fX6_middles n u a1 a2 I R = some z) : W p l e rmX6_middles s m args below meth c H locs 0 0 (MQ below (cQi D y yS q (cS y yS q s.heap.size) z) args s 0 0 (cS y yS q s.heap.size)) (F0 m 0 ls []) := by
  have hx := X.1.1
  have hb := X.1.2.1
  unfold fX6_middles at e0
  refine lv_iconst (v := 0) hx hb dX6_middles_0 (by decide) ?_
  refine lv_istore_n (lv' := [(3, .int 0), (0, .ref (q (100 + 100 * u))), (1, .int a1), (2, .int a2)]) hx hb dX6_middles_1 rfl hl (by decide) rfl (fun ls hl => ?_)
  refine lv_iconst (v := 0) hx hb dX6_middles_2 (by decide) ?_
  refine lv_istore (lv' := [(4, .int 0), (3, .int 0), (0, .ref (q (100 + 100 * u))), (1, .int a1), (2, .int a2)]) hx hb dX6_middles_3 hl (by decide) rfl (fun ls hl => ?_)
  exact fX6_middles_b5_w (l := l) hu X hr n _ _ _ _ _ _ _ _ _ w (lv_sub hl [2, 3, 4, 1, 0] rfl) e0
set_option maxRecDepth 20000 in
theorem fX6_middles_met (l : Launch) (D : va_G) (y : ClassId) (yS : ClassId × ClassId) (q : Nat → Nat) (sz n : Nat) (u : Nat) (hu : u < 2) (a1 : Int32) (a2 : Int32) (I : Nat → Int32) (R : Nat → Nat → Int32) (z : Int32 × mSt) (e0 : fX6_middles n u a1 a2 I R = some z) : Met l yX6_middles wsX6_middles rmX6_middles (va_Pc [.ref (q (100 + 100 * u)), .int a1, .int a2] (cPre D y yS q sz I R)) (cQi D y yS q (cS y yS q sz) z) 0 0 (cS y yS q sz) := by
  refine Met.ofW (cc := cX6_middles) (maxL := 5) (ret := some .int) (by decide) rfl ?_
  intro p e s m args below meth c s₁ B hml hv
  obtain ⟨rfl, hsz, hP, hK, hN, hD⟩ := hv
  subst hsz
  have hl := lv_entry ([.ref (q (100 + 100 * u)), .int a1, .int a2]) (n := 5) (Nat.le_of_ble_eq_true rfl)
  rw [lg_entry_eq]
  exact fX6_middles_w (s := s) hu ⟨⟨B.exec, B.bytes, hml, findClass_of_methodNamed B.named, atoms_spec (ws := wsX6_middles) B.pre⟩, hK, hN⟩ ⟨B.returns, B.notSynchronized⟩ ⟨hP, cS_D hD, va_S.rf⟩ hl e0
theorem in_X6_demandsBy_X6 : ∀ w ∈ wsX60, w ∈ wsX6_demandsBy := fun _ h9 => List.mem_cons_of_mem _ (List.mem_append_left _ (List.mem_append_left _ (List.mem_append_right _ h9)))
theorem in_X6_demandsBy_X2 : ∀ w ∈ wsX20, w ∈ wsX6_demandsBy := fun _ h9 => List.mem_cons_of_mem _ (List.mem_append_left _ (List.mem_append_right _ h9))
theorem in_X6_demandsBy_X3 : ∀ w ∈ wsX30, w ∈ wsX6_demandsBy := fun _ h9 => List.mem_cons_of_mem _ (List.mem_append_right _ h9)
def rmX6_demandsBy : Room := { frames := 2, cells := 0, slots := 0, locals := 45 }
def fX6_demandsBy (n : Nat) (u : Nat) (a1 : Int32) (a2 : Int32) (I : Nat → Int32) (R : Nat → Nat → Int32) : Option (Int32 × mSt) :=
  if inb a1 5 = true then
  (fX7_rowOf n a2 (getA R (114 + 100 * u) a1)).bind fun z2 =>
  if inb a1 5 = true then
  if inb a1 5 = true then
  if z2 = 0 then
    some (0, I, R)
  else
    if inb a1 5 = true then
    if (getA R (113 + 100 * u) a1) = 1 then
      some ((15 <<< ((4 * (getA R (115 + 100 * u) a1)) &&& 31)), I, R)
    else
      if (getA R (113 + 100 * u) a1) = 2 then
        if inb a1 5 = true then
        (fX6_middles n u (getA R (115 + 100 * u) a1) z2 I R).bind fun z11 =>
        some (((z2 <<< ((4 * (getA R (115 + 100 * u) a1)) &&& 31)) ||| (z11.1 <<< ((4 * (getA R (116 + 100 * u) a1)) &&& 31))), z11.2.1, z11.2.2)
        else none
      else
        if (getA R (113 + 100 * u) a1) = 3 then
          some (((z2 <<< ((4 * (getA R (115 + 100 * u) a1)) &&& 31)) ||| (z2 <<< ((4 * (getA R (116 + 100 * u) a1)) &&& 31))), I, R)
        else
          some ((z2 <<< ((4 * (getA R (115 + 100 * u) a1)) &&& 31)), I, R)
    else none
  else none
  else none
  else none
set_option maxRecDepth 20000 in
set_option maxHeartbeats 2000000 in
theorem fX6_demandsBy_w {p : Program} {l : Launch} {e : Env} {s : State} {m : MethodId} {args : Array Value} {below : List Frame} {meth : Method} {c : Code} {D : va_G} {y : ClassId} {yS : ClassId × ClassId} {q : Nat → Nat} {n : Nat} {z : Int32 × mSt} {u : Nat} (hu : u < 2) (X : cX p s m args c cX6_demandsBy 6 wsX6_demandsBy RX6 D y yS) (hr : meth.sig.returnType = some .int ∧ meth.locks = false) {a1 : Int32} {a2 : Int32} {I : Nat → Int32} {R : Nat → Nat → Int32} {H : Heap} {locs : List Loc} {ls : Array Slot} (w : cH s D y yS q H locs I R) (hl : lv_has ls 6 [(0, .ref (q (100 + 100 * u))), (1, .int a1), (2, .int a2)]) (e0 : fX6_demandsBy n u a1 a2 I R = some z) : W p l e rmX6_demandsBy s m args below meth c H locs 0 0 (MQ below (cQi D y yS q (cS y yS q s.heap.size) z) args s 0 0 (cS y yS q s.heap.size)) (F0 m 0 ls []) := by
  have hx := X.1.1
  have hb := X.1.2.1
  unfold fX6_demandsBy at e0
  refine lv_iload_n hx hb dX6_demandsBy_0 rfl (lv_at hl 2 rfl) ?_
  refine lv_aload_n hx hb dX6_demandsBy_1 rfl (lv_at hl 0 rfl) ?_
  refine c_get X w (cat_WO _ _ _ _ _ u hu) rfl in_X6_demandsBy_X6 0 (by decide) (index := 41) rfl (by decide +kernel) (cf_WO_0 _ _ _) dX6_demandsBy_2 ?_
  refine c_get X w (cat_PR _ _ _ _ _ u hu) rfl in_X6_demandsBy_X2 3 (by decide) (index := 75) rfl (by decide +kernel) (cf_PR_3 _ _ _) dX6_demandsBy_5 ?_
  refine lv_iload_n hx hb dX6_demandsBy_8 rfl (lv_at hl 1 rfl) ?_
  refine gd e0 (fun g1 e0 => ?_)
  refine c_ald X w (cat_a114 _ _ _ _ _ u hu) g1 dX6_demandsBy_9 ?_
  refine bd e0 (fun z2 e3 e0 => ?_)
  refine c_callni X w (n := 2) (As := [.int a2, .int (getA R (114 + 100 * u) a1)]) (rest := []) (fX7_rowOf_met l _ _ _ _ e3) gX6_demandsBy_X7_rowOf_n78 (X.2.2.2.2.2) (by decide +kernel) (by decide +kernel) rfl rfl rfl (by decide +kernel) ⟨Nat.le_of_ble_eq_true rfl, Nat.le_of_ble_eq_true rfl⟩ rfl hl.1 rfl (Nat.le_of_ble_eq_true rfl) dX6_demandsBy_10 (fun H locs w => ?_)
  refine lv_istore_n (lv' := [(3, .int z2), (0, .ref (q (100 + 100 * u))), (1, .int a1), (2, .int a2)]) hx hb dX6_demandsBy_13 rfl hl (by decide) rfl (fun ls hl => ?_)
  refine lv_iconst (v := 4) hx hb dX6_demandsBy_14 (by decide) ?_
  refine lv_aload_n hx hb dX6_demandsBy_15 rfl (lv_at hl 1 rfl) ?_
  refine c_get X w (cat_WO _ _ _ _ _ u hu) rfl in_X6_demandsBy_X6 0 (by decide) (index := 41) rfl (by decide +kernel) (cf_WO_0 _ _ _) dX6_demandsBy_16 ?_
  refine c_get X w (cat_PR _ _ _ _ _ u hu) rfl in_X6_demandsBy_X2 4 (by decide) (index := 81) rfl (by decide +kernel) (cf_PR_4 _ _ _) dX6_demandsBy_19 ?_
  refine lv_iload_n hx hb dX6_demandsBy_22 rfl (lv_at hl 2 rfl) ?_
  refine gd e0 (fun g4 e0 => ?_)
  refine c_ald X w (cat_a115 _ _ _ _ _ u hu) g4 dX6_demandsBy_23 ?_
  refine lv_imul hx hb dX6_demandsBy_24 ?_
  refine lv_istore (lv' := [(4, .int (4 * (getA R (115 + 100 * u) a1))), (3, .int z2), (0, .ref (q (100 + 100 * u))), (1, .int a1), (2, .int a2)]) hx hb dX6_demandsBy_25 hl (by decide) rfl (fun ls hl => ?_)
  refine lv_iconst (v := 4) hx hb dX6_demandsBy_27 (by decide) ?_
  refine lv_aload_n hx hb dX6_demandsBy_28 rfl (lv_at hl 2 rfl) ?_
  refine c_get X w (cat_WO _ _ _ _ _ u hu) rfl in_X6_demandsBy_X6 0 (by decide) (index := 41) rfl (by decide +kernel) (cf_WO_0 _ _ _) dX6_demandsBy_29 ?_
  refine c_get X w (cat_PR _ _ _ _ _ u hu) rfl in_X6_demandsBy_X2 5 (by decide) (index := 84) rfl (by decide +kernel) (cf_PR_5 _ _ _) dX6_demandsBy_32 ?_
  refine lv_iload_n hx hb dX6_demandsBy_35 rfl (lv_at hl 3 rfl) ?_
  refine gd e0 (fun g5 e0 => ?_)
  refine c_ald X w (cat_a116 _ _ _ _ _ u hu) g5 dX6_demandsBy_36 ?_
  refine lv_imul hx hb dX6_demandsBy_37 ?_
  refine lv_istore (lv' := [(5, .int (4 * (getA R (116 + 100 * u) a1))), (4, .int (4 * (getA R (115 + 100 * u) a1))), (3, .int z2), (0, .ref (q (100 + 100 * u))), (1, .int a1), (2, .int a2)]) hx hb dX6_demandsBy_38 hl (by decide) rfl (fun ls hl => ?_)
  refine lv_iload_n hx hb dX6_demandsBy_40 rfl (lv_at hl 2 rfl) ?_
  refine lv_if_ne (tgt := 46) hx hb dX6_demandsBy_41 (by decide) (fun c13 => ?_) (fun c13 => ?_)
  · have e0 := itn _ c13 e0
    refine lv_aload_n hx hb dX6_demandsBy_46 rfl (lv_at hl 3 rfl) ?_
    refine c_get X w (cat_WO _ _ _ _ _ u hu) rfl in_X6_demandsBy_X6 0 (by decide) (index := 41) rfl (by decide +kernel) (cf_WO_0 _ _ _) dX6_demandsBy_47 ?_
    refine c_get X w (cat_PR _ _ _ _ _ u hu) rfl in_X6_demandsBy_X2 2 (by decide) (index := 60) rfl (by decide +kernel) (cf_PR_2 _ _ _) dX6_demandsBy_50 ?_
    refine lv_iload_n hx hb dX6_demandsBy_53 rfl (lv_at hl 4 rfl) ?_
    refine gd e0 (fun g6 e0 => ?_)
    refine c_ald X w (cat_a113 _ _ _ _ _ u hu) g6 dX6_demandsBy_54 ?_
    by_cases c7 : (getA R (113 + 100 * u) a1) = 1
    · have e0 := itp _ c7 e0
      refine lv_tableIn (off := 25) (tgt := 80) hx hb dX6_demandsBy_55 (by rw [c7]; decide) (by rw [c7]; decide) (by rw [c7]; decide) (by decide) ?_
      refine lv_bipush (v := 15) hx hb dX6_demandsBy_80 (by decide) ?_
      refine lv_iload hx hb dX6_demandsBy_82 (lv_at hl 1 rfl) ?_
      refine lv_ishl hx hb dX6_demandsBy_84 ?_
      have e0 := Option.some.inj e0
      subst e0
      exact c_iret X w hr dX6_demandsBy_85
    · have e0 := itn _ c7 e0
      by_cases c8 : (getA R (113 + 100 * u) a1) = 2
      · have e0 := itp _ c8 e0
        refine lv_tableIn (off := 31) (tgt := 86) hx hb dX6_demandsBy_55 (by rw [c8]; decide) (by rw [c8]; decide) (by rw [c8]; decide) (by decide) ?_
        refine lv_iload_n hx hb dX6_demandsBy_86 rfl (lv_at hl 2 rfl) ?_
        refine lv_iload hx hb dX6_demandsBy_87 (lv_at hl 1 rfl) ?_
        refine lv_ishl hx hb dX6_demandsBy_89 ?_
        refine lv_aload_n hx hb dX6_demandsBy_90 rfl (lv_at hl 3 rfl) ?_
        refine lv_aload_n hx hb dX6_demandsBy_91 rfl (lv_at hl 3 rfl) ?_
        refine c_get X w (cat_WO _ _ _ _ _ u hu) rfl in_X6_demandsBy_X6 0 (by decide) (index := 41) rfl (by decide +kernel) (cf_WO_0 _ _ _) dX6_demandsBy_92 ?_
        refine c_get X w (cat_PR _ _ _ _ _ u hu) rfl in_X6_demandsBy_X2 4 (by decide) (index := 81) rfl (by decide +kernel) (cf_PR_4 _ _ _) dX6_demandsBy_95 ?_
        refine lv_iload_n hx hb dX6_demandsBy_98 rfl (lv_at hl 4 rfl) ?_
        refine gd e0 (fun g10 e0 => ?_)
        refine c_ald X w (cat_a115 _ _ _ _ _ u hu) g10 dX6_demandsBy_99 ?_
        refine lv_iload_n hx hb dX6_demandsBy_100 rfl (lv_at hl 2 rfl) ?_
        refine bd e0 (fun z11 e12 e0 => ?_)
        refine c_calli X w (c_rec X w (cat_WO _ _ _ _ _ u hu) rfl) (n := 2) (As := [.int (getA R (115 + 100 * u) a1), .int z2]) (rest := [.int (z2 <<< ((4 * (getA R (115 + 100 * u) a1)) &&& 31))]) (fX6_middles_met l _ _ _ _ _ _ _ hu _ _ _ _ _ e12) gX6_demandsBy_X6_middles rfl rfl rfl (by decide +kernel) ⟨Nat.le_of_ble_eq_true rfl, Nat.le_of_ble_eq_true rfl⟩ rfl hl.1 rfl (Nat.le_of_ble_eq_true rfl) dX6_demandsBy_101 (fun H locs w => ?_)
        refine lv_iload hx hb dX6_demandsBy_104 (lv_at hl 0 rfl) ?_
        refine lv_ishl hx hb dX6_demandsBy_106 ?_
        refine lv_ior hx hb dX6_demandsBy_107 ?_
        have e0 := Option.some.inj e0
        subst e0
        exact c_iret X w hr dX6_demandsBy_108
      · have e0 := itn _ c8 e0
        by_cases c9 : (getA R (113 + 100 * u) a1) = 3
        · have e0 := itp _ c9 e0
          refine lv_tableIn (off := 54) (tgt := 109) hx hb dX6_demandsBy_55 (by rw [c9]; decide) (by rw [c9]; decide) (by rw [c9]; decide) (by decide) ?_
          refine lv_iload_n hx hb dX6_demandsBy_109 rfl (lv_at hl 2 rfl) ?_
          refine lv_iload hx hb dX6_demandsBy_110 (lv_at hl 1 rfl) ?_
          refine lv_ishl hx hb dX6_demandsBy_112 ?_
          refine lv_iload_n hx hb dX6_demandsBy_113 rfl (lv_at hl 2 rfl) ?_
          refine lv_iload hx hb dX6_demandsBy_114 (lv_at hl 0 rfl) ?_
          refine lv_ishl hx hb dX6_demandsBy_116 ?_
          refine lv_ior hx hb dX6_demandsBy_117 ?_
          have e0 := Option.some.inj e0
          subst e0
          exact c_iret X w hr dX6_demandsBy_118
        · have e0 := itn _ c9 e0
          refine lv_tableOut (tgt := 119) hx hb dX6_demandsBy_55 (by have hc7 := lv_neT c7 (a := 1) (by decide); have hc8 := lv_neT c8 (a := 2) (by decide); have hc9 := lv_neT c9 (a := 3) (by decide); omega) (by decide) ?_
          refine lv_iload_n hx hb dX6_demandsBy_119 rfl (lv_at hl 2 rfl) ?_
          refine lv_iload hx hb dX6_demandsBy_120 (lv_at hl 1 rfl) ?_
          refine lv_ishl hx hb dX6_demandsBy_122 ?_
          have e0 := Option.some.inj e0
          subst e0
          exact c_iret X w hr dX6_demandsBy_123
  · have e0 := itp _ c13 e0
    refine lv_iconst (v := 0) hx hb dX6_demandsBy_44 (by decide) ?_
    have e0 := Option.some.inj e0
    subst e0
    exact c_iret X w hr dX6_demandsBy_45
set_option maxRecDepth 20000 in
theorem fX6_demandsBy_met (l : Launch) (D : va_G) (y : ClassId) (yS : ClassId × ClassId) (q : Nat → Nat) (sz n : Nat) (u : Nat) (hu : u < 2) (a1 : Int32) (a2 : Int32) (I : Nat → Int32) (R : Nat → Nat → Int32) (z : Int32 × mSt) (e0 : fX6_demandsBy n u a1 a2 I R = some z) : Met l yX6_demandsBy wsX6_demandsBy rmX6_demandsBy (va_Pc [.ref (q (100 + 100 * u)), .int a1, .int a2] (cPre D y yS q sz I R)) (cQi D y yS q (cS y yS q sz) z) 0 0 (cS y yS q sz) := by
  refine Met.ofW (cc := cX6_demandsBy) (maxL := 6) (ret := some .int) (by decide) rfl ?_
  intro p e s m args below meth c s₁ B hml hv
  obtain ⟨rfl, hsz, hP, hK, hN, hD⟩ := hv
  subst hsz
  have hl := lv_entry ([.ref (q (100 + 100 * u)), .int a1, .int a2]) (n := 6) (Nat.le_of_ble_eq_true rfl)
  rw [lg_entry_eq]
  exact fX6_demandsBy_w (s := s) hu ⟨⟨B.exec, B.bytes, hml, findClass_of_methodNamed B.named, atoms_spec (ws := wsX6_demandsBy) B.pre⟩, hK, hN⟩ ⟨B.returns, B.notSynchronized⟩ ⟨hP, cS_D hD, va_S.rf⟩ hl e0
