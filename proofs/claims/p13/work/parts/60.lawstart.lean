theorem hfX7 : ∀ j, j < 9 → defaultValue (tyX7 j) = vp_V [.null, .null, .null, .null, .null, .null, .int 0, .int 0, .int 0] j := by
  intro j hj
  match j, hj with
  | 0, _ => rfl
  | 1, _ => rfl
  | 2, _ => rfl
  | 3, _ => rfl
  | 4, _ => rfl
  | 5, _ => rfl
  | 6, _ => rfl
  | 7, _ => rfl
  | 8, _ => rfl
  | j + 9, h => exact absurd h (by omega)
theorem hfX8 : ∀ j, j < 34 → defaultValue (tyX8 j) = vp_V [.int 0, .int 0, .null, .null, .null, .int 0, .int 0, .null, .null, .null, .null, .null, .null, .null, .int 0, .int 0, .int 0, .int 0, .null, .null, .null, .null, .null, .null, .null, .int 0, .null, .null, .null, .null, .null, .int 0, .null, .null] j := by
  intro j hj
  match j, hj with
  | 0, _ => rfl
  | 1, _ => rfl
  | 2, _ => rfl
  | 3, _ => rfl
  | 4, _ => rfl
  | 5, _ => rfl
  | 6, _ => rfl
  | 7, _ => rfl
  | 8, _ => rfl
  | 9, _ => rfl
  | 10, _ => rfl
  | 11, _ => rfl
  | 12, _ => rfl
  | 13, _ => rfl
  | 14, _ => rfl
  | 15, _ => rfl
  | 16, _ => rfl
  | 17, _ => rfl
  | 18, _ => rfl
  | 19, _ => rfl
  | 20, _ => rfl
  | 21, _ => rfl
  | 22, _ => rfl
  | 23, _ => rfl
  | 24, _ => rfl
  | 25, _ => rfl
  | 26, _ => rfl
  | 27, _ => rfl
  | 28, _ => rfl
  | 29, _ => rfl
  | 30, _ => rfl
  | 31, _ => rfl
  | 32, _ => rfl
  | 33, _ => rfl
  | j + 34, h => exact absurd h (by omega)
theorem va_Pl {D : va_G} {cl : List vw_C} {w1 w2 : va_W} {H : Heap} (h : va_P D cl (w1 ++ w2) H) : va_P D cl w1 H := fun k x hx => h k x (by rw [List.getElem?_append_left (List.getElem?_eq_some_iff.mp hx).1]; exact hx)
theorem va_Pr {D : va_G} {cl : List vw_C} {w1 w2 : va_W} {H : Heap} (h : va_P D cl (w1 ++ w2) H) : va_P D cl w2 H := fun k x hx => h _ x (vaD_rat k x hx)

def kTm (i : Nat) : Term := if i = 0 then .string RX5 42 else if i = 1 then .string RX5 72 else .string RX5 80
set_option maxRecDepth 20000 in
theorem l_kS {args : Array Value} {s : State} (hts : ∀ w ∈ lw_tbl, w.before args s = true) (hgv : (Jvm.Cond.and given_1 narrow_1).before args s = true) : ∃ adK adV : Nat → Nat, kS adK adV (lA s) s s.heap ∧ kR adK s := by
  have hs := flat_of_before _ hgv
  have hA : ∀ a : Nat, a < s.heap.size → ¬ lA s a := fun a h => Nat.not_le.mpr h
  obtain ⟨adK, adV, hk, he⟩ := vk_Sof (args := args) (s := s) (N := 3) (tm := kTm) (len := kLen) (byt := kByt) (A := lA s) (fun i hi => kLen_lt i)
    (fun i hi => by
      match i, hi with
      | 0, _ => exact hs (Cond.exactly (.string RX5 42) "java/lang/String") (by decide +kernel)
      | 1, _ => exact hs (Cond.exactly (.string RX5 72) "java/lang/String") (by decide +kernel)
      | 2, _ => exact hs (Cond.exactly (.string RX5 80) "java/lang/String") (by decide +kernel)
      | i + 3, h => exact absurd h (by omega))
    (fun i hi => by
      match i, hi with
      | 0, _ => exact hs (Cond.eq (.field (.string RX5 42) "java/lang/String" "coder" "B") (.int 0)) (by decide +kernel)
      | 1, _ => exact hs (Cond.eq (.field (.string RX5 72) "java/lang/String" "coder" "B") (.int 0)) (by decide +kernel)
      | 2, _ => exact hs (Cond.eq (.field (.string RX5 80) "java/lang/String" "coder" "B") (.int 0)) (by decide +kernel)
      | i + 3, h => exact absurd h (by omega))
    (fun i hi => by
      match i, hi with
      | 0, _ => exact hs (Cond.arrayOf (.field (.string RX5 42) "java/lang/String" "value" "[B") .byte) (by decide +kernel)
      | 1, _ => exact hs (Cond.arrayOf (.field (.string RX5 72) "java/lang/String" "value" "[B") .byte) (by decide +kernel)
      | 2, _ => exact hs (Cond.arrayOf (.field (.string RX5 80) "java/lang/String" "value" "[B") .byte) (by decide +kernel)
      | i + 3, h => exact absurd h (by omega))
    (fun i hi => by
      match i, hi with
      | 0, _ => exact hs (Cond.eq (.length (.field (.string RX5 42) "java/lang/String" "value" "[B")) (.int 1)) (by decide +kernel)
      | 1, _ => exact hs (Cond.eq (.length (.field (.string RX5 72) "java/lang/String" "value" "[B")) (.int 3)) (by decide +kernel)
      | 2, _ => exact hs (Cond.eq (.length (.field (.string RX5 80) "java/lang/String" "value" "[B")) (.int 4)) (by decide +kernel)
      | i + 3, h => exact absurd h (by omega))
    (fun i hi => by
      match i, hi with
      | 0, _ =>
        intro j hj
        match j, hj with
        | 0, _ => exact hs (Cond.eq (.elem (.field (.string RX5 42) "java/lang/String" "value" "[B") (.int 0)) (.int 100)) (by decide +kernel)
        | j + 1, h => exact absurd h (by show ¬ j + 1 < 1; omega)
      | 1, _ =>
        intro j hj
        match j, hj with
        | 0, _ => exact hs (Cond.eq (.elem (.field (.string RX5 72) "java/lang/String" "value" "[B") (.int 0)) (.int 112)) (by decide +kernel)
        | 1, _ => exact hs (Cond.eq (.elem (.field (.string RX5 72) "java/lang/String" "value" "[B") (.int 1)) (.int 98)) (by decide +kernel)
        | 2, _ => exact hs (Cond.eq (.elem (.field (.string RX5 72) "java/lang/String" "value" "[B") (.int 2)) (.int 119)) (by decide +kernel)
        | j + 3, h => exact absurd h (by show ¬ j + 3 < 3; omega)
      | 2, _ =>
        intro j hj
        match j, hj with
        | 0, _ => exact hs (Cond.eq (.elem (.field (.string RX5 80) "java/lang/String" "value" "[B") (.int 0)) (.int 99)) (by decide +kernel)
        | 1, _ => exact hs (Cond.eq (.elem (.field (.string RX5 80) "java/lang/String" "value" "[B") (.int 1)) (.int 116)) (by decide +kernel)
        | 2, _ => exact hs (Cond.eq (.elem (.field (.string RX5 80) "java/lang/String" "value" "[B") (.int 2)) (.int 106)) (by decide +kernel)
        | 3, _ => exact hs (Cond.eq (.elem (.field (.string RX5 80) "java/lang/String" "value" "[B") (.int 3)) (.int 110)) (by decide +kernel)
        | j + 4, h => exact absurd h (by show ¬ j + 4 < 4; omega)
      | i + 3, h => exact absurd h (by omega))
    (fun i j hi hj hij => by
      match i, j, hi, hj, hij with
      | 0, 0, _, _, h => exact absurd rfl h
      | 1, 1, _, _, h => exact absurd rfl h
      | 2, 2, _, _, h => exact absurd rfl h
      | 0, 1, _, _, _ => exact Or.inl (hs (Cond.not (Cond.eq (.string RX5 42) (.string RX5 72))) (by decide +kernel))
      | 0, 2, _, _, _ => exact Or.inl (hs (Cond.not (Cond.eq (.string RX5 42) (.string RX5 80))) (by decide +kernel))
      | 1, 2, _, _, _ => exact Or.inl (hs (Cond.not (Cond.eq (.string RX5 72) (.string RX5 80))) (by decide +kernel))
      | 1, 0, _, _, _ => exact Or.inr (hs (Cond.not (Cond.eq (.string RX5 42) (.string RX5 72))) (by decide +kernel))
      | 2, 0, _, _, _ => exact Or.inr (hs (Cond.not (Cond.eq (.string RX5 42) (.string RX5 80))) (by decide +kernel))
      | 2, 1, _, _, _ => exact Or.inr (hs (Cond.not (Cond.eq (.string RX5 72) (.string RX5 80))) (by decide +kernel))
      | i + 3, _, h, _, _ => exact absurd h (by omega)
      | 0, j + 3, _, h, _ => exact absurd h (by omega)
      | 1, j + 3, _, h, _ => exact absurd h (by omega)
      | 2, j + 3, _, h, _ => exact absurd h (by omega)) hA
  refine ⟨adK, adV, ⟨hk, ?_, ?_⟩, ?_, ?_, ?_⟩
  · exact va_Zof (args := args) (hts (.laysStatic "java/lang/String" "COMPACT_STRINGS" "Z") (by decide +kernel)) (hts (.initialized "java/lang/String") (by decide +kernel)) (va_eqt (hs (Cond.eq (.static "java/lang/String" "COMPACT_STRINGS" "Z") (.int 1)) (by decide +kernel))) hA
  · exact va_Zqof (args := args) (hts (.laysStatic "jdk/internal/util/Preconditions" "SIOOBE_FORMATTER" "Ljava/util/function/BiFunction;") (by decide +kernel)) (hts (.initialized "jdk/internal/util/Preconditions") (by decide +kernel)) (hs (Cond.isRef (.static "jdk/internal/util/Preconditions" "SIOOBE_FORMATTER" "Ljava/util/function/BiFunction;")) (by decide +kernel)) hA
  · exact vk_R.of (A := args) (hts (.stringRef RX5 42 "d") (by decide +kernel)) (he 0 (by decide))
  · exact vk_R.of (A := args) (hts (.stringRef RX5 72 "pbw") (by decide +kernel)) (he 1 (by decide))
  · exact vk_R.of (A := args) (hts (.stringRef RX5 80 "ctjn") (by decide +kernel)) (he 2 (by decide))


set_option maxRecDepth 40000 in
set_option maxHeartbeats 8000000 in
theorem whole_of {Sim : mSt → mSt → Prop} (h0 : Sim ((fun _ => 0), (fun _ _ => 0)) ((fun _ => 0), mR0)) (hst : LawSteps Sim) {p : Program} {e : Env} {s : State} {m : MethodId} {below : List Frame} {meth : Method} {c : Code} (l : Launch) {b L : Nat} {xs : Nat → Int32} (hL : L ≤ 3072) (C0 : lw_At p s m meth c b L xs) : W p l e room_1 s m #[Value.ref b] below meth c s.heap [] 0 0 (lw_Z below #[Value.ref b] s) (entryFrame m ([Value.ref b] : List Value).toArray 4) := by
  obtain ⟨hx, hb, hr, hml, hown, hts, hX, hbl, hlocks, hgv⟩ := C0
  obtain ⟨c0, i0, k0⟩ := u_known (n := 7) hts inX0 (hts (.instantiable RX0 7) (by decide +kernel))
  obtain ⟨c1, i1, k1⟩ := u_known (n := 3) hts inX1 (hts (.instantiable RX1 3) (by decide +kernel))
  obtain ⟨c2, i2, k2⟩ := u_known (n := 9) hts inX2 (hts (.instantiable RX2 9) (by decide +kernel))
  obtain ⟨c3, i3, k3⟩ := u_known (n := 6) hts inX3 (hts (.instantiable RX3 6) (by decide +kernel))
  obtain ⟨c4, i4, k4⟩ := u_known (n := 4) hts inX4 (hts (.instantiable RX4 4) (by decide +kernel))
  obtain ⟨c5, i5, k5⟩ := u_known (n := 4) hts inX5 (hts (.instantiable RX5 4) (by decide +kernel))
  obtain ⟨c6, i6, k6⟩ := u_known (n := 5) hts inX6 (hts (.instantiable RX6 5) (by decide +kernel))
  obtain ⟨c7, i7, k7⟩ := u_known (n := 9) hts inX7 (hts (.instantiable RX7 9) (by decide +kernel))
  obtain ⟨c8, i8, k8⟩ := u_known (n := 34) hts inX8 (hts (.instantiable RX8 34) (by decide +kernel))
  obtain ⟨y, kA, comp, hy1, hy2, hy3⟩ := Cond.arrayClass_spec (hts (.arrayClass .int) (by decide +kernel))
  obtain ⟨D, hDd⟩ : ∃ D : va_G, D = ((fun c : Nat => if c = 0 then c0 else if c = 1 then c1 else if c = 2 then c2 else if c = 3 then c3 else if c = 4 then c4 else if c = 5 then c5 else if c = 6 then c6 else if c = 7 then c7 else c8), (fun c : Nat => if c = 0 then i0 else if c = 1 then i1 else if c = 2 then i2 else if c = 3 then i3 else if c = 4 then i4 else if c = 5 then i5 else if c = 6 then i6 else if c = 7 then i7 else i8)) := ⟨_, rfl⟩
  obtain ⟨yL, kL, compL, hz1, hz2, hz3⟩ := Cond.arrayClass_spec (hts (.arrayClass .long) (by decide +kernel))
  have hK : va_K D vwCl [(y, .int), (yL, .long)] s := by
    rw [hDd]
    refine ⟨fun c q hq => ?_, fun k q hq => ?_⟩
    · match c, hq with
      | 0, hq => cases hq; exact k0
      | 1, hq => cases hq; exact k1
      | 2, hq => cases hq; exact k2
      | 3, hq => cases hq; exact k3
      | 4, hq => cases hq; exact k4
      | 5, hq => cases hq; exact k5
      | 6, hq => cases hq; exact k6
      | 7, hq => cases hq; exact k7
      | 8, hq => cases hq; exact k8
      | c + 9, hq => cases hq
    · match k, hq with
      | 0, hq => cases hq; exact ⟨fun n z => ⟨fun k h => (by cases h), kA, hy2, comp, hy3⟩, hy1⟩
      | 1, hq => cases hq; exact ⟨fun n z => ⟨fun k h => (by cases h), kL, hz2, compL, hz3⟩, hz1⟩
      | k + 2, hq => cases hq
  have hK0 : va_K D vwCl [(y, .int)] s := hK.sub [0] rfl
  obtain ⟨adK, adV, hkS, hkR⟩ := l_kS hts hgv
  have hN : cN s := ⟨va_Nw.of rfl (hts (.methodLinkNest RX0 89 yX7_turnedAbout RX7) (by decide +kernel)), va_Nw.of rfl (hts (.methodLinkNest RX3 86 yX7_turnedAbout RX7) (by decide +kernel)), va_Nw.of rfl (hts (.methodLinkNest RX3 89 yX7_rowOf RX7) (by decide +kernel)), va_Nw.of rfl (hts (.methodLinkNest RX6 78 yX7_rowOf RX7) (by decide +kernel))⟩
  have hN2 : cN2 s := ⟨va_Nw.of rfl (hts (.methodLinkNest RX6 11 yX2_init RX7) (by decide +kernel)), va_Nw.of rfl (hts (.methodLinkNest RX7 17 yX4_init RX7) (by decide +kernel)), va_Nw.of rfl (hts (.methodLinkNest RX7 30 yX5_init RX7) (by decide +kernel))⟩
  have hO : va_AO RX4 s := va_AO.of (hts (.arrayOver (.object RX4)) (by decide +kernel))

  have hA : ∀ q : Nat, s.heap.size ≤ q → lA s q := fun _ h => h
  have hS : va_S (lA s) s.heap s.heap [] := va_S.rf
  have hP : va_P D vwCl ([] : va_W) s.heap := fun k x h => by cases h
  have hD : va_D (lA s) ([] : va_W) := ⟨fun i j a b h => (by cases h), fun k x h => (by cases h)⟩
  have hl := lv_entry ([Value.ref b]) (n := 4) (Nat.le_of_ble_eq_true rfl)
  rw [lg_entry_eq]
  generalize (lg_sl ([Value.ref b]) ++ List.replicate (4 - (lg_sl ([Value.ref b])).length) Slot.unset).toArray = ls at hl ⊢
  have hl : lv_has ls 4 [(0, .ref b)] := hl
  refine va_new (ci := 7) (fs := [.null, .null, .null, .null, .null, .null, .int 0, .int 0, .int 0]) (C := RX7) (T := TX7) (N := 9) hx hb hts inX7 tyX7 tyX7_ok hown (hts (.classLink RL 7 RX7) (by decide +kernel)) (hts (.instantiable RX7 9) (by decide +kernel)) (hts (.initialized RX7) (by decide +kernel)) hK hP hD hS hA rfl hfX7 (Nat.le_of_ble_eq_true rfl) (Nat.le_of_ble_eq_true rfl) dL_law_0 (fun hc H hP hD hS => ?_)
  have hP : va_P D vwCl (z0X7 hc) H := hP
  have hD : va_D (lA s) (z0X7 hc) := hD
  refine lv_dup hx hb dL_law_3 rfl ?_
  have hFc := va_free (wc := z0X7 hc) hD hS hA [0] rfl
  refine va_callv (va_runI (As := []) (rest := [.ref hc]) ⟨hx, hb, hml, hown, hts⟩ (iX7 l D y yL hc H.size) (cwI 0 hts gL_law_X7_init rfl rfl rfl (hts (.initialized RX7) (by decide +kernel)) (hts (.methodLink RL 9 yX7_init) (by decide +kernel)) (hts (.instanceMethod yX7_init) (by decide +kernel)) rfl (by decide +kernel) ⟨Nat.le_of_ble_eq_true rfl, Nat.le_of_ble_eq_true rfl⟩) ⟨fun a U g mk z => ⟨z.1, z.2.1, z.2.2.1, va_K.moved (u := U) (U := U.calling g mk a) (Vm.Alike.refl U.vm) z.2.2.2.1, z.2.2.2.2.1, ⟨va_Nw.same rfl rfl z.2.2.2.2.2.1.1, va_Nw.same rfl rfl z.2.2.2.2.2.1.2.1, va_Nw.same rfl rfl z.2.2.2.2.2.1.2.2⟩, va_AO.moved (u := U) (U := U.calling g mk a) (Vm.Alike.refl U.vm) z.2.2.2.2.2.2⟩, fun U hU hW => ⟨rfl, by rw [hU], by rw [hU]; exact hP, va_K.moved hW.alike hK, hD.weaken (fun _ _ _ _ => trivial), ⟨va_Nw.warmM hW hN2.1, va_Nw.warmM hW hN2.2.1, va_Nw.warmM hW hN2.2.2⟩, va_AO.moved hW.alike hO⟩⟩ rfl rfl hl.1 rfl (lv_room (Nat.le_of_ble_eq_true rfl)) dL_law_4 ⟨Nat.le_of_ble_eq_true rfl, Nat.le_of_ble_eq_true rfl⟩) hS (fun x _ h => hFc x h) hFc (fun u t H1 locs ht hvm hw hB hz1 hk1 hS => ?_)
  obtain ⟨qc, yS⟩ := u
  have hqc : qc 0 = hc := hw
  subst hqc
  obtain ⟨hP1, hD1, hK1⟩ := hB
  rw [ht] at hP1
  have hP1 : va_P D vwCl (cW0 y yS qc) H1 := hP1
  have hD1 : va_D (lA s) (cW0 y yS qc) := hD1.weaken (fun k x _ h => hFc x.1 h)
  have hK1 : va_K D vwCl (cTy y yS) s := va_K.moved hvm.symm hK1
  refine lv_astore_n (lv' := [(1, .ref (qc 0)), (0, .ref b)]) hx hb dL_law_7 rfl hl (by decide) rfl (fun ls hl => ?_)
  refine va_new (ci := 8) (fs := [.int 0, .int 0, .null, .null, .null, .int 0, .int 0, .null, .null, .null, .null, .null, .null, .null, .int 0, .int 0, .int 0, .int 0, .null, .null, .null, .null, .null, .null, .null, .int 0, .null, .null, .null, .null, .null, .int 0, .null, .null]) (C := RX8) (T := TX8) (N := 34) hx hb hts inX8 tyX8 tyX8_ok hown (hts (.classLink RL 10 RX8) (by decide +kernel)) (hts (.instantiable RX8 34) (by decide +kernel)) (hts (.initialized RX8) (by decide +kernel)) hK1 hP1 hD1 hS hA rfl hfX8 (Nat.le_of_ble_eq_true rfl) (Nat.le_of_ble_eq_true rfl) dL_law_8 (fun h H hP hD hS => ?_)
  have hP : va_P D vwCl (cW0 y yS qc ++ z0X8 h) H := hP
  have hD : va_D (lA s) (cW0 y yS qc ++ z0X8 h) := hD
  refine lv_dup hx hb dL_law_11 rfl ?_
  have hPc : va_P D vwCl (z0X8 h) H := va_Pr hP
  have hDc := vaD_right hD
  have hFc := va_free (wc := z0X8 h) hD hS hA [52] rfl
  refine va_callv (va_runI (As := []) (rest := [.ref h]) ⟨hx, hb, hml, hown, hts⟩ (iX8 l D y h H.size) (cwI 0 hts gL_law_X8_init rfl rfl rfl (hts (.initialized RX8) (by decide +kernel)) (hts (.methodLink RL 12 yX8_init) (by decide +kernel)) (hts (.instanceMethod yX8_init) (by decide +kernel)) rfl (by decide +kernel) ⟨Nat.le_of_ble_eq_true rfl, Nat.le_of_ble_eq_true rfl⟩) ⟨fun a U g mk z => ⟨z.1, z.2.1, z.2.2.1, va_K.moved (u := U) (U := U.calling g mk a) (Vm.Alike.refl U.vm) z.2.2.2.1, z.2.2.2.2⟩, fun U hU hW => ⟨rfl, by rw [hU], by rw [hU]; exact hPc, va_K.moved hW.alike hK0, hDc.weaken (fun _ _ _ _ => trivial)⟩⟩ rfl rfl hl.1 rfl (lv_room (Nat.le_of_ble_eq_true rfl)) dL_law_12 ⟨Nat.le_of_ble_eq_true rfl, Nat.le_of_ble_eq_true rfl⟩) hS (fun x _ h => hFc x h) hFc (fun qm t H1 locs ht hvm hw hB hz1 hk1 hS => ?_)
  obtain ⟨hP2, hD2⟩ := hB
  rw [ht] at hP2
  obtain ⟨hP, hD⟩ := va_join (wr := cW0 y yS qc) (w1 := mW y h qm (fun _ => 0) mR0) hP hD [52] (List.range 52) rfl rfl (by decide) (by decide) hk1 hFc hP2 hD2
  refine lv_astore_n (lv' := [(2, .ref h), (1, .ref (qc 0)), (0, .ref b)]) hx hb dL_law_15 rfl hl (by decide) rfl (fun ls hl => ?_)
  refine lv_iconst (v := nI 0) hx hb dL_law_16 (by decide) ?_
  refine lv_istore_n (lv' := [(3, .int (nI 0)), (2, .ref h), (1, .ref (qc 0)), (0, .ref b)]) hx hb dL_law_17 rfl hl (by decide) rfl (fun ls hl => ?_)
  refine W.widen (k := 600000) (n := 7302250) (Nat.le_of_ble_eq_true rfl) (Nat.le_of_ble_eq_true rfl) ?_
  exact law_loop hst hL (D := D) (y := y) (yS := yS) (qc := qc) (adK := adK) (adV := adV) (qm := qm) (h := h) ⟨⟨hx, hb, hml, hown, hts⟩, hK1, hN, hkS, hkR⟩ hr hlocks hX hbl (L + 1) 0 ((fun _ => 0), (fun _ _ => 0)) ((fun _ => 0), mR0) _ _ _ (by omega) (by omega) h0 ⟨va_Pl hP, va_Pr hP, vaD_congr (ws := cW0 y yS qc ++ mW y h qm (fun _ => 0) mR0) rfl hD, hS⟩ (lv_sub hl [3, 2, 1, 0] rfl)

