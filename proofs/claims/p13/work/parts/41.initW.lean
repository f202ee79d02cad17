theorem hfX2 : ∀ j, j < 9 → defaultValue (tyX2 j) = vp_V [.null, .null, .null, .null, .null, .null, .null, .int 0, .int 0] j := by
  intro j hj
  match j, hj with
  | 0, _ => rfl
  | 1, _ => rfl
  | 2, _ => rfl
  | 3, _ => rfl
  | 4, _ => rfl
  | 5, _ => rfl
  | 6, _ => rfl
  | 7, _ => rfl
  | 8, _ => rfl
  | j + 9, h => exact absurd h (by omega)
theorem hfX4 : ∀ j, j < 4 → defaultValue (tyX4 j) = vp_V [.null, .int 0, .int 0, .int 0] j := by
  intro j hj
  match j, hj with
  | 0, _ => rfl
  | 1, _ => rfl
  | 2, _ => rfl
  | 3, _ => rfl
  | j + 4, h => exact absurd h (by omega)
theorem hfX5 : ∀ j, j < 4 → defaultValue (tyX5 j) = vp_V [.null, .int 0, .int 0, .int 0] j := by
  intro j hj
  match j, hj with
  | 0, _ => rfl
  | 1, _ => rfl
  | 2, _ => rfl
  | 3, _ => rfl
  | j + 4, h => exact absurd h (by omega)
theorem hfX1 : ∀ j, j < 3 → defaultValue (tyX1 j) = vp_V [.null, .null, .null] j := by
  intro j hj
  match j, hj with
  | 0, _ => rfl
  | 1, _ => rfl
  | 2, _ => rfl
  | j + 3, h => exact absurd h (by omega)
theorem hfX3 : ∀ j, j < 6 → defaultValue (tyX3 j) = vp_V [.null, .null, .null, .null, .null, .int 0] j := by
  intro j hj
  match j, hj with
  | 0, _ => rfl
  | 1, _ => rfl
  | 2, _ => rfl
  | 3, _ => rfl
  | 4, _ => rfl
  | 5, _ => rfl
  | j + 6, h => exact absurd h (by omega)
theorem hfX0 : ∀ j, j < 7 → defaultValue (tyX0 j) = vp_V [.null, .null, .null, .null, .null, .int 0, .int 0] j := by
  intro j hj
  match j, hj with
  | 0, _ => rfl
  | 1, _ => rfl
  | 2, _ => rfl
  | 3, _ => rfl
  | 4, _ => rfl
  | 5, _ => rfl
  | 6, _ => rfl
  | j + 7, h => exact absurd h (by omega)
theorem hfX6 : ∀ j, j < 5 → defaultValue (tyX6 j) = vp_V [.null, .null, .null, .null, .int 0] j := by
  intro j hj
  match j, hj with
  | 0, _ => rfl
  | 1, _ => rfl
  | 2, _ => rfl
  | 3, _ => rfl
  | 4, _ => rfl
  | j + 5, h => exact absurd h (by omega)
def w0X6 (y yL : ClassId) (h : Nat) (u : Nat → Nat) : va_W := [(h, .inr (6, [.ref (u 10), .ref (u 30), .ref (u 40), .ref (u 50), .int 0])), (u 10, .inr (2, [.ref (u 11), .ref (u 12), .ref (u 13), .ref (u 14), .ref (u 15), .ref (u 16), .ref (u 17), .int 0, .int 0])), (u 11, .inl (y, 5, .inl (fun _ => 0))), (u 12, .inl (y, 5, .inl (fun _ => 0))), (u 13, .inl (y, 5, .inl (fun _ => 0))), (u 14, .inl (y, 5, .inl (fun _ => 0))), (u 15, .inl (y, 5, .inl (fun _ => 0))), (u 16, .inl (y, 5, .inl (fun _ => 0))), (u 17, .inl (y, 4, .inl (fun _ => 0))), (u 30, .inr (1, [.ref (u 10), .ref (u 32), .ref (u 33)])), (u 32, .inl (y, 4, .inl (fun _ => 0))), (u 33, .inl (y, 4, .inl (fun _ => 0))), (u 40, .inr (3, [.ref (u 10), .ref (u 30), .ref (u 43), .ref (u 44), .ref (u 45), .int 0])), (u 43, .inl (y, 4, .inl (fun _ => 0))), (u 44, .inl (y, 4, .inl (fun _ => 0))), (u 45, .inl (y, 64, .inl (fun _ => 0))), (u 50, .inr (0, [.ref (u 10), .ref (u 30), .ref (u 40), .ref (u 54), .ref (u 55), .int 0, .int 0])), (u 54, .inl (yL, 64, .inr (.inl rowL0))), (u 55, .inl (y, 64, .inl (fun _ => 0)))]
def z0X6 (h : Nat) : va_W := [(h, .inr (6, [.null, .null, .null, .null, .int 0]))]
def rmX6_init : Room := { frames := 2, cells := 18, slots := 267, locals := 80 }
set_option maxRecDepth 20000 in
set_option maxHeartbeats 4000000 in
theorem iX6 (l : Launch) (D : va_G) (y yL : ClassId) (h sz : Nat) : Met l yX6_init wsX6_init rmX6_init (va_Pc [.ref h] (fun U => U.heap.size = sz ∧ va_P D vwCl (z0X6 h) U.heap ∧ va_K D vwCl [(y, .int), (yL, .long)] U ∧ va_D (fun _ => True) (z0X6 h) ∧ va_Nw (.methodLinkNest RX6 11 yX2_init RX7) U)) (va_Qv (fun _ : Nat → Nat => True) (fun u t => va_P D vwCl (w0X6 y yL h u) t.heap ∧ va_D (va_A (z0X6 h) sz) (w0X6 y yL h u)) (va_A (z0X6 h) sz)) 18 267 (va_A (z0X6 h) sz) := by
  refine Met.ofW (cc := cX6_init) (maxL := 4) (ret := none) (by decide) rfl ?_
  intro p e s m args below meth c s₁ B hml hv
  obtain ⟨rfl, hsz, hP, hK, hD0, hN⟩ := hv
  have hx := B.exec
  have hb := B.bytes
  have hr := B.returns
  have hts := atoms_spec (ws := wsX6_init) B.pre
  have hown : s.vm.findClass RX6 = some m.cls := findClass_of_methodNamed B.named
  have hlocks := B.notSynchronized
  have hin : meth.name = "<init>" := (name_of_methodNamed B.named B.method).1
  subst hsz
  have hD := hD0.self (sz := s.heap.size)
  generalize hAe : va_A (z0X6 h) s.heap.size = A at hD ⊢
  have hA : ∀ q : Nat, s.heap.size ≤ q → A q := fun q h => by rw [← hAe]; exact Or.inr h
  have hS : va_S A s.heap s.heap [] := va_S.rf
  have hl := lv_entry ([.ref h]) (n := 4) (Nat.le_of_ble_eq_true rfl)
  rw [lg_entry_eq]
  generalize (lg_sl ([.ref h]) ++ List.replicate (4 - (lg_sl ([.ref h])).length) Slot.unset).toArray = ls at hl ⊢
  have hl : lv_has ls 4 [(0, .ref h)] := hl
  refine lv_aload_n hx hb dX6_init_0 rfl (lv_at hl 0 rfl) ?_
  refine W.objInit hx hb hown (hts (.methodLink RX6 3 objectInit) (by decide +kernel)) (hts (.instanceMethod objectInit) (by decide +kernel)) (hts (.code objectInit ⟨#[0xb1]⟩ 1 none) (by decide +kernel)) rfl (by rw [hml]; exact hl.1) rfl dX6_init_1 (Nat.le_of_ble_eq_true rfl) (Nat.le_of_ble_eq_true rfl) ?_
  refine W.eq (g2 := F0 m 4 ls []) rfl ?_
  refine va_new (ci := 2) (fs := [.null, .null, .null, .null, .null, .null, .null, .int 0, .int 0]) (C := RX2) (T := TX2) (N := 9) hx hb hts (by decide +kernel) tyX2 tyX2_ok hown (hts (.classLink RX6 9 RX2) (by decide +kernel)) (hts (.instantiable RX2 9) (by decide +kernel)) (hts (.initialized RX2) (by decide +kernel)) hK hP hD hS hA rfl hfX2 (Nat.le_of_ble_eq_true rfl) (Nat.le_of_ble_eq_true rfl) dX6_init_4 (fun q1 H hP hD hS => ?_)
  have hP : va_P D vwCl [(h, .inr (6, [.null, .null, .null, .null, .int 0])), (q1, .inr (2, [.null, .null, .null, .null, .null, .null, .null, .int 0, .int 0]))] H := hP
  have hD : va_D A [(h, .inr (6, [.null, .null, .null, .null, .int 0])), (q1, .inr (2, [.null, .null, .null, .null, .null, .null, .null, .int 0, .int 0]))] := hD
  refine lv_dup hx hb dX6_init_7 rfl ?_
  have hPc := hP.sub (ws' := z0X2 q1) [1] rfl
  have hDc := hD.sub (ws' := z0X2 q1) [1] (by decide) rfl
  have hFc := va_free (wc := z0X2 q1) hD hS hA [1] rfl
  have hKc := hK.sub (tys' := [(y, .int)]) [0] rfl
  refine va_callv (va_runIN (As := []) (rest := [.ref q1]) (host := RX7) ⟨hx, hb, hml, hown, hts⟩ (iX2 l D y q1 H.size) ⟨va_cnB 0 hts gX6_init_X2_init_n11 rfl rfl rfl hN (hts (.initialized RX2) (by decide +kernel)) (by decide +kernel) ⟨Nat.le_of_ble_eq_true rfl, Nat.le_of_ble_eq_true rfl⟩, rfl, hts (.instanceMethod yX2_init) (by decide +kernel)⟩ ⟨fun a U g mk z => ⟨z.1, z.2.1, z.2.2.1, va_K.moved (u := U) (U := U.calling g mk a) (Vm.Alike.refl U.vm) z.2.2.2.1, z.2.2.2.2⟩, fun U hU hW => ⟨rfl, by rw [hU], by rw [hU]; exact hPc, va_K.moved hW.alike hKc, hDc.weaken (fun _ _ _ _ => trivial)⟩⟩ rfl rfl hl.1 rfl (lv_room (Nat.le_of_ble_eq_true rfl)) dX6_init_8 ⟨Nat.le_of_ble_eq_true rfl, Nat.le_of_ble_eq_true rfl⟩) hS (fun x _ h => hFc x h) hFc (fun u2 t H1 locs ht hvm hw hB hz1 hk1 hS => ?_)
  obtain ⟨hP1, hD1⟩ := hB
  rw [ht] at hP1
  obtain ⟨hP, hD⟩ := va_join (wr := [(h, .inr (6, [.null, .null, .null, .null, .int 0]))]) (w1 := w0X2 y q1 u2) hP hD [1] [0] rfl rfl (by decide) (by decide) hk1 hFc hP1 hD1
  generalize H1 = H at hP hS ⊢
  have hP : va_P D vwCl [(h, .inr (6, [.null, .null, .null, .null, .int 0])), (q1, .inr (2, [.ref (u2 0), .ref (u2 1), .ref (u2 2), .ref (u2 3), .ref (u2 4), .ref (u2 5), .ref (u2 6), .int 0, .int 0])), (u2 0, .inl (y, 5, .inl (fun _ => 0))), (u2 1, .inl (y, 5, .inl (fun _ => 0))), (u2 2, .inl (y, 5, .inl (fun _ => 0))), (u2 3, .inl (y, 5, .inl (fun _ => 0))), (u2 4, .inl (y, 5, .inl (fun _ => 0))), (u2 5, .inl (y, 5, .inl (fun _ => 0))), (u2 6, .inl (y, 4, .inl (fun _ => 0)))] H := hP
  have hD : va_D A [(h, .inr (6, [.null, .null, .null, .null, .int 0])), (q1, .inr (2, [.ref (u2 0), .ref (u2 1), .ref (u2 2), .ref (u2 3), .ref (u2 4), .ref (u2 5), .ref (u2 6), .int 0, .int 0])), (u2 0, .inl (y, 5, .inl (fun _ => 0))), (u2 1, .inl (y, 5, .inl (fun _ => 0))), (u2 2, .inl (y, 5, .inl (fun _ => 0))), (u2 3, .inl (y, 5, .inl (fun _ => 0))), (u2 4, .inl (y, 5, .inl (fun _ => 0))), (u2 5, .inl (y, 5, .inl (fun _ => 0))), (u2 6, .inl (y, 4, .inl (fun _ => 0)))] := hD
  refine lv_astore_n (lv' := [(1, .ref q1), (0, .ref h)]) hx hb dX6_init_11 rfl hl (by decide) rfl (fun ls hl => ?_)
  refine va_new (ci := 1) (fs := [.null, .null, .null]) (C := RX1) (T := TX1) (N := 3) hx hb hts (by decide +kernel) tyX1 tyX1_ok hown (hts (.classLink RX6 12 RX1) (by decide +kernel)) (hts (.instantiable RX1 3) (by decide +kernel)) (hts (.initialized RX1) (by decide +kernel)) hK hP hD hS hA rfl hfX1 (Nat.le_of_ble_eq_true rfl) (Nat.le_of_ble_eq_true rfl) dX6_init_12 (fun q3 H hP hD hS => ?_)
  have hP : va_P D vwCl [(h, .inr (6, [.null, .null, .null, .null, .int 0])), (q1, .inr (2, [.ref (u2 0), .ref (u2 1), .ref (u2 2), .ref (u2 3), .ref (u2 4), .ref (u2 5), .ref (u2 6), .int 0, .int 0])), (u2 0, .inl (y, 5, .inl (fun _ => 0))), (u2 1, .inl (y, 5, .inl (fun _ => 0))), (u2 2, .inl (y, 5, .inl (fun _ => 0))), (u2 3, .inl (y, 5, .inl (fun _ => 0))), (u2 4, .inl (y, 5, .inl (fun _ => 0))), (u2 5, .inl (y, 5, .inl (fun _ => 0))), (u2 6, .inl (y, 4, .inl (fun _ => 0))), (q3, .inr (1, [.null, .null, .null]))] H := hP
  have hD : va_D A [(h, .inr (6, [.null, .null, .null, .null, .int 0])), (q1, .inr (2, [.ref (u2 0), .ref (u2 1), .ref (u2 2), .ref (u2 3), .ref (u2 4), .ref (u2 5), .ref (u2 6), .int 0, .int 0])), (u2 0, .inl (y, 5, .inl (fun _ => 0))), (u2 1, .inl (y, 5, .inl (fun _ => 0))), (u2 2, .inl (y, 5, .inl (fun _ => 0))), (u2 3, .inl (y, 5, .inl (fun _ => 0))), (u2 4, .inl (y, 5, .inl (fun _ => 0))), (u2 5, .inl (y, 5, .inl (fun _ => 0))), (u2 6, .inl (y, 4, .inl (fun _ => 0))), (q3, .inr (1, [.null, .null, .null]))] := hD
  refine lv_dup hx hb dX6_init_15 rfl ?_
  refine lv_aload_n hx hb dX6_init_16 rfl (lv_at hl 0 rfl) ?_
  have hPc := hP.sub (ws' := z0X1 q3) [9] rfl
  have hDc := hD.sub (ws' := z0X1 q3) [9] (by decide) rfl
  have hFc := va_free (wc := z0X1 q3) hD hS hA [9] rfl
  have hKc := hK.sub (tys' := [(y, .int)]) [0] rfl
  refine va_callv (va_runI (As := [.ref q1]) (rest := [.ref q3]) ⟨hx, hb, hml, hown, hts⟩ (iX1 l D y q3 H.size q1) (cwI 1 hts gX6_init_X1_init rfl rfl rfl (hts (.initialized RX1) (by decide +kernel)) (hts (.methodLink RX6 14 yX1_init) (by decide +kernel)) (hts (.instanceMethod yX1_init) (by decide +kernel)) rfl (by decide +kernel) ⟨Nat.le_of_ble_eq_true rfl, Nat.le_of_ble_eq_true rfl⟩) ⟨fun a U g mk z => ⟨z.1, z.2.1, z.2.2.1, va_K.moved (u := U) (U := U.calling g mk a) (Vm.Alike.refl U.vm) z.2.2.2.1, z.2.2.2.2⟩, fun U hU hW => ⟨rfl, by rw [hU], by rw [hU]; exact hPc, va_K.moved hW.alike hKc, hDc.weaken (fun _ _ _ _ => trivial)⟩⟩ rfl rfl hl.1 rfl (lv_room (Nat.le_of_ble_eq_true rfl)) dX6_init_17 ⟨Nat.le_of_ble_eq_true rfl, Nat.le_of_ble_eq_true rfl⟩) hS (fun x _ h => hFc x h) hFc (fun u4 t H1 locs ht hvm hw hB hz1 hk1 hS => ?_)
  obtain ⟨hP1, hD1⟩ := hB
  rw [ht] at hP1
  obtain ⟨hP, hD⟩ := va_join (wr := [(h, .inr (6, [.null, .null, .null, .null, .int 0])), (q1, .inr (2, [.ref (u2 0), .ref (u2 1), .ref (u2 2), .ref (u2 3), .ref (u2 4), .ref (u2 5), .ref (u2 6), .int 0, .int 0])), (u2 0, .inl (y, 5, .inl (fun _ => 0))), (u2 1, .inl (y, 5, .inl (fun _ => 0))), (u2 2, .inl (y, 5, .inl (fun _ => 0))), (u2 3, .inl (y, 5, .inl (fun _ => 0))), (u2 4, .inl (y, 5, .inl (fun _ => 0))), (u2 5, .inl (y, 5, .inl (fun _ => 0))), (u2 6, .inl (y, 4, .inl (fun _ => 0)))]) (w1 := w0X1 y q3 q1 u4) hP hD [9] [0, 1, 2, 3, 4, 5, 6, 7, 8] rfl rfl (by decide) (by decide) hk1 hFc hP1 hD1
  generalize H1 = H at hP hS ⊢
  have hP : va_P D vwCl [(h, .inr (6, [.null, .null, .null, .null, .int 0])), (q1, .inr (2, [.ref (u2 0), .ref (u2 1), .ref (u2 2), .ref (u2 3), .ref (u2 4), .ref (u2 5), .ref (u2 6), .int 0, .int 0])), (u2 0, .inl (y, 5, .inl (fun _ => 0))), (u2 1, .inl (y, 5, .inl (fun _ => 0))), (u2 2, .inl (y, 5, .inl (fun _ => 0))), (u2 3, .inl (y, 5, .inl (fun _ => 0))), (u2 4, .inl (y, 5, .inl (fun _ => 0))), (u2 5, .inl (y, 5, .inl (fun _ => 0))), (u2 6, .inl (y, 4, .inl (fun _ => 0))), (q3, .inr (1, [.ref q1, .ref (u4 0), .ref (u4 1)])), (u4 0, .inl (y, 4, .inl (fun _ => 0))), (u4 1, .inl (y, 4, .inl (fun _ => 0)))] H := hP
  have hD : va_D A [(h, .inr (6, [.null, .null, .null, .null, .int 0])), (q1, .inr (2, [.ref (u2 0), .ref (u2 1), .ref (u2 2), .ref (u2 3), .ref (u2 4), .ref (u2 5), .ref (u2 6), .int 0, .int 0])), (u2 0, .inl (y, 5, .inl (fun _ => 0))), (u2 1, .inl (y, 5, .inl (fun _ => 0))), (u2 2, .inl (y, 5, .inl (fun _ => 0))), (u2 3, .inl (y, 5, .inl (fun _ => 0))), (u2 4, .inl (y, 5, .inl (fun _ => 0))), (u2 5, .inl (y, 5, .inl (fun _ => 0))), (u2 6, .inl (y, 4, .inl (fun _ => 0))), (q3, .inr (1, [.ref q1, .ref (u4 0), .ref (u4 1)])), (u4 0, .inl (y, 4, .inl (fun _ => 0))), (u4 1, .inl (y, 4, .inl (fun _ => 0)))] := hD
  refine lv_astore_n (lv' := [(2, .ref q3), (1, .ref q1), (0, .ref h)]) hx hb dX6_init_20 rfl hl (by decide) rfl (fun ls hl => ?_)
  refine va_new (ci := 3) (fs := [.null, .null, .null, .null, .null, .int 0]) (C := RX3) (T := TX3) (N := 6) hx hb hts (by decide +kernel) tyX3 tyX3_ok hown (hts (.classLink RX6 17 RX3) (by decide +kernel)) (hts (.instantiable RX3 6) (by decide +kernel)) (hts (.initialized RX3) (by decide +kernel)) hK hP hD hS hA rfl hfX3 (Nat.le_of_ble_eq_true rfl) (Nat.le_of_ble_eq_true rfl) dX6_init_21 (fun q5 H hP hD hS => ?_)
  have hP : va_P D vwCl [(h, .inr (6, [.null, .null, .null, .null, .int 0])), (q1, .inr (2, [.ref (u2 0), .ref (u2 1), .ref (u2 2), .ref (u2 3), .ref (u2 4), .ref (u2 5), .ref (u2 6), .int 0, .int 0])), (u2 0, .inl (y, 5, .inl (fun _ => 0))), (u2 1, .inl (y, 5, .inl (fun _ => 0))), (u2 2, .inl (y, 5, .inl (fun _ => 0))), (u2 3, .inl (y, 5, .inl (fun _ => 0))), (u2 4, .inl (y, 5, .inl (fun _ => 0))), (u2 5, .inl (y, 5, .inl (fun _ => 0))), (u2 6, .inl (y, 4, .inl (fun _ => 0))), (q3, .inr (1, [.ref q1, .ref (u4 0), .ref (u4 1)])), (u4 0, .inl (y, 4, .inl (fun _ => 0))), (u4 1, .inl (y, 4, .inl (fun _ => 0))), (q5, .inr (3, [.null, .null, .null, .null, .null, .int 0]))] H := hP
  have hD : va_D A [(h, .inr (6, [.null, .null, .null, .null, .int 0])), (q1, .inr (2, [.ref (u2 0), .ref (u2 1), .ref (u2 2), .ref (u2 3), .ref (u2 4), .ref (u2 5), .ref (u2 6), .int 0, .int 0])), (u2 0, .inl (y, 5, .inl (fun _ => 0))), (u2 1, .inl (y, 5, .inl (fun _ => 0))), (u2 2, .inl (y, 5, .inl (fun _ => 0))), (u2 3, .inl (y, 5, .inl (fun _ => 0))), (u2 4, .inl (y, 5, .inl (fun _ => 0))), (u2 5, .inl (y, 5, .inl (fun _ => 0))), (u2 6, .inl (y, 4, .inl (fun _ => 0))), (q3, .inr (1, [.ref q1, .ref (u4 0), .ref (u4 1)])), (u4 0, .inl (y, 4, .inl (fun _ => 0))), (u4 1, .inl (y, 4, .inl (fun _ => 0))), (q5, .inr (3, [.null, .null, .null, .null, .null, .int 0]))] := hD
  refine lv_dup hx hb dX6_init_24 rfl ?_
  refine lv_aload_n hx hb dX6_init_25 rfl (lv_at hl 1 rfl) ?_
  refine lv_aload_n hx hb dX6_init_26 rfl (lv_at hl 0 rfl) ?_
  have hPc := hP.sub (ws' := z0X3 q5) [12] rfl
  have hDc := hD.sub (ws' := z0X3 q5) [12] (by decide) rfl
  have hFc := va_free (wc := z0X3 q5) hD hS hA [12] rfl
  have hKc := hK.sub (tys' := [(y, .int)]) [0] rfl
  refine va_callv (va_runI (As := [.ref q1, .ref q3]) (rest := [.ref q5]) ⟨hx, hb, hml, hown, hts⟩ (iX3 l D y q5 H.size q1 q3) (cwI 2 hts gX6_init_X3_init rfl rfl rfl (hts (.initialized RX3) (by decide +kernel)) (hts (.methodLink RX6 19 yX3_init) (by decide +kernel)) (hts (.instanceMethod yX3_init) (by decide +kernel)) rfl (by decide +kernel) ⟨Nat.le_of_ble_eq_true rfl, Nat.le_of_ble_eq_true rfl⟩) ⟨fun a U g mk z => ⟨z.1, z.2.1, z.2.2.1, va_K.moved (u := U) (U := U.calling g mk a) (Vm.Alike.refl U.vm) z.2.2.2.1, z.2.2.2.2⟩, fun U hU hW => ⟨rfl, by rw [hU], by rw [hU]; exact hPc, va_K.moved hW.alike hKc, hDc.weaken (fun _ _ _ _ => trivial)⟩⟩ rfl rfl hl.1 rfl (lv_room (Nat.le_of_ble_eq_true rfl)) dX6_init_27 ⟨Nat.le_of_ble_eq_true rfl, Nat.le_of_ble_eq_true rfl⟩) hS (fun x _ h => hFc x h) hFc (fun u6 t H1 locs ht hvm hw hB hz1 hk1 hS => ?_)
  obtain ⟨hP1, hD1⟩ := hB
  rw [ht] at hP1
  obtain ⟨hP, hD⟩ := va_join (wr := [(h, .inr (6, [.null, .null, .null, .null, .int 0])), (q1, .inr (2, [.ref (u2 0), .ref (u2 1), .ref (u2 2), .ref (u2 3), .ref (u2 4), .ref (u2 5), .ref (u2 6), .int 0, .int 0])), (u2 0, .inl (y, 5, .inl (fun _ => 0))), (u2 1, .inl (y, 5, .inl (fun _ => 0))), (u2 2, .inl (y, 5, .inl (fun _ => 0))), (u2 3, .inl (y, 5, .inl (fun _ => 0))), (u2 4, .inl (y, 5, .inl (fun _ => 0))), (u2 5, .inl (y, 5, .inl (fun _ => 0))), (u2 6, .inl (y, 4, .inl (fun _ => 0))), (q3, .inr (1, [.ref q1, .ref (u4 0), .ref (u4 1)])), (u4 0, .inl (y, 4, .inl (fun _ => 0))), (u4 1, .inl (y, 4, .inl (fun _ => 0)))]) (w1 := w0X3 y q5 q1 q3 u6) hP hD [12] [0, 1, 2, 3, 4, 5, 6, 7, 8, 9, 10, 11] rfl rfl (by decide) (by decide) hk1 hFc hP1 hD1
  generalize H1 = H at hP hS ⊢
  have hP : va_P D vwCl [(h, .inr (6, [.null, .null, .null, .null, .int 0])), (q1, .inr (2, [.ref (u2 0), .ref (u2 1), .ref (u2 2), .ref (u2 3), .ref (u2 4), .ref (u2 5), .ref (u2 6), .int 0, .int 0])), (u2 0, .inl (y, 5, .inl (fun _ => 0))), (u2 1, .inl (y, 5, .inl (fun _ => 0))), (u2 2, .inl (y, 5, .inl (fun _ => 0))), (u2 3, .inl (y, 5, .inl (fun _ => 0))), (u2 4, .inl (y, 5, .inl (fun _ => 0))), (u2 5, .inl (y, 5, .inl (fun _ => 0))), (u2 6, .inl (y, 4, .inl (fun _ => 0))), (q3, .inr (1, [.ref q1, .ref (u4 0), .ref (u4 1)])), (u4 0, .inl (y, 4, .inl (fun _ => 0))), (u4 1, .inl (y, 4, .inl (fun _ => 0))), (q5, .inr (3, [.ref q1, .ref q3, .ref (u6 0), .ref (u6 1), .ref (u6 2), .int 0])), (u6 0, .inl (y, 4, .inl (fun _ => 0))), (u6 1, .inl (y, 4, .inl (fun _ => 0))), (u6 2, .inl (y, 64, .inl (fun _ => 0)))] H := hP
  have hD : va_D A [(h, .inr (6, [.null, .null, .null, .null, .int 0])), (q1, .inr (2, [.ref (u2 0), .ref (u2 1), .ref (u2 2), .ref (u2 3), .ref (u2 4), .ref (u2 5), .ref (u2 6), .int 0, .int 0])), (u2 0, .inl (y, 5, .inl (fun _ => 0))), (u2 1, .inl (y, 5, .inl (fun _ => 0))), (u2 2, .inl (y, 5, .inl (fun _ => 0))), (u2 3, .inl (y, 5, .inl (fun _ => 0))), (u2 4, .inl (y, 5, .inl (fun _ => 0))), (u2 5, .inl (y, 5, .inl (fun _ => 0))), (u2 6, .inl (y, 4, .inl (fun _ => 0))), (q3, .inr (1, [.ref q1, .ref (u4 0), .ref (u4 1)])), (u4 0, .inl (y, 4, .inl (fun _ => 0))), (u4 1, .inl (y, 4, .inl (fun _ => 0))), (q5, .inr (3, [.ref q1, .ref q3, .ref (u6 0), .ref (u6 1), .ref (u6 2), .int 0])), (u6 0, .inl (y, 4, .inl (fun _ => 0))), (u6 1, .inl (y, 4, .inl (fun _ => 0))), (u6 2, .inl (y, 64, .inl (fun _ => 0)))] := hD
  refine lv_astore_n (lv' := [(3, .ref q5), (2, .ref q3), (1, .ref q1), (0, .ref h)]) hx hb dX6_init_30 rfl hl (by decide) rfl (fun ls hl => ?_)
  refine lv_aload_n hx hb dX6_init_31 rfl (lv_at hl 3 rfl) ?_
  refine va_new (ci := 0) (fs := [.null, .null, .null, .null, .null, .int 0, .int 0]) (C := RX0) (T := TX0) (N := 7) hx hb hts (by decide +kernel) tyX0 tyX0_ok hown (hts (.classLink RX6 22 RX0) (by decide +kernel)) (hts (.instantiable RX0 7) (by decide +kernel)) (hts (.initialized RX0) (by decide +kernel)) hK hP hD hS hA rfl hfX0 (Nat.le_of_ble_eq_true rfl) (Nat.le_of_ble_eq_true rfl) dX6_init_32 (fun q7 H hP hD hS => ?_)
  have hP : va_P D vwCl [(h, .inr (6, [.null, .null, .null, .null, .int 0])), (q1, .inr (2, [.ref (u2 0), .ref (u2 1), .ref (u2 2), .ref (u2 3), .ref (u2 4), .ref (u2 5), .ref (u2 6), .int 0, .int 0])), (u2 0, .inl (y, 5, .inl (fun _ => 0))), (u2 1, .inl (y, 5, .inl (fun _ => 0))), (u2 2, .inl (y, 5, .inl (fun _ => 0))), (u2 3, .inl (y, 5, .inl (fun _ => 0))), (u2 4, .inl (y, 5, .inl (fun _ => 0))), (u2 5, .inl (y, 5, .inl (fun _ => 0))), (u2 6, .inl (y, 4, .inl (fun _ => 0))), (q3, .inr (1, [.ref q1, .ref (u4 0), .ref (u4 1)])), (u4 0, .inl (y, 4, .inl (fun _ => 0))), (u4 1, .inl (y, 4, .inl (fun _ => 0))), (q5, .inr (3, [.ref q1, .ref q3, .ref (u6 0), .ref (u6 1), .ref (u6 2), .int 0])), (u6 0, .inl (y, 4, .inl (fun _ => 0))), (u6 1, .inl (y, 4, .inl (fun _ => 0))), (u6 2, .inl (y, 64, .inl (fun _ => 0))), (q7, .inr (0, [.null, .null, .null, .null, .null, .int 0, .int 0]))] H := hP
  have hD : va_D A [(h, .inr (6, [.null, .null, .null, .null, .int 0])), (q1, .inr (2, [.ref (u2 0), .ref (u2 1), .ref (u2 2), .ref (u2 3), .ref (u2 4), .ref (u2 5), .ref (u2 6), .int 0, .int 0])), (u2 0, .inl (y, 5, .inl (fun _ => 0))), (u2 1, .inl (y, 5, .inl (fun _ => 0))), (u2 2, .inl (y, 5, .inl (fun _ => 0))), (u2 3, .inl (y, 5, .inl (fun _ => 0))), (u2 4, .inl (y, 5, .inl (fun _ => 0))), (u2 5, .inl (y, 5, .inl (fun _ => 0))), (u2 6, .inl (y, 4, .inl (fun _ => 0))), (q3, .inr (1, [.ref q1, .ref (u4 0), .ref (u4 1)])), (u4 0, .inl (y, 4, .inl (fun _ => 0))), (u4 1, .inl (y, 4, .inl (fun _ => 0))), (q5, .inr (3, [.ref q1, .ref q3, .ref (u6 0), .ref (u6 1), .ref (u6 2), .int 0])), (u6 0, .inl (y, 4, .inl (fun _ => 0))), (u6 1, .inl (y, 4, .inl (fun _ => 0))), (u6 2, .inl (y, 64, .inl (fun _ => 0))), (q7, .inr (0, [.null, .null, .null, .null, .null, .int 0, .int 0]))] := hD
  refine lv_dup hx hb dX6_init_35 rfl ?_
  refine lv_aload_n hx hb dX6_init_36 rfl (lv_at hl 2 rfl) ?_
  refine lv_aload_n hx hb dX6_init_37 rfl (lv_at hl 1 rfl) ?_
  refine lv_aload_n hx hb dX6_init_38 rfl (lv_at hl 0 rfl) ?_
  have hPc := hP.sub (ws' := z0X0 q7) [16] rfl
  have hDc := hD.sub (ws' := z0X0 q7) [16] (by decide) rfl
  have hFc := va_free (wc := z0X0 q7) hD hS hA [16] rfl
  have hKc := hK.sub (tys' := [(y, .int), (yL, .long)]) [0, 1] rfl
  refine va_callv (va_runI (As := [.ref q1, .ref q3, .ref q5]) (rest := [.ref q7, .ref h]) ⟨hx, hb, hml, hown, hts⟩ (iX0 l D y yL q7 H.size q1 q3 q5) (cwI 3 hts gX6_init_X0_init rfl rfl rfl (hts (.initialized RX0) (by decide +kernel)) (hts (.methodLink RX6 24 yX0_init) (by decide +kernel)) (hts (.instanceMethod yX0_init) (by decide +kernel)) rfl (by decide +kernel) ⟨Nat.le_of_ble_eq_true rfl, Nat.le_of_ble_eq_true rfl⟩) ⟨fun a U g mk z => ⟨z.1, z.2.1, z.2.2.1, va_K.moved (u := U) (U := U.calling g mk a) (Vm.Alike.refl U.vm) z.2.2.2.1, z.2.2.2.2⟩, fun U hU hW => ⟨rfl, by rw [hU], by rw [hU]; exact hPc, va_K.moved hW.alike hKc, hDc.weaken (fun _ _ _ _ => trivial)⟩⟩ rfl rfl hl.1 rfl (lv_room (Nat.le_of_ble_eq_true rfl)) dX6_init_39 ⟨Nat.le_of_ble_eq_true rfl, Nat.le_of_ble_eq_true rfl⟩) hS (fun x _ h => hFc x h) hFc (fun u8 t H1 locs ht hvm hw hB hz1 hk1 hS => ?_)
  obtain ⟨hP1, hD1⟩ := hB
  rw [ht] at hP1
  obtain ⟨hP, hD⟩ := va_join (wr := [(h, .inr (6, [.null, .null, .null, .null, .int 0])), (q1, .inr (2, [.ref (u2 0), .ref (u2 1), .ref (u2 2), .ref (u2 3), .ref (u2 4), .ref (u2 5), .ref (u2 6), .int 0, .int 0])), (u2 0, .inl (y, 5, .inl (fun _ => 0))), (u2 1, .inl (y, 5, .inl (fun _ => 0))), (u2 2, .inl (y, 5, .inl (fun _ => 0))), (u2 3, .inl (y, 5, .inl (fun _ => 0))), (u2 4, .inl (y, 5, .inl (fun _ => 0))), (u2 5, .inl (y, 5, .inl (fun _ => 0))), (u2 6, .inl (y, 4, .inl (fun _ => 0))), (q3, .inr (1, [.ref q1, .ref (u4 0), .ref (u4 1)])), (u4 0, .inl (y, 4, .inl (fun _ => 0))), (u4 1, .inl (y, 4, .inl (fun _ => 0))), (q5, .inr (3, [.ref q1, .ref q3, .ref (u6 0), .ref (u6 1), .ref (u6 2), .int 0])), (u6 0, .inl (y, 4, .inl (fun _ => 0))), (u6 1, .inl (y, 4, .inl (fun _ => 0))), (u6 2, .inl (y, 64, .inl (fun _ => 0)))]) (w1 := w0X0 y yL q7 q1 q3 q5 u8) hP hD [16] [0, 1, 2, 3, 4, 5, 6, 7, 8, 9, 10, 11, 12, 13, 14, 15] rfl rfl (by decide) (by decide) hk1 hFc hP1 hD1
  generalize H1 = H at hP hS ⊢
  have hP : va_P D vwCl [(h, .inr (6, [.null, .null, .null, .null, .int 0])), (q1, .inr (2, [.ref (u2 0), .ref (u2 1), .ref (u2 2), .ref (u2 3), .ref (u2 4), .ref (u2 5), .ref (u2 6), .int 0, .int 0])), (u2 0, .inl (y, 5, .inl (fun _ => 0))), (u2 1, .inl (y, 5, .inl (fun _ => 0))), (u2 2, .inl (y, 5, .inl (fun _ => 0))), (u2 3, .inl (y, 5, .inl (fun _ => 0))), (u2 4, .inl (y, 5, .inl (fun _ => 0))), (u2 5, .inl (y, 5, .inl (fun _ => 0))), (u2 6, .inl (y, 4, .inl (fun _ => 0))), (q3, .inr (1, [.ref q1, .ref (u4 0), .ref (u4 1)])), (u4 0, .inl (y, 4, .inl (fun _ => 0))), (u4 1, .inl (y, 4, .inl (fun _ => 0))), (q5, .inr (3, [.ref q1, .ref q3, .ref (u6 0), .ref (u6 1), .ref (u6 2), .int 0])), (u6 0, .inl (y, 4, .inl (fun _ => 0))), (u6 1, .inl (y, 4, .inl (fun _ => 0))), (u6 2, .inl (y, 64, .inl (fun _ => 0))), (q7, .inr (0, [.ref q1, .ref q3, .ref q5, .ref (u8 0), .ref (u8 1), .int 0, .int 0])), (u8 0, .inl (yL, 64, .inr (.inl rowL0))), (u8 1, .inl (y, 64, .inl (fun _ => 0)))] H := hP
  have hD : va_D A [(h, .inr (6, [.null, .null, .null, .null, .int 0])), (q1, .inr (2, [.ref (u2 0), .ref (u2 1), .ref (u2 2), .ref (u2 3), .ref (u2 4), .ref (u2 5), .ref (u2 6), .int 0, .int 0])), (u2 0, .inl (y, 5, .inl (fun _ => 0))), (u2 1, .inl (y, 5, .inl (fun _ => 0))), (u2 2, .inl (y, 5, .inl (fun _ => 0))), (u2 3, .inl (y, 5, .inl (fun _ => 0))), (u2 4, .inl (y, 5, .inl (fun _ => 0))), (u2 5, .inl (y, 5, .inl (fun _ => 0))), (u2 6, .inl (y, 4, .inl (fun _ => 0))), (q3, .inr (1, [.ref q1, .ref (u4 0), .ref (u4 1)])), (u4 0, .inl (y, 4, .inl (fun _ => 0))), (u4 1, .inl (y, 4, .inl (fun _ => 0))), (q5, .inr (3, [.ref q1, .ref q3, .ref (u6 0), .ref (u6 1), .ref (u6 2), .int 0])), (u6 0, .inl (y, 4, .inl (fun _ => 0))), (u6 1, .inl (y, 4, .inl (fun _ => 0))), (u6 2, .inl (y, 64, .inl (fun _ => 0))), (q7, .inr (0, [.ref q1, .ref q3, .ref q5, .ref (u8 0), .ref (u8 1), .int 0, .int 0])), (u8 0, .inl (yL, 64, .inr (.inl rowL0))), (u8 1, .inl (y, 64, .inl (fun _ => 0)))] := hD
  refine va_putF (D := D) (ci := 6) (v := .ref q7) (ty := (.object "RoundRules$Costs")) (C := RX6) (T := TX6) (N := 5) hx hb hts (by decide +kernel) tyX6 tyX6_ok nmX6 hown hK hP hD hS 0 rfl rfl 3 (by decide) (hts (.fieldLink RX6 27 "RoundRules$World" "costs" "LRoundRules$Costs;") (by decide +kernel)) (fun _ h9 => h9) rfl hin rfl (by decide +kernel) rfl rfl (Nat.le_of_ble_eq_true rfl) dX6_init_42 (fun H locs hP hD hS => ?_)
  have hP : va_P D vwCl [(h, .inr (6, [.null, .null, .null, .ref q7, .int 0])), (q1, .inr (2, [.ref (u2 0), .ref (u2 1), .ref (u2 2), .ref (u2 3), .ref (u2 4), .ref (u2 5), .ref (u2 6), .int 0, .int 0])), (u2 0, .inl (y, 5, .inl (fun _ => 0))), (u2 1, .inl (y, 5, .inl (fun _ => 0))), (u2 2, .inl (y, 5, .inl (fun _ => 0))), (u2 3, .inl (y, 5, .inl (fun _ => 0))), (u2 4, .inl (y, 5, .inl (fun _ => 0))), (u2 5, .inl (y, 5, .inl (fun _ => 0))), (u2 6, .inl (y, 4, .inl (fun _ => 0))), (q3, .inr (1, [.ref q1, .ref (u4 0), .ref (u4 1)])), (u4 0, .inl (y, 4, .inl (fun _ => 0))), (u4 1, .inl (y, 4, .inl (fun _ => 0))), (q5, .inr (3, [.ref q1, .ref q3, .ref (u6 0), .ref (u6 1), .ref (u6 2), .int 0])), (u6 0, .inl (y, 4, .inl (fun _ => 0))), (u6 1, .inl (y, 4, .inl (fun _ => 0))), (u6 2, .inl (y, 64, .inl (fun _ => 0))), (q7, .inr (0, [.ref q1, .ref q3, .ref q5, .ref (u8 0), .ref (u8 1), .int 0, .int 0])), (u8 0, .inl (yL, 64, .inr (.inl rowL0))), (u8 1, .inl (y, 64, .inl (fun _ => 0)))] H := hP
  have hD : va_D A [(h, .inr (6, [.null, .null, .null, .ref q7, .int 0])), (q1, .inr (2, [.ref (u2 0), .ref (u2 1), .ref (u2 2), .ref (u2 3), .ref (u2 4), .ref (u2 5), .ref (u2 6), .int 0, .int 0])), (u2 0, .inl (y, 5, .inl (fun _ => 0))), (u2 1, .inl (y, 5, .inl (fun _ => 0))), (u2 2, .inl (y, 5, .inl (fun _ => 0))), (u2 3, .inl (y, 5, .inl (fun _ => 0))), (u2 4, .inl (y, 5, .inl (fun _ => 0))), (u2 5, .inl (y, 5, .inl (fun _ => 0))), (u2 6, .inl (y, 4, .inl (fun _ => 0))), (q3, .inr (1, [.ref q1, .ref (u4 0), .ref (u4 1)])), (u4 0, .inl (y, 4, .inl (fun _ => 0))), (u4 1, .inl (y, 4, .inl (fun _ => 0))), (q5, .inr (3, [.ref q1, .ref q3, .ref (u6 0), .ref (u6 1), .ref (u6 2), .int 0])), (u6 0, .inl (y, 4, .inl (fun _ => 0))), (u6 1, .inl (y, 4, .inl (fun _ => 0))), (u6 2, .inl (y, 64, .inl (fun _ => 0))), (q7, .inr (0, [.ref q1, .ref q3, .ref q5, .ref (u8 0), .ref (u8 1), .int 0, .int 0])), (u8 0, .inl (yL, 64, .inr (.inl rowL0))), (u8 1, .inl (y, 64, .inl (fun _ => 0)))] := hD
  refine lv_aload_n hx hb dX6_init_45 rfl (lv_at hl 3 rfl) ?_
  refine lv_aload_n hx hb dX6_init_46 rfl (lv_at hl 0 rfl) ?_
  refine va_putF (D := D) (ci := 6) (v := .ref q5) (ty := (.object "RoundRules$Rounds")) (C := RX6) (T := TX6) (N := 5) hx hb hts (by decide +kernel) tyX6 tyX6_ok nmX6 hown hK hP hD hS 0 rfl rfl 2 (by decide) (hts (.fieldLink RX6 33 "RoundRules$World" "rounds" "LRoundRules$Rounds;") (by decide +kernel)) (fun _ h9 => h9) rfl hin rfl (by decide +kernel) rfl rfl (Nat.le_of_ble_eq_true rfl) dX6_init_47 (fun H locs hP hD hS => ?_)
  have hP : va_P D vwCl [(h, .inr (6, [.null, .null, .ref q5, .ref q7, .int 0])), (q1, .inr (2, [.ref (u2 0), .ref (u2 1), .ref (u2 2), .ref (u2 3), .ref (u2 4), .ref (u2 5), .ref (u2 6), .int 0, .int 0])), (u2 0, .inl (y, 5, .inl (fun _ => 0))), (u2 1, .inl (y, 5, .inl (fun _ => 0))), (u2 2, .inl (y, 5, .inl (fun _ => 0))), (u2 3, .inl (y, 5, .inl (fun _ => 0))), (u2 4, .inl (y, 5, .inl (fun _ => 0))), (u2 5, .inl (y, 5, .inl (fun _ => 0))), (u2 6, .inl (y, 4, .inl (fun _ => 0))), (q3, .inr (1, [.ref q1, .ref (u4 0), .ref (u4 1)])), (u4 0, .inl (y, 4, .inl (fun _ => 0))), (u4 1, .inl (y, 4, .inl (fun _ => 0))), (q5, .inr (3, [.ref q1, .ref q3, .ref (u6 0), .ref (u6 1), .ref (u6 2), .int 0])), (u6 0, .inl (y, 4, .inl (fun _ => 0))), (u6 1, .inl (y, 4, .inl (fun _ => 0))), (u6 2, .inl (y, 64, .inl (fun _ => 0))), (q7, .inr (0, [.ref q1, .ref q3, .ref q5, .ref (u8 0), .ref (u8 1), .int 0, .int 0])), (u8 0, .inl (yL, 64, .inr (.inl rowL0))), (u8 1, .inl (y, 64, .inl (fun _ => 0)))] H := hP
  have hD : va_D A [(h, .inr (6, [.null, .null, .ref q5, .ref q7, .int 0])), (q1, .inr (2, [.ref (u2 0), .ref (u2 1), .ref (u2 2), .ref (u2 3), .ref (u2 4), .ref (u2 5), .ref (u2 6), .int 0, .int 0])), (u2 0, .inl (y, 5, .inl (fun _ => 0))), (u2 1, .inl (y, 5, .inl (fun _ => 0))), (u2 2, .inl (y, 5, .inl (fun _ => 0))), (u2 3, .inl (y, 5, .inl (fun _ => 0))), (u2 4, .inl (y, 5, .inl (fun _ => 0))), (u2 5, .inl (y, 5, .inl (fun _ => 0))), (u2 6, .inl (y, 4, .inl (fun _ => 0))), (q3, .inr (1, [.ref q1, .ref (u4 0), .ref (u4 1)])), (u4 0, .inl (y, 4, .inl (fun _ => 0))), (u4 1, .inl (y, 4, .inl (fun _ => 0))), (q5, .inr (3, [.ref q1, .ref q3, .ref (u6 0), .ref (u6 1), .ref (u6 2), .int 0])), (u6 0, .inl (y, 4, .inl (fun _ => 0))), (u6 1, .inl (y, 4, .inl (fun _ => 0))), (u6 2, .inl (y, 64, .inl (fun _ => 0))), (q7, .inr (0, [.ref q1, .ref q3, .ref q5, .ref (u8 0), .ref (u8 1), .int 0, .int 0])), (u8 0, .inl (yL, 64, .inr (.inl rowL0))), (u8 1, .inl (y, 64, .inl (fun _ => 0)))] := hD
  refine lv_aload_n hx hb dX6_init_50 rfl (lv_at hl 3 rfl) ?_
  refine lv_aload_n hx hb dX6_init_51 rfl (lv_at hl 1 rfl) ?_
  refine va_putF (D := D) (ci := 6) (v := .ref q3) (ty := (.object "RoundRules$Layers")) (C := RX6) (T := TX6) (N := 5) hx hb hts (by decide +kernel) tyX6 tyX6_ok nmX6 hown hK hP hD hS 0 rfl rfl 1 (by decide) (hts (.fieldLink RX6 37 "RoundRules$World" "layers" "LRoundRules$Layers;") (by decide +kernel)) (fun _ h9 => h9) rfl hin rfl (by decide +kernel) rfl rfl (Nat.le_of_ble_eq_true rfl) dX6_init_52 (fun H locs hP hD hS => ?_)
  have hP : va_P D vwCl [(h, .inr (6, [.null, .ref q3, .ref q5, .ref q7, .int 0])), (q1, .inr (2, [.ref (u2 0), .ref (u2 1), .ref (u2 2), .ref (u2 3), .ref (u2 4), .ref (u2 5), .ref (u2 6), .int 0, .int 0])), (u2 0, .inl (y, 5, .inl (fun _ => 0))), (u2 1, .inl (y, 5, .inl (fun _ => 0))), (u2 2, .inl (y, 5, .inl (fun _ => 0))), (u2 3, .inl (y, 5, .inl (fun _ => 0))), (u2 4, .inl (y, 5, .inl (fun _ => 0))), (u2 5, .inl (y, 5, .inl (fun _ => 0))), (u2 6, .inl (y, 4, .inl (fun _ => 0))), (q3, .inr (1, [.ref q1, .ref (u4 0), .ref (u4 1)])), (u4 0, .inl (y, 4, .inl (fun _ => 0))), (u4 1, .inl (y, 4, .inl (fun _ => 0))), (q5, .inr (3, [.ref q1, .ref q3, .ref (u6 0), .ref (u6 1), .ref (u6 2), .int 0])), (u6 0, .inl (y, 4, .inl (fun _ => 0))), (u6 1, .inl (y, 4, .inl (fun _ => 0))), (u6 2, .inl (y, 64, .inl (fun _ => 0))), (q7, .inr (0, [.ref q1, .ref q3, .ref q5, .ref (u8 0), .ref (u8 1), .int 0, .int 0])), (u8 0, .inl (yL, 64, .inr (.inl rowL0))), (u8 1, .inl (y, 64, .inl (fun _ => 0)))] H := hP
  have hD : va_D A [(h, .inr (6, [.null, .ref q3, .ref q5, .ref q7, .int 0])), (q1, .inr (2, [.ref (u2 0), .ref (u2 1), .ref (u2 2), .ref (u2 3), .ref (u2 4), .ref (u2 5), .ref (u2 6), .int 0, .int 0])), (u2 0, .inl (y, 5, .inl (fun _ => 0))), (u2 1, .inl (y, 5, .inl (fun _ => 0))), (u2 2, .inl (y, 5, .inl (fun _ => 0))), (u2 3, .inl (y, 5, .inl (fun _ => 0))), (u2 4, .inl (y, 5, .inl (fun _ => 0))), (u2 5, .inl (y, 5, .inl (fun _ => 0))), (u2 6, .inl (y, 4, .inl (fun _ => 0))), (q3, .inr (1, [.ref q1, .ref (u4 0), .ref (u4 1)])), (u4 0, .inl (y, 4, .inl (fun _ => 0))), (u4 1, .inl (y, 4, .inl (fun _ => 0))), (q5, .inr (3, [.ref q1, .ref q3, .ref (u6 0), .ref (u6 1), .ref (u6 2), .int 0])), (u6 0, .inl (y, 4, .inl (fun _ => 0))), (u6 1, .inl (y, 4, .inl (fun _ => 0))), (u6 2, .inl (y, 64, .inl (fun _ => 0))), (q7, .inr (0, [.ref q1, .ref q3, .ref q5, .ref (u8 0), .ref (u8 1), .int 0, .int 0])), (u8 0, .inl (yL, 64, .inr (.inl rowL0))), (u8 1, .inl (y, 64, .inl (fun _ => 0)))] := hD
  refine lv_aload_n hx hb dX6_init_55 rfl (lv_at hl 3 rfl) ?_
  refine lv_aload_n hx hb dX6_init_56 rfl (lv_at hl 2 rfl) ?_
  refine va_putF (D := D) (ci := 6) (v := .ref q1) (ty := (.object "RoundRules$Program")) (C := RX6) (T := TX6) (N := 5) hx hb hts (by decide +kernel) tyX6 tyX6_ok nmX6 hown hK hP hD hS 0 rfl rfl 0 (by decide) (hts (.fieldLink RX6 41 "RoundRules$World" "program" "LRoundRules$Program;") (by decide +kernel)) (fun _ h9 => h9) rfl hin rfl (by decide +kernel) rfl rfl (Nat.le_of_ble_eq_true rfl) dX6_init_57 (fun H locs hP hD hS => ?_)
  have hP : va_P D vwCl [(h, .inr (6, [.ref q1, .ref q3, .ref q5, .ref q7, .int 0])), (q1, .inr (2, [.ref (u2 0), .ref (u2 1), .ref (u2 2), .ref (u2 3), .ref (u2 4), .ref (u2 5), .ref (u2 6), .int 0, .int 0])), (u2 0, .inl (y, 5, .inl (fun _ => 0))), (u2 1, .inl (y, 5, .inl (fun _ => 0))), (u2 2, .inl (y, 5, .inl (fun _ => 0))), (u2 3, .inl (y, 5, .inl (fun _ => 0))), (u2 4, .inl (y, 5, .inl (fun _ => 0))), (u2 5, .inl (y, 5, .inl (fun _ => 0))), (u2 6, .inl (y, 4, .inl (fun _ => 0))), (q3, .inr (1, [.ref q1, .ref (u4 0), .ref (u4 1)])), (u4 0, .inl (y, 4, .inl (fun _ => 0))), (u4 1, .inl (y, 4, .inl (fun _ => 0))), (q5, .inr (3, [.ref q1, .ref q3, .ref (u6 0), .ref (u6 1), .ref (u6 2), .int 0])), (u6 0, .inl (y, 4, .inl (fun _ => 0))), (u6 1, .inl (y, 4, .inl (fun _ => 0))), (u6 2, .inl (y, 64, .inl (fun _ => 0))), (q7, .inr (0, [.ref q1, .ref q3, .ref q5, .ref (u8 0), .ref (u8 1), .int 0, .int 0])), (u8 0, .inl (yL, 64, .inr (.inl rowL0))), (u8 1, .inl (y, 64, .inl (fun _ => 0)))] H := hP
  have hD : va_D A [(h, .inr (6, [.ref q1, .ref q3, .ref q5, .ref q7, .int 0])), (q1, .inr (2, [.ref (u2 0), .ref (u2 1), .ref (u2 2), .ref (u2 3), .ref (u2 4), .ref (u2 5), .ref (u2 6), .int 0, .int 0])), (u2 0, .inl (y, 5, .inl (fun _ => 0))), (u2 1, .inl (y, 5, .inl (fun _ => 0))), (u2 2, .inl (y, 5, .inl (fun _ => 0))), (u2 3, .inl (y, 5, .inl (fun _ => 0))), (u2 4, .inl (y, 5, .inl (fun _ => 0))), (u2 5, .inl (y, 5, .inl (fun _ => 0))), (u2 6, .inl (y, 4, .inl (fun _ => 0))), (q3, .inr (1, [.ref q1, .ref (u4 0), .ref (u4 1)])), (u4 0, .inl (y, 4, .inl (fun _ => 0))), (u4 1, .inl (y, 4, .inl (fun _ => 0))), (q5, .inr (3, [.ref q1, .ref q3, .ref (u6 0), .ref (u6 1), .ref (u6 2), .int 0])), (u6 0, .inl (y, 4, .inl (fun _ => 0))), (u6 1, .inl (y, 4, .inl (fun _ => 0))), (u6 2, .inl (y, 64, .inl (fun _ => 0))), (q7, .inr (0, [.ref q1, .ref q3, .ref q5, .ref (u8 0), .ref (u8 1), .int 0, .int 0])), (u8 0, .inl (yL, 64, .inr (.inl rowL0))), (u8 1, .inl (y, 64, .inl (fun _ => 0)))] := hD
  exact W.vret hx hb hr (fun t ht hW => ⟨⟨(fun k => if k = 10 then q1 else if k = 11 then (u2 0) else if k = 12 then (u2 1) else if k = 13 then (u2 2) else if k = 14 then (u2 3) else if k = 15 then (u2 4) else if k = 16 then (u2 5) else if k = 17 then (u2 6) else if k = 30 then q3 else if k = 32 then (u4 0) else if k = 33 then (u4 1) else if k = 40 then q5 else if k = 43 then (u6 0) else if k = 44 then (u6 1) else if k = 45 then (u6 2) else if k = 50 then q7 else if k = 54 then (u8 0) else if k = 55 then (u8 1) else 0), rfl, trivial, by show va_P D vwCl (w0X6 y yL h _) t.heap ∧ _; rw [ht]; exact ⟨hP, hD⟩⟩, hS.F ht⟩) hS.2.2 dX6_init_60 hlocks
