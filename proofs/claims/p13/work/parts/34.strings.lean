/-! the three text constants, and the JDK's members that read them -/
def kLen : List Nat := [1, 3, 4]
def kByt : List (List Int32) := [[100], [112, 98, 119], [99, 116, 106, 110]]
def kS (adK adV : Nat → Nat) (A : Nat → Prop) (U : State) (H : Heap) : Prop := vk_S 3 kLen kByt adK adV A U H ∧ va_Z "java/lang/String" "COMPACT_STRINGS" "Z" (.int 1) A U H ∧ va_Zq "jdk/internal/util/Preconditions" "SIOOBE_FORMATTER" "Ljava/util/function/BiFunction;" A U H
theorem kS.moved {adK adV : Nat → Nat} {A : Nat → Prop} {u U : State} {H : Heap} (hvm : u.vm.Alike U.vm) (h : kS adK adV A u H) : kS adK adV A U H := ⟨vk_S.moved hvm h.1, va_Z.moved hvm h.2.1, va_Zq.moved hvm h.2.2⟩
theorem kS.kept {adK adV : Nat → Nat} {A : Nat → Prop} {U : State} {H H1 : Heap} (h : kS adK adV A U H) (hq : ∀ a : Nat, a < H.size → ¬ A a → H1[a]? = H[a]?) : kS adK adV A U H1 := ⟨h.1.kept hq, h.2.1.kept hq, h.2.2.kept hq⟩
theorem kS.narrow {adK adV : Nat → Nat} {A B : Nat → Prop} {U : State} {H : Heap} (h : kS adK adV A U H) (hAB : ∀ q, B q → A q) : kS adK adV B U H := ⟨h.1.narrow hAB, h.2.1.narrow hAB, h.2.2.narrow hAB⟩
def kR (adK : Nat → Nat) (s : State) : Prop := vk_R RX5 42 "d" (adK 0) s ∧ vk_R RX5 72 "pbw" (adK 1) s ∧ vk_R RX5 80 "ctjn" (adK 2) s
theorem kR.same {adK : Nat → Nat} {u U : State} (h : U.vm = u.vm) (c : kR adK u) : kR adK U := ⟨c.1.same h, c.2.1.same h, c.2.2.same h⟩
theorem kR.warm {adK : Nat → Nat} {s U : State} (h : s.WarmedH U.vm) (c : kR adK s) : kR adK U := ⟨c.1.warm h, c.2.1.warm h, c.2.2.warm h⟩
def kLn (t : Nat) : Int32 := Int32.ofNat (kLen.getD t 0) >>> ((0 : Int32) &&& 31)
def kCh (t : Nat) (i : Int32) : Int32 := (((kByt.getD t []).getD i.toNatClampNeg 0 &&& 255).toUInt32 % 65536).toInt32
def rmK (f lo : Nat) : Room := { frames := f, cells := 0, slots := 0, locals := lo }
def nf : Nat → Prop := fun _ => False
def sQv : Array Value → State → Outcome → State → Prop := va_Qv (fun (_ : Unit) => True) (fun _ _ => True) (fun _ => False)
theorem j3_check1 (l : Launch) (i n : Int32) (v : Value) (hv : v.category = 1) (h0 : ¬ i < 0) (h1 : i < n) : Met l yJ3_checkIndex_8e157 wsJ3_checkIndex_8e157 (rmK 0 0) (va_Pc [.int i, .int n, v] (fun _ => True)) (sQi i) 0 0 (fun _ => False) := by
  refine Met.ofW (cc := cJ3_checkIndex_8e157) (maxL := 3) (ret := some .int) (by decide) rfl ?_
  intro p e s m args below meth c s₁ B hml hv
  obtain ⟨rfl, -⟩ := hv
  have hx := B.exec
  have hb := B.bytes
  have hl0 : (lg_sl [.int i, .int n, v]).length ≤ 3 := by
    cases v <;> first | exact Nat.le_of_ble_eq_true rfl | (simp [Value.category] at hv; done)
  have hl := lv_entry ([.int i, .int n, v]) (n := 3) hl0
  rw [lg_entry_eq]
  generalize (lg_sl ([.int i, .int n, v]) ++ List.replicate (3 - (lg_sl ([.int i, .int n, v])).length) Slot.unset).toArray = ls at hl ⊢
  have hl : lv_has ls 3 [(0, .int i), (1, .int n), (2, v)] := hl
  refine lv_iload_n hx hb dJ3_checkIndex_8e157_0 rfl (lv_at hl 0 rfl) ?_
  refine lv_if_lt (tgt := 9) hx hb dJ3_checkIndex_8e157_1 (by decide) (fun c1 => absurd c1 h0) (fun c1 => ?_)
  refine lv_iload_n hx hb dJ3_checkIndex_8e157_4 rfl (lv_at hl 0 rfl) ?_
  refine lv_iload_n hx hb dJ3_checkIndex_8e157_5 rfl (lv_at hl 1 rfl) ?_
  refine lv_icmp_lt (tgt := 16) hx hb dJ3_checkIndex_8e157_6 (by decide) (fun c1 => ?_) (fun c1 => absurd h1 c1)
  refine lv_iload_n hx hb dJ3_checkIndex_8e157_16 rfl (lv_at hl 0 rfl) ?_
  exact W.iret hx hb B.returns (fun t ht hW => ⟨⟨i, (), rfl, rfl, trivial⟩, va_S.F va_S.rf ht⟩) (fun _ h => by cases h) dJ3_checkIndex_8e157_17 B.notSynchronized
theorem j0_check (l : Launch) (i n : Int32) (h0 : ¬ i < 0) (h1 : i < n) : Met l yJ0_checkIndex_df160 wsJ0_checkIndex_df160 (rmK 1 30) (va_Pc [.int i, .int n] (fun U => va_Zq "jdk/internal/util/Preconditions" "SIOOBE_FORMATTER" "Ljava/util/function/BiFunction;" nf U U.heap)) sQv 0 0 (fun _ => False) := by
  refine Met.ofW (cc := cJ0_checkIndex_df160) (maxL := 2) (ret := none) (by decide) rfl ?_
  intro p e s m args below meth c s₁ B hml hv
  obtain ⟨rfl, hZ⟩ := hv
  have hx := B.exec
  have hb := B.bytes
  have hts := atoms_spec (ws := wsJ0_checkIndex_df160) B.pre
  have hown : s.vm.findClass RJ0 = some m.cls := findClass_of_methodNamed B.named
  have hl := lv_entry ([.int i, .int n]) (n := 2) (Nat.le_of_ble_eq_true rfl)
  rw [lg_entry_eq]
  generalize (lg_sl ([.int i, .int n]) ++ List.replicate (2 - (lg_sl ([.int i, .int n])).length) Slot.unset).toArray = ls at hl ⊢
  have hl : lv_has ls 2 [(0, .int i), (1, .int n)] := hl
  have hS : va_S nf s.heap s.heap [] := va_S.rf
  refine lv_iload_n hx hb dJ0_checkIndex_df160_0 rfl (lv_at hl 0 rfl) ?_
  refine lv_iload_n hx hb dJ0_checkIndex_df160_1 rfl (lv_at hl 1 rfl) ?_
  have hrest : ∀ v : Value, v.category = 1 → W p l e (headSpec wsJ0_checkIndex_df160 (rmK 1 30)).room s m ([.int i, .int n] : List Value).toArray below meth c s.heap [] 0 0 (MQ below sQv ([.int i, .int n] : List Value).toArray s 0 0 (fun _ => False)) (F0 m 5 ls [v, .int n, .int i]) := by
    intro v hv
    refine va_calli (va_runS (As := [.int i, .int n, v]) (rest := []) ⟨hx, hb, hml, hown, hts⟩ (j3_check1 l i n v hv h0 h1) (va_cwS 3 hts gJ0_checkIndex_df160_J3_checkIndex_8e157 rfl rfl rfl (by decide +kernel) ⟨Nat.le_of_ble_eq_true rfl, Nat.le_of_ble_eq_true rfl⟩) ⟨fun a U g mk z => ⟨z.1, trivial⟩, fun U hU hW => ⟨rfl, trivial⟩⟩ rfl rfl hl.1 rfl (lv_room (Nat.le_of_ble_eq_true rfl)) dJ0_checkIndex_df160_5 ⟨Nat.zero_le _, Nat.zero_le _⟩) hS (fun x _ hx => hx.elim) (fun x hx => hx.elim) (fun r u t H1 locs1 ht hvm hw2 hB hz hk hS => ?_)
    refine lv_pop hx hb dJ0_checkIndex_df160_8 rfl ?_
    exact W.vret hx hb B.returns (fun t ht hW => ⟨⟨(), rfl, trivial, trivial⟩, va_S.F hS ht⟩) hS.2.2 dJ0_checkIndex_df160_9 B.notSynchronized
  rcases hZ with hZ | ⟨t, hZ⟩
  · exact va_gets hx hb hZ hS hown (hts (.fieldLink RJ0 1053 "jdk/internal/util/Preconditions" "SIOOBE_FORMATTER" "Ljava/util/function/BiFunction;") (by decide +kernel)) (fun _ h => h) dJ0_checkIndex_df160_2 (hrest _ rfl)
  · exact va_gets hx hb hZ hS hown (hts (.fieldLink RJ0 1053 "jdk/internal/util/Preconditions" "SIOOBE_FORMATTER" "Ljava/util/function/BiFunction;") (by decide +kernel)) (fun _ h => h) dJ0_checkIndex_df160_2 (hrest _ rfl)
theorem kin {i : Int32} {n : Nat} (h : inb i n = true) (hn : n < 2 ^ 31) : ¬ i < 0 ∧ i < Int32.ofNat n := by
  obtain ⟨j, hj, rfl⟩ := vp_in_of (inb_in h) hn
  exact ⟨nI_pos (by omega), nI_lt hj hn⟩
theorem kLen_lt (t : Nat) : kLen.getD t 0 < 2 ^ 31 := by
  match t with
  | 0 => decide
  | 1 => decide
  | 2 => decide
  | t + 3 => exact Nat.lt_of_le_of_lt (Nat.le_of_eq (by simp [kLen])) (by decide : 0 < 2 ^ 31)
theorem j1_charAt (l : Launch) (adK adV : Nat → Nat) (t : Nat) (ht3 : t < 3) (i : Int32) (hi : inb i (kLen.getD t 0) = true) : Met l yJ1_charAt_3b067 wsJ1_charAt_3b067 (rmK 2 60) (va_Pc [.ref (adV t), .int i] (fun U => kS adK adV nf U U.heap)) (sQi (kCh t i)) 0 0 (fun _ => False) := by
  refine Met.ofW (cc := cJ1_charAt_3b067) (maxL := 2) (ret := some .char) (by decide) rfl ?_
  intro p e s m args below meth c s₁ B hml hv
  obtain ⟨rfl, hk⟩ := hv
  have hx := B.exec
  have hb := B.bytes
  have hts := atoms_spec (ws := wsJ1_charAt_3b067) B.pre
  have hown : s.vm.findClass RJ1 = some m.cls := findClass_of_methodNamed B.named
  have hl := lv_entry ([.ref (adV t), .int i]) (n := 2) (Nat.le_of_ble_eq_true rfl)
  rw [lg_entry_eq]
  generalize (lg_sl ([.ref (adV t), .int i]) ++ List.replicate (2 - (lg_sl ([.ref (adV t), .int i])).length) Slot.unset).toArray = ls at hl ⊢
  have hl : lv_has ls 2 [(0, .ref (adV t)), (1, .int i)] := hl
  have hS : va_S nf s.heap s.heap [] := va_S.rf
  have hT := (hk.1.1 t ht3).2.2.2
  refine lv_iload_n hx hb dJ1_charAt_3b067_0 rfl (lv_at hl 1 rfl) ?_
  refine lv_aload_n hx hb dJ1_charAt_3b067_1 rfl (lv_at hl 0 rfl) ?_
  refine va_tlen hx hb hT hS (v := Int32.ofNat (kLen.getD t 0)) rfl dJ1_charAt_3b067_2 ?_
  refine va_callv (va_runS (As := [.int i, .int (Int32.ofNat (kLen.getD t 0))]) (rest := []) ⟨hx, hb, hml, hown, hts⟩ (j0_check l i (Int32.ofNat (kLen.getD t 0)) (kin hi (kLen_lt t)).1 (kin hi (kLen_lt t)).2) (va_cwS 2 hts gJ1_charAt_3b067_J0_checkIndex_df160 rfl rfl rfl (by decide +kernel) ⟨Nat.le_of_ble_eq_true rfl, Nat.le_of_ble_eq_true rfl⟩) ⟨fun a U g mk z => ⟨z.1, va_Zq.moved (u := U) (U := U.calling g mk a) (Vm.Alike.refl U.vm) z.2⟩, fun U hU hW => ⟨rfl, by show va_Zq _ _ _ nf U U.heap; rw [hU]; exact va_Zq.moved hW.alike hk.2.2⟩⟩ rfl rfl hl.1 rfl (lv_room (Nat.le_of_ble_eq_true rfl)) dJ1_charAt_3b067_3 ⟨Nat.zero_le _, Nat.zero_le _⟩) hS (fun x _ hx => hx.elim) (fun x hx => hx.elim) (fun u t2 H1 locs1 ht2 hvm hw2 hB hz hk2 hS => ?_)
  refine lv_aload_n hx hb dJ1_charAt_3b067_6 rfl (lv_at hl 0 rfl) ?_
  refine lv_iload_n hx hb dJ1_charAt_3b067_7 rfl (lv_at hl 1 rfl) ?_
  refine va_tb hx hb hT hS (inb_in hi) (v := .int ((kByt.getD t []).getD i.toNatClampNeg 0)) rfl dJ1_charAt_3b067_8 ?_
  refine lv_sipush (v := 255) hx hb dJ1_charAt_3b067_9 (by decide) ?_
  refine lv_iand hx hb dJ1_charAt_3b067_12 ?_
  refine lv_i2c (v := kCh t i) hx hb dJ1_charAt_3b067_13 rfl ?_
  exact W.zret hx hb B.returns (pk_nc _) (fun t ht hW => ⟨⟨_, (), rfl, rfl, trivial⟩, va_S.F hS ht⟩) hS.2.2 dJ1_charAt_3b067_14 B.notSynchronized
theorem j0_coder (l : Launch) (adK adV : Nat → Nat) (t : Nat) (ht3 : t < 3) : Met l yJ0_coder_7d493 wsJ0_coder_7d493 (rmK 0 0) (va_Pc [.ref (adK t)] (fun U => kS adK adV nf U U.heap)) (sQi 0) 0 0 (fun _ => False) := by
  refine Met.ofW (cc := cJ0_coder_7d493) (maxL := 1) (ret := some .byte) (by decide) rfl ?_
  intro p e s m args below meth c s₁ B hml hv
  obtain ⟨rfl, hk⟩ := hv
  have hx := B.exec
  have hb := B.bytes
  have hts := atoms_spec (ws := wsJ0_coder_7d493) B.pre
  have hown : s.vm.findClass RJ0 = some m.cls := findClass_of_methodNamed B.named
  have hl := lv_entry ([.ref (adK t)]) (n := 1) (Nat.le_of_ble_eq_true rfl)
  rw [lg_entry_eq]
  generalize (lg_sl ([.ref (adK t)]) ++ List.replicate (1 - (lg_sl ([.ref (adK t)])).length) Slot.unset).toArray = ls at hl ⊢
  have hl : lv_has ls 1 [(0, .ref (adK t))] := hl
  have hS : va_S nf s.heap s.heap [] := va_S.rf
  refine va_gets hx hb hk.2.1 hS hown (hts (.fieldLink RJ0 38 "java/lang/String" "COMPACT_STRINGS" "Z") (by decide +kernel)) (fun _ h => h) dJ0_coder_7d493_0 ?_
  refine lv_if_eq (tgt := 13) hx hb dJ0_coder_7d493_3 (by decide) (fun c1 => absurd c1 (by decide)) (fun c1 => ?_)
  refine lv_aload_n hx hb dJ0_coder_7d493_6 rfl (lv_at hl 0 rfl) ?_
  refine vk_getf hx hb (hk.1.1 t ht3).2.1 hS hown (hts (.fieldLink RJ0 15 "java/lang/String" "coder" "B") (by decide +kernel)) (fun _ h => h) dJ0_coder_7d493_7 ?_
  refine lv_goto (tgt := 14) hx hb dJ0_coder_7d493_10 (by decide) ?_
  exact W.zret hx hb B.returns rfl (fun t ht hW => ⟨⟨_, (), rfl, rfl, trivial⟩, va_S.F hS ht⟩) hS.2.2 dJ0_coder_7d493_14 B.notSynchronized
theorem j0_isLatin1 (l : Launch) (adK adV : Nat → Nat) (t : Nat) (ht3 : t < 3) : Met l yJ0_isLatin1_aae02 wsJ0_isLatin1_aae02 (rmK 0 0) (va_Pc [.ref (adK t)] (fun U => kS adK adV nf U U.heap)) (sQi 1) 0 0 (fun _ => False) := by
  refine Met.ofW (cc := cJ0_isLatin1_aae02) (maxL := 1) (ret := some .boolean) (by decide) rfl ?_
  intro p e s m args below meth c s₁ B hml hv
  obtain ⟨rfl, hk⟩ := hv
  have hx := B.exec
  have hb := B.bytes
  have hts := atoms_spec (ws := wsJ0_isLatin1_aae02) B.pre
  have hown : s.vm.findClass RJ0 = some m.cls := findClass_of_methodNamed B.named
  have hl := lv_entry ([.ref (adK t)]) (n := 1) (Nat.le_of_ble_eq_true rfl)
  rw [lg_entry_eq]
  generalize (lg_sl ([.ref (adK t)]) ++ List.replicate (1 - (lg_sl ([.ref (adK t)])).length) Slot.unset).toArray = ls at hl ⊢
  have hl : lv_has ls 1 [(0, .ref (adK t))] := hl
  have hS : va_S nf s.heap s.heap [] := va_S.rf
  refine va_gets hx hb hk.2.1 hS hown (hts (.fieldLink RJ0 38 "java/lang/String" "COMPACT_STRINGS" "Z") (by decide +kernel)) (fun _ h => h) dJ0_isLatin1_aae02_0 ?_
  refine lv_if_eq (tgt := 17) hx hb dJ0_isLatin1_aae02_3 (by decide) (fun c1 => absurd c1 (by decide)) (fun c1 => ?_)
  refine lv_aload_n hx hb dJ0_isLatin1_aae02_6 rfl (lv_at hl 0 rfl) ?_
  refine vk_getf hx hb (hk.1.1 t ht3).2.1 hS hown (hts (.fieldLink RJ0 15 "java/lang/String" "coder" "B") (by decide +kernel)) (fun _ h => h) dJ0_isLatin1_aae02_7 ?_
  refine lv_if_ne (tgt := 17) hx hb dJ0_isLatin1_aae02_10 (by decide) (fun c1 => absurd rfl c1) (fun c1 => ?_)
  refine lv_iconst (v := 1) hx hb dJ0_isLatin1_aae02_13 (by decide) ?_
  refine lv_goto (tgt := 18) hx hb dJ0_isLatin1_aae02_14 (by decide) ?_
  exact W.zret hx hb B.returns rfl (fun t ht hW => ⟨⟨_, (), rfl, rfl, trivial⟩, va_S.F hS ht⟩) hS.2.2 dJ0_isLatin1_aae02_18 B.notSynchronized
theorem k_pre {s : State} {H : Heap} {locs : List Loc} {adK adV : Nat → Nat} {t : Nat} (ht3 : t < 3) (hk : kS adK adV nf s s.heap) (hS : va_S nf s.heap H locs) (As : List Value) : PreV s H "java/lang/String" (adK t) (va_Pc (.ref (adK t) :: As) (fun U => kS adK adV nf U U.heap)) As :=
  ⟨fun a U g mk z => ⟨z.1, kS.moved (u := U) (U := U.calling g mk a) (Vm.Alike.refl U.vm) z.2⟩, vk_recv hk.1 ht3 hS, fun U hU hW => ⟨rfl, by show kS adK adV nf U U.heap; rw [hU]; exact (hk.moved hW.alike).kept hS.2.1⟩⟩
theorem j0_length (l : Launch) (adK adV : Nat → Nat) (t : Nat) (ht3 : t < 3) : Met l yJ0_length_8abf5 wsJ0_length_8abf5 (rmK 1 30) (va_Pc [.ref (adK t)] (fun U => kS adK adV nf U U.heap)) (sQi (kLn t)) 0 0 (fun _ => False) := by
  refine Met.ofW (cc := cJ0_length_8abf5) (maxL := 1) (ret := some .int) (by decide) rfl ?_
  intro p e s m args below meth c s₁ B hml hv
  obtain ⟨rfl, hk⟩ := hv
  have hx := B.exec
  have hb := B.bytes
  have hts := atoms_spec (ws := wsJ0_length_8abf5) B.pre
  have hown : s.vm.findClass RJ0 = some m.cls := findClass_of_methodNamed B.named
  have hl := lv_entry ([.ref (adK t)]) (n := 1) (Nat.le_of_ble_eq_true rfl)
  rw [lg_entry_eq]
  generalize (lg_sl ([.ref (adK t)]) ++ List.replicate (1 - (lg_sl ([.ref (adK t)])).length) Slot.unset).toArray = ls at hl ⊢
  have hl : lv_has ls 1 [(0, .ref (adK t))] := hl
  have hS : va_S nf s.heap s.heap [] := va_S.rf
  refine lv_aload_n hx hb dJ0_length_8abf5_0 rfl (lv_at hl 0 rfl) ?_
  refine vk_getf hx hb (hk.1.1 t ht3).2.2.1 hS hown (hts (.fieldLink RJ0 9 "java/lang/String" "value" "[B") (by decide +kernel)) (fun _ h => h) dJ0_length_8abf5_1 ?_
  refine va_tlen hx hb (hk.1.1 t ht3).2.2.2 hS (v := Int32.ofNat (kLen.getD t 0)) rfl dJ0_length_8abf5_4 ?_
  refine lv_aload_n hx hb dJ0_length_8abf5_5 rfl (lv_at hl 0 rfl) ?_
  refine va_calli (va_runV (As := []) (rest := [.int (Int32.ofNat (kLen.getD t 0))]) ⟨hx, hb, hml, hown, hts⟩ (j0_coder l adK adV t ht3) (cwV 0 hts gJ0_length_8abf5_J0_coder_7d493 rfl rfl rfl (by decide +kernel) ⟨Nat.le_of_ble_eq_true rfl, Nat.le_of_ble_eq_true rfl⟩) (k_pre ht3 hk hS []) rfl rfl hl.1 rfl (lv_room (Nat.le_of_ble_eq_true rfl)) dJ0_length_8abf5_6 ⟨Nat.zero_le _, Nat.zero_le _⟩) hS (fun x _ hx => hx.elim) (fun x hx => hx.elim) (fun r u t2 H1 locs1 ht2 hvm hw2 hB hz hk2 hS => ?_)
  cases hw2
  refine lv_ishr hx hb dJ0_length_8abf5_9 ?_
  exact W.iret hx hb B.returns (fun t ht hW => ⟨⟨_, (), rfl, rfl, trivial⟩, va_S.F hS ht⟩) hS.2.2 dJ0_length_8abf5_10 B.notSynchronized
theorem j0_charAt (l : Launch) (adK adV : Nat → Nat) (t : Nat) (ht3 : t < 3) (i : Int32) (hi : inb i (kLen.getD t 0) = true) : Met l yJ0_charAt_5068e wsJ0_charAt_5068e (rmK 3 90) (va_Pc [.ref (adK t), .int i] (fun U => kS adK adV nf U U.heap)) (sQi (kCh t i)) 0 0 (fun _ => False) := by
  refine Met.ofW (cc := cJ0_charAt_5068e) (maxL := 2) (ret := some .char) (by decide) rfl ?_
  intro p e s m args below meth c s₁ B hml hv
  obtain ⟨rfl, hk⟩ := hv
  have hx := B.exec
  have hb := B.bytes
  have hts := atoms_spec (ws := wsJ0_charAt_5068e) B.pre
  have hown : s.vm.findClass RJ0 = some m.cls := findClass_of_methodNamed B.named
  have hl := lv_entry ([.ref (adK t), .int i]) (n := 2) (Nat.le_of_ble_eq_true rfl)
  rw [lg_entry_eq]
  generalize (lg_sl ([.ref (adK t), .int i]) ++ List.replicate (2 - (lg_sl ([.ref (adK t), .int i])).length) Slot.unset).toArray = ls at hl ⊢
  have hl : lv_has ls 2 [(0, .ref (adK t)), (1, .int i)] := hl
  have hS : va_S nf s.heap s.heap [] := va_S.rf
  refine lv_aload_n hx hb dJ0_charAt_5068e_0 rfl (lv_at hl 0 rfl) ?_
  refine va_calli (va_runV (As := []) (rest := []) ⟨hx, hb, hml, hown, hts⟩ (j0_isLatin1 l adK adV t ht3) (cwV 0 hts gJ0_charAt_5068e_J0_isLatin1_aae02 rfl rfl rfl (by decide +kernel) ⟨Nat.le_of_ble_eq_true rfl, Nat.le_of_ble_eq_true rfl⟩) (k_pre ht3 hk hS []) rfl rfl hl.1 rfl (lv_room (Nat.le_of_ble_eq_true rfl)) dJ0_charAt_5068e_1 ⟨Nat.zero_le _, Nat.zero_le _⟩) hS (fun x _ hx => hx.elim) (fun x hx => hx.elim) (fun r u t2 H1 locs1 ht2 hvm hw2 hB hz hk2 hS => ?_)
  cases hw2
  refine lv_if_eq (tgt := 16) hx hb dJ0_charAt_5068e_4 (by decide) (fun c1 => absurd c1 (by decide)) (fun c1 => ?_)
  refine lv_aload_n hx hb dJ0_charAt_5068e_7 rfl (lv_at hl 0 rfl) ?_
  refine vk_getf hx hb (hk.1.1 t ht3).2.2.1 hS hown (hts (.fieldLink RJ0 9 "java/lang/String" "value" "[B") (by decide +kernel)) (fun _ h => h) dJ0_charAt_5068e_8 ?_
  refine lv_iload_n hx hb dJ0_charAt_5068e_11 rfl (lv_at hl 1 rfl) ?_
  refine va_calli (va_runS (As := [.ref (adV t), .int i]) (rest := []) ⟨hx, hb, hml, hown, hts⟩ (j1_charAt l adK adV t ht3 i hi) (va_cwS 2 hts gJ0_charAt_5068e_J1_charAt_3b067 rfl rfl rfl (by decide +kernel) ⟨Nat.le_of_ble_eq_true rfl, Nat.le_of_ble_eq_true rfl⟩) ⟨fun a U g mk z => ⟨z.1, kS.moved (u := U) (U := U.calling g mk a) (Vm.Alike.refl U.vm) z.2⟩, fun U hU hW => ⟨rfl, by show kS adK adV nf U U.heap; rw [hU]; exact (hk.moved hW.alike).kept hS.2.1⟩⟩ rfl rfl hl.1 rfl (lv_room (Nat.le_of_ble_eq_true rfl)) dJ0_charAt_5068e_12 ⟨Nat.zero_le _, Nat.zero_le _⟩) hS (fun x _ hx => hx.elim) (fun x hx => hx.elim) (fun r u t2 H1 locs1 ht2 hvm hw2 hB hz hk2 hS => ?_)
  cases hw2
  exact W.zret hx hb B.returns (pk_nc _) (fun t ht hW => ⟨⟨_, (), rfl, rfl, trivial⟩, va_S.F hS ht⟩) hS.2.2 dJ0_charAt_5068e_15 B.notSynchronized
