def ushr (x y : Int32) : Int32 := (x.toUInt32 >>> (y.toUInt32 &&& Int32.toUInt32 31)).toInt32
def tX (p : Program) (s : State) (m : MethodId) (args : Array Value) (c : Code) (cc : ByteArray) (nL : Nat) (Ts : List Cond) (own : String) : Prop := CallFix p m c cc nL s args Ts own ∧ cN s
section TL
variable {p : Program} {l : Launch} {e : Env} {R0 : Room} {s : State} {m : MethodId} {args : Array Value} {below : List Frame} {meth : Method} {c : Code} {H : Heap} {locs : List Loc} {cells slots : Nat} {Q : State → Prop}
variable {cc : ByteArray} {pc nL : Nat} {ls : Array Slot} {rest : List Value} {Ts : List Cond} {own : String}
theorem t_iret (X : tX p s m args c cc nL Ts own) (w : sH s H locs) {v : Int32} (hr : meth.sig.returnType = some .int ∧ meth.locks = false) (hdg : decode cc pc = .ok (.ireturn, 1)) :
    W p l e R0 s m args below meth c H locs 0 0 (MQ below (sQi v) args s 0 0 (fun _ => False)) (F0 m pc ls [.int v]) :=
  W.iret X.1.1 X.1.2.1 hr.1 (fun t ht hW => ⟨⟨v, (), rfl, rfl, trivial⟩, va_S.F w ht⟩) w.2.2 hdg hr.2
theorem t_zret (X : tX p s m args c cc nL Ts own) (w : sH s H locs) {v : Int32} (hr : meth.sig.returnType = some .boolean ∧ meth.locks = false) (hn : isB v = true) (hdg : decode cc pc = .ok (.ireturn, 1)) :
    W p l e R0 s m args below meth c H locs 0 0 (MQ below (sQi v) args s 0 0 (fun _ => False)) (F0 m pc ls [.int v]) :=
  W.zret X.1.1 X.1.2.1 hr.1 (isB_n hn) (fun t ht hW => ⟨⟨v, (), rfl, rfl, trivial⟩, va_S.F w ht⟩) w.2.2 hdg hr.2
theorem t_callni (X : tX p s m args c cc nL Ts own) (w : sH s H locs) {yy : MethodName} {wsy ws' : List Cond} {bytes : ByteArray} {maxL index n : Nat} {ret : Option FieldType} {rm : Room} {As st0 : List Value} {z : Int32} {host : String}
    (hM : Met l yy wsy rm (va_Pc As (fun U => cN U)) (sQi z) 0 0 (fun _ => False))
    (hG : GoodIn Ts wsy) (hN : va_Nw (.methodLinkNest own index yy host) s) (hi : Cond.initialized yy.cls ∈ Ts) (ht : Cond.static yy ∈ Ts) (hw : wsy = Cond.code yy bytes maxL ret :: ws') (hc : rm.cells = 0) (hs : rm.slots = 0) (hd : yy.cls ≠ "java/lang/invoke/MethodHandle" ∧ yy.cls ≠ "java/lang/invoke/VarHandle" ∧ (parseMethodDescriptor yy.desc).map (fun d => d.parameters.length) = some n)
    (hR : rm.frames + 1 ≤ R0.frames ∧ 8 + (maxL + 11) + rm.locals ≤ R0.locals) (hn : As.length = n) (hls : ls.size = nL) (hst : st0 = As.reverse ++ rest) (hro : (rest.map fun v => v.category).sum ≤ 8) (hdg : decode cc pc = .ok (.invokestatic index, 3))
    (kk : ∀ (H1 : Heap) (locs1 : List Loc), sH s H1 locs1 → W p l e R0 s m args below meth c H1 locs1 0 0 Q (F0 m (pc + 3) ls (.int z :: rest))) : W p l e R0 s m args below meth c H locs 0 0 Q (F0 m pc ls st0) := by
  refine va_calli (va_runSN (As := As) (rest := rest) (host := host) X.1 hM ⟨va_cnB n X.1.2.2.2.2 hG hw hc hs hN (X.1.2.2.2.2 _ hi) hd hR, X.1.2.2.2.2 _ ht, trivial⟩ ⟨fun a U g mk z => ⟨z.1, cN.same rfl z.2⟩, fun U hU hW => ⟨rfl, cN.warm hW X.2⟩⟩ rfl hn hls hst (lv_room hro) hdg ⟨Nat.zero_le _, Nat.zero_le _⟩) w (fun x _ hx => hx.elim) (fun x hx => hx.elim) (fun r u t H1 locs1 ht hvm hw2 hB hz hk hS => ?_)
  cases hw2
  exact kk H1 locs1 hS
end TL
theorem vaP_set {D : va_G} {cl : List vw_C} {A : Nat → Prop} {ws : va_W} {H H1 : Heap} {pos a : Nat} {e0 e : va_E} (h : va_P D cl ws H) (hD : va_D A ws) (hp : ws[pos]? = some (a, e0)) (he : va_at D cl (a, e) H1) (oq : ∀ x : Nat, x < H.size → x ≠ a → H1[x]? = H[x]?) : va_P D cl (ws.set pos (a, e)) H1 := by
  intro k x hk
  rw [List.getElem?_set] at hk
  by_cases hpk : pos = k
  · rw [if_pos hpk] at hk
    by_cases hl : pos < ws.length
    · rw [if_pos hl] at hk
      cases hk
      exact he
    · rw [if_neg hl] at hk
      cases hk
  · rw [if_neg hpk] at hk
    have hx := h k x hk
    exact hx.kept (oq _ hx.lt (fun e1 => hpk (hD.1 pos k _ _ hp hk e1.symm)))
def fiW (y : ClassId) (a N : Nat) (f : Nat → Int32) : va_W := [(a, .inl (y, N, .inl f))]
theorem fiW_D (y : ClassId) (a N : Nat) (f : Nat → Int32) {A : Nat → Prop} (hA : A a) : va_D A (fiW y a N f) := by
  refine ⟨fun i j p q hi hj _ => ?_, fun k q hk => ?_⟩
  · have h1 : i < 1 := (List.getElem?_eq_some_iff.mp hi).1
    have h2 : j < 1 := (List.getElem?_eq_some_iff.mp hj).1
    omega
  · have h1 : k < 1 := (List.getElem?_eq_some_iff.mp hk).1
    have h2 : k = 0 := by omega
    subst h2
    cases hk
    exact hA
def fiF (i : Nat) (v : Int32) (f : Nat → Int32) : Nat → Int32 := fun t => if t < i then v else f t
theorem fiF_s {i : Nat} {v : Int32} {f : Nat → Int32} : upd (fiF i v f) i v = fiF (i + 1) v f := by
  funext t
  unfold upd fiF
  by_cases h : t = i
  · rw [if_pos h, if_pos (by omega)]
  · rw [if_neg h]
    by_cases h2 : t < i
    · rw [if_pos h2, if_pos (by omega)]
    · rw [if_neg h2, if_neg (by omega)]
set_option maxHeartbeats 1000000 in
theorem fill_loop {p : Program} {l : Launch} {e : Env} {R0 : Room} {s : State} {m : MethodId} {args : Array Value} {below : List Frame} {meth : Method} {c : Code} {D : va_G} {y : ClassId} {a N : Nat} {v : Int32} {f : Nat → Int32} {A : Nat → Prop} (hx : p.tables.exec = Jvm.exec) (hb : c.code = cJ7_fill_53178) (hK : va_K D vwCl [(y, .int)] s) (hr : meth.sig.returnType = none ∧ meth.locks = false) (hN : N < 2 ^ 31) (hA : A a) : ∀ (j i : Nat) (H : Heap) (locs : List Loc) (ls : Array Slot), i + j = N → va_P D vwCl (fiW y a N (fiF i v f)) H → va_S A s.heap H locs → lv_has ls 4 [(0, .ref a), (1, .int v), (2, .int (nI i)), (3, .int (nI N))] → W p l e R0 s m args below meth c H locs 0 0 (MQ below (va_Qv (fun g : Nat → Int32 => g = fiF N v f) (fun g t => va_P D vwCl (fiW y a N g) t.heap) A) args s 0 0 A) (F0 m 5 ls []) := by
  intro j
  induction j with
  | zero =>
    intro i H locs ls hi hP hS hl
    have hi : i = N := by omega
    subst hi
    refine lv_iload_n hx hb dJ7_fill_53178_5 rfl (lv_at hl 2 rfl) ?_
    refine lv_iload_n hx hb dJ7_fill_53178_6 rfl (lv_at hl 3 rfl) ?_
    refine lv_icmp_ge (tgt := 20) hx hb dJ7_fill_53178_7 (by decide) (fun c1 => ?_) (fun c1 => ?_)
    · exact W.vret hx hb hr.1 (fun t ht hW => ⟨⟨_, rfl, rfl, by show va_P D vwCl _ t.heap; rw [ht]; exact hP⟩, hS.F ht⟩) hS.2.2 dJ7_fill_53178_20 hr.2
    · exact absurd (nI_le (Nat.le_refl _) hN) c1
  | succ j ih =>
    intro i H locs ls hi hP hS hl
    refine lv_iload_n hx hb dJ7_fill_53178_5 rfl (lv_at hl 2 rfl) ?_
    refine lv_iload_n hx hb dJ7_fill_53178_6 rfl (lv_at hl 3 rfl) ?_
    refine lv_icmp_ge (tgt := 20) hx hb dJ7_fill_53178_7 (by decide) (fun c1 => ?_) (fun c1 => ?_)
    · exact absurd c1 (nI_ge (by omega) hN)
    · refine lv_aload_n hx hb dJ7_fill_53178_10 rfl (lv_at hl 0 rfl) ?_
      refine lv_iload_n hx hb dJ7_fill_53178_11 rfl (lv_at hl 2 rfl) ?_
      refine lv_iload_n hx hb dJ7_fill_53178_12 rfl (lv_at hl 1 rfl) ?_
      refine va_iast hx hb hK hP (fiW_D y a N _ hA) hS 0 0 rfl rfl (vp_in_nI (by omega) hN) dJ7_fill_53178_13 (fun H locs hP hD hS => ?_)
      rw [nI_clamp (by omega), fiF_s] at hP
      refine lv_iinc (v := nI (i + 1)) (lv' := [(2, .int (nI (i + 1))), (0, .ref a), (1, .int v), (3, .int (nI N))]) hx hb dJ7_fill_53178_14 hl (k := 2) rfl (nI_1 i) (by decide) rfl (fun ls hl => ?_)
      refine lv_goto (tgt := 5) hx hb dJ7_fill_53178_17 (by decide) ?_
      exact ih (i + 1) _ _ _ (by omega) hP hS (lv_sub hl [1, 2, 0, 3] rfl)
def rmFill : Room := { frames := 0, cells := 0, slots := 0, locals := 0 }
theorem fill_met (l : Launch) (D : va_G) (y : ClassId) (a N sz : Nat) (f : Nat → Int32) (v : Int32) (hN : N < 2 ^ 31) : Met l yJ7_fill_53178 wsJ7_fill_53178 rmFill (va_Pc [.ref a, .int v] (fun U => U.heap.size = sz ∧ va_P D vwCl (fiW y a N f) U.heap ∧ va_K D vwCl [(y, .int)] U)) (va_Qv (fun g : Nat → Int32 => g = fiF N v f) (fun g t => va_P D vwCl (fiW y a N g) t.heap) (va_A (fiW y a N f) sz)) 0 0 (va_A (fiW y a N f) sz) := by
  refine Met.ofW (cc := cJ7_fill_53178) (maxL := 4) (ret := none) (by decide) rfl ?_
  intro p e s m args below meth c s₁ B hml hv
  obtain ⟨rfl, hsz, hP, hK⟩ := hv
  subst hsz
  have hx := B.exec
  have hb := B.bytes
  have hl := lv_entry ([.ref a, .int v]) (n := 4) (Nat.le_of_ble_eq_true rfl)
  rw [lg_entry_eq]
  generalize (lg_sl ([.ref a, .int v]) ++ List.replicate (4 - (lg_sl ([.ref a, .int v])).length) Slot.unset).toArray = ls at hl ⊢
  have hl : lv_has ls 4 [(0, .ref a), (1, .int v)] := hl
  refine lv_iconst (v := nI 0) hx hb dJ7_fill_53178_0 (by decide) ?_
  refine lv_istore_n (lv' := [(2, .int (nI 0)), (0, .ref a), (1, .int v)]) hx hb dJ7_fill_53178_1 rfl hl (by decide) rfl (fun ls hl => ?_)
  refine lv_aload_n hx hb dJ7_fill_53178_2 rfl (lv_at hl 1 rfl) ?_
  refine va_alen hx hb hK hP 0 0 (v := nI N) rfl rfl rfl dJ7_fill_53178_3 ?_
  refine lv_istore_n (lv' := [(3, .int (nI N)), (2, .int (nI 0)), (0, .ref a), (1, .int v)]) hx hb dJ7_fill_53178_4 rfl hl (by decide) rfl (fun ls hl => ?_)
  have e1 : fiF 0 v f = f := by funext t; exact if_neg (Nat.not_lt_zero t)
  exact fill_loop hx hb hK ⟨B.returns, B.notSynchronized⟩ hN (Or.inl ⟨0, _, rfl⟩) N 0 _ _ _ (Nat.zero_add N) (by rw [e1]; exact hP) va_S.rf (lv_sub hl [2, 3, 1, 0] rfl)
theorem c_fill {p : Program} {l : Launch} {e : Env} {R0 : Room} {s : State} {m : MethodId} {args : Array Value} {below : List Frame} {meth : Method} {c : Code} {H : Heap} {locs : List Loc} {Q : State → Prop} {cc : ByteArray} {pc nL : Nat} {ls : Array Slot} {D : va_G} {y : ClassId} {yS : ClassId × ClassId} {q : Nat → Nat} {I : Nat → Int32} {R : Nat → Nat → Int32} {Ts : List Cond} {own : String} (X : cX p s m args c cc nL Ts own D y yS) (w : cH s D y yS q H locs I R) {pos k len index : Nat} {v : Int32}
    (ha : (cW y yS q I R)[pos]? = some (q k, .inl (y, len, .inl (R k)))) (hset : ∀ f : Nat → Int32, (cW y yS q I R).set pos (q k, .inl (y, len, .inl f)) = cW y yS q I (fun j => if j = k then f else R j)) (hN : len + 1 ≤ 2 ^ 31) (hG : GoodIn Ts (va_wsS own index yJ7_fill_53178 wsJ7_fill_53178)) (hd : yJ7_fill_53178.cls ≠ "java/lang/invoke/MethodHandle" ∧ yJ7_fill_53178.cls ≠ "java/lang/invoke/VarHandle" ∧ (parseMethodDescriptor yJ7_fill_53178.desc).map (fun d => d.parameters.length) = some 2) (hR : rmFill.frames + 1 ≤ R0.frames ∧ 8 + (4 + 11) + rmFill.locals ≤ R0.locals) (hls : ls.size = nL) {rest : List Value} (hro : (rest.map fun v => v.category).sum ≤ 8) (hdg : decode cc pc = .ok (.invokestatic index, 3))
    (kk : ∀ (H1 : Heap) (locs1 : List Loc), cH s D y yS q H1 locs1 I (flA R k len v) → W p l e R0 s m args below meth c H1 locs1 0 0 Q (F0 m (pc + 3) ls rest)) : W p l e R0 s m args below meth c H locs 0 0 Q (F0 m pc ls (.int v :: .ref (q k) :: rest)) := by
  have hP1 : va_P D vwCl (fiW y (q k) len (R k)) H := w.1.sub [pos] (by show (List.filterMap _ [pos]) = _; rw [List.filterMap_cons, ha]; rfl)
  have hsub : ∀ x, va_A (fiW y (q k) len (R k)) H.size x → cS y yS q s.heap.size x := by
    intro x hx
    rcases hx with ⟨j, e1, hj⟩ | hx
    · have h1 : j < 1 := (List.getElem?_eq_some_iff.mp hj).1
      have h2 : j = 0 := by omega
      subst h2
      cases hj
      exact w.2.1.2 pos _ ha
    · exact Or.inr (Nat.le_trans w.2.2.1 hx)
  refine va_callv (va_runS (As := [.ref (q k), .int v]) (rest := rest) X.1 (fill_met l D y (q k) len H.size (R k) v (by omega)) (va_cwS 2 X.1.2.2.2.2 hG rfl rfl rfl hd hR) ⟨fun a U g mk z => ⟨z.1, z.2.1, z.2.2.1, va_K.moved (u := U) (U := U.calling g mk a) (Vm.Alike.refl U.vm) z.2.2.2⟩, fun U hU hW => ⟨rfl, by rw [hU], by rw [hU]; exact hP1, va_K.moved hW.alike (X.2.1.sub [0] rfl)⟩⟩ rfl rfl hls rfl (lv_room hro) hdg ⟨Nat.zero_le _, Nat.zero_le _⟩) w.2.2 (fun x _ hx => hsub x hx) hsub (fun g t H1 locs1 ht hvm hw2 hB hz hk hS => ?_)
  subst hw2
  have hB : va_P D vwCl (fiW y (q k) len (fiF len v (R k))) t.heap := hB
  rw [ht] at hB
  have hP2 := vaP_set w.1 w.2.1 ha (hB 0 _ rfl) (fun x h1 h2 => hk x h1 (fun h3 => by
    rcases h3 with ⟨j, e1, hj⟩ | h3
    · have h4 : j < 1 := (List.getElem?_eq_some_iff.mp hj).1
      have h5 : j = 0 := by omega
      subst h5
      cases hj
      exact h2 rfl
    · omega))
  have hD2 : va_D (cS y yS q s.heap.size) ((cW y yS q I R).set pos (q k, .inl (y, len, .inl (fiF len v (R k))))) := w.2.1.set ha
  rw [hset] at hP2 hD2
  exact kk H1 locs1 ⟨hP2, hD2, hS⟩
