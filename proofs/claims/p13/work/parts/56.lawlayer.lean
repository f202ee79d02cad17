/-! THE CLAIM OUT OF ONE WALK OF THE LAW'S BODY. Your part is whole_start (and what it stands on); all else here is the same for every law, but numbers. -/
def R_law : String := "RoundRulesLaw"
def lw_P (b : Addr) (xs : List Int32) (args : Array Value) (s : State) : Prop := args = #[.ref b] ∧ s.IntsAt b xs ∧ xs.length ≤ 3072 ∧ (Jvm.Cond.and given_1 narrow_1).before args s = true
def lw_Q (_ : Array Value) (s : State) (o : Outcome) (t : State) : Prop := o = .returned (some (.int 1)) ∧ Framed s o t [] 600000 7302250
def lw_Z (below : List Frame) (a : Array Value) (s : State) : State → Prop := fun t => ∃ o, t.status = .running ∧ Ended t below o ∧ lw_Q a s o t
/-- the law's own end, with 1 on the stack, nothing written that was there before, its room as the claim has it -/
theorem lw_ret {p : Program} {l : Launch} {e : Env} {s : State} {m : MethodId} {below : List Frame} {meth : Method} {c : Code} {b : Nat} (hx : p.tables.exec = Jvm.exec) (hb : c.code = code) (hr : meth.sig.returnType = ret) (hlocks : meth.locks = false) {pc : Nat} {H : Heap} {ls : Array Slot} (hdg : decode code pc = .ok (.ireturn, 1)) : W p l e room_1 s m #[Value.ref b] below meth c H [] 600000 7302250 (lw_Z below #[Value.ref b] s) (F0 m pc ls [.int 1]) := by
  intro T hT X
  obtain ⟨fs, hret, hrun, hended, hW, hframe⟩ := X.leave (v := some (.int 1)) (hlocks := hlocks) (fun h => by rw [hr] at h; cases h)
  have hmeth' : T.vm.method? m = some meth := X.method'
  refine ⟨T.setFrames fs, ?_, .returned (some (.int 1)), hrun, hended, rfl, ⟨_, rfl⟩, hW, hframe⟩
  jvm_step X.here [X.here.top, hx, hb, hdg, hmeth', hr, ret, narrow_b1]
  (try refine ⟨rfl, ?_⟩); (try refine ⟨rfl, ?_⟩)
  first | (intro acts; rw [hret _ acts rfl rfl rfl]) | rw [hret _ _ rfl rfl rfl]
  exact Steps.refl _
/-- what holds at the law's entry: the machine, the code, the tables' words (any of lw_tbl by 'hts w (by decide +kernel)'), the script of L ints xs at the cell b, what the Statement gives of the start (any of its parts by flat_of_before) -/
def lw_At (p : Program) (s : State) (m : MethodId) (meth : Method) (c : Code) (b L : Nat) (xs : Nat → Int32) : Prop :=
  p.tables.exec = Jvm.exec ∧ c.code = code ∧ meth.sig.returnType = ret ∧ c.maxLocals = 4 ∧ s.vm.findClass R_law = some m.cls ∧ (∀ w ∈ lw_tbl, w.before #[Value.ref b] s = true) ∧ va_X b L xs s s.heap ∧ b < s.heap.size ∧ meth.locks = false ∧ (Jvm.Cond.and given_1 narrow_1).before #[Value.ref b] s = true


theorem vaD_congr {A : Nat → Prop} {ws ws' : va_W} (h : ws.map Prod.fst = ws'.map Prod.fst) (hD : va_D A ws) : va_D A ws' := by
  have f1 : ∀ (k : Nat) (x : Nat × va_E), ws'[k]? = some x → ∃ z : Nat × va_E, ws[k]? = some z ∧ z.1 = x.1 := by
    intro k x hx
    have g1 : (ws'.map Prod.fst)[k]? = some x.1 := by rw [List.getElem?_map, hx]; rfl
    rw [← h, List.getElem?_map] at g1
    exact Option.map_eq_some_iff.mp g1
  refine ⟨fun i j a b hi hj hab => ?_, fun k x hx => ?_⟩
  · obtain ⟨a2, ha2, ea⟩ := f1 i a hi
    obtain ⟨b2, hb2, eb⟩ := f1 j b hj
    exact hD.1 i j a2 b2 ha2 hb2 (by rw [ea, eb]; exact hab)
  · obtain ⟨z, hz, ez⟩ := f1 k x hx
    rw [← ez]
    exact hD.2 k z hz
theorem vaD_left {A : Nat → Prop} {w1 w2 : va_W} (hD : va_D A (w1 ++ w2)) : va_D A w1 := by
  have f1 : ∀ (k : Nat) (x : Nat × va_E), w1[k]? = some x → (w1 ++ w2)[k]? = some x := fun k x hx => by
    rw [List.getElem?_append_left (List.getElem?_eq_some_iff.mp hx).1]; exact hx
  exact ⟨fun i j a b hi hj hab => hD.1 i j a b (f1 i a hi) (f1 j b hj) hab, fun k x hx => hD.2 k x (f1 k x hx)⟩
theorem vaD_rat {w1 w2 : va_W} (k : Nat) (x : Nat × va_E) (hx : w2[k]? = some x) : (w1 ++ w2)[w1.length + k]? = some x := by
  rw [List.getElem?_append_right (Nat.le_add_right _ _), Nat.add_sub_cancel_left]; exact hx
theorem vaD_right {A : Nat → Prop} {w1 w2 : va_W} (hD : va_D A (w1 ++ w2)) : va_D A w2 :=
  ⟨fun i j a b hi hj hab => by have := hD.1 _ _ a b (vaD_rat i a hi) (vaD_rat j b hj) hab; omega, fun k x hx => hD.2 _ x (vaD_rat k x hx)⟩
def lA (s : State) : Nat → Prop := fun q => s.heap.size ≤ q
abbrev cW0 (y : ClassId) (yS : ClassId × ClassId) (qc : Nat → Nat) : va_W := cW y yS qc (fun _ => 0) (fun _ _ => 0)
abbrev mW0 (y : ClassId) (h : Nat) (qm : Nat → Nat) : va_W := mW y h qm (fun _ => 0) (fun _ _ => 0)
def LH (s : State) (D : va_G) (y : ClassId) (yS : ClassId × ClassId) (qc : Nat → Nat) (h : Nat) (qm : Nat → Nat) (H : Heap) (locs : List Loc) (u v : mSt) : Prop := va_P D vwCl (cW y yS qc u.1 u.2) H ∧ va_P D vwCl (mW y h qm v.1 v.2) H ∧ va_D (lA s) (cW0 y yS qc ++ mW0 y h qm) ∧ va_S (lA s) s.heap H locs
def LX (p : Program) (s : State) (m : MethodId) (args : Array Value) (c : Code) (D : va_G) (y : ClassId) (yS : ClassId × ClassId) (adK adV : Nat → Nat) : Prop := CallFix p m c code 4 s args lw_tbl RL ∧ va_K D vwCl (cTy y yS) s ∧ cN s ∧ kS adK adV (lA s) s s.heap ∧ kR adK s
section LL
variable {p : Program} {l : Launch} {e : Env} {R0 : Room} {s : State} {m : MethodId} {args : Array Value} {below : List Frame} {meth : Method} {c : Code} {H : Heap} {locs : List Loc} {cells slots : Nat} {Q : State → Prop}
variable {pc : Nat} {ls : Array Slot} {rest : List Value} {D : va_G} {y : ClassId} {yS : ClassId × ClassId} {qc adK adV qm : Nat → Nat} {h : Nat} {u v : mSt}
theorem LH_c (w : LH s D y yS qc h qm H locs u v) : va_D (lA s) (cW y yS qc u.1 u.2) := vaD_congr (ws := cW0 y yS qc) ((cW_fst y yS qc _ _).trans (cW_fst y yS qc _ _).symm) (vaD_left w.2.2.1)
theorem LH_m (w : LH s D y yS qc h qm H locs u v) : va_D (lA s) (mW y h qm v.1 v.2) := vaD_congr (ws := mW0 y h qm) rfl (vaD_right w.2.2.1)
theorem l_cS (w : LH s D y yS qc h qm H locs u v) {x : Nat} (hx : cS y yS qc H.size x) : lA s x := by
  rcases hx with ⟨k, e1, hk⟩ | hx
  · exact (vaD_left w.2.2.1).2 k _ hk
  · exact Nat.le_trans w.2.2.2.1 hx
theorem l_mS (w : LH s D y yS qc h qm H locs u v) {x : Nat} (hx : mS y h qm H.size x) : lA s x := by
  rcases hx with ⟨k, e1, hk⟩ | hx
  · exact (vaD_right w.2.2.1).2 k _ hk
  · exact Nat.le_trans w.2.2.2.1 hx
theorem l_backC (w : LH s D y yS qc h qm H locs u v) {u' : mSt} {t : State} {H1 : Heap} {locs1 : List Loc} (ht : t.heap = H1) (hB : cB D y yS qc (cS y yS qc H.size) u' t) (hk : ∀ x : Nat, x < H.size → ¬ cS y yS qc H.size x → H1[x]? = H[x]?) (hS : va_S (lA s) s.heap H1 locs1) : LH s D y yS qc h qm H1 locs1 u' v := by
  refine ⟨by rw [← ht]; exact hB.1, w.2.1.kept (fun k x hx => ?_), w.2.2.1, hS⟩
  have hlt := (w.2.1 k x hx).lt
  refine hk _ hlt (fun hc => ?_)
  rcases hc with ⟨j, e1, hj⟩ | hc
  · have e2 : ((mW y h qm v.1 v.2).map Prod.fst)[k]? = some x.1 := by rw [List.getElem?_map, hx]; rfl
    have e3 : ((mW0 y h qm).map Prod.fst)[k]? = some x.1 := e2
    rw [List.getElem?_map] at e3
    obtain ⟨z, hz, ez⟩ := Option.map_eq_some_iff.mp e3
    have hjl : j < (cW0 y yS qc).length := (List.getElem?_eq_some_iff.mp hj).1
    have := w.2.2.1.1 j ((cW0 y yS qc).length + k) (x.1, e1) z (by rw [List.getElem?_append_left hjl]; exact hj) (vaD_rat k z hz) ez.symm
    omega
  · exact absurd hlt (Nat.not_lt.mpr hc)
theorem l_backM (w : LH s D y yS qc h qm H locs u v) {v' : mSt} {t : State} {H1 : Heap} {locs1 : List Loc} (ht : t.heap = H1) (hB : mB D y h qm (mS y h qm H.size) v' t) (hk : ∀ x : Nat, x < H.size → ¬ mS y h qm H.size x → H1[x]? = H[x]?) (hS : va_S (lA s) s.heap H1 locs1) : LH s D y yS qc h qm H1 locs1 u v' := by
  refine ⟨w.1.kept (fun k x hx => ?_), by rw [← ht]; exact hB.1, w.2.2.1, hS⟩
  have hlt := (w.1 k x hx).lt
  refine hk _ hlt (fun hc => ?_)
  rcases hc with ⟨j, e1, hj⟩ | hc
  · have e2 : ((cW y yS qc u.1 u.2).map Prod.fst)[k]? = some x.1 := by rw [List.getElem?_map, hx]; rfl
    have e3 : ((cW0 y yS qc).map Prod.fst)[k]? = some x.1 := by
      rw [cW_fst] at e2 ⊢
      exact e2
    rw [List.getElem?_map] at e3
    obtain ⟨z, hz, ez⟩ := Option.map_eq_some_iff.mp e3
    have hkl : k < (cW0 y yS qc).length := (List.getElem?_eq_some_iff.mp hz).1
    have := w.2.2.1.1 k ((cW0 y yS qc).length + j) z (x.1, e1) (by rw [List.getElem?_append_left hkl]; exact hz) (vaD_rat j _ hj) ez
    omega
  · exact absurd hlt (Nat.not_lt.mpr hc)
theorem l_preC (X : LX p s m args c D y yS adK adV) (w : LH s D y yS qc h qm H locs u v) (As : List Value) : PreV s H RX7 (qc 0) (va_Pc (.ref (qc 0) :: As) (cPre D y yS qc H.size u.1 u.2)) As :=
  ⟨fun a U g mk z => ⟨z.1, z.2.1, z.2.2.1, va_K.moved (u := U) (U := U.calling g mk a) (Vm.Alike.refl U.vm) z.2.2.2.1, cN.same rfl z.2.2.2.2.1, z.2.2.2.2.2⟩, va_recv X.2.1 w.1 (ci := 7) (q0 := 0) rfl rfl, fun U hU hW => ⟨rfl, by rw [hU], by rw [hU]; exact w.1, va_K.moved hW.alike X.2.1, cN.warm hW X.2.2.1, (LH_c w).weaken (fun _ _ _ _ => trivial)⟩⟩
theorem l_preS (X : LX p s m args c D y yS adK adV) (w : LH s D y yS qc h qm H locs u v) (As : List Value) : PreV s H RX7 (qc 0) (va_Pc (.ref (qc 0) :: As) (cPreS D y yS qc adK adV H.size u.1 u.2)) As :=
  ⟨fun a U g mk z => ⟨z.1, ((l_preC X w As).1 a U g mk ⟨z.1, z.2.1⟩).2, kS.moved (u := U) (U := U.calling g mk a) (Vm.Alike.refl U.vm) z.2.2.1, kR.same rfl z.2.2.2⟩, (l_preC X w As).2.1, fun U hU hW => ⟨rfl, ((l_preC X w As).2.2 U hU hW).2, by rw [hU]; exact ((X.2.2.2.1.moved hW.alike).kept w.2.2.2.2.1).narrow (fun x hx => l_cS w hx), X.2.2.2.2.warm hW⟩⟩
theorem l_preM (X : LX p s m args c D y yS adK adV) (w : LH s D y yS qc h qm H locs u v) (As : List Value) : PreV s H RX8 h (va_Pc (.ref h :: As) (mPre D y h qm H.size v.1 v.2)) As :=
  ⟨fun a U g mk z => ⟨z.1, z.2.1, z.2.2.1, va_K.moved (u := U) (U := U.calling g mk a) (Vm.Alike.refl U.vm) z.2.2.2.1, z.2.2.2.2⟩, va_recv X.2.1 w.2.1 (ci := 8) (q0 := 0) rfl rfl, fun U hU hW => ⟨rfl, by rw [hU], by rw [hU]; exact w.2.1, va_K.moved hW.alike (X.2.1.sub [0] rfl), (LH_m w).weaken (fun _ _ _ _ => trivial)⟩⟩
theorem l_callCi (X : LX p s m args c D y yS adK adV) (w : LH s D y yS qc h qm H locs u v) {yy : MethodName} {wsy ws' : List Cond} {bytes : ByteArray} {maxL index n : Nat} {ret : Option FieldType} {rm : Room} {As st0 : List Value} {z : Int32 × mSt}
    (hM : Met l yy wsy rm (va_Pc (.ref (qc 0) :: As) (cPre D y yS qc H.size u.1 u.2)) (cQi D y yS qc (cS y yS qc H.size) z) 0 0 (cS y yS qc H.size))
    (hG : GoodIn lw_tbl (wsV RL index RX7 yy wsy)) (hw : wsy = Cond.code yy bytes maxL ret :: ws') (hc : rm.cells = 0) (hs : rm.slots = 0) (hd : yy.cls = RX7 ∧ yy.cls ≠ "java/lang/invoke/MethodHandle" ∧ yy.cls ≠ "java/lang/invoke/VarHandle" ∧ (parseMethodDescriptor yy.desc).map (fun d => d.parameters.length) = some n)
    (hR : rm.frames + 1 ≤ R0.frames ∧ 8 + (maxL + 11) + rm.locals ≤ R0.locals) (hf : cells ≤ R0.cells ∧ slots ≤ R0.slots) (hn : As.length = n) (hls : ls.size = 4) (hst : st0 = As.reverse ++ .ref (qc 0) :: rest) (hro : (rest.map fun v => v.category).sum ≤ 8) (hdg : decode code pc = .ok (.invokevirtual index, 3))
    (kk : ∀ (H1 : Heap) (locs1 : List Loc), LH s D y yS qc h qm H1 locs1 z.2 v → W p l e R0 s m args below meth c H1 locs1 cells slots Q (F0 m (pc + 3) ls (.int z.1 :: rest))) : W p l e R0 s m args below meth c H locs cells slots Q (F0 m pc ls st0) := by
  refine va_calli (va_runV (As := As) (rest := rest) X.1 hM (cwV n X.1.2.2.2.2 hG hw hc hs hd hR) (l_preC X w As) rfl hn hls hst (lv_room hro) hdg hf) w.2.2.2 (fun x _ hx => l_cS w hx) (fun x hx => l_cS w hx) (fun r u1 t H1 locs1 ht hvm hw2 hB hz hk hS => ?_)
  cases hw2
  exact kk H1 locs1 (l_backC w ht hB hk hS)
theorem l_callCl (X : LX p s m args c D y yS adK adV) (w : LH s D y yS qc h qm H locs u v) {yy : MethodName} {wsy ws' : List Cond} {bytes : ByteArray} {maxL index n : Nat} {ret : Option FieldType} {rm : Room} {As st0 : List Value} {z : Int64 × mSt}
    (hM : Met l yy wsy rm (va_Pc (.ref (qc 0) :: As) (cPre D y yS qc H.size u.1 u.2)) (cQl D y yS qc (cS y yS qc H.size) z) 0 0 (cS y yS qc H.size))
    (hG : GoodIn lw_tbl (wsV RL index RX7 yy wsy)) (hw : wsy = Cond.code yy bytes maxL ret :: ws') (hc : rm.cells = 0) (hs : rm.slots = 0) (hd : yy.cls = RX7 ∧ yy.cls ≠ "java/lang/invoke/MethodHandle" ∧ yy.cls ≠ "java/lang/invoke/VarHandle" ∧ (parseMethodDescriptor yy.desc).map (fun d => d.parameters.length) = some n)
    (hR : rm.frames + 1 ≤ R0.frames ∧ 8 + (maxL + 11) + rm.locals ≤ R0.locals) (hf : cells ≤ R0.cells ∧ slots ≤ R0.slots) (hn : As.length = n) (hls : ls.size = 4) (hst : st0 = As.reverse ++ .ref (qc 0) :: rest) (hro : (rest.map fun v => v.category).sum ≤ 8) (hdg : decode code pc = .ok (.invokevirtual index, 3))
    (kk : ∀ (H1 : Heap) (locs1 : List Loc), LH s D y yS qc h qm H1 locs1 z.2 v → W p l e R0 s m args below meth c H1 locs1 cells slots Q (F0 m (pc + 3) ls (.long z.1 :: rest))) : W p l e R0 s m args below meth c H locs cells slots Q (F0 m pc ls st0) := by
  refine va_calll (va_runV (As := As) (rest := rest) X.1 hM (cwV n X.1.2.2.2.2 hG hw hc hs hd hR) (l_preC X w As) rfl hn hls hst (lv_room hro) hdg hf) w.2.2.2 (fun x _ hx => l_cS w hx) (fun x hx => l_cS w hx) (fun r u1 t H1 locs1 ht hvm hw2 hB hz hk hS => ?_)
  cases hw2
  exact kk H1 locs1 (l_backC w ht hB hk hS)
theorem l_callSi (X : LX p s m args c D y yS adK adV) (w : LH s D y yS qc h qm H locs u v) {yy : MethodName} {wsy ws' : List Cond} {bytes : ByteArray} {maxL index n : Nat} {ret : Option FieldType} {rm : Room} {As st0 : List Value} {z : Int32 × mSt}
    (hM : Met l yy wsy rm (va_Pc (.ref (qc 0) :: As) (cPreS D y yS qc adK adV H.size u.1 u.2)) (cQi D y yS qc (cS y yS qc H.size) z) 0 0 (cS y yS qc H.size))
    (hG : GoodIn lw_tbl (wsV RL index RX7 yy wsy)) (hw : wsy = Cond.code yy bytes maxL ret :: ws') (hc : rm.cells = 0) (hs : rm.slots = 0) (hd : yy.cls = RX7 ∧ yy.cls ≠ "java/lang/invoke/MethodHandle" ∧ yy.cls ≠ "java/lang/invoke/VarHandle" ∧ (parseMethodDescriptor yy.desc).map (fun d => d.parameters.length) = some n)
    (hR : rm.frames + 1 ≤ R0.frames ∧ 8 + (maxL + 11) + rm.locals ≤ R0.locals) (hf : cells ≤ R0.cells ∧ slots ≤ R0.slots) (hn : As.length = n) (hls : ls.size = 4) (hst : st0 = As.reverse ++ .ref (qc 0) :: rest) (hro : (rest.map fun v => v.category).sum ≤ 8) (hdg : decode code pc = .ok (.invokevirtual index, 3))
    (kk : ∀ (H1 : Heap) (locs1 : List Loc), LH s D y yS qc h qm H1 locs1 z.2 v → W p l e R0 s m args below meth c H1 locs1 cells slots Q (F0 m (pc + 3) ls (.int z.1 :: rest))) : W p l e R0 s m args below meth c H locs cells slots Q (F0 m pc ls st0) := by
  refine va_calli (va_runV (As := As) (rest := rest) X.1 hM (cwV n X.1.2.2.2.2 hG hw hc hs hd hR) (l_preS X w As) rfl hn hls hst (lv_room hro) hdg hf) w.2.2.2 (fun x _ hx => l_cS w hx) (fun x hx => l_cS w hx) (fun r u1 t H1 locs1 ht hvm hw2 hB hz hk hS => ?_)
  cases hw2
  exact kk H1 locs1 (l_backC w ht hB hk hS)
theorem l_callMi (X : LX p s m args c D y yS adK adV) (w : LH s D y yS qc h qm H locs u v) {yy : MethodName} {wsy ws' : List Cond} {bytes : ByteArray} {maxL index n : Nat} {ret : Option FieldType} {rm : Room} {As st0 : List Value} {z : Int32 × mSt}
    (hM : Met l yy wsy rm (va_Pc (.ref h :: As) (mPre D y h qm H.size v.1 v.2)) (mQi D y h qm (mS y h qm H.size) z) 0 0 (mS y h qm H.size))
    (hG : GoodIn lw_tbl (wsV RL index RX8 yy wsy)) (hw : wsy = Cond.code yy bytes maxL ret :: ws') (hc : rm.cells = 0) (hs : rm.slots = 0) (hd : yy.cls = RX8 ∧ yy.cls ≠ "java/lang/invoke/MethodHandle" ∧ yy.cls ≠ "java/lang/invoke/VarHandle" ∧ (parseMethodDescriptor yy.desc).map (fun d => d.parameters.length) = some n)
    (hR : rm.frames + 1 ≤ R0.frames ∧ 8 + (maxL + 11) + rm.locals ≤ R0.locals) (hf : cells ≤ R0.cells ∧ slots ≤ R0.slots) (hn : As.length = n) (hls : ls.size = 4) (hst : st0 = As.reverse ++ .ref h :: rest) (hro : (rest.map fun v => v.category).sum ≤ 8) (hdg : decode code pc = .ok (.invokevirtual index, 3))
    (kk : ∀ (H1 : Heap) (locs1 : List Loc), LH s D y yS qc h qm H1 locs1 u z.2 → W p l e R0 s m args below meth c H1 locs1 cells slots Q (F0 m (pc + 3) ls (.int z.1 :: rest))) : W p l e R0 s m args below meth c H locs cells slots Q (F0 m pc ls st0) := by
  refine va_calli (va_runV (As := As) (rest := rest) X.1 hM (cwV n X.1.2.2.2.2 hG hw hc hs hd hR) (l_preM X w As) rfl hn hls hst (lv_room hro) hdg hf) w.2.2.2 (fun x _ hx => l_mS w hx) (fun x hx => l_mS w hx) (fun r u1 t H1 locs1 ht hvm hw2 hB hz hk hS => ?_)
  cases hw2
  exact kk H1 locs1 (l_backM w ht hB hk hS)
theorem l_callMl (X : LX p s m args c D y yS adK adV) (w : LH s D y yS qc h qm H locs u v) {yy : MethodName} {wsy ws' : List Cond} {bytes : ByteArray} {maxL index n : Nat} {ret : Option FieldType} {rm : Room} {As st0 : List Value} {z : Int64 × mSt}
    (hM : Met l yy wsy rm (va_Pc (.ref h :: As) (mPre D y h qm H.size v.1 v.2)) (mQl D y h qm (mS y h qm H.size) z) 0 0 (mS y h qm H.size))
    (hG : GoodIn lw_tbl (wsV RL index RX8 yy wsy)) (hw : wsy = Cond.code yy bytes maxL ret :: ws') (hc : rm.cells = 0) (hs : rm.slots = 0) (hd : yy.cls = RX8 ∧ yy.cls ≠ "java/lang/invoke/MethodHandle" ∧ yy.cls ≠ "java/lang/invoke/VarHandle" ∧ (parseMethodDescriptor yy.desc).map (fun d => d.parameters.length) = some n)
    (hR : rm.frames + 1 ≤ R0.frames ∧ 8 + (maxL + 11) + rm.locals ≤ R0.locals) (hf : cells ≤ R0.cells ∧ slots ≤ R0.slots) (hn : As.length = n) (hls : ls.size = 4) (hst : st0 = As.reverse ++ .ref h :: rest) (hro : (rest.map fun v => v.category).sum ≤ 8) (hdg : decode code pc = .ok (.invokevirtual index, 3))
    (kk : ∀ (H1 : Heap) (locs1 : List Loc), LH s D y yS qc h qm H1 locs1 u z.2 → W p l e R0 s m args below meth c H1 locs1 cells slots Q (F0 m (pc + 3) ls (.long z.1 :: rest))) : W p l e R0 s m args below meth c H locs cells slots Q (F0 m pc ls st0) := by
  refine va_calll (va_runV (As := As) (rest := rest) X.1 hM (cwV n X.1.2.2.2.2 hG hw hc hs hd hR) (l_preM X w As) rfl hn hls hst (lv_room hro) hdg hf) w.2.2.2 (fun x _ hx => l_mS w hx) (fun x hx => l_mS w hx) (fun r u1 t H1 locs1 ht hvm hw2 hB hz hk hS => ?_)
  cases hw2
  exact kk H1 locs1 (l_backM w ht hB hk hS)
end LL
theorem l_in {i L : Nat} (k : Nat) (hk : k < 6) (hi : i + 6 ≤ L) (hL : L ≤ 3072) : vp_in (nI i + nI k) L := by
  rw [nI_add]
  exact vp_in_nI (by omega) (by omega)
theorem l_cond {i L : Nat} (hi : i ≤ 4000) (hL : L ≤ 3072) : (Int32.ofNat L - 6 < nI i) ↔ L < i + 6 := by
  have e1 : (nI L - nI 6).toInt = (L : Int) - 6 := pk_sub_toInt (by omega) (by omega)
  have e2 : (nI i).toInt = (i : Int) := nI_toInt (by omega)
  rw [show (Int32.ofNat L - 6 < nI i) = (nI L - nI 6 < nI i) from rfl, Int32.lt_iff_toInt_lt, e1, e2]
  omega

