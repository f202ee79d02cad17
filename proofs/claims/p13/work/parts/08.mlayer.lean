/-! the reference's world: ints I and rows R by the number of their field, addresses q -/
def mF (q : Nat → Nat) (I : Nat → Int32) : List Value := [.int (I 0), .int (I 1), .ref (q 2), .ref (q 3), .ref (q 4), .int (I 5), .int (I 6), .ref (q 7), .ref (q 8), .ref (q 9), .ref (q 10), .ref (q 11), .ref (q 12), .ref (q 13), .int (I 14), .int (I 15), .int (I 16), .int (I 17), .ref (q 18), .ref (q 19), .ref (q 20), .ref (q 21), .ref (q 22), .ref (q 23), .ref (q 24), .int (I 25), .ref (q 26), .ref (q 27), .ref (q 28), .ref (q 29), .ref (q 30), .int (I 31), .ref (q 32), .ref (q 33)]
def mW (y : ClassId) (h : Nat) (q : Nat → Nat) (I : Nat → Int32) (R : Nat → Nat → Int32) : va_W := [(h, .inr (8, mF q I)), (q 2, .inl (y, 4, .inl (R 2))), (q 3, .inl (y, 4, .inl (R 3))), (q 4, .inl (y, 240, .inl (R 4))), (q 7, .inl (y, 5, .inl (R 7))), (q 8, .inl (y, 5, .inl (R 8))), (q 9, .inl (y, 5, .inl (R 9))), (q 10, .inl (y, 5, .inl (R 10))), (q 11, .inl (y, 5, .inl (R 11))), (q 12, .inl (y, 5, .inl (R 12))), (q 13, .inl (y, 64, .inl (R 13))), (q 18, .inl (y, 30, .inl (R 18))), (q 19, .inl (y, 5, .inl (R 19))), (q 20, .inl (y, 30, .inl (R 20))), (q 21, .inl (y, 4, .inl (R 21))), (q 22, .inl (y, 64, .inl (R 22))), (q 23, .inl (y, 64, .inl (R 23))), (q 24, .inl (y, 64, .inl (R 24))), (q 26, .inl (y, 64, .inl (R 26))), (q 27, .inl (y, 64, .inl (R 27))), (q 28, .inl (y, 64, .inl (R 28))), (q 29, .inl (y, 64, .inl (R 29))), (q 30, .inl (y, 5, .inl (R 30))), (q 32, .inl (y, 8, .inl (R 32))), (q 33, .inl (y, 8, .inl (R 33)))]
def setA (R : Nat → Nat → Int32) (k : Nat) (i : Int32) (x : Int32) : Nat → Nat → Int32 := fun j => if j = k then upd (R k) i.toNatClampNeg x else R j
def getA (R : Nat → Nat → Int32) (k : Nat) (i : Int32) : Int32 := R k i.toNatClampNeg
def inb (i : Int32) (n : Nat) : Bool := decide (¬ (i < 0 ∨ n ≤ i.toNatClampNeg))
theorem inb_in {i : Int32} {n : Nat} (h : inb i n = true) : vp_in i n := by
  unfold vp_in
  exact of_decide_eq_true h
def isB (i : Int32) : Bool := decide (i = 0 ∨ i = 1)
theorem isB_n {i : Int32} (h : isB i = true) : narrow .boolean (.int i) = .int i := by
  have h1 : i = 0 ∨ i = 1 := of_decide_eq_true h
  rcases h1 with rfl | rfl <;> rfl
theorem gd {α : Type} {b : Bool} {x : Option α} {v : α} {P : Prop} (e0 : (if b = true then x else none) = some v) (k : b = true → x = some v → P) : P := by
  cases b
  · rw [if_neg Bool.false_ne_true] at e0
    cases e0
  · rw [if_pos rfl] at e0
    exact k rfl e0
theorem bd {α β : Type} {x : Option α} {f : α → Option β} {v : β} {P : Prop} (e0 : x.bind f = some v) (k : ∀ a, x = some a → f a = some v → P) : P := by
  cases x with
  | none => cases e0
  | some a => exact k a rfl e0
theorem itp {α : Type} {c : Prop} {x y : α} {v : α} (d : Decidable c) (h : c) (e0 : (if c then x else y) = v) : x = v := by
  rw [if_pos h] at e0; exact e0
theorem itn {α : Type} {c : Prop} {x y : α} {v : α} (d : Decidable c) (h : ¬ c) (e0 : (if c then x else y) = v) : y = v := by
  rw [if_neg h] at e0; exact e0
theorem nz {y : Int64} (h : (!(decide (y = 0))) = true) : ¬ y = 0 := by
  intro h2
  rw [h2] at h
  exact absurd h (by decide)
def mS (y : ClassId) (h : Nat) (q : Nat → Nat) (sz : Nat) : Nat → Prop := va_A (mW y h q (fun _ => 0) (fun _ _ => 0)) sz
theorem mS_D {y : ClassId} {h : Nat} {q : Nat → Nat} {sz : Nat} {A : Nat → Prop} {I : Nat → Int32} {R : Nat → Nat → Int32} (hD : va_D A (mW y h q I R)) : va_D (mS y h q sz) (mW y h q I R) := by
  refine ⟨hD.1, fun k x hk => Or.inl ?_⟩
  have e1 : (mW y h q I R).map Prod.fst = (mW y h q (fun _ => 0) (fun _ _ => 0)).map Prod.fst := rfl
  have e2 : ((mW y h q I R).map Prod.fst)[k]? = some x.1 := by rw [List.getElem?_map, hk]; rfl
  rw [e1, List.getElem?_map] at e2
  obtain ⟨z, hz, hz2⟩ := Option.map_eq_some_iff.mp e2
  exact ⟨k, z.2, by rw [hz, ← hz2]⟩
theorem mS_le {y : ClassId} {h : Nat} {q : Nat → Nat} {a b x : Nat} (hab : a ≤ b) (hx : mS y h q b x) : mS y h q a x := by
  rcases hx with h1 | h1
  · exact Or.inl h1
  · exact Or.inr (Nat.le_trans hab h1)
def mX (p : Program) (s : State) (m : MethodId) (args : Array Value) (c : Code) (cc : ByteArray) (nL : Nat) (Ts : List Cond) (D : va_G) (y : ClassId) : Prop := CallFix p m c cc nL s args Ts RX8 ∧ (∀ w ∈ wsX80, w ∈ Ts) ∧ va_K D vwCl [(y, .int)] s
def mH (s : State) (D : va_G) (y : ClassId) (h : Nat) (q : Nat → Nat) (H : Heap) (locs : List Loc) (I : Nat → Int32) (R : Nat → Nat → Int32) : Prop := va_P D vwCl (mW y h q I R) H ∧ va_D (mS y h q s.heap.size) (mW y h q I R) ∧ va_S (mS y h q s.heap.size) s.heap H locs
def mPre (D : va_G) (y : ClassId) (h : Nat) (q : Nat → Nat) (sz : Nat) (I : Nat → Int32) (R : Nat → Nat → Int32) : State → Prop := fun U => U.heap.size = sz ∧ va_P D vwCl (mW y h q I R) U.heap ∧ va_K D vwCl [(y, .int)] U ∧ va_D (fun _ => True) (mW y h q I R)
abbrev mSt : Type := (Nat → Int32) × (Nat → Nat → Int32)
def mB (D : va_G) (y : ClassId) (h : Nat) (q : Nat → Nat) (A : Nat → Prop) (u : mSt) (t : State) : Prop := va_P D vwCl (mW y h q u.1 u.2) t.heap ∧ va_K D vwCl [(y, .int)] t ∧ va_D A (mW y h q u.1 u.2)
def mQi (D : va_G) (y : ClassId) (h : Nat) (q : Nat → Nat) (A : Nat → Prop) (z : Int32 × mSt) : Array Value → State → Outcome → State → Prop := va_Qi (fun (x : Int32) (u : mSt) => (x, u) = z) (mB D y h q A) A
def mQl (D : va_G) (y : ClassId) (h : Nat) (q : Nat → Nat) (A : Nat → Prop) (z : Int64 × mSt) : Array Value → State → Outcome → State → Prop := va_Ql (fun (x : Int64) (u : mSt) => (x, u) = z) (mB D y h q A) A
def mQv (D : va_G) (y : ClassId) (h : Nat) (q : Nat → Nat) (A : Nat → Prop) (z : mSt) : Array Value → State → Outcome → State → Prop := va_Qv (fun (u : mSt) => u = z) (mB D y h q A) A
def sQi (r : Int32) : Array Value → State → Outcome → State → Prop := va_Qi (fun (x : Int32) (_ : Unit) => x = r) (fun _ _ => True) (fun _ => False)
def sQl (r : Int64) : Array Value → State → Outcome → State → Prop := va_Ql (fun (x : Int64) (_ : Unit) => x = r) (fun _ _ => True) (fun _ => False)
theorem mat2 (y : ClassId) (h : Nat) (q : Nat → Nat) (I : Nat → Int32) (R : Nat → Nat → Int32) : (mW y h q I R)[1]? = some (q 2, .inl (y, 4, .inl (R 2))) := rfl
theorem mset2 (y : ClassId) (h : Nat) (q : Nat → Nat) (I : Nat → Int32) (R : Nat → Nat → Int32) (f : Nat → Int32) : (mW y h q I R).set 1 (q 2, .inl (y, 4, .inl f)) = mW y h q I (fun j => if j = 2 then f else R j) := rfl
theorem mfr2 (q : Nat → Nat) (I : Nat → Int32) : (mF q I)[2]? = some (.ref (q 2)) := rfl
theorem mat3 (y : ClassId) (h : Nat) (q : Nat → Nat) (I : Nat → Int32) (R : Nat → Nat → Int32) : (mW y h q I R)[2]? = some (q 3, .inl (y, 4, .inl (R 3))) := rfl
theorem mset3 (y : ClassId) (h : Nat) (q : Nat → Nat) (I : Nat → Int32) (R : Nat → Nat → Int32) (f : Nat → Int32) : (mW y h q I R).set 2 (q 3, .inl (y, 4, .inl f)) = mW y h q I (fun j => if j = 3 then f else R j) := rfl
theorem mfr3 (q : Nat → Nat) (I : Nat → Int32) : (mF q I)[3]? = some (.ref (q 3)) := rfl
theorem mat4 (y : ClassId) (h : Nat) (q : Nat → Nat) (I : Nat → Int32) (R : Nat → Nat → Int32) : (mW y h q I R)[3]? = some (q 4, .inl (y, 240, .inl (R 4))) := rfl
theorem mset4 (y : ClassId) (h : Nat) (q : Nat → Nat) (I : Nat → Int32) (R : Nat → Nat → Int32) (f : Nat → Int32) : (mW y h q I R).set 3 (q 4, .inl (y, 240, .inl f)) = mW y h q I (fun j => if j = 4 then f else R j) := rfl
theorem mfr4 (q : Nat → Nat) (I : Nat → Int32) : (mF q I)[4]? = some (.ref (q 4)) := rfl
theorem mat7 (y : ClassId) (h : Nat) (q : Nat → Nat) (I : Nat → Int32) (R : Nat → Nat → Int32) : (mW y h q I R)[4]? = some (q 7, .inl (y, 5, .inl (R 7))) := rfl
theorem mset7 (y : ClassId) (h : Nat) (q : Nat → Nat) (I : Nat → Int32) (R : Nat → Nat → Int32) (f : Nat → Int32) : (mW y h q I R).set 4 (q 7, .inl (y, 5, .inl f)) = mW y h q I (fun j => if j = 7 then f else R j) := rfl
theorem mfr7 (q : Nat → Nat) (I : Nat → Int32) : (mF q I)[7]? = some (.ref (q 7)) := rfl
theorem mat8 (y : ClassId) (h : Nat) (q : Nat → Nat) (I : Nat → Int32) (R : Nat → Nat → Int32) : (mW y h q I R)[5]? = some (q 8, .inl (y, 5, .inl (R 8))) := rfl
theorem mset8 (y : ClassId) (h : Nat) (q : Nat → Nat) (I : Nat → Int32) (R : Nat → Nat → Int32) (f : Nat → Int32) : (mW y h q I R).set 5 (q 8, .inl (y, 5, .inl f)) = mW y h q I (fun j => if j = 8 then f else R j) := rfl
theorem mfr8 (q : Nat → Nat) (I : Nat → Int32) : (mF q I)[8]? = some (.ref (q 8)) := rfl
theorem mat9 (y : ClassId) (h : Nat) (q : Nat → Nat) (I : Nat → Int32) (R : Nat → Nat → Int32) : (mW y h q I R)[6]? = some (q 9, .inl (y, 5, .inl (R 9))) := rfl
theorem mset9 (y : ClassId) (h : Nat) (q : Nat → Nat) (I : Nat → Int32) (R : Nat → Nat → Int32) (f : Nat → Int32) : (mW y h q I R).set 6 (q 9, .inl (y, 5, .inl f)) = mW y h q I (fun j => if j = 9 then f else R j) := rfl
theorem mfr9 (q : Nat → Nat) (I : Nat → Int32) : (mF q I)[9]? = some (.ref (q 9)) := rfl
theorem mat10 (y : ClassId) (h : Nat) (q : Nat → Nat) (I : Nat → Int32) (R : Nat → Nat → Int32) : (mW y h q I R)[7]? = some (q 10, .inl (y, 5, .inl (R 10))) := rfl
theorem mset10 (y : ClassId) (h : Nat) (q : Nat → Nat) (I : Nat → Int32) (R : Nat → Nat → Int32) (f : Nat → Int32) : (mW y h q I R).set 7 (q 10, .inl (y, 5, .inl f)) = mW y h q I (fun j => if j = 10 then f else R j) := rfl
theorem mfr10 (q : Nat → Nat) (I : Nat → Int32) : (mF q I)[10]? = some (.ref (q 10)) := rfl
theorem mat11 (y : ClassId) (h : Nat) (q : Nat → Nat) (I : Nat → Int32) (R : Nat → Nat → Int32) : (mW y h q I R)[8]? = some (q 11, .inl (y, 5, .inl (R 11))) := rfl
theorem mset11 (y : ClassId) (h : Nat) (q : Nat → Nat) (I : Nat → Int32) (R : Nat → Nat → Int32) (f : Nat → Int32) : (mW y h q I R).set 8 (q 11, .inl (y, 5, .inl f)) = mW y h q I (fun j => if j = 11 then f else R j) := rfl
theorem mfr11 (q : Nat → Nat) (I : Nat → Int32) : (mF q I)[11]? = some (.ref (q 11)) := rfl
theorem mat12 (y : ClassId) (h : Nat) (q : Nat → Nat) (I : Nat → Int32) (R : Nat → Nat → Int32) : (mW y h q I R)[9]? = some (q 12, .inl (y, 5, .inl (R 12))) := rfl
theorem mset12 (y : ClassId) (h : Nat) (q : Nat → Nat) (I : Nat → Int32) (R : Nat → Nat → Int32) (f : Nat → Int32) : (mW y h q I R).set 9 (q 12, .inl (y, 5, .inl f)) = mW y h q I (fun j => if j = 12 then f else R j) := rfl
theorem mfr12 (q : Nat → Nat) (I : Nat → Int32) : (mF q I)[12]? = some (.ref (q 12)) := rfl
theorem mat13 (y : ClassId) (h : Nat) (q : Nat → Nat) (I : Nat → Int32) (R : Nat → Nat → Int32) : (mW y h q I R)[10]? = some (q 13, .inl (y, 64, .inl (R 13))) := rfl
theorem mset13 (y : ClassId) (h : Nat) (q : Nat → Nat) (I : Nat → Int32) (R : Nat → Nat → Int32) (f : Nat → Int32) : (mW y h q I R).set 10 (q 13, .inl (y, 64, .inl f)) = mW y h q I (fun j => if j = 13 then f else R j) := rfl
theorem mfr13 (q : Nat → Nat) (I : Nat → Int32) : (mF q I)[13]? = some (.ref (q 13)) := rfl
theorem mat18 (y : ClassId) (h : Nat) (q : Nat → Nat) (I : Nat → Int32) (R : Nat → Nat → Int32) : (mW y h q I R)[11]? = some (q 18, .inl (y, 30, .inl (R 18))) := rfl
theorem mset18 (y : ClassId) (h : Nat) (q : Nat → Nat) (I : Nat → Int32) (R : Nat → Nat → Int32) (f : Nat → Int32) : (mW y h q I R).set 11 (q 18, .inl (y, 30, .inl f)) = mW y h q I (fun j => if j = 18 then f else R j) := rfl
theorem mfr18 (q : Nat → Nat) (I : Nat → Int32) : (mF q I)[18]? = some (.ref (q 18)) := rfl
theorem mat19 (y : ClassId) (h : Nat) (q : Nat → Nat) (I : Nat → Int32) (R : Nat → Nat → Int32) : (mW y h q I R)[12]? = some (q 19, .inl (y, 5, .inl (R 19))) := rfl
theorem mset19 (y : ClassId) (h : Nat) (q : Nat → Nat) (I : Nat → Int32) (R : Nat → Nat → Int32) (f : Nat → Int32) : (mW y h q I R).set 12 (q 19, .inl (y, 5, .inl f)) = mW y h q I (fun j => if j = 19 then f else R j) := rfl
theorem mfr19 (q : Nat → Nat) (I : Nat → Int32) : (mF q I)[19]? = some (.ref (q 19)) := rfl
theorem mat20 (y : ClassId) (h : Nat) (q : Nat → Nat) (I : Nat → Int32) (R : Nat → Nat → Int32) : (mW y h q I R)[13]? = some (q 20, .inl (y, 30, .inl (R 20))) := rfl
theorem mset20 (y : ClassId) (h : Nat) (q : Nat → Nat) (I : Nat → Int32) (R : Nat → Nat → Int32) (f : Nat → Int32) : (mW y h q I R).set 13 (q 20, .inl (y, 30, .inl f)) = mW y h q I (fun j => if j = 20 then f else R j) := rfl
theorem mfr20 (q : Nat → Nat) (I : Nat → Int32) : (mF q I)[20]? = some (.ref (q 20)) := rfl
theorem mat21 (y : ClassId) (h : Nat) (q : Nat → Nat) (I : Nat → Int32) (R : Nat → Nat → Int32) : (mW y h q I R)[14]? = some (q 21, .inl (y, 4, .inl (R 21))) := rfl
theorem mset21 (y : ClassId) (h : Nat) (q : Nat → Nat) (I : Nat → Int32) (R : Nat → Nat → Int32) (f : Nat → Int32) : (mW y h q I R).set 14 (q 21, .inl (y, 4, .inl f)) = mW y h q I (fun j => if j = 21 then f else R j) := rfl
theorem mfr21 (q : Nat → Nat) (I : Nat → Int32) : (mF q I)[21]? = some (.ref (q 21)) := rfl
theorem mat22 (y : ClassId) (h : Nat) (q : Nat → Nat) (I : Nat → Int32) (R : Nat → Nat → Int32) : (mW y h q I R)[15]? = some (q 22, .inl (y, 64, .inl (R 22))) := rfl
theorem mset22 (y : ClassId) (h : Nat) (q : Nat → Nat) (I : Nat → Int32) (R : Nat → Nat → Int32) (f : Nat → Int32) : (mW y h q I R).set 15 (q 22, .inl (y, 64, .inl f)) = mW y h q I (fun j => if j = 22 then f else R j) := rfl
theorem mfr22 (q : Nat → Nat) (I : Nat → Int32) : (mF q I)[22]? = some (.ref (q 22)) := rfl
theorem mat23 (y : ClassId) (h : Nat) (q : Nat → Nat) (I : Nat → Int32) (R : Nat → Nat → Int32) : (mW y h q I R)[16]? = some (q 23, .inl (y, 64, .inl (R 23))) := rfl
theorem mset23 (y : ClassId) (h : Nat) (q : Nat → Nat) (I : Nat → Int32) (R : Nat → Nat → Int32) (f : Nat → Int32) : (mW y h q I R).set 16 (q 23, .inl (y, 64, .inl f)) = mW y h q I (fun j => if j = 23 then f else R j) := rfl
theorem mfr23 (q : Nat → Nat) (I : Nat → Int32) : (mF q I)[23]? = some (.ref (q 23)) := rfl
theorem mat24 (y : ClassId) (h : Nat) (q : Nat → Nat) (I : Nat → Int32) (R : Nat → Nat → Int32) : (mW y h q I R)[17]? = some (q 24, .inl (y, 64, .inl (R 24))) := rfl
theorem mset24 (y : ClassId) (h : Nat) (q : Nat → Nat) (I : Nat → Int32) (R : Nat → Nat → Int32) (f : Nat → Int32) : (mW y h q I R).set 17 (q 24, .inl (y, 64, .inl f)) = mW y h q I (fun j => if j = 24 then f else R j) := rfl
theorem mfr24 (q : Nat → Nat) (I : Nat → Int32) : (mF q I)[24]? = some (.ref (q 24)) := rfl
theorem mat26 (y : ClassId) (h : Nat) (q : Nat → Nat) (I : Nat → Int32) (R : Nat → Nat → Int32) : (mW y h q I R)[18]? = some (q 26, .inl (y, 64, .inl (R 26))) := rfl
theorem mset26 (y : ClassId) (h : Nat) (q : Nat → Nat) (I : Nat → Int32) (R : Nat → Nat → Int32) (f : Nat → Int32) : (mW y h q I R).set 18 (q 26, .inl (y, 64, .inl f)) = mW y h q I (fun j => if j = 26 then f else R j) := rfl
theorem mfr26 (q : Nat → Nat) (I : Nat → Int32) : (mF q I)[26]? = some (.ref (q 26)) := rfl
theorem mat27 (y : ClassId) (h : Nat) (q : Nat → Nat) (I : Nat → Int32) (R : Nat → Nat → Int32) : (mW y h q I R)[19]? = some (q 27, .inl (y, 64, .inl (R 27))) := rfl
theorem mset27 (y : ClassId) (h : Nat) (q : Nat → Nat) (I : Nat → Int32) (R : Nat → Nat → Int32) (f : Nat → Int32) : (mW y h q I R).set 19 (q 27, .inl (y, 64, .inl f)) = mW y h q I (fun j => if j = 27 then f else R j) := rfl
theorem mfr27 (q : Nat → Nat) (I : Nat → Int32) : (mF q I)[27]? = some (.ref (q 27)) := rfl
theorem mat28 (y : ClassId) (h : Nat) (q : Nat → Nat) (I : Nat → Int32) (R : Nat → Nat → Int32) : (mW y h q I R)[20]? = some (q 28, .inl (y, 64, .inl (R 28))) := rfl
theorem mset28 (y : ClassId) (h : Nat) (q : Nat → Nat) (I : Nat → Int32) (R : Nat → Nat → Int32) (f : Nat → Int32) : (mW y h q I R).set 20 (q 28, .inl (y, 64, .inl f)) = mW y h q I (fun j => if j = 28 then f else R j) := rfl
theorem mfr28 (q : Nat → Nat) (I : Nat → Int32) : (mF q I)[28]? = some (.ref (q 28)) := rfl
theorem mat29 (y : ClassId) (h : Nat) (q : Nat → Nat) (I : Nat → Int32) (R : Nat → Nat → Int32) : (mW y h q I R)[21]? = some (q 29, .inl (y, 64, .inl (R 29))) := rfl
theorem mset29 (y : ClassId) (h : Nat) (q : Nat → Nat) (I : Nat → Int32) (R : Nat → Nat → Int32) (f : Nat → Int32) : (mW y h q I R).set 21 (q 29, .inl (y, 64, .inl f)) = mW y h q I (fun j => if j = 29 then f else R j) := rfl
theorem mfr29 (q : Nat → Nat) (I : Nat → Int32) : (mF q I)[29]? = some (.ref (q 29)) := rfl
theorem mat30 (y : ClassId) (h : Nat) (q : Nat → Nat) (I : Nat → Int32) (R : Nat → Nat → Int32) : (mW y h q I R)[22]? = some (q 30, .inl (y, 5, .inl (R 30))) := rfl
theorem mset30 (y : ClassId) (h : Nat) (q : Nat → Nat) (I : Nat → Int32) (R : Nat → Nat → Int32) (f : Nat → Int32) : (mW y h q I R).set 22 (q 30, .inl (y, 5, .inl f)) = mW y h q I (fun j => if j = 30 then f else R j) := rfl
theorem mfr30 (q : Nat → Nat) (I : Nat → Int32) : (mF q I)[30]? = some (.ref (q 30)) := rfl
theorem mat32 (y : ClassId) (h : Nat) (q : Nat → Nat) (I : Nat → Int32) (R : Nat → Nat → Int32) : (mW y h q I R)[23]? = some (q 32, .inl (y, 8, .inl (R 32))) := rfl
theorem mset32 (y : ClassId) (h : Nat) (q : Nat → Nat) (I : Nat → Int32) (R : Nat → Nat → Int32) (f : Nat → Int32) : (mW y h q I R).set 23 (q 32, .inl (y, 8, .inl f)) = mW y h q I (fun j => if j = 32 then f else R j) := rfl
theorem mfr32 (q : Nat → Nat) (I : Nat → Int32) : (mF q I)[32]? = some (.ref (q 32)) := rfl
theorem mat33 (y : ClassId) (h : Nat) (q : Nat → Nat) (I : Nat → Int32) (R : Nat → Nat → Int32) : (mW y h q I R)[24]? = some (q 33, .inl (y, 8, .inl (R 33))) := rfl
theorem mset33 (y : ClassId) (h : Nat) (q : Nat → Nat) (I : Nat → Int32) (R : Nat → Nat → Int32) (f : Nat → Int32) : (mW y h q I R).set 24 (q 33, .inl (y, 8, .inl f)) = mW y h q I (fun j => if j = 33 then f else R j) := rfl
theorem mfr33 (q : Nat → Nat) (I : Nat → Int32) : (mF q I)[33]? = some (.ref (q 33)) := rfl
theorem mfi0 (q : Nat → Nat) (I : Nat → Int32) : (mF q I)[0]? = some (.int (I 0)) := rfl
theorem mps0 (q : Nat → Nat) (I : Nat → Int32) (v : Int32) : (mF q I).set 0 (.int v) = mF q (upd I 0 v) := rfl
theorem mfi1 (q : Nat → Nat) (I : Nat → Int32) : (mF q I)[1]? = some (.int (I 1)) := rfl
theorem mps1 (q : Nat → Nat) (I : Nat → Int32) (v : Int32) : (mF q I).set 1 (.int v) = mF q (upd I 1 v) := rfl
theorem mfi5 (q : Nat → Nat) (I : Nat → Int32) : (mF q I)[5]? = some (.int (I 5)) := rfl
theorem mps5 (q : Nat → Nat) (I : Nat → Int32) (v : Int32) : (mF q I).set 5 (.int v) = mF q (upd I 5 v) := rfl
theorem mfi6 (q : Nat → Nat) (I : Nat → Int32) : (mF q I)[6]? = some (.int (I 6)) := rfl
theorem mps6 (q : Nat → Nat) (I : Nat → Int32) (v : Int32) : (mF q I).set 6 (.int v) = mF q (upd I 6 v) := rfl
theorem mfi14 (q : Nat → Nat) (I : Nat → Int32) : (mF q I)[14]? = some (.int (I 14)) := rfl
theorem mps14 (q : Nat → Nat) (I : Nat → Int32) (v : Int32) : (mF q I).set 14 (.int v) = mF q (upd I 14 v) := rfl
theorem mfi15 (q : Nat → Nat) (I : Nat → Int32) : (mF q I)[15]? = some (.int (I 15)) := rfl
theorem mps15 (q : Nat → Nat) (I : Nat → Int32) (v : Int32) : (mF q I).set 15 (.int v) = mF q (upd I 15 v) := rfl
theorem mfi16 (q : Nat → Nat) (I : Nat → Int32) : (mF q I)[16]? = some (.int (I 16)) := rfl
theorem mps16 (q : Nat → Nat) (I : Nat → Int32) (v : Int32) : (mF q I).set 16 (.int v) = mF q (upd I 16 v) := rfl
theorem mfi17 (q : Nat → Nat) (I : Nat → Int32) : (mF q I)[17]? = some (.int (I 17)) := rfl
theorem mps17 (q : Nat → Nat) (I : Nat → Int32) (v : Int32) : (mF q I).set 17 (.int v) = mF q (upd I 17 v) := rfl
theorem mfi25 (q : Nat → Nat) (I : Nat → Int32) : (mF q I)[25]? = some (.int (I 25)) := rfl
theorem mps25 (q : Nat → Nat) (I : Nat → Int32) (v : Int32) : (mF q I).set 25 (.int v) = mF q (upd I 25 v) := rfl
theorem mfi31 (q : Nat → Nat) (I : Nat → Int32) : (mF q I)[31]? = some (.int (I 31)) := rfl
theorem mps31 (q : Nat → Nat) (I : Nat → Int32) (v : Int32) : (mF q I).set 31 (.int v) = mF q (upd I 31 v) := rfl
section ML
variable {p : Program} {l : Launch} {e : Env} {R0 : Room} {s : State} {m : MethodId} {args : Array Value} {below : List Frame} {meth : Method} {c : Code} {H : Heap} {locs : List Loc} {cells slots : Nat} {Q : State → Prop}
variable {cc : ByteArray} {pc nL : Nat} {ls : Array Slot} {rest : List Value} {D : va_G} {y : ClassId} {h : Nat} {q : Nat → Nat} {I : Nat → Int32} {R : Nat → Nat → Int32} {Ts : List Cond}
theorem m_get (X : mX p s m args c cc nL Ts D y) (w : mH s D y h q H locs I R) (k : Nat) (hk : k < 34) {index : Nat} {v : Value} (hf : (TX8 k).1 = "RoundRulesModel") (hl : Cond.fieldLink RX8 index "RoundRulesModel" (TX8 k).2.1 (TX8 k).2.2.1 ∈ Ts) (hv : (mF q I)[k]? = some v) (hdg : decode cc pc = .ok (.getfield index, 3))
    (kk : W p l e R0 s m args below meth c H locs cells slots Q (F0 m (pc + 3) ls (v :: rest))) : W p l e R0 s m args below meth c H locs cells slots Q (F0 m pc ls (.ref h :: rest)) :=
  va_get (C := RX8) (T := TX8) (N := 34) (ci := 8) X.1.1 X.1.2.1 X.1.2.2.2.2 X.2.1 X.1.2.2.2.1 X.2.2 w.1 0 rfl rfl k hk (X.1.2.2.2.2 _ hl) (fun x hx => by rw [hf] at hx; exact hx) hv hdg kk
theorem m_put (X : mX p s m args c cc nL Ts D y) (w : mH s D y h q H locs I R) (k : Nat) (hk : k < 34) {index : Nat} {v : Int32} (hf : (TX8 k).1 = "RoundRulesModel") (hfin : (TX8 k).2.2.2 = false) (hd : parseFieldDescriptor (TX8 k).2.2.1 = some .int) (hl : Cond.fieldLink RX8 index "RoundRulesModel" (TX8 k).2.1 (TX8 k).2.2.1 ∈ Ts) (hset : (mF q I).set k (.int v) = mF q (upd I k v)) (hdg : decode cc pc = .ok (.putfield index, 3))
    (kk : ∀ (H1 : Heap) (locs1 : List Loc), mH s D y h q H1 locs1 (upd I k v) R → W p l e R0 s m args below meth c H1 locs1 cells slots Q (F0 m (pc + 3) ls rest)) : W p l e R0 s m args below meth c H locs cells slots Q (F0 m pc ls (.int v :: .ref h :: rest)) := by
  have e1 : (mW y h q I R).set 0 (h, .inr (8, (mF q I).set k (.int v))) = mW y h q (upd I k v) R := by rw [hset]; rfl
  exact va_put (C := RX8) (T := TX8) (N := 34) (ci := 8) X.1.1 X.1.2.1 X.1.2.2.2.2 X.2.1 tyX8 tyX8_ok nmX8 X.1.2.2.2.1 X.2.2 w.1 w.2.1 w.2.2 0 rfl rfl k hk (X.1.2.2.2.2 _ hl) (fun x hx => by rw [hf] at hx; exact hx) hfin hd rfl rfl (show k < (mF q I).length from hk) hdg (fun H1 locs1 hP hD hS => kk H1 locs1 ⟨by rw [e1] at hP; exact hP, by rw [e1] at hD; exact hD, hS⟩)
theorem m_ald (X : mX p s m args c cc nL Ts D y) (w : mH s D y h q H locs I R) (pos k : Nat) {n : Nat} (ha : (mW y h q I R)[pos]? = some (q k, .inl (y, n, .inl (R k)))) {i : Int32} (hin : inb i n = true) (hdg : decode cc pc = .ok (.iaload, 1))
    (kk : W p l e R0 s m args below meth c H locs cells slots Q (F0 m (pc + 1) ls (.int (getA R k i) :: rest))) : W p l e R0 s m args below meth c H locs cells slots Q (F0 m pc ls (.int i :: .ref (q k) :: rest)) :=
  va_iald X.1.1 X.1.2.1 X.2.2 w.1 pos 0 ha rfl (inb_in hin) hdg kk
theorem m_ast (X : mX p s m args c cc nL Ts D y) (w : mH s D y h q H locs I R) (pos k : Nat) {n : Nat} (ha : (mW y h q I R)[pos]? = some (q k, .inl (y, n, .inl (R k)))) (hset : ∀ f : Nat → Int32, (mW y h q I R).set pos (q k, .inl (y, n, .inl f)) = mW y h q I (fun j => if j = k then f else R j)) {i x : Int32} (hin : inb i n = true) (hdg : decode cc pc = .ok (.iastore, 1))
    (kk : ∀ (H1 : Heap) (locs1 : List Loc), mH s D y h q H1 locs1 I (setA R k i x) → W p l e R0 s m args below meth c H1 locs1 cells slots Q (F0 m (pc + 1) ls rest)) : W p l e R0 s m args below meth c H locs cells slots Q (F0 m pc ls (.int x :: .int i :: .ref (q k) :: rest)) :=
  va_iast X.1.1 X.1.2.1 X.2.2 w.1 w.2.1 w.2.2 pos 0 ha rfl (inb_in hin) hdg (fun H1 locs1 hP hD hS => kk H1 locs1 ⟨by rw [hset] at hP; exact hP, by rw [hset] at hD; exact hD, hS⟩)
theorem m_iret (X : mX p s m args c cc nL Ts D y) (w : mH s D y h q H locs I R) {v : Int32} (hr : meth.sig.returnType = some .int ∧ meth.locks = false) (hdg : decode cc pc = .ok (.ireturn, 1)) :
    W p l e R0 s m args below meth c H locs 0 0 (MQ below (mQi D y h q (mS y h q s.heap.size) (v, I, R)) args s 0 0 (mS y h q s.heap.size)) (F0 m pc ls [.int v]) :=
  W.iret X.1.1 X.1.2.1 hr.1 (fun t ht hW => ⟨⟨v, (I, R), rfl, rfl, by rw [ht]; exact w.1, va_K.moved hW.alike X.2.2, w.2.1⟩, w.2.2.F ht⟩) w.2.2.2.2 hdg hr.2
theorem m_zret (X : mX p s m args c cc nL Ts D y) (w : mH s D y h q H locs I R) {v : Int32} (hr : meth.sig.returnType = some .boolean ∧ meth.locks = false) (hn : isB v = true) (hdg : decode cc pc = .ok (.ireturn, 1)) :
    W p l e R0 s m args below meth c H locs 0 0 (MQ below (mQi D y h q (mS y h q s.heap.size) (v, I, R)) args s 0 0 (mS y h q s.heap.size)) (F0 m pc ls [.int v]) :=
  W.zret X.1.1 X.1.2.1 hr.1 (isB_n hn) (fun t ht hW => ⟨⟨v, (I, R), rfl, rfl, by rw [ht]; exact w.1, va_K.moved hW.alike X.2.2, w.2.1⟩, w.2.2.F ht⟩) w.2.2.2.2 hdg hr.2
theorem m_lret (X : mX p s m args c cc nL Ts D y) (w : mH s D y h q H locs I R) {v : Int64} (hr : meth.sig.returnType = some .long ∧ meth.locks = false) (hdg : decode cc pc = .ok (.lreturn, 1)) :
    W p l e R0 s m args below meth c H locs 0 0 (MQ below (mQl D y h q (mS y h q s.heap.size) (v, I, R)) args s 0 0 (mS y h q s.heap.size)) (F0 m pc ls [.long v]) :=
  W.lret X.1.1 X.1.2.1 hr.1 (fun t ht hW => ⟨⟨v, (I, R), rfl, rfl, by rw [ht]; exact w.1, va_K.moved hW.alike X.2.2, w.2.1⟩, w.2.2.F ht⟩) w.2.2.2.2 hdg hr.2
theorem m_vret (X : mX p s m args c cc nL Ts D y) (w : mH s D y h q H locs I R) (hr : meth.sig.returnType = none ∧ meth.locks = false) (hdg : decode cc pc = .ok (.return_, 1)) :
    W p l e R0 s m args below meth c H locs 0 0 (MQ below (mQv D y h q (mS y h q s.heap.size) (I, R)) args s 0 0 (mS y h q s.heap.size)) (F0 m pc ls []) :=
  W.vret X.1.1 X.1.2.1 hr.1 (fun t ht hW => ⟨⟨(I, R), rfl, rfl, by rw [ht]; exact w.1, va_K.moved hW.alike X.2.2, w.2.1⟩, w.2.2.F ht⟩) w.2.2.2.2 hdg hr.2
theorem m_pre (X : mX p s m args c cc nL Ts D y) (w : mH s D y h q H locs I R) (As : List Value) : PreV s H RX8 h (va_Pc (.ref h :: As) (mPre D y h q H.size I R)) As :=
  ⟨fun a U g mk z => ⟨z.1, z.2.1, z.2.2.1, va_K.moved (u := U) (U := U.calling g mk a) (Vm.Alike.refl U.vm) z.2.2.2.1, z.2.2.2.2⟩, va_recv X.2.2 w.1 (ci := 8) (q0 := 0) rfl rfl, fun U hU hW => ⟨rfl, by rw [hU], by rw [hU]; exact w.1, va_K.moved hW.alike X.2.2, w.2.1.weaken (fun _ _ _ _ => trivial)⟩⟩
theorem m_back (w : mH s D y h q H locs I R) {u : mSt} {t : State} {H1 : Heap} {locs1 : List Loc} (ht : t.heap = H1) (hB : mB D y h q (mS y h q H.size) u t) (hS : va_S (mS y h q s.heap.size) s.heap H1 locs1) : mH s D y h q H1 locs1 u.1 u.2 :=
  ⟨by rw [← ht]; exact hB.1, mS_D hB.2.2, hS⟩
theorem m_calli (X : mX p s m args c cc nL Ts D y) (w : mH s D y h q H locs I R) {yy : MethodName} {wsy ws' : List Cond} {bytes : ByteArray} {maxL index n : Nat} {ret : Option FieldType} {rm : Room} {As st0 : List Value} {z : Int32 × mSt}
    (hM : Met l yy wsy rm (va_Pc (.ref h :: As) (mPre D y h q H.size I R)) (mQi D y h q (mS y h q H.size) z) 0 0 (mS y h q H.size))
    (hG : GoodIn Ts (wsV RX8 index RX8 yy wsy)) (hw : wsy = Cond.code yy bytes maxL ret :: ws') (hc : rm.cells = 0) (hs : rm.slots = 0) (hd : yy.cls = RX8 ∧ yy.cls ≠ "java/lang/invoke/MethodHandle" ∧ yy.cls ≠ "java/lang/invoke/VarHandle" ∧ (parseMethodDescriptor yy.desc).map (fun d => d.parameters.length) = some n)
    (hR : rm.frames + 1 ≤ R0.frames ∧ 8 + (maxL + 11) + rm.locals ≤ R0.locals) (hn : As.length = n) (hls : ls.size = nL) (hst : st0 = As.reverse ++ .ref h :: rest) (hro : (rest.map fun v => v.category).sum ≤ 8) (hdg : decode cc pc = .ok (.invokevirtual index, 3))
    (kk : ∀ (H1 : Heap) (locs1 : List Loc), mH s D y h q H1 locs1 z.2.1 z.2.2 → W p l e R0 s m args below meth c H1 locs1 0 0 Q (F0 m (pc + 3) ls (.int z.1 :: rest))) : W p l e R0 s m args below meth c H locs 0 0 Q (F0 m pc ls st0) := by
  refine va_calli (va_runV (As := As) (rest := rest) X.1 hM (cwV n X.1.2.2.2.2 hG hw hc hs hd hR) (m_pre X w As) rfl hn hls hst (lv_room hro) hdg ⟨Nat.zero_le _, Nat.zero_le _⟩) w.2.2 (fun x _ hx => mS_le w.2.2.1 hx) (fun x hx => mS_le w.2.2.1 hx) (fun r u t H1 locs1 ht hvm hw2 hB hz hk hS => ?_)
  cases hw2
  exact kk H1 locs1 (m_back w ht hB hS)
theorem m_calll (X : mX p s m args c cc nL Ts D y) (w : mH s D y h q H locs I R) {yy : MethodName} {wsy ws' : List Cond} {bytes : ByteArray} {maxL index n : Nat} {ret : Option FieldType} {rm : Room} {As st0 : List Value} {z : Int64 × mSt}
    (hM : Met l yy wsy rm (va_Pc (.ref h :: As) (mPre D y h q H.size I R)) (mQl D y h q (mS y h q H.size) z) 0 0 (mS y h q H.size))
    (hG : GoodIn Ts (wsV RX8 index RX8 yy wsy)) (hw : wsy = Cond.code yy bytes maxL ret :: ws') (hc : rm.cells = 0) (hs : rm.slots = 0) (hd : yy.cls = RX8 ∧ yy.cls ≠ "java/lang/invoke/MethodHandle" ∧ yy.cls ≠ "java/lang/invoke/VarHandle" ∧ (parseMethodDescriptor yy.desc).map (fun d => d.parameters.length) = some n)
    (hR : rm.frames + 1 ≤ R0.frames ∧ 8 + (maxL + 11) + rm.locals ≤ R0.locals) (hn : As.length = n) (hls : ls.size = nL) (hst : st0 = As.reverse ++ .ref h :: rest) (hro : (rest.map fun v => v.category).sum ≤ 8) (hdg : decode cc pc = .ok (.invokevirtual index, 3))
    (kk : ∀ (H1 : Heap) (locs1 : List Loc), mH s D y h q H1 locs1 z.2.1 z.2.2 → W p l e R0 s m args below meth c H1 locs1 0 0 Q (F0 m (pc + 3) ls (.long z.1 :: rest))) : W p l e R0 s m args below meth c H locs 0 0 Q (F0 m pc ls st0) := by
  refine va_calll (va_runV (As := As) (rest := rest) X.1 hM (cwV n X.1.2.2.2.2 hG hw hc hs hd hR) (m_pre X w As) rfl hn hls hst (lv_room hro) hdg ⟨Nat.zero_le _, Nat.zero_le _⟩) w.2.2 (fun x _ hx => mS_le w.2.2.1 hx) (fun x hx => mS_le w.2.2.1 hx) (fun r u t H1 locs1 ht hvm hw2 hB hz hk hS => ?_)
  cases hw2
  exact kk H1 locs1 (m_back w ht hB hS)
theorem m_callv (X : mX p s m args c cc nL Ts D y) (w : mH s D y h q H locs I R) {yy : MethodName} {wsy ws' : List Cond} {bytes : ByteArray} {maxL index n : Nat} {ret : Option FieldType} {rm : Room} {As st0 : List Value} {z : mSt}
    (hM : Met l yy wsy rm (va_Pc (.ref h :: As) (mPre D y h q H.size I R)) (mQv D y h q (mS y h q H.size) z) 0 0 (mS y h q H.size))
    (hG : GoodIn Ts (wsV RX8 index RX8 yy wsy)) (hw : wsy = Cond.code yy bytes maxL ret :: ws') (hc : rm.cells = 0) (hs : rm.slots = 0) (hd : yy.cls = RX8 ∧ yy.cls ≠ "java/lang/invoke/MethodHandle" ∧ yy.cls ≠ "java/lang/invoke/VarHandle" ∧ (parseMethodDescriptor yy.desc).map (fun d => d.parameters.length) = some n)
    (hR : rm.frames + 1 ≤ R0.frames ∧ 8 + (maxL + 11) + rm.locals ≤ R0.locals) (hn : As.length = n) (hls : ls.size = nL) (hst : st0 = As.reverse ++ .ref h :: rest) (hro : (rest.map fun v => v.category).sum ≤ 8) (hdg : decode cc pc = .ok (.invokevirtual index, 3))
    (kk : ∀ (H1 : Heap) (locs1 : List Loc), mH s D y h q H1 locs1 z.1 z.2 → W p l e R0 s m args below meth c H1 locs1 0 0 Q (F0 m (pc + 3) ls rest)) : W p l e R0 s m args below meth c H locs 0 0 Q (F0 m pc ls st0) := by
  refine va_callv (va_runV (As := As) (rest := rest) X.1 hM (cwV n X.1.2.2.2.2 hG hw hc hs hd hR) (m_pre X w As) rfl hn hls hst (lv_room hro) hdg ⟨Nat.zero_le _, Nat.zero_le _⟩) w.2.2 (fun x _ hx => mS_le w.2.2.1 hx) (fun x hx => mS_le w.2.2.1 hx) (fun u t H1 locs1 ht hvm hw2 hB hz hk hS => ?_)
  cases hw2
  exact kk H1 locs1 (m_back w ht hB hS)
theorem m_keep (w : mH s D y h q H locs I R) {H1 : Heap} {locs1 : List Loc} (hk : ∀ x : Nat, x < H.size → ¬ False → H1[x]? = H[x]?) (hS : va_S (mS y h q s.heap.size) s.heap H1 locs1) : mH s D y h q H1 locs1 I R :=
  ⟨w.1.kept (fun k x hx => hk _ (w.1 k x hx).lt not_false), w.2.1, hS⟩
theorem m_callsi (X : mX p s m args c cc nL Ts D y) (w : mH s D y h q H locs I R) {yy : MethodName} {wsy ws' : List Cond} {bytes : ByteArray} {maxL index n : Nat} {ret : Option FieldType} {rm : Room} {As st0 : List Value} {z : Int32}
    (hM : Met l yy wsy rm (va_Pc As (fun _ => True)) (sQi z) 0 0 (fun _ => False))
    (hG : GoodIn Ts (va_wsS RX8 index yy wsy)) (hw : wsy = Cond.code yy bytes maxL ret :: ws') (hc : rm.cells = 0) (hs : rm.slots = 0) (hd : yy.cls ≠ "java/lang/invoke/MethodHandle" ∧ yy.cls ≠ "java/lang/invoke/VarHandle" ∧ (parseMethodDescriptor yy.desc).map (fun d => d.parameters.length) = some n)
    (hR : rm.frames + 1 ≤ R0.frames ∧ 8 + (maxL + 11) + rm.locals ≤ R0.locals) (hn : As.length = n) (hls : ls.size = nL) (hst : st0 = As.reverse ++ rest) (hro : (rest.map fun v => v.category).sum ≤ 8) (hdg : decode cc pc = .ok (.invokestatic index, 3))
    (kk : ∀ (H1 : Heap) (locs1 : List Loc), mH s D y h q H1 locs1 I R → W p l e R0 s m args below meth c H1 locs1 0 0 Q (F0 m (pc + 3) ls (.int z :: rest))) : W p l e R0 s m args below meth c H locs 0 0 Q (F0 m pc ls st0) := by
  refine va_calli (va_runS (As := As) (rest := rest) X.1 hM (va_cwS n X.1.2.2.2.2 hG hw hc hs hd hR) ⟨fun a U g mk z => ⟨z.1, trivial⟩, fun U hU hW => ⟨rfl, trivial⟩⟩ rfl hn hls hst (lv_room hro) hdg ⟨Nat.zero_le _, Nat.zero_le _⟩) w.2.2 (fun x _ hx => hx.elim) (fun x hx => hx.elim) (fun r u t H1 locs1 ht hvm hw2 hB hz hk hS => ?_)
  cases hw2
  exact kk H1 locs1 (m_keep w hk hS)
theorem m_callsl (X : mX p s m args c cc nL Ts D y) (w : mH s D y h q H locs I R) {yy : MethodName} {wsy ws' : List Cond} {bytes : ByteArray} {maxL index n : Nat} {ret : Option FieldType} {rm : Room} {As st0 : List Value} {z : Int64}
    (hM : Met l yy wsy rm (va_Pc As (fun _ => True)) (sQl z) 0 0 (fun _ => False))
    (hG : GoodIn Ts (va_wsS RX8 index yy wsy)) (hw : wsy = Cond.code yy bytes maxL ret :: ws') (hc : rm.cells = 0) (hs : rm.slots = 0) (hd : yy.cls ≠ "java/lang/invoke/MethodHandle" ∧ yy.cls ≠ "java/lang/invoke/VarHandle" ∧ (parseMethodDescriptor yy.desc).map (fun d => d.parameters.length) = some n)
    (hR : rm.frames + 1 ≤ R0.frames ∧ 8 + (maxL + 11) + rm.locals ≤ R0.locals) (hn : As.length = n) (hls : ls.size = nL) (hst : st0 = As.reverse ++ rest) (hro : (rest.map fun v => v.category).sum ≤ 8) (hdg : decode cc pc = .ok (.invokestatic index, 3))
    (kk : ∀ (H1 : Heap) (locs1 : List Loc), mH s D y h q H1 locs1 I R → W p l e R0 s m args below meth c H1 locs1 0 0 Q (F0 m (pc + 3) ls (.long z :: rest))) : W p l e R0 s m args below meth c H locs 0 0 Q (F0 m pc ls st0) := by
  refine va_calll (va_runS (As := As) (rest := rest) X.1 hM (va_cwS n X.1.2.2.2.2 hG hw hc hs hd hR) ⟨fun a U g mk z => ⟨z.1, trivial⟩, fun U hU hW => ⟨rfl, trivial⟩⟩ rfl hn hls hst (lv_room hro) hdg ⟨Nat.zero_le _, Nat.zero_le _⟩) w.2.2 (fun x _ hx => hx.elim) (fun x hx => hx.elim) (fun r u t H1 locs1 ht hvm hw2 hB hz hk hS => ?_)
  cases hw2
  exact kk H1 locs1 (m_keep w hk hS)
/-- a static method that touches no cell -/
def sX (p : Program) (s : State) (m : MethodId) (args : Array Value) (c : Code) (cc : ByteArray) (nL : Nat) (Ts : List Cond) : Prop := CallFix p m c cc nL s args Ts RX8
def sH (s : State) (H : Heap) (locs : List Loc) : Prop := va_S (fun _ => False) s.heap H locs
theorem s_iret (X : sX p s m args c cc nL Ts) (w : sH s H locs) {v : Int32} (hr : meth.sig.returnType = some .int ∧ meth.locks = false) (hdg : decode cc pc = .ok (.ireturn, 1)) :
    W p l e R0 s m args below meth c H locs 0 0 (MQ below (sQi v) args s 0 0 (fun _ => False)) (F0 m pc ls [.int v]) :=
  W.iret X.1 X.2.1 hr.1 (fun t ht hW => ⟨⟨v, (), rfl, rfl, trivial⟩, va_S.F w ht⟩) w.2.2 hdg hr.2
theorem s_zret (X : sX p s m args c cc nL Ts) (w : sH s H locs) {v : Int32} (hr : meth.sig.returnType = some .boolean ∧ meth.locks = false) (hn : isB v = true) (hdg : decode cc pc = .ok (.ireturn, 1)) :
    W p l e R0 s m args below meth c H locs 0 0 (MQ below (sQi v) args s 0 0 (fun _ => False)) (F0 m pc ls [.int v]) :=
  W.zret X.1 X.2.1 hr.1 (isB_n hn) (fun t ht hW => ⟨⟨v, (), rfl, rfl, trivial⟩, va_S.F w ht⟩) w.2.2 hdg hr.2
theorem s_lret (X : sX p s m args c cc nL Ts) (w : sH s H locs) {v : Int64} (hr : meth.sig.returnType = some .long ∧ meth.locks = false) (hdg : decode cc pc = .ok (.lreturn, 1)) :
    W p l e R0 s m args below meth c H locs 0 0 (MQ below (sQl v) args s 0 0 (fun _ => False)) (F0 m pc ls [.long v]) :=
  W.lret X.1 X.2.1 hr.1 (fun t ht hW => ⟨⟨v, (), rfl, rfl, trivial⟩, va_S.F w ht⟩) w.2.2 hdg hr.2
theorem s_callsi (X : sX p s m args c cc nL Ts) (w : sH s H locs) {yy : MethodName} {wsy ws' : List Cond} {bytes : ByteArray} {maxL index n : Nat} {ret : Option FieldType} {rm : Room} {As st0 : List Value} {z : Int32}
    (hM : Met l yy wsy rm (va_Pc As (fun _ => True)) (sQi z) 0 0 (fun _ => False))
    (hG : GoodIn Ts (va_wsS RX8 index yy wsy)) (hw : wsy = Cond.code yy bytes maxL ret :: ws') (hc : rm.cells = 0) (hs : rm.slots = 0) (hd : yy.cls ≠ "java/lang/invoke/MethodHandle" ∧ yy.cls ≠ "java/lang/invoke/VarHandle" ∧ (parseMethodDescriptor yy.desc).map (fun d => d.parameters.length) = some n)
    (hR : rm.frames + 1 ≤ R0.frames ∧ 8 + (maxL + 11) + rm.locals ≤ R0.locals) (hn : As.length = n) (hls : ls.size = nL) (hst : st0 = As.reverse ++ rest) (hro : (rest.map fun v => v.category).sum ≤ 8) (hdg : decode cc pc = .ok (.invokestatic index, 3))
    (kk : ∀ (H1 : Heap) (locs1 : List Loc), sH s H1 locs1 → W p l e R0 s m args below meth c H1 locs1 0 0 Q (F0 m (pc + 3) ls (.int z :: rest))) : W p l e R0 s m args below meth c H locs 0 0 Q (F0 m pc ls st0) := by
  refine va_calli (va_runS (As := As) (rest := rest) X hM (va_cwS n X.2.2.2.2 hG hw hc hs hd hR) ⟨fun a U g mk z => ⟨z.1, trivial⟩, fun U hU hW => ⟨rfl, trivial⟩⟩ rfl hn hls hst (lv_room hro) hdg ⟨Nat.zero_le _, Nat.zero_le _⟩) w (fun x _ hx => hx.elim) (fun x hx => hx.elim) (fun r u t H1 locs1 ht hvm hw2 hB hz hk hS => ?_)
  cases hw2
  exact kk H1 locs1 hS
end ML
