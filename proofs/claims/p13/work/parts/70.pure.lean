/-! THE PURE PART. What class (u) and reference (v) hold, side by side -/
theorem setA_eq {R : Nat → Nat → Int32} {k : Nat} {i x : Int32} : setA R k i x k = upd (R k) i.toNatClampNeg x := if_pos rfl
theorem setA_ne {R : Nat → Nat → Int32} {k j : Nat} {i x : Int32} (h : j ≠ k) : setA R k i x j = R j := if_neg h
theorem getA_nI {R : Nat → Nat → Int32} {k j : Nat} (h : j < 2 ^ 31) : getA R k (nI j) = R k j := by unfold getA; rw [nI_clamp h]
theorem inb_nI {j n : Nat} (h : j < n) (hn : n < 2 ^ 31) : inb (nI j) n = true := decide_eq_true (nI_in h hn)
theorem setA_at {R : Nat → Nat → Int32} {k j t : Nat} {x : Int32} (h : j < 2 ^ 31) : setA R k (nI j) x k t = if t = j then x else R k t := by
  rw [setA_eq, nI_clamp h]; rfl
theorem bsome {α β : Type} {a : α} {f : α → Option β} : (some a).bind f = f a := rfl
theorem gpos {α : Type} {b : Bool} {x y : Option α} (h : b = true) : (if b = true then x else y) = x := if_pos h
theorem toI_neg {x : Int32} (h : x < 0) : x.toInt < 0 := by
  have := Int32.lt_iff_toInt_lt.mp h
  simpa using this
theorem neg_toI {x : Int32} (h : x.toInt < 0) : x < 0 := Int32.lt_iff_toInt_lt.mpr (by simpa using h)
/-- an int is a number below n, or not -/
theorem rng (x : Int32) {n : Nat} (hn : n < 2 ^ 31) : (x < 0 ∨ nI n ≤ x) ∨ ∃ j : Nat, j < n ∧ x = nI j := by
  rcases pk_ix x hn with h | h | h
  · exact Or.inl (Or.inl h)
  · exact Or.inl (Or.inr h)
  · exact Or.inr h
theorem le_lt {x : Int32} {a b : Nat} (h : nI b ≤ x) (hab : a < b) (hb : b < 2 ^ 31) : nI a < x := by
  have h1 := Int32.le_iff_toInt_le.mp h
  rw [nI_toInt hb] at h1
  refine Int32.lt_iff_toInt_lt.mpr ?_
  rw [nI_toInt (by omega)]
  omega
theorem within_in {n j lo hi : Nat} (h1 : lo ≤ j) (h2 : j ≤ hi) (hh : hi < 2 ^ 31) : fX8_within n (nI j) (nI lo) (nI hi) = some 1 := by
  unfold fX8_within
  rw [if_neg (nI_nlt h1 (by omega)), if_neg (nI_nlt h2 hh)]
theorem within_out {n : Nat} {x lo hi : Int32} (h : x < lo ∨ hi < x) : fX8_within n x lo hi = some 0 := by
  unfold fX8_within
  by_cases h1 : x < lo
  · rw [if_pos h1]
  · rw [if_neg h1, if_pos (h.resolve_left h1)]
theorem d_sheet (x : Int32) : (∀ n, fX8_isSheet n x = some 0 ∧ fX7_isSheet n x = some 0) ∨ ∃ j : Nat, j < 4 ∧ x = nI j ∧ ∀ n, fX8_isSheet n x = some 1 ∧ fX7_isSheet n x = some 1 := by
  rcases rng x (n := 4) (by decide) with h | ⟨j, hj, rfl⟩
  · refine Or.inl (fun n => ⟨?_, ?_⟩)
    · unfold fX8_isSheet
      rw [within_out (hi := 3) (h.imp id (fun h => show (3 : Int32) < x from le_lt (a := 3) h (by decide) (by decide)))]
      rfl
    · unfold fX7_isSheet
      rcases h with h | h
      · rw [if_pos h]
      · by_cases h1 : x < 0
        · rw [if_pos h1]
        · rw [if_neg h1, if_pos (show (4 : Int32) ≤ x from h)]
  · refine Or.inr ⟨j, hj, rfl, fun n => ⟨?_, ?_⟩⟩
    · unfold fX8_isSheet
      rw [show fX8_within n (nI j) 0 3 = some 1 from within_in (lo := 0) (hi := 3) (by omega) (by omega) (by decide)]
      rfl
    · unfold fX7_isSheet
      rw [if_neg (nI_pos (by omega)), if_neg (show ¬ (4 : Int32) ≤ nI j from nI_ge (b := 4) hj (by decide))]
theorem d_lane (x : Int32) : (∀ n, fX8_isSort n x = some 0 ∧ fX7_isLane n x = some 0) ∨ ∃ j : Nat, j < 3 ∧ x = nI j ∧ ∀ n, fX8_isSort n x = some 1 ∧ fX7_isLane n x = some 1 := by
  rcases rng x (n := 3) (by decide) with h | ⟨j, hj, rfl⟩
  · refine Or.inl (fun n => ⟨?_, ?_⟩)
    · unfold fX8_isSort
      rw [within_out (hi := 2) (h.imp id (fun h => show (2 : Int32) < x from le_lt (a := 2) h (by decide) (by decide)))]
      rfl
    · unfold fX7_isLane
      rcases h with h | h
      · rw [if_pos h]
      · by_cases h1 : x < 0
        · rw [if_pos h1]
        · rw [if_neg h1, if_pos (show (3 : Int32) ≤ x from h)]
  · refine Or.inr ⟨j, hj, rfl, fun n => ⟨?_, ?_⟩⟩
    · unfold fX8_isSort
      rw [show fX8_within n (nI j) 0 2 = some 1 from within_in (lo := 0) (hi := 2) (by omega) (by omega) (by decide)]
      rfl
    · unfold fX7_isLane
      rw [if_neg (nI_pos (by omega)), if_neg (show ¬ (3 : Int32) ≤ nI j from nI_ge (b := 3) hj (by decide))]
theorem d_thing (x : Int32) : (∀ n, fX8_isThing n x = some 0 ∧ fX7_isThing n x = some 0) ∨ ∃ j : Nat, j < 4 ∧ x = nI j ∧ ∀ n, fX8_isThing n x = some 1 ∧ fX7_isThing n x = some 1 := by
  rcases rng x (n := 4) (by decide) with h | ⟨j, hj, rfl⟩
  · refine Or.inl (fun n => ⟨?_, ?_⟩)
    · unfold fX8_isThing
      rw [within_out (hi := 3) (h.imp id (fun h => show (3 : Int32) < x from le_lt (a := 3) h (by decide) (by decide)))]
      rfl
    · unfold fX7_isThing
      rcases h with h | h
      · rw [if_pos h]
      · by_cases h1 : x < 0
        · rw [if_pos h1]
        · rw [if_neg h1, if_pos (show (4 : Int32) ≤ x from h)]
  · refine Or.inr ⟨j, hj, rfl, fun n => ⟨?_, ?_⟩⟩
    · unfold fX8_isThing
      rw [show fX8_within n (nI j) 0 3 = some 1 from within_in (lo := 0) (hi := 3) (by omega) (by omega) (by decide)]
      rfl
    · unfold fX7_isThing
      rw [if_neg (nI_pos (by omega)), if_neg (show ¬ (4 : Int32) ≤ nI j from nI_ge (b := 4) hj (by decide))]
theorem e_factM {n q x y : Nat} : fX8_factOf n (nI q) (nI x) (nI y) = some (nI (16 * q + 4 * x + y)) := by
  unfold fX8_factOf
  rw [show (16 : Int32) = nI 16 from rfl, show (4 : Int32) = nI 4 from rfl, pk_mul, pk_mul, nI_add, nI_add]
theorem e_factC {n q x y : Nat} : fX7_factOf n (nI q) (nI x) (nI y) = some (nI (16 * q + 4 * x + y)) := by
  unfold fX7_factOf
  rw [show (16 : Int32) = nI 16 from rfl, show (4 : Int32) = nI 4 from rfl, pk_mul, pk_mul, nI_add, nI_add]
/-! abstract programs -/
abbrev Prog : Type := Nat × Nat × (Nat → Nat → Nat) × (Nat → Bool)
def bit (m : Int32) (i : Nat) : Bool := m.toBitVec.getLsbD i
/-- relations, rules; k = 0 kind, 1 price, 2 form, 3 head, 4 body, 5 other -/
def pOk (P : Prog) : Prop := P.1 ≤ 4 ∧ P.2.1 ≤ 5 ∧ (P.1 = 0 → P.2.1 = 0) ∧ (∀ r, r < P.2.1 → P.2.2.1 0 r < 3 ∧ 1 ≤ P.2.2.1 1 r ∧ P.2.2.1 1 r ≤ 9 ∧ P.2.2.1 2 r < 4 ∧ P.2.2.1 3 r < P.1 ∧ P.2.2.1 4 r < P.1 ∧ P.2.2.1 5 r < P.1 ∧ (P.2.2.1 2 r < 2 → P.2.2.1 5 r = 0)) ∧ ∀ f, P.2.2.2 f = true → f < 16 * P.1
def RepC (P : Prog) (w : Nat) (u : mSt) : Prop := u.1 (118 + 100 * w) = nI P.1 ∧ u.1 (119 + 100 * w) = nI P.2.1 ∧ (∀ k, k < 6 → ∀ r, r < P.2.1 → u.2 (111 + k + 100 * w) r = nI (P.2.2.1 k r)) ∧ ∀ q, q < 4 → ∀ i, bit (u.2 (117 + 100 * w) q) i = (decide (i < 16) && P.2.2.2 (16 * q + i))
def RepM (P : Prog) (v : mSt) : Prop := v.1 5 = nI P.1 ∧ v.1 6 = nI P.2.1 ∧ (∀ k, k < 5 → ∀ r, r < P.2.1 → v.2 (7 + k) r = nI (P.2.2.1 k r)) ∧ (∀ r, r < P.2.1 → v.2 12 r = if P.2.2.1 2 r < 2 then (-9) else nI (P.2.2.1 5 r)) ∧ ∀ f, f < 64 → v.2 13 f = if P.2.2.2 f = true then 1 else 0
def SimSh (u v : mSt) : Prop := ∀ k, k < 4 → (u.1 (1002 + 10 * k) = 0 ∧ v.2 2 k = (-9)) ∨ (u.1 (1002 + 10 * k) = 1 ∧ ∃ la sz : Nat, la < 3 ∧ sz ≤ 60 ∧ u.1 (1003 + 10 * k) = nI la ∧ v.2 2 k = nI la ∧ u.1 (1004 + 10 * k) = nI sz ∧ v.2 3 k = nI sz ∧ ∀ i, i < 60 → u.2 (1001 + 10 * k) i = v.2 4 (60 * k + i))
def SimRd (u v : mSt) : Prop := ∃ c : Nat, c ≤ 8 ∧ u.1 7 = nI c ∧ v.1 31 = nI c ∧ ∀ k, k < c → ∃ f : Nat, f < 64 ∧ u.2 5 k = nI f ∧ v.2 32 k = nI f ∧ u.2 6 k = v.2 33 k
def SimMi (u v : mSt) : Prop := u.1 9 = v.1 0 ∧ u.1 8 = v.1 1
theorem SimSh.mk {u v u' v' : mSt} (h : SimSh u v) (h1 : ∀ i, 1000 ≤ i → u'.1 i = u.1 i) (h2 : ∀ i, 1000 ≤ i → u'.2 i = u.2 i) (h3 : v'.2 2 = v.2 2) (h4 : v'.2 3 = v.2 3) (h5 : v'.2 4 = v.2 4) : SimSh u' v' := by
  intro k hk
  rw [h1 _ (by omega), h1 (1003 + 10 * k) (by omega), h1 (1004 + 10 * k) (by omega), h2 _ (by omega), h3, h4, h5]
  exact h k hk
theorem SimRd.mk {u v u' v' : mSt} (h : SimRd u v) (h1 : u'.1 7 = u.1 7) (h2 : u'.2 5 = u.2 5) (h3 : u'.2 6 = u.2 6) (h4 : v'.1 31 = v.1 31) (h5 : v'.2 32 = v.2 32) (h6 : v'.2 33 = v.2 33) : SimRd u' v' := by
  unfold SimRd
  rw [h1, h2, h3, h4, h5, h6]
  exact h
theorem RepC.mk {P : Prog} {w : Nat} {u u' : mSt} (h : RepC P w u) (h1 : u'.1 (118 + 100 * w) = u.1 (118 + 100 * w)) (h2 : u'.1 (119 + 100 * w) = u.1 (119 + 100 * w)) (h3 : ∀ k, k < 7 → u'.2 (111 + k + 100 * w) = u.2 (111 + k + 100 * w)) : RepC P w u' := by
  refine ⟨h1.trans h.1, h2.trans h.2.1, fun k hk r hr => ?_, fun q hq i => ?_⟩
  · rw [h3 k (by omega)]
    exact h.2.2.1 k hk r hr
  · rw [show (117 + 100 * w) = 111 + 6 + 100 * w from rfl, h3 6 (by decide)]
    exact h.2.2.2 q hq i
theorem RepM.mk {P : Prog} {v v' : mSt} (h : RepM P v) (h1 : v'.1 5 = v.1 5) (h2 : v'.1 6 = v.1 6) (h3 : ∀ k, k < 7 → v'.2 (7 + k) = v.2 (7 + k)) : RepM P v' := by
  refine ⟨h1.trans h.1, h2.trans h.2.1, fun k hk r hr => ?_, fun r hr => ?_, fun f hf => ?_⟩
  · rw [h3 k (by omega)]
    exact h.2.2.1 k hk r hr
  · rw [show (12 : Nat) = 7 + 5 from rfl, h3 5 (by decide)]
    exact h.2.2.2.1 r hr
  · rw [show (13 : Nat) = 7 + 6 from rfl, h3 6 (by decide)]
    exact h.2.2.2.2 f hf
