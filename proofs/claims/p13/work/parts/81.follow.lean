/-! rounds: what follows by a rule -/
def anyB (p : Nat → Bool) : Nat → Bool
  | 0 => false
  | k + 1 => anyB p k || p k
theorem anyB_iff {p : Nat → Bool} {n : Nat} : anyB p n = true ↔ ∃ z, z < n ∧ p z = true := by
  induction n with
  | zero => exact ⟨fun h => absurd h (by simp [anyB]), fun ⟨z, h, _⟩ => absurd h (by omega)⟩
  | succ n ih =>
    unfold anyB
    rw [Bool.or_eq_true, ih]
    constructor
    · rintro (⟨z, h1, h2⟩ | h)
      · exact ⟨z, by omega, h2⟩
      · exact ⟨n, by omega, h⟩
    · rintro ⟨z, h1, h2⟩
      by_cases e : z = n
      · exact Or.inr (e ▸ h2)
      · exact Or.inl ⟨z, by omega, h2⟩
def fol (P : Prog) (H : Nat → Bool) (r x y : Nat) : Bool :=
  if P.2.2.1 2 r = 2 then anyB (fun z => H (16 * P.2.2.1 4 r + 4 * x + z) && H (16 * P.2.2.1 5 r + 4 * z + y)) 4
  else if P.2.2.1 2 r = 3 then H (16 * P.2.2.1 4 r + 4 * x + y) && !H (16 * P.2.2.1 5 r + 4 * x + y)
  else if P.2.2.1 2 r = 1 then H (16 * P.2.2.1 4 r + 4 * y + x) else H (16 * P.2.2.1 4 r + 4 * x + y)
def RepH (H : Nat → Bool) (w : Nat) (R : Nat → Nat → Int32) : Prop := ∀ q, q < 4 → ∀ i, bit (R (143 + 100 * w) q) i = (decide (i < 16) && H (16 * q + i))
theorem d4 {k : Nat} (h : k < 2 ^ 31) : nI k / 4 = nI (k / 4) := pk_div (d := 4) h (by decide) (by decide)
theorem m4 {k : Nat} (h : k < 2 ^ 31) : nI k - nI k / 4 * 4 = nI (k % 4) := pk_rem (d := 4) h (by decide) (by decide)
theorem d16 {k : Nat} (h : k < 2 ^ 31) : nI k / 16 = nI (k / 16) := pk_div (d := 16) h (by decide) (by decide)
theorem m16 {k : Nat} (h : k < 2 ^ 31) : nI k - nI k / 16 * 16 = nI (k % 16) := pk_rem (d := 16) h (by decide) (by decide)
theorem x4 {k : Nat} : (4 : Int32) * nI k = nI (4 * k) := pk_mul 4 k
theorem x16 {k : Nat} : (16 : Int32) * nI k = nI (16 * k) := pk_mul 16 k
theorem x4' {k : Nat} : nI k * (4 : Int32) = nI (k * 4) := pk_mul k 4
theorem g16 {k : Nat} (h : k < 16) : ¬ (16 : Int32) ≤ nI k := nI_ge (b := 16) h (by decide)
theorem e_turned {n : Nat} (a : Int32) (hn : 16 < n) : ∃ m, fX3_turnedSet n a = some m ∧ ∀ i, bit m i = (decide (i < 16) && bit a (i % 4 * 4 + i / 4)) := by
  obtain ⟨s, g, g4⟩ := lp0 (fun j i (s : Int32) => fX3_turnedSet_b4 n j a s (nI i)) 16 (fun k s => ∀ i, bit s i = (decide (i < 16) && decide (i % 4 * 4 + i / 4 < k) && bit a (i % 4 * 4 + i / 4)))
    (by
      intro j k s hk g
      try dsimp only
      rw [fX3_turnedSet_b4, if_neg (g16 hk)]
      unfold fX3_turnedSet_b27 fX7_turnedAbout
      rw [d4 (by omega), show nI k - nI (k / 4) * 4 = nI (k % 4) by rw [← d4 (by omega)]; exact m4 (by omega), bsome, x4', nI_add, nI_1]
      by_cases e : bit a k = false
      · rw [if_pos ((bit_test (by omega)).mpr e)]
        refine ⟨s, fun i => ?_, rfl⟩
        rw [g i]
        by_cases e1 : i % 4 * 4 + i / 4 = k
        · rw [e1, e]; simp
        · have : (decide (i % 4 * 4 + i / 4 < k + 1)) = decide (i % 4 * 4 + i / 4 < k) := decide_eq_decide.mpr (by omega)
          rw [this]
      · rw [if_neg (fun z => e ((bit_test (by omega)).mp z))]
        refine ⟨s ||| (1 <<< (nI (k % 4 * 4 + k / 4) &&& 31)), fun i => ?_, rfl⟩
        rw [bit_or, g i, bit_1shl (by omega)]
        by_cases hi : i < 16
        · by_cases e1 : i = k % 4 * 4 + k / 4
          · have e2 : i % 4 * 4 + i / 4 = k := by omega
            rw [e2]
            have : bit a k = true := by simpa using e
            simp [e1, this]
            omega
          · have e2 : ¬ i % 4 * 4 + i / 4 = k := by omega
            have : (decide (i % 4 * 4 + i / 4 < k + 1)) = decide (i % 4 * 4 + i / 4 < k) := decide_eq_decide.mpr (by omega)
            rw [this]
            simp [e1]
        · have : ¬ i = k % 4 * 4 + k / 4 := by omega
          simp [hi, this])
    (s := (0 : Int32)) (fun i => by rw [bit_0]; simp) (n := n) hn
  refine ⟨s, ?_, fun i => ?_⟩
  · unfold fX3_turnedSet
    refine g4.trans ?_
    try dsimp only
    rw [fX3_turnedSet_b4, if_pos (show (16 : Int32) ≤ nI 16 by decide)]
  · rw [g i]
    by_cases hi : i < 16
    · have : i % 4 * 4 + i / 4 < 16 := by omega
      simp [hi, this]
    · simp [hi]
theorem bit_15 (i : Nat) : bit 15 i = decide (i < 4) := by
  have h : ∀ j : Fin 32, bit 15 j.1 = decide (j.1 < 4) := by decide
  by_cases e : i < 32
  · exact h ⟨i, e⟩
  · rw [bit_big (by omega)]
    have : ¬ i < 4 := by omega
    simp [this]
theorem bit_row {a : Int32} {x : Nat} (hx : x < 4) (i : Nat) : bit ((a >>> (nI (4 * x) &&& 31)) &&& 15) i = (decide (i < 4) && bit a (4 * x + i)) := by
  rw [bit_and, bit_15]
  by_cases e : i < 4
  · rw [bit_shr (by omega) (by omega)]; simp [e]
  · simp [e]
theorem e_joined {n : Nat} (a b : Int32) (hn : 16 < n) : ∃ m, fX3_joinedSet n a b = some m ∧ ∀ i, (bit m i = true ↔ i < 16 ∧ ∃ z, z < 4 ∧ bit a (4 * (i / 4) + z) = true ∧ bit b (4 * z + i % 4) = true) := by
  obtain ⟨s, g, g4⟩ := lp0 (fun j i (s : Int32) => fX3_joinedSet_b4 n j a b s (nI i)) 16 (fun k s => ∀ i, (bit s i = true ↔ i < 16 ∧ ∃ z, z < 4 ∧ 4 * (i / 4) + z < k ∧ bit a (4 * (i / 4) + z) = true ∧ bit b (4 * z + i % 4) = true))
    (by
      intro j k s hk g
      try dsimp only
      rw [fX3_joinedSet_b4, if_neg (g16 hk)]
      unfold fX3_joinedSet_b34 fX7_rowOf
      rw [m4 (by omega), d4 (by omega), bsome, x4, x4, nI_1]
      by_cases e : bit a k = false
      · rw [if_pos ((bit_test (by omega)).mpr e)]
        refine ⟨s, fun i => ?_, rfl⟩
        rw [g i]
        constructor
        · rintro ⟨h1, z, h2, h3, h4, h5⟩
          exact ⟨h1, z, h2, by omega, h4, h5⟩
        · rintro ⟨h1, z, h2, h3, h4, h5⟩
          refine ⟨h1, z, h2, ?_, h4, h5⟩
          by_cases e1 : 4 * (i / 4) + z = k
          · rw [e1, e] at h4; exact absurd h4 (by decide)
          · omega
      · rw [if_neg (fun z => e ((bit_test (by omega)).mp z))]
        have e' : bit a k = true := by simpa using e
        refine ⟨s ||| (((b >>> (nI (4 * (k % 4)) &&& 31)) &&& 15) <<< (nI (4 * (k / 4)) &&& 31)), fun i => ?_, rfl⟩
        rw [bit_or, bit_shl (by omega), bit_row (by omega), Bool.or_eq_true, g i]
        simp only [Bool.and_eq_true, decide_eq_true_eq, Bool.not_eq_true', decide_eq_false_iff_not]
        constructor
        · rintro (⟨h1, z, h2, h3, h4, h5⟩ | ⟨⟨h1, h2⟩, h3, h4⟩)
          · exact ⟨h1, z, h2, by omega, h4, h5⟩
          · refine ⟨by omega, k % 4, by omega, by omega, ?_, ?_⟩
            · rw [show 4 * (i / 4) + k % 4 = k by omega]; exact e'
            · rw [show 4 * (k % 4) + i % 4 = 4 * (k % 4) + (i - 4 * (k / 4)) by omega]; exact h4
        · rintro ⟨h1, z, h2, h3, h4, h5⟩
          by_cases e1 : 4 * (i / 4) + z = k
          · refine Or.inr ⟨⟨by omega, by omega⟩, by omega, ?_⟩
            rw [show 4 * (k % 4) + (i - 4 * (k / 4)) = 4 * z + i % 4 by omega]; exact h5
          · exact Or.inl ⟨h1, z, h2, by omega, h4, h5⟩)
    (s := (0 : Int32)) (fun i => by rw [bit_0]; simp) (n := n) hn
  refine ⟨s, ?_, fun i => ?_⟩
  · unfold fX3_joinedSet
    refine g4.trans ?_
    try dsimp only
    rw [fX3_joinedSet_b4, if_pos (show (16 : Int32) ≤ nI 16 by decide)]
  · rw [g i]
    constructor
    · rintro ⟨h1, z, h2, h3, h4, h5⟩
      exact ⟨h1, z, h2, h4, h5⟩
    · rintro ⟨h1, z, h2, h4, h5⟩
      exact ⟨h1, z, h2, by omega, h4, h5⟩
theorem e_follow {P : Prog} {w n r : Nat} {u : mSt} {H : Nat → Bool} (hP : pOk P) (h : RepC P w u) (hH : RepH H w u.2) (hr : r < P.2.1) (hn : 16 < n) : ∃ m, fX3_followBy n w (nI r) u.1 u.2 = some (m, u) ∧ ∀ i, bit m i = (decide (i < 16) && fol P H r (i / 4) (i % 4)) := by
  have hk := hP.2.2.2.1 r hr
  have hP1 := hP.1
  have hb : inb (nI r) 5 = true := inb_nI (by have := hP.2.1; omega) (by decide)
  have c2 : getA u.2 (113 + 100 * w) (nI r) = nI (P.2.2.1 2 r) := h.at 2 (by decide) hr hP.2.1
  have c4 : getA u.2 (115 + 100 * w) (nI r) = nI (P.2.2.1 4 r) := h.at 4 (by decide) hr hP.2.1
  have c5 : getA u.2 (116 + 100 * w) (nI r) = nI (P.2.2.1 5 r) := h.at 5 (by decide) hr hP.2.1
  have h4 := hH (P.2.2.1 4 r) (by omega)
  have h5 := hH (P.2.2.1 5 r) (by omega)
  unfold fX3_followBy
  rw [gpos hb, c4, gpos (inb_nI (by omega) (by decide)), gpos hb, c5, gpos (inb_nI (by omega) (by decide)), gpos hb, c2, getA_nI (by omega), getA_nI (by omega)]
  have hf : P.2.2.1 2 r = 0 ∨ P.2.2.1 2 r = 1 ∨ P.2.2.1 2 r = 2 ∨ P.2.2.1 2 r = 3 := by omega
  unfold fol
  rcases hf with e | e | e | e
  · rw [e, if_neg (by decide), if_neg (by decide), if_neg (by decide)]
    refine ⟨_, rfl, fun i => ?_⟩
    rw [if_neg (by decide), if_neg (by decide), if_neg (by decide), h4 i, Nat.add_assoc, show 4 * (i / 4) + i % 4 = i by omega]
  · rw [e, if_pos (by decide)]
    obtain ⟨m, e1, e2⟩ := e_turned (n := n) (u.2 (143 + 100 * w) (P.2.2.1 4 r)) hn
    rw [e1, bsome]
    refine ⟨m, rfl, fun i => ?_⟩
    rw [if_neg (by decide), if_neg (by decide), if_pos rfl, e2 i, h4]
    by_cases hi : i < 16
    · have : i % 4 * 4 + i / 4 < 16 := by omega
      rw [show 16 * P.2.2.1 4 r + (i % 4 * 4 + i / 4) = 16 * P.2.2.1 4 r + 4 * (i % 4) + i / 4 by omega]
      simp [hi, this]
    · simp [hi]
  · rw [e, if_neg (by decide), if_pos (by decide)]
    obtain ⟨m, e1, e2⟩ := e_joined (n := n) (u.2 (143 + 100 * w) (P.2.2.1 4 r)) (u.2 (143 + 100 * w) (P.2.2.1 5 r)) hn
    rw [e1, bsome]
    refine ⟨m, rfl, fun i => ?_⟩
    rw [if_pos rfl, Bool.eq_iff_iff, e2 i, Bool.and_eq_true, decide_eq_true_eq, anyB_iff]
    simp only [Bool.and_eq_true]
    constructor
    · rintro ⟨g1, z, g2, g3, g4⟩
      rw [h4] at g3
      rw [h5] at g4
      simp only [Bool.and_eq_true] at g3 g4
      exact ⟨g1, z, g2, by rw [Nat.add_assoc]; exact g3.2, by rw [Nat.add_assoc]; exact g4.2⟩
    · rintro ⟨g1, z, g2, g3, g4⟩
      refine ⟨g1, z, g2, ?_, ?_⟩
      · rw [h4, ← Nat.add_assoc, g3, show decide (4 * (i / 4) + z < 16) = true from decide_eq_true (by omega)]; rfl
      · rw [h5, ← Nat.add_assoc, g4, show decide (4 * z + i % 4 < 16) = true from decide_eq_true (by omega)]; rfl
  · rw [e, if_neg (by decide), if_neg (by decide), if_pos (by decide)]
    refine ⟨_, rfl, fun i => ?_⟩
    rw [if_neg (by decide), if_pos rfl, bit_and, bit_xor, bit_m1, h4, h5, Nat.add_assoc, Nat.add_assoc, show 4 * (i / 4) + i % 4 = i by omega]
    by_cases hi : i < 16
    · have : i < 32 := by omega
      simp [hi, this]
    · simp [hi]
