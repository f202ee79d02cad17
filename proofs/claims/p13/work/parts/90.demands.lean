/-! demands -/
def dof (P : Prog) (H : Nat → Bool) (r x i : Nat) : Bool :=
  (if P.2.2.1 2 r = 1 then decide (i / 4 = P.2.2.1 4 r) else decide (i = 4 * P.2.2.1 4 r + x)) || (decide (P.2.2.1 2 r = 3) && decide (i = 4 * P.2.2.1 5 r + x)) || (decide (P.2.2.1 2 r = 2) && decide (i / 4 = P.2.2.1 5 r) && H (16 * P.2.2.1 4 r + 4 * x + i % 4))
def dby (P : Prog) (H X : Nat → Bool) (r i : Nat) : Bool := anyB (fun x => X (4 * P.2.2.1 3 r + x) && dof P H r x i) 4
def dst (P : Prog) (H X : Nat → Bool) (i : Nat) : Bool := X i || anyB (fun r => dby P H X r i) P.2.1
def DM (X : Nat → Bool) (m : Int32) : Prop := ∀ i, (bit m i = true ↔ i < 16 ∧ X i = true)
theorem DM.eq {X : Nat → Bool} {m m' : Int32} (h : DM X m) (h' : DM X m') : m = m' := bit_ext (fun i _ => Bool.eq_iff_iff.mpr ((h i).trans (h' i).symm))
theorem dby_iff {P : Prog} {H X : Nat → Bool} {r i : Nat} : dby P H X r i = true ↔ ∃ x, x < 4 ∧ X (4 * P.2.2.1 3 r + x) = true ∧ dof P H r x i = true := by
  unfold dby
  rw [anyB_iff]
  constructor
  · rintro ⟨z, h1, h2⟩
    have h2 : (X (4 * P.2.2.1 3 r + z) && dof P H r z i) = true := h2
    rw [Bool.and_eq_true] at h2
    exact ⟨z, h1, h2⟩
  · rintro ⟨z, h1, h2, h3⟩
    exact ⟨z, h1, by show (X (4 * P.2.2.1 3 r + z) && dof P H r z i) = true; rw [h2, h3]; rfl⟩
theorem e_mid {w n b : Nat} {u : mSt} {H : Nat → Bool} {a : Int32} (hH : RepH H w u.2) (hb : b < 4) (hn : 4 < n) : ∃ m, fX6_middles n w (nI b) a u.1 u.2 = some (m, u) ∧ ∀ i, (bit m i = true ↔ i < 4 ∧ ∃ x, x < 4 ∧ bit a x = true ∧ H (16 * b + 4 * x + i) = true) := by
  obtain ⟨s, g, g4⟩ := lp0 (fun j i (s : Int32) => fX6_middles_b5 n w j (nI b) a s (nI i) u.1 u.2) 4 (fun k s => ∀ i, (bit s i = true ↔ i < 4 ∧ ∃ x, x < k ∧ bit a x = true ∧ H (16 * b + 4 * x + i) = true))
    (by
      intro j k s hk hs
      try dsimp only
      rw [fX6_middles_b5, if_neg (g4' hk)]
      unfold fX6_middles_b37 fX7_rowOf
      rw [gpos (inb_nI hb (by decide)), getA_nI (by omega), bsome, x4, nI_1]
      by_cases e : bit a k = false
      · rw [if_pos ((bit_test (by omega)).mpr e)]
        refine ⟨s, fun i => ?_, rfl⟩
        rw [hs i]
        constructor
        · rintro ⟨h1, x, h2, h3, h4⟩
          exact ⟨h1, x, by omega, h3, h4⟩
        · rintro ⟨h1, x, h2, h3, h4⟩
          refine ⟨h1, x, ?_, h3, h4⟩
          by_cases e1 : x = k
          · rw [e1, e] at h3; exact absurd h3 (by decide)
          · omega
      · rw [if_neg (fun z => e ((bit_test (by omega)).mp z))]
        have e' : bit a k = true := by simpa using e
        refine ⟨_, fun i => ?_, rfl⟩
        rw [bit_or, bit_row hk, hH b hb, Bool.or_eq_true, hs i]
        simp only [Bool.and_eq_true, decide_eq_true_eq]
        constructor
        · rintro (⟨h1, x, h2, h3, h4⟩ | ⟨h1, h2, h3⟩)
          · exact ⟨h1, x, by omega, h3, h4⟩
          · exact ⟨h1, k, by omega, e', by rw [show 16 * b + 4 * k + i = 16 * b + (4 * k + i) by omega]; exact h3⟩
        · rintro ⟨h1, x, h2, h3, h4⟩
          by_cases e1 : x = k
          · refine Or.inr ⟨h1, by omega, ?_⟩
            rw [← e1, show 16 * b + (4 * x + i) = 16 * b + 4 * x + i by omega]; exact h4
          · exact Or.inl ⟨h1, x, by omega, h3, h4⟩)
    (s := (0 : Int32)) (fun i => by
      rw [bit_0]
      exact ⟨fun h => absurd h (by decide), fun ⟨_, x, h, _⟩ => absurd h (by omega)⟩) (n := n) hn
  refine ⟨s, ?_, g⟩
  unfold fX6_middles
  refine g4.trans ?_
  try dsimp only
  rw [fX6_middles_b5, if_pos (show (4 : Int32) ≤ nI 4 by decide)]
theorem e_dby {P : Prog} {w n r : Nat} {u : mSt} {H X : Nat → Bool} {a : Int32} (hP : pOk P) (h : RepC P w u) (hH : RepH H w u.2) (hr : r < P.2.1) (hX : DM X a) (hn : 4 < n) : ∃ m, fX6_demandsBy n w (nI r) a u.1 u.2 = some (m, u) ∧ ∀ i, (bit m i = true ↔ i < 16 ∧ dby P H X r i = true) := by
  have hk := hP.2.2.2.1 r hr
  have hP1 := hP.1
  have h5 := hP.2.1
  have hb : inb (nI r) 5 = true := inb_nI (by omega) (by decide)
  have c2 : getA u.2 (113 + 100 * w) (nI r) = nI (P.2.2.1 2 r) := h.at 2 (by decide) hr h5
  have c3 : getA u.2 (114 + 100 * w) (nI r) = nI (P.2.2.1 3 r) := h.at 3 (by decide) hr h5
  have c4 : getA u.2 (115 + 100 * w) (nI r) = nI (P.2.2.1 4 r) := h.at 4 (by decide) hr h5
  have c5 : getA u.2 (116 + 100 * w) (nI r) = nI (P.2.2.1 5 r) := h.at 5 (by decide) hr h5
  have hf := hk.2.2.2.1
  unfold fX6_demandsBy fX7_rowOf
  rw [gpos hb, bsome, gpos hb, gpos hb, gpos hb, gpos hb, c2, c3, c4, c5, x4, x4, x4]
  have hF : ∀ x, bit ((a >>> (nI (4 * P.2.2.1 3 r) &&& 31)) &&& 15) x = true ↔ x < 4 ∧ X (4 * P.2.2.1 3 r + x) = true := by
    intro x
    rw [bit_row (by omega), Bool.and_eq_true, decide_eq_true_eq, hX]
    exact ⟨fun z => ⟨z.1, z.2.2⟩, fun z => ⟨z.1, by omega, z.2⟩⟩
  generalize hfs : (a >>> (nI (4 * P.2.2.1 3 r) &&& 31)) &&& 15 = fs
  rw [hfs] at hF
  by_cases e0 : fs = 0
  · rw [if_pos e0]
    refine ⟨0, rfl, fun i => ?_⟩
    rw [bit_0, dby_iff]
    refine ⟨fun z => absurd z (by decide), fun ⟨_, x, h1, h2, h3⟩ => ?_⟩
    have := (hF x).mpr ⟨h1, h2⟩
    rw [e0, bit_0] at this
    exact this
  rw [if_neg e0]
  have hx0 : ∃ x, x < 4 ∧ X (4 * P.2.2.1 3 r + x) = true := by
    refine Classical.byContradiction (fun hno => e0 (bit_ne0.mpr (fun i _ => ?_)))
    cases hb : bit fs i with
    | false => rfl
    | true => exact absurd ⟨i, (hF i).mp hb⟩ hno
  have hs : ∀ (b : Nat), b < 4 → ∀ i, (bit (fs <<< (nI (4 * b) &&& 31)) i = true ↔ i < 16 ∧ ∃ x, x < 4 ∧ X (4 * P.2.2.1 3 r + x) = true ∧ i = 4 * b + x) := by
    intro b hb4 i
    rw [bit_shl (by omega)]
    simp only [Bool.and_eq_true, decide_eq_true_eq, Bool.not_eq_true', decide_eq_false_iff_not, hF]
    constructor
    · rintro ⟨⟨h1, h2⟩, h3, h4⟩
      exact ⟨by omega, i - 4 * b, h3, h4, by omega⟩
    · rintro ⟨h1, x, h2, h3, rfl⟩
      refine ⟨⟨by omega, by omega⟩, by omega, ?_⟩
      rw [show 4 * b + x - 4 * b = x by omega]; exact h3
  have hc : P.2.2.1 2 r = 0 ∨ P.2.2.1 2 r = 1 ∨ P.2.2.1 2 r = 2 ∨ P.2.2.1 2 r = 3 := by omega
  rcases hc with e | e | e | e
  · rw [e, if_neg (by decide), if_neg (by decide), if_neg (by decide)]
    refine ⟨_, rfl, fun i => ?_⟩
    rw [hs _ (by omega), dby_iff]
    unfold dof
    simp [e]
  · rw [e, if_pos (by decide)]
    refine ⟨_, rfl, fun i => ?_⟩
    rw [bit_shl (by omega), bit_15, dby_iff]
    unfold dof
    simp only [Bool.and_eq_true, decide_eq_true_eq, Bool.not_eq_true', decide_eq_false_iff_not, e]
    obtain ⟨x, h1, h2⟩ := hx0
    constructor
    · rintro ⟨⟨h3, h4⟩, h5⟩
      refine ⟨by omega, x, h1, h2, ?_⟩
      have : i / 4 = P.2.2.1 4 r := by omega
      simp [this]
    · rintro ⟨h3, y, h4, h5, h6⟩
      have : i / 4 = P.2.2.1 4 r := by simpa using h6
      omega
  · rw [e, if_neg (by decide), if_pos (by decide)]
    obtain ⟨m, m1, m2⟩ := e_mid (n := n) (a := fs) hH (show P.2.2.1 4 r < 4 by omega) hn
    rw [m1, bsome]
    refine ⟨_, rfl, fun i => ?_⟩
    dsimp only
    rw [bit_or, Bool.or_eq_true, hs _ (by omega), dby_iff, bit_shl (by omega)]
    unfold dof
    simp only [Bool.and_eq_true, decide_eq_true_eq, Bool.not_eq_true', decide_eq_false_iff_not, e, m2, hF]
    constructor
    · rintro (⟨h1, x, h2, h3, h4⟩ | ⟨⟨h1, h2⟩, h3, x, h4, ⟨_, h5⟩, h6⟩)
      · exact ⟨h1, x, h2, h3, by simp [h4]⟩
      · refine ⟨by omega, x, h4, h5, ?_⟩
        have e1 : i / 4 = P.2.2.1 5 r := by omega
        have e2 : H (16 * P.2.2.1 4 r + 4 * x + i % 4) = true := by rw [show i % 4 = i - 4 * P.2.2.1 5 r by omega]; exact h6
        simp [e1, e2]
    · rintro ⟨h1, x, h2, h3, h4⟩
      have h4 : i = 4 * P.2.2.1 4 r + x ∨ (i / 4 = P.2.2.1 5 r ∧ H (16 * P.2.2.1 4 r + 4 * x + i % 4) = true) := by simpa using h4
      rcases h4 with h4 | ⟨h4, h5⟩
      · exact Or.inl ⟨h1, x, h2, h3, h4⟩
      · refine Or.inr ⟨⟨by omega, by omega⟩, by omega, x, h2, ⟨h2, h3⟩, ?_⟩
        rw [show i - 4 * P.2.2.1 5 r = i % 4 by omega]; exact h5
  · rw [e, if_neg (by decide), if_neg (by decide), if_pos (by decide)]
    refine ⟨_, rfl, fun i => ?_⟩
    rw [bit_or, Bool.or_eq_true, hs _ (by omega), hs _ (by omega), dby_iff]
    unfold dof
    constructor
    · rintro (⟨h1, x, h2, h3, h4⟩ | ⟨h1, x, h2, h3, h4⟩)
      · exact ⟨h1, x, h2, h3, by simp [h4, e]⟩
      · exact ⟨h1, x, h2, h3, by simp [h4, e]⟩
    · rintro ⟨h1, x, h2, h3, h4⟩
      have h4 : i = 4 * P.2.2.1 4 r + x ∨ i = 4 * P.2.2.1 5 r + x := by simpa [e] using h4
      rcases h4 with h4 | h4
      · exact Or.inl ⟨h1, x, h2, h3, h4⟩
      · exact Or.inr ⟨h1, x, h2, h3, h4⟩
theorem dst_iff {P : Prog} {H X : Nat → Bool} {i : Nat} : dst P H X i = true ↔ X i = true ∨ ∃ r, r < P.2.1 ∧ dby P H X r i = true := by
  unfold dst
  rw [Bool.or_eq_true, anyB_iff]
theorem e_dpassC {P : Prog} {w n p : Nat} {u : mSt} {H X : Nat → Bool} {a : Int32} (k14 : Int32 → Int32 → Int32 → (Nat → Int32) → (Nat → Nat → Int32) → Option (Int32 × mSt)) (hP : pOk P) (h : RepC P w u) (hH : RepH H w u.2) (hX : DM X a) (hn : 5 < n) : ∃ m, fX6_demandsOf_b32 n w k14 n a (nI p) a 0 u.1 u.2 = k14 m (if m = a then 0 else 1) (nI (p + 1)) u.1 u.2 ∧ DM (dst P H X) m := by
  have h5 := hP.2.1
  obtain ⟨s, g, g4⟩ := lp0 (fun j i (s : Int32) => fX6_demandsOf_b32 n w k14 j a (nI p) s (nI i) u.1 u.2) P.2.1 (fun k s => ∀ i, (bit s i = true ↔ i < 16 ∧ (X i = true ∨ ∃ r, r < k ∧ dby P H X r i = true)))
    (by
      intro j k s hk hs
      try dsimp only
      obtain ⟨m, m1, m2⟩ := e_dby (n := n) (a := a) hP h hH hk hX (by omega)
      rw [fX6_demandsOf_b32, h.2.1, if_neg (nI_ge hk (by omega)), m1, bsome, nI_1]
      refine ⟨s ||| m, fun i => ?_, rfl⟩
      rw [bit_or, Bool.or_eq_true, hs, m2]
      constructor
      · rintro (⟨h1, h2 | ⟨r, h2, h3⟩⟩ | ⟨h1, h2⟩)
        · exact ⟨h1, Or.inl h2⟩
        · exact ⟨h1, Or.inr ⟨r, by omega, h3⟩⟩
        · exact ⟨h1, Or.inr ⟨k, by omega, h2⟩⟩
      · rintro ⟨h1, h2 | ⟨r, h2, h3⟩⟩
        · exact Or.inl ⟨h1, Or.inl h2⟩
        · by_cases e : r = k
          · exact Or.inr ⟨h1, e ▸ h3⟩
          · exact Or.inl ⟨h1, Or.inr ⟨r, by omega, h3⟩⟩)
    (s := a) (fun i => by
      rw [hX i]
      exact ⟨fun z => ⟨z.1, Or.inl z.2⟩, fun z => ⟨z.1, z.2.resolve_right (fun ⟨r, hr, _⟩ => absurd hr (by omega))⟩⟩) (n := n) (by omega)
  refine ⟨s, g4.trans ?_, fun i => (g i).trans (by rw [dst_iff])⟩
  try dsimp only
  rw [fX6_demandsOf_b32, h.2.1, if_pos (nI_le (Nat.le_refl _) (by omega))]
  unfold fX6_demandsOf_b73
  rw [nI_1]
  by_cases e : s = a
  · rw [if_pos e, if_pos e]
  · rw [if_neg e, if_neg e]
theorem e_dofM {P : Prog} {n r x : Nat} {v : mSt} {H : Nat → Bool} (hP : pOk P) (h : RepM P v) (hH : RepHM H v.2) (hr : r < P.2.1) (hx : x < 4) (hn : 4 < n) : ∃ m, fX8_demandsOf n (nI r) (nI x) v.1 v.2 = some (m, v) ∧ ∀ i, (bit m i = true ↔ i < 16 ∧ dof P H r x i = true) := by
  have hk := hP.2.2.2.1 r hr
  have hP1 := hP.1
  have h5 := hP.2.1
  have hb : inb (nI r) 5 = true := inb_nI (by omega) (by decide)
  have c2 : getA v.2 9 (nI r) = nI (P.2.2.1 2 r) := h.at 2 (by decide) hr h5
  have c4 : getA v.2 11 (nI r) = nI (P.2.2.1 4 r) := h.at 4 (by decide) hr h5
  have hf := hk.2.2.2.1
  have hone : ∀ (b y : Nat), b < 4 → y < 4 → ∀ i, (bit (1 <<< (nI (4 * b + y) &&& 31)) i = true ↔ i = 4 * b + y) := by
    intro b y hb4 hy i
    rw [bit_1shl (by omega), decide_eq_true_eq]
  have hno : P.2.2.1 2 r ≠ 2 → ∀ s : Int32, fX8_demandsOf_b60 n (nI r) (nI x) s v.1 v.2 = some (s, v) := by
    intro e s
    unfold fX8_demandsOf_b60
    obtain ⟨j, rfl⟩ : ∃ i, n = i + 1 := ⟨n - 1, by omega⟩
    rw [fX8_demandsOf_b63, if_neg (by decide), gpos hb, c2, if_neg (show ¬ nI (P.2.2.1 2 r) = (2 : Int32) from nI_lit (b := 2) (by omega) (by decide) e)]
  unfold fX8_demandsOf fX8_demandsOf_b35
  rw [gpos hb, gpos hb, gpos hb, gpos hb, gpos hb, gpos hb, gpos hb, c2, c4, x4, nI_add]
  have hc : P.2.2.1 2 r = 0 ∨ P.2.2.1 2 r = 1 ∨ P.2.2.1 2 r = 2 ∨ P.2.2.1 2 r = 3 := by omega
  rcases hc with e | e | e | e
  · rw [e, if_neg (by decide), if_neg (by decide), hno (by omega)]
    refine ⟨_, rfl, fun i => ?_⟩
    rw [hone _ _ (by omega) hx]
    unfold dof
    simp [e]
    omega
  · rw [e, if_pos (by decide), if_neg (by decide), hno (by omega)]
    refine ⟨_, rfl, fun i => ?_⟩
    rw [bit_shl (by omega), bit_15]
    unfold dof
    simp only [Bool.and_eq_true, decide_eq_true_eq, Bool.not_eq_true', decide_eq_false_iff_not, e]
    constructor
    · rintro ⟨⟨h1, h2⟩, h3⟩
      have : i / 4 = P.2.2.1 4 r := by omega
      exact ⟨by omega, by simp [this]⟩
    · rintro ⟨h1, h2⟩
      have : i / 4 = P.2.2.1 4 r := by simpa using h2
      omega
  · rw [e, if_neg (by decide), if_neg (by decide)]
    have c5 : getA v.2 12 (nI r) = nI (P.2.2.1 5 r) := h.o hr h5 (by omega)
    obtain ⟨s, g, g4⟩ := lp0 (fun j i (s : Int32) => fX8_demandsOf_b63 n j (nI r) (nI x) s (nI i) v.1 v.2) 4 (fun k s => ∀ i, (bit s i = true ↔ i = 4 * P.2.2.1 4 r + x ∨ (i / 4 = P.2.2.1 5 r ∧ i % 4 < k ∧ H (16 * P.2.2.1 4 r + 4 * x + i % 4) = true)))
      (by
        intro j k s hk4 hs
        try dsimp only
        rw [fX8_demandsOf_b63, if_neg (g4' hk4), gpos hb, gpos hb, gpos hb, c2, e, if_pos (by decide), c4, c5, e_factM, bsome, gpos (inb_nI (by omega) (by decide)), getA_nI (by omega), hH _ (by omega), x4, nI_add]
        unfold fX8_demandsOf_b118
        rw [nI_1, or_0]
        cases eH : H (16 * P.2.2.1 4 r + 4 * x + k) with
        | false =>
          rw [if_neg (show ¬ b01 false = 1 by decide)]
          refine ⟨s, fun i => ?_, rfl⟩
          rw [hs i]
          constructor
          · rintro (h1 | ⟨h1, h2, h3⟩)
            · exact Or.inl h1
            · exact Or.inr ⟨h1, by omega, h3⟩
          · rintro (h1 | ⟨h1, h2, h3⟩)
            · exact Or.inl h1
            · refine Or.inr ⟨h1, ?_, h3⟩
              by_cases e1 : i % 4 = k
              · rw [e1, eH] at h3; exact absurd h3 (by decide)
              · omega
        | true =>
          rw [if_pos (show b01 true = 1 from rfl)]
          refine ⟨_, fun i => ?_, rfl⟩
          rw [bit_or, Bool.or_eq_true, hs i, hone _ _ (by omega) hk4]
          constructor
          · rintro ((h1 | ⟨h1, h2, h3⟩) | h1)
            · exact Or.inl h1
            · exact Or.inr ⟨h1, by omega, h3⟩
            · refine Or.inr ⟨by omega, by omega, ?_⟩
              rw [show i % 4 = k by omega]; exact eH
          · rintro (h1 | ⟨h1, h2, h3⟩)
            · exact Or.inl (Or.inl h1)
            · by_cases e1 : i % 4 = k
              · exact Or.inr (by omega)
              · exact Or.inl (Or.inr ⟨h1, by omega, h3⟩))
      (s := (1 <<< (nI (4 * P.2.2.1 4 r + x) &&& 31) : Int32)) (fun i => by
        rw [hone _ _ (by omega) hx]
        exact ⟨fun z => Or.inl z, fun z => z.resolve_right (fun ⟨_, h2, _⟩ => absurd h2 (by omega))⟩) (n := n) hn
    refine ⟨s, ?_, fun i => ?_⟩
    · unfold fX8_demandsOf_b60
      refine g4.trans ?_
      try dsimp only
      rw [fX8_demandsOf_b63, if_pos (show (4 : Int32) ≤ nI 4 by decide)]
    · rw [g i]
      unfold dof
      constructor
      · rintro (h1 | ⟨h1, h2, h3⟩)
        · exact ⟨by omega, by simp [h1, e]⟩
        · exact ⟨by omega, by simp [h1, e, h3]⟩
      · rintro ⟨h1, h2⟩
        have h2 : i = 4 * P.2.2.1 4 r + x ∨ (i / 4 = P.2.2.1 5 r ∧ H (16 * P.2.2.1 4 r + 4 * x + i % 4) = true) := by simpa [e] using h2
        rcases h2 with h2 | ⟨h2, h3⟩
        · exact Or.inl h2
        · exact Or.inr ⟨h2, by omega, h3⟩
  · have c5 : getA v.2 12 (nI r) = nI (P.2.2.1 5 r) := h.o hr h5 (by omega)
    rw [e, if_neg (by decide), if_pos (by decide), c5, x4, nI_add, hno (by omega)]
    refine ⟨_, rfl, fun i => ?_⟩
    rw [bit_or, Bool.or_eq_true, hone _ _ (by omega) hx, hone _ _ (by omega) hx]
    unfold dof
    simp [e]
    omega
theorem e_dinM {P : Prog} {n r : Nat} {v : mSt} {H X : Nat → Bool} {a s0 : Int32} (k35 : Int32 → Int32 → (Nat → Int32) → (Nat → Nat → Int32) → Option (Int32 × mSt)) (k47 : Int32 → Int32 → Int32 → (Nat → Int32) → (Nat → Nat → Int32) → Option (Int32 × mSt)) (hP : pOk P) (h : RepM P v) (hH : RepHM H v.2) (hr : r < P.2.1) (hX : DM X a) (hn : 4 < n) : ∃ m, fX8_demands_b59 n k35 k47 n s0 a (nI r) 0 v.1 v.2 = k47 m a (nI (r + 1)) v.1 v.2 ∧ ∀ i, (bit m i = true ↔ bit s0 i = true ∨ (i < 16 ∧ dby P H X r i = true)) := by
  have hk := hP.2.2.2.1 r hr
  have hP1 := hP.1
  have h5 := hP.2.1
  have hb : inb (nI r) 5 = true := inb_nI (by omega) (by decide)
  have c3 : getA v.2 10 (nI r) = nI (P.2.2.1 3 r) := h.at 3 (by decide) hr h5
  obtain ⟨s, g, g4⟩ := lp0 (fun j i (s : Int32) => fX8_demands_b59 n k35 k47 j s a (nI r) (nI i) v.1 v.2) 4 (fun k s => ∀ i, (bit s i = true ↔ bit s0 i = true ∨ (i < 16 ∧ ∃ x, x < k ∧ X (4 * P.2.2.1 3 r + x) = true ∧ dof P H r x i = true)))
    (by
      intro j k s hk4 hs
      try dsimp only
      obtain ⟨m, m1, m2⟩ := e_dofM (n := n) hP h hH hr hk4 hn
      rw [fX8_demands_b59, if_neg (g4' hk4), gpos hb, c3, x4, nI_add]
      unfold fX8_isOf fX8_demands_b98
      rw [nI_1, m1, or_0]
      by_cases e : bit a (4 * P.2.2.1 3 r + k) = true
      · rw [if_pos ((bit_test1 (by omega)).mpr e), bsome, i1, bsome]
        have eX := ((hX _).mp e).2
        refine ⟨s ||| m, fun i => ?_, rfl⟩
        rw [bit_or, Bool.or_eq_true, hs i, m2 i]
        constructor
        · rintro ((h1 | ⟨h1, x, h2, h3, h4⟩) | ⟨h1, h2⟩)
          · exact Or.inl h1
          · exact Or.inr ⟨h1, x, by omega, h3, h4⟩
          · exact Or.inr ⟨h1, k, by omega, eX, h2⟩
        · rintro (h1 | ⟨h1, x, h2, h3, h4⟩)
          · exact Or.inl (Or.inl h1)
          · by_cases e1 : x = k
            · exact Or.inr ⟨h1, e1 ▸ h4⟩
            · exact Or.inl (Or.inr ⟨h1, x, by omega, h3, h4⟩)
      · rw [if_neg (fun z => e ((bit_test1 (by omega)).mp z)), bsome, i0]
        refine ⟨s, fun i => ?_, rfl⟩
        rw [hs i]
        constructor
        · rintro (h1 | ⟨h1, x, h2, h3, h4⟩)
          · exact Or.inl h1
          · exact Or.inr ⟨h1, x, by omega, h3, h4⟩
        · rintro (h1 | ⟨h1, x, h2, h3, h4⟩)
          · exact Or.inl h1
          · refine Or.inr ⟨h1, x, ?_, h3, h4⟩
            by_cases e1 : x = k
            · exact absurd ((hX _).mpr ⟨by omega, e1 ▸ h3⟩) e
            · omega)
    (s := s0) (fun i => ⟨fun z => Or.inl z, fun z => z.resolve_right (fun ⟨_, x, hx, _⟩ => absurd hx (by omega))⟩) (n := n) hn
  refine ⟨s, g4.trans ?_, fun i => (g i).trans (by rw [dby_iff])⟩
  try dsimp only
  rw [fX8_demands_b59, if_pos (show (4 : Int32) ≤ nI 4 by decide), nI_1]
theorem e_dpassM {P : Prog} {n : Nat} {v : mSt} {H X : Nat → Bool} {a : Int32} (k35 : Int32 → Int32 → (Nat → Int32) → (Nat → Nat → Int32) → Option (Int32 × mSt)) (hP : pOk P) (h : RepM P v) (hH : RepHM H v.2) (hX : DM X a) (hn : 5 < n) : ∃ m, fX8_demands_b47 n k35 n a a 0 v.1 v.2 = k35 m a v.1 v.2 ∧ DM (dst P H X) m := by
  have h5 := hP.2.1
  obtain ⟨s, g, g4⟩ := lp0 (fun j i (s : Int32) => fX8_demands_b47 n k35 j s a (nI i) v.1 v.2) P.2.1 (fun k s => ∀ i, (bit s i = true ↔ i < 16 ∧ (X i = true ∨ ∃ r, r < k ∧ dby P H X r i = true)))
    (by
      intro j k s hk hs
      try dsimp only
      obtain ⟨m, m1, m2⟩ := e_dinM (n := n) (a := a) (s0 := s) k35 (fX8_demands_b47 n k35 j) hP h hH hk hX (by omega)
      rw [fX8_demands_b47, h.2.1, if_neg (nI_ge hk (by omega)), m1]
      refine ⟨m, fun i => ?_, rfl⟩
      rw [m2, hs]
      constructor
      · rintro (⟨h1, h2 | ⟨r, h2, h3⟩⟩ | ⟨h1, h2⟩)
        · exact ⟨h1, Or.inl h2⟩
        · exact ⟨h1, Or.inr ⟨r, by omega, h3⟩⟩
        · exact ⟨h1, Or.inr ⟨k, by omega, h2⟩⟩
      · rintro ⟨h1, h2 | ⟨r, h2, h3⟩⟩
        · exact Or.inl ⟨h1, Or.inl h2⟩
        · by_cases e : r = k
          · exact Or.inr ⟨h1, e ▸ h3⟩
          · exact Or.inl ⟨h1, Or.inr ⟨r, by omega, h3⟩⟩)
    (s := a) (fun i => by
      rw [hX i]
      exact ⟨fun z => ⟨z.1, Or.inl z.2⟩, fun z => ⟨z.1, z.2.resolve_right (fun ⟨r, hr, _⟩ => absurd hr (by omega))⟩⟩) (n := n) (by omega)
  refine ⟨s, g4.trans ?_, fun i => (g i).trans (by rw [dst_iff])⟩
  try dsimp only
  rw [fX8_demands_b47, h.2.1, if_pos (nI_le (Nat.le_refl _) (by omega))]
theorem e_dloops {P : Prog} {w n : Nat} {u v : mSt} {H : Nat → Bool} (hP : pOk P) (hC : RepC P w u) (hM : RepM P v) (hH : RepH H w u.2) (hHM : RepHM H v.2) (hn : 5 < n) : ∀ (k : Nat) (X : Nat → Bool) (a was : Int32) (p j : Nat), DM X a → a ≠ was → 16 ≤ cntB X 16 + k → p + 1 ≤ cntB X 16 → k + 1 < j → ∃ m, fX6_demandsOf_b14 n w j a 1 (nI p) u.1 u.2 = some (m, u) ∧ fX8_demands_b35 n j a was v.1 v.2 = some (m, v) := by
  intro k
  induction k with
  | zero =>
    intro X a was p j hX hne hc hp hj
    have hc2 := cntB_le X 16
    obtain ⟨j, rfl⟩ : ∃ i, j = i + 2 := ⟨j - 2, by omega⟩
    obtain ⟨m, m1, m2⟩ := e_dpassC (n := n) (p := p) (fX6_demandsOf_b14 n w (j + 1)) hP hC hH hX hn
    obtain ⟨m', m1', m2'⟩ := e_dpassM (n := n) (fX8_demands_b35 n (j + 1)) hP hM hHM hX hn
    have hm : m = a := by
      refine bit_ext (fun i hi => Bool.eq_iff_iff.mpr ((m2 i).trans (Iff.trans ?_ (hX i).symm)))
      refine ⟨fun z => ⟨z.1, ?_⟩, fun z => ⟨z.1, dst_iff.mpr (Or.inl z.2)⟩⟩
      cases e : X i with
      | true => rfl
      | false =>
        have := cntB_lt (p := X) (q := fun k => X k || decide (k = i)) (fun k hk => by show (X k || decide (k = i)) = true; rw [hk]; rfl) (n := 16) z.1 e (by simp)
        have := cntB_le (fun k => X k || decide (k = i)) 16
        omega
    have hm' : m' = a := (m2'.eq m2).trans hm
    refine ⟨a, ?_, ?_⟩
    · rw [fX6_demandsOf_b14, if_neg (show ¬ (16 : Int32) < nI p from nI_nlt (b := p) (a := 16) (by omega) (by omega)), i1, m1, hm, if_pos rfl, fX6_demandsOf_b14, i0, ite_self]
    · rw [fX8_demands_b35, if_neg hne, m1', hm', fX8_demands_b35, if_pos rfl]
  | succ k ih =>
    intro X a was p j hX hne hc hp hj
    have hc2 := cntB_le X 16
    obtain ⟨j, rfl⟩ : ∃ i, j = i + 2 := ⟨j - 2, by omega⟩
    obtain ⟨m, m1, m2⟩ := e_dpassC (n := n) (p := p) (fX6_demandsOf_b14 n w (j + 1)) hP hC hH hX hn
    obtain ⟨m', m1', m2'⟩ := e_dpassM (n := n) (fX8_demands_b35 n (j + 1)) hP hM hHM hX hn
    have hmm : m' = m := m2'.eq m2
    rw [fX6_demandsOf_b14, if_neg (show ¬ (16 : Int32) < nI p from nI_nlt (b := p) (a := 16) (by omega) (by omega)), i1, m1, fX8_demands_b35, if_neg hne, m1', hmm]
    by_cases hm : m = a
    · refine ⟨m, ?_, ?_⟩
      · rw [if_pos hm, fX6_demandsOf_b14, i0, ite_self]
      · rw [fX8_demands_b35, if_pos hm]
    · rw [if_neg hm]
      have hex : ∃ i, i < 16 ∧ X i = false ∧ dst P H X i = true := by
        refine Classical.byContradiction (fun hno => hm (bit_ext (fun i hi => Bool.eq_iff_iff.mpr ((m2 i).trans (Iff.trans ?_ (hX i).symm)))))
        refine ⟨fun z => ⟨z.1, ?_⟩, fun z => ⟨z.1, dst_iff.mpr (Or.inl z.2)⟩⟩
        cases e : X i with
        | true => rfl
        | false => exact absurd ⟨i, z.1, e, z.2⟩ hno
      obtain ⟨i, h1, h2, h3⟩ := hex
      have hgr := cntB_lt (p := X) (q := dst P H X) (fun k hk => dst_iff.mpr (Or.inl hk)) (n := 16) h1 h2 h3
      exact ih (dst P H X) m a (p + 1) (j + 1) m2 hm (by omega) (by omega) (by omega)
theorem st_demands : St_demands (SimOf (PrOf KK)) := by
  intro a1 a2 u v h
  obtain ⟨P, hP, hC, hM, hk⟩ := h.2.2.2
  rcases d_rel a1 hP.1 hC.1 hM.1 with h0 | ⟨q, hq, rfl, h1⟩
  · refine ⟨0, (-1, u), 0, (-1, v), ?_, ?_, rfl, h⟩
    · unfold fX7_demands; rw [(h0 0 u.2 v.2).1, bsome]; exact i0
    · unfold fX8_demands; rw [(h0 0 u.2 v.2).2, bsome]; exact i0
  rcases d_thing a2 with h2 | ⟨x, hx, rfl, h2⟩
  · refine ⟨0, (-2, u), 0, (-2, v), ?_, ?_, rfl, h⟩
    · unfold fX7_demands; rw [(h1 0 u.2 v.2).1, bsome, i1, (h2 0).2, bsome, i0]
    · unfold fX8_demands; rw [(h1 0 u.2 v.2).2, bsome, i1, (h2 0).1, bsome, i0]
  obtain ⟨u', v', b1, b2, b3, b4, b5, b6, b7, b8⟩ := st_settle h hP hC hM hk (n := 100) (by decide)
  have hq4 : q < 4 := by have := hP.1; omega
  have hX : DM (fun i => decide (i = 4 * q + x)) (1 <<< (nI (4 * q + x) &&& 31)) := by
    intro i
    rw [bit_1shl (by omega)]
    constructor
    · intro z
      exact ⟨by have := of_decide_eq_true z; omega, z⟩
    · exact fun z => z.2
  have hcn : 1 ≤ cntB (fun i => decide (i = 4 * q + x)) 16 := by
    have := cntB_lt (p := fun _ => false) (q := fun i => decide (i = 4 * q + x)) (fun k hk => absurd hk (by decide)) (n := 16) (k := 4 * q + x) (by omega) rfl (by simp)
    omega
  obtain ⟨m, m1, m2⟩ := e_dloops (n := 100) (w := 0) hP b3 b4 b5.2.1.1 b6.1 (by decide) 16 _ _ 0 0 100 hX (by
    intro z
    have := (hX (4 * q + x)).mpr ⟨by omega, by simp⟩
    rw [z, bit_0] at this
    exact absurd this (by decide)) (by omega) (by omega) (by decide)
  refine ⟨100, (m, u'), 100, (m, v'), ?_, ?_, rfl, b8⟩
  · unfold fX7_demands
    rw [(h1 100 u.2 v.2).1, bsome, i1, (h2 100).2, bsome, i1]
    dsimp only
    rw [b1, bsome]
    unfold fX6_demandsOf
    rw [x4, nI_add]
    rw [show fX6_demandsOf_b14 100 0 100 (1 <<< (nI (4 * q + x) &&& 31)) 1 0 u'.1 u'.2 = some (m, u') from m1, bsome]
  · unfold fX8_demands
    rw [(h1 100 u.2 v.2).2, bsome, i1, (h2 100).1, bsome, i1]
    dsimp only
    rw [b2, bsome, x4, nI_add]
    exact m2
