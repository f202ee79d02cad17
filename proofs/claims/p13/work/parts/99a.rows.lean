/-! the reference keeps, takes and puts back rules -/
theorem getA_ne {R : Nat → Nat → Int32} {k k' : Nat} {i a x : Int32} (h : k' ≠ k) : getA (setA R k i x) k' a = getA R k' a := by unfold getA; rw [setA_ne h]
theorem ga20_7 {R : Nat → Nat → Int32} {i a x : Int32} : getA (setA R 20 i x) 7 a = getA R 7 a := getA_ne (by decide)
theorem ga7_20 {R : Nat → Nat → Int32} {i a x : Int32} : getA (setA R 7 i x) 20 a = getA R 20 a := getA_ne (by decide)
theorem ga7_18 {R : Nat → Nat → Int32} {i a x : Int32} : getA (setA R 7 i x) 18 a = getA R 18 a := getA_ne (by decide)
theorem ga20_8 {R : Nat → Nat → Int32} {i a x : Int32} : getA (setA R 20 i x) 8 a = getA R 8 a := getA_ne (by decide)
theorem ga8_20 {R : Nat → Nat → Int32} {i a x : Int32} : getA (setA R 8 i x) 20 a = getA R 20 a := getA_ne (by decide)
theorem ga8_18 {R : Nat → Nat → Int32} {i a x : Int32} : getA (setA R 8 i x) 18 a = getA R 18 a := getA_ne (by decide)
theorem ga20_9 {R : Nat → Nat → Int32} {i a x : Int32} : getA (setA R 20 i x) 9 a = getA R 9 a := getA_ne (by decide)
theorem ga9_20 {R : Nat → Nat → Int32} {i a x : Int32} : getA (setA R 9 i x) 20 a = getA R 20 a := getA_ne (by decide)
theorem ga9_18 {R : Nat → Nat → Int32} {i a x : Int32} : getA (setA R 9 i x) 18 a = getA R 18 a := getA_ne (by decide)
theorem ga20_10 {R : Nat → Nat → Int32} {i a x : Int32} : getA (setA R 20 i x) 10 a = getA R 10 a := getA_ne (by decide)
theorem ga10_20 {R : Nat → Nat → Int32} {i a x : Int32} : getA (setA R 10 i x) 20 a = getA R 20 a := getA_ne (by decide)
theorem ga10_18 {R : Nat → Nat → Int32} {i a x : Int32} : getA (setA R 10 i x) 18 a = getA R 18 a := getA_ne (by decide)
theorem ga20_11 {R : Nat → Nat → Int32} {i a x : Int32} : getA (setA R 20 i x) 11 a = getA R 11 a := getA_ne (by decide)
theorem ga11_20 {R : Nat → Nat → Int32} {i a x : Int32} : getA (setA R 11 i x) 20 a = getA R 20 a := getA_ne (by decide)
theorem ga11_18 {R : Nat → Nat → Int32} {i a x : Int32} : getA (setA R 11 i x) 18 a = getA R 18 a := getA_ne (by decide)
theorem ga20_12 {R : Nat → Nat → Int32} {i a x : Int32} : getA (setA R 20 i x) 12 a = getA R 12 a := getA_ne (by decide)
theorem ga12_20 {R : Nat → Nat → Int32} {i a x : Int32} : getA (setA R 12 i x) 20 a = getA R 20 a := getA_ne (by decide)
theorem ga12_18 {R : Nat → Nat → Int32} {i a x : Int32} : getA (setA R 12 i x) 18 a = getA R 18 a := getA_ne (by decide)
theorem g5' {i : Nat} (h : i < 5) : ¬ (5 : Int32) ≤ nI i := nI_ge (b := 5) h (by decide)
theorem e_keep {g : Nat} {J : Nat → Int32} {S : Nat → Nat → Int32} (hg : 5 < g) : ∃ S', fX8_keepRules g J S = some (J, S') ∧ (∀ r, r < 5 → ∀ k, k < 6 → S' 20 (6 * r + k) = S (7 + k) r) ∧ ∀ k, k ≠ 20 → S' k = S k := by
  obtain ⟨S', ⟨g1, g2⟩, g4⟩ := lp0 (fun j i (S' : Nat → Nat → Int32) => fX8_keepRules_b2 g j (nI i) J S') 5 (fun i S' => (∀ r, r < i → ∀ k, k < 6 → S' 20 (6 * r + k) = S (7 + k) r) ∧ ∀ k, k ≠ 20 → S' k = S k)
    (by
      intro j i S' hi ⟨g1, g2⟩
      try dsimp only
      have e0 : (6 : Int32) * nI i = nI (6 * i) := pk_mul 6 i
      have e1 : nI (6 * i) + 1 = nI (6 * i + 1) := nI_add _ 1
      have e2 : nI (6 * i) + 2 = nI (6 * i + 2) := nI_add _ 2
      have e3 : nI (6 * i) + 3 = nI (6 * i + 3) := nI_add _ 3
      have e4 : nI (6 * i) + 4 = nI (6 * i + 4) := nI_add _ 4
      have e5 : nI (6 * i) + 5 = nI (6 * i + 5) := nI_add _ 5
      have ei : nI i + 1 = nI (i + 1) := nI_1 i
      have hb : inb (nI i) 5 = true := inb_nI (by omega) (by decide)
      have b0 : inb (nI (6 * i)) 30 = true := inb_nI (by omega) (by decide)
      have b1 : inb (nI (6 * i + 1)) 30 = true := inb_nI (by omega) (by decide)
      have b2 : inb (nI (6 * i + 2)) 30 = true := inb_nI (by omega) (by decide)
      have b3 : inb (nI (6 * i + 3)) 30 = true := inb_nI (by omega) (by decide)
      have b4 : inb (nI (6 * i + 4)) 30 = true := inb_nI (by omega) (by decide)
      have b5 : inb (nI (6 * i + 5)) 30 = true := inb_nI (by omega) (by decide)
      rw [fX8_keepRules_b2, if_neg (g5' hi), e0, e1, e2, e3, e4, e5, ei]
      rw [gpos hb, gpos b0, gpos hb, gpos b1, gpos hb, gpos b2, gpos hb, gpos b3, gpos hb, gpos b4, gpos hb, gpos b5]
      simp only [ga20_7, ga20_8, ga20_9, ga20_10, ga20_11, ga20_12]
      refine ⟨_, ⟨fun r hr k hk => ?_, fun k hk => ?_⟩, rfl⟩
      · rw [setA_v (by omega), setA_v (by omega), setA_v (by omega), setA_v (by omega), setA_v (by omega), setA_v (by omega)]
        by_cases e : r = i
        · subst e
          have hk6 : k = 0 ∨ k = 1 ∨ k = 2 ∨ k = 3 ∨ k = 4 ∨ k = 5 := by omega
          rcases hk6 with rfl | rfl | rfl | rfl | rfl | rfl
          · rw [if_neg (by omega), if_neg (by omega), if_neg (by omega), if_neg (by omega), if_neg (by omega), if_pos (by omega), getA_nI (by omega), g2 7 (by decide)]
          · rw [if_neg (by omega), if_neg (by omega), if_neg (by omega), if_neg (by omega), if_pos (by omega), getA_nI (by omega), g2 8 (by decide)]
          · rw [if_neg (by omega), if_neg (by omega), if_neg (by omega), if_pos (by omega), getA_nI (by omega), g2 9 (by decide)]
          · rw [if_neg (by omega), if_neg (by omega), if_pos (by omega), getA_nI (by omega), g2 10 (by decide)]
          · rw [if_neg (by omega), if_pos (by omega), getA_nI (by omega), g2 11 (by decide)]
          · rw [if_pos (by omega), getA_nI (by omega), g2 12 (by decide)]
        · rw [if_neg (by omega), if_neg (by omega), if_neg (by omega), if_neg (by omega), if_neg (by omega), if_neg (by omega)]
          exact g1 r (by omega) k hk
      · rw [setA_ne hk, setA_ne hk, setA_ne hk, setA_ne hk, setA_ne hk, setA_ne hk]
        exact g2 k hk)
    (s := S) ⟨fun r hr => absurd hr (by omega), fun _ _ => rfl⟩ (n := g) hg
  refine ⟨S', ?_, g1, g2⟩
  unfold fX8_keepRules
  refine g4.trans ?_
  try dsimp only
  rw [fX8_keepRules_b2, if_pos (show (5 : Int32) ≤ nI 5 by decide)]
theorem e_putBack {g : Nat} {J : Nat → Int32} {S : Nat → Nat → Int32} (hg : 5 < g) : ∃ S', fX8_putRulesBack g J S = some (J, S') ∧ (∀ r, r < 5 → ∀ k, k < 6 → S' (7 + k) r = S 20 (6 * r + k)) ∧ ∀ k, (k < 7 ∨ 12 < k) → S' k = S k := by
  obtain ⟨S', ⟨g1, g2⟩, g4⟩ := lp0 (fun j i (S' : Nat → Nat → Int32) => fX8_putRulesBack_b2 g j (nI i) J S') 5 (fun i S' => (∀ r, r < i → ∀ k, k < 6 → S' (7 + k) r = S 20 (6 * r + k)) ∧ ∀ k, (k < 7 ∨ 12 < k) → S' k = S k)
    (by
      intro j i S' hi ⟨g1, g2⟩
      try dsimp only
      have e0 : (6 : Int32) * nI i = nI (6 * i) := pk_mul 6 i
      have e1 : nI (6 * i) + 1 = nI (6 * i + 1) := nI_add _ 1
      have e2 : nI (6 * i) + 2 = nI (6 * i + 2) := nI_add _ 2
      have e3 : nI (6 * i) + 3 = nI (6 * i + 3) := nI_add _ 3
      have e4 : nI (6 * i) + 4 = nI (6 * i + 4) := nI_add _ 4
      have e5 : nI (6 * i) + 5 = nI (6 * i + 5) := nI_add _ 5
      have ei : nI i + 1 = nI (i + 1) := nI_1 i
      have hb : inb (nI i) 5 = true := inb_nI (by omega) (by decide)
      have b0 : inb (nI (6 * i)) 30 = true := inb_nI (by omega) (by decide)
      have b1 : inb (nI (6 * i + 1)) 30 = true := inb_nI (by omega) (by decide)
      have b2 : inb (nI (6 * i + 2)) 30 = true := inb_nI (by omega) (by decide)
      have b3 : inb (nI (6 * i + 3)) 30 = true := inb_nI (by omega) (by decide)
      have b4 : inb (nI (6 * i + 4)) 30 = true := inb_nI (by omega) (by decide)
      have b5 : inb (nI (6 * i + 5)) 30 = true := inb_nI (by omega) (by decide)
      rw [fX8_putRulesBack_b2, if_neg (g5' hi), e0, e1, e2, e3, e4, e5, ei]
      rw [gpos b0, gpos hb, gpos b1, gpos hb, gpos b2, gpos hb, gpos b3, gpos hb, gpos b4, gpos hb, gpos b5, gpos hb]
      simp only [ga7_20, ga8_20, ga9_20, ga10_20, ga11_20, ga12_20]
      refine ⟨_, ⟨fun r hr k hk => ?_, fun k hk => ?_⟩, rfl⟩
      · rw [setA_v (by omega), setA_v (by omega), setA_v (by omega), setA_v (by omega), setA_v (by omega), setA_v (by omega)]
        by_cases e : r = i
        · subst e
          have hk6 : k = 0 ∨ k = 1 ∨ k = 2 ∨ k = 3 ∨ k = 4 ∨ k = 5 := by omega
          rcases hk6 with rfl | rfl | rfl | rfl | rfl | rfl
          · rw [if_neg (by omega), if_neg (by omega), if_neg (by omega), if_neg (by omega), if_neg (by omega), if_pos (by omega), getA_nI (by omega), g2 20 (by decide)]; rfl
          · rw [if_neg (by omega), if_neg (by omega), if_neg (by omega), if_neg (by omega), if_pos (by omega), getA_nI (by omega), g2 20 (by decide)]
          · rw [if_neg (by omega), if_neg (by omega), if_neg (by omega), if_pos (by omega), getA_nI (by omega), g2 20 (by decide)]
          · rw [if_neg (by omega), if_neg (by omega), if_pos (by omega), getA_nI (by omega), g2 20 (by decide)]
          · rw [if_neg (by omega), if_pos (by omega), getA_nI (by omega), g2 20 (by decide)]
          · rw [if_pos (by omega), getA_nI (by omega), g2 20 (by decide)]
        · rw [if_neg (by omega), if_neg (by omega), if_neg (by omega), if_neg (by omega), if_neg (by omega), if_neg (by omega)]
          exact g1 r (by omega) k hk
      · rw [setA_ne (by omega), setA_ne (by omega), setA_ne (by omega), setA_ne (by omega), setA_ne (by omega), setA_ne (by omega)]
        exact g2 k hk)
    (s := S) ⟨fun r hr => absurd hr (by omega), fun _ _ => rfl⟩ (n := g) hg
  refine ⟨S', ?_, g1, g2⟩
  unfold fX8_putRulesBack
  refine g4.trans ?_
  try dsimp only
  rw [fX8_putRulesBack_b2, if_pos (show (5 : Int32) ≤ nI 5 by decide)]
theorem e_takeM {g m : Nat} {J : Nat → Int32} {S : Nat → Nat → Int32} (hm : m ≤ 5) (hJ : J 16 = nI m) (hg : 5 < g) : ∃ S', fX8_takeRules g J S = some (upd (upd J 5 (J 15)) 6 (nI m), S') ∧ (∀ r, r < m → ∀ k, k < 6 → S' (7 + k) r = S 18 (6 * r + k)) ∧ ∀ k, (k < 7 ∨ 12 < k) → S' k = S k := by
  have hJ6 : upd (upd J 5 (J 15)) 6 ((upd J 5 (J 15)) 16) = upd (upd J 5 (J 15)) 6 (nI m) := by rw [upd_no (show (16 : Nat) ≠ 5 by decide), hJ]
  obtain ⟨S', ⟨g1, g2⟩, g4⟩ := lp0 (fun j i (S' : Nat → Nat → Int32) => fX8_takeRules_b18 g j (nI i) (upd (upd J 5 (J 15)) 6 (nI m)) S') m (fun i S' => (∀ r, r < i → ∀ k, k < 6 → S' (7 + k) r = S 18 (6 * r + k)) ∧ ∀ k, (k < 7 ∨ 12 < k) → S' k = S k)
    (by
      intro j i S' hi ⟨g1, g2⟩
      try dsimp only
      have e0 : (6 : Int32) * nI i = nI (6 * i) := pk_mul 6 i
      have e1 : nI (6 * i) + 1 = nI (6 * i + 1) := nI_add _ 1
      have e2 : nI (6 * i) + 2 = nI (6 * i + 2) := nI_add _ 2
      have e3 : nI (6 * i) + 3 = nI (6 * i + 3) := nI_add _ 3
      have e4 : nI (6 * i) + 4 = nI (6 * i + 4) := nI_add _ 4
      have e5 : nI (6 * i) + 5 = nI (6 * i + 5) := nI_add _ 5
      have ei : nI i + 1 = nI (i + 1) := nI_1 i
      have hb : inb (nI i) 5 = true := inb_nI (by omega) (by decide)
      have b0 : inb (nI (6 * i)) 30 = true := inb_nI (by omega) (by decide)
      have b1 : inb (nI (6 * i + 1)) 30 = true := inb_nI (by omega) (by decide)
      have b2 : inb (nI (6 * i + 2)) 30 = true := inb_nI (by omega) (by decide)
      have b3 : inb (nI (6 * i + 3)) 30 = true := inb_nI (by omega) (by decide)
      have b4 : inb (nI (6 * i + 4)) 30 = true := inb_nI (by omega) (by decide)
      have b5 : inb (nI (6 * i + 5)) 30 = true := inb_nI (by omega) (by decide)
      rw [fX8_takeRules_b18, if_neg (by rw [upd_at]; exact nI_ge hi (by omega)), e0, e1, e2, e3, e4, e5, ei]
      rw [gpos b0, gpos hb, gpos b1, gpos hb, gpos b2, gpos hb, gpos b3, gpos hb, gpos b4, gpos hb, gpos b5, gpos hb]
      simp only [ga7_18, ga8_18, ga9_18, ga10_18, ga11_18, ga12_18]
      refine ⟨_, ⟨fun r hr k hk => ?_, fun k hk => ?_⟩, rfl⟩
      · rw [setA_v (by omega), setA_v (by omega), setA_v (by omega), setA_v (by omega), setA_v (by omega), setA_v (by omega)]
        by_cases e : r = i
        · subst e
          have hk6 : k = 0 ∨ k = 1 ∨ k = 2 ∨ k = 3 ∨ k = 4 ∨ k = 5 := by omega
          rcases hk6 with rfl | rfl | rfl | rfl | rfl | rfl
          · rw [if_neg (by omega), if_neg (by omega), if_neg (by omega), if_neg (by omega), if_neg (by omega), if_pos (by omega), getA_nI (by omega), g2 18 (by decide)]; rfl
          · rw [if_neg (by omega), if_neg (by omega), if_neg (by omega), if_neg (by omega), if_pos (by omega), getA_nI (by omega), g2 18 (by decide)]
          · rw [if_neg (by omega), if_neg (by omega), if_neg (by omega), if_pos (by omega), getA_nI (by omega), g2 18 (by decide)]
          · rw [if_neg (by omega), if_neg (by omega), if_pos (by omega), getA_nI (by omega), g2 18 (by decide)]
          · rw [if_neg (by omega), if_pos (by omega), getA_nI (by omega), g2 18 (by decide)]
          · rw [if_pos (by omega), getA_nI (by omega), g2 18 (by decide)]
        · rw [if_neg (by omega), if_neg (by omega), if_neg (by omega), if_neg (by omega), if_neg (by omega), if_neg (by omega)]
          exact g1 r (by omega) k hk
      · rw [setA_ne (by omega), setA_ne (by omega), setA_ne (by omega), setA_ne (by omega), setA_ne (by omega), setA_ne (by omega)]
        exact g2 k hk)
    (s := S) ⟨fun r hr => absurd hr (by omega), fun _ _ => rfl⟩ (n := g) (by omega)
  refine ⟨S', ?_, g1, g2⟩
  unfold fX8_takeRules
  rw [hJ6]
  refine g4.trans ?_
  try dsimp only
  rw [fX8_takeRules_b18, if_pos (by rw [upd_at]; exact nI_le (Nat.le_refl _) (by omega))]
theorem e_tellAll {P : Prog} {g m : Nat} {J : Nat → Int32} {S : Nat → Nat → Int32} (hP1 : P.1 ≤ 4) (hM : RdM P m (J, S)) (J' : Nat → Int32) (S1 : Nat → Nat → Int32) (hJ' : J' 17 = nI m) (hS1 : S1 19 = S 19) (hg : 64 < g) : ∃ S', fX8_program_b143 g g 0 J' S1 = some (upd J' 31 0 6, upd J' 31 0, S') ∧ (∀ f, f < 64 → S' 13 f = if P.2.2.2 f = true then 1 else 0) ∧ ∀ k, k ≠ 13 → S' k = S1 k := by
  have hm := hM.2.2.2.1
  obtain ⟨S2, ⟨a1, a2⟩, a4⟩ := lp0 (fun j i (S' : Nat → Nat → Int32) => fX8_program_b143 g j (nI i) J' S') 64 (fun i S' => (∀ f, f < i → S' 13 f = 0) ∧ ∀ k, k ≠ 13 → S' k = S1 k)
    (by
      intro j i S' hi ⟨g1, g2⟩
      try dsimp only
      rw [fX8_program_b143, if_neg (g64 hi), gpos (inb_nI hi (by decide)), nI_1]
      refine ⟨_, ⟨fun f hf => ?_, fun k hk => (setA_ne hk).trans (g2 k hk)⟩, rfl⟩
      rw [setA_at (by omega)]
      by_cases e : f = i
      · rw [if_pos e]
      · rw [if_neg e]; exact g1 f (by omega))
    (s := S1) ⟨fun f hf => absurd hf (by omega), fun _ _ => rfl⟩ (n := g) hg
  obtain ⟨S3, ⟨b1, b2⟩, b4⟩ := lp0 (fun j i (S' : Nat → Nat → Int32) => fX8_program_b167 g j (nI i) J' S') m (fun i S' => (∀ f, f < 64 → ((S' 13 f = 1 ∧ ∃ t, t < i ∧ S 19 t = nI f) ∨ (S' 13 f = 0 ∧ ¬ ∃ t, t < i ∧ S 19 t = nI f))) ∧ ∀ k, k ≠ 13 → S' k = S1 k)
    (by
      intro j i S' hi ⟨g1, g2⟩
      try dsimp only
      obtain ⟨f0, hf0, e0⟩ := hM.2.2.2.2.2.2.1 i hi
      have e0 : S 19 i = nI f0 := e0
      rw [fX8_program_b167, if_neg (by rw [hJ']; exact nI_ge hi (by omega)), gpos (inb_nI (by omega) (by decide)), getA_nI (by omega), g2 19 (by decide), hS1, e0, gpos (inb_nI (by omega) (by decide)), nI_1]
      refine ⟨_, ⟨fun f hf => ?_, fun k hk => (setA_ne hk).trans (g2 k hk)⟩, rfl⟩
      rw [setA_at (by omega)]
      by_cases e : f = f0
      · rw [if_pos e]
        exact Or.inl ⟨rfl, i, by omega, by rw [e]; exact e0⟩
      · rw [if_neg e]
        rcases g1 f hf with ⟨z1, t, z2, z3⟩ | ⟨z1, z2⟩
        · exact Or.inl ⟨z1, t, by omega, z3⟩
        · refine Or.inr ⟨z1, ?_⟩
          rintro ⟨t, t1, t2⟩
          by_cases et : t = i
          · rw [et, e0] at t2
            exact e ((nI_eq (by omega) (by omega)).mp t2).symm
          · exact z2 ⟨t, by omega, t2⟩)
    (s := S2) ⟨fun f hf => Or.inr ⟨a1 f hf, fun ⟨t, z, _⟩ => absurd z (by omega)⟩, a2⟩ (n := g) (by omega)
  refine ⟨S3, ?_, fun f hf => ?_, b2⟩
  · refine a4.trans ?_
    try dsimp only
    rw [fX8_program_b143, if_pos (show (64 : Int32) ≤ nI 64 by decide)]
    refine b4.trans ?_
    try dsimp only
    rw [fX8_program_b167, if_pos (by rw [hJ']; exact nI_le (Nat.le_refl _) (by omega))]
  · rcases b1 f hf with ⟨z1, z2⟩ | ⟨z1, z2⟩
    · rw [z1, if_pos ((hM.2.2.2.2.2.2.2 f hf).mpr z2)]
    · rw [z1, if_neg (fun z => z2 ((hM.2.2.2.2.2.2.2 f hf).mp z))]
