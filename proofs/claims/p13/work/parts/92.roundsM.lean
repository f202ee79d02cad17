/-! the reference: which relation goes round -/
def RepG (P : Prog) (v : mSt) : Prop := v.1 5 = nI P.1 ∧ v.1 6 = nI P.2.1 ∧ (∀ k, k < 5 → ∀ r, r < P.2.1 → v.2 (7 + k) r = nI (P.2.2.1 k r)) ∧ ∀ r, r < P.2.1 → v.2 12 r = if P.2.2.1 2 r < 2 then (-9) else nI (P.2.2.1 5 r)
theorem RepM.g {P : Prog} {v : mSt} (h : RepM P v) : RepG P v := ⟨h.1, h.2.1, h.2.2.1, h.2.2.2.1⟩
theorem RepG.at {P : Prog} {v : mSt} (h : RepG P v) (k : Nat) (hk : k < 5) {r : Nat} (hr : r < P.2.1) (h5 : P.2.1 ≤ 5) : getA v.2 (7 + k) (nI r) = nI (P.2.2.1 k r) := by
  rw [getA_nI (by omega)]; exact h.2.2.1 k hk r hr
theorem RepG.o {P : Prog} {v : mSt} (h : RepG P v) {r : Nat} (hr : r < P.2.1) (h5 : P.2.1 ≤ 5) (e : ¬ P.2.2.1 2 r < 2) : getA v.2 12 (nI r) = nI (P.2.2.1 5 r) := by
  rw [getA_nI (by omega), h.2.2.2 r hr, if_neg e]
def LdR (P : Prog) (a : Int32) (r i : Nat) : Prop := ∃ p, p < 2 ∧ (((bit a (4 * p + P.2.2.1 4 r) = true ∨ (P.2.2.1 2 r = 2 ∧ bit a (4 * p + P.2.2.1 5 r) = true)) ∧ i = 4 * p + P.2.2.1 3 r) ∨ (P.2.2.1 2 r = 3 ∧ bit a (4 * p + P.2.2.1 5 r) = true ∧ i = 4 + P.2.2.1 3 r))
def Ld1 (P : Prog) (a : Int32) (r p i : Nat) : Prop := ((bit a (4 * p + P.2.2.1 4 r) = true ∨ (P.2.2.1 2 r = 2 ∧ bit a (4 * p + P.2.2.1 5 r) = true)) ∧ i = 4 * p + P.2.2.1 3 r) ∨ (P.2.2.1 2 r = 3 ∧ bit a (4 * p + P.2.2.1 5 r) = true ∧ i = 4 + P.2.2.1 3 r)
theorem e_isOf {n k : Nat} {a : Int32} (hk : k < 32) : fX8_isOf n a (nI k) = some (b01 (bit a k)) := by
  unfold fX8_isOf
  cases e : bit a k with
  | true => rw [if_pos ((bit_test1 hk).mpr e)]; rfl
  | false => rw [if_neg (fun z => by rw [bit_test1 hk, e] at z; exact absurd z (by decide))]; rfl
theorem e_ld {P : Prog} {n r p : Nat} {v : mSt} {a s t0 : Int32} (k4 : Int32 → Int32 → Int32 → (Nat → Int32) → (Nat → Nat → Int32) → Option (Int32 × mSt)) (k25 : Int32 → Int32 → Int32 → Int32 → Int32 → (Nat → Int32) → (Nat → Nat → Int32) → Option (Int32 × mSt)) (hP : pOk P) (h : RepG P v) (hr : r < P.2.1) (hp : p < 2) (ht : ∀ x, x < 4 → bit t0 x = bit a (4 * p + x)) : ∃ m, fX8_leads_b49 n k4 k25 a s (nI r) (1 <<< (nI (P.2.2.1 3 r) &&& 31)) (nI p) t0 v.1 v.2 = k25 a m (nI r) (1 <<< (nI (P.2.2.1 3 r) &&& 31)) (nI (p + 1)) v.1 v.2 ∧ ∀ i, (bit m i = true ↔ bit s i = true ∨ Ld1 P a r p i) := by
  have hk := hP.2.2.2.1 r hr
  have hP1 := hP.1
  have h5 := hP.2.1
  have hb : inb (nI r) 5 = true := inb_nI (by omega) (by decide)
  have c2 : getA v.2 9 (nI r) = nI (P.2.2.1 2 r) := h.at 2 (by decide) hr h5
  have c4 : getA v.2 11 (nI r) = nI (P.2.2.1 4 r) := h.at 4 (by decide) hr h5
  have c5 : ¬ P.2.2.1 2 r < 2 → getA v.2 12 (nI r) = nI (P.2.2.1 5 r) := fun e => h.o hr h5 e
  have hsh : ∀ k, k < 8 → ∀ i, (bit ((1 <<< (nI (P.2.2.1 3 r) &&& 31)) <<< (nI k &&& 31)) i = true ↔ i = k + P.2.2.1 3 r) := by
    intro k hk8 i
    rw [bit_shl (by omega), bit_1shl (by omega)]
    simp only [Bool.and_eq_true, decide_eq_true_eq, Bool.not_eq_true', decide_eq_false_iff_not]
    omega
  have h103 : ∀ s : Int32, ∃ m, fX8_leads_b103 n k4 k25 a s (nI r) (1 <<< (nI (P.2.2.1 3 r) &&& 31)) (nI p) t0 v.1 v.2 = k25 a m (nI r) (1 <<< (nI (P.2.2.1 3 r) &&& 31)) (nI (p + 1)) v.1 v.2 ∧ ∀ i, (bit m i = true ↔ bit s i = true ∨ (P.2.2.1 2 r = 3 ∧ bit a (4 * p + P.2.2.1 5 r) = true ∧ i = 4 + P.2.2.1 3 r)) := by
    intro s
    unfold fX8_leads_b103 fX8_leads_b134
    rw [gpos hb, gpos hb, c2, nI_1]
    by_cases e : P.2.2.1 2 r = 3
    · rw [if_pos (show nI (P.2.2.1 2 r) = (3 : Int32) by rw [e]; rfl), c5 (by omega), e_isOf (by omega), bsome, ht _ (by omega)]
      cases eb : bit a (4 * p + P.2.2.1 5 r) with
      | false =>
        rw [if_pos (show b01 false = 0 from rfl)]
        exact ⟨s, rfl, fun i => ⟨fun z => Or.inl z, fun z => z.resolve_right (fun q => absurd q.2.1 (by decide))⟩⟩
      | true =>
        rw [if_neg (show ¬ b01 true = 0 by decide)]
        refine ⟨_, rfl, fun i => ?_⟩
        rw [bit_or, Bool.or_eq_true, show (4 : Int32) = nI 4 from rfl, hsh 4 (by decide)]
        exact ⟨fun z => z.imp id (fun q => ⟨e, rfl, q⟩), fun z => z.imp id (fun q => q.2.2)⟩
    · rw [if_neg (show ¬ nI (P.2.2.1 2 r) = (3 : Int32) from nI_lit (b := 3) (by omega) (by decide) e)]
      exact ⟨s, rfl, fun i => ⟨fun z => Or.inl z, fun z => z.resolve_right (fun q => e q.1)⟩⟩
  have fin : ∀ (c : Prop) (s' : Int32), ((bit a (4 * p + P.2.2.1 4 r) = true ∨ (P.2.2.1 2 r = 2 ∧ bit a (4 * p + P.2.2.1 5 r) = true)) ↔ c) → (∀ i, (bit s' i = true ↔ bit s i = true ∨ (c ∧ i = 4 * p + P.2.2.1 3 r))) → ∃ m, fX8_leads_b103 n k4 k25 a s' (nI r) (1 <<< (nI (P.2.2.1 3 r) &&& 31)) (nI p) t0 v.1 v.2 = k25 a m (nI r) (1 <<< (nI (P.2.2.1 3 r) &&& 31)) (nI (p + 1)) v.1 v.2 ∧ ∀ i, (bit m i = true ↔ bit s i = true ∨ Ld1 P a r p i) := by
    intro c s' hc hs'
    obtain ⟨m, m1, m2⟩ := h103 s'
    refine ⟨m, m1, fun i => ?_⟩
    rw [m2, hs']
    unfold Ld1
    rw [hc, or_assoc]
  unfold fX8_leads_b49 fX8_leads_b95
  rw [gpos hb, gpos hb, gpos hb, c2, c4, e_isOf (by omega), bsome, ht _ (by omega), x4]
  cases e4 : bit a (4 * p + P.2.2.1 4 r) with
  | true =>
    rw [if_neg (show ¬ b01 true = 0 by decide)]
    refine fin True _ (iff_true_intro (Or.inl e4)) (fun i => ?_)
    rw [bit_or, Bool.or_eq_true, hsh _ (by omega)]
    exact ⟨fun z => z.imp id (fun q => ⟨trivial, q⟩), fun z => z.imp id (fun q => q.2)⟩
  | false =>
    rw [if_pos (show b01 false = 0 from rfl)]
    by_cases e : P.2.2.1 2 r = 2
    · rw [if_pos (show nI (P.2.2.1 2 r) = (2 : Int32) by rw [e]; rfl), c5 (by omega), e_isOf (by omega), bsome, ht _ (by omega)]
      cases e5 : bit a (4 * p + P.2.2.1 5 r) with
      | true =>
        rw [if_neg (show ¬ b01 true = 0 by decide)]
        refine fin True _ (iff_true_intro (Or.inr ⟨e, e5⟩)) (fun i => ?_)
        rw [bit_or, Bool.or_eq_true, hsh _ (by omega)]
        exact ⟨fun z => z.imp id (fun q => ⟨trivial, q⟩), fun z => z.imp id (fun q => q.2)⟩
      | false =>
        rw [if_pos (show b01 false = 0 from rfl)]
        refine fin False _ (iff_false_intro ?_) (fun i => ⟨fun z => Or.inl z, fun z => z.resolve_right (fun q => q.1)⟩)
        rintro (z | ⟨_, z⟩)
        · rw [e4] at z; exact absurd z (by decide)
        · rw [e5] at z; exact absurd z (by decide)
    · rw [if_neg (show ¬ nI (P.2.2.1 2 r) = (2 : Int32) from nI_lit (b := 2) (by omega) (by decide) e)]
      refine fin False _ (iff_false_intro ?_) (fun i => ⟨fun z => Or.inl z, fun z => z.resolve_right (fun q => q.1)⟩)
      rintro (z | ⟨z, _⟩)
      · rw [e4] at z; exact absurd z (by decide)
      · exact e z
theorem e_leadsM {P : Prog} {n : Nat} {v : mSt} {a : Int32} (hP : pOk P) (h : RepG P v) (hn : 5 < n) : ∃ m, fX8_leads n a v.1 v.2 = some (m, v) ∧ ∀ i, (bit m i = true ↔ bit a i = true ∨ ∃ r, r < P.2.1 ∧ LdR P a r i) := by
  have h5 := hP.2.1
  obtain ⟨s, g, g4⟩ := lp0 (fun j i (s : Int32) => fX8_leads_b4 n j a s (nI i) v.1 v.2) P.2.1 (fun k s => ∀ i, (bit s i = true ↔ bit a i = true ∨ ∃ r, r < k ∧ LdR P a r i))
    (by
      intro j k s hk hs
      try dsimp only
      have c3 : getA v.2 10 (nI k) = nI (P.2.2.1 3 k) := h.at 3 (by decide) hk h5
      rw [fX8_leads_b4, h.2.1, if_neg (nI_ge hk (by omega)), gpos (inb_nI (by omega) (by decide)), c3]
      obtain ⟨i, rfl⟩ : ∃ i, n = i + 3 := ⟨n - 3, by omega⟩
      obtain ⟨m1, e1, f1⟩ := e_ld (n := i + 3) (p := 0) (a := a) (s := s) (t0 := a &&& 15) (fX8_leads_b4 (i + 3) j) (fX8_leads_b25 (i + 3) (fX8_leads_b4 (i + 3) j) (i + 2)) hP h hk (by decide) (fun x hx => by
        rw [bit_and, bit_15, decide_eq_true hx, Bool.and_true, Nat.mul_zero, Nat.zero_add])
      obtain ⟨m2, e2, f2⟩ := e_ld (n := i + 3) (p := 1) (a := a) (s := m1) (t0 := (a >>> (4 &&& 31)) &&& 15) (fX8_leads_b4 (i + 3) j) (fX8_leads_b25 (i + 3) (fX8_leads_b4 (i + 3) j) (i + 1)) hP h hk (by decide) (fun x hx => by
        have := bit_row (a := a) (x := 1) (by decide) x
        rw [decide_eq_true hx, Bool.true_and] at this
        exact this)
      refine ⟨m2, fun t => ?_, ?_⟩
      · rw [f2, f1, hs]
        constructor
        · rintro ((((z | ⟨r, z1, z2⟩) | z) | z))
          · exact Or.inl z
          · exact Or.inr ⟨r, by omega, z2⟩
          · exact Or.inr ⟨k, by omega, 0, by decide, z⟩
          · exact Or.inr ⟨k, by omega, 1, by decide, z⟩
        · rintro (z | ⟨r, z1, z2⟩)
          · exact Or.inl (Or.inl (Or.inl z))
          · by_cases e : r = k
            · subst e
              obtain ⟨p, p1, p2⟩ := z2
              have : p = 0 ∨ p = 1 := by omega
              rcases this with rfl | rfl
              · exact Or.inl (Or.inr p2)
              · exact Or.inr p2
            · exact Or.inl (Or.inl (Or.inr ⟨r, by omega, z2⟩))
      · rw [fX8_leads_b25, if_neg (by decide), if_pos rfl]
        refine e1.trans ?_
        rw [fX8_leads_b25, if_neg (by decide), if_neg (by decide)]
        refine e2.trans ?_
        rw [fX8_leads_b25, if_pos (by decide), nI_1])
    (s := a) (fun i => ⟨fun z => Or.inl z, fun z => z.resolve_right (fun ⟨r, hr, _⟩ => absurd hr (by omega))⟩) (n := n) (by omega)
  refine ⟨s, ?_, g⟩
  unfold fX8_leads
  refine g4.trans ?_
  try dsimp only
  rw [fX8_leads_b4, h.2.1, if_pos (nI_le (Nat.le_refl _) (by omega))]
def SndM (P : Prog) (q : Nat) (a : Int32) : Prop := (∀ i, bit a i = true → i < 8) ∧ bit a q = true ∧ ∀ t, t < 4 → (bit a t = true → ∃ k, Pth P k 0 q t) ∧ (bit a (4 + t) = true → ∃ k w, 1 ≤ w ∧ Pth P k w q t)
def ClM (P : Prog) (a : Int32) : Prop := ∀ i r, r < P.2.1 → LdR P a r i → bit a i = true
theorem SndM.step {P : Prog} (hP : pOk P) {q : Nat} {a m : Int32} (h : SndM P q a) (hm : ∀ i, (bit m i = true ↔ bit a i = true ∨ ∃ r, r < P.2.1 ∧ LdR P a r i)) : SndM P q m := by
  have hP1 := hP.1
  have key : ∀ r, r < P.2.1 → ∀ i, LdR P a r i → i < 8 ∧ (i < 4 → ∃ k, Pth P k 0 q i) ∧ (4 ≤ i → ∃ k w, 1 ≤ w ∧ Pth P k w q (i - 4)) := by
    intro r hr i hl
    have hk := hP.2.2.2.1 r hr
    obtain ⟨p, hp, hl⟩ := hl
    have hp2 : p = 0 ∨ p = 1 := by omega
    rcases hl with ⟨hl, rfl⟩ | ⟨e3, hl, rfl⟩
    · have hx : ∃ x, x < 4 ∧ bit a (4 * p + x) = true ∧ Eg P 0 x (P.2.2.1 3 r) := by
        rcases hl with hl | ⟨e2, hl⟩
        · exact ⟨_, by omega, hl, r, hr, rfl, Or.inl ⟨rfl, Or.inl rfl⟩⟩
        · exact ⟨_, by omega, hl, r, hr, rfl, Or.inl ⟨rfl, Or.inr ⟨e2, rfl⟩⟩⟩
      obtain ⟨x, hx, h1, h2⟩ := hx
      rcases hp2 with rfl | rfl
      · refine ⟨by omega, fun _ => ?_, fun z => absurd z (by omega)⟩
        rw [Nat.mul_zero, Nat.zero_add] at h1 ⊢
        obtain ⟨k, g⟩ := (h.2.2 x hx).1 h1
        exact ⟨k + 1, x, 0, 0, rfl, g, h2⟩
      · refine ⟨by omega, fun z => absurd z (by omega), fun _ => ?_⟩
        rw [show 4 * 1 + P.2.2.1 3 r - 4 = P.2.2.1 3 r by omega]
        obtain ⟨k, w, g1, g⟩ := (h.2.2 x hx).2 h1
        exact ⟨k + 1, w, g1, x, w, 0, rfl, g, h2⟩
    · refine ⟨by omega, fun z => absurd z (by omega), fun _ => ?_⟩
      rw [show 4 + P.2.2.1 3 r - 4 = P.2.2.1 3 r by omega]
      have h2 : Eg P 1 (P.2.2.1 5 r) (P.2.2.1 3 r) := ⟨r, hr, rfl, Or.inr ⟨rfl, e3, rfl⟩⟩
      rcases hp2 with rfl | rfl
      · rw [Nat.mul_zero, Nat.zero_add] at hl
        obtain ⟨k, g⟩ := (h.2.2 _ (by omega)).1 hl
        exact ⟨k + 1, 1, Nat.le_refl _, _, 0, 1, rfl, g, h2⟩
      · obtain ⟨k, w, g1, g⟩ := (h.2.2 _ (by omega)).2 hl
        exact ⟨k + 1, w + 1, by omega, _, w, 1, rfl, g, h2⟩
  refine ⟨fun i hi => ?_, (hm q).mpr (Or.inl h.2.1), fun t ht => ⟨fun hb => ?_, fun hb => ?_⟩⟩
  · rcases (hm i).mp hi with z | ⟨r, hr, z⟩
    · exact h.1 i z
    · exact (key r hr i z).1
  · rcases (hm t).mp hb with z | ⟨r, hr, z⟩
    · exact (h.2.2 t ht).1 z
    · exact (key r hr t z).2.1 ht
  · rcases (hm (4 + t)).mp hb with z | ⟨r, hr, z⟩
    · exact (h.2.2 t ht).2 z
    · have := (key r hr (4 + t) z).2.2 (by omega)
      rw [show 4 + t - 4 = t by omega] at this
      exact this
theorem ClM.all {P : Prog} {q : Nat} {a : Int32} (hq : bit a q = true) (hc : ClM P a) : ∀ k w t, Pth P k w q t → (w = 0 → bit a t = true) ∧ (1 ≤ w → bit a (4 + t) = true) := by
  intro k
  induction k with
  | zero =>
    intro w t h
    obtain ⟨h1, h2⟩ := h
    subst h1; subst h2
    exact ⟨fun _ => hq, fun z => absurd z (by decide)⟩
  | succ k ih =>
    intro w t h
    obtain ⟨c, w1, w2, e, h1, r, hr, e3, h2⟩ := h
    have ih := ih w1 c h1
    subst e3
    rcases h2 with ⟨rfl, h2⟩ | ⟨rfl, h2, h3⟩
    · have hl : ∀ p, bit a (4 * p + c) = true → (bit a (4 * p + P.2.2.1 4 r) = true ∨ (P.2.2.1 2 r = 2 ∧ bit a (4 * p + P.2.2.1 5 r) = true)) := by
        intro p z
        rcases h2 with rfl | ⟨h2, rfl⟩
        · exact Or.inl z
        · exact Or.inr ⟨h2, z⟩
      refine ⟨fun z => ?_, fun z => ?_⟩
      · refine hc _ r hr ⟨0, by decide, Or.inl ⟨hl 0 ?_, by omega⟩⟩
        rw [Nat.mul_zero, Nat.zero_add]
        exact ih.1 (by omega)
      · exact hc _ r hr ⟨1, by decide, Or.inl ⟨hl 1 (ih.2 (by omega)), by omega⟩⟩
    · refine ⟨fun z => absurd z (by omega), fun _ => ?_⟩
      subst h3
      by_cases e0 : w1 = 0
      · refine hc _ r hr ⟨0, by decide, Or.inr ⟨h2, ?_, rfl⟩⟩
        rw [Nat.mul_zero, Nat.zero_add]
        exact ih.1 e0
      · exact hc _ r hr ⟨1, by decide, Or.inr ⟨h2, ih.2 (by omega), rfl⟩⟩
theorem e_gr16 {P : Prog} {n q : Nat} {v : mSt} (k2 : Int32 → (Nat → Int32) → (Nat → Nat → Int32) → Option (Int32 × mSt)) (hP : pOk P) (h : RepG P v) (hq : q < 4) (hn : 5 < n) : ∀ (k : Nat) (a was : Int32) (j : Nat), SndM P q a → (a = was → ClM P a) → 8 ≤ cntB (bit a) 8 + k → k + 1 < j → (bad P q → fX8_goesRoundBy_b16 n k2 j (nI q) a was v.1 v.2 = some (nI q, v)) ∧ (¬ bad P q → fX8_goesRoundBy_b16 n k2 j (nI q) a was v.1 v.2 = k2 (nI (q + 1)) v.1 v.2) := by
  have fin : ∀ (a was : Int32) (j : Nat), SndM P q a → a = was → ClM P a → (bad P q → fX8_goesRoundBy_b16 n k2 (j + 1) (nI q) a was v.1 v.2 = some (nI q, v)) ∧ (¬ bad P q → fX8_goesRoundBy_b16 n k2 (j + 1) (nI q) a was v.1 v.2 = k2 (nI (q + 1)) v.1 v.2) := by
    intro a was j hs e hc
    rw [fX8_goesRoundBy_b16, if_pos e, show (4 : Int32) + nI q = nI (4 + q) from nI_add 4 q, e_isOf (by omega), bsome, nI_1]
    constructor
    · rintro ⟨k, w, h1, h2⟩
      rw [(hc.all hs.2.1 k w q h2).2 h1, if_neg (show ¬ b01 true = 0 by decide)]
    · intro hb
      cases e : bit a (4 + q) with
      | false => rw [if_pos (show b01 false = 0 from rfl)]
      | true => exact absurd ((hs.2.2 q hq).2 e) hb
  intro k
  induction k with
  | zero =>
    intro a was j hs hcl hc hj
    obtain ⟨j, rfl⟩ : ∃ i, j = i + 2 := ⟨j - 2, by omega⟩
    by_cases e : a = was
    · exact fin a was (j + 1) hs e (hcl e)
    obtain ⟨m, m1, m2⟩ := e_leadsM (n := n) (a := a) hP h hn
    have hs' := hs.step hP m2
    have hma : m = a := by
      refine bit_ext (fun i hi => Bool.eq_iff_iff.mpr ⟨fun z => ?_, fun z => (m2 i).mpr (Or.inl z)⟩)
      cases eb : bit a i with
      | true => rfl
      | false =>
        have := cntB_lt (p := bit a) (q := bit m) (fun k hk => (m2 k).mpr (Or.inl hk)) (n := 8) (hs'.1 i z) eb z
        have := cntB_le (bit m) 8
        omega
    rw [fX8_goesRoundBy_b16, if_neg e, m1, bsome]
    exact fin m a j hs' hma (fun i r hr hl => (m2 i).mpr (Or.inr ⟨r, hr, hma ▸ hl⟩))
  | succ k ih =>
    intro a was j hs hcl hc hj
    obtain ⟨j, rfl⟩ : ∃ i, j = i + 2 := ⟨j - 2, by omega⟩
    by_cases e : a = was
    · exact fin a was (j + 1) hs e (hcl e)
    obtain ⟨m, m1, m2⟩ := e_leadsM (n := n) (a := a) hP h hn
    have hs' := hs.step hP m2
    rw [fX8_goesRoundBy_b16, if_neg e, m1, bsome]
    by_cases hma : m = a
    · exact fin m a j hs' hma (fun i r hr hl => (m2 i).mpr (Or.inr ⟨r, hr, hma ▸ hl⟩))
    · have hex : ∃ i, bit m i = true ∧ bit a i = false := by
        refine Classical.byContradiction (fun hno => hma (bit_ext (fun i hi => Bool.eq_iff_iff.mpr ⟨fun z => ?_, fun z => (m2 i).mpr (Or.inl z)⟩)))
        cases eb : bit a i with
        | true => rfl
        | false => exact absurd ⟨i, z, eb⟩ hno
      obtain ⟨i, i1', i2⟩ := hex
      have hgr := cntB_lt (p := bit a) (q := bit m) (fun k hk => (m2 k).mpr (Or.inl hk)) (n := 8) (hs'.1 i i1') i2 i1'
      exact ih m a (j + 1) hs' (fun z => absurd z hma) (by omega) (by omega)
/-- the least relation that goes round, or none -/
def GrB (P : Prog) (x : Int32) : Prop := (x = (-9) ∧ ∀ q, q < P.1 → ¬ bad P q) ∨ ∃ q, q < P.1 ∧ x = nI q ∧ bad P q ∧ ∀ q', q' < q → ¬ bad P q'
theorem e_goesRoundBy {P : Prog} {n : Nat} {v : mSt} (hP : pOk P) (h : RepG P v) (hn : 20 < n) : ∃ x, fX8_goesRoundBy n v.1 v.2 = some (x, v) ∧ GrB P x := by
  have hP1 := hP.1
  have key : ∀ d q j, q + d = P.1 → d < j → (∀ q', q' < q → ¬ bad P q') → ∃ x, fX8_goesRoundBy_b2 n j (nI q) v.1 v.2 = some (x, v) ∧ GrB P x := by
    intro d
    induction d with
    | zero =>
      intro q j hq hj hb
      obtain ⟨j, rfl⟩ : ∃ i, j = i + 1 := ⟨j - 1, by omega⟩
      refine ⟨-9, ?_, Or.inl ⟨rfl, fun q' hq' => hb q' (by omega)⟩⟩
      rw [fX8_goesRoundBy_b2, h.1, if_pos (nI_le (by omega) (by omega))]
    | succ d ih =>
      intro q j hq hj hb
      obtain ⟨j, rfl⟩ : ∃ i, j = i + 1 := ⟨j - 1, by omega⟩
      have hs : SndM P q (1 <<< (nI q &&& 31)) := by
        refine ⟨fun i hi => ?_, ?_, fun t ht => ⟨fun hi => ?_, fun hi => ?_⟩⟩
        · rw [bit_1shl (by omega), decide_eq_true_eq] at hi; omega
        · rw [bit_1shl (by omega), decide_eq_true_eq]
        · rw [bit_1shl (by omega), decide_eq_true_eq] at hi
          exact ⟨0, rfl, hi.symm⟩
        · rw [bit_1shl (by omega), decide_eq_true_eq] at hi; omega
      obtain ⟨g1, g2⟩ := e_gr16 (n := n) (q := q) (fX8_goesRoundBy_b2 n j) hP h (by omega) (by omega) 8 (1 <<< (nI q &&& 31)) 0 n hs (fun z => by
        have := hs.2.1
        rw [z, bit_0] at this
        exact absurd this (by decide)) (by omega) (by omega)
      rw [fX8_goesRoundBy_b2, h.1, if_neg (nI_ge (by omega) (by omega))]
      by_cases e : bad P q
      · exact ⟨nI q, g1 e, Or.inr ⟨q, by omega, rfl, e, hb⟩⟩
      · rw [g2 e]
        exact ih (q + 1) j (by omega) (by omega) (fun q' hq' => by
          by_cases z : q' = q
          · rw [z]; exact e
          · exact hb q' (by omega))
  unfold fX8_goesRoundBy
  exact key P.1 0 n (by omega) (by omega) (fun q' hq' => absurd hq' (by omega))
