/-! the class: which relation goes round -/
def Rch (P : Prog) (q t : Nat) : Prop := ∃ k w, Pth P k w q t
theorem Rch.refl {P : Prog} (q : Nat) : Rch P q q := ⟨0, 0, rfl, rfl⟩
theorem Rch.step {P : Prog} {q c b w : Nat} (h : Rch P q c) (e : Eg P w c b) : Rch P q b := by
  obtain ⟨k, w', h⟩ := h
  exact ⟨k + 1, w' + w, c, w', w, rfl, h, e⟩
theorem bad_iff {P : Prog} {q : Nat} : bad P q ↔ ∃ r, r < P.2.1 ∧ P.2.2.1 2 r = 3 ∧ Rch P q (P.2.2.1 5 r) ∧ Rch P (P.2.2.1 3 r) q := by
  have key : ∀ k w a b, Pth P k w a b → 1 ≤ w → ∃ r, r < P.2.1 ∧ P.2.2.1 2 r = 3 ∧ Rch P a (P.2.2.1 5 r) ∧ Rch P (P.2.2.1 3 r) b := by
    intro k
    induction k with
    | zero =>
      intro w a b h hw
      have := h.1
      omega
    | succ k ih =>
      intro w a b h hw
      obtain ⟨c, w1, w2, e, h1, h2⟩ := h
      by_cases e1 : 1 ≤ w1
      · obtain ⟨r, r1, r2, r3, r4⟩ := ih w1 a c h1 e1
        exact ⟨r, r1, r2, r3, r4.step h2⟩
      · obtain ⟨r, r1, r2, r3⟩ := h2
        rcases r3 with ⟨z, _⟩ | ⟨_, r3, r4⟩
        · omega
        · exact ⟨r, r1, r3, r4 ▸ ⟨k, w1, h1⟩, r2 ▸ Rch.refl _⟩
  constructor
  · rintro ⟨k, w, h1, h2⟩
    exact key k w q q h2 h1
  · rintro ⟨r, r1, r2, ⟨k, w, h1⟩, k', w', h2⟩
    have h3 : Pth P (k + 1) (w + 1) q (P.2.2.1 3 r) := ⟨_, w, 1, rfl, h1, r, r1, rfl, Or.inr ⟨rfl, r2, rfl⟩⟩
    obtain ⟨k'', g⟩ := h3.app h2
    exact ⟨k'', w + 1 + w', by omega, g⟩
def Trg (P : Prog) (a : Int32) (r : Nat) : Prop := bit a (P.2.2.1 4 r) = true ∨ (2 ≤ P.2.2.1 2 r ∧ bit a (P.2.2.1 5 r) = true)
theorem Trg.eg {P : Prog} (hP : pOk P) {a : Int32} {r : Nat} (hr : r < P.2.1) (h : Trg P a r) : ∃ c w, bit a c = true ∧ Eg P w c (P.2.2.1 3 r) := by
  have hk := hP.2.2.2.1 r hr
  rcases h with h | ⟨h1, h2⟩
  · exact ⟨_, 0, h, r, hr, rfl, Or.inl ⟨rfl, Or.inl rfl⟩⟩
  · by_cases e : P.2.2.1 2 r = 2
    · exact ⟨_, 0, h2, r, hr, rfl, Or.inl ⟨rfl, Or.inr ⟨e, rfl⟩⟩⟩
    · exact ⟨_, 1, h2, r, hr, rfl, Or.inr ⟨rfl, by omega, rfl⟩⟩
theorem e_leadsC {w n q t : Nat} {I : Nat → Int32} {R : Nat → Nat → Int32} (hq : q < 4) (ht : t < 4) : fX1_leads n w (nI q) (nI t) I R = some (b01 (bit (R (133 + 100 * w) q) t), I, R) := by
  unfold fX1_leads
  rw [gpos (inb_nI hq (by decide)), getA_nI (by omega)]
  cases e : bit (R (133 + 100 * w) q) t with
  | false => rw [if_pos ((bit_test (by omega)).mpr e)]; rfl
  | true => rw [if_neg (fun z => by rw [bit_test (by omega), e] at z; exact absurd z (by decide))]; rfl
-- one rule's part of a pass over a relation
set_option maxHeartbeats 8000000 in
theorem e_fr1 {P : Prog} {w n q r j : Nat} {I : Nat → Int32} {R : Nat → Nat → Int32} {a1 : Int32} (k24 : Int32 → (Nat → Int32) → (Nat → Nat → Int32) → Option mSt) (k31 : Int32 → Int32 → (Nat → Int32) → (Nat → Nat → Int32) → Option mSt) (hP : pOk P) (h : RepC P w (I, R)) (hr : r < P.2.1) (hq : q < 4) : ∃ m, fX1_findReach_b44 n w k24 k31 (j + 1) a1 (nI q) (nI r) I R = fX1_findReach_b44 n w k24 k31 j a1 (nI q) (nI (r + 1)) I (setA R (133 + 100 * w) (nI q) m) ∧ ∀ i, (bit m i = true ↔ bit (R (133 + 100 * w) q) i = true ∨ (Trg P (R (133 + 100 * w) q) r ∧ i = P.2.2.1 3 r)) := by
  have hk := hP.2.2.2.1 r hr
  have hP1 := hP.1
  have h5 := hP.2.1
  have hb : inb (nI r) 5 = true := inb_nI (by omega) (by decide)
  have hb4 : inb (nI q) 4 = true := inb_nI hq (by decide)
  have c3 : getA R (114 + 100 * w) (nI r) = nI (P.2.2.1 3 r) := h.at 3 (by decide) hr h5
  have c4 : getA R (115 + 100 * w) (nI r) = nI (P.2.2.1 4 r) := h.at 4 (by decide) hr h5
  have c5 : getA R (116 + 100 * w) (nI r) = nI (P.2.2.1 5 r) := h.at 5 (by decide) hr h5
  have hself : setA R (133 + 100 * w) (nI q) (R (133 + 100 * w) q) = R := by
    funext k t
    rw [setA_v (by omega)]
    split
    · rename_i z; rw [z.1, z.2]
    · rfl
  have hset : ∀ (c : Prop), (Trg P (R (133 + 100 * w) q) r ↔ c) → c → ∃ m, fX1_findReach_b112 n w k24 k31 (fX1_findReach_b44 n w k24 k31 j) a1 (nI q) (nI r) I R = fX1_findReach_b44 n w k24 k31 j a1 (nI q) (nI (r + 1)) I (setA R (133 + 100 * w) (nI q) m) ∧ ∀ i, (bit m i = true ↔ bit (R (133 + 100 * w) q) i = true ∨ (Trg P (R (133 + 100 * w) q) r ∧ i = P.2.2.1 3 r)) := by
    intro c hc hT
    unfold fX1_findReach_b112 fX1_findReach_b132
    rw [gpos hb4, gpos hb, gpos hb4, c3, getA_nI (by omega), nI_1]
    refine ⟨_, rfl, fun i => ?_⟩
    rw [bit_or, Bool.or_eq_true, bit_1shl (by omega), decide_eq_true_eq]
    exact ⟨fun z => z.imp id (fun e => ⟨hc.mpr hT, e⟩), fun z => z.imp id (fun e => e.2)⟩
  have hno : ¬ Trg P (R (133 + 100 * w) q) r → ∃ m, fX1_findReach_b132 n w k24 k31 (fX1_findReach_b44 n w k24 k31 j) a1 (nI q) (nI r) I R = fX1_findReach_b44 n w k24 k31 j a1 (nI q) (nI (r + 1)) I (setA R (133 + 100 * w) (nI q) m) ∧ ∀ i, (bit m i = true ↔ bit (R (133 + 100 * w) q) i = true ∨ (Trg P (R (133 + 100 * w) q) r ∧ i = P.2.2.1 3 r)) := by
    intro hT
    refine ⟨R (133 + 100 * w) q, ?_, fun i => ⟨fun z => Or.inl z, fun z => z.resolve_right (fun e => hT e.1)⟩⟩
    unfold fX1_findReach_b132
    rw [hself, nI_1]
  have hbody : ¬ (2 ≤ P.2.2.1 2 r ∧ bit (R (133 + 100 * w) q) (P.2.2.1 5 r) = true) → ∃ m, fX1_findReach_b87 n w k24 k31 (fX1_findReach_b44 n w k24 k31 j) a1 (nI q) (nI r) I R = fX1_findReach_b44 n w k24 k31 j a1 (nI q) (nI (r + 1)) I (setA R (133 + 100 * w) (nI q) m) ∧ ∀ i, (bit m i = true ↔ bit (R (133 + 100 * w) q) i = true ∨ (Trg P (R (133 + 100 * w) q) r ∧ i = P.2.2.1 3 r)) := by
    intro ho
    unfold fX1_findReach_b87 fX1_findReach_b88
    rw [if_pos rfl, gpos hb, c4, e_leadsC hq (by omega), bsome]
    dsimp only
    cases e : bit (R (133 + 100 * w) q) (P.2.2.1 4 r) with
    | false =>
      rw [if_pos (show b01 false = 0 from rfl)]
      refine hno ?_
      rintro (z | z)
      · rw [e] at z; exact absurd z (by decide)
      · exact ho z
    | true =>
      rw [if_neg (show ¬ b01 true = 0 by decide)]
      exact hset True (iff_true_intro (Or.inl e)) trivial
  rw [fX1_findReach_b44, if_neg (by rw [show I (119 + 100 * w) = nI P.2.1 from h.2.1]; exact nI_ge hr (by omega)), show fX2_hasOther n w (nI r) I R = _ from e_hasOther hP h hr, bsome]
  dsimp only
  by_cases e2 : P.2.2.1 2 r < 2
  · rw [if_pos e2, i0]
    exact hbody (fun z => absurd z.1 (by omega))
  · rw [if_neg e2, i1, gpos hb, c5, e_leadsC hq (by omega), bsome]
    dsimp only
    cases e : bit (R (133 + 100 * w) q) (P.2.2.1 5 r) with
    | false =>
      rw [if_pos (show b01 false = 0 from rfl)]
      exact hbody (fun z => by rw [e] at z; exact absurd z.2 (by decide))
    | true =>
      rw [if_neg (show ¬ b01 true = 0 by decide)]
      unfold fX1_findReach_b88
      rw [if_neg (by decide)]
      exact hset True (iff_true_intro (Or.inr ⟨by omega, e⟩)) trivial
def Snd4 (P : Prog) (q : Nat) (a : Int32) : Prop := ∀ i, bit a i = true → i < 4 ∧ Rch P q i
def PsR (P : Prog) (q : Nat) (a a' : Int32) : Prop := (∀ i, bit a i = true → bit a' i = true) ∧ (∀ r, r < P.2.1 → Trg P a r → bit a' (P.2.2.1 3 r) = true) ∧ (Snd4 P q a → Snd4 P q a')
theorem Trg.up {P : Prog} {a a' : Int32} {r : Nat} (h : ∀ i, bit a i = true → bit a' i = true) (ht : Trg P a r) : Trg P a' r := ht.imp (h _) (fun z => ⟨z.1, h _ z.2⟩)
theorem e_fr44 {P : Prog} {w n q : Nat} {I : Nat → Int32} {R : Nat → Nat → Int32} {a1 : Int32} (k24 : Int32 → (Nat → Int32) → (Nat → Nat → Int32) → Option mSt) (k31 : Int32 → Int32 → (Nat → Int32) → (Nat → Nat → Int32) → Option mSt) (hP : pOk P) (h : RepC P w (I, R)) (hq : q < 4) (hn : 5 < n) : ∃ m, fX1_findReach_b44 n w k24 k31 n a1 (nI q) 0 I R = k31 a1 (nI (q + 1)) I (setA R (133 + 100 * w) (nI q) m) ∧ PsR P q (R (133 + 100 * w) q) m := by
  have hP1 := hP.1
  have h5 := hP.2.1
  have hself : setA R (133 + 100 * w) (nI q) (R (133 + 100 * w) q) = R := by
    funext k t
    rw [setA_v (by omega)]
    split
    · rename_i z; rw [z.1, z.2]
    · rfl
  obtain ⟨m, g, g4⟩ := lp0 (fun j i (m : Int32) => fX1_findReach_b44 n w k24 k31 j a1 (nI q) (nI i) I (setA R (133 + 100 * w) (nI q) m)) P.2.1 (fun k m => (∀ i, bit (R (133 + 100 * w) q) i = true → bit m i = true) ∧ (∀ r, r < k → Trg P (R (133 + 100 * w) q) r → bit m (P.2.2.1 3 r) = true) ∧ (Snd4 P q (R (133 + 100 * w) q) → Snd4 P q m))
    (by
      intro j k m hk ⟨g1, g2, g3⟩
      try dsimp only
      have hh := hP.2.2.2.1 k hk
      have hat : setA R (133 + 100 * w) (nI q) m (133 + 100 * w) q = m := by rw [setA_at (by omega), if_pos rfl]
      obtain ⟨m', e1, e2⟩ := e_fr1 (n := n) (j := j) (a1 := a1) (I := I) (R := setA R (133 + 100 * w) (nI q) m) k24 k31 hP (h.fr (fun k hk => setA_ne (by omega))) hk hq
      rw [hat] at e2
      refine ⟨m', ⟨fun i z => (e2 i).mpr (Or.inl (g1 i z)), fun r hr z => ?_, fun hs => ?_⟩, ?_⟩
      · by_cases e : r = k
        · subst e
          exact (e2 _).mpr (Or.inr ⟨z.up g1, rfl⟩)
        · exact (e2 _).mpr (Or.inl (g2 r (by omega) z))
      · intro i z
        rcases (e2 i).mp z with z' | ⟨z', ei⟩
        · exact g3 hs i z'
        · obtain ⟨c, w', c1, c2⟩ := z'.eg hP hk
          rw [ei]
          exact ⟨by omega, ((g3 hs c c1).2).step c2⟩
      · rw [e1]
        congr 1
        funext k t
        rw [setA_v (by omega), setA_v (by omega), setA_v (by omega)]
        split
        · rfl
        · rfl)
    (s := R (133 + 100 * w) q) ⟨fun i z => z, fun r hr => absurd hr (by omega), fun z => z⟩ (n := n) (by omega)
  refine ⟨m, ?_, g⟩
  rw [hself] at g4
  refine g4.trans ?_
  try dsimp only
  rw [fX1_findReach_b44, if_pos (by rw [show I (119 + 100 * w) = nI P.2.1 from h.2.1]; exact nI_le (Nat.le_refl _) (by omega)), nI_1]
theorem e_fr31 {P : Prog} {w n : Nat} {I : Nat → Int32} {R : Nat → Nat → Int32} {a1 : Int32} (k24 : Int32 → (Nat → Int32) → (Nat → Nat → Int32) → Option mSt) (hP : pOk P) (h : RepC P w (I, R)) (hn : 5 < n) : ∃ R', fX1_findReach_b31 n w k24 n a1 0 I R = k24 (a1 + 1) I R' ∧ (∀ k, k ≠ 133 + 100 * w → R' k = R k) ∧ ∀ q, q < P.1 → PsR P q (R (133 + 100 * w) q) (R' (133 + 100 * w) q) := by
  have hP1 := hP.1
  obtain ⟨R', ⟨g1, g2, g3⟩, g4⟩ := lp0 (fun j i (R' : Nat → Nat → Int32) => fX1_findReach_b31 n w k24 j a1 (nI i) I R') P.1 (fun k R' => (∀ k, k ≠ 133 + 100 * w → R' k = R k) ∧ (∀ q, q < k → PsR P q (R (133 + 100 * w) q) (R' (133 + 100 * w) q)) ∧ ∀ q, k ≤ q → R' (133 + 100 * w) q = R (133 + 100 * w) q)
    (by
      intro j k R' hk ⟨g1, g2, g3⟩
      try dsimp only
      obtain ⟨m, e1, e2⟩ := e_fr44 (n := n) (q := k) (I := I) (R := R') (a1 := a1) k24 (fX1_findReach_b31 n w k24 j) hP (h.fr (R := R') (fun k hk => g1 _ (by omega))) (by omega) hn
      rw [fX1_findReach_b31, if_neg (by rw [show I (118 + 100 * w) = nI P.1 from h.1]; exact nI_ge hk (by omega)), e1]
      refine ⟨_, ⟨fun k hk => (setA_ne hk).trans (g1 k hk), fun q hq => ?_, fun q hq => ?_⟩, rfl⟩
      · rw [setA_at (by omega)]
        by_cases e : q = k
        · rw [if_pos e, e]
          rw [g3 k (Nat.le_refl _)] at e2
          exact e2
        · rw [if_neg e]; exact g2 q (by omega)
      · rw [setA_at (by omega), if_neg (by omega)]; exact g3 q (by omega))
    (s := R) ⟨fun _ _ => rfl, fun q hq => absurd hq (by omega), fun _ _ => rfl⟩ (n := n) (by omega)
  refine ⟨R', ?_, g1, g2⟩
  refine g4.trans ?_
  try dsimp only
  rw [fX1_findReach_b31, if_pos (by rw [show I (118 + 100 * w) = nI P.1 from h.1]; exact nI_le (Nat.le_refl _) (by omega))]
def Cmp4 (P : Prog) (q : Nat) (a : Int32) : Prop := ∀ t, Rch P q t → bit a t = true
theorem PsR.cmp {P : Prog} (hP : pOk P) {q k : Nat} {a a' : Int32} (h : PsR P q a a') (hs : Snd4 P q a) (hq : bit a q = true) (hc : Cmp4 P q a ∨ k + 1 ≤ cntB (bit a) 4) : Cmp4 P q a' ∨ k + 2 ≤ cntB (bit a') 4 := by
  rcases hc with hc | hc
  · exact Or.inl (fun t z => h.1 t (hc t z))
  by_cases hex : ∃ i, bit a' i = true ∧ bit a i = false
  · obtain ⟨i, i1', i2⟩ := hex
    have := cntB_lt (p := bit a) (q := bit a') (fun k hk => h.1 k hk) (n := 4) (h.2.2 hs i i1').1 i2 i1'
    exact Or.inr (by omega)
  · refine Or.inl (fun t z => h.1 t ?_)
    have hback : ∀ i, bit a' i = true → bit a i = true := by
      intro i z
      cases e : bit a i with
      | true => rfl
      | false => exact absurd ⟨i, z, e⟩ hex
    obtain ⟨k', w, z⟩ := z
    have key : ∀ k w t, Pth P k w q t → bit a t = true := by
      intro k
      induction k with
      | zero =>
        intro w t z
        exact z.2 ▸ hq
      | succ k ih =>
        intro w t z
        obtain ⟨c, w1, w2, e, h1, r, r1, r2, r3⟩ := z
        have hc := ih w1 c h1
        refine r2 ▸ hback _ (h.2.1 r r1 ?_)
        rcases r3 with ⟨_, r3 | ⟨r3, r4⟩⟩ | ⟨_, r3, r4⟩
        · exact Or.inl (r3 ▸ hc)
        · exact Or.inr ⟨by omega, r4 ▸ hc⟩
        · exact Or.inr ⟨by omega, r4 ▸ hc⟩
    exact key k' w t z
theorem e_findReach {P : Prog} {w n : Nat} {I : Nat → Int32} {R : Nat → Nat → Int32} (hP : pOk P) (h : RepC P w (I, R)) (hn : 5 < n) : ∃ R', fX1_findReach n w I R = some (I, R') ∧ (∀ k, k ≠ 133 + 100 * w → R' k = R k) ∧ ∀ q, q < P.1 → ∀ t, (bit (R' (133 + 100 * w) q) t = true ↔ Rch P q t) := by
  have hP1 := hP.1
  obtain ⟨R1, ⟨a1, a2⟩, a4⟩ := lp0 (fun j i (R' : Nat → Nat → Int32) => fX1_findReach_b2 n w j (nI i) I R') 4 (fun k R' => (∀ k, k ≠ 133 + 100 * w → R' k = R k) ∧ ∀ q, q < k → R' (133 + 100 * w) q = (1 <<< (nI q &&& 31)))
    (by
      intro j k R' hk ⟨g1, g2⟩
      try dsimp only
      rw [fX1_findReach_b2, if_neg (g4' hk), gpos (inb_nI hk (by decide)), nI_1]
      refine ⟨_, ⟨fun k hk => (setA_ne hk).trans (g1 k hk), fun q hq => ?_⟩, rfl⟩
      rw [setA_at (by omega)]
      by_cases e : q = k
      · rw [if_pos e, e]
      · rw [if_neg e]; exact g2 q (by omega))
    (s := R) ⟨fun _ _ => rfl, fun q hq => absurd hq (by omega)⟩ (n := n) (by omega)
  obtain ⟨R2, ⟨b1, b2⟩, b4⟩ := lp0 (fun j i (R' : Nat → Nat → Int32) => fX1_findReach_b24 n w j (nI i) I R') 4 (fun k R' => (∀ k, k ≠ 133 + 100 * w → R' k = R k) ∧ ∀ q, q < P.1 → Snd4 P q (R' (133 + 100 * w) q) ∧ bit (R' (133 + 100 * w) q) q = true ∧ (Cmp4 P q (R' (133 + 100 * w) q) ∨ k + 1 ≤ cntB (bit (R' (133 + 100 * w) q)) 4))
    (by
      intro j k R' hk ⟨g1, g2⟩
      try dsimp only
      obtain ⟨R'', e1, e2, e3⟩ := e_fr31 (n := n) (I := I) (R := R') (a1 := nI k) (fX1_findReach_b24 n w j) hP (h.fr (R := R') (fun k hk => g1 _ (by omega))) hn
      rw [fX1_findReach_b24, if_neg (g4' hk), e1, nI_1]
      refine ⟨R'', ⟨fun k hk => (e2 k hk).trans (g1 k hk), fun q hq => ?_⟩, rfl⟩
      obtain ⟨s1, s2, s3⟩ := g2 q hq
      exact ⟨(e3 q hq).2.2 s1, (e3 q hq).1 q s2, (e3 q hq).cmp hP s1 s2 s3⟩)
    (s := R1) ⟨a1, fun q hq => by
      rw [a2 q (by omega)]
      have hb : ∀ i, (bit (1 <<< (nI q &&& 31)) i = true ↔ i = q) := fun i => by rw [bit_1shl (by omega), decide_eq_true_eq]
      refine ⟨fun i z => ?_, (hb q).mpr rfl, Or.inr ?_⟩
      · rw [(hb i).mp z]; exact ⟨by omega, Rch.refl q⟩
      · have := cntB_lt (p := fun _ => false) (q := bit (1 <<< (nI q &&& 31))) (fun k hk => absurd hk (by decide)) (n := 4) (k := q) (by omega) rfl ((hb q).mpr rfl)
        omega⟩ (n := n) (by omega)
  refine ⟨R2, ?_, b1, fun q hq t => ?_⟩
  · unfold fX1_findReach
    refine a4.trans ?_
    try dsimp only
    rw [fX1_findReach_b2, if_pos (show (4 : Int32) ≤ nI 4 by decide)]
    refine b4.trans ?_
    try dsimp only
    rw [fX1_findReach_b24, if_pos (show (4 : Int32) ≤ nI 4 by decide)]
  · obtain ⟨s1, s2, s3⟩ := b2 q hq
    refine ⟨fun z => (s1 t z).2, fun z => ?_⟩
    rcases s3 with s3 | s3
    · exact s3 t z
    · have := cntB_le (bit (R2 (133 + 100 * w) q)) 4
      omega
theorem e_goingRound {P : Prog} {w n : Nat} {I : Nat → Int32} {R : Nat → Nat → Int32} (hP : pOk P) (h : RepC P w (I, R)) (hbad : ∃ q, q < P.1 ∧ bad P q) (hn : 5 < n) : ∃ x R', fX1_goingRound n w I R = some (x, I, R') ∧ (∀ k, k ≠ 133 + 100 * w → R' k = R k) ∧ ∃ q, q < P.1 ∧ x = nI q ∧ bad P q ∧ ∀ q', q' < q → ¬ bad P q' := by
  have hP1 := hP.1
  have h5 := hP.2.1
  obtain ⟨R1, a1, a2, a3⟩ := e_findReach (n := n) hP h hn
  have h1 : RepC P w (I, R1) := h.fr (R := R1) (fun k hk => a2 _ (by omega))
  have k19 : ∀ (k6 : Int32 → (Nat → Int32) → (Nat → Nat → Int32) → Option (Int32 × mSt)) (q : Nat), q < P.1 → ∀ d r j, r + d = P.2.1 → d < j → (¬ ∃ r', r' < r ∧ P.2.2.1 2 r' = 3 ∧ Rch P q (P.2.2.1 5 r') ∧ Rch P (P.2.2.1 3 r') q) → (bad P q → fX1_goingRound_b19 n w k6 j (nI q) (nI r) I R1 = some (nI q, I, R1)) ∧ (¬ bad P q → fX1_goingRound_b19 n w k6 j (nI q) (nI r) I R1 = k6 (nI (q + 1)) I R1) := by
    intro k6 q hq d
    induction d with
    | zero =>
      intro r j hr hj hno
      obtain ⟨j, rfl⟩ : ∃ i, j = i + 1 := ⟨j - 1, by omega⟩
      have hnb : ¬ bad P q := by
        rw [bad_iff]
        rintro ⟨r', z1, z2⟩
        exact hno ⟨r', by omega, z2⟩
      refine ⟨fun z => absurd z hnb, fun _ => ?_⟩
      rw [fX1_goingRound_b19, if_pos (by rw [show I (119 + 100 * w) = nI P.2.1 from h1.2.1]; exact nI_le (by omega) (by omega)), nI_1]
    | succ d ih =>
      intro r j hr hj hno
      obtain ⟨j, rfl⟩ : ∃ i, j = i + 1 := ⟨j - 1, by omega⟩
      have hrr : r < P.2.1 := by omega
      have hk := hP.2.2.2.1 r hrr
      have hb : inb (nI r) 5 = true := inb_nI (by omega) (by decide)
      have c2 : getA R1 (113 + 100 * w) (nI r) = nI (P.2.2.1 2 r) := h1.at 2 (by decide) hrr h5
      have c3 : getA R1 (114 + 100 * w) (nI r) = nI (P.2.2.1 3 r) := h1.at 3 (by decide) hrr h5
      have c5 : getA R1 (116 + 100 * w) (nI r) = nI (P.2.2.1 5 r) := h1.at 5 (by decide) hrr h5
      have hnext : ¬ (P.2.2.1 2 r = 3 ∧ Rch P q (P.2.2.1 5 r) ∧ Rch P (P.2.2.1 3 r) q) → (bad P q → fX1_goingRound_b79 n w k6 (fX1_goingRound_b19 n w k6 j) (nI q) (nI r) I R1 = some (nI q, I, R1)) ∧ (¬ bad P q → fX1_goingRound_b79 n w k6 (fX1_goingRound_b19 n w k6 j) (nI q) (nI r) I R1 = k6 (nI (q + 1)) I R1) := by
        intro z
        unfold fX1_goingRound_b79
        rw [nI_1]
        refine ih (r + 1) j (by omega) (by omega) ?_
        rintro ⟨r', z1, z2⟩
        by_cases e : r' = r
        · exact z (e ▸ z2)
        · exact hno ⟨r', by omega, z2⟩
      rw [fX1_goingRound_b19, if_neg (by rw [show I (119 + 100 * w) = nI P.2.1 from h1.2.1]; exact nI_ge hrr (by omega)), gpos hb, gpos hb, c2]
      by_cases e : P.2.2.1 2 r = 3
      · rw [if_pos (show nI (P.2.2.1 2 r) = (3 : Int32) by rw [e]; rfl), c5, e_leadsC (by omega) (by omega), bsome]
        dsimp only
        cases eb : bit (R1 (133 + 100 * w) q) (P.2.2.1 5 r) with
        | false =>
          rw [if_pos (show b01 false = 0 from rfl)]
          refine hnext (fun z => ?_)
          rw [← a3 q hq, eb] at z
          exact absurd z.2.1 (by decide)
        | true =>
          rw [if_neg (show ¬ b01 true = 0 by decide), gpos hb, c3, e_leadsC (by omega) (by omega), bsome]
          dsimp only
          cases eb2 : bit (R1 (133 + 100 * w) (P.2.2.1 3 r)) q with
          | false =>
            rw [if_pos (show b01 false = 0 from rfl)]
            refine hnext (fun z => ?_)
            rw [← a3 _ hk.2.2.2.2.1, eb2] at z
            exact absurd z.2.2 (by decide)
          | true =>
            rw [if_neg (show ¬ b01 true = 0 by decide)]
            refine ⟨fun _ => rfl, fun z => absurd (bad_iff.mpr ⟨r, hrr, e, (a3 q hq _).mp eb, (a3 _ hk.2.2.2.2.1 _).mp eb2⟩) z⟩
      · rw [if_neg (show ¬ nI (P.2.2.1 2 r) = (3 : Int32) from nI_lit (b := 3) (by omega) (by decide) e)]
        exact hnext (fun z => e z.1)
  have k6 : ∀ d q j, q + d = P.1 → d < j → (∀ q', q' < q → ¬ bad P q') → ∃ x, fX1_goingRound_b6 n w j (nI q) I R1 = some (x, I, R1) ∧ ∃ q, q < P.1 ∧ x = nI q ∧ bad P q ∧ ∀ q', q' < q → ¬ bad P q' := by
    intro d
    induction d with
    | zero =>
      intro q j hq hj hb
      obtain ⟨q', z1, z2⟩ := hbad
      exact absurd z2 (hb q' (by omega))
    | succ d ih =>
      intro q j hq hj hb
      obtain ⟨j, rfl⟩ : ∃ i, j = i + 1 := ⟨j - 1, by omega⟩
      obtain ⟨g1, g2⟩ := k19 (fX1_goingRound_b6 n w j) q (by omega) P.2.1 0 n (by omega) (by omega) (fun ⟨r', z, _⟩ => absurd z (by omega))
      rw [fX1_goingRound_b6, if_neg (by rw [show I (118 + 100 * w) = nI P.1 from h1.1]; exact nI_ge (by omega) (by omega))]
      by_cases e : bad P q
      · exact ⟨nI q, g1 e, q, by omega, rfl, e, hb⟩
      · rw [show (0 : Int32) = nI 0 from rfl, g2 e]
        exact ih (q + 1) j (by omega) (by omega) (fun q' hq' => by
          by_cases z : q' = q
          · rw [z]; exact e
          · exact hb q' (by omega))
  obtain ⟨x, x1, x2⟩ := k6 P.1 0 n (by omega) (by omega) (fun q' hq' => absurd hq' (by omega))
  refine ⟨x, R1, ?_, a2, x2⟩
  unfold fX1_goingRound
  rw [a1, bsome]
  exact x1
