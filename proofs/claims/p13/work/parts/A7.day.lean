/-! a day: both sides answer -/
theorem l_go {n k i N : Nat} (hiN : i + 3 * N ≤ 60) (hk : k < 4) (hn : 70 < n) (hN : N ≤ 20) : ∀ (d t j j' : Nat) (Q : Prog) (u v : mSt), t + d = N → d < j → d < j' → pOk Q → LayP Q → RepC Q 1 u → RepM Q v → u.1 (105 + 100 * 1) = 0 → (∀ s, s < 60 → u.2 (1001 + 10 * k) s = v.2 4 (60 * k + s)) → (∀ s, s < N → okA (u.2 (1001 + 10 * k) (i + 3 * s))) → ∃ w Q' u' v', fX7_firstWrong_b17 100 k j (nI i) (nI N) (nI t) u.1 u.2 = some (w, u') ∧ fX8_goDay_b2 n j' (nI (60 * k + i)) (nI N) (nI t) v.1 v.2 = some (w, v') ∧ pOk Q' ∧ LayP Q' ∧ RepC Q' 1 u' ∧ RepM Q' v' ∧ u'.1 (105 + 100 * 1) = 0 ∧ FrW 1 u u' ∧ v'.1 = v.1 ∧ ∀ k, k ≠ 9 → k ≠ 13 → v'.2 k = v.2 k := by
  intro d
  induction d with
  | zero =>
    intro t j j' Q u v ht hj hj' hQ hL hC hM h0 hc ho
    obtain ⟨j, rfl⟩ : ∃ i, j = i + 1 := ⟨j - 1, by omega⟩
    obtain ⟨j', rfl⟩ : ∃ i, j' = i + 1 := ⟨j' - 1, by omega⟩
    rw [fX7_firstWrong_b17, fX8_goDay_b2, if_pos (nI_le (by omega) (by omega)), if_pos (nI_le (by omega) (by omega))]
    exact ⟨_, Q, u, v, rfl, rfl, hQ, hL, hC, hM, h0, FrW.refl, rfl, fun _ _ _ => rfl⟩
  | succ d ih =>
    intro t j j' Q u v ht hj hj' hQ hL hC hM h0 hc ho
    obtain ⟨j, rfl⟩ : ∃ i, j = i + 1 := ⟨j - 1, by omega⟩
    obtain ⟨j', rfl⟩ : ∃ i, j' = i + 1 := ⟨j' - 1, by omega⟩
    have e3 : nI i + (3 * nI t) = nI (i + 3 * t) := by rw [show (3 : Int32) * nI t = nI (3 * t) from pk_mul 3 t, nI_add]
    have e3' : nI (60 * k + i) + (3 * nI t) = nI (60 * k + (i + 3 * t)) := by rw [show (3 : Int32) * nI t = nI (3 * t) from pk_mul 3 t, nI_add]; congr 1; omega
    have e1 : nI (i + 3 * t) + 1 = nI (i + 3 * t + 1) := nI_1 _
    have e2 : nI (i + 3 * t) + 2 = nI (i + 3 * t + 2) := nI_add _ 2
    obtain ⟨b, Q1, u1, v1, c1, c2, c3, c4, c5, c6, c7, c8, c9, c10⟩ := l_act (n := n) (A := 60 * k + (i + 3 * t)) (x := u.2 (1001 + 10 * k) (i + 3 * t)) (y := u.2 (1001 + 10 * k) (i + 3 * t + 1)) (z := u.2 (1001 + 10 * k) (i + 3 * t + 2)) hQ hL hC hM h0 (by omega) (hc _ (by omega)).symm (by rw [hc _ (by omega)]; rfl) (by rw [hc _ (by omega)]; rfl) (ho t (by omega)) (by omega)
    rw [fX7_firstWrong_b17, fX8_goDay_b2, if_neg (nI_ge (by omega) (by omega)), if_neg (nI_ge (by omega) (by omega)), e3, e3', e1, e2, gpos (inb_nI (by omega) (by decide)), gpos (inb_nI (by omega) (by decide)), gpos (inb_nI (by omega) (by decide)), getA_nI (by omega), getA_nI (by omega), getA_nI (by omega), c1, c2, bsome, bsome, nI_1]
    dsimp only
    cases b with
    | false =>
      rw [if_pos (show b01 false = 0 from rfl), if_pos (show b01 false = 0 from rfl)]
      exact ⟨_, Q1, u1, v1, rfl, rfl, c3, c4, c5, c6, c7, c8, c9, c10⟩
    | true =>
      rw [if_neg (show ¬ b01 true = 0 by decide), if_neg (show ¬ b01 true = 0 by decide)]
      obtain ⟨w, Q2, u2, v2, d1, d2, d3, d4, d5, d6, d7, d8, d9, d10⟩ := ih (t + 1) j j' Q1 u1 v1 (by omega) (by omega) (by omega) c3 c4 c5 c6 c7 (fun s hs => by rw [c8.2 _ (by omega), c10 4 (by decide) (by decide)]; exact hc s hs) (fun s hs => by rw [c8.2 _ (by omega)]; exact ho s hs)
      exact ⟨w, Q2, u2, v2, d1, d2, d3, d4, d5, d6, d7, c8.trans d8, d9.trans c9, fun k h1 h2 => (d10 k h1 h2).trans (c10 k h1 h2)⟩
theorem l_keep {n : Nat} {a4 a5 a7 : Int32} {J : Nat → Int32} {R : Nat → Nat → Int32} (hn : 70 < n) : ∃ S, fX8_day_b164 n n a4 a5 a7 0 J R = ((fX8_goDay n a7 a4 J S).bind fun z34 => (fX8_tellDay n a5 z34.2.1 z34.2.2).bind fun z36 => fX8_day_b241 n n a5 z34.1 z36.1 0 z36.2.1 z36.2.2) ∧ (∀ f, f < 64 → S 29 f = R 13 f) ∧ (∀ r, r < 5 → S 30 r = R 9 r) ∧ ∀ k, k ≠ 29 → k ≠ 30 → S k = R k := by
  obtain ⟨S1, ⟨a1, a2⟩, a3⟩ := lp0 (fun j i (S : Nat → Nat → Int32) => fX8_day_b164 n j a4 a5 a7 (nI i) J S) 64 (fun i S => (∀ f, f < i → S 29 f = R 13 f) ∧ ∀ k, k ≠ 29 → S k = R k)
    (by
      intro j i S hi ⟨g1, g2⟩
      try dsimp only
      have hb : inb (nI i) 64 = true := inb_nI hi (by decide)
      rw [fX8_day_b164, if_neg (g64 hi), gpos hb, gpos hb, nI_1, getA_nI (by omega), g2 13 (by decide)]
      refine ⟨_, ⟨fun f hf => ?_, fun k hk => (setA_ne hk).trans (g2 k hk)⟩, rfl⟩
      rw [setA_at (by omega)]
      by_cases e : f = i
      · rw [if_pos e, e]
      · rw [if_neg e]; exact g1 f (by omega))
    (s := R) ⟨fun f hf => absurd hf (by omega), fun _ _ => rfl⟩ (n := n) (by omega)
  obtain ⟨S2, ⟨b1, b2⟩, b3⟩ := lp0 (fun j i (S : Nat → Nat → Int32) => fX8_day_b194 n j a4 a5 a7 (nI i) J S) 5 (fun i S => (∀ r, r < i → S 30 r = R 9 r) ∧ ∀ k, k ≠ 30 → S k = S1 k)
    (by
      intro j i S hi ⟨g1, g2⟩
      try dsimp only
      have hb : inb (nI i) 5 = true := inb_nI hi (by decide)
      rw [fX8_day_b194, if_neg (g5' hi), gpos hb, gpos hb, nI_1, getA_nI (by omega), g2 9 (by decide), a2 9 (by decide)]
      refine ⟨_, ⟨fun f hf => ?_, fun k hk => (setA_ne hk).trans (g2 k hk)⟩, rfl⟩
      rw [setA_at (by omega)]
      by_cases e : f = i
      · rw [if_pos e, e]
      · rw [if_neg e]; exact g1 f (by omega))
    (s := S1) ⟨fun f hf => absurd hf (by omega), fun _ _ => rfl⟩ (n := n) (by omega)
  refine ⟨S2, ?_, fun f hf => by rw [b2 29 (by decide)]; exact a1 f hf, b1, fun k h1 h2 => (b2 k h2).trans (a2 k h1)⟩
  refine a3.trans ?_
  try dsimp only
  rw [fX8_day_b164, if_pos (show (64 : Int32) ≤ nI 64 by decide)]
  refine b3.trans ?_
  try dsimp only
  rw [fX8_day_b194, if_pos (show (5 : Int32) ≤ nI 5 by decide)]
theorem l_back {n : Nat} {a5 w t : Int32} {J : Nat → Int32} {R : Nat → Nat → Int32} (hn : 70 < n) : ∃ x S, fX8_day_b241 n n a5 w t 0 J R = some (x, J, S) ∧ (∀ f, f < 64 → S 13 f = R 29 f) ∧ (∀ r, r < 5 → S 9 r = R 30 r) ∧ ∀ k, k ≠ 9 → k ≠ 13 → S k = R k := by
  obtain ⟨S1, ⟨a1, a2⟩, a3⟩ := lp0 (fun j i (S : Nat → Nat → Int32) => fX8_day_b241 n j a5 w t (nI i) J S) 64 (fun i S => (∀ f, f < i → S 13 f = R 29 f) ∧ ∀ k, k ≠ 13 → S k = R k)
    (by
      intro j i S hi ⟨g1, g2⟩
      try dsimp only
      have hb : inb (nI i) 64 = true := inb_nI hi (by decide)
      rw [fX8_day_b241, if_neg (g64 hi), gpos hb, gpos hb, nI_1, getA_nI (by omega), g2 29 (by decide)]
      refine ⟨_, ⟨fun f hf => ?_, fun k hk => (setA_ne hk).trans (g2 k hk)⟩, rfl⟩
      rw [setA_at (by omega)]
      by_cases e : f = i
      · rw [if_pos e, e]
      · rw [if_neg e]; exact g1 f (by omega))
    (s := R) ⟨fun f hf => absurd hf (by omega), fun _ _ => rfl⟩ (n := n) (by omega)
  obtain ⟨S2, ⟨b1, b2⟩, b3⟩ := lp0 (fun j i (S : Nat → Nat → Int32) => fX8_day_b271 n j a5 w t (nI i) J S) 5 (fun i S => (∀ r, r < i → S 9 r = R 30 r) ∧ ∀ k, k ≠ 9 → S k = S1 k)
    (by
      intro j i S hi ⟨g1, g2⟩
      try dsimp only
      have hb : inb (nI i) 5 = true := inb_nI hi (by decide)
      rw [fX8_day_b271, if_neg (g5' hi), gpos hb, gpos hb, nI_1, getA_nI (by omega), g2 30 (by decide), a2 30 (by decide)]
      refine ⟨_, ⟨fun f hf => ?_, fun k hk => (setA_ne hk).trans (g2 k hk)⟩, rfl⟩
      rw [setA_at (by omega)]
      by_cases e : f = i
      · rw [if_pos e, e]
      · rw [if_neg e]; exact g1 f (by omega))
    (s := S1) ⟨fun f hf => absurd hf (by omega), fun _ _ => rfl⟩ (n := n) (by omega)
  have hend : ∃ x, fX8_day_b271 n (n - 5 - 1 + 1) a5 w t (nI 5) J S2 = some (x, J, S2) := by
    rw [fX8_day_b271, if_pos (show (5 : Int32) ≤ nI 5 by decide)]
    split
    · exact ⟨_, rfl⟩
    · split
      · exact ⟨_, rfl⟩
      · exact ⟨_, rfl⟩
  obtain ⟨x, hx⟩ := hend
  refine ⟨x, S2, ?_, fun f hf => by rw [b2 13 (by decide)]; exact a1 f hf, b1, fun k h1 h2 => (b2 k h1).trans (a2 k h2)⟩
  refine a3.trans ?_
  try dsimp only
  rw [fX8_day_b241, if_pos (show (64 : Int32) ≤ nI 64 by decide)]
  exact b3.trans hx
theorem t_isRel {Q : Prog} {n q : Nat} {v : mSt} (hQ : pOk Q) (hM : RepM Q v) (hq : q < 2 ^ 31) : ∃ b, fX8_isRelation n (nI q) v.1 v.2 = some (b01 b, v) := by
  have := hQ.1
  unfold fX8_isRelation
  rw [if_neg (nI_pos hq), hM.1]
  by_cases e : Q.1 ≤ q
  · rw [if_pos (nI_le e hq)]; exact ⟨false, rfl⟩
  · rw [if_neg (nI_ge (by omega) (by omega))]; exact ⟨true, rfl⟩
theorem t_tellDay {Q : Prog} {n : Nat} {v : mSt} {a : Int32} (hQ : pOk Q) (hM : RepM Q v) (hL : LayP Q) (ha : ¬ a < 10 → ∃ q, q < 4 ∧ a = nI (10 + q)) (hn : 274877907000 < n) : ∃ x v', fX8_tellDay n a v.1 v.2 = some (x, v') ∧ FrC v v' := by
  obtain ⟨v', d1, d2, d3, d4⟩ := t_findCheap (n := n) hQ hM hL hn
  have hM' := d4.M hM
  unfold fX8_tellDay
  rw [d1, bsome]
  by_cases e : a < 10
  · rw [if_pos e, e_allHeld d2.1 (by omega), e_allTold hM' (by omega), bsome, bsome]
    have key : ∀ d i j (b : Int32), i + d = 64 → d < j → ∃ x, fX8_tellDay_b82 n j b (nI i) v'.1 v'.2 = some (x, v') := by
      intro d
      induction d with
      | zero =>
        intro i j b hi hj
        obtain ⟨j, rfl⟩ : ∃ i, j = i + 1 := ⟨j - 1, by omega⟩
        rw [fX8_tellDay_b82, if_pos (show (64 : Int32) ≤ nI i from nI_le (a := 64) (by omega) (by omega))]
        exact ⟨_, rfl⟩
      | succ d ih =>
        intro i j b hi hj
        obtain ⟨j, rfl⟩ : ∃ i, j = i + 1 := ⟨j - 1, by omega⟩
        have hb : inb (nI i) 64 = true := inb_nI (by omega) (by decide)
        rw [fX8_tellDay_b82, if_neg (g64 (by omega)), gpos hb, gpos hb]
        unfold fX8_tellDay_b108
        rw [nI_1]
        split
        · exact ih (i + 1) j _ (by omega) (by omega)
        · exact ih (i + 1) j _ (by omega) (by omega)
    obtain ⟨x, hx⟩ := key 64 0 n 0 (by omega) (by omega)
    have hx : fX8_tellDay_b82 n n 0 0 v'.1 v'.2 = some (x, v') := hx
    rw [hx]
    split
    · exact ⟨_, v', rfl, d4⟩
    · split
      · exact ⟨_, v', rfl, d4⟩
      · split
        · exact ⟨_, v', rfl, d4⟩
        · split
          · exact ⟨_, v', rfl, d4⟩
          · exact ⟨_, v', rfl, d4⟩
  · obtain ⟨q, hq, rfl⟩ := ha e
    rw [if_neg e, show nI (10 + q) - 10 = nI q by rw [show (10 : Int32) = nI 10 from rfl, pk_sub (by omega)]; congr 1; omega]
    obtain ⟨b, hb⟩ := t_isRel (n := n) (q := q) hQ hM' (by omega)
    rw [hb, bsome]
    dsimp only
    rw [e_cntH d2.1 hq (by omega), bsome]
    split
    · exact ⟨_, v', rfl, d4⟩
    · exact ⟨_, v', rfl, d4⟩
theorem k_great {P : Prog} {w n : Nat} {u : mSt} (hS : SetC P w u) (hn : 64 < n) : ∃ c, fX0_greatest n w u.1 u.2 = some (c, u) := by
  have key : ∀ d i j (b : Int64), i + d = 64 → d < j → ∃ x, fX0_greatest_b4 n w j b (nI i) u.1 u.2 = some (x, u) := by
    intro d
    induction d with
    | zero =>
      intro i j b hi hj
      obtain ⟨j, rfl⟩ : ∃ i, j = i + 1 := ⟨j - 1, by omega⟩
      rw [fX0_greatest_b4, if_pos (show (64 : Int32) ≤ nI i from nI_le (a := 64) (by omega) (by omega))]
      exact ⟨_, rfl⟩
    | succ d ih =>
      intro i j b hi hj
      obtain ⟨j, rfl⟩ : ∃ i, j = i + 1 := ⟨j - 1, by omega⟩
      rw [fX0_greatest_b4, if_neg (g64 (by omega)), e_held hS.2.1.1 (by omega), bsome]
      dsimp only
      have hb : inb (nI i) 64 = true := inb_nI (by omega) (by decide)
      have h32 : ∀ (b : Int64), ∃ x, fX0_greatest_b32 n w (fX0_greatest_b4 n w j) b (nI i) u.1 u.2 = some (x, u) := by
        intro b
        unfold fX0_greatest_b32
        rw [nI_1]
        exact ih (i + 1) j _ (by omega) (by omega)
      cases (fin P).1 i with
      | false =>
        rw [if_pos (show b01 false = 0 from rfl)]
        exact h32 _
      | true =>
        rw [if_neg (show ¬ b01 true = 0 by decide), gpos hb]
        exact h32 _
  unfold fX0_greatest
  exact key 64 0 n 0 (by omega) (by omega)
theorem c_ofDraft {Q : Prog} {n : Nat} {u : mSt} {a : Int32} (hQ : pOk Q) (hC : RepC Q 1 u) (hS : SetC Q 1 u) (hn : 70 < n) : ∃ x, fX7_ofDraft n a u.1 u.2 = some (x, u) := by
  have hQ1 := hQ.1
  have hd : ∀ b : Int32, ∃ x, fX7_heldInDraft n b u.1 u.2 = some (x, u) := by
    intro b
    unfold fX7_heldInDraft
    rw [show u.1 (118 + 100 * 1) = nI Q.1 from hC.1]
    rcases rng b (n := Q.1) (by omega) with (h | h) | ⟨q, hq, rfl⟩
    · rw [if_pos h]; exact ⟨_, rfl⟩
    · by_cases h0 : b < 0
      · rw [if_pos h0]; exact ⟨_, rfl⟩
      · rw [if_neg h0, if_pos h]; exact ⟨_, rfl⟩
    · rw [if_neg (nI_pos (by omega)), if_neg (nI_ge hq (by omega)), gpos (inb_nI (by omega) (by decide)), getA_nI (by omega), e_bc (hS.2.1.1 q (by omega)), bsome]
      exact ⟨_, rfl⟩
  obtain ⟨x1, h1⟩ := hd (a - 10)
  obtain ⟨x2, h2⟩ := k_great (n := n) hS (by omega)
  unfold fX7_ofDraft
  rw [e_heldC hS.2.1.1 (by omega), e_toldC hQ hC (by omega), h1, h2, bsome, bsome, bsome, bsome]
  split
  · exact ⟨_, rfl⟩
  · split
    · exact ⟨_, rfl⟩
    · split
      · exact ⟨_, rfl⟩
      · split
        · exact ⟨_, rfl⟩
        · split
          · exact ⟨_, rfl⟩
          · exact ⟨_, rfl⟩
