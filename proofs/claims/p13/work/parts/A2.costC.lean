/-! the class: what is asked of costs is answered -/
theorem cst_le (P : Prog) (f : Nat) : cst P f ≤ FAR := csts_le 65 (c0 P) (c0_le P) f
theorem k_cheap {P : Prog} {w n f : Nat} {u : mSt} (hS : SetC P w u) (hf : f < 64) : ∃ c, fX0_cheapOf n w (nI f) u.1 u.2 = some (c, u) := by
  unfold fX0_cheapOf
  rw [e_held hS.2.1.1 hf, bsome]
  dsimp only
  cases (fin P).1 f with
  | false => rw [if_pos (show b01 false = 0 from rfl)]; exact ⟨_, rfl⟩
  | true => rw [if_neg (show ¬ b01 true = 0 by decide), gpos (inb_nI hf (by decide))]; exact ⟨_, rfl⟩
theorem k_last {P : Prog} {w n f : Nat} {u : mSt} (hP : pOk P) (hC : RepC P w u) (hS : SetC P w u) (hf : f < 64) (hn : 5 < n) : ∃ c, fX0_lastRule n w (nI f) u.1 u.2 = some (c, u) ∧ (c = (-9) ∨ ∃ r, r < P.2.1 ∧ c = nI r) := by
  have h5 := hP.2.1
  have hP1 := hP.1
  have key : ∀ d r j, r + d = P.2.1 → d < j → ∃ c, fX0_lastRule_b27 n w j (nI f) (nI r) u.1 u.2 = some (c, u) ∧ (c = (-9) ∨ ∃ r, r < P.2.1 ∧ c = nI r) := by
    intro d
    induction d with
    | zero =>
      intro r j hr hj
      obtain ⟨j, rfl⟩ : ∃ i, j = i + 1 := ⟨j - 1, by omega⟩
      rw [fX0_lastRule_b27, if_pos (by rw [hC.2.1]; exact nI_le (by omega) (by omega))]
      exact ⟨_, rfl, Or.inl rfl⟩
    | succ d ih =>
      intro r j hr hj
      obtain ⟨j, rfl⟩ : ∃ i, j = i + 1 := ⟨j - 1, by omega⟩
      have hrr : r < P.2.1 := by omega
      have hk := hP.2.2.2.1 r hrr
      have c3 : getA u.2 (114 + 100 * w) (nI r) = nI (P.2.2.1 3 r) := hC.at 3 (by decide) hrr h5
      rw [fX0_lastRule_b27, if_neg (by rw [hC.2.1]; exact nI_ge hrr (by omega)), gpos (inb_nI (by omega) (by decide)), c3, d16 (by omega)]
      by_cases e : P.2.2.1 3 r = f / 16
      · rw [if_pos (by rw [e]), show nI f - nI (f / 16) * 16 = nI (f % 16) by rw [← d16 (by omega)]; exact m16 (by omega), e_way hP hC hS.2.1.1 hS.2.2.1 (cst_le P) hrr (by omega) (by omega), bsome, gpos (inb_nI hf (by decide))]
        dsimp only
        by_cases e2 : lcmpI (nL (way P (fin P).1 (cst P) r (f % 16))) (getL u.2 (154 + 100 * w) (nI f)) = 0
        · rw [if_pos e2]; exact ⟨_, rfl, Or.inr ⟨r, hrr, rfl⟩⟩
        · rw [if_neg e2]
          unfold fX0_lastRule_b75
          rw [nI_1]
          exact ih (r + 1) j (by omega) (by omega)
      · rw [if_neg (nI_lit (by omega) (by omega) e)]
        unfold fX0_lastRule_b75
        rw [nI_1]
        exact ih (r + 1) j (by omega) (by omega)
  unfold fX0_lastRule
  rw [e_held hS.2.1.1 hf, bsome]
  dsimp only
  cases (fin P).1 f with
  | false => rw [if_pos (show b01 false = 0 from rfl)]; exact ⟨_, rfl, Or.inl rfl⟩
  | true =>
    rw [if_neg (show ¬ b01 true = 0 by decide), e_isTold hC hf, bsome]
    dsimp only
    by_cases e : P.2.2.2 f = true
    · rw [if_pos e, i1]; exact ⟨_, rfl, Or.inl rfl⟩
    · rw [if_neg e, i0]
      exact key P.2.1 0 n (by omega) (by omega)
theorem k_mid {P : Prog} {w n f : Nat} {u : mSt} (hP : pOk P) (hC : RepC P w u) (hS : SetC P w u) (hf : f < 64) (hn : 5 < n) : ∃ c, fX0_middle n w (nI f) u.1 u.2 = some (c, u) := by
  have h5 := hP.2.1
  obtain ⟨c, a1, a2⟩ := k_last (n := n) hP hC hS hf hn
  unfold fX0_middle
  rw [a1, bsome]
  dsimp only
  rcases a2 with rfl | ⟨r, hr, rfl⟩
  · rw [if_pos rfl]; exact ⟨_, rfl⟩
  rw [if_neg (nI_n9 (by omega)), gpos (inb_nI (by omega) (by decide))]
  by_cases e : getA u.2 (113 + 100 * w) (nI r) = 2
  rotate_left
  · rw [if_neg e]; exact ⟨_, rfl⟩
  rw [if_pos e, gpos (inb_nI hf (by decide)), e_costC hP hC hr, bsome]
  dsimp only
  have key : ∀ d z j (a : Int64), z + d = 4 → d < j → ∃ c, fX0_middle_b48 n w j (nI f) (nI r) a (nI z) u.1 u.2 = some (c, u) := by
    intro d
    induction d with
    | zero =>
      intro z j a hz hj
      obtain ⟨j, rfl⟩ : ∃ i, j = i + 1 := ⟨j - 1, by omega⟩
      rw [fX0_middle_b48, if_pos (show (4 : Int32) ≤ nI z from nI_le (a := 4) (by omega) (by omega))]
      exact ⟨_, rfl⟩
    | succ d ih =>
      intro z j a hz hj
      obtain ⟨j, rfl⟩ : ∃ i, j = i + 1 := ⟨j - 1, by omega⟩
      rw [fX0_middle_b48, if_neg (g4' (by omega)), m16 (by omega), e_parts hP hC hS.2.2.1 hr (by omega) (by omega), bsome, nI_1]
      dsimp only
      by_cases e2 : lcmpI (nL (prt P (cst P) r (f % 16) z)) a = 0
      · rw [if_pos e2]; exact ⟨_, rfl⟩
      · rw [if_neg e2]; exact ih (z + 1) j a (by omega) (by omega)
  exact key 4 0 n _ (by omega) (by omega)
def VO (w m : Nat) (R : Nat → Nat → Int32) (i : Nat) : Prop := ∃ o, o < 64 ∧ R (155 + 100 * w) i = nI o
theorem k_ahead {w n f o : Nat} {I : Nat → Int32} {R : Nat → Nat → Int32} (hf : f < 64) (ho : o < 64) : ∃ b, fX0_comesAhead n w (nI f) (nI o) I R = some (b01 b, I, R) := by
  unfold fX0_comesAhead
  rw [d16 (by omega), d16 (by omega), gpos (inb_nI (by omega) (by decide)), gpos (inb_nI (by omega) (by decide)), gpos (inb_nI hf (by decide)), gpos (inb_nI ho (by decide))]
  split
  · exact ⟨true, rfl⟩
  · split
    · split
      · exact ⟨false, rfl⟩
      · exact ⟨true, rfl⟩
    · exact ⟨false, rfl⟩
theorem k_42 {w n f m : Nat} (k20 : Int32 → (Nat → Int32) → (Nat → Nat → Int32) → Option mSt) {I : Nat → Int32} (hf : f < 64) (hm : m < 64) (hI : I (156 + 100 * w) = nI m) : ∀ (a j : Nat) (R : Nat → Nat → Int32), a ≤ m → a < j → (∀ i, i ≤ m → i ≠ a → VO w m R i) → ∃ R', fX0_putInOrder_b42 n w k20 j (nI f) (nI a) I R = k20 (nI (f + 1)) (upd I (156 + 100 * w) (nI (m + 1))) R' ∧ (∀ i, i ≤ m → VO w m R' i) ∧ ∀ k, k ≠ 155 + 100 * w → R' k = R k := by
  have fin : ∀ (a : Nat) (R : Nat → Nat → Int32), a ≤ m → (∀ i, i ≤ m → i ≠ a → VO w m R i) → ∃ R', fX0_putInOrder_b82 n w k20 (nI f) (nI a) I R = k20 (nI (f + 1)) (upd I (156 + 100 * w) (nI (m + 1))) R' ∧ (∀ i, i ≤ m → VO w m R' i) ∧ ∀ k, k ≠ 155 + 100 * w → R' k = R k := by
    intro a R ha hv
    unfold fX0_putInOrder_b82 fX0_putInOrder_b99
    rw [gpos (inb_nI (by omega) (by decide)), hI, nI_1, nI_1]
    refine ⟨_, rfl, fun i hi => ?_, fun k hk => setA_ne hk⟩
    unfold VO
    rw [setA_at (by omega)]
    by_cases e : i = a
    · rw [if_pos e]; exact ⟨f, hf, rfl⟩
    · rw [if_neg e]; exact hv i hi e
  intro a
  induction a with
  | zero =>
    intro j R ha hj hv
    obtain ⟨j, rfl⟩ : ∃ i, j = i + 1 := ⟨j - 1, by omega⟩
    rw [fX0_putInOrder_b42, if_pos (show nI 0 ≤ 0 by decide)]
    exact fin 0 R ha hv
  | succ a ih =>
    intro j R ha hj hv
    obtain ⟨j, rfl⟩ : ∃ i, j = i + 1 := ⟨j - 1, by omega⟩
    have e1 : nI (a + 1) - 1 = nI a := nI_pred a
    have e2 : nI (a + 1) + (-1) = nI a := pk_m1 a
    obtain ⟨o, ho, eo⟩ := hv a (by omega) (by omega)
    rw [fX0_putInOrder_b42, if_neg (nI_nle (by omega) (by omega)), e1, e2, gpos (inb_nI (by omega) (by decide)), getA_nI (by omega), eo]
    obtain ⟨b, hb⟩ := k_ahead (n := n) (w := w) (I := I) (R := R) hf ho
    rw [hb, bsome]
    dsimp only
    cases b with
    | false =>
      rw [if_pos (show b01 false = 0 from rfl)]
      exact fin (a + 1) R ha hv
    | true =>
      rw [if_neg (show ¬ b01 true = 0 by decide), gpos (inb_nI (by omega) (by decide)), gpos (inb_nI (by omega) (by decide)), getA_nI (by omega), eo]
      obtain ⟨R', r1, r2, r3⟩ := ih j (setA R (155 + 100 * w) (nI (a + 1)) (nI o)) (by omega) (by omega) (fun i hi hne => by
        unfold VO
        rw [setA_at (by omega)]
        by_cases e : i = a + 1
        · rw [if_pos e]; exact ⟨o, ho, rfl⟩
        · rw [if_neg e]; exact hv i hi e)
      exact ⟨R', r1, r2, fun k hk => (r3 k hk).trans (setA_ne hk)⟩
theorem k_order {P : Prog} {w n : Nat} {u : mSt} (hS : SetC P w u) (hC : RepC P w u) (hn : 70 < n) : ∃ u' m, fX0_putInOrder n w u.1 u.2 = some u' ∧ SetC P w u' ∧ RepC P w u' ∧ m ≤ 64 ∧ u'.1 (156 + 100 * w) = nI m ∧ (∀ i, i < m → VO w m u'.2 i) ∧ u'.1 (105 + 100 * w) = u.1 (105 + 100 * w) ∧ FrW w u u' := by
  unfold fX0_putInOrder
  rcases hS.2.2.2 with e | ⟨e, o, m, hm, e2, e3⟩
  rotate_left
  · rw [if_neg (by rw [e]; decide)]
    exact ⟨u, m, rfl, hS, hC, hm.1, e2, fun i hi => ⟨o i, hm.2 i hi, e3 i hi⟩, rfl, FrW.refl⟩
  rw [if_pos e]
  obtain ⟨⟨I', R'⟩, ⟨m, g1, g2, g3, g4, g5⟩, g6⟩ := lp0 (fun j i (s : mSt) => fX0_putInOrder_b20 n w j (nI i) s.1 s.2) 64 (fun i s => ∃ m, m ≤ i ∧ s.1 (156 + 100 * w) = nI m ∧ (∀ t, t < m → VO w m s.2 t) ∧ (∀ k, k ≠ 156 + 100 * w → s.1 k = upd u.1 (157 + 100 * w) 1 k) ∧ ∀ k, k ≠ 155 + 100 * w → s.2 k = u.2 k)
    (by
      intro j i s hi ⟨m, q1, q2, q3, q4, q5⟩
      try dsimp only
      have hH : RepH (fin P).1 w s.2 := fun q hq t => by rw [q5 _ (by omega)]; exact hS.2.1.1 q hq t
      rw [fX0_putInOrder_b20, if_neg (g64 hi), e_held hH hi, bsome]
      dsimp only
      cases (fin P).1 i with
      | false =>
        rw [if_pos (show b01 false = 0 from rfl)]
        unfold fX0_putInOrder_b99
        rw [nI_1]
        exact ⟨s, ⟨m, by omega, q2, q3, q4, q5⟩, rfl⟩
      | true =>
        rw [if_neg (show ¬ b01 true = 0 by decide), q2]
        obtain ⟨R', r1, r2, r3⟩ := k_42 (n := n) (w := w) (f := i) (m := m) (fX0_putInOrder_b20 n w j) (I := s.1) hi (by omega) q2 m n s.2 (Nat.le_refl _) (by omega) (fun t ht hne => q3 t (by omega))
        refine ⟨(upd s.1 (156 + 100 * w) (nI (m + 1)), R'), ⟨m + 1, by omega, upd_at, fun t ht => r2 t (by omega), fun k hk => (upd_no hk).trans (q4 k hk), fun k hk => (r3 k hk).trans (q5 k hk)⟩, r1⟩)
    (s := (upd (upd u.1 (157 + 100 * w) 1) (156 + 100 * w) 0, u.2)) ⟨0, Nat.le_refl _, upd_at, fun t ht => absurd ht (by omega), fun k hk => upd_no hk, fun _ _ => rfl⟩ (n := n) (by omega)
  have g5 : ∀ k, k ≠ 155 + 100 * w → R' k = u.2 k := g5
  have hI : ∀ k, k ≠ 156 + 100 * w → k ≠ 157 + 100 * w → I' k = u.1 k := fun k h1 h2 => (g4 k h1).trans (upd_no h2)
  have h57 : I' (157 + 100 * w) = 1 := (g4 _ (by omega)).trans upd_at
  refine ⟨(I', R'), m, ?_, ⟨fun q hq => ?_, ⟨fun q hq t => ?_, fun f hf => ?_, ?_⟩, fun f hf => ?_, Or.inr ⟨h57, ?_⟩⟩, ?_, g1, g2, g3, hI _ (by omega) (by omega), ⟨fun i hi => hI i (by omega) (by omega), fun i hi => g5 i (by omega)⟩⟩
  · refine g6.trans ?_
    try dsimp only
    rw [fX0_putInOrder_b20, if_pos (show (64 : Int32) ≤ nI 64 by decide)]
  · show R' _ q = _
    rw [g5 _ (by omega)]; exact hS.1 q hq
  · show bit (R' _ q) t = _
    rw [g5 _ (by omega)]; exact hS.2.1.1 q hq t
  · show R' _ f = _
    rw [g5 _ (by omega)]; exact hS.2.1.2.1 f hf
  · show I' _ = _
    rw [hI _ (by omega) (by omega)]; exact hS.2.1.2.2
  · exact RepK.fr hS.2.2.1 (g5 _ (by omega)) (g5 _ (by omega)) f hf
  · refine ⟨fun i => (R' (155 + 100 * w) i).toInt.toNat, m, ⟨g1, fun i hi => ?_⟩, g2, fun i hi => ?_⟩
    · obtain ⟨o, ho, eo⟩ := g3 i hi
      have eo : R' (155 + 100 * w) i = nI o := eo
      show (R' (155 + 100 * w) i).toInt.toNat < 64
      rw [eo, nI_toInt (by omega)]
      omega
    · obtain ⟨o, ho, eo⟩ := g3 i hi
      have eo : R' (155 + 100 * w) i = nI o := eo
      show R' (155 + 100 * w) i = nI (R' (155 + 100 * w) i).toInt.toNat
      rw [eo, nI_toInt (by omega), Int.toNat_natCast]
  · exact hC.mk (hI _ (by omega) (by omega)) (hI _ (by omega) (by omega)) (fun k hk => g5 _ (by omega))
theorem k_settledF {P : Prog} {w n : Nat} {u : mSt} {a : Int32} (hS : SetC P w u) (hC : RepC P w u) (ha : 0 ≤ a) (hn : 70 < n) : ∃ c u', fX0_settledFact n w a u.1 u.2 = some (c, u') ∧ SetC P w u' ∧ RepC P w u' ∧ u'.1 (105 + 100 * w) = u.1 (105 + 100 * w) ∧ FrW w u u' := by
  obtain ⟨u', m, a1, a2, a3, a4, a5, a6, a7, a8⟩ := k_order (n := n) hS hC hn
  unfold fX0_settledFact
  rw [a1, bsome, a5]
  by_cases e : nI m ≤ a
  · rw [if_pos e]; exact ⟨_, u', rfl, a2, a3, a7, a8⟩
  · rw [if_neg e]
    rcases rng a (n := m) (by omega) with (h | h) | ⟨k, hk, rfl⟩
    · exact absurd ha (Int32.not_le.mpr h)
    · exact absurd h e
    · rw [gpos (inb_nI (by omega) (by decide))]; exact ⟨_, u', rfl, a2, a3, a7, a8⟩
theorem k_rankedF {P : Prog} {w n : Nat} {u : mSt} {a q : Int32} (hS : SetC P w u) (hC : RepC P w u) (hn : 70 < n) : ∃ c u', fX0_rankedFact n w q a u.1 u.2 = some (c, u') ∧ SetC P w u' ∧ RepC P w u' ∧ u'.1 (105 + 100 * w) = u.1 (105 + 100 * w) ∧ FrW w u u' := by
  obtain ⟨u', m, a1, a2, a3, a4, a5, a6, a7, a8⟩ := k_order (n := n) hS hC hn
  unfold fX0_rankedFact
  rw [a1, bsome]
  have key : ∀ d i j (b : Int32), i + d = m → d < j → ∃ c, fX0_rankedFact_b9 n w j q a b (nI i) u'.1 u'.2 = some (c, u') := by
    intro d
    induction d with
    | zero =>
      intro i j b hi hj
      obtain ⟨j, rfl⟩ : ∃ i, j = i + 1 := ⟨j - 1, by omega⟩
      rw [fX0_rankedFact_b9, if_pos (by rw [a5]; exact nI_le (by omega) (by omega))]
      exact ⟨_, rfl⟩
    | succ d ih =>
      intro i j b hi hj
      obtain ⟨j, rfl⟩ : ∃ i, j = i + 1 := ⟨j - 1, by omega⟩
      have hbi : inb (nI i) 64 = true := inb_nI (by omega) (by decide)
      rw [fX0_rankedFact_b9, if_neg (by rw [a5]; exact nI_ge (by omega) (by omega)), gpos hbi, gpos hbi]
      unfold fX0_rankedFact_b51
      rw [nI_1]
      by_cases e1 : getA u'.2 (155 + 100 * w) (nI i) / 16 = q
      · rw [if_pos e1]
        by_cases e2 : b = a
        · rw [if_pos e2]; exact ⟨_, rfl⟩
        · rw [if_neg e2]; exact ih (i + 1) j _ (by omega) (by omega)
      · rw [if_neg e1]; exact ih (i + 1) j _ (by omega) (by omega)
  obtain ⟨c, hc⟩ := key m 0 n 0 (by omega) (by omega)
  exact ⟨c, u', hc, a2, a3, a7, a8⟩
