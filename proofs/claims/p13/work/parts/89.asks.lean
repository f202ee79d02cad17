/-! ofRelation, born, odds -/
def rofH (P : Prog) (q : Nat) : Nat → Int32
  | 0 => 0
  | k + 1 => if P.2.2.1 3 k = q then rofH P q k ||| (1 <<< (nI k &&& 31)) else rofH P q k
theorem or_0 (a : Int32) : a ||| 0 = a := bit_ext (fun i _ => by rw [bit_or, bit_0, Bool.or_false])
theorem e_rofC {P : Prog} {w n q : Nat} {u : mSt} (hP : pOk P) (h : RepC P w u) (hq : q < 4) (hn : 5 < n) : fX2_rulesOfHead n w (nI q) u.1 u.2 = some (rofH P q P.2.1, u) := by
  have h5 := hP.2.1
  obtain ⟨s, g, g4⟩ := lp0 (fun j i (s : Int32) => fX2_rulesOfHead_b4 n w j (nI q) s (nI i) u.1 u.2) P.2.1 (fun k s => s = rofH P q k)
    (by
      intro j k s hk hs
      try dsimp only
      have hh := hP.2.2.2.1 k hk
      have hP1 := hP.1
      have c3 : getA u.2 (114 + 100 * w) (nI k) = nI (P.2.2.1 3 k) := h.at 3 (by decide) hk h5
      unfold rofH
      rw [fX2_rulesOfHead_b4, h.2.1, if_neg (nI_ge hk (by omega)), gpos (inb_nI (by omega) (by decide)), c3]
      unfold fX2_rulesOfHead_b28
      rw [nI_1, hs]
      by_cases e : P.2.2.1 3 k = q
      · rw [if_pos (show nI (P.2.2.1 3 k) = nI q by rw [e]), if_pos e]; exact ⟨_, rfl, rfl⟩
      · rw [if_neg (nI_lit (by omega) (by omega) e), if_neg e]; exact ⟨_, rfl, rfl⟩)
    (s := (0 : Int32)) rfl (n := n) (by omega)
  unfold fX2_rulesOfHead
  refine g4.trans ?_
  try dsimp only
  rw [fX2_rulesOfHead_b4, h.2.1, if_pos (nI_le (Nat.le_refl _) (by omega)), g]
theorem e_rofM {P : Prog} {n q : Nat} {v : mSt} (hP : pOk P) (h : RepM P v) (hq : q < 4) (hn : 5 < n) : fX8_ofRelation_b68 n n (nI q) 0 0 v.1 v.2 = some (rofH P q P.2.1, v) := by
  have h5 := hP.2.1
  obtain ⟨s, g, g4⟩ := lp0 (fun j i (s : Int32) => fX8_ofRelation_b68 n j (nI q) s (nI i) v.1 v.2) P.2.1 (fun k s => s = rofH P q k)
    (by
      intro j k s hk hs
      try dsimp only
      have hh := hP.2.2.2.1 k hk
      have hP1 := hP.1
      have c3 : getA v.2 10 (nI k) = nI (P.2.2.1 3 k) := h.at 3 (by decide) hk h5
      unfold rofH
      rw [fX8_ofRelation_b68, h.2.1, if_neg (nI_ge hk (by omega)), gpos (inb_nI (by omega) (by decide)), c3]
      unfold fX8_ofRelation_b97
      rw [nI_1, hs, or_0]
      by_cases e : P.2.2.1 3 k = q
      · rw [if_pos (show nI (P.2.2.1 3 k) = nI q by rw [e]), if_pos e]; exact ⟨_, rfl, rfl⟩
      · rw [if_neg (nI_lit (by omega) (by omega) e), if_neg e]; exact ⟨_, rfl, rfl⟩)
    (s := (0 : Int32)) rfl (n := n) (by omega)
  refine g4.trans ?_
  try dsimp only
  rw [fX8_ofRelation_b68, h.2.1, if_pos (nI_le (Nat.le_refl _) (by omega)), g]
theorem st_ofRelation : St_ofRelation (SimOf (PrOf KK)) := by
  intro a1 a2 u v h
  obtain ⟨P, hP, hC, hM, hk⟩ := h.2.2.2
  rcases d_rel a1 hP.1 hC.1 hM.1 with h0 | ⟨q, hq, rfl, h1⟩
  · refine ⟨0, (-1, u), 0, (-1, v), ?_, ?_, rfl, h⟩
    · unfold fX7_ofRelation; rw [(h0 0 u.2 v.2).1, bsome]; exact i0
    · unfold fX8_ofRelation; rw [(h0 0 u.2 v.2).2, bsome]; exact i0
  obtain ⟨u', v', b1, b2, b3, b4, b5, b6, b7, b8⟩ := st_settle h hP hC hM hk (n := 100) (by decide)
  have hq4 : q < 4 := by have := hP.1; omega
  have hb : inb (nI q) 4 = true := inb_nI hq4 (by decide)
  suffices hs : ∃ (z1 : Int32 × mSt) (z2 : Int32 × mSt), fX7_ofRelation 100 (nI q) a2 u.1 u.2 = some z1 ∧ fX8_ofRelation 100 (nI q) a2 v.1 v.2 = some z2 ∧ z1.1 = z2.1 ∧ SimOf (PrOf KK) z1.2 z2.2 by
    obtain ⟨z1, z2, hh⟩ := hs
    exact ⟨100, z1, 100, z2, hh⟩
  unfold fX7_ofRelation fX8_ofRelation
  rw [(h1 100 u.2 v.2).1, (h1 100 u.2 v.2).2, bsome, bsome, i1, i1]
  dsimp only
  rw [b1, b2, bsome, bsome, gpos hb, gpos hb, gpos hb, gpos hb, getA_nI (by omega), getA_nI (by omega), getA_nI (by omega), getA_nI (by omega)]
  by_cases g0 : a2 = 0
  · rw [if_pos g0, if_pos g0]; exact ⟨_, _, rfl, rfl, (b5.1 q hq4).trans (b7 q hq4).symm, b8⟩
  rw [if_neg g0, if_neg g0]
  by_cases g1 : a2 = 1
  · rw [if_pos g1, if_pos g1, e_bc (b5.2.1.1 q hq4), e_cntH b6.1 hq4 (by decide), bsome, bsome]
    exact ⟨_, _, rfl, rfl, rfl, b8⟩
  rw [if_neg g1, if_neg g1]
  by_cases g2 : a2 = 2
  · rw [if_pos g2, if_pos g2, e_bc (b3.2.2.2 q hq4), e_cntT b4 hq4 (by decide), bsome, bsome]
    exact ⟨_, _, rfl, rfl, rfl, b8⟩
  rw [if_neg g2, if_neg g2]
  by_cases g3 : a2 = 3
  · rw [if_pos g3, if_pos g3, e_rofC hP b3 hq4 (by decide), e_rofM hP b4 hq4 (by decide), bsome]
    exact ⟨_, _, rfl, rfl, rfl, b8⟩
  rw [if_neg g3, if_neg g3]
  exact ⟨_, _, rfl, rfl, rfl, b8⟩
/-! born -/
theorem e_bornC {w n : Nat} {u : mSt} {s : RSt} {a : Int32} (hR : RepR s w u) (ha : 0 ≤ a) (hn : 64 < n) : fX3_bornAt n w a u.1 u.2 = some (nI (cntB (fun f => s.1 f && decide (nI (s.2.1 f) = a)) 64), u) := by
  obtain ⟨t, g, g4⟩ := lp0 (fun j i (t : Int32) => fX3_bornAt_b4 n w j a t (nI i) u.1 u.2) 64 (fun k t => t = nI (cntB (fun f => s.1 f && decide (nI (s.2.1 f) = a)) k))
    (by
      intro j k t hk hs
      try dsimp only
      rw [fX3_bornAt_b4, if_neg (g64 hk), gpos (inb_nI hk (by decide)), getA_nI (by omega), hR.2.1 k hk]
      unfold fX3_bornAt_b23
      rw [nI_1, hs]
      refine ⟨nI (cntB (fun f => s.1 f && decide (nI (s.2.1 f) = a)) (k + 1)), rfl, ?_⟩
      have hc : cntB (fun f => s.1 f && decide (nI (s.2.1 f) = a)) (k + 1) = cntB (fun f => s.1 f && decide (nI (s.2.1 f) = a)) k + if (s.1 k && decide (nI (s.2.1 k) = a)) = true then 1 else 0 := rfl
      rw [hc]
      cases e : s.1 k with
      | false =>
        rw [if_neg (show ¬ (false = true) by decide), if_neg (show ¬ (-9 : Int32) = a by intro z; rw [← z] at ha; exact absurd ha (by decide)), Bool.false_and, if_neg (show ¬ (false = true) by decide)]
        rfl
      | true =>
        rw [if_pos rfl, Bool.true_and]
        by_cases e2 : nI (s.2.1 k) = a
        · rw [if_pos e2, decide_eq_true e2, if_pos rfl, nI_1]
        · rw [if_neg e2, decide_eq_false e2, if_neg (show ¬ (false = true) by decide)]
          rfl)
    (s := (0 : Int32)) rfl (n := n) hn
  unfold fX3_bornAt
  refine g4.trans ?_
  try dsimp only
  rw [fX3_bornAt_b4, if_pos (show (64 : Int32) ≤ nI 64 by decide), g]
theorem e_bornM {n : Nat} {v : mSt} {s : RSt} {a : Int32} (hR : RepRM s v) (hn : 64 < n) : fX8_born_b25 n n a 0 0 v.1 v.2 = some (nI (cntB (fun f => s.1 f && decide (nI (s.2.1 f) = a)) 64), v) := by
  obtain ⟨t, g, g4⟩ := lp0 (fun j i (t : Int32) => fX8_born_b25 n j a t (nI i) v.1 v.2) 64 (fun k t => t = nI (cntB (fun f => s.1 f && decide (nI (s.2.1 f) = a)) k))
    (by
      intro j k t hk hs
      try dsimp only
      rw [fX8_born_b25, if_neg (g64 hk), gpos (inb_nI hk (by decide)), gpos (inb_nI hk (by decide)), getA_nI (by omega), getA_nI (by omega), hR.1 k hk, hR.2.1 k hk]
      unfold fX8_born_b56 fX8_born_b57
      rw [nI_1, hs]
      refine ⟨nI (cntB (fun f => s.1 f && decide (nI (s.2.1 f) = a)) (k + 1)), rfl, ?_⟩
      have hc : cntB (fun f => s.1 f && decide (nI (s.2.1 f) = a)) (k + 1) = cntB (fun f => s.1 f && decide (nI (s.2.1 f) = a)) k + if (s.1 k && decide (nI (s.2.1 k) = a)) = true then 1 else 0 := rfl
      rw [hc]
      cases e : s.1 k with
      | false =>
        rw [if_neg (show ¬ b01 false = 1 by decide), Bool.false_and, if_neg (show ¬ (false = true) by decide), show (0 : Int32) = nI 0 from rfl, nI_add]
      | true =>
        rw [if_pos (show b01 true = 1 from rfl), Bool.true_and]
        by_cases e2 : nI (s.2.1 k) = a
        · rw [if_pos e2, decide_eq_true e2, if_pos rfl, nI_1]
        · rw [if_neg e2, decide_eq_false e2, if_neg (show ¬ (false = true) by decide), show (0 : Int32) = nI 0 from rfl, nI_add])
    (s := (0 : Int32)) rfl (n := n) hn
  refine g4.trans ?_
  try dsimp only
  rw [fX8_born_b25, if_pos (show (64 : Int32) ≤ nI 64 by decide), g]
theorem st_born : St_born (SimOf (PrOf KK)) := by
  intro a1 u v h
  obtain ⟨P, hP, hC, hM, hk⟩ := h.2.2.2
  by_cases ha : 0 ≤ a1
  · by_cases e : P.1 = 0
    · refine ⟨100, (-3, u), 100, (-3, v), ?_, ?_, rfl, h⟩
      · unfold fX7_born; rw [if_pos ha, e_isThere hP hC, bsome, if_pos e]; exact i0
      · unfold fX8_born; rw [if_pos ha, if_pos ((i5 hP hM).mpr e)]
    obtain ⟨u', v', a1', a2, a3, a4, a5, a6, a7, a8⟩ := st_settle h hP hC hM hk (n := 100) (by decide)
    refine ⟨100, (nI (cntB (fun f => (fin P).1 f && decide (nI ((fin P).2.1 f) = a1)) 64), u'), 100, (nI (cntB (fun f => (fin P).1 f && decide (nI ((fin P).2.1 f) = a1)) 64), v'), ?_, ?_, rfl, a8⟩
    · unfold fX7_born
      rw [if_pos ha, e_isThere hP hC, bsome, if_neg e, i1]
      dsimp only
      rw [a1', bsome, e_bornC a5.2.1 ha (by decide), bsome]
    · unfold fX8_born
      rw [if_pos ha, if_neg (fun z => e ((i5 hP hM).mp z)), a2, bsome]
      exact e_bornM a6 (by decide)
  · refine ⟨0, (-2, u), 0, (-2, v), ?_, ?_, rfl, h⟩
    · unfold fX7_born; rw [if_neg ha]
    · unfold fX8_born; rw [if_neg ha]
/-! odds -/
def gOd : Nat → Int32 → Int32 → Int32 → Int32 → Option Int64
  | 0, _, _, _, _ => none
  | j + 1, a2, a3, a4, a5 =>
    if 4 ≤ a5 then (if a2 = 0 then some a3.toInt64 else some a4.toInt64)
    else if (a3 &&& 1) = 0 then gOd j a2 (a3 >>> (1 &&& 31)) (a4 >>> (1 &&& 31)) (a5 + 1)
    else (if a2 = 0 then some a3.toInt64 else some a4.toInt64)
theorem e_gOd {n : Nat} {a2 : Int32} {I : Nat → Int32} {R : Nat → Nat → Int32} : ∀ (j : Nat) (a3 a4 a5 : Int32), fX7_odds_b51 n j a2 a3 a4 a5 I R = (gOd j a2 a3 a4 a5).bind fun x => some (x, I, R) := by
  intro j
  induction j with
  | zero => intro a3 a4 a5; rfl
  | succ j ih =>
    intro a3 a4 a5
    rw [fX7_odds_b51, gOd]
    unfold fX7_odds_b79
    by_cases e1 : 4 ≤ a5
    · rw [if_pos e1, if_pos e1]
      by_cases e3 : a2 = 0
      · rw [if_pos e3, if_pos e3]; rfl
      · rw [if_neg e3, if_neg e3]; rfl
    · rw [if_neg e1, if_neg e1]
      by_cases e2 : (a3 &&& 1) = 0
      · rw [if_pos e2, if_pos e2]; exact ih _ _ _
      · rw [if_neg e2, if_neg e2]
        by_cases e3 : a2 = 0
        · rw [if_pos e3, if_pos e3]; rfl
        · rw [if_neg e3, if_neg e3]; rfl
theorem t_odds : ∀ c : Fin 17, ∀ a : Fin 2, gOd 100 (nI a.val) (nI c.val) 16 0 = fX8_inLeastTerms 100 (nI c.val).toInt64 16 (nI a.val) ∧ (fX8_inLeastTerms 100 (nI c.val).toInt64 16 (nI a.val)).isSome = true := by decide +kernel
theorem st_odds : St_odds (SimOf (PrOf KK)) := by
  intro a1 a2 u v h
  obtain ⟨P, hP, hC, hM, hk⟩ := h.2.2.2
  rcases d_rel a1 hP.1 hC.1 hM.1 with h0 | ⟨q, hq, rfl, h1⟩
  · refine ⟨0, (-9223372036854775808, u), 0, (-9223372036854775808, v), ?_, ?_, rfl, h⟩
    · unfold fX7_odds; rw [(h0 0 u.2 v.2).1, bsome]; exact i0
    · unfold fX8_odds; rw [(h0 0 u.2 v.2).2, bsome]; exact i0
  rcases rng a2 (n := 2) (by decide) with g | ⟨t, ht, rfl⟩
  · refine ⟨0, (-9223372036854775808, u), 0, (-9223372036854775808, v), ?_, ?_, rfl, h⟩
    · unfold fX7_odds; rw [(h1 0 u.2 v.2).1, bsome, i1]
      by_cases g1 : a2 < 0
      · rw [if_pos g1]
      · rw [if_neg g1, if_neg (show ¬ a2 ≤ 1 from Int32.not_le.mpr (le_lt (a := 1) (g.resolve_left g1) (by decide) (by decide)))]
    · unfold fX8_odds; rw [(h1 0 u.2 v.2).2, bsome, i1, within_out (hi := 1) (g.imp id (fun g => le_lt (a := 1) g (by decide) (by decide))), bsome, i0]
  obtain ⟨u', v', b1, b2, b3, b4, b5, b6, b7, b8⟩ := st_settle h hP hC hM hk (n := 100) (by decide)
  have hq4 : q < 4 := by have := hP.1; omega
  have hb : inb (nI q) 4 = true := inb_nI hq4 (by decide)
  obtain ⟨o1, o2⟩ := t_odds ⟨cntB (fun i => (fin P).1 (16 * q + i)) 16, Nat.lt_succ_of_le (cntB_le _ 16)⟩ ⟨t, ht⟩
  obtain ⟨x, hx⟩ := Option.isSome_iff_exists.mp o2
  rw [hx] at o1
  refine ⟨100, (x, u'), 100, (x, v'), ?_, ?_, rfl, b8⟩
  · unfold fX7_odds
    rw [(h1 100 u.2 v.2).1, bsome, i1, if_neg (nI_pos (by omega)), if_pos (show nI t ≤ 1 from nI_le (b := 1) (by omega) (by decide))]
    dsimp only
    rw [b1, bsome, gpos hb, getA_nI (by omega), e_bc (b5.2.1.1 q hq4), bsome, e_gOd]
    rw [show gOd 100 (nI t) (nI (cntB (fun i => (fin P).1 (16 * q + i)) 16)) 16 0 = some x from o1]
    rfl
  · unfold fX8_odds
    rw [(h1 100 u.2 v.2).2, bsome, i1, show fX8_within 100 (nI t) 0 1 = some 1 from within_in (lo := 0) (hi := 1) (by omega) (by omega) (by decide), bsome, i1]
    dsimp only
    rw [b2, bsome, e_cntH b6.1 hq4 (by decide), bsome]
    dsimp only
    rw [show fX8_inLeastTerms 100 (nI (cntB (fun i => (fin P).1 (16 * q + i)) 16)).toInt64 16 (nI t) = some x from hx]
    rfl
