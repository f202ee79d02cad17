/-! ofRule, reading, back -/
theorem setA_v {R : Nat → Nat → Int32} {k j k' t : Nat} {x : Int32} (h : j < 2 ^ 31) : setA R k (nI j) x k' t = if k' = k ∧ t = j then x else R k' t := by
  by_cases e : k' = k
  · subst e
    rw [setA_at h]
    by_cases e2 : t = j
    · rw [if_pos e2, if_pos ⟨rfl, e2⟩]
    · rw [if_neg e2, if_neg (fun q => e2 q.2)]
  · rw [setA_ne e, if_neg (fun q => e q.1)]
theorem st_ofRule {K : Prog → mSt → Prop} (hK : FrK K) : St_ofRule (SimOf (PrOf K)) := by
  intro a1 a2 u v h
  obtain ⟨P, hP, hC, hM, hk⟩ := h.2.2.2
  rcases d_rule a1 hP.2.1 hC.2.1 hM.2.1 with h0 | ⟨r, hr, rfl, h1⟩
  · refine ⟨0, (-1, u), 0, (-1, v), ?_, ?_, rfl, h⟩
    · unfold fX7_ofRule; rw [(h0 0 u.2 v.2).1, bsome]; exact i0
    · unfold fX8_ofRule; rw [(h0 0 u.2 v.2).2, bsome]; exact i0
  have hb : inb (nI r) 5 = true := inb_nI (by have := hP.2.1; omega) (by decide)
  have c0 : getA u.2 (111 + 100 * 0) (nI r) = nI (P.2.2.1 0 r) := hC.at 0 (by decide) hr hP.2.1
  have c1 : getA u.2 (112 + 100 * 0) (nI r) = nI (P.2.2.1 1 r) := hC.at 1 (by decide) hr hP.2.1
  have c2 : getA u.2 (113 + 100 * 0) (nI r) = nI (P.2.2.1 2 r) := hC.at 2 (by decide) hr hP.2.1
  have c3 : getA u.2 (114 + 100 * 0) (nI r) = nI (P.2.2.1 3 r) := hC.at 3 (by decide) hr hP.2.1
  have c4 : getA u.2 (115 + 100 * 0) (nI r) = nI (P.2.2.1 4 r) := hC.at 4 (by decide) hr hP.2.1
  have c5 : getA u.2 (116 + 100 * 0) (nI r) = nI (P.2.2.1 5 r) := hC.at 5 (by decide) hr hP.2.1
  have m0 : getA v.2 7 (nI r) = nI (P.2.2.1 0 r) := hM.at 0 (by decide) hr hP.2.1
  have m1 : getA v.2 8 (nI r) = nI (P.2.2.1 1 r) := hM.at 1 (by decide) hr hP.2.1
  have m2 : getA v.2 9 (nI r) = nI (P.2.2.1 2 r) := hM.at 2 (by decide) hr hP.2.1
  have m3 : getA v.2 10 (nI r) = nI (P.2.2.1 3 r) := hM.at 3 (by decide) hr hP.2.1
  have m4 : getA v.2 11 (nI r) = nI (P.2.2.1 4 r) := hM.at 4 (by decide) hr hP.2.1
  have m5 : getA v.2 12 (nI r) = if P.2.2.1 2 r < 2 then (-9) else nI (P.2.2.1 5 r) := by
    rw [getA_nI (by have := hP.2.1; omega)]; exact hM.2.2.2.1 r hr
  have ec : ∃ x, fX7_ofRule 0 (nI r) a2 u.1 u.2 = some (x, u) ∧ fX8_ofRule 0 (nI r) a2 v.1 v.2 = some (x, v) := by
    unfold fX7_ofRule fX8_ofRule
    rw [(h1 0 u.2 v.2).1, (h1 0 u.2 v.2).2, bsome, bsome, i1, i1]
    dsimp only
    rw [c0, c1, c2, c3, c4, m0, m1, m2, m3, m4, m5, e_costC hP hC hr, e_costM hP hM hr, e_hasOther hP hC hr, gpos hb, gpos hb, gpos hb, gpos hb, gpos hb, gpos hb, gpos hb, gpos hb, gpos hb, gpos hb, gpos hb, bsome, bsome, bsome]
    dsimp only
    rw [c5, gpos hb]
    by_cases g0 : a2 = 0
    · rw [if_pos g0, if_pos g0]; exact ⟨_, rfl, rfl⟩
    rw [if_neg g0, if_neg g0]
    by_cases g1 : a2 = 1
    · rw [if_pos g1, if_pos g1]; exact ⟨_, rfl, rfl⟩
    rw [if_neg g1, if_neg g1]
    by_cases g2 : a2 = 2
    · rw [if_pos g2, if_pos g2]; exact ⟨_, rfl, rfl⟩
    rw [if_neg g2, if_neg g2]
    by_cases g3 : a2 = 3
    · rw [if_pos g3, if_pos g3]; exact ⟨_, rfl, rfl⟩
    rw [if_neg g3, if_neg g3]
    by_cases g4 : a2 = 4
    · rw [if_pos g4, if_pos g4]; exact ⟨_, rfl, rfl⟩
    rw [if_neg g4, if_neg g4]
    by_cases g5 : a2 = 5
    · rw [if_pos g5, if_pos g5]; exact ⟨_, rfl, rfl⟩
    rw [if_neg g5, if_neg g5]
    by_cases g6 : a2 = 6
    · rw [if_pos g6, if_pos g6]
      by_cases e : P.2.2.1 2 r < 2
      · rw [if_pos e, if_pos e, i0]; exact ⟨_, rfl, rfl⟩
      · rw [if_neg e, if_neg e, i1]; exact ⟨_, rfl, rfl⟩
    rw [if_neg g6, if_neg g6]
    exact ⟨_, rfl, rfl⟩
  obtain ⟨x, e1, e2⟩ := ec
  exact ⟨0, _, 0, _, e1, e2, rfl, h⟩
theorem st_back {Pr : mSt → mSt → Prop} (hF : Frm Pr) : St_back (SimOf Pr) := by
  intro a1 u v h
  obtain ⟨c, hc, e1, e2, hr⟩ := h.2.1
  rcases rng a1 (n := c + 1) (by omega) with g | ⟨k, hk, rfl⟩
  · refine ⟨0, (-2, u), 0, (-2, v), ?_, ?_, rfl, h⟩
    · unfold fX7_back
      by_cases g1 : a1 < 0
      · rw [if_pos g1]
      · rw [if_neg g1, e1, if_neg]
        exact Int32.not_le.mpr (le_lt (a := c) (g.resolve_left g1) (by omega) (by omega))
    · unfold fX8_back
      rw [e2, within_out (g.imp id (fun g => le_lt (a := c) g (by omega) (by omega))), bsome, i0]
  · refine ⟨0, (nI (c - k), upd u.1 7 (nI (c - k)), u.2), 0, (nI (c - k), upd v.1 31 (nI (c - k)), v.2), ?_, ?_, rfl, ?_⟩
    · unfold fX7_back
      rw [if_neg (nI_pos (by omega)), e1, if_pos (nI_le (by omega) (by omega)), pk_sub (by omega), upd_at]
    · unfold fX8_back
      rw [e2, show fX8_within 0 (nI k) 0 (nI c) = some 1 from within_in (lo := 0) (by omega) (by omega) (by omega), bsome, i1, pk_sub (by omega), upd_at]
    · refine ⟨h.1.mk (fun i hi => upd_no (by omega)) (fun _ _ => rfl) rfl rfl rfl, ⟨c - k, by omega, upd_at (f := u.1) (k := 7), upd_at (f := v.1) (k := 31), fun j hj => hr j (by omega)⟩, ⟨?_, ?_⟩, ?_⟩
      · dsimp only
        rw [upd_no (by decide), upd_no (by decide)]; exact h.2.2.1.1
      · dsimp only
        rw [upd_no (by decide), upd_no (by decide)]; exact h.2.2.1.2
      · exact hF u v _ _ h.2.2.2 (fun i h1 h2 => upd_no (by omega)) (fun _ _ _ => rfl) (upd_no (f := v.1) (k := 31) (j := 5) (x := nI (c - k)) (by decide)) (upd_no (f := v.1) (k := 31) (j := 6) (x := nI (c - k)) (by decide)) (fun _ _ => rfl)
theorem st_reading {K : Prog → mSt → Prop} (hK : FrK K) : St_reading (SimOf (PrOf K)) := by
  intro a1 a2 a3 a4 u v h
  have hF := frm_of hK
  obtain ⟨P, hP, hC, hM, hk⟩ := h.2.2.2
  obtain ⟨c, hc, e1, e2, hr⟩ := h.2.1
  rcases d_rel a1 hP.1 hC.1 hM.1 with h0 | ⟨q, hq, rfl, h1⟩
  · refine ⟨0, (-1, u), 0, (-1, v), ?_, ?_, rfl, h⟩
    · unfold fX7_reading; rw [(h0 0 u.2 v.2).1, bsome]; exact i0
    · unfold fX8_reading; rw [(h0 0 u.2 v.2).2, bsome]; exact i0
  have c35 : ∀ t : Int32, fX7_reading 0 (nI q) a2 a3 a4 u.1 u.2 = fX7_reading_b35 0 (nI q) a2 a3 a4 (if a4 < 0 then if a4 = (-9) then 1 else 0 else if a4 ≤ 1000 then 1 else if a4 = (-9) then 1 else 0) u.1 u.2 := by
    intro t
    unfold fX7_reading fX7_reading_b30 fX7_reading_b23
    rw [(h1 0 u.2 v.2).1, bsome, i1]
    dsimp only
    by_cases g1 : a4 < 0
    · rw [if_pos g1, if_pos g1]
      by_cases g2 : a4 = (-9)
      · rw [if_pos g2, if_pos g2]; rfl
      · rw [if_neg g2, if_neg g2]
    · rw [if_neg g1, if_neg g1]
      by_cases g3 : a4 ≤ 1000
      · rw [if_pos g3, if_pos g3]
      · rw [if_neg g3, if_neg g3]
        by_cases g2 : a4 = (-9)
        · rw [if_pos g2, if_pos g2]; rfl
        · rw [if_neg g2, if_neg g2]
  have m0 : fX8_reading 0 (nI q) a2 a3 a4 v.1 v.2 = (fX8_isThing 0 a2).bind fun z3 => if z3 = 0 then some ((-2), v.1, v.2) else (fX8_isThing 0 a3).bind fun z5 => if z5 = 0 then some ((-2), v.1, v.2) else if (if a4 < 0 then if a4 = (-9) then 1 else 0 else if a4 ≤ 1000 then 1 else if a4 = (-9) then 1 else 0 : Int32) = 0 then some ((-2), v.1, v.2) else fX8_reading_b46 0 (nI q) a2 a3 a4 v.1 v.2 := by
    unfold fX8_reading
    rw [(h1 0 u.2 v.2).2, bsome, i1]
    dsimp only
    congr 1; funext z3; congr 1; congr 1; funext z5; congr 1
    by_cases g2 : a4 = (-9)
    · rw [if_pos g2, if_pos (show a4 < 0 by rw [g2]; decide), if_pos g2, i1]
    · rw [if_neg g2, if_neg g2]
      unfold fX8_within
      by_cases g1 : a4 < 0
      · rw [if_pos g1, if_pos g1, bsome, i0]
      · rw [if_neg g1, if_neg g1]
        by_cases g3 : a4 ≤ 1000
        · rw [if_pos g3, if_neg (Int32.not_lt.mpr g3), bsome, i1]
        · rw [if_neg g3, if_pos (Int32.not_le.mp g3), bsome, i0]
  suffices hs : ∃ (z1 : Int32 × mSt) (z2 : Int32 × mSt), fX7_reading 0 (nI q) a2 a3 a4 u.1 u.2 = some z1 ∧ fX8_reading 0 (nI q) a2 a3 a4 v.1 v.2 = some z2 ∧ z1.1 = z2.1 ∧ SimOf (PrOf K) z1.2 z2.2 by
    obtain ⟨z1, z2, hh⟩ := hs
    exact ⟨0, z1, 0, z2, hh⟩
  rw [c35 0, m0]
  generalize (if a4 < 0 then if a4 = (-9) then 1 else 0 else if a4 ≤ 1000 then 1 else if a4 = (-9) then 1 else 0 : Int32) = t
  unfold fX7_reading_b35
  rcases d_thing a2 with h2 | ⟨x, hx, rfl, h2⟩
  · rw [(h2 0).1, (h2 0).2, bsome, bsome, i0, i0]; exact ⟨_, _, rfl, rfl, rfl, h⟩
  rw [(h2 0).1, (h2 0).2, bsome, bsome, i1, i1]
  rcases d_thing a3 with h3 | ⟨y, hy, rfl, h3⟩
  · rw [(h3 0).1, (h3 0).2, bsome, bsome, i0, i0]; exact ⟨_, _, rfl, rfl, rfl, h⟩
  rw [(h3 0).1, (h3 0).2, bsome, bsome, i1, i1]
  by_cases g : t = 0
  · rw [if_pos g, if_pos g]; exact ⟨_, _, rfl, rfl, rfl, h⟩
  rw [if_neg g, if_neg g]
  unfold fX8_reading_b46
  rw [e1, e2]
  by_cases g8 : c = 8
  · rw [if_neg (show ¬ nI c < (8 : Int32) from nI_nlt (b := 8) (by omega) (by omega)), if_pos (show nI c = (8 : Int32) by rw [g8]; rfl)]
    exact ⟨_, _, rfl, rfl, rfl, h⟩
  have hb : inb (nI c) 8 = true := inb_nI (by omega) (by decide)
  have hP1 := hP.1
  rw [if_pos (show nI c < (8 : Int32) from nI_lt (b := 8) (by omega) (by omega)), if_neg (show ¬ nI c = (8 : Int32) from nI_lit (b := 8) (by omega) (by omega) g8), e_factC, e_factM, bsome, bsome, gpos hb, gpos hb, gpos hb, gpos hb, nI_1, upd_at]
  refine ⟨_, _, rfl, rfl, ?_, ?_⟩
  · show nI c = nI (c + 1) - 1
    rw [nI_pred]
  · refine ⟨h.1.mk (fun i hi => upd_no (by omega)) (fun i hi => by dsimp only; rw [setA_ne (by omega), setA_ne (by omega)]) ?_ ?_ ?_, ⟨c + 1, by omega, upd_at (f := u.1) (k := 7), upd_at (f := v.1) (k := 31), fun j hj => ?_⟩, ⟨?_, ?_⟩, ?_⟩
    · dsimp only
      rw [setA_ne (by decide), setA_ne (by decide)]
    · dsimp only
      rw [setA_ne (by decide), setA_ne (by decide)]
    · dsimp only
      rw [setA_ne (by decide), setA_ne (by decide)]
    · dsimp only
      have hc31 : c < 2 ^ 31 := by omega
      simp only [setA_v hc31]
      by_cases gj : j = c
      · simp only [gj]
        exact ⟨16 * q + 4 * x + y, by omega, by simp, by simp, by simp⟩
      · simp only [gj, and_false, if_false]
        exact hr j (by omega)
    · dsimp only
      rw [upd_no (by decide), upd_no (by decide)]; exact h.2.2.1.1
    · dsimp only
      rw [upd_no (by decide), upd_no (by decide)]; exact h.2.2.1.2
    · refine hF u v _ _ h.2.2.2 (fun i h1 h2 => upd_no (by omega)) (fun i h1 h2 => ?_) (upd_no (f := v.1) (k := 31) (j := 5) (x := nI (c + 1)) (by decide)) (upd_no (f := v.1) (k := 31) (j := 6) (x := nI (c + 1)) (by decide)) (fun k hk => ?_)
      · dsimp only
        rw [setA_ne (by omega), setA_ne (by omega)]
      · dsimp only
        rw [setA_ne (by omega), setA_ne (by omega)]
