/-! ofFact, ranked, settled: both sides answer -/
def Su_ofFact (Sim : mSt → mSt → Prop) : Prop := ∀ (a1 a2 a3 a4 : Int32) (u v : mSt), Sim u v → ∃ (n1 : Nat) (z1 : Int32 × mSt) (n2 : Nat) (z2 : Int32 × mSt), fX7_ofFact n1 a1 a2 a3 a4 u.1 u.2 = some z1 ∧ fX8_ofFact n2 a1 a2 a3 a4 v.1 v.2 = some z2 ∧ Sim z1.2 z2.2
def Su_ranked (Sim : mSt → mSt → Prop) : Prop := ∀ (a1 a2 : Int32) (u v : mSt), Sim u v → ∃ (n1 : Nat) (z1 : Int32 × mSt) (n2 : Nat) (z2 : Int32 × mSt), fX7_ranked n1 a1 a2 u.1 u.2 = some z1 ∧ fX8_ranked n2 a1 a2 v.1 v.2 = some z2 ∧ Sim z1.2 z2.2
def Su_settled (Sim : mSt → mSt → Prop) : Prop := ∀ (a1 : Int32) (u v : mSt), Sim u v → ∃ (n1 : Nat) (z1 : Int32 × mSt) (n2 : Nat) (z2 : Int32 × mSt), fX7_settled n1 a1 u.1 u.2 = some z1 ∧ fX8_settled n2 a1 v.1 v.2 = some z2 ∧ Sim z1.2 z2.2
def NB : Nat := 549755813888
theorem NB_big : 274877907000 < NB := by decide
theorem sim_any {u v u' v' : mSt} (h : SimOf (PrOf KK) u v) {P : Prog} (hP : pOk P) (hC : RepC P 0 u') (hM : RepM P v') (hK : KK P u') (f1 : FrW 0 u u') (f2 : FrC v v') : SimOf (PrOf KK) u' v' :=
  Sim_world h (fun i hi => f1.1 i (by omega)) (fun i hi => f1.2 i (by omega)) (fun i hi => f2.1 i (by omega)) (fun i hi => f2.2 i (by omega)) ⟨P, hP, hC, hM, hK⟩
theorem FrC.refl {v : mSt} : FrC v v := ⟨fun _ _ => rfl, fun _ _ => rfl⟩
theorem within01 {n : Nat} (a lo hi : Int32) : fX8_within n a lo hi = some 0 ∨ fX8_within n a lo hi = some 1 := by
  unfold fX8_within
  split
  · exact Or.inl rfl
  · split
    · exact Or.inl rfl
    · exact Or.inr rfl
theorem k_ofFact {P : Prog} {n f : Nat} {u : mSt} (hP : pOk P) (hC : RepC P 0 u) (hS : SetC P 0 u) (hf : f < 64) (hn : 70 < n) (a : Int32) : ∃ c, (if a = 0 then (fX3_isHeld n 0 (nI f) u.1 u.2).bind fun z27 => if z27.1 = 0 then some ((0 : Int32), z27.2.1, z27.2.2) else some (1, z27.2.1, z27.2.2) else if a = 1 then (fX2_isTold n 0 (nI f) u.1 u.2).bind fun z24 => if z24.1 = 0 then some (0, z24.2.1, z24.2.2) else some (1, z24.2.1, z24.2.2) else if a = 2 then if inb (nI f) 64 = true then some ((getA u.2 (145 + 100 * 0) (nI f)), u.1, u.2) else none else if a = 3 then (fX0_cheapOf n 0 (nI f) u.1 u.2).bind fun z21 => some (z21.1, z21.2.1, z21.2.2) else if a = 4 then (fX0_lastRule n 0 (nI f) u.1 u.2).bind fun z19 => some (z19.1, z19.2.1, z19.2.2) else if a = 5 then (fX0_middle n 0 (nI f) u.1 u.2).bind fun z17 => some (z17.1, z17.2.1, z17.2.2) else some ((-2), u.1, u.2)) = some (c, u) := by
  by_cases e0 : a = 0
  · rw [if_pos e0, e_held hS.2.1.1 hf, bsome]
    dsimp only
    cases (fin P).1 f with
    | false => rw [if_pos (show b01 false = 0 from rfl)]; exact ⟨_, rfl⟩
    | true => rw [if_neg (show ¬ b01 true = 0 by decide)]; exact ⟨_, rfl⟩
  rw [if_neg e0]
  by_cases e1 : a = 1
  · rw [if_pos e1, e_isTold hC hf, bsome]
    dsimp only
    by_cases e : P.2.2.2 f = true
    · rw [if_pos e, i1]; exact ⟨_, rfl⟩
    · rw [if_neg e, i0]; exact ⟨_, rfl⟩
  rw [if_neg e1]
  by_cases e2 : a = 2
  · rw [if_pos e2, gpos (inb_nI hf (by decide))]; exact ⟨_, rfl⟩
  rw [if_neg e2]
  by_cases e3 : a = 3
  · obtain ⟨c, hc⟩ := k_cheap (n := n) hS hf
    rw [if_pos e3, hc, bsome]; exact ⟨_, rfl⟩
  rw [if_neg e3]
  by_cases e4 : a = 4
  · obtain ⟨c, hc, _⟩ := k_last (n := n) hP hC hS hf (by omega)
    rw [if_pos e4, hc, bsome]; exact ⟨_, rfl⟩
  rw [if_neg e4]
  by_cases e5 : a = 5
  · obtain ⟨c, hc⟩ := k_mid (n := n) hP hC hS hf (by omega)
    rw [if_pos e5, hc, bsome]; exact ⟨_, rfl⟩
  rw [if_neg e5]; exact ⟨_, rfl⟩
theorem su_ofFact : Su_ofFact (SimOf (PrOf KK)) := by
  intro a1 a2 a3 a4 u v h
  obtain ⟨P, hP, hC, hM, hk⟩ := h.2.2.2
  rcases d_rel a1 hP.1 hC.1 hM.1 with h0 | ⟨q, hq, rfl, h1⟩
  · refine ⟨0, (-1, u), 0, (-1, v), ?_, ?_, h⟩
    · unfold fX7_ofFact; rw [(h0 0 u.2 v.2).1, bsome]; exact i0
    · unfold fX8_ofFact; rw [(h0 0 u.2 v.2).2, bsome]; exact i0
  rcases d_thing a2 with h2 | ⟨x, hx, rfl, h2⟩
  · refine ⟨0, (-2, u), 0, (-2, v), ?_, ?_, h⟩
    · unfold fX7_ofFact; rw [(h1 0 u.2 v.2).1, bsome, i1, (h2 0).2, bsome]; exact i0
    · unfold fX8_ofFact; rw [(h1 0 u.2 v.2).2, bsome, i1, (h2 0).1, bsome]; exact i0
  rcases d_thing a3 with h3 | ⟨y, hy, rfl, h3⟩
  · refine ⟨0, (-2, u), 0, (-2, v), ?_, ?_, h⟩
    · unfold fX7_ofFact; rw [(h1 0 u.2 v.2).1, bsome, i1, (h2 0).2, bsome, i1, (h3 0).2, bsome]; exact i0
    · unfold fX8_ofFact; rw [(h1 0 u.2 v.2).2, bsome, i1, (h2 0).1, bsome, i1, (h3 0).1, bsome]; exact i0
  have hP1 := hP.1
  have hf : 16 * q + 4 * x + y < 64 := by omega
  have hbf : inb (nI (16 * q + 4 * x + y)) 64 = true := inb_nI hf (by decide)
  obtain ⟨u', b1, b2, b3, b4, b5⟩ := e_settle (n := 100) hP hC hk.1 hk.2 (by decide)
  obtain ⟨c, hc⟩ := k_ofFact (n := 100) hP b4 b2 hf (by decide) a4
  have hcls : fX7_ofFact 100 (nI q) (nI x) (nI y) a4 u.1 u.2 = some (c, u') := by
    unfold fX7_ofFact
    rw [(h1 100 u.2 v.2).1, bsome, i1, (h2 100).2, bsome, i1, (h3 100).2, bsome, i1]
    dsimp only
    rw [b1, bsome, e_factC, bsome]
    exact hc
  have hKK : KK P u' := ⟨hk.1, Or.inr ⟨b3, b2⟩⟩
  have hsim : ∀ v', RepM P v' → FrC v v' → SimOf (PrOf KK) u' v' := fun v' m1 m2 => sim_any h hP b4 m1 hKK b5 m2
  have hNB := NB_big
  rcases within01 (n := NB) a4 0 5 with e | e
  · refine ⟨100, (c, u'), NB, (-2, v), hcls, ?_, hsim v hM FrC.refl⟩
    unfold fX8_ofFact
    rw [(h1 NB u.2 v.2).2, bsome, i1, (h2 NB).1, bsome, i1, (h3 NB).1, bsome, i1, e, bsome]
    exact i0
  obtain ⟨v', d1, d2, d3, d4⟩ := t_findCheap (n := NB) hP hM hk.1 hNB
  have hm : ∃ c', fX8_ofFact NB (nI q) (nI x) (nI y) a4 v.1 v.2 = some (c', v') := by
    unfold fX8_ofFact
    rw [(h1 NB u.2 v.2).2, bsome, i1, (h2 NB).1, bsome, i1, (h3 NB).1, bsome, i1, e, bsome, i1]
    dsimp only
    rw [d1, bsome, e_factM, bsome, gpos hbf, gpos hbf, gpos hbf, gpos hbf, gpos hbf, gpos hbf, gpos hbf]
    split
    · split
      · exact ⟨_, rfl⟩
      · split
        · exact ⟨_, rfl⟩
        · split
          · exact ⟨_, rfl⟩
          · split
            · exact ⟨_, rfl⟩
            · exact ⟨_, rfl⟩
    · split
      · exact ⟨_, rfl⟩
      · exact ⟨_, rfl⟩
  obtain ⟨c', hm⟩ := hm
  exact ⟨100, (c, u'), NB, (c', v'), hcls, hm, hsim v' (d4.M hM) d4⟩
theorem k_isCh {n f g : Nat} {v : mSt} (hf : f < 64) (hg : g < 64) : ∃ b, fX8_isCheaper n (nI f) (nI g) v.1 v.2 = some (b01 b, v) := by
  have h1 : inb (nI f) 64 = true := inb_nI hf (by decide)
  have h2 : inb (nI g) 64 = true := inb_nI hg (by decide)
  unfold fX8_isCheaper
  rw [gpos h1, gpos h2, gpos h1, gpos h2]
  split
  · split
    · exact ⟨false, rfl⟩
    · exact ⟨true, rfl⟩
  · split
    · exact ⟨false, rfl⟩
    · exact ⟨true, rfl⟩
theorem t_ranked {n q : Nat} {v : mSt} {a : Int32} (hq : q < 4) (hn : 70 < n) : ∃ c, fX8_ranked_b26 n n (nI q) a (nI (16 * q)) v.1 v.2 = some (c, v) := by
  have e16 : (16 : Int32) * (nI q + 1) = nI (16 * (q + 1)) := by rw [nI_1, x16]
  have inner : ∀ (k26 : Int32 → Int32 → Int32 → (Nat → Int32) → (Nat → Nat → Int32) → Option (Int32 × mSt)) (f : Nat), f < 64 → ∀ d g j (b : Int32), g + d = 16 * (q + 1) → d < j → (∃ c, fX8_ranked_b45 n k26 j (nI q) a (nI f) b (nI g) v.1 v.2 = some (c, v)) ∨ fX8_ranked_b45 n k26 j (nI q) a (nI f) b (nI g) v.1 v.2 = k26 (nI q) a (nI (f + 1)) v.1 v.2 := by
    intro k26 f hf d
    induction d with
    | zero =>
      intro g j b hg hj
      obtain ⟨j, rfl⟩ : ∃ i, j = i + 1 := ⟨j - 1, by omega⟩
      rw [fX8_ranked_b45, e16, if_pos (nI_le (by omega) (by omega)), gpos (inb_nI hf (by decide))]
      unfold fX8_ranked_b116
      rw [nI_1]
      split
      · split
        · exact Or.inl ⟨_, rfl⟩
        · exact Or.inr rfl
      · exact Or.inr rfl
    | succ d ih =>
      intro g j b hg hj
      obtain ⟨j, rfl⟩ : ∃ i, j = i + 1 := ⟨j - 1, by omega⟩
      obtain ⟨t, ht⟩ := k_isCh (n := n) (f := g) (g := f) (v := v) (by omega) hf
      rw [fX8_ranked_b45, e16, if_neg (nI_ge (by omega) (by omega)), gpos (inb_nI (by omega) (by decide)), ht, bsome]
      unfold fX8_ranked_b83 fX8_ranked_b84
      dsimp only
      rw [nI_1]
      split
      · split
        · exact ih (g + 1) j _ (by omega) (by omega)
        · exact ih (g + 1) j _ (by omega) (by omega)
      · exact ih (g + 1) j _ (by omega) (by omega)
  have outer : ∀ d f j, f + d = 16 * (q + 1) → d < j → ∃ c, fX8_ranked_b26 n j (nI q) a (nI f) v.1 v.2 = some (c, v) := by
    intro d
    induction d with
    | zero =>
      intro f j hf hj
      obtain ⟨j, rfl⟩ : ∃ i, j = i + 1 := ⟨j - 1, by omega⟩
      rw [fX8_ranked_b26, e16, if_pos (nI_le (by omega) (by omega))]
      exact ⟨_, rfl⟩
    | succ d ih =>
      intro f j hf hj
      obtain ⟨j, rfl⟩ : ∃ i, j = i + 1 := ⟨j - 1, by omega⟩
      rw [fX8_ranked_b26, e16, if_neg (nI_ge (by omega) (by omega)), x16]
      rcases inner (fX8_ranked_b26 n j) f (by omega) 16 (16 * q) n 0 (by omega) (by omega) with ⟨c, hc⟩ | hc
      · exact ⟨c, hc⟩
      · rw [hc]; exact ih (f + 1) j (by omega) (by omega)
  exact outer 16 (16 * q) n (by omega) (by omega)
theorem su_ranked : Su_ranked (SimOf (PrOf KK)) := by
  intro a1 a2 u v h
  obtain ⟨P, hP, hC, hM, hk⟩ := h.2.2.2
  rcases d_rel a1 hP.1 hC.1 hM.1 with h0 | ⟨q, hq, rfl, h1⟩
  · refine ⟨0, (-1, u), 0, (-1, v), ?_, ?_, h⟩
    · unfold fX7_ranked; rw [(h0 0 u.2 v.2).1, bsome]; exact i0
    · unfold fX8_ranked; rw [(h0 0 u.2 v.2).2, bsome]; exact i0
  by_cases e : 0 ≤ a2
  rotate_left
  · refine ⟨0, (-2, u), 0, (-2, v), ?_, ?_, h⟩
    · unfold fX7_ranked; rw [(h1 0 u.2 v.2).1, bsome, i1, if_neg e]
    · unfold fX8_ranked; rw [(h1 0 u.2 v.2).2, bsome, i1, if_neg e]
  have hP1 := hP.1
  have hNB := NB_big
  obtain ⟨u', b1, b2, b3, b4, b5⟩ := e_settle (n := 100) hP hC hk.1 hk.2 (by decide)
  obtain ⟨c, u2, c1, c2, c3, c4, c5⟩ := k_rankedF (n := 100) (w := 0) (q := nI q) (a := a2) b2 b4 (by decide)
  obtain ⟨v', d1, d2, d3, d4⟩ := t_findCheap (n := NB) hP hM hk.1 hNB
  obtain ⟨c', g1⟩ := t_ranked (n := NB) (q := q) (v := v') (a := a2) (by omega) (by omega)
  refine ⟨100, (c, u2), NB, (c', v'), ?_, ?_, sim_any h hP c3 (d4.M hM) ⟨hk.1, Or.inr ⟨c4.trans b3, c2⟩⟩ (b5.trans c5) d4⟩
  · unfold fX7_ranked
    rw [(h1 100 u.2 v.2).1, bsome, i1, if_pos e]
    dsimp only
    rw [b1, bsome, c1, bsome]
  · unfold fX8_ranked
    rw [(h1 NB u.2 v.2).2, bsome, i1, if_pos e]
    dsimp only
    rw [d1, bsome, x16]
    exact g1
theorem t_settled {n : Nat} {v : mSt} {a : Int32} (hn : 70 < n) : ∃ c, fX8_settled_b23 n n a 0 v.1 v.2 = some (c, v) := by
  have inner : ∀ (k23 : Int32 → Int32 → (Nat → Int32) → (Nat → Nat → Int32) → Option (Int32 × mSt)) (f : Nat), f < 64 → ∀ d g j (b : Int32), g + d = 64 → d < j → (∃ c, fX8_settled_b34 n k23 j a (nI f) b (nI g) v.1 v.2 = some (c, v)) ∨ fX8_settled_b34 n k23 j a (nI f) b (nI g) v.1 v.2 = k23 a (nI (f + 1)) v.1 v.2 := by
    intro k23 f hf d
    induction d with
    | zero =>
      intro g j b hg hj
      obtain ⟨j, rfl⟩ : ∃ i, j = i + 1 := ⟨j - 1, by omega⟩
      rw [fX8_settled_b34, if_pos (show (64 : Int32) ≤ nI g from nI_le (a := 64) (by omega) (by omega)), gpos (inb_nI hf (by decide))]
      unfold fX8_settled_b125
      rw [nI_1]
      split
      · split
        · exact Or.inl ⟨_, rfl⟩
        · exact Or.inr rfl
      · exact Or.inr rfl
    | succ d ih =>
      intro g j b hg hj
      obtain ⟨j, rfl⟩ : ∃ i, j = i + 1 := ⟨j - 1, by omega⟩
      obtain ⟨t, ht⟩ := k_isCh (n := n) (f := g) (g := f) (v := v) (by omega) hf
      rw [fX8_settled_b34, if_neg (g64 (by omega)), d16 (by omega), d16 (by omega), gpos (inb_nI (by omega) (by decide)), gpos (inb_nI (by omega) (by decide)), gpos (inb_nI (by omega) (by decide)), ht, bsome]
      unfold fX8_settled_b95 fX8_settled_b99 fX8_settled_b100
      dsimp only
      rw [nI_1]
      split
      · split
        · exact ih (g + 1) j _ (by omega) (by omega)
        · split
          · split
            · exact ih (g + 1) j _ (by omega) (by omega)
            · exact ih (g + 1) j _ (by omega) (by omega)
          · exact ih (g + 1) j _ (by omega) (by omega)
      · exact ih (g + 1) j _ (by omega) (by omega)
  have outer : ∀ d f j, f + d = 64 → d < j → ∃ c, fX8_settled_b23 n j a (nI f) v.1 v.2 = some (c, v) := by
    intro d
    induction d with
    | zero =>
      intro f j hf hj
      obtain ⟨j, rfl⟩ : ∃ i, j = i + 1 := ⟨j - 1, by omega⟩
      rw [fX8_settled_b23, if_pos (show (64 : Int32) ≤ nI f from nI_le (a := 64) (by omega) (by omega))]
      exact ⟨_, rfl⟩
    | succ d ih =>
      intro f j hf hj
      obtain ⟨j, rfl⟩ : ∃ i, j = i + 1 := ⟨j - 1, by omega⟩
      rw [fX8_settled_b23, if_neg (g64 (by omega))]
      rcases inner (fX8_settled_b23 n j) f (by omega) 64 0 n 0 (by omega) (by omega) with ⟨c, hc⟩ | hc
      · exact ⟨c, hc⟩
      · have hc : fX8_settled_b34 n (fX8_settled_b23 n j) n a (nI f) 0 0 v.1 v.2 = fX8_settled_b23 n j a (nI (f + 1)) v.1 v.2 := hc
        rw [hc]; exact ih (f + 1) j (by omega) (by omega)
  exact outer 64 0 n (by omega) (by omega)
theorem su_settled : Su_settled (SimOf (PrOf KK)) := by
  intro a1 u v h
  obtain ⟨P, hP, hC, hM, hk⟩ := h.2.2.2
  by_cases e : 0 ≤ a1
  rotate_left
  · refine ⟨0, (-2, u), 0, (-2, v), ?_, ?_, h⟩
    · unfold fX7_settled; rw [if_neg e]
    · unfold fX8_settled; rw [if_neg e]
  by_cases e0 : P.1 = 0
  · refine ⟨100, (-3, u), 100, (-3, v), ?_, ?_, h⟩
    · unfold fX7_settled; rw [if_pos e, e_isThere hP hC, bsome, if_pos e0]; exact i0
    · unfold fX8_settled; rw [if_pos e, if_pos ((i5 hP hM).mpr e0)]
  have hNB := NB_big
  obtain ⟨u', b1, b2, b3, b4, b5⟩ := e_settle (n := 100) hP hC hk.1 hk.2 (by decide)
  obtain ⟨c, u2, c1, c2, c3, c4, c5⟩ := k_settledF (n := 100) (w := 0) (a := a1) b2 b4 e (by decide)
  obtain ⟨v', d1, d2, d3, d4⟩ := t_findCheap (n := NB) hP hM hk.1 hNB
  obtain ⟨c', g1⟩ := t_settled (n := NB) (v := v') (a := a1) (by omega)
  refine ⟨100, (c, u2), NB, (c', v'), ?_, ?_, sim_any h hP c3 (d4.M hM) ⟨hk.1, Or.inr ⟨c4.trans b3, c2⟩⟩ (b5.trans c5) d4⟩
  · unfold fX7_settled
    rw [if_pos e, e_isThere hP hC, bsome, if_neg e0, i1]
    dsimp only
    rw [b1, bsome, c1, bsome]
  · unfold fX8_settled
    rw [if_pos e, if_neg (fun z => e0 ((i5 hP hM).mp z)), d1, bsome]
    exact g1
