/-! layers of the reference -/
theorem RepM.fr {P : Prog} {v : mSt} (h : RepM P v) {R : Nat → Nat → Int32} (h3 : ∀ k, k < 7 → R (7 + k) = v.2 (7 + k)) : RepM P (v.1, R) := h.mk rfl rfl h3
theorem RepM.o {P : Prog} {v : mSt} (h : RepM P v) {r : Nat} (hr : r < P.2.1) (h5 : P.2.1 ≤ 5) (e : ¬ P.2.2.1 2 r < 2) : getA v.2 12 (nI r) = nI (P.2.2.1 5 r) := by
  rw [getA_nI (by omega), h.2.2.2.1 r hr, if_neg e]
def RepLM (l : Nat → Nat) (v : mSt) : Prop := ∀ q, q < 4 → v.2 21 q = nI (l q)
theorem e_lsweep {P : Prog} {n : Nat} {v : mSt} {l : Nat → Nat} (k22 : Int32 → (Nat → Int32) → (Nat → Nat → Int32) → Option mSt) (hP : pOk P) (h : RepM P v) (hl : RepLM l v) (hB : ∀ q, l q ≤ 900) (hn : 5 < n) : ∃ R, fX8_findLayers_b30 n k22 n 0 0 v.1 v.2 = k22 (b01 (sw P l).2) v.1 R ∧ RepLM (sw P l).1 (v.1, R) ∧ ∀ k, k ≠ 21 → R k = v.2 k := by
  have h5 := hP.2.1
  have h1 := hP.1
  obtain ⟨s, ⟨g1, g2, g3⟩, g4⟩ := lp0 (fun j i (s : Int32 × (Nat → Nat → Int32)) => fX8_findLayers_b30 n k22 j s.1 (nI i) v.1 s.2) P.2.1 (fun i s => s.1 = b01 (swp P i (l, false)).2 ∧ RepLM (swp P i (l, false)).1 (v.1, s.2) ∧ ∀ k, k ≠ 21 → s.2 k = v.2 k)
    (by
      intro j i s hi ⟨g1, g2, g3⟩
      have hC : RepM P (v.1, s.2) := h.fr (fun k hk => g3 _ (by omega))
      have hb : inb (nI i) 5 = true := inb_nI (by omega) (by decide)
      have hk := hP.2.2.2.1 i hi
      have c2 : getA s.2 9 (nI i) = nI (P.2.2.1 2 i) := hC.at 2 (by decide) hi h5
      have c3 : getA s.2 10 (nI i) = nI (P.2.2.1 3 i) := hC.at 3 (by decide) hi h5
      have c4 : getA s.2 11 (nI i) = nI (P.2.2.1 4 i) := hC.at 4 (by decide) hi h5
      have hB1 := swp_le (P := P) hB false i
      have B3 := hB1 (P.2.2.1 3 i)
      have B4 := hB1 (P.2.2.1 4 i)
      have B5 := hB1 (P.2.2.1 5 i)
      have hls : leastR P (swp P i (l, false)).1 i ≤ 1000 := by
        unfold leastR
        split
        · omega
        · split <;> omega
      have e3 : s.2 21 (P.2.2.1 3 i) = nI ((swp P i (l, false)).1 (P.2.2.1 3 i)) := g2 _ (by omega)
      have e4 : s.2 21 (P.2.2.1 4 i) = nI ((swp P i (l, false)).1 (P.2.2.1 4 i)) := g2 _ (by omega)
      have e5 : s.2 21 (P.2.2.1 5 i) = nI ((swp P i (l, false)).1 (P.2.2.1 5 i)) := g2 _ (by omega)
      have main : fX8_findLayers_b30 n k22 (j + 1) s.1 (nI i) v.1 s.2 = fX8_findLayers_b102 n k22 (fX8_findLayers_b30 n k22 j) s.1 (nI i) (nI (leastR P (swp P i (l, false)).1 i)) v.1 s.2 := by
        rw [fX8_findLayers_b30, h.2.1, if_neg (nI_ge hi (by omega)), gpos hb, c4, gpos (inb_nI (by omega) (by decide)), gpos hb, c2, getA_nI (by omega), e4]
        unfold leastR
        by_cases e : P.2.2.1 2 i < 2
        · rw [if_pos e, if_pos (show nI (P.2.2.1 2 i) < (2 : Int32) from nI_lt (b := 2) e (by decide))]
        · have c5 : getA s.2 12 (nI i) = nI (P.2.2.1 5 i) := hC.o hi h5 e
          rw [if_neg e, if_neg (show ¬ nI (P.2.2.1 2 i) < (2 : Int32) from nI_nlt (b := 2) (by omega) (by omega)), gpos hb, c5, gpos (inb_nI (by omega) (by decide)), gpos hb, getA_nI (by omega), e5]
          unfold fX8_findLayers_b86 fX8_findLayers_b101
          by_cases e3 : P.2.2.1 2 i = 3
          · rw [if_pos e3, if_pos (show nI (P.2.2.1 2 i) = 3 by rw [e3]; rfl), nI_1]
            by_cases g : (swp P i (l, false)).1 (P.2.2.1 4 i) < (swp P i (l, false)).1 (P.2.2.1 5 i) + 1
            · rw [if_neg (nI_ge g (by omega)), Nat.max_eq_right (by omega)]
            · rw [if_pos (nI_le (by omega) (by omega)), Nat.max_eq_left (by omega)]
          · rw [if_neg e3, if_neg (show ¬ nI (P.2.2.1 2 i) = 3 from nI_lit (b := 3) (by omega) (by decide) e3), show (0 : Int32) = nI 0 from rfl, nI_add, Nat.add_zero]
            by_cases g : (swp P i (l, false)).1 (P.2.2.1 4 i) < (swp P i (l, false)).1 (P.2.2.1 5 i)
            · rw [if_neg (nI_ge g (by omega)), Nat.max_eq_right (by omega)]
            · rw [if_pos (nI_le (by omega) (by omega)), Nat.max_eq_left (by omega)]
      try dsimp only
      rw [main]
      unfold fX8_findLayers_b102 fX8_findLayers_b131
      rw [gpos hb, c3, gpos (inb_nI (by omega) (by decide)), getA_nI (by omega), e3, gpos hb, gpos (inb_nI (by omega) (by decide)), nI_1]
      by_cases e : (swp P i (l, false)).1 (P.2.2.1 3 i) < leastR P (swp P i (l, false)).1 i
      · rw [if_neg (nI_ge e (by omega))]
        refine ⟨(1, setA s.2 21 (nI (P.2.2.1 3 i)) (nI (leastR P (swp P i (l, false)).1 i))), ⟨?_, ?_, ?_⟩, rfl⟩
        · show 1 = b01 (swR P i (swp P i (l, false))).2
          unfold swR
          rw [if_pos e]; rfl
        · intro q hq
          show setA s.2 21 _ _ 21 q = nI ((swR P i (swp P i (l, false))).1 q)
          unfold swR
          rw [if_pos e, setA_at (by omega)]
          show _ = nI (updN _ _ _ q)
          unfold updN
          by_cases eq : q = P.2.2.1 3 i
          · rw [if_pos eq, if_pos eq]
          · rw [if_neg eq, if_neg eq]; exact g2 q hq
        · intro k hk
          show setA _ _ _ _ k = _
          rw [setA_ne hk]; exact g3 k hk
      · rw [if_pos (nI_le (by omega) (by omega))]
        refine ⟨s, ⟨?_, ?_, g3⟩, rfl⟩
        · show s.1 = b01 (swR P i (swp P i (l, false))).2
          unfold swR
          rw [if_neg e]; exact g1
        · show RepLM (swR P i (swp P i (l, false))).1 _
          unfold swR
          rw [if_neg e]; exact g2)
    (s := (0, v.2)) ⟨rfl, hl, fun _ _ => rfl⟩ (n := n) (by omega)
  refine ⟨s.2, ?_, g2, g3⟩
  refine g4.trans ?_
  try dsimp only
  rw [fX8_findLayers_b30, h.2.1, if_pos (nI_le (Nat.le_refl _) (by omega)), g1]
  rfl
theorem e_zero21 {n : Nat} {v : mSt} (hn : 4 < n) : ∃ R, fX8_findLayers_b2 n n 0 v.1 v.2 = fX8_findLayers_b22 n n 1 v.1 R ∧ (∀ q, q < 4 → R 21 q = nI 0) ∧ ∀ k, k ≠ 21 → R k = v.2 k := by
  obtain ⟨s, ⟨g2, g3⟩, g4⟩ := lp0 (fun j i (s : Nat → Nat → Int32) => fX8_findLayers_b2 n j (nI i) v.1 s) 4 (fun i s => (∀ q, q < i → s 21 q = nI 0) ∧ ∀ k, k ≠ 21 → s k = v.2 k)
    (by
      intro j i s hi ⟨g2, g3⟩
      try dsimp only
      rw [fX8_findLayers_b2, if_neg (show ¬ (4 : Int32) ≤ nI i from nI_ge (b := 4) hi (by decide)), gpos (inb_nI hi (by decide)), nI_1]
      refine ⟨setA s 21 (nI i) 0, ⟨fun q hq => ?_, fun k hk => (setA_ne hk).trans (g3 k hk)⟩, rfl⟩
      rw [setA_at (by omega)]
      by_cases e : q = i
      · rw [if_pos e]; rfl
      · rw [if_neg e]; exact g2 q (by omega))
    (s := v.2) ⟨fun q hq => absurd hq (by omega), fun _ _ => rfl⟩ (n := n) hn
  refine ⟨s, ?_, g2, g3⟩
  refine g4.trans ?_
  try dsimp only
  rw [fX8_findLayers_b2, if_pos (show (4 : Int32) ≤ nI 4 by decide)]
theorem e_findLayers {P : Prog} {n : Nat} {v : mSt} (hP : pOk P) (h : RepM P v) (hL : LayP P) (hn : 5 < n) : ∃ R, fX8_findLayers n v.1 v.2 = some (v.1, R) ∧ RepLM (lays P 3) (v.1, R) ∧ ∀ k, k ≠ 21 → R k = v.2 k := by
  have main : ∀ d k R j, k + d = 4 → RepLM (lays P k) (v.1, R) → (∀ i, i ≠ 21 → R i = v.2 i) → (∀ i, i < k → (sw P (lays P i)).2 = true) → ∃ R', fX8_findLayers_b22 n (j + d + 1) 1 v.1 R = some (v.1, R') ∧ RepLM (lays P 3) (v.1, R') ∧ ∀ i, i ≠ 21 → R' i = v.2 i := by
    intro d
    induction d with
    | zero =>
      intro k R j hk hl hR hs
      have : k = 4 := hk
      subst this
      unfold LayP at hL
      rw [hs 3 (by decide)] at hL
      exact absurd hL (by decide)
    | succ d ih =>
      intro k R j hk hl hR hs
      have hC : RepM P (v.1, R) := h.fr (fun k hk => hR _ (by omega))
      obtain ⟨R1, e1, e2, e3⟩ := e_lsweep (n := n) (fX8_findLayers_b22 n (j + (d + 1))) hP hC hl (fun q => by have := lays_le hP k q; omega) hn
      have hR1 : ∀ i, i ≠ 21 → R1 i = v.2 i := fun i hi => (e3 i hi).trans (hR i hi)
      rw [fX8_findLayers_b22, i1]
      suffices hh : ∃ R', fX8_findLayers_b22 n (j + (d + 1)) (b01 (sw P (lays P k)).2) v.1 R1 = some (v.1, R') ∧ RepLM (lays P 3) (v.1, R') ∧ ∀ i, i ≠ 21 → R' i = v.2 i by
        obtain ⟨R', q1, q2⟩ := hh
        exact ⟨R', e1.trans q1, q2⟩
      by_cases e : (sw P (lays P k)).2 = false
      · obtain ⟨f1, f2⟩ := lay_of (by omega) e
        rw [e]
        refine ⟨R1, ?_, ?_, hR1⟩
        · rw [show j + (d + 1) = (j + d) + 1 from rfl, fX8_findLayers_b22, show b01 false = 0 from rfl, i0]
        · have : (sw P (lays P k)).1 = lays P k := congrArg Prod.fst (swp_st _ e)
          rw [this, f2] at e2
          exact e2
      · have e' : (sw P (lays P k)).2 = true := by simpa using e
        rw [e', show b01 true = 1 from rfl]
        exact ih (k + 1) R1 j (by omega) e2 hR1 (fun i hi => by
          by_cases ei : i = k
          · rw [ei]; exact e'
          · exact hs i (by omega))
  obtain ⟨R0, a1, a2, a3⟩ := e_zero21 (n := n) (v := v) (by omega)
  unfold fX8_findLayers
  rw [a1]
  have := main 4 0 R0 (n - 5) rfl a2 a3 (fun i hi => absurd hi (by omega))
  rw [show n - 5 + 4 + 1 = n by omega] at this
  exact this
