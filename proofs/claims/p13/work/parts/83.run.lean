/-! all rounds, in the class -/
def rnds (P : Prog) (l : Nat → Nat) (its : Nat) : Nat → RSt → RSt
  | 0, s => s
  | k + 1, s => if rfg P l its s = true then rnds P l its k (rnd P l its s) else s
def runR (P : Prog) (l : Nat → Nat) : Nat → RSt
  | 0 => (P.2.2.2, fun _ => 0, 0)
  | i + 1 => rnds P l i 65 (runR P l i)
def FrR (w : Nat) (u u' : mSt) : Prop := (∀ k, k ≠ 146 + 100 * w → u'.1 k = u.1 k) ∧ ∀ k, k ≠ 143 + 100 * w → k ≠ 144 + 100 * w → k ≠ 145 + 100 * w → u'.2 k = u.2 k
theorem FrR.refl {w : Nat} {u : mSt} : FrR w u u := ⟨fun _ _ => rfl, fun _ _ _ _ => rfl⟩
theorem FrR.trans {w : Nat} {u u' u'' : mSt} (h : FrR w u u') (h' : FrR w u' u'') : FrR w u u'' := ⟨fun k hk => (h'.1 k hk).trans (h.1 k hk), fun k a b c => (h'.2 k a b c).trans (h.2 k a b c)⟩
theorem FrR.C {w : Nat} {u u' : mSt} (h : FrR w u u') {P : Prog} (hC : RepC P w u) : RepC P w u' := hC.mk (h.1 _ (by omega)) (h.1 _ (by omega)) (fun k hk => h.2 _ (by omega) (by omega) (by omega))
theorem FrR.L {w : Nat} {u u' : mSt} (h : FrR w u u') {l : Nat → Nat} (hL : RepL l w u) : RepL l w u' := by
  intro q hq
  rw [h.2 _ (by omega) (by omega) (by omega)]
  exact hL q hq
theorem e_layer {P : Prog} {w n its : Nat} {l : Nat → Nat} (k58 : Int32 → (Nat → Int32) → (Nat → Nat → Int32) → Option mSt) (hP : pOk P) (hlB : ∀ q, l q ≤ 1000) (hits : its ≤ 1000) (hn : 16 < n) : ∀ (d j : Nat) (u : mSt) (s : RSt), d ≤ 65 → d < j → RepC P w u → RepL l w u → RepR s w u → ∃ u', fX3_run_b67 n w k58 j (nI its) 1 (nI (65 - d)) u.1 u.2 = k58 (nI (its + 1)) u'.1 u'.2 ∧ RepR (rnds P l its d s) w u' ∧ FrR w u u' := by
  intro d
  induction d with
  | zero =>
    intro j u s hd hj hC hL hR
    obtain ⟨j, rfl⟩ : ∃ i, j = i + 1 := ⟨j - 1, by omega⟩
    refine ⟨u, ?_, hR, FrR.refl⟩
    rw [fX3_run_b67, if_pos (show (64 : Int32) < nI (65 - 0) by decide)]
    unfold fX3_run_b89
    rw [nI_1]
  | succ d ih =>
    intro j u s hd hj hC hL hR
    obtain ⟨j, rfl⟩ : ∃ i, j = i + 1 := ⟨j - 1, by omega⟩
    obtain ⟨u1, e1, e2, e3, e4⟩ := e_round (n := n) hP hC hL hlB hits hR hn
    have hF : FrR w u u1 := ⟨e3, e4⟩
    rw [fX3_run_b67, if_neg (show ¬ (64 : Int32) < nI (65 - (d + 1)) from nI_nlt (a := 64) (b := 65 - (d + 1)) (by omega) (by omega)), i1, e1, bsome, nI_1]
    dsimp only
    rw [show 65 - (d + 1) + 1 = 65 - d by omega]
    unfold rnds
    cases hh : rfg P l its s with
    | false =>
      rw [hh, if_neg (by decide)] at e2
      rw [if_neg (by decide)]
      obtain ⟨j, rfl⟩ : ∃ i, j = i + 1 := ⟨j - 1, by omega⟩
      refine ⟨u1, ?_, e2, hF⟩
      rw [fX3_run_b67, show b01 false = 0 from rfl, i0]
      unfold fX3_run_b89
      rw [nI_1, ite_self]
    | true =>
      rw [hh, if_pos rfl] at e2
      rw [if_pos rfl]
      obtain ⟨u2, f1, f2, f3⟩ := ih j u1 _ (by omega) (by omega) (hF.C hC) (hF.L hL) e2
      exact ⟨u2, f1, f2, hF.trans f3⟩
theorem e_layers {P : Prog} {w n : Nat} {l : Nat → Nat} (hP : pOk P) (hlB : ∀ q, l q ≤ 1000) (hn : 66 < n) : ∀ (d i j : Nat) (u : mSt), i + d = 4 → d < j → RepC P w u → RepL l w u → RepR (runR P l i) w u → ∃ u', fX3_run_b58 n w j (nI i) u.1 u.2 = some u' ∧ RepR (runR P l 4) w u' ∧ FrR w u u' := by
  intro d
  induction d with
  | zero =>
    intro i j u hd hj hC hL hR
    obtain ⟨j, rfl⟩ : ∃ i, j = i + 1 := ⟨j - 1, by omega⟩
    have : i = 4 := hd
    subst this
    refine ⟨u, ?_, hR, FrR.refl⟩
    rw [fX3_run_b58, if_pos (show (4 : Int32) ≤ nI 4 by decide)]
  | succ d ih =>
    intro i j u hd hj hC hL hR
    obtain ⟨j, rfl⟩ : ∃ i, j = i + 1 := ⟨j - 1, by omega⟩
    obtain ⟨u1, e1, e2, e3⟩ := e_layer (n := n) (w := w) (its := i) (fX3_run_b58 n w j) hP hlB (by omega) (by omega) 65 n u (runR P l i) (by omega) (by omega) hC hL hR
    obtain ⟨u2, f1, f2, f3⟩ := ih (i + 1) j u1 (by omega) (by omega) (e3.C hC) (e3.L hL) e2
    refine ⟨u2, ?_, f2, e3.trans f3⟩
    rw [fX3_run_b58, if_neg (show ¬ (4 : Int32) ≤ nI i from nI_ge (b := 4) (by omega) (by decide))]
    exact e1.trans f1
theorem e_run {P : Prog} {w n : Nat} {l : Nat → Nat} {u : mSt} (hP : pOk P) (hC : RepC P w u) (hL : RepL l w u) (hlB : ∀ q, l q ≤ 1000) (hn : 66 < n) : ∃ u', fX3_run n w u.1 u.2 = some u' ∧ RepR (runR P l 4) w u' ∧ FrR w u u' := by
  have hP1 := hP.1
  have hI : upd u.1 (146 + 100 * w) 0 (118 + 100 * w) = nI P.1 := (upd_no (by omega)).trans hC.1
  obtain ⟨R, ⟨g1, g2, g3⟩, g4⟩ := lp0 (fun j i (R : Nat → Nat → Int32) => fX3_run_b24 n w j (nI i) (upd u.1 (146 + 100 * w) 0) R) P.1 (fun k R => RepH (fun f => decide (f / 16 < k) && P.2.2.2 f) w R ∧ (∀ f, f < 64 → R (145 + 100 * w) f = if f / 16 < k ∧ P.2.2.2 f = true then nI 0 else (-9)) ∧ ∀ k, k ≠ 143 + 100 * w → k ≠ 145 + 100 * w → R k = u.2 k)
    (by
      intro j k R hk ⟨g1, g2, g3⟩
      try dsimp only
      obtain ⟨R', e1, e2, e3, e4⟩ := e_hold (n := n) (w := w) (q := k) (c := 0) (I := upd u.1 (146 + 100 * w) 0) (R := R) (m := R (117 + 100 * w) k) (T := fun i => P.2.2.2 (16 * k + i)) (by omega) (by rw [g3 _ (by omega) (by omega)]; exact hC.2.2.2 k (by omega)) (by omega)
      rw [fX3_run_b24, hI, if_neg (nI_ge hk (by omega)), gpos (inb_nI (by omega) (by decide)), getA_nI (by omega), show (0 : Int32) = nI 0 from rfl]
      rw [show upd u.1 (146 + 100 * w) (nI 0) = upd u.1 (146 + 100 * w) 0 from rfl, e1, bsome, nI_1]
      refine ⟨R', ⟨fun q hq i => ?_, fun f hf => ?_, fun i h1 h2 => (e4 i h1 h2).trans (g3 i h1 h2)⟩, rfl⟩
      · rw [e2 q]
        by_cases eq : q = k
        · subst eq
          rw [if_pos rfl, bit_or, g1 q hq i, g3 _ (by omega) (by omega), hC.2.2.2 q hq i]
          by_cases hi : i < 16
          · have a1 : ¬ (16 * q + i) / 16 < q := by omega
            have a2 : (16 * q + i) / 16 < q + 1 := by omega
            simp [hi, a1, a2]
          · simp [hi]
        · rw [if_neg eq, g1 q hq i]
          by_cases hi : i < 16
          · have a1 : decide ((16 * q + i) / 16 < k + 1) = decide ((16 * q + i) / 16 < k) := decide_eq_decide.mpr (by omega)
            dsimp only
            rw [a1]
          · simp [hi]
      · rw [e3 f hf, g2 f hf]
        by_cases e : f / 16 = k
        · rw [show 16 * k + f % 16 = f by omega]
          by_cases eN : P.2.2.2 f = true
          · rw [if_pos ⟨e, eN⟩, if_pos ⟨by omega, eN⟩]
          · rw [if_neg (fun h => eN h.2), if_neg (fun h => eN h.2), if_neg (fun h => eN h.2)]
        · rw [if_neg (fun h => e h.1)]
          by_cases eN : f / 16 < k ∧ P.2.2.2 f = true
          · rw [if_pos eN, if_pos ⟨by omega, eN.2⟩]
          · rw [if_neg eN, if_neg (show ¬ (f / 16 < k + 1 ∧ P.2.2.2 f = true) from fun h => eN ⟨by omega, h.2⟩)])
    (s := flA (flA u.2 (145 + 100 * w) 64 (-9)) (143 + 100 * w) 4 0) ⟨fun q hq i => by rw [flA_at hq, bit_0]; simp, fun f hf => by rw [flA_ne (by omega), flA_at hf, if_neg (by omega)], fun k h1 h2 => by rw [flA_ne h1, flA_ne h2]⟩ (n := n) (by omega)
  have hF : FrR w u (upd u.1 (146 + 100 * w) 0, R) := ⟨fun k hk => upd_no hk, fun k h1 _ h3 => g3 k h1 h3⟩
  have hR : RepR (runR P l 0) w (upd u.1 (146 + 100 * w) 0, R) := by
    refine ⟨fun q hq i => ?_, fun f hf => ?_, upd_at⟩
    · show bit (R _ q) i = (decide (i < 16) && P.2.2.2 (16 * q + i))
      rw [g1 q hq i]
      by_cases e : P.2.2.2 (16 * q + i) = true
      · have := hP.2.2.2.2 _ e
        have : (16 * q + i) / 16 < P.1 := by omega
        simp [this]
      · have : P.2.2.2 (16 * q + i) = false := by simpa using e
        simp [this]
    · show R _ f = if P.2.2.2 f = true then nI 0 else (-9)
      rw [g2 f hf]
      by_cases e : P.2.2.2 f = true
      · have := hP.2.2.2.2 _ e
        rw [if_pos ⟨by omega, e⟩, if_pos e]
      · rw [if_neg (fun h => e h.2), if_neg e]
  obtain ⟨u', f1, f2, f3⟩ := e_layers (n := n) (w := w) hP hlB hn 4 0 n _ rfl (by omega) (hF.C hC) (hF.L hL) hR
  refine ⟨u', ?_, f2, hF.trans f3⟩
  unfold fX3_run
  refine g4.trans ?_
  try dsimp only
  rw [fX3_run_b24, hI, if_pos (nI_le (Nat.le_refl _) (by omega))]
  exact f1
