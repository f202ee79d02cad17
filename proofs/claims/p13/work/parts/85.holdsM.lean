/-! all rounds of the reference -/
def RepRM (s : RSt) (v : mSt) : Prop := RepHM s.1 v.2 ∧ (∀ f, f < 64 → v.2 24 f = nI (s.2.1 f)) ∧ v.1 25 = nI s.2.2
theorem e_cp23 {n : Nat} {a1 a2 : Int32} {I : Nat → Int32} {R : Nat → Nat → Int32} (hn : 64 < n) : ∃ R', fX8_goesRound_b4 n n a1 a2 0 I R = fX8_goesRound_b30 n n a1 a2 0 I R' ∧ (∀ f, f < 64 → R' 23 f = R 22 f) ∧ ∀ k, k ≠ 23 → R' k = R k := by
  obtain ⟨s, ⟨g1, g2⟩, g4⟩ := lp0 (fun j i (s : Nat → Nat → Int32) => fX8_goesRound_b4 n j a1 a2 (nI i) I s) 64 (fun k s => (∀ f, f < k → s 23 f = R 22 f) ∧ ∀ k, k ≠ 23 → s k = R k)
    (by
      intro j k s hk ⟨g1, g2⟩
      try dsimp only
      rw [fX8_goesRound_b4, if_neg (g64 hk), gpos (inb_nI hk (by decide)), gpos (inb_nI hk (by decide)), nI_1, getA_nI (by omega)]
      refine ⟨_, ⟨fun f hf => ?_, fun i hi => (setA_ne hi).trans (g2 i hi)⟩, rfl⟩
      rw [setA_at (by omega)]
      by_cases e : f = k
      · rw [if_pos e, g2 22 (by decide), e]
      · rw [if_neg e]; exact g1 f (by omega))
    (s := R) ⟨fun f hf => absurd hf (by omega), fun _ _ => rfl⟩ (n := n) hn
  refine ⟨s, ?_, g1, g2⟩
  refine g4.trans ?_
  try dsimp only
  rw [fX8_goesRound_b4, if_pos (show (64 : Int32) ≤ nI 64 by decide)]
theorem e_cp22 {n : Nat} {b : Bool} {I : Nat → Int32} {R : Nat → Nat → Int32} (hn : 64 < n) : ∃ R', fX8_goesRound_b140 n n (b01 b) 0 I R = some (b01 b, upd I 25 (I 25 + b01 b), R') ∧ (∀ f, f < 64 → R' 22 f = R 23 f) ∧ ∀ k, k ≠ 22 → R' k = R k := by
  obtain ⟨s, ⟨g1, g2⟩, g4⟩ := lp0 (fun j i (s : Nat → Nat → Int32) => fX8_goesRound_b140 n j (b01 b) (nI i) I s) 64 (fun k s => (∀ f, f < k → s 22 f = R 23 f) ∧ ∀ k, k ≠ 22 → s k = R k)
    (by
      intro j k s hk ⟨g1, g2⟩
      try dsimp only
      rw [fX8_goesRound_b140, if_neg (g64 hk), gpos (inb_nI hk (by decide)), gpos (inb_nI hk (by decide)), nI_1, getA_nI (by omega)]
      refine ⟨_, ⟨fun f hf => ?_, fun i hi => (setA_ne hi).trans (g2 i hi)⟩, rfl⟩
      rw [setA_at (by omega)]
      by_cases e : f = k
      · rw [if_pos e, g2 23 (by decide), e]
      · rw [if_neg e]; exact g1 f (by omega))
    (s := R) ⟨fun f hf => absurd hf (by omega), fun _ _ => rfl⟩ (n := n) hn
  refine ⟨s, ?_, g1, g2⟩
  refine g4.trans ?_
  try dsimp only
  rw [fX8_goesRound_b140, if_pos (show (64 : Int32) ≤ nI 64 by decide)]
  unfold fX8_goesRound_b178
  cases b <;> rfl
def FrQ (v v' : mSt) : Prop := (∀ k, k ≠ 25 → v'.1 k = v.1 k) ∧ ∀ k, k < 21 ∨ 24 < k → v'.2 k = v.2 k
theorem FrQ.refl {v : mSt} : FrQ v v := ⟨fun _ _ => rfl, fun _ _ => rfl⟩
theorem FrQ.trans {v v' v'' : mSt} (h : FrQ v v') (h' : FrQ v' v'') : FrQ v v'' := ⟨fun k hk => (h'.1 k hk).trans (h.1 k hk), fun k hk => (h'.2 k hk).trans (h.2 k hk)⟩
theorem FrQ.M {v v' : mSt} (h : FrQ v v') {P : Prog} (hM : RepM P v) : RepM P v' := hM.mk (h.1 _ (by omega)) (h.1 _ (by omega)) (fun k hk => h.2 _ (by omega))
theorem RepRM.congr {s s' : RSt} {v : mSt} (h : RepRM s v) (h1 : ∀ f, f < 64 → s.1 f = s'.1 f) (h2 : ∀ f, f < 64 → s.2.1 f = s'.2.1 f) (h3 : s.2.2 = s'.2.2) : RepRM s' v :=
  ⟨fun f hf => by rw [← h1 f hf]; exact h.1 f hf, fun f hf => by rw [← h2 f hf]; exact h.2.1 f hf, by rw [← h3]; exact h.2.2⟩
theorem anyB_no {p : Nat → Bool} {n : Nat} (h : anyB p n = false) : ∀ k, k < n → p k = false := by
  intro k hk
  cases e : p k with
  | false => rfl
  | true =>
    have := anyB_iff.mpr ⟨k, hk, e⟩
    rw [h] at this
    exact absurd this (by decide)
theorem e_roundM {P : Prog} {n its : Nat} {v : mSt} {l : Nat → Nat} {s : RSt} (hP : pOk P) (h : RepM P v) (hl : RepLM l v) (hlB : ∀ q, l q ≤ 1000) (hits : its ≤ 1000) (hR : RepRM s v) (hn : 64 < n) : ∃ v', fX8_goesRound n (nI its) v.1 v.2 = some (b01 (rfg P l its s), v') ∧ RepRM (if rfg P l its s = true then rnd P l its s else s) v' ∧ RepLM l v' ∧ FrQ v v' := by
  have h5 := hP.2.1
  obtain ⟨R1, a1, a2, a3⟩ := e_cp23 (n := n) (a1 := nI its) (a2 := 0) (I := v.1) (R := v.2) hn
  have hM1 : RepM P (v.1, R1) := h.fr (fun k hk => a3 _ (by omega))
  have hl1 : RepLM l (v.1, R1) := fun q hq => by show R1 21 q = _; rw [a3 _ (by decide)]; exact hl q hq
  have hH1 : RepHM s.1 R1 := fun f hf => by rw [a3 _ (by decide)]; exact hR.1 f hf
  obtain ⟨t, g1, g4⟩ := lp0 (fun j i (t : Int32 × (Nat → Nat → Int32)) => fX8_goesRound_b30 n j (nI its) t.1 (nI i) v.1 t.2) P.2.1 (fun k t => RepT s.1 s.2.1 s.2.2 (v.1, R1) (Mk P l its s.1 k 0) t)
    (by
      intro j k t hk ht
      try dsimp only
      obtain ⟨t', e1, e2⟩ := e_ruleM (n := n) (its := its) (fX8_goesRound_b30 n j) hP hM1 hl1 hlB hits hH1 hR.2.2 hk (by omega) ht
      refine ⟨t', e2, ?_⟩
      rw [fX8_goesRound_b30, h.2.1, if_neg (nI_ge hk (by omega))]
      exact e1)
    (s := ((0 : Int32), R1)) ⟨fun f hf => by
        show R1 23 f = _
        rw [a2 f hf, hR.1 f hf]
        unfold Mk
        simp [anyB], fun f hf => by
        show R1 24 f = _
        rw [a3 _ (by decide), hR.2.1 f hf]
        unfold Mk
        simp [anyB], by
        have : anyB (Mk P l its s.1 0 0) 64 = false := by
          cases hh : anyB (Mk P l its s.1 0 0) 64 with
          | false => rfl
          | true =>
            obtain ⟨z, _, hz⟩ := anyB_iff.mp hh
            unfold Mk at hz
            simp [anyB] at hz
        rw [this]; rfl, fun _ _ _ => rfl⟩ (n := n) (by omega)
  have eM : ∀ f, Mk P l its s.1 P.2.1 0 f = nwf P l its s.1 f := by
    intro f
    unfold Mk nwf
    simp
  have g2 : RepT s.1 s.2.1 s.2.2 (v.1, R1) (nwf P l its s.1) t := g1.congr (fun f _ => eM f)
  have e0 : fX8_goesRound n (nI its) v.1 v.2 = fX8_goesRound_b140 n n (b01 (rfg P l its s)) 0 v.1 t.2 := by
    unfold fX8_goesRound
    refine a1.trans (g4.trans ?_)
    try dsimp only
    rw [fX8_goesRound_b30, h.2.1, if_pos (nI_le (Nat.le_refl _) (by omega)), g2.2.2.1]
    rfl
  obtain ⟨R2, f1, f2, f3⟩ := e_cp22 (n := n) (b := rfg P l its s) (I := v.1) (R := t.2) hn
  refine ⟨_, e0.trans f1, ?_, fun q hq => ?_, fun k hk => upd_no hk, fun k hk => ?_⟩
  · have hr : RepRM (fun f => s.1 f || nwf P l its s.1 f, fun f => if nwf P l its s.1 f = true then s.2.2 + 1 else s.2.1 f, if rfg P l its s = true then s.2.2 + 1 else s.2.2) (upd v.1 25 (v.1 25 + b01 (rfg P l its s)), R2) := by
      refine ⟨fun f hf => ?_, fun f hf => ?_, ?_⟩
      · exact (f2 f hf).trans (g2.1 f hf)
      · show R2 24 f = _
        rw [f3 _ (by decide)]; exact g2.2.1 f hf
      · dsimp only
        rw [upd_at, hR.2.2]
        cases rfg P l its s
        · show nI s.2.2 + nI 0 = nI s.2.2
          rw [nI_add]; rfl
        · show nI s.2.2 + nI 1 = nI (s.2.2 + 1)
          rw [nI_add]
    cases hh : rfg P l its s with
    | true =>
      rw [hh] at hr
      rw [if_pos rfl]
      rw [if_pos rfl] at hr
      exact hr
    | false =>
      rw [hh] at hr
      rw [if_neg (by decide)]
      have hno := anyB_no (p := nwf P l its s.1) (n := 64) hh
      exact hr.congr (fun f hf => by simp [hno f hf]) (fun f hf => by simp [hno f hf]) (by simp)
  · show R2 21 q = _
    rw [f3 _ (by decide), g2.2.2.2 _ (by decide) (by decide)]
    exact hl1 q hq
  · show R2 k = v.2 k
    rw [f3 _ (by omega), g2.2.2.2 _ (by omega) (by omega)]
    exact a3 k (by omega)
/-! rounds end -/
def cntB (p : Nat → Bool) : Nat → Nat
  | 0 => 0
  | k + 1 => cntB p k + if p k = true then 1 else 0
theorem cntB_le (p : Nat → Bool) (n : Nat) : cntB p n ≤ n := by
  induction n with
  | zero => exact Nat.le_refl _
  | succ n ih =>
    unfold cntB
    split <;> omega
theorem cntB_mono {p q : Nat → Bool} (h : ∀ k, p k = true → q k = true) (n : Nat) : cntB p n ≤ cntB q n := by
  induction n with
  | zero => exact Nat.le_refl _
  | succ n ih =>
    unfold cntB
    by_cases e : p n = true
    · rw [if_pos e, if_pos (h n e)]; omega
    · rw [if_neg e]; omega
theorem cntB_lt {p q : Nat → Bool} (h : ∀ k, p k = true → q k = true) {n k : Nat} (hk : k < n) (h1 : p k = false) (h2 : q k = true) : cntB p n + 1 ≤ cntB q n := by
  induction n with
  | zero => omega
  | succ n ih =>
    unfold cntB
    by_cases e : k = n
    · subst e
      rw [if_pos h2, h1, if_neg (by decide)]
      have := cntB_mono h k
      omega
    · have := ih (by omega)
      by_cases e2 : p n = true
      · rw [if_pos e2, if_pos (h n e2)]; omega
      · rw [if_neg e2]; omega
theorem rnd_cnt {P : Prog} {l : Nat → Nat} {its : Nat} {s : RSt} (h : rfg P l its s = true) : cntB s.1 64 + 1 ≤ cntB (rnd P l its s).1 64 := by
  obtain ⟨f, hf, h2⟩ := anyB_iff.mp h
  refine cntB_lt (p := s.1) (q := (rnd P l its s).1) (fun k hk => ?_) hf ?_ ?_
  · show (s.1 k || _) = true
    rw [hk]; rfl
  · unfold nwf at h2
    rw [Bool.and_eq_true] at h2
    simpa using h2.1
  · show (_ || nwf P l its s.1 f) = true
    rw [h2]; simp
theorem rnds_end {P : Prog} {l : Nat → Nat} {its : Nat} : ∀ k (s : RSt), 64 < cntB s.1 64 + k → rfg P l its (rnds P l its k s) = false := by
  intro k
  induction k with
  | zero =>
    intro s h
    have := cntB_le s.1 64
    omega
  | succ k ih =>
    intro s h
    unfold rnds
    cases hh : rfg P l its s with
    | false => rw [if_neg (by decide)]; exact hh
    | true =>
      rw [if_pos rfl]
      have := rnd_cnt hh
      exact ih _ (by omega)
theorem e_layerM {P : Prog} {n its : Nat} {l : Nat → Nat} (k44 : Int32 → (Nat → Int32) → (Nat → Nat → Int32) → Option mSt) (hP : pOk P) (hlB : ∀ q, l q ≤ 1000) (hits : its ≤ 1000) (hn : 64 < n) : ∀ (d j : Nat) (v : mSt) (s : RSt), rfg P l its (rnds P l its d s) = false → d + 1 < j → RepM P v → RepLM l v → RepRM s v → ∃ v', fX8_findHolds_b51 n k44 j (nI its) 1 v.1 v.2 = k44 (nI (its + 1)) v'.1 v'.2 ∧ RepRM (rnds P l its d s) v' ∧ RepLM l v' ∧ FrQ v v' := by
  intro d
  induction d with
  | zero =>
    intro j v s he hj hM hL hR
    obtain ⟨j, rfl⟩ : ∃ i, j = i + 1 + 1 := ⟨j - 2, by omega⟩
    obtain ⟨v1, e1, e2, e3, e4⟩ := e_roundM (n := n) hP hM hL hlB hits hR hn
    have he' : rfg P l its s = false := he
    rw [he', if_neg (by decide)] at e2
    refine ⟨v1, ?_, e2, e3, e4⟩
    rw [fX8_findHolds_b51, i1, e1, bsome, he', fX8_findHolds_b51]
    dsimp only
    rw [show b01 false = 0 from rfl, i0, nI_1]
  | succ d ih =>
    intro j v s he hj hM hL hR
    obtain ⟨j, rfl⟩ : ∃ i, j = i + 1 + 1 := ⟨j - 2, by omega⟩
    obtain ⟨v1, e1, e2, e3, e4⟩ := e_roundM (n := n) hP hM hL hlB hits hR hn
    rw [fX8_findHolds_b51, i1, e1, bsome]
    dsimp only
    unfold rnds at he ⊢
    cases hh : rfg P l its s with
    | false =>
      rw [hh, if_neg (by decide)] at e2
      rw [if_neg (by decide)]
      refine ⟨v1, ?_, e2, e3, e4⟩
      rw [fX8_findHolds_b51, show b01 false = 0 from rfl, i0, nI_1]
    | true =>
      rw [hh, if_pos rfl] at e2 he
      rw [if_pos rfl]
      obtain ⟨v2, f1, f2, f3, f4⟩ := ih (j + 1) v1 _ he (by omega) (e4.M hM) e3 e2
      exact ⟨v2, f1, f2, f3, e4.trans f4⟩
theorem e_layersM {P : Prog} {n : Nat} {l : Nat → Nat} (hP : pOk P) (hlB : ∀ q, l q ≤ 1000) (hn : 70 < n) : ∀ (d i j : Nat) (v : mSt), i + d = 4 → d < j → RepM P v → RepLM l v → RepRM (runR P l i) v → ∃ v', fX8_findHolds_b44 n j (nI i) v.1 v.2 = some v' ∧ RepRM (runR P l 4) v' ∧ RepLM l v' ∧ FrQ v v' := by
  intro d
  induction d with
  | zero =>
    intro i j v hd hj hM hL hR
    obtain ⟨j, rfl⟩ : ∃ i, j = i + 1 := ⟨j - 1, by omega⟩
    have : i = 4 := hd
    subst this
    refine ⟨v, ?_, hR, hL, FrQ.refl⟩
    rw [fX8_findHolds_b44, if_pos (show (4 : Int32) ≤ nI 4 by decide)]
  | succ d ih =>
    intro i j v hd hj hM hL hR
    obtain ⟨j, rfl⟩ : ∃ i, j = i + 1 := ⟨j - 1, by omega⟩
    obtain ⟨v1, e1, e2, e3, e4⟩ := e_layerM (n := n) (its := i) (fX8_findHolds_b44 n j) hP hlB (by omega) (by omega) 65 n v (runR P l i) (rnds_end _ _ (by omega)) (by omega) hM hL hR
    obtain ⟨v2, f1, f2, f3, f4⟩ := ih (i + 1) j v1 (by omega) (by omega) (e4.M hM) e3 e2
    refine ⟨v2, ?_, f2, f3, e4.trans f4⟩
    rw [fX8_findHolds_b44, if_neg (g4' (by omega))]
    exact e1.trans f1
def fin (P : Prog) : RSt := runR P (lays P 3) 4
theorem e_findHolds {P : Prog} {n : Nat} {v : mSt} (hP : pOk P) (h : RepM P v) (hL : LayP P) (hn : 70 < n) : ∃ v', fX8_findHolds n v.1 v.2 = some v' ∧ RepRM (fin P) v' ∧ RepLM (lays P 3) v' ∧ FrQ v v' := by
  obtain ⟨R1, a1, a2, a3⟩ := e_findLayers (n := n) hP h hL (by omega)
  unfold fX8_findHolds
  rw [a1, bsome]
  dsimp only
  obtain ⟨R, ⟨g1, g2, g3⟩, g4⟩ := lp0 (fun j i (R : Nat → Nat → Int32) => fX8_findHolds_b11 n j (nI i) (upd v.1 25 0) R) 64 (fun k R => (∀ f, f < k → R 22 f = R1 13 f) ∧ (∀ f, f < k → R 24 f = 0) ∧ ∀ k, k ≠ 22 → k ≠ 24 → R k = R1 k)
    (by
      intro j k R hk ⟨g1, g2, g3⟩
      try dsimp only
      have hb : inb (nI k) 64 = true := inb_nI hk (by decide)
      rw [fX8_findHolds_b11, if_neg (g64 hk), gpos hb, gpos hb, gpos hb, nI_1, getA_nI (by omega)]
      refine ⟨_, ⟨fun f hf => ?_, fun f hf => ?_, fun i h1 h2 => (setA_ne h2).trans ((setA_ne h1).trans (g3 i h1 h2))⟩, rfl⟩
      · rw [setA_ne (by decide), setA_at (by omega)]
        by_cases e : f = k
        · rw [if_pos e, g3 13 (by decide) (by decide), e]
        · rw [if_neg e]; exact g1 f (by omega)
      · rw [setA_at (by omega), setA_ne (by decide)]
        by_cases e : f = k
        · rw [if_pos e]
        · rw [if_neg e]; exact g2 f (by omega))
    (s := R1) ⟨fun f hf => absurd hf (by omega), fun f hf => absurd hf (by omega), fun _ _ _ => rfl⟩ (n := n) (by omega)
  have hF : FrQ v (upd v.1 25 0, R) := ⟨fun k hk => upd_no hk, fun k hk => (g3 k (by omega) (by omega)).trans (a3 k (by omega))⟩
  have hl : RepLM (lays P 3) (upd v.1 25 0, R) := fun q hq => by
    show R 21 q = _
    rw [g3 _ (by decide) (by decide)]; exact a2 q hq
  have hR : RepRM (runR P (lays P 3) 0) (upd v.1 25 0, R) := by
    refine ⟨fun f hf => ?_, fun f hf => g2 f hf, upd_at (f := v.1) (k := 25)⟩
    show R 22 f = b01 (P.2.2.2 f)
    rw [g1 f hf, a3 _ (by decide), h.2.2.2.2 f hf]
    rfl
  obtain ⟨v', f1, f2, f3, f4⟩ := e_layersM (n := n) hP (fun q => by have := lays_le hP 3 q; omega) hn 4 0 n _ rfl (by omega) (hF.M h) hl hR
  refine ⟨v', ?_, f2, f3, hF.trans f4⟩
  refine g4.trans ?_
  try dsimp only
  rw [fX8_findHolds_b11, if_pos (show (64 : Int32) ≤ nI 64 by decide)]
  exact f1
