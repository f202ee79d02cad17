/-! layers: the sweeps are the same on both sides -/
theorem lp {σ β : Type} (F : Nat → Nat → σ → Option β) (N : Nat) (Inv : Nat → σ → Prop) (hstep : ∀ j i s, i < N → Inv i s → ∃ s', Inv (i + 1) s' ∧ F (j + 1) i s = F j (i + 1) s') : ∀ d i s, i + d = N → Inv i s → ∀ j, ∃ s', Inv N s' ∧ F (j + d) i s = F j N s' := by
  intro d
  induction d with
  | zero =>
    intro i s h1 h2 j
    have : i = N := h1
    subst this
    exact ⟨s, h2, rfl⟩
  | succ d ih =>
    intro i s h1 h2 j
    obtain ⟨s1, h3, h4⟩ := hstep (j + d) i s (by omega) h2
    obtain ⟨s2, h5, h6⟩ := ih (i + 1) s1 (by omega) h3 j
    exact ⟨s2, h5, by rw [show j + (d + 1) = (j + d) + 1 from rfl, h4, h6]⟩
theorem lp0 {σ β : Type} (F : Nat → Nat → σ → Option β) (N : Nat) (Inv : Nat → σ → Prop) (hstep : ∀ j i s, i < N → Inv i s → ∃ s', Inv (i + 1) s' ∧ F (j + 1) i s = F j (i + 1) s') {s : σ} (h0 : Inv 0 s) {n : Nat} (hn : N < n) : ∃ s', Inv N s' ∧ F n 0 s = F ((n - N - 1) + 1) N s' := by
  obtain ⟨s', h1, h2⟩ := lp F N Inv hstep N 0 s (by omega) h0 (n - N)
  refine ⟨s', h1, ?_⟩
  rw [show n - N + N = n by omega] at h2
  rw [h2, show n - N - 1 + 1 = n - N by omega]
def b01 (b : Bool) : Int32 := if b = true then 1 else 0
theorem b01B (b : Bool) : isB (b01 b) = true := by cases b <;> rfl
theorem b01_0 {b : Bool} : b01 b = 0 ↔ b = false := by cases b <;> simp [b01]
def updN (l : Nat → Nat) (k x : Nat) : Nat → Nat := fun j => if j = k then x else l j
def leastR (P : Prog) (l : Nat → Nat) (r : Nat) : Nat := if P.2.2.1 2 r < 2 then l (P.2.2.1 4 r) else max (l (P.2.2.1 4 r)) (if P.2.2.1 2 r = 3 then l (P.2.2.1 5 r) + 1 else l (P.2.2.1 5 r))
def swR (P : Prog) (r : Nat) (s : (Nat → Nat) × Bool) : (Nat → Nat) × Bool := if s.1 (P.2.2.1 3 r) < leastR P s.1 r then (updN s.1 (P.2.2.1 3 r) (leastR P s.1 r), true) else s
def swp (P : Prog) : Nat → (Nat → Nat) × Bool → (Nat → Nat) × Bool
  | 0, s => s
  | k + 1, s => swR P k (swp P k s)
def sw (P : Prog) (l : Nat → Nat) : (Nat → Nat) × Bool := swp P P.2.1 (l, false)
def lays (P : Prog) : Nat → Nat → Nat
  | 0 => fun _ => 0
  | k + 1 => (sw P (lays P k)).1
def LayP (P : Prog) : Prop := (sw P (lays P 3)).2 = false
theorem swp_le {P : Prog} {B : Nat} {l : Nat → Nat} (h : ∀ q, l q ≤ B) (b : Bool) (k : Nat) : ∀ q, (swp P k (l, b)).1 q ≤ B + k := by
  induction k with
  | zero => exact h
  | succ k ih =>
    intro q
    unfold swp swR
    have h1 : leastR P (swp P k (l, b)).1 k ≤ B + k + 1 := by
      unfold leastR
      have := ih (P.2.2.1 4 k)
      have := ih (P.2.2.1 5 k)
      split
      · omega
      · split <;> omega
    split
    · show updN _ _ _ q ≤ _
      unfold updN
      split
      · omega
      · have := ih q; omega
    · have := ih q; omega
theorem lays_le {P : Prog} (hP : pOk P) (k : Nat) : ∀ q, lays P k q ≤ 5 * k := by
  induction k with
  | zero => intro q; exact Nat.le_refl _
  | succ k ih =>
    intro q
    have := swp_le (P := P) ih false P.2.1 q
    have h5 := hP.2.1
    show (swp P P.2.1 (lays P k, false)).1 q ≤ _
    omega
theorem swp_st {P : Prog} {s : (Nat → Nat) × Bool} (k : Nat) (h : (swp P k s).2 = false) : swp P k s = s := by
  induction k with
  | zero => rfl
  | succ k ih =>
    unfold swp swR at h ⊢
    by_cases e : (swp P k s).1 (P.2.2.1 3 k) < leastR P (swp P k s).1 k
    · rw [if_pos e] at h; exact absurd h (by simp)
    · rw [if_neg e] at h ⊢; exact ih h
theorem lays_st {P : Prog} {k : Nat} (h : (sw P (lays P k)).2 = false) : ∀ m, lays P (k + m) = lays P k := by
  intro m
  induction m with
  | zero => rfl
  | succ m ih =>
    show (sw P (lays P (k + m))).1 = _
    rw [ih]
    exact congrArg Prod.fst (swp_st _ h)
theorem lay_of {P : Prog} {k : Nat} (hk : k ≤ 3) (h : (sw P (lays P k)).2 = false) : LayP P ∧ lays P k = lays P 3 := by
  have := lays_st h (3 - k)
  rw [show k + (3 - k) = 3 by omega] at this
  exact ⟨by unfold LayP; rw [this]; exact h, this.symm⟩
def RepL (l : Nat → Nat) (w : Nat) (u : mSt) : Prop := ∀ q, q < 4 → u.2 (132 + 100 * w) q = nI (l q)
theorem e_least {P : Prog} {w n r : Nat} {u : mSt} {l : Nat → Nat} (hP : pOk P) (h : RepC P w u) (hl : RepL l w u) (hB : ∀ q, l q ≤ 1000) (hr : r < P.2.1) : fX1_leastOfHead n w (nI r) u.1 u.2 = some (nI (leastR P l r), u) := by
  have hk := hP.2.2.2.1 r hr
  have hP1 := hP.1
  have hb : inb (nI r) 5 = true := inb_nI (by have := hP.2.1; omega) (by decide)
  have c2 : getA u.2 (113 + 100 * w) (nI r) = nI (P.2.2.1 2 r) := h.at 2 (by decide) hr hP.2.1
  have c4 : getA u.2 (115 + 100 * w) (nI r) = nI (P.2.2.1 4 r) := h.at 4 (by decide) hr hP.2.1
  have c5 : getA u.2 (116 + 100 * w) (nI r) = nI (P.2.2.1 5 r) := h.at 5 (by decide) hr hP.2.1
  have l4 := hl (P.2.2.1 4 r) (by omega)
  have l5 := hl (P.2.2.1 5 r) (by omega)
  have b4 := hB (P.2.2.1 4 r)
  have b5 := hB (P.2.2.1 5 r)
  unfold fX1_leastOfHead fX1_leastOfHead_b64 leastR
  rw [gpos hb, c4, gpos (inb_nI (by omega) (by decide)), e_hasOther hP h hr, bsome, getA_nI (by omega), l4]
  dsimp only
  by_cases e : P.2.2.1 2 r < 2
  · rw [if_pos e, if_pos e, i0]
  · rw [if_neg e, if_neg e, i1, gpos hb, c5, gpos (inb_nI (by omega) (by decide)), gpos hb, c2, getA_nI (by omega), l5]
    by_cases e3 : P.2.2.1 2 r = 3
    · rw [if_pos e3, if_pos (show nI (P.2.2.1 2 r) = 3 by rw [e3]; rfl), nI_1]
      by_cases g : l (P.2.2.1 4 r) < l (P.2.2.1 5 r) + 1
      · rw [if_pos (nI_lt g (by omega)), Nat.max_eq_right (by omega)]
      · rw [if_neg (nI_nlt (by omega) (by omega)), Nat.max_eq_left (by omega)]
    · rw [if_neg e3, if_neg (show ¬ nI (P.2.2.1 2 r) = 3 from nI_lit (b := 3) (by omega) (by decide) e3)]
      by_cases g : l (P.2.2.1 4 r) < l (P.2.2.1 5 r)
      · rw [if_pos (nI_lt g (by omega)), Nat.max_eq_right (by omega)]
      · rw [if_neg (nI_nlt (by omega) (by omega)), Nat.max_eq_left (by omega)]
theorem RepC.fr {P : Prog} {w : Nat} {u : mSt} (h : RepC P w u) {R : Nat → Nat → Int32} (h3 : ∀ k, k < 7 → R (111 + k + 100 * w) = u.2 (111 + k + 100 * w)) : RepC P w (u.1, R) := h.mk rfl rfl h3
theorem e_raised {P : Prog} {w n : Nat} {u : mSt} {l : Nat → Nat} (hP : pOk P) (h : RepC P w u) (hl : RepL l w u) (hB : ∀ q, l q ≤ 900) (hn : 5 < n) : ∃ R, fX1_isRaised n w u.1 u.2 = some (b01 (sw P l).2, u.1, R) ∧ RepL (sw P l).1 w (u.1, R) ∧ ∀ k, k ≠ 132 + 100 * w → R k = u.2 k := by
  have h5 := hP.2.1
  have h1 := hP.1
  obtain ⟨s, ⟨g1, g2, g3⟩, g4⟩ := lp0 (fun j i (s : Int32 × (Nat → Nat → Int32)) => fX1_isRaised_b4 n w j s.1 (nI i) u.1 s.2) P.2.1 (fun i s => s.1 = b01 (swp P i (l, false)).2 ∧ RepL (swp P i (l, false)).1 w (u.1, s.2) ∧ ∀ k, k ≠ 132 + 100 * w → s.2 k = u.2 k)
    (by
      intro j i s hi ⟨g1, g2, g3⟩
      have hC : RepC P w (u.1, s.2) := h.fr (fun k hk => g3 _ (by omega))
      have hb : inb (nI i) 5 = true := inb_nI (by omega) (by decide)
      have hk := hP.2.2.2.1 i hi
      have c3 : getA s.2 (114 + 100 * w) (nI i) = nI (P.2.2.1 3 i) := hC.at 3 (by decide) hi h5
      have hB1 := swp_le (P := P) hB false i
      have hls : leastR P (swp P i (l, false)).1 i ≤ 1000 := by
        unfold leastR
        have := hB1 (P.2.2.1 4 i)
        have := hB1 (P.2.2.1 5 i)
        split
        · omega
        · split <;> omega
      have hB2 := hB1 (P.2.2.1 3 i)
      have e1 := e_least (n := n) hP hC g2 (fun q => by have := hB1 q; omega) hi
      have e2 : s.2 (132 + 100 * w) (P.2.2.1 3 i) = nI ((swp P i (l, false)).1 (P.2.2.1 3 i)) := g2 _ (by omega)
      try dsimp only
      rw [fX1_isRaised_b4, h.2.1, if_neg (nI_ge hi (by omega)), e1, bsome, gpos hb]
      dsimp only
      rw [c3, gpos (inb_nI (by omega) (by decide)), getA_nI (by omega), e2]
      unfold fX1_isRaised_b53
      by_cases e : (swp P i (l, false)).1 (P.2.2.1 3 i) < leastR P (swp P i (l, false)).1 i
      · rw [if_neg (nI_ge e (by omega)), gpos (inb_nI (by omega) (by decide)), nI_1]
        refine ⟨(1, setA s.2 (132 + 100 * w) (nI (P.2.2.1 3 i)) (nI (leastR P (swp P i (l, false)).1 i))), ⟨?_, ?_, ?_⟩, rfl⟩
        · show 1 = b01 (swR P i (swp P i (l, false))).2
          unfold swR
          rw [if_pos e]; rfl
        · intro q hq
          show setA s.2 (132 + 100 * w) _ _ (132 + 100 * w) q = nI ((swR P i (swp P i (l, false))).1 q)
          unfold swR
          rw [if_pos e, setA_at (by omega)]
          show _ = nI (updN _ _ _ q)
          unfold updN
          by_cases eq : q = P.2.2.1 3 i
          · rw [if_pos eq, if_pos eq]
          · rw [if_neg eq, if_neg eq]; exact g2 q hq
        · intro k hk
          show setA _ _ _ _ k = _
          rw [setA_ne hk]; exact g3 k hk
      · rw [if_pos (nI_le (by omega) (by omega)), nI_1]
        refine ⟨s, ⟨?_, ?_, g3⟩, rfl⟩
        · show s.1 = b01 (swR P i (swp P i (l, false))).2
          unfold swR
          rw [if_neg e]; exact g1
        · show RepL (swR P i (swp P i (l, false))).1 w _
          unfold swR
          rw [if_neg e]; exact g2)
    (s := (0, u.2)) ⟨rfl, hl, fun _ _ => rfl⟩ (n := n) (by omega)
  refine ⟨s.2, ?_, g2, g3⟩
  unfold fX1_isRaised
  refine g4.trans ?_
  try dsimp only
  rw [fX1_isRaised_b4, h.2.1, if_pos (nI_le (Nat.le_refl _) (by omega)), g1, gpos (b01B _)]
  rfl
theorem flA_at {R : Nat → Nat → Int32} {a len j : Nat} {v : Int32} (h : j < len) : flA R a len v a j = v := by
  unfold flA
  rw [if_pos rfl, if_pos h]
theorem flA_ne {R : Nat → Nat → Int32} {a len k : Nat} {v : Int32} (h : k ≠ a) : flA R a len v k = R k := if_neg h
theorem e_find {P : Prog} {w n : Nat} {u : mSt} (hP : pOk P) (h : RepC P w u) (hn : 5 < n) : ∃ R b, fX1_find n w u.1 u.2 = some (b01 b, u.1, R) ∧ (b = true ↔ LayP P) ∧ (b = true → RepL (lays P 3) w (u.1, R)) ∧ ∀ k, k ≠ 132 + 100 * w → R k = u.2 k := by
  have main : ∀ d k R j, k + d = 4 → RepL (lays P k) w (u.1, R) → (∀ i, i ≠ 132 + 100 * w → R i = u.2 i) → (∀ i, i < k → (sw P (lays P i)).2 = true) → ∃ R' b, fX1_find_b10 n w (j + d + 1) (nI k) u.1 R = some (b01 b, u.1, R') ∧ (b = true ↔ LayP P) ∧ (b = true → RepL (lays P 3) w (u.1, R')) ∧ ∀ i, i ≠ 132 + 100 * w → R' i = u.2 i := by
    intro d
    induction d with
    | zero =>
      intro k R j hk hl hR hs
      have : k = 4 := hk
      subst this
      refine ⟨R, false, ?_, ?_, fun e => absurd e (by decide), hR⟩
      · rw [fX1_find_b10, if_pos (show (4 : Int32) ≤ nI 4 by decide)]; rfl
      · unfold LayP
        rw [hs 3 (by decide)]
        decide
    | succ d ih =>
      intro k R j hk hl hR hs
      have hC : RepC P w (u.1, R) := h.fr (fun k hk => hR _ (by omega))
      obtain ⟨R1, e1, e2, e3⟩ := e_raised (n := n) hP hC hl (fun q => by have := lays_le hP k q; omega) hn
      have hR1 : ∀ i, i ≠ 132 + 100 * w → R1 i = u.2 i := fun i hi => (e3 i hi).trans (hR i hi)
      rw [fX1_find_b10, if_neg (show ¬ (4 : Int32) ≤ nI k from nI_ge (b := 4) (by omega) (by decide)), e1, bsome]
      dsimp only
      by_cases e : (sw P (lays P k)).2 = false
      · obtain ⟨f1, f2⟩ := lay_of (by omega) e
        rw [e, if_pos (show b01 false = 0 from rfl)]
        refine ⟨R1, true, rfl, ⟨fun _ => f1, fun _ => rfl⟩, fun _ => ?_, hR1⟩
        have : (sw P (lays P k)).1 = lays P k := congrArg Prod.fst (swp_st _ e)
        rw [this, f2] at e2
        exact e2
      · have e' : (sw P (lays P k)).2 = true := by simpa using e
        rw [e', if_neg (show ¬ b01 true = 0 by decide), nI_1]
        exact ih (k + 1) R1 j (by omega) e2 hR1 (fun i hi => by
          by_cases ei : i = k
          · rw [ei]; exact e'
          · exact hs i (by omega))
  unfold fX1_find
  have := main 4 0 (flA u.2 (132 + 100 * w) 4 0) (n - 5) rfl (fun q hq => flA_at hq) (fun i hi => flA_ne hi) (fun i hi => absurd hi (by omega))
  rw [show n - 5 + 4 + 1 = n by omega] at this
  exact this
