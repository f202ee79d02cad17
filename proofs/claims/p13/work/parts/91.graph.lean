/-! what leads to what; a program has layers just if none goes round -/
def Eg (P : Prog) (w a b : Nat) : Prop := ∃ r, r < P.2.1 ∧ P.2.2.1 3 r = b ∧ ((w = 0 ∧ (P.2.2.1 4 r = a ∨ (P.2.2.1 2 r = 2 ∧ P.2.2.1 5 r = a))) ∨ (w = 1 ∧ P.2.2.1 2 r = 3 ∧ P.2.2.1 5 r = a))
def Pth (P : Prog) : Nat → Nat → Nat → Nat → Prop
  | 0, w, a, b => w = 0 ∧ a = b
  | k + 1, w, a, b => ∃ c w1 w2, w = w1 + w2 ∧ Pth P k w1 a c ∧ Eg P w2 c b
def bad (P : Prog) (q : Nat) : Prop := ∃ k w, 1 ≤ w ∧ Pth P k w q q
theorem Eg.lt {P : Prog} (hP : pOk P) {w a b : Nat} (h : Eg P w a b) : a < P.1 ∧ b < P.1 := by
  obtain ⟨r, h1, h2, h3⟩ := h
  have hk := hP.2.2.2.1 r h1
  rcases h3 with ⟨_, h3 | ⟨_, h3⟩⟩ | ⟨_, _, h3⟩ <;> omega
theorem Pth.app {P : Prog} {k w a b : Nat} : ∀ {k' w' c : Nat}, Pth P k w a b → Pth P k' w' b c → ∃ k'', Pth P k'' (w + w') a c := by
  intro k'
  induction k' with
  | zero =>
    intro w' c h h'
    obtain ⟨h1, h2⟩ := h'
    subst h1; subst h2
    exact ⟨k, h⟩
  | succ k' ih =>
    intro w' c h h'
    obtain ⟨d, w1, w2, e, h1, h2⟩ := h'
    obtain ⟨k'', g⟩ := ih h h1
    exact ⟨k'' + 1, d, w + w1, w2, by omega, g, h2⟩
theorem swp_ok {P : Prog} {l : Nat → Nat} (k : Nat) (h : (swp P k (l, false)).2 = false) : ∀ r, r < k → leastR P l r ≤ l (P.2.2.1 3 r) := by
  induction k with
  | zero => intro r hr; exact absurd hr (by omega)
  | succ k ih =>
    intro r hr
    have hs : (swp P k (l, false)).2 = false := by
      unfold swp swR at h
      by_cases e : (swp P k (l, false)).1 (P.2.2.1 3 k) < leastR P (swp P k (l, false)).1 k
      · rw [if_pos e] at h; exact absurd h (by simp)
      · rw [if_neg e] at h; exact h
    by_cases e : r = k
    · subst e
      unfold swp swR at h
      rw [swp_st r hs] at h
      by_cases e : l (P.2.2.1 3 r) < leastR P l r
      · rw [if_pos e] at h; exact absurd h (by simp)
      · omega
    · exact ih hs r (by omega)
theorem Eg.least {P : Prog} (hP : pOk P) {w a b : Nat} (h : Eg P w a b) (l : Nat → Nat) : ∃ r, r < P.2.1 ∧ P.2.2.1 3 r = b ∧ l a + w ≤ leastR P l r := by
  obtain ⟨r, h1, h2, h3⟩ := h
  refine ⟨r, h1, h2, ?_⟩
  have hk := hP.2.2.2.1 r h1
  unfold leastR
  rcases h3 with ⟨rfl, h3 | ⟨h3, h4⟩⟩ | ⟨rfl, h3, h4⟩
  · rw [h3]
    split <;> omega
  · rw [if_neg (by omega), if_neg (by omega), h4]
    omega
  · rw [if_neg (by omega), if_pos h3, h4]
    omega
theorem least_Eg {P : Prog} (hP : pOk P) {r : Nat} (hr : r < P.2.1) (l : Nat → Nat) : ∃ a w, Eg P w a (P.2.2.1 3 r) ∧ leastR P l r = l a + w := by
  have hk := hP.2.2.2.1 r hr
  unfold leastR
  by_cases e : P.2.2.1 2 r < 2
  · rw [if_pos e]
    exact ⟨_, 0, ⟨r, hr, rfl, Or.inl ⟨rfl, Or.inl rfl⟩⟩, rfl⟩
  · rw [if_neg e]
    by_cases e3 : P.2.2.1 2 r = 3
    · rw [if_pos e3]
      by_cases e4 : l (P.2.2.1 5 r) + 1 ≤ l (P.2.2.1 4 r)
      · exact ⟨_, 0, ⟨r, hr, rfl, Or.inl ⟨rfl, Or.inl rfl⟩⟩, by rw [Nat.max_eq_left e4]; rfl⟩
      · exact ⟨_, 1, ⟨r, hr, rfl, Or.inr ⟨rfl, e3, rfl⟩⟩, by rw [Nat.max_eq_right (by omega)]⟩
    · rw [if_neg e3]
      by_cases e4 : l (P.2.2.1 5 r) ≤ l (P.2.2.1 4 r)
      · exact ⟨_, 0, ⟨r, hr, rfl, Or.inl ⟨rfl, Or.inl rfl⟩⟩, by rw [Nat.max_eq_left e4]; rfl⟩
      · exact ⟨_, 0, ⟨r, hr, rfl, Or.inl ⟨rfl, Or.inr ⟨by omega, rfl⟩⟩⟩, by rw [Nat.max_eq_right (by omega)]; rfl⟩
theorem least_mono {P : Prog} {l l' : Nat → Nat} (h : ∀ q, l q ≤ l' q) (r : Nat) : leastR P l r ≤ leastR P l' r := by
  unfold leastR
  have h1 := h (P.2.2.1 4 r)
  have h2 := h (P.2.2.1 5 r)
  split
  · exact h1
  · split <;> omega
theorem lay_nbad {P : Prog} (hP : pOk P) (h : LayP P) (q : Nat) : ¬ bad P q := by
  have hok := swp_ok P.2.1 h
  have hm : ∀ k w a b, Pth P k w a b → lays P 3 a + w ≤ lays P 3 b := by
    intro k
    induction k with
    | zero =>
      intro w a b h
      obtain ⟨h1, h2⟩ := h
      subst h1; subst h2
      exact Nat.le_refl _
    | succ k ih =>
      intro w a b h
      obtain ⟨c, w1, w2, e, h1, h2⟩ := h
      have h3 := ih _ _ _ h1
      obtain ⟨r, r1, r2, r3⟩ := h2.least hP (lays P 3)
      have := hok r r1
      rw [r2] at this
      omega
  rintro ⟨k, w, h1, h2⟩
  have := hm _ _ _ _ h2
  omega
def mxR (P : Prog) (l : Nat → Nat) (q : Nat) : Nat → Nat
  | 0 => l q
  | r + 1 => if P.2.2.1 3 r = q then max (mxR P l q r) (leastR P l r) else mxR P l q r
def Wm (P : Prog) : Nat → Nat → Nat
  | 0, _ => 0
  | k + 1, q => mxR P (Wm P k) q P.2.1
theorem mxR_ge {P : Prog} {l : Nat → Nat} {q : Nat} (n : Nat) : l q ≤ mxR P l q n ∧ ∀ r, r < n → P.2.2.1 3 r = q → leastR P l r ≤ mxR P l q n := by
  induction n with
  | zero => exact ⟨Nat.le_refl _, fun r hr => absurd hr (by omega)⟩
  | succ n ih =>
    unfold mxR
    by_cases e : P.2.2.1 3 n = q
    · rw [if_pos e]
      refine ⟨by omega, fun r hr h => ?_⟩
      by_cases e2 : r = n
      · rw [e2]; omega
      · have := ih.2 r (by omega) h; omega
    · rw [if_neg e]
      refine ⟨ih.1, fun r hr h => ?_⟩
      by_cases e2 : r = n
      · rw [e2] at h; exact absurd h e
      · exact ih.2 r (by omega) h
theorem mxR_of {P : Prog} {l : Nat → Nat} {q : Nat} (n : Nat) : mxR P l q n = l q ∨ ∃ r, r < n ∧ P.2.2.1 3 r = q ∧ mxR P l q n = leastR P l r := by
  induction n with
  | zero => exact Or.inl rfl
  | succ n ih =>
    unfold mxR
    by_cases e : P.2.2.1 3 n = q
    · rw [if_pos e]
      by_cases e2 : mxR P l q n ≤ leastR P l n
      · rw [Nat.max_eq_right e2]; exact Or.inr ⟨n, by omega, e, rfl⟩
      · rw [Nat.max_eq_left (by omega)]
        rcases ih with h | ⟨r, h1, h2, h3⟩
        · exact Or.inl h
        · exact Or.inr ⟨r, by omega, h2, h3⟩
    · rw [if_neg e]
      rcases ih with h | ⟨r, h1, h2, h3⟩
      · exact Or.inl h
      · exact Or.inr ⟨r, by omega, h2, h3⟩
theorem Wm_up {P : Prog} {q : Nat} : ∀ d k, Wm P k q ≤ Wm P (k + d) q := by
  intro d
  induction d with
  | zero => intro k; exact Nat.le_refl _
  | succ d ih =>
    intro k
    have h1 := ih k
    have h2 : Wm P (k + d) q ≤ Wm P (k + d + 1) q := (mxR_ge P.2.1).1
    exact Nat.le_trans h1 h2
theorem Wm_Eg {P : Prog} (hP : pOk P) {w a b : Nat} (h : Eg P w a b) (k : Nat) : Wm P k a + w ≤ Wm P (k + 1) b := by
  obtain ⟨r, r1, r2, r3⟩ := h.least hP (Wm P k)
  exact Nat.le_trans r3 ((mxR_ge P.2.1).2 r r1 r2)
theorem Wm_of {P : Prog} (hP : pOk P) {k q : Nat} (h : Wm P k q < Wm P (k + 1) q) : ∃ a w, Eg P w a q ∧ Wm P (k + 1) q = Wm P k a + w := by
  rcases mxR_of (P := P) (l := Wm P k) (q := q) P.2.1 with e | ⟨r, r1, r2, r3⟩
  · have e : Wm P (k + 1) q = Wm P k q := e
    omega
  · obtain ⟨a, w, h1, h2⟩ := least_Eg hP r1 (Wm P k)
    exact ⟨a, w, r2 ▸ h1, (show Wm P (k + 1) q = leastR P (Wm P k) r from r3).trans h2⟩
theorem Wm_chain {P : Prog} (hP : pOk P) : ∀ k q, Wm P k q < Wm P (k + 1) q → ∃ c : Nat → Nat, c (k + 1) = q ∧ ∀ i, i ≤ k → Wm P i (c (i + 1)) < Wm P (i + 1) (c (i + 1)) ∧ ∃ w, Eg P w (c i) (c (i + 1)) ∧ Wm P (i + 1) (c (i + 1)) = Wm P i (c i) + w := by
  intro k
  induction k with
  | zero =>
    intro q h
    obtain ⟨a, w, h1, h2⟩ := Wm_of hP h
    refine ⟨fun i => if i = 0 then a else q, rfl, fun i hi => ?_⟩
    have : i = 0 := by omega
    subst this
    exact ⟨h, w, h1, h2⟩
  | succ k ih =>
    intro q h
    obtain ⟨a, w, h1, h2⟩ := Wm_of hP h
    have h3 := Wm_Eg hP h1 k
    obtain ⟨c, g1, g2⟩ := ih a (by omega)
    refine ⟨fun i => if i = k + 2 then q else c i, if_pos rfl, fun i hi => ?_⟩
    by_cases e : i = k + 1
    · subst e
      dsimp only
      rw [if_pos rfl, if_neg (by omega), g1]
      exact ⟨h, w, h1, h2⟩
    · dsimp only
      rw [if_neg (by omega), if_neg (by omega)]
      exact g2 i (by omega)
theorem pig5 {c : Nat → Nat} (h : ∀ i, i < 5 → c i < 4) : ∃ i j, i < j ∧ j < 5 ∧ c i = c j := by
  refine Classical.byContradiction (fun hno => ?_)
  have hne : ∀ i j, i < j → j < 5 → c i ≠ c j := fun i j h1 h2 h3 => hno ⟨i, j, h1, h2, h3⟩
  have a0 := h 0 (by decide)
  have a1 := h 1 (by decide)
  have a2 := h 2 (by decide)
  have a3 := h 3 (by decide)
  have a4 := h 4 (by decide)
  have := hne 0 1 (by decide) (by decide)
  have := hne 0 2 (by decide) (by decide)
  have := hne 0 3 (by decide) (by decide)
  have := hne 0 4 (by decide) (by decide)
  have := hne 1 2 (by decide) (by decide)
  have := hne 1 3 (by decide) (by decide)
  have := hne 1 4 (by decide) (by decide)
  have := hne 2 3 (by decide) (by decide)
  have := hne 2 4 (by decide) (by decide)
  have := hne 3 4 (by decide) (by decide)
  omega
theorem Wm_st {P : Prog} (hP : pOk P) (h : ∀ q, q < P.1 → ¬ bad P q) (q : Nat) : Wm P 4 q = Wm P 3 q := by
  refine Classical.byContradiction (fun hne => ?_)
  have hlt : Wm P 3 q < Wm P (3 + 1) q := by
    have h1 : Wm P 3 q ≤ Wm P 4 q := Wm_up 1 3
    show Wm P 3 q < Wm P 4 q
    omega
  obtain ⟨c, g1, g2⟩ := Wm_chain hP 3 q hlt
  have hp : ∀ d i, i + d ≤ 4 → ∃ w, Pth P d w (c i) (c (i + d)) ∧ Wm P (i + d) (c (i + d)) = Wm P i (c i) + w := by
    intro d
    induction d with
    | zero => intro i hi; exact ⟨0, ⟨rfl, rfl⟩, rfl⟩
    | succ d ih =>
      intro i hi
      obtain ⟨w, w1, w2⟩ := ih i (by omega)
      obtain ⟨_, w', e1, e2⟩ := g2 (i + d) (by omega)
      refine ⟨w + w', ⟨c (i + d), w, w', rfl, w1, e1⟩, ?_⟩
      show Wm P (i + d + 1) (c (i + d + 1)) = _
      omega
  have hlt4 : ∀ i, i < 5 → c i < 4 := by
    intro i hi
    have hP1 := hP.1
    by_cases e : i = 4
    · obtain ⟨_, w, e1, _⟩ := g2 3 (by decide)
      have := (e1.lt hP).2
      subst e
      have : c 4 < P.1 := this
      omega
    · obtain ⟨_, w, e1, _⟩ := g2 i (by omega)
      have := (e1.lt hP).1
      omega
  obtain ⟨i, j, h1, h2, h3⟩ := pig5 hlt4
  obtain ⟨w, w1, w2⟩ := hp (j - i) i (by omega)
  rw [show i + (j - i) = j by omega, ← h3] at w1 w2
  obtain ⟨h4, w', e1, _⟩ := g2 (j - 1) (by omega)
  rw [show j - 1 + 1 = j by omega, ← h3] at h4 e1
  have h5 := Wm_up (P := P) (q := c i) (j - 1 - i) i
  rw [show i + (j - 1 - i) = j - 1 by omega] at h5
  exact h (c i) (e1.lt hP).2 ⟨j - i, w, by omega, w1⟩
theorem swp_up {P : Prog} {s : (Nat → Nat) × Bool} (k q : Nat) : s.1 q ≤ (swp P k s).1 q := by
  induction k with
  | zero => exact Nat.le_refl _
  | succ k ih =>
    unfold swp swR
    by_cases e : (swp P k s).1 (P.2.2.1 3 k) < leastR P (swp P k s).1 k
    · rw [if_pos e]
      show _ ≤ updN _ _ _ q
      unfold updN
      by_cases e2 : q = P.2.2.1 3 k
      · rw [if_pos e2]; rw [← e2] at e; omega
      · rw [if_neg e2]; exact ih
    · rw [if_neg e]; exact ih
theorem swp_mx {P : Prog} {l : Nat → Nat} {b : Bool} (k q : Nat) : mxR P l q k ≤ (swp P k (l, b)).1 q := by
  induction k with
  | zero => exact Nat.le_refl _
  | succ k ih =>
    have hm := least_mono (P := P) (fun q => swp_up (P := P) (s := (l, b)) k q) k
    have hm : leastR P l k ≤ leastR P (swp P k (l, b)).1 k := hm
    unfold swp swR mxR
    by_cases e : (swp P k (l, b)).1 (P.2.2.1 3 k) < leastR P (swp P k (l, b)).1 k
    · rw [if_pos e]
      show _ ≤ updN _ _ _ q
      unfold updN
      by_cases e2 : q = P.2.2.1 3 k
      · rw [if_pos e2, if_pos e2.symm]
        rw [← e2] at e
        omega
      · rw [if_neg e2, if_neg (fun z => e2 z.symm)]; exact ih
    · rw [if_neg e]
      by_cases e2 : q = P.2.2.1 3 k
      · rw [if_pos e2.symm]
        rw [← e2] at e
        omega
      · rw [if_neg (fun z => e2 z.symm)]; exact ih
theorem swp_bd {P : Prog} {M : Nat → Nat} (hM : ∀ r, r < P.2.1 → leastR P M r ≤ M (P.2.2.1 3 r)) {l : Nat → Nat} {b : Bool} (hl : ∀ q, l q ≤ M q) (k : Nat) (hk : k ≤ P.2.1) (q : Nat) : (swp P k (l, b)).1 q ≤ M q := by
  induction k generalizing q with
  | zero => exact hl q
  | succ k ih =>
    have ih' := ih (by omega)
    have hm := least_mono (P := P) ih' k
    have := hM k (by omega)
    unfold swp swR
    by_cases e : (swp P k (l, b)).1 (P.2.2.1 3 k) < leastR P (swp P k (l, b)).1 k
    · rw [if_pos e]
      show updN _ _ _ q ≤ _
      unfold updN
      by_cases e2 : q = P.2.2.1 3 k
      · rw [if_pos e2, e2]; omega
      · rw [if_neg e2]; exact ih' q
    · rw [if_neg e]; exact ih' q
theorem swp_fl {P : Prog} {l : Nat → Nat} (k : Nat) (hM : ∀ r, r < k → leastR P l r ≤ l (P.2.2.1 3 r)) : swp P k (l, false) = (l, false) := by
  induction k with
  | zero => rfl
  | succ k ih =>
    unfold swp
    rw [ih (fun r hr => hM r (by omega))]
    unfold swR
    have := hM k (by omega)
    rw [if_neg (show ¬ l (P.2.2.1 3 k) < leastR P l k by omega)]
theorem nbad_lay {P : Prog} (hP : pOk P) (h : ∀ q, q < P.1 → ¬ bad P q) : LayP P := by
  have hst := Wm_st hP h
  have hM : ∀ r, r < P.2.1 → leastR P (Wm P 3) r ≤ Wm P 3 (P.2.2.1 3 r) := by
    intro r hr
    have := (mxR_ge (P := P) (l := Wm P 3) (q := P.2.2.1 3 r) P.2.1).2 r hr rfl
    have h2 : Wm P 4 (P.2.2.1 3 r) = mxR P (Wm P 3) (P.2.2.1 3 r) P.2.1 := rfl
    have := hst (P.2.2.1 3 r)
    omega
  have hlo : ∀ k q, Wm P k q ≤ lays P k q := by
    intro k
    induction k with
    | zero => intro q; exact Nat.le_refl _
    | succ k ih =>
      intro q
      have h1 : mxR P (lays P k) q P.2.1 ≤ lays P (k + 1) q := swp_mx P.2.1 q
      have h2 : ∀ n, mxR P (Wm P k) q n ≤ mxR P (lays P k) q n := by
        intro n
        induction n with
        | zero => exact ih q
        | succ n ihn =>
          unfold mxR
          have := least_mono (P := P) ih n
          split <;> omega
      exact Nat.le_trans (h2 P.2.1) h1
  have hhi : ∀ k q, lays P k q ≤ Wm P 3 q := by
    intro k
    induction k with
    | zero => intro q; exact Nat.zero_le _
    | succ k ih => intro q; exact swp_bd hM ih P.2.1 (Nat.le_refl _) q
  have heq : ∀ q, lays P 3 q = Wm P 3 q := fun q => Nat.le_antisymm (hhi 3 q) (hlo 3 q)
  unfold LayP sw
  rw [swp_fl P.2.1 (fun r hr => by
    have h1 := least_mono (P := P) (fun q => Nat.le_of_eq (heq q)) r
    have h2 := hM r hr
    have h3 := heq (P.2.2.1 3 r)
    omega)]
