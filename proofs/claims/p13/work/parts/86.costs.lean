/-! costs, in the class -/
def FAR : Nat := 1152921504606846976
def nL (n : Nat) : Int64 := Int64.ofNat n
theorem nL_add (a b : Nat) : nL a + nL b = nL (a + b) := (Int64.ofNat_add a b).symm
theorem nL_toInt {a : Nat} (h : a < 2 ^ 63) : (nL a).toInt = a := Int64.toInt_ofNat_of_lt h
theorem nL_of {a : Nat} (h : a < 2 ^ 31) : (nI a).toInt64 = nL a := by
  apply Int64.toInt_inj.mp
  rw [Int32.toInt_toInt64, nI_toInt h, nL_toInt (by omega)]
theorem nL_lt {a b : Nat} (h : a < b) (hb : b < 2 ^ 63) : nL a < nL b := by
  refine Int64.lt_iff_toInt_lt.mpr ?_
  rw [nL_toInt (by omega), nL_toInt hb]
  omega
theorem nL_nlt {a b : Nat} (h : b ≤ a) (ha : a < 2 ^ 63) : ¬ nL a < nL b := by
  intro q
  have q := Int64.lt_iff_toInt_lt.mp q
  rw [nL_toInt (by omega), nL_toInt (by omega)] at q
  omega
theorem lc_lt {x y : Int64} (h : x < y) : ¬ (0 : Int32) ≤ lcmpI x y := by
  have h1 : ¬ x > y := fun q => absurd (Int64.lt_trans h q) (Int64.lt_irrefl)
  have h2 : ¬ x = y := fun q => by rw [q] at h; exact Int64.lt_irrefl h
  unfold lcmpI
  rw [if_neg h1, if_neg h2]
  decide
theorem lc_ge {x y : Int64} (h : ¬ x < y) : (0 : Int32) ≤ lcmpI x y := by
  unfold lcmpI
  by_cases h1 : x > y
  · rw [if_pos h1]; decide
  · rw [if_neg h1, if_pos (Int64.le_antisymm (Int64.not_lt.mp h1) (Int64.not_lt.mp h))]; decide
theorem getL_nI {R : Nat → Nat → Int32} {k j : Nat} (h : j < 2 ^ 31) : getL R k (nI j) = jl (R (k + 4) j) (R k j) := by unfold getL; rw [nI_clamp h]
theorem setL_ne {R : Nat → Nat → Int32} {k j : Nat} {i : Int32} {x : Int64} (h : j ≠ k ∧ j ≠ k + 4) : setL R k i x j = R j := by
  unfold setL
  rw [setA_ne h.2, setA_ne h.1]
theorem setL_at {R : Nat → Nat → Int32} {k j t : Nat} {x : Int64} (h : j < 2 ^ 31) (ht : t < 2 ^ 31) : getL (setL R k (nI j) x) k (nI t) = if t = j then x else getL R k (nI t) := by
  rw [getL_nI ht, getL_nI ht]
  unfold setL
  rw [setA_at h, setA_ne (j := k) (k := k + 4) (by omega), setA_at h, setA_ne (j := k + 4) (k := k) (by omega)]
  by_cases e : t = j
  · rw [if_pos e, if_pos e, if_pos e, jl_eta]
  · rw [if_neg e, if_neg e, if_neg e]
theorem e_held {w n f : Nat} {u : mSt} {H : Nat → Bool} (h : RepH H w u.2) (hf : f < 64) : fX3_isHeld n w (nI f) u.1 u.2 = some (b01 (H f), u) := by
  unfold fX3_isHeld
  rw [m16 (by omega), d16 (by omega), gpos (inb_nI (by omega) (by decide)), getA_nI (by omega)]
  have h2 := h (f / 16) (by omega) (f % 16)
  rw [show 16 * (f / 16) + f % 16 = f by omega, show decide (f % 16 < 16) = true from decide_eq_true (by omega), Bool.true_and] at h2
  cases e : H f with
  | false =>
    rw [if_pos ((bit_test (by omega)).mpr (h2.trans e))]; rfl
  | true =>
    rw [if_neg (fun z => by rw [bit_test (by omega), h2, e] at z; exact absurd z (by decide))]; rfl
def RepK (C : Nat → Nat) (w : Nat) (R : Nat → Nat → Int32) : Prop := ∀ f, f < 64 → getL R (154 + 100 * w) (nI f) = nL (C f)
theorem RepK.fr {C : Nat → Nat} {w : Nat} {R R2 : Nat → Nat → Int32} (h : RepK C w R) (h1 : R2 (154 + 100 * w) = R (154 + 100 * w)) (h2 : R2 (154 + 100 * w + 4) = R (154 + 100 * w + 4)) : RepK C w R2 := fun f hf => by
  rw [getL_nI (by omega), h1, h2, ← getL_nI (by omega)]
  exact h f hf
def prt (P : Prog) (C : Nat → Nat) (r t z : Nat) : Nat := C (16 * P.2.2.1 4 r + 4 * (t / 4) + z) + C (16 * P.2.2.1 5 r + 4 * z + t % 4)
def mnz (p : Nat → Nat) : Nat → Nat
  | 0 => FAR
  | k + 1 => min (mnz p k) (p k)
def way (P : Prog) (H : Nat → Bool) (C : Nat → Nat) (r t : Nat) : Nat :=
  if P.2.2.1 2 r = 2 then costR P r + mnz (prt P C r t) 4
  else if P.2.2.1 2 r = 3 ∧ H (16 * P.2.2.1 5 r + t) = true then FAR
  else if P.2.2.1 2 r = 1 then costR P r + C (16 * P.2.2.1 4 r + (t % 4 * 4 + t / 4))
  else costR P r + C (16 * P.2.2.1 4 r + t)
theorem e_parts {P : Prog} {w n r t z : Nat} {u : mSt} {C : Nat → Nat} (hP : pOk P) (h : RepC P w u) (hC : RepK C w u.2) (hr : r < P.2.1) (ht : t < 16) (hz : z < 4) : fX0_partsThrough n w (nI r) (nI t) (nI z) u.1 u.2 = some (nL (prt P C r t z), u) := by
  have hk := hP.2.2.2.1 r hr
  have hP1 := hP.1
  have h5 := hP.2.1
  have hb : inb (nI r) 5 = true := inb_nI (by omega) (by decide)
  have c4 : getA u.2 (115 + 100 * w) (nI r) = nI (P.2.2.1 4 r) := h.at 4 (by decide) hr h5
  have c5 : getA u.2 (116 + 100 * w) (nI r) = nI (P.2.2.1 5 r) := h.at 5 (by decide) hr h5
  unfold fX0_partsThrough prt
  rw [gpos hb, gpos hb, c4, c5, m4 (by omega), d4 (by omega), x16, x16, x4', x4, nI_add, nI_add, nI_add, nI_add, gpos (inb_nI (by omega) (by decide)), gpos (inb_nI (by omega) (by decide)), hC _ (by omega), hC _ (by omega), nL_add, Nat.mul_comm (t / 4) 4]
theorem mnz_le (p : Nat → Nat) (k : Nat) : mnz p k ≤ FAR := by
  induction k with
  | zero => exact Nat.le_refl _
  | succ k ih => unfold mnz; omega
theorem way_le {P : Prog} {H : Nat → Bool} {C : Nat → Nat} (hP : pOk P) (hB : ∀ f, C f ≤ FAR) {r t : Nat} (hr : r < P.2.1) : way P H C r t ≤ FAR + 18 := by
  have := costR_le hP hr
  unfold way
  have := mnz_le (prt P C r t) 4
  have := hB (16 * P.2.2.1 4 r + (t % 4 * 4 + t / 4))
  have := hB (16 * P.2.2.1 4 r + t)
  split
  · omega
  · split
    · omega
    · split <;> omega
theorem e_way {P : Prog} {w n r t : Nat} {u : mSt} {C : Nat → Nat} {H : Nat → Bool} (hP : pOk P) (h : RepC P w u) (hH : RepH H w u.2) (hC : RepK C w u.2) (hB : ∀ f, C f ≤ FAR) (hr : r < P.2.1) (ht : t < 16) (hn : 4 < n) : fX0_wayBy n w (nI r) (nI t) u.1 u.2 = some (nL (way P H C r t), u) := by
  have hk := hP.2.2.2.1 r hr
  have hP1 := hP.1
  have h5 := hP.2.1
  have hb : inb (nI r) 5 = true := inb_nI (by omega) (by decide)
  have c2 : getA u.2 (113 + 100 * w) (nI r) = nI (P.2.2.1 2 r) := h.at 2 (by decide) hr h5
  have c4 : getA u.2 (115 + 100 * w) (nI r) = nI (P.2.2.1 4 r) := h.at 4 (by decide) hr h5
  have c5 : getA u.2 (116 + 100 * w) (nI r) = nI (P.2.2.1 5 r) := h.at 5 (by decide) hr h5
  have b109 : ∀ s : Nat, s < 16 → fX0_wayBy_b109 n w (nI r) (nI s) u.1 u.2 = some (nL (costR P r + C (16 * P.2.2.1 4 r + s)), u) := by
    intro s hs
    unfold fX0_wayBy_b109
    rw [e_costC hP h hr, bsome, gpos hb]
    dsimp only
    rw [c4, x16, nI_add, gpos (inb_nI (by omega) (by decide)), hC _ (by omega), nL_of (by have := costR_le hP hr; omega), nL_add]
  unfold fX0_wayBy fX0_wayBy_b96 way
  rw [gpos hb, c2]
  have hf : P.2.2.1 2 r = 0 ∨ P.2.2.1 2 r = 1 ∨ P.2.2.1 2 r = 2 ∨ P.2.2.1 2 r = 3 := by omega
  rcases hf with e | e | e | e
  · rw [e, if_neg (by decide), if_neg (by decide), if_neg (by decide), b109 t ht, if_neg (by decide), if_neg (fun q => absurd q.1 (by decide)), if_neg (by decide)]
  · rw [e, if_neg (by decide), if_neg (by decide), if_pos (by decide)]
    unfold fX7_turnedAbout
    rw [m4 (by omega), d4 (by omega), bsome, x4', nI_add, b109 _ (by omega), if_neg (by decide), if_neg (fun q => absurd q.1 (by decide)), if_pos rfl]
  · rw [e, if_pos (by decide), if_pos rfl]
    obtain ⟨s, g1, g4⟩ := lp0 (fun j i (s : Int64) => fX0_wayBy_b23 n w j (nI r) (nI t) s (nI i) u.1 u.2) 4 (fun k s => s = nL (mnz (prt P C r t) k))
      (by
        intro j k s hk hs
        try dsimp only
        have hb1 := hB (16 * P.2.2.1 4 r + 4 * (t / 4) + k)
        have hb2 := hB (16 * P.2.2.1 5 r + 4 * k + t % 4)
        have hpb : prt P C r t k ≤ 2 * FAR := by unfold prt; omega
        have hmb := mnz_le (prt P C r t) k
        rw [fX0_wayBy_b23, if_neg (g4' hk), e_parts hP h hC hr ht hk, bsome, nI_1, hs]
        refine ⟨_, ?_, rfl⟩
        dsimp only
        unfold FAR at hpb hmb
        show _ = nL (min (mnz (prt P C r t) k) (prt P C r t k))
        by_cases e : prt P C r t k < mnz (prt P C r t) k
        · rw [if_pos (nL_lt e (by omega)), Nat.min_eq_right (by omega)]
        · rw [if_neg (nL_nlt (by omega) (by omega)), Nat.min_eq_left (by omega)])
      (s := (1152921504606846976 : Int64)) rfl (n := n) hn
    refine g4.trans ?_
    try dsimp only
    rw [fX0_wayBy_b23, if_pos (show (4 : Int32) ≤ nI 4 by decide), e_costC hP h hr, bsome, g1]
    dsimp only
    rw [nL_of (by have := costR_le hP hr; omega), nL_add]
  · rw [e, if_neg (by decide), if_pos (by decide), gpos hb, c5, x16, nI_add, e_held hH (by omega), bsome, if_neg (show ¬ (3 : Nat) = 2 by decide)]
    dsimp only
    cases hz : H (16 * P.2.2.1 5 r + t) with
    | false =>
      rw [if_pos (show b01 false = 0 from rfl), if_neg (by decide), b109 t ht, if_neg (fun q => absurd q.2 (by decide)), if_neg (by decide)]
    | true =>
      rw [if_neg (show ¬ b01 true = 0 by decide), if_pos ⟨rfl, rfl⟩]
      rfl
def opn (P : Prog) (H : Nat → Bool) (f : Nat) : Bool := H f && !P.2.2.2 f
def ch1 (P : Prog) (H : Nat → Bool) (r t : Nat) (s : (Nat → Nat) × Bool) : (Nat → Nat) × Bool :=
  if (if opn P H (16 * P.2.2.1 3 r + t) = true then way P H s.1 r t else FAR) < s.1 (16 * P.2.2.1 3 r + t) then (updN s.1 (16 * P.2.2.1 3 r + t) (if opn P H (16 * P.2.2.1 3 r + t) = true then way P H s.1 r t else FAR), true) else s
def chI (P : Prog) (H : Nat → Bool) (r : Nat) : Nat → (Nat → Nat) × Bool → (Nat → Nat) × Bool
  | 0, s => s
  | t + 1, s => ch1 P H r t (chI P H r t s)
termination_by t => t
def chR (P : Prog) (H : Nat → Bool) (r : Nat) (s : (Nat → Nat) × Bool) : (Nat → Nat) × Bool := chI P H r 16 s
def chO (P : Prog) (H : Nat → Bool) : Nat → (Nat → Nat) × Bool → (Nat → Nat) × Bool
  | 0, s => s
  | k + 1, s => chR P H k (chO P H k s)
def chp (P : Prog) (H : Nat → Bool) (C : Nat → Nat) : (Nat → Nat) × Bool := chO P H P.2.1 (C, false)
def csts (P : Prog) (H : Nat → Bool) : Nat → (Nat → Nat) → (Nat → Nat)
  | 0, C => C
  | d + 1, C => if (chp P H C).2 = true then csts P H d (chp P H C).1 else (chp P H C).1
def c0 (P : Prog) : Nat → Nat := fun f => if P.2.2.2 f = true then 0 else FAR
def cst (P : Prog) : Nat → Nat := csts P (fin P).1 65 (c0 P)
theorem ch1_le {P : Prog} {H : Nat → Bool} {r t : Nat} {s : (Nat → Nat) × Bool} (h : ∀ f, s.1 f ≤ FAR) : ∀ f, (ch1 P H r t s).1 f ≤ FAR := by
  intro f
  unfold ch1
  by_cases e : (if opn P H (16 * P.2.2.1 3 r + t) = true then way P H s.1 r t else FAR) < s.1 (16 * P.2.2.1 3 r + t)
  · rw [if_pos e]
    have := h (16 * P.2.2.1 3 r + t)
    show updN _ _ _ f ≤ FAR
    unfold updN
    by_cases e2 : f = 16 * P.2.2.1 3 r + t
    · rw [if_pos e2]; omega
    · rw [if_neg e2]; exact h f
  · rw [if_neg e]; exact h f
theorem chI_le {P : Prog} {H : Nat → Bool} {r : Nat} (t : Nat) {s : (Nat → Nat) × Bool} (h : ∀ f, s.1 f ≤ FAR) : ∀ f, (chI P H r t s).1 f ≤ FAR := by
  induction t with
  | zero => rw [chI]; exact h
  | succ t ih =>
    intro f
    rw [chI]
    exact ch1_le (s := chI P H r t s) ih f
theorem chO_le {P : Prog} {H : Nat → Bool} (k : Nat) {s : (Nat → Nat) × Bool} (h : ∀ f, s.1 f ≤ FAR) : ∀ f, (chO P H k s).1 f ≤ FAR := by
  induction k with
  | zero => exact h
  | succ k ih =>
    intro f
    show (chR P H k (chO P H k s)).1 f ≤ FAR
    unfold chR
    exact chI_le (s := chO P H k s) 16 ih f
theorem csts_le {P : Prog} {H : Nat → Bool} : ∀ d (C : Nat → Nat), (∀ f, C f ≤ FAR) → ∀ f, csts P H d C f ≤ FAR := by
  intro d
  induction d with
  | zero => intro C h; exact h
  | succ d ih =>
    intro C h
    have h1 : ∀ f, (chp P H C).1 f ≤ FAR := chO_le (s := (C, false)) P.2.1 h
    unfold csts
    by_cases e : (chp P H C).2 = true
    · rw [if_pos e]; exact ih _ h1
    · rw [if_neg e]; exact h1
theorem c0_le (P : Prog) : ∀ f, c0 P f ≤ FAR := by
  intro f
  unfold c0
  split
  · exact Nat.zero_le _
  · exact Nat.le_refl _
theorem e_cheapR {P : Prog} {w n r : Nat} {u : mSt} {H : Nat → Bool} (k4 : Int32 → Int32 → (Nat → Int32) → (Nat → Nat → Int32) → Option (Int32 × mSt)) (hP : pOk P) (h : RepC P w u) (hH : RepH H w u.2) (hr : r < P.2.1) (hn : 16 < n) {s : (Nat → Nat) × Bool} (hB : ∀ f, s.1 f ≤ FAR) (hC : RepK s.1 w u.2) {m : Int32} (hm : ∀ i, i < 16 → bit m i = opn P H (16 * P.2.2.1 3 r + i)) : ∃ R', fX0_isCheapened_b51 n w k4 n (b01 s.2) (nI r) (nI (P.2.2.1 3 r)) m 0 u.1 u.2 = k4 (b01 (chR P H r s).2) (nI (r + 1)) u.1 R' ∧ RepK (chR P H r s).1 w R' ∧ ∀ k, k ≠ 154 + 100 * w ∧ k ≠ 158 + 100 * w → R' k = u.2 k := by
  have hk := hP.2.2.2.1 r hr
  have hP1 := hP.1
  obtain ⟨t', ⟨g1, g2, g3⟩, g4⟩ := lp0 (fun j i (t : Int32 × (Nat → Nat → Int32)) => fX0_isCheapened_b51 n w k4 j t.1 (nI r) (nI (P.2.2.1 3 r)) m (nI i) u.1 t.2) 16 (fun i t => t.1 = b01 (chI P H r i s).2 ∧ RepK (chI P H r i s).1 w t.2 ∧ ∀ k, k ≠ 154 + 100 * w ∧ k ≠ 158 + 100 * w → t.2 k = u.2 k)
    (by
      intro j i t hi ⟨g1, g2, g3⟩
      try dsimp only
      have hC' : RepC P w (u.1, t.2) := h.fr (fun k hk => g3 _ (by omega))
      have hH' : RepH H w t.2 := fun q hq i => by rw [g3 _ (by omega)]; exact hH q hq i
      have hB' := chI_le (P := P) (H := H) (r := r) i hB
      have b80 : ∀ wy : Nat, wy = (if opn P H (16 * P.2.2.1 3 r + i) = true then way P H (chI P H r i s).1 r i else FAR) → ∃ s' : Int32 × (Nat → Nat → Int32), (s'.1 = b01 (chI P H r (i + 1) s).2 ∧ RepK (chI P H r (i + 1) s).1 w s'.2 ∧ ∀ k, k ≠ 154 + 100 * w ∧ k ≠ 158 + 100 * w → s'.2 k = u.2 k) ∧ fX0_isCheapened_b81 n w k4 (fX0_isCheapened_b51 n w k4 j) t.1 (nI r) (nI (P.2.2.1 3 r)) m (nI i) (nL wy) u.1 t.2 = fX0_isCheapened_b51 n w k4 j s'.1 (nI r) (nI (P.2.2.1 3 r)) m (nI (i + 1)) u.1 s'.2 := by
        intro wy hwy
        have hwb : wy ≤ FAR + 18 := by
          rw [hwy]
          split
          · exact way_le hP hB' hr
          · omega
        have hcb := hB' (16 * P.2.2.1 3 r + i)
        unfold FAR at hwb hcb
        unfold fX0_isCheapened_b81 fX0_isCheapened_b117
        rw [x16, nI_add, gpos (inb_nI (by omega) (by decide)), g2 _ (by omega), gpos (inb_nI (by omega) (by decide)), nI_1]
        rw [show chI P H r (i + 1) s = ch1 P H r i (chI P H r i s) by rw [chI]]
        unfold ch1
        rw [← hwy]
        by_cases e : wy < (chI P H r i s).1 (16 * P.2.2.1 3 r + i)
        · rw [if_neg (lc_lt (nL_lt e (by omega))), if_pos e]
          refine ⟨(1, setL t.2 (154 + 100 * w) (nI (16 * P.2.2.1 3 r + i)) (nL wy)), ⟨rfl, fun f hf => ?_, fun k hk => (setL_ne (by omega)).trans (g3 k hk)⟩, rfl⟩
          show getL (setL t.2 _ _ _) _ (nI f) = nL (updN _ _ _ f)
          rw [setL_at (by omega) (by omega)]
          unfold updN
          by_cases e2 : f = 16 * P.2.2.1 3 r + i
          · rw [if_pos e2, if_pos e2]
          · rw [if_neg e2, if_neg e2]; exact g2 f hf
        · rw [if_pos (lc_ge (nL_nlt (by omega) (by omega))), if_neg e]
          exact ⟨t, ⟨g1, g2, g3⟩, rfl⟩
      rw [fX0_isCheapened_b51, if_neg (g16 hi)]
      cases ho : opn P H (16 * P.2.2.1 3 r + i) with
      | false =>
        rw [if_pos ((bit_test (by omega)).mpr ((hm i hi).trans ho))]
        exact b80 FAR (by rw [ho, if_neg (by decide)])
      | true =>
        rw [if_neg (fun z => by rw [bit_test (by omega), hm i hi, ho] at z; exact absurd z (by decide)), e_way hP hC' hH' g2 hB' hr hi (by omega), bsome]
        exact b80 _ (by rw [ho, if_pos rfl]))
    (s := (b01 s.2, u.2)) (by rw [show chI P H r 0 s = s by rw [chI]]; exact ⟨rfl, hC, fun _ _ => rfl⟩) (n := n) hn
  unfold chR
  refine ⟨t'.2, ?_, g2, g3⟩
  refine g4.trans ?_
  try dsimp only
  rw [fX0_isCheapened_b51, if_pos (show (16 : Int32) ≤ nI 16 by decide), nI_1, g1]
theorem e_cheap {P : Prog} {w n : Nat} {u : mSt} {H : Nat → Bool} (hP : pOk P) (h : RepC P w u) (hH : RepH H w u.2) (hn : 16 < n) {C : Nat → Nat} (hB : ∀ f, C f ≤ FAR) (hC : RepK C w u.2) : ∃ R', fX0_isCheapened n w u.1 u.2 = some (b01 (chp P H C).2, u.1, R') ∧ RepK (chp P H C).1 w R' ∧ ∀ k, k ≠ 154 + 100 * w ∧ k ≠ 158 + 100 * w → R' k = u.2 k := by
  have hP1 := hP.1
  have h5 := hP.2.1
  obtain ⟨t', ⟨g1, g2, g3⟩, g4⟩ := lp0 (fun j i (t : Int32 × (Nat → Nat → Int32)) => fX0_isCheapened_b4 n w j t.1 (nI i) u.1 t.2) P.2.1 (fun i t => t.1 = b01 (chO P H i (C, false)).2 ∧ RepK (chO P H i (C, false)).1 w t.2 ∧ ∀ k, k ≠ 154 + 100 * w ∧ k ≠ 158 + 100 * w → t.2 k = u.2 k)
    (by
      intro j i t hi ⟨g1, g2, g3⟩
      try dsimp only
      have hC' : RepC P w (u.1, t.2) := h.fr (fun k hk => g3 _ (by omega))
      have hH' : RepH H w t.2 := fun q hq i => by rw [g3 _ (by omega)]; exact hH q hq i
      have hB' := chO_le (P := P) (H := H) (s := (C, false)) i hB
      have hk := hP.2.2.2.1 i hi
      have hb : inb (nI i) 5 = true := inb_nI (by omega) (by decide)
      have c3 : getA t.2 (114 + 100 * w) (nI i) = nI (P.2.2.1 3 i) := hC'.at 3 (by decide) hi h5
      have hbh : inb (nI (P.2.2.1 3 i)) 4 = true := inb_nI (by omega) (by decide)
      obtain ⟨R', e1, e2, e3⟩ := e_cheapR (n := n) (u := (u.1, t.2)) (fX0_isCheapened_b4 n w j) hP hC' hH' hi hn (s := chO P H i (C, false)) hB' g2 (m := t.2 (143 + 100 * w) (P.2.2.1 3 i) &&& (t.2 (117 + 100 * w) (P.2.2.1 3 i) ^^^ (-1))) (by
        intro k hk16
        rw [bit_and, bit_xor, bit_m1, hH' _ (by omega), hC'.2.2.2 _ (by omega)]
        unfold opn
        have : k < 32 := by omega
        simp [hk16, this])
      refine ⟨(b01 (chR P H i (chO P H i (C, false))).2, R'), ⟨rfl, e2, fun k hk => (e3 k hk).trans (g3 k hk)⟩, ?_⟩
      rw [fX0_isCheapened_b4, h.2.1, if_neg (nI_ge hi (by omega)), gpos hb, c3, gpos hbh, gpos hbh, getA_nI (by omega), getA_nI (by omega), g1]
      exact e1)
    (s := ((0 : Int32), u.2)) ⟨rfl, hC, fun _ _ => rfl⟩ (n := n) (by omega)
  refine ⟨t'.2, ?_, g2, g3⟩
  unfold fX0_isCheapened
  refine g4.trans ?_
  try dsimp only
  rw [fX0_isCheapened_b4, h.2.1, if_pos (nI_le (Nat.le_refl _) (by omega)), g1, gpos (b01B _)]
  rfl
theorem e_passes {P : Prog} {w n : Nat} {H : Nat → Bool} (hP : pOk P) (hn : 16 < n) : ∀ (d j : Nat) (u : mSt) (C : Nat → Nat), d ≤ 65 → d < j → RepC P w u → RepH H w u.2 → (∀ f, C f ≤ FAR) → RepK C w u.2 → ∃ R', fX0_run_b42 n w j 1 (nI (65 - d)) u.1 u.2 = some (upd u.1 (157 + 100 * w) 0, R') ∧ RepK (csts P H d C) w R' ∧ ∀ k, k ≠ 154 + 100 * w ∧ k ≠ 158 + 100 * w → R' k = u.2 k := by
  intro d
  induction d with
  | zero =>
    intro j u C hd hj h hH hB hC
    obtain ⟨j, rfl⟩ : ∃ i, j = i + 1 := ⟨j - 1, by omega⟩
    refine ⟨u.2, ?_, hC, fun _ _ => rfl⟩
    rw [fX0_run_b42, if_pos (show (64 : Int32) < nI (65 - 0) by decide)]
    rfl
  | succ d ih =>
    intro j u C hd hj h hH hB hC
    obtain ⟨j, rfl⟩ : ∃ i, j = i + 1 := ⟨j - 1, by omega⟩
    obtain ⟨R1, e1, e2, e3⟩ := e_cheap (n := n) hP h hH hn hB hC
    rw [fX0_run_b42, if_neg (show ¬ (64 : Int32) < nI (65 - (d + 1)) from nI_nlt (a := 64) (b := 65 - (d + 1)) (by omega) (by omega)), i1, e1, bsome, nI_1]
    dsimp only
    rw [show 65 - (d + 1) + 1 = 65 - d by omega]
    unfold csts
    cases hh : (chp P H C).2 with
    | false =>
      rw [if_neg (by decide)]
      obtain ⟨j, rfl⟩ : ∃ i, j = i + 1 := ⟨j - 1, by omega⟩
      refine ⟨R1, ?_, e2, e3⟩
      rw [fX0_run_b42, show b01 false = 0 from rfl, i0]
      unfold fX0_run_b63
      rw [ite_self]
    | true =>
      rw [if_pos rfl]
      obtain ⟨R2, f1, f2, f3⟩ := ih j (u.1, R1) _ (by omega) (by omega) (h.fr (fun k hk => e3 _ (by omega))) (fun q hq i => by show bit (R1 _ q) i = _; rw [e3 _ (by omega)]; exact hH q hq i) (chO_le (s := (C, false)) P.2.1 hB) e2
      exact ⟨R2, f1, f2, fun k hk => (f3 k hk).trans (e3 k hk)⟩
theorem e_crun {P : Prog} {w n : Nat} {u : mSt} {H : Nat → Bool} (hP : pOk P) (h : RepC P w u) (hH : RepH H w u.2) (hn : 66 < n) : ∃ R', fX0_run n w u.1 u.2 = some (upd u.1 (157 + 100 * w) 0, R') ∧ RepK (csts P H 65 (c0 P)) w R' ∧ ∀ k, k ≠ 154 + 100 * w ∧ k ≠ 158 + 100 * w → R' k = u.2 k := by
  obtain ⟨R, ⟨g2, g3⟩, g4⟩ := lp0 (fun j i (R : Nat → Nat → Int32) => fX0_run_b2 n w j (nI i) u.1 R) 64 (fun i R => (∀ f, f < i → getL R (154 + 100 * w) (nI f) = nL (c0 P f)) ∧ ∀ k, k ≠ 154 + 100 * w ∧ k ≠ 158 + 100 * w → R k = u.2 k)
    (by
      intro j i R hi ⟨g2, g3⟩
      try dsimp only
      have hC' : RepC P w (u.1, R) := h.fr (fun k hk => g3 _ (by omega))
      have hb : inb (nI i) 64 = true := inb_nI (by omega) (by decide)
      have key : ∀ x : Int64, x = nL (c0 P i) → ∃ s', ((∀ f, f < i + 1 → getL s' (154 + 100 * w) (nI f) = nL (c0 P f)) ∧ ∀ k, k ≠ 154 + 100 * w ∧ k ≠ 158 + 100 * w → s' k = u.2 k) ∧ fX0_run_b31 n w (fX0_run_b2 n w j) (nI i) x (nI i) u.1 R = fX0_run_b2 n w j (nI (i + 1)) u.1 s' := by
        intro x hx
        unfold fX0_run_b31
        rw [gpos hb, nI_1]
        refine ⟨_, ⟨fun f hf => ?_, fun k hk => (setL_ne (by omega)).trans (g3 k hk)⟩, rfl⟩
        rw [setL_at (by omega) (by omega)]
        by_cases e : f = i
        · rw [if_pos e, e]; exact hx
        · rw [if_neg e]; exact g2 f (by omega)
      rw [fX0_run_b2, if_neg (g64 hi), e_isTold hC' hi, bsome]
      dsimp only
      by_cases e : P.2.2.2 i = true
      · rw [if_pos e, i1]
        exact key 0 (by unfold c0; rw [if_pos e]; rfl)
      · rw [if_neg e, i0]
        exact key 1152921504606846976 (by unfold c0; rw [if_neg e]; rfl))
    (s := u.2) ⟨fun f hf => absurd hf (by omega), fun _ _ => rfl⟩ (n := n) (by omega)
  obtain ⟨R2, f1, f2, f3⟩ := e_passes (n := n) (w := w) (H := H) hP (by omega) 65 n (u.1, R) (c0 P) (by omega) (by omega) (h.fr (fun k hk => g3 _ (by omega))) (fun q hq i => by show bit (R _ q) i = _; rw [g3 _ (by omega)]; exact hH q hq i) (c0_le P) g2
  refine ⟨R2, ?_, f2, fun k hk => (f3 k hk).trans (g3 k hk)⟩
  unfold fX0_run
  refine g4.trans ?_
  try dsimp only
  rw [fX0_run_b2, if_pos (show (64 : Int32) ≤ nI 64 by decide)]
  exact f1
