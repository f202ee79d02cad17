/-! a round, in the class -/
abbrev RSt : Type := (Nat → Bool) × (Nat → Nat) × Nat
def gdr (P : Prog) (l : Nat → Nat) (its : Nat) (H : Nat → Bool) (f r : Nat) : Bool := decide (P.2.2.1 3 r = f / 16) && decide (l (P.2.2.1 3 r) = its) && fol P H r (f % 16 / 4) (f % 4)
def nwf (P : Prog) (l : Nat → Nat) (its : Nat) (H : Nat → Bool) (f : Nat) : Bool := !H f && anyB (gdr P l its H f) P.2.1
def rnd (P : Prog) (l : Nat → Nat) (its : Nat) (s : RSt) : RSt := (fun f => s.1 f || nwf P l its s.1 f, fun f => if nwf P l its s.1 f = true then s.2.2 + 1 else s.2.1 f, s.2.2 + 1)
def rfg (P : Prog) (l : Nat → Nat) (its : Nat) (s : RSt) : Bool := anyB (nwf P l its s.1) 64
def RepR (s : RSt) (w : Nat) (u : mSt) : Prop := RepH s.1 w u.2 ∧ (∀ f, f < 64 → u.2 (145 + 100 * w) f = if s.1 f = true then nI (s.2.1 f) else (-9)) ∧ u.1 (146 + 100 * w) = nI s.2.2
theorem nwf_lt {P : Prog} {l : Nat → Nat} {its : Nat} {H : Nat → Bool} {f : Nat} (hP : pOk P) (h : nwf P l its H f = true) : f / 16 < P.1 := by
  unfold nwf at h
  rw [Bool.and_eq_true, anyB_iff] at h
  obtain ⟨_, r, hr, h2⟩ := h
  unfold gdr at h2
  simp only [Bool.and_eq_true, decide_eq_true_eq] at h2
  have := (hP.2.2.2.1 r hr).2.2.2.2.1
  omega
theorem e_hold {n w q c : Nat} {m : Int32} {T : Nat → Bool} {I : Nat → Int32} {R : Nat → Nat → Int32} (hq : q < 4) (hm : ∀ i, bit m i = (decide (i < 16) && T i)) (hn : 16 < n) : ∃ R', fX3_hold n w (nI q) m (nI c) I R = some (I, R') ∧ (∀ p, R' (143 + 100 * w) p = if p = q then R (143 + 100 * w) q ||| m else R (143 + 100 * w) p) ∧ (∀ f, f < 64 → R' (145 + 100 * w) f = if f / 16 = q ∧ T (f % 16) = true then nI c else R (145 + 100 * w) f) ∧ ∀ k, k ≠ 143 + 100 * w → k ≠ 145 + 100 * w → R' k = R k := by
  have hb : inb (nI q) 4 = true := inb_nI hq (by decide)
  unfold fX3_hold
  rw [gpos hb, gpos hb, getA_nI (by omega)]
  obtain ⟨s, ⟨g1, g2⟩, g4⟩ := lp0 (fun j i (s : Nat → Nat → Int32) => fX3_hold_b13 n w j (nI q) m (nI c) (nI i) I s) 16 (fun k s => (∀ f, f < 64 → s (145 + 100 * w) f = if f / 16 = q ∧ f % 16 < k ∧ T (f % 16) = true then nI c else R (145 + 100 * w) f) ∧ ∀ k, k ≠ 145 + 100 * w → s k = setA R (143 + 100 * w) (nI q) (R (143 + 100 * w) q ||| m) k)
    (by
      intro j k s hk ⟨g1, g2⟩
      try dsimp only
      rw [fX3_hold_b13, if_neg (g16 hk)]
      unfold fX3_hold_b42
      rw [nI_1, x16, nI_add, gpos (inb_nI (by omega) (by decide))]
      have hmk := hm k
      rw [show decide (k < 16) = true from decide_eq_true hk, Bool.true_and] at hmk
      by_cases e : bit m k = false
      · rw [if_pos ((bit_test (by omega)).mpr e)]
        refine ⟨s, ⟨fun f hf => ?_, g2⟩, rfl⟩
        rw [g1 f hf]
        by_cases e1 : f % 16 = k
        · rw [if_neg (by omega), if_neg]
          rintro ⟨_, _, h⟩
          rw [e1, ← hmk, e] at h
          exact absurd h (by decide)
        · by_cases e2 : f / 16 = q ∧ f % 16 < k ∧ T (f % 16) = true
          · rw [if_pos e2, if_pos ⟨e2.1, by omega, e2.2.2⟩]
          · rw [if_neg e2, if_neg (fun h => e2 ⟨h.1, by omega, h.2.2⟩)]
      · rw [if_neg (fun z => e ((bit_test (by omega)).mp z))]
        have e' : T k = true := by rw [← hmk]; simpa using e
        refine ⟨setA s (145 + 100 * w) (nI (16 * q + k)) (nI c), ⟨fun f hf => ?_, fun i hi => (setA_ne hi).trans (g2 i hi)⟩, rfl⟩
        rw [setA_at (by omega)]
        by_cases e1 : f = 16 * q + k
        · rw [if_pos e1, if_pos ⟨by omega, by omega, by rw [show f % 16 = k by omega]; exact e'⟩]
        · rw [if_neg e1, g1 f hf]
          by_cases e2 : f / 16 = q ∧ f % 16 < k ∧ T (f % 16) = true
          · rw [if_pos e2, if_pos ⟨e2.1, by omega, e2.2.2⟩]
          · rw [if_neg e2, if_neg (fun h => e2 ⟨h.1, by omega, h.2.2⟩)])
    (s := setA R (143 + 100 * w) (nI q) (R (143 + 100 * w) q ||| m)) ⟨fun f hf => by rw [setA_ne (by omega), if_neg (by omega)], fun _ _ => rfl⟩ (n := n) hn
  refine ⟨s, ?_, fun p => ?_, fun f hf => ?_, fun k h1 h2 => ?_⟩
  · refine g4.trans ?_
    try dsimp only
    rw [fX3_hold_b13, if_pos (show (16 : Int32) ≤ nI 16 by decide)]
  · rw [g2 _ (by omega), setA_at (by omega)]
  · rw [g1 f hf]
    by_cases e2 : f / 16 = q ∧ T (f % 16) = true
    · rw [if_pos e2, if_pos ⟨e2.1, by omega, e2.2⟩]
    · rw [if_neg e2, if_neg (fun h => e2 ⟨h.1, h.2.2⟩)]
  · rw [g2 k h2, setA_ne h1]
/-- the new facts of a round are held, relation by relation -/
theorem e_rholds {P : Prog} {w n c : Nat} {u : mSt} {N : Nat → Bool} {s : RSt} (hP : pOk P) (hI : u.1 (118 + 100 * w) = nI P.1) (hc : u.1 (146 + 100 * w) = nI c) (hH : RepH s.1 w u.2) (hB : ∀ f, f < 64 → u.2 (145 + 100 * w) f = if s.1 f = true then nI (s.2.1 f) else (-9)) (hf : ∀ q, q < 4 → ∀ i, bit (u.2 (144 + 100 * w) q) i = (decide (i < 16) && N (16 * q + i))) (hN : ∀ f, N f = true → f / 16 < P.1) (hn : 16 < n) : ∃ R', fX3_isRoundIn_b121 n w n 0 u.1 u.2 = some (1, u.1, R') ∧ RepR (fun f => s.1 f || N f, fun f => if N f = true then c else s.2.1 f, c) w (u.1, R') ∧ ∀ k, k ≠ 143 + 100 * w → k ≠ 145 + 100 * w → R' k = u.2 k := by
  have hP1 := hP.1
  obtain ⟨s', ⟨g1, g2, g3⟩, g4⟩ := lp0 (fun j i (s : Nat → Nat → Int32) => fX3_isRoundIn_b121 n w j (nI i) u.1 s) P.1 (fun k R => RepH (fun f => s.1 f || (decide (f / 16 < k) && N f)) w R ∧ (∀ f, f < 64 → R (145 + 100 * w) f = if f / 16 < k ∧ N f = true then nI c else if s.1 f = true then nI (s.2.1 f) else (-9)) ∧ ∀ k, k ≠ 143 + 100 * w → k ≠ 145 + 100 * w → R k = u.2 k)
    (by
      intro j k R hk ⟨g1, g2, g3⟩
      try dsimp only
      obtain ⟨R', e1, e2, e3, e4⟩ := e_hold (n := n) (w := w) (q := k) (c := c) (I := u.1) (R := R) (m := R (144 + 100 * w) k) (T := fun i => N (16 * k + i)) (by omega) (by rw [g3 _ (by omega) (by omega)]; exact hf k (by omega)) hn
      rw [fX3_isRoundIn_b121, hI, if_neg (nI_ge hk (by omega)), gpos (inb_nI (by omega) (by decide)), getA_nI (by omega), hc, e1, bsome, nI_1]
      refine ⟨R', ⟨fun q hq i => ?_, fun f hf => ?_, fun i h1 h2 => (e4 i h1 h2).trans (g3 i h1 h2)⟩, rfl⟩
      · rw [e2 q]
        by_cases eq : q = k
        · subst eq
          rw [if_pos rfl, bit_or, g1 q hq i, g3 _ (by omega) (by omega), hf q hq i]
          by_cases hi : i < 16
          · have a1 : ¬ (16 * q + i) / 16 < q := by omega
            have a2 : (16 * q + i) / 16 < q + 1 := by omega
            simp [hi, a1, a2]
          · simp [hi]
        · rw [if_neg eq, g1 q hq i]
          by_cases hi : i < 16
          · have a1 : decide ((16 * q + i) / 16 < k + 1) = decide ((16 * q + i) / 16 < k) := decide_eq_decide.mpr (by omega)
            dsimp only
            rw [a1]
          · simp [hi]
      · rw [e3 f hf, g2 f hf]
        by_cases e : f / 16 = k
        · rw [show 16 * k + f % 16 = f by omega]
          by_cases eN : N f = true
          · rw [if_pos ⟨e, eN⟩, if_pos ⟨by omega, eN⟩]
          · rw [if_neg (fun h => eN h.2), if_neg (fun h => eN h.2), if_neg (show ¬ (f / 16 < k + 1 ∧ N f = true) from fun h => eN h.2)]
        · rw [if_neg (fun h => e h.1)]
          by_cases eN : f / 16 < k ∧ N f = true
          · rw [if_pos eN, if_pos ⟨by omega, eN.2⟩]
          · rw [if_neg eN, if_neg (show ¬ (f / 16 < k + 1 ∧ N f = true) from fun h => eN ⟨by omega, h.2⟩)])
    (s := u.2) ⟨fun q hq i => by rw [hH q hq i]; simp, fun f hf => by rw [if_neg (by omega)]; exact hB f hf, fun _ _ _ => rfl⟩ (n := n) (by omega)
  refine ⟨s', ?_, ⟨fun q hq i => ?_, fun f hf => ?_, hc⟩, g3⟩
  · refine g4.trans ?_
    try dsimp only
    rw [fX3_isRoundIn_b121, hI, if_pos (nI_le (Nat.le_refl _) (by omega))]
  · rw [g1 q hq i]
    show _ = (decide (i < 16) && (s.1 (16 * q + i) || N (16 * q + i)))
    by_cases eN : N (16 * q + i) = true
    · have := hN _ eN
      simp [this]
    · have : N (16 * q + i) = false := by simpa using eN
      simp [this]
  · show s' (145 + 100 * w) f = if (s.1 f || N f) = true then nI (if N f = true then c else s.2.1 f) else (-9)
    rw [g2 f hf]
    by_cases eN : N f = true
    · rw [if_pos ⟨hN f eN, eN⟩, if_pos (by rw [eN]; simp), if_pos eN]
    · have e0 : N f = false := by simpa using eN
      rw [if_neg (fun h => eN h.2), if_neg eN, e0, Bool.or_false]
theorem e_ranys {P : Prog} {w n : Nat} {I : Nat → Int32} {R : Nat → Nat → Int32} (hP : pOk P) (hI : I (118 + 100 * w) = nI P.1) (hn : 16 < n) : ∃ a : Int32, fX3_isRoundIn_b77 n w n 0 0 I R = (if a = 0 then some (0, I, R) else fX3_isRoundIn_b121 n w n 0 (upd I (146 + 100 * w) ((I (146 + 100 * w)) + 1)) R) ∧ (a = 0 ↔ ∀ q, q < P.1 → ∀ i, i < 32 → bit (R (144 + 100 * w) q) i = false) := by
  have hP1 := hP.1
  obtain ⟨a, g1, g4⟩ := lp0 (fun j i (a : Int32) => fX3_isRoundIn_b77 n w j a (nI i) I R) P.1 (fun k a => (a = 0 ↔ ∀ q, q < k → ∀ i, i < 32 → bit (R (144 + 100 * w) q) i = false))
    (by
      intro j k a hk g1
      try dsimp only
      rw [fX3_isRoundIn_b77, hI, if_neg (nI_ge hk (by omega)), gpos (inb_nI (by omega) (by decide)), getA_nI (by omega), nI_1]
      refine ⟨_, ?_, rfl⟩
      rw [bit_ne0]
      constructor
      · intro h q hq i hi
        by_cases e : q = k
        · have := h i hi
          rw [bit_or, Bool.or_eq_false_iff] at this
          rw [e]; exact this.2
        · refine g1.mp ?_ q (by omega) i hi
          rw [bit_ne0]
          intro i hi
          have := h i hi
          rw [bit_or, Bool.or_eq_false_iff] at this
          exact this.1
      · intro h i hi
        rw [bit_or, h k (by omega) i hi, g1.mpr (fun q hq => h q (by omega)), bit_0]
        rfl)
    (s := (0 : Int32)) ⟨fun _ q hq => absurd hq (by omega), fun _ => rfl⟩ (n := n) (by omega)
  refine ⟨a, ?_, g1⟩
  refine g4.trans ?_
  try dsimp only
  rw [fX3_isRoundIn_b77, hI, if_pos (nI_le (Nat.le_refl _) (by omega))]
theorem e_round {P : Prog} {w n its : Nat} {u : mSt} {l : Nat → Nat} {s : RSt} (hP : pOk P) (h : RepC P w u) (hl : RepL l w u) (hlB : ∀ q, l q ≤ 1000) (hits : its ≤ 1000) (hR : RepR s w u) (hn : 16 < n) : ∃ u', fX3_isRoundIn n w (nI its) u.1 u.2 = some (b01 (rfg P l its s), u') ∧ RepR (if rfg P l its s = true then rnd P l its s else s) w u' ∧ (∀ k, k ≠ 146 + 100 * w → u'.1 k = u.1 k) ∧ ∀ k, k ≠ 143 + 100 * w → k ≠ 144 + 100 * w → k ≠ 145 + 100 * w → u'.2 k = u.2 k := by
  have hP1 := hP.1
  have h5 := hP.2.1
  obtain ⟨R, ⟨g1, g2⟩, g4⟩ := lp0 (fun j i (R : Nat → Nat → Int32) => fX3_isRoundIn_b10 n w j (nI its) (nI i) u.1 R) P.2.1 (fun k R => (∀ q, q < 4 → ∀ i, bit (R (144 + 100 * w) q) i = (decide (i < 16) && (!s.1 (16 * q + i) && anyB (gdr P l its s.1 (16 * q + i)) k))) ∧ ∀ k, k ≠ 144 + 100 * w → R k = u.2 k)
    (by
      intro j k R hk ⟨g1, g2⟩
      try dsimp only
      have hC : RepC P w (u.1, R) := h.fr (fun k hk => g2 _ (by omega))
      have hH : RepH s.1 w R := by
        intro q hq i
        rw [g2 _ (by omega)]
        exact hR.1 q hq i
      have hb : inb (nI k) 5 = true := inb_nI (by omega) (by decide)
      have hpk := hP.2.2.2.1 k hk
      have c3 : getA R (114 + 100 * w) (nI k) = nI (P.2.2.1 3 k) := hC.at 3 (by decide) hk h5
      have hbh : inb (nI (P.2.2.1 3 k)) 4 = true := inb_nI (by omega) (by decide)
      have el : R (132 + 100 * w) (P.2.2.1 3 k) = nI (l (P.2.2.1 3 k)) := by rw [g2 _ (by omega)]; exact hl _ (by omega)
      have hlb := hlB (P.2.2.1 3 k)
      rw [fX3_isRoundIn_b10, h.2.1, if_neg (nI_ge hk (by omega)), gpos hb, c3, gpos hbh, getA_nI (by omega), el]
      unfold fX3_isRoundIn_b67
      by_cases e : l (P.2.2.1 3 k) = its
      · obtain ⟨m, e1, e2⟩ := e_follow (n := n) hP hC hH hk hn
        rw [if_pos (by rw [e]), gpos hbh, e1, bsome, gpos hbh, gpos hbh, nI_1]
        dsimp only
        rw [getA_nI (by omega), getA_nI (by omega)]
        refine ⟨setA R (144 + 100 * w) (nI (P.2.2.1 3 k)) (R (144 + 100 * w) (P.2.2.1 3 k) ||| (m &&& (R (143 + 100 * w) (P.2.2.1 3 k) ^^^ (-1)))), ⟨fun q hq i => ?_, fun i hi => (setA_ne hi).trans (g2 i hi)⟩, rfl⟩
        rw [setA_at (by omega)]
        by_cases eq : q = P.2.2.1 3 k
        · rw [if_pos eq, bit_or, bit_and, bit_xor, bit_m1, e2 i, hH _ (by omega), ← eq, g1 q hq i]
          show _ = (decide (i < 16) && (!s.1 (16 * q + i) && (anyB (gdr P l its s.1 (16 * q + i)) k || gdr P l its s.1 (16 * q + i) k)))
          unfold gdr
          by_cases hi : i < 16
          · have a1 : i < 32 := by omega
            have a2 : (16 * q + i) / 16 = q := by omega
            have a3 : (16 * q + i) % 16 / 4 = i / 4 := by omega
            have a4 : (16 * q + i) % 4 = i % 4 := by omega
            rw [a2, a3, a4, ← eq, eq, e, ← eq]
            simp only [hi, a1, decide_true, Bool.true_and, Bool.and_true, Bool.xor_true]
            cases s.1 (16 * q + i) <;> simp
          · simp [hi]
        · rw [if_neg eq, g1 q hq i]
          show _ = (decide (i < 16) && (!s.1 (16 * q + i) && (anyB (gdr P l its s.1 (16 * q + i)) k || gdr P l its s.1 (16 * q + i) k)))
          by_cases hi : i < 16
          · have : gdr P l its s.1 (16 * q + i) k = false := by
              unfold gdr
              have : ¬ P.2.2.1 3 k = (16 * q + i) / 16 := by omega
              simp [this]
            rw [this, Bool.or_false]
          · simp [hi]
      · rw [if_neg (fun z => e ((nI_eq (by omega) (by omega)).mp z)), nI_1]
        refine ⟨R, ⟨fun q hq i => ?_, g2⟩, rfl⟩
        rw [g1 q hq i]
        show _ = (decide (i < 16) && (!s.1 (16 * q + i) && (anyB (gdr P l its s.1 (16 * q + i)) k || gdr P l its s.1 (16 * q + i) k)))
        have : gdr P l its s.1 (16 * q + i) k = false := by
          unfold gdr
          simp [e]
        rw [this, Bool.or_false])
    (s := flA u.2 (144 + 100 * w) 4 0) ⟨fun q hq i => by rw [flA_at hq, bit_0]; simp [anyB], fun k hk => flA_ne hk⟩ (n := n) (by omega)
  have e0 : fX3_isRoundIn n w (nI its) u.1 u.2 = fX3_isRoundIn_b77 n w n 0 0 u.1 R := by
    unfold fX3_isRoundIn
    refine g4.trans ?_
    try dsimp only
    rw [fX3_isRoundIn_b10, h.2.1, if_pos (nI_le (Nat.le_refl _) (by omega))]
  obtain ⟨a, ea, ha⟩ := e_ranys (n := n) (w := w) (I := u.1) (R := R) hP h.1 hn
  have hfr : ∀ q, q < 4 → ∀ i, bit (R (144 + 100 * w) q) i = (decide (i < 16) && nwf P l its s.1 (16 * q + i)) := g1
  have hz : a = 0 ↔ rfg P l its s = false := by
    rw [ha]
    unfold rfg
    constructor
    · intro z
      cases hh : anyB (nwf P l its s.1) 64 with
      | false => rfl
      | true =>
        obtain ⟨f, hf, h2⟩ := anyB_iff.mp hh
        have h3 := nwf_lt hP h2
        have h4 := z (f / 16) h3 (f % 16) (by omega)
        rw [hfr _ (by omega), show 16 * (f / 16) + f % 16 = f by omega, h2, show decide (f % 16 < 16) = true from decide_eq_true (by omega)] at h4
        exact absurd h4 (by decide)
    · intro z q hq i hi
      rw [hfr q (by omega)]
      by_cases hi : i < 16
      · cases hh : nwf P l its s.1 (16 * q + i) with
        | false => simp
        | true =>
          have := anyB_iff.mpr ⟨16 * q + i, (by omega : 16 * q + i < 64), hh⟩
          rw [z] at this
          exact absurd this (by decide)
      · simp [hi]
  rw [e0, ea]
  cases hh : rfg P l its s with
  | false =>
    rw [if_pos (hz.mpr hh), if_neg (by decide)]
    refine ⟨(u.1, R), rfl, ⟨fun q hq i => by show bit (R _ q) i = _; rw [g2 _ (by omega)]; exact hR.1 q hq i, fun f hf => by show R _ f = _; rw [g2 _ (by omega)]; exact hR.2.1 f hf, hR.2.2⟩, fun _ _ => rfl, fun k _ h2 _ => g2 k h2⟩
  | true =>
    rw [if_neg (fun z => by rw [hz.mp z] at hh; exact absurd hh (by decide)), if_pos rfl, hR.2.2, nI_1]
    obtain ⟨R', f1, f2, f3⟩ := e_rholds (n := n) (w := w) (c := s.2.2 + 1) (u := (upd u.1 (146 + 100 * w) (nI (s.2.2 + 1)), R)) (N := nwf P l its s.1) (s := s) hP ((upd_no (by omega)).trans h.1) upd_at (fun q hq i => by show bit (R _ q) i = _; rw [g2 _ (by omega)]; exact hR.1 q hq i) (fun f hf => by show R _ f = _; rw [g2 _ (by omega)]; exact hR.2.1 f hf) hfr (fun f hf => nwf_lt hP hf) hn
    exact ⟨_, f1, f2, fun k hk => upd_no hk, fun k h1 h2 h3 => (f3 k h1 h3).trans (g2 k h2)⟩
