/-! rounds of the reference -/
def RepHM (H : Nat → Bool) (R : Nat → Nat → Int32) : Prop := ∀ f, f < 64 → R 22 f = b01 (H f)
theorem b01_1 {b : Bool} : b01 b = 1 ↔ b = true := by cases b <;> simp [b01]
theorem g4' {k : Nat} (h : k < 4) : ¬ (4 : Int32) ≤ nI k := nI_ge (b := 4) h (by decide)
theorem g64 {k : Nat} (h : k < 64) : ¬ (64 : Int32) ≤ nI k := nI_ge (b := 64) h (by decide)
theorem e_followM {P : Prog} {n r x y : Nat} {v : mSt} {H : Nat → Bool} (hP : pOk P) (h : RepM P v) (hH : RepHM H v.2) (hr : r < P.2.1) (hx : x < 4) (hy : y < 4) (hn : 4 < n) : fX8_follows n (nI r) (nI x) (nI y) v.1 v.2 = some (b01 (fol P H r x y), v) := by
  have hk := hP.2.2.2.1 r hr
  have hP1 := hP.1
  have h5 := hP.2.1
  have hb : inb (nI r) 5 = true := inb_nI (by omega) (by decide)
  have c2 : getA v.2 9 (nI r) = nI (P.2.2.1 2 r) := h.at 2 (by decide) hr h5
  have c4 : getA v.2 11 (nI r) = nI (P.2.2.1 4 r) := h.at 4 (by decide) hr h5
  have hb64 : ∀ {q x y : Nat}, q < 4 → x < 4 → y < 4 → inb (nI (16 * q + 4 * x + y)) 64 = true := fun _ _ _ => inb_nI (by omega) (by decide)
  have hf : P.2.2.1 2 r = 0 ∨ P.2.2.1 2 r = 1 ∨ P.2.2.1 2 r = 2 ∨ P.2.2.1 2 r = 3 := by omega
  unfold fX8_follows fol
  rw [gpos hb, c2]
  rcases hf with e | e | e | e
  · rw [e, if_neg (by decide), gpos hb, if_neg (by decide), gpos hb, if_pos (by decide), gpos hb, c4, e_factM, bsome]
    unfold fX8_follows_b164
    rw [gpos (hb64 (by omega) hx hy), getA_nI (by omega), hH _ (by omega), if_neg (show ¬ (0 : Nat) = 2 by decide), if_neg (show ¬ (0 : Nat) = 3 by decide), if_neg (show ¬ (0 : Nat) = 1 by decide)]
    cases hz : H (16 * P.2.2.1 4 r + 4 * x + y) <;> rfl
  · rw [e, if_neg (by decide), gpos hb, if_neg (by decide), gpos hb, if_neg (by decide), gpos hb, c4, e_factM, bsome]
    unfold fX8_follows_b164
    rw [gpos (hb64 (by omega) hy hx), getA_nI (by omega), hH _ (by omega), if_neg (show ¬ (1 : Nat) = 2 by decide), if_neg (show ¬ (1 : Nat) = 3 by decide), if_pos (show (1 : Nat) = 1 from rfl)]
    cases hz : H (16 * P.2.2.1 4 r + 4 * y + x) <;> rfl
  · have c5 : getA v.2 12 (nI r) = nI (P.2.2.1 5 r) := h.o hr h5 (by omega)
    rw [e, if_pos (by decide), if_pos rfl]
    have step : ∀ j z, z < 4 → fX8_follows_b13 n (j + 1) (nI r) (nI x) (nI y) (nI z) v.1 v.2 = if (H (16 * P.2.2.1 4 r + 4 * x + z) && H (16 * P.2.2.1 5 r + 4 * z + y)) = true then some (1, v) else fX8_follows_b13 n j (nI r) (nI x) (nI y) (nI (z + 1)) v.1 v.2 := by
      intro j z hz
      rw [fX8_follows_b13, if_neg (g4' hz), gpos hb, c4, e_factM, bsome, gpos (hb64 (by omega) hx hz), getA_nI (by omega), hH _ (by omega), gpos hb, c5, e_factM, bsome, gpos (hb64 (by omega) hz hy), getA_nI (by omega), hH _ (by omega)]
      unfold fX8_follows_b63
      rw [nI_1]
      cases H (16 * P.2.2.1 4 r + 4 * x + z) <;> cases H (16 * P.2.2.1 5 r + 4 * z + y) <;> rfl
    obtain ⟨j, rfl⟩ : ∃ i, n = i + 5 := ⟨n - 5, by omega⟩
    rw [show (0 : Int32) = nI 0 from rfl, step _ 0 (by decide), step _ 1 (by decide), step _ 2 (by decide), step _ 3 (by decide), fX8_follows_b13, if_pos (show (4 : Int32) ≤ nI (3 + 1) by decide)]
    show _ = some (b01 ((((false || (H (16 * P.2.2.1 4 r + 4 * x + 0) && H (16 * P.2.2.1 5 r + 4 * 0 + y))) || (H (16 * P.2.2.1 4 r + 4 * x + 1) && H (16 * P.2.2.1 5 r + 4 * 1 + y))) || (H (16 * P.2.2.1 4 r + 4 * x + 2) && H (16 * P.2.2.1 5 r + 4 * 2 + y))) || (H (16 * P.2.2.1 4 r + 4 * x + 3) && H (16 * P.2.2.1 5 r + 4 * 3 + y))), v)
    generalize (H (16 * P.2.2.1 4 r + 4 * x + 0) && H (16 * P.2.2.1 5 r + 4 * 0 + y)) = p0
    generalize (H (16 * P.2.2.1 4 r + 4 * x + 1) && H (16 * P.2.2.1 5 r + 4 * 1 + y)) = p1
    generalize (H (16 * P.2.2.1 4 r + 4 * x + 2) && H (16 * P.2.2.1 5 r + 4 * 2 + y)) = p2
    generalize (H (16 * P.2.2.1 4 r + 4 * x + 3) && H (16 * P.2.2.1 5 r + 4 * 3 + y)) = p3
    cases p0 <;> cases p1 <;> cases p2 <;> cases p3 <;> rfl
  · have c5 : getA v.2 12 (nI r) = nI (P.2.2.1 5 r) := h.o hr h5 (by omega)
    rw [e, if_neg (by decide), gpos hb, if_pos (by decide), gpos hb, c4, e_factM, bsome, gpos (hb64 (by omega) hx hy), getA_nI (by omega), hH _ (by omega), gpos hb, c5, e_factM, bsome, gpos (hb64 (by omega) hx hy), getA_nI (by omega), hH _ (by omega), if_neg (show ¬ (3 : Nat) = 2 by decide), if_pos (show (3 : Nat) = 3 from rfl)]
    cases H (16 * P.2.2.1 4 r + 4 * x + y) <;> cases H (16 * P.2.2.1 5 r + 4 * x + y) <;> rfl
/-- what has come in this round so far: M -/
def RepT (H : Nat → Bool) (B : Nat → Nat) (c : Nat) (v : mSt) (M : Nat → Bool) (s : Int32 × (Nat → Nat → Int32)) : Prop := (∀ f, f < 64 → s.2 23 f = b01 (H f || M f)) ∧ (∀ f, f < 64 → s.2 24 f = nI (if M f = true then c + 1 else B f)) ∧ s.1 = b01 (anyB M 64) ∧ ∀ k, k ≠ 23 → k ≠ 24 → s.2 k = v.2 k
theorem anyB_congr {p p' : Nat → Bool} {n : Nat} (h : ∀ k, k < n → p k = p' k) : anyB p n = anyB p' n := by
  rw [Bool.eq_iff_iff, anyB_iff, anyB_iff]
  exact ⟨fun ⟨z, a, b⟩ => ⟨z, a, h z a ▸ b⟩, fun ⟨z, a, b⟩ => ⟨z, a, (h z a).symm ▸ b⟩⟩
theorem RepT.congr {H : Nat → Bool} {B : Nat → Nat} {c : Nat} {v : mSt} {M M' : Nat → Bool} {s : Int32 × (Nat → Nat → Int32)} (h : RepT H B c v M s) (e : ∀ f, f < 64 → M f = M' f) : RepT H B c v M' s :=
  ⟨fun f hf => by rw [← e f hf]; exact h.1 f hf, fun f hf => by rw [← e f hf]; exact h.2.1 f hf, by rw [← anyB_congr e]; exact h.2.2.1, h.2.2.2⟩
theorem RepT.add {H : Nat → Bool} {B : Nat → Nat} {c f0 : Nat} {v : mSt} {M : Nat → Bool} {s : Int32 × (Nat → Nat → Int32)} (h : RepT H B c v M s) (h0 : f0 < 64) : RepT H B c v (fun f => M f || decide (f = f0)) (1, setA (setA s.2 23 (nI f0) 1) 24 (nI f0) (nI (c + 1))) := by
  refine ⟨fun f hf => ?_, fun f hf => ?_, ?_, fun k h1 h2 => ?_⟩
  · dsimp only
    rw [setA_ne (by decide), setA_at (by omega)]
    by_cases e : f = f0
    · rw [if_pos e]; simp [e, b01]
    · rw [if_neg e, h.1 f hf]; simp [e]
  · dsimp only
    rw [setA_at (by omega), setA_ne (by decide)]
    by_cases e : f = f0
    · rw [if_pos e]; simp [e]
    · rw [if_neg e, h.2.1 f hf]; simp [e]
  · rw [show anyB (fun f => M f || decide (f = f0)) 64 = true from anyB_iff.mpr ⟨f0, h0, by simp⟩]; rfl
  · dsimp only
    rw [setA_ne h2, setA_ne h1]; exact h.2.2.2 k h1 h2
def Mk (P : Prog) (l : Nat → Nat) (its : Nat) (H : Nat → Bool) (k t : Nat) (f : Nat) : Bool := !H f && (anyB (gdr P l its H f) k || (decide (f % 16 < t) && gdr P l its H f k))
theorem e_ruleM {P : Prog} {n its k : Nat} {v : mSt} {l : Nat → Nat} {H : Nat → Bool} {B : Nat → Nat} {c : Nat} (k30 : Int32 → Int32 → Int32 → (Nat → Int32) → (Nat → Nat → Int32) → Option (Int32 × mSt)) (hP : pOk P) (h : RepM P v) (hl : RepLM l v) (hlB : ∀ q, l q ≤ 1000) (hits : its ≤ 1000) (hH : RepHM H v.2) (hc : v.1 25 = nI c) (hk : k < P.2.1) (hn : 16 < n) {s : Int32 × (Nat → Nat → Int32)} (hs : RepT H B c v (Mk P l its H k 0) s) : ∃ s', fX8_goesRound_b41 n k30 n (nI its) s.1 (nI k) 0 v.1 s.2 = k30 (nI its) s'.1 (nI (k + 1)) v.1 s'.2 ∧ RepT H B c v (Mk P l its H (k + 1) 0) s' := by
  have hP1 := hP.1
  have h5 := hP.2.1
  have hpk := hP.2.2.2.1 k hk
  have hb : inb (nI k) 5 = true := inb_nI (by omega) (by decide)
  have hbh : inb (nI (P.2.2.1 3 k)) 4 = true := inb_nI (by omega) (by decide)
  have hlb := hlB (P.2.2.1 3 k)
  have fr : ∀ {M : Nat → Bool} {s : Int32 × (Nat → Nat → Int32)}, RepT H B c v M s → RepM P (v.1, s.2) := fun hs => h.fr (fun i hi => hs.2.2.2 _ (by omega) (by omega))
  have fc3 : ∀ {M : Nat → Bool} {s : Int32 × (Nat → Nat → Int32)}, RepT H B c v M s → getA s.2 10 (nI k) = nI (P.2.2.1 3 k) := fun hs => (fr hs).at 3 (by decide) hk h5
  have fel : ∀ {M : Nat → Bool} {s : Int32 × (Nat → Nat → Int32)}, RepT H B c v M s → s.2 21 (P.2.2.1 3 k) = nI (l (P.2.2.1 3 k)) := fun hs => by rw [hs.2.2.2 _ (by decide) (by decide)]; exact hl _ (by omega)
  by_cases e : l (P.2.2.1 3 k) = its
  · obtain ⟨s', g1, g4⟩ := lp0 (fun j i (s : Int32 × (Nat → Nat → Int32)) => fX8_goesRound_b41 n k30 j (nI its) s.1 (nI k) (nI i) v.1 s.2) 16 (fun t s => RepT H B c v (Mk P l its H k t) s)
      (by
        intro j t s ht hs
        try dsimp only
        have hM := fr hs
        have hHs : RepHM H s.2 := fun f hf => by rw [hs.2.2.2 _ (by decide) (by decide)]; exact hH f hf
        have c3 := fc3 hs
        have el := fel hs
        have e23 := hs.1 (16 * P.2.2.1 3 k + t) (by omega)
        have hfo := e_followM (n := n) (x := t / 4) (y := t % 4) hP hM hHs hk (by omega) (by omega) (by omega)
        rw [fX8_goesRound_b41, if_neg (g16 ht), gpos hb, c3, gpos hbh, getA_nI (by omega), el, if_pos (by rw [e]), gpos hb, x16, nI_add, gpos (inb_nI (by omega) (by decide)), getA_nI (by omega), e23, m4 (by omega), d4 (by omega), hfo, bsome, gpos (inb_nI (by omega) (by decide)), gpos (inb_nI (by omega) (by decide))]
        unfold fX8_goesRound_b126
        dsimp only
        rw [nI_1, hc, nI_1]
        have eg : gdr P l its H (16 * P.2.2.1 3 k + t) k = fol P H k (t / 4) (t % 4) := by
          unfold gdr
          rw [show (16 * P.2.2.1 3 k + t) / 16 = P.2.2.1 3 k by omega, show (16 * P.2.2.1 3 k + t) % 16 / 4 = t / 4 by omega, show (16 * P.2.2.1 3 k + t) % 4 = t % 4 by omega, e]
          simp
        have eo : ∀ f, f ≠ 16 * P.2.2.1 3 k + t → Mk P l its H k (t + 1) f = Mk P l its H k t f := by
          intro f hf
          unfold Mk
          by_cases e9 : f % 16 = t
          · have : gdr P l its H f k = false := by
              unfold gdr
              have : ¬ P.2.2.1 3 k = f / 16 := by omega
              simp [this]
            rw [this]; simp
          · rw [show decide (f % 16 < t + 1) = decide (f % 16 < t) from decide_eq_decide.mpr (by omega)]
        have e1 : Mk P l its H k t (16 * P.2.2.1 3 k + t) = (!H (16 * P.2.2.1 3 k + t) && anyB (gdr P l its H (16 * P.2.2.1 3 k + t)) k) := by
          unfold Mk
          rw [show decide ((16 * P.2.2.1 3 k + t) % 16 < t) = false from decide_eq_false (by omega)]
          simp
        have e2 : Mk P l its H k (t + 1) (16 * P.2.2.1 3 k + t) = (!H (16 * P.2.2.1 3 k + t) && (anyB (gdr P l its H (16 * P.2.2.1 3 k + t)) k || fol P H k (t / 4) (t % 4))) := by
          unfold Mk
          rw [show decide ((16 * P.2.2.1 3 k + t) % 16 < t + 1) = true from decide_eq_true (by omega), eg]
          simp
        cases hz : (H (16 * P.2.2.1 3 k + t) || Mk P l its H k t (16 * P.2.2.1 3 k + t)) with
        | true =>
          rw [if_neg (show ¬ b01 true = 0 by decide)]
          refine ⟨s, hs.congr (fun f hf => ?_), rfl⟩
          by_cases ef : f = 16 * P.2.2.1 3 k + t
          · rw [ef, e1, e2]
            rw [e1] at hz
            revert hz
            cases H (16 * P.2.2.1 3 k + t) <;> simp
            intro h; simp [h]
          · exact (eo f ef).symm
        | false =>
          rw [if_pos (show b01 false = 0 from rfl)]
          rw [Bool.or_eq_false_iff] at hz
          cases hz2 : fol P H k (t / 4) (t % 4) with
          | false =>
            rw [if_pos (show b01 false = 0 from rfl)]
            refine ⟨s, hs.congr (fun f hf => ?_), rfl⟩
            by_cases ef : f = 16 * P.2.2.1 3 k + t
            · rw [ef, e1, e2, hz2, Bool.or_false]
            · exact (eo f ef).symm
          | true =>
            rw [if_neg (show ¬ b01 true = 0 by decide)]
            refine ⟨_, (hs.add (f0 := 16 * P.2.2.1 3 k + t) (by omega)).congr (fun f hf => ?_), rfl⟩
            by_cases ef : f = 16 * P.2.2.1 3 k + t
            · rw [ef, e2, hz2, hz.1]; simp
            · rw [eo f ef]; simp [ef])
      (s := s) hs (n := n) hn
    refine ⟨s', ?_, g1.congr (fun f hf => ?_)⟩
    · refine g4.trans ?_
      try dsimp only
      rw [fX8_goesRound_b41, if_pos (show (16 : Int32) ≤ nI 16 by decide)]
      unfold fX8_goesRound_b132
      rw [nI_1]
    · unfold Mk
      rw [show decide (f % 16 < 16) = true from decide_eq_true (by omega), show decide (f % 16 < 0) = false from decide_eq_false (by omega)]
      simp [anyB]
  · refine ⟨s, ?_, hs.congr (fun f hf => ?_)⟩
    · obtain ⟨j, rfl⟩ : ∃ i, n = i + 1 := ⟨n - 1, by omega⟩
      have c3 := fc3 hs
      have el := fel hs
      rw [fX8_goesRound_b41, if_neg (show ¬ (16 : Int32) ≤ 0 by decide), gpos hb, c3, gpos hbh, getA_nI (by omega), el, if_neg (fun z => e ((nI_eq (by omega) (by omega)).mp z))]
      unfold fX8_goesRound_b132
      rw [nI_1]
    · have : gdr P l its H f k = false := by
        unfold gdr
        simp [e]
      unfold Mk
      show _ = (!H f && ((anyB (gdr P l its H f) k || gdr P l its H f k) || _))
      rw [this]
      simp
