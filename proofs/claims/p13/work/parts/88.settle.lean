/-! what a settled world holds; settle -/
def LL (P : Prog) (f : Nat) : Nat := lays P 3 (f / 16)
def ahd (P : Prog) (f g : Nat) : Prop := LL P f < LL P g ∨ (LL P f = LL P g ∧ (cst P f < cst P g ∨ (cst P f = cst P g ∧ f < g)))
def OrdS (_P : Prog) (o : Nat → Nat) (m : Nat) : Prop := m ≤ 64 ∧ ∀ i, i < m → o i < 64
def OrdOk (P : Prog) (w : Nat) (u : mSt) : Prop := u.1 (157 + 100 * w) = 0 ∨ (u.1 (157 + 100 * w) = 1 ∧ ∃ (o : Nat → Nat) (m : Nat), OrdS P o m ∧ u.1 (156 + 100 * w) = nI m ∧ ∀ i, i < m → u.2 (155 + 100 * w) i = nI (o i))
def SetC (P : Prog) (w : Nat) (u : mSt) : Prop := RepL (lays P 3) w u ∧ RepR (fin P) w u ∧ RepK (cst P) w u.2 ∧ OrdOk P w u
def Cch (P : Prog) (w : Nat) (u : mSt) : Prop := u.1 (105 + 100 * w) = 0 ∨ (u.1 (105 + 100 * w) = 1 ∧ SetC P w u)
def KK (P : Prog) (u : mSt) : Prop := LayP P ∧ Cch P 0 u
theorem SetC.fr {P : Prog} {w : Nat} {u u' : mSt} (h : SetC P w u) (h1 : ∀ i, 110 + 100 * w ≤ i → i < 200 + 100 * w → u'.1 i = u.1 i) (h2 : ∀ i, 110 + 100 * w ≤ i → i < 200 + 100 * w → u'.2 i = u.2 i) : SetC P w u' := by
  obtain ⟨a, ⟨b1, b2, b3⟩, c, d⟩ := h
  refine ⟨fun q hq => ?_, ⟨fun q hq i => ?_, fun f hf => ?_, ?_⟩, fun f hf => ?_, ?_⟩
  · rw [h2 _ (by omega) (by omega)]; exact a q hq
  · rw [h2 _ (by omega) (by omega)]; exact b1 q hq i
  · rw [h2 _ (by omega) (by omega)]; exact b2 f hf
  · rw [h1 _ (by omega) (by omega)]; exact b3
  · exact c.fr (h2 _ (by omega) (by omega)) (h2 _ (by omega) (by omega)) f hf
  · unfold OrdOk
    rw [h1 _ (by omega) (by omega), h1 (156 + 100 * w) (by omega) (by omega), h2 _ (by omega) (by omega)]
    exact d
theorem frKK : FrK KK := by
  intro P u u' h h1 h2
  refine ⟨h.1, ?_⟩
  rcases h.2 with e | ⟨e, hs⟩
  · exact Or.inl ((h1 _ (by omega) (by omega)).trans e)
  · exact Or.inr ⟨(h1 _ (by omega) (by omega)).trans e, hs.fr (fun i a b => h1 i (by omega) (by omega)) (fun i a b => h2 i (by omega) (by omega))⟩
theorem swp_tog (P : Prog) (f : Nat) (k : Nat) (s : (Nat → Nat) × Bool) : swp (tog P f) k s = swp P k s := by
  induction k with
  | zero => rfl
  | succ k ih =>
    unfold swp
    rw [ih]
    rfl
theorem lays_tog (P : Prog) (f : Nat) (k : Nat) : lays (tog P f) k = lays P k := by
  induction k with
  | zero => rfl
  | succ k ih =>
    unfold lays sw
    rw [ih, swp_tog]
    rfl
theorem lay_tog {P : Prog} (f : Nat) : LayP (tog P f) ↔ LayP P := by
  unfold LayP sw
  rw [lays_tog, swp_tog]
  exact Iff.rfl
theorem ktKK : KT KK := fun _ _ _ f h e => ⟨(lay_tog f).mpr h.1, Or.inl e⟩
def FrW (w : Nat) (u u' : mSt) : Prop := (∀ i, i < 100 + 100 * w ∨ 200 + 100 * w ≤ i → u'.1 i = u.1 i) ∧ ∀ i, i < 100 + 100 * w ∨ 200 + 100 * w ≤ i → u'.2 i = u.2 i
theorem FrW.refl {w : Nat} {u : mSt} : FrW w u u := ⟨fun _ _ => rfl, fun _ _ => rfl⟩
theorem FrW.trans {w : Nat} {u u' u'' : mSt} (h : FrW w u u') (h' : FrW w u' u'') : FrW w u u'' := ⟨fun k hk => (h'.1 k hk).trans (h.1 k hk), fun k hk => (h'.2 k hk).trans (h.2 k hk)⟩
theorem e_settle {P : Prog} {w n : Nat} {u : mSt} (hP : pOk P) (hC : RepC P w u) (hL : LayP P) (hc : Cch P w u) (hn : 70 < n) : ∃ u', fX6_settle n w u.1 u.2 = some u' ∧ SetC P w u' ∧ u'.1 (105 + 100 * w) = 1 ∧ RepC P w u' ∧ FrW w u u' := by
  unfold fX6_settle
  rcases hc with e | ⟨e, hs⟩
  · rw [if_pos e]
    obtain ⟨R1, b, a1, a2, a3, a4⟩ := e_find (n := n) hP hC (by omega)
    have hb : b = true := a2.mpr hL
    rw [a1, bsome]
    dsimp only
    have hC1 : RepC P w (u.1, R1) := hC.fr (fun k hk => a4 _ (by omega))
    obtain ⟨u2, b1, b2, b3⟩ := e_run (n := n) hP hC1 (a3 hb) (fun q => by have := lays_le hP 3 q; omega) (by omega)
    rw [show fX3_run n w u.1 R1 = some u2 from b1, bsome]
    have b2 : RepR (fin P) w u2 := by unfold fin; exact b2
    have hC2 : RepC P w u2 := b3.C hC1
    obtain ⟨R3, c1, c2, c3⟩ := e_crun (n := n) hP hC2 b2.1 (by omega)
    rw [c1, bsome]
    dsimp only
    refine ⟨_, rfl, ⟨fun q hq => ?_, ⟨fun q hq i => ?_, fun f hf => ?_, ?_⟩, c2, Or.inl ?_⟩, upd_at, ?_, ⟨fun i hi => ?_, fun i hi => ?_⟩⟩
    · show R3 _ q = _
      rw [c3 _ (by omega)]; exact b3.L (a3 hb) q hq
    · show bit (R3 _ q) i = _
      rw [c3 _ (by omega)]; exact b2.1 q hq i
    · show R3 _ f = _
      rw [c3 _ (by omega)]; exact b2.2.1 f hf
    · dsimp only
      rw [upd_no (by omega), upd_no (by omega)]; exact b2.2.2
    · dsimp only
      rw [upd_no (by omega), upd_at]
    · refine hC2.mk ?_ ?_ (fun k hk => c3 _ (by omega))
      · dsimp only
        rw [upd_no (by omega), upd_no (by omega)]
      · dsimp only
        rw [upd_no (by omega), upd_no (by omega)]
    · dsimp only
      rw [upd_no (by omega), upd_no (by omega)]; exact b3.1 i (by omega)
    · dsimp only
      rw [c3 _ (by omega), b3.2 i (by omega) (by omega) (by omega)]; exact a4 i (by omega)
  · rw [if_neg (by rw [e]; decide)]
    exact ⟨u, rfl, hs, e, hC, FrW.refl⟩
/-- both sides settle -/
theorem st_settle {u v : mSt} (h : SimOf (PrOf KK) u v) {P : Prog} (hP : pOk P) (hC : RepC P 0 u) (hM : RepM P v) (hK : KK P u) {n : Nat} (hn : 70 < n) : ∃ (u' v' : mSt), fX6_settle n 0 u.1 u.2 = some u' ∧ fX8_findHolds n v.1 v.2 = some v' ∧ RepC P 0 u' ∧ RepM P v' ∧ SetC P 0 u' ∧ RepRM (fin P) v' ∧ RepLM (lays P 3) v' ∧ SimOf (PrOf KK) u' v' := by
  obtain ⟨u', a1, a2, a3, a4, a5⟩ := e_settle (n := n) hP hC hK.1 hK.2 hn
  obtain ⟨v', b1, b2, b3, b4⟩ := e_findHolds (n := n) hP hM hK.1 hn
  have hM' := b4.M hM
  refine ⟨u', v', a1, b1, a4, hM', a2, b2, b3, ?_⟩
  exact Sim_world h (fun i hi => a5.1 i (by omega)) (fun i hi => a5.2 i (by omega)) (fun i hi => b4.1 i (by omega)) (fun i hi => b4.2 i (by omega)) ⟨P, hP, a4, hM', hK.1, Or.inr ⟨a3, a2⟩⟩
theorem e_isThere {P : Prog} {w n : Nat} {u : mSt} (hP : pOk P) (h : RepC P w u) : fX2_isThere n w u.1 u.2 = some (if P.1 = 0 then 0 else 1, u) := by
  have := hP.1
  unfold fX2_isThere
  rw [h.1]
  by_cases e : P.1 = 0
  · rw [e, if_pos (by decide), if_pos rfl]
  · rw [if_neg (nI_nle (by omega) (by omega)), if_neg e]
theorem i5 {P : Prog} {v : mSt} (hP : pOk P) (h : RepM P v) : v.1 5 = 0 ↔ P.1 = 0 := by
  have := hP.1
  rw [h.1]
  exact nI_eq (b := 0) (by omega) (by decide)
theorem st_rounds : St_rounds (SimOf (PrOf KK)) := by
  intro u v h
  obtain ⟨P, hP, hC, hM, hk⟩ := h.2.2.2
  by_cases e : P.1 = 0
  · refine ⟨100, (-3, u), 100, (-3, v), ?_, ?_, rfl, h⟩
    · unfold fX7_rounds; rw [e_isThere hP hC, bsome, if_pos e]; exact i0
    · unfold fX8_rounds; rw [if_pos ((i5 hP hM).mpr e)]
  obtain ⟨u', v', a1, a2, a3, a4, a5, a6, a7, a8⟩ := st_settle h hP hC hM hk (n := 100) (by decide)
  refine ⟨100, (u'.1 146, u'), 100, (v'.1 25, v'), ?_, ?_, ?_, a8⟩
  · unfold fX7_rounds
    rw [e_isThere hP hC, bsome, if_neg e, i1]
    dsimp only
    rw [a1, bsome]
  · unfold fX8_rounds
    rw [if_neg (fun z => e ((i5 hP hM).mp z)), a2, bsome]
  · exact a5.2.1.2.2.trans a6.2.2.symm
/-! counting -/
theorem e_cntH {q n : Nat} {v : mSt} {H : Nat → Bool} (hH : RepHM H v.2) (hq : q < 4) (hn : 16 < n) : fX8_countHeld n (nI q) v.1 v.2 = some (nI (cntB (fun i => H (16 * q + i)) 16), v) := by
  obtain ⟨s, g, g4⟩ := lp0 (fun j i (s : Int32) => fX8_countHeld_b4 n j (nI q) s (nI i) v.1 v.2) 16 (fun k s => s = nI (cntB (fun i => H (16 * q + i)) k))
    (by
      intro j k s hk hs
      try dsimp only
      rw [fX8_countHeld_b4, if_neg (g16 hk), x16, nI_add, gpos (inb_nI (by omega) (by decide)), getA_nI (by omega), hH _ (by omega), nI_1, hs]
      refine ⟨_, ?_, rfl⟩
      show _ = nI (cntB (fun i => H (16 * q + i)) k + if H (16 * q + k) = true then 1 else 0)
      cases H (16 * q + k)
      · exact nI_add _ 0
      · exact nI_add _ 1)
    (s := (0 : Int32)) rfl (n := n) hn
  unfold fX8_countHeld
  refine g4.trans ?_
  try dsimp only
  rw [fX8_countHeld_b4, if_pos (show (16 : Int32) ≤ nI 16 by decide), g]
theorem e_cntT {P : Prog} {q n : Nat} {v : mSt} (h : RepM P v) (hq : q < 4) (hn : 16 < n) : fX8_countTold n (nI q) v.1 v.2 = some (nI (cntB (fun i => P.2.2.2 (16 * q + i)) 16), v) := by
  obtain ⟨s, g, g4⟩ := lp0 (fun j i (s : Int32) => fX8_countTold_b4 n j (nI q) s (nI i) v.1 v.2) 16 (fun k s => s = nI (cntB (fun i => P.2.2.2 (16 * q + i)) k))
    (by
      intro j k s hk hs
      try dsimp only
      rw [fX8_countTold_b4, if_neg (g16 hk), x16, nI_add, gpos (inb_nI (by omega) (by decide)), getA_nI (by omega), h.2.2.2.2 _ (by omega), nI_1, hs]
      refine ⟨_, ?_, rfl⟩
      show _ = nI (cntB (fun i => P.2.2.2 (16 * q + i)) k + if P.2.2.2 (16 * q + k) = true then 1 else 0)
      cases P.2.2.2 (16 * q + k)
      · exact nI_add _ 0
      · exact nI_add _ 1)
    (s := (0 : Int32)) rfl (n := n) hn
  unfold fX8_countTold
  refine g4.trans ?_
  try dsimp only
  rw [fX8_countTold_b4, if_pos (show (16 : Int32) ≤ nI 16 by decide), g]
theorem e_heldC {w n : Nat} {u : mSt} {H : Nat → Bool} (hH : RepH H w u.2) (hn : 16 < n) : fX3_held n w u.1 u.2 = some (nI (cntB (fun i => H (16 * 0 + i)) 16 + cntB (fun i => H (16 * 1 + i)) 16 + cntB (fun i => H (16 * 2 + i)) 16 + cntB (fun i => H (16 * 3 + i)) 16), u) := by
  have step : ∀ (j q : Nat) (a : Nat), q < 4 → fX3_held_b4 n w (j + 1) (nI a) (nI q) u.1 u.2 = fX3_held_b4 n w j (nI (a + cntB (fun i => H (16 * q + i)) 16)) (nI (q + 1)) u.1 u.2 := by
    intro j q a hq
    rw [fX3_held_b4, if_neg (g4' hq), gpos (inb_nI hq (by decide)), getA_nI (by omega), e_bc (hH q hq), bsome, nI_add, nI_1]
  unfold fX3_held
  obtain ⟨j, rfl⟩ : ∃ i, n = i + 5 := ⟨n - 5, by omega⟩
  rw [show (0 : Int32) = nI 0 from rfl, step _ 0 _ (by decide), step _ 1 _ (by decide), step _ 2 _ (by decide), step _ 3 _ (by decide), fX3_held_b4, if_pos (show (4 : Int32) ≤ nI (3 + 1) by decide), Nat.zero_add]
theorem e_allHeld {n : Nat} {v : mSt} {H : Nat → Bool} (hH : RepHM H v.2) (hn : 16 < n) : fX8_allHeld n v.1 v.2 = some (nI (cntB (fun i => H (16 * 0 + i)) 16 + cntB (fun i => H (16 * 1 + i)) 16 + cntB (fun i => H (16 * 2 + i)) 16 + cntB (fun i => H (16 * 3 + i)) 16), v) := by
  unfold fX8_allHeld
  rw [show (0 : Int32) = nI 0 from rfl, show (1 : Int32) = nI 1 from rfl, show (2 : Int32) = nI 2 from rfl, show (3 : Int32) = nI 3 from rfl, e_cntH hH (by decide) hn, bsome]
  dsimp only
  rw [e_cntH hH (by decide) hn, bsome]
  dsimp only
  rw [e_cntH hH (by decide) hn, bsome]
  dsimp only
  rw [e_cntH hH (by decide) hn, bsome]
  dsimp only
  rw [nI_add, nI_add, nI_add]
theorem e_allTold {P : Prog} {n : Nat} {v : mSt} (hM : RepM P v) (hn : 16 < n) : fX8_allTold n v.1 v.2 = some (nI (cntB (fun i => P.2.2.2 (16 * 0 + i)) 16 + cntB (fun i => P.2.2.2 (16 * 1 + i)) 16 + cntB (fun i => P.2.2.2 (16 * 2 + i)) 16 + cntB (fun i => P.2.2.2 (16 * 3 + i)) 16), v) := by
  unfold fX8_allTold
  rw [show (0 : Int32) = nI 0 from rfl, show (1 : Int32) = nI 1 from rfl, show (2 : Int32) = nI 2 from rfl, show (3 : Int32) = nI 3 from rfl, e_cntT hM (by decide) hn, bsome]
  dsimp only
  rw [e_cntT hM (by decide) hn, bsome]
  dsimp only
  rw [e_cntT hM (by decide) hn, bsome]
  dsimp only
  rw [e_cntT hM (by decide) hn, bsome]
  dsimp only
  rw [nI_add, nI_add, nI_add]
theorem cntB_0 {p : Nat → Bool} {n : Nat} (h : ∀ k, k < n → p k = false) : cntB p n = 0 := by
  induction n with
  | zero => rfl
  | succ n ih =>
    unfold cntB
    rw [ih (fun k hk => h k (by omega)), h n (by omega)]
    rfl
theorem e_toldC {P : Prog} {w n : Nat} {u : mSt} (hP : pOk P) (h : RepC P w u) (hn : 16 < n) : fX2_toldCount n w u.1 u.2 = some (nI (cntB (fun i => P.2.2.2 (16 * 0 + i)) 16 + cntB (fun i => P.2.2.2 (16 * 1 + i)) 16 + cntB (fun i => P.2.2.2 (16 * 2 + i)) 16 + cntB (fun i => P.2.2.2 (16 * 3 + i)) 16), u) := by
  have hP1 := hP.1
  have z : ∀ q, P.1 ≤ q → cntB (fun i => P.2.2.2 (16 * q + i)) 16 = 0 := by
    intro q hq
    apply cntB_0
    intro k hk
    cases e : P.2.2.2 (16 * q + k) with
    | false => rfl
    | true => have := hP.2.2.2.2 _ e; omega
  have step : ∀ (j q : Nat) (a : Nat), q < P.1 → fX2_toldCount_b4 n w (j + 1) (nI a) (nI q) u.1 u.2 = fX2_toldCount_b4 n w j (nI (a + cntB (fun i => P.2.2.2 (16 * q + i)) 16)) (nI (q + 1)) u.1 u.2 := by
    intro j q a hq
    rw [fX2_toldCount_b4, h.1, if_neg (nI_ge hq (by omega)), gpos (inb_nI (by omega) (by decide)), getA_nI (by omega), e_bc (h.2.2.2 q (by omega)), bsome, nI_add, nI_1]
  have stop : ∀ (j : Nat) (a : Int32), fX2_toldCount_b4 n w (j + 1) a (nI P.1) u.1 u.2 = some (a, u) := by
    intro j a
    rw [fX2_toldCount_b4, h.1, if_pos (nI_le (Nat.le_refl _) (by omega))]
  unfold fX2_toldCount
  obtain ⟨j, rfl⟩ : ∃ i, n = i + 5 := ⟨n - 5, by omega⟩
  have hc : P.1 = 0 ∨ P.1 = 1 ∨ P.1 = 2 ∨ P.1 = 3 ∨ P.1 = 4 := by omega
  rw [show (0 : Int32) = nI 0 from rfl]
  rcases hc with e | e | e | e | e
  · have := stop (j + 4) (nI 0)
    rw [e] at this
    rw [this, z 0 (by omega), z 1 (by omega), z 2 (by omega), z 3 (by omega)]
  · have := stop (j + 3) (nI (0 + cntB (fun i => P.2.2.2 (16 * 0 + i)) 16))
    rw [e] at this
    rw [step _ 0 _ (by omega), this, z 1 (by omega), z 2 (by omega), z 3 (by omega), Nat.zero_add]
    rfl
  · have := stop (j + 2) (nI (0 + cntB (fun i => P.2.2.2 (16 * 0 + i)) 16 + cntB (fun i => P.2.2.2 (16 * 1 + i)) 16))
    rw [e] at this
    rw [step _ 0 _ (by omega), step _ 1 _ (by omega), this, z 2 (by omega), z 3 (by omega), Nat.zero_add]
    rfl
  · have := stop (j + 1) (nI (0 + cntB (fun i => P.2.2.2 (16 * 0 + i)) 16 + cntB (fun i => P.2.2.2 (16 * 1 + i)) 16 + cntB (fun i => P.2.2.2 (16 * 2 + i)) 16))
    rw [e] at this
    rw [step _ 0 _ (by omega), step _ 1 _ (by omega), step _ 2 _ (by omega), this, z 3 (by omega), Nat.zero_add]
    rfl
  · have := stop j (nI (0 + cntB (fun i => P.2.2.2 (16 * 0 + i)) 16 + cntB (fun i => P.2.2.2 (16 * 1 + i)) 16 + cntB (fun i => P.2.2.2 (16 * 2 + i)) 16 + cntB (fun i => P.2.2.2 (16 * 3 + i)) 16))
    rw [e] at this
    rw [step _ 0 _ (by omega), step _ 1 _ (by omega), step _ 2 _ (by omega), step _ 3 _ (by omega), this, Nat.zero_add]
theorem st_many : St_many (SimOf (PrOf KK)) := by
  intro a1 u v h
  obtain ⟨P, hP, hC, hM, hk⟩ := h.2.2.2
  obtain ⟨c, hc, e1, e2, hr⟩ := h.2.1
  obtain ⟨u', v', b1, b2, b3, b4, b5, b6, b7, b8⟩ := st_settle h hP hC hM hk (n := 100) (by decide)
  suffices hs : ∃ (z1 : Int32 × mSt) (z2 : Int32 × mSt), fX7_many 100 a1 u.1 u.2 = some z1 ∧ fX8_many 100 a1 v.1 v.2 = some z2 ∧ z1.1 = z2.1 ∧ SimOf (PrOf KK) z1.2 z2.2 by
    obtain ⟨z1, z2, hh⟩ := hs
    exact ⟨100, z1, 100, z2, hh⟩
  unfold fX7_many fX8_many
  by_cases g0 : a1 = 0
  · rw [if_pos g0, if_pos g0]; exact ⟨_, _, rfl, rfl, hC.1.trans hM.1.symm, h⟩
  rw [if_neg g0, if_neg g0]
  by_cases g1 : a1 = 1
  · rw [if_pos g1, if_pos g1]; exact ⟨_, _, rfl, rfl, hC.2.1.trans hM.2.1.symm, h⟩
  rw [if_neg g1, if_neg g1]
  by_cases g2 : a1 = 2
  · rw [if_pos g2, if_pos g2, b1, b2, bsome, bsome, e_heldC b5.2.1.1 (by decide), e_allHeld b6.1 (by decide), bsome, bsome]
    exact ⟨_, _, rfl, rfl, rfl, b8⟩
  rw [if_neg g2, if_neg g2]
  by_cases g3 : a1 = 3
  · rw [if_pos g3, if_pos g3, e_toldC hP hC (by decide), e_allTold hM (by decide), bsome, bsome]
    exact ⟨_, _, rfl, rfl, rfl, h⟩
  rw [if_neg g3, if_neg g3]
  by_cases g4 : a1 = 4
  · rw [if_pos g4, if_pos g4]; exact ⟨_, _, rfl, rfl, e1.trans e2.symm, h⟩
  rw [if_neg g4, if_neg g4]
  exact ⟨_, _, rfl, rfl, rfl, h⟩
