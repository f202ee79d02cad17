/-! a rule gets another form -/
def rfm (P : Prog) (r x : Nat) : Prog := (P.1, P.2.1, fun k s => if k = 2 ∧ s = r then x else P.2.2.1 k s, P.2.2.2)
theorem rfm_ne {P : Prog} {r x k s : Nat} (h : k ≠ 2 ∨ s ≠ r) : (rfm P r x).2.2.1 k s = P.2.2.1 k s := if_neg (fun z => by omega)
theorem rfm_at {P : Prog} {r x : Nat} : (rfm P r x).2.2.1 2 r = x := if_pos ⟨rfl, rfl⟩
def fitP (P : Prog) (r x : Nat) : Prop := x < 4 ∧ (x < 2 ↔ P.2.2.1 2 r < 2)
theorem rfm_ok {P : Prog} (h : pOk P) {r x : Nat} (hx : fitP P r x) : pOk (rfm P r x) := by
  obtain ⟨h1, h2, h3, h4, h5⟩ := h
  refine ⟨h1, h2, h3, fun s hs => ?_, h5⟩
  have hk := h4 s hs
  rw [rfm_ne (P := P) (r := r) (x := x) (k := 0) (s := s) (Or.inl (by decide)), rfm_ne (P := P) (r := r) (x := x) (k := 1) (s := s) (Or.inl (by decide)), rfm_ne (P := P) (r := r) (x := x) (k := 3) (s := s) (Or.inl (by decide)), rfm_ne (P := P) (r := r) (x := x) (k := 4) (s := s) (Or.inl (by decide)), rfm_ne (P := P) (r := r) (x := x) (k := 5) (s := s) (Or.inl (by decide))]
  by_cases e : s = r
  · subst e
    rw [rfm_at]
    exact ⟨hk.1, hk.2.1, hk.2.2.1, hx.1, hk.2.2.2.2.1, hk.2.2.2.2.2.1, hk.2.2.2.2.2.2.1, fun z => hk.2.2.2.2.2.2.2 (hx.2.mp z)⟩
  · rw [rfm_ne (P := P) (r := r) (x := x) (k := 2) (s := s) (Or.inr e)]
    exact hk
theorem RepC.rfm {P : Prog} {w r : Nat} {u : mSt} (h : RepC P w u) (x : Nat) (hr : r < 5) : RepC (rfm P r x) w (u.1, setA u.2 (113 + 100 * w) (nI r) (nI x)) := by
  refine ⟨h.1, h.2.1, fun k hk s hs => ?_, fun q hq i => ?_⟩
  · show setA u.2 _ (nI r) (nI x) (111 + k + 100 * w) s = _
    rw [setA_v (by omega)]
    by_cases e : k = 2 ∧ s = r
    · obtain ⟨rfl, rfl⟩ := e
      rw [if_pos ⟨by omega, rfl⟩, rfm_at]
    · rw [if_neg (by omega), rfm_ne (by omega)]
      exact h.2.2.1 k hk s hs
  · show bit (setA u.2 _ (nI r) (nI x) (117 + 100 * w) q) i = _
    rw [setA_ne (by omega)]
    exact h.2.2.2 q hq i
theorem RepM.rfm {P : Prog} {r x : Nat} {v : mSt} (h : RepM P v) (hx : fitP P r x) (hr : r < 5) : RepM (rfm P r x) (v.1, setA v.2 9 (nI r) (nI x)) := by
  refine ⟨h.1, h.2.1, fun k hk s hs => ?_, fun s hs => ?_, fun f hf => ?_⟩
  · show setA v.2 9 (nI r) (nI x) (7 + k) s = _
    rw [setA_v (by omega)]
    by_cases e : k = 2 ∧ s = r
    · obtain ⟨rfl, rfl⟩ := e
      rw [if_pos ⟨by omega, rfl⟩, rfm_at]
    · rw [if_neg (by omega), rfm_ne (by omega)]
      exact h.2.2.1 k hk s hs
  · show setA v.2 9 (nI r) (nI x) 12 s = _
    rw [setA_ne (by decide), rfm_ne (P := P) (r := r) (x := x) (k := 5) (s := s) (Or.inl (by decide)), h.2.2.2.1 s hs]
    by_cases e : s = r
    · subst e
      rw [rfm_at]
      by_cases e2 : x < 2
      · rw [if_pos e2, if_pos (hx.2.mp e2)]
      · rw [if_neg e2, if_neg (fun z => e2 (hx.2.mpr z))]
    · rw [rfm_ne (P := P) (r := r) (x := x) (k := 2) (s := s) (Or.inr e)]
  · show setA v.2 9 (nI r) (nI x) 13 f = _
    rw [setA_ne (by decide)]
    exact h.2.2.2.2 f hf
theorem lay_iff {P : Prog} (hP : pOk P) : LayP P ↔ ∀ q, q < P.1 → ¬ bad P q := ⟨fun h q _ => lay_nbad hP h q, nbad_lay hP⟩
theorem d_fits {P : Prog} {w r : Nat} {u v : mSt} (hP : pOk P) (hC : RepC P w u) (hM : RepM P v) (hr : r < P.2.1) (a : Int32) : (∀ n, fX2_fits n w (nI r) a u.1 u.2 = some (0, u) ∧ fX8_isForm n (nI r) a v.1 v.2 = some (0, v)) ∨ ∃ x, fitP P r x ∧ a = nI x ∧ ∀ n, fX2_fits n w (nI r) a u.1 u.2 = some (1, u) ∧ fX8_isForm n (nI r) a v.1 v.2 = some (1, v) := by
  have hk := hP.2.2.2.1 r hr
  have h5 := hP.2.1
  have hb : inb (nI r) 5 = true := inb_nI (by omega) (by decide)
  have m2 : getA v.2 9 (nI r) = nI (P.2.2.1 2 r) := hM.at 2 (by decide) hr h5
  have b0 : isB 0 = true := rfl
  have b1 : isB 1 = true := rfl
  rcases rng a (n := 4) (by decide) with h | ⟨x, hx, rfl⟩
  · refine Or.inl (fun n => ⟨?_, ?_⟩)
    · unfold fX2_fits
      rcases h with h | h
      · rw [if_pos h]
      · by_cases h1 : a < 0
        · rw [if_pos h1]
        · rw [if_neg h1, if_pos (show (4 : Int32) ≤ a from h)]
    · unfold fX8_isForm
      rw [gpos hb, m2]
      by_cases e : P.2.2.1 2 r < 2
      · rw [if_neg (show ¬ (2 : Int32) ≤ nI (P.2.2.1 2 r) from nI_ge (b := 2) e (by decide)), within_out (hi := 1) (h.imp id (fun h => show (1 : Int32) < a from le_lt (a := 1) h (by decide) (by decide))), bsome, gpos b0]
      · rw [if_pos (show (2 : Int32) ≤ nI (P.2.2.1 2 r) from nI_le (a := 2) (by omega) (by omega)), within_out (lo := 2) (hi := 3) (h.imp (fun h => ?_) (fun h => show (3 : Int32) < a from le_lt (a := 3) h (by decide) (by decide))), bsome, gpos b0]
        have := toI_neg h
        refine Int32.lt_iff_toInt_lt.mpr ?_
        rw [show (2 : Int32).toInt = 2 by decide]
        omega
  · by_cases hf : x < 2 ↔ P.2.2.1 2 r < 2
    · refine Or.inr ⟨x, ⟨hx, hf⟩, rfl, fun n => ⟨?_, ?_⟩⟩
      · unfold fX2_fits
        rw [if_neg (nI_pos (by omega)), if_neg (show ¬ (4 : Int32) ≤ nI x from nI_ge (b := 4) hx (by decide))]
        unfold fX2_fits_b19
        rw [e_hasOther hP hC hr, bsome, bsome]
        by_cases e : x < 2
        · rw [if_pos (show nI x < (2 : Int32) from nI_lt (b := 2) e (by decide)), if_pos (hf.mp e)]
          rfl
        · rw [if_neg (show ¬ nI x < (2 : Int32) from nI_nlt (b := 2) (by omega) (by omega)), if_neg (fun z => e (hf.mpr z))]
          rfl
      · unfold fX8_isForm
        rw [gpos hb, m2]
        by_cases e : P.2.2.1 2 r < 2
        · rw [if_neg (show ¬ (2 : Int32) ≤ nI (P.2.2.1 2 r) from nI_ge (b := 2) e (by decide)), show fX8_within n (nI x) 0 1 = some 1 from within_in (lo := 0) (hi := 1) (by omega) (by have := hf.mpr e; omega) (by decide), bsome, gpos b1]
        · rw [if_pos (show (2 : Int32) ≤ nI (P.2.2.1 2 r) from nI_le (a := 2) (by omega) (by omega)), show fX8_within n (nI x) 2 3 = some 1 from within_in (lo := 2) (hi := 3) (by omega) (by omega) (by decide), bsome, gpos b1]
    · refine Or.inl (fun n => ⟨?_, ?_⟩)
      · unfold fX2_fits
        rw [if_neg (nI_pos (by omega)), if_neg (show ¬ (4 : Int32) ≤ nI x from nI_ge (b := 4) hx (by decide))]
        unfold fX2_fits_b19
        rw [e_hasOther hP hC hr, bsome, bsome]
        by_cases e : x < 2
        · rw [if_pos (show nI x < (2 : Int32) from nI_lt (b := 2) e (by decide)), if_neg (fun z => hf ⟨fun _ => z, fun _ => e⟩)]
          rfl
        · rw [if_neg (show ¬ nI x < (2 : Int32) from nI_nlt (b := 2) (by omega) (by omega)), if_pos (show P.2.2.1 2 r < 2 by omega)]
          rfl
      · unfold fX8_isForm
        rw [gpos hb, m2]
        by_cases e : P.2.2.1 2 r < 2
        · rw [if_neg (show ¬ (2 : Int32) ≤ nI (P.2.2.1 2 r) from nI_ge (b := 2) e (by decide)), within_out (hi := 1) (Or.inr (show (1 : Int32) < nI x from nI_lt (a := 1) (by omega) (by omega))), bsome, gpos b0]
        · rw [if_pos (show (2 : Int32) ≤ nI (P.2.2.1 2 r) from nI_le (a := 2) (by omega) (by omega)), within_out (lo := 2) (hi := 3) (Or.inl (show nI x < (2 : Int32) from nI_lt (b := 2) (by omega) (by decide))), bsome, gpos b0]
theorem e_reforms {P : Prog} {w n r x : Nat} {u : mSt} (hP : pOk P) (h : RepC P w u) (hr : r < P.2.1) (hx : fitP P r x) (hn : 5 < n) : ∃ u' b, fX6_reforms n w (nI r) (nI x) u.1 u.2 = some (b01 b, u') ∧ (b = true ↔ LayP (rfm P r x)) ∧ RepC (if b = true then rfm P r x else P) w u' ∧ u'.1 (105 + 100 * w) = 0 ∧ FrW w u u' := by
  have h5 := hP.2.1
  have hb : inb (nI r) 5 = true := inb_nI (by omega) (by decide)
  have hC1 : RepC (rfm P r x) w (upd u.1 (105 + 100 * w) 0, setA u.2 (113 + 100 * w) (nI r) (nI x)) := (h.rfm x (by omega)).mk (upd_no (by omega)) (upd_no (by omega)) (fun _ _ => rfl)
  obtain ⟨R1, b, a1, a2, _, a4⟩ := e_find (n := n) (rfm_ok hP hx) hC1 hn
  have a4 : ∀ k, k ≠ 132 + 100 * w → R1 k = setA u.2 (113 + 100 * w) (nI r) (nI x) k := a4
  unfold fX6_reforms
  rw [gpos hb, gpos hb, show fX1_find n w (upd u.1 (105 + 100 * w) 0) (setA u.2 (113 + 100 * w) (nI r) (nI x)) = some (b01 b, upd u.1 (105 + 100 * w) 0, R1) from a1, bsome]
  dsimp only
  cases b with
  | true =>
    rw [if_neg (show ¬ b01 true = 0 by decide)]
    refine ⟨_, true, rfl, a2, ?_, upd_at, ⟨fun i hi => upd_no (by omega), fun i hi => ?_⟩⟩
    · rw [if_pos rfl]
      exact hC1.mk rfl rfl (fun k hk => a4 _ (by omega))
    · show R1 i = u.2 i
      rw [a4 i (by omega), setA_ne (by omega)]
  | false =>
    rw [if_pos (show b01 false = 0 from rfl), gpos hb]
    refine ⟨_, false, rfl, a2, ?_, upd_at, ⟨fun i hi => upd_no (by omega), fun i hi => ?_⟩⟩
    · rw [if_neg (by decide), getA_nI (by omega)]
      refine h.mk (upd_no (by omega)) (upd_no (by omega)) (fun k hk => ?_)
      funext s
      show setA R1 (113 + 100 * w) (nI r) (u.2 (113 + 100 * w) r) (111 + k + 100 * w) s = _
      rw [setA_v (by omega)]
      by_cases e : 111 + k + 100 * w = 113 + 100 * w ∧ s = r
      · rw [if_pos e, e.1, e.2]
      · rw [if_neg e, a4 _ (by omega), setA_v (by omega), if_neg e]
    · show setA R1 (113 + 100 * w) (nI r) _ i = u.2 i
      rw [setA_ne (by omega), a4 i (by omega), setA_ne (by omega)]
theorem e_gets {P : Prog} {n r x : Nat} {v : mSt} (hP : pOk P) (h : RepM P v) (hr : r < P.2.1) (hx : fitP P r x) (hn : 20 < n) : ∃ v' b, fX8_gets n (nI r) (nI x) v.1 v.2 = some (b01 b, v') ∧ (b = true ↔ LayP (rfm P r x)) ∧ RepM (if b = true then rfm P r x else P) v' ∧ v'.1 = v.1 ∧ ∀ k, k ≠ 9 → v'.2 k = v.2 k := by
  have h5 := hP.2.1
  have hb : inb (nI r) 5 = true := inb_nI (by omega) (by decide)
  have hM1 := h.rfm hx (show r < 5 by omega)
  have hP1 := rfm_ok hP hx
  obtain ⟨y, a1, a2⟩ := e_goesRoundBy (n := n) hP1 hM1.g hn
  have hy : y = (-9) ↔ LayP (rfm P r x) := by
    rw [lay_iff hP1]
    rcases a2 with ⟨rfl, z⟩ | ⟨q, q1, rfl, q2, _⟩
    · exact ⟨fun _ => z, fun _ => rfl⟩
    · refine ⟨fun z => ?_, fun z => absurd q2 (z q q1)⟩
      have hP4 := hP.1
      have q1 : q < P.1 := q1
      have h9 := nI_toInt (n := q) (by omega)
      rw [z, show ((-9 : Int32)).toInt = -9 by decide] at h9
      omega
  unfold fX8_gets
  rw [gpos hb, gpos hb, show fX8_goesRoundBy n v.1 (setA v.2 9 (nI r) (nI x)) = some (y, v.1, setA v.2 9 (nI r) (nI x)) from a1, bsome]
  dsimp only
  by_cases e : y = (-9)
  · rw [if_pos e]
    refine ⟨_, true, rfl, ⟨fun _ => hy.mp e, fun _ => rfl⟩, ?_, rfl, fun k hk => setA_ne hk⟩
    rw [if_pos rfl]
    exact hM1
  · rw [if_neg e, gpos hb]
    refine ⟨_, false, rfl, ⟨fun z => absurd z (by decide), fun z => absurd (hy.mpr z) e⟩, ?_, rfl, fun k hk => (setA_ne hk).trans (setA_ne hk)⟩
    rw [if_neg (by decide), getA_nI (by omega)]
    refine h.mk rfl rfl (fun k hk => ?_)
    funext s
    show setA (setA v.2 9 (nI r) (nI x)) 9 (nI r) (v.2 9 r) (7 + k) s = _
    rw [setA_v (by omega)]
    by_cases e : 7 + k = 9 ∧ s = r
    · rw [if_pos e, e.1, e.2]
    · rw [if_neg e, setA_v (by omega), if_neg e]
theorem st_form : St_form (SimOf (PrOf KK)) := by
  intro a1 a2 u v h
  obtain ⟨P, hP, hC, hM, hk⟩ := h.2.2.2
  rcases d_rule a1 hP.2.1 hC.2.1 hM.2.1 with h0 | ⟨r, hr, rfl, h1⟩
  · refine ⟨100, (-1, u), 100, (-1, v), ?_, ?_, rfl, h⟩
    · unfold fX7_form; rw [(h0 100 u.2 v.2).1, bsome]; exact i0
    · unfold fX8_form; rw [(h0 100 u.2 v.2).2, bsome]; exact i0
  have hb : inb (nI r) 5 = true := inb_nI (by have := hP.2.1; omega) (by decide)
  rcases d_fits hP hC hM hr a2 with h2 | ⟨x, hx, rfl, h2⟩
  · refine ⟨100, (-2, u), 100, (-2, v), ?_, ?_, rfl, h⟩
    · unfold fX7_form; rw [(h1 100 u.2 v.2).1, bsome, i1]; dsimp only; rw [(h2 100).1, bsome]; exact i0
    · unfold fX8_form; rw [(h1 100 u.2 v.2).2, bsome, i1]; dsimp only; rw [(h2 100).2, bsome]; exact i0
  obtain ⟨u', b, c1, c2, c3, c4, c5⟩ := e_reforms (n := 100) hP hC hr hx (by decide)
  obtain ⟨v', b', d1, d2, d3, d4, d5⟩ := e_gets (n := 100) hP hM hr hx (by decide)
  have hbb : b' = b := Bool.eq_iff_iff.mpr (d2.trans c2.symm)
  subst hbb
  have g2 : getA u.2 (113 + 100 * 0) (nI r) = nI (P.2.2.1 2 r) := hC.at 2 (by decide) hr hP.2.1
  have m2 : getA v.2 9 (nI r) = nI (P.2.2.1 2 r) := hM.at 2 (by decide) hr hP.2.1
  have hsim : ∀ Q : Prog, pOk Q → LayP Q → RepC Q 0 u' → RepM Q v' → SimOf (PrOf KK) u' v' := fun Q q1 q2 q3 q4 =>
    Sim_world h (fun i hi => c5.1 i (by omega)) (fun i hi => c5.2 i (by omega)) (fun i hi => by rw [d4]) (fun i hi => d5 i (by omega)) ⟨Q, q1, q3, q4, q2, Or.inl c4⟩
  cases b' with
  | true =>
    refine ⟨100, (nI (P.2.2.1 2 r), u'), 100, (nI (P.2.2.1 2 r), v'), ?_, ?_, rfl, hsim (rfm P r x) (rfm_ok hP hx) (c2.mp rfl) c3 d3⟩
    · unfold fX7_form; rw [(h1 100 u.2 v.2).1, bsome, i1]; dsimp only; rw [(h2 100).1, bsome, i1, gpos hb]; dsimp only; rw [c1, bsome, g2]; exact i1
    · unfold fX8_form; rw [(h1 100 u.2 v.2).2, bsome, i1]; dsimp only; rw [(h2 100).2, bsome, i1, gpos hb]; dsimp only; rw [d1, bsome, m2]; exact i1
  | false =>
    refine ⟨100, (-3, u'), 100, (-3, v'), ?_, ?_, rfl, hsim P hP hk.1 c3 d3⟩
    · unfold fX7_form; rw [(h1 100 u.2 v.2).1, bsome, i1]; dsimp only; rw [(h2 100).1, bsome, i1, gpos hb]; dsimp only; rw [c1, bsome]; exact i0
    · unfold fX8_form; rw [(h1 100 u.2 v.2).2, bsome, i1]; dsimp only; rw [(h2 100).2, bsome, i1, gpos hb]; dsimp only; rw [d1, bsome]; exact i0
