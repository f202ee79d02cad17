/-! kinds, forms: both sides answer -/
theorem RepC.takeD {P : Prog} {n : Nat} {u : mSt} (hP : pOk P) (h : RepC P 0 u) : ∃ u', fX6_take n 1 0 u.1 u.2 = some u' ∧ RepC P 1 u' ∧ u'.1 (105 + 100 * 1) = 0 ∧ FrW 1 u u' := by
  have o5 : cpOk 5 5 0 0 5 = true := by decide
  have o4 : cpOk 4 4 0 0 4 = true := by decide
  have h5 := hP.2.1
  have c5 : ∀ (R : Nat → Nat → Int32) (a b t s : Nat), cpA R a b 0 0 5 t s = if t = b then (if s < 5 then R a s else R b s) else R t s := by
    intro R a b t s
    refine (e_cpA (R := R) (a := a) (b := b) (i := 0) (j := 0) (m := 5) (t := t) (s := s) (by decide) (by decide) (by decide)).trans ?_
    by_cases e : t = b
    · rw [if_pos e, if_pos e]
      by_cases e2 : s < 5
      · rw [if_pos ⟨Nat.zero_le _, by omega⟩, if_pos e2, Nat.zero_add, Nat.sub_zero]
      · rw [if_neg (by omega), if_neg e2]
    · rw [if_neg e, if_neg e]
  have c4 : ∀ (R : Nat → Nat → Int32) (a b t s : Nat), cpA R a b 0 0 4 t s = if t = b then (if s < 4 then R a s else R b s) else R t s := by
    intro R a b t s
    refine (e_cpA (R := R) (a := a) (b := b) (i := 0) (j := 0) (m := 4) (t := t) (s := s) (by decide) (by decide) (by decide)).trans ?_
    by_cases e : t = b
    · rw [if_pos e, if_pos e]
      by_cases e2 : s < 4
      · rw [if_pos ⟨Nat.zero_le _, by omega⟩, if_pos e2, Nat.zero_add, Nat.sub_zero]
      · rw [if_neg (by omega), if_neg e2]
    · rw [if_neg e, if_neg e]
  have cN : ∀ {R : Nat → Nat → Int32} {a b t s : Nat}, t ≠ b → cpA R a b 0 0 5 t s = R t s := fun {R a b t s} h => by rw [c5, if_neg h]
  have cY : ∀ {R : Nat → Nat → Int32} {a b t s : Nat}, t = b → s < 5 → cpA R a b 0 0 5 t s = R a s := fun {R a b t s} h h2 => by rw [c5, if_pos h, if_pos h2]
  unfold fX6_take fX2_take
  rw [gpos o5, gpos o5, gpos o5, gpos o5, gpos o5, gpos o5, gpos o4, bsome]
  refine ⟨_, rfl, ⟨?_, ?_, fun k hk r hr => ?_, fun q hq i => ?_⟩, by dsimp only; exact upd_at, ⟨fun i hi => ?_, fun i hi => ?_⟩⟩
  · dsimp only; rw [upd_no (by decide), upd_no (by decide), upd_at]; exact h.1
  · dsimp only; rw [upd_no (by decide), upd_at, upd_no (by decide)]; exact h.2.1
  · dsimp only
    rw [c4, if_neg (by omega)]
    have hr5 : r < 5 := by omega
    have hh := h.2.2.1 k hk r hr
    have hk6 : k = 0 ∨ k = 1 ∨ k = 2 ∨ k = 3 ∨ k = 4 ∨ k = 5 := by omega
    rcases hk6 with rfl | rfl | rfl | rfl | rfl | rfl
    · rw [cN (by decide), cN (by decide), cN (by decide), cN (by decide), cN (by decide), cY (by decide) hr5]; exact hh
    · rw [cN (by decide), cN (by decide), cN (by decide), cN (by decide), cY (by decide) hr5, cN (by decide)]; exact hh
    · rw [cN (by decide), cN (by decide), cN (by decide), cY (by decide) hr5, cN (by decide), cN (by decide)]; exact hh
    · rw [cN (by decide), cN (by decide), cY (by decide) hr5, cN (by decide), cN (by decide), cN (by decide)]; exact hh
    · rw [cN (by decide), cY (by decide) hr5, cN (by decide), cN (by decide), cN (by decide), cN (by decide)]; exact hh
    · rw [cY (by decide) hr5, cN (by decide), cN (by decide), cN (by decide), cN (by decide), cN (by decide)]; exact hh
  · dsimp only
    rw [c4, if_pos (by decide), if_pos hq, cN (by decide), cN (by decide), cN (by decide), cN (by decide), cN (by decide), cN (by decide)]
    exact h.2.2.2 q hq i
  · dsimp only; rw [upd_no (by omega), upd_no (by omega), upd_no (by omega)]
  · funext s
    dsimp only
    rw [c4, if_neg (by omega), cN (by omega), cN (by omega), cN (by omega), cN (by omega), cN (by omega), cN (by omega)]
def rkd (P : Prog) (r x : Nat) : Prog := (P.1, P.2.1, fun k s => if k = 0 ∧ s = r then x else P.2.2.1 k s, P.2.2.2)
theorem rkd_ne {P : Prog} {r x k s : Nat} (h : k ≠ 0 ∨ s ≠ r) : (rkd P r x).2.2.1 k s = P.2.2.1 k s := if_neg (fun z => by omega)
theorem rkd_at {P : Prog} {r x : Nat} : (rkd P r x).2.2.1 0 r = x := if_pos ⟨rfl, rfl⟩
theorem rkd_ok {P : Prog} (h : pOk P) {r x : Nat} (hx : x < 3) : pOk (rkd P r x) := by
  obtain ⟨h1, h2, h3, h4, h5⟩ := h
  refine ⟨h1, h2, h3, fun s hs => ?_, h5⟩
  have hk := h4 s hs
  rw [rkd_ne (P := P) (r := r) (x := x) (k := 1) (s := s) (Or.inl (by decide)), rkd_ne (P := P) (r := r) (x := x) (k := 2) (s := s) (Or.inl (by decide)), rkd_ne (P := P) (r := r) (x := x) (k := 3) (s := s) (Or.inl (by decide)), rkd_ne (P := P) (r := r) (x := x) (k := 4) (s := s) (Or.inl (by decide)), rkd_ne (P := P) (r := r) (x := x) (k := 5) (s := s) (Or.inl (by decide))]
  by_cases e : s = r
  · subst e
    rw [rkd_at]
    exact ⟨hx, hk.2⟩
  · rw [rkd_ne (P := P) (r := r) (x := x) (k := 0) (s := s) (Or.inr e)]
    exact hk
theorem RepC.rkd {P : Prog} {w r : Nat} {u : mSt} (h : RepC P w u) (x : Nat) (hr : r < 5) : RepC (rkd P r x) w (u.1, setA u.2 (111 + 100 * w) (nI r) (nI x)) := by
  refine ⟨h.1, h.2.1, fun k hk s hs => ?_, fun q hq i => ?_⟩
  · show setA u.2 _ (nI r) (nI x) (111 + k + 100 * w) s = _
    rw [setA_v (by omega)]
    by_cases e : k = 0 ∧ s = r
    · obtain ⟨rfl, rfl⟩ := e
      rw [if_pos ⟨by omega, rfl⟩, rkd_at]
    · rw [if_neg (by omega), rkd_ne (by omega)]
      exact h.2.2.1 k hk s hs
  · show bit (setA u.2 _ (nI r) (nI x) (117 + 100 * w) q) i = _
    rw [setA_ne (by omega)]
    exact h.2.2.2 q hq i
theorem RepM.rkd {P : Prog} {r : Nat} {v : mSt} (h : RepM P v) (x : Nat) (hr : r < 5) : RepM (rkd P r x) (v.1, setA v.2 7 (nI r) (nI x)) := by
  refine ⟨h.1, h.2.1, fun k hk s hs => ?_, fun s hs => ?_, fun f hf => ?_⟩
  · show setA v.2 7 (nI r) (nI x) (7 + k) s = _
    rw [setA_v (by omega)]
    by_cases e : k = 0 ∧ s = r
    · obtain ⟨rfl, rfl⟩ := e
      rw [if_pos ⟨by omega, rfl⟩, rkd_at]
    · rw [if_neg (by omega), rkd_ne (by omega)]
      exact h.2.2.1 k hk s hs
  · show setA v.2 7 (nI r) (nI x) 12 s = _
    rw [setA_ne (by decide), rkd_ne (P := P) (r := r) (x := x) (k := 5) (s := s) (Or.inl (by decide)), rkd_ne (P := P) (r := r) (x := x) (k := 2) (s := s) (Or.inl (by decide))]
    exact h.2.2.2.1 s hs
  · show setA v.2 7 (nI r) (nI x) 13 f = _
    rw [setA_ne (by decide)]
    exact h.2.2.2.2 f hf
theorem least_rkd {P : Prog} {r x : Nat} (l : Nat → Nat) (s : Nat) : leastR (rkd P r x) l s = leastR P l s := by
  unfold leastR
  rw [rkd_ne (P := P) (r := r) (x := x) (k := 2) (s := s) (Or.inl (by decide)), rkd_ne (P := P) (r := r) (x := x) (k := 4) (s := s) (Or.inl (by decide)), rkd_ne (P := P) (r := r) (x := x) (k := 5) (s := s) (Or.inl (by decide))]
theorem swp_rkd {P : Prog} {r x : Nat} (k : Nat) (s : (Nat → Nat) × Bool) : swp (rkd P r x) k s = swp P k s := by
  induction k with
  | zero => rfl
  | succ k ih =>
    unfold swp
    rw [ih]
    unfold swR
    rw [least_rkd, rkd_ne (P := P) (r := r) (x := x) (k := 3) (s := k) (Or.inl (by decide))]
theorem lays_rkd {P : Prog} {r x : Nat} (k : Nat) : lays (rkd P r x) k = lays P k := by
  induction k with
  | zero => rfl
  | succ k ih =>
    unfold lays sw
    rw [ih, swp_rkd]
    rfl
theorem lay_rkd {P : Prog} {r x : Nat} : LayP (rkd P r x) ↔ LayP P := by
  unfold LayP sw
  rw [lays_rkd, swp_rkd]
  exact Iff.rfl
def RdC (c : Nat) (u : mSt) : Prop := c ≤ 8 ∧ u.1 7 = nI c ∧ ∀ k, k < c → ∃ f, f < 64 ∧ u.2 5 k = nI f
def RdV (c : Nat) (v : mSt) : Prop := c ≤ 8 ∧ v.1 31 = nI c ∧ ∀ k, k < c → ∃ f, f < 64 ∧ v.2 32 k = nI f
theorem RdC.fr {c : Nat} {u u' : mSt} (h : RdC c u) (f : FrW 1 u u') : RdC c u' := ⟨h.1, (f.1 7 (by omega)).trans h.2.1, fun k hk => by rw [f.2 5 (by omega)]; exact h.2.2 k hk⟩
theorem RdV.fr {c : Nat} {v v' : mSt} (h : RdV c v) (f1 : v'.1 31 = v.1 31) (f2 : v'.2 32 = v.2 32) : RdV c v' := ⟨h.1, f1.trans h.2.1, fun k hk => by rw [f2]; exact h.2.2 k hk⟩
theorem k_rso {Q : Prog} {n c : Nat} {u : mSt} (hc : RdC c u) (hS : c = 0 ∨ SetC Q 1 u) (hn : 8 < n) : ∃ b, fX7_areReadingsSo n u.1 u.2 = some (b01 b, u) := by
  have key : ∀ d i j, i + d = c → d < j → ∃ b, fX7_areReadingsSo_b2 n j (nI i) u.1 u.2 = some (b01 b, u) := by
    have h8 := hc.1
    intro d
    induction d with
    | zero =>
      intro i j hi hj
      obtain ⟨j, rfl⟩ : ∃ i, j = i + 1 := ⟨j - 1, by omega⟩
      rw [fX7_areReadingsSo_b2, if_pos (by rw [hc.2.1]; exact nI_le (by omega) (by omega))]
      exact ⟨true, rfl⟩
    | succ d ih =>
      intro i j hi hj
      obtain ⟨j, rfl⟩ : ∃ i, j = i + 1 := ⟨j - 1, by omega⟩
      have hb : inb (nI i) 8 = true := inb_nI (by omega) (by decide)
      obtain ⟨f, hf, ef⟩ := hc.2.2 i (by omega)
      have hS : SetC Q 1 u := hS.resolve_left (by omega)
      obtain ⟨x, hx⟩ := k_cheap (n := n) hS hf
      rw [fX7_areReadingsSo_b2, if_neg (by rw [hc.2.1]; exact nI_ge (by omega) (by omega)), gpos hb, getA_nI (by omega), ef, hx, bsome, gpos hb, nI_1]
      dsimp only
      split
      · exact ih (i + 1) j (by omega) (by omega)
      · exact ⟨false, rfl⟩
  unfold fX7_areReadingsSo
  exact key c 0 n (by omega) (by have := hc.1; omega)
theorem t_areSo {Q : Prog} {n c : Nat} {v : mSt} (hQ : pOk Q) (hM : RepM Q v) (hc : RdV c v) (hn : 274877907000 < n) : ∃ b v', fX8_areSo n v.1 v.2 = some (b01 b, v') ∧ RepM Q v' ∧ FrC v v' := by
  have h8 := hc.1
  obtain ⟨x, a1, a2⟩ := e_goesRoundBy (n := n) hQ hM.g (by omega)
  unfold fX8_areSo
  rw [a1, bsome]
  dsimp only
  by_cases e : x = (-9)
  rotate_left
  · rw [if_neg e]; exact ⟨false, v, rfl, hM, FrC.refl⟩
  have hL : LayP Q := by
    rcases a2 with ⟨_, z⟩ | ⟨q, q1, q2, _⟩
    · exact (lay_iff hQ).mpr z
    · have := hQ.1
      rw [q2] at e
      exact absurd e (nI_n9 (by omega))
  rw [if_pos e]
  obtain ⟨v', d1, d2, d3, d4⟩ := t_findCheap (n := n) hQ hM hL hn
  rw [d1, bsome]
  have hc' : RdV c v' := hc.fr (d4.1 31 (by decide)) (d4.2 32 (by decide))
  have key : ∀ d i j, i + d = c → d < j → ∃ b, fX8_areSo_b17 n j (nI i) v'.1 v'.2 = some (b01 b, v') := by
    intro d
    induction d with
    | zero =>
      intro i j hi hj
      obtain ⟨j, rfl⟩ : ∃ i, j = i + 1 := ⟨j - 1, by omega⟩
      rw [fX8_areSo_b17, if_pos (by rw [hc'.2.1]; exact nI_le (by omega) (by omega))]
      exact ⟨true, rfl⟩
    | succ d ih =>
      intro i j hi hj
      obtain ⟨j, rfl⟩ : ∃ i, j = i + 1 := ⟨j - 1, by omega⟩
      have hb : inb (nI i) 8 = true := inb_nI (by omega) (by decide)
      obtain ⟨f, hf, ef⟩ := hc'.2.2 i (by omega)
      rw [fX8_areSo_b17, if_neg (by rw [hc'.2.1]; exact nI_ge (by omega) (by omega)), gpos hb, getA_nI (by omega), ef, gpos (inb_nI hf (by decide)), gpos hb, nI_1]
      split
      · exact ih (i + 1) j (by omega) (by omega)
      · exact ⟨false, rfl⟩
  obtain ⟨b, hb⟩ := key c 0 n (by omega) (by omega)
  exact ⟨b, v', hb, d4.M hM, d4⟩
theorem c_kinds {P : Prog} {n c r : Nat} {u : mSt} (hP : pOk P) (hC : RepC P 0 u) (hL : LayP P) (hr : r < P.2.1) (hc : RdC c u) (hn : 70 < n) : ∃ x u', fX7_kinds_b14 n n (nI r) 0 0 u.1 u.2 = some (x, u') ∧ FrW 1 u u' := by
  have h5 := hP.2.1
  have hb : inb (nI r) 5 = true := inb_nI (by omega) (by decide)
  have key : ∀ d i j (s : Int32) (u1 : mSt), FrW 1 u u1 → i + d = 3 → d < j → ∃ x u', fX7_kinds_b14 n j (nI r) s (nI i) u1.1 u1.2 = some (x, u') ∧ FrW 1 u u' := by
    intro d
    induction d with
    | zero =>
      intro i j s u1 hu hi hj
      obtain ⟨j, rfl⟩ : ∃ i, j = i + 1 := ⟨j - 1, by omega⟩
      rw [fX7_kinds_b14, if_pos (show (3 : Int32) ≤ nI i from nI_le (a := 3) (by omega) (by omega))]
      exact ⟨_, u1, rfl, hu⟩
    | succ d ih =>
      intro i j s u1 hu hi hj
      obtain ⟨j, rfl⟩ : ∃ i, j = i + 1 := ⟨j - 1, by omega⟩
      have hC1 : RepC P 0 u1 := hC.mk (hu.1 _ (by omega)) (hu.1 _ (by omega)) (fun k hk => hu.2 _ (by omega))
      obtain ⟨u2, a1, a2, a3, a4⟩ := RepC.takeD (n := n) hP hC1
      rw [fX7_kinds_b14, if_neg (show ¬ (3 : Int32) ≤ nI i from nI_ge (b := 3) (by omega) (by decide)), a1, bsome, gpos hb]
      have hQ : pOk (rkd P r i) := rkd_ok hP (by omega)
      have hC2 : RepC (rkd P r i) 1 (u2.1, setA u2.2 (111 + 100 * 1) (nI r) (nI i)) := a2.rkd i (by omega)
      have f2 : FrW 1 u (u2.1, setA u2.2 (111 + 100 * 1) (nI r) (nI i)) := ⟨fun k hk => (a4.1 k hk).trans (hu.1 k hk), fun k hk => by
        show setA u2.2 (111 + 100 * 1) (nI r) (nI i) k = _
        rw [setA_ne (by omega)]
        exact (a4.2 k hk).trans (hu.2 k hk)⟩
      have b60 : ∀ u3 : mSt, FrW 1 u u3 → (c = 0 ∨ SetC (rkd P r i) 1 u3) → ∃ x u', fX7_kinds_b60 n (fX7_kinds_b14 n j) (nI r) s (nI i) u3.1 u3.2 = some (x, u') ∧ FrW 1 u u' := by
        intro u3 f3 hS
        obtain ⟨b, hb⟩ := k_rso (n := n) (hc.fr f3) hS (by omega)
        unfold fX7_kinds_b60 fX7_kinds_b73
        rw [hb, bsome, nI_1]
        dsimp only
        split
        · exact ih (i + 1) j _ u3 f3 (by omega) (by omega)
        · exact ih (i + 1) j _ u3 f3 (by omega) (by omega)
      have h7 : u2.1 7 = nI c := (a4.1 7 (by omega)).trans ((hu.1 7 (by omega)).trans hc.2.1)
      rw [h7]
      have h8 := hc.1
      by_cases e : c = 0
      · rw [if_pos (show nI c ≤ 0 by rw [e]; decide)]
        exact b60 _ f2 (Or.inl e)
      · rw [if_neg (nI_nle (by omega) (by omega))]
        obtain ⟨u3, b1, b2, b3, b4, b5⟩ := e_settle (n := n) (w := 1) hQ hC2 (lay_rkd.mpr hL) (Or.inl a3) hn
        rw [show fX6_settle n 1 u2.1 (setA u2.2 (111 + 100 * 1) (nI r) (nI i)) = some u3 from b1, bsome]
        exact b60 u3 (f2.trans b5) (Or.inr b2)
  exact key 3 0 n 0 u FrW.refl (by omega) (by omega)
theorem t_kinds {P : Prog} {n c r : Nat} {v : mSt} {was : Int32} (hP : pOk P) (hM : RepM P v) (hr : r < P.2.1) (hc : RdV c v) (hw : was = v.2 7 r) (hn : 274877907000 < n) : ∃ x v', fX8_kinds_b22 n n (nI r) was 0 0 v.1 v.2 = some (x, v') ∧ RepM P v' ∧ FrC v v' := by
  have h5 := hP.2.1
  have hb : inb (nI r) 5 = true := inb_nI (by omega) (by decide)
  -- all but kind r is as it was
  have key : ∀ d i j (s : Int32) (v1 : mSt), (∀ k, k ≠ 25 → v1.1 k = v.1 k) → (∀ k, (k < 21 ∨ 28 < k) → k ≠ 7 → v1.2 k = v.2 k) → (∀ t, t ≠ r → v1.2 7 t = v.2 7 t) → i + d = 3 → d < j → ∃ x v', fX8_kinds_b22 n j (nI r) was s (nI i) v1.1 v1.2 = some (x, v') ∧ RepM P v' ∧ FrC v v' := by
    intro d
    induction d with
    | zero =>
      intro i j s v1 f1 f2 f3 hi hj
      obtain ⟨j, rfl⟩ : ∃ i, j = i + 1 := ⟨j - 1, by omega⟩
      rw [fX8_kinds_b22, if_pos (show (3 : Int32) ≤ nI i from nI_le (a := 3) (by omega) (by omega)), gpos hb]
      have hfr : FrC v (v1.1, setA v1.2 7 (nI r) was) := by
        refine ⟨f1, fun k hk => ?_⟩
        show setA v1.2 7 (nI r) was k = _
        by_cases e : k = 7
        · subst e
          funext t
          rw [setA_at (by omega)]
          by_cases et : t = r
          · rw [if_pos et, et]; exact hw
          · rw [if_neg et]; exact f3 t et
        · rw [setA_ne e]; exact f2 k hk e
      exact ⟨_, _, rfl, hfr.M hM, hfr⟩
    | succ d ih =>
      intro i j s v1 f1 f2 f3 hi hj
      obtain ⟨j, rfl⟩ : ∃ i, j = i + 1 := ⟨j - 1, by omega⟩
      have hM1 : RepM (rkd P r i) (v1.1, setA v1.2 7 (nI r) (nI i)) := by
        refine (hM.rkd i (show r < 5 by omega)).mk (f1 5 (by decide)) (f1 6 (by decide)) (fun k hk => ?_)
        show setA v1.2 7 (nI r) (nI i) (7 + k) = setA v.2 7 (nI r) (nI i) (7 + k)
        funext t
        rw [setA_v (by omega), setA_v (by omega)]
        by_cases e : 7 + k = 7 ∧ t = r
        · rw [if_pos e, if_pos e]
        · rw [if_neg e, if_neg e]
          by_cases e7 : 7 + k = 7
          · rw [e7]; exact f3 t (fun z => e ⟨e7, z⟩)
          · rw [f2 (7 + k) (by omega) e7]
      obtain ⟨b, v2, a1, a2, a3⟩ := t_areSo (n := n) (rkd_ok hP (show i < 3 by omega)) hM1 (hc.fr (f1 31 (by decide)) (by dsimp only; rw [setA_ne (by decide)]; exact f2 32 (by decide) (by decide))) hn
      rw [fX8_kinds_b22, if_neg (show ¬ (3 : Int32) ≤ nI i from nI_ge (b := 3) (by omega) (by decide)), gpos hb, show fX8_areSo n v1.1 (setA v1.2 7 (nI r) (nI i)) = some (b01 b, v2) from a1, bsome]
      unfold fX8_kinds_b52
      rw [nI_1]
      dsimp only
      have g1 : ∀ k, k ≠ 25 → v2.1 k = v.1 k := fun k hk => (a3.1 k hk).trans (f1 k hk)
      have g2 : ∀ k, (k < 21 ∨ 28 < k) → k ≠ 7 → v2.2 k = v.2 k := fun k hk h7 => by
        rw [a3.2 k hk]
        show setA v1.2 7 (nI r) (nI i) k = _
        rw [setA_ne h7]; exact f2 k hk h7
      have g3 : ∀ t, t ≠ r → v2.2 7 t = v.2 7 t := fun t ht => by
        rw [a3.2 7 (by decide)]
        show setA v1.2 7 (nI r) (nI i) 7 t = _
        rw [setA_at (by omega), if_neg ht]; exact f3 t ht
      split
      · exact ih (i + 1) j _ v2 g1 g2 g3 (by omega) (by omega)
      · exact ih (i + 1) j _ v2 g1 g2 g3 (by omega) (by omega)
  exact key 3 0 n 0 v (fun _ _ => rfl) (fun _ _ _ => rfl) (fun _ _ => rfl) (by omega) (by omega)
def Su_kinds (Sim : mSt → mSt → Prop) : Prop := ∀ (a1 : Int32) (u v : mSt), Sim u v → ∃ (n1 : Nat) (z1 : Int32 × mSt) (n2 : Nat) (z2 : Int32 × mSt), fX7_kinds n1 a1 u.1 u.2 = some z1 ∧ fX8_kinds n2 a1 v.1 v.2 = some z2 ∧ Sim z1.2 z2.2
theorem SimRd.cv {u v : mSt} (h : SimRd u v) : ∃ c, RdC c u ∧ RdV c v := by
  obtain ⟨c, h1, h2, h3, h4⟩ := h
  exact ⟨c, ⟨h1, h2, fun k hk => (h4 k hk).elim (fun f z => ⟨f, z.1, z.2.1⟩)⟩, ⟨h1, h3, fun k hk => (h4 k hk).elim (fun f z => ⟨f, z.1, z.2.2.1⟩)⟩⟩
theorem sim_d {u v u' v' : mSt} (h : SimOf (PrOf KK) u v) {P : Prog} (hP : pOk P) (hC : RepC P 0 u) (hM : RepM P v') (hK : KK P u) (f1 : FrW 1 u u') (f2 : FrC v v') : SimOf (PrOf KK) u' v' :=
  Sim_world h (fun i hi => f1.1 i (by omega)) (fun i hi => f1.2 i (by omega)) (fun i hi => f2.1 i (by omega)) (fun i hi => f2.2 i (by omega)) ⟨P, hP, hC.mk (f1.1 _ (by omega)) (f1.1 _ (by omega)) (fun k hk => f1.2 _ (by omega)), hM, hK.fr (fun i a b => f1.1 i (by omega)) (fun i a b => f1.2 i (by omega))⟩
theorem su_kinds : Su_kinds (SimOf (PrOf KK)) := by
  intro a1 u v h
  obtain ⟨P, hP, hC, hM, hk⟩ := h.2.2.2
  rcases d_rule a1 hP.2.1 hC.2.1 hM.2.1 with h0 | ⟨r, hr, rfl, h1⟩
  · refine ⟨100, (-1, u), 100, (-1, v), ?_, ?_, h⟩
    · unfold fX7_kinds; rw [(h0 100 u.2 v.2).1, bsome]; exact i0
    · unfold fX8_kinds; rw [(h0 100 u.2 v.2).2, bsome]; exact i0
  have h5 := hP.2.1
  have hNB := NB_big
  obtain ⟨c, hc, hv⟩ := h.2.1.cv
  obtain ⟨x, u', c1, c2⟩ := c_kinds (n := 100) hP hC hk.1 hr hc (by decide)
  obtain ⟨y, v', d1, d2, d3⟩ := t_kinds (n := NB) hP hM hr hv rfl hNB
  refine ⟨100, (x, u'), NB, (y, v'), ?_, ?_, sim_d h hP hC d2 hk c2 d3⟩
  · unfold fX7_kinds; rw [(h1 100 u.2 v.2).1, bsome, i1]; exact c1
  · unfold fX8_kinds; rw [(h1 NB u.2 v.2).2, bsome, i1, gpos (inb_nI (by omega) (by decide))]
    dsimp only
    rw [getA_nI (by omega)]
    exact d1
