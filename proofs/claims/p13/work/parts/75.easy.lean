/-! programs on both sides; the calls that only look at the rules -/
def FrK (K : Prog → mSt → Prop) : Prop := ∀ (P : Prog) (u u' : mSt), K P u → (∀ i, 100 ≤ i → i < 1000 → u'.1 i = u.1 i) → (∀ i, 100 ≤ i → i < 1000 → u'.2 i = u.2 i) → K P u'
def PrOf (K : Prog → mSt → Prop) (u v : mSt) : Prop := ∃ P : Prog, pOk P ∧ RepC P 0 u ∧ RepM P v ∧ K P u
theorem frm_of {K : Prog → mSt → Prop} (hK : FrK K) : Frm (PrOf K) := by
  intro u v u' v' h h1 h2 h3 h4 h5
  obtain ⟨P, a, b, c, d⟩ := h
  exact ⟨P, a, b.mk (h1 _ (by omega) (by omega)) (h1 _ (by omega) (by omega)) (fun k hk => h2 _ (by omega) (by omega)), c.mk h3 h4 h5, hK P u u' d h1 h2⟩
theorem d_rule (x : Int32) {m : Nat} (hm : m ≤ 5) {I I' : Nat → Int32} (e : I (119 + 100 * 0) = nI m) (e' : I' 6 = nI m) : (∀ n R R', fX7_isRule n x I R = some (0, I, R) ∧ fX8_isRule n x I' R' = some (0, I', R')) ∨ ∃ j : Nat, j < m ∧ x = nI j ∧ ∀ n R R', fX7_isRule n x I R = some (1, I, R) ∧ fX8_isRule n x I' R' = some (1, I', R') := by
  rcases rng x (n := m) (by omega) with h | ⟨j, hj, rfl⟩
  · refine Or.inl (fun n R R' => ?_)
    unfold fX7_isRule fX8_isRule
    rw [e, e']
    by_cases h1 : x < 0
    · rw [if_pos h1, if_pos h1]; exact ⟨rfl, rfl⟩
    · rw [if_neg h1, if_neg h1, if_pos (h.resolve_left h1), if_pos (h.resolve_left h1)]; exact ⟨rfl, rfl⟩
  · refine Or.inr ⟨j, hj, rfl, fun n R R' => ?_⟩
    unfold fX7_isRule fX8_isRule
    rw [e, e', if_neg (nI_pos (by omega)), if_neg (nI_pos (by omega)), if_neg (nI_ge hj (by omega)), if_neg (nI_ge hj (by omega))]
    exact ⟨rfl, rfl⟩
theorem d_rel (x : Int32) {m : Nat} (hm : m ≤ 4) {I I' : Nat → Int32} (e : I (118 + 100 * 0) = nI m) (e' : I' 5 = nI m) : (∀ n R R', fX7_isRelation n x I R = some (0, I, R) ∧ fX8_isRelation n x I' R' = some (0, I', R')) ∨ ∃ j : Nat, j < m ∧ x = nI j ∧ ∀ n R R', fX7_isRelation n x I R = some (1, I, R) ∧ fX8_isRelation n x I' R' = some (1, I', R') := by
  rcases rng x (n := m) (by omega) with h | ⟨j, hj, rfl⟩
  · refine Or.inl (fun n R R' => ?_)
    unfold fX7_isRelation fX8_isRelation
    rw [e, e']
    by_cases h1 : x < 0
    · rw [if_pos h1, if_pos h1]; exact ⟨rfl, rfl⟩
    · rw [if_neg h1, if_neg h1, if_pos (h.resolve_left h1), if_pos (h.resolve_left h1)]; exact ⟨rfl, rfl⟩
  · refine Or.inr ⟨j, hj, rfl, fun n R R' => ?_⟩
    unfold fX7_isRelation fX8_isRelation
    rw [e, e', if_neg (nI_pos (by omega)), if_neg (nI_pos (by omega)), if_neg (nI_ge hj (by omega)), if_neg (nI_ge hj (by omega))]
    exact ⟨rfl, rfl⟩
/-- a trace is left on both sides -/
theorem Sim_tr {Pr : mSt → mSt → Prop} (hF : Frm Pr) {u v : mSt} (h : SimOf Pr u v) (x : Int32) : SimOf Pr (upd u.1 8 x, u.2) (upd v.1 1 x, v.2) := by
  refine ⟨h.1.mk (fun i hi => upd_no (by omega)) (fun _ _ => rfl) rfl rfl rfl, h.2.1.mk (show upd u.1 8 x 7 = u.1 7 from upd_no (by decide)) rfl rfl (show upd v.1 1 x 31 = v.1 31 from upd_no (by decide)) rfl rfl, ⟨?_, ?_⟩, ?_⟩
  · show upd u.1 8 x 9 = upd v.1 1 x 0
    rw [upd_no (by decide), upd_no (by decide)]
    exact h.2.2.1.1
  · show upd u.1 8 x 8 = upd v.1 1 x 1
    rw [upd_at, upd_at]
  · exact hF u v _ _ h.2.2.2 (fun i h1 h2 => upd_no (by omega)) (fun _ _ _ => rfl) (show upd v.1 1 x 5 = v.1 5 from upd_no (by decide)) (show upd v.1 1 x 6 = v.1 6 from upd_no (by decide)) (fun _ _ => rfl)
theorem e_leave {n : Nat} {x : Int32} {I : Nat → Int32} {R : Nat → Nat → Int32} : fX7_leave n x I R = some (upd I 8 ((31 * I 8) + x), R) := rfl
theorem e_begins {n : Nat} {x : Int32} {I : Nat → Int32} {R : Nat → Nat → Int32} : fX8_begins n x I R = some (upd I 1 ((31 * I 1) + x), R) := rfl
theorem RepC.at {P : Prog} {w : Nat} {u : mSt} (h : RepC P w u) (k : Nat) (hk : k < 6) {r : Nat} (hr : r < P.2.1) (h5 : P.2.1 ≤ 5) : getA u.2 (111 + k + 100 * w) (nI r) = nI (P.2.2.1 k r) := by
  rw [getA_nI (by omega)]; exact h.2.2.1 k hk r hr
theorem RepM.at {P : Prog} {v : mSt} (h : RepM P v) (k : Nat) (hk : k < 5) {r : Nat} (hr : r < P.2.1) (h5 : P.2.1 ≤ 5) : getA v.2 (7 + k) (nI r) = nI (P.2.2.1 k r) := by
  rw [getA_nI (by omega)]; exact h.2.2.1 k hk r hr
theorem st_speak {K : Prog → mSt → Prop} (hK : FrK K) : St_speak (SimOf (PrOf K)) := by
  intro a1 u v h
  have hF := frm_of hK
  obtain ⟨P, hP, hC, hM, hk⟩ := h.2.2.2
  rcases d_rule a1 hP.2.1 hC.2.1 hM.2.1 with h0 | ⟨r, hr, rfl, h1⟩
  · refine ⟨0, (-1, u), 0, (-1, v), ?_, ?_, rfl, h⟩
    · unfold fX7_speak; rw [(h0 0 u.2 v.2).1, bsome]; exact i0
    · unfold fX8_speak; rw [(h0 0 u.2 v.2).2, bsome]; exact i0
  have hb : inb (nI r) 5 = true := inb_nI (by have := hP.2.1; omega) (by decide)
  have c0 := hC.at 0 (by decide) hr hP.2.1
  have c1 := hC.at 1 (by decide) hr hP.2.1
  have m0 := hM.at 0 (by decide) hr hP.2.1
  have m1 := hM.at 1 (by decide) hr hP.2.1
  have ht : u.1 8 = v.1 1 := h.2.2.1.2
  have hk3 := (hP.2.2.2.1 r hr).1
  have k3 : P.2.2.1 0 r = 0 ∨ P.2.2.1 0 r = 1 ∨ P.2.2.1 0 r = 2 := by omega
  have s1 := Sim_tr hF h (31 * u.1 8 + 1)
  have s2 := Sim_tr hF (Sim_tr hF h (31 * u.1 8 + 2)) (31 * (31 * u.1 8 + 2) + 1)
  have s3 := Sim_tr hF (Sim_tr hF (Sim_tr hF (Sim_tr hF h (31 * u.1 8 + 3)) (31 * (31 * u.1 8 + 3) + 2)) (31 * (31 * (31 * u.1 8 + 3) + 2) + 1)) (31 * (31 * (31 * (31 * u.1 8 + 3) + 2) + 1) + 1)
  rcases k3 with e | e | e
  · rw [e] at c0 m0
    refine ⟨0, (nI (P.2.2.1 1 r), upd u.1 8 (31 * u.1 8 + 1), u.2), 0, (nI (P.2.2.1 1 r), upd v.1 1 (31 * v.1 1 + 1), v.2), ?_, ?_, rfl, by rw [← ht]; exact s1⟩
    · unfold fX7_speak; rw [(h1 0 u.2 v.2).1, bsome, i1, if_pos hb]
      dsimp only
      rw [show getA u.2 (111 + 100 * 0) (nI r) = nI 0 from c0, if_neg (by decide), if_neg (by decide)]
      unfold fX7_plainTelling
      rw [e_leave, bsome, if_pos hb]
      dsimp only
      rw [show getA u.2 (112 + 100 * 0) (nI r) = nI (P.2.2.1 1 r) from c1]
      rfl
    · unfold fX8_speak; rw [(h1 0 u.2 v.2).2, bsome, i1, if_pos hb, if_pos hb]
      dsimp only
      rw [show getA v.2 7 (nI r) = nI 0 from m0, if_neg (by decide), if_neg (by decide), e_begins, bsome, show getA v.2 8 (nI r) = nI (P.2.2.1 1 r) from m1]
  · rw [e] at c0 m0
    refine ⟨0, (nI (P.2.2.1 1 r) + 100, upd (upd u.1 8 (31 * u.1 8 + 2)) 8 (31 * (31 * u.1 8 + 2) + 1), u.2), 0, (nI (P.2.2.1 1 r) + 100, upd (upd v.1 1 (31 * v.1 1 + 2)) 1 (31 * (31 * v.1 1 + 2) + 1), v.2), ?_, ?_, rfl, by rw [← ht]; exact s2⟩
    · unfold fX7_speak; rw [(h1 0 u.2 v.2).1, bsome, i1, if_pos hb]
      dsimp only
      rw [show getA u.2 (111 + 100 * 0) (nI r) = nI 1 from c0, if_pos (by decide)]
      unfold fX7_bulkyTelling fX7_plainTelling
      rw [e_leave, bsome, e_leave, bsome, if_pos hb]
      dsimp only
      rw [show getA u.2 (112 + 100 * 0) (nI r) = nI (P.2.2.1 1 r) from c1, upd_at]
      rfl
    · unfold fX8_speak; rw [(h1 0 u.2 v.2).2, bsome, i1, if_pos hb, if_pos hb]
      dsimp only
      rw [show getA v.2 7 (nI r) = nI 1 from m0, if_pos (by decide), e_begins, bsome, e_begins, bsome, show getA v.2 8 (nI r) = nI (P.2.2.1 1 r) from m1]
      dsimp only
      rw [upd_at]
  · rw [e] at c0 m0
    refine ⟨0, (nI (P.2.2.1 1 r) + 100 + nI (P.2.2.1 1 r), upd (upd (upd (upd u.1 8 (31 * u.1 8 + 3)) 8 (31 * (31 * u.1 8 + 3) + 2)) 8 (31 * (31 * (31 * u.1 8 + 3) + 2) + 1)) 8 (31 * (31 * (31 * (31 * u.1 8 + 3) + 2) + 1) + 1), u.2), 0, (2 * nI (P.2.2.1 1 r) + 100, upd (upd (upd (upd v.1 1 (31 * v.1 1 + 3)) 1 (31 * (31 * v.1 1 + 3) + 2)) 1 (31 * (31 * (31 * v.1 1 + 3) + 2) + 1)) 1 (31 * (31 * (31 * (31 * v.1 1 + 3) + 2) + 1) + 1), v.2), ?_, ?_, ?_, by rw [← ht]; exact s3⟩
    · unfold fX7_speak; rw [(h1 0 u.2 v.2).1, bsome, i1, if_pos hb]
      dsimp only
      rw [show getA u.2 (111 + 100 * 0) (nI r) = nI 2 from c0, if_neg (by decide), if_pos (by decide)]
      unfold fX7_doubleTelling fX7_bulkyTelling fX7_plainTelling
      rw [e_leave, bsome, e_leave, bsome, e_leave, bsome, if_pos hb]
      dsimp only
      rw [bsome, bsome, e_leave, bsome, if_pos hb]
      dsimp only
      rw [show getA u.2 (112 + 100 * 0) (nI r) = nI (P.2.2.1 1 r) from c1, upd_at, upd_at, upd_at]
      rfl
    · unfold fX8_speak; rw [(h1 0 u.2 v.2).2, bsome, i1, if_pos hb, if_pos hb]
      dsimp only
      rw [show getA v.2 7 (nI r) = nI 2 from m0, if_neg (by decide), if_pos (by decide), e_begins, bsome, e_begins, bsome, e_begins, bsome, e_begins, bsome, show getA v.2 8 (nI r) = nI (P.2.2.1 1 r) from m1]
      dsimp only
      rw [upd_at, upd_at, upd_at]
    · show nI (P.2.2.1 1 r) + 100 + nI (P.2.2.1 1 r) = 2 * nI (P.2.2.1 1 r) + 100
      rw [show (100 : Int32) = nI 100 from rfl, show (2 : Int32) = nI 2 from rfl, pk_mul, nI_add, nI_add, nI_add]
      congr 1
      omega
theorem st_quote {K : Prog → mSt → Prop} (hK : FrK K) : St_quote (SimOf (PrOf K)) := by
  intro a1 u v h
  have hF := frm_of hK
  obtain ⟨P, hP, hC, hM, hk⟩ := h.2.2.2
  rcases d_rule a1 hP.2.1 hC.2.1 hM.2.1 with h0 | ⟨r, hr, rfl, h1⟩
  · refine ⟨0, (-1, u), 0, (-1, v), ?_, ?_, rfl, h⟩
    · unfold fX7_quote; rw [(h0 0 u.2 v.2).1, bsome]; exact i0
    · unfold fX8_quote; rw [(h0 0 u.2 v.2).2, bsome]; exact i0
  have hb : inb (nI r) 5 = true := inb_nI (by have := hP.2.1; omega) (by decide)
  have c0 : getA u.2 (111 + 100 * 0) (nI r) = nI (P.2.2.1 0 r) := hC.at 0 (by decide) hr hP.2.1
  have c3 : getA u.2 (114 + 100 * 0) (nI r) = nI (P.2.2.1 3 r) := hC.at 3 (by decide) hr hP.2.1
  have m0 : getA v.2 7 (nI r) = nI (P.2.2.1 0 r) := hM.at 0 (by decide) hr hP.2.1
  have m3 : getA v.2 10 (nI r) = nI (P.2.2.1 3 r) := hM.at 3 (by decide) hr hP.2.1
  have ht : u.1 8 = v.1 1 := h.2.2.1.2
  have hk3 := (hP.2.2.2.1 r hr).1
  by_cases e : P.2.2.1 0 r = 2
  · rw [e] at c0 m0
    refine ⟨0, (40, upd u.1 8 (31 * u.1 8 + 5), u.2), 0, (40, upd v.1 1 (31 * v.1 1 + 5), v.2), ?_, ?_, rfl, by rw [← ht]; exact Sim_tr hF h _⟩
    · unfold fX7_quote; rw [(h1 0 u.2 v.2).1, bsome, i1, if_pos hb]
      dsimp only
      rw [c0, if_pos (by decide)]
      rfl
    · unfold fX8_quote fX8_quote_b26; rw [(h1 0 u.2 v.2).2, bsome, i1, if_pos hb]
      dsimp only
      rw [m0, if_pos (by decide), e_begins, bsome, if_pos hb]
      dsimp only
      rw [m0, if_pos (by decide)]
  · have e2 : ¬ nI (P.2.2.1 0 r) = 2 := nI_lit (b := 2) (by omega) (by decide) e
    refine ⟨0, (nI (P.2.2.1 3 r), upd u.1 8 (31 * u.1 8 + 4), u.2), 0, (nI (P.2.2.1 3 r), upd v.1 1 (31 * v.1 1 + 4), v.2), ?_, ?_, rfl, by rw [← ht]; exact Sim_tr hF h _⟩
    · unfold fX7_quote; rw [(h1 0 u.2 v.2).1, bsome, i1, if_pos hb]
      dsimp only
      rw [c0, if_neg e2, e_leave, bsome, if_pos hb]
      dsimp only
      rw [c3]
    · unfold fX8_quote fX8_quote_b26; rw [(h1 0 u.2 v.2).2, bsome, i1, if_pos hb]
      dsimp only
      rw [m0, if_neg e2, e_begins, bsome, if_pos hb]
      dsimp only
      rw [m0, if_neg e2, if_pos hb, m3]
theorem st_as {K : Prog → mSt → Prop} (hK : FrK K) : St_as (SimOf (PrOf K)) := by
  intro a1 a2 u v h
  have hF := frm_of hK
  have h' := Sim_fault hF h 0
  obtain ⟨P, hP, hC, hM, hk⟩ := h.2.2.2
  have e1 : upd u.1 9 0 (119 + 100 * 0) = nI P.2.1 := (upd_no (by decide)).trans hC.2.1
  have e2 : upd v.1 0 0 6 = nI P.2.1 := (upd_no (by decide)).trans hM.2.1
  rcases d_rule a1 hP.2.1 e1 e2 with h0 | ⟨r, hr, rfl, h1⟩
  · refine ⟨0, (-1, upd u.1 9 0, u.2), 0, (-1, upd v.1 0 0, v.2), ?_, ?_, rfl, h'⟩
    · unfold fX7_as; rw [(h0 0 u.2 v.2).1, bsome]; exact i0
    · unfold fX8_as; rw [(h0 0 u.2 v.2).2, bsome]; exact i0
  have hb : inb (nI r) 5 = true := inb_nI (by have := hP.2.1; omega) (by decide)
  have c0 : getA u.2 (111 + 100 * 0) (nI r) = nI (P.2.2.1 0 r) := hC.at 0 (by decide) hr hP.2.1
  have m0 : getA v.2 7 (nI r) = nI (P.2.2.1 0 r) := hM.at 0 (by decide) hr hP.2.1
  rcases rng a2 (n := 3) (by decide) with g | ⟨k, hk3, rfl⟩
  · refine ⟨0, (-2, upd u.1 9 0, u.2), 0, (-2, upd v.1 0 0, v.2), ?_, ?_, rfl, h'⟩
    · unfold fX7_as; rw [(h1 0 u.2 v.2).1, bsome, i1]
      by_cases g1 : a2 < 0
      · rw [if_pos g1]
      · rw [if_neg g1, if_neg]
        have := g.resolve_left g1
        exact Int32.not_lt.mpr this
    · unfold fX8_as; rw [(h1 0 u.2 v.2).2, bsome, i1, within_out (hi := 2) (g.imp id (fun g => show (2 : Int32) < a2 from le_lt (a := 2) g (by decide) (by decide))), bsome, i0]
  · by_cases g : nI (P.2.2.1 0 r) < nI k
    · refine ⟨0, (-12, upd (upd u.1 9 0) 9 2, u.2), 0, (-12, upd (upd v.1 0 0) 0 2, v.2), ?_, ?_, rfl, Sim_fault hF h' 2⟩
      · unfold fX7_as; rw [(h1 0 u.2 v.2).1, bsome, i1, if_neg (nI_pos (by omega)), if_pos (show nI k < (3 : Int32) from nI_lt (b := 3) hk3 (by decide)), if_pos hb]
        dsimp only
        rw [c0, if_pos g]
        rfl
      · unfold fX8_as; rw [(h1 0 u.2 v.2).2, bsome, i1, show fX8_within 0 (nI k) 0 2 = some 1 from within_in (lo := 0) (hi := 2) (by omega) (by omega) (by decide), bsome, i1, if_pos hb]
        dsimp only
        rw [m0, if_pos g]
        rfl
    · refine ⟨0, (1, upd u.1 9 0, u.2), 0, (1, upd v.1 0 0, v.2), ?_, ?_, rfl, h'⟩
      · unfold fX7_as; rw [(h1 0 u.2 v.2).1, bsome, i1, if_neg (nI_pos (by omega)), if_pos (show nI k < (3 : Int32) from nI_lt (b := 3) hk3 (by decide)), if_pos hb]
        dsimp only
        rw [c0, if_neg g]
      · unfold fX8_as; rw [(h1 0 u.2 v.2).2, bsome, i1, show fX8_within 0 (nI k) 0 2 = some 1 from within_in (lo := 0) (hi := 2) (by omega) (by omega) (by decide), bsome, i1, if_pos hb]
        dsimp only
        rw [m0, if_neg g]
def costR (P : Prog) (r : Nat) : Nat := if P.2.2.1 0 r = 0 then P.2.2.1 1 r else if P.2.2.1 0 r = 1 then P.2.2.1 1 r + 1 else 2 * P.2.2.1 1 r
theorem e_costC {P : Prog} {w n r : Nat} {u : mSt} (hP : pOk P) (h : RepC P w u) (hr : r < P.2.1) : fX2_cost n w (nI r) u.1 u.2 = some (nI (costR P r), u) := by
  have hb : inb (nI r) 5 = true := inb_nI (by have := hP.2.1; omega) (by decide)
  have c0 : getA u.2 (111 + 100 * w) (nI r) = nI (P.2.2.1 0 r) := h.at 0 (by decide) hr hP.2.1
  have c1 : getA u.2 (112 + 100 * w) (nI r) = nI (P.2.2.1 1 r) := h.at 1 (by decide) hr hP.2.1
  have hk3 := (hP.2.2.2.1 r hr).1
  have k3 : P.2.2.1 0 r = 0 ∨ P.2.2.1 0 r = 1 ∨ P.2.2.1 0 r = 2 := by omega
  unfold fX2_cost costR
  rw [if_pos hb, c0, c1]
  rcases k3 with e | e | e
  · rw [e, if_neg (by decide), if_neg (by decide), if_pos hb, if_pos rfl]
  · rw [e, if_pos (by decide), if_pos hb, if_neg (by decide), if_pos rfl, nI_1]
  · rw [e, if_neg (by decide), if_pos (by decide), if_pos hb, if_neg (by decide), if_neg (by decide), show (2 : Int32) = nI 2 from rfl, pk_mul]
theorem e_costM {P : Prog} {n r : Nat} {v : mSt} (hP : pOk P) (h : RepM P v) (hr : r < P.2.1) : fX8_costOf n (nI r) v.1 v.2 = some (nI (costR P r), v) := by
  have hb : inb (nI r) 5 = true := inb_nI (by have := hP.2.1; omega) (by decide)
  have c0 : getA v.2 7 (nI r) = nI (P.2.2.1 0 r) := h.at 0 (by decide) hr hP.2.1
  have c1 : getA v.2 8 (nI r) = nI (P.2.2.1 1 r) := h.at 1 (by decide) hr hP.2.1
  have hk3 := (hP.2.2.2.1 r hr).1
  have k3 : P.2.2.1 0 r = 0 ∨ P.2.2.1 0 r = 1 ∨ P.2.2.1 0 r = 2 := by omega
  unfold fX8_costOf costR
  rw [if_pos hb, c0, c1]
  rcases k3 with e | e | e
  · rw [e, if_pos (by decide), if_pos hb, if_pos rfl]
  · rw [e, if_neg (by decide), if_pos hb, if_pos (by decide), if_pos hb, if_neg (by decide), if_pos rfl, nI_1]
  · rw [e, if_neg (by decide), if_pos hb, if_neg (by decide), if_pos hb, if_neg (by decide), if_neg (by decide), show (2 : Int32) = nI 2 from rfl, pk_mul]
theorem costR_le {P : Prog} (hP : pOk P) {r : Nat} (hr : r < P.2.1) : 1 ≤ costR P r ∧ costR P r ≤ 18 := by
  have := hP.2.2.2.1 r hr
  unfold costR
  split
  · omega
  · split <;> omega
theorem e_hasOther {P : Prog} {w n r : Nat} {u : mSt} (hP : pOk P) (h : RepC P w u) (hr : r < P.2.1) : fX2_hasOther n w (nI r) u.1 u.2 = some (if P.2.2.1 2 r < 2 then 0 else 1, u) := by
  have hb : inb (nI r) 5 = true := inb_nI (by have := hP.2.1; omega) (by decide)
  have c2 : getA u.2 (113 + 100 * w) (nI r) = nI (P.2.2.1 2 r) := h.at 2 (by decide) hr hP.2.1
  have := (hP.2.2.2.1 r hr).2.2.2.1
  unfold fX2_hasOther
  rw [if_pos hb, c2]
  by_cases e : P.2.2.1 2 r < 2
  · rw [if_pos (show nI (P.2.2.1 2 r) < (2 : Int32) from nI_lt (b := 2) e (by decide)), if_pos e]
  · rw [if_neg (show ¬ nI (P.2.2.1 2 r) < (2 : Int32) from nI_nlt (b := 2) (by omega) (by omega)), if_neg e]
