/-! tell -/
/-- only worlds change: on the reference's side not the fields 0, 1, 31 and the rows 2, 3, 4, 32, 33 -/
theorem Sim_world {Pr Pr' : mSt → mSt → Prop} {u v u' v' : mSt} (h : SimOf Pr u v) (h1 : ∀ i, i < 100 ∨ 1000 ≤ i → u'.1 i = u.1 i) (h2 : ∀ i, i < 100 ∨ 1000 ≤ i → u'.2 i = u.2 i) (h3 : ∀ i, i < 2 ∨ i = 31 → v'.1 i = v.1 i) (h4 : ∀ i, i < 5 ∨ i = 32 ∨ i = 33 → v'.2 i = v.2 i) (h5 : Pr' u' v') : SimOf Pr' u' v' :=
  ⟨h.1.mk (fun i hi => h1 i (Or.inr hi)) (fun i hi => h2 i (Or.inr hi)) (h4 _ (by omega)) (h4 _ (by omega)) (h4 _ (by omega)), h.2.1.mk (h1 _ (by omega)) (h2 _ (by omega)) (h2 _ (by omega)) (h3 _ (by omega)) (h4 _ (by omega)) (h4 _ (by omega)), ⟨by rw [h1 _ (by omega), h3 _ (by omega)]; exact h.2.2.1.1, by rw [h1 _ (by omega), h3 _ (by omega)]; exact h.2.2.1.2⟩, h5⟩
def tog (P : Prog) (f : Nat) : Prog := (P.1, P.2.1, P.2.2.1, fun g => if g = f then !P.2.2.2 g else P.2.2.2 g)
def KT (K : Prog → mSt → Prop) : Prop := ∀ (P : Prog) (u u' : mSt) (f : Nat), K P u → u'.1 105 = 0 → K (tog P f) u'
theorem tog_ok {P : Prog} (h : pOk P) {f : Nat} (hf : f < 16 * P.1) : pOk (tog P f) := by
  refine ⟨h.1, h.2.1, h.2.2.1, h.2.2.2.1, fun g hg => ?_⟩
  by_cases e : g = f
  · rw [e]; exact hf
  · refine h.2.2.2.2 g ?_
    have : (if g = f then !P.2.2.2 g else P.2.2.2 g) = true := hg
    rw [if_neg e] at this
    exact this
theorem e_toggle {P : Prog} {w n q x y : Nat} {u : mSt} (hP : pOk P) (h : RepC P w u) (hq : q < P.1) (hx : x < 4) (hy : y < 4) : ∃ m : Int32, fX6_toggle n w (nI q) (nI x) (nI y) u.1 u.2 = some (if P.2.2.2 (16 * q + 4 * x + y) = true then 0 else 1, upd u.1 (105 + 100 * w) 0, setA u.2 (117 + 100 * w) (nI q) m) ∧ RepC (tog P (16 * q + 4 * x + y)) w (upd u.1 (105 + 100 * w) 0, setA u.2 (117 + 100 * w) (nI q) m) := by
  have hP1 := hP.1
  have hb : inb (nI q) 4 = true := inb_nI (by omega) (by decide)
  have hs : (4 * nI x) + nI y = nI (4 * x + y) := by rw [show (4 : Int32) = nI 4 from rfl, pk_mul, nI_add]
  have h2 : ∀ i, bit (u.2 (117 + 100 * w) q) i = (decide (i < 16) && P.2.2.2 (16 * q + i)) := h.2.2.2 q (by omega)
  refine ⟨u.2 (117 + 100 * w) q ^^^ (1 <<< (nI (4 * x + y) &&& 31)), ?_, ?_⟩
  · unfold fX6_toggle
    rw [gpos hb, gpos hb, gpos hb, hs, getA_nI (by omega), getA_nI (by omega), setA_at (by omega), if_pos rfl]
    have e1 : ((u.2 (117 + 100 * w) q ^^^ (1 <<< (nI (4 * x + y) &&& 31))) &&& (1 <<< (nI (4 * x + y) &&& 31))) = 0 ↔ P.2.2.2 (16 * q + 4 * x + y) = true := by
      rw [bit_has (by omega), bit_xor, bit_1shl (by omega), h2, show decide (4 * x + y < 16) = true from decide_eq_true (by omega), Nat.add_assoc]
      cases P.2.2.2 (16 * q + (4 * x + y)) <;> simp
    by_cases e : P.2.2.2 (16 * q + 4 * x + y) = true
    · rw [if_pos (e1.mpr e), if_pos e]
    · rw [if_neg (fun z => e (e1.mp z)), if_neg e]
  · refine ⟨?_, ?_, fun k hk r hr => ?_, fun p hp i => ?_⟩
    · show upd u.1 (105 + 100 * w) 0 (118 + 100 * w) = nI P.1
      rw [upd_no (by omega)]; exact h.1
    · show upd u.1 (105 + 100 * w) 0 (119 + 100 * w) = nI P.2.1
      rw [upd_no (by omega)]; exact h.2.1
    · show setA u.2 (117 + 100 * w) (nI q) _ (111 + k + 100 * w) r = nI (P.2.2.1 k r)
      rw [setA_ne (by omega)]; exact h.2.2.1 k hk r hr
    · show bit (setA u.2 (117 + 100 * w) (nI q) _ (117 + 100 * w) p) i = (decide (i < 16) && if 16 * p + i = 16 * q + 4 * x + y then !P.2.2.2 (16 * p + i) else P.2.2.2 (16 * p + i))
      rw [setA_at (by omega)]
      by_cases ep : p = q
      · subst ep
        rw [if_pos rfl, bit_xor, bit_1shl (by omega), h2]
        by_cases ei : i = 4 * x + y
        · subst ei
          rw [if_pos (by omega), show decide (4 * x + y < 16) = true from decide_eq_true (by omega)]
          simp
        · rw [if_neg (by omega)]
          simp [ei]
      · rw [if_neg ep, h.2.2.2 p hp i]
        by_cases ei : i < 16
        · rw [if_neg (by omega)]
        · simp [ei]
theorem e_tellM {P : Prog} {v : mSt} (h : RepM P v) {f : Nat} (hf : f < 64) : RepM (tog P f) (v.1, setA v.2 13 (nI f) (1 - v.2 13 f)) ∧ 1 - v.2 13 f = if P.2.2.2 f = true then 0 else 1 := by
  have e0 := h.2.2.2.2 f hf
  have e1 : 1 - v.2 13 f = if P.2.2.2 f = true then 0 else 1 := by
    rw [e0]
    by_cases e : P.2.2.2 f = true
    · rw [if_pos e, if_pos e]; decide
    · rw [if_neg e, if_neg e]; decide
  refine ⟨⟨h.1, h.2.1, fun k hk r hr => ?_, fun r hr => ?_, fun g hg => ?_⟩, e1⟩
  · exact (congrFun (setA_ne (R := v.2) (k := 13) (j := 7 + k) (i := nI f) (x := 1 - v.2 13 f) (by omega)) r).trans (h.2.2.1 k hk r hr)
  · exact (congrFun (setA_ne (R := v.2) (k := 13) (j := 12) (i := nI f) (x := 1 - v.2 13 f) (by decide)) r).trans (h.2.2.2.1 r hr)
  · show setA v.2 13 (nI f) _ 13 g = if (if g = f then !P.2.2.2 g else P.2.2.2 g) = true then 1 else 0
    rw [setA_at (by omega), e1]
    by_cases e : g = f
    · subst e
      rw [if_pos rfl, if_pos rfl]
      cases P.2.2.2 g <;> rfl
    · rw [if_neg e, if_neg e]
      exact h.2.2.2.2 g hg
theorem st_tell {K : Prog → mSt → Prop} (hT : KT K) : St_tell (SimOf (PrOf K)) := by
  intro a1 a2 a3 u v h
  obtain ⟨P, hP, hC, hM, hk⟩ := h.2.2.2
  rcases d_rel a1 hP.1 hC.1 hM.1 with h0 | ⟨q, hq, rfl, h1⟩
  · refine ⟨0, (-1, u), 0, (-1, v), ?_, ?_, rfl, h⟩
    · unfold fX7_tell; rw [(h0 0 u.2 v.2).1, bsome]; exact i0
    · unfold fX8_tell; rw [(h0 0 u.2 v.2).2, bsome]; exact i0
  rcases d_thing a2 with h2 | ⟨x, hx, rfl, h2⟩
  · refine ⟨0, (-2, u), 0, (-2, v), ?_, ?_, rfl, h⟩
    · unfold fX7_tell; rw [(h1 0 u.2 v.2).1, bsome, i1, (h2 0).2, bsome]; exact i0
    · unfold fX8_tell; rw [(h1 0 u.2 v.2).2, bsome, i1, (h2 0).1, bsome]; exact i0
  rcases d_thing a3 with h3 | ⟨y, hy, rfl, h3⟩
  · refine ⟨0, (-2, u), 0, (-2, v), ?_, ?_, rfl, h⟩
    · unfold fX7_tell; rw [(h1 0 u.2 v.2).1, bsome, i1, (h2 0).2, bsome, i1, (h3 0).2, bsome]; exact i0
    · unfold fX8_tell; rw [(h1 0 u.2 v.2).2, bsome, i1, (h2 0).1, bsome, i1, (h3 0).1, bsome]; exact i0
  have hP1 := hP.1
  obtain ⟨m, ec, hC'⟩ := e_toggle (n := 0) hP hC hq hx hy
  obtain ⟨hM', em⟩ := e_tellM hM (f := 16 * q + 4 * x + y) (by omega)
  have hb : inb (nI (16 * q + 4 * x + y)) 64 = true := inb_nI (by omega) (by decide)
  refine ⟨0, (if P.2.2.2 (16 * q + 4 * x + y) = true then 0 else 1, upd u.1 (105 + 100 * 0) 0, setA u.2 (117 + 100 * 0) (nI q) m), 0, (if P.2.2.2 (16 * q + 4 * x + y) = true then 0 else 1, v.1, setA v.2 13 (nI (16 * q + 4 * x + y)) (1 - v.2 13 (16 * q + 4 * x + y))), ?_, ?_, rfl, ?_⟩
  · unfold fX7_tell
    rw [(h1 0 u.2 v.2).1, bsome, i1, (h2 0).2, bsome, i1, (h3 0).2, bsome, i1]
    dsimp only
    rw [ec, bsome]
    dsimp only
    by_cases e : P.2.2.2 (16 * q + 4 * x + y) = true
    · rw [if_pos e, i0]
    · rw [if_neg e, i1]
  · unfold fX8_tell
    rw [(h1 0 u.2 v.2).2, bsome, i1, (h2 0).1, bsome, i1, (h3 0).1, bsome, i1, e_factM, bsome, gpos hb, gpos hb, gpos hb]
    dsimp only
    rw [getA_nI (by omega), getA_nI (by omega), setA_at (by omega), if_pos rfl, em]
  · exact Sim_world h (fun i hi => upd_no (by omega)) (fun i hi => setA_ne (by omega)) (fun i hi => rfl) (fun i hi => setA_ne (by omega)) ⟨tog P (16 * q + 4 * x + y), tog_ok hP (by omega), hC', hM', hT P u _ _ hk (upd_at (f := u.1) (k := 105))⟩
