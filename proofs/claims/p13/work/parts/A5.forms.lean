/-! forms: both sides answer -/
theorem c_forms {P : Prog} {n c r : Nat} {u v : mSt} (hP : pOk P) (hC : RepC P 0 u) (hM : RepM P v) (hr : r < P.2.1) (hc : RdC c u) (hn : 70 < n) : ∃ x u', fX7_forms_b14 n n (nI r) 0 0 u.1 u.2 = some (x, u') ∧ FrW 1 u u' := by
  have h5 := hP.2.1
  have h8 := hc.1
  have key : ∀ d i j (s : Int32) (u1 : mSt), FrW 1 u u1 → i + d = 4 → d < j → ∃ x u', fX7_forms_b14 n j (nI r) s (nI i) u1.1 u1.2 = some (x, u') ∧ FrW 1 u u' := by
    intro d
    induction d with
    | zero =>
      intro i j s u1 hu hi hj
      obtain ⟨j, rfl⟩ : ∃ i, j = i + 1 := ⟨j - 1, by omega⟩
      rw [fX7_forms_b14, if_pos (show (4 : Int32) ≤ nI i from nI_le (a := 4) (by omega) (by omega))]
      exact ⟨_, u1, rfl, hu⟩
    | succ d ih =>
      intro i j s u1 hu hi hj
      obtain ⟨j, rfl⟩ : ∃ i, j = i + 1 := ⟨j - 1, by omega⟩
      have hC1 : RepC P 0 u1 := hC.mk (hu.1 _ (by omega)) (hu.1 _ (by omega)) (fun k hk => hu.2 _ (by omega))
      obtain ⟨u2, a1, a2, a3, a4⟩ := RepC.takeD (n := n) hP hC1
      have f2 : FrW 1 u u2 := hu.trans a4
      have b90 : ∀ (s : Int32) (u3 : mSt), FrW 1 u u3 → ∃ x u', fX7_forms_b90 n (fX7_forms_b14 n j) (nI r) s (nI i) u3.1 u3.2 = some (x, u') ∧ FrW 1 u u' := by
        intro s u3 f3
        unfold fX7_forms_b90
        rw [nI_1]
        exact ih (i + 1) j _ u3 f3 (by omega) (by omega)
      rw [fX7_forms_b14, if_neg (show ¬ (4 : Int32) ≤ nI i from nI_ge (b := 4) (by omega) (by decide)), a1, bsome]
      rcases d_fits hP a2 hM hr (nI i) with z | ⟨x, hx, ex, z⟩
      · rw [(z n).1, bsome, i0]
        exact b90 s u2 f2
      have hxi : x = i := ((nI_eq (by have := hx.1; omega) (by omega)).mp ex.symm)
      subst hxi
      rw [(z n).1, bsome, i1]
      dsimp only
      obtain ⟨u3, b, c1, c2, c3, c4, c5⟩ := e_reforms (n := n) hP a2 hr hx (by omega)
      rw [c1, bsome]
      dsimp only
      have f3 := f2.trans c5
      cases b with
      | false =>
        rw [if_pos (show b01 false = 0 from rfl)]
        exact b90 s u3 f3
      | true =>
        rw [if_neg (show ¬ b01 true = 0 by decide)]
        rw [if_pos rfl] at c3
        have b77 : ∀ u4 : mSt, FrW 1 u u4 → (c = 0 ∨ SetC (rfm P r x) 1 u4) → ∃ y u', fX7_forms_b77 n (fX7_forms_b14 n j) (nI r) s (nI x) u4.1 u4.2 = some (y, u') ∧ FrW 1 u u' := by
          intro u4 f4 hS
          obtain ⟨b, hb⟩ := k_rso (n := n) (hc.fr f4) hS (by omega)
          unfold fX7_forms_b77
          rw [hb, bsome]
          dsimp only
          split
          · exact b90 _ u4 f4
          · exact b90 _ u4 f4
        have h7 : u3.1 7 = nI c := (f3.1 7 (by omega)).trans hc.2.1
        rw [h7]
        by_cases e : c = 0
        · rw [if_pos (show nI c ≤ 0 by rw [e]; decide)]
          exact b77 u3 f3 (Or.inl e)
        · rw [if_neg (nI_nle (by omega) (by omega))]
          obtain ⟨u4, d1, d2, d3, d4, d5⟩ := e_settle (n := n) (w := 1) (rfm_ok hP hx) c3 (c2.mp rfl) (Or.inl c4) hn
          rw [d1, bsome]
          exact b77 u4 (f3.trans d5) (Or.inr d2)
  exact key 4 0 n 0 u FrW.refl (by omega) (by omega)
theorem t_forms {P : Prog} {n c r p : Nat} {v : mSt} {was : Int32} (hP : pOk P) (hM : RepM P v) (hr : r < P.2.1) (hc : RdV c v) (hw : was = v.2 9 r) (hp : ∀ i, p ≤ i → i < p + 2 → fitP P r i) (hp4 : p ≤ 2) (hn : 274877907000 < n) : ∃ x v', fX8_forms_b34 n n (nI r) was (nI p) 0 (nI p) v.1 v.2 = some (x, v') ∧ RepM P v' ∧ FrC v v' := by
  have h5 := hP.2.1
  have hb : inb (nI r) 5 = true := inb_nI (by omega) (by decide)
  have e2 : nI p + 2 = nI (p + 2) := nI_add p 2
  have key : ∀ d i j (s : Int32) (v1 : mSt), (∀ k, k ≠ 25 → v1.1 k = v.1 k) → (∀ k, (k < 21 ∨ 28 < k) → k ≠ 9 → v1.2 k = v.2 k) → (∀ t, t ≠ r → v1.2 9 t = v.2 9 t) → p ≤ i → i + d = p + 2 → d < j → ∃ x v', fX8_forms_b34 n j (nI r) was (nI p) s (nI i) v1.1 v1.2 = some (x, v') ∧ RepM P v' ∧ FrC v v' := by
    intro d
    induction d with
    | zero =>
      intro i j s v1 f1 f2 f3 hpi hi hj
      obtain ⟨j, rfl⟩ : ∃ i, j = i + 1 := ⟨j - 1, by omega⟩
      rw [fX8_forms_b34, e2, if_pos (nI_le (by omega) (by omega)), gpos hb]
      have hfr : FrC v (v1.1, setA v1.2 9 (nI r) was) := by
        refine ⟨f1, fun k hk => ?_⟩
        show setA v1.2 9 (nI r) was k = _
        by_cases e : k = 9
        · subst e
          funext t
          rw [setA_at (by omega)]
          by_cases et : t = r
          · rw [if_pos et, et]; exact hw
          · rw [if_neg et]; exact f3 t et
        · rw [setA_ne e]; exact f2 k hk e
      exact ⟨_, _, rfl, hfr.M hM, hfr⟩
    | succ d ih =>
      intro i j s v1 f1 f2 f3 hpi hi hj
      obtain ⟨j, rfl⟩ : ∃ i, j = i + 1 := ⟨j - 1, by omega⟩
      have hx := hp i hpi (by omega)
      have hM1 : RepM (rfm P r i) (v1.1, setA v1.2 9 (nI r) (nI i)) := by
        refine (hM.rfm hx (show r < 5 by omega)).mk (f1 5 (by decide)) (f1 6 (by decide)) (fun k hk => ?_)
        show setA v1.2 9 (nI r) (nI i) (7 + k) = setA v.2 9 (nI r) (nI i) (7 + k)
        funext t
        rw [setA_v (by omega), setA_v (by omega)]
        by_cases e : 7 + k = 9 ∧ t = r
        · rw [if_pos e, if_pos e]
        · rw [if_neg e, if_neg e]
          by_cases e7 : 7 + k = 9
          · rw [e7]; exact f3 t (fun z => e ⟨e7, z⟩)
          · rw [f2 (7 + k) (by omega) e7]
      obtain ⟨b, v2, a1, a2, a3⟩ := t_areSo (n := n) (rfm_ok hP hx) hM1 (hc.fr (f1 31 (by decide)) (by dsimp only; rw [setA_ne (by decide)]; exact f2 32 (by decide) (by decide))) hn
      rw [fX8_forms_b34, e2, if_neg (nI_ge (by omega) (by omega)), gpos hb, show fX8_areSo n v1.1 (setA v1.2 9 (nI r) (nI i)) = some (b01 b, v2) from a1, bsome]
      unfold fX8_forms_b67
      rw [nI_1]
      dsimp only
      have g1 : ∀ k, k ≠ 25 → v2.1 k = v.1 k := fun k hk => (a3.1 k hk).trans (f1 k hk)
      have g2 : ∀ k, (k < 21 ∨ 28 < k) → k ≠ 9 → v2.2 k = v.2 k := fun k hk h7 => by
        rw [a3.2 k hk]
        show setA v1.2 9 (nI r) (nI i) k = _
        rw [setA_ne h7]; exact f2 k hk h7
      have g3 : ∀ t, t ≠ r → v2.2 9 t = v.2 9 t := fun t ht => by
        rw [a3.2 9 (by decide)]
        show setA v1.2 9 (nI r) (nI i) 9 t = _
        rw [setA_at (by omega), if_neg ht]; exact f3 t ht
      split
      · exact ih (i + 1) j _ v2 g1 g2 g3 (by omega) (by omega) (by omega)
      · exact ih (i + 1) j _ v2 g1 g2 g3 (by omega) (by omega) (by omega)
  exact key 2 p n 0 v (fun _ _ => rfl) (fun _ _ _ => rfl) (fun _ _ => rfl) (Nat.le_refl _) (by omega) (by omega)
def Su_forms (Sim : mSt → mSt → Prop) : Prop := ∀ (a1 : Int32) (u v : mSt), Sim u v → ∃ (n1 : Nat) (z1 : Int32 × mSt) (n2 : Nat) (z2 : Int32 × mSt), fX7_forms n1 a1 u.1 u.2 = some z1 ∧ fX8_forms n2 a1 v.1 v.2 = some z2 ∧ Sim z1.2 z2.2
theorem su_forms : Su_forms (SimOf (PrOf KK)) := by
  intro a1 u v h
  obtain ⟨P, hP, hC, hM, hk⟩ := h.2.2.2
  rcases d_rule a1 hP.2.1 hC.2.1 hM.2.1 with h0 | ⟨r, hr, rfl, h1⟩
  · refine ⟨100, (-1, u), 100, (-1, v), ?_, ?_, h⟩
    · unfold fX7_forms; rw [(h0 100 u.2 v.2).1, bsome]; exact i0
    · unfold fX8_forms; rw [(h0 100 u.2 v.2).2, bsome]; exact i0
  have h5 := hP.2.1
  have hh := hP.2.2.2.1 r hr
  have hNB := NB_big
  obtain ⟨c, hc, hv⟩ := h.2.1.cv
  obtain ⟨x, u', c1, c2⟩ := c_forms (n := 100) hP hC hM hr hc (by decide)
  have m2 : getA v.2 9 (nI r) = nI (P.2.2.1 2 r) := hM.at 2 (by decide) hr hP.2.1
  have hm : ∃ y v', fX8_forms NB (nI r) v.1 v.2 = some (y, v') ∧ RepM P v' ∧ FrC v v' := by
    unfold fX8_forms fX8_forms_b27
    rw [(h1 NB u.2 v.2).2, bsome, i1, gpos (inb_nI (by omega) (by decide))]
    dsimp only
    have hg : getA v.2 9 (nI r) = v.2 9 r := getA_nI (by omega)
    by_cases e : P.2.2.1 2 r < 2
    · rw [if_neg (show ¬ (2 : Int32) ≤ getA v.2 9 (nI r) by rw [m2]; exact nI_ge (b := 2) e (by decide)), hg]
      exact t_forms (n := NB) (p := 0) hP hM hr hv rfl (fun i z1 z2 => ⟨by omega, ⟨fun _ => e, fun _ => by omega⟩⟩) (by decide) hNB
    · rw [if_pos (show (2 : Int32) ≤ getA v.2 9 (nI r) by rw [m2]; exact nI_le (a := 2) (by omega) (by omega)), hg]
      exact t_forms (n := NB) (p := 2) hP hM hr hv rfl (fun i z1 z2 => ⟨by omega, ⟨fun z => by omega, fun z => absurd z e⟩⟩) (by decide) hNB
  obtain ⟨y, v', d1, d2, d3⟩ := hm
  refine ⟨100, (x, u'), NB, (y, v'), ?_, d1, sim_d h hP hC d2 hk c2 d3⟩
  unfold fX7_forms; rw [(h1 100 u.2 v.2).1, bsome, i1]; exact c1
