/-! program -/
theorem p_reads {g s i N : Nat} {u v : mSt} (hs : s < 4) (hi : i + N ≤ 60) (hc : ∀ t, t < 60 → u.2 (1001 + 10 * s) t = v.2 4 (60 * s + t)) (hg : 5 < g) : RdRes (60 * s + i) u v (fX5_reads g s 1 (nI i) (nI N) u.1 u.2) (fX8_readAll g (nI (60 * s + i + N)) (upd v.1 14 (nI (60 * s + i))) v.2) := by
  obtain ⟨F, hFe⟩ : ∃ F, F = 60 * s + i := ⟨_, rfl⟩
  rw [← hFe]
  have hF : F + N ≤ 240 := by omega
  have hN : N ≤ 60 := by omega
  obtain ⟨T, hT⟩ : ∃ T : Nat → Int32, ∀ t, T t = u.2 (1001 + 10 * s) (i + t) := ⟨fun t => u.2 (1001 + 10 * s) (i + t), fun _ => rfl⟩
  unfold fX5_reads fX2_clear
  rw [gpos (show cpOk 60 60 (nI i) 0 (nI N) = true from e_cpOk (j := 0) (by omega) (by omega)), bsome]
  dsimp only
  obtain ⟨I1, hI1⟩ : ∃ I1 : Nat → Int32, I1 = upd (upd (upd (upd (upd u.1 52 (nI N)) 53 0) 54 0) (118 + 100 * 1) 0) (119 + 100 * 1) 0 := ⟨_, rfl⟩
  obtain ⟨R1, hR1⟩ : ∃ R1 : Nat → Nat → Int32, R1 = flA (cpA u.2 (1001 + 10 * s) 51 (nI i) 0 (nI N)) (117 + 100 * 1) 4 0 := ⟨_, rfl⟩
  rw [← hI1, ← hR1]
  have fI : ∀ t, t ≠ 52 → t ≠ 53 → t ≠ 54 → t ≠ 218 → t ≠ 219 → I1 t = u.1 t := fun t z1 z2 z3 z4 z5 => by rw [hI1, upd_no z5, upd_no z4, upd_no z3, upd_no z2, upd_no z1]
  have fR : ∀ t, t ≠ 51 → t ≠ 217 → R1 t = u.2 t := fun t z1 z2 => by
    rw [hR1, flA_ne z2]
    unfold cpA
    rw [if_neg z1]
  have hct : CT T N 0 I1 R1 := by
    refine ⟨?_, ?_, ?_, fun t ht => ?_⟩
    · rw [hI1, upd_no (by decide), upd_no (by decide), upd_no (by decide), upd_no (by decide), upd_at]
    · rw [hI1, upd_no (by decide), upd_no (by decide), upd_no (by decide), upd_at]; rfl
    · rw [hI1, upd_no (by decide), upd_no (by decide), upd_at]
    · rw [hR1, flA_ne (by decide)]
      refine (e_cpA (R := u.2) (a := 1001 + 10 * s) (b := 51) (i := i) (j := 0) (m := N) (t := 51) (s := t) (by omega) (by omega) (by omega)).trans ?_
      rw [if_pos rfl, if_pos ⟨by omega, by omega⟩, hT, Nat.sub_zero]
  unfold fX8_readAll
  obtain ⟨J1, hJ1⟩ : ∃ J1 : Nat → Int32, J1 = upd (upd (upd v.1 14 (nI F)) 16 0) 17 0 := ⟨_, rfl⟩
  rw [← hJ1]
  have fJ : ∀ t, t ≠ 14 → t ≠ 16 → t ≠ 17 → J1 t = v.1 t := fun t z1 z2 z3 => by rw [hJ1, upd_no z3, upd_no z2, upd_no z1]
  have hmt : MT T F N 0 J1 v.2 := by
    refine ⟨?_, fun t ht => ?_⟩
    · rw [hJ1, upd_no (by decide), upd_no (by decide), upd_at]; rfl
    · rw [hT, hc _ (by omega), hFe, Nat.add_assoc]
  rcases p_letter (t := 0) (len := 1) kL0 rfl (by decide) hN hct (Nat.zero_le _) hg with ⟨m, hm, hpn, hT0, hl⟩ | ⟨hno, hl⟩
  rotate_left
  · -- no d
    rcases e_sign (g := g) hF (Nat.zero_le _) hmt 100 with ⟨z1, z2, _⟩ | ⟨_, z3⟩
    · exact absurd ⟨z1, by rw [kc0]; exact z2⟩ (hno 0 (by decide))
    rw [hl, bsome, z3, bsome, i0]
    dsimp only
    rw [show fX5_digit g 1 4 (upd I1 54 1) R1 = some (0, upd I1 54 1, R1) from w_digit (lo := 1) upd_at (by decide), bsome]
    dsimp only
    obtain ⟨g', rfl⟩ : ∃ j, g = j + 1 := ⟨g - 1, by omega⟩
    rw [w_b55 (show upd (upd I1 54 1) (118 + 100 * 1) 0 54 = 1 by rw [upd_no (by decide), upd_at]) (by omega)]
    refine Or.inr ⟨0, _, _, rfl, rfl, ?_, hmt.1, ⟨fun t ht => ?_, fun t ht => fR t (by omega) (by omega)⟩, ⟨fun t ht => fJ t (by omega) (by omega) (by omega), fun _ _ => rfl⟩⟩
    · dsimp only; rw [upd_no (by decide), upd_no (by decide)]; exact hct.2.1
    · dsimp only; rw [upd_no (by omega), upd_no (by omega)]; exact fI t (by omega) (by omega) (by omega) (by omega) (by omega)
  have hm0 : m = 0 := by omega
  subst hm0
  rw [kc0] at hT0
  rcases e_sign (g := g) hF (Nat.zero_le _) hmt 100 with ⟨_, _, z3⟩ | ⟨z1, _⟩
  rotate_left
  · exact absurd ⟨hpn, hT0⟩ z1
  rw [hl, bsome, z3, bsome, i1]
  dsimp only
  have s1 := hct.st (R' := R1) (0 + 1) rfl
  have s1' := hmt.st (S' := v.2) (0 + 1) rfl
  rcases p_digit (lo := 1) (hi := 4) hN hF (show 0 + 1 ≤ N by omega) (by decide) (by decide) s1 s1' with ⟨_, hd⟩ | ⟨x, hx1, hx4, hpn1, _, hd⟩
  · -- no digit
    obtain ⟨d1, d2⟩ := hd g g
    rw [show fX5_digit g 1 4 (upd I1 53 (nI (0 + 1))) R1 = _ from d1, show fX8_digit g (nI (F + N)) 1 4 (upd J1 14 (nI (F + (0 + 1)))) v.2 = _ from d2, bsome, bsome, if_pos (show upd (upd J1 14 (nI (F + (0 + 1)))) 15 (-9) 15 = -9 from upd_at)]
    dsimp only
    obtain ⟨g', rfl⟩ : ∃ j, g = j + 1 := ⟨g - 1, by omega⟩
    rw [w_b55 (show upd (upd (upd I1 53 (nI (0 + 1))) 54 1) (118 + 100 * 1) 0 54 = 1 by rw [upd_no (by decide), upd_at]) (by omega)]
    refine Or.inr ⟨0 + 1, _, _, rfl, rfl, ?_, ?_, ⟨fun t ht => ?_, fun t ht => fR t (by omega) (by omega)⟩, ⟨fun t ht => ?_, fun _ _ => rfl⟩⟩
    · dsimp only; rw [upd_no (by decide), upd_no (by decide), upd_at]
    · dsimp only; rw [upd_no (by decide), upd_at]
    · dsimp only; rw [upd_no (by omega), upd_no (by omega), upd_no (by omega)]; exact fI t (by omega) (by omega) (by omega) (by omega) (by omega)
    · dsimp only; rw [upd_no (by omega), upd_no (by omega)]; exact fJ t (by omega) (by omega) (by omega)
  obtain ⟨d1, d2⟩ := hd g g
  rw [show fX5_digit g 1 4 (upd I1 53 (nI (0 + 1))) R1 = _ from d1, show fX8_digit g (nI (F + N)) 1 4 (upd J1 14 (nI (F + (0 + 1)))) v.2 = _ from d2, bsome, bsome, if_neg (show ¬ upd (upd (upd J1 14 (nI (F + (0 + 1)))) 14 (nI (F + (0 + 1 + 1)))) 15 (nI x) 15 = -9 by rw [upd_at]; exact nI_n9 (by omega))]
  dsimp only
  obtain ⟨k, rfl⟩ : ∃ k, x = k + 1 := ⟨x - 1, by omega⟩
  have s2 := s1.st (R' := R1) (0 + 1 + 1) rfl
  have s2' := s1'.st (S' := v.2) (0 + 1 + 1) rfl
  have hP0 : pOk (k + 1, 0, fun _ _ => 0, fun _ => false) := ⟨by show k + 1 ≤ 4; omega, by show (0 : Nat) ≤ 5; decide, fun z => rfl, fun r hr => absurd hr (by show ¬ r < 0; omega), fun f hf => absurd (show false = true from hf) (by decide)⟩
  have hC0 : RepC (k + 1, 0, fun _ _ => 0, fun _ => false) 1 (upd (upd (upd I1 53 (nI (0 + 1))) 53 (nI (0 + 1 + 1))) (118 + 100 * 1) (nI (k + 1)), R1) := by
    refine ⟨by dsimp only; exact upd_at, ?_, fun kk _ r hr => absurd hr (by show ¬ r < 0; omega), fun q hq t => ?_⟩
    · dsimp only; rw [upd_no (by decide), upd_no (by decide), upd_no (by decide), hI1, upd_at]; rfl
    · show bit (R1 (117 + 100 * 1) q) t = (decide (t < 16) && false)
      rw [hR1, flA_at hq, bit_0, Bool.and_false]
  have hM0 : RdM (k + 1, 0, fun _ _ => 0, fun _ => false) 0 (upd (upd (upd J1 14 (nI (F + (0 + 1)))) 14 (nI (F + (0 + 1 + 1)))) 15 (nI (k + 1)), v.2) := by
    refine ⟨by dsimp only; exact upd_at, ?_, ?_, by decide, fun r hr => absurd hr (by show ¬ r < 0; omega), fun r hr => absurd hr (by show ¬ r < 0; omega), fun i hi => absurd hi (by omega), fun f hf => ⟨fun z => absurd (show false = true from z) (by decide), fun ⟨i, z, _⟩ => absurd z (by omega)⟩⟩
    · dsimp only; rw [upd_no (by decide), upd_no (by decide), upd_no (by decide), hJ1, upd_no (by decide), upd_at]; rfl
    · dsimp only; rw [upd_no (by decide), upd_no (by decide), upd_no (by decide), hJ1, upd_at]; rfl
  refine (p_rules (s := s) hN hF (show k ≤ 3 by omega) hg 5 g g (0 + 1 + 1) _ _ R1 _ v.2 rfl hg hg (by omega) hP0 rfl ⟨?_, ?_, ?_, s2.2.2.2⟩ ⟨?_, s2'.2⟩ hC0 hM0).up ⟨fun t ht => ?_, fun t ht => fR t (by omega) (by omega)⟩ ⟨fun t ht => ?_, fun _ _ => rfl⟩
  · rw [upd_no (by decide)]; exact s2.1
  · rw [upd_no (by decide)]; exact s2.2.1
  · rw [upd_no (by decide)]; exact s2.2.2.1
  · rw [upd_no (by decide)]; exact s2'.1
  · dsimp only; rw [upd_no (by omega), upd_no (by omega), upd_no (by omega)]; exact fI t (by omega) (by omega) (by omega) (by omega) (by omega)
  · dsimp only; rw [upd_no (by omega), upd_no (by omega), upd_no (by omega)]; exact fJ t (by omega) (by omega) (by omega)
theorem d_against {u v : mSt} (h : SimSh u v) {k la : Nat} (hk : k < 4) (hla : la < 3) (a3 a4 : Int32) : (∃ f : Int32, (f = 1 ∨ f = 2) ∧ (∀ g, fX4_faultAs g k (nI la) u.1 u.2 = some (f, u)) ∧ ∀ g, fX8_against g (nI k) (nI la) a3 a4 v.1 v.2 = some (f, v)) ∨ ((∀ g, fX4_faultAs g k (nI la) u.1 u.2 = some (0, u)) ∧ ((a4 < 0 ∧ ∀ g, fX8_against g (nI k) (nI la) a3 a4 v.1 v.2 = some (4, v)) ∨ (¬ a4 < 0 ∧ (∀ g, fX4_has g k a3 a4 u.1 u.2 = some (0, u)) ∧ ∀ g, fX8_against g (nI k) (nI la) a3 a4 v.1 v.2 = some (3, v)) ∨ (¬ a4 < 0 ∧ ∃ i N, a3 = nI i ∧ a4 = nI N ∧ i + N ≤ 60 ∧ (∀ g, fX4_has g k a3 a4 u.1 u.2 = some (1, u)) ∧ (∀ g, fX8_against g (nI k) (nI la) a3 a4 v.1 v.2 = some (0, v)) ∧ ∀ t, t < 60 → u.2 (1001 + 10 * k) t = v.2 4 (60 * k + t)))) := by
  have q1 : inb (nI k) 4 = true := inb_nI hk (by decide)
  rcases h k hk with ⟨e1, e2⟩ | ⟨e1, la', sz, hla', hsz, e3, e4, e5, e6, e7⟩
  · refine Or.inl ⟨1, Or.inl rfl, fun g => ?_, fun g => ?_⟩
    · unfold fX4_faultAs; rw [if_pos e1]
    · unfold fX8_against fX8_against_b23
      rw [gpos q1, getA_nI (by omega), if_pos e2, gpos q1, if_pos e2]
  have n9 : ¬ v.2 2 k = (-9) := by rw [e4]; exact nI_ne9 hla'
  have n0 : ¬ u.1 (1002 + 10 * k) = 0 := by rw [e1]; decide
  by_cases el : la' = la
  rotate_left
  · refine Or.inl ⟨2, Or.inr rfl, fun g => ?_, fun g => ?_⟩
    · unfold fX4_faultAs; rw [if_neg n0, e3, if_neg (nI_lit (by omega) (by omega) el)]
    · unfold fX8_against
      rw [gpos q1, getA_nI (by omega), if_neg n9, gpos q1, e4, if_neg (nI_lit (by omega) (by omega) el)]
  subst el
  have hag : ∀ g, fX8_against g (nI k) (nI la') a3 a4 v.1 v.2 = if 0 ≤ a4 then (if a3 < 0 then some (3, v) else if nI sz < a3 then some (3, v) else if a4 ≤ nI sz - a3 then some (0, v) else some (3, v)) else some (4, v) := by
    intro g
    unfold fX8_against fX8_against_b23
    rw [gpos q1, getA_nI (by omega), if_neg n9, gpos q1, if_pos e4, gpos q1, if_neg n9, getA_nI (by omega), e6, gpos q1, gpos q1]
  refine Or.inr ⟨fun g => ?_, ?_⟩
  · unfold fX4_faultAs; rw [if_neg n0, if_pos e3]
  by_cases h0 : a4 < 0
  · refine Or.inl ⟨h0, fun g => ?_⟩
    rw [hag g, if_neg (fun z => absurd h0 (Int32.not_lt.mpr z))]
  have h0' : 0 ≤ a4 := Int32.not_lt.mp h0
  refine Or.inr ?_
  by_cases h1 : a3 < 0
  · refine Or.inl ⟨h0, fun g => ?_, fun g => ?_⟩
    · unfold fX4_has; rw [if_pos h1]
    · rw [hag g, if_pos h0', if_pos h1]
  by_cases h2 : nI sz < a3
  · refine Or.inl ⟨h0, fun g => ?_, fun g => ?_⟩
    · unfold fX4_has; rw [if_neg h1, e5, if_pos h2]
    · rw [hag g, if_pos h0', if_neg h1, if_pos h2]
  by_cases h3 : nI sz - a3 < a4
  · refine Or.inl ⟨h0, fun g => ?_, fun g => ?_⟩
    · unfold fX4_has; rw [if_neg h1, e5, if_neg h2, if_neg h0, if_pos h3]
    · rw [hag g, if_pos h0', if_neg h1, if_neg h2, if_neg (Int32.not_le.mpr h3)]
  obtain ⟨i, m, z1, z2, z3⟩ := le_nat hsz h1 h2 h0 h3
  refine Or.inr ⟨h0, i, m, z1, z2, by omega, fun g => ?_, fun g => ?_, e7⟩
  · unfold fX4_has; rw [if_neg h1, e5, if_neg h2, if_neg h0, if_neg h3]
  · rw [hag g, if_pos h0', if_neg h1, if_neg h2, if_pos (Int32.not_lt.mp h3)]
theorem Sim_world2 {Pr Pr' : mSt → mSt → Prop} {u v u' v' : mSt} (h : SimOf Pr u v) (h1 : ∀ i, i < 50 ∨ 1000 ≤ i → u'.1 i = u.1 i) (h2 : ∀ i, i < 50 ∨ 1000 ≤ i → u'.2 i = u.2 i) (h3 : ∀ i, i < 2 ∨ i = 31 → v'.1 i = v.1 i) (h4 : ∀ i, i < 5 ∨ i = 32 ∨ i = 33 → v'.2 i = v.2 i) (h5 : Pr' u' v') : SimOf Pr' u' v' :=
  ⟨h.1.mk (fun i hi => h1 i (Or.inr hi)) (fun i hi => h2 i (Or.inr hi)) (h4 2 (by decide)) (h4 3 (by decide)) (h4 4 (by decide)), h.2.1.mk (h1 7 (by decide)) (h2 5 (by decide)) (h2 6 (by decide)) (h3 31 (by decide)) (h4 32 (by decide)) (h4 33 (by decide)), ⟨by rw [h1 9 (by decide), h3 0 (by decide)]; exact h.2.2.1.1, by rw [h1 8 (by decide), h3 1 (by decide)]; exact h.2.2.1.2⟩, h5⟩
theorem KK.fr {P : Prog} {u u' : mSt} (h : KK P u) (h1 : ∀ i, 100 ≤ i → i < 200 → u'.1 i = u.1 i) (h2 : ∀ i, 100 ≤ i → i < 200 → u'.2 i = u.2 i) : KK P u' := by
  refine ⟨h.1, ?_⟩
  rcases h.2 with e | ⟨e, hs⟩
  · exact Or.inl ((h1 _ (by omega) (by omega)).trans e)
  · exact Or.inr ⟨(h1 _ (by omega) (by omega)).trans e, hs.fr (fun i a b => h1 i (by omega) (by omega)) (fun i a b => h2 i (by omega) (by omega))⟩
theorem RepC.take {P : Prog} {n : Nat} {u : mSt} (hP : pOk P) (h : RepC P 1 u) : ∃ u', fX6_take n 0 1 u.1 u.2 = some u' ∧ RepC P 0 u' ∧ u'.1 105 = 0 ∧ (∀ i, i < 100 ∨ 200 ≤ i → u'.1 i = u.1 i) ∧ ∀ i, i < 100 ∨ 200 ≤ i → u'.2 i = u.2 i := by
  have o5 : cpOk 5 5 0 0 5 = true := by decide
  have o4 : cpOk 4 4 0 0 4 = true := by decide
  have h5 := hP.2.1
  have c5 : ∀ (R : Nat → Nat → Int32) (a b t s : Nat), cpA R a b 0 0 5 t s = if t = b then (if s < 5 then R a s else R b s) else R t s := by
    intro R a b t s
    refine (e_cpA (R := R) (a := a) (b := b) (i := 0) (j := 0) (m := 5) (t := t) (s := s) (by decide) (by decide) (by decide)).trans ?_
    by_cases e : t = b
    · rw [if_pos e, if_pos e]
      by_cases e2 : s < 5
      · rw [if_pos ⟨Nat.zero_le _, by omega⟩, if_pos e2, Nat.zero_add, Nat.sub_zero]
      · rw [if_neg (by omega), if_neg e2]
    · rw [if_neg e, if_neg e]
  have c4 : ∀ (R : Nat → Nat → Int32) (a b t s : Nat), cpA R a b 0 0 4 t s = if t = b then (if s < 4 then R a s else R b s) else R t s := by
    intro R a b t s
    refine (e_cpA (R := R) (a := a) (b := b) (i := 0) (j := 0) (m := 4) (t := t) (s := s) (by decide) (by decide) (by decide)).trans ?_
    by_cases e : t = b
    · rw [if_pos e, if_pos e]
      by_cases e2 : s < 4
      · rw [if_pos ⟨Nat.zero_le _, by omega⟩, if_pos e2, Nat.zero_add, Nat.sub_zero]
      · rw [if_neg (by omega), if_neg e2]
    · rw [if_neg e, if_neg e]
  have cN : ∀ {R : Nat → Nat → Int32} {a b t s : Nat}, t ≠ b → cpA R a b 0 0 5 t s = R t s := fun {R a b t s} h => by rw [c5, if_neg h]
  have cY : ∀ {R : Nat → Nat → Int32} {a b t s : Nat}, t = b → s < 5 → cpA R a b 0 0 5 t s = R a s := fun {R a b t s} h h2 => by rw [c5, if_pos h, if_pos h2]
  unfold fX6_take fX2_take
  rw [gpos o5, gpos o5, gpos o5, gpos o5, gpos o5, gpos o5, gpos o4, bsome]
  refine ⟨_, rfl, ⟨?_, ?_, fun k hk r hr => ?_, fun q hq i => ?_⟩, by dsimp only; exact upd_at, fun i hi => ?_, fun i hi => ?_⟩
  · dsimp only; rw [upd_no (by decide), upd_no (by decide), upd_at]; exact h.1
  · dsimp only; rw [upd_no (by decide), upd_at, upd_no (by decide)]; exact h.2.1
  · dsimp only
    rw [c4, if_neg (by omega)]
    have hr5 : r < 5 := by omega
    have hh := h.2.2.1 k hk r hr
    have hk6 : k = 0 ∨ k = 1 ∨ k = 2 ∨ k = 3 ∨ k = 4 ∨ k = 5 := by omega
    rcases hk6 with rfl | rfl | rfl | rfl | rfl | rfl
    · rw [cN (by decide), cN (by decide), cN (by decide), cN (by decide), cN (by decide), cY (by decide) hr5]; exact hh
    · rw [cN (by decide), cN (by decide), cN (by decide), cN (by decide), cY (by decide) hr5, cN (by decide)]; exact hh
    · rw [cN (by decide), cN (by decide), cN (by decide), cY (by decide) hr5, cN (by decide), cN (by decide)]; exact hh
    · rw [cN (by decide), cN (by decide), cY (by decide) hr5, cN (by decide), cN (by decide), cN (by decide)]; exact hh
    · rw [cN (by decide), cY (by decide) hr5, cN (by decide), cN (by decide), cN (by decide), cN (by decide)]; exact hh
    · rw [cY (by decide) hr5, cN (by decide), cN (by decide), cN (by decide), cN (by decide), cN (by decide)]; exact hh
  · dsimp only
    rw [c4, if_pos (by decide), if_pos hq, cN (by decide), cN (by decide), cN (by decide), cN (by decide), cN (by decide), cN (by decide)]
    exact h.2.2.2 q hq i
  · dsimp only; rw [upd_no (by omega), upd_no (by omega), upd_no (by omega)]
  · funext s
    dsimp only
    rw [c4, if_neg (by omega), cN (by omega), cN (by omega), cN (by omega), cN (by omega), cN (by omega), cN (by omega)]
