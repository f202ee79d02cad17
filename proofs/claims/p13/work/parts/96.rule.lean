/-! reading a rule -/
def q5 (g : Nat) (a : Int32) (I : Nat → Int32) (R : Nat → Nat → Int32) : Option mSt :=
  (fX2_hasOther g 1 a I R).bind fun z16 =>
  if z16.1 = 0 then
    fX5_readRule_b114 g 1 a 0 a z16.2.1 z16.2.2
  else
    (fX5_digit g 0 ((z16.2.1 (118 + 100 * 1)) - 1) z16.2.1 z16.2.2).bind fun z18 =>
    fX5_readRule_b114 g 1 a z18.1 a z18.2.1 z18.2.2
def q4 (g : Nat) (a : Int32) (I : Nat → Int32) (R : Nat → Nat → Int32) : Option mSt :=
  (fX5_digit g 0 ((I (118 + 100 * 1)) - 1) I R).bind fun z =>
  if inb a 5 = true then
  q5 g a z.2.1 (setA z.2.2 (115 + 100 * 1) a z.1)
  else none
def q3 (g : Nat) (a : Int32) (I : Nat → Int32) (R : Nat → Nat → Int32) : Option mSt :=
  (fX5_digit g 0 ((I (118 + 100 * 1)) - 1) I R).bind fun z =>
  if inb a 5 = true then
  q4 g a z.2.1 (setA z.2.2 (114 + 100 * 1) a z.1)
  else none
def q2 (g : Nat) (a : Int32) (I : Nat → Int32) (R : Nat → Nat → Int32) : Option mSt :=
  (fX5_letter g 2 I R).bind fun z =>
  if inb a 5 = true then
  q3 g a z.2.1 (setA z.2.2 (113 + 100 * 1) a z.1)
  else none
def q1 (g : Nat) (a : Int32) (I : Nat → Int32) (R : Nat → Nat → Int32) : Option mSt :=
  (fX5_digit g 1 9 I R).bind fun z =>
  if inb a 5 = true then
  q2 g a z.2.1 (setA z.2.2 (112 + 100 * 1) a z.1)
  else none
def q0 (g : Nat) (a : Int32) (I : Nat → Int32) (R : Nat → Nat → Int32) : Option mSt :=
  (fX5_letter g 1 I R).bind fun z =>
  if inb a 5 = true then
  q1 g a z.2.1 (setA z.2.2 (111 + 100 * 1) a z.1)
  else none
theorem q_eq {g : Nat} {I : Nat → Int32} {R : Nat → Nat → Int32} : fX5_readRule g 1 I R = q0 g ((upd I 53 ((I 53) + 1)) (119 + 100 * 1)) (upd I 53 ((I 53) + 1)) R := rfl
theorem w_q5 {g r : Nat} {I : Nat → Int32} {R : Nat → Nat → Int32} (h : I 54 = 1) (hr : r < 5) : ∃ R', q5 g (nI r) I R = some (upd I 219 (nI (r + 1)), R') ∧ ∀ k, (k < 211 ∨ 216 < k) → R' k = R k := by
  have hb : inb (nI r) 5 = true := inb_nI hr (by decide)
  unfold q5 fX2_hasOther fX5_readRule_b114
  rw [gpos hb, nI_1]
  by_cases e : getA R (113 + 100 * 1) (nI r) < 2
  · rw [if_pos e, bsome, i0, gpos hb]
    exact ⟨_, rfl, fun k hk => setA_ne (by omega)⟩
  · rw [if_neg e, bsome, i1]
    dsimp only
    rw [show fX5_digit g 0 (I (118 + 100 * 1) - 1) I R = some (0, I, R) from w_digit (lo := 0) h (by decide), bsome, gpos hb]
    exact ⟨_, rfl, fun k hk => setA_ne (by omega)⟩
theorem w_q4 {g r : Nat} {I : Nat → Int32} {R : Nat → Nat → Int32} (h : I 54 = 1) (hr : r < 5) : ∃ R', q4 g (nI r) I R = some (upd I 219 (nI (r + 1)), R') ∧ ∀ k, (k < 211 ∨ 216 < k) → R' k = R k := by
  have hb : inb (nI r) 5 = true := inb_nI hr (by decide)
  unfold q4
  rw [show fX5_digit g 0 (I (118 + 100 * 1) - 1) I R = some (0, I, R) from w_digit (lo := 0) h (by decide), bsome, gpos hb]
  obtain ⟨R', a, b⟩ := w_q5 (g := g) (R := setA R (115 + 100 * 1) (nI r) 0) h hr
  exact ⟨R', a, fun k hk => (b k hk).trans (setA_ne (by omega))⟩
theorem w_q3 {g r : Nat} {I : Nat → Int32} {R : Nat → Nat → Int32} (h : I 54 = 1) (hr : r < 5) : ∃ R', q3 g (nI r) I R = some (upd I 219 (nI (r + 1)), R') ∧ ∀ k, (k < 211 ∨ 216 < k) → R' k = R k := by
  have hb : inb (nI r) 5 = true := inb_nI hr (by decide)
  unfold q3
  rw [show fX5_digit g 0 (I (118 + 100 * 1) - 1) I R = some (0, I, R) from w_digit (lo := 0) h (by decide), bsome, gpos hb]
  obtain ⟨R', a, b⟩ := w_q4 (g := g) (R := setA R (114 + 100 * 1) (nI r) 0) h hr
  exact ⟨R', a, fun k hk => (b k hk).trans (setA_ne (by omega))⟩
theorem kL1 : kLn 1 = nI 3 := by decide +kernel
theorem kL2 : kLn 2 = nI 4 := by decide +kernel
theorem kL0 : kLn 0 = nI 1 := by decide +kernel
theorem w_q2 {g r : Nat} {I : Nat → Int32} {R : Nat → Nat → Int32} (h : I 54 = 1) (hr : r < 5) (hg : 5 < g) : ∃ R', q2 g (nI r) I R = some (upd I 219 (nI (r + 1)), R') ∧ ∀ k, (k < 211 ∨ 216 < k) → R' k = R k := by
  have hb : inb (nI r) 5 = true := inb_nI hr (by decide)
  unfold q2
  rw [w_letter kL2 rfl (by decide) h hg, bsome, gpos hb]
  obtain ⟨R', a, b⟩ := w_q3 (g := g) (R := setA R (113 + 100 * 1) (nI r) 0) h hr
  exact ⟨R', a, fun k hk => (b k hk).trans (setA_ne (by omega))⟩
theorem w_q1 {g r : Nat} {I : Nat → Int32} {R : Nat → Nat → Int32} (h : I 54 = 1) (hr : r < 5) (hg : 5 < g) : ∃ R', q1 g (nI r) I R = some (upd I 219 (nI (r + 1)), R') ∧ ∀ k, (k < 211 ∨ 216 < k) → R' k = R k := by
  have hb : inb (nI r) 5 = true := inb_nI hr (by decide)
  unfold q1
  rw [show fX5_digit g 1 9 I R = some (0, I, R) from w_digit (lo := 1) h (by decide), bsome, gpos hb]
  obtain ⟨R', a, b⟩ := w_q2 (g := g) (R := setA R (112 + 100 * 1) (nI r) 0) h hr hg
  exact ⟨R', a, fun k hk => (b k hk).trans (setA_ne (by omega))⟩
theorem nI_n9 {x : Nat} (h : x < 2 ^ 31) : ¬ nI x = (-9) := by
  intro e3
  have h9 := nI_toInt (n := x) h
  rw [e3, show ((-9 : Int32)).toInt = -9 by decide] at h9
  omega
theorem e3i {a i : Nat} : (nI a + 3) + nI i = nI (a + 3 + i) := by
  rw [show (3 : Int32) = nI 3 from rfl, nI_add, nI_add]
theorem m_no {g j a c i : Nat} {E : Int32} {J : Nat → Int32} {S : Nat → Nat → Int32} (hi : i < c) (hc : c ≤ 3) (ha : a + 6 ≤ 30) (hd : fX8_digit g E 0 (J 15 - 1) J S = some (-9, J, S)) : fX8_readRule_b243 g (j + 1) E (nI a) (nI c) (nI i) J S = some (0, J, setA S 18 (nI (a + 3 + i)) (-9)) := by
  have hb : inb (nI (a + 3 + i)) 30 = true := inb_nI (by omega) (by decide)
  rw [fX8_readRule_b243, if_neg (nI_ge hi (by omega)), hd, bsome, e3i, gpos hb, gpos hb]
  dsimp only
  rw [getA_nI (by omega), setA_at (by omega), if_pos rfl, if_pos rfl]
theorem m_yes {g j a c i x : Nat} {E : Int32} {J J' : Nat → Int32} {S : Nat → Nat → Int32} (hi : i < c) (hc : c ≤ 3) (ha : a + 6 ≤ 30) (hx : x < 10) (hd : fX8_digit g E 0 (J 15 - 1) J S = some (nI x, J', S)) : fX8_readRule_b243 g (j + 1) E (nI a) (nI c) (nI i) J S = fX8_readRule_b243 g j E (nI a) (nI c) (nI (i + 1)) J' (setA S 18 (nI (a + 3 + i)) (nI x)) := by
  have hb : inb (nI (a + 3 + i)) 30 = true := inb_nI (by omega) (by decide)
  rw [fX8_readRule_b243, if_neg (nI_ge hi (by omega)), hd, bsome, e3i, gpos hb, gpos hb]
  dsimp only
  rw [getA_nI (by omega), setA_at (by omega), if_pos rfl, if_neg (nI_n9 (by omega)), nI_1]
theorem m_end {g j a c : Nat} {E : Int32} {J : Nat → Int32} {S : Nat → Nat → Int32} (hc : c ≤ 3) : fX8_readRule_b243 g (j + 1) E (nI a) (nI c) (nI c) J S = some (1, J, S) := by
  rw [fX8_readRule_b243, if_pos (nI_le (Nat.le_refl _) (by omega))]
theorem CT.st {T : Nat → Int32} {N p : Nat} {I : Nat → Int32} {R R' : Nat → Nat → Int32} (h : CT T N p I R) (p' : Nat) (hr : R' 51 = R 51) : CT T N p' (upd I 53 (nI p')) R' := ⟨(upd_no (by decide)).trans h.1, upd_at, (upd_no (by decide)).trans h.2.2.1, fun i hi => by rw [hr]; exact h.2.2.2 i hi⟩
theorem MT.st {T : Nat → Int32} {F N p : Nat} {J : Nat → Int32} {S S' : Nat → Nat → Int32} (h : MT T F N p J S) (p' : Nat) (hr : S' 4 = S 4) : MT T F N p' (upd J 14 (nI (F + p'))) S' := ⟨upd_at, fun i hi => by rw [hr]; exact h.2 i hi⟩
/-- a rule's parts from the lo-th on have been read -/
def RuOk (T : Nat → Int32) (F N p r lo : Nat) (x : Nat → Nat) (I : Nat → Int32) (R : Nat → Nat → Int32) (J : Nat → Int32) (S : Nat → Nat → Int32) (I' : Nat → Int32) (R' : Nat → Nat → Int32) (J' : Nat → Int32) (S' : Nat → Nat → Int32) : Prop := p ≤ N ∧ CT T N p I' R' ∧ MT T F N p J' S' ∧ (∀ i, i ≠ 53 → i ≠ 219 → I' i = I i) ∧ I' 219 = nI (r + 1) ∧ (∀ k t, R' k t = if t = r ∧ 211 + lo ≤ k ∧ k ≤ 216 then nI (x (k - 211)) else R k t) ∧ (∀ i, i ≠ 14 → J' i = J i) ∧ ∀ k t, S' k t = if k = 18 ∧ 6 * r + lo ≤ t ∧ t ≤ 6 * r + 5 then (if t = 6 * r + 5 ∧ x 2 < 2 then (-9) else nI (x (t - 6 * r))) else S k t
def RuNo (F : Nat) (I : Nat → Int32) (R : Nat → Nat → Int32) (J : Nat → Int32) (S : Nat → Nat → Int32) (I' : Nat → Int32) (R' : Nat → Nat → Int32) (J' : Nat → Int32) (S' : Nat → Nat → Int32) : Prop := ∃ p, I' 54 = 1 ∧ I' 53 = nI p ∧ J' 14 = nI (F + p) ∧ (∀ i, i ≠ 53 → i ≠ 54 → i ≠ 219 → I' i = I i) ∧ (∀ k, (k < 211 ∨ 216 < k) → R' k = R k) ∧ (∀ i, i ≠ 14 → J' i = J i) ∧ ∀ k, k ≠ 18 → S' k = S k
def xR (a b c d e f : Nat) : Nat → Nat := fun k => if k = 0 then a else if k = 1 then b else if k = 2 then c else if k = 3 then d else if k = 4 then e else f
theorem p_q3 {T : Nat → Int32} {F N p r k f g : Nat} {I J : Nat → Int32} {R S : Nat → Nat → Int32} (hN : N ≤ 60) (hF : F + N ≤ 240) (hp : p ≤ N) (hk : k ≤ 3) (hr : r < 5) (hf : f < 4) (h : CT T N p I R) (h' : MT T F N p J S) (hI : I 218 = nI (k + 1)) (hJ : J 15 = nI (k + 1)) (hR : R 213 r = nI f) (hg : 5 < g) : (∃ p' d e o I' R' J' S', d ≤ k ∧ e ≤ k ∧ o ≤ k ∧ (f < 2 → o = 0) ∧ q3 g (nI r) I R = some (I', R') ∧ fX8_readRule_b228 g (nI (F + N)) (nI (6 * r)) (nI (if f < 2 then 2 else 3)) J S = some (1, J', S') ∧ RuOk T F N p' r 3 (xR 0 0 f d e o) I R J S I' R' J' S') ∨ ∃ I' R' J' S', q3 g (nI r) I R = some (I', R') ∧ fX8_readRule_b228 g (nI (F + N)) (nI (6 * r)) (nI (if f < 2 then 2 else 3)) J S = some (0, J', S') ∧ RuNo F I R J S I' R' J' S' := by
  have hb : inb (nI r) 5 = true := inb_nI hr (by decide)
  have hb5 : inb (nI (6 * r + 5)) 30 = true := inb_nI (by omega) (by decide)
  have e65 : nI (6 * r) + 5 = nI (6 * r + 5) := nI_add _ 5
  have hIk : I (118 + 100 * 1) - 1 = nI k := by rw [show I (118 + 100 * 1) = nI (k + 1) from hI]; exact nI_pred k
  have hJk : J 15 - 1 = nI k := by rw [hJ]; exact nI_pred k
  have hc2 : 2 ≤ (if f < 2 then 2 else 3) ∧ (if f < 2 then 2 else 3) ≤ 3 := by split <;> omega
  obtain ⟨g, rfl⟩ : ∃ i, g = i + 4 := ⟨g - 4, by omega⟩
  unfold fX8_readRule_b228
  rw [e65, gpos hb5]
  have h'0 : MT T F N p J (setA S 18 (nI (6 * r + 5)) (-9)) := ⟨h'.1, fun i hi => by rw [setA_ne (by decide)]; exact h'.2 i hi⟩
  unfold q3
  rw [hIk]
  rcases p_digit (lo := 0) (hi := k) hN hF hp (by omega) (by omega) h h'0 with ⟨_, hd⟩ | ⟨d, _, hdk, hpn, _, hd⟩
  · -- no head
    obtain ⟨d1, d2⟩ := hd (g + 4) (g + 4)
    refine Or.inr ?_
    rw [show fX5_digit (g + 4) 0 (nI k) I R = _ from d1, bsome, gpos hb]
    dsimp only
    obtain ⟨R', a1, a2⟩ := w_q4 (g := g + 4) (R := setA R (114 + 100 * 1) (nI r) 0) (I := upd I 54 1) upd_at hr
    refine ⟨_, _, _, _, a1, m_no (i := 0) (by omega) hc2.2 (by omega) (by rw [hJk]; exact d2), p, ?_, ?_, h'.1, fun i h1 h2 h3 => ?_, fun k hk => (a2 k hk).trans (setA_ne (by omega)), fun i _ => rfl, fun k hk => (setA_ne hk).trans (setA_ne hk)⟩
    · rw [upd_no (by decide)]; exact upd_at
    · rw [upd_no (by decide), upd_no (by decide)]; exact h.2.1
    · rw [upd_no h3, upd_no h2]
  obtain ⟨d1, d2⟩ := hd (g + 4) (g + 4)
  rw [show fX5_digit (g + 4) 0 (nI k) I R = _ from d1, bsome, gpos hb]
  dsimp only
  have s1 := h.st (R' := setA R (114 + 100 * 1) (nI r) (nI d)) (p + 1) (setA_ne (by decide))
  have s1' := h'0.st (S' := setA (setA S 18 (nI (6 * r + 5)) (-9)) 18 (nI (6 * r + 3 + 0)) (nI d)) (p + 1) (setA_ne (by decide))
  have hz : ∀ (J1 : Nat → Int32) (S1 : Nat → Nat → Int32), fX8_readRule_b243 (g + 4) (g + 4) (nI (F + N)) (nI (6 * r)) (nI (if f < 2 then 2 else 3)) 0 J1 S1 = fX8_readRule_b243 (g + 4) (g + 3 + 1) (nI (F + N)) (nI (6 * r)) (nI (if f < 2 then 2 else 3)) (nI 0) J1 S1 := fun _ _ => rfl
  rw [hz, m_yes (i := 0) (x := d) (by omega) hc2.2 (by omega) (by omega) (by rw [hJk]; exact d2)]
  have hIk1 : upd I 53 (nI (p + 1)) (118 + 100 * 1) - 1 = nI k := by rw [upd_no (by decide)]; exact hIk
  have hJk1 : upd J 14 (nI (F + (p + 1))) 15 - 1 = nI k := by rw [upd_no (by decide)]; exact hJk
  unfold q4
  rw [hIk1]
  rcases p_digit (lo := 0) (hi := k) hN hF (show p + 1 ≤ N by omega) (by omega) (by omega) s1 s1' with ⟨_, he⟩ | ⟨e, _, hek, hpn1, _, he⟩
  · -- no body
    obtain ⟨d3, d4⟩ := he (g + 4) (g + 4)
    refine Or.inr ?_
    rw [show fX5_digit (g + 4) 0 (nI k) _ _ = _ from d3, bsome, gpos hb]
    dsimp only
    obtain ⟨R', a1, a2⟩ := w_q5 (g := g + 4) (R := setA (setA R (114 + 100 * 1) (nI r) (nI d)) (115 + 100 * 1) (nI r) 0) (I := upd (upd I 53 (nI (p + 1))) 54 1) upd_at hr
    refine ⟨_, _, _, _, a1, m_no (i := 0 + 1) (by omega) hc2.2 (by omega) (by rw [hJk1]; exact d4), p + 1, ?_, ?_, upd_at, fun i h1 h2 h3 => ?_, fun k hk => (a2 k hk).trans ((setA_ne (by omega)).trans (setA_ne (by omega))), fun i hi => upd_no hi, fun k hk => (setA_ne hk).trans ((setA_ne hk).trans (setA_ne hk))⟩
    · rw [upd_no (by decide)]; exact upd_at
    · rw [upd_no (by decide), upd_no (by decide)]; exact upd_at
    · rw [upd_no h3, upd_no h2, upd_no h1]
  obtain ⟨d3, d4⟩ := he (g + 4) (g + 4)
  rw [show fX5_digit (g + 4) 0 (nI k) _ _ = _ from d3, bsome, gpos hb]
  dsimp only
  have s2 := s1.st (R' := setA (setA R (114 + 100 * 1) (nI r) (nI d)) (115 + 100 * 1) (nI r) (nI e)) (p + 1 + 1) (setA_ne (by decide))
  have s2' := s1'.st (S' := setA (setA (setA S 18 (nI (6 * r + 5)) (-9)) 18 (nI (6 * r + 3 + 0)) (nI d)) 18 (nI (6 * r + 3 + (0 + 1))) (nI e)) (p + 1 + 1) (setA_ne (by decide))
  rw [m_yes (i := 0 + 1) (x := e) (by omega) hc2.2 (by omega) (by omega) (by rw [hJk1]; exact d4)]
  have hRf : getA (setA (setA R (114 + 100 * 1) (nI r) (nI d)) (115 + 100 * 1) (nI r) (nI e)) (113 + 100 * 1) (nI r) = nI f := by
    rw [getA_nI (by omega), setA_ne (by decide), setA_ne (by decide)]; exact hR
  unfold q5 fX2_hasOther
  rw [gpos hb, hRf]
  by_cases e2 : f < 2
  · refine Or.inl ?_
    rw [if_pos (show nI f < (2 : Int32) from nI_lt (b := 2) e2 (by decide)), bsome, i0, if_pos e2]
    dsimp only
    unfold fX5_readRule_b114
    rw [gpos hb, nI_1]
    refine ⟨p + 1 + 1, d, e, 0, _, _, _, _, hdk, hek, by omega, fun _ => rfl, rfl, m_end (c := 2) (by decide), by omega, ⟨(upd_no (by decide)).trans s2.1, (upd_no (by decide)).trans s2.2.1, (upd_no (by decide)).trans s2.2.2.1, fun i hi => ?_⟩, s2', fun i h1 h2 => ?_, upd_at, fun k t => ?_, fun i hi => ?_, fun k t => ?_⟩
    · rw [setA_ne (by decide)]; exact s2.2.2.2 i hi
    · rw [upd_no h2, upd_no h1, upd_no h1]
    · rw [setA_v (by omega), setA_v (by omega), setA_v (by omega)]
      by_cases et : t = r
      · by_cases k4 : k = 214
        · subst k4; rw [if_neg (by omega), if_neg (by omega), if_pos ⟨rfl, et⟩, if_pos (by omega)]; rfl
        · by_cases k5 : k = 215
          · subst k5; rw [if_neg (by omega), if_pos ⟨rfl, et⟩, if_pos (by omega)]; rfl
          · by_cases k6 : k = 216
            · subst k6; rw [if_pos ⟨rfl, et⟩, if_pos (by omega)]; rfl
            · rw [if_neg (by omega), if_neg (by omega), if_neg (by omega), if_neg (by omega)]
      · rw [if_neg (by omega), if_neg (by omega), if_neg (by omega), if_neg (by omega)]
    · rw [upd_no hi, upd_no hi]
    · rw [setA_v (by omega), setA_v (by omega), setA_v (by omega)]
      by_cases ek : k = 18
      · by_cases k3 : t = 6 * r + 3
        · subst k3; rw [if_neg (by omega), if_pos (by omega), if_pos (by omega), if_neg (by omega), show 6 * r + 3 - 6 * r = 3 by omega]; rfl
        · by_cases k4 : t = 6 * r + 4
          · subst k4; rw [if_pos (by omega), if_pos (by omega), if_neg (by omega), show 6 * r + 4 - 6 * r = 4 by omega]; rfl
          · by_cases k5 : t = 6 * r + 5
            · subst k5; rw [if_neg (by omega), if_neg (by omega), if_pos (by omega), if_pos (by omega), if_pos ⟨rfl, e2⟩]
            · rw [if_neg (by omega), if_neg (by omega), if_neg (by omega), if_neg (by omega)]
      · rw [if_neg (by omega), if_neg (by omega), if_neg (by omega), if_neg (by omega)]
  rw [if_neg (show ¬ nI f < (2 : Int32) from nI_nlt (b := 2) (by omega) (by omega)), bsome, i1, if_neg e2]
  dsimp only
  have hIk2 : upd (upd I 53 (nI (p + 1))) 53 (nI (p + 1 + 1)) (118 + 100 * 1) - 1 = nI k := by rw [upd_no (by decide)]; exact hIk1
  have hJk2 : upd (upd J 14 (nI (F + (p + 1)))) 14 (nI (F + (p + 1 + 1))) 15 - 1 = nI k := by rw [upd_no (by decide)]; exact hJk1
  rw [hIk2]
  unfold fX5_readRule_b114
  rcases p_digit (lo := 0) (hi := k) hN hF (show p + 1 + 1 ≤ N by omega) (by omega) (by omega) s2 s2' with ⟨_, ho⟩ | ⟨o, _, hok, hpn2, _, ho⟩
  · -- no other
    obtain ⟨d5, d6⟩ := ho (g + 4) (g + 4)
    refine Or.inr ?_
    rw [show fX5_digit (g + 4) 0 (nI k) _ _ = _ from d5, bsome, gpos hb, nI_1]
    dsimp only
    refine ⟨_, _, _, _, rfl, m_no (i := 0 + 1 + 1) (by omega) (by decide) (by omega) (by rw [hJk2]; exact d6), p + 1 + 1, ?_, ?_, upd_at, fun i h1 h2 h3 => ?_, fun k hk => (setA_ne (by omega)).trans ((setA_ne (by omega)).trans (setA_ne (by omega))), fun i hi => ?_, fun k hk => (setA_ne hk).trans ((setA_ne hk).trans ((setA_ne hk).trans (setA_ne hk)))⟩
    · rw [upd_no (by decide)]; exact upd_at
    · rw [upd_no (by decide), upd_no (by decide)]; exact upd_at
    · rw [upd_no h3, upd_no h2, upd_no h1, upd_no h1]
    · rw [upd_no hi, upd_no hi]
  obtain ⟨d5, d6⟩ := ho (g + 4) (g + 4)
  refine Or.inl ?_
  rw [show fX5_digit (g + 4) 0 (nI k) _ _ = _ from d5, bsome, gpos hb, nI_1, m_yes (i := 0 + 1 + 1) (x := o) (by omega) (by decide) (by omega) (by omega) (by rw [hJk2]; exact d6)]
  dsimp only
  have s3' := s2'.st (S' := setA (setA (setA (setA S 18 (nI (6 * r + 5)) (-9)) 18 (nI (6 * r + 3 + 0)) (nI d)) 18 (nI (6 * r + 3 + (0 + 1))) (nI e)) 18 (nI (6 * r + 3 + (0 + 1 + 1))) (nI o)) (p + 1 + 1 + 1) (setA_ne (by decide))
  refine ⟨p + 1 + 1 + 1, d, e, o, _, _, _, _, hdk, hek, hok, fun z => absurd z e2, rfl, m_end (c := 3) (by decide), by omega, ⟨?_, ?_, ?_, fun i hi => ?_⟩, s3', fun i h1 h2 => ?_, upd_at, fun k t => ?_, fun i hi => ?_, fun k t => ?_⟩
  · rw [upd_no (by decide), upd_no (by decide)]; exact s2.1
  · rw [upd_no (by decide)]; exact upd_at
  · rw [upd_no (by decide), upd_no (by decide)]; exact s2.2.2.1
  · rw [setA_ne (by decide)]; exact s2.2.2.2 i hi
  · rw [upd_no h2, upd_no h1, upd_no h1, upd_no h1]
  · rw [setA_v (by omega), setA_v (by omega), setA_v (by omega)]
    by_cases et : t = r
    · by_cases k4 : k = 214
      · subst k4; rw [if_neg (by omega), if_neg (by omega), if_pos ⟨rfl, et⟩, if_pos (by omega)]; rfl
      · by_cases k5 : k = 215
        · subst k5; rw [if_neg (by omega), if_pos ⟨rfl, et⟩, if_pos (by omega)]; rfl
        · by_cases k6 : k = 216
          · subst k6; rw [if_pos ⟨rfl, et⟩, if_pos (by omega)]; rfl
          · rw [if_neg (by omega), if_neg (by omega), if_neg (by omega), if_neg (by omega)]
    · rw [if_neg (by omega), if_neg (by omega), if_neg (by omega), if_neg (by omega)]
  · rw [upd_no hi, upd_no hi, upd_no hi]
  · rw [setA_v (by omega), setA_v (by omega), setA_v (by omega), setA_v (by omega)]
    by_cases ek : k = 18
    · by_cases k3 : t = 6 * r + 3
      · subst k3; rw [if_neg (by omega), if_neg (by omega), if_pos (by omega), if_pos (by omega), if_neg (by omega), show 6 * r + 3 - 6 * r = 3 by omega]; rfl
      · by_cases k4 : t = 6 * r + 4
        · subst k4; rw [if_neg (by omega), if_pos (by omega), if_pos (by omega), if_neg (by omega), show 6 * r + 4 - 6 * r = 4 by omega]; rfl
        · by_cases k5 : t = 6 * r + 5
          · subst k5; rw [if_pos (by omega), if_pos (by omega), if_neg (fun z => e2 z.2), show 6 * r + 5 - 6 * r = 5 by omega]; rfl
          · rw [if_neg (by omega), if_neg (by omega), if_neg (by omega), if_neg (by omega), if_neg (by omega)]
    · rw [if_neg (by omega), if_neg (by omega), if_neg (by omega), if_neg (by omega), if_neg (by omega)]
