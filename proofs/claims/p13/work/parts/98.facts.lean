/-! reading facts; all of a text -/
def RdM (P : Prog) (m : Nat) (v : mSt) : Prop := v.1 15 = nI P.1 ∧ v.1 16 = nI P.2.1 ∧ v.1 17 = nI m ∧ m ≤ 5 ∧ (∀ r, r < P.2.1 → ∀ k, k < 5 → v.2 18 (6 * r + k) = nI (P.2.2.1 k r)) ∧ (∀ r, r < P.2.1 → v.2 18 (6 * r + 5) = if P.2.2.1 2 r < 2 then (-9) else nI (P.2.2.1 5 r)) ∧ (∀ i, i < m → ∃ f, f < 16 * P.1 ∧ v.2 19 i = nI f) ∧ ∀ f, f < 64 → (P.2.2.2 f = true ↔ ∃ i, i < m ∧ v.2 19 i = nI f)
def t0 (g : Nat) (I : Nat → Int32) (R : Nat → Nat → Int32) : Option mSt :=
  (fX5_digit g 0 ((I (118 + 100 * 1)) - 1) I R).bind fun z1 =>
  (fX5_digit g 0 3 z1.2.1 z1.2.2).bind fun z3 =>
  (fX5_digit g 0 3 z3.2.1 z3.2.2).bind fun z5 =>
  if (z5.2.1 54) = 0 then
    if inb z1.1 4 = true then
    if ((getA z5.2.2 (117 + 100 * 1) z1.1) &&& (1 <<< (((4 * z3.1) + z5.1) &&& 31))) = 0 then
      if inb z1.1 4 = true then
      if inb z1.1 4 = true then
      some (z5.2.1, (setA z5.2.2 (117 + 100 * 1) z1.1 ((getA z5.2.2 (117 + 100 * 1) z1.1) ||| (1 <<< (((4 * z3.1) + z5.1) &&& 31)))))
      else none
      else none
    else
      some ((upd (upd z5.2.1 53 ((z5.2.1 53) - 1)) 54 1), z5.2.2)
    else none
  else
    some (z5.2.1, z5.2.2)
theorem t_eq {g : Nat} {I : Nat → Int32} {R : Nat → Nat → Int32} : fX5_readTold g 1 I R = t0 g (upd I 53 ((I 53) + 1)) R := rfl
theorem m90 {g m : Nat} {a : Int32} {J : Nat → Int32} {S : Nat → Nat → Int32} (hm : m < 5) (h17 : J 17 = nI m) : ∀ d i j, i + d = m → d < j → (∃ t, t < m ∧ S 19 t = a ∧ fX8_readFactNext_b90 g j a (nI i) J S = some (0, J, S)) ∨ ((∀ t, i ≤ t → t < m → S 19 t ≠ a) ∧ fX8_readFactNext_b90 g j a (nI i) J S = some (1, upd (upd J 14 (J 14 + 1)) 17 (nI (m + 1)), setA S 19 (nI m) a)) := by
  intro d
  induction d with
  | zero =>
    intro i j hi hj
    obtain ⟨j, rfl⟩ : ∃ i, j = i + 1 := ⟨j - 1, by omega⟩
    refine Or.inr ⟨fun t h1 h2 => absurd h2 (by omega), ?_⟩
    rw [fX8_readFactNext_b90, upd_no (by decide), h17, if_pos (nI_le (by omega) (by omega)), gpos (inb_nI (by omega) (by decide)), nI_1]
  | succ d ih =>
    intro i j hi hj
    obtain ⟨j, rfl⟩ : ∃ i, j = i + 1 := ⟨j - 1, by omega⟩
    rw [fX8_readFactNext_b90, if_neg (by rw [h17]; exact nI_ge (by omega) (by omega)), gpos (inb_nI (by omega) (by decide)), getA_nI (by omega)]
    by_cases e : S 19 i = a
    · rw [if_pos e]
      exact Or.inl ⟨i, by omega, e, rfl⟩
    · rw [if_neg e, nI_1]
      rcases ih (i + 1) j (by omega) (by omega) with ⟨t, t1, t2, t3⟩ | ⟨t1, t2⟩
      · exact Or.inl ⟨t, t1, t2, t3⟩
      · refine Or.inr ⟨fun t h1 h2 => ?_, t2⟩
        by_cases et : t = i
        · rw [et]; exact e
        · exact t1 t (by omega) h2
theorem p_fact {T : Nat → Int32} {F N p k m g : Nat} {I J : Nat → Int32} {R S : Nat → Nat → Int32} {P : Prog} (hN : N ≤ 60) (hF : F + N ≤ 240) (hp : p ≤ N) (hk : k ≤ 3) (hP : pOk P) (hP1 : P.1 = k + 1) (h : CT T N p I R) (h' : MT T F N p J S) (hC : RepC P 1 (I, R)) (hM : RdM P m (J, S)) (hm : m < 5) (hg : 5 < g) : (∃ p' f I' R' J' S', p' ≤ N ∧ f < 16 * P.1 ∧ P.2.2.2 f = false ∧ t0 g I R = some (I', R') ∧ fX8_readFactNext g (nI (F + N)) J S = some (1, J', S') ∧ CT T N p' I' R' ∧ MT T F N p' J' S' ∧ RepC (tog P f) 1 (I', R') ∧ RdM (tog P f) (m + 1) (J', S') ∧ (∀ i, i ≠ 53 → I' i = I i) ∧ (∀ k, k ≠ 217 → R' k = R k) ∧ (∀ i, i ≠ 14 → i ≠ 17 → J' i = J i) ∧ ∀ k, k ≠ 19 → S' k = S k) ∨ ∃ p' I' J', t0 g I R = some (I', R) ∧ fX8_readFactNext g (nI (F + N)) J S = some (0, J', S) ∧ I' 54 = 1 ∧ I' 53 = nI p' ∧ J' 14 = nI (F + p') ∧ (∀ i, i ≠ 53 → i ≠ 54 → I' i = I i) ∧ ∀ i, i ≠ 14 → J' i = J i := by
  have hI : I (118 + 100 * 1) = nI (k + 1) := by rw [← hP1]; exact hC.1
  have hJ : J 15 = nI (k + 1) := by rw [← hP1]; exact hM.1
  have hIk : I (118 + 100 * 1) - 1 = nI k := by rw [hI]; exact nI_pred k
  have hJk : J 15 - 1 = nI k := by rw [hJ]; exact nI_pred k
  unfold t0 fX8_readFactNext
  rw [hIk, hJk]
  rcases p_digit (lo := 0) (hi := k) hN hF hp (by omega) (by omega) h h' with ⟨_, hd⟩ | ⟨q, _, hq, hpn, _, hd⟩
  · obtain ⟨d1, d2⟩ := hd g g
    refine Or.inr ⟨p, upd I 54 1, J, ?_, ?_, upd_at, (upd_no (by decide)).trans h.2.1, h'.1, fun i h1 h2 => upd_no h2, fun _ _ => rfl⟩
    · rw [show fX5_digit g 0 (nI k) I R = _ from d1, bsome]
      dsimp only
      rw [show fX5_digit g 0 3 (upd I 54 1) R = _ from w_digit (lo := 0) upd_at (by decide), bsome]
      dsimp only
      rw [show fX5_digit g 0 3 (upd I 54 1) R = _ from w_digit (lo := 0) upd_at (by decide), bsome]
      dsimp only
      rw [if_neg (by rw [upd_at]; decide)]
    · rw [show fX8_digit g (nI (F + N)) 0 (nI k) J S = _ from d2, bsome, if_pos rfl]
  obtain ⟨d1, d2⟩ := hd g g
  rw [show fX5_digit g 0 (nI k) I R = _ from d1, show fX8_digit g (nI (F + N)) 0 (nI k) J S = _ from d2, bsome, bsome, if_neg (nI_n9 (by omega))]
  dsimp only
  have s1 := h.st (R' := R) (p + 1) rfl
  have s1' := h'.st (S' := S) (p + 1) rfl
  rcases p_digit (lo := 0) (hi := 3) hN hF (show p + 1 ≤ N by omega) (by decide) (by decide) s1 s1' with ⟨_, he⟩ | ⟨x, _, hx, hpn1, _, he⟩
  · obtain ⟨d3, d4⟩ := he g g
    refine Or.inr ⟨p + 1, upd (upd I 53 (nI (p + 1))) 54 1, upd J 14 (nI (F + (p + 1))), ?_, ?_, upd_at, (upd_no (by decide)).trans upd_at, upd_at, fun i h1 h2 => (upd_no h2).trans (upd_no h1), fun i hi => upd_no hi⟩
    · rw [show fX5_digit g 0 3 (upd I 53 (nI (p + 1))) R = _ from d3, bsome]
      dsimp only
      rw [show fX5_digit g 0 3 (upd (upd I 53 (nI (p + 1))) 54 1) R = _ from w_digit (lo := 0) upd_at (by decide), bsome]
      dsimp only
      rw [if_neg (by rw [upd_at]; decide)]
    · rw [show fX8_digit g (nI (F + N)) 0 3 (upd J 14 (nI (F + (p + 1)))) S = _ from d4, bsome, if_pos rfl]
  obtain ⟨d3, d4⟩ := he g g
  rw [show fX5_digit g 0 3 (upd I 53 (nI (p + 1))) R = _ from d3, show fX8_digit g (nI (F + N)) 0 3 (upd J 14 (nI (F + (p + 1)))) S = _ from d4, bsome, bsome, if_neg (nI_n9 (by omega))]
  dsimp only
  have hA : upd (upd J 14 (nI (F + (p + 1)))) 14 (nI (F + (p + 1 + 1))) 14 = nI (F + (p + 1 + 1)) := upd_at
  have s2 := s1.st (R' := R) (p + 1 + 1) rfl
  have s2' := s1'.st (S' := S) (p + 1 + 1) rfl
  have hG : p + 1 + 1 < N → getA S 4 (upd (upd J 14 (nI (F + (p + 1)))) 14 (nI (F + (p + 1 + 1))) 14) = T (p + 1 + 1) := fun z => by
    rw [hA, getA_nI (by omega)]
    exact s2'.2 _ z
  have hfI : ∀ i, i ≠ 53 → upd (upd I 53 (nI (p + 1))) 53 (nI (p + 1 + 1)) i = I i := fun i hi => (upd_no hi).trans (upd_no hi)
  have hfJ : ∀ i, i ≠ 14 → upd (upd J 14 (nI (F + (p + 1)))) 14 (nI (F + (p + 1 + 1))) i = J i := fun i hi => (upd_no hi).trans (upd_no hi)
  rcases p_digit (lo := 0) (hi := 3) hN hF (show p + 1 + 1 ≤ N by omega) (by decide) (by decide) s2 s2' with ⟨hno, hf⟩ | ⟨y, _, hy, hpn2, hT, hf⟩
  · obtain ⟨d5, _⟩ := hf g g
    refine Or.inr ⟨p + 1 + 1, upd (upd (upd I 53 (nI (p + 1))) 53 (nI (p + 1 + 1))) 54 1, upd (upd J 14 (nI (F + (p + 1)))) 14 (nI (F + (p + 1 + 1))), ?_, ?_, upd_at, (upd_no (by decide)).trans upd_at, upd_at, fun i h1 h2 => (upd_no h2).trans (hfI i h1), hfJ⟩
    · rw [show fX5_digit g 0 3 (upd (upd I 53 (nI (p + 1))) 53 (nI (p + 1 + 1))) R = _ from d5, bsome]
      dsimp only
      rw [if_neg (by rw [upd_at]; decide)]
    · by_cases hpn2 : p + 1 + 1 < N
      · rw [if_neg (show ¬ nI (F + N) ≤ upd (upd J 14 (nI (F + (p + 1)))) 14 (nI (F + (p + 1 + 1))) 14 by rw [hA]; exact nI_ge (by omega) (by omega)), gpos (show inb (upd (upd J 14 (nI (F + (p + 1)))) 14 (nI (F + (p + 1 + 1))) 14) 240 = true by rw [hA]; exact inb_nI (by omega) (by decide)), hG hpn2, show fX8_within g (T (p + 1 + 1)) 48 51 = some 0 from w_no (lo := 0) (hi := 3) (by decide) (by decide) (fun x h1 h2 z => hno x h1 h2 ⟨hpn2, z⟩), bsome, i0]
      · rw [if_pos (show nI (F + N) ≤ upd (upd J 14 (nI (F + (p + 1)))) 14 (nI (F + (p + 1 + 1))) 14 by rw [hA]; exact nI_le (by omega) (by omega))]
  obtain ⟨d5, _⟩ := hf g g
  have hb : inb (nI q) 4 = true := inb_nI (by omega) (by decide)
  have e4 : (4 * nI x) + nI y = nI (4 * x + y) := by rw [x4, nI_add]
  have ef : (((16 * nI q) + (4 * nI x)) + nI (48 + y)) - 48 = nI (16 * q + 4 * x + y) := by
    rw [x16, x4, nI_add, nI_add, show (48 : Int32) = nI 48 from rfl, pk_sub (by omega)]
    congr 1
    omega
  have hbit := hC.2.2.2 q (by omega) (4 * x + y)
  rw [show decide (4 * x + y < 16) = true from decide_eq_true (by omega), Bool.true_and, show 16 * q + (4 * x + y) = 16 * q + 4 * x + y by omega] at hbit
  have hbit : bit (R (117 + 100 * 1) q) (4 * x + y) = P.2.2.2 (16 * q + 4 * x + y) := hbit
  rw [show fX5_digit g 0 3 (upd (upd I 53 (nI (p + 1))) 53 (nI (p + 1 + 1))) R = _ from d5, bsome, if_neg (show ¬ nI (F + N) ≤ upd (upd J 14 (nI (F + (p + 1)))) 14 (nI (F + (p + 1 + 1))) 14 by rw [hA]; exact nI_ge (by omega) (by omega)), gpos (show inb (upd (upd J 14 (nI (F + (p + 1)))) 14 (nI (F + (p + 1 + 1))) 14) 240 = true by rw [hA]; exact inb_nI (by omega) (by decide)), hG hpn2, hT, show fX8_within g (nI (48 + y)) 48 51 = some 1 from within_in (lo := 48) (hi := 51) (by omega) (by omega) (by decide), bsome, i1, gpos (show inb (upd (upd J 14 (nI (F + (p + 1)))) 14 (nI (F + (p + 1 + 1))) 14) 240 = true by rw [hA]; exact inb_nI (by omega) (by decide)), ef]
  dsimp only
  rw [if_pos (show upd (upd (upd I 53 (nI (p + 1))) 53 (nI (p + 1 + 1))) 53 (nI (p + 1 + 1 + 1)) 54 = 0 by rw [upd_no (by decide)]; exact s2.2.2.1), gpos hb, getA_nI (show q < 2 ^ 31 by omega), e4]
  have h17 : upd (upd J 14 (nI (F + (p + 1)))) 14 (nI (F + (p + 1 + 1))) 17 = nI m := (hfJ 17 (by decide)).trans hM.2.2.1
  cases ht : P.2.2.2 (16 * q + 4 * x + y) with
  | true =>
    -- told ahead
    rw [if_neg (fun z => by rw [bit_has (by omega), hbit, ht] at z; exact absurd z (by decide))]
    refine Or.inr ⟨p + 1 + 1, _, _, rfl, ?_, upd_at, ?_, upd_at, fun i h1 h2 => ?_, hfJ⟩
    · rcases m90 (g := g) (a := nI (16 * q + 4 * x + y)) (S := S) hm h17 m 0 g (by omega) (by omega) with ⟨t, _, _, t3⟩ | ⟨t1, _⟩
      · exact t3
      · obtain ⟨i, i1, i2⟩ := (hM.2.2.2.2.2.2.2 _ (by omega)).mp ht
        exact absurd i2 (t1 i (by omega) i1)
    · rw [upd_no (by decide), upd_at, upd_at, show nI (p + 1 + 1 + 1) - 1 = nI (p + 1 + 1) from nI_pred _]
    · rw [upd_no h2, upd_no h1, upd_no h1]; exact hfI i h1
  | false =>
    rw [if_pos ((bit_has (by omega)).mpr (hbit.trans ht)), gpos hb, gpos hb]
    rcases m90 (g := g) (a := nI (16 * q + 4 * x + y)) (S := S) hm h17 m 0 g (by omega) (by omega) with ⟨t, t1, t2, _⟩ | ⟨t1, t2⟩
    · have := (hM.2.2.2.2.2.2.2 (16 * q + 4 * x + y) (by omega)).mpr ⟨t, t1, t2⟩
      rw [ht] at this
      exact absurd this (by decide)
    rw [upd_at, nI_1, show F + (p + 1 + 1) + 1 = F + (p + 1 + 1 + 1) from rfl] at t2
    refine Or.inl ⟨p + 1 + 1 + 1, 16 * q + 4 * x + y, _, _, _, _, by omega, by omega, ht, rfl, t2, s2.st (p + 1 + 1 + 1) (setA_ne (by decide)), ⟨?_, fun i hi => ?_⟩, ⟨?_, ?_, fun kk hkk r hr => ?_, fun q' hq' i => ?_⟩, ⟨?_, ?_, ?_, by omega, fun r hr kk hkk => ?_, fun r hr => ?_, fun i hi => ?_, fun f' hf' => ?_⟩, fun i hi => (upd_no hi).trans (hfI i hi), fun k hk => setA_ne hk, fun i h1 h2 => ?_, fun k hk => setA_ne hk⟩
    · rw [upd_no (by decide)]; exact upd_at
    · rw [setA_ne (by decide)]; exact h'.2 i hi
    · dsimp only; rw [upd_no (by decide)]; exact (hfI 218 (by decide)).trans hC.1
    · dsimp only; rw [upd_no (by decide)]; exact (hfI 219 (by decide)).trans hC.2.1
    · show setA R (117 + 100 * 1) (nI q) _ (111 + kk + 100 * 1) r = _
      rw [setA_ne (by omega)]
      exact hC.2.2.1 kk hkk r hr
    · show bit (setA R (117 + 100 * 1) (nI q) _ (117 + 100 * 1) q') i = (decide (i < 16) && if 16 * q' + i = 16 * q + 4 * x + y then !P.2.2.2 (16 * q' + i) else P.2.2.2 (16 * q' + i))
      have hCq : bit (R (117 + 100 * 1) q') i = (decide (i < 16) && P.2.2.2 (16 * q' + i)) := hC.2.2.2 q' hq' i
      rw [setA_at (by omega)]
      by_cases eq : q' = q
      · subst eq
        rw [if_pos rfl, bit_or, bit_1shl (by omega), hCq]
        by_cases ei : i = 4 * x + y
        · subst ei
          rw [if_pos (by omega), show 16 * q' + (4 * x + y) = 16 * q' + 4 * x + y by omega, ht, decide_eq_true (show 4 * x + y < 16 by omega), decide_eq_true (rfl : 4 * x + y = 4 * x + y)]
          rfl
        · rw [decide_eq_false ei, Bool.or_false, if_neg (by omega)]
      · rw [if_neg eq, hCq]
        by_cases ei : i < 16
        · rw [if_neg (by omega)]
        · rw [decide_eq_false ei, Bool.false_and, Bool.false_and]
    · dsimp only; rw [upd_no (by decide), upd_no (by decide)]; exact (hfJ 15 (by decide)).trans hM.1
    · dsimp only; rw [upd_no (by decide), upd_no (by decide)]; exact (hfJ 16 (by decide)).trans hM.2.1
    · dsimp only; exact upd_at
    · dsimp only
      rw [setA_ne (by decide)]
      exact hM.2.2.2.2.1 r hr kk hkk
    · dsimp only
      rw [setA_ne (by decide)]
      exact hM.2.2.2.2.2.1 r hr
    · show ∃ f, f < 16 * P.1 ∧ setA S 19 (nI m) (nI (16 * q + 4 * x + y)) 19 i = nI f
      rw [setA_at (by omega)]
      by_cases e : i = m
      · rw [if_pos e]; exact ⟨_, by omega, rfl⟩
      · rw [if_neg e]; exact hM.2.2.2.2.2.2.1 i (by omega)
    · show ((if f' = 16 * q + 4 * x + y then !P.2.2.2 f' else P.2.2.2 f') = true ↔ ∃ i, i < m + 1 ∧ setA S 19 (nI m) (nI (16 * q + 4 * x + y)) 19 i = nI f')
      by_cases e : f' = 16 * q + 4 * x + y
      · rw [if_pos e, e, ht]
        exact ⟨fun _ => ⟨m, by omega, by rw [setA_at (by omega), if_pos rfl]⟩, fun _ => rfl⟩
      · rw [if_neg e, hM.2.2.2.2.2.2.2 f' hf']
        constructor
        · rintro ⟨i, z1, z2⟩
          exact ⟨i, by omega, by rw [setA_at (by omega), if_neg (by omega)]; exact z2⟩
        · rintro ⟨i, z1, z2⟩
          rw [setA_at (by omega)] at z2
          by_cases ei : i = m
          · rw [if_pos ei] at z2
            exact absurd ((nI_eq (by omega) (by omega)).mp z2).symm e
          · rw [if_neg ei] at z2
            exact ⟨i, by omega, z2⟩
    · rw [upd_no h2, upd_no h1]; exact hfJ i h1
