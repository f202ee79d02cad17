/-! a rule, from its kind on -/
theorem RuNo.up {F : Nat} {I J I1 J1 I' J' : Nat → Int32} {R S R1 S1 R' S' : Nat → Nat → Int32} (h : RuNo F I1 R1 J1 S1 I' R' J' S') (h1 : ∀ i, i ≠ 53 → I1 i = I i) (h2 : ∀ k, (k < 211 ∨ 216 < k) → R1 k = R k) (h3 : ∀ i, i ≠ 14 → J1 i = J i) (h4 : ∀ k, k ≠ 18 → S1 k = S k) : RuNo F I R J S I' R' J' S' := by
  obtain ⟨p, a, b, c, d, e, f, g⟩ := h
  exact ⟨p, a, b, c, fun i x y z => (d i x y z).trans (h1 i x), fun k hk => (e k hk).trans (h2 k hk), fun i hi => (f i hi).trans (h3 i hi), fun k hk => (g k hk).trans (h4 k hk)⟩
theorem kc1 : kCh 1 (nI 0) = 112 ∧ kCh 1 (nI 1) = 98 ∧ kCh 1 (nI 2) = 119 := by decide +kernel
theorem kc2 : kCh 2 (nI 0) = 99 ∧ kCh 2 (nI 1) = 116 ∧ kCh 2 (nI 2) = 106 ∧ kCh 2 (nI 3) = 110 := by decide +kernel
theorem kc0 : kCh 0 (nI 0) = 100 := by decide +kernel
theorem m21 {g m : Nat} {E a2 : Int32} {J : Nat → Int32} {S : Nat → Nat → Int32} (hm : m < 3) : fX8_readRule_b21 g E a2 (kCh 1 (nI m)) J S = fX8_readRule_b59 g E a2 (nI m) a2 J S := by
  unfold fX8_readRule_b21
  match m, hm with
  | 0, _ => rw [kc1.1, if_pos rfl]; rfl
  | 1, _ => rw [kc1.2.1, if_neg (by decide), if_pos rfl]; rfl
  | 2, _ => rw [kc1.2.2, if_neg (by decide), if_neg (by decide), if_pos rfl]; rfl
theorem m21n {g : Nat} {E a2 t : Int32} {J : Nat → Int32} {S : Nat → Nat → Int32} (h1 : t ≠ 112) (h2 : t ≠ 98) (h3 : t ≠ 119) : fX8_readRule_b21 g E a2 t J S = fX8_readRule_b59 g E a2 (-9) a2 J S := by
  unfold fX8_readRule_b21
  rw [if_neg h1, if_neg h2, if_neg h3]
theorem m135 {g m : Nat} {E a2 : Int32} {J : Nat → Int32} {S : Nat → Nat → Int32} (hm : m < 4) : fX8_readRule_b135 g E a2 (kCh 2 (nI m)) J S = fX8_readRule_b185 g E a2 (nI m) (a2 + 2) J S := by
  unfold fX8_readRule_b135
  match m, hm with
  | 0, _ => rw [kc2.1, if_pos rfl]; rfl
  | 1, _ => rw [kc2.2.1, if_neg (by decide), if_pos rfl]; rfl
  | 2, _ => rw [kc2.2.2.1, if_neg (by decide), if_neg (by decide), if_pos rfl]; rfl
  | 3, _ => rw [kc2.2.2.2, if_neg (by decide), if_neg (by decide), if_neg (by decide), if_pos rfl]; rfl
theorem m135n {g : Nat} {E a2 t : Int32} {J : Nat → Int32} {S : Nat → Nat → Int32} (h1 : t ≠ 99) (h2 : t ≠ 116) (h3 : t ≠ 106) (h4 : t ≠ 110) : fX8_readRule_b135 g E a2 t J S = fX8_readRule_b185 g E a2 (-9) (a2 + 2) J S := by
  unfold fX8_readRule_b135
  rw [if_neg h1, if_neg h2, if_neg h3, if_neg h4]
theorem p_rule {T : Nat → Int32} {F N p r k g : Nat} {I J : Nat → Int32} {R S : Nat → Nat → Int32} (hN : N ≤ 60) (hF : F + N ≤ 240) (hp : p ≤ N) (hk : k ≤ 3) (hr : r < 5) (h : CT T N p I R) (h' : MT T F N p J S) (hI : I 218 = nI (k + 1)) (hJ : J 15 = nI (k + 1)) (hg : 5 < g) : (∃ p' x I' R' J' S', (x 0 < 3 ∧ 1 ≤ x 1 ∧ x 1 ≤ 9 ∧ x 2 < 4 ∧ x 3 ≤ k ∧ x 4 ≤ k ∧ x 5 ≤ k ∧ (x 2 < 2 → x 5 = 0)) ∧ q0 g (nI r) I R = some (I', R') ∧ fX8_readRule g (nI (F + N)) (nI (6 * r)) J S = some (1, J', S') ∧ RuOk T F N p' r 0 x I R J S I' R' J' S') ∨ ∃ I' R' J' S', q0 g (nI r) I R = some (I', R') ∧ fX8_readRule g (nI (F + N)) (nI (6 * r)) J S = some (0, J', S') ∧ RuNo F I R J S I' R' J' S' := by
  have hb : inb (nI r) 5 = true := inb_nI hr (by decide)
  have hb0 : inb (nI (6 * r)) 30 = true := inb_nI (by omega) (by decide)
  have hb1 : inb (nI (6 * r + 1)) 30 = true := inb_nI (by omega) (by decide)
  have hb2 : inb (nI (6 * r + 2)) 30 = true := inb_nI (by omega) (by decide)
  have e61 : nI (6 * r) + 1 = nI (6 * r + 1) := nI_add _ 1
  have e62 : nI (6 * r) + 2 = nI (6 * r + 2) := nI_add _ 2
  unfold q0
  rcases p_letter (t := 1) (len := 3) kL1 rfl (by decide) hN h hp hg with ⟨a, ha, hpn, hT, hl⟩ | ⟨hno, hl⟩
  rotate_left
  · -- no kind
    refine Or.inr ?_
    rw [hl, bsome, gpos hb]
    dsimp only
    obtain ⟨R', a1, a2⟩ := w_q1 (g := g) (R := setA R (111 + 100 * 1) (nI r) 0) (I := upd I 54 1) upd_at hr hg
    have b59 : fX8_readRule_b59 g (nI (F + N)) (nI (6 * r)) (-9) (nI (6 * r)) J S = some (0, J, setA S 18 (nI (6 * r)) (-9)) := by
      unfold fX8_readRule_b59
      rw [gpos hb0, gpos hb0, getA_nI (by omega), setA_at (by omega), if_pos rfl, if_pos rfl]
    have hm : fX8_readRule g (nI (F + N)) (nI (6 * r)) J S = some (0, J, setA S 18 (nI (6 * r)) (-9)) := by
      unfold fX8_readRule
      rw [h'.1]
      by_cases hpn : p < N
      · rw [if_neg (nI_ge (by omega) (by omega)), gpos (inb_nI (by omega) (by decide)), getA_nI (by omega), h'.2 p hpn, m21n (fun z => hno 0 (by decide) ⟨hpn, by rw [kc1.1]; exact z⟩) (fun z => hno 1 (by decide) ⟨hpn, by rw [kc1.2.1]; exact z⟩) (fun z => hno 2 (by decide) ⟨hpn, by rw [kc1.2.2]; exact z⟩)]
        exact b59
      · rw [if_pos (nI_le (by omega) (by omega)), m21n (by decide) (by decide) (by decide)]
        exact b59
    refine ⟨_, _, _, _, a1, hm, p, ?_, ?_, h'.1, fun i h1 h2 h3 => ?_, fun k hk => (a2 k hk).trans (setA_ne (by omega)), fun i _ => rfl, fun k hk => setA_ne hk⟩
    · rw [upd_no (by decide)]; exact upd_at
    · rw [upd_no (by decide), upd_no (by decide)]; exact h.2.1
    · rw [upd_no h3, upd_no h2]
  rw [hl, bsome, gpos hb]
  dsimp only
  have hm0 : fX8_readRule g (nI (F + N)) (nI (6 * r)) J S = fX8_readRule_b59 g (nI (F + N)) (nI (6 * r)) (nI a) (nI (6 * r)) J S := by
    unfold fX8_readRule
    rw [h'.1, if_neg (nI_ge (by omega) (by omega)), gpos (inb_nI (by omega) (by decide)), getA_nI (by omega), h'.2 p hpn, hT, m21 ha]
  rw [hm0]
  unfold fX8_readRule_b59
  rw [gpos hb0, gpos hb0, getA_nI (by omega), setA_at (by omega), if_pos rfl, if_neg (nI_n9 (by omega)), h'.1, nI_1, Nat.add_assoc, e61]
  have s1 := h.st (R' := setA R (111 + 100 * 1) (nI r) (nI a)) (p + 1) (setA_ne (by decide))
  have s1' := h'.st (S' := setA S 18 (nI (6 * r)) (nI a)) (p + 1) (setA_ne (by decide))
  unfold q1
  rcases p_digit (lo := 1) (hi := 9) hN hF (show p + 1 ≤ N by omega) (by decide) (by decide) s1 s1' with ⟨_, hd⟩ | ⟨b, hb1', hb9, hpn1, _, hd⟩
  · -- no price
    obtain ⟨d1, d2⟩ := hd g g
    refine Or.inr ?_
    rw [show fX5_digit g 1 9 _ _ = _ from d1, show fX8_digit g (nI (F + N)) 1 9 _ _ = _ from d2, bsome, bsome, gpos hb, gpos hb1, gpos hb1]
    dsimp only
    rw [getA_nI (by omega), setA_at (by omega), if_pos rfl, if_pos rfl]
    obtain ⟨R', a1, a2⟩ := w_q2 (g := g) (R := setA (setA R (111 + 100 * 1) (nI r) (nI a)) (112 + 100 * 1) (nI r) 0) (I := upd (upd I 53 (nI (p + 1))) 54 1) upd_at hr hg
    refine ⟨_, _, _, _, a1, rfl, p + 1, ?_, ?_, upd_at, fun i h1 h2 h3 => ?_, fun k hk => (a2 k hk).trans ((setA_ne (by omega)).trans (setA_ne (by omega))), fun i hi => upd_no hi, fun k hk => (setA_ne hk).trans (setA_ne hk)⟩
    · rw [upd_no (by decide)]; exact upd_at
    · rw [upd_no (by decide), upd_no (by decide)]; exact upd_at
    · rw [upd_no h3, upd_no h2, upd_no h1]
  obtain ⟨d1, d2⟩ := hd g g
  rw [show fX5_digit g 1 9 _ _ = _ from d1, show fX8_digit g (nI (F + N)) 1 9 _ _ = _ from d2, bsome, bsome, gpos hb, gpos hb1, gpos hb1]
  dsimp only
  rw [getA_nI (by omega), setA_at (by omega), if_pos rfl, if_neg (nI_n9 (by omega))]
  have hA : upd (upd J 14 (nI (F + (p + 1)))) 14 (nI (F + (p + 1 + 1))) 14 = nI (F + (p + 1 + 1)) := upd_at
  have s2 := s1.st (R' := setA (setA R (111 + 100 * 1) (nI r) (nI a)) (112 + 100 * 1) (nI r) (nI b)) (p + 1 + 1) (setA_ne (by decide))
  have s2' := s1'.st (S' := setA (setA S 18 (nI (6 * r)) (nI a)) 18 (nI (6 * r + 1)) (nI b)) (p + 1 + 1) (setA_ne (by decide))
  unfold q2
  rcases p_letter (t := 2) (len := 4) kL2 rfl (by decide) hN s2 (show p + 1 + 1 ≤ N by omega) hg with ⟨f, hf, hpn2, hT2, hl2⟩ | ⟨hno, hl2⟩
  rotate_left
  · -- no form
    refine Or.inr ?_
    rw [hl2, bsome, gpos hb]
    dsimp only
    obtain ⟨R', a1, a2⟩ := w_q3 (g := g) (R := setA (setA (setA R (111 + 100 * 1) (nI r) (nI a)) (112 + 100 * 1) (nI r) (nI b)) (113 + 100 * 1) (nI r) 0) (I := upd (upd (upd I 53 (nI (p + 1))) 53 (nI (p + 1 + 1))) 54 1) upd_at hr
    have b185 : ∀ (J1 : Nat → Int32) (S1 : Nat → Nat → Int32), fX8_readRule_b185 g (nI (F + N)) (nI (6 * r)) (-9) (nI (6 * r) + 2) J1 S1 = some (0, J1, setA S1 18 (nI (6 * r + 2)) (-9)) := by
      intro J1 S1
      unfold fX8_readRule_b185
      rw [e62, gpos hb2, gpos hb2, getA_nI (by omega), setA_at (by omega), if_pos rfl, if_pos rfl]
    have hm : (if nI (F + N) ≤ nI (F + (p + 1 + 1)) then fX8_readRule_b135 g (nI (F + N)) (nI (6 * r)) 0 (upd (upd J 14 (nI (F + (p + 1)))) 14 (nI (F + (p + 1 + 1)))) (setA (setA S 18 (nI (6 * r)) (nI a)) 18 (nI (6 * r + 1)) (nI b)) else if inb (nI (F + (p + 1 + 1))) 240 = true then fX8_readRule_b135 g (nI (F + N)) (nI (6 * r)) (getA (setA (setA S 18 (nI (6 * r)) (nI a)) 18 (nI (6 * r + 1)) (nI b)) 4 (nI (F + (p + 1 + 1)))) (upd (upd J 14 (nI (F + (p + 1)))) 14 (nI (F + (p + 1 + 1)))) (setA (setA S 18 (nI (6 * r)) (nI a)) 18 (nI (6 * r + 1)) (nI b)) else none) = some (0, upd (upd J 14 (nI (F + (p + 1)))) 14 (nI (F + (p + 1 + 1))), setA (setA (setA S 18 (nI (6 * r)) (nI a)) 18 (nI (6 * r + 1)) (nI b)) 18 (nI (6 * r + 2)) (-9)) := by
      by_cases hpn : p + 1 + 1 < N
      · rw [if_neg (nI_ge (by omega) (by omega)), gpos (inb_nI (by omega) (by decide)), getA_nI (by omega), s2'.2 _ hpn, m135n (fun z => hno 0 (by decide) ⟨hpn, by rw [kc2.1]; exact z⟩) (fun z => hno 1 (by decide) ⟨hpn, by rw [kc2.2.1]; exact z⟩) (fun z => hno 2 (by decide) ⟨hpn, by rw [kc2.2.2.1]; exact z⟩) (fun z => hno 3 (by decide) ⟨hpn, by rw [kc2.2.2.2]; exact z⟩)]
        exact b185 _ _
      · rw [if_pos (nI_le (by omega) (by omega)), m135n (by decide) (by decide) (by decide) (by decide)]
        exact b185 _ _
    refine ⟨_, _, _, _, a1, hm, p + 1 + 1, ?_, ?_, upd_at, fun i h1 h2 h3 => ?_, fun k hk => (a2 k hk).trans ((setA_ne (by omega)).trans ((setA_ne (by omega)).trans (setA_ne (by omega)))), fun i hi => (upd_no hi).trans (upd_no hi), fun k hk => (setA_ne hk).trans ((setA_ne hk).trans (setA_ne hk))⟩
    · rw [upd_no (by decide)]; exact upd_at
    · rw [upd_no (by decide), upd_no (by decide)]; exact upd_at
    · rw [upd_no h3, upd_no h2, upd_no h1, upd_no h1]
  rw [hl2, bsome, gpos hb, if_neg (show ¬ nI (F + N) ≤ upd (upd J 14 (nI (F + (p + 1)))) 14 (nI (F + (p + 1 + 1))) 14 by rw [hA]; exact nI_ge (by omega) (by omega)), gpos (show inb (upd (upd J 14 (nI (F + (p + 1)))) 14 (nI (F + (p + 1 + 1))) 14) 240 = true by rw [hA]; exact inb_nI (by omega) (by decide)), hA, getA_nI (show F + (p + 1 + 1) < 2 ^ 31 by omega), s2'.2 _ hpn2, hT2, m135 hf]
  dsimp only
  unfold fX8_readRule_b185
  rw [e62, gpos hb2, gpos hb2, getA_nI (by omega), setA_at (by omega), if_pos rfl, if_neg (nI_n9 (by omega)), gpos hb2, upd_at, nI_1, Nat.add_assoc F]
  have s3 := s2.st (R' := setA (setA (setA R (111 + 100 * 1) (nI r) (nI a)) (112 + 100 * 1) (nI r) (nI b)) (113 + 100 * 1) (nI r) (nI f)) (p + 1 + 1 + 1) (setA_ne (by decide))
  have s3' := s2'.st (S' := setA (setA (setA S 18 (nI (6 * r)) (nI a)) 18 (nI (6 * r + 1)) (nI b)) 18 (nI (6 * r + 2)) (nI f)) (p + 1 + 1 + 1) (setA_ne (by decide))
  have hpick : ∀ (J1 : Nat → Int32) (S1 : Nat → Nat → Int32), (if 2 ≤ nI f then fX8_readRule_b228 g (nI (F + N)) (nI (6 * r)) 3 J1 S1 else fX8_readRule_b228 g (nI (F + N)) (nI (6 * r)) 2 J1 S1) = fX8_readRule_b228 g (nI (F + N)) (nI (6 * r)) (nI (if f < 2 then 2 else 3)) J1 S1 := by
    intro J1 S1
    by_cases e : f < 2
    · rw [if_neg (show ¬ (2 : Int32) ≤ nI f from nI_ge (b := 2) e (by decide)), if_pos e]; rfl
    · rw [if_pos (show (2 : Int32) ≤ nI f from nI_le (a := 2) (by omega) (by omega)), if_neg e]; rfl
  rw [hpick]
  have f1 : ∀ i, i ≠ 53 → upd (upd (upd I 53 (nI (p + 1))) 53 (nI (p + 1 + 1))) 53 (nI (p + 1 + 1 + 1)) i = I i := fun i hi => by rw [upd_no hi, upd_no hi, upd_no hi]
  have f3 : ∀ i, i ≠ 14 → upd (upd (upd J 14 (nI (F + (p + 1)))) 14 (nI (F + (p + 1 + 1)))) 14 (nI (F + (p + 1 + 1 + 1))) i = J i := fun i hi => by rw [upd_no hi, upd_no hi, upd_no hi]
  rcases p_q3 (r := r) (k := k) (f := f) (g := g) hN hF (show p + 1 + 1 + 1 ≤ N by omega) hk hr hf s3 s3' ((f1 218 (by decide)).trans hI) ((f3 15 (by decide)).trans hJ) (by rw [setA_at (by omega), if_pos rfl]) hg with ⟨p', d, e, o, I', R', J', S', z1, z2, z3, z4, z5, z6, y1, y2, y3, y4, y5, y6, y7, y8⟩ | ⟨I', R', J', S', z5, z6, z7⟩
  · refine Or.inl ⟨p', xR a b f d e o, I', R', J', S', ⟨ha, hb1', hb9, hf, z1, z2, z3, z4⟩, z5, z6, y1, y2, y3, fun i h1 h2 => (y4 i h1 h2).trans (f1 i h1), y5, fun k t => ?_, fun i hi => (y7 i hi).trans (f3 i hi), fun k t => ?_⟩
    · rw [y6, setA_v (by omega), setA_v (by omega), setA_v (by omega)]
      by_cases et : t = r
      · by_cases k1 : k = 211
        · subst k1; rw [if_neg (by omega), if_neg (by omega), if_neg (by omega), if_pos ⟨rfl, et⟩, if_pos (by omega)]; rfl
        by_cases k2 : k = 212
        · subst k2; rw [if_neg (by omega), if_neg (by omega), if_pos ⟨rfl, et⟩, if_pos (by omega)]; rfl
        by_cases k3 : k = 213
        · subst k3; rw [if_neg (by omega), if_pos ⟨rfl, et⟩, if_pos (by omega)]; rfl
        by_cases k4 : k = 214
        · subst k4; rw [if_pos (by omega), if_pos (by omega)]; rfl
        by_cases k5 : k = 215
        · subst k5; rw [if_pos (by omega), if_pos (by omega)]; rfl
        by_cases k6 : k = 216
        · subst k6; rw [if_pos (by omega), if_pos (by omega)]; rfl
        rw [if_neg (by omega), if_neg (by omega), if_neg (by omega), if_neg (by omega), if_neg (by omega)]
      · rw [if_neg (by omega), if_neg (by omega), if_neg (by omega), if_neg (by omega), if_neg (by omega)]
    · rw [y8, setA_v (by omega), setA_v (by omega), setA_v (by omega)]
      show (if _ then (if t = 6 * r + 5 ∧ f < 2 then _ else _) else _) = if _ then (if t = 6 * r + 5 ∧ f < 2 then _ else _) else _
      by_cases ek : k = 18
      · by_cases k0 : t = 6 * r
        · subst k0; rw [if_neg (by omega), if_neg (by omega), if_neg (by omega), if_pos (by omega), if_pos (by omega), if_neg (by omega), show 6 * r - 6 * r = 0 by omega]; rfl
        by_cases k1 : t = 6 * r + 1
        · subst k1; rw [if_neg (by omega), if_neg (by omega), if_pos (by omega), if_pos (by omega), if_neg (by omega), show 6 * r + 1 - 6 * r = 1 by omega]; rfl
        by_cases k2 : t = 6 * r + 2
        · subst k2; rw [if_neg (by omega), if_pos (by omega), if_pos (by omega), if_neg (by omega), show 6 * r + 2 - 6 * r = 2 by omega]; rfl
        by_cases k3 : t = 6 * r + 3
        · subst k3; rw [if_pos (by omega), if_neg (by omega), if_pos (by omega), if_neg (by omega), show 6 * r + 3 - 6 * r = 3 by omega]; rfl
        by_cases k4 : t = 6 * r + 4
        · subst k4; rw [if_pos (by omega), if_neg (by omega), if_pos (by omega), if_neg (by omega), show 6 * r + 4 - 6 * r = 4 by omega]; rfl
        by_cases k5 : t = 6 * r + 5
        · subst k5
          by_cases e2 : f < 2
          · rw [if_pos (by omega), if_pos ⟨rfl, e2⟩, if_pos (by omega), if_pos ⟨rfl, e2⟩]
          · rw [if_pos (by omega), if_neg (fun z => e2 z.2), if_pos (by omega), if_neg (fun z => e2 z.2), show 6 * r + 5 - 6 * r = 5 by omega]; rfl
        rw [if_neg (by omega), if_neg (by omega), if_neg (by omega), if_neg (by omega), if_neg (by omega)]
      · rw [if_neg (by omega), if_neg (by omega), if_neg (by omega), if_neg (by omega), if_neg (by omega)]
  · exact Or.inr ⟨I', R', J', S', z5, z6, z7.up f1 (fun k hk => (setA_ne (by omega)).trans ((setA_ne (by omega)).trans (setA_ne (by omega)))) f3 (fun k hk => (setA_ne hk).trans ((setA_ne hk).trans (setA_ne hk)))⟩
