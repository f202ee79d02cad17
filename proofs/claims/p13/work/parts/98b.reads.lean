/-! all of a text -/
def FrT (u u' : mSt) : Prop := (∀ i, (i < 52 ∨ (54 < i ∧ i < 200) ∨ 300 ≤ i) → u'.1 i = u.1 i) ∧ ∀ k, (k < 51 ∨ (51 < k ∧ k < 200) ∨ 300 ≤ k) → u'.2 k = u.2 k
def FrV (v v' : mSt) : Prop := (∀ i, (i < 14 ∨ 17 < i) → v'.1 i = v.1 i) ∧ ∀ k, (k ≠ 18 ∧ k ≠ 19) → v'.2 k = v.2 k
theorem FrT.trans {u u' u'' : mSt} (h : FrT u u') (h' : FrT u' u'') : FrT u u'' := ⟨fun k hk => (h'.1 k hk).trans (h.1 k hk), fun k hk => (h'.2 k hk).trans (h.2 k hk)⟩
theorem FrV.trans {u u' u'' : mSt} (h : FrV u u') (h' : FrV u' u'') : FrV u u'' := ⟨fun k hk => (h'.1 k hk).trans (h.1 k hk), fun k hk => (h'.2 k hk).trans (h.2 k hk)⟩
def RdRes (F : Nat) (u v : mSt) (c d : Option (Int32 × mSt)) : Prop := (∃ P m u' v', pOk P ∧ 1 ≤ P.1 ∧ c = some (1, u') ∧ d = some (1, v') ∧ RepC P 1 u' ∧ RdM P m v' ∧ FrT u u' ∧ FrV v v') ∨ ∃ p u' v', c = some (0, u') ∧ d = some (0, v') ∧ u'.1 53 = nI p ∧ v'.1 14 = nI (F + p) ∧ FrT u u' ∧ FrV v v'
theorem RdRes.up {F : Nat} {u v u1 v1 : mSt} {c d : Option (Int32 × mSt)} (h : RdRes F u1 v1 c d) (h1 : FrT u u1) (h2 : FrV v v1) : RdRes F u v c d := by
  rcases h with ⟨P, m, u', v', a, b, c, d, e, f, g, i⟩ | ⟨p, u', v', a, b, c, d, g, i⟩
  · exact Or.inl ⟨P, m, u', v', a, b, c, d, e, f, h1.trans g, h2.trans i⟩
  · exact Or.inr ⟨p, u', v', a, b, c, d, h1.trans g, h2.trans i⟩
theorem FrT.refl {u : mSt} : FrT u u := ⟨fun _ _ => rfl, fun _ _ => rfl⟩
theorem FrV.refl {u : mSt} : FrV u u := ⟨fun _ _ => rfl, fun _ _ => rfl⟩
theorem w_b85 {g s j : Nat} {a : Int32} {I : Nat → Int32} {R : Nat → Nat → Int32} (h : I 54 = 1) : fX5_reads_b85 g s 1 (j + 1) a I R = some (0, I, R) := by
  have h112 : fX5_reads_b112 g s 1 I R = some (0, I, R) := by
    unfold fX5_reads_b112
    rw [if_neg (by rw [h]; decide)]
  rw [fX5_reads_b85]
  by_cases e : 5 ≤ a
  · rw [if_pos e]; exact h112
  · rw [if_neg e, w_next h, bsome]
    exact i0.trans h112
theorem w_b55 {g s j : Nat} {a : Int32} {I : Nat → Int32} {R : Nat → Nat → Int32} (h : I 54 = 1) (hg : 0 < g) : fX5_reads_b55 g s 1 (j + 1) a I R = some (0, I, R) := by
  obtain ⟨g', rfl⟩ : ∃ i, g = i + 1 := ⟨g - 1, by omega⟩
  have h82 : fX5_reads_b82 (g' + 1) s 1 I R = some (0, I, R) := by
    unfold fX5_reads_b82
    exact w_b85 h
  rw [fX5_reads_b55]
  by_cases e : 5 ≤ a
  · rw [if_pos e]; exact h82
  · rw [if_neg e, w_next h, bsome]
    exact i0.trans h82
theorem e_sign {F N p g : Nat} {T : Nat → Int32} {J : Nat → Int32} {S : Nat → Nat → Int32} (hF : F + N ≤ 240) (hp : p ≤ N) (h' : MT T F N p J S) (c : Int32) : (p < N ∧ T p = c ∧ fX8_isSign g (nI (F + N)) c J S = some (1, upd J 14 (nI (F + (p + 1))), S)) ∨ (¬ (p < N ∧ T p = c) ∧ fX8_isSign g (nI (F + N)) c J S = some (0, J, S)) := by
  unfold fX8_isSign
  rw [h'.1]
  by_cases hpn : p < N
  · rw [if_neg (nI_ge (by omega) (by omega)), gpos (inb_nI (by omega) (by decide)), getA_nI (by omega), h'.2 p hpn]
    by_cases e : T p = c
    · rw [if_pos e, nI_1]
      exact Or.inl ⟨hpn, e, rfl⟩
    · rw [if_neg e]
      exact Or.inr ⟨fun z => e z.2, rfl⟩
  · rw [if_pos (nI_le (by omega) (by omega))]
    exact Or.inr ⟨fun z => hpn z.1, rfl⟩
theorem p_facts {T : Nat → Int32} {F N k g s : Nat} (hN : N ≤ 60) (hF : F + N ≤ 240) (hk : k ≤ 3) (hg : 5 < g) : ∀ (d m j j' p : Nat) (P : Prog) (I : Nat → Int32) (R : Nat → Nat → Int32) (J : Nat → Int32) (S : Nat → Nat → Int32), m + d = 5 → d < j → d < j' → p ≤ N → pOk P → P.1 = k + 1 → CT T N p I R → MT T F N p J S → RepC P 1 (I, R) → RdM P m (J, S) → RdRes F (I, R) (J, S) (fX5_reads_b85 g s 1 j (nI m) I R) (fX8_readAll_b114 g j' (nI (F + N)) J S) := by
  have hend : ∀ (m p : Nat) (P : Prog) (I : Nat → Int32) (R : Nat → Nat → Int32) (J : Nat → Int32) (S : Nat → Nat → Int32), p ≤ N → pOk P → P.1 = k + 1 → CT T N p I R → MT T F N p J S → RepC P 1 (I, R) → RdM P m (J, S) → RdRes F (I, R) (J, S) (fX5_reads_b112 g s 1 I R) (fX8_readAll_b150 g (nI (F + N)) J S) := by
    intro m p P I R J S hp hP hP1 h h' hC hM
    unfold fX5_reads_b112 fX8_readAll_b150
    rw [if_pos h.2.2.1, h.2.1, h.1, h'.1]
    by_cases e : p = N
    · rw [if_pos (by rw [e]), if_pos (by rw [e])]
      exact Or.inl ⟨P, m, _, _, hP, by omega, rfl, rfl, hC, hM, FrT.refl, FrV.refl⟩
    · rw [if_neg (nI_lit (by omega) (by omega) e), if_neg (nI_lit (by omega) (by omega) (by omega))]
      exact Or.inr ⟨p, _, _, rfl, rfl, h.2.1, h'.1, FrT.refl, FrV.refl⟩
  intro d
  induction d with
  | zero =>
    intro m j j' p P I R J S hm hj hj' hp hP hP1 h h' hC hM
    obtain ⟨j, rfl⟩ : ∃ i, j = i + 1 := ⟨j - 1, by omega⟩
    obtain ⟨j', rfl⟩ : ∃ i, j' = i + 1 := ⟨j' - 1, by omega⟩
    rw [fX5_reads_b85, fX8_readAll_b114, if_pos (show (5 : Int32) ≤ nI m from nI_le (a := 5) (by omega) (by omega)), if_pos (show (5 : Int32) ≤ J 17 by rw [show J 17 = nI m from hM.2.2.1]; exact nI_le (a := 5) (by omega) (by omega))]
    exact hend m p P I R J S hp hP hP1 h h' hC hM
  | succ d ih =>
    intro m j j' p P I R J S hm hj hj' hp hP hP1 h h' hC hM
    obtain ⟨j, rfl⟩ : ∃ i, j = i + 1 := ⟨j - 1, by omega⟩
    obtain ⟨j', rfl⟩ : ∃ i, j' = i + 1 := ⟨j' - 1, by omega⟩
    rw [fX5_reads_b85, fX8_readAll_b114, if_neg (show ¬ (5 : Int32) ≤ nI m from nI_ge (b := 5) (by omega) (by decide)), if_neg (show ¬ (5 : Int32) ≤ J 17 by rw [show J 17 = nI m from hM.2.2.1]; exact nI_ge (b := 5) (by omega) (by decide)), h'.1]
    by_cases hpn : p < N
    rotate_left
    · rw [if_pos (nI_le (by omega) (by omega))]
      rcases p_next hN h hp 44 with ⟨z, _⟩ | ⟨_, z⟩
      · exact absurd z hpn
      · rw [z g, bsome, i0]
        exact hend m p P I R J S hp hP hP1 h h' hC hM
    rw [if_neg (nI_ge (by omega) (by omega))]
    rcases p_next hN h hp 44 with ⟨_, hT, z⟩ | ⟨hT, z⟩
    rotate_left
    · -- no comma
      rcases e_sign (g := g) hF hp h' 44 with ⟨z1, z2, _⟩ | ⟨_, z3⟩
      · exact absurd ⟨z1, z2⟩ hT
      rw [z g, z3, bsome, bsome, i0, i0]
      dsimp only
      unfold fX5_reads_b112
      rw [if_pos h.2.2.1, h.2.1, h.1, if_neg (nI_lit (by omega) (by omega) (by omega))]
      exact Or.inr ⟨p, _, _, rfl, rfl, h.2.1, h'.1, FrT.refl, FrV.refl⟩
    rcases e_sign (g := g) hF hp h' 44 with ⟨_, _, z3⟩ | ⟨z1, _⟩
    rotate_left
    · exact absurd ⟨hpn, hT⟩ z1
    rw [z g, z3, bsome, bsome, i1, i1]
    dsimp only
    rw [t_eq, h.2.1, nI_1]
    have s1 := h.st (R' := R) (p + 1) rfl
    have s1' := h'.st (S' := S) (p + 1) rfl
    have hC1 : RepC P 1 (upd I 53 (nI (p + 1)), R) := hC.mk (by dsimp only; rw [upd_no (by decide)]) (by dsimp only; rw [upd_no (by decide)]) (fun _ _ => rfl)
    have hM1 : RdM P m (upd J 14 (nI (F + (p + 1))), S) := ⟨by dsimp only; rw [upd_no (by decide)]; exact hM.1, by dsimp only; rw [upd_no (by decide)]; exact hM.2.1, by dsimp only; rw [upd_no (by decide)]; exact hM.2.2.1, hM.2.2.2⟩
    rcases p_fact (g := g) hN hF (show p + 1 ≤ N by omega) hk hP hP1 s1 s1' hC1 hM1 (by omega) hg with ⟨p', f, I', R', J', S', b1, b2, b3, b4, b5, b6, b7, b8, b9, b10, b11, b12, b13⟩ | ⟨p', I', J', b1, b2, b3, b4, b5, b6, b7⟩
    · rw [b4, b5, bsome, bsome, i1, nI_1]
      dsimp only
      refine (ih (m + 1) j j' p' (tog P f) I' R' J' S' (by omega) (by omega) (by omega) b1 (tog_ok hP b2) hP1 b6 b7 b8 b9).up ⟨fun i hi => ?_, fun k hk => b11 k (by omega)⟩ ⟨fun i hi => ?_, fun k hk => b13 k hk.2⟩
      · exact (b10 i (by omega)).trans (upd_no (k := 53) (by omega))
      · exact (b12 i (by omega) (by omega)).trans (upd_no (k := 14) (by omega))
    · rw [b1, b2, bsome, bsome, i0]
      dsimp only
      obtain ⟨j, rfl⟩ : ∃ i, j = i + 1 := ⟨j - 1, by omega⟩
      rw [w_b85 b3]
      exact Or.inr ⟨p', _, _, rfl, rfl, b4, b5, ⟨fun i hi => (b6 i (by omega) (by omega)).trans (upd_no (k := 53) (by omega)), fun k hk => rfl⟩, ⟨fun i hi => (b7 i (by omega)).trans (upd_no (k := 14) (by omega)), fun k hk => rfl⟩⟩
def addR (P : Prog) (x : Nat → Nat) : Prog := (P.1, P.2.1 + 1, fun k s => if s = P.2.1 then x k else P.2.2.1 k s, P.2.2.2)
theorem p_rules {T : Nat → Int32} {F N k g s : Nat} (hN : N ≤ 60) (hF : F + N ≤ 240) (hk : k ≤ 3) (hg : 5 < g) : ∀ (d j j' p : Nat) (P : Prog) (I : Nat → Int32) (R : Nat → Nat → Int32) (J : Nat → Int32) (S : Nat → Nat → Int32), P.2.1 + d = 5 → d < j → d < j' → p ≤ N → pOk P → P.1 = k + 1 → CT T N p I R → MT T F N p J S → RepC P 1 (I, R) → RdM P 0 (J, S) → RdRes F (I, R) (J, S) (fX5_reads_b55 g s 1 j (nI P.2.1) I R) (fX8_readAll_b44 g j' (nI (F + N)) J S) := by
  have hend : ∀ (p : Nat) (P : Prog) (I : Nat → Int32) (R : Nat → Nat → Int32) (J : Nat → Int32) (S : Nat → Nat → Int32), p ≤ N → pOk P → P.1 = k + 1 → CT T N p I R → MT T F N p J S → RepC P 1 (I, R) → RdM P 0 (J, S) → RdRes F (I, R) (J, S) (fX5_reads_b82 g s 1 I R) (fX8_readAll_b114 g g (nI (F + N)) J S) := by
    intro p P I R J S hp hP hP1 h h' hC hM
    unfold fX5_reads_b82
    exact p_facts hN hF hk hg 5 0 g g p P I R J S rfl hg hg hp hP hP1 h h' hC hM
  intro d
  induction d with
  | zero =>
    intro j j' p P I R J S hm hj hj' hp hP hP1 h h' hC hM
    obtain ⟨j, rfl⟩ : ∃ i, j = i + 1 := ⟨j - 1, by omega⟩
    obtain ⟨j', rfl⟩ : ∃ i, j' = i + 1 := ⟨j' - 1, by omega⟩
    rw [fX5_reads_b55, fX8_readAll_b44, if_pos (show (5 : Int32) ≤ nI P.2.1 from nI_le (a := 5) (by omega) (by omega)), if_pos (show (5 : Int32) ≤ J 16 by rw [show J 16 = nI P.2.1 from hM.2.1]; exact nI_le (a := 5) (by omega) (by omega))]
    exact hend p P I R J S hp hP hP1 h h' hC hM
  | succ d ih =>
    intro j j' p P I R J S hm hj hj' hp hP hP1 h h' hC hM
    obtain ⟨j, rfl⟩ : ∃ i, j = i + 1 := ⟨j - 1, by omega⟩
    obtain ⟨j', rfl⟩ : ∃ i, j' = i + 1 := ⟨j' - 1, by omega⟩
    have hJ16 : J 16 = nI P.2.1 := hM.2.1
    rw [fX5_reads_b55, fX8_readAll_b44, if_neg (show ¬ (5 : Int32) ≤ nI P.2.1 from nI_ge (b := 5) (by omega) (by decide)), if_neg (show ¬ (5 : Int32) ≤ J 16 by rw [hJ16]; exact nI_ge (b := 5) (by omega) (by decide)), h'.1]
    by_cases hpn : p < N
    rotate_left
    · rw [if_pos (nI_le (by omega) (by omega))]
      rcases p_next hN h hp 59 with ⟨z, _⟩ | ⟨_, z⟩
      · exact absurd z hpn
      · rw [z g, bsome, i0]
        exact hend p P I R J S hp hP hP1 h h' hC hM
    rw [if_neg (nI_ge (by omega) (by omega)), gpos (inb_nI (by omega) (by decide)), getA_nI (by omega), h'.2 p hpn]
    rcases p_next hN h hp 59 with ⟨_, hT, z⟩ | ⟨hT, z⟩
    rotate_left
    · rw [z g, bsome, i0, if_neg (fun e => hT ⟨hpn, e⟩)]
      exact hend p P I R J S hp hP hP1 h h' hC hM
    rw [z g, bsome, i1, if_pos hT]
    dsimp only
    have hI19 : upd I 53 (nI (p + 1)) (119 + 100 * 1) = nI P.2.1 := by rw [upd_no (by decide)]; exact hC.2.1
    rw [q_eq, h.2.1, nI_1, nI_1, hI19, upd_no (show (16 : Nat) ≠ 14 by decide), hJ16, show (6 : Int32) * nI P.2.1 = nI (6 * P.2.1) from pk_mul 6 _]
    have s1 := h.st (R' := R) (p + 1) rfl
    have s1' := h'.st (S' := S) (p + 1) rfl
    have hr : P.2.1 < 5 := by omega
    rcases p_rule (r := P.2.1) (k := k) (g := g) hN hF (show p + 1 ≤ N by omega) hk hr s1 s1' (by rw [upd_no (by decide), ← hP1]; exact hC.1) (by rw [upd_no (by decide), ← hP1]; exact hM.1) hg with ⟨p', x, I', R', J', S', b0, b1, b2, c1, c2, c3, c4, c5, c6, c7, c8⟩ | ⟨I', R', J', S', b1, b2, p', c1, c2, c3, c4, c5, c6, c7⟩
    · rw [b1, show fX8_readRule g (nI (F + N)) (nI (6 * P.2.1)) (upd J 14 (nI (F + p) + 1)) S = some (1, J', S') by rw [nI_1]; exact b2, bsome, bsome, i1]
      dsimp only
      have hj16 : J' 16 = nI P.2.1 := by rw [c7 16 (by decide), upd_no (by decide)]; exact hJ16
      rw [hj16, nI_1]
      have hPa : pOk (addR P x) := by
        obtain ⟨o1, o2, o3, o4, o5⟩ := hP
        refine ⟨o1, (by omega : P.2.1 + 1 ≤ 5), fun z => absurd z (by show ¬ P.1 = 0; omega), fun t ht => ?_, o5⟩
        show ((if t = P.2.1 then x 0 else P.2.2.1 0 t) < 3 ∧ 1 ≤ (if t = P.2.1 then x 1 else P.2.2.1 1 t) ∧ (if t = P.2.1 then x 1 else P.2.2.1 1 t) ≤ 9 ∧ (if t = P.2.1 then x 2 else P.2.2.1 2 t) < 4 ∧ (if t = P.2.1 then x 3 else P.2.2.1 3 t) < P.1 ∧ (if t = P.2.1 then x 4 else P.2.2.1 4 t) < P.1 ∧ (if t = P.2.1 then x 5 else P.2.2.1 5 t) < P.1 ∧ ((if t = P.2.1 then x 2 else P.2.2.1 2 t) < 2 → (if t = P.2.1 then x 5 else P.2.2.1 5 t) = 0))
        have ht : t < P.2.1 + 1 := ht
        by_cases e : t = P.2.1
        · simp only [if_pos e]
          exact ⟨b0.1, b0.2.1, b0.2.2.1, b0.2.2.2.1, by omega, by omega, by omega, b0.2.2.2.2.2.2.2⟩
        · simp only [if_neg e]
          exact o4 t (by omega)
      have hCa : RepC (addR P x) 1 (I', R') := by
        refine ⟨by dsimp only; rw [c4 218 (by decide) (by decide), upd_no (by decide)]; exact hC.1, c5, fun kk hkk t ht => ?_, fun q hq i => ?_⟩
        · show R' (111 + kk + 100 * 1) t = nI (if t = P.2.1 then x kk else P.2.2.1 kk t)
          have ht : t < P.2.1 + 1 := ht
          rw [c6]
          by_cases e : t = P.2.1
          · rw [if_pos e, if_pos ⟨e, by omega, by omega⟩, show 111 + kk + 100 * 1 - 211 = kk by omega]
          · rw [if_neg e, if_neg (fun z => e z.1)]
            exact hC.2.2.1 kk hkk t (by omega)
        · show bit (R' (117 + 100 * 1) q) i = _
          rw [c6, if_neg (by omega)]
          exact hC.2.2.2 q hq i
      have hMa : RdM (addR P x) 0 (upd J' 16 (nI (P.2.1 + 1)), S') := by
        have hj : ∀ i, i ≠ 14 → i ≠ 16 → upd J' 16 (nI (P.2.1 + 1)) i = J i := fun i h1 h2 => (upd_no (k := 16) h2).trans ((c7 i h1).trans (upd_no (k := 14) h1))
        refine ⟨(hj 15 (by decide) (by decide)).trans hM.1, (show upd J' 16 (nI (P.2.1 + 1)) 16 = nI (P.2.1 + 1) from upd_at), (hj 17 (by decide) (by decide)).trans hM.2.2.1, Nat.zero_le _, fun t ht kk hkk => ?_, fun t ht => ?_, fun i hi => absurd hi (by omega), fun f hf => ?_⟩
        · show S' 18 (6 * t + kk) = nI (if t = P.2.1 then x kk else P.2.2.1 kk t)
          have ht : t < P.2.1 + 1 := ht
          rw [c8]
          by_cases e : t = P.2.1
          · rw [if_pos e, if_pos ⟨rfl, by omega, by omega⟩, if_neg (by omega), show 6 * t + kk - 6 * P.2.1 = kk by omega]
          · rw [if_neg e, if_neg (by omega)]
            exact hM.2.2.2.2.1 t (by omega) kk hkk
        · show S' 18 (6 * t + 5) = if (if t = P.2.1 then x 2 else P.2.2.1 2 t) < 2 then (-9) else nI (if t = P.2.1 then x 5 else P.2.2.1 5 t)
          have ht : t < P.2.1 + 1 := ht
          rw [c8]
          by_cases e : t = P.2.1
          · rw [if_pos e, if_pos e, if_pos ⟨rfl, by omega, by omega⟩, show 6 * t + 5 - 6 * P.2.1 = 5 by omega]
            by_cases e2 : x 2 < 2
            · rw [if_pos e2, if_pos ⟨by omega, e2⟩]
            · rw [if_neg e2, if_neg (fun z => e2 z.2)]
          · rw [if_neg e, if_neg e, if_neg (by omega)]
            exact hM.2.2.2.2.2.1 t (by omega)
        · exact ⟨fun z => absurd ((hM.2.2.2.2.2.2.2 f hf).mp z) (fun ⟨i, z, _⟩ => absurd z (by omega)), fun ⟨i, z, _⟩ => absurd z (by omega)⟩
      refine (ih j j' p' (addR P x) I' R' (upd J' 16 (nI (P.2.1 + 1))) S' (by show P.2.1 + 1 + d = 5; omega) (by omega) (by omega) c1 hPa hP1 c2 ⟨by rw [upd_no (by decide)]; exact c3.1, c3.2⟩ hCa hMa).up ⟨fun i hi => ?_, fun kk hkk => ?_⟩ ⟨fun i hi => ?_, fun kk hkk => ?_⟩
      · exact (c4 i (by omega) (by omega)).trans (upd_no (k := 53) (by omega))
      · funext t
        show R' kk t = R kk t
        rw [c6, if_neg (by omega)]
      · exact (upd_no (k := 16) (by omega)).trans ((c7 i (by omega)).trans (upd_no (k := 14) (by omega)))
      · funext t
        show S' kk t = S kk t
        rw [c8, if_neg (by omega)]
    · rw [b1, show fX8_readRule g (nI (F + N)) (nI (6 * P.2.1)) (upd J 14 (nI (F + p) + 1)) S = some (0, J', S') by rw [nI_1]; exact b2, bsome, bsome, i0]
      dsimp only
      obtain ⟨j, rfl⟩ : ∃ i, j = i + 1 := ⟨j - 1, by omega⟩
      rw [w_b55 c1 (by omega)]
      exact Or.inr ⟨p', _, _, rfl, rfl, c2, c3, ⟨fun i hi => (c4 i (by omega) (by omega) (by omega)).trans (upd_no (k := 53) (by omega)), fun kk hkk => c5 kk (by omega)⟩, ⟨fun i hi => (c6 i (by omega)).trans (upd_no (k := 14) (by omega)), fun kk hkk => c7 kk hkk.1⟩⟩
