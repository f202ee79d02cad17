/-! a day: its acts, side by side -/
def okA (x : Int32) : Prop := ∃ m, x = nI m ∧ (m < 4 ∨ (10 ≤ m ∧ m < 15))
theorem okA_cases (x : Int32) : okA x ∨ ((x < 0 ∨ nI 15 ≤ x) ∨ ∃ m, 4 ≤ m ∧ m < 10 ∧ x = nI m) := by
  rcases rng x (n := 15) (by decide) with h | ⟨m, hm, rfl⟩
  · exact Or.inr (Or.inl h)
  · by_cases h1 : m < 4
    · exact Or.inl ⟨m, rfl, Or.inl h1⟩
    · by_cases h2 : 10 ≤ m
      · exact Or.inl ⟨m, rfl, Or.inr ⟨h2, hm⟩⟩
      · exact Or.inr (Or.inr ⟨m, by omega, by omega, rfl⟩)
theorem lt10 {x : Int32} (h : x < 0) : x < 10 := by
  have := toI_neg h
  refine Int32.lt_iff_toInt_lt.mpr ?_
  rw [show (10 : Int32).toInt = 10 by decide]
  omega
theorem ge_neg {x : Int32} {a b : Nat} (h : nI b ≤ x) (hab : a ≤ b) (hb : b < 2 ^ 31) : ¬ x < nI a := by
  intro z
  have h1 := Int32.le_iff_toInt_le.mp h
  have h2 := Int32.lt_iff_toInt_lt.mp z
  rw [nI_toInt (by omega)] at h1 h2
  omega
theorem ge_le {x : Int32} {a b : Nat} (h : nI b ≤ x) (hab : a ≤ b) (hb : b < 2 ^ 31) : nI a ≤ x := by
  have h1 := Int32.le_iff_toInt_le.mp h
  refine Int32.le_iff_toInt_le.mpr ?_
  rw [nI_toInt (by omega)] at h1 ⊢
  omega
theorem c_act {n s : Nat} (k2 : Int32 → Int32 → Int32 → (Nat → Int32) → (Nat → Nat → Int32) → Option (Int32 × mSt)) {a1 a2 a3 x : Int32} {I : Nat → Int32} {R : Nat → Nat → Int32} : (okA x → (if x < 0 then fX7_areActs_b34 n s k2 a1 a2 a3 x I R else if 4 ≤ x then fX7_areActs_b34 n s k2 a1 a2 a3 x I R else fX7_areActs_b35 n s k2 a1 a2 a3 x 1 I R) = k2 a1 a2 (a3 + 1) I R) ∧ (¬ okA x → (if x < 0 then fX7_areActs_b34 n s k2 a1 a2 a3 x I R else if 4 ≤ x then fX7_areActs_b34 n s k2 a1 a2 a3 x I R else fX7_areActs_b35 n s k2 a1 a2 a3 x 1 I R) = some (0, I, R)) := by
  unfold fX7_areActs_b34 fX7_areActs_b35 fX7_areActs_b55 fX7_areActs_b56 fX7_areActs_b70
  constructor
  · rintro ⟨m, rfl, hm | ⟨h1, h2⟩⟩
    · rw [if_neg (nI_pos (by omega)), if_neg (show ¬ (4 : Int32) ≤ nI m from nI_ge (b := 4) hm (by decide)), if_pos (show nI m < (10 : Int32) from nI_lt (b := 10) (by omega) (by decide)), if_neg (by decide)]
    · rw [if_neg (nI_pos (by omega)), if_pos (show (4 : Int32) ≤ nI m from nI_le (a := 4) (by omega) (by omega)), if_neg (show ¬ nI m < (10 : Int32) from nI_nlt (b := 10) (by omega) (by omega)), if_neg (show ¬ (15 : Int32) ≤ nI m from nI_ge (b := 15) h2 (by decide)), if_pos rfl, if_neg (by decide)]
  · intro hno
    rcases okA_cases x with h | (h | h) | ⟨m, h1, h2, rfl⟩
    · exact absurd h hno
    · rw [if_pos h, if_pos (lt10 h), if_pos rfl, if_pos rfl]
    · by_cases h0 : x < 0
      · exact absurd h0 (ge_neg (a := 0) h (by decide) (by decide))
      · rw [if_neg h0, if_pos (show (4 : Int32) ≤ x from ge_le (a := 4) h (by decide) (by decide)), if_neg (show ¬ x < (10 : Int32) from ge_neg (a := 10) h (by decide) (by decide)), if_pos (show (15 : Int32) ≤ x from h), if_pos rfl, if_pos rfl]
    · rw [if_neg (nI_pos (by omega)), if_pos (show (4 : Int32) ≤ nI m from nI_le (a := 4) (by omega) (by omega)), if_pos (show nI m < (10 : Int32) from nI_lt (b := 10) (by omega) (by decide)), if_pos rfl, if_pos rfl]
theorem m_act {n : Nat} {x : Int32} : (okA x → (fX8_within n x 0 3 = some 1 ∨ (fX8_within n x 0 3 = some 0 ∧ fX8_within n x 10 14 = some 1))) ∧ (¬ okA x → fX8_within n x 0 3 = some 0 ∧ fX8_within n x 10 14 = some 0) := by
  constructor
  · rintro ⟨m, rfl, hm | ⟨h1, h2⟩⟩
    · exact Or.inl (within_in (lo := 0) (hi := 3) (by omega) (by omega) (by decide))
    · exact Or.inr ⟨within_out (Or.inr (show (3 : Int32) < nI m from nI_lt (a := 3) (by omega) (by omega))), within_in (lo := 10) (hi := 14) (by omega) (by omega) (by decide)⟩
  · intro hno
    rcases okA_cases x with h | (h | h) | ⟨m, h1, h2, rfl⟩
    · exact absurd h hno
    · exact ⟨within_out (Or.inl h), within_out (Or.inl (lt10 h))⟩
    · exact ⟨within_out (Or.inr (show (3 : Int32) < x from le_lt (a := 3) h (by decide) (by decide))), within_out (Or.inr (show (14 : Int32) < x from le_lt (a := 14) h (by decide) (by decide)))⟩
    · exact ⟨within_out (Or.inr (show (3 : Int32) < nI m from nI_lt (a := 3) (by omega) (by omega))), within_out (Or.inl (show nI m < (10 : Int32) from nI_lt (b := 10) h2 (by decide)))⟩
theorem l_acts {n k i N : Nat} {a5 : Int32} {u v : mSt} (hiN : i + 3 * N ≤ 60) (hk : k < 4) (hc : ∀ t, t < 60 → u.2 (1001 + 10 * k) t = v.2 4 (60 * k + t)) (hn : 70 < n) (hN : N ≤ 20) : (∀ m, fX7_areActs m k (nI i) (nI N) u.1 u.2 = fX7_areActs m k (nI i) (nI N) u.1 u.2) ∧ ((fX7_areActs 100 k (nI i) (nI N) u.1 u.2 = some (0, u) ∧ fX8_day_b103 n n (nI N) a5 (nI (60 * k + i)) 0 v.1 v.2 = some (-2, v)) ∨ (fX7_areActs 100 k (nI i) (nI N) u.1 u.2 = some (1, u) ∧ fX8_day_b103 n n (nI N) a5 (nI (60 * k + i)) 0 v.1 v.2 = fX8_day_b164 n n (nI N) a5 (nI (60 * k + i)) 0 v.1 v.2 ∧ ∀ t, t < N → okA (u.2 (1001 + 10 * k) (i + 3 * t)))) := by
  refine ⟨fun _ => rfl, ?_⟩
  have key : ∀ d t j j', t + d = N → d < j → d < j' → (∀ s, s < t → okA (u.2 (1001 + 10 * k) (i + 3 * s))) → ((fX7_areActs_b2 100 k j (nI i) (nI N) (nI t) u.1 u.2 = some (0, u) ∧ fX8_day_b103 n j' (nI N) a5 (nI (60 * k + i)) (nI t) v.1 v.2 = some (-2, v)) ∨ (fX7_areActs_b2 100 k j (nI i) (nI N) (nI t) u.1 u.2 = some (1, u) ∧ fX8_day_b103 n j' (nI N) a5 (nI (60 * k + i)) (nI t) v.1 v.2 = fX8_day_b164 n n (nI N) a5 (nI (60 * k + i)) 0 v.1 v.2 ∧ ∀ s, s < N → okA (u.2 (1001 + 10 * k) (i + 3 * s)))) := by
    intro d
    induction d with
    | zero =>
      intro t j j' ht hj hj' hs
      obtain ⟨j, rfl⟩ : ∃ i, j = i + 1 := ⟨j - 1, by omega⟩
      obtain ⟨j', rfl⟩ : ∃ i, j' = i + 1 := ⟨j' - 1, by omega⟩
      rw [fX7_areActs_b2, fX8_day_b103, if_pos (nI_le (by omega) (by omega)), if_pos (nI_le (by omega) (by omega))]
      exact Or.inr ⟨rfl, rfl, fun s hs' => hs s (by omega)⟩
    | succ d ih =>
      intro t j j' ht hj hj' hs
      obtain ⟨j, rfl⟩ : ∃ i, j = i + 1 := ⟨j - 1, by omega⟩
      obtain ⟨j', rfl⟩ : ∃ i, j' = i + 1 := ⟨j' - 1, by omega⟩
      have e3 : nI i + (3 * nI t) = nI (i + 3 * t) := by rw [show (3 : Int32) * nI t = nI (3 * t) from pk_mul 3 t, nI_add]
      have e3' : nI (60 * k + i) + (3 * nI t) = nI (60 * k + (i + 3 * t)) := by rw [show (3 : Int32) * nI t = nI (3 * t) from pk_mul 3 t, nI_add]; congr 1; omega
      have hb : inb (nI (i + 3 * t)) 60 = true := inb_nI (by omega) (by decide)
      have hb' : inb (nI (60 * k + (i + 3 * t))) 240 = true := inb_nI (by omega) (by decide)
      rw [fX7_areActs_b2, fX8_day_b103, if_neg (nI_ge (by omega) (by omega)), if_neg (nI_ge (by omega) (by omega)), e3, e3', gpos hb, gpos hb', gpos hb', getA_nI (by omega), getA_nI (by omega), ← hc (i + 3 * t) (by omega)]
      obtain ⟨c1, c2⟩ := c_act (n := 100) (s := k) (fX7_areActs_b2 100 k j) (a1 := nI i) (a2 := nI N) (a3 := nI t) (x := u.2 (1001 + 10 * k) (i + 3 * t)) (I := u.1) (R := u.2)
      obtain ⟨d1, d2⟩ := m_act (n := n) (x := u.2 (1001 + 10 * k) (i + 3 * t))
      unfold fX8_day_b155
      by_cases e : okA (u.2 (1001 + 10 * k) (i + 3 * t))
      · rw [c1 e, nI_1]
        have hnx := ih (t + 1) j j' (by omega) (by omega) (by omega) (fun s hs' => by
          by_cases es : s = t
          · rw [es]; exact e
          · exact hs s (by omega))
        rcases d1 e with z | ⟨z1, z2⟩
        · rw [z, bsome, i1]; exact hnx
        · rw [z1, bsome, i0, z2, bsome, i1]; exact hnx
      · rw [c2 e, (d2 e).1, bsome, i0, (d2 e).2, bsome, i0]
        exact Or.inl ⟨rfl, rfl⟩
  unfold fX7_areActs
  exact key N 0 100 n (by omega) (by omega) (by omega) (fun s hs => absurd hs (by omega))
theorem l_act {Q : Prog} {n A : Nat} {u v : mSt} {x y z : Int32} (hQ : pOk Q) (hL : LayP Q) (hC : RepC Q 1 u) (hM : RepM Q v) (h0 : u.1 (105 + 100 * 1) = 0) (hA : A + 2 < 240) (ex : v.2 4 A = x) (ey : v.2 4 (A + 1) = y) (ez : v.2 4 (A + 2) = z) (hx : okA x) (hn : 20 < n) : ∃ b Q' u' v', fX7_acts 100 x y z u.1 u.2 = some (b01 b, u') ∧ fX8_does n (nI A) v.1 v.2 = some (b01 b, v') ∧ pOk Q' ∧ LayP Q' ∧ RepC Q' 1 u' ∧ RepM Q' v' ∧ u'.1 (105 + 100 * 1) = 0 ∧ FrW 1 u u' ∧ v'.1 = v.1 ∧ ∀ k, k ≠ 9 → k ≠ 13 → v'.2 k = v.2 k := by
  have hQ1 := hQ.1
  have hQ5 := hQ.2.1
  have same : ∀ (f g : Option (Int32 × mSt)), f = some (b01 false, u) → g = some (b01 false, v) → ∃ b Q' u' v', f = some (b01 b, u') ∧ g = some (b01 b, v') ∧ pOk Q' ∧ LayP Q' ∧ RepC Q' 1 u' ∧ RepM Q' v' ∧ u'.1 (105 + 100 * 1) = 0 ∧ FrW 1 u u' ∧ v'.1 = v.1 ∧ ∀ k, k ≠ 9 → k ≠ 13 → v'.2 k = v.2 k := fun f g e1 e2 => ⟨false, Q, u, v, e1, e2, hQ, hL, hC, hM, h0, FrW.refl, rfl, fun _ _ _ => rfl⟩
  have g0 : getA v.2 4 (nI A) = x := by rw [getA_nI (by omega)]; exact ex
  have g1 : getA v.2 4 (nI A + 1) = y := by rw [nI_1, getA_nI (by omega)]; exact ey
  have g2 : getA v.2 4 (nI A + 2) = z := by rw [show nI A + 2 = nI (A + 2) from nI_add A 2, getA_nI (by omega)]; exact ez
  unfold fX7_acts fX8_does
  rw [g0, g1, g2, gpos (inb_nI (by omega) (by decide)), gpos (show inb (nI A + 1) 240 = true by rw [nI_1]; exact inb_nI (by omega) (by decide)), gpos (show inb (nI A + 2) 240 = true by rw [show nI A + 2 = nI (A + 2) from nI_add A 2]; exact inb_nI (by omega) (by decide))]
  obtain ⟨m, rfl, hm⟩ := hx
  have hCr : u.1 (118 + 100 * 1) = nI Q.1 := hC.1
  have hCs : u.1 (119 + 100 * 1) = nI Q.2.1 := hC.2.1
  by_cases hm4 : m < 4
  · rw [if_pos (show nI m < (10 : Int32) from nI_lt (b := 10) (by omega) (by decide)), if_pos (show nI m < (10 : Int32) from nI_lt (b := 10) (by omega) (by decide)), if_neg (nI_pos (by omega)), hCr]
    rcases d_rel (nI m) hQ.1 (I := fun _ => nI Q.1) rfl hM.1 with h2 | ⟨q, hq, eq, h2⟩
    · by_cases hr : Q.1 ≤ m
      · rw [if_pos (nI_le hr (by omega)), (h2 n (fun _ _ => 0) v.2).2, bsome]
        exact same _ _ rfl i0
      · exfalso
        have h3 := (h2 n (fun _ _ => 0) v.2).2
        unfold fX8_isRelation at h3
        rw [if_neg (nI_pos (by omega)), hM.1, if_neg (nI_ge (by omega) (by omega))] at h3
        injection h3 with h3
        injection h3 with h3
        exact absurd h3 (by decide)
    · have eq : m = q := (nI_eq (by omega) (by omega)).mp eq
      subst eq
      rw [if_neg (nI_ge hq (by omega)), (h2 n (fun _ _ => 0) v.2).2, bsome, i1]
      dsimp only
      rcases d_thing y with h3 | ⟨yy, hy, rfl, h3⟩
      · rw [(h3 100).2, bsome, i0, (h3 n).1, bsome, i0]
        exact same _ _ rfl rfl
      rw [(h3 100).2, bsome, i1, (h3 n).1, bsome, i1]
      rcases d_thing z with h4 | ⟨zz, hz, rfl, h4⟩
      · rw [(h4 100).2, bsome, i0, (h4 n).1, bsome, i0]
        exact same _ _ rfl rfl
      rw [(h4 100).2, bsome, i1, (h4 n).1, bsome, i1, e_factM, bsome, bsome, gpos (inb_nI (by omega) (by decide)), gpos (inb_nI (by omega) (by decide)), getA_nI (by omega)]
      obtain ⟨t, ec, hC'⟩ := e_toggle (n := 100) hQ hC hq hy hz
      obtain ⟨hM', _⟩ := e_tellM hM (f := 16 * m + 4 * yy + zz) (by omega)
      rw [ec, bsome]
      refine ⟨true, tog Q (16 * m + 4 * yy + zz), _, _, rfl, rfl, tog_ok hQ (by omega), (lay_tog _).mpr hL, hC', hM', by dsimp only; exact upd_at, ⟨fun i hi => upd_no (by omega), fun i hi => setA_ne (by omega)⟩, rfl, fun k h1 h2 => setA_ne h2⟩
  · have hm : 10 ≤ m ∧ m < 15 := hm.resolve_left hm4
    have e10 : nI m - 10 = nI (m - 10) := pk_sub (b := 10) hm.1
    rw [if_neg (show ¬ nI m < (10 : Int32) from nI_nlt (b := 10) (by omega) (by omega)), if_neg (show ¬ nI m < (10 : Int32) from nI_nlt (b := 10) (by omega) (by omega)), e10, hCs]
    rcases d_rule (nI (m - 10)) hQ.2.1 (I := fun _ => nI Q.2.1) rfl hM.2.1 with h2 | ⟨r, hr, er, h2⟩
    · by_cases hr : Q.2.1 ≤ m - 10
      · rw [if_pos (nI_le hr (by omega)), (h2 n (fun _ _ => 0) v.2).2, bsome]
        exact same _ _ rfl i0
      · exfalso
        have h3 := (h2 n (fun _ _ => 0) v.2).2
        unfold fX8_isRule at h3
        rw [if_neg (nI_pos (by omega)), hM.2.1, if_neg (nI_ge (by omega) (by omega))] at h3
        injection h3 with h3
        injection h3 with h3
        exact absurd h3 (by decide)
    · have er : m - 10 = r := (nI_eq (by omega) (by omega)).mp er
      rw [er, if_neg (nI_ge hr (by omega)), ← er, (h2 n (fun _ _ => 0) v.2).2, bsome, i1, er]
      dsimp only
      rcases d_fits hQ hC hM hr y with h3 | ⟨f, hf, rfl, h3⟩
      · rw [(h3 100).1, bsome, i0, (h3 n).2, bsome, i0]
        exact same _ _ rfl rfl
      rw [(h3 100).1, bsome, i1, (h3 n).2, bsome, i1]
      dsimp only
      obtain ⟨u', b, c1, c2, c3, c4, c5⟩ := e_reforms (n := 100) hQ hC hr hf (by decide)
      obtain ⟨v', b', d1, d2, d3, d4, d5⟩ := e_gets (n := n) hQ hM hr hf hn
      have hbb : b' = b := Bool.eq_iff_iff.mpr (d2.trans c2.symm)
      subst hbb
      rw [c1, d1, bsome, bsome]
      dsimp only
      cases b' with
      | true =>
        rw [if_neg (show ¬ b01 true = 0 by decide), if_neg (show ¬ b01 true = 0 by decide)]
        exact ⟨true, rfm Q r f, u', v', rfl, rfl, rfm_ok hQ hf, c2.mp rfl, c3, d3, c4, c5, d4, fun k h1 _ => d5 k h1⟩
      | false =>
        rw [if_pos (show b01 false = 0 from rfl), if_pos (show b01 false = 0 from rfl)]
        exact ⟨false, Q, u', v', rfl, rfl, hQ, hL, c3, d3, c4, c5, d4, fun k h1 _ => d5 k h1⟩
