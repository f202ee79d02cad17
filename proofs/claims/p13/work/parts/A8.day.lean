/-! day -/
def Su_day (Sim : mSt → mSt → Prop) : Prop := ∀ (a1 a2 a3 a4 a5 : Int32) (u v : mSt), Sim u v → ∃ (n1 : Nat) (z1 : Int32 × mSt) (n2 : Nat) (z2 : Int32 × mSt), fX7_day n1 a1 a2 a3 a4 a5 u.1 u.2 = some z1 ∧ fX8_day n2 a1 a2 a3 a4 a5 v.1 v.2 = some z2 ∧ Sim z1.2 z2.2
theorem d_what (a : Int32) : ((∀ n, fX7_isAskedOfDay n a = some 0) ∧ ∀ n, fX8_within n a 0 4 = some 0 ∧ fX8_within n a 10 13 = some 0) ∨ ((∀ n, fX7_isAskedOfDay n a = some 1) ∧ (∀ n, fX8_within n a 0 4 = some 1 ∨ (fX8_within n a 0 4 = some 0 ∧ fX8_within n a 10 13 = some 1)) ∧ (¬ a < 10 → ∃ q, q < 4 ∧ a = nI (10 + q))) := by
  unfold fX7_isAskedOfDay fX7_isAskedOfDay_b9
  rcases rng a (n := 14) (by decide) with (h | h) | ⟨m, hm, rfl⟩
  · refine Or.inl ⟨fun n => ?_, fun n => ⟨within_out (Or.inl h), within_out (Or.inl (lt10 h))⟩⟩
    rw [if_pos h, if_pos (lt10 h)]
  · refine Or.inl ⟨fun n => ?_, fun n => ⟨within_out (Or.inr (show (4 : Int32) < a from le_lt (a := 4) h (by decide) (by decide))), within_out (Or.inr (show (13 : Int32) < a from le_lt (a := 13) h (by decide) (by decide)))⟩⟩
    have h4 : (4 : Int32) < a := le_lt (a := 4) h (by decide) (by decide)
    rw [if_neg (show ¬ a < 0 from ge_neg (a := 0) h (by decide) (by decide)), if_neg (Int32.not_le.mpr h4), if_neg (show ¬ a < (10 : Int32) from ge_neg (a := 10) h (by decide) (by decide)), if_pos (show (14 : Int32) ≤ a from h)]
  · by_cases h4 : m ≤ 4
    · refine Or.inr ⟨fun n => ?_, fun n => Or.inl (within_in (lo := 0) (hi := 4) (by omega) h4 (by decide)), fun z => absurd (show nI m < (10 : Int32) from nI_lt (b := 10) (by omega) (by decide)) z⟩
      rw [if_neg (nI_pos (by omega)), if_pos (show nI m ≤ (4 : Int32) from nI_le (b := 4) h4 (by decide))]
    · have h4' : (4 : Int32) < nI m := nI_lt (a := 4) (by omega) (by omega)
      by_cases h10 : m < 10
      · refine Or.inl ⟨fun n => ?_, fun n => ⟨within_out (Or.inr h4'), within_out (Or.inl (show nI m < (10 : Int32) from nI_lt (b := 10) h10 (by decide)))⟩⟩
        rw [if_neg (nI_pos (by omega)), if_neg (Int32.not_le.mpr h4'), if_pos (show nI m < (10 : Int32) from nI_lt (b := 10) h10 (by decide))]
      · refine Or.inr ⟨fun n => ?_, fun n => Or.inr ⟨within_out (Or.inr h4'), within_in (lo := 10) (hi := 13) (by omega) (by omega) (by decide)⟩, fun _ => ⟨m - 10, by omega, by rw [show 10 + (m - 10) = m by omega]⟩⟩
        rw [if_neg (nI_pos (by omega)), if_neg (Int32.not_le.mpr h4'), if_neg (show ¬ nI m < (10 : Int32) from nI_nlt (b := 10) (by omega) (by omega)), if_neg (show ¬ (14 : Int32) ≤ nI m from nI_ge (b := 14) hm (by decide))]
theorem su_day : Su_day (SimOf (PrOf KK)) := by
  intro a1 a2 a3 a4 a5 u v h
  have hF := frm_of frKK
  have h1 := Sim_fault hF h 0
  rcases d_sheet a1 with h0 | ⟨k, hk, rfl, h2⟩
  · refine ⟨100, (-1, upd u.1 9 0, u.2), NB, (-1, upd v.1 0 0, v.2), ?_, ?_, h1⟩
    · unfold fX7_day; rw [(h0 100).2, bsome, i0]
    · unfold fX8_day; rw [(h0 NB).1, bsome, i0]
  rcases d_lane a2 with h0 | ⟨la, hla, rfl, h3⟩
  · refine ⟨100, (-2, upd u.1 9 0, u.2), NB, (-2, upd v.1 0 0, v.2), ?_, ?_, h1⟩
    · unfold fX7_day; rw [(h2 100).2, bsome, i1, (h0 100).2, bsome, i0]
    · unfold fX8_day; rw [(h2 NB).1, bsome, i1, (h0 NB).1, bsome, i0]
  rcases rng a4 (n := 21) (by decide) with h0 | ⟨N, hN, rfl⟩
  · refine ⟨100, (-2, upd u.1 9 0, u.2), NB, (-2, upd v.1 0 0, v.2), ?_, ?_, h1⟩
    · unfold fX7_day
      rw [(h2 100).2, bsome, i1, (h3 100).2, bsome, i1]
      by_cases z : a4 < 0
      · rw [if_pos z]
      · rw [if_neg z, if_pos (show (20 : Int32) < a4 from le_lt (a := 20) (h0.resolve_left z) (by decide) (by decide))]
    · unfold fX8_day
      rw [(h2 NB).1, bsome, i1, (h3 NB).1, bsome, i1, within_out (hi := 20) (h0.imp id (fun z => show (20 : Int32) < a4 from le_lt (a := 20) z (by decide) (by decide))), bsome, i0]
  have n0 : ¬ nI N < 0 := nI_pos (by omega)
  have n20 : ¬ (20 : Int32) < nI N := nI_nlt (a := 20) (b := N) (by omega) (by decide)
  have w20 : fX8_within NB (nI N) 0 20 = some 1 := within_in (lo := 0) (hi := 20) (by omega) (by omega) (by decide)
  have e3N : (3 : Int32) * nI N = nI (3 * N) := pk_mul 3 N
  rcases d_what a5 with ⟨y1, y2⟩ | ⟨y1, y2, y3⟩
  · refine ⟨100, (-2, upd u.1 9 0, u.2), NB, (-2, upd v.1 0 0, v.2), ?_, ?_, h1⟩
    · unfold fX7_day; rw [(h2 100).2, bsome, i1, (h3 100).2, bsome, i1, if_neg n0, if_neg n20, y1 100, bsome, i0]
    · unfold fX8_day; rw [(h2 NB).1, bsome, i1, (h3 NB).1, bsome, i1, w20, bsome, i1, (y2 NB).1, bsome, i0, (y2 NB).2, bsome, i0]
  have q1 : inb (nI k) 4 = true := inb_nI hk (by decide)
  have q2 : (nI k).toNatClampNeg = k := nI_clamp (by omega)
  have hcls : fX7_day 100 (nI k) (nI la) a3 (nI N) a5 u.1 u.2 = (fX4_faultAs 100 k (nI la) (upd u.1 9 0) u.2).bind fun z8 => if z8.1 = 0 then (fX4_has 100 k a3 (nI (3 * N)) z8.2.1 z8.2.2).bind fun z10 => if z10.1 = 0 then fX7_day_b81 100 a3 (nI N) a5 k 3 z10.2.1 z10.2.2 else fX7_day_b81 100 a3 (nI N) a5 k z8.1 z10.2.1 z10.2.2 else fX7_day_b81 100 a3 (nI N) a5 k z8.1 z8.2.1 z8.2.2 := by
    unfold fX7_day
    rw [(h2 100).2, bsome, i1, (h3 100).2, bsome, i1, if_neg n0, if_neg n20, y1 100, bsome, i1, gpos q1, q2, e3N]
  have hmod : fX8_day NB (nI k) (nI la) a3 (nI N) a5 v.1 v.2 = fX8_day_b57 NB (nI k) (nI la) a3 (nI N) a5 (upd v.1 0 0) v.2 := by
    unfold fX8_day
    rw [(h2 NB).1, bsome, i1, (h3 NB).1, bsome, i1, w20, bsome, i1]
    rcases y2 NB with z | ⟨z1, z2⟩
    · rw [z, bsome, i1]
    · rw [z1, bsome, i0, z2, bsome, i1]
  have b81 : ∀ (f : Int32) (I : Nat → Int32) (R : Nat → Nat → Int32), f ≠ 0 → fX7_day_b81 100 a3 (nI N) a5 k f I R = some (-10 - f, upd I 9 f, R) := by
    intro f I R hf
    unfold fX7_day_b81 fX7_failed
    rw [if_neg hf, bsome]
  have fin : ∀ f : Int32, f ≠ 0 → fX7_day 100 (nI k) (nI la) a3 (nI N) a5 u.1 u.2 = some (-10 - f, upd (upd u.1 9 0) 9 f, u.2) → fX8_against NB (nI k) (nI la) a3 (nI (3 * N)) (upd v.1 0 0) v.2 = some (f, upd v.1 0 0, v.2) → ∃ (n1 : Nat) (z1 : Int32 × mSt) (n2 : Nat) (z2 : Int32 × mSt), fX7_day n1 (nI k) (nI la) a3 (nI N) a5 u.1 u.2 = some z1 ∧ fX8_day n2 (nI k) (nI la) a3 (nI N) a5 v.1 v.2 = some z2 ∧ SimOf (PrOf KK) z1.2 z2.2 := by
    intro f hf hc hm
    refine ⟨100, _, NB, (-10 - f, upd (upd v.1 0 0) 0 f, v.2), hc, ?_, Sim_fault hF h1 f⟩
    rw [hmod]
    unfold fX8_day_b57
    rw [e3N, hm, bsome, if_neg hf]
    rfl
  rcases d_against h1.1 hk hla a3 (nI (3 * N)) with ⟨f, hf, z1, z2⟩ | ⟨z1, z2⟩
  · have hf0 : f ≠ 0 := by rcases hf with rfl | rfl <;> decide
    refine fin f hf0 ?_ (z2 NB)
    rw [hcls, show fX4_faultAs 100 k (nI la) (upd u.1 9 0) u.2 = some (f, upd u.1 9 0, u.2) from z1 100, bsome, if_neg hf0]
    exact b81 f _ _ hf0
  have hfa : fX4_faultAs 100 k (nI la) (upd u.1 9 0) u.2 = some (0, upd u.1 9 0, u.2) := z1 100
  rcases z2 with ⟨h4, _⟩ | ⟨h4, z2, z3⟩ | ⟨h4, i, M, rfl, eM, hiM, z2, z3, z4⟩
  · exact absurd h4 (nI_pos (by omega))
  · refine fin 3 (by decide) ?_ (z3 NB)
    rw [hcls, hfa, bsome, i0]
    dsimp only
    rw [show fX4_has 100 k a3 (nI (3 * N)) (upd u.1 9 0) u.2 = some (0, upd u.1 9 0, u.2) from z2 100, bsome, i0]
    exact b81 3 _ _ (by decide)
  have eM : 3 * N = M := (nI_eq (by omega) (by omega)).mp eM
  subst eM
  have hc81 : fX7_day 100 (nI k) (nI la) (nI i) (nI N) a5 u.1 u.2 = fX7_day_b81 100 (nI i) (nI N) a5 k 0 (upd u.1 9 0) u.2 := by
    rw [hcls, hfa, bsome, i0]
    dsimp only
    rw [show fX4_has 100 k (nI i) (nI (3 * N)) (upd u.1 9 0) u.2 = some (1, upd u.1 9 0, u.2) from z2 100, bsome, i1]
  have hm57 : fX8_day NB (nI k) (nI la) (nI i) (nI N) a5 v.1 v.2 = if (upd v.1 0 0 5) = 0 then some ((-3), upd v.1 0 0, v.2) else fX8_day_b103 NB NB (nI N) a5 (nI (60 * k + i)) 0 (upd v.1 0 0) v.2 := by
    rw [hmod]
    unfold fX8_day_b57
    rw [e3N, show fX8_against NB (nI k) (nI la) (nI i) (nI (3 * N)) (upd v.1 0 0) v.2 = some (0, upd v.1 0 0, v.2) from z3 NB, bsome, i0]
    dsimp only
    rw [e_60]
  obtain ⟨P, hP, hC, hM, hK⟩ := h1.2.2.2
  have hP5 := hP.2.1
  have hNB := NB_big
  have hth : fX2_isThere 100 0 (upd u.1 9 0) u.2 = some (if P.1 = 0 then 0 else 1, upd u.1 9 0, u.2) := e_isThere hP hC
  have h5i : upd v.1 0 0 5 = 0 ↔ P.1 = 0 := i5 hP hM
  by_cases e0 : P.1 = 0
  · refine ⟨100, (-3, upd u.1 9 0, u.2), NB, (-3, upd v.1 0 0, v.2), ?_, ?_, h1⟩
    · rw [hc81]
      unfold fX7_day_b81
      rw [i0, hth, bsome, if_pos e0, i0]
    · rw [hm57, if_pos (h5i.mpr e0)]
  rw [if_neg e0] at hth
  have hm57' : fX8_day NB (nI k) (nI la) (nI i) (nI N) a5 v.1 v.2 = fX8_day_b103 NB NB (nI N) a5 (nI (60 * k + i)) 0 (upd v.1 0 0) v.2 := by
    rw [hm57, if_neg (fun z => e0 (h5i.mp z))]
  rcases (l_acts (n := NB) (k := k) (i := i) (N := N) (a5 := a5) (u := (upd u.1 9 0, u.2)) (v := (upd v.1 0 0, v.2)) hiM hk z4 (by omega) (by omega)).2 with ⟨c1, c2⟩ | ⟨c1, c2, c3⟩
  · refine ⟨100, (-2, upd u.1 9 0, u.2), NB, (-2, upd v.1 0 0, v.2), ?_, ?_, h1⟩
    · rw [hc81]
      unfold fX7_day_b81
      rw [i0, hth, bsome, i1]
      dsimp only
      rw [show fX7_areActs 100 k (nI i) (nI N) (upd u.1 9 0) u.2 = some (0, upd u.1 9 0, u.2) from c1, bsome, i0]
    · rw [hm57']; exact c2
  obtain ⟨u2, t1, t2, t3, t4⟩ := RepC.takeD (n := 100) hP hC
  have t1 : fX6_take 100 1 0 (upd u.1 9 0) u.2 = some u2 := t1
  obtain ⟨S, s1, s2, s3, s4⟩ := l_keep (n := NB) (a4 := nI N) (a5 := a5) (a7 := nI (60 * k + i)) (J := upd v.1 0 0) (R := v.2) (by omega)
  have hMS : RepM P (upd v.1 0 0, S) := hM.fr (R := S) (fun k hk => s4 _ (by omega) (by omega))
  obtain ⟨w, Q, u3, v3, d1, d2, d3, d4, d5, d6, d7, d8, d9, d10⟩ := l_go (n := NB) (k := k) (i := i) (N := N) hiM hk (by omega) (by omega) N 0 100 NB P u2 (upd v.1 0 0, S) (by omega) (by omega) (by omega) hP hK.1 t2 hMS t3 (fun s hs => by
      rw [t4.2 _ (by omega)]
      show u.2 (1001 + 10 * k) s = S 4 (60 * k + s)
      rw [s4 4 (by decide) (by decide)]
      exact z4 s hs) (fun s hs => by rw [t4.2 _ (by omega)]; exact c3 s hs)
  have d1 : fX7_firstWrong_b17 100 k 100 (nI i) (nI N) 0 u2.1 u2.2 = some (w, u3) := d1
  have d2 : fX8_goDay_b2 NB NB (nI (60 * k + i)) (nI N) 0 (upd v.1 0 0) S = some (w, v3) := d2
  have f3 : FrW 1 (upd u.1 9 0, u.2) u3 := t4.trans d8
  have hcl : ∃ x u', fX7_day 100 (nI k) (nI la) (nI i) (nI N) a5 u.1 u.2 = some (x, u') ∧ FrW 1 (upd u.1 9 0, u.2) u' := by
    obtain ⟨u4, e1, e2, e3, e4, e5⟩ := e_settle (n := 100) (w := 1) d3 d5 d4 (Or.inl d7) (by decide)
    obtain ⟨x, hx⟩ := c_ofDraft (n := 100) (a := a5) d3 e4 e2 (by decide)
    rw [hc81]
    unfold fX7_day_b81 fX7_firstWrong
    rw [i0, hth, bsome, i1]
    dsimp only
    rw [show fX7_areActs 100 k (nI i) (nI N) (upd u.1 9 0) u.2 = some (1, upd u.1 9 0, u.2) from c1, bsome, i1]
    dsimp only
    rw [t1, bsome, d1, bsome]
    dsimp only
    rw [e1, bsome, hx, bsome]
    split
    · exact ⟨_, u3, rfl, f3⟩
    · split
      · exact ⟨_, u4, rfl, f3.trans e5⟩
      · exact ⟨_, u3, rfl, f3⟩
  obtain ⟨y, v4, g1, g2⟩ := t_tellDay (n := NB) (a := a5) d3 d6 d4 y3 hNB
  obtain ⟨x', S5, b1, b2, b3, b4⟩ := l_back (n := NB) (a5 := a5) (w := w) (t := y) (J := v4.1) (R := v4.2) (by omega)
  have hml : fX8_day NB (nI k) (nI la) (nI i) (nI N) a5 v.1 v.2 = some (x', v4.1, S5) := by
    rw [hm57', show fX8_day_b103 NB NB (nI N) a5 (nI (60 * k + i)) 0 (upd v.1 0 0) v.2 = fX8_day_b164 NB NB (nI N) a5 (nI (60 * k + i)) 0 (upd v.1 0 0) v.2 from c2, s1]
    unfold fX8_goDay
    rw [d2, bsome]
    dsimp only
    rw [g1, bsome]
    exact b1
  obtain ⟨x, u', hx1, hx2⟩ := hcl
  have hint : ∀ j, j ≠ 25 → v4.1 j = upd v.1 0 0 j := fun j hj => by rw [g2.1 j hj, d9]
  have hrow : ∀ j, j < 21 ∨ 30 < j → j ≠ 9 → j ≠ 13 → S5 j = v.2 j := fun j hj h9 h13 => by
    rw [b4 j h9 h13, g2.2 j (by omega), d10 j h9 h13]
    exact s4 j (by omega) (by omega)
  have h29 : v4.2 29 = S 29 := by rw [g2.2 29 (by decide), d10 29 (by decide) (by decide)]
  have h30 : v4.2 30 = S 30 := by rw [g2.2 30 (by decide), d10 30 (by decide) (by decide)]
  refine ⟨100, (x, u'), NB, (x', v4.1, S5), hx1, hml, Sim_world h1 (fun j hj => hx2.1 j (by omega)) (fun j hj => hx2.2 j (by omega)) (fun j hj => hint j (by omega)) (fun j hj => hrow j (by omega) (by omega) (by omega)) ⟨P, hP, hC.mk (hx2.1 _ (by omega)) (hx2.1 _ (by omega)) (fun j hj => hx2.2 _ (by omega)), ⟨?_, ?_, fun j hj r hr => ?_, fun r hr => ?_, fun f hf => ?_⟩, hK.fr (fun j a b => hx2.1 j (by omega)) (fun j a b => hx2.2 j (by omega))⟩⟩
  · rw [hint 5 (by decide)]; exact hM.1
  · rw [hint 6 (by decide)]; exact hM.2.1
  · show S5 (7 + j) r = _
    by_cases e9 : 7 + j = 9
    · rw [e9, b3 r (by omega), h30, s3 r (by omega), ← e9]
      exact hM.2.2.1 j hj r hr
    · rw [hrow (7 + j) (by omega) e9 (by omega)]
      exact hM.2.2.1 j hj r hr
  · show S5 12 r = _
    rw [hrow 12 (by decide) (by decide) (by decide)]
    exact hM.2.2.2.1 r hr
  · show S5 13 f = _
    rw [b2 f hf, h29, s2 f hf]
    exact hM.2.2.2.2 f hf
