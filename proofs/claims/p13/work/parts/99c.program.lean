/-! program, both sides -/
theorem st_program : St_program (SimOf (PrOf KK)) := by
  intro a1 a2 a3 a4 u v h
  have hF := frm_of frKK
  have h1 := Sim_fault hF h 0
  rcases d_sheet a1 with h0 | ⟨k, hk, rfl, h2⟩
  · refine ⟨100, (-1, upd u.1 9 0, u.2), 100, (-1, upd v.1 0 0, v.2), ?_, ?_, rfl, h1⟩
    · unfold fX7_program; rw [(h0 100).2, bsome, i0]
    · unfold fX8_program; rw [(h0 100).1, bsome, i0]
  rcases d_lane a2 with h0 | ⟨la, hla, rfl, h3⟩
  · refine ⟨100, (-2, upd u.1 9 0, u.2), 100, (-2, upd v.1 0 0, v.2), ?_, ?_, rfl, h1⟩
    · unfold fX7_program; rw [(h2 100).2, bsome, i1, (h0 100).2, bsome, i0]
    · unfold fX8_program; rw [(h2 100).1, bsome, i1, (h0 100).1, bsome, i0]
  have q1 : inb (nI k) 4 = true := inb_nI hk (by decide)
  have q2 : (nI k).toNatClampNeg = k := nI_clamp (by omega)
  have b72 : ∀ (f : Int32) (I : Nat → Int32) (R : Nat → Nat → Int32), f ≠ 0 → fX7_program_b72 100 a3 a4 k f I R = some (-10 - f, upd I 9 f, R) := by
    intro f I R hf
    unfold fX7_program_b72 fX7_failed
    rw [if_neg hf, bsome]
  have fin : ∀ f : Int32, f ≠ 0 → fX7_program 100 (nI k) (nI la) a3 a4 u.1 u.2 = some (-10 - f, upd (upd u.1 9 0) 9 f, u.2) → fX8_against 100 (nI k) (nI la) a3 a4 (upd v.1 0 0) v.2 = some (f, upd v.1 0 0, v.2) → ∃ (n1 : Nat) (z1 : Int32 × mSt) (n2 : Nat) (z2 : Int32 × mSt), fX7_program n1 (nI k) (nI la) a3 a4 u.1 u.2 = some z1 ∧ fX8_program n2 (nI k) (nI la) a3 a4 v.1 v.2 = some z2 ∧ z1.1 = z2.1 ∧ SimOf (PrOf KK) z1.2 z2.2 := by
    intro f hf hc hm
    refine ⟨100, _, 100, (-10 - f, upd (upd v.1 0 0) 0 f, v.2), hc, ?_, rfl, Sim_fault hF h1 f⟩
    unfold fX8_program
    rw [(h2 100).1, bsome, i1, (h3 100).1, bsome, i1, hm, bsome, if_neg hf]
    rfl
  rcases d_against h1.1 hk hla a3 a4 with ⟨f, hf, z1, z2⟩ | ⟨z1, z2⟩
  · have hf0 : f ≠ 0 := by rcases hf with rfl | rfl <;> decide
    refine fin f hf0 ?_ (z2 100)
    unfold fX7_program
    rw [(h2 100).2, bsome, i1, (h3 100).2, bsome, i1, gpos q1, q2, show fX4_faultAs 100 k (nI la) (upd u.1 9 0) u.2 = some (f, upd u.1 9 0, u.2) from z1 100, bsome, if_neg hf0]
    dsimp only
    unfold fX7_program_b53
    rw [if_neg hf0]
    exact b72 f _ _ hf0
  have hfa : fX4_faultAs 100 k (nI la) (upd u.1 9 0) u.2 = some (0, upd u.1 9 0, u.2) := z1 100
  rcases z2 with ⟨h4, z2⟩ | ⟨h4, z2, z3⟩ | ⟨h4, i, N, rfl, rfl, hiN, z2, z3, z4⟩
  · refine fin 4 (by decide) ?_ (z2 100)
    unfold fX7_program
    rw [(h2 100).2, bsome, i1, (h3 100).2, bsome, i1, gpos q1, q2, hfa, bsome, i0, if_neg (fun z => absurd h4 (Int32.not_lt.mpr z))]
    dsimp only
    unfold fX7_program_b53
    rw [if_neg (by decide)]
    exact b72 4 _ _ (by decide)
  · refine fin 3 (by decide) ?_ (z3 100)
    unfold fX7_program
    rw [(h2 100).2, bsome, i1, (h3 100).2, bsome, i1, gpos q1, q2, hfa, bsome, i0, if_pos (Int32.not_lt.mp h4)]
    dsimp only
    unfold fX7_program_b53
    rw [i0, show fX4_has 100 k a3 a4 (upd u.1 9 0) u.2 = some (0, upd u.1 9 0, u.2) from z2 100, bsome, i0]
    dsimp only
    exact b72 3 _ _ (by decide)
  have hcp : fX7_program 100 (nI k) (nI la) (nI i) (nI N) u.1 u.2 = (fX7_programOf 100 k (nI i) (nI N) (upd u.1 9 0) u.2).bind fun z18 => some (z18.1, z18.2.1, z18.2.2) := by
    unfold fX7_program
    rw [(h2 100).2, bsome, i1, (h3 100).2, bsome, i1, gpos q1, q2, hfa, bsome, i0, if_pos (Int32.not_lt.mp h4)]
    dsimp only
    unfold fX7_program_b53 fX7_program_b72
    rw [i0, show fX4_has 100 k (nI i) (nI N) (upd u.1 9 0) u.2 = some (1, upd u.1 9 0, u.2) from z2 100, bsome, i1, i0]
  obtain ⟨P, hP, hC, hM, hK⟩ := h1.2.2.2
  have hP5 := hP.2.1
  have hrd := p_reads (g := 100) (u := (upd u.1 9 0, u.2)) (v := (upd v.1 0 0, v.2)) hk hiN z4 (by decide)
  have hm0 : ∀ w, fX8_readAll 100 (nI (60 * k + i + N)) (upd (upd v.1 0 0) 14 (nI (60 * k + i))) v.2 = some w → fX8_program 100 (nI k) (nI la) (nI i) (nI N) v.1 v.2 = if w.1 = 0 then some (((-100) - ((w.2.1 14) - nI (60 * k + i))), w.2.1, w.2.2) else (fX8_keepRules 100 w.2.1 w.2.2).bind fun z9 => (fX8_takeRules 100 z9.1 z9.2).bind fun z11 => (fX8_goesRoundBy 100 z11.1 z11.2).bind fun z13 => if z13.1 = (-9) then fX8_program_b143 100 100 0 z13.2.1 z13.2.2 else (fX8_putRulesBack 100 (upd (upd z13.2.1 5 (w.2.1 5)) 6 (w.2.1 6)) z13.2.2).bind fun z15 => some (((-200) - z13.1), z15.1, z15.2) := by
    intro w hw
    unfold fX8_program
    rw [(h2 100).1, bsome, i1, (h3 100).1, bsome, i1, show fX8_against 100 (nI k) (nI la) (nI i) (nI N) (upd v.1 0 0) v.2 = some (0, upd v.1 0 0, v.2) from z3 100, bsome, i0]
    dsimp only
    rw [e_60, nI_add, hw, bsome]
  -- the old program stands
  have hold : ∀ (u' v' : mSt), (∀ i, (i < 50 ∨ (54 < i ∧ i < 200) ∨ 300 ≤ i) → u'.1 i = upd u.1 9 0 i) → (∀ k, (k < 51 ∨ (51 < k ∧ k < 200) ∨ 300 ≤ k) → u'.2 k = u.2 k) → (∀ i, (i < 14 ∨ 17 < i) → v'.1 i = upd v.1 0 0 i) → (∀ k, (k < 7 ∨ k = 13 ∨ 20 < k) → v'.2 k = v.2 k) → (∀ r, r < 5 → ∀ k, k < 6 → v'.2 (7 + k) r = v.2 (7 + k) r) → SimOf (PrOf KK) u' v' := by
    intro u' v' f1 f2 f3 f4 f5
    refine Sim_world2 h1 (fun i hi => f1 i (by omega)) (fun i hi => f2 i (by omega)) (fun i hi => f3 i (by omega)) (fun i hi => f4 i (by omega)) ⟨P, hP, hC.mk (f1 _ (by omega)) (f1 _ (by omega)) (fun k hk => f2 _ (by omega)), ⟨?_, ?_, fun k hk r hr => ?_, fun r hr => ?_, fun f hf => ?_⟩, hK.fr (fun i a b => f1 i (by omega)) (fun i a b => f2 i (by omega))⟩
    · rw [f3 5 (by decide)]; exact hM.1
    · rw [f3 6 (by decide)]; exact hM.2.1
    · rw [f5 r (by omega) k (by omega)]; exact hM.2.2.1 k hk r hr
    · rw [show (12 : Nat) = 7 + 5 from rfl, f5 r (by omega) 5 (by decide)]; exact hM.2.2.2.1 r hr
    · rw [f4 13 (by decide)]; exact hM.2.2.2.2 f hf
  rcases hrd with ⟨P', m, u', v', hP', hP1', c1, c2, hC', hM', fT, fV⟩ | ⟨p, u', v', c1, c2, e53, e14, fT, fV⟩
  rotate_left
  · refine ⟨100, (-100 - nI p, u'), 100, (-100 - nI p, v'), ?_, ?_, rfl, hold u' v' (fun i hi => fT.1 i (by omega)) (fun k hk => fT.2 k (by omega)) (fun i hi => fV.1 i hi) (fun k hk => fV.2 k (by omega)) (fun r _ k hk => by rw [fV.2 _ (by omega)])⟩
    · rw [hcp]
      unfold fX7_programOf
      rw [show fX5_reads 100 k 1 (nI i) (nI N) (upd u.1 9 0) u.2 = some (0, u') from c1, bsome, i0, e53]
      rfl
    · rw [hm0 _ c2, i0, e14, show nI (60 * k + i + p) - nI (60 * k + i) = nI p by rw [pk_sub (by omega)]; congr 1; omega]
  have hP5' := hP'.2.1
  obtain ⟨S1, k1, k2, k3⟩ := e_keep (g := 100) (J := v'.1) (S := v'.2) (by decide)
  obtain ⟨S2, t1, t2, t3⟩ := e_takeM (g := 100) (m := P'.2.1) (J := v'.1) (S := S1) hP5' hM'.2.1 (by decide)
  have hG : RepG P' (upd (upd v'.1 5 (v'.1 15)) 6 (nI P'.2.1), S2) := by
    refine ⟨?_, by dsimp only; exact upd_at, fun kk hkk r hr => ?_, fun r hr => ?_⟩
    · dsimp only; rw [upd_no (by decide), upd_at]; exact hM'.1
    · show S2 (7 + kk) r = _
      rw [t2 r hr kk (by omega), k3 18 (by decide)]
      exact hM'.2.2.2.2.1 r hr kk hkk
    · show S2 (7 + 5) r = _
      rw [t2 r hr 5 (by decide), k3 18 (by decide)]
      exact hM'.2.2.2.2.2.1 r hr
  obtain ⟨x, g1, g2⟩ := e_goesRoundBy (n := 100) hP' hG (by decide)
  have g1 : fX8_goesRoundBy 100 (upd (upd v'.1 5 (v'.1 15)) 6 (nI P'.2.1)) S2 = some (x, upd (upd v'.1 5 (v'.1 15)) 6 (nI P'.2.1), S2) := g1
  obtain ⟨R1, b, a1, a2, _, a4⟩ := e_find (n := 100) (w := 1) hP' hC' (by decide)
  have hC1 : RepC P' 1 (u'.1, R1) := hC'.fr (fun k hk => a4 _ (by omega))
  have hm1 : fX8_program 100 (nI k) (nI la) (nI i) (nI N) v.1 v.2 = if x = (-9) then fX8_program_b143 100 100 0 (upd (upd v'.1 5 (v'.1 15)) 6 (nI P'.2.1)) S2 else (fX8_putRulesBack 100 (upd (upd (upd (upd v'.1 5 (v'.1 15)) 6 (nI P'.2.1)) 5 (v'.1 5)) 6 (v'.1 6)) S2).bind fun z15 => some (((-200) - x), z15.1, z15.2) := by
    rw [hm0 _ c2, i1]
    dsimp only
    rw [k1, bsome]
    dsimp only
    rw [t1, bsome]
    dsimp only
    rw [g1, bsome]
  by_cases hL : LayP P'
  · have hb : b = true := a2.mpr hL
    have hx : x = (-9) := by
      rcases g2 with ⟨z, _⟩ | ⟨q, z1, _, z2, _⟩
      · exact z
      · exact absurd z2 (lay_nbad hP' hL q)
    obtain ⟨u2, w1, w2, w3, w4, w5⟩ := RepC.take (n := 100) hP' hC1
    have w1 : fX6_take 100 0 1 u'.1 R1 = some u2 := w1
    obtain ⟨S3, y1, y2, y3⟩ := e_tellAll (P := P') (g := 100) (J := v'.1) (S := v'.2) hP'.1 hM' (upd (upd v'.1 5 (v'.1 15)) 6 (nI P'.2.1)) S2 (by rw [upd_no (by decide), upd_no (by decide)]; exact hM'.2.2.1) (by rw [t3 19 (by decide), k3 19 (by decide)]) (by decide)
    have hu2 : ∀ i, i < 50 ∨ 1000 ≤ i → i ≠ 7 → upd u2.1 7 0 i = upd u.1 9 0 i := fun i hi h7 => by
      rw [upd_no h7, w4 i (by omega)]
      exact fT.1 i (by omega)
    have hr2 : ∀ i, i < 50 ∨ 1000 ≤ i → u2.2 i = u.2 i := fun i hi => by
      rw [w5 i (by omega)]
      show R1 i = u.2 i
      rw [a4 i (by omega)]
      exact fT.2 i (by omega)
    have hv3 : ∀ i, i < 2 → upd (upd (upd v'.1 5 (v'.1 15)) 6 (nI P'.2.1)) 31 0 i = upd v.1 0 0 i := fun i hi => by
      rw [upd_no (by omega), upd_no (by omega), upd_no (by omega)]
      exact fV.1 i (by omega)
    have hs3 : ∀ i, i < 5 → S3 i = v.2 i := fun i hi => by
      rw [y3 i (by omega), t3 i (by omega), k3 i (by omega)]
      exact fV.2 i (by omega)
    refine ⟨100, (nI P'.2.1, upd u2.1 7 0, u2.2), 100, (nI P'.2.1, upd (upd (upd v'.1 5 (v'.1 15)) 6 (nI P'.2.1)) 31 0, S3), ?_, ?_, rfl, h1.1.mk (fun i hi => hu2 i (Or.inr hi) (by omega)) (fun i hi => hr2 i (Or.inr hi)) (hs3 2 (by decide)) (hs3 3 (by decide)) (hs3 4 (by decide)), ⟨0, by decide, by dsimp only; exact upd_at, by dsimp only; exact upd_at, fun k hk => absurd hk (by omega)⟩, ⟨?_, ?_⟩, P', hP', ?_, ?_, hL, Or.inl ?_⟩
    · rw [hcp]
      unfold fX7_programOf
      rw [show fX5_reads 100 k 1 (nI i) (nI N) (upd u.1 9 0) u.2 = some (1, u') from c1, bsome, i1]
      dsimp only
      rw [a1, hb, bsome, if_neg (show ¬ b01 true = 0 by decide)]
      dsimp only
      rw [w1, bsome, bsome, show upd u2.1 7 0 (119 + 100 * 0) = nI P'.2.1 by rw [upd_no (by decide)]; exact w2.2.1]
    · rw [hm1, if_pos hx, y1, show upd (upd (upd v'.1 5 (v'.1 15)) 6 (nI P'.2.1)) 31 0 6 = nI P'.2.1 by rw [upd_no (by decide), upd_at]]
    · dsimp only
      rw [hu2 9 (by decide) (by decide), hv3 0 (by decide)]
      exact h1.2.2.1.1
    · dsimp only
      rw [hu2 8 (by decide) (by decide), hv3 1 (by decide)]
      exact h1.2.2.1.2
    · exact w2.mk (by dsimp only; rw [upd_no (by decide)]) (by dsimp only; rw [upd_no (by decide)]) (fun _ _ => rfl)
    · refine ⟨?_, ?_, fun kk hkk r hr => ?_, fun r hr => ?_, fun f hf => y2 f hf⟩
      · dsimp only; rw [upd_no (by decide)]; exact hG.1
      · dsimp only; rw [upd_no (by decide)]; exact hG.2.1
      · show S3 (7 + kk) r = _
        rw [y3 _ (by omega)]; exact hG.2.2.1 kk hkk r hr
      · show S3 12 r = _
        rw [y3 _ (by omega)]; exact hG.2.2.2 r hr
    · dsimp only
      rw [upd_no (by decide)]
      exact w3
  · have hb : b = false := by
      cases b with
      | false => rfl
      | true => exact absurd (a2.mp rfl) hL
    have hex : ∃ q, q < P'.1 ∧ bad P' q := by
      refine Classical.byContradiction (fun hno => hL ((lay_iff hP').mpr (fun q hq hbad => hno ⟨q, hq, hbad⟩)))
    obtain ⟨y, R2, r1, r2, q, q1', rfl, q2', q3'⟩ := e_goingRound (n := 100) hP' hC1 hex (by decide)
    have hx : x = nI q := by
      rcases g2 with ⟨_, z⟩ | ⟨q', z1, z2, z3, z4⟩
      · exact absurd q2' (z q q1')
      · by_cases e : q' = q
        · rw [z2, e]
        · by_cases e2 : q' < q
          · exact absurd z3 (q3' q' e2)
          · exact absurd q2' (z4 q (by omega))
    have hq4 := hP'.1
    have hx9 : ¬ x = (-9) := by rw [hx]; exact nI_n9 (by omega)
    obtain ⟨S4, y1, y2, y3⟩ := e_putBack (g := 100) (J := upd (upd (upd (upd v'.1 5 (v'.1 15)) 6 (nI P'.2.1)) 5 (v'.1 5)) 6 (v'.1 6)) (S := S2) (by decide)
    refine ⟨100, (-200 - nI q, u'.1, R2), 100, (-200 - nI q, upd (upd (upd (upd v'.1 5 (v'.1 15)) 6 (nI P'.2.1)) 5 (v'.1 5)) 6 (v'.1 6), S4), ?_, ?_, rfl, hold _ _ (fun i hi => fT.1 i (by omega)) (fun kk hkk => ?_) (fun i hi => ?_) (fun kk hkk => ?_) (fun r hr kk hkk => ?_)⟩
    · rw [hcp]
      unfold fX7_programOf
      rw [show fX5_reads 100 k 1 (nI i) (nI N) (upd u.1 9 0) u.2 = some (1, u') from c1, bsome, i1]
      dsimp only
      rw [a1, hb, bsome, if_pos (show b01 false = 0 from rfl)]
      dsimp only
      rw [r1, bsome, bsome]
    · rw [hm1, if_neg hx9, y1, bsome, hx]
    · show R2 kk = u.2 kk
      rw [r2 kk (by omega), a4 kk (by omega)]
      exact fT.2 kk (by omega)
    · dsimp only
      by_cases e6 : i = 6
      · rw [e6, upd_at]; exact fV.1 6 (by decide)
      · rw [upd_no e6]
        by_cases e5 : i = 5
        · rw [e5, upd_at]; exact fV.1 5 (by decide)
        · rw [upd_no e5, upd_no e6, upd_no e5]; exact fV.1 i hi
    · show S4 kk = v.2 kk
      rw [y3 kk (by omega), t3 kk (by omega), k3 kk (by omega)]
      exact fV.2 kk (by omega)
    · show S4 (7 + kk) r = v.2 (7 + kk) r
      rw [y2 r hr kk hkk, t3 20 (by decide), k2 r hr kk hkk]
      rw [fV.2 _ (by omega)]
