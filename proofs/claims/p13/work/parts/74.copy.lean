/-! copy -/
def cpM (R : Nat → Nat → Int32) (A B lo hi : Nat) : Nat → Nat → Int32 := fun t => if t = 4 then (fun s => if lo ≤ s ∧ s < hi then R 4 (A + (s - B)) else R 4 s) else R t
theorem cpM_e (R : Nat → Nat → Int32) (A B lo : Nat) : cpM R A B lo lo = R := by
  funext t s
  unfold cpM
  by_cases h : t = 4
  · rw [if_pos h, if_neg (by omega), h]
  · rw [if_neg h]
theorem cpM_4 (R : Nat → Nat → Int32) (A B lo hi s : Nat) : cpM R A B lo hi 4 s = if lo ≤ s ∧ s < hi then R 4 (A + (s - B)) else R 4 s := rfl
theorem e_idx {k i q : Nat} : ((60 * nI k) + nI i) + nI q = nI (60 * k + i + q) := by rw [e_60, nI_add]
theorem e_fwd {n k i o j m : Nat} {I : Nat → Int32} {R : Nat → Nat → Int32} (h1 : 60 * k + i + m ≤ 240) (h2 : 60 * o + j + m ≤ 240) (hd : 60 * o + j ≤ 60 * k + i ∨ 60 * k + i + m ≤ 60 * o + j) : ∀ (g q : Nat), q ≤ m → m < q + g → fX8_copy_b166 n g (nI k) (nI i) (nI o) (nI j) (nI m) 0 (nI q) I (cpM R (60 * k + i) (60 * o + j) (60 * o + j) (60 * o + j + q)) = some (nI m, I, cpM R (60 * k + i) (60 * o + j) (60 * o + j) (60 * o + j + m)) := by
  intro g
  induction g with
  | zero => intro q h3 h4; exact absurd h4 (by omega)
  | succ g ih =>
    intro q h3 h4
    rw [fX8_copy_b166]
    by_cases h : q = m
    · subst h
      rw [if_pos (nI_le (Nat.le_refl _) (by omega))]
    · rw [if_neg (nI_ge (show q < m by omega) (by omega)), i0]
      unfold fX8_copy_b190
      rw [e_idx, e_idx, gpos (inb_nI (show 60 * k + i + q < 240 by omega) (by decide)), gpos (inb_nI (show 60 * o + j + q < 240 by omega) (by decide)), nI_1, getA_nI (by omega), cpM_4, if_neg (by omega)]
      rw [← ih (q + 1) (by omega) (by omega)]
      congr 1
      funext t s
      by_cases ht : t = 4
      · subst ht
        rw [setA_at (by omega), cpM_4, cpM_4]
        by_cases h5 : s = 60 * o + j + q
        · rw [if_pos h5, if_pos (by omega)]
          congr 1
          omega
        · rw [if_neg h5]
          by_cases h6 : 60 * o + j ≤ s ∧ s < 60 * o + j + q
          · rw [if_pos h6, if_pos (by omega)]
          · rw [if_neg h6, if_neg (by omega)]
      · rw [setA_ne ht]
        unfold cpM
        rw [if_neg ht, if_neg ht]
theorem e_bwd {n k i o j m : Nat} {I : Nat → Int32} {R : Nat → Nat → Int32} (h1 : 60 * k + i + m ≤ 240) (h2 : 60 * o + j + m ≤ 240) (hd : 60 * k + i ≤ 60 * o + j ∨ 60 * o + j + m ≤ 60 * k + i) : ∀ (g q : Nat), q ≤ m → m < q + g → fX8_copy_b166 n g (nI k) (nI i) (nI o) (nI j) (nI m) 1 (nI q) I (cpM R (60 * k + i) (60 * o + j) (60 * o + j + (m - q)) (60 * o + j + m)) = some (nI m, I, cpM R (60 * k + i) (60 * o + j) (60 * o + j) (60 * o + j + m)) := by
  intro g
  induction g with
  | zero => intro q h3 h4; exact absurd h4 (by omega)
  | succ g ih =>
    intro q h3 h4
    rw [fX8_copy_b166]
    by_cases h : q = m
    · subst h
      rw [if_pos (nI_le (Nat.le_refl _) (by omega)), Nat.sub_self, Nat.add_zero]
    · rw [if_neg (nI_ge (show q < m by omega) (by omega)), i1, show nI m - 1 = nI (m - 1) from pk_sub (a := m) (b := 1) (by omega), pk_sub (show q ≤ m - 1 by omega)]
      unfold fX8_copy_b190
      rw [e_idx, e_idx, gpos (inb_nI (show 60 * k + i + (m - 1 - q) < 240 by omega) (by decide)), gpos (inb_nI (show 60 * o + j + (m - 1 - q) < 240 by omega) (by decide)), nI_1, getA_nI (by omega), cpM_4, if_neg (by omega)]
      rw [← ih (q + 1) (by omega) (by omega)]
      congr 1
      funext t s
      by_cases ht : t = 4
      · subst ht
        rw [setA_at (by omega), cpM_4, cpM_4]
        by_cases h5 : s = 60 * o + j + (m - 1 - q)
        · rw [if_pos h5, if_pos (by omega)]
          congr 1
          omega
        · rw [if_neg h5]
          by_cases h6 : 60 * o + j + (m - q) ≤ s ∧ s < 60 * o + j + m
          · rw [if_pos h6, if_pos (by omega)]
          · rw [if_neg h6, if_neg (by omega)]
      · rw [setA_ne ht]
        unfold cpM
        rw [if_neg ht, if_neg ht]
theorem has01 {n k : Nat} {a b : Int32} {I : Nat → Int32} {R : Nat → Nat → Int32} : fX4_has n k a b I R = some (0, I, R) ∨ (fX4_has n k a b I R = some (1, I, R) ∧ ¬ a < 0 ∧ ¬ I (1004 + 10 * k) < a ∧ ¬ b < 0 ∧ ¬ I (1004 + 10 * k) - a < b) := by
  unfold fX4_has
  by_cases h1 : a < 0
  · exact Or.inl (if_pos h1)
  · rw [if_neg h1]
    by_cases h2 : I (1004 + 10 * k) < a
    · exact Or.inl (if_pos h2)
    · rw [if_neg h2]
      by_cases h3 : b < 0
      · exact Or.inl (if_pos h3)
      · rw [if_neg h3]
        by_cases h4 : I (1004 + 10 * k) - a < b
        · exact Or.inl (if_pos h4)
        · exact Or.inr ⟨if_neg h4, h1, h2, h3, h4⟩
theorem le_nat {a b : Int32} {sz : Nat} (hs : sz ≤ 60) (h1 : ¬ a < 0) (h2 : ¬ nI sz < a) (h3 : ¬ b < 0) (h4 : ¬ nI sz - a < b) : ∃ i m : Nat, a = nI i ∧ b = nI m ∧ i + m ≤ sz := by
  obtain ⟨i, hi, rfl⟩ := nI_of h1
  obtain ⟨m, hm, rfl⟩ := nI_of h3
  have e2 : ¬ sz < i := fun h => h2 ((nI_ltI (by omega) hi).mpr h)
  rw [pk_sub (by omega)] at h4
  have e4 : ¬ sz - i < m := fun h => h4 ((nI_ltI (by omega) hm).mpr h)
  exact ⟨i, m, rfl, rfl, by omega⟩
theorem e_cpA {R : Nat → Nat → Int32} {a b i j m t s : Nat} (hi : i < 2 ^ 31) (hj : j < 2 ^ 31) (hm : m < 2 ^ 31) : cpA R a b (nI i) (nI j) (nI m) t s = if t = b then (if j ≤ s ∧ s < j + m then R a (i + (s - j)) else R b s) else R t s := by
  unfold cpA
  rw [nI_clamp hi, nI_clamp hj, nI_clamp hm]
  by_cases h : t = b
  · rw [if_pos h, if_pos h]
    by_cases h2 : j ≤ s ∧ s < j + m
    · rw [if_pos h2, pk_cpy_in h2.1 h2.2]
    · rw [if_neg h2, pk_cpy_out (by omega)]
  · rw [if_neg h, if_neg h]
theorem e_cpOk {i j m : Nat} (h1 : i + m ≤ 60) (h2 : j + m ≤ 60) : cpOk 60 60 (nI i) (nI j) (nI m) = true :=
  decide_eq_true ⟨nI_pos (by omega), nI_pos (by omega), nI_pos (by omega), by rw [nI_clamp (by omega), nI_clamp (by omega)]; exact h1, by rw [nI_clamp (by omega), nI_clamp (by omega)]; exact h2⟩
theorem SimSh.copy {u v : mSt} (h : SimSh u v) {k o i j m : Nat} (hk : k < 4) (ho : o < 4) (h1 : i + m ≤ 60) (h2 : j + m ≤ 60) (e7 : ∀ i, i < 60 → u.2 (1001 + 10 * k) i = v.2 4 (60 * k + i)) : SimSh (upd u.1 9 0, cpA u.2 (1001 + 10 * k) (1001 + 10 * o) (nI i) (nI j) (nI m)) (upd v.1 0 0, cpM v.2 (60 * k + i) (60 * o + j) (60 * o + j) (60 * o + j + m)) := by
  intro t ht
  show (upd u.1 9 0 (1002 + 10 * t) = 0 ∧ v.2 2 t = (-9)) ∨ (upd u.1 9 0 (1002 + 10 * t) = 1 ∧ ∃ la sz : Nat, la < 3 ∧ sz ≤ 60 ∧ upd u.1 9 0 (1003 + 10 * t) = nI la ∧ v.2 2 t = nI la ∧ upd u.1 9 0 (1004 + 10 * t) = nI sz ∧ v.2 3 t = nI sz ∧ ∀ s, s < 60 → cpA u.2 (1001 + 10 * k) (1001 + 10 * o) (nI i) (nI j) (nI m) (1001 + 10 * t) s = cpM v.2 (60 * k + i) (60 * o + j) (60 * o + j) (60 * o + j + m) 4 (60 * t + s))
  rw [upd_no (by omega), upd_no (by omega), upd_no (by omega)]
  rcases h t ht with h9 | ⟨f1, la, sz, h3, h4, f3, f4, f5, f6, f7⟩
  · exact Or.inl h9
  · refine Or.inr ⟨f1, la, sz, h3, h4, f3, f4, f5, f6, fun s hs => ?_⟩
    rw [e_cpA (by omega) (by omega) (by omega), cpM_4]
    by_cases e : t = o
    · subst e
      rw [if_pos rfl]
      by_cases h5 : j ≤ s ∧ s < j + m
      · rw [if_pos h5, if_pos (by omega), e7 _ (by omega)]
        rw [show 60 * k + (i + (s - j)) = 60 * k + i + (60 * t + s - (60 * t + j)) by omega]
      · rw [if_neg h5, if_neg (by omega)]
        exact f7 s hs
    · rw [if_neg (by omega), if_neg (by omega)]
      exact f7 s hs
theorem st_copy {Pr : mSt → mSt → Prop} (hF : Frm Pr) : St_copy (SimOf Pr) := by
  intro a1 a2 a3 a4 a5 u v h
  rcases d_sheet a1 with h0 | ⟨k, hk, rfl, h1⟩
  · refine ⟨0, (-1, upd u.1 9 0, u.2), 0, (-1, upd v.1 0 0, v.2), ?_, ?_, rfl, Sim_fault hF h 0⟩
    · unfold fX7_copy; rw [(h0 0).2, bsome, i0]
    · unfold fX8_copy; rw [(h0 0).1, bsome, i0]
  rcases d_sheet a3 with h0 | ⟨o, ho, rfl, h2⟩
  · refine ⟨0, (-1, upd u.1 9 0, u.2), 0, (-1, upd v.1 0 0, v.2), ?_, ?_, rfl, Sim_fault hF h 0⟩
    · unfold fX7_copy; rw [(h1 0).2, bsome, i1, (h0 0).2, bsome, i0]
    · unfold fX8_copy; rw [(h1 0).1, bsome, i1, (h0 0).1, bsome, i0]
  have q1 : inb (nI k) 4 = true := inb_nI hk (by decide)
  have q2 : (nI k).toNatClampNeg = k := nI_clamp (by omega)
  have q3 : inb (nI o) 4 = true := inb_nI ho (by decide)
  have q4 : (nI o).toNatClampNeg = o := nI_clamp (by omega)
  have g2 : ∀ t, getA v.2 t (nI k) = v.2 t k := fun t => getA_nI (by omega)
  have g3 : ∀ t, getA v.2 t (nI o) = v.2 t o := fun t => getA_nI (by omega)
  rcases h.1 k hk with ⟨e1, e2⟩ | ⟨e1, la, sz, hla, hsz, e3, e4, e5, e6, e7⟩
  · have e1' : upd u.1 9 0 (1002 + 10 * k) = 0 := (upd_no (by omega)).trans e1
    refine ⟨0, (-10 - 1, upd (upd u.1 9 0) 9 1, u.2), 0, (-10 - 1, upd (upd v.1 0 0) 0 1, v.2), ?_, ?_, rfl, Sim_fault hF (Sim_fault hF h 0) 1⟩
    · unfold fX7_copy
      rw [(h1 0).2, bsome, i1, (h2 0).2, bsome, i1, gpos q1, gpos q3, q2, if_pos e1']
      rfl
    · unfold fX8_copy
      rw [(h1 0).1, bsome, i1, (h2 0).1, bsome, i1, gpos q1, g2, if_pos e2]
      rfl
  have e1' : upd u.1 9 0 (1002 + 10 * k) = 1 := (upd_no (by omega)).trans e1
  have e3' : upd u.1 9 0 (1003 + 10 * k) = nI la := (upd_no (by omega)).trans e3
  have e5' : upd u.1 9 0 (1004 + 10 * k) = nI sz := (upd_no (by omega)).trans e5
  have n9 : ¬ v.2 2 k = (-9) := by rw [e4]; exact nI_ne9 hla
  rcases h.1 o ho with ⟨f1, f2⟩ | ⟨f1, lb, sy, hlb, hsy, f3, f4, f5, f6, f7⟩
  · have f1' : upd u.1 9 0 (1002 + 10 * o) = 0 := (upd_no (by omega)).trans f1
    refine ⟨0, (-10 - 1, upd (upd u.1 9 0) 9 1, u.2), 0, (-10 - 1, upd (upd v.1 0 0) 0 1, v.2), ?_, ?_, rfl, Sim_fault hF (Sim_fault hF h 0) 1⟩
    · unfold fX7_copy
      rw [(h1 0).2, bsome, i1, (h2 0).2, bsome, i1, gpos q1, gpos q3, q2, q4, if_neg (by rw [e1']; decide), if_pos f1']
      rfl
    · unfold fX8_copy
      rw [(h1 0).1, bsome, i1, (h2 0).1, bsome, i1, gpos q1, g2, if_neg n9, gpos q3, g3, if_pos f2]
      rfl
  have f1' : upd u.1 9 0 (1002 + 10 * o) = 1 := (upd_no (by omega)).trans f1
  have f3' : upd u.1 9 0 (1003 + 10 * o) = nI lb := (upd_no (by omega)).trans f3
  have f5' : upd u.1 9 0 (1004 + 10 * o) = nI sy := (upd_no (by omega)).trans f5
  have m9 : ¬ v.2 2 o = (-9) := by rw [f4]; exact nI_ne9 hlb
  by_cases hl : la = lb
  · subst hl
    -- the fault INDEX on both sides
    have fail : ∀ N, (fX8_copy N (nI k) a2 (nI o) a4 a5 v.1 v.2 = fX8_copy_b144 N (upd v.1 0 0) v.2) → (fX4_has 0 k a2 a5 (upd u.1 9 0) u.2 = some (0, upd u.1 9 0, u.2) ∨ (fX4_has 0 k a2 a5 (upd u.1 9 0) u.2 = some (1, upd u.1 9 0, u.2) ∧ fX4_has 0 o a4 a5 (upd u.1 9 0) u.2 = some (0, upd u.1 9 0, u.2))) → ∃ (n1 : Nat) (z1 : Int32 × mSt) (n2 : Nat) (z2 : Int32 × mSt), fX7_copy n1 (nI k) a2 (nI o) a4 a5 u.1 u.2 = some z1 ∧ fX8_copy n2 (nI k) a2 (nI o) a4 a5 v.1 v.2 = some z2 ∧ z1.1 = z2.1 ∧ SimOf Pr z1.2 z2.2 := by
      intro N r1 r2
      refine ⟨0, (-10 - 3, upd (upd u.1 9 0) 9 3, u.2), N, (-10 - 3, upd (upd v.1 0 0) 0 3, v.2), ?_, ?_, rfl, Sim_fault hF (Sim_fault hF h 0) 3⟩
      · unfold fX7_copy
        rw [(h1 0).2, bsome, i1, (h2 0).2, bsome, i1, gpos q1, gpos q3, q2, q4, if_neg (by rw [e1']; decide), if_neg (by rw [f1']; decide), if_pos (by rw [e3', f3'])]
        rcases r2 with r2 | ⟨r2, r3⟩
        · rw [r2, bsome, i0]; rfl
        · rw [r2, bsome, i1, r3, bsome, i0]; rfl
      · rw [r1]; rfl
    have start : ∀ N, fX8_copy N (nI k) a2 (nI o) a4 a5 v.1 v.2 = (if a2 < 0 then fX8_copy_b109 N (nI k) a2 (nI o) a4 a5 (upd v.1 0 0) v.2 else if a4 < 0 then fX8_copy_b109 N (nI k) a2 (nI o) a4 a5 (upd v.1 0 0) v.2 else if a5 < 0 then fX8_copy_b109 N (nI k) a2 (nI o) a4 a5 (upd v.1 0 0) v.2 else if nI sz < a2 then fX8_copy_b109 N (nI k) a2 (nI o) a4 a5 (upd v.1 0 0) v.2 else if nI sy < a4 then fX8_copy_b109 N (nI k) a2 (nI o) a4 a5 (upd v.1 0 0) v.2 else fX8_copy_b110 N (nI k) a2 (nI o) a4 a5 1 (upd v.1 0 0) v.2) := by
      intro N
      unfold fX8_copy
      rw [(h1 N).1, bsome, i1, (h2 N).1, bsome, i1, gpos q1, g2, if_neg n9, gpos q3, g3, if_neg m9, gpos q1, gpos q3, if_pos (by rw [e4, f4]), gpos q1, g2, e6, gpos q3, g3, f6]
    have b109 : ∀ N, fX8_copy_b109 N (nI k) a2 (nI o) a4 a5 (upd v.1 0 0) v.2 = fX8_copy_b144 N (upd v.1 0 0) v.2 := fun N => by
      unfold fX8_copy_b109 fX8_copy_b110
      rw [i0]
    have b110 : ∀ N, fX8_copy_b110 N (nI k) a2 (nI o) a4 a5 1 (upd v.1 0 0) v.2 = (if nI sz - a2 < a5 then fX8_copy_b144 N (upd v.1 0 0) v.2 else if a5 ≤ nI sy - a4 then (if a4 ≤ a2 then fX8_copy_b161 N (nI k) a2 (nI o) a4 a5 0 (upd v.1 0 0) v.2 else fX8_copy_b161 N (nI k) a2 (nI o) a4 a5 1 (upd v.1 0 0) v.2) else fX8_copy_b144 N (upd v.1 0 0) v.2) := fun N => by
      unfold fX8_copy_b110
      rw [i1, gpos q1, g2, e6, gpos q3, g3, f6]
    rcases has01 (n := 0) (k := k) (a := a2) (b := a5) (I := upd u.1 9 0) (R := u.2) with r1 | ⟨r1, c1, c2, c3, c4⟩
    · -- class: the first sheet has not so many
      have hk0 : a2 < 0 ∨ a5 < 0 ∨ nI sz < a2 ∨ nI sz - a2 < a5 := by
        unfold fX4_has at r1
        rw [e5'] at r1
        by_cases c1 : a2 < 0
        · exact Or.inl c1
        · rw [if_neg c1] at r1
          by_cases c2 : nI sz < a2
          · exact Or.inr (Or.inr (Or.inl c2))
          · rw [if_neg c2] at r1
            by_cases c3 : a5 < 0
            · exact Or.inr (Or.inl c3)
            · rw [if_neg c3] at r1
              by_cases c4 : nI sz - a2 < a5
              · exact Or.inr (Or.inr (Or.inr c4))
              · rw [if_neg c4] at r1
                cases r1
      refine fail 0 ?_ (Or.inl r1)
      rw [start, b109, b110]
      by_cases c1 : a2 < 0
      · rw [if_pos c1]
      · rw [if_neg c1]
        by_cases c2 : a4 < 0
        · rw [if_pos c2]
        · rw [if_neg c2]
          by_cases c3 : a5 < 0
          · rw [if_pos c3]
          · rw [if_neg c3]
            by_cases c4 : nI sz < a2
            · rw [if_pos c4]
            · rw [if_neg c4]
              by_cases c5 : nI sy < a4
              · rw [if_pos c5]
              · rw [if_neg c5, if_pos]
                rcases hk0 with h9 | h9 | h9 | h9
                · exact absurd h9 c1
                · exact absurd h9 c3
                · exact absurd h9 c4
                · exact h9
    · rw [e5'] at c2 c4
      rcases has01 (n := 0) (k := o) (a := a4) (b := a5) (I := upd u.1 9 0) (R := u.2) with r2 | ⟨r2, d1, d2, d3, d4⟩
      · have hk0 : a4 < 0 ∨ nI sy < a4 ∨ nI sy - a4 < a5 := by
          unfold fX4_has at r2
          rw [f5'] at r2
          by_cases d1 : a4 < 0
          · exact Or.inl d1
          · rw [if_neg d1] at r2
            by_cases d2 : nI sy < a4
            · exact Or.inr (Or.inl d2)
            · rw [if_neg d2, if_neg c3] at r2
              by_cases d4 : nI sy - a4 < a5
              · exact Or.inr (Or.inr d4)
              · rw [if_neg d4] at r2
                cases r2
        refine fail 0 ?_ (Or.inr ⟨r1, r2⟩)
        rw [start, b109, b110, if_neg c1]
        by_cases d1 : a4 < 0
        · rw [if_pos d1]
        · rw [if_neg d1, if_neg c3, if_neg c2]
          by_cases d2 : nI sy < a4
          · rw [if_pos d2]
          · rw [if_neg d2, if_neg c4, if_neg]
            rcases hk0 with h9 | h9 | h9
            · exact absurd h9 d1
            · exact absurd h9 d2
            · exact Int32.not_le.mpr h9
      · rw [f5'] at d2 d4
        obtain ⟨i, m, rfl, rfl, hi⟩ := le_nat hsz c1 c2 c3 c4
        obtain ⟨j, m', rfl, hm', hj⟩ := le_nat hsy d1 d2 d3 d4
        have hmm : m = m' := by
          have b1 : (nI m).toNatClampNeg = (nI m').toNatClampNeg := by rw [hm']
          by_cases q : m < 2 ^ 31
          · by_cases q' : m' < 2 ^ 31
            · rw [nI_clamp q, nI_clamp q'] at b1; exact b1
            · omega
          · omega
        subst hmm
        have ec : fX7_copy 0 (nI k) (nI i) (nI o) (nI j) (nI m) u.1 u.2 = some (nI m, upd u.1 9 0, cpA u.2 (1001 + 10 * k) (1001 + 10 * o) (nI i) (nI j) (nI m)) := by
          unfold fX7_copy
          rw [(h1 0).2, bsome, i1, (h2 0).2, bsome, i1, gpos q1, gpos q3, q2, q4, if_neg (by rw [e1']; decide), if_neg (by rw [f1']; decide), if_pos (by rw [e3', f3']), r1, bsome, i1, r2, bsome, i1, gpos (e_cpOk (by omega) (by omega))]
        have em : fX8_copy 300 (nI k) (nI i) (nI o) (nI j) (nI m) v.1 v.2 = some (nI m, upd v.1 0 0, cpM v.2 (60 * k + i) (60 * o + j) (60 * o + j) (60 * o + j + m)) := by
          rw [start, if_neg c1, if_neg d1, if_neg c3, if_neg c2, if_neg d2, b110, if_neg c4, if_pos (Int32.not_lt.mp d4)]
          unfold fX8_copy_b161
          by_cases hij : nI j ≤ nI i
          · rw [if_pos hij]
            have hij' : j ≤ i := (nI_leI (by omega) (by omega)).mp hij
            have := e_fwd (n := 300) (k := k) (i := i) (o := o) (j := j) (m := m) (I := upd v.1 0 0) (R := v.2) (by omega) (by omega) (by omega) 300 0 (by omega) (by omega)
            rw [Nat.add_zero, cpM_e] at this
            exact this
          · rw [if_neg hij]
            have hij' : ¬ j ≤ i := fun h9 => hij ((nI_leI (by omega) (by omega)).mpr h9)
            have := e_bwd (n := 300) (k := k) (i := i) (o := o) (j := j) (m := m) (I := upd v.1 0 0) (R := v.2) (by omega) (by omega) (by omega) 300 0 (by omega) (by omega)
            rw [Nat.sub_zero, cpM_e] at this
            exact this
        refine ⟨0, _, 300, _, ec, em, rfl, ?_⟩
        refine Sim_sameF hF h (h.1.copy hk ho (by omega) (by omega) e7) (fun _ _ => rfl) (fun t ht => ?_) (fun _ => rfl) (fun t ht => ?_)
        · funext s
          show cpA u.2 (1001 + 10 * k) (1001 + 10 * o) (nI i) (nI j) (nI m) t s = u.2 t s
          rw [e_cpA (by omega) (by omega) (by omega), if_neg (by omega)]
        · show (if t = 4 then _ else v.2 t) = v.2 t
          rw [if_neg (by omega)]
  · refine ⟨0, (-10 - 2, upd (upd u.1 9 0) 9 2, u.2), 0, (-10 - 2, upd (upd v.1 0 0) 0 2, v.2), ?_, ?_, rfl, Sim_fault hF (Sim_fault hF h 0) 2⟩
    · unfold fX7_copy
      rw [(h1 0).2, bsome, i1, (h2 0).2, bsome, i1, gpos q1, gpos q3, q2, q4, if_neg (by rw [e1']; decide), if_neg (by rw [f1']; decide), if_neg (by rw [e3', f3']; exact nI_lit (by omega) (by omega) hl)]
      rfl
    · unfold fX8_copy
      rw [(h1 0).1, bsome, i1, (h2 0).1, bsome, i1, gpos q1, g2, if_neg n9, gpos q3, g3, if_neg m9, gpos q1, gpos q3, if_neg (by rw [e4, f4]; exact nI_lit (by omega) (by omega) hl)]
      rfl
