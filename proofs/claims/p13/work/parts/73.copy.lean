/-! sheet, copy -/
def zf (R : Nat → Nat → Int32) (lo hi : Nat) : Nat → Nat → Int32 := fun t => if t = 4 then (fun s => if lo ≤ s ∧ s < hi then 0 else R 4 s) else R t
theorem e_sheetLoop {n k : Nat} (hk : k < 4) {I : Nat → Int32} : ∀ (j i : Nat) (R : Nat → Nat → Int32), i ≤ 60 → 60 < i + j → fX8_sheet_b57 n j (nI k) (nI i) I R = some (1, I, zf R (60 * k + i) (60 * k + 60)) := by
  intro j
  induction j with
  | zero => intro i R h1 h2; exact absurd h2 (by omega)
  | succ j ih =>
    intro i R h1 h2
    rw [fX8_sheet_b57]
    by_cases h : i = 60
    · subst h
      rw [if_pos (show (60 : Int32) ≤ nI 60 from nI_le (a := 60) (Nat.le_refl _) (by decide))]
      have e : zf R (60 * k + 60) (60 * k + 60) = R := by
        funext t s
        unfold zf
        by_cases ht : t = 4
        · rw [if_pos ht, if_neg (by omega), ht]
        · rw [if_neg ht]
      rw [e]
    · rw [if_neg (show ¬ (60 : Int32) ≤ nI i from nI_ge (b := 60) (by omega) (by decide)), e_60, gpos (inb_nI (show 60 * k + i < 240 by omega) (by decide)), nI_1, ih (i + 1) _ (by omega) (by omega)]
      congr 3
      funext t s
      unfold zf
      by_cases ht : t = 4
      · subst ht
        rw [if_pos rfl, if_pos rfl, setA_at (by omega)]
        by_cases h3 : 60 * k + (i + 1) ≤ s ∧ s < 60 * k + 60
        · rw [if_pos h3, if_pos (by omega)]
        · rw [if_neg h3]
          by_cases h4 : s = 60 * k + i
          · rw [if_pos h4, if_pos (by omega)]
          · rw [if_neg h4, if_neg (by omega)]
      · rw [if_neg ht, if_neg ht, setA_ne ht]
theorem Sim_sameF {Pr : mSt → mSt → Prop} (hF : Frm Pr) {u v u' v' : mSt} (h : SimOf Pr u v) (hs : SimSh u' v') (h1 : ∀ i, i < 1000 → u'.1 i = upd u.1 9 0 i) (h2 : ∀ i, i < 1000 → u'.2 i = u.2 i) (h3 : ∀ i, v'.1 i = upd v.1 0 0 i) (h4 : ∀ i, 5 ≤ i → v'.2 i = v.2 i) : SimOf Pr u' v' :=
  Sim_same hF (Sim_fault hF h 0) hs h1 h2 h3 h4
theorem st_sheet {Pr : mSt → mSt → Prop} (hF : Frm Pr) : St_sheet (SimOf Pr) := by
  intro a1 a2 a3 u v h
  rcases d_sheet a1 with h0 | ⟨k, hk, rfl, h1⟩
  · refine ⟨0, (-1, upd u.1 9 0, u.2), 0, (-1, upd v.1 0 0, v.2), ?_, ?_, rfl, Sim_fault hF h 0⟩
    · unfold fX7_sheet; rw [(h0 0).2, bsome, i0]
    · unfold fX8_sheet; rw [(h0 0).1, bsome, i0]
  rcases d_lane a2 with h0 | ⟨la, hla, rfl, h2⟩
  · refine ⟨0, (-2, upd u.1 9 0, u.2), 0, (-2, upd v.1 0 0, v.2), ?_, ?_, rfl, Sim_fault hF h 0⟩
    · unfold fX7_sheet; rw [(h1 0).2, bsome, i1, (h0 0).2, bsome, i0]
    · unfold fX8_sheet; rw [(h1 0).1, bsome, i1, (h0 0).1, bsome, i0]
  have q1 : inb (nI k) 4 = true := inb_nI hk (by decide)
  have q2 : (nI k).toNatClampNeg = k := nI_clamp (by omega)
  by_cases h60 : a3 ≤ 60
  · by_cases h00 : 0 ≤ a3
    · obtain ⟨sz, hsz, rfl⟩ : ∃ sz : Nat, sz ≤ 60 ∧ a3 = nI sz := by
        rcases rng a3 (n := 61) (by decide) with h9 | ⟨j, hj, e⟩
        · rcases h9 with h9 | h9
          · exact absurd h00 (Int32.not_le.mpr h9)
          · exact absurd h60 (Int32.not_le.mpr (show (60 : Int32) < a3 from le_lt (a := 60) h9 (by decide) (by decide)))
        · exact ⟨j, by omega, e⟩
      have ec : fX7_sheet 0 (nI k) (nI la) (nI sz) u.1 u.2 = some (1, upd (upd (upd (upd u.1 9 0) (1002 + 10 * k) 1) (1003 + 10 * k) (nI la)) (1004 + 10 * k) (nI sz), flA u.2 (1001 + 10 * k) 60 0) := by
        unfold fX7_sheet
        rw [(h1 0).2, bsome, i1, (h2 0).2, bsome, i1, if_pos h60, if_pos h00, gpos q1, q2]
        rfl
      have em : fX8_sheet 61 (nI k) (nI la) (nI sz) v.1 v.2 = some (1, upd v.1 0 0, zf (setA (setA v.2 2 (nI k) (nI la)) 3 (nI k) (nI sz)) (60 * k + 0) (60 * k + 60)) := by
        unfold fX8_sheet
        rw [(h1 61).1, bsome, i1, (h2 61).1, bsome, i1, if_pos h60, if_pos h00, gpos q1, gpos q1]
        exact e_sheetLoop hk 61 0 _ (by omega) (by omega)
      refine ⟨0, _, 61, _, ec, em, rfl, ?_⟩
      refine Sim_sameF hF h ?_ (fun i hi => ?_) (fun i hi => ?_) (fun _ => rfl) (fun i hi => ?_)
      · intro j hj
        show (upd (upd (upd (upd u.1 9 0) (1002 + 10 * k) 1) (1003 + 10 * k) (nI la)) (1004 + 10 * k) (nI sz) (1002 + 10 * j) = 0 ∧ zf (setA (setA v.2 2 (nI k) (nI la)) 3 (nI k) (nI sz)) (60 * k + 0) (60 * k + 60) 2 j = (-9)) ∨ (upd (upd (upd (upd u.1 9 0) (1002 + 10 * k) 1) (1003 + 10 * k) (nI la)) (1004 + 10 * k) (nI sz) (1002 + 10 * j) = 1 ∧ ∃ la' sz' : Nat, la' < 3 ∧ sz' ≤ 60 ∧ upd (upd (upd (upd u.1 9 0) (1002 + 10 * k) 1) (1003 + 10 * k) (nI la)) (1004 + 10 * k) (nI sz) (1003 + 10 * j) = nI la' ∧ zf (setA (setA v.2 2 (nI k) (nI la)) 3 (nI k) (nI sz)) (60 * k + 0) (60 * k + 60) 2 j = nI la' ∧ upd (upd (upd (upd u.1 9 0) (1002 + 10 * k) 1) (1003 + 10 * k) (nI la)) (1004 + 10 * k) (nI sz) (1004 + 10 * j) = nI sz' ∧ zf (setA (setA v.2 2 (nI k) (nI la)) 3 (nI k) (nI sz)) (60 * k + 0) (60 * k + 60) 3 j = nI sz' ∧ ∀ i, i < 60 → flA u.2 (1001 + 10 * k) 60 0 (1001 + 10 * j) i = zf (setA (setA v.2 2 (nI k) (nI la)) 3 (nI k) (nI sz)) (60 * k + 0) (60 * k + 60) 4 (60 * j + i))
        have z2 : zf (setA (setA v.2 2 (nI k) (nI la)) 3 (nI k) (nI sz)) (60 * k + 0) (60 * k + 60) 2 j = if j = k then nI la else v.2 2 j := by
          show setA (setA v.2 2 (nI k) (nI la)) 3 (nI k) (nI sz) 2 j = _
          rw [setA_ne (by decide), setA_at (by omega)]
        have z3 : zf (setA (setA v.2 2 (nI k) (nI la)) 3 (nI k) (nI sz)) (60 * k + 0) (60 * k + 60) 3 j = if j = k then nI sz else v.2 3 j := by
          show setA (setA v.2 2 (nI k) (nI la)) 3 (nI k) (nI sz) 3 j = _
          rw [setA_at (by omega), setA_ne (by decide)]
        rw [z2, z3]
        by_cases e : j = k
        · subst e
          rw [if_pos rfl, if_pos rfl]
          refine Or.inr ⟨?_, la, sz, hla, hsz, ?_, rfl, ?_, rfl, fun i hi => ?_⟩
          · rw [upd_no (by omega), upd_no (by omega), upd_at]
          · rw [upd_no (by omega), upd_at]
          · rw [upd_at]
          · show (if 1001 + 10 * j = 1001 + 10 * j then (fun i => if i < 60 then (0 : Int32) else u.2 (1001 + 10 * j) i) else u.2 (1001 + 10 * j)) i = (if 60 * j + 0 ≤ 60 * j + i ∧ 60 * j + i < 60 * j + 60 then (0 : Int32) else _)
            rw [if_pos rfl, if_pos hi, if_pos (by omega)]
        · rw [if_neg e, if_neg e]
          have z4 : ∀ i, i < 60 → flA u.2 (1001 + 10 * k) 60 0 (1001 + 10 * j) i = u.2 (1001 + 10 * j) i := fun i _ => by
            show (if 1001 + 10 * j = 1001 + 10 * k then (fun i => if i < 60 then (0 : Int32) else u.2 (1001 + 10 * k) i) else u.2 (1001 + 10 * j)) i = _
            rw [if_neg (by omega)]
          have z5 : ∀ i, i < 60 → zf (setA (setA v.2 2 (nI k) (nI la)) 3 (nI k) (nI sz)) (60 * k + 0) (60 * k + 60) 4 (60 * j + i) = v.2 4 (60 * j + i) := fun i hi => by
            show (if 60 * k + 0 ≤ 60 * j + i ∧ 60 * j + i < 60 * k + 60 then (0 : Int32) else setA (setA v.2 2 (nI k) (nI la)) 3 (nI k) (nI sz) 4 (60 * j + i)) = _
            rw [if_neg (by omega), setA_ne (by decide), setA_ne (by decide)]
          rw [upd_no (by omega), upd_no (by omega), upd_no (by omega), upd_no (by omega), upd_no (by omega), upd_no (by omega), upd_no (by omega), upd_no (by omega), upd_no (by omega), upd_no (by omega), upd_no (by omega), upd_no (by omega)]
          rcases h.1 j hj with h9 | ⟨f1, la', sz', h2, h3, f3, f4, f5, f6, f7⟩
          · exact Or.inl h9
          · exact Or.inr ⟨f1, la', sz', h2, h3, f3, f4, f5, f6, fun i hi => by rw [z4 i hi, z5 i hi]; exact f7 i hi⟩
      · show upd (upd (upd (upd u.1 9 0) (1002 + 10 * k) 1) (1003 + 10 * k) (nI la)) (1004 + 10 * k) (nI sz) i = upd u.1 9 0 i
        rw [upd_no (by omega), upd_no (by omega), upd_no (by omega)]
      · show (if i = 1001 + 10 * k then _ else u.2 i) = u.2 i
        rw [if_neg (by omega)]
      · show (if i = 4 then _ else setA (setA v.2 2 (nI k) (nI la)) 3 (nI k) (nI sz) i) = v.2 i
        rw [if_neg (by omega), setA_ne (by omega), setA_ne (by omega)]
    · refine ⟨0, (-10 - 4, upd (upd u.1 9 0) 9 4, u.2), 0, (-10 - 4, upd (upd v.1 0 0) 0 4, v.2), ?_, ?_, rfl, Sim_fault hF (Sim_fault hF h 0) 4⟩
      · unfold fX7_sheet; rw [(h1 0).2, bsome, i1, (h2 0).2, bsome, i1, if_pos h60, if_neg h00]; rfl
      · unfold fX8_sheet; rw [(h1 0).1, bsome, i1, (h2 0).1, bsome, i1, if_pos h60, if_neg h00]; rfl
  · refine ⟨0, (-2, upd u.1 9 0, u.2), 0, (-2, upd v.1 0 0, v.2), ?_, ?_, rfl, Sim_fault hF h 0⟩
    · unfold fX7_sheet; rw [(h1 0).2, bsome, i1, (h2 0).2, bsome, i1, if_neg h60]
    · unfold fX8_sheet; rw [(h1 0).1, bsome, i1, (h2 0).1, bsome, i1, if_neg h60]
