/-! put, cell, sheet -/
theorem w_cell (a : Int32) {sz : Nat} (hs : sz ≤ 60) : ((a < 0 ∨ nI sz ≤ a) ∧ ∀ n, fX8_within n a 0 (nI sz - 1) = some 0) ∨ ∃ i : Nat, i < sz ∧ a = nI i ∧ ∀ n, fX8_within n a 0 (nI sz - 1) = some 1 := by
  rcases rng a (n := sz) (by omega) with h | ⟨i, hi, rfl⟩
  · refine Or.inl ⟨h, fun n => within_out (h.imp id (fun h => ?_))⟩
    have h1 := Int32.le_iff_toInt_le.mp h
    rw [nI_toInt (by omega)] at h1
    refine Int32.lt_iff_toInt_lt.mpr ?_
    rw [show nI sz - 1 = nI sz - nI 1 from rfl, pk_sub_toInt (by omega) (by omega)]
    omega
  · refine Or.inr ⟨i, hi, rfl, fun n => ?_⟩
    rw [show nI sz - 1 = nI sz - nI 1 from rfl, pk_sub (by omega)]
    exact within_in (lo := 0) (hi := sz - 1) (by omega) (by omega) (by omega)
theorem e_hasCell {n k sz : Nat} {a : Int32} {I : Nat → Int32} {R : Nat → Nat → Int32} (e : I (1004 + 10 * k) = nI sz) (h : a < 0 ∨ nI sz ≤ a) : fX4_hasCell n k a I R = some (0, I, R) := by
  unfold fX4_hasCell
  by_cases h1 : a < 0
  · rw [if_pos h1]
  · rw [if_neg h1, e, if_pos (h.resolve_left h1)]
theorem e_hasCell1 {n k sz i : Nat} {I : Nat → Int32} {R : Nat → Nat → Int32} (e : I (1004 + 10 * k) = nI sz) (h : i < sz) (hs : sz ≤ 60) : fX4_hasCell n k (nI i) I R = some (1, I, R) := by
  unfold fX4_hasCell
  rw [if_neg (nI_pos (by omega)), e, if_neg (nI_ge h (by omega))]
theorem e_60 {k i : Nat} : (60 * nI k) + nI i = nI (60 * k + i) := by
  rw [show (60 : Int32) = nI 60 from rfl, pk_mul, nI_add]
theorem nI_ne9 {la : Nat} (h : la < 3) : ¬ nI la = (-9) := by
  intro e3
  have h9 := nI_toInt (n := la) (by omega)
  rw [e3] at h9
  have : ((-9 : Int32)).toInt = -9 := by decide
  omega
theorem nI_lit {a b : Nat} (ha : a < 2 ^ 31) (hb : b < 2 ^ 31) (h : a ≠ b) : ¬ nI a = nI b := fun e => h ((nI_eq ha hb).mp e)
/-- what a value becomes in a lane -/
def cutL (la : Nat) (x : Int32) : Int32 := if la = 0 then x.toInt8.toInt32 else if la = 1 then x.toInt16.toInt32 else x
theorem e_cut {n k la : Nat} {x : Int32} {I : Nat → Int32} {R : Nat → Nat → Int32} (e : I (1003 + 10 * k) = nI la) (h : la < 3) : fX4_cut n k x I R = some (cutL la x, I, R) := by
  unfold fX4_cut cutL
  rw [e]
  match la, h with
  | 0, _ => rfl
  | 1, _ => rfl
  | 2, _ => rfl
theorem SimSh.set {u v : mSt} (h : SimSh u v) {k i la sz : Nat} (hk : k < 4) (hi : i < 60) (hla : la < 3) (hsz : sz ≤ 60) (e1 : u.1 (1002 + 10 * k) = 1) (e3 : u.1 (1003 + 10 * k) = nI la) (e4 : v.2 2 k = nI la) (e5 : u.1 (1004 + 10 * k) = nI sz) (e6 : v.2 3 k = nI sz) (e7 : ∀ i, i < 60 → u.2 (1001 + 10 * k) i = v.2 4 (60 * k + i)) (x y z : Int32) : SimSh (upd u.1 9 y, setA u.2 (1001 + 10 * k) (nI i) x) (upd v.1 0 z, setA v.2 4 (nI (60 * k + i)) x) := by
  intro j hj
  show (upd u.1 9 y (1002 + 10 * j) = 0 ∧ setA v.2 4 (nI (60 * k + i)) x 2 j = (-9)) ∨ (upd u.1 9 y (1002 + 10 * j) = 1 ∧ ∃ la sz : Nat, la < 3 ∧ sz ≤ 60 ∧ upd u.1 9 y (1003 + 10 * j) = nI la ∧ setA v.2 4 (nI (60 * k + i)) x 2 j = nI la ∧ upd u.1 9 y (1004 + 10 * j) = nI sz ∧ setA v.2 4 (nI (60 * k + i)) x 3 j = nI sz ∧ ∀ t, t < 60 → setA u.2 (1001 + 10 * k) (nI i) x (1001 + 10 * j) t = setA v.2 4 (nI (60 * k + i)) x 4 (60 * j + t))
  rw [upd_no (by omega), upd_no (by omega), upd_no (by omega), setA_ne (by decide), setA_ne (by decide)]
  by_cases e : j = k
  · subst e
    refine Or.inr ⟨e1, la, sz, hla, hsz, e3, e4, e5, e6, fun t ht => ?_⟩
    rw [setA_at (by omega), setA_at (by omega)]
    by_cases h9 : t = i
    · rw [if_pos h9, if_pos (by omega)]
    · rw [if_neg h9, if_neg (by omega)]
      exact e7 t ht
  · rcases h j hj with h1 | ⟨f1, la', sz', h2, h3, f3, f4, f5, f6, f7⟩
    · exact Or.inl h1
    · refine Or.inr ⟨f1, la', sz', h2, h3, f3, f4, f5, f6, fun t ht => ?_⟩
      rw [setA_ne (by omega), setA_at (by omega), if_neg (by omega)]
      exact f7 t ht
theorem st_put {Pr : mSt → mSt → Prop} (hF : Frm Pr) : St_put (SimOf Pr) := by
  intro a1 a2 a3 u v h
  rcases d_sheet a1 with h0 | ⟨k, hk, rfl, h1⟩
  · refine ⟨0, (-1, upd u.1 9 0, u.2), 0, (-1, upd v.1 0 0, v.2), ?_, ?_, rfl, Sim_fault hF h 0⟩
    · unfold fX7_put; rw [(h0 0).2, bsome, i0]
    · unfold fX8_put; rw [(h0 0).1, bsome, i0]
  · have q1 : inb (nI k) 4 = true := inb_nI hk (by decide)
    have q2 : (nI k).toNatClampNeg = k := nI_clamp (by omega)
    rcases h.1 k hk with ⟨e1, e2⟩ | ⟨e1, la, sz, hla, hsz, e3, e4, e5, e6, e7⟩
    · refine ⟨0, (-10 - 1, upd (upd u.1 9 0) 9 1, u.2), 0, (-10 - 1, upd (upd v.1 0 0) 0 1, v.2), ?_, ?_, rfl, Sim_fault hF (Sim_fault hF h 0) 1⟩
      · unfold fX7_put
        rw [(h1 0).2, bsome, i1, gpos q1, q2, if_pos ((upd_no (by omega)).trans e1)]
        rfl
      · unfold fX8_put
        rw [(h1 0).1, bsome, i1, gpos q1, getA_nI (by omega), if_pos e2]
        rfl
    · have e1' : upd u.1 9 0 (1002 + 10 * k) = 1 := (upd_no (by omega)).trans e1
      have e3' : upd u.1 9 0 (1003 + 10 * k) = nI la := (upd_no (by omega)).trans e3
      have e5' : upd u.1 9 0 (1004 + 10 * k) = nI sz := (upd_no (by omega)).trans e5
      rcases w_cell a2 hsz with ⟨g1, g2⟩ | ⟨i, hi, rfl, g2⟩
      · refine ⟨0, (-10 - 3, upd (upd u.1 9 0) 9 3, u.2), 0, (-10 - 3, upd (upd v.1 0 0) 0 3, v.2), ?_, ?_, rfl, Sim_fault hF (Sim_fault hF h 0) 3⟩
        · unfold fX7_put
          rw [(h1 0).2, bsome, i1, gpos q1, q2, if_neg (by rw [e1']; decide), e_hasCell e5' g1, bsome, i0]
          rfl
        · unfold fX8_put
          rw [(h1 0).1, bsome, i1, gpos q1, getA_nI (by omega), if_neg (by rw [e4]; exact nI_ne9 hla), gpos q1, getA_nI (by omega), e6, g2 0, bsome, i0]
          rfl
      · refine ⟨0, (1, upd u.1 9 0, setA u.2 (1001 + 10 * k) (nI i) (cutL la a3)), 0, (1, upd v.1 0 0, setA v.2 4 (nI (60 * k + i)) (cutL la a3)), ?_, ?_, rfl, ?_⟩
        · unfold fX7_put
          rw [(h1 0).2, bsome, i1, gpos q1, q2, if_neg (by rw [e1']; decide), e_hasCell1 e5' hi hsz, bsome, i1, e_cut e3' hla, bsome, gpos (inb_nI (by omega) (by decide))]
        · unfold fX8_put
          rw [(h1 0).1, bsome, i1, gpos q1, getA_nI (by omega), if_neg (by rw [e4]; exact nI_ne9 hla), gpos q1, getA_nI (by omega), e6, g2 0, bsome, i1, gpos q1, gpos q1, e4, e_60]
          unfold fX8_put_b93 cutL
          rw [gpos (inb_nI (show 60 * k + i < 240 by omega) (by decide)), gpos (inb_nI (show 60 * k + i < 240 by omega) (by decide)), gpos (inb_nI (show 60 * k + i < 240 by omega) (by decide))]
          match la, hla with
          | 0, _ => rfl
          | 1, _ => rfl
          | 2, _ => rfl
        · have hs := Sim_fault hF h 0
          have hss := h.1.set hk (show i < 60 by omega) hla hsz e1 e3 e4 e5 e6 e7 (cutL la a3) 0 0
          exact Sim_same hF hs hss (fun _ _ => rfl) (fun j hj => setA_ne (by omega)) (fun _ => rfl) (fun j hj => setA_ne (by omega))
theorem e_faultAs0 {n k : Nat} {a : Int32} {I : Nat → Int32} {R : Nat → Nat → Int32} (e : I (1002 + 10 * k) = 0) : fX4_faultAs n k a I R = some (1, I, R) := by
  unfold fX4_faultAs
  rw [if_pos e]
theorem e_faultAs1 {n k la lb : Nat} {I : Nat → Int32} {R : Nat → Nat → Int32} (e : I (1002 + 10 * k) = 1) (e3 : I (1003 + 10 * k) = nI la) (ha : la < 3) (hb : lb < 3) : fX4_faultAs n k (nI lb) I R = some (if la = lb then 0 else 2, I, R) := by
  unfold fX4_faultAs
  rw [if_neg (by rw [e]; decide), e3]
  by_cases h : la = lb
  · rw [if_pos h, if_pos (by rw [h])]
  · rw [if_neg h, if_neg (nI_lit (by omega) (by omega) h)]
theorem st_cell {Pr : mSt → mSt → Prop} (hF : Frm Pr) : St_cell (SimOf Pr) := by
  intro a1 a2 a3 u v h
  rcases d_sheet a1 with h0 | ⟨k, hk, rfl, h1⟩
  · refine ⟨0, (-9223372036854775808, upd u.1 9 0, u.2), 0, (-9223372036854775808, upd v.1 0 0, v.2), ?_, ?_, rfl, Sim_fault hF h 0⟩
    · unfold fX7_cell; rw [(h0 0).2, bsome, i0]
    · unfold fX8_cell; rw [(h0 0).1, bsome, i0]
  rcases d_lane a3 with h0 | ⟨lb, hlb, rfl, h2⟩
  · refine ⟨0, (-9223372036854775808, upd u.1 9 0, u.2), 0, (-9223372036854775808, upd v.1 0 0, v.2), ?_, ?_, rfl, Sim_fault hF h 0⟩
    · unfold fX7_cell; rw [(h1 0).2, bsome, i1, (h0 0).2, bsome, i0]
    · unfold fX8_cell; rw [(h1 0).1, bsome, i1, (h0 0).1, bsome, i0]
  have q1 : inb (nI k) 4 = true := inb_nI hk (by decide)
  have q2 : (nI k).toNatClampNeg = k := nI_clamp (by omega)
  rcases h.1 k hk with ⟨e1, e2⟩ | ⟨e1, la, sz, hla, hsz, e3, e4, e5, e6, e7⟩
  · have e1' : upd u.1 9 0 (1002 + 10 * k) = 0 := (upd_no (by omega)).trans e1
    refine ⟨0, (-9223372036854775808, upd (upd u.1 9 0) 9 1, u.2), 0, (-9223372036854775808, upd (upd v.1 0 0) 0 1, v.2), ?_, ?_, rfl, Sim_fault hF (Sim_fault hF h 0) 1⟩
    · unfold fX7_cell
      rw [(h1 0).2, bsome, i1, (h2 0).2, bsome, i1, gpos q1, q2, e_faultAs0 e1', bsome, i1]
      rfl
    · unfold fX8_cell fX8_cell_b50
      rw [(h1 0).1, bsome, i1, (h2 0).1, bsome, i1, gpos q1, getA_nI (by omega), if_pos e2, gpos q1, if_pos e2]
      rfl
  · have e1' : upd u.1 9 0 (1002 + 10 * k) = 1 := (upd_no (by omega)).trans e1
    have e3' : upd u.1 9 0 (1003 + 10 * k) = nI la := (upd_no (by omega)).trans e3
    have e5' : upd u.1 9 0 (1004 + 10 * k) = nI sz := (upd_no (by omega)).trans e5
    by_cases hl : la = lb
    · subst hl
      rcases w_cell a2 hsz with ⟨g1, g2⟩ | ⟨i, hi, rfl, g2⟩
      · refine ⟨0, (-9223372036854775808, upd (upd u.1 9 0) 9 3, u.2), 0, (-9223372036854775808, upd (upd v.1 0 0) 0 3, v.2), ?_, ?_, rfl, Sim_fault hF (Sim_fault hF h 0) 3⟩
        · unfold fX7_cell
          rw [(h1 0).2, bsome, i1, (h2 0).2, bsome, i1, gpos q1, q2, e_faultAs1 e1' e3' hla hla, bsome, if_pos rfl, i0, e_hasCell e5' g1, bsome, i0]
          rfl
        · unfold fX8_cell fX8_cell_b50
          rw [(h1 0).1, bsome, i1, (h2 0).1, bsome, i1, gpos q1, getA_nI (by omega), if_neg (by rw [e4]; exact nI_ne9 hla), gpos q1, if_pos e4, gpos q1, if_neg (by rw [e4]; exact nI_ne9 hla), gpos q1, getA_nI (by omega), e6, g2 0, bsome, i0]
          rfl
      · refine ⟨0, ((u.2 (1001 + 10 * k) i).toInt64, upd u.1 9 0, u.2), 0, ((v.2 4 (60 * k + i)).toInt64, upd v.1 0 0, v.2), ?_, ?_, ?_, Sim_fault hF h 0⟩
        · unfold fX7_cell fX7_cell_b56
          rw [(h1 0).2, bsome, i1, (h2 0).2, bsome, i1, gpos q1, q2, e_faultAs1 e1' e3' hla hla, bsome, if_pos rfl, i0, e_hasCell1 e5' hi hsz, bsome, i1, i0, gpos (inb_nI (by omega) (by decide)), getA_nI (by omega)]
        · unfold fX8_cell fX8_cell_b50
          rw [(h1 0).1, bsome, i1, (h2 0).1, bsome, i1, gpos q1, getA_nI (by omega), if_neg (by rw [e4]; exact nI_ne9 hla), gpos q1, if_pos e4, gpos q1, if_neg (by rw [e4]; exact nI_ne9 hla), gpos q1, getA_nI (by omega), e6, g2 0, bsome, i1, e_60, gpos (inb_nI (show 60 * k + i < 240 by omega) (by decide)), getA_nI (by omega)]
        · show (u.2 (1001 + 10 * k) i).toInt64 = (v.2 4 (60 * k + i)).toInt64
          rw [e7 i (by omega)]
    · refine ⟨0, (-9223372036854775808, upd (upd u.1 9 0) 9 2, u.2), 0, (-9223372036854775808, upd (upd v.1 0 0) 0 2, v.2), ?_, ?_, rfl, Sim_fault hF (Sim_fault hF h 0) 2⟩
      · unfold fX7_cell
        rw [(h1 0).2, bsome, i1, (h2 0).2, bsome, i1, gpos q1, q2, e_faultAs1 e1' e3' hla hlb, bsome, if_neg hl]
        rfl
      · unfold fX8_cell
        rw [(h1 0).1, bsome, i1, (h2 0).1, bsome, i1, gpos q1, getA_nI (by omega), if_neg (by rw [e4]; exact nI_ne9 hla), gpos q1, if_neg (by rw [e4]; exact nI_lit (by omega) (by omega) hl)]
        rfl
