/-! reading a text, on both sides at once -/
def CT (T : Nat → Int32) (N p : Nat) (I : Nat → Int32) (R : Nat → Nat → Int32) : Prop := I 52 = nI N ∧ I 53 = nI p ∧ I 54 = 0 ∧ ∀ i, i < N → R 51 i = T i
def MT (T : Nat → Int32) (F N p : Nat) (J : Nat → Int32) (S : Nat → Nat → Int32) : Prop := J 14 = nI (F + p) ∧ ∀ i, i < N → S 4 (F + i) = T i
theorem p_next {T : Nat → Int32} {N p : Nat} {I : Nat → Int32} {R : Nat → Nat → Int32} (hN : N ≤ 60) (h : CT T N p I R) (hp : p ≤ N) (c : Int32) : (p < N ∧ T p = c ∧ ∀ g, fX5_isNext g c I R = some (1, I, R)) ∨ (¬ (p < N ∧ T p = c) ∧ ∀ g, fX5_isNext g c I R = some (0, I, R)) := by
  by_cases hpn : p < N
  · by_cases e : T p = c
    · refine Or.inl ⟨hpn, e, fun g => ?_⟩
      unfold fX5_isNext
      rw [if_pos h.2.2.1, h.1, h.2.1, if_neg (nI_ge hpn (by omega)), gpos (inb_nI (by omega) (by decide)), getA_nI (by omega), h.2.2.2 p hpn, if_pos e]
    · refine Or.inr ⟨fun z => e z.2, fun g => ?_⟩
      unfold fX5_isNext
      rw [if_pos h.2.2.1, h.1, h.2.1, if_neg (nI_ge hpn (by omega)), gpos (inb_nI (by omega) (by decide)), getA_nI (by omega), h.2.2.2 p hpn, if_neg e]
  · refine Or.inr ⟨fun z => hpn z.1, fun g => ?_⟩
    unfold fX5_isNext
    rw [if_pos h.2.2.1, h.1, h.2.1, if_pos (nI_le (by omega) (by omega))]
theorem w_next {g : Nat} {I : Nat → Int32} {R : Nat → Nat → Int32} (h : I 54 = 1) (c : Int32) : fX5_isNext g c I R = some (0, I, R) := by
  unfold fX5_isNext
  rw [if_neg (by rw [h]; decide)]
theorem w_upd {I : Nat → Int32} (h : I 54 = 1) : upd I 54 1 = I := by
  funext k
  by_cases e : k = 54
  · rw [e, upd_at, h]
  · rw [upd_no e]
theorem l_gen {g t len : Nat} {I : Nat → Int32} {R : Nat → Nat → Int32} (hL : kLn t = nI len) (hl : kLen.getD t 0 = len) (h4 : len ≤ 4) (hit : Nat → Prop) (hnx : ∀ k, k < len → (hit k ∧ fX5_isNext g (kCh t (nI k)) I R = some (1, I, R)) ∨ (¬ hit k ∧ fX5_isNext g (kCh t (nI k)) I R = some (0, I, R))) : ∀ d k j, k + d = len → d < j → (∃ m, m < len ∧ hit m ∧ fX5_letter_b2 g t j (nI k) I R = some (nI m, upd I 53 (I 53 + 1), R)) ∨ ((∀ m, k ≤ m → m < len → ¬ hit m) ∧ fX5_letter_b2 g t j (nI k) I R = some (0, upd I 54 1, R)) := by
  intro d
  induction d with
  | zero =>
    intro k j hk hj
    obtain ⟨j, rfl⟩ : ∃ i, j = i + 1 := ⟨j - 1, by omega⟩
    refine Or.inr ⟨fun m h1 h2 => absurd h2 (by omega), ?_⟩
    rw [fX5_letter_b2, hL, if_pos (nI_le (by omega) (by omega))]
  | succ d ih =>
    intro k j hk hj
    obtain ⟨j, rfl⟩ : ∃ i, j = i + 1 := ⟨j - 1, by omega⟩
    rw [fX5_letter_b2, hL, if_neg (nI_ge (by omega) (by omega)), hl, gpos (inb_nI (by omega) (by omega))]
    rcases hnx k (by omega) with ⟨z1, z2⟩ | ⟨z1, z2⟩
    · refine Or.inl ⟨k, by omega, z1, ?_⟩
      rw [z2, bsome]
      exact i1
    · rw [z2, bsome, nI_1]
      rcases ih (k + 1) j (by omega) (by omega) with ⟨m, m1, m2, m3⟩ | ⟨m1, m2⟩
      · exact Or.inl ⟨m, m1, m2, i0.trans m3⟩
      · refine Or.inr ⟨fun m h1 h2 => ?_, i0.trans m2⟩
        by_cases e : m = k
        · rw [e]; exact z1
        · exact m1 m (by omega) h2
theorem w_letter {g t len : Nat} {I : Nat → Int32} {R : Nat → Nat → Int32} (hL : kLn t = nI len) (hl : kLen.getD t 0 = len) (h4 : len ≤ 4) (h : I 54 = 1) (hg : 5 < g) : fX5_letter g t I R = some (0, I, R) := by
  unfold fX5_letter
  rcases l_gen (g := g) (t := t) (I := I) (R := R) hL hl h4 (fun _ => False) (fun k hk => Or.inr ⟨fun z => z, w_next h _⟩) len 0 g (by omega) (by omega) with ⟨m, _, m2, _⟩ | ⟨_, m2⟩
  · exact absurd m2 (fun z => z)
  · rw [w_upd h] at m2
    exact m2
theorem p_letter {T : Nat → Int32} {g t len N p : Nat} {I : Nat → Int32} {R : Nat → Nat → Int32} (hL : kLn t = nI len) (hl : kLen.getD t 0 = len) (h4 : len ≤ 4) (hN : N ≤ 60) (h : CT T N p I R) (hp : p ≤ N) (hg : 5 < g) : (∃ m, m < len ∧ p < N ∧ T p = kCh t (nI m) ∧ fX5_letter g t I R = some (nI m, upd I 53 (nI (p + 1)), R)) ∨ ((∀ m, m < len → ¬ (p < N ∧ T p = kCh t (nI m))) ∧ fX5_letter g t I R = some (0, upd I 54 1, R)) := by
  unfold fX5_letter
  rcases l_gen (g := g) (t := t) (I := I) (R := R) hL hl h4 (fun k => p < N ∧ T p = kCh t (nI k)) (fun k hk => by
    rcases p_next hN h hp (kCh t (nI k)) with ⟨z1, z2, z3⟩ | ⟨z1, z2⟩
    · exact Or.inl ⟨⟨z1, z2⟩, z3 g⟩
    · exact Or.inr ⟨z1, z2 g⟩) len 0 g (by omega) (by omega) with ⟨m, m1, m2, m3⟩ | ⟨m1, m2⟩
  · rw [h.2.1, nI_1] at m3
    exact Or.inl ⟨m, m1, m2.1, m2.2, m3⟩
  · exact Or.inr ⟨fun m hm => m1 m (by omega) hm, m2⟩
theorem w_digit {g lo : Nat} {hi : Int32} {I : Nat → Int32} {R : Nat → Nat → Int32} (h : I 54 = 1) (hlo : lo < 2 ^ 31) : fX5_digit g (nI lo) hi I R = some (0, I, R) := by
  unfold fX5_digit
  rw [if_neg (by rw [h]; decide)]
  unfold fX5_digit_b18 fX5_digit_b34 fX5_digit_b45
  rw [if_pos, w_upd h]
  refine Int32.lt_iff_toInt_lt.mpr ?_
  rw [nI_toInt hlo, show (-1 : Int32).toInt = -1 by decide]
  omega
theorem toI_nI {d : Int32} {a b : Nat} (hb : b < 2 ^ 31) (h1 : (a : Int) ≤ d.toInt) (h2 : d.toInt ≤ b) : ∃ x, a ≤ x ∧ x ≤ b ∧ d = nI x := by
  refine ⟨d.toInt.toNat, by omega, by omega, ?_⟩
  refine Int32.toInt_inj.mp ?_
  rw [nI_toInt (by omega)]
  omega
theorem p_digit {T : Nat → Int32} {F N p lo hi : Nat} {I J : Nat → Int32} {R S : Nat → Nat → Int32} (hN : N ≤ 60) (hF : F + N ≤ 240) (hp : p ≤ N) (hlo : lo ≤ hi) (hhi : hi ≤ 9) (h : CT T N p I R) (h' : MT T F N p J S) : ((∀ x, lo ≤ x → x ≤ hi → ¬ (p < N ∧ T p = nI (48 + x))) ∧ ∀ g g', fX5_digit g (nI lo) (nI hi) I R = some (0, upd I 54 1, R) ∧ fX8_digit g' (nI (F + N)) (nI lo) (nI hi) J S = some (-9, J, S)) ∨ ∃ x, lo ≤ x ∧ x ≤ hi ∧ p < N ∧ T p = nI (48 + x) ∧ ∀ g g', fX5_digit g (nI lo) (nI hi) I R = some (nI x, upd I 53 (nI (p + 1)), R) ∧ fX8_digit g' (nI (F + N)) (nI lo) (nI hi) J S = some (nI x, upd J 14 (nI (F + (p + 1))), S) := by
  have hdig : ∀ g (t0 : Int32), ¬ (nI lo ≤ t0 ∧ t0 ≤ nI hi) → fX5_digit_b34 g (nI lo) (nI hi) t0 I R = some (0, upd I 54 1, R) := by
    intro g t0 hn
    unfold fX5_digit_b34 fX5_digit_b45
    by_cases e1 : t0 < nI lo
    · rw [if_pos e1]
    · rw [if_neg e1, if_neg (fun e2 => hn ⟨Int32.not_lt.mp e1, e2⟩)]
  by_cases hpn : p < N
  · have hbi : inb (nI p) 60 = true := inb_nI (by omega) (by decide)
    have hbm : inb (nI (F + p)) 240 = true := inb_nI (by omega) (by decide)
    by_cases hin : ((48 + lo : Nat) : Int) ≤ (T p).toInt ∧ (T p).toInt ≤ ((48 + hi : Nat) : Int)
    · obtain ⟨y, y1, y2, y3⟩ := toI_nI (d := T p) (a := 48 + lo) (b := 48 + hi) (by omega) hin.1 hin.2
      obtain ⟨x, rfl⟩ : ∃ x, y = 48 + x := ⟨y - 48, by omega⟩
      have e48 : T p - 48 = nI x := by
        rw [y3, show (48 : Int32) = nI 48 from rfl, pk_sub (by omega)]
        congr 1
        omega
      refine Or.inr ⟨x, by omega, by omega, hpn, y3, fun g g' => ⟨?_, ?_⟩⟩
      · unfold fX5_digit
        rw [if_pos h.2.2.1, h.1, h.2.1, if_pos (nI_lt hpn (by omega)), gpos hbi, getA_nI (by omega), h.2.2.2 p hpn, e48]
        unfold fX5_digit_b34
        rw [if_neg (nI_nlt (by omega) (by omega)), if_pos (nI_le (by omega) (by omega)), h.2.1, nI_1]
      · unfold fX8_digit
        rw [h'.1, if_neg (nI_ge (by omega) (by omega)), gpos hbm, getA_nI (by omega), h'.2 p hpn, y3, show (48 : Int32) = nI 48 from rfl, nI_add, nI_add, within_in (by omega) (by omega) (by omega), bsome, i1, upd_at, nI_1, show nI (F + p + 1) - 1 = nI (F + p) from nI_pred _, gpos hbm, getA_nI (by omega), h'.2 p hpn, y3, pk_sub (by omega)]
        rw [show 48 + x - 48 = x by omega, Nat.add_assoc]
    · refine Or.inl ⟨fun x x1 x2 z => hin (by rw [z.2, nI_toInt (by omega)]; omega), fun g g' => ⟨?_, ?_⟩⟩
      · unfold fX5_digit
        rw [if_pos h.2.2.1, h.1, h.2.1, if_pos (nI_lt hpn (by omega)), gpos hbi, getA_nI (by omega), h.2.2.2 p hpn]
        refine hdig g _ (fun z => hin ?_)
        have z1 := Int32.le_iff_toInt_le.mp z.1
        have z2 := Int32.le_iff_toInt_le.mp z.2
        rw [nI_toInt (by omega)] at z1 z2
        obtain ⟨x, x1, x2, x3⟩ := toI_nI (d := T p - 48) (a := lo) (b := hi) (by omega) z1 z2
        have : T p = nI (x + 48) := by
          rw [← nI_add, ← x3]
          show T p = T p - 48 + 48
          rw [Int32.sub_add_cancel]
        rw [this, nI_toInt (by omega)]
        omega
      · unfold fX8_digit
        rw [h'.1, if_neg (nI_ge (by omega) (by omega)), gpos hbm, getA_nI (by omega), h'.2 p hpn, show (48 : Int32) = nI 48 from rfl, nI_add, nI_add, within_out, bsome, i0]
        have key : ∀ a : Nat, a < 2 ^ 31 → (nI a).toInt = (a : Int) := fun a ha => nI_toInt ha
        by_cases z : (T p).toInt < ((48 + lo : Nat) : Int)
        · exact Or.inl (Int32.lt_iff_toInt_lt.mpr (by rw [key _ (by omega)]; exact z))
        · refine Or.inr (Int32.lt_iff_toInt_lt.mpr ?_)
          rw [key _ (by omega)]
          omega
  · refine Or.inl ⟨fun x x1 x2 z => hpn z.1, fun g g' => ⟨?_, ?_⟩⟩
    · unfold fX5_digit
      rw [if_pos h.2.2.1, h.1, h.2.1, if_neg (nI_nlt (by omega) (by omega))]
      unfold fX5_digit_b18
      refine hdig g _ (fun z => ?_)
      have z1 := Int32.le_iff_toInt_le.mp z.1
      rw [nI_toInt (by omega), show (-1 : Int32).toInt = -1 by decide] at z1
      omega
    · unfold fX8_digit
      rw [h'.1, if_pos (nI_le (by omega) (by omega))]
theorem w_no {d : Int32} {lo hi g : Nat} (hlo : lo ≤ hi) (hhi : hi ≤ 9) (h : ∀ x, lo ≤ x → x ≤ hi → d ≠ nI (48 + x)) : fX8_within g d (nI (48 + lo)) (nI (48 + hi)) = some 0 := by
  refine within_out ?_
  by_cases z : d.toInt < ((48 + lo : Nat) : Int)
  · exact Or.inl (Int32.lt_iff_toInt_lt.mpr (by rw [nI_toInt (by omega)]; exact z))
  · refine Or.inr (Int32.lt_iff_toInt_lt.mpr ?_)
    rw [nI_toInt (by omega)]
    refine Classical.byContradiction (fun z2 => ?_)
    obtain ⟨y, y1, y2, y3⟩ := toI_nI (d := d) (a := 48 + lo) (b := 48 + hi) (by omega) (by omega) (by omega)
    refine h (y - 48) (by omega) (by omega) ?_
    rw [show 48 + (y - 48) = y by omega]
    exact y3
