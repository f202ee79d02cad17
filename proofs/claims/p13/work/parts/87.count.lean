/-! bits counted -/
def allB (p : Nat → Bool) : Nat → Bool
  | 0 => true
  | k + 1 => p k && allB p k
theorem allB_at {p : Nat → Bool} {n : Nat} (h : allB p n = true) (k : Nat) (hk : k < n) : p k = true := by
  induction n with
  | zero => omega
  | succ n ih =>
    unfold allB at h
    rw [Bool.and_eq_true] at h
    by_cases e : k = n
    · rw [e]; exact h.1
    · exact ih h.2 (by omega)
theorem land8 (x y : Nat) : x &&& y = 256 * ((x / 256) &&& (y / 256)) + ((x % 256) &&& (y % 256)) := by
  have h1 : (x &&& y) % 2 ^ 8 = (x % 2 ^ 8) &&& (y % 2 ^ 8) := Nat.and_mod_two_pow
  have h2 : (x &&& y) / 2 ^ 8 = (x / 2 ^ 8) &&& (y / 2 ^ 8) := Nat.and_div_two_pow
  have := Nat.div_add_mod (x &&& y) 256
  rw [← this, show (256 : Nat) = 2 ^ 8 from rfl, h1, h2]
theorem landS {x : Nat} (y : Nat) (h : x < 256) : x &&& y = x &&& (y % 256) := by
  rw [land8 x y, Nat.div_eq_of_lt h, Nat.zero_and, Nat.mod_eq_of_lt h]
  omega
theorem land2 {a b y : Nat} (h : a < 256) (hb : b < 256) : (256 * b + a) &&& y = 256 * (b &&& (y / 256 % 256)) + (a &&& (y % 256)) := by
  rw [land8 (256 * b + a) y, show (256 * b + a) / 256 = b by omega, show (256 * b + a) % 256 = a by omega, landS (y / 256) hb]
theorem l85 {a b : Nat} (ha : a < 128) (hb : b < 2) : ((128 * b + a) &&& 85) = (a &&& 85) := by
  have h : allB (fun a => allB (fun b => ((128 * b + a) &&& 85) == (a &&& 85)) 2) 128 = true := by decide +kernel
  have := allB_at (allB_at h a ha) b hb
  simpa using this
theorem l51 {a b : Nat} (ha : a < 64) (hb : b < 4) : ((64 * b + a) &&& 51) = (a &&& 51) := by
  have h : allB (fun a => allB (fun b => ((64 * b + a) &&& 51) == (a &&& 51)) 4) 64 = true := by decide +kernel
  have := allB_at (allB_at h a ha) b hb
  simpa using this
theorem l15 {a b : Nat} : ((a + 16 * b) &&& 15) = (a &&& 15) := by
  have h1 : ∀ x : Nat, x &&& 15 = x % 16 := fun x => Nat.and_two_pow_sub_one_eq_mod x 4
  rw [h1, h1]; omega
def y1 (a : Nat) : Nat := a - ((a / 2) &&& 85)
def y2 (a : Nat) : Nat := (a &&& 51) + ((a / 4) &&& 51)
theorem y12 {a : Nat} (h : a < 256) : y1 a < 256 ∧ y2 (y1 a) % 16 ≤ 4 ∧ y2 (y1 a) / 16 ≤ 4 ∧ y2 (y1 a) % 16 + y2 (y1 a) / 16 = cntB a.testBit 8 := by
  have h0 : allB (fun a => decide (y1 a < 256) && (decide (y2 (y1 a) % 16 ≤ 4) && (decide (y2 (y1 a) / 16 ≤ 4) && (y2 (y1 a) % 16 + y2 (y1 a) / 16 == cntB a.testBit 8)))) 256 = true := by decide +kernel
  have := allB_at h0 a h
  simpa using this
def pop1 (k : Nat) : Nat := k - ((k / 2) &&& 1431655765)
def pop2 (x : Nat) : Nat := (x &&& 858993459) + ((x / 4) &&& 858993459)
def pop3 (x : Nat) : Nat := (x + x / 16) &&& 252645135
theorem e_pop1 {a b : Nat} (ha : a < 256) (hb : b < 256) : pop1 (256 * b + a) = 256 * y1 b + y1 a := by
  unfold pop1 y1
  rw [show (256 * b + a) / 2 = 256 * (b / 2) + (128 * (b % 2) + a / 2) by omega, land2 (by omega) (by omega)]
  simp only [Nat.reduceDiv, Nat.reduceMod]
  rw [l85 (by omega) (by omega)]
  have h1 : b / 2 &&& 85 ≤ b / 2 := Nat.and_le_left
  have h2 : a / 2 &&& 85 ≤ a / 2 := Nat.and_le_left
  omega
theorem e_pop2 {a b : Nat} (ha : a < 256) (hb : b < 256) : pop2 (256 * b + a) = 256 * y2 b + y2 a := by
  unfold pop2 y2
  rw [show (256 * b + a) / 4 = 256 * (b / 4) + (64 * (b % 4) + a / 4) by omega, land2 (by omega) (by omega), land2 (by omega) (by omega)]
  simp only [Nat.reduceDiv, Nat.reduceMod]
  rw [l51 (by omega) (by omega)]
  omega
theorem e_pop3 {a b : Nat} (ha : a % 16 ≤ 4) (ha' : a / 16 ≤ 4) (hb : b % 16 ≤ 4) (hb' : b / 16 ≤ 4) : pop3 (256 * b + a) = 256 * (b % 16 + b / 16) + (a % 16 + a / 16) := by
  unfold pop3
  rw [show 256 * b + a + (256 * b + a) / 16 = 256 * (b + b / 16) + (a + a / 16 + 16 * (b % 16)) by omega, land2 (by omega) (by omega)]
  simp only [Nat.reduceDiv, Nat.reduceMod]
  rw [l15]
  have h1 : ∀ x : Nat, x &&& 15 = x % 16 := fun x => Nat.and_two_pow_sub_one_eq_mod x 4
  rw [h1, h1]
  omega
theorem cntB_16 {a b : Nat} (ha : a < 256) : cntB (256 * b + a).testBit 16 = cntB b.testBit 8 + cntB a.testBit 8 := by
  have lo : ∀ i, i < 8 → (256 * b + a).testBit i = a.testBit i := by
    intro i hi
    have := Nat.testBit_two_pow_mul_add b (i := 8) (b := a) (by omega) i
    rw [show (256 : Nat) = 2 ^ 8 from rfl, this, if_pos hi]
  have hi : ∀ i, (256 * b + a).testBit (8 + i) = b.testBit i := by
    intro i
    have := Nat.testBit_two_pow_mul_add b (i := 8) (b := a) (by omega) (8 + i)
    rw [show (256 : Nat) = 2 ^ 8 from rfl, this, if_neg (by omega)]
    congr 1
    omega
  have h0 := hi 0
  have h1 := hi 1
  have h2 := hi 2
  have h3 := hi 3
  have h4 := hi 4
  have h5 := hi 5
  have h6 := hi 6
  have h7 := hi 7
  simp only [cntB, lo 0 (by omega), lo 1 (by omega), lo 2 (by omega), lo 3 (by omega), lo 4 (by omega), lo 5 (by omega), lo 6 (by omega), lo 7 (by omega)]
  simp only [Nat.reduceAdd, Nat.zero_add] at h0 h1 h2 h3 h4 h5 h6 h7 ⊢
  simp only [h0, h1, h2, h3, h4, h5, h6, h7]
  omega
def popN (k : Nat) : Nat := ((pop3 (pop2 (pop1 k)) + pop3 (pop2 (pop1 k)) / 256) + (pop3 (pop2 (pop1 k)) + pop3 (pop2 (pop1 k)) / 256) / 65536) &&& 63
theorem e_popN {k : Nat} (h : k < 65536) : popN k = cntB k.testBit 16 ∧ pop1 k ≤ 65535 ∧ pop2 (pop1 k) ≤ 65535 ∧ pop3 (pop2 (pop1 k)) ≤ 65535 := by
  obtain ⟨a, b, ha, hb, rfl⟩ : ∃ a b, a < 256 ∧ b < 256 ∧ k = 256 * b + a := ⟨k % 256, k / 256, by omega, by omega, by omega⟩
  have A := y12 ha
  have B := y12 hb
  rw [cntB_16 ha]
  unfold popN
  rw [e_pop1 ha hb, e_pop2 A.1 B.1, e_pop3 A.2.1 A.2.2.1 B.2.1 B.2.2.1]
  have h1 : ∀ x : Nat, x &&& 63 = x % 64 := fun x => Nat.and_two_pow_sub_one_eq_mod x 6
  rw [h1, B.2.2.2, A.2.2.2]
  have h2 : cntB b.testBit 8 ≤ 8 := by omega
  have h3 : cntB a.testBit 8 ≤ 8 := by omega
  have h4 : y2 (y1 a) < 256 := by omega
  have h5 : y2 (y1 b) < 256 := by omega
  refine ⟨?_, by omega, by omega, by omega⟩
  rw [show (256 * cntB b.testBit 8 + cntB a.testBit 8) / 256 = cntB b.testBit 8 by omega, show (256 * cntB b.testBit 8 + cntB a.testBit 8 + cntB b.testBit 8) / 65536 = 0 by omega]
  omega
theorem nI_and {a b : Nat} (ha : a < 2 ^ 32) (hb : b < 2 ^ 32) : nI a &&& nI b = nI (a &&& b) := by
  apply bit_ext
  intro i hi
  have : a &&& b < 2 ^ 32 := Nat.lt_of_le_of_lt Nat.and_le_left ha
  rw [bit_and, bit_nI i ha, bit_nI i hb, bit_nI i this, Nat.testBit_and]
theorem e_bcN {k n : Nat} (h : k < 65536) : fJ6_bitCount_0f7a4 n (nI k) = some (nI (cntB k.testBit 16)) := by
  obtain ⟨h0, h1, h2, h3⟩ := e_popN h
  unfold fJ6_bitCount_0f7a4 ushr
  have u1 : ∀ {x : Nat}, x < 2 ^ 32 → ((nI x).toUInt32 >>> ((1 : Int32).toUInt32 &&& Int32.toUInt32 31)).toInt32 = nI (x / 2) := fun hx => pk_ushrN hx 1 1 (by decide)
  have u2 : ∀ {x : Nat}, x < 2 ^ 32 → ((nI x).toUInt32 >>> ((2 : Int32).toUInt32 &&& Int32.toUInt32 31)).toInt32 = nI (x / 4) := fun hx => pk_ushrN hx 2 2 (by decide)
  have u4 : ∀ {x : Nat}, x < 2 ^ 32 → ((nI x).toUInt32 >>> ((4 : Int32).toUInt32 &&& Int32.toUInt32 31)).toInt32 = nI (x / 16) := fun hx => pk_ushrN hx 4 4 (by decide)
  have u8 : ∀ {x : Nat}, x < 2 ^ 32 → ((nI x).toUInt32 >>> ((8 : Int32).toUInt32 &&& Int32.toUInt32 31)).toInt32 = nI (x / 256) := fun hx => pk_ushrN hx 8 8 (by decide)
  have u16 : ∀ {x : Nat}, x < 2 ^ 32 → ((nI x).toUInt32 >>> ((16 : Int32).toUInt32 &&& Int32.toUInt32 31)).toInt32 = nI (x / 65536) := fun hx => pk_ushrN hx 16 16 (by decide)
  have e1 : nI k - (((nI k).toUInt32 >>> ((1 : Int32).toUInt32 &&& Int32.toUInt32 31)).toInt32 &&& 1431655765) = nI (pop1 k) := by
    rw [u1 (by omega), show (1431655765 : Int32) = nI 1431655765 from rfl, nI_and (by omega) (by omega), pk_sub]
    · rfl
    · have : k / 2 &&& 1431655765 ≤ k / 2 := Nat.and_le_left
      omega
  rw [e1]
  have e2 : (nI (pop1 k) &&& 858993459) + (((nI (pop1 k)).toUInt32 >>> ((2 : Int32).toUInt32 &&& Int32.toUInt32 31)).toInt32 &&& 858993459) = nI (pop2 (pop1 k)) := by
    rw [u2 (by omega), show (858993459 : Int32) = nI 858993459 from rfl, nI_and (by omega) (by omega), nI_and (by omega) (by omega), nI_add]
    rfl
  rw [e2]
  have e3 : (nI (pop2 (pop1 k)) + ((nI (pop2 (pop1 k))).toUInt32 >>> ((4 : Int32).toUInt32 &&& Int32.toUInt32 31)).toInt32) &&& 252645135 = nI (pop3 (pop2 (pop1 k))) := by
    rw [u4 (by omega), show (252645135 : Int32) = nI 252645135 from rfl, nI_add, nI_and (by omega) (by omega)]
    rfl
  rw [e3, u8 (by omega), nI_add, u16 (by omega), nI_add, show (63 : Int32) = nI 63 from rfl, nI_and (by omega) (by omega), ← h0]
  rfl
theorem cntB_congr {p p' : Nat → Bool} {n : Nat} (h : ∀ k, k < n → p k = p' k) : cntB p n = cntB p' n := by
  induction n with
  | zero => rfl
  | succ n ih =>
    unfold cntB
    rw [ih (fun k hk => h k (by omega)), h n (by omega)]
theorem e_bc {m : Int32} {T : Nat → Bool} (h : ∀ i, bit m i = (decide (i < 16) && T i)) {n : Nat} : fJ6_bitCount_0f7a4 n m = some (nI (cntB T 16)) := by
  have hb : m.toBitVec.toNat < 2 ^ 16 := by
    apply Nat.lt_pow_two_of_testBit
    intro i hi
    have := h i
    unfold bit at this
    rw [BitVec.getLsbD] at this
    rw [this]
    have : ¬ i < 16 := by omega
    simp [this]
  have hm : m = nI m.toBitVec.toNat := by
    apply bit_ext
    intro i hi
    rw [bit_nI i (by omega)]
    rfl
  rw [hm, e_bcN (by omega)]
  congr 2
  apply cntB_congr
  intro i hi
  have := h i
  rw [hm, bit_nI i (by omega)] at this
  rw [this]
  simp [hi]
