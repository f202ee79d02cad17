/-! sets as bits -/
theorem sh_k {i : Nat} (h : i < 32) : ((nI i &&& 31).toBitVec.smod 32).toNat = i := by
  rw [pk_andN (by omega) (m := 31) 5 (by decide), Nat.mod_eq_of_lt (by omega)]
  have : ∀ i : Fin 32, ((nI i.1).toBitVec.smod 32).toNat = i.1 := by decide
  exact this ⟨i, h⟩
theorem bit_or (a b : Int32) (i : Nat) : bit (a ||| b) i = (bit a i || bit b i) := by
  unfold bit; rw [Int32.toBitVec_or, BitVec.getLsbD_or]
theorem bit_and (a b : Int32) (i : Nat) : bit (a &&& b) i = (bit a i && bit b i) := by
  unfold bit; rw [Int32.toBitVec_and, BitVec.getLsbD_and]
theorem bit_xor (a b : Int32) (i : Nat) : bit (a ^^^ b) i = (bit a i ^^ bit b i) := by
  unfold bit; rw [Int32.toBitVec_xor, BitVec.getLsbD_xor]
theorem bit_m1 (i : Nat) : bit (-1) i = decide (i < 32) := by
  unfold bit
  rw [show (-1 : Int32).toBitVec = BitVec.allOnes 32 from by decide, BitVec.getLsbD_allOnes]
theorem bit_0 (i : Nat) : bit 0 i = false := by
  unfold bit
  rw [show (0 : Int32).toBitVec = 0#32 from rfl, BitVec.getLsbD_zero]
theorem bit_big {a : Int32} {i : Nat} (h : 32 ≤ i) : bit a i = false := BitVec.getLsbD_of_ge _ _ h
theorem bit_ext {a b : Int32} (h : ∀ i, i < 32 → bit a i = bit b i) : a = b := Int32.toBitVec_inj.mp (BitVec.eq_of_getLsbD_eq (fun i hi => h i hi))
theorem bit_shl {a : Int32} {k : Nat} (hk : k < 32) (i : Nat) : bit (a <<< (nI k &&& 31)) i = (decide (i < 32) && !decide (i < k) && bit a (i - k)) := by
  unfold bit
  rw [Int32.toBitVec_shiftLeft, BitVec.shiftLeft_eq', sh_k hk, BitVec.getLsbD_shiftLeft]
theorem bit_shr {a : Int32} {k : Nat} (hk : k < 32) {i : Nat} (h : k + i < 32) : bit (a >>> (nI k &&& 31)) i = bit a (k + i) := by
  unfold bit
  rw [Int32.toBitVec_shiftRight, BitVec.sshiftRight_eq', sh_k hk, BitVec.getLsbD_sshiftRight]
  rw [if_pos h]
  have : ¬ 32 ≤ i := by omega
  simp [this]
theorem bit_1 (i : Nat) : bit 1 i = decide (i = 0) := by
  unfold bit
  rw [show (1 : Int32).toBitVec = 1#32 from rfl, BitVec.getLsbD_one]
  simp
theorem bit_1shl {k : Nat} (hk : k < 32) (i : Nat) : bit (1 <<< (nI k &&& 31)) i = decide (i = k) := by
  rw [bit_shl hk, bit_1]
  by_cases e : i = k
  · subst e; simp [hk]
  · by_cases e2 : i < k
    · simp [e, e2]
    · have : ¬ i - k = 0 := by omega
      simp [e, this]
theorem bit_ne0 {a : Int32} : (a = 0) ↔ ∀ i, i < 32 → bit a i = false := by
  constructor
  · rintro rfl i hi; exact bit_0 i
  · intro h; exact bit_ext (fun i hi => (h i hi).trans (bit_0 i).symm)
theorem bit_test {a : Int32} {k : Nat} (hk : k < 32) : (((a >>> (nI k &&& 31)) &&& 1) = 0) ↔ bit a k = false := by
  rw [bit_ne0]
  constructor
  · intro h
    have := h 0 (by decide)
    rw [bit_and, bit_1, bit_shr hk (by omega)] at this
    simpa using this
  · intro h i hi
    rw [bit_and, bit_1]
    by_cases e : i = 0
    · subst e; rw [bit_shr hk (by omega)]; simp [h]
    · simp [e]
theorem bit_test1 {a : Int32} {k : Nat} (hk : k < 32) : (((a >>> (nI k &&& 31)) &&& 1) = 1) ↔ bit a k = true := by
  constructor
  · intro h
    have := congrArg (fun x => bit x 0) h
    simp only [bit_and, bit_1] at this
    rw [bit_shr hk (by omega)] at this
    simpa using this
  · intro h
    apply bit_ext
    intro i hi
    rw [bit_and, bit_1]
    by_cases e : i = 0
    · subst e; rw [bit_shr hk (by omega)]; simp [h]
    · simp [e]
theorem bit_has {a : Int32} {k : Nat} (hk : k < 32) : ((a &&& (1 <<< (nI k &&& 31))) = 0) ↔ bit a k = false := by
  rw [bit_ne0]
  constructor
  · intro h
    have := h k hk
    rw [bit_and, bit_1shl hk] at this
    simpa using this
  · intro h i hi
    rw [bit_and, bit_1shl hk]
    by_cases e : i = k
    · subst e; simp [h]
    · simp [e]
theorem bit_nI {m : Nat} (i : Nat) (h : m < 2 ^ 32) : bit (nI m) i = m.testBit i := by
  unfold bit
  rw [BitVec.getLsbD, pk_tn h]
/-- as it stands in a held or a told row -/
theorem e_isTold {P : Prog} {w n f : Nat} {u : mSt} (h : RepC P w u) (hf : f < 64) : fX2_isTold n w (nI f) u.1 u.2 = some (if P.2.2.2 f = true then 1 else 0, u) := by
  unfold fX2_isTold
  rw [show (16 : Int32) = nI 16 from rfl, pk_div (by omega) (by decide) (by decide), gpos (inb_nI (by omega) (by decide)), pk_mul, pk_sub (by omega), getA_nI (by omega)]
  have h2 := h.2.2.2 (f / 16) (by omega) (f % 16)
  rw [show 16 * (f / 16) + f % 16 = f by omega, show decide (f % 16 < 16) = true from decide_eq_true (by omega), Bool.true_and] at h2
  rw [show f - f / 16 * 16 = f % 16 by omega]
  by_cases e : P.2.2.2 f = true
  · rw [if_pos e, if_neg]
    rw [bit_test (by omega), h2, e]; decide
  · rw [if_neg e, if_pos]
    rw [bit_test (by omega), h2]; simpa using e
