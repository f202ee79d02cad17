/-! the reference's last rules, all of findCheap -/
def dn (i : Nat) : Int32 := if i = 0 then (-1) else nI (i - 1)
theorem dn_s (i : Nat) : dn (i + 1) = nI i := rfl
theorem dn_p (i : Nat) : nI i + (-1) = dn i := by
  cases i with
  | zero => decide
  | succ i => rw [pk_m1]; rfl
theorem dn_m (i : Nat) : nI i - 1 = dn i := by
  cases i with
  | zero => decide
  | succ i => exact nI_pred i
theorem t_l51 {P : Prog} {n f r : Nat} (k45 : Int32 → Int32 → (Nat → Int32) → (Nat → Nat → Int32) → Option mSt) (hP : pOk P) (hf : f < 64) (hr : r < P.2.1) : ∀ (i j : Nat) (v : mSt), RepM P v → i ≤ 4 → i < j → ∃ R', fX8_findLast_b51 n k45 j (nI f) (nI r) (dn i) v.1 v.2 = k45 (nI f) (dn r) v.1 R' ∧ ∀ k, (k ≠ 27 ∧ k ≠ 28) → R' k = v.2 k := by
  have hk := hP.2.2.2.1 r hr
  have hP1 := hP.1
  have h5 := hP.2.1
  have hb : inb (nI r) 5 = true := inb_nI (by omega) (by decide)
  have hbf : inb (nI f) 64 = true := inb_nI hf (by decide)
  intro i
  induction i with
  | zero =>
    intro j v h hi hj
    obtain ⟨j, rfl⟩ : ∃ i, j = i + 1 := ⟨j - 1, by omega⟩
    refine ⟨v.2, ?_, fun _ _ => rfl⟩
    rw [fX8_findLast_b51, if_pos (show dn 0 < 0 by decide)]
    unfold fX8_findLast_b126
    rw [dn_p]
  | succ i ih =>
    intro j v h hi hj
    obtain ⟨j, rfl⟩ : ∃ i, j = i + 1 := ⟨j - 1, by omega⟩
    have h3 : v.2 10 r = nI (P.2.2.1 3 r) := h.2.2.1 3 (by decide) r hr
    obtain ⟨c, hc⟩ := t_costBy (n := n) (x := f / 4 % 4) (y := f % 4) (z := i) hP h hr (by omega) (by omega) (by omega)
    rw [fX8_findLast_b51, dn_s, if_neg (nI_pos (by omega)), gpos hb, getA_nI (by omega), h3, d16 (by omega)]
    by_cases eh : P.2.2.1 3 r = f / 16
    rotate_left
    · rw [if_neg (nI_lit (by omega) (by omega) eh)]
      unfold fX8_findLast_b126
      rw [dn_p]
      exact ⟨v.2, rfl, fun _ _ => rfl⟩
    rw [if_pos (by rw [eh]), m4 (by omega), d4 (by omega), m4 (by omega), hc, bsome, gpos hbf]
    dsimp only
    unfold fX8_findLast_b119 fX8_findLast_b120
    rw [dn_p, gpos hbf, gpos hbf, gpos hb]
    by_cases e : c = getA v.2 26 (nI f)
    rotate_left
    · rw [if_neg e]
      exact ih j v h (by omega) (by omega)
    rw [if_pos e]
    have go : ∀ x : Int32, ∃ R', fX8_findLast_b51 n k45 j (nI f) (nI r) (dn i) v.1 (setA (setA v.2 27 (nI f) (nI r)) 28 (nI f) x) = k45 (nI f) (dn r) v.1 R' ∧ ∀ k, (k ≠ 27 ∧ k ≠ 28) → R' k = v.2 k := by
      intro x
      obtain ⟨R', r1, r2⟩ := ih j (v.1, setA (setA v.2 27 (nI f) (nI r)) 28 (nI f) x) (h.fr (fun k hk => (setA_ne (by omega)).trans (setA_ne (by omega)))) (by omega) (by omega)
      exact ⟨R', r1, fun k hk => (r2 k hk).trans ((setA_ne hk.2).trans (setA_ne hk.1))⟩
    by_cases e2 : getA (setA v.2 27 (nI f) (nI r)) 9 (nI r) = 2
    · rw [if_pos e2]; exact go _
    · rw [if_neg e2, gpos hbf]; exact go _
theorem t_last {P : Prog} {n f : Nat} {v : mSt} (hP : pOk P) (h : RepM P v) (hf : f < 64) (hn : 6 < n) : ∃ R', fX8_findLast n (nI f) v.1 v.2 = some (v.1, R') ∧ ∀ k, (k ≠ 27 ∧ k ≠ 28) → R' k = v.2 k := by
  have h5 := hP.2.1
  have hbf : inb (nI f) 64 = true := inb_nI hf (by decide)
  have key : ∀ (i j : Nat) (R : Nat → Nat → Int32), i ≤ P.2.1 → i < j → (∀ k, (k ≠ 27 ∧ k ≠ 28) → R k = v.2 k) → ∃ R', fX8_findLast_b45 n j (nI f) (dn i) v.1 R = some (v.1, R') ∧ ∀ k, (k ≠ 27 ∧ k ≠ 28) → R' k = v.2 k := by
    intro i
    induction i with
    | zero =>
      intro j R hi hj hR
      obtain ⟨j, rfl⟩ : ∃ i, j = i + 1 := ⟨j - 1, by omega⟩
      refine ⟨R, ?_, hR⟩
      rw [fX8_findLast_b45, if_pos (show dn 0 < 0 by decide)]
    | succ i ih =>
      intro j R hi hj hR
      obtain ⟨j, rfl⟩ : ∃ i, j = i + 1 := ⟨j - 1, by omega⟩
      obtain ⟨R1, r1, r2⟩ := t_l51 (n := n) (f := f) (r := i) (fX8_findLast_b45 n j) hP hf (by omega) 4 n (v.1, R) (h.fr (fun k hk => hR _ (by omega))) (by decide) (by omega)
      rw [fX8_findLast_b45, dn_s, if_neg (nI_pos (by omega)), show (3 : Int32) = dn 4 from rfl]
      rw [show fX8_findLast_b51 n (fX8_findLast_b45 n j) n (nI f) (nI i) (dn 4) v.1 R = _ from r1]
      exact ih j R1 (by omega) (by omega) (fun k hk => (r2 k hk).trans (hR k hk))
  unfold fX8_findLast
  rw [gpos hbf, gpos hbf, gpos hbf, gpos hbf]
  have hR : ∀ k, (k ≠ 27 ∧ k ≠ 28) → setA (setA v.2 27 (nI f) (-9)) 28 (nI f) (-9) k = v.2 k := fun k hk => (setA_ne hk.2).trans (setA_ne hk.1)
  by_cases e : getA (setA (setA v.2 27 (nI f) (-9)) 28 (nI f) (-9)) 26 (nI f) = (-9)
  · rw [if_pos e]; exact ⟨_, rfl, hR⟩
  rw [if_neg e]
  by_cases e1 : getA (setA (setA v.2 27 (nI f) (-9)) 28 (nI f) (-9)) 13 (nI f) = 1
  · rw [if_pos e1]; exact ⟨_, rfl, hR⟩
  rw [if_neg e1, h.2.1, dn_m]
  exact key P.2.1 n _ (Nat.le_refl _) (by omega) hR
def FrC (v v' : mSt) : Prop := (∀ k, k ≠ 25 → v'.1 k = v.1 k) ∧ ∀ k, k < 21 ∨ 28 < k → v'.2 k = v.2 k
theorem FrC.M {P : Prog} {v v' : mSt} (h : FrC v v') (hM : RepM P v) : RepM P v' := hM.mk (h.1 _ (by decide)) (h.1 _ (by decide)) (fun k hk => h.2 _ (by omega))
theorem FrC.trans {v v' v'' : mSt} (h : FrC v v') (h' : FrC v' v'') : FrC v v'' := ⟨fun k hk => (h'.1 k hk).trans (h.1 k hk), fun k hk => (h'.2 k hk).trans (h.2 k hk)⟩
theorem t_findCheap {P : Prog} {n : Nat} {v : mSt} (hP : pOk P) (h : RepM P v) (hL : LayP P) (hn : 274877907000 < n) : ∃ v', fX8_findCheap n v.1 v.2 = some v' ∧ RepRM (fin P) v' ∧ RepLM (lays P 3) v' ∧ FrC v v' := by
  obtain ⟨v1, a1, a2, a3, a4⟩ := e_findHolds (n := n) hP h hL (by omega)
  have hM1 := a4.M h
  obtain ⟨R2, b1, b4⟩ := lp0 (fun j i (R : Nat → Nat → Int32) => fX8_findCheap_b6 n j (nI i) v1.1 R) 64 (fun _ R => ∀ k, k ≠ 26 → R k = v1.2 k)
    (by
      intro j i R hi g
      try dsimp only
      have hb : inb (nI i) 64 = true := inb_nI hi (by decide)
      rw [fX8_findCheap_b6, if_neg (g64 hi), gpos hb]
      unfold fX8_findCheap_b33
      rw [gpos hb, gpos hb, nI_1]
      by_cases e : getA R 13 (nI i) = 1
      · rw [if_pos e]; exact ⟨_, fun k hk => (setA_ne hk).trans (g k hk), rfl⟩
      · rw [if_neg e]; exact ⟨_, fun k hk => (setA_ne hk).trans (g k hk), rfl⟩)
    (s := v1.2) (fun _ _ => rfl) (n := n) (by omega)
  have hM2 : RepM P (v1.1, R2) := hM1.fr (fun k hk => b1 _ (by omega))
  obtain ⟨R3, c1, c2⟩ := t_42 (n := n) hP (by omega) 274877906944 n (v1.1, R2) hM2 (MuS_le _) (by omega)
  have hM3 : RepM P (v1.1, R3) := hM2.fr (fun k hk => c2 _ (by omega))
  obtain ⟨R4, d1, d4⟩ := lp0 (fun j i (R : Nat → Nat → Int32) => fX8_findCheap_b94 n j (nI i) v1.1 R) 64 (fun _ R => ∀ k, (k ≠ 27 ∧ k ≠ 28) → R k = R3 k)
    (by
      intro j i R hi g
      try dsimp only
      obtain ⟨R', r1, r2⟩ := t_last (n := n) (f := i) (v := (v1.1, R)) hP (hM3.fr (R := R) (fun k hk => g _ (by omega))) hi (by omega)
      rw [fX8_findCheap_b94, if_neg (g64 hi), show fX8_findLast n (nI i) v1.1 R = some (v1.1, R') from r1, bsome, nI_1]
      exact ⟨R', fun k hk => (r2 k hk).trans (g k hk), rfl⟩)
    (s := R3) (fun _ _ => rfl) (n := n) (by omega)
  have hrow : ∀ k, k < 26 ∨ 28 < k → R4 k = v1.2 k := fun k hk => by
    rw [d1 k (by omega)]
    exact (c2 k (by omega)).trans (b1 k (by omega))
  refine ⟨(v1.1, R4), ?_, ⟨fun f hf => ?_, fun f hf => ?_, a2.2.2⟩, fun q hq => ?_, ⟨a4.1, fun k hk => (hrow k (by omega)).trans (a4.2 k (by omega))⟩⟩
  · unfold fX8_findCheap
    rw [a1, bsome]
    refine b4.trans ?_
    try dsimp only
    rw [fX8_findCheap_b6, if_pos (show (64 : Int32) ≤ nI 64 by decide)]
    refine c1.trans ?_
    refine d4.trans ?_
    try dsimp only
    rw [fX8_findCheap_b94, if_pos (show (64 : Int32) ≤ nI 64 by decide)]
  · show R4 22 f = _
    rw [hrow 22 (by decide)]; exact a2.1 f hf
  · show R4 24 f = _
    rw [hrow 24 (by decide)]; exact a2.2.1 f hf
  · show R4 21 q = _
    rw [hrow 21 (by decide)]; exact a3 q hq
