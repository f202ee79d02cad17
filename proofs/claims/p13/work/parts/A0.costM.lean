/-! the reference finds what facts cost: it comes to an end, whatever the numbers -/
theorem t_costBy {P : Prog} {n r x y z : Nat} {v : mSt} (hP : pOk P) (h : RepM P v) (hr : r < P.2.1) (hx : x < 4) (hy : y < 4) (hz : z < 4) : ∃ c, fX8_costBy n (nI r) (nI x) (nI y) (nI z) v.1 v.2 = some (c, v) := by
  have hk := hP.2.2.2.1 r hr
  have hP1 := hP.1
  have h5 := hP.2.1
  have hb : inb (nI r) 5 = true := inb_nI (by omega) (by decide)
  have c2 : getA v.2 9 (nI r) = nI (P.2.2.1 2 r) := h.at 2 (by decide) hr h5
  have c4 : getA v.2 11 (nI r) = nI (P.2.2.1 4 r) := h.at 4 (by decide) hr h5
  have c5 : ¬ P.2.2.1 2 r < 2 → getA v.2 12 (nI r) = nI (P.2.2.1 5 r) := fun e => h.o hr h5 e
  have b138 : ∀ a t, ∃ c, fX8_costBy_b138 n (nI r) a t v.1 v.2 = some (c, v) := by
    intro a t
    unfold fX8_costBy_b138
    by_cases e : t = (-9)
    · rw [if_pos e]; exact ⟨_, rfl⟩
    · rw [if_neg e, e_costM hP h hr, bsome]; exact ⟨_, rfl⟩
  have b107 : ∀ a, ∃ c, fX8_costBy_b107 n (nI r) (nI y) (nI z) a v.1 v.2 = some (c, v) := by
    intro a
    unfold fX8_costBy_b107
    rw [gpos hb, gpos hb, c2]
    by_cases e : P.2.2.1 2 r = 2
    · rw [if_pos (show nI (P.2.2.1 2 r) = (2 : Int32) by rw [e]; rfl), c5 (by omega), e_factM, bsome, gpos (inb_nI (by omega) (by decide))]
      exact b138 _ _
    · rw [if_neg (show ¬ nI (P.2.2.1 2 r) = (2 : Int32) from nI_lit (b := 2) (by omega) (by decide) e)]
      exact b138 _ _
  have b64 : ∀ f, f < 64 → ∃ c, fX8_costBy_b64 n (nI r) (nI x) (nI y) (nI z) (nI f) v.1 v.2 = some (c, v) := by
    intro f hf
    unfold fX8_costBy_b64
    rw [gpos (inb_nI hf (by decide))]
    by_cases e : getA v.2 26 (nI f) = (-9)
    · rw [if_pos e]; exact ⟨_, rfl⟩
    · rw [if_neg e, gpos hb, gpos hb, c2]
      by_cases e3 : P.2.2.1 2 r = 3
      · rw [if_pos (show nI (P.2.2.1 2 r) = (3 : Int32) by rw [e3]; rfl), c5 (by omega), e_factM, bsome, gpos (inb_nI (by omega) (by decide))]
        by_cases e4 : getA v.2 22 (nI (16 * P.2.2.1 5 r + 4 * x + y)) = 1
        · rw [if_pos e4]; exact ⟨_, rfl⟩
        · rw [if_neg e4]; exact b107 _
      · rw [if_neg (show ¬ nI (P.2.2.1 2 r) = (3 : Int32) from nI_lit (b := 3) (by omega) (by decide) e3)]
        exact b107 _
  unfold fX8_costBy
  rw [gpos hb, gpos hb, gpos hb, gpos hb, gpos hb, c2, c4]
  by_cases e2 : P.2.2.1 2 r = 2
  · rw [if_pos (show nI (P.2.2.1 2 r) = (2 : Int32) by rw [e2]; rfl), e_factM, bsome]
    exact b64 _ (by omega)
  · rw [if_neg (show ¬ nI (P.2.2.1 2 r) = (2 : Int32) from nI_lit (b := 2) (by omega) (by decide) e2)]
    by_cases e1 : P.2.2.1 2 r = 1
    · rw [if_pos (show nI (P.2.2.1 2 r) = (1 : Int32) by rw [e1]; rfl), e_factM, bsome]
      exact b64 _ (by omega)
    · rw [if_neg (show ¬ nI (P.2.2.1 2 r) = (1 : Int32) from nI_lit (b := 1) (by omega) (by decide) e1), e_factM, bsome]
      exact b64 _ (by omega)
def mu (x : Int32) : Nat := if x = (-9) then 4294967296 else (x.toInt + 2147483648).toNat
theorem mu_le (x : Int32) : mu x ≤ 4294967296 := by
  unfold mu
  split
  · exact Nat.le_refl _
  · have := Int32.toInt_lt x
    have := Int32.le_toInt x
    omega
theorem mu_lt {z o : Int32} (hz : ¬ z = (-9)) (h : o = (-9) ∨ z < o) : mu z < mu o := by
  have h1 := Int32.toInt_lt z
  have h2 := Int32.le_toInt z
  unfold mu
  rw [if_neg hz]
  by_cases e : o = (-9)
  · rw [if_pos e]; omega
  · rw [if_neg e]
    have h3 := Int32.lt_iff_toInt_lt.mp (h.resolve_left e)
    omega
def GcI (R0 : Nat → Nat → Int32) (f : Nat) (s : Int32 × (Nat → Nat → Int32)) : Prop := (∀ k, k ≠ 26 → s.2 k = R0 k) ∧ (∀ t, t ≠ f → s.2 26 t = R0 26 t) ∧ ((s.1 = 0 ∧ s.2 26 f = R0 26 f) ∨ (s.1 = 1 ∧ mu (s.2 26 f) < mu (R0 26 f)))
theorem t_gc28 {P : Prog} {n f r x y : Nat} {v : mSt} {R0 : Nat → Nat → Int32} {a : Int32} (k16 : Int32 → Int32 → Int32 → Int32 → Int32 → (Nat → Int32) → (Nat → Nat → Int32) → Option (Int32 × mSt)) (hP : pOk P) (h : RepM P v) (hf : f < 64) (hx : x < 4) (hy : y < 4) (hr : r < P.2.1) (hs : GcI R0 f (a, v.2)) (hn : 5 < n) : ∃ s, GcI R0 f s ∧ fX8_getsCheaper_b28 n k16 n (nI f) (nI x) (nI y) a (nI r) 0 v.1 v.2 = k16 (nI f) (nI x) (nI y) s.1 (nI (r + 1)) v.1 s.2 := by
  have hk := hP.2.2.2.1 r hr
  have hP1 := hP.1
  have h5 := hP.2.1
  have hb : inb (nI r) 5 = true := inb_nI (by omega) (by decide)
  have hbf : inb (nI f) 64 = true := inb_nI hf (by decide)
  have h3 : v.2 10 r = nI (P.2.2.1 3 r) := h.2.2.1 3 (by decide) r hr
  by_cases eh : P.2.2.1 3 r = f / 16
  · obtain ⟨s, ⟨g1, g2, g3⟩, g4⟩ := lp0 (fun j i (s : Int32 × (Nat → Nat → Int32)) => fX8_getsCheaper_b28 n k16 j (nI f) (nI x) (nI y) s.1 (nI r) (nI i) v.1 s.2) 4 (fun i s => GcI R0 f s ∧ (∀ k, k ≠ 26 → s.2 k = v.2 k) ∧ True)
      (by
        intro j i s hi ⟨g, g2, _⟩
        try dsimp only
        obtain ⟨q1, q2, q3⟩ := g
        have hM : RepM P (v.1, s.2) := h.fr (fun k hk => g2 _ (by omega))
        obtain ⟨c, hc⟩ := t_costBy (n := n) hP hM hr hx hy hi
        have hc : fX8_costBy n (nI r) (nI x) (nI y) (nI i) v.1 s.2 = some (c, v.1, s.2) := hc
        rw [fX8_getsCheaper_b28, if_neg (g4' hi), gpos hb, getA_nI (by omega), g2 10 (by decide), h3, d16 (by omega), if_pos (by rw [eh]), hc, bsome]
        dsimp only
        unfold fX8_getsCheaper_b100 fX8_getsCheaper_b89 fX8_getsCheaper_b100
        rw [nI_1, gpos hbf, gpos hbf, gpos hbf]
        have stay : ∃ s', (GcI R0 f s' ∧ (∀ k, k ≠ 26 → s'.2 k = v.2 k) ∧ True) ∧ fX8_getsCheaper_b28 n k16 j (nI f) (nI x) (nI y) s.1 (nI r) (nI (i + 1)) v.1 s.2 = fX8_getsCheaper_b28 n k16 j (nI f) (nI x) (nI y) s'.1 (nI r) (nI (i + 1)) v.1 s'.2 := ⟨s, ⟨⟨q1, q2, q3⟩, g2, trivial⟩, rfl⟩
        have set : ¬ c = (-9) → (s.2 26 f = (-9) ∨ c < s.2 26 f) → ∃ s', (GcI R0 f s' ∧ (∀ k, k ≠ 26 → s'.2 k = v.2 k) ∧ True) ∧ fX8_getsCheaper_b28 n k16 j (nI f) (nI x) (nI y) 1 (nI r) (nI (i + 1)) v.1 (setA s.2 26 (nI f) c) = fX8_getsCheaper_b28 n k16 j (nI f) (nI x) (nI y) s'.1 (nI r) (nI (i + 1)) v.1 s'.2 := by
          intro z1 z2
          have hmu := mu_lt z1 z2
          refine ⟨(1, setA s.2 26 (nI f) c), ⟨⟨fun k hk => (setA_ne hk).trans (q1 k hk), fun t ht => ?_, Or.inr ⟨rfl, ?_⟩⟩, fun k hk => (setA_ne hk).trans (g2 k hk), trivial⟩, rfl⟩
          · show setA s.2 26 (nI f) c 26 t = _
            rw [setA_at (by omega), if_neg ht]; exact q2 t ht
          · show mu (setA s.2 26 (nI f) c 26 f) < _
            rw [setA_at (by omega), if_pos rfl]
            rcases q3 with ⟨_, e⟩ | ⟨_, e⟩
            · rw [← e]; exact hmu
            · exact Nat.lt_trans hmu e
        rw [getA_nI (by omega)]
        by_cases e : c = (-9)
        · rw [if_pos e]; exact stay
        rw [if_neg e]
        by_cases e1 : s.2 26 f = (-9)
        · rw [if_pos e1]; exact set e (Or.inl e1)
        rw [if_neg e1]
        by_cases e2 : s.2 26 f ≤ c
        · rw [if_pos e2]; exact stay
        · rw [if_neg e2]; exact set e (Or.inr (Int32.not_le.mp e2)))
      (s := (a, v.2)) ⟨hs, fun _ _ => rfl, trivial⟩ (n := n) (by omega)
    refine ⟨s, g1, ?_⟩
    refine g4.trans ?_
    try dsimp only
    rw [fX8_getsCheaper_b28, if_pos (show (4 : Int32) ≤ nI 4 by decide)]
    unfold fX8_getsCheaper_b106
    rw [nI_1]
  · refine ⟨(a, v.2), hs, ?_⟩
    obtain ⟨n', hn'⟩ : ∃ i, n = i + 1 := ⟨n - 1, by omega⟩
    have : ∀ m, fX8_getsCheaper_b28 m k16 (n' + 1) (nI f) (nI x) (nI y) a (nI r) 0 v.1 v.2 = k16 (nI f) (nI x) (nI y) a (nI (r + 1)) v.1 v.2 := by
      intro m
      rw [fX8_getsCheaper_b28, if_neg (by decide), gpos hb, getA_nI (by omega), h3, d16 (by omega), if_neg (nI_lit (by omega) (by omega) eh)]
      unfold fX8_getsCheaper_b106
      rw [nI_1]
    have t := this n
    rw [← hn'] at t
    exact t
theorem t_gc {P : Prog} {n f : Nat} {v : mSt} (hP : pOk P) (h : RepM P v) (hf : f < 64) (hn : 5 < n) : ∃ s, GcI v.2 f s ∧ fX8_getsCheaper n (nI f) v.1 v.2 = some (s.1, v.1, s.2) := by
  have h5 := hP.2.1
  obtain ⟨s, g1, g4⟩ := lp0 (fun j i (s : Int32 × (Nat → Nat → Int32)) => fX8_getsCheaper_b16 n j (nI f) (nI (f / 4 % 4)) (nI (f % 4)) s.1 (nI i) v.1 s.2) P.2.1 (fun _ s => GcI v.2 f s)
    (by
      intro j i s hi g
      try dsimp only
      have hM : RepM P (v.1, s.2) := h.fr (fun k hk => g.1 _ (by omega))
      rw [fX8_getsCheaper_b16, if_neg (by rw [h.2.1]; exact nI_ge hi (by omega))]
      obtain ⟨s', g1, g2⟩ := t_gc28 (n := n) (R0 := v.2) (a := s.1) (v := (v.1, s.2)) (x := f / 4 % 4) (y := f % 4) (fX8_getsCheaper_b16 n j) hP hM hf (by omega) (by omega) hi g hn
      exact ⟨s', g1, g2⟩)
    (s := ((0 : Int32), v.2)) ⟨fun _ _ => rfl, fun _ _ => rfl, Or.inl ⟨rfl, rfl⟩⟩ (n := n) (by omega)
  refine ⟨s, g1, ?_⟩
  unfold fX8_getsCheaper
  rw [m4 (by omega), d4 (by omega), m4 (by omega)]
  refine g4.trans ?_
  try dsimp only
  rw [fX8_getsCheaper_b16, if_pos (by rw [h.2.1]; exact nI_le (Nat.le_refl _) (by omega))]
  rcases g1.2.2 with ⟨e, _⟩ | ⟨e, _⟩
  · rw [gpos (show isB s.1 = true by rw [e]; rfl)]
  · rw [gpos (show isB s.1 = true by rw [e]; rfl)]
def sumN (g : Nat → Nat) : Nat → Nat
  | 0 => 0
  | k + 1 => sumN g k + g k
theorem sumN_le {g g' : Nat → Nat} {n : Nat} (h : ∀ t, t < n → g' t ≤ g t) : sumN g' n ≤ sumN g n := by
  induction n with
  | zero => exact Nat.le_refl _
  | succ n ih =>
    have := ih (fun t ht => h t (by omega))
    have := h n (by omega)
    unfold sumN
    omega
theorem sumN_lt {g g' : Nat → Nat} {n k : Nat} (h : ∀ t, t < n → g' t ≤ g t) (hk : k < n) (hl : g' k < g k) : sumN g' n < sumN g n := by
  induction n with
  | zero => exact absurd hk (by omega)
  | succ n ih =>
    unfold sumN
    by_cases e : k = n
    · have := sumN_le (g := g) (g' := g') (n := n) (fun t ht => h t (by omega))
      rw [e] at hl
      omega
    · have := ih (fun t ht => h t (by omega)) (by omega)
      have := h n (by omega)
      omega
theorem sumN_bd {g : Nat → Nat} {B n : Nat} (h : ∀ t, g t ≤ B) : sumN g n ≤ n * B := by
  induction n with
  | zero => exact Nat.zero_le _
  | succ n ih =>
    unfold sumN
    have := h n
    rw [Nat.succ_mul]
    omega
def MuS (R : Nat → Nat → Int32) : Nat := sumN (fun t => mu (R 26 t)) 64
theorem MuS_le (R : Nat → Nat → Int32) : MuS R ≤ 274877906944 := sumN_bd (B := 4294967296) (n := 64) (fun t => mu_le _)
def PaI (R0 : Nat → Nat → Int32) (s : Int32 × (Nat → Nat → Int32)) : Prop := (∀ k, k ≠ 26 → s.2 k = R0 k) ∧ ((s.1 = 0 ∧ MuS s.2 ≤ MuS R0) ∨ (s.1 = 1 ∧ MuS s.2 < MuS R0))
theorem t_pass {P : Prog} {n : Nat} {v : mSt} (k42 : Int32 → (Nat → Int32) → (Nat → Nat → Int32) → Option mSt) (hP : pOk P) (h : RepM P v) (hn : 64 < n) : ∃ s, PaI v.2 s ∧ fX8_findCheap_b50 n k42 n 0 0 v.1 v.2 = k42 s.1 v.1 s.2 := by
  obtain ⟨s, g1, g4⟩ := lp0 (fun j i (s : Int32 × (Nat → Nat → Int32)) => fX8_findCheap_b50 n k42 j s.1 (nI i) v.1 s.2) 64 (fun _ s => PaI v.2 s)
    (by
      intro j i s hi g
      try dsimp only
      have hM : RepM P (v.1, s.2) := h.fr (fun k hk => g.1 _ (by omega))
      have b73 : ∃ s', PaI v.2 s' ∧ fX8_findCheap_b73 n k42 (fX8_findCheap_b50 n k42 j) s.1 (nI i) v.1 s.2 = fX8_findCheap_b50 n k42 j s'.1 (nI (i + 1)) v.1 s'.2 := by
        unfold fX8_findCheap_b73 fX8_findCheap_b77 fX8_findCheap_b82
        rw [nI_1]
        refine ⟨s, g, ?_⟩
        rcases g.2 with ⟨e, _⟩ | ⟨e, _⟩
        · rw [e, if_pos rfl]
        · rw [e, if_neg (by decide)]
      rw [fX8_findCheap_b50, if_neg (g64 hi), gpos (inb_nI hi (by decide))]
      by_cases et : getA s.2 13 (nI i) = 0
      rotate_left
      · rw [if_neg et]; exact b73
      rw [if_pos et]
      obtain ⟨s1, c1, c2⟩ := t_gc (n := n) (f := i) hP hM hi (by omega)
      have c2 : fX8_getsCheaper n (nI i) v.1 s.2 = some (s1.1, v.1, s1.2) := c2
      rw [c2, bsome]
      dsimp only
      have hle : ∀ t, t < 64 → mu (s1.2 26 t) ≤ mu (s.2 26 t) := by
        intro t ht
        by_cases e : t = i
        · subst e
          rcases c1.2.2 with ⟨_, z⟩ | ⟨_, z⟩
          · rw [show s1.2 26 t = s.2 26 t from z]; exact Nat.le_refl _
          · exact Nat.le_of_lt z
        · rw [show s1.2 26 t = s.2 26 t from c1.2.1 t e]; exact Nat.le_refl _
      have hms : MuS s1.2 ≤ MuS s.2 := sumN_le hle
      rcases c1.2.2 with ⟨e0, z⟩ | ⟨e1, z⟩
      · rw [e0, if_pos rfl]
        unfold fX8_findCheap_b73 fX8_findCheap_b77 fX8_findCheap_b82
        rw [nI_1]
        rcases g.2 with ⟨e, hq⟩ | ⟨e, hq⟩
        · rw [e, if_pos rfl]
          exact ⟨(0, s1.2), ⟨fun k hk => (c1.1 k hk).trans (g.1 k hk), Or.inl ⟨rfl, Nat.le_trans hms hq⟩⟩, rfl⟩
        · rw [e, if_neg (by decide)]
          exact ⟨(1, s1.2), ⟨fun k hk => (c1.1 k hk).trans (g.1 k hk), Or.inr ⟨rfl, Nat.lt_of_le_of_lt hms hq⟩⟩, rfl⟩
      · rw [e1, if_neg (by decide)]
        unfold fX8_findCheap_b77 fX8_findCheap_b82
        rw [nI_1]
        have hlt : MuS s1.2 < MuS s.2 := sumN_lt hle hi z
        refine ⟨(1, s1.2), ⟨fun k hk => (c1.1 k hk).trans (g.1 k hk), Or.inr ⟨rfl, ?_⟩⟩, rfl⟩
        rcases g.2 with ⟨_, hq⟩ | ⟨_, hq⟩
        · exact Nat.lt_of_lt_of_le hlt hq
        · exact Nat.lt_trans hlt hq)
    (s := ((0 : Int32), v.2)) ⟨fun _ _ => rfl, Or.inl ⟨rfl, Nat.le_refl _⟩⟩ (n := n) hn
  refine ⟨s, g1, ?_⟩
  refine g4.trans ?_
  try dsimp only
  rw [fX8_findCheap_b50, if_pos (show (64 : Int32) ≤ nI 64 by decide)]
theorem t_42 {P : Prog} {n : Nat} (hP : pOk P) (hn : 64 < n) : ∀ (m j : Nat) (v : mSt), RepM P v → MuS v.2 ≤ m → m + 2 ≤ j → ∃ R', fX8_findCheap_b42 n j 1 v.1 v.2 = fX8_findCheap_b94 n n 0 v.1 R' ∧ ∀ k, k ≠ 26 → R' k = v.2 k := by
  intro m
  induction m with
  | zero =>
    intro j v h hm hj
    obtain ⟨j, rfl⟩ : ∃ i, j = i + 2 := ⟨j - 2, by omega⟩
    obtain ⟨s, s1, s2⟩ := t_pass (n := n) (fX8_findCheap_b42 n (j + 1)) hP h hn
    rw [fX8_findCheap_b42, if_neg (by decide), s2]
    rcases s1.2 with ⟨e, _⟩ | ⟨_, e⟩
    · rw [e, fX8_findCheap_b42, if_pos rfl]
      exact ⟨_, rfl, s1.1⟩
    · omega
  | succ m ih =>
    intro j v h hm hj
    obtain ⟨j, rfl⟩ : ∃ i, j = i + 2 := ⟨j - 2, by omega⟩
    obtain ⟨s, s1, s2⟩ := t_pass (n := n) (fX8_findCheap_b42 n (j + 1)) hP h hn
    rw [fX8_findCheap_b42, if_neg (by decide), s2]
    rcases s1.2 with ⟨e, _⟩ | ⟨e, hl⟩
    · rw [e, fX8_findCheap_b42, if_pos rfl]
      exact ⟨_, rfl, s1.1⟩
    · rw [e]
      obtain ⟨R', r1, r2⟩ := ih (j + 1) (v.1, s.2) (h.fr (fun k hk => s1.1 _ (by omega))) (by show MuS s.2 ≤ m; omega) (by omega)
      exact ⟨R', r1, fun k hk => (r2 k hk).trans (s1.1 k hk)⟩
