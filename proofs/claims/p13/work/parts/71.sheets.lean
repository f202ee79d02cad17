/-! sheets, trace, fault -/
def Frm (Pr : mSt → mSt → Prop) : Prop := ∀ u v u' v' : mSt, Pr u v → (∀ i, 100 ≤ i → i < 1000 → u'.1 i = u.1 i) → (∀ i, 100 ≤ i → i < 1000 → u'.2 i = u.2 i) → v'.1 5 = v.1 5 → v'.1 6 = v.1 6 → (∀ k, k < 7 → v'.2 (7 + k) = v.2 (7 + k)) → Pr u' v'
def SimOf (Pr : mSt → mSt → Prop) (u v : mSt) : Prop := SimSh u v ∧ SimRd u v ∧ SimMi u v ∧ Pr u v
theorem i0 {α : Type} {x y : α} : (if (0 : Int32) = 0 then x else y) = x := if_pos rfl
theorem i1 {α : Type} {x y : α} : (if (1 : Int32) = 0 then x else y) = y := if_neg (by decide)
theorem upd_at {f : Nat → Int32} {k : Nat} {x : Int32} : upd f k x k = x := if_pos rfl
theorem upd_no {f : Nat → Int32} {k j : Nat} {x : Int32} (h : j ≠ k) : upd f k x j = f j := if_neg h
theorem st_trace {Pr : mSt → mSt → Prop} : St_trace (SimOf Pr) := fun u v h => ⟨0, (u.1 8, u), 0, (v.1 1, v), rfl, rfl, h.2.2.1.2, h⟩
theorem st_fault {Pr : mSt → mSt → Prop} : St_fault (SimOf Pr) := fun u v h => ⟨0, (u.1 9, u), 0, (v.1 0, v), rfl, rfl, h.2.2.1.1, h⟩
/-- only a fault is told, on both sides -/
theorem Sim_fault {Pr : mSt → mSt → Prop} (hF : Frm Pr) {u v : mSt} (h : SimOf Pr u v) (x : Int32) : SimOf Pr (upd u.1 9 x, u.2) (upd v.1 0 x, v.2) := by
  refine ⟨h.1.mk (fun i hi => upd_no (by omega)) (fun _ _ => rfl) rfl rfl rfl, h.2.1.mk (show upd u.1 9 x 7 = u.1 7 from upd_no (by decide)) rfl rfl (show upd v.1 0 x 31 = v.1 31 from upd_no (by decide)) rfl rfl, ⟨?_, ?_⟩, ?_⟩
  · show upd u.1 9 x 9 = upd v.1 0 x 0
    rw [upd_at, upd_at]
  · show upd u.1 9 x 8 = upd v.1 0 x 1
    rw [upd_no (by decide), upd_no (by decide)]
    exact h.2.2.1.2
  · exact hF u v _ _ h.2.2.2 (fun i h1 h2 => upd_no (by omega)) (fun _ _ _ => rfl) (show upd v.1 0 x 5 = v.1 5 from upd_no (by decide)) (show upd v.1 0 x 6 = v.1 6 from upd_no (by decide)) (fun _ _ => rfl)
theorem Sim_same {Pr : mSt → mSt → Prop} (hF : Frm Pr) {u v u' v' : mSt} (h : SimOf Pr u v) (hs : SimSh u' v') (h1 : ∀ i, i < 1000 → u'.1 i = u.1 i) (h2 : ∀ i, i < 1000 → u'.2 i = u.2 i) (h3 : ∀ i, v'.1 i = v.1 i) (h4 : ∀ i, 5 ≤ i → v'.2 i = v.2 i) : SimOf Pr u' v' :=
  ⟨hs, h.2.1.mk (h1 _ (by decide)) (h2 _ (by decide)) (h2 _ (by decide)) (h3 _) (h4 _ (by decide)) (h4 _ (by decide)), ⟨by rw [h1 _ (by decide), h3]; exact h.2.2.1.1, by rw [h1 _ (by decide), h3]; exact h.2.2.1.2⟩, hF u v _ _ h.2.2.2 (fun i _ hi => h1 i hi) (fun i _ hi => h2 i hi) (h3 _) (h3 _) (fun k _ => h4 _ (by omega))⟩
theorem st_lose {Pr : mSt → mSt → Prop} (hF : Frm Pr) : St_lose (SimOf Pr) := by
  intro a1 u v h
  rcases d_sheet a1 with h0 | ⟨k, hk, rfl, h1⟩
  · refine ⟨0, (-1, u), 0, (-1, v), ?_, ?_, rfl, h⟩
    · unfold fX7_lose; rw [(h0 0).2, bsome, i0]
    · unfold fX8_lose; rw [(h0 0).1, bsome, i0]
  · have hb : u.1 (1002 + 10 * k) = 0 ∨ u.1 (1002 + 10 * k) = 1 := (h.1 k hk).elim (fun x => Or.inl x.1) (fun x => Or.inr x.1)
    have hB : isB (u.1 (1002 + 10 * k)) = true := decide_eq_true hb
    have ec : fX7_lose 0 (nI k) u.1 u.2 = some (u.1 (1002 + 10 * k), upd (upd u.1 (1002 + 10 * k) 0) (1004 + 10 * k) 0, u.2) := by
      unfold fX7_lose
      rw [(h1 0).2, bsome, i1, gpos (inb_nI hk (by decide)), nI_clamp (by omega)]
      unfold fX4_clear
      rw [gpos hB, bsome]
      dsimp only
      rcases hb with e | e
      · rw [e, i0]
      · rw [e, i1]
    have em : fX8_lose 0 (nI k) v.1 v.2 = some (if v.2 2 k = (-9) then 0 else 1, v.1, setA v.2 2 (nI k) (-9)) := by
      unfold fX8_lose
      rw [(h1 0).1, bsome, i1, gpos (inb_nI hk (by decide)), getA_nI (by omega)]
      unfold fX8_lose_b25
      by_cases e : v.2 2 k = (-9)
      · rw [if_pos e, if_pos e, gpos (inb_nI hk (by decide))]
      · rw [if_neg e, if_neg e, gpos (inb_nI hk (by decide))]
    refine ⟨0, _, 0, _, ec, em, ?_, ?_⟩
    · show u.1 (1002 + 10 * k) = if v.2 2 k = (-9) then 0 else 1
      rcases h.1 k hk with ⟨e1, e2⟩ | ⟨e1, la, sz, hla, _, _, e2, _⟩
      · rw [e1, if_pos e2]
      · rw [e1, if_neg]
        rw [e2]
        intro e3
        have h9 := nI_toInt (n := la) (by omega)
        rw [e3] at h9
        have : ((-9 : Int32)).toInt = -9 := by decide
        omega
    · refine Sim_same hF h ?_ (fun i hi => ?_) (fun _ _ => rfl) (fun _ => rfl) (fun i hi => setA_ne (by omega))
      · intro j hj
        by_cases e : j = k
        · subst e
          refine Or.inl ⟨?_, ?_⟩
          · show upd (upd u.1 (1002 + 10 * j) 0) (1004 + 10 * j) 0 (1002 + 10 * j) = 0
            rw [upd_no (by omega), upd_at]
          · show setA v.2 2 (nI j) (-9) 2 j = (-9)
            rw [setA_at (by omega), if_pos rfl]
        · show (upd (upd u.1 (1002 + 10 * k) 0) (1004 + 10 * k) 0 (1002 + 10 * j) = 0 ∧ setA v.2 2 (nI k) (-9) 2 j = (-9)) ∨ (upd (upd u.1 (1002 + 10 * k) 0) (1004 + 10 * k) 0 (1002 + 10 * j) = 1 ∧ ∃ la sz : Nat, la < 3 ∧ sz ≤ 60 ∧ upd (upd u.1 (1002 + 10 * k) 0) (1004 + 10 * k) 0 (1003 + 10 * j) = nI la ∧ setA v.2 2 (nI k) (-9) 2 j = nI la ∧ upd (upd u.1 (1002 + 10 * k) 0) (1004 + 10 * k) 0 (1004 + 10 * j) = nI sz ∧ setA v.2 2 (nI k) (-9) 3 j = nI sz ∧ ∀ i, i < 60 → u.2 (1001 + 10 * j) i = setA v.2 2 (nI k) (-9) 4 (60 * j + i))
          rw [setA_at (by omega), if_neg e, setA_ne (by decide), setA_ne (by decide), upd_no (by omega), upd_no (by omega), upd_no (by omega), upd_no (by omega), upd_no (by omega), upd_no (by omega)]
          exact h.1 j hj
      · show upd (upd u.1 (1002 + 10 * k) 0) (1004 + 10 * k) 0 i = u.1 i
        rw [upd_no (by omega), upd_no (by omega)]
