/-! the start, the steps, the claim -/
theorem sim0 : SimOf (PrOf KK) ((fun _ => 0), (fun _ _ => 0)) ((fun _ => 0), mR0) := by
  refine ⟨fun k hk => Or.inl ⟨rfl, ?_⟩, ⟨0, by decide, rfl, rfl, fun k hk => absurd hk (by omega)⟩, ⟨rfl, rfl⟩, (0, 0, fun _ _ => 0, fun _ => false), ⟨by decide, by decide, fun _ => rfl, fun r hr => absurd hr (by show ¬ r < 0; omega), fun f hf => absurd (show false = true from hf) (by decide)⟩, ⟨rfl, rfl, fun k _ r hr => absurd hr (by show ¬ r < 0; omega), fun q hq i => ?_⟩, ⟨rfl, rfl, fun k _ r hr => absurd hr (by show ¬ r < 0; omega), fun r hr => absurd hr (by show ¬ r < 0; omega), fun f hf => rfl⟩, rfl, Or.inl rfl⟩
  · match k, hk with
    | 0, _ => rfl
    | 1, _ => rfl
    | 2, _ => rfl
    | 3, _ => rfl
  · show bit 0 i = (decide (i < 16) && false)
    rw [bit_0, Bool.and_false]
abbrev u0 : mSt := ((fun _ => 0), (fun _ _ => 0))
abbrev v0 : mSt := ((fun _ => 0), mR0)
def SimF (i : Nat) (u v : mSt) : Prop := i = 0 → u = u0 ∧ v = v0
theorem f_ofFact (a1 a2 a3 a4 : Int32) : ∃ (n1 : Nat) (z1 : Int32 × mSt) (n2 : Nat) (z2 : Int32 × mSt), fX7_ofFact n1 a1 a2 a3 a4 u0.1 u0.2 = some z1 ∧ fX8_ofFact n2 a1 a2 a3 a4 v0.1 v0.2 = some z2 ∧ z1.1 = z2.1 := by
  rcases d_rel a1 (m := 0) (by decide) (I := u0.1) (I' := v0.1) rfl rfl with h0 | ⟨q, hq, _⟩
  · refine ⟨0, (-1, u0), 0, (-1, v0), ?_, ?_, rfl⟩
    · unfold fX7_ofFact; rw [(h0 0 u0.2 v0.2).1, bsome]; exact if_pos rfl
    · unfold fX8_ofFact; rw [(h0 0 u0.2 v0.2).2, bsome]; exact if_pos rfl
  · exact absurd hq (by omega)
theorem f_ranked (a1 a2 : Int32) : ∃ (n1 : Nat) (z1 : Int32 × mSt) (n2 : Nat) (z2 : Int32 × mSt), fX7_ranked n1 a1 a2 u0.1 u0.2 = some z1 ∧ fX8_ranked n2 a1 a2 v0.1 v0.2 = some z2 ∧ z1.1 = z2.1 := by
  rcases d_rel a1 (m := 0) (by decide) (I := u0.1) (I' := v0.1) rfl rfl with h0 | ⟨q, hq, _⟩
  · refine ⟨0, (-1, u0), 0, (-1, v0), ?_, ?_, rfl⟩
    · unfold fX7_ranked; rw [(h0 0 u0.2 v0.2).1, bsome]; exact if_pos rfl
    · unfold fX8_ranked; rw [(h0 0 u0.2 v0.2).2, bsome]; exact if_pos rfl
  · exact absurd hq (by omega)
theorem f_kinds (a1 : Int32) : ∃ (n1 : Nat) (z1 : Int32 × mSt) (n2 : Nat) (z2 : Int32 × mSt), fX7_kinds n1 a1 u0.1 u0.2 = some z1 ∧ fX8_kinds n2 a1 v0.1 v0.2 = some z2 ∧ z1.1 = z2.1 := by
  rcases d_rule a1 (m := 0) (by decide) (I := u0.1) (I' := v0.1) rfl rfl with h0 | ⟨q, hq, _⟩
  · refine ⟨0, (-1, u0), 0, (-1, v0), ?_, ?_, rfl⟩
    · unfold fX7_kinds; rw [(h0 0 u0.2 v0.2).1, bsome]; exact if_pos rfl
    · unfold fX8_kinds; rw [(h0 0 u0.2 v0.2).2, bsome]; exact if_pos rfl
  · exact absurd hq (by omega)
theorem f_forms (a1 : Int32) : ∃ (n1 : Nat) (z1 : Int32 × mSt) (n2 : Nat) (z2 : Int32 × mSt), fX7_forms n1 a1 u0.1 u0.2 = some z1 ∧ fX8_forms n2 a1 v0.1 v0.2 = some z2 ∧ z1.1 = z2.1 := by
  rcases d_rule a1 (m := 0) (by decide) (I := u0.1) (I' := v0.1) rfl rfl with h0 | ⟨q, hq, _⟩
  · refine ⟨0, (-1, u0), 0, (-1, v0), ?_, ?_, rfl⟩
    · unfold fX7_forms; rw [(h0 0 u0.2 v0.2).1, bsome]; exact if_pos rfl
    · unfold fX8_forms; rw [(h0 0 u0.2 v0.2).2, bsome]; exact if_pos rfl
  · exact absurd hq (by omega)
theorem f_settled (a1 : Int32) : ∃ (n1 : Nat) (z1 : Int32 × mSt) (n2 : Nat) (z2 : Int32 × mSt), fX7_settled n1 a1 u0.1 u0.2 = some z1 ∧ fX8_settled n2 a1 v0.1 v0.2 = some z2 ∧ z1.1 = z2.1 := by
  have ht : fX2_isThere 0 0 u0.1 u0.2 = some (0, u0.1, u0.2) := by
    unfold fX2_isThere
    exact if_pos (by decide)
  by_cases e : 0 ≤ a1
  · refine ⟨0, (-3, u0), 0, (-3, v0), ?_, ?_, rfl⟩
    · unfold fX7_settled; rw [if_pos e, ht, bsome]; exact if_pos rfl
    · unfold fX8_settled; rw [if_pos e]; exact if_pos rfl
  · refine ⟨0, (-2, u0), 0, (-2, v0), ?_, ?_, rfl⟩
    · unfold fX7_settled; rw [if_neg e]
    · unfold fX8_settled; rw [if_neg e]
theorem f_day (a1 a2 a3 a4 a5 : Int32) : ∃ (n1 : Nat) (z1 : Int32 × mSt) (n2 : Nat) (z2 : Int32 × mSt), fX7_day n1 a1 a2 a3 a4 a5 u0.1 u0.2 = some z1 ∧ fX8_day n2 a1 a2 a3 a4 a5 v0.1 v0.2 = some z2 ∧ z1.1 = z2.1 := by
  rcases d_sheet a1 with h0 | ⟨k, hk, rfl, h2⟩
  · refine ⟨0, (-1, upd u0.1 9 0, u0.2), 0, (-1, upd v0.1 0 0, v0.2), ?_, ?_, rfl⟩
    · unfold fX7_day; rw [(h0 0).2, bsome, i0]
    · unfold fX8_day; rw [(h0 0).1, bsome, i0]
  rcases d_lane a2 with h0 | ⟨la, hla, rfl, h3⟩
  · refine ⟨0, (-2, upd u0.1 9 0, u0.2), 0, (-2, upd v0.1 0 0, v0.2), ?_, ?_, rfl⟩
    · unfold fX7_day; rw [(h2 0).2, bsome, i1, (h0 0).2, bsome, i0]
    · unfold fX8_day; rw [(h2 0).1, bsome, i1, (h0 0).1, bsome, i0]
  rcases rng a4 (n := 21) (by decide) with h0 | ⟨N, hN, rfl⟩
  · refine ⟨0, (-2, upd u0.1 9 0, u0.2), 0, (-2, upd v0.1 0 0, v0.2), ?_, ?_, rfl⟩
    · unfold fX7_day
      rw [(h2 0).2, bsome, i1, (h3 0).2, bsome, i1]
      by_cases z : a4 < 0
      · rw [if_pos z]
      · rw [if_neg z, if_pos (show (20 : Int32) < a4 from le_lt (a := 20) (h0.resolve_left z) (by decide) (by decide))]
    · unfold fX8_day
      rw [(h2 0).1, bsome, i1, (h3 0).1, bsome, i1, within_out (hi := 20) (h0.imp id (fun z => show (20 : Int32) < a4 from le_lt (a := 20) z (by decide) (by decide))), bsome, i0]
  have n0 : ¬ nI N < 0 := nI_pos (by omega)
  have n20 : ¬ (20 : Int32) < nI N := nI_nlt (a := 20) (b := N) (by omega) (by decide)
  have w20 : fX8_within 0 (nI N) 0 20 = some 1 := within_in (lo := 0) (hi := 20) (by omega) (by omega) (by decide)
  rcases d_what a5 with ⟨y1, y2⟩ | ⟨y1, y2, y3⟩
  · refine ⟨0, (-2, upd u0.1 9 0, u0.2), 0, (-2, upd v0.1 0 0, v0.2), ?_, ?_, rfl⟩
    · unfold fX7_day; rw [(h2 0).2, bsome, i1, (h3 0).2, bsome, i1, if_neg n0, if_neg n20, y1 0, bsome, i0]
    · unfold fX8_day; rw [(h2 0).1, bsome, i1, (h3 0).1, bsome, i1, w20, bsome, i1, (y2 0).1, bsome, i0, (y2 0).2, bsome, i0]
  have q1 : inb (nI k) 4 = true := inb_nI hk (by decide)
  have q2 : (nI k).toNatClampNeg = k := nI_clamp (by omega)
  have hfa : fX4_faultAs 0 k (nI la) (upd u0.1 9 0) u0.2 = some (1, upd u0.1 9 0, u0.2) := by
    unfold fX4_faultAs
    rw [if_pos]
    rw [upd_no (by omega)]
  have hv9 : mR0 2 k = (-9) := by
    match k, hk with
    | 0, _ => rfl
    | 1, _ => rfl
    | 2, _ => rfl
    | 3, _ => rfl
  have hag : ∀ a b, fX8_against 0 (nI k) (nI la) a b (upd v0.1 0 0) v0.2 = some (1, upd v0.1 0 0, v0.2) := by
    intro a b
    unfold fX8_against fX8_against_b23
    rw [gpos q1, show getA v0.2 2 (nI k) = (-9) by rw [getA_nI (by omega)]; exact hv9, if_pos rfl, gpos q1, if_pos rfl]
  refine ⟨0, (-10 - 1, upd (upd u0.1 9 0) 9 1, u0.2), 0, (-10 - 1, upd (upd v0.1 0 0) 0 1, v0.2), ?_, ?_, rfl⟩
  · unfold fX7_day
    rw [(h2 0).2, bsome, i1, (h3 0).2, bsome, i1, if_neg n0, if_neg n20, y1 0, bsome, i1, gpos q1, q2, hfa, bsome, i1]
    dsimp only
    unfold fX7_day_b81 fX7_failed
    rw [i1, bsome]
  · have h57 : fX8_day_b57 0 (nI k) (nI la) a3 (nI N) a5 (upd v0.1 0 0) v0.2 = some (-10 - 1, upd (upd v0.1 0 0) 0 1, v0.2) := by
      unfold fX8_day_b57 fX8_fails
      rw [hag, bsome, i1, bsome]
    unfold fX8_day
    rw [(h2 0).1, bsome, i1, (h3 0).1, bsome, i1, w20, bsome, i1]
    rcases y2 0 with z | ⟨z1, z2⟩
    · rw [z, bsome, i1]; exact h57
    · rw [z1, bsome, i0, z2, bsome, i1]; exact h57
theorem sw_program : St2_program (SimF 0) (SimF 6) := by
  intro a1 a2 a3 a4 u v h
  obtain ⟨rfl, rfl⟩ := h rfl
  obtain ⟨n1, z1, n2, z2, e1, e2, e3, _⟩ := (st_program : St_program (SimOf (PrOf KK))) a1 a2 a3 a4 u0 v0 sim0
  exact ⟨n1, z1, n2, z2, e1, e2, e3, fun z => absurd z (by decide)⟩
theorem sw_ofRule : St2_ofRule (SimF 0) (SimF 6) := by
  intro a1 a2 u v h
  obtain ⟨rfl, rfl⟩ := h rfl
  obtain ⟨n1, z1, n2, z2, e1, e2, e3, _⟩ := (st_ofRule frKK : St_ofRule (SimOf (PrOf KK))) a1 a2 u0 v0 sim0
  exact ⟨n1, z1, n2, z2, e1, e2, e3, fun z => absurd z (by decide)⟩
theorem sw_ofRelation : St2_ofRelation (SimF 0) (SimF 6) := by
  intro a1 a2 u v h
  obtain ⟨rfl, rfl⟩ := h rfl
  obtain ⟨n1, z1, n2, z2, e1, e2, e3, _⟩ := (st_ofRelation : St_ofRelation (SimOf (PrOf KK))) a1 a2 u0 v0 sim0
  exact ⟨n1, z1, n2, z2, e1, e2, e3, fun z => absurd z (by decide)⟩
theorem sw_form : St2_form (SimF 0) (SimF 6) := by
  intro a1 a2 u v h
  obtain ⟨rfl, rfl⟩ := h rfl
  obtain ⟨n1, z1, n2, z2, e1, e2, e3, _⟩ := (st_form : St_form (SimOf (PrOf KK))) a1 a2 u0 v0 sim0
  exact ⟨n1, z1, n2, z2, e1, e2, e3, fun z => absurd z (by decide)⟩
theorem sw_tell : St2_tell (SimF 0) (SimF 6) := by
  intro a1 a2 a3 u v h
  obtain ⟨rfl, rfl⟩ := h rfl
  obtain ⟨n1, z1, n2, z2, e1, e2, e3, _⟩ := (st_tell ktKK : St_tell (SimOf (PrOf KK))) a1 a2 a3 u0 v0 sim0
  exact ⟨n1, z1, n2, z2, e1, e2, e3, fun z => absurd z (by decide)⟩
theorem sw_ofFact : St2_ofFact (SimF 0) (SimF 6) := by
  intro a1 a2 a3 a4 u v h
  obtain ⟨rfl, rfl⟩ := h rfl
  obtain ⟨n1, z1, n2, z2, e1, e2, e3⟩ := f_ofFact a1 a2 a3 a4
  exact ⟨n1, z1, n2, z2, e1, e2, e3, fun z => absurd z (by decide)⟩
theorem sw_day : St2_day (SimF 0) (SimF 6) := by
  intro a1 a2 a3 a4 a5 u v h
  obtain ⟨rfl, rfl⟩ := h rfl
  obtain ⟨n1, z1, n2, z2, e1, e2, e3⟩ := f_day a1 a2 a3 a4 a5
  exact ⟨n1, z1, n2, z2, e1, e2, e3, fun z => absurd z (by decide)⟩
theorem sw_rounds : St2_rounds (SimF 0) (SimF 6) := by
  intro u v h
  obtain ⟨rfl, rfl⟩ := h rfl
  obtain ⟨n1, z1, n2, z2, e1, e2, e3, _⟩ := (st_rounds : St_rounds (SimOf (PrOf KK))) u0 v0 sim0
  exact ⟨n1, z1, n2, z2, e1, e2, e3, fun z => absurd z (by decide)⟩
theorem sw_born : St2_born (SimF 0) (SimF 6) := by
  intro a1 u v h
  obtain ⟨rfl, rfl⟩ := h rfl
  obtain ⟨n1, z1, n2, z2, e1, e2, e3, _⟩ := (st_born : St_born (SimOf (PrOf KK))) a1 u0 v0 sim0
  exact ⟨n1, z1, n2, z2, e1, e2, e3, fun z => absurd z (by decide)⟩
theorem sw_ranked : St2_ranked (SimF 0) (SimF 6) := by
  intro a1 a2 u v h
  obtain ⟨rfl, rfl⟩ := h rfl
  obtain ⟨n1, z1, n2, z2, e1, e2, e3⟩ := f_ranked a1 a2
  exact ⟨n1, z1, n2, z2, e1, e2, e3, fun z => absurd z (by decide)⟩
theorem sw_settled : St2_settled (SimF 0) (SimF 6) := by
  intro a1 u v h
  obtain ⟨rfl, rfl⟩ := h rfl
  obtain ⟨n1, z1, n2, z2, e1, e2, e3⟩ := f_settled a1
  exact ⟨n1, z1, n2, z2, e1, e2, e3, fun z => absurd z (by decide)⟩
theorem sw_demands : St2_demands (SimF 0) (SimF 6) := by
  intro a1 a2 u v h
  obtain ⟨rfl, rfl⟩ := h rfl
  obtain ⟨n1, z1, n2, z2, e1, e2, e3, _⟩ := (st_demands : St_demands (SimOf (PrOf KK))) a1 a2 u0 v0 sim0
  exact ⟨n1, z1, n2, z2, e1, e2, e3, fun z => absurd z (by decide)⟩
theorem sw_reading : St2_reading (SimF 0) (SimF 6) := by
  intro a1 a2 a3 a4 u v h
  obtain ⟨rfl, rfl⟩ := h rfl
  obtain ⟨n1, z1, n2, z2, e1, e2, e3, _⟩ := (st_reading frKK : St_reading (SimOf (PrOf KK))) a1 a2 a3 a4 u0 v0 sim0
  exact ⟨n1, z1, n2, z2, e1, e2, e3, fun z => absurd z (by decide)⟩
theorem sw_back : St2_back (SimF 0) (SimF 6) := by
  intro a1 u v h
  obtain ⟨rfl, rfl⟩ := h rfl
  obtain ⟨n1, z1, n2, z2, e1, e2, e3, _⟩ := (st_back (frm_of frKK) : St_back (SimOf (PrOf KK))) a1 u0 v0 sim0
  exact ⟨n1, z1, n2, z2, e1, e2, e3, fun z => absurd z (by decide)⟩
theorem sw_kinds : St2_kinds (SimF 0) (SimF 6) := by
  intro a1 u v h
  obtain ⟨rfl, rfl⟩ := h rfl
  obtain ⟨n1, z1, n2, z2, e1, e2, e3⟩ := f_kinds a1
  exact ⟨n1, z1, n2, z2, e1, e2, e3, fun z => absurd z (by decide)⟩
theorem sw_forms : St2_forms (SimF 0) (SimF 6) := by
  intro a1 u v h
  obtain ⟨rfl, rfl⟩ := h rfl
  obtain ⟨n1, z1, n2, z2, e1, e2, e3⟩ := f_forms a1
  exact ⟨n1, z1, n2, z2, e1, e2, e3, fun z => absurd z (by decide)⟩
theorem sw_odds : St2_odds (SimF 0) (SimF 6) := by
  intro a1 a2 u v h
  obtain ⟨rfl, rfl⟩ := h rfl
  obtain ⟨n1, z1, n2, z2, e1, e2, e3, _⟩ := (st_odds : St_odds (SimOf (PrOf KK))) a1 a2 u0 v0 sim0
  exact ⟨n1, z1, n2, z2, e1, e2, e3, fun z => absurd z (by decide)⟩
theorem sw_sheet : St2_sheet (SimF 0) (SimF 6) := by
  intro a1 a2 a3 u v h
  obtain ⟨rfl, rfl⟩ := h rfl
  obtain ⟨n1, z1, n2, z2, e1, e2, e3, _⟩ := (st_sheet (frm_of frKK) : St_sheet (SimOf (PrOf KK))) a1 a2 a3 u0 v0 sim0
  exact ⟨n1, z1, n2, z2, e1, e2, e3, fun z => absurd z (by decide)⟩
theorem sw_lose : St2_lose (SimF 0) (SimF 6) := by
  intro a1 u v h
  obtain ⟨rfl, rfl⟩ := h rfl
  obtain ⟨n1, z1, n2, z2, e1, e2, e3, _⟩ := (st_lose (frm_of frKK) : St_lose (SimOf (PrOf KK))) a1 u0 v0 sim0
  exact ⟨n1, z1, n2, z2, e1, e2, e3, fun z => absurd z (by decide)⟩
theorem sw_put : St2_put (SimF 0) (SimF 6) := by
  intro a1 a2 a3 u v h
  obtain ⟨rfl, rfl⟩ := h rfl
  obtain ⟨n1, z1, n2, z2, e1, e2, e3, _⟩ := (st_put (frm_of frKK) : St_put (SimOf (PrOf KK))) a1 a2 a3 u0 v0 sim0
  exact ⟨n1, z1, n2, z2, e1, e2, e3, fun z => absurd z (by decide)⟩
theorem sw_cell : St2_cell (SimF 0) (SimF 6) := by
  intro a1 a2 a3 u v h
  obtain ⟨rfl, rfl⟩ := h rfl
  obtain ⟨n1, z1, n2, z2, e1, e2, e3, _⟩ := (st_cell (frm_of frKK) : St_cell (SimOf (PrOf KK))) a1 a2 a3 u0 v0 sim0
  exact ⟨n1, z1, n2, z2, e1, e2, e3, fun z => absurd z (by decide)⟩
theorem sw_copy : St2_copy (SimF 0) (SimF 6) := by
  intro a1 a2 a3 a4 a5 u v h
  obtain ⟨rfl, rfl⟩ := h rfl
  obtain ⟨n1, z1, n2, z2, e1, e2, e3, _⟩ := (st_copy (frm_of frKK) : St_copy (SimOf (PrOf KK))) a1 a2 a3 a4 a5 u0 v0 sim0
  exact ⟨n1, z1, n2, z2, e1, e2, e3, fun z => absurd z (by decide)⟩
theorem sw_speak : St2_speak (SimF 0) (SimF 6) := by
  intro a1 u v h
  obtain ⟨rfl, rfl⟩ := h rfl
  obtain ⟨n1, z1, n2, z2, e1, e2, e3, _⟩ := (st_speak frKK : St_speak (SimOf (PrOf KK))) a1 u0 v0 sim0
  exact ⟨n1, z1, n2, z2, e1, e2, e3, fun z => absurd z (by decide)⟩
theorem sw_quote : St2_quote (SimF 0) (SimF 6) := by
  intro a1 u v h
  obtain ⟨rfl, rfl⟩ := h rfl
  obtain ⟨n1, z1, n2, z2, e1, e2, e3, _⟩ := (st_quote frKK : St_quote (SimOf (PrOf KK))) a1 u0 v0 sim0
  exact ⟨n1, z1, n2, z2, e1, e2, e3, fun z => absurd z (by decide)⟩
theorem sw_as : St2_as (SimF 0) (SimF 6) := by
  intro a1 a2 u v h
  obtain ⟨rfl, rfl⟩ := h rfl
  obtain ⟨n1, z1, n2, z2, e1, e2, e3, _⟩ := (st_as frKK : St_as (SimOf (PrOf KK))) a1 a2 u0 v0 sim0
  exact ⟨n1, z1, n2, z2, e1, e2, e3, fun z => absurd z (by decide)⟩
theorem sw_trace : St2_trace (SimF 0) (SimF 6) := by
  intro u v h
  obtain ⟨rfl, rfl⟩ := h rfl
  obtain ⟨n1, z1, n2, z2, e1, e2, e3, _⟩ := (st_trace : St_trace (SimOf (PrOf KK))) u0 v0 sim0
  exact ⟨n1, z1, n2, z2, e1, e2, e3, fun z => absurd z (by decide)⟩
theorem sw_fault : St2_fault (SimF 0) (SimF 6) := by
  intro u v h
  obtain ⟨rfl, rfl⟩ := h rfl
  obtain ⟨n1, z1, n2, z2, e1, e2, e3, _⟩ := (st_fault : St_fault (SimOf (PrOf KK))) u0 v0 sim0
  exact ⟨n1, z1, n2, z2, e1, e2, e3, fun z => absurd z (by decide)⟩
theorem sw_many : St2_many (SimF 0) (SimF 6) := by
  intro a1 u v h
  obtain ⟨rfl, rfl⟩ := h rfl
  obtain ⟨n1, z1, n2, z2, e1, e2, e3, _⟩ := (st_many : St_many (SimOf (PrOf KK))) a1 u0 v0 sim0
  exact ⟨n1, z1, n2, z2, e1, e2, e3, fun z => absurd z (by decide)⟩
theorem steps_all : LawSteps (SimF 0) (SimF 6) := ⟨sw_program, sw_ofRule, sw_ofRelation, sw_form, sw_tell, sw_ofFact, sw_day, sw_rounds, sw_born, sw_ranked, sw_settled, sw_demands, sw_reading, sw_back, sw_kinds, sw_forms, sw_odds, sw_sheet, sw_lose, sw_put, sw_cell, sw_copy, sw_speak, sw_quote, sw_as, sw_trace, sw_fault, sw_many⟩
theorem whole_start {p : Program} {e : Env} {s : State} {m : MethodId} {below : List Frame} {meth : Method} {c : Code} (l : Launch) (hflags : l.flags = flags0) {b L : Nat} {xs : Nat → Int32} (hL : L ≤ 6) (C0 : lw_At p s m meth c b L xs) : W p l e room_1 s m #[Value.ref b] below meth c s.heap [] 0 0 (lw_Z below #[Value.ref b] s) (entryFrame m ([Value.ref b] : List Value).toArray 4) := by
  have h0 : ∀ i, i + 6 ≤ L → i = 0 := fun i hi => by omega
  exact whole_of (Sim := SimF) (fun _ => ⟨rfl, rfl⟩) l (fun i hi u v _ z => absurd z (by omega)) (fun i hi => by rw [h0 i hi]; exact steps_all) (by omega) C0
set_option maxHeartbeats 4000000 in
theorem lw_walk (l : Launch) (hflags : l.flags = flags0) (b : Addr) (xs : List Int32) : MetFree l x (headSpec (Jvm.Cond.code x code maxLocals ret :: tables_1) room_1) (lw_P b xs) (fun _ _ _ _ _ => True) lw_Q := by
  refine MetFree.of_bodyS (code := code) (maxLocals := maxLocals) (ret := ret) (by decide) ?_ ?_
  · intro args s m h hn
    obtain ⟨meth, c, h1, h2, h3, h4, h5, h6, -, -⟩ := Cond.code_spec hn (atoms_spec (ws := Jvm.Cond.code x code maxLocals ret :: tables_1) h _ List.mem_cons_self)
    exact ⟨meth, c, h1, h2, h3, h4, h5, h6⟩
  · intro p e s m args below meth c s₁ B hml0 hP _
    obtain ⟨rfl, hx, hbd, hgv⟩ := hP
    obtain ⟨scr, harrAt, hlist, hof, hsmall⟩ := hx
    obtain ⟨hcb, hkn, -, -⟩ := State.arrayAt?_spec harrAt
    have hown : s.vm.findClass R_law = some m.cls := findClass_of_methodNamed B.named
    have hts0 : ∀ c ∈ (Jvm.Cond.code x code maxLocals ret :: tables_1), c.before #[Value.ref b] s = true := atoms_spec (ws := Jvm.Cond.code x code maxLocals ret :: tables_1) B.pre
    have hts : ∀ w ∈ lw_tbl, w.before #[Value.ref b] s = true := k2_hts_sels lw_privs (fun w hw => hts0 w (List.mem_cons_of_mem _ hw)) lw_privs_ok
    have hml : c.maxLocals = 4 := B.maxLocals_eq (hts0 _ List.mem_cons_self)
    have X₀ : Stand p l e room_1 s m #[Value.ref b] below meth c s₁ [] 0 0 := Stand.of_body B
    have hh0 : s₁.heap = s.heap := by rw [B.state]; rfl
    have hsz : scr.slots.size = xs.length := by rw [← Array.length_toList, hlist, List.length_map]
    have hval : ∀ j : Nat, j < xs.length → scr.slots[j]? = some (.int (xs.getD j 0)) := fun j hj => by
      rw [← Array.getElem?_toList, hlist]
      simp [hj]
    have hbl : b < s.heap.size := (Array.getElem?_eq_some_iff.mp hcb).1
    have hX : va_X b xs.length (fun j => xs.getD j 0) s s.heap := ⟨scr, hcb, hof, hkn, hsz, hval⟩
    have K : W p l e room_1 s m #[Value.ref b] below meth c s₁.heap [] 0 0 (lw_Z below #[Value.ref b] s) (entryFrame m ([Value.ref b] : List Value).toArray 4) := by
      rw [hh0]
      exact whole_start l hflags hbd ⟨B.exec, B.bytes, B.returns, hml, hown, hts, hX, hbl, B.notSynchronized, hgv⟩
    obtain ⟨t, a1, o, b1, b2, b3⟩ := K s₁ rfl X₀
    exact ⟨t, o, a1, b1, b2, b3⟩
theorem lw_pre_spec {args : Array Value} {s : State} (h : (Jvm.Cond.and given_1 narrow_1).before args s = true) (hr : rest_1_c.before args s = true) : ∃ (b : Addr) (xs : List Int32), lw_P b xs args s := by
  have hs := flat_of_before _ h
  have hq := flat_of_before _ hr
  have hc : (Cond.count 1).before args s = true := hs _ (by decide +kernel)
  have harr : (Cond.arrayOf (.arg 0) .int).before args s = true := hs _ (by decide +kernel)
  have hle : (Cond.le (.length (.arg 0)) (.int 6)).before args s = true := hs _ (by decide +kernel)
  have hlen : (Cond.isInt (.length (.arg 0))).before args s = true := hq _ (by decide +kernel)
  have hall : (Cond.all (.arg 0) (.isInt (.elem (.arg 0) (.index 0)))).before args s = true := hq _ (by decide +kernel)
  obtain ⟨b, xs, hb, hx⟩ := State.ints_of_pre rfl harr hlen hall
  have hsm : xs.length < 2 ^ 31 := hx.choose_spec.2.2.2
  have hev : (Term.length (.arg 0)).eval args s none [] s = some (.int xs.length.toInt32) := hx.length_eval hb
  have hv := Cond.le_ints hev (show (Term.int 6).eval args s none [] s = some (.int 6) from rfl)
  have hd : xs.length.toInt32 ≤ 6 := by
    simpa [Cond.before, Cond.holds, hv] using hle
  have hN : xs.length ≤ 6 := (Int32.ofNat_le_ofNat hsm (by decide)).mp (show Int32.ofNat xs.length ≤ Int32.ofNat 6 from hd)
  exact ⟨b, xs, Cond.one_arg hc (show args[0]? = some (.ref b) from hb), hx, hN, h⟩
theorem lw_comes (l : Launch) (hflags : l.flags = flags0) : Comes l x (Jvm.Cond.code x code maxLocals ret :: tables_1) room_1 (fun tb e args s => Calls_1 tb e args s ∧ rest_1 tb e args s ∧ Pre_1 tb e args s)
    (fun _ _ args s o t => lw_Q args s o t) := by
  intro p e ha hc hk s m args below hf hfit hheap happ hpre
  obtain ⟨b, xs, hP⟩ := lw_pre_spec hpre.2.2 hpre.2.1
  obtain ⟨k, o, h1, h2, h3, hQ⟩ := lw_walk l hflags b xs p e ha hc hk s m args below hf ((Spec.applies_iff_loose hf).mp happ).1 hP trivial
  exact ⟨k, o, h1, h2, h3, hQ⟩
theorem lw_frame {s t : State} {o : Outcome} {args : Array Value} (h : Framed s o t [] 600000 7302250) :
    Framed s o t (fieldLocs frame_1_writes args s ++ arrayLocs frame_1_arrays args s ++ staticLocs frame_1_statics s) 600000 7302250 := h
theorem lw_limb (L : Cond) (hL : ∀ (args : Array Value) (s t : State), L.after args s (.returned (some (.int 1))) t = true) :
    ArmFor flags0 classFile x code maxLocals ret World_1 tables_1 room_1 Calls_1 rest_1 Pre_1
      (fun tb e a s o t => postC L tb e a s o t ∧ Framed s o t (fieldLocs frame_1_writes a s ++ arrayLocs frame_1_arrays a s ++ staticLocs frame_1_statics s) 600000 7302250) := by
  intro l hflags _ _ p e ha hc hk s m args below hf hfit hheap happ hpre
  obtain ⟨k, o, h1, h2, h3, rfl, hF⟩ := lw_comes l hflags p e ha hc hk s m args below hf hfit hheap happ hpre
  exact ⟨k, _, h1, h2, h3, hL args s _, lw_frame hF⟩
theorem i_vc : Claimed_1_1 ∧ Claimed_1_2 := ⟨lw_limb limb_1_1 (fun args s t => by simp [limb_1_1, Cond.after, Cond.holds, Cond.value]), lw_limb limb_1_2 (fun args s t => Cond.after_iff.mpr (by
  first | (rw [show limb_1_2 = Cond.eq .result (.int 1) from rfl, Cond.eq_ints (x := 1) (y := 1) rfl rfl]; simp; done) | (simp [limb_1_2, Cond.value, Term.eval]; done)))⟩
