
set_option maxRecDepth 20000 in
set_option maxHeartbeats 2000000 in
theorem law_loop {Sim : mSt → mSt → Prop} (hst : LawSteps Sim) {p : Program} {l : Launch} {e : Env} {s : State} {m : MethodId} {below : List Frame} {meth : Method} {c : Code} {D : va_G} {y : ClassId} {yS : ClassId × ClassId} {qc adK adV qm : Nat → Nat} {h b L : Nat} {xs : Nat → Int32} (hL : L ≤ 3072) (X : LX p s m #[Value.ref b] c D y yS adK adV) (hr : meth.sig.returnType = ret) (hlocks : meth.locks = false) (hX : va_X b L xs s s.heap) (hbl : b < s.heap.size) : ∀ (n i : Nat) (u v : mSt) (H : Heap) (locs : List Loc) (ls : Array Slot), L + 1 ≤ i + n → i ≤ L + 6 → Sim u v → LH s D y yS qc h qm H locs u v → lv_has ls 4 [(0, .ref b), (1, .ref (qc 0)), (2, .ref h), (3, .int (nI i))] → W p l e room_1 s m #[Value.ref b] below meth c H locs 600000 7302250 (lw_Z below #[Value.ref b] s) (F0 m 18 ls []) := by
  have hx := X.1.1
  have hb := X.1.2.1
  intro n
  induction n with
  | zero =>
    intro i u v H locs ls hn hi6 hsim w hl
    refine lv_iload_n hx hb dL_law_18 rfl (lv_at hl 3 rfl) ?_
    refine lv_aload_n hx hb dL_law_19 rfl (lv_at hl 0 rfl) ?_
    refine va_slen hx hb hX hbl (Nat.not_le.mpr hbl) w.2.2.2 dL_law_20 ?_
    refine lv_bipush (v := 6) hx hb dL_law_21 (by decide) ?_
    refine lv_isub hx hb dL_law_23 ?_
    refine lv_icmp_gt (tgt := 1100) hx hb dL_law_24 (by decide) (fun c1 => ?_) (fun c1 => absurd ((l_cond (by omega) hL).mpr (by omega)) c1)
    refine lv_iconst (v := 1) hx hb dL_law_1100 (by decide) ?_
    refine va_forget (fun q hq => w.2.2.2.2.2 q hq) ?_
    exact lw_ret hx hb hr hlocks dL_law_1101
  | succ n ih =>
    intro i u v H locs ls hn hi6 hsim w hl
    refine lv_iload_n hx hb dL_law_18 rfl (lv_at hl 3 rfl) ?_
    refine lv_aload_n hx hb dL_law_19 rfl (lv_at hl 0 rfl) ?_
    refine va_slen hx hb hX hbl (Nat.not_le.mpr hbl) w.2.2.2 dL_law_20 ?_
    refine lv_bipush (v := 6) hx hb dL_law_21 (by decide) ?_
    refine lv_isub hx hb dL_law_23 ?_
    refine lv_icmp_gt (tgt := 1100) hx hb dL_law_24 (by decide) (fun c1 => ?_) (fun c1 => ?_)
    · refine lv_iconst (v := 1) hx hb dL_law_1100 (by decide) ?_
      refine va_forget (fun q hq => w.2.2.2.2.2 q hq) ?_
      exact lw_ret hx hb hr hlocks dL_law_1101
    have hi : i + 6 ≤ L := by
      have h9 : ¬ L < i + 6 := fun h8 => c1 ((l_cond (by omega) hL).mpr h8)
      omega
    have hnext : ∀ (u v : mSt) (H : Heap) (locs : List Loc) (ls : Array Slot), Sim u v → LH s D y yS qc h qm H locs u v → lv_has ls 4 [(0, .ref b), (1, .ref (qc 0)), (2, .ref h), (3, .int (nI i))] → W p l e room_1 s m #[Value.ref b] below meth c H locs 600000 7302250 (lw_Z below #[Value.ref b] s) (F0 m 1094 ls []) := by
      intro u v H locs ls hsim w hl
      refine lv_iinc (v := nI (i + 6)) (lv' := [(3, .int (nI (i + 6))), (0, .ref b), (1, .ref (qc 0)), (2, .ref h)]) hx hb dL_law_1094 hl (k := 3) rfl (nI_add i 6) (by decide) rfl (fun ls hl => ?_)
      refine lv_goto (tgt := 18) hx hb dL_law_1097 (by decide) ?_
      exact ih (i + 6) u v H locs ls (by omega) (by omega) hsim w (lv_sub hl [1, 2, 3, 0] rfl)
    refine lv_aload_n hx hb dL_law_27 rfl (lv_at hl 0 rfl) ?_
    refine lv_iload_n hx hb dL_law_28 rfl (lv_at hl 3 rfl) ?_
    refine va_sld hx hb hX hbl (Nat.not_le.mpr hbl) w.2.2.2 (vp_in_nI (by omega) (by omega)) dL_law_29 ?_
    refine lv_bipush (v := 31) hx hb dL_law_30 (by decide) ?_
    refine lv_iand hx hb dL_law_32 ?_
    generalize xs (nI i).toNatClampNeg &&& 31 = x
    by_cases c0 : x = 0
    · refine lv_tableIn (off := 127) (tgt := 160) hx hb dL_law_33 (by rw [c0]; decide) (by rw [c0]; decide) (by rw [c0]; decide) (by decide) ?_
      exact lc_program (hst.1) hL hi X hX hbl hsim w hl hnext
    by_cases c1 : x = 1
    · refine lv_tableIn (off := 180) (tgt := 213) hx hb dL_law_33 (by rw [c1]; decide) (by rw [c1]; decide) (by rw [c1]; decide) (by decide) ?_
      exact lc_ofRule (hst.2.1) hL hi X hX hbl hsim w hl hnext
    by_cases c2 : x = 2
    · refine lv_tableIn (off := 213) (tgt := 246) hx hb dL_law_33 (by rw [c2]; decide) (by rw [c2]; decide) (by rw [c2]; decide) (by decide) ?_
      exact lc_ofRelation (hst.2.2.1) hL hi X hX hbl hsim w hl hnext
    by_cases c3 : x = 3
    · refine lv_tableIn (off := 246) (tgt := 279) hx hb dL_law_33 (by rw [c3]; decide) (by rw [c3]; decide) (by rw [c3]; decide) (by decide) ?_
      exact lc_form (hst.2.2.2.1) hL hi X hX hbl hsim w hl hnext
    by_cases c4 : x = 4
    · refine lv_tableIn (off := 279) (tgt := 312) hx hb dL_law_33 (by rw [c4]; decide) (by rw [c4]; decide) (by rw [c4]; decide) (by decide) ?_
      exact lc_tell (hst.2.2.2.2.1) hL hi X hX hbl hsim w hl hnext
    by_cases c5 : x = 5
    · refine lv_tableIn (off := 322) (tgt := 355) hx hb dL_law_33 (by rw [c5]; decide) (by rw [c5]; decide) (by rw [c5]; decide) (by decide) ?_
      exact lc_ofFact (hst.2.2.2.2.2.1) hL hi X hX hbl hsim w hl hnext
    by_cases c6 : x = 6
    · refine lv_tableIn (off := 375) (tgt := 408) hx hb dL_law_33 (by rw [c6]; decide) (by rw [c6]; decide) (by rw [c6]; decide) (by decide) ?_
      exact lc_day (hst.2.2.2.2.2.2.1) hL hi X hX hbl hsim w hl hnext
    by_cases c7 : x = 7
    · refine lv_tableIn (off := 438) (tgt := 471) hx hb dL_law_33 (by rw [c7]; decide) (by rw [c7]; decide) (by rw [c7]; decide) (by decide) ?_
      exact lc_rounds (hst.2.2.2.2.2.2.2.1) hL hi X hX hbl hsim w hl hnext
    by_cases c8 : x = 8
    · refine lv_tableIn (off := 451) (tgt := 484) hx hb dL_law_33 (by rw [c8]; decide) (by rw [c8]; decide) (by rw [c8]; decide) (by decide) ?_
      exact lc_born (hst.2.2.2.2.2.2.2.2.1) hL hi X hX hbl hsim w hl hnext
    by_cases c9 : x = 9
    · refine lv_tableIn (off := 474) (tgt := 507) hx hb dL_law_33 (by rw [c9]; decide) (by rw [c9]; decide) (by rw [c9]; decide) (by decide) ?_
      exact lc_ranked (hst.2.2.2.2.2.2.2.2.2.1) hL hi X hX hbl hsim w hl hnext
    by_cases c10 : x = 10
    · refine lv_tableIn (off := 507) (tgt := 540) hx hb dL_law_33 (by rw [c10]; decide) (by rw [c10]; decide) (by rw [c10]; decide) (by decide) ?_
      exact lc_settled (hst.2.2.2.2.2.2.2.2.2.2.1) hL hi X hX hbl hsim w hl hnext
    by_cases c11 : x = 11
    · refine lv_tableIn (off := 530) (tgt := 563) hx hb dL_law_33 (by rw [c11]; decide) (by rw [c11]; decide) (by rw [c11]; decide) (by decide) ?_
      exact lc_demands (hst.2.2.2.2.2.2.2.2.2.2.2.1) hL hi X hX hbl hsim w hl hnext
    by_cases c12 : x = 12
    · refine lv_tableIn (off := 563) (tgt := 596) hx hb dL_law_33 (by rw [c12]; decide) (by rw [c12]; decide) (by rw [c12]; decide) (by decide) ?_
      exact lc_reading (hst.2.2.2.2.2.2.2.2.2.2.2.2.1) hL hi X hX hbl hsim w hl hnext
    by_cases c13 : x = 13
    · refine lv_tableIn (off := 616) (tgt := 649) hx hb dL_law_33 (by rw [c13]; decide) (by rw [c13]; decide) (by rw [c13]; decide) (by decide) ?_
      exact lc_back (hst.2.2.2.2.2.2.2.2.2.2.2.2.2.1) hL hi X hX hbl hsim w hl hnext
    by_cases c14 : x = 14
    · refine lv_tableIn (off := 639) (tgt := 672) hx hb dL_law_33 (by rw [c14]; decide) (by rw [c14]; decide) (by rw [c14]; decide) (by decide) ?_
      exact lc_kinds (hst.2.2.2.2.2.2.2.2.2.2.2.2.2.2.1) hL hi X hX hbl hsim w hl hnext
    by_cases c15 : x = 15
    · refine lv_tableIn (off := 662) (tgt := 695) hx hb dL_law_33 (by rw [c15]; decide) (by rw [c15]; decide) (by rw [c15]; decide) (by decide) ?_
      exact lc_forms (hst.2.2.2.2.2.2.2.2.2.2.2.2.2.2.2.1) hL hi X hX hbl hsim w hl hnext
    by_cases c16 : x = 16
    · refine lv_tableIn (off := 685) (tgt := 718) hx hb dL_law_33 (by rw [c16]; decide) (by rw [c16]; decide) (by rw [c16]; decide) (by decide) ?_
      exact lc_odds (hst.2.2.2.2.2.2.2.2.2.2.2.2.2.2.2.2.1) hL hi X hX hbl hsim w hl hnext
    by_cases c17 : x = 17
    · refine lv_tableIn (off := 718) (tgt := 751) hx hb dL_law_33 (by rw [c17]; decide) (by rw [c17]; decide) (by rw [c17]; decide) (by decide) ?_
      exact lc_sheet (hst.2.2.2.2.2.2.2.2.2.2.2.2.2.2.2.2.2.1) hL hi X hX hbl hsim w hl hnext
    by_cases c18 : x = 18
    · refine lv_tableIn (off := 761) (tgt := 794) hx hb dL_law_33 (by rw [c18]; decide) (by rw [c18]; decide) (by rw [c18]; decide) (by decide) ?_
      exact lc_lose (hst.2.2.2.2.2.2.2.2.2.2.2.2.2.2.2.2.2.2.1) hL hi X hX hbl hsim w hl hnext
    by_cases c19 : x = 19
    · refine lv_tableIn (off := 784) (tgt := 817) hx hb dL_law_33 (by rw [c19]; decide) (by rw [c19]; decide) (by rw [c19]; decide) (by decide) ?_
      exact lc_put (hst.2.2.2.2.2.2.2.2.2.2.2.2.2.2.2.2.2.2.2.1) hL hi X hX hbl hsim w hl hnext
    by_cases c20 : x = 20
    · refine lv_tableIn (off := 827) (tgt := 860) hx hb dL_law_33 (by rw [c20]; decide) (by rw [c20]; decide) (by rw [c20]; decide) (by decide) ?_
      exact lc_cell (hst.2.2.2.2.2.2.2.2.2.2.2.2.2.2.2.2.2.2.2.2.1) hL hi X hX hbl hsim w hl hnext
    by_cases c21 : x = 21
    · refine lv_tableIn (off := 870) (tgt := 903) hx hb dL_law_33 (by rw [c21]; decide) (by rw [c21]; decide) (by rw [c21]; decide) (by decide) ?_
      exact lc_copy (hst.2.2.2.2.2.2.2.2.2.2.2.2.2.2.2.2.2.2.2.2.2.1) hL hi X hX hbl hsim w hl hnext
    by_cases c22 : x = 22
    · refine lv_tableIn (off := 933) (tgt := 966) hx hb dL_law_33 (by rw [c22]; decide) (by rw [c22]; decide) (by rw [c22]; decide) (by decide) ?_
      exact lc_speak (hst.2.2.2.2.2.2.2.2.2.2.2.2.2.2.2.2.2.2.2.2.2.2.1) hL hi X hX hbl hsim w hl hnext
    by_cases c23 : x = 23
    · refine lv_tableIn (off := 956) (tgt := 989) hx hb dL_law_33 (by rw [c23]; decide) (by rw [c23]; decide) (by rw [c23]; decide) (by decide) ?_
      exact lc_quote (hst.2.2.2.2.2.2.2.2.2.2.2.2.2.2.2.2.2.2.2.2.2.2.2.1) hL hi X hX hbl hsim w hl hnext
    by_cases c24 : x = 24
    · refine lv_tableIn (off := 979) (tgt := 1012) hx hb dL_law_33 (by rw [c24]; decide) (by rw [c24]; decide) (by rw [c24]; decide) (by decide) ?_
      exact lc_as (hst.2.2.2.2.2.2.2.2.2.2.2.2.2.2.2.2.2.2.2.2.2.2.2.2.1) hL hi X hX hbl hsim w hl hnext
    by_cases c25 : x = 25
    · refine lv_tableIn (off := 1012) (tgt := 1045) hx hb dL_law_33 (by rw [c25]; decide) (by rw [c25]; decide) (by rw [c25]; decide) (by decide) ?_
      exact lc_trace (hst.2.2.2.2.2.2.2.2.2.2.2.2.2.2.2.2.2.2.2.2.2.2.2.2.2.1) hL hi X hX hbl hsim w hl hnext
    by_cases c26 : x = 26
    · refine lv_tableIn (off := 1025) (tgt := 1058) hx hb dL_law_33 (by rw [c26]; decide) (by rw [c26]; decide) (by rw [c26]; decide) (by decide) ?_
      exact lc_fault (hst.2.2.2.2.2.2.2.2.2.2.2.2.2.2.2.2.2.2.2.2.2.2.2.2.2.2.1) hL hi X hX hbl hsim w hl hnext
    by_cases c27 : x = 27
    · refine lv_tableIn (off := 1038) (tgt := 1071) hx hb dL_law_33 (by rw [c27]; decide) (by rw [c27]; decide) (by rw [c27]; decide) (by decide) ?_
      exact lc_many (hst.2.2.2.2.2.2.2.2.2.2.2.2.2.2.2.2.2.2.2.2.2.2.2.2.2.2.2) hL hi X hX hbl hsim w hl hnext
    refine lv_tableOut (tgt := 1094) hx hb dL_law_33 (by have h0 := lv_neT c0 (a := 0) (by decide); have h1 := lv_neT c1 (a := 1) (by decide); have h2 := lv_neT c2 (a := 2) (by decide); have h3 := lv_neT c3 (a := 3) (by decide); have h4 := lv_neT c4 (a := 4) (by decide); have h5 := lv_neT c5 (a := 5) (by decide); have h6 := lv_neT c6 (a := 6) (by decide); have h7 := lv_neT c7 (a := 7) (by decide); have h8 := lv_neT c8 (a := 8) (by decide); have h9 := lv_neT c9 (a := 9) (by decide); have h10 := lv_neT c10 (a := 10) (by decide); have h11 := lv_neT c11 (a := 11) (by decide); have h12 := lv_neT c12 (a := 12) (by decide); have h13 := lv_neT c13 (a := 13) (by decide); have h14 := lv_neT c14 (a := 14) (by decide); have h15 := lv_neT c15 (a := 15) (by decide); have h16 := lv_neT c16 (a := 16) (by decide); have h17 := lv_neT c17 (a := 17) (by decide); have h18 := lv_neT c18 (a := 18) (by decide); have h19 := lv_neT c19 (a := 19) (by decide); have h20 := lv_neT c20 (a := 20) (by decide); have h21 := lv_neT c21 (a := 21) (by decide); have h22 := lv_neT c22 (a := 22) (by decide); have h23 := lv_neT c23 (a := 23) (by decide); have h24 := lv_neT c24 (a := 24) (by decide); have h25 := lv_neT c25 (a := 25) (by decide); have h26 := lv_neT c26 (a := 26) (by decide); have h27 := lv_neT c27 (a := 27) (by decide); omega) (by decide) ?_
    exact hnext u v H locs ls hsim w hl
