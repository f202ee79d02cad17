/-! the class's world: ints I, rows R, addresses q by numbers; k: which sheet, which world -/
/-- a long of two halves; a row of longs lies in two rows of ints, the upper halves' four numbers on -/
def jl (h l : Int32) : Int64 := .ofBitVec (h.toBitVec ++ l.toBitVec)
theorem jl_bv (h l : Int32) : (jl h l).toBitVec = (h.toBitVec ++ l.toBitVec : BitVec 64) := by unfold jl; rfl
def loL (x : Int64) : Int32 := .ofBitVec (x.toBitVec.extractLsb' 0 32)
def hiL (x : Int64) : Int32 := .ofBitVec (x.toBitVec.extractLsb' 32 32)
theorem jl_eta (x : Int64) : jl (hiL x) (loL x) = x := by
  apply Int64.toBitVec_inj.mp
  rw [jl_bv]
  show (x.toBitVec.extractLsb' 32 32 ++ x.toBitVec.extractLsb' 0 32 : BitVec 64) = x.toBitVec
  apply BitVec.eq_of_getLsbD_eq
  intro i hi
  rw [BitVec.getLsbD_append, BitVec.getLsbD_extractLsb', BitVec.getLsbD_extractLsb']
  by_cases h : i < 32
  · simp [h]
  · have h1 : i - 32 < 32 := by omega
    have h2 : 32 + (i - 32) = i := by omega
    simp [h, h1, h2]
theorem lo_jl (h l : Int32) : loL (jl h l) = l := by
  apply Int32.toBitVec_inj.mp
  show ((jl h l).toBitVec.extractLsb' 0 32) = l.toBitVec
  rw [jl_bv]
  apply BitVec.eq_of_getLsbD_eq
  intro i hi
  rw [BitVec.getLsbD_extractLsb', BitVec.getLsbD_append]
  simp [hi]
theorem hi_jl (h l : Int32) : hiL (jl h l) = h := by
  apply Int32.toBitVec_inj.mp
  show ((jl h l).toBitVec.extractLsb' 32 32) = h.toBitVec
  rw [jl_bv]
  apply BitVec.eq_of_getLsbD_eq
  intro i hi
  rw [BitVec.getLsbD_extractLsb', BitVec.getLsbD_append]
  simp [hi]
theorem jl_zero : jl 0 0 = 0 := by unfold jl; decide
def rowW : Nat → (Nat → Int32) → (Nat → Int32) → Nat → Int64
  | 0, b, a, i => jl (b i) (a i)
  | n + 1, b, a, i => rowW n b a i
termination_by n => n
def rowL (b a : Nat → Int32) : Nat → Int64 := rowW 0 b a
theorem rowL_at (b a : Nat → Int32) (i : Nat) : rowL b a i = jl (b i) (a i) := by unfold rowL; rw [rowW]
def getL (R : Nat → Nat → Int32) (k : Nat) (i : Int32) : Int64 := jl (R (k + 4) i.toNatClampNeg) (R k i.toNatClampNeg)
def setL (R : Nat → Nat → Int32) (k : Nat) (i : Int32) (x : Int64) : Nat → Nat → Int32 := setA (setA R k i (loL x)) (k + 4) i (hiL x)
theorem vp_updL_row (b a : Nat → Int32) (i : Nat) (x : Int64) : vp_updL (rowL b a) i x = rowL (upd b i (hiL x)) (upd a i (loL x)) := by
  funext j
  unfold vp_updL
  rw [rowL_at, rowL_at]
  unfold upd
  by_cases h : j = i
  · simp [h, jl_eta]
  · simp [h]
theorem setL_row (R : Nat → Nat → Int32) (k : Nat) (i : Int32) (x : Int64) : (fun j => if j = k + 4 then upd (R (k + 4)) i.toNatClampNeg (hiL x) else if j = k then upd (R k) i.toNatClampNeg (loL x) else R j) = setL R k i x := by
  funext j
  unfold setL setA
  by_cases h : j = k + 4
  · simp [h]
  · by_cases h2 : j = k
    · simp [h2]
    · simp [h, h2]
def lcmpI (x y : Int64) : Int32 := if x > y then 1 else if x = y then 0 else -1
def cRR (q : Nat → Nat) (I : Nat → Int32) : List Value := [.ref (q 1), .ref (q (100 + 100 * 0)), .ref (q (100 + 100 * 1)), .ref (q 50), .ref (q 5), .ref (q 6), .int (I 7), .int (I 8), .int (I 9)]
def cTR (q : Nat → Nat) (I : Nat → Int32) : List Value := [.ref (q 51), .int (I 52), .int (I 53), .int (I 54)]
def cSH (q : Nat → Nat) (I : Nat → Int32) (k : Nat) : List Value := [.ref (q (1001 + 10 * k)), .int (I (1002 + 10 * k)), .int (I (1003 + 10 * k)), .int (I (1004 + 10 * k))]
def cWO (q : Nat → Nat) (I : Nat → Int32) (k : Nat) : List Value := [.ref (q (110 + 100 * k)), .ref (q (130 + 100 * k)), .ref (q (140 + 100 * k)), .ref (q (150 + 100 * k)), .int (I (105 + 100 * k))]
def cPR (q : Nat → Nat) (I : Nat → Int32) (k : Nat) : List Value := [.ref (q (111 + 100 * k)), .ref (q (112 + 100 * k)), .ref (q (113 + 100 * k)), .ref (q (114 + 100 * k)), .ref (q (115 + 100 * k)), .ref (q (116 + 100 * k)), .ref (q (117 + 100 * k)), .int (I (118 + 100 * k)), .int (I (119 + 100 * k))]
def cLA (q : Nat → Nat) (I : Nat → Int32) (k : Nat) : List Value := [.ref (q (110 + 100 * k)), .ref (q (132 + 100 * k)), .ref (q (133 + 100 * k))]
def cRO (q : Nat → Nat) (I : Nat → Int32) (k : Nat) : List Value := [.ref (q (110 + 100 * k)), .ref (q (130 + 100 * k)), .ref (q (143 + 100 * k)), .ref (q (144 + 100 * k)), .ref (q (145 + 100 * k)), .int (I (146 + 100 * k))]
def cCO (q : Nat → Nat) (I : Nat → Int32) (k : Nat) : List Value := [.ref (q (110 + 100 * k)), .ref (q (130 + 100 * k)), .ref (q (140 + 100 * k)), .ref (q (154 + 100 * k)), .ref (q (155 + 100 * k)), .int (I (156 + 100 * k)), .int (I (157 + 100 * k))]
def cSheet (y : ClassId) (q : Nat → Nat) (I : Nat → Int32) (R : Nat → Nat → Int32) (k : Nat) : va_W := [(q (1000 + 10 * k), .inr (4, cSH q I k)), (q (1001 + 10 * k), .inl (y, 60, .inl (R (1001 + 10 * k))))]
def cClus (y : ClassId) (yS : ClassId × ClassId) (q : Nat → Nat) (I : Nat → Int32) (R : Nat → Nat → Int32) (k : Nat) : va_W := [(q (100 + 100 * k), .inr (6, cWO q I k)), (q (110 + 100 * k), .inr (2, cPR q I k)), (q (111 + 100 * k), .inl (y, 5, .inl (R (111 + 100 * k)))), (q (112 + 100 * k), .inl (y, 5, .inl (R (112 + 100 * k)))), (q (113 + 100 * k), .inl (y, 5, .inl (R (113 + 100 * k)))), (q (114 + 100 * k), .inl (y, 5, .inl (R (114 + 100 * k)))), (q (115 + 100 * k), .inl (y, 5, .inl (R (115 + 100 * k)))), (q (116 + 100 * k), .inl (y, 5, .inl (R (116 + 100 * k)))), (q (117 + 100 * k), .inl (y, 4, .inl (R (117 + 100 * k)))), (q (130 + 100 * k), .inr (1, cLA q I k)), (q (132 + 100 * k), .inl (y, 4, .inl (R (132 + 100 * k)))), (q (133 + 100 * k), .inl (y, 4, .inl (R (133 + 100 * k)))), (q (140 + 100 * k), .inr (3, cRO q I k)), (q (143 + 100 * k), .inl (y, 4, .inl (R (143 + 100 * k)))), (q (144 + 100 * k), .inl (y, 4, .inl (R (144 + 100 * k)))), (q (145 + 100 * k), .inl (y, 64, .inl (R (145 + 100 * k)))), (q (150 + 100 * k), .inr (0, cCO q I k)), (q (154 + 100 * k), .inl (yS.2, 64, .inr (.inl (rowL (R ((154 + 100 * k) + 4)) (R (154 + 100 * k)))))), (q (155 + 100 * k), .inl (y, 64, .inl (R (155 + 100 * k))))]
def shF (q : Nat → Nat) : Nat → Option Nat := fun k => some (q (1000 + 10 * k))
def cW (y : ClassId) (yS : ClassId × ClassId) (q : Nat → Nat) (I : Nat → Int32) (R : Nat → Nat → Int32) : va_W := [(q 0, .inr (7, cRR q I)), (q 1, .inl (yS.1, 4, .inr (.inr (.inr (.inr (shF q)))))), (q 5, .inl (y, 8, .inl (R 5))), (q 6, .inl (y, 8, .inl (R 6))), (q 50, .inr (5, cTR q I)), (q 51, .inl (y, 60, .inl (R 51)))] ++ (cSheet y q I R 0 ++ (cSheet y q I R 1 ++ (cSheet y q I R 2 ++ (cSheet y q I R 3 ++ (cClus y yS q I R 0 ++ cClus y yS q I R 1)))))
theorem cW_fst (y : ClassId) (yS : ClassId × ClassId) (q : Nat → Nat) (I : Nat → Int32) (R : Nat → Nat → Int32) : (cW y yS q I R).map Prod.fst = [q 0, q 1, q 5, q 6, q 50, q 51, q 1000, q 1001, q 1010, q 1011, q 1020, q 1021, q 1030, q 1031, q 100, q 110, q 111, q 112, q 113, q 114, q 115, q 116, q 117, q 130, q 132, q 133, q 140, q 143, q 144, q 145, q 150, q 154, q 155, q 200, q 210, q 211, q 212, q 213, q 214, q 215, q 216, q 217, q 230, q 232, q 233, q 240, q 243, q 244, q 245, q 250, q 254, q 255] := rfl
theorem cat_RR (y : ClassId) (yS : ClassId × ClassId) (q : Nat → Nat) (I : Nat → Int32) (R : Nat → Nat → Int32) : (cW y yS q I R)[0]? = some (q 0, .inr (7, cRR q I)) := rfl
theorem cf_RR_0 (q : Nat → Nat) (I : Nat → Int32) : (cRR q I)[0]? = some (.ref (q 1)) := rfl
theorem cf_RR_1 (q : Nat → Nat) (I : Nat → Int32) : (cRR q I)[1]? = some (.ref (q (100 + 100 * 0))) := rfl
theorem cf_RR_2 (q : Nat → Nat) (I : Nat → Int32) : (cRR q I)[2]? = some (.ref (q (100 + 100 * 1))) := rfl
theorem cf_RR_3 (q : Nat → Nat) (I : Nat → Int32) : (cRR q I)[3]? = some (.ref (q 50)) := rfl
theorem cf_RR_4 (q : Nat → Nat) (I : Nat → Int32) : (cRR q I)[4]? = some (.ref (q 5)) := rfl
theorem cf_RR_5 (q : Nat → Nat) (I : Nat → Int32) : (cRR q I)[5]? = some (.ref (q 6)) := rfl
theorem cf_RR_6 (q : Nat → Nat) (I : Nat → Int32) : (cRR q I)[6]? = some (.int (I 7)) := rfl
theorem cset_RR_6 (y : ClassId) (yS : ClassId × ClassId) (q : Nat → Nat) (I : Nat → Int32) (R : Nat → Nat → Int32) (v : Int32) : (cW y yS q I R).set (0) (q 0, .inr (7, (cRR q I).set 6 (.int v))) = cW y yS q (upd I 7 v) R := rfl
theorem cf_RR_7 (q : Nat → Nat) (I : Nat → Int32) : (cRR q I)[7]? = some (.int (I 8)) := rfl
theorem cset_RR_7 (y : ClassId) (yS : ClassId × ClassId) (q : Nat → Nat) (I : Nat → Int32) (R : Nat → Nat → Int32) (v : Int32) : (cW y yS q I R).set (0) (q 0, .inr (7, (cRR q I).set 7 (.int v))) = cW y yS q (upd I 8 v) R := rfl
theorem cf_RR_8 (q : Nat → Nat) (I : Nat → Int32) : (cRR q I)[8]? = some (.int (I 9)) := rfl
theorem cset_RR_8 (y : ClassId) (yS : ClassId × ClassId) (q : Nat → Nat) (I : Nat → Int32) (R : Nat → Nat → Int32) (v : Int32) : (cW y yS q I R).set (0) (q 0, .inr (7, (cRR q I).set 8 (.int v))) = cW y yS q (upd I 9 v) R := rfl
theorem cat_TR (y : ClassId) (yS : ClassId × ClassId) (q : Nat → Nat) (I : Nat → Int32) (R : Nat → Nat → Int32) : (cW y yS q I R)[4]? = some (q 50, .inr (5, cTR q I)) := rfl
theorem cf_TR_0 (q : Nat → Nat) (I : Nat → Int32) : (cTR q I)[0]? = some (.ref (q 51)) := rfl
theorem cf_TR_1 (q : Nat → Nat) (I : Nat → Int32) : (cTR q I)[1]? = some (.int (I 52)) := rfl
theorem cset_TR_1 (y : ClassId) (yS : ClassId × ClassId) (q : Nat → Nat) (I : Nat → Int32) (R : Nat → Nat → Int32) (v : Int32) : (cW y yS q I R).set (4) (q 50, .inr (5, (cTR q I).set 1 (.int v))) = cW y yS q (upd I 52 v) R := rfl
theorem cf_TR_2 (q : Nat → Nat) (I : Nat → Int32) : (cTR q I)[2]? = some (.int (I 53)) := rfl
theorem cset_TR_2 (y : ClassId) (yS : ClassId × ClassId) (q : Nat → Nat) (I : Nat → Int32) (R : Nat → Nat → Int32) (v : Int32) : (cW y yS q I R).set (4) (q 50, .inr (5, (cTR q I).set 2 (.int v))) = cW y yS q (upd I 53 v) R := rfl
theorem cf_TR_3 (q : Nat → Nat) (I : Nat → Int32) : (cTR q I)[3]? = some (.int (I 54)) := rfl
theorem cset_TR_3 (y : ClassId) (yS : ClassId × ClassId) (q : Nat → Nat) (I : Nat → Int32) (R : Nat → Nat → Int32) (v : Int32) : (cW y yS q I R).set (4) (q 50, .inr (5, (cTR q I).set 3 (.int v))) = cW y yS q (upd I 54 v) R := rfl
theorem cat_SH (y : ClassId) (yS : ClassId × ClassId) (q : Nat → Nat) (I : Nat → Int32) (R : Nat → Nat → Int32) (k : Nat) (hk : k < 4) : (cW y yS q I R)[6 + 2 * k]? = some (q (1000 + 10 * k), .inr (4, cSH q I k)) := match k, hk with
  | 0, _ => rfl
  | 1, _ => rfl
  | 2, _ => rfl
  | 3, _ => rfl
  | k + 4, h => absurd h (by omega)
theorem cf_SH_0 (q : Nat → Nat) (I : Nat → Int32) (k : Nat) : (cSH q I k)[0]? = some (.ref (q (1001 + 10 * k))) := rfl
theorem cf_SH_1 (q : Nat → Nat) (I : Nat → Int32) (k : Nat) : (cSH q I k)[1]? = some (.int (I (1002 + 10 * k))) := rfl
theorem cset_SH_1 (y : ClassId) (yS : ClassId × ClassId) (q : Nat → Nat) (I : Nat → Int32) (R : Nat → Nat → Int32) (k : Nat) (hk : k < 4) (v : Int32) : (cW y yS q I R).set (6 + 2 * k) (q (1000 + 10 * k), .inr (4, (cSH q I k).set 1 (.int v))) = cW y yS q (upd I (1002 + 10 * k) v) R := match k, hk with
  | 0, _ => rfl
  | 1, _ => rfl
  | 2, _ => rfl
  | 3, _ => rfl
  | k + 4, h => absurd h (by omega)
theorem cf_SH_2 (q : Nat → Nat) (I : Nat → Int32) (k : Nat) : (cSH q I k)[2]? = some (.int (I (1003 + 10 * k))) := rfl
theorem cset_SH_2 (y : ClassId) (yS : ClassId × ClassId) (q : Nat → Nat) (I : Nat → Int32) (R : Nat → Nat → Int32) (k : Nat) (hk : k < 4) (v : Int32) : (cW y yS q I R).set (6 + 2 * k) (q (1000 + 10 * k), .inr (4, (cSH q I k).set 2 (.int v))) = cW y yS q (upd I (1003 + 10 * k) v) R := match k, hk with
  | 0, _ => rfl
  | 1, _ => rfl
  | 2, _ => rfl
  | 3, _ => rfl
  | k + 4, h => absurd h (by omega)
theorem cf_SH_3 (q : Nat → Nat) (I : Nat → Int32) (k : Nat) : (cSH q I k)[3]? = some (.int (I (1004 + 10 * k))) := rfl
theorem cset_SH_3 (y : ClassId) (yS : ClassId × ClassId) (q : Nat → Nat) (I : Nat → Int32) (R : Nat → Nat → Int32) (k : Nat) (hk : k < 4) (v : Int32) : (cW y yS q I R).set (6 + 2 * k) (q (1000 + 10 * k), .inr (4, (cSH q I k).set 3 (.int v))) = cW y yS q (upd I (1004 + 10 * k) v) R := match k, hk with
  | 0, _ => rfl
  | 1, _ => rfl
  | 2, _ => rfl
  | 3, _ => rfl
  | k + 4, h => absurd h (by omega)
theorem cat_WO (y : ClassId) (yS : ClassId × ClassId) (q : Nat → Nat) (I : Nat → Int32) (R : Nat → Nat → Int32) (k : Nat) (hk : k < 2) : (cW y yS q I R)[14 + 19 * k]? = some (q (100 + 100 * k), .inr (6, cWO q I k)) := match k, hk with
  | 0, _ => rfl
  | 1, _ => rfl
  | k + 2, h => absurd h (by omega)
theorem cf_WO_0 (q : Nat → Nat) (I : Nat → Int32) (k : Nat) : (cWO q I k)[0]? = some (.ref (q (110 + 100 * k))) := rfl
theorem cf_WO_1 (q : Nat → Nat) (I : Nat → Int32) (k : Nat) : (cWO q I k)[1]? = some (.ref (q (130 + 100 * k))) := rfl
theorem cf_WO_2 (q : Nat → Nat) (I : Nat → Int32) (k : Nat) : (cWO q I k)[2]? = some (.ref (q (140 + 100 * k))) := rfl
theorem cf_WO_3 (q : Nat → Nat) (I : Nat → Int32) (k : Nat) : (cWO q I k)[3]? = some (.ref (q (150 + 100 * k))) := rfl
theorem cf_WO_4 (q : Nat → Nat) (I : Nat → Int32) (k : Nat) : (cWO q I k)[4]? = some (.int (I (105 + 100 * k))) := rfl
theorem cset_WO_4 (y : ClassId) (yS : ClassId × ClassId) (q : Nat → Nat) (I : Nat → Int32) (R : Nat → Nat → Int32) (k : Nat) (hk : k < 2) (v : Int32) : (cW y yS q I R).set (14 + 19 * k) (q (100 + 100 * k), .inr (6, (cWO q I k).set 4 (.int v))) = cW y yS q (upd I (105 + 100 * k) v) R := match k, hk with
  | 0, _ => rfl
  | 1, _ => rfl
  | k + 2, h => absurd h (by omega)
theorem cat_PR (y : ClassId) (yS : ClassId × ClassId) (q : Nat → Nat) (I : Nat → Int32) (R : Nat → Nat → Int32) (k : Nat) (hk : k < 2) : (cW y yS q I R)[15 + 19 * k]? = some (q (110 + 100 * k), .inr (2, cPR q I k)) := match k, hk with
  | 0, _ => rfl
  | 1, _ => rfl
  | k + 2, h => absurd h (by omega)
theorem cf_PR_0 (q : Nat → Nat) (I : Nat → Int32) (k : Nat) : (cPR q I k)[0]? = some (.ref (q (111 + 100 * k))) := rfl
theorem cf_PR_1 (q : Nat → Nat) (I : Nat → Int32) (k : Nat) : (cPR q I k)[1]? = some (.ref (q (112 + 100 * k))) := rfl
theorem cf_PR_2 (q : Nat → Nat) (I : Nat → Int32) (k : Nat) : (cPR q I k)[2]? = some (.ref (q (113 + 100 * k))) := rfl
theorem cf_PR_3 (q : Nat → Nat) (I : Nat → Int32) (k : Nat) : (cPR q I k)[3]? = some (.ref (q (114 + 100 * k))) := rfl
theorem cf_PR_4 (q : Nat → Nat) (I : Nat → Int32) (k : Nat) : (cPR q I k)[4]? = some (.ref (q (115 + 100 * k))) := rfl
theorem cf_PR_5 (q : Nat → Nat) (I : Nat → Int32) (k : Nat) : (cPR q I k)[5]? = some (.ref (q (116 + 100 * k))) := rfl
theorem cf_PR_6 (q : Nat → Nat) (I : Nat → Int32) (k : Nat) : (cPR q I k)[6]? = some (.ref (q (117 + 100 * k))) := rfl
theorem cf_PR_7 (q : Nat → Nat) (I : Nat → Int32) (k : Nat) : (cPR q I k)[7]? = some (.int (I (118 + 100 * k))) := rfl
theorem cset_PR_7 (y : ClassId) (yS : ClassId × ClassId) (q : Nat → Nat) (I : Nat → Int32) (R : Nat → Nat → Int32) (k : Nat) (hk : k < 2) (v : Int32) : (cW y yS q I R).set (15 + 19 * k) (q (110 + 100 * k), .inr (2, (cPR q I k).set 7 (.int v))) = cW y yS q (upd I (118 + 100 * k) v) R := match k, hk with
  | 0, _ => rfl
  | 1, _ => rfl
  | k + 2, h => absurd h (by omega)
theorem cf_PR_8 (q : Nat → Nat) (I : Nat → Int32) (k : Nat) : (cPR q I k)[8]? = some (.int (I (119 + 100 * k))) := rfl
theorem cset_PR_8 (y : ClassId) (yS : ClassId × ClassId) (q : Nat → Nat) (I : Nat → Int32) (R : Nat → Nat → Int32) (k : Nat) (hk : k < 2) (v : Int32) : (cW y yS q I R).set (15 + 19 * k) (q (110 + 100 * k), .inr (2, (cPR q I k).set 8 (.int v))) = cW y yS q (upd I (119 + 100 * k) v) R := match k, hk with
  | 0, _ => rfl
  | 1, _ => rfl
  | k + 2, h => absurd h (by omega)
theorem cat_LA (y : ClassId) (yS : ClassId × ClassId) (q : Nat → Nat) (I : Nat → Int32) (R : Nat → Nat → Int32) (k : Nat) (hk : k < 2) : (cW y yS q I R)[23 + 19 * k]? = some (q (130 + 100 * k), .inr (1, cLA q I k)) := match k, hk with
  | 0, _ => rfl
  | 1, _ => rfl
  | k + 2, h => absurd h (by omega)
theorem cf_LA_0 (q : Nat → Nat) (I : Nat → Int32) (k : Nat) : (cLA q I k)[0]? = some (.ref (q (110 + 100 * k))) := rfl
theorem cf_LA_1 (q : Nat → Nat) (I : Nat → Int32) (k : Nat) : (cLA q I k)[1]? = some (.ref (q (132 + 100 * k))) := rfl
theorem cf_LA_2 (q : Nat → Nat) (I : Nat → Int32) (k : Nat) : (cLA q I k)[2]? = some (.ref (q (133 + 100 * k))) := rfl
theorem cat_RO (y : ClassId) (yS : ClassId × ClassId) (q : Nat → Nat) (I : Nat → Int32) (R : Nat → Nat → Int32) (k : Nat) (hk : k < 2) : (cW y yS q I R)[26 + 19 * k]? = some (q (140 + 100 * k), .inr (3, cRO q I k)) := match k, hk with
  | 0, _ => rfl
  | 1, _ => rfl
  | k + 2, h => absurd h (by omega)
theorem cf_RO_0 (q : Nat → Nat) (I : Nat → Int32) (k : Nat) : (cRO q I k)[0]? = some (.ref (q (110 + 100 * k))) := rfl
theorem cf_RO_1 (q : Nat → Nat) (I : Nat → Int32) (k : Nat) : (cRO q I k)[1]? = some (.ref (q (130 + 100 * k))) := rfl
theorem cf_RO_2 (q : Nat → Nat) (I : Nat → Int32) (k : Nat) : (cRO q I k)[2]? = some (.ref (q (143 + 100 * k))) := rfl
theorem cf_RO_3 (q : Nat → Nat) (I : Nat → Int32) (k : Nat) : (cRO q I k)[3]? = some (.ref (q (144 + 100 * k))) := rfl
theorem cf_RO_4 (q : Nat → Nat) (I : Nat → Int32) (k : Nat) : (cRO q I k)[4]? = some (.ref (q (145 + 100 * k))) := rfl
theorem cf_RO_5 (q : Nat → Nat) (I : Nat → Int32) (k : Nat) : (cRO q I k)[5]? = some (.int (I (146 + 100 * k))) := rfl
theorem cset_RO_5 (y : ClassId) (yS : ClassId × ClassId) (q : Nat → Nat) (I : Nat → Int32) (R : Nat → Nat → Int32) (k : Nat) (hk : k < 2) (v : Int32) : (cW y yS q I R).set (26 + 19 * k) (q (140 + 100 * k), .inr (3, (cRO q I k).set 5 (.int v))) = cW y yS q (upd I (146 + 100 * k) v) R := match k, hk with
  | 0, _ => rfl
  | 1, _ => rfl
  | k + 2, h => absurd h (by omega)
theorem cat_CO (y : ClassId) (yS : ClassId × ClassId) (q : Nat → Nat) (I : Nat → Int32) (R : Nat → Nat → Int32) (k : Nat) (hk : k < 2) : (cW y yS q I R)[30 + 19 * k]? = some (q (150 + 100 * k), .inr (0, cCO q I k)) := match k, hk with
  | 0, _ => rfl
  | 1, _ => rfl
  | k + 2, h => absurd h (by omega)
theorem cf_CO_0 (q : Nat → Nat) (I : Nat → Int32) (k : Nat) : (cCO q I k)[0]? = some (.ref (q (110 + 100 * k))) := rfl
theorem cf_CO_1 (q : Nat → Nat) (I : Nat → Int32) (k : Nat) : (cCO q I k)[1]? = some (.ref (q (130 + 100 * k))) := rfl
theorem cf_CO_2 (q : Nat → Nat) (I : Nat → Int32) (k : Nat) : (cCO q I k)[2]? = some (.ref (q (140 + 100 * k))) := rfl
theorem cf_CO_3 (q : Nat → Nat) (I : Nat → Int32) (k : Nat) : (cCO q I k)[3]? = some (.ref (q (154 + 100 * k))) := rfl
theorem cf_CO_4 (q : Nat → Nat) (I : Nat → Int32) (k : Nat) : (cCO q I k)[4]? = some (.ref (q (155 + 100 * k))) := rfl
theorem cf_CO_5 (q : Nat → Nat) (I : Nat → Int32) (k : Nat) : (cCO q I k)[5]? = some (.int (I (156 + 100 * k))) := rfl
theorem cset_CO_5 (y : ClassId) (yS : ClassId × ClassId) (q : Nat → Nat) (I : Nat → Int32) (R : Nat → Nat → Int32) (k : Nat) (hk : k < 2) (v : Int32) : (cW y yS q I R).set (30 + 19 * k) (q (150 + 100 * k), .inr (0, (cCO q I k).set 5 (.int v))) = cW y yS q (upd I (156 + 100 * k) v) R := match k, hk with
  | 0, _ => rfl
  | 1, _ => rfl
  | k + 2, h => absurd h (by omega)
theorem cf_CO_6 (q : Nat → Nat) (I : Nat → Int32) (k : Nat) : (cCO q I k)[6]? = some (.int (I (157 + 100 * k))) := rfl
theorem cset_CO_6 (y : ClassId) (yS : ClassId × ClassId) (q : Nat → Nat) (I : Nat → Int32) (R : Nat → Nat → Int32) (k : Nat) (hk : k < 2) (v : Int32) : (cW y yS q I R).set (30 + 19 * k) (q (150 + 100 * k), .inr (0, (cCO q I k).set 6 (.int v))) = cW y yS q (upd I (157 + 100 * k) v) R := match k, hk with
  | 0, _ => rfl
  | 1, _ => rfl
  | k + 2, h => absurd h (by omega)
theorem cat_a5 (y : ClassId) (yS : ClassId × ClassId) (q : Nat → Nat) (I : Nat → Int32) (R : Nat → Nat → Int32) : (cW y yS q I R)[2]? = some (q 5, .inl (y, 8, .inl (R 5))) := rfl
theorem cset_a5 (y : ClassId) (yS : ClassId × ClassId) (q : Nat → Nat) (I : Nat → Int32) (R : Nat → Nat → Int32) (f : Nat → Int32) : (cW y yS q I R).set (2) (q 5, .inl (y, 8, .inl f)) = cW y yS q I (fun j => if j = 5 then f else R j) := rfl
theorem cat_a6 (y : ClassId) (yS : ClassId × ClassId) (q : Nat → Nat) (I : Nat → Int32) (R : Nat → Nat → Int32) : (cW y yS q I R)[3]? = some (q 6, .inl (y, 8, .inl (R 6))) := rfl
theorem cset_a6 (y : ClassId) (yS : ClassId × ClassId) (q : Nat → Nat) (I : Nat → Int32) (R : Nat → Nat → Int32) (f : Nat → Int32) : (cW y yS q I R).set (3) (q 6, .inl (y, 8, .inl f)) = cW y yS q I (fun j => if j = 6 then f else R j) := rfl
theorem cat_a51 (y : ClassId) (yS : ClassId × ClassId) (q : Nat → Nat) (I : Nat → Int32) (R : Nat → Nat → Int32) : (cW y yS q I R)[5]? = some (q 51, .inl (y, 60, .inl (R 51))) := rfl
theorem cset_a51 (y : ClassId) (yS : ClassId × ClassId) (q : Nat → Nat) (I : Nat → Int32) (R : Nat → Nat → Int32) (f : Nat → Int32) : (cW y yS q I R).set (5) (q 51, .inl (y, 60, .inl f)) = cW y yS q I (fun j => if j = 51 then f else R j) := rfl
theorem cat_a111 (y : ClassId) (yS : ClassId × ClassId) (q : Nat → Nat) (I : Nat → Int32) (R : Nat → Nat → Int32) (k : Nat) (hk : k < 2) : (cW y yS q I R)[16 + 19 * k]? = some (q (111 + 100 * k), .inl (y, 5, .inl (R (111 + 100 * k)))) := match k, hk with
  | 0, _ => rfl
  | 1, _ => rfl
  | k + 2, h => absurd h (by omega)
theorem cset_a111 (y : ClassId) (yS : ClassId × ClassId) (q : Nat → Nat) (I : Nat → Int32) (R : Nat → Nat → Int32) (k : Nat) (hk : k < 2) (f : Nat → Int32) : (cW y yS q I R).set (16 + 19 * k) (q (111 + 100 * k), .inl (y, 5, .inl f)) = cW y yS q I (fun j => if j = (111 + 100 * k) then f else R j) := match k, hk with
  | 0, _ => rfl
  | 1, _ => rfl
  | k + 2, h => absurd h (by omega)
theorem cat_a112 (y : ClassId) (yS : ClassId × ClassId) (q : Nat → Nat) (I : Nat → Int32) (R : Nat → Nat → Int32) (k : Nat) (hk : k < 2) : (cW y yS q I R)[17 + 19 * k]? = some (q (112 + 100 * k), .inl (y, 5, .inl (R (112 + 100 * k)))) := match k, hk with
  | 0, _ => rfl
  | 1, _ => rfl
  | k + 2, h => absurd h (by omega)
theorem cset_a112 (y : ClassId) (yS : ClassId × ClassId) (q : Nat → Nat) (I : Nat → Int32) (R : Nat → Nat → Int32) (k : Nat) (hk : k < 2) (f : Nat → Int32) : (cW y yS q I R).set (17 + 19 * k) (q (112 + 100 * k), .inl (y, 5, .inl f)) = cW y yS q I (fun j => if j = (112 + 100 * k) then f else R j) := match k, hk with
  | 0, _ => rfl
  | 1, _ => rfl
  | k + 2, h => absurd h (by omega)
theorem cat_a113 (y : ClassId) (yS : ClassId × ClassId) (q : Nat → Nat) (I : Nat → Int32) (R : Nat → Nat → Int32) (k : Nat) (hk : k < 2) : (cW y yS q I R)[18 + 19 * k]? = some (q (113 + 100 * k), .inl (y, 5, .inl (R (113 + 100 * k)))) := match k, hk with
  | 0, _ => rfl
  | 1, _ => rfl
  | k + 2, h => absurd h (by omega)
theorem cset_a113 (y : ClassId) (yS : ClassId × ClassId) (q : Nat → Nat) (I : Nat → Int32) (R : Nat → Nat → Int32) (k : Nat) (hk : k < 2) (f : Nat → Int32) : (cW y yS q I R).set (18 + 19 * k) (q (113 + 100 * k), .inl (y, 5, .inl f)) = cW y yS q I (fun j => if j = (113 + 100 * k) then f else R j) := match k, hk with
  | 0, _ => rfl
  | 1, _ => rfl
  | k + 2, h => absurd h (by omega)
theorem cat_a114 (y : ClassId) (yS : ClassId × ClassId) (q : Nat → Nat) (I : Nat → Int32) (R : Nat → Nat → Int32) (k : Nat) (hk : k < 2) : (cW y yS q I R)[19 + 19 * k]? = some (q (114 + 100 * k), .inl (y, 5, .inl (R (114 + 100 * k)))) := match k, hk with
  | 0, _ => rfl
  | 1, _ => rfl
  | k + 2, h => absurd h (by omega)
theorem cset_a114 (y : ClassId) (yS : ClassId × ClassId) (q : Nat → Nat) (I : Nat → Int32) (R : Nat → Nat → Int32) (k : Nat) (hk : k < 2) (f : Nat → Int32) : (cW y yS q I R).set (19 + 19 * k) (q (114 + 100 * k), .inl (y, 5, .inl f)) = cW y yS q I (fun j => if j = (114 + 100 * k) then f else R j) := match k, hk with
  | 0, _ => rfl
  | 1, _ => rfl
  | k + 2, h => absurd h (by omega)
theorem cat_a115 (y : ClassId) (yS : ClassId × ClassId) (q : Nat → Nat) (I : Nat → Int32) (R : Nat → Nat → Int32) (k : Nat) (hk : k < 2) : (cW y yS q I R)[20 + 19 * k]? = some (q (115 + 100 * k), .inl (y, 5, .inl (R (115 + 100 * k)))) := match k, hk with
  | 0, _ => rfl
  | 1, _ => rfl
  | k + 2, h => absurd h (by omega)
theorem cset_a115 (y : ClassId) (yS : ClassId × ClassId) (q : Nat → Nat) (I : Nat → Int32) (R : Nat → Nat → Int32) (k : Nat) (hk : k < 2) (f : Nat → Int32) : (cW y yS q I R).set (20 + 19 * k) (q (115 + 100 * k), .inl (y, 5, .inl f)) = cW y yS q I (fun j => if j = (115 + 100 * k) then f else R j) := match k, hk with
  | 0, _ => rfl
  | 1, _ => rfl
  | k + 2, h => absurd h (by omega)
theorem cat_a116 (y : ClassId) (yS : ClassId × ClassId) (q : Nat → Nat) (I : Nat → Int32) (R : Nat → Nat → Int32) (k : Nat) (hk : k < 2) : (cW y yS q I R)[21 + 19 * k]? = some (q (116 + 100 * k), .inl (y, 5, .inl (R (116 + 100 * k)))) := match k, hk with
  | 0, _ => rfl
  | 1, _ => rfl
  | k + 2, h => absurd h (by omega)
theorem cset_a116 (y : ClassId) (yS : ClassId × ClassId) (q : Nat → Nat) (I : Nat → Int32) (R : Nat → Nat → Int32) (k : Nat) (hk : k < 2) (f : Nat → Int32) : (cW y yS q I R).set (21 + 19 * k) (q (116 + 100 * k), .inl (y, 5, .inl f)) = cW y yS q I (fun j => if j = (116 + 100 * k) then f else R j) := match k, hk with
  | 0, _ => rfl
  | 1, _ => rfl
  | k + 2, h => absurd h (by omega)
theorem cat_a117 (y : ClassId) (yS : ClassId × ClassId) (q : Nat → Nat) (I : Nat → Int32) (R : Nat → Nat → Int32) (k : Nat) (hk : k < 2) : (cW y yS q I R)[22 + 19 * k]? = some (q (117 + 100 * k), .inl (y, 4, .inl (R (117 + 100 * k)))) := match k, hk with
  | 0, _ => rfl
  | 1, _ => rfl
  | k + 2, h => absurd h (by omega)
theorem cset_a117 (y : ClassId) (yS : ClassId × ClassId) (q : Nat → Nat) (I : Nat → Int32) (R : Nat → Nat → Int32) (k : Nat) (hk : k < 2) (f : Nat → Int32) : (cW y yS q I R).set (22 + 19 * k) (q (117 + 100 * k), .inl (y, 4, .inl f)) = cW y yS q I (fun j => if j = (117 + 100 * k) then f else R j) := match k, hk with
  | 0, _ => rfl
  | 1, _ => rfl
  | k + 2, h => absurd h (by omega)
theorem cat_a132 (y : ClassId) (yS : ClassId × ClassId) (q : Nat → Nat) (I : Nat → Int32) (R : Nat → Nat → Int32) (k : Nat) (hk : k < 2) : (cW y yS q I R)[24 + 19 * k]? = some (q (132 + 100 * k), .inl (y, 4, .inl (R (132 + 100 * k)))) := match k, hk with
  | 0, _ => rfl
  | 1, _ => rfl
  | k + 2, h => absurd h (by omega)
theorem cset_a132 (y : ClassId) (yS : ClassId × ClassId) (q : Nat → Nat) (I : Nat → Int32) (R : Nat → Nat → Int32) (k : Nat) (hk : k < 2) (f : Nat → Int32) : (cW y yS q I R).set (24 + 19 * k) (q (132 + 100 * k), .inl (y, 4, .inl f)) = cW y yS q I (fun j => if j = (132 + 100 * k) then f else R j) := match k, hk with
  | 0, _ => rfl
  | 1, _ => rfl
  | k + 2, h => absurd h (by omega)
theorem cat_a133 (y : ClassId) (yS : ClassId × ClassId) (q : Nat → Nat) (I : Nat → Int32) (R : Nat → Nat → Int32) (k : Nat) (hk : k < 2) : (cW y yS q I R)[25 + 19 * k]? = some (q (133 + 100 * k), .inl (y, 4, .inl (R (133 + 100 * k)))) := match k, hk with
  | 0, _ => rfl
  | 1, _ => rfl
  | k + 2, h => absurd h (by omega)
theorem cset_a133 (y : ClassId) (yS : ClassId × ClassId) (q : Nat → Nat) (I : Nat → Int32) (R : Nat → Nat → Int32) (k : Nat) (hk : k < 2) (f : Nat → Int32) : (cW y yS q I R).set (25 + 19 * k) (q (133 + 100 * k), .inl (y, 4, .inl f)) = cW y yS q I (fun j => if j = (133 + 100 * k) then f else R j) := match k, hk with
  | 0, _ => rfl
  | 1, _ => rfl
  | k + 2, h => absurd h (by omega)
theorem cat_a143 (y : ClassId) (yS : ClassId × ClassId) (q : Nat → Nat) (I : Nat → Int32) (R : Nat → Nat → Int32) (k : Nat) (hk : k < 2) : (cW y yS q I R)[27 + 19 * k]? = some (q (143 + 100 * k), .inl (y, 4, .inl (R (143 + 100 * k)))) := match k, hk with
  | 0, _ => rfl
  | 1, _ => rfl
  | k + 2, h => absurd h (by omega)
theorem cset_a143 (y : ClassId) (yS : ClassId × ClassId) (q : Nat → Nat) (I : Nat → Int32) (R : Nat → Nat → Int32) (k : Nat) (hk : k < 2) (f : Nat → Int32) : (cW y yS q I R).set (27 + 19 * k) (q (143 + 100 * k), .inl (y, 4, .inl f)) = cW y yS q I (fun j => if j = (143 + 100 * k) then f else R j) := match k, hk with
  | 0, _ => rfl
  | 1, _ => rfl
  | k + 2, h => absurd h (by omega)
theorem cat_a144 (y : ClassId) (yS : ClassId × ClassId) (q : Nat → Nat) (I : Nat → Int32) (R : Nat → Nat → Int32) (k : Nat) (hk : k < 2) : (cW y yS q I R)[28 + 19 * k]? = some (q (144 + 100 * k), .inl (y, 4, .inl (R (144 + 100 * k)))) := match k, hk with
  | 0, _ => rfl
  | 1, _ => rfl
  | k + 2, h => absurd h (by omega)
theorem cset_a144 (y : ClassId) (yS : ClassId × ClassId) (q : Nat → Nat) (I : Nat → Int32) (R : Nat → Nat → Int32) (k : Nat) (hk : k < 2) (f : Nat → Int32) : (cW y yS q I R).set (28 + 19 * k) (q (144 + 100 * k), .inl (y, 4, .inl f)) = cW y yS q I (fun j => if j = (144 + 100 * k) then f else R j) := match k, hk with
  | 0, _ => rfl
  | 1, _ => rfl
  | k + 2, h => absurd h (by omega)
theorem cat_a145 (y : ClassId) (yS : ClassId × ClassId) (q : Nat → Nat) (I : Nat → Int32) (R : Nat → Nat → Int32) (k : Nat) (hk : k < 2) : (cW y yS q I R)[29 + 19 * k]? = some (q (145 + 100 * k), .inl (y, 64, .inl (R (145 + 100 * k)))) := match k, hk with
  | 0, _ => rfl
  | 1, _ => rfl
  | k + 2, h => absurd h (by omega)
theorem cset_a145 (y : ClassId) (yS : ClassId × ClassId) (q : Nat → Nat) (I : Nat → Int32) (R : Nat → Nat → Int32) (k : Nat) (hk : k < 2) (f : Nat → Int32) : (cW y yS q I R).set (29 + 19 * k) (q (145 + 100 * k), .inl (y, 64, .inl f)) = cW y yS q I (fun j => if j = (145 + 100 * k) then f else R j) := match k, hk with
  | 0, _ => rfl
  | 1, _ => rfl
  | k + 2, h => absurd h (by omega)
theorem cat_a154 (y : ClassId) (yS : ClassId × ClassId) (q : Nat → Nat) (I : Nat → Int32) (R : Nat → Nat → Int32) (k : Nat) (hk : k < 2) : (cW y yS q I R)[31 + 19 * k]? = some (q (154 + 100 * k), .inl (yS.2, 64, .inr (.inl (rowL (R ((154 + 100 * k) + 4)) (R (154 + 100 * k)))))) := match k, hk with
  | 0, _ => rfl
  | 1, _ => rfl
  | k + 2, h => absurd h (by omega)
theorem cset0_a154 (y : ClassId) (yS : ClassId × ClassId) (q : Nat → Nat) (I : Nat → Int32) (R : Nat → Nat → Int32) (k : Nat) (hk : k < 2) (a b : Nat → Int32) : (cW y yS q I R).set (31 + 19 * k) (q (154 + 100 * k), .inl (yS.2, 64, .inr (.inl (rowL b a)))) = cW y yS q I (fun j => if j = ((154 + 100 * k) + 4) then b else if j = (154 + 100 * k) then a else R j) := match k, hk with
  | 0, _ => rfl
  | 1, _ => rfl
  | k + 2, h => absurd h (by omega)
theorem cset_a154 (y : ClassId) (yS : ClassId × ClassId) (q : Nat → Nat) (I : Nat → Int32) (R : Nat → Nat → Int32) (k : Nat) (hk : k < 2) {i : Int32} {x : Int64} : (cW y yS q I R).set (31 + 19 * k) (q (154 + 100 * k), .inl (yS.2, 64, .inr (.inl (vp_updL (rowL (R ((154 + 100 * k) + 4)) (R (154 + 100 * k))) i.toNatClampNeg x)))) = cW y yS q I (setL R (154 + 100 * k) i x) := by
  rw [vp_updL_row, cset0_a154 y yS q I R k hk, setL_row]
theorem cat_a155 (y : ClassId) (yS : ClassId × ClassId) (q : Nat → Nat) (I : Nat → Int32) (R : Nat → Nat → Int32) (k : Nat) (hk : k < 2) : (cW y yS q I R)[32 + 19 * k]? = some (q (155 + 100 * k), .inl (y, 64, .inl (R (155 + 100 * k)))) := match k, hk with
  | 0, _ => rfl
  | 1, _ => rfl
  | k + 2, h => absurd h (by omega)
theorem cset_a155 (y : ClassId) (yS : ClassId × ClassId) (q : Nat → Nat) (I : Nat → Int32) (R : Nat → Nat → Int32) (k : Nat) (hk : k < 2) (f : Nat → Int32) : (cW y yS q I R).set (32 + 19 * k) (q (155 + 100 * k), .inl (y, 64, .inl f)) = cW y yS q I (fun j => if j = (155 + 100 * k) then f else R j) := match k, hk with
  | 0, _ => rfl
  | 1, _ => rfl
  | k + 2, h => absurd h (by omega)
theorem cat_a1001 (y : ClassId) (yS : ClassId × ClassId) (q : Nat → Nat) (I : Nat → Int32) (R : Nat → Nat → Int32) (k : Nat) (hk : k < 4) : (cW y yS q I R)[7 + 2 * k]? = some (q (1001 + 10 * k), .inl (y, 60, .inl (R (1001 + 10 * k)))) := match k, hk with
  | 0, _ => rfl
  | 1, _ => rfl
  | 2, _ => rfl
  | 3, _ => rfl
  | k + 4, h => absurd h (by omega)
theorem cset_a1001 (y : ClassId) (yS : ClassId × ClassId) (q : Nat → Nat) (I : Nat → Int32) (R : Nat → Nat → Int32) (k : Nat) (hk : k < 4) (f : Nat → Int32) : (cW y yS q I R).set (7 + 2 * k) (q (1001 + 10 * k), .inl (y, 60, .inl f)) = cW y yS q I (fun j => if j = (1001 + 10 * k) then f else R j) := match k, hk with
  | 0, _ => rfl
  | 1, _ => rfl
  | 2, _ => rfl
  | 3, _ => rfl
  | k + 4, h => absurd h (by omega)
theorem cat_shs (y : ClassId) (yS : ClassId × ClassId) (q : Nat → Nat) (I : Nat → Int32) (R : Nat → Nat → Int32) : (cW y yS q I R)[1]? = some (q 1, .inl (yS.1, 4, .inr (.inr (.inr (.inr (shF q)))))) := rfl
theorem inb_lt {i : Int32} {n : Nat} (h : inb i n = true) : i.toNatClampNeg < n := Nat.not_le.mp fun q => inb_in h (Or.inr q)
theorem isB_f {i : Int32} (h : isB i = true) : fits .boolean (.int i) = true := by
  have h1 : i = 0 ∨ i = 1 := of_decide_eq_true h
  rcases h1 with rfl | rfl <;> rfl
def cN (s : State) : Prop := va_Nw (.methodLinkNest RX0 89 yX7_turnedAbout RX7) s ∧ va_Nw (.methodLinkNest RX3 86 yX7_turnedAbout RX7) s ∧ va_Nw (.methodLinkNest RX3 89 yX7_rowOf RX7) s ∧ va_Nw (.methodLinkNest RX6 78 yX7_rowOf RX7) s
theorem cN.same {u U : State} (h : u.vm = U.vm) (c : cN u) : cN U := ⟨va_Nw.same rfl h c.1, va_Nw.same rfl h c.2.1, va_Nw.same rfl h c.2.2.1, va_Nw.same rfl h c.2.2.2⟩
theorem cN.warm {s U : State} (h : s.WarmedH U.vm) (c : cN s) : cN U := ⟨va_Nw.warmM h c.1, va_Nw.warmM h c.2.1, va_Nw.warmM h c.2.2.1, va_Nw.warmM h c.2.2.2⟩
def cS (y : ClassId) (yS : ClassId × ClassId) (q : Nat → Nat) (sz : Nat) : Nat → Prop := va_A (cW y yS q (fun _ => 0) (fun _ _ => 0)) sz
theorem cS_D {y : ClassId} {yS : ClassId × ClassId} {q : Nat → Nat} {sz : Nat} {A : Nat → Prop} {I : Nat → Int32} {R : Nat → Nat → Int32} (hD : va_D A (cW y yS q I R)) : va_D (cS y yS q sz) (cW y yS q I R) := by
  refine ⟨hD.1, fun k x hk => Or.inl ?_⟩
  have e1 : (cW y yS q I R).map Prod.fst = (cW y yS q (fun _ => 0) (fun _ _ => 0)).map Prod.fst := (cW_fst y yS q I R).trans (cW_fst y yS q _ _).symm
  have e2 : ((cW y yS q I R).map Prod.fst)[k]? = some x.1 := by rw [List.getElem?_map, hk]; rfl
  rw [e1, List.getElem?_map] at e2
  obtain ⟨z, hz, hz2⟩ := Option.map_eq_some_iff.mp e2
  exact ⟨k, z.2, by rw [hz, ← hz2]⟩
theorem cS_le {y : ClassId} {yS : ClassId × ClassId} {q : Nat → Nat} {a b x : Nat} (hab : a ≤ b) (hx : cS y yS q b x) : cS y yS q a x := by
  rcases hx with h1 | h1
  · exact Or.inl h1
  · exact Or.inr (Nat.le_trans hab h1)
abbrev cTy (y : ClassId) (yS : ClassId × ClassId) : List (ClassId × FieldType) := [(y, .int), (yS.2, .long), (yS.1, .object RX4)]
def cX (p : Program) (s : State) (m : MethodId) (args : Array Value) (c : Code) (cc : ByteArray) (nL : Nat) (Ts : List Cond) (own : String) (D : va_G) (y : ClassId) (yS : ClassId × ClassId) : Prop := CallFix p m c cc nL s args Ts own ∧ va_K D vwCl (cTy y yS) s ∧ cN s
def cH (s : State) (D : va_G) (y : ClassId) (yS : ClassId × ClassId) (q : Nat → Nat) (H : Heap) (locs : List Loc) (I : Nat → Int32) (R : Nat → Nat → Int32) : Prop := va_P D vwCl (cW y yS q I R) H ∧ va_D (cS y yS q s.heap.size) (cW y yS q I R) ∧ va_S (cS y yS q s.heap.size) s.heap H locs
def cPre (D : va_G) (y : ClassId) (yS : ClassId × ClassId) (q : Nat → Nat) (sz : Nat) (I : Nat → Int32) (R : Nat → Nat → Int32) : State → Prop := fun U => U.heap.size = sz ∧ va_P D vwCl (cW y yS q I R) U.heap ∧ va_K D vwCl (cTy y yS) U ∧ cN U ∧ va_D (fun _ => True) (cW y yS q I R)
def cB (D : va_G) (y : ClassId) (yS : ClassId × ClassId) (q : Nat → Nat) (A : Nat → Prop) (u : mSt) (t : State) : Prop := va_P D vwCl (cW y yS q u.1 u.2) t.heap ∧ va_K D vwCl (cTy y yS) t ∧ va_D A (cW y yS q u.1 u.2)
def cQi (D : va_G) (y : ClassId) (yS : ClassId × ClassId) (q : Nat → Nat) (A : Nat → Prop) (z : Int32 × mSt) : Array Value → State → Outcome → State → Prop := va_Qi (fun (x : Int32) (u : mSt) => (x, u) = z) (cB D y yS q A) A
def cQl (D : va_G) (y : ClassId) (yS : ClassId × ClassId) (q : Nat → Nat) (A : Nat → Prop) (z : Int64 × mSt) : Array Value → State → Outcome → State → Prop := va_Ql (fun (x : Int64) (u : mSt) => (x, u) = z) (cB D y yS q A) A
def cQv (D : va_G) (y : ClassId) (yS : ClassId × ClassId) (q : Nat → Nat) (A : Nat → Prop) (z : mSt) : Array Value → State → Outcome → State → Prop := va_Qv (fun (u : mSt) => u = z) (cB D y yS q A) A
/-- a row of the class's world is copied into another -/
def cpA (R : Nat → Nat → Int32) (a b : Nat) (sp dp n : Int32) : Nat → Nat → Int32 := fun j => if j = b then va_cpy (R a) (R b) sp.toNatClampNeg dp.toNatClampNeg n.toNatClampNeg else R j
def cpOk (n0 n1 : Nat) (sp dp n : Int32) : Bool := decide (¬ sp < 0 ∧ ¬ dp < 0 ∧ ¬ n < 0 ∧ sp.toNatClampNeg + n.toNatClampNeg ≤ n0 ∧ dp.toNatClampNeg + n.toNatClampNeg ≤ n1)
/-- a row is filled -/
def flA (R : Nat → Nat → Int32) (a len : Nat) (v : Int32) : Nat → Nat → Int32 := fun j => if j = a then (fun i => if i < len then v else R a i) else R j
section CL
variable {p : Program} {l : Launch} {e : Env} {R0 : Room} {s : State} {m : MethodId} {args : Array Value} {below : List Frame} {meth : Method} {c : Code} {H : Heap} {locs : List Loc} {cells slots : Nat} {Q : State → Prop}
variable {cc : ByteArray} {pc nL : Nat} {ls : Array Slot} {rest : List Value} {D : va_G} {y : ClassId} {yS : ClassId × ClassId} {q : Nat → Nat} {I : Nat → Int32} {R : Nat → Nat → Int32} {Ts : List Cond} {own : String}
theorem c_get (X : cX p s m args c cc nL Ts own D y yS) (w : cH s D y yS q H locs I R) {pos a ci N : Nat} {fs : List Value} {C : String} {T : u_T} (he : (cW y yS q I R)[pos]? = some (a, .inr (ci, fs))) (hc : vwCl[ci]? = some (C, T, N)) (hin : ∀ w ∈ u_ws C T N, w ∈ Ts) (k : Nat) (hk : k < N) {index : Nat} {v : Value} (hf : (T k).1 = C) (hl : Cond.fieldLink own index C (T k).2.1 (T k).2.2.1 ∈ Ts) (hv : fs[k]? = some v) (hdg : decode cc pc = .ok (.getfield index, 3))
    (kk : W p l e R0 s m args below meth c H locs cells slots Q (F0 m (pc + 3) ls (v :: rest))) : W p l e R0 s m args below meth c H locs cells slots Q (F0 m pc ls (.ref a :: rest)) :=
  va_get X.1.1 X.1.2.1 X.1.2.2.2.2 hin X.1.2.2.2.1 X.2.1 w.1 pos he hc k hk (X.1.2.2.2.2 _ hl) (fun x hx => by rw [hf] at hx; exact hx) hv hdg kk
theorem c_put (X : cX p s m args c cc nL Ts own D y yS) (w : cH s D y yS q H locs I R) {pos a ci N : Nat} {fs : List Value} {C : String} {T : u_T} (he : (cW y yS q I R)[pos]? = some (a, .inr (ci, fs))) (hc : vwCl[ci]? = some (C, T, N)) (hin : ∀ w ∈ u_ws C T N, w ∈ Ts) (ty0 : Nat → FieldType) (hty : ∀ k, k < N → parseFieldDescriptor (T k).2.2.1 = some (ty0 k)) (hnm : ∀ a, a < N → ∀ b, b < N → a ≠ b → (T a).2.1 ≠ (T b).2.1) (k : Nat) (hk : k < N) {index : Nat} {v : Int32} {ty : FieldType} {I2 : Nat → Int32} (hf : (T k).1 = C) (hl : Cond.fieldLink own index C (T k).2.1 (T k).2.2.1 ∈ Ts) (hfin : (T k).2.2.2 = false) (hd : parseFieldDescriptor (T k).2.2.1 = some ty) (hn : narrow ty (.int v) = .int v) (hfit : fits ty (.int v) = true) (hlen : k < fs.length) (hset : (cW y yS q I R).set pos (a, .inr (ci, fs.set k (.int v))) = cW y yS q I2 R) (hdg : decode cc pc = .ok (.putfield index, 3))
    (kk : ∀ (H1 : Heap) (locs1 : List Loc), cH s D y yS q H1 locs1 I2 R → W p l e R0 s m args below meth c H1 locs1 cells slots Q (F0 m (pc + 3) ls rest)) : W p l e R0 s m args below meth c H locs cells slots Q (F0 m pc ls (.int v :: .ref a :: rest)) :=
  va_put X.1.1 X.1.2.1 X.1.2.2.2.2 hin ty0 hty hnm X.1.2.2.2.1 X.2.1 w.1 w.2.1 w.2.2 pos he hc k hk (X.1.2.2.2.2 _ hl) (fun x hx => by rw [hf] at hx; exact hx) hfin hd hn hfit hlen hdg (fun H1 locs1 hP hD hS => kk H1 locs1 ⟨by rw [hset] at hP; exact hP, by rw [hset] at hD; exact hD, hS⟩)
theorem c_ald (X : cX p s m args c cc nL Ts own D y yS) (w : cH s D y yS q H locs I R) {pos k n : Nat} (ha : (cW y yS q I R)[pos]? = some (q k, .inl (y, n, .inl (R k)))) {i : Int32} (hin : inb i n = true) (hdg : decode cc pc = .ok (.iaload, 1))
    (kk : W p l e R0 s m args below meth c H locs cells slots Q (F0 m (pc + 1) ls (.int (getA R k i) :: rest))) : W p l e R0 s m args below meth c H locs cells slots Q (F0 m pc ls (.int i :: .ref (q k) :: rest)) :=
  va_iald X.1.1 X.1.2.1 X.2.1 w.1 pos 0 ha rfl (inb_in hin) hdg kk
theorem c_ast (X : cX p s m args c cc nL Ts own D y yS) (w : cH s D y yS q H locs I R) {pos k n : Nat} (ha : (cW y yS q I R)[pos]? = some (q k, .inl (y, n, .inl (R k)))) (hset : ∀ f : Nat → Int32, (cW y yS q I R).set pos (q k, .inl (y, n, .inl f)) = cW y yS q I (fun j => if j = k then f else R j)) {i x : Int32} (hin : inb i n = true) (hdg : decode cc pc = .ok (.iastore, 1))
    (kk : ∀ (H1 : Heap) (locs1 : List Loc), cH s D y yS q H1 locs1 I (setA R k i x) → W p l e R0 s m args below meth c H1 locs1 cells slots Q (F0 m (pc + 1) ls rest)) : W p l e R0 s m args below meth c H locs cells slots Q (F0 m pc ls (.int x :: .int i :: .ref (q k) :: rest)) :=
  va_iast X.1.1 X.1.2.1 X.2.1 w.1 w.2.1 w.2.2 pos 0 ha rfl (inb_in hin) hdg (fun H1 locs1 hP hD hS => kk H1 locs1 ⟨by rw [hset] at hP; exact hP, by rw [hset] at hD; exact hD, hS⟩)
theorem lv_lcmp {p : Program} {l : Launch} {e : Env} {R0 : Room} {s : State} {m : MethodId} {args : Array Value} {below : List Frame} {meth : Method} {c : Code} {H : Heap} {locs : List Loc} {cells slots : Nat} {Q : State → Prop} {cc : ByteArray} {pc : Nat} {ls : Array Slot} {rest : List Value} (hexec : p.tables.exec = Jvm.exec) (hb : c.code = cc) {x y : Int64} (hdg : decode cc pc = .ok (.lcmp, 1))
    (k : W p l e R0 s m args below meth c H locs cells slots Q (F0 m (pc + 1) ls (.int (lcmpI x y) :: rest))) : W p l e R0 s m args below meth c H locs cells slots Q (F0 m pc ls (.long y :: .long x :: rest)) := by
  intro T hT X
  obtain ⟨t, a, b⟩ := k T hT X
  refine ⟨t, ?_, b⟩
  jvm_step X.here [X.here.top, hexec, hb, hdg]
  unfold lcmpI at a
  by_cases h1 : x > y
  · simp only [h1, if_true] at a ⊢; exact a
  · by_cases h2 : x = y
    · simp [h2] at a ⊢; exact a
    · simp [h1, h2] at a ⊢; exact a
theorem c_lald (X : cX p s m args c cc nL Ts own D y yS) (w : cH s D y yS q H locs I R) {pos k n : Nat} (ha : (cW y yS q I R)[pos]? = some (q k, .inl (yS.2, n, .inr (.inl (rowL (R (k + 4)) (R k)))))) {i : Int32} (hin : inb i n = true) (hdg : decode cc pc = .ok (.laload, 1))
    (kk : W p l e R0 s m args below meth c H locs cells slots Q (F0 m (pc + 1) ls (.long (getL R k i) :: rest))) : W p l e R0 s m args below meth c H locs cells slots Q (F0 m pc ls (.int i :: .ref (q k) :: rest)) :=
  va_lald X.1.1 X.1.2.1 X.2.1 w.1 pos 1 ha rfl (inb_in hin) hdg (by rw [rowL_at]; exact kk)
theorem c_last (X : cX p s m args c cc nL Ts own D y yS) (w : cH s D y yS q H locs I R) {pos k n : Nat} (ha : (cW y yS q I R)[pos]? = some (q k, .inl (yS.2, n, .inr (.inl (rowL (R (k + 4)) (R k)))))) {i : Int32} {x : Int64} (hset : (cW y yS q I R).set pos (q k, .inl (yS.2, n, .inr (.inl (vp_updL (rowL (R (k + 4)) (R k)) i.toNatClampNeg x)))) = cW y yS q I (setL R k i x)) (hin : inb i n = true) (hdg : decode cc pc = .ok (.lastore, 1))
    (kk : ∀ (H1 : Heap) (locs1 : List Loc), cH s D y yS q H1 locs1 I (setL R k i x) → W p l e R0 s m args below meth c H1 locs1 cells slots Q (F0 m (pc + 1) ls rest)) : W p l e R0 s m args below meth c H locs cells slots Q (F0 m pc ls (.long x :: .int i :: .ref (q k) :: rest)) :=
  va_last X.1.1 X.1.2.1 X.2.1 w.1 w.2.1 w.2.2 pos 1 ha rfl (inb_in hin) hdg (fun H1 locs1 hP hD hS => kk H1 locs1 ⟨by rw [hset] at hP; exact hP, by rw [hset] at hD; exact hD, hS⟩)
theorem c_shs (X : cX p s m args c cc nL Ts own D y yS) (w : cH s D y yS q H locs I R) {i : Int32} (hin : inb i 4 = true) (hdg : decode cc pc = .ok (.aaload, 1))
    (kk : W p l e R0 s m args below meth c H locs cells slots Q (F0 m (pc + 1) ls (.ref (q (1000 + 10 * i.toNatClampNeg)) :: rest))) : W p l e R0 s m args below meth c H locs cells slots Q (F0 m pc ls (.int i :: .ref (q 1) :: rest)) :=
  va_aldq X.1.1 X.1.2.1 X.2.1 w.1 1 2 (cat_shs y yS q I R) rfl (inb_in hin) hdg kk
theorem c_copy (X : cX p s m args c cc nL Ts own D y yS) (w : cH s D y yS q H locs I R) (hls : ls.size = nL) {index pos0 pos1 k0 k1 n0 n1 : Nat} (hl : Cond.methodLink own index arraycopyName ∈ Ts ∧ Cond.native arraycopyName ∈ Ts ∧ Cond.static arraycopyName ∈ Ts ∧ Cond.initialized "java/lang/System" ∈ Ts) (h0 : (cW y yS q I R)[pos0]? = some (q k0, .inl (y, n0, .inl (R k0)))) (h1 : (cW y yS q I R)[pos1]? = some (q k1, .inl (y, n1, .inl (R k1)))) (hset : ∀ f : Nat → Int32, (cW y yS q I R).set pos1 (q k1, .inl (y, n1, .inl f)) = cW y yS q I (fun j => if j = k1 then f else R j)) {sp dp n : Int32} (hok : cpOk n0 n1 sp dp n = true) (hfr : 1 ≤ R0.frames) (hlo : (rest.map fun v => v.category).sum + (nativeFrameWords "java/lang/System" "arraycopy" 5 + 11) ≤ R0.locals) (hdg : decode cc pc = .ok (.invokestatic index, 3))
    (kk : ∀ (H1 : Heap) (locs1 : List Loc), cH s D y yS q H1 locs1 I (cpA R k0 k1 sp dp n) → W p l e R0 s m args below meth c H1 locs1 cells slots Q (F0 m (pc + 3) ls rest)) : W p l e R0 s m args below meth c H locs cells slots Q (F0 m pc ls (.int n :: .int dp :: .ref (q k1) :: .int sp :: .ref (q k0) :: rest)) := by
  have ho : ¬ sp < 0 ∧ ¬ dp < 0 ∧ ¬ n < 0 ∧ sp.toNatClampNeg + n.toNatClampNeg ≤ n0 ∧ dp.toNatClampNeg + n.toNatClampNeg ≤ n1 := of_decide_eq_true hok
  exact va_copyi X.1.1 X.1.2.1 (X.1.2.2.1.trans hls.symm) X.1.2.2.2.1 (X.1.2.2.2.2 _ hl.1) (X.1.2.2.2.2 _ hl.2.1) (X.1.2.2.2.2 _ hl.2.2.1) (X.1.2.2.2.2 _ hl.2.2.2) X.2.1 w.1 w.2.1 w.2.2 pos0 pos1 0 0 (ty := .int) h0 h1 rfl rfl rfl ho.1 ho.2.1 ho.2.2.1 ho.2.2.2.1 ho.2.2.2.2 (fun _ _ => rfl) hfr hlo hdg (fun H1 locs1 hP hD hS => kk H1 locs1 ⟨by rw [hset] at hP; exact hP, by rw [hset] at hD; exact hD, hS⟩)
theorem c_iret (X : cX p s m args c cc nL Ts own D y yS) (w : cH s D y yS q H locs I R) {v : Int32} (hr : meth.sig.returnType = some .int ∧ meth.locks = false) (hdg : decode cc pc = .ok (.ireturn, 1)) :
    W p l e R0 s m args below meth c H locs 0 0 (MQ below (cQi D y yS q (cS y yS q s.heap.size) (v, I, R)) args s 0 0 (cS y yS q s.heap.size)) (F0 m pc ls [.int v]) :=
  W.iret X.1.1 X.1.2.1 hr.1 (fun t ht hW => ⟨⟨v, (I, R), rfl, rfl, by rw [ht]; exact w.1, va_K.moved hW.alike X.2.1, w.2.1⟩, w.2.2.F ht⟩) w.2.2.2.2 hdg hr.2
theorem c_zret (X : cX p s m args c cc nL Ts own D y yS) (w : cH s D y yS q H locs I R) {v : Int32} (hr : meth.sig.returnType = some .boolean ∧ meth.locks = false) (hn : isB v = true) (hdg : decode cc pc = .ok (.ireturn, 1)) :
    W p l e R0 s m args below meth c H locs 0 0 (MQ below (cQi D y yS q (cS y yS q s.heap.size) (v, I, R)) args s 0 0 (cS y yS q s.heap.size)) (F0 m pc ls [.int v]) :=
  W.zret X.1.1 X.1.2.1 hr.1 (isB_n hn) (fun t ht hW => ⟨⟨v, (I, R), rfl, rfl, by rw [ht]; exact w.1, va_K.moved hW.alike X.2.1, w.2.1⟩, w.2.2.F ht⟩) w.2.2.2.2 hdg hr.2
theorem c_lret (X : cX p s m args c cc nL Ts own D y yS) (w : cH s D y yS q H locs I R) {v : Int64} (hr : meth.sig.returnType = some .long ∧ meth.locks = false) (hdg : decode cc pc = .ok (.lreturn, 1)) :
    W p l e R0 s m args below meth c H locs 0 0 (MQ below (cQl D y yS q (cS y yS q s.heap.size) (v, I, R)) args s 0 0 (cS y yS q s.heap.size)) (F0 m pc ls [.long v]) :=
  W.lret X.1.1 X.1.2.1 hr.1 (fun t ht hW => ⟨⟨v, (I, R), rfl, rfl, by rw [ht]; exact w.1, va_K.moved hW.alike X.2.1, w.2.1⟩, w.2.2.F ht⟩) w.2.2.2.2 hdg hr.2
theorem c_vret (X : cX p s m args c cc nL Ts own D y yS) (w : cH s D y yS q H locs I R) (hr : meth.sig.returnType = none ∧ meth.locks = false) (hdg : decode cc pc = .ok (.return_, 1)) :
    W p l e R0 s m args below meth c H locs 0 0 (MQ below (cQv D y yS q (cS y yS q s.heap.size) (I, R)) args s 0 0 (cS y yS q s.heap.size)) (F0 m pc ls []) :=
  W.vret X.1.1 X.1.2.1 hr.1 (fun t ht hW => ⟨⟨(I, R), rfl, rfl, by rw [ht]; exact w.1, va_K.moved hW.alike X.2.1, w.2.1⟩, w.2.2.F ht⟩) w.2.2.2.2 hdg hr.2
theorem c_rec (X : cX p s m args c cc nL Ts own D y yS) (w : cH s D y yS q H locs I R) {pos a ci N : Nat} {fs : List Value} {C : String} {T : u_T} (he : (cW y yS q I R)[pos]? = some (a, .inr (ci, fs))) (hc : vwCl[ci]? = some (C, T, N)) : ∃ cell : Cell, H[a]? = some cell ∧ cell.vm.isStatics = false ∧ s.vm.findClass C = some cell.cls := va_recv X.2.1 w.1 hc he
theorem c_pre (X : cX p s m args c cc nL Ts own D y yS) (w : cH s D y yS q H locs I R) (As : List Value) : FrameBlind (va_Pc As (cPre D y yS q H.size I R)) ∧ ∀ U : State, U.heap = H → s.WarmedH U.vm → va_Pc As (cPre D y yS q H.size I R) As.toArray U :=
  ⟨fun a U g mk z => ⟨z.1, z.2.1, z.2.2.1, va_K.moved (u := U) (U := U.calling g mk a) (Vm.Alike.refl U.vm) z.2.2.2.1, cN.same rfl z.2.2.2.2.1, z.2.2.2.2.2⟩, fun U hU hW => ⟨rfl, by rw [hU], by rw [hU]; exact w.1, va_K.moved hW.alike X.2.1, cN.warm hW X.2.2, w.2.1.weaken (fun _ _ _ _ => trivial)⟩⟩
theorem c_back (w : cH s D y yS q H locs I R) {u : mSt} {t : State} {H1 : Heap} {locs1 : List Loc} (ht : t.heap = H1) (hB : cB D y yS q (cS y yS q H.size) u t) (hS : va_S (cS y yS q s.heap.size) s.heap H1 locs1) : cH s D y yS q H1 locs1 u.1 u.2 :=
  ⟨by rw [← ht]; exact hB.1, cS_D hB.2.2, hS⟩
theorem c_calli (X : cX p s m args c cc nL Ts own D y yS) (w : cH s D y yS q H locs I R) {C : String} {b : Nat} (hrec : ∃ cell : Cell, H[b]? = some cell ∧ cell.vm.isStatics = false ∧ s.vm.findClass C = some cell.cls) {yy : MethodName} {wsy ws' : List Cond} {bytes : ByteArray} {maxL index n : Nat} {ret : Option FieldType} {rm : Room} {As st0 : List Value} {z : Int32 × mSt}
    (hM : Met l yy wsy rm (va_Pc (.ref b :: As) (cPre D y yS q H.size I R)) (cQi D y yS q (cS y yS q H.size) z) 0 0 (cS y yS q H.size))
    (hG : GoodIn Ts (wsV own index C yy wsy)) (hw : wsy = Cond.code yy bytes maxL ret :: ws') (hc : rm.cells = 0) (hs : rm.slots = 0) (hd : yy.cls = C ∧ yy.cls ≠ "java/lang/invoke/MethodHandle" ∧ yy.cls ≠ "java/lang/invoke/VarHandle" ∧ (parseMethodDescriptor yy.desc).map (fun d => d.parameters.length) = some n)
    (hR : rm.frames + 1 ≤ R0.frames ∧ 8 + (maxL + 11) + rm.locals ≤ R0.locals) (hn : As.length = n) (hls : ls.size = nL) (hst : st0 = As.reverse ++ .ref b :: rest) (hro : (rest.map fun v => v.category).sum ≤ 8) (hdg : decode cc pc = .ok (.invokevirtual index, 3))
    (kk : ∀ (H1 : Heap) (locs1 : List Loc), cH s D y yS q H1 locs1 z.2.1 z.2.2 → W p l e R0 s m args below meth c H1 locs1 0 0 Q (F0 m (pc + 3) ls (.int z.1 :: rest))) : W p l e R0 s m args below meth c H locs 0 0 Q (F0 m pc ls st0) := by
  refine va_calli (va_runV (As := As) (rest := rest) X.1 hM (cwV n X.1.2.2.2.2 hG hw hc hs hd hR) ⟨(c_pre X w (.ref b :: As)).1, hrec, (c_pre X w (.ref b :: As)).2⟩ rfl hn hls hst (lv_room hro) hdg ⟨Nat.zero_le _, Nat.zero_le _⟩) w.2.2 (fun x _ hx => cS_le w.2.2.1 hx) (fun x hx => cS_le w.2.2.1 hx) (fun r u t H1 locs1 ht hvm hw2 hB hz hk hS => ?_)
  cases hw2
  exact kk H1 locs1 (c_back w ht hB hS)
theorem c_callwi (X : cX p s m args c cc nL Ts own D y yS) (w : cH s D y yS q H locs I R) {yy : MethodName} {wsy ws' : List Cond} {bytes : ByteArray} {maxL index n : Nat} {ret : Option FieldType} {rm : Room} {As st0 : List Value} {z : Int32 × mSt}
    (hM : Met l yy wsy rm (va_Pc As (cPre D y yS q H.size I R)) (cQi D y yS q (cS y yS q H.size) z) 0 0 (cS y yS q H.size))
    (hG : GoodIn Ts (va_wsS own index yy wsy)) (hw : wsy = Cond.code yy bytes maxL ret :: ws') (hc : rm.cells = 0) (hs : rm.slots = 0) (hd : yy.cls ≠ "java/lang/invoke/MethodHandle" ∧ yy.cls ≠ "java/lang/invoke/VarHandle" ∧ (parseMethodDescriptor yy.desc).map (fun d => d.parameters.length) = some n)
    (hR : rm.frames + 1 ≤ R0.frames ∧ 8 + (maxL + 11) + rm.locals ≤ R0.locals) (hn : As.length = n) (hls : ls.size = nL) (hst : st0 = As.reverse ++ rest) (hro : (rest.map fun v => v.category).sum ≤ 8) (hdg : decode cc pc = .ok (.invokestatic index, 3))
    (kk : ∀ (H1 : Heap) (locs1 : List Loc), cH s D y yS q H1 locs1 z.2.1 z.2.2 → W p l e R0 s m args below meth c H1 locs1 0 0 Q (F0 m (pc + 3) ls (.int z.1 :: rest))) : W p l e R0 s m args below meth c H locs 0 0 Q (F0 m pc ls st0) := by
  refine va_calli (va_runS (As := As) (rest := rest) X.1 hM (va_cwS n X.1.2.2.2.2 hG hw hc hs hd hR) (c_pre X w As) rfl hn hls hst (lv_room hro) hdg ⟨Nat.zero_le _, Nat.zero_le _⟩) w.2.2 (fun x _ hx => cS_le w.2.2.1 hx) (fun x hx => cS_le w.2.2.1 hx) (fun r u t H1 locs1 ht hvm hw2 hB hz hk hS => ?_)
  cases hw2
  exact kk H1 locs1 (c_back w ht hB hS)
theorem c_calll (X : cX p s m args c cc nL Ts own D y yS) (w : cH s D y yS q H locs I R) {C : String} {b : Nat} (hrec : ∃ cell : Cell, H[b]? = some cell ∧ cell.vm.isStatics = false ∧ s.vm.findClass C = some cell.cls) {yy : MethodName} {wsy ws' : List Cond} {bytes : ByteArray} {maxL index n : Nat} {ret : Option FieldType} {rm : Room} {As st0 : List Value} {z : Int64 × mSt}
    (hM : Met l yy wsy rm (va_Pc (.ref b :: As) (cPre D y yS q H.size I R)) (cQl D y yS q (cS y yS q H.size) z) 0 0 (cS y yS q H.size))
    (hG : GoodIn Ts (wsV own index C yy wsy)) (hw : wsy = Cond.code yy bytes maxL ret :: ws') (hc : rm.cells = 0) (hs : rm.slots = 0) (hd : yy.cls = C ∧ yy.cls ≠ "java/lang/invoke/MethodHandle" ∧ yy.cls ≠ "java/lang/invoke/VarHandle" ∧ (parseMethodDescriptor yy.desc).map (fun d => d.parameters.length) = some n)
    (hR : rm.frames + 1 ≤ R0.frames ∧ 8 + (maxL + 11) + rm.locals ≤ R0.locals) (hn : As.length = n) (hls : ls.size = nL) (hst : st0 = As.reverse ++ .ref b :: rest) (hro : (rest.map fun v => v.category).sum ≤ 8) (hdg : decode cc pc = .ok (.invokevirtual index, 3))
    (kk : ∀ (H1 : Heap) (locs1 : List Loc), cH s D y yS q H1 locs1 z.2.1 z.2.2 → W p l e R0 s m args below meth c H1 locs1 0 0 Q (F0 m (pc + 3) ls (.long z.1 :: rest))) : W p l e R0 s m args below meth c H locs 0 0 Q (F0 m pc ls st0) := by
  refine va_calll (va_runV (As := As) (rest := rest) X.1 hM (cwV n X.1.2.2.2.2 hG hw hc hs hd hR) ⟨(c_pre X w (.ref b :: As)).1, hrec, (c_pre X w (.ref b :: As)).2⟩ rfl hn hls hst (lv_room hro) hdg ⟨Nat.zero_le _, Nat.zero_le _⟩) w.2.2 (fun x _ hx => cS_le w.2.2.1 hx) (fun x hx => cS_le w.2.2.1 hx) (fun r u t H1 locs1 ht hvm hw2 hB hz hk hS => ?_)
  cases hw2
  exact kk H1 locs1 (c_back w ht hB hS)
theorem c_callwl (X : cX p s m args c cc nL Ts own D y yS) (w : cH s D y yS q H locs I R) {yy : MethodName} {wsy ws' : List Cond} {bytes : ByteArray} {maxL index n : Nat} {ret : Option FieldType} {rm : Room} {As st0 : List Value} {z : Int64 × mSt}
    (hM : Met l yy wsy rm (va_Pc As (cPre D y yS q H.size I R)) (cQl D y yS q (cS y yS q H.size) z) 0 0 (cS y yS q H.size))
    (hG : GoodIn Ts (va_wsS own index yy wsy)) (hw : wsy = Cond.code yy bytes maxL ret :: ws') (hc : rm.cells = 0) (hs : rm.slots = 0) (hd : yy.cls ≠ "java/lang/invoke/MethodHandle" ∧ yy.cls ≠ "java/lang/invoke/VarHandle" ∧ (parseMethodDescriptor yy.desc).map (fun d => d.parameters.length) = some n)
    (hR : rm.frames + 1 ≤ R0.frames ∧ 8 + (maxL + 11) + rm.locals ≤ R0.locals) (hn : As.length = n) (hls : ls.size = nL) (hst : st0 = As.reverse ++ rest) (hro : (rest.map fun v => v.category).sum ≤ 8) (hdg : decode cc pc = .ok (.invokestatic index, 3))
    (kk : ∀ (H1 : Heap) (locs1 : List Loc), cH s D y yS q H1 locs1 z.2.1 z.2.2 → W p l e R0 s m args below meth c H1 locs1 0 0 Q (F0 m (pc + 3) ls (.long z.1 :: rest))) : W p l e R0 s m args below meth c H locs 0 0 Q (F0 m pc ls st0) := by
  refine va_calll (va_runS (As := As) (rest := rest) X.1 hM (va_cwS n X.1.2.2.2.2 hG hw hc hs hd hR) (c_pre X w As) rfl hn hls hst (lv_room hro) hdg ⟨Nat.zero_le _, Nat.zero_le _⟩) w.2.2 (fun x _ hx => cS_le w.2.2.1 hx) (fun x hx => cS_le w.2.2.1 hx) (fun r u t H1 locs1 ht hvm hw2 hB hz hk hS => ?_)
  cases hw2
  exact kk H1 locs1 (c_back w ht hB hS)
theorem c_callv (X : cX p s m args c cc nL Ts own D y yS) (w : cH s D y yS q H locs I R) {C : String} {b : Nat} (hrec : ∃ cell : Cell, H[b]? = some cell ∧ cell.vm.isStatics = false ∧ s.vm.findClass C = some cell.cls) {yy : MethodName} {wsy ws' : List Cond} {bytes : ByteArray} {maxL index n : Nat} {ret : Option FieldType} {rm : Room} {As st0 : List Value} {z : mSt}
    (hM : Met l yy wsy rm (va_Pc (.ref b :: As) (cPre D y yS q H.size I R)) (cQv D y yS q (cS y yS q H.size) z) 0 0 (cS y yS q H.size))
    (hG : GoodIn Ts (wsV own index C yy wsy)) (hw : wsy = Cond.code yy bytes maxL ret :: ws') (hc : rm.cells = 0) (hs : rm.slots = 0) (hd : yy.cls = C ∧ yy.cls ≠ "java/lang/invoke/MethodHandle" ∧ yy.cls ≠ "java/lang/invoke/VarHandle" ∧ (parseMethodDescriptor yy.desc).map (fun d => d.parameters.length) = some n)
    (hR : rm.frames + 1 ≤ R0.frames ∧ 8 + (maxL + 11) + rm.locals ≤ R0.locals) (hn : As.length = n) (hls : ls.size = nL) (hst : st0 = As.reverse ++ .ref b :: rest) (hro : (rest.map fun v => v.category).sum ≤ 8) (hdg : decode cc pc = .ok (.invokevirtual index, 3))
    (kk : ∀ (H1 : Heap) (locs1 : List Loc), cH s D y yS q H1 locs1 z.1 z.2 → W p l e R0 s m args below meth c H1 locs1 0 0 Q (F0 m (pc + 3) ls rest)) : W p l e R0 s m args below meth c H locs 0 0 Q (F0 m pc ls st0) := by
  refine va_callv (va_runV (As := As) (rest := rest) X.1 hM (cwV n X.1.2.2.2.2 hG hw hc hs hd hR) ⟨(c_pre X w (.ref b :: As)).1, hrec, (c_pre X w (.ref b :: As)).2⟩ rfl hn hls hst (lv_room hro) hdg ⟨Nat.zero_le _, Nat.zero_le _⟩) w.2.2 (fun x _ hx => cS_le w.2.2.1 hx) (fun x hx => cS_le w.2.2.1 hx) (fun u t H1 locs1 ht hvm hw2 hB hz hk hS => ?_)
  cases hw2
  exact kk H1 locs1 (c_back w ht hB hS)
theorem c_callwv (X : cX p s m args c cc nL Ts own D y yS) (w : cH s D y yS q H locs I R) {yy : MethodName} {wsy ws' : List Cond} {bytes : ByteArray} {maxL index n : Nat} {ret : Option FieldType} {rm : Room} {As st0 : List Value} {z : mSt}
    (hM : Met l yy wsy rm (va_Pc As (cPre D y yS q H.size I R)) (cQv D y yS q (cS y yS q H.size) z) 0 0 (cS y yS q H.size))
    (hG : GoodIn Ts (va_wsS own index yy wsy)) (hw : wsy = Cond.code yy bytes maxL ret :: ws') (hc : rm.cells = 0) (hs : rm.slots = 0) (hd : yy.cls ≠ "java/lang/invoke/MethodHandle" ∧ yy.cls ≠ "java/lang/invoke/VarHandle" ∧ (parseMethodDescriptor yy.desc).map (fun d => d.parameters.length) = some n)
    (hR : rm.frames + 1 ≤ R0.frames ∧ 8 + (maxL + 11) + rm.locals ≤ R0.locals) (hn : As.length = n) (hls : ls.size = nL) (hst : st0 = As.reverse ++ rest) (hro : (rest.map fun v => v.category).sum ≤ 8) (hdg : decode cc pc = .ok (.invokestatic index, 3))
    (kk : ∀ (H1 : Heap) (locs1 : List Loc), cH s D y yS q H1 locs1 z.1 z.2 → W p l e R0 s m args below meth c H1 locs1 0 0 Q (F0 m (pc + 3) ls rest)) : W p l e R0 s m args below meth c H locs 0 0 Q (F0 m pc ls st0) := by
  refine va_callv (va_runS (As := As) (rest := rest) X.1 hM (va_cwS n X.1.2.2.2.2 hG hw hc hs hd hR) (c_pre X w As) rfl hn hls hst (lv_room hro) hdg ⟨Nat.zero_le _, Nat.zero_le _⟩) w.2.2 (fun x _ hx => cS_le w.2.2.1 hx) (fun x hx => cS_le w.2.2.1 hx) (fun u t H1 locs1 ht hvm hw2 hB hz hk hS => ?_)
  cases hw2
  exact kk H1 locs1 (c_back w ht hB hS)
theorem c_keep (w : cH s D y yS q H locs I R) {H1 : Heap} {locs1 : List Loc} (hk : ∀ x : Nat, x < H.size → ¬ False → H1[x]? = H[x]?) (hS : va_S (cS y yS q s.heap.size) s.heap H1 locs1) : cH s D y yS q H1 locs1 I R :=
  ⟨w.1.kept (fun k x hx => hk _ (w.1 k x hx).lt not_false), w.2.1, hS⟩
theorem c_callsi (X : cX p s m args c cc nL Ts own D y yS) (w : cH s D y yS q H locs I R) {yy : MethodName} {wsy ws' : List Cond} {bytes : ByteArray} {maxL index n : Nat} {ret : Option FieldType} {rm : Room} {As st0 : List Value} {z : Int32}
    (hM : Met l yy wsy rm (va_Pc As (fun U => cN U)) (sQi z) 0 0 (fun _ => False))
    (hG : GoodIn Ts (va_wsS own index yy wsy)) (hw : wsy = Cond.code yy bytes maxL ret :: ws') (hc : rm.cells = 0) (hs : rm.slots = 0) (hd : yy.cls ≠ "java/lang/invoke/MethodHandle" ∧ yy.cls ≠ "java/lang/invoke/VarHandle" ∧ (parseMethodDescriptor yy.desc).map (fun d => d.parameters.length) = some n)
    (hR : rm.frames + 1 ≤ R0.frames ∧ 8 + (maxL + 11) + rm.locals ≤ R0.locals) (hn : As.length = n) (hls : ls.size = nL) (hst : st0 = As.reverse ++ rest) (hro : (rest.map fun v => v.category).sum ≤ 8) (hdg : decode cc pc = .ok (.invokestatic index, 3))
    (kk : ∀ (H1 : Heap) (locs1 : List Loc), cH s D y yS q H1 locs1 I R → W p l e R0 s m args below meth c H1 locs1 0 0 Q (F0 m (pc + 3) ls (.int z :: rest))) : W p l e R0 s m args below meth c H locs 0 0 Q (F0 m pc ls st0) := by
  refine va_calli (va_runS (As := As) (rest := rest) X.1 hM (va_cwS n X.1.2.2.2.2 hG hw hc hs hd hR) ⟨fun a U g mk z => ⟨z.1, cN.same rfl z.2⟩, fun U hU hW => ⟨rfl, cN.warm hW X.2.2⟩⟩ rfl hn hls hst (lv_room hro) hdg ⟨Nat.zero_le _, Nat.zero_le _⟩) w.2.2 (fun x _ hx => hx.elim) (fun x hx => hx.elim) (fun r u t H1 locs1 ht hvm hw2 hB hz hk hS => ?_)
  cases hw2
  exact kk H1 locs1 (c_keep w hk hS)
/-- a nest mate's static method that touches no cell -/
theorem c_callni (X : cX p s m args c cc nL Ts own D y yS) (w : cH s D y yS q H locs I R) {yy : MethodName} {wsy ws' : List Cond} {bytes : ByteArray} {maxL index n : Nat} {ret : Option FieldType} {rm : Room} {As st0 : List Value} {z : Int32} {host : String}
    (hM : Met l yy wsy rm (va_Pc As (fun U => cN U)) (sQi z) 0 0 (fun _ => False))
    (hG : GoodIn Ts wsy) (hN : va_Nw (.methodLinkNest own index yy host) s) (hi : Cond.initialized yy.cls ∈ Ts) (ht : Cond.static yy ∈ Ts) (hw : wsy = Cond.code yy bytes maxL ret :: ws') (hc : rm.cells = 0) (hs : rm.slots = 0) (hd : yy.cls ≠ "java/lang/invoke/MethodHandle" ∧ yy.cls ≠ "java/lang/invoke/VarHandle" ∧ (parseMethodDescriptor yy.desc).map (fun d => d.parameters.length) = some n)
    (hR : rm.frames + 1 ≤ R0.frames ∧ 8 + (maxL + 11) + rm.locals ≤ R0.locals) (hn : As.length = n) (hls : ls.size = nL) (hst : st0 = As.reverse ++ rest) (hro : (rest.map fun v => v.category).sum ≤ 8) (hdg : decode cc pc = .ok (.invokestatic index, 3))
    (kk : ∀ (H1 : Heap) (locs1 : List Loc), cH s D y yS q H1 locs1 I R → W p l e R0 s m args below meth c H1 locs1 0 0 Q (F0 m (pc + 3) ls (.int z :: rest))) : W p l e R0 s m args below meth c H locs 0 0 Q (F0 m pc ls st0) := by
  refine va_calli (va_runSN (As := As) (rest := rest) (host := host) X.1 hM ⟨va_cnB n X.1.2.2.2.2 hG hw hc hs hN (X.1.2.2.2.2 _ hi) hd hR, X.1.2.2.2.2 _ ht, trivial⟩ ⟨fun a U g mk z => ⟨z.1, cN.same rfl z.2⟩, fun U hU hW => ⟨rfl, cN.warm hW X.2.2⟩⟩ rfl hn hls hst (lv_room hro) hdg ⟨Nat.zero_le _, Nat.zero_le _⟩) w.2.2 (fun x _ hx => hx.elim) (fun x hx => hx.elim) (fun r u t H1 locs1 ht hvm hw2 hB hz hk hS => ?_)
  cases hw2
  exact kk H1 locs1 (c_keep w hk hS)
end CL
