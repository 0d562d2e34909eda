/-! loop: numbers -/
def nn (w : Nat) : Nat := [6, 2, 2, 1, 1, 1, 3].getD w 0
def fr (w : Nat) : Nat := [0, 6, 8, 10, 11, 12, 13, 16].getD w 0
/-- what a number may be: from lo on, below hi -/
def lo (w i : Nat) : Nat := if w = 0 then (if i < 4 then 0 else 1) else if w = 5 then 1 else 0
def hi (w i n : Nat) : Nat := if w = 0 then (if i = 0 then 7 else if i = 1 then 10 else if i < 4 then 10000 else 100) else if w = 1 then (if i = 0 then n else 4) else if w = 2 then (if i = 0 then n else 2) else if w = 3 then 10000 else if w = 4 then 10 else if w = 5 then 100 else (if i = 0 then n else 10000)
theorem s33 : (3 : Int32) - 3 = 0 := rfl
theorem s43 : (4 : Int32) - 3 = 1 := rfl
theorem s53 : (5 : Int32) - 3 = 2 := rfl
theorem s11 : (1 : Int32) + 1 = 2 := rfl
theorem s21 : (2 : Int32) + 1 = 3 := rfl
theorem l24 : ((2 : Int32) < 4) = True := eq_true (by decide +kernel)
theorem l34 : ((3 : Int32) < 4) = True := eq_true (by decide +kernel)
theorem l44 : ((4 : Int32) < 4) = False := eq_false (by decide +kernel)
theorem l54 : ((5 : Int32) < 4) = False := eq_false (by decide +kernel)
theorem l22 : ((2 : Int32) ≤ 2) = True := eq_true (by decide +kernel)
theorem l23 : ((2 : Int32) ≤ 3) = True := eq_true (by decide +kernel)
theorem l00 : ((0 : Int32) < 0) = False := eq_false (by decide +kernel)
theorem l01 : ((0 : Int32) < 1) = True := eq_true (by decide +kernel)
theorem l02 : ((0 : Int32) < 2) = True := eq_true (by decide +kernel)
theorem may_k (X : GS) {k : Nat} (hk : k < 16) (z : Int32) : fX4_mayStand X (nI k) z = if gTb 4 k = 11 then ((fX3_hasSetUp_told X z).bind fun u9 => if ¬ (u9 = 0 ∨ u9 = 1) then none else some u9) else ((fX3_fits X (gTb 4 k) z).bind fun u6 => if ¬ (u6 = 0 ∨ u6 = 1) then none else some u6) := by
  have g0 : (nI k < 0) = False := eq_false (nI_pos (by omega))
  have g1 : (nI k < (16 : Int32)) = True := eq_true (nI_lt (b := 16) hk (by decide))
  simp only [fX4_mayStand, g0, g1, cl16 hk, eq_false (show ¬ 16 ≤ k by omega), or_false, ↓reduceIte]
theorem fitB (X : GS) {col : Int32} {a b : Int} {l h v : Nat} (hf : fX3_fits X col (nI v) = some (if a ≤ (nI v).toInt ∧ (nI v).toInt ≤ b then 1 else 0)) (hv : v ≤ 9999) (hl : a ≤ (v : Int) ↔ l ≤ v) (hh : (v : Int) ≤ b ↔ v < h) : ((fX3_fits X col (nI v)).bind fun u6 => if ¬ (u6 = 0 ∨ u6 = 1) then none else some u6) = some (if l ≤ v ∧ v < h then 1 else 0) := by
  rw [hf, tni v (by omega)]
  by_cases q : l ≤ v ∧ v < h
  · rw [if_pos ⟨hl.mpr q.1, hh.mpr q.2⟩, if_pos q]
    rfl
  · rw [if_neg (fun z => q ⟨hl.mp z.1, hh.mp z.2⟩), if_neg q]
    rfl
theorem hasT (X : GS) {n v : Nat} (h34 : X.1 34 = nI n) (hn : n ≤ 16) (hv : v ≤ 9999) : ((fX3_hasSetUp_told X (nI v)).bind fun u9 => if ¬ (u9 = 0 ∨ u9 = 1) then none else some u9) = some (if 0 ≤ v ∧ v < n then 1 else 0) := by
  have g0 : (nI v < 0) = False := eq_false (nI_pos (by omega))
  have g1 : (nI n ≤ nI v) = (n ≤ v) := nle_e (by omega) (by omega)
  rw [fX3_hasSetUp_told, h34]
  simp only [g0, g1, ↓reduceIte]
  by_cases q : n ≤ v
  · rw [if_pos q, if_neg (by omega)]
    rfl
  · rw [if_neg q, if_pos (by omega)]
    rfl
theorem mx_00 (X : GS) {n v : Nat} (h34 : X.1 34 = nI n) (hn : n ≤ 16) (hv : v ≤ 9999) : fX4_mayStand X (nI (fr 0 + 0)) (nI v) = some (if lo 0 0 ≤ v ∧ v < hi 0 0 n then 1 else 0) := by
  rw [show fr 0 + 0 = 0 from rfl]
  rw [may_k X (show 0 < 16 by decide), if_neg (by decide +kernel), show gTb 4 0 = (0 : Int32) from by decide +kernel]
  exact fitB X (l := lo 0 0) (h := hi 0 0 n) (fit0 X (nI v)) hv (by show _ ↔ 0 ≤ v; omega) (by show _ ↔ v < 7; omega)
theorem ms_00 (M : GS) {n v : Nat} (h27 : M.1 27 = nI v) (h0 : M.1 0 = nI n) (hn : n ≤ 16) (hv : v ≤ 9999) : fX9_isSo M (nI 0) (nI 0) = some (if lo 0 0 ≤ v ∧ v < hi 0 0 n then 1 else 0) := by
  have c6 : ((6 : Int32) < nI v) = (6 < v) := nlt_e (a := 6) (by omega) (by omega)
  have c9 : ((9 : Int32) < nI v) = (9 < v) := nlt_e (a := 9) (by omega) (by omega)
  have c3 : ((3 : Int32) < nI v) = (3 < v) := nlt_e (a := 3) (by omega) (by omega)
  have c1 : ((1 : Int32) < nI v) = (1 < v) := nlt_e (a := 1) (by omega) (by omega)
  have c99 : ((99 : Int32) < nI v) = (99 < v) := nlt_e (a := 99) (by omega) (by omega)
  have c9999 : ((9999 : Int32) < nI v) = (9999 < v) := nlt_e (a := 9999) (by omega) (by omega)
  have d1 : (nI v < (1 : Int32)) = (v < 1) := nlt_e (b := 1) (by omega) (by omega)
  have d0 : (nI v < (0 : Int32)) = False := eq_false (nI_pos (by omega))
  have dm : (nI v < (-9999 : Int32)) = False := eq_false (by rw [tlt, tni v (by omega), t_m9999]; omega)
  have dn : (nI n ≤ nI v) = (n ≤ v) := nle_e (by omega) (by omega)
  show fX9_isSo M 0 0 = some (if 0 ≤ v ∧ v < 7 then 1 else 0)
  simp only [fX9_isSo, fX9_isTold, fX9_isAsked, fX9_isYards, fX9_isReading, h27, h0, s33, s43, s53, s11, s21, l24, l34, l44, l54, l22, l23, l00, l01, l02, c6, c9, c3, c1, c99, c9999, d1, d0, dm, dn, eq_self, kn_01, kn_02, kn_03, kn_04, kn_05, kn_06, kn_10, kn_12, kn_13, kn_14, kn_15, kn_16, kn_20, kn_21, kn_23, kn_24, kn_25, kn_26, kn_30, kn_31, kn_32, kn_34, kn_35, kn_36, kn_40, kn_41, kn_42, kn_43, kn_45, kn_46, kn_50, kn_51, kn_52, kn_53, kn_54, kn_56, kn_60, kn_61, kn_62, kn_63, kn_64, kn_65, Option.bind_some, ↓reduceIte, km_1, km_2, km_3, km_4, km_5, km_6, km_7, kn_10, kn_20, kn_21]
  by_cases q : 0 ≤ v ∧ v < 7
  · rw [if_pos q]
    repeat' split
    all_goals first | rfl | (exfalso; omega)
  · rw [if_neg q]
    repeat' split
    all_goals first | rfl | (exfalso; omega)
theorem mx_01 (X : GS) {n v : Nat} (h34 : X.1 34 = nI n) (hn : n ≤ 16) (hv : v ≤ 9999) : fX4_mayStand X (nI (fr 0 + 1)) (nI v) = some (if lo 0 1 ≤ v ∧ v < hi 0 1 n then 1 else 0) := by
  rw [show fr 0 + 1 = 1 from rfl]
  rw [may_k X (show 1 < 16 by decide), if_neg (by decide +kernel), show gTb 4 1 = (1 : Int32) from by decide +kernel]
  exact fitB X (l := lo 0 1) (h := hi 0 1 n) (fit1 X (nI v)) hv (by show _ ↔ 0 ≤ v; omega) (by show _ ↔ v < 10; omega)
theorem ms_01 (M : GS) {n v : Nat} (h27 : M.1 27 = nI v) (h0 : M.1 0 = nI n) (hn : n ≤ 16) (hv : v ≤ 9999) : fX9_isSo M (nI 0) (nI 1) = some (if lo 0 1 ≤ v ∧ v < hi 0 1 n then 1 else 0) := by
  have c6 : ((6 : Int32) < nI v) = (6 < v) := nlt_e (a := 6) (by omega) (by omega)
  have c9 : ((9 : Int32) < nI v) = (9 < v) := nlt_e (a := 9) (by omega) (by omega)
  have c3 : ((3 : Int32) < nI v) = (3 < v) := nlt_e (a := 3) (by omega) (by omega)
  have c1 : ((1 : Int32) < nI v) = (1 < v) := nlt_e (a := 1) (by omega) (by omega)
  have c99 : ((99 : Int32) < nI v) = (99 < v) := nlt_e (a := 99) (by omega) (by omega)
  have c9999 : ((9999 : Int32) < nI v) = (9999 < v) := nlt_e (a := 9999) (by omega) (by omega)
  have d1 : (nI v < (1 : Int32)) = (v < 1) := nlt_e (b := 1) (by omega) (by omega)
  have d0 : (nI v < (0 : Int32)) = False := eq_false (nI_pos (by omega))
  have dm : (nI v < (-9999 : Int32)) = False := eq_false (by rw [tlt, tni v (by omega), t_m9999]; omega)
  have dn : (nI n ≤ nI v) = (n ≤ v) := nle_e (by omega) (by omega)
  show fX9_isSo M 0 1 = some (if 0 ≤ v ∧ v < 10 then 1 else 0)
  simp only [fX9_isSo, fX9_isTold, fX9_isAsked, fX9_isYards, fX9_isReading, h27, h0, s33, s43, s53, s11, s21, l24, l34, l44, l54, l22, l23, l00, l01, l02, c6, c9, c3, c1, c99, c9999, d1, d0, dm, dn, eq_self, kn_01, kn_02, kn_03, kn_04, kn_05, kn_06, kn_10, kn_12, kn_13, kn_14, kn_15, kn_16, kn_20, kn_21, kn_23, kn_24, kn_25, kn_26, kn_30, kn_31, kn_32, kn_34, kn_35, kn_36, kn_40, kn_41, kn_42, kn_43, kn_45, kn_46, kn_50, kn_51, kn_52, kn_53, kn_54, kn_56, kn_60, kn_61, kn_62, kn_63, kn_64, kn_65, Option.bind_some, ↓reduceIte, km_1, km_2, km_3, km_4, km_5, km_6, km_7, kn_10, kn_20, kn_21]
  by_cases q : 0 ≤ v ∧ v < 10
  · rw [if_pos q]
    repeat' split
    all_goals first | rfl | (exfalso; omega)
  · rw [if_neg q]
    repeat' split
    all_goals first | rfl | (exfalso; omega)
theorem mx_02 (X : GS) {n v : Nat} (h34 : X.1 34 = nI n) (hn : n ≤ 16) (hv : v ≤ 9999) : fX4_mayStand X (nI (fr 0 + 2)) (nI v) = some (if lo 0 2 ≤ v ∧ v < hi 0 2 n then 1 else 0) := by
  rw [show fr 0 + 2 = 2 from rfl]
  rw [may_k X (show 2 < 16 by decide), if_neg (by decide +kernel), show gTb 4 2 = (2 : Int32) from by decide +kernel]
  exact fitB X (l := lo 0 2) (h := hi 0 2 n) (fit2 X (nI v)) hv (by show _ ↔ 0 ≤ v; omega) (by show _ ↔ v < 10000; omega)
theorem ms_02 (M : GS) {n v : Nat} (h27 : M.1 27 = nI v) (h0 : M.1 0 = nI n) (hn : n ≤ 16) (hv : v ≤ 9999) : fX9_isSo M (nI 0) (nI 2) = some (if lo 0 2 ≤ v ∧ v < hi 0 2 n then 1 else 0) := by
  have c6 : ((6 : Int32) < nI v) = (6 < v) := nlt_e (a := 6) (by omega) (by omega)
  have c9 : ((9 : Int32) < nI v) = (9 < v) := nlt_e (a := 9) (by omega) (by omega)
  have c3 : ((3 : Int32) < nI v) = (3 < v) := nlt_e (a := 3) (by omega) (by omega)
  have c1 : ((1 : Int32) < nI v) = (1 < v) := nlt_e (a := 1) (by omega) (by omega)
  have c99 : ((99 : Int32) < nI v) = (99 < v) := nlt_e (a := 99) (by omega) (by omega)
  have c9999 : ((9999 : Int32) < nI v) = (9999 < v) := nlt_e (a := 9999) (by omega) (by omega)
  have d1 : (nI v < (1 : Int32)) = (v < 1) := nlt_e (b := 1) (by omega) (by omega)
  have d0 : (nI v < (0 : Int32)) = False := eq_false (nI_pos (by omega))
  have dm : (nI v < (-9999 : Int32)) = False := eq_false (by rw [tlt, tni v (by omega), t_m9999]; omega)
  have dn : (nI n ≤ nI v) = (n ≤ v) := nle_e (by omega) (by omega)
  show fX9_isSo M 0 2 = some (if 0 ≤ v ∧ v < 10000 then 1 else 0)
  simp only [fX9_isSo, fX9_isTold, fX9_isAsked, fX9_isYards, fX9_isReading, h27, h0, s33, s43, s53, s11, s21, l24, l34, l44, l54, l22, l23, l00, l01, l02, c6, c9, c3, c1, c99, c9999, d1, d0, dm, dn, eq_self, kn_01, kn_02, kn_03, kn_04, kn_05, kn_06, kn_10, kn_12, kn_13, kn_14, kn_15, kn_16, kn_20, kn_21, kn_23, kn_24, kn_25, kn_26, kn_30, kn_31, kn_32, kn_34, kn_35, kn_36, kn_40, kn_41, kn_42, kn_43, kn_45, kn_46, kn_50, kn_51, kn_52, kn_53, kn_54, kn_56, kn_60, kn_61, kn_62, kn_63, kn_64, kn_65, Option.bind_some, ↓reduceIte, km_1, km_2, km_3, km_4, km_5, km_6, km_7, kn_10, kn_20, kn_21]
  by_cases q : 0 ≤ v ∧ v < 10000
  · rw [if_pos q]
    repeat' split
    all_goals first | rfl | (exfalso; omega)
  · rw [if_neg q]
    repeat' split
    all_goals first | rfl | (exfalso; omega)
theorem mx_03 (X : GS) {n v : Nat} (h34 : X.1 34 = nI n) (hn : n ≤ 16) (hv : v ≤ 9999) : fX4_mayStand X (nI (fr 0 + 3)) (nI v) = some (if lo 0 3 ≤ v ∧ v < hi 0 3 n then 1 else 0) := by
  rw [show fr 0 + 3 = 3 from rfl]
  rw [may_k X (show 3 < 16 by decide), if_neg (by decide +kernel), show gTb 4 3 = (3 : Int32) from by decide +kernel]
  exact fitB X (l := lo 0 3) (h := hi 0 3 n) (fit3 X (nI v)) hv (by show _ ↔ 0 ≤ v; omega) (by show _ ↔ v < 10000; omega)
theorem ms_03 (M : GS) {n v : Nat} (h27 : M.1 27 = nI v) (h0 : M.1 0 = nI n) (hn : n ≤ 16) (hv : v ≤ 9999) : fX9_isSo M (nI 0) (nI 3) = some (if lo 0 3 ≤ v ∧ v < hi 0 3 n then 1 else 0) := by
  have c6 : ((6 : Int32) < nI v) = (6 < v) := nlt_e (a := 6) (by omega) (by omega)
  have c9 : ((9 : Int32) < nI v) = (9 < v) := nlt_e (a := 9) (by omega) (by omega)
  have c3 : ((3 : Int32) < nI v) = (3 < v) := nlt_e (a := 3) (by omega) (by omega)
  have c1 : ((1 : Int32) < nI v) = (1 < v) := nlt_e (a := 1) (by omega) (by omega)
  have c99 : ((99 : Int32) < nI v) = (99 < v) := nlt_e (a := 99) (by omega) (by omega)
  have c9999 : ((9999 : Int32) < nI v) = (9999 < v) := nlt_e (a := 9999) (by omega) (by omega)
  have d1 : (nI v < (1 : Int32)) = (v < 1) := nlt_e (b := 1) (by omega) (by omega)
  have d0 : (nI v < (0 : Int32)) = False := eq_false (nI_pos (by omega))
  have dm : (nI v < (-9999 : Int32)) = False := eq_false (by rw [tlt, tni v (by omega), t_m9999]; omega)
  have dn : (nI n ≤ nI v) = (n ≤ v) := nle_e (by omega) (by omega)
  show fX9_isSo M 0 3 = some (if 0 ≤ v ∧ v < 10000 then 1 else 0)
  simp only [fX9_isSo, fX9_isTold, fX9_isAsked, fX9_isYards, fX9_isReading, h27, h0, s33, s43, s53, s11, s21, l24, l34, l44, l54, l22, l23, l00, l01, l02, c6, c9, c3, c1, c99, c9999, d1, d0, dm, dn, eq_self, kn_01, kn_02, kn_03, kn_04, kn_05, kn_06, kn_10, kn_12, kn_13, kn_14, kn_15, kn_16, kn_20, kn_21, kn_23, kn_24, kn_25, kn_26, kn_30, kn_31, kn_32, kn_34, kn_35, kn_36, kn_40, kn_41, kn_42, kn_43, kn_45, kn_46, kn_50, kn_51, kn_52, kn_53, kn_54, kn_56, kn_60, kn_61, kn_62, kn_63, kn_64, kn_65, Option.bind_some, ↓reduceIte, km_1, km_2, km_3, km_4, km_5, km_6, km_7, kn_10, kn_20, kn_21]
  by_cases q : 0 ≤ v ∧ v < 10000
  · rw [if_pos q]
    repeat' split
    all_goals first | rfl | (exfalso; omega)
  · rw [if_neg q]
    repeat' split
    all_goals first | rfl | (exfalso; omega)
theorem mx_04 (X : GS) {n v : Nat} (h34 : X.1 34 = nI n) (hn : n ≤ 16) (hv : v ≤ 9999) : fX4_mayStand X (nI (fr 0 + 4)) (nI v) = some (if lo 0 4 ≤ v ∧ v < hi 0 4 n then 1 else 0) := by
  rw [show fr 0 + 4 = 4 from rfl]
  rw [may_k X (show 4 < 16 by decide), if_neg (by decide +kernel), show gTb 4 4 = (4 : Int32) from by decide +kernel]
  exact fitB X (l := lo 0 4) (h := hi 0 4 n) (fit4 X (nI v)) hv (by show _ ↔ 1 ≤ v; omega) (by show _ ↔ v < 100; omega)
theorem ms_04 (M : GS) {n v : Nat} (h27 : M.1 27 = nI v) (h0 : M.1 0 = nI n) (hn : n ≤ 16) (hv : v ≤ 9999) : fX9_isSo M (nI 0) (nI 4) = some (if lo 0 4 ≤ v ∧ v < hi 0 4 n then 1 else 0) := by
  have c6 : ((6 : Int32) < nI v) = (6 < v) := nlt_e (a := 6) (by omega) (by omega)
  have c9 : ((9 : Int32) < nI v) = (9 < v) := nlt_e (a := 9) (by omega) (by omega)
  have c3 : ((3 : Int32) < nI v) = (3 < v) := nlt_e (a := 3) (by omega) (by omega)
  have c1 : ((1 : Int32) < nI v) = (1 < v) := nlt_e (a := 1) (by omega) (by omega)
  have c99 : ((99 : Int32) < nI v) = (99 < v) := nlt_e (a := 99) (by omega) (by omega)
  have c9999 : ((9999 : Int32) < nI v) = (9999 < v) := nlt_e (a := 9999) (by omega) (by omega)
  have d1 : (nI v < (1 : Int32)) = (v < 1) := nlt_e (b := 1) (by omega) (by omega)
  have d0 : (nI v < (0 : Int32)) = False := eq_false (nI_pos (by omega))
  have dm : (nI v < (-9999 : Int32)) = False := eq_false (by rw [tlt, tni v (by omega), t_m9999]; omega)
  have dn : (nI n ≤ nI v) = (n ≤ v) := nle_e (by omega) (by omega)
  show fX9_isSo M 0 4 = some (if 1 ≤ v ∧ v < 100 then 1 else 0)
  simp only [fX9_isSo, fX9_isTold, fX9_isAsked, fX9_isYards, fX9_isReading, h27, h0, s33, s43, s53, s11, s21, l24, l34, l44, l54, l22, l23, l00, l01, l02, c6, c9, c3, c1, c99, c9999, d1, d0, dm, dn, eq_self, kn_01, kn_02, kn_03, kn_04, kn_05, kn_06, kn_10, kn_12, kn_13, kn_14, kn_15, kn_16, kn_20, kn_21, kn_23, kn_24, kn_25, kn_26, kn_30, kn_31, kn_32, kn_34, kn_35, kn_36, kn_40, kn_41, kn_42, kn_43, kn_45, kn_46, kn_50, kn_51, kn_52, kn_53, kn_54, kn_56, kn_60, kn_61, kn_62, kn_63, kn_64, kn_65, Option.bind_some, ↓reduceIte, km_1, km_2, km_3, km_4, km_5, km_6, km_7, kn_10, kn_20, kn_21]
  by_cases q : 1 ≤ v ∧ v < 100
  · rw [if_pos q]
    repeat' split
    all_goals first | rfl | (exfalso; omega)
  · rw [if_neg q]
    repeat' split
    all_goals first | rfl | (exfalso; omega)
theorem mx_05 (X : GS) {n v : Nat} (h34 : X.1 34 = nI n) (hn : n ≤ 16) (hv : v ≤ 9999) : fX4_mayStand X (nI (fr 0 + 5)) (nI v) = some (if lo 0 5 ≤ v ∧ v < hi 0 5 n then 1 else 0) := by
  rw [show fr 0 + 5 = 5 from rfl]
  rw [may_k X (show 5 < 16 by decide), if_neg (by decide +kernel), show gTb 4 5 = (5 : Int32) from by decide +kernel]
  exact fitB X (l := lo 0 5) (h := hi 0 5 n) (fit5 X (nI v)) hv (by show _ ↔ 1 ≤ v; omega) (by show _ ↔ v < 100; omega)
theorem ms_05 (M : GS) {n v : Nat} (h27 : M.1 27 = nI v) (h0 : M.1 0 = nI n) (hn : n ≤ 16) (hv : v ≤ 9999) : fX9_isSo M (nI 0) (nI 5) = some (if lo 0 5 ≤ v ∧ v < hi 0 5 n then 1 else 0) := by
  have c6 : ((6 : Int32) < nI v) = (6 < v) := nlt_e (a := 6) (by omega) (by omega)
  have c9 : ((9 : Int32) < nI v) = (9 < v) := nlt_e (a := 9) (by omega) (by omega)
  have c3 : ((3 : Int32) < nI v) = (3 < v) := nlt_e (a := 3) (by omega) (by omega)
  have c1 : ((1 : Int32) < nI v) = (1 < v) := nlt_e (a := 1) (by omega) (by omega)
  have c99 : ((99 : Int32) < nI v) = (99 < v) := nlt_e (a := 99) (by omega) (by omega)
  have c9999 : ((9999 : Int32) < nI v) = (9999 < v) := nlt_e (a := 9999) (by omega) (by omega)
  have d1 : (nI v < (1 : Int32)) = (v < 1) := nlt_e (b := 1) (by omega) (by omega)
  have d0 : (nI v < (0 : Int32)) = False := eq_false (nI_pos (by omega))
  have dm : (nI v < (-9999 : Int32)) = False := eq_false (by rw [tlt, tni v (by omega), t_m9999]; omega)
  have dn : (nI n ≤ nI v) = (n ≤ v) := nle_e (by omega) (by omega)
  show fX9_isSo M 0 5 = some (if 1 ≤ v ∧ v < 100 then 1 else 0)
  simp only [fX9_isSo, fX9_isTold, fX9_isAsked, fX9_isYards, fX9_isReading, h27, h0, s33, s43, s53, s11, s21, l24, l34, l44, l54, l22, l23, l00, l01, l02, c6, c9, c3, c1, c99, c9999, d1, d0, dm, dn, eq_self, kn_01, kn_02, kn_03, kn_04, kn_05, kn_06, kn_10, kn_12, kn_13, kn_14, kn_15, kn_16, kn_20, kn_21, kn_23, kn_24, kn_25, kn_26, kn_30, kn_31, kn_32, kn_34, kn_35, kn_36, kn_40, kn_41, kn_42, kn_43, kn_45, kn_46, kn_50, kn_51, kn_52, kn_53, kn_54, kn_56, kn_60, kn_61, kn_62, kn_63, kn_64, kn_65, Option.bind_some, ↓reduceIte, km_1, km_2, km_3, km_4, km_5, km_6, km_7, kn_10, kn_20, kn_21]
  by_cases q : 1 ≤ v ∧ v < 100
  · rw [if_pos q]
    repeat' split
    all_goals first | rfl | (exfalso; omega)
  · rw [if_neg q]
    repeat' split
    all_goals first | rfl | (exfalso; omega)
theorem mx_10 (X : GS) {n v : Nat} (h34 : X.1 34 = nI n) (hn : n ≤ 16) (hv : v ≤ 9999) : fX4_mayStand X (nI (fr 1 + 0)) (nI v) = some (if lo 1 0 ≤ v ∧ v < hi 1 0 n then 1 else 0) := by
  rw [show fr 1 + 0 = 6 from rfl]
  rw [may_k X (show 6 < 16 by decide), if_pos (by decide +kernel), hasT X h34 hn hv]
  rfl
theorem ms_10 (M : GS) {n v : Nat} (h27 : M.1 27 = nI v) (h0 : M.1 0 = nI n) (hn : n ≤ 16) (hv : v ≤ 9999) : fX9_isSo M (nI 1) (nI 0) = some (if lo 1 0 ≤ v ∧ v < hi 1 0 n then 1 else 0) := by
  have c6 : ((6 : Int32) < nI v) = (6 < v) := nlt_e (a := 6) (by omega) (by omega)
  have c9 : ((9 : Int32) < nI v) = (9 < v) := nlt_e (a := 9) (by omega) (by omega)
  have c3 : ((3 : Int32) < nI v) = (3 < v) := nlt_e (a := 3) (by omega) (by omega)
  have c1 : ((1 : Int32) < nI v) = (1 < v) := nlt_e (a := 1) (by omega) (by omega)
  have c99 : ((99 : Int32) < nI v) = (99 < v) := nlt_e (a := 99) (by omega) (by omega)
  have c9999 : ((9999 : Int32) < nI v) = (9999 < v) := nlt_e (a := 9999) (by omega) (by omega)
  have d1 : (nI v < (1 : Int32)) = (v < 1) := nlt_e (b := 1) (by omega) (by omega)
  have d0 : (nI v < (0 : Int32)) = False := eq_false (nI_pos (by omega))
  have dm : (nI v < (-9999 : Int32)) = False := eq_false (by rw [tlt, tni v (by omega), t_m9999]; omega)
  have dn : (nI n ≤ nI v) = (n ≤ v) := nle_e (by omega) (by omega)
  show fX9_isSo M 1 0 = some (if 0 ≤ v ∧ v < n then 1 else 0)
  simp only [fX9_isSo, fX9_isTold, fX9_isAsked, fX9_isYards, fX9_isReading, h27, h0, s33, s43, s53, s11, s21, l24, l34, l44, l54, l22, l23, l00, l01, l02, c6, c9, c3, c1, c99, c9999, d1, d0, dm, dn, eq_self, kn_01, kn_02, kn_03, kn_04, kn_05, kn_06, kn_10, kn_12, kn_13, kn_14, kn_15, kn_16, kn_20, kn_21, kn_23, kn_24, kn_25, kn_26, kn_30, kn_31, kn_32, kn_34, kn_35, kn_36, kn_40, kn_41, kn_42, kn_43, kn_45, kn_46, kn_50, kn_51, kn_52, kn_53, kn_54, kn_56, kn_60, kn_61, kn_62, kn_63, kn_64, kn_65, Option.bind_some, ↓reduceIte, km_1, km_2, km_3, km_4, km_5, km_6, km_7, kn_10, kn_20, kn_21]
  by_cases q : 0 ≤ v ∧ v < n
  · rw [if_pos q]
    repeat' split
    all_goals first | rfl | (exfalso; omega)
  · rw [if_neg q]
    repeat' split
    all_goals first | rfl | (exfalso; omega)
theorem mx_11 (X : GS) {n v : Nat} (h34 : X.1 34 = nI n) (hn : n ≤ 16) (hv : v ≤ 9999) : fX4_mayStand X (nI (fr 1 + 1)) (nI v) = some (if lo 1 1 ≤ v ∧ v < hi 1 1 n then 1 else 0) := by
  rw [show fr 1 + 1 = 7 from rfl]
  rw [may_k X (show 7 < 16 by decide), if_neg (by decide +kernel), show gTb 4 7 = (6 : Int32) from by decide +kernel]
  exact fitB X (l := lo 1 1) (h := hi 1 1 n) (fit6 X (nI v)) hv (by show _ ↔ 0 ≤ v; omega) (by show _ ↔ v < 4; omega)
theorem ms_11 (M : GS) {n v : Nat} (h27 : M.1 27 = nI v) (h0 : M.1 0 = nI n) (hn : n ≤ 16) (hv : v ≤ 9999) : fX9_isSo M (nI 1) (nI 1) = some (if lo 1 1 ≤ v ∧ v < hi 1 1 n then 1 else 0) := by
  have c6 : ((6 : Int32) < nI v) = (6 < v) := nlt_e (a := 6) (by omega) (by omega)
  have c9 : ((9 : Int32) < nI v) = (9 < v) := nlt_e (a := 9) (by omega) (by omega)
  have c3 : ((3 : Int32) < nI v) = (3 < v) := nlt_e (a := 3) (by omega) (by omega)
  have c1 : ((1 : Int32) < nI v) = (1 < v) := nlt_e (a := 1) (by omega) (by omega)
  have c99 : ((99 : Int32) < nI v) = (99 < v) := nlt_e (a := 99) (by omega) (by omega)
  have c9999 : ((9999 : Int32) < nI v) = (9999 < v) := nlt_e (a := 9999) (by omega) (by omega)
  have d1 : (nI v < (1 : Int32)) = (v < 1) := nlt_e (b := 1) (by omega) (by omega)
  have d0 : (nI v < (0 : Int32)) = False := eq_false (nI_pos (by omega))
  have dm : (nI v < (-9999 : Int32)) = False := eq_false (by rw [tlt, tni v (by omega), t_m9999]; omega)
  have dn : (nI n ≤ nI v) = (n ≤ v) := nle_e (by omega) (by omega)
  show fX9_isSo M 1 1 = some (if 0 ≤ v ∧ v < 4 then 1 else 0)
  simp only [fX9_isSo, fX9_isTold, fX9_isAsked, fX9_isYards, fX9_isReading, h27, h0, s33, s43, s53, s11, s21, l24, l34, l44, l54, l22, l23, l00, l01, l02, c6, c9, c3, c1, c99, c9999, d1, d0, dm, dn, eq_self, kn_01, kn_02, kn_03, kn_04, kn_05, kn_06, kn_10, kn_12, kn_13, kn_14, kn_15, kn_16, kn_20, kn_21, kn_23, kn_24, kn_25, kn_26, kn_30, kn_31, kn_32, kn_34, kn_35, kn_36, kn_40, kn_41, kn_42, kn_43, kn_45, kn_46, kn_50, kn_51, kn_52, kn_53, kn_54, kn_56, kn_60, kn_61, kn_62, kn_63, kn_64, kn_65, Option.bind_some, ↓reduceIte, km_1, km_2, km_3, km_4, km_5, km_6, km_7, kn_10, kn_20, kn_21]
  by_cases q : 0 ≤ v ∧ v < 4
  · rw [if_pos q]
    repeat' split
    all_goals first | rfl | (exfalso; omega)
  · rw [if_neg q]
    repeat' split
    all_goals first | rfl | (exfalso; omega)
theorem mx_20 (X : GS) {n v : Nat} (h34 : X.1 34 = nI n) (hn : n ≤ 16) (hv : v ≤ 9999) : fX4_mayStand X (nI (fr 2 + 0)) (nI v) = some (if lo 2 0 ≤ v ∧ v < hi 2 0 n then 1 else 0) := by
  rw [show fr 2 + 0 = 8 from rfl]
  rw [may_k X (show 8 < 16 by decide), if_pos (by decide +kernel), hasT X h34 hn hv]
  rfl
theorem ms_20 (M : GS) {n v : Nat} (h27 : M.1 27 = nI v) (h0 : M.1 0 = nI n) (hn : n ≤ 16) (hv : v ≤ 9999) : fX9_isSo M (nI 2) (nI 0) = some (if lo 2 0 ≤ v ∧ v < hi 2 0 n then 1 else 0) := by
  have c6 : ((6 : Int32) < nI v) = (6 < v) := nlt_e (a := 6) (by omega) (by omega)
  have c9 : ((9 : Int32) < nI v) = (9 < v) := nlt_e (a := 9) (by omega) (by omega)
  have c3 : ((3 : Int32) < nI v) = (3 < v) := nlt_e (a := 3) (by omega) (by omega)
  have c1 : ((1 : Int32) < nI v) = (1 < v) := nlt_e (a := 1) (by omega) (by omega)
  have c99 : ((99 : Int32) < nI v) = (99 < v) := nlt_e (a := 99) (by omega) (by omega)
  have c9999 : ((9999 : Int32) < nI v) = (9999 < v) := nlt_e (a := 9999) (by omega) (by omega)
  have d1 : (nI v < (1 : Int32)) = (v < 1) := nlt_e (b := 1) (by omega) (by omega)
  have d0 : (nI v < (0 : Int32)) = False := eq_false (nI_pos (by omega))
  have dm : (nI v < (-9999 : Int32)) = False := eq_false (by rw [tlt, tni v (by omega), t_m9999]; omega)
  have dn : (nI n ≤ nI v) = (n ≤ v) := nle_e (by omega) (by omega)
  show fX9_isSo M 2 0 = some (if 0 ≤ v ∧ v < n then 1 else 0)
  simp only [fX9_isSo, fX9_isTold, fX9_isAsked, fX9_isYards, fX9_isReading, h27, h0, s33, s43, s53, s11, s21, l24, l34, l44, l54, l22, l23, l00, l01, l02, c6, c9, c3, c1, c99, c9999, d1, d0, dm, dn, eq_self, kn_01, kn_02, kn_03, kn_04, kn_05, kn_06, kn_10, kn_12, kn_13, kn_14, kn_15, kn_16, kn_20, kn_21, kn_23, kn_24, kn_25, kn_26, kn_30, kn_31, kn_32, kn_34, kn_35, kn_36, kn_40, kn_41, kn_42, kn_43, kn_45, kn_46, kn_50, kn_51, kn_52, kn_53, kn_54, kn_56, kn_60, kn_61, kn_62, kn_63, kn_64, kn_65, Option.bind_some, ↓reduceIte, km_1, km_2, km_3, km_4, km_5, km_6, km_7, kn_10, kn_20, kn_21]
  by_cases q : 0 ≤ v ∧ v < n
  · rw [if_pos q]
    repeat' split
    all_goals first | rfl | (exfalso; omega)
  · rw [if_neg q]
    repeat' split
    all_goals first | rfl | (exfalso; omega)
theorem mx_21 (X : GS) {n v : Nat} (h34 : X.1 34 = nI n) (hn : n ≤ 16) (hv : v ≤ 9999) : fX4_mayStand X (nI (fr 2 + 1)) (nI v) = some (if lo 2 1 ≤ v ∧ v < hi 2 1 n then 1 else 0) := by
  rw [show fr 2 + 1 = 9 from rfl]
  rw [may_k X (show 9 < 16 by decide), if_neg (by decide +kernel), show gTb 4 9 = (7 : Int32) from by decide +kernel]
  exact fitB X (l := lo 2 1) (h := hi 2 1 n) (fit7 X (nI v)) hv (by show _ ↔ 0 ≤ v; omega) (by show _ ↔ v < 2; omega)
theorem ms_21 (M : GS) {n v : Nat} (h27 : M.1 27 = nI v) (h0 : M.1 0 = nI n) (hn : n ≤ 16) (hv : v ≤ 9999) : fX9_isSo M (nI 2) (nI 1) = some (if lo 2 1 ≤ v ∧ v < hi 2 1 n then 1 else 0) := by
  have c6 : ((6 : Int32) < nI v) = (6 < v) := nlt_e (a := 6) (by omega) (by omega)
  have c9 : ((9 : Int32) < nI v) = (9 < v) := nlt_e (a := 9) (by omega) (by omega)
  have c3 : ((3 : Int32) < nI v) = (3 < v) := nlt_e (a := 3) (by omega) (by omega)
  have c1 : ((1 : Int32) < nI v) = (1 < v) := nlt_e (a := 1) (by omega) (by omega)
  have c99 : ((99 : Int32) < nI v) = (99 < v) := nlt_e (a := 99) (by omega) (by omega)
  have c9999 : ((9999 : Int32) < nI v) = (9999 < v) := nlt_e (a := 9999) (by omega) (by omega)
  have d1 : (nI v < (1 : Int32)) = (v < 1) := nlt_e (b := 1) (by omega) (by omega)
  have d0 : (nI v < (0 : Int32)) = False := eq_false (nI_pos (by omega))
  have dm : (nI v < (-9999 : Int32)) = False := eq_false (by rw [tlt, tni v (by omega), t_m9999]; omega)
  have dn : (nI n ≤ nI v) = (n ≤ v) := nle_e (by omega) (by omega)
  show fX9_isSo M 2 1 = some (if 0 ≤ v ∧ v < 2 then 1 else 0)
  simp only [fX9_isSo, fX9_isTold, fX9_isAsked, fX9_isYards, fX9_isReading, h27, h0, s33, s43, s53, s11, s21, l24, l34, l44, l54, l22, l23, l00, l01, l02, c6, c9, c3, c1, c99, c9999, d1, d0, dm, dn, eq_self, kn_01, kn_02, kn_03, kn_04, kn_05, kn_06, kn_10, kn_12, kn_13, kn_14, kn_15, kn_16, kn_20, kn_21, kn_23, kn_24, kn_25, kn_26, kn_30, kn_31, kn_32, kn_34, kn_35, kn_36, kn_40, kn_41, kn_42, kn_43, kn_45, kn_46, kn_50, kn_51, kn_52, kn_53, kn_54, kn_56, kn_60, kn_61, kn_62, kn_63, kn_64, kn_65, Option.bind_some, ↓reduceIte, km_1, km_2, km_3, km_4, km_5, km_6, km_7, kn_10, kn_20, kn_21]
  by_cases q : 0 ≤ v ∧ v < 2
  · rw [if_pos q]
    repeat' split
    all_goals first | rfl | (exfalso; omega)
  · rw [if_neg q]
    repeat' split
    all_goals first | rfl | (exfalso; omega)
theorem mx_30 (X : GS) {n v : Nat} (h34 : X.1 34 = nI n) (hn : n ≤ 16) (hv : v ≤ 9999) : fX4_mayStand X (nI (fr 3 + 0)) (nI v) = some (if lo 3 0 ≤ v ∧ v < hi 3 0 n then 1 else 0) := by
  rw [show fr 3 + 0 = 10 from rfl]
  rw [may_k X (show 10 < 16 by decide), if_neg (by decide +kernel), show gTb 4 10 = (8 : Int32) from by decide +kernel]
  exact fitB X (l := lo 3 0) (h := hi 3 0 n) (fit8 X (nI v)) hv (by show _ ↔ 0 ≤ v; omega) (by show _ ↔ v < 10000; omega)
theorem ms_30 (M : GS) {n v : Nat} (h27 : M.1 27 = nI v) (h0 : M.1 0 = nI n) (hn : n ≤ 16) (hv : v ≤ 9999) : fX9_isSo M (nI 3) (nI 0) = some (if lo 3 0 ≤ v ∧ v < hi 3 0 n then 1 else 0) := by
  have c6 : ((6 : Int32) < nI v) = (6 < v) := nlt_e (a := 6) (by omega) (by omega)
  have c9 : ((9 : Int32) < nI v) = (9 < v) := nlt_e (a := 9) (by omega) (by omega)
  have c3 : ((3 : Int32) < nI v) = (3 < v) := nlt_e (a := 3) (by omega) (by omega)
  have c1 : ((1 : Int32) < nI v) = (1 < v) := nlt_e (a := 1) (by omega) (by omega)
  have c99 : ((99 : Int32) < nI v) = (99 < v) := nlt_e (a := 99) (by omega) (by omega)
  have c9999 : ((9999 : Int32) < nI v) = (9999 < v) := nlt_e (a := 9999) (by omega) (by omega)
  have d1 : (nI v < (1 : Int32)) = (v < 1) := nlt_e (b := 1) (by omega) (by omega)
  have d0 : (nI v < (0 : Int32)) = False := eq_false (nI_pos (by omega))
  have dm : (nI v < (-9999 : Int32)) = False := eq_false (by rw [tlt, tni v (by omega), t_m9999]; omega)
  have dn : (nI n ≤ nI v) = (n ≤ v) := nle_e (by omega) (by omega)
  show fX9_isSo M 3 0 = some (if 0 ≤ v ∧ v < 10000 then 1 else 0)
  simp only [fX9_isSo, fX9_isTold, fX9_isAsked, fX9_isYards, fX9_isReading, h27, h0, s33, s43, s53, s11, s21, l24, l34, l44, l54, l22, l23, l00, l01, l02, c6, c9, c3, c1, c99, c9999, d1, d0, dm, dn, eq_self, kn_01, kn_02, kn_03, kn_04, kn_05, kn_06, kn_10, kn_12, kn_13, kn_14, kn_15, kn_16, kn_20, kn_21, kn_23, kn_24, kn_25, kn_26, kn_30, kn_31, kn_32, kn_34, kn_35, kn_36, kn_40, kn_41, kn_42, kn_43, kn_45, kn_46, kn_50, kn_51, kn_52, kn_53, kn_54, kn_56, kn_60, kn_61, kn_62, kn_63, kn_64, kn_65, Option.bind_some, ↓reduceIte, km_1, km_2, km_3, km_4, km_5, km_6, km_7, kn_10, kn_20, kn_21]
  by_cases q : 0 ≤ v ∧ v < 10000
  · rw [if_pos q]
    repeat' split
    all_goals first | rfl | (exfalso; omega)
  · rw [if_neg q]
    repeat' split
    all_goals first | rfl | (exfalso; omega)
theorem mx_40 (X : GS) {n v : Nat} (h34 : X.1 34 = nI n) (hn : n ≤ 16) (hv : v ≤ 9999) : fX4_mayStand X (nI (fr 4 + 0)) (nI v) = some (if lo 4 0 ≤ v ∧ v < hi 4 0 n then 1 else 0) := by
  rw [show fr 4 + 0 = 11 from rfl]
  rw [may_k X (show 11 < 16 by decide), if_neg (by decide +kernel), show gTb 4 11 = (9 : Int32) from by decide +kernel]
  exact fitB X (l := lo 4 0) (h := hi 4 0 n) (fit9 X (nI v)) hv (by show _ ↔ 0 ≤ v; omega) (by show _ ↔ v < 10; omega)
theorem ms_40 (M : GS) {n v : Nat} (h27 : M.1 27 = nI v) (h0 : M.1 0 = nI n) (hn : n ≤ 16) (hv : v ≤ 9999) : fX9_isSo M (nI 4) (nI 0) = some (if lo 4 0 ≤ v ∧ v < hi 4 0 n then 1 else 0) := by
  have c6 : ((6 : Int32) < nI v) = (6 < v) := nlt_e (a := 6) (by omega) (by omega)
  have c9 : ((9 : Int32) < nI v) = (9 < v) := nlt_e (a := 9) (by omega) (by omega)
  have c3 : ((3 : Int32) < nI v) = (3 < v) := nlt_e (a := 3) (by omega) (by omega)
  have c1 : ((1 : Int32) < nI v) = (1 < v) := nlt_e (a := 1) (by omega) (by omega)
  have c99 : ((99 : Int32) < nI v) = (99 < v) := nlt_e (a := 99) (by omega) (by omega)
  have c9999 : ((9999 : Int32) < nI v) = (9999 < v) := nlt_e (a := 9999) (by omega) (by omega)
  have d1 : (nI v < (1 : Int32)) = (v < 1) := nlt_e (b := 1) (by omega) (by omega)
  have d0 : (nI v < (0 : Int32)) = False := eq_false (nI_pos (by omega))
  have dm : (nI v < (-9999 : Int32)) = False := eq_false (by rw [tlt, tni v (by omega), t_m9999]; omega)
  have dn : (nI n ≤ nI v) = (n ≤ v) := nle_e (by omega) (by omega)
  show fX9_isSo M 4 0 = some (if 0 ≤ v ∧ v < 10 then 1 else 0)
  simp only [fX9_isSo, fX9_isTold, fX9_isAsked, fX9_isYards, fX9_isReading, h27, h0, s33, s43, s53, s11, s21, l24, l34, l44, l54, l22, l23, l00, l01, l02, c6, c9, c3, c1, c99, c9999, d1, d0, dm, dn, eq_self, kn_01, kn_02, kn_03, kn_04, kn_05, kn_06, kn_10, kn_12, kn_13, kn_14, kn_15, kn_16, kn_20, kn_21, kn_23, kn_24, kn_25, kn_26, kn_30, kn_31, kn_32, kn_34, kn_35, kn_36, kn_40, kn_41, kn_42, kn_43, kn_45, kn_46, kn_50, kn_51, kn_52, kn_53, kn_54, kn_56, kn_60, kn_61, kn_62, kn_63, kn_64, kn_65, Option.bind_some, ↓reduceIte, km_1, km_2, km_3, km_4, km_5, km_6, km_7, kn_10, kn_20, kn_21]
  by_cases q : 0 ≤ v ∧ v < 10
  · rw [if_pos q]
    repeat' split
    all_goals first | rfl | (exfalso; omega)
  · rw [if_neg q]
    repeat' split
    all_goals first | rfl | (exfalso; omega)
theorem mx_50 (X : GS) {n v : Nat} (h34 : X.1 34 = nI n) (hn : n ≤ 16) (hv : v ≤ 9999) : fX4_mayStand X (nI (fr 5 + 0)) (nI v) = some (if lo 5 0 ≤ v ∧ v < hi 5 0 n then 1 else 0) := by
  rw [show fr 5 + 0 = 12 from rfl]
  rw [may_k X (show 12 < 16 by decide), if_neg (by decide +kernel), show gTb 4 12 = (10 : Int32) from by decide +kernel]
  exact fitB X (l := lo 5 0) (h := hi 5 0 n) (fit10 X (nI v)) hv (by show _ ↔ 1 ≤ v; omega) (by show _ ↔ v < 100; omega)
theorem ms_50 (M : GS) {n v : Nat} (h27 : M.1 27 = nI v) (h0 : M.1 0 = nI n) (hn : n ≤ 16) (hv : v ≤ 9999) : fX9_isSo M (nI 5) (nI 0) = some (if lo 5 0 ≤ v ∧ v < hi 5 0 n then 1 else 0) := by
  have c6 : ((6 : Int32) < nI v) = (6 < v) := nlt_e (a := 6) (by omega) (by omega)
  have c9 : ((9 : Int32) < nI v) = (9 < v) := nlt_e (a := 9) (by omega) (by omega)
  have c3 : ((3 : Int32) < nI v) = (3 < v) := nlt_e (a := 3) (by omega) (by omega)
  have c1 : ((1 : Int32) < nI v) = (1 < v) := nlt_e (a := 1) (by omega) (by omega)
  have c99 : ((99 : Int32) < nI v) = (99 < v) := nlt_e (a := 99) (by omega) (by omega)
  have c9999 : ((9999 : Int32) < nI v) = (9999 < v) := nlt_e (a := 9999) (by omega) (by omega)
  have d1 : (nI v < (1 : Int32)) = (v < 1) := nlt_e (b := 1) (by omega) (by omega)
  have d0 : (nI v < (0 : Int32)) = False := eq_false (nI_pos (by omega))
  have dm : (nI v < (-9999 : Int32)) = False := eq_false (by rw [tlt, tni v (by omega), t_m9999]; omega)
  have dn : (nI n ≤ nI v) = (n ≤ v) := nle_e (by omega) (by omega)
  show fX9_isSo M 5 0 = some (if 1 ≤ v ∧ v < 100 then 1 else 0)
  simp only [fX9_isSo, fX9_isTold, fX9_isAsked, fX9_isYards, fX9_isReading, h27, h0, s33, s43, s53, s11, s21, l24, l34, l44, l54, l22, l23, l00, l01, l02, c6, c9, c3, c1, c99, c9999, d1, d0, dm, dn, eq_self, kn_01, kn_02, kn_03, kn_04, kn_05, kn_06, kn_10, kn_12, kn_13, kn_14, kn_15, kn_16, kn_20, kn_21, kn_23, kn_24, kn_25, kn_26, kn_30, kn_31, kn_32, kn_34, kn_35, kn_36, kn_40, kn_41, kn_42, kn_43, kn_45, kn_46, kn_50, kn_51, kn_52, kn_53, kn_54, kn_56, kn_60, kn_61, kn_62, kn_63, kn_64, kn_65, Option.bind_some, ↓reduceIte, km_1, km_2, km_3, km_4, km_5, km_6, km_7, kn_10, kn_20, kn_21]
  by_cases q : 1 ≤ v ∧ v < 100
  · rw [if_pos q]
    repeat' split
    all_goals first | rfl | (exfalso; omega)
  · rw [if_neg q]
    repeat' split
    all_goals first | rfl | (exfalso; omega)
theorem mx_60 (X : GS) {n v : Nat} (h34 : X.1 34 = nI n) (hn : n ≤ 16) (hv : v ≤ 9999) : fX4_mayStand X (nI (fr 6 + 0)) (nI v) = some (if lo 6 0 ≤ v ∧ v < hi 6 0 n then 1 else 0) := by
  rw [show fr 6 + 0 = 13 from rfl]
  rw [may_k X (show 13 < 16 by decide), if_pos (by decide +kernel), hasT X h34 hn hv]
  rfl
theorem ms_60 (M : GS) {n v : Nat} (h27 : M.1 27 = nI v) (h0 : M.1 0 = nI n) (hn : n ≤ 16) (hv : v ≤ 9999) : fX9_isSo M (nI 6) (nI 0) = some (if lo 6 0 ≤ v ∧ v < hi 6 0 n then 1 else 0) := by
  have c6 : ((6 : Int32) < nI v) = (6 < v) := nlt_e (a := 6) (by omega) (by omega)
  have c9 : ((9 : Int32) < nI v) = (9 < v) := nlt_e (a := 9) (by omega) (by omega)
  have c3 : ((3 : Int32) < nI v) = (3 < v) := nlt_e (a := 3) (by omega) (by omega)
  have c1 : ((1 : Int32) < nI v) = (1 < v) := nlt_e (a := 1) (by omega) (by omega)
  have c99 : ((99 : Int32) < nI v) = (99 < v) := nlt_e (a := 99) (by omega) (by omega)
  have c9999 : ((9999 : Int32) < nI v) = (9999 < v) := nlt_e (a := 9999) (by omega) (by omega)
  have d1 : (nI v < (1 : Int32)) = (v < 1) := nlt_e (b := 1) (by omega) (by omega)
  have d0 : (nI v < (0 : Int32)) = False := eq_false (nI_pos (by omega))
  have dm : (nI v < (-9999 : Int32)) = False := eq_false (by rw [tlt, tni v (by omega), t_m9999]; omega)
  have dn : (nI n ≤ nI v) = (n ≤ v) := nle_e (by omega) (by omega)
  show fX9_isSo M 6 0 = some (if 0 ≤ v ∧ v < n then 1 else 0)
  simp only [fX9_isSo, fX9_isTold, fX9_isAsked, fX9_isYards, fX9_isReading, h27, h0, s33, s43, s53, s11, s21, l24, l34, l44, l54, l22, l23, l00, l01, l02, c6, c9, c3, c1, c99, c9999, d1, d0, dm, dn, eq_self, kn_01, kn_02, kn_03, kn_04, kn_05, kn_06, kn_10, kn_12, kn_13, kn_14, kn_15, kn_16, kn_20, kn_21, kn_23, kn_24, kn_25, kn_26, kn_30, kn_31, kn_32, kn_34, kn_35, kn_36, kn_40, kn_41, kn_42, kn_43, kn_45, kn_46, kn_50, kn_51, kn_52, kn_53, kn_54, kn_56, kn_60, kn_61, kn_62, kn_63, kn_64, kn_65, Option.bind_some, ↓reduceIte, km_1, km_2, km_3, km_4, km_5, km_6, km_7, kn_10, kn_20, kn_21]
  by_cases q : 0 ≤ v ∧ v < n
  · rw [if_pos q]
    repeat' split
    all_goals first | rfl | (exfalso; omega)
  · rw [if_neg q]
    repeat' split
    all_goals first | rfl | (exfalso; omega)
theorem mx_61 (X : GS) {n v : Nat} (h34 : X.1 34 = nI n) (hn : n ≤ 16) (hv : v ≤ 9999) : fX4_mayStand X (nI (fr 6 + 1)) (nI v) = some (if lo 6 1 ≤ v ∧ v < hi 6 1 n then 1 else 0) := by
  rw [show fr 6 + 1 = 14 from rfl]
  rw [may_k X (show 14 < 16 by decide), if_neg (by decide +kernel), show gTb 4 14 = (2 : Int32) from by decide +kernel]
  exact fitB X (l := lo 6 1) (h := hi 6 1 n) (fit2 X (nI v)) hv (by show _ ↔ 0 ≤ v; omega) (by show _ ↔ v < 10000; omega)
theorem ms_61 (M : GS) {n v : Nat} (h27 : M.1 27 = nI v) (h0 : M.1 0 = nI n) (hn : n ≤ 16) (hv : v ≤ 9999) : fX9_isSo M (nI 6) (nI 1) = some (if lo 6 1 ≤ v ∧ v < hi 6 1 n then 1 else 0) := by
  have c6 : ((6 : Int32) < nI v) = (6 < v) := nlt_e (a := 6) (by omega) (by omega)
  have c9 : ((9 : Int32) < nI v) = (9 < v) := nlt_e (a := 9) (by omega) (by omega)
  have c3 : ((3 : Int32) < nI v) = (3 < v) := nlt_e (a := 3) (by omega) (by omega)
  have c1 : ((1 : Int32) < nI v) = (1 < v) := nlt_e (a := 1) (by omega) (by omega)
  have c99 : ((99 : Int32) < nI v) = (99 < v) := nlt_e (a := 99) (by omega) (by omega)
  have c9999 : ((9999 : Int32) < nI v) = (9999 < v) := nlt_e (a := 9999) (by omega) (by omega)
  have d1 : (nI v < (1 : Int32)) = (v < 1) := nlt_e (b := 1) (by omega) (by omega)
  have d0 : (nI v < (0 : Int32)) = False := eq_false (nI_pos (by omega))
  have dm : (nI v < (-9999 : Int32)) = False := eq_false (by rw [tlt, tni v (by omega), t_m9999]; omega)
  have dn : (nI n ≤ nI v) = (n ≤ v) := nle_e (by omega) (by omega)
  show fX9_isSo M 6 1 = some (if 0 ≤ v ∧ v < 10000 then 1 else 0)
  simp only [fX9_isSo, fX9_isTold, fX9_isAsked, fX9_isYards, fX9_isReading, h27, h0, s33, s43, s53, s11, s21, l24, l34, l44, l54, l22, l23, l00, l01, l02, c6, c9, c3, c1, c99, c9999, d1, d0, dm, dn, eq_self, kn_01, kn_02, kn_03, kn_04, kn_05, kn_06, kn_10, kn_12, kn_13, kn_14, kn_15, kn_16, kn_20, kn_21, kn_23, kn_24, kn_25, kn_26, kn_30, kn_31, kn_32, kn_34, kn_35, kn_36, kn_40, kn_41, kn_42, kn_43, kn_45, kn_46, kn_50, kn_51, kn_52, kn_53, kn_54, kn_56, kn_60, kn_61, kn_62, kn_63, kn_64, kn_65, Option.bind_some, ↓reduceIte, km_1, km_2, km_3, km_4, km_5, km_6, km_7, kn_10, kn_20, kn_21]
  by_cases q : 0 ≤ v ∧ v < 10000
  · rw [if_pos q]
    repeat' split
    all_goals first | rfl | (exfalso; omega)
  · rw [if_neg q]
    repeat' split
    all_goals first | rfl | (exfalso; omega)
theorem mx_62 (X : GS) {n v : Nat} (h34 : X.1 34 = nI n) (hn : n ≤ 16) (hv : v ≤ 9999) : fX4_mayStand X (nI (fr 6 + 2)) (nI v) = some (if lo 6 2 ≤ v ∧ v < hi 6 2 n then 1 else 0) := by
  rw [show fr 6 + 2 = 15 from rfl]
  rw [may_k X (show 15 < 16 by decide), if_neg (by decide +kernel), show gTb 4 15 = (3 : Int32) from by decide +kernel]
  exact fitB X (l := lo 6 2) (h := hi 6 2 n) (fit3 X (nI v)) hv (by show _ ↔ 0 ≤ v; omega) (by show _ ↔ v < 10000; omega)
theorem ms_62 (M : GS) {n v : Nat} (h27 : M.1 27 = nI v) (h0 : M.1 0 = nI n) (hn : n ≤ 16) (hv : v ≤ 9999) : fX9_isSo M (nI 6) (nI 2) = some (if lo 6 2 ≤ v ∧ v < hi 6 2 n then 1 else 0) := by
  have c6 : ((6 : Int32) < nI v) = (6 < v) := nlt_e (a := 6) (by omega) (by omega)
  have c9 : ((9 : Int32) < nI v) = (9 < v) := nlt_e (a := 9) (by omega) (by omega)
  have c3 : ((3 : Int32) < nI v) = (3 < v) := nlt_e (a := 3) (by omega) (by omega)
  have c1 : ((1 : Int32) < nI v) = (1 < v) := nlt_e (a := 1) (by omega) (by omega)
  have c99 : ((99 : Int32) < nI v) = (99 < v) := nlt_e (a := 99) (by omega) (by omega)
  have c9999 : ((9999 : Int32) < nI v) = (9999 < v) := nlt_e (a := 9999) (by omega) (by omega)
  have d1 : (nI v < (1 : Int32)) = (v < 1) := nlt_e (b := 1) (by omega) (by omega)
  have d0 : (nI v < (0 : Int32)) = False := eq_false (nI_pos (by omega))
  have dm : (nI v < (-9999 : Int32)) = False := eq_false (by rw [tlt, tni v (by omega), t_m9999]; omega)
  have dn : (nI n ≤ nI v) = (n ≤ v) := nle_e (by omega) (by omega)
  show fX9_isSo M 6 2 = some (if 0 ≤ v ∧ v < 10000 then 1 else 0)
  simp only [fX9_isSo, fX9_isTold, fX9_isAsked, fX9_isYards, fX9_isReading, h27, h0, s33, s43, s53, s11, s21, l24, l34, l44, l54, l22, l23, l00, l01, l02, c6, c9, c3, c1, c99, c9999, d1, d0, dm, dn, eq_self, kn_01, kn_02, kn_03, kn_04, kn_05, kn_06, kn_10, kn_12, kn_13, kn_14, kn_15, kn_16, kn_20, kn_21, kn_23, kn_24, kn_25, kn_26, kn_30, kn_31, kn_32, kn_34, kn_35, kn_36, kn_40, kn_41, kn_42, kn_43, kn_45, kn_46, kn_50, kn_51, kn_52, kn_53, kn_54, kn_56, kn_60, kn_61, kn_62, kn_63, kn_64, kn_65, Option.bind_some, ↓reduceIte, km_1, km_2, km_3, km_4, km_5, km_6, km_7, kn_10, kn_20, kn_21]
  by_cases q : 0 ≤ v ∧ v < 10000
  · rw [if_pos q]
    repeat' split
    all_goals first | rfl | (exfalso; omega)
  · rw [if_neg q]
    repeat' split
    all_goals first | rfl | (exfalso; omega)
theorem nn_r : ∀ w, w < 7 → 1 ≤ nn w ∧ nn w ≤ 6 ∧ fr (w + 1) = fr w + nn w ∧ fr w < 17 := by decide +kernel
theorem may {X M : GS} {n v w i : Nat} (h34 : X.1 34 = nI n) (h27 : M.1 27 = nI v) (h0 : M.1 0 = nI n) (hn : n ≤ 16) (hv : v ≤ 9999) (hw : w < 7) (hi' : i < nn w) : fX4_mayStand X (nI (fr w + i)) (nI v) = some (if lo w i ≤ v ∧ v < hi w i n then 1 else 0) ∧ fX9_isSo M (nI w) (nI i) = some (if lo w i ≤ v ∧ v < hi w i n then 1 else 0) := by
  rcases (show w = 0 ∨ w = 1 ∨ w = 2 ∨ w = 3 ∨ w = 4 ∨ w = 5 ∨ w = 6 by omega) with rfl | rfl | rfl | rfl | rfl | rfl | rfl
  · have hi2 : i < 6 := hi'
    rcases (show i = 0 ∨ i = 1 ∨ i = 2 ∨ i = 3 ∨ i = 4 ∨ i = 5 by omega) with rfl | rfl | rfl | rfl | rfl | rfl
    · exact ⟨mx_00 X h34 hn hv, ms_00 M h27 h0 hn hv⟩
    · exact ⟨mx_01 X h34 hn hv, ms_01 M h27 h0 hn hv⟩
    · exact ⟨mx_02 X h34 hn hv, ms_02 M h27 h0 hn hv⟩
    · exact ⟨mx_03 X h34 hn hv, ms_03 M h27 h0 hn hv⟩
    · exact ⟨mx_04 X h34 hn hv, ms_04 M h27 h0 hn hv⟩
    · exact ⟨mx_05 X h34 hn hv, ms_05 M h27 h0 hn hv⟩
  · have hi2 : i < 2 := hi'
    rcases (show i = 0 ∨ i = 1 by omega) with rfl | rfl
    · exact ⟨mx_10 X h34 hn hv, ms_10 M h27 h0 hn hv⟩
    · exact ⟨mx_11 X h34 hn hv, ms_11 M h27 h0 hn hv⟩
  · have hi2 : i < 2 := hi'
    rcases (show i = 0 ∨ i = 1 by omega) with rfl | rfl
    · exact ⟨mx_20 X h34 hn hv, ms_20 M h27 h0 hn hv⟩
    · exact ⟨mx_21 X h34 hn hv, ms_21 M h27 h0 hn hv⟩
  · have e : i = 0 := by
      have : i < 1 := hi'
      omega
    subst e
    exact ⟨mx_30 X h34 hn hv, ms_30 M h27 h0 hn hv⟩
  · have e : i = 0 := by
      have : i < 1 := hi'
      omega
    subst e
    exact ⟨mx_40 X h34 hn hv, ms_40 M h27 h0 hn hv⟩
  · have e : i = 0 := by
      have : i < 1 := hi'
      omega
    subst e
    exact ⟨mx_50 X h34 hn hv, ms_50 M h27 h0 hn hv⟩
  · have hi2 : i < 3 := hi'
    rcases (show i = 0 ∨ i = 1 ∨ i = 2 by omega) with rfl | rfl | rfl
    · exact ⟨mx_60 X h34 hn hv, ms_60 M h27 h0 hn hv⟩
    · exact ⟨mx_61 X h34 hn hv, ms_61 M h27 h0 hn hv⟩
    · exact ⟨mx_62 X h34 hn hv, ms_62 M h27 h0 hn hv⟩
abbrev isDg (x : Int32) : Prop := 48 ≤ x.toInt ∧ x.toInt ≤ 57
theorem t_48 : (48 : Int32).toInt = 48 := by decide +kernel
theorem t_57 : (57 : Int32).toInt = 57 := by decide +kernel
theorem dg_t {x : Int32} (h : isDg x) : ∃ t, t < 10 ∧ x = nI (48 + t) := by
  obtain ⟨y, -, e, e2⟩ := of_nn (x := x) (by omega)
  exact ⟨y - 48, by omega, by rw [e]; congr 1; omega⟩
theorem dg_v {val t : Nat} : (((10 : Int32) * nI val) + nI (48 + t)) - (48 : Int32) = nI (10 * val + t) := by
  rw [show (10 : Int32) = nI 10 from rfl, pk_mul, i_add, show (48 : Int32) = nI 48 from rfl, pk_sub (by omega)]
  congr 1
  omega
section NUMS
variable {c : Nat → Int32} {s L : Nat} {X M : GS}
theorem m_isD (h : PC c s L X M) {p : Nat} (hp : M.1 25 = nI p) (hp2 : p < 100000) : fX9_isDigit M = some (if isDg (ltr c L p) then 1 else 0) := by
  have hL := h.2.1
  have hs := h.1
  have g1 : (nI L ≤ nI p) = (L ≤ p) := nle_e (by omega) (by omega)
  by_cases q : L ≤ p
  · have e : ltr c L p = -1 := if_neg (by omega)
    simp only [fX9_isDigit, h.2.2.2.2.2.1, hp, g1, eq_true q, e, Option.bind_some, ↓reduceIte, km_1, km_2, km_3, km_4, km_5, km_6, km_7, kn_10, kn_20, kn_21]
    rw [if_neg (by decide +kernel)]
  · have e : ltr c L p = c p := if_pos (by omega)
    simp only [fX9_isDigit, h.2.2.2.2.2.1, hp, g1, eq_false q, h.2.2.2.2.1, i_add, clm (show 160 * s + p < 2147483648 by omega), in1280 (show 160 * s + p < 1280 by omega), h.2.2.2.2.2.2.1 p (by omega), e, (show (c p < (48 : Int32)) = ((c p).toInt < 48) by rw [tlt, t_48]), (show ((57 : Int32) < c p) = (57 < (c p).toInt) by rw [tlt, t_57]), Option.bind_some, ↓reduceIte, km_1, km_2, km_3, km_4, km_5, km_6, km_7, kn_10, kn_20, kn_21]
    by_cases q1 : (c p).toInt < 48
    · rw [if_pos q1, if_neg (by omega)]
    · by_cases q2 : 57 < (c p).toInt
      · rw [if_neg q1, if_pos q2, if_neg (by omega)]
      · rw [if_neg q1, if_neg q2, if_pos (by omega)]
theorem m_cell (h : PC c s L X M) {p : Nat} (hp : M.1 25 = nI p) (q : p < L) : (((M.1 24) + (M.1 25)) < 0 ∨ 1280 ≤ ((M.1 24) + (M.1 25)).toNatClampNeg) = False ∧ ((M.2.2.2 19 ((M.1 24) + (M.1 25)).toNatClampNeg)).toInt32 = ltr c L p := by
  have hL := h.2.1
  have hs := h.1
  have e : ltr c L p = c p := if_pos (by omega)
  rw [h.2.2.2.2.1, hp, i_add, clm (show 160 * s + p < 2147483648 by omega), e]
  exact ⟨in1280 (by omega), h.2.2.2.2.2.2.1 p q⟩
theorem digits {q : Nat} (hq : q < 90000) : ∀ (d k fu fv : Nat) (X M : GS) (val : Nat), 4 - k = d → k ≤ 4 → d < fu → d < fv → PC c s L X M → X.1 84 = nI (q + k) → M.1 25 = nI (q + k) → M.1 27 = nI val → val < 10 ^ k →
    ∃ k' val' X' M', k ≤ k' ∧ k' ≤ 4 ∧ val' < 10 ^ k' ∧ fX4_number_8 fu X (nI q) (nI val) = some (nI val', X') ∧ X'.1 84 = nI (q + k') ∧ (∀ j, j ≠ 84 → X'.1 j = X.1 j) ∧ X'.2 = X.2 ∧ fX9_reads_23 fv M (nI k) = some M' ∧ M'.1 25 = nI (q + k') ∧ M'.1 27 = nI val' ∧ (∀ j, j ≠ 25 → j ≠ 27 → M'.1 j = M.1 j) ∧ M'.2 = M.2 ∧ (k < 4 → isDg (ltr c L (q + k)) → k < k') ∧ (¬ isDg (ltr c L (q + k)) → k' = k) := by
  intro d
  induction d with
  | zero =>
    intro k fu fv X M val hd hk hf hg hP hx hm hv h10
    obtain ⟨fu, rfl⟩ : ∃ q, fu = q + 1 := ⟨fu - 1, by omega⟩
    obtain ⟨fv, rfl⟩ : ∃ q, fv = q + 1 := ⟨fv - 1, by omega⟩
    have e : k = 4 := by omega
    subst e
    refine ⟨4, val, X, M, Nat.le_refl _, Nat.le_refl _, h10, ?_, hx, fun _ _ => rfl, rfl, ?_, hm, hv, fun _ _ _ => rfl, rfl, fun h => absurd h (by omega), fun _ => rfl⟩
    · have e1 : nI (q + 4) - nI q = nI 4 := by
        rw [pk_sub (by omega)]
        congr 1
        omega
      rw [fX4_number_8, hx, e1, if_pos (by decide +kernel)]
    · rw [fX9_reads_23, if_pos (by decide +kernel)]
  | succ d ih =>
    intro k fu fv X M val hd hk hf hg hP hx hm hv h10
    obtain ⟨fu, rfl⟩ : ∃ q, fu = q + 1 := ⟨fu - 1, by omega⟩
    obtain ⟨fv, rfl⟩ : ∃ q, fv = q + 1 := ⟨fv - 1, by omega⟩
    have e1 : nI (q + k) - nI q = nI k := by
      rw [pk_sub (by omega)]
      congr 1
      omega
    have g4 : ((4 : Int32) ≤ nI k) = False := (nle_e (a := 4) (by omega) (by omega)).trans (eq_false (by omega))
    have eL := x_let hP (show q + k < 100000 by omega)
    have eD := m_isD hP hm (by omega)
    by_cases hD : isDg (ltr c L (q + k))
    · obtain ⟨t, ht, et⟩ := dg_t hD
      have hin : q + k < L := by
        by_cases z : q + k < L
        · exact z
        · exfalso
          have y : ltr c L (q + k) = -1 := if_neg z
          rw [y] at hD
          exact absurd hD (by decide +kernel)
      obtain ⟨m1, m2⟩ := m_cell hP hm hin
      rw [if_pos hD] at eD
      have c1 : (ltr c L (q + k) < (48 : Int32)) = False := eq_false (by rw [tlt, t_48]; omega)
      have c2 : ((57 : Int32) < ltr c L (q + k)) = False := eq_false (by rw [tlt, t_57]; omega)
      rw [et] at c1 c2
      have hP2 : PC c s L (gU1 X 84 (nI (q + (k + 1)))) (gU1 (gU1 M 27 (nI (10 * val + t))) 25 (nI (q + (k + 1)))) := hP.f (XF.u1 _ _ (by decide)) ((MF.u1 _ _ (by decide)).tr (MF.u1 _ _ (by decide)))
      obtain ⟨k', val', X', M', a1, a2, a3, a4, a5, a6, a7, a8, a9, a10, a11, a12, -, -⟩ := ih (k + 1) fu fv _ _ (10 * val + t) (by omega) (by omega) (by omega) (by omega) hP2 rfl rfl rfl (by rw [Nat.pow_succ]; omega)
      refine ⟨k', val', X', M', by omega, a2, a3, ?_, a5, fun j hj => ?_, a7, ?_, a9, a10, fun j h1 h2 => ?_, a12, fun _ _ => by omega, fun z => absurd hD z⟩
      · rw [fX4_number_8]
        simp only [hx, e1, g4, eL, c1, c2, et, dg_v, i_add1, Option.bind_some, ↓reduceIte, km_1, km_2, km_3, km_4, km_5, km_6, km_7, kn_10, kn_20, kn_21]
        exact a4
      · rw [a6 j hj, gU1_n _ _ _ _ hj]
      · rw [fX9_reads_23]
        simp only [g4, eD, kn_10, m1, m2, hv, et, dg_v, gLet_eq, Option.bind_some, ↓reduceIte, km_1, km_2, km_3, km_4, km_5, km_6, km_7, kn_10, kn_20, kn_21]
        rw [show (gU1 M 27 (nI (10 * val + t))).1 25 = M.1 25 from rfl, hm, i_add1, i_add1]
        exact a8
      · rw [a11 j h1 h2, gU1_n _ _ _ _ h1, gU1_n _ _ _ _ h2]
    · rw [if_neg hD] at eD
      refine ⟨k, val, X, M, Nat.le_refl _, hk, h10, ?_, hx, fun _ _ => rfl, rfl, ?_, hm, hv, fun _ _ _ => rfl, rfl, fun _ z => absurd z hD, fun _ => rfl⟩
      · rw [fX4_number_8]
        simp only [hx, e1, g4, eL, Option.bind_some, ↓reduceIte, km_1, km_2, km_3, km_4, km_5, km_6, km_7, kn_10, kn_20, kn_21]
        by_cases z : ltr c L (q + k) < (48 : Int32)
        · rw [if_pos z]
        · rw [if_neg z, if_pos (by
            rw [tlt, t_48] at z
            rw [tlt, t_57]
            omega)]
      · rw [fX9_reads_23]
        simp only [g4, eD, eq_self, Option.bind_some, ↓reduceIte, km_1, km_2, km_3, km_4, km_5, km_6, km_7, kn_10, kn_20, kn_21]
theorem num (hP : PC c s L X M) {q n w i : Nat} (hx : X.1 84 = nI q) (hm : M.1 25 = nI q) (hq : q < 90000) (h34 : X.1 34 = nI n) (h0 : M.1 0 = nI n) (hn : n ≤ 16) (hw : w < 7) (hi' : i < nn w) :
    (∃ X' M1 v k, fX4_number X (nI i) (nI (fr w + i)) = some (1, X') ∧ fX9_reads M = some (1, M1) ∧ fX9_isSo M1 (nI w) (nI i) = some 1 ∧ M1.1 27 = nI v ∧ M1.1 25 = nI (q + k) ∧ X'.1 84 = nI (q + k) ∧ 1 ≤ k ∧ k ≤ 4 ∧ lo w i ≤ v ∧ v < hi w i n ∧ X'.2.2.1 81 = upd (X.2.2.1 81) i (nI v) ∧ (∀ j, j ≠ 84 → X'.1 j = X.1 j) ∧ (∀ j, j ≠ 81 → X'.2.2.1 j = X.2.2.1 j) ∧ X'.2.2.2 = X.2.2.2 ∧ (∀ j, j ≠ 25 → j ≠ 27 → M1.1 j = M.1 j) ∧ M1.2 = M.2) ∨
    (∃ X' M1, fX4_number X (nI i) (nI (fr w + i)) = some (0, X') ∧ X'.1 85 = nI q ∧ XF X X' ∧ MF M M1 ∧ ((fX9_reads M = some (0, M1) ∧ M1.1 28 = nI q) ∨ (fX9_reads M = some (1, M1) ∧ fX9_isSo M1 (nI w) (nI i) = some 0))) := by
  have hr := nn_r w hw
  have hP2 : PC c s L X (gU1 M 27 0) := hP.f (XF.rf X) (MF.u1 _ _ (by decide))
  obtain ⟨k, v, X1, M1, a1, a2, a3, a4, a5, a6, a7, a8, a9, a10, a11, a12, a13, a14⟩ := digits hq 4 0 gFuel gFuel X (gU1 M 27 0) 0 rfl (by decide) (gFu _ (by decide)) (gFu _ (by decide)) hP2 hx hm rfl (by decide)
  have eD := m_isD hP2 (p := q) hm (by omega)
  rw [show nI 0 = (0 : Int32) from rfl] at a4 a8
  rw [Nat.add_zero] at a13 a14
  have gk : (nI (q + k) ≤ nI q) = (k = 0) := (nle_e (by omega) (by omega)).trans (propext ⟨fun z => by omega, fun z => by omega⟩)
  by_cases hD : isDg (ltr c L q)
  · have k1 := a13 (by decide) hD
    rw [if_pos hD] at eD
    have hv : v ≤ 9999 := by
      have : 10 ^ k ≤ 10 ^ 4 := Nat.pow_le_pow_right (by decide) a2
      have e4 : (10 : Nat) ^ 4 = 10000 := by decide
      omega
    have x34 : X1.1 34 = nI n := by rw [a6 34 (by decide)]; exact h34
    have m0 : M1.1 0 = nI n := by rw [a11 0 (by decide) (by decide)]; exact h0
    obtain ⟨y1, y2⟩ := may x34 a10 m0 hn hv hw hi'
    have eR : fX9_reads M = some (1, M1) := by
      rw [fX9_reads, eD]
      simp only [Option.bind_some, kn_10, ↓reduceIte, a8]
    have fM : MF M M1 := ⟨fun j hj => by rw [a11 j (by omega) (by omega), gU1_n _ _ _ _ (by omega)], fun j _ _ => by rw [a12]; rfl, by rw [a12]; rfl⟩
    by_cases z : lo w i ≤ v ∧ v < hi w i n
    · rw [if_pos z] at y1 y2
      refine Or.inl ⟨gU3 X1 81 i (nI v), M1, v, k, ?_, eR, y2, a10, a9, a5, k1, a2, z.1, z.2, ?_, a6, fun j hj => ?_, ?_, fun j h1 h2 => ?_, a12⟩
      · have gi : (nI i < 0) = False := eq_false (nI_pos (by omega))
        have g6 : ((6 : Int32) ≤ nI i) = False := (nle_e (a := 6) (by omega) (by omega)).trans (eq_false (by omega))
        rw [fX4_number, hx, a4]
        simp only [fX4_number_L76, fX4_number_L127, a5, gk, eq_false (show ¬ k = 0 by omega), y1, gi, g6, eq_false (show ¬ 6 ≤ i by omega), or_false, clm (show i < 2147483648 by omega), kn_10, Option.bind_some, ↓reduceIte, km_1, km_2, km_3, km_4, km_5, km_6, km_7, kn_10, kn_20, kn_21]
      · rw [gU3_s, a7]
      · rw [gU3_n _ _ _ _ _ hj, a7]
      · show X1.2.2.2 = _
        rw [a7]
      · rw [a11 j h1 h2, gU1_n _ _ _ _ h2]
    · rw [if_neg z] at y1 y2
      refine Or.inr ⟨gU1 X1 85 (nI q), M1, ?_, rfl, ⟨fun j h1 h2 h3 h4 => ?_, fun j _ _ _ => ?_, ?_⟩, fM, Or.inr ⟨eR, y2⟩⟩
      · rw [fX4_number, hx, a4]
        simp only [fX4_number_L76, fX4_number_L98, fX4_number_L127, fX4_faultIs, a5, gk, eq_false (show ¬ k = 0 by omega), y1, eq_self, Option.bind_some, ↓reduceIte, km_1, km_2, km_3, km_4, km_5, km_6, km_7, kn_10, kn_20, kn_21]
      · rw [gU1_n _ _ _ _ h4, a6 j h3]
      · show X1.2.2.1 j = _
        rw [a7]
      · show X1.2.2.2 = _
        rw [a7]
  · have k0 := a14 hD
    subst k0
    rw [if_neg hD] at eD
    refine Or.inr ⟨gU1 X1 85 (nI q), gU1 (gU1 M 27 0) 28 (nI q), ?_, rfl, ⟨fun j h1 h2 h3 h4 => ?_, fun j _ _ _ => ?_, ?_⟩, (MF.u1 _ _ (by decide)).tr (MF.u1 _ _ (by decide)), Or.inl ⟨?_, rfl⟩⟩
    · rw [fX4_number, hx, a4]
      simp only [fX4_number_L76, fX4_number_L98, fX4_number_L127, fX4_faultIs, a5, gk, eq_self, Option.bind_some, ↓reduceIte, km_1, km_2, km_3, km_4, km_5, km_6, km_7, kn_10, kn_20, kn_21]
    · rw [gU1_n _ _ _ _ h4, a6 j h3]
    · show X1.2.2.1 j = _
      rw [a7]
    · show X1.2.2.2 = _
      rw [a7]
    · rw [fX9_reads, eD]
      have e25 : (gU1 M 27 0).1 25 = nI q := hm
      simp only [Option.bind_some, eq_self, ↓reduceIte, fX9_wrong, e25, true_or, not_true_eq_false]
end NUMS
