/-! says, setupOf, tell, ask -/
theorem t_2 : (2 : Int32).toInt = 2 := by decide +kernel
theorem t_m9999 : (-9999 : Int32).toInt = -9999 := by decide +kernel
theorem xgk {X M : GS} {n : Nat} (h : RLp X M n) {i : Nat} (hi : i < n) {k : Nat} (hk : k < 8) : fX3_get_now X (nI i) (nI k) = some (M.2.2.1 (7 + k) i) := by
  rcases (show k = 0 ∨ k = 1 ∨ k = 2 ∨ k = 3 ∨ k = 4 ∨ k = 5 ∨ k = 6 ∨ k = 7 by omega) with rfl | rfl | rfl | rfl | rfl | rfl | rfl | rfl
  · exact xg0 h hi
  · exact xg1 h hi
  · exact xg2 h hi
  · exact xg3 h hi
  · exact xg4 h hi
  · exact xg5 h hi
  · exact xg6 h hi
  · exact xg7 h hi
set_option maxHeartbeats 4000000 in
theorem s_setupOf {X M : GS} (h : Rel X M) (a b : Int32) : St (fX8_setupOf X a b) (fX9_setupOf M a b) := by
  obtain ⟨n, hL, hSh, hO⟩ := id h
  have hn := hL.1
  rcases ix3 a n (by omega) with ha | ⟨i, hi, rfl⟩
  · rw [fX8_setupOf, fX9_setupOf, x_hasSU0 hL ha, m_hasSU0 hL ha]
    show St (fX8_setupOf_L21 X) ((fX9_noFar M (-5)).bind fun u => some (u.1, u.2))
    exact s_far h _ (by decide)
  · have kd : (nI i).toNatClampNeg = i := nI_clamp (by omega)
    rcases ix3 b 11 (by omega) with hb | ⟨k, hk, rfl⟩
    · rcases hb with hb | hb
      · simp (disch := omega) only [fX8_setupOf, fX8_setupOf_L21, fX9_setupOf, x_hasSU hL hi, m_hasSU hL hi, reduceIte, Int32.reduceToInt, t_m1, t_m2, t_m3, t_m4, t_m5, t_m6, t_m7, ite_true, ite_false, tlt, tle, teq, tcl, tni, i_mul8, i_mul160, i_160mul, i_add, i_add1, i_100add, Int.toNat_natCast, if_yes, if_no, Option.bind_some, gLet_eq, and_true, true_and, or_false, false_or, not_true_eq_false, not_false_eq_true]
        exact s_far h _ (by decide)
      · simp (disch := omega) only [fX8_setupOf, fX8_setupOf_L21, fX9_setupOf, x_hasSU hL hi, m_hasSU hL hi, reduceIte, Int32.reduceToInt, t_m1, t_m2, t_m3, t_m4, t_m5, t_m6, t_m7, ite_true, ite_false, tlt, tle, teq, tcl, tni, i_mul8, i_mul160, i_160mul, i_add, i_add1, i_100add, Int.toNat_natCast, if_yes, if_no, Option.bind_some, gLet_eq, and_true, true_and, or_false, false_or, not_true_eq_false, not_false_eq_true]
        exact s_far h _ (by decide)
    · by_cases hk8 : k < 8
      · have e := xgk hL hi hk8
        rcases (show k = 0 ∨ k = 1 ∨ k = 2 ∨ k = 3 ∨ k = 4 ∨ k = 5 ∨ k = 6 ∨ k = 7 by omega) with rfl | rfl | rfl | rfl | rfl | rfl | rfl | rfl
        all_goals
          simp (disch := omega) only [fX8_setupOf, fX8_setupOf_L21, fX9_setupOf, x_hasSU hL hi, m_hasSU hL hi, e, reduceIte, Int32.reduceToInt, t_m1, t_m2, t_m3, t_m4, t_m5, t_m6, t_m7, ite_true, ite_false, tlt, tle, teq, tcl, tni, i_mul8, i_mul160, i_160mul, i_add, i_add1, i_100add, Int.toNat_natCast, if_yes, if_no, Option.bind_some, gLet_eq, and_true, true_and, or_false, false_or, not_true_eq_false, not_false_eq_true]
          exact ⟨_, _, rfl, rfl, rfl, h⟩
      · rcases (show k = 8 ∨ k = 9 ∨ k = 10 by omega) with rfl | rfl | rfl
        all_goals
          simp (disch := omega) only [fX8_setupOf, fX8_setupOf_L21, fX9_setupOf, x_hasSU hL hi, m_hasSU hL hi, x_booked hL hi, x_err hL hi, x_rise hL hi, m_booked M (show i < 16 by omega), m_err hL hi, m_rise hL hi, reduceIte, Int32.reduceToInt, t_m1, t_m2, t_m3, t_m4, t_m5, t_m6, t_m7, ite_true, ite_false, tlt, tle, teq, tcl, tni, i_mul8, i_mul160, i_160mul, i_add, i_add1, i_100add, Int.toNat_natCast, if_yes, if_no, Option.bind_some, gLet_eq, and_true, true_and, or_false, false_or, not_true_eq_false, not_false_eq_true]
          exact ⟨_, _, rfl, rfl, rfl, h⟩
/-- a figure of a set-up is told anew -/
theorem Rel.fig {X M : GS} (h : Rel X M) {n : Nat} (hL : RLp X M n) {i : Nat} (hi : i < n) {v : Int32} :
    (isN v 0 9999 → Rel (gU3 X 0 (8 * i + 2) v) (gU3 M 9 i v) ∧ Rel (gU3 X 0 (8 * i + 3) v) (gU3 M 10 i v)) ∧ (isN v 0 3 → Rel (gU3 X 0 (8 * i + 6) v) (gU3 M 13 i v)) ∧ (isN v 0 1 → Rel (gU3 X 0 (8 * i + 7) v) (gU3 M 14 i v)) := by
  obtain ⟨n', hL', hSh, hO⟩ := h
  have en : n' = n := by
    have e1 := hL'.2.1.symm.trans hL.2.1
    have := hL.1
    have := hL'.1
    rw [teq, tni _ (by omega), tni _ (by omega)] at e1
    omega
  subst en
  refine ⟨fun hv => ⟨⟨n', ⟨hL.1, hL.2.1, hL.2.2.1, fun j hj => ?_, fun j hj => ?_, hL.2.2.2.2.2.1, hL.2.2.2.2.2.2⟩, hSh, hO⟩, ⟨n', ⟨hL.1, hL.2.1, hL.2.2.1, fun j hj => ?_, fun j hj => ?_, hL.2.2.2.2.2.1, hL.2.2.2.2.2.2⟩, hSh, hO⟩⟩, fun hv => ⟨n', ⟨hL.1, hL.2.1, hL.2.2.1, fun j hj => ?_, fun j hj => ?_, hL.2.2.2.2.2.1, hL.2.2.2.2.2.2⟩, hSh, hO⟩, fun hv => ⟨n', ⟨hL.1, hL.2.1, hL.2.2.1, fun j hj => ?_, fun j hj => ?_, hL.2.2.2.2.2.1, hL.2.2.2.2.2.2⟩, hSh, hO⟩⟩
  all_goals
    have q1 := hL.2.2.2.1 j hj
    have q2 := hL.2.2.2.2.1 j hj
    by_cases e : j = i
    · subst e
      simp (disch := omega) only [gU1_s, gU1_n, gU1_2, gU2_1, gU2_s, gU2_n, gU2_3, gU3_1, gU3_2, gU3_s, gU3_n, gU3_4, gU4_1, gU4_2, gU4_3, gU4_s, gU4_n, gA3_1, gA3_2, gA3_s, gA3_n, gA3_4, gA4_1, gA4_3, gA4_s, gA4_n, upd_i, if_yes, if_no, reduceIte, true_and, and_true]
      simp only [q1, q2, hv, true_and, and_true, and_self]
    · simp (disch := omega) only [gU1_s, gU1_n, gU1_2, gU2_1, gU2_s, gU2_n, gU2_3, gU3_1, gU3_2, gU3_s, gU3_n, gU3_4, gU4_1, gU4_2, gU4_3, gU4_s, gU4_n, gA3_1, gA3_2, gA3_s, gA3_n, gA3_4, gA4_1, gA4_3, gA4_s, gA4_n, upd_i, if_yes, if_no, reduceIte]
      first | exact q1 | exact q2
theorem m_isTold (M : GS) (w v : Int32) (hw : 0 ≤ w.toInt ∧ w.toInt ≤ 3) : fX9_isTold M w v = some (if w.toInt ≤ 1 then (if 0 ≤ v.toInt ∧ v.toInt ≤ 9999 then 1 else 0) else if w.toInt = 2 then (if 0 ≤ v.toInt ∧ v.toInt ≤ 3 then 1 else 0) else (if 0 ≤ v.toInt ∧ v.toInt ≤ 1 then 1 else 0)) := by
  by_cases h1 : w.toInt ≤ 1
  · rw [if_pos h1, fX9_isTold, if_neg (by rw [tle, t_2]; omega), m_reading]
    simp only [Option.bind_some]
    split <;> rfl
  · rw [if_neg h1]
    by_cases h2 : w.toInt = 2
    · rw [if_pos h2]
      by_cases h3 : v.toInt < 0
      · simp (disch := omega) only [fX9_isTold, reduceIte, Int32.reduceToInt, t_m1, t_m2, t_m3, t_m4, t_m5, t_m6, t_m7, ite_true, ite_false, tlt, tle, teq, tcl, tni, i_mul8, i_mul160, i_160mul, i_add, i_add1, i_100add, Int.toNat_natCast, if_yes, if_no, Option.bind_some, gLet_eq, and_true, true_and, or_false, false_or, not_true_eq_false, not_false_eq_true]
      · by_cases h4 : 3 < v.toInt
        · simp (disch := omega) only [fX9_isTold, reduceIte, Int32.reduceToInt, t_m1, t_m2, t_m3, t_m4, t_m5, t_m6, t_m7, ite_true, ite_false, tlt, tle, teq, tcl, tni, i_mul8, i_mul160, i_160mul, i_add, i_add1, i_100add, Int.toNat_natCast, if_yes, if_no, Option.bind_some, gLet_eq, and_true, true_and, or_false, false_or, not_true_eq_false, not_false_eq_true]
        · simp (disch := omega) only [fX9_isTold, reduceIte, Int32.reduceToInt, t_m1, t_m2, t_m3, t_m4, t_m5, t_m6, t_m7, ite_true, ite_false, tlt, tle, teq, tcl, tni, i_mul8, i_mul160, i_160mul, i_add, i_add1, i_100add, Int.toNat_natCast, if_yes, if_no, Option.bind_some, gLet_eq, and_true, true_and, or_false, false_or, not_true_eq_false, not_false_eq_true]
    · rw [if_neg h2]
      by_cases h3 : v.toInt < 0
      · simp (disch := omega) only [fX9_isTold, reduceIte, Int32.reduceToInt, t_m1, t_m2, t_m3, t_m4, t_m5, t_m6, t_m7, ite_true, ite_false, tlt, tle, teq, tcl, tni, i_mul8, i_mul160, i_160mul, i_add, i_add1, i_100add, Int.toNat_natCast, if_yes, if_no, Option.bind_some, gLet_eq, and_true, true_and, or_false, false_or, not_true_eq_false, not_false_eq_true]
      · by_cases h4 : 1 < v.toInt
        · simp (disch := omega) only [fX9_isTold, reduceIte, Int32.reduceToInt, t_m1, t_m2, t_m3, t_m4, t_m5, t_m6, t_m7, ite_true, ite_false, tlt, tle, teq, tcl, tni, i_mul8, i_mul160, i_160mul, i_add, i_add1, i_100add, Int.toNat_natCast, if_yes, if_no, Option.bind_some, gLet_eq, and_true, true_and, or_false, false_or, not_true_eq_false, not_false_eq_true]
        · simp (disch := omega) only [fX9_isTold, reduceIte, Int32.reduceToInt, t_m1, t_m2, t_m3, t_m4, t_m5, t_m6, t_m7, ite_true, ite_false, tlt, tle, teq, tcl, tni, i_mul8, i_mul160, i_160mul, i_add, i_add1, i_100add, Int.toNat_natCast, if_yes, if_no, Option.bind_some, gLet_eq, and_true, true_and, or_false, false_or, not_true_eq_false, not_false_eq_true]
set_option maxHeartbeats 4000000 in
theorem s_tell {X M : GS} (h : Rel X M) (a b c : Int32) : St (fX8_tell X a b c) (fX9_tell M a b c) := by
  obtain ⟨n, hL, hSh, hO⟩ := id h
  have hn := hL.1
  rcases ix3 a n (by omega) with ha | ⟨i, hi, rfl⟩
  · simp (disch := omega) only [fX8_tell, fX9_tell, x_hasSU0 hL ha, m_hasSU0 hL ha, reduceIte, Int32.reduceToInt, t_m1, t_m2, t_m3, t_m4, t_m5, t_m6, t_m7, ite_true, ite_false, tlt, tle, teq, tcl, tni, i_mul8, i_mul160, i_160mul, i_add, i_add1, i_100add, Int.toNat_natCast, if_yes, if_no, Option.bind_some, gLet_eq, and_true, true_and, or_false, false_or, not_true_eq_false, not_false_eq_true]
    exact s_no h _ (by decide)
  · have hi16 : i < 16 := by omega
    have kd : (nI i).toNatClampNeg = i := nI_clamp (by omega)
    obtain ⟨F1, F2, F3⟩ := h.fig hL hi (v := c)
    rcases ix3 b 4 (by omega) with hb | ⟨k, hk, rfl⟩
    · rcases hb with hb | hb
      · simp (disch := omega) only [fX8_tell, fX8_toldColumn, fX9_tell, x_hasSU hL hi, m_hasSU hL hi, reduceIte, Int32.reduceToInt, t_m1, t_m2, t_m3, t_m4, t_m5, t_m6, t_m7, ite_true, ite_false, tlt, tle, teq, tcl, tni, i_mul8, i_mul160, i_160mul, i_add, i_add1, i_100add, Int.toNat_natCast, if_yes, if_no, Option.bind_some, gLet_eq, and_true, true_and, or_false, false_or, not_true_eq_false, not_false_eq_true]
        exact s_no h _ (by decide)
      · simp (disch := omega) only [fX8_tell, fX8_toldColumn, fX9_tell, x_hasSU hL hi, m_hasSU hL hi, reduceIte, Int32.reduceToInt, t_m1, t_m2, t_m3, t_m4, t_m5, t_m6, t_m7, ite_true, ite_false, tlt, tle, teq, tcl, tni, i_mul8, i_mul160, i_160mul, i_add, i_add1, i_100add, Int.toNat_natCast, if_yes, if_no, Option.bind_some, gLet_eq, and_true, true_and, or_false, false_or, not_true_eq_false, not_false_eq_true]
        exact s_no h _ (by decide)
    · rcases (show k = 0 ∨ k = 1 ∨ k = 2 ∨ k = 3 by omega) with rfl | rfl | rfl | rfl
      · have hT := m_isTold M (nI 0) c (by decide)
        by_cases hc : 0 ≤ c.toInt ∧ c.toInt ≤ 9999
        · simp (disch := omega) only [fX8_tell, fX8_toldColumn, fX9_tell, x_hasSU hL hi, m_hasSU hL hi, hT, fit2, xg2 hL hi, xp2 X hi16, reduceIte, Int32.reduceToInt, t_m1, t_m2, t_m3, t_m4, t_m5, t_m6, t_m7, ite_true, ite_false, tlt, tle, teq, tcl, tni, i_mul8, i_mul160, i_160mul, i_add, i_add1, i_100add, Int.toNat_natCast, if_yes, if_no, Option.bind_some, gLet_eq, and_true, true_and, or_false, false_or, not_true_eq_false, not_false_eq_true]
          exact ⟨_, _, rfl, rfl, rfl, (F1 (isN_of hc.1 hc.2)).1⟩
        · simp (disch := omega) only [fX8_tell, fX8_toldColumn, fX9_tell, x_hasSU hL hi, m_hasSU hL hi, hT, fit2, reduceIte, Int32.reduceToInt, t_m1, t_m2, t_m3, t_m4, t_m5, t_m6, t_m7, ite_true, ite_false, tlt, tle, teq, tcl, tni, i_mul8, i_mul160, i_160mul, i_add, i_add1, i_100add, Int.toNat_natCast, if_yes, if_no, Option.bind_some, gLet_eq, and_true, true_and, or_false, false_or, not_true_eq_false, not_false_eq_true]
          exact s_no h _ (by decide)
      · have hT := m_isTold M (nI 1) c (by decide)
        by_cases hc : 0 ≤ c.toInt ∧ c.toInt ≤ 9999
        · simp (disch := omega) only [fX8_tell, fX8_toldColumn, fX9_tell, x_hasSU hL hi, m_hasSU hL hi, hT, fit3, xg3 hL hi, xp3 X hi16, reduceIte, Int32.reduceToInt, t_m1, t_m2, t_m3, t_m4, t_m5, t_m6, t_m7, ite_true, ite_false, tlt, tle, teq, tcl, tni, i_mul8, i_mul160, i_160mul, i_add, i_add1, i_100add, Int.toNat_natCast, if_yes, if_no, Option.bind_some, gLet_eq, and_true, true_and, or_false, false_or, not_true_eq_false, not_false_eq_true]
          exact ⟨_, _, rfl, rfl, rfl, (F1 (isN_of hc.1 hc.2)).2⟩
        · simp (disch := omega) only [fX8_tell, fX8_toldColumn, fX9_tell, x_hasSU hL hi, m_hasSU hL hi, hT, fit3, reduceIte, Int32.reduceToInt, t_m1, t_m2, t_m3, t_m4, t_m5, t_m6, t_m7, ite_true, ite_false, tlt, tle, teq, tcl, tni, i_mul8, i_mul160, i_160mul, i_add, i_add1, i_100add, Int.toNat_natCast, if_yes, if_no, Option.bind_some, gLet_eq, and_true, true_and, or_false, false_or, not_true_eq_false, not_false_eq_true]
          exact s_no h _ (by decide)
      · have hT := m_isTold M (nI 2) c (by decide)
        by_cases hc : 0 ≤ c.toInt ∧ c.toInt ≤ 3
        · simp (disch := omega) only [fX8_tell, fX8_toldColumn, fX9_tell, x_hasSU hL hi, m_hasSU hL hi, hT, fit6, xg6 hL hi, xp6 X hi16, reduceIte, Int32.reduceToInt, t_m1, t_m2, t_m3, t_m4, t_m5, t_m6, t_m7, ite_true, ite_false, tlt, tle, teq, tcl, tni, i_mul8, i_mul160, i_160mul, i_add, i_add1, i_100add, Int.toNat_natCast, if_yes, if_no, Option.bind_some, gLet_eq, and_true, true_and, or_false, false_or, not_true_eq_false, not_false_eq_true]
          exact ⟨_, _, rfl, rfl, rfl, F2 (isN_of hc.1 hc.2)⟩
        · simp (disch := omega) only [fX8_tell, fX8_toldColumn, fX9_tell, x_hasSU hL hi, m_hasSU hL hi, hT, fit6, reduceIte, Int32.reduceToInt, t_m1, t_m2, t_m3, t_m4, t_m5, t_m6, t_m7, ite_true, ite_false, tlt, tle, teq, tcl, tni, i_mul8, i_mul160, i_160mul, i_add, i_add1, i_100add, Int.toNat_natCast, if_yes, if_no, Option.bind_some, gLet_eq, and_true, true_and, or_false, false_or, not_true_eq_false, not_false_eq_true]
          exact s_no h _ (by decide)
      · have hT := m_isTold M (nI 3) c (by decide)
        by_cases hc : 0 ≤ c.toInt ∧ c.toInt ≤ 1
        · simp (disch := omega) only [fX8_tell, fX8_toldColumn, fX9_tell, x_hasSU hL hi, m_hasSU hL hi, hT, fit7, xg7 hL hi, xp7 X hi16, reduceIte, Int32.reduceToInt, t_m1, t_m2, t_m3, t_m4, t_m5, t_m6, t_m7, ite_true, ite_false, tlt, tle, teq, tcl, tni, i_mul8, i_mul160, i_160mul, i_add, i_add1, i_100add, Int.toNat_natCast, if_yes, if_no, Option.bind_some, gLet_eq, and_true, true_and, or_false, false_or, not_true_eq_false, not_false_eq_true]
          exact ⟨_, _, rfl, rfl, rfl, F3 (isN_of hc.1 hc.2)⟩
        · simp (disch := omega) only [fX8_tell, fX8_toldColumn, fX9_tell, x_hasSU hL hi, m_hasSU hL hi, hT, fit7, reduceIte, Int32.reduceToInt, t_m1, t_m2, t_m3, t_m4, t_m5, t_m6, t_m7, ite_true, ite_false, tlt, tle, teq, tcl, tni, i_mul8, i_mul160, i_160mul, i_add, i_add1, i_100add, Int.toNat_natCast, if_yes, if_no, Option.bind_some, gLet_eq, and_true, true_and, or_false, false_or, not_true_eq_false, not_false_eq_true]
          exact s_no h _ (by decide)
theorem m_isAsked0 (M : GS) (v : Int32) : fX9_isAsked M 0 v = some (if -9999 ≤ v.toInt ∧ v.toInt ≤ 9999 then 1 else 0) := by
  simp only [fX9_isAsked, tlt, reduceIte, t_m9999, Int32.reduceToInt]
  by_cases q1 : v.toInt < -9999
  · rw [if_pos q1, if_neg (by omega)]
  · by_cases q2 : 9999 < v.toInt
    · rw [if_neg q1, if_pos q2, if_neg (by omega)]
    · rw [if_neg q1, if_neg q2, if_pos (by omega)]
theorem m_isAsked1 (M : GS) (v : Int32) : fX9_isAsked M 1 v = some (if 0 ≤ v.toInt ∧ v.toInt ≤ 9 then 1 else 0) := by
  simp only [fX9_isAsked, kn_10, tlt, reduceIte, Int32.reduceToInt]
  by_cases q1 : v.toInt < 0
  · rw [if_pos q1, if_neg (by omega)]
  · by_cases q2 : 9 < v.toInt
    · rw [if_neg q1, if_pos q2, if_neg (by omega)]
    · rw [if_neg q1, if_neg q2, if_pos (by omega)]
theorem m_isAsked2 (M : GS) (v : Int32) : fX9_isAsked M 2 v = some (if 1 ≤ v.toInt ∧ v.toInt ≤ 99 then 1 else 0) := by
  simp only [fX9_isAsked, kn_20, kn_21, tlt, reduceIte, Int32.reduceToInt]
  by_cases q1 : v.toInt < 1
  · rw [if_pos q1, if_neg (by omega)]
  · by_cases q2 : 99 < v.toInt
    · rw [if_neg q1, if_pos q2, if_neg (by omega)]
    · rw [if_neg q1, if_neg q2, if_pos (by omega)]
theorem xq8 (X : GS) (v : Int32) : fX3_putSetting_now X 8 v = some (gU3 X 1 0 v) := rfl
theorem xq9 (X : GS) (v : Int32) : fX3_putSetting_now X 9 v = some (gU3 X 1 1 v) := rfl
theorem xq10 (X : GS) (v : Int32) : fX3_putSetting_now X 10 v = some (gU3 X 1 2 v) := rfl
theorem Rel.start {X M : GS} (h : Rel X M) {v : Int32} (hv : -9999 ≤ v.toInt ∧ v.toInt ≤ 9999) : Rel (gU3 X 1 0 v) (gU1 M 1 v) := by
  obtain ⟨n, hL, hSh, hO⟩ := h
  exact ⟨n, ⟨hL.1, hL.2.1, hL.2.2.1, hL.2.2.2.1, hL.2.2.2.2.1, ⟨rfl, hL.2.2.2.2.2.1.2⟩, ⟨hv, hL.2.2.2.2.2.2.2⟩⟩, hSh, hO⟩
theorem Rel.hair {X M : GS} (h : Rel X M) {v : Int32} (hv : isN v 0 9) : Rel (gU3 X 1 1 v) (gU1 M 2 v) := by
  obtain ⟨n, hL, hSh, hO⟩ := h
  exact ⟨n, ⟨hL.1, hL.2.1, hL.2.2.1, hL.2.2.2.1, hL.2.2.2.2.1, ⟨hL.2.2.2.2.2.1.1, rfl, hL.2.2.2.2.2.1.2.2⟩, ⟨hL.2.2.2.2.2.2.1, hv, hL.2.2.2.2.2.2.2.2⟩⟩, hSh, hO⟩
theorem Rel.fine {X M : GS} (h : Rel X M) {v : Int32} (hv : isN v 1 99) : Rel (gU3 X 1 2 v) (gU1 M 3 v) := by
  obtain ⟨n, hL, hSh, hO⟩ := h
  exact ⟨n, ⟨hL.1, hL.2.1, hL.2.2.1, hL.2.2.2.1, hL.2.2.2.2.1, ⟨hL.2.2.2.2.2.1.1, hL.2.2.2.2.2.1.2.1, rfl, hL.2.2.2.2.2.1.2.2.2⟩, ⟨hL.2.2.2.2.2.2.1, hL.2.2.2.2.2.2.2.1, hv⟩⟩, hSh, hO⟩
set_option maxHeartbeats 4000000 in
theorem s_ask {X M : GS} (h : Rel X M) (a b : Int32) : St (fX8_ask X a b) (fX9_ask M a b) := by
  obtain ⟨n, hL, hSh, hO⟩ := id h
  rcases ix3 a 3 (by omega) with ha | ⟨k, hk, rfl⟩
  · rcases ha with ha | ha
    · simp (disch := omega) only [fX8_ask, fX8_ask_L13, fX8_ask_L30, fX9_ask, reduceIte, Int32.reduceToInt, t_m1, t_m2, t_m3, t_m4, t_m5, t_m6, t_m7, ite_true, ite_false, tlt, tle, teq, tcl, tni, i_mul8, i_mul160, i_160mul, i_add, i_add1, i_100add, Int.toNat_natCast, if_yes, if_no, Option.bind_some, gLet_eq, and_true, true_and, or_false, false_or, not_true_eq_false, not_false_eq_true]
      exact s_far h _ (by decide)
    · simp (disch := omega) only [fX8_ask, fX8_ask_L13, fX8_ask_L30, fX9_ask, reduceIte, Int32.reduceToInt, t_m1, t_m2, t_m3, t_m4, t_m5, t_m6, t_m7, ite_true, ite_false, tlt, tle, teq, tcl, tni, i_mul8, i_mul160, i_160mul, i_add, i_add1, i_100add, Int.toNat_natCast, if_yes, if_no, Option.bind_some, gLet_eq, and_true, true_and, or_false, false_or, not_true_eq_false, not_false_eq_true]
      exact s_far h _ (by decide)
  · rcases (show k = 0 ∨ k = 1 ∨ k = 2 by omega) with rfl | rfl | rfl
    · have e : fX8_ask X (nI 0) b = (fX3_fits X 8 b).bind fun u5 => if u5 = 0 then fX8_ask_L30 X else (fX3_setting_now X 8).bind fun u8 => (fX3_putSetting_now X 8 b).bind fun u10 => some (u8, u10) := rfl
      have e2 : fX9_ask M (nI 0) b = (fX9_isAsked M 0 b).bind fun u7 => if u7 = 0 then (fX9_noFar M (-6 : Int32)).bind fun u10 => some (u10.1, u10.2) else some (M.1 1, gU1 M 1 b) := rfl
      rw [e, e2, fit8, m_isAsked0, xs8 hL, xq8]
      by_cases hb : -9999 ≤ b.toInt ∧ b.toInt ≤ 9999
      · simp (disch := omega) only [reduceIte, Int32.reduceToInt, t_m1, t_m2, t_m3, t_m4, t_m5, t_m6, t_m7, ite_true, ite_false, tlt, tle, teq, tcl, tni, i_mul8, i_mul160, i_160mul, i_add, i_add1, i_100add, Int.toNat_natCast, if_yes, if_no, Option.bind_some, gLet_eq, and_true, true_and, or_false, false_or, not_true_eq_false, not_false_eq_true]
        exact ⟨_, _, rfl, rfl, rfl, h.start hb⟩
      · simp (disch := omega) only [fX8_ask_L30, reduceIte, Int32.reduceToInt, t_m1, t_m2, t_m3, t_m4, t_m5, t_m6, t_m7, ite_true, ite_false, tlt, tle, teq, tcl, tni, i_mul8, i_mul160, i_160mul, i_add, i_add1, i_100add, Int.toNat_natCast, if_yes, if_no, Option.bind_some, gLet_eq, and_true, true_and, or_false, false_or, not_true_eq_false, not_false_eq_true]
        exact s_far h _ (by decide)
    · have e : fX8_ask X (nI 1) b = (fX3_fits X 9 b).bind fun u5 => if u5 = 0 then fX8_ask_L30 X else (fX3_setting_now X 9).bind fun u8 => (fX3_putSetting_now X 9 b).bind fun u10 => some (u8, u10) := rfl
      have e2 : fX9_ask M (nI 1) b = (fX9_isAsked M 1 b).bind fun u7 => if u7 = 0 then (fX9_noFar M (-6 : Int32)).bind fun u10 => some (u10.1, u10.2) else some (M.1 2, gU1 M 2 b) := rfl
      rw [e, e2, fit9, m_isAsked1, xs9 hL, xq9]
      by_cases hb : 0 ≤ b.toInt ∧ b.toInt ≤ 9
      · simp (disch := omega) only [reduceIte, Int32.reduceToInt, t_m1, t_m2, t_m3, t_m4, t_m5, t_m6, t_m7, ite_true, ite_false, tlt, tle, teq, tcl, tni, i_mul8, i_mul160, i_160mul, i_add, i_add1, i_100add, Int.toNat_natCast, if_yes, if_no, Option.bind_some, gLet_eq, and_true, true_and, or_false, false_or, not_true_eq_false, not_false_eq_true]
        exact ⟨_, _, rfl, rfl, rfl, h.hair (isN_of hb.1 hb.2)⟩
      · simp (disch := omega) only [fX8_ask_L30, reduceIte, Int32.reduceToInt, t_m1, t_m2, t_m3, t_m4, t_m5, t_m6, t_m7, ite_true, ite_false, tlt, tle, teq, tcl, tni, i_mul8, i_mul160, i_160mul, i_add, i_add1, i_100add, Int.toNat_natCast, if_yes, if_no, Option.bind_some, gLet_eq, and_true, true_and, or_false, false_or, not_true_eq_false, not_false_eq_true]
        exact s_far h _ (by decide)
    · have e : fX8_ask X (nI 2) b = (fX3_fits X 10 b).bind fun u5 => if u5 = 0 then fX8_ask_L30 X else (fX3_setting_now X 10).bind fun u8 => (fX3_putSetting_now X 10 b).bind fun u10 => some (u8, u10) := rfl
      have e2 : fX9_ask M (nI 2) b = (fX9_isAsked M 2 b).bind fun u7 => if u7 = 0 then (fX9_noFar M (-6 : Int32)).bind fun u10 => some (u10.1, u10.2) else some (M.1 3, gU1 M 3 b) := rfl
      rw [e, e2, fit10, m_isAsked2, xs10 hL, xq10]
      by_cases hb : 1 ≤ b.toInt ∧ b.toInt ≤ 99
      · simp (disch := omega) only [reduceIte, Int32.reduceToInt, t_m1, t_m2, t_m3, t_m4, t_m5, t_m6, t_m7, ite_true, ite_false, tlt, tle, teq, tcl, tni, i_mul8, i_mul160, i_160mul, i_add, i_add1, i_100add, Int.toNat_natCast, if_yes, if_no, Option.bind_some, gLet_eq, and_true, true_and, or_false, false_or, not_true_eq_false, not_false_eq_true]
        exact ⟨_, _, rfl, rfl, rfl, h.fine (isN_of hb.1 hb.2)⟩
      · simp (disch := omega) only [fX8_ask_L30, reduceIte, Int32.reduceToInt, t_m1, t_m2, t_m3, t_m4, t_m5, t_m6, t_m7, ite_true, ite_false, tlt, tle, teq, tcl, tni, i_mul8, i_mul160, i_160mul, i_add, i_add1, i_100add, Int.toNat_natCast, if_yes, if_no, Option.bind_some, gLet_eq, and_true, true_and, or_false, false_or, not_true_eq_false, not_false_eq_true]
        exact s_far h _ (by decide)
