/-! set-ups: fits, setup, setupOf, tell, ask -/
theorem in_fit (X : GS) (c : Int32) (k : Nat) (hk : c.toNatClampNeg = k) (h1 : ¬ c < 0) (h2 : ¬ 11 ≤ c) (h3 : ¬ (c < 0 ∨ 11 ≤ c.toNatClampNeg)) (v : Int32) (lo hi : Int) (e1 : (gTb 0 k).toInt = lo) (e2 : (gTb 1 k).toInt = hi) : fX3_fits X c v = some (if lo ≤ v.toInt ∧ v.toInt ≤ hi then 1 else 0) := by
  rw [fX3_fits, if_neg h1, if_neg h2, if_neg h3, if_neg h3, hk]
  simp only [tlt, e1, e2]
  by_cases q1 : v.toInt < lo
  · rw [if_pos q1, if_neg (by omega)]
  · by_cases q2 : hi < v.toInt
    · rw [if_neg q1, if_pos q2, if_neg (by omega)]
    · rw [if_neg q1, if_neg q2, if_pos (by omega)]
theorem fit0 (X : GS) (v : Int32) : fX3_fits X 0 v = some (if 0 ≤ v.toInt ∧ v.toInt ≤ 6 then 1 else 0) := in_fit X 0 0 (by decide) (by decide) (by decide) (by decide) v 0 6 (by decide +kernel) (by decide +kernel)
theorem fit1 (X : GS) (v : Int32) : fX3_fits X 1 v = some (if 0 ≤ v.toInt ∧ v.toInt ≤ 9 then 1 else 0) := in_fit X 1 1 (by decide) (by decide) (by decide) (by decide) v 0 9 (by decide +kernel) (by decide +kernel)
theorem fit2 (X : GS) (v : Int32) : fX3_fits X 2 v = some (if 0 ≤ v.toInt ∧ v.toInt ≤ 9999 then 1 else 0) := in_fit X 2 2 (by decide) (by decide) (by decide) (by decide) v 0 9999 (by decide +kernel) (by decide +kernel)
theorem fit3 (X : GS) (v : Int32) : fX3_fits X 3 v = some (if 0 ≤ v.toInt ∧ v.toInt ≤ 9999 then 1 else 0) := in_fit X 3 3 (by decide) (by decide) (by decide) (by decide) v 0 9999 (by decide +kernel) (by decide +kernel)
theorem fit4 (X : GS) (v : Int32) : fX3_fits X 4 v = some (if 1 ≤ v.toInt ∧ v.toInt ≤ 99 then 1 else 0) := in_fit X 4 4 (by decide) (by decide) (by decide) (by decide) v 1 99 (by decide +kernel) (by decide +kernel)
theorem fit5 (X : GS) (v : Int32) : fX3_fits X 5 v = some (if 1 ≤ v.toInt ∧ v.toInt ≤ 99 then 1 else 0) := in_fit X 5 5 (by decide) (by decide) (by decide) (by decide) v 1 99 (by decide +kernel) (by decide +kernel)
theorem fit6 (X : GS) (v : Int32) : fX3_fits X 6 v = some (if 0 ≤ v.toInt ∧ v.toInt ≤ 3 then 1 else 0) := in_fit X 6 6 (by decide) (by decide) (by decide) (by decide) v 0 3 (by decide +kernel) (by decide +kernel)
theorem fit7 (X : GS) (v : Int32) : fX3_fits X 7 v = some (if 0 ≤ v.toInt ∧ v.toInt ≤ 1 then 1 else 0) := in_fit X 7 7 (by decide) (by decide) (by decide) (by decide) v 0 1 (by decide +kernel) (by decide +kernel)
theorem fit8 (X : GS) (v : Int32) : fX3_fits X 8 v = some (if -9999 ≤ v.toInt ∧ v.toInt ≤ 9999 then 1 else 0) := in_fit X 8 8 (by decide) (by decide) (by decide) (by decide) v (-9999) 9999 (by decide +kernel) (by decide +kernel)
theorem fit9 (X : GS) (v : Int32) : fX3_fits X 9 v = some (if 0 ≤ v.toInt ∧ v.toInt ≤ 9 then 1 else 0) := in_fit X 9 9 (by decide) (by decide) (by decide) (by decide) v 0 9 (by decide +kernel) (by decide +kernel)
theorem fit10 (X : GS) (v : Int32) : fX3_fits X 10 v = some (if 1 ≤ v.toInt ∧ v.toInt ≤ 99 then 1 else 0) := in_fit X 10 10 (by decide) (by decide) (by decide) (by decide) v 1 99 (by decide +kernel) (by decide +kernel)
theorem m_reading (M : GS) (v : Int32) : fX9_isReading M v = some (if 0 ≤ v.toInt ∧ v.toInt ≤ 9999 then 1 else 0) := by
  simp only [fX9_isReading, tlt, Int32.reduceToInt]
  by_cases q1 : v.toInt < 0
  · rw [if_pos q1, if_neg (by omega)]
  · by_cases q2 : 9999 < v.toInt
    · rw [if_neg q1, if_pos q2, if_neg (by omega)]
    · rw [if_neg q1, if_neg q2, if_pos (by omega)]
theorem m_isYards (M : GS) (v : Int32) : fX9_isYards M v = some (if 1 ≤ v.toInt ∧ v.toInt ≤ 99 then 1 else 0) := by
  simp only [fX9_isYards, tlt, Int32.reduceToInt]
  by_cases q1 : v.toInt < 1
  · rw [if_pos q1, if_neg (by omega)]
  · by_cases q2 : 99 < v.toInt
    · rw [if_neg q1, if_pos q2, if_neg (by omega)]
    · rw [if_neg q1, if_neg q2, if_pos (by omega)]
theorem isN_of {v : Int32} {lo hi : Nat} (h1 : (lo : Int) ≤ v.toInt) (h2 : v.toInt ≤ hi) : isN v lo hi := by
  obtain ⟨k, hk, e, e2⟩ := of_nn (x := v) (by omega)
  exact ⟨k, by omega, by omega, e⟩
theorem x_put (X : GS) {i c : Nat} (hi : i < 16) (hc : c < 8) (v : Int32) : fX3_put_now X (nI i) (nI c) v = some (gU3 X 0 (8 * i + c) v) := by
  simp (disch := omega) only [fX3_put_now, reduceIte, Int32.reduceToInt, t_m1, t_m2, t_m3, t_m4, t_m5, t_m6, t_m7, ite_true, ite_false, tlt, tle, teq, tcl, tni, i_mul8, i_mul160, i_160mul, i_add, i_add1, i_100add, Int.toNat_natCast, if_yes, if_no, Option.bind_some, gLet_eq, and_true, true_and, or_false, false_or, not_true_eq_false, not_false_eq_true]
theorem xp0 (X : GS) {i : Nat} (hi : i < 16) (v : Int32) : fX3_put_now X (nI i) 0 v = some (gU3 X 0 (8 * i) v) := x_put X hi (c := 0) (by decide) v
theorem xp1 (X : GS) {i : Nat} (hi : i < 16) (v : Int32) : fX3_put_now X (nI i) 1 v = some (gU3 X 0 (8 * i + 1) v) := x_put X hi (c := 1) (by decide) v
theorem xp2 (X : GS) {i : Nat} (hi : i < 16) (v : Int32) : fX3_put_now X (nI i) 2 v = some (gU3 X 0 (8 * i + 2) v) := x_put X hi (c := 2) (by decide) v
theorem xp3 (X : GS) {i : Nat} (hi : i < 16) (v : Int32) : fX3_put_now X (nI i) 3 v = some (gU3 X 0 (8 * i + 3) v) := x_put X hi (c := 3) (by decide) v
theorem xp4 (X : GS) {i : Nat} (hi : i < 16) (v : Int32) : fX3_put_now X (nI i) 4 v = some (gU3 X 0 (8 * i + 4) v) := x_put X hi (c := 4) (by decide) v
theorem xp5 (X : GS) {i : Nat} (hi : i < 16) (v : Int32) : fX3_put_now X (nI i) 5 v = some (gU3 X 0 (8 * i + 5) v) := x_put X hi (c := 5) (by decide) v
theorem xp6 (X : GS) {i : Nat} (hi : i < 16) (v : Int32) : fX3_put_now X (nI i) 6 v = some (gU3 X 0 (8 * i + 6) v) := x_put X hi (c := 6) (by decide) v
theorem xp7 (X : GS) {i : Nat} (hi : i < 16) (v : Int32) : fX3_put_now X (nI i) 7 v = some (gU3 X 0 (8 * i + 7) v) := x_put X hi (c := 7) (by decide) v
theorem x_room {X M : GS} {n : Nat} (h : RLp X M n) {k : Nat} (hk : k ≤ 16) : fX3_hasRoomFor_now X (nI k) = some (if n + k ≤ 16 then 1 else 0) := by
  have hn := h.1
  rw [fX3_hasRoomFor_now, h.2.1, show (16 : Int32) = nI 16 from rfl, pk_sub hn]
  by_cases q : n + k ≤ 16
  · simp (disch := omega) only [reduceIte, Int32.reduceToInt, t_m1, t_m2, t_m3, t_m4, t_m5, t_m6, t_m7, ite_true, ite_false, tlt, tle, teq, tcl, tni, i_mul8, i_mul160, i_160mul, i_add, i_add1, i_100add, Int.toNat_natCast, if_yes, if_no, Option.bind_some, gLet_eq, and_true, true_and, or_false, false_or, not_true_eq_false, not_false_eq_true]
  · simp (disch := omega) only [reduceIte, Int32.reduceToInt, t_m1, t_m2, t_m3, t_m4, t_m5, t_m6, t_m7, ite_true, ite_false, tlt, tle, teq, tcl, tni, i_mul8, i_mul160, i_160mul, i_add, i_add1, i_100add, Int.toNat_natCast, if_yes, if_no, Option.bind_some, gLet_eq, and_true, true_and, or_false, false_or, not_true_eq_false, not_false_eq_true]
def aX (X : GS) (n : Nat) (a1 a2 a3 a4 a5 a6 : Int32) : GS := gU1 (gU3 (gU3 (gU3 (gU3 (gU3 (gU3 (gU3 (gU3 X 0 (8 * n) a1) 0 (8 * n + 1) a2) 0 (8 * n + 2) a3) 0 (8 * n + 3) a4) 0 (8 * n + 4) a5) 0 (8 * n + 5) a6) 0 (8 * n + 6) 0) 0 (8 * n + 7) 0) 2 (nI (n + 1))
def aM (M : GS) (n : Nat) (a1 a2 a3 a4 a5 a6 : Int32) : GS := gU1 (gU3 (gU3 (gU3 (gU3 (gU3 (gU3 (gU3 (gU3 M 7 n a1) 8 n a2) 9 n a3) 10 n a4) 11 n a5) 12 n a6) 13 n 0) 14 n 0) 0 (nI (n + 1))
theorem x_add {X M : GS} {n : Nat} (h : RLp X M n) (hn : n < 16) (a1 a2 a3 a4 a5 a6 : Int32) : fX3_add_now X a1 a2 a3 a4 a5 a6 = some (aX X n a1 a2 a3 a4 a5 a6) := by
  have e := x_room h (k := 1) (by decide)
  rw [if_pos (by omega), show nI 1 = (1 : Int32) from rfl] at e
  rw [fX3_add_now, e]
  simp (disch := omega) only [h.2.1, gU1_s, gU1_n, gU1_2, gU2_1, gU2_s, gU2_n, gU2_3, gU3_1, gU3_2, gU3_s, gU3_n, gU3_4, gU4_1, gU4_2, gU4_3, gU4_s, gU4_n, gA3_1, gA3_2, gA3_s, gA3_n, gA3_4, gA4_1, gA4_3, gA4_s, gA4_n, xp0, xp1, xp2, xp3, xp4, xp5, xp6, xp7, aX, reduceIte, Int32.reduceToInt, t_m1, t_m2, t_m3, t_m4, t_m5, t_m6, t_m7, ite_true, ite_false, tlt, tle, teq, tcl, tni, i_mul8, i_mul160, i_160mul, i_add, i_add1, i_100add, Int.toNat_natCast, if_yes, if_no, Option.bind_some, gLet_eq, and_true, true_and, or_false, false_or, not_true_eq_false, not_false_eq_true]
theorem m_add {X M : GS} {n : Nat} (h : RLp X M n) (hn : n < 16) (a1 a2 a3 a4 a5 a6 : Int32) : fX9_adds M a1 a2 a3 a4 a5 a6 = some (nI n, aM M n a1 a2 a3 a4 a5 a6) := by
  simp (disch := omega) only [fX9_adds, gLet_eq, h.2.2.1, gU1_s, gU1_n, gU1_2, gU2_1, gU2_s, gU2_n, gU2_3, gU3_1, gU3_2, gU3_s, gU3_n, gU3_4, gU4_1, gU4_2, gU4_3, gU4_s, gU4_n, gA3_1, gA3_2, gA3_s, gA3_n, gA3_4, gA4_1, gA4_3, gA4_s, gA4_n, aM, reduceIte, Int32.reduceToInt, t_m1, t_m2, t_m3, t_m4, t_m5, t_m6, t_m7, ite_true, ite_false, tlt, tle, teq, tcl, tni, i_mul8, i_mul160, i_160mul, i_add, i_add1, i_100add, Int.toNat_natCast, if_yes, if_no, Option.bind_some, gLet_eq, and_true, true_and, or_false, false_or, not_true_eq_false, not_false_eq_true]
theorem RSh.mono {hx lx hm so sz sh : Nat → Int32} {ex em : Nat → Int64} {n n' s : Nat} (h : RSh hx lx hm so sz sh ex em n s) (hn : n ≤ n') : RSh hx lx hm so sz sh ex em n' s := by
  rcases h with h | ⟨k, h⟩ | h
  · exact Or.inl h
  · exact Or.inr (Or.inl ⟨k, Nat.lt_of_lt_of_le h.1 hn, h.2⟩)
  · exact Or.inr (Or.inr h)
theorem RLp.add {X M : GS} {n : Nat} (h : RLp X M n) (hn : n < 16) {a1 a2 a3 a4 a5 a6 : Int32} (g1 : isN a1 0 6) (g2 : isN a2 0 9) (g3 : isN a3 0 9999) (g4 : isN a4 0 9999) (g5 : isN a5 1 99) (g6 : isN a6 1 99) : RLp (aX X n a1 a2 a3 a4 a5 a6) (aM M n a1 a2 a3 a4 a5 a6) (n + 1) := by
  refine ⟨by omega, rfl, rfl, fun i hi => ?_, fun i hi => ?_, h.2.2.2.2.2.1, h.2.2.2.2.2.2⟩
  · by_cases e : i = n
    · subst e
      simp (disch := omega) only [aX, aM, gU1_s, gU1_n, gU1_2, gU2_1, gU2_s, gU2_n, gU2_3, gU3_1, gU3_2, gU3_s, gU3_n, gU3_4, gU4_1, gU4_2, gU4_3, gU4_s, gU4_n, gA3_1, gA3_2, gA3_s, gA3_n, gA3_4, gA4_1, gA4_3, gA4_s, gA4_n, upd_i, if_yes, if_no, reduceIte, and_self]
    · have q := h.2.2.2.1 i (by omega)
      simp (disch := omega) only [aX, aM, gU1_s, gU1_n, gU1_2, gU2_1, gU2_s, gU2_n, gU2_3, gU3_1, gU3_2, gU3_s, gU3_n, gU3_4, gU4_1, gU4_2, gU4_3, gU4_s, gU4_n, gA3_1, gA3_2, gA3_s, gA3_n, gA3_4, gA4_1, gA4_3, gA4_s, gA4_n, upd_i, if_yes, if_no, reduceIte]
      exact q
  · by_cases e : i = n
    · subst e
      simp (disch := omega) only [aM, gU1_s, gU1_n, gU1_2, gU2_1, gU2_s, gU2_n, gU2_3, gU3_1, gU3_2, gU3_s, gU3_n, gU3_4, gU4_1, gU4_2, gU4_3, gU4_s, gU4_n, gA3_1, gA3_2, gA3_s, gA3_n, gA3_4, gA4_1, gA4_3, gA4_s, gA4_n, upd_i, if_yes, if_no, reduceIte]
      exact ⟨g1, g2, g3, g4, g5, g6, ⟨0, by decide, by decide, rfl⟩, ⟨0, by decide, by decide, rfl⟩⟩
    · have q := h.2.2.2.2.1 i (by omega)
      simp (disch := omega) only [aM, gU1_s, gU1_n, gU1_2, gU2_1, gU2_s, gU2_n, gU2_3, gU3_1, gU3_2, gU3_s, gU3_n, gU3_4, gU4_1, gU4_2, gU4_3, gU4_s, gU4_n, gA3_1, gA3_2, gA3_s, gA3_n, gA3_4, gA4_1, gA4_3, gA4_s, gA4_n, upd_i, if_yes, if_no, reduceIte]
      exact q
theorem RO.add {X M : GS} (h : RO X M) {n : Nat} {a1 a2 a3 a4 a5 a6 : Int32} : RO (aX X n a1 a2 a3 a4 a5 a6) (aM M n a1 a2 a3 a4 a5 a6) := h
set_option maxHeartbeats 4000000 in
theorem s_setup {X M : GS} (h : Rel X M) (a1 a2 a3 a4 a5 a6 : Int32) : St (fX8_setup X a1 a2 a3 a4 a5 a6) (fX9_setup M a1 a2 a3 a4 a5 a6) := by
  obtain ⟨n, hL, hSh, hO⟩ := id h
  have hn := hL.1
  have eR := x_room hL (k := 1) (by decide)
  rw [show nI 1 = (1 : Int32) from rfl] at eR
  by_cases g1 : 0 ≤ a1.toInt ∧ a1.toInt ≤ 6
  · by_cases g2 : 0 ≤ a2.toInt ∧ a2.toInt ≤ 9
    · by_cases g3 : 0 ≤ a3.toInt ∧ a3.toInt ≤ 9999
      · by_cases g4 : 0 ≤ a4.toInt ∧ a4.toInt ≤ 9999
        · by_cases g5 : 1 ≤ a5.toInt ∧ a5.toInt ≤ 99
          · by_cases g6 : 1 ≤ a6.toInt ∧ a6.toInt ≤ 99
            · by_cases g7 : n + 1 ≤ 16
              · rw [if_pos g7] at eR
                simp (disch := omega) only [fX8_setup, fX9_setup, fit0, fit1, fit2, fit3, fit4, fit5, m_reading, m_isYards, g1, g2, g3, g4, g5, g6, eR, x_add hL (show n < 16 by omega), m_add hL (show n < 16 by omega), hL.2.2.1, fX3_count_now, reduceIte, Int32.reduceToInt, t_m1, t_m2, t_m3, t_m4, t_m5, t_m6, t_m7, ite_true, ite_false, tlt, tle, teq, tcl, tni, i_mul8, i_mul160, i_160mul, i_add, i_add1, i_100add, Int.toNat_natCast, if_yes, if_no, Option.bind_some, gLet_eq, and_true, true_and, or_false, false_or, not_true_eq_false, not_false_eq_true]
                refine ⟨_, _, rfl, rfl, ?_, n + 1, hL.add (by omega) (isN_of g1.1 g1.2) (isN_of g2.1 g2.2) (isN_of g3.1 g3.2) (isN_of g4.1 g4.2) (isN_of g5.1 g5.2) (isN_of g6.1 g6.2), fun s hs => (hSh s hs).mono (by omega), hO.add⟩
                show nI (n + 1) - 1 = nI n
                exact nI_pred n
              · rw [if_neg g7] at eR
                simp (disch := omega) only [fX8_setup, fX9_setup, fit0, fit1, fit2, fit3, fit4, fit5, m_reading, m_isYards, g1, g2, g3, g4, g5, g6, eR, hL.2.2.1, reduceIte, Int32.reduceToInt, t_m1, t_m2, t_m3, t_m4, t_m5, t_m6, t_m7, ite_true, ite_false, tlt, tle, teq, tcl, tni, i_mul8, i_mul160, i_160mul, i_add, i_add1, i_100add, Int.toNat_natCast, if_yes, if_no, Option.bind_some, gLet_eq, and_true, true_and, or_false, false_or, not_true_eq_false, not_false_eq_true]
                exact s_no h _ (by decide)
            · simp (disch := omega) only [fX8_setup, fX8_setup_L61, fX9_setup, fit0, fit1, fit2, fit3, fit4, fit5, m_reading, m_isYards, g1, g2, g3, g4, g5, g6, reduceIte, Int32.reduceToInt, t_m1, t_m2, t_m3, t_m4, t_m5, t_m6, t_m7, ite_true, ite_false, tlt, tle, teq, tcl, tni, i_mul8, i_mul160, i_160mul, i_add, i_add1, i_100add, Int.toNat_natCast, if_yes, if_no, Option.bind_some, gLet_eq, and_true, true_and, or_false, false_or, not_true_eq_false, not_false_eq_true]
              exact s_no h _ (by decide)
          · simp (disch := omega) only [fX8_setup, fX8_setup_L61, fX9_setup, fit0, fit1, fit2, fit3, fit4, fit5, m_reading, m_isYards, g1, g2, g3, g4, g5, reduceIte, Int32.reduceToInt, t_m1, t_m2, t_m3, t_m4, t_m5, t_m6, t_m7, ite_true, ite_false, tlt, tle, teq, tcl, tni, i_mul8, i_mul160, i_160mul, i_add, i_add1, i_100add, Int.toNat_natCast, if_yes, if_no, Option.bind_some, gLet_eq, and_true, true_and, or_false, false_or, not_true_eq_false, not_false_eq_true]
            exact s_no h _ (by decide)
        · simp (disch := omega) only [fX8_setup, fX8_setup_L61, fX9_setup, fit0, fit1, fit2, fit3, m_reading, g1, g2, g3, g4, reduceIte, Int32.reduceToInt, t_m1, t_m2, t_m3, t_m4, t_m5, t_m6, t_m7, ite_true, ite_false, tlt, tle, teq, tcl, tni, i_mul8, i_mul160, i_160mul, i_add, i_add1, i_100add, Int.toNat_natCast, if_yes, if_no, Option.bind_some, gLet_eq, and_true, true_and, or_false, false_or, not_true_eq_false, not_false_eq_true]
          exact s_no h _ (by decide)
      · simp (disch := omega) only [fX8_setup, fX8_setup_L61, fX9_setup, fit0, fit1, fit2, m_reading, g1, g2, g3, reduceIte, Int32.reduceToInt, t_m1, t_m2, t_m3, t_m4, t_m5, t_m6, t_m7, ite_true, ite_false, tlt, tle, teq, tcl, tni, i_mul8, i_mul160, i_160mul, i_add, i_add1, i_100add, Int.toNat_natCast, if_yes, if_no, Option.bind_some, gLet_eq, and_true, true_and, or_false, false_or, not_true_eq_false, not_false_eq_true]
        exact s_no h _ (by decide)
    · by_cases g2' : a2.toInt < 0
      · simp (disch := omega) only [fX8_setup, fX8_setup_L61, fX9_setup, fit0, fit1, g1, g2, reduceIte, Int32.reduceToInt, t_m1, t_m2, t_m3, t_m4, t_m5, t_m6, t_m7, ite_true, ite_false, tlt, tle, teq, tcl, tni, i_mul8, i_mul160, i_160mul, i_add, i_add1, i_100add, Int.toNat_natCast, if_yes, if_no, Option.bind_some, gLet_eq, and_true, true_and, or_false, false_or, not_true_eq_false, not_false_eq_true]
        exact s_no h _ (by decide)
      · simp (disch := omega) only [fX8_setup, fX8_setup_L61, fX9_setup, fit0, fit1, g1, g2, reduceIte, Int32.reduceToInt, t_m1, t_m2, t_m3, t_m4, t_m5, t_m6, t_m7, ite_true, ite_false, tlt, tle, teq, tcl, tni, i_mul8, i_mul160, i_160mul, i_add, i_add1, i_100add, Int.toNat_natCast, if_yes, if_no, Option.bind_some, gLet_eq, and_true, true_and, or_false, false_or, not_true_eq_false, not_false_eq_true]
        exact s_no h _ (by decide)
  · by_cases g1' : a1.toInt < 0
    · simp (disch := omega) only [fX8_setup, fX9_setup, fit0, g1, reduceIte, Int32.reduceToInt, t_m1, t_m2, t_m3, t_m4, t_m5, t_m6, t_m7, ite_true, ite_false, tlt, tle, teq, tcl, tni, i_mul8, i_mul160, i_160mul, i_add, i_add1, i_100add, Int.toNat_natCast, if_yes, if_no, Option.bind_some, gLet_eq, and_true, true_and, or_false, false_or, not_true_eq_false, not_false_eq_true]
      exact s_no h _ (by decide)
    · simp (disch := omega) only [fX8_setup, fX9_setup, fit0, g1, reduceIte, Int32.reduceToInt, t_m1, t_m2, t_m3, t_m4, t_m5, t_m6, t_m7, ite_true, ite_false, tlt, tle, teq, tcl, tni, i_mul8, i_mul160, i_160mul, i_add, i_add1, i_100add, Int.toNat_natCast, if_yes, if_no, Option.bind_some, gLet_eq, and_true, true_and, or_false, false_or, not_true_eq_false, not_false_eq_true]
      exact s_no h _ (by decide)
