/-! row, set, element, show, holds -/
def zer (f : Nat → Int64) (lo hi : Nat) : Nat → Int64 := fun j => if lo ≤ j ∧ j < hi then 0 else f j
theorem gA4_U4 (S : GS) (k i : Nat) (v : Int64) (f : Nat → Int64) : gA4 (gU4 S k i v) k f = gA4 S k f := by
  simp only [gA4, gU4]
  congr 3
  funext j
  simp only [va_up]
  split <;> rfl
theorem gA4_id (S : GS) (k : Nat) : gA4 S k (S.2.2.2 k) = S := by
  obtain ⟨a, b, c, d⟩ := S
  simp only [gA4]
  congr 3
  funext j
  simp only [va_up]
  split
  · next e => rw [e]
  · rfl
theorem zer_0 (f : Nat → Int64) (k : Nat) : zer f k k = f := by
  funext j
  simp only [zer]
  rw [if_neg (by omega)]
theorem zer_s (f : Nat → Int64) (k m : Nat) (h : k < m) : zer (vp_updL f k 0) (k + 1) m = zer f k m := by
  funext j
  simp only [zer, updL_i]
  by_cases e : j = k
  · rw [if_pos e, if_pos (show k ≤ j ∧ j < m by omega)]
    split <;> rfl
  · rw [if_neg e]
    by_cases e2 : k + 1 ≤ j ∧ j < m
    · rw [if_pos e2, if_pos (by omega)]
    · rw [if_neg e2, if_neg (by omega)]
theorem x_hr {s n : Nat} (hs : s < 8) (hn : n ≤ 160) : ∀ (d i : Nat) (X : GS) (fu : Nat), n - i = d → i ≤ n → d < fu → fX5_holdRow_40 fu X (nI s) (nI n) (nI i) = some (gA4 X 66 (zer (X.2.2.2 66) (160 * s + i) (160 * s + n))) := by
  intro d
  induction d with
  | zero =>
    intro i X fu hd hi hf
    obtain ⟨fu, rfl⟩ : ∃ q, fu = q + 1 := ⟨fu - 1, by omega⟩
    have e : i = n := by omega
    subst e
    rw [fX5_holdRow_40, zer_0, gA4_id]
    simp (disch := omega) only [reduceIte, Int32.reduceToInt, t_m1, t_m2, t_m3, t_m4, t_m5, t_m6, t_m7, ite_true, ite_false, tlt, tle, teq, tcl, tni, i_mul8, i_mul160, i_160mul, i_add, i_add1, i_100add, Int.toNat_natCast, if_yes, if_no, Option.bind_some, gLet_eq, and_true, true_and, or_false, false_or, not_true_eq_false, not_false_eq_true]
  | succ d ih =>
    intro i X fu hd hi hf
    obtain ⟨fu, rfl⟩ : ∃ q, fu = q + 1 := ⟨fu - 1, by omega⟩
    rw [fX5_holdRow_40]
    simp (disch := omega) only [reduceIte, Int32.reduceToInt, t_m1, t_m2, t_m3, t_m4, t_m5, t_m6, t_m7, ite_true, ite_false, tlt, tle, teq, tcl, tni, i_mul8, i_mul160, i_160mul, i_add, i_add1, i_100add, Int.toNat_natCast, if_yes, if_no, Option.bind_some, gLet_eq, and_true, true_and, or_false, false_or, not_true_eq_false, not_false_eq_true]
    rw [ih (i + 1) _ fu (by omega) (by omega) (by omega), gA4_U4, gU4_4, if_pos rfl]
    rw [show 160 * s + (i + 1) = 160 * s + i + 1 from rfl, show (0 : Int64) = 0 from rfl, zer_s _ _ _ (by omega)]
theorem m_hr {s : Nat} (hs : s < 8) : ∀ (d i : Nat) (M : GS) (fu : Nat), 160 - i = d → i ≤ 160 → d < fu → fX9_row_79 fu M (nI s) (nI i) = some (gA4 M 19 (zer (M.2.2.2 19) (160 * s + i) (160 * s + 160))) := by
  intro d
  induction d with
  | zero =>
    intro i X fu hd hi hf
    obtain ⟨fu, rfl⟩ : ∃ q, fu = q + 1 := ⟨fu - 1, by omega⟩
    have e : i = 160 := by omega
    subst e
    rw [fX9_row_79, zer_0, gA4_id]
    simp (disch := omega) only [reduceIte, Int32.reduceToInt, t_m1, t_m2, t_m3, t_m4, t_m5, t_m6, t_m7, ite_true, ite_false, tlt, tle, teq, tcl, tni, i_mul8, i_mul160, i_160mul, i_add, i_add1, i_100add, Int.toNat_natCast, if_yes, if_no, Option.bind_some, gLet_eq, and_true, true_and, or_false, false_or, not_true_eq_false, not_false_eq_true]
  | succ d ih =>
    intro i X fu hd hi hf
    obtain ⟨fu, rfl⟩ : ∃ q, fu = q + 1 := ⟨fu - 1, by omega⟩
    rw [fX9_row_79]
    simp (disch := omega) only [reduceIte, Int32.reduceToInt, t_m1, t_m2, t_m3, t_m4, t_m5, t_m6, t_m7, ite_true, ite_false, tlt, tle, teq, tcl, tni, i_mul8, i_mul160, i_160mul, i_add, i_add1, i_100add, Int.toNat_natCast, if_yes, if_no, Option.bind_some, gLet_eq, and_true, true_and, or_false, false_or, not_true_eq_false, not_false_eq_true]
    rw [ih (i + 1) _ fu (by omega) (by omega) (by omega), gA4_U4, gU4_4, if_pos rfl]
    rw [show 160 * s + (i + 1) = 160 * s + i + 1 from rfl, zer_s _ _ _ (by omega)]
theorem gFu (n : Nat) (h : n < 100000) : n < gFuel := h
theorem s_no {X M : GS} (h : Rel X M) (b : Int32) (hb : b = -1 ∨ b = -2 ∨ b = -3 ∨ b = -4 ∨ b = -5 ∨ b = -6 ∨ b = -7) : St ((fX8_refuse X b).bind fun u => some (u.1, u.2)) ((fX9_no M b).bind fun u => some (u.1, u.2)) := by
  obtain ⟨k, e1, e2, -, -, hr⟩ := s_ref h b hb
  rw [e1, e2]
  exact ⟨_, _, rfl, rfl, rfl, hr⟩
theorem s_far {X M : GS} (h : Rel X M) (b : Int32) (hb : b = -1 ∨ b = -2 ∨ b = -3 ∨ b = -4 ∨ b = -5 ∨ b = -6 ∨ b = -7) : St ((fX8_refuse X b).bind fun u => some ((-1000000 + u.1), u.2)) ((fX9_noFar M b).bind fun u => some (u.1, u.2)) := by
  obtain ⟨k, e1, -, e2, -, hr⟩ := s_ref h b hb
  rw [e1, e2]
  refine ⟨_, _, rfl, rfl, ?_, hr⟩
  rcases hb with rfl | rfl | rfl | rfl | rfl | rfl | rfl <;> rfl
theorem s_ten {X M : GS} (h : Rel X M) (b : Int32) (hb : b = -1 ∨ b = -2 ∨ b = -3 ∨ b = -4 ∨ b = -5 ∨ b = -6 ∨ b = -7) : St ((fX8_refuse X b).bind fun u => some ((-10 + u.1), u.2)) ((fX9_noTen M b).bind fun u => some (u.1, u.2)) := by
  obtain ⟨k, e1, -, -, e2, hr⟩ := s_ref h b hb
  rw [e1, e2]
  refine ⟨_, _, rfl, rfl, ?_, hr⟩
  rcases hb with rfl | rfl | rfl | rfl | rfl | rfl | rfl <;> rfl
theorem RSh.congr {hx lx hm so sz sh hx' lx' hm' so' sz' sh' : Nat → Int32} {ex em ex' em' : Nat → Int64} {n s : Nat} (h : RSh hx lx hm so sz sh ex em n s) (e1 : hx' s = hx s) (e2 : lx' s = lx s) (e3 : hm' s = hm s) (e4 : so' s = so s) (e5 : sz' s = sz s) (e6 : sh' s = sh s) (e7 : ∀ i, i < 160 → ex' (160 * s + i) = ex (160 * s + i)) (e8 : ∀ i, i < 160 → em' (160 * s + i) = em (160 * s + i)) : RSh hx' lx' hm' so' sz' sh' ex' em' n s := by
  rcases h with h | ⟨k, h⟩ | ⟨o, L, h⟩
  · exact Or.inl (by rw [e1, e2, e3]; exact h)
  · exact Or.inr (Or.inl ⟨k, by rw [e1, e2, e3, e6]; exact h⟩)
  · refine Or.inr (Or.inr ⟨o, L, ?_⟩)
    rw [e1, e2, e3, e4, e5]
    exact ⟨h.1, h.2.1, h.2.2.1, h.2.2.2.1, h.2.2.2.2.1, h.2.2.2.2.2.1, h.2.2.2.2.2.2.1, fun i hi => by rw [e7 i (Nat.lt_of_lt_of_le hi h.2.1), e8 i (Nat.lt_of_lt_of_le hi h.2.1)]; exact h.2.2.2.2.2.2.2 i hi⟩
theorem Rel.sh {X M X' M' : GS} (h : Rel X M) (hX1 : X'.1 = X.1) (hX3 : ∀ k, k ≠ 64 → k ≠ 65 → X'.2.2.1 k = X.2.2.1 k) (hM1 : M'.1 = M.1) (hM3 : ∀ k, (k < 15 ∨ 18 < k) → M'.2.2.1 k = M.2.2.1 k) (hs : ∀ n, RLp X M n → (∀ s, s < 8 → RSn X M n s) → ∀ s, s < 8 → RSn X' M' n s) : Rel X' M' := by
  obtain ⟨n, hL, hSh, hO⟩ := h
  refine ⟨n, ?_, hs n hL hSh, ?_⟩
  · simp only [RLp, RFn, MRn, RTn, MTn] at hL ⊢
    rw [hX1, hM1, hX3 0 (by decide) (by decide), hX3 1 (by decide) (by decide), hM3 7 (by decide), hM3 8 (by decide), hM3 9 (by decide), hM3 10 (by decide), hM3 11 (by decide), hM3 12 (by decide), hM3 13 (by decide), hM3 14 (by decide)]
    exact hL
  · simp only [RO] at hO ⊢
    rw [hX1, hM1, hX3 56 (by decide) (by decide), hX3 144 (by decide) (by decide), hX3 16 (by decide) (by decide), hX3 17 (by decide) (by decide), hM3 6 (by decide), hM3 37 (by decide), hM3 30 (by decide), hM3 21 (by decide), hM3 22 (by decide)]
    exact hO
set_option maxHeartbeats 4000000 in
theorem s_row {X M : GS} (h : Rel X M) (a b c : Int32) : St (fX8_row X a b c) (fX9_row M a b c) := by
  rcases ix3 a 8 (by decide) with ha | ⟨s, hs, rfl⟩
  · simp (disch := omega) only [fX8_row, fX9_row, x_has0 X ha, m_is0 M ha, reduceIte, Int32.reduceToInt, t_m1, t_m2, t_m3, t_m4, t_m5, t_m6, t_m7, ite_true, ite_false, tlt, tle, teq, tcl, tni, i_mul8, i_mul160, i_160mul, i_add, i_add1, i_100add, Int.toNat_natCast, if_yes, if_no, Option.bind_some, gLet_eq, and_true, true_and, or_false, false_or, not_true_eq_false, not_false_eq_true]
    exact s_no h _ (by decide)
  · by_cases h1 : 0 ≤ c.toInt
    · by_cases h2 : b.toInt < 0
      · simp (disch := omega) only [fX8_row, fX9_row, x_has X hs, m_is M hs, reduceIte, Int32.reduceToInt, t_m1, t_m2, t_m3, t_m4, t_m5, t_m6, t_m7, ite_true, ite_false, tlt, tle, teq, tcl, tni, i_mul8, i_mul160, i_160mul, i_add, i_add1, i_100add, Int.toNat_natCast, if_yes, if_no, Option.bind_some, gLet_eq, and_true, true_and, or_false, false_or, not_true_eq_false, not_false_eq_true]
        exact s_no h _ (by decide)
      · by_cases h3 : b.toInt < 4
        · by_cases h4 : c.toInt ≤ 160
          · obtain ⟨L, hL, rfl, eL⟩ := of_nn h1
            obtain ⟨o, ho, rfl, eo⟩ := of_nn (x := b) (by omega)
            simp (disch := omega) only [fX8_row, fX9_row, fX5_holdRow, x_has X hs, m_is M hs, reduceIte, Int32.reduceToInt, t_m1, t_m2, t_m3, t_m4, t_m5, t_m6, t_m7, ite_true, ite_false, tlt, tle, teq, tcl, tni, i_mul8, i_mul160, i_160mul, i_add, i_add1, i_100add, Int.toNat_natCast, if_yes, if_no, Option.bind_some, gLet_eq, and_true, true_and, or_false, false_or, not_true_eq_false, not_false_eq_true]
            rw [show (0 : Int32) = nI 0 from rfl, x_hr hs (by omega) L 0 _ _ (by omega) (by omega) (gFu _ (by omega)), m_hr hs 160 0 _ _ (by omega) (by omega) (gFu _ (by omega))]
            refine ⟨_, _, rfl, rfl, rfl, h.sh rfl (fun k h64 h65 => ?_) rfl (fun k hk => ?_) (fun n hLp hSh s' hs' => ?_)⟩
            · simp (disch := omega) only [gU1_s, gU1_n, gU1_2, gU2_1, gU2_s, gU2_n, gU2_3, gU3_1, gU3_2, gU3_s, gU3_n, gU3_4, gU4_1, gU4_2, gU4_3, gU4_s, gU4_n, gA3_1, gA3_2, gA3_s, gA3_n, gA3_4, gA4_1, gA4_3, gA4_s, gA4_n, if_no]
            · simp (disch := omega) only [gU1_s, gU1_n, gU1_2, gU2_1, gU2_s, gU2_n, gU2_3, gU3_1, gU3_2, gU3_s, gU3_n, gU3_4, gU4_1, gU4_2, gU4_3, gU4_s, gU4_n, gA3_1, gA3_2, gA3_s, gA3_n, gA3_4, gA4_1, gA4_3, gA4_s, gA4_n, if_no]
            · by_cases e : s' = s
              · subst e
                refine Or.inr (Or.inr ⟨o, L, by omega, by omega, ?_⟩)
                simp (disch := omega) only [gU1_s, gU1_n, gU1_2, gU2_1, gU2_s, gU2_n, gU2_3, gU3_1, gU3_2, gU3_s, gU3_n, gU3_4, gU4_1, gU4_2, gU4_3, gU4_s, gU4_n, gA3_1, gA3_2, gA3_s, gA3_n, gA3_4, gA4_1, gA4_3, gA4_s, gA4_n, upd_i, if_yes, if_no, zer, true_and, ite_true, reduceIte]
                intro i hi
                rw [if_pos (by omega), if_pos (by omega)]
              · refine (hSh s' hs').congr ?_ ?_ ?_ ?_ ?_ ?_ (fun i hi => ?_) (fun i hi => ?_)
                all_goals simp (disch := omega) only [gU1_s, gU1_n, gU1_2, gU2_1, gU2_s, gU2_n, gU2_3, gU3_1, gU3_2, gU3_s, gU3_n, gU3_4, gU4_1, gU4_2, gU4_3, gU4_s, gU4_n, gA3_1, gA3_2, gA3_s, gA3_n, gA3_4, gA4_1, gA4_3, gA4_s, gA4_n, upd_i, if_yes, if_no, zer, reduceIte]
          · simp (disch := omega) only [fX8_row, fX9_row, x_has X hs, m_is M hs, reduceIte, Int32.reduceToInt, t_m1, t_m2, t_m3, t_m4, t_m5, t_m6, t_m7, ite_true, ite_false, tlt, tle, teq, tcl, tni, i_mul8, i_mul160, i_160mul, i_add, i_add1, i_100add, Int.toNat_natCast, if_yes, if_no, Option.bind_some, gLet_eq, and_true, true_and, or_false, false_or, not_true_eq_false, not_false_eq_true]
            exact s_no h _ (by decide)
        · simp (disch := omega) only [fX8_row, fX9_row, x_has X hs, m_is M hs, reduceIte, Int32.reduceToInt, t_m1, t_m2, t_m3, t_m4, t_m5, t_m6, t_m7, ite_true, ite_false, tlt, tle, teq, tcl, tni, i_mul8, i_mul160, i_160mul, i_add, i_add1, i_100add, Int.toNat_natCast, if_yes, if_no, Option.bind_some, gLet_eq, and_true, true_and, or_false, false_or, not_true_eq_false, not_false_eq_true]
          exact s_no h _ (by decide)
    · simp (disch := omega) only [fX8_row, fX9_row, x_has X hs, m_is M hs, reduceIte, Int32.reduceToInt, t_m1, t_m2, t_m3, t_m4, t_m5, t_m6, t_m7, ite_true, ite_false, tlt, tle, teq, tcl, tni, i_mul8, i_mul160, i_160mul, i_add, i_add1, i_100add, Int.toNat_natCast, if_yes, if_no, Option.bind_some, gLet_eq, and_true, true_and, or_false, false_or, not_true_eq_false, not_false_eq_true]
      exact s_no h _ (by decide)
