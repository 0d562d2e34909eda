/-! off, spread, meet, crooked, most -/
theorem abs_p (x : Int32) : (0 : Int32) - x = -x := by grind
def aB (x : Int32) : Int32 := if 0 ≤ x then x else -x
theorem abs_x (x : Int32) : (if 0 ≤ x then x else 0 - x) = aB x := by rw [aB, abs_p]
theorem m_abs (M : GS) (x : Int32) : fX9_abs M x = some (aB x) := by
  rw [fX9_abs, aB]
  split <;> rfl
theorem x_raw {X M : GS} {n : Nat} (h : RLp X M n) : ∀ (d i fu : Nat), n - i = d → i ≤ n → d < fu → fX3_rawInAll_now_4 fu X (sumB M i) (nI i) = some (sumB M n) := by
  have hn := h.1
  intro d
  induction d with
  | zero =>
    intro i fu hd hi hf
    obtain ⟨fu, rfl⟩ : ∃ q, fu = q + 1 := ⟨fu - 1, by omega⟩
    have e : i = n := by omega
    subst e
    rw [fX3_rawInAll_now_4]
    simp (disch := omega) only [h.2.1, reduceIte, Int32.reduceToInt, t_m1, t_m2, t_m3, t_m4, t_m5, t_m6, t_m7, ite_true, ite_false, tlt, tle, teq, tcl, tni, i_mul8, i_mul160, i_160mul, i_add, i_add1, i_100add, Int.toNat_natCast, if_yes, if_no, Option.bind_some, gLet_eq, and_true, true_and, or_false, false_or, not_true_eq_false, not_false_eq_true]
  | succ d ih =>
    intro i fu hd hi hf
    obtain ⟨fu, rfl⟩ : ∃ q, fu = q + 1 := ⟨fu - 1, by omega⟩
    have q := ih (i + 1) fu (by omega) (by omega) (by omega)
    rw [sumB] at q
    rw [fX3_rawInAll_now_4]
    simp (disch := omega) only [h.2.1, x_booked h (show i < n by omega), reduceIte, Int32.reduceToInt, t_m1, t_m2, t_m3, t_m4, t_m5, t_m6, t_m7, ite_true, ite_false, tlt, tle, teq, tcl, tni, i_mul8, i_mul160, i_160mul, i_add, i_add1, i_100add, Int.toNat_natCast, if_yes, if_no, Option.bind_some, gLet_eq, and_true, true_and, or_false, false_or, not_true_eq_false, not_false_eq_true]
    exact q
theorem m_raw {X M : GS} {n : Nat} (h : RLp X M n) : ∀ (d i fu : Nat), n - i = d → i ≤ n → d < fu → fX9_off_39 fu M (sumB M i) (nI i) = some (sumB M n) := by
  have hn := h.1
  intro d
  induction d with
  | zero =>
    intro i fu hd hi hf
    obtain ⟨fu, rfl⟩ : ∃ q, fu = q + 1 := ⟨fu - 1, by omega⟩
    have e : i = n := by omega
    subst e
    rw [fX9_off_39]
    simp (disch := omega) only [h.2.2.1, reduceIte, Int32.reduceToInt, t_m1, t_m2, t_m3, t_m4, t_m5, t_m6, t_m7, ite_true, ite_false, tlt, tle, teq, tcl, tni, i_mul8, i_mul160, i_160mul, i_add, i_add1, i_100add, Int.toNat_natCast, if_yes, if_no, Option.bind_some, gLet_eq, and_true, true_and, or_false, false_or, not_true_eq_false, not_false_eq_true]
  | succ d ih =>
    intro i fu hd hi hf
    obtain ⟨fu, rfl⟩ : ∃ q, fu = q + 1 := ⟨fu - 1, by omega⟩
    have q := ih (i + 1) fu (by omega) (by omega) (by omega)
    rw [sumB] at q
    rw [fX9_off_39]
    simp (disch := omega) only [h.2.2.1, m_booked M (show i < 16 by omega), reduceIte, Int32.reduceToInt, t_m1, t_m2, t_m3, t_m4, t_m5, t_m6, t_m7, ite_true, ite_false, tlt, tle, teq, tcl, tni, i_mul8, i_mul160, i_160mul, i_add, i_add1, i_100add, Int.toNat_natCast, if_yes, if_no, Option.bind_some, gLet_eq, and_true, true_and, or_false, false_or, not_true_eq_false, not_false_eq_true]
    exact q
theorem i_sq (a : Nat) : (nI a + 1) * (nI a + 1) = nI ((a + 1) * (a + 1)) := by rw [i_add1, pk_mul]
/-- the whole root, of both sides -/
theorem roots {X M : GS} {n : Nat} (h : RLp X M n) : ∀ (d r fu : Nat), 5 - r ≤ d → r ≤ 5 → r * r ≤ n → d < fu → ∃ z, fX3_mayBeOff_now_2 fu X (nI r) = some z ∧ fX9_mayBe_2 fu M (nI r) = some z := by
  have hn := h.1
  intro d
  induction d with
  | zero =>
    intro r fu hd hr hq hf
    have : r = 5 := by omega
    subst this
    omega
  | succ d ih =>
    intro r fu hd hr hq hf
    obtain ⟨fu, rfl⟩ : ∃ q, fu = q + 1 := ⟨fu - 1, by omega⟩
    have b : (r + 1) * (r + 1) ≤ 36 := Nat.mul_le_mul (show r + 1 ≤ 6 by omega) (show r + 1 ≤ 6 by omega)
    rw [fX3_mayBeOff_now_2, fX9_mayBe_2, i_sq, h.2.1, h.2.2.1]
    by_cases g : n < (r + 1) * (r + 1)
    · refine ⟨nI r, ?_, ?_⟩
      · by_cases g2 : nI n ≤ nI r
        · rw [if_pos g2]
        · rw [if_neg g2, if_pos (nI_lt g (by omega))]
      · rw [if_pos (nI_lt g (by omega))]
    · have g3 : r < n := by
        have : r + 1 ≤ (r + 1) * (r + 1) := Nat.le_mul_self (r + 1)
        omega
      have h5 : r < 5 := by
        rcases Nat.lt_or_ge r 5 with q | q
        · exact q
        · have : r = 5 := by omega
          subst this
          omega
      obtain ⟨z, e1, e2⟩ := ih (r + 1) fu (by omega) (by omega) (by omega) (by omega)
      rw [if_neg (nI_ge g3 (by omega)), if_neg (nI_nlt (Nat.not_lt.mp g) (by omega)), if_neg (nI_nlt (Nat.not_lt.mp g) (by omega)), i_add1]
      exact ⟨z, e1, e2⟩
theorem mays {X M : GS} {n : Nat} (h : RLp X M n) : ∃ z, fX3_mayBeOff_now X = some z ∧ fX9_mayBe M = some z := by
  obtain ⟨z, e1, e2⟩ := roots h 5 0 gFuel (by omega) (by omega) (by omega) (gFu _ (by omega))
  rw [show nI 0 = (0 : Int32) from rfl] at e1 e2
  refine ⟨M.1 3 * z, ?_, ?_⟩
  · rw [fX3_mayBeOff_now, e1]
    show fX3_mayBeOff_now_L30 X z = _
    rw [fX3_mayBeOff_now_L30, xs10 h]
    rfl
  · rw [fX9_mayBe, e2]
    rfl
set_option maxHeartbeats 4000000 in
theorem s_off {X M : GS} (h : Rel X M) (a : Int32) : St (fX8_off X a) (fX9_off M a) := by
  obtain ⟨n, hL, hSh, hO⟩ := id h
  obtain ⟨z, e1, e2⟩ := mays hL
  have r1 := x_raw hL n 0 gFuel (by omega) (by omega) (gFu _ (by have := hL.1; omega))
  have r2 := m_raw hL n 0 gFuel (by omega) (by omega) (gFu _ (by have := hL.1; omega))
  rw [sumB, show nI 0 = (0 : Int32) from rfl] at r1 r2
  simp only [fX8_off, fX9_off, x_count hL, m_off hL, e1, e2, r2, fX3_rawInAll_now, r1, x_rises hL (Nat.le_refl n), m_abs, abs_x, Option.bind_some]
  split
  · exact ⟨_, _, rfl, rfl, rfl, h⟩
  · split
    · exact ⟨_, _, rfl, rfl, rfl, h⟩
    · split
      · exact ⟨_, _, rfl, rfl, rfl, h⟩
      · split
        · split
          · exact ⟨_, _, rfl, rfl, rfl, h⟩
          · exact ⟨_, _, rfl, rfl, rfl, h⟩
        · exact s_far h _ (by decide)
theorem x_share {X M : GS} {n : Nat} (h : RLp X M n) (h1 : 1 ≤ n) (law w : Int32) (p : Int64) : fX8_shareOf X w p (sumW M law n) = some (w.toInt64 * p / sumW M law n).toInt32 := by
  have q := sumW_r h law n (Nat.le_refl n)
  have q2 : ¬ sumW M law n = 0 := fun z => by rw [z, t64_0] at q; omega
  rw [fX8_shareOf, if_neg (fun z => q2 ((lg_cmp_eq _ _).mp z)), if_neg q2]
set_option maxHeartbeats 4000000 in
theorem s_spread {X M : GS} (h : Rel X M) (a b : Int32) : St (fX8_spread X a b) (fX9_spread M a b) := by
  obtain ⟨n, hL, hSh, hO⟩ := id h
  have hn := hL.1
  rcases ix3 b (n + 1) (by omega) with hb | ⟨k, hk, rfl⟩
  · rcases hb with hb | hb
    · simp (disch := omega) only [fX8_spread, fX8_spread_L28, fX8_spread_L44, fX9_spread, reduceIte, Int32.reduceToInt, t_m1, t_m2, t_m3, t_m4, t_m5, t_m6, t_m7, ite_true, ite_false, tlt, tle, teq, tcl, tni, i_mul8, i_mul160, i_160mul, i_add, i_add1, i_100add, Int.toNat_natCast, if_yes, if_no, Option.bind_some, gLet_eq, and_true, true_and, or_false, false_or, not_true_eq_false, not_false_eq_true]
      exact s_far h _ (by decide)
    · simp (disch := omega) only [fX8_spread, fX8_spread_L28, fX8_spread_L44, fX9_spread, x_count hL, hL.2.2.1, reduceIte, Int32.reduceToInt, t_m1, t_m2, t_m3, t_m4, t_m5, t_m6, t_m7, ite_true, ite_false, tlt, tle, teq, tcl, tni, i_mul8, i_mul160, i_160mul, i_add, i_add1, i_100add, Int.toNat_natCast, if_yes, if_no, Option.bind_some, gLet_eq, and_true, true_and, or_false, false_or, not_true_eq_false, not_false_eq_true]
      exact s_far h _ (by decide)
  · by_cases ha : 0 ≤ a.toInt ∧ a.toInt ≤ 2
    · by_cases h0 : n = 0
      · subst h0
        simp (disch := omega) only [fX8_spread, fX8_spread_L28, fX8_spread_L44, fX9_spread, x_count hL, hL.2.2.1, reduceIte, Int32.reduceToInt, t_m1, t_m2, t_m3, t_m4, t_m5, t_m6, t_m7, ite_true, ite_false, tlt, tle, teq, tcl, tni, i_mul8, i_mul160, i_160mul, i_add, i_add1, i_100add, Int.toNat_natCast, if_yes, if_no, Option.bind_some, gLet_eq, and_true, true_and, or_false, false_or, not_true_eq_false, not_false_eq_true]
        exact s_far h _ (by decide)
      · have q := sumW_r hL a n (Nat.le_refl n)
        have q2 : ¬ sumW M a n = 0 := fun z => by rw [z, t64_0] at q; omega
        simp (disch := omega) only [fX8_spread, fX9_spread, x_count hL, hL.2.2.1, x_rises hL (Nat.le_refl n), x_weight hL (show k ≤ n by omega), x_weight hL (Nat.le_refl n), x_height hL (show k ≤ n by omega), x_share hL (show 1 ≤ n by omega), m_rises0 hL (show k ≤ n by omega), m_off hL, m_weights hL (show k ≤ n by omega), m_weights hL (Nat.le_refl n), if_neg q2, reduceIte, Int32.reduceToInt, t_m1, t_m2, t_m3, t_m4, t_m5, t_m6, t_m7, ite_true, ite_false, tlt, tle, teq, tcl, tni, i_mul8, i_mul160, i_160mul, i_add, i_add1, i_100add, Int.toNat_natCast, if_yes, if_no, Option.bind_some, gLet_eq, and_true, true_and, or_false, false_or, not_true_eq_false, not_false_eq_true]
        exact ⟨_, _, rfl, rfl, rfl, h⟩
    · by_cases ha0 : a.toInt < 0
      · simp (disch := omega) only [fX8_spread, fX8_spread_L28, fX8_spread_L44, fX9_spread, x_count hL, hL.2.2.1, reduceIte, Int32.reduceToInt, t_m1, t_m2, t_m3, t_m4, t_m5, t_m6, t_m7, ite_true, ite_false, tlt, tle, teq, tcl, tni, i_mul8, i_mul160, i_160mul, i_add, i_add1, i_100add, Int.toNat_natCast, if_yes, if_no, Option.bind_some, gLet_eq, and_true, true_and, or_false, false_or, not_true_eq_false, not_false_eq_true]
        exact s_far h _ (by decide)
      · simp (disch := omega) only [fX8_spread, fX8_spread_L28, fX8_spread_L44, fX9_spread, x_count hL, hL.2.2.1, reduceIte, Int32.reduceToInt, t_m1, t_m2, t_m3, t_m4, t_m5, t_m6, t_m7, ite_true, ite_false, tlt, tle, teq, tcl, tni, i_mul8, i_mul160, i_160mul, i_add, i_add1, i_100add, Int.toNat_natCast, if_yes, if_no, Option.bind_some, gLet_eq, and_true, true_and, or_false, false_or, not_true_eq_false, not_false_eq_true]
        exact s_far h _ (by decide)
theorem t_30000 : (30000 : Int32).toInt = 30000 := by decide +kernel
theorem t_m30000 : (-30000 : Int32).toInt = -30000 := by decide +kernel
theorem t_1 : (1 : Int32).toInt = 1 := by decide +kernel
set_option maxHeartbeats 4000000 in
theorem s_meet {X M : GS} (h : Rel X M) (a b c : Int32) : St (fX8_meet X a b c) (fX9_meet M a b c) := by
  obtain ⟨n, hL, hSh, hO⟩ := id h
  have hn := hL.1
  have eN : (nI n - 1).toInt = (n : Int) - 1 := by
    rw [tsub _ _ (by rw [tni _ (by omega), t_1]; omega), tni _ (by omega), t_1]
  by_cases a1 : a.toInt < 1
  · simp (disch := omega) only [fX8_meet, fX8_meet_L29, fX9_meet, reduceIte, Int32.reduceToInt, t_m1, t_m2, t_m3, t_m4, t_m5, t_m6, t_m7, ite_true, ite_false, tlt, tle, teq, tcl, tni, i_mul8, i_mul160, i_160mul, i_add, i_add1, i_100add, Int.toNat_natCast, if_yes, if_no, Option.bind_some, gLet_eq, and_true, true_and, or_false, false_or, not_true_eq_false, not_false_eq_true]
    exact s_far h _ (by decide)
  · by_cases a2 : (n : Int) ≤ a.toInt
    · simp (disch := omega) only [fX8_meet, fX8_meet_L29, fX9_meet, x_count hL, hL.2.2.1, eN, reduceIte, Int32.reduceToInt, t_m1, t_m2, t_m3, t_m4, t_m5, t_m6, t_m7, ite_true, ite_false, tlt, tle, teq, tcl, tni, i_mul8, i_mul160, i_160mul, i_add, i_add1, i_100add, Int.toNat_natCast, if_yes, if_no, Option.bind_some, gLet_eq, and_true, true_and, or_false, false_or, not_true_eq_false, not_false_eq_true]
      exact s_far h _ (by decide)
    · obtain ⟨k, hk, rfl, ek⟩ := of_nn (x := a) (by omega)
      by_cases c0 : c.toInt = 0 ∨ c.toInt = 1
      · by_cases b1 : b.toInt < -30000
        · rcases c0 with c0 | c0 <;> simp (disch := omega) only [fX8_meet, fX8_meet_L25, fX8_meet_L61, fX9_meet, x_count hL, hL.2.2.1, eN, t_30000, t_m30000, reduceIte, Int32.reduceToInt, t_m1, t_m2, t_m3, t_m4, t_m5, t_m6, t_m7, ite_true, ite_false, tlt, tle, teq, tcl, tni, i_mul8, i_mul160, i_160mul, i_add, i_add1, i_100add, Int.toNat_natCast, if_yes, if_no, Option.bind_some, gLet_eq, and_true, true_and, or_false, false_or, not_true_eq_false, not_false_eq_true] <;> exact s_far h _ (by decide)
        · by_cases b2 : b.toInt ≤ 30000
          · have q := sumW_r hL 1 n (Nat.le_refl n)
            have q2 : ¬ sumW M 1 n = 0 := fun z => by rw [z, t64_0] at q; omega
            rcases c0 with c0 | c0
            · simp (disch := omega) only [fX8_meet, fX8_meet_L25, fX9_meet, x_count hL, hL.2.2.1, eN, t_30000, t_m30000, x_height hL (show k ≤ n by omega), m_rises0 hL (show k ≤ n by omega), reduceIte, Int32.reduceToInt, t_m1, t_m2, t_m3, t_m4, t_m5, t_m6, t_m7, ite_true, ite_false, tlt, tle, teq, tcl, tni, i_mul8, i_mul160, i_160mul, i_add, i_add1, i_100add, Int.toNat_natCast, if_yes, if_no, Option.bind_some, gLet_eq, and_true, true_and, or_false, false_or, not_true_eq_false, not_false_eq_true]
              exact ⟨_, _, rfl, rfl, rfl, h⟩
            · simp (disch := omega) only [fX8_meet, fX8_meet_L25, fX9_meet, x_count hL, hL.2.2.1, eN, t_30000, t_m30000, x_height hL (show k ≤ n by omega), m_rises0 hL (show k ≤ n by omega), x_weight hL (show k ≤ n by omega), x_weight hL (Nat.le_refl n), x_share hL (show 1 ≤ n by omega), m_yards0 hL (show k ≤ n by omega), m_yards0 hL (Nat.le_refl n), sumY_64 hL (show k ≤ n by omega), sumY_64 hL (Nat.le_refl n), if_neg q2, reduceIte, Int32.reduceToInt, t_m1, t_m2, t_m3, t_m4, t_m5, t_m6, t_m7, ite_true, ite_false, tlt, tle, teq, tcl, tni, i_mul8, i_mul160, i_160mul, i_add, i_add1, i_100add, Int.toNat_natCast, if_yes, if_no, Option.bind_some, gLet_eq, and_true, true_and, or_false, false_or, not_true_eq_false, not_false_eq_true]
              exact ⟨_, _, rfl, rfl, rfl, h⟩
          · rcases c0 with c0 | c0 <;> simp (disch := omega) only [fX8_meet, fX8_meet_L25, fX8_meet_L61, fX9_meet, x_count hL, hL.2.2.1, eN, t_30000, t_m30000, reduceIte, Int32.reduceToInt, t_m1, t_m2, t_m3, t_m4, t_m5, t_m6, t_m7, ite_true, ite_false, tlt, tle, teq, tcl, tni, i_mul8, i_mul160, i_160mul, i_add, i_add1, i_100add, Int.toNat_natCast, if_yes, if_no, Option.bind_some, gLet_eq, and_true, true_and, or_false, false_or, not_true_eq_false, not_false_eq_true] <;> exact s_far h _ (by decide)
      · by_cases c1 : c.toInt < 0
        · simp (disch := omega) only [fX8_meet, fX8_meet_L29, fX9_meet, x_count hL, hL.2.2.1, eN, reduceIte, Int32.reduceToInt, t_m1, t_m2, t_m3, t_m4, t_m5, t_m6, t_m7, ite_true, ite_false, tlt, tle, teq, tcl, tni, i_mul8, i_mul160, i_160mul, i_add, i_add1, i_100add, Int.toNat_natCast, if_yes, if_no, Option.bind_some, gLet_eq, and_true, true_and, or_false, false_or, not_true_eq_false, not_false_eq_true]
          exact s_far h _ (by decide)
        · simp (disch := omega) only [fX8_meet, fX8_meet_L29, fX9_meet, x_count hL, hL.2.2.1, eN, reduceIte, Int32.reduceToInt, t_m1, t_m2, t_m3, t_m4, t_m5, t_m6, t_m7, ite_true, ite_false, tlt, tle, teq, tcl, tni, i_mul8, i_mul160, i_160mul, i_add, i_add1, i_100add, Int.toNat_natCast, if_yes, if_no, Option.bind_some, gLet_eq, and_true, true_and, or_false, false_or, not_true_eq_false, not_false_eq_true]
          exact s_far h _ (by decide)
/-- what a holder's set-ups come to -/
def sumH (M : GS) (v : Int32) : Nat → Int32 | 0 => 0 | k + 1 => if M.2.2.1 13 k = v then sumH M v k + mR M k else sumH M v k
theorem x_held_l {X M : GS} {n : Nat} (h : RLp X M n) (v : Int32) : ∀ (d i fu : Nat), n - i = d → i ≤ n → d < fu → fX3_risesHeldBy_now_4 fu X v (sumH M v i) (nI i) = some (sumH M v n) := by
  have hn := h.1
  intro d
  induction d with
  | zero =>
    intro i fu hd hi hf
    obtain ⟨fu, rfl⟩ : ∃ q, fu = q + 1 := ⟨fu - 1, by omega⟩
    have e : i = n := by omega
    subst e
    rw [fX3_risesHeldBy_now_4]
    simp (disch := omega) only [h.2.1, reduceIte, Int32.reduceToInt, t_m1, t_m2, t_m3, t_m4, t_m5, t_m6, t_m7, ite_true, ite_false, tlt, tle, teq, tcl, tni, i_mul8, i_mul160, i_160mul, i_add, i_add1, i_100add, Int.toNat_natCast, if_yes, if_no, Option.bind_some, gLet_eq, and_true, true_and, or_false, false_or, not_true_eq_false, not_false_eq_true]
  | succ d ih =>
    intro i fu hd hi hf
    obtain ⟨fu, rfl⟩ : ∃ q, fu = q + 1 := ⟨fu - 1, by omega⟩
    have q := ih (i + 1) fu (by omega) (by omega) (by omega)
    rw [sumH] at q
    rw [fX3_risesHeldBy_now_4, h.2.1, if_neg (nI_ge (show i < n by omega) (by omega)), xg6 h (show i < n by omega), x_rise h (show i < n by omega), i_add1]
    simp only [Option.bind_some]
    by_cases g : M.2.2.1 13 i = v
    · rw [if_pos g] at q
      rw [if_pos g]
      exact q
    · rw [if_neg g] at q
      rw [if_neg g]
      exact q
theorem m_held_l {X M : GS} {n : Nat} (h : RLp X M n) (v : Int32) : ∀ (d i fu : Nat), n - i = d → i ≤ n → d < fu → fX9_crooked_42 fu M v (sumH M v i) (nI i) = some (sumH M v n) := by
  have hn := h.1
  intro d
  induction d with
  | zero =>
    intro i fu hd hi hf
    obtain ⟨fu, rfl⟩ : ∃ q, fu = q + 1 := ⟨fu - 1, by omega⟩
    have e : i = n := by omega
    subst e
    rw [fX9_crooked_42]
    simp (disch := omega) only [h.2.2.1, reduceIte, Int32.reduceToInt, t_m1, t_m2, t_m3, t_m4, t_m5, t_m6, t_m7, ite_true, ite_false, tlt, tle, teq, tcl, tni, i_mul8, i_mul160, i_160mul, i_add, i_add1, i_100add, Int.toNat_natCast, if_yes, if_no, Option.bind_some, gLet_eq, and_true, true_and, or_false, false_or, not_true_eq_false, not_false_eq_true]
  | succ d ih =>
    intro i fu hd hi hf
    obtain ⟨fu, rfl⟩ : ∃ q, fu = q + 1 := ⟨fu - 1, by omega⟩
    have q := ih (i + 1) fu (by omega) (by omega) (by omega)
    rw [sumH] at q
    rw [fX9_crooked_42, h.2.2.1, if_neg (nI_ge (show i < n by omega) (by omega)), if_neg (nI_inb (show i < 16 by omega) (by decide)), nI_clamp (by omega), m_rise h (show i < n by omega), i_add1]
    simp only [Option.bind_some]
    by_cases g : M.2.2.1 13 i = v
    · rw [if_pos g] at q
      rw [if_pos g]
      exact q
    · rw [if_neg g] at q
      rw [if_neg g]
      exact q
theorem x_heldBy {X M : GS} {n : Nat} (h : RLp X M n) (v : Int32) : fX3_risesHeldBy_now X v = some (sumH M v n) := by
  have q := x_held_l h v n 0 gFuel (by omega) (by omega) (gFu _ (by have := h.1; omega))
  rw [sumH, show nI 0 = (0 : Int32) from rfl] at q
  rw [fX3_risesHeldBy_now, q]
  rfl
theorem m_heldBy {X M : GS} {n : Nat} (h : RLp X M n) (v : Int32) : fX9_crooked_42 gFuel M v 0 0 = some (sumH M v n) := by
  have q := m_held_l h v n 0 gFuel (by omega) (by omega) (gFu _ (by have := h.1; omega))
  rw [sumH, show nI 0 = (0 : Int32) from rfl] at q
  exact q
theorem crook {X M : GS} {n : Nat} (h : RLp X M n) : ∀ (d i fu fv : Nat) (w : Int32), 4 - i = d → 1 ≤ i → i ≤ 4 → d < fu → d < fv → ∃ z, fX8_crooked_44 fu X w (nI i) = some z ∧ fX9_crooked_30 fv M w (sumH M w n) (nI i) = some (z, sumH M z n) := by
  intro d
  induction d with
  | zero =>
    intro i fu fv w hd h1 hi hf hg
    obtain ⟨fu, rfl⟩ : ∃ q, fu = q + 1 := ⟨fu - 1, by omega⟩
    obtain ⟨fv, rfl⟩ : ∃ q, fv = q + 1 := ⟨fv - 1, by omega⟩
    have e : i = 4 := by omega
    subst e
    exact ⟨w, rfl, rfl⟩
  | succ d ih =>
    intro i fu fv w hd h1 hi hf hg
    obtain ⟨fu, rfl⟩ : ∃ q, fu = q + 1 := ⟨fu - 1, by omega⟩
    obtain ⟨fv, rfl⟩ : ∃ q, fv = q + 1 := ⟨fv - 1, by omega⟩
    have g4 : ¬ (4 : Int32) ≤ nI i := nI_ge (b := 4) (by omega) (by decide)
    have g0 : ¬ nI i ≤ (0 : Int32) := nI_nle (by omega) (by omega)
    simp only [fX8_crooked_44, fX9_crooked_30, if_neg g4, if_neg g0, x_heldBy h, m_heldBy h, m_abs, abs_x, Option.bind_some, i_add1]
    by_cases g : aB (sumH M (nI i) n) ≤ aB (sumH M w n)
    · have g2 : ¬ aB (sumH M w n) < aB (sumH M (nI i) n) := by
        rw [tle] at g
        rw [tlt]
        omega
      rw [if_pos g, if_neg g2]
      exact ih (i + 1) fu fv w (by omega) (by omega) (by omega) (by omega) (by omega)
    · have g2 : aB (sumH M w n) < aB (sumH M (nI i) n) := by
        rw [tle] at g
        rw [tlt]
        omega
      rw [if_neg g, if_pos g2]
      exact ih (i + 1) fu fv (nI i) (by omega) (by omega) (by omega) (by omega) (by omega)
theorem crook0 {X M : GS} {n : Nat} (h : RLp X M n) (fv : Nat) {R : Int32 × Int32} (e : fX9_crooked_30 fv M 0 (sumH M 0 n) (nI 1) = some R) : fX9_crooked_30 (fv + 1) M 0 0 0 = some R := by
  have g4 : ¬ (4 : Int32) ≤ 0 := by decide
  have g0 : (0 : Int32) ≤ 0 := by decide
  rw [fX9_crooked_30, if_neg g4, m_heldBy h]
  simp only [Option.bind_some, if_pos g0]
  exact e
set_option maxHeartbeats 4000000 in
theorem s_crooked {X M : GS} (h : Rel X M) (a : Int32) : St (fX8_crooked X a) (fX9_crooked M a) := by
  obtain ⟨n, hL, hSh, hO⟩ := id h
  have hn := hL.1
  obtain ⟨z, e4, e2⟩ := crook hL 3 1 gFuel 99999 0 (by omega) (by omega) (by omega) (gFu _ (by omega)) (by omega)
  have e3 : fX9_crooked_30 gFuel M 0 0 0 = some (z, sumH M z n) := crook0 hL 99999 e2
  rw [show nI 1 = (1 : Int32) from rfl] at e4
  by_cases a0 : a.toInt = 0 ∨ a.toInt = 1
  · by_cases h0 : n = 0
    · subst h0
      rcases a0 with a0 | a0 <;> simp (disch := omega) only [fX8_crooked, fX8_crooked_L9, fX8_crooked_L29, fX9_crooked, x_count hL, hL.2.2.1, reduceIte, Int32.reduceToInt, t_m1, t_m2, t_m3, t_m4, t_m5, t_m6, t_m7, ite_true, ite_false, tlt, tle, teq, tcl, tni, i_mul8, i_mul160, i_160mul, i_add, i_add1, i_100add, Int.toNat_natCast, if_yes, if_no, Option.bind_some, gLet_eq, and_true, true_and, or_false, false_or, not_true_eq_false, not_false_eq_true] <;> exact s_far h _ (by decide)
    · rcases a0 with a0 | a0 <;> simp (disch := omega) only [fX8_crooked, fX8_crooked_L9, fX9_crooked, x_count hL, hL.2.2.1, e3, e4, x_heldBy hL, reduceIte, Int32.reduceToInt, t_m1, t_m2, t_m3, t_m4, t_m5, t_m6, t_m7, ite_true, ite_false, tlt, tle, teq, tcl, tni, i_mul8, i_mul160, i_160mul, i_add, i_add1, i_100add, Int.toNat_natCast, if_yes, if_no, Option.bind_some, gLet_eq, and_true, true_and, or_false, false_or, not_true_eq_false, not_false_eq_true] <;> exact ⟨_, _, rfl, rfl, rfl, h⟩
  · by_cases h0 : n = 0
    · subst h0
      simp (disch := omega) only [fX8_crooked, fX8_crooked_L29, fX9_crooked, x_count hL, hL.2.2.1, reduceIte, Int32.reduceToInt, t_m1, t_m2, t_m3, t_m4, t_m5, t_m6, t_m7, ite_true, ite_false, tlt, tle, teq, tcl, tni, i_mul8, i_mul160, i_160mul, i_add, i_add1, i_100add, Int.toNat_natCast, if_yes, if_no, Option.bind_some, gLet_eq, and_true, true_and, or_false, false_or, not_true_eq_false, not_false_eq_true]
      exact s_far h _ (by decide)
    · by_cases a1 : a.toInt < 0 <;> simp (disch := omega) only [fX8_crooked, fX8_crooked_L29, fX9_crooked, x_count hL, hL.2.2.1, reduceIte, Int32.reduceToInt, t_m1, t_m2, t_m3, t_m4, t_m5, t_m6, t_m7, ite_true, ite_false, tlt, tle, teq, tcl, tni, i_mul8, i_mul160, i_160mul, i_add, i_add1, i_100add, Int.toNat_natCast, if_yes, if_no, Option.bind_some, gLet_eq, and_true, true_and, or_false, false_or, not_true_eq_false, not_false_eq_true] <;> exact s_far h _ (by decide)
theorem most_l {X M : GS} {n : Nat} (h : RLp X M n) (w : Int32) : ∀ (d i fu fv b : Nat), n - i = d → i ≤ n → b < n → d < fu → d < fv → ∃ z, fX8_most_41 fu X w (nI b) (nI i) = some z ∧ fX9_most_27 fv M w (nI b) (nI i) = some z := by
  have hn := h.1
  intro d
  induction d with
  | zero =>
    intro i fu fv b hd hi hb hf hg
    obtain ⟨fu, rfl⟩ : ∃ q, fu = q + 1 := ⟨fu - 1, by omega⟩
    obtain ⟨fv, rfl⟩ : ∃ q, fv = q + 1 := ⟨fv - 1, by omega⟩
    have e : i = n := by omega
    subst e
    refine ⟨nI b, ?_, ?_⟩
    · rw [fX8_most_41, x_count h]
      simp (disch := omega) only [reduceIte, Int32.reduceToInt, t_m1, t_m2, t_m3, t_m4, t_m5, t_m6, t_m7, ite_true, ite_false, tlt, tle, teq, tcl, tni, i_mul8, i_mul160, i_160mul, i_add, i_add1, i_100add, Int.toNat_natCast, if_yes, if_no, Option.bind_some, gLet_eq, and_true, true_and, or_false, false_or, not_true_eq_false, not_false_eq_true]
    · rw [fX9_most_27, h.2.2.1]
      simp (disch := omega) only [reduceIte, Int32.reduceToInt, t_m1, t_m2, t_m3, t_m4, t_m5, t_m6, t_m7, ite_true, ite_false, tlt, tle, teq, tcl, tni, i_mul8, i_mul160, i_160mul, i_add, i_add1, i_100add, Int.toNat_natCast, if_yes, if_no, Option.bind_some, gLet_eq, and_true, true_and, or_false, false_or, not_true_eq_false, not_false_eq_true]
  | succ d ih =>
    intro i fu fv b hd hi hb hf hg
    obtain ⟨fu, rfl⟩ : ∃ q, fu = q + 1 := ⟨fu - 1, by omega⟩
    obtain ⟨fv, rfl⟩ : ∃ q, fv = q + 1 := ⟨fv - 1, by omega⟩
    have hin : i < n := by omega
    have yi : fX9_yards M (nI i) (nI (i + 1)) = some (mY M i) := by
      rw [m_yards h (by omega) (by omega), sumY]
      congr 1
      grind
    have yb : fX9_yards M (nI b) (nI (b + 1)) = some (mY M b) := by
      rw [m_yards h (by omega) (by omega), sumY]
      congr 1
      grind
    rw [fX8_most_41, fX9_most_27, x_count h, h.2.2.1]
    simp only [Option.bind_some, if_neg (nI_ge hin (by omega)), x_yards h hin, x_yards h hb, x_booked h hin, x_booked h hb, i_add1, yi, yb, m_booked M (show i < 16 by omega), m_booked M (show b < 16 by omega), m_abs, abs_x]
    split
    · split
      · exact ih (i + 1) fu fv b (by omega) (by omega) hb (by omega) (by omega)
      · exact ih (i + 1) fu fv i (by omega) (by omega) hin (by omega) (by omega)
    · split
      · exact ih (i + 1) fu fv b (by omega) (by omega) hb (by omega) (by omega)
      · exact ih (i + 1) fu fv i (by omega) (by omega) hin (by omega) (by omega)
set_option maxHeartbeats 4000000 in
theorem s_most {X M : GS} (h : Rel X M) (a : Int32) : St (fX8_most X a) (fX9_most M a) := by
  obtain ⟨n, hL, hSh, hO⟩ := id h
  have hn := hL.1
  by_cases a0 : a.toInt = 0 ∨ a.toInt = 1
  · by_cases h0 : n = 0
    · subst h0
      rcases a0 with a0 | a0 <;> simp (disch := omega) only [fX8_most, fX8_most_L9, fX9_most, x_count hL, hL.2.2.1, reduceIte, Int32.reduceToInt, t_m1, t_m2, t_m3, t_m4, t_m5, t_m6, t_m7, ite_true, ite_false, tlt, tle, teq, tcl, tni, i_mul8, i_mul160, i_160mul, i_add, i_add1, i_100add, Int.toNat_natCast, if_yes, if_no, Option.bind_some, gLet_eq, and_true, true_and, or_false, false_or, not_true_eq_false, not_false_eq_true] <;> exact s_no h _ (by decide)
    · obtain ⟨z, e1, e2⟩ := most_l hL a (n - 1) 1 gFuel gFuel 0 rfl (by omega) (by omega) (gFu _ (by omega)) (gFu _ (by omega))
      rw [show nI 1 = (1 : Int32) from rfl, show nI 0 = (0 : Int32) from rfl] at e1 e2
      rcases a0 with a0 | a0 <;> simp (disch := omega) only [fX8_most, fX8_most_L9, fX9_most, x_count hL, hL.2.2.1, e1, e2, reduceIte, Int32.reduceToInt, t_m1, t_m2, t_m3, t_m4, t_m5, t_m6, t_m7, ite_true, ite_false, tlt, tle, teq, tcl, tni, i_mul8, i_mul160, i_160mul, i_add, i_add1, i_100add, Int.toNat_natCast, if_yes, if_no, Option.bind_some, gLet_eq, and_true, true_and, or_false, false_or, not_true_eq_false, not_false_eq_true] <;> exact ⟨_, _, rfl, rfl, rfl, h⟩
  · by_cases h0 : n = 0
    · subst h0
      simp (disch := omega) only [fX8_most, fX9_most, hL.2.2.1, reduceIte, Int32.reduceToInt, t_m1, t_m2, t_m3, t_m4, t_m5, t_m6, t_m7, ite_true, ite_false, tlt, tle, teq, tcl, tni, i_mul8, i_mul160, i_160mul, i_add, i_add1, i_100add, Int.toNat_natCast, if_yes, if_no, Option.bind_some, gLet_eq, and_true, true_and, or_false, false_or, not_true_eq_false, not_false_eq_true]
      exact s_no h _ (by decide)
    · by_cases a1 : a.toInt < 0 <;> simp (disch := omega) only [fX8_most, fX9_most, hL.2.2.1, reduceIte, Int32.reduceToInt, t_m1, t_m2, t_m3, t_m4, t_m5, t_m6, t_m7, ite_true, ite_false, tlt, tle, teq, tcl, tni, i_mul8, i_mul160, i_160mul, i_add, i_add1, i_100add, Int.toNat_natCast, if_yes, if_no, Option.bind_some, gLet_eq, and_true, true_and, or_false, false_or, not_true_eq_false, not_false_eq_true] <;> exact s_no h _ (by decide)
