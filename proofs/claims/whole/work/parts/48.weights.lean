/-! fault, off, weights, spread, meet, hours, seed, trace, status -/
theorem bmod64 (z : Int) (h1 : -9223372036854775808 ≤ z) (h2 : z < 9223372036854775808) : z.bmod (2 ^ 64) = z := by
  have e : ((2 ^ 64 : Nat) : Int) = 18446744073709551616 := rfl
  rw [Int.bmod_def, e]
  split <;> omega
theorem t64add (x y : Int64) (h : -9223372036854775808 ≤ x.toInt + y.toInt ∧ x.toInt + y.toInt < 9223372036854775808) : (x + y).toInt = x.toInt + y.toInt := by
  rw [Int64.toInt_add, bmod64 _ h.1 h.2]
theorem t64mul (x y : Int64) (h : -9223372036854775808 ≤ x.toInt * y.toInt ∧ x.toInt * y.toInt < 9223372036854775808) : (x * y).toInt = x.toInt * y.toInt := by
  rw [Int64.toInt_mul, bmod64 _ h.1 h.2]
theorem isN_i {x : Int32} {lo hi : Nat} (h : isN x lo hi) (hh : hi < 2147483648) : (lo : Int) ≤ x.toInt ∧ x.toInt ≤ hi := by
  obtain ⟨k, h1, h2, rfl⟩ := h
  rw [tni _ (by omega)]
  omega
theorem mY_r {X M : GS} {n : Nat} (h : RLp X M n) {i : Nat} (hi : i < n) : 2 ≤ (mY M i).toInt ∧ (mY M i).toInt ≤ 198 := by
  have q := h.2.2.2.2.1 i hi
  have a := isN_i q.2.2.2.2.1 (by decide)
  have b := isN_i q.2.2.2.2.2.1 (by decide)
  rw [mY, tadd _ _ (by omega)]
  omega
theorem sumY_r {X M : GS} {n : Nat} (h : RLp X M n) : ∀ k, k ≤ n → 2 * (k : Int) ≤ (sumY M k).toInt ∧ (sumY M k).toInt ≤ 198 * k := by
  have hn := h.1
  intro k
  induction k with
  | zero => intro _; rw [sumY, t_0]; omega
  | succ k ih =>
    intro hk
    have a := ih (by omega)
    have b := mY_r h (show k < n by omega)
    rw [sumY, tadd _ _ (by omega)]
    omega
def wT (v law : Int32) : Int64 := if law = 0 then 1 else if law = 1 then v.toInt64 else v.toInt64 * v.toInt64
def sumW (M : GS) (law : Int32) : Nat → Int64 | 0 => 0 | k + 1 => sumW M law k + wT (mY M k) law
theorem t64_1 : (1 : Int64).toInt = 1 := by decide +kernel
theorem t64_0 : (0 : Int64).toInt = 0 := by decide +kernel
theorem wT_r (v law : Int32) (h : 2 ≤ v.toInt ∧ v.toInt ≤ 198) : 1 ≤ (wT v law).toInt ∧ (wT v law).toInt ≤ 39204 := by
  rw [wT]
  split
  · rw [t64_1]; omega
  · split
    · rw [Int32.toInt_toInt64]; omega
    · have e1 : v.toInt * v.toInt ≤ 198 * 198 := Int.mul_le_mul h.2 h.2 (by omega) (by omega)
      have e2 : 2 * 2 ≤ v.toInt * v.toInt := Int.mul_le_mul h.1 h.1 (by omega) (by omega)
      rw [t64mul _ _ (by rw [Int32.toInt_toInt64]; omega), Int32.toInt_toInt64]
      omega
theorem sumW_r {X M : GS} {n : Nat} (h : RLp X M n) (law : Int32) : ∀ k, k ≤ n → (k : Int) ≤ (sumW M law k).toInt ∧ (sumW M law k).toInt ≤ 39204 * k := by
  have hn := h.1
  intro k
  induction k with
  | zero => intro _; rw [sumW, t64_0]; omega
  | succ k ih =>
    intro hk
    have a := ih (by omega)
    have b := wT_r _ law (mY_r h (show k < n by omega))
    rw [sumW, t64add _ _ (by omega)]
    omega
theorem sumW1 {X M : GS} {n : Nat} (h : RLp X M n) : ∀ k, k ≤ n → (sumW M 1 k).toInt = (sumY M k).toInt := by
  have hn := h.1
  intro k
  induction k with
  | zero => intro _; rw [sumW, sumY, t64_0, t_0]
  | succ k ih =>
    intro hk
    have a := ih (by omega)
    have b := mY_r h (show k < n by omega)
    have c := sumY_r h k (by omega)
    have e : wT (mY M k) 1 = (mY M k).toInt64 := rfl
    rw [sumW, sumY, e, t64add _ _ (by rw [Int32.toInt_toInt64]; omega), tadd _ _ (by omega), Int32.toInt_toInt64, a]
theorem sumW1_32 {X M : GS} {n : Nat} (h : RLp X M n) {k : Nat} (hk : k ≤ n) : (sumW M 1 k).toInt32 = sumY M k := by
  have hn := h.1
  have c := sumY_r h k hk
  rw [teq, Int64.toInt_toInt32, sumW1 h k hk, bmod32 _ (by omega) (by omega)]
theorem sumY_64 {X M : GS} {n : Nat} (h : RLp X M n) {k : Nat} (hk : k ≤ n) : (sumY M k).toInt64 = sumW M 1 k := by
  rw [← Int64.toInt_inj, Int32.toInt_toInt64, sumW1 h k hk]
theorem x_wl {X M : GS} {n : Nat} (h : RLp X M n) {k : Nat} (hk : k ≤ n) (law : Int32) : ∀ (d i fu : Nat), k - i = d → i ≤ k → d < fu → fX3_weightAheadOf_now_5 fu X (nI k) law (sumW M law i) (nI i) = some (sumW M law k) := by
  have hn := h.1
  intro d
  induction d with
  | zero =>
    intro i fu hd hi hf
    obtain ⟨fu, rfl⟩ : ∃ q, fu = q + 1 := ⟨fu - 1, by omega⟩
    have e : i = k := by omega
    subst e
    rw [fX3_weightAheadOf_now_5]
    simp (disch := omega) only [reduceIte, Int32.reduceToInt, t_m1, t_m2, t_m3, t_m4, t_m5, t_m6, t_m7, ite_true, ite_false, tlt, tle, teq, tcl, tni, i_mul8, i_mul160, i_160mul, i_add, i_add1, i_100add, Int.toNat_natCast, if_yes, if_no, Option.bind_some, gLet_eq, and_true, true_and, or_false, false_or, not_true_eq_false, not_false_eq_true]
  | succ d ih =>
    intro i fu hd hi hf
    obtain ⟨fu, rfl⟩ : ∃ q, fu = q + 1 := ⟨fu - 1, by omega⟩
    have q := ih (i + 1) fu (by omega) (by omega) (by omega)
    rw [sumW, wT] at q
    rw [fX3_weightAheadOf_now_5]
    by_cases l0 : law = 0
    · rw [if_pos l0] at q
      have l0' : law.toInt = 0 := by rw [l0]; rfl
      simp (disch := omega) only [h.2.1, x_yards h (show i < n by omega), reduceIte, Int32.reduceToInt, t_m1, t_m2, t_m3, t_m4, t_m5, t_m6, t_m7, ite_true, ite_false, tlt, tle, teq, tcl, tni, i_mul8, i_mul160, i_160mul, i_add, i_add1, i_100add, Int.toNat_natCast, if_yes, if_no, Option.bind_some, gLet_eq, and_true, true_and, or_false, false_or, not_true_eq_false, not_false_eq_true]
      exact q
    · rw [if_neg l0] at q
      have l0' : ¬ law.toInt = 0 := fun z => l0 (by rw [teq, t_0]; exact z)
      by_cases l1 : law = 1
      · rw [if_pos l1] at q
        have l1' : law.toInt = 1 := by rw [l1]; rfl
        simp (disch := omega) only [h.2.1, x_yards h (show i < n by omega), reduceIte, Int32.reduceToInt, t_m1, t_m2, t_m3, t_m4, t_m5, t_m6, t_m7, ite_true, ite_false, tlt, tle, teq, tcl, tni, i_mul8, i_mul160, i_160mul, i_add, i_add1, i_100add, Int.toNat_natCast, if_yes, if_no, Option.bind_some, gLet_eq, and_true, true_and, or_false, false_or, not_true_eq_false, not_false_eq_true]
        exact q
      · rw [if_neg l1] at q
        have l1' : ¬ law.toInt = 1 := fun z => l1 (by rw [teq]; exact z)
        simp (disch := omega) only [h.2.1, x_yards h (show i < n by omega), reduceIte, Int32.reduceToInt, t_m1, t_m2, t_m3, t_m4, t_m5, t_m6, t_m7, ite_true, ite_false, tlt, tle, teq, tcl, tni, i_mul8, i_mul160, i_160mul, i_add, i_add1, i_100add, Int.toNat_natCast, if_yes, if_no, Option.bind_some, gLet_eq, and_true, true_and, or_false, false_or, not_true_eq_false, not_false_eq_true]
        exact q
theorem x_weight {X M : GS} {n : Nat} (h : RLp X M n) {k : Nat} (hk : k ≤ n) (law : Int32) : fX3_weightAheadOf_now X (nI k) law = some (sumW M law k) := by
  have hn := h.1
  have q := x_wl h hk law k 0 gFuel (by omega) (by omega) (gFu _ (by omega))
  rw [sumW] at q
  rw [fX3_weightAheadOf_now, show (0 : Int32) = nI 0 from rfl, q]
  rfl
theorem m_wl {X M : GS} {n : Nat} (h : RLp X M n) {k : Nat} (hk : k ≤ n) (law : Int32) : ∀ (d i fu : Nat), k - i = d → i ≤ k → d < fu → fX9_weights_5 fu M law (nI k) (sumW M law i) (nI i) = some (sumW M law k) := by
  have hn := h.1
  intro d
  induction d with
  | zero =>
    intro i fu hd hi hf
    obtain ⟨fu, rfl⟩ : ∃ q, fu = q + 1 := ⟨fu - 1, by omega⟩
    have e : i = k := by omega
    subst e
    rw [fX9_weights_5]
    simp (disch := omega) only [reduceIte, Int32.reduceToInt, t_m1, t_m2, t_m3, t_m4, t_m5, t_m6, t_m7, ite_true, ite_false, tlt, tle, teq, tcl, tni, i_mul8, i_mul160, i_160mul, i_add, i_add1, i_100add, Int.toNat_natCast, if_yes, if_no, Option.bind_some, gLet_eq, and_true, true_and, or_false, false_or, not_true_eq_false, not_false_eq_true]
  | succ d ih =>
    intro i fu hd hi hf
    obtain ⟨fu, rfl⟩ : ∃ q, fu = q + 1 := ⟨fu - 1, by omega⟩
    have q := ih (i + 1) fu (by omega) (by omega) (by omega)
    rw [sumW, wT, mY] at q
    rw [fX9_weights_5]
    by_cases l0 : law = 0
    · rw [if_pos l0] at q
      have l0' : law.toInt = 0 := by rw [l0]; rfl
      simp (disch := omega) only [reduceIte, Int32.reduceToInt, t_m1, t_m2, t_m3, t_m4, t_m5, t_m6, t_m7, ite_true, ite_false, tlt, tle, teq, tcl, tni, i_mul8, i_mul160, i_160mul, i_add, i_add1, i_100add, Int.toNat_natCast, if_yes, if_no, Option.bind_some, gLet_eq, and_true, true_and, or_false, false_or, not_true_eq_false, not_false_eq_true]
      exact q
    · rw [if_neg l0] at q
      have l0' : ¬ law.toInt = 0 := fun z => l0 (by rw [teq, t_0]; exact z)
      by_cases l1 : law = 1
      · rw [if_pos l1] at q
        have l1' : law.toInt = 1 := by rw [l1]; rfl
        simp (disch := omega) only [reduceIte, Int32.reduceToInt, t_m1, t_m2, t_m3, t_m4, t_m5, t_m6, t_m7, ite_true, ite_false, tlt, tle, teq, tcl, tni, i_mul8, i_mul160, i_160mul, i_add, i_add1, i_100add, Int.toNat_natCast, if_yes, if_no, Option.bind_some, gLet_eq, and_true, true_and, or_false, false_or, not_true_eq_false, not_false_eq_true]
        exact q
      · rw [if_neg l1] at q
        have l1' : ¬ law.toInt = 1 := fun z => l1 (by rw [teq]; exact z)
        simp (disch := omega) only [reduceIte, Int32.reduceToInt, t_m1, t_m2, t_m3, t_m4, t_m5, t_m6, t_m7, ite_true, ite_false, tlt, tle, teq, tcl, tni, i_mul8, i_mul160, i_160mul, i_add, i_add1, i_100add, Int.toNat_natCast, if_yes, if_no, Option.bind_some, gLet_eq, and_true, true_and, or_false, false_or, not_true_eq_false, not_false_eq_true]
        exact q
theorem m_weights {X M : GS} {n : Nat} (h : RLp X M n) {k : Nat} (hk : k ≤ n) (law : Int32) : fX9_weights M law (nI k) = some (sumW M law k) := by
  have hn := h.1
  have q := m_wl h hk law k 0 gFuel (by omega) (by omega) (gFu _ (by omega))
  rw [sumW] at q
  rw [fX9_weights, show (0 : Int32) = nI 0 from rfl, q]
  rfl
theorem m_yl {X M : GS} {n : Nat} (h : RLp X M n) {k : Nat} (hk : k ≤ n) (v : Int32) : ∀ (d i fu : Nat) (z : Int32), k - i = d → i ≤ k → d < fu → v = z + (sumY M k - sumY M i) → fX9_yards_5 fu M (nI k) z (nI i) = some v := by
  have hn := h.1
  intro d
  induction d with
  | zero =>
    intro i fu z hd hi hf hv
    obtain ⟨fu, rfl⟩ : ∃ q, fu = q + 1 := ⟨fu - 1, by omega⟩
    have e : i = k := by omega
    subst e
    rw [fX9_yards_5, hv, Int32.sub_self, Int32.add_zero]
    simp (disch := omega) only [reduceIte, Int32.reduceToInt, t_m1, t_m2, t_m3, t_m4, t_m5, t_m6, t_m7, ite_true, ite_false, tlt, tle, teq, tcl, tni, i_mul8, i_mul160, i_160mul, i_add, i_add1, i_100add, Int.toNat_natCast, if_yes, if_no, Option.bind_some, gLet_eq, and_true, true_and, or_false, false_or, not_true_eq_false, not_false_eq_true]
  | succ d ih =>
    intro i fu z hd hi hf hv
    obtain ⟨fu, rfl⟩ : ∃ q, fu = q + 1 := ⟨fu - 1, by omega⟩
    rw [fX9_yards_5]
    simp (disch := omega) only [reduceIte, Int32.reduceToInt, t_m1, t_m2, t_m3, t_m4, t_m5, t_m6, t_m7, ite_true, ite_false, tlt, tle, teq, tcl, tni, i_mul8, i_mul160, i_160mul, i_add, i_add1, i_100add, Int.toNat_natCast, if_yes, if_no, Option.bind_some, gLet_eq, and_true, true_and, or_false, false_or, not_true_eq_false, not_false_eq_true]
    refine ih (i + 1) fu _ (by omega) (by omega) (by omega) ?_
    rw [hv, sumY, mY]
    grind
theorem m_yards {X M : GS} {n : Nat} (h : RLp X M n) {j k : Nat} (hj : j ≤ k) (hk : k ≤ n) : fX9_yards M (nI j) (nI k) = some (sumY M k - sumY M j) := by
  have hn := h.1
  rw [fX9_yards, m_yl h hk (sumY M k - sumY M j) (k - j) j gFuel 0 rfl hj (gFu _ (by omega)) (by grind)]
  rfl
theorem m_yards0 {X M : GS} {n : Nat} (h : RLp X M n) {k : Nat} (hk : k ≤ n) : fX9_yards M 0 (nI k) = some (sumY M k) := by
  rw [show (0 : Int32) = nI 0 from rfl, m_yards h (Nat.zero_le k) hk, sumY, Int32.sub_zero]
theorem m_rises0 {X M : GS} {n : Nat} (h : RLp X M n) {k : Nat} (hk : k ≤ n) : fX9_rises M 0 (nI k) = some (sumR M k) := by
  rw [show (0 : Int32) = nI 0 from rfl, m_rises h (Nat.zero_le k) hk, sumR, Int32.sub_zero]
theorem x_yia {X M : GS} {n : Nat} (h : RLp X M n) : fX8_yardsInAll X = some (sumY M n) := by
  rw [fX8_yardsInAll, x_count h]
  show (fX3_weightAheadOf_now X (nI n) 1).bind _ = _
  rw [x_weight h (Nat.le_refl n)]
  show some (sumW M 1 n).toInt32 = _
  rw [sumW1_32 h (Nat.le_refl n)]
theorem s_fault {X M : GS} (h : Rel X M) : Sr (fX8_fault X) (fX9_fault M) := by
  obtain ⟨n, hL, hSh, hO⟩ := h
  exact ⟨_, rfl, by rw [fX9_fault, hO.2.1]⟩
theorem s_hours {X M : GS} (h : Rel X M) : Sr (fX8_hours X) (fX9_hours M) := by
  obtain ⟨n, hL, hSh, hO⟩ := h
  rw [fX8_hours, fX9_hours, x_yia hL, hL.2.2.1, m_yards0 hL (Nat.le_refl n), x_count hL]
  exact ⟨_, rfl, rfl⟩
theorem s_seed {X M : GS} (h : Rel X M) (a : Int32) : St (fX8_seed X a) (fX9_seed M a) := by
  obtain ⟨n, hL, hSh, hO⟩ := h
  refine ⟨(X.1 3, gU1 X 3 a), (M.1 4, gU1 M 4 a), rfl, rfl, hL.2.2.2.2.2.1.2.2.2, n, ⟨hL.1, hL.2.1, hL.2.2.1, hL.2.2.2.1, hL.2.2.2.2.1, ⟨hL.2.2.2.2.2.1.1, hL.2.2.2.2.2.1.2.1, hL.2.2.2.2.2.1.2.2.1, rfl⟩, hL.2.2.2.2.2.2⟩, hSh, hO⟩
set_option maxHeartbeats 4000000 in
theorem s_trace {X M : GS} (h : Rel X M) (a : Int32) : Sr (fX8_trace X a) (fX9_trace M a) := by
  obtain ⟨n, hL, hSh, hO⟩ := h
  obtain ⟨r, hr, e1, e2, e3⟩ := hO.2.2.1
  rcases ix3 a 20 (by omega) with ha | ⟨i, hi, rfl⟩
  · rcases ha with ha | ha
    · simp (disch := omega) only [fX8_trace, fX0_bodyAt, fX9_trace, reduceIte, Int32.reduceToInt, t_m1, t_m2, t_m3, t_m4, t_m5, t_m6, t_m7, ite_true, ite_false, tlt, tle, teq, tcl, tni, i_mul8, i_mul160, i_160mul, i_add, i_add1, i_100add, Int.toNat_natCast, if_yes, if_no, Option.bind_some, gLet_eq, and_true, true_and, or_false, false_or, not_true_eq_false, not_false_eq_true]
      exact ⟨_, rfl, rfl⟩
    · by_cases hr2 : (r : Int) ≤ a.toInt
      · simp (disch := omega) only [fX8_trace, fX0_bodyAt, fX9_trace, e1, e2, reduceIte, Int32.reduceToInt, t_m1, t_m2, t_m3, t_m4, t_m5, t_m6, t_m7, ite_true, ite_false, tlt, tle, teq, tcl, tni, i_mul8, i_mul160, i_160mul, i_add, i_add1, i_100add, Int.toNat_natCast, if_yes, if_no, Option.bind_some, gLet_eq, and_true, true_and, or_false, false_or, not_true_eq_false, not_false_eq_true]
        exact ⟨_, rfl, rfl⟩
      · simp (disch := omega) only [fX8_trace, fX0_bodyAt, fX9_trace, e1, e2, reduceIte, Int32.reduceToInt, t_m1, t_m2, t_m3, t_m4, t_m5, t_m6, t_m7, ite_true, ite_false, tlt, tle, teq, tcl, tni, i_mul8, i_mul160, i_160mul, i_add, i_add1, i_100add, Int.toNat_natCast, if_yes, if_no, Option.bind_some, gLet_eq, and_true, true_and, or_false, false_or, not_true_eq_false, not_false_eq_true]
        exact ⟨_, rfl, rfl⟩
  · by_cases hr2 : r ≤ i
    · simp (disch := omega) only [fX8_trace, fX0_bodyAt, fX9_trace, e1, e2, reduceIte, Int32.reduceToInt, t_m1, t_m2, t_m3, t_m4, t_m5, t_m6, t_m7, ite_true, ite_false, tlt, tle, teq, tcl, tni, i_mul8, i_mul160, i_160mul, i_add, i_add1, i_100add, Int.toNat_natCast, if_yes, if_no, Option.bind_some, gLet_eq, and_true, true_and, or_false, false_or, not_true_eq_false, not_false_eq_true]
      exact ⟨_, rfl, rfl⟩
    · simp (disch := omega) only [fX8_trace, fX0_bodyAt, fX9_trace, e1, e2, reduceIte, Int32.reduceToInt, t_m1, t_m2, t_m3, t_m4, t_m5, t_m6, t_m7, ite_true, ite_false, tlt, tle, teq, tcl, tni, i_mul8, i_mul160, i_160mul, i_add, i_add1, i_100add, Int.toNat_natCast, if_yes, if_no, Option.bind_some, gLet_eq, and_true, true_and, or_false, false_or, not_true_eq_false, not_false_eq_true]
      exact ⟨_, rfl, by rw [e3 i (by omega) hi]⟩
theorem s_status {X M : GS} (h : Rel X M) (a : Int32) : Sr (fX8_status X a) (fX9_status M a) := by
  obtain ⟨n, hL, hSh, hO⟩ := h
  have eL : Sr (fX8_status_L22 X a) (fX9_status_L22 M a) := by
    obtain ⟨r, hr, e1, e2, e3⟩ := hO.2.2.1
    rw [fX8_status_L22, fX9_status_L22]
    split
    · rw [x_count hL]; exact ⟨_, rfl, by rw [hL.2.2.1]⟩
    · split
      · rw [x_yia hL, hL.2.2.1, m_yards0 hL (Nat.le_refl n)]; exact ⟨_, rfl, rfl⟩
      · split
        · rw [xs8 hL]; exact ⟨_, rfl, rfl⟩
        · split
          · rw [xs9 hL]; exact ⟨_, rfl, rfl⟩
          · split
            · rw [xs10 hL]; exact ⟨_, rfl, rfl⟩
            · split
              · exact ⟨_, rfl, by rw [hL.2.2.2.2.2.1.2.2.2]⟩
              · split
                · exact ⟨_, rfl, by rw [e1, e2]⟩
                · exact ⟨_, rfl, rfl⟩
  by_cases h1 : a < 11
  · simp only [fX8_status, fX9_status, if_pos h1]
    exact eL
  · by_cases h2 : 17 < a
    · simp only [fX8_status, fX9_status, if_neg h1, if_pos h2]
      exact eL
    · have h1' := h1
      have h2' := h2
      rw [tlt, show (11 : Int32).toInt = 11 from rfl] at h1'
      rw [tlt, show (17 : Int32).toInt = 17 from rfl] at h2'
      have e : (a - 10).toInt = a.toInt - 10 := by
        rw [tsub _ _ (by rw [show (10 : Int32).toInt = 10 from rfl]; omega)]
        rfl
      have e3 : ¬ ((a - 10) < 0 ∨ 8 ≤ (a - 10).toNatClampNeg) := by
        rw [tlt, tcl, e, t_0]
        omega
      simp only [fX8_status, fX9_status, if_neg h1, if_neg h2, if_neg e3]
      refine ⟨_, rfl, ?_⟩
      rw [hO.1 _ (by rw [tcl, e]; omega)]
