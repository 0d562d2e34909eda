/-! sums over set-ups: heights, off, yards, weights -/
def sumR (M : GS) : Nat → Int32 | 0 => 0 | k + 1 => sumR M k + mR M k
def sumB (M : GS) : Nat → Int32 | 0 => 0 | k + 1 => sumB M k + mB M k
def sumY (M : GS) : Nat → Int32 | 0 => 0 | k + 1 => sumY M k + mY M k
theorem x_rl {X M : GS} {n : Nat} (h : RLp X M n) {k : Nat} (hk : k ≤ n) : ∀ (d i fu : Nat), k - i = d → i ≤ k → d < fu → fX3_risesAheadOf_now_4 fu X (nI k) (sumR M i) (nI i) = some (sumR M k) := by
  have hn := h.1
  intro d
  induction d with
  | zero =>
    intro i fu hd hi hf
    obtain ⟨fu, rfl⟩ : ∃ q, fu = q + 1 := ⟨fu - 1, by omega⟩
    have e : i = k := by omega
    subst e
    rw [fX3_risesAheadOf_now_4]
    simp (disch := omega) only [reduceIte, Int32.reduceToInt, t_m1, t_m2, t_m3, t_m4, t_m5, t_m6, t_m7, ite_true, ite_false, tlt, tle, teq, tcl, tni, i_mul8, i_mul160, i_160mul, i_add, i_add1, i_100add, Int.toNat_natCast, if_yes, if_no, Option.bind_some, gLet_eq, and_true, true_and, or_false, false_or, not_true_eq_false, not_false_eq_true]
  | succ d ih =>
    intro i fu hd hi hf
    obtain ⟨fu, rfl⟩ : ∃ q, fu = q + 1 := ⟨fu - 1, by omega⟩
    rw [fX3_risesAheadOf_now_4]
    simp (disch := omega) only [h.2.1, x_rise h (show i < n by omega), reduceIte, Int32.reduceToInt, t_m1, t_m2, t_m3, t_m4, t_m5, t_m6, t_m7, ite_true, ite_false, tlt, tle, teq, tcl, tni, i_mul8, i_mul160, i_160mul, i_add, i_add1, i_100add, Int.toNat_natCast, if_yes, if_no, Option.bind_some, gLet_eq, and_true, true_and, or_false, false_or, not_true_eq_false, not_false_eq_true]
    exact ih (i + 1) fu (by omega) (by omega) (by omega)
theorem x_rises {X M : GS} {n : Nat} (h : RLp X M n) {k : Nat} (hk : k ≤ n) : fX3_risesAheadOf_now X (nI k) = some (sumR M k) := by
  have hn := h.1
  rw [fX3_risesAheadOf_now, show (0 : Int32) = sumR M 0 from rfl, show (sumR M 0) = nI 0 from rfl]
  exact (congrArg (fun z => Option.bind z _) (x_rl h hk k 0 gFuel (by omega) (by omega) (gFu _ (by omega)))).trans rfl
theorem m_rl {X M : GS} {n : Nat} (h : RLp X M n) {k : Nat} (hk : k ≤ n) (v : Int32) : ∀ (d i fu : Nat) (z : Int32), k - i = d → i ≤ k → d < fu → v = z + (sumR M k - sumR M i) → fX9_rises_5 fu M (nI k) z (nI i) = some v := by
  have hn := h.1
  intro d
  induction d with
  | zero =>
    intro i fu z hd hi hf hv
    obtain ⟨fu, rfl⟩ : ∃ q, fu = q + 1 := ⟨fu - 1, by omega⟩
    have e : i = k := by omega
    subst e
    rw [fX9_rises_5, hv, Int32.sub_self, Int32.add_zero]
    simp (disch := omega) only [reduceIte, Int32.reduceToInt, t_m1, t_m2, t_m3, t_m4, t_m5, t_m6, t_m7, ite_true, ite_false, tlt, tle, teq, tcl, tni, i_mul8, i_mul160, i_160mul, i_add, i_add1, i_100add, Int.toNat_natCast, if_yes, if_no, Option.bind_some, gLet_eq, and_true, true_and, or_false, false_or, not_true_eq_false, not_false_eq_true]
  | succ d ih =>
    intro i fu z hd hi hf hv
    obtain ⟨fu, rfl⟩ : ∃ q, fu = q + 1 := ⟨fu - 1, by omega⟩
    rw [fX9_rises_5]
    simp (disch := omega) only [m_rise h (show i < n by omega), reduceIte, Int32.reduceToInt, t_m1, t_m2, t_m3, t_m4, t_m5, t_m6, t_m7, ite_true, ite_false, tlt, tle, teq, tcl, tni, i_mul8, i_mul160, i_160mul, i_add, i_add1, i_100add, Int.toNat_natCast, if_yes, if_no, Option.bind_some, gLet_eq, and_true, true_and, or_false, false_or, not_true_eq_false, not_false_eq_true]
    refine ih (i + 1) fu _ (by omega) (by omega) (by omega) ?_
    rw [hv, sumR]
    grind
theorem m_rises {X M : GS} {n : Nat} (h : RLp X M n) {j k : Nat} (hj : j ≤ k) (hk : k ≤ n) : fX9_rises M (nI j) (nI k) = some (sumR M k - sumR M j) := by
  have hn := h.1
  rw [fX9_rises, m_rl h hk (sumR M k - sumR M j) (k - j) j gFuel 0 rfl hj (gFu _ (by omega)) (by grind)]
  rfl
theorem m_off {X M : GS} {n : Nat} (h : RLp X M n) : fX9_offAll M = some (sumR M n) := by
  rw [fX9_offAll, h.2.2.1, show (0 : Int32) = nI 0 from rfl, m_rises h (Nat.zero_le n) (Nat.le_refl n), sumR]
  simp only [Option.bind_some, Int32.sub_zero]
theorem x_count {X M : GS} {n : Nat} (h : RLp X M n) : fX3_count_now X = some (nI n) := by rw [fX3_count_now, h.2.1]
theorem x_height {X M : GS} {n : Nat} (h : RLp X M n) {k : Nat} (hk : k ≤ n) : fX3_heightAt_now X (nI k) = some (M.1 1 + sumR M k) := by
  simp only [fX3_heightAt_now, xs8 h, x_rises h hk, Option.bind_some]
theorem s_far' {X M : GS} (h : Rel X M) (b : Int32) (hb : b = -1 ∨ b = -2 ∨ b = -3 ∨ b = -4 ∨ b = -5 ∨ b = -6 ∨ b = -7) : St ((fX8_refuse X b).bind fun u => some ((-1000000 + u.1), u.2)) ((fX9_noFar M b).bind fun u => some (u.1, u.2)) := s_far h b hb
set_option maxHeartbeats 4000000 in
theorem s_height {X M : GS} (h : Rel X M) (a : Int32) : St (fX8_height X a) (fX9_height M a) := by
  obtain ⟨n, hL, hSh, hO⟩ := id h
  have hn := hL.1
  rcases ix3 a (n + 1) (by omega) with ha | ⟨k, hk, rfl⟩
  · rcases ha with ha | ha
    · simp (disch := omega) only [fX8_height, fX8_height_L15, fX9_height, reduceIte, Int32.reduceToInt, t_m1, t_m2, t_m3, t_m4, t_m5, t_m6, t_m7, ite_true, ite_false, tlt, tle, teq, tcl, tni, i_mul8, i_mul160, i_160mul, i_add, i_add1, i_100add, Int.toNat_natCast, if_yes, if_no, Option.bind_some, gLet_eq, and_true, true_and, or_false, false_or, not_true_eq_false, not_false_eq_true]
      exact s_far h _ (by decide)
    · simp (disch := omega) only [fX8_height, fX8_height_L15, fX9_height, x_count hL, hL.2.2.1, reduceIte, Int32.reduceToInt, t_m1, t_m2, t_m3, t_m4, t_m5, t_m6, t_m7, ite_true, ite_false, tlt, tle, teq, tcl, tni, i_mul8, i_mul160, i_160mul, i_add, i_add1, i_100add, Int.toNat_natCast, if_yes, if_no, Option.bind_some, gLet_eq, and_true, true_and, or_false, false_or, not_true_eq_false, not_false_eq_true]
      exact s_far h _ (by decide)
  · simp (disch := omega) only [fX8_height, fX8_height_L15, fX9_height, x_count hL, hL.2.2.1, x_height hL (show k ≤ n by omega), reduceIte, Int32.reduceToInt, t_m1, t_m2, t_m3, t_m4, t_m5, t_m6, t_m7, ite_true, ite_false, tlt, tle, teq, tcl, tni, i_mul8, i_mul160, i_160mul, i_add, i_add1, i_100add, Int.toNat_natCast, if_yes, if_no, Option.bind_some, gLet_eq, and_true, true_and, or_false, false_or, not_true_eq_false, not_false_eq_true]
    rw [show (0 : Int32) = nI 0 from rfl, m_rises hL (Nat.zero_le k) (by omega), sumR]
    simp only [Option.bind_some, Int32.sub_zero]
    exact ⟨_, _, rfl, rfl, rfl, h⟩
