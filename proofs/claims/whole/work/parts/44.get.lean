/-! the loop read: figures, settings, errors, rises -/
theorem x_get (X : GS) {i c : Nat} (hi : i < 16) (hc : c < 8) : fX3_get_now X (nI i) (nI c) = some (X.2.2.1 0 (8 * i + c)) := by
  simp (disch := omega) only [fX3_get_now, reduceIte, Int32.reduceToInt, t_m1, t_m2, t_m3, t_m4, t_m5, t_m6, t_m7, ite_true, ite_false, tlt, tle, teq, tcl, tni, i_mul8, i_mul160, i_160mul, i_add, i_add1, i_100add, Int.toNat_natCast, if_yes, if_no, Option.bind_some, gLet_eq, and_true, true_and, or_false, false_or, not_true_eq_false, not_false_eq_true]
theorem xg0 {X M : GS} {n : Nat} (h : RLp X M n) {i : Nat} (hi : i < n) : fX3_get_now X (nI i) 0 = some (M.2.2.1 7 i) := by
  have := h.1
  rw [show (0 : Int32) = nI 0 from rfl, x_get X (by omega) (by omega), Nat.add_zero, (h.2.2.2.1 i hi).1]
theorem xg1 {X M : GS} {n : Nat} (h : RLp X M n) {i : Nat} (hi : i < n) : fX3_get_now X (nI i) 1 = some (M.2.2.1 8 i) := by
  have := h.1
  rw [show (1 : Int32) = nI 1 from rfl, x_get X (by omega) (by omega), (h.2.2.2.1 i hi).2.1]
theorem xg2 {X M : GS} {n : Nat} (h : RLp X M n) {i : Nat} (hi : i < n) : fX3_get_now X (nI i) 2 = some (M.2.2.1 9 i) := by
  have := h.1
  rw [show (2 : Int32) = nI 2 from rfl, x_get X (by omega) (by omega), (h.2.2.2.1 i hi).2.2.1]
theorem xg3 {X M : GS} {n : Nat} (h : RLp X M n) {i : Nat} (hi : i < n) : fX3_get_now X (nI i) 3 = some (M.2.2.1 10 i) := by
  have := h.1
  rw [show (3 : Int32) = nI 3 from rfl, x_get X (by omega) (by omega), (h.2.2.2.1 i hi).2.2.2.1]
theorem xg4 {X M : GS} {n : Nat} (h : RLp X M n) {i : Nat} (hi : i < n) : fX3_get_now X (nI i) 4 = some (M.2.2.1 11 i) := by
  have := h.1
  rw [show (4 : Int32) = nI 4 from rfl, x_get X (by omega) (by omega), (h.2.2.2.1 i hi).2.2.2.2.1]
theorem xg5 {X M : GS} {n : Nat} (h : RLp X M n) {i : Nat} (hi : i < n) : fX3_get_now X (nI i) 5 = some (M.2.2.1 12 i) := by
  have := h.1
  rw [show (5 : Int32) = nI 5 from rfl, x_get X (by omega) (by omega), (h.2.2.2.1 i hi).2.2.2.2.2.1]
theorem xg6 {X M : GS} {n : Nat} (h : RLp X M n) {i : Nat} (hi : i < n) : fX3_get_now X (nI i) 6 = some (M.2.2.1 13 i) := by
  have := h.1
  rw [show (6 : Int32) = nI 6 from rfl, x_get X (by omega) (by omega), (h.2.2.2.1 i hi).2.2.2.2.2.2.1]
theorem xg7 {X M : GS} {n : Nat} (h : RLp X M n) {i : Nat} (hi : i < n) : fX3_get_now X (nI i) 7 = some (M.2.2.1 14 i) := by
  have := h.1
  rw [show (7 : Int32) = nI 7 from rfl, x_get X (by omega) (by omega), (h.2.2.2.1 i hi).2.2.2.2.2.2.2]
theorem xs8 {X M : GS} {n : Nat} (h : RLp X M n) : fX3_setting_now X 8 = some (M.1 1) := by
  rw [← h.2.2.2.2.2.1.1]
  rfl
theorem xs9 {X M : GS} {n : Nat} (h : RLp X M n) : fX3_setting_now X 9 = some (M.1 2) := by
  rw [← h.2.2.2.2.2.1.2.1]
  rfl
theorem xs10 {X M : GS} {n : Nat} (h : RLp X M n) : fX3_setting_now X 10 = some (M.1 3) := by
  rw [← h.2.2.2.2.2.1.2.2.1]
  rfl
def mB (M : GS) (i : Nat) : Int32 := M.2.2.1 9 i - M.2.2.1 10 i
def mY (M : GS) (i : Nat) : Int32 := M.2.2.1 11 i + M.2.2.1 12 i
def sgn (v b : Int32) : Int32 := if 0 < b then v else if b < 0 then -v else 0
def mSk (M : GS) (i : Nat) : Int32 := if M.2.2.1 7 i = 2 then M.2.2.1 8 i else if M.2.2.1 7 i = 5 then 2 * M.2.2.1 8 i else 0
def eV (M : GS) (i : Nat) (b : Int32) : Int32 :=
  if M.2.2.1 7 i = 1 then (M.1 2 * (M.2.2.1 11 i - M.2.2.1 12 i)) / 10
  else if M.2.2.1 7 i = 2 then (if M.2.2.1 14 i = 1 then -M.2.2.1 8 i else M.2.2.1 8 i)
  else if M.2.2.1 7 i = 3 then 2 * ((M.1 2 * (M.2.2.1 11 i - M.2.2.1 12 i)) / 10)
  else if M.2.2.1 7 i = 4 then sgn (M.2.2.1 8 i) b
  else if M.2.2.1 7 i = 5 then (if M.2.2.1 14 i = 1 then -(2 * M.2.2.1 8 i) else 2 * M.2.2.1 8 i)
  else if M.2.2.1 7 i = 6 then sgn (if mY M i < 100 then M.2.2.1 8 i else M.2.2.1 8 i + 1) b
  else 0
def mR (M : GS) (i : Nat) : Int32 := mB M i - eV M i (mB M i)
theorem kind7 {X M : GS} {n : Nat} (h : RLp X M n) {i : Nat} (hi : i < n) : M.2.2.1 7 i = 0 ∨ M.2.2.1 7 i = 1 ∨ M.2.2.1 7 i = 2 ∨ M.2.2.1 7 i = 3 ∨ M.2.2.1 7 i = 4 ∨ M.2.2.1 7 i = 5 ∨ M.2.2.1 7 i = 6 := by
  obtain ⟨k, -, hk, e⟩ := (h.2.2.2.2.1 i hi).1
  rw [e]
  rcases (show k = 0 ∨ k = 1 ∨ k = 2 ∨ k = 3 ∨ k = 4 ∨ k = 5 ∨ k = 6 by omega) with rfl | rfl | rfl | rfl | rfl | rfl | rfl <;> decide
theorem x_booked {X M : GS} {n : Nat} (h : RLp X M n) {i : Nat} (hi : i < n) : fX3_bookedOf_now X (nI i) = some (mB M i) := by
  simp only [fX3_bookedOf_now, xg2 h hi, xg3 h hi, Option.bind_some, mB]
theorem x_yards {X M : GS} {n : Nat} (h : RLp X M n) {i : Nat} (hi : i < n) : fX3_yardsOf_now X (nI i) = some (mY M i) := by
  simp only [fX3_yardsOf_now, xg4 h hi, xg5 h hi, Option.bind_some, mY]
theorem x_sunk {X M : GS} {n : Nat} (h : RLp X M n) {i : Nat} (hi : i < n) : fX3_sunkBy_now X (nI i) = some (mSk M i) := by
  simp only [fX3_sunkBy_now, xg0 h hi, xg1 h hi, Option.bind_some, mSk]
  split
  · rfl
  · split <;> rfl
theorem x_uneven {X M : GS} {n : Nat} (h : RLp X M n) {i : Nat} (hi : i < n) : fX3_unevenError_now X (nI i) = some ((M.1 2 * (M.2.2.1 11 i - M.2.2.1 12 i)) / 10) := by
  simp only [fX3_unevenError_now, xs9 h, xg4 h hi, xg5 h hi, Option.bind_some]
theorem m1_or (x : Int32) : (-1 ||| x) = -1 := by
  apply Int32.toBitVec_inj.mp
  show (-1 : Int32).toBitVec ||| x.toBitVec = (-1 : Int32).toBitVec
  rw [show (-1 : Int32).toBitVec = BitVec.allOnes 32 by decide]
  apply BitVec.eq_of_getLsbD_eq
  intro i hi
  rw [BitVec.getLsbD_or, BitVec.getLsbD_allOnes]
  simp [hi]
theorem z_or (x : Int32) : (0 ||| x) = x := by
  apply Int32.toBitVec_inj.mp
  show (0 : Int32).toBitVec ||| x.toBitVec = x.toBitVec
  rw [show (0 : Int32).toBitVec = 0#32 by decide]
  simp
theorem signum_p (S : GS) (b : Int32) : fJ6_signum_0f7a4 S b = some (sgn 1 b) := by
  have hb := i32 b
  rw [fJ6_signum_0f7a4, sgn]
  congr 1
  have h31 : ((31 : Int32) &&& 31) = 31 := by decide
  rw [h31]
  have e1 : (b >>> (31 : Int32)).toInt = b.toInt >>> 31 := pk_shr b 31 31 (by decide)
  have e2 : ((-b).toUInt32 >>> (((31 : Int32)).toUInt32 &&& Int32.toUInt32 31)).toInt32.toBitVec.toNat = (-b).toBitVec.toNat / 2 ^ 31 := pk_ushr (-b) 31 31 (by decide)
  rw [Int.shiftRight_eq_div_pow] at e1
  by_cases h1 : b.toInt < 0
  · have e3 : (b >>> (31 : Int32)) = -1 := by
      rw [teq, t_m1, e1]
      omega
    rw [e3, m1_or, if_neg (by rw [tlt, t_0]; omega), if_pos (by rw [tlt, t_0]; omega)]
  · have e3 : (b >>> (31 : Int32)) = 0 := by
      rw [teq, t_0, e1]
      omega
    rw [e3, z_or]
    by_cases h2 : b.toInt = 0
    · have e4 : b = 0 := by rw [teq, t_0]; exact h2
      subst e4
      decide
    · rw [if_pos (by rw [tlt, t_0]; omega)]
      obtain ⟨k, hk, rfl, ek⟩ := of_nn (x := b) (by omega)
      apply Int32.toBitVec_inj.mp
      apply BitVec.eq_of_toNat_eq
      rw [e2, show (-nI k).toBitVec = -(nI k).toBitVec from rfl, BitVec.toNat_neg, pk_tn (by omega)]
      show (4294967296 - k) % 4294967296 / 2147483648 = 1
      omega
theorem sgn_mul (v b : Int32) : sgn 1 b * v = sgn v b := by
  simp only [sgn]
  split
  · exact Int32.one_mul v
  · split
    · rw [Int32.neg_mul, Int32.one_mul]
    · exact Int32.zero_mul
theorem x_err {X M : GS} {n : Nat} (h : RLp X M n) {i : Nat} (hi : i < n) (b : Int32) : fX3_errorOf_now X (nI i) b = some (eV M i b) := by
  have k1 := x_uneven h hi
  have k2 := x_sunk h hi
  have k3 := x_yards h hi
  rw [fX3_errorOf_now, xg0 h hi]
  rcases kind7 h hi with e | e | e | e | e | e | e
  all_goals
    rw [mSk, e] at k2
    simp only [e, k1, k2, k3, xg1 h hi, xg7 h hi, signum_p, sgn_mul, eV, Option.bind_some, kn_01, kn_02, kn_03, kn_04, kn_05, kn_06, kn_10, kn_12, kn_13, kn_14, kn_15, kn_16, kn_20, kn_21, kn_23, kn_24, kn_25, kn_26, kn_30, kn_31, kn_32, kn_34, kn_35, kn_36, kn_40, kn_41, kn_42, kn_43, kn_45, kn_46, kn_50, kn_51, kn_52, kn_53, kn_54, kn_56, kn_60, kn_61, kn_62, kn_63, kn_64, kn_65, reduceIte]
  · split <;> rfl
  · split <;> rfl
  · split
    · rw [Int32.add_zero]
    · rfl
theorem x_rise {X M : GS} {n : Nat} (h : RLp X M n) {i : Nat} (hi : i < n) : fX3_riseOf_now X (nI i) = some (mR M i) := by
  simp only [fX3_riseOf_now, x_booked h hi, x_err h hi, Option.bind_some, mR]
theorem m_booked (M : GS) {i : Nat} (hi : i < 16) : fX9_booked M (nI i) = some (mB M i) := by
  simp (disch := omega) only [fX9_booked, mB, reduceIte, Int32.reduceToInt, t_m1, t_m2, t_m3, t_m4, t_m5, t_m6, t_m7, ite_true, ite_false, tlt, tle, teq, tcl, tni, i_mul8, i_mul160, i_160mul, i_add, i_add1, i_100add, Int.toNat_natCast, if_yes, if_no, Option.bind_some, gLet_eq, and_true, true_and, or_false, false_or, not_true_eq_false, not_false_eq_true]
theorem m_signed (M : GS) (v b : Int32) : fX9_signed M v b = some (sgn v b) := by
  simp only [fX9_signed, sgn, tle, tlt, Int32.reduceToInt]
  by_cases h1 : b.toInt ≤ 0
  · by_cases h2 : 0 ≤ b.toInt
    · rw [if_pos h1, if_pos h2, if_neg (by omega), if_neg (by omega)]
    · rw [if_pos h1, if_neg h2, if_neg (by omega), if_pos (by omega)]
  · rw [if_neg h1, if_pos (by omega)]
theorem m_err {X M : GS} {n : Nat} (h : RLp X M n) {i : Nat} (hi : i < n) : fX9_error M (nI i) = some (eV M i (mB M i)) := by
  have := h.1
  have kb := m_booked M (i := i) (by omega)
  have kc : (nI i < 0 ∨ 16 ≤ i) = False := by
    have q := nI_inb (k := i) (n := 16) (by omega) (by decide)
    rw [nI_clamp (by omega)] at q
    exact eq_false q
  have kd : (nI i).toNatClampNeg = i := nI_clamp (by omega)
  rw [fX9_error]
  rcases kind7 h hi with e | e | e | e | e | e | e
  all_goals
    simp only [kc, kd, e, kb, m_signed, fX9_sinks, eV, mY, Option.bind_some, kn_01, kn_02, kn_03, kn_04, kn_05, kn_06, kn_10, kn_12, kn_13, kn_14, kn_15, kn_16, kn_20, kn_21, kn_23, kn_24, kn_25, kn_26, kn_30, kn_31, kn_32, kn_34, kn_35, kn_36, kn_40, kn_41, kn_42, kn_43, kn_45, kn_46, kn_50, kn_51, kn_52, kn_53, kn_54, kn_56, kn_60, kn_61, kn_62, kn_63, kn_64, kn_65, reduceIte]
  all_goals first | (split <;> rfl) | (split <;> rename_i q <;> simp only [q, reduceIte])
theorem m_rise {X M : GS} {n : Nat} (h : RLp X M n) {i : Nat} (hi : i < n) : fX9_rise M (nI i) = some (mR M i) := by
  have := h.1
  simp only [fX9_rise, m_booked M (show i < 16 by omega), m_err h hi, Option.bind_some, mR]
