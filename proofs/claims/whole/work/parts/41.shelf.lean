/-! shelves -/
theorem x_has (X : GS) {s : Nat} (hs : s < 8) : fX5_has X (nI s) = some 1 := by
  simp (disch := omega) only [fX5_has, reduceIte, Int32.reduceToInt, t_m1, t_m2, t_m3, t_m4, t_m5, t_m6, t_m7, ite_true, ite_false, tlt, tle, teq, tcl, tni, i_mul8, i_mul160, i_160mul, i_add, i_add1, i_100add, Int.toNat_natCast, if_yes, if_no, Option.bind_some, gLet_eq, and_true, true_and, or_false, false_or, not_true_eq_false, not_false_eq_true]
theorem x_has0 (X : GS) {a : Int32} (h : a.toInt < 0 ∨ ((8 : Nat) : Int) ≤ a.toInt) : fX5_has X a = some 0 := by
  simp only [fX5_has, tlt, tle, Int32.reduceToInt]
  split
  · rfl
  · rw [if_pos (by omega)]
theorem m_is (M : GS) {s : Nat} (hs : s < 8) : fX9_isShelf M (nI s) = some 1 := by
  simp (disch := omega) only [fX9_isShelf, reduceIte, Int32.reduceToInt, t_m1, t_m2, t_m3, t_m4, t_m5, t_m6, t_m7, ite_true, ite_false, tlt, tle, teq, tcl, tni, i_mul8, i_mul160, i_160mul, i_add, i_add1, i_100add, Int.toNat_natCast, if_yes, if_no, Option.bind_some, gLet_eq, and_true, true_and, or_false, false_or, not_true_eq_false, not_false_eq_true]
theorem m_is0 (M : GS) {a : Int32} (h : a.toInt < 0 ∨ ((8 : Nat) : Int) ≤ a.toInt) : fX9_isShelf M a = some 0 := by
  simp only [fX9_isShelf, tlt, tle, Int32.reduceToInt]
  split
  · rfl
  · rw [if_pos (by omega)]
theorem x_held (X : GS) {s : Nat} (hs : s < 8) : fX5_heldBy X (nI s) = some (X.2.2.1 64 s) := by
  simp (disch := omega) only [fX5_heldBy, x_has X hs, reduceIte, Int32.reduceToInt, t_m1, t_m2, t_m3, t_m4, t_m5, t_m6, t_m7, ite_true, ite_false, tlt, tle, teq, tcl, tni, i_mul8, i_mul160, i_160mul, i_add, i_add1, i_100add, Int.toNat_natCast, if_yes, if_no, Option.bind_some, gLet_eq, and_true, true_and, or_false, false_or, not_true_eq_false, not_false_eq_true]
theorem x_len (X : GS) {s : Nat} (hs : s < 8) : fX5_lengthOf X (nI s) = some (X.2.2.1 65 s) := by
  simp (disch := omega) only [fX5_lengthOf, x_has X hs, reduceIte, Int32.reduceToInt, t_m1, t_m2, t_m3, t_m4, t_m5, t_m6, t_m7, ite_true, ite_false, tlt, tle, teq, tcl, tni, i_mul8, i_mul160, i_160mul, i_add, i_add1, i_100add, Int.toNat_natCast, if_yes, if_no, Option.bind_some, gLet_eq, and_true, true_and, or_false, false_or, not_true_eq_false, not_false_eq_true]
/-- why a shelf holds no row -/
def rRow (hm : Int32) : Int32 := if hm = 2 then -2 else if hm = 0 then -3 else 0
theorem rs_m {X M : GS} {n s : Nat} (h : RSn X M n s) : M.2.2.1 15 s = 0 ∨ M.2.2.1 15 s = 1 ∨ M.2.2.1 15 s = 2 := by
  rcases h with h | ⟨k, h⟩ | ⟨o, L, h⟩
  · exact Or.inl h.2.1
  · exact Or.inr (Or.inr h.2.2.1)
  · exact Or.inr (Or.inl h.2.2.2.1)
theorem x_setup {X M : GS} {n s : Nat} (hn : n ≤ 16) (h : RSn X M n s) (hs : s < 8) : fX5_holdsSetUp X (nI s) = some (if M.2.2.1 15 s = 2 then 1 else 0) := by
  rcases h with h | ⟨k, h⟩ | ⟨o, L, h⟩
  · simp (disch := omega) only [fX5_holdsSetUp, x_has X hs, h.1, h.2.1, reduceIte, Int32.reduceToInt, t_m1, t_m2, t_m3, t_m4, t_m5, t_m6, t_m7, ite_true, ite_false, tlt, tle, teq, tcl, tni, i_mul8, i_mul160, i_160mul, i_add, i_add1, i_100add, Int.toNat_natCast, if_yes, if_no, Option.bind_some, gLet_eq, and_true, true_and, or_false, false_or, not_true_eq_false, not_false_eq_true]
  · have := h.1
    simp (disch := omega) only [fX5_holdsSetUp, x_has X hs, h.2.1, h.2.2.1, reduceIte, Int32.reduceToInt, t_m1, t_m2, t_m3, t_m4, t_m5, t_m6, t_m7, ite_true, ite_false, tlt, tle, teq, tcl, tni, i_mul8, i_mul160, i_160mul, i_add, i_add1, i_100add, Int.toNat_natCast, if_yes, if_no, Option.bind_some, gLet_eq, and_true, true_and, or_false, false_or, not_true_eq_false, not_false_eq_true]
  · have := h.1
    simp (disch := omega) only [fX5_holdsSetUp, x_has X hs, h.2.2.1, h.2.2.2.1, reduceIte, Int32.reduceToInt, t_m1, t_m2, t_m3, t_m4, t_m5, t_m6, t_m7, ite_true, ite_false, tlt, tle, teq, tcl, tni, i_mul8, i_mul160, i_160mul, i_add, i_add1, i_100add, Int.toNat_natCast, if_yes, if_no, Option.bind_some, gLet_eq, and_true, true_and, or_false, false_or, not_true_eq_false, not_false_eq_true]
theorem x_rowR {X M : GS} {n s : Nat} (hn : n ≤ 16) (h : RSn X M n s) (hs : s < 8) : fX8_rowRefusal X (nI s) = some (rRow (M.2.2.1 15 s)) := by
  have e := x_setup hn h hs
  rcases h with h | ⟨k, h⟩ | ⟨o, L, h⟩
  · rw [h.2.1] at e ⊢
    simp (disch := omega) only [fX8_rowRefusal, x_has X hs, x_held X hs, e, h.1, rRow, reduceIte, Int32.reduceToInt, t_m1, t_m2, t_m3, t_m4, t_m5, t_m6, t_m7, ite_true, ite_false, tlt, tle, teq, tcl, tni, i_mul8, i_mul160, i_160mul, i_add, i_add1, i_100add, Int.toNat_natCast, if_yes, if_no, Option.bind_some, gLet_eq, and_true, true_and, or_false, false_or, not_true_eq_false, not_false_eq_true]
  · have := h.1
    rw [h.2.2.1] at e ⊢
    simp (disch := omega) only [fX8_rowRefusal, x_has X hs, x_held X hs, e, h.2.1, rRow, reduceIte, Int32.reduceToInt, t_m1, t_m2, t_m3, t_m4, t_m5, t_m6, t_m7, ite_true, ite_false, tlt, tle, teq, tcl, tni, i_mul8, i_mul160, i_160mul, i_add, i_add1, i_100add, Int.toNat_natCast, if_yes, if_no, Option.bind_some, gLet_eq, and_true, true_and, or_false, false_or, not_true_eq_false, not_false_eq_true]
  · have := h.1
    rw [h.2.2.2.1] at e ⊢
    simp (disch := omega) only [fX8_rowRefusal, x_has X hs, x_held X hs, e, h.2.2.1, rRow, reduceIte, Int32.reduceToInt, t_m1, t_m2, t_m3, t_m4, t_m5, t_m6, t_m7, ite_true, ite_false, tlt, tle, teq, tcl, tni, i_mul8, i_mul160, i_160mul, i_add, i_add1, i_100add, Int.toNat_natCast, if_yes, if_no, Option.bind_some, gLet_eq, and_true, true_and, or_false, false_or, not_true_eq_false, not_false_eq_true]
theorem x_rowR0 (X : GS) {a : Int32} (h : a.toInt < 0 ∨ ((8 : Nat) : Int) ≤ a.toInt) : fX8_rowRefusal X a = some (-1) := by
  simp (disch := omega) only [fX8_rowRefusal, x_has0 X h, reduceIte, Int32.reduceToInt, t_m1, t_m2, t_m3, t_m4, t_m5, t_m6, t_m7, ite_true, ite_false, tlt, tle, teq, tcl, tni, i_mul8, i_mul160, i_160mul, i_add, i_add1, i_100add, Int.toNat_natCast, if_yes, if_no, Option.bind_some, gLet_eq, and_true, true_and, or_false, false_or, not_true_eq_false, not_false_eq_true]
theorem m_wantR {X M : GS} {n s : Nat} (h : RSn X M n s) (hs : s < 8) : fX9_wanted M (nI s) = some (rRow (M.2.2.1 15 s)) := by
  rcases rs_m h with e | e | e <;> simp (disch := omega) only [fX9_wanted, m_is M hs, e, rRow, reduceIte, Int32.reduceToInt, t_m1, t_m2, t_m3, t_m4, t_m5, t_m6, t_m7, ite_true, ite_false, tlt, tle, teq, tcl, tni, i_mul8, i_mul160, i_160mul, i_add, i_add1, i_100add, Int.toNat_natCast, if_yes, if_no, Option.bind_some, gLet_eq, and_true, true_and, or_false, false_or, not_true_eq_false, not_false_eq_true]
theorem m_wantR0 (M : GS) {a : Int32} (h : a.toInt < 0 ∨ ((8 : Nat) : Int) ≤ a.toInt) : fX9_wanted M a = some (-1) := by
  simp (disch := omega) only [fX9_wanted, m_is0 M h, reduceIte, Int32.reduceToInt, t_m1, t_m2, t_m3, t_m4, t_m5, t_m6, t_m7, ite_true, ite_false, tlt, tle, teq, tcl, tni, i_mul8, i_mul160, i_160mul, i_add, i_add1, i_100add, Int.toNat_natCast, if_yes, if_no, Option.bind_some, gLet_eq, and_true, true_and, or_false, false_or, not_true_eq_false, not_false_eq_true]
