/-! loop: items -/
def TL (X M : GS) (n : Nat) : Prop := n ≤ 16 ∧ X.1 34 = nI n ∧ M.1 0 = nI n ∧ RF (X.2.2.1 32) (M.2.2.1 7) (M.2.2.1 8) (M.2.2.1 9) (M.2.2.1 10) (M.2.2.1 11) (M.2.2.1 12) (M.2.2.1 13) (M.2.2.1 14) n ∧ MRn M n ∧ RT (X.2.2.1 33 0) (X.2.2.1 33 1) (X.2.2.1 33 2) (X.1 35) (M.1 1) (M.1 2) (M.1 3) (M.1 4) ∧ MTn M
theorem TL.c {X M X' M' : GS} {n : Nat} (h : TL X M n) (e34 : X'.1 34 = X.1 34) (e35 : X'.1 35 = X.1 35) (e32 : X'.2.2.1 32 = X.2.2.1 32) (e33 : X'.2.2.1 33 = X.2.2.1 33) (em : ∀ k, k < 5 → M'.1 k = M.1 k) (er : ∀ k, 7 ≤ k → k ≤ 14 → M'.2.2.1 k = M.2.2.1 k) : TL X' M' n := by
  simp only [TL, MRn, MTn] at h ⊢
  rw [e34, e35, e32, e33, em 0 (by decide), em 1 (by decide), em 2 (by decide), em 3 (by decide), em 4 (by decide), er 7 (by decide) (by decide), er 8 (by decide) (by decide), er 9 (by decide) (by decide), er 10 (by decide) (by decide), er 11 (by decide) (by decide), er 12 (by decide) (by decide), er 13 (by decide) (by decide), er 14 (by decide) (by decide)]
  exact h
theorem xpt (X : GS) {i c : Nat} (hi : i < 16) (hc : c < 8) (v : Int32) : fX3_put_told X (nI i) (nI c) v = some (gU3 X 32 (8 * i + c) v) := by
  simp (disch := omega) only [fX3_put_told, reduceIte, Int32.reduceToInt, t_m1, t_m2, t_m3, t_m4, t_m5, t_m6, t_m7, ite_true, ite_false, tlt, tle, teq, tcl, tni, i_mul8, i_mul160, i_160mul, i_add, i_add1, i_100add, Int.toNat_natCast, if_yes, if_no, Option.bind_some, gLet_eq, and_true, true_and, or_false, false_or, not_true_eq_false, not_false_eq_true]
theorem xpt0 (X : GS) {i : Nat} (hi : i < 16) (v : Int32) : fX3_put_told X (nI i) 0 v = some (gU3 X 32 (8 * i) v) := xpt X hi (c := 0) (by decide) v
theorem xpt1 (X : GS) {i : Nat} (hi : i < 16) (v : Int32) : fX3_put_told X (nI i) 1 v = some (gU3 X 32 (8 * i + 1) v) := xpt X hi (c := 1) (by decide) v
theorem xpt2 (X : GS) {i : Nat} (hi : i < 16) (v : Int32) : fX3_put_told X (nI i) 2 v = some (gU3 X 32 (8 * i + 2) v) := xpt X hi (c := 2) (by decide) v
theorem xpt3 (X : GS) {i : Nat} (hi : i < 16) (v : Int32) : fX3_put_told X (nI i) 3 v = some (gU3 X 32 (8 * i + 3) v) := xpt X hi (c := 3) (by decide) v
theorem xpt4 (X : GS) {i : Nat} (hi : i < 16) (v : Int32) : fX3_put_told X (nI i) 4 v = some (gU3 X 32 (8 * i + 4) v) := xpt X hi (c := 4) (by decide) v
theorem xpt5 (X : GS) {i : Nat} (hi : i < 16) (v : Int32) : fX3_put_told X (nI i) 5 v = some (gU3 X 32 (8 * i + 5) v) := xpt X hi (c := 5) (by decide) v
theorem xpt6 (X : GS) {i : Nat} (hi : i < 16) (v : Int32) : fX3_put_told X (nI i) 6 v = some (gU3 X 32 (8 * i + 6) v) := xpt X hi (c := 6) (by decide) v
theorem xpt7 (X : GS) {i : Nat} (hi : i < 16) (v : Int32) : fX3_put_told X (nI i) 7 v = some (gU3 X 32 (8 * i + 7) v) := xpt X hi (c := 7) (by decide) v
theorem m_add' {M : GS} {n : Nat} (h : M.1 0 = nI n) (hn : n < 16) (a1 a2 a3 a4 a5 a6 : Int32) : fX9_adds M a1 a2 a3 a4 a5 a6 = some (nI n, aM M n a1 a2 a3 a4 a5 a6) := by
  simp (disch := omega) only [fX9_adds, gLet_eq, h, gU1_s, gU1_n, gU1_2, gU2_1, gU2_s, gU2_n, gU2_3, gU3_1, gU3_2, gU3_s, gU3_n, gU3_4, gU4_1, gU4_2, gU4_3, gU4_s, gU4_n, gA3_1, gA3_2, gA3_s, gA3_n, gA3_4, gA4_1, gA4_3, gA4_s, gA4_n, aM, reduceIte, Int32.reduceToInt, t_m1, t_m2, t_m3, t_m4, t_m5, t_m6, t_m7, ite_true, ite_false, tlt, tle, teq, tcl, tni, i_mul8, i_mul160, i_160mul, i_add, i_add1, i_100add, Int.toNat_natCast, if_yes, if_no, Option.bind_some, gLet_eq, and_true, true_and, or_false, false_or, not_true_eq_false, not_false_eq_true]
def aT (X : GS) (n : Nat) (a1 a2 a3 a4 a5 a6 : Int32) : GS := gU1 (gU3 (gU3 (gU3 (gU3 (gU3 (gU3 (gU3 (gU3 X 32 (8 * n) a1) 32 (8 * n + 1) a2) 32 (8 * n + 2) a3) 32 (8 * n + 3) a4) 32 (8 * n + 4) a5) 32 (8 * n + 5) a6) 32 (8 * n + 6) 0) 32 (8 * n + 7) 0) 34 (nI (n + 1))
theorem x_addT {X : GS} {n : Nat} (h : X.1 34 = nI n) (hn : n < 16) (a1 a2 a3 a4 a5 a6 : Int32) : fX3_add_told X a1 a2 a3 a4 a5 a6 = some (aT X n a1 a2 a3 a4 a5 a6) := by
  have e : fX3_hasRoomFor_told X 1 = some 1 := by
    rw [fX3_hasRoomFor_told, h, show (16 : Int32) = nI 16 from rfl, pk_sub (by omega)]
    rw [if_neg (show ¬ nI (16 - n) < (1 : Int32) from nI_nlt (a := 16 - n) (b := 1) (by omega) (by omega))]
  rw [fX3_add_told, e]
  simp (disch := omega) only [h, gU1_s, gU1_n, gU1_2, gU2_1, gU2_s, gU2_n, gU2_3, gU3_1, gU3_2, gU3_s, gU3_n, gU3_4, gU4_1, gU4_2, gU4_3, gU4_s, gU4_n, gA3_1, gA3_2, gA3_s, gA3_n, gA3_4, gA4_1, gA4_3, gA4_s, gA4_n, xpt0, xpt1, xpt2, xpt3, xpt4, xpt5, xpt6, xpt7, aT, reduceIte, Int32.reduceToInt, t_m1, t_m2, t_m3, t_m4, t_m5, t_m6, t_m7, ite_true, ite_false, tlt, tle, teq, tcl, tni, i_mul8, i_mul160, i_160mul, i_add, i_add1, i_100add, Int.toNat_natCast, if_yes, if_no, Option.bind_some, gLet_eq, and_true, true_and, or_false, false_or, not_true_eq_false, not_false_eq_true]
theorem TL.add {X M : GS} {n : Nat} (h : TL X M n) (hn : n < 16) {a1 a2 a3 a4 a5 a6 : Int32} (g1 : isN a1 0 6) (g2 : isN a2 0 9) (g3 : isN a3 0 9999) (g4 : isN a4 0 9999) (g5 : isN a5 1 99) (g6 : isN a6 1 99) : TL (aT X n a1 a2 a3 a4 a5 a6) (aM M n a1 a2 a3 a4 a5 a6) (n + 1) := by
  refine ⟨by omega, rfl, rfl, fun i hi => ?_, fun i hi => ?_, h.2.2.2.2.2.1, h.2.2.2.2.2.2⟩
  · by_cases e : i = n
    · subst e
      simp (disch := omega) only [aT, aM, gU1_s, gU1_n, gU1_2, gU2_1, gU2_s, gU2_n, gU2_3, gU3_1, gU3_2, gU3_s, gU3_n, gU3_4, gU4_1, gU4_2, gU4_3, gU4_s, gU4_n, gA3_1, gA3_2, gA3_s, gA3_n, gA3_4, gA4_1, gA4_3, gA4_s, gA4_n, upd_i, if_yes, if_no, reduceIte, and_self]
    · have q := h.2.2.2.1 i (by omega)
      simp (disch := omega) only [aT, aM, gU1_s, gU1_n, gU1_2, gU2_1, gU2_s, gU2_n, gU2_3, gU3_1, gU3_2, gU3_s, gU3_n, gU3_4, gU4_1, gU4_2, gU4_3, gU4_s, gU4_n, gA3_1, gA3_2, gA3_s, gA3_n, gA3_4, gA4_1, gA4_3, gA4_s, gA4_n, upd_i, if_yes, if_no, reduceIte]
      exact q
  · by_cases e : i = n
    · subst e
      simp (disch := omega) only [aM, gU1_s, gU1_n, gU1_2, gU2_1, gU2_s, gU2_n, gU2_3, gU3_1, gU3_2, gU3_s, gU3_n, gU3_4, gU4_1, gU4_2, gU4_3, gU4_s, gU4_n, gA3_1, gA3_2, gA3_s, gA3_n, gA3_4, gA4_1, gA4_3, gA4_s, gA4_n, upd_i, if_yes, if_no, reduceIte]
      exact ⟨g1, g2, g3, g4, g5, g6, ⟨0, by decide, by decide, rfl⟩, ⟨0, by decide, by decide, rfl⟩⟩
    · have q := h.2.2.2.2.1 i (by omega)
      simp (disch := omega) only [aM, gU1_s, gU1_n, gU1_2, gU2_1, gU2_s, gU2_n, gU2_3, gU3_1, gU3_2, gU3_s, gU3_n, gU3_4, gU4_1, gU4_2, gU4_3, gU4_s, gU4_n, gA3_1, gA3_2, gA3_s, gA3_n, gA3_4, gA4_1, gA4_3, gA4_s, gA4_n, upd_i, if_yes, if_no, reduceIte]
      exact q
theorem TL.f2 {X M : GS} {n : Nat} (h : TL X M n) {i : Nat} (hi : i < n) {v : Int32} (hv : isN v 0 9999) : TL (gU3 X 32 (8 * i + 2) v) (gU3 M 9 i v) n := by
  refine ⟨h.1, h.2.1, h.2.2.1, fun j hj => ?_, fun j hj => ?_, h.2.2.2.2.2.1, h.2.2.2.2.2.2⟩
  all_goals
    have q1 := h.2.2.2.1 j hj
    have q2 := h.2.2.2.2.1 j hj
    by_cases e : j = i
    · subst e
      simp (disch := omega) only [gU1_s, gU1_n, gU1_2, gU2_1, gU2_s, gU2_n, gU2_3, gU3_1, gU3_2, gU3_s, gU3_n, gU3_4, gU4_1, gU4_2, gU4_3, gU4_s, gU4_n, gA3_1, gA3_2, gA3_s, gA3_n, gA3_4, gA4_1, gA4_3, gA4_s, gA4_n, upd_i, if_yes, if_no, reduceIte, true_and, and_true]
      simp only [q1, q2, hv, true_and, and_true, and_self]
    · simp (disch := omega) only [gU1_s, gU1_n, gU1_2, gU2_1, gU2_s, gU2_n, gU2_3, gU3_1, gU3_2, gU3_s, gU3_n, gU3_4, gU4_1, gU4_2, gU4_3, gU4_s, gU4_n, gA3_1, gA3_2, gA3_s, gA3_n, gA3_4, gA4_1, gA4_3, gA4_s, gA4_n, upd_i, if_yes, if_no, reduceIte]
      first | exact q1 | exact q2
theorem TL.f3 {X M : GS} {n : Nat} (h : TL X M n) {i : Nat} (hi : i < n) {v : Int32} (hv : isN v 0 9999) : TL (gU3 X 32 (8 * i + 3) v) (gU3 M 10 i v) n := by
  refine ⟨h.1, h.2.1, h.2.2.1, fun j hj => ?_, fun j hj => ?_, h.2.2.2.2.2.1, h.2.2.2.2.2.2⟩
  all_goals
    have q1 := h.2.2.2.1 j hj
    have q2 := h.2.2.2.2.1 j hj
    by_cases e : j = i
    · subst e
      simp (disch := omega) only [gU1_s, gU1_n, gU1_2, gU2_1, gU2_s, gU2_n, gU2_3, gU3_1, gU3_2, gU3_s, gU3_n, gU3_4, gU4_1, gU4_2, gU4_3, gU4_s, gU4_n, gA3_1, gA3_2, gA3_s, gA3_n, gA3_4, gA4_1, gA4_3, gA4_s, gA4_n, upd_i, if_yes, if_no, reduceIte, true_and, and_true]
      simp only [q1, q2, hv, true_and, and_true, and_self]
    · simp (disch := omega) only [gU1_s, gU1_n, gU1_2, gU2_1, gU2_s, gU2_n, gU2_3, gU3_1, gU3_2, gU3_s, gU3_n, gU3_4, gU4_1, gU4_2, gU4_3, gU4_s, gU4_n, gA3_1, gA3_2, gA3_s, gA3_n, gA3_4, gA4_1, gA4_3, gA4_s, gA4_n, upd_i, if_yes, if_no, reduceIte]
      first | exact q1 | exact q2
theorem TL.f6 {X M : GS} {n : Nat} (h : TL X M n) {i : Nat} (hi : i < n) {v : Int32} (hv : isN v 0 3) : TL (gU3 X 32 (8 * i + 6) v) (gU3 M 13 i v) n := by
  refine ⟨h.1, h.2.1, h.2.2.1, fun j hj => ?_, fun j hj => ?_, h.2.2.2.2.2.1, h.2.2.2.2.2.2⟩
  all_goals
    have q1 := h.2.2.2.1 j hj
    have q2 := h.2.2.2.2.1 j hj
    by_cases e : j = i
    · subst e
      simp (disch := omega) only [gU1_s, gU1_n, gU1_2, gU2_1, gU2_s, gU2_n, gU2_3, gU3_1, gU3_2, gU3_s, gU3_n, gU3_4, gU4_1, gU4_2, gU4_3, gU4_s, gU4_n, gA3_1, gA3_2, gA3_s, gA3_n, gA3_4, gA4_1, gA4_3, gA4_s, gA4_n, upd_i, if_yes, if_no, reduceIte, true_and, and_true]
      simp only [q1, q2, hv, true_and, and_true, and_self]
    · simp (disch := omega) only [gU1_s, gU1_n, gU1_2, gU2_1, gU2_s, gU2_n, gU2_3, gU3_1, gU3_2, gU3_s, gU3_n, gU3_4, gU4_1, gU4_2, gU4_3, gU4_s, gU4_n, gA3_1, gA3_2, gA3_s, gA3_n, gA3_4, gA4_1, gA4_3, gA4_s, gA4_n, upd_i, if_yes, if_no, reduceIte]
      first | exact q1 | exact q2
theorem TL.f7 {X M : GS} {n : Nat} (h : TL X M n) {i : Nat} (hi : i < n) {v : Int32} (hv : isN v 0 1) : TL (gU3 X 32 (8 * i + 7) v) (gU3 M 14 i v) n := by
  refine ⟨h.1, h.2.1, h.2.2.1, fun j hj => ?_, fun j hj => ?_, h.2.2.2.2.2.1, h.2.2.2.2.2.2⟩
  all_goals
    have q1 := h.2.2.2.1 j hj
    have q2 := h.2.2.2.2.1 j hj
    by_cases e : j = i
    · subst e
      simp (disch := omega) only [gU1_s, gU1_n, gU1_2, gU2_1, gU2_s, gU2_n, gU2_3, gU3_1, gU3_2, gU3_s, gU3_n, gU3_4, gU4_1, gU4_2, gU4_3, gU4_s, gU4_n, gA3_1, gA3_2, gA3_s, gA3_n, gA3_4, gA4_1, gA4_3, gA4_s, gA4_n, upd_i, if_yes, if_no, reduceIte, true_and, and_true]
      simp only [q1, q2, hv, true_and, and_true, and_self]
    · simp (disch := omega) only [gU1_s, gU1_n, gU1_2, gU2_1, gU2_s, gU2_n, gU2_3, gU3_1, gU3_2, gU3_s, gU3_n, gU3_4, gU4_1, gU4_2, gU4_3, gU4_s, gU4_n, gA3_1, gA3_2, gA3_s, gA3_n, gA3_4, gA4_1, gA4_3, gA4_s, gA4_n, upd_i, if_yes, if_no, reduceIte]
      first | exact q1 | exact q2
theorem s_8 : (8 : Int32) - 8 = nI 0 := rfl
theorem s_9 : (9 : Int32) - 8 = nI 1 := rfl
theorem s_10 : (10 : Int32) - 8 = nI 2 := rfl
theorem x_pst (X : GS) (v : Int32) : fX3_putSetting_told X 8 v = some (gU3 X 33 0 v) ∧ fX3_putSetting_told X 9 v = some (gU3 X 33 1 v) ∧ fX3_putSetting_told X 10 v = some (gU3 X 33 2 v) := ⟨rfl, rfl, rfl⟩
theorem m_ask3 (M : GS) (v : Int32) : fX9_asks M 0 v = some (M.1 1, gU1 M 1 v) ∧ fX9_asks M 1 v = some (M.1 2, gU1 M 2 v) ∧ fX9_asks M 2 v = some (M.1 3, gU1 M 3 v) := ⟨rfl, rfl, rfl⟩
/-- the numbers behind a word so far -/
def NB (X M : GS) (w n i : Nat) : Prop := ∀ j, j < i → ∃ v, X.2.2.1 81 j = nI v ∧ M.2.2.1 23 j = nI v ∧ lo w j ≤ v ∧ v < hi w j n
theorem cl_k : (0 : Int32).toNatClampNeg = 0 ∧ (1 : Int32).toNatClampNeg = 1 ∧ (2 : Int32).toNatClampNeg = 2 ∧ (3 : Int32).toNatClampNeg = 3 ∧ (4 : Int32).toNatClampNeg = 4 ∧ (5 : Int32).toNatClampNeg = 5 := by decide +kernel
theorem isN_k {v lo hi : Nat} (h1 : lo ≤ v) (h2 : v ≤ hi) : isN (nI v) lo hi := ⟨v, h1, h2, rfl⟩
theorem in7 {w : Nat} (h : w < 7) : (nI w < 0 ∨ 7 ≤ w) = False := by
  have q := nI_in (c := w) (N := 7) h (by decide)
  rw [nI_clamp (by omega)] at q
  exact eq_false q
theorem m_22 {c : Nat → Int32} {s L : Nat} {X M : GS} (h : PC c s L X M) {w : Nat} (hw : w < 7) : M.2.2.1 22 w = nI (nn w) := by
  rw [h.2.2.2.2.2.2.2.2 w hw]
  exact (show ∀ w, w < 7 → ([6, 2, 2, 1, 1, 1, 3] : List Int32).getD w 0 = nI (nn w) by decide +kernel) w hw
/-- what both do with an item that stands -/
def TD (X M X' M' : GS) (n n' : Nat) : Prop := TL X' M' n' ∧ n ≤ n' ∧ XF X X' ∧ MF M M' ∧ X'.1 84 = X.1 84 ∧ M'.1 25 = M.1 25 ∧ X'.1 85 = X.1 85
section ITEMS
variable {c : Nat → Int32} {s L : Nat} {X M : GS}
theorem item_0 (hP : PC c s L X M) {n : Nat} (h : TL X M n) (hn : n < 16) (hB : NB X M 0 n 6) (fu : Nat) : ∃ X' M' n', fX4_tellItem X 0 = some X' ∧ fX9_item_40 (fu + 1) M 0 6 = some (1, M') ∧ TD X M X' M' n n' := by
  obtain ⟨v0, a0, b0, l0, h0⟩ := hB 0 (by decide)
  obtain ⟨v1, a1, b1, l1, h1⟩ := hB 1 (by decide)
  obtain ⟨v2, a2, b2, l2, h2⟩ := hB 2 (by decide)
  obtain ⟨v3, a3, b3, l3, h3⟩ := hB 3 (by decide)
  obtain ⟨v4, a4, b4, l4, h4⟩ := hB 4 (by decide)
  obtain ⟨v5, a5, b5, l5, h5⟩ := hB 5 (by decide)
  have h0 : v0 < 7 := h0
  have h1 : v1 < 10 := h1
  have h2 : v2 < 10000 := h2
  have h3 : v3 < 10000 := h3
  have h4 : v4 < 100 := h4
  have h5 : v5 < 100 := h5
  have l4 : 1 ≤ v4 := l4
  have l5 : 1 ≤ v5 := l5
  have e22 : M.2.2.1 22 0 = 6 := m_22 hP (w := 0) (by decide)
  have c0 : ((0 : Int32) < 0 ∨ 7 ≤ 0) = False := by decide +kernel
  have c6 : ((6 : Int32) ≤ 6) = True := by decide +kernel
  refine ⟨aT X n (nI v0) (nI v1) (nI v2) (nI v3) (nI v4) (nI v5), aM M n (nI v0) (nI v1) (nI v2) (nI v3) (nI v4) (nI v5), n + 1, ?_, ?_, h.add hn (isN_k (Nat.zero_le _) (by omega)) (isN_k (Nat.zero_le _) (by omega)) (isN_k (Nat.zero_le _) (by omega)) (isN_k (Nat.zero_le _) (by omega)) (isN_k l4 (by omega)) (isN_k l5 (by omega)), by omega, ?_, ?_, rfl, rfl, rfl⟩
  · simp only [fX4_tellItem, eq_self, cl_k, a0, a1, a2, a3, a4, a5, x_addT h.2.1 hn, Option.bind_some, ↓reduceIte, km_1, km_2, km_3, km_4, km_5, km_6, km_7, kn_10, kn_20, kn_21]
  · simp only [fX9_item_40, eq_self, cl_k, c0, e22, c6, b0, b1, b2, b3, b4, b5, m_add' h.2.2.1 hn, Option.bind_some, ↓reduceIte, km_1, km_2, km_3, km_4, km_5, km_6, km_7, kn_10, kn_20, kn_21]
  · exact ((((((((XF.u3 X _ _ (by decide)).tr (XF.u3 _ _ _ (by decide))).tr (XF.u3 _ _ _ (by decide))).tr (XF.u3 _ _ _ (by decide))).tr (XF.u3 _ _ _ (by decide))).tr (XF.u3 _ _ _ (by decide))).tr (XF.u3 _ _ _ (by decide))).tr (XF.u3 _ _ _ (by decide))).tr (XF.u1 _ _ (by decide))
  · exact ((((((((MF.u3 M _ _ (by decide)).tr (MF.u3 _ _ _ (by decide))).tr (MF.u3 _ _ _ (by decide))).tr (MF.u3 _ _ _ (by decide))).tr (MF.u3 _ _ _ (by decide))).tr (MF.u3 _ _ _ (by decide))).tr (MF.u3 _ _ _ (by decide))).tr (MF.u3 _ _ _ (by decide))).tr (MF.u1 _ _ (by decide))
theorem item_1 (hP : PC c s L X M) {n : Nat} (h : TL X M n) (hB : NB X M 1 n 2) (fu : Nat) : ∃ X' M' n', fX4_tellItem X 1 = some X' ∧ fX9_item_40 (fu + 1) M 1 2 = some (1, M') ∧ TD X M X' M' n n' := by
  obtain ⟨v0, a0, b0, l0, h0⟩ := hB 0 (by decide)
  obtain ⟨v1, a1, b1, l1, h1⟩ := hB 1 (by decide)
  have hn := h.1
  have h0 : v0 < n := h0
  have h1 : v1 < 4 := h1
  have e22 : M.2.2.1 22 1 = 2 := m_22 hP (w := 1) (by decide)
  have c0 : ((1 : Int32) < 0 ∨ 7 ≤ (1 : Int32).toNatClampNeg) = False := by decide +kernel
  have ck : (1 : Int32).toNatClampNeg = 1 := by decide +kernel
  have c6 : ((2 : Int32) ≤ 2) = True := by decide +kernel
  refine ⟨gU3 X 32 (8 * v0 + 6) (nI v1), gU3 M 13 v0 (nI v1), n, ?_, ?_, h.f6 h0 (isN_k (Nat.zero_le _) (by omega)), Nat.le_refl n, XF.u3 X _ _ (by decide), MF.u3 M _ _ (by decide), rfl, rfl, rfl⟩
  · simp only [fX4_tellItem, eq_self, cl_k.1, cl_k.2.1, a0, a1, xpt6 X (show v0 < 16 by omega), kn_01, kn_02, kn_03, kn_04, kn_05, kn_06, kn_10, kn_12, kn_13, kn_14, kn_15, kn_16, kn_20, kn_21, kn_23, kn_24, kn_25, kn_26, kn_30, kn_31, kn_32, kn_34, kn_35, kn_36, kn_40, kn_41, kn_42, kn_43, kn_45, kn_46, kn_50, kn_51, kn_52, kn_53, kn_54, kn_56, kn_60, kn_61, kn_62, kn_63, kn_64, kn_65, Option.bind_some, ↓reduceIte, km_1, km_2, km_3, km_4, km_5, km_6, km_7, kn_10, kn_20, kn_21]
  · rw [fX9_item_40, if_neg (of_eq_false c0), ck, e22, if_pos (of_eq_true c6)]
    simp only [eq_self, cl_k.1, cl_k.2.1, b0, b1, in16 (show v0 < 16 by omega), cl16 (show v0 < 16 by omega), kn_01, kn_02, kn_03, kn_04, kn_05, kn_06, kn_10, kn_12, kn_13, kn_14, kn_15, kn_16, kn_20, kn_21, kn_23, kn_24, kn_25, kn_26, kn_30, kn_31, kn_32, kn_34, kn_35, kn_36, kn_40, kn_41, kn_42, kn_43, kn_45, kn_46, kn_50, kn_51, kn_52, kn_53, kn_54, kn_56, kn_60, kn_61, kn_62, kn_63, kn_64, kn_65, Option.bind_some, ↓reduceIte, km_1, km_2, km_3, km_4, km_5, km_6, km_7, kn_10, kn_20, kn_21]
theorem item_2 (hP : PC c s L X M) {n : Nat} (h : TL X M n) (hB : NB X M 2 n 2) (fu : Nat) : ∃ X' M' n', fX4_tellItem X 2 = some X' ∧ fX9_item_40 (fu + 1) M 2 2 = some (1, M') ∧ TD X M X' M' n n' := by
  obtain ⟨v0, a0, b0, l0, h0⟩ := hB 0 (by decide)
  obtain ⟨v1, a1, b1, l1, h1⟩ := hB 1 (by decide)
  have hn := h.1
  have h0 : v0 < n := h0
  have h1 : v1 < 2 := h1
  have e22 : M.2.2.1 22 2 = 2 := m_22 hP (w := 2) (by decide)
  have c0 : ((2 : Int32) < 0 ∨ 7 ≤ (2 : Int32).toNatClampNeg) = False := by decide +kernel
  have ck : (2 : Int32).toNatClampNeg = 2 := by decide +kernel
  have c6 : ((2 : Int32) ≤ 2) = True := by decide +kernel
  refine ⟨gU3 X 32 (8 * v0 + 7) (nI v1), gU3 M 14 v0 (nI v1), n, ?_, ?_, h.f7 h0 (isN_k (Nat.zero_le _) (by omega)), Nat.le_refl n, XF.u3 X _ _ (by decide), MF.u3 M _ _ (by decide), rfl, rfl, rfl⟩
  · simp only [fX4_tellItem, eq_self, cl_k.1, cl_k.2.1, a0, a1, xpt7 X (show v0 < 16 by omega), kn_01, kn_02, kn_03, kn_04, kn_05, kn_06, kn_10, kn_12, kn_13, kn_14, kn_15, kn_16, kn_20, kn_21, kn_23, kn_24, kn_25, kn_26, kn_30, kn_31, kn_32, kn_34, kn_35, kn_36, kn_40, kn_41, kn_42, kn_43, kn_45, kn_46, kn_50, kn_51, kn_52, kn_53, kn_54, kn_56, kn_60, kn_61, kn_62, kn_63, kn_64, kn_65, Option.bind_some, ↓reduceIte, km_1, km_2, km_3, km_4, km_5, km_6, km_7, kn_10, kn_20, kn_21]
  · rw [fX9_item_40, if_neg (of_eq_false c0), ck, e22, if_pos (of_eq_true c6)]
    simp only [eq_self, cl_k.1, cl_k.2.1, b0, b1, in16 (show v0 < 16 by omega), cl16 (show v0 < 16 by omega), kn_01, kn_02, kn_03, kn_04, kn_05, kn_06, kn_10, kn_12, kn_13, kn_14, kn_15, kn_16, kn_20, kn_21, kn_23, kn_24, kn_25, kn_26, kn_30, kn_31, kn_32, kn_34, kn_35, kn_36, kn_40, kn_41, kn_42, kn_43, kn_45, kn_46, kn_50, kn_51, kn_52, kn_53, kn_54, kn_56, kn_60, kn_61, kn_62, kn_63, kn_64, kn_65, Option.bind_some, ↓reduceIte, km_1, km_2, km_3, km_4, km_5, km_6, km_7, kn_10, kn_20, kn_21]
theorem item_3 (hP : PC c s L X M) {n : Nat} (h : TL X M n) (hB : NB X M 3 n 1) (fu : Nat) : ∃ X' M' n', fX4_tellItem X 3 = some X' ∧ fX9_item_40 (fu + 1) M 3 1 = some (1, M') ∧ TD X M X' M' n n' := by
  obtain ⟨v0, a0, b0, l0, h0⟩ := hB 0 (by decide)
  have hn := h.1
  have h0 : v0 < 10000 := h0
  have q := h.2.2.2.2.2.2
  have p := h.2.2.2.2.2.1
  have e22 : M.2.2.1 22 3 = 1 := m_22 hP (w := 3) (by decide)
  have c0 : ((3 : Int32) < 0 ∨ 7 ≤ (3 : Int32).toNatClampNeg) = False := by decide +kernel
  have ck : (3 : Int32).toNatClampNeg = 3 := by decide +kernel
  have c6 : ((1 : Int32) ≤ 1) = True := by decide +kernel
  refine ⟨gU3 X 33 0 (nI v0), gU1 M 1 (nI v0), n, ?_, ?_, ⟨h.1, h.2.1, h.2.2.1, h.2.2.2.1, h.2.2.2.2.1, ?_, ?_⟩, Nat.le_refl n, XF.u3 X _ _ (by decide), MF.u1 M _ (by decide), rfl, rfl, rfl⟩
  · simp only [fX4_tellItem, eq_self, cl_k.1, a0, x_pst, kn_01, kn_02, kn_03, kn_04, kn_05, kn_06, kn_10, kn_12, kn_13, kn_14, kn_15, kn_16, kn_20, kn_21, kn_23, kn_24, kn_25, kn_26, kn_30, kn_31, kn_32, kn_34, kn_35, kn_36, kn_40, kn_41, kn_42, kn_43, kn_45, kn_46, kn_50, kn_51, kn_52, kn_53, kn_54, kn_56, kn_60, kn_61, kn_62, kn_63, kn_64, kn_65, Option.bind_some, ↓reduceIte, km_1, km_2, km_3, km_4, km_5, km_6, km_7, kn_10, kn_20, kn_21]
  · rw [fX9_item_40, if_neg (of_eq_false c0), ck, e22, if_pos (of_eq_true c6)]
    simp only [eq_self, cl_k.1, b0, s33, s43, s53, m_ask3, kn_01, kn_02, kn_03, kn_04, kn_05, kn_06, kn_10, kn_12, kn_13, kn_14, kn_15, kn_16, kn_20, kn_21, kn_23, kn_24, kn_25, kn_26, kn_30, kn_31, kn_32, kn_34, kn_35, kn_36, kn_40, kn_41, kn_42, kn_43, kn_45, kn_46, kn_50, kn_51, kn_52, kn_53, kn_54, kn_56, kn_60, kn_61, kn_62, kn_63, kn_64, kn_65, Option.bind_some, ↓reduceIte, km_1, km_2, km_3, km_4, km_5, km_6, km_7, kn_10, kn_20, kn_21]
  · exact ⟨rfl, p.2.1, p.2.2.1, p.2.2.2⟩
  · exact ⟨⟨by show -9999 ≤ (nI v0).toInt; rw [tni v0 (by omega)]; omega, by show (nI v0).toInt ≤ 9999; rw [tni v0 (by omega)]; omega⟩, q.2.1, q.2.2⟩
theorem item_4 (hP : PC c s L X M) {n : Nat} (h : TL X M n) (hB : NB X M 4 n 1) (fu : Nat) : ∃ X' M' n', fX4_tellItem X 4 = some X' ∧ fX9_item_40 (fu + 1) M 4 1 = some (1, M') ∧ TD X M X' M' n n' := by
  obtain ⟨v0, a0, b0, l0, h0⟩ := hB 0 (by decide)
  have hn := h.1
  have h0 : v0 < 10 := h0
  have q := h.2.2.2.2.2.2
  have p := h.2.2.2.2.2.1
  have e22 : M.2.2.1 22 4 = 1 := m_22 hP (w := 4) (by decide)
  have c0 : ((4 : Int32) < 0 ∨ 7 ≤ (4 : Int32).toNatClampNeg) = False := by decide +kernel
  have ck : (4 : Int32).toNatClampNeg = 4 := by decide +kernel
  have c6 : ((1 : Int32) ≤ 1) = True := by decide +kernel
  refine ⟨gU3 X 33 1 (nI v0), gU1 M 2 (nI v0), n, ?_, ?_, ⟨h.1, h.2.1, h.2.2.1, h.2.2.2.1, h.2.2.2.2.1, ?_, ?_⟩, Nat.le_refl n, XF.u3 X _ _ (by decide), MF.u1 M _ (by decide), rfl, rfl, rfl⟩
  · simp only [fX4_tellItem, eq_self, cl_k.1, a0, x_pst, kn_01, kn_02, kn_03, kn_04, kn_05, kn_06, kn_10, kn_12, kn_13, kn_14, kn_15, kn_16, kn_20, kn_21, kn_23, kn_24, kn_25, kn_26, kn_30, kn_31, kn_32, kn_34, kn_35, kn_36, kn_40, kn_41, kn_42, kn_43, kn_45, kn_46, kn_50, kn_51, kn_52, kn_53, kn_54, kn_56, kn_60, kn_61, kn_62, kn_63, kn_64, kn_65, Option.bind_some, ↓reduceIte, km_1, km_2, km_3, km_4, km_5, km_6, km_7, kn_10, kn_20, kn_21]
  · rw [fX9_item_40, if_neg (of_eq_false c0), ck, e22, if_pos (of_eq_true c6)]
    simp only [eq_self, cl_k.1, b0, s33, s43, s53, m_ask3, kn_01, kn_02, kn_03, kn_04, kn_05, kn_06, kn_10, kn_12, kn_13, kn_14, kn_15, kn_16, kn_20, kn_21, kn_23, kn_24, kn_25, kn_26, kn_30, kn_31, kn_32, kn_34, kn_35, kn_36, kn_40, kn_41, kn_42, kn_43, kn_45, kn_46, kn_50, kn_51, kn_52, kn_53, kn_54, kn_56, kn_60, kn_61, kn_62, kn_63, kn_64, kn_65, Option.bind_some, ↓reduceIte, km_1, km_2, km_3, km_4, km_5, km_6, km_7, kn_10, kn_20, kn_21]
  · exact ⟨p.1, rfl, p.2.2.1, p.2.2.2⟩
  · exact ⟨q.1, isN_k (Nat.zero_le _) (by omega), q.2.2⟩
theorem item_5 (hP : PC c s L X M) {n : Nat} (h : TL X M n) (hB : NB X M 5 n 1) (fu : Nat) : ∃ X' M' n', fX4_tellItem X 5 = some X' ∧ fX9_item_40 (fu + 1) M 5 1 = some (1, M') ∧ TD X M X' M' n n' := by
  obtain ⟨v0, a0, b0, l0, h0⟩ := hB 0 (by decide)
  have hn := h.1
  have h0 : v0 < 100 := h0
  have l0 : 1 ≤ v0 := l0
  have q := h.2.2.2.2.2.2
  have p := h.2.2.2.2.2.1
  have e22 : M.2.2.1 22 5 = 1 := m_22 hP (w := 5) (by decide)
  have c0 : ((5 : Int32) < 0 ∨ 7 ≤ (5 : Int32).toNatClampNeg) = False := by decide +kernel
  have ck : (5 : Int32).toNatClampNeg = 5 := by decide +kernel
  have c6 : ((1 : Int32) ≤ 1) = True := by decide +kernel
  refine ⟨gU3 X 33 2 (nI v0), gU1 M 3 (nI v0), n, ?_, ?_, ⟨h.1, h.2.1, h.2.2.1, h.2.2.2.1, h.2.2.2.2.1, ?_, ?_⟩, Nat.le_refl n, XF.u3 X _ _ (by decide), MF.u1 M _ (by decide), rfl, rfl, rfl⟩
  · simp only [fX4_tellItem, eq_self, cl_k.1, a0, x_pst, kn_01, kn_02, kn_03, kn_04, kn_05, kn_06, kn_10, kn_12, kn_13, kn_14, kn_15, kn_16, kn_20, kn_21, kn_23, kn_24, kn_25, kn_26, kn_30, kn_31, kn_32, kn_34, kn_35, kn_36, kn_40, kn_41, kn_42, kn_43, kn_45, kn_46, kn_50, kn_51, kn_52, kn_53, kn_54, kn_56, kn_60, kn_61, kn_62, kn_63, kn_64, kn_65, Option.bind_some, ↓reduceIte, km_1, km_2, km_3, km_4, km_5, km_6, km_7, kn_10, kn_20, kn_21]
  · rw [fX9_item_40, if_neg (of_eq_false c0), ck, e22, if_pos (of_eq_true c6)]
    simp only [eq_self, cl_k.1, b0, s33, s43, s53, m_ask3, kn_01, kn_02, kn_03, kn_04, kn_05, kn_06, kn_10, kn_12, kn_13, kn_14, kn_15, kn_16, kn_20, kn_21, kn_23, kn_24, kn_25, kn_26, kn_30, kn_31, kn_32, kn_34, kn_35, kn_36, kn_40, kn_41, kn_42, kn_43, kn_45, kn_46, kn_50, kn_51, kn_52, kn_53, kn_54, kn_56, kn_60, kn_61, kn_62, kn_63, kn_64, kn_65, Option.bind_some, ↓reduceIte, km_1, km_2, km_3, km_4, km_5, km_6, km_7, kn_10, kn_20, kn_21]
  · exact ⟨p.1, p.2.1, rfl, p.2.2.2⟩
  · exact ⟨q.1, q.2.1, isN_k l0 (by omega)⟩
theorem item_6 (hP : PC c s L X M) {n : Nat} (h : TL X M n) (hB : NB X M 6 n 3) (fu : Nat) : ∃ X' M' n', fX4_tellItem X 6 = some X' ∧ fX9_item_40 (fu + 1) M 6 3 = some (1, M') ∧ TD X M X' M' n n' := by
  obtain ⟨v0, a0, b0, l0, h0⟩ := hB 0 (by decide)
  obtain ⟨v1, a1, b1, l1, h1⟩ := hB 1 (by decide)
  obtain ⟨v2, a2, b2, l2, h2⟩ := hB 2 (by decide)
  have hn := h.1
  have h0 : v0 < n := h0
  have h1 : v1 < 10000 := h1
  have h2 : v2 < 10000 := h2
  have e22 : M.2.2.1 22 6 = 3 := m_22 hP (w := 6) (by decide)
  have c0 : ((6 : Int32) < 0 ∨ 7 ≤ (6 : Int32).toNatClampNeg) = False := by decide +kernel
  have ck : (6 : Int32).toNatClampNeg = 6 := by decide +kernel
  have c6 : ((3 : Int32) ≤ 3) = True := by decide +kernel
  have t1 := h.f2 h0 (isN_k (v := v1) (Nat.zero_le _) (by omega))
  have t2 := t1.f3 h0 (isN_k (v := v2) (Nat.zero_le _) (by omega))
  have x81 : ∀ j, (gU3 X 32 (8 * v0 + 2) (nI v1)).2.2.1 81 j = X.2.2.1 81 j := fun j => by rw [gU3_n _ _ _ _ _ (by decide)]
  have m23 : ∀ j, (gU3 M 9 v0 (nI v1)).2.2.1 23 j = M.2.2.1 23 j := fun j => by rw [gU3_n _ _ _ _ _ (by decide)]
  refine ⟨_, _, n, ?_, ?_, t2, Nat.le_refl n, (XF.u3 X _ _ (by decide)).tr (XF.u3 _ _ _ (by decide)), (MF.u3 M _ _ (by decide)).tr (MF.u3 _ _ _ (by decide)), rfl, rfl, rfl⟩
  · simp only [fX4_tellItem, cl_k.1, cl_k.2.1, cl_k.2.2.1, a0, a1, xpt2 X (show v0 < 16 by omega), x81, a2, xpt3 _ (show v0 < 16 by omega), kn_01, kn_02, kn_03, kn_04, kn_05, kn_06, kn_10, kn_12, kn_13, kn_14, kn_15, kn_16, kn_20, kn_21, kn_23, kn_24, kn_25, kn_26, kn_30, kn_31, kn_32, kn_34, kn_35, kn_36, kn_40, kn_41, kn_42, kn_43, kn_45, kn_46, kn_50, kn_51, kn_52, kn_53, kn_54, kn_56, kn_60, kn_61, kn_62, kn_63, kn_64, kn_65, Option.bind_some, ↓reduceIte, km_1, km_2, km_3, km_4, km_5, km_6, km_7, kn_10, kn_20, kn_21]
  · rw [fX9_item_40, if_neg (of_eq_false c0), ck, e22, if_pos (of_eq_true c6)]
    simp only [eq_self, cl_k.1, cl_k.2.1, cl_k.2.2.1, b0, b1, in16 (show v0 < 16 by omega), cl16 (show v0 < 16 by omega), m23, b2, gLet_eq, kn_01, kn_02, kn_03, kn_04, kn_05, kn_06, kn_10, kn_12, kn_13, kn_14, kn_15, kn_16, kn_20, kn_21, kn_23, kn_24, kn_25, kn_26, kn_30, kn_31, kn_32, kn_34, kn_35, kn_36, kn_40, kn_41, kn_42, kn_43, kn_45, kn_46, kn_50, kn_51, kn_52, kn_53, kn_54, kn_56, kn_60, kn_61, kn_62, kn_63, kn_64, kn_65, Option.bind_some, ↓reduceIte, km_1, km_2, km_3, km_4, km_5, km_6, km_7, kn_10, kn_20, kn_21]
theorem items (hP : PC c s L X M) {n w : Nat} (h : TL X M n) (hw : w < 7) (hr : w = 0 → n < 16) (hB : NB X M w n (nn w)) (fu : Nat) : ∃ X' M' n', fX4_tellItem X (nI w) = some X' ∧ fX9_item_40 (fu + 1) M (nI w) (nI (nn w)) = some (1, M') ∧ TD X M X' M' n n' := by
  rcases (show w = 0 ∨ w = 1 ∨ w = 2 ∨ w = 3 ∨ w = 4 ∨ w = 5 ∨ w = 6 by omega) with rfl | rfl | rfl | rfl | rfl | rfl | rfl
  · exact item_0 hP h (hr rfl) hB fu
  · exact item_1 hP h hB fu
  · exact item_2 hP h hB fu
  · exact item_3 hP h hB fu
  · exact item_4 hP h hB fu
  · exact item_5 hP h hB fu
  · exact item_6 hP h hB fu
end ITEMS
