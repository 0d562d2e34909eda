/-! set, element, show, holds -/
theorem i_sub100 (o : Nat) : nI (100 + o) - 100 = nI o := by
  rw [show (100 : Int32) = nI 100 from rfl, pk_sub (by omega)]
  congr 1
  omega
theorem x_he {X M : GS} {n s : Nat} (hs : s < 8) {L : Nat} (hL : L ≤ 160) (e : X.2.2.1 65 s = nI L) (b : Int32) : fX5_hasElement X (nI s) b = some (if 0 ≤ b.toInt ∧ b.toInt < L then 1 else 0) := by
  by_cases h0 : b.toInt < 0
  · simp (disch := omega) only [fX5_hasElement, reduceIte, Int32.reduceToInt, t_m1, t_m2, t_m3, t_m4, t_m5, t_m6, t_m7, ite_true, ite_false, tlt, tle, teq, tcl, tni, i_mul8, i_mul160, i_160mul, i_add, i_add1, i_100add, Int.toNat_natCast, if_yes, if_no, Option.bind_some, gLet_eq, and_true, true_and, or_false, false_or, not_true_eq_false, not_false_eq_true]
  · by_cases h1 : b.toInt < L
    · simp (disch := omega) only [fX5_hasElement, x_len X hs, e, reduceIte, Int32.reduceToInt, t_m1, t_m2, t_m3, t_m4, t_m5, t_m6, t_m7, ite_true, ite_false, tlt, tle, teq, tcl, tni, i_mul8, i_mul160, i_160mul, i_add, i_add1, i_100add, Int.toNat_natCast, if_yes, if_no, Option.bind_some, gLet_eq, and_true, true_and, or_false, false_or, not_true_eq_false, not_false_eq_true]
    · simp (disch := omega) only [fX5_hasElement, x_len X hs, e, reduceIte, Int32.reduceToInt, t_m1, t_m2, t_m3, t_m4, t_m5, t_m6, t_m7, ite_true, ite_false, tlt, tle, teq, tcl, tni, i_mul8, i_mul160, i_160mul, i_add, i_add1, i_100add, Int.toNat_natCast, if_yes, if_no, Option.bind_some, gLet_eq, and_true, true_and, or_false, false_or, not_true_eq_false, not_false_eq_true]
theorem RSh.row {hx lx hm so sz sh : Nat → Int32} {ex em ex' em' : Nat → Int64} {n s o L : Nat} (h : o ≤ 3 ∧ L ≤ 160 ∧ hx s = nI (100 + o) ∧ hm s = 1 ∧ so s = nI o ∧ lx s = nI L ∧ sz s = nI L ∧ ∀ i, i < L → ex (160 * s + i) = em (160 * s + i)) (e : ∀ i, i < L → ex' (160 * s + i) = em' (160 * s + i)) : RSh hx lx hm so sz sh ex' em' n s :=
  Or.inr (Or.inr ⟨o, L, h.1, h.2.1, h.2.2.1, h.2.2.2.1, h.2.2.2.2.1, h.2.2.2.2.2.1, h.2.2.2.2.2.2.1, e⟩)
theorem Rel.put {X M : GS} (h : Rel X M) {s i : Nat} (hs : s < 8) (hi : i < 160) (v : Int64) : Rel (gU4 X 66 (160 * s + i) v) (gU4 M 19 (160 * s + i) v) := by
  refine h.sh rfl (fun _ _ _ => rfl) rfl (fun _ _ => rfl) (fun n hLp hSh s' hs' => ?_)
  by_cases e : s' = s
  · subst e
    rcases hSh s' hs' with g | ⟨k, g⟩ | ⟨o, L, g⟩
    · exact Or.inl g
    · exact Or.inr (Or.inl ⟨k, g⟩)
    · refine RSh.row g (fun j hj => ?_)
      simp (disch := omega) only [gU1_s, gU1_n, gU1_2, gU2_1, gU2_s, gU2_n, gU2_3, gU3_1, gU3_2, gU3_s, gU3_n, gU3_4, gU4_1, gU4_2, gU4_3, gU4_s, gU4_n, gA3_1, gA3_2, gA3_s, gA3_n, gA3_4, gA4_1, gA4_3, gA4_s, gA4_n, updL_i, reduceIte]
      rw [g.2.2.2.2.2.2.2 j hj]
  · refine (hSh s' hs').congr rfl rfl rfl rfl rfl rfl (fun j hj => ?_) (fun j hj => ?_)
    all_goals simp (disch := omega) only [gU1_s, gU1_n, gU1_2, gU2_1, gU2_s, gU2_n, gU2_3, gU3_1, gU3_2, gU3_s, gU3_n, gU3_4, gU4_1, gU4_2, gU4_3, gU4_s, gU4_n, gA3_1, gA3_2, gA3_s, gA3_n, gA3_4, gA4_1, gA4_3, gA4_s, gA4_n, updL_i, reduceIte, if_no]
set_option maxHeartbeats 4000000 in
theorem s_set {X M : GS} (h : Rel X M) (a b : Int32) (v : Int64) : St (fX8_set X a b v) (fX9_set M a b v) := by
  rcases ix3 a 8 (by decide) with ha | ⟨s, hs, rfl⟩
  · simp (disch := omega) only [fX8_set, fX8_set_L28, fX9_set, x_rowR0 X ha, m_is0 M ha, reduceIte, Int32.reduceToInt, t_m1, t_m2, t_m3, t_m4, t_m5, t_m6, t_m7, ite_true, ite_false, tlt, tle, teq, tcl, tni, i_mul8, i_mul160, i_160mul, i_add, i_add1, i_100add, Int.toNat_natCast, if_yes, if_no, Option.bind_some, gLet_eq, and_true, true_and, or_false, false_or, not_true_eq_false, not_false_eq_true]
    exact s_no h _ (by decide)
  · obtain ⟨n, hL, hSh, hO⟩ := id h
    have hR := x_rowR hL.1 (hSh s hs) hs
    rcases hSh s hs with g | ⟨k, g⟩ | ⟨o, L, ho, hL, g1, g2, g3, g4, g5, g6⟩
    · rw [g.2.1] at hR
      simp (disch := omega) only [fX8_set, fX8_set_L28, fX9_set, hR, rRow, m_is M hs, g.2.1, reduceIte, Int32.reduceToInt, t_m1, t_m2, t_m3, t_m4, t_m5, t_m6, t_m7, ite_true, ite_false, tlt, tle, teq, tcl, tni, i_mul8, i_mul160, i_160mul, i_add, i_add1, i_100add, Int.toNat_natCast, if_yes, if_no, Option.bind_some, gLet_eq, and_true, true_and, or_false, false_or, not_true_eq_false, not_false_eq_true]
      exact s_no h _ (by decide)
    · rw [g.2.2.1] at hR
      simp (disch := omega) only [fX8_set, fX8_set_L28, fX9_set, hR, rRow, m_is M hs, g.2.2.1, reduceIte, Int32.reduceToInt, t_m1, t_m2, t_m3, t_m4, t_m5, t_m6, t_m7, ite_true, ite_false, tlt, tle, teq, tcl, tni, i_mul8, i_mul160, i_160mul, i_add, i_add1, i_100add, Int.toNat_natCast, if_yes, if_no, Option.bind_some, gLet_eq, and_true, true_and, or_false, false_or, not_true_eq_false, not_false_eq_true]
      exact s_no h _ (by decide)
    · rw [g2] at hR
      have hE := x_he (n := n) (M := M) hs hL g4 b
      by_cases hb : 0 ≤ b.toInt ∧ b.toInt < L
      · obtain ⟨i, hi, rfl, ei⟩ := of_nn hb.1
        rw [if_pos hb] at hE
        rcases (show o = 0 ∨ o = 1 ∨ o = 2 ∨ o = 3 by omega) with rfl | rfl | rfl | rfl
        all_goals
          simp (disch := omega) only [fX8_set, fX8_set_L28, fX9_set, fX5_put, fX5_narrowed, hR, hE, rRow, m_is M hs, g1, g2, g3, g5, i_sub100, reduceIte, Int32.reduceToInt, t_m1, t_m2, t_m3, t_m4, t_m5, t_m6, t_m7, ite_true, ite_false, tlt, tle, teq, tcl, tni, i_mul8, i_mul160, i_160mul, i_add, i_add1, i_100add, Int.toNat_natCast, if_yes, if_no, Option.bind_some, gLet_eq, and_true, true_and, or_false, false_or, not_true_eq_false, not_false_eq_true]
          exact ⟨_, _, rfl, rfl, rfl, h.put hs (by omega) _⟩
      · rw [if_neg hb] at hE
        by_cases hb0 : b.toInt < 0
        · simp (disch := omega) only [fX8_set, fX8_set_L28, fX9_set, hR, hE, rRow, m_is M hs, g2, reduceIte, Int32.reduceToInt, t_m1, t_m2, t_m3, t_m4, t_m5, t_m6, t_m7, ite_true, ite_false, tlt, tle, teq, tcl, tni, i_mul8, i_mul160, i_160mul, i_add, i_add1, i_100add, Int.toNat_natCast, if_yes, if_no, Option.bind_some, gLet_eq, and_true, true_and, or_false, false_or, not_true_eq_false, not_false_eq_true]
          exact s_no h _ (by decide)
        · simp (disch := omega) only [fX8_set, fX8_set_L28, fX9_set, hR, hE, rRow, m_is M hs, g2, g5, reduceIte, Int32.reduceToInt, t_m1, t_m2, t_m3, t_m4, t_m5, t_m6, t_m7, ite_true, ite_false, tlt, tle, teq, tcl, tni, i_mul8, i_mul160, i_160mul, i_add, i_add1, i_100add, Int.toNat_natCast, if_yes, if_no, Option.bind_some, gLet_eq, and_true, true_and, or_false, false_or, not_true_eq_false, not_false_eq_true]
          exact s_no h _ (by decide)
set_option maxHeartbeats 4000000 in
theorem s_element {X M : GS} (h : Rel X M) (a b : Int32) : Sl (fX8_element X a b) (fX9_element M a b) := by
  rcases ix3 a 8 (by decide) with ha | ⟨s, hs, rfl⟩
  · by_cases hb0 : b.toInt < 0
    · simp (disch := omega) only [fX8_element, fX5_elementAt, fX5_hasElement, fX9_element, m_is0 M ha, reduceIte, Int32.reduceToInt, t_m1, t_m2, t_m3, t_m4, t_m5, t_m6, t_m7, ite_true, ite_false, tlt, tle, teq, tcl, tni, i_mul8, i_mul160, i_160mul, i_add, i_add1, i_100add, Int.toNat_natCast, if_yes, if_no, Option.bind_some, gLet_eq, and_true, true_and, or_false, false_or, not_true_eq_false, not_false_eq_true]
      exact ⟨_, rfl, rfl⟩
    · simp (disch := omega) only [fX8_element, fX5_elementAt, fX5_hasElement, fX5_lengthOf, x_has0 X ha, fX9_element, m_is0 M ha, reduceIte, Int32.reduceToInt, t_m1, t_m2, t_m3, t_m4, t_m5, t_m6, t_m7, ite_true, ite_false, tlt, tle, teq, tcl, tni, i_mul8, i_mul160, i_160mul, i_add, i_add1, i_100add, Int.toNat_natCast, if_yes, if_no, Option.bind_some, gLet_eq, and_true, true_and, or_false, false_or, not_true_eq_false, not_false_eq_true]
      exact ⟨_, rfl, rfl⟩
  · obtain ⟨n, hL, hSh, hO⟩ := id h
    rcases hSh s hs with g | ⟨k, g⟩ | ⟨o, L, ho, hL, g1, g2, g3, g4, g5, g6⟩
    · have hE := x_he (n := n) (M := M) (L := 0) hs (by omega) g.2.2 b
      rw [if_neg (by omega)] at hE
      simp (disch := omega) only [fX8_element, fX5_elementAt, fX9_element, m_is M hs, hE, g.2.1, reduceIte, Int32.reduceToInt, t_m1, t_m2, t_m3, t_m4, t_m5, t_m6, t_m7, ite_true, ite_false, tlt, tle, teq, tcl, tni, i_mul8, i_mul160, i_160mul, i_add, i_add1, i_100add, Int.toNat_natCast, if_yes, if_no, Option.bind_some, gLet_eq, and_true, true_and, or_false, false_or, not_true_eq_false, not_false_eq_true]
      exact ⟨_, rfl, rfl⟩
    · have hE := x_he (n := n) (M := M) (L := 0) hs (by omega) g.2.2.2.2 b
      rw [if_neg (by omega)] at hE
      simp (disch := omega) only [fX8_element, fX5_elementAt, fX9_element, m_is M hs, hE, g.2.2.1, reduceIte, Int32.reduceToInt, t_m1, t_m2, t_m3, t_m4, t_m5, t_m6, t_m7, ite_true, ite_false, tlt, tle, teq, tcl, tni, i_mul8, i_mul160, i_160mul, i_add, i_add1, i_100add, Int.toNat_natCast, if_yes, if_no, Option.bind_some, gLet_eq, and_true, true_and, or_false, false_or, not_true_eq_false, not_false_eq_true]
      exact ⟨_, rfl, rfl⟩
    · have hE := x_he (n := n) (M := M) hs hL g4 b
      by_cases hb : 0 ≤ b.toInt ∧ b.toInt < L
      · obtain ⟨i, hi, rfl, ei⟩ := of_nn hb.1
        rw [if_pos hb] at hE
        simp (disch := omega) only [fX8_element, fX5_elementAt, fX9_element, hE, m_is M hs, g2, g5, reduceIte, Int32.reduceToInt, t_m1, t_m2, t_m3, t_m4, t_m5, t_m6, t_m7, ite_true, ite_false, tlt, tle, teq, tcl, tni, i_mul8, i_mul160, i_160mul, i_add, i_add1, i_100add, Int.toNat_natCast, if_yes, if_no, Option.bind_some, gLet_eq, and_true, true_and, or_false, false_or, not_true_eq_false, not_false_eq_true]
        exact ⟨_, rfl, by rw [g6 i (by omega)]⟩
      · rw [if_neg hb] at hE
        by_cases hb0 : b.toInt < 0
        · simp (disch := omega) only [fX8_element, fX5_elementAt, fX9_element, hE, m_is M hs, g2, reduceIte, Int32.reduceToInt, t_m1, t_m2, t_m3, t_m4, t_m5, t_m6, t_m7, ite_true, ite_false, tlt, tle, teq, tcl, tni, i_mul8, i_mul160, i_160mul, i_add, i_add1, i_100add, Int.toNat_natCast, if_yes, if_no, Option.bind_some, gLet_eq, and_true, true_and, or_false, false_or, not_true_eq_false, not_false_eq_true]
          exact ⟨_, rfl, rfl⟩
        · simp (disch := omega) only [fX8_element, fX5_elementAt, fX9_element, hE, m_is M hs, g2, g5, reduceIte, Int32.reduceToInt, t_m1, t_m2, t_m3, t_m4, t_m5, t_m6, t_m7, ite_true, ite_false, tlt, tle, teq, tcl, tni, i_mul8, i_mul160, i_160mul, i_add, i_add1, i_100add, Int.toNat_natCast, if_yes, if_no, Option.bind_some, gLet_eq, and_true, true_and, or_false, false_or, not_true_eq_false, not_false_eq_true]
          exact ⟨_, rfl, rfl⟩
set_option maxHeartbeats 4000000 in
theorem s_holds {X M : GS} (h : Rel X M) (a : Int32) : Sr (fX8_holds X a) (fX9_holds M a) := by
  rcases ix3 a 8 (by decide) with ha | ⟨s, hs, rfl⟩
  · simp (disch := omega) only [fX8_holds, fX5_heldBy, x_has0 X ha, fX9_holds, m_is0 M ha, reduceIte, Int32.reduceToInt, t_m1, t_m2, t_m3, t_m4, t_m5, t_m6, t_m7, ite_true, ite_false, tlt, tle, teq, tcl, tni, i_mul8, i_mul160, i_160mul, i_add, i_add1, i_100add, Int.toNat_natCast, if_yes, if_no, Option.bind_some, gLet_eq, and_true, true_and, or_false, false_or, not_true_eq_false, not_false_eq_true]
    exact ⟨_, rfl, rfl⟩
  · obtain ⟨n, hL, hSh, hO⟩ := id h
    rcases hSh s hs with g | ⟨k, g⟩ | ⟨o, L, ho, hL, g1, g2, g3, g4, g5, g6⟩
    · simp (disch := omega) only [fX8_holds, x_held X hs, fX9_holds, m_is M hs, g.1, g.2.1, reduceIte, Int32.reduceToInt, t_m1, t_m2, t_m3, t_m4, t_m5, t_m6, t_m7, ite_true, ite_false, tlt, tle, teq, tcl, tni, i_mul8, i_mul160, i_160mul, i_add, i_add1, i_100add, Int.toNat_natCast, if_yes, if_no, Option.bind_some, gLet_eq, and_true, true_and, or_false, false_or, not_true_eq_false, not_false_eq_true]
      exact ⟨_, rfl, rfl⟩
    · simp (disch := omega) only [fX8_holds, x_held X hs, fX9_holds, m_is M hs, g.2.1, g.2.2.1, g.2.2.2.1, reduceIte, Int32.reduceToInt, t_m1, t_m2, t_m3, t_m4, t_m5, t_m6, t_m7, ite_true, ite_false, tlt, tle, teq, tcl, tni, i_mul8, i_mul160, i_160mul, i_add, i_add1, i_100add, Int.toNat_natCast, if_yes, if_no, Option.bind_some, gLet_eq, and_true, true_and, or_false, false_or, not_true_eq_false, not_false_eq_true]
      exact ⟨_, rfl, rfl⟩
    · simp (disch := omega) only [fX8_holds, x_held X hs, fX9_holds, m_is M hs, g1, g2, g3, reduceIte, Int32.reduceToInt, t_m1, t_m2, t_m3, t_m4, t_m5, t_m6, t_m7, ite_true, ite_false, tlt, tle, teq, tcl, tni, i_mul8, i_mul160, i_160mul, i_add, i_add1, i_100add, Int.toNat_natCast, if_yes, if_no, Option.bind_some, gLet_eq, and_true, true_and, or_false, false_or, not_true_eq_false, not_false_eq_true]
      exact ⟨_, rfl, rfl⟩
theorem x_hasSU {X M : GS} {n : Nat} (h : RLp X M n) {i : Nat} (hi : i < n) : fX3_hasSetUp_now X (nI i) = some 1 := by
  have := h.1
  simp (disch := omega) only [fX3_hasSetUp_now, h.2.1, reduceIte, Int32.reduceToInt, t_m1, t_m2, t_m3, t_m4, t_m5, t_m6, t_m7, ite_true, ite_false, tlt, tle, teq, tcl, tni, i_mul8, i_mul160, i_160mul, i_add, i_add1, i_100add, Int.toNat_natCast, if_yes, if_no, Option.bind_some, gLet_eq, and_true, true_and, or_false, false_or, not_true_eq_false, not_false_eq_true]
theorem x_hasSU0 {X M : GS} {n : Nat} (h : RLp X M n) {a : Int32} (ha : a.toInt < 0 ∨ (n : Int) ≤ a.toInt) : fX3_hasSetUp_now X a = some 0 := by
  have := h.1
  rcases ha with ha | ha
  · simp (disch := omega) only [fX3_hasSetUp_now, h.2.1, reduceIte, Int32.reduceToInt, t_m1, t_m2, t_m3, t_m4, t_m5, t_m6, t_m7, ite_true, ite_false, tlt, tle, teq, tcl, tni, i_mul8, i_mul160, i_160mul, i_add, i_add1, i_100add, Int.toNat_natCast, if_yes, if_no, Option.bind_some, gLet_eq, and_true, true_and, or_false, false_or, not_true_eq_false, not_false_eq_true]
  · simp (disch := omega) only [fX3_hasSetUp_now, h.2.1, reduceIte, Int32.reduceToInt, t_m1, t_m2, t_m3, t_m4, t_m5, t_m6, t_m7, ite_true, ite_false, tlt, tle, teq, tcl, tni, i_mul8, i_mul160, i_160mul, i_add, i_add1, i_100add, Int.toNat_natCast, if_yes, if_no, Option.bind_some, gLet_eq, and_true, true_and, or_false, false_or, not_true_eq_false, not_false_eq_true]
theorem m_hasSU {X M : GS} {n : Nat} (h : RLp X M n) {i : Nat} (hi : i < n) : fX9_isSetup M (nI i) = some 1 := by
  have := h.1
  simp (disch := omega) only [fX9_isSetup, h.2.2.1, reduceIte, Int32.reduceToInt, t_m1, t_m2, t_m3, t_m4, t_m5, t_m6, t_m7, ite_true, ite_false, tlt, tle, teq, tcl, tni, i_mul8, i_mul160, i_160mul, i_add, i_add1, i_100add, Int.toNat_natCast, if_yes, if_no, Option.bind_some, gLet_eq, and_true, true_and, or_false, false_or, not_true_eq_false, not_false_eq_true]
theorem m_hasSU0 {X M : GS} {n : Nat} (h : RLp X M n) {a : Int32} (ha : a.toInt < 0 ∨ (n : Int) ≤ a.toInt) : fX9_isSetup M a = some 0 := by
  have := h.1
  rcases ha with ha | ha
  · simp (disch := omega) only [fX9_isSetup, h.2.2.1, reduceIte, Int32.reduceToInt, t_m1, t_m2, t_m3, t_m4, t_m5, t_m6, t_m7, ite_true, ite_false, tlt, tle, teq, tcl, tni, i_mul8, i_mul160, i_160mul, i_add, i_add1, i_100add, Int.toNat_natCast, if_yes, if_no, Option.bind_some, gLet_eq, and_true, true_and, or_false, false_or, not_true_eq_false, not_false_eq_true]
  · simp (disch := omega) only [fX9_isSetup, h.2.2.1, reduceIte, Int32.reduceToInt, t_m1, t_m2, t_m3, t_m4, t_m5, t_m6, t_m7, ite_true, ite_false, tlt, tle, teq, tcl, tni, i_mul8, i_mul160, i_160mul, i_add, i_add1, i_100add, Int.toNat_natCast, if_yes, if_no, Option.bind_some, gLet_eq, and_true, true_and, or_false, false_or, not_true_eq_false, not_false_eq_true]
/-- a shelf is set anew to nothing or to a set-up -/
theorem Rel.shelf {X M : GS} (h : Rel X M) {s : Nat} (hs : s < 8) (v w z : Int32) (hv : (v = -1 ∧ w = 0) ∨ (∀ n, RLp X M n → ∃ k, k < n ∧ v = nI k ∧ w = 2 ∧ z = v)) : Rel (gU3 (gU3 X 64 s v) 65 s 0) (gU3 (gU3 M 15 s w) 18 s z) := by
  refine h.sh rfl (fun k _ _ => ?_) rfl (fun k _ => ?_) (fun n hLp hSh s' hs' => ?_)
  · simp (disch := omega) only [gU1_s, gU1_n, gU1_2, gU2_1, gU2_s, gU2_n, gU2_3, gU3_1, gU3_2, gU3_s, gU3_n, gU3_4, gU4_1, gU4_2, gU4_3, gU4_s, gU4_n, gA3_1, gA3_2, gA3_s, gA3_n, gA3_4, gA4_1, gA4_3, gA4_s, gA4_n, if_no]
  · simp (disch := omega) only [gU1_s, gU1_n, gU1_2, gU2_1, gU2_s, gU2_n, gU2_3, gU3_1, gU3_2, gU3_s, gU3_n, gU3_4, gU4_1, gU4_2, gU4_3, gU4_s, gU4_n, gA3_1, gA3_2, gA3_s, gA3_n, gA3_4, gA4_1, gA4_3, gA4_s, gA4_n, if_no]
  · by_cases e : s' = s
    · subst e
      rcases hv with ⟨rfl, rfl⟩ | hv
      · refine Or.inl ?_
        simp (disch := omega) only [gU1_s, gU1_n, gU1_2, gU2_1, gU2_s, gU2_n, gU2_3, gU3_1, gU3_2, gU3_s, gU3_n, gU3_4, gU4_1, gU4_2, gU4_3, gU4_s, gU4_n, gA3_1, gA3_2, gA3_s, gA3_n, gA3_4, gA4_1, gA4_3, gA4_s, gA4_n, upd_i, if_no, reduceIte, and_self]
      · obtain ⟨k, hk, rfl, rfl, rfl⟩ := hv n hLp
        refine Or.inr (Or.inl ⟨k, hk, ?_⟩)
        simp (disch := omega) only [gU1_s, gU1_n, gU1_2, gU2_1, gU2_s, gU2_n, gU2_3, gU3_1, gU3_2, gU3_s, gU3_n, gU3_4, gU4_1, gU4_2, gU4_3, gU4_s, gU4_n, gA3_1, gA3_2, gA3_s, gA3_n, gA3_4, gA4_1, gA4_3, gA4_s, gA4_n, upd_i, if_no, reduceIte, and_self]
    · refine (hSh s' hs').congr ?_ ?_ ?_ ?_ ?_ ?_ (fun i hi => ?_) (fun i hi => ?_)
      all_goals simp (disch := omega) only [gU1_s, gU1_n, gU1_2, gU2_1, gU2_s, gU2_n, gU2_3, gU3_1, gU3_2, gU3_s, gU3_n, gU3_4, gU4_1, gU4_2, gU4_3, gU4_s, gU4_n, gA3_1, gA3_2, gA3_s, gA3_n, gA3_4, gA4_1, gA4_3, gA4_s, gA4_n, upd_i, if_no, reduceIte]
set_option maxHeartbeats 4000000 in
theorem s_show {X M : GS} (h : Rel X M) (a b : Int32) : St (fX8_show X a b) (fX9_show M a b) := by
  rcases ix3 a 8 (by decide) with ha | ⟨s, hs, rfl⟩
  · simp (disch := omega) only [fX8_show, fX9_show, x_has0 X ha, m_is0 M ha, reduceIte, Int32.reduceToInt, t_m1, t_m2, t_m3, t_m4, t_m5, t_m6, t_m7, ite_true, ite_false, tlt, tle, teq, tcl, tni, i_mul8, i_mul160, i_160mul, i_add, i_add1, i_100add, Int.toNat_natCast, if_yes, if_no, Option.bind_some, gLet_eq, and_true, true_and, or_false, false_or, not_true_eq_false, not_false_eq_true]
    exact s_no h _ (by decide)
  · obtain ⟨n, hL, hSh, hO⟩ := id h
    have hn := hL.1
    by_cases hb : b.toInt = -1
    · have eb : b = -1 := by rw [teq, t_m1]; exact hb
      simp (disch := omega) only [fX8_show, fX8_show_L39, fX5_holdSetUp, fX9_show, fX9_show_L27, x_has X hs, m_is M hs, reduceIte, Int32.reduceToInt, t_m1, t_m2, t_m3, t_m4, t_m5, t_m6, t_m7, ite_true, ite_false, tlt, tle, teq, tcl, tni, i_mul8, i_mul160, i_160mul, i_add, i_add1, i_100add, Int.toNat_natCast, if_yes, if_no, Option.bind_some, gLet_eq, and_true, true_and, or_false, false_or, not_true_eq_false, not_false_eq_true]
      exact ⟨_, _, rfl, rfl, rfl, h.shelf hs b 0 b (Or.inl ⟨eb, rfl⟩)⟩
    · rcases ix3 b n (by omega) with hb2 | ⟨k, hk, rfl⟩
      · simp (disch := omega) only [fX8_show, fX9_show, x_has X hs, m_is M hs, x_hasSU0 hL hb2, m_hasSU0 hL hb2, reduceIte, Int32.reduceToInt, t_m1, t_m2, t_m3, t_m4, t_m5, t_m6, t_m7, ite_true, ite_false, tlt, tle, teq, tcl, tni, i_mul8, i_mul160, i_160mul, i_add, i_add1, i_100add, Int.toNat_natCast, if_yes, if_no, Option.bind_some, gLet_eq, and_true, true_and, or_false, false_or, not_true_eq_false, not_false_eq_true]
        exact s_no h _ (by decide)
      · simp (disch := omega) only [fX8_show, fX8_show_L39, fX5_holdSetUp, fX9_show, fX9_show_L27, x_has X hs, m_is M hs, x_hasSU hL hk, m_hasSU hL hk, reduceIte, Int32.reduceToInt, t_m1, t_m2, t_m3, t_m4, t_m5, t_m6, t_m7, ite_true, ite_false, tlt, tle, teq, tcl, tni, i_mul8, i_mul160, i_160mul, i_add, i_add1, i_100add, Int.toNat_natCast, if_yes, if_no, Option.bind_some, gLet_eq, and_true, true_and, or_false, false_or, not_true_eq_false, not_false_eq_true]
        refine ⟨_, _, rfl, rfl, rfl, h.shelf hs (nI k) 2 (nI k) (Or.inr (fun n' hL' => ⟨k, ?_, rfl, rfl, rfl⟩))⟩
        have e1 := hL.2.1.symm.trans hL'.2.1
        rw [teq, tni _ (by omega), tni _ (by have := hL'.1; omega)] at e1
        omega
