/-! says -/
def und (k w : Nat) : Nat := if w = k ∨ w = 0 ∨ (k = 3 ∧ w = 1) ∨ (k = 5 ∧ w = 2) ∨ (k = 6 ∧ w = 4) then 1 else 0
theorem le6 {k : Nat} (h : k ≤ 6) : k = 0 ∨ k = 1 ∨ k = 2 ∨ k = 3 ∨ k = 4 ∨ k = 5 ∨ k = 6 := by omega
theorem x_und_q (X : GS) (q k w : Nat) (hk : k ≤ 6) (hw : w ≤ 6) : fX1_isUnder_4 (q + 8) X (nI w) (nI k) 0 = some (nI (und k w)) := by
  rcases le6 hk with rfl | rfl | rfl | rfl | rfl | rfl | rfl <;> rcases le6 hw with rfl | rfl | rfl | rfl | rfl | rfl | rfl <;> rfl
theorem x_und (X : GS) (k w : Nat) (hk : k ≤ 6) (hw : w ≤ 6) : fX1_isUnder X (nI k) (nI w) = some (nI (und k w)) := x_und_q X 99992 k w hk hw
theorem m_saysU (M : GS) (k w : Nat) (hk : k ≤ 6) (hw : w ≤ 6) (v3 : Int32) : (if nI w = (1 : Int32) then if nI k = (3 : Int32) then fX9_says_L106 M (nI w) v3 (nI k) else fX9_says_L83 M (nI w) v3 (nI k) else fX9_says_L83 M (nI w) v3 (nI k)) = if und k w = 1 then fX9_says_L135 M (nI w) v3 else (fX9_noFar M (-2)).bind fun u39 => some (u39.1, u39.2) := by
  rcases le6 hk with rfl | rfl | rfl | rfl | rfl | rfl | rfl <;> rcases le6 hw with rfl | rfl | rfl | rfl | rfl | rfl | rfl <;> simp (disch := omega) only [fX9_says_L83, fX9_says_L94, fX9_says_L106, fX9_says_L110, reduceIte, Int32.reduceToInt, t_m1, t_m2, t_m3, t_m4, t_m5, t_m6, t_m7, ite_true, ite_false, tlt, tle, teq, tcl, tni, i_mul8, i_mul160, i_160mul, i_add, i_add1, i_100add, Int.toNat_natCast, if_yes, if_no, Option.bind_some, gLet_eq, and_true, true_and, or_false, false_or, not_true_eq_false, not_false_eq_true] <;> first | exact (if_pos rfl).symm | exact (if_neg (by decide)).symm
theorem und_cases (k w : Nat) : und k w = 0 ∨ und k w = 1 := by rw [und]; split <;> simp only [or_true, true_or]
set_option maxHeartbeats 4000000 in
theorem s_says {X M : GS} (h : Rel X M) (a b : Int32) : St (fX8_says X a b) (fX9_says M a b) := by
  rcases ix3 a 8 (by decide) with ha | ⟨s, hs, rfl⟩
  · simp (disch := omega) only [fX8_says, fX8_saysRefusal, fX9_says, x_has0 X ha, m_is0 M ha, reduceIte, Int32.reduceToInt, t_m1, t_m2, t_m3, t_m4, t_m5, t_m6, t_m7, ite_true, ite_false, tlt, tle, teq, tcl, tni, i_mul8, i_mul160, i_160mul, i_add, i_add1, i_100add, Int.toNat_natCast, if_yes, if_no, Option.bind_some, gLet_eq, and_true, true_and, or_false, false_or, not_true_eq_false, not_false_eq_true]
    exact s_far h _ (by decide)
  · obtain ⟨n, hL, hSh, hO⟩ := id h
    have hn := hL.1
    rcases ix3 b 7 (by decide) with hb | ⟨w, hw, rfl⟩
    · rcases hb with hb | hb
      · simp (disch := omega) only [fX8_says, fX8_saysRefusal, fX9_says, x_has X hs, m_is M hs, fit0, reduceIte, Int32.reduceToInt, t_m1, t_m2, t_m3, t_m4, t_m5, t_m6, t_m7, ite_true, ite_false, tlt, tle, teq, tcl, tni, i_mul8, i_mul160, i_160mul, i_add, i_add1, i_100add, Int.toNat_natCast, if_yes, if_no, Option.bind_some, gLet_eq, and_true, true_and, or_false, false_or, not_true_eq_false, not_false_eq_true]
        exact s_far h _ (by decide)
      · simp (disch := omega) only [fX8_says, fX8_saysRefusal, fX9_says, x_has X hs, m_is M hs, fit0, reduceIte, Int32.reduceToInt, t_m1, t_m2, t_m3, t_m4, t_m5, t_m6, t_m7, ite_true, ite_false, tlt, tle, teq, tcl, tni, i_mul8, i_mul160, i_160mul, i_add, i_add1, i_100add, Int.toNat_natCast, if_yes, if_no, Option.bind_some, gLet_eq, and_true, true_and, or_false, false_or, not_true_eq_false, not_false_eq_true]
        exact s_far h _ (by decide)
    · have eF := fit0 X (nI w)
      rw [if_pos (by rw [tni _ (by omega)]; omega)] at eF
      have eS := x_setup hn (hSh s hs) hs
      have hcs : (nI s).toNatClampNeg = s := nI_clamp (by omega)
      have hc8 : (nI s < 0 ∨ 8 ≤ s) = False := by
        have q := nI_inb hs (show 8 < 2 ^ 31 by decide)
        rw [hcs] at q
        exact eq_false q
      rcases hSh s hs with g | ⟨k, g⟩ | ⟨o, L, ho, hL', g1, g2, g3, g4, g5, g6⟩
      · rw [g.2.1] at eS
        simp (disch := omega) only [fX8_says, fX8_saysRefusal, fX9_says, x_has X hs, m_is M hs, eF, x_held X hs, eS, g.1, g.2.1, reduceIte, Int32.reduceToInt, t_m1, t_m2, t_m3, t_m4, t_m5, t_m6, t_m7, ite_true, ite_false, tlt, tle, teq, tcl, tni, i_mul8, i_mul160, i_160mul, i_add, i_add1, i_100add, Int.toNat_natCast, if_yes, if_no, Option.bind_some, gLet_eq, and_true, true_and, or_false, false_or, not_true_eq_false, not_false_eq_true]
        exact s_far h _ (by decide)
      · obtain ⟨hk, g1, g2, g3, g4⟩ := g
        obtain ⟨q, -, hq, eq⟩ := (hL.2.2.2.2.1 k hk).1
        rw [g2] at eS
        have hk16 : k < 16 := by omega
        have kcl : (nI k).toNatClampNeg = k := nI_clamp (by omega)
        have eU := x_und X q w hq (by omega)
        have hA : (nI k < 0 ∨ 16 ≤ k) = False := by
          have q := nI_inb hk16 (show 16 < 2 ^ 31 by decide)
          rw [kcl] at q
          exact eq_false q
        have h6 : (nI w ≤ 6) = True := eq_true (nI_le (a := w) (b := 6) (by omega) (by omega))
        rw [fX9_says, m_is M hs]
        simp only [Option.bind_some, if_neg (show ¬ (1 : Int32) = 0 by decide), if_neg (nI_nlt0 (show w < 2 ^ 31 by omega)), h6, hc8, hcs, g2, g3, kcl, kn_21, kn_20, hA, eq, reduceIte]
        have eM := m_saysU M q w hq (by omega) (nI k)
        rw [eM]
        have eX : fX8_saysRefusal X (nI s) (nI w) = some (if und q w = 1 then 0 else -2) := by
          rw [fX8_saysRefusal, x_has X hs]
          simp (disch := omega) only [eF, x_held X hs, g1, eS, xg0 hL hk, eq, eU, reduceIte, Int32.reduceToInt, t_m1, t_m2, t_m3, t_m4, t_m5, t_m6, t_m7, ite_true, ite_false, tlt, tle, teq, tcl, tni, i_mul8, i_mul160, i_160mul, i_add, i_add1, i_100add, Int.toNat_natCast, if_yes, if_no, Option.bind_some, gLet_eq, and_true, true_and, or_false, false_or, not_true_eq_false, not_false_eq_true]
          rcases und_cases q w with e | e <;> rw [e] <;> rfl
        rw [fX8_says, eX]
        rcases und_cases q w with e | e
        · rw [e]
          simp only [Option.bind_some, if_neg (show ¬ 0 = 1 by decide), if_neg (show ¬ (-2 : Int32) = 0 by decide)]
          exact s_far h (-2) (by decide)
        · rw [e]
          simp only [Option.bind_some, if_pos (show 1 = 1 from rfl), x_held X hs, g1, reduceIte]
          have hsk : w = 2 ∨ w = 5 → fX9_sinks M (nI k) = some (mSk M k) := by
            intro hw2
            have hq2 : q = 2 ∨ q = 5 := by
              rcases le6 hq with rfl | rfl | rfl | rfl | rfl | rfl | rfl <;> rcases hw2 with rfl | rfl <;> simp [und] at e ⊢
            rcases hq2 with rfl | rfl
            · simp (disch := omega) only [fX9_sinks, mSk, eq, reduceIte, Int32.reduceToInt, t_m1, t_m2, t_m3, t_m4, t_m5, t_m6, t_m7, ite_true, ite_false, tlt, tle, teq, tcl, tni, i_mul8, i_mul160, i_160mul, i_add, i_add1, i_100add, Int.toNat_natCast, if_yes, if_no, Option.bind_some, gLet_eq, and_true, true_and, or_false, false_or, not_true_eq_false, not_false_eq_true]
            · simp (disch := omega) only [fX9_sinks, mSk, eq, reduceIte, Int32.reduceToInt, t_m1, t_m2, t_m3, t_m4, t_m5, t_m6, t_m7, ite_true, ite_false, tlt, tle, teq, tcl, tni, i_mul8, i_mul160, i_160mul, i_add, i_add1, i_100add, Int.toNat_natCast, if_yes, if_no, Option.bind_some, gLet_eq, and_true, true_and, or_false, false_or, not_true_eq_false, not_false_eq_true]
          rcases le6 (show w ≤ 6 by omega) with rfl | rfl | rfl | rfl | rfl | rfl | rfl
          all_goals
            simp (disch := omega) only [fX9_says_L135, kcl, hA, hsk, x_yards hL hk, x_sunk hL hk, xg1 hL hk, xg4 hL hk, xg5 hL hk, reduceIte, Int32.reduceToInt, t_m1, t_m2, t_m3, t_m4, t_m5, t_m6, t_m7, ite_true, ite_false, tlt, tle, teq, tcl, tni, i_mul8, i_mul160, i_160mul, i_add, i_add1, i_100add, Int.toNat_natCast, if_yes, if_no, Option.bind_some, gLet_eq, and_true, true_and, or_false, false_or, not_true_eq_false, not_false_eq_true]
            exact ⟨_, _, rfl, rfl, rfl, h⟩
      · rw [g2] at eS
        simp (disch := omega) only [fX8_says, fX8_saysRefusal, fX9_says, x_has X hs, m_is M hs, eF, x_held X hs, eS, g1, g2, reduceIte, Int32.reduceToInt, t_m1, t_m2, t_m3, t_m4, t_m5, t_m6, t_m7, ite_true, ite_false, tlt, tle, teq, tcl, tni, i_mul8, i_mul160, i_160mul, i_add, i_add1, i_100add, Int.toNat_natCast, if_yes, if_no, Option.bind_some, gLet_eq, and_true, true_and, or_false, false_or, not_true_eq_false, not_false_eq_true]
        exact s_far h _ (by decide)
