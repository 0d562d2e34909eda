/-! copy -/
theorem ilt_t {a b : Int} (h : a < b) : (a < b) = True := eq_true h
theorem ilt_f {a b : Int} (h : ¬ a < b) : (a < b) = False := eq_false h
theorem ile_t {a b : Int} (h : a ≤ b) : (a ≤ b) = True := eq_true h
theorem ile_f {a b : Int} (h : ¬ a ≤ b) : (a ≤ b) = False := eq_false h
theorem ieq_t {a b : Int} (h : a = b) : (a = b) = True := eq_true h
theorem ieq_f {a b : Int} (h : ¬ a = b) : (a = b) = False := eq_false h
theorem nlt_t {a b : Nat} (h : a < b) : (a < b) = True := eq_true h
theorem nlt_f {a b : Nat} (h : ¬ a < b) : (a < b) = False := eq_false h
theorem nle_t {a b : Nat} (h : a ≤ b) : (a ≤ b) = True := eq_true h
theorem nle_f {a b : Nat} (h : ¬ a ≤ b) : (a ≤ b) = False := eq_false h
theorem i64lt (a b : Int64) : (a < b) = (a.toInt < b.toInt) := propext Int64.lt_iff_toInt_lt
theorem i64le (a b : Int64) : (a ≤ b) = (a.toInt ≤ b.toInt) := propext Int64.le_iff_toInt_le
theorem x_st {X : GS} {s : Nat} (hs : s < 8) {L : Nat} (hL : L ≤ 160) (e : X.2.2.1 65 s = nI L) (b c : Int32) : fX5_hasStretch X (nI s) b c = some (if 0 ≤ b.toInt ∧ 0 ≤ c.toInt ∧ b.toInt + c.toInt ≤ L then 1 else 0) := by
  rw [fX5_hasStretch]
  by_cases h1 : b.toInt < 0
  · simp (disch := omega) only [reduceIte, Int32.reduceToInt, t_m1, t_m2, t_m3, t_m4, t_m5, t_m6, t_m7, ite_true, ite_false, tlt, tle, teq, tcl, tni, i_mul8, i_mul160, i_160mul, i_add, i_add1, i_100add, Int.toNat_natCast, if_yes, if_no, Option.bind_some, gLet_eq, and_true, true_and, or_false, false_or, not_true_eq_false, not_false_eq_true]
  · by_cases h2 : c.toInt < 0
    · simp (disch := omega) only [reduceIte, Int32.reduceToInt, t_m1, t_m2, t_m3, t_m4, t_m5, t_m6, t_m7, ite_true, ite_false, tlt, tle, teq, tcl, tni, i_mul8, i_mul160, i_160mul, i_add, i_add1, i_100add, Int.toNat_natCast, if_yes, if_no, Option.bind_some, gLet_eq, and_true, true_and, or_false, false_or, not_true_eq_false, not_false_eq_true]
    · rw [if_neg (by rw [tlt, t_0]; exact h1), if_neg (by rw [tlt, t_0]; exact h2), x_len X hs, e]
      simp only [Option.bind_some, lg_cmp_gt, i64lt, lg_i2l_add, Int32.toInt_toInt64]
      rw [tni _ (by omega)]
      by_cases h3 : b.toInt + c.toInt ≤ L
      · rw [if_neg (by omega), if_pos (by omega)]
      · rw [if_pos (by omega), if_neg (by omega)]
def pr (r1 r2 : Int32) : Int32 := if r1 = 0 then r2 else if r2 = 0 then r1 else if r1 < r2 then r2 else r1
theorem x_pair {X : GS} {a b r1 r2 : Int32} (h1 : fX8_rowRefusal X a = some r1) (h2 : fX8_rowRefusal X b = some r2) : fX8_pairRefusal X a b = some (pr r1 r2) := by
  rw [fX8_pairRefusal, h1, h2, pr]
  simp only [Option.bind_some]
  split
  · rfl
  · split
    · rfl
    · rfl
theorem x_rowAny {X M : GS} {n : Nat} (hn : n ≤ 16) (hSh : ∀ s, s < 8 → RSn X M n s) (b : Int32) : ∃ r, fX8_rowRefusal X b = some r ∧ (r = -1 ∨ r = -2 ∨ r = -3 ∨ r = 0) := by
  rcases ix3 b 8 (by decide) with hb | ⟨s, hs, rfl⟩
  · exact ⟨_, x_rowR0 X hb, by decide⟩
  · refine ⟨_, x_rowR hn (hSh s hs) hs, ?_⟩
    rcases rs_m (hSh s hs) with e | e | e <;> rw [e] <;> decide
theorem m_c1 {p i n : Nat} (hp : p < 8) (hi : i + n ≤ 160) : ∀ (d k : Nat) (M : GS) (fu : Nat), n - k = d → k ≤ n → d < fu → ∃ t, fX9_copy_167 fu M (nI p) (nI i) (nI n) (nI k) = some (gA4 M 20 t) ∧ (∀ j, j < k → t j = M.2.2.2 20 j) ∧ ∀ j, k ≤ j → j < n → t j = M.2.2.2 19 (160 * p + i + j) := by
  intro d
  induction d with
  | zero =>
    intro k M fu hd hk hf
    obtain ⟨fu, rfl⟩ : ∃ q, fu = q + 1 := ⟨fu - 1, by omega⟩
    have e : k = n := by omega
    subst e
    refine ⟨M.2.2.2 20, ?_, fun _ _ => rfl, fun j h1 h2 => by omega⟩
    rw [fX9_copy_167, gA4_id]
    simp (disch := omega) only [reduceIte, Int32.reduceToInt, t_m1, t_m2, t_m3, t_m4, t_m5, t_m6, t_m7, ite_true, ite_false, tlt, tle, teq, tcl, tni, i_mul8, i_mul160, i_160mul, i_add, i_add1, i_100add, Int.toNat_natCast, if_yes, if_no, Option.bind_some, gLet_eq, and_true, true_and, or_false, false_or, not_true_eq_false, not_false_eq_true]
  | succ d ih =>
    intro k M fu hd hk hf
    obtain ⟨fu, rfl⟩ : ∃ q, fu = q + 1 := ⟨fu - 1, by omega⟩
    obtain ⟨t, e1, e2, e3⟩ := ih (k + 1) (gU4 M 20 k (M.2.2.2 19 (160 * p + i + k))) fu (by omega) (by omega) (by omega)
    refine ⟨t, ?_, fun j hj => ?_, fun j h1 h2 => ?_⟩
    · rw [fX9_copy_167]
      simp (disch := omega) only [reduceIte, Int32.reduceToInt, t_m1, t_m2, t_m3, t_m4, t_m5, t_m6, t_m7, ite_true, ite_false, tlt, tle, teq, tcl, tni, i_mul8, i_mul160, i_160mul, i_add, i_add1, i_100add, Int.toNat_natCast, if_yes, if_no, Option.bind_some, gLet_eq, and_true, true_and, or_false, false_or, not_true_eq_false, not_false_eq_true]
      rw [e1, gA4_U4]
    · rw [e2 j (by omega), gU4_s, updL_i, if_neg (by omega)]
    · by_cases hj : j = k
      · subst hj
        rw [e2 j (by omega), gU4_s, updL_i, if_pos rfl]
      · rw [e3 j (by omega) h2, gU4_n _ _ _ _ _ (by decide)]
theorem m_c2 {p i n : Nat} (hp : p < 8) (hi : i + n ≤ 160) : ∀ (d k : Nat) (M : GS) (fu : Nat), n - k = d → k ≤ n → d < fu → ∃ t, fX9_copy_205 fu M (nI p) (nI i) (nI n) (nI k) = some (gA4 M 19 t) ∧ (∀ j, (j < 160 * p + i + k ∨ 160 * p + i + n ≤ j) → t j = M.2.2.2 19 j) ∧ ∀ j, k ≤ j → j < n → t (160 * p + i + j) = M.2.2.2 20 j := by
  intro d
  induction d with
  | zero =>
    intro k M fu hd hk hf
    obtain ⟨fu, rfl⟩ : ∃ q, fu = q + 1 := ⟨fu - 1, by omega⟩
    have e : k = n := by omega
    subst e
    refine ⟨M.2.2.2 19, ?_, fun _ _ => rfl, fun j h1 h2 => by omega⟩
    rw [fX9_copy_205, gA4_id]
    simp (disch := omega) only [reduceIte, Int32.reduceToInt, t_m1, t_m2, t_m3, t_m4, t_m5, t_m6, t_m7, ite_true, ite_false, tlt, tle, teq, tcl, tni, i_mul8, i_mul160, i_160mul, i_add, i_add1, i_100add, Int.toNat_natCast, if_yes, if_no, Option.bind_some, gLet_eq, and_true, true_and, or_false, false_or, not_true_eq_false, not_false_eq_true]
  | succ d ih =>
    intro k M fu hd hk hf
    obtain ⟨fu, rfl⟩ : ∃ q, fu = q + 1 := ⟨fu - 1, by omega⟩
    obtain ⟨t, e1, e2, e3⟩ := ih (k + 1) (gU4 M 19 (160 * p + i + k) (M.2.2.2 20 k)) fu (by omega) (by omega) (by omega)
    refine ⟨t, ?_, fun j hj => ?_, fun j h1 h2 => ?_⟩
    · rw [fX9_copy_205]
      simp (disch := omega) only [reduceIte, Int32.reduceToInt, t_m1, t_m2, t_m3, t_m4, t_m5, t_m6, t_m7, ite_true, ite_false, tlt, tle, teq, tcl, tni, i_mul8, i_mul160, i_160mul, i_add, i_add1, i_100add, Int.toNat_natCast, if_yes, if_no, Option.bind_some, gLet_eq, and_true, true_and, or_false, false_or, not_true_eq_false, not_false_eq_true]
      rw [e1, gA4_U4]
    · rw [e2 j (by omega), gU4_s, updL_i, if_neg (by omega)]
    · by_cases hj : j = k
      · subst hj
        rw [e2 _ (by omega), gU4_s, updL_i, if_pos rfl]
      · rw [e3 j (by omega) h2, gU4_n _ _ _ _ _ (by decide)]
theorem x_move {X : GS} {p q L1 L2 i j n : Nat} (hp : p < 8) (hq : q < 8) (hL1 : L1 ≤ 160) (hL2 : L2 ≤ 160) (e1 : X.2.2.1 65 p = nI L1) (e2 : X.2.2.1 65 q = nI L2) (hi : i + n ≤ L1) (hj : j + n ≤ L2) : fX5_move X (nI p) (nI i) (nI q) (nI j) (nI n) = some (gA4 X 66 (va_cpy (X.2.2.2 66) (X.2.2.2 66) (160 * p + i) (160 * q + j) n)) := by
  have s1 := x_st hp hL1 e1 (nI i) (nI n)
  have s2 := x_st hq hL2 e2 (nI j) (nI n)
  rw [if_pos (by rw [tni _ (by omega), tni _ (by omega)]; omega)] at s1 s2
  rw [fX5_move, s1, s2]
  by_cases h0 : n = 0
  · subst h0
    have e : va_cpy (X.2.2.2 66) (X.2.2.2 66) (160 * p + i) (160 * q + j) 0 = X.2.2.2 66 := by
      funext k
      exact pk_cpy_out (by omega)
    rw [e, gA4_id]
    rfl
  · have hn0 : ¬ (n : Int) = 0 := by omega
    simp (disch := omega) only [reduceIte, Int32.reduceToInt, t_m1, t_m2, t_m3, t_m4, t_m5, t_m6, t_m7, ite_true, ite_false, tlt, tle, teq, tcl, tni, i_mul8, i_mul160, i_160mul, i_add, i_add1, i_100add, Int.toNat_natCast, if_yes, if_no, Option.bind_some, gLet_eq, and_true, true_and, or_false, false_or, not_true_eq_false, not_false_eq_true]
set_option maxHeartbeats 4000000 in
theorem s_copy {X M : GS} (h : Rel X M) (a b c d v : Int32) : St (fX8_copy X a b c d v) (fX9_copy M a b c d v) := by
  obtain ⟨n, hL, hSh, hO⟩ := id h
  have hn := hL.1
  rcases ix3 a 8 (by decide) with ha | ⟨p, hp, rfl⟩
  · obtain ⟨r, er, hr⟩ := x_rowAny hn hSh b
    have eP := x_pair (x_rowR0 X ha) er
    rcases hr with rfl | rfl | rfl | rfl
    all_goals
      simp (disch := omega) only [fX8_copy, fX8_copy_L36, fX8_copy_L50, fX8_copy_L88, fX9_copy, eP, pr, m_is0 M ha, ↓reduceIte, Int32.reduceToInt, t_0, t_m1, t_m2, t_m3, t_m4, t_m5, t_m6, t_m7, ite_true, ite_false, tlt, tle, teq, tcl, tni, i_mul8, i_mul160, i_160mul, i_add, i_add1, i_100add, Int.toNat_natCast, Option.bind_some, gLet_eq, and_true, true_and, or_false, false_or, or_self, or_true, true_or, and_false, false_and, not_true_eq_false, not_false_eq_true, ilt_t, ilt_f, ile_t, ile_f, ieq_t, ieq_f, nle_t, nle_f, nlt_t, nlt_f]
      exact s_no h _ (by decide)
  · rcases ix3 b 8 (by decide) with hb | ⟨q, hq, rfl⟩
    · obtain ⟨r, er, hr⟩ := x_rowAny hn hSh (nI p)
      have eP := x_pair er (x_rowR0 X hb)
      rcases hr with rfl | rfl | rfl | rfl
      all_goals
        simp (disch := omega) only [fX8_copy, fX8_copy_L36, fX8_copy_L50, fX8_copy_L88, fX9_copy, eP, pr, m_is M hp, m_is0 M hb, ↓reduceIte, Int32.reduceToInt, t_0, t_m1, t_m2, t_m3, t_m4, t_m5, t_m6, t_m7, ite_true, ite_false, tlt, tle, teq, tcl, tni, i_mul8, i_mul160, i_160mul, i_add, i_add1, i_100add, Int.toNat_natCast, Option.bind_some, gLet_eq, and_true, true_and, or_false, false_or, or_self, or_true, true_or, and_false, false_and, not_true_eq_false, not_false_eq_true, ilt_t, ilt_f, ile_t, ile_f, ieq_t, ieq_f, nle_t, nle_f, nlt_t, nlt_f]
        exact s_no h _ (by decide)
    · have eP := x_pair (x_rowR hn (hSh p hp) hp) (x_rowR hn (hSh q hq) hq)
      have gp := hSh p hp
      have gq := hSh q hq
      by_cases e11 : M.2.2.1 15 p = 1 ∧ M.2.2.1 15 q = 1
      · obtain ⟨e1, e2⟩ := e11
        rw [e1, e2] at eP
        have r1 : ∃ o L, o ≤ 3 ∧ L ≤ 160 ∧ X.2.2.1 64 p = nI (100 + o) ∧ M.2.2.1 15 p = 1 ∧ M.2.2.1 16 p = nI o ∧ X.2.2.1 65 p = nI L ∧ M.2.2.1 17 p = nI L ∧ ∀ i, i < L → X.2.2.2 66 (160 * p + i) = M.2.2.2 19 (160 * p + i) := by
          rcases gp with g | ⟨k, g⟩ | g
          · rw [g.2.1] at e1; cases e1
          · rw [g.2.2.1] at e1; cases e1
          · exact g
        have r2 : ∃ o L, o ≤ 3 ∧ L ≤ 160 ∧ X.2.2.1 64 q = nI (100 + o) ∧ M.2.2.1 15 q = 1 ∧ M.2.2.1 16 q = nI o ∧ X.2.2.1 65 q = nI L ∧ M.2.2.1 17 q = nI L ∧ ∀ i, i < L → X.2.2.2 66 (160 * q + i) = M.2.2.2 19 (160 * q + i) := by
          rcases gq with g | ⟨k, g⟩ | g
          · rw [g.2.1] at e2; cases e2
          · rw [g.2.2.1] at e2; cases e2
          · exact g
        obtain ⟨o1, L1, ho1, hL1, p1, p2, p3, p4, p5, p6⟩ := r1
        obtain ⟨o2, L2, ho2, hL2, q1, q2, q3, q4, q5, q6⟩ := r2
        have s1 := x_st hp hL1 p4 c v
        have s2 := x_st hq hL2 q4 d v
        by_cases ho : o1 = o2
        · subst ho
          by_cases hv : 0 ≤ v.toInt
          · obtain ⟨m, hm, rfl, em⟩ := of_nn hv
            by_cases hc : 0 ≤ c.toInt
            · obtain ⟨i, hi, rfl, ei⟩ := of_nn hc
              by_cases hd : 0 ≤ d.toInt
              · obtain ⟨j, hj, rfl, ej⟩ := of_nn hd
                have k1 : (nI L1 - nI m).toInt = (L1 : Int) - m := by rw [tsub _ _ (by rw [tni _ (by omega), tni _ (by omega)]; omega), tni _ (by omega), tni _ (by omega)]
                have k2 : (nI L2 - nI m).toInt = (L2 : Int) - m := by rw [tsub _ _ (by rw [tni _ (by omega), tni _ (by omega)]; omega), tni _ (by omega), tni _ (by omega)]
                by_cases h1 : i + m ≤ L1
                · by_cases h2 : j + m ≤ L2
                  · rw [if_pos (by omega)] at s1 s2
                    obtain ⟨t, t1, -, t3⟩ := m_c1 hp (show i + m ≤ 160 by omega) m 0 M gFuel (by omega) (by omega) (gFu _ (by omega))
                    obtain ⟨e, w1, w2, w3⟩ := m_c2 hq (show j + m ≤ 160 by omega) m 0 (gA4 M 20 t) gFuel (by omega) (by omega) (gFu _ (by omega))
                    rw [show nI 0 = (0 : Int32) from rfl] at t1 w1
                    simp (disch := omega) only [fX8_copy, fX8_copy_L36, fX8_copy_L50, fX8_copy_L88, fX9_copy, fX9_copy_L84, eP, rRow, pr, m_is M hp, m_is M hq, x_held X hp, x_held X hq, p1, p2, p3, p5, q1, q2, q3, q5, s1, s2, k1, k2, x_move hp hq hL1 hL2 p4 q4 h1 h2, t1, w1, ↓reduceIte, Int32.reduceToInt, t_0, t_m1, t_m2, t_m3, t_m4, t_m5, t_m6, t_m7, ite_true, ite_false, tlt, tle, teq, tcl, tni, i_mul8, i_mul160, i_160mul, i_add, i_add1, i_100add, Int.toNat_natCast, Option.bind_some, gLet_eq, and_true, true_and, or_false, false_or, or_self, or_true, true_or, and_false, false_and, not_true_eq_false, not_false_eq_true, ilt_t, ilt_f, ile_t, ile_f, ieq_t, ieq_f, nle_t, nle_f, nlt_t, nlt_f]
                    refine ⟨_, _, rfl, rfl, rfl, h.sh rfl (fun _ _ _ => rfl) rfl (fun _ _ => rfl) (fun n' hLp hSh' s' hs' => ?_)⟩
                    by_cases es : s' = q
                    · subst es
                      refine RSh.row (o := o1) (L := L2) ⟨ho2, hL2, q1, q2, q3, q4, q5, q6⟩ (fun k hk => ?_)
                      show (gA4 X 66 _).2.2.2 66 _ = (gA4 (gA4 M 20 t) 19 e).2.2.2 19 _
                      rw [gA4_s, gA4_s]
                      by_cases hin : j ≤ k ∧ k < j + m
                      · have e3 := w3 (k - j) (by omega) (by omega)
                        rw [show 160 * s' + j + (k - j) = 160 * s' + k by omega, gA4_s, t3 (k - j) (by omega) (by omega)] at e3
                        rw [e3, pk_cpy_in (by omega) (by omega), show 160 * p + i + (160 * s' + k - (160 * s' + j)) = 160 * p + (i + (k - j)) by omega, p6 _ (by omega), Nat.add_assoc]
                      · rw [pk_cpy_out (by omega), w2 _ (by omega), gA4_n _ _ _ _ (by decide), q6 k hk]
                    · refine (hSh' s' hs').congr rfl rfl rfl rfl rfl rfl (fun k hk => ?_) (fun k hk => ?_)
                      · show (gA4 X 66 _).2.2.2 66 _ = _
                        rw [gA4_s, pk_cpy_out (by omega)]
                      · show (gA4 (gA4 M 20 t) 19 e).2.2.2 19 _ = _
                        rw [gA4_s, w2 _ (by omega), gA4_n _ _ _ _ (by decide)]
                  · rw [if_pos (by omega)] at s1
                    rw [if_neg (by omega)] at s2
                    simp (disch := omega) only [fX8_copy, fX8_copy_L36, fX8_copy_L50, fX8_copy_L84, fX8_copy_L88, fX9_copy, fX9_copy_L84, eP, rRow, pr, m_is M hp, m_is M hq, x_held X hp, x_held X hq, p1, p2, p3, p5, q1, q2, q3, q5, s1, s2, k1, k2, ↓reduceIte, Int32.reduceToInt, t_0, t_m1, t_m2, t_m3, t_m4, t_m5, t_m6, t_m7, ite_true, ite_false, tlt, tle, teq, tcl, tni, i_mul8, i_mul160, i_160mul, i_add, i_add1, i_100add, Int.toNat_natCast, Option.bind_some, gLet_eq, and_true, true_and, or_false, false_or, or_self, or_true, true_or, and_false, false_and, not_true_eq_false, not_false_eq_true, ilt_t, ilt_f, ile_t, ile_f, ieq_t, ieq_f, nle_t, nle_f, nlt_t, nlt_f]
                    exact s_no h _ (by decide)
                · rw [if_neg (by omega)] at s1
                  simp (disch := omega) only [fX8_copy, fX8_copy_L36, fX8_copy_L50, fX8_copy_L84, fX8_copy_L88, fX9_copy, fX9_copy_L84, eP, rRow, pr, m_is M hp, m_is M hq, x_held X hp, x_held X hq, p1, p2, p3, p5, q1, q2, q3, q5, s1, k1, k2, ↓reduceIte, Int32.reduceToInt, t_0, t_m1, t_m2, t_m3, t_m4, t_m5, t_m6, t_m7, ite_true, ite_false, tlt, tle, teq, tcl, tni, i_mul8, i_mul160, i_160mul, i_add, i_add1, i_100add, Int.toNat_natCast, Option.bind_some, gLet_eq, and_true, true_and, or_false, false_or, or_self, or_true, true_or, and_false, false_and, not_true_eq_false, not_false_eq_true, ilt_t, ilt_f, ile_t, ile_f, ieq_t, ieq_f, nle_t, nle_f, nlt_t, nlt_f]
                  exact s_no h _ (by decide)
              · rw [if_neg (by omega)] at s2
                by_cases h1 : i + m ≤ L1
                · rw [if_pos (by omega)] at s1
                  simp (disch := omega) only [fX8_copy, fX8_copy_L36, fX8_copy_L50, fX8_copy_L84, fX8_copy_L88, fX9_copy, fX9_copy_L84, eP, rRow, pr, m_is M hp, m_is M hq, x_held X hp, x_held X hq, p1, p2, p3, p5, q1, q2, q3, q5, s1, s2, ↓reduceIte, Int32.reduceToInt, t_0, t_m1, t_m2, t_m3, t_m4, t_m5, t_m6, t_m7, ite_true, ite_false, tlt, tle, teq, tcl, tni, i_mul8, i_mul160, i_160mul, i_add, i_add1, i_100add, Int.toNat_natCast, Option.bind_some, gLet_eq, and_true, true_and, or_false, false_or, or_self, or_true, true_or, and_false, false_and, not_true_eq_false, not_false_eq_true, ilt_t, ilt_f, ile_t, ile_f, ieq_t, ieq_f, nle_t, nle_f, nlt_t, nlt_f]
                  exact s_no h _ (by decide)
                · rw [if_neg (by omega)] at s1
                  simp (disch := omega) only [fX8_copy, fX8_copy_L36, fX8_copy_L50, fX8_copy_L84, fX8_copy_L88, fX9_copy, fX9_copy_L84, eP, rRow, pr, m_is M hp, m_is M hq, x_held X hp, x_held X hq, p1, p2, p3, p5, q1, q2, q3, q5, s1, s2, ↓reduceIte, Int32.reduceToInt, t_0, t_m1, t_m2, t_m3, t_m4, t_m5, t_m6, t_m7, ite_true, ite_false, tlt, tle, teq, tcl, tni, i_mul8, i_mul160, i_160mul, i_add, i_add1, i_100add, Int.toNat_natCast, Option.bind_some, gLet_eq, and_true, true_and, or_false, false_or, or_self, or_true, true_or, and_false, false_and, not_true_eq_false, not_false_eq_true, ilt_t, ilt_f, ile_t, ile_f, ieq_t, ieq_f, nle_t, nle_f, nlt_t, nlt_f]
                  exact s_no h _ (by decide)
            · rw [if_neg (by omega)] at s1
              simp (disch := omega) only [fX8_copy, fX8_copy_L36, fX8_copy_L50, fX8_copy_L84, fX8_copy_L88, fX9_copy, fX9_copy_L84, eP, rRow, pr, m_is M hp, m_is M hq, x_held X hp, x_held X hq, p1, p2, p3, p5, q1, q2, q3, q5, s1, ↓reduceIte, Int32.reduceToInt, t_0, t_m1, t_m2, t_m3, t_m4, t_m5, t_m6, t_m7, ite_true, ite_false, tlt, tle, teq, tcl, tni, i_mul8, i_mul160, i_160mul, i_add, i_add1, i_100add, Int.toNat_natCast, Option.bind_some, gLet_eq, and_true, true_and, or_false, false_or, or_self, or_true, true_or, and_false, false_and, not_true_eq_false, not_false_eq_true, ilt_t, ilt_f, ile_t, ile_f, ieq_t, ieq_f, nle_t, nle_f, nlt_t, nlt_f]
              exact s_no h _ (by decide)
          · simp (disch := omega) only [fX8_copy, fX8_copy_L36, fX8_copy_L50, fX8_copy_L84, fX8_copy_L88, fX9_copy, fX9_copy_L84, eP, rRow, pr, m_is M hp, m_is M hq, x_held X hp, x_held X hq, p1, p2, p3, p5, q1, q2, q3, q5, ↓reduceIte, Int32.reduceToInt, t_0, t_m1, t_m2, t_m3, t_m4, t_m5, t_m6, t_m7, ite_true, ite_false, tlt, tle, teq, tcl, tni, i_mul8, i_mul160, i_160mul, i_add, i_add1, i_100add, Int.toNat_natCast, Option.bind_some, gLet_eq, and_true, true_and, or_false, false_or, or_self, or_true, true_or, and_false, false_and, not_true_eq_false, not_false_eq_true, ilt_t, ilt_f, ile_t, ile_f, ieq_t, ieq_f, nle_t, nle_f, nlt_t, nlt_f]
            exact s_no h _ (by decide)
        · simp (disch := omega) only [fX8_copy, fX8_copy_L36, fX8_copy_L50, fX8_copy_L84, fX8_copy_L88, fX9_copy, fX9_copy_L84, eP, rRow, pr, m_is M hp, m_is M hq, x_held X hp, x_held X hq, p1, p2, p3, q1, q2, q3, ↓reduceIte, Int32.reduceToInt, t_0, t_m1, t_m2, t_m3, t_m4, t_m5, t_m6, t_m7, ite_true, ite_false, tlt, tle, teq, tcl, tni, i_mul8, i_mul160, i_160mul, i_add, i_add1, i_100add, Int.toNat_natCast, Option.bind_some, gLet_eq, and_true, true_and, or_false, false_or, or_self, or_true, true_or, and_false, false_and, not_true_eq_false, not_false_eq_true, ilt_t, ilt_f, ile_t, ile_f, ieq_t, ieq_f, nle_t, nle_f, nlt_t, nlt_f]
          exact s_no h _ (by decide)
      · rcases rs_m gp with e1 | e1 | e1 <;> rcases rs_m gq with e2 | e2 | e2
        all_goals first
          | exact (e11 ⟨e1, e2⟩).elim
          | (rw [e1, e2] at eP
             simp (disch := omega) only [fX8_copy, fX8_copy_L36, fX8_copy_L50, fX8_copy_L88, fX9_copy, fX9_copy_L84, eP, rRow, pr, e1, e2, m_is M hp, m_is M hq, ↓reduceIte, Int32.reduceToInt, t_0, t_m1, t_m2, t_m3, t_m4, t_m5, t_m6, t_m7, ite_true, ite_false, tlt, tle, teq, tcl, tni, i_mul8, i_mul160, i_160mul, i_add, i_add1, i_100add, Int.toNat_natCast, Option.bind_some, gLet_eq, and_true, true_and, or_false, false_or, or_self, or_true, true_or, and_false, false_and, not_true_eq_false, not_false_eq_true, ilt_t, ilt_f, ile_t, ile_f, ieq_t, ieq_f, nle_t, nle_f, nlt_t, nlt_f]
             exact s_no h _ (by decide))
