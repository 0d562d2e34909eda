/-! parts -/
theorem tdiv_le (a : Int) (d : Nat) : -(a.natAbs : Int) ≤ a.tdiv d ∧ a.tdiv d ≤ a.natAbs := by
  cases a with
  | ofNat m =>
    obtain ⟨q, hq, e⟩ : ∃ q : Nat, q ≤ m ∧ (Int.ofNat m).tdiv (d : Int) = (q : Int) := ⟨m / d, Nat.div_le_self m d, rfl⟩
    rw [e, show (Int.ofNat m).natAbs = m from rfl]
    omega
  | negSucc m =>
    obtain ⟨q, hq, e⟩ : ∃ q : Nat, q ≤ m + 1 ∧ (Int.negSucc m).tdiv (d : Int) = -(q : Int) := ⟨(m + 1) / d, Nat.div_le_self (m + 1) d, rfl⟩
    rw [e, show (Int.negSucc m).natAbs = m + 1 from rfl]
    omega
theorem i_div10 (x : Int32) : -(x.toInt.natAbs : Int) ≤ (x / 10).toInt ∧ (x / 10).toInt ≤ x.toInt.natAbs := by
  have b := i32 x
  have q := tdiv_le x.toInt 10
  have e : (x / 10).toInt = (x.toInt.tdiv (10 : Nat)).bmod (2 ^ 32) := Int32.toInt_div x 10
  by_cases h : x.toInt = -2147483648
  · rw [e, h]
    decide
  · rw [e, bmod32 _ (by omega) (by omega)]
    exact q
theorem lin_r (M : GS) {n i : Nat} {X : GS} (h : RLp X M n) (hi : i < n) : -882 ≤ ((M.1 2 * (M.2.2.1 11 i - M.2.2.1 12 i)) / 10).toInt ∧ ((M.1 2 * (M.2.2.1 11 i - M.2.2.1 12 i)) / 10).toInt ≤ 882 := by
  have q := h.2.2.2.2.1 i hi
  have a := isN_i q.2.2.2.2.1 (by decide)
  have b := isN_i q.2.2.2.2.2.1 (by decide)
  have c := isN_i h.2.2.2.2.2.2.2.1 (by decide)
  have e1 : (M.2.2.1 11 i - M.2.2.1 12 i).toInt = (M.2.2.1 11 i).toInt - (M.2.2.1 12 i).toInt := tsub _ _ (by omega)
  have d := i_div10 (M.1 2 * (M.2.2.1 11 i - M.2.2.1 12 i))
  have e2 : -882 ≤ (M.1 2).toInt * (M.2.2.1 11 i - M.2.2.1 12 i).toInt ∧ (M.1 2).toInt * (M.2.2.1 11 i - M.2.2.1 12 i).toInt ≤ 882 := by
    have g : ∀ x y : Int, 0 ≤ x → x ≤ 9 → -98 ≤ y → y ≤ 98 → -882 ≤ x * y ∧ x * y ≤ 882 := by
      intro x y h1 h2 h3 h4
      rcases (show x = 0 ∨ x = 1 ∨ x = 2 ∨ x = 3 ∨ x = 4 ∨ x = 5 ∨ x = 6 ∨ x = 7 ∨ x = 8 ∨ x = 9 by omega) with rfl | rfl | rfl | rfl | rfl | rfl | rfl | rfl | rfl | rfl <;> omega
    exact g _ _ (by omega) (by omega) (by omega) (by omega)
  rw [tmul _ _ (by omega)] at d
  omega
theorem sgn_r (v b : Int32) (h : 0 ≤ v.toInt) : -v.toInt ≤ (sgn v b).toInt ∧ (sgn v b).toInt ≤ v.toInt := by
  have := i32 v
  rw [sgn]
  split
  · omega
  · split
    · rw [tneg _ (by omega)]; omega
    · rw [t_0]; omega
theorem eV_r {X M : GS} {n i : Nat} (h : RLp X M n) (hi : i < n) (b : Int32) : -1764 ≤ (eV M i b).toInt ∧ (eV M i b).toInt ≤ 1764 := by
  have q := h.2.2.2.2.1 i hi
  have a := isN_i q.2.1 (by decide)
  have l := lin_r M h hi
  rw [eV]
  split
  · omega
  · split
    · split
      · rw [tneg _ (by omega)]; omega
      · omega
    · split
      · rw [tmul _ _ (by rw [t_2]; omega), t_2]; omega
      · split
        · have := sgn_r (M.2.2.1 8 i) b (by omega)
          omega
        · split
          · have e : (2 * M.2.2.1 8 i).toInt = 2 * (M.2.2.1 8 i).toInt := by rw [tmul _ _ (by rw [t_2]; omega), t_2]
            split
            · rw [tneg _ (by omega)]; omega
            · omega
          · split
            · split
              · have := sgn_r (M.2.2.1 8 i) b (by omega)
                omega
              · have e : (M.2.2.1 8 i + 1).toInt = (M.2.2.1 8 i).toInt + 1 := by rw [tadd _ _ (by rw [t_1]; omega), t_1]
                have := sgn_r (M.2.2.1 8 i + 1) b (by omega)
                omega
            · rw [t_0]; omega
theorem mB_r {X M : GS} {n i : Nat} (h : RLp X M n) (hi : i < n) : -9999 ≤ (mB M i).toInt ∧ (mB M i).toInt ≤ 9999 := by
  have q := h.2.2.2.2.1 i hi
  have a := isN_i q.2.2.1 (by decide)
  have b := isN_i q.2.2.2.1 (by decide)
  rw [mB, tsub _ _ (by omega)]
  omega
theorem mR_r {X M : GS} {n i : Nat} (h : RLp X M n) (hi : i < n) : -11763 ≤ (mR M i).toInt ∧ (mR M i).toInt ≤ 11763 := by
  have a := mB_r h hi
  have b := eV_r h hi (mB M i)
  rw [mR, tsub _ _ (by omega)]
  omega
theorem sumR_r {X M : GS} {n : Nat} (h : RLp X M n) : ∀ k, k ≤ n → -11763 * (k : Int) ≤ (sumR M k).toInt ∧ (sumR M k).toInt ≤ 11763 * k := by
  have hn := h.1
  intro k
  induction k with
  | zero => intro _; rw [sumR, t_0]; omega
  | succ k ih =>
    intro hk
    have a := ih (by omega)
    have b := mR_r h (show k < n by omega)
    rw [sumR, tadd _ _ (by omega)]
    omega
theorem sumR_s {X M : GS} {n k : Nat} (h : RLp X M n) (hk : k < n) : (sumR M (k + 1)).toInt = (sumR M k).toInt + (mR M k).toInt := by
  have hn := h.1
  have a := sumR_r h k (by omega)
  have b := mR_r h hk
  rw [sumR, tadd _ _ (by omega)]
def aL (x : Int64) : Int64 := if 0 < x then x else -x
theorem aL_p {x : Int64} (h : 0 ≤ x) : aL x = x := by
  rw [aL]
  by_cases g : 0 < x
  · rw [if_pos g]
  · rw [if_neg g]
    have e : x = 0 := by
      rw [← Int64.toInt_inj]
      rw [i64lt] at g
      rw [i64le] at h
      rw [t64_0] at g h ⊢
      omega
    rw [e]
    decide
theorem aL_n {x : Int64} (h : ¬ 0 ≤ x) : aL x = -x := by
  rw [aL, if_neg]
  rw [i64lt]
  rw [i64le] at h
  omega
theorem m_nest {α : Type} (o w : Int64) (A B : α) : (if 0 ≤ (lg_cmp o (0 : Int64)) then
      if 0 ≤ (lg_cmp w (0 : Int64)) then if (lg_cmp o w) ≤ 0 then B else A else if (lg_cmp o (-w)) ≤ 0 then B else A
      else if 0 ≤ (lg_cmp w (0 : Int64)) then if (lg_cmp (-o) w) ≤ 0 then B else A else if (lg_cmp (-o) (-w)) ≤ 0 then B else A) = if (lg_cmp (aL o) (aL w)) ≤ 0 then B else A := by
  simp only [lg_cmp_ge]
  by_cases h1 : 0 ≤ o
  · rw [if_pos h1, aL_p h1]
    by_cases h2 : 0 ≤ w
    · rw [if_pos h2, aL_p h2]
    · rw [if_neg h2, aL_n h2]
  · rw [if_neg h1, aL_n h1]
    by_cases h2 : 0 ≤ w
    · rw [if_pos h2, aL_p h2]
    · rw [if_neg h2, aL_n h2]
theorem Rel.part {X M : GS} (h : Rel X M) (a : Int32) (b : Int64) : Rel (gU2 (gU1 X 128 a) 129 b) M := h
theorem RLp.part {X M : GS} {n : Nat} (h : RLp X M n) (a : Int32) (b : Int64) : RLp (gU2 (gU1 X 128 a) 129 b) M n := h
theorem Row.part {X M : GS} {s L : Nat} (h : Row X M s L) (a : Int32) (b : Int64) : Row (gU2 (gU1 X 128 a) 129 b) M s L := h
/-- of X: what is known of the worst part so far -/
def PW (X : GS) (v4 w6 : Int32) (w7 : Int64) (c : Prop) : Prop := (v4 = 0 ∧ w6 = -1 ∧ c) ∨ (v4 = 1 ∧ w6 ≠ -1 ∧ X.1 128 = w6 ∧ X.2.1 129 = w7)
theorem nI_nm1 {k : Nat} (h : k < 2147483648) : nI k ≠ -1 := by
  rw [Ne, teq, tni _ h, t_m1]
  omega
set_option maxHeartbeats 1000000 in
theorem parts_l {M : GS} {s L n : Nat} (hs : s < 8) (hnL : n ≤ L) : ∀ (d j fu fv : Nat) (X : GS) (b : Nat) (km v4 w6 : Int32) (w7 v8 : Int64), n - j = d → j ≤ n → d < fu → d < fv → RLp X M n → Rel X M → Row X M s L → b ≤ j → v8.toInt = (sumR M j).toInt - (sumR M b).toInt → PW X v4 w6 w7 (j < n) →
    ∃ X' w, fX2_search_now_shelves_21 fu X (nI s) v4 (nI b) km.toInt64 v8 (nI (j + 1)) = some X' ∧ fX9_parts_70 fv M (nI s) (nI b) km w6 w7 (nI (j + 1)) = some w ∧ Rel X' M ∧ X'.1 128 = w.1 ∧ X'.2.1 129 = w.2 := by
  intro d
  induction d with
  | zero =>
    intro j fu fv X b km v4 w6 w7 v8 hd hj hf hg hL hR r hb hv hP
    have hn := hL.1
    obtain ⟨fu, rfl⟩ : ∃ q, fu = q + 1 := ⟨fu - 1, by omega⟩
    obtain ⟨fv, rfl⟩ : ∃ q, fv = q + 1 := ⟨fv - 1, by omega⟩
    have e : j = n := by omega
    subst e
    have g1 : (nI j < nI (j + 1)) = True := (nlt_e (by omega) (by omega)).trans (eq_true (by omega))
    rcases hP with ⟨-, -, hP⟩ | ⟨-, -, p1, p2⟩
    · omega
    · refine ⟨X, (w6, w7), ?_, ?_, hR, p1, p2⟩
      · rw [fX2_search_now_shelves_21]
        simp only [x_count hL, g1, Option.bind_some, ↓reduceIte, km_1, km_2, km_3, km_4, km_5, km_6, km_7, kn_10, kn_20, kn_21]
      · rw [fX9_parts_70]
        simp only [hL.2.2.1, g1, Option.bind_some, ↓reduceIte, km_1, km_2, km_3, km_4, km_5, km_6, km_7, kn_10, kn_20, kn_21]
  | succ d ih =>
    intro j fu fv X b km v4 w6 w7 v8 hd hj hf hg hL hR r hb hv hP
    have hn := hL.1
    have hL' := r.2.2.2.1
    obtain ⟨fu, rfl⟩ : ∃ q, fu = q + 1 := ⟨fu - 1, by omega⟩
    obtain ⟨fv, rfl⟩ : ∃ q, fv = q + 1 := ⟨fv - 1, by omega⟩
    have hjn : j < n := by omega
    have g1 : (nI n < nI (j + 1)) = False := (nlt_e (by omega) (by omega)).trans (eq_false (by omega))
    have g2 : (nI (j + 1) = nI n) = (j + 1 = n) := neq_e (by omega) (by omega)
    have g3 : (nI n ≤ nI (j + 1)) = (n ≤ j + 1) := nle_e (by omega) (by omega)
    have k1 := sumR_s hL hjn
    have k2 := sumR_r hL j (by omega)
    have k3 := sumR_r hL b (by omega)
    have k4 := mR_r hL hjn
    have k5 := sumR_r hL (j + 1) (by omega)
    have k6 : (sumR M (j + 1) - sumR M b).toInt = (sumR M (j + 1)).toInt - (sumR M b).toInt := tsub _ _ (by omega)
    have e8 : v8 + (mR M j).toInt64 = (sumR M (j + 1) - sumR M b).toInt64 := by
      rw [← Int64.toInt_inj, t64add _ _ (by rw [Int32.toInt_toInt64]; omega), Int32.toInt_toInt64, Int32.toInt_toInt64]
      omega
    have v8' : (v8 + (mR M j).toInt64).toInt = (sumR M (j + 1)).toInt - (sumR M b).toInt := by
      rw [e8, Int32.toInt_toInt64, k6]
    have hxr : fX3_riseOf_now X (nI (j + 1) - 1) = some (mR M j) := by
      rw [nI_pred]
      exact x_rise hL hjn
    have hmr := m_rises hL (show b ≤ j + 1 by omega) (show j + 1 ≤ n by omega)
    -- a known stone
    have known : ∀ T : Int32, ∃ X' w,
        (if v4 = 0 then fX2_search_now_shelves_21 fu (gU2 (gU1 X 128 (nI b)) 129 ((sumR M (j + 1) - sumR M b).toInt64 - (T.toInt64 - km.toInt64))) (nI s) (1 : Int32) (nI (j + 1)) T.toInt64 (0 : Int64) (nI (j + 1 + 1))
          else if lg_cmp (aL ((sumR M (j + 1) - sumR M b).toInt64 - (T.toInt64 - km.toInt64))) (aL (X.2.1 129)) ≤ 0 then fX2_search_now_shelves_21 fu X (nI s) (1 : Int32) (nI (j + 1)) T.toInt64 (0 : Int64) (nI (j + 1 + 1))
          else fX2_search_now_shelves_21 fu (gU2 (gU1 X 128 (nI b)) 129 ((sumR M (j + 1) - sumR M b).toInt64 - (T.toInt64 - km.toInt64))) (nI s) (1 : Int32) (nI (j + 1)) T.toInt64 (0 : Int64) (nI (j + 1 + 1))) = some X' ∧
        (if w6 = -1 then fX9_parts_70 fv M (nI s) (nI (j + 1)) T (nI b) ((sumR M (j + 1) - sumR M b).toInt64 - (T.toInt64 - km.toInt64)) (nI (j + 1 + 1))
          else if lg_cmp (aL ((sumR M (j + 1) - sumR M b).toInt64 - (T.toInt64 - km.toInt64))) (aL w7) ≤ 0 then fX9_parts_70 fv M (nI s) (nI (j + 1)) T w6 w7 (nI (j + 1 + 1))
          else fX9_parts_70 fv M (nI s) (nI (j + 1)) T (nI b) ((sumR M (j + 1) - sumR M b).toInt64 - (T.toInt64 - km.toInt64)) (nI (j + 1 + 1))) = some w ∧ Rel X' M ∧ X'.1 128 = w.1 ∧ X'.2.1 129 = w.2 := by
      intro T
      have z0 : (0 : Int64).toInt = (sumR M (j + 1)).toInt - (sumR M (j + 1)).toInt := by rw [t64_0]; omega
      have A := ih (j + 1) fu fv (gU2 (gU1 X 128 (nI b)) 129 ((sumR M (j + 1) - sumR M b).toInt64 - (T.toInt64 - km.toInt64))) (j + 1) T 1 (nI b) ((sumR M (j + 1) - sumR M b).toInt64 - (T.toInt64 - km.toInt64)) 0 (by omega) (by omega) (by omega) (by omega) (hL.part _ _) (hR.part _ _) (r.part _ _) (by omega) z0 (Or.inr ⟨rfl, nI_nm1 (by omega), rfl, rfl⟩)
      rcases hP with ⟨rfl, rfl, -⟩ | ⟨rfl, p0, p1, p2⟩
      · rw [if_pos rfl, if_pos rfl]
        exact A
      · rw [if_neg (by decide), if_neg p0, p2]
        split
        · exact ih (j + 1) fu fv X (j + 1) T 1 w6 w7 0 (by omega) (by omega) (by omega) (by omega) hL hR r (by omega) z0 (Or.inr ⟨rfl, p0, p1, p2⟩)
        · exact A
    rw [fX2_search_now_shelves_21, fX9_parts_70]
    simp only [m_nest]
    by_cases hl : j + 1 = n
    · have hl2 : (n ≤ j + 1) = True := eq_true (by omega)
      obtain ⟨X', w, c1, c2, c3⟩ := known (M.1 1)
      refine ⟨X', w, ?_, ?_, c3⟩
      · simp only [x_count hL, g1, g2, eq_true hl, hxr, xs8 hL, e8, i_add1, Option.bind_some, ↓reduceIte, km_1, km_2, km_3, km_4, km_5, km_6, km_7, kn_10, kn_20, kn_21]
        exact c1
      · simp only [hL.2.2.1, g1, g2, g3, hl2, eq_true hl, hmr, i_add1, ite_self, Option.bind_some, ↓reduceIte, km_1, km_2, km_3, km_4, km_5, km_6, km_7, kn_10, kn_20, kn_21]
        exact c2
    · have hl2 : (n ≤ j + 1) = False := eq_false (by omega)
      by_cases hk : nA M s (j + 1) = -32768
      · obtain ⟨X', w, c1, c2, c3⟩ := ih (j + 1) fu fv X b km v4 w6 w7 (v8 + (mR M j).toInt64) (by omega) (by omega) (by omega) (by omega) hL hR r (by omega) v8' (by
          rcases hP with ⟨p0, p1, -⟩ | p
          · exact Or.inl ⟨p0, p1, by omega⟩
          · exact Or.inr p)
        refine ⟨X', w, ?_, ?_, c3⟩
        · simp only [x_count hL, g1, g2, eq_false hl, hxr, x_num hs r (show j + 1 < L by omega), eq_true hk, i_add1, Option.bind_some, ↓reduceIte, km_1, km_2, km_3, km_4, km_5, km_6, km_7, kn_10, kn_20, kn_21]
          exact c1
        · simp only [hL.2.2.1, g1, g2, g3, hl2, eq_false hl, m_num M hs (show j + 1 < 160 by omega), eq_true hk, i_add1, Option.bind_some, ↓reduceIte, km_1, km_2, km_3, km_4, km_5, km_6, km_7, kn_10, kn_20, kn_21]
          exact c2
      · obtain ⟨X', w, c1, c2, c3⟩ := known (nA M s (j + 1))
        refine ⟨X', w, ?_, ?_, c3⟩
        · simp only [x_count hL, g1, g2, eq_false hl, hxr, x_num hs r (show j + 1 < L by omega), eq_false hk, e8, i_add1, Option.bind_some, ↓reduceIte, km_1, km_2, km_3, km_4, km_5, km_6, km_7, kn_10, kn_20, kn_21]
          exact c1
        · simp only [hL.2.2.1, g1, g2, eq_false hl, m_num M hs (show j + 1 < 160 by omega), eq_false hk, hmr, i_add1, Option.bind_some, ↓reduceIte, km_1, km_2, km_3, km_4, km_5, km_6, km_7, kn_10, kn_20, kn_21]
          exact c2
theorem parts_0 {X M : GS} {s L n : Nat} (h : Rel X M) (hL : RLp X M n) (hs : s < 8) (r : Row X M s L) (hnL : n ≤ L) (h0 : n ≠ 0) : ∃ X' w, fX2_search_now_shelves X (nI s) = some X' ∧ fX9_parts_70 gFuel M (nI s) (0 : Int32) (M.1 1) (-1 : Int32) (0 : Int64) (1 : Int32) = some w ∧ Rel X' M ∧ X'.1 128 = w.1 ∧ X'.2.1 129 = w.2 := by
  have hn := hL.1
  obtain ⟨X', w, c1, c2, c3⟩ := parts_l hs hnL n 0 gFuel gFuel X 0 (M.1 1) 0 (-1) 0 0 (by omega) (by omega) (gFu _ (by omega)) (gFu _ (by omega)) hL h r (by omega) (by rw [t64_0]; omega) (Or.inl ⟨rfl, rfl, by omega⟩)
  rw [show nI 0 = (0 : Int32) from rfl, show nI (0 + 1) = (1 : Int32) from rfl] at c1 c2
  refine ⟨X', w, ?_, c2, c3⟩
  simp only [fX2_search_now_shelves, xs8 hL, Option.bind_some, c1]
set_option maxHeartbeats 1000000 in
theorem s_parts {X M : GS} (h : Rel X M) (a b : Int32) : St (fX8_parts X a b) (fX9_parts M a b) := by
  obtain ⟨n, hL, hSh, hO⟩ := id h
  have hn := hL.1
  have no : ∀ r : Int32, rf r → fX8_rowRefusal X a = some r → fX9_wanted M a = some r → St (fX8_parts X a b) (fX9_parts M a b) := by
    intro r hr e1 e2
    simp only [fX8_parts, fX8_parts_L15, fX8_parts_L62, fX9_parts, fX9_parts_L42, e1, e2, eq_false (rf_ne hr), ite_self, Option.bind_some, ↓reduceIte, km_1, km_2, km_3, km_4, km_5, km_6, km_7, kn_10, kn_20, kn_21]
    exact s_far h r hr
  rcases ix3 a 8 (by decide) with ha | ⟨s, hs, rfl⟩
  · exact no (-1) (by decide) (x_rowR0 X ha) (m_wantR0 M ha)
  · have e1 := x_rowR hn (hSh s hs) hs
    have e2 := m_wantR (hSh s hs) hs
    rcases rs_m (hSh s hs) with e | e | e
    · rw [e] at e1 e2
      exact no (-3) (by decide) e1 e2
    · obtain ⟨L, r⟩ := rowOf (hSh s hs) e
      have hL' := r.2.2.2.1
      rw [e, show rRow 1 = 0 from rfl] at e1 e2
      have c1 : (nI L < nI n) = (L < n) := nlt_e (by omega) (by omega)
      have c2 : (nI n = (0 : Int32)) = (n = 0) := neq_e (b := 0) (by omega) (by omega)
      by_cases g1 : L < n
      · by_cases b0 : b = 0
        · simp only [fX8_parts, fX8_parts_L15, fX8_parts_L59, fX8_parts_L62, fX9_parts, fX9_parts_L39, fX9_parts_L42, e1, e2, in8' hs, cl8 hs, x_len X hs, x_count hL, hL.2.2.1, r.1, r.2.1, c1, eq_true g1, eq_true b0, Option.bind_some, ↓reduceIte, km_1, km_2, km_3, km_4, km_5, km_6, km_7, kn_10, kn_20, kn_21]
          exact s_far h _ (by decide)
        · simp only [fX8_parts, fX8_parts_L15, fX8_parts_L59, fX8_parts_L62, fX9_parts, fX9_parts_L39, fX9_parts_L42, e1, e2, in8' hs, cl8 hs, x_len X hs, x_count hL, hL.2.2.1, r.1, r.2.1, c1, eq_true g1, eq_false b0, ite_self, Option.bind_some, ↓reduceIte, km_1, km_2, km_3, km_4, km_5, km_6, km_7, kn_10, kn_20, kn_21]
          exact s_far h _ (by decide)
      · by_cases b01 : b = 0 ∨ b = 1
        · have hb0 : (b < 0) = False := eq_false (by rcases b01 with rfl | rfl <;> decide)
          have hb1 : (1 < b) = False := eq_false (by rcases b01 with rfl | rfl <;> decide)
          by_cases g2 : n = 0
          · rcases b01 with rfl | rfl
            all_goals
              simp only [fX8_parts, fX8_parts_L15, fX8_parts_L59, fX8_parts_L62, fX9_parts, fX9_parts_L39, fX9_parts_L42, e1, e2, in8' hs, cl8 hs, x_len X hs, x_count hL, hL.2.2.1, r.1, r.2.1, c1, c2, eq_false g1, eq_true g2, hb0, hb1, Option.bind_some, ↓reduceIte, km_1, km_2, km_3, km_4, km_5, km_6, km_7, kn_10, kn_20, kn_21]
              exact s_far h _ (by decide)
          · obtain ⟨X', w, d1, d2, d3, d4, d5⟩ := parts_0 h hL hs r (by omega) g2
            rcases b01 with rfl | rfl
            all_goals
              simp only [fX8_parts, fX8_parts_L15, fX8_parts_L62, fX9_parts, fX9_parts_L42, fX2_worst, fX2_worstBy, e1, e2, in8' hs, cl8 hs, x_len X hs, x_count hL, hL.2.2.1, r.1, r.2.1, c1, c2, eq_false g1, eq_false g2, hb0, hb1, d1, d2, Option.bind_some, ↓reduceIte, km_1, km_2, km_3, km_4, km_5, km_6, km_7, kn_10, kn_20, kn_21]
            · exact ⟨_, _, rfl, rfl, d4, d3⟩
            · exact ⟨_, _, rfl, rfl, congrArg Int64.toInt32 d5, d3⟩
        · have b0 : (b = 0) = False := eq_false (fun z => b01 (Or.inl z))
          have b1 : (b = 1) = False := eq_false (fun z => b01 (Or.inr z))
          by_cases hb : b < 0
          · simp only [fX8_parts, fX8_parts_L59, fX8_parts_L62, fX9_parts, fX9_parts_L39, fX9_parts_L42, e1, e2, in8' hs, cl8 hs, x_len X hs, x_count hL, hL.2.2.1, r.1, r.2.1, c1, eq_false g1, b0, b1, eq_true hb, Option.bind_some, ↓reduceIte, km_1, km_2, km_3, km_4, km_5, km_6, km_7, kn_10, kn_20, kn_21]
            exact s_far h _ (by decide)
          · have hb1 : (1 < b) = True := eq_true (by
              have z0 : ¬ b = 0 := fun z => b01 (Or.inl z)
              have z1 : ¬ b = 1 := fun z => b01 (Or.inr z)
              rw [tlt, t_0] at hb
              rw [teq, t_0] at z0
              rw [teq, t_1] at z1
              rw [tlt, t_1]
              omega)
            simp only [fX8_parts, fX8_parts_L59, fX8_parts_L62, fX9_parts, fX9_parts_L39, fX9_parts_L42, e1, e2, in8' hs, cl8 hs, x_len X hs, x_count hL, hL.2.2.1, r.1, r.2.1, c1, eq_false g1, b0, b1, eq_false hb, hb1, Option.bind_some, ↓reduceIte, km_1, km_2, km_3, km_4, km_5, km_6, km_7, kn_10, kn_20, kn_21]
            exact s_far h _ (by decide)
    · rw [e] at e1 e2
      exact no (-2) (by decide) e1 e2
