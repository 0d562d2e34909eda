/-! again -/
def wK (k : Nat) : Nat := if k = 0 then 1 else if k = 1 then 2 else if k = 2 then 2 else if k = 4 then 2 else 3
theorem tb3_0 : gTb 3 0 = 1 := by decide +kernel
theorem tb3_1 : gTb 3 1 = 2 := by decide +kernel
theorem tb3_2 : gTb 3 2 = 2 := by decide +kernel
theorem tb3_3 : gTb 3 3 = 3 := by decide +kernel
theorem tb3_4 : gTb 3 4 = 2 := by decide +kernel
theorem tb3_5 : gTb 3 5 = 3 := by decide +kernel
theorem tb3_6 : gTb 3 6 = 3 := by decide +kernel
theorem x_wOf (X : GS) (k : Nat) (hk : k ≤ 6) : fX1_weightOf X (nI k) = some (nI (wK k)) := by
  have h1 : ¬ nI k < 0 := nI_nlt0 (by omega)
  have h2 : ((7 : Int32) ≤ nI k) = False := (nle_e (a := 7) (by omega) (by omega)).trans (eq_false (by omega))
  have h3 : ¬ (nI k < 0 ∨ 7 ≤ (nI k).toNatClampNeg) := nI_inb (by omega) (by decide)
  rw [fX1_weightOf, if_neg h1, if_neg (by rw [h2]; exact id), if_neg h3, nI_clamp (by omega)]
  rcases le6 hk with rfl | rfl | rfl | rfl | rfl | rfl | rfl
  · rw [tb3_0]; rfl
  · rw [tb3_1]; rfl
  · rw [tb3_2]; rfl
  · rw [tb3_3]; rfl
  · rw [tb3_4]; rfl
  · rw [tb3_5]; rfl
  · rw [tb3_6]; rfl
theorem m_w {X M : GS} {n i k : Nat} (h : RLp X M n) (hi : i < n) (hk : k ≤ 6) (e : M.2.2.1 7 i = nI k) : fX9_weight M (nI i) = some (nI (wK k)) := by
  have hn := h.1
  have h3 : ¬ (nI i < 0 ∨ 16 ≤ (nI i).toNatClampNeg) := nI_inb (by omega) (by decide)
  simp only [fX9_weight, if_neg h3]
  rw [nI_clamp (by omega), e]
  rcases le6 hk with rfl | rfl | rfl | rfl | rfl | rfl | rfl <;> rfl
theorem wK_r (k : Nat) : 1 ≤ wK k ∧ wK k ≤ 3 := by
  rw [wK]
  split
  · omega
  · split
    · omega
    · split
      · omega
      · split <;> omega
theorem sumY_s {X M : GS} {n k : Nat} (h : RLp X M n) (hk : k < n) : (sumY M (k + 1)).toInt = (sumY M k).toInt + (mY M k).toInt := by
  have hn := h.1
  have a := sumY_r h k (by omega)
  have b := mY_r h hk
  rw [sumY, tadd _ _ (by omega)]
theorem dY {X M : GS} {n f k : Nat} (h : RLp X M n) (hf : f ≤ n) (hk : k ≤ n) : (sumY M k - sumY M f).toInt = (sumY M k).toInt - (sumY M f).toInt := by
  have hn := h.1
  have a := sumY_r h k hk
  have b := sumY_r h f hf
  exact tsub _ _ (by omega)
theorem again_over {X M : GS} {n f : Nat} (h : RLp X M n) (hf : f ≤ n) (v1 v2 v3 v4 : Int32) : ∀ (d i fu : Nat) (w : Int32), n - i = d → i ≤ n → d < fu → v1.toInt < (sumY M i - sumY M f).toInt → fX8_again_43 fu X v1 v2 v3 v4 (sumY M i - sumY M f) w (nI i) = some (v2, v3) := by
  have hn := h.1
  intro d
  induction d with
  | zero =>
    intro i fu w hd hi hg hv
    obtain ⟨fu, rfl⟩ : ∃ q, fu = q + 1 := ⟨fu - 1, by omega⟩
    have e : (nI n ≤ nI i) = True := (nle_e (by omega) (by omega)).trans (eq_true (by omega))
    rw [fX8_again_43]
    simp only [x_count h, e, Option.bind_some, ↓reduceIte, km_1, km_2, km_3, km_4, km_5, km_6, km_7, kn_10, kn_20, kn_21]
  | succ d ih =>
    intro i fu w hd hi hg hv
    obtain ⟨fu, rfl⟩ : ∃ q, fu = q + 1 := ⟨fu - 1, by omega⟩
    have hin : i < n := by omega
    have e : (nI n ≤ nI i) = False := (nle_e (by omega) (by omega)).trans (eq_false (by omega))
    obtain ⟨k, -, hk, ek⟩ := (h.2.2.2.2.1 i hin).1
    have y1 : sumY M i - sumY M f + mY M i = sumY M (i + 1) - sumY M f := by rw [sumY]; grind
    have d1 := dY h hf (show i ≤ n by omega)
    have d2 := dY h hf (show i + 1 ≤ n by omega)
    have s1 := sumY_s h hin
    have r1 := mY_r h hin
    have o : (v1 < sumY M (i + 1) - sumY M f) = True := eq_true (by rw [tlt]; omega)
    rw [fX8_again_43]
    simp only [x_count h, e, x_yards h hin, xg0 h hin, ek, x_wOf X k hk, y1, o, i_add1, Option.bind_some, ↓reduceIte, km_1, km_2, km_3, km_4, km_5, km_6, km_7, kn_10, kn_20, kn_21]
    exact ih (i + 1) fu _ (by omega) (by omega) (by omega) (by omega)
theorem again_in {X M : GS} {n f : Nat} (h : RLp X M n) (hf : f ≤ n) (v1 : Int32) : ∀ (d i fu fv w : Nat) (v2 v3 : Int32), n - i = d → f ≤ i → i ≤ n → d < fu → d < fv → w ≤ 3 * i → (v2 = -1 → v3 = 0) → ∃ R : Int32 × Int32, fX8_again_43 fu X v1 v2 v3 (nI f) (sumY M i - sumY M f) (nI w) (nI i) = some R ∧ fX9_again_34 fv M v1 v2 v3 (nI f) (nI w) (nI i) = some R ∧ (R.1 = -1 → R.2 = 0) := by
  have hn := h.1
  intro d
  induction d with
  | zero =>
    intro i fu fv w v2 v3 hd hfi hi hg hg2 hw hv
    obtain ⟨fu, rfl⟩ : ∃ q, fu = q + 1 := ⟨fu - 1, by omega⟩
    obtain ⟨fv, rfl⟩ : ∃ q, fv = q + 1 := ⟨fv - 1, by omega⟩
    have e : (nI n ≤ nI i) = True := (nle_e (by omega) (by omega)).trans (eq_true (by omega))
    refine ⟨(v2, v3), ?_, ?_, hv⟩
    · rw [fX8_again_43]
      simp only [x_count h, e, Option.bind_some, ↓reduceIte, km_1, km_2, km_3, km_4, km_5, km_6, km_7, kn_10, kn_20, kn_21]
    · rw [fX9_again_34]
      simp only [h.2.2.1, e, Option.bind_some, ↓reduceIte, km_1, km_2, km_3, km_4, km_5, km_6, km_7, kn_10, kn_20, kn_21]
  | succ d ih =>
    intro i fu fv w v2 v3 hd hfi hi hg hg2 hw hv
    obtain ⟨fu, rfl⟩ : ∃ q, fu = q + 1 := ⟨fu - 1, by omega⟩
    obtain ⟨fv, rfl⟩ : ∃ q, fv = q + 1 := ⟨fv - 1, by omega⟩
    have hin : i < n := by omega
    have e : (nI n ≤ nI i) = False := (nle_e (by omega) (by omega)).trans (eq_false (by omega))
    obtain ⟨k, -, hk, ek⟩ := (h.2.2.2.2.1 i hin).1
    have wr := wK_r k
    have y1 : sumY M i - sumY M f + mY M i = sumY M (i + 1) - sumY M f := by rw [sumY]; grind
    have ym := m_yards h (show f ≤ i + 1 by omega) (show i + 1 ≤ n by omega)
    have hM := m_w h hin hk ek
    by_cases o : v1 < sumY M (i + 1) - sumY M f
    · refine ⟨(v2, v3), ?_, ?_, hv⟩
      · rw [fX8_again_43]
        simp only [x_count h, e, x_yards h hin, xg0 h hin, ek, x_wOf X k hk, y1, eq_true o, i_add1, Option.bind_some, ↓reduceIte, km_1, km_2, km_3, km_4, km_5, km_6, km_7, kn_10, kn_20, kn_21]
        rw [tlt] at o
        exact again_over h hf v1 v2 v3 (nI f) d (i + 1) fu _ (by omega) (by omega) (by omega) o
      · rw [fX9_again_34]
        simp only [h.2.2.1, e, i_add1, ym, eq_true o, Option.bind_some, ↓reduceIte, km_1, km_2, km_3, km_4, km_5, km_6, km_7, kn_10, kn_20, kn_21]
    · have hu : (100 : Int32) * nI f + nI i = nI (100 * f + i) := by rw [show (100 : Int32) = nI 100 from rfl, pk_mul, nI_add]
      have new := ih (i + 1) fu fv (w + wK k) (nI (100 * f + i)) (nI (w + wK k)) (by omega) (by omega) (by omega) (by omega) (by omega) (by omega) (fun z => absurd z (nI_nm1 (by omega)))
      by_cases hv2 : v2 = -1
      · have h3 := hv hv2
        have g : (nI (w + wK k) ≤ v3) = False := by
          rw [h3]
          exact (nle_e (b := 0) (by omega) (by omega)).trans (eq_false (by omega))
        obtain ⟨R, c1, c2, c3⟩ := new
        refine ⟨R, ?_, ?_, c3⟩
        · rw [fX8_again_43]
          simp only [x_count h, e, x_yards h hin, xg0 h hin, ek, x_wOf X k hk, y1, eq_false o, i_add, i_add1, g, hu, Option.bind_some, ↓reduceIte, km_1, km_2, km_3, km_4, km_5, km_6, km_7, kn_10, kn_20, kn_21]
          exact c1
        · rw [fX9_again_34]
          simp only [h.2.2.1, e, i_add, i_add1, ym, eq_false o, hM, eq_true hv2, hu, Option.bind_some, ↓reduceIte, km_1, km_2, km_3, km_4, km_5, km_6, km_7, kn_10, kn_20, kn_21]
          exact c2
      · by_cases g : nI (w + wK k) ≤ v3
        · have g2 : (v3 < nI (w + wK k)) = False := eq_false (by rw [tlt]; rw [tle] at g; omega)
          obtain ⟨R, c1, c2, c3⟩ := ih (i + 1) fu fv (w + wK k) v2 v3 (by omega) (by omega) (by omega) (by omega) (by omega) (by omega) hv
          refine ⟨R, ?_, ?_, c3⟩
          · rw [fX8_again_43]
            simp only [x_count h, e, x_yards h hin, xg0 h hin, ek, x_wOf X k hk, y1, eq_false o, i_add, i_add1, eq_true g, hu, Option.bind_some, ↓reduceIte, km_1, km_2, km_3, km_4, km_5, km_6, km_7, kn_10, kn_20, kn_21]
            exact c1
          · rw [fX9_again_34]
            simp only [h.2.2.1, e, i_add, i_add1, ym, eq_false o, hM, eq_false hv2, g2, hu, Option.bind_some, ↓reduceIte, km_1, km_2, km_3, km_4, km_5, km_6, km_7, kn_10, kn_20, kn_21]
            exact c2
        · have g2 : (v3 < nI (w + wK k)) = True := eq_true (by rw [tlt]; rw [tle] at g; omega)
          obtain ⟨R, c1, c2, c3⟩ := new
          refine ⟨R, ?_, ?_, c3⟩
          · rw [fX8_again_43]
            simp only [x_count h, e, x_yards h hin, xg0 h hin, ek, x_wOf X k hk, y1, eq_false o, i_add, i_add1, eq_false g, hu, Option.bind_some, ↓reduceIte, km_1, km_2, km_3, km_4, km_5, km_6, km_7, kn_10, kn_20, kn_21]
            exact c1
          · rw [fX9_again_34]
            simp only [h.2.2.1, e, i_add, i_add1, ym, eq_false o, hM, eq_false hv2, g2, hu, Option.bind_some, ↓reduceIte, km_1, km_2, km_3, km_4, km_5, km_6, km_7, kn_10, kn_20, kn_21]
            exact c2
theorem again_out {X M : GS} {n : Nat} (h : RLp X M n) (v1 : Int32) : ∀ (d i fu fv : Nat) (v2 v3 : Int32), n - i = d → i ≤ n → d < fu → d < fv → (v2 = -1 → v3 = 0) → ∃ z, fX8_again_21 fu X v1 v2 v3 (nI i) = some z ∧ fX9_again_18 fv M v1 v2 v3 (nI i) = some z := by
  have hn := h.1
  intro d
  induction d with
  | zero =>
    intro i fu fv v2 v3 hd hi hg hg2 hv
    obtain ⟨fu, rfl⟩ : ∃ q, fu = q + 1 := ⟨fu - 1, by omega⟩
    obtain ⟨fv, rfl⟩ : ∃ q, fv = q + 1 := ⟨fv - 1, by omega⟩
    have e : (nI n ≤ nI i) = True := (nle_e (by omega) (by omega)).trans (eq_true (by omega))
    refine ⟨v2, ?_, ?_⟩
    · rw [fX8_again_21]
      simp only [x_count h, e, Option.bind_some, ↓reduceIte, km_1, km_2, km_3, km_4, km_5, km_6, km_7, kn_10, kn_20, kn_21]
    · rw [fX9_again_18]
      simp only [h.2.2.1, e, Option.bind_some, ↓reduceIte, km_1, km_2, km_3, km_4, km_5, km_6, km_7, kn_10, kn_20, kn_21]
  | succ d ih =>
    intro i fu fv v2 v3 hd hi hg hg2 hv
    obtain ⟨fu, rfl⟩ : ∃ q, fu = q + 1 := ⟨fu - 1, by omega⟩
    obtain ⟨fv, rfl⟩ : ∃ q, fv = q + 1 := ⟨fv - 1, by omega⟩
    have e : (nI n ≤ nI i) = False := (nle_e (by omega) (by omega)).trans (eq_false (by omega))
    obtain ⟨R, c1, c2, c3⟩ := again_in h hi v1 (n - i) i gFuel gFuel 0 v2 v3 rfl (by omega) hi (gFu _ (by omega)) (gFu _ (by omega)) (by omega) hv
    rw [show sumY M i - sumY M i = 0 by grind, show nI 0 = (0 : Int32) from rfl] at c1
    rw [show nI 0 = (0 : Int32) from rfl] at c2
    obtain ⟨z, d1, d2⟩ := ih (i + 1) fu fv R.1 R.2 (by omega) (by omega) (by omega) (by omega) c3
    refine ⟨z, ?_, ?_⟩
    · rw [fX8_again_21]
      simp only [x_count h, e, c1, i_add1, Option.bind_some, ↓reduceIte, km_1, km_2, km_3, km_4, km_5, km_6, km_7, kn_10, kn_20, kn_21]
      exact d1
    · rw [fX9_again_18]
      simp only [h.2.2.1, e, c2, i_add1, Option.bind_some, ↓reduceIte, km_1, km_2, km_3, km_4, km_5, km_6, km_7, kn_10, kn_20, kn_21]
      exact d2
theorem s_again {X M : GS} (h : Rel X M) (a : Int32) : St (fX8_again X a) (fX9_again M a) := by
  obtain ⟨n, hL, hSh, hO⟩ := id h
  have hn := hL.1
  obtain ⟨z, c1, c2⟩ := again_out hL a n 0 gFuel gFuel (-1) 0 rfl (by omega) (gFu _ (by omega)) (gFu _ (by omega)) (fun _ => rfl)
  rw [show nI 0 = (0 : Int32) from rfl] at c1 c2
  by_cases g : 0 ≤ a
  · simp only [fX8_again, fX9_again, eq_true g, c1, c2, Option.bind_some, ↓reduceIte, km_1, km_2, km_3, km_4, km_5, km_6, km_7, kn_10, kn_20, kn_21]
    exact ⟨_, _, rfl, rfl, rfl, h⟩
  · simp only [fX8_again, fX9_again, eq_false g, Option.bind_some, ↓reduceIte, km_1, km_2, km_3, km_4, km_5, km_6, km_7, kn_10, kn_20, kn_21]
    exact s_ten h _ (by decide)
