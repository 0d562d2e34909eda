/-! big: all slips -/
def pl : Nat → Nat | 0 => 0 | k + 1 => 10 ^ k
theorem le4 {k : Nat} (h : k ≤ 4) : k = 0 ∨ k = 1 ∨ k = 2 ∨ k = 3 ∨ k = 4 := by omega
theorem pl_s {k : Nat} (hk : k ≤ 4) : nI (pl (k + 1)) / (10 : Int32) = nI (pl k) := by
  rcases le4 hk with rfl | rfl | rfl | rfl | rfl <;> decide +kernel
theorem pl_r {k : Nat} (hk : k ≤ 4) : 1 ≤ pl (k + 1) ∧ pl (k + 1) ≤ 10000 ∧ (1 ≤ k → 2 ≤ pl (k + 1)) := by
  rcases le4 hk with rfl | rfl | rfl | rfl | rfl <;> decide
theorem dg {w p : Nat} (hw : w < 2147483648) (h0 : 0 < p) (hp : p < 2147483648) : (nI w / nI p) - (nI w / nI p) / (10 : Int32) * (10 : Int32) = nI (w / p % 10) := by
  have e : nI w / nI p = nI (w / p) := pk_div hw h0 hp
  rw [e]
  exact pk_rem (d := 10) (Nat.lt_of_le_of_lt (Nat.div_le_self w p) hw) (by decide) (by decide)
theorem l4 {o : Int32} {n i r w : Nat} (hi : i < n) (hr : r ≤ 1) (hw : w ≤ 9999) : ∀ (k fu fv : Nat) (X M : GS) (c : Nat), k ≤ 4 → k < fu → k < fv → BG o X M n i r c → c + k ≤ 9000 → ∃ X' M', fX7_slipsOf_now_4 fu X (nI w) (nI (pl k)) = some X' ∧ fX9_slipsOf_34 fv M (nI i) (nI r) (nI w) 0 (nI (pl k)) = some M' ∧ BG o X' M' n i r (c + k) := by
  intro k
  induction k with
  | zero =>
    intro fu fv X M c hk hf hg h hc
    obtain ⟨fu, rfl⟩ : ∃ q, fu = q + 1 := ⟨fu - 1, by omega⟩
    obtain ⟨fv, rfl⟩ : ∃ q, fv = q + 1 := ⟨fv - 1, by omega⟩
    exact ⟨X, M, rfl, rfl, h⟩
  | succ k ih =>
    intro fu fv X M c hk hf hg h hc
    obtain ⟨fu, rfl⟩ : ∃ q, fu = q + 1 := ⟨fu - 1, by omega⟩
    obtain ⟨fv, rfl⟩ : ∃ q, fv = q + 1 := ⟨fv - 1, by omega⟩
    have p := pl_r (show k ≤ 4 by omega)
    have s := pl_s (show k ≤ 4 by omega)
    have d := dg (w := w) (p := pl (k + 1)) (by omega) (by omega) (by omega)
    have g1 : (nI (pl (k + 1)) < (1 : Int32)) = False := (nlt_e (b := 1) (by omega) (by omega)).trans (eq_false (by omega))
    have g2 : (nI (pl (k + 1)) = (0 : Int32)) = False := (neq_e (b := 0) (by omega) (by omega)).trans (eq_false (by omega))
    have g3 : (nI (pl (k + 1)) ≤ (0 : Int32)) = False := (nle_e (b := 0) (by omega) (by omega)).trans (eq_false (by omega))
    rw [fX7_slipsOf_now_4, fX9_slipsOf_34]
    simp only [g1, g2, g3, d, s, kn_01, Option.bind_some, ↓reduceIte, km_1, km_2, km_3, km_4, km_5, km_6, km_7, kn_10, kn_20, kn_21]
    by_cases h6 : nI (w / pl (k + 1) % 10) = 6
    · obtain ⟨X1, M1, a1, a2, a3⟩ := cons h hi hr (by omega) 0 (nI w + 3 * nI (pl (k + 1)))
      obtain ⟨X', M', b1, b2, b3⟩ := ih fu fv X1 M1 (c + 1) (by omega) (by omega) (by omega) a3 (by omega)
      rw [if_pos h6, if_pos h6, a1, a2]
      exact ⟨X', M', b1, b2, by rw [show c + (k + 1) = c + 1 + k by omega]; exact b3⟩
    · obtain ⟨X', M', b1, b2, b3⟩ := ih fu fv X M c (by omega) (by omega) (by omega) h (by omega)
      rw [if_neg h6, if_neg h6]
      exact ⟨X', M', b1, b2, b3.go (Sb.rf _) (Mb.rf _) rfl rfl rfl rfl rfl (b3.2.2.2.2.2.2.2.2.mono (by omega))⟩
theorem l43 {o : Int32} {n i r w : Nat} (hi : i < n) (hr : r ≤ 1) (hw : w ≤ 9999) : ∀ (k fu fv : Nat) (X M : GS) (c : Nat), k ≤ 4 → k < fu → k < fv → BG o X M n i r c → c + k ≤ 9000 → ∃ X' M', fX7_slipsOf_now_43 fu X (nI w) (nI (pl k)) = some X' ∧ fX9_slipsOf_34 fv M (nI i) (nI r) (nI w) 1 (nI (pl k)) = some M' ∧ BG o X' M' n i r (c + k) := by
  intro k
  induction k with
  | zero =>
    intro fu fv X M c hk hf hg h hc
    obtain ⟨fu, rfl⟩ : ∃ q, fu = q + 1 := ⟨fu - 1, by omega⟩
    obtain ⟨fv, rfl⟩ : ∃ q, fv = q + 1 := ⟨fv - 1, by omega⟩
    exact ⟨X, M, rfl, rfl, h⟩
  | succ k ih =>
    intro fu fv X M c hk hf hg h hc
    obtain ⟨fu, rfl⟩ : ∃ q, fu = q + 1 := ⟨fu - 1, by omega⟩
    obtain ⟨fv, rfl⟩ : ∃ q, fv = q + 1 := ⟨fv - 1, by omega⟩
    have p := pl_r (show k ≤ 4 by omega)
    have s := pl_s (show k ≤ 4 by omega)
    have d := dg (w := w) (p := pl (k + 1)) (by omega) (by omega) (by omega)
    have g1 : (nI (pl (k + 1)) < (1 : Int32)) = False := (nlt_e (b := 1) (by omega) (by omega)).trans (eq_false (by omega))
    have g2 : (nI (pl (k + 1)) = (0 : Int32)) = False := (neq_e (b := 0) (by omega) (by omega)).trans (eq_false (by omega))
    have g3 : (nI (pl (k + 1)) ≤ (0 : Int32)) = False := (nle_e (b := 0) (by omega) (by omega)).trans (eq_false (by omega))
    rw [fX7_slipsOf_now_43, fX9_slipsOf_34]
    simp only [g1, g2, g3, d, s, Option.bind_some, ↓reduceIte, km_1, km_2, km_3, km_4, km_5, km_6, km_7, kn_10, kn_20, kn_21]
    by_cases h6 : nI (w / pl (k + 1) % 10) = 9
    · obtain ⟨X1, M1, a1, a2, a3⟩ := cons h hi hr (by omega) 1 (nI w - 3 * nI (pl (k + 1)))
      obtain ⟨X', M', b1, b2, b3⟩ := ih fu fv X1 M1 (c + 1) (by omega) (by omega) (by omega) a3 (by omega)
      rw [if_pos h6, if_pos h6, a1, a2]
      exact ⟨X', M', b1, b2, by rw [show c + (k + 1) = c + 1 + k by omega]; exact b3⟩
    · obtain ⟨X', M', b1, b2, b3⟩ := ih fu fv X M c (by omega) (by omega) (by omega) h (by omega)
      rw [if_neg h6, if_neg h6]
      exact ⟨X', M', b1, b2, b3.go (Sb.rf _) (Mb.rf _) rfl rfl rfl rfl rfl (b3.2.2.2.2.2.2.2.2.mono (by omega))⟩
theorem l81 {o : Int32} {n i r w : Nat} (hi : i < n) (hr : r ≤ 1) (hw : w ≤ 9999) : ∀ (k fu fv : Nat) (X M : GS) (c : Nat), k ≤ 3 → k < fu → k < fv → BG o X M n i r c → c + k ≤ 9000 → ∃ X' M', fX7_slipsOf_now_81 fu X (nI w) (nI (pl k)) = some X' ∧ fX9_slipsOf_122 fv M (nI i) (nI r) (nI w) (nI (pl (k + 1))) = some M' ∧ BG o X' M' n i r (c + k) := by
  intro k
  induction k with
  | zero =>
    intro fu fv X M c hk hf hg h hc
    obtain ⟨fu, rfl⟩ : ∃ q, fu = q + 1 := ⟨fu - 1, by omega⟩
    obtain ⟨fv, rfl⟩ : ∃ q, fv = q + 1 := ⟨fv - 1, by omega⟩
    exact ⟨X, M, rfl, rfl, h⟩
  | succ k ih =>
    intro fu fv X M c hk hf hg h hc
    obtain ⟨fu, rfl⟩ : ∃ q, fu = q + 1 := ⟨fu - 1, by omega⟩
    obtain ⟨fv, rfl⟩ : ∃ q, fv = q + 1 := ⟨fv - 1, by omega⟩
    have p := pl_r (show k ≤ 4 by omega)
    have p2 := pl_r (show k + 1 ≤ 4 by omega)
    have s := pl_s (show k ≤ 4 by omega)
    have s2 := pl_s (show k + 1 ≤ 4 by omega)
    have t10 : pl (k + 1 + 1) = pl (k + 1) * 10 := by
      show 10 ^ (k + 1) = 10 ^ k * 10
      rw [Nat.pow_succ]
    have d := dg (w := w) (p := pl (k + 1)) (by omega) (by omega) (by omega)
    have d2 := dg (w := w) (p := pl (k + 1 + 1)) (by omega) (by omega) (by omega)
    have e10 : nI (pl (k + 1 + 1)) = nI (pl (k + 1)) * 10 := by
      rw [t10, show (10 : Int32) = nI 10 from rfl, pk_mul]
    have dh : ((nI w / nI (pl (k + 1))) / (10 : Int32)) = nI w / nI (pl (k + 1 + 1)) := by
      have q1 : nI w / nI (pl (k + 1)) = nI (w / pl (k + 1)) := pk_div (by omega) (by omega) (by omega)
      have q2 : nI w / nI (pl (k + 1 + 1)) = nI (w / pl (k + 1 + 1)) := pk_div (by omega) (by omega) (by omega)
      rw [q1, q2, t10, ← Nat.div_div_eq_div_mul]
      exact pk_div (d := 10) (Nat.lt_of_le_of_lt (Nat.div_le_self w _) (by omega)) (by decide) (by decide)
    have d' := d
    rw [dh] at d'
    have g1 : (nI (pl (k + 1)) < (1 : Int32)) = False := (nlt_e (b := 1) (by omega) (by omega)).trans (eq_false (by omega))
    have g2 : (nI (pl (k + 1)) = (0 : Int32)) = False := (neq_e (b := 0) (by omega) (by omega)).trans (eq_false (by omega))
    have g3 : (nI (pl (k + 1 + 1)) ≤ (1 : Int32)) = False := (nle_e (b := 1) (by omega) (by omega)).trans (eq_false (by have := p2.2.2 (by omega); omega))
    have g4 : (nI (pl (k + 1 + 1)) = (0 : Int32)) = False := (neq_e (b := 0) (by omega) (by omega)).trans (eq_false (by omega))
    rw [fX7_slipsOf_now_81, fX9_slipsOf_122]
    simp only [g1, g2, g3, g4, dh, d', d2, s, s2, Option.bind_some, ↓reduceIte, km_1, km_2, km_3, km_4, km_5, km_6, km_7, kn_10, kn_20, kn_21]
    by_cases h6 : nI (w / pl (k + 1 + 1) % 10) = nI (w / pl (k + 1) % 10)
    · obtain ⟨X', M', b1, b2, b3⟩ := ih fu fv X M c (by omega) (by omega) (by omega) h (by omega)
      rw [if_pos h6, if_pos h6]
      exact ⟨X', M', b1, b2, b3.go (Sb.rf _) (Mb.rf _) rfl rfl rfl rfl rfl (b3.2.2.2.2.2.2.2.2.mono (by omega))⟩
    · obtain ⟨X1, M1, a1, a2, a3⟩ := cons h hi hr (by omega) 2 (nI w + (((nI (w / pl (k + 1) % 10)) - (nI (w / pl (k + 1 + 1) % 10))) * 9) * nI (pl (k + 1)))
      obtain ⟨X', M', b1, b2, b3⟩ := ih fu fv X1 M1 (c + 1) (by omega) (by omega) (by omega) a3 (by omega)
      have ev : (nI w + (nI (w / pl (k + 1) % 10) - nI (w / pl (k + 1 + 1) % 10)) * nI (pl (k + 1 + 1)) + (nI (w / pl (k + 1 + 1) % 10) - nI (w / pl (k + 1) % 10)) * nI (pl (k + 1))) = (nI w + (((nI (w / pl (k + 1) % 10)) - (nI (w / pl (k + 1 + 1) % 10))) * 9) * nI (pl (k + 1))) := by
        rw [e10]
        grind
      rw [if_neg h6, if_neg h6, ev, a1, a2]
      exact ⟨X', M', b1, b2, by rw [show c + (k + 1) = c + 1 + k by omega]; exact b3⟩
theorem slipsOf {o : Int32} {X M : GS} {n i r w c : Nat} (hi : i < n) (hr : r ≤ 1) (hw : w ≤ 9999) (h : BG o X M n i r c) (hc : c ≤ 8000) : ∃ X' M', fX7_slipsOf_now X (nI w) = some X' ∧ BG o X' M' n i r (c + 13) ∧ ∃ M1 M2 M3, fX9_slipsOf_23 gFuel M (nI i) (nI r) (nI w) 0 = some M1 ∧ fX9_slipsOf_122 gFuel M1 (nI i) (nI r) (nI w) 1000 = some M2 ∧ fX9_slips M2 (nI i) (nI r) 3 (nI w - 100) = some M3 ∧ fX9_slips M3 (nI i) (nI r) 4 (nI w + 100) = some M' := by
  obtain ⟨fq, hq, hq2⟩ : ∃ q, gFuel = q + 1 + 1 + 1 ∧ 1000 < q := ⟨99997, rfl, by decide⟩
  obtain ⟨X1, A1, a1, a2, a3⟩ := l4 hi hr hw 4 gFuel gFuel X M c (by omega) (gFu _ (by omega)) (gFu _ (by omega)) h (by omega)
  obtain ⟨X2, A2, b1, b2, b3⟩ := l43 hi hr hw 4 gFuel gFuel X1 A1 (c + 4) (by omega) (gFu _ (by omega)) (gFu _ (by omega)) a3 (by omega)
  obtain ⟨X3, A3, c1, c2, c3⟩ := l81 hi hr hw 3 gFuel gFuel X2 A2 (c + 4 + 4) (by omega) (gFu _ (by omega)) (gFu _ (by omega)) b3 (by omega)
  obtain ⟨X4, A4, d1, d2, d3⟩ := cons c3 hi hr (by omega) 3 (nI w - 100)
  obtain ⟨X5, A5, e1, e2, e3⟩ := cons d3 hi hr (by omega) 4 (nI w + 100)
  rw [show nI (pl 4) = (1000 : Int32) from by decide +kernel] at a1 a2 b1 b2
  rw [show nI (pl 3) = (100 : Int32) from by decide +kernel] at c1
  rw [show nI (pl (3 + 1)) = (1000 : Int32) from by decide +kernel] at c2
  refine ⟨X5, A5, ?_, by rw [show c + 13 = c + 4 + 4 + 3 + 1 + 1 by omega]; exact e3, A2, A3, A4, ?_, c2, d2, e2⟩
  · simp only [fX7_slipsOf_now, a1, b1, c1, d1, e1, Option.bind_some]
  · have k1 : ((2 : Int32) ≤ 0) = False := by decide +kernel
    have k2 : ((2 : Int32) ≤ 1) = False := by decide +kernel
    have k3 : ((2 : Int32) ≤ 2) = True := by decide +kernel
    rw [show fX9_slipsOf_23 gFuel M = fX9_slipsOf_23 (fq + 1 + 1 + 1) M by rw [← hq], fX9_slipsOf_23]
    simp only [k1, a2, Option.bind_some, ↓reduceIte, km_1, km_2, km_3, km_4, km_5, km_6, km_7, kn_10, kn_20, kn_21]
    rw [show (0 : Int32) + 1 = 1 from by decide +kernel, fX9_slipsOf_23]
    simp only [k2, b2, Option.bind_some, ↓reduceIte, km_1, km_2, km_3, km_4, km_5, km_6, km_7, kn_10, kn_20, kn_21]
    rw [show (1 : Int32) + 1 = 2 from by decide +kernel, fX9_slipsOf_23]
    simp only [k3, Option.bind_some, ↓reduceIte, km_1, km_2, km_3, km_4, km_5, km_6, km_7, kn_10, kn_20, kn_21]
theorem fig_r {X M : GS} {n i : Nat} (h : RLp X M n) (hi : i < n) : ∃ a b, a ≤ 9999 ∧ b ≤ 9999 ∧ M.2.2.1 9 i = nI a ∧ M.2.2.1 10 i = nI b := by
  obtain ⟨-, -, ⟨a, -, ha, ea⟩, ⟨b, -, hb, eb⟩, -⟩ := h.2.2.2.2.1 i hi
  exact ⟨a, b, ha, hb, ea, eb⟩
theorem big_l {o : Int32} {n : Nat} : ∀ (d i fu fv c : Nat) (X M : GS), n - i = d → i ≤ n → d < fu → d < fv → RLp X M n → Rel X M → sumR M n = o → Cn X M c → c ≤ 27 * i → ∃ X' M', fX7_search_now_16 fu X o (nI i) = some X' ∧ fX9_big_24 fv M (nI i) = some M' ∧ Rel X' M' ∧ Cn X' M' 500 := by
  intro d
  induction d with
  | zero =>
    intro i fu fv c X M hd hi hf hg hL hR hS hC hc
    have hn := hL.1
    obtain ⟨fu, rfl⟩ : ∃ q, fu = q + 1 := ⟨fu - 1, by omega⟩
    obtain ⟨fv, rfl⟩ : ∃ q, fv = q + 1 := ⟨fv - 1, by omega⟩
    have e : i = n := by omega
    subst e
    have g : (nI i ≤ nI i) = True := (nle_e (by omega) (by omega)).trans (eq_true (by omega))
    refine ⟨X, M, ?_, ?_, hR, hC.mono (by omega)⟩
    · rw [fX7_search_now_16]
      simp only [x_count hL, g, Option.bind_some, ↓reduceIte, km_1, km_2, km_3, km_4, km_5, km_6, km_7, kn_10, kn_20, kn_21]
    · rw [fX9_big_24]
      simp only [hL.2.2.1, g, Option.bind_some, ↓reduceIte, km_1, km_2, km_3, km_4, km_5, km_6, km_7, kn_10, kn_20, kn_21]
  | succ d ih =>
    intro i fu fv c X M hd hi hf hg hL hR hS hC hc
    have hn := hL.1
    obtain ⟨fu, rfl⟩ : ∃ q, fu = q + 1 := ⟨fu - 1, by omega⟩
    obtain ⟨fv, rfl⟩ : ∃ q, fv = q + 1 := ⟨fv - 1, by omega⟩
    have hin : i < n := by omega
    have g : (nI n ≤ nI i) = False := (nle_e (by omega) (by omega)).trans (eq_false (by omega))
    obtain ⟨a, b, ha, hb, ea, eb⟩ := fig_r hL hin
    have i16 := in16 (show i < 16 by omega)
    have c16 := cl16 (show i < 16 by omega)
    have s1 : Sb X (gU1 X 101 (nI i)) := Sb.u1 X _ (by omega)
    have s2 : Sb X (gU1 (gU1 X 101 (nI i)) 102 (M.2.2.1 9 i)) := s1.tr (Sb.u1 _ _ (by omega))
    have s3 : Sb X (gU1 (gU1 (gU1 X 101 (nI i)) 102 (M.2.2.1 9 i)) 103 (M.2.2.1 10 i)) := s2.tr (Sb.u1 _ _ (by omega))
    have s5 : Sb X (gU1 (gU1 (gU1 (gU1 (gU1 X 101 (nI i)) 102 (M.2.2.1 9 i)) 103 (M.2.2.1 10 i)) 104 (o - mR M i)) 105 0) := s3.tr ((Sb.u1 _ _ (by omega)).tr (Sb.u1 _ _ (by omega)))
    have x2 := xg2 (hL.b s1 (Mb.rf M)) hin
    have x3 := xg3 (hL.b s2 (Mb.rf M)) hin
    have x4 := x_rise (hL.b s3 (Mb.rf M)) hin
    have B0 : BG o (gU1 (gU1 (gU1 (gU1 (gU1 X 101 (nI i)) 102 (M.2.2.1 9 i)) 103 (M.2.2.1 10 i)) 104 (o - mR M i)) 105 0) M n i 0 c := ⟨hL.b s5 (Mb.rf M), hR.b s5 (Mb.rf M), rfl, rfl, rfl, rfl, rfl, hS, hC⟩
    obtain ⟨X1, M1, a1, a2, N1, N2, N3, a3, a4, a5, a6⟩ := slipsOf hin (by omega) ha B0 (by omega)
    obtain ⟨X2, M2, b1, b2, b3⟩ := cons a2 hin (by omega) (by omega) 5 (X1.1 103)
    have s6 : Sb X2 (gU1 X2 105 1) := Sb.u1 X2 _ (by omega)
    have B1 : BG o (gU1 X2 105 1) M2 n i 1 (c + 13 + 1) := by
      obtain ⟨y1, y2, y3, y4, y5, y6, y7, y8, y9⟩ := b3
      exact ⟨y1.b s6 (Mb.rf M2), y2.b s6 (Mb.rf M2), y3, y4, y5, y6, rfl, y8, y9⟩
    obtain ⟨a', b', ha', hb', ea', eb'⟩ := fig_r B1.1 hin
    obtain ⟨X3, M3, c1, c2, P1, P2, P3, c3, c4, c5, c6⟩ := slipsOf hin (by omega) hb' B1 (by omega)
    obtain ⟨X', M', d1, d2, d3⟩ := ih (i + 1) fu fv (c + 13 + 1 + 13) X3 M3 (by omega) (by omega) (by omega) (by omega) c2.1 c2.2.1 c2.2.2.2.2.2.2.2.1 c2.2.2.2.2.2.2.2.2 (by omega)
    have h103 : X1.1 103 = M1.2.2.1 10 i := a2.2.2.2.2.1
    have h103' : (gU1 X2 105 1).1 103 = nI b' := B1.2.2.2.2.1.trans eb'
    rw [show nI 0 = (0 : Int32) from rfl] at a3 a4 a5 a6 b2
    rw [show nI 1 = (1 : Int32) from rfl] at c3 c4 c5 c6
    refine ⟨X', M', ?_, ?_, d3⟩
    · rw [fX7_search_now_16]
      simp only [x_count hL, g, x2, x3, x4, Option.bind_some, ↓reduceIte, km_1, km_2, km_3, km_4, km_5, km_6, km_7, kn_10, kn_20, kn_21]
      rw [show (gU1 (gU1 (gU1 (gU1 (gU1 X 101 (nI i)) 102 (M.2.2.1 9 i)) 103 (M.2.2.1 10 i)) 104 (o - mR M i)) 105 0).1 102 = nI a from ea, a1]
      simp only [Option.bind_some, b1, h103', c1, i_add1]
      exact d1
    · have m1 : fX9_slipsOf M (nI i) 0 = some M2 := by
        simp only [fX9_slipsOf, i16, c16, ea, a3, a4, a5, a6, ← h103, b2, Option.bind_some, ↓reduceIte, km_1, km_2, km_3, km_4, km_5, km_6, km_7, kn_10, kn_20, kn_21]
      have m2 : fX9_slipsOf M2 (nI i) 1 = some M3 := by
        simp only [fX9_slipsOf, i16, c16, eb', c3, c4, c5, c6, Option.bind_some, ↓reduceIte, km_1, km_2, km_3, km_4, km_5, km_6, km_7, kn_10, kn_20, kn_21]
      rw [fX9_big_24]
      simp only [hL.2.2.1, g, m1, m2, i_add1, Option.bind_some, ↓reduceIte, km_1, km_2, km_3, km_4, km_5, km_6, km_7, kn_10, kn_20, kn_21]
      exact d2
set_option maxHeartbeats 1000000 in
theorem s_big {X M : GS} (h : Rel X M) (a : Int32) : St (fX8_big X a) (fX9_big M a) := by
  obtain ⟨n, hL, hSh, hO⟩ := id h
  have hn := hL.1
  by_cases g1 : a < -1
  · simp only [fX8_big, fX9_big, eq_true g1, Option.bind_some, ↓reduceIte, km_1, km_2, km_3, km_4, km_5, km_6, km_7, kn_10, kn_20, kn_21]
    exact s_no h _ (by decide)
  · by_cases g2 : a ≤ 3
    · have s0 : Sb X (gU1 X 96 0) := Sb.u1 X _ (by omega)
      have m0 : Mb M (gU1 M 32 0) := Mb.u1 M _ (by omega)
      have L0 := hL.b s0 m0
      have o1 := x_rises (hL.b s0 (Mb.rf M)) (Nat.le_refl n)
      have o2 : sumR (gU1 M 32 0) n = sumR M n := sumR_c n (fun j _ => mR_b m0 j)
      obtain ⟨X', M', c1, c2, c3, q, q1, q2, q3, q4⟩ := big_l n 0 gFuel gFuel 0 (gU1 X 96 0) (gU1 M 32 0) (by omega) (by omega) (gFu _ (by omega)) (gFu _ (by omega)) L0 (h.b s0 m0) o2 ⟨0, by omega, rfl, rfl, fun z => absurd rfl z⟩ (by omega)
      rw [show nI 0 = (0 : Int32) from rfl] at c1 c2
      have e1 : fX7_search_now X = some X' := by
        rw [fX7_search_now, x_count L0]
        simp only [Option.bind_some, o1, c1]
      by_cases a1 : a = -1
      · simp only [fX8_big, fX9_big, eq_false g1, eq_true g2, eq_true a1, e1, c2, fX7_found, Option.bind_some, ↓reduceIte, km_1, km_2, km_3, km_4, km_5, km_6, km_7, kn_10, kn_20, kn_21]
        exact ⟨_, _, rfl, rfl, q2.trans q3.symm, c3⟩
      · have e0 : (nI q = (0 : Int32)) = (q = 0) := neq_e (b := 0) (by omega) (by omega)
        by_cases h0 : q = 0
        · simp only [fX8_big, fX9_big, eq_false g1, eq_true g2, eq_false a1, e1, c2, fX7_found, q2, q3, e0, eq_true h0, Option.bind_some, ↓reduceIte, km_1, km_2, km_3, km_4, km_5, km_6, km_7, kn_10, kn_20, kn_21]
          exact s_no c3 _ (by decide)
        · obtain ⟨r1, r2, r3, r4⟩ := q4 h0
          simp only [fX8_big, fX9_big, eq_false g1, eq_true g2, eq_false a1, e1, c2, fX7_found, fX7_firstOf, q2, q3, e0, eq_false h0, Option.bind_some, ↓reduceIte, km_1, km_2, km_3, km_4, km_5, km_6, km_7, kn_10, kn_20, kn_21]
          by_cases b0 : a = 0
          · rw [if_pos b0, if_pos b0]
            exact ⟨_, _, rfl, rfl, r1, c3⟩
          · rw [if_neg b0, if_neg b0]
            by_cases b1 : a = 1
            · rw [if_pos b1, if_pos b1]
              exact ⟨_, _, rfl, rfl, r2, c3⟩
            · rw [if_neg b1, if_neg b1]
              by_cases b2 : a = 2
              · rw [if_pos b2, if_pos b2]
                exact ⟨_, _, rfl, rfl, r3, c3⟩
              · rw [if_neg b2, if_neg b2]
                exact ⟨_, _, rfl, rfl, r4, c3⟩
    · simp only [fX8_big, fX9_big, eq_false g1, eq_false g2, Option.bind_some, ↓reduceIte, km_1, km_2, km_3, km_4, km_5, km_6, km_7, kn_10, kn_20, kn_21]
      exact s_no h _ (by decide)
