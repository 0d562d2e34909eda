/-! seasons -/
def dv (s : Int32) : Int32 := s * (1103515245 : Int32) + (12345 : Int32)
def du (s : Int32) (k : Nat) : Nat := (dv s).toBitVec.toNat / 2 ^ 16 % k
theorem du_lt (s : Int32) {k : Nat} (h : 0 < k) : du s k < k := Nat.mod_lt _ h
theorem du_e (s : Int32) {k : Nat} (h : 0 < k) (hk : k < 100) : ((dv s).toUInt32 >>> ((16 : Int32).toUInt32 &&& Int32.toUInt32 31)).toInt32 - ((dv s).toUInt32 >>> ((16 : Int32).toUInt32 &&& Int32.toUInt32 31)).toInt32 / nI k * nI k = nI (du s k) := by
  have e : dv s = nI (dv s).toBitVec.toNat := by
    apply Int32.toBitVec_inj.mp
    exact BitVec.eq_of_toNat_eq (pk_tn (dv s).toBitVec.isLt).symm
  have b := (dv s).toBitVec.isLt
  have e1 : ((dv s).toUInt32 >>> ((16 : Int32).toUInt32 &&& Int32.toUInt32 31)).toInt32 = nI ((dv s).toBitVec.toNat / 2 ^ 16) := (congrArg (fun z : Int32 => (z.toUInt32 >>> ((16 : Int32).toUInt32 &&& Int32.toUInt32 31)).toInt32) e).trans (pk_ushrN b 16 16 (by decide +kernel))
  rw [e1]
  exact pk_rem (by omega) h (by omega)
theorem x_draw (X : GS) {k : Nat} (h : 0 < k) (hk : k < 100) : fX3_draw_now X (nI k) = some (nI (du (X.1 3) k), gU1 X 3 (dv (X.1 3))) := by
  have g1 : ((1 : Int32) ≤ nI k) = True := (nle_e (a := 1) (by omega) (by omega)).trans (eq_true (by omega))
  have g2 : (nI k = (0 : Int32)) = False := (neq_e (b := 0) (by omega) (by omega)).trans (eq_false (by omega))
  have e := du_e (X.1 3) h hk
  simp only [fX3_draw_now, g1, g2, gU1_s, Option.bind_some, ↓reduceIte, km_1, km_2, km_3, km_4, km_5, km_6, km_7, kn_10, kn_20, kn_21]
  exact congrArg (fun z => some (z, gU1 X 3 (dv (X.1 3)))) e
theorem m_draw (M : GS) {k : Nat} (h : 0 < k) (hk : k < 100) : fX9_draw M (nI k) = some (nI (du (M.1 4) k), gU1 M 4 (dv (M.1 4))) := by
  have g2 : (nI k = (0 : Int32)) = False := (neq_e (b := 0) (by omega) (by omega)).trans (eq_false (by omega))
  have e := du_e (M.1 4) h hk
  simp only [fX9_draw, g2, gU1_s, Option.bind_some, ↓reduceIte, km_1, km_2, km_3, km_4, km_5, km_6, km_7, kn_10, kn_20, kn_21]
  exact congrArg (fun z => some (z, gU1 M 4 (dv (M.1 4)))) e
theorem Rel.seed {X M : GS} (h : Rel X M) (v : Int32) : Rel (gU1 X 3 v) (gU1 M 4 v) := by
  obtain ⟨n, hL, hSh, hO⟩ := h
  exact ⟨n, ⟨hL.1, hL.2.1, hL.2.2.1, hL.2.2.2.1, hL.2.2.2.2.1, ⟨hL.2.2.2.2.2.1.1, hL.2.2.2.2.2.1.2.1, hL.2.2.2.2.2.1.2.2.1, rfl⟩, hL.2.2.2.2.2.2⟩, hSh, hO⟩
theorem Rel.sd {X M : GS} (h : Rel X M) : X.1 3 = M.1 4 := by
  obtain ⟨n, hL, hSh, hO⟩ := h
  exact hL.2.2.2.2.2.1.2.2.2
/-- BEHIND anew -/
def bn (p q : Nat) : Nat := if p + q = 0 then 0 else if 9999 < p + q - 1 then 9999 else p + q - 1
theorem bn_le (p q : Nat) : bn p q ≤ 9999 := by
  unfold bn
  split
  · omega
  · split <;> omega
theorem bn_x {p q : Nat} (hp : p ≤ 9999) (hq : q < 3) : (if (0 : Int32) < (if (nI p + nI q) - (1 : Int32) < (9999 : Int32) then (nI p + nI q) - (1 : Int32) else (9999 : Int32)) then (if (nI p + nI q) - (1 : Int32) < (9999 : Int32) then (nI p + nI q) - (1 : Int32) else (9999 : Int32)) else (0 : Int32)) = nI (bn p q) := by
  rw [i_add]
  unfold bn
  by_cases h0 : p + q = 0
  · rw [h0]
    rfl
  · obtain ⟨t, ht⟩ : ∃ t, p + q = t + 1 := ⟨p + q - 1, by omega⟩
    rw [if_neg h0, ht, nI_pred]
    have g : (nI t < (9999 : Int32)) = (t < 9999) := nlt_e (b := 9999) (by omega) (by omega)
    have g0 : ((0 : Int32) < nI t) = (0 < t) := nlt_e (a := 0) (by omega) (by omega)
    by_cases h1 : t < 9999
    · simp only [g, eq_true h1, ↓reduceIte, g0]
      by_cases h2 : 0 < t
      · rw [if_pos h2, if_neg (by omega)]
        rfl
      · have e : t = 0 := by omega
        subst e
        rfl
    · simp only [g, eq_false h1, ↓reduceIte]
      by_cases h2 : t = 9999
      · subst h2
        rfl
      · rw [if_pos (show 9999 < t + 1 - 1 by omega)]
        rfl
theorem bn_p {p q : Nat} (hp : p ≤ 9999) (hq : q < 3) (h : p + q ≠ 0) : (nI p + nI q) - (1 : Int32) = nI (p + q - 1) ∧ ((0 : Int32) ≤ nI (p + q - 1)) = True ∧ (nI (p + q - 1) ≤ (9999 : Int32)) = (p + q - 1 ≤ 9999) := by
  obtain ⟨t, ht⟩ : ∃ t, p + q = t + 1 := ⟨p + q - 1, by omega⟩
  rw [i_add, ht, nI_pred]
  exact ⟨rfl, (nle_e (a := 0) (by omega) (by omega)).trans (eq_true (by omega)), nle_e (b := 9999) (by omega) (by omega)⟩
theorem bn_0 : ((0 : Int32) ≤ (nI 0 + nI 0) - (1 : Int32)) = False := by decide +kernel
theorem draw2 {X M : GS} (h : Rel X M) {k : Nat} (h0 : 0 < k) (hk : k < 100) : ∃ d X' M', fX3_draw_now X (nI k) = some (nI d, X') ∧ fX9_draw M (nI k) = some (nI d, M') ∧ d < k ∧ Rel X' M' ∧ M'.1 0 = M.1 0 ∧ X'.2 = X.2 ∧ M'.2 = M.2 := by
  refine ⟨du (M.1 4) k, gU1 X 3 (dv (M.1 4)), gU1 M 4 (dv (M.1 4)), ?_, m_draw M h0 hk, du_lt _ h0, h.seed _, rfl, rfl, rfl⟩
  have e := x_draw X h0 hk
  rw [h.sd] at e
  exact e
theorem seas_x {X X1 X2 X4 : GS} {n i p q b w : Nat} (h2 : X.1 2 = nI n) (hi16 : i < 16) (hp : p ≤ 9999) (hq : q < 3) (hb : b ≤ 9999) (hw : w < 20) (a1 : fX3_draw_now X (nI n) = some (nI i, X1)) (g1 : fX3_get_now X1 (nI i) 2 = some (nI p)) (a2 : fX3_draw_now X1 3 = some (nI q, X2)) (g3 : fX3_get_now (gU3 X2 0 (8 * i + 2) (nI (bn p q))) (nI i) 3 = some (nI b)) (a4 : fX3_draw_now (gU3 X2 0 (8 * i + 2) (nI (bn p q))) 20 = some (nI w, X4)) : fX3_readByDraws_now X = (if w = 0 then (if b < 100 then some X4 else some (gU3 X4 0 (8 * i + 3) (nI b - 100))) else some X4) := by
  have bx := bn_x hp hq
  have w0 : (nI w = (0 : Int32)) = (w = 0) := neq_e (b := 0) (by omega) (by omega)
  have b0 : (nI b < (100 : Int32)) = (b < 100) := nlt_e (b := 100) (by omega) (by omega)
  have p2 := xp2 X2 hi16 (nI (bn p q))
  have p3 := xp3 X4 hi16 (nI b - 100)
  rw [fX3_readByDraws_now, h2]
  clear h2
  generalize fX3_draw_now = D at a1 a2 a4 ⊢
  generalize fX3_get_now = G at g1 g3 ⊢
  generalize fX3_put_now = P at p2 p3 ⊢
  simp only [a1, g1, a2, bx, p2, g3, a4, w0, b0, p3, Option.bind_some]
theorem seas_m {M M1 M2 M4 : GS} {n i p q b w : Nat} (h2 : M.1 0 = nI n) (hi16 : i < 16) (hp : p ≤ 9999) (hq : q < 3) (hb : b ≤ 9999) (hw : w < 20) (b1 : fX9_draw M (nI n) = some (nI i, M1)) (ep : M1.2.2.1 9 i = nI p) (b2 : fX9_draw M1 3 = some (nI q, M2)) (b4 : fX9_draw (gU3 M2 9 i (nI (bn p q))) 20 = some (nI w, M4)) (eb4 : M4.2.2.1 10 i = nI b) (fu : Nat) {v1 v2 : Int32} (hv : (v1 ≤ v2) = False) : fX9_seasons_34 (fu + 1) M v1 v2 = (if w = 0 then (if b < 100 then fX9_seasons_34 fu M4 v1 (v2 + 1) else fX9_seasons_34 fu (gU3 M4 10 i (nI b - 100)) v1 (v2 + 1)) else fX9_seasons_34 fu M4 v1 (v2 + 1)) := by
  have bp := bn_p hp hq
  have w0 : (nI w = (0 : Int32)) = (w = 0) := neq_e (b := 0) (by omega) (by omega)
  have b0 : (nI b < (100 : Int32)) = (b < 100) := nlt_e (b := 100) (by omega) (by omega)
  rw [fX9_seasons_34]
  simp only [hv, h2, b1, in16 hi16, cl16 hi16, b2, ep, Option.bind_some, ↓reduceIte, km_1, km_2, km_3, km_4, km_5, km_6, km_7, kn_10, kn_20, kn_21]
  by_cases hz : p + q = 0
  · have e1 : p = 0 := by omega
    have e2 : q = 0 := by omega
    subst e1
    subst e2
    rw [show nI (bn 0 0) = (0 : Int32) from rfl] at b4
    simp only [bn_0, b4, in16 hi16, cl16 hi16, w0, eb4, b0, Option.bind_some, ↓reduceIte, km_1, km_2, km_3, km_4, km_5, km_6, km_7, kn_10, kn_20, kn_21]
  · obtain ⟨c1, c2, c3⟩ := bp hz
    by_cases hy : p + q - 1 ≤ 9999
    · have e : bn p q = p + q - 1 := by
        unfold bn
        rw [if_neg hz, if_neg (by omega)]
      rw [e] at b4
      simp only [c1, c2, c3, eq_true hy, b4, in16 hi16, cl16 hi16, w0, eb4, b0, Option.bind_some, ↓reduceIte, km_1, km_2, km_3, km_4, km_5, km_6, km_7, kn_10, kn_20, kn_21]
    · have e : bn p q = 9999 := by
        unfold bn
        rw [if_neg hz, if_pos (by omega)]
      rw [e, show nI 9999 = (9999 : Int32) from rfl] at b4
      simp only [c1, c2, c3, eq_false hy, b4, in16 hi16, cl16 hi16, w0, eb4, b0, Option.bind_some, ↓reduceIte, km_1, km_2, km_3, km_4, km_5, km_6, km_7, kn_10, kn_20, kn_21]
theorem seas1 {X M : GS} {n : Nat} (hR : Rel X M) (hL : RLp X M n) (h0 : 0 < n) : ∃ X' M', fX3_readByDraws_now X = some X' ∧ (∀ fu (v1 v2 : Int32), (v1 ≤ v2) = False → fX9_seasons_34 (fu + 1) M v1 v2 = fX9_seasons_34 fu M' v1 (v2 + 1)) ∧ Rel X' M' ∧ M'.1 0 = nI n := by
  have hn := hL.1
  obtain ⟨i, X1, M1, a1, b1, hi, R1, z1, -, -⟩ := draw2 hR h0 (by omega)
  have hi16 : i < 16 := by omega
  have L1 : RLp X1 M1 n := R1.rlp hn (z1.trans hL.2.2.1)
  obtain ⟨p, -, hp, -, ep, -⟩ := fig_r L1 hi
  have g1 := xg2 L1 hi
  rw [ep] at g1
  obtain ⟨q, X2, M2, a2, b2, hq, R2, z2, -, -⟩ := draw2 R1 (k := 3) (by decide) (by decide)
  have L2 : RLp X2 M2 n := R2.rlp hn (z2.trans L1.2.2.1)
  have hr := bn_le p q
  have R3 := ((R2.fig L2 hi (v := nI (bn p q))).1 ⟨bn p q, Nat.zero_le _, hr, rfl⟩).1
  have L3 : RLp (gU3 X2 0 (8 * i + 2) (nI (bn p q))) (gU3 M2 9 i (nI (bn p q))) n := R3.rlp hn L2.2.2.1
  obtain ⟨-, b, -, hb, -, eb⟩ := fig_r L3 hi
  have g3 := xg3 L3 hi
  rw [eb] at g3
  obtain ⟨w, X4, M4, a4, b4, hw, R4, z4, -, y4⟩ := draw2 R3 (k := 20) (by decide) (by decide)
  have L4 : RLp X4 M4 n := R4.rlp hn (z4.trans L3.2.2.1)
  have eb4 : M4.2.2.1 10 i = nI b := by rw [y4]; exact eb
  rw [show nI 3 = (3 : Int32) from rfl] at a2 b2
  rw [show nI 20 = (20 : Int32) from rfl] at a4 b4
  have hx := seas_x hL.2.1 hi16 hp hq hb hw a1 g1 a2 g3 a4
  have hm := fun (fu : Nat) (v1 v2 : Int32) (hv : (v1 ≤ v2) = False) => seas_m hL.2.2.1 hi16 hp hq hb hw b1 ep b2 b4 eb4 fu hv
  by_cases c1 : w = 0
  · by_cases c2 : b < 100
    · simp only [eq_true c1, eq_true c2, ↓reduceIte] at hx hm
      exact ⟨X4, M4, hx, hm, R4, L4.2.2.1⟩
    · simp only [eq_true c1, eq_false c2, ↓reduceIte] at hx hm
      have e : nI b - 100 = nI (b - 100) := pk_sub (a := b) (b := 100) (by omega)
      have R5 := ((R4.fig L4 hi (v := nI (b - 100))).1 ⟨b - 100, Nat.zero_le _, by omega, rfl⟩).2
      rw [e] at hx hm
      exact ⟨_, _, hx, hm, R5, L4.2.2.1⟩
  · simp only [eq_false c1, ↓reduceIte] at hx hm
    exact ⟨X4, M4, hx, hm, R4, L4.2.2.1⟩
theorem seas_l {n m : Nat} (hn : n ≤ 16) (h0 : 0 < n) (hm : m ≤ 60) : ∀ (d i fu fv : Nat) (X M : GS), m - i = d → i ≤ m → d < fu → d < fv → Rel X M → M.1 0 = nI n → ∃ X' M', fX8_seasons_43 fu X (nI m) (nI i) = some X' ∧ fX9_seasons_34 fv M (nI m) (nI i) = some M' ∧ Rel X' M' ∧ M'.1 0 = nI n := by
  intro d
  induction d with
  | zero =>
    intro i fu fv X M hd hi hf hg hR hz
    obtain ⟨fu, rfl⟩ : ∃ q, fu = q + 1 := ⟨fu - 1, by omega⟩
    obtain ⟨fv, rfl⟩ : ∃ q, fv = q + 1 := ⟨fv - 1, by omega⟩
    have e : i = m := by omega
    subst e
    rw [fX8_seasons_43, fX9_seasons_34, if_pos (nI_le (Nat.le_refl _) (by omega)), if_pos (nI_le (Nat.le_refl _) (by omega))]
    exact ⟨X, M, rfl, rfl, hR, hz⟩
  | succ d ih =>
    intro i fu fv X M hd hi hf hg hR hz
    obtain ⟨fu, rfl⟩ : ∃ q, fu = q + 1 := ⟨fu - 1, by omega⟩
    obtain ⟨fv, rfl⟩ : ∃ q, fv = q + 1 := ⟨fv - 1, by omega⟩
    have hlt : ¬ nI m ≤ nI i := nI_ge (show i < m by omega) (by omega)
    obtain ⟨X1, M1, e1, e2, R1, z1⟩ := seas1 hR (hR.rlp hn hz) h0
    rw [fX8_seasons_43, if_neg hlt, e1, e2 fv _ _ (eq_false hlt), i_add1]
    simp only [Option.bind_some]
    exact ih (i + 1) fu fv X1 M1 (by omega) (by omega) (by omega) (by omega) R1 z1
theorem s_seasons {X M : GS} (h : Rel X M) (a : Int32) : St (fX8_seasons X a) (fX9_seasons M a) := by
  obtain ⟨n, hL, hSh, hO⟩ := id h
  have hn := hL.1
  have c0 : (nI n = (0 : Int32)) = (n = 0) := neq_e (b := 0) (by omega) (by omega)
  by_cases h0 : n = 0
  · simp only [fX8_seasons, fX9_seasons, x_count hL, hL.2.2.1, c0, eq_true h0, Option.bind_some, ↓reduceIte, km_1, km_2, km_3, km_4, km_5, km_6, km_7, kn_10, kn_20, kn_21]
    exact s_far h _ (by decide)
  · by_cases ha : 1 ≤ a.toInt
    · obtain ⟨m, hm, rfl, em⟩ := of_nn (x := a) (by omega)
      have c1 : (nI m < (1 : Int32)) = False := (nlt_e (b := 1) (by omega) (by omega)).trans (eq_false (by omega))
      have c2 : (nI m ≤ (60 : Int32)) = (m ≤ 60) := nle_e (b := 60) (by omega) (by omega)
      by_cases h6 : m ≤ 60
      · obtain ⟨X', M', e1, e2, R', z'⟩ := seas_l hn (by omega) h6 m 0 gFuel gFuel X M (by omega) (by omega) (gFu _ (by omega)) (gFu _ (by omega)) h hL.2.2.1
        have L' := R'.rlp hn z'
        rw [show nI 0 = (0 : Int32) from rfl] at e1 e2
        simp only [fX8_seasons, fX9_seasons, x_count hL, hL.2.2.1, c0, eq_false h0, c1, c2, eq_true h6, e1, e2, x_count L', x_rises L' (Nat.le_refl n), m_off L', Option.bind_some, ↓reduceIte, km_1, km_2, km_3, km_4, km_5, km_6, km_7, kn_10, kn_20, kn_21]
        exact ⟨_, _, rfl, rfl, rfl, R'⟩
      · simp only [fX8_seasons, fX8_seasons_L31, fX9_seasons, x_count hL, hL.2.2.1, c0, eq_false h0, c1, c2, eq_false h6, Option.bind_some, ↓reduceIte, km_1, km_2, km_3, km_4, km_5, km_6, km_7, kn_10, kn_20, kn_21]
        exact s_far h _ (by decide)
    · have c1 : (a < (1 : Int32)) = True := eq_true (by rw [tlt]; show a.toInt < 1; omega)
      simp only [fX8_seasons, fX8_seasons_L31, fX9_seasons, x_count hL, hL.2.2.1, c0, eq_false h0, c1, Option.bind_some, ↓reduceIte, km_1, km_2, km_3, km_4, km_5, km_6, km_7, kn_10, kn_20, kn_21]
      exact s_far h _ (by decide)
