/-! told books: judge, closes, done -/
def nA (M : GS) (s i : Nat) : Int32 := (M.2.2.2 19 (160 * s + i)).toInt32
/-- a shelf's row, of both sides -/
def Row (X M : GS) (s L : Nat) : Prop := X.2.2.1 65 s = nI L ∧ M.2.2.1 17 s = nI L ∧ M.2.2.1 15 s = 1 ∧ L ≤ 160 ∧ ∀ i, i < L → X.2.2.2 66 (160 * s + i) = M.2.2.2 19 (160 * s + i)
theorem rowOf {X M : GS} {n s : Nat} (g : RSn X M n s) (e : M.2.2.1 15 s = 1) : ∃ L, Row X M s L := by
  rcases g with g | ⟨k, g⟩ | ⟨o, L, g⟩
  · rw [g.2.1] at e; cases e
  · rw [g.2.2.1] at e; cases e
  · exact ⟨L, g.2.2.2.2.2.1, g.2.2.2.2.2.2.1, e, g.2.1, g.2.2.2.2.2.2.2⟩
theorem x_num {X M : GS} {s L i : Nat} (hs : s < 8) (r : Row X M s L) (hi : i < L) : fX5_numberAt X (nI s) (nI i) = some (nA M s i) := by
  have hL := r.2.2.2.1
  have hE := x_he (n := 0) (M := M) hs hL r.1 (nI i)
  rw [if_pos (by rw [tni _ (by omega)]; omega)] at hE
  have hx : ¬ (nI (160 * s + i) < 0 ∨ 1280 ≤ (nI (160 * s + i)).toNatClampNeg) := nI_inb (by omega) (by decide)
  rw [fX5_numberAt, fX5_elementAt, hE, ixr s i hs (by omega)]
  simp only [Option.bind_some, if_neg (show ¬ (1 : Int32) = 0 by decide), if_neg hx]
  rw [nI_clamp (by omega), r.2.2.2.2 i hi]
  rfl
theorem m_num (M : GS) {s i : Nat} (hs : s < 8) (hi : i < 160) : fX9_intAt M (nI s) (nI i) = some (nA M s i) := by
  have hx : ¬ (nI (160 * s + i) < 0 ∨ 1280 ≤ (nI (160 * s + i)).toNatClampNeg) := nI_inb (by omega) (by decide)
  rw [fX9_intAt, i_160mul, i_add, if_neg hx, nI_clamp (by omega)]
  rfl
theorem nle_e {a b : Nat} (ha : a < 2147483648) (hb : b < 2147483648) : (nI a ≤ nI b) = (a ≤ b) := by
  rw [tle, tni _ ha, tni _ hb]
  exact propext Int.ofNat_le
theorem km_1 : ((-1 : Int32) = 0) = False := by decide +kernel
theorem km_2 : ((-2 : Int32) = 0) = False := by decide +kernel
theorem km_3 : ((-3 : Int32) = 0) = False := by decide +kernel
theorem km_4 : ((-4 : Int32) = 0) = False := by decide +kernel
theorem km_5 : ((-5 : Int32) = 0) = False := by decide +kernel
theorem km_6 : ((-6 : Int32) = 0) = False := by decide +kernel
theorem km_7 : ((-7 : Int32) = 0) = False := by decide +kernel
theorem t64_4 : (4 : Int64).toInt = 4 := by decide +kernel
abbrev rf (r : Int32) : Prop := r = -1 ∨ r = -2 ∨ r = -3 ∨ r = -4 ∨ r = -5 ∨ r = -6 ∨ r = -7
theorem rf_ne {r : Int32} (h : rf r) : r ≠ 0 := by rcases h with rfl | rfl | rfl | rfl | rfl | rfl | rfl <;> decide
set_option maxHeartbeats 4000000 in
theorem bk {X M : GS} {n : Nat} (hn : n ≤ 16) (hSh : ∀ s, s < 8 → RSn X M n s) (a b : Int32) : ∃ r, fX8_bookRefusal X a b = some r ∧ fX9_barsOf M a b = some r ∧ (rf r ∨ (r = 0 ∧ ∃ s m L, a = nI s ∧ b = nI m ∧ s < 8 ∧ m ≤ 16 ∧ 4 * m ≤ L ∧ Row X M s L)) := by
  rcases ix3 a 8 (by decide) with ha | ⟨s, hs, rfl⟩
  · refine ⟨-1, ?_, ?_, Or.inl (by decide)⟩
    · rw [fX8_bookRefusal, x_rowR0 X ha]; rfl
    · rw [fX9_barsOf, m_wantR0 M ha]; rfl
  · have e1 := x_rowR hn (hSh s hs) hs
    have e2 := m_wantR (hSh s hs) hs
    rcases rs_m (hSh s hs) with e | e | e
    · rw [e] at e1 e2
      refine ⟨-3, ?_, ?_, Or.inl (by decide)⟩
      · rw [fX8_bookRefusal, e1]; rfl
      · rw [fX9_barsOf, e2]; rfl
    · obtain ⟨L, r⟩ := rowOf (hSh s hs) e
      have hL := r.2.2.2.1
      rw [e, show rRow 1 = 0 from rfl] at e1 e2
      rw [fX8_bookRefusal, e1, fX9_barsOf, e2, x_len X hs, r.1]
      have hx : ¬ (nI s < 0 ∨ 8 ≤ (nI s).toNatClampNeg) := nI_inb hs (by decide)
      have h4 : nI L / (4 : Int32) = nI (L / 4) := pk_div (d := 4) (by omega) (by decide) (by decide)
      simp only [Option.bind_some, if_pos (show (0 : Int32) = 0 from rfl), if_neg hx]
      rw [nI_clamp (show s < 2 ^ 31 by omega), r.2.1, h4]
      by_cases hb : 0 ≤ b.toInt
      · obtain ⟨m, hm, rfl, em⟩ := of_nn hb
        have e6 : (lg_cmp (4 * (nI m).toInt64) (nI L).toInt64 ≤ 0) = (4 * m ≤ L) := by
          apply propext
          rw [lg_cmp_le, i64le, t64mul _ _ (by rw [t64_4, Int32.toInt_toInt64]; omega), t64_4, Int32.toInt_toInt64, Int32.toInt_toInt64, em, tni _ (by omega)]
          omega
        have e7 : (nI m ≤ nI (L / 4)) = (4 * m ≤ L) := by
          apply propext
          rw [tle, em, tni _ (by omega)]
          omega
        have e8 : ((0 : Int32) ≤ nI m) = True := eq_true (by rw [tle, em, t_0]; omega)
        have e9 : (nI m ≤ (16 : Int32)) = (m ≤ 16) := nle_e (a := m) (b := 16) (by omega) (by omega)
        simp only [e6, e7, e8, e9, if_true]
        by_cases h2 : 4 * m ≤ L
        · simp only [if_pos h2]
          by_cases h3 : m ≤ 16
          · rw [if_pos h3]
            exact ⟨0, rfl, rfl, Or.inr ⟨rfl, s, m, L, rfl, rfl, hs, h3, h2, r⟩⟩
          · rw [if_neg h3]
            exact ⟨-6, rfl, rfl, Or.inl (by decide)⟩
        · simp only [if_neg h2]
          exact ⟨-5, rfl, rfl, Or.inl (by decide)⟩
      · have e8 : ((0 : Int32) ≤ b) = False := eq_false (by rw [tle, t_0]; omega)
        simp only [e8, if_false]
        exact ⟨-4, rfl, rfl, Or.inl (by decide)⟩
    · rw [e] at e1 e2
      refine ⟨-2, ?_, ?_, Or.inl (by decide)⟩
      · rw [fX8_bookRefusal, e1]; rfl
      · rw [fX9_barsOf, e2]; rfl
def okV (r : Nat) (v : Int32) : Prop := (r < 2 → isN v 0 9999) ∧ (2 ≤ r → isN v 1 99)
theorem fitR (X M : GS) {r : Nat} (hr : r < 4) (v : Int32) : ∃ z, fX3_fits X (2 + nI r) v = some z ∧ (r < 2 → fX9_isReading M v = some z) ∧ (2 ≤ r → fX9_isYards M v = some z) ∧ (z = 0 ∨ (z = 1 ∧ okV r v)) := by
  rcases (show r = 0 ∨ r = 1 ∨ r = 2 ∨ r = 3 by omega) with rfl | rfl | rfl | rfl
  · refine ⟨_, fit2 X v, fun _ => m_reading M v, fun h => by omega, ?_⟩
    split
    · next g => exact Or.inr ⟨rfl, fun _ => isN_of g.1 g.2, fun h => by omega⟩
    · exact Or.inl rfl
  · refine ⟨_, fit3 X v, fun _ => m_reading M v, fun h => by omega, ?_⟩
    split
    · next g => exact Or.inr ⟨rfl, fun _ => isN_of g.1 g.2, fun h => by omega⟩
    · exact Or.inl rfl
  · refine ⟨_, fit4 X v, fun h => by omega, fun _ => m_isYards M v, ?_⟩
    split
    · next g => exact Or.inr ⟨rfl, fun h => by omega, fun _ => isN_of g.1 g.2⟩
    · exact Or.inl rfl
  · refine ⟨_, fit5 X v, fun h => by omega, fun _ => m_isYards M v, ?_⟩
    split
    · next g => exact Or.inr ⟨rfl, fun h => by omega, fun _ => isN_of g.1 g.2⟩
    · exact Or.inl rfl
theorem i_4mul (a : Nat) : 4 * nI a = nI (4 * a) := by rw [show (4 : Int32) = nI 4 from rfl, pk_mul]
theorem wrongs {X M : GS} {s m L : Nat} (hs : s < 8) (r : Row X M s L) (hm : 4 * m ≤ L) : ∀ (d i fu : Nat), 4 * m - i = d → i ≤ 4 * m → d < fu → ∃ z, fX8_firstWrong_2 fu X (nI s) (nI m) (nI i) = some z ∧ fX9_wrongIn_2 fu M (nI s) (nI m) (nI i) = some z ∧ (z = -1 → ∀ j, i ≤ j → j < 4 * m → okV (j % 4) (nA M s j)) := by
  have hL := r.2.2.2.1
  intro d
  induction d with
  | zero =>
    intro i fu hd hi hf
    obtain ⟨fu, rfl⟩ : ∃ q, fu = q + 1 := ⟨fu - 1, by omega⟩
    have e : i = 4 * m := by omega
    subst e
    rw [fX8_firstWrong_2, fX9_wrongIn_2, i_4mul, if_pos (nI_le (Nat.le_refl _) (by omega)), if_pos (nI_le (Nat.le_refl _) (by omega))]
    exact ⟨-1, rfl, rfl, fun _ j h1 h2 => by omega⟩
  | succ d ih =>
    intro i fu hd hi hf
    obtain ⟨fu, rfl⟩ : ∃ q, fu = q + 1 := ⟨fu - 1, by omega⟩
    have hlt : i < 4 * m := by omega
    have hr : nI i - nI i / (4 : Int32) * (4 : Int32) = nI (i % 4) := pk_rem (d := 4) (by omega) (by decide) (by decide)
    have hg : ¬ nI (4 * m) ≤ nI i := nI_ge hlt (by omega)
    obtain ⟨z, f1, f2, f3, f4⟩ := fitR X M (r := i % 4) (by omega) (nA M s i)
    obtain ⟨w, g1, g2, g3⟩ := ih (i + 1) fu (by omega) (by omega) (by omega)
    rw [fX8_firstWrong_2, fX9_wrongIn_2, i_4mul, if_neg hg, if_neg hg, x_num hs r (by omega), m_num M hs (by omega), hr, i_add1]
    have h2e : ((2 : Int32) ≤ nI (i % 4)) = (2 ≤ i % 4) := nle_e (a := 2) (b := i % 4) (by omega) (by omega)
    have hT : (if (2 : Int32) ≤ nI (i % 4) then (some (nA M s i)).bind fun u3 => (fX9_isYards M u3).bind fun u5 => if u5 = 0 then some (nI i) else fX9_wrongIn_2 fu M (nI s) (nI m) (nI (i + 1)) else (some (nA M s i)).bind fun u8 => (fX9_isReading M u8).bind fun u10 => if u10 = 0 then some (nI i) else fX9_wrongIn_2 fu M (nI s) (nI m) (nI (i + 1))) = if z = 0 then some (nI i) else fX9_wrongIn_2 fu M (nI s) (nI m) (nI (i + 1)) := by
      by_cases h2 : 2 ≤ i % 4
      · simp only [h2e, if_pos h2, Option.bind_some, f3 h2]
      · simp only [h2e, if_neg h2, Option.bind_some, f2 (show i % 4 < 2 by omega)]
    rw [hT]
    simp only [Option.bind_some, f1]
    rcases f4 with rfl | ⟨rfl, ok⟩
    · refine ⟨nI i, rfl, rfl, fun h => ?_⟩
      rw [teq, tni _ (by omega), t_m1] at h
      omega
    · refine ⟨w, g1, g2, fun h j h1 h2 => ?_⟩
      by_cases e : j = i
      · rw [e]; exact ok
      · exact g3 h j (by omega) h2
theorem wrong0 {X M : GS} {s m L : Nat} (hs : s < 8) (r : Row X M s L) (hm : 4 * m ≤ L) : ∃ z, fX8_firstWrong X (nI s) (nI m) = some z ∧ fX9_wrongIn M (nI s) (nI m) = some z ∧ (z = -1 → ∀ j, j < 4 * m → okV (j % 4) (nA M s j)) := by
  have hL := r.2.2.2.1
  obtain ⟨z, e1, e2, e3⟩ := wrongs hs r hm (4 * m) 0 gFuel (by omega) (by omega) (gFu _ (by omega))
  exact ⟨z, e1, e2, fun h j hj => e3 h j (Nat.zero_le j) hj⟩
theorem s_judge {X M : GS} (h : Rel X M) (a b : Int32) : St (fX8_judge X a b) (fX9_judge M a b) := by
  obtain ⟨n, hL, hSh, hO⟩ := id h
  obtain ⟨r, e1, e2, hr⟩ := bk hL.1 hSh a b
  rw [fX8_judge, fX9_judge, e1, e2]
  rcases hr with hr | ⟨rfl, s, m, L, rfl, rfl, hs, hm, h4, R⟩
  · simp only [Option.bind_some, if_neg (rf_ne hr)]
    exact s_ten h r hr
  · obtain ⟨z, w1, w2, -⟩ := wrong0 hs R h4
    simp only [Option.bind_some, if_pos (show (0 : Int32) = 0 from rfl), w1, w2]
    exact ⟨_, _, rfl, rfl, rfl, h⟩
theorem close_l {X M : GS} {s m L : Nat} (hs : s < 8) (r : Row X M s L) (hm : 4 * m ≤ L) : ∀ (d i fu : Nat) (w : Int32), m - i = d → i ≤ m → d < fu → ∃ z, fX8_closes_43 fu X (nI s) (nI m) w (nI i) = some z ∧ fX9_closes_23 fu M (nI s) (nI m) w (nI i) = some z := by
  have hL := r.2.2.2.1
  intro d
  induction d with
  | zero =>
    intro i fu w hd hi hf
    obtain ⟨fu, rfl⟩ : ∃ q, fu = q + 1 := ⟨fu - 1, by omega⟩
    have e : i = m := by omega
    subst e
    rw [fX8_closes_43, fX9_closes_23, if_pos (nI_le (Nat.le_refl _) (by omega)), if_pos (nI_le (Nat.le_refl _) (by omega))]
    exact ⟨w, rfl, rfl⟩
  | succ d ih =>
    intro i fu w hd hi hf
    obtain ⟨fu, rfl⟩ : ∃ q, fu = q + 1 := ⟨fu - 1, by omega⟩
    have hlt : i < m := by omega
    have hg : ¬ nI m ≤ nI i := nI_ge hlt (by omega)
    rw [fX8_closes_43, fX9_closes_23, if_neg hg, if_neg hg, i_4mul, i_add1, i_add1, x_num hs r (by omega), x_num hs r (by omega), m_num M hs (by omega), m_num M hs (by omega)]
    exact ih (i + 1) fu _ (by omega) (by omega) (by omega)
theorem s_closes {X M : GS} (h : Rel X M) (a b : Int32) : St (fX8_closes X a b) (fX9_closes M a b) := by
  obtain ⟨n, hL, hSh, hO⟩ := id h
  obtain ⟨r, e1, e2, hr⟩ := bk hL.1 hSh a b
  rw [fX8_closes, fX9_closes, fX9_barsRight, e1, e2]
  rcases hr with hr | ⟨rfl, s, m, L, rfl, rfl, hs, hm, h4, R⟩
  · simp only [Option.bind_some, if_neg (rf_ne hr), fX8_closes_L24]
    exact s_far h r hr
  · obtain ⟨z, w1, w2, -⟩ := wrong0 hs R h4
    simp only [w1, w2, Option.bind_some, ↓reduceIte, km_1, km_2, km_3, km_4, km_5, km_6, km_7, kn_10, kn_20, kn_21, fX8_closes_L24]
    by_cases hz : z = -1
    · obtain ⟨c, c1, c2⟩ := close_l hs R h4 m 0 gFuel 0 (by omega) (by omega) (gFu _ (by omega))
      rw [show nI 0 = (0 : Int32) from rfl] at c1 c2
      simp only [eq_true hz, c1, c2, Option.bind_some, ↓reduceIte, km_1, km_2, km_3, km_4, km_5, km_6, km_7, kn_10, kn_20, kn_21]
      exact ⟨_, _, rfl, rfl, rfl, h⟩
    · simp only [eq_false hz, Option.bind_some, ↓reduceIte, km_1, km_2, km_3, km_4, km_5, km_6, km_7, kn_10, kn_20, kn_21]
      exact s_far h _ (by decide)
theorem Row.add {X M : GS} {s L : Nat} (h : Row X M s L) (n : Nat) (a1 a2 a3 a4 a5 a6 : Int32) : Row (aX X n a1 a2 a3 a4 a5 a6) (aM M n a1 a2 a3 a4 a5 a6) s L := h
theorem i_add2 (a : Nat) : nI a + 2 = nI (a + 2) := i_add a 2
theorem i_add3 (a : Nat) : nI a + 3 = nI (a + 3) := i_add a 3
theorem i_add4 (a : Nat) : nI a + 4 = nI (a + 4) := i_add a 4
theorem done_l {s m L : Nat} (hs : s < 8) (hm : 4 * m ≤ L) : ∀ (d i n fu : Nat) (X M : GS), m - i = d → i ≤ m → d < fu → n + d ≤ 16 → RLp X M n → (∀ s, s < 8 → RSn X M n s) → RO X M → Row X M s L → (∀ j, j < 4 * m → okV (j % 4) (nA M s j)) → ∃ X' M', fX8_done_55 fu X (nI s) (nI m) (nI i) = some X' ∧ fX9_done_38 fu M (nI s) (nI m) (nI (4 * i)) = some M' ∧ RLp X' M' (n + d) ∧ (∀ s, s < 8 → RSn X' M' (n + d) s) ∧ RO X' M' := by
  intro d
  induction d with
  | zero =>
    intro i n fu X M hd hi hf hn hL hSh hO r ok
    have hL' := r.2.2.2.1
    obtain ⟨fu, rfl⟩ : ∃ q, fu = q + 1 := ⟨fu - 1, by omega⟩
    have e : i = m := by omega
    subst e
    rw [fX8_done_55, fX9_done_38, i_4mul, if_pos (nI_le (Nat.le_refl _) (by omega)), if_pos (nI_le (Nat.le_refl _) (by omega))]
    exact ⟨X, M, rfl, rfl, hL, hSh, hO⟩
  | succ d ih =>
    intro i n fu X M hd hi hf hn hL hSh hO r ok
    have hL' := r.2.2.2.1
    obtain ⟨fu, rfl⟩ : ∃ q, fu = q + 1 := ⟨fu - 1, by omega⟩
    have hlt : i < m := by omega
    have hg : ¬ nI m ≤ nI i := nI_ge hlt (by omega)
    have hg2 : ¬ nI (4 * m) ≤ nI (4 * i) := nI_ge (by omega) (by omega)
    have o1 := ok (4 * i) (by omega)
    have o2 := ok (4 * i + 1) (by omega)
    have o3 := ok (4 * i + 2) (by omega)
    have o4 := ok (4 * i + 3) (by omega)
    have z0 : isN (0 : Int32) 0 6 := ⟨0, by decide, by decide, rfl⟩
    have z1 : isN (0 : Int32) 0 9 := ⟨0, by decide, by decide, rfl⟩
    obtain ⟨X', M', g1, g2, g3⟩ := ih (i + 1) (n + 1) fu _ _ (by omega) (by omega) (by omega) (by omega) (hL.add (by omega) z0 z1 (o1.1 (by omega)) (o2.1 (by omega)) (o3.2 (by omega)) (o4.2 (by omega))) (fun s hs => (hSh s hs).mono (by omega)) (hO.add) (r.add n 0 0 (nA M s (4 * i)) (nA M s (4 * i + 1)) (nA M s (4 * i + 2)) (nA M s (4 * i + 3))) (fun j hj => ok j hj)
    refine ⟨X', M', ?_, ?_, by rw [show n + (d + 1) = n + 1 + d by omega]; exact g3⟩
    · rw [fX8_done_55, if_neg hg, i_4mul, i_add1, i_add1, i_add2, i_add3, x_num hs r (by omega), x_num hs r (by omega), x_num hs r (by omega), x_num hs r (by omega)]
      simp only [Option.bind_some, x_add hL (show n < 16 by omega)]
      exact g1
    · rw [fX9_done_38, i_4mul, if_neg hg2, i_add1, i_add2, i_add3, i_add4, m_num M hs (by omega), m_num M hs (by omega), m_num M hs (by omega), m_num M hs (by omega)]
      simp only [Option.bind_some, m_add hL (show n < 16 by omega)]
      exact g2
theorem s_done {X M : GS} (h : Rel X M) (a b : Int32) : St (fX8_done X a b) (fX9_done M a b) := by
  obtain ⟨n, hL, hSh, hO⟩ := id h
  have hn := hL.1
  obtain ⟨r, e1, e2, hr⟩ := bk hL.1 hSh a b
  rw [fX8_done, fX9_done, fX9_barsRight, e1, e2]
  rcases hr with hr | ⟨rfl, s, m, L, rfl, rfl, hs, hm, h4, R⟩
  · simp only [Option.bind_some, if_neg (rf_ne hr), fX8_done_L24, fX8_done_L42, fX9_done_L25]
    exact s_no h r hr
  · obtain ⟨z, w1, w2, ok⟩ := wrong0 hs R h4
    simp only [w1, w2, Option.bind_some, ↓reduceIte, km_1, km_2, km_3, km_4, km_5, km_6, km_7, kn_10, kn_20, kn_21, fX8_done_L24, fX8_done_L42, fX9_done_L25]
    by_cases hz : z = -1
    · have h9 : (nI (n + m) ≤ (16 : Int32)) = (n + m ≤ 16) := nle_e (a := n + m) (b := 16) (by omega) (by omega)
      by_cases hr : n + m ≤ 16
      · obtain ⟨X', M', c1, c2, c3, c4, c5⟩ := done_l hs h4 m 0 n gFuel X M (by omega) (by omega) (gFu _ (by omega)) hr hL hSh hO R (ok hz)
        rw [show nI 0 = (0 : Int32) from rfl] at c1
        rw [show nI (4 * 0) = (0 : Int32) from rfl] at c2
        simp only [eq_true hz, x_room hL (show m ≤ 16 by omega), hL.2.2.1, i_add, h9, eq_true hr, c1, c2, x_count c3, Option.bind_some, ↓reduceIte, km_1, km_2, km_3, km_4, km_5, km_6, km_7, kn_10, kn_20, kn_21]
        exact ⟨_, _, rfl, rfl, c3.2.2.1.symm, n + m, c3, c4, c5⟩
      · simp only [eq_true hz, x_room hL (show m ≤ 16 by omega), hL.2.2.1, i_add, h9, eq_false hr, Option.bind_some, ↓reduceIte, km_1, km_2, km_3, km_4, km_5, km_6, km_7, kn_10, kn_20, kn_21]
        exact s_no h _ (by decide)
    · simp only [eq_false hz, Option.bind_some, ↓reduceIte, km_1, km_2, km_3, km_4, km_5, km_6, km_7, kn_10, kn_20, kn_21]
      exact s_no h _ (by decide)
