/-! drop, and what shelves forget; rose -/
theorem nlt_e {a b : Nat} (ha : a < 2147483648) (hb : b < 2147483648) : (nI a < nI b) = (a < b) := by
  rw [tlt, tni _ ha, tni _ hb]
  exact propext Int.ofNat_lt
theorem neq_e {a b : Nat} (ha : a < 2147483648) (hb : b < 2147483648) : (nI a = nI b) = (a = b) := by
  rw [teq, tni _ ha, tni _ hb]
  exact propext Int.ofNat_inj
theorem in8 {s : Nat} (hs : s < 8) : (nI s < 0 ∨ 8 ≤ (nI s).toNatClampNeg) = False := eq_false (nI_inb hs (by decide))
theorem cl8 {s : Nat} (hs : s < 8) : (nI s).toNatClampNeg = s := nI_clamp (by omega)
theorem in8' {s : Nat} (hs : s < 8) : (nI s < 0 ∨ 8 ≤ s) = False := by
  have q := in8 hs
  rw [cl8 hs] at q
  exact q
theorem kn_21' : ((2 : Int32) = 2) = True := by decide +kernel
theorem forget_l {m N : Nat} (hm : m ≤ 16) (hN : N ≤ 16) : ∀ (d i fu fv : Nat) (X M : GS), 8 - i = d → i ≤ 8 → d < fu → d < fv → M.1 0 = nI m → (∀ s, s < i → RSn X M m s) → (∀ s, i ≤ s → s < 8 → RSn X M N s) → ∃ X' M', fX5_forgetFrom_2 fu X (nI m) (nI i) = some X' ∧ fX9_forgets_2 fv M (nI i) = some M' ∧ (∀ s, s < 8 → RSn X' M' m s) ∧ X'.1 = X.1 ∧ (∀ k, k ≠ 64 → k ≠ 65 → X'.2.2.1 k = X.2.2.1 k) ∧ M'.1 = M.1 ∧ ∀ k, k ≠ 15 → M'.2.2.1 k = M.2.2.1 k := by
  intro d
  induction d with
  | zero =>
    intro i fu fv X M hd hi hf hg h0 h1 h2
    obtain ⟨fu, rfl⟩ : ∃ q, fu = q + 1 := ⟨fu - 1, by omega⟩
    obtain ⟨fv, rfl⟩ : ∃ q, fv = q + 1 := ⟨fv - 1, by omega⟩
    have e : i = 8 := by omega
    subst e
    exact ⟨X, M, rfl, rfl, h1, rfl, fun _ _ _ => rfl, rfl, fun _ _ => rfl⟩
  | succ d ih =>
    intro i fu fv X M hd hi hf hg h0 h1 h2
    obtain ⟨fu, rfl⟩ : ∃ q, fu = q + 1 := ⟨fu - 1, by omega⟩
    obtain ⟨fv, rfl⟩ : ∃ q, fv = q + 1 := ⟨fv - 1, by omega⟩
    have hi8 : i < 8 := by omega
    have g8 : ((8 : Int32) ≤ nI i) = False := (nle_e (a := 8) (b := i) (by omega) (by omega)).trans (eq_false (by omega))
    have eS := x_setup hN (h2 i (Nat.le_refl i) hi8) hi8
    have keep : RSn X M m i → ∃ X' M', fX5_forgetFrom_2 fu X (nI m) (nI (i + 1)) = some X' ∧ fX9_forgets_2 fv M (nI (i + 1)) = some M' ∧ (∀ s, s < 8 → RSn X' M' m s) ∧ X'.1 = X.1 ∧ (∀ k, k ≠ 64 → k ≠ 65 → X'.2.2.1 k = X.2.2.1 k) ∧ M'.1 = M.1 ∧ ∀ k, k ≠ 15 → M'.2.2.1 k = M.2.2.1 k := fun g => ih (i + 1) fu fv X M (by omega) (by omega) (by omega) (by omega) h0 (fun s hs => by
      by_cases e : s = i
      · rw [e]; exact g
      · exact h1 s (by omega)) (fun s h3 h4 => h2 s (by omega) h4)
    rcases h2 i (Nat.le_refl i) hi8 with g | ⟨k, g⟩ | g
    · rw [g.2.1] at eS
      simp only [fX5_forgetFrom_2, fX9_forgets_2, g8, eS, in8' hi8, cl8 hi8, g.2.1, i_add1, kn_02, Option.bind_some, ↓reduceIte, km_1, km_2, km_3, km_4, km_5, km_6, km_7, kn_10, kn_20, kn_21]
      exact keep (Or.inl g)
    · rw [g.2.2.1] at eS
      have hk := g.1
      have e1 : (nI k < nI m) = (k < m) := nlt_e (by omega) (by omega)
      by_cases hkm : k < m
      · simp only [fX5_forgetFrom_2, fX9_forgets_2, g8, eS, in8' hi8, cl8 hi8, g.2.1, g.2.2.1, g.2.2.2.1, h0, e1, eq_true hkm, i_add1, Option.bind_some, ↓reduceIte, km_1, km_2, km_3, km_4, km_5, km_6, km_7, kn_10, kn_20, kn_21]
        exact keep (Or.inr (Or.inl ⟨k, hkm, g.2⟩))
      · have e3 : fX5_holdSetUp X (nI i) (-1) = some (gU3 (gU3 X 64 i (-1)) 65 i 0) := by
          simp only [fX5_holdSetUp, x_has X hi8, in8' hi8, cl8 hi8, Option.bind_some, ↓reduceIte, km_1, km_2, km_3, km_4, km_5, km_6, km_7, kn_10, kn_20, kn_21]
        obtain ⟨X', M', f1, f2, f3, f4, f5, f6, f7⟩ := ih (i + 1) fu fv (gU3 (gU3 X 64 i (-1)) 65 i 0) (gU3 M 15 i 0) (by omega) (by omega) (by omega) (by omega) h0 (fun s hs => by
          by_cases e : s = i
          · subst e
            refine Or.inl ?_
            simp (disch := omega) only [gU1_s, gU1_n, gU1_2, gU2_1, gU2_s, gU2_n, gU2_3, gU3_1, gU3_2, gU3_s, gU3_n, gU3_4, gU4_1, gU4_2, gU4_3, gU4_s, gU4_n, gA3_1, gA3_2, gA3_s, gA3_n, gA3_4, gA4_1, gA4_3, gA4_s, gA4_n, upd_i, if_no, ↓reduceIte, and_self]
          · refine (h1 s (by omega)).congr ?_ ?_ ?_ ?_ ?_ ?_ (fun i hi => ?_) (fun i hi => ?_)
            all_goals simp (disch := omega) only [gU1_s, gU1_n, gU1_2, gU2_1, gU2_s, gU2_n, gU2_3, gU3_1, gU3_2, gU3_s, gU3_n, gU3_4, gU4_1, gU4_2, gU4_3, gU4_s, gU4_n, gA3_1, gA3_2, gA3_s, gA3_n, gA3_4, gA4_1, gA4_3, gA4_s, gA4_n, upd_i, if_no, ↓reduceIte]) (fun s h3 h4 => by
          refine (h2 s (by omega) h4).congr ?_ ?_ ?_ ?_ ?_ ?_ (fun i hi => ?_) (fun i hi => ?_)
          all_goals simp (disch := omega) only [gU1_s, gU1_n, gU1_2, gU2_1, gU2_s, gU2_n, gU2_3, gU3_1, gU3_2, gU3_s, gU3_n, gU3_4, gU4_1, gU4_2, gU4_3, gU4_s, gU4_n, gA3_1, gA3_2, gA3_s, gA3_n, gA3_4, gA4_1, gA4_3, gA4_s, gA4_n, upd_i, if_no, ↓reduceIte])
        refine ⟨X', M', ?_, ?_, f3, f4, fun k h1 h2 => ?_, f6, fun k h1 => ?_⟩
        · simp only [fX5_forgetFrom_2, g8, eS, in8' hi8, cl8 hi8, g.2.1, e1, eq_false hkm, e3, i_add1, Option.bind_some, ↓reduceIte, km_1, km_2, km_3, km_4, km_5, km_6, km_7, kn_10, kn_20, kn_21]
          exact f1
        · simp only [fX9_forgets_2, g8, in8' hi8, cl8 hi8, g.2.2.1, g.2.2.2.1, h0, e1, eq_false hkm, i_add1, Option.bind_some, ↓reduceIte, km_1, km_2, km_3, km_4, km_5, km_6, km_7, kn_10, kn_20, kn_21]
          exact f2
        · rw [f5 k h1 h2]
          simp (disch := omega) only [gU1_s, gU1_n, gU1_2, gU2_1, gU2_s, gU2_n, gU2_3, gU3_1, gU3_2, gU3_s, gU3_n, gU3_4, gU4_1, gU4_2, gU4_3, gU4_s, gU4_n, gA3_1, gA3_2, gA3_s, gA3_n, gA3_4, gA4_1, gA4_3, gA4_s, gA4_n]
        · rw [f7 k h1]
          simp (disch := omega) only [gU1_s, gU1_n, gU1_2, gU2_1, gU2_s, gU2_n, gU2_3, gU3_1, gU3_2, gU3_s, gU3_n, gU3_4, gU4_1, gU4_2, gU4_3, gU4_s, gU4_n, gA3_1, gA3_2, gA3_s, gA3_n, gA3_4, gA4_1, gA4_3, gA4_s, gA4_n]
    · obtain ⟨o, L, g⟩ := g
      rw [g.2.2.2.1] at eS
      simp only [fX5_forgetFrom_2, fX9_forgets_2, g8, eS, in8' hi8, cl8 hi8, g.2.2.2.1, i_add1, kn_12, Option.bind_some, ↓reduceIte, km_1, km_2, km_3, km_4, km_5, km_6, km_7, kn_10, kn_20, kn_21]
      exact keep (Or.inr (Or.inr ⟨o, L, g⟩))
theorem forgets {X M : GS} {m N : Nat} (hN : N ≤ 16) (hL : RLp X M m) (hSh : ∀ s, s < 8 → RSn X M N s) (hO : RO X M) : ∃ X' M', fX5_forgetFrom X (nI m) = some X' ∧ fX9_forgets M = some M' ∧ X'.1 = X.1 ∧ M'.1 = M.1 ∧ Rel X' M' := by
  obtain ⟨X', M', f1, f2, f3, f4, f5, f6, f7⟩ := forget_l hL.1 hN 8 0 gFuel gFuel X M rfl (by omega) (gFu _ (by omega)) (gFu _ (by omega)) hL.2.2.1 (fun s hs => by omega) (fun s _ hs => hSh s hs)
  rw [show nI 0 = (0 : Int32) from rfl] at f1 f2
  refine ⟨X', M', ?_, ?_, f4, f6, m, ?_, f3, ?_⟩
  · rw [fX5_forgetFrom, f1]; rfl
  · rw [fX9_forgets, f2]; rfl
  · simp only [RLp, RFn, MRn, RTn, MTn] at hL ⊢
    rw [f4, f6, f5 0 (by decide) (by decide), f5 1 (by decide) (by decide), f7 7 (by decide), f7 8 (by decide), f7 9 (by decide), f7 10 (by decide), f7 11 (by decide), f7 12 (by decide), f7 13 (by decide), f7 14 (by decide)]
    exact hL
  · simp only [RO] at hO ⊢
    rw [f4, f6, f5 56 (by decide) (by decide), f5 144 (by decide) (by decide), f5 16 (by decide) (by decide), f5 17 (by decide) (by decide), f7 6 (by decide), f7 37 (by decide), f7 30 (by decide), f7 21 (by decide), f7 22 (by decide)]
    exact hO
theorem s_drop {X M : GS} (h : Rel X M) : St (fX8_drop X) (fX9_drop M) := by
  obtain ⟨n, hL, hSh, hO⟩ := id h
  have hn := hL.1
  have e0 : (nI n = (0 : Int32)) = (n = 0) := neq_e (b := 0) (by omega) (by omega)
  by_cases h0 : n = 0
  · simp only [fX8_drop, fX9_drop, x_count hL, hL.2.2.1, e0, eq_true h0, Option.bind_some, ↓reduceIte, km_1, km_2, km_3, km_4, km_5, km_6, km_7, kn_10, kn_20, kn_21]
    exact s_no h _ (by decide)
  · have e1 : nI n - 1 = nI (n - 1) := by
      obtain ⟨k, rfl⟩ : ∃ k, n = k + 1 := ⟨n - 1, by omega⟩
      exact nI_pred k
    have e2 : (nI n ≤ (0 : Int32)) = False := (nle_e (b := 0) (by omega) (by omega)).trans (eq_false (by omega))
    have hL' : RLp (gU1 X 2 (nI (n - 1))) (gU1 M 0 (nI (n - 1))) (n - 1) := ⟨by omega, rfl, rfl, fun i hi => hL.2.2.2.1 i (by omega), fun i hi => hL.2.2.2.2.1 i (by omega), hL.2.2.2.2.2.1, hL.2.2.2.2.2.2⟩
    obtain ⟨X', M', f1, f2, f3, f4, f5⟩ := forgets hn hL' hSh hO
    have e3 : fX3_dropLast_now X = some (gU1 X 2 (nI (n - 1))) := by
      simp only [fX3_dropLast_now, hL.2.1, e2, e1, Option.bind_some, ↓reduceIte, km_1, km_2, km_3, km_4, km_5, km_6, km_7, kn_10, kn_20, kn_21]
    have e4 : fX3_count_now (gU1 X 2 (nI (n - 1))) = some (nI (n - 1)) := rfl
    have e5 : fX3_count_now X' = some (nI (n - 1)) := by rw [fX3_count_now, f3]; rfl
    simp only [fX8_drop, fX9_drop, x_count hL, hL.2.2.1, e0, eq_false h0, e1, e3, e4, e5, f1, f2, Option.bind_some, ↓reduceIte, km_1, km_2, km_3, km_4, km_5, km_6, km_7, kn_10, kn_20, kn_21]
    exact ⟨_, _, rfl, rfl, by rw [f4]; rfl, f5⟩
theorem pairs {X M : GS} {n : Nat} (hn : n ≤ 16) (hSh : ∀ s, s < 8 → RSn X M n s) (a b : Int32) :
    (∃ p q L1 L2, a = nI p ∧ b = nI q ∧ p < 8 ∧ q < 8 ∧ Row X M p L1 ∧ Row X M q L2 ∧ fX8_pairRefusal X a b = some 0) ∨
    (fX8_pairRefusal X a b = some (-1) ∧ (fX9_isShelf M a = some 0 ∨ (fX9_isShelf M a = some 1 ∧ fX9_isShelf M b = some 0))) ∨
    (∃ p q, a = nI p ∧ b = nI q ∧ p < 8 ∧ q < 8 ∧ fX8_pairRefusal X a b = some (-2) ∧ (M.2.2.1 15 p = 2 ∨ ((M.2.2.1 15 p = 0 ∨ M.2.2.1 15 p = 1) ∧ M.2.2.1 15 q = 2))) ∨
    (∃ p q, a = nI p ∧ b = nI q ∧ p < 8 ∧ q < 8 ∧ fX8_pairRefusal X a b = some (-3) ∧ (M.2.2.1 15 q = 0 ∨ M.2.2.1 15 q = 1) ∧ (M.2.2.1 15 p = 0 ∨ (M.2.2.1 15 p = 1 ∧ M.2.2.1 15 q = 0))) := by
  rcases ix3 a 8 (by decide) with ha | ⟨p, hp, rfl⟩
  · obtain ⟨r, er, hr⟩ := x_rowAny hn hSh b
    refine Or.inr (Or.inl ⟨?_, Or.inl (m_is0 M ha)⟩)
    rw [x_pair (x_rowR0 X ha) er]
    rcases hr with rfl | rfl | rfl | rfl <;> rfl
  · rcases ix3 b 8 (by decide) with hb | ⟨q, hq, rfl⟩
    · obtain ⟨r, er, hr⟩ := x_rowAny hn hSh (nI p)
      refine Or.inr (Or.inl ⟨?_, Or.inr ⟨m_is M hp, m_is0 M hb⟩⟩)
      rw [x_pair er (x_rowR0 X hb)]
      rcases hr with rfl | rfl | rfl | rfl <;> rfl
    · have eP := x_pair (x_rowR hn (hSh p hp) hp) (x_rowR hn (hSh q hq) hq)
      rcases rs_m (hSh p hp) with e1 | e1 | e1 <;> rcases rs_m (hSh q hq) with e2 | e2 | e2 <;> rw [e1, e2] at eP
      · exact Or.inr (Or.inr (Or.inr ⟨p, q, rfl, rfl, hp, hq, eP, Or.inl e2, Or.inl e1⟩))
      · exact Or.inr (Or.inr (Or.inr ⟨p, q, rfl, rfl, hp, hq, eP, Or.inr e2, Or.inl e1⟩))
      · exact Or.inr (Or.inr (Or.inl ⟨p, q, rfl, rfl, hp, hq, eP, Or.inr ⟨Or.inl e1, e2⟩⟩))
      · exact Or.inr (Or.inr (Or.inr ⟨p, q, rfl, rfl, hp, hq, eP, Or.inl e2, Or.inr ⟨e1, e2⟩⟩))
      · obtain ⟨L1, r1⟩ := rowOf (hSh p hp) e1
        obtain ⟨L2, r2⟩ := rowOf (hSh q hq) e2
        exact Or.inl ⟨p, q, L1, L2, rfl, rfl, hp, hq, r1, r2, eP⟩
      · exact Or.inr (Or.inr (Or.inl ⟨p, q, rfl, rfl, hp, hq, eP, Or.inr ⟨Or.inr e1, e2⟩⟩))
      · exact Or.inr (Or.inr (Or.inl ⟨p, q, rfl, rfl, hp, hq, eP, Or.inl e1⟩))
      · exact Or.inr (Or.inr (Or.inl ⟨p, q, rfl, rfl, hp, hq, eP, Or.inl e1⟩))
      · exact Or.inr (Or.inr (Or.inl ⟨p, q, rfl, rfl, hp, hq, eP, Or.inl e1⟩))
def ap (M : GS) (s t i : Nat) : Int64 := (nA M t i).toInt64 - (nA M s i).toInt64
theorem m_apart (M : GS) {s t i : Nat} (hs : s < 8) (ht : t < 8) (hi : i < 160) : fX9_apart M (nI s) (nI t) (nI i) = some (ap M s t i) := by
  simp only [fX9_apart, m_num M hs hi, m_num M ht hi, Option.bind_some, ap]
theorem alike_l {X M : GS} {s t L1 L2 m l : Nat} (hs : s < 8) (ht : t < 8) (r1 : Row X M s L1) (r2 : Row X M t L2) (h1 : m ≤ L1) (h2 : m ≤ L2) (hl : l < m) (v : Int32) : ∀ (d i fu fv : Nat), m - i = d → i ≤ m → d < fu → d < fv → ∃ z, fX5_differAlike_37 fu X (nI s) (nI t) (nI m) v (ap M s t l) (nI i) = some z ∧ fX9_areAlike_15 fv M (nI s) (nI t) (nI m) v (nI l) (nI i) = some z := by
  have hL := r1.2.2.2.1
  intro d
  induction d with
  | zero =>
    intro i fu fv hd hi hf hg
    obtain ⟨fu, rfl⟩ : ∃ q, fu = q + 1 := ⟨fu - 1, by omega⟩
    obtain ⟨fv, rfl⟩ : ∃ q, fv = q + 1 := ⟨fv - 1, by omega⟩
    have e : i = m := by omega
    subst e
    rw [fX5_differAlike_37, fX9_areAlike_15, if_pos (nI_le (Nat.le_refl _) (by omega)), if_pos (nI_le (Nat.le_refl _) (by omega))]
    exact ⟨1, rfl, rfl⟩
  | succ d ih =>
    intro i fu fv hd hi hf hg
    obtain ⟨fu, rfl⟩ : ∃ q, fu = q + 1 := ⟨fu - 1, by omega⟩
    obtain ⟨fv, rfl⟩ : ∃ q, fv = q + 1 := ⟨fv - 1, by omega⟩
    have hlt : ¬ nI m ≤ nI i := nI_ge (show i < m by omega) (by omega)
    obtain ⟨z, e1, e2⟩ := ih (i + 1) fu fv (by omega) (by omega) (by omega) (by omega)
    rw [fX5_differAlike_37, fX9_areAlike_15, if_neg hlt, if_neg hlt, x_num ht r2 (by omega), x_num hs r1 (by omega), m_apart M hs ht (by omega), m_apart M hs ht (by omega), i_add1]
    by_cases g : nI i = v
    · rw [if_pos g, if_pos g]
      exact ⟨z, e1, e2⟩
    · rw [if_neg g, if_neg g]
      show ∃ z, (if lg_cmp (ap M s t i) (ap M s t l) = 0 then _ else _) = some z ∧ (if lg_cmp (ap M s t i) (ap M s t l) = 0 then _ else _) = some z
      split
      · exact ⟨z, e1, e2⟩
      · exact ⟨0, rfl, rfl⟩
theorem lg_self (x : Int64) : (lg_cmp x x = 0) = True := eq_true ((lg_cmp_eq x x).mpr rfl)
theorem are0 (M : GS) {s t m : Nat} (hs : s < 8) (ht : t < 8) (h1 : 2 ≤ m) (h2 : m ≤ 160) (v : Int32) (hv : v ≠ 0) (fv : Nat) : fX9_areAlike_15 (fv + 1) M (nI s) (nI t) (nI m) v 0 0 = fX9_areAlike_15 fv M (nI s) (nI t) (nI m) v (nI 0) (nI 1) := by
  have hlt : (nI m ≤ (0 : Int32)) = False := (nle_e (b := 0) (by omega) (by omega)).trans (eq_false (by omega))
  have ha := m_apart M hs ht (show 0 < 160 by omega)
  rw [show nI 0 = (0 : Int32) from rfl] at ha
  rw [fX9_areAlike_15]
  simp only [hlt, eq_false (Ne.symm hv), ha, lg_self, Option.bind_some, ↓reduceIte, km_1, km_2, km_3, km_4, km_5, km_6, km_7, kn_10, kn_20, kn_21]
  rfl
theorem are1 (M : GS) {s t m : Nat} (hs : s < 8) (ht : t < 8) (h1 : 2 ≤ m) (h2 : m ≤ 160) (fv : Nat) : fX9_areAlike_15 (fv + 1 + 1) M (nI s) (nI t) (nI m) 0 1 0 = fX9_areAlike_15 fv M (nI s) (nI t) (nI m) 0 (nI 1) (nI 2) := by
  have hlt : (nI m ≤ (0 : Int32)) = False := (nle_e (b := 0) (by omega) (by omega)).trans (eq_false (by omega))
  have hlt1 : (nI m ≤ (1 : Int32)) = False := (nle_e (b := 1) (by omega) (by omega)).trans (eq_false (by omega))
  have ha := m_apart M hs ht (show 1 < 160 by omega)
  rw [show nI 1 = (1 : Int32) from rfl] at ha
  rw [fX9_areAlike_15]
  simp only [hlt, Option.bind_some, ↓reduceIte, km_1, km_2, km_3, km_4, km_5, km_6, km_7, kn_10, kn_20, kn_21]
  rw [show (0 : Int32) + 1 = 1 from rfl, fX9_areAlike_15]
  simp only [hlt1, kn_10, ha, lg_self, Option.bind_some, ↓reduceIte, km_1, km_2, km_3, km_4, km_5, km_6, km_7, kn_10, kn_20, kn_21]
  rfl
theorem alike0 {X M : GS} {s t L1 L2 m : Nat} (hs : s < 8) (ht : t < 8) (r1 : Row X M s L1) (r2 : Row X M t L2) (h1 : m ≤ L1) (h2 : m ≤ L2) (hm : 2 ≤ m) (v : Int32) : ∃ z, fX5_differAlike X (nI s) (nI t) (nI m) v = some z ∧ fX9_areAlike M (nI s) (nI t) (nI m) v = some z := by
  have hL := r1.2.2.2.1
  obtain ⟨q, hq, hq2⟩ : ∃ q, gFuel = q + 1 + 1 ∧ 1000 < q := ⟨99998, rfl, by decide⟩
  have hq3 : gFuel = (q + 1) + 1 := hq
  by_cases hv : v = 0
  · subst hv
    obtain ⟨z, e1, e2⟩ := alike_l hs ht r1 r2 h1 h2 (show 1 < m by omega) 0 (m - 2) 2 gFuel q rfl (by omega) (gFu _ (by omega)) (by omega)
    refine ⟨z, ?_, ?_⟩
    · have n1 := x_num ht r2 (show 1 < L2 by omega)
      have n2 := x_num hs r1 (show 1 < L1 by omega)
      rw [show nI 1 = (1 : Int32) from rfl] at n1 n2
      simp only [fX5_differAlike, if_pos, n1, n2, Option.bind_some]
      rw [show (1 : Int32) + 1 = nI 2 from rfl]
      exact e1
    · rw [fX9_areAlike, if_pos rfl, hq, are1 M hs ht hm (by omega) q]
      exact e2
  · obtain ⟨z, e1, e2⟩ := alike_l hs ht r1 r2 h1 h2 (show 0 < m by omega) v (m - 1) 1 gFuel (q + 1) rfl (by omega) (gFu _ (by omega)) (by omega)
    refine ⟨z, ?_, ?_⟩
    · have n1 := x_num ht r2 (show 0 < L2 by omega)
      have n2 := x_num hs r1 (show 0 < L1 by omega)
      rw [show nI 0 = (0 : Int32) from rfl] at n1 n2
      simp only [fX5_differAlike, if_neg hv, n1, n2, Option.bind_some]
      rw [show (0 : Int32) + 1 = nI 1 from rfl]
      exact e1
    · rw [fX9_areAlike, if_neg hv, hq3, are0 M hs ht hm (by omega) v hv (q + 1)]
      exact e2
theorem rose_l {X M : GS} (h : Rel X M) {s t L1 L2 m : Nat} (hs : s < 8) (ht : t < 8) (r1 : Row X M s L1) (r2 : Row X M t L2) (h1 : m ≤ L1) (h2 : m ≤ L2) (hm : 2 ≤ m) : ∀ (d i fu : Nat), m - i = d → i ≤ m → d < fu → St (fX8_rose_108 fu X (nI s) (nI t) (nI m) (nI i)) (fX9_rose_149 fu M (nI s) (nI t) (nI m) (nI i)) := by
  have hL := r1.2.2.2.1
  intro d
  induction d with
  | zero =>
    intro i fu hd hi hf
    obtain ⟨fu, rfl⟩ : ∃ q, fu = q + 1 := ⟨fu - 1, by omega⟩
    have e : i = m := by omega
    subst e
    rw [fX8_rose_108, fX9_rose_149, if_pos (nI_le (Nat.le_refl _) (by omega)), if_pos (nI_le (Nat.le_refl _) (by omega))]
    exact ⟨_, _, rfl, rfl, rfl, h⟩
  | succ d ih =>
    intro i fu hd hi hf
    obtain ⟨fu, rfl⟩ : ∃ q, fu = q + 1 := ⟨fu - 1, by omega⟩
    have hlt : ¬ nI m ≤ nI i := nI_ge (show i < m by omega) (by omega)
    obtain ⟨z, e1, e2⟩ := alike0 hs ht r1 r2 h1 h2 hm (nI i)
    rw [fX8_rose_108, fX9_rose_149, if_neg hlt, if_neg hlt, e1, e2, i_add1]
    simp only [Option.bind_some]
    split
    · exact ih (i + 1) fu (by omega) (by omega) (by omega)
    · exact ⟨_, _, rfl, rfl, rfl, h⟩
set_option maxHeartbeats 1000000 in
theorem s_rose {X M : GS} (h : Rel X M) (a b c : Int32) : St (fX8_rose X a b c) (fX9_rose M a b c) := by
  obtain ⟨n, hL, hSh, hO⟩ := id h
  have hn := hL.1
  rcases pairs hn hSh a b with ⟨p, q, L1, L2, rfl, rfl, hp, hq, r1, r2, eP⟩ | ⟨eP, e⟩ | ⟨p, q, rfl, rfl, hp, hq, eP, e⟩ | ⟨p, q, rfl, rfl, hp, hq, eP, e2, e⟩
  · have k1 := r1.2.2.2.1
    have k2 := r2.2.2.2.1
    by_cases hc : 0 ≤ c.toInt
    · obtain ⟨m, hm, rfl, em⟩ := of_nn hc
      have c0 : ((0 : Int32) ≤ nI m) = True := eq_true (by rw [tle, em, t_0]; omega)
      have c1 : (nI L1 < nI m) = (L1 < m) := nlt_e (by omega) (by omega)
      have c2 : (nI m ≤ nI L2) = (m ≤ L2) := nle_e (by omega) (by omega)
      have c3 : (nI m < (2 : Int32)) = (m < 2) := nlt_e (b := 2) (by omega) (by omega)
      have c4 : (nI m ≤ (40 : Int32)) = (m ≤ 40) := nle_e (b := 40) (by omega) (by omega)
      by_cases g1 : L1 < m
      · simp only [fX8_rose, fX8_rose_L21, fX8_rose_L50, fX8_rose_L54, fX8_rose_L74, fX9_rose, fX9_rose_L97, eP, m_is M hp, m_is M hq, in8' hp, in8' hq, cl8 hp, cl8 hq, r1.1, r1.2.1, r1.2.2.1, r2.2.2.1, x_len X hp, c0, c1, eq_true g1, kn_12, Option.bind_some, ↓reduceIte, km_1, km_2, km_3, km_4, km_5, km_6, km_7, kn_10, kn_20, kn_21]
        exact s_ten h _ (by decide)
      · by_cases g2 : m ≤ L2
        · by_cases g3 : m < 2
          · simp only [fX8_rose, fX8_rose_L21, fX8_rose_L54, fX8_rose_L70, fX8_rose_L74, fX9_rose, fX9_rose_L113, eP, m_is M hp, m_is M hq, in8' hp, in8' hq, cl8 hp, cl8 hq, r1.1, r1.2.1, r1.2.2.1, r2.1, r2.2.1, r2.2.2.1, x_len X hp, x_len X hq, c0, c1, c2, c3, eq_false g1, eq_true g2, eq_true g3, kn_12, Option.bind_some, ↓reduceIte, km_1, km_2, km_3, km_4, km_5, km_6, km_7, kn_10, kn_20, kn_21]
            exact s_ten h _ (by decide)
          · by_cases g4 : m ≤ 40
            · obtain ⟨z, e1, e2⟩ := alike0 hp hq r1 r2 (by omega) g2 (by omega) (-1)
              simp only [fX8_rose, fX8_rose_L21, fX8_rose_L54, fX8_rose_L74, fX9_rose, eP, m_is M hp, m_is M hq, in8' hp, in8' hq, cl8 hp, cl8 hq, r1.1, r1.2.1, r1.2.2.1, r2.1, r2.2.1, r2.2.2.1, x_len X hp, x_len X hq, c0, c1, c2, c3, c4, eq_false g1, eq_true g2, eq_false g3, eq_true g4, e1, e2, kn_12, Option.bind_some, ↓reduceIte, km_1, km_2, km_3, km_4, km_5, km_6, km_7, kn_10, kn_20, kn_21]
              split
              · exact rose_l h hp hq r1 r2 (by omega) g2 (by omega) m 0 gFuel (by omega) (by omega) (gFu _ (by omega))
              · exact ⟨_, _, rfl, rfl, rfl, h⟩
            · simp only [fX8_rose, fX8_rose_L21, fX8_rose_L54, fX8_rose_L70, fX8_rose_L74, fX9_rose, fX9_rose_L113, eP, m_is M hp, m_is M hq, in8' hp, in8' hq, cl8 hp, cl8 hq, r1.1, r1.2.1, r1.2.2.1, r2.1, r2.2.1, r2.2.2.1, x_len X hp, x_len X hq, c0, c1, c2, c3, c4, eq_false g1, eq_true g2, eq_false g3, eq_false g4, kn_12, Option.bind_some, ↓reduceIte, km_1, km_2, km_3, km_4, km_5, km_6, km_7, kn_10, kn_20, kn_21]
              exact s_ten h _ (by decide)
        · simp only [fX8_rose, fX8_rose_L21, fX8_rose_L50, fX8_rose_L54, fX8_rose_L74, fX9_rose, fX9_rose_L97, eP, m_is M hp, m_is M hq, in8' hp, in8' hq, cl8 hp, cl8 hq, r1.1, r1.2.1, r1.2.2.1, r2.1, r2.2.1, r2.2.2.1, x_len X hp, x_len X hq, c0, c1, c2, eq_false g1, eq_false g2, kn_12, Option.bind_some, ↓reduceIte, km_1, km_2, km_3, km_4, km_5, km_6, km_7, kn_10, kn_20, kn_21]
          exact s_ten h _ (by decide)
    · have c0 : ((0 : Int32) ≤ c) = False := eq_false (by rw [tle, t_0]; omega)
      simp only [fX8_rose, fX8_rose_L21, fX8_rose_L54, fX8_rose_L74, fX9_rose, eP, m_is M hp, m_is M hq, in8' hp, in8' hq, cl8 hp, cl8 hq, r1.2.2.1, r2.2.2.1, c0, kn_12, Option.bind_some, ↓reduceIte, km_1, km_2, km_3, km_4, km_5, km_6, km_7, kn_10, kn_20, kn_21]
      exact s_ten h _ (by decide)
  · rcases e with e | ⟨e, e'⟩
    · simp only [fX8_rose, fX8_rose_L21, fX8_rose_L54, fX8_rose_L74, fX9_rose, fX9_rose_L16, eP, e, Option.bind_some, ↓reduceIte, km_1, km_2, km_3, km_4, km_5, km_6, km_7, kn_10, kn_20, kn_21]
      exact s_ten h _ (by decide)
    · simp only [fX8_rose, fX8_rose_L21, fX8_rose_L54, fX8_rose_L74, fX9_rose, fX9_rose_L16, eP, e, e', Option.bind_some, ↓reduceIte, km_1, km_2, km_3, km_4, km_5, km_6, km_7, kn_10, kn_20, kn_21]
      exact s_ten h _ (by decide)
  · rcases e with e | ⟨e | e, e'⟩
    · simp only [fX8_rose, fX8_rose_L21, fX8_rose_L54, fX8_rose_L74, fX9_rose, fX9_rose_L40, eP, m_is M hp, m_is M hq, in8' hp, cl8 hp, e, Option.bind_some, ↓reduceIte, km_1, km_2, km_3, km_4, km_5, km_6, km_7, kn_10, kn_20, kn_21]
      exact s_ten h _ (by decide)
    · simp only [fX8_rose, fX8_rose_L21, fX8_rose_L54, fX8_rose_L74, fX9_rose, fX9_rose_L40, eP, m_is M hp, m_is M hq, in8' hp, cl8 hp, in8' hq, cl8 hq, e, e', kn_02, Option.bind_some, ↓reduceIte, km_1, km_2, km_3, km_4, km_5, km_6, km_7, kn_10, kn_20, kn_21]
      exact s_ten h _ (by decide)
    · simp only [fX8_rose, fX8_rose_L21, fX8_rose_L54, fX8_rose_L74, fX9_rose, fX9_rose_L40, eP, m_is M hp, m_is M hq, in8' hp, cl8 hp, in8' hq, cl8 hq, e, e', kn_12, Option.bind_some, ↓reduceIte, km_1, km_2, km_3, km_4, km_5, km_6, km_7, kn_10, kn_20, kn_21]
      exact s_ten h _ (by decide)
  · rcases e with e | ⟨e, e'⟩
    · rcases e2 with e2 | e2 <;> simp only [fX8_rose, fX8_rose_L21, fX8_rose_L54, fX8_rose_L74, fX9_rose, fX9_rose_L63, eP, m_is M hp, m_is M hq, in8' hp, cl8 hp, in8' hq, cl8 hq, e, e2, kn_02, kn_12, Option.bind_some, ↓reduceIte, km_1, km_2, km_3, km_4, km_5, km_6, km_7, kn_10, kn_20, kn_21] <;> exact s_ten h _ (by decide)
    · simp only [fX8_rose, fX8_rose_L21, fX8_rose_L54, fX8_rose_L74, fX9_rose, fX9_rose_L63, eP, m_is M hp, m_is M hq, in8' hp, cl8 hp, in8' hq, cl8 hq, e, e', kn_02, kn_12, Option.bind_some, ↓reduceIte, km_1, km_2, km_3, km_4, km_5, km_6, km_7, kn_10, kn_20, kn_21]
      exact s_ten h _ (by decide)
