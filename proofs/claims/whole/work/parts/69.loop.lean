/-! loop -/
theorem x_copy {X M : GS} {s L : Nat} (hs : s < 8) (r : Row X M s L) : ∀ (d i fu : Nat) (Y : GS), L - i = d → i ≤ L → d < fu → Y.1 83 = nI L → (∀ k, k ≠ 82 → Y.2.2.1 k = X.2.2.1 k) → Y.2.2.2 = X.2.2.2 → ∃ Y', fX4_readOver_now_shelves_20 fu Y (nI s) (nI i) = some Y' ∧ Y'.1 = Y.1 ∧ Y'.2.1 = Y.2.1 ∧ Y'.2.2.2 = Y.2.2.2 ∧ (∀ k, k ≠ 82 → Y'.2.2.1 k = Y.2.2.1 k) ∧ ∀ j, j < L → Y'.2.2.1 82 j = if i ≤ j then nA M s j else Y.2.2.1 82 j := by
  have hL := r.2.2.2.1
  intro d
  induction d with
  | zero =>
    intro i fu Y hd hi hf h83 hr h4
    obtain ⟨fu, rfl⟩ : ∃ q, fu = q + 1 := ⟨fu - 1, by omega⟩
    have e : i = L := by omega
    subst e
    refine ⟨Y, ?_, rfl, rfl, rfl, fun _ _ => rfl, fun j hj => by rw [if_neg (by omega)]⟩
    rw [fX4_readOver_now_shelves_20, h83, if_pos (nI_le (Nat.le_refl _) (by omega))]
  | succ d ih =>
    intro i fu Y hd hi hf h83 hr h4
    obtain ⟨fu, rfl⟩ : ∃ q, fu = q + 1 := ⟨fu - 1, by omega⟩
    have hlt : (nI L ≤ nI i) = False := (nle_e (by omega) (by omega)).trans (eq_false (by omega))
    have rY : Row Y M s L := ⟨by rw [hr 65 (by decide)]; exact r.1, r.2.1, r.2.2.1, hL, by rw [h4]; exact r.2.2.2.2⟩
    have en := x_num hs rY (show i < L by omega)
    obtain ⟨Y', f1, f2, f3, f4, f5, f6⟩ := ih (i + 1) fu (gU3 Y 82 i (nA M s i)) (by omega) (by omega) (by omega) h83 (fun k hk => by rw [gU3_n _ _ _ _ _ hk, hr k hk]) h4
    refine ⟨Y', ?_, f2, f3, f4, fun k hk => by rw [f5 k hk, gU3_n _ _ _ _ _ hk], fun j hj => ?_⟩
    · rw [fX4_readOver_now_shelves_20]
      simp only [h83, hlt, en, clm (show i < 2147483648 by omega), in160 (show i < 160 by omega), i_add1, Option.bind_some, ↓reduceIte, km_1, km_2, km_3, km_4, km_5, km_6, km_7, kn_10, kn_20, kn_21]
      exact f1
    · rw [f6 j hj, gU3_s, upd_i]
      by_cases q : i + 1 ≤ j
      · have q' : ¬ j = i := by omega
        rw [if_pos q, if_pos (show i ≤ j by omega)]
      · by_cases q2 : j = i
        · rw [if_neg q, if_pos q2, if_pos (show i ≤ j by omega), q2]
        · rw [if_neg q, if_neg q2, if_neg (show ¬ i ≤ j by omega)]
/-- the two states at a text's begin -/
theorem loop_start {X M : GS} {n s L : Nat} (hL : RLp X M n) (hC : MC (M.2.2.1 21) (M.2.2.1 22)) (hs : s < 8) (r : Row X M s L) :
    ∃ X0 M0, (∀ v, (fX4_readOver_now_shelves_73 gFuel X0 0 1).bind (fun u => fX4_readOver_now_shelves_L127 u.2 u.1) = v → fX4_readOver_now_shelves X (nI s) = v) ∧ (∃ T, fX9_all_29 M 0 = some T ∧ M0 = gU1 (gU1 (gU1 (gU1 T 24 (160 * nI s)) 25 0) 26 (T.2.2.1 17 s)) 5 (-1)) ∧ PI (fun i => nA M s i) s L X0 M0 X0 M0 0 n ∧
      (∀ k, k ≠ 34 → k ≠ 35 → k ≠ 83 → k ≠ 84 → k ≠ 85 → X0.1 k = X.1 k) ∧ (∀ k, k ≠ 32 → k ≠ 33 → k ≠ 82 → X0.2.2.1 k = X.2.2.1 k) ∧ X0.2.2.2 = X.2.2.2 ∧ M0.1 5 = -1 ∧ (∀ k, k ≠ 5 → k ≠ 24 → k ≠ 25 → k ≠ 26 → M0.1 k = M.1 k) ∧ (∀ k, k ≠ 29 → M0.2.2.1 k = M.2.2.1 k) ∧ M0.2.2.2 = M.2.2.2 ∧
      M0.2.2.1 29 128 = M.1 0 ∧ M0.2.2.1 29 129 = M.1 1 ∧ M0.2.2.1 29 130 = M.1 2 ∧ M0.2.2.1 29 131 = M.1 3 ∧ M0.2.2.1 29 132 = M.1 4 ∧ ∀ j, j < 16 → M0.2.2.1 29 (0 + j) = M.2.2.1 7 j ∧ M0.2.2.1 29 (16 + j) = M.2.2.1 8 j ∧ M0.2.2.1 29 (32 + j) = M.2.2.1 9 j ∧ M0.2.2.1 29 (48 + j) = M.2.2.1 10 j ∧ M0.2.2.1 29 (64 + j) = M.2.2.1 11 j ∧ M0.2.2.1 29 (80 + j) = M.2.2.1 12 j ∧ M0.2.2.1 29 (96 + j) = M.2.2.1 13 j ∧ M0.2.2.1 29 (112 + j) = M.2.2.1 14 j := by
  have hn := hL.1
  have hL160 := r.2.2.2.1
  obtain ⟨Y, a1, a2, a3, a4, a5, a6⟩ := x_copy hs r L 0 gFuel (gU1 X 83 (nI L)) (by omega) (by omega) (gFu _ (by omega)) rfl (fun _ _ => rfl) rfl
  obtain ⟨X0, b1, b2, b3, b4, b5, b6, b7, b8, b9⟩ := x_like_told_now (gU1 (gU1 Y 84 0) 85 (-1))
  obtain ⟨T, c1, c2, c3, c4, c5, c6, c7, c8⟩ := m_all0_29 M
  have eL : (if nI L < (160 : Int32) then nI L else (160 : Int32)) = nI L := by
    by_cases q : L < 160
    · rw [if_pos (show nI L < (160 : Int32) from nI_lt (b := 160) q (by decide))]
    · have e : L = 160 := by omega
      subst e
      rfl
  have hTr : ∀ k, k ≠ 29 → T.2.2.1 k = M.2.2.1 k := fun k hk => c2.2.2.2 k hk hk
  have x1 : ∀ k, k ≠ 34 → k ≠ 35 → k ≠ 83 → k ≠ 84 → k ≠ 85 → X0.1 k = X.1 k := fun k h1 h2 h3 h4 h5 => by
    rw [b5 k h1 h2, gU1_n _ _ _ _ h5, gU1_n _ _ _ _ h4, a2, gU1_n _ _ _ _ h3]
  have x3 : ∀ k, k ≠ 32 → k ≠ 33 → k ≠ 82 → X0.2.2.1 k = X.2.2.1 k := fun k h1 h2 h3 => by
    rw [b4 k h1 h2]
    exact a5 k h3
  have m1 : ∀ k, k ≠ 5 → k ≠ 24 → k ≠ 25 → k ≠ 26 → (gU1 (gU1 (gU1 (gU1 T 24 (160 * nI s)) 25 0) 26 (T.2.2.1 17 s)) 5 (-1)).1 k = M.1 k := fun k h1 h2 h3 h4 => by
    rw [gU1_n _ _ _ _ h1, gU1_n _ _ _ _ h4, gU1_n _ _ _ _ h3, gU1_n _ _ _ _ h2, c2.1]
  refine ⟨X0, gU1 (gU1 (gU1 (gU1 T 24 (160 * nI s)) 25 0) 26 (T.2.2.1 17 s)) 5 (-1), fun v hv => ?_, ⟨T, c1, rfl⟩, ⟨⟨hs, hL160, ?_, fun i hi => ?_, ?_, ?_, fun i hi => ?_, ?_⟩, XF.rf X0, MF.rf _, ?_, rfl, ?_, ⟨hn, ?_, ?_, fun i hi => ?_, fun i hi => ?_, ?_, ?_⟩⟩, x1, x3, ?_, rfl, m1, hTr, c2.2.2.1, c3, c4, c5, c6, c7, c8⟩
  · rw [show nI 0 = (0 : Int32) from rfl] at a1
    simp only [fX4_readOver_now_shelves, x_len X hs, r.1, eL, a1, b1, Option.bind_some]
    exact hv
  · rw [b5 83 (by decide) (by decide)]
    show Y.1 83 = nI L
    rw [a2]
    rfl
  · rw [b4 82 (by decide) (by decide)]
    show Y.2.2.1 82 i = _
    rw [a6 i hi, if_pos (Nat.zero_le i)]
  · show 160 * nI s = nI (160 * s)
    exact i_160mul s
  · show T.2.2.1 17 s = nI L
    rw [hTr 17 (by decide)]
    exact r.2.1
  · show (T.2.2.2 19 (160 * s + i)).toInt32 = nA M s i
    rw [c2.2.2.1]
    rfl
  · show MC (T.2.2.1 21) (T.2.2.1 22)
    rw [hTr 21 (by decide), hTr 22 (by decide)]
    exact hC
  · rw [b5 84 (by decide) (by decide)]
    rfl
  · rw [b5 85 (by decide) (by decide)]
    rfl
  · rw [b6]
    show Y.1 2 = nI n
    rw [a2]
    exact hL.2.1
  · rw [m1 0 (by decide) (by decide) (by decide) (by decide)]
    exact hL.2.2.1
  · have q := hL.2.2.2.1 i hi
    have y : ∀ j, j < 128 → X0.2.2.1 32 j = X.2.2.1 0 j := fun j hj => by
      rw [b8 j hj]
      show Y.2.2.1 0 j = _
      rw [a5 0 (by decide)]
      rfl
    rw [y _ (by omega), y _ (by omega), y _ (by omega), y _ (by omega), y _ (by omega), y _ (by omega), y _ (by omega), y _ (by omega)]
    show X.2.2.1 0 (8 * i) = T.2.2.1 7 i ∧ X.2.2.1 0 (8 * i + 1) = T.2.2.1 8 i ∧ X.2.2.1 0 (8 * i + 2) = T.2.2.1 9 i ∧ X.2.2.1 0 (8 * i + 3) = T.2.2.1 10 i ∧ X.2.2.1 0 (8 * i + 4) = T.2.2.1 11 i ∧ X.2.2.1 0 (8 * i + 5) = T.2.2.1 12 i ∧ X.2.2.1 0 (8 * i + 6) = T.2.2.1 13 i ∧ X.2.2.1 0 (8 * i + 7) = T.2.2.1 14 i
    rw [hTr 7 (by decide), hTr 8 (by decide), hTr 9 (by decide), hTr 10 (by decide), hTr 11 (by decide), hTr 12 (by decide), hTr 13 (by decide), hTr 14 (by decide)]
    exact q
  · have q := hL.2.2.2.2.1 i hi
    show isN (T.2.2.1 7 i) 0 6 ∧ isN (T.2.2.1 8 i) 0 9 ∧ isN (T.2.2.1 9 i) 0 9999 ∧ isN (T.2.2.1 10 i) 0 9999 ∧ isN (T.2.2.1 11 i) 1 99 ∧ isN (T.2.2.1 12 i) 1 99 ∧ isN (T.2.2.1 13 i) 0 3 ∧ isN (T.2.2.1 14 i) 0 1
    rw [hTr 7 (by decide), hTr 8 (by decide), hTr 9 (by decide), hTr 10 (by decide), hTr 11 (by decide), hTr 12 (by decide), hTr 13 (by decide), hTr 14 (by decide)]
    exact q
  · have q := hL.2.2.2.2.2.1
    have y : ∀ j, j < 3 → X0.2.2.1 33 j = X.2.2.1 1 j := fun j hj => by
      rw [b9 j hj]
      show Y.2.2.1 1 j = _
      rw [a5 1 (by decide)]
      rfl
    have y3 : X0.1 35 = X.1 3 := by
      rw [b7]
      show Y.1 3 = _
      rw [a2]
      rfl
    rw [y 0 (by decide), y 1 (by decide), y 2 (by decide), y3, m1 1 (by decide) (by decide) (by decide) (by decide), m1 2 (by decide) (by decide) (by decide) (by decide), m1 3 (by decide) (by decide) (by decide) (by decide), m1 4 (by decide) (by decide) (by decide) (by decide)]
    exact q
  · have q := hL.2.2.2.2.2.2
    simp only [MTn] at q ⊢
    rw [m1 1 (by decide) (by decide) (by decide) (by decide), m1 2 (by decide) (by decide) (by decide) (by decide), m1 3 (by decide) (by decide) (by decide) (by decide)]
    exact q
  · rw [b3]
    exact a4
theorem s_loop {X M : GS} (h : Rel X M) (a : Int32) : St (fX8_loop X a) (fX9_loop M a) := by
  obtain ⟨n, hL, hSh, hO⟩ := id h
  have hn := hL.1
  rcases ix3 a 8 (by decide) with ha | ⟨s, hs, rfl⟩
  · have k1 : ((-1 : Int32) = 0) = False := eq_false (by decide +kernel)
    simp only [fX8_loop, fX9_loop, x_rowR0 X ha, m_wantR0 M ha, k1, Option.bind_some, ↓reduceIte, km_1, km_2, km_3, km_4, km_5, km_6, km_7, kn_10, kn_20, kn_21]
    exact s_no h _ (by decide)
  · have e1 := x_rowR hn (hSh s hs) hs
    have e2 := m_wantR (hSh s hs) hs
    rcases rs_m (hSh s hs) with g | g | g
    · rw [g] at e1 e2
      have k1 : (rRow 0 = 0) = False := eq_false (by decide +kernel)
      simp only [fX8_loop, fX9_loop, e1, e2, k1, Option.bind_some, ↓reduceIte, km_1, km_2, km_3, km_4, km_5, km_6, km_7, kn_10, kn_20, kn_21]
      exact s_no h _ (by decide +kernel)
    · obtain ⟨L, r⟩ := rowOf (hSh s hs) g
      have hL160 := r.2.2.2.1
      have k1 : (rRow 1 = 0) = True := eq_true (by decide +kernel)
      rw [g] at e1 e2
      obtain ⟨X0, M0, s1, ⟨T, t1, t2⟩, hPI, x1, x3, x4, z5, m1, m3, m4, w0, w1, w2, w3, w4, w5⟩ := loop_start hL hO.2.2.2.2 hs r
      obtain ⟨X1, M1, m, r1, r2⟩ := rd_loop (L + 1) 0 gFuel gFuel X0 M0 0 n (by omega) (Nat.le_refl 0) (by omega) (gFu _ (by omega)) (gFu _ (by omega)) hPI
      rw [show nI 0 = (0 : Int32) from rfl] at r1
      rw [show nI (0 + 1) = (1 : Int32) from rfl] at r2
      have eM : ∀ v z Y, (fX9_item M0).bind (fun u => fX9_loop_62 gFuel u.2 1 u.1) = some (v, z, Y) → fX9_loop M (nI s) = fX9_loop_L133 Y v z := by
        intro v z Y hv
        rw [t2] at hv
        simp only [fX9_loop, e2, k1, t1, clm (show s < 2147483648 by omega), in8' hs, gLet_eq, Option.bind_some, ↓reduceIte, km_1, km_2, km_3, km_4, km_5, km_6, km_7, kn_10, kn_20, kn_21]
        rw [show (gU1 (gU1 T 24 (160 * nI s)) 25 0).2.2.1 17 s = T.2.2.1 17 s from rfl]
        cases hI : fX9_item (gU1 (gU1 (gU1 (gU1 T 24 (160 * nI s)) 25 0) 26 (T.2.2.1 17 s)) 5 (-1)) with
        | none => rw [hI] at hv; cases hv
        | some u =>
          rw [hI] at hv
          simp only [Option.bind_some] at hv ⊢
          rw [hv]
          rfl
      rcases r2 with ⟨n', b1, b2, b3, b4, b5, b6⟩ | ⟨m2, b1, f, hf, b2, b3, b4, b5⟩
      · have hT := b5
        obtain ⟨X2, c1, c2, c3, c4, c5, c6, c7, c8, c9⟩ := x_like_now_told X1
        have xi : ∀ k, k ≠ 2 → k ≠ 3 → k ≠ 34 → k ≠ 35 → k ≠ 83 → k ≠ 84 → k ≠ 85 → X2.1 k = X.1 k := fun k h1 h2 h3 h4 h5 h6 h7 => by
          rw [c5 k h1 h2, b3.1 k h3 h4 h6 h7, x1 k h3 h4 h5 h6 h7]
        have xr : ∀ k, k ≠ 0 → k ≠ 1 → k ≠ 32 → k ≠ 33 → k ≠ 81 → k ≠ 82 → X2.2.2.1 k = X.2.2.1 k := fun k h1 h2 h3 h4 h5 h6 => by
          rw [c4 k h1 h2, b3.2.1 k h3 h4 h5, x3 k h3 h4 h6]
        have x2 : X2.2.2.2 = X.2.2.2 := by rw [c3, b3.2.2, x4]
        have mi : ∀ k, 28 < k → M1.1 k = M.1 k := fun k hk => by rw [b4.1 k (by omega), m1 k (by omega) (by omega) (by omega) (by omega)]
        have mr : ∀ k, (k < 7 ∨ 14 < k) → k ≠ 23 → k ≠ 29 → M1.2.2.1 k = M.2.2.1 k := fun k h1 h2 h3 => by rw [b4.2.1 k h1 h2, m3 k h3]
        have m5 : M1.1 5 = -1 := by rw [b4.1 5 (by decide)]; exact z5
        have e85 : X2.1 85 = -1 := by rw [c5 85 (by decide) (by decide)]; exact b2
        have hL' : RLp (gU1 X2 58 (-1)) M1 n' := by
          refine ⟨hT.1, ?_, hT.2.2.1, fun i hi => ?_, hT.2.2.2.2.1, ?_, hT.2.2.2.2.2.2⟩
          · show X2.1 2 = _
            rw [c6]
            exact hT.2.1
          · have q := hT.2.2.2.1 i hi
            have hn' := hT.1
            show X2.2.2.1 0 (8 * i) = M1.2.2.1 7 i ∧ X2.2.2.1 0 (8 * i + 1) = M1.2.2.1 8 i ∧ X2.2.2.1 0 (8 * i + 2) = M1.2.2.1 9 i ∧ X2.2.2.1 0 (8 * i + 3) = M1.2.2.1 10 i ∧ X2.2.2.1 0 (8 * i + 4) = M1.2.2.1 11 i ∧ X2.2.2.1 0 (8 * i + 5) = M1.2.2.1 12 i ∧ X2.2.2.1 0 (8 * i + 6) = M1.2.2.1 13 i ∧ X2.2.2.1 0 (8 * i + 7) = M1.2.2.1 14 i
            rw [c8 _ (by omega), c8 _ (by omega), c8 _ (by omega), c8 _ (by omega), c8 _ (by omega), c8 _ (by omega), c8 _ (by omega), c8 _ (by omega)]
            exact q
          · have q := hT.2.2.2.2.2.1
            show RT (X2.2.2.1 1 0) (X2.2.2.1 1 1) (X2.2.2.1 1 2) (X2.1 3) (M1.1 1) (M1.1 2) (M1.1 3) (M1.1 4)
            rw [c9 0 (by decide), c9 1 (by decide), c9 2 (by decide), c7]
            exact q
        have hS' : ∀ s, s < 8 → RSn (gU1 X2 58 (-1)) M1 n' s := by
          intro s hs
          have q := (hSh s hs).mono b6
          show RSh (X2.2.2.1 64) (X2.2.2.1 65) (M1.2.2.1 15) (M1.2.2.1 16) (M1.2.2.1 17) (M1.2.2.1 18) (X2.2.2.2 66) (M1.2.2.2 19) n' s
          rw [xr 64 (by decide) (by decide) (by decide) (by decide) (by decide) (by decide), xr 65 (by decide) (by decide) (by decide) (by decide) (by decide) (by decide), x2, mr 15 (by decide) (by decide) (by decide), mr 16 (by decide) (by decide) (by decide), mr 17 (by decide) (by decide) (by decide), mr 18 (by decide) (by decide) (by decide), b4.2.2, m4]
          exact q
        have hO' : RO (gU1 X2 58 (-1)) M1 := by
          obtain ⟨o1, -, o3, o4, o5⟩ := hO
          refine ⟨?_, m5.symm, ?_, ?_, ?_⟩
          · show ∀ k, k < 8 → X2.2.2.1 56 k = M1.2.2.1 6 k
            rw [xr 56 (by decide) (by decide) (by decide) (by decide) (by decide) (by decide), mr 6 (by decide) (by decide) (by decide)]
            exact o1
          · show RA (X2.1 145) (M1.1 38) (X2.2.2.1 144) (M1.2.2.1 37)
            rw [xi 145 (by decide) (by decide) (by decide) (by decide) (by decide) (by decide) (by decide), mi 38 (by decide), xr 144 (by decide) (by decide) (by decide) (by decide) (by decide) (by decide), mr 37 (by decide) (by decide) (by decide)]
            exact o3
          · show RI (X2.1 57) (M1.1 39) (X2.1 18) (X2.1 19) (X2.2.2.1 16) (X2.2.2.1 17) (M1.2.2.1 30)
            rw [xi 57 (by decide) (by decide) (by decide) (by decide) (by decide) (by decide) (by decide), mi 39 (by decide), xi 18 (by decide) (by decide) (by decide) (by decide) (by decide) (by decide) (by decide), xi 19 (by decide) (by decide) (by decide) (by decide) (by decide) (by decide) (by decide), xr 16 (by decide) (by decide) (by decide) (by decide) (by decide) (by decide), xr 17 (by decide) (by decide) (by decide) (by decide) (by decide) (by decide), mr 30 (by decide) (by decide) (by decide)]
            exact o4
          · show MC (M1.2.2.1 21) (M1.2.2.1 22)
            rw [mr 21 (by decide) (by decide) (by decide), mr 22 (by decide) (by decide) (by decide)]
            exact o5
        have eX : fX4_readOver_now_shelves X (nI s) = some (nI m, X2) := by
          apply s1
          rw [r1]
          simp only [Option.bind_some, fX4_readOver_now_shelves_L127, b2, eq_self, ↓reduceIte, c1]
        refine ⟨(nI m, gU1 X2 58 (-1)), (nI m, M1), ?_, ?_, rfl, n', hL', hS', hO'⟩
        · simp only [fX8_loop, e1, k1, eX, fX4_faultPlace, e85, gU1_s, eq_self, Option.bind_some, ↓reduceIte, km_1, km_2, km_3, km_4, km_5, km_6, km_7, kn_10, kn_20, kn_21]
        · rw [eM _ _ _ b1, fX9_loop_L133, if_neg (by decide +kernel)]
      · obtain ⟨M2, d1, -, d2, d3, d4, d5, d6, d7, d8, d9, d10⟩ := m_all1_29 M1
        have xi : ∀ k, k ≠ 34 → k ≠ 35 → k ≠ 83 → k ≠ 84 → k ≠ 85 → X1.1 k = X.1 k := fun k h3 h4 h5 h6 h7 => by
          rw [b4.1 k h3 h4 h6 h7, x1 k h3 h4 h5 h6 h7]
        have xr : ∀ k, k ≠ 32 → k ≠ 33 → k ≠ 81 → k ≠ 82 → X1.2.2.1 k = X.2.2.1 k := fun k h3 h4 h5 h6 => by
          rw [b4.2.1 k h3 h4 h5, x3 k h3 h4 h6]
        have x2 : X1.2.2.2 = X.2.2.2 := by rw [b4.2.2, x4]
        have y29 : M1.2.2.1 29 = M0.2.2.1 29 := b5.2.1 29 (by decide) (by decide)
        have mi : ∀ k, 28 < k → M2.1 k = M.1 k := fun k hk => by rw [d4 k (by omega), b5.1 k (by omega), m1 k (by omega) (by omega) (by omega) (by omega)]
        have mr : ∀ k, (k < 7 ∨ 14 < k) → k ≠ 23 → k ≠ 29 → M2.2.2.1 k = M.2.2.1 k := fun k h1 h2 h3 => by rw [d3 k h1, b5.2.1 k h1 h2, m3 k h3]
        have i0 : M2.1 0 = M.1 0 := by rw [d5, y29, w0]
        have i1 : M2.1 1 = M.1 1 := by rw [d6, y29, w1]
        have i2 : M2.1 2 = M.1 2 := by rw [d7, y29, w2]
        have i3 : M2.1 3 = M.1 3 := by rw [d8, y29, w3]
        have i4 : M2.1 4 = M.1 4 := by rw [d9, y29, w4]
        have rows : ∀ j, j < 16 → M2.2.2.1 7 j = M.2.2.1 7 j ∧ M2.2.2.1 8 j = M.2.2.1 8 j ∧ M2.2.2.1 9 j = M.2.2.1 9 j ∧ M2.2.2.1 10 j = M.2.2.1 10 j ∧ M2.2.2.1 11 j = M.2.2.1 11 j ∧ M2.2.2.1 12 j = M.2.2.1 12 j ∧ M2.2.2.1 13 j = M.2.2.1 13 j ∧ M2.2.2.1 14 j = M.2.2.1 14 j := fun j hj => by
          obtain ⟨q0, q1, q2, q3, q4, q5, q6, q7⟩ := w5 j hj
          obtain ⟨p0, p1, p2, p3, p4, p5, p6, p7⟩ := d10 j hj
          rw [p0, p1, p2, p3, p4, p5, p6, p7, y29, q0, q1, q2, q3, q4, q5, q6, q7]
          exact ⟨rfl, rfl, rfl, rfl, rfl, rfl, rfl, rfl⟩
        have hL' : RLp (gU1 X1 58 (nI f)) (gU1 M2 5 (nI f)) n := by
          refine ⟨hn, ?_, ?_, fun i hi => ?_, fun i hi => ?_, ?_, ?_⟩
          · show X1.1 2 = _
            rw [xi 2 (by decide) (by decide) (by decide) (by decide) (by decide)]
            exact hL.2.1
          · show M2.1 0 = _
            rw [i0]
            exact hL.2.2.1
          · have q := hL.2.2.2.1 i hi
            obtain ⟨p0, p1, p2, p3, p4, p5, p6, p7⟩ := rows i (by omega)
            show X1.2.2.1 0 (8 * i) = M2.2.2.1 7 i ∧ X1.2.2.1 0 (8 * i + 1) = M2.2.2.1 8 i ∧ X1.2.2.1 0 (8 * i + 2) = M2.2.2.1 9 i ∧ X1.2.2.1 0 (8 * i + 3) = M2.2.2.1 10 i ∧ X1.2.2.1 0 (8 * i + 4) = M2.2.2.1 11 i ∧ X1.2.2.1 0 (8 * i + 5) = M2.2.2.1 12 i ∧ X1.2.2.1 0 (8 * i + 6) = M2.2.2.1 13 i ∧ X1.2.2.1 0 (8 * i + 7) = M2.2.2.1 14 i
            rw [xr 0 (by decide) (by decide) (by decide) (by decide), p0, p1, p2, p3, p4, p5, p6, p7]
            exact q
          · have q := hL.2.2.2.2.1 i hi
            obtain ⟨p0, p1, p2, p3, p4, p5, p6, p7⟩ := rows i (by omega)
            show isN (M2.2.2.1 7 i) 0 6 ∧ isN (M2.2.2.1 8 i) 0 9 ∧ isN (M2.2.2.1 9 i) 0 9999 ∧ isN (M2.2.2.1 10 i) 0 9999 ∧ isN (M2.2.2.1 11 i) 1 99 ∧ isN (M2.2.2.1 12 i) 1 99 ∧ isN (M2.2.2.1 13 i) 0 3 ∧ isN (M2.2.2.1 14 i) 0 1
            rw [p0, p1, p2, p3, p4, p5, p6, p7]
            exact q
          · show RT (X1.2.2.1 1 0) (X1.2.2.1 1 1) (X1.2.2.1 1 2) (X1.1 3) (M2.1 1) (M2.1 2) (M2.1 3) (M2.1 4)
            rw [xr 1 (by decide) (by decide) (by decide) (by decide), xi 3 (by decide) (by decide) (by decide) (by decide) (by decide), i1, i2, i3, i4]
            exact hL.2.2.2.2.2.1
          · show MT (M2.1 1) (M2.1 2) (M2.1 3)
            rw [i1, i2, i3]
            exact hL.2.2.2.2.2.2
        have hS' : ∀ s, s < 8 → RSn (gU1 X1 58 (nI f)) (gU1 M2 5 (nI f)) n s := by
          intro s hs
          show RSh (X1.2.2.1 64) (X1.2.2.1 65) (M2.2.2.1 15) (M2.2.2.1 16) (M2.2.2.1 17) (M2.2.2.1 18) (X1.2.2.2 66) (M2.2.2.2 19) n s
          rw [xr 64 (by decide) (by decide) (by decide) (by decide), xr 65 (by decide) (by decide) (by decide) (by decide), x2, mr 15 (by decide) (by decide) (by decide), mr 16 (by decide) (by decide) (by decide), mr 17 (by decide) (by decide) (by decide), mr 18 (by decide) (by decide) (by decide), d2, b5.2.2, m4]
          exact hSh s hs
        have hO' : RO (gU1 X1 58 (nI f)) (gU1 M2 5 (nI f)) := by
          obtain ⟨o1, -, o3, o4, o5⟩ := hO
          refine ⟨?_, rfl, ?_, ?_, ?_⟩
          · show ∀ k, k < 8 → X1.2.2.1 56 k = M2.2.2.1 6 k
            rw [xr 56 (by decide) (by decide) (by decide) (by decide), mr 6 (by decide) (by decide) (by decide)]
            exact o1
          · show RA (X1.1 145) (M2.1 38) (X1.2.2.1 144) (M2.2.2.1 37)
            rw [xi 145 (by decide) (by decide) (by decide) (by decide) (by decide), mi 38 (by decide), xr 144 (by decide) (by decide) (by decide) (by decide), mr 37 (by decide) (by decide) (by decide)]
            exact o3
          · show RI (X1.1 57) (M2.1 39) (X1.1 18) (X1.1 19) (X1.2.2.1 16) (X1.2.2.1 17) (M2.2.2.1 30)
            rw [xi 57 (by decide) (by decide) (by decide) (by decide) (by decide), mi 39 (by decide), xi 18 (by decide) (by decide) (by decide) (by decide) (by decide), xi 19 (by decide) (by decide) (by decide) (by decide) (by decide), xr 16 (by decide) (by decide) (by decide) (by decide), xr 17 (by decide) (by decide) (by decide) (by decide), mr 30 (by decide) (by decide) (by decide)]
            exact o4
          · show MC (M2.2.2.1 21) (M2.2.2.1 22)
            rw [mr 21 (by decide) (by decide) (by decide), mr 22 (by decide) (by decide) (by decide)]
            exact o5
        have hR : Rel (gU1 X1 58 (nI f)) (gU1 M2 5 (nI f)) := ⟨n, hL', hS', hO'⟩
        have gf : (nI f = (-1 : Int32)) = False := eq_false (fun z => by
          have := congrArg Int32.toInt z
          rw [tni _ (by omega), t_m1] at this
          omega)
        have eX : fX4_readOver_now_shelves X (nI s) = some (nI m, X1) := by
          apply s1
          rw [r1]
          simp only [Option.bind_some, fX4_readOver_now_shelves_L127, b2, gf, ↓reduceIte]
        have e28 : M2.1 28 = nI f := by rw [d4 28 (by decide)]; exact b3
        rw [eM _ _ _ b1]
        simp only [fX8_loop, e1, k1, eX, fX4_faultPlace, b2, gU1_s, gf, fX9_loop_L133, d1, e28, eq_self, Option.bind_some, ↓reduceIte, km_1, km_2, km_3, km_4, km_5, km_6, km_7, kn_10, kn_20, kn_21]
        exact s_no hR _ (by decide)
    · rw [g] at e1 e2
      have k1 : (rRow 2 = 0) = False := eq_false (by decide +kernel)
      simp only [fX8_loop, fX9_loop, e1, e2, k1, Option.bind_some, ↓reduceIte, km_1, km_2, km_3, km_4, km_5, km_6, km_7, kn_10, kn_20, kn_21]
      exact s_no h _ (by decide +kernel)
