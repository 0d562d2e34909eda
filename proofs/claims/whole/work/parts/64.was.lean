/-! carries and all, by the row 29 -/
theorem cF_7_29 : ∀ (d i fu : Nat) (M : GS), 16 - i = d → i ≤ 16 → d < fu → ∃ M', fX9_carries_7_29_3 fu M (nI 0) 0 (nI i) = some M' ∧ FM 29 29 M M' ∧ (∀ j, j < 16 → M'.2.2.1 29 (0 + j) = if i ≤ j then M.2.2.1 7 j else M.2.2.1 29 (0 + j)) ∧ ∀ q, (q < 0 ∨ 0 + 16 ≤ q) → M'.2.2.1 29 q = M.2.2.1 29 q := by
  intro d
  induction d with
  | zero =>
    intro i fu M hd hi hf
    obtain ⟨fu, rfl⟩ : ∃ q, fu = q + 1 := ⟨fu - 1, by omega⟩
    have e : i = 16 := by omega
    subst e
    refine ⟨M, ?_, FM.rf _ _ M, fun j hj => by rw [if_neg (by omega)], fun _ _ => rfl⟩
    rw [fX9_carries_7_29_3, if_pos (show (16 : Int32) ≤ nI 16 by decide +kernel)]
  | succ d ih =>
    intro i fu M hd hi hf
    obtain ⟨fu, rfl⟩ : ∃ q, fu = q + 1 := ⟨fu - 1, by omega⟩
    have hi16 : i < 16 := by omega
    have hlt : ((16 : Int32) ≤ nI i) = False := (nle_e (a := 16) (by omega) (by omega)).trans (eq_false (by omega))
    obtain ⟨M', f1, f2, f3, f4⟩ := ih (i + 1) fu (gU3 M 29 (0 + i) (M.2.2.1 7 i)) (by omega) (by omega) (by omega)
    refine ⟨M', ?_, (FM.u1 _ _ _ _ _).tr f2, fun j hj => ?_, fun q hq => ?_⟩
    · rw [fX9_carries_7_29_3]
      simp only [hlt, eq_self, i_add, in16 hi16, cl16 hi16, in140 (show 0 + i < 140 by omega), cl140 (show 0 + i < 140 by omega), i_add1, Option.bind_some, ↓reduceIte, km_1, km_2, km_3, km_4, km_5, km_6, km_7, kn_10, kn_20, kn_21]
      exact f1
    · rw [f3 j hj, gU3_n _ _ _ _ _ (by decide), gU3_s, upd_i]
      by_cases q : i + 1 ≤ j
      · rw [if_pos q, if_pos (by omega)]
      · rw [if_neg q]
        by_cases q2 : j = i
        · rw [if_pos (by omega), if_pos (by omega), q2]
        · rw [if_neg (by omega), if_neg (by omega)]
    · rw [f4 q hq, gU3_s, upd_i, if_neg (by omega)]
theorem cB_7_29 : ∀ (d i fu : Nat) (M : GS), 16 - i = d → i ≤ 16 → d < fu → ∃ M', fX9_carries_7_29_3 fu M (nI 0) 1 (nI i) = some M' ∧ FM 7 7 M M' ∧ (∀ j, j < 16 → M'.2.2.1 7 j = if i ≤ j then M.2.2.1 29 (0 + j) else M.2.2.1 7 j) := by
  intro d
  induction d with
  | zero =>
    intro i fu M hd hi hf
    obtain ⟨fu, rfl⟩ : ∃ q, fu = q + 1 := ⟨fu - 1, by omega⟩
    have e : i = 16 := by omega
    subst e
    refine ⟨M, ?_, FM.rf _ _ M, fun j hj => by rw [if_neg (by omega)]⟩
    rw [fX9_carries_7_29_3, if_pos (show (16 : Int32) ≤ nI 16 by decide +kernel)]
  | succ d ih =>
    intro i fu M hd hi hf
    obtain ⟨fu, rfl⟩ : ∃ q, fu = q + 1 := ⟨fu - 1, by omega⟩
    have hi16 : i < 16 := by omega
    have hlt : ((16 : Int32) ≤ nI i) = False := (nle_e (a := 16) (by omega) (by omega)).trans (eq_false (by omega))
    obtain ⟨M', f1, f2, f3⟩ := ih (i + 1) fu (gU3 M 7 i (M.2.2.1 29 (0 + i))) (by omega) (by omega) (by omega)
    refine ⟨M', ?_, (FM.u1 _ _ _ _ _).tr f2, fun j hj => ?_⟩
    · rw [fX9_carries_7_29_3]
      simp only [hlt, kn_10, i_add, in16 hi16, cl16 hi16, in140 (show 0 + i < 140 by omega), cl140 (show 0 + i < 140 by omega), i_add1, Option.bind_some, ↓reduceIte, km_1, km_2, km_3, km_4, km_5, km_6, km_7, kn_10, kn_20, kn_21]
      exact f1
    · rw [f3 j hj, gU3_n _ _ _ _ _ (by decide), gU3_s, upd_i]
      by_cases q : i + 1 ≤ j
      · rw [if_pos q, if_pos (by omega)]
      · rw [if_neg q]
        by_cases q2 : j = i
        · rw [if_pos q2, if_pos (by omega), q2]
        · rw [if_neg q2, if_neg (by omega)]
theorem cf_7_29 (M : GS) : ∃ M', fX9_carries_7_29 M (nI 0) 0 = some (nI 16, M') ∧ FM 29 29 M M' ∧ (∀ j, j < 16 → M'.2.2.1 29 (0 + j) = M.2.2.1 7 j) ∧ ∀ q, (q < 0 ∨ 0 + 16 ≤ q) → M'.2.2.1 29 q = M.2.2.1 29 q := by
  obtain ⟨M', f1, f2, f3, f4⟩ := cF_7_29 16 0 gFuel M rfl (by omega) (gFu _ (by omega))
  refine ⟨M', ?_, f2, fun j hj => by rw [f3 j hj, if_pos (Nat.zero_le j)], f4⟩
  rw [fX9_carries_7_29]
  exact (congrArg (fun z => Option.bind z (fun u => some (nI 0 + (16 : Int32), u))) f1).trans rfl
theorem cb_7_29 (M : GS) : ∃ M', fX9_carries_7_29 M (nI 0) 1 = some (nI 16, M') ∧ FM 7 7 M M' ∧ (∀ j, j < 16 → M'.2.2.1 7 j = M.2.2.1 29 (0 + j)) := by
  obtain ⟨M', f1, f2, f3⟩ := cB_7_29 16 0 gFuel M rfl (by omega) (gFu _ (by omega))
  refine ⟨M', ?_, f2, fun j hj => by rw [f3 j hj, if_pos (Nat.zero_le j)]⟩
  rw [fX9_carries_7_29]
  exact (congrArg (fun z => Option.bind z (fun u => some (nI 0 + (16 : Int32), u))) f1).trans rfl
theorem cF_8_29 : ∀ (d i fu : Nat) (M : GS), 16 - i = d → i ≤ 16 → d < fu → ∃ M', fX9_carries_8_29_3 fu M (nI 16) 0 (nI i) = some M' ∧ FM 29 29 M M' ∧ (∀ j, j < 16 → M'.2.2.1 29 (16 + j) = if i ≤ j then M.2.2.1 8 j else M.2.2.1 29 (16 + j)) ∧ ∀ q, (q < 16 ∨ 16 + 16 ≤ q) → M'.2.2.1 29 q = M.2.2.1 29 q := by
  intro d
  induction d with
  | zero =>
    intro i fu M hd hi hf
    obtain ⟨fu, rfl⟩ : ∃ q, fu = q + 1 := ⟨fu - 1, by omega⟩
    have e : i = 16 := by omega
    subst e
    refine ⟨M, ?_, FM.rf _ _ M, fun j hj => by rw [if_neg (by omega)], fun _ _ => rfl⟩
    rw [fX9_carries_8_29_3, if_pos (show (16 : Int32) ≤ nI 16 by decide +kernel)]
  | succ d ih =>
    intro i fu M hd hi hf
    obtain ⟨fu, rfl⟩ : ∃ q, fu = q + 1 := ⟨fu - 1, by omega⟩
    have hi16 : i < 16 := by omega
    have hlt : ((16 : Int32) ≤ nI i) = False := (nle_e (a := 16) (by omega) (by omega)).trans (eq_false (by omega))
    obtain ⟨M', f1, f2, f3, f4⟩ := ih (i + 1) fu (gU3 M 29 (16 + i) (M.2.2.1 8 i)) (by omega) (by omega) (by omega)
    refine ⟨M', ?_, (FM.u1 _ _ _ _ _).tr f2, fun j hj => ?_, fun q hq => ?_⟩
    · rw [fX9_carries_8_29_3]
      simp only [hlt, eq_self, i_add, in16 hi16, cl16 hi16, in140 (show 16 + i < 140 by omega), cl140 (show 16 + i < 140 by omega), i_add1, Option.bind_some, ↓reduceIte, km_1, km_2, km_3, km_4, km_5, km_6, km_7, kn_10, kn_20, kn_21]
      exact f1
    · rw [f3 j hj, gU3_n _ _ _ _ _ (by decide), gU3_s, upd_i]
      by_cases q : i + 1 ≤ j
      · rw [if_pos q, if_pos (by omega)]
      · rw [if_neg q]
        by_cases q2 : j = i
        · rw [if_pos (by omega), if_pos (by omega), q2]
        · rw [if_neg (by omega), if_neg (by omega)]
    · rw [f4 q hq, gU3_s, upd_i, if_neg (by omega)]
theorem cB_8_29 : ∀ (d i fu : Nat) (M : GS), 16 - i = d → i ≤ 16 → d < fu → ∃ M', fX9_carries_8_29_3 fu M (nI 16) 1 (nI i) = some M' ∧ FM 8 8 M M' ∧ (∀ j, j < 16 → M'.2.2.1 8 j = if i ≤ j then M.2.2.1 29 (16 + j) else M.2.2.1 8 j) := by
  intro d
  induction d with
  | zero =>
    intro i fu M hd hi hf
    obtain ⟨fu, rfl⟩ : ∃ q, fu = q + 1 := ⟨fu - 1, by omega⟩
    have e : i = 16 := by omega
    subst e
    refine ⟨M, ?_, FM.rf _ _ M, fun j hj => by rw [if_neg (by omega)]⟩
    rw [fX9_carries_8_29_3, if_pos (show (16 : Int32) ≤ nI 16 by decide +kernel)]
  | succ d ih =>
    intro i fu M hd hi hf
    obtain ⟨fu, rfl⟩ : ∃ q, fu = q + 1 := ⟨fu - 1, by omega⟩
    have hi16 : i < 16 := by omega
    have hlt : ((16 : Int32) ≤ nI i) = False := (nle_e (a := 16) (by omega) (by omega)).trans (eq_false (by omega))
    obtain ⟨M', f1, f2, f3⟩ := ih (i + 1) fu (gU3 M 8 i (M.2.2.1 29 (16 + i))) (by omega) (by omega) (by omega)
    refine ⟨M', ?_, (FM.u1 _ _ _ _ _).tr f2, fun j hj => ?_⟩
    · rw [fX9_carries_8_29_3]
      simp only [hlt, kn_10, i_add, in16 hi16, cl16 hi16, in140 (show 16 + i < 140 by omega), cl140 (show 16 + i < 140 by omega), i_add1, Option.bind_some, ↓reduceIte, km_1, km_2, km_3, km_4, km_5, km_6, km_7, kn_10, kn_20, kn_21]
      exact f1
    · rw [f3 j hj, gU3_n _ _ _ _ _ (by decide), gU3_s, upd_i]
      by_cases q : i + 1 ≤ j
      · rw [if_pos q, if_pos (by omega)]
      · rw [if_neg q]
        by_cases q2 : j = i
        · rw [if_pos q2, if_pos (by omega), q2]
        · rw [if_neg q2, if_neg (by omega)]
theorem cf_8_29 (M : GS) : ∃ M', fX9_carries_8_29 M (nI 16) 0 = some (nI 32, M') ∧ FM 29 29 M M' ∧ (∀ j, j < 16 → M'.2.2.1 29 (16 + j) = M.2.2.1 8 j) ∧ ∀ q, (q < 16 ∨ 16 + 16 ≤ q) → M'.2.2.1 29 q = M.2.2.1 29 q := by
  obtain ⟨M', f1, f2, f3, f4⟩ := cF_8_29 16 0 gFuel M rfl (by omega) (gFu _ (by omega))
  refine ⟨M', ?_, f2, fun j hj => by rw [f3 j hj, if_pos (Nat.zero_le j)], f4⟩
  rw [fX9_carries_8_29]
  exact (congrArg (fun z => Option.bind z (fun u => some (nI 16 + (16 : Int32), u))) f1).trans rfl
theorem cb_8_29 (M : GS) : ∃ M', fX9_carries_8_29 M (nI 16) 1 = some (nI 32, M') ∧ FM 8 8 M M' ∧ (∀ j, j < 16 → M'.2.2.1 8 j = M.2.2.1 29 (16 + j)) := by
  obtain ⟨M', f1, f2, f3⟩ := cB_8_29 16 0 gFuel M rfl (by omega) (gFu _ (by omega))
  refine ⟨M', ?_, f2, fun j hj => by rw [f3 j hj, if_pos (Nat.zero_le j)]⟩
  rw [fX9_carries_8_29]
  exact (congrArg (fun z => Option.bind z (fun u => some (nI 16 + (16 : Int32), u))) f1).trans rfl
theorem cF_9_29 : ∀ (d i fu : Nat) (M : GS), 16 - i = d → i ≤ 16 → d < fu → ∃ M', fX9_carries_9_29_3 fu M (nI 32) 0 (nI i) = some M' ∧ FM 29 29 M M' ∧ (∀ j, j < 16 → M'.2.2.1 29 (32 + j) = if i ≤ j then M.2.2.1 9 j else M.2.2.1 29 (32 + j)) ∧ ∀ q, (q < 32 ∨ 32 + 16 ≤ q) → M'.2.2.1 29 q = M.2.2.1 29 q := by
  intro d
  induction d with
  | zero =>
    intro i fu M hd hi hf
    obtain ⟨fu, rfl⟩ : ∃ q, fu = q + 1 := ⟨fu - 1, by omega⟩
    have e : i = 16 := by omega
    subst e
    refine ⟨M, ?_, FM.rf _ _ M, fun j hj => by rw [if_neg (by omega)], fun _ _ => rfl⟩
    rw [fX9_carries_9_29_3, if_pos (show (16 : Int32) ≤ nI 16 by decide +kernel)]
  | succ d ih =>
    intro i fu M hd hi hf
    obtain ⟨fu, rfl⟩ : ∃ q, fu = q + 1 := ⟨fu - 1, by omega⟩
    have hi16 : i < 16 := by omega
    have hlt : ((16 : Int32) ≤ nI i) = False := (nle_e (a := 16) (by omega) (by omega)).trans (eq_false (by omega))
    obtain ⟨M', f1, f2, f3, f4⟩ := ih (i + 1) fu (gU3 M 29 (32 + i) (M.2.2.1 9 i)) (by omega) (by omega) (by omega)
    refine ⟨M', ?_, (FM.u1 _ _ _ _ _).tr f2, fun j hj => ?_, fun q hq => ?_⟩
    · rw [fX9_carries_9_29_3]
      simp only [hlt, eq_self, i_add, in16 hi16, cl16 hi16, in140 (show 32 + i < 140 by omega), cl140 (show 32 + i < 140 by omega), i_add1, Option.bind_some, ↓reduceIte, km_1, km_2, km_3, km_4, km_5, km_6, km_7, kn_10, kn_20, kn_21]
      exact f1
    · rw [f3 j hj, gU3_n _ _ _ _ _ (by decide), gU3_s, upd_i]
      by_cases q : i + 1 ≤ j
      · rw [if_pos q, if_pos (by omega)]
      · rw [if_neg q]
        by_cases q2 : j = i
        · rw [if_pos (by omega), if_pos (by omega), q2]
        · rw [if_neg (by omega), if_neg (by omega)]
    · rw [f4 q hq, gU3_s, upd_i, if_neg (by omega)]
theorem cB_9_29 : ∀ (d i fu : Nat) (M : GS), 16 - i = d → i ≤ 16 → d < fu → ∃ M', fX9_carries_9_29_3 fu M (nI 32) 1 (nI i) = some M' ∧ FM 9 9 M M' ∧ (∀ j, j < 16 → M'.2.2.1 9 j = if i ≤ j then M.2.2.1 29 (32 + j) else M.2.2.1 9 j) := by
  intro d
  induction d with
  | zero =>
    intro i fu M hd hi hf
    obtain ⟨fu, rfl⟩ : ∃ q, fu = q + 1 := ⟨fu - 1, by omega⟩
    have e : i = 16 := by omega
    subst e
    refine ⟨M, ?_, FM.rf _ _ M, fun j hj => by rw [if_neg (by omega)]⟩
    rw [fX9_carries_9_29_3, if_pos (show (16 : Int32) ≤ nI 16 by decide +kernel)]
  | succ d ih =>
    intro i fu M hd hi hf
    obtain ⟨fu, rfl⟩ : ∃ q, fu = q + 1 := ⟨fu - 1, by omega⟩
    have hi16 : i < 16 := by omega
    have hlt : ((16 : Int32) ≤ nI i) = False := (nle_e (a := 16) (by omega) (by omega)).trans (eq_false (by omega))
    obtain ⟨M', f1, f2, f3⟩ := ih (i + 1) fu (gU3 M 9 i (M.2.2.1 29 (32 + i))) (by omega) (by omega) (by omega)
    refine ⟨M', ?_, (FM.u1 _ _ _ _ _).tr f2, fun j hj => ?_⟩
    · rw [fX9_carries_9_29_3]
      simp only [hlt, kn_10, i_add, in16 hi16, cl16 hi16, in140 (show 32 + i < 140 by omega), cl140 (show 32 + i < 140 by omega), i_add1, Option.bind_some, ↓reduceIte, km_1, km_2, km_3, km_4, km_5, km_6, km_7, kn_10, kn_20, kn_21]
      exact f1
    · rw [f3 j hj, gU3_n _ _ _ _ _ (by decide), gU3_s, upd_i]
      by_cases q : i + 1 ≤ j
      · rw [if_pos q, if_pos (by omega)]
      · rw [if_neg q]
        by_cases q2 : j = i
        · rw [if_pos q2, if_pos (by omega), q2]
        · rw [if_neg q2, if_neg (by omega)]
theorem cf_9_29 (M : GS) : ∃ M', fX9_carries_9_29 M (nI 32) 0 = some (nI 48, M') ∧ FM 29 29 M M' ∧ (∀ j, j < 16 → M'.2.2.1 29 (32 + j) = M.2.2.1 9 j) ∧ ∀ q, (q < 32 ∨ 32 + 16 ≤ q) → M'.2.2.1 29 q = M.2.2.1 29 q := by
  obtain ⟨M', f1, f2, f3, f4⟩ := cF_9_29 16 0 gFuel M rfl (by omega) (gFu _ (by omega))
  refine ⟨M', ?_, f2, fun j hj => by rw [f3 j hj, if_pos (Nat.zero_le j)], f4⟩
  rw [fX9_carries_9_29]
  exact (congrArg (fun z => Option.bind z (fun u => some (nI 32 + (16 : Int32), u))) f1).trans rfl
theorem cb_9_29 (M : GS) : ∃ M', fX9_carries_9_29 M (nI 32) 1 = some (nI 48, M') ∧ FM 9 9 M M' ∧ (∀ j, j < 16 → M'.2.2.1 9 j = M.2.2.1 29 (32 + j)) := by
  obtain ⟨M', f1, f2, f3⟩ := cB_9_29 16 0 gFuel M rfl (by omega) (gFu _ (by omega))
  refine ⟨M', ?_, f2, fun j hj => by rw [f3 j hj, if_pos (Nat.zero_le j)]⟩
  rw [fX9_carries_9_29]
  exact (congrArg (fun z => Option.bind z (fun u => some (nI 32 + (16 : Int32), u))) f1).trans rfl
theorem cF_10_29 : ∀ (d i fu : Nat) (M : GS), 16 - i = d → i ≤ 16 → d < fu → ∃ M', fX9_carries_10_29_3 fu M (nI 48) 0 (nI i) = some M' ∧ FM 29 29 M M' ∧ (∀ j, j < 16 → M'.2.2.1 29 (48 + j) = if i ≤ j then M.2.2.1 10 j else M.2.2.1 29 (48 + j)) ∧ ∀ q, (q < 48 ∨ 48 + 16 ≤ q) → M'.2.2.1 29 q = M.2.2.1 29 q := by
  intro d
  induction d with
  | zero =>
    intro i fu M hd hi hf
    obtain ⟨fu, rfl⟩ : ∃ q, fu = q + 1 := ⟨fu - 1, by omega⟩
    have e : i = 16 := by omega
    subst e
    refine ⟨M, ?_, FM.rf _ _ M, fun j hj => by rw [if_neg (by omega)], fun _ _ => rfl⟩
    rw [fX9_carries_10_29_3, if_pos (show (16 : Int32) ≤ nI 16 by decide +kernel)]
  | succ d ih =>
    intro i fu M hd hi hf
    obtain ⟨fu, rfl⟩ : ∃ q, fu = q + 1 := ⟨fu - 1, by omega⟩
    have hi16 : i < 16 := by omega
    have hlt : ((16 : Int32) ≤ nI i) = False := (nle_e (a := 16) (by omega) (by omega)).trans (eq_false (by omega))
    obtain ⟨M', f1, f2, f3, f4⟩ := ih (i + 1) fu (gU3 M 29 (48 + i) (M.2.2.1 10 i)) (by omega) (by omega) (by omega)
    refine ⟨M', ?_, (FM.u1 _ _ _ _ _).tr f2, fun j hj => ?_, fun q hq => ?_⟩
    · rw [fX9_carries_10_29_3]
      simp only [hlt, eq_self, i_add, in16 hi16, cl16 hi16, in140 (show 48 + i < 140 by omega), cl140 (show 48 + i < 140 by omega), i_add1, Option.bind_some, ↓reduceIte, km_1, km_2, km_3, km_4, km_5, km_6, km_7, kn_10, kn_20, kn_21]
      exact f1
    · rw [f3 j hj, gU3_n _ _ _ _ _ (by decide), gU3_s, upd_i]
      by_cases q : i + 1 ≤ j
      · rw [if_pos q, if_pos (by omega)]
      · rw [if_neg q]
        by_cases q2 : j = i
        · rw [if_pos (by omega), if_pos (by omega), q2]
        · rw [if_neg (by omega), if_neg (by omega)]
    · rw [f4 q hq, gU3_s, upd_i, if_neg (by omega)]
theorem cB_10_29 : ∀ (d i fu : Nat) (M : GS), 16 - i = d → i ≤ 16 → d < fu → ∃ M', fX9_carries_10_29_3 fu M (nI 48) 1 (nI i) = some M' ∧ FM 10 10 M M' ∧ (∀ j, j < 16 → M'.2.2.1 10 j = if i ≤ j then M.2.2.1 29 (48 + j) else M.2.2.1 10 j) := by
  intro d
  induction d with
  | zero =>
    intro i fu M hd hi hf
    obtain ⟨fu, rfl⟩ : ∃ q, fu = q + 1 := ⟨fu - 1, by omega⟩
    have e : i = 16 := by omega
    subst e
    refine ⟨M, ?_, FM.rf _ _ M, fun j hj => by rw [if_neg (by omega)]⟩
    rw [fX9_carries_10_29_3, if_pos (show (16 : Int32) ≤ nI 16 by decide +kernel)]
  | succ d ih =>
    intro i fu M hd hi hf
    obtain ⟨fu, rfl⟩ : ∃ q, fu = q + 1 := ⟨fu - 1, by omega⟩
    have hi16 : i < 16 := by omega
    have hlt : ((16 : Int32) ≤ nI i) = False := (nle_e (a := 16) (by omega) (by omega)).trans (eq_false (by omega))
    obtain ⟨M', f1, f2, f3⟩ := ih (i + 1) fu (gU3 M 10 i (M.2.2.1 29 (48 + i))) (by omega) (by omega) (by omega)
    refine ⟨M', ?_, (FM.u1 _ _ _ _ _).tr f2, fun j hj => ?_⟩
    · rw [fX9_carries_10_29_3]
      simp only [hlt, kn_10, i_add, in16 hi16, cl16 hi16, in140 (show 48 + i < 140 by omega), cl140 (show 48 + i < 140 by omega), i_add1, Option.bind_some, ↓reduceIte, km_1, km_2, km_3, km_4, km_5, km_6, km_7, kn_10, kn_20, kn_21]
      exact f1
    · rw [f3 j hj, gU3_n _ _ _ _ _ (by decide), gU3_s, upd_i]
      by_cases q : i + 1 ≤ j
      · rw [if_pos q, if_pos (by omega)]
      · rw [if_neg q]
        by_cases q2 : j = i
        · rw [if_pos q2, if_pos (by omega), q2]
        · rw [if_neg q2, if_neg (by omega)]
theorem cf_10_29 (M : GS) : ∃ M', fX9_carries_10_29 M (nI 48) 0 = some (nI 64, M') ∧ FM 29 29 M M' ∧ (∀ j, j < 16 → M'.2.2.1 29 (48 + j) = M.2.2.1 10 j) ∧ ∀ q, (q < 48 ∨ 48 + 16 ≤ q) → M'.2.2.1 29 q = M.2.2.1 29 q := by
  obtain ⟨M', f1, f2, f3, f4⟩ := cF_10_29 16 0 gFuel M rfl (by omega) (gFu _ (by omega))
  refine ⟨M', ?_, f2, fun j hj => by rw [f3 j hj, if_pos (Nat.zero_le j)], f4⟩
  rw [fX9_carries_10_29]
  exact (congrArg (fun z => Option.bind z (fun u => some (nI 48 + (16 : Int32), u))) f1).trans rfl
theorem cb_10_29 (M : GS) : ∃ M', fX9_carries_10_29 M (nI 48) 1 = some (nI 64, M') ∧ FM 10 10 M M' ∧ (∀ j, j < 16 → M'.2.2.1 10 j = M.2.2.1 29 (48 + j)) := by
  obtain ⟨M', f1, f2, f3⟩ := cB_10_29 16 0 gFuel M rfl (by omega) (gFu _ (by omega))
  refine ⟨M', ?_, f2, fun j hj => by rw [f3 j hj, if_pos (Nat.zero_le j)]⟩
  rw [fX9_carries_10_29]
  exact (congrArg (fun z => Option.bind z (fun u => some (nI 48 + (16 : Int32), u))) f1).trans rfl
theorem cF_11_29 : ∀ (d i fu : Nat) (M : GS), 16 - i = d → i ≤ 16 → d < fu → ∃ M', fX9_carries_11_29_3 fu M (nI 64) 0 (nI i) = some M' ∧ FM 29 29 M M' ∧ (∀ j, j < 16 → M'.2.2.1 29 (64 + j) = if i ≤ j then M.2.2.1 11 j else M.2.2.1 29 (64 + j)) ∧ ∀ q, (q < 64 ∨ 64 + 16 ≤ q) → M'.2.2.1 29 q = M.2.2.1 29 q := by
  intro d
  induction d with
  | zero =>
    intro i fu M hd hi hf
    obtain ⟨fu, rfl⟩ : ∃ q, fu = q + 1 := ⟨fu - 1, by omega⟩
    have e : i = 16 := by omega
    subst e
    refine ⟨M, ?_, FM.rf _ _ M, fun j hj => by rw [if_neg (by omega)], fun _ _ => rfl⟩
    rw [fX9_carries_11_29_3, if_pos (show (16 : Int32) ≤ nI 16 by decide +kernel)]
  | succ d ih =>
    intro i fu M hd hi hf
    obtain ⟨fu, rfl⟩ : ∃ q, fu = q + 1 := ⟨fu - 1, by omega⟩
    have hi16 : i < 16 := by omega
    have hlt : ((16 : Int32) ≤ nI i) = False := (nle_e (a := 16) (by omega) (by omega)).trans (eq_false (by omega))
    obtain ⟨M', f1, f2, f3, f4⟩ := ih (i + 1) fu (gU3 M 29 (64 + i) (M.2.2.1 11 i)) (by omega) (by omega) (by omega)
    refine ⟨M', ?_, (FM.u1 _ _ _ _ _).tr f2, fun j hj => ?_, fun q hq => ?_⟩
    · rw [fX9_carries_11_29_3]
      simp only [hlt, eq_self, i_add, in16 hi16, cl16 hi16, in140 (show 64 + i < 140 by omega), cl140 (show 64 + i < 140 by omega), i_add1, Option.bind_some, ↓reduceIte, km_1, km_2, km_3, km_4, km_5, km_6, km_7, kn_10, kn_20, kn_21]
      exact f1
    · rw [f3 j hj, gU3_n _ _ _ _ _ (by decide), gU3_s, upd_i]
      by_cases q : i + 1 ≤ j
      · rw [if_pos q, if_pos (by omega)]
      · rw [if_neg q]
        by_cases q2 : j = i
        · rw [if_pos (by omega), if_pos (by omega), q2]
        · rw [if_neg (by omega), if_neg (by omega)]
    · rw [f4 q hq, gU3_s, upd_i, if_neg (by omega)]
theorem cB_11_29 : ∀ (d i fu : Nat) (M : GS), 16 - i = d → i ≤ 16 → d < fu → ∃ M', fX9_carries_11_29_3 fu M (nI 64) 1 (nI i) = some M' ∧ FM 11 11 M M' ∧ (∀ j, j < 16 → M'.2.2.1 11 j = if i ≤ j then M.2.2.1 29 (64 + j) else M.2.2.1 11 j) := by
  intro d
  induction d with
  | zero =>
    intro i fu M hd hi hf
    obtain ⟨fu, rfl⟩ : ∃ q, fu = q + 1 := ⟨fu - 1, by omega⟩
    have e : i = 16 := by omega
    subst e
    refine ⟨M, ?_, FM.rf _ _ M, fun j hj => by rw [if_neg (by omega)]⟩
    rw [fX9_carries_11_29_3, if_pos (show (16 : Int32) ≤ nI 16 by decide +kernel)]
  | succ d ih =>
    intro i fu M hd hi hf
    obtain ⟨fu, rfl⟩ : ∃ q, fu = q + 1 := ⟨fu - 1, by omega⟩
    have hi16 : i < 16 := by omega
    have hlt : ((16 : Int32) ≤ nI i) = False := (nle_e (a := 16) (by omega) (by omega)).trans (eq_false (by omega))
    obtain ⟨M', f1, f2, f3⟩ := ih (i + 1) fu (gU3 M 11 i (M.2.2.1 29 (64 + i))) (by omega) (by omega) (by omega)
    refine ⟨M', ?_, (FM.u1 _ _ _ _ _).tr f2, fun j hj => ?_⟩
    · rw [fX9_carries_11_29_3]
      simp only [hlt, kn_10, i_add, in16 hi16, cl16 hi16, in140 (show 64 + i < 140 by omega), cl140 (show 64 + i < 140 by omega), i_add1, Option.bind_some, ↓reduceIte, km_1, km_2, km_3, km_4, km_5, km_6, km_7, kn_10, kn_20, kn_21]
      exact f1
    · rw [f3 j hj, gU3_n _ _ _ _ _ (by decide), gU3_s, upd_i]
      by_cases q : i + 1 ≤ j
      · rw [if_pos q, if_pos (by omega)]
      · rw [if_neg q]
        by_cases q2 : j = i
        · rw [if_pos q2, if_pos (by omega), q2]
        · rw [if_neg q2, if_neg (by omega)]
theorem cf_11_29 (M : GS) : ∃ M', fX9_carries_11_29 M (nI 64) 0 = some (nI 80, M') ∧ FM 29 29 M M' ∧ (∀ j, j < 16 → M'.2.2.1 29 (64 + j) = M.2.2.1 11 j) ∧ ∀ q, (q < 64 ∨ 64 + 16 ≤ q) → M'.2.2.1 29 q = M.2.2.1 29 q := by
  obtain ⟨M', f1, f2, f3, f4⟩ := cF_11_29 16 0 gFuel M rfl (by omega) (gFu _ (by omega))
  refine ⟨M', ?_, f2, fun j hj => by rw [f3 j hj, if_pos (Nat.zero_le j)], f4⟩
  rw [fX9_carries_11_29]
  exact (congrArg (fun z => Option.bind z (fun u => some (nI 64 + (16 : Int32), u))) f1).trans rfl
theorem cb_11_29 (M : GS) : ∃ M', fX9_carries_11_29 M (nI 64) 1 = some (nI 80, M') ∧ FM 11 11 M M' ∧ (∀ j, j < 16 → M'.2.2.1 11 j = M.2.2.1 29 (64 + j)) := by
  obtain ⟨M', f1, f2, f3⟩ := cB_11_29 16 0 gFuel M rfl (by omega) (gFu _ (by omega))
  refine ⟨M', ?_, f2, fun j hj => by rw [f3 j hj, if_pos (Nat.zero_le j)]⟩
  rw [fX9_carries_11_29]
  exact (congrArg (fun z => Option.bind z (fun u => some (nI 64 + (16 : Int32), u))) f1).trans rfl
theorem cF_12_29 : ∀ (d i fu : Nat) (M : GS), 16 - i = d → i ≤ 16 → d < fu → ∃ M', fX9_carries_12_29_3 fu M (nI 80) 0 (nI i) = some M' ∧ FM 29 29 M M' ∧ (∀ j, j < 16 → M'.2.2.1 29 (80 + j) = if i ≤ j then M.2.2.1 12 j else M.2.2.1 29 (80 + j)) ∧ ∀ q, (q < 80 ∨ 80 + 16 ≤ q) → M'.2.2.1 29 q = M.2.2.1 29 q := by
  intro d
  induction d with
  | zero =>
    intro i fu M hd hi hf
    obtain ⟨fu, rfl⟩ : ∃ q, fu = q + 1 := ⟨fu - 1, by omega⟩
    have e : i = 16 := by omega
    subst e
    refine ⟨M, ?_, FM.rf _ _ M, fun j hj => by rw [if_neg (by omega)], fun _ _ => rfl⟩
    rw [fX9_carries_12_29_3, if_pos (show (16 : Int32) ≤ nI 16 by decide +kernel)]
  | succ d ih =>
    intro i fu M hd hi hf
    obtain ⟨fu, rfl⟩ : ∃ q, fu = q + 1 := ⟨fu - 1, by omega⟩
    have hi16 : i < 16 := by omega
    have hlt : ((16 : Int32) ≤ nI i) = False := (nle_e (a := 16) (by omega) (by omega)).trans (eq_false (by omega))
    obtain ⟨M', f1, f2, f3, f4⟩ := ih (i + 1) fu (gU3 M 29 (80 + i) (M.2.2.1 12 i)) (by omega) (by omega) (by omega)
    refine ⟨M', ?_, (FM.u1 _ _ _ _ _).tr f2, fun j hj => ?_, fun q hq => ?_⟩
    · rw [fX9_carries_12_29_3]
      simp only [hlt, eq_self, i_add, in16 hi16, cl16 hi16, in140 (show 80 + i < 140 by omega), cl140 (show 80 + i < 140 by omega), i_add1, Option.bind_some, ↓reduceIte, km_1, km_2, km_3, km_4, km_5, km_6, km_7, kn_10, kn_20, kn_21]
      exact f1
    · rw [f3 j hj, gU3_n _ _ _ _ _ (by decide), gU3_s, upd_i]
      by_cases q : i + 1 ≤ j
      · rw [if_pos q, if_pos (by omega)]
      · rw [if_neg q]
        by_cases q2 : j = i
        · rw [if_pos (by omega), if_pos (by omega), q2]
        · rw [if_neg (by omega), if_neg (by omega)]
    · rw [f4 q hq, gU3_s, upd_i, if_neg (by omega)]
theorem cB_12_29 : ∀ (d i fu : Nat) (M : GS), 16 - i = d → i ≤ 16 → d < fu → ∃ M', fX9_carries_12_29_3 fu M (nI 80) 1 (nI i) = some M' ∧ FM 12 12 M M' ∧ (∀ j, j < 16 → M'.2.2.1 12 j = if i ≤ j then M.2.2.1 29 (80 + j) else M.2.2.1 12 j) := by
  intro d
  induction d with
  | zero =>
    intro i fu M hd hi hf
    obtain ⟨fu, rfl⟩ : ∃ q, fu = q + 1 := ⟨fu - 1, by omega⟩
    have e : i = 16 := by omega
    subst e
    refine ⟨M, ?_, FM.rf _ _ M, fun j hj => by rw [if_neg (by omega)]⟩
    rw [fX9_carries_12_29_3, if_pos (show (16 : Int32) ≤ nI 16 by decide +kernel)]
  | succ d ih =>
    intro i fu M hd hi hf
    obtain ⟨fu, rfl⟩ : ∃ q, fu = q + 1 := ⟨fu - 1, by omega⟩
    have hi16 : i < 16 := by omega
    have hlt : ((16 : Int32) ≤ nI i) = False := (nle_e (a := 16) (by omega) (by omega)).trans (eq_false (by omega))
    obtain ⟨M', f1, f2, f3⟩ := ih (i + 1) fu (gU3 M 12 i (M.2.2.1 29 (80 + i))) (by omega) (by omega) (by omega)
    refine ⟨M', ?_, (FM.u1 _ _ _ _ _).tr f2, fun j hj => ?_⟩
    · rw [fX9_carries_12_29_3]
      simp only [hlt, kn_10, i_add, in16 hi16, cl16 hi16, in140 (show 80 + i < 140 by omega), cl140 (show 80 + i < 140 by omega), i_add1, Option.bind_some, ↓reduceIte, km_1, km_2, km_3, km_4, km_5, km_6, km_7, kn_10, kn_20, kn_21]
      exact f1
    · rw [f3 j hj, gU3_n _ _ _ _ _ (by decide), gU3_s, upd_i]
      by_cases q : i + 1 ≤ j
      · rw [if_pos q, if_pos (by omega)]
      · rw [if_neg q]
        by_cases q2 : j = i
        · rw [if_pos q2, if_pos (by omega), q2]
        · rw [if_neg q2, if_neg (by omega)]
theorem cf_12_29 (M : GS) : ∃ M', fX9_carries_12_29 M (nI 80) 0 = some (nI 96, M') ∧ FM 29 29 M M' ∧ (∀ j, j < 16 → M'.2.2.1 29 (80 + j) = M.2.2.1 12 j) ∧ ∀ q, (q < 80 ∨ 80 + 16 ≤ q) → M'.2.2.1 29 q = M.2.2.1 29 q := by
  obtain ⟨M', f1, f2, f3, f4⟩ := cF_12_29 16 0 gFuel M rfl (by omega) (gFu _ (by omega))
  refine ⟨M', ?_, f2, fun j hj => by rw [f3 j hj, if_pos (Nat.zero_le j)], f4⟩
  rw [fX9_carries_12_29]
  exact (congrArg (fun z => Option.bind z (fun u => some (nI 80 + (16 : Int32), u))) f1).trans rfl
theorem cb_12_29 (M : GS) : ∃ M', fX9_carries_12_29 M (nI 80) 1 = some (nI 96, M') ∧ FM 12 12 M M' ∧ (∀ j, j < 16 → M'.2.2.1 12 j = M.2.2.1 29 (80 + j)) := by
  obtain ⟨M', f1, f2, f3⟩ := cB_12_29 16 0 gFuel M rfl (by omega) (gFu _ (by omega))
  refine ⟨M', ?_, f2, fun j hj => by rw [f3 j hj, if_pos (Nat.zero_le j)]⟩
  rw [fX9_carries_12_29]
  exact (congrArg (fun z => Option.bind z (fun u => some (nI 80 + (16 : Int32), u))) f1).trans rfl
theorem cF_13_29 : ∀ (d i fu : Nat) (M : GS), 16 - i = d → i ≤ 16 → d < fu → ∃ M', fX9_carries_13_29_3 fu M (nI 96) 0 (nI i) = some M' ∧ FM 29 29 M M' ∧ (∀ j, j < 16 → M'.2.2.1 29 (96 + j) = if i ≤ j then M.2.2.1 13 j else M.2.2.1 29 (96 + j)) ∧ ∀ q, (q < 96 ∨ 96 + 16 ≤ q) → M'.2.2.1 29 q = M.2.2.1 29 q := by
  intro d
  induction d with
  | zero =>
    intro i fu M hd hi hf
    obtain ⟨fu, rfl⟩ : ∃ q, fu = q + 1 := ⟨fu - 1, by omega⟩
    have e : i = 16 := by omega
    subst e
    refine ⟨M, ?_, FM.rf _ _ M, fun j hj => by rw [if_neg (by omega)], fun _ _ => rfl⟩
    rw [fX9_carries_13_29_3, if_pos (show (16 : Int32) ≤ nI 16 by decide +kernel)]
  | succ d ih =>
    intro i fu M hd hi hf
    obtain ⟨fu, rfl⟩ : ∃ q, fu = q + 1 := ⟨fu - 1, by omega⟩
    have hi16 : i < 16 := by omega
    have hlt : ((16 : Int32) ≤ nI i) = False := (nle_e (a := 16) (by omega) (by omega)).trans (eq_false (by omega))
    obtain ⟨M', f1, f2, f3, f4⟩ := ih (i + 1) fu (gU3 M 29 (96 + i) (M.2.2.1 13 i)) (by omega) (by omega) (by omega)
    refine ⟨M', ?_, (FM.u1 _ _ _ _ _).tr f2, fun j hj => ?_, fun q hq => ?_⟩
    · rw [fX9_carries_13_29_3]
      simp only [hlt, eq_self, i_add, in16 hi16, cl16 hi16, in140 (show 96 + i < 140 by omega), cl140 (show 96 + i < 140 by omega), i_add1, Option.bind_some, ↓reduceIte, km_1, km_2, km_3, km_4, km_5, km_6, km_7, kn_10, kn_20, kn_21]
      exact f1
    · rw [f3 j hj, gU3_n _ _ _ _ _ (by decide), gU3_s, upd_i]
      by_cases q : i + 1 ≤ j
      · rw [if_pos q, if_pos (by omega)]
      · rw [if_neg q]
        by_cases q2 : j = i
        · rw [if_pos (by omega), if_pos (by omega), q2]
        · rw [if_neg (by omega), if_neg (by omega)]
    · rw [f4 q hq, gU3_s, upd_i, if_neg (by omega)]
theorem cB_13_29 : ∀ (d i fu : Nat) (M : GS), 16 - i = d → i ≤ 16 → d < fu → ∃ M', fX9_carries_13_29_3 fu M (nI 96) 1 (nI i) = some M' ∧ FM 13 13 M M' ∧ (∀ j, j < 16 → M'.2.2.1 13 j = if i ≤ j then M.2.2.1 29 (96 + j) else M.2.2.1 13 j) := by
  intro d
  induction d with
  | zero =>
    intro i fu M hd hi hf
    obtain ⟨fu, rfl⟩ : ∃ q, fu = q + 1 := ⟨fu - 1, by omega⟩
    have e : i = 16 := by omega
    subst e
    refine ⟨M, ?_, FM.rf _ _ M, fun j hj => by rw [if_neg (by omega)]⟩
    rw [fX9_carries_13_29_3, if_pos (show (16 : Int32) ≤ nI 16 by decide +kernel)]
  | succ d ih =>
    intro i fu M hd hi hf
    obtain ⟨fu, rfl⟩ : ∃ q, fu = q + 1 := ⟨fu - 1, by omega⟩
    have hi16 : i < 16 := by omega
    have hlt : ((16 : Int32) ≤ nI i) = False := (nle_e (a := 16) (by omega) (by omega)).trans (eq_false (by omega))
    obtain ⟨M', f1, f2, f3⟩ := ih (i + 1) fu (gU3 M 13 i (M.2.2.1 29 (96 + i))) (by omega) (by omega) (by omega)
    refine ⟨M', ?_, (FM.u1 _ _ _ _ _).tr f2, fun j hj => ?_⟩
    · rw [fX9_carries_13_29_3]
      simp only [hlt, kn_10, i_add, in16 hi16, cl16 hi16, in140 (show 96 + i < 140 by omega), cl140 (show 96 + i < 140 by omega), i_add1, Option.bind_some, ↓reduceIte, km_1, km_2, km_3, km_4, km_5, km_6, km_7, kn_10, kn_20, kn_21]
      exact f1
    · rw [f3 j hj, gU3_n _ _ _ _ _ (by decide), gU3_s, upd_i]
      by_cases q : i + 1 ≤ j
      · rw [if_pos q, if_pos (by omega)]
      · rw [if_neg q]
        by_cases q2 : j = i
        · rw [if_pos q2, if_pos (by omega), q2]
        · rw [if_neg q2, if_neg (by omega)]
theorem cf_13_29 (M : GS) : ∃ M', fX9_carries_13_29 M (nI 96) 0 = some (nI 112, M') ∧ FM 29 29 M M' ∧ (∀ j, j < 16 → M'.2.2.1 29 (96 + j) = M.2.2.1 13 j) ∧ ∀ q, (q < 96 ∨ 96 + 16 ≤ q) → M'.2.2.1 29 q = M.2.2.1 29 q := by
  obtain ⟨M', f1, f2, f3, f4⟩ := cF_13_29 16 0 gFuel M rfl (by omega) (gFu _ (by omega))
  refine ⟨M', ?_, f2, fun j hj => by rw [f3 j hj, if_pos (Nat.zero_le j)], f4⟩
  rw [fX9_carries_13_29]
  exact (congrArg (fun z => Option.bind z (fun u => some (nI 96 + (16 : Int32), u))) f1).trans rfl
theorem cb_13_29 (M : GS) : ∃ M', fX9_carries_13_29 M (nI 96) 1 = some (nI 112, M') ∧ FM 13 13 M M' ∧ (∀ j, j < 16 → M'.2.2.1 13 j = M.2.2.1 29 (96 + j)) := by
  obtain ⟨M', f1, f2, f3⟩ := cB_13_29 16 0 gFuel M rfl (by omega) (gFu _ (by omega))
  refine ⟨M', ?_, f2, fun j hj => by rw [f3 j hj, if_pos (Nat.zero_le j)]⟩
  rw [fX9_carries_13_29]
  exact (congrArg (fun z => Option.bind z (fun u => some (nI 96 + (16 : Int32), u))) f1).trans rfl
theorem cF_14_29 : ∀ (d i fu : Nat) (M : GS), 16 - i = d → i ≤ 16 → d < fu → ∃ M', fX9_carries_14_29_3 fu M (nI 112) 0 (nI i) = some M' ∧ FM 29 29 M M' ∧ (∀ j, j < 16 → M'.2.2.1 29 (112 + j) = if i ≤ j then M.2.2.1 14 j else M.2.2.1 29 (112 + j)) ∧ ∀ q, (q < 112 ∨ 112 + 16 ≤ q) → M'.2.2.1 29 q = M.2.2.1 29 q := by
  intro d
  induction d with
  | zero =>
    intro i fu M hd hi hf
    obtain ⟨fu, rfl⟩ : ∃ q, fu = q + 1 := ⟨fu - 1, by omega⟩
    have e : i = 16 := by omega
    subst e
    refine ⟨M, ?_, FM.rf _ _ M, fun j hj => by rw [if_neg (by omega)], fun _ _ => rfl⟩
    rw [fX9_carries_14_29_3, if_pos (show (16 : Int32) ≤ nI 16 by decide +kernel)]
  | succ d ih =>
    intro i fu M hd hi hf
    obtain ⟨fu, rfl⟩ : ∃ q, fu = q + 1 := ⟨fu - 1, by omega⟩
    have hi16 : i < 16 := by omega
    have hlt : ((16 : Int32) ≤ nI i) = False := (nle_e (a := 16) (by omega) (by omega)).trans (eq_false (by omega))
    obtain ⟨M', f1, f2, f3, f4⟩ := ih (i + 1) fu (gU3 M 29 (112 + i) (M.2.2.1 14 i)) (by omega) (by omega) (by omega)
    refine ⟨M', ?_, (FM.u1 _ _ _ _ _).tr f2, fun j hj => ?_, fun q hq => ?_⟩
    · rw [fX9_carries_14_29_3]
      simp only [hlt, eq_self, i_add, in16 hi16, cl16 hi16, in140 (show 112 + i < 140 by omega), cl140 (show 112 + i < 140 by omega), i_add1, Option.bind_some, ↓reduceIte, km_1, km_2, km_3, km_4, km_5, km_6, km_7, kn_10, kn_20, kn_21]
      exact f1
    · rw [f3 j hj, gU3_n _ _ _ _ _ (by decide), gU3_s, upd_i]
      by_cases q : i + 1 ≤ j
      · rw [if_pos q, if_pos (by omega)]
      · rw [if_neg q]
        by_cases q2 : j = i
        · rw [if_pos (by omega), if_pos (by omega), q2]
        · rw [if_neg (by omega), if_neg (by omega)]
    · rw [f4 q hq, gU3_s, upd_i, if_neg (by omega)]
theorem cB_14_29 : ∀ (d i fu : Nat) (M : GS), 16 - i = d → i ≤ 16 → d < fu → ∃ M', fX9_carries_14_29_3 fu M (nI 112) 1 (nI i) = some M' ∧ FM 14 14 M M' ∧ (∀ j, j < 16 → M'.2.2.1 14 j = if i ≤ j then M.2.2.1 29 (112 + j) else M.2.2.1 14 j) := by
  intro d
  induction d with
  | zero =>
    intro i fu M hd hi hf
    obtain ⟨fu, rfl⟩ : ∃ q, fu = q + 1 := ⟨fu - 1, by omega⟩
    have e : i = 16 := by omega
    subst e
    refine ⟨M, ?_, FM.rf _ _ M, fun j hj => by rw [if_neg (by omega)]⟩
    rw [fX9_carries_14_29_3, if_pos (show (16 : Int32) ≤ nI 16 by decide +kernel)]
  | succ d ih =>
    intro i fu M hd hi hf
    obtain ⟨fu, rfl⟩ : ∃ q, fu = q + 1 := ⟨fu - 1, by omega⟩
    have hi16 : i < 16 := by omega
    have hlt : ((16 : Int32) ≤ nI i) = False := (nle_e (a := 16) (by omega) (by omega)).trans (eq_false (by omega))
    obtain ⟨M', f1, f2, f3⟩ := ih (i + 1) fu (gU3 M 14 i (M.2.2.1 29 (112 + i))) (by omega) (by omega) (by omega)
    refine ⟨M', ?_, (FM.u1 _ _ _ _ _).tr f2, fun j hj => ?_⟩
    · rw [fX9_carries_14_29_3]
      simp only [hlt, kn_10, i_add, in16 hi16, cl16 hi16, in140 (show 112 + i < 140 by omega), cl140 (show 112 + i < 140 by omega), i_add1, Option.bind_some, ↓reduceIte, km_1, km_2, km_3, km_4, km_5, km_6, km_7, kn_10, kn_20, kn_21]
      exact f1
    · rw [f3 j hj, gU3_n _ _ _ _ _ (by decide), gU3_s, upd_i]
      by_cases q : i + 1 ≤ j
      · rw [if_pos q, if_pos (by omega)]
      · rw [if_neg q]
        by_cases q2 : j = i
        · rw [if_pos q2, if_pos (by omega), q2]
        · rw [if_neg q2, if_neg (by omega)]
theorem cf_14_29 (M : GS) : ∃ M', fX9_carries_14_29 M (nI 112) 0 = some (nI 128, M') ∧ FM 29 29 M M' ∧ (∀ j, j < 16 → M'.2.2.1 29 (112 + j) = M.2.2.1 14 j) ∧ ∀ q, (q < 112 ∨ 112 + 16 ≤ q) → M'.2.2.1 29 q = M.2.2.1 29 q := by
  obtain ⟨M', f1, f2, f3, f4⟩ := cF_14_29 16 0 gFuel M rfl (by omega) (gFu _ (by omega))
  refine ⟨M', ?_, f2, fun j hj => by rw [f3 j hj, if_pos (Nat.zero_le j)], f4⟩
  rw [fX9_carries_14_29]
  exact (congrArg (fun z => Option.bind z (fun u => some (nI 112 + (16 : Int32), u))) f1).trans rfl
theorem cb_14_29 (M : GS) : ∃ M', fX9_carries_14_29 M (nI 112) 1 = some (nI 128, M') ∧ FM 14 14 M M' ∧ (∀ j, j < 16 → M'.2.2.1 14 j = M.2.2.1 29 (112 + j)) := by
  obtain ⟨M', f1, f2, f3⟩ := cB_14_29 16 0 gFuel M rfl (by omega) (gFu _ (by omega))
  refine ⟨M', ?_, f2, fun j hj => by rw [f3 j hj, if_pos (Nat.zero_le j)]⟩
  rw [fX9_carries_14_29]
  exact (congrArg (fun z => Option.bind z (fun u => some (nI 112 + (16 : Int32), u))) f1).trans rfl
theorem m_all0_29 (M : GS) : ∃ M', fX9_all_29 M 0 = some M' ∧ FM 29 29 M M' ∧ M'.2.2.1 29 128 = M.1 0 ∧ M'.2.2.1 29 129 = M.1 1 ∧ M'.2.2.1 29 130 = M.1 2 ∧ M'.2.2.1 29 131 = M.1 3 ∧ M'.2.2.1 29 132 = M.1 4 ∧ ∀ j, j < 16 → M'.2.2.1 29 (0 + j) = M.2.2.1 7 j ∧ M'.2.2.1 29 (16 + j) = M.2.2.1 8 j ∧ M'.2.2.1 29 (32 + j) = M.2.2.1 9 j ∧ M'.2.2.1 29 (48 + j) = M.2.2.1 10 j ∧ M'.2.2.1 29 (64 + j) = M.2.2.1 11 j ∧ M'.2.2.1 29 (80 + j) = M.2.2.1 12 j ∧ M'.2.2.1 29 (96 + j) = M.2.2.1 13 j ∧ M'.2.2.1 29 (112 + j) = M.2.2.1 14 j := by
  obtain ⟨M1, a1, f1, v1, o1⟩ := cf_7_29 M
  obtain ⟨M2, a2, f2, v2, o2⟩ := cf_8_29 M1
  obtain ⟨M3, a3, f3, v3, o3⟩ := cf_9_29 M2
  obtain ⟨M4, a4, f4, v4, o4⟩ := cf_10_29 M3
  obtain ⟨M5, a5, f5, v5, o5⟩ := cf_11_29 M4
  obtain ⟨M6, a6, f6, v6, o6⟩ := cf_12_29 M5
  obtain ⟨M7, a7, f7, v7, o7⟩ := cf_13_29 M6
  obtain ⟨M8, a8, f8, v8, o8⟩ := cf_14_29 M7
  rw [show nI 0 = (0 : Int32) from rfl] at a1
  have q1 : M8.1 = M.1 := by rw [f8.1, f7.1, f6.1, f5.1, f4.1, f3.1, f2.1, f1.1]
  refine ⟨(gU3 (gU3 (gU3 (gU3 (gU3 M8 29 128 (M.1 0)) 29 129 (M.1 1)) 29 130 (M.1 2)) 29 131 (M.1 3)) 29 132 (M.1 4)), ?_, ?_, ?_, ?_, ?_, ?_, ?_, fun j hj => ?_⟩
  · simp only [fX9_all_29, a1, a2, a3, a4, a5, a6, a7, a8, eq_self, n128_1, n128_2, n128_3, n128_4, in140 (show 128 < 140 by decide), cl140 (show 128 < 140 by decide), in140 (show 129 < 140 by decide), cl140 (show 129 < 140 by decide), in140 (show 130 < 140 by decide), cl140 (show 130 < 140 by decide), in140 (show 131 < 140 by decide), cl140 (show 131 < 140 by decide), in140 (show 132 < 140 by decide), cl140 (show 132 < 140 by decide), gLet_eq, gU3_1, q1, Option.bind_some, ↓reduceIte, km_1, km_2, km_3, km_4, km_5, km_6, km_7, kn_10, kn_20, kn_21]
  · exact ((((((((((((f1.tr f2).tr f3).tr f4).tr f5).tr f6).tr f7).tr f8).tr (FM.u1 _ _ _ _ _)).tr (FM.u1 _ _ _ _ _)).tr (FM.u1 _ _ _ _ _)).tr (FM.u1 _ _ _ _ _)).tr (FM.u1 _ _ _ _ _))
  · simp (disch := omega) only [gU3_s, upd_i, if_yes, if_no, ↓reduceIte]
  · simp (disch := omega) only [gU3_s, upd_i, if_yes, if_no, ↓reduceIte]
  · simp (disch := omega) only [gU3_s, upd_i, if_yes, if_no, ↓reduceIte]
  · simp (disch := omega) only [gU3_s, upd_i, if_yes, if_no, ↓reduceIte]
  · simp (disch := omega) only [gU3_s, upd_i, if_yes, if_no, ↓reduceIte]
  · refine ⟨?_, ?_, ?_, ?_, ?_, ?_, ?_, ?_⟩
    · simp (disch := omega) only [gU3_s, upd_i, if_no]
      rw [o8 _ (by omega), o7 _ (by omega), o6 _ (by omega), o5 _ (by omega), o4 _ (by omega), o3 _ (by omega), o2 _ (by omega), v1 j hj]
    · simp (disch := omega) only [gU3_s, upd_i, if_no]
      rw [o8 _ (by omega), o7 _ (by omega), o6 _ (by omega), o5 _ (by omega), o4 _ (by omega), o3 _ (by omega), v2 j hj, f1.2.2.2 8 (by decide) (by decide)]
    · simp (disch := omega) only [gU3_s, upd_i, if_no]
      rw [o8 _ (by omega), o7 _ (by omega), o6 _ (by omega), o5 _ (by omega), o4 _ (by omega), v3 j hj, f2.2.2.2 9 (by decide) (by decide), f1.2.2.2 9 (by decide) (by decide)]
    · simp (disch := omega) only [gU3_s, upd_i, if_no]
      rw [o8 _ (by omega), o7 _ (by omega), o6 _ (by omega), o5 _ (by omega), v4 j hj, f3.2.2.2 10 (by decide) (by decide), f2.2.2.2 10 (by decide) (by decide), f1.2.2.2 10 (by decide) (by decide)]
    · simp (disch := omega) only [gU3_s, upd_i, if_no]
      rw [o8 _ (by omega), o7 _ (by omega), o6 _ (by omega), v5 j hj, f4.2.2.2 11 (by decide) (by decide), f3.2.2.2 11 (by decide) (by decide), f2.2.2.2 11 (by decide) (by decide), f1.2.2.2 11 (by decide) (by decide)]
    · simp (disch := omega) only [gU3_s, upd_i, if_no]
      rw [o8 _ (by omega), o7 _ (by omega), v6 j hj, f5.2.2.2 12 (by decide) (by decide), f4.2.2.2 12 (by decide) (by decide), f3.2.2.2 12 (by decide) (by decide), f2.2.2.2 12 (by decide) (by decide), f1.2.2.2 12 (by decide) (by decide)]
    · simp (disch := omega) only [gU3_s, upd_i, if_no]
      rw [o8 _ (by omega), v7 j hj, f6.2.2.2 13 (by decide) (by decide), f5.2.2.2 13 (by decide) (by decide), f4.2.2.2 13 (by decide) (by decide), f3.2.2.2 13 (by decide) (by decide), f2.2.2.2 13 (by decide) (by decide), f1.2.2.2 13 (by decide) (by decide)]
    · simp (disch := omega) only [gU3_s, upd_i, if_no]
      rw [v8 j hj, f7.2.2.2 14 (by decide) (by decide), f6.2.2.2 14 (by decide) (by decide), f5.2.2.2 14 (by decide) (by decide), f4.2.2.2 14 (by decide) (by decide), f3.2.2.2 14 (by decide) (by decide), f2.2.2.2 14 (by decide) (by decide), f1.2.2.2 14 (by decide) (by decide)]
theorem m_all1_29 (M : GS) : ∃ M', fX9_all_29 M 1 = some M' ∧ M'.2.1 = M.2.1 ∧ M'.2.2.2 = M.2.2.2 ∧ (∀ k, (k < 7 ∨ 14 < k) → M'.2.2.1 k = M.2.2.1 k) ∧ (∀ k, 4 < k → M'.1 k = M.1 k) ∧ M'.1 0 = M.2.2.1 29 128 ∧ M'.1 1 = M.2.2.1 29 129 ∧ M'.1 2 = M.2.2.1 29 130 ∧ M'.1 3 = M.2.2.1 29 131 ∧ M'.1 4 = M.2.2.1 29 132 ∧ ∀ j, j < 16 → M'.2.2.1 7 j = M.2.2.1 29 (0 + j) ∧ M'.2.2.1 8 j = M.2.2.1 29 (16 + j) ∧ M'.2.2.1 9 j = M.2.2.1 29 (32 + j) ∧ M'.2.2.1 10 j = M.2.2.1 29 (48 + j) ∧ M'.2.2.1 11 j = M.2.2.1 29 (64 + j) ∧ M'.2.2.1 12 j = M.2.2.1 29 (80 + j) ∧ M'.2.2.1 13 j = M.2.2.1 29 (96 + j) ∧ M'.2.2.1 14 j = M.2.2.1 29 (112 + j) := by
  obtain ⟨M1, a1, f1, v1⟩ := cb_7_29 M
  obtain ⟨M2, a2, f2, v2⟩ := cb_8_29 M1
  obtain ⟨M3, a3, f3, v3⟩ := cb_9_29 M2
  obtain ⟨M4, a4, f4, v4⟩ := cb_10_29 M3
  obtain ⟨M5, a5, f5, v5⟩ := cb_11_29 M4
  obtain ⟨M6, a6, f6, v6⟩ := cb_12_29 M5
  obtain ⟨M7, a7, f7, v7⟩ := cb_13_29 M6
  obtain ⟨M8, a8, f8, v8⟩ := cb_14_29 M7
  rw [show nI 0 = (0 : Int32) from rfl] at a1
  have qT : M8.2.2.1 29 = M.2.2.1 29 := by rw [f8.2.2.2 29 (by decide) (by decide), f7.2.2.2 29 (by decide) (by decide), f6.2.2.2 29 (by decide) (by decide), f5.2.2.2 29 (by decide) (by decide), f4.2.2.2 29 (by decide) (by decide), f3.2.2.2 29 (by decide) (by decide), f2.2.2.2 29 (by decide) (by decide), f1.2.2.2 29 (by decide) (by decide)]
  refine ⟨(gU1 (gU1 (gU1 (gU1 (gU1 M8 0 (M.2.2.1 29 128)) 1 (M.2.2.1 29 129)) 2 (M.2.2.1 29 130)) 3 (M.2.2.1 29 131)) 4 (M.2.2.1 29 132)), ?_, ?_, ?_, fun k hk => ?_, fun k hk => ?_, ?_, ?_, ?_, ?_, ?_, fun j hj => ?_⟩
  · simp only [fX9_all_29, a1, a2, a3, a4, a5, a6, a7, a8, kn_10, n128_1, n128_2, n128_3, n128_4, in140 (show 128 < 140 by decide), cl140 (show 128 < 140 by decide), in140 (show 129 < 140 by decide), cl140 (show 129 < 140 by decide), in140 (show 130 < 140 by decide), cl140 (show 130 < 140 by decide), in140 (show 131 < 140 by decide), cl140 (show 131 < 140 by decide), in140 (show 132 < 140 by decide), cl140 (show 132 < 140 by decide), gLet_eq, gU1_2, qT, Option.bind_some, ↓reduceIte, km_1, km_2, km_3, km_4, km_5, km_6, km_7, kn_10, kn_20, kn_21]
  · show M8.2.1 = M.2.1
    rw [f8.2.1, f7.2.1, f6.2.1, f5.2.1, f4.2.1, f3.2.1, f2.2.1, f1.2.1]
  · show M8.2.2.2 = M.2.2.2
    rw [f8.2.2.1, f7.2.2.1, f6.2.2.1, f5.2.2.1, f4.2.2.1, f3.2.2.1, f2.2.2.1, f1.2.2.1]
  · show M8.2.2.1 k = M.2.2.1 k
    rw [f8.2.2.2 k (by omega) (by omega), f7.2.2.2 k (by omega) (by omega), f6.2.2.2 k (by omega) (by omega), f5.2.2.2 k (by omega) (by omega), f4.2.2.2 k (by omega) (by omega), f3.2.2.2 k (by omega) (by omega), f2.2.2.2 k (by omega) (by omega), f1.2.2.2 k (by omega) (by omega)]
  · rw [gU1_n _ _ _ _ (by omega), gU1_n _ _ _ _ (by omega), gU1_n _ _ _ _ (by omega), gU1_n _ _ _ _ (by omega), gU1_n _ _ _ _ (by omega), f8.1, f7.1, f6.1, f5.1, f4.1, f3.1, f2.1, f1.1]
  · rfl
  · rfl
  · rfl
  · rfl
  · rfl
  · refine ⟨?_, ?_, ?_, ?_, ?_, ?_, ?_, ?_⟩
    · show M8.2.2.1 7 j = _
      rw [f8.2.2.2 7 (by decide) (by decide), f7.2.2.2 7 (by decide) (by decide), f6.2.2.2 7 (by decide) (by decide), f5.2.2.2 7 (by decide) (by decide), f4.2.2.2 7 (by decide) (by decide), f3.2.2.2 7 (by decide) (by decide), f2.2.2.2 7 (by decide) (by decide), v1 j hj]
    · show M8.2.2.1 8 j = _
      rw [f8.2.2.2 8 (by decide) (by decide), f7.2.2.2 8 (by decide) (by decide), f6.2.2.2 8 (by decide) (by decide), f5.2.2.2 8 (by decide) (by decide), f4.2.2.2 8 (by decide) (by decide), f3.2.2.2 8 (by decide) (by decide), v2 j hj, f1.2.2.2 29 (by decide) (by decide)]
    · show M8.2.2.1 9 j = _
      rw [f8.2.2.2 9 (by decide) (by decide), f7.2.2.2 9 (by decide) (by decide), f6.2.2.2 9 (by decide) (by decide), f5.2.2.2 9 (by decide) (by decide), f4.2.2.2 9 (by decide) (by decide), v3 j hj, f2.2.2.2 29 (by decide) (by decide), f1.2.2.2 29 (by decide) (by decide)]
    · show M8.2.2.1 10 j = _
      rw [f8.2.2.2 10 (by decide) (by decide), f7.2.2.2 10 (by decide) (by decide), f6.2.2.2 10 (by decide) (by decide), f5.2.2.2 10 (by decide) (by decide), v4 j hj, f3.2.2.2 29 (by decide) (by decide), f2.2.2.2 29 (by decide) (by decide), f1.2.2.2 29 (by decide) (by decide)]
    · show M8.2.2.1 11 j = _
      rw [f8.2.2.2 11 (by decide) (by decide), f7.2.2.2 11 (by decide) (by decide), f6.2.2.2 11 (by decide) (by decide), v5 j hj, f4.2.2.2 29 (by decide) (by decide), f3.2.2.2 29 (by decide) (by decide), f2.2.2.2 29 (by decide) (by decide), f1.2.2.2 29 (by decide) (by decide)]
    · show M8.2.2.1 12 j = _
      rw [f8.2.2.2 12 (by decide) (by decide), f7.2.2.2 12 (by decide) (by decide), v6 j hj, f5.2.2.2 29 (by decide) (by decide), f4.2.2.2 29 (by decide) (by decide), f3.2.2.2 29 (by decide) (by decide), f2.2.2.2 29 (by decide) (by decide), f1.2.2.2 29 (by decide) (by decide)]
    · show M8.2.2.1 13 j = _
      rw [f8.2.2.2 13 (by decide) (by decide), v7 j hj, f6.2.2.2 29 (by decide) (by decide), f5.2.2.2 29 (by decide) (by decide), f4.2.2.2 29 (by decide) (by decide), f3.2.2.2 29 (by decide) (by decide), f2.2.2.2 29 (by decide) (by decide), f1.2.2.2 29 (by decide) (by decide)]
    · show M8.2.2.1 14 j = _
      rw [v8 j hj, f7.2.2.2 29 (by decide) (by decide), f6.2.2.2 29 (by decide) (by decide), f5.2.2.2 29 (by decide) (by decide), f4.2.2.2 29 (by decide) (by decide), f3.2.2.2 29 (by decide) (by decide), f2.2.2.2 29 (by decide) (by decide), f1.2.2.2 29 (by decide) (by decide)]
