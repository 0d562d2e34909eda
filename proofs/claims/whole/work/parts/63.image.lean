/-! carries and all, by the row 30 -/
theorem in140 {s : Nat} (hs : s < 140) : (nI s < 0 ∨ 140 ≤ s) = False := by
  have q := nI_in (c := s) (N := 140) hs (by decide)
  rw [nI_clamp (by omega)] at q
  exact eq_false q
theorem cl140 {s : Nat} (hs : s < 140) : (nI s).toNatClampNeg = s := nI_clamp (by omega)
theorem n128_1 : nI 128 + (1 : Int32) = nI 129 := rfl
theorem n128_2 : nI 128 + (2 : Int32) = nI 130 := rfl
theorem n128_3 : nI 128 + (3 : Int32) = nI 131 := rfl
theorem n128_4 : nI 128 + (4 : Int32) = nI 132 := rfl
theorem cF_7_30 : ∀ (d i fu : Nat) (M : GS), 16 - i = d → i ≤ 16 → d < fu → ∃ M', fX9_carries_7_30_3 fu M (nI 0) 0 (nI i) = some M' ∧ FM 30 30 M M' ∧ (∀ j, j < 16 → M'.2.2.1 30 (0 + j) = if i ≤ j then M.2.2.1 7 j else M.2.2.1 30 (0 + j)) ∧ ∀ q, (q < 0 ∨ 0 + 16 ≤ q) → M'.2.2.1 30 q = M.2.2.1 30 q := by
  intro d
  induction d with
  | zero =>
    intro i fu M hd hi hf
    obtain ⟨fu, rfl⟩ : ∃ q, fu = q + 1 := ⟨fu - 1, by omega⟩
    have e : i = 16 := by omega
    subst e
    refine ⟨M, ?_, FM.rf _ _ M, fun j hj => by rw [if_neg (by omega)], fun _ _ => rfl⟩
    rw [fX9_carries_7_30_3, if_pos (show (16 : Int32) ≤ nI 16 by decide +kernel)]
  | succ d ih =>
    intro i fu M hd hi hf
    obtain ⟨fu, rfl⟩ : ∃ q, fu = q + 1 := ⟨fu - 1, by omega⟩
    have hi16 : i < 16 := by omega
    have hlt : ((16 : Int32) ≤ nI i) = False := (nle_e (a := 16) (by omega) (by omega)).trans (eq_false (by omega))
    obtain ⟨M', f1, f2, f3, f4⟩ := ih (i + 1) fu (gU3 M 30 (0 + i) (M.2.2.1 7 i)) (by omega) (by omega) (by omega)
    refine ⟨M', ?_, (FM.u1 _ _ _ _ _).tr f2, fun j hj => ?_, fun q hq => ?_⟩
    · rw [fX9_carries_7_30_3]
      simp only [hlt, eq_self, i_add, in16 hi16, cl16 hi16, in140 (show 0 + i < 140 by omega), cl140 (show 0 + i < 140 by omega), i_add1, Option.bind_some, ↓reduceIte, km_1, km_2, km_3, km_4, km_5, km_6, km_7, kn_10, kn_20, kn_21]
      exact f1
    · rw [f3 j hj, gU3_n _ _ _ _ _ (by decide), gU3_s, upd_i]
      by_cases q : i + 1 ≤ j
      · rw [if_pos q, if_pos (by omega)]
      · rw [if_neg q]
        by_cases q2 : j = i
        · rw [if_pos (by omega), if_pos (by omega), q2]
        · rw [if_neg (by omega), if_neg (by omega)]
    · rw [f4 q hq, gU3_s, upd_i, if_neg (by omega)]
theorem cB_7_30 : ∀ (d i fu : Nat) (M : GS), 16 - i = d → i ≤ 16 → d < fu → ∃ M', fX9_carries_7_30_3 fu M (nI 0) 1 (nI i) = some M' ∧ FM 7 7 M M' ∧ (∀ j, j < 16 → M'.2.2.1 7 j = if i ≤ j then M.2.2.1 30 (0 + j) else M.2.2.1 7 j) := by
  intro d
  induction d with
  | zero =>
    intro i fu M hd hi hf
    obtain ⟨fu, rfl⟩ : ∃ q, fu = q + 1 := ⟨fu - 1, by omega⟩
    have e : i = 16 := by omega
    subst e
    refine ⟨M, ?_, FM.rf _ _ M, fun j hj => by rw [if_neg (by omega)]⟩
    rw [fX9_carries_7_30_3, if_pos (show (16 : Int32) ≤ nI 16 by decide +kernel)]
  | succ d ih =>
    intro i fu M hd hi hf
    obtain ⟨fu, rfl⟩ : ∃ q, fu = q + 1 := ⟨fu - 1, by omega⟩
    have hi16 : i < 16 := by omega
    have hlt : ((16 : Int32) ≤ nI i) = False := (nle_e (a := 16) (by omega) (by omega)).trans (eq_false (by omega))
    obtain ⟨M', f1, f2, f3⟩ := ih (i + 1) fu (gU3 M 7 i (M.2.2.1 30 (0 + i))) (by omega) (by omega) (by omega)
    refine ⟨M', ?_, (FM.u1 _ _ _ _ _).tr f2, fun j hj => ?_⟩
    · rw [fX9_carries_7_30_3]
      simp only [hlt, kn_10, i_add, in16 hi16, cl16 hi16, in140 (show 0 + i < 140 by omega), cl140 (show 0 + i < 140 by omega), i_add1, Option.bind_some, ↓reduceIte, km_1, km_2, km_3, km_4, km_5, km_6, km_7, kn_10, kn_20, kn_21]
      exact f1
    · rw [f3 j hj, gU3_n _ _ _ _ _ (by decide), gU3_s, upd_i]
      by_cases q : i + 1 ≤ j
      · rw [if_pos q, if_pos (by omega)]
      · rw [if_neg q]
        by_cases q2 : j = i
        · rw [if_pos q2, if_pos (by omega), q2]
        · rw [if_neg q2, if_neg (by omega)]
theorem cf_7_30 (M : GS) : ∃ M', fX9_carries_7_30 M (nI 0) 0 = some (nI 16, M') ∧ FM 30 30 M M' ∧ (∀ j, j < 16 → M'.2.2.1 30 (0 + j) = M.2.2.1 7 j) ∧ ∀ q, (q < 0 ∨ 0 + 16 ≤ q) → M'.2.2.1 30 q = M.2.2.1 30 q := by
  obtain ⟨M', f1, f2, f3, f4⟩ := cF_7_30 16 0 gFuel M rfl (by omega) (gFu _ (by omega))
  refine ⟨M', ?_, f2, fun j hj => by rw [f3 j hj, if_pos (Nat.zero_le j)], f4⟩
  rw [fX9_carries_7_30]
  exact (congrArg (fun z => Option.bind z (fun u => some (nI 0 + (16 : Int32), u))) f1).trans rfl
theorem cb_7_30 (M : GS) : ∃ M', fX9_carries_7_30 M (nI 0) 1 = some (nI 16, M') ∧ FM 7 7 M M' ∧ (∀ j, j < 16 → M'.2.2.1 7 j = M.2.2.1 30 (0 + j)) := by
  obtain ⟨M', f1, f2, f3⟩ := cB_7_30 16 0 gFuel M rfl (by omega) (gFu _ (by omega))
  refine ⟨M', ?_, f2, fun j hj => by rw [f3 j hj, if_pos (Nat.zero_le j)]⟩
  rw [fX9_carries_7_30]
  exact (congrArg (fun z => Option.bind z (fun u => some (nI 0 + (16 : Int32), u))) f1).trans rfl
theorem cF_8_30 : ∀ (d i fu : Nat) (M : GS), 16 - i = d → i ≤ 16 → d < fu → ∃ M', fX9_carries_8_30_3 fu M (nI 16) 0 (nI i) = some M' ∧ FM 30 30 M M' ∧ (∀ j, j < 16 → M'.2.2.1 30 (16 + j) = if i ≤ j then M.2.2.1 8 j else M.2.2.1 30 (16 + j)) ∧ ∀ q, (q < 16 ∨ 16 + 16 ≤ q) → M'.2.2.1 30 q = M.2.2.1 30 q := by
  intro d
  induction d with
  | zero =>
    intro i fu M hd hi hf
    obtain ⟨fu, rfl⟩ : ∃ q, fu = q + 1 := ⟨fu - 1, by omega⟩
    have e : i = 16 := by omega
    subst e
    refine ⟨M, ?_, FM.rf _ _ M, fun j hj => by rw [if_neg (by omega)], fun _ _ => rfl⟩
    rw [fX9_carries_8_30_3, if_pos (show (16 : Int32) ≤ nI 16 by decide +kernel)]
  | succ d ih =>
    intro i fu M hd hi hf
    obtain ⟨fu, rfl⟩ : ∃ q, fu = q + 1 := ⟨fu - 1, by omega⟩
    have hi16 : i < 16 := by omega
    have hlt : ((16 : Int32) ≤ nI i) = False := (nle_e (a := 16) (by omega) (by omega)).trans (eq_false (by omega))
    obtain ⟨M', f1, f2, f3, f4⟩ := ih (i + 1) fu (gU3 M 30 (16 + i) (M.2.2.1 8 i)) (by omega) (by omega) (by omega)
    refine ⟨M', ?_, (FM.u1 _ _ _ _ _).tr f2, fun j hj => ?_, fun q hq => ?_⟩
    · rw [fX9_carries_8_30_3]
      simp only [hlt, eq_self, i_add, in16 hi16, cl16 hi16, in140 (show 16 + i < 140 by omega), cl140 (show 16 + i < 140 by omega), i_add1, Option.bind_some, ↓reduceIte, km_1, km_2, km_3, km_4, km_5, km_6, km_7, kn_10, kn_20, kn_21]
      exact f1
    · rw [f3 j hj, gU3_n _ _ _ _ _ (by decide), gU3_s, upd_i]
      by_cases q : i + 1 ≤ j
      · rw [if_pos q, if_pos (by omega)]
      · rw [if_neg q]
        by_cases q2 : j = i
        · rw [if_pos (by omega), if_pos (by omega), q2]
        · rw [if_neg (by omega), if_neg (by omega)]
    · rw [f4 q hq, gU3_s, upd_i, if_neg (by omega)]
theorem cB_8_30 : ∀ (d i fu : Nat) (M : GS), 16 - i = d → i ≤ 16 → d < fu → ∃ M', fX9_carries_8_30_3 fu M (nI 16) 1 (nI i) = some M' ∧ FM 8 8 M M' ∧ (∀ j, j < 16 → M'.2.2.1 8 j = if i ≤ j then M.2.2.1 30 (16 + j) else M.2.2.1 8 j) := by
  intro d
  induction d with
  | zero =>
    intro i fu M hd hi hf
    obtain ⟨fu, rfl⟩ : ∃ q, fu = q + 1 := ⟨fu - 1, by omega⟩
    have e : i = 16 := by omega
    subst e
    refine ⟨M, ?_, FM.rf _ _ M, fun j hj => by rw [if_neg (by omega)]⟩
    rw [fX9_carries_8_30_3, if_pos (show (16 : Int32) ≤ nI 16 by decide +kernel)]
  | succ d ih =>
    intro i fu M hd hi hf
    obtain ⟨fu, rfl⟩ : ∃ q, fu = q + 1 := ⟨fu - 1, by omega⟩
    have hi16 : i < 16 := by omega
    have hlt : ((16 : Int32) ≤ nI i) = False := (nle_e (a := 16) (by omega) (by omega)).trans (eq_false (by omega))
    obtain ⟨M', f1, f2, f3⟩ := ih (i + 1) fu (gU3 M 8 i (M.2.2.1 30 (16 + i))) (by omega) (by omega) (by omega)
    refine ⟨M', ?_, (FM.u1 _ _ _ _ _).tr f2, fun j hj => ?_⟩
    · rw [fX9_carries_8_30_3]
      simp only [hlt, kn_10, i_add, in16 hi16, cl16 hi16, in140 (show 16 + i < 140 by omega), cl140 (show 16 + i < 140 by omega), i_add1, Option.bind_some, ↓reduceIte, km_1, km_2, km_3, km_4, km_5, km_6, km_7, kn_10, kn_20, kn_21]
      exact f1
    · rw [f3 j hj, gU3_n _ _ _ _ _ (by decide), gU3_s, upd_i]
      by_cases q : i + 1 ≤ j
      · rw [if_pos q, if_pos (by omega)]
      · rw [if_neg q]
        by_cases q2 : j = i
        · rw [if_pos q2, if_pos (by omega), q2]
        · rw [if_neg q2, if_neg (by omega)]
theorem cf_8_30 (M : GS) : ∃ M', fX9_carries_8_30 M (nI 16) 0 = some (nI 32, M') ∧ FM 30 30 M M' ∧ (∀ j, j < 16 → M'.2.2.1 30 (16 + j) = M.2.2.1 8 j) ∧ ∀ q, (q < 16 ∨ 16 + 16 ≤ q) → M'.2.2.1 30 q = M.2.2.1 30 q := by
  obtain ⟨M', f1, f2, f3, f4⟩ := cF_8_30 16 0 gFuel M rfl (by omega) (gFu _ (by omega))
  refine ⟨M', ?_, f2, fun j hj => by rw [f3 j hj, if_pos (Nat.zero_le j)], f4⟩
  rw [fX9_carries_8_30]
  exact (congrArg (fun z => Option.bind z (fun u => some (nI 16 + (16 : Int32), u))) f1).trans rfl
theorem cb_8_30 (M : GS) : ∃ M', fX9_carries_8_30 M (nI 16) 1 = some (nI 32, M') ∧ FM 8 8 M M' ∧ (∀ j, j < 16 → M'.2.2.1 8 j = M.2.2.1 30 (16 + j)) := by
  obtain ⟨M', f1, f2, f3⟩ := cB_8_30 16 0 gFuel M rfl (by omega) (gFu _ (by omega))
  refine ⟨M', ?_, f2, fun j hj => by rw [f3 j hj, if_pos (Nat.zero_le j)]⟩
  rw [fX9_carries_8_30]
  exact (congrArg (fun z => Option.bind z (fun u => some (nI 16 + (16 : Int32), u))) f1).trans rfl
theorem cF_9_30 : ∀ (d i fu : Nat) (M : GS), 16 - i = d → i ≤ 16 → d < fu → ∃ M', fX9_carries_9_30_3 fu M (nI 32) 0 (nI i) = some M' ∧ FM 30 30 M M' ∧ (∀ j, j < 16 → M'.2.2.1 30 (32 + j) = if i ≤ j then M.2.2.1 9 j else M.2.2.1 30 (32 + j)) ∧ ∀ q, (q < 32 ∨ 32 + 16 ≤ q) → M'.2.2.1 30 q = M.2.2.1 30 q := by
  intro d
  induction d with
  | zero =>
    intro i fu M hd hi hf
    obtain ⟨fu, rfl⟩ : ∃ q, fu = q + 1 := ⟨fu - 1, by omega⟩
    have e : i = 16 := by omega
    subst e
    refine ⟨M, ?_, FM.rf _ _ M, fun j hj => by rw [if_neg (by omega)], fun _ _ => rfl⟩
    rw [fX9_carries_9_30_3, if_pos (show (16 : Int32) ≤ nI 16 by decide +kernel)]
  | succ d ih =>
    intro i fu M hd hi hf
    obtain ⟨fu, rfl⟩ : ∃ q, fu = q + 1 := ⟨fu - 1, by omega⟩
    have hi16 : i < 16 := by omega
    have hlt : ((16 : Int32) ≤ nI i) = False := (nle_e (a := 16) (by omega) (by omega)).trans (eq_false (by omega))
    obtain ⟨M', f1, f2, f3, f4⟩ := ih (i + 1) fu (gU3 M 30 (32 + i) (M.2.2.1 9 i)) (by omega) (by omega) (by omega)
    refine ⟨M', ?_, (FM.u1 _ _ _ _ _).tr f2, fun j hj => ?_, fun q hq => ?_⟩
    · rw [fX9_carries_9_30_3]
      simp only [hlt, eq_self, i_add, in16 hi16, cl16 hi16, in140 (show 32 + i < 140 by omega), cl140 (show 32 + i < 140 by omega), i_add1, Option.bind_some, ↓reduceIte, km_1, km_2, km_3, km_4, km_5, km_6, km_7, kn_10, kn_20, kn_21]
      exact f1
    · rw [f3 j hj, gU3_n _ _ _ _ _ (by decide), gU3_s, upd_i]
      by_cases q : i + 1 ≤ j
      · rw [if_pos q, if_pos (by omega)]
      · rw [if_neg q]
        by_cases q2 : j = i
        · rw [if_pos (by omega), if_pos (by omega), q2]
        · rw [if_neg (by omega), if_neg (by omega)]
    · rw [f4 q hq, gU3_s, upd_i, if_neg (by omega)]
theorem cB_9_30 : ∀ (d i fu : Nat) (M : GS), 16 - i = d → i ≤ 16 → d < fu → ∃ M', fX9_carries_9_30_3 fu M (nI 32) 1 (nI i) = some M' ∧ FM 9 9 M M' ∧ (∀ j, j < 16 → M'.2.2.1 9 j = if i ≤ j then M.2.2.1 30 (32 + j) else M.2.2.1 9 j) := by
  intro d
  induction d with
  | zero =>
    intro i fu M hd hi hf
    obtain ⟨fu, rfl⟩ : ∃ q, fu = q + 1 := ⟨fu - 1, by omega⟩
    have e : i = 16 := by omega
    subst e
    refine ⟨M, ?_, FM.rf _ _ M, fun j hj => by rw [if_neg (by omega)]⟩
    rw [fX9_carries_9_30_3, if_pos (show (16 : Int32) ≤ nI 16 by decide +kernel)]
  | succ d ih =>
    intro i fu M hd hi hf
    obtain ⟨fu, rfl⟩ : ∃ q, fu = q + 1 := ⟨fu - 1, by omega⟩
    have hi16 : i < 16 := by omega
    have hlt : ((16 : Int32) ≤ nI i) = False := (nle_e (a := 16) (by omega) (by omega)).trans (eq_false (by omega))
    obtain ⟨M', f1, f2, f3⟩ := ih (i + 1) fu (gU3 M 9 i (M.2.2.1 30 (32 + i))) (by omega) (by omega) (by omega)
    refine ⟨M', ?_, (FM.u1 _ _ _ _ _).tr f2, fun j hj => ?_⟩
    · rw [fX9_carries_9_30_3]
      simp only [hlt, kn_10, i_add, in16 hi16, cl16 hi16, in140 (show 32 + i < 140 by omega), cl140 (show 32 + i < 140 by omega), i_add1, Option.bind_some, ↓reduceIte, km_1, km_2, km_3, km_4, km_5, km_6, km_7, kn_10, kn_20, kn_21]
      exact f1
    · rw [f3 j hj, gU3_n _ _ _ _ _ (by decide), gU3_s, upd_i]
      by_cases q : i + 1 ≤ j
      · rw [if_pos q, if_pos (by omega)]
      · rw [if_neg q]
        by_cases q2 : j = i
        · rw [if_pos q2, if_pos (by omega), q2]
        · rw [if_neg q2, if_neg (by omega)]
theorem cf_9_30 (M : GS) : ∃ M', fX9_carries_9_30 M (nI 32) 0 = some (nI 48, M') ∧ FM 30 30 M M' ∧ (∀ j, j < 16 → M'.2.2.1 30 (32 + j) = M.2.2.1 9 j) ∧ ∀ q, (q < 32 ∨ 32 + 16 ≤ q) → M'.2.2.1 30 q = M.2.2.1 30 q := by
  obtain ⟨M', f1, f2, f3, f4⟩ := cF_9_30 16 0 gFuel M rfl (by omega) (gFu _ (by omega))
  refine ⟨M', ?_, f2, fun j hj => by rw [f3 j hj, if_pos (Nat.zero_le j)], f4⟩
  rw [fX9_carries_9_30]
  exact (congrArg (fun z => Option.bind z (fun u => some (nI 32 + (16 : Int32), u))) f1).trans rfl
theorem cb_9_30 (M : GS) : ∃ M', fX9_carries_9_30 M (nI 32) 1 = some (nI 48, M') ∧ FM 9 9 M M' ∧ (∀ j, j < 16 → M'.2.2.1 9 j = M.2.2.1 30 (32 + j)) := by
  obtain ⟨M', f1, f2, f3⟩ := cB_9_30 16 0 gFuel M rfl (by omega) (gFu _ (by omega))
  refine ⟨M', ?_, f2, fun j hj => by rw [f3 j hj, if_pos (Nat.zero_le j)]⟩
  rw [fX9_carries_9_30]
  exact (congrArg (fun z => Option.bind z (fun u => some (nI 32 + (16 : Int32), u))) f1).trans rfl
theorem cF_10_30 : ∀ (d i fu : Nat) (M : GS), 16 - i = d → i ≤ 16 → d < fu → ∃ M', fX9_carries_10_30_3 fu M (nI 48) 0 (nI i) = some M' ∧ FM 30 30 M M' ∧ (∀ j, j < 16 → M'.2.2.1 30 (48 + j) = if i ≤ j then M.2.2.1 10 j else M.2.2.1 30 (48 + j)) ∧ ∀ q, (q < 48 ∨ 48 + 16 ≤ q) → M'.2.2.1 30 q = M.2.2.1 30 q := by
  intro d
  induction d with
  | zero =>
    intro i fu M hd hi hf
    obtain ⟨fu, rfl⟩ : ∃ q, fu = q + 1 := ⟨fu - 1, by omega⟩
    have e : i = 16 := by omega
    subst e
    refine ⟨M, ?_, FM.rf _ _ M, fun j hj => by rw [if_neg (by omega)], fun _ _ => rfl⟩
    rw [fX9_carries_10_30_3, if_pos (show (16 : Int32) ≤ nI 16 by decide +kernel)]
  | succ d ih =>
    intro i fu M hd hi hf
    obtain ⟨fu, rfl⟩ : ∃ q, fu = q + 1 := ⟨fu - 1, by omega⟩
    have hi16 : i < 16 := by omega
    have hlt : ((16 : Int32) ≤ nI i) = False := (nle_e (a := 16) (by omega) (by omega)).trans (eq_false (by omega))
    obtain ⟨M', f1, f2, f3, f4⟩ := ih (i + 1) fu (gU3 M 30 (48 + i) (M.2.2.1 10 i)) (by omega) (by omega) (by omega)
    refine ⟨M', ?_, (FM.u1 _ _ _ _ _).tr f2, fun j hj => ?_, fun q hq => ?_⟩
    · rw [fX9_carries_10_30_3]
      simp only [hlt, eq_self, i_add, in16 hi16, cl16 hi16, in140 (show 48 + i < 140 by omega), cl140 (show 48 + i < 140 by omega), i_add1, Option.bind_some, ↓reduceIte, km_1, km_2, km_3, km_4, km_5, km_6, km_7, kn_10, kn_20, kn_21]
      exact f1
    · rw [f3 j hj, gU3_n _ _ _ _ _ (by decide), gU3_s, upd_i]
      by_cases q : i + 1 ≤ j
      · rw [if_pos q, if_pos (by omega)]
      · rw [if_neg q]
        by_cases q2 : j = i
        · rw [if_pos (by omega), if_pos (by omega), q2]
        · rw [if_neg (by omega), if_neg (by omega)]
    · rw [f4 q hq, gU3_s, upd_i, if_neg (by omega)]
theorem cB_10_30 : ∀ (d i fu : Nat) (M : GS), 16 - i = d → i ≤ 16 → d < fu → ∃ M', fX9_carries_10_30_3 fu M (nI 48) 1 (nI i) = some M' ∧ FM 10 10 M M' ∧ (∀ j, j < 16 → M'.2.2.1 10 j = if i ≤ j then M.2.2.1 30 (48 + j) else M.2.2.1 10 j) := by
  intro d
  induction d with
  | zero =>
    intro i fu M hd hi hf
    obtain ⟨fu, rfl⟩ : ∃ q, fu = q + 1 := ⟨fu - 1, by omega⟩
    have e : i = 16 := by omega
    subst e
    refine ⟨M, ?_, FM.rf _ _ M, fun j hj => by rw [if_neg (by omega)]⟩
    rw [fX9_carries_10_30_3, if_pos (show (16 : Int32) ≤ nI 16 by decide +kernel)]
  | succ d ih =>
    intro i fu M hd hi hf
    obtain ⟨fu, rfl⟩ : ∃ q, fu = q + 1 := ⟨fu - 1, by omega⟩
    have hi16 : i < 16 := by omega
    have hlt : ((16 : Int32) ≤ nI i) = False := (nle_e (a := 16) (by omega) (by omega)).trans (eq_false (by omega))
    obtain ⟨M', f1, f2, f3⟩ := ih (i + 1) fu (gU3 M 10 i (M.2.2.1 30 (48 + i))) (by omega) (by omega) (by omega)
    refine ⟨M', ?_, (FM.u1 _ _ _ _ _).tr f2, fun j hj => ?_⟩
    · rw [fX9_carries_10_30_3]
      simp only [hlt, kn_10, i_add, in16 hi16, cl16 hi16, in140 (show 48 + i < 140 by omega), cl140 (show 48 + i < 140 by omega), i_add1, Option.bind_some, ↓reduceIte, km_1, km_2, km_3, km_4, km_5, km_6, km_7, kn_10, kn_20, kn_21]
      exact f1
    · rw [f3 j hj, gU3_n _ _ _ _ _ (by decide), gU3_s, upd_i]
      by_cases q : i + 1 ≤ j
      · rw [if_pos q, if_pos (by omega)]
      · rw [if_neg q]
        by_cases q2 : j = i
        · rw [if_pos q2, if_pos (by omega), q2]
        · rw [if_neg q2, if_neg (by omega)]
theorem cf_10_30 (M : GS) : ∃ M', fX9_carries_10_30 M (nI 48) 0 = some (nI 64, M') ∧ FM 30 30 M M' ∧ (∀ j, j < 16 → M'.2.2.1 30 (48 + j) = M.2.2.1 10 j) ∧ ∀ q, (q < 48 ∨ 48 + 16 ≤ q) → M'.2.2.1 30 q = M.2.2.1 30 q := by
  obtain ⟨M', f1, f2, f3, f4⟩ := cF_10_30 16 0 gFuel M rfl (by omega) (gFu _ (by omega))
  refine ⟨M', ?_, f2, fun j hj => by rw [f3 j hj, if_pos (Nat.zero_le j)], f4⟩
  rw [fX9_carries_10_30]
  exact (congrArg (fun z => Option.bind z (fun u => some (nI 48 + (16 : Int32), u))) f1).trans rfl
theorem cb_10_30 (M : GS) : ∃ M', fX9_carries_10_30 M (nI 48) 1 = some (nI 64, M') ∧ FM 10 10 M M' ∧ (∀ j, j < 16 → M'.2.2.1 10 j = M.2.2.1 30 (48 + j)) := by
  obtain ⟨M', f1, f2, f3⟩ := cB_10_30 16 0 gFuel M rfl (by omega) (gFu _ (by omega))
  refine ⟨M', ?_, f2, fun j hj => by rw [f3 j hj, if_pos (Nat.zero_le j)]⟩
  rw [fX9_carries_10_30]
  exact (congrArg (fun z => Option.bind z (fun u => some (nI 48 + (16 : Int32), u))) f1).trans rfl
theorem cF_11_30 : ∀ (d i fu : Nat) (M : GS), 16 - i = d → i ≤ 16 → d < fu → ∃ M', fX9_carries_11_30_3 fu M (nI 64) 0 (nI i) = some M' ∧ FM 30 30 M M' ∧ (∀ j, j < 16 → M'.2.2.1 30 (64 + j) = if i ≤ j then M.2.2.1 11 j else M.2.2.1 30 (64 + j)) ∧ ∀ q, (q < 64 ∨ 64 + 16 ≤ q) → M'.2.2.1 30 q = M.2.2.1 30 q := by
  intro d
  induction d with
  | zero =>
    intro i fu M hd hi hf
    obtain ⟨fu, rfl⟩ : ∃ q, fu = q + 1 := ⟨fu - 1, by omega⟩
    have e : i = 16 := by omega
    subst e
    refine ⟨M, ?_, FM.rf _ _ M, fun j hj => by rw [if_neg (by omega)], fun _ _ => rfl⟩
    rw [fX9_carries_11_30_3, if_pos (show (16 : Int32) ≤ nI 16 by decide +kernel)]
  | succ d ih =>
    intro i fu M hd hi hf
    obtain ⟨fu, rfl⟩ : ∃ q, fu = q + 1 := ⟨fu - 1, by omega⟩
    have hi16 : i < 16 := by omega
    have hlt : ((16 : Int32) ≤ nI i) = False := (nle_e (a := 16) (by omega) (by omega)).trans (eq_false (by omega))
    obtain ⟨M', f1, f2, f3, f4⟩ := ih (i + 1) fu (gU3 M 30 (64 + i) (M.2.2.1 11 i)) (by omega) (by omega) (by omega)
    refine ⟨M', ?_, (FM.u1 _ _ _ _ _).tr f2, fun j hj => ?_, fun q hq => ?_⟩
    · rw [fX9_carries_11_30_3]
      simp only [hlt, eq_self, i_add, in16 hi16, cl16 hi16, in140 (show 64 + i < 140 by omega), cl140 (show 64 + i < 140 by omega), i_add1, Option.bind_some, ↓reduceIte, km_1, km_2, km_3, km_4, km_5, km_6, km_7, kn_10, kn_20, kn_21]
      exact f1
    · rw [f3 j hj, gU3_n _ _ _ _ _ (by decide), gU3_s, upd_i]
      by_cases q : i + 1 ≤ j
      · rw [if_pos q, if_pos (by omega)]
      · rw [if_neg q]
        by_cases q2 : j = i
        · rw [if_pos (by omega), if_pos (by omega), q2]
        · rw [if_neg (by omega), if_neg (by omega)]
    · rw [f4 q hq, gU3_s, upd_i, if_neg (by omega)]
theorem cB_11_30 : ∀ (d i fu : Nat) (M : GS), 16 - i = d → i ≤ 16 → d < fu → ∃ M', fX9_carries_11_30_3 fu M (nI 64) 1 (nI i) = some M' ∧ FM 11 11 M M' ∧ (∀ j, j < 16 → M'.2.2.1 11 j = if i ≤ j then M.2.2.1 30 (64 + j) else M.2.2.1 11 j) := by
  intro d
  induction d with
  | zero =>
    intro i fu M hd hi hf
    obtain ⟨fu, rfl⟩ : ∃ q, fu = q + 1 := ⟨fu - 1, by omega⟩
    have e : i = 16 := by omega
    subst e
    refine ⟨M, ?_, FM.rf _ _ M, fun j hj => by rw [if_neg (by omega)]⟩
    rw [fX9_carries_11_30_3, if_pos (show (16 : Int32) ≤ nI 16 by decide +kernel)]
  | succ d ih =>
    intro i fu M hd hi hf
    obtain ⟨fu, rfl⟩ : ∃ q, fu = q + 1 := ⟨fu - 1, by omega⟩
    have hi16 : i < 16 := by omega
    have hlt : ((16 : Int32) ≤ nI i) = False := (nle_e (a := 16) (by omega) (by omega)).trans (eq_false (by omega))
    obtain ⟨M', f1, f2, f3⟩ := ih (i + 1) fu (gU3 M 11 i (M.2.2.1 30 (64 + i))) (by omega) (by omega) (by omega)
    refine ⟨M', ?_, (FM.u1 _ _ _ _ _).tr f2, fun j hj => ?_⟩
    · rw [fX9_carries_11_30_3]
      simp only [hlt, kn_10, i_add, in16 hi16, cl16 hi16, in140 (show 64 + i < 140 by omega), cl140 (show 64 + i < 140 by omega), i_add1, Option.bind_some, ↓reduceIte, km_1, km_2, km_3, km_4, km_5, km_6, km_7, kn_10, kn_20, kn_21]
      exact f1
    · rw [f3 j hj, gU3_n _ _ _ _ _ (by decide), gU3_s, upd_i]
      by_cases q : i + 1 ≤ j
      · rw [if_pos q, if_pos (by omega)]
      · rw [if_neg q]
        by_cases q2 : j = i
        · rw [if_pos q2, if_pos (by omega), q2]
        · rw [if_neg q2, if_neg (by omega)]
theorem cf_11_30 (M : GS) : ∃ M', fX9_carries_11_30 M (nI 64) 0 = some (nI 80, M') ∧ FM 30 30 M M' ∧ (∀ j, j < 16 → M'.2.2.1 30 (64 + j) = M.2.2.1 11 j) ∧ ∀ q, (q < 64 ∨ 64 + 16 ≤ q) → M'.2.2.1 30 q = M.2.2.1 30 q := by
  obtain ⟨M', f1, f2, f3, f4⟩ := cF_11_30 16 0 gFuel M rfl (by omega) (gFu _ (by omega))
  refine ⟨M', ?_, f2, fun j hj => by rw [f3 j hj, if_pos (Nat.zero_le j)], f4⟩
  rw [fX9_carries_11_30]
  exact (congrArg (fun z => Option.bind z (fun u => some (nI 64 + (16 : Int32), u))) f1).trans rfl
theorem cb_11_30 (M : GS) : ∃ M', fX9_carries_11_30 M (nI 64) 1 = some (nI 80, M') ∧ FM 11 11 M M' ∧ (∀ j, j < 16 → M'.2.2.1 11 j = M.2.2.1 30 (64 + j)) := by
  obtain ⟨M', f1, f2, f3⟩ := cB_11_30 16 0 gFuel M rfl (by omega) (gFu _ (by omega))
  refine ⟨M', ?_, f2, fun j hj => by rw [f3 j hj, if_pos (Nat.zero_le j)]⟩
  rw [fX9_carries_11_30]
  exact (congrArg (fun z => Option.bind z (fun u => some (nI 64 + (16 : Int32), u))) f1).trans rfl
theorem cF_12_30 : ∀ (d i fu : Nat) (M : GS), 16 - i = d → i ≤ 16 → d < fu → ∃ M', fX9_carries_12_30_3 fu M (nI 80) 0 (nI i) = some M' ∧ FM 30 30 M M' ∧ (∀ j, j < 16 → M'.2.2.1 30 (80 + j) = if i ≤ j then M.2.2.1 12 j else M.2.2.1 30 (80 + j)) ∧ ∀ q, (q < 80 ∨ 80 + 16 ≤ q) → M'.2.2.1 30 q = M.2.2.1 30 q := by
  intro d
  induction d with
  | zero =>
    intro i fu M hd hi hf
    obtain ⟨fu, rfl⟩ : ∃ q, fu = q + 1 := ⟨fu - 1, by omega⟩
    have e : i = 16 := by omega
    subst e
    refine ⟨M, ?_, FM.rf _ _ M, fun j hj => by rw [if_neg (by omega)], fun _ _ => rfl⟩
    rw [fX9_carries_12_30_3, if_pos (show (16 : Int32) ≤ nI 16 by decide +kernel)]
  | succ d ih =>
    intro i fu M hd hi hf
    obtain ⟨fu, rfl⟩ : ∃ q, fu = q + 1 := ⟨fu - 1, by omega⟩
    have hi16 : i < 16 := by omega
    have hlt : ((16 : Int32) ≤ nI i) = False := (nle_e (a := 16) (by omega) (by omega)).trans (eq_false (by omega))
    obtain ⟨M', f1, f2, f3, f4⟩ := ih (i + 1) fu (gU3 M 30 (80 + i) (M.2.2.1 12 i)) (by omega) (by omega) (by omega)
    refine ⟨M', ?_, (FM.u1 _ _ _ _ _).tr f2, fun j hj => ?_, fun q hq => ?_⟩
    · rw [fX9_carries_12_30_3]
      simp only [hlt, eq_self, i_add, in16 hi16, cl16 hi16, in140 (show 80 + i < 140 by omega), cl140 (show 80 + i < 140 by omega), i_add1, Option.bind_some, ↓reduceIte, km_1, km_2, km_3, km_4, km_5, km_6, km_7, kn_10, kn_20, kn_21]
      exact f1
    · rw [f3 j hj, gU3_n _ _ _ _ _ (by decide), gU3_s, upd_i]
      by_cases q : i + 1 ≤ j
      · rw [if_pos q, if_pos (by omega)]
      · rw [if_neg q]
        by_cases q2 : j = i
        · rw [if_pos (by omega), if_pos (by omega), q2]
        · rw [if_neg (by omega), if_neg (by omega)]
    · rw [f4 q hq, gU3_s, upd_i, if_neg (by omega)]
theorem cB_12_30 : ∀ (d i fu : Nat) (M : GS), 16 - i = d → i ≤ 16 → d < fu → ∃ M', fX9_carries_12_30_3 fu M (nI 80) 1 (nI i) = some M' ∧ FM 12 12 M M' ∧ (∀ j, j < 16 → M'.2.2.1 12 j = if i ≤ j then M.2.2.1 30 (80 + j) else M.2.2.1 12 j) := by
  intro d
  induction d with
  | zero =>
    intro i fu M hd hi hf
    obtain ⟨fu, rfl⟩ : ∃ q, fu = q + 1 := ⟨fu - 1, by omega⟩
    have e : i = 16 := by omega
    subst e
    refine ⟨M, ?_, FM.rf _ _ M, fun j hj => by rw [if_neg (by omega)]⟩
    rw [fX9_carries_12_30_3, if_pos (show (16 : Int32) ≤ nI 16 by decide +kernel)]
  | succ d ih =>
    intro i fu M hd hi hf
    obtain ⟨fu, rfl⟩ : ∃ q, fu = q + 1 := ⟨fu - 1, by omega⟩
    have hi16 : i < 16 := by omega
    have hlt : ((16 : Int32) ≤ nI i) = False := (nle_e (a := 16) (by omega) (by omega)).trans (eq_false (by omega))
    obtain ⟨M', f1, f2, f3⟩ := ih (i + 1) fu (gU3 M 12 i (M.2.2.1 30 (80 + i))) (by omega) (by omega) (by omega)
    refine ⟨M', ?_, (FM.u1 _ _ _ _ _).tr f2, fun j hj => ?_⟩
    · rw [fX9_carries_12_30_3]
      simp only [hlt, kn_10, i_add, in16 hi16, cl16 hi16, in140 (show 80 + i < 140 by omega), cl140 (show 80 + i < 140 by omega), i_add1, Option.bind_some, ↓reduceIte, km_1, km_2, km_3, km_4, km_5, km_6, km_7, kn_10, kn_20, kn_21]
      exact f1
    · rw [f3 j hj, gU3_n _ _ _ _ _ (by decide), gU3_s, upd_i]
      by_cases q : i + 1 ≤ j
      · rw [if_pos q, if_pos (by omega)]
      · rw [if_neg q]
        by_cases q2 : j = i
        · rw [if_pos q2, if_pos (by omega), q2]
        · rw [if_neg q2, if_neg (by omega)]
theorem cf_12_30 (M : GS) : ∃ M', fX9_carries_12_30 M (nI 80) 0 = some (nI 96, M') ∧ FM 30 30 M M' ∧ (∀ j, j < 16 → M'.2.2.1 30 (80 + j) = M.2.2.1 12 j) ∧ ∀ q, (q < 80 ∨ 80 + 16 ≤ q) → M'.2.2.1 30 q = M.2.2.1 30 q := by
  obtain ⟨M', f1, f2, f3, f4⟩ := cF_12_30 16 0 gFuel M rfl (by omega) (gFu _ (by omega))
  refine ⟨M', ?_, f2, fun j hj => by rw [f3 j hj, if_pos (Nat.zero_le j)], f4⟩
  rw [fX9_carries_12_30]
  exact (congrArg (fun z => Option.bind z (fun u => some (nI 80 + (16 : Int32), u))) f1).trans rfl
theorem cb_12_30 (M : GS) : ∃ M', fX9_carries_12_30 M (nI 80) 1 = some (nI 96, M') ∧ FM 12 12 M M' ∧ (∀ j, j < 16 → M'.2.2.1 12 j = M.2.2.1 30 (80 + j)) := by
  obtain ⟨M', f1, f2, f3⟩ := cB_12_30 16 0 gFuel M rfl (by omega) (gFu _ (by omega))
  refine ⟨M', ?_, f2, fun j hj => by rw [f3 j hj, if_pos (Nat.zero_le j)]⟩
  rw [fX9_carries_12_30]
  exact (congrArg (fun z => Option.bind z (fun u => some (nI 80 + (16 : Int32), u))) f1).trans rfl
theorem cF_13_30 : ∀ (d i fu : Nat) (M : GS), 16 - i = d → i ≤ 16 → d < fu → ∃ M', fX9_carries_13_30_3 fu M (nI 96) 0 (nI i) = some M' ∧ FM 30 30 M M' ∧ (∀ j, j < 16 → M'.2.2.1 30 (96 + j) = if i ≤ j then M.2.2.1 13 j else M.2.2.1 30 (96 + j)) ∧ ∀ q, (q < 96 ∨ 96 + 16 ≤ q) → M'.2.2.1 30 q = M.2.2.1 30 q := by
  intro d
  induction d with
  | zero =>
    intro i fu M hd hi hf
    obtain ⟨fu, rfl⟩ : ∃ q, fu = q + 1 := ⟨fu - 1, by omega⟩
    have e : i = 16 := by omega
    subst e
    refine ⟨M, ?_, FM.rf _ _ M, fun j hj => by rw [if_neg (by omega)], fun _ _ => rfl⟩
    rw [fX9_carries_13_30_3, if_pos (show (16 : Int32) ≤ nI 16 by decide +kernel)]
  | succ d ih =>
    intro i fu M hd hi hf
    obtain ⟨fu, rfl⟩ : ∃ q, fu = q + 1 := ⟨fu - 1, by omega⟩
    have hi16 : i < 16 := by omega
    have hlt : ((16 : Int32) ≤ nI i) = False := (nle_e (a := 16) (by omega) (by omega)).trans (eq_false (by omega))
    obtain ⟨M', f1, f2, f3, f4⟩ := ih (i + 1) fu (gU3 M 30 (96 + i) (M.2.2.1 13 i)) (by omega) (by omega) (by omega)
    refine ⟨M', ?_, (FM.u1 _ _ _ _ _).tr f2, fun j hj => ?_, fun q hq => ?_⟩
    · rw [fX9_carries_13_30_3]
      simp only [hlt, eq_self, i_add, in16 hi16, cl16 hi16, in140 (show 96 + i < 140 by omega), cl140 (show 96 + i < 140 by omega), i_add1, Option.bind_some, ↓reduceIte, km_1, km_2, km_3, km_4, km_5, km_6, km_7, kn_10, kn_20, kn_21]
      exact f1
    · rw [f3 j hj, gU3_n _ _ _ _ _ (by decide), gU3_s, upd_i]
      by_cases q : i + 1 ≤ j
      · rw [if_pos q, if_pos (by omega)]
      · rw [if_neg q]
        by_cases q2 : j = i
        · rw [if_pos (by omega), if_pos (by omega), q2]
        · rw [if_neg (by omega), if_neg (by omega)]
    · rw [f4 q hq, gU3_s, upd_i, if_neg (by omega)]
theorem cB_13_30 : ∀ (d i fu : Nat) (M : GS), 16 - i = d → i ≤ 16 → d < fu → ∃ M', fX9_carries_13_30_3 fu M (nI 96) 1 (nI i) = some M' ∧ FM 13 13 M M' ∧ (∀ j, j < 16 → M'.2.2.1 13 j = if i ≤ j then M.2.2.1 30 (96 + j) else M.2.2.1 13 j) := by
  intro d
  induction d with
  | zero =>
    intro i fu M hd hi hf
    obtain ⟨fu, rfl⟩ : ∃ q, fu = q + 1 := ⟨fu - 1, by omega⟩
    have e : i = 16 := by omega
    subst e
    refine ⟨M, ?_, FM.rf _ _ M, fun j hj => by rw [if_neg (by omega)]⟩
    rw [fX9_carries_13_30_3, if_pos (show (16 : Int32) ≤ nI 16 by decide +kernel)]
  | succ d ih =>
    intro i fu M hd hi hf
    obtain ⟨fu, rfl⟩ : ∃ q, fu = q + 1 := ⟨fu - 1, by omega⟩
    have hi16 : i < 16 := by omega
    have hlt : ((16 : Int32) ≤ nI i) = False := (nle_e (a := 16) (by omega) (by omega)).trans (eq_false (by omega))
    obtain ⟨M', f1, f2, f3⟩ := ih (i + 1) fu (gU3 M 13 i (M.2.2.1 30 (96 + i))) (by omega) (by omega) (by omega)
    refine ⟨M', ?_, (FM.u1 _ _ _ _ _).tr f2, fun j hj => ?_⟩
    · rw [fX9_carries_13_30_3]
      simp only [hlt, kn_10, i_add, in16 hi16, cl16 hi16, in140 (show 96 + i < 140 by omega), cl140 (show 96 + i < 140 by omega), i_add1, Option.bind_some, ↓reduceIte, km_1, km_2, km_3, km_4, km_5, km_6, km_7, kn_10, kn_20, kn_21]
      exact f1
    · rw [f3 j hj, gU3_n _ _ _ _ _ (by decide), gU3_s, upd_i]
      by_cases q : i + 1 ≤ j
      · rw [if_pos q, if_pos (by omega)]
      · rw [if_neg q]
        by_cases q2 : j = i
        · rw [if_pos q2, if_pos (by omega), q2]
        · rw [if_neg q2, if_neg (by omega)]
theorem cf_13_30 (M : GS) : ∃ M', fX9_carries_13_30 M (nI 96) 0 = some (nI 112, M') ∧ FM 30 30 M M' ∧ (∀ j, j < 16 → M'.2.2.1 30 (96 + j) = M.2.2.1 13 j) ∧ ∀ q, (q < 96 ∨ 96 + 16 ≤ q) → M'.2.2.1 30 q = M.2.2.1 30 q := by
  obtain ⟨M', f1, f2, f3, f4⟩ := cF_13_30 16 0 gFuel M rfl (by omega) (gFu _ (by omega))
  refine ⟨M', ?_, f2, fun j hj => by rw [f3 j hj, if_pos (Nat.zero_le j)], f4⟩
  rw [fX9_carries_13_30]
  exact (congrArg (fun z => Option.bind z (fun u => some (nI 96 + (16 : Int32), u))) f1).trans rfl
theorem cb_13_30 (M : GS) : ∃ M', fX9_carries_13_30 M (nI 96) 1 = some (nI 112, M') ∧ FM 13 13 M M' ∧ (∀ j, j < 16 → M'.2.2.1 13 j = M.2.2.1 30 (96 + j)) := by
  obtain ⟨M', f1, f2, f3⟩ := cB_13_30 16 0 gFuel M rfl (by omega) (gFu _ (by omega))
  refine ⟨M', ?_, f2, fun j hj => by rw [f3 j hj, if_pos (Nat.zero_le j)]⟩
  rw [fX9_carries_13_30]
  exact (congrArg (fun z => Option.bind z (fun u => some (nI 96 + (16 : Int32), u))) f1).trans rfl
theorem cF_14_30 : ∀ (d i fu : Nat) (M : GS), 16 - i = d → i ≤ 16 → d < fu → ∃ M', fX9_carries_14_30_3 fu M (nI 112) 0 (nI i) = some M' ∧ FM 30 30 M M' ∧ (∀ j, j < 16 → M'.2.2.1 30 (112 + j) = if i ≤ j then M.2.2.1 14 j else M.2.2.1 30 (112 + j)) ∧ ∀ q, (q < 112 ∨ 112 + 16 ≤ q) → M'.2.2.1 30 q = M.2.2.1 30 q := by
  intro d
  induction d with
  | zero =>
    intro i fu M hd hi hf
    obtain ⟨fu, rfl⟩ : ∃ q, fu = q + 1 := ⟨fu - 1, by omega⟩
    have e : i = 16 := by omega
    subst e
    refine ⟨M, ?_, FM.rf _ _ M, fun j hj => by rw [if_neg (by omega)], fun _ _ => rfl⟩
    rw [fX9_carries_14_30_3, if_pos (show (16 : Int32) ≤ nI 16 by decide +kernel)]
  | succ d ih =>
    intro i fu M hd hi hf
    obtain ⟨fu, rfl⟩ : ∃ q, fu = q + 1 := ⟨fu - 1, by omega⟩
    have hi16 : i < 16 := by omega
    have hlt : ((16 : Int32) ≤ nI i) = False := (nle_e (a := 16) (by omega) (by omega)).trans (eq_false (by omega))
    obtain ⟨M', f1, f2, f3, f4⟩ := ih (i + 1) fu (gU3 M 30 (112 + i) (M.2.2.1 14 i)) (by omega) (by omega) (by omega)
    refine ⟨M', ?_, (FM.u1 _ _ _ _ _).tr f2, fun j hj => ?_, fun q hq => ?_⟩
    · rw [fX9_carries_14_30_3]
      simp only [hlt, eq_self, i_add, in16 hi16, cl16 hi16, in140 (show 112 + i < 140 by omega), cl140 (show 112 + i < 140 by omega), i_add1, Option.bind_some, ↓reduceIte, km_1, km_2, km_3, km_4, km_5, km_6, km_7, kn_10, kn_20, kn_21]
      exact f1
    · rw [f3 j hj, gU3_n _ _ _ _ _ (by decide), gU3_s, upd_i]
      by_cases q : i + 1 ≤ j
      · rw [if_pos q, if_pos (by omega)]
      · rw [if_neg q]
        by_cases q2 : j = i
        · rw [if_pos (by omega), if_pos (by omega), q2]
        · rw [if_neg (by omega), if_neg (by omega)]
    · rw [f4 q hq, gU3_s, upd_i, if_neg (by omega)]
theorem cB_14_30 : ∀ (d i fu : Nat) (M : GS), 16 - i = d → i ≤ 16 → d < fu → ∃ M', fX9_carries_14_30_3 fu M (nI 112) 1 (nI i) = some M' ∧ FM 14 14 M M' ∧ (∀ j, j < 16 → M'.2.2.1 14 j = if i ≤ j then M.2.2.1 30 (112 + j) else M.2.2.1 14 j) := by
  intro d
  induction d with
  | zero =>
    intro i fu M hd hi hf
    obtain ⟨fu, rfl⟩ : ∃ q, fu = q + 1 := ⟨fu - 1, by omega⟩
    have e : i = 16 := by omega
    subst e
    refine ⟨M, ?_, FM.rf _ _ M, fun j hj => by rw [if_neg (by omega)]⟩
    rw [fX9_carries_14_30_3, if_pos (show (16 : Int32) ≤ nI 16 by decide +kernel)]
  | succ d ih =>
    intro i fu M hd hi hf
    obtain ⟨fu, rfl⟩ : ∃ q, fu = q + 1 := ⟨fu - 1, by omega⟩
    have hi16 : i < 16 := by omega
    have hlt : ((16 : Int32) ≤ nI i) = False := (nle_e (a := 16) (by omega) (by omega)).trans (eq_false (by omega))
    obtain ⟨M', f1, f2, f3⟩ := ih (i + 1) fu (gU3 M 14 i (M.2.2.1 30 (112 + i))) (by omega) (by omega) (by omega)
    refine ⟨M', ?_, (FM.u1 _ _ _ _ _).tr f2, fun j hj => ?_⟩
    · rw [fX9_carries_14_30_3]
      simp only [hlt, kn_10, i_add, in16 hi16, cl16 hi16, in140 (show 112 + i < 140 by omega), cl140 (show 112 + i < 140 by omega), i_add1, Option.bind_some, ↓reduceIte, km_1, km_2, km_3, km_4, km_5, km_6, km_7, kn_10, kn_20, kn_21]
      exact f1
    · rw [f3 j hj, gU3_n _ _ _ _ _ (by decide), gU3_s, upd_i]
      by_cases q : i + 1 ≤ j
      · rw [if_pos q, if_pos (by omega)]
      · rw [if_neg q]
        by_cases q2 : j = i
        · rw [if_pos q2, if_pos (by omega), q2]
        · rw [if_neg q2, if_neg (by omega)]
theorem cf_14_30 (M : GS) : ∃ M', fX9_carries_14_30 M (nI 112) 0 = some (nI 128, M') ∧ FM 30 30 M M' ∧ (∀ j, j < 16 → M'.2.2.1 30 (112 + j) = M.2.2.1 14 j) ∧ ∀ q, (q < 112 ∨ 112 + 16 ≤ q) → M'.2.2.1 30 q = M.2.2.1 30 q := by
  obtain ⟨M', f1, f2, f3, f4⟩ := cF_14_30 16 0 gFuel M rfl (by omega) (gFu _ (by omega))
  refine ⟨M', ?_, f2, fun j hj => by rw [f3 j hj, if_pos (Nat.zero_le j)], f4⟩
  rw [fX9_carries_14_30]
  exact (congrArg (fun z => Option.bind z (fun u => some (nI 112 + (16 : Int32), u))) f1).trans rfl
theorem cb_14_30 (M : GS) : ∃ M', fX9_carries_14_30 M (nI 112) 1 = some (nI 128, M') ∧ FM 14 14 M M' ∧ (∀ j, j < 16 → M'.2.2.1 14 j = M.2.2.1 30 (112 + j)) := by
  obtain ⟨M', f1, f2, f3⟩ := cB_14_30 16 0 gFuel M rfl (by omega) (gFu _ (by omega))
  refine ⟨M', ?_, f2, fun j hj => by rw [f3 j hj, if_pos (Nat.zero_le j)]⟩
  rw [fX9_carries_14_30]
  exact (congrArg (fun z => Option.bind z (fun u => some (nI 112 + (16 : Int32), u))) f1).trans rfl
theorem m_all0_30 (M : GS) : ∃ M', fX9_all_30 M 0 = some M' ∧ FM 30 30 M M' ∧ M'.2.2.1 30 128 = M.1 0 ∧ M'.2.2.1 30 129 = M.1 1 ∧ M'.2.2.1 30 130 = M.1 2 ∧ M'.2.2.1 30 131 = M.1 3 ∧ M'.2.2.1 30 132 = M.1 4 ∧ ∀ j, j < 16 → M'.2.2.1 30 (0 + j) = M.2.2.1 7 j ∧ M'.2.2.1 30 (16 + j) = M.2.2.1 8 j ∧ M'.2.2.1 30 (32 + j) = M.2.2.1 9 j ∧ M'.2.2.1 30 (48 + j) = M.2.2.1 10 j ∧ M'.2.2.1 30 (64 + j) = M.2.2.1 11 j ∧ M'.2.2.1 30 (80 + j) = M.2.2.1 12 j ∧ M'.2.2.1 30 (96 + j) = M.2.2.1 13 j ∧ M'.2.2.1 30 (112 + j) = M.2.2.1 14 j := by
  obtain ⟨M1, a1, f1, v1, o1⟩ := cf_7_30 M
  obtain ⟨M2, a2, f2, v2, o2⟩ := cf_8_30 M1
  obtain ⟨M3, a3, f3, v3, o3⟩ := cf_9_30 M2
  obtain ⟨M4, a4, f4, v4, o4⟩ := cf_10_30 M3
  obtain ⟨M5, a5, f5, v5, o5⟩ := cf_11_30 M4
  obtain ⟨M6, a6, f6, v6, o6⟩ := cf_12_30 M5
  obtain ⟨M7, a7, f7, v7, o7⟩ := cf_13_30 M6
  obtain ⟨M8, a8, f8, v8, o8⟩ := cf_14_30 M7
  rw [show nI 0 = (0 : Int32) from rfl] at a1
  have q1 : M8.1 = M.1 := by rw [f8.1, f7.1, f6.1, f5.1, f4.1, f3.1, f2.1, f1.1]
  refine ⟨(gU3 (gU3 (gU3 (gU3 (gU3 M8 30 128 (M.1 0)) 30 129 (M.1 1)) 30 130 (M.1 2)) 30 131 (M.1 3)) 30 132 (M.1 4)), ?_, ?_, ?_, ?_, ?_, ?_, ?_, fun j hj => ?_⟩
  · simp only [fX9_all_30, a1, a2, a3, a4, a5, a6, a7, a8, eq_self, n128_1, n128_2, n128_3, n128_4, in140 (show 128 < 140 by decide), cl140 (show 128 < 140 by decide), in140 (show 129 < 140 by decide), cl140 (show 129 < 140 by decide), in140 (show 130 < 140 by decide), cl140 (show 130 < 140 by decide), in140 (show 131 < 140 by decide), cl140 (show 131 < 140 by decide), in140 (show 132 < 140 by decide), cl140 (show 132 < 140 by decide), gLet_eq, gU3_1, q1, Option.bind_some, ↓reduceIte, km_1, km_2, km_3, km_4, km_5, km_6, km_7, kn_10, kn_20, kn_21]
  · exact ((((((((((((f1.tr f2).tr f3).tr f4).tr f5).tr f6).tr f7).tr f8).tr (FM.u1 _ _ _ _ _)).tr (FM.u1 _ _ _ _ _)).tr (FM.u1 _ _ _ _ _)).tr (FM.u1 _ _ _ _ _)).tr (FM.u1 _ _ _ _ _))
  · simp (disch := omega) only [gU3_s, upd_i, if_yes, if_no, ↓reduceIte]
  · simp (disch := omega) only [gU3_s, upd_i, if_yes, if_no, ↓reduceIte]
  · simp (disch := omega) only [gU3_s, upd_i, if_yes, if_no, ↓reduceIte]
  · simp (disch := omega) only [gU3_s, upd_i, if_yes, if_no, ↓reduceIte]
  · simp (disch := omega) only [gU3_s, upd_i, if_yes, if_no, ↓reduceIte]
  · refine ⟨?_, ?_, ?_, ?_, ?_, ?_, ?_, ?_⟩
    · simp (disch := omega) only [gU3_s, upd_i, if_no]
      rw [o8 _ (by omega), o7 _ (by omega), o6 _ (by omega), o5 _ (by omega), o4 _ (by omega), o3 _ (by omega), o2 _ (by omega), v1 j hj]
    · simp (disch := omega) only [gU3_s, upd_i, if_no]
      rw [o8 _ (by omega), o7 _ (by omega), o6 _ (by omega), o5 _ (by omega), o4 _ (by omega), o3 _ (by omega), v2 j hj, f1.2.2.2 8 (by decide) (by decide)]
    · simp (disch := omega) only [gU3_s, upd_i, if_no]
      rw [o8 _ (by omega), o7 _ (by omega), o6 _ (by omega), o5 _ (by omega), o4 _ (by omega), v3 j hj, f2.2.2.2 9 (by decide) (by decide), f1.2.2.2 9 (by decide) (by decide)]
    · simp (disch := omega) only [gU3_s, upd_i, if_no]
      rw [o8 _ (by omega), o7 _ (by omega), o6 _ (by omega), o5 _ (by omega), v4 j hj, f3.2.2.2 10 (by decide) (by decide), f2.2.2.2 10 (by decide) (by decide), f1.2.2.2 10 (by decide) (by decide)]
    · simp (disch := omega) only [gU3_s, upd_i, if_no]
      rw [o8 _ (by omega), o7 _ (by omega), o6 _ (by omega), v5 j hj, f4.2.2.2 11 (by decide) (by decide), f3.2.2.2 11 (by decide) (by decide), f2.2.2.2 11 (by decide) (by decide), f1.2.2.2 11 (by decide) (by decide)]
    · simp (disch := omega) only [gU3_s, upd_i, if_no]
      rw [o8 _ (by omega), o7 _ (by omega), v6 j hj, f5.2.2.2 12 (by decide) (by decide), f4.2.2.2 12 (by decide) (by decide), f3.2.2.2 12 (by decide) (by decide), f2.2.2.2 12 (by decide) (by decide), f1.2.2.2 12 (by decide) (by decide)]
    · simp (disch := omega) only [gU3_s, upd_i, if_no]
      rw [o8 _ (by omega), v7 j hj, f6.2.2.2 13 (by decide) (by decide), f5.2.2.2 13 (by decide) (by decide), f4.2.2.2 13 (by decide) (by decide), f3.2.2.2 13 (by decide) (by decide), f2.2.2.2 13 (by decide) (by decide), f1.2.2.2 13 (by decide) (by decide)]
    · simp (disch := omega) only [gU3_s, upd_i, if_no]
      rw [v8 j hj, f7.2.2.2 14 (by decide) (by decide), f6.2.2.2 14 (by decide) (by decide), f5.2.2.2 14 (by decide) (by decide), f4.2.2.2 14 (by decide) (by decide), f3.2.2.2 14 (by decide) (by decide), f2.2.2.2 14 (by decide) (by decide), f1.2.2.2 14 (by decide) (by decide)]
theorem m_all1_30 (M : GS) : ∃ M', fX9_all_30 M 1 = some M' ∧ M'.2.1 = M.2.1 ∧ M'.2.2.2 = M.2.2.2 ∧ (∀ k, (k < 7 ∨ 14 < k) → M'.2.2.1 k = M.2.2.1 k) ∧ (∀ k, 4 < k → M'.1 k = M.1 k) ∧ M'.1 0 = M.2.2.1 30 128 ∧ M'.1 1 = M.2.2.1 30 129 ∧ M'.1 2 = M.2.2.1 30 130 ∧ M'.1 3 = M.2.2.1 30 131 ∧ M'.1 4 = M.2.2.1 30 132 ∧ ∀ j, j < 16 → M'.2.2.1 7 j = M.2.2.1 30 (0 + j) ∧ M'.2.2.1 8 j = M.2.2.1 30 (16 + j) ∧ M'.2.2.1 9 j = M.2.2.1 30 (32 + j) ∧ M'.2.2.1 10 j = M.2.2.1 30 (48 + j) ∧ M'.2.2.1 11 j = M.2.2.1 30 (64 + j) ∧ M'.2.2.1 12 j = M.2.2.1 30 (80 + j) ∧ M'.2.2.1 13 j = M.2.2.1 30 (96 + j) ∧ M'.2.2.1 14 j = M.2.2.1 30 (112 + j) := by
  obtain ⟨M1, a1, f1, v1⟩ := cb_7_30 M
  obtain ⟨M2, a2, f2, v2⟩ := cb_8_30 M1
  obtain ⟨M3, a3, f3, v3⟩ := cb_9_30 M2
  obtain ⟨M4, a4, f4, v4⟩ := cb_10_30 M3
  obtain ⟨M5, a5, f5, v5⟩ := cb_11_30 M4
  obtain ⟨M6, a6, f6, v6⟩ := cb_12_30 M5
  obtain ⟨M7, a7, f7, v7⟩ := cb_13_30 M6
  obtain ⟨M8, a8, f8, v8⟩ := cb_14_30 M7
  rw [show nI 0 = (0 : Int32) from rfl] at a1
  have qT : M8.2.2.1 30 = M.2.2.1 30 := by rw [f8.2.2.2 30 (by decide) (by decide), f7.2.2.2 30 (by decide) (by decide), f6.2.2.2 30 (by decide) (by decide), f5.2.2.2 30 (by decide) (by decide), f4.2.2.2 30 (by decide) (by decide), f3.2.2.2 30 (by decide) (by decide), f2.2.2.2 30 (by decide) (by decide), f1.2.2.2 30 (by decide) (by decide)]
  refine ⟨(gU1 (gU1 (gU1 (gU1 (gU1 M8 0 (M.2.2.1 30 128)) 1 (M.2.2.1 30 129)) 2 (M.2.2.1 30 130)) 3 (M.2.2.1 30 131)) 4 (M.2.2.1 30 132)), ?_, ?_, ?_, fun k hk => ?_, fun k hk => ?_, ?_, ?_, ?_, ?_, ?_, fun j hj => ?_⟩
  · simp only [fX9_all_30, a1, a2, a3, a4, a5, a6, a7, a8, kn_10, n128_1, n128_2, n128_3, n128_4, in140 (show 128 < 140 by decide), cl140 (show 128 < 140 by decide), in140 (show 129 < 140 by decide), cl140 (show 129 < 140 by decide), in140 (show 130 < 140 by decide), cl140 (show 130 < 140 by decide), in140 (show 131 < 140 by decide), cl140 (show 131 < 140 by decide), in140 (show 132 < 140 by decide), cl140 (show 132 < 140 by decide), gLet_eq, gU1_2, qT, Option.bind_some, ↓reduceIte, km_1, km_2, km_3, km_4, km_5, km_6, km_7, kn_10, kn_20, kn_21]
  · show M8.2.1 = M.2.1
    rw [f8.2.1, f7.2.1, f6.2.1, f5.2.1, f4.2.1, f3.2.1, f2.2.1, f1.2.1]
  · show M8.2.2.2 = M.2.2.2
    rw [f8.2.2.1, f7.2.2.1, f6.2.2.1, f5.2.2.1, f4.2.2.1, f3.2.2.1, f2.2.2.1, f1.2.2.1]
  · show M8.2.2.1 k = M.2.2.1 k
    rw [f8.2.2.2 k (by omega) (by omega), f7.2.2.2 k (by omega) (by omega), f6.2.2.2 k (by omega) (by omega), f5.2.2.2 k (by omega) (by omega), f4.2.2.2 k (by omega) (by omega), f3.2.2.2 k (by omega) (by omega), f2.2.2.2 k (by omega) (by omega), f1.2.2.2 k (by omega) (by omega)]
  · rw [gU1_n _ _ _ _ (by omega), gU1_n _ _ _ _ (by omega), gU1_n _ _ _ _ (by omega), gU1_n _ _ _ _ (by omega), gU1_n _ _ _ _ (by omega), f8.1, f7.1, f6.1, f5.1, f4.1, f3.1, f2.1, f1.1]
  · rfl
  · rfl
  · rfl
  · rfl
  · rfl
  · refine ⟨?_, ?_, ?_, ?_, ?_, ?_, ?_, ?_⟩
    · show M8.2.2.1 7 j = _
      rw [f8.2.2.2 7 (by decide) (by decide), f7.2.2.2 7 (by decide) (by decide), f6.2.2.2 7 (by decide) (by decide), f5.2.2.2 7 (by decide) (by decide), f4.2.2.2 7 (by decide) (by decide), f3.2.2.2 7 (by decide) (by decide), f2.2.2.2 7 (by decide) (by decide), v1 j hj]
    · show M8.2.2.1 8 j = _
      rw [f8.2.2.2 8 (by decide) (by decide), f7.2.2.2 8 (by decide) (by decide), f6.2.2.2 8 (by decide) (by decide), f5.2.2.2 8 (by decide) (by decide), f4.2.2.2 8 (by decide) (by decide), f3.2.2.2 8 (by decide) (by decide), v2 j hj, f1.2.2.2 30 (by decide) (by decide)]
    · show M8.2.2.1 9 j = _
      rw [f8.2.2.2 9 (by decide) (by decide), f7.2.2.2 9 (by decide) (by decide), f6.2.2.2 9 (by decide) (by decide), f5.2.2.2 9 (by decide) (by decide), f4.2.2.2 9 (by decide) (by decide), v3 j hj, f2.2.2.2 30 (by decide) (by decide), f1.2.2.2 30 (by decide) (by decide)]
    · show M8.2.2.1 10 j = _
      rw [f8.2.2.2 10 (by decide) (by decide), f7.2.2.2 10 (by decide) (by decide), f6.2.2.2 10 (by decide) (by decide), f5.2.2.2 10 (by decide) (by decide), v4 j hj, f3.2.2.2 30 (by decide) (by decide), f2.2.2.2 30 (by decide) (by decide), f1.2.2.2 30 (by decide) (by decide)]
    · show M8.2.2.1 11 j = _
      rw [f8.2.2.2 11 (by decide) (by decide), f7.2.2.2 11 (by decide) (by decide), f6.2.2.2 11 (by decide) (by decide), v5 j hj, f4.2.2.2 30 (by decide) (by decide), f3.2.2.2 30 (by decide) (by decide), f2.2.2.2 30 (by decide) (by decide), f1.2.2.2 30 (by decide) (by decide)]
    · show M8.2.2.1 12 j = _
      rw [f8.2.2.2 12 (by decide) (by decide), f7.2.2.2 12 (by decide) (by decide), v6 j hj, f5.2.2.2 30 (by decide) (by decide), f4.2.2.2 30 (by decide) (by decide), f3.2.2.2 30 (by decide) (by decide), f2.2.2.2 30 (by decide) (by decide), f1.2.2.2 30 (by decide) (by decide)]
    · show M8.2.2.1 13 j = _
      rw [f8.2.2.2 13 (by decide) (by decide), v7 j hj, f6.2.2.2 30 (by decide) (by decide), f5.2.2.2 30 (by decide) (by decide), f4.2.2.2 30 (by decide) (by decide), f3.2.2.2 30 (by decide) (by decide), f2.2.2.2 30 (by decide) (by decide), f1.2.2.2 30 (by decide) (by decide)]
    · show M8.2.2.1 14 j = _
      rw [v8 j hj, f7.2.2.2 30 (by decide) (by decide), f6.2.2.2 30 (by decide) (by decide), f5.2.2.2 30 (by decide) (by decide), f4.2.2.2 30 (by decide) (by decide), f3.2.2.2 30 (by decide) (by decide), f2.2.2.2 30 (by decide) (by decide), f1.2.2.2 30 (by decide) (by decide)]
theorem cp0 (f g : Nat → Int32) {n : Int32} {N j : Nat} (hN : n.toNatClampNeg = N) (hj : j < N) : va_cpy f g (0 : Int32).toNatClampNeg (0 : Int32).toNatClampNeg n.toNatClampNeg j = f j := by
  rw [show (0 : Int32).toNatClampNeg = 0 from by decide +kernel, hN, pk_cpy_in (Nat.zero_le j) (by omega)]
  congr 1
  omega
theorem x_like_imaged_now (X : GS) : ∃ X', fX3_becomeLike_imaged_now X = some X' ∧ X'.2.1 = X.2.1 ∧ X'.2.2.2 = X.2.2.2 ∧ (∀ k, k ≠ 16 → k ≠ 17 → X'.2.2.1 k = X.2.2.1 k) ∧ (∀ k, k ≠ 18 → k ≠ 19 → X'.1 k = X.1 k) ∧ X'.1 18 = X.1 2 ∧ X'.1 19 = X.1 3 ∧ (∀ j, j < 128 → X'.2.2.1 16 j = X.2.2.1 0 j) ∧ ∀ j, j < 3 → X'.2.2.1 17 j = X.2.2.1 1 j := by
  refine ⟨gU1 (gU1 (gA3 (gA3 X 16 (va_cpy (X.2.2.1 0) (X.2.2.1 16) (0 : Int32).toNatClampNeg (0 : Int32).toNatClampNeg (128 : Int32).toNatClampNeg)) 17 (va_cpy (X.2.2.1 1) (X.2.2.1 17) (0 : Int32).toNatClampNeg (0 : Int32).toNatClampNeg (3 : Int32).toNatClampNeg)) 18 (X.1 2)) 19 (X.1 3), ?_, rfl, rfl, fun k h1 h2 => ?_, fun k h1 h2 => ?_, ?_, ?_, fun j hj => ?_, fun j hj => ?_⟩
  · rw [fX3_becomeLike_imaged_now, if_neg (by decide +kernel), gLet_eq, if_neg (by decide +kernel), gLet_eq]
    rfl
  · rw [gU1_2, gU1_2, gA3_n _ _ _ _ h2, gA3_n _ _ _ _ h1]
  · rw [gU1_n _ _ _ _ h2, gU1_n _ _ _ _ h1]
    rfl
  · rw [gU1_n _ _ _ _ (by decide), gU1_s]
  · rw [gU1_s]
  · rw [gU1_2, gU1_2, gA3_n _ _ _ _ (by decide), gA3_s]
    exact cp0 _ _ (by decide +kernel) hj
  · rw [gU1_2, gU1_2, gA3_s]
    exact cp0 _ _ (by decide +kernel) hj
theorem x_like_now_imaged (X : GS) : ∃ X', fX3_becomeLike_now_imaged X = some X' ∧ X'.2.1 = X.2.1 ∧ X'.2.2.2 = X.2.2.2 ∧ (∀ k, k ≠ 0 → k ≠ 1 → X'.2.2.1 k = X.2.2.1 k) ∧ (∀ k, k ≠ 2 → k ≠ 3 → X'.1 k = X.1 k) ∧ X'.1 2 = X.1 18 ∧ X'.1 3 = X.1 19 ∧ (∀ j, j < 128 → X'.2.2.1 0 j = X.2.2.1 16 j) ∧ ∀ j, j < 3 → X'.2.2.1 1 j = X.2.2.1 17 j := by
  refine ⟨gU1 (gU1 (gA3 (gA3 X 0 (va_cpy (X.2.2.1 16) (X.2.2.1 0) (0 : Int32).toNatClampNeg (0 : Int32).toNatClampNeg (128 : Int32).toNatClampNeg)) 1 (va_cpy (X.2.2.1 17) (X.2.2.1 1) (0 : Int32).toNatClampNeg (0 : Int32).toNatClampNeg (3 : Int32).toNatClampNeg)) 2 (X.1 18)) 3 (X.1 19), ?_, rfl, rfl, fun k h1 h2 => ?_, fun k h1 h2 => ?_, ?_, ?_, fun j hj => ?_, fun j hj => ?_⟩
  · rw [fX3_becomeLike_now_imaged, if_neg (by decide +kernel), gLet_eq, if_neg (by decide +kernel), gLet_eq]
    rfl
  · rw [gU1_2, gU1_2, gA3_n _ _ _ _ h2, gA3_n _ _ _ _ h1]
  · rw [gU1_n _ _ _ _ h2, gU1_n _ _ _ _ h1]
    rfl
  · rw [gU1_n _ _ _ _ (by decide), gU1_s]
  · rw [gU1_s]
  · rw [gU1_2, gU1_2, gA3_n _ _ _ _ (by decide), gA3_s]
    exact cp0 _ _ (by decide +kernel) hj
  · rw [gU1_2, gU1_2, gA3_s]
    exact cp0 _ _ (by decide +kernel) hj
theorem x_like_told_now (X : GS) : ∃ X', fX3_becomeLike_told_now X = some X' ∧ X'.2.1 = X.2.1 ∧ X'.2.2.2 = X.2.2.2 ∧ (∀ k, k ≠ 32 → k ≠ 33 → X'.2.2.1 k = X.2.2.1 k) ∧ (∀ k, k ≠ 34 → k ≠ 35 → X'.1 k = X.1 k) ∧ X'.1 34 = X.1 2 ∧ X'.1 35 = X.1 3 ∧ (∀ j, j < 128 → X'.2.2.1 32 j = X.2.2.1 0 j) ∧ ∀ j, j < 3 → X'.2.2.1 33 j = X.2.2.1 1 j := by
  refine ⟨gU1 (gU1 (gA3 (gA3 X 32 (va_cpy (X.2.2.1 0) (X.2.2.1 32) (0 : Int32).toNatClampNeg (0 : Int32).toNatClampNeg (128 : Int32).toNatClampNeg)) 33 (va_cpy (X.2.2.1 1) (X.2.2.1 33) (0 : Int32).toNatClampNeg (0 : Int32).toNatClampNeg (3 : Int32).toNatClampNeg)) 34 (X.1 2)) 35 (X.1 3), ?_, rfl, rfl, fun k h1 h2 => ?_, fun k h1 h2 => ?_, ?_, ?_, fun j hj => ?_, fun j hj => ?_⟩
  · rw [fX3_becomeLike_told_now, if_neg (by decide +kernel), gLet_eq, if_neg (by decide +kernel), gLet_eq]
    rfl
  · rw [gU1_2, gU1_2, gA3_n _ _ _ _ h2, gA3_n _ _ _ _ h1]
  · rw [gU1_n _ _ _ _ h2, gU1_n _ _ _ _ h1]
    rfl
  · rw [gU1_n _ _ _ _ (by decide), gU1_s]
  · rw [gU1_s]
  · rw [gU1_2, gU1_2, gA3_n _ _ _ _ (by decide), gA3_s]
    exact cp0 _ _ (by decide +kernel) hj
  · rw [gU1_2, gU1_2, gA3_s]
    exact cp0 _ _ (by decide +kernel) hj
theorem x_like_now_told (X : GS) : ∃ X', fX3_becomeLike_now_told X = some X' ∧ X'.2.1 = X.2.1 ∧ X'.2.2.2 = X.2.2.2 ∧ (∀ k, k ≠ 0 → k ≠ 1 → X'.2.2.1 k = X.2.2.1 k) ∧ (∀ k, k ≠ 2 → k ≠ 3 → X'.1 k = X.1 k) ∧ X'.1 2 = X.1 34 ∧ X'.1 3 = X.1 35 ∧ (∀ j, j < 128 → X'.2.2.1 0 j = X.2.2.1 32 j) ∧ ∀ j, j < 3 → X'.2.2.1 1 j = X.2.2.1 33 j := by
  refine ⟨gU1 (gU1 (gA3 (gA3 X 0 (va_cpy (X.2.2.1 32) (X.2.2.1 0) (0 : Int32).toNatClampNeg (0 : Int32).toNatClampNeg (128 : Int32).toNatClampNeg)) 1 (va_cpy (X.2.2.1 33) (X.2.2.1 1) (0 : Int32).toNatClampNeg (0 : Int32).toNatClampNeg (3 : Int32).toNatClampNeg)) 2 (X.1 34)) 3 (X.1 35), ?_, rfl, rfl, fun k h1 h2 => ?_, fun k h1 h2 => ?_, ?_, ?_, fun j hj => ?_, fun j hj => ?_⟩
  · rw [fX3_becomeLike_now_told, if_neg (by decide +kernel), gLet_eq, if_neg (by decide +kernel), gLet_eq]
    rfl
  · rw [gU1_2, gU1_2, gA3_n _ _ _ _ h2, gA3_n _ _ _ _ h1]
  · rw [gU1_n _ _ _ _ h2, gU1_n _ _ _ _ h1]
    rfl
  · rw [gU1_n _ _ _ _ (by decide), gU1_s]
  · rw [gU1_s]
  · rw [gU1_2, gU1_2, gA3_n _ _ _ _ (by decide), gA3_s]
    exact cp0 _ _ (by decide +kernel) hj
  · rw [gU1_2, gU1_2, gA3_s]
    exact cp0 _ _ (by decide +kernel) hj
theorem MRj {M : GS} {n : Nat} (h : MRn M n) (f0 f1 f2 f3 f4 f5 f6 f7 : Nat → Int32) (hn : n ≤ 16) (e : ∀ j, j < 16 → f0 j = M.2.2.1 7 j ∧ f1 j = M.2.2.1 8 j ∧ f2 j = M.2.2.1 9 j ∧ f3 j = M.2.2.1 10 j ∧ f4 j = M.2.2.1 11 j ∧ f5 j = M.2.2.1 12 j ∧ f6 j = M.2.2.1 13 j ∧ f7 j = M.2.2.1 14 j) : MR f0 f1 f2 f3 f4 f5 f6 f7 n := by
  intro i hi
  obtain ⟨e0, e1, e2, e3, e4, e5, e6, e7⟩ := e i (by omega)
  rw [e0, e1, e2, e3, e4, e5, e6, e7]
  exact h i hi
theorem s_image {X M : GS} (h : Rel X M) : St (fX8_image X) (fX9_image M) := by
  obtain ⟨n, hL, hSh, hO⟩ := h
  have hn := hL.1
  obtain ⟨X', a1, -, a3, a4, a5, a6, a7, a8, a9⟩ := x_like_imaged_now X
  obtain ⟨M', b1, b2, b3, b4, b5, b6, b7, b8⟩ := m_all0_30 (gU1 M 39 1)
  have hm : ∀ k, k ≠ 39 → M'.1 k = M.1 k := fun k hk => by rw [b2.1, gU1_n _ _ _ _ hk]
  have hr : ∀ k, k ≠ 30 → M'.2.2.1 k = M.2.2.1 k := fun k hk => b2.2.2.2 k hk hk
  have hx : ∀ k, k ≠ 18 → k ≠ 19 → k ≠ 57 → (gU1 X' 57 1).1 k = X.1 k := fun k h1 h2 h3 => by rw [gU1_n _ _ _ _ h3, a5 k h1 h2]
  have hL' : RLp (gU1 X' 57 1) M' n := by
    simp only [RLp, RFn, MRn, RTn, MTn] at hL ⊢
    rw [hx 2 (by decide) (by decide) (by decide), hx 3 (by decide) (by decide) (by decide), gU1_2, a4 0 (by decide) (by decide), a4 1 (by decide) (by decide), hm 0 (by decide), hm 1 (by decide), hm 2 (by decide), hm 3 (by decide), hm 4 (by decide), hr 7 (by decide), hr 8 (by decide), hr 9 (by decide), hr 10 (by decide), hr 11 (by decide), hr 12 (by decide), hr 13 (by decide), hr 14 (by decide)]
    exact hL
  have hS' : ∀ s, s < 8 → RSn (gU1 X' 57 1) M' n s := by
    intro s hs
    have q := hSh s hs
    simp only [RSn] at q ⊢
    rw [gU1_2, a4 64 (by decide) (by decide), a4 65 (by decide) (by decide), a3, hr 15 (by decide), hr 16 (by decide), hr 17 (by decide), hr 18 (by decide), show M'.2.2.2 = M.2.2.2 from b2.2.2.1]
    exact q
  have hO' : RO (gU1 X' 57 1) M' := by
    obtain ⟨o1, o2, o3, o4, o5⟩ := hO
    refine ⟨?_, ?_, ?_, ?_, ?_⟩
    · rw [gU1_2, a4 56 (by decide) (by decide), hr 6 (by decide)]
      exact o1
    · rw [hx 58 (by decide) (by decide) (by decide), hm 5 (by decide)]
      exact o2
    · rw [hx 145 (by decide) (by decide) (by decide), hm 38 (by decide), gU1_2, a4 144 (by decide) (by decide), hr 37 (by decide)]
      exact o3
    · refine Or.inr ⟨gU1_s _ _ _, by rw [b2.1, gU1_s], n, hn, ?_, ?_, ?_, ?_, ?_, ?_⟩
      · rw [gU1_n _ _ _ _ (by decide), a6]
        exact hL.2.1
      · rw [b3]
        exact hL.2.2.1
      · intro i hi
        obtain ⟨r0, r1, r2, r3, r4, r5, r6, r7⟩ := hL.2.2.2.1 i hi
        obtain ⟨t0, t1, t2, t3, t4, t5, t6, t7⟩ := b8 i (by omega)
        rw [Nat.zero_add] at t0
        show (gU1 X' 57 1).2.2.1 16 (8 * i) = M'.2.2.1 30 (i) ∧ (gU1 X' 57 1).2.2.1 16 (8 * i + 1) = M'.2.2.1 30 (16 + i) ∧ (gU1 X' 57 1).2.2.1 16 (8 * i + 2) = M'.2.2.1 30 (32 + i) ∧ (gU1 X' 57 1).2.2.1 16 (8 * i + 3) = M'.2.2.1 30 (48 + i) ∧ (gU1 X' 57 1).2.2.1 16 (8 * i + 4) = M'.2.2.1 30 (64 + i) ∧ (gU1 X' 57 1).2.2.1 16 (8 * i + 5) = M'.2.2.1 30 (80 + i) ∧ (gU1 X' 57 1).2.2.1 16 (8 * i + 6) = M'.2.2.1 30 (96 + i) ∧ (gU1 X' 57 1).2.2.1 16 (8 * i + 7) = M'.2.2.1 30 (112 + i)
        rw [gU1_2, a8 _ (by omega), a8 _ (by omega), a8 _ (by omega), a8 _ (by omega), a8 _ (by omega), a8 _ (by omega), a8 _ (by omega), a8 _ (by omega), t0, t1, t2, t3, t4, t5, t6, t7]
        exact ⟨r0, r1, r2, r3, r4, r5, r6, r7⟩
      · refine MRj hL.2.2.2.2.1 _ _ _ _ _ _ _ _ hn (fun j hj => ?_)
        have q := b8 j hj
        rw [Nat.zero_add] at q
        exact q
      · have q := hL.2.2.2.2.2.1
        refine ⟨?_, ?_, ?_, ?_⟩
        · rw [gU1_2, a9 0 (by decide), b4]
          exact q.1
        · rw [gU1_2, a9 1 (by decide), b5]
          exact q.2.1
        · rw [gU1_2, a9 2 (by decide), b6]
          exact q.2.2.1
        · rw [gU1_n _ _ _ _ (by decide), a7, b7]
          exact q.2.2.2
      · rw [b4, b5, b6]
        exact hL.2.2.2.2.2.2
    · rw [hr 21 (by decide), hr 22 (by decide)]
      exact o5
  refine ⟨(nI n, gU1 X' 57 1), (nI n, M'), ?_, ?_, rfl, n, hL', hS', hO'⟩
  · simp only [fX8_image, a1, x_count hL', Option.bind_some]
  · simp only [fX9_image, b1, hL'.2.2.1, Option.bind_some]
theorem s_restore {X M : GS} (h : Rel X M) : St (fX8_restore X) (fX9_restore M) := by
  obtain ⟨n, hL, hSh, hO⟩ := id h
  have hn := hL.1
  rcases hO.2.2.2.1 with ⟨e1, e2⟩ | ⟨e1, e2, n', hn', g1, g2, g3, g4, g5, g6⟩
  · simp only [fX8_restore, fX9_restore, e1, e2, eq_self, Option.bind_some, ↓reduceIte, km_1, km_2, km_3, km_4, km_5, km_6, km_7, kn_10, kn_20, kn_21]
    exact s_no h _ (by decide)
  · obtain ⟨X', a1, -, a3, a4, a5, a6, a7, a8, a9⟩ := x_like_now_imaged X
    obtain ⟨M', b1, -, b2, br, bi, b3, b4, b5, b6, b7, b8⟩ := m_all1_30 M
    have hL' : RLp X' M' n' := by
      refine ⟨hn', by rw [a6]; exact g1, by rw [b3]; exact g2, fun i hi => ?_, fun i hi => ?_, ?_, ?_⟩
      · obtain ⟨r0, r1, r2, r3, r4, r5, r6, r7⟩ := g3 i hi
        obtain ⟨t0, t1, t2, t3, t4, t5, t6, t7⟩ := b8 i (by omega)
        rw [Nat.zero_add] at t0
        rw [a8 _ (by omega), a8 _ (by omega), a8 _ (by omega), a8 _ (by omega), a8 _ (by omega), a8 _ (by omega), a8 _ (by omega), a8 _ (by omega), t0, t1, t2, t3, t4, t5, t6, t7]
        exact ⟨r0, r1, r2, r3, r4, r5, r6, r7⟩
      · obtain ⟨t0, t1, t2, t3, t4, t5, t6, t7⟩ := b8 i (by omega)
        rw [Nat.zero_add] at t0
        rw [t0, t1, t2, t3, t4, t5, t6, t7]
        exact g4 i hi
      · refine ⟨?_, ?_, ?_, ?_⟩
        · rw [a9 0 (by decide), b4]
          exact g5.1
        · rw [a9 1 (by decide), b5]
          exact g5.2.1
        · rw [a9 2 (by decide), b6]
          exact g5.2.2.1
        · rw [a7, b7]
          exact g5.2.2.2
      · show MT (M'.1 1) (M'.1 2) (M'.1 3)
        rw [b4, b5, b6]
        exact g6
    have hS' : ∀ s, s < 8 → RSn X' M' n s := by
      intro s hs
      have q := hSh s hs
      simp only [RSn] at q ⊢
      rw [a4 64 (by decide) (by decide), a4 65 (by decide) (by decide), a3, br 15 (by decide), br 16 (by decide), br 17 (by decide), br 18 (by decide), b2]
      exact q
    have hO' : RO X' M' := by
      simp only [RO] at hO ⊢
      rw [a5 58 (by decide) (by decide), a5 145 (by decide) (by decide), a5 57 (by decide) (by decide), a5 18 (by decide) (by decide), a5 19 (by decide) (by decide), a4 56 (by decide) (by decide), a4 144 (by decide) (by decide), a4 16 (by decide) (by decide), a4 17 (by decide) (by decide), bi 5 (by decide), bi 38 (by decide), bi 39 (by decide), br 6 (by decide), br 37 (by decide), br 30 (by decide), br 21 (by decide), br 22 (by decide)]
      exact hO
    obtain ⟨X2, M2, c1, c2, c3, c4, c5⟩ := forgets hn hL' hS' hO'
    have ex : fX3_count_now X2 = some (nI n') := by rw [fX3_count_now, c3, hL'.2.1]
    have em : M2.1 0 = nI n' := by rw [c4]; exact hL'.2.2.1
    simp only [fX8_restore, fX9_restore, e1, e2, kn_10, a1, b1, x_count hL', c1, c2, ex, em, Option.bind_some, ↓reduceIte, km_1, km_2, km_3, km_4, km_5, km_6, km_7, kn_10, kn_20, kn_21]
    exact ⟨_, _, rfl, rfl, rfl, c5⟩
