/-! act -/
theorem bo_00 (S : GS) : fX0_bodyOf S 0 0 = some 10 := by
  rw [fX0_bodyOf, show gFuel = 99997 + 1 + 1 + 1 from rfl]
  exact (show ∀ f : Nat, fX0_bodyOf_4 (f + 1 + 1 + 1) S 0 0 0 = some 10 from fun _ => rfl) 99997
theorem bo_01 (S : GS) : fX0_bodyOf S 0 1 = some 11 := by
  rw [fX0_bodyOf, show gFuel = 99997 + 1 + 1 + 1 from rfl]
  exact (show ∀ f : Nat, fX0_bodyOf_4 (f + 1 + 1 + 1) S 1 0 0 = some 11 from fun _ => rfl) 99997
theorem bo_02 (S : GS) : fX0_bodyOf S 0 2 = some 12 := by
  rw [fX0_bodyOf, show gFuel = 99997 + 1 + 1 + 1 from rfl]
  exact (show ∀ f : Nat, fX0_bodyOf_4 (f + 1 + 1 + 1) S 2 0 0 = some 12 from fun _ => rfl) 99997
theorem bo_10 (S : GS) : fX0_bodyOf S 1 0 = some 20 := by
  rw [fX0_bodyOf, show gFuel = 99997 + 1 + 1 + 1 from rfl]
  exact (show ∀ f : Nat, fX0_bodyOf_4 (f + 1 + 1 + 1) S 0 1 0 = some 20 from fun _ => rfl) 99997
theorem bo_11 (S : GS) : fX0_bodyOf S 1 1 = some 11 := by
  rw [fX0_bodyOf, show gFuel = 99997 + 1 + 1 + 1 from rfl]
  exact (show ∀ f : Nat, fX0_bodyOf_4 (f + 1 + 1 + 1) S 1 1 0 = some 11 from fun _ => rfl) 99997
theorem bo_12 (S : GS) : fX0_bodyOf S 1 2 = some 12 := by
  rw [fX0_bodyOf, show gFuel = 99997 + 1 + 1 + 1 from rfl]
  exact (show ∀ f : Nat, fX0_bodyOf_4 (f + 1 + 1 + 1) S 2 1 0 = some 12 from fun _ => rfl) 99997
theorem bo_20 (S : GS) : fX0_bodyOf S 2 0 = some 10 := by
  rw [fX0_bodyOf, show gFuel = 99997 + 1 + 1 + 1 from rfl]
  exact (show ∀ f : Nat, fX0_bodyOf_4 (f + 1 + 1 + 1) S 0 2 0 = some 10 from fun _ => rfl) 99997
theorem bo_21 (S : GS) : fX0_bodyOf S 2 1 = some 30 := by
  rw [fX0_bodyOf, show gFuel = 99997 + 1 + 1 + 1 from rfl]
  exact (show ∀ f : Nat, fX0_bodyOf_4 (f + 1 + 1 + 1) S 1 2 0 = some 30 from fun _ => rfl) 99997
theorem bo_22 (S : GS) : fX0_bodyOf S 2 2 = some 12 := by
  rw [fX0_bodyOf, show gFuel = 99997 + 1 + 1 + 1 from rfl]
  exact (show ∀ f : Nat, fX0_bodyOf_4 (f + 1 + 1 + 1) S 2 2 0 = some 12 from fun _ => rfl) 99997
theorem bo_30 (S : GS) : fX0_bodyOf S 3 0 = some 20 := by
  rw [fX0_bodyOf, show gFuel = 99997 + 1 + 1 + 1 from rfl]
  exact (show ∀ f : Nat, fX0_bodyOf_4 (f + 1 + 1 + 1) S 0 3 0 = some 20 from fun _ => rfl) 99997
theorem bo_31 (S : GS) : fX0_bodyOf S 3 1 = some 40 := by
  rw [fX0_bodyOf, show gFuel = 99997 + 1 + 1 + 1 from rfl]
  exact (show ∀ f : Nat, fX0_bodyOf_4 (f + 1 + 1 + 1) S 1 3 0 = some 40 from fun _ => rfl) 99997
theorem bo_32 (S : GS) : fX0_bodyOf S 3 2 = some 12 := by
  rw [fX0_bodyOf, show gFuel = 99997 + 1 + 1 + 1 from rfl]
  exact (show ∀ f : Nat, fX0_bodyOf_4 (f + 1 + 1 + 1) S 2 3 0 = some 12 from fun _ => rfl) 99997
theorem bo_40 (S : GS) : fX0_bodyOf S 4 0 = some 51 := by
  rw [fX0_bodyOf, show gFuel = 99997 + 1 + 1 + 1 from rfl]
  exact (show ∀ f : Nat, fX0_bodyOf_4 (f + 1 + 1 + 1) S 0 4 0 = some 51 from fun _ => rfl) 99997
theorem bo_41 (S : GS) : fX0_bodyOf S 4 1 = some 11 := by
  rw [fX0_bodyOf, show gFuel = 99997 + 1 + 1 + 1 from rfl]
  exact (show ∀ f : Nat, fX0_bodyOf_4 (f + 1 + 1 + 1) S 1 4 0 = some 11 from fun _ => rfl) 99997
theorem bo_42 (S : GS) : fX0_bodyOf S 4 2 = some 50 := by
  rw [fX0_bodyOf, show gFuel = 99997 + 1 + 1 + 1 from rfl]
  exact (show ∀ f : Nat, fX0_bodyOf_4 (f + 1 + 1 + 1) S 2 4 0 = some 50 from fun _ => rfl) 99997
theorem bo_50 (S : GS) : fX0_bodyOf S 5 0 = some 10 := by
  rw [fX0_bodyOf, show gFuel = 99997 + 1 + 1 + 1 from rfl]
  exact (show ∀ f : Nat, fX0_bodyOf_4 (f + 1 + 1 + 1) S 0 5 0 = some 10 from fun _ => rfl) 99997
theorem bo_51 (S : GS) : fX0_bodyOf S 5 1 = some 30 := by
  rw [fX0_bodyOf, show gFuel = 99997 + 1 + 1 + 1 from rfl]
  exact (show ∀ f : Nat, fX0_bodyOf_4 (f + 1 + 1 + 1) S 1 5 0 = some 30 from fun _ => rfl) 99997
theorem bo_52 (S : GS) : fX0_bodyOf S 5 2 = some 60 := by
  rw [fX0_bodyOf, show gFuel = 99997 + 1 + 1 + 1 from rfl]
  exact (show ∀ f : Nat, fX0_bodyOf_4 (f + 1 + 1 + 1) S 2 5 0 = some 60 from fun _ => rfl) 99997
theorem bo_60 (S : GS) : fX0_bodyOf S 6 0 = some 70 := by
  rw [fX0_bodyOf, show gFuel = 99997 + 1 + 1 + 1 from rfl]
  exact (show ∀ f : Nat, fX0_bodyOf_4 (f + 1 + 1 + 1) S 0 6 0 = some 70 from fun _ => rfl) 99997
theorem bo_61 (S : GS) : fX0_bodyOf S 6 1 = some 71 := by
  rw [fX0_bodyOf, show gFuel = 99997 + 1 + 1 + 1 from rfl]
  exact (show ∀ f : Nat, fX0_bodyOf_4 (f + 1 + 1 + 1) S 1 6 0 = some 71 from fun _ => rfl) 99997
theorem bo_62 (S : GS) : fX0_bodyOf S 6 2 = some 50 := by
  rw [fX0_bodyOf, show gFuel = 99997 + 1 + 1 + 1 from rfl]
  exact (show ∀ f : Nat, fX0_bodyOf_4 (f + 1 + 1 + 1) S 2 6 0 = some 50 from fun _ => rfl) 99997
def AF (X X' : GS) : Prop := (∀ k, (k < 145 ∨ 148 < k) → X'.1 k = X.1 k) ∧ (∀ k, k ≠ 144 → X'.2.2.1 k = X.2.2.1 k) ∧ X'.2.2.2 = X.2.2.2
def AG (M M' : GS) : Prop := (∀ k, k ≠ 38 → M'.1 k = M.1 k) ∧ (∀ k, k ≠ 37 → M'.2.2.1 k = M.2.2.1 k) ∧ M'.2.2.2 = M.2.2.2
def AC (X0 M0 : GS) (m : Nat) (K A : Int32) (r : Nat) (X M : GS) : Prop := AF X0 X ∧ AG M0 M ∧ X.1 145 = nI r ∧ M.1 38 = nI r ∧ (∀ i, i < r → X.2.2.1 144 i = M.2.2.1 37 i) ∧ X.1 146 = K ∧ X.1 147 = nI m ∧ X.1 148 = A ∧ M0.2.2.1 7 m = K ∧ M0.2.2.1 8 m = A
section ACT
variable {X0 M0 X M : GS} {m r : Nat} {K A : Int32}
theorem AC.k (h : AC X0 M0 m K A r X M) : M.2.2.1 7 m = K := by rw [h.2.1.2.1 7 (by decide)]; exact h.2.2.2.2.2.2.2.2.1
theorem AC.a (h : AC X0 M0 m K A r X M) : M.2.2.1 8 m = A := by rw [h.2.1.2.1 8 (by decide)]; exact h.2.2.2.2.2.2.2.2.2
theorem AC.xk (h : AC X0 M0 m K A r X M) : X.1 146 = K := h.2.2.2.2.2.1
theorem AC.xm (h : AC X0 M0 m K A r X M) : X.1 147 = nI m := h.2.2.2.2.2.2.1
theorem AC.xa (h : AC X0 M0 m K A r X M) : X.1 148 = A := h.2.2.2.2.2.2.2.1
theorem act_n (h : AC X0 M0 m K A r X M) (hr : r < 20) (b : Int32) : ∃ X' M', fX0_note X b = some X' ∧ fX9_body M b = some M' ∧ AC X0 M0 m K A (r + 1) X' M' := by
  have g : ((20 : Int32) ≤ nI r) = False := (nle_e (a := 20) (by omega) (by omega)).trans (eq_false (by omega))
  have gi : (nI r < 0 ∨ 20 ≤ r) = False := by
    have q := nI_in (c := r) (N := 20) hr (by decide)
    rw [nI_clamp (by omega)] at q
    exact eq_false q
  have gc : (nI r).toNatClampNeg = r := nI_clamp (by omega)
  refine ⟨gU1 (gU3 X 144 r b) 145 (nI (r + 1)), gU1 (gU3 M 37 r b) 38 (nI (r + 1)), ?_, ?_, ⟨fun k hk => ?_, fun k hk => ?_, h.1.2.2⟩, ⟨fun k hk => ?_, fun k hk => ?_, h.2.1.2.2⟩, rfl, rfl, fun i hi => ?_, h.xk, h.xm, h.xa, h.2.2.2.2.2.2.2.2⟩
  · simp only [fX0_note, fX0_note_L19, h.2.2.1, g, gi, gc, gU3_1, i_add1, Option.bind_some, ↓reduceIte, km_1, km_2, km_3, km_4, km_5, km_6, km_7, kn_10, kn_20, kn_21]
  · simp only [fX9_body, fX9_body_L19, h.2.2.2.1, g, gi, gc, gU3_1, i_add1, Option.bind_some, ↓reduceIte, km_1, km_2, km_3, km_4, km_5, km_6, km_7, kn_10, kn_20, kn_21]
  · rw [gU1_n _ _ _ _ (by omega)]
    exact h.1.1 k hk
  · rw [gU1_2, gU3_n _ _ _ _ _ hk]
    exact h.1.2.1 k hk
  · rw [gU1_n _ _ _ _ hk]
    exact h.2.1.1 k hk
  · rw [gU1_2, gU3_n _ _ _ _ _ hk]
    exact h.2.1.2.1 k hk
  · rw [gU1_2, gU1_2, gU3_s, gU3_s, upd_i, upd_i]
    by_cases e : i = r
    · rw [if_pos e, if_pos e]
    · rw [if_neg e, if_neg e]
      exact h.2.2.2.2.1 i (by omega)
theorem act_d {d : Nat} (hd : d < 40) : nI d < (40 : Int32) := nI_lt (b := 40) hd (by decide)
theorem run_10 {X1 : GS} {a b x : Int32} {d : Nat} (fu : Nat) (hb : fX0_bodyOf X a b = some 10) (hn : fX0_note X 10 = some X1) (hd : d < 40) : fX0_run_acts (fu + 1) X a b x (nI d) = some (x + X1.1 147, X1) := by
  rw [fX0_run_acts, if_pos (act_d hd), hb]
  simp only [Option.bind_some, hn, i_add1]
  rfl
theorem run_11 {X1 : GS} {a b x : Int32} {d : Nat} (fu : Nat) (hb : fX0_bodyOf X a b = some 11) (hn : fX0_note X 11 = some X1) (hd : d < 40) : fX0_run_acts (fu + 1) X a b x (nI d) = (fX0_run_acts fu X1 (X1.1 146) 0 x (nI (d + 1))).bind fun u => some (u.1 * 2, u.2) := by
  rw [fX0_run_acts, if_pos (act_d hd), hb]
  simp only [Option.bind_some, hn, i_add1]
  rfl
theorem run_12 {X1 : GS} {a b x : Int32} {d : Nat} (fu : Nat) (hb : fX0_bodyOf X a b = some 12) (hn : fX0_note X 12 = some X1) (hd : d < 40) : fX0_run_acts (fu + 1) X a b x (nI d) = (fX0_run_acts fu X1 (X1.1 146) 1 x (nI (d + 1))).bind fun u => (fX0_run_acts fu u.2 (u.2.1 146) 0 (x - u.2.1 148) (nI (d + 1))).bind fun z => some (u.1 ^^^ z.1, z.2) := by
  rw [fX0_run_acts, if_pos (act_d hd), hb]
  simp only [Option.bind_some, hn, i_add1]
  rfl
theorem run_20 {X1 : GS} {a b x : Int32} {d : Nat} (fu : Nat) (hb : fX0_bodyOf X a b = some 20) (hn : fX0_note X 20 = some X1) (hd : d < 40) : fX0_run_acts (fu + 1) X a b x (nI d) = (fX0_run_acts fu X1 0 0 x (nI (d + 1))).bind fun u => some (u.1 + u.2.1 148, u.2) := by
  rw [fX0_run_acts, if_pos (act_d hd), hb]
  simp only [Option.bind_some, hn, i_add1]
  rfl
theorem run_30 {X1 : GS} {a b x : Int32} {d : Nat} (fu : Nat) (hb : fX0_bodyOf X a b = some 30) (hn : fX0_note X 30 = some X1) (hd : d < 40) : fX0_run_acts (fu + 1) X a b x (nI d) = (fX0_run_acts fu X1 0 1 x (nI (d + 1))).bind fun u => some (u.1 * 3, u.2) := by
  rw [fX0_run_acts, if_pos (act_d hd), hb]
  simp only [Option.bind_some, hn, i_add1]
  rfl
theorem run_40 {X1 : GS} {a b x : Int32} {d : Nat} (fu : Nat) (hb : fX0_bodyOf X a b = some 40) (hn : fX0_note X 40 = some X1) (hd : d < 40) : fX0_run_acts (fu + 1) X a b x (nI d) = (fX0_run_acts fu X1 1 1 (x + 1) (nI (d + 1))).bind fun u => some (u.1, u.2) := by
  rw [fX0_run_acts, if_pos (act_d hd), hb]
  simp only [Option.bind_some, hn, i_add1]
  rfl
theorem run_50 {X1 : GS} {a b x : Int32} {d : Nat} (fu : Nat) (hb : fX0_bodyOf X a b = some 50) (hn : fX0_note X 50 = some X1) (hd : d < 40) : fX0_run_acts (fu + 1) X a b x (nI d) = (fX0_run_acts fu X1 0 2 x (nI (d + 1))).bind fun u => some (-u.1, u.2) := by
  rw [fX0_run_acts, if_pos (act_d hd), hb]
  simp only [Option.bind_some, hn, i_add1]
  rfl
theorem run_51 {X1 : GS} {a b x : Int32} {d : Nat} (fu : Nat) (hb : fX0_bodyOf X a b = some 51) (hn : fX0_note X 51 = some X1) (hd : d < 40) : fX0_run_acts (fu + 1) X a b x (nI d) = (fX0_run_acts fu X1 0 0 x (nI (d + 1))).bind fun u => some (u.1 - u.2.1 147, u.2) := by
  rw [fX0_run_acts, if_pos (act_d hd), hb]
  simp only [Option.bind_some, hn, i_add1]
  rfl
theorem run_60 {X1 : GS} {a b x : Int32} {d : Nat} (fu : Nat) (hb : fX0_bodyOf X a b = some 60) (hn : fX0_note X 60 = some X1) (hd : d < 40) : fX0_run_acts (fu + 1) X a b x (nI d) = (fX0_run_acts fu X1 2 2 x (nI (d + 1))).bind fun u => some (u.1 ^^^ 5, u.2) := by
  rw [fX0_run_acts, if_pos (act_d hd), hb]
  simp only [Option.bind_some, hn, i_add1]
  rfl
theorem run_70 {X1 : GS} {a b x : Int32} {d : Nat} (fu : Nat) (hb : fX0_bodyOf X a b = some 70) (hn : fX0_note X 70 = some X1) (hd : d < 40) : fX0_run_acts (fu + 1) X a b x (nI d) = (fX0_run_acts fu X1 4 0 x (nI (d + 1))).bind fun u => some (u.1 * 2, u.2) := by
  rw [fX0_run_acts, if_pos (act_d hd), hb]
  simp only [Option.bind_some, hn, i_add1]
  rfl
theorem run_71 {X1 : GS} {a b x : Int32} {d : Nat} (fu : Nat) (hb : fX0_bodyOf X a b = some 71) (hn : fX0_note X 71 = some X1) (hd : d < 40) : fX0_run_acts (fu + 1) X a b x (nI d) = (fX0_run_acts fu X1 4 1 (x - X1.1 148) (nI (d + 1))).bind fun u => some (u.1, u.2) := by
  rw [fX0_run_acts, if_pos (act_d hd), hb]
  simp only [Option.bind_some, hn, i_add1]
  rfl
theorem k7 {k : Nat} (h : k ≤ 6) : nI k = 0 ∨ nI k = 1 ∨ nI k = 2 ∨ nI k = 3 ∨ nI k = 4 ∨ nI k = 5 ∨ nI k = 6 := by
  rcases (show k = 0 ∨ k = 1 ∨ k = 2 ∨ k = 3 ∨ k = 4 ∨ k = 5 ∨ k = 6 by omega) with rfl | rfl | rfl | rfl | rfl | rfl | rfl
  · exact Or.inl rfl
  · exact Or.inr (Or.inl rfl)
  · exact Or.inr (Or.inr (Or.inl rfl))
  · exact Or.inr (Or.inr (Or.inr (Or.inl rfl)))
  · exact Or.inr (Or.inr (Or.inr (Or.inr (Or.inl rfl))))
  · exact Or.inr (Or.inr (Or.inr (Or.inr (Or.inr (Or.inl rfl)))))
  · exact Or.inr (Or.inr (Or.inr (Or.inr (Or.inr (Or.inr rfl)))))
abbrev K7 (K : Int32) : Prop := K = 0 ∨ K = 1 ∨ K = 2 ∨ K = 3 ∨ K = 4 ∨ K = 5 ∨ K = 6
theorem act_r (h : AC X0 M0 m K A r X M) (hm : m < 16) (hr : r ≤ 16) (hK : K7 K) (fu : Nat) (x : Int32) (d : Nat) (hd : d ≤ 20) : ∃ v X' M' r', fX0_run_acts (fu + 3) X K 0 x (nI d) = some (v, X') ∧ fX9_reading M (nI m) x = some (v, M') ∧ AC X0 M0 m K A r' X' M' ∧ r' ≤ r + 3 := by
  have gi := in16 hm
  have gc := cl16 hm
  have hk := h.k
  rcases hK with rfl | rfl | rfl | rfl | rfl | rfl | rfl
  · obtain ⟨X1, M1, a1, b1, h1⟩ := act_n h (by omega) 10
    refine ⟨x + nI m, X1, M1, r + 1, ?_, ?_, h1, by omega⟩
    · rw [run_10 _ (bo_00 X) a1 (by omega)]
      simp only [Option.bind_some, h1.xm, h1.xa]
    · simp only [fX9_reading, fX9_reading_L19, fX9_reading_L30, fX9_reading_L36, fX9_reading_L46, fX9_reading_L52, fX9_reading_L73, fX9_reading_L84, fX9_reading_L95, fX9_reading_L101, gi, gc, hk, b1, h1.a, eq_self, kn_01, kn_02, kn_03, kn_04, kn_05, kn_06, kn_10, kn_12, kn_13, kn_14, kn_15, kn_16, kn_20, kn_21, kn_23, kn_24, kn_25, kn_26, kn_30, kn_31, kn_32, kn_34, kn_35, kn_36, kn_40, kn_41, kn_42, kn_43, kn_45, kn_46, kn_50, kn_51, kn_52, kn_53, kn_54, kn_56, kn_60, kn_61, kn_62, kn_63, kn_64, kn_65, Option.bind_some, ↓reduceIte, km_1, km_2, km_3, km_4, km_5, km_6, km_7, kn_10, kn_20, kn_21]
  · obtain ⟨X1, M1, a1, b1, h1⟩ := act_n h (by omega) 20
    obtain ⟨X2, M2, a2, b2, h2⟩ := act_n h1 (by omega) 10
    refine ⟨x + nI m + A, X2, M2, r + 2, ?_, ?_, h2, by omega⟩
    · rw [run_20 _ (bo_10 X) a1 (by omega), run_10 _ (bo_00 X1) a2 (by omega)]
      simp only [Option.bind_some, h2.xm, h2.xa]
    · simp only [fX9_reading, fX9_reading_L19, fX9_reading_L30, fX9_reading_L36, fX9_reading_L46, fX9_reading_L52, fX9_reading_L73, fX9_reading_L84, fX9_reading_L95, fX9_reading_L101, gi, gc, hk, b1, b2, h2.a, eq_self, kn_01, kn_02, kn_03, kn_04, kn_05, kn_06, kn_10, kn_12, kn_13, kn_14, kn_15, kn_16, kn_20, kn_21, kn_23, kn_24, kn_25, kn_26, kn_30, kn_31, kn_32, kn_34, kn_35, kn_36, kn_40, kn_41, kn_42, kn_43, kn_45, kn_46, kn_50, kn_51, kn_52, kn_53, kn_54, kn_56, kn_60, kn_61, kn_62, kn_63, kn_64, kn_65, Option.bind_some, ↓reduceIte, km_1, km_2, km_3, km_4, km_5, km_6, km_7, kn_10, kn_20, kn_21]
  · obtain ⟨X1, M1, a1, b1, h1⟩ := act_n h (by omega) 10
    refine ⟨x + nI m, X1, M1, r + 1, ?_, ?_, h1, by omega⟩
    · rw [run_10 _ (bo_20 X) a1 (by omega)]
      simp only [Option.bind_some, h1.xm, h1.xa]
    · simp only [fX9_reading, fX9_reading_L19, fX9_reading_L30, fX9_reading_L36, fX9_reading_L46, fX9_reading_L52, fX9_reading_L73, fX9_reading_L84, fX9_reading_L95, fX9_reading_L101, gi, gc, hk, b1, h1.a, eq_self, kn_01, kn_02, kn_03, kn_04, kn_05, kn_06, kn_10, kn_12, kn_13, kn_14, kn_15, kn_16, kn_20, kn_21, kn_23, kn_24, kn_25, kn_26, kn_30, kn_31, kn_32, kn_34, kn_35, kn_36, kn_40, kn_41, kn_42, kn_43, kn_45, kn_46, kn_50, kn_51, kn_52, kn_53, kn_54, kn_56, kn_60, kn_61, kn_62, kn_63, kn_64, kn_65, Option.bind_some, ↓reduceIte, km_1, km_2, km_3, km_4, km_5, km_6, km_7, kn_10, kn_20, kn_21]
  · obtain ⟨X1, M1, a1, b1, h1⟩ := act_n h (by omega) 20
    obtain ⟨X2, M2, a2, b2, h2⟩ := act_n h1 (by omega) 10
    refine ⟨x + nI m + A, X2, M2, r + 2, ?_, ?_, h2, by omega⟩
    · rw [run_20 _ (bo_30 X) a1 (by omega), run_10 _ (bo_00 X1) a2 (by omega)]
      simp only [Option.bind_some, h2.xm, h2.xa]
    · simp only [fX9_reading, fX9_reading_L19, fX9_reading_L30, fX9_reading_L36, fX9_reading_L46, fX9_reading_L52, fX9_reading_L73, fX9_reading_L84, fX9_reading_L95, fX9_reading_L101, gi, gc, hk, b1, b2, h2.a, eq_self, kn_01, kn_02, kn_03, kn_04, kn_05, kn_06, kn_10, kn_12, kn_13, kn_14, kn_15, kn_16, kn_20, kn_21, kn_23, kn_24, kn_25, kn_26, kn_30, kn_31, kn_32, kn_34, kn_35, kn_36, kn_40, kn_41, kn_42, kn_43, kn_45, kn_46, kn_50, kn_51, kn_52, kn_53, kn_54, kn_56, kn_60, kn_61, kn_62, kn_63, kn_64, kn_65, Option.bind_some, ↓reduceIte, km_1, km_2, km_3, km_4, km_5, km_6, km_7, kn_10, kn_20, kn_21]
  · obtain ⟨X1, M1, a1, b1, h1⟩ := act_n h (by omega) 51
    obtain ⟨X2, M2, a2, b2, h2⟩ := act_n h1 (by omega) 10
    refine ⟨x + nI m - nI m, X2, M2, r + 2, ?_, ?_, h2, by omega⟩
    · rw [run_51 _ (bo_40 X) a1 (by omega), run_10 _ (bo_00 X1) a2 (by omega)]
      simp only [Option.bind_some, h2.xm, h2.xa]
    · simp only [fX9_reading, fX9_reading_L19, fX9_reading_L30, fX9_reading_L36, fX9_reading_L46, fX9_reading_L52, fX9_reading_L73, fX9_reading_L84, fX9_reading_L95, fX9_reading_L101, gi, gc, hk, b1, b2, h2.a, eq_self, kn_01, kn_02, kn_03, kn_04, kn_05, kn_06, kn_10, kn_12, kn_13, kn_14, kn_15, kn_16, kn_20, kn_21, kn_23, kn_24, kn_25, kn_26, kn_30, kn_31, kn_32, kn_34, kn_35, kn_36, kn_40, kn_41, kn_42, kn_43, kn_45, kn_46, kn_50, kn_51, kn_52, kn_53, kn_54, kn_56, kn_60, kn_61, kn_62, kn_63, kn_64, kn_65, Option.bind_some, ↓reduceIte, km_1, km_2, km_3, km_4, km_5, km_6, km_7, kn_10, kn_20, kn_21]
  · obtain ⟨X1, M1, a1, b1, h1⟩ := act_n h (by omega) 10
    refine ⟨x + nI m, X1, M1, r + 1, ?_, ?_, h1, by omega⟩
    · rw [run_10 _ (bo_50 X) a1 (by omega)]
      simp only [Option.bind_some, h1.xm, h1.xa]
    · simp only [fX9_reading, fX9_reading_L19, fX9_reading_L30, fX9_reading_L36, fX9_reading_L46, fX9_reading_L52, fX9_reading_L73, fX9_reading_L84, fX9_reading_L95, fX9_reading_L101, gi, gc, hk, b1, h1.a, eq_self, kn_01, kn_02, kn_03, kn_04, kn_05, kn_06, kn_10, kn_12, kn_13, kn_14, kn_15, kn_16, kn_20, kn_21, kn_23, kn_24, kn_25, kn_26, kn_30, kn_31, kn_32, kn_34, kn_35, kn_36, kn_40, kn_41, kn_42, kn_43, kn_45, kn_46, kn_50, kn_51, kn_52, kn_53, kn_54, kn_56, kn_60, kn_61, kn_62, kn_63, kn_64, kn_65, Option.bind_some, ↓reduceIte, km_1, km_2, km_3, km_4, km_5, km_6, km_7, kn_10, kn_20, kn_21]
  · obtain ⟨X1, M1, a1, b1, h1⟩ := act_n h (by omega) 70
    obtain ⟨X2, M2, a2, b2, h2⟩ := act_n h1 (by omega) 51
    obtain ⟨X3, M3, a3, b3, h3⟩ := act_n h2 (by omega) 10
    refine ⟨(x + nI m - nI m) * 2, X3, M3, r + 3, ?_, ?_, h3, by omega⟩
    · rw [run_70 _ (bo_60 X) a1 (by omega), run_51 _ (bo_40 X1) a2 (by omega), run_10 _ (bo_00 X2) a3 (by omega)]
      simp only [Option.bind_some, h3.xm, h3.xa]
    · simp only [fX9_reading, fX9_reading_L19, fX9_reading_L30, fX9_reading_L36, fX9_reading_L46, fX9_reading_L52, fX9_reading_L73, fX9_reading_L84, fX9_reading_L95, fX9_reading_L101, gi, gc, hk, b1, b2, b3, h3.a, eq_self, kn_01, kn_02, kn_03, kn_04, kn_05, kn_06, kn_10, kn_12, kn_13, kn_14, kn_15, kn_16, kn_20, kn_21, kn_23, kn_24, kn_25, kn_26, kn_30, kn_31, kn_32, kn_34, kn_35, kn_36, kn_40, kn_41, kn_42, kn_43, kn_45, kn_46, kn_50, kn_51, kn_52, kn_53, kn_54, kn_56, kn_60, kn_61, kn_62, kn_63, kn_64, kn_65, Option.bind_some, ↓reduceIte, km_1, km_2, km_3, km_4, km_5, km_6, km_7, kn_10, kn_20, kn_21]
theorem act_s (h : AC X0 M0 m K A r X M) (hm : m < 16) (hr : r ≤ 14) (hK : K7 K) (fu : Nat) (x : Int32) (d : Nat) (hd : d ≤ 15) : ∃ v X' M' r', fX0_run_acts (fu + 5) X K 1 x (nI d) = some (v, X') ∧ fX9_sinking M (nI m) x = some (v, M') ∧ AC X0 M0 m K A r' X' M' ∧ r' ≤ r + 5 := by
  have gi := in16 hm
  have gc := cl16 hm
  have hk := h.k
  have hK' := hK
  rcases hK with rfl | rfl | rfl | rfl | rfl | rfl | rfl
  · obtain ⟨X1, M1, a1, b1, h1⟩ := act_n h (by omega) 11
    obtain ⟨v, X', M', r', c1, c2, c3, c4⟩ := act_r h1 hm (by omega) hK' (fu + 1) x (d + 1) (by omega)
    refine ⟨v * 2, X', M', r', ?_, ?_, c3, by omega⟩
    · rw [run_11 _ (bo_01 X) a1 (by omega), h1.xk]
      rw [show fu + 4 = fu + 1 + 3 from rfl, c1]
      simp only [Option.bind_some]
    · simp only [fX9_sinking, fX9_sinking_L32, fX9_sinking_L48, fX9_sinking_L58, fX9_sinking_L76, gi, gc, hk, b1, c2, eq_self, kn_01, kn_02, kn_03, kn_04, kn_05, kn_06, kn_10, kn_12, kn_13, kn_14, kn_15, kn_16, kn_20, kn_21, kn_23, kn_24, kn_25, kn_26, kn_30, kn_31, kn_32, kn_34, kn_35, kn_36, kn_40, kn_41, kn_42, kn_43, kn_45, kn_46, kn_50, kn_51, kn_52, kn_53, kn_54, kn_56, kn_60, kn_61, kn_62, kn_63, kn_64, kn_65, Option.bind_some, ↓reduceIte, km_1, km_2, km_3, km_4, km_5, km_6, km_7, kn_10, kn_20, kn_21]
  · obtain ⟨X1, M1, a1, b1, h1⟩ := act_n h (by omega) 11
    obtain ⟨v, X', M', r', c1, c2, c3, c4⟩ := act_r h1 hm (by omega) hK' (fu + 1) x (d + 1) (by omega)
    refine ⟨v * 2, X', M', r', ?_, ?_, c3, by omega⟩
    · rw [run_11 _ (bo_11 X) a1 (by omega), h1.xk]
      rw [show fu + 4 = fu + 1 + 3 from rfl, c1]
      simp only [Option.bind_some]
    · simp only [fX9_sinking, fX9_sinking_L32, fX9_sinking_L48, fX9_sinking_L58, fX9_sinking_L76, gi, gc, hk, b1, c2, eq_self, kn_01, kn_02, kn_03, kn_04, kn_05, kn_06, kn_10, kn_12, kn_13, kn_14, kn_15, kn_16, kn_20, kn_21, kn_23, kn_24, kn_25, kn_26, kn_30, kn_31, kn_32, kn_34, kn_35, kn_36, kn_40, kn_41, kn_42, kn_43, kn_45, kn_46, kn_50, kn_51, kn_52, kn_53, kn_54, kn_56, kn_60, kn_61, kn_62, kn_63, kn_64, kn_65, Option.bind_some, ↓reduceIte, km_1, km_2, km_3, km_4, km_5, km_6, km_7, kn_10, kn_20, kn_21]
  · obtain ⟨X1, M1, a1, b1, h1⟩ := act_n h (by omega) 30
    obtain ⟨X2, M2, a2, b2, h2⟩ := act_n h1 (by omega) 11
    obtain ⟨v, X', M', r', c1, c2, c3, c4⟩ := act_r h2 hm (by omega) hK' (fu + 0) x (d + 2) (by omega)
    refine ⟨v * 2 * 3, X', M', r', ?_, ?_, c3, by omega⟩
    · rw [run_30 _ (bo_21 X) a1 (by omega), run_11 _ (bo_01 X1) a2 (by omega), h2.xk]
      rw [show fu + 3 = fu + 0 + 3 from rfl, c1]
      simp only [Option.bind_some]
    · simp only [fX9_sinking, fX9_sinking_L32, fX9_sinking_L48, fX9_sinking_L58, fX9_sinking_L76, gi, gc, hk, b1, b2, c2, eq_self, kn_01, kn_02, kn_03, kn_04, kn_05, kn_06, kn_10, kn_12, kn_13, kn_14, kn_15, kn_16, kn_20, kn_21, kn_23, kn_24, kn_25, kn_26, kn_30, kn_31, kn_32, kn_34, kn_35, kn_36, kn_40, kn_41, kn_42, kn_43, kn_45, kn_46, kn_50, kn_51, kn_52, kn_53, kn_54, kn_56, kn_60, kn_61, kn_62, kn_63, kn_64, kn_65, Option.bind_some, ↓reduceIte, km_1, km_2, km_3, km_4, km_5, km_6, km_7, kn_10, kn_20, kn_21]
  · obtain ⟨X1, M1, a1, b1, h1⟩ := act_n h (by omega) 40
    obtain ⟨X2, M2, a2, b2, h2⟩ := act_n h1 (by omega) 11
    obtain ⟨v, X', M', r', c1, c2, c3, c4⟩ := act_r h2 hm (by omega) hK' (fu + 0) (x + 1) (d + 2) (by omega)
    refine ⟨v * 2, X', M', r', ?_, ?_, c3, by omega⟩
    · rw [run_40 _ (bo_31 X) a1 (by omega), run_11 _ (bo_11 X1) a2 (by omega), h2.xk]
      rw [show fu + 3 = fu + 0 + 3 from rfl, c1]
      simp only [Option.bind_some]
    · simp only [fX9_sinking, fX9_sinking_L32, fX9_sinking_L48, fX9_sinking_L58, fX9_sinking_L76, gi, gc, hk, b1, b2, c2, eq_self, kn_01, kn_02, kn_03, kn_04, kn_05, kn_06, kn_10, kn_12, kn_13, kn_14, kn_15, kn_16, kn_20, kn_21, kn_23, kn_24, kn_25, kn_26, kn_30, kn_31, kn_32, kn_34, kn_35, kn_36, kn_40, kn_41, kn_42, kn_43, kn_45, kn_46, kn_50, kn_51, kn_52, kn_53, kn_54, kn_56, kn_60, kn_61, kn_62, kn_63, kn_64, kn_65, Option.bind_some, ↓reduceIte, km_1, km_2, km_3, km_4, km_5, km_6, km_7, kn_10, kn_20, kn_21]
  · obtain ⟨X1, M1, a1, b1, h1⟩ := act_n h (by omega) 11
    obtain ⟨v, X', M', r', c1, c2, c3, c4⟩ := act_r h1 hm (by omega) hK' (fu + 1) x (d + 1) (by omega)
    refine ⟨v * 2, X', M', r', ?_, ?_, c3, by omega⟩
    · rw [run_11 _ (bo_41 X) a1 (by omega), h1.xk]
      rw [show fu + 4 = fu + 1 + 3 from rfl, c1]
      simp only [Option.bind_some]
    · simp only [fX9_sinking, fX9_sinking_L32, fX9_sinking_L48, fX9_sinking_L58, fX9_sinking_L76, gi, gc, hk, b1, c2, eq_self, kn_01, kn_02, kn_03, kn_04, kn_05, kn_06, kn_10, kn_12, kn_13, kn_14, kn_15, kn_16, kn_20, kn_21, kn_23, kn_24, kn_25, kn_26, kn_30, kn_31, kn_32, kn_34, kn_35, kn_36, kn_40, kn_41, kn_42, kn_43, kn_45, kn_46, kn_50, kn_51, kn_52, kn_53, kn_54, kn_56, kn_60, kn_61, kn_62, kn_63, kn_64, kn_65, Option.bind_some, ↓reduceIte, km_1, km_2, km_3, km_4, km_5, km_6, km_7, kn_10, kn_20, kn_21]
  · obtain ⟨X1, M1, a1, b1, h1⟩ := act_n h (by omega) 30
    obtain ⟨X2, M2, a2, b2, h2⟩ := act_n h1 (by omega) 11
    obtain ⟨v, X', M', r', c1, c2, c3, c4⟩ := act_r h2 hm (by omega) hK' (fu + 0) x (d + 2) (by omega)
    refine ⟨v * 2 * 3, X', M', r', ?_, ?_, c3, by omega⟩
    · rw [run_30 _ (bo_51 X) a1 (by omega), run_11 _ (bo_01 X1) a2 (by omega), h2.xk]
      rw [show fu + 3 = fu + 0 + 3 from rfl, c1]
      simp only [Option.bind_some]
    · simp only [fX9_sinking, fX9_sinking_L32, fX9_sinking_L48, fX9_sinking_L58, fX9_sinking_L76, gi, gc, hk, b1, b2, c2, eq_self, kn_01, kn_02, kn_03, kn_04, kn_05, kn_06, kn_10, kn_12, kn_13, kn_14, kn_15, kn_16, kn_20, kn_21, kn_23, kn_24, kn_25, kn_26, kn_30, kn_31, kn_32, kn_34, kn_35, kn_36, kn_40, kn_41, kn_42, kn_43, kn_45, kn_46, kn_50, kn_51, kn_52, kn_53, kn_54, kn_56, kn_60, kn_61, kn_62, kn_63, kn_64, kn_65, Option.bind_some, ↓reduceIte, km_1, km_2, km_3, km_4, km_5, km_6, km_7, kn_10, kn_20, kn_21]
  · obtain ⟨X1, M1, a1, b1, h1⟩ := act_n h (by omega) 71
    obtain ⟨X2, M2, a2, b2, h2⟩ := act_n h1 (by omega) 11
    obtain ⟨v, X', M', r', c1, c2, c3, c4⟩ := act_r h2 hm (by omega) hK' (fu + 0) (x - A) (d + 2) (by omega)
    refine ⟨v * 2, X', M', r', ?_, ?_, c3, by omega⟩
    · rw [run_71 _ (bo_61 X) a1 (by omega), h1.xa, run_11 _ (bo_41 X1) a2 (by omega), h2.xk]
      rw [show fu + 3 = fu + 0 + 3 from rfl, c1]
      simp only [Option.bind_some]
    · simp only [fX9_sinking, fX9_sinking_L32, fX9_sinking_L48, fX9_sinking_L58, fX9_sinking_L76, gi, gc, hk, b1, b2, h1.a, c2, eq_self, kn_01, kn_02, kn_03, kn_04, kn_05, kn_06, kn_10, kn_12, kn_13, kn_14, kn_15, kn_16, kn_20, kn_21, kn_23, kn_24, kn_25, kn_26, kn_30, kn_31, kn_32, kn_34, kn_35, kn_36, kn_40, kn_41, kn_42, kn_43, kn_45, kn_46, kn_50, kn_51, kn_52, kn_53, kn_54, kn_56, kn_60, kn_61, kn_62, kn_63, kn_64, kn_65, Option.bind_some, ↓reduceIte, km_1, km_2, km_3, km_4, km_5, km_6, km_7, kn_10, kn_20, kn_21]
theorem act_c (h : AC X0 M0 m K A r X M) (hm : m < 16) (hr : r ≤ 5) (hK : K7 K) (fu : Nat) (x : Int32) (d : Nat) (hd : d ≤ 10) : ∃ v X' M' r', fX0_run_acts (fu + 8) X K 2 x (nI d) = some (v, X') ∧ fX9_closing M (nI m) x = some (v, M') ∧ AC X0 M0 m K A r' X' M' ∧ r' ≤ r + 10 := by
  have gi := in16 hm
  have gc := cl16 hm
  have hk := h.k
  have hK' := hK
  rcases hK with rfl | rfl | rfl | rfl | rfl | rfl | rfl
  · obtain ⟨X1, M1, a1, b1, h1⟩ := act_n h (by omega) 12
    obtain ⟨v, X', M', r', c1, c2, c3, c4⟩ := act_s h1 hm (by omega) hK' (fu + 2) x (d + 1) (by omega)
    obtain ⟨z, X'', M'', r'', d1, d2, d3, d4⟩ := act_r c3 hm (by omega) hK' (fu + 4) (x - A) (d + 1) (by omega)
    refine ⟨v ^^^ z, X'', M'', r'', ?_, ?_, d3, by omega⟩
    · rw [run_12 _ (bo_02 X) a1 (by omega), h1.xk]
      rw [show fu + 7 = fu + 2 + 5 from rfl, c1]
      simp only [Option.bind_some, c3.xk, c3.xa]
      rw [show fu + 2 + 5 = fu + 4 + 3 from rfl, d1]
      simp only [Option.bind_some]
    · simp only [fX9_closing, fX9_closing_L18, fX9_closing_L24, fX9_closing_L35, gi, gc, hk, b1, c2, c3.a, d2, eq_self, kn_01, kn_02, kn_03, kn_04, kn_05, kn_06, kn_10, kn_12, kn_13, kn_14, kn_15, kn_16, kn_20, kn_21, kn_23, kn_24, kn_25, kn_26, kn_30, kn_31, kn_32, kn_34, kn_35, kn_36, kn_40, kn_41, kn_42, kn_43, kn_45, kn_46, kn_50, kn_51, kn_52, kn_53, kn_54, kn_56, kn_60, kn_61, kn_62, kn_63, kn_64, kn_65, Option.bind_some, ↓reduceIte, km_1, km_2, km_3, km_4, km_5, km_6, km_7, kn_10, kn_20, kn_21]
  · obtain ⟨X1, M1, a1, b1, h1⟩ := act_n h (by omega) 12
    obtain ⟨v, X', M', r', c1, c2, c3, c4⟩ := act_s h1 hm (by omega) hK' (fu + 2) x (d + 1) (by omega)
    obtain ⟨z, X'', M'', r'', d1, d2, d3, d4⟩ := act_r c3 hm (by omega) hK' (fu + 4) (x - A) (d + 1) (by omega)
    refine ⟨v ^^^ z, X'', M'', r'', ?_, ?_, d3, by omega⟩
    · rw [run_12 _ (bo_12 X) a1 (by omega), h1.xk]
      rw [show fu + 7 = fu + 2 + 5 from rfl, c1]
      simp only [Option.bind_some, c3.xk, c3.xa]
      rw [show fu + 2 + 5 = fu + 4 + 3 from rfl, d1]
      simp only [Option.bind_some]
    · simp only [fX9_closing, fX9_closing_L18, fX9_closing_L24, fX9_closing_L35, gi, gc, hk, b1, c2, c3.a, d2, eq_self, kn_01, kn_02, kn_03, kn_04, kn_05, kn_06, kn_10, kn_12, kn_13, kn_14, kn_15, kn_16, kn_20, kn_21, kn_23, kn_24, kn_25, kn_26, kn_30, kn_31, kn_32, kn_34, kn_35, kn_36, kn_40, kn_41, kn_42, kn_43, kn_45, kn_46, kn_50, kn_51, kn_52, kn_53, kn_54, kn_56, kn_60, kn_61, kn_62, kn_63, kn_64, kn_65, Option.bind_some, ↓reduceIte, km_1, km_2, km_3, km_4, km_5, km_6, km_7, kn_10, kn_20, kn_21]
  · obtain ⟨X1, M1, a1, b1, h1⟩ := act_n h (by omega) 12
    obtain ⟨v, X', M', r', c1, c2, c3, c4⟩ := act_s h1 hm (by omega) hK' (fu + 2) x (d + 1) (by omega)
    obtain ⟨z, X'', M'', r'', d1, d2, d3, d4⟩ := act_r c3 hm (by omega) hK' (fu + 4) (x - A) (d + 1) (by omega)
    refine ⟨v ^^^ z, X'', M'', r'', ?_, ?_, d3, by omega⟩
    · rw [run_12 _ (bo_22 X) a1 (by omega), h1.xk]
      rw [show fu + 7 = fu + 2 + 5 from rfl, c1]
      simp only [Option.bind_some, c3.xk, c3.xa]
      rw [show fu + 2 + 5 = fu + 4 + 3 from rfl, d1]
      simp only [Option.bind_some]
    · simp only [fX9_closing, fX9_closing_L18, fX9_closing_L24, fX9_closing_L35, gi, gc, hk, b1, c2, c3.a, d2, eq_self, kn_01, kn_02, kn_03, kn_04, kn_05, kn_06, kn_10, kn_12, kn_13, kn_14, kn_15, kn_16, kn_20, kn_21, kn_23, kn_24, kn_25, kn_26, kn_30, kn_31, kn_32, kn_34, kn_35, kn_36, kn_40, kn_41, kn_42, kn_43, kn_45, kn_46, kn_50, kn_51, kn_52, kn_53, kn_54, kn_56, kn_60, kn_61, kn_62, kn_63, kn_64, kn_65, Option.bind_some, ↓reduceIte, km_1, km_2, km_3, km_4, km_5, km_6, km_7, kn_10, kn_20, kn_21]
  · obtain ⟨X1, M1, a1, b1, h1⟩ := act_n h (by omega) 12
    obtain ⟨v, X', M', r', c1, c2, c3, c4⟩ := act_s h1 hm (by omega) hK' (fu + 2) x (d + 1) (by omega)
    obtain ⟨z, X'', M'', r'', d1, d2, d3, d4⟩ := act_r c3 hm (by omega) hK' (fu + 4) (x - A) (d + 1) (by omega)
    refine ⟨v ^^^ z, X'', M'', r'', ?_, ?_, d3, by omega⟩
    · rw [run_12 _ (bo_32 X) a1 (by omega), h1.xk]
      rw [show fu + 7 = fu + 2 + 5 from rfl, c1]
      simp only [Option.bind_some, c3.xk, c3.xa]
      rw [show fu + 2 + 5 = fu + 4 + 3 from rfl, d1]
      simp only [Option.bind_some]
    · simp only [fX9_closing, fX9_closing_L18, fX9_closing_L24, fX9_closing_L35, gi, gc, hk, b1, c2, c3.a, d2, eq_self, kn_01, kn_02, kn_03, kn_04, kn_05, kn_06, kn_10, kn_12, kn_13, kn_14, kn_15, kn_16, kn_20, kn_21, kn_23, kn_24, kn_25, kn_26, kn_30, kn_31, kn_32, kn_34, kn_35, kn_36, kn_40, kn_41, kn_42, kn_43, kn_45, kn_46, kn_50, kn_51, kn_52, kn_53, kn_54, kn_56, kn_60, kn_61, kn_62, kn_63, kn_64, kn_65, Option.bind_some, ↓reduceIte, km_1, km_2, km_3, km_4, km_5, km_6, km_7, kn_10, kn_20, kn_21]
  · obtain ⟨X1, M1, a1, b1, h1⟩ := act_n h (by omega) 50
    obtain ⟨X2, M2, a2, b2, h2⟩ := act_n h1 (by omega) 12
    obtain ⟨v, X', M', r', c1, c2, c3, c4⟩ := act_s h2 hm (by omega) hK' (fu + 1) x (d + 2) (by omega)
    obtain ⟨z, X'', M'', r'', d1, d2, d3, d4⟩ := act_r c3 hm (by omega) hK' (fu + 3) (x - A) (d + 2) (by omega)
    refine ⟨-(v ^^^ z), X'', M'', r'', ?_, ?_, d3, by omega⟩
    · rw [run_50 _ (bo_42 X) a1 (by omega), run_12 _ (bo_02 X1) a2 (by omega), h2.xk]
      rw [show fu + 6 = fu + 1 + 5 from rfl, c1]
      simp only [Option.bind_some, c3.xk, c3.xa]
      rw [show fu + 1 + 5 = fu + 3 + 3 from rfl, d1]
      simp only [Option.bind_some]
    · simp only [fX9_closing, fX9_closing_L18, fX9_closing_L24, fX9_closing_L35, gi, gc, hk, b1, b2, c2, c3.a, d2, eq_self, kn_01, kn_02, kn_03, kn_04, kn_05, kn_06, kn_10, kn_12, kn_13, kn_14, kn_15, kn_16, kn_20, kn_21, kn_23, kn_24, kn_25, kn_26, kn_30, kn_31, kn_32, kn_34, kn_35, kn_36, kn_40, kn_41, kn_42, kn_43, kn_45, kn_46, kn_50, kn_51, kn_52, kn_53, kn_54, kn_56, kn_60, kn_61, kn_62, kn_63, kn_64, kn_65, Option.bind_some, ↓reduceIte, km_1, km_2, km_3, km_4, km_5, km_6, km_7, kn_10, kn_20, kn_21]
  · obtain ⟨X1, M1, a1, b1, h1⟩ := act_n h (by omega) 60
    obtain ⟨X2, M2, a2, b2, h2⟩ := act_n h1 (by omega) 12
    obtain ⟨v, X', M', r', c1, c2, c3, c4⟩ := act_s h2 hm (by omega) hK' (fu + 1) x (d + 2) (by omega)
    obtain ⟨z, X'', M'', r'', d1, d2, d3, d4⟩ := act_r c3 hm (by omega) hK' (fu + 3) (x - A) (d + 2) (by omega)
    refine ⟨v ^^^ z ^^^ 5, X'', M'', r'', ?_, ?_, d3, by omega⟩
    · rw [run_60 _ (bo_52 X) a1 (by omega), run_12 _ (bo_22 X1) a2 (by omega), h2.xk]
      rw [show fu + 6 = fu + 1 + 5 from rfl, c1]
      simp only [Option.bind_some, c3.xk, c3.xa]
      rw [show fu + 1 + 5 = fu + 3 + 3 from rfl, d1]
      simp only [Option.bind_some]
    · simp only [fX9_closing, fX9_closing_L18, fX9_closing_L24, fX9_closing_L35, gi, gc, hk, b1, b2, c2, c3.a, d2, eq_self, kn_01, kn_02, kn_03, kn_04, kn_05, kn_06, kn_10, kn_12, kn_13, kn_14, kn_15, kn_16, kn_20, kn_21, kn_23, kn_24, kn_25, kn_26, kn_30, kn_31, kn_32, kn_34, kn_35, kn_36, kn_40, kn_41, kn_42, kn_43, kn_45, kn_46, kn_50, kn_51, kn_52, kn_53, kn_54, kn_56, kn_60, kn_61, kn_62, kn_63, kn_64, kn_65, Option.bind_some, ↓reduceIte, km_1, km_2, km_3, km_4, km_5, km_6, km_7, kn_10, kn_20, kn_21]
  · obtain ⟨X1, M1, a1, b1, h1⟩ := act_n h (by omega) 50
    obtain ⟨X2, M2, a2, b2, h2⟩ := act_n h1 (by omega) 12
    obtain ⟨v, X', M', r', c1, c2, c3, c4⟩ := act_s h2 hm (by omega) hK' (fu + 1) x (d + 2) (by omega)
    obtain ⟨z, X'', M'', r'', d1, d2, d3, d4⟩ := act_r c3 hm (by omega) hK' (fu + 3) (x - A) (d + 2) (by omega)
    refine ⟨-(v ^^^ z), X'', M'', r'', ?_, ?_, d3, by omega⟩
    · rw [run_50 _ (bo_62 X) a1 (by omega), run_12 _ (bo_02 X1) a2 (by omega), h2.xk]
      rw [show fu + 6 = fu + 1 + 5 from rfl, c1]
      simp only [Option.bind_some, c3.xk, c3.xa]
      rw [show fu + 1 + 5 = fu + 3 + 3 from rfl, d1]
      simp only [Option.bind_some]
    · simp only [fX9_closing, fX9_closing_L18, fX9_closing_L24, fX9_closing_L35, gi, gc, hk, b1, b2, c2, c3.a, d2, eq_self, kn_01, kn_02, kn_03, kn_04, kn_05, kn_06, kn_10, kn_12, kn_13, kn_14, kn_15, kn_16, kn_20, kn_21, kn_23, kn_24, kn_25, kn_26, kn_30, kn_31, kn_32, kn_34, kn_35, kn_36, kn_40, kn_41, kn_42, kn_43, kn_45, kn_46, kn_50, kn_51, kn_52, kn_53, kn_54, kn_56, kn_60, kn_61, kn_62, kn_63, kn_64, kn_65, Option.bind_some, ↓reduceIte, km_1, km_2, km_3, km_4, km_5, km_6, km_7, kn_10, kn_20, kn_21]
theorem AC.rel {n : Nat} (h : AC X0 M0 m K A r X M) (hR : Rel X0 M0) (hr : r ≤ 100) : Rel X M := by
  obtain ⟨n, hL, hSh, hO⟩ := hR
  obtain ⟨hF, hG, e1, e2, e3, -⟩ := h
  refine ⟨n, ?_, fun s hs => ?_, ?_⟩
  · simp only [RLp, RFn, MRn, RTn, MTn] at hL ⊢
    rw [hF.1 2 (by decide), hF.1 3 (by decide), hF.2.1 0 (by decide), hF.2.1 1 (by decide), hG.1 0 (by decide), hG.1 1 (by decide), hG.1 2 (by decide), hG.1 3 (by decide), hG.1 4 (by decide), hG.2.1 7 (by decide), hG.2.1 8 (by decide), hG.2.1 9 (by decide), hG.2.1 10 (by decide), hG.2.1 11 (by decide), hG.2.1 12 (by decide), hG.2.1 13 (by decide), hG.2.1 14 (by decide)]
    exact hL
  · have q := hSh s hs
    simp only [RSn] at q ⊢
    rw [hF.2.1 64 (by decide), hF.2.1 65 (by decide), hF.2.2, hG.2.1 15 (by decide), hG.2.1 16 (by decide), hG.2.1 17 (by decide), hG.2.1 18 (by decide), hG.2.2]
    exact q
  · obtain ⟨o1, o2, -, o4, o5⟩ := hO
    refine ⟨?_, ?_, ⟨r, by omega, e1, e2, fun i hi _ => e3 i hi⟩, ?_, ?_⟩
    · rw [hF.2.1 56 (by decide), hG.2.1 6 (by decide)]
      exact o1
    · rw [hF.1 58 (by decide), hG.1 5 (by decide)]
      exact o2
    · rw [hF.1 57 (by decide), hF.1 18 (by decide), hF.1 19 (by decide), hF.2.1 16 (by decide), hF.2.1 17 (by decide), hG.1 39 (by decide), hG.2.1 30 (by decide)]
      exact o4
    · rw [hG.2.1 21 (by decide), hG.2.1 22 (by decide)]
      exact o5
end ACT
theorem s_act {X M : GS} (h : Rel X M) (a b c : Int32) : St (fX8_act X a b c) (fX9_act M a b c) := by
  obtain ⟨n, hL, hSh, hO⟩ := id h
  have hn := hL.1
  have hL0 : RLp (gU1 X 145 0) (gU1 M 38 0) n := hL
  have hO0 : RO (gU1 X 145 0) (gU1 M 38 0) := ⟨hO.1, hO.2.1, ⟨0, by decide, rfl, rfl, fun i hi => absurd hi (by omega)⟩, hO.2.2.2.1, hO.2.2.2.2⟩
  have hR0 : Rel (gU1 X 145 0) (gU1 M 38 0) := ⟨n, hL0, hSh, hO0⟩
  rcases ix3 a n (by omega) with ha | ⟨i, hi, rfl⟩
  · simp only [fX8_act, fX0_forget, fX9_act, x_hasSU0 hL0 ha, m_hasSU0 hL0 ha, Option.bind_some, ↓reduceIte, km_1, km_2, km_3, km_4, km_5, km_6, km_7, kn_10, kn_20, kn_21]
    exact ⟨_, _, rfl, rfl, rfl, hR0⟩
  · rcases ix3 b 3 (by omega) with hb | ⟨k, hk, rfl⟩
    · rcases hb with hb | hb
      · have c1 : (b < (0 : Int32)) = True := eq_true (by rw [tlt, t_0]; exact hb)
        simp only [fX8_act, fX0_forget, fX9_act, x_hasSU hL0 hi, m_hasSU hL0 hi, c1, Option.bind_some, ↓reduceIte, km_1, km_2, km_3, km_4, km_5, km_6, km_7, kn_10, kn_20, kn_21]
        exact ⟨_, _, rfl, rfl, rfl, hR0⟩
      · have c1 : (b < (0 : Int32)) = False := eq_false (by rw [tlt, t_0]; omega)
        have c2 : (b < (3 : Int32)) = False := eq_false (by rw [tlt, show (3 : Int32).toInt = 3 from rfl]; omega)
        have c3 : (b ≤ (2 : Int32)) = False := eq_false (by rw [tle, t_2]; omega)
        simp only [fX8_act, fX0_forget, fX9_act, x_hasSU hL0 hi, m_hasSU hL0 hi, c1, c2, c3, Option.bind_some, ↓reduceIte, km_1, km_2, km_3, km_4, km_5, km_6, km_7, kn_10, kn_20, kn_21]
        exact ⟨_, _, rfl, rfl, rfl, hR0⟩
    · obtain ⟨kk, -, hkk, ek⟩ := (hL0.2.2.2.2.1 i hi).1
      have hm : i < 16 := by omega
      have c1 : (nI k < (0 : Int32)) = False := eq_false (nI_pos (by omega))
      have c2 : (nI k < (3 : Int32)) = True := eq_true (nI_lt (b := 3) hk (by decide))
      have c3 : (nI k ≤ (2 : Int32)) = True := eq_true (nI_le (b := 2) (by omega) (by decide))
      have hK : K7 (nI kk) := k7 hkk
      have hA : AC (gU1 X 145 0) (gU1 M 38 0) i (nI kk) ((gU1 M 38 0).2.2.1 8 i) 0 (gU1 (gU1 (gU1 (gU1 X 145 0) 146 (nI kk)) 147 (nI i)) 148 ((gU1 M 38 0).2.2.1 8 i)) (gU1 M 38 0) :=
        ⟨⟨fun k hk => by rw [gU1_n _ _ _ _ (by omega), gU1_n _ _ _ _ (by omega), gU1_n _ _ _ _ (by omega)], fun _ _ => rfl, rfl⟩, ⟨fun _ _ => rfl, fun _ _ => rfl, rfl⟩, rfl, rfl, fun i hi => absurd hi (by omega), rfl, rfl, rfl, ek, rfl⟩
      have g0 := xg0 hL0 hi
      have g1 := xg1 hL0 hi
      rw [ek] at g0
      rcases (show k = 0 ∨ k = 1 ∨ k = 2 by omega) with rfl | rfl | rfl
      · obtain ⟨v, X', M', r', e1, e2, e3, e4⟩ := act_r hA hm (by decide) hK 38 c 0 (by decide)
        change fX0_run_acts 41 _ _ _ _ _ = _ at e1
        rw [show nI 0 = (0 : Int32) from rfl] at e1 c1 c2 c3 ⊢
        simp only [fX8_act, fX0_forget, fX0_perform, fX9_act, x_hasSU hL0 hi, m_hasSU hL0 hi, c1, c2, c3, g0, g1, e1, e2, Option.bind_some, ↓reduceIte, km_1, km_2, km_3, km_4, km_5, km_6, km_7, kn_10, kn_20, kn_21]
        exact ⟨_, _, rfl, rfl, rfl, e3.rel (n := n) hR0 (by omega)⟩
      · obtain ⟨v, X', M', r', e1, e2, e3, e4⟩ := act_s hA hm (by decide) hK 36 c 0 (by decide)
        change fX0_run_acts 41 _ _ _ _ _ = _ at e1
        rw [show nI 0 = (0 : Int32) from rfl] at e1
        rw [show nI 1 = (1 : Int32) from rfl] at c1 c2 c3 ⊢
        simp only [fX8_act, fX0_forget, fX0_perform, fX9_act, x_hasSU hL0 hi, m_hasSU hL0 hi, c1, c2, c3, g0, g1, e1, e2, eq_self, kn_10, Option.bind_some, ↓reduceIte, km_1, km_2, km_3, km_4, km_5, km_6, km_7, kn_10, kn_20, kn_21]
        exact ⟨_, _, rfl, rfl, rfl, e3.rel (n := n) hR0 (by omega)⟩
      · obtain ⟨v, X', M', r', e1, e2, e3, e4⟩ := act_c hA hm (by decide) hK 33 c 0 (by decide)
        change fX0_run_acts 41 _ _ _ _ _ = _ at e1
        rw [show nI 0 = (0 : Int32) from rfl] at e1
        rw [show nI 2 = (2 : Int32) from rfl] at c1 c2 c3 ⊢
        simp only [fX8_act, fX0_forget, fX0_perform, fX9_act, x_hasSU hL0 hi, m_hasSU hL0 hi, c1, c2, c3, g0, g1, e1, e2, kn_20, kn_21, Option.bind_some, ↓reduceIte, km_1, km_2, km_3, km_4, km_5, km_6, km_7, kn_10, kn_20, kn_21]
        exact ⟨_, _, rfl, rfl, rfl, e3.rel (n := n) hR0 (by omega)⟩
