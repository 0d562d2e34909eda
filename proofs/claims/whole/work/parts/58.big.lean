/-! big -/
def Sb (X X' : GS) : Prop := (∀ k, (k < 96 ∨ 105 < k) → X'.1 k = X.1 k) ∧ X'.2 = X.2
def Mb (M M' : GS) : Prop := (∀ k, (k < 32 ∨ 36 < k) → M'.1 k = M.1 k) ∧ M'.2 = M.2
theorem Sb.u1 (X : GS) {k : Nat} (v : Int32) (h : 96 ≤ k ∧ k ≤ 105) : Sb X (gU1 X k v) := ⟨fun j hj => by rw [gU1_n _ _ _ _ (by omega)], rfl⟩
theorem Mb.u1 (M : GS) {k : Nat} (v : Int32) (h : 32 ≤ k ∧ k ≤ 36) : Mb M (gU1 M k v) := ⟨fun j hj => by rw [gU1_n _ _ _ _ (by omega)], rfl⟩
theorem Sb.tr {X Y Z : GS} (h : Sb X Y) (g : Sb Y Z) : Sb X Z := ⟨fun k a => (g.1 k a).trans (h.1 k a), g.2.trans h.2⟩
theorem Mb.tr {X Y Z : GS} (h : Mb X Y) (g : Mb Y Z) : Mb X Z := ⟨fun k a => (g.1 k a).trans (h.1 k a), g.2.trans h.2⟩
theorem Sb.rf (X : GS) : Sb X X := ⟨fun _ _ => rfl, rfl⟩
theorem Mb.rf (X : GS) : Mb X X := ⟨fun _ _ => rfl, rfl⟩
theorem RLp.b {X X' M M' : GS} {n : Nat} (g : Sb X X') (f : Mb M M') (h : RLp X M n) : RLp X' M' n := by
  simp only [RLp, RFn, MRn, RTn, MTn] at h ⊢
  rw [g.1 2 (by decide), g.1 3 (by decide), g.2, f.1 0 (by decide), f.1 1 (by decide), f.1 2 (by decide), f.1 3 (by decide), f.1 4 (by decide), f.2]
  exact h
theorem Rel.b {X X' M M' : GS} (g : Sb X X') (f : Mb M M') (h : Rel X M) : Rel X' M' := by
  obtain ⟨n, hL, hSh, hO⟩ := h
  refine ⟨n, hL.b g f, fun s hs => ?_, ?_⟩
  · have q := hSh s hs
    simp only [RSn] at q ⊢
    rw [g.2, f.2]
    exact q
  · simp only [RO] at hO ⊢
    rw [g.1 58 (by decide), g.1 145 (by decide), g.1 57 (by decide), g.1 18 (by decide), g.1 19 (by decide), g.2, f.1 5 (by decide), f.1 38 (by decide), f.1 39 (by decide), f.2]
    exact hO
theorem eV_c {M M' : GS} {i : Nat} (h2 : M'.1 2 = M.1 2) (h7 : M'.2.2.1 7 i = M.2.2.1 7 i) (h8 : M'.2.2.1 8 i = M.2.2.1 8 i) (h11 : M'.2.2.1 11 i = M.2.2.1 11 i) (h12 : M'.2.2.1 12 i = M.2.2.1 12 i) (h14 : M'.2.2.1 14 i = M.2.2.1 14 i) (b : Int32) : eV M' i b = eV M i b := by
  have eY : mY M' i = mY M i := by rw [mY, mY, h11, h12]
  rw [eV, eV, h2, h7, h8, h11, h12, h14, eY]
theorem eV_b {M M' : GS} (f : Mb M M') (i : Nat) (b : Int32) : eV M' i b = eV M i b := eV_c (f.1 2 (by decide)) (by rw [f.2]) (by rw [f.2]) (by rw [f.2]) (by rw [f.2]) (by rw [f.2]) b
theorem mR_b {M M' : GS} (f : Mb M M') (i : Nat) : mR M' i = mR M i := by
  have eB : mB M' i = mB M i := by rw [mB, mB, f.2]
  rw [mR, mR, eV_b f, eB]
theorem sumR_c {M M' : GS} : ∀ k, (∀ j, j < k → mR M' j = mR M j) → sumR M' k = sumR M k := by
  intro k
  induction k with
  | zero => intro _; rfl
  | succ k ih =>
    intro h
    rw [sumR, sumR, ih (fun j hj => h j (by omega)), h k (by omega)]
theorem sumR_1 {M M' : GS} {i : Nat} (h : ∀ j, j ≠ i → mR M' j = mR M j) : ∀ k, i < k → sumR M' k = sumR M k - mR M i + mR M' i := by
  intro k
  induction k with
  | zero => intro h; omega
  | succ k ih =>
    intro hk
    rw [sumR, sumR]
    by_cases e : i = k
    · subst e
      rw [sumR_c i (fun j hj => h j (by omega))]
      grind
    · rw [ih (by omega), h k (by omega)]
      grind
/-- what both sides found so far -/
def Cn (X M : GS) (c : Nat) : Prop := ∃ q, q ≤ c ∧ X.1 96 = nI q ∧ M.1 32 = nI q ∧ (q ≠ 0 → X.1 97 = M.1 33 ∧ X.1 98 = M.1 34 ∧ X.1 99 = M.1 35 ∧ X.1 100 = M.1 36)
def BG (o : Int32) (X M : GS) (n i r c : Nat) : Prop := RLp X M n ∧ Rel X M ∧ X.1 101 = nI i ∧ X.1 102 = M.2.2.1 9 i ∧ X.1 103 = M.2.2.1 10 i ∧ X.1 104 = o - mR M i ∧ X.1 105 = nI r ∧ sumR M n = o ∧ Cn X M c
theorem Cn.mono {X M : GS} {c d : Nat} (h : Cn X M c) (hd : c ≤ d) : Cn X M d := by
  obtain ⟨q, a, b⟩ := h
  exact ⟨q, by omega, b⟩
theorem Rel.rlp {X M : GS} {n : Nat} (h : Rel X M) (hn : n ≤ 16) (e : M.1 0 = nI n) : RLp X M n := by
  obtain ⟨n', hL, -, -⟩ := h
  have := hL.1
  have e2 := hL.2.2.1.symm.trans e
  rw [neq_e (by omega) (by omega)] at e2
  rw [← e2]
  exact hL
theorem gs_ext {A B : GS} (h1 : A.1 = B.1) (h2 : A.2.1 = B.2.1) (h3 : A.2.2.1 = B.2.2.1) (h4 : A.2.2.2 = B.2.2.2) : A = B := by
  obtain ⟨a, b, c, d⟩ := A
  obtain ⟨a', b', c', d'⟩ := B
  simp only at h1 h2 h3 h4
  rw [h1, h2, h3, h4]
theorem back {T M : GS} {i : Nat} (h1 : T.1 = M.1) (h2 : T.2.1 = M.2.1) (h4 : T.2.2.2 = M.2.2.2) (h3 : ∀ k, k ≠ 9 → k ≠ 10 → T.2.2.1 k = M.2.2.1 k) (h9 : ∀ j, j ≠ i → T.2.2.1 9 j = M.2.2.1 9 j) (h10 : ∀ j, j ≠ i → T.2.2.1 10 j = M.2.2.1 10 j) : gU3 (gU3 T 9 i (M.2.2.1 9 i)) 10 i (M.2.2.1 10 i) = M := by
  refine gs_ext h1 h2 ?_ h4
  funext k
  by_cases e10 : k = 10
  · subst e10
    rw [gU3_s, gU3_n _ _ _ _ _ (by decide)]
    funext j
    rw [upd_i]
    by_cases e : j = i
    · rw [if_pos e, e]
    · rw [if_neg e, h10 j e]
  · rw [gU3_n _ _ _ _ _ e10]
    by_cases e9 : k = 9
    · subst e9
      rw [gU3_s]
      funext j
      rw [upd_i]
      by_cases e : j = i
      · rw [if_pos e, e]
      · rw [if_neg e, h9 j e]
    · rw [gU3_n _ _ _ _ _ e9, h3 k e9 e10]
/-- the figures with another pair of readings -/
def Tw (M : GS) (i : Nat) (b a : Int32) (T : GS) : Prop := T.1 = M.1 ∧ T.2.1 = M.2.1 ∧ T.2.2.2 = M.2.2.2 ∧ (∀ k, k ≠ 9 → k ≠ 10 → T.2.2.1 k = M.2.2.1 k) ∧ (∀ j, j ≠ i → T.2.2.1 9 j = M.2.2.1 9 j) ∧ (∀ j, j ≠ i → T.2.2.1 10 j = M.2.2.1 10 j) ∧ T.2.2.1 9 i = b ∧ T.2.2.1 10 i = a
theorem tw_mR {M T : GS} {i : Nat} {b a : Int32} (h : Tw M i b a T) : (∀ j, j ≠ i → mR T j = mR M j) ∧ mR T i = (b - a) - eV M i (b - a) := by
  obtain ⟨h1, h2, h3, h4, h5, h6, h7, h8⟩ := h
  have e : ∀ j v, eV T j v = eV M j v := fun j v => eV_c (by rw [h1]) (by rw [h4 7 (by decide) (by decide)]) (by rw [h4 8 (by decide) (by decide)]) (by rw [h4 11 (by decide) (by decide)]) (by rw [h4 12 (by decide) (by decide)]) (by rw [h4 14 (by decide) (by decide)]) v
  refine ⟨fun j hj => ?_, ?_⟩
  · have eB : mB T j = mB M j := by rw [mB, mB, h5 j hj, h6 j hj]
    rw [mR, mR, e, eB]
  · have eB : mB T i = b - a := by rw [mB, h7, h8]
    rw [mR, e, eB]
theorem tw_off {X M T : GS} {n i : Nat} {b a : Int32} (hR : Rel X M) (hL : RLp X M n) (hi : i < n) (h : Tw M i b a T) (hb : isN b 0 9999) (ha : isN a 0 9999) : fX9_offAll T = some (sumR M n - mR M i + ((b - a) - eV M i (b - a))) := by
  have hn := hL.1
  have R1 := ((hR.fig hL hi (v := b)).1 hb).1
  have L1 := R1.rlp (n := n) hn hL.2.2.1
  have R2 := ((R1.fig L1 hi (v := a)).1 ha).2
  have L2 := R2.rlp (n := n) hn hL.2.2.1
  have eT : gU3 (gU3 M 9 i b) 10 i a = T := by
    obtain ⟨h1, h2, h3, h4, h5, h6, h7, h8⟩ := h
    refine gs_ext h1.symm h2.symm ?_ h3.symm
    funext k
    by_cases e10 : k = 10
    · subst e10
      rw [gU3_s, gU3_n _ _ _ _ _ (by decide)]
      funext j
      rw [upd_i]
      by_cases e : j = i
      · rw [if_pos e, e, h8]
      · rw [if_neg e, h6 j e]
    · rw [gU3_n _ _ _ _ _ e10]
      by_cases e9 : k = 9
      · subst e9
        rw [gU3_s]
        funext j
        rw [upd_i]
        by_cases e : j = i
        · rw [if_pos e, e, h7]
        · rw [if_neg e, h5 j e]
      · rw [gU3_n _ _ _ _ _ e9, h4 k e9 e10]
  rw [eT] at L2
  rw [m_off L2, sumR_1 (tw_mR h).1 n hi, (tw_mR h).2]
theorem BG.go {o : Int32} {X M X' M' : GS} {n i r c d : Nat} (h : BG o X M n i r c) (g : Sb X X') (f : Mb M M') (e1 : X'.1 101 = X.1 101) (e2 : X'.1 102 = X.1 102) (e3 : X'.1 103 = X.1 103) (e4 : X'.1 104 = X.1 104) (e5 : X'.1 105 = X.1 105) (hc : Cn X' M' d) : BG o X' M' n i r d := by
  obtain ⟨a1, a2, a3, a4, a5, a6, a7, a8, a9⟩ := h
  refine ⟨a1.b g f, a2.b g f, e1.trans a3, ?_, ?_, ?_, e5.trans a7, ?_, hc⟩
  · rw [e2, a4, f.2]
  · rw [e3, a5, f.2]
  · rw [e4, a6, mR_b f]
  · rw [sumR_c n (fun j _ => mR_b f j)]
    exact a8
theorem x_cons {o : Int32} {X M : GS} {n i r c : Nat} (h : BG o X M n i r c) (hi : i < n) (t v b : Int32) : ∃ X', fX7_consider_now_L52 X t v b = some X' ∧ Sb X X' ∧ X'.1 101 = X.1 101 ∧ X'.1 102 = X.1 102 ∧ X'.1 103 = X.1 103 ∧ X'.1 104 = X.1 104 ∧ X'.1 105 = X.1 105 ∧
    (if o - mR M i + (b - eV M i b) = 0 then X'.1 96 = X.1 96 + 1 ∧ (if X.1 96 = 0 then X'.1 97 = nI i ∧ X'.1 98 = nI r ∧ X'.1 99 = t ∧ X'.1 100 = v else X'.1 97 = X.1 97 ∧ X'.1 98 = X.1 98 ∧ X'.1 99 = X.1 99 ∧ X'.1 100 = X.1 100) else X' = X) := by
  obtain ⟨a1, a2, a3, a4, a5, a6, a7, a8, a9⟩ := h
  rw [fX7_consider_now_L52, a3, x_err a1 hi b, a6]
  have e : o - mR M i + b - eV M i b = o - mR M i + (b - eV M i b) := by grind
  simp only [e, Option.bind_some]
  by_cases hz : o - mR M i + (b - eV M i b) = 0
  · rw [if_pos hz]
    by_cases h0 : X.1 96 = 0
    · rw [if_pos h0, fX7_consider_now_L107]
      refine ⟨_, rfl, (Sb.u1 X _ (by omega)).tr ((Sb.u1 _ _ (by omega)).tr ((Sb.u1 _ _ (by omega)).tr ((Sb.u1 _ _ (by omega)).tr (Sb.u1 _ _ (by omega))))), a3, rfl, rfl, a6, a7.symm ▸ rfl, ?_⟩
      rw [if_pos hz, if_pos h0]
      exact ⟨rfl, rfl, a7, rfl, rfl⟩
    · rw [if_neg h0, fX7_consider_now_L107]
      refine ⟨_, rfl, Sb.u1 X _ (by omega), a3, rfl, rfl, a6, rfl, ?_⟩
      rw [if_pos hz, if_neg h0]
      exact ⟨rfl, rfl, rfl, rfl, rfl⟩
  · rw [if_neg hz]
    refine ⟨X, rfl, Sb.rf X, a3, rfl, rfl, a6, rfl, ?_⟩
    rw [if_neg hz]
theorem m_cons {o : Int32} {X M T : GS} {n i r c : Nat} {b a : Int32} (h : BG o X M n i r c) (hi : i < n) (hc : c < 10000) (hT : Tw M i b a T) (hb : isN b 0 9999) (ha : isN a 0 9999) (t v : Int32) : ∃ M', fX9_slips_L73 T (nI i) (nI r) t v (M.2.2.1 9 i) (M.2.2.1 10 i) = some M' ∧ Mb M M' ∧
    (if o - mR M i + ((b - a) - eV M i (b - a)) = 0 then M'.1 32 = M.1 32 + 1 ∧ (if M.1 32 = 0 then M'.1 33 = nI i ∧ M'.1 34 = nI r ∧ M'.1 35 = t ∧ M'.1 36 = v else M'.1 33 = M.1 33 ∧ M'.1 34 = M.1 34 ∧ M'.1 35 = M.1 35 ∧ M'.1 36 = M.1 36) else M' = M) := by
  obtain ⟨a1, a2, a3, a4, a5, a6, a7, a8, q, q1, q2, q3, q4⟩ := h
  have hn := a1.1
  have hO := tw_off a2 a1 hi hT hb ha
  rw [a8] at hO
  obtain ⟨h1, h2, h3, h4, h5, h6, h7, h8⟩ := hT
  have eB := back h1 h2 h3 h4 h5 h6
  rw [fX9_slips_L73, hO]
  simp only [cl16 (show i < 16 by omega), in16 (show i < 16 by omega), eB, gLet_eq, Option.bind_some, ↓reduceIte, km_1, km_2, km_3, km_4, km_5, km_6, km_7, kn_10, kn_20, kn_21]
  by_cases hz : o - mR M i + ((b - a) - eV M i (b - a)) = 0
  · rw [if_pos hz]
    have e1 : ((gU1 M 32 (M.1 32 + 1)).1 32 ≤ (1 : Int32)) = (q + 1 ≤ 1) := by
      rw [gU1_s, q3, i_add1]
      exact nle_e (b := 1) (by omega) (by omega)
    have e2 : (M.1 32 = (0 : Int32)) = (q = 0) := by
      rw [q3]
      exact neq_e (b := 0) (by omega) (by omega)
    simp only [e1, e2]
    by_cases h0 : q = 0
    · rw [if_pos (by omega)]
      refine ⟨_, rfl, (Mb.u1 M _ (by omega)).tr ((Mb.u1 _ _ (by omega)).tr ((Mb.u1 _ _ (by omega)).tr ((Mb.u1 _ _ (by omega)).tr (Mb.u1 _ _ (by omega))))), ?_⟩
      rw [if_pos hz, if_pos h0]
      exact ⟨rfl, rfl, rfl, rfl, rfl⟩
    · rw [if_neg (by omega)]
      refine ⟨_, rfl, Mb.u1 M _ (by omega), ?_⟩
      rw [if_pos hz, if_neg h0]
      exact ⟨rfl, rfl, rfl, rfl, rfl⟩
  · rw [if_neg hz]
    exact ⟨M, rfl, Mb.rf M, by rw [if_neg hz]⟩
theorem both {o : Int32} {X M T : GS} {n i r c : Nat} {b a : Int32} (h : BG o X M n i r c) (hi : i < n) (hc : c < 10000) (hT : Tw M i b a T) (hb : isN b 0 9999) (ha : isN a 0 9999) (t v : Int32) : ∃ X' M', fX7_consider_now_L52 X t v (b - a) = some X' ∧ fX9_slips_L73 T (nI i) (nI r) t v (M.2.2.1 9 i) (M.2.2.1 10 i) = some M' ∧ BG o X' M' n i r (c + 1) := by
  obtain ⟨X', x1, x2, x3, x4, x5, x6, x7, x8⟩ := x_cons h hi t v (b - a)
  obtain ⟨M', m1, m2, m3⟩ := m_cons h hi hc hT hb ha t v
  refine ⟨X', M', x1, m1, h.go x2 m2 x3 x4 x5 x6 x7 ?_⟩
  obtain ⟨a1, a2, a3, a4, a5, a6, a7, a8, q, q1, q2, q3, q4⟩ := h
  by_cases hz : o - mR M i + ((b - a) - eV M i (b - a)) = 0
  · rw [if_pos hz] at x8 m3
    have e2 : (nI q = (0 : Int32)) = (q = 0) := neq_e (b := 0) (by omega) (by omega)
    rw [q2] at x8
    rw [q3] at m3
    simp only [e2] at x8 m3
    refine ⟨q + 1, by omega, by rw [x8.1, i_add1], by rw [m3.1, i_add1], fun _ => ?_⟩
    by_cases h0 : q = 0
    · rw [if_pos h0] at x8 m3
      obtain ⟨-, y1, y2, y3, y4⟩ := x8
      obtain ⟨-, z1, z2, z3, z4⟩ := m3
      rw [y1, y2, y3, y4, z1, z2, z3, z4]
      exact ⟨rfl, rfl, rfl, rfl⟩
    · rw [if_neg h0] at x8 m3
      obtain ⟨-, y1, y2, y3, y4⟩ := x8
      obtain ⟨-, z1, z2, z3, z4⟩ := m3
      rw [y1, y2, y3, y4, z1, z2, z3, z4]
      exact q4 h0
  · rw [if_neg hz] at x8 m3
    rw [x8, m3]
    exact ⟨q, by omega, q2, q3, q4⟩
theorem Tw9 (M : GS) (i : Nat) (v : Int32) : Tw M i v (M.2.2.1 10 i) (gU3 M 9 i v) := ⟨rfl, rfl, rfl, fun k h _ => gU3_n _ _ _ _ _ h, fun j hj => by rw [gU3_s, upd_i, if_neg hj], fun _ _ => rfl, by rw [gU3_s, upd_i, if_pos rfl], rfl⟩
theorem Tw10 (M : GS) (i : Nat) (v : Int32) : Tw M i (M.2.2.1 9 i) v (gU3 M 10 i v) := ⟨rfl, rfl, rfl, fun k _ h => gU3_n _ _ _ _ _ h, fun _ _ => rfl, fun j hj => by rw [gU3_s, upd_i, if_neg hj], rfl, by rw [gU3_s, upd_i, if_pos rfl]⟩
theorem Tw5 (M : GS) (i : Nat) (v w : Int32) : Tw M i v w (gU3 (gU3 M 9 i v) 10 i w) := ⟨rfl, rfl, rfl, fun k h g => by rw [gU3_n _ _ _ _ _ g, gU3_n _ _ _ _ _ h], fun j hj => by rw [gU3_n _ _ _ _ _ (by decide), gU3_s, upd_i, if_neg hj], fun j hj => by rw [gU3_s, upd_i, if_neg hj]; rfl, by rw [gU3_n _ _ _ _ _ (by decide), gU3_s, upd_i, if_pos rfl], by rw [gU3_s, upd_i, if_pos rfl]⟩
theorem cons {o : Int32} {X M : GS} {n i r c : Nat} (h : BG o X M n i r c) (hi : i < n) (hr : r ≤ 1) (hc : c < 10000) (t v : Int32) : ∃ X' M', fX7_consider_now X t v = some X' ∧ fX9_slips M (nI i) (nI r) t v = some M' ∧ BG o X' M' n i r (c + 1) := by
  obtain ⟨a1, a2, a3, a4, a5, a6, a7, a8, a9⟩ := id h
  have hn := a1.1
  have mr := a1.2.2.2.2.1 i hi
  have i16 := in16 (show i < 16 by omega)
  have c16 := cl16 (show i < 16 by omega)
  by_cases g : 0 ≤ v.toInt ∧ v.toInt ≤ 9999
  · have k1 : (v < 0) = False := eq_false (by rw [tlt, t_0]; omega)
    have k2 : (v ≤ (9999 : Int32)) = True := eq_true (by rw [tle, show (9999 : Int32).toInt = 9999 from rfl]; omega)
    have hv : isN v 0 9999 := isN_of g.1 g.2
    have kR : fX9_isReading M v = some 1 := by rw [m_reading, if_pos g]
    by_cases ht : t = 5
    · obtain ⟨X', M', c1, c2, c3⟩ := both h hi hc (Tw5 M i (M.2.2.1 10 i) (M.2.2.1 9 i)) mr.2.2.2.1 mr.2.2.1 t v
      refine ⟨X', M', ?_, ?_, c3⟩
      · simp only [fX7_consider_now, k1, k2, eq_true ht, a4, a5, ite_self, Option.bind_some, ↓reduceIte, km_1, km_2, km_3, km_4, km_5, km_6, km_7, kn_10, kn_20, kn_21]
        rw [ht] at c1
        rw [ht]
        exact c1
      · simp only [fX9_slips, kR, i16, c16, eq_true ht, gLet_eq, Option.bind_some, ↓reduceIte, km_1, km_2, km_3, km_4, km_5, km_6, km_7, kn_10, kn_20, kn_21]
        rw [ht] at c2
        rw [ht]
        exact c2
    · rcases (show r = 0 ∨ r = 1 by omega) with rfl | rfl
      · obtain ⟨X', M', c1, c2, c3⟩ := both h hi hc (Tw9 M i v) hv mr.2.2.2.1 t v
        refine ⟨X', M', ?_, ?_, c3⟩
        · simp only [fX7_consider_now, k1, k2, eq_false ht, a7, a5, show (nI 0 = (0 : Int32)) = True from eq_true rfl, Option.bind_some, ↓reduceIte, km_1, km_2, km_3, km_4, km_5, km_6, km_7, kn_10, kn_20, kn_21]
          exact c1
        · simp only [fX9_slips, kR, i16, c16, eq_false ht, show (nI 0 = (0 : Int32)) = True from eq_true rfl, Option.bind_some, ↓reduceIte, km_1, km_2, km_3, km_4, km_5, km_6, km_7, kn_10, kn_20, kn_21]
          exact c2
      · obtain ⟨X', M', c1, c2, c3⟩ := both h hi hc (Tw10 M i v) mr.2.2.1 hv t v
        refine ⟨X', M', ?_, ?_, c3⟩
        · simp only [fX7_consider_now, k1, k2, eq_false ht, a7, a4, show (nI 1 = (0 : Int32)) = False from eq_false (by decide), Option.bind_some, ↓reduceIte, km_1, km_2, km_3, km_4, km_5, km_6, km_7, kn_10, kn_20, kn_21]
          exact c1
        · simp only [fX9_slips, kR, i16, c16, eq_false ht, show (nI 1 = (0 : Int32)) = False from eq_false (by decide), Option.bind_some, ↓reduceIte, km_1, km_2, km_3, km_4, km_5, km_6, km_7, kn_10, kn_20, kn_21]
          exact c2
  · have kR : fX9_isReading M v = some 0 := by rw [m_reading, if_neg g]
    refine ⟨X, M, ?_, ?_, h.go (Sb.rf X) (Mb.rf M) rfl rfl rfl rfl rfl (a9.mono (by omega))⟩
    · by_cases k1 : v < 0
      · simp only [fX7_consider_now, eq_true k1, Option.bind_some, ↓reduceIte, km_1, km_2, km_3, km_4, km_5, km_6, km_7, kn_10, kn_20, kn_21]
      · have k2 : (v ≤ (9999 : Int32)) = False := eq_false (by
          rw [tlt, t_0] at k1
          rw [tle, show (9999 : Int32).toInt = 9999 from rfl]
          omega)
        simp only [fX7_consider_now, eq_false k1, k2, Option.bind_some, ↓reduceIte, km_1, km_2, km_3, km_4, km_5, km_6, km_7, kn_10, kn_20, kn_21]
    · simp only [fX9_slips, kR, Option.bind_some, ↓reduceIte, km_1, km_2, km_3, km_4, km_5, km_6, km_7, kn_10, kn_20, kn_21]
