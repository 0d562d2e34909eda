/-! loop: an item, by both -/
def PI (c : Nat → Int32) (s L : Nat) (X0 M0 X M : GS) (p n : Nat) : Prop := PC c s L X M ∧ XF X0 X ∧ MF M0 M ∧ X.1 84 = nI p ∧ M.1 25 = nI p ∧ X.1 85 = -1 ∧ TL X M n
def FL (X0 M0 X M : GS) : Prop := ∃ f, f < 100000 ∧ X.1 85 = nI f ∧ M.1 28 = nI f ∧ XF X0 X ∧ MF M0 M
def OC (c : Nat → Int32) (s L : Nat) (X0 M0 : GS) (n p B : Nat) (x m : Option (Int32 × GS)) : Prop := (∃ X' M' p' n', x = some (1, X') ∧ m = some (1, M') ∧ PI c s L X0 M0 X' M' p' n' ∧ p ≤ p' ∧ p' ≤ p + B ∧ n ≤ n') ∨ (∃ X' M', x = some (0, X') ∧ m = some (0, M') ∧ FL X0 M0 X' M')
section READ
variable {c : Nat → Int32} {s L : Nat} {X0 M0 X M : GS}
theorem TL.m {n : Nat} (h : TL X M n) : X.1 34 = nI n ∧ M.1 0 = nI n ∧ n ≤ 16 := ⟨h.2.1, h.2.2.1, h.1⟩
theorem numstep {q n w i : Nat} (h : PI c s L X0 M0 X M q n) (hq : q < 90000) (hw : w < 7) (hi' : i < nn w) (hB : NB X M w n i) :
    (∃ X' M1 q', fX4_number X (nI i) (nI (fr w + i)) = some (1, X') ∧ fX9_reads M = some (1, M1) ∧ fX9_isSo M1 (nI w) (nI i) = some 1 ∧ PI c s L X0 M0 X' (gU3 M1 23 i (M1.1 27)) q' n ∧ NB X' (gU3 M1 23 i (M1.1 27)) w n (i + 1) ∧ q ≤ q' ∧ q' ≤ q + 4) ∨
    (∃ X' M1, fX4_number X (nI i) (nI (fr w + i)) = some (0, X') ∧ X'.1 85 = nI q ∧ XF X0 X' ∧ MF M0 M1 ∧ ((fX9_reads M = some (0, M1) ∧ M1.1 28 = nI q) ∨ (fX9_reads M = some (1, M1) ∧ fX9_isSo M1 (nI w) (nI i) = some 0))) := by
  obtain ⟨hP, hX, hM, hx, hm, h85, hT⟩ := h
  have h6 := (nn_r w hw).2.1
  rcases num hP hx hm hq hT.m.1 hT.m.2.1 hT.m.2.2 hw hi' with ⟨X', M1, v, k, a1, a2, a3, a4, a5, a6, a7, a8, a9, a10, a11, a12, a13, a14, a15, a16⟩ | ⟨X', M1, a1, a2, a3, a4, a5⟩
  · have fX : XF X X' := ⟨fun j h1 h2 h3 h4 => a12 j h3, fun j h1 h2 h3 => a13 j h3, a14⟩
    have fM : MF M (gU3 M1 23 i (M1.1 27)) := MF.tr (Y := M1) ⟨fun j hj => a15 j (by omega) (by omega), fun j _ _ => by rw [a16], by rw [a16]⟩ (MF.u3 _ _ _ (by decide))
    refine Or.inl ⟨X', M1, q + k, a1, a2, a3, ⟨hP.f fX fM, hX.tr fX, hM.tr fM, a6, a5, ?_, ?_⟩, ?_, by omega, by omega⟩
    · rw [a12 85 (by decide)]
      exact h85
    · refine hT.c (a12 34 (by decide)) (a12 35 (by decide)) (a13 32 (by decide)) (a13 33 (by decide)) (fun j hj => a15 j (by omega) (by omega)) (fun j h1 h2 => ?_)
      rw [gU3_n _ _ _ _ _ (by omega), a16]
    · intro j hj
      by_cases e : j = i
      · subst e
        refine ⟨v, ?_, ?_, a9, a10⟩
        · rw [a11, upd_i, if_pos rfl]
        · rw [gU3_s, upd_i, if_pos rfl]
          exact a4
      · obtain ⟨v', b1, b2, b3, b4⟩ := hB j (by omega)
        refine ⟨v', ?_, ?_, b3, b4⟩
        · rw [a11, upd_i, if_neg e]
          exact b1
        · rw [gU3_s, upd_i, if_neg e, a16]
          exact b2
  · exact Or.inr ⟨X', M1, a1, a2, hX.tr a3, hM.tr a4, a5⟩
theorem x_sign (h : PC c s L X M) {p : Nat} (hp : X.1 84 = nI p) (hp2 : p < 100000) (a : Int32) : fX4_sign X a = if ltr c L p = a then some (1, gU1 X 84 (nI (p + 1))) else some (0, gU1 X 85 (nI p)) := by
  have e := x_let h (i := p) hp2
  simp only [fX4_sign, hp, e, fX4_faultIs, i_add1, eq_self, true_or, not_true_eq_false, Option.bind_some, ↓reduceIte, km_1, km_2, km_3, km_4, km_5, km_6, km_7, kn_10, kn_20, kn_21]
theorem ltr_in {p : Nat} {a : Int32} (h : ltr c L p = a) (ha : a ≠ -1) : p < L := by
  by_cases q : p < L
  · exact q
  · exact absurd ((if_neg q).symm.trans h) (Ne.symm ha)
theorem item_at (h : PC c s L X M) {w i : Nat} (hw : w < 7) (hi' : i < nn w) (fv : Nat) : fX9_item_40 (fv + 1) M (nI w) (nI i) = if nI i ≤ 0 then ((fX9_reads M).bind fun u33 => if u33.1 = 0 then some ((0 : Int32), u33.2) else (fX9_isSo u33.2 (nI w) (nI i)).bind fun u36 => if u36 = 0 then some (0, gU1 u33.2 28 (M.1 25)) else fX9_item_40 fv (gU3 u33.2 23 i (u33.2.1 27)) (nI w) (nI (i + 1))) else if (M.1 26) ≤ (M.1 25) then some (0, gU1 M 28 (M.1 25)) else if ((M.1 24) + (M.1 25)) < 0 ∨ 1280 ≤ ((M.1 24) + (M.1 25)).toNatClampNeg then none else if ((M.2.2.2 19 ((M.1 24) + (M.1 25)).toNatClampNeg)).toInt32 = (32 : Int32) then ((fX9_reads (gU1 M 25 ((M.1 25) + 1))).bind fun u49 => if u49.1 = 0 then some ((0 : Int32), u49.2) else (fX9_isSo u49.2 (nI w) (nI i)).bind fun u52 => if u52 = 0 then some (0, gU1 u49.2 28 ((M.1 25) + 1)) else fX9_item_40 fv (gU3 u49.2 23 i (u49.2.1 27)) (nI w) (nI (i + 1))) else some (0, gU1 M 28 (M.1 25)) := by
  have h6 := (nn_r w hw).2.1
  have g0 : (nI (nn w) ≤ nI i) = False := (nle_e (by omega) (by omega)).trans (eq_false (by omega))
  have in6 : (nI i < 0 ∨ 6 ≤ i) = False := by
    have q := nI_in (c := i) (N := 6) (by omega) (by decide)
    rw [nI_clamp (by omega)] at q
    exact eq_false q
  rw [fX9_item_40]
  simp only [clm (show w < 2147483648 by omega), in7 hw, m_22 h hw, g0, fX9_wrong, clm (show i < 2147483648 by omega), in6, i_add1, eq_self, true_or, not_true_eq_false, gU1_s, Option.bind_some, ↓reduceIte, km_1, km_2, km_3, km_4, km_5, km_6, km_7, kn_10, kn_20, kn_21]
theorem rd_l {w n : Nat} (hw : w < 7) (hr : w = 0 → n < 16) : ∀ (d i fu fv : Nat) (X M : GS) (p : Nat), nn w - i = d → 1 ≤ i → i ≤ nn w → d < fu → d < fv → p + 5 * d < 80000 → PI c s L X0 M0 X M p n → NB X M w n i → OC c s L X0 M0 n p (5 * d) (fX4_readItem_85 fu X (nI w) (nI (fr w)) (nI (nn w)) (nI i)) (fX9_item_40 fv M (nI w) (nI i)) := by
  have h6 := (nn_r w hw).2.1
  intro d
  induction d with
  | zero =>
    intro i fu fv X M p hd h1 hi' hf hg hp h hB
    obtain ⟨fu, rfl⟩ : ∃ q, fu = q + 1 := ⟨fu - 1, by omega⟩
    obtain ⟨fv, rfl⟩ : ∃ q, fv = q + 1 := ⟨fv - 1, by omega⟩
    have e : i = nn w := by omega
    subst e
    obtain ⟨hP, hX, hM, hx, hm, h85, hT⟩ := h
    obtain ⟨X', M', n', a1, a2, b1, b2, b3, b4, b5, b6, b7⟩ := items hP hT hw hr hB fv
    refine Or.inl ⟨X', M', p, n', ?_, a2, ⟨hP.f b3 b4, hX.tr b3, hM.tr b4, b5.trans hx, b6.trans hm, b7.trans h85, b1⟩, Nat.le_refl p, by omega, b2⟩
    rw [fX4_readItem_85, if_pos (nI_le (Nat.le_refl _) (by omega)), a1]
    rfl
  | succ d ih =>
    intro i fu fv X M p hd h1 hi' hf hg hp h hB
    obtain ⟨fu, rfl⟩ : ∃ q, fu = q + 1 := ⟨fu - 1, by omega⟩
    obtain ⟨fv, rfl⟩ : ∃ q, fv = q + 1 := ⟨fv - 1, by omega⟩
    have hlt : i < nn w := by omega
    obtain ⟨hP, hX, hM, hx, hm, h85, hT⟩ := id h
    have hL := hP.2.1
    have g0 : (nI i ≤ (0 : Int32)) = False := (nle_e (b := 0) (by omega) (by omega)).trans (eq_false (by omega))
    have g1 : (nI L ≤ nI p) = (L ≤ p) := nle_e (by omega) (by omega)
    have gn : (nI (nn w) ≤ nI i) = False := (nle_e (by omega) (by omega)).trans (eq_false (by omega))
    have eS := x_sign hP hx (by omega) 32
    have eI := item_at hP hw hlt fv
    by_cases q : ltr c L p = 32
    · have hin := ltr_in q (by decide)
      obtain ⟨m1, m2⟩ := m_cell hP hm hin
      rw [if_pos q] at eS
      have h' : PI c s L X0 M0 (gU1 X 84 (nI (p + 1))) (gU1 M 25 (nI (p + 1))) (p + 1) n := ⟨hP.f (XF.u1 _ _ (by decide)) (MF.u1 _ _ (by decide)), hX.tr (XF.u1 _ _ (by decide)), hM.tr (MF.u1 _ _ (by decide)), rfl, rfl, h85, hT.c rfl rfl rfl rfl (fun j hj => gU1_n _ _ _ _ (by omega)) (fun _ _ _ => rfl)⟩
      simp only [g0, hP.2.2.2.2.2.1, hm, g1, eq_false (show ¬ L ≤ p by omega), ↓reduceIte] at eI
      rw [hm] at m1 m2
      simp only [m1, m2, q, eq_self, i_add1, ↓reduceIte] at eI
      rcases numstep h' (by omega) hw hlt hB with ⟨X', M1, q', a1, a2, a3, a4, a5, a6, a7⟩ | ⟨X', M1, a1, a2, a3, a4, a5⟩
      · have r := ih (i + 1) fu fv X' _ q' (by omega) (by omega) (by omega) (by omega) (by omega) (by omega) a4 a5
        have ex : fX4_readItem_85 (fu + 1) X (nI w) (nI (fr w)) (nI (nn w)) (nI i) = fX4_readItem_85 fu X' (nI w) (nI (fr w)) (nI (nn w)) (nI (i + 1)) := by
          rw [fX4_readItem_85]
          simp only [gn, eS, kn_10, i_add, a1, i_add1, Option.bind_some, ↓reduceIte, km_1, km_2, km_3, km_4, km_5, km_6, km_7, kn_10, kn_20, kn_21]
        have em : fX9_item_40 (fv + 1) M (nI w) (nI i) = fX9_item_40 fv (gU3 M1 23 i (M1.1 27)) (nI w) (nI (i + 1)) := by
          rw [eI, a2]
          simp only [Option.bind_some, kn_10, ↓reduceIte, a3]
        rw [ex, em]
        rcases r with ⟨X2, M2, p2, n2, r1, r2, r3, r4, r5, r6⟩ | r
        · exact Or.inl ⟨X2, M2, p2, n2, r1, r2, r3, by omega, by omega, r6⟩
        · exact Or.inr r
      · have ex : fX4_readItem_85 (fu + 1) X (nI w) (nI (fr w)) (nI (nn w)) (nI i) = some (0, X') := by
          rw [fX4_readItem_85]
          simp only [gn, eS, kn_10, i_add, a1, eq_self, Option.bind_some, ↓reduceIte, km_1, km_2, km_3, km_4, km_5, km_6, km_7, kn_10, kn_20, kn_21]
        rcases a5 with ⟨b1, b2⟩ | ⟨b1, b2⟩
        · refine Or.inr ⟨X', M1, ex, ?_, p + 1, by omega, a2, b2, a3, a4⟩
          rw [eI, b1]
          simp only [Option.bind_some, eq_self, ↓reduceIte]
        · refine Or.inr ⟨X', gU1 M1 28 (nI (p + 1)), ex, ?_, p + 1, by omega, a2, rfl, a3, a4.tr (MF.u1 _ _ (by decide))⟩
          rw [eI, b1]
          simp only [Option.bind_some, kn_10, b2, eq_self, ↓reduceIte]
    · rw [if_neg q] at eS
      have ex : fX4_readItem_85 (fu + 1) X (nI w) (nI (fr w)) (nI (nn w)) (nI i) = some (0, gU1 X 85 (nI p)) := by
        rw [fX4_readItem_85]
        simp only [gn, eS, eq_self, Option.bind_some, ↓reduceIte, km_1, km_2, km_3, km_4, km_5, km_6, km_7, kn_10, kn_20, kn_21]
      refine Or.inr ⟨_, gU1 M 28 (nI p), ex, ?_, p, by omega, rfl, rfl, hX.tr (XF.u1 _ _ (by decide)), hM.tr (MF.u1 _ _ (by decide))⟩
      by_cases z : L ≤ p
      · rw [eI]
        simp only [g0, hP.2.2.2.2.2.1, hm, g1, eq_true z, ↓reduceIte]
      · obtain ⟨m1, m2⟩ := m_cell hP hm (show p < L by omega)
        rw [hm] at m1 m2
        rw [eI]
        simp only [g0, hP.2.2.2.2.2.1, hm, g1, eq_false z, m1, m2, eq_false q, ↓reduceIte]
theorem x_nf {k : Nat} (X : GS) (hk : k < 8) : fX4_numbersFrom X (nI k) = some (nI (fr k)) := by
  have g0 : (nI k < 0) = False := eq_false (nI_pos (by omega))
  have g1 : ((8 : Int32) ≤ nI k) = False := (nle_e (a := 8) (by omega) (by omega)).trans (eq_false (by omega))
  have e : gTb 5 k = nI (fr k) := (show ∀ k, k < 8 → gTb 5 k = nI (fr k) by decide +kernel) k hk
  simp only [fX4_numbersFrom, g0, g1, clm (show k < 2147483648 by omega), eq_false (show ¬ 8 ≤ k by omega), or_false, e, ↓reduceIte]
theorem rd_item {p n : Nat} (h : PI c s L X0 M0 X M p n) (hp2 : p < 70000) : OC c s L X0 M0 n p 40 (fX4_readItem X) (fX9_item M) := by
  obtain ⟨hP, hX, hM, hx, hm, h85, hT⟩ := id h
  have hL := hP.2.1
  have hn := hT.1
  rcases words hP hx hm (by omega) with ⟨w, hw, ea, e1, e2, e3, e4⟩ | ⟨r, a, hr, ha, ha6, e1, e2, e3, e4⟩
  · have hl := ln_r w hw
    have hnr := nn_r w hw
    have hw7 : (7 ≤ w) = False := eq_false (by omega)
    have gl : (nI (ln w) ≤ nI (ln w)) = True := eq_true (nI_le (Nat.le_refl _) (by omega))
    have gw : (nI w = (0 : Int32)) = (w = 0) := neq_e (b := 0) (by omega) (by omega)
    have gw1 : (nI w = (-1 : Int32)) = False := eq_false (fun z => by
      have := congrArg Int32.toInt z
      rw [tni _ (by omega), t_m1] at this
      omega)
    by_cases q : w = 0 ∧ n = 16
    · obtain ⟨q1, q2⟩ := q
      subst q1
      subst q2
      have eR : fX3_hasRoomFor_told X 1 = some 0 := by
        rw [fX3_hasRoomFor_told, hT.m.1, if_pos (by decide +kernel)]
      refine Or.inr ⟨gU1 X 85 (nI p), gU1 M 28 (nI p), ?_, ?_, p, by omega, rfl, rfl, hX.tr (XF.u1 _ _ (by decide)), hM.tr (MF.u1 _ _ (by decide))⟩
      · simp only [fX4_readItem, e1, e2, x_wo X hw, hw7, x_wlen X hw, gl, gw, eR, fX4_faultIs, hx, eq_self, true_or, not_true_eq_false, Option.bind_some, ↓reduceIte, km_1, km_2, km_3, km_4, km_5, km_6, km_7, kn_10, kn_20, kn_21]
      · have e16 : (M.1 0 = (16 : Int32)) = True := eq_true hT.m.2.1
        simp only [fX9_item, e3, kn_10, e16, fX9_wrong, hm, eq_self, true_or, not_true_eq_false, Option.bind_some, ↓reduceIte, km_1, km_2, km_3, km_4, km_5, km_6, km_7, kn_10, kn_20, kn_21]
    · have hr16 : w = 0 → n < 16 := fun z => by
        by_cases y : n = 16
        · exact absurd ⟨z, y⟩ q
        · omega
      have eX : fX4_readItem X = fX4_readItem_L57 X (nI w) (nI (ln w)) := by
        by_cases z : w = 0
        · have eR : fX3_hasRoomFor_told X 1 = some 1 := by
            have := hr16 z
            rw [fX3_hasRoomFor_told, hT.m.1, show (16 : Int32) = nI 16 from rfl, pk_sub (by omega), if_neg (show ¬ nI (16 - n) < (1 : Int32) from nI_nlt (a := 16 - n) (b := 1) (by omega) (by omega))]
          simp only [fX4_readItem, e1, e2, x_wo X hw, hw7, x_wlen X hw, gl, gw, eq_true z, eR, kn_10, Option.bind_some, ↓reduceIte, km_1, km_2, km_3, km_4, km_5, km_6, km_7, kn_10, kn_20, kn_21]
        · simp only [fX4_readItem, e1, e2, x_wo X hw, hw7, x_wlen X hw, gl, gw, eq_false z, Option.bind_some, ↓reduceIte, km_1, km_2, km_3, km_4, km_5, km_6, km_7, kn_10, kn_20, kn_21]
      have eM : fX9_item M = fX9_item_L26 M := by
        by_cases z : w = 0
        · have e16 : (M.1 0 = (16 : Int32)) = False := eq_false (fun y => by
            have h16 := hr16 z
            have y2 := hT.m.2.1.symm.trans y
            have y3 := congrArg Int32.toInt y2
            rw [tni _ (by omega), show (16 : Int32).toInt = 16 from rfl] at y3
            omega)
          rw [if_pos z] at e3
          simp only [fX9_item, e3, kn_10, e16, Option.bind_some, ↓reduceIte, km_1, km_2, km_3, km_4, km_5, km_6, km_7, kn_10, kn_20, kn_21]
        · rw [if_neg z] at e3
          simp only [fX9_item, e3, eq_self, Option.bind_some, ↓reduceIte, km_1, km_2, km_3, km_4, km_5, km_6, km_7, kn_10, kn_20, kn_21]
      have eN : nI (fr (w + 1)) - nI (fr w) = nI (nn w) := by
        rw [hnr.2.2.1, pk_sub (by omega)]
        congr 1
        omega
      have eX2 : fX4_readItem X = fX4_readItem_85 gFuel (gU1 X 84 (nI (p + ln w))) (nI w) (nI (fr w)) (nI (nn w)) 0 := by
        rw [eX]
        simp only [fX4_readItem_L57, hx, i_add, i_add1, x_nf _ (show w < 8 by omega), x_nf _ (show w + 1 < 8 by omega), eN, Option.bind_some, ↓reduceIte, km_1, km_2, km_3, km_4, km_5, km_6, km_7, kn_10, kn_20, kn_21]
      have hP1 : PC c s L (gU1 X 84 (nI (p + ln w))) M := hP.f (XF.u1 _ _ (by decide)) (MF.rf M)
      have eS := x_sign hP1 (p := p + ln w) rfl (by omega) 32
      have gn : (nI (nn w) ≤ (0 : Int32)) = False := (nle_e (b := 0) (by omega) (by omega)).trans (eq_false (by omega))
      have hgF : gFuel = 99999 + 1 := rfl
      rcases e4 with ⟨b1, b2⟩ | ⟨b1, b2⟩
      · rw [if_pos b1] at eS
        have h' : PI c s L X0 M0 (gU1 (gU1 X 84 (nI (p + ln w))) 84 (nI (p + ln w + 1))) (gU1 M 25 (nI (p + ln w + 1))) (p + ln w + 1) n := ⟨hP.f ((XF.u1 _ _ (by decide)).tr (XF.u1 _ _ (by decide))) (MF.u1 _ _ (by decide)), hX.tr ((XF.u1 _ _ (by decide)).tr (XF.u1 _ _ (by decide))), hM.tr (MF.u1 _ _ (by decide)), rfl, rfl, h85, hT.c rfl rfl rfl rfl (fun j hj => gU1_n _ _ _ _ (by omega)) (fun _ _ _ => rfl)⟩
        have eI := item_at h'.1 hw (show 0 < nn w by omega) 99999
        rw [show nI 0 = (0 : Int32) from rfl] at eI
        have g00 : ((0 : Int32) ≤ 0) = True := by decide +kernel
        simp only [g00, ↓reduceIte, gU1_s] at eI
        have eM2 : fX9_item M = fX9_item_40 (99999 + 1) (gU1 M 25 (nI (p + ln w + 1))) (nI w) 0 := by
          rw [eM, fX9_item_L26, b2]
          simp only [Option.bind_some, gw1, ↓reduceIte]
          rw [hgF]
        rcases numstep h' (by omega) hw (show 0 < nn w by omega) (fun j hj => absurd hj (by omega)) with ⟨X', M1, q', a1, a2, a3, a4, a5, a6, a7⟩ | ⟨X', M1, a1, a2, a3, a4, a5⟩
        · rw [show fr w + 0 = fr w from rfl, show nI 0 = (0 : Int32) from rfl] at a1
          rw [show nI 0 = (0 : Int32) from rfl] at a3
          have r := rd_l hw hr16 (nn w - 1) 1 99999 99999 X' _ q' rfl (by decide) (by omega) (by omega) (by omega) (by omega) a4 a5
          have ex : fX4_readItem X = fX4_readItem_85 99999 X' (nI w) (nI (fr w)) (nI (nn w)) (nI 1) := by
            rw [eX2, hgF, fX4_readItem_85]
            simp only [gn, eS, kn_10, Int32.add_zero, a1, Option.bind_some, ↓reduceIte, km_1, km_2, km_3, km_4, km_5, km_6, km_7, kn_10, kn_20, kn_21]
            rfl
          have em : fX9_item M = fX9_item_40 99999 (gU3 M1 23 0 (M1.1 27)) (nI w) (nI 1) := by
            rw [eM2, eI, a2]
            simp only [Option.bind_some, kn_10, ↓reduceIte, a3]
          rw [ex, em]
          rcases r with ⟨X2, M2, p2, n2, r1, r2, r3, r4, r5, r6⟩ | r
          · exact Or.inl ⟨X2, M2, p2, n2, r1, r2, r3, by omega, by omega, r6⟩
          · exact Or.inr r
        · rw [show fr w + 0 = fr w from rfl, show nI 0 = (0 : Int32) from rfl] at a1
          have ex : fX4_readItem X = some (0, X') := by
            rw [eX2, hgF, fX4_readItem_85]
            simp only [gn, eS, kn_10, Int32.add_zero, a1, eq_self, Option.bind_some, ↓reduceIte, km_1, km_2, km_3, km_4, km_5, km_6, km_7, kn_10, kn_20, kn_21]
          rcases a5 with ⟨d1, d2⟩ | ⟨d1, d2⟩
          · refine Or.inr ⟨X', M1, ex, ?_, p + ln w + 1, by omega, a2, d2, a3, a4⟩
            rw [eM2, eI, d1]
            simp only [Option.bind_some, eq_self, ↓reduceIte]
          · rw [show nI 0 = (0 : Int32) from rfl] at d2
            refine Or.inr ⟨X', gU1 M1 28 (nI (p + ln w + 1)), ex, ?_, p + ln w + 1, by omega, a2, rfl, a3, a4.tr (MF.u1 _ _ (by decide))⟩
            rw [eM2, eI, d1]
            simp only [Option.bind_some, kn_10, d2, eq_self, ↓reduceIte]
      · rw [if_neg b1] at eS
        refine Or.inr ⟨gU1 (gU1 X 84 (nI (p + ln w))) 85 (nI (p + ln w)), gU1 M 28 (nI (p + ln w)), ?_, ?_, p + ln w, by omega, rfl, rfl, hX.tr ((XF.u1 _ _ (by decide)).tr (XF.u1 _ _ (by decide))), hM.tr (MF.u1 _ _ (by decide))⟩
        · rw [eX2, hgF, fX4_readItem_85]
          simp only [gn, eS, eq_self, Option.bind_some, ↓reduceIte, km_1, km_2, km_3, km_4, km_5, km_6, km_7, kn_10, kn_20, kn_21]
        · rw [eM, fX9_item_L26, b2]
          simp only [Option.bind_some, eq_self, ↓reduceIte]
  · have hl := ln_r r hr
    have hw7 : (7 ≤ r) = False := eq_false (by omega)
    have gl : (nI (ln r) ≤ nI a) = False := (nle_e (by omega) (by omega)).trans (eq_false (by omega))
    refine Or.inr ⟨gU1 X 85 (nI (p + a)), gU1 M 28 (nI (p + a)), ?_, ?_, p + a, by omega, rfl, rfl, hX.tr (XF.u1 _ _ (by decide)), hM.tr (MF.u1 _ _ (by decide))⟩
    · simp only [fX4_readItem, e1, e2, x_wo X hr, hw7, x_wlen X hr, gl, fX4_faultIs, hx, i_add, eq_self, true_or, not_true_eq_false, Option.bind_some, ↓reduceIte, km_1, km_2, km_3, km_4, km_5, km_6, km_7, kn_10, kn_20, kn_21]
    · simp only [fX9_item, e3, fX9_item_L26, e4, eq_self, Option.bind_some, ↓reduceIte, km_1, km_2, km_3, km_4, km_5, km_6, km_7, kn_10, kn_20, kn_21]
theorem rd_loop : ∀ (d k fu fv : Nat) (X M : GS) (p n : Nat), L + 1 - k = d → k ≤ p → p ≤ L → d + 2 < fu → d + 2 < fv → PI c s L X0 M0 X M p n →
    ∃ X' M' m, fX4_readOver_now_shelves_73 fu X (nI k) 1 = some (nI m, X') ∧ ((∃ n', (fX9_item M).bind (fun u => fX9_loop_62 fv u.2 (nI (k + 1)) u.1) = some (nI m, 1, M') ∧ X'.1 85 = -1 ∧ XF X0 X' ∧ MF M0 M' ∧ TL X' M' n' ∧ n ≤ n') ∨ (∃ m2, (fX9_item M).bind (fun u => fX9_loop_62 fv u.2 (nI (k + 1)) u.1) = some (m2, 0, M') ∧ FL X0 M0 X' M')) := by
  intro d
  induction d with
  | zero => exact fun k fu fv X M p n hd h1 h2 _ _ _ => absurd hd (by omega)
  | succ d ih =>
    intro k fu fv X M p n hd h1 h2 hf hg h
    obtain ⟨fu, rfl⟩ : ∃ q, fu = q + 1 + 1 := ⟨fu - 2, by omega⟩
    obtain ⟨fv, rfl⟩ : ∃ q, fv = q + 1 + 1 := ⟨fv - 2, by omega⟩
    have hL := h.1.2.1
    have g1 : (nI L < nI k) = False := (nlt_e (by omega) (by omega)).trans (eq_false (by omega))
    rcases rd_item h (by omega) with ⟨X1, M1, p1, n1, a1, a2, a3, a4, a5, a6⟩ | ⟨X1, M1, a1, a2, a3⟩
    · obtain ⟨hP, hX, hM, hx, hm, h85, hT⟩ := id a3
      have g2 : (nI L ≤ nI p1) = (L ≤ p1) := nle_e (by omega) (by omega)
      by_cases q : L ≤ p1
      · refine ⟨X1, M1, k + 1, ?_, Or.inl ⟨n1, ?_, h85, hX, hM, hT, a6⟩⟩
        · rw [fX4_readOver_now_shelves_73]
          simp only [kn_10, h.1.2.2.1, g1, a1, hP.2.2.1, hx, g2, eq_true q, i_add1, Option.bind_some, ↓reduceIte, km_1, km_2, km_3, km_4, km_5, km_6, km_7, kn_10, kn_20, kn_21]
          rw [fX4_readOver_now_shelves_73, if_pos rfl]
        · rw [a2]
          simp only [Option.bind_some]
          rw [fX9_loop_62]
          simp only [kn_10, hP.2.2.2.2.2.1, hm, g2, eq_true q, Option.bind_some, ↓reduceIte, km_1, km_2, km_3, km_4, km_5, km_6, km_7, kn_10, kn_20, kn_21]
      · obtain ⟨m1, m2⟩ := m_cell hP hm (show p1 < L by omega)
        rw [hm] at m1 m2
        have eS := x_sign hP hx (by omega) 59
        by_cases z : ltr c L p1 = 59
        · rw [if_pos z] at eS
          have h' : PI c s L X0 M0 (gU1 X1 84 (nI (p1 + 1))) (gU1 M1 25 (nI (p1 + 1))) (p1 + 1) n1 := ⟨hP.f (XF.u1 _ _ (by decide)) (MF.u1 _ _ (by decide)), hX.tr (XF.u1 _ _ (by decide)), hM.tr (MF.u1 _ _ (by decide)), rfl, rfl, h85, hT.c rfl rfl rfl rfl (fun j hj => gU1_n _ _ _ _ (by omega)) (fun _ _ _ => rfl)⟩
          obtain ⟨X', M', m, r1, r2⟩ := ih (k + 1) (fu + 1) (fv + 1) _ _ (p1 + 1) n1 (by omega) (by omega) (by omega) (by omega) (by omega) h'
          have em : (fX9_item M).bind (fun u => fX9_loop_62 (fv + 1 + 1) u.2 (nI (k + 1)) u.1) = (fX9_item (gU1 M1 25 (nI (p1 + 1)))).bind (fun u => fX9_loop_62 (fv + 1) u.2 (nI (k + 1 + 1)) u.1) := by
            rw [a2]
            simp only [Option.bind_some]
            rw [fX9_loop_62]
            simp only [kn_10, hP.2.2.2.2.2.1, hm, g2, eq_false q, m1, m2, z, eq_self, i_add1, Option.bind_some, ↓reduceIte, km_1, km_2, km_3, km_4, km_5, km_6, km_7, kn_10, kn_20, kn_21]
          refine ⟨X', M', m, ?_, ?_⟩
          · rw [fX4_readOver_now_shelves_73]
            simp only [kn_10, h.1.2.2.1, g1, a1, hP.2.2.1, hx, g2, eq_false q, eS, i_add1, Option.bind_some, ↓reduceIte, km_1, km_2, km_3, km_4, km_5, km_6, km_7, kn_10, kn_20, kn_21]
            exact r1
          · rw [em]
            rcases r2 with ⟨n', b1, b2, b3, b4, b5, b6⟩ | r2
            · exact Or.inl ⟨n', b1, b2, b3, b4, b5, by omega⟩
            · exact Or.inr r2
        · rw [if_neg z] at eS
          refine ⟨gU1 X1 85 (nI p1), gU1 M1 28 (nI p1), k + 1, ?_, Or.inr ⟨nI (k + 1), ?_, p1, by omega, rfl, rfl, hX.tr (XF.u1 _ _ (by decide)), hM.tr (MF.u1 _ _ (by decide))⟩⟩
          · rw [fX4_readOver_now_shelves_73]
            simp only [kn_10, h.1.2.2.1, g1, a1, hP.2.2.1, hx, g2, eq_false q, eS, eq_self, i_add1, Option.bind_some, ↓reduceIte, km_1, km_2, km_3, km_4, km_5, km_6, km_7, kn_10, kn_20, kn_21]
            rw [fX4_readOver_now_shelves_73, if_pos rfl]
          · rw [a2]
            simp only [Option.bind_some]
            rw [fX9_loop_62]
            simp only [kn_10, hP.2.2.2.2.2.1, hm, g2, eq_false q, m1, m2, eq_false z, fX9_wrong, Option.bind_some, ↓reduceIte, km_1, km_2, km_3, km_4, km_5, km_6, km_7, kn_10, kn_20, kn_21]
            rw [fX9_loop_62, if_pos rfl]
    · refine ⟨X1, M1, k + 1, ?_, Or.inr ⟨nI (k + 1), ?_, a3⟩⟩
      · rw [fX4_readOver_now_shelves_73]
        simp only [kn_10, h.1.2.2.1, g1, a1, eq_self, i_add1, Option.bind_some, ↓reduceIte, km_1, km_2, km_3, km_4, km_5, km_6, km_7, kn_10, kn_20, kn_21]
        rw [fX4_readOver_now_shelves_73, if_pos rfl]
      · rw [a2]
        simp only [Option.bind_some]
        rw [fX9_loop_62, if_pos rfl]
end READ
