/-! turn -/
def FX (X X' : GS) : Prop := X'.1 = X.1 ∧ X'.2.1 = X.2.1 ∧ X'.2.2.2 = X.2.2.2 ∧ ∀ k, k ≠ 0 → X'.2.2.1 k = X.2.2.1 k
theorem FX.rf (X : GS) : FX X X := ⟨rfl, rfl, rfl, fun _ _ => rfl⟩
theorem FX.tr {X Y Z : GS} (h : FX X Y) (g : FX Y Z) : FX X Z := ⟨g.1.trans h.1, g.2.1.trans h.2.1, g.2.2.1.trans h.2.2.1, fun k hk => (g.2.2.2 k hk).trans (h.2.2.2 k hk)⟩
theorem FX.u (X : GS) (i : Nat) (v : Int32) : FX X (gU3 X 0 i v) := ⟨rfl, rfl, rfl, fun k hk => gU3_n _ _ _ _ _ hk⟩
theorem x_exch (X : GS) {a b c e : Nat} (ha : a < 16) (hb : b < 16) (hc : c < 8) (he : e < 8) : fX3_exchange_now X (nI a) (nI c) (nI b) (nI e) = some (gU3 (gU3 X 0 (8 * a + c) (X.2.2.1 0 (8 * b + e))) 0 (8 * b + e) (X.2.2.1 0 (8 * a + c))) := by
  simp only [fX3_exchange_now, x_get X ha hc, x_get X hb he, x_put _ ha hc, x_put _ hb he, Option.bind_some]
def sw (l r i : Nat) : Nat := if i = l then r else if i = r then l else i
theorem turn16 {n l r : Nat} (hn : n ≤ 16) (hl : l < n) (hlr : l ≠ r) (hr : r + l + 1 = n) : ∀ (d c fu : Nat) (X : GS), 8 - c = d → c ≤ 8 → d < fu → X.1 2 = nI n → ∃ X', fX3_goOtherWay_now_16 fu X (nI l) (nI c) = some X' ∧ FX X X' ∧ ∀ i e, i < 16 → e < 8 → X'.2.2.1 0 (8 * i + e) = if c ≤ e then X.2.2.1 0 (8 * sw l r i + e) else X.2.2.1 0 (8 * i + e) := by
  intro d
  induction d with
  | zero =>
    intro c fu X hd hc hf h2
    obtain ⟨fu, rfl⟩ : ∃ q, fu = q + 1 := ⟨fu - 1, by omega⟩
    have e : c = 8 := by omega
    subst e
    exact ⟨X, rfl, FX.rf X, fun i e hi he => by rw [if_neg (by omega)]⟩
  | succ d ih =>
    intro c fu X hd hc hf h2
    obtain ⟨fu, rfl⟩ : ∃ q, fu = q + 1 := ⟨fu - 1, by omega⟩
    have g8 : ((8 : Int32) ≤ nI c) = False := (nle_e (a := 8) (by omega) (by omega)).trans (eq_false (by omega))
    have er : nI n - 1 - nI l = nI r := by
      rw [show (1 : Int32) = nI 1 from rfl, pk_sub (by omega), pk_sub (by omega)]
      congr 1
      omega
    have ex := x_exch X (a := l) (b := r) (c := c) (e := c) (by omega) (by omega) (by omega) (by omega)
    obtain ⟨X', f1, f2, f3⟩ := ih (c + 1) fu (gU3 (gU3 X 0 (8 * l + c) (X.2.2.1 0 (8 * r + c))) 0 (8 * r + c) (X.2.2.1 0 (8 * l + c))) (by omega) (by omega) (by omega) h2
    refine ⟨X', ?_, ((FX.u X _ _).tr (FX.u _ _ _)).tr f2, fun i e hi he => ?_⟩
    · rw [fX3_goOtherWay_now_16]
      simp only [g8, h2, er, ex, i_add1, Option.bind_some, ↓reduceIte, km_1, km_2, km_3, km_4, km_5, km_6, km_7, kn_10, kn_20, kn_21]
      exact f1
    · rw [f3 i e hi he]
      by_cases h1 : c + 1 ≤ e
      · rw [if_pos h1, if_pos (by omega)]
        simp only [gU3_s, upd_i]
        rw [if_neg (by omega), if_neg (by omega)]
      · rw [if_neg h1]
        by_cases h3 : c = e
        · subst h3
          rw [if_pos (Nat.le_refl c)]
          simp only [gU3_s, upd_i, sw]
          by_cases q1 : i = l
          · subst q1
            rw [if_neg (by omega), if_pos rfl, if_pos rfl]
          · by_cases q2 : i = r
            · subst q2
              rw [if_pos rfl, if_neg q1, if_pos rfl]
            · rw [if_neg (by omega), if_neg (by omega), if_neg q1, if_neg q2]
        · rw [if_neg (by omega)]
          simp only [gU3_s, upd_i]
          rw [if_neg (by omega), if_neg (by omega)]
theorem turn2 {n : Nat} (hn : n ≤ 16) (h0 : 0 < n) : ∀ (d l fu : Nat) (X : GS), n / 2 - l = d → l ≤ n / 2 → d < fu → X.1 2 = nI n → ∃ X', fX3_goOtherWay_now_2 fu X (nI l) = some X' ∧ FX X X' ∧ ∀ i e, i < n → e < 8 → X'.2.2.1 0 (8 * i + e) = if l ≤ i ∧ i < n - l then X.2.2.1 0 (8 * (n - 1 - i) + e) else X.2.2.1 0 (8 * i + e) := by
  intro d
  induction d with
  | zero =>
    intro l fu X hd hl hf h2
    obtain ⟨fu, rfl⟩ : ∃ q, fu = q + 1 := ⟨fu - 1, by omega⟩
    have er : nI n - 1 - nI l = nI (n - 1 - l) := by rw [show (1 : Int32) = nI 1 from rfl, pk_sub (by omega), pk_sub (by omega)]
    have g : (nI (n - 1 - l) ≤ nI l) = True := (nle_e (by omega) (by omega)).trans (eq_true (by omega))
    refine ⟨X, ?_, FX.rf X, fun i e hi he => ?_⟩
    · rw [fX3_goOtherWay_now_2]
      simp only [h2, er, g, Option.bind_some, ↓reduceIte, km_1, km_2, km_3, km_4, km_5, km_6, km_7, kn_10, kn_20, kn_21]
    · by_cases q : l ≤ i ∧ i < n - l
      · rw [if_pos q, show n - 1 - i = i by omega]
      · rw [if_neg q]
  | succ d ih =>
    intro l fu X hd hl hf h2
    obtain ⟨fu, rfl⟩ : ∃ q, fu = q + 1 := ⟨fu - 1, by omega⟩
    have er : nI n - 1 - nI l = nI (n - 1 - l) := by rw [show (1 : Int32) = nI 1 from rfl, pk_sub (by omega), pk_sub (by omega)]
    have g : (nI (n - 1 - l) ≤ nI l) = False := (nle_e (by omega) (by omega)).trans (eq_false (by omega))
    obtain ⟨X1, a1, a2, a3⟩ := turn16 hn (l := l) (r := n - 1 - l) (by omega) (by omega) (by omega) 8 0 gFuel X rfl (by omega) (gFu _ (by omega)) h2
    obtain ⟨X', f1, f2, f3⟩ := ih (l + 1) fu X1 (by omega) (by omega) (by omega) (by rw [a2.1]; exact h2)
    rw [show nI 0 = (0 : Int32) from rfl] at a1
    refine ⟨X', ?_, a2.tr f2, fun i e hi he => ?_⟩
    · rw [fX3_goOtherWay_now_2]
      simp only [h2, er, g, a1, i_add1, Option.bind_some, ↓reduceIte, km_1, km_2, km_3, km_4, km_5, km_6, km_7, kn_10, kn_20, kn_21]
      exact f1
    · rw [f3 i e hi he, a3 i e (by omega) he, a3 (n - 1 - i) e (by omega) he, if_pos (Nat.zero_le e), if_pos (Nat.zero_le e)]
      unfold sw
      by_cases q1 : i = l
      · have f1 : ¬ (l + 1 ≤ i ∧ i < n - (l + 1)) := by omega
        have f2 : l ≤ i ∧ i < n - l := by omega
        rw [if_neg f1, if_pos q1, if_pos f2, q1]
      · by_cases q2 : i = n - 1 - l
        · have f1 : ¬ (l + 1 ≤ i ∧ i < n - (l + 1)) := by omega
          have f2 : l ≤ i ∧ i < n - l := by omega
          rw [if_neg f1, if_neg q1, if_pos q2, if_pos f2, show n - 1 - i = l by omega]
        · by_cases q3 : l + 1 ≤ i ∧ i < n - (l + 1)
          · have f2 : l ≤ i ∧ i < n - l := by omega
            have f3 : ¬ n - 1 - i = l := by omega
            have f4 : ¬ n - 1 - i = n - 1 - l := by omega
            rw [if_pos q3, if_pos f2, if_neg f3, if_neg f4]
          · have f2 : ¬ (l ≤ i ∧ i < n - l) := by omega
            rw [if_neg q3, if_neg q1, if_neg q2, if_neg f2]
def tw (f : Nat → Int32) (i c : Nat) : Int32 := if c = 2 then f (8 * i + 3) else if c = 3 then f (8 * i + 2) else if c = 4 then f (8 * i + 5) else if c = 5 then f (8 * i + 4) else if c = 7 then 1 - f (8 * i + 7) else f (8 * i + c)
theorem turn51 {n : Nat} (hn : n ≤ 16) : ∀ (d i fu : Nat) (X : GS), n - i = d → i ≤ n → d < fu → X.1 2 = nI n → ∃ X', fX3_goOtherWay_now_51 fu X (nI i) = some X' ∧ FX X X' ∧ ∀ j e, j < n → e < 8 → X'.2.2.1 0 (8 * j + e) = if i ≤ j then tw (X.2.2.1 0) j e else X.2.2.1 0 (8 * j + e) := by
  intro d
  induction d with
  | zero =>
    intro i fu X hd hi hf h2
    obtain ⟨fu, rfl⟩ : ∃ q, fu = q + 1 := ⟨fu - 1, by omega⟩
    have e : i = n := by omega
    subst e
    refine ⟨X, ?_, FX.rf X, fun j e hj he => by rw [if_neg (by omega)]⟩
    rw [fX3_goOtherWay_now_51, h2, if_pos (nI_le (Nat.le_refl _) (by omega))]
  | succ d ih =>
    intro i fu X hd hi hf h2
    obtain ⟨fu, rfl⟩ : ∃ q, fu = q + 1 := ⟨fu - 1, by omega⟩
    have hi16 : i < 16 := by omega
    have hlt : ¬ nI n ≤ nI i := nI_ge (show i < n by omega) (by omega)
    let X1 : GS := gU3 (gU3 X 0 (8 * i + 2) (X.2.2.1 0 (8 * i + 3))) 0 (8 * i + 3) (X.2.2.1 0 (8 * i + 2))
    let X2 : GS := gU3 (gU3 X1 0 (8 * i + 4) (X1.2.2.1 0 (8 * i + 5))) 0 (8 * i + 5) (X1.2.2.1 0 (8 * i + 4))
    let X3 : GS := gU3 X2 0 (8 * i + 7) (1 - X2.2.2.1 0 (8 * i + 7))
    have e1 : fX3_exchange_now X (nI i) 2 (nI i) 3 = some X1 := x_exch X (c := 2) (e := 3) hi16 hi16 (by decide) (by decide)
    have e2 : fX3_exchange_now X1 (nI i) 4 (nI i) 5 = some X2 := x_exch X1 (c := 4) (e := 5) hi16 hi16 (by decide) (by decide)
    have e3 : fX3_get_now X2 (nI i) 7 = some (X2.2.2.1 0 (8 * i + 7)) := x_get X2 (c := 7) hi16 (by decide)
    have e4 : fX3_put_now X2 (nI i) 7 (1 - X2.2.2.1 0 (8 * i + 7)) = some X3 := xp7 X2 hi16 _
    have hF : FX X X3 := ((((FX.u X _ _).tr (FX.u _ _ _)).tr (FX.u _ _ _)).tr (FX.u _ _ _)).tr (FX.u _ _ _)
    have p : ∀ j e, e < 8 → X3.2.2.1 0 (8 * j + e) = if j = i then tw (X.2.2.1 0) i e else X.2.2.1 0 (8 * j + e) := by
      intro j e he
      show (gU3 X2 0 (8 * i + 7) (1 - X2.2.2.1 0 (8 * i + 7))).2.2.1 0 (8 * j + e) = _
      by_cases q : j = i
      · subst q
        rw [if_pos rfl]
        rcases (show e = 0 ∨ e = 1 ∨ e = 2 ∨ e = 3 ∨ e = 4 ∨ e = 5 ∨ e = 6 ∨ e = 7 by omega) with rfl | rfl | rfl | rfl | rfl | rfl | rfl | rfl <;> simp (disch := omega) only [X2, X1, gU3_s, upd_i, if_no, ↓reduceIte, tw]
      · rw [if_neg q]
        simp (disch := omega) only [X2, X1, gU3_s, upd_i, if_no]
    obtain ⟨X', f1, f2, f3⟩ := ih (i + 1) fu X3 (by omega) (by omega) (by omega) (by rw [hF.1]; exact h2)
    refine ⟨X', ?_, hF.tr f2, fun j e hj he => ?_⟩
    · rw [fX3_goOtherWay_now_51, h2, if_neg hlt, e1]
      simp only [Option.bind_some, e2, e3, e4, i_add1]
      exact f1
    · rw [f3 j e hj he]
      by_cases q : i + 1 ≤ j
      · rw [if_pos q, if_pos (by omega)]
        have q' : ¬ j = i := by omega
        unfold tw
        rw [p j 2 (by decide), p j 3 (by decide), p j 4 (by decide), p j 5 (by decide), p j 7 (by decide), p j e he]
        simp only [eq_false q', ↓reduceIte]
      · rw [if_neg q, p j e he]
        by_cases q2 : j = i
        · rw [if_pos q2, if_pos (by omega), q2]
        · rw [if_neg q2, if_neg (by omega)]
theorem x_turn {n : Nat} {X : GS} (hn : n ≤ 16) (h2 : X.1 2 = nI n) : ∃ X', fX3_goOtherWay_now X = some X' ∧ FX X X' ∧ ∀ j e, j < n → e < 8 → X'.2.2.1 0 (8 * j + e) = tw (X.2.2.1 0) (n - 1 - j) e := by
  by_cases h0 : n = 0
  · subst h0
    obtain ⟨X', b1, b2, b3⟩ := turn51 hn 0 0 gFuel X rfl (by omega) (gFu _ (by omega)) h2
    refine ⟨X', ?_, b2, fun j e hj _ => absurd hj (by omega)⟩
    have g : (nI 0 - 1 - 0 ≤ (0 : Int32)) = True := by decide +kernel
    have e : fX3_goOtherWay_now_2 gFuel X 0 = some X := by
      rw [show gFuel = 99999 + 1 from rfl, fX3_goOtherWay_now_2]
      simp only [h2, g, Option.bind_some, ↓reduceIte, km_1, km_2, km_3, km_4, km_5, km_6, km_7, kn_10, kn_20, kn_21]
    rw [fX3_goOtherWay_now, e]
    exact (congrArg (fun z => Option.bind z _) b1).trans rfl
  · obtain ⟨X1, a1, a2, a3⟩ := turn2 hn (by omega) (n / 2) 0 gFuel X (by omega) (by omega) (gFu _ (by omega)) h2
    obtain ⟨X', b1, b2, b3⟩ := turn51 hn n 0 gFuel X1 (by omega) (by omega) (gFu _ (by omega)) (by rw [a2.1]; exact h2)
    refine ⟨X', ?_, a2.tr b2, fun j e hj he => ?_⟩
    · rw [show nI 0 = (0 : Int32) from rfl] at a1 b1
      rw [fX3_goOtherWay_now, a1]
      exact (congrArg (fun z => Option.bind z _) b1).trans rfl
    · rw [b3 j e hj he, if_pos (Nat.zero_le j)]
      have p : ∀ e, e < 8 → X1.2.2.1 0 (8 * j + e) = X.2.2.1 0 (8 * (n - 1 - j) + e) := fun e he => by
        rw [a3 j e hj he, if_pos (by omega)]
      unfold tw
      rw [p 2 (by decide), p 3 (by decide), p 4 (by decide), p 5 (by decide), p 7 (by decide), p e he]
def FM (a b : Nat) (M M' : GS) : Prop := M'.1 = M.1 ∧ M'.2.1 = M.2.1 ∧ M'.2.2.2 = M.2.2.2 ∧ ∀ k, k ≠ a → k ≠ b → M'.2.2.1 k = M.2.2.1 k
theorem FM.rf (a b : Nat) (X : GS) : FM a b X X := ⟨rfl, rfl, rfl, fun _ _ _ => rfl⟩
theorem FM.tr {a b : Nat} {X Y Z : GS} (h : FM a b X Y) (g : FM a b Y Z) : FM a b X Z := ⟨g.1.trans h.1, g.2.1.trans h.2.1, g.2.2.1.trans h.2.2.1, fun k hk hj => (g.2.2.2 k hk hj).trans (h.2.2.2 k hk hj)⟩
theorem FM.u1 (a b : Nat) (X : GS) (i : Nat) (v : Int32) : FM a b X (gU3 X a i v) := ⟨rfl, rfl, rfl, fun k hk _ => gU3_n _ _ _ _ _ hk⟩
theorem FM.u2 (a b : Nat) (X : GS) (i : Nat) (v : Int32) : FM a b X (gU3 X b i v) := ⟨rfl, rfl, rfl, fun k _ hk => gU3_n _ _ _ _ _ hk⟩
theorem m_turnA_7 {n : Nat} (hn : n ≤ 16) : ∀ (d i fu : Nat) (M : GS), n - i = d → i ≤ n → d < fu → M.1 0 = nI n → ∃ M', fX9_turns_7_2 fu M (nI i) = some M' ∧ FM 31 31 M M' ∧ ∀ j, j < n → M'.2.2.1 31 j = if i ≤ j then M.2.2.1 7 (n - 1 - j) else M.2.2.1 31 j := by
  intro d
  induction d with
  | zero =>
    intro i fu M hd hi hf h0
    obtain ⟨fu, rfl⟩ : ∃ q, fu = q + 1 := ⟨fu - 1, by omega⟩
    have e : i = n := by omega
    subst e
    refine ⟨M, ?_, FM.rf _ _ M, fun j hj => by rw [if_neg (by omega)]⟩
    rw [fX9_turns_7_2, h0, if_pos (nI_le (Nat.le_refl _) (by omega))]
  | succ d ih =>
    intro i fu M hd hi hf h0
    obtain ⟨fu, rfl⟩ : ∃ q, fu = q + 1 := ⟨fu - 1, by omega⟩
    have hi16 : i < 16 := by omega
    have hlt : ¬ nI n ≤ nI i := nI_ge (show i < n by omega) (by omega)
    have hr16 : n - 1 - i < 16 := by omega
    have er : nI n - 1 - nI i = nI (n - 1 - i) := by rw [show (1 : Int32) = nI 1 from rfl, pk_sub (by omega), pk_sub (by omega)]
    obtain ⟨M', f1, f2, f3⟩ := ih (i + 1) fu (gU3 M 31 i (M.2.2.1 7 (n - 1 - i))) (by omega) (by omega) (by omega) h0
    refine ⟨M', ?_, (FM.u1 _ _ _ _ _).tr f2, fun j hj => ?_⟩
    · rw [fX9_turns_7_2, h0, if_neg hlt]
      simp only [er, in16 hi16, cl16 hi16, in16 hr16, cl16 hr16, i_add1, Option.bind_some, ↓reduceIte, km_1, km_2, km_3, km_4, km_5, km_6, km_7, kn_10, kn_20, kn_21]
      exact f1
    · rw [f3 j hj, gU3_n _ _ _ _ _ (by decide), gU3_s, upd_i]
      by_cases q : i + 1 ≤ j
      · rw [if_pos q, if_pos (by omega)]
      · rw [if_neg q]
        by_cases q2 : j = i
        · rw [if_pos q2, if_pos (by omega), q2]
        · rw [if_neg q2, if_neg (by omega)]
theorem m_turnB_7 {n : Nat} (hn : n ≤ 16) : ∀ (d i fu : Nat) (M : GS), n - i = d → i ≤ n → d < fu → M.1 0 = nI n → ∃ M', fX9_turns_7_34 fu M (nI i) = some M' ∧ FM 7 7 M M' ∧ ∀ j, j < n → M'.2.2.1 7 j = if i ≤ j then M.2.2.1 31 j else M.2.2.1 7 j := by
  intro d
  induction d with
  | zero =>
    intro i fu M hd hi hf h0
    obtain ⟨fu, rfl⟩ : ∃ q, fu = q + 1 := ⟨fu - 1, by omega⟩
    have e : i = n := by omega
    subst e
    refine ⟨M, ?_, FM.rf _ _ M, fun j hj => by rw [if_neg (by omega)]⟩
    rw [fX9_turns_7_34, h0, if_pos (nI_le (Nat.le_refl _) (by omega))]
  | succ d ih =>
    intro i fu M hd hi hf h0
    obtain ⟨fu, rfl⟩ : ∃ q, fu = q + 1 := ⟨fu - 1, by omega⟩
    have hi16 : i < 16 := by omega
    have hlt : ¬ nI n ≤ nI i := nI_ge (show i < n by omega) (by omega)
    obtain ⟨M', f1, f2, f3⟩ := ih (i + 1) fu (gU3 M 7 i (M.2.2.1 31 i)) (by omega) (by omega) (by omega) h0
    refine ⟨M', ?_, (FM.u1 _ _ _ _ _).tr f2, fun j hj => ?_⟩
    · rw [fX9_turns_7_34, h0, if_neg hlt]
      simp only [in16 hi16, cl16 hi16, i_add1, Option.bind_some, ↓reduceIte, km_1, km_2, km_3, km_4, km_5, km_6, km_7, kn_10, kn_20, kn_21]
      exact f1
    · rw [f3 j hj, gU3_n _ _ _ _ _ (by decide), gU3_s, upd_i]
      by_cases q : i + 1 ≤ j
      · rw [if_pos q, if_pos (by omega)]
      · rw [if_neg q]
        by_cases q2 : j = i
        · rw [if_pos q2, if_pos (by omega), q2]
        · rw [if_neg q2, if_neg (by omega)]
theorem m_turn_7 {n : Nat} (hn : n ≤ 16) {M : GS} (h0 : M.1 0 = nI n) : ∃ M', fX9_turns_7 M = some M' ∧ FM 7 31 M M' ∧ ∀ j, j < n → M'.2.2.1 7 j = M.2.2.1 7 (n - 1 - j) := by
  obtain ⟨M1, a1, a2, a3⟩ := m_turnA_7 hn n 0 gFuel M (by omega) (by omega) (gFu _ (by omega)) h0
  obtain ⟨M', b1, b2, b3⟩ := m_turnB_7 hn n 0 gFuel M1 (by omega) (by omega) (gFu _ (by omega)) (by rw [a2.1]; exact h0)
  rw [show nI 0 = (0 : Int32) from rfl] at a1 b1
  refine ⟨M', ?_, ⟨b2.1.trans a2.1, b2.2.1.trans a2.2.1, b2.2.2.1.trans a2.2.2.1, fun k h1 h2 => (b2.2.2.2 k h1 h1).trans (a2.2.2.2 k h2 h2)⟩, fun j hj => ?_⟩
  · rw [fX9_turns_7, a1]
    exact (congrArg (fun z => Option.bind z _) b1).trans rfl
  · rw [b3 j hj, if_pos (Nat.zero_le j), a3 j hj, if_pos (Nat.zero_le j)]
theorem m_turnA_8 {n : Nat} (hn : n ≤ 16) : ∀ (d i fu : Nat) (M : GS), n - i = d → i ≤ n → d < fu → M.1 0 = nI n → ∃ M', fX9_turns_8_2 fu M (nI i) = some M' ∧ FM 31 31 M M' ∧ ∀ j, j < n → M'.2.2.1 31 j = if i ≤ j then M.2.2.1 8 (n - 1 - j) else M.2.2.1 31 j := by
  intro d
  induction d with
  | zero =>
    intro i fu M hd hi hf h0
    obtain ⟨fu, rfl⟩ : ∃ q, fu = q + 1 := ⟨fu - 1, by omega⟩
    have e : i = n := by omega
    subst e
    refine ⟨M, ?_, FM.rf _ _ M, fun j hj => by rw [if_neg (by omega)]⟩
    rw [fX9_turns_8_2, h0, if_pos (nI_le (Nat.le_refl _) (by omega))]
  | succ d ih =>
    intro i fu M hd hi hf h0
    obtain ⟨fu, rfl⟩ : ∃ q, fu = q + 1 := ⟨fu - 1, by omega⟩
    have hi16 : i < 16 := by omega
    have hlt : ¬ nI n ≤ nI i := nI_ge (show i < n by omega) (by omega)
    have hr16 : n - 1 - i < 16 := by omega
    have er : nI n - 1 - nI i = nI (n - 1 - i) := by rw [show (1 : Int32) = nI 1 from rfl, pk_sub (by omega), pk_sub (by omega)]
    obtain ⟨M', f1, f2, f3⟩ := ih (i + 1) fu (gU3 M 31 i (M.2.2.1 8 (n - 1 - i))) (by omega) (by omega) (by omega) h0
    refine ⟨M', ?_, (FM.u1 _ _ _ _ _).tr f2, fun j hj => ?_⟩
    · rw [fX9_turns_8_2, h0, if_neg hlt]
      simp only [er, in16 hi16, cl16 hi16, in16 hr16, cl16 hr16, i_add1, Option.bind_some, ↓reduceIte, km_1, km_2, km_3, km_4, km_5, km_6, km_7, kn_10, kn_20, kn_21]
      exact f1
    · rw [f3 j hj, gU3_n _ _ _ _ _ (by decide), gU3_s, upd_i]
      by_cases q : i + 1 ≤ j
      · rw [if_pos q, if_pos (by omega)]
      · rw [if_neg q]
        by_cases q2 : j = i
        · rw [if_pos q2, if_pos (by omega), q2]
        · rw [if_neg q2, if_neg (by omega)]
theorem m_turnB_8 {n : Nat} (hn : n ≤ 16) : ∀ (d i fu : Nat) (M : GS), n - i = d → i ≤ n → d < fu → M.1 0 = nI n → ∃ M', fX9_turns_8_34 fu M (nI i) = some M' ∧ FM 8 8 M M' ∧ ∀ j, j < n → M'.2.2.1 8 j = if i ≤ j then M.2.2.1 31 j else M.2.2.1 8 j := by
  intro d
  induction d with
  | zero =>
    intro i fu M hd hi hf h0
    obtain ⟨fu, rfl⟩ : ∃ q, fu = q + 1 := ⟨fu - 1, by omega⟩
    have e : i = n := by omega
    subst e
    refine ⟨M, ?_, FM.rf _ _ M, fun j hj => by rw [if_neg (by omega)]⟩
    rw [fX9_turns_8_34, h0, if_pos (nI_le (Nat.le_refl _) (by omega))]
  | succ d ih =>
    intro i fu M hd hi hf h0
    obtain ⟨fu, rfl⟩ : ∃ q, fu = q + 1 := ⟨fu - 1, by omega⟩
    have hi16 : i < 16 := by omega
    have hlt : ¬ nI n ≤ nI i := nI_ge (show i < n by omega) (by omega)
    obtain ⟨M', f1, f2, f3⟩ := ih (i + 1) fu (gU3 M 8 i (M.2.2.1 31 i)) (by omega) (by omega) (by omega) h0
    refine ⟨M', ?_, (FM.u1 _ _ _ _ _).tr f2, fun j hj => ?_⟩
    · rw [fX9_turns_8_34, h0, if_neg hlt]
      simp only [in16 hi16, cl16 hi16, i_add1, Option.bind_some, ↓reduceIte, km_1, km_2, km_3, km_4, km_5, km_6, km_7, kn_10, kn_20, kn_21]
      exact f1
    · rw [f3 j hj, gU3_n _ _ _ _ _ (by decide), gU3_s, upd_i]
      by_cases q : i + 1 ≤ j
      · rw [if_pos q, if_pos (by omega)]
      · rw [if_neg q]
        by_cases q2 : j = i
        · rw [if_pos q2, if_pos (by omega), q2]
        · rw [if_neg q2, if_neg (by omega)]
theorem m_turn_8 {n : Nat} (hn : n ≤ 16) {M : GS} (h0 : M.1 0 = nI n) : ∃ M', fX9_turns_8 M = some M' ∧ FM 8 31 M M' ∧ ∀ j, j < n → M'.2.2.1 8 j = M.2.2.1 8 (n - 1 - j) := by
  obtain ⟨M1, a1, a2, a3⟩ := m_turnA_8 hn n 0 gFuel M (by omega) (by omega) (gFu _ (by omega)) h0
  obtain ⟨M', b1, b2, b3⟩ := m_turnB_8 hn n 0 gFuel M1 (by omega) (by omega) (gFu _ (by omega)) (by rw [a2.1]; exact h0)
  rw [show nI 0 = (0 : Int32) from rfl] at a1 b1
  refine ⟨M', ?_, ⟨b2.1.trans a2.1, b2.2.1.trans a2.2.1, b2.2.2.1.trans a2.2.2.1, fun k h1 h2 => (b2.2.2.2 k h1 h1).trans (a2.2.2.2 k h2 h2)⟩, fun j hj => ?_⟩
  · rw [fX9_turns_8, a1]
    exact (congrArg (fun z => Option.bind z _) b1).trans rfl
  · rw [b3 j hj, if_pos (Nat.zero_le j), a3 j hj, if_pos (Nat.zero_le j)]
theorem m_turnA_9 {n : Nat} (hn : n ≤ 16) : ∀ (d i fu : Nat) (M : GS), n - i = d → i ≤ n → d < fu → M.1 0 = nI n → ∃ M', fX9_turns_9_2 fu M (nI i) = some M' ∧ FM 31 31 M M' ∧ ∀ j, j < n → M'.2.2.1 31 j = if i ≤ j then M.2.2.1 9 (n - 1 - j) else M.2.2.1 31 j := by
  intro d
  induction d with
  | zero =>
    intro i fu M hd hi hf h0
    obtain ⟨fu, rfl⟩ : ∃ q, fu = q + 1 := ⟨fu - 1, by omega⟩
    have e : i = n := by omega
    subst e
    refine ⟨M, ?_, FM.rf _ _ M, fun j hj => by rw [if_neg (by omega)]⟩
    rw [fX9_turns_9_2, h0, if_pos (nI_le (Nat.le_refl _) (by omega))]
  | succ d ih =>
    intro i fu M hd hi hf h0
    obtain ⟨fu, rfl⟩ : ∃ q, fu = q + 1 := ⟨fu - 1, by omega⟩
    have hi16 : i < 16 := by omega
    have hlt : ¬ nI n ≤ nI i := nI_ge (show i < n by omega) (by omega)
    have hr16 : n - 1 - i < 16 := by omega
    have er : nI n - 1 - nI i = nI (n - 1 - i) := by rw [show (1 : Int32) = nI 1 from rfl, pk_sub (by omega), pk_sub (by omega)]
    obtain ⟨M', f1, f2, f3⟩ := ih (i + 1) fu (gU3 M 31 i (M.2.2.1 9 (n - 1 - i))) (by omega) (by omega) (by omega) h0
    refine ⟨M', ?_, (FM.u1 _ _ _ _ _).tr f2, fun j hj => ?_⟩
    · rw [fX9_turns_9_2, h0, if_neg hlt]
      simp only [er, in16 hi16, cl16 hi16, in16 hr16, cl16 hr16, i_add1, Option.bind_some, ↓reduceIte, km_1, km_2, km_3, km_4, km_5, km_6, km_7, kn_10, kn_20, kn_21]
      exact f1
    · rw [f3 j hj, gU3_n _ _ _ _ _ (by decide), gU3_s, upd_i]
      by_cases q : i + 1 ≤ j
      · rw [if_pos q, if_pos (by omega)]
      · rw [if_neg q]
        by_cases q2 : j = i
        · rw [if_pos q2, if_pos (by omega), q2]
        · rw [if_neg q2, if_neg (by omega)]
theorem m_turnB_9 {n : Nat} (hn : n ≤ 16) : ∀ (d i fu : Nat) (M : GS), n - i = d → i ≤ n → d < fu → M.1 0 = nI n → ∃ M', fX9_turns_9_34 fu M (nI i) = some M' ∧ FM 9 9 M M' ∧ ∀ j, j < n → M'.2.2.1 9 j = if i ≤ j then M.2.2.1 31 j else M.2.2.1 9 j := by
  intro d
  induction d with
  | zero =>
    intro i fu M hd hi hf h0
    obtain ⟨fu, rfl⟩ : ∃ q, fu = q + 1 := ⟨fu - 1, by omega⟩
    have e : i = n := by omega
    subst e
    refine ⟨M, ?_, FM.rf _ _ M, fun j hj => by rw [if_neg (by omega)]⟩
    rw [fX9_turns_9_34, h0, if_pos (nI_le (Nat.le_refl _) (by omega))]
  | succ d ih =>
    intro i fu M hd hi hf h0
    obtain ⟨fu, rfl⟩ : ∃ q, fu = q + 1 := ⟨fu - 1, by omega⟩
    have hi16 : i < 16 := by omega
    have hlt : ¬ nI n ≤ nI i := nI_ge (show i < n by omega) (by omega)
    obtain ⟨M', f1, f2, f3⟩ := ih (i + 1) fu (gU3 M 9 i (M.2.2.1 31 i)) (by omega) (by omega) (by omega) h0
    refine ⟨M', ?_, (FM.u1 _ _ _ _ _).tr f2, fun j hj => ?_⟩
    · rw [fX9_turns_9_34, h0, if_neg hlt]
      simp only [in16 hi16, cl16 hi16, i_add1, Option.bind_some, ↓reduceIte, km_1, km_2, km_3, km_4, km_5, km_6, km_7, kn_10, kn_20, kn_21]
      exact f1
    · rw [f3 j hj, gU3_n _ _ _ _ _ (by decide), gU3_s, upd_i]
      by_cases q : i + 1 ≤ j
      · rw [if_pos q, if_pos (by omega)]
      · rw [if_neg q]
        by_cases q2 : j = i
        · rw [if_pos q2, if_pos (by omega), q2]
        · rw [if_neg q2, if_neg (by omega)]
theorem m_turn_9 {n : Nat} (hn : n ≤ 16) {M : GS} (h0 : M.1 0 = nI n) : ∃ M', fX9_turns_9 M = some M' ∧ FM 9 31 M M' ∧ ∀ j, j < n → M'.2.2.1 9 j = M.2.2.1 9 (n - 1 - j) := by
  obtain ⟨M1, a1, a2, a3⟩ := m_turnA_9 hn n 0 gFuel M (by omega) (by omega) (gFu _ (by omega)) h0
  obtain ⟨M', b1, b2, b3⟩ := m_turnB_9 hn n 0 gFuel M1 (by omega) (by omega) (gFu _ (by omega)) (by rw [a2.1]; exact h0)
  rw [show nI 0 = (0 : Int32) from rfl] at a1 b1
  refine ⟨M', ?_, ⟨b2.1.trans a2.1, b2.2.1.trans a2.2.1, b2.2.2.1.trans a2.2.2.1, fun k h1 h2 => (b2.2.2.2 k h1 h1).trans (a2.2.2.2 k h2 h2)⟩, fun j hj => ?_⟩
  · rw [fX9_turns_9, a1]
    exact (congrArg (fun z => Option.bind z _) b1).trans rfl
  · rw [b3 j hj, if_pos (Nat.zero_le j), a3 j hj, if_pos (Nat.zero_le j)]
theorem m_turnA_10 {n : Nat} (hn : n ≤ 16) : ∀ (d i fu : Nat) (M : GS), n - i = d → i ≤ n → d < fu → M.1 0 = nI n → ∃ M', fX9_turns_10_2 fu M (nI i) = some M' ∧ FM 31 31 M M' ∧ ∀ j, j < n → M'.2.2.1 31 j = if i ≤ j then M.2.2.1 10 (n - 1 - j) else M.2.2.1 31 j := by
  intro d
  induction d with
  | zero =>
    intro i fu M hd hi hf h0
    obtain ⟨fu, rfl⟩ : ∃ q, fu = q + 1 := ⟨fu - 1, by omega⟩
    have e : i = n := by omega
    subst e
    refine ⟨M, ?_, FM.rf _ _ M, fun j hj => by rw [if_neg (by omega)]⟩
    rw [fX9_turns_10_2, h0, if_pos (nI_le (Nat.le_refl _) (by omega))]
  | succ d ih =>
    intro i fu M hd hi hf h0
    obtain ⟨fu, rfl⟩ : ∃ q, fu = q + 1 := ⟨fu - 1, by omega⟩
    have hi16 : i < 16 := by omega
    have hlt : ¬ nI n ≤ nI i := nI_ge (show i < n by omega) (by omega)
    have hr16 : n - 1 - i < 16 := by omega
    have er : nI n - 1 - nI i = nI (n - 1 - i) := by rw [show (1 : Int32) = nI 1 from rfl, pk_sub (by omega), pk_sub (by omega)]
    obtain ⟨M', f1, f2, f3⟩ := ih (i + 1) fu (gU3 M 31 i (M.2.2.1 10 (n - 1 - i))) (by omega) (by omega) (by omega) h0
    refine ⟨M', ?_, (FM.u1 _ _ _ _ _).tr f2, fun j hj => ?_⟩
    · rw [fX9_turns_10_2, h0, if_neg hlt]
      simp only [er, in16 hi16, cl16 hi16, in16 hr16, cl16 hr16, i_add1, Option.bind_some, ↓reduceIte, km_1, km_2, km_3, km_4, km_5, km_6, km_7, kn_10, kn_20, kn_21]
      exact f1
    · rw [f3 j hj, gU3_n _ _ _ _ _ (by decide), gU3_s, upd_i]
      by_cases q : i + 1 ≤ j
      · rw [if_pos q, if_pos (by omega)]
      · rw [if_neg q]
        by_cases q2 : j = i
        · rw [if_pos q2, if_pos (by omega), q2]
        · rw [if_neg q2, if_neg (by omega)]
theorem m_turnB_10 {n : Nat} (hn : n ≤ 16) : ∀ (d i fu : Nat) (M : GS), n - i = d → i ≤ n → d < fu → M.1 0 = nI n → ∃ M', fX9_turns_10_34 fu M (nI i) = some M' ∧ FM 10 10 M M' ∧ ∀ j, j < n → M'.2.2.1 10 j = if i ≤ j then M.2.2.1 31 j else M.2.2.1 10 j := by
  intro d
  induction d with
  | zero =>
    intro i fu M hd hi hf h0
    obtain ⟨fu, rfl⟩ : ∃ q, fu = q + 1 := ⟨fu - 1, by omega⟩
    have e : i = n := by omega
    subst e
    refine ⟨M, ?_, FM.rf _ _ M, fun j hj => by rw [if_neg (by omega)]⟩
    rw [fX9_turns_10_34, h0, if_pos (nI_le (Nat.le_refl _) (by omega))]
  | succ d ih =>
    intro i fu M hd hi hf h0
    obtain ⟨fu, rfl⟩ : ∃ q, fu = q + 1 := ⟨fu - 1, by omega⟩
    have hi16 : i < 16 := by omega
    have hlt : ¬ nI n ≤ nI i := nI_ge (show i < n by omega) (by omega)
    obtain ⟨M', f1, f2, f3⟩ := ih (i + 1) fu (gU3 M 10 i (M.2.2.1 31 i)) (by omega) (by omega) (by omega) h0
    refine ⟨M', ?_, (FM.u1 _ _ _ _ _).tr f2, fun j hj => ?_⟩
    · rw [fX9_turns_10_34, h0, if_neg hlt]
      simp only [in16 hi16, cl16 hi16, i_add1, Option.bind_some, ↓reduceIte, km_1, km_2, km_3, km_4, km_5, km_6, km_7, kn_10, kn_20, kn_21]
      exact f1
    · rw [f3 j hj, gU3_n _ _ _ _ _ (by decide), gU3_s, upd_i]
      by_cases q : i + 1 ≤ j
      · rw [if_pos q, if_pos (by omega)]
      · rw [if_neg q]
        by_cases q2 : j = i
        · rw [if_pos q2, if_pos (by omega), q2]
        · rw [if_neg q2, if_neg (by omega)]
theorem m_turn_10 {n : Nat} (hn : n ≤ 16) {M : GS} (h0 : M.1 0 = nI n) : ∃ M', fX9_turns_10 M = some M' ∧ FM 10 31 M M' ∧ ∀ j, j < n → M'.2.2.1 10 j = M.2.2.1 10 (n - 1 - j) := by
  obtain ⟨M1, a1, a2, a3⟩ := m_turnA_10 hn n 0 gFuel M (by omega) (by omega) (gFu _ (by omega)) h0
  obtain ⟨M', b1, b2, b3⟩ := m_turnB_10 hn n 0 gFuel M1 (by omega) (by omega) (gFu _ (by omega)) (by rw [a2.1]; exact h0)
  rw [show nI 0 = (0 : Int32) from rfl] at a1 b1
  refine ⟨M', ?_, ⟨b2.1.trans a2.1, b2.2.1.trans a2.2.1, b2.2.2.1.trans a2.2.2.1, fun k h1 h2 => (b2.2.2.2 k h1 h1).trans (a2.2.2.2 k h2 h2)⟩, fun j hj => ?_⟩
  · rw [fX9_turns_10, a1]
    exact (congrArg (fun z => Option.bind z _) b1).trans rfl
  · rw [b3 j hj, if_pos (Nat.zero_le j), a3 j hj, if_pos (Nat.zero_le j)]
theorem m_turnA_11 {n : Nat} (hn : n ≤ 16) : ∀ (d i fu : Nat) (M : GS), n - i = d → i ≤ n → d < fu → M.1 0 = nI n → ∃ M', fX9_turns_11_2 fu M (nI i) = some M' ∧ FM 31 31 M M' ∧ ∀ j, j < n → M'.2.2.1 31 j = if i ≤ j then M.2.2.1 11 (n - 1 - j) else M.2.2.1 31 j := by
  intro d
  induction d with
  | zero =>
    intro i fu M hd hi hf h0
    obtain ⟨fu, rfl⟩ : ∃ q, fu = q + 1 := ⟨fu - 1, by omega⟩
    have e : i = n := by omega
    subst e
    refine ⟨M, ?_, FM.rf _ _ M, fun j hj => by rw [if_neg (by omega)]⟩
    rw [fX9_turns_11_2, h0, if_pos (nI_le (Nat.le_refl _) (by omega))]
  | succ d ih =>
    intro i fu M hd hi hf h0
    obtain ⟨fu, rfl⟩ : ∃ q, fu = q + 1 := ⟨fu - 1, by omega⟩
    have hi16 : i < 16 := by omega
    have hlt : ¬ nI n ≤ nI i := nI_ge (show i < n by omega) (by omega)
    have hr16 : n - 1 - i < 16 := by omega
    have er : nI n - 1 - nI i = nI (n - 1 - i) := by rw [show (1 : Int32) = nI 1 from rfl, pk_sub (by omega), pk_sub (by omega)]
    obtain ⟨M', f1, f2, f3⟩ := ih (i + 1) fu (gU3 M 31 i (M.2.2.1 11 (n - 1 - i))) (by omega) (by omega) (by omega) h0
    refine ⟨M', ?_, (FM.u1 _ _ _ _ _).tr f2, fun j hj => ?_⟩
    · rw [fX9_turns_11_2, h0, if_neg hlt]
      simp only [er, in16 hi16, cl16 hi16, in16 hr16, cl16 hr16, i_add1, Option.bind_some, ↓reduceIte, km_1, km_2, km_3, km_4, km_5, km_6, km_7, kn_10, kn_20, kn_21]
      exact f1
    · rw [f3 j hj, gU3_n _ _ _ _ _ (by decide), gU3_s, upd_i]
      by_cases q : i + 1 ≤ j
      · rw [if_pos q, if_pos (by omega)]
      · rw [if_neg q]
        by_cases q2 : j = i
        · rw [if_pos q2, if_pos (by omega), q2]
        · rw [if_neg q2, if_neg (by omega)]
theorem m_turnB_11 {n : Nat} (hn : n ≤ 16) : ∀ (d i fu : Nat) (M : GS), n - i = d → i ≤ n → d < fu → M.1 0 = nI n → ∃ M', fX9_turns_11_34 fu M (nI i) = some M' ∧ FM 11 11 M M' ∧ ∀ j, j < n → M'.2.2.1 11 j = if i ≤ j then M.2.2.1 31 j else M.2.2.1 11 j := by
  intro d
  induction d with
  | zero =>
    intro i fu M hd hi hf h0
    obtain ⟨fu, rfl⟩ : ∃ q, fu = q + 1 := ⟨fu - 1, by omega⟩
    have e : i = n := by omega
    subst e
    refine ⟨M, ?_, FM.rf _ _ M, fun j hj => by rw [if_neg (by omega)]⟩
    rw [fX9_turns_11_34, h0, if_pos (nI_le (Nat.le_refl _) (by omega))]
  | succ d ih =>
    intro i fu M hd hi hf h0
    obtain ⟨fu, rfl⟩ : ∃ q, fu = q + 1 := ⟨fu - 1, by omega⟩
    have hi16 : i < 16 := by omega
    have hlt : ¬ nI n ≤ nI i := nI_ge (show i < n by omega) (by omega)
    obtain ⟨M', f1, f2, f3⟩ := ih (i + 1) fu (gU3 M 11 i (M.2.2.1 31 i)) (by omega) (by omega) (by omega) h0
    refine ⟨M', ?_, (FM.u1 _ _ _ _ _).tr f2, fun j hj => ?_⟩
    · rw [fX9_turns_11_34, h0, if_neg hlt]
      simp only [in16 hi16, cl16 hi16, i_add1, Option.bind_some, ↓reduceIte, km_1, km_2, km_3, km_4, km_5, km_6, km_7, kn_10, kn_20, kn_21]
      exact f1
    · rw [f3 j hj, gU3_n _ _ _ _ _ (by decide), gU3_s, upd_i]
      by_cases q : i + 1 ≤ j
      · rw [if_pos q, if_pos (by omega)]
      · rw [if_neg q]
        by_cases q2 : j = i
        · rw [if_pos q2, if_pos (by omega), q2]
        · rw [if_neg q2, if_neg (by omega)]
theorem m_turn_11 {n : Nat} (hn : n ≤ 16) {M : GS} (h0 : M.1 0 = nI n) : ∃ M', fX9_turns_11 M = some M' ∧ FM 11 31 M M' ∧ ∀ j, j < n → M'.2.2.1 11 j = M.2.2.1 11 (n - 1 - j) := by
  obtain ⟨M1, a1, a2, a3⟩ := m_turnA_11 hn n 0 gFuel M (by omega) (by omega) (gFu _ (by omega)) h0
  obtain ⟨M', b1, b2, b3⟩ := m_turnB_11 hn n 0 gFuel M1 (by omega) (by omega) (gFu _ (by omega)) (by rw [a2.1]; exact h0)
  rw [show nI 0 = (0 : Int32) from rfl] at a1 b1
  refine ⟨M', ?_, ⟨b2.1.trans a2.1, b2.2.1.trans a2.2.1, b2.2.2.1.trans a2.2.2.1, fun k h1 h2 => (b2.2.2.2 k h1 h1).trans (a2.2.2.2 k h2 h2)⟩, fun j hj => ?_⟩
  · rw [fX9_turns_11, a1]
    exact (congrArg (fun z => Option.bind z _) b1).trans rfl
  · rw [b3 j hj, if_pos (Nat.zero_le j), a3 j hj, if_pos (Nat.zero_le j)]
theorem m_turnA_12 {n : Nat} (hn : n ≤ 16) : ∀ (d i fu : Nat) (M : GS), n - i = d → i ≤ n → d < fu → M.1 0 = nI n → ∃ M', fX9_turns_12_2 fu M (nI i) = some M' ∧ FM 31 31 M M' ∧ ∀ j, j < n → M'.2.2.1 31 j = if i ≤ j then M.2.2.1 12 (n - 1 - j) else M.2.2.1 31 j := by
  intro d
  induction d with
  | zero =>
    intro i fu M hd hi hf h0
    obtain ⟨fu, rfl⟩ : ∃ q, fu = q + 1 := ⟨fu - 1, by omega⟩
    have e : i = n := by omega
    subst e
    refine ⟨M, ?_, FM.rf _ _ M, fun j hj => by rw [if_neg (by omega)]⟩
    rw [fX9_turns_12_2, h0, if_pos (nI_le (Nat.le_refl _) (by omega))]
  | succ d ih =>
    intro i fu M hd hi hf h0
    obtain ⟨fu, rfl⟩ : ∃ q, fu = q + 1 := ⟨fu - 1, by omega⟩
    have hi16 : i < 16 := by omega
    have hlt : ¬ nI n ≤ nI i := nI_ge (show i < n by omega) (by omega)
    have hr16 : n - 1 - i < 16 := by omega
    have er : nI n - 1 - nI i = nI (n - 1 - i) := by rw [show (1 : Int32) = nI 1 from rfl, pk_sub (by omega), pk_sub (by omega)]
    obtain ⟨M', f1, f2, f3⟩ := ih (i + 1) fu (gU3 M 31 i (M.2.2.1 12 (n - 1 - i))) (by omega) (by omega) (by omega) h0
    refine ⟨M', ?_, (FM.u1 _ _ _ _ _).tr f2, fun j hj => ?_⟩
    · rw [fX9_turns_12_2, h0, if_neg hlt]
      simp only [er, in16 hi16, cl16 hi16, in16 hr16, cl16 hr16, i_add1, Option.bind_some, ↓reduceIte, km_1, km_2, km_3, km_4, km_5, km_6, km_7, kn_10, kn_20, kn_21]
      exact f1
    · rw [f3 j hj, gU3_n _ _ _ _ _ (by decide), gU3_s, upd_i]
      by_cases q : i + 1 ≤ j
      · rw [if_pos q, if_pos (by omega)]
      · rw [if_neg q]
        by_cases q2 : j = i
        · rw [if_pos q2, if_pos (by omega), q2]
        · rw [if_neg q2, if_neg (by omega)]
theorem m_turnB_12 {n : Nat} (hn : n ≤ 16) : ∀ (d i fu : Nat) (M : GS), n - i = d → i ≤ n → d < fu → M.1 0 = nI n → ∃ M', fX9_turns_12_34 fu M (nI i) = some M' ∧ FM 12 12 M M' ∧ ∀ j, j < n → M'.2.2.1 12 j = if i ≤ j then M.2.2.1 31 j else M.2.2.1 12 j := by
  intro d
  induction d with
  | zero =>
    intro i fu M hd hi hf h0
    obtain ⟨fu, rfl⟩ : ∃ q, fu = q + 1 := ⟨fu - 1, by omega⟩
    have e : i = n := by omega
    subst e
    refine ⟨M, ?_, FM.rf _ _ M, fun j hj => by rw [if_neg (by omega)]⟩
    rw [fX9_turns_12_34, h0, if_pos (nI_le (Nat.le_refl _) (by omega))]
  | succ d ih =>
    intro i fu M hd hi hf h0
    obtain ⟨fu, rfl⟩ : ∃ q, fu = q + 1 := ⟨fu - 1, by omega⟩
    have hi16 : i < 16 := by omega
    have hlt : ¬ nI n ≤ nI i := nI_ge (show i < n by omega) (by omega)
    obtain ⟨M', f1, f2, f3⟩ := ih (i + 1) fu (gU3 M 12 i (M.2.2.1 31 i)) (by omega) (by omega) (by omega) h0
    refine ⟨M', ?_, (FM.u1 _ _ _ _ _).tr f2, fun j hj => ?_⟩
    · rw [fX9_turns_12_34, h0, if_neg hlt]
      simp only [in16 hi16, cl16 hi16, i_add1, Option.bind_some, ↓reduceIte, km_1, km_2, km_3, km_4, km_5, km_6, km_7, kn_10, kn_20, kn_21]
      exact f1
    · rw [f3 j hj, gU3_n _ _ _ _ _ (by decide), gU3_s, upd_i]
      by_cases q : i + 1 ≤ j
      · rw [if_pos q, if_pos (by omega)]
      · rw [if_neg q]
        by_cases q2 : j = i
        · rw [if_pos q2, if_pos (by omega), q2]
        · rw [if_neg q2, if_neg (by omega)]
theorem m_turn_12 {n : Nat} (hn : n ≤ 16) {M : GS} (h0 : M.1 0 = nI n) : ∃ M', fX9_turns_12 M = some M' ∧ FM 12 31 M M' ∧ ∀ j, j < n → M'.2.2.1 12 j = M.2.2.1 12 (n - 1 - j) := by
  obtain ⟨M1, a1, a2, a3⟩ := m_turnA_12 hn n 0 gFuel M (by omega) (by omega) (gFu _ (by omega)) h0
  obtain ⟨M', b1, b2, b3⟩ := m_turnB_12 hn n 0 gFuel M1 (by omega) (by omega) (gFu _ (by omega)) (by rw [a2.1]; exact h0)
  rw [show nI 0 = (0 : Int32) from rfl] at a1 b1
  refine ⟨M', ?_, ⟨b2.1.trans a2.1, b2.2.1.trans a2.2.1, b2.2.2.1.trans a2.2.2.1, fun k h1 h2 => (b2.2.2.2 k h1 h1).trans (a2.2.2.2 k h2 h2)⟩, fun j hj => ?_⟩
  · rw [fX9_turns_12, a1]
    exact (congrArg (fun z => Option.bind z _) b1).trans rfl
  · rw [b3 j hj, if_pos (Nat.zero_le j), a3 j hj, if_pos (Nat.zero_le j)]
theorem m_turnA_13 {n : Nat} (hn : n ≤ 16) : ∀ (d i fu : Nat) (M : GS), n - i = d → i ≤ n → d < fu → M.1 0 = nI n → ∃ M', fX9_turns_13_2 fu M (nI i) = some M' ∧ FM 31 31 M M' ∧ ∀ j, j < n → M'.2.2.1 31 j = if i ≤ j then M.2.2.1 13 (n - 1 - j) else M.2.2.1 31 j := by
  intro d
  induction d with
  | zero =>
    intro i fu M hd hi hf h0
    obtain ⟨fu, rfl⟩ : ∃ q, fu = q + 1 := ⟨fu - 1, by omega⟩
    have e : i = n := by omega
    subst e
    refine ⟨M, ?_, FM.rf _ _ M, fun j hj => by rw [if_neg (by omega)]⟩
    rw [fX9_turns_13_2, h0, if_pos (nI_le (Nat.le_refl _) (by omega))]
  | succ d ih =>
    intro i fu M hd hi hf h0
    obtain ⟨fu, rfl⟩ : ∃ q, fu = q + 1 := ⟨fu - 1, by omega⟩
    have hi16 : i < 16 := by omega
    have hlt : ¬ nI n ≤ nI i := nI_ge (show i < n by omega) (by omega)
    have hr16 : n - 1 - i < 16 := by omega
    have er : nI n - 1 - nI i = nI (n - 1 - i) := by rw [show (1 : Int32) = nI 1 from rfl, pk_sub (by omega), pk_sub (by omega)]
    obtain ⟨M', f1, f2, f3⟩ := ih (i + 1) fu (gU3 M 31 i (M.2.2.1 13 (n - 1 - i))) (by omega) (by omega) (by omega) h0
    refine ⟨M', ?_, (FM.u1 _ _ _ _ _).tr f2, fun j hj => ?_⟩
    · rw [fX9_turns_13_2, h0, if_neg hlt]
      simp only [er, in16 hi16, cl16 hi16, in16 hr16, cl16 hr16, i_add1, Option.bind_some, ↓reduceIte, km_1, km_2, km_3, km_4, km_5, km_6, km_7, kn_10, kn_20, kn_21]
      exact f1
    · rw [f3 j hj, gU3_n _ _ _ _ _ (by decide), gU3_s, upd_i]
      by_cases q : i + 1 ≤ j
      · rw [if_pos q, if_pos (by omega)]
      · rw [if_neg q]
        by_cases q2 : j = i
        · rw [if_pos q2, if_pos (by omega), q2]
        · rw [if_neg q2, if_neg (by omega)]
theorem m_turnB_13 {n : Nat} (hn : n ≤ 16) : ∀ (d i fu : Nat) (M : GS), n - i = d → i ≤ n → d < fu → M.1 0 = nI n → ∃ M', fX9_turns_13_34 fu M (nI i) = some M' ∧ FM 13 13 M M' ∧ ∀ j, j < n → M'.2.2.1 13 j = if i ≤ j then M.2.2.1 31 j else M.2.2.1 13 j := by
  intro d
  induction d with
  | zero =>
    intro i fu M hd hi hf h0
    obtain ⟨fu, rfl⟩ : ∃ q, fu = q + 1 := ⟨fu - 1, by omega⟩
    have e : i = n := by omega
    subst e
    refine ⟨M, ?_, FM.rf _ _ M, fun j hj => by rw [if_neg (by omega)]⟩
    rw [fX9_turns_13_34, h0, if_pos (nI_le (Nat.le_refl _) (by omega))]
  | succ d ih =>
    intro i fu M hd hi hf h0
    obtain ⟨fu, rfl⟩ : ∃ q, fu = q + 1 := ⟨fu - 1, by omega⟩
    have hi16 : i < 16 := by omega
    have hlt : ¬ nI n ≤ nI i := nI_ge (show i < n by omega) (by omega)
    obtain ⟨M', f1, f2, f3⟩ := ih (i + 1) fu (gU3 M 13 i (M.2.2.1 31 i)) (by omega) (by omega) (by omega) h0
    refine ⟨M', ?_, (FM.u1 _ _ _ _ _).tr f2, fun j hj => ?_⟩
    · rw [fX9_turns_13_34, h0, if_neg hlt]
      simp only [in16 hi16, cl16 hi16, i_add1, Option.bind_some, ↓reduceIte, km_1, km_2, km_3, km_4, km_5, km_6, km_7, kn_10, kn_20, kn_21]
      exact f1
    · rw [f3 j hj, gU3_n _ _ _ _ _ (by decide), gU3_s, upd_i]
      by_cases q : i + 1 ≤ j
      · rw [if_pos q, if_pos (by omega)]
      · rw [if_neg q]
        by_cases q2 : j = i
        · rw [if_pos q2, if_pos (by omega), q2]
        · rw [if_neg q2, if_neg (by omega)]
theorem m_turn_13 {n : Nat} (hn : n ≤ 16) {M : GS} (h0 : M.1 0 = nI n) : ∃ M', fX9_turns_13 M = some M' ∧ FM 13 31 M M' ∧ ∀ j, j < n → M'.2.2.1 13 j = M.2.2.1 13 (n - 1 - j) := by
  obtain ⟨M1, a1, a2, a3⟩ := m_turnA_13 hn n 0 gFuel M (by omega) (by omega) (gFu _ (by omega)) h0
  obtain ⟨M', b1, b2, b3⟩ := m_turnB_13 hn n 0 gFuel M1 (by omega) (by omega) (gFu _ (by omega)) (by rw [a2.1]; exact h0)
  rw [show nI 0 = (0 : Int32) from rfl] at a1 b1
  refine ⟨M', ?_, ⟨b2.1.trans a2.1, b2.2.1.trans a2.2.1, b2.2.2.1.trans a2.2.2.1, fun k h1 h2 => (b2.2.2.2 k h1 h1).trans (a2.2.2.2 k h2 h2)⟩, fun j hj => ?_⟩
  · rw [fX9_turns_13, a1]
    exact (congrArg (fun z => Option.bind z _) b1).trans rfl
  · rw [b3 j hj, if_pos (Nat.zero_le j), a3 j hj, if_pos (Nat.zero_le j)]
theorem m_turnA_14 {n : Nat} (hn : n ≤ 16) : ∀ (d i fu : Nat) (M : GS), n - i = d → i ≤ n → d < fu → M.1 0 = nI n → ∃ M', fX9_turns_14_2 fu M (nI i) = some M' ∧ FM 31 31 M M' ∧ ∀ j, j < n → M'.2.2.1 31 j = if i ≤ j then M.2.2.1 14 (n - 1 - j) else M.2.2.1 31 j := by
  intro d
  induction d with
  | zero =>
    intro i fu M hd hi hf h0
    obtain ⟨fu, rfl⟩ : ∃ q, fu = q + 1 := ⟨fu - 1, by omega⟩
    have e : i = n := by omega
    subst e
    refine ⟨M, ?_, FM.rf _ _ M, fun j hj => by rw [if_neg (by omega)]⟩
    rw [fX9_turns_14_2, h0, if_pos (nI_le (Nat.le_refl _) (by omega))]
  | succ d ih =>
    intro i fu M hd hi hf h0
    obtain ⟨fu, rfl⟩ : ∃ q, fu = q + 1 := ⟨fu - 1, by omega⟩
    have hi16 : i < 16 := by omega
    have hlt : ¬ nI n ≤ nI i := nI_ge (show i < n by omega) (by omega)
    have hr16 : n - 1 - i < 16 := by omega
    have er : nI n - 1 - nI i = nI (n - 1 - i) := by rw [show (1 : Int32) = nI 1 from rfl, pk_sub (by omega), pk_sub (by omega)]
    obtain ⟨M', f1, f2, f3⟩ := ih (i + 1) fu (gU3 M 31 i (M.2.2.1 14 (n - 1 - i))) (by omega) (by omega) (by omega) h0
    refine ⟨M', ?_, (FM.u1 _ _ _ _ _).tr f2, fun j hj => ?_⟩
    · rw [fX9_turns_14_2, h0, if_neg hlt]
      simp only [er, in16 hi16, cl16 hi16, in16 hr16, cl16 hr16, i_add1, Option.bind_some, ↓reduceIte, km_1, km_2, km_3, km_4, km_5, km_6, km_7, kn_10, kn_20, kn_21]
      exact f1
    · rw [f3 j hj, gU3_n _ _ _ _ _ (by decide), gU3_s, upd_i]
      by_cases q : i + 1 ≤ j
      · rw [if_pos q, if_pos (by omega)]
      · rw [if_neg q]
        by_cases q2 : j = i
        · rw [if_pos q2, if_pos (by omega), q2]
        · rw [if_neg q2, if_neg (by omega)]
theorem m_turnB_14 {n : Nat} (hn : n ≤ 16) : ∀ (d i fu : Nat) (M : GS), n - i = d → i ≤ n → d < fu → M.1 0 = nI n → ∃ M', fX9_turns_14_34 fu M (nI i) = some M' ∧ FM 14 14 M M' ∧ ∀ j, j < n → M'.2.2.1 14 j = if i ≤ j then M.2.2.1 31 j else M.2.2.1 14 j := by
  intro d
  induction d with
  | zero =>
    intro i fu M hd hi hf h0
    obtain ⟨fu, rfl⟩ : ∃ q, fu = q + 1 := ⟨fu - 1, by omega⟩
    have e : i = n := by omega
    subst e
    refine ⟨M, ?_, FM.rf _ _ M, fun j hj => by rw [if_neg (by omega)]⟩
    rw [fX9_turns_14_34, h0, if_pos (nI_le (Nat.le_refl _) (by omega))]
  | succ d ih =>
    intro i fu M hd hi hf h0
    obtain ⟨fu, rfl⟩ : ∃ q, fu = q + 1 := ⟨fu - 1, by omega⟩
    have hi16 : i < 16 := by omega
    have hlt : ¬ nI n ≤ nI i := nI_ge (show i < n by omega) (by omega)
    obtain ⟨M', f1, f2, f3⟩ := ih (i + 1) fu (gU3 M 14 i (M.2.2.1 31 i)) (by omega) (by omega) (by omega) h0
    refine ⟨M', ?_, (FM.u1 _ _ _ _ _).tr f2, fun j hj => ?_⟩
    · rw [fX9_turns_14_34, h0, if_neg hlt]
      simp only [in16 hi16, cl16 hi16, i_add1, Option.bind_some, ↓reduceIte, km_1, km_2, km_3, km_4, km_5, km_6, km_7, kn_10, kn_20, kn_21]
      exact f1
    · rw [f3 j hj, gU3_n _ _ _ _ _ (by decide), gU3_s, upd_i]
      by_cases q : i + 1 ≤ j
      · rw [if_pos q, if_pos (by omega)]
      · rw [if_neg q]
        by_cases q2 : j = i
        · rw [if_pos q2, if_pos (by omega), q2]
        · rw [if_neg q2, if_neg (by omega)]
theorem m_turn_14 {n : Nat} (hn : n ≤ 16) {M : GS} (h0 : M.1 0 = nI n) : ∃ M', fX9_turns_14 M = some M' ∧ FM 14 31 M M' ∧ ∀ j, j < n → M'.2.2.1 14 j = M.2.2.1 14 (n - 1 - j) := by
  obtain ⟨M1, a1, a2, a3⟩ := m_turnA_14 hn n 0 gFuel M (by omega) (by omega) (gFu _ (by omega)) h0
  obtain ⟨M', b1, b2, b3⟩ := m_turnB_14 hn n 0 gFuel M1 (by omega) (by omega) (gFu _ (by omega)) (by rw [a2.1]; exact h0)
  rw [show nI 0 = (0 : Int32) from rfl] at a1 b1
  refine ⟨M', ?_, ⟨b2.1.trans a2.1, b2.2.1.trans a2.2.1, b2.2.2.1.trans a2.2.2.1, fun k h1 h2 => (b2.2.2.2 k h1 h1).trans (a2.2.2.2 k h2 h2)⟩, fun j hj => ?_⟩
  · rw [fX9_turns_14, a1]
    exact (congrArg (fun z => Option.bind z _) b1).trans rfl
  · rw [b3 j hj, if_pos (Nat.zero_le j), a3 j hj, if_pos (Nat.zero_le j)]
theorem m_chg_9 {n : Nat} (hn : n ≤ 16) : ∀ (d i fu : Nat) (M : GS), n - i = d → i ≤ n → d < fu → M.1 0 = nI n → ∃ M', fX9_changes_9_10_2 fu M (nI i) = some M' ∧ FM 9 10 M M' ∧ ∀ j, j < n → M'.2.2.1 9 j = (if i ≤ j then M.2.2.1 10 j else M.2.2.1 9 j) ∧ M'.2.2.1 10 j = (if i ≤ j then M.2.2.1 9 j else M.2.2.1 10 j) := by
  intro d
  induction d with
  | zero =>
    intro i fu M hd hi hf h0
    obtain ⟨fu, rfl⟩ : ∃ q, fu = q + 1 := ⟨fu - 1, by omega⟩
    have e : i = n := by omega
    subst e
    refine ⟨M, ?_, FM.rf _ _ M, fun j hj => by rw [if_neg (by omega), if_neg (by omega)]; exact ⟨rfl, rfl⟩⟩
    rw [fX9_changes_9_10_2, h0, if_pos (nI_le (Nat.le_refl _) (by omega))]
  | succ d ih =>
    intro i fu M hd hi hf h0
    obtain ⟨fu, rfl⟩ : ∃ q, fu = q + 1 := ⟨fu - 1, by omega⟩
    have hi16 : i < 16 := by omega
    have hlt : ¬ nI n ≤ nI i := nI_ge (show i < n by omega) (by omega)
    obtain ⟨M', f1, f2, f3⟩ := ih (i + 1) fu (gU3 (gU3 M 9 i (M.2.2.1 10 i)) 10 i (M.2.2.1 9 i)) (by omega) (by omega) (by omega) h0
    refine ⟨M', ?_, ((FM.u1 _ _ _ _ _).tr (FM.u2 _ _ _ _ _)).tr f2, fun j hj => ?_⟩
    · rw [fX9_changes_9_10_2, h0, if_neg hlt]
      simp only [in16 hi16, cl16 hi16, i_add1, gLet_eq, Option.bind_some, ↓reduceIte, km_1, km_2, km_3, km_4, km_5, km_6, km_7, kn_10, kn_20, kn_21]
      exact f1
    · obtain ⟨g1, g2⟩ := f3 j hj
      have rB : (gU3 (gU3 M 9 i (M.2.2.1 10 i)) 10 i (M.2.2.1 9 i)).2.2.1 10 = upd (M.2.2.1 10) i (M.2.2.1 9 i) := by rw [gU3_s, gU3_n _ _ _ _ _ (by decide)]
      have rA : (gU3 (gU3 M 9 i (M.2.2.1 10 i)) 10 i (M.2.2.1 9 i)).2.2.1 9 = upd (M.2.2.1 9) i (M.2.2.1 10 i) := by rw [gU3_n _ _ _ _ _ (by decide), gU3_s]
      rw [g1, g2, rA, rB, upd_i, upd_i]
      by_cases q : i + 1 ≤ j
      · have q' : ¬ j = i := by omega
        simp only [eq_true q, eq_true (show i ≤ j by omega), eq_false q', ↓reduceIte, and_self]
      · by_cases q2 : j = i
        · subst q2
          simp only [eq_false q, Nat.le_refl, ↓reduceIte, and_self]
        · simp only [eq_false q, eq_false (show ¬ i ≤ j by omega), eq_false q2, ↓reduceIte, and_self]
theorem m_chg_11 {n : Nat} (hn : n ≤ 16) : ∀ (d i fu : Nat) (M : GS), n - i = d → i ≤ n → d < fu → M.1 0 = nI n → ∃ M', fX9_changes_11_12_2 fu M (nI i) = some M' ∧ FM 11 12 M M' ∧ ∀ j, j < n → M'.2.2.1 11 j = (if i ≤ j then M.2.2.1 12 j else M.2.2.1 11 j) ∧ M'.2.2.1 12 j = (if i ≤ j then M.2.2.1 11 j else M.2.2.1 12 j) := by
  intro d
  induction d with
  | zero =>
    intro i fu M hd hi hf h0
    obtain ⟨fu, rfl⟩ : ∃ q, fu = q + 1 := ⟨fu - 1, by omega⟩
    have e : i = n := by omega
    subst e
    refine ⟨M, ?_, FM.rf _ _ M, fun j hj => by rw [if_neg (by omega), if_neg (by omega)]; exact ⟨rfl, rfl⟩⟩
    rw [fX9_changes_11_12_2, h0, if_pos (nI_le (Nat.le_refl _) (by omega))]
  | succ d ih =>
    intro i fu M hd hi hf h0
    obtain ⟨fu, rfl⟩ : ∃ q, fu = q + 1 := ⟨fu - 1, by omega⟩
    have hi16 : i < 16 := by omega
    have hlt : ¬ nI n ≤ nI i := nI_ge (show i < n by omega) (by omega)
    obtain ⟨M', f1, f2, f3⟩ := ih (i + 1) fu (gU3 (gU3 M 11 i (M.2.2.1 12 i)) 12 i (M.2.2.1 11 i)) (by omega) (by omega) (by omega) h0
    refine ⟨M', ?_, ((FM.u1 _ _ _ _ _).tr (FM.u2 _ _ _ _ _)).tr f2, fun j hj => ?_⟩
    · rw [fX9_changes_11_12_2, h0, if_neg hlt]
      simp only [in16 hi16, cl16 hi16, i_add1, gLet_eq, Option.bind_some, ↓reduceIte, km_1, km_2, km_3, km_4, km_5, km_6, km_7, kn_10, kn_20, kn_21]
      exact f1
    · obtain ⟨g1, g2⟩ := f3 j hj
      have rB : (gU3 (gU3 M 11 i (M.2.2.1 12 i)) 12 i (M.2.2.1 11 i)).2.2.1 12 = upd (M.2.2.1 12) i (M.2.2.1 11 i) := by rw [gU3_s, gU3_n _ _ _ _ _ (by decide)]
      have rA : (gU3 (gU3 M 11 i (M.2.2.1 12 i)) 12 i (M.2.2.1 11 i)).2.2.1 11 = upd (M.2.2.1 11) i (M.2.2.1 12 i) := by rw [gU3_n _ _ _ _ _ (by decide), gU3_s]
      rw [g1, g2, rA, rB, upd_i, upd_i]
      by_cases q : i + 1 ≤ j
      · have q' : ¬ j = i := by omega
        simp only [eq_true q, eq_true (show i ≤ j by omega), eq_false q', ↓reduceIte, and_self]
      · by_cases q2 : j = i
        · subst q2
          simp only [eq_false q, Nat.le_refl, ↓reduceIte, and_self]
        · simp only [eq_false q, eq_false (show ¬ i ≤ j by omega), eq_false q2, ↓reduceIte, and_self]
theorem m_t90 {n : Nat} (hn : n ≤ 16) : ∀ (d i fu : Nat) (M : GS), n - i = d → i ≤ n → d < fu → M.1 0 = nI n → ∃ M', fX9_turn_90 fu M (nI i) = some M' ∧ FM 14 14 M M' ∧ ∀ j, j < n → M'.2.2.1 14 j = if i ≤ j then 1 - M.2.2.1 14 j else M.2.2.1 14 j := by
  intro d
  induction d with
  | zero =>
    intro i fu M hd hi hf h0
    obtain ⟨fu, rfl⟩ : ∃ q, fu = q + 1 := ⟨fu - 1, by omega⟩
    have e : i = n := by omega
    subst e
    refine ⟨M, ?_, FM.rf _ _ M, fun j hj => by rw [if_neg (by omega)]⟩
    rw [fX9_turn_90, h0, if_pos (nI_le (Nat.le_refl _) (by omega))]
  | succ d ih =>
    intro i fu M hd hi hf h0
    obtain ⟨fu, rfl⟩ : ∃ q, fu = q + 1 := ⟨fu - 1, by omega⟩
    have hi16 : i < 16 := by omega
    have hlt : ¬ nI n ≤ nI i := nI_ge (show i < n by omega) (by omega)
    obtain ⟨M', f1, f2, f3⟩ := ih (i + 1) fu (gU3 M 14 i (1 - M.2.2.1 14 i)) (by omega) (by omega) (by omega) h0
    refine ⟨M', ?_, (FM.u1 _ _ _ _ _).tr f2, fun j hj => ?_⟩
    · rw [fX9_turn_90, h0, if_neg hlt]
      simp only [in16 hi16, cl16 hi16, i_add1, Option.bind_some, ↓reduceIte, km_1, km_2, km_3, km_4, km_5, km_6, km_7, kn_10, kn_20, kn_21]
      exact f1
    · rw [f3 j hj, gU3_s, upd_i]
      by_cases q : i + 1 ≤ j
      · have q' : ¬ j = i := by omega
        rw [if_pos q, if_neg q', if_pos (show i ≤ j by omega)]
      · by_cases q2 : j = i
        · rw [if_neg q, if_pos q2, if_pos (show i ≤ j by omega), q2]
        · rw [if_neg q, if_neg q2, if_neg (show ¬ i ≤ j by omega)]
theorem m_turn {n : Nat} (hn : n ≤ 16) {M : GS} (h0 : M.1 0 = nI n) : ∃ M', (∀ z, fX9_offAll M' = some z → fX9_turn M = some (z, M')) ∧ M'.1 = M.1 ∧ M'.2.2.2 = M.2.2.2 ∧ (∀ k, (k < 7 ∨ (14 < k ∧ k ≠ 31)) → M'.2.2.1 k = M.2.2.1 k) ∧ ∀ j, j < n → M'.2.2.1 7 j = M.2.2.1 7 (n - 1 - j) ∧ M'.2.2.1 8 j = M.2.2.1 8 (n - 1 - j) ∧ M'.2.2.1 9 j = M.2.2.1 10 (n - 1 - j) ∧ M'.2.2.1 10 j = M.2.2.1 9 (n - 1 - j) ∧ M'.2.2.1 11 j = M.2.2.1 12 (n - 1 - j) ∧ M'.2.2.1 12 j = M.2.2.1 11 (n - 1 - j) ∧ M'.2.2.1 13 j = M.2.2.1 13 (n - 1 - j) ∧ M'.2.2.1 14 j = 1 - M.2.2.1 14 (n - 1 - j) := by
  obtain ⟨M1, a1, f1, v1⟩ := m_turn_7 hn (M := M) h0
  have z1 : M1.1 0 = nI n := by rw [f1.1]; exact h0
  obtain ⟨M2, a2, f2, v2⟩ := m_turn_8 hn (M := M1) z1
  have z2 : M2.1 0 = nI n := by rw [f2.1]; exact z1
  obtain ⟨M3, a3, f3, v3⟩ := m_turn_9 hn (M := M2) z2
  have z3 : M3.1 0 = nI n := by rw [f3.1]; exact z2
  obtain ⟨M4, a4, f4, v4⟩ := m_turn_10 hn (M := M3) z3
  have z4 : M4.1 0 = nI n := by rw [f4.1]; exact z3
  obtain ⟨M5, a5, f5, v5⟩ := m_turn_11 hn (M := M4) z4
  have z5 : M5.1 0 = nI n := by rw [f5.1]; exact z4
  obtain ⟨M6, a6, f6, v6⟩ := m_turn_12 hn (M := M5) z5
  have z6 : M6.1 0 = nI n := by rw [f6.1]; exact z5
  obtain ⟨M7, a7, f7, v7⟩ := m_turn_13 hn (M := M6) z6
  have z7 : M7.1 0 = nI n := by rw [f7.1]; exact z6
  obtain ⟨M8, a8, f8, v8⟩ := m_turn_14 hn (M := M7) z7
  have z8 : M8.1 0 = nI n := by rw [f8.1]; exact z7
  obtain ⟨M9, a9, f9, v9⟩ := m_chg_9 hn n 0 gFuel M8 (by omega) (by omega) (gFu _ (by omega)) z8
  have z9 : M9.1 0 = nI n := by rw [f9.1]; exact z8
  obtain ⟨M10, a10, f10, v10⟩ := m_chg_11 hn n 0 gFuel M9 (by omega) (by omega) (gFu _ (by omega)) z9
  have z10 : M10.1 0 = nI n := by rw [f10.1]; exact z9
  obtain ⟨M11, a11, f11, v11⟩ := m_t90 hn n 0 gFuel M10 (by omega) (by omega) (gFu _ (by omega)) z10
  rw [show nI 0 = (0 : Int32) from rfl] at a9 a10 a11
  have b9 : fX9_changes_9_10 M8 = some M9 := (congrArg (fun z => Option.bind z (fun u => some u)) a9).trans rfl
  have b10 : fX9_changes_11_12 M9 = some M10 := (congrArg (fun z => Option.bind z (fun u => some u)) a10).trans rfl
  refine ⟨M11, fun z hz => ?_, ?_, ?_, fun k hk => ?_, fun j hj => ?_⟩
  · simp only [fX9_turn, a1, a2, a3, a4, a5, a6, a7, a8, b9, b10, a11, hz, Option.bind_some]
  · rw [f11.1, f10.1, f9.1, f8.1, f7.1, f6.1, f5.1, f4.1, f3.1, f2.1, f1.1]
  · rw [f11.2.2.1, f10.2.2.1, f9.2.2.1, f8.2.2.1, f7.2.2.1, f6.2.2.1, f5.2.2.1, f4.2.2.1, f3.2.2.1, f2.2.2.1, f1.2.2.1]
  · rw [f11.2.2.2 k (by omega) (by omega), f10.2.2.2 k (by omega) (by omega), f9.2.2.2 k (by omega) (by omega), f8.2.2.2 k (by omega) (by omega), f7.2.2.2 k (by omega) (by omega), f6.2.2.2 k (by omega) (by omega), f5.2.2.2 k (by omega) (by omega), f4.2.2.2 k (by omega) (by omega), f3.2.2.2 k (by omega) (by omega), f2.2.2.2 k (by omega) (by omega), f1.2.2.2 k (by omega) (by omega)]
  · have p : M8.2.2.1 7 j = M.2.2.1 7 (n - 1 - j) ∧ M8.2.2.1 8 j = M.2.2.1 8 (n - 1 - j) ∧ M8.2.2.1 9 j = M.2.2.1 9 (n - 1 - j) ∧ M8.2.2.1 10 j = M.2.2.1 10 (n - 1 - j) ∧ M8.2.2.1 11 j = M.2.2.1 11 (n - 1 - j) ∧ M8.2.2.1 12 j = M.2.2.1 12 (n - 1 - j) ∧ M8.2.2.1 13 j = M.2.2.1 13 (n - 1 - j) ∧ M8.2.2.1 14 j = M.2.2.1 14 (n - 1 - j) := by
      refine ⟨?_, ?_, ?_, ?_, ?_, ?_, ?_, ?_⟩
      · rw [f8.2.2.2 7 (by decide) (by decide), f7.2.2.2 7 (by decide) (by decide), f6.2.2.2 7 (by decide) (by decide), f5.2.2.2 7 (by decide) (by decide), f4.2.2.2 7 (by decide) (by decide), f3.2.2.2 7 (by decide) (by decide), f2.2.2.2 7 (by decide) (by decide), v1 j hj]
      · rw [f8.2.2.2 8 (by decide) (by decide), f7.2.2.2 8 (by decide) (by decide), f6.2.2.2 8 (by decide) (by decide), f5.2.2.2 8 (by decide) (by decide), f4.2.2.2 8 (by decide) (by decide), f3.2.2.2 8 (by decide) (by decide), v2 j hj, f1.2.2.2 8 (by decide) (by decide)]
      · rw [f8.2.2.2 9 (by decide) (by decide), f7.2.2.2 9 (by decide) (by decide), f6.2.2.2 9 (by decide) (by decide), f5.2.2.2 9 (by decide) (by decide), f4.2.2.2 9 (by decide) (by decide), v3 j hj, f2.2.2.2 9 (by decide) (by decide), f1.2.2.2 9 (by decide) (by decide)]
      · rw [f8.2.2.2 10 (by decide) (by decide), f7.2.2.2 10 (by decide) (by decide), f6.2.2.2 10 (by decide) (by decide), f5.2.2.2 10 (by decide) (by decide), v4 j hj, f3.2.2.2 10 (by decide) (by decide), f2.2.2.2 10 (by decide) (by decide), f1.2.2.2 10 (by decide) (by decide)]
      · rw [f8.2.2.2 11 (by decide) (by decide), f7.2.2.2 11 (by decide) (by decide), f6.2.2.2 11 (by decide) (by decide), v5 j hj, f4.2.2.2 11 (by decide) (by decide), f3.2.2.2 11 (by decide) (by decide), f2.2.2.2 11 (by decide) (by decide), f1.2.2.2 11 (by decide) (by decide)]
      · rw [f8.2.2.2 12 (by decide) (by decide), f7.2.2.2 12 (by decide) (by decide), v6 j hj, f5.2.2.2 12 (by decide) (by decide), f4.2.2.2 12 (by decide) (by decide), f3.2.2.2 12 (by decide) (by decide), f2.2.2.2 12 (by decide) (by decide), f1.2.2.2 12 (by decide) (by decide)]
      · rw [f8.2.2.2 13 (by decide) (by decide), v7 j hj, f6.2.2.2 13 (by decide) (by decide), f5.2.2.2 13 (by decide) (by decide), f4.2.2.2 13 (by decide) (by decide), f3.2.2.2 13 (by decide) (by decide), f2.2.2.2 13 (by decide) (by decide), f1.2.2.2 13 (by decide) (by decide)]
      · rw [v8 j hj, f7.2.2.2 14 (by decide) (by decide), f6.2.2.2 14 (by decide) (by decide), f5.2.2.2 14 (by decide) (by decide), f4.2.2.2 14 (by decide) (by decide), f3.2.2.2 14 (by decide) (by decide), f2.2.2.2 14 (by decide) (by decide), f1.2.2.2 14 (by decide) (by decide)]
    obtain ⟨p7, p8, p9, p10, p11, p12, p13, p14⟩ := p
    have q9 := v9 j hj
    have q10 := v10 j hj
    have q11 := v11 j hj
    simp only [Nat.zero_le, ↓reduceIte] at q9 q10 q11
    refine ⟨?_, ?_, ?_, ?_, ?_, ?_, ?_, ?_⟩
    · rw [f11.2.2.2 7 (by decide) (by decide), f10.2.2.2 7 (by decide) (by decide), f9.2.2.2 7 (by decide) (by decide), p7]
    · rw [f11.2.2.2 8 (by decide) (by decide), f10.2.2.2 8 (by decide) (by decide), f9.2.2.2 8 (by decide) (by decide), p8]
    · rw [f11.2.2.2 9 (by decide) (by decide), f10.2.2.2 9 (by decide) (by decide), q9.1, p10]
    · rw [f11.2.2.2 10 (by decide) (by decide), f10.2.2.2 10 (by decide) (by decide), q9.2, p9]
    · rw [f11.2.2.2 11 (by decide) (by decide), q10.1, f9.2.2.2 12 (by decide) (by decide), p12]
    · rw [f11.2.2.2 12 (by decide) (by decide), q10.2, f9.2.2.2 11 (by decide) (by decide), p11]
    · rw [f11.2.2.2 13 (by decide) (by decide), f10.2.2.2 13 (by decide) (by decide), f9.2.2.2 13 (by decide) (by decide), p13]
    · rw [q11, f10.2.2.2 14 (by decide) (by decide), f9.2.2.2 14 (by decide) (by decide), p14]
theorem s_turn {X M : GS} (h : Rel X M) : St (fX8_turn X) (fX9_turn M) := by
  obtain ⟨n, hL, hSh, hO⟩ := h
  have hn := hL.1
  obtain ⟨X', a1, a2, a3⟩ := x_turn hn hL.2.1
  obtain ⟨M', b1, b2, b3, b4, b5⟩ := m_turn hn hL.2.2.1
  have L' : RLp X' M' n := by
    refine ⟨hn, by rw [a2.1]; exact hL.2.1, by rw [b2]; exact hL.2.2.1, fun i hi => ?_, fun i hi => ?_, ?_, ?_⟩
    · obtain ⟨g0, g1, g2, g3, g4, g5, g6, g7⟩ := b5 i hi
      obtain ⟨r0, r1, r2, r3, r4, r5, r6, r7⟩ := hL.2.2.2.1 (n - 1 - i) (by omega)
      have t0 := a3 i 0 hi (by decide)
      have t1 := a3 i 1 hi (by decide)
      have t2 := a3 i 2 hi (by decide)
      have t3 := a3 i 3 hi (by decide)
      have t4 := a3 i 4 hi (by decide)
      have t5 := a3 i 5 hi (by decide)
      have t6 := a3 i 6 hi (by decide)
      have t7 := a3 i 7 hi (by decide)
      rw [Nat.add_zero] at t0
      rw [t0, t1, t2, t3, t4, t5, t6, t7, g0, g1, g2, g3, g4, g5, g6, g7, ← r0, ← r1, ← r2, ← r3, ← r4, ← r5, ← r6, ← r7]
      exact ⟨rfl, rfl, rfl, rfl, rfl, rfl, rfl, rfl⟩
    · obtain ⟨g0, g1, g2, g3, g4, g5, g6, g7⟩ := b5 i hi
      obtain ⟨r0, r1, r2, r3, r4, r5, r6, k, -, hk, ek⟩ := hL.2.2.2.2.1 (n - 1 - i) (by omega)
      rw [g0, g1, g2, g3, g4, g5, g6, g7, ek]
      exact ⟨r0, r1, r3, r2, r5, r4, r6, 1 - k, Nat.zero_le _, by omega, pk_sub (a := 1) hk⟩
    · have q := hL.2.2.2.2.2.1
      simp only [RTn] at q ⊢
      rw [a2.2.2.2 1 (by decide), a2.1, b2]
      exact q
    · have q := hL.2.2.2.2.2.2
      simp only [MTn] at q ⊢
      rw [b2]
      exact q
  have hS' : ∀ s, s < 8 → RSn X' M' n s := by
    intro s hs
    have q := hSh s hs
    simp only [RSn] at q ⊢
    rw [a2.2.2.2 64 (by decide), a2.2.2.2 65 (by decide), a2.2.2.1, b4 15 (by decide), b4 16 (by decide), b4 17 (by decide), b4 18 (by decide), b3]
    exact q
  have hO' : RO X' M' := by
    simp only [RO] at hO ⊢
    rw [a2.1, b2, a2.2.2.2 56 (by decide), a2.2.2.2 144 (by decide), a2.2.2.2 16 (by decide), a2.2.2.2 17 (by decide), b4 6 (by decide), b4 37 (by decide), b4 30 (by decide), b4 21 (by decide), b4 22 (by decide)]
    exact hO
  rw [b1 _ (m_off L')]
  simp only [fX8_turn, a1, x_count L', x_rises L' (Nat.le_refl n), Option.bind_some]
  exact ⟨_, _, rfl, rfl, rfl, n, L', hS', hO'⟩
