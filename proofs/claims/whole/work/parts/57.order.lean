/-! order: the reference's count over all bits -/
abbrev inM (M : GS) (i : Nat) : Prop := M.2.2.1 7 i = 2 ∨ M.2.2.1 7 i = 5
def mk (M : GS) : Nat → Nat | 0 => 0 | k + 1 => if inM M k then mk M k + 2 ^ k else mk M k
theorem mk_r (M : GS) : ∀ k, mk M k < 2 ^ k := by
  intro k
  induction k with
  | zero => exact (by decide : 0 < 2 ^ 0)
  | succ k ih =>
    rw [mk, Nat.pow_succ]
    split <;> omega
theorem mk_t (M : GS) : ∀ k i, (mk M k).testBit i = true ↔ i < k ∧ inM M i := by
  intro k
  induction k with
  | zero =>
    intro i
    rw [mk, Nat.zero_testBit]
    exact ⟨fun h => absurd h (by decide), fun h => absurd h.1 (by omega)⟩
  | succ k ih =>
    intro i
    rw [mk]
    by_cases h : inM M k
    · rw [if_pos h]
      rcases Nat.lt_trichotomy i k with g | g | g
      · rw [tb_add g, ih]
        exact ⟨fun q => ⟨by omega, q.2⟩, fun q => ⟨g, q.2⟩⟩
      · rw [g, tb_self (mk_r M k)]
        exact ⟨fun _ => ⟨by omega, h⟩, fun _ => rfl⟩
      · rw [tb_hi (mk_r M k) g]
        exact ⟨fun q => (by cases q), fun q => by omega⟩
    · rw [if_neg h, ih]
      refine ⟨fun q => ⟨by omega, q.2⟩, fun q => ⟨?_, q.2⟩⟩
      by_cases e : i = k
      · rw [e] at q
        exact absurd q.2 h
      · omega
theorem in16 {s : Nat} (hs : s < 16) : (nI s < 0 ∨ 16 ≤ s) = False := by
  have q : ¬ (nI s < 0 ∨ 16 ≤ (nI s).toNatClampNeg) := nI_inb hs (by decide)
  rw [nI_clamp (by omega)] at q
  exact eq_false q
theorem cl16 {s : Nat} (hs : s < 16) : (nI s).toNatClampNeg = s := nI_clamp (by omega)
theorem o26 {X M : GS} {n : Nat} (h : RLp X M n) : ∀ (d i fu : Nat), n - i = d → i ≤ n → d < fu → fX9_order_26 fu M (nI (mk M i)) (nI i) = some (nI (mk M n)) := by
  have hn := h.1
  intro d
  induction d with
  | zero =>
    intro i fu hd hi hf
    obtain ⟨fu, rfl⟩ : ∃ q, fu = q + 1 := ⟨fu - 1, by omega⟩
    have e : i = n := by omega
    subst e
    have g : (nI i ≤ nI i) = True := (nle_e (by omega) (by omega)).trans (eq_true (by omega))
    rw [fX9_order_26]
    simp only [h.2.2.1, g, Option.bind_some, ↓reduceIte, km_1, km_2, km_3, km_4, km_5, km_6, km_7, kn_10, kn_20, kn_21]
  | succ d ih =>
    intro i fu hd hi hf
    obtain ⟨fu, rfl⟩ : ∃ q, fu = q + 1 := ⟨fu - 1, by omega⟩
    have hin : i < n := by omega
    have g : (nI n ≤ nI i) = False := (nle_e (by omega) (by omega)).trans (eq_false (by omega))
    have q := ih (i + 1) fu (by omega) (by omega) (by omega)
    rw [mk] at q
    rw [fX9_order_26]
    simp only [h.2.2.1, g, in16 (show i < 16 by omega), cl16 (show i < 16 by omega), shl_i (show i < 16 by omega), or_pow (mk_r M i) (show i < 16 by omega), i_add1, Option.bind_some, ↓reduceIte, km_1, km_2, km_3, km_4, km_5, km_6, km_7, kn_10, kn_20, kn_21]
    by_cases e2 : M.2.2.1 7 i = 2
    · rw [if_pos (show inM M i from Or.inl e2)] at q
      rw [if_pos e2]
      exact q
    · rw [if_neg e2]
      by_cases e5 : M.2.2.1 7 i = 5
      · rw [if_pos (show inM M i from Or.inr e5)] at q
        rw [if_pos e5]
        exact q
      · rw [if_neg (show ¬ inM M i from fun z => z.elim e2 e5)] at q
        rw [if_neg e5]
        exact q
theorem shr_i {m i : Nat} (hm : m < 2 ^ 31) (h : i < 16) : (nI m >>> (nI i &&& 31)) &&& (1 : Int32) = nI (m / 2 ^ i % 2) := by
  have q := pk_shrN hm (nI i &&& 31) i (sh_m i h)
  rw [q, pk_andN (m := 1) (Nat.lt_of_le_of_lt (Nat.div_le_self m (2 ^ i)) (by omega)) 1 (by decide)]
theorem bit_e {m i : Nat} : m / 2 ^ i % 2 = if m.testBit i = true then 1 else 0 := by
  rw [Nat.testBit_eq_decide_div_mod_eq]
  by_cases h : m / 2 ^ i % 2 = 1
  · rw [if_pos (by rw [h]; rfl), h]
  · rw [if_neg (by simp [h])]
    omega
theorem m_sinks {X M : GS} {n i : Nat} (h : RLp X M n) (hi : i < n) (g : inM M i) : fX9_sinks M (nI i) = some (nI (skf M i)) := by
  have hn := h.1
  rw [← (mSk_r h hi).1]
  simp only [fX9_sinks, in16 (show i < 16 by omega), cl16 (show i < 16 by omega), Option.bind_some, ↓reduceIte, km_1, km_2, km_3, km_4, km_5, km_6, km_7, kn_10, kn_20, kn_21]
  rw [mSk]
  rcases g with g | g
  · rw [g]; rfl
  · rw [g]; rfl
theorem sk_0 {X M : GS} {n i : Nat} (h : RLp X M n) (hi : i < n) (g : ¬ inM M i) : skf M i = 0 := by
  have e : mSk M i = 0 := by
    rw [mSk, if_neg (fun z => g (Or.inl z)), if_neg (fun z => g (Or.inr z))]
  rw [skf, e]
  rfl
theorem o100 {X M : GS} {n m : Nat} (h : RLp X M n) (hm : m < 2 ^ 17) : ∀ (d i fu : Nat) (v : Int32), n - i = d → i ≤ n → d < fu → v.toInt = sg (skf M) m i → ∃ z, fX9_order_100 fu M (nI (mk M n)) (nI m) v (nI i) = some z ∧ z.toInt = sg (skf M) m n := by
  have hn := h.1
  have hk := mk_r M n
  have p := p16 hn
  intro d
  induction d with
  | zero =>
    intro i fu v hd hi hf hv
    obtain ⟨fu, rfl⟩ : ∃ q, fu = q + 1 := ⟨fu - 1, by omega⟩
    have e : i = n := by omega
    subst e
    have g : (nI i ≤ nI i) = True := (nle_e (by omega) (by omega)).trans (eq_true (by omega))
    refine ⟨v, ?_, hv⟩
    rw [fX9_order_100]
    simp only [h.2.2.1, g, Option.bind_some, ↓reduceIte, km_1, km_2, km_3, km_4, km_5, km_6, km_7, kn_10, kn_20, kn_21]
  | succ d ih =>
    intro i fu v hd hi hf hv
    obtain ⟨fu, rfl⟩ : ∃ q, fu = q + 1 := ⟨fu - 1, by omega⟩
    have hin : i < n := by omega
    have g : (nI n ≤ nI i) = False := (nle_e (by omega) (by omega)).trans (eq_false (by omega))
    have r := sg_r (skf M) m i (fun j hj => (mSk_r h (show j < n by omega)).2)
    have s := (mSk_r h hin).2
    rw [fX9_order_100]
    simp only [h.2.2.1, g, shr_i (show mk M n < 2 ^ 31 by omega) (show i < 16 by omega), shr_i (show m < 2 ^ 31 by omega) (show i < 16 by omega), bit_e, i_add1, Option.bind_some, ↓reduceIte, km_1, km_2, km_3, km_4, km_5, km_6, km_7, kn_10, kn_20, kn_21]
    by_cases gi : inM M i
    · have t1 : (mk M n).testBit i = true := (mk_t M n i).mpr ⟨hin, gi⟩
      rw [if_pos t1, if_neg (show ¬ nI 1 = 0 by decide), m_sinks h hin gi]
      by_cases tm : m.testBit i = true
      · rw [if_pos tm, if_pos (show nI 1 = 1 from rfl)]
        refine ih (i + 1) fu _ (by omega) (by omega) (by omega) ?_
        rw [sg, if_pos tm, tadd _ _ (by rw [tneg _ (by rw [tni _ (by omega)]; omega), tni _ (by omega)]; omega), tneg _ (by rw [tni _ (by omega)]; omega), tni _ (by omega), hv]
      · rw [if_neg tm, if_neg (show ¬ nI 0 = 1 by decide)]
        refine ih (i + 1) fu _ (by omega) (by omega) (by omega) ?_
        rw [sg, if_neg tm, tadd _ _ (by rw [tni _ (by omega)]; omega), tni _ (by omega), hv]
    · have t1 : ¬ (mk M n).testBit i = true := fun z => gi ((mk_t M n i).mp z).2
      rw [if_neg t1, if_pos (show nI 0 = 0 from rfl)]
      refine ih (i + 1) fu _ (by omega) (by omega) (by omega) ?_
      rw [sg, sk_0 h hin gi, hv]
      split <;> omega
theorem and_n {a b : Nat} (ha : a < 2 ^ 31) (hb : b < 2 ^ 31) : nI a &&& nI b = nI (a &&& b) := by
  apply Int32.toBitVec_inj.mp
  apply BitVec.eq_of_toNat_eq
  show ((nI a).toBitVec &&& (nI b).toBitVec).toNat = (nI (a &&& b)).toBitVec.toNat
  have := Nat.and_le_left (n := a) (m := b)
  rw [BitVec.toNat_and, pk_tn (by omega), pk_tn (by omega), pk_tn (by omega)]
theorem aB_i (x : Int32) (h : x.toInt ≠ -2147483648) : (aB x).toInt = x.toInt.natAbs := by
  rw [aB]
  by_cases g : 0 ≤ x
  · rw [if_pos g]
    rw [tle, t_0] at g
    omega
  · rw [if_neg g, tneg _ h]
    rw [tle, t_0] at g
    omega
/-- the best so far, of the masks below m -/
def Best (M : GS) (n m a : Nat) (z : Int32) : Prop := a &&& mk M n = a ∧ z.toInt = sg (skf M) a n ∧ ∀ m', m' < m → m' &&& mk M n = m' → (sg (skf M) a n).natAbs ≤ (sg (skf M) m' n).natAbs ∧ ((sg (skf M) m' n).natAbs = (sg (skf M) a n).natAbs → a ≤ m')
theorem o76 {X M : GS} {n : Nat} (h : RLp X M n) : ∀ (d m fu a : Nat) (z v5 : Int32), mk M n + 1 - m = d → m ≤ mk M n + 1 → d < fu → ((m = 0 ∧ v5 = 0 ∧ a = 0) ∨ (v5 = 1 ∧ a < m ∧ Best M n m a z)) → ∃ a' z', fX9_order_76 fu M (nI (mk M n)) (nI a) z v5 (nI m) = some (nI a', z') ∧ Best M n (mk M n + 1) a' z' := by
  have hn := h.1
  have hk := mk_r M n
  have p := p16 hn
  intro d
  induction d with
  | zero =>
    intro m fu a z v5 hd hm hf hB
    obtain ⟨fu, rfl⟩ : ∃ q, fu = q + 1 := ⟨fu - 1, by omega⟩
    have e : m = mk M n + 1 := by omega
    have g : (nI (mk M n) < nI m) = True := (nlt_e (by omega) (by omega)).trans (eq_true (by omega))
    rcases hB with hB | hB
    · omega
    · refine ⟨a, z, ?_, by rw [← e]; exact hB.2.2⟩
      rw [fX9_order_76]
      simp only [g, Option.bind_some, ↓reduceIte, km_1, km_2, km_3, km_4, km_5, km_6, km_7, kn_10, kn_20, kn_21]
  | succ d ih =>
    intro m fu a z v5 hd hm hf hB
    obtain ⟨fu, rfl⟩ : ∃ q, fu = q + 1 := ⟨fu - 1, by omega⟩
    have g : (nI (mk M n) < nI m) = False := (nlt_e (by omega) (by omega)).trans (eq_false (by omega))
    have ha := Nat.and_le_left (n := m) (m := mk M n)
    have e : (nI (m &&& mk M n) = nI m) = (m &&& mk M n = m) := neq_e (by omega) (by omega)
    rw [fX9_order_76]
    simp only [g, and_n (show m < 2 ^ 31 by omega) (show mk M n < 2 ^ 31 by omega), e, i_add1, Option.bind_some, ↓reduceIte, km_1, km_2, km_3, km_4, km_5, km_6, km_7, kn_10, kn_20, kn_21]
    by_cases hc : m &&& mk M n = m
    · rw [if_pos hc]
      obtain ⟨w, w1, w2⟩ := o100 h (show m < 2 ^ 17 by omega) n 0 gFuel 0 (by omega) (by omega) (gFu _ (by omega)) (by rw [t_0]; rfl)
      rw [show nI 0 = (0 : Int32) from rfl] at w1
      rw [w1]
      have rw1 := sg_r (skf M) m n (fun j hj => (mSk_r h hj).2)
      rcases hB with ⟨rfl, rfl, rfl⟩ | ⟨rfl, h1, hB⟩
      · exact ih 1 fu 0 w 1 (by omega) (by omega) (by omega) (Or.inr ⟨rfl, by omega, hc, w2, fun m' hm' _ => by
          have : m' = 0 := by omega
          subst this
          exact ⟨Nat.le_refl _, fun _ => Nat.le_refl _⟩⟩)
      · obtain ⟨b1, b2, b3⟩ := hB
        have rw2 := sg_r (skf M) a n (fun j hj => (mSk_r h hj).2)
        have hcmp : (aB w < aB z) = ((sg (skf M) m n).natAbs < (sg (skf M) a n).natAbs) := by
          rw [tlt, aB_i w (by omega), aB_i z (by omega), w2, b2]
          exact propext Int.ofNat_lt
        simp only [m_abs, hcmp, Option.bind_some, ↓reduceIte, km_1, km_2, km_3, km_4, km_5, km_6, km_7, kn_10, kn_20, kn_21]
        by_cases hl : (sg (skf M) m n).natAbs < (sg (skf M) a n).natAbs
        · rw [if_pos hl]
          exact ih (m + 1) fu m w 1 (by omega) (by omega) (by omega) (Or.inr ⟨rfl, by omega, hc, w2, fun m' hm' hc' => by
            by_cases em : m' = m
            · subst em
              exact ⟨Nat.le_refl _, fun _ => Nat.le_refl _⟩
            · have := b3 m' (by omega) hc'
              exact ⟨by omega, fun z => by omega⟩⟩)
        · rw [if_neg hl]
          exact ih (m + 1) fu a z 1 (by omega) (by omega) (by omega) (Or.inr ⟨rfl, by omega, b1, b2, fun m' hm' hc' => by
            by_cases em : m' = m
            · subst em
              exact ⟨by omega, fun z => by omega⟩
            · exact b3 m' (by omega) hc'⟩)
    · rw [if_neg hc]
      rcases hB with ⟨rfl, rfl, rfl⟩ | ⟨rfl, h1, b1, b2, b3⟩
      · rw [Nat.zero_and] at hc
        exact absurd rfl hc
      · exact ih (m + 1) fu a z 1 (by omega) (by omega) (by omega) (Or.inr ⟨rfl, by omega, b1, b2, fun m' hm' hc' => by
          by_cases em : m' = m
          · subst em
            exact absurd hc' hc
          · exact b3 m' (by omega) hc'⟩)
theorem order_eq {X M : GS} {n : Nat} (h : RLp X M n) : ∃ X' u, fX6_search_now X = some X' ∧ Sm X X' ∧ (fX9_order_26 gFuel M 0 0).bind (fun u10 => fX9_order_76 gFuel M u10 0 0 0 0) = some u ∧ X'.1 114 = u.1 ∧ X'.1 115 = u.2 := by
  have hn := h.1
  have hk := mk_r M n
  have p := p16 hn
  obtain ⟨X', b, t, x1, x2, x3, x4, x5, x6⟩ := x_search h
  have q := o26 h n 0 gFuel (by omega) (by omega) (gFu _ (by omega))
  rw [mk, show nI 0 = (0 : Int32) from rfl] at q
  obtain ⟨a, z, m1, m2, m3, m4⟩ := o76 h (mk M n + 1) 0 gFuel 0 0 0 (by omega) (by omega) (gFu _ (by omega)) (Or.inl ⟨rfl, rfl, rfl⟩)
  rw [show nI 0 = (0 : Int32) from rfl] at m1
  refine ⟨X', (nI a, z), x1, x2, by rw [q]; exact m1, ?_⟩
  obtain ⟨l1, l2, l3, l4⟩ := lb_some x5
  have hb : b &&& mk M n = b := by
    apply Nat.eq_of_testBit_eq
    intro i
    rw [Nat.testBit_and]
    cases e : b.testBit i with
    | false => rfl
    | true =>
      have w := l4 i e
      have : inM M i := by
        by_cases g : inM M i
        · exact g
        · have := sk_0 h w.1 g
          omega
      rw [(mk_t M n i).mpr ⟨w.1, this⟩]
      rfl
  have hbm : b ≤ mk M n := by
    have := Nat.and_le_right (n := b) (m := mk M n)
    omega
  have ham : a ≤ mk M n := by
    have := Nat.and_le_right (n := a) (m := mk M n)
    omega
  have c1 := m4 b (by omega) hb
  rw [l2] at c1
  cases ea : lb (skf M) n (sg (skf M) a n) with
  | none => exact absurd rfl (lb_none ea a (by omega))
  | some b' =>
    have c2 := x6 _ _ ea
    have c3 := (lb_some ea).2.2.1 a (by omega) rfl
    have e1 : (sg (skf M) a n).natAbs = t.natAbs := by omega
    have e2 := c1.2 e1.symm
    have e3 := c2.2 e1
    have e4 : a = b := by omega
    subst e4
    refine ⟨x3, ?_⟩
    rw [teq, x4, m3, l2]
theorem s_order {X M : GS} (h : Rel X M) (a : Int32) : St (fX8_order X a) (fX9_order M a) := by
  obtain ⟨n, hL, hSh, hO⟩ := id h
  obtain ⟨X', u, e1, e2, e3, e4, e5⟩ := order_eq hL
  have e6 : ∀ f : Int32 × Int32 → Option (Int32 × GS), (fX9_order_26 gFuel M (0 : Int32) (0 : Int32)).bind (fun u10 => (fX9_order_76 gFuel M u10 (0 : Int32) (0 : Int32) (0 : Int32) (0 : Int32)).bind f) = f u := by
    intro f
    cases q : fX9_order_26 gFuel M 0 0 with
    | none => rw [q] at e3; cases e3
    | some w =>
      rw [q] at e3
      show (fX9_order_76 gFuel M w 0 0 0 0).bind _ = _
      rw [show fX9_order_76 gFuel M w 0 0 0 0 = some u from e3]
      rfl
  by_cases a0 : a = 0
  · subst a0
    simp only [fX8_order, fX8_order_L19, fX6_leastBits, fX9_order, e1, e6, show ((0 : Int32) < 0) = False from eq_false (by decide), show ((0 : Int32) ≤ 1) = True from eq_true (by decide), Option.bind_some, ↓reduceIte, km_1, km_2, km_3, km_4, km_5, km_6, km_7, kn_10, kn_20, kn_21]
    exact ⟨(_, X'), (_, M), rfl, rfl, e4, h.sm e2⟩
  · by_cases a1 : a = 1
    · subst a1
      simp only [fX8_order, fX8_order_L19, fX6_errorsTogether, fX9_order, e1, e6, show ((1 : Int32) < 0) = False from eq_false (by decide), show ((1 : Int32) ≤ 1) = True from eq_true (by decide), Option.bind_some, ↓reduceIte, km_1, km_2, km_3, km_4, km_5, km_6, km_7, kn_10, kn_20, kn_21]
      exact ⟨(_, X'), (_, M), rfl, rfl, e5, h.sm e2⟩
    · by_cases g : a < 0
      · simp only [fX8_order, fX9_order, eq_false a0, eq_false a1, eq_true g, Option.bind_some, ↓reduceIte, km_1, km_2, km_3, km_4, km_5, km_6, km_7, kn_10, kn_20, kn_21]
        exact s_far h _ (by decide)
      · have g1 : (a ≤ 1) = False := eq_false (by
          rw [teq, t_0] at a0
          rw [teq, t_1] at a1
          rw [tlt, t_0] at g
          rw [tle, t_1]
          omega)
        simp only [fX8_order, fX9_order, eq_false a0, eq_false a1, eq_false g, g1, Option.bind_some, ↓reduceIte, km_1, km_2, km_3, km_4, km_5, km_6, km_7, kn_10, kn_20, kn_21]
        exact s_far h _ (by decide)
