/-! order: of all sums the least bits -/
def sg (sk : Nat → Nat) (m : Nat) : Nat → Int | 0 => 0 | k + 1 => sg sk m k + (if m.testBit k = true then -(sk k : Int) else (sk k : Int))
def lb (sk : Nat → Nat) : Nat → Int → Option Nat
  | 0, t => if t = 0 then some 0 else none
  | k + 1, t => if sk k = 0 then lb sk k t else
      match lb sk k (t - (sk k : Int)) with
      | some b => some b
      | none => match lb sk k (t + (sk k : Int)) with
        | some b => some (b + 2 ^ k)
        | none => none
theorem sg_c (sk : Nat → Nat) (m m' : Nat) : ∀ k, (∀ i, i < k → m.testBit i = m'.testBit i) → sg sk m k = sg sk m' k := by
  intro k
  induction k with
  | zero => intro _; rfl
  | succ k ih =>
    intro h
    rw [sg, sg, ih (fun i hi => h i (by omega)), h k (by omega)]
theorem tb_lo {m k : Nat} (h : m < 2 ^ k) : m.testBit k = false := Nat.testBit_lt_two_pow h
theorem tb_add {m k i : Nat} (hi : i < k) : (m + 2 ^ k).testBit i = m.testBit i := by
  rw [Nat.add_comm]
  exact Nat.testBit_two_pow_add_gt hi m
theorem tb_self {m k : Nat} (h : m < 2 ^ k) : (m + 2 ^ k).testBit k = true := by
  rw [Nat.add_comm, Nat.testBit_two_pow_add_eq, tb_lo h]
  rfl
theorem tb_hi {m k i : Nat} (h : m < 2 ^ k) (hi : k < i) : (m + 2 ^ k).testBit i = false := by
  have h2 : m + 2 ^ k < 2 ^ i := by
    have : 2 ^ (k + 1) ≤ 2 ^ i := Nat.pow_le_pow_right (by decide) hi
    rw [Nat.pow_succ] at this
    omega
  exact Nat.testBit_lt_two_pow h2
theorem sg_lo (sk : Nat → Nat) {m k : Nat} (h : m < 2 ^ k) : sg sk m (k + 1) = sg sk m k + sk k := by
  rw [sg, tb_lo h]
  rfl
theorem sg_hi (sk : Nat → Nat) {m k : Nat} (h : m < 2 ^ k) : sg sk (m + 2 ^ k) (k + 1) = sg sk m k - sk k := by
  rw [sg, tb_self h, if_pos rfl, sg_c sk (m + 2 ^ k) m k (fun i hi => tb_add hi)]
  omega
theorem mcase {m k : Nat} (h : m < 2 ^ (k + 1)) : m < 2 ^ k ∨ ∃ m', m' < 2 ^ k ∧ m = m' + 2 ^ k := by
  rw [Nat.pow_succ] at h
  by_cases g : m < 2 ^ k
  · exact Or.inl g
  · exact Or.inr ⟨m - 2 ^ k, by omega, by omega⟩
def lbP (sk : Nat → Nat) (k : Nat) (t : Int) (r : Option Nat) : Prop :=
  match r with
  | some b => b < 2 ^ k ∧ sg sk b k = t ∧ (∀ m, m < 2 ^ k → sg sk m k = t → b ≤ m) ∧ ∀ i, b.testBit i = true → i < k ∧ 0 < sk i
  | none => ∀ m, m < 2 ^ k → sg sk m k ≠ t
theorem lb_spec (sk : Nat → Nat) : ∀ k t, lbP sk k t (lb sk k t) := by
  intro k
  induction k with
  | zero =>
    intro t
    rw [lb]
    by_cases h : t = 0
    · rw [if_pos h]
      exact ⟨by decide, h.symm, fun m _ _ => Nat.zero_le m, fun i hi => by rw [Nat.zero_testBit] at hi; cases hi⟩
    · rw [if_neg h]
      exact fun m _ e => h e.symm
  | succ k ih =>
    intro t
    rw [lb]
    have p2 : 2 ^ (k + 1) = 2 ^ k + 2 ^ k := by rw [Nat.pow_succ]; omega
    by_cases h0 : sk k = 0
    · rw [if_pos h0]
      have q := ih t
      cases e : lb sk k t with
      | some b =>
        rw [e] at q
        obtain ⟨q1, q2, q3, q4⟩ := q
        refine ⟨by omega, ?_, fun m hm hs => ?_, fun i hi => ?_⟩
        · rw [sg_lo sk q1, q2, h0]; omega
        · rcases mcase hm with g | ⟨m', g, rfl⟩
          · rw [sg_lo sk g, h0] at hs
            exact q3 m g (by omega)
          · rw [sg_hi sk g, h0] at hs
            have := q3 m' g (by omega)
            omega
        · have := q4 i hi
          exact ⟨by omega, this.2⟩
      | none =>
        rw [e] at q
        intro m hm hs
        rcases mcase hm with g | ⟨m', g, rfl⟩
        · rw [sg_lo sk g, h0] at hs
          exact q m g (by omega)
        · rw [sg_hi sk g, h0] at hs
          exact q m' g (by omega)
    · rw [if_neg h0]
      have q := ih (t - (sk k : Int))
      cases e : lb sk k (t - (sk k : Int)) with
      | some b =>
        rw [e] at q
        obtain ⟨q1, q2, q3, q4⟩ := q
        refine ⟨by omega, ?_, fun m hm hs => ?_, fun i hi => ?_⟩
        · rw [sg_lo sk q1, q2]; omega
        · rcases mcase hm with g | ⟨m', g, rfl⟩
          · rw [sg_lo sk g] at hs
            exact q3 m g (by omega)
          · omega
        · have := q4 i hi
          exact ⟨by omega, this.2⟩
      | none =>
        rw [e] at q
        have q' := ih (t + (sk k : Int))
        cases e' : lb sk k (t + (sk k : Int)) with
        | some b =>
          rw [e'] at q'
          obtain ⟨q1, q2, q3, q4⟩ := q'
          refine ⟨by omega, ?_, fun m hm hs => ?_, fun i hi => ?_⟩
          · rw [sg_hi sk q1, q2]; omega
          · rcases mcase hm with g | ⟨m', g, rfl⟩
            · rw [sg_lo sk g] at hs
              exact absurd (by omega) (q m g)
            · rw [sg_hi sk g] at hs
              have := q3 m' g (by omega)
              omega
          · rcases Nat.lt_trichotomy i k with g | g | g
            · rw [tb_add g] at hi
              have := q4 i hi
              exact ⟨by omega, this.2⟩
            · rw [g]
              exact ⟨by omega, by omega⟩
            · rw [tb_hi q1 g] at hi
              cases hi
        | none =>
          rw [e'] at q'
          intro m hm hs
          rcases mcase hm with g | ⟨m', g, rfl⟩
          · rw [sg_lo sk g] at hs
            exact q m g (by omega)
          · rw [sg_hi sk g] at hs
            exact q' m' g (by omega)
theorem sg_r (sk : Nat → Nat) (m : Nat) : ∀ k, (∀ i, i < k → sk i ≤ 18) → -(18 * (k : Int)) ≤ sg sk m k ∧ sg sk m k ≤ 18 * k := by
  intro k
  induction k with
  | zero => intro _; rw [sg]; omega
  | succ k ih =>
    intro h
    have a := ih (fun i hi => h i (by omega))
    have b := h k (by omega)
    rw [sg]
    split <;> omega
theorem lb_some {sk : Nat → Nat} {k : Nat} {t : Int} {b : Nat} (h : lb sk k t = some b) : b < 2 ^ k ∧ sg sk b k = t ∧ (∀ m, m < 2 ^ k → sg sk m k = t → b ≤ m) ∧ ∀ i, b.testBit i = true → i < k ∧ 0 < sk i := by
  have q := lb_spec sk k t
  rw [h] at q
  exact q
theorem lb_none {sk : Nat → Nat} {k : Nat} {t : Int} (h : lb sk k t = none) : ∀ m, m < 2 ^ k → sg sk m k ≠ t := by
  have q := lb_spec sk k t
  rw [h] at q
  exact q
theorem lb_far {sk : Nat → Nat} {k : Nat} {t : Int} (hs : ∀ i, i < k → sk i ≤ 18) (h : t < -(18 * (k : Int)) ∨ 18 * (k : Int) < t) : lb sk k t = none := by
  cases e : lb sk k t with
  | none => rfl
  | some b =>
    have q := lb_some e
    have r := sg_r sk b k hs
    omega
def enc : Option Nat → Int32 | none => -1 | some b => nI b
theorem p16 {k : Nat} (h : k ≤ 16) : 1 ≤ 2 ^ k ∧ 2 ^ k ≤ 65536 := ⟨Nat.one_le_two_pow, Nat.pow_le_pow_right (n := 2) (by decide) h⟩
theorem enc_e {sk : Nat → Nat} {k : Nat} {t : Int} (hk : k ≤ 16) : (enc (lb sk k t) = -1) = (lb sk k t = none) := by
  apply propext
  cases e : lb sk k t with
  | none => exact ⟨fun _ => rfl, fun _ => rfl⟩
  | some b =>
    have q := (lb_some e).1
    have := p16 hk
    exact ⟨fun z => absurd z (nI_nm1 (by omega)), fun z => by cases z⟩
/-- all but what the search writes -/
def Sm (X X' : GS) : Prop := (∀ k, k ≠ 114 → k ≠ 115 → X'.1 k = X.1 k) ∧ (∀ k, k ≠ 112 → k ≠ 113 → X'.2.2.1 k = X.2.2.1 k) ∧ X'.2.2.2 = X.2.2.2
theorem Sm.rf (X : GS) : Sm X X := ⟨fun _ _ _ => rfl, fun _ _ _ => rfl, rfl⟩
theorem Sm.tr {X Y Z : GS} (h : Sm X Y) (g : Sm Y Z) : Sm X Z := ⟨fun k a b => (g.1 k a b).trans (h.1 k a b), fun k a b => (g.2.1 k a b).trans (h.2.1 k a b), g.2.2.trans h.2.2⟩
theorem Sm.u3 (X : GS) {k i : Nat} {v : Int32} (h : k = 112 ∨ k = 113) : Sm X (gU3 X k i v) := ⟨fun _ _ _ => rfl, fun j a b => by rw [gU3_n _ _ _ _ _ (by omega)], rfl⟩
theorem Sm.a3 (X : GS) {k : Nat} {f : Nat → Int32} (h : k = 112 ∨ k = 113) : Sm X (gA3 X k f) := ⟨fun _ _ _ => rfl, fun j a b => by rw [gA3_n _ _ _ _ (by omega)], rfl⟩
theorem Sm.u1 (X : GS) {k : Nat} {v : Int32} (h : k = 114 ∨ k = 115) : Sm X (gU1 X k v) := ⟨fun j a b => by rw [gU1_n _ _ _ _ (by omega)], fun _ _ _ => rfl, rfl⟩
theorem RLp.sm {X X' M : GS} {n : Nat} (g : Sm X X') (h : RLp X M n) : RLp X' M n := by
  simp only [RLp, RFn, MRn, RTn, MTn] at h ⊢
  rw [g.1 2 (by decide) (by decide), g.1 3 (by decide) (by decide), g.2.1 0 (by decide) (by decide), g.2.1 1 (by decide) (by decide)]
  exact h
theorem Rel.sm {X X' M : GS} (g : Sm X X') (h : Rel X M) : Rel X' M := by
  obtain ⟨n, hL, hSh, hO⟩ := h
  refine ⟨n, hL.sm g, fun s hs => ?_, ?_⟩
  · have q := hSh s hs
    simp only [RSn] at q ⊢
    rw [g.2.1 64 (by decide) (by decide), g.2.1 65 (by decide) (by decide), g.2.2]
    exact q
  · simp only [RO] at hO ⊢
    rw [g.1 58 (by decide) (by decide), g.1 145 (by decide) (by decide), g.1 57 (by decide) (by decide), g.1 18 (by decide) (by decide), g.1 19 (by decide) (by decide), g.2.1 56 (by decide) (by decide), g.2.1 144 (by decide) (by decide), g.2.1 16 (by decide) (by decide), g.2.1 17 (by decide) (by decide)]
    exact hO
def TB (sk : Nat → Nat) (k : Nat) (X : GS) : Prop := ∀ j, j < 577 → X.2.2.1 112 j = enc (lb sk k ((j : Int) - 288))
theorem t_288 : (288 : Int32).toInt = 288 := by decide +kernel
theorem t_m288 : (-288 : Int32).toInt = -288 := by decide +kernel
theorem x_bits {sk : Nat → Nat} {k : Nat} {X : GS} (hT : TB sk k X) (hk : k ≤ 16) (hs : ∀ i, i < k → sk i ≤ 18) (v : Int32) : fX6_bitsOf X v = some (enc (lb sk k v.toInt)) := by
  rw [fX6_bitsOf]
  by_cases h1 : v.toInt < -288
  · rw [if_pos (by rw [tlt, t_m288]; exact h1), lb_far hs (by omega)]
    rfl
  · by_cases h2 : 288 < v.toInt
    · rw [if_neg (by rw [tlt, t_m288]; exact h1), if_pos (by rw [tlt, t_288]; exact h2), lb_far hs (by omega)]
      rfl
    · have e : (288 + v).toInt = 288 + v.toInt := by rw [tadd _ _ (by rw [t_288]; omega), t_288]
      obtain ⟨j, hj, e2, e3⟩ := of_nn (x := 288 + v) (by omega)
      rw [if_neg (by rw [tlt, t_m288]; exact h1), if_neg (by rw [tlt, t_288]; exact h2), e2, if_neg (nI_inb (by omega) (by decide)), nI_clamp (by omega), hT j (by omega), show ((j : Int) - 288) = v.toInt by omega]
theorem or_pow {b k : Nat} (hb : b < 2 ^ k) (hk : k < 16) : nI b ||| nI (2 ^ k) = nI (b + 2 ^ k) := by
  have p := p16 (show k ≤ 16 by omega)
  apply Int32.toBitVec_inj.mp
  apply BitVec.eq_of_toNat_eq
  show ((nI b).toBitVec ||| (nI (2 ^ k)).toBitVec).toNat = (nI (b + 2 ^ k)).toBitVec.toNat
  have q := Nat.two_pow_add_eq_or_of_lt hb 1
  rw [BitVec.toNat_or, pk_tn (by omega), pk_tn (by omega), pk_tn (by omega), Nat.or_comm, Nat.add_comm b]
  rw [Nat.mul_one] at q
  exact q.symm
theorem sh_m : ∀ i : Nat, i < 16 → ((nI i &&& 31).toBitVec.smod 32).toNat = i := by decide +kernel
theorem shl_i {i : Nat} (h : i < 16) : (1 : Int32) <<< (nI i &&& 31) = nI (2 ^ i) := by
  have p := p16 (show i ≤ 16 by omega)
  have q := pk_shlN (n := 1) (nI i &&& 31) i (sh_m i h) (by omega)
  rw [Nat.one_mul] at q
  exact q
theorem m288 (a : Int32) : 288 + (a - 288) = a := by grind
theorem p288 (a : Int32) : a - 288 + 1 = a + 1 - 288 := by grind
theorem lb_succ {sk : Nat → Nat} {k : Nat} (h0 : sk k ≠ 0) (hk : k < 16) (t : Int) : enc (lb sk (k + 1) t) = if enc (lb sk k (t - (sk k : Int))) = -1 then (if enc (lb sk k (t + (sk k : Int))) = -1 then -1 else enc (lb sk k (t + (sk k : Int))) ||| nI (2 ^ k)) else enc (lb sk k (t - (sk k : Int))) := by
  have p := p16 (show k ≤ 16 by omega)
  rw [lb, if_neg h0]
  cases e : lb sk k (t - (sk k : Int)) with
  | some b =>
    have q := (lb_some e).1
    rw [if_neg (show ¬ enc (some b) = -1 from nI_nm1 (by omega))]
  | none =>
    rw [if_pos (show enc none = -1 from rfl)]
    cases e' : lb sk k (t + (sk k : Int)) with
    | some b =>
      have q := (lb_some e').1
      rw [if_neg (show ¬ enc (some b) = -1 from nI_nm1 (by omega))]
      show nI (b + 2 ^ k) = nI b ||| nI (2 ^ k)
      rw [or_pow q hk]
    | none =>
      rw [if_pos (show enc none = -1 from rfl)]
      rfl
theorem add_l {sk : Nat → Nat} {k : Nat} (hk : k < 16) (hs : ∀ i, i ≤ k → sk i ≤ 18) (h0 : sk k ≠ 0) : ∀ (d j fu : Nat) (X : GS), 577 - j = d → j ≤ 577 → d < fu → TB sk k X → ∃ X', fX6_addOne_4 fu X (nI (sk k)) (nI (2 ^ k)) (nI j - 288) = some X' ∧ Sm X X' ∧ X'.2.2.1 112 = X.2.2.1 112 ∧ (∀ q, q < j → X'.2.2.1 113 q = X.2.2.1 113 q) ∧ ∀ q, j ≤ q → q < 577 → X'.2.2.1 113 q = enc (lb sk (k + 1) ((q : Int) - 288)) := by
  have hsk := hs k (Nat.le_refl k)
  intro d
  induction d with
  | zero =>
    intro j fu X hd hj hf hT
    obtain ⟨fu, rfl⟩ : ∃ q, fu = q + 1 := ⟨fu - 1, by omega⟩
    have e : j = 577 := by omega
    subst e
    exact ⟨X, rfl, Sm.rf X, rfl, fun _ _ => rfl, fun q h1 h2 => by omega⟩
  | succ d ih =>
    intro j fu X hd hj hf hT
    obtain ⟨fu, rfl⟩ : ∃ q, fu = q + 1 := ⟨fu - 1, by omega⟩
    have ej : (nI j - 288).toInt = (j : Int) - 288 := by rw [tsub _ _ (by rw [tni _ (by omega), t_288]; omega), tni _ (by omega), t_288]
    have g : ((288 : Int32) < nI j - 288) = False := eq_false (by rw [tlt, t_288, ej]; omega)
    have e1 : (nI j - 288 - nI (sk k)).toInt = (j : Int) - 288 - sk k := by rw [tsub _ _ (by rw [ej, tni _ (by omega)]; omega), ej, tni _ (by omega)]
    have e2 : (nI j - 288 + nI (sk k)).toInt = (j : Int) - 288 + sk k := by rw [tadd _ _ (by rw [ej, tni _ (by omega)]; omega), ej, tni _ (by omega)]
    have b1 := x_bits hT (by omega) (fun i hi => hs i (by omega)) (nI j - 288 - nI (sk k))
    have b2 := x_bits hT (by omega) (fun i hi => hs i (by omega)) (nI j - 288 + nI (sk k))
    rw [e1] at b1
    rw [e2] at b2
    have hx : (nI j < 0 ∨ 577 ≤ (nI j).toNatClampNeg) = False := eq_false (nI_inb (by omega) (by decide))
    have L := lb_succ h0 hk ((j : Int) - 288)
    have step : ∀ v : Int32, v = enc (lb sk (k + 1) ((j : Int) - 288)) → ∃ X', fX6_addOne_4 fu (gU3 X 113 j v) (nI (sk k)) (nI (2 ^ k)) (nI (j + 1) - 288) = some X' ∧ Sm X X' ∧ X'.2.2.1 112 = X.2.2.1 112 ∧ (∀ q, q < j → X'.2.2.1 113 q = X.2.2.1 113 q) ∧ ∀ q, j ≤ q → q < 577 → X'.2.2.1 113 q = enc (lb sk (k + 1) ((q : Int) - 288)) := by
      intro v hv
      obtain ⟨X', c1, c2, c3, c4, c5⟩ := ih (j + 1) fu (gU3 X 113 j v) (by omega) (by omega) (by omega) hT
      refine ⟨X', c1, (Sm.u3 X (Or.inr rfl)).tr c2, c3, fun q hq => ?_, fun q h1 h2 => ?_⟩
      · rw [c4 q (by omega), gU3_s, upd_i, if_neg (by omega)]
      · by_cases e : q = j
        · rw [e, c4 j (by omega), gU3_s, upd_i, if_pos rfl, hv]
        · exact c5 q (by omega) h2
    rw [fX6_addOne_4]
    simp only [g, b1, b2, m288, p288, i_add1, hx, nI_clamp (show j < 2 ^ 31 by omega), Option.bind_some, ↓reduceIte, km_1, km_2, km_3, km_4, km_5, km_6, km_7, kn_10, kn_20, kn_21]
    have hx' : (nI j < 0 ∨ 577 ≤ j) = False := by
      rw [nI_clamp (by omega)] at hx
      exact hx
    simp only [hx', ↓reduceIte]
    by_cases c1 : enc (lb sk k ((j : Int) - 288 - sk k)) = -1
    · rw [if_pos c1] at L ⊢
      by_cases c2 : enc (lb sk k ((j : Int) - 288 + sk k)) = -1
      · rw [if_pos c2] at L ⊢
        exact step _ L.symm
      · rw [if_neg c2] at L ⊢
        exact step _ L.symm
    · rw [if_neg c1] at L ⊢
      exact step _ L.symm
theorem add_1 {sk : Nat → Nat} {k : Nat} (hk : k < 16) (hs : ∀ i, i ≤ k → sk i ≤ 18) (h0 : sk k ≠ 0) (X : GS) (hT : TB sk k X) : ∃ X', fX6_addOne X (nI (sk k)) (nI (2 ^ k)) = some X' ∧ Sm X X' ∧ TB sk (k + 1) X' := by
  obtain ⟨X', c1, c2, c3, c4, c5⟩ := add_l hk hs h0 577 0 gFuel X rfl (by omega) (gFu _ (by omega)) hT
  rw [show nI 0 - 288 = (-288 : Int32) from by decide +kernel] at c1
  refine ⟨gA3 X' 112 (va_cpy (X'.2.2.1 113) (X'.2.2.1 112) 0 0 577), ?_, c2.tr (Sm.a3 X' (Or.inl rfl)), fun j hj => ?_⟩
  · rw [fX6_addOne, c1]
    rfl
  · rw [gA3_s, pk_cpy_in (by omega) (by omega), show 0 + (j - 0) = j by omega]
    exact c5 j (by omega) hj
theorem fill_l : ∀ (d j fu : Nat) (X : GS), 577 - j = d → j ≤ 577 → d < fu → ∃ X', fX6_search_now_2 fu X (nI j) = some X' ∧ Sm X X' ∧ (∀ q, q < j → X'.2.2.1 112 q = X.2.2.1 112 q) ∧ ∀ q, j ≤ q → q < 577 → X'.2.2.1 112 q = -1 := by
  intro d
  induction d with
  | zero =>
    intro j fu X hd hj hf
    obtain ⟨fu, rfl⟩ : ∃ q, fu = q + 1 := ⟨fu - 1, by omega⟩
    have e : j = 577 := by omega
    subst e
    exact ⟨X, rfl, Sm.rf X, fun _ _ => rfl, fun q h1 h2 => by omega⟩
  | succ d ih =>
    intro j fu X hd hj hf
    obtain ⟨fu, rfl⟩ : ∃ q, fu = q + 1 := ⟨fu - 1, by omega⟩
    have g : ((577 : Int32) ≤ nI j) = False := (nle_e (a := 577) (by omega) (by omega)).trans (eq_false (by omega))
    have hx : ¬ (nI j < 0 ∨ 577 ≤ (nI j).toNatClampNeg) := nI_inb (by omega) (by decide)
    obtain ⟨X', c1, c2, c3, c4⟩ := ih (j + 1) fu (gU3 X 112 j (-1)) (by omega) (by omega) (by omega)
    refine ⟨X', ?_, (Sm.u3 X (Or.inl rfl)).tr c2, fun q hq => ?_, fun q h1 h2 => ?_⟩
    · rw [fX6_search_now_2, if_neg hx, nI_clamp (by omega), i_add1]
      simp only [g, Option.bind_some, ↓reduceIte, km_1, km_2, km_3, km_4, km_5, km_6, km_7, kn_10, kn_20, kn_21]
      exact c1
    · rw [c3 q (by omega), gU3_s, upd_i, if_neg (by omega)]
    · by_cases e : q = j
      · rw [e, c3 j (by omega), gU3_s, upd_i, if_pos rfl]
      · exact c4 q (by omega) h2
def skf (M : GS) (i : Nat) : Nat := (mSk M i).toInt.toNat
theorem mSk_r {X M : GS} {n i : Nat} (h : RLp X M n) (hi : i < n) : mSk M i = nI (skf M i) ∧ skf M i ≤ 18 := by
  have q := h.2.2.2.2.1 i hi
  have a := isN_i q.2.1 (by decide)
  have r : 0 ≤ (mSk M i).toInt ∧ (mSk M i).toInt ≤ 18 := by
    rw [mSk]
    split
    · omega
    · split
      · rw [tmul _ _ (by rw [t_2]; omega), t_2]; omega
      · rw [t_0]; omega
  obtain ⟨k, hk, e1, e2⟩ := of_nn r.1
  rw [skf, e2]
  exact ⟨e1, by omega⟩
theorem srch_l {M : GS} {n : Nat} : ∀ (d i fu : Nat) (X : GS), n - i = d → i ≤ n → d < fu → RLp X M n → TB (skf M) i X → ∃ X', fX6_search_now_35 fu X (nI i) = some X' ∧ Sm X X' ∧ TB (skf M) n X' := by
  intro d
  induction d with
  | zero =>
    intro i fu X hd hi hf hL hT
    have hn := hL.1
    obtain ⟨fu, rfl⟩ : ∃ q, fu = q + 1 := ⟨fu - 1, by omega⟩
    have e : i = n := by omega
    subst e
    have g : (nI i ≤ nI i) = True := (nle_e (by omega) (by omega)).trans (eq_true (by omega))
    refine ⟨X, ?_, Sm.rf X, hT⟩
    rw [fX6_search_now_35]
    simp only [x_count hL, g, Option.bind_some, ↓reduceIte, km_1, km_2, km_3, km_4, km_5, km_6, km_7, kn_10, kn_20, kn_21]
  | succ d ih =>
    intro i fu X hd hi hf hL hT
    have hn := hL.1
    obtain ⟨fu, rfl⟩ : ∃ q, fu = q + 1 := ⟨fu - 1, by omega⟩
    have hin : i < n := by omega
    have g : (nI n ≤ nI i) = False := (nle_e (by omega) (by omega)).trans (eq_false (by omega))
    have q := mSk_r hL hin
    have g0 : (nI (skf M i) ≤ (0 : Int32)) = (skf M i ≤ 0) := nle_e (b := 0) (by omega) (by omega)
    rw [fX6_search_now_35]
    simp only [x_count hL, g, x_sunk hL hin, q.1, g0, i_add1, shl_i (show i < 16 by omega), Option.bind_some, ↓reduceIte, km_1, km_2, km_3, km_4, km_5, km_6, km_7, kn_10, kn_20, kn_21]
    by_cases h0 : skf M i = 0
    · rw [if_pos (by omega)]
      refine ih (i + 1) fu X (by omega) (by omega) (by omega) hL (fun j hj => ?_)
      rw [hT j hj, lb, if_pos h0]
    · rw [if_neg (by omega)]
      obtain ⟨X1, c1, c2, c3⟩ := add_1 (show i < 16 by omega) (fun j hj => (mSk_r hL (show j < n by omega)).2) h0 X hT
      obtain ⟨X', d1, d2, d3⟩ := ih (i + 1) fu X1 (by omega) (by omega) (by omega) (hL.sm c2) c3
      rw [c1]
      exact ⟨X', d1, c2.tr d2, d3⟩
theorem pick_stop (X : GS) (fu : Nat) (v : Int32) (h : X.1 114 ≠ -1) : fX6_pickNearest_7 (fu + 1) X v = some X := by
  rw [fX6_pickNearest_7, if_neg h, ite_self]
theorem pick_l {sk : Nat → Nat} {n : Nat} (hn : n ≤ 16) (hs : ∀ i, i < n → sk i ≤ 18) (hE : ∃ t b, lb sk n t = some b) : ∀ (d j fu : Nat) (X : GS), 289 - j = d → j ≤ 289 → d < fu → TB sk n X → X.1 114 = -1 → (∀ t : Int, t.natAbs < j → lb sk n t = none) → ∃ X' b t, fX6_pickNearest_7 fu X (nI j) = some X' ∧ Sm X X' ∧ X'.1 114 = nI b ∧ (X'.1 115).toInt = t ∧ lb sk n t = some b ∧ ∀ t' b', lb sk n t' = some b' → t.natAbs ≤ t'.natAbs ∧ (t'.natAbs = t.natAbs → b ≤ b') := by
  intro d
  induction d with
  | zero =>
    intro j fu X hd hj hf hT h1 h2
    obtain ⟨t, b, e⟩ := hE
    have r := sg_r sk b n hs
    have q := lb_some e
    rw [h2 t (by omega)] at e
    cases e
  | succ d ih =>
    intro j fu X hd hj hf hT h1 h2
    obtain ⟨fu, rfl⟩ : ∃ q, fu = q + 1 := ⟨fu - 1, by omega⟩
    have p := p16 hn
    have g : ((288 : Int32) < nI j) = False := (nlt_e (a := 288) (by omega) (by omega)).trans (eq_false (by omega))
    have ej : (nI j).toInt = (j : Int) := tni _ (by omega)
    have en : (-nI j).toInt = -(j : Int) := by rw [tneg _ (by omega), ej]
    have b1 := x_bits hT hn hs (nI j)
    have b2 := x_bits hT hn hs (-nI j)
    rw [ej] at b1
    rw [en] at b2
    rw [fX6_pickNearest_7]
    simp only [g, h1, b1, b2, i_add1, Option.bind_some, ↓reduceIte, km_1, km_2, km_3, km_4, km_5, km_6, km_7, kn_10, kn_20, kn_21]
    have fin : ∀ (b : Nat) (v : Int32), (v.toInt = j ∨ v.toInt = -(j : Int)) → lb sk n v.toInt = some b → (∀ b', lb sk n (-v.toInt) = some b' → b ≤ b') → ∃ X' c t, fX6_pickNearest_7 fu (gU1 (gU1 X 114 (nI b)) 115 v) (nI (j + 1)) = some X' ∧ Sm X X' ∧ X'.1 114 = nI c ∧ (X'.1 115).toInt = t ∧ lb sk n t = some c ∧ ∀ t' b', lb sk n t' = some b' → t.natAbs ≤ t'.natAbs ∧ (t'.natAbs = t.natAbs → c ≤ b') := by
      intro b v hv e1 e2
      have q := (lb_some e1).1
      obtain ⟨fu, rfl⟩ : ∃ q, fu = q + 1 := ⟨fu - 1, by omega⟩
      refine ⟨_, b, v.toInt, pick_stop _ fu _ (nI_nm1 (by omega)), (Sm.u1 X (Or.inl rfl)).tr (Sm.u1 _ (Or.inr rfl)), rfl, rfl, e1, fun t' b' e' => ⟨?_, fun ht => ?_⟩⟩
      · by_cases hlt : t'.natAbs < j
        · rw [h2 t' hlt] at e'
          cases e'
        · omega
      · by_cases h3 : t' = v.toInt
        · rw [h3, e1] at e'
          cases e'
          omega
        · have : t' = -v.toInt := by omega
          rw [this] at e'
          exact e2 b' e'
    cases e1 : lb sk n (j : Int) with
    | none =>
      rw [if_pos (show enc none = -1 from rfl)]
      cases e2 : lb sk n (-(j : Int)) with
      | none =>
        refine (fun ⟨X', b, t, c1, c2, c3⟩ => ⟨X', b, t, c1, ((Sm.u1 X (Or.inl rfl)).tr (Sm.u1 _ (Or.inr rfl))).tr c2, c3⟩) (ih (j + 1) fu (gU1 (gU1 X 114 (enc none)) 115 (-nI j)) (by omega) (by omega) (by omega) hT rfl (fun t ht => ?_))
        by_cases h3 : t.natAbs < j
        · exact h2 t h3
        · by_cases h4 : t = j
          · rw [h4, e1]
          · rw [show t = -(j : Int) by omega, e2]
      | some b =>
        rw [show enc (some b) = nI b from rfl]
        exact fin b (-nI j) (Or.inr en) (by rw [en]; exact e2) (fun b' e' => by
          rw [en, Int.neg_neg, e1] at e'
          cases e')
    | some b =>
      have q := (lb_some e1).1
      rw [if_neg (show ¬ enc (some b) = -1 from nI_nm1 (by omega))]
      cases e2 : lb sk n (-(j : Int)) with
      | none =>
        rw [if_pos (show enc none = -1 from rfl)]
        rw [show enc (some b) = nI b from rfl]
        exact fin b (nI j) (Or.inl ej) (by rw [ej]; exact e1) (fun b' e' => by
          rw [ej, e2] at e'
          cases e')
      | some b2 =>
        have q2 := (lb_some e2).1
        rw [if_neg (show ¬ enc (some b2) = -1 from nI_nm1 (by omega))]
        have hc : (enc (some b2) < enc (some b)) = (b2 < b) := nlt_e (by omega) (by omega)
        by_cases h3 : b2 < b
        · rw [if_pos (by rw [hc]; exact h3)]
          rw [show enc (some b2) = nI b2 from rfl]
          exact fin b2 (-nI j) (Or.inr en) (by rw [en]; exact e2) (fun b' e' => by
            rw [en, Int.neg_neg, e1] at e'
            cases e'
            omega)
        · rw [if_neg (by rw [hc]; exact h3)]
          rw [show enc (some b) = nI b from rfl]
          exact fin b (nI j) (Or.inl ej) (by rw [ej]; exact e1) (fun b' e' => by
            rw [ej, e2] at e'
            cases e'
            omega)
theorem x_search {X M : GS} {n : Nat} (hL : RLp X M n) : ∃ X' b t, fX6_search_now X = some X' ∧ Sm X X' ∧ X'.1 114 = nI b ∧ (X'.1 115).toInt = t ∧ lb (skf M) n t = some b ∧ ∀ t' b', lb (skf M) n t' = some b' → t.natAbs ≤ t'.natAbs ∧ (t'.natAbs = t.natAbs → b ≤ b') := by
  have hn := hL.1
  obtain ⟨X1, a1, a2, -, a4⟩ := fill_l 577 0 gFuel X rfl (by omega) (gFu _ (by omega))
  rw [show nI 0 = (0 : Int32) from rfl] at a1
  have s2 : Sm X (gU3 X1 112 288 0) := a2.tr (Sm.u3 X1 (Or.inl rfl))
  have hT0 : TB (skf M) 0 (gU3 X1 112 288 0) := fun j hj => by
    rw [gU3_s, upd_i, lb]
    by_cases e : j = 288
    · rw [if_pos e, if_pos (by omega)]
      rfl
    · rw [if_neg e, if_neg (by omega), a4 j (by omega) hj]
      rfl
  obtain ⟨X2, b1, b2, b3⟩ := srch_l n 0 gFuel (gU3 X1 112 288 0) (by omega) (by omega) (gFu _ (by omega)) (hL.sm s2) hT0
  rw [show nI 0 = (0 : Int32) from rfl] at b1
  have p := p16 hn
  have hE : ∃ t b, lb (skf M) n t = some b := by
    refine ⟨sg (skf M) 0 n, ?_⟩
    cases e : lb (skf M) n (sg (skf M) 0 n) with
    | some b => exact ⟨b, rfl⟩
    | none => exact absurd rfl (lb_none e 0 (by omega))
  obtain ⟨X', b, t, c1, c2, c3⟩ := pick_l hn (fun i hi => (mSk_r hL hi).2) hE 289 0 gFuel (gU1 X2 114 (-1)) (by omega) (by omega) (gFu _ (by omega)) b3 rfl (fun t ht => by omega)
  rw [show nI 0 = (0 : Int32) from rfl] at c1
  refine ⟨X', b, t, ?_, (s2.tr b2).tr ((Sm.u1 X2 (Or.inl rfl)).tr c2), c3⟩
  have e288 : (288 : Int32).toNatClampNeg = 288 := by decide +kernel
  simp only [fX6_search_now, fX6_pickNearest, a1, b1, c1, e288, Option.bind_some]
