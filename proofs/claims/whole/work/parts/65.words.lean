/-! loop: letters and words -/
def ltr (c : Nat → Int32) (L i : Nat) : Int32 := if i < L then c i else -1
def XF (X X' : GS) : Prop := (∀ k, k ≠ 34 → k ≠ 35 → k ≠ 84 → k ≠ 85 → X'.1 k = X.1 k) ∧ (∀ k, k ≠ 32 → k ≠ 33 → k ≠ 81 → X'.2.2.1 k = X.2.2.1 k) ∧ X'.2.2.2 = X.2.2.2
def MF (M M' : GS) : Prop := (∀ k, (k = 5 ∨ k = 24 ∨ k = 26 ∨ 28 < k) → M'.1 k = M.1 k) ∧ (∀ k, (k < 7 ∨ 14 < k) → k ≠ 23 → M'.2.2.1 k = M.2.2.1 k) ∧ M'.2.2.2 = M.2.2.2
theorem XF.rf (X : GS) : XF X X := ⟨fun _ _ _ _ _ => rfl, fun _ _ _ _ => rfl, rfl⟩
theorem MF.rf (M : GS) : MF M M := ⟨fun _ _ => rfl, fun _ _ _ => rfl, rfl⟩
theorem XF.tr {X Y Z : GS} (h : XF X Y) (g : XF Y Z) : XF X Z := ⟨fun k a b c d => (g.1 k a b c d).trans (h.1 k a b c d), fun k a b c => (g.2.1 k a b c).trans (h.2.1 k a b c), g.2.2.trans h.2.2⟩
theorem MF.tr {X Y Z : GS} (h : MF X Y) (g : MF Y Z) : MF X Z := ⟨fun k a => (g.1 k a).trans (h.1 k a), fun k a b => (g.2.1 k a b).trans (h.2.1 k a b), g.2.2.trans h.2.2⟩
theorem XF.u1 (X : GS) {k : Nat} (v : Int32) (h : k = 34 ∨ k = 35 ∨ k = 84 ∨ k = 85) : XF X (gU1 X k v) := ⟨fun j a b c d => gU1_n _ _ _ _ (by omega), fun _ _ _ _ => rfl, rfl⟩
theorem XF.u3 (X : GS) {k : Nat} (i : Nat) (v : Int32) (h : k = 32 ∨ k = 33 ∨ k = 81) : XF X (gU3 X k i v) := ⟨fun _ _ _ _ _ => rfl, fun j a b c => gU3_n _ _ _ _ _ (by omega), rfl⟩
theorem MF.u1 (M : GS) {k : Nat} (v : Int32) (h : k < 5 ∨ k = 25 ∨ k = 27 ∨ k = 28) : MF M (gU1 M k v) := ⟨fun j a => gU1_n _ _ _ _ (by omega), fun _ _ _ => rfl, rfl⟩
theorem MF.u3 (M : GS) {k : Nat} (i : Nat) (v : Int32) (h : (7 ≤ k ∧ k ≤ 14) ∨ k = 23) : MF M (gU3 M k i v) := ⟨fun _ _ => rfl, fun j a b => gU3_n _ _ _ _ _ (by omega), rfl⟩
def PC (c : Nat → Int32) (s L : Nat) (X M : GS) : Prop := s < 8 ∧ L ≤ 160 ∧ X.1 83 = nI L ∧ (∀ i, i < L → X.2.2.1 82 i = c i) ∧ M.1 24 = nI (160 * s) ∧ M.1 26 = nI L ∧ (∀ i, i < L → (M.2.2.2 19 (160 * s + i)).toInt32 = c i) ∧ MC (M.2.2.1 21) (M.2.2.1 22)
theorem PC.f {c : Nat → Int32} {s L : Nat} {X M X' M' : GS} (h : PC c s L X M) (f : XF X X') (g : MF M M') : PC c s L X' M' := by
  obtain ⟨h1, h2, h3, h4, h5, h6, h7, h8⟩ := h
  refine ⟨h1, h2, ?_, ?_, ?_, ?_, ?_, ?_⟩
  · rw [f.1 83 (by decide) (by decide) (by decide) (by decide)]
    exact h3
  · rw [f.2.1 82 (by decide) (by decide) (by decide)]
    exact h4
  · rw [g.1 24 (by decide)]
    exact h5
  · rw [g.1 26 (by decide)]
    exact h6
  · rw [g.2.2]
    exact h7
  · rw [g.2.1 21 (by decide) (by decide), g.2.1 22 (by decide) (by decide)]
    exact h8
theorem in160 {s : Nat} (hs : s < 160) : (nI s < 0 ∨ 160 ≤ s) = False := by
  have q := nI_in (c := s) (N := 160) hs (by decide)
  rw [nI_clamp (by omega)] at q
  exact eq_false q
theorem in1280 {s : Nat} (hs : s < 1280) : (nI s < 0 ∨ 1280 ≤ s) = False := by
  have q := nI_in (c := s) (N := 1280) hs (by decide)
  rw [nI_clamp (by omega)] at q
  exact eq_false q
theorem in48 {s : Nat} (hs : s < 48) : (nI s < 0 ∨ 48 ≤ s) = False := by
  have q := nI_in (c := s) (N := 48) hs (by decide)
  rw [nI_clamp (by omega)] at q
  exact eq_false q
theorem clm {s : Nat} (hs : s < 2147483648) : (nI s).toNatClampNeg = s := nI_clamp hs
section WORDS
variable {c : Nat → Int32} {s L : Nat} {X M : GS}
theorem x_let (h : PC c s L X M) {i : Nat} (hi : i < 100000) : fX4_letterAt X (nI i) = some (ltr c L i) := by
  have hL := h.2.1
  have g0 : (nI i < 0) = False := eq_false (nI_pos (by omega))
  have g1 : (nI L ≤ nI i) = (L ≤ i) := nle_e (by omega) (by omega)
  by_cases q : i < L
  · have g2 : ((160 : Int32) ≤ nI i) = False := (nle_e (a := 160) (by omega) (by omega)).trans (eq_false (by omega))
    simp only [fX4_letterAt, h.2.2.1, g0, g1, eq_false (show ¬ L ≤ i by omega), g2, clm (show i < 2147483648 by omega), eq_false (show ¬ 160 ≤ i by omega), or_false, h.2.2.2.1 i q, ltr, eq_true q, Option.bind_some, ↓reduceIte, km_1, km_2, km_3, km_4, km_5, km_6, km_7, kn_10, kn_20, kn_21]
  · simp only [fX4_letterAt, h.2.2.1, g0, g1, eq_true (show L ≤ i by omega), ltr, eq_false q, Option.bind_some, ↓reduceIte, km_1, km_2, km_3, km_4, km_5, km_6, km_7, kn_10, kn_20, kn_21]
/-- how far it goes along -/
def mt (c : Nat → Int32) (L p : Nat) (g : Nat → Int32) : Nat → Nat → Nat
  | 0, j => j
  | d + 1, j => if ltr c L (p + j) = g j then mt c L p g d (j + 1) else j
theorem mt_s (c : Nat → Int32) (L p : Nat) (g : Nat → Int32) : ∀ d j, j ≤ mt c L p g d j ∧ mt c L p g d j ≤ j + d ∧ (∀ k, j ≤ k → k < mt c L p g d j → ltr c L (p + k) = g k) ∧ (mt c L p g d j < j + d → ltr c L (p + mt c L p g d j) ≠ g (mt c L p g d j)) := by
  intro d
  induction d with
  | zero => exact fun j => ⟨Nat.le_refl j, Nat.le_refl j, fun k h1 h2 => absurd h2 (by show ¬ k < j; omega), fun h => absurd h (by show ¬ j < j + 0; omega)⟩
  | succ d ih =>
    intro j
    rw [mt]
    split
    · next e =>
      obtain ⟨h1, h2, h3, h4⟩ := ih (j + 1)
      refine ⟨by omega, by omega, fun k a b => ?_, fun q => h4 (by omega)⟩
      by_cases e2 : k = j
      · rw [e2]
        exact e
      · exact h3 k (by omega) b
    · next e => exact ⟨Nat.le_refl j, by omega, fun k a b => absurd b (by omega), fun _ => e⟩
def wl (w k : Nat) : Int32 := (gSb.getD w []).getD k 0
def ln (w : Nat) : Nat := gSl.getD w 0
def stw (w : Nat) : Nat := [0, 7, 15, 22, 29, 35, 41, 48].getD w 0
def wg (w k : Nat) : Int32 := wTab.getD (stw w + k) 0
def aw (c : Nat → Int32) (L p w : Nat) : Nat := mt c L p (wl w) (ln w) 0
def bw (c : Nat → Int32) (L p w : Nat) : Nat := mt c L p (wg w) (ln w + 1) 0
theorem aw_s (c : Nat → Int32) (L p w : Nat) : 0 ≤ aw c L p w ∧ aw c L p w ≤ 0 + ln w ∧ (∀ k, 0 ≤ k → k < aw c L p w → ltr c L (p + k) = wl w k) ∧ (aw c L p w < 0 + ln w → ltr c L (p + aw c L p w) ≠ wl w (aw c L p w)) := mt_s c L p (wl w) (ln w) 0
theorem bw_s (c : Nat → Int32) (L p w : Nat) : 0 ≤ bw c L p w ∧ bw c L p w ≤ 0 + (ln w + 1) ∧ (∀ k, 0 ≤ k → k < bw c L p w → ltr c L (p + k) = wg w k) ∧ (bw c L p w < 0 + (ln w + 1) → ltr c L (p + bw c L p w) ≠ wg w (bw c L p w)) := mt_s c L p (wg w) (ln w + 1) 0
theorem ln_r : ∀ w, w < 7 → 4 ≤ ln w ∧ ln w ≤ 6 := by decide +kernel
theorem ln_i : ∀ w, w < 7 → Int32.ofNat (gSl.getD w 0) >>> ((0 : Int32) &&& 31) = nI (ln w) := by decide +kernel
theorem ch_i : ∀ w, w < 7 → ∀ k, k < ln w → ¬ nI k < 0 ∧ nI k < Int32.ofNat (gSl.getD w 0) ∧ ¬ (nI k < 0 ∨ gSl.getD w 0 ≤ (nI k).toNatClampNeg) ∧ ((((gSb.getD w []).getD (nI k).toNatClampNeg 0) &&& 255).toUInt32 % 65536).toInt32 = wl w k := by decide +kernel
theorem wg_l : ∀ w, w < 7 → ∀ k, k < ln w → wg w k = wl w k := by decide +kernel
theorem wg_b : ∀ w, w < 7 → wg w (ln w) = 32 ∧ wg w (ln w + 1) = 0 := by decide +kernel
theorem wg_n : ∀ w, w < 7 → ∀ k, k < ln w + 1 → wg w k ≠ 0 ∧ wg w k ≠ -1 := by decide +kernel
theorem st_r : ∀ w, w < 7 → stw w + ln w + 1 < 48 ∧ stw (w + 1) = stw w + ln w + 2 := by decide +kernel
theorem w0_r : (∀ k, k < 5 → ¬ wg 0 k ≤ 32) ∧ wg 0 5 ≤ 32 := by decide +kernel
theorem w_un : ∀ w, w < 7 → ∀ w', w' < 7 → w' ≠ w → ln w ≤ ln w' → ∃ k, k < ln w ∧ wl w' k ≠ wl w k := by decide +kernel
theorem x_wlen (X : GS) {w : Nat} (hw : w < 7) : fJ0_length_8abf5 X w = some (nI (ln w)) := by
  rw [fJ0_length_8abf5, if_neg (by omega), ln_i w hw]
theorem x_wch (X : GS) {w : Nat} (hw : w < 7) {k : Nat} (hk : k < ln w) : fJ0_charAt_5068e X w (nI k) = some (wl w k) := by
  obtain ⟨h1, h2, h3, h4⟩ := ch_i w hw k hk
  rw [fJ0_charAt_5068e, if_neg (by omega), if_neg h1, if_neg (fun q => q h2), if_neg h3, h4]
theorem x_wo (X : GS) {w : Nat} (hw : w < 7) : fX4_wordOf X (nI w) = some w := by
  rcases (show w = 0 ∨ w = 1 ∨ w = 2 ∨ w = 3 ∨ w = 4 ∨ w = 5 ∨ w = 6 by omega) with rfl | rfl | rfl | rfl | rfl | rfl | rfl <;> rfl
theorem x_mat7 (h : PC c s L X M) {w p : Nat} (hw : w < 7) (hp : X.1 84 = nI p) (hp2 : p < 90000) : ∀ (d j fu : Nat), ln w - j = d → j ≤ ln w → d < fu → fX4_matchedOf_7 fu X w (nI j) = some (nI (mt c L p (wl w) d j)) := by
  have hl := ln_r w hw
  have hw7 : (7 ≤ w) = False := eq_false (by omega)
  intro d
  induction d with
  | zero =>
    intro j fu hd hj hf
    obtain ⟨fu, rfl⟩ : ∃ q, fu = q + 1 := ⟨fu - 1, by omega⟩
    have g : (nI (ln w) ≤ nI j) = True := (nle_e (by omega) (by omega)).trans (eq_true (by omega))
    simp only [fX4_matchedOf_7, hw7, x_wlen X hw, g, mt, Option.bind_some, ↓reduceIte, km_1, km_2, km_3, km_4, km_5, km_6, km_7, kn_10, kn_20, kn_21]
  | succ d ih =>
    intro j fu hd hj hf
    obtain ⟨fu, rfl⟩ : ∃ q, fu = q + 1 := ⟨fu - 1, by omega⟩
    have g : (nI (ln w) ≤ nI j) = False := (nle_e (by omega) (by omega)).trans (eq_false (by omega))
    have e := ih (j + 1) fu (by omega) (by omega) (by omega)
    rw [fX4_matchedOf_7]
    simp only [hw7, x_wlen X hw, g, hp, i_add, x_let h (show p + j < 100000 by omega), x_wch X hw (show j < ln w by omega), i_add1, mt, Option.bind_some, ↓reduceIte, km_1, km_2, km_3, km_4, km_5, km_6, km_7, kn_10, kn_20, kn_21]
    split
    · exact e
    · rfl
theorem x_mat (h : PC c s L X M) {w p : Nat} (hw : w < 7) (hp : X.1 84 = nI p) (hp2 : p < 90000) : fX4_matchedOf X (nI w) = some (nI (aw c L p w)) := by
  have hl := ln_r w hw
  have e := x_mat7 h hw hp hp2 (ln w) 0 gFuel (by omega) (by omega) (gFu _ (by omega))
  rw [fX4_matchedOf, x_wo X hw]
  exact (congrArg (fun z => Option.bind z (fun u => some u)) e).trans rfl
theorem aw_r (c : Nat → Int32) (L p : Nat) {w : Nat} (hw : w < 7) : aw c L p w ≤ ln w ∧ aw c L p w ≤ 6 := by
  have hl := ln_r w hw
  have q := (aw_s c L p w).2.1
  constructor <;> omega
theorem x_long4 (h : PC c s L X M) {p : Nat} (hp : X.1 84 = nI p) (hp2 : p < 90000) : ∀ (d v fu r : Nat), 7 - v = d → v ≤ 7 → d < fu → r < 7 → (∀ w, w < v → aw c L p w ≤ aw c L p r) → ∃ r', fX4_longestWordHere_4 fu X (nI r) (nI v) = some (nI r') ∧ r' < 7 ∧ ∀ w, w < 7 → aw c L p w ≤ aw c L p r' := by
  intro d
  induction d with
  | zero =>
    intro v fu r hd hv hf hr hm
    obtain ⟨fu, rfl⟩ : ∃ q, fu = q + 1 := ⟨fu - 1, by omega⟩
    have e : v = 7 := by omega
    subst e
    exact ⟨r, by rw [fX4_longestWordHere_4, if_pos (show (7 : Int32) ≤ nI 7 by decide +kernel)], hr, hm⟩
  | succ d ih =>
    intro v fu r hd hv hf hr hm
    obtain ⟨fu, rfl⟩ : ∃ q, fu = q + 1 := ⟨fu - 1, by omega⟩
    have g : ((7 : Int32) ≤ nI v) = False := (nle_e (a := 7) (by omega) (by omega)).trans (eq_false (by omega))
    have r1 := aw_r c L p (show v < 7 by omega)
    have r2 := aw_r c L p hr
    have g2 : (nI (aw c L p v) ≤ nI (aw c L p r)) = (aw c L p v ≤ aw c L p r) := nle_e (by omega) (by omega)
    rw [fX4_longestWordHere_4]
    simp only [g, x_mat h (show v < 7 by omega) hp hp2, x_mat h hr hp hp2, g2, i_add1, Option.bind_some, ↓reduceIte, km_1, km_2, km_3, km_4, km_5, km_6, km_7, kn_10, kn_20, kn_21]
    split
    · next q => exact ih (v + 1) fu r (by omega) (by omega) (by omega) hr (fun w hw => by
        by_cases e : w = v
        · rw [e]; exact q
        · exact hm w (by omega))
    · next q => exact ih (v + 1) fu v (by omega) (by omega) (by omega) (by omega) (fun w hw => by
        by_cases e : w = v
        · rw [e]; exact Nat.le_refl _
        · have := hm w (by omega)
          omega)
theorem x_long (h : PC c s L X M) {p : Nat} (hp : X.1 84 = nI p) (hp2 : p < 90000) : ∃ r, fX4_longestWordHere X = some (nI r) ∧ r < 7 ∧ ∀ w, w < 7 → aw c L p w ≤ aw c L p r := by
  obtain ⟨r, e, h1, h2⟩ := x_long4 h hp hp2 6 1 gFuel 0 rfl (by decide) (gFu _ (by decide)) (by decide) (fun w hw => by
    have e : w = 0 := by omega
    rw [e]; exact Nat.le_refl _)
  exact ⟨r, (congrArg (fun z => Option.bind z (fun u => some u)) e).trans rfl, h1, h2⟩
theorem aw_un (c : Nat → Int32) (L p : Nat) {w w' : Nat} (hw : w < 7) (hw' : w' < 7) (e : aw c L p w = ln w) (hn : w' ≠ w) : aw c L p w' < ln w := by
  by_cases g : aw c L p w' < ln w
  · exact g
  · exfalso
    have s1 := aw_s c L p w
    have s2 := aw_s c L p w'
    obtain ⟨k, hk, hd⟩ := w_un w hw w' hw' hn (by omega)
    exact hd ((s2.2.2.1 k (Nat.zero_le k) (by omega)).symm.trans (s1.2.2.1 k (Nat.zero_le k) (by omega)))
theorem mt_u {p d r r' : Nat} {g : Nat → Int32} (h1 : r ≤ d ∧ (∀ k, k < r → ltr c L (p + k) = g k) ∧ (r < d → ltr c L (p + r) ≠ g r)) (h2 : r' ≤ d ∧ (∀ k, k < r' → ltr c L (p + k) = g k) ∧ (r' < d → ltr c L (p + r') ≠ g r')) : r = r' := by
  by_cases q : r < r'
  · exact absurd (h2.2.1 r q) (h1.2.2 (by omega))
  · by_cases q2 : r' < r
    · exact absurd (h1.2.1 r' q2) (h2.2.2 (by omega))
    · omega
theorem ba (c : Nat → Int32) (L p : Nat) {w : Nat} (hw : w < 7) : bw c L p w = if aw c L p w < ln w then aw c L p w else if ltr c L (p + ln w) = 32 then ln w + 1 else ln w := by
  have s1 := aw_s c L p w
  have s2 := bw_s c L p w
  have r1 := (aw_r c L p hw).1
  have wb := (wg_b w hw).1
  refine mt_u (c := c) (L := L) (p := p) (g := wg w) (d := ln w + 1) ⟨by omega, fun k hk => s2.2.2.1 k (Nat.zero_le k) hk, fun hk => s2.2.2.2 (by omega)⟩ ?_
  by_cases q : aw c L p w < ln w
  · rw [if_pos q]
    refine ⟨by omega, fun k hk => ?_, fun _ => ?_⟩
    · rw [wg_l w hw k (by omega)]
      exact s1.2.2.1 k (Nat.zero_le k) hk
    · rw [wg_l w hw _ q]
      exact s1.2.2.2 (by omega)
  · rw [if_neg q]
    have e : aw c L p w = ln w := by omega
    by_cases q2 : ltr c L (p + ln w) = 32
    · rw [if_pos q2]
      refine ⟨Nat.le_refl _, fun k hk => ?_, fun hk => absurd hk (by omega)⟩
      by_cases e2 : k = ln w
      · rw [e2, q2, wb]
      · rw [wg_l w hw k (by omega)]
        exact s1.2.2.1 k (Nat.zero_le k) (by omega)
    · rw [if_neg q2]
      refine ⟨by omega, fun k hk => ?_, fun _ => ?_⟩
      · rw [wg_l w hw k hk]
        exact s1.2.2.1 k (Nat.zero_le k) (by omega)
      · rw [wb]
        exact q2
theorem m_wd (h : PC c s L X M) {w j : Nat} (hw : w < 7) (hj : j ≤ ln w + 1) : M.2.2.1 21 (stw w + j) = wg w j := by
  have r := (st_r w hw).1
  exact h.2.2.2.2.2.2.2.1 (stw w + j) (by omega)
theorem m_w24 (h : PC c s L X M) {w p : Nat} (hw : w < 7) (hp2 : p < 90000) : ∀ (d j fu : Nat), ln w + 1 - j = d → j ≤ ln w + 1 → d < fu → fX9_word_24 fu M (nI (p + j)) (nI (stw w + j)) = some (nI (p + mt c L p (wg w) d j), nI (stw w + mt c L p (wg w) d j)) := by
  have hl := ln_r w hw
  have hr := (st_r w hw).1
  have hL := h.2.1
  have hs := h.1
  intro d
  induction d with
  | zero =>
    intro j fu hd hj hf
    obtain ⟨fu, rfl⟩ : ∃ q, fu = q + 1 := ⟨fu - 1, by omega⟩
    have e : j = ln w + 1 := by omega
    subst e
    simp only [fX9_word_24, clm (show stw w + (ln w + 1) < 2147483648 by omega), in48 (show stw w + (ln w + 1) < 48 by omega), m_wd h hw (Nat.le_refl (ln w + 1)), (wg_b w hw).2, mt, eq_self, Option.bind_some, ↓reduceIte, km_1, km_2, km_3, km_4, km_5, km_6, km_7, kn_10, kn_20, kn_21]
  | succ d ih =>
    intro j fu hd hj hf
    obtain ⟨fu, rfl⟩ : ∃ q, fu = q + 1 := ⟨fu - 1, by omega⟩
    have nz := wg_n w hw j (by omega)
    have g1 : (nI L ≤ nI (p + j)) = (L ≤ p + j) := nle_e (by omega) (by omega)
    have e := ih (j + 1) fu (by omega) (by omega) (by omega)
    rw [fX9_word_24]
    simp only [clm (show stw w + j < 2147483648 by omega), in48 (show stw w + j < 48 by omega), m_wd h hw hj, eq_false nz.1, h.2.2.2.2.2.1, g1, h.2.2.2.2.1, i_add, i_add1, Option.bind_some, ↓reduceIte, km_1, km_2, km_3, km_4, km_5, km_6, km_7, kn_10, kn_20, kn_21]
    by_cases q : L ≤ p + j
    · have el : ltr c L (p + j) = -1 := if_neg (by omega)
      rw [if_pos q, mt, if_neg (by rw [el]; exact fun z => nz.2 z.symm)]
    · have el : ltr c L (p + j) = c (p + j) := if_pos (by omega)
      simp only [eq_false q, clm (show 160 * s + (p + j) < 2147483648 by omega), in1280 (show 160 * s + (p + j) < 1280 by omega), h.2.2.2.2.2.2.1 (p + j) (by omega), mt, el, Option.bind_some, ↓reduceIte, km_1, km_2, km_3, km_4, km_5, km_6, km_7, kn_10, kn_20, kn_21]
      split
      · exact e
      · rfl
theorem m_w106 (h : PC c s L X M) {w : Nat} (hw : w < 7) : ∀ (d j fu : Nat), ln w + 1 - j = d → j ≤ ln w + 1 → d < fu → fX9_word_106 fu M (nI (stw w + j)) = some (nI (stw w + (ln w + 1))) := by
  have hl := ln_r w hw
  have hr := (st_r w hw).1
  intro d
  induction d with
  | zero =>
    intro j fu hd hj hf
    obtain ⟨fu, rfl⟩ : ∃ q, fu = q + 1 := ⟨fu - 1, by omega⟩
    have e : j = ln w + 1 := by omega
    subst e
    simp only [fX9_word_106, clm (show stw w + (ln w + 1) < 2147483648 by omega), in48 (show stw w + (ln w + 1) < 48 by omega), m_wd h hw (Nat.le_refl (ln w + 1)), (wg_b w hw).2, eq_self, Option.bind_some, ↓reduceIte, km_1, km_2, km_3, km_4, km_5, km_6, km_7, kn_10, kn_20, kn_21]
  | succ d ih =>
    intro j fu hd hj hf
    obtain ⟨fu, rfl⟩ : ∃ q, fu = q + 1 := ⟨fu - 1, by omega⟩
    have nz := wg_n w hw j (by omega)
    rw [fX9_word_106]
    simp only [clm (show stw w + j < 2147483648 by omega), in48 (show stw w + j < 48 by omega), m_wd h hw hj, eq_false nz.1, i_add1, Option.bind_some, ↓reduceIte, km_1, km_2, km_3, km_4, km_5, km_6, km_7, kn_10, kn_20, kn_21]
    exact ih (j + 1) fu (by omega) (by omega) (by omega)
theorem m_st37 (h : PC c s L X M) {p : Nat} (hp2 : p < 90000) : ∀ (d j fu : Nat), 5 - j = d → j ≤ 5 → d < fu → fX9_stands_37 fu M (nI j) (nI (p + j)) = some (nI (mt c L p (wl 0) d j)) := by
  have hL := h.2.1
  have hs := h.1
  have hw : ∀ j, j ≤ 5 → M.2.2.1 21 j = wg 0 j := fun j hj => by
    have e := m_wd h (w := 0) (j := j) (by decide) (show j ≤ 6 by omega)
    rw [show stw 0 + j = j from Nat.zero_add j] at e
    exact e
  intro d
  induction d with
  | zero =>
    intro j fu hd hj hf
    obtain ⟨fu, rfl⟩ : ∃ q, fu = q + 1 := ⟨fu - 1, by omega⟩
    have e : j = 5 := by omega
    subst e
    simp only [fX9_stands_37, clm (show 5 < 2147483648 by decide), in48 (show 5 < 48 by decide), hw 5 (by decide), eq_true w0_r.2, mt, Option.bind_some, ↓reduceIte, km_1, km_2, km_3, km_4, km_5, km_6, km_7, kn_10, kn_20, kn_21]
  | succ d ih =>
    intro j fu hd hj hf
    obtain ⟨fu, rfl⟩ : ∃ q, fu = q + 1 := ⟨fu - 1, by omega⟩
    have nz := wg_n 0 (by decide) j (show j < 6 by omega)
    have wE : wg 0 j = wl 0 j := wg_l 0 (by decide) j (show j < 5 by omega)
    have g1 : (nI L ≤ nI (p + j)) = (L ≤ p + j) := nle_e (by omega) (by omega)
    have e := ih (j + 1) fu (by omega) (by omega) (by omega)
    rw [fX9_stands_37]
    simp only [clm (show j < 2147483648 by omega), in48 (show j < 48 by omega), hw j (by omega), eq_false (w0_r.1 j (by omega)), h.2.2.2.2.2.1, g1, h.2.2.2.2.1, i_add, i_add1, Option.bind_some, ↓reduceIte, km_1, km_2, km_3, km_4, km_5, km_6, km_7, kn_10, kn_20, kn_21]
    rw [wE] at nz ⊢
    by_cases q : L ≤ p + j
    · have el : ltr c L (p + j) = -1 := if_neg (by omega)
      rw [if_pos q, mt, if_neg (by rw [el]; exact fun z => nz.2 z.symm)]
    · have el : ltr c L (p + j) = c (p + j) := if_pos (by omega)
      simp only [eq_false q, clm (show 160 * s + (p + j) < 2147483648 by omega), in1280 (show 160 * s + (p + j) < 1280 by omega), h.2.2.2.2.2.2.1 (p + j) (by omega), mt, el, Option.bind_some, ↓reduceIte, km_1, km_2, km_3, km_4, km_5, km_6, km_7, kn_10, kn_20, kn_21]
      split
      · exact e
      · rfl
theorem m_stands (h : PC c s L X M) {p : Nat} (hp : M.1 25 = nI p) (hp2 : p < 90000) : fX9_stands M 0 = some (if aw c L p 0 = 5 then 1 else 0) := by
  have r := (aw_r c L p (w := 0) (by decide)).1
  have r5 : aw c L p 0 ≤ 5 := r
  have hw : M.2.2.1 21 (aw c L p 0) = wg 0 (aw c L p 0) := by
    have e := m_wd h (w := 0) (j := aw c L p 0) (by decide) (show aw c L p 0 ≤ 6 by omega)
    rw [show stw 0 + aw c L p 0 = aw c L p 0 from Nat.zero_add _] at e
    exact e
  have e1 : fX9_stands_4 gFuel M 0 0 0 = some 0 := by
    rw [show gFuel = 99999 + 1 from rfl, fX9_stands_4, if_pos (by decide +kernel)]
  have e2 := m_st37 h hp2 5 0 gFuel rfl (by decide) (gFu _ (by decide))
  rw [fX9_stands, e1, hp]
  have e3 : fX9_stands_37 gFuel M 0 (nI p) = some (nI (aw c L p 0)) := e2
  simp only [Option.bind_some, e3, fX9_stands_L86, clm (show aw c L p 0 < 2147483648 by omega), in48 (show aw c L p 0 < 48 by omega), hw, Option.bind_some, ↓reduceIte, km_1, km_2, km_3, km_4, km_5, km_6, km_7, kn_10, kn_20, kn_21]
  by_cases q : aw c L p 0 = 5
  · rw [if_pos q, q, if_neg (Int32.not_lt.mpr w0_r.2)]
  · rw [if_neg q, if_pos (Int32.not_le.mp (w0_r.1 _ (by omega)))]
theorem bw_r (c : Nat → Int32) (L p : Nat) {w : Nat} (hw : w < 7) : bw c L p w ≤ ln w + 1 ∧ bw c L p w ≤ 7 := by
  have hl := ln_r w hw
  have q := (bw_s c L p w).2.1
  constructor <;> omega
def Fm (c : Nat → Int32) (L p w F : Nat) : Prop := F = p ∨ ∃ v, v < w ∧ F = p + bw c L p v
theorem m_word9 (h : PC c s L X M) {p : Nat} (hp : M.1 25 = nI p) (hp2 : p < 90000) : ∀ (d w fu F : Nat), 7 - w = d → w ≤ 7 → d < fu → (∀ v, v < w → bw c L p v ≠ ln v + 1) → p ≤ F → F < 100000 → (∀ v, v < w → p + bw c L p v ≤ F) → Fm c L p w F →
    (∃ v, v < 7 ∧ bw c L p v = ln v + 1 ∧ fX9_word_9 fu M (nI (stw w)) (nI F) (nI w) = some (nI v, gU1 M 25 (nI (p + (ln v + 1))))) ∨ ((∀ v, v < 7 → bw c L p v ≠ ln v + 1) ∧ ∃ F', fX9_word_9 fu M (nI (stw w)) (nI F) (nI w) = some (-1, gU1 M 28 (nI F')) ∧ p ≤ F' ∧ (∀ v, v < 7 → p + bw c L p v ≤ F') ∧ Fm c L p 7 F') := by
  intro d
  induction d with
  | zero =>
    intro w fu F hd hw hf hn h1 h2 h3 h4
    obtain ⟨fu, rfl⟩ : ∃ q, fu = q + 1 := ⟨fu - 1, by omega⟩
    have e : w = 7 := by omega
    subst e
    exact Or.inr ⟨hn, F, by rw [fX9_word_9, if_pos (show (7 : Int32) ≤ nI 7 by decide +kernel)], h1, h3, h4⟩
  | succ d ih =>
    intro w fu F hd hw hf hn h1 h2 h3 h4
    obtain ⟨fu, rfl⟩ : ∃ q, fu = q + 1 := ⟨fu - 1, by omega⟩
    have hw7 : w < 7 := by omega
    have g : ((7 : Int32) ≤ nI w) = False := (nle_e (a := 7) (by omega) (by omega)).trans (eq_false (by omega))
    have hl := ln_r w hw7
    obtain ⟨hr, hr2⟩ := st_r w hw7
    have rb := bw_r c L p hw7
    have e24 : fX9_word_24 gFuel M (nI p) (nI (stw w)) = some (nI (p + bw c L p w), nI (stw w + bw c L p w)) := m_w24 h hw7 hp2 (ln w + 1) 0 gFuel (by omega) (by omega) (gFu _ (by omega))
    have e106 : fX9_word_106 gFuel M (nI (stw w)) = some (nI (stw w + (ln w + 1))) := m_w106 h hw7 (ln w + 1) 0 gFuel (by omega) (by omega) (gFu _ (by omega))
    have en : nI (stw w + (ln w + 1)) + 1 = nI (stw (w + 1)) := by
      rw [i_add1, hr2]
      exact congrArg nI (by omega)
    have g2 : (nI (p + bw c L p w) ≤ nI F) = (p + bw c L p w ≤ F) := nle_e (by omega) (by omega)
    have hwd := m_wd h hw7 rb.1
    by_cases q : bw c L p w = ln w + 1
    · refine Or.inl ⟨w, hw7, q, ?_⟩
      rw [q] at e24 hwd
      rw [fX9_word_9]
      simp only [g, hp, e24, clm (show stw w + (ln w + 1) < 2147483648 by omega), in48 (show stw w + (ln w + 1) < 48 by omega), hwd, (wg_b w hw7).2, eq_self, Option.bind_some, ↓reduceIte, km_1, km_2, km_3, km_4, km_5, km_6, km_7, kn_10, kn_20, kn_21]
    · have nz := (wg_n w hw7 (bw c L p w) (by omega)).1
      have hn' : ∀ v, v < w + 1 → bw c L p v ≠ ln v + 1 := fun v hv => by
        by_cases e : v = w
        · rw [e]; exact q
        · exact hn v (by omega)
      rw [fX9_word_9]
      simp only [g, hp, e24, clm (show stw w + bw c L p w < 2147483648 by omega), in48 (show stw w + bw c L p w < 48 by omega), hwd, eq_false nz, g2, e106, en, i_add1, Option.bind_some, ↓reduceIte, km_1, km_2, km_3, km_4, km_5, km_6, km_7, kn_10, kn_20, kn_21]
      by_cases q2 : p + bw c L p w ≤ F
      · simp only [eq_true q2, ↓reduceIte]
        exact ih (w + 1) fu F (by omega) (by omega) (by omega) hn' h1 h2 (fun v hv => by
          by_cases e : v = w
          · rw [e]; exact q2
          · exact h3 v (by omega)) (Or.elim h4 Or.inl (fun ⟨v, a, b⟩ => Or.inr ⟨v, Nat.lt_succ_of_lt a, b⟩))
      · simp only [eq_false q2, ↓reduceIte]
        exact ih (w + 1) fu (p + bw c L p w) (by omega) (by omega) (by omega) hn' (by omega) (by omega) (fun v hv => by
          by_cases e : v = w
          · rw [e]; exact Nat.le_refl _
          · have := h3 v (by omega)
            omega) (Or.inr ⟨w, by omega, rfl⟩)
/-- the word that stands there, told by both -/
theorem words (h : PC c s L X M) {p : Nat} (hx : X.1 84 = nI p) (hm : M.1 25 = nI p) (hp2 : p < 90000) :
    (∃ w, w < 7 ∧ aw c L p w = ln w ∧ fX4_longestWordHere X = some (nI w) ∧ fX4_matchedOf X (nI w) = some (nI (ln w)) ∧ fX9_stands M 0 = some (if w = 0 then 1 else 0) ∧ ((ltr c L (p + ln w) = 32 ∧ fX9_word M = some (nI w, gU1 M 25 (nI (p + ln w + 1)))) ∨ (ltr c L (p + ln w) ≠ 32 ∧ fX9_word M = some (-1, gU1 M 28 (nI (p + ln w)))))) ∨
    (∃ r a, r < 7 ∧ a < ln r ∧ a ≤ 6 ∧ fX4_longestWordHere X = some (nI r) ∧ fX4_matchedOf X (nI r) = some (nI a) ∧ fX9_stands M 0 = some 0 ∧ fX9_word M = some (-1, gU1 M 28 (nI (p + a)))) := by
  obtain ⟨r, e1, hr, hmx⟩ := x_long h hx hp2
  have e2 := x_mat h hr hx hp2
  have e3 := m_stands h hm hp2
  have ra := aw_r c L p hr
  have hl := ln_r r hr
  have eW : fX9_word M = fX9_word_9 gFuel M (nI (stw 0)) (nI p) (nI 0) := by rw [fX9_word, hm]; rfl
  have W := m_word9 h hm hp2 7 0 gFuel p rfl (by decide) (gFu _ (by decide)) (fun v hv => absurd hv (by omega)) (Nat.le_refl p) (by omega) (fun v hv => absurd hv (by omega)) (Or.inl rfl)
  by_cases q : aw c L p r = ln r
  · have un : ∀ v, v < 7 → v ≠ r → aw c L p v < ln r ∧ bw c L p v ≠ ln v + 1 ∧ bw c L p v < ln r := fun v hv hn => by
      have u1 := aw_un c L p hr hv q hn
      have rv := (aw_r c L p hv).1
      have nf : aw c L p v < ln v := by
        by_cases z : aw c L p v < ln v
        · exact z
        · have := aw_un c L p hv hr (by omega) (Ne.symm hn)
          omega
      have b := ba c L p hv
      rw [if_pos nf] at b
      exact ⟨u1, by omega, by omega⟩
    have b := ba c L p hr
    rw [if_neg (by omega)] at b
    refine Or.inl ⟨r, hr, q, e1, by rw [e2, q], ?_, ?_⟩
    · rw [e3]
      by_cases z : r = 0
      · subst z
        rw [if_pos (show aw c L p 0 = 5 from q), if_pos rfl]
      · have u := (un 0 (by decide) (fun y => z y.symm)).1
        have nf : aw c L p 0 ≠ 5 := fun y => by
          have := aw_un c L p (w := 0) (w' := r) (by decide) hr y z
          have y2 : ln 0 = 5 := rfl
          omega
        rw [if_neg z, if_neg nf]
    · by_cases z : ltr c L (p + ln r) = 32
      · rw [if_pos z] at b
        refine Or.inl ⟨z, ?_⟩
        rw [eW]
        rcases W with ⟨v, hv, w1, w2⟩ | ⟨w1, -⟩
        · have ev : v = r := by
            by_cases y : v = r
            · exact y
            · exact absurd w1 (un v hv y).2.1
          subst ev
          exact w2
        · exact absurd b (w1 r hr)
      · rw [if_neg z] at b
        refine Or.inr ⟨z, ?_⟩
        rw [eW]
        rcases W with ⟨v, hv, w1, w2⟩ | ⟨w1, F, w2, w3, w4, w5⟩
        · exfalso
          by_cases y : v = r
          · subst y
            omega
          · exact absurd w1 (un v hv y).2.1
        · have f1 := w4 r hr
          have ef : F = p + ln r := by
            rcases w5 with w5 | ⟨v, hv, w5⟩
            · omega
            · by_cases y : v = r
              · subst y
                omega
              · have := (un v hv y).2.2
                omega
          rw [w2, ef]
  · have un : ∀ v, v < 7 → bw c L p v = aw c L p v ∧ bw c L p v ≠ ln v + 1 := fun v hv => by
      have rv := (aw_r c L p hv).1
      have nf : aw c L p v < ln v := by
        by_cases z : aw c L p v < ln v
        · exact z
        · by_cases y : v = r
          · subst y
            omega
          · have := aw_un c L p hv hr (by omega) (Ne.symm y)
            have := hmx v hv
            omega
      have b := ba c L p hv
      rw [if_pos nf] at b
      exact ⟨b, by omega⟩
    refine Or.inr ⟨r, aw c L p r, hr, by omega, by omega, e1, e2, ?_, ?_⟩
    · have b := un 0 (by decide)
      have nf : aw c L p 0 ≠ 5 := fun y => by
        have b2 := ba c L p (w := 0) (by decide)
        have y2 : ln 0 = 5 := rfl
        by_cases z : r = 0
        · subst z
          omega
        · have := aw_un c L p (w := 0) (w' := r) (by decide) hr y z
          have := hmx 0 (by decide)
          omega
      rw [e3, if_neg nf]
    · rw [eW]
      rcases W with ⟨v, hv, w1, w2⟩ | ⟨w1, F, w2, w3, w4, w5⟩
      · exact absurd w1 (un v hv).2
      · have f1 := w4 r hr
        have f2 := (un r hr).1
        have ef : F = p + aw c L p r := by
          rcases w5 with w5 | ⟨v, hv, w5⟩
          · omega
          · have := (un v hv).1
            have := hmx v hv
            omega
        rw [w2, ef]
end WORDS
