/-! The two sides: what is the same in both. X: the class, M: the reference. -/
theorem gU1_1 (S : GS) (k : Nat) (v : Int32) (j : Nat) : (gU1 S k v).1 j = if j = k then v else S.1 j := rfl
theorem gU1_2 (S : GS) (k : Nat) (v : Int32) : (gU1 S k v).2 = S.2 := rfl
theorem gU2_1 (S : GS) (k : Nat) (v : Int64) : (gU2 S k v).1 = S.1 := rfl
theorem gU2_2 (S : GS) (k : Nat) (v : Int64) (j : Nat) : (gU2 S k v).2.1 j = if j = k then v else S.2.1 j := rfl
theorem gU2_3 (S : GS) (k : Nat) (v : Int64) : (gU2 S k v).2.2 = S.2.2 := rfl
theorem gU3_1 (S : GS) (k i : Nat) (v : Int32) : (gU3 S k i v).1 = S.1 := rfl
theorem gU3_2 (S : GS) (k i : Nat) (v : Int32) : (gU3 S k i v).2.1 = S.2.1 := rfl
theorem gU3_3 (S : GS) (k i : Nat) (v : Int32) (j : Nat) : (gU3 S k i v).2.2.1 j = if j = k then upd (S.2.2.1 k) i v else S.2.2.1 j := rfl
theorem gU3_4 (S : GS) (k i : Nat) (v : Int32) : (gU3 S k i v).2.2.2 = S.2.2.2 := rfl
theorem gU4_1 (S : GS) (k i : Nat) (v : Int64) : (gU4 S k i v).1 = S.1 := rfl
theorem gU4_2 (S : GS) (k i : Nat) (v : Int64) : (gU4 S k i v).2.1 = S.2.1 := rfl
theorem gU4_3 (S : GS) (k i : Nat) (v : Int64) : (gU4 S k i v).2.2.1 = S.2.2.1 := rfl
theorem gU4_4 (S : GS) (k i : Nat) (v : Int64) (j : Nat) : (gU4 S k i v).2.2.2 j = if j = k then vp_updL (S.2.2.2 k) i v else S.2.2.2 j := rfl
theorem gA3_1 (S : GS) (k : Nat) (f : Nat → Int32) : (gA3 S k f).1 = S.1 := rfl
theorem gA3_2 (S : GS) (k : Nat) (f : Nat → Int32) : (gA3 S k f).2.1 = S.2.1 := rfl
theorem gA3_3 (S : GS) (k : Nat) (f : Nat → Int32) (j : Nat) : (gA3 S k f).2.2.1 j = if j = k then f else S.2.2.1 j := rfl
theorem gA3_4 (S : GS) (k : Nat) (f : Nat → Int32) : (gA3 S k f).2.2.2 = S.2.2.2 := rfl
theorem gA4_1 (S : GS) (k : Nat) (f : Nat → Int64) : (gA4 S k f).1 = S.1 := rfl
theorem gA4_3 (S : GS) (k : Nat) (f : Nat → Int64) : (gA4 S k f).2.2.1 = S.2.2.1 := rfl
theorem gA4_4 (S : GS) (k : Nat) (f : Nat → Int64) (j : Nat) : (gA4 S k f).2.2.2 j = if j = k then f else S.2.2.2 j := rfl
theorem gU1_s (S : GS) (k : Nat) (v : Int32) : (gU1 S k v).1 k = v := if_pos rfl
theorem gU1_n (S : GS) (k : Nat) (v : Int32) (j : Nat) (h : j ≠ k) : (gU1 S k v).1 j = S.1 j := if_neg h
theorem gU2_s (S : GS) (k : Nat) (v : Int64) : (gU2 S k v).2.1 k = v := if_pos rfl
theorem gU2_n (S : GS) (k : Nat) (v : Int64) (j : Nat) (h : j ≠ k) : (gU2 S k v).2.1 j = S.2.1 j := if_neg h
theorem gU3_s (S : GS) (k i : Nat) (v : Int32) : (gU3 S k i v).2.2.1 k = upd (S.2.2.1 k) i v := if_pos rfl
theorem gU3_n (S : GS) (k i : Nat) (v : Int32) (j : Nat) (h : j ≠ k) : (gU3 S k i v).2.2.1 j = S.2.2.1 j := if_neg h
theorem gU4_s (S : GS) (k i : Nat) (v : Int64) : (gU4 S k i v).2.2.2 k = vp_updL (S.2.2.2 k) i v := if_pos rfl
theorem gU4_n (S : GS) (k i : Nat) (v : Int64) (j : Nat) (h : j ≠ k) : (gU4 S k i v).2.2.2 j = S.2.2.2 j := if_neg h
theorem gA3_s (S : GS) (k : Nat) (f : Nat → Int32) : (gA3 S k f).2.2.1 k = f := if_pos rfl
theorem gA3_n (S : GS) (k : Nat) (f : Nat → Int32) (j : Nat) (h : j ≠ k) : (gA3 S k f).2.2.1 j = S.2.2.1 j := if_neg h
theorem gA4_s (S : GS) (k : Nat) (f : Nat → Int64) : (gA4 S k f).2.2.2 k = f := if_pos rfl
theorem gA4_n (S : GS) (k : Nat) (f : Nat → Int64) (j : Nat) (h : j ≠ k) : (gA4 S k f).2.2.2 j = S.2.2.2 j := if_neg h
theorem upd_i (f : Nat → Int32) (k : Nat) (v : Int32) (j : Nat) : upd f k v j = if j = k then v else f j := rfl
theorem updL_i (f : Nat → Int64) (k : Nat) (v : Int64) (j : Nat) : vp_updL f k v j = if j = k then v else f j := rfl
theorem gLet_eq {α β : Type} (x : α) (f : α → Option β) : gLet x f = f x := rfl
/-- the figures of the set-ups -/
def RF (fx f0 f1 f2 f3 f4 f5 f6 f7 : Nat → Int32) (n : Nat) : Prop := ∀ i, i < n → fx (8 * i) = f0 i ∧ fx (8 * i + 1) = f1 i ∧ fx (8 * i + 2) = f2 i ∧ fx (8 * i + 3) = f3 i ∧ fx (8 * i + 4) = f4 i ∧ fx (8 * i + 5) = f5 i ∧ fx (8 * i + 6) = f6 i ∧ fx (8 * i + 7) = f7 i
def isN (x : Int32) (lo hi : Nat) : Prop := ∃ k : Nat, lo ≤ k ∧ k ≤ hi ∧ x = nI k
def MR (f0 f1 f2 f3 f4 f5 f6 f7 : Nat → Int32) (n : Nat) : Prop := ∀ i, i < n → isN (f0 i) 0 6 ∧ isN (f1 i) 0 9 ∧ isN (f2 i) 0 9999 ∧ isN (f3 i) 0 9999 ∧ isN (f4 i) 1 99 ∧ isN (f5 i) 1 99 ∧ isN (f6 i) 0 3 ∧ isN (f7 i) 0 1
def MT (st ha fi : Int32) : Prop := (-9999 ≤ st.toInt ∧ st.toInt ≤ 9999) ∧ isN ha 0 9 ∧ isN fi 1 99
def RT (s0 s1 s2 sd m1 m2 m3 m4 : Int32) : Prop := s0 = m1 ∧ s1 = m2 ∧ s2 = m3 ∧ sd = m4
/-- a shelf -/
def RSh (hx lx hm so sz sh : Nat → Int32) (ex em : Nat → Int64) (n s : Nat) : Prop :=
  (hx s = -1 ∧ hm s = 0 ∧ lx s = 0) ∨ (∃ k, k < n ∧ hx s = nI k ∧ hm s = 2 ∧ sh s = nI k ∧ lx s = 0) ∨
  (∃ o L, o ≤ 3 ∧ L ≤ 160 ∧ hx s = nI (100 + o) ∧ hm s = 1 ∧ so s = nI o ∧ lx s = nI L ∧ sz s = nI L ∧ ∀ i, i < L → ex (160 * s + i) = em (160 * s + i))
def RA (rx rm : Int32) (kx km : Nat → Int32) : Prop := ∃ r : Nat, r < 1048576 ∧ rx = nI r ∧ rm = nI r ∧ ∀ i, i < r → i < 20 → kx i = km i
def RI (hx hm nx sx : Int32) (fx tx km : Nat → Int32) : Prop := (hx = 0 ∧ hm = 0) ∨ (hx = 1 ∧ hm = 1 ∧ ∃ n, n ≤ 16 ∧ nx = nI n ∧ km 128 = nI n ∧
  RF fx km (fun i => km (16 + i)) (fun i => km (32 + i)) (fun i => km (48 + i)) (fun i => km (64 + i)) (fun i => km (80 + i)) (fun i => km (96 + i)) (fun i => km (112 + i)) n ∧
  MR km (fun i => km (16 + i)) (fun i => km (32 + i)) (fun i => km (48 + i)) (fun i => km (64 + i)) (fun i => km (80 + i)) (fun i => km (96 + i)) (fun i => km (112 + i)) n ∧
  RT (tx 0) (tx 1) (tx 2) sx (km 129) (km 130) (km 131) (km 132) ∧ MT (km 129) (km 130) (km 131))
def wTab : List Int32 := [115, 101, 116, 117, 112, 32, 0, 104, 111, 108, 100, 101, 114, 32, 0, 102, 105, 114, 115, 116, 32, 0, 115, 116, 97, 114, 116, 32, 0, 104, 97, 105, 114, 32, 0, 102, 105, 110, 101, 32, 0, 97, 103, 97, 105, 110, 32]
def MC (w q : Nat → Int32) : Prop := (∀ j, j < 48 → w j = wTab.getD j 0) ∧ ∀ j, j < 7 → q j = [6, 2, 2, 1, 1, 1, 3].getD j 0
abbrev RFn (X M : GS) (n : Nat) : Prop := RF (X.2.2.1 0) (M.2.2.1 7) (M.2.2.1 8) (M.2.2.1 9) (M.2.2.1 10) (M.2.2.1 11) (M.2.2.1 12) (M.2.2.1 13) (M.2.2.1 14) n
abbrev MRn (M : GS) (n : Nat) : Prop := MR (M.2.2.1 7) (M.2.2.1 8) (M.2.2.1 9) (M.2.2.1 10) (M.2.2.1 11) (M.2.2.1 12) (M.2.2.1 13) (M.2.2.1 14) n
abbrev RTn (X M : GS) : Prop := RT (X.2.2.1 1 0) (X.2.2.1 1 1) (X.2.2.1 1 2) (X.1 3) (M.1 1) (M.1 2) (M.1 3) (M.1 4)
abbrev MTn (M : GS) : Prop := MT (M.1 1) (M.1 2) (M.1 3)
abbrev RSn (X M : GS) (n s : Nat) : Prop := RSh (X.2.2.1 64) (X.2.2.1 65) (M.2.2.1 15) (M.2.2.1 16) (M.2.2.1 17) (M.2.2.1 18) (X.2.2.2 66) (M.2.2.2 19) n s
/-- all but the loop and the shelves -/
def RO (X M : GS) : Prop := (∀ k, k < 8 → X.2.2.1 56 k = M.2.2.1 6 k) ∧ X.1 58 = M.1 5 ∧ RA (X.1 145) (M.1 38) (X.2.2.1 144) (M.2.2.1 37) ∧ RI (X.1 57) (M.1 39) (X.1 18) (X.1 19) (X.2.2.1 16) (X.2.2.1 17) (M.2.2.1 30) ∧ MC (M.2.2.1 21) (M.2.2.1 22)
/-- the loop -/
def RLp (X M : GS) (n : Nat) : Prop := n ≤ 16 ∧ X.1 2 = nI n ∧ M.1 0 = nI n ∧ RFn X M n ∧ MRn M n ∧ RTn X M ∧ MTn M
def Rel (X M : GS) : Prop := ∃ n, RLp X M n ∧ (∀ s, s < 8 → RSn X M n s) ∧ RO X M
/-- a step of both sides -/
def St (x m : Option (Int32 × GS)) : Prop := ∃ R R' : Int32 × GS, x = some R ∧ m = some R' ∧ R.1 = R'.1 ∧ Rel R.2 R'.2
def Sr (x m : Option Int32) : Prop := ∃ r : Int32, x = some r ∧ m = some r
def Sl (x m : Option Int64) : Prop := ∃ r : Int64, x = some r ∧ m = some r
theorem nI_lit (k : Nat) : (nI k : Int32) = Int32.ofNat k := rfl
theorem ix_cases (x : Int32) (n : Nat) (hn : n < 2 ^ 31) : x < 0 ∨ nI n ≤ x ∨ ∃ j : Nat, j < n ∧ x = nI j := pk_ix x hn
theorem nI_nlt0 {n : Nat} (h : n < 2 ^ 31) : ¬ nI n < 0 := nI_pos h
theorem nI_inb {k n : Nat} (h : k < n) (hn : n < 2 ^ 31) : ¬ (nI k < 0 ∨ n ≤ (nI k).toNatClampNeg) := nI_in h hn
theorem ixr (s i : Nat) (hs : s < 8) (hi : i < 160) : (nI s * 160 + nI i) = nI (160 * s + i) := by
  rw [show (160 : Int32) = nI 160 from rfl, pk_mul, nI_add, Nat.mul_comm s 160]
theorem ix8 (i c : Nat) : (nI i * 8 + nI c) = nI (8 * i + c) := by
  rw [show (8 : Int32) = nI 8 from rfl, pk_mul, nI_add, Nat.mul_comm i 8]
theorem Rel.refuse {X M : GS} (h : Rel X M) (k : Nat) : Rel (gU3 X 56 k (X.2.2.1 56 k + 1)) (gU3 M 6 k (M.2.2.1 6 k + 1)) := by
  obtain ⟨n, hL, hSh, hR, hF, hA, hI, hC⟩ := h
  refine ⟨n, hL, hSh, fun j hj => ?_, hF, hA, hI, hC⟩
  show upd (X.2.2.1 56) k (X.2.2.1 56 k + 1) j = upd (M.2.2.1 6) k (M.2.2.1 6 k + 1) j
  rw [upd_i, upd_i]
  by_cases e : j = k
  · rw [if_pos e, if_pos e, ← e, hR j hj]
  · rw [if_neg e, if_neg e, hR j hj]
theorem fno_1 (M : GS) : fX9_no M (-1) = some (-1, gU3 M 6 1 (M.2.2.1 6 1 + 1)) := rfl
theorem fno_2 (M : GS) : fX9_no M (-2) = some (-2, gU3 M 6 2 (M.2.2.1 6 2 + 1)) := rfl
theorem fre_1 (X : GS) : fX8_refuse X (-1) = some (-1, gU3 X 56 1 (X.2.2.1 56 1 + 1)) := rfl
theorem s_ref {X M : GS} (h : Rel X M) (b : Int32) (hb : b = -1 ∨ b = -2 ∨ b = -3 ∨ b = -4 ∨ b = -5 ∨ b = -6 ∨ b = -7) : ∃ k, fX8_refuse X b = some (b, gU3 X 56 k (X.2.2.1 56 k + 1)) ∧ fX9_no M b = some (b, gU3 M 6 k (M.2.2.1 6 k + 1)) ∧ fX9_noFar M b = some (b - 1000000, gU3 M 6 k (M.2.2.1 6 k + 1)) ∧ fX9_noTen M b = some (b - 10, gU3 M 6 k (M.2.2.1 6 k + 1)) ∧ Rel (gU3 X 56 k (X.2.2.1 56 k + 1)) (gU3 M 6 k (M.2.2.1 6 k + 1)) := by
  rcases hb with rfl | rfl | rfl | rfl | rfl | rfl | rfl
  · exact ⟨1, rfl, rfl, rfl, rfl, h.refuse 1⟩
  · exact ⟨2, rfl, rfl, rfl, rfl, h.refuse 2⟩
  · exact ⟨3, rfl, rfl, rfl, rfl, h.refuse 3⟩
  · exact ⟨4, rfl, rfl, rfl, rfl, h.refuse 4⟩
  · exact ⟨5, rfl, rfl, rfl, rfl, h.refuse 5⟩
  · exact ⟨6, rfl, rfl, rfl, rfl, h.refuse 6⟩
  · exact ⟨7, rfl, rfl, rfl, rfl, h.refuse 7⟩
/-! ints as numbers -/
theorem tlt (a b : Int32) : (a < b) = (a.toInt < b.toInt) := propext Int32.lt_iff_toInt_lt
theorem tle (a b : Int32) : (a ≤ b) = (a.toInt ≤ b.toInt) := propext Int32.le_iff_toInt_le
theorem teq (a b : Int32) : (a = b) = (a.toInt = b.toInt) := propext Int32.toInt_inj.symm
theorem tcl (a : Int32) : a.toNatClampNeg = a.toInt.toNat := rfl
theorem tni (n : Nat) (h : n < 2147483648) : (nI n).toInt = (n : Int) := nI_toInt h
theorem tni' (n : Nat) (h : n < 2147483648) : (nI n).toInt.toNat = n := by rw [tni n h]; rfl
theorem i_mul8 (a : Nat) : nI a * 8 = nI (8 * a) := by rw [show (8 : Int32) = nI 8 from rfl, pk_mul, Nat.mul_comm]
theorem i_mul160 (a : Nat) : nI a * 160 = nI (160 * a) := by rw [show (160 : Int32) = nI 160 from rfl, pk_mul, Nat.mul_comm]
theorem i_160mul (a : Nat) : 160 * nI a = nI (160 * a) := by rw [show (160 : Int32) = nI 160 from rfl, pk_mul]
theorem i_add (a b : Nat) : nI a + nI b = nI (a + b) := nI_add a b
theorem i_add1 (a : Nat) : nI a + 1 = nI (a + 1) := nI_1 a
theorem i_100add (a : Nat) : 100 + nI a = nI (100 + a) := by rw [show (100 : Int32) = nI 100 from rfl, nI_add]
theorem if_yes {α : Sort _} {c : Prop} {d : Decidable c} (h : c) (a b : α) : (if c then a else b) = a := if_pos h
theorem if_no {α : Sort _} {c : Prop} {d : Decidable c} (h : ¬ c) (a b : α) : (if c then a else b) = b := if_neg h
theorem i32 (x : Int32) : -2147483648 ≤ x.toInt ∧ x.toInt < 2147483648 := ⟨Int32.le_toInt x, Int32.toInt_lt x⟩
theorem bmod32 (z : Int) (h1 : -2147483648 ≤ z) (h2 : z < 2147483648) : z.bmod (2 ^ 32) = z := by
  have e : ((2 ^ 32 : Nat) : Int) = 4294967296 := rfl
  rw [Int.bmod_def, e]
  split <;> omega
theorem tadd (x y : Int32) (h : -2147483648 ≤ x.toInt + y.toInt ∧ x.toInt + y.toInt < 2147483648) : (x + y).toInt = x.toInt + y.toInt := by
  rw [Int32.toInt_add, bmod32 _ h.1 h.2]
theorem tsub (x y : Int32) (h : -2147483648 ≤ x.toInt - y.toInt ∧ x.toInt - y.toInt < 2147483648) : (x - y).toInt = x.toInt - y.toInt := by
  rw [Int32.toInt_sub, bmod32 _ h.1 h.2]
theorem tmul (x y : Int32) (h : -2147483648 ≤ x.toInt * y.toInt ∧ x.toInt * y.toInt < 2147483648) : (x * y).toInt = x.toInt * y.toInt := by
  rw [Int32.toInt_mul, bmod32 _ h.1 h.2]
theorem tneg (x : Int32) (h : x.toInt ≠ -2147483648) : (-x).toInt = -x.toInt := by
  have := i32 x
  rw [Int32.toInt_neg, bmod32 _ (by omega) (by omega)]
theorem of_nn {x : Int32} (h : 0 ≤ x.toInt) : ∃ k : Nat, k < 2147483648 ∧ x = nI k ∧ x.toInt = k := by
  have b := i32 x
  refine ⟨x.toInt.toNat, by omega, ?_, by omega⟩
  rw [← Int32.toInt_inj, tni _ (by omega)]
  omega
theorem ix3 (x : Int32) (n : Nat) (hn : n < 2147483648) : (x.toInt < 0 ∨ (n : Int) ≤ x.toInt) ∨ ∃ j : Nat, j < n ∧ x = nI j := by
  by_cases h : 0 ≤ x.toInt
  · obtain ⟨k, hk, e, e2⟩ := of_nn h
    by_cases h2 : k < n
    · exact Or.inr ⟨k, h2, e⟩
    · exact Or.inl (Or.inr (by omega))
  · exact Or.inl (Or.inl (by omega))
theorem t_m1 : (-1 : Int32).toInt = -1 := by decide +kernel
theorem t_m2 : (-2 : Int32).toInt = -2 := by decide +kernel
theorem t_m3 : (-3 : Int32).toInt = -3 := by decide +kernel
theorem t_m4 : (-4 : Int32).toInt = -4 := by decide +kernel
theorem t_m5 : (-5 : Int32).toInt = -5 := by decide +kernel
theorem t_m6 : (-6 : Int32).toInt = -6 := by decide +kernel
theorem t_m7 : (-7 : Int32).toInt = -7 := by decide +kernel
theorem kn_01 : ((0 : Int32) = 1) = False := by decide +kernel
theorem kn_02 : ((0 : Int32) = 2) = False := by decide +kernel
theorem kn_03 : ((0 : Int32) = 3) = False := by decide +kernel
theorem kn_04 : ((0 : Int32) = 4) = False := by decide +kernel
theorem kn_05 : ((0 : Int32) = 5) = False := by decide +kernel
theorem kn_06 : ((0 : Int32) = 6) = False := by decide +kernel
theorem kn_10 : ((1 : Int32) = 0) = False := by decide +kernel
theorem kn_12 : ((1 : Int32) = 2) = False := by decide +kernel
theorem kn_13 : ((1 : Int32) = 3) = False := by decide +kernel
theorem kn_14 : ((1 : Int32) = 4) = False := by decide +kernel
theorem kn_15 : ((1 : Int32) = 5) = False := by decide +kernel
theorem kn_16 : ((1 : Int32) = 6) = False := by decide +kernel
theorem kn_20 : ((2 : Int32) = 0) = False := by decide +kernel
theorem kn_21 : ((2 : Int32) = 1) = False := by decide +kernel
theorem kn_23 : ((2 : Int32) = 3) = False := by decide +kernel
theorem kn_24 : ((2 : Int32) = 4) = False := by decide +kernel
theorem kn_25 : ((2 : Int32) = 5) = False := by decide +kernel
theorem kn_26 : ((2 : Int32) = 6) = False := by decide +kernel
theorem kn_30 : ((3 : Int32) = 0) = False := by decide +kernel
theorem kn_31 : ((3 : Int32) = 1) = False := by decide +kernel
theorem kn_32 : ((3 : Int32) = 2) = False := by decide +kernel
theorem kn_34 : ((3 : Int32) = 4) = False := by decide +kernel
theorem kn_35 : ((3 : Int32) = 5) = False := by decide +kernel
theorem kn_36 : ((3 : Int32) = 6) = False := by decide +kernel
theorem kn_40 : ((4 : Int32) = 0) = False := by decide +kernel
theorem kn_41 : ((4 : Int32) = 1) = False := by decide +kernel
theorem kn_42 : ((4 : Int32) = 2) = False := by decide +kernel
theorem kn_43 : ((4 : Int32) = 3) = False := by decide +kernel
theorem kn_45 : ((4 : Int32) = 5) = False := by decide +kernel
theorem kn_46 : ((4 : Int32) = 6) = False := by decide +kernel
theorem kn_50 : ((5 : Int32) = 0) = False := by decide +kernel
theorem kn_51 : ((5 : Int32) = 1) = False := by decide +kernel
theorem kn_52 : ((5 : Int32) = 2) = False := by decide +kernel
theorem kn_53 : ((5 : Int32) = 3) = False := by decide +kernel
theorem kn_54 : ((5 : Int32) = 4) = False := by decide +kernel
theorem kn_56 : ((5 : Int32) = 6) = False := by decide +kernel
theorem kn_60 : ((6 : Int32) = 0) = False := by decide +kernel
theorem kn_61 : ((6 : Int32) = 1) = False := by decide +kernel
theorem kn_62 : ((6 : Int32) = 2) = False := by decide +kernel
theorem kn_63 : ((6 : Int32) = 3) = False := by decide +kernel
theorem kn_64 : ((6 : Int32) = 4) = False := by decide +kernel
theorem kn_65 : ((6 : Int32) = 5) = False := by decide +kernel
theorem t_0 : (0 : Int32).toInt = 0 := by decide +kernel
