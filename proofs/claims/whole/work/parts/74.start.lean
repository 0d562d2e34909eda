/-! what the class finds at the start: tables, texts -/
def nFl : List Cond := flatC (Jvm.Cond.and given_1 narrow_1)
theorem tabAt {s : State} {b : Nat} (hts : ∀ w ∈ lw_tbl, w.before #[Value.ref b] s = true) (hs : ∀ w ∈ nFl, w.before #[Value.ref b] s = true) {A : Nat → Prop} (hA : ∀ a : Nat, a < s.heap.size → ¬ A a) (C nm : String) (N k : Nat) (hl : Cond.laysStatic C nm "[I" ∈ lw_tbl) (hi : Cond.initialized C ∈ lw_tbl) (ha : Cond.arrayOf (.static C nm "[I") .int ∈ nFl) (hn : Cond.eq (.length (.static C nm "[I")) (.int (Int32.ofNat N)) ∈ nFl) (hN : N < 2 ^ 31) (he : ∀ j : Nat, j < N → Cond.eq (.elem (.static C nm "[I") (.int (Int32.ofNat j))) (.int (gTb k j)) ∈ nFl) : ∃ t : Nat, va_Z C nm "[I" (.ref t) A s s.heap ∧ va_T .int t N (fun j => .int (gTb k j)) A s s.heap := by
  obtain ⟨t, ht, hT⟩ := va_Tof (tm := .static C nm "[I") (ty := .int) (N := N) (f := fun j => .int (gTb k j)) (A := A) hN (hs _ ha) (va_eqt (hs _ hn)) (fun j hj => va_eqt (hs _ (he j hj))) hA
  exact ⟨t, va_Zref (hts _ hl) (hts _ hi) ht hA, hT⟩
theorem tab_0 {s : State} {b : Nat} (hts : ∀ w ∈ lw_tbl, w.before #[Value.ref b] s = true) (hs : ∀ w ∈ nFl, w.before #[Value.ref b] s = true) {A : Nat → Prop} (hA : ∀ a : Nat, a < s.heap.size → ¬ A a) : ∃ t : Nat, va_Z "BackToTheFirstStone$Loop" "LEAST" "[I" (.ref t) A s s.heap ∧ va_T .int t 11 (fun j => .int (gTb 0 j)) A s s.heap := tabAt hts hs hA "BackToTheFirstStone$Loop" "LEAST" 11 0 (by decide +kernel) (by decide +kernel) (by decide +kernel) (by decide +kernel) (by decide) (by decide +kernel)
theorem tab_1 {s : State} {b : Nat} (hts : ∀ w ∈ lw_tbl, w.before #[Value.ref b] s = true) (hs : ∀ w ∈ nFl, w.before #[Value.ref b] s = true) {A : Nat → Prop} (hA : ∀ a : Nat, a < s.heap.size → ¬ A a) : ∃ t : Nat, va_Z "BackToTheFirstStone$Loop" "GREATEST" "[I" (.ref t) A s s.heap ∧ va_T .int t 11 (fun j => .int (gTb 1 j)) A s s.heap := tabAt hts hs hA "BackToTheFirstStone$Loop" "GREATEST" 11 1 (by decide +kernel) (by decide +kernel) (by decide +kernel) (by decide +kernel) (by decide) (by decide +kernel)
theorem tab_2 {s : State} {b : Nat} (hts : ∀ w ∈ lw_tbl, w.before #[Value.ref b] s = true) (hs : ∀ w ∈ nFl, w.before #[Value.ref b] s = true) {A : Nat → Prop} (hA : ∀ a : Nat, a < s.heap.size → ¬ A a) : ∃ t : Nat, va_Z "BackToTheFirstStone$Kind" "ABOVE" "[I" (.ref t) A s s.heap ∧ va_T .int t 7 (fun j => .int (gTb 2 j)) A s s.heap := tabAt hts hs hA "BackToTheFirstStone$Kind" "ABOVE" 7 2 (by decide +kernel) (by decide +kernel) (by decide +kernel) (by decide +kernel) (by decide) (by decide +kernel)
theorem tab_3 {s : State} {b : Nat} (hts : ∀ w ∈ lw_tbl, w.before #[Value.ref b] s = true) (hs : ∀ w ∈ nFl, w.before #[Value.ref b] s = true) {A : Nat → Prop} (hA : ∀ a : Nat, a < s.heap.size → ¬ A a) : ∃ t : Nat, va_Z "BackToTheFirstStone$Kind" "WEIGHT" "[I" (.ref t) A s s.heap ∧ va_T .int t 7 (fun j => .int (gTb 3 j)) A s s.heap := tabAt hts hs hA "BackToTheFirstStone$Kind" "WEIGHT" 7 3 (by decide +kernel) (by decide +kernel) (by decide +kernel) (by decide +kernel) (by decide) (by decide +kernel)
theorem tab_4 {s : State} {b : Nat} (hts : ∀ w ∈ lw_tbl, w.before #[Value.ref b] s = true) (hs : ∀ w ∈ nFl, w.before #[Value.ref b] s = true) {A : Nat → Prop} (hA : ∀ a : Nat, a < s.heap.size → ¬ A a) : ∃ t : Nat, va_Z "BackToTheFirstStone$Reader" "NUMBERS" "[I" (.ref t) A s s.heap ∧ va_T .int t 16 (fun j => .int (gTb 4 j)) A s s.heap := tabAt hts hs hA "BackToTheFirstStone$Reader" "NUMBERS" 16 4 (by decide +kernel) (by decide +kernel) (by decide +kernel) (by decide +kernel) (by decide) (by decide +kernel)
theorem tab_5 {s : State} {b : Nat} (hts : ∀ w ∈ lw_tbl, w.before #[Value.ref b] s = true) (hs : ∀ w ∈ nFl, w.before #[Value.ref b] s = true) {A : Nat → Prop} (hA : ∀ a : Nat, a < s.heap.size → ¬ A a) : ∃ t : Nat, va_Z "BackToTheFirstStone$Reader" "NUMBERS_FROM" "[I" (.ref t) A s s.heap ∧ va_T .int t 8 (fun j => .int (gTb 5 j)) A s s.heap := tabAt hts hs hA "BackToTheFirstStone$Reader" "NUMBERS_FROM" 8 5 (by decide +kernel) (by decide +kernel) (by decide +kernel) (by decide +kernel) (by decide) (by decide +kernel)
theorem tab_6 {s : State} {b : Nat} (hts : ∀ w ∈ lw_tbl, w.before #[Value.ref b] s = true) (hs : ∀ w ∈ nFl, w.before #[Value.ref b] s = true) {A : Nat → Prop} (hA : ∀ a : Nat, a < s.heap.size → ¬ A a) : ∃ t : Nat, va_Z "BackToTheFirstStone$Acts" "BODIES" "[I" (.ref t) A s s.heap ∧ va_T .int t 21 (fun j => .int (gTb 6 j)) A s s.heap := tabAt hts hs hA "BackToTheFirstStone$Acts" "BODIES" 21 6 (by decide +kernel) (by decide +kernel) (by decide +kernel) (by decide +kernel) (by decide) (by decide +kernel)
theorem nF_ex : ∀ i, i < 7 → Cond.exactly (.string "BackToTheFirstStone$Reader" (gSn.getD i (0, "", [])).1) "java/lang/String" ∈ nFl := by decide +kernel
theorem nF_co : ∀ i, i < 7 → Cond.eq (.field (.string "BackToTheFirstStone$Reader" (gSn.getD i (0, "", [])).1) "java/lang/String" "coder" "B") (.int 0) ∈ nFl := by decide +kernel
theorem nF_ar : ∀ i, i < 7 → Cond.arrayOf (.field (.string "BackToTheFirstStone$Reader" (gSn.getD i (0, "", [])).1) "java/lang/String" "value" "[B") .byte ∈ nFl := by decide +kernel
theorem nF_le : ∀ i, i < 7 → Cond.eq (.length (.field (.string "BackToTheFirstStone$Reader" (gSn.getD i (0, "", [])).1) "java/lang/String" "value" "[B")) (.int (Int32.ofNat (gSl.getD i 0))) ∈ nFl := by decide +kernel
theorem nF_el : ∀ i, i < 7 → ∀ j, j < gSl.getD i 0 → Cond.eq (.elem (.field (.string "BackToTheFirstStone$Reader" (gSn.getD i (0, "", [])).1) "java/lang/String" "value" "[B") (.int (Int32.ofNat j))) (.int ((gSb.getD i []).getD j 0)) ∈ nFl := by decide +kernel
theorem nF_ne : ∀ i, i < 7 → ∀ j, j < i → Cond.not (Cond.eq (.string "BackToTheFirstStone$Reader" (gSn.getD j (0, "", [])).1) (.string "BackToTheFirstStone$Reader" (gSn.getD i (0, "", [])).1)) ∈ nFl := by decide +kernel
theorem nF_ln : ∀ i, i < 7 → gSl.getD i 0 < 2 ^ 31 := by decide +kernel
theorem nF_sr : ∀ i, i < 7 → Cond.stringRef "BackToTheFirstStone$Reader" (gSn.getD i (0, "", [])).1 (gSn.getD i (0, "", [])).2.1 ∈ lw_tbl := by decide +kernel
theorem nF_cs : Cond.eq (.static "java/lang/String" "COMPACT_STRINGS" "Z") (.int 1) ∈ nFl := by decide +kernel
theorem nF_sf : Cond.isRef (.static "jdk/internal/util/Preconditions" "SIOOBE_FORMATTER" "Ljava/util/function/BiFunction;") ∈ nFl := by decide +kernel
theorem lT_cs : Cond.laysStatic "java/lang/String" "COMPACT_STRINGS" "Z" ∈ lw_tbl ∧ Cond.initialized "java/lang/String" ∈ lw_tbl := ⟨by decide +kernel, by decide +kernel⟩
theorem lT_sf : Cond.laysStatic "jdk/internal/util/Preconditions" "SIOOBE_FORMATTER" "Ljava/util/function/BiFunction;" ∈ lw_tbl ∧ Cond.initialized "jdk/internal/util/Preconditions" ∈ lw_tbl := ⟨by decide +kernel, by decide +kernel⟩
theorem gSn_at {k : Nat} {q : Nat × String × List Int32} (h : gSn[k]? = some q) : k < 7 ∧ gSn.getD k (0, "", []) = q := by
  have hk := (List.getElem?_eq_some_iff.mp h).1
  exact ⟨hk, by rw [List.getD_eq_getElem?_getD, h]; rfl⟩
theorem gz_start {s : State} {b : Nat} (hts : ∀ w ∈ lw_tbl, w.before #[Value.ref b] s = true) (hs : ∀ w ∈ nFl, w.before #[Value.ref b] s = true) : ∃ t K V : Nat → Nat, ∀ (D : va_G) (I J : ClassId) (a : Nat → Nat) (F : va_W), gZ (D, I, J, a, F, s.heap.size, t, K, V) s := by
  have hA : ∀ a : Nat, a < s.heap.size → ¬ (fun q : Nat => s.heap.size ≤ q) a := fun a h => Nat.not_le.mpr h
  obtain ⟨t0, z0⟩ := tab_0 hts hs hA
  obtain ⟨t1, z1⟩ := tab_1 hts hs hA
  obtain ⟨t2, z2⟩ := tab_2 hts hs hA
  obtain ⟨t3, z3⟩ := tab_3 hts hs hA
  obtain ⟨t4, z4⟩ := tab_4 hts hs hA
  obtain ⟨t5, z5⟩ := tab_5 hts hs hA
  obtain ⟨t6, z6⟩ := tab_6 hts hs hA
  obtain ⟨K, V, hS, hK⟩ := vk_Sof (args := #[Value.ref b]) (s := s) (N := 7) (tm := fun i => .string "BackToTheFirstStone$Reader" (gSn.getD i (0, "", [])).1) (len := gSl) (byt := gSb) (A := fun q : Nat => s.heap.size ≤ q) nF_ln (fun i hi => hs _ (nF_ex i hi)) (fun i hi => hs _ (nF_co i hi)) (fun i hi => hs _ (nF_ar i hi)) (fun i hi => hs _ (nF_le i hi)) (fun i hi j hj => hs _ (nF_el i hi j hj))
    (fun i j hi hj hij => by
      rcases Nat.lt_or_gt_of_ne hij with h | h
      · exact Or.inl (hs _ (nF_ne j hj i h))
      · exact Or.inr (hs _ (nF_ne i hi j h))) hA
  refine ⟨fun k => [t0, t1, t2, t3, t4, t5, t6].getD k 0, K, V, fun D I J a F => ⟨fun k q hq => ?_, fun k q hq => ?_, hS, ?_, ?_⟩⟩
  · match k, hq with
    | 0, hq => cases hq; exact z0
    | 1, hq => cases hq; exact z1
    | 2, hq => cases hq; exact z2
    | 3, hq => cases hq; exact z3
    | 4, hq => cases hq; exact z4
    | 5, hq => cases hq; exact z5
    | 6, hq => cases hq; exact z6
    | k + 7, hq => exact absurd (List.getElem?_eq_some_iff.mp hq).1 (by show ¬ k + 7 < 7; omega)
  · obtain ⟨hk, rfl⟩ := gSn_at hq
    exact vk_R.of (hts _ (nF_sr k hk)) (hK k hk)
  · exact va_Zof (hts _ lT_cs.1) (hts _ lT_cs.2) (va_eqi (hs _ nF_cs)) hA
  · exact va_Zqof (hts _ lT_sf.1) (hts _ lT_sf.2) (hs _ nF_sf) hA
/-! both sides at the start -/
def sX (f0 f1 f2 f3 : Nat → Int32) : GS := (fun k => if k = 3 then 1 else if k = 19 then 1 else if k = 35 then 1 else if k = 58 then -1 else 0, fun _ => 0, fun k => if k = 1 then f1 else if k = 17 then f2 else if k = 33 then f3 else if k = 64 then f0 else fun _ => 0, fun _ _ => 0)
def sM (w q : Nat → Int32) : GS := (fun k => if k = 2 then 1 else if k = 3 then 5 else if k = 4 then 1 else if k = 5 then -1 else 0, fun _ => 0, fun k => if k = 21 then w else if k = 22 then q else fun _ => 0, fun _ _ => 0)
theorem rel0 {f0 f1 f2 f3 w q : Nat → Int32} (h0 : ∀ j, j < 8 → f0 j = ([-1, -1, -1, -1, -1, -1, -1, -1] : List Int32).getD j 0) (h1 : ∀ j, j < 3 → f1 j = ([0, 1, 5] : List Int32).getD j 0) (hw : ∀ j, j < 48 → w j = ([115, 101, 116, 117, 112, 32, 0, 104, 111, 108, 100, 101, 114, 32, 0, 102, 105, 114, 115, 116, 32, 0, 115, 116, 97, 114, 116, 32, 0, 104, 97, 105, 114, 32, 0, 102, 105, 110, 101, 32, 0, 97, 103, 97, 105, 110, 32, 0] : List Int32).getD j 0) (hq : ∀ j, j < 7 → q j = ([6, 2, 2, 1, 1, 1, 3] : List Int32).getD j 0) : Rel (sX f0 f1 f2 f3) (sM w q) := by
  refine ⟨0, ⟨Nat.zero_le _, rfl, rfl, fun i hi => absurd hi (Nat.not_lt_zero i), fun i hi => absurd hi (Nat.not_lt_zero i), ⟨h1 0 (by decide), h1 1 (by decide), h1 2 (by decide), rfl⟩, ⟨show (-9999 : Int) ≤ (0 : Int32).toInt by decide +kernel, show (0 : Int32).toInt ≤ 9999 by decide +kernel⟩, ⟨1, by decide, by decide, rfl⟩, ⟨5, by decide, by decide, rfl⟩⟩, fun s hs => Or.inl ⟨?_, rfl, rfl⟩, fun k _ => rfl, rfl, ⟨0, by decide, rfl, rfl, fun i hi => absurd hi (Nat.not_lt_zero i)⟩, Or.inl ⟨rfl, rfl⟩, fun j hj => (hw j hj).trans ((show ∀ j, j < 48 → ([115, 101, 116, 117, 112, 32, 0, 104, 111, 108, 100, 101, 114, 32, 0, 102, 105, 114, 115, 116, 32, 0, 115, 116, 97, 114, 116, 32, 0, 104, 97, 105, 114, 32, 0, 102, 105, 110, 101, 32, 0, 97, 103, 97, 105, 110, 32, 0] : List Int32).getD j 0 = wTab.getD j 0 by decide +kernel) j hj), hq⟩
  show f0 s = -1
  rw [h0 s hs]
  exact (show ∀ s, s < 8 → ([-1, -1, -1, -1, -1, -1, -1, -1] : List Int32).getD s 0 = -1 by decide) s hs
