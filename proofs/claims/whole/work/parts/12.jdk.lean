/-! String.length, String.charAt on the seven words; Preconditions.checkIndex where it does not throw -/
theorem hdJ3_checkIndex_8e157 : yJ3_checkIndex_8e157.cls = RJ3 ∧ yJ3_checkIndex_8e157.cls ≠ "java/lang/invoke/MethodHandle" ∧ yJ3_checkIndex_8e157.cls ≠ "java/lang/invoke/VarHandle" ∧ (parseMethodDescriptor yJ3_checkIndex_8e157.desc).map (fun d => d.parameters.length) = some 3 := by decide +kernel
theorem hdJ0_checkIndex_df160 : yJ0_checkIndex_df160.cls = RJ0 ∧ yJ0_checkIndex_df160.cls ≠ "java/lang/invoke/MethodHandle" ∧ yJ0_checkIndex_df160.cls ≠ "java/lang/invoke/VarHandle" ∧ (parseMethodDescriptor yJ0_checkIndex_df160.desc).map (fun d => d.parameters.length) = some 2 := by decide +kernel
theorem hdJ1_charAt_3b067 : yJ1_charAt_3b067.cls = RJ1 ∧ yJ1_charAt_3b067.cls ≠ "java/lang/invoke/MethodHandle" ∧ yJ1_charAt_3b067.cls ≠ "java/lang/invoke/VarHandle" ∧ (parseMethodDescriptor yJ1_charAt_3b067.desc).map (fun d => d.parameters.length) = some 2 := by decide +kernel
theorem hdJ0_coder_7d493 : yJ0_coder_7d493.cls = RJ0 ∧ yJ0_coder_7d493.cls ≠ "java/lang/invoke/MethodHandle" ∧ yJ0_coder_7d493.cls ≠ "java/lang/invoke/VarHandle" ∧ (parseMethodDescriptor yJ0_coder_7d493.desc).map (fun d => d.parameters.length) = some 0 := by decide +kernel
theorem hdJ0_isLatin1_aae02 : yJ0_isLatin1_aae02.cls = RJ0 ∧ yJ0_isLatin1_aae02.cls ≠ "java/lang/invoke/MethodHandle" ∧ yJ0_isLatin1_aae02.cls ≠ "java/lang/invoke/VarHandle" ∧ (parseMethodDescriptor yJ0_isLatin1_aae02.desc).map (fun d => d.parameters.length) = some 0 := by decide +kernel
set_option maxHeartbeats 4000000 in
set_option maxRecDepth 100000 in
theorem cJ3_checkIndex (l : Launch) (G : GP) (S : GS) (k n : Int32) (r : Option Nat) (h0 : ¬ k < 0) (h1 : k < n) : CI l yJ3_checkIndex_8e157 wsJ3_checkIndex_8e157 0 0 [.int k, .int n, va_rf r] WX G S k S := by
  cases r
  all_goals
    refine g_met RJ3 (cc := cJ3_checkIndex_8e157) (nL := 3) (ret := some .int) (by decide) rfl rfl (Nat.le_of_ble_eq_true rfl) ?_
    intro p e s m below meth c ls X E hP hS hl
    obtain ⟨hx, hb, -, -, hown, hts, -⟩ := id X
    refine lv_iload_n hx hb dJ3_checkIndex_8e157_0 rfl (lv_at hl 0 rfl) ?_
    refine lv_if_lt (tgt := 9) hx hb dJ3_checkIndex_8e157_1 (by decide) (fun z => absurd z h0) (fun _ => ?_)
    refine lv_iload_n hx hb dJ3_checkIndex_8e157_4 rfl (lv_at hl 0 rfl) ?_
    refine lv_iload_n hx hb dJ3_checkIndex_8e157_5 rfl (lv_at hl 1 rfl) ?_
    refine lv_icmp_lt (tgt := 16) hx hb dJ3_checkIndex_8e157_6 (by decide) (fun _ => ?_) (fun z => absurd h1 z)
    refine lv_iload_n hx hb dJ3_checkIndex_8e157_16 rfl (lv_at hl 0 rfl) ?_
    exact g_ri X E hP hS dJ3_checkIndex_8e157_17
set_option maxHeartbeats 4000000 in
set_option maxRecDepth 100000 in
theorem cJ0_checkIndex (l : Launch) (G : GP) (S : GS) (k n : Int32) (h0 : ¬ k < 0) (h1 : k < n) : CV l yJ0_checkIndex_df160 wsJ0_checkIndex_df160 1 22 [.int k, .int n] WX G S S := by
  refine g_met RJ0 (cc := cJ0_checkIndex_df160) (nL := 2) (ret := none) (by decide) rfl rfl (Nat.le_of_ble_eq_true rfl) ?_
  intro p e s m below meth c ls X E hP hS hl
  obtain ⟨hx, hb, -, -, hown, hts, -⟩ := id X
  refine lv_iload_n hx hb dJ0_checkIndex_df160_0 rfl (lv_at hl 0 rfl) ?_
  refine lv_iload_n hx hb dJ0_checkIndex_df160_1 rfl (lv_at hl 1 rfl) ?_
  rcases E.2.2.2.2.2.2.2 with hz | ⟨t, hz⟩
  · refine va_gets hx hb hz hS hown (hts (.fieldLink RJ0 1053 "jdk/internal/util/Preconditions" "SIOOBE_FORMATTER" "Ljava/util/function/BiFunction;") (by decide +kernel)) (fun _ h => h) dJ0_checkIndex_df160_2 ?_
    refine g_si (rest := []) X E hP hS (cJ3_checkIndex l G S k n none h0 h1) (g_cwS X gJ0_checkIndex_df160_J3_checkIndex_8e157 rfl hdJ3_checkIndex_8e157 ⟨Nat.le_of_ble_eq_true rfl, Nat.le_of_ble_eq_true rfl⟩) rfl hl.1 rfl (Nat.le_of_ble_eq_true rfl) dJ0_checkIndex_df160_5 ⟨Nat.le_refl _, Nat.le_refl _⟩ (fun H locs hP hS => ?_)
    refine lv_pop hx hb dJ0_checkIndex_df160_8 rfl ?_
    exact g_rv X E hP hS dJ0_checkIndex_df160_9
  · refine va_gets hx hb hz hS hown (hts (.fieldLink RJ0 1053 "jdk/internal/util/Preconditions" "SIOOBE_FORMATTER" "Ljava/util/function/BiFunction;") (by decide +kernel)) (fun _ h => h) dJ0_checkIndex_df160_2 ?_
    refine g_si (rest := []) X E hP hS (cJ3_checkIndex l G S k n (some t) h0 h1) (g_cwS X gJ0_checkIndex_df160_J3_checkIndex_8e157 rfl hdJ3_checkIndex_8e157 ⟨Nat.le_of_ble_eq_true rfl, Nat.le_of_ble_eq_true rfl⟩) rfl hl.1 rfl (Nat.le_of_ble_eq_true rfl) dJ0_checkIndex_df160_5 ⟨Nat.le_refl _, Nat.le_refl _⟩ (fun H locs hP hS => ?_)
    refine lv_pop hx hb dJ0_checkIndex_df160_8 rfl ?_
    exact g_rv X E hP hS dJ0_checkIndex_df160_9
theorem inStr (G : GP) (s : State) (E : gE WX G s) {i : Nat} (hi : i < 7) : va_O "java/lang/String" (gK G i) (gA G) s s.heap ∧ va_OF "java/lang/String" "coder" "B" (.int 0) (gK G i) (gA G) s s.heap ∧ va_OF "java/lang/String" "value" "[B" (.ref (gV G i)) (gK G i) (gA G) s s.heap ∧ va_T .byte (gV G i) (gSl.getD i 0) (fun j => .int ((gSb.getD i []).getD j 0)) (gA G) s s.heap := E.2.2.2.2.2.1.1 i hi
set_option maxHeartbeats 4000000 in
set_option maxRecDepth 100000 in
theorem cJ0_coder (l : Launch) (G : GP) (S : GS) (i : Nat) (hi : i < 7) : CI l yJ0_coder_7d493 wsJ0_coder_7d493 0 0 [.ref (gK G i)] WX G S 0 S := by
  refine g_met RJ0 (cc := cJ0_coder_7d493) (nL := 1) (ret := some .byte) (by decide) rfl rfl (Nat.le_of_ble_eq_true rfl) ?_
  intro p e s m below meth c ls X E hP hS hl
  obtain ⟨hx, hb, -, -, hown, hts, -⟩ := id X
  refine va_gets hx hb E.2.2.2.2.2.2.1 hS hown (hts (.fieldLink RJ0 38 "java/lang/String" "COMPACT_STRINGS" "Z") (by decide +kernel)) (fun _ h => h) dJ0_coder_7d493_0 ?_
  refine lv_if_eq (tgt := 13) hx hb dJ0_coder_7d493_3 (by decide) (fun z => absurd z (by decide)) (fun _ => ?_)
  refine lv_aload_n hx hb dJ0_coder_7d493_6 rfl (lv_at hl 0 rfl) ?_
  refine vk_getf hx hb (inStr G s E hi).2.1 hS hown (hts (.fieldLink RJ0 15 "java/lang/String" "coder" "B") (by decide +kernel)) (fun _ h => h) dJ0_coder_7d493_7 ?_
  refine lv_goto (tgt := 14) hx hb dJ0_coder_7d493_10 (by decide) ?_
  exact g_rz X E hP hS rfl dJ0_coder_7d493_14
set_option maxHeartbeats 4000000 in
set_option maxRecDepth 100000 in
theorem cJ0_isLatin1 (l : Launch) (G : GP) (S : GS) (i : Nat) (hi : i < 7) : CI l yJ0_isLatin1_aae02 wsJ0_isLatin1_aae02 0 0 [.ref (gK G i)] WX G S 1 S := by
  refine g_met RJ0 (cc := cJ0_isLatin1_aae02) (nL := 1) (ret := some .boolean) (by decide) rfl rfl (Nat.le_of_ble_eq_true rfl) ?_
  intro p e s m below meth c ls X E hP hS hl
  obtain ⟨hx, hb, -, -, hown, hts, -⟩ := id X
  refine va_gets hx hb E.2.2.2.2.2.2.1 hS hown (hts (.fieldLink RJ0 38 "java/lang/String" "COMPACT_STRINGS" "Z") (by decide +kernel)) (fun _ h => h) dJ0_isLatin1_aae02_0 ?_
  refine lv_if_eq (tgt := 17) hx hb dJ0_isLatin1_aae02_3 (by decide) (fun z => absurd z (by decide)) (fun _ => ?_)
  refine lv_aload_n hx hb dJ0_isLatin1_aae02_6 rfl (lv_at hl 0 rfl) ?_
  refine vk_getf hx hb (inStr G s E hi).2.1 hS hown (hts (.fieldLink RJ0 15 "java/lang/String" "coder" "B") (by decide +kernel)) (fun _ h => h) dJ0_isLatin1_aae02_7 ?_
  refine lv_if_ne (tgt := 17) hx hb dJ0_isLatin1_aae02_10 (by decide) (fun z => absurd rfl z) (fun _ => ?_)
  refine lv_iconst (v := 1) hx hb dJ0_isLatin1_aae02_13 (by decide) ?_
  refine lv_goto (tgt := 18) hx hb dJ0_isLatin1_aae02_14 (by decide) ?_
  exact g_rz X E hP hS rfl dJ0_isLatin1_aae02_18
def fJ0_length_8abf5 (S : GS) (i : Nat) : Option Int32 := if 7 ≤ i then none else some ((Int32.ofNat (gSl.getD i 0)) >>> ((0 : Int32) &&& 31))
set_option maxHeartbeats 4000000 in
set_option maxRecDepth 100000 in
theorem tcJ0_length_8abf5 (l : Launch) (G : GP) (S : GS) (i : Nat) {R : Int32} (hf : fJ0_length_8abf5 S i = some R) : CI l yJ0_length_8abf5 wsJ0_length_8abf5 1 20 [.ref (gK G i)] WX G S R S := by
  rw [fJ0_length_8abf5] at hf
  obtain ⟨hi, hf⟩ := g_if hf
  have hi : i < 7 := Nat.not_le.mp hi
  obtain rfl := g_some hf
  refine g_met RJ0 (cc := cJ0_length_8abf5) (nL := 1) (ret := some .int) (by decide) rfl rfl (Nat.le_of_ble_eq_true rfl) ?_
  intro p e s m below meth c ls X E hP hS hl
  obtain ⟨hx, hb, -, -, hown, hts, -⟩ := id X
  refine lv_aload_n hx hb dJ0_length_8abf5_0 rfl (lv_at hl 0 rfl) ?_
  refine vk_getf hx hb (inStr G s E hi).2.2.1 hS hown (hts (.fieldLink RJ0 9 "java/lang/String" "value" "[B") (by decide +kernel)) (fun _ h => h) dJ0_length_8abf5_1 ?_
  refine va_tlen hx hb (inStr G s E hi).2.2.2 hS rfl dJ0_length_8abf5_4 ?_
  refine lv_aload_n hx hb dJ0_length_8abf5_5 rfl (lv_at hl 0 rfl) ?_
  refine g_vi (rest := [.int (Int32.ofNat (gSl.getD i 0))]) X E hP hS (cJ0_coder l G S i hi) (g_cwV X gJ0_length_8abf5_J0_coder_7d493 rfl hdJ0_coder_7d493 ⟨Nat.le_of_ble_eq_true rfl, Nat.le_of_ble_eq_true rfl⟩) (vk_recv E.2.2.2.2.2.1 hi hS) rfl hl.1 rfl (Nat.le_of_ble_eq_true rfl) dJ0_length_8abf5_6 ⟨Nat.le_refl _, Nat.le_refl _⟩ (fun H locs hP hS => ?_)
  refine lv_ishr hx hb dJ0_length_8abf5_9 ?_
  exact g_ri X E hP hS dJ0_length_8abf5_10
set_option maxHeartbeats 4000000 in
set_option maxRecDepth 100000 in
theorem cJ1_charAt (l : Launch) (G : GP) (S : GS) (i : Nat) (hi : i < 7) (k : Int32) (h0 : ¬ k < 0) (h1 : k < Int32.ofNat (gSl.getD i 0)) (h2 : ¬ (k < 0 ∨ gSl.getD i 0 ≤ k.toNatClampNeg)) : CI l yJ1_charAt_3b067 wsJ1_charAt_3b067 2 43 [.ref (gV G i), .int k] WX G S ((((gSb.getD i []).getD k.toNatClampNeg 0) &&& 255).toUInt32 % 65536).toInt32 S := by
  refine g_met RJ1 (cc := cJ1_charAt_3b067) (nL := 2) (ret := some .char) (by decide) rfl rfl (Nat.le_of_ble_eq_true rfl) ?_
  intro p e s m below meth c ls X E hP hS hl
  obtain ⟨hx, hb, -, -, hown, hts, -⟩ := id X
  refine lv_iload_n hx hb dJ1_charAt_3b067_0 rfl (lv_at hl 1 rfl) ?_
  refine lv_aload_n hx hb dJ1_charAt_3b067_1 rfl (lv_at hl 0 rfl) ?_
  refine va_tlen hx hb (inStr G s E hi).2.2.2 hS rfl dJ1_charAt_3b067_2 ?_
  refine va_callv (va_runS (g_fix X) (As := [.int k, .int (Int32.ofNat (gSl.getD i 0))]) (rest := []) (cJ0_checkIndex l G S k _ h0 h1) (g_cwS X gJ1_charAt_3b067_J0_checkIndex_df160 rfl hdJ0_checkIndex_df160 ⟨Nat.le_of_ble_eq_true rfl, Nat.le_of_ble_eq_true rfl⟩) (g_preS E hP hS) rfl rfl hl.1 rfl (lv_room (Nat.le_of_ble_eq_true rfl)) dJ1_charAt_3b067_3 ⟨Nat.le_refl _, Nat.le_refl _⟩) hS (fun _ _ h => h) (fun _ h => h) (fun _ t H1 locs1 ht _ _ hB _ _ hS1 => ?_)
  subst ht
  have hP := hB.1
  have hS := hS1
  refine lv_aload_n hx hb dJ1_charAt_3b067_6 rfl (lv_at hl 0 rfl) ?_
  refine lv_iload_n hx hb dJ1_charAt_3b067_7 rfl (lv_at hl 1 rfl) ?_
  refine va_tb hx hb (inStr G s E hi).2.2.2 hS h2 rfl dJ1_charAt_3b067_8 ?_
  refine lv_sipush (v := 255) hx hb dJ1_charAt_3b067_9 (by decide) ?_
  refine lv_iand hx hb dJ1_charAt_3b067_12 ?_
  refine lv_i2c hx hb dJ1_charAt_3b067_13 rfl ?_
  exact g_rz X E hP hS (pk_nc _) dJ1_charAt_3b067_14
def fJ0_charAt_5068e (S : GS) (i : Nat) (k : Int32) : Option Int32 := if 7 ≤ i then none else if k < 0 then none else if ¬ k < Int32.ofNat (gSl.getD i 0) then none else if k < 0 ∨ gSl.getD i 0 ≤ k.toNatClampNeg then none else some ((((gSb.getD i []).getD k.toNatClampNeg 0) &&& 255).toUInt32 % 65536).toInt32
set_option maxHeartbeats 4000000 in
set_option maxRecDepth 100000 in
theorem tcJ0_charAt_5068e (l : Launch) (G : GP) (S : GS) (i : Nat) (k : Int32) {R : Int32} (hf : fJ0_charAt_5068e S i k = some R) : CI l yJ0_charAt_5068e wsJ0_charAt_5068e 3 64 [.ref (gK G i), .int k] WX G S R S := by
  rw [fJ0_charAt_5068e] at hf
  obtain ⟨hi, hf⟩ := g_if hf
  obtain ⟨h0, hf⟩ := g_if hf
  obtain ⟨h1, hf⟩ := g_if hf
  obtain ⟨h2, hf⟩ := g_if hf
  have hi : i < 7 := Nat.not_le.mp hi
  have h1 : k < Int32.ofNat (gSl.getD i 0) := Decidable.of_not_not h1
  obtain rfl := g_some hf
  refine g_met RJ0 (cc := cJ0_charAt_5068e) (nL := 2) (ret := some .char) (by decide) rfl rfl (Nat.le_of_ble_eq_true rfl) ?_
  intro p e s m below meth c ls X E hP hS hl
  obtain ⟨hx, hb, -, -, hown, hts, -⟩ := id X
  refine lv_aload_n hx hb dJ0_charAt_5068e_0 rfl (lv_at hl 0 rfl) ?_
  refine g_vi (rest := []) X E hP hS (cJ0_isLatin1 l G S i hi) (g_cwV X gJ0_charAt_5068e_J0_isLatin1_aae02 rfl hdJ0_isLatin1_aae02 ⟨Nat.le_of_ble_eq_true rfl, Nat.le_of_ble_eq_true rfl⟩) (vk_recv E.2.2.2.2.2.1 hi hS) rfl hl.1 rfl (Nat.le_of_ble_eq_true rfl) dJ0_charAt_5068e_1 ⟨Nat.le_refl _, Nat.le_refl _⟩ (fun H locs hP hS => ?_)
  refine lv_if_eq (tgt := 16) hx hb dJ0_charAt_5068e_4 (by decide) (fun z => absurd z (by decide)) (fun _ => ?_)
  refine lv_aload_n hx hb dJ0_charAt_5068e_7 rfl (lv_at hl 0 rfl) ?_
  refine vk_getf hx hb (inStr G s E hi).2.2.1 hS hown (hts (.fieldLink RJ0 9 "java/lang/String" "value" "[B") (by decide +kernel)) (fun _ h => h) dJ0_charAt_5068e_8 ?_
  refine lv_iload_n hx hb dJ0_charAt_5068e_11 rfl (lv_at hl 1 rfl) ?_
  refine g_si (rest := []) X E hP hS (cJ1_charAt l G S i hi k h0 h1 h2) (g_cwS X gJ0_charAt_5068e_J1_charAt_3b067 rfl hdJ1_charAt_3b067 ⟨Nat.le_of_ble_eq_true rfl, Nat.le_of_ble_eq_true rfl⟩) rfl hl.1 rfl (Nat.le_of_ble_eq_true rfl) dJ0_charAt_5068e_12 ⟨Nat.le_refl _, Nat.le_refl _⟩ (fun H locs hP hS => ?_)
  exact g_rz X E hP hS (pk_nc _) dJ0_charAt_5068e_15
