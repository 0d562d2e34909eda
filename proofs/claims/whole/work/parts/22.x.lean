theorem hdX1_weightOf : yX1_weightOf.cls = RX1 ∧ yX1_weightOf.cls ≠ "java/lang/invoke/MethodHandle" ∧ yX1_weightOf.cls ≠ "java/lang/invoke/VarHandle" ∧ (parseMethodDescriptor yX1_weightOf.desc).map (fun d => d.parameters.length) = some 1 := by decide +kernel
theorem hdX2_search : yX2_search.cls = RX2 ∧ yX2_search.cls ≠ "java/lang/invoke/MethodHandle" ∧ yX2_search.cls ≠ "java/lang/invoke/VarHandle" ∧ (parseMethodDescriptor yX2_search.desc).map (fun d => d.parameters.length) = some 3 := by decide +kernel
theorem hdX2_worst : yX2_worst.cls = RX2 ∧ yX2_worst.cls ≠ "java/lang/invoke/MethodHandle" ∧ yX2_worst.cls ≠ "java/lang/invoke/VarHandle" ∧ (parseMethodDescriptor yX2_worst.desc).map (fun d => d.parameters.length) = some 0 := by decide +kernel
theorem hdX2_worstBy : yX2_worstBy.cls = RX2 ∧ yX2_worstBy.cls ≠ "java/lang/invoke/MethodHandle" ∧ yX2_worstBy.cls ≠ "java/lang/invoke/VarHandle" ∧ (parseMethodDescriptor yX2_worstBy.desc).map (fun d => d.parameters.length) = some 0 := by decide +kernel
theorem hdX3_dropLast : yX3_dropLast.cls = RX3 ∧ yX3_dropLast.cls ≠ "java/lang/invoke/MethodHandle" ∧ yX3_dropLast.cls ≠ "java/lang/invoke/VarHandle" ∧ (parseMethodDescriptor yX3_dropLast.desc).map (fun d => d.parameters.length) = some 0 := by decide +kernel
theorem hdX3_exchange : yX3_exchange.cls = RX3 ∧ yX3_exchange.cls ≠ "java/lang/invoke/MethodHandle" ∧ yX3_exchange.cls ≠ "java/lang/invoke/VarHandle" ∧ (parseMethodDescriptor yX3_exchange.desc).map (fun d => d.parameters.length) = some 4 := by decide +kernel
theorem hdX3_goOtherWay : yX3_goOtherWay.cls = RX3 ∧ yX3_goOtherWay.cls ≠ "java/lang/invoke/MethodHandle" ∧ yX3_goOtherWay.cls ≠ "java/lang/invoke/VarHandle" ∧ (parseMethodDescriptor yX3_goOtherWay.desc).map (fun d => d.parameters.length) = some 0 := by decide +kernel
theorem hdX3_risesHeldBy : yX3_risesHeldBy.cls = RX3 ∧ yX3_risesHeldBy.cls ≠ "java/lang/invoke/MethodHandle" ∧ yX3_risesHeldBy.cls ≠ "java/lang/invoke/VarHandle" ∧ (parseMethodDescriptor yX3_risesHeldBy.desc).map (fun d => d.parameters.length) = some 1 := by decide +kernel
theorem hdX5_differAlike : yX5_differAlike.cls = RX5 ∧ yX5_differAlike.cls ≠ "java/lang/invoke/MethodHandle" ∧ yX5_differAlike.cls ≠ "java/lang/invoke/VarHandle" ∧ (parseMethodDescriptor yX5_differAlike.desc).map (fun d => d.parameters.length) = some 4 := by decide +kernel
theorem hdX5_forgetFrom : yX5_forgetFrom.cls = RX5 ∧ yX5_forgetFrom.cls ≠ "java/lang/invoke/MethodHandle" ∧ yX5_forgetFrom.cls ≠ "java/lang/invoke/VarHandle" ∧ (parseMethodDescriptor yX5_forgetFrom.desc).map (fun d => d.parameters.length) = some 1 := by decide +kernel
theorem hdX6_addOne : yX6_addOne.cls = RX6 ∧ yX6_addOne.cls ≠ "java/lang/invoke/MethodHandle" ∧ yX6_addOne.cls ≠ "java/lang/invoke/VarHandle" ∧ (parseMethodDescriptor yX6_addOne.desc).map (fun d => d.parameters.length) = some 2 := by decide +kernel
theorem hdX6_bitsOf : yX6_bitsOf.cls = RX6 ∧ yX6_bitsOf.cls ≠ "java/lang/invoke/MethodHandle" ∧ yX6_bitsOf.cls ≠ "java/lang/invoke/VarHandle" ∧ (parseMethodDescriptor yX6_bitsOf.desc).map (fun d => d.parameters.length) = some 1 := by decide +kernel
theorem hdX6_errorsTogether : yX6_errorsTogether.cls = RX6 ∧ yX6_errorsTogether.cls ≠ "java/lang/invoke/MethodHandle" ∧ yX6_errorsTogether.cls ≠ "java/lang/invoke/VarHandle" ∧ (parseMethodDescriptor yX6_errorsTogether.desc).map (fun d => d.parameters.length) = some 0 := by decide +kernel
theorem hdX6_leastBits : yX6_leastBits.cls = RX6 ∧ yX6_leastBits.cls ≠ "java/lang/invoke/MethodHandle" ∧ yX6_leastBits.cls ≠ "java/lang/invoke/VarHandle" ∧ (parseMethodDescriptor yX6_leastBits.desc).map (fun d => d.parameters.length) = some 0 := by decide +kernel
theorem hdX6_pickNearest : yX6_pickNearest.cls = RX6 ∧ yX6_pickNearest.cls ≠ "java/lang/invoke/MethodHandle" ∧ yX6_pickNearest.cls ≠ "java/lang/invoke/VarHandle" ∧ (parseMethodDescriptor yX6_pickNearest.desc).map (fun d => d.parameters.length) = some 0 := by decide +kernel
theorem hdX6_search : yX6_search.cls = RX6 ∧ yX6_search.cls ≠ "java/lang/invoke/MethodHandle" ∧ yX6_search.cls ≠ "java/lang/invoke/VarHandle" ∧ (parseMethodDescriptor yX6_search.desc).map (fun d => d.parameters.length) = some 1 := by decide +kernel
theorem hdX8_bookRefusal : yX8_bookRefusal.cls = RX8 ∧ yX8_bookRefusal.cls ≠ "java/lang/invoke/MethodHandle" ∧ yX8_bookRefusal.cls ≠ "java/lang/invoke/VarHandle" ∧ (parseMethodDescriptor yX8_bookRefusal.desc).map (fun d => d.parameters.length) = some 2 := by decide +kernel
theorem hdX8_firstWrong : yX8_firstWrong.cls = RX8 ∧ yX8_firstWrong.cls ≠ "java/lang/invoke/MethodHandle" ∧ yX8_firstWrong.cls ≠ "java/lang/invoke/VarHandle" ∧ (parseMethodDescriptor yX8_firstWrong.desc).map (fun d => d.parameters.length) = some 2 := by decide +kernel
theorem hdX8_yardsInAll : yX8_yardsInAll.cls = RX8 ∧ yX8_yardsInAll.cls ≠ "java/lang/invoke/MethodHandle" ∧ yX8_yardsInAll.cls ≠ "java/lang/invoke/VarHandle" ∧ (parseMethodDescriptor yX8_yardsInAll.desc).map (fun d => d.parameters.length) = some 0 := by decide +kernel
theorem lkX2_worstBy_0 : Cond.fieldLink RX2 13 RX2 "worstOff" "J" ∈ wsX2_worstBy := by decide +kernel
theorem inX2_worstBy_X2 : ∀ w ∈ wsX20, w ∈ wsX2_worstBy := by decide +kernel
def fX2_worstBy (S : GS)  : Option Int32 :=
  some ((S.2.1 129)).toInt32
set_option maxHeartbeats 4000000 in
set_option maxRecDepth 100000 in
theorem tcX2_worstBy (l : Launch) (G : GP) (S : GS)  {R : Int32} (hf : fX2_worstBy S  = some R) : CI l yX2_worstBy wsX2_worstBy 0 0 [.ref (ga G 143)] WX G S R S := by
  refine g_met RX2 (cc := cX2_worstBy) (nL := 1) (ret := (some .int)) (by decide) rfl rfl (Nat.le_of_ble_eq_true rfl) ?_
  intro p e s m below meth c ls X E hP hS hl
  have hl : lv_has ls 1 [(0, .ref (ga G 143))] := hl
  obtain ⟨hx, hb, -, -, hown, hts, -⟩ := id X
  rw [fX2_worstBy] at hf
  refine lv_aload_n hx hb dX2_worstBy_0 rfl (lv_at hl 0 rfl) ?_
  refine ggX_129 X E hP inX2_worstBy_X2 lkX2_worstBy_0 dX2_worstBy_1 ?_
  refine lv_l2i hx hb dX2_worstBy_4 rfl ?_
  obtain rfl := g_some hf
  exact g_ri X E hP hS dX2_worstBy_5
theorem lkX2_worst_0 : Cond.fieldLink RX2 7 RX2 "worstStone" "I" ∈ wsX2_worst := by decide +kernel
theorem inX2_worst_X2 : ∀ w ∈ wsX20, w ∈ wsX2_worst := by decide +kernel
def fX2_worst (S : GS)  : Option Int32 :=
  some (S.1 128)
set_option maxHeartbeats 4000000 in
set_option maxRecDepth 100000 in
theorem tcX2_worst (l : Launch) (G : GP) (S : GS)  {R : Int32} (hf : fX2_worst S  = some R) : CI l yX2_worst wsX2_worst 0 0 [.ref (ga G 143)] WX G S R S := by
  refine g_met RX2 (cc := cX2_worst) (nL := 1) (ret := (some .int)) (by decide) rfl rfl (Nat.le_of_ble_eq_true rfl) ?_
  intro p e s m below meth c ls X E hP hS hl
  have hl : lv_has ls 1 [(0, .ref (ga G 143))] := hl
  obtain ⟨hx, hb, -, -, hown, hts, -⟩ := id X
  rw [fX2_worst] at hf
  refine lv_aload_n hx hb dX2_worst_0 rfl (lv_at hl 0 rfl) ?_
  refine ggX_128 X E hP inX2_worst_X2 lkX2_worst_0 dX2_worst_1 ?_
  obtain rfl := g_some hf
  exact g_ri X E hP hS dX2_worst_4
theorem lkX8_parts_0 : Cond.fieldLink RX8 50 RX8 "knownParts" "LBackToTheFirstStone$KnownParts;" ∈ wsX8_parts := by decide +kernel
theorem lkX8_parts_1 : Cond.fieldLink RX8 19 RX8 "now" "LBackToTheFirstStone$Loop;" ∈ wsX8_parts := by decide +kernel
theorem lkX8_parts_2 : Cond.fieldLink RX8 10 RX8 "shelves" "LBackToTheFirstStone$Shelves;" ∈ wsX8_parts := by decide +kernel
theorem lkX8_parts_3 : Cond.constant RX8 125 (-1000000 : Int32) ∈ wsX8_parts := by decide +kernel
theorem inX8_parts_X8 : ∀ w ∈ wsX80, w ∈ wsX8_parts := by decide +kernel
def fX8_parts_L62 (S : GS) (v1 : Int32) (v2 : Int32) (v3 : Int32) : Option (Int32 × GS) :=
  if v3 = 0 then
    (fX2_search_now_shelves S v1).bind fun u6 =>
    if v2 = 0 then
      (fX2_worst u6).bind fun u11 =>
      some (u11, u6)
    else
      (fX2_worstBy u6).bind fun u9 =>
      some (u9, u6)
  else
    (fX8_refuse S v3).bind fun u13 =>
    some (((-1000000 : Int32) + u13.1), u13.2)
set_option maxHeartbeats 4000000 in
set_option maxRecDepth 100000 in
theorem bX8_parts_L62 {p : Program} {l : Launch} {e : Env} {s : State} {m : MethodId} {args : Array Value} {below : List Frame} {meth : Method} {c : Code} {G : GP} (X : GX p s m meth c args cX8_parts 5 (some .int) wsX8_parts RX8) (E : gE WX G s) (S : GS) (v1 : Int32) (v2 : Int32) (v3 : Int32) (R : (Int32 × GS)) (H : Heap) (locs : List Loc) (ls : Array Slot) (hf : fX8_parts_L62 S v1 v2 v3 = some R) (hP : va_P (gD G) vwCl (WX G S ++ gF G) H) (hS : va_S (gA G) s.heap H locs) (hl : lv_has ls 5 [(0, .ref (ga G 63)), (1, .int v1), (2, .int v2), (3, .int v3)]) : W p l e (gR 6 142) s m args below meth c H locs 0 0 (MQ below (gQi WX G R.1 R.2) args s 0 0 (gA G)) (F0 m 62 ls []) := by
  obtain ⟨hx, hb, -, -, hown, hts, -⟩ := id X
  rw [fX8_parts_L62] at hf
  refine lv_iload_n hx hb dX8_parts_62 rfl (lv_at hl 3 rfl) ?_
  refine lv_if_eq (tgt := 75) hx hb dX8_parts_63 (by decide) (fun c5 => ?_) (fun c5 => ?_)
  · have hf := g_ift hf c5
    refine lv_aload_n hx hb dX8_parts_75 rfl (lv_at hl 0 rfl) ?_
    refine ggX_54 X E hP inX8_parts_X8 lkX8_parts_0 dX8_parts_76 ?_
    refine lv_aload_n hx hb dX8_parts_79 rfl (lv_at hl 0 rfl) ?_
    refine ggX_49 X E hP inX8_parts_X8 lkX8_parts_1 dX8_parts_80 ?_
    refine lv_aload_n hx hb dX8_parts_83 rfl (lv_at hl 0 rfl) ?_
    refine ggX_48 X E hP inX8_parts_X8 lkX8_parts_2 dX8_parts_84 ?_
    refine lv_iload_n hx hb dX8_parts_87 rfl (lv_at hl 1 rfl) ?_
    obtain ⟨u6, h7, hf⟩ := g_bind hf
    refine g_vv (rest := []) X E hP hS (tcX2_search_now_shelves l G _ _ h7) (g_cwV X gX8_parts_X2_search rfl hdX2_search ⟨Nat.le_of_ble_eq_true rfl, Nat.le_of_ble_eq_true rfl⟩) (rcX_parts E hP) rfl hl.1 rfl (Nat.le_of_ble_eq_true rfl) dX8_parts_88 ⟨Nat.le_refl _, Nat.le_refl _⟩ (fun H locs hP hS => ?_)
    refine lv_iload_n hx hb dX8_parts_91 rfl (lv_at hl 2 rfl) ?_
    refine lv_if_ne (tgt := 105) hx hb dX8_parts_92 (by decide) (fun c8 => ?_) (fun c8 => ?_)
    · have hf := g_iff hf c8
      refine lv_aload_n hx hb dX8_parts_105 rfl (lv_at hl 0 rfl) ?_
      refine ggX_54 X E hP inX8_parts_X8 lkX8_parts_0 dX8_parts_106 ?_
      obtain ⟨u9, h10, hf⟩ := g_bind hf
      refine g_vi (rest := []) X E hP hS (tcX2_worstBy l G _  h10) (g_cwV X gX8_parts_X2_worstBy rfl hdX2_worstBy ⟨Nat.le_of_ble_eq_true rfl, Nat.le_of_ble_eq_true rfl⟩) (rcX_parts E hP) rfl hl.1 rfl (Nat.le_of_ble_eq_true rfl) dX8_parts_109 ⟨Nat.le_refl _, Nat.le_refl _⟩ (fun H locs hP hS => ?_)
      obtain rfl := g_some hf
      exact g_ri X E hP hS dX8_parts_112
    · have hf := g_ift hf c8
      refine lv_aload_n hx hb dX8_parts_95 rfl (lv_at hl 0 rfl) ?_
      refine ggX_54 X E hP inX8_parts_X8 lkX8_parts_0 dX8_parts_96 ?_
      obtain ⟨u11, h12, hf⟩ := g_bind hf
      refine g_vi (rest := []) X E hP hS (tcX2_worst l G _  h12) (g_cwV X gX8_parts_X2_worst rfl hdX2_worst ⟨Nat.le_of_ble_eq_true rfl, Nat.le_of_ble_eq_true rfl⟩) (rcX_parts E hP) rfl hl.1 rfl (Nat.le_of_ble_eq_true rfl) dX8_parts_99 ⟨Nat.le_refl _, Nat.le_refl _⟩ (fun H locs hP hS => ?_)
      refine lv_goto (tgt := 112) hx hb dX8_parts_102 (by decide) ?_
      obtain rfl := g_some hf
      exact g_ri X E hP hS dX8_parts_112
  · have hf := g_iff hf c5
    refine lv_ldc hx hb hown (hts _ lkX8_parts_3) dX8_parts_66 ?_
    refine lv_aload_n hx hb dX8_parts_68 rfl (lv_at hl 0 rfl) ?_
    refine lv_iload_n hx hb dX8_parts_69 rfl (lv_at hl 3 rfl) ?_
    obtain ⟨u13, h14, hf⟩ := g_bind hf
    refine g_vi (rest := [.int (-1000000 : Int32)]) X E hP hS (tcX8_refuse l G _ _ h14) (g_cwV X gX8_parts_X8_refuse rfl hdX8_refuse ⟨Nat.le_of_ble_eq_true rfl, Nat.le_of_ble_eq_true rfl⟩) (rcX_main E hP) rfl hl.1 rfl (Nat.le_of_ble_eq_true rfl) dX8_parts_70 ⟨Nat.le_refl _, Nat.le_refl _⟩ (fun H locs hP hS => ?_)
    refine lv_iadd hx hb dX8_parts_73 ?_
    obtain rfl := g_some hf
    exact g_ri X E hP hS dX8_parts_74
def fX8_parts_L59 (S : GS) (v1 : Int32) (v2 : Int32) : Option (Int32 × GS) :=
  fX8_parts_L62 S v1 v2 (-5 : Int32)
set_option maxHeartbeats 4000000 in
set_option maxRecDepth 100000 in
theorem bX8_parts_L59 {p : Program} {l : Launch} {e : Env} {s : State} {m : MethodId} {args : Array Value} {below : List Frame} {meth : Method} {c : Code} {G : GP} (X : GX p s m meth c args cX8_parts 5 (some .int) wsX8_parts RX8) (E : gE WX G s) (S : GS) (v1 : Int32) (v2 : Int32) (R : (Int32 × GS)) (H : Heap) (locs : List Loc) (ls : Array Slot) (hf : fX8_parts_L59 S v1 v2 = some R) (hP : va_P (gD G) vwCl (WX G S ++ gF G) H) (hS : va_S (gA G) s.heap H locs) (hl : lv_has ls 5 [(0, .ref (ga G 63)), (1, .int v1), (2, .int v2)]) : W p l e (gR 6 142) s m args below meth c H locs 0 0 (MQ below (gQi WX G R.1 R.2) args s 0 0 (gA G)) (F0 m 59 ls []) := by
  obtain ⟨hx, hb, -, -, hown, hts, -⟩ := id X
  rw [fX8_parts_L59] at hf
  refine lv_bipush (v := -5) hx hb dX8_parts_59 (by decide) ?_
  refine lv_istore_n (lv' := [(3, .int (-5 : Int32)), (0, .ref (ga G 63)), (1, .int v1), (2, .int v2)]) hx hb dX8_parts_61 rfl hl (by decide) rfl (fun ls hl => ?_)
  exact bX8_parts_L62 X E _ _ _ _ _ _ _ _ hf hP hS (lv_sub hl [1, 2, 3, 0] rfl)
def fX8_parts_L15 (S : GS) (v1 : Int32) (v2 : Int32) (v3 : Int32) : Option (Int32 × GS) :=
  if v3 = 0 then
    (fX5_lengthOf S v1).bind fun u15 =>
    (fX3_count_now S).bind fun u17 =>
    if u15 < u17 then
      fX8_parts_L59 S v1 v2
    else
      (fX3_count_now S).bind fun u20 =>
      if u20 = 0 then
        fX8_parts_L59 S v1 v2
      else
        fX8_parts_L62 S v1 v2 v3
  else
    fX8_parts_L62 S v1 v2 v3
set_option maxHeartbeats 4000000 in
set_option maxRecDepth 100000 in
theorem bX8_parts_L15 {p : Program} {l : Launch} {e : Env} {s : State} {m : MethodId} {args : Array Value} {below : List Frame} {meth : Method} {c : Code} {G : GP} (X : GX p s m meth c args cX8_parts 5 (some .int) wsX8_parts RX8) (E : gE WX G s) (S : GS) (v1 : Int32) (v2 : Int32) (v3 : Int32) (R : (Int32 × GS)) (H : Heap) (locs : List Loc) (ls : Array Slot) (hf : fX8_parts_L15 S v1 v2 v3 = some R) (hP : va_P (gD G) vwCl (WX G S ++ gF G) H) (hS : va_S (gA G) s.heap H locs) (hl : lv_has ls 5 [(0, .ref (ga G 63)), (1, .int v1), (2, .int v2), (3, .int v3)]) : W p l e (gR 6 142) s m args below meth c H locs 0 0 (MQ below (gQi WX G R.1 R.2) args s 0 0 (gA G)) (F0 m 15 ls []) := by
  obtain ⟨hx, hb, -, -, hown, hts, -⟩ := id X
  rw [fX8_parts_L15] at hf
  refine lv_iconst (v := 1) hx hb dX8_parts_15 (by decide) ?_
  refine lv_goto (tgt := 20) hx hb dX8_parts_16 (by decide) ?_
  refine lv_istore (lv' := [(4, .int (1 : Int32)), (0, .ref (ga G 63)), (1, .int v1), (2, .int v2), (3, .int v3)]) hx hb dX8_parts_20 hl (by decide) rfl (fun ls hl => ?_)
  refine lv_iload_n hx hb dX8_parts_22 rfl (lv_at hl 4 rfl) ?_
  refine lv_if_ne (tgt := 62) hx hb dX8_parts_23 (by decide) (fun c4 => ?_) (fun c4 => ?_)
  · have hf := g_iff hf c4
    exact bX8_parts_L62 X E _ _ _ _ _ _ _ _ hf hP hS (lv_sub hl [1, 2, 3, 4] rfl)
  · have hf := g_ift hf c4
    refine lv_aload_n hx hb dX8_parts_26 rfl (lv_at hl 1 rfl) ?_
    refine ggX_48 X E hP inX8_parts_X8 lkX8_parts_2 dX8_parts_27 ?_
    refine lv_iload_n hx hb dX8_parts_30 rfl (lv_at hl 2 rfl) ?_
    obtain ⟨u15, h16, hf⟩ := g_bind hf
    refine g_vi (rest := []) X E hP hS (tcX5_lengthOf l G _ _ h16) (g_cwV X gX8_parts_X5_lengthOf rfl hdX5_lengthOf ⟨Nat.le_of_ble_eq_true rfl, Nat.le_of_ble_eq_true rfl⟩) (rcX_shelves E hP) rfl hl.1 rfl (Nat.le_of_ble_eq_true rfl) dX8_parts_31 ⟨Nat.le_refl _, Nat.le_refl _⟩ (fun H locs hP hS => ?_)
    refine lv_aload_n hx hb dX8_parts_34 rfl (lv_at hl 1 rfl) ?_
    refine ggX_49 X E hP inX8_parts_X8 lkX8_parts_1 dX8_parts_35 ?_
    obtain ⟨u17, h18, hf⟩ := g_bind hf
    refine g_vi (rest := [.int u15]) X E hP hS (tcX3_count_now l G _  h18) (g_cwV X gX8_parts_X3_count rfl hdX3_count ⟨Nat.le_of_ble_eq_true rfl, Nat.le_of_ble_eq_true rfl⟩) (rcX_now E hP) rfl hl.1 rfl (Nat.le_of_ble_eq_true rfl) dX8_parts_38 ⟨Nat.le_refl _, Nat.le_refl _⟩ (fun H locs hP hS => ?_)
    refine lv_icmp_lt (tgt := 59) hx hb dX8_parts_41 (by decide) (fun c19 => ?_) (fun c19 => ?_)
    · have hf := g_ift hf c19
      exact bX8_parts_L59 X E _ _ _ _ _ _ _ hf hP hS (lv_sub hl [1, 2, 3] rfl)
    · have hf := g_iff hf c19
      refine lv_iload hx hb dX8_parts_44 (lv_at hl 0 rfl) ?_
      refine lv_if_eq (tgt := 59) hx hb dX8_parts_46 (by decide) (fun z => absurd z (by decide)) (fun _ => ?_)
      refine lv_aload_n hx hb dX8_parts_49 rfl (lv_at hl 1 rfl) ?_
      refine ggX_49 X E hP inX8_parts_X8 lkX8_parts_1 dX8_parts_50 ?_
      obtain ⟨u20, h21, hf⟩ := g_bind hf
      refine g_vi (rest := []) X E hP hS (tcX3_count_now l G _  h21) (g_cwV X gX8_parts_X3_count rfl hdX3_count ⟨Nat.le_of_ble_eq_true rfl, Nat.le_of_ble_eq_true rfl⟩) (rcX_now E hP) rfl hl.1 rfl (Nat.le_of_ble_eq_true rfl) dX8_parts_53 ⟨Nat.le_refl _, Nat.le_refl _⟩ (fun H locs hP hS => ?_)
      refine lv_if_ne (tgt := 62) hx hb dX8_parts_56 (by decide) (fun c22 => ?_) (fun c22 => ?_)
      · have hf := g_iff hf c22
        exact bX8_parts_L62 X E _ _ _ _ _ _ _ _ hf hP hS (lv_sub hl [1, 2, 3, 4] rfl)
      · have hf := g_ift hf c22
        exact bX8_parts_L59 X E _ _ _ _ _ _ _ hf hP hS (lv_sub hl [1, 2, 3] rfl)
def fX8_parts (S : GS) (a1 : Int32) (a2 : Int32) : Option (Int32 × GS) :=
  (fX8_rowRefusal S a1).bind fun u1 =>
  if a2 = 0 then
    fX8_parts_L15 S a1 a2 u1
  else
    if a2 = (1 : Int32) then
      fX8_parts_L15 S a1 a2 u1
    else
      if u1 = 0 then
        (fX5_lengthOf S a1).bind fun u25 =>
        (fX3_count_now S).bind fun u27 =>
        if u25 < u27 then
          fX8_parts_L59 S a1 a2
        else
          fX8_parts_L59 S a1 a2
      else
        fX8_parts_L62 S a1 a2 u1
set_option maxHeartbeats 4000000 in
set_option maxRecDepth 100000 in
theorem tcX8_parts (l : Launch) (G : GP) (S : GS) (a1 : Int32) (a2 : Int32) {R : (Int32 × GS)} (hf : fX8_parts S a1 a2 = some R) : CI l yX8_parts wsX8_parts 6 142 [.ref (ga G 63), .int a1, .int a2] WX G S R.1 R.2 := by
  refine g_met RX8 (cc := cX8_parts) (nL := 5) (ret := (some .int)) (by decide) rfl rfl (Nat.le_of_ble_eq_true rfl) ?_
  intro p e s m below meth c ls X E hP hS hl
  have hl : lv_has ls 5 [(0, .ref (ga G 63)), (1, .int a1), (2, .int a2)] := hl
  obtain ⟨hx, hb, -, -, hown, hts, -⟩ := id X
  rw [fX8_parts] at hf
  refine lv_aload_n hx hb dX8_parts_0 rfl (lv_at hl 0 rfl) ?_
  refine lv_iload_n hx hb dX8_parts_1 rfl (lv_at hl 1 rfl) ?_
  obtain ⟨u1, h2, hf⟩ := g_bind hf
  refine g_vi (rest := []) X E hP hS (tcX8_rowRefusal l G _ _ h2) (g_cwV X gX8_parts_X8_rowRefusal rfl hdX8_rowRefusal ⟨Nat.le_of_ble_eq_true rfl, Nat.le_of_ble_eq_true rfl⟩) (rcX_main E hP) rfl hl.1 rfl (Nat.le_of_ble_eq_true rfl) dX8_parts_2 ⟨Nat.le_refl _, Nat.le_refl _⟩ (fun H locs hP hS => ?_)
  refine lv_istore_n (lv' := [(3, .int u1), (0, .ref (ga G 63)), (1, .int a1), (2, .int a2)]) hx hb dX8_parts_5 rfl hl (by decide) rfl (fun ls hl => ?_)
  refine lv_iload_n hx hb dX8_parts_6 rfl (lv_at hl 3 rfl) ?_
  refine lv_if_eq (tgt := 15) hx hb dX8_parts_7 (by decide) (fun c3 => ?_) (fun c3 => ?_)
  · have hf := g_ift hf c3
    exact bX8_parts_L15 X E _ _ _ _ _ _ _ _ hf hP hS (lv_sub hl [1, 2, 3, 0] rfl)
  · have hf := g_iff hf c3
    refine lv_iload_n hx hb dX8_parts_10 rfl (lv_at hl 3 rfl) ?_
    refine lv_iconst (v := 1) hx hb dX8_parts_11 (by decide) ?_
    refine lv_icmp_ne (tgt := 19) hx hb dX8_parts_12 (by decide) (fun c23 => ?_) (fun c23 => ?_)
    · have hf := g_iff hf c23
      refine lv_iconst (v := 0) hx hb dX8_parts_19 (by decide) ?_
      refine lv_istore (lv' := [(4, .int (0 : Int32)), (3, .int u1), (0, .ref (ga G 63)), (1, .int a1), (2, .int a2)]) hx hb dX8_parts_20 hl (by decide) rfl (fun ls hl => ?_)
      refine lv_iload_n hx hb dX8_parts_22 rfl (lv_at hl 1 rfl) ?_
      refine lv_if_ne (tgt := 62) hx hb dX8_parts_23 (by decide) (fun c24 => ?_) (fun c24 => ?_)
      · have hf := g_iff hf c24
        exact bX8_parts_L62 X E _ _ _ _ _ _ _ _ hf hP hS (lv_sub hl [2, 3, 4, 1] rfl)
      · have hf := g_ift hf c24
        refine lv_aload_n hx hb dX8_parts_26 rfl (lv_at hl 2 rfl) ?_
        refine ggX_48 X E hP inX8_parts_X8 lkX8_parts_2 dX8_parts_27 ?_
        refine lv_iload_n hx hb dX8_parts_30 rfl (lv_at hl 3 rfl) ?_
        obtain ⟨u25, h26, hf⟩ := g_bind hf
        refine g_vi (rest := []) X E hP hS (tcX5_lengthOf l G _ _ h26) (g_cwV X gX8_parts_X5_lengthOf rfl hdX5_lengthOf ⟨Nat.le_of_ble_eq_true rfl, Nat.le_of_ble_eq_true rfl⟩) (rcX_shelves E hP) rfl hl.1 rfl (Nat.le_of_ble_eq_true rfl) dX8_parts_31 ⟨Nat.le_refl _, Nat.le_refl _⟩ (fun H locs hP hS => ?_)
        refine lv_aload_n hx hb dX8_parts_34 rfl (lv_at hl 2 rfl) ?_
        refine ggX_49 X E hP inX8_parts_X8 lkX8_parts_1 dX8_parts_35 ?_
        obtain ⟨u27, h28, hf⟩ := g_bind hf
        refine g_vi (rest := [.int u25]) X E hP hS (tcX3_count_now l G _  h28) (g_cwV X gX8_parts_X3_count rfl hdX3_count ⟨Nat.le_of_ble_eq_true rfl, Nat.le_of_ble_eq_true rfl⟩) (rcX_now E hP) rfl hl.1 rfl (Nat.le_of_ble_eq_true rfl) dX8_parts_38 ⟨Nat.le_refl _, Nat.le_refl _⟩ (fun H locs hP hS => ?_)
        refine lv_icmp_lt (tgt := 59) hx hb dX8_parts_41 (by decide) (fun c29 => ?_) (fun c29 => ?_)
        · have hf := g_ift hf c29
          exact bX8_parts_L59 X E _ _ _ _ _ _ _ hf hP hS (lv_sub hl [2, 3, 4] rfl)
        · have hf := g_iff hf c29
          refine lv_iload hx hb dX8_parts_44 (lv_at hl 0 rfl) ?_
          refine lv_if_eq (tgt := 59) hx hb dX8_parts_46 (by decide) (fun _ => ?_) (fun z => absurd z (by decide))
          exact bX8_parts_L59 X E _ _ _ _ _ _ _ hf hP hS (lv_sub hl [2, 3, 4] rfl)
    · have hf := g_ift hf c23
      exact bX8_parts_L15 X E _ _ _ _ _ _ _ _ hf hP hS (lv_sub hl [1, 2, 3, 0] rfl)
theorem lkX1_weightOf_0 : Cond.fieldLink RX1 15 "BackToTheFirstStone$Kind" "WEIGHT" "[I" ∈ wsX1_weightOf := by decide +kernel
def fX1_weightOf (S : GS) (a1 : Int32) : Option Int32 :=
  if a1 < 0 then
    some (0 : Int32)
  else
    if (7 : Int32) ≤ a1 then
      some (0 : Int32)
    else
      if a1 < 0 ∨ 7 ≤ (a1).toNatClampNeg then none else
      some (gTb 3 (a1).toNatClampNeg)
set_option maxHeartbeats 4000000 in
set_option maxRecDepth 100000 in
theorem tcX1_weightOf (l : Launch) (G : GP) (S : GS) (a1 : Int32) {R : Int32} (hf : fX1_weightOf S a1 = some R) : CI l yX1_weightOf wsX1_weightOf 0 0 [.int a1] WX G S R S := by
  refine g_met RX1 (cc := cX1_weightOf) (nL := 1) (ret := (some .int)) (by decide) rfl rfl (Nat.le_of_ble_eq_true rfl) ?_
  intro p e s m below meth c ls X E hP hS hl
  have hl : lv_has ls 1 [(0, .int a1)] := hl
  obtain ⟨hx, hb, -, -, hown, hts, -⟩ := id X
  rw [fX1_weightOf] at hf
  refine lv_iload_n hx hb dX1_weightOf_0 rfl (lv_at hl 0 rfl) ?_
  refine lv_if_lt (tgt := 20) hx hb dX1_weightOf_1 (by decide) (fun c1 => ?_) (fun c1 => ?_)
  · have hf := g_ift hf c1
    refine lv_iconst (v := 0) hx hb dX1_weightOf_20 (by decide) ?_
    obtain rfl := g_some hf
    exact g_ri X E hP hS dX1_weightOf_21
  · have hf := g_iff hf c1
    refine lv_iload_n hx hb dX1_weightOf_4 rfl (lv_at hl 0 rfl) ?_
    refine g_tget X E hS 3 rfl lkX1_weightOf_0 dX1_weightOf_5 ?_
    refine g_tln X E hS 3 rfl (v := (7 : Int32)) rfl dX1_weightOf_8 ?_
    refine lv_icmp_ge (tgt := 20) hx hb dX1_weightOf_9 (by decide) (fun c2 => ?_) (fun c2 => ?_)
    · have hf := g_ift hf c2
      refine lv_iconst (v := 0) hx hb dX1_weightOf_20 (by decide) ?_
      obtain rfl := g_some hf
      exact g_ri X E hP hS dX1_weightOf_21
    · have hf := g_iff hf c2
      refine g_tget X E hS 3 rfl lkX1_weightOf_0 dX1_weightOf_12 ?_
      refine lv_iload_n hx hb dX1_weightOf_15 rfl (lv_at hl 0 rfl) ?_
      obtain ⟨b3, hf⟩ := g_if hf
      refine g_tld X E hS 3 rfl b3 dX1_weightOf_16 ?_
      refine lv_goto (tgt := 21) hx hb dX1_weightOf_17 (by decide) ?_
      obtain rfl := g_some hf
      exact g_ri X E hP hS dX1_weightOf_21
theorem lkX8_again_0 : Cond.fieldLink RX8 19 RX8 "now" "LBackToTheFirstStone$Loop;" ∈ wsX8_again := by decide +kernel
theorem inX8_again_X8 : ∀ w ∈ wsX80, w ∈ wsX8_again := by decide +kernel
def fX8_again_43 : Nat → GS → Int32 → Int32 → Int32 → Int32 → Int32 → Int32 → Int32 → Option (Int32 × Int32)
  | 0, _, _, _, _, _, _, _, _ => none
  | fu + 1, S, v1, v2, v3, v4, v5, v6, v7 =>
    (fX3_count_now S).bind fun u5 =>
    if u5 ≤ v7 then
      some (v2, v3)
    else
      (fX3_yardsOf_now S v7).bind fun u8 =>
      (fX3_get_now S v7 (0 : Int32)).bind fun u10 =>
      (fX1_weightOf S u10).bind fun u12 =>
      if v1 < (v5 + u8) then
        fX8_again_43 fu S v1 v2 v3 v4 (v5 + u8) (v6 + u12) (v7 + 1)
      else
        if (v6 + u12) ≤ v3 then
          fX8_again_43 fu S v1 v2 v3 v4 (v5 + u8) (v6 + u12) (v7 + 1)
        else
          fX8_again_43 fu S v1 (((100 : Int32) * v4) + v7) (v6 + u12) v4 (v5 + u8) (v6 + u12) (v7 + 1)
set_option maxHeartbeats 4000000 in
set_option maxRecDepth 100000 in
theorem bX8_again_43 {p : Program} {l : Launch} {e : Env} {s : State} {m : MethodId} {args : Array Value} {below : List Frame} {meth : Method} {c : Code} {Q : State → Prop} {G : GP} (X : GX p s m meth c args cX8_again 8 (some .int) wsX8_again RX8) (E : gE WX G s)  : ∀ (fu : Nat) (S : GS) (v1 : Int32) (v2 : Int32) (v3 : Int32) (v4 : Int32) (v5 : Int32) (v6 : Int32) (v7 : Int32) (R : (Int32 × Int32)) (H : Heap) (locs : List Loc) (ls : Array Slot) (_ : fX8_again_43 fu S v1 v2 v3 v4 v5 v6 v7 = some R) (_ : va_P (gD G) vwCl (WX G S ++ gF G) H) (_ : va_S (gA G) s.heap H locs) (_ : lv_has ls 8 [(0, .ref (ga G 63)), (1, .int v1), (2, .int v2), (3, .int v3), (4, .int v4), (5, .int v5), (6, .int v6), (7, .int v7)]) (_ : ∀ (H : Heap) (locs : List Loc) (ls : Array Slot), va_P (gD G) vwCl (WX G S ++ gF G) H → va_S (gA G) s.heap H locs → lv_has ls 8 [(0, .ref (ga G 63)), (1, .int v1), (2, .int R.1), (3, .int R.2), (4, .int v4)] → W p l e (gR 2 44) s m args below meth c H locs 0 0 Q (F0 m 117 ls [])), W p l e (gR 2 44) s m args below meth c H locs 0 0 Q (F0 m 43 ls []) := by
  obtain ⟨hx, hb, -, -, hown, hts, -⟩ := id X
  intro fu
  induction fu with
  | zero =>
    intro S v1 v2 v3 v4 v5 v6 v7 R H locs ls hf
    cases (show (none : Option (Int32 × Int32)) = some R from hf)
  | succ fu ih =>
    intro S v1 v2 v3 v4 v5 v6 v7 R H locs ls hf hP hS hl kk
    rw [fX8_again_43] at hf
    refine lv_iload hx hb dX8_again_43 (lv_at hl 7 rfl) ?_
    refine lv_aload_n hx hb dX8_again_45 rfl (lv_at hl 0 rfl) ?_
    refine ggX_49 X E hP inX8_again_X8 lkX8_again_0 dX8_again_46 ?_
    obtain ⟨u5, h6, hf⟩ := g_bind hf
    refine g_vi (rest := [.int v7]) X E hP hS (tcX3_count_now l G _  h6) (g_cwV X gX8_again_X3_count rfl hdX3_count ⟨Nat.le_of_ble_eq_true rfl, Nat.le_of_ble_eq_true rfl⟩) (rcX_now E hP) rfl hl.1 rfl (Nat.le_of_ble_eq_true rfl) dX8_again_49 ⟨Nat.le_refl _, Nat.le_refl _⟩ (fun H locs hP hS => ?_)
    refine lv_icmp_ge (tgt := 117) hx hb dX8_again_52 (by decide) (fun c7 => ?_) (fun c7 => ?_)
    · have hf := g_ift hf c7
      obtain rfl := g_some hf
      exact kk _ _ _ hP hS (lv_sub hl [0, 1, 2, 3, 4] rfl)
    · have hf := g_iff hf c7
      refine lv_iload hx hb dX8_again_55 (lv_at hl 5 rfl) ?_
      refine lv_aload_n hx hb dX8_again_57 rfl (lv_at hl 0 rfl) ?_
      refine ggX_49 X E hP inX8_again_X8 lkX8_again_0 dX8_again_58 ?_
      refine lv_iload hx hb dX8_again_61 (lv_at hl 7 rfl) ?_
      obtain ⟨u8, h9, hf⟩ := g_bind hf
      refine g_vi (rest := [.int v5]) X E hP hS (tcX3_yardsOf_now l G _ _ h9) (g_cwV X gX8_again_X3_yardsOf rfl hdX3_yardsOf ⟨Nat.le_of_ble_eq_true rfl, Nat.le_of_ble_eq_true rfl⟩) (rcX_now E hP) rfl hl.1 rfl (Nat.le_of_ble_eq_true rfl) dX8_again_63 ⟨Nat.le_refl _, Nat.le_refl _⟩ (fun H locs hP hS => ?_)
      refine lv_iadd hx hb dX8_again_66 ?_
      refine lv_istore (lv' := [(5, .int (v5 + u8)), (0, .ref (ga G 63)), (1, .int v1), (2, .int v2), (3, .int v3), (4, .int v4), (6, .int v6), (7, .int v7)]) hx hb dX8_again_67 hl (by decide) rfl (fun ls hl => ?_)
      refine lv_iload hx hb dX8_again_69 (lv_at hl 6 rfl) ?_
      refine lv_aload_n hx hb dX8_again_71 rfl (lv_at hl 1 rfl) ?_
      refine ggX_49 X E hP inX8_again_X8 lkX8_again_0 dX8_again_72 ?_
      refine lv_iload hx hb dX8_again_75 (lv_at hl 7 rfl) ?_
      refine lv_iconst (v := 0) hx hb dX8_again_77 (by decide) ?_
      obtain ⟨u10, h11, hf⟩ := g_bind hf
      refine g_vi (rest := [.int v6]) X E hP hS (tcX3_get_now l G _ _ _ h11) (g_cwV X gX8_again_X3_get rfl hdX3_get ⟨Nat.le_of_ble_eq_true rfl, Nat.le_of_ble_eq_true rfl⟩) (rcX_now E hP) rfl hl.1 rfl (Nat.le_of_ble_eq_true rfl) dX8_again_78 ⟨Nat.le_refl _, Nat.le_refl _⟩ (fun H locs hP hS => ?_)
      obtain ⟨u12, h13, hf⟩ := g_bind hf
      refine g_si (rest := [.int v6]) X E hP hS (tcX1_weightOf l G _ _ h13) (g_cwS X gX8_again_X1_weightOf rfl hdX1_weightOf ⟨Nat.le_of_ble_eq_true rfl, Nat.le_of_ble_eq_true rfl⟩) rfl hl.1 rfl (Nat.le_of_ble_eq_true rfl) dX8_again_81 ⟨Nat.le_refl _, Nat.le_refl _⟩ (fun H locs hP hS => ?_)
      refine lv_iadd hx hb dX8_again_84 ?_
      refine lv_istore (lv' := [(6, .int (v6 + u12)), (5, .int (v5 + u8)), (0, .ref (ga G 63)), (1, .int v1), (2, .int v2), (3, .int v3), (4, .int v4), (7, .int v7)]) hx hb dX8_again_85 hl (by decide) rfl (fun ls hl => ?_)
      refine lv_iload hx hb dX8_again_87 (lv_at hl 1 rfl) ?_
      refine lv_iload_n hx hb dX8_again_89 rfl (lv_at hl 3 rfl) ?_
      refine lv_icmp_gt (tgt := 111) hx hb dX8_again_90 (by decide) (fun c14 => ?_) (fun c14 => ?_)
      · have hf := g_ift hf c14
        refine lv_iinc (v := (v7 + 1)) (lv' := [(7, .int (v7 + 1)), (6, .int (v6 + u12)), (5, .int (v5 + u8)), (0, .ref (ga G 63)), (1, .int v1), (2, .int v2), (3, .int v3), (4, .int v4)]) hx hb dX8_again_111 hl (k := 7) rfl rfl (by decide) rfl (fun ls hl => ?_)
        refine lv_goto (tgt := 43) hx hb dX8_again_114 (by decide) ?_
        exact ih _ _ _ _ _ _ _ _ _ _ _ _ hf hP hS (lv_sub hl [3, 4, 5, 6, 7, 2, 1, 0] rfl) kk
      · have hf := g_iff hf c14
        refine lv_iload hx hb dX8_again_93 (lv_at hl 0 rfl) ?_
        refine lv_iload_n hx hb dX8_again_95 rfl (lv_at hl 5 rfl) ?_
        refine lv_icmp_le (tgt := 111) hx hb dX8_again_96 (by decide) (fun c15 => ?_) (fun c15 => ?_)
        · have hf := g_ift hf c15
          refine lv_iinc (v := (v7 + 1)) (lv' := [(7, .int (v7 + 1)), (6, .int (v6 + u12)), (5, .int (v5 + u8)), (0, .ref (ga G 63)), (1, .int v1), (2, .int v2), (3, .int v3), (4, .int v4)]) hx hb dX8_again_111 hl (k := 7) rfl rfl (by decide) rfl (fun ls hl => ?_)
          refine lv_goto (tgt := 43) hx hb dX8_again_114 (by decide) ?_
          exact ih _ _ _ _ _ _ _ _ _ _ _ _ hf hP hS (lv_sub hl [3, 4, 5, 6, 7, 2, 1, 0] rfl) kk
        · have hf := g_iff hf c15
          refine lv_bipush (v := 100) hx hb dX8_again_99 (by decide) ?_
          refine lv_iload hx hb dX8_again_101 (lv_at hl 6 rfl) ?_
          refine lv_imul hx hb dX8_again_103 ?_
          refine lv_iload hx hb dX8_again_104 (lv_at hl 7 rfl) ?_
          refine lv_iadd hx hb dX8_again_106 ?_
          refine lv_istore_n (lv' := [(2, .int (((100 : Int32) * v4) + v7)), (6, .int (v6 + u12)), (5, .int (v5 + u8)), (0, .ref (ga G 63)), (1, .int v1), (3, .int v3), (4, .int v4), (7, .int v7)]) hx hb dX8_again_107 rfl hl (by decide) rfl (fun ls hl => ?_)
          refine lv_iload hx hb dX8_again_108 (lv_at hl 1 rfl) ?_
          refine lv_istore_n (lv' := [(3, .int (v6 + u12)), (2, .int (((100 : Int32) * v4) + v7)), (6, .int (v6 + u12)), (5, .int (v5 + u8)), (0, .ref (ga G 63)), (1, .int v1), (4, .int v4), (7, .int v7)]) hx hb dX8_again_110 rfl hl (by decide) rfl (fun ls hl => ?_)
          refine lv_iinc (v := (v7 + 1)) (lv' := [(7, .int (v7 + 1)), (3, .int (v6 + u12)), (2, .int (((100 : Int32) * v4) + v7)), (6, .int (v6 + u12)), (5, .int (v5 + u8)), (0, .ref (ga G 63)), (1, .int v1), (4, .int v4)]) hx hb dX8_again_111 hl (k := 7) rfl rfl (by decide) rfl (fun ls hl => ?_)
          refine lv_goto (tgt := 43) hx hb dX8_again_114 (by decide) ?_
          exact ih _ _ _ _ _ _ _ _ _ _ _ _ hf hP hS (lv_sub hl [5, 6, 2, 1, 7, 4, 3, 0] rfl) kk
def fX8_again_21 : Nat → GS → Int32 → Int32 → Int32 → Int32 → Option Int32
  | 0, _, _, _, _, _ => none
  | fu + 1, S, v1, v2, v3, v4 =>
    (fX3_count_now S).bind fun u2 =>
    if u2 ≤ v4 then
      some v2
    else
      (fX8_again_43 gFuel S v1 v2 v3 v4 (0 : Int32) (0 : Int32) v4).bind fun u16 =>
      fX8_again_21 fu S v1 u16.1 u16.2 (v4 + 1)
set_option maxHeartbeats 4000000 in
set_option maxRecDepth 100000 in
theorem bX8_again_21 {p : Program} {l : Launch} {e : Env} {s : State} {m : MethodId} {args : Array Value} {below : List Frame} {meth : Method} {c : Code} {Q : State → Prop} {G : GP} (X : GX p s m meth c args cX8_again 8 (some .int) wsX8_again RX8) (E : gE WX G s)  : ∀ (fu : Nat) (S : GS) (v1 : Int32) (v2 : Int32) (v3 : Int32) (v4 : Int32) (R : Int32) (H : Heap) (locs : List Loc) (ls : Array Slot) (_ : fX8_again_21 fu S v1 v2 v3 v4 = some R) (_ : va_P (gD G) vwCl (WX G S ++ gF G) H) (_ : va_S (gA G) s.heap H locs) (_ : lv_has ls 8 [(0, .ref (ga G 63)), (1, .int v1), (2, .int v2), (3, .int v3), (4, .int v4)]) (_ : ∀ (H : Heap) (locs : List Loc) (ls : Array Slot), va_P (gD G) vwCl (WX G S ++ gF G) H → va_S (gA G) s.heap H locs → lv_has ls 8 [(2, .int R)] → W p l e (gR 2 44) s m args below meth c H locs 0 0 Q (F0 m 123 ls [])), W p l e (gR 2 44) s m args below meth c H locs 0 0 Q (F0 m 21 ls []) := by
  obtain ⟨hx, hb, -, -, hown, hts, -⟩ := id X
  intro fu
  induction fu with
  | zero =>
    intro S v1 v2 v3 v4 R H locs ls hf
    cases (show (none : Option Int32) = some R from hf)
  | succ fu ih =>
    intro S v1 v2 v3 v4 R H locs ls hf hP hS hl kk
    rw [fX8_again_21] at hf
    refine lv_iload hx hb dX8_again_21 (lv_at hl 4 rfl) ?_
    refine lv_aload_n hx hb dX8_again_23 rfl (lv_at hl 0 rfl) ?_
    refine ggX_49 X E hP inX8_again_X8 lkX8_again_0 dX8_again_24 ?_
    obtain ⟨u2, h3, hf⟩ := g_bind hf
    refine g_vi (rest := [.int v4]) X E hP hS (tcX3_count_now l G _  h3) (g_cwV X gX8_again_X3_count rfl hdX3_count ⟨Nat.le_of_ble_eq_true rfl, Nat.le_of_ble_eq_true rfl⟩) (rcX_now E hP) rfl hl.1 rfl (Nat.le_of_ble_eq_true rfl) dX8_again_27 ⟨Nat.le_refl _, Nat.le_refl _⟩ (fun H locs hP hS => ?_)
    refine lv_icmp_ge (tgt := 123) hx hb dX8_again_30 (by decide) (fun c4 => ?_) (fun c4 => ?_)
    · have hf := g_ift hf c4
      obtain rfl := g_some hf
      exact kk _ _ _ hP hS (lv_sub hl [2] rfl)
    · have hf := g_iff hf c4
      refine lv_iconst (v := 0) hx hb dX8_again_33 (by decide) ?_
      refine lv_istore (lv' := [(5, .int (0 : Int32)), (0, .ref (ga G 63)), (1, .int v1), (2, .int v2), (3, .int v3), (4, .int v4)]) hx hb dX8_again_34 hl (by decide) rfl (fun ls hl => ?_)
      refine lv_iconst (v := 0) hx hb dX8_again_36 (by decide) ?_
      refine lv_istore (lv' := [(6, .int (0 : Int32)), (5, .int (0 : Int32)), (0, .ref (ga G 63)), (1, .int v1), (2, .int v2), (3, .int v3), (4, .int v4)]) hx hb dX8_again_37 hl (by decide) rfl (fun ls hl => ?_)
      refine lv_iload hx hb dX8_again_39 (lv_at hl 6 rfl) ?_
      refine lv_istore (lv' := [(7, .int v4), (6, .int (0 : Int32)), (5, .int (0 : Int32)), (0, .ref (ga G 63)), (1, .int v1), (2, .int v2), (3, .int v3), (4, .int v4)]) hx hb dX8_again_41 hl (by decide) rfl (fun ls hl => ?_)
      obtain ⟨u16, h17, hf⟩ := g_bind hf
      refine bX8_again_43 X E gFuel _ _ _ _ _ _ _ _ u16 _ _ _ h17 hP hS (lv_sub hl [3, 4, 5, 6, 7, 2, 1, 0] rfl) (fun H locs ls hP hS hl => ?_)
      have hl : lv_has ls 8 [(0, .ref (ga G 63)), (1, .int v1), (2, .int u16.1), (3, .int u16.2), (4, .int v4)] := hl
      refine lv_iinc (v := (v4 + 1)) (lv' := [(4, .int (v4 + 1)), (0, .ref (ga G 63)), (1, .int v1), (2, .int u16.1), (3, .int u16.2)]) hx hb dX8_again_117 hl (k := 4) rfl rfl (by decide) rfl (fun ls hl => ?_)
      refine lv_goto (tgt := 21) hx hb dX8_again_120 (by decide) ?_
      exact ih _ _ _ _ _ _ _ _ _ hf hP hS (lv_sub hl [1, 2, 3, 4, 0] rfl) kk
def fX8_again (S : GS) (a1 : Int32) : Option (Int32 × GS) :=
  if 0 ≤ a1 then
    (fX8_again_21 gFuel S a1 (-1 : Int32) (0 : Int32) (0 : Int32)).bind fun u18 =>
    some (u18, S)
  else
    (fX8_refuse S (-6 : Int32)).bind fun u20 =>
    some (((-10 : Int32) + u20.1), u20.2)
set_option maxHeartbeats 4000000 in
set_option maxRecDepth 100000 in
theorem tcX8_again (l : Launch) (G : GP) (S : GS) (a1 : Int32) {R : (Int32 × GS)} (hf : fX8_again S a1 = some R) : CI l yX8_again wsX8_again 2 44 [.ref (ga G 63), .int a1] WX G S R.1 R.2 := by
  refine g_met RX8 (cc := cX8_again) (nL := 8) (ret := (some .int)) (by decide) rfl rfl (Nat.le_of_ble_eq_true rfl) ?_
  intro p e s m below meth c ls X E hP hS hl
  have hl : lv_has ls 8 [(0, .ref (ga G 63)), (1, .int a1)] := hl
  obtain ⟨hx, hb, -, -, hown, hts, -⟩ := id X
  rw [fX8_again] at hf
  refine lv_iload_n hx hb dX8_again_0 rfl (lv_at hl 1 rfl) ?_
  refine lv_if_ge (tgt := 14) hx hb dX8_again_1 (by decide) (fun c1 => ?_) (fun c1 => ?_)
  · have hf := g_ift hf c1
    refine lv_iconst (v := -1) hx hb dX8_again_14 (by decide) ?_
    refine lv_istore_n (lv' := [(2, .int (-1 : Int32)), (0, .ref (ga G 63)), (1, .int a1)]) hx hb dX8_again_15 rfl hl (by decide) rfl (fun ls hl => ?_)
    refine lv_iconst (v := 0) hx hb dX8_again_16 (by decide) ?_
    refine lv_istore_n (lv' := [(3, .int (0 : Int32)), (2, .int (-1 : Int32)), (0, .ref (ga G 63)), (1, .int a1)]) hx hb dX8_again_17 rfl hl (by decide) rfl (fun ls hl => ?_)
    refine lv_iconst (v := 0) hx hb dX8_again_18 (by decide) ?_
    refine lv_istore (lv' := [(4, .int (0 : Int32)), (3, .int (0 : Int32)), (2, .int (-1 : Int32)), (0, .ref (ga G 63)), (1, .int a1)]) hx hb dX8_again_19 hl (by decide) rfl (fun ls hl => ?_)
    obtain ⟨u18, h19, hf⟩ := g_bind hf
    refine bX8_again_21 X E gFuel _ _ _ _ _ u18 _ _ _ h19 hP hS (lv_sub hl [3, 4, 2, 1, 0] rfl) (fun H locs ls hP hS hl => ?_)
    have hl : lv_has ls 8 [(2, .int u18)] := hl
    refine lv_iload_n hx hb dX8_again_123 rfl (lv_at hl 0 rfl) ?_
    obtain rfl := g_some hf
    exact g_ri X E hP hS dX8_again_124
  · have hf := g_iff hf c1
    refine lv_bipush (v := -10) hx hb dX8_again_4 (by decide) ?_
    refine lv_aload_n hx hb dX8_again_6 rfl (lv_at hl 0 rfl) ?_
    refine lv_bipush (v := -6) hx hb dX8_again_7 (by decide) ?_
    obtain ⟨u20, h21, hf⟩ := g_bind hf
    refine g_vi (rest := [.int (-10 : Int32)]) X E hP hS (tcX8_refuse l G _ _ h21) (g_cwV X gX8_again_X8_refuse rfl hdX8_refuse ⟨Nat.le_of_ble_eq_true rfl, Nat.le_of_ble_eq_true rfl⟩) (rcX_main E hP) rfl hl.1 rfl (Nat.le_of_ble_eq_true rfl) dX8_again_9 ⟨Nat.le_refl _, Nat.le_refl _⟩ (fun H locs hP hS => ?_)
    refine lv_iadd hx hb dX8_again_12 ?_
    obtain rfl := g_some hf
    exact g_ri X E hP hS dX8_again_13
theorem lkX6_bitsOf_0 : Cond.fieldLink RX6 13 RX6 "bitsBySum" "[I" ∈ wsX6_bitsOf := by decide +kernel
theorem inX6_bitsOf_X6 : ∀ w ∈ wsX60, w ∈ wsX6_bitsOf := by decide +kernel
def fX6_bitsOf (S : GS) (a1 : Int32) : Option Int32 :=
  if a1 < (-288 : Int32) then
    some (-1 : Int32)
  else
    if (288 : Int32) < a1 then
      some (-1 : Int32)
    else
      if ((288 : Int32) + a1) < 0 ∨ 577 ≤ ((288 : Int32) + a1).toNatClampNeg then none else
      some (S.2.2.1 112 ((288 : Int32) + a1).toNatClampNeg)
set_option maxHeartbeats 4000000 in
set_option maxRecDepth 100000 in
theorem tcX6_bitsOf (l : Launch) (G : GP) (S : GS) (a1 : Int32) {R : Int32} (hf : fX6_bitsOf S a1 = some R) : CI l yX6_bitsOf wsX6_bitsOf 0 0 [.ref (ga G 127), .int a1] WX G S R S := by
  refine g_met RX6 (cc := cX6_bitsOf) (nL := 2) (ret := (some .int)) (by decide) rfl rfl (Nat.le_of_ble_eq_true rfl) ?_
  intro p e s m below meth c ls X E hP hS hl
  have hl : lv_has ls 2 [(0, .ref (ga G 127)), (1, .int a1)] := hl
  obtain ⟨hx, hb, -, -, hown, hts, -⟩ := id X
  rw [fX6_bitsOf] at hf
  refine lv_iload_n hx hb dX6_bitsOf_0 rfl (lv_at hl 1 rfl) ?_
  refine lv_sipush (v := -288) hx hb dX6_bitsOf_1 (by decide) ?_
  refine lv_icmp_lt (tgt := 27) hx hb dX6_bitsOf_4 (by decide) (fun c1 => ?_) (fun c1 => ?_)
  · have hf := g_ift hf c1
    refine lv_iconst (v := -1) hx hb dX6_bitsOf_27 (by decide) ?_
    obtain rfl := g_some hf
    exact g_ri X E hP hS dX6_bitsOf_28
  · have hf := g_iff hf c1
    refine lv_iload_n hx hb dX6_bitsOf_7 rfl (lv_at hl 1 rfl) ?_
    refine lv_sipush (v := 288) hx hb dX6_bitsOf_8 (by decide) ?_
    refine lv_icmp_gt (tgt := 27) hx hb dX6_bitsOf_11 (by decide) (fun c2 => ?_) (fun c2 => ?_)
    · have hf := g_ift hf c2
      refine lv_iconst (v := -1) hx hb dX6_bitsOf_27 (by decide) ?_
      obtain rfl := g_some hf
      exact g_ri X E hP hS dX6_bitsOf_28
    · have hf := g_iff hf c2
      refine lv_aload_n hx hb dX6_bitsOf_14 rfl (lv_at hl 0 rfl) ?_
      refine ggX_112 X E hP inX6_bitsOf_X6 lkX6_bitsOf_0 dX6_bitsOf_15 ?_
      refine lv_sipush (v := 288) hx hb dX6_bitsOf_18 (by decide) ?_
      refine lv_iload_n hx hb dX6_bitsOf_21 rfl (lv_at hl 1 rfl) ?_
      refine lv_iadd hx hb dX6_bitsOf_22 ?_
      obtain ⟨b3, hf⟩ := g_if hf
      refine giX_112 X E hP b3 dX6_bitsOf_23 ?_
      refine lv_goto (tgt := 28) hx hb dX6_bitsOf_24 (by decide) ?_
      obtain rfl := g_some hf
      exact g_ri X E hP hS dX6_bitsOf_28
theorem lkX6_addOne_0 : Cond.fieldLink RX6 17 RX6 "next" "[I" ∈ wsX6_addOne := by decide +kernel
theorem lkX6_addOne_1 : Cond.fieldLink RX6 13 RX6 "bitsBySum" "[I" ∈ wsX6_addOne := by decide +kernel
theorem lkX6_addOne_2 : Cond.methodLink RX6 45 arraycopyName ∈ wsX6_addOne := by decide +kernel
theorem lkX6_addOne_3 : Cond.native arraycopyName ∈ wsX6_addOne := by decide +kernel
theorem lkX6_addOne_4 : Cond.static arraycopyName ∈ wsX6_addOne := by decide +kernel
theorem lkX6_addOne_5 : Cond.initialized "java/lang/System" ∈ wsX6_addOne := by decide +kernel
theorem inX6_addOne_X6 : ∀ w ∈ wsX60, w ∈ wsX6_addOne := by decide +kernel
def fX6_addOne_4 : Nat → GS → Int32 → Int32 → Int32 → Option GS
  | 0, _, _, _, _ => none
  | fu + 1, S, v1, v2, v3 =>
    if (288 : Int32) < v3 then
      some S
    else
      (fX6_bitsOf S (v3 - v1)).bind fun u2 =>
      (fX6_bitsOf S (v3 + v1)).bind fun u4 =>
      if u2 = (-1 : Int32) then
        if u4 = (-1 : Int32) then
          if ((288 : Int32) + v3) < 0 ∨ 577 ≤ ((288 : Int32) + v3).toNatClampNeg then none else
          fX6_addOne_4 fu (gU3 S 113 ((288 : Int32) + v3).toNatClampNeg (-1 : Int32)) v1 v2 (v3 + 1)
        else
          if ((288 : Int32) + v3) < 0 ∨ 577 ≤ ((288 : Int32) + v3).toNatClampNeg then none else
          fX6_addOne_4 fu (gU3 S 113 ((288 : Int32) + v3).toNatClampNeg (u4 ||| v2)) v1 v2 (v3 + 1)
      else
        if ((288 : Int32) + v3) < 0 ∨ 577 ≤ ((288 : Int32) + v3).toNatClampNeg then none else
        fX6_addOne_4 fu (gU3 S 113 ((288 : Int32) + v3).toNatClampNeg u2) v1 v2 (v3 + 1)
set_option maxHeartbeats 4000000 in
set_option maxRecDepth 100000 in
theorem bX6_addOne_4 {p : Program} {l : Launch} {e : Env} {s : State} {m : MethodId} {args : Array Value} {below : List Frame} {meth : Method} {c : Code} {Q : State → Prop} {G : GP} (X : GX p s m meth c args cX6_addOne 6 none wsX6_addOne RX6) (E : gE WX G s)  : ∀ (fu : Nat) (S : GS) (v1 : Int32) (v2 : Int32) (v3 : Int32) (R : GS) (H : Heap) (locs : List Loc) (ls : Array Slot) (_ : fX6_addOne_4 fu S v1 v2 v3 = some R) (_ : va_P (gD G) vwCl (WX G S ++ gF G) H) (_ : va_S (gA G) s.heap H locs) (_ : lv_has ls 6 [(0, .ref (ga G 127)), (1, .int v1), (2, .int v2), (3, .int v3)]) (_ : ∀ (H : Heap) (locs : List Loc) (ls : Array Slot), va_P (gD G) vwCl (WX G R ++ gF G) H → va_S (gA G) s.heap H locs → lv_has ls 6 [(0, .ref (ga G 127))] → W p l e (gR 1 64) s m args below meth c H locs 0 0 Q (F0 m 70 ls [])), W p l e (gR 1 64) s m args below meth c H locs 0 0 Q (F0 m 4 ls []) := by
  obtain ⟨hx, hb, -, -, hown, hts, -⟩ := id X
  intro fu
  induction fu with
  | zero =>
    intro S v1 v2 v3 R H locs ls hf
    cases (show (none : Option GS) = some R from hf)
  | succ fu ih =>
    intro S v1 v2 v3 R H locs ls hf hP hS hl kk
    rw [fX6_addOne_4] at hf
    refine lv_iload_n hx hb dX6_addOne_4 rfl (lv_at hl 3 rfl) ?_
    refine lv_sipush (v := 288) hx hb dX6_addOne_5 (by decide) ?_
    refine lv_icmp_gt (tgt := 70) hx hb dX6_addOne_8 (by decide) (fun c1 => ?_) (fun c1 => ?_)
    · have hf := g_ift hf c1
      obtain rfl := g_some hf
      exact kk _ _ _ hP hS (lv_sub hl [0] rfl)
    · have hf := g_iff hf c1
      refine lv_aload_n hx hb dX6_addOne_11 rfl (lv_at hl 0 rfl) ?_
      refine lv_iload_n hx hb dX6_addOne_12 rfl (lv_at hl 3 rfl) ?_
      refine lv_iload_n hx hb dX6_addOne_13 rfl (lv_at hl 1 rfl) ?_
      refine lv_isub hx hb dX6_addOne_14 ?_
      obtain ⟨u2, h3, hf⟩ := g_bind hf
      refine g_vi (rest := []) X E hP hS (tcX6_bitsOf l G _ _ h3) (g_cwV X gX6_addOne_X6_bitsOf rfl hdX6_bitsOf ⟨Nat.le_of_ble_eq_true rfl, Nat.le_of_ble_eq_true rfl⟩) (rcX_sink E hP) rfl hl.1 rfl (Nat.le_of_ble_eq_true rfl) dX6_addOne_15 ⟨Nat.le_refl _, Nat.le_refl _⟩ (fun H locs hP hS => ?_)
      refine lv_istore (lv' := [(4, .int u2), (0, .ref (ga G 127)), (1, .int v1), (2, .int v2), (3, .int v3)]) hx hb dX6_addOne_18 hl (by decide) rfl (fun ls hl => ?_)
      refine lv_aload_n hx hb dX6_addOne_20 rfl (lv_at hl 1 rfl) ?_
      refine lv_iload_n hx hb dX6_addOne_21 rfl (lv_at hl 4 rfl) ?_
      refine lv_iload_n hx hb dX6_addOne_22 rfl (lv_at hl 2 rfl) ?_
      refine lv_iadd hx hb dX6_addOne_23 ?_
      obtain ⟨u4, h5, hf⟩ := g_bind hf
      refine g_vi (rest := []) X E hP hS (tcX6_bitsOf l G _ _ h5) (g_cwV X gX6_addOne_X6_bitsOf rfl hdX6_bitsOf ⟨Nat.le_of_ble_eq_true rfl, Nat.le_of_ble_eq_true rfl⟩) (rcX_sink E hP) rfl hl.1 rfl (Nat.le_of_ble_eq_true rfl) dX6_addOne_24 ⟨Nat.le_refl _, Nat.le_refl _⟩ (fun H locs hP hS => ?_)
      refine lv_istore (lv' := [(5, .int u4), (4, .int u2), (0, .ref (ga G 127)), (1, .int v1), (2, .int v2), (3, .int v3)]) hx hb dX6_addOne_27 hl (by decide) rfl (fun ls hl => ?_)
      refine lv_aload_n hx hb dX6_addOne_29 rfl (lv_at hl 2 rfl) ?_
      refine ggX_113 X E hP inX6_addOne_X6 lkX6_addOne_0 dX6_addOne_30 ?_
      refine lv_sipush (v := 288) hx hb dX6_addOne_33 (by decide) ?_
      refine lv_iload_n hx hb dX6_addOne_36 rfl (lv_at hl 5 rfl) ?_
      refine lv_iadd hx hb dX6_addOne_37 ?_
      refine lv_iload hx hb dX6_addOne_38 (lv_at hl 1 rfl) ?_
      refine lv_iconst (v := -1) hx hb dX6_addOne_40 (by decide) ?_
      refine lv_icmp_eq (tgt := 49) hx hb dX6_addOne_41 (by decide) (fun c6 => ?_) (fun c6 => ?_)
      · have hf := g_ift hf c6
        refine lv_iload hx hb dX6_addOne_49 (lv_at hl 0 rfl) ?_
        refine lv_iconst (v := -1) hx hb dX6_addOne_51 (by decide) ?_
        refine lv_icmp_eq (tgt := 62) hx hb dX6_addOne_52 (by decide) (fun c7 => ?_) (fun c7 => ?_)
        · have hf := g_ift hf c7
          refine lv_iconst (v := -1) hx hb dX6_addOne_62 (by decide) ?_
          obtain ⟨b8, hf⟩ := g_if hf
          refine gsX_113 X E hP hS b8 dX6_addOne_63 (fun H locs hP hS => ?_)
          refine lv_iinc (v := (v3 + 1)) (lv' := [(3, .int (v3 + 1)), (5, .int u4), (4, .int u2), (0, .ref (ga G 127)), (1, .int v1), (2, .int v2)]) hx hb dX6_addOne_64 hl (k := 5) rfl rfl (by decide) rfl (fun ls hl => ?_)
          refine lv_goto (tgt := 4) hx hb dX6_addOne_67 (by decide) ?_
          exact ih _ _ _ _ _ _ _ _ hf hP hS (lv_sub hl [3, 4, 5, 0] rfl) kk
        · have hf := g_iff hf c7
          refine lv_iload hx hb dX6_addOne_55 (lv_at hl 0 rfl) ?_
          refine lv_iload_n hx hb dX6_addOne_57 rfl (lv_at hl 4 rfl) ?_
          refine lv_ior hx hb dX6_addOne_58 ?_
          refine lv_goto (tgt := 63) hx hb dX6_addOne_59 (by decide) ?_
          obtain ⟨b9, hf⟩ := g_if hf
          refine gsX_113 X E hP hS b9 dX6_addOne_63 (fun H locs hP hS => ?_)
          refine lv_iinc (v := (v3 + 1)) (lv' := [(3, .int (v3 + 1)), (5, .int u4), (4, .int u2), (0, .ref (ga G 127)), (1, .int v1), (2, .int v2)]) hx hb dX6_addOne_64 hl (k := 5) rfl rfl (by decide) rfl (fun ls hl => ?_)
          refine lv_goto (tgt := 4) hx hb dX6_addOne_67 (by decide) ?_
          exact ih _ _ _ _ _ _ _ _ hf hP hS (lv_sub hl [3, 4, 5, 0] rfl) kk
      · have hf := g_iff hf c6
        refine lv_iload hx hb dX6_addOne_44 (lv_at hl 1 rfl) ?_
        refine lv_goto (tgt := 63) hx hb dX6_addOne_46 (by decide) ?_
        obtain ⟨b10, hf⟩ := g_if hf
        refine gsX_113 X E hP hS b10 dX6_addOne_63 (fun H locs hP hS => ?_)
        refine lv_iinc (v := (v3 + 1)) (lv' := [(3, .int (v3 + 1)), (5, .int u4), (4, .int u2), (0, .ref (ga G 127)), (1, .int v1), (2, .int v2)]) hx hb dX6_addOne_64 hl (k := 5) rfl rfl (by decide) rfl (fun ls hl => ?_)
        refine lv_goto (tgt := 4) hx hb dX6_addOne_67 (by decide) ?_
        exact ih _ _ _ _ _ _ _ _ hf hP hS (lv_sub hl [3, 4, 5, 0] rfl) kk
def fX6_addOne (S : GS) (a1 : Int32) (a2 : Int32) : Option GS :=
  (fX6_addOne_4 gFuel S a1 a2 (-288 : Int32)).bind fun u11 =>
  if (0 : Int32) < 0 ∨ (0 : Int32) < 0 ∨ (577 : Int32) < 0 ∨ 577 < (0 : Int32).toNatClampNeg + (577 : Int32).toNatClampNeg ∨ 577 < (0 : Int32).toNatClampNeg + (577 : Int32).toNatClampNeg then none else
  gLet (gA3 u11 112 (va_cpy (u11.2.2.1 113) (u11.2.2.1 112) (0 : Int32).toNatClampNeg (0 : Int32).toNatClampNeg (577 : Int32).toNatClampNeg)) fun T14 =>
  some T14
set_option maxHeartbeats 4000000 in
set_option maxRecDepth 100000 in
theorem tcX6_addOne (l : Launch) (G : GP) (S : GS) (a1 : Int32) (a2 : Int32) {R : GS} (hf : fX6_addOne S a1 a2 = some R) : CV l yX6_addOne wsX6_addOne 1 64 [.ref (ga G 127), .int a1, .int a2] WX G S R := by
  refine g_met RX6 (cc := cX6_addOne) (nL := 6) (ret := none) (by decide) rfl rfl (Nat.le_of_ble_eq_true rfl) ?_
  intro p e s m below meth c ls X E hP hS hl
  have hl : lv_has ls 6 [(0, .ref (ga G 127)), (1, .int a1), (2, .int a2)] := hl
  obtain ⟨hx, hb, -, -, hown, hts, -⟩ := id X
  rw [fX6_addOne] at hf
  refine lv_sipush (v := -288) hx hb dX6_addOne_0 (by decide) ?_
  refine lv_istore_n (lv' := [(3, .int (-288 : Int32)), (0, .ref (ga G 127)), (1, .int a1), (2, .int a2)]) hx hb dX6_addOne_3 rfl hl (by decide) rfl (fun ls hl => ?_)
  obtain ⟨u11, h12, hf⟩ := g_bind hf
  refine bX6_addOne_4 X E gFuel _ _ _ _ u11 _ _ _ h12 hP hS (lv_sub hl [1, 2, 3, 0] rfl) (fun H locs ls hP hS hl => ?_)
  have hl : lv_has ls 6 [(0, .ref (ga G 127))] := hl
  have hP : va_P (gD G) vwCl (WX G u11 ++ gF G) H := hP
  refine lv_aload_n hx hb dX6_addOne_70 rfl (lv_at hl 0 rfl) ?_
  refine ggX_113 X E hP inX6_addOne_X6 lkX6_addOne_0 dX6_addOne_71 ?_
  refine lv_iconst (v := 0) hx hb dX6_addOne_74 (by decide) ?_
  refine lv_aload_n hx hb dX6_addOne_75 rfl (lv_at hl 0 rfl) ?_
  refine ggX_112 X E hP inX6_addOne_X6 lkX6_addOne_1 dX6_addOne_76 ?_
  refine lv_iconst (v := 0) hx hb dX6_addOne_79 (by decide) ?_
  refine lv_aload_n hx hb dX6_addOne_80 rfl (lv_at hl 0 rfl) ?_
  refine ggX_113 X E hP inX6_addOne_X6 lkX6_addOne_0 dX6_addOne_81 ?_
  refine glX_113 X E hP dX6_addOne_84 ?_
  obtain ⟨b13, hf⟩ := g_if hf
  refine gcX_113_112 X E hP hS hl.1 lkX6_addOne_2 lkX6_addOne_3 lkX6_addOne_4 lkX6_addOne_5 b13 (Nat.le_of_ble_eq_true rfl) (by decide +kernel) dX6_addOne_85 (fun H locs hP hS => ?_)
  obtain ⟨T14, e15, hf⟩ := g_let hf
  rw [← e15] at hP
  obtain rfl := g_some hf
  exact g_rv X E hP hS dX6_addOne_88
theorem lkX6_pickNearest_0 : Cond.fieldLink RX6 20 RX6 "bits" "I" ∈ wsX6_pickNearest := by decide +kernel
theorem lkX6_pickNearest_1 : Cond.fieldLink RX6 24 RX6 "together" "I" ∈ wsX6_pickNearest := by decide +kernel
theorem inX6_pickNearest_X6 : ∀ w ∈ wsX60, w ∈ wsX6_pickNearest := by decide +kernel
def fX6_pickNearest_7 : Nat → GS → Int32 → Option GS
  | 0, _, _ => none
  | fu + 1, S, v1 =>
    if (288 : Int32) < v1 then
      some S
    else
      if (S.1 114) = (-1 : Int32) then
        (fX6_bitsOf S v1).bind fun u3 =>
        (fX6_bitsOf S (-v1)).bind fun u5 =>
        if u3 = (-1 : Int32) then
          fX6_pickNearest_7 fu (gU1 (gU1 S 114 u5) 115 (-v1)) (v1 + 1)
        else
          if u5 = (-1 : Int32) then
            fX6_pickNearest_7 fu (gU1 (gU1 S 114 u3) 115 v1) (v1 + 1)
          else
            if u5 < u3 then
              fX6_pickNearest_7 fu (gU1 (gU1 S 114 u5) 115 (-v1)) (v1 + 1)
            else
              fX6_pickNearest_7 fu (gU1 (gU1 S 114 u3) 115 v1) (v1 + 1)
      else
        some S
set_option maxHeartbeats 4000000 in
set_option maxRecDepth 100000 in
theorem bX6_pickNearest_7 {p : Program} {l : Launch} {e : Env} {s : State} {m : MethodId} {args : Array Value} {below : List Frame} {meth : Method} {c : Code} {Q : State → Prop} {G : GP} (X : GX p s m meth c args cX6_pickNearest 5 none wsX6_pickNearest RX6) (E : gE WX G s)  : ∀ (fu : Nat) (S : GS) (v1 : Int32) (R : GS) (H : Heap) (locs : List Loc) (ls : Array Slot) (_ : fX6_pickNearest_7 fu S v1 = some R) (_ : va_P (gD G) vwCl (WX G S ++ gF G) H) (_ : va_S (gA G) s.heap H locs) (_ : lv_has ls 5 [(0, .ref (ga G 127)), (1, .int v1)]) (_ : ∀ (H : Heap) (locs : List Loc) (ls : Array Slot), va_P (gD G) vwCl (WX G R ++ gF G) H → va_S (gA G) s.heap H locs → lv_has ls 5 [] → W p l e (gR 1 21) s m args below meth c H locs 0 0 Q (F0 m 92 ls [])), W p l e (gR 1 21) s m args below meth c H locs 0 0 Q (F0 m 7 ls []) := by
  obtain ⟨hx, hb, -, -, hown, hts, -⟩ := id X
  intro fu
  induction fu with
  | zero =>
    intro S v1 R H locs ls hf
    cases (show (none : Option GS) = some R from hf)
  | succ fu ih =>
    intro S v1 R H locs ls hf hP hS hl kk
    rw [fX6_pickNearest_7] at hf
    refine lv_iload_n hx hb dX6_pickNearest_7 rfl (lv_at hl 1 rfl) ?_
    refine lv_sipush (v := 288) hx hb dX6_pickNearest_8 (by decide) ?_
    refine lv_icmp_gt (tgt := 92) hx hb dX6_pickNearest_11 (by decide) (fun c1 => ?_) (fun c1 => ?_)
    · have hf := g_ift hf c1
      obtain rfl := g_some hf
      exact kk _ _ _ hP hS (lv_sub hl [] rfl)
    · have hf := g_iff hf c1
      refine lv_aload_n hx hb dX6_pickNearest_14 rfl (lv_at hl 0 rfl) ?_
      refine ggX_114 X E hP inX6_pickNearest_X6 lkX6_pickNearest_0 dX6_pickNearest_15 ?_
      refine lv_iconst (v := -1) hx hb dX6_pickNearest_18 (by decide) ?_
      refine lv_icmp_ne (tgt := 92) hx hb dX6_pickNearest_19 (by decide) (fun c2 => ?_) (fun c2 => ?_)
      · have hf := g_iff hf c2
        obtain rfl := g_some hf
        exact kk _ _ _ hP hS (lv_sub hl [] rfl)
      · have hf := g_ift hf c2
        refine lv_aload_n hx hb dX6_pickNearest_22 rfl (lv_at hl 0 rfl) ?_
        refine lv_iload_n hx hb dX6_pickNearest_23 rfl (lv_at hl 1 rfl) ?_
        obtain ⟨u3, h4, hf⟩ := g_bind hf
        refine g_vi (rest := []) X E hP hS (tcX6_bitsOf l G _ _ h4) (g_cwV X gX6_pickNearest_X6_bitsOf rfl hdX6_bitsOf ⟨Nat.le_of_ble_eq_true rfl, Nat.le_of_ble_eq_true rfl⟩) (rcX_sink E hP) rfl hl.1 rfl (Nat.le_of_ble_eq_true rfl) dX6_pickNearest_24 ⟨Nat.le_refl _, Nat.le_refl _⟩ (fun H locs hP hS => ?_)
        refine lv_istore_n (lv' := [(2, .int u3), (0, .ref (ga G 127)), (1, .int v1)]) hx hb dX6_pickNearest_27 rfl hl (by decide) rfl (fun ls hl => ?_)
        refine lv_aload_n hx hb dX6_pickNearest_28 rfl (lv_at hl 1 rfl) ?_
        refine lv_iload_n hx hb dX6_pickNearest_29 rfl (lv_at hl 2 rfl) ?_
        refine lv_ineg hx hb dX6_pickNearest_30 ?_
        obtain ⟨u5, h6, hf⟩ := g_bind hf
        refine g_vi (rest := []) X E hP hS (tcX6_bitsOf l G _ _ h6) (g_cwV X gX6_pickNearest_X6_bitsOf rfl hdX6_bitsOf ⟨Nat.le_of_ble_eq_true rfl, Nat.le_of_ble_eq_true rfl⟩) (rcX_sink E hP) rfl hl.1 rfl (Nat.le_of_ble_eq_true rfl) dX6_pickNearest_31 ⟨Nat.le_refl _, Nat.le_refl _⟩ (fun H locs hP hS => ?_)
        refine lv_istore_n (lv' := [(3, .int u5), (2, .int u3), (0, .ref (ga G 127)), (1, .int v1)]) hx hb dX6_pickNearest_34 rfl hl (by decide) rfl (fun ls hl => ?_)
        refine lv_iload_n hx hb dX6_pickNearest_35 rfl (lv_at hl 1 rfl) ?_
        refine lv_iconst (v := -1) hx hb dX6_pickNearest_36 (by decide) ?_
        refine lv_icmp_eq (tgt := 54) hx hb dX6_pickNearest_37 (by decide) (fun c7 => ?_) (fun c7 => ?_)
        · have hf := g_ift hf c7
          refine lv_iconst (v := 0) hx hb dX6_pickNearest_54 (by decide) ?_
          refine lv_istore (lv' := [(4, .int (0 : Int32)), (3, .int u5), (2, .int u3), (0, .ref (ga G 127)), (1, .int v1)]) hx hb dX6_pickNearest_55 hl (by decide) rfl (fun ls hl => ?_)
          refine lv_aload_n hx hb dX6_pickNearest_57 rfl (lv_at hl 3 rfl) ?_
          refine lv_iload hx hb dX6_pickNearest_58 (lv_at hl 0 rfl) ?_
          refine lv_if_eq (tgt := 67) hx hb dX6_pickNearest_60 (by decide) (fun _ => ?_) (fun z => absurd z (by decide))
          refine lv_iload_n hx hb dX6_pickNearest_67 rfl (lv_at hl 1 rfl) ?_
          refine gpX_114 X E hP hS inX6_pickNearest_X6 lkX6_pickNearest_0 dX6_pickNearest_68 (fun H locs hP hS => ?_)
          refine lv_aload_n hx hb dX6_pickNearest_71 rfl (lv_at hl 3 rfl) ?_
          refine lv_iload hx hb dX6_pickNearest_72 (lv_at hl 0 rfl) ?_
          refine lv_if_eq (tgt := 81) hx hb dX6_pickNearest_74 (by decide) (fun _ => ?_) (fun z => absurd z (by decide))
          refine lv_iload_n hx hb dX6_pickNearest_81 rfl (lv_at hl 4 rfl) ?_
          refine lv_ineg hx hb dX6_pickNearest_82 ?_
          refine gpX_115 X E hP hS inX6_pickNearest_X6 lkX6_pickNearest_1 dX6_pickNearest_83 (fun H locs hP hS => ?_)
          refine lv_iinc (v := (v1 + 1)) (lv' := [(1, .int (v1 + 1)), (4, .int (0 : Int32)), (3, .int u5), (2, .int u3), (0, .ref (ga G 127))]) hx hb dX6_pickNearest_86 hl (k := 4) rfl rfl (by decide) rfl (fun ls hl => ?_)
          refine lv_goto (tgt := 7) hx hb dX6_pickNearest_89 (by decide) ?_
          exact ih _ _ _ _ _ _ hf hP hS (lv_sub hl [4, 0] rfl) kk
        · have hf := g_iff hf c7
          refine lv_iload_n hx hb dX6_pickNearest_40 rfl (lv_at hl 0 rfl) ?_
          refine lv_iconst (v := -1) hx hb dX6_pickNearest_41 (by decide) ?_
          refine lv_icmp_eq (tgt := 50) hx hb dX6_pickNearest_42 (by decide) (fun c8 => ?_) (fun c8 => ?_)
          · have hf := g_ift hf c8
            refine lv_iconst (v := 1) hx hb dX6_pickNearest_50 (by decide) ?_
            refine lv_goto (tgt := 55) hx hb dX6_pickNearest_51 (by decide) ?_
            refine lv_istore (lv' := [(4, .int (1 : Int32)), (3, .int u5), (2, .int u3), (0, .ref (ga G 127)), (1, .int v1)]) hx hb dX6_pickNearest_55 hl (by decide) rfl (fun ls hl => ?_)
            refine lv_aload_n hx hb dX6_pickNearest_57 rfl (lv_at hl 3 rfl) ?_
            refine lv_iload hx hb dX6_pickNearest_58 (lv_at hl 0 rfl) ?_
            refine lv_if_eq (tgt := 67) hx hb dX6_pickNearest_60 (by decide) (fun z => absurd z (by decide)) (fun _ => ?_)
            refine lv_iload_n hx hb dX6_pickNearest_63 rfl (lv_at hl 2 rfl) ?_
            refine lv_goto (tgt := 68) hx hb dX6_pickNearest_64 (by decide) ?_
            refine gpX_114 X E hP hS inX6_pickNearest_X6 lkX6_pickNearest_0 dX6_pickNearest_68 (fun H locs hP hS => ?_)
            refine lv_aload_n hx hb dX6_pickNearest_71 rfl (lv_at hl 3 rfl) ?_
            refine lv_iload hx hb dX6_pickNearest_72 (lv_at hl 0 rfl) ?_
            refine lv_if_eq (tgt := 81) hx hb dX6_pickNearest_74 (by decide) (fun z => absurd z (by decide)) (fun _ => ?_)
            refine lv_iload_n hx hb dX6_pickNearest_77 rfl (lv_at hl 4 rfl) ?_
            refine lv_goto (tgt := 83) hx hb dX6_pickNearest_78 (by decide) ?_
            refine gpX_115 X E hP hS inX6_pickNearest_X6 lkX6_pickNearest_1 dX6_pickNearest_83 (fun H locs hP hS => ?_)
            refine lv_iinc (v := (v1 + 1)) (lv' := [(1, .int (v1 + 1)), (4, .int (1 : Int32)), (3, .int u5), (2, .int u3), (0, .ref (ga G 127))]) hx hb dX6_pickNearest_86 hl (k := 4) rfl rfl (by decide) rfl (fun ls hl => ?_)
            refine lv_goto (tgt := 7) hx hb dX6_pickNearest_89 (by decide) ?_
            exact ih _ _ _ _ _ _ hf hP hS (lv_sub hl [4, 0] rfl) kk
          · have hf := g_iff hf c8
            refine lv_iload_n hx hb dX6_pickNearest_45 rfl (lv_at hl 1 rfl) ?_
            refine lv_iload_n hx hb dX6_pickNearest_46 rfl (lv_at hl 0 rfl) ?_
            refine lv_icmp_gt (tgt := 54) hx hb dX6_pickNearest_47 (by decide) (fun c9 => ?_) (fun c9 => ?_)
            · have hf := g_ift hf c9
              refine lv_iconst (v := 0) hx hb dX6_pickNearest_54 (by decide) ?_
              refine lv_istore (lv' := [(4, .int (0 : Int32)), (3, .int u5), (2, .int u3), (0, .ref (ga G 127)), (1, .int v1)]) hx hb dX6_pickNearest_55 hl (by decide) rfl (fun ls hl => ?_)
              refine lv_aload_n hx hb dX6_pickNearest_57 rfl (lv_at hl 3 rfl) ?_
              refine lv_iload hx hb dX6_pickNearest_58 (lv_at hl 0 rfl) ?_
              refine lv_if_eq (tgt := 67) hx hb dX6_pickNearest_60 (by decide) (fun _ => ?_) (fun z => absurd z (by decide))
              refine lv_iload_n hx hb dX6_pickNearest_67 rfl (lv_at hl 1 rfl) ?_
              refine gpX_114 X E hP hS inX6_pickNearest_X6 lkX6_pickNearest_0 dX6_pickNearest_68 (fun H locs hP hS => ?_)
              refine lv_aload_n hx hb dX6_pickNearest_71 rfl (lv_at hl 3 rfl) ?_
              refine lv_iload hx hb dX6_pickNearest_72 (lv_at hl 0 rfl) ?_
              refine lv_if_eq (tgt := 81) hx hb dX6_pickNearest_74 (by decide) (fun _ => ?_) (fun z => absurd z (by decide))
              refine lv_iload_n hx hb dX6_pickNearest_81 rfl (lv_at hl 4 rfl) ?_
              refine lv_ineg hx hb dX6_pickNearest_82 ?_
              refine gpX_115 X E hP hS inX6_pickNearest_X6 lkX6_pickNearest_1 dX6_pickNearest_83 (fun H locs hP hS => ?_)
              refine lv_iinc (v := (v1 + 1)) (lv' := [(1, .int (v1 + 1)), (4, .int (0 : Int32)), (3, .int u5), (2, .int u3), (0, .ref (ga G 127))]) hx hb dX6_pickNearest_86 hl (k := 4) rfl rfl (by decide) rfl (fun ls hl => ?_)
              refine lv_goto (tgt := 7) hx hb dX6_pickNearest_89 (by decide) ?_
              exact ih _ _ _ _ _ _ hf hP hS (lv_sub hl [4, 0] rfl) kk
            · have hf := g_iff hf c9
              refine lv_iconst (v := 1) hx hb dX6_pickNearest_50 (by decide) ?_
              refine lv_goto (tgt := 55) hx hb dX6_pickNearest_51 (by decide) ?_
              refine lv_istore (lv' := [(4, .int (1 : Int32)), (3, .int u5), (2, .int u3), (0, .ref (ga G 127)), (1, .int v1)]) hx hb dX6_pickNearest_55 hl (by decide) rfl (fun ls hl => ?_)
              refine lv_aload_n hx hb dX6_pickNearest_57 rfl (lv_at hl 3 rfl) ?_
              refine lv_iload hx hb dX6_pickNearest_58 (lv_at hl 0 rfl) ?_
              refine lv_if_eq (tgt := 67) hx hb dX6_pickNearest_60 (by decide) (fun z => absurd z (by decide)) (fun _ => ?_)
              refine lv_iload_n hx hb dX6_pickNearest_63 rfl (lv_at hl 2 rfl) ?_
              refine lv_goto (tgt := 68) hx hb dX6_pickNearest_64 (by decide) ?_
              refine gpX_114 X E hP hS inX6_pickNearest_X6 lkX6_pickNearest_0 dX6_pickNearest_68 (fun H locs hP hS => ?_)
              refine lv_aload_n hx hb dX6_pickNearest_71 rfl (lv_at hl 3 rfl) ?_
              refine lv_iload hx hb dX6_pickNearest_72 (lv_at hl 0 rfl) ?_
              refine lv_if_eq (tgt := 81) hx hb dX6_pickNearest_74 (by decide) (fun z => absurd z (by decide)) (fun _ => ?_)
              refine lv_iload_n hx hb dX6_pickNearest_77 rfl (lv_at hl 4 rfl) ?_
              refine lv_goto (tgt := 83) hx hb dX6_pickNearest_78 (by decide) ?_
              refine gpX_115 X E hP hS inX6_pickNearest_X6 lkX6_pickNearest_1 dX6_pickNearest_83 (fun H locs hP hS => ?_)
              refine lv_iinc (v := (v1 + 1)) (lv' := [(1, .int (v1 + 1)), (4, .int (1 : Int32)), (3, .int u5), (2, .int u3), (0, .ref (ga G 127))]) hx hb dX6_pickNearest_86 hl (k := 4) rfl rfl (by decide) rfl (fun ls hl => ?_)
              refine lv_goto (tgt := 7) hx hb dX6_pickNearest_89 (by decide) ?_
              exact ih _ _ _ _ _ _ hf hP hS (lv_sub hl [4, 0] rfl) kk
def fX6_pickNearest (S : GS)  : Option GS :=
  (fX6_pickNearest_7 gFuel (gU1 S 114 (-1 : Int32)) (0 : Int32)).bind fun u10 =>
  some u10
set_option maxHeartbeats 4000000 in
set_option maxRecDepth 100000 in
theorem tcX6_pickNearest (l : Launch) (G : GP) (S : GS)  {R : GS} (hf : fX6_pickNearest S  = some R) : CV l yX6_pickNearest wsX6_pickNearest 1 21 [.ref (ga G 127)] WX G S R := by
  refine g_met RX6 (cc := cX6_pickNearest) (nL := 5) (ret := none) (by decide) rfl rfl (Nat.le_of_ble_eq_true rfl) ?_
  intro p e s m below meth c ls X E hP hS hl
  have hl : lv_has ls 5 [(0, .ref (ga G 127))] := hl
  obtain ⟨hx, hb, -, -, hown, hts, -⟩ := id X
  rw [fX6_pickNearest] at hf
  refine lv_aload_n hx hb dX6_pickNearest_0 rfl (lv_at hl 0 rfl) ?_
  refine lv_iconst (v := -1) hx hb dX6_pickNearest_1 (by decide) ?_
  refine gpX_114 X E hP hS inX6_pickNearest_X6 lkX6_pickNearest_0 dX6_pickNearest_2 (fun H locs hP hS => ?_)
  refine lv_iconst (v := 0) hx hb dX6_pickNearest_5 (by decide) ?_
  refine lv_istore_n (lv' := [(1, .int (0 : Int32)), (0, .ref (ga G 127))]) hx hb dX6_pickNearest_6 rfl hl (by decide) rfl (fun ls hl => ?_)
  obtain ⟨u10, h11, hf⟩ := g_bind hf
  refine bX6_pickNearest_7 X E gFuel _ _ u10 _ _ _ h11 hP hS (lv_sub hl [1, 0] rfl) (fun H locs ls hP hS hl => ?_)
  have hl : lv_has ls 5 [] := hl
  have hP : va_P (gD G) vwCl (WX G u10 ++ gF G) H := hP
  obtain rfl := g_some hf
  exact g_rv X E hP hS dX6_pickNearest_92
theorem lkX6_search_0 : Cond.fieldLink RX6 13 RX6 "bitsBySum" "[I" ∈ wsX6_search := by decide +kernel
theorem inX6_search_X6 : ∀ w ∈ wsX60, w ∈ wsX6_search := by decide +kernel
def fX6_search_now_2 : Nat → GS → Int32 → Option GS
  | 0, _, _ => none
  | fu + 1, S, v2 =>
    if (577 : Int32) ≤ v2 then
      some S
    else
      if v2 < 0 ∨ 577 ≤ (v2).toNatClampNeg then none else
      fX6_search_now_2 fu (gU3 S 112 (v2).toNatClampNeg (-1 : Int32)) (v2 + 1)
set_option maxHeartbeats 4000000 in
set_option maxRecDepth 100000 in
theorem bX6_search_now_2 {p : Program} {l : Launch} {e : Env} {s : State} {m : MethodId} {args : Array Value} {below : List Frame} {meth : Method} {c : Code} {Q : State → Prop} {G : GP} (X : GX p s m meth c args cX6_search 4 none wsX6_search RX6) (E : gE WX G s)  : ∀ (fu : Nat) (S : GS) (v2 : Int32) (R : GS) (H : Heap) (locs : List Loc) (ls : Array Slot) (_ : fX6_search_now_2 fu S v2 = some R) (_ : va_P (gD G) vwCl (WX G S ++ gF G) H) (_ : va_S (gA G) s.heap H locs) (_ : lv_has ls 4 [(0, .ref (ga G 127)), (1, .ref (ga G 15)), (2, .int v2)]) (_ : ∀ (H : Heap) (locs : List Loc) (ls : Array Slot), va_P (gD G) vwCl (WX G R ++ gF G) H → va_S (gA G) s.heap H locs → lv_has ls 4 [(0, .ref (ga G 127)), (1, .ref (ga G 15))] → W p l e (gR 2 89) s m args below meth c H locs 0 0 Q (F0 m 24 ls [])), W p l e (gR 2 89) s m args below meth c H locs 0 0 Q (F0 m 2 ls []) := by
  obtain ⟨hx, hb, -, -, hown, hts, -⟩ := id X
  intro fu
  induction fu with
  | zero =>
    intro S v2 R H locs ls hf
    cases (show (none : Option GS) = some R from hf)
  | succ fu ih =>
    intro S v2 R H locs ls hf hP hS hl kk
    rw [fX6_search_now_2] at hf
    refine lv_iload_n hx hb dX6_search_2 rfl (lv_at hl 2 rfl) ?_
    refine lv_aload_n hx hb dX6_search_3 rfl (lv_at hl 0 rfl) ?_
    refine ggX_112 X E hP inX6_search_X6 lkX6_search_0 dX6_search_4 ?_
    refine glX_112 X E hP dX6_search_7 ?_
    refine lv_icmp_ge (tgt := 24) hx hb dX6_search_8 (by decide) (fun c1 => ?_) (fun c1 => ?_)
    · have hf := g_ift hf c1
      obtain rfl := g_some hf
      exact kk _ _ _ hP hS (lv_sub hl [0, 1] rfl)
    · have hf := g_iff hf c1
      refine lv_aload_n hx hb dX6_search_11 rfl (lv_at hl 0 rfl) ?_
      refine ggX_112 X E hP inX6_search_X6 lkX6_search_0 dX6_search_12 ?_
      refine lv_iload_n hx hb dX6_search_15 rfl (lv_at hl 2 rfl) ?_
      refine lv_iconst (v := -1) hx hb dX6_search_16 (by decide) ?_
      obtain ⟨b2, hf⟩ := g_if hf
      refine gsX_112 X E hP hS b2 dX6_search_17 (fun H locs hP hS => ?_)
      refine lv_iinc (v := (v2 + 1)) (lv' := [(2, .int (v2 + 1)), (0, .ref (ga G 127)), (1, .ref (ga G 15))]) hx hb dX6_search_18 hl (k := 2) rfl rfl (by decide) rfl (fun ls hl => ?_)
      refine lv_goto (tgt := 2) hx hb dX6_search_21 (by decide) ?_
      exact ih _ _ _ _ _ _ hf hP hS (lv_sub hl [1, 2, 0] rfl) kk
def fX6_search_now_35 : Nat → GS → Int32 → Option GS
  | 0, _, _ => none
  | fu + 1, S, v2 =>
    (fX3_count_now S).bind fun u5 =>
    if u5 ≤ v2 then
      some S
    else
      (fX3_sunkBy_now S v2).bind fun u8 =>
      if u8 ≤ 0 then
        fX6_search_now_35 fu S (v2 + 1)
      else
        (fX6_addOne S u8 ((1 : Int32) <<< (v2 &&& 31))).bind fun u11 =>
        fX6_search_now_35 fu u11 (v2 + 1)
set_option maxHeartbeats 4000000 in
set_option maxRecDepth 100000 in
theorem bX6_search_now_35 {p : Program} {l : Launch} {e : Env} {s : State} {m : MethodId} {args : Array Value} {below : List Frame} {meth : Method} {c : Code} {Q : State → Prop} {G : GP} (X : GX p s m meth c args cX6_search 4 none wsX6_search RX6) (E : gE WX G s)  : ∀ (fu : Nat) (S : GS) (v2 : Int32) (R : GS) (H : Heap) (locs : List Loc) (ls : Array Slot) (_ : fX6_search_now_35 fu S v2 = some R) (_ : va_P (gD G) vwCl (WX G S ++ gF G) H) (_ : va_S (gA G) s.heap H locs) (_ : lv_has ls 4 [(0, .ref (ga G 127)), (1, .ref (ga G 15)), (2, .int v2)]) (_ : ∀ (H : Heap) (locs : List Loc) (ls : Array Slot), va_P (gD G) vwCl (WX G R ++ gF G) H → va_S (gA G) s.heap H locs → lv_has ls 4 [(0, .ref (ga G 127))] → W p l e (gR 2 89) s m args below meth c H locs 0 0 Q (F0 m 67 ls [])), W p l e (gR 2 89) s m args below meth c H locs 0 0 Q (F0 m 35 ls []) := by
  obtain ⟨hx, hb, -, -, hown, hts, -⟩ := id X
  intro fu
  induction fu with
  | zero =>
    intro S v2 R H locs ls hf
    cases (show (none : Option GS) = some R from hf)
  | succ fu ih =>
    intro S v2 R H locs ls hf hP hS hl kk
    rw [fX6_search_now_35] at hf
    refine lv_iload_n hx hb dX6_search_35 rfl (lv_at hl 2 rfl) ?_
    refine lv_aload_n hx hb dX6_search_36 rfl (lv_at hl 1 rfl) ?_
    obtain ⟨u5, h6, hf⟩ := g_bind hf
    refine g_vi (rest := [.int v2]) X E hP hS (tcX3_count_now l G _  h6) (g_cwV X gX6_search_X3_count rfl hdX3_count ⟨Nat.le_of_ble_eq_true rfl, Nat.le_of_ble_eq_true rfl⟩) (rcX_now E hP) rfl hl.1 rfl (Nat.le_of_ble_eq_true rfl) dX6_search_37 ⟨Nat.le_refl _, Nat.le_refl _⟩ (fun H locs hP hS => ?_)
    refine lv_icmp_ge (tgt := 67) hx hb dX6_search_40 (by decide) (fun c7 => ?_) (fun c7 => ?_)
    · have hf := g_ift hf c7
      obtain rfl := g_some hf
      exact kk _ _ _ hP hS (lv_sub hl [0] rfl)
    · have hf := g_iff hf c7
      refine lv_aload_n hx hb dX6_search_43 rfl (lv_at hl 1 rfl) ?_
      refine lv_iload_n hx hb dX6_search_44 rfl (lv_at hl 2 rfl) ?_
      obtain ⟨u8, h9, hf⟩ := g_bind hf
      refine g_vi (rest := []) X E hP hS (tcX3_sunkBy_now l G _ _ h9) (g_cwV X gX6_search_X3_sunkBy rfl hdX3_sunkBy ⟨Nat.le_of_ble_eq_true rfl, Nat.le_of_ble_eq_true rfl⟩) (rcX_now E hP) rfl hl.1 rfl (Nat.le_of_ble_eq_true rfl) dX6_search_45 ⟨Nat.le_refl _, Nat.le_refl _⟩ (fun H locs hP hS => ?_)
      refine lv_istore_n (lv' := [(3, .int u8), (0, .ref (ga G 127)), (1, .ref (ga G 15)), (2, .int v2)]) hx hb dX6_search_48 rfl hl (by decide) rfl (fun ls hl => ?_)
      refine lv_iload_n hx hb dX6_search_49 rfl (lv_at hl 0 rfl) ?_
      refine lv_if_le (tgt := 61) hx hb dX6_search_50 (by decide) (fun c10 => ?_) (fun c10 => ?_)
      · have hf := g_ift hf c10
        refine lv_iinc (v := (v2 + 1)) (lv' := [(2, .int (v2 + 1)), (3, .int u8), (0, .ref (ga G 127)), (1, .ref (ga G 15))]) hx hb dX6_search_61 hl (k := 3) rfl rfl (by decide) rfl (fun ls hl => ?_)
        refine lv_goto (tgt := 35) hx hb dX6_search_64 (by decide) ?_
        exact ih _ _ _ _ _ _ hf hP hS (lv_sub hl [2, 3, 0] rfl) kk
      · have hf := g_iff hf c10
        refine lv_aload_n hx hb dX6_search_53 rfl (lv_at hl 1 rfl) ?_
        refine lv_iload_n hx hb dX6_search_54 rfl (lv_at hl 0 rfl) ?_
        refine lv_iconst (v := 1) hx hb dX6_search_55 (by decide) ?_
        refine lv_iload_n hx hb dX6_search_56 rfl (lv_at hl 3 rfl) ?_
        refine lv_ishl hx hb dX6_search_57 ?_
        obtain ⟨u11, h12, hf⟩ := g_bind hf
        refine g_vv (rest := []) X E hP hS (tcX6_addOne l G _ _ _ h12) (g_cwV X gX6_search_X6_addOne rfl hdX6_addOne ⟨Nat.le_of_ble_eq_true rfl, Nat.le_of_ble_eq_true rfl⟩) (rcX_sink E hP) rfl hl.1 rfl (Nat.le_of_ble_eq_true rfl) dX6_search_58 ⟨Nat.le_refl _, Nat.le_refl _⟩ (fun H locs hP hS => ?_)
        refine lv_iinc (v := (v2 + 1)) (lv' := [(2, .int (v2 + 1)), (3, .int u8), (0, .ref (ga G 127)), (1, .ref (ga G 15))]) hx hb dX6_search_61 hl (k := 3) rfl rfl (by decide) rfl (fun ls hl => ?_)
        refine lv_goto (tgt := 35) hx hb dX6_search_64 (by decide) ?_
        exact ih _ _ _ _ _ _ hf hP hS (lv_sub hl [2, 3, 0] rfl) kk
def fX6_search_now (S : GS)  : Option GS :=
  (fX6_search_now_2 gFuel S (0 : Int32)).bind fun u3 =>
  (fX6_search_now_35 gFuel (gU3 u3 112 (288 : Int32).toNatClampNeg (0 : Int32)) (0 : Int32)).bind fun u13 =>
  (fX6_pickNearest u13).bind fun u15 =>
  some u15
set_option maxHeartbeats 4000000 in
set_option maxRecDepth 100000 in
theorem tcX6_search_now (l : Launch) (G : GP) (S : GS)  {R : GS} (hf : fX6_search_now S  = some R) : CV l yX6_search wsX6_search 2 89 [.ref (ga G 127), .ref (ga G 15)] WX G S R := by
  refine g_met RX6 (cc := cX6_search) (nL := 4) (ret := none) (by decide) rfl rfl (Nat.le_of_ble_eq_true rfl) ?_
  intro p e s m below meth c ls X E hP hS hl
  have hl : lv_has ls 4 [(0, .ref (ga G 127)), (1, .ref (ga G 15))] := hl
  obtain ⟨hx, hb, -, -, hown, hts, -⟩ := id X
  rw [fX6_search_now] at hf
  refine lv_iconst (v := 0) hx hb dX6_search_0 (by decide) ?_
  refine lv_istore_n (lv' := [(2, .int (0 : Int32)), (0, .ref (ga G 127)), (1, .ref (ga G 15))]) hx hb dX6_search_1 rfl hl (by decide) rfl (fun ls hl => ?_)
  obtain ⟨u3, h4, hf⟩ := g_bind hf
  refine bX6_search_now_2 X E gFuel _ _ u3 _ _ _ h4 hP hS (lv_sub hl [1, 2, 0] rfl) (fun H locs ls hP hS hl => ?_)
  have hl : lv_has ls 4 [(0, .ref (ga G 127)), (1, .ref (ga G 15))] := hl
  have hP : va_P (gD G) vwCl (WX G u3 ++ gF G) H := hP
  refine lv_aload_n hx hb dX6_search_24 rfl (lv_at hl 0 rfl) ?_
  refine ggX_112 X E hP inX6_search_X6 lkX6_search_0 dX6_search_25 ?_
  refine lv_sipush (v := 288) hx hb dX6_search_28 (by decide) ?_
  refine lv_iconst (v := 0) hx hb dX6_search_31 (by decide) ?_
  refine gsX_112 X E hP hS (by decide) dX6_search_32 (fun H locs hP hS => ?_)
  refine lv_iconst (v := 0) hx hb dX6_search_33 (by decide) ?_
  refine lv_istore_n (lv' := [(2, .int (0 : Int32)), (0, .ref (ga G 127)), (1, .ref (ga G 15))]) hx hb dX6_search_34 rfl hl (by decide) rfl (fun ls hl => ?_)
  obtain ⟨u13, h14, hf⟩ := g_bind hf
  refine bX6_search_now_35 X E gFuel _ _ u13 _ _ _ h14 hP hS (lv_sub hl [1, 2, 0] rfl) (fun H locs ls hP hS hl => ?_)
  have hl : lv_has ls 4 [(0, .ref (ga G 127))] := hl
  have hP : va_P (gD G) vwCl (WX G u13 ++ gF G) H := hP
  refine lv_aload_n hx hb dX6_search_67 rfl (lv_at hl 0 rfl) ?_
  obtain ⟨u15, h16, hf⟩ := g_bind hf
  refine g_vv (rest := []) X E hP hS (tcX6_pickNearest l G _  h16) (g_cwV X gX6_search_X6_pickNearest rfl hdX6_pickNearest ⟨Nat.le_of_ble_eq_true rfl, Nat.le_of_ble_eq_true rfl⟩) (rcX_sink E hP) rfl hl.1 rfl (Nat.le_of_ble_eq_true rfl) dX6_search_68 ⟨Nat.le_refl _, Nat.le_refl _⟩ (fun H locs hP hS => ?_)
  obtain rfl := g_some hf
  exact g_rv X E hP hS dX6_search_71
theorem lkX6_errorsTogether_0 : Cond.fieldLink RX6 24 RX6 "together" "I" ∈ wsX6_errorsTogether := by decide +kernel
theorem inX6_errorsTogether_X6 : ∀ w ∈ wsX60, w ∈ wsX6_errorsTogether := by decide +kernel
def fX6_errorsTogether (S : GS)  : Option Int32 :=
  some (S.1 115)
set_option maxHeartbeats 4000000 in
set_option maxRecDepth 100000 in
theorem tcX6_errorsTogether (l : Launch) (G : GP) (S : GS)  {R : Int32} (hf : fX6_errorsTogether S  = some R) : CI l yX6_errorsTogether wsX6_errorsTogether 0 0 [.ref (ga G 127)] WX G S R S := by
  refine g_met RX6 (cc := cX6_errorsTogether) (nL := 1) (ret := (some .int)) (by decide) rfl rfl (Nat.le_of_ble_eq_true rfl) ?_
  intro p e s m below meth c ls X E hP hS hl
  have hl : lv_has ls 1 [(0, .ref (ga G 127))] := hl
  obtain ⟨hx, hb, -, -, hown, hts, -⟩ := id X
  rw [fX6_errorsTogether] at hf
  refine lv_aload_n hx hb dX6_errorsTogether_0 rfl (lv_at hl 0 rfl) ?_
  refine ggX_115 X E hP inX6_errorsTogether_X6 lkX6_errorsTogether_0 dX6_errorsTogether_1 ?_
  obtain rfl := g_some hf
  exact g_ri X E hP hS dX6_errorsTogether_4
theorem lkX6_leastBits_0 : Cond.fieldLink RX6 20 RX6 "bits" "I" ∈ wsX6_leastBits := by decide +kernel
theorem inX6_leastBits_X6 : ∀ w ∈ wsX60, w ∈ wsX6_leastBits := by decide +kernel
def fX6_leastBits (S : GS)  : Option Int32 :=
  some (S.1 114)
set_option maxHeartbeats 4000000 in
set_option maxRecDepth 100000 in
theorem tcX6_leastBits (l : Launch) (G : GP) (S : GS)  {R : Int32} (hf : fX6_leastBits S  = some R) : CI l yX6_leastBits wsX6_leastBits 0 0 [.ref (ga G 127)] WX G S R S := by
  refine g_met RX6 (cc := cX6_leastBits) (nL := 1) (ret := (some .int)) (by decide) rfl rfl (Nat.le_of_ble_eq_true rfl) ?_
  intro p e s m below meth c ls X E hP hS hl
  have hl : lv_has ls 1 [(0, .ref (ga G 127))] := hl
  obtain ⟨hx, hb, -, -, hown, hts, -⟩ := id X
  rw [fX6_leastBits] at hf
  refine lv_aload_n hx hb dX6_leastBits_0 rfl (lv_at hl 0 rfl) ?_
  refine ggX_114 X E hP inX6_leastBits_X6 lkX6_leastBits_0 dX6_leastBits_1 ?_
  obtain rfl := g_some hf
  exact g_ri X E hP hS dX6_leastBits_4
theorem lkX8_order_0 : Cond.fieldLink RX8 43 RX8 "sinkOrder" "LBackToTheFirstStone$SinkOrder;" ∈ wsX8_order := by decide +kernel
theorem lkX8_order_1 : Cond.fieldLink RX8 19 RX8 "now" "LBackToTheFirstStone$Loop;" ∈ wsX8_order := by decide +kernel
theorem lkX8_order_2 : Cond.constant RX8 125 (-1000000 : Int32) ∈ wsX8_order := by decide +kernel
theorem inX8_order_X8 : ∀ w ∈ wsX80, w ∈ wsX8_order := by decide +kernel
def fX8_order_L19 (S : GS) (v1 : Int32) : Option (Int32 × GS) :=
  (fX6_search_now S).bind fun u2 =>
  if v1 = 0 then
    (fX6_leastBits u2).bind fun u7 =>
    some (u7, u2)
  else
    (fX6_errorsTogether u2).bind fun u5 =>
    some (u5, u2)
set_option maxHeartbeats 4000000 in
set_option maxRecDepth 100000 in
theorem bX8_order_L19 {p : Program} {l : Launch} {e : Env} {s : State} {m : MethodId} {args : Array Value} {below : List Frame} {meth : Method} {c : Code} {G : GP} (X : GX p s m meth c args cX8_order 2 (some .int) wsX8_order RX8) (E : gE WX G s) (S : GS) (v1 : Int32) (R : (Int32 × GS)) (H : Heap) (locs : List Loc) (ls : Array Slot) (hf : fX8_order_L19 S v1 = some R) (hP : va_P (gD G) vwCl (WX G S ++ gF G) H) (hS : va_S (gA G) s.heap H locs) (hl : lv_has ls 2 [(0, .ref (ga G 63)), (1, .int v1)]) : W p l e (gR 3 112) s m args below meth c H locs 0 0 (MQ below (gQi WX G R.1 R.2) args s 0 0 (gA G)) (F0 m 19 ls []) := by
  obtain ⟨hx, hb, -, -, hown, hts, -⟩ := id X
  rw [fX8_order_L19] at hf
  refine lv_aload_n hx hb dX8_order_19 rfl (lv_at hl 0 rfl) ?_
  refine ggX_53 X E hP inX8_order_X8 lkX8_order_0 dX8_order_20 ?_
  refine lv_aload_n hx hb dX8_order_23 rfl (lv_at hl 0 rfl) ?_
  refine ggX_49 X E hP inX8_order_X8 lkX8_order_1 dX8_order_24 ?_
  obtain ⟨u2, h3, hf⟩ := g_bind hf
  refine g_vv (rest := []) X E hP hS (tcX6_search_now l G _  h3) (g_cwV X gX8_order_X6_search rfl hdX6_search ⟨Nat.le_of_ble_eq_true rfl, Nat.le_of_ble_eq_true rfl⟩) (rcX_sink E hP) rfl hl.1 rfl (Nat.le_of_ble_eq_true rfl) dX8_order_27 ⟨Nat.le_refl _, Nat.le_refl _⟩ (fun H locs hP hS => ?_)
  refine lv_iload_n hx hb dX8_order_30 rfl (lv_at hl 1 rfl) ?_
  refine lv_if_ne (tgt := 44) hx hb dX8_order_31 (by decide) (fun c4 => ?_) (fun c4 => ?_)
  · have hf := g_iff hf c4
    refine lv_aload_n hx hb dX8_order_44 rfl (lv_at hl 0 rfl) ?_
    refine ggX_53 X E hP inX8_order_X8 lkX8_order_0 dX8_order_45 ?_
    obtain ⟨u5, h6, hf⟩ := g_bind hf
    refine g_vi (rest := []) X E hP hS (tcX6_errorsTogether l G _  h6) (g_cwV X gX8_order_X6_errorsTogether rfl hdX6_errorsTogether ⟨Nat.le_of_ble_eq_true rfl, Nat.le_of_ble_eq_true rfl⟩) (rcX_sink E hP) rfl hl.1 rfl (Nat.le_of_ble_eq_true rfl) dX8_order_48 ⟨Nat.le_refl _, Nat.le_refl _⟩ (fun H locs hP hS => ?_)
    obtain rfl := g_some hf
    exact g_ri X E hP hS dX8_order_51
  · have hf := g_ift hf c4
    refine lv_aload_n hx hb dX8_order_34 rfl (lv_at hl 0 rfl) ?_
    refine ggX_53 X E hP inX8_order_X8 lkX8_order_0 dX8_order_35 ?_
    obtain ⟨u7, h8, hf⟩ := g_bind hf
    refine g_vi (rest := []) X E hP hS (tcX6_leastBits l G _  h8) (g_cwV X gX8_order_X6_leastBits rfl hdX6_leastBits ⟨Nat.le_of_ble_eq_true rfl, Nat.le_of_ble_eq_true rfl⟩) (rcX_sink E hP) rfl hl.1 rfl (Nat.le_of_ble_eq_true rfl) dX8_order_38 ⟨Nat.le_refl _, Nat.le_refl _⟩ (fun H locs hP hS => ?_)
    refine lv_goto (tgt := 51) hx hb dX8_order_41 (by decide) ?_
    obtain rfl := g_some hf
    exact g_ri X E hP hS dX8_order_51
def fX8_order (S : GS) (a1 : Int32) : Option (Int32 × GS) :=
  if a1 = 0 then
    fX8_order_L19 S a1
  else
    if a1 = (1 : Int32) then
      fX8_order_L19 S a1
    else
      (fX8_refuse S (-5 : Int32)).bind fun u10 =>
      some (((-1000000 : Int32) + u10.1), u10.2)
set_option maxHeartbeats 4000000 in
set_option maxRecDepth 100000 in
theorem tcX8_order (l : Launch) (G : GP) (S : GS) (a1 : Int32) {R : (Int32 × GS)} (hf : fX8_order S a1 = some R) : CI l yX8_order wsX8_order 3 112 [.ref (ga G 63), .int a1] WX G S R.1 R.2 := by
  refine g_met RX8 (cc := cX8_order) (nL := 2) (ret := (some .int)) (by decide) rfl rfl (Nat.le_of_ble_eq_true rfl) ?_
  intro p e s m below meth c ls X E hP hS hl
  have hl : lv_has ls 2 [(0, .ref (ga G 63)), (1, .int a1)] := hl
  obtain ⟨hx, hb, -, -, hown, hts, -⟩ := id X
  rw [fX8_order] at hf
  refine lv_iload_n hx hb dX8_order_0 rfl (lv_at hl 1 rfl) ?_
  refine lv_if_eq (tgt := 19) hx hb dX8_order_1 (by decide) (fun c1 => ?_) (fun c1 => ?_)
  · have hf := g_ift hf c1
    exact bX8_order_L19 X E _ _ _ _ _ _ hf hP hS (lv_sub hl [0, 1] rfl)
  · have hf := g_iff hf c1
    refine lv_iload_n hx hb dX8_order_4 rfl (lv_at hl 1 rfl) ?_
    refine lv_iconst (v := 1) hx hb dX8_order_5 (by decide) ?_
    refine lv_icmp_eq (tgt := 19) hx hb dX8_order_6 (by decide) (fun c9 => ?_) (fun c9 => ?_)
    · have hf := g_ift hf c9
      exact bX8_order_L19 X E _ _ _ _ _ _ hf hP hS (lv_sub hl [0, 1] rfl)
    · have hf := g_iff hf c9
      refine lv_ldc hx hb hown (hts _ lkX8_order_2) dX8_order_9 ?_
      refine lv_aload_n hx hb dX8_order_11 rfl (lv_at hl 0 rfl) ?_
      refine lv_bipush (v := -5) hx hb dX8_order_12 (by decide) ?_
      obtain ⟨u10, h11, hf⟩ := g_bind hf
      refine g_vi (rest := [.int (-1000000 : Int32)]) X E hP hS (tcX8_refuse l G _ _ h11) (g_cwV X gX8_order_X8_refuse rfl hdX8_refuse ⟨Nat.le_of_ble_eq_true rfl, Nat.le_of_ble_eq_true rfl⟩) (rcX_main E hP) rfl hl.1 rfl (Nat.le_of_ble_eq_true rfl) dX8_order_14 ⟨Nat.le_refl _, Nat.le_refl _⟩ (fun H locs hP hS => ?_)
      refine lv_iadd hx hb dX8_order_17 ?_
      obtain rfl := g_some hf
      exact g_ri X E hP hS dX8_order_18
theorem lkX8_meet_0 : Cond.constant RX8 125 (-1000000 : Int32) ∈ wsX8_meet := by decide +kernel
theorem lkX8_meet_1 : Cond.fieldLink RX8 19 RX8 "now" "LBackToTheFirstStone$Loop;" ∈ wsX8_meet := by decide +kernel
theorem inX8_meet_X8 : ∀ w ∈ wsX80, w ∈ wsX8_meet := by decide +kernel
def fX8_meet_L29 (S : GS) (v1 : Int32) (v2 : Int32) (v3 : Int32) : Option (Int32 × GS) :=
  (fX8_refuse S (-5 : Int32)).bind fun u2 =>
  some (((-1000000 : Int32) + u2.1), u2.2)
set_option maxHeartbeats 4000000 in
set_option maxRecDepth 100000 in
theorem bX8_meet_L29 {p : Program} {l : Launch} {e : Env} {s : State} {m : MethodId} {args : Array Value} {below : List Frame} {meth : Method} {c : Code} {G : GP} (X : GX p s m meth c args cX8_meet 6 (some .int) wsX8_meet RX8) (E : gE WX G s) (S : GS) (v1 : Int32) (v2 : Int32) (v3 : Int32) (R : (Int32 × GS)) (H : Heap) (locs : List Loc) (ls : Array Slot) (hf : fX8_meet_L29 S v1 v2 v3 = some R) (hP : va_P (gD G) vwCl (WX G S ++ gF G) H) (hS : va_S (gA G) s.heap H locs) (hl : lv_has ls 6 [(0, .ref (ga G 63)), (1, .int v1), (2, .int v2), (3, .int v3)]) : W p l e (gR 6 132) s m args below meth c H locs 0 0 (MQ below (gQi WX G R.1 R.2) args s 0 0 (gA G)) (F0 m 29 ls []) := by
  obtain ⟨hx, hb, -, -, hown, hts, -⟩ := id X
  rw [fX8_meet_L29] at hf
  refine lv_iconst (v := 0) hx hb dX8_meet_29 (by decide) ?_
  refine lv_istore (lv' := [(4, .int (0 : Int32)), (0, .ref (ga G 63)), (1, .int v1), (2, .int v2), (3, .int v3)]) hx hb dX8_meet_30 hl (by decide) rfl (fun ls hl => ?_)
  refine lv_iload hx hb dX8_meet_32 (lv_at hl 0 rfl) ?_
  refine lv_if_ne (tgt := 47) hx hb dX8_meet_34 (by decide) (fun z => absurd z (by decide)) (fun _ => ?_)
  refine lv_ldc hx hb hown (hts _ lkX8_meet_0) dX8_meet_37 ?_
  refine lv_aload_n hx hb dX8_meet_39 rfl (lv_at hl 1 rfl) ?_
  refine lv_bipush (v := -5) hx hb dX8_meet_40 (by decide) ?_
  obtain ⟨u2, h3, hf⟩ := g_bind hf
  refine g_vi (rest := [.int (-1000000 : Int32)]) X E hP hS (tcX8_refuse l G _ _ h3) (g_cwV X gX8_meet_X8_refuse rfl hdX8_refuse ⟨Nat.le_of_ble_eq_true rfl, Nat.le_of_ble_eq_true rfl⟩) (rcX_main E hP) rfl hl.1 rfl (Nat.le_of_ble_eq_true rfl) dX8_meet_42 ⟨Nat.le_refl _, Nat.le_refl _⟩ (fun H locs hP hS => ?_)
  refine lv_iadd hx hb dX8_meet_45 ?_
  obtain rfl := g_some hf
  exact g_ri X E hP hS dX8_meet_46
def fX8_meet_L61 (S : GS)  : Option (Int32 × GS) :=
  (fX8_refuse S (-6 : Int32)).bind fun u9 =>
  some (((-1000000 : Int32) + u9.1), u9.2)
set_option maxHeartbeats 4000000 in
set_option maxRecDepth 100000 in
theorem bX8_meet_L61 {p : Program} {l : Launch} {e : Env} {s : State} {m : MethodId} {args : Array Value} {below : List Frame} {meth : Method} {c : Code} {G : GP} (X : GX p s m meth c args cX8_meet 6 (some .int) wsX8_meet RX8) (E : gE WX G s) (S : GS)  (R : (Int32 × GS)) (H : Heap) (locs : List Loc) (ls : Array Slot) (hf : fX8_meet_L61 S  = some R) (hP : va_P (gD G) vwCl (WX G S ++ gF G) H) (hS : va_S (gA G) s.heap H locs) (hl : lv_has ls 6 [(0, .ref (ga G 63))]) : W p l e (gR 6 132) s m args below meth c H locs 0 0 (MQ below (gQi WX G R.1 R.2) args s 0 0 (gA G)) (F0 m 61 ls []) := by
  obtain ⟨hx, hb, -, -, hown, hts, -⟩ := id X
  rw [fX8_meet_L61] at hf
  refine lv_ldc hx hb hown (hts _ lkX8_meet_0) dX8_meet_61 ?_
  refine lv_aload_n hx hb dX8_meet_63 rfl (lv_at hl 0 rfl) ?_
  refine lv_bipush (v := -6) hx hb dX8_meet_64 (by decide) ?_
  obtain ⟨u9, h10, hf⟩ := g_bind hf
  refine g_vi (rest := [.int (-1000000 : Int32)]) X E hP hS (tcX8_refuse l G _ _ h10) (g_cwV X gX8_meet_X8_refuse rfl hdX8_refuse ⟨Nat.le_of_ble_eq_true rfl, Nat.le_of_ble_eq_true rfl⟩) (rcX_main E hP) rfl hl.1 rfl (Nat.le_of_ble_eq_true rfl) dX8_meet_66 ⟨Nat.le_refl _, Nat.le_refl _⟩ (fun H locs hP hS => ?_)
  refine lv_iadd hx hb dX8_meet_69 ?_
  obtain rfl := g_some hf
  exact g_ri X E hP hS dX8_meet_70
def fX8_meet_L25 (S : GS) (v1 : Int32) (v2 : Int32) (v3 : Int32) : Option (Int32 × GS) :=
  if v2 < (-30000 : Int32) then
    fX8_meet_L61 S
  else
    if v2 ≤ (30000 : Int32) then
      (fX3_heightAt_now S v1).bind fun u12 =>
      if v3 = 0 then
        some ((v2 - u12), S)
      else
        (fX3_weightAheadOf_now S v1 (1 : Int32)).bind fun u15 =>
        (fX3_count_now S).bind fun u17 =>
        (fX3_weightAheadOf_now S u17 (1 : Int32)).bind fun u19 =>
        (fX8_shareOf S (v2 - u12) u15 u19).bind fun u21 =>
        some (u21, S)
    else
      fX8_meet_L61 S
set_option maxHeartbeats 4000000 in
set_option maxRecDepth 100000 in
theorem bX8_meet_L25 {p : Program} {l : Launch} {e : Env} {s : State} {m : MethodId} {args : Array Value} {below : List Frame} {meth : Method} {c : Code} {G : GP} (X : GX p s m meth c args cX8_meet 6 (some .int) wsX8_meet RX8) (E : gE WX G s) (S : GS) (v1 : Int32) (v2 : Int32) (v3 : Int32) (R : (Int32 × GS)) (H : Heap) (locs : List Loc) (ls : Array Slot) (hf : fX8_meet_L25 S v1 v2 v3 = some R) (hP : va_P (gD G) vwCl (WX G S ++ gF G) H) (hS : va_S (gA G) s.heap H locs) (hl : lv_has ls 6 [(0, .ref (ga G 63)), (1, .int v1), (2, .int v2), (3, .int v3)]) : W p l e (gR 6 132) s m args below meth c H locs 0 0 (MQ below (gQi WX G R.1 R.2) args s 0 0 (gA G)) (F0 m 25 ls []) := by
  obtain ⟨hx, hb, -, -, hown, hts, -⟩ := id X
  rw [fX8_meet_L25] at hf
  refine lv_iconst (v := 1) hx hb dX8_meet_25 (by decide) ?_
  refine lv_goto (tgt := 30) hx hb dX8_meet_26 (by decide) ?_
  refine lv_istore (lv' := [(4, .int (1 : Int32)), (0, .ref (ga G 63)), (1, .int v1), (2, .int v2), (3, .int v3)]) hx hb dX8_meet_30 hl (by decide) rfl (fun ls hl => ?_)
  refine lv_iload hx hb dX8_meet_32 (lv_at hl 0 rfl) ?_
  refine lv_if_ne (tgt := 47) hx hb dX8_meet_34 (by decide) (fun _ => ?_) (fun z => absurd z (by decide))
  refine lv_iload_n hx hb dX8_meet_47 rfl (lv_at hl 3 rfl) ?_
  refine lv_sipush (v := -30000) hx hb dX8_meet_48 (by decide) ?_
  refine lv_icmp_lt (tgt := 61) hx hb dX8_meet_51 (by decide) (fun c8 => ?_) (fun c8 => ?_)
  · have hf := g_ift hf c8
    exact bX8_meet_L61 X E _ _ _ _ _ hf hP hS (lv_sub hl [1] rfl)
  · have hf := g_iff hf c8
    refine lv_iload_n hx hb dX8_meet_54 rfl (lv_at hl 3 rfl) ?_
    refine lv_sipush (v := 30000) hx hb dX8_meet_55 (by decide) ?_
    refine lv_icmp_le (tgt := 71) hx hb dX8_meet_58 (by decide) (fun c11 => ?_) (fun c11 => ?_)
    · have hf := g_ift hf c11
      refine lv_iload_n hx hb dX8_meet_71 rfl (lv_at hl 3 rfl) ?_
      refine lv_aload_n hx hb dX8_meet_72 rfl (lv_at hl 1 rfl) ?_
      refine ggX_49 X E hP inX8_meet_X8 lkX8_meet_1 dX8_meet_73 ?_
      refine lv_iload_n hx hb dX8_meet_76 rfl (lv_at hl 2 rfl) ?_
      obtain ⟨u12, h13, hf⟩ := g_bind hf
      refine g_vi (rest := [.int v2]) X E hP hS (tcX3_heightAt_now l G _ _ h13) (g_cwV X gX8_meet_X3_heightAt rfl hdX3_heightAt ⟨Nat.le_of_ble_eq_true rfl, Nat.le_of_ble_eq_true rfl⟩) (rcX_now E hP) rfl hl.1 rfl (Nat.le_of_ble_eq_true rfl) dX8_meet_77 ⟨Nat.le_refl _, Nat.le_refl _⟩ (fun H locs hP hS => ?_)
      refine lv_isub hx hb dX8_meet_80 ?_
      refine lv_istore (lv' := [(5, .int (v2 - u12)), (4, .int (1 : Int32)), (0, .ref (ga G 63)), (1, .int v1), (2, .int v2), (3, .int v3)]) hx hb dX8_meet_81 hl (by decide) rfl (fun ls hl => ?_)
      refine lv_iload_n hx hb dX8_meet_83 rfl (lv_at hl 5 rfl) ?_
      refine lv_if_ne (tgt := 90) hx hb dX8_meet_84 (by decide) (fun c14 => ?_) (fun c14 => ?_)
      · have hf := g_iff hf c14
        refine lv_iload hx hb dX8_meet_90 (lv_at hl 0 rfl) ?_
        refine lv_aload_n hx hb dX8_meet_92 rfl (lv_at hl 2 rfl) ?_
        refine ggX_49 X E hP inX8_meet_X8 lkX8_meet_1 dX8_meet_93 ?_
        refine lv_iload_n hx hb dX8_meet_96 rfl (lv_at hl 3 rfl) ?_
        refine lv_iconst (v := 1) hx hb dX8_meet_97 (by decide) ?_
        obtain ⟨u15, h16, hf⟩ := g_bind hf
        refine g_vl (rest := [.int (v2 - u12)]) X E hP hS (tcX3_weightAheadOf_now l G _ _ _ h16) (g_cwV X gX8_meet_X3_weightAheadOf rfl hdX3_weightAheadOf ⟨Nat.le_of_ble_eq_true rfl, Nat.le_of_ble_eq_true rfl⟩) (rcX_now E hP) rfl hl.1 rfl (Nat.le_of_ble_eq_true rfl) dX8_meet_98 ⟨Nat.le_refl _, Nat.le_refl _⟩ (fun H locs hP hS => ?_)
        refine lv_aload_n hx hb dX8_meet_101 rfl (lv_at hl 2 rfl) ?_
        refine ggX_49 X E hP inX8_meet_X8 lkX8_meet_1 dX8_meet_102 ?_
        refine lv_aload_n hx hb dX8_meet_105 rfl (lv_at hl 2 rfl) ?_
        refine ggX_49 X E hP inX8_meet_X8 lkX8_meet_1 dX8_meet_106 ?_
        obtain ⟨u17, h18, hf⟩ := g_bind hf
        refine g_vi (rest := [.ref (ga G 15), .long u15, .int (v2 - u12)]) X E hP hS (tcX3_count_now l G _  h18) (g_cwV X gX8_meet_X3_count rfl hdX3_count ⟨Nat.le_of_ble_eq_true rfl, Nat.le_of_ble_eq_true rfl⟩) (rcX_now E hP) rfl hl.1 rfl (Nat.le_of_ble_eq_true rfl) dX8_meet_109 ⟨Nat.le_refl _, Nat.le_refl _⟩ (fun H locs hP hS => ?_)
        refine lv_iconst (v := 1) hx hb dX8_meet_112 (by decide) ?_
        obtain ⟨u19, h20, hf⟩ := g_bind hf
        refine g_vl (rest := [.long u15, .int (v2 - u12)]) X E hP hS (tcX3_weightAheadOf_now l G _ _ _ h20) (g_cwV X gX8_meet_X3_weightAheadOf rfl hdX3_weightAheadOf ⟨Nat.le_of_ble_eq_true rfl, Nat.le_of_ble_eq_true rfl⟩) (rcX_now E hP) rfl hl.1 rfl (Nat.le_of_ble_eq_true rfl) dX8_meet_113 ⟨Nat.le_refl _, Nat.le_refl _⟩ (fun H locs hP hS => ?_)
        obtain ⟨u21, h22, hf⟩ := g_bind hf
        refine g_si (rest := []) X E hP hS (tcX8_shareOf l G _ _ _ _ h22) (g_cwS X gX8_meet_X8_shareOf rfl hdX8_shareOf ⟨Nat.le_of_ble_eq_true rfl, Nat.le_of_ble_eq_true rfl⟩) rfl hl.1 rfl (Nat.le_of_ble_eq_true rfl) dX8_meet_116 ⟨Nat.le_refl _, Nat.le_refl _⟩ (fun H locs hP hS => ?_)
        obtain rfl := g_some hf
        exact g_ri X E hP hS dX8_meet_119
      · have hf := g_ift hf c14
        refine lv_iload hx hb dX8_meet_87 (lv_at hl 0 rfl) ?_
        obtain rfl := g_some hf
        exact g_ri X E hP hS dX8_meet_89
    · have hf := g_iff hf c11
      exact bX8_meet_L61 X E _ _ _ _ _ hf hP hS (lv_sub hl [1] rfl)
def fX8_meet (S : GS) (a1 : Int32) (a2 : Int32) (a3 : Int32) : Option (Int32 × GS) :=
  if a1 < (1 : Int32) then
    fX8_meet_L29 S a1 a2 a3
  else
    (fX3_count_now S).bind fun u4 =>
    if u4 ≤ a1 then
      fX8_meet_L29 S a1 a2 a3
    else
      if a3 = 0 then
        fX8_meet_L25 S a1 a2 a3
      else
        if a3 = (1 : Int32) then
          fX8_meet_L25 S a1 a2 a3
        else
          fX8_meet_L29 S a1 a2 a3
set_option maxHeartbeats 4000000 in
set_option maxRecDepth 100000 in
theorem tcX8_meet (l : Launch) (G : GP) (S : GS) (a1 : Int32) (a2 : Int32) (a3 : Int32) {R : (Int32 × GS)} (hf : fX8_meet S a1 a2 a3 = some R) : CI l yX8_meet wsX8_meet 6 132 [.ref (ga G 63), .int a1, .int a2, .int a3] WX G S R.1 R.2 := by
  refine g_met RX8 (cc := cX8_meet) (nL := 6) (ret := (some .int)) (by decide) rfl rfl (Nat.le_of_ble_eq_true rfl) ?_
  intro p e s m below meth c ls X E hP hS hl
  have hl : lv_has ls 6 [(0, .ref (ga G 63)), (1, .int a1), (2, .int a2), (3, .int a3)] := hl
  obtain ⟨hx, hb, -, -, hown, hts, -⟩ := id X
  rw [fX8_meet] at hf
  refine lv_iload_n hx hb dX8_meet_0 rfl (lv_at hl 1 rfl) ?_
  refine lv_iconst (v := 1) hx hb dX8_meet_1 (by decide) ?_
  refine lv_icmp_lt (tgt := 29) hx hb dX8_meet_2 (by decide) (fun c1 => ?_) (fun c1 => ?_)
  · have hf := g_ift hf c1
    exact bX8_meet_L29 X E _ _ _ _ _ _ _ _ hf hP hS (lv_sub hl [0, 1, 2, 3] rfl)
  · have hf := g_iff hf c1
    refine lv_iload_n hx hb dX8_meet_5 rfl (lv_at hl 1 rfl) ?_
    refine lv_aload_n hx hb dX8_meet_6 rfl (lv_at hl 0 rfl) ?_
    refine ggX_49 X E hP inX8_meet_X8 lkX8_meet_1 dX8_meet_7 ?_
    obtain ⟨u4, h5, hf⟩ := g_bind hf
    refine g_vi (rest := [.int a1]) X E hP hS (tcX3_count_now l G _  h5) (g_cwV X gX8_meet_X3_count rfl hdX3_count ⟨Nat.le_of_ble_eq_true rfl, Nat.le_of_ble_eq_true rfl⟩) (rcX_now E hP) rfl hl.1 rfl (Nat.le_of_ble_eq_true rfl) dX8_meet_10 ⟨Nat.le_refl _, Nat.le_refl _⟩ (fun H locs hP hS => ?_)
    refine lv_icmp_ge (tgt := 29) hx hb dX8_meet_13 (by decide) (fun c6 => ?_) (fun c6 => ?_)
    · have hf := g_ift hf c6
      exact bX8_meet_L29 X E _ _ _ _ _ _ _ _ hf hP hS (lv_sub hl [0, 1, 2, 3] rfl)
    · have hf := g_iff hf c6
      refine lv_iload_n hx hb dX8_meet_16 rfl (lv_at hl 3 rfl) ?_
      refine lv_if_eq (tgt := 25) hx hb dX8_meet_17 (by decide) (fun c7 => ?_) (fun c7 => ?_)
      · have hf := g_ift hf c7
        exact bX8_meet_L25 X E _ _ _ _ _ _ _ _ hf hP hS (lv_sub hl [0, 1, 2, 3] rfl)
      · have hf := g_iff hf c7
        refine lv_iload_n hx hb dX8_meet_20 rfl (lv_at hl 3 rfl) ?_
        refine lv_iconst (v := 1) hx hb dX8_meet_21 (by decide) ?_
        refine lv_icmp_ne (tgt := 29) hx hb dX8_meet_22 (by decide) (fun c23 => ?_) (fun c23 => ?_)
        · have hf := g_iff hf c23
          exact bX8_meet_L29 X E _ _ _ _ _ _ _ _ hf hP hS (lv_sub hl [0, 1, 2, 3] rfl)
        · have hf := g_ift hf c23
          exact bX8_meet_L25 X E _ _ _ _ _ _ _ _ hf hP hS (lv_sub hl [0, 1, 2, 3] rfl)
def fX5_differAlike_37 : Nat → GS → Int32 → Int32 → Int32 → Int32 → Int64 → Int32 → Option Int32
  | 0, _, _, _, _, _, _, _ => none
  | fu + 1, S, v1, v2, v3, v4, v6, v8 =>
    if v3 ≤ v8 then
      some (1 : Int32)
    else
      if v8 = v4 then
        fX5_differAlike_37 fu S v1 v2 v3 v4 v6 (v8 + 1)
      else
        (fX5_numberAt S v2 v8).bind fun u8 =>
        (fX5_numberAt S v1 v8).bind fun u10 =>
        if (lg_cmp ((u8).toInt64 - (u10).toInt64) v6) = 0 then
          fX5_differAlike_37 fu S v1 v2 v3 v4 v6 (v8 + 1)
        else
          some (0 : Int32)
set_option maxHeartbeats 4000000 in
set_option maxRecDepth 100000 in
theorem bX5_differAlike_37 {p : Program} {l : Launch} {e : Env} {s : State} {m : MethodId} {args : Array Value} {below : List Frame} {meth : Method} {c : Code} {G : GP} (X : GX p s m meth c args cX5_differAlike 9 (some .boolean) wsX5_differAlike RX5) (E : gE WX G s)  : ∀ (fu : Nat) (S : GS) (v1 : Int32) (v2 : Int32) (v3 : Int32) (v4 : Int32) (v6 : Int64) (v8 : Int32) (R : Int32) (H : Heap) (locs : List Loc) (ls : Array Slot) (_ : fX5_differAlike_37 fu S v1 v2 v3 v4 v6 v8 = some R) (_ : va_P (gD G) vwCl (WX G S ++ gF G) H) (_ : va_S (gA G) s.heap H locs) (_ : lv_has ls 9 [(0, .ref (ga G 79)), (1, .int v1), (2, .int v2), (3, .int v3), (4, .int v4), (6, .long v6), (8, .int v8)]), W p l e (gR 5 108) s m args below meth c H locs 0 0 (MQ below (gQi WX G R S) args s 0 0 (gA G)) (F0 m 37 ls []) := by
  obtain ⟨hx, hb, -, -, hown, hts, -⟩ := id X
  intro fu
  induction fu with
  | zero =>
    intro S v1 v2 v3 v4 v6 v8 R H locs ls hf
    cases (show (none : Option Int32) = some R from hf)
  | succ fu ih =>
    intro S v1 v2 v3 v4 v6 v8 R H locs ls hf hP hS hl
    rw [fX5_differAlike_37] at hf
    refine lv_iload hx hb dX5_differAlike_37 (lv_at hl 6 rfl) ?_
    refine lv_iload_n hx hb dX5_differAlike_39 rfl (lv_at hl 3 rfl) ?_
    refine lv_icmp_ge (tgt := 81) hx hb dX5_differAlike_40 (by decide) (fun c6 => ?_) (fun c6 => ?_)
    · have hf := g_ift hf c6
      refine lv_iconst (v := 1) hx hb dX5_differAlike_81 (by decide) ?_
      obtain rfl := g_some hf
      exact g_rz (v := (1 : Int32)) X E hP hS rfl dX5_differAlike_82
    · have hf := g_iff hf c6
      refine lv_iload hx hb dX5_differAlike_43 (lv_at hl 6 rfl) ?_
      refine lv_iload hx hb dX5_differAlike_45 (lv_at hl 4 rfl) ?_
      refine lv_icmp_eq (tgt := 75) hx hb dX5_differAlike_47 (by decide) (fun c7 => ?_) (fun c7 => ?_)
      · have hf := g_ift hf c7
        refine lv_iinc (v := (v8 + 1)) (lv' := [(8, .int (v8 + 1)), (0, .ref (ga G 79)), (1, .int v1), (2, .int v2), (3, .int v3), (4, .int v4), (6, .long v6)]) hx hb dX5_differAlike_75 hl (k := 6) rfl rfl (by decide) rfl (fun ls hl => ?_)
        refine lv_goto (tgt := 37) hx hb dX5_differAlike_78 (by decide) ?_
        exact ih _ _ _ _ _ _ _ _ _ _ _ hf hP hS (lv_sub hl [1, 2, 3, 4, 5, 6, 0] rfl)
      · have hf := g_iff hf c7
        refine lv_aload_n hx hb dX5_differAlike_50 rfl (lv_at hl 0 rfl) ?_
        refine lv_iload_n hx hb dX5_differAlike_51 rfl (lv_at hl 2 rfl) ?_
        refine lv_iload hx hb dX5_differAlike_52 (lv_at hl 6 rfl) ?_
        obtain ⟨u8, h9, hf⟩ := g_bind hf
        refine g_vi (rest := []) X E hP hS (tcX5_numberAt l G _ _ _ h9) (g_cwV X gX5_differAlike_X5_numberAt rfl hdX5_numberAt ⟨Nat.le_of_ble_eq_true rfl, Nat.le_of_ble_eq_true rfl⟩) (rcX_shelves E hP) rfl hl.1 rfl (Nat.le_of_ble_eq_true rfl) dX5_differAlike_54 ⟨Nat.le_refl _, Nat.le_refl _⟩ (fun H locs hP hS => ?_)
        refine lv_i2l hx hb dX5_differAlike_57 rfl ?_
        refine lv_aload_n hx hb dX5_differAlike_58 rfl (lv_at hl 0 rfl) ?_
        refine lv_iload_n hx hb dX5_differAlike_59 rfl (lv_at hl 1 rfl) ?_
        refine lv_iload hx hb dX5_differAlike_60 (lv_at hl 6 rfl) ?_
        obtain ⟨u10, h11, hf⟩ := g_bind hf
        refine g_vi (rest := [.long (u8).toInt64]) X E hP hS (tcX5_numberAt l G _ _ _ h11) (g_cwV X gX5_differAlike_X5_numberAt rfl hdX5_numberAt ⟨Nat.le_of_ble_eq_true rfl, Nat.le_of_ble_eq_true rfl⟩) (rcX_shelves E hP) rfl hl.1 rfl (Nat.le_of_ble_eq_true rfl) dX5_differAlike_62 ⟨Nat.le_refl _, Nat.le_refl _⟩ (fun H locs hP hS => ?_)
        refine lv_i2l hx hb dX5_differAlike_65 rfl ?_
        refine lv_lsub hx hb dX5_differAlike_66 ?_
        refine lv_lload hx hb dX5_differAlike_67 (lv_at hl 5 rfl) ?_
        refine W.lcmp hx hb dX5_differAlike_69 ?_
        refine lv_if_eq (tgt := 75) hx hb dX5_differAlike_70 (by decide) (fun c12 => ?_) (fun c12 => ?_)
        · have hf := g_ift hf c12
          refine lv_iinc (v := (v8 + 1)) (lv' := [(8, .int (v8 + 1)), (0, .ref (ga G 79)), (1, .int v1), (2, .int v2), (3, .int v3), (4, .int v4), (6, .long v6)]) hx hb dX5_differAlike_75 hl (k := 6) rfl rfl (by decide) rfl (fun ls hl => ?_)
          refine lv_goto (tgt := 37) hx hb dX5_differAlike_78 (by decide) ?_
          exact ih _ _ _ _ _ _ _ _ _ _ _ hf hP hS (lv_sub hl [1, 2, 3, 4, 5, 6, 0] rfl)
        · have hf := g_iff hf c12
          refine lv_iconst (v := 0) hx hb dX5_differAlike_73 (by decide) ?_
          obtain rfl := g_some hf
          exact g_rz (v := (0 : Int32)) X E hP hS rfl dX5_differAlike_74
def fX5_differAlike (S : GS) (a1 : Int32) (a2 : Int32) (a3 : Int32) (a4 : Int32) : Option Int32 :=
  if a4 = 0 then
    (fX5_numberAt S a2 (1 : Int32)).bind fun u13 =>
    (fX5_numberAt S a1 (1 : Int32)).bind fun u15 =>
    fX5_differAlike_37 gFuel S a1 a2 a3 a4 ((u13).toInt64 - (u15).toInt64) ((1 : Int32) + (1 : Int32))
  else
    (fX5_numberAt S a2 (0 : Int32)).bind fun u2 =>
    (fX5_numberAt S a1 (0 : Int32)).bind fun u4 =>
    fX5_differAlike_37 gFuel S a1 a2 a3 a4 ((u2).toInt64 - (u4).toInt64) ((0 : Int32) + (1 : Int32))
set_option maxHeartbeats 4000000 in
set_option maxRecDepth 100000 in
theorem tcX5_differAlike (l : Launch) (G : GP) (S : GS) (a1 : Int32) (a2 : Int32) (a3 : Int32) (a4 : Int32) {R : Int32} (hf : fX5_differAlike S a1 a2 a3 a4 = some R) : CI l yX5_differAlike wsX5_differAlike 5 108 [.ref (ga G 79), .int a1, .int a2, .int a3, .int a4] WX G S R S := by
  refine g_met RX5 (cc := cX5_differAlike) (nL := 9) (ret := (some .boolean)) (by decide) rfl rfl (Nat.le_of_ble_eq_true rfl) ?_
  intro p e s m below meth c ls X E hP hS hl
  have hl : lv_has ls 9 [(0, .ref (ga G 79)), (1, .int a1), (2, .int a2), (3, .int a3), (4, .int a4)] := hl
  obtain ⟨hx, hb, -, -, hown, hts, -⟩ := id X
  rw [fX5_differAlike] at hf
  refine lv_iload hx hb dX5_differAlike_0 (lv_at hl 4 rfl) ?_
  refine lv_if_ne (tgt := 9) hx hb dX5_differAlike_2 (by decide) (fun c1 => ?_) (fun c1 => ?_)
  · have hf := g_iff hf c1
    refine lv_iconst (v := 0) hx hb dX5_differAlike_9 (by decide) ?_
    refine lv_istore (lv' := [(5, .int (0 : Int32)), (0, .ref (ga G 79)), (1, .int a1), (2, .int a2), (3, .int a3), (4, .int a4)]) hx hb dX5_differAlike_10 hl (by decide) rfl (fun ls hl => ?_)
    refine lv_aload_n hx hb dX5_differAlike_12 rfl (lv_at hl 1 rfl) ?_
    refine lv_iload_n hx hb dX5_differAlike_13 rfl (lv_at hl 3 rfl) ?_
    refine lv_iload hx hb dX5_differAlike_14 (lv_at hl 0 rfl) ?_
    obtain ⟨u2, h3, hf⟩ := g_bind hf
    refine g_vi (rest := []) X E hP hS (tcX5_numberAt l G _ _ _ h3) (g_cwV X gX5_differAlike_X5_numberAt rfl hdX5_numberAt ⟨Nat.le_of_ble_eq_true rfl, Nat.le_of_ble_eq_true rfl⟩) (rcX_shelves E hP) rfl hl.1 rfl (Nat.le_of_ble_eq_true rfl) dX5_differAlike_16 ⟨Nat.le_refl _, Nat.le_refl _⟩ (fun H locs hP hS => ?_)
    refine lv_i2l hx hb dX5_differAlike_19 rfl ?_
    refine lv_aload_n hx hb dX5_differAlike_20 rfl (lv_at hl 1 rfl) ?_
    refine lv_iload_n hx hb dX5_differAlike_21 rfl (lv_at hl 2 rfl) ?_
    refine lv_iload hx hb dX5_differAlike_22 (lv_at hl 0 rfl) ?_
    obtain ⟨u4, h5, hf⟩ := g_bind hf
    refine g_vi (rest := [.long (u2).toInt64]) X E hP hS (tcX5_numberAt l G _ _ _ h5) (g_cwV X gX5_differAlike_X5_numberAt rfl hdX5_numberAt ⟨Nat.le_of_ble_eq_true rfl, Nat.le_of_ble_eq_true rfl⟩) (rcX_shelves E hP) rfl hl.1 rfl (Nat.le_of_ble_eq_true rfl) dX5_differAlike_24 ⟨Nat.le_refl _, Nat.le_refl _⟩ (fun H locs hP hS => ?_)
    refine lv_i2l hx hb dX5_differAlike_27 rfl ?_
    refine lv_lsub hx hb dX5_differAlike_28 ?_
    refine lv_lstore (lv' := [(6, .long ((u2).toInt64 - (u4).toInt64)), (5, .int (0 : Int32)), (0, .ref (ga G 79)), (1, .int a1), (2, .int a2), (3, .int a3), (4, .int a4)]) hx hb dX5_differAlike_29 hl (by decide) rfl (fun ls hl => ?_)
    refine lv_iload hx hb dX5_differAlike_31 (lv_at hl 1 rfl) ?_
    refine lv_iconst (v := 1) hx hb dX5_differAlike_33 (by decide) ?_
    refine lv_iadd hx hb dX5_differAlike_34 ?_
    refine lv_istore (lv' := [(8, .int ((0 : Int32) + (1 : Int32))), (6, .long ((u2).toInt64 - (u4).toInt64)), (5, .int (0 : Int32)), (0, .ref (ga G 79)), (1, .int a1), (2, .int a2), (3, .int a3), (4, .int a4)]) hx hb dX5_differAlike_35 hl (by decide) rfl (fun ls hl => ?_)
    exact bX5_differAlike_37 X E gFuel _ _ _ _ _ _ _ _ _ _ _ hf hP hS (lv_sub hl [3, 4, 5, 6, 7, 1, 0] rfl)
  · have hf := g_ift hf c1
    refine lv_iconst (v := 1) hx hb dX5_differAlike_5 (by decide) ?_
    refine lv_goto (tgt := 10) hx hb dX5_differAlike_6 (by decide) ?_
    refine lv_istore (lv' := [(5, .int (1 : Int32)), (0, .ref (ga G 79)), (1, .int a1), (2, .int a2), (3, .int a3), (4, .int a4)]) hx hb dX5_differAlike_10 hl (by decide) rfl (fun ls hl => ?_)
    refine lv_aload_n hx hb dX5_differAlike_12 rfl (lv_at hl 1 rfl) ?_
    refine lv_iload_n hx hb dX5_differAlike_13 rfl (lv_at hl 3 rfl) ?_
    refine lv_iload hx hb dX5_differAlike_14 (lv_at hl 0 rfl) ?_
    obtain ⟨u13, h14, hf⟩ := g_bind hf
    refine g_vi (rest := []) X E hP hS (tcX5_numberAt l G _ _ _ h14) (g_cwV X gX5_differAlike_X5_numberAt rfl hdX5_numberAt ⟨Nat.le_of_ble_eq_true rfl, Nat.le_of_ble_eq_true rfl⟩) (rcX_shelves E hP) rfl hl.1 rfl (Nat.le_of_ble_eq_true rfl) dX5_differAlike_16 ⟨Nat.le_refl _, Nat.le_refl _⟩ (fun H locs hP hS => ?_)
    refine lv_i2l hx hb dX5_differAlike_19 rfl ?_
    refine lv_aload_n hx hb dX5_differAlike_20 rfl (lv_at hl 1 rfl) ?_
    refine lv_iload_n hx hb dX5_differAlike_21 rfl (lv_at hl 2 rfl) ?_
    refine lv_iload hx hb dX5_differAlike_22 (lv_at hl 0 rfl) ?_
    obtain ⟨u15, h16, hf⟩ := g_bind hf
    refine g_vi (rest := [.long (u13).toInt64]) X E hP hS (tcX5_numberAt l G _ _ _ h16) (g_cwV X gX5_differAlike_X5_numberAt rfl hdX5_numberAt ⟨Nat.le_of_ble_eq_true rfl, Nat.le_of_ble_eq_true rfl⟩) (rcX_shelves E hP) rfl hl.1 rfl (Nat.le_of_ble_eq_true rfl) dX5_differAlike_24 ⟨Nat.le_refl _, Nat.le_refl _⟩ (fun H locs hP hS => ?_)
    refine lv_i2l hx hb dX5_differAlike_27 rfl ?_
    refine lv_lsub hx hb dX5_differAlike_28 ?_
    refine lv_lstore (lv' := [(6, .long ((u13).toInt64 - (u15).toInt64)), (5, .int (1 : Int32)), (0, .ref (ga G 79)), (1, .int a1), (2, .int a2), (3, .int a3), (4, .int a4)]) hx hb dX5_differAlike_29 hl (by decide) rfl (fun ls hl => ?_)
    refine lv_iload hx hb dX5_differAlike_31 (lv_at hl 1 rfl) ?_
    refine lv_iconst (v := 1) hx hb dX5_differAlike_33 (by decide) ?_
    refine lv_iadd hx hb dX5_differAlike_34 ?_
    refine lv_istore (lv' := [(8, .int ((1 : Int32) + (1 : Int32))), (6, .long ((u13).toInt64 - (u15).toInt64)), (5, .int (1 : Int32)), (0, .ref (ga G 79)), (1, .int a1), (2, .int a2), (3, .int a3), (4, .int a4)]) hx hb dX5_differAlike_35 hl (by decide) rfl (fun ls hl => ?_)
    exact bX5_differAlike_37 X E gFuel _ _ _ _ _ _ _ _ _ _ _ hf hP hS (lv_sub hl [3, 4, 5, 6, 7, 1, 0] rfl)
theorem lkX8_rose_0 : Cond.fieldLink RX8 10 RX8 "shelves" "LBackToTheFirstStone$Shelves;" ∈ wsX8_rose := by decide +kernel
theorem inX8_rose_X8 : ∀ w ∈ wsX80, w ∈ wsX8_rose := by decide +kernel
def fX8_rose_108 : Nat → GS → Int32 → Int32 → Int32 → Int32 → Option (Int32 × GS)
  | 0, _, _, _, _, _ => none
  | fu + 1, S, v1, v2, v3, v5 =>
    if v3 ≤ v5 then
      some ((-2 : Int32), S)
    else
      (fX5_differAlike S v1 v2 v3 v5).bind fun u11 =>
      if u11 = 0 then
        fX8_rose_108 fu S v1 v2 v3 (v5 + 1)
      else
        some (v5, S)
set_option maxHeartbeats 4000000 in
set_option maxRecDepth 100000 in
theorem bX8_rose_108 {p : Program} {l : Launch} {e : Env} {s : State} {m : MethodId} {args : Array Value} {below : List Frame} {meth : Method} {c : Code} {G : GP} (X : GX p s m meth c args cX8_rose 6 (some .int) wsX8_rose RX8) (E : gE WX G s)  : ∀ (fu : Nat) (S : GS) (v1 : Int32) (v2 : Int32) (v3 : Int32) (v5 : Int32) (R : (Int32 × GS)) (H : Heap) (locs : List Loc) (ls : Array Slot) (_ : fX8_rose_108 fu S v1 v2 v3 v5 = some R) (_ : va_P (gD G) vwCl (WX G S ++ gF G) H) (_ : va_S (gA G) s.heap H locs) (_ : lv_has ls 6 [(0, .ref (ga G 63)), (1, .int v1), (2, .int v2), (3, .int v3), (5, .int v5)]), W p l e (gR 6 136) s m args below meth c H locs 0 0 (MQ below (gQi WX G R.1 R.2) args s 0 0 (gA G)) (F0 m 108 ls []) := by
  obtain ⟨hx, hb, -, -, hown, hts, -⟩ := id X
  intro fu
  induction fu with
  | zero =>
    intro S v1 v2 v3 v5 R H locs ls hf
    cases (show (none : Option (Int32 × GS)) = some R from hf)
  | succ fu ih =>
    intro S v1 v2 v3 v5 R H locs ls hf hP hS hl
    rw [fX8_rose_108] at hf
    refine lv_iload hx hb dX8_rose_108 (lv_at hl 4 rfl) ?_
    refine lv_iload_n hx hb dX8_rose_110 rfl (lv_at hl 3 rfl) ?_
    refine lv_icmp_ge (tgt := 138) hx hb dX8_rose_111 (by decide) (fun c10 => ?_) (fun c10 => ?_)
    · have hf := g_ift hf c10
      refine lv_bipush (v := -2) hx hb dX8_rose_138 (by decide) ?_
      obtain rfl := g_some hf
      exact g_ri X E hP hS dX8_rose_140
    · have hf := g_iff hf c10
      refine lv_aload_n hx hb dX8_rose_114 rfl (lv_at hl 0 rfl) ?_
      refine ggX_48 X E hP inX8_rose_X8 lkX8_rose_0 dX8_rose_115 ?_
      refine lv_iload_n hx hb dX8_rose_118 rfl (lv_at hl 1 rfl) ?_
      refine lv_iload_n hx hb dX8_rose_119 rfl (lv_at hl 2 rfl) ?_
      refine lv_iload_n hx hb dX8_rose_120 rfl (lv_at hl 3 rfl) ?_
      refine lv_iload hx hb dX8_rose_121 (lv_at hl 4 rfl) ?_
      obtain ⟨u11, h12, hf⟩ := g_bind hf
      refine g_vi (rest := []) X E hP hS (tcX5_differAlike l G _ _ _ _ _ h12) (g_cwV X gX8_rose_X5_differAlike rfl hdX5_differAlike ⟨Nat.le_of_ble_eq_true rfl, Nat.le_of_ble_eq_true rfl⟩) (rcX_shelves E hP) rfl hl.1 rfl (Nat.le_of_ble_eq_true rfl) dX8_rose_123 ⟨Nat.le_refl _, Nat.le_refl _⟩ (fun H locs hP hS => ?_)
      refine lv_if_eq (tgt := 132) hx hb dX8_rose_126 (by decide) (fun c13 => ?_) (fun c13 => ?_)
      · have hf := g_ift hf c13
        refine lv_iinc (v := (v5 + 1)) (lv' := [(5, .int (v5 + 1)), (0, .ref (ga G 63)), (1, .int v1), (2, .int v2), (3, .int v3)]) hx hb dX8_rose_132 hl (k := 4) rfl rfl (by decide) rfl (fun ls hl => ?_)
        refine lv_goto (tgt := 108) hx hb dX8_rose_135 (by decide) ?_
        exact ih _ _ _ _ _ _ _ _ _ hf hP hS (lv_sub hl [1, 2, 3, 4, 0] rfl)
      · have hf := g_iff hf c13
        refine lv_iload hx hb dX8_rose_129 (lv_at hl 4 rfl) ?_
        obtain rfl := g_some hf
        exact g_ri X E hP hS dX8_rose_131
def fX8_rose_L74 (S : GS) (v1 : Int32) (v2 : Int32) (v3 : Int32) (v4 : Int32) : Option (Int32 × GS) :=
  if v4 = 0 then
    (fX5_differAlike S v1 v2 v3 (-1 : Int32)).bind fun u7 =>
    if u7 = 0 then
      fX8_rose_108 gFuel S v1 v2 v3 (0 : Int32)
    else
      some ((-1 : Int32), S)
  else
    (fX8_refuse S v4).bind fun u14 =>
    some (((-10 : Int32) + u14.1), u14.2)
set_option maxHeartbeats 4000000 in
set_option maxRecDepth 100000 in
theorem bX8_rose_L74 {p : Program} {l : Launch} {e : Env} {s : State} {m : MethodId} {args : Array Value} {below : List Frame} {meth : Method} {c : Code} {G : GP} (X : GX p s m meth c args cX8_rose 6 (some .int) wsX8_rose RX8) (E : gE WX G s) (S : GS) (v1 : Int32) (v2 : Int32) (v3 : Int32) (v4 : Int32) (R : (Int32 × GS)) (H : Heap) (locs : List Loc) (ls : Array Slot) (hf : fX8_rose_L74 S v1 v2 v3 v4 = some R) (hP : va_P (gD G) vwCl (WX G S ++ gF G) H) (hS : va_S (gA G) s.heap H locs) (hl : lv_has ls 6 [(0, .ref (ga G 63)), (1, .int v1), (2, .int v2), (3, .int v3), (4, .int v4)]) : W p l e (gR 6 136) s m args below meth c H locs 0 0 (MQ below (gQi WX G R.1 R.2) args s 0 0 (gA G)) (F0 m 74 ls []) := by
  obtain ⟨hx, hb, -, -, hown, hts, -⟩ := id X
  rw [fX8_rose_L74] at hf
  refine lv_iload hx hb dX8_rose_74 (lv_at hl 4 rfl) ?_
  refine lv_if_eq (tgt := 89) hx hb dX8_rose_76 (by decide) (fun c6 => ?_) (fun c6 => ?_)
  · have hf := g_ift hf c6
    refine lv_aload_n hx hb dX8_rose_89 rfl (lv_at hl 0 rfl) ?_
    refine ggX_48 X E hP inX8_rose_X8 lkX8_rose_0 dX8_rose_90 ?_
    refine lv_iload_n hx hb dX8_rose_93 rfl (lv_at hl 1 rfl) ?_
    refine lv_iload_n hx hb dX8_rose_94 rfl (lv_at hl 2 rfl) ?_
    refine lv_iload_n hx hb dX8_rose_95 rfl (lv_at hl 3 rfl) ?_
    refine lv_iconst (v := -1) hx hb dX8_rose_96 (by decide) ?_
    obtain ⟨u7, h8, hf⟩ := g_bind hf
    refine g_vi (rest := []) X E hP hS (tcX5_differAlike l G _ _ _ _ _ h8) (g_cwV X gX8_rose_X5_differAlike rfl hdX5_differAlike ⟨Nat.le_of_ble_eq_true rfl, Nat.le_of_ble_eq_true rfl⟩) (rcX_shelves E hP) rfl hl.1 rfl (Nat.le_of_ble_eq_true rfl) dX8_rose_97 ⟨Nat.le_refl _, Nat.le_refl _⟩ (fun H locs hP hS => ?_)
    refine lv_if_eq (tgt := 105) hx hb dX8_rose_100 (by decide) (fun c9 => ?_) (fun c9 => ?_)
    · have hf := g_ift hf c9
      refine lv_iconst (v := 0) hx hb dX8_rose_105 (by decide) ?_
      refine lv_istore (lv' := [(5, .int (0 : Int32)), (0, .ref (ga G 63)), (1, .int v1), (2, .int v2), (3, .int v3), (4, .int v4)]) hx hb dX8_rose_106 hl (by decide) rfl (fun ls hl => ?_)
      exact bX8_rose_108 X E gFuel _ _ _ _ _ _ _ _ _ hf hP hS (lv_sub hl [1, 2, 3, 4, 0] rfl)
    · have hf := g_iff hf c9
      refine lv_iconst (v := -1) hx hb dX8_rose_103 (by decide) ?_
      obtain rfl := g_some hf
      exact g_ri X E hP hS dX8_rose_104
  · have hf := g_iff hf c6
    refine lv_bipush (v := -10) hx hb dX8_rose_79 (by decide) ?_
    refine lv_aload_n hx hb dX8_rose_81 rfl (lv_at hl 0 rfl) ?_
    refine lv_iload hx hb dX8_rose_82 (lv_at hl 4 rfl) ?_
    obtain ⟨u14, h15, hf⟩ := g_bind hf
    refine g_vi (rest := [.int (-10 : Int32)]) X E hP hS (tcX8_refuse l G _ _ h15) (g_cwV X gX8_rose_X8_refuse rfl hdX8_refuse ⟨Nat.le_of_ble_eq_true rfl, Nat.le_of_ble_eq_true rfl⟩) (rcX_main E hP) rfl hl.1 rfl (Nat.le_of_ble_eq_true rfl) dX8_rose_84 ⟨Nat.le_refl _, Nat.le_refl _⟩ (fun H locs hP hS => ?_)
    refine lv_iadd hx hb dX8_rose_87 ?_
    obtain rfl := g_some hf
    exact g_ri X E hP hS dX8_rose_88
def fX8_rose_L70 (S : GS) (v1 : Int32) (v2 : Int32) (v3 : Int32) : Option (Int32 × GS) :=
  fX8_rose_L74 S v1 v2 v3 (-6 : Int32)
set_option maxHeartbeats 4000000 in
set_option maxRecDepth 100000 in
theorem bX8_rose_L70 {p : Program} {l : Launch} {e : Env} {s : State} {m : MethodId} {args : Array Value} {below : List Frame} {meth : Method} {c : Code} {G : GP} (X : GX p s m meth c args cX8_rose 6 (some .int) wsX8_rose RX8) (E : gE WX G s) (S : GS) (v1 : Int32) (v2 : Int32) (v3 : Int32) (R : (Int32 × GS)) (H : Heap) (locs : List Loc) (ls : Array Slot) (hf : fX8_rose_L70 S v1 v2 v3 = some R) (hP : va_P (gD G) vwCl (WX G S ++ gF G) H) (hS : va_S (gA G) s.heap H locs) (hl : lv_has ls 6 [(0, .ref (ga G 63)), (1, .int v1), (2, .int v2), (3, .int v3)]) : W p l e (gR 6 136) s m args below meth c H locs 0 0 (MQ below (gQi WX G R.1 R.2) args s 0 0 (gA G)) (F0 m 70 ls []) := by
  obtain ⟨hx, hb, -, -, hown, hts, -⟩ := id X
  rw [fX8_rose_L70] at hf
  refine lv_bipush (v := -6) hx hb dX8_rose_70 (by decide) ?_
  refine lv_istore (lv' := [(4, .int (-6 : Int32)), (0, .ref (ga G 63)), (1, .int v1), (2, .int v2), (3, .int v3)]) hx hb dX8_rose_72 hl (by decide) rfl (fun ls hl => ?_)
  exact bX8_rose_L74 X E _ _ _ _ _ _ _ _ _ hf hP hS (lv_sub hl [1, 2, 3, 4, 0] rfl)
def fX8_rose_L54 (S : GS) (v1 : Int32) (v2 : Int32) (v3 : Int32) (v4 : Int32) : Option (Int32 × GS) :=
  if v4 = 0 then
    if v3 < (2 : Int32) then
      fX8_rose_L70 S v1 v2 v3
    else
      if v3 ≤ (40 : Int32) then
        fX8_rose_L74 S v1 v2 v3 v4
      else
        fX8_rose_L70 S v1 v2 v3
  else
    fX8_rose_L74 S v1 v2 v3 v4
set_option maxHeartbeats 4000000 in
set_option maxRecDepth 100000 in
theorem bX8_rose_L54 {p : Program} {l : Launch} {e : Env} {s : State} {m : MethodId} {args : Array Value} {below : List Frame} {meth : Method} {c : Code} {G : GP} (X : GX p s m meth c args cX8_rose 6 (some .int) wsX8_rose RX8) (E : gE WX G s) (S : GS) (v1 : Int32) (v2 : Int32) (v3 : Int32) (v4 : Int32) (R : (Int32 × GS)) (H : Heap) (locs : List Loc) (ls : Array Slot) (hf : fX8_rose_L54 S v1 v2 v3 v4 = some R) (hP : va_P (gD G) vwCl (WX G S ++ gF G) H) (hS : va_S (gA G) s.heap H locs) (hl : lv_has ls 6 [(0, .ref (ga G 63)), (1, .int v1), (2, .int v2), (3, .int v3), (4, .int v4)]) : W p l e (gR 6 136) s m args below meth c H locs 0 0 (MQ below (gQi WX G R.1 R.2) args s 0 0 (gA G)) (F0 m 54 ls []) := by
  obtain ⟨hx, hb, -, -, hown, hts, -⟩ := id X
  rw [fX8_rose_L54] at hf
  refine lv_iload hx hb dX8_rose_54 (lv_at hl 4 rfl) ?_
  refine lv_if_ne (tgt := 74) hx hb dX8_rose_56 (by decide) (fun c5 => ?_) (fun c5 => ?_)
  · have hf := g_iff hf c5
    exact bX8_rose_L74 X E _ _ _ _ _ _ _ _ _ hf hP hS (lv_sub hl [0, 1, 2, 3, 4] rfl)
  · have hf := g_ift hf c5
    refine lv_iload_n hx hb dX8_rose_59 rfl (lv_at hl 3 rfl) ?_
    refine lv_iconst (v := 2) hx hb dX8_rose_60 (by decide) ?_
    refine lv_icmp_lt (tgt := 70) hx hb dX8_rose_61 (by decide) (fun c16 => ?_) (fun c16 => ?_)
    · have hf := g_ift hf c16
      exact bX8_rose_L70 X E _ _ _ _ _ _ _ _ hf hP hS (lv_sub hl [0, 1, 2, 3] rfl)
    · have hf := g_iff hf c16
      refine lv_iload_n hx hb dX8_rose_64 rfl (lv_at hl 3 rfl) ?_
      refine lv_bipush (v := 40) hx hb dX8_rose_65 (by decide) ?_
      refine lv_icmp_le (tgt := 74) hx hb dX8_rose_67 (by decide) (fun c17 => ?_) (fun c17 => ?_)
      · have hf := g_ift hf c17
        exact bX8_rose_L74 X E _ _ _ _ _ _ _ _ _ hf hP hS (lv_sub hl [0, 1, 2, 3, 4] rfl)
      · have hf := g_iff hf c17
        exact bX8_rose_L70 X E _ _ _ _ _ _ _ _ hf hP hS (lv_sub hl [0, 1, 2, 3] rfl)
def fX8_rose_L50 (S : GS) (v1 : Int32) (v2 : Int32) (v3 : Int32) : Option (Int32 × GS) :=
  fX8_rose_L54 S v1 v2 v3 (-5 : Int32)
set_option maxHeartbeats 4000000 in
set_option maxRecDepth 100000 in
theorem bX8_rose_L50 {p : Program} {l : Launch} {e : Env} {s : State} {m : MethodId} {args : Array Value} {below : List Frame} {meth : Method} {c : Code} {G : GP} (X : GX p s m meth c args cX8_rose 6 (some .int) wsX8_rose RX8) (E : gE WX G s) (S : GS) (v1 : Int32) (v2 : Int32) (v3 : Int32) (R : (Int32 × GS)) (H : Heap) (locs : List Loc) (ls : Array Slot) (hf : fX8_rose_L50 S v1 v2 v3 = some R) (hP : va_P (gD G) vwCl (WX G S ++ gF G) H) (hS : va_S (gA G) s.heap H locs) (hl : lv_has ls 6 [(0, .ref (ga G 63)), (1, .int v1), (2, .int v2), (3, .int v3)]) : W p l e (gR 6 136) s m args below meth c H locs 0 0 (MQ below (gQi WX G R.1 R.2) args s 0 0 (gA G)) (F0 m 50 ls []) := by
  obtain ⟨hx, hb, -, -, hown, hts, -⟩ := id X
  rw [fX8_rose_L50] at hf
  refine lv_bipush (v := -5) hx hb dX8_rose_50 (by decide) ?_
  refine lv_istore (lv' := [(4, .int (-5 : Int32)), (0, .ref (ga G 63)), (1, .int v1), (2, .int v2), (3, .int v3)]) hx hb dX8_rose_52 hl (by decide) rfl (fun ls hl => ?_)
  exact bX8_rose_L54 X E _ _ _ _ _ _ _ _ _ hf hP hS (lv_sub hl [1, 2, 3, 4, 0] rfl)
def fX8_rose_L21 (S : GS) (v1 : Int32) (v2 : Int32) (v3 : Int32) (v4 : Int32) : Option (Int32 × GS) :=
  if v4 = 0 then
    (fX5_lengthOf S v1).bind fun u18 =>
    if u18 < v3 then
      fX8_rose_L50 S v1 v2 v3
    else
      (fX5_lengthOf S v2).bind fun u21 =>
      if v3 ≤ u21 then
        fX8_rose_L54 S v1 v2 v3 v4
      else
        fX8_rose_L50 S v1 v2 v3
  else
    fX8_rose_L54 S v1 v2 v3 v4
set_option maxHeartbeats 4000000 in
set_option maxRecDepth 100000 in
theorem bX8_rose_L21 {p : Program} {l : Launch} {e : Env} {s : State} {m : MethodId} {args : Array Value} {below : List Frame} {meth : Method} {c : Code} {G : GP} (X : GX p s m meth c args cX8_rose 6 (some .int) wsX8_rose RX8) (E : gE WX G s) (S : GS) (v1 : Int32) (v2 : Int32) (v3 : Int32) (v4 : Int32) (R : (Int32 × GS)) (H : Heap) (locs : List Loc) (ls : Array Slot) (hf : fX8_rose_L21 S v1 v2 v3 v4 = some R) (hP : va_P (gD G) vwCl (WX G S ++ gF G) H) (hS : va_S (gA G) s.heap H locs) (hl : lv_has ls 6 [(0, .ref (ga G 63)), (1, .int v1), (2, .int v2), (3, .int v3), (4, .int v4)]) : W p l e (gR 6 136) s m args below meth c H locs 0 0 (MQ below (gQi WX G R.1 R.2) args s 0 0 (gA G)) (F0 m 21 ls []) := by
  obtain ⟨hx, hb, -, -, hown, hts, -⟩ := id X
  rw [fX8_rose_L21] at hf
  refine lv_iload hx hb dX8_rose_21 (lv_at hl 4 rfl) ?_
  refine lv_if_ne (tgt := 54) hx hb dX8_rose_23 (by decide) (fun c4 => ?_) (fun c4 => ?_)
  · have hf := g_iff hf c4
    exact bX8_rose_L54 X E _ _ _ _ _ _ _ _ _ hf hP hS (lv_sub hl [0, 1, 2, 3, 4] rfl)
  · have hf := g_ift hf c4
    refine lv_iload_n hx hb dX8_rose_26 rfl (lv_at hl 3 rfl) ?_
    refine lv_aload_n hx hb dX8_rose_27 rfl (lv_at hl 0 rfl) ?_
    refine ggX_48 X E hP inX8_rose_X8 lkX8_rose_0 dX8_rose_28 ?_
    refine lv_iload_n hx hb dX8_rose_31 rfl (lv_at hl 1 rfl) ?_
    obtain ⟨u18, h19, hf⟩ := g_bind hf
    refine g_vi (rest := [.int v3]) X E hP hS (tcX5_lengthOf l G _ _ h19) (g_cwV X gX8_rose_X5_lengthOf rfl hdX5_lengthOf ⟨Nat.le_of_ble_eq_true rfl, Nat.le_of_ble_eq_true rfl⟩) (rcX_shelves E hP) rfl hl.1 rfl (Nat.le_of_ble_eq_true rfl) dX8_rose_32 ⟨Nat.le_refl _, Nat.le_refl _⟩ (fun H locs hP hS => ?_)
    refine lv_icmp_gt (tgt := 50) hx hb dX8_rose_35 (by decide) (fun c20 => ?_) (fun c20 => ?_)
    · have hf := g_ift hf c20
      exact bX8_rose_L50 X E _ _ _ _ _ _ _ _ hf hP hS (lv_sub hl [0, 1, 2, 3] rfl)
    · have hf := g_iff hf c20
      refine lv_iload_n hx hb dX8_rose_38 rfl (lv_at hl 3 rfl) ?_
      refine lv_aload_n hx hb dX8_rose_39 rfl (lv_at hl 0 rfl) ?_
      refine ggX_48 X E hP inX8_rose_X8 lkX8_rose_0 dX8_rose_40 ?_
      refine lv_iload_n hx hb dX8_rose_43 rfl (lv_at hl 2 rfl) ?_
      obtain ⟨u21, h22, hf⟩ := g_bind hf
      refine g_vi (rest := [.int v3]) X E hP hS (tcX5_lengthOf l G _ _ h22) (g_cwV X gX8_rose_X5_lengthOf rfl hdX5_lengthOf ⟨Nat.le_of_ble_eq_true rfl, Nat.le_of_ble_eq_true rfl⟩) (rcX_shelves E hP) rfl hl.1 rfl (Nat.le_of_ble_eq_true rfl) dX8_rose_44 ⟨Nat.le_refl _, Nat.le_refl _⟩ (fun H locs hP hS => ?_)
      refine lv_icmp_le (tgt := 54) hx hb dX8_rose_47 (by decide) (fun c23 => ?_) (fun c23 => ?_)
      · have hf := g_ift hf c23
        exact bX8_rose_L54 X E _ _ _ _ _ _ _ _ _ hf hP hS (lv_sub hl [0, 1, 2, 3, 4] rfl)
      · have hf := g_iff hf c23
        exact bX8_rose_L50 X E _ _ _ _ _ _ _ _ hf hP hS (lv_sub hl [0, 1, 2, 3] rfl)
def fX8_rose (S : GS) (a1 : Int32) (a2 : Int32) (a3 : Int32) : Option (Int32 × GS) :=
  (fX8_pairRefusal S a1 a2).bind fun u1 =>
  if u1 = 0 then
    if 0 ≤ a3 then
      fX8_rose_L21 S a1 a2 a3 u1
    else
      fX8_rose_L21 S a1 a2 a3 (-4 : Int32)
  else
    fX8_rose_L21 S a1 a2 a3 u1
set_option maxHeartbeats 4000000 in
set_option maxRecDepth 100000 in
theorem tcX8_rose (l : Launch) (G : GP) (S : GS) (a1 : Int32) (a2 : Int32) (a3 : Int32) {R : (Int32 × GS)} (hf : fX8_rose S a1 a2 a3 = some R) : CI l yX8_rose wsX8_rose 6 136 [.ref (ga G 63), .int a1, .int a2, .int a3] WX G S R.1 R.2 := by
  refine g_met RX8 (cc := cX8_rose) (nL := 6) (ret := (some .int)) (by decide) rfl rfl (Nat.le_of_ble_eq_true rfl) ?_
  intro p e s m below meth c ls X E hP hS hl
  have hl : lv_has ls 6 [(0, .ref (ga G 63)), (1, .int a1), (2, .int a2), (3, .int a3)] := hl
  obtain ⟨hx, hb, -, -, hown, hts, -⟩ := id X
  rw [fX8_rose] at hf
  refine lv_aload_n hx hb dX8_rose_0 rfl (lv_at hl 0 rfl) ?_
  refine lv_iload_n hx hb dX8_rose_1 rfl (lv_at hl 1 rfl) ?_
  refine lv_iload_n hx hb dX8_rose_2 rfl (lv_at hl 2 rfl) ?_
  obtain ⟨u1, h2, hf⟩ := g_bind hf
  refine g_vi (rest := []) X E hP hS (tcX8_pairRefusal l G _ _ _ h2) (g_cwV X gX8_rose_X8_pairRefusal rfl hdX8_pairRefusal ⟨Nat.le_of_ble_eq_true rfl, Nat.le_of_ble_eq_true rfl⟩) (rcX_main E hP) rfl hl.1 rfl (Nat.le_of_ble_eq_true rfl) dX8_rose_3 ⟨Nat.le_refl _, Nat.le_refl _⟩ (fun H locs hP hS => ?_)
  refine lv_istore (lv' := [(4, .int u1), (0, .ref (ga G 63)), (1, .int a1), (2, .int a2), (3, .int a3)]) hx hb dX8_rose_6 hl (by decide) rfl (fun ls hl => ?_)
  refine lv_iload hx hb dX8_rose_8 (lv_at hl 0 rfl) ?_
  refine lv_if_ne (tgt := 21) hx hb dX8_rose_10 (by decide) (fun c3 => ?_) (fun c3 => ?_)
  · have hf := g_iff hf c3
    exact bX8_rose_L21 X E _ _ _ _ _ _ _ _ _ hf hP hS (lv_sub hl [1, 2, 3, 4, 0] rfl)
  · have hf := g_ift hf c3
    refine lv_iload_n hx hb dX8_rose_13 rfl (lv_at hl 4 rfl) ?_
    refine lv_if_ge (tgt := 21) hx hb dX8_rose_14 (by decide) (fun c24 => ?_) (fun c24 => ?_)
    · have hf := g_ift hf c24
      exact bX8_rose_L21 X E _ _ _ _ _ _ _ _ _ hf hP hS (lv_sub hl [1, 2, 3, 4, 0] rfl)
    · have hf := g_iff hf c24
      refine lv_bipush (v := -4) hx hb dX8_rose_17 (by decide) ?_
      refine lv_istore (lv' := [(4, .int (-4 : Int32)), (0, .ref (ga G 63)), (1, .int a1), (2, .int a2), (3, .int a3)]) hx hb dX8_rose_19 hl (by decide) rfl (fun ls hl => ?_)
      exact bX8_rose_L21 X E _ _ _ _ _ _ _ _ _ hf hP hS (lv_sub hl [1, 2, 3, 4, 0] rfl)
theorem lkX3_risesHeldBy_0 : Cond.fieldLink RX3 16 RX3 "setUps" "I" ∈ wsX3_risesHeldBy := by decide +kernel
theorem inX3_risesHeldBy_X3 : ∀ w ∈ wsX30, w ∈ wsX3_risesHeldBy := by decide +kernel
def fX3_risesHeldBy_now_4 : Nat → GS → Int32 → Int32 → Int32 → Option Int32
  | 0, _, _, _, _ => none
  | fu + 1, S, v1, v2, v3 =>
    if (S.1 2) ≤ v3 then
      some v2
    else
      (fX3_get_now S v3 (6 : Int32)).bind fun u2 =>
      if u2 = v1 then
        (fX3_riseOf_now S v3).bind fun u5 =>
        fX3_risesHeldBy_now_4 fu S v1 (v2 + u5) (v3 + 1)
      else
        fX3_risesHeldBy_now_4 fu S v1 v2 (v3 + 1)
set_option maxHeartbeats 4000000 in
set_option maxRecDepth 100000 in
theorem bX3_risesHeldBy_now_4 {p : Program} {l : Launch} {e : Env} {s : State} {m : MethodId} {args : Array Value} {below : List Frame} {meth : Method} {c : Code} {Q : State → Prop} {G : GP} (X : GX p s m meth c args cX3_risesHeldBy 4 (some .int) wsX3_risesHeldBy RX3) (E : gE WX G s)  : ∀ (fu : Nat) (S : GS) (v1 : Int32) (v2 : Int32) (v3 : Int32) (R : Int32) (H : Heap) (locs : List Loc) (ls : Array Slot) (_ : fX3_risesHeldBy_now_4 fu S v1 v2 v3 = some R) (_ : va_P (gD G) vwCl (WX G S ++ gF G) H) (_ : va_S (gA G) s.heap H locs) (_ : lv_has ls 4 [(0, .ref (ga G 15)), (1, .int v1), (2, .int v2), (3, .int v3)]) (_ : ∀ (H : Heap) (locs : List Loc) (ls : Array Slot), va_P (gD G) vwCl (WX G S ++ gF G) H → va_S (gA G) s.heap H locs → lv_has ls 4 [(2, .int R)] → W p l e (gR 4 88) s m args below meth c H locs 0 0 Q (F0 m 37 ls [])), W p l e (gR 4 88) s m args below meth c H locs 0 0 Q (F0 m 4 ls []) := by
  obtain ⟨hx, hb, -, -, hown, hts, -⟩ := id X
  intro fu
  induction fu with
  | zero =>
    intro S v1 v2 v3 R H locs ls hf
    cases (show (none : Option Int32) = some R from hf)
  | succ fu ih =>
    intro S v1 v2 v3 R H locs ls hf hP hS hl kk
    rw [fX3_risesHeldBy_now_4] at hf
    refine lv_iload_n hx hb dX3_risesHeldBy_4 rfl (lv_at hl 3 rfl) ?_
    refine lv_aload_n hx hb dX3_risesHeldBy_5 rfl (lv_at hl 0 rfl) ?_
    refine ggX_2 X E hP inX3_risesHeldBy_X3 lkX3_risesHeldBy_0 dX3_risesHeldBy_6 ?_
    refine lv_icmp_ge (tgt := 37) hx hb dX3_risesHeldBy_9 (by decide) (fun c1 => ?_) (fun c1 => ?_)
    · have hf := g_ift hf c1
      obtain rfl := g_some hf
      exact kk _ _ _ hP hS (lv_sub hl [2] rfl)
    · have hf := g_iff hf c1
      refine lv_aload_n hx hb dX3_risesHeldBy_12 rfl (lv_at hl 0 rfl) ?_
      refine lv_iload_n hx hb dX3_risesHeldBy_13 rfl (lv_at hl 3 rfl) ?_
      refine lv_bipush (v := 6) hx hb dX3_risesHeldBy_14 (by decide) ?_
      obtain ⟨u2, h3, hf⟩ := g_bind hf
      refine g_vi (rest := []) X E hP hS (tcX3_get_now l G _ _ _ h3) (g_cwV X gX3_risesHeldBy_X3_get rfl hdX3_get ⟨Nat.le_of_ble_eq_true rfl, Nat.le_of_ble_eq_true rfl⟩) (rcX_now E hP) rfl hl.1 rfl (Nat.le_of_ble_eq_true rfl) dX3_risesHeldBy_16 ⟨Nat.le_refl _, Nat.le_refl _⟩ (fun H locs hP hS => ?_)
      refine lv_iload_n hx hb dX3_risesHeldBy_19 rfl (lv_at hl 1 rfl) ?_
      refine lv_icmp_ne (tgt := 31) hx hb dX3_risesHeldBy_20 (by decide) (fun c4 => ?_) (fun c4 => ?_)
      · have hf := g_iff hf c4
        refine lv_iinc (v := (v3 + 1)) (lv' := [(3, .int (v3 + 1)), (0, .ref (ga G 15)), (1, .int v1), (2, .int v2)]) hx hb dX3_risesHeldBy_31 hl (k := 3) rfl rfl (by decide) rfl (fun ls hl => ?_)
        refine lv_goto (tgt := 4) hx hb dX3_risesHeldBy_34 (by decide) ?_
        exact ih _ _ _ _ _ _ _ _ hf hP hS (lv_sub hl [1, 2, 3, 0] rfl) kk
      · have hf := g_ift hf c4
        refine lv_iload_n hx hb dX3_risesHeldBy_23 rfl (lv_at hl 2 rfl) ?_
        refine lv_aload_n hx hb dX3_risesHeldBy_24 rfl (lv_at hl 0 rfl) ?_
        refine lv_iload_n hx hb dX3_risesHeldBy_25 rfl (lv_at hl 3 rfl) ?_
        obtain ⟨u5, h6, hf⟩ := g_bind hf
        refine g_vi (rest := [.int v2]) X E hP hS (tcX3_riseOf_now l G _ _ h6) (g_cwV X gX3_risesHeldBy_X3_riseOf rfl hdX3_riseOf ⟨Nat.le_of_ble_eq_true rfl, Nat.le_of_ble_eq_true rfl⟩) (rcX_now E hP) rfl hl.1 rfl (Nat.le_of_ble_eq_true rfl) dX3_risesHeldBy_26 ⟨Nat.le_refl _, Nat.le_refl _⟩ (fun H locs hP hS => ?_)
        refine lv_iadd hx hb dX3_risesHeldBy_29 ?_
        refine lv_istore_n (lv' := [(2, .int (v2 + u5)), (0, .ref (ga G 15)), (1, .int v1), (3, .int v3)]) hx hb dX3_risesHeldBy_30 rfl hl (by decide) rfl (fun ls hl => ?_)
        refine lv_iinc (v := (v3 + 1)) (lv' := [(3, .int (v3 + 1)), (2, .int (v2 + u5)), (0, .ref (ga G 15)), (1, .int v1)]) hx hb dX3_risesHeldBy_31 hl (k := 3) rfl rfl (by decide) rfl (fun ls hl => ?_)
        refine lv_goto (tgt := 4) hx hb dX3_risesHeldBy_34 (by decide) ?_
        exact ih _ _ _ _ _ _ _ _ hf hP hS (lv_sub hl [2, 3, 1, 0] rfl) kk
def fX3_risesHeldBy_now (S : GS) (a1 : Int32) : Option Int32 :=
  (fX3_risesHeldBy_now_4 gFuel S a1 (0 : Int32) (0 : Int32)).bind fun u7 =>
  some u7
set_option maxHeartbeats 4000000 in
set_option maxRecDepth 100000 in
theorem tcX3_risesHeldBy_now (l : Launch) (G : GP) (S : GS) (a1 : Int32) {R : Int32} (hf : fX3_risesHeldBy_now S a1 = some R) : CI l yX3_risesHeldBy wsX3_risesHeldBy 4 88 [.ref (ga G 15), .int a1] WX G S R S := by
  refine g_met RX3 (cc := cX3_risesHeldBy) (nL := 4) (ret := (some .int)) (by decide) rfl rfl (Nat.le_of_ble_eq_true rfl) ?_
  intro p e s m below meth c ls X E hP hS hl
  have hl : lv_has ls 4 [(0, .ref (ga G 15)), (1, .int a1)] := hl
  obtain ⟨hx, hb, -, -, hown, hts, -⟩ := id X
  rw [fX3_risesHeldBy_now] at hf
  refine lv_iconst (v := 0) hx hb dX3_risesHeldBy_0 (by decide) ?_
  refine lv_istore_n (lv' := [(2, .int (0 : Int32)), (0, .ref (ga G 15)), (1, .int a1)]) hx hb dX3_risesHeldBy_1 rfl hl (by decide) rfl (fun ls hl => ?_)
  refine lv_iconst (v := 0) hx hb dX3_risesHeldBy_2 (by decide) ?_
  refine lv_istore_n (lv' := [(3, .int (0 : Int32)), (2, .int (0 : Int32)), (0, .ref (ga G 15)), (1, .int a1)]) hx hb dX3_risesHeldBy_3 rfl hl (by decide) rfl (fun ls hl => ?_)
  obtain ⟨u7, h8, hf⟩ := g_bind hf
  refine bX3_risesHeldBy_now_4 X E gFuel _ _ _ _ u7 _ _ _ h8 hP hS (lv_sub hl [2, 3, 1, 0] rfl) (fun H locs ls hP hS hl => ?_)
  have hl : lv_has ls 4 [(2, .int u7)] := hl
  refine lv_iload_n hx hb dX3_risesHeldBy_37 rfl (lv_at hl 0 rfl) ?_
  obtain rfl := g_some hf
  exact g_ri X E hP hS dX3_risesHeldBy_38
theorem lkX8_crooked_0 : Cond.fieldLink RX8 19 RX8 "now" "LBackToTheFirstStone$Loop;" ∈ wsX8_crooked := by decide +kernel
theorem lkX8_crooked_1 : Cond.methodLink RX8 188 Lib.Math.abs.name ∈ wsX8_crooked := by decide +kernel
theorem lkX8_crooked_2 : Cond.static Lib.Math.abs.name ∈ wsX8_crooked := by decide +kernel
theorem lkX8_crooked_3 : Cond.initialized "java/lang/Math" ∈ wsX8_crooked := by decide +kernel
theorem lkX8_crooked_4 : Cond.code Lib.Math.abs.name Lib.Math.abs.code 1 (some .int) ∈ wsX8_crooked := by decide +kernel
theorem lkX8_crooked_5 : Cond.constant RX8 125 (-1000000 : Int32) ∈ wsX8_crooked := by decide +kernel
theorem inX8_crooked_X8 : ∀ w ∈ wsX80, w ∈ wsX8_crooked := by decide +kernel
def fX8_crooked_44 : Nat → GS → Int32 → Int32 → Option Int32
  | 0, _, _, _ => none
  | fu + 1, S, v3, v4 =>
    if (4 : Int32) ≤ v4 then
      some v3
    else
      (fX3_risesHeldBy_now S v4).bind fun u6 =>
      (fX3_risesHeldBy_now S v3).bind fun u8 =>
      if (if 0 ≤ u6 then u6 else 0 - u6) ≤ (if 0 ≤ u8 then u8 else 0 - u8) then
        fX8_crooked_44 fu S v3 (v4 + 1)
      else
        fX8_crooked_44 fu S v4 (v4 + 1)
set_option maxHeartbeats 4000000 in
set_option maxRecDepth 100000 in
theorem bX8_crooked_44 {p : Program} {l : Launch} {e : Env} {s : State} {m : MethodId} {args : Array Value} {below : List Frame} {meth : Method} {c : Code} {Q : State → Prop} {G : GP} (X : GX p s m meth c args cX8_crooked 5 (some .int) wsX8_crooked RX8) (E : gE WX G s) {v1 : Int32} : ∀ (fu : Nat) (S : GS) (v3 : Int32) (v4 : Int32) (R : Int32) (H : Heap) (locs : List Loc) (ls : Array Slot) (_ : fX8_crooked_44 fu S v3 v4 = some R) (_ : va_P (gD G) vwCl (WX G S ++ gF G) H) (_ : va_S (gA G) s.heap H locs) (_ : lv_has ls 5 [(0, .ref (ga G 63)), (1, .int v1), (3, .int v3), (4, .int v4)]) (_ : ∀ (H : Heap) (locs : List Loc) (ls : Array Slot), va_P (gD G) vwCl (WX G S ++ gF G) H → va_S (gA G) s.heap H locs → lv_has ls 5 [(0, .ref (ga G 63)), (1, .int v1), (3, .int R)] → W p l e (gR 5 111) s m args below meth c H locs 0 0 Q (F0 m 85 ls [])), W p l e (gR 5 111) s m args below meth c H locs 0 0 Q (F0 m 44 ls []) := by
  obtain ⟨hx, hb, -, -, hown, hts, -⟩ := id X
  intro fu
  induction fu with
  | zero =>
    intro S v3 v4 R H locs ls hf
    cases (show (none : Option Int32) = some R from hf)
  | succ fu ih =>
    intro S v3 v4 R H locs ls hf hP hS hl kk
    rw [fX8_crooked_44] at hf
    refine lv_iload hx hb dX8_crooked_44 (lv_at hl 3 rfl) ?_
    refine lv_iconst (v := 4) hx hb dX8_crooked_46 (by decide) ?_
    refine lv_icmp_ge (tgt := 85) hx hb dX8_crooked_47 (by decide) (fun c5 => ?_) (fun c5 => ?_)
    · have hf := g_ift hf c5
      obtain rfl := g_some hf
      exact kk _ _ _ hP hS (lv_sub hl [0, 1, 2] rfl)
    · have hf := g_iff hf c5
      refine lv_aload_n hx hb dX8_crooked_50 rfl (lv_at hl 0 rfl) ?_
      refine ggX_49 X E hP inX8_crooked_X8 lkX8_crooked_0 dX8_crooked_51 ?_
      refine lv_iload hx hb dX8_crooked_54 (lv_at hl 3 rfl) ?_
      obtain ⟨u6, h7, hf⟩ := g_bind hf
      refine g_vi (rest := []) X E hP hS (tcX3_risesHeldBy_now l G _ _ h7) (g_cwV X gX8_crooked_X3_risesHeldBy rfl hdX3_risesHeldBy ⟨Nat.le_of_ble_eq_true rfl, Nat.le_of_ble_eq_true rfl⟩) (rcX_now E hP) rfl hl.1 rfl (Nat.le_of_ble_eq_true rfl) dX8_crooked_56 ⟨Nat.le_refl _, Nat.le_refl _⟩ (fun H locs hP hS => ?_)
      refine va_mabs hx hb (X.2.2.1.trans hl.1.symm) hown (hts _ lkX8_crooked_1) (hts _ lkX8_crooked_2) (hts _ lkX8_crooked_3) (hts _ lkX8_crooked_4) (Nat.le_of_ble_eq_true rfl) (Nat.le_of_ble_eq_true rfl) (Nat.le_refl _) (Nat.le_refl _) dX8_crooked_59 ?_
      refine lv_aload_n hx hb dX8_crooked_62 rfl (lv_at hl 0 rfl) ?_
      refine ggX_49 X E hP inX8_crooked_X8 lkX8_crooked_0 dX8_crooked_63 ?_
      refine lv_iload_n hx hb dX8_crooked_66 rfl (lv_at hl 2 rfl) ?_
      obtain ⟨u8, h9, hf⟩ := g_bind hf
      refine g_vi (rest := [.int (if 0 ≤ u6 then u6 else 0 - u6)]) X E hP hS (tcX3_risesHeldBy_now l G _ _ h9) (g_cwV X gX8_crooked_X3_risesHeldBy rfl hdX3_risesHeldBy ⟨Nat.le_of_ble_eq_true rfl, Nat.le_of_ble_eq_true rfl⟩) (rcX_now E hP) rfl hl.1 rfl (Nat.le_of_ble_eq_true rfl) dX8_crooked_67 ⟨Nat.le_refl _, Nat.le_refl _⟩ (fun H locs hP hS => ?_)
      refine va_mabs hx hb (X.2.2.1.trans hl.1.symm) hown (hts _ lkX8_crooked_1) (hts _ lkX8_crooked_2) (hts _ lkX8_crooked_3) (hts _ lkX8_crooked_4) (Nat.le_of_ble_eq_true rfl) (Nat.le_of_ble_eq_true rfl) (Nat.le_refl _) (Nat.le_refl _) dX8_crooked_70 ?_
      refine lv_icmp_le (tgt := 79) hx hb dX8_crooked_73 (by decide) (fun c10 => ?_) (fun c10 => ?_)
      · have hf := g_ift hf c10
        refine lv_iinc (v := (v4 + 1)) (lv' := [(4, .int (v4 + 1)), (0, .ref (ga G 63)), (1, .int v1), (3, .int v3)]) hx hb dX8_crooked_79 hl (k := 3) rfl rfl (by decide) rfl (fun ls hl => ?_)
        refine lv_goto (tgt := 44) hx hb dX8_crooked_82 (by decide) ?_
        exact ih _ _ _ _ _ _ _ hf hP hS (lv_sub hl [1, 2, 3, 0] rfl) kk
      · have hf := g_iff hf c10
        refine lv_iload hx hb dX8_crooked_76 (lv_at hl 3 rfl) ?_
        refine lv_istore_n (lv' := [(3, .int v4), (0, .ref (ga G 63)), (1, .int v1), (4, .int v4)]) hx hb dX8_crooked_78 rfl hl (by decide) rfl (fun ls hl => ?_)
        refine lv_iinc (v := (v4 + 1)) (lv' := [(4, .int (v4 + 1)), (3, .int v4), (0, .ref (ga G 63)), (1, .int v1)]) hx hb dX8_crooked_79 hl (k := 3) rfl rfl (by decide) rfl (fun ls hl => ?_)
        refine lv_goto (tgt := 44) hx hb dX8_crooked_82 (by decide) ?_
        exact ih _ _ _ _ _ _ _ hf hP hS (lv_sub hl [2, 3, 1, 0] rfl) kk
def fX8_crooked_L29 (S : GS)  : Option (Int32 × GS) :=
  (fX8_refuse S (-5 : Int32)).bind fun u16 =>
  some (((-1000000 : Int32) + u16.1), u16.2)
set_option maxHeartbeats 4000000 in
set_option maxRecDepth 100000 in
theorem bX8_crooked_L29 {p : Program} {l : Launch} {e : Env} {s : State} {m : MethodId} {args : Array Value} {below : List Frame} {meth : Method} {c : Code} {G : GP} (X : GX p s m meth c args cX8_crooked 5 (some .int) wsX8_crooked RX8) (E : gE WX G s) (S : GS)  (R : (Int32 × GS)) (H : Heap) (locs : List Loc) (ls : Array Slot) (hf : fX8_crooked_L29 S  = some R) (hP : va_P (gD G) vwCl (WX G S ++ gF G) H) (hS : va_S (gA G) s.heap H locs) (hl : lv_has ls 5 [(0, .ref (ga G 63))]) : W p l e (gR 5 111) s m args below meth c H locs 0 0 (MQ below (gQi WX G R.1 R.2) args s 0 0 (gA G)) (F0 m 29 ls []) := by
  obtain ⟨hx, hb, -, -, hown, hts, -⟩ := id X
  rw [fX8_crooked_L29] at hf
  refine lv_ldc hx hb hown (hts _ lkX8_crooked_5) dX8_crooked_29 ?_
  refine lv_aload_n hx hb dX8_crooked_31 rfl (lv_at hl 0 rfl) ?_
  refine lv_bipush (v := -5) hx hb dX8_crooked_32 (by decide) ?_
  obtain ⟨u16, h17, hf⟩ := g_bind hf
  refine g_vi (rest := [.int (-1000000 : Int32)]) X E hP hS (tcX8_refuse l G _ _ h17) (g_cwV X gX8_crooked_X8_refuse rfl hdX8_refuse ⟨Nat.le_of_ble_eq_true rfl, Nat.le_of_ble_eq_true rfl⟩) (rcX_main E hP) rfl hl.1 rfl (Nat.le_of_ble_eq_true rfl) dX8_crooked_34 ⟨Nat.le_refl _, Nat.le_refl _⟩ (fun H locs hP hS => ?_)
  refine lv_iadd hx hb dX8_crooked_37 ?_
  obtain rfl := g_some hf
  exact g_ri X E hP hS dX8_crooked_38
def fX8_crooked_L9 (S : GS) (v1 : Int32) : Option (Int32 × GS) :=
  (fX3_count_now S).bind fun u2 =>
  if u2 = 0 then
    fX8_crooked_L29 S
  else
    (fX8_crooked_44 gFuel S (0 : Int32) (1 : Int32)).bind fun u11 =>
    if v1 = 0 then
      some (u11, S)
    else
      (fX3_risesHeldBy_now S u11).bind fun u14 =>
      some (u14, S)
set_option maxHeartbeats 4000000 in
set_option maxRecDepth 100000 in
theorem bX8_crooked_L9 {p : Program} {l : Launch} {e : Env} {s : State} {m : MethodId} {args : Array Value} {below : List Frame} {meth : Method} {c : Code} {G : GP} (X : GX p s m meth c args cX8_crooked 5 (some .int) wsX8_crooked RX8) (E : gE WX G s) (S : GS) (v1 : Int32) (R : (Int32 × GS)) (H : Heap) (locs : List Loc) (ls : Array Slot) (hf : fX8_crooked_L9 S v1 = some R) (hP : va_P (gD G) vwCl (WX G S ++ gF G) H) (hS : va_S (gA G) s.heap H locs) (hl : lv_has ls 5 [(0, .ref (ga G 63)), (1, .int v1)]) : W p l e (gR 5 111) s m args below meth c H locs 0 0 (MQ below (gQi WX G R.1 R.2) args s 0 0 (gA G)) (F0 m 9 ls []) := by
  obtain ⟨hx, hb, -, -, hown, hts, -⟩ := id X
  rw [fX8_crooked_L9] at hf
  refine lv_iconst (v := 1) hx hb dX8_crooked_9 (by decide) ?_
  refine lv_goto (tgt := 14) hx hb dX8_crooked_10 (by decide) ?_
  refine lv_istore_n (lv' := [(2, .int (1 : Int32)), (0, .ref (ga G 63)), (1, .int v1)]) hx hb dX8_crooked_14 rfl hl (by decide) rfl (fun ls hl => ?_)
  refine lv_iload_n hx hb dX8_crooked_15 rfl (lv_at hl 0 rfl) ?_
  refine lv_if_eq (tgt := 29) hx hb dX8_crooked_16 (by decide) (fun z => absurd z (by decide)) (fun _ => ?_)
  refine lv_aload_n hx hb dX8_crooked_19 rfl (lv_at hl 1 rfl) ?_
  refine ggX_49 X E hP inX8_crooked_X8 lkX8_crooked_0 dX8_crooked_20 ?_
  obtain ⟨u2, h3, hf⟩ := g_bind hf
  refine g_vi (rest := []) X E hP hS (tcX3_count_now l G _  h3) (g_cwV X gX8_crooked_X3_count rfl hdX3_count ⟨Nat.le_of_ble_eq_true rfl, Nat.le_of_ble_eq_true rfl⟩) (rcX_now E hP) rfl hl.1 rfl (Nat.le_of_ble_eq_true rfl) dX8_crooked_23 ⟨Nat.le_refl _, Nat.le_refl _⟩ (fun H locs hP hS => ?_)
  refine lv_if_ne (tgt := 39) hx hb dX8_crooked_26 (by decide) (fun c4 => ?_) (fun c4 => ?_)
  · have hf := g_iff hf c4
    refine lv_iconst (v := 0) hx hb dX8_crooked_39 (by decide) ?_
    refine lv_istore_n (lv' := [(3, .int (0 : Int32)), (2, .int (1 : Int32)), (0, .ref (ga G 63)), (1, .int v1)]) hx hb dX8_crooked_40 rfl hl (by decide) rfl (fun ls hl => ?_)
    refine lv_iconst (v := 1) hx hb dX8_crooked_41 (by decide) ?_
    refine lv_istore (lv' := [(4, .int (1 : Int32)), (3, .int (0 : Int32)), (2, .int (1 : Int32)), (0, .ref (ga G 63)), (1, .int v1)]) hx hb dX8_crooked_42 hl (by decide) rfl (fun ls hl => ?_)
    obtain ⟨u11, h12, hf⟩ := g_bind hf
    refine bX8_crooked_44 X E gFuel _ _ _ u11 _ _ _ h12 hP hS (lv_sub hl [3, 4, 1, 0] rfl) (fun H locs ls hP hS hl => ?_)
    have hl : lv_has ls 5 [(0, .ref (ga G 63)), (1, .int v1), (3, .int u11)] := hl
    refine lv_iload_n hx hb dX8_crooked_85 rfl (lv_at hl 1 rfl) ?_
    refine lv_if_ne (tgt := 93) hx hb dX8_crooked_86 (by decide) (fun c13 => ?_) (fun c13 => ?_)
    · have hf := g_iff hf c13
      refine lv_aload_n hx hb dX8_crooked_93 rfl (lv_at hl 0 rfl) ?_
      refine ggX_49 X E hP inX8_crooked_X8 lkX8_crooked_0 dX8_crooked_94 ?_
      refine lv_iload_n hx hb dX8_crooked_97 rfl (lv_at hl 2 rfl) ?_
      obtain ⟨u14, h15, hf⟩ := g_bind hf
      refine g_vi (rest := []) X E hP hS (tcX3_risesHeldBy_now l G _ _ h15) (g_cwV X gX8_crooked_X3_risesHeldBy rfl hdX3_risesHeldBy ⟨Nat.le_of_ble_eq_true rfl, Nat.le_of_ble_eq_true rfl⟩) (rcX_now E hP) rfl hl.1 rfl (Nat.le_of_ble_eq_true rfl) dX8_crooked_98 ⟨Nat.le_refl _, Nat.le_refl _⟩ (fun H locs hP hS => ?_)
      obtain rfl := g_some hf
      exact g_ri X E hP hS dX8_crooked_101
    · have hf := g_ift hf c13
      refine lv_iload_n hx hb dX8_crooked_89 rfl (lv_at hl 2 rfl) ?_
      refine lv_goto (tgt := 101) hx hb dX8_crooked_90 (by decide) ?_
      obtain rfl := g_some hf
      exact g_ri X E hP hS dX8_crooked_101
  · have hf := g_ift hf c4
    exact bX8_crooked_L29 X E _ _ _ _ _ hf hP hS (lv_sub hl [1] rfl)
def fX8_crooked (S : GS) (a1 : Int32) : Option (Int32 × GS) :=
  if a1 = 0 then
    fX8_crooked_L9 S a1
  else
    if a1 = (1 : Int32) then
      fX8_crooked_L9 S a1
    else
      fX8_crooked_L29 S
set_option maxHeartbeats 4000000 in
set_option maxRecDepth 100000 in
theorem tcX8_crooked (l : Launch) (G : GP) (S : GS) (a1 : Int32) {R : (Int32 × GS)} (hf : fX8_crooked S a1 = some R) : CI l yX8_crooked wsX8_crooked 5 111 [.ref (ga G 63), .int a1] WX G S R.1 R.2 := by
  refine g_met RX8 (cc := cX8_crooked) (nL := 5) (ret := (some .int)) (by decide) rfl rfl (Nat.le_of_ble_eq_true rfl) ?_
  intro p e s m below meth c ls X E hP hS hl
  have hl : lv_has ls 5 [(0, .ref (ga G 63)), (1, .int a1)] := hl
  obtain ⟨hx, hb, -, -, hown, hts, -⟩ := id X
  rw [fX8_crooked] at hf
  refine lv_iload_n hx hb dX8_crooked_0 rfl (lv_at hl 1 rfl) ?_
  refine lv_if_eq (tgt := 9) hx hb dX8_crooked_1 (by decide) (fun c1 => ?_) (fun c1 => ?_)
  · have hf := g_ift hf c1
    exact bX8_crooked_L9 X E _ _ _ _ _ _ hf hP hS (lv_sub hl [0, 1] rfl)
  · have hf := g_iff hf c1
    refine lv_iload_n hx hb dX8_crooked_4 rfl (lv_at hl 1 rfl) ?_
    refine lv_iconst (v := 1) hx hb dX8_crooked_5 (by decide) ?_
    refine lv_icmp_ne (tgt := 13) hx hb dX8_crooked_6 (by decide) (fun c18 => ?_) (fun c18 => ?_)
    · have hf := g_iff hf c18
      refine lv_iconst (v := 0) hx hb dX8_crooked_13 (by decide) ?_
      refine lv_istore_n (lv' := [(2, .int (0 : Int32)), (0, .ref (ga G 63)), (1, .int a1)]) hx hb dX8_crooked_14 rfl hl (by decide) rfl (fun ls hl => ?_)
      refine lv_iload_n hx hb dX8_crooked_15 rfl (lv_at hl 0 rfl) ?_
      refine lv_if_eq (tgt := 29) hx hb dX8_crooked_16 (by decide) (fun _ => ?_) (fun z => absurd z (by decide))
      exact bX8_crooked_L29 X E _ _ _ _ _ hf hP hS (lv_sub hl [1] rfl)
    · have hf := g_ift hf c18
      exact bX8_crooked_L9 X E _ _ _ _ _ _ hf hP hS (lv_sub hl [0, 1] rfl)
theorem lkX8_most_0 : Cond.fieldLink RX8 19 RX8 "now" "LBackToTheFirstStone$Loop;" ∈ wsX8_most := by decide +kernel
theorem lkX8_most_1 : Cond.methodLink RX8 188 Lib.Math.abs.name ∈ wsX8_most := by decide +kernel
theorem lkX8_most_2 : Cond.static Lib.Math.abs.name ∈ wsX8_most := by decide +kernel
theorem lkX8_most_3 : Cond.initialized "java/lang/Math" ∈ wsX8_most := by decide +kernel
theorem lkX8_most_4 : Cond.code Lib.Math.abs.name Lib.Math.abs.code 1 (some .int) ∈ wsX8_most := by decide +kernel
theorem inX8_most_X8 : ∀ w ∈ wsX80, w ∈ wsX8_most := by decide +kernel
def fX8_most_41 : Nat → GS → Int32 → Int32 → Int32 → Option Int32
  | 0, _, _, _, _ => none
  | fu + 1, S, v1, v3, v4 =>
    (fX3_count_now S).bind fun u5 =>
    if u5 ≤ v4 then
      some v3
    else
      if v1 = 0 then
        (fX3_yardsOf_now S v4).bind fun u14 =>
        (fX3_yardsOf_now S v3).bind fun u16 =>
        if u14 ≤ u16 then
          fX8_most_41 fu S v1 v3 (v4 + 1)
        else
          fX8_most_41 fu S v1 v4 (v4 + 1)
      else
        (fX3_bookedOf_now S v4).bind fun u9 =>
        (fX3_bookedOf_now S v3).bind fun u11 =>
        if (if 0 ≤ u9 then u9 else 0 - u9) ≤ (if 0 ≤ u11 then u11 else 0 - u11) then
          fX8_most_41 fu S v1 v3 (v4 + 1)
        else
          fX8_most_41 fu S v1 v4 (v4 + 1)
set_option maxHeartbeats 4000000 in
set_option maxRecDepth 100000 in
theorem bX8_most_41 {p : Program} {l : Launch} {e : Env} {s : State} {m : MethodId} {args : Array Value} {below : List Frame} {meth : Method} {c : Code} {Q : State → Prop} {G : GP} (X : GX p s m meth c args cX8_most 6 (some .int) wsX8_most RX8) (E : gE WX G s)  : ∀ (fu : Nat) (S : GS) (v1 : Int32) (v3 : Int32) (v4 : Int32) (R : Int32) (H : Heap) (locs : List Loc) (ls : Array Slot) (_ : fX8_most_41 fu S v1 v3 v4 = some R) (_ : va_P (gD G) vwCl (WX G S ++ gF G) H) (_ : va_S (gA G) s.heap H locs) (_ : lv_has ls 6 [(0, .ref (ga G 63)), (1, .int v1), (3, .int v3), (4, .int v4)]) (_ : ∀ (H : Heap) (locs : List Loc) (ls : Array Slot), va_P (gD G) vwCl (WX G S ++ gF G) H → va_S (gA G) s.heap H locs → lv_has ls 6 [(3, .int R)] → W p l e (gR 2 64) s m args below meth c H locs 0 0 Q (F0 m 132 ls [])), W p l e (gR 2 64) s m args below meth c H locs 0 0 Q (F0 m 41 ls []) := by
  obtain ⟨hx, hb, -, -, hown, hts, -⟩ := id X
  intro fu
  induction fu with
  | zero =>
    intro S v1 v3 v4 R H locs ls hf
    cases (show (none : Option Int32) = some R from hf)
  | succ fu ih =>
    intro S v1 v3 v4 R H locs ls hf hP hS hl kk
    rw [fX8_most_41] at hf
    refine lv_iload hx hb dX8_most_41 (lv_at hl 3 rfl) ?_
    refine lv_aload_n hx hb dX8_most_43 rfl (lv_at hl 0 rfl) ?_
    refine ggX_49 X E hP inX8_most_X8 lkX8_most_0 dX8_most_44 ?_
    obtain ⟨u5, h6, hf⟩ := g_bind hf
    refine g_vi (rest := [.int v4]) X E hP hS (tcX3_count_now l G _  h6) (g_cwV X gX8_most_X3_count rfl hdX3_count ⟨Nat.le_of_ble_eq_true rfl, Nat.le_of_ble_eq_true rfl⟩) (rcX_now E hP) rfl hl.1 rfl (Nat.le_of_ble_eq_true rfl) dX8_most_47 ⟨Nat.le_refl _, Nat.le_refl _⟩ (fun H locs hP hS => ?_)
    refine lv_icmp_ge (tgt := 132) hx hb dX8_most_50 (by decide) (fun c7 => ?_) (fun c7 => ?_)
    · have hf := g_ift hf c7
      obtain rfl := g_some hf
      exact kk _ _ _ hP hS (lv_sub hl [2] rfl)
    · have hf := g_iff hf c7
      refine lv_iload_n hx hb dX8_most_53 rfl (lv_at hl 1 rfl) ?_
      refine lv_if_ne (tgt := 85) hx hb dX8_most_54 (by decide) (fun c8 => ?_) (fun c8 => ?_)
      · have hf := g_iff hf c8
        refine lv_aload_n hx hb dX8_most_85 rfl (lv_at hl 0 rfl) ?_
        refine ggX_49 X E hP inX8_most_X8 lkX8_most_0 dX8_most_86 ?_
        refine lv_iload hx hb dX8_most_89 (lv_at hl 3 rfl) ?_
        obtain ⟨u9, h10, hf⟩ := g_bind hf
        refine g_vi (rest := []) X E hP hS (tcX3_bookedOf_now l G _ _ h10) (g_cwV X gX8_most_X3_bookedOf rfl hdX3_bookedOf ⟨Nat.le_of_ble_eq_true rfl, Nat.le_of_ble_eq_true rfl⟩) (rcX_now E hP) rfl hl.1 rfl (Nat.le_of_ble_eq_true rfl) dX8_most_91 ⟨Nat.le_refl _, Nat.le_refl _⟩ (fun H locs hP hS => ?_)
        refine va_mabs hx hb (X.2.2.1.trans hl.1.symm) hown (hts _ lkX8_most_1) (hts _ lkX8_most_2) (hts _ lkX8_most_3) (hts _ lkX8_most_4) (Nat.le_of_ble_eq_true rfl) (Nat.le_of_ble_eq_true rfl) (Nat.le_refl _) (Nat.le_refl _) dX8_most_94 ?_
        refine lv_aload_n hx hb dX8_most_97 rfl (lv_at hl 0 rfl) ?_
        refine ggX_49 X E hP inX8_most_X8 lkX8_most_0 dX8_most_98 ?_
        refine lv_iload_n hx hb dX8_most_101 rfl (lv_at hl 2 rfl) ?_
        obtain ⟨u11, h12, hf⟩ := g_bind hf
        refine g_vi (rest := [.int (if 0 ≤ u9 then u9 else 0 - u9)]) X E hP hS (tcX3_bookedOf_now l G _ _ h12) (g_cwV X gX8_most_X3_bookedOf rfl hdX3_bookedOf ⟨Nat.le_of_ble_eq_true rfl, Nat.le_of_ble_eq_true rfl⟩) (rcX_now E hP) rfl hl.1 rfl (Nat.le_of_ble_eq_true rfl) dX8_most_102 ⟨Nat.le_refl _, Nat.le_refl _⟩ (fun H locs hP hS => ?_)
        refine va_mabs hx hb (X.2.2.1.trans hl.1.symm) hown (hts _ lkX8_most_1) (hts _ lkX8_most_2) (hts _ lkX8_most_3) (hts _ lkX8_most_4) (Nat.le_of_ble_eq_true rfl) (Nat.le_of_ble_eq_true rfl) (Nat.le_refl _) (Nat.le_refl _) dX8_most_105 ?_
        refine lv_icmp_le (tgt := 115) hx hb dX8_most_108 (by decide) (fun c13 => ?_) (fun c13 => ?_)
        · have hf := g_ift hf c13
          refine lv_iconst (v := 0) hx hb dX8_most_115 (by decide) ?_
          refine lv_istore (lv' := [(5, .int (0 : Int32)), (0, .ref (ga G 63)), (1, .int v1), (3, .int v3), (4, .int v4)]) hx hb dX8_most_116 hl (by decide) rfl (fun ls hl => ?_)
          refine lv_iload hx hb dX8_most_118 (lv_at hl 0 rfl) ?_
          refine lv_if_eq (tgt := 126) hx hb dX8_most_120 (by decide) (fun _ => ?_) (fun z => absurd z (by decide))
          refine lv_iinc (v := (v4 + 1)) (lv' := [(4, .int (v4 + 1)), (5, .int (0 : Int32)), (0, .ref (ga G 63)), (1, .int v1), (3, .int v3)]) hx hb dX8_most_126 hl (k := 4) rfl rfl (by decide) rfl (fun ls hl => ?_)
          refine lv_goto (tgt := 41) hx hb dX8_most_129 (by decide) ?_
          exact ih _ _ _ _ _ _ _ _ hf hP hS (lv_sub hl [2, 3, 4, 0] rfl) kk
        · have hf := g_iff hf c13
          refine lv_iconst (v := 1) hx hb dX8_most_111 (by decide) ?_
          refine lv_goto (tgt := 116) hx hb dX8_most_112 (by decide) ?_
          refine lv_istore (lv' := [(5, .int (1 : Int32)), (0, .ref (ga G 63)), (1, .int v1), (3, .int v3), (4, .int v4)]) hx hb dX8_most_116 hl (by decide) rfl (fun ls hl => ?_)
          refine lv_iload hx hb dX8_most_118 (lv_at hl 0 rfl) ?_
          refine lv_if_eq (tgt := 126) hx hb dX8_most_120 (by decide) (fun z => absurd z (by decide)) (fun _ => ?_)
          refine lv_iload hx hb dX8_most_123 (lv_at hl 4 rfl) ?_
          refine lv_istore_n (lv' := [(3, .int v4), (5, .int (1 : Int32)), (0, .ref (ga G 63)), (1, .int v1), (4, .int v4)]) hx hb dX8_most_125 rfl hl (by decide) rfl (fun ls hl => ?_)
          refine lv_iinc (v := (v4 + 1)) (lv' := [(4, .int (v4 + 1)), (3, .int v4), (5, .int (1 : Int32)), (0, .ref (ga G 63)), (1, .int v1)]) hx hb dX8_most_126 hl (k := 4) rfl rfl (by decide) rfl (fun ls hl => ?_)
          refine lv_goto (tgt := 41) hx hb dX8_most_129 (by decide) ?_
          exact ih _ _ _ _ _ _ _ _ hf hP hS (lv_sub hl [3, 4, 1, 0] rfl) kk
      · have hf := g_ift hf c8
        refine lv_aload_n hx hb dX8_most_57 rfl (lv_at hl 0 rfl) ?_
        refine ggX_49 X E hP inX8_most_X8 lkX8_most_0 dX8_most_58 ?_
        refine lv_iload hx hb dX8_most_61 (lv_at hl 3 rfl) ?_
        obtain ⟨u14, h15, hf⟩ := g_bind hf
        refine g_vi (rest := []) X E hP hS (tcX3_yardsOf_now l G _ _ h15) (g_cwV X gX8_most_X3_yardsOf rfl hdX3_yardsOf ⟨Nat.le_of_ble_eq_true rfl, Nat.le_of_ble_eq_true rfl⟩) (rcX_now E hP) rfl hl.1 rfl (Nat.le_of_ble_eq_true rfl) dX8_most_63 ⟨Nat.le_refl _, Nat.le_refl _⟩ (fun H locs hP hS => ?_)
        refine lv_aload_n hx hb dX8_most_66 rfl (lv_at hl 0 rfl) ?_
        refine ggX_49 X E hP inX8_most_X8 lkX8_most_0 dX8_most_67 ?_
        refine lv_iload_n hx hb dX8_most_70 rfl (lv_at hl 2 rfl) ?_
        obtain ⟨u16, h17, hf⟩ := g_bind hf
        refine g_vi (rest := [.int u14]) X E hP hS (tcX3_yardsOf_now l G _ _ h17) (g_cwV X gX8_most_X3_yardsOf rfl hdX3_yardsOf ⟨Nat.le_of_ble_eq_true rfl, Nat.le_of_ble_eq_true rfl⟩) (rcX_now E hP) rfl hl.1 rfl (Nat.le_of_ble_eq_true rfl) dX8_most_71 ⟨Nat.le_refl _, Nat.le_refl _⟩ (fun H locs hP hS => ?_)
        refine lv_icmp_le (tgt := 81) hx hb dX8_most_74 (by decide) (fun c18 => ?_) (fun c18 => ?_)
        · have hf := g_ift hf c18
          refine lv_iconst (v := 0) hx hb dX8_most_81 (by decide) ?_
          refine lv_goto (tgt := 116) hx hb dX8_most_82 (by decide) ?_
          refine lv_istore (lv' := [(5, .int (0 : Int32)), (0, .ref (ga G 63)), (1, .int v1), (3, .int v3), (4, .int v4)]) hx hb dX8_most_116 hl (by decide) rfl (fun ls hl => ?_)
          refine lv_iload hx hb dX8_most_118 (lv_at hl 0 rfl) ?_
          refine lv_if_eq (tgt := 126) hx hb dX8_most_120 (by decide) (fun _ => ?_) (fun z => absurd z (by decide))
          refine lv_iinc (v := (v4 + 1)) (lv' := [(4, .int (v4 + 1)), (5, .int (0 : Int32)), (0, .ref (ga G 63)), (1, .int v1), (3, .int v3)]) hx hb dX8_most_126 hl (k := 4) rfl rfl (by decide) rfl (fun ls hl => ?_)
          refine lv_goto (tgt := 41) hx hb dX8_most_129 (by decide) ?_
          exact ih _ _ _ _ _ _ _ _ hf hP hS (lv_sub hl [2, 3, 4, 0] rfl) kk
        · have hf := g_iff hf c18
          refine lv_iconst (v := 1) hx hb dX8_most_77 (by decide) ?_
          refine lv_goto (tgt := 116) hx hb dX8_most_78 (by decide) ?_
          refine lv_istore (lv' := [(5, .int (1 : Int32)), (0, .ref (ga G 63)), (1, .int v1), (3, .int v3), (4, .int v4)]) hx hb dX8_most_116 hl (by decide) rfl (fun ls hl => ?_)
          refine lv_iload hx hb dX8_most_118 (lv_at hl 0 rfl) ?_
          refine lv_if_eq (tgt := 126) hx hb dX8_most_120 (by decide) (fun z => absurd z (by decide)) (fun _ => ?_)
          refine lv_iload hx hb dX8_most_123 (lv_at hl 4 rfl) ?_
          refine lv_istore_n (lv' := [(3, .int v4), (5, .int (1 : Int32)), (0, .ref (ga G 63)), (1, .int v1), (4, .int v4)]) hx hb dX8_most_125 rfl hl (by decide) rfl (fun ls hl => ?_)
          refine lv_iinc (v := (v4 + 1)) (lv' := [(4, .int (v4 + 1)), (3, .int v4), (5, .int (1 : Int32)), (0, .ref (ga G 63)), (1, .int v1)]) hx hb dX8_most_126 hl (k := 4) rfl rfl (by decide) rfl (fun ls hl => ?_)
          refine lv_goto (tgt := 41) hx hb dX8_most_129 (by decide) ?_
          exact ih _ _ _ _ _ _ _ _ hf hP hS (lv_sub hl [3, 4, 1, 0] rfl) kk
def fX8_most_L9 (S : GS) (v1 : Int32) : Option (Int32 × GS) :=
  (fX3_count_now S).bind fun u2 =>
  if u2 = 0 then
    (fX8_refuse S (-5 : Int32)).bind fun u21 =>
    some (u21.1, u21.2)
  else
    (fX8_most_41 gFuel S v1 (0 : Int32) (1 : Int32)).bind fun u19 =>
    some (u19, S)
set_option maxHeartbeats 4000000 in
set_option maxRecDepth 100000 in
theorem bX8_most_L9 {p : Program} {l : Launch} {e : Env} {s : State} {m : MethodId} {args : Array Value} {below : List Frame} {meth : Method} {c : Code} {G : GP} (X : GX p s m meth c args cX8_most 6 (some .int) wsX8_most RX8) (E : gE WX G s) (S : GS) (v1 : Int32) (R : (Int32 × GS)) (H : Heap) (locs : List Loc) (ls : Array Slot) (hf : fX8_most_L9 S v1 = some R) (hP : va_P (gD G) vwCl (WX G S ++ gF G) H) (hS : va_S (gA G) s.heap H locs) (hl : lv_has ls 6 [(0, .ref (ga G 63)), (1, .int v1)]) : W p l e (gR 2 64) s m args below meth c H locs 0 0 (MQ below (gQi WX G R.1 R.2) args s 0 0 (gA G)) (F0 m 9 ls []) := by
  obtain ⟨hx, hb, -, -, hown, hts, -⟩ := id X
  rw [fX8_most_L9] at hf
  refine lv_iconst (v := 1) hx hb dX8_most_9 (by decide) ?_
  refine lv_goto (tgt := 14) hx hb dX8_most_10 (by decide) ?_
  refine lv_istore_n (lv' := [(2, .int (1 : Int32)), (0, .ref (ga G 63)), (1, .int v1)]) hx hb dX8_most_14 rfl hl (by decide) rfl (fun ls hl => ?_)
  refine lv_iload_n hx hb dX8_most_15 rfl (lv_at hl 0 rfl) ?_
  refine lv_if_eq (tgt := 29) hx hb dX8_most_16 (by decide) (fun z => absurd z (by decide)) (fun _ => ?_)
  refine lv_aload_n hx hb dX8_most_19 rfl (lv_at hl 1 rfl) ?_
  refine ggX_49 X E hP inX8_most_X8 lkX8_most_0 dX8_most_20 ?_
  obtain ⟨u2, h3, hf⟩ := g_bind hf
  refine g_vi (rest := []) X E hP hS (tcX3_count_now l G _  h3) (g_cwV X gX8_most_X3_count rfl hdX3_count ⟨Nat.le_of_ble_eq_true rfl, Nat.le_of_ble_eq_true rfl⟩) (rcX_now E hP) rfl hl.1 rfl (Nat.le_of_ble_eq_true rfl) dX8_most_23 ⟨Nat.le_refl _, Nat.le_refl _⟩ (fun H locs hP hS => ?_)
  refine lv_if_ne (tgt := 36) hx hb dX8_most_26 (by decide) (fun c4 => ?_) (fun c4 => ?_)
  · have hf := g_iff hf c4
    refine lv_iconst (v := 0) hx hb dX8_most_36 (by decide) ?_
    refine lv_istore_n (lv' := [(3, .int (0 : Int32)), (2, .int (1 : Int32)), (0, .ref (ga G 63)), (1, .int v1)]) hx hb dX8_most_37 rfl hl (by decide) rfl (fun ls hl => ?_)
    refine lv_iconst (v := 1) hx hb dX8_most_38 (by decide) ?_
    refine lv_istore (lv' := [(4, .int (1 : Int32)), (3, .int (0 : Int32)), (2, .int (1 : Int32)), (0, .ref (ga G 63)), (1, .int v1)]) hx hb dX8_most_39 hl (by decide) rfl (fun ls hl => ?_)
    obtain ⟨u19, h20, hf⟩ := g_bind hf
    refine bX8_most_41 X E gFuel _ _ _ _ u19 _ _ _ h20 hP hS (lv_sub hl [3, 4, 1, 0] rfl) (fun H locs ls hP hS hl => ?_)
    have hl : lv_has ls 6 [(3, .int u19)] := hl
    refine lv_iload_n hx hb dX8_most_132 rfl (lv_at hl 0 rfl) ?_
    obtain rfl := g_some hf
    exact g_ri X E hP hS dX8_most_133
  · have hf := g_ift hf c4
    refine lv_aload_n hx hb dX8_most_29 rfl (lv_at hl 1 rfl) ?_
    refine lv_bipush (v := -5) hx hb dX8_most_30 (by decide) ?_
    obtain ⟨u21, h22, hf⟩ := g_bind hf
    refine g_vi (rest := []) X E hP hS (tcX8_refuse l G _ _ h22) (g_cwV X gX8_most_X8_refuse rfl hdX8_refuse ⟨Nat.le_of_ble_eq_true rfl, Nat.le_of_ble_eq_true rfl⟩) (rcX_main E hP) rfl hl.1 rfl (Nat.le_of_ble_eq_true rfl) dX8_most_32 ⟨Nat.le_refl _, Nat.le_refl _⟩ (fun H locs hP hS => ?_)
    obtain rfl := g_some hf
    exact g_ri X E hP hS dX8_most_35
def fX8_most (S : GS) (a1 : Int32) : Option (Int32 × GS) :=
  if a1 = 0 then
    fX8_most_L9 S a1
  else
    if a1 = (1 : Int32) then
      fX8_most_L9 S a1
    else
      (fX8_refuse S (-5 : Int32)).bind fun u24 =>
      some (u24.1, u24.2)
set_option maxHeartbeats 4000000 in
set_option maxRecDepth 100000 in
theorem tcX8_most (l : Launch) (G : GP) (S : GS) (a1 : Int32) {R : (Int32 × GS)} (hf : fX8_most S a1 = some R) : CI l yX8_most wsX8_most 2 64 [.ref (ga G 63), .int a1] WX G S R.1 R.2 := by
  refine g_met RX8 (cc := cX8_most) (nL := 6) (ret := (some .int)) (by decide) rfl rfl (Nat.le_of_ble_eq_true rfl) ?_
  intro p e s m below meth c ls X E hP hS hl
  have hl : lv_has ls 6 [(0, .ref (ga G 63)), (1, .int a1)] := hl
  obtain ⟨hx, hb, -, -, hown, hts, -⟩ := id X
  rw [fX8_most] at hf
  refine lv_iload_n hx hb dX8_most_0 rfl (lv_at hl 1 rfl) ?_
  refine lv_if_eq (tgt := 9) hx hb dX8_most_1 (by decide) (fun c1 => ?_) (fun c1 => ?_)
  · have hf := g_ift hf c1
    exact bX8_most_L9 X E _ _ _ _ _ _ hf hP hS (lv_sub hl [0, 1] rfl)
  · have hf := g_iff hf c1
    refine lv_iload_n hx hb dX8_most_4 rfl (lv_at hl 1 rfl) ?_
    refine lv_iconst (v := 1) hx hb dX8_most_5 (by decide) ?_
    refine lv_icmp_ne (tgt := 13) hx hb dX8_most_6 (by decide) (fun c23 => ?_) (fun c23 => ?_)
    · have hf := g_iff hf c23
      refine lv_iconst (v := 0) hx hb dX8_most_13 (by decide) ?_
      refine lv_istore_n (lv' := [(2, .int (0 : Int32)), (0, .ref (ga G 63)), (1, .int a1)]) hx hb dX8_most_14 rfl hl (by decide) rfl (fun ls hl => ?_)
      refine lv_iload_n hx hb dX8_most_15 rfl (lv_at hl 0 rfl) ?_
      refine lv_if_eq (tgt := 29) hx hb dX8_most_16 (by decide) (fun _ => ?_) (fun z => absurd z (by decide))
      refine lv_aload_n hx hb dX8_most_29 rfl (lv_at hl 1 rfl) ?_
      refine lv_bipush (v := -5) hx hb dX8_most_30 (by decide) ?_
      obtain ⟨u24, h25, hf⟩ := g_bind hf
      refine g_vi (rest := []) X E hP hS (tcX8_refuse l G _ _ h25) (g_cwV X gX8_most_X8_refuse rfl hdX8_refuse ⟨Nat.le_of_ble_eq_true rfl, Nat.le_of_ble_eq_true rfl⟩) (rcX_main E hP) rfl hl.1 rfl (Nat.le_of_ble_eq_true rfl) dX8_most_32 ⟨Nat.le_refl _, Nat.le_refl _⟩ (fun H locs hP hS => ?_)
      obtain rfl := g_some hf
      exact g_ri X E hP hS dX8_most_35
    · have hf := g_ift hf c23
      exact bX8_most_L9 X E _ _ _ _ _ _ hf hP hS (lv_sub hl [0, 1] rfl)
theorem lkX8_yardsInAll_0 : Cond.fieldLink RX8 19 RX8 "now" "LBackToTheFirstStone$Loop;" ∈ wsX8_yardsInAll := by decide +kernel
theorem inX8_yardsInAll_X8 : ∀ w ∈ wsX80, w ∈ wsX8_yardsInAll := by decide +kernel
def fX8_yardsInAll (S : GS)  : Option Int32 :=
  (fX3_count_now S).bind fun u1 =>
  (fX3_weightAheadOf_now S u1 (1 : Int32)).bind fun u3 =>
  some (u3).toInt32
set_option maxHeartbeats 4000000 in
set_option maxRecDepth 100000 in
theorem tcX8_yardsInAll (l : Launch) (G : GP) (S : GS)  {R : Int32} (hf : fX8_yardsInAll S  = some R) : CI l yX8_yardsInAll wsX8_yardsInAll 3 71 [.ref (ga G 63)] WX G S R S := by
  refine g_met RX8 (cc := cX8_yardsInAll) (nL := 1) (ret := (some .int)) (by decide) rfl rfl (Nat.le_of_ble_eq_true rfl) ?_
  intro p e s m below meth c ls X E hP hS hl
  have hl : lv_has ls 1 [(0, .ref (ga G 63))] := hl
  obtain ⟨hx, hb, -, -, hown, hts, -⟩ := id X
  rw [fX8_yardsInAll] at hf
  refine lv_aload_n hx hb dX8_yardsInAll_0 rfl (lv_at hl 0 rfl) ?_
  refine ggX_49 X E hP inX8_yardsInAll_X8 lkX8_yardsInAll_0 dX8_yardsInAll_1 ?_
  refine lv_aload_n hx hb dX8_yardsInAll_4 rfl (lv_at hl 0 rfl) ?_
  refine ggX_49 X E hP inX8_yardsInAll_X8 lkX8_yardsInAll_0 dX8_yardsInAll_5 ?_
  obtain ⟨u1, h2, hf⟩ := g_bind hf
  refine g_vi (rest := [.ref (ga G 15)]) X E hP hS (tcX3_count_now l G _  h2) (g_cwV X gX8_yardsInAll_X3_count rfl hdX3_count ⟨Nat.le_of_ble_eq_true rfl, Nat.le_of_ble_eq_true rfl⟩) (rcX_now E hP) rfl hl.1 rfl (Nat.le_of_ble_eq_true rfl) dX8_yardsInAll_8 ⟨Nat.le_refl _, Nat.le_refl _⟩ (fun H locs hP hS => ?_)
  refine lv_iconst (v := 1) hx hb dX8_yardsInAll_11 (by decide) ?_
  obtain ⟨u3, h4, hf⟩ := g_bind hf
  refine g_vl (rest := []) X E hP hS (tcX3_weightAheadOf_now l G _ _ _ h4) (g_cwV X gX8_yardsInAll_X3_weightAheadOf rfl hdX3_weightAheadOf ⟨Nat.le_of_ble_eq_true rfl, Nat.le_of_ble_eq_true rfl⟩) (rcX_now E hP) rfl hl.1 rfl (Nat.le_of_ble_eq_true rfl) dX8_yardsInAll_12 ⟨Nat.le_refl _, Nat.le_refl _⟩ (fun H locs hP hS => ?_)
  refine lv_l2i hx hb dX8_yardsInAll_15 rfl ?_
  obtain rfl := g_some hf
  exact g_ri X E hP hS dX8_yardsInAll_16
theorem lkX8_hours_0 : Cond.fieldLink RX8 19 RX8 "now" "LBackToTheFirstStone$Loop;" ∈ wsX8_hours := by decide +kernel
theorem inX8_hours_X8 : ∀ w ∈ wsX80, w ∈ wsX8_hours := by decide +kernel
def fX8_hours (S : GS)  : Option Int32 :=
  (fX8_yardsInAll S).bind fun u1 =>
  (fX3_count_now S).bind fun u3 =>
  some (((u1 + ((10 : Int32) * u3)) + (59 : Int32)) / (60 : Int32))
set_option maxHeartbeats 4000000 in
set_option maxRecDepth 100000 in
theorem tcX8_hours (l : Launch) (G : GP) (S : GS)  {R : Int32} (hf : fX8_hours S  = some R) : CI l yX8_hours wsX8_hours 4 91 [.ref (ga G 63)] WX G S R S := by
  refine g_met RX8 (cc := cX8_hours) (nL := 1) (ret := (some .int)) (by decide) rfl rfl (Nat.le_of_ble_eq_true rfl) ?_
  intro p e s m below meth c ls X E hP hS hl
  have hl : lv_has ls 1 [(0, .ref (ga G 63))] := hl
  obtain ⟨hx, hb, -, -, hown, hts, -⟩ := id X
  rw [fX8_hours] at hf
  refine lv_aload_n hx hb dX8_hours_0 rfl (lv_at hl 0 rfl) ?_
  obtain ⟨u1, h2, hf⟩ := g_bind hf
  refine g_vi (rest := []) X E hP hS (tcX8_yardsInAll l G _  h2) (g_cwV X gX8_hours_X8_yardsInAll rfl hdX8_yardsInAll ⟨Nat.le_of_ble_eq_true rfl, Nat.le_of_ble_eq_true rfl⟩) (rcX_main E hP) rfl hl.1 rfl (Nat.le_of_ble_eq_true rfl) dX8_hours_1 ⟨Nat.le_refl _, Nat.le_refl _⟩ (fun H locs hP hS => ?_)
  refine lv_bipush (v := 10) hx hb dX8_hours_4 (by decide) ?_
  refine lv_aload_n hx hb dX8_hours_6 rfl (lv_at hl 0 rfl) ?_
  refine ggX_49 X E hP inX8_hours_X8 lkX8_hours_0 dX8_hours_7 ?_
  obtain ⟨u3, h4, hf⟩ := g_bind hf
  refine g_vi (rest := [.int (10 : Int32), .int u1]) X E hP hS (tcX3_count_now l G _  h4) (g_cwV X gX8_hours_X3_count rfl hdX3_count ⟨Nat.le_of_ble_eq_true rfl, Nat.le_of_ble_eq_true rfl⟩) (rcX_now E hP) rfl hl.1 rfl (Nat.le_of_ble_eq_true rfl) dX8_hours_10 ⟨Nat.le_refl _, Nat.le_refl _⟩ (fun H locs hP hS => ?_)
  refine lv_imul hx hb dX8_hours_13 ?_
  refine lv_iadd hx hb dX8_hours_14 ?_
  refine lv_bipush (v := 59) hx hb dX8_hours_15 (by decide) ?_
  refine lv_iadd hx hb dX8_hours_17 ?_
  refine lv_bipush (v := 60) hx hb dX8_hours_18 (by decide) ?_
  refine lv_idiv hx hb dX8_hours_20 (by decide) ?_
  obtain rfl := g_some hf
  exact g_ri X E hP hS dX8_hours_21
theorem lkX8_bookRefusal_0 : Cond.constantLong RX8 294 (4 : Int64) ∈ wsX8_bookRefusal := by decide +kernel
theorem lkX8_bookRefusal_1 : Cond.fieldLink RX8 10 RX8 "shelves" "LBackToTheFirstStone$Shelves;" ∈ wsX8_bookRefusal := by decide +kernel
theorem inX8_bookRefusal_X8 : ∀ w ∈ wsX80, w ∈ wsX8_bookRefusal := by decide +kernel
def fX8_bookRefusal (S : GS) (a1 : Int32) (a2 : Int32) : Option Int32 :=
  (fX8_rowRefusal S a1).bind fun u1 =>
  if u1 = 0 then
    if 0 ≤ a2 then
      (fX5_lengthOf S a1).bind fun u5 =>
      if (lg_cmp ((4 : Int64) * (a2).toInt64) ((u5).toInt64)) ≤ 0 then
        if a2 ≤ (16 : Int32) then
          some (0 : Int32)
        else
          some (-6 : Int32)
      else
        some (-5 : Int32)
    else
      some (-4 : Int32)
  else
    some u1
set_option maxHeartbeats 4000000 in
set_option maxRecDepth 100000 in
theorem tcX8_bookRefusal (l : Launch) (G : GP) (S : GS) (a1 : Int32) (a2 : Int32) {R : Int32} (hf : fX8_bookRefusal S a1 a2 = some R) : CI l yX8_bookRefusal wsX8_bookRefusal 3 63 [.ref (ga G 63), .int a1, .int a2] WX G S R S := by
  refine g_met RX8 (cc := cX8_bookRefusal) (nL := 4) (ret := (some .int)) (by decide) rfl rfl (Nat.le_of_ble_eq_true rfl) ?_
  intro p e s m below meth c ls X E hP hS hl
  have hl : lv_has ls 4 [(0, .ref (ga G 63)), (1, .int a1), (2, .int a2)] := hl
  obtain ⟨hx, hb, -, -, hown, hts, -⟩ := id X
  rw [fX8_bookRefusal] at hf
  refine lv_aload_n hx hb dX8_bookRefusal_0 rfl (lv_at hl 0 rfl) ?_
  refine lv_iload_n hx hb dX8_bookRefusal_1 rfl (lv_at hl 1 rfl) ?_
  obtain ⟨u1, h2, hf⟩ := g_bind hf
  refine g_vi (rest := []) X E hP hS (tcX8_rowRefusal l G _ _ h2) (g_cwV X gX8_bookRefusal_X8_rowRefusal rfl hdX8_rowRefusal ⟨Nat.le_of_ble_eq_true rfl, Nat.le_of_ble_eq_true rfl⟩) (rcX_main E hP) rfl hl.1 rfl (Nat.le_of_ble_eq_true rfl) dX8_bookRefusal_2 ⟨Nat.le_refl _, Nat.le_refl _⟩ (fun H locs hP hS => ?_)
  refine lv_istore_n (lv' := [(3, .int u1), (0, .ref (ga G 63)), (1, .int a1), (2, .int a2)]) hx hb dX8_bookRefusal_5 rfl hl (by decide) rfl (fun ls hl => ?_)
  refine lv_iload_n hx hb dX8_bookRefusal_6 rfl (lv_at hl 0 rfl) ?_
  refine lv_if_eq (tgt := 12) hx hb dX8_bookRefusal_7 (by decide) (fun c3 => ?_) (fun c3 => ?_)
  · have hf := g_ift hf c3
    refine lv_iload_n hx hb dX8_bookRefusal_12 rfl (lv_at hl 3 rfl) ?_
    refine lv_if_ge (tgt := 19) hx hb dX8_bookRefusal_13 (by decide) (fun c4 => ?_) (fun c4 => ?_)
    · have hf := g_ift hf c4
      refine lv_ldc2 hx hb hown (hts _ lkX8_bookRefusal_0) dX8_bookRefusal_19 ?_
      refine lv_iload_n hx hb dX8_bookRefusal_22 rfl (lv_at hl 3 rfl) ?_
      refine lv_i2l hx hb dX8_bookRefusal_23 rfl ?_
      refine lv_lmul hx hb dX8_bookRefusal_24 ?_
      refine lv_aload_n hx hb dX8_bookRefusal_25 rfl (lv_at hl 1 rfl) ?_
      refine ggX_48 X E hP inX8_bookRefusal_X8 lkX8_bookRefusal_1 dX8_bookRefusal_26 ?_
      refine lv_iload_n hx hb dX8_bookRefusal_29 rfl (lv_at hl 2 rfl) ?_
      obtain ⟨u5, h6, hf⟩ := g_bind hf
      refine g_vi (rest := [.long ((4 : Int64) * (a2).toInt64)]) X E hP hS (tcX5_lengthOf l G _ _ h6) (g_cwV X gX8_bookRefusal_X5_lengthOf rfl hdX5_lengthOf ⟨Nat.le_of_ble_eq_true rfl, Nat.le_of_ble_eq_true rfl⟩) (rcX_shelves E hP) rfl hl.1 rfl (Nat.le_of_ble_eq_true rfl) dX8_bookRefusal_30 ⟨Nat.le_refl _, Nat.le_refl _⟩ (fun H locs hP hS => ?_)
      refine lv_i2l hx hb dX8_bookRefusal_33 rfl ?_
      refine W.lcmp hx hb dX8_bookRefusal_34 ?_
      refine lv_if_le (tgt := 41) hx hb dX8_bookRefusal_35 (by decide) (fun c7 => ?_) (fun c7 => ?_)
      · have hf := g_ift hf c7
        refine lv_iload_n hx hb dX8_bookRefusal_41 rfl (lv_at hl 3 rfl) ?_
        refine lv_bipush (v := 16) hx hb dX8_bookRefusal_42 (by decide) ?_
        refine lv_icmp_le (tgt := 52) hx hb dX8_bookRefusal_44 (by decide) (fun c8 => ?_) (fun c8 => ?_)
        · have hf := g_ift hf c8
          refine lv_iconst (v := 0) hx hb dX8_bookRefusal_52 (by decide) ?_
          obtain rfl := g_some hf
          exact g_ri X E hP hS dX8_bookRefusal_53
        · have hf := g_iff hf c8
          refine lv_bipush (v := -6) hx hb dX8_bookRefusal_47 (by decide) ?_
          refine lv_goto (tgt := 53) hx hb dX8_bookRefusal_49 (by decide) ?_
          obtain rfl := g_some hf
          exact g_ri X E hP hS dX8_bookRefusal_53
      · have hf := g_iff hf c7
        refine lv_bipush (v := -5) hx hb dX8_bookRefusal_38 (by decide) ?_
        obtain rfl := g_some hf
        exact g_ri X E hP hS dX8_bookRefusal_40
    · have hf := g_iff hf c4
      refine lv_bipush (v := -4) hx hb dX8_bookRefusal_16 (by decide) ?_
      obtain rfl := g_some hf
      exact g_ri X E hP hS dX8_bookRefusal_18
  · have hf := g_iff hf c3
    refine lv_iload_n hx hb dX8_bookRefusal_10 rfl (lv_at hl 0 rfl) ?_
    obtain rfl := g_some hf
    exact g_ri X E hP hS dX8_bookRefusal_11
theorem lkX8_firstWrong_0 : Cond.fieldLink RX8 10 RX8 "shelves" "LBackToTheFirstStone$Shelves;" ∈ wsX8_firstWrong := by decide +kernel
theorem inX8_firstWrong_X8 : ∀ w ∈ wsX80, w ∈ wsX8_firstWrong := by decide +kernel
def fX8_firstWrong_2 : Nat → GS → Int32 → Int32 → Int32 → Option Int32
  | 0, _, _, _, _ => none
  | fu + 1, S, v1, v2, v3 =>
    if ((4 : Int32) * v2) ≤ v3 then
      some (-1 : Int32)
    else
      (fX5_numberAt S v1 v3).bind fun u2 =>
      (fX3_fits S ((2 : Int32) + (v3 - v3 / (4 : Int32) * (4 : Int32))) u2).bind fun u4 =>
      if u4 = 0 then
        some v3
      else
        fX8_firstWrong_2 fu S v1 v2 (v3 + 1)
set_option maxHeartbeats 4000000 in
set_option maxRecDepth 100000 in
theorem bX8_firstWrong_2 {p : Program} {l : Launch} {e : Env} {s : State} {m : MethodId} {args : Array Value} {below : List Frame} {meth : Method} {c : Code} {G : GP} (X : GX p s m meth c args cX8_firstWrong 4 (some .int) wsX8_firstWrong RX8) (E : gE WX G s)  : ∀ (fu : Nat) (S : GS) (v1 : Int32) (v2 : Int32) (v3 : Int32) (R : Int32) (H : Heap) (locs : List Loc) (ls : Array Slot) (_ : fX8_firstWrong_2 fu S v1 v2 v3 = some R) (_ : va_P (gD G) vwCl (WX G S ++ gF G) H) (_ : va_S (gA G) s.heap H locs) (_ : lv_has ls 4 [(0, .ref (ga G 63)), (1, .int v1), (2, .int v2), (3, .int v3)]), W p l e (gR 5 108) s m args below meth c H locs 0 0 (MQ below (gQi WX G R S) args s 0 0 (gA G)) (F0 m 2 ls []) := by
  obtain ⟨hx, hb, -, -, hown, hts, -⟩ := id X
  intro fu
  induction fu with
  | zero =>
    intro S v1 v2 v3 R H locs ls hf
    cases (show (none : Option Int32) = some R from hf)
  | succ fu ih =>
    intro S v1 v2 v3 R H locs ls hf hP hS hl
    rw [fX8_firstWrong_2] at hf
    refine lv_iload_n hx hb dX8_firstWrong_2 rfl (lv_at hl 3 rfl) ?_
    refine lv_iconst (v := 4) hx hb dX8_firstWrong_3 (by decide) ?_
    refine lv_iload_n hx hb dX8_firstWrong_4 rfl (lv_at hl 2 rfl) ?_
    refine lv_imul hx hb dX8_firstWrong_5 ?_
    refine lv_icmp_ge (tgt := 37) hx hb dX8_firstWrong_6 (by decide) (fun c1 => ?_) (fun c1 => ?_)
    · have hf := g_ift hf c1
      refine lv_iconst (v := -1) hx hb dX8_firstWrong_37 (by decide) ?_
      obtain rfl := g_some hf
      exact g_ri X E hP hS dX8_firstWrong_38
    · have hf := g_iff hf c1
      refine lv_iconst (v := 2) hx hb dX8_firstWrong_9 (by decide) ?_
      refine lv_iload_n hx hb dX8_firstWrong_10 rfl (lv_at hl 3 rfl) ?_
      refine lv_iconst (v := 4) hx hb dX8_firstWrong_11 (by decide) ?_
      refine lv_irem hx hb dX8_firstWrong_12 (by decide) ?_
      refine lv_iadd hx hb dX8_firstWrong_13 ?_
      refine lv_aload_n hx hb dX8_firstWrong_14 rfl (lv_at hl 0 rfl) ?_
      refine ggX_48 X E hP inX8_firstWrong_X8 lkX8_firstWrong_0 dX8_firstWrong_15 ?_
      refine lv_iload_n hx hb dX8_firstWrong_18 rfl (lv_at hl 1 rfl) ?_
      refine lv_iload_n hx hb dX8_firstWrong_19 rfl (lv_at hl 3 rfl) ?_
      obtain ⟨u2, h3, hf⟩ := g_bind hf
      refine g_vi (rest := [.int ((2 : Int32) + (v3 - v3 / (4 : Int32) * (4 : Int32)))]) X E hP hS (tcX5_numberAt l G _ _ _ h3) (g_cwV X gX8_firstWrong_X5_numberAt rfl hdX5_numberAt ⟨Nat.le_of_ble_eq_true rfl, Nat.le_of_ble_eq_true rfl⟩) (rcX_shelves E hP) rfl hl.1 rfl (Nat.le_of_ble_eq_true rfl) dX8_firstWrong_20 ⟨Nat.le_refl _, Nat.le_refl _⟩ (fun H locs hP hS => ?_)
      obtain ⟨u4, h5, hf⟩ := g_bind hf
      refine g_si (rest := []) X E hP hS (tcX3_fits l G _ _ _ h5) (g_cwS X gX8_firstWrong_X3_fits rfl hdX3_fits ⟨Nat.le_of_ble_eq_true rfl, Nat.le_of_ble_eq_true rfl⟩) rfl hl.1 rfl (Nat.le_of_ble_eq_true rfl) dX8_firstWrong_23 ⟨Nat.le_refl _, Nat.le_refl _⟩ (fun H locs hP hS => ?_)
      refine lv_if_ne (tgt := 31) hx hb dX8_firstWrong_26 (by decide) (fun c6 => ?_) (fun c6 => ?_)
      · have hf := g_iff hf c6
        refine lv_iinc (v := (v3 + 1)) (lv' := [(3, .int (v3 + 1)), (0, .ref (ga G 63)), (1, .int v1), (2, .int v2)]) hx hb dX8_firstWrong_31 hl (k := 3) rfl rfl (by decide) rfl (fun ls hl => ?_)
        refine lv_goto (tgt := 2) hx hb dX8_firstWrong_34 (by decide) ?_
        exact ih _ _ _ _ _ _ _ _ hf hP hS (lv_sub hl [1, 2, 3, 0] rfl)
      · have hf := g_ift hf c6
        refine lv_iload_n hx hb dX8_firstWrong_29 rfl (lv_at hl 3 rfl) ?_
        obtain rfl := g_some hf
        exact g_ri X E hP hS dX8_firstWrong_30
def fX8_firstWrong (S : GS) (a1 : Int32) (a2 : Int32) : Option Int32 :=
  fX8_firstWrong_2 gFuel S a1 a2 (0 : Int32)
set_option maxHeartbeats 4000000 in
set_option maxRecDepth 100000 in
theorem tcX8_firstWrong (l : Launch) (G : GP) (S : GS) (a1 : Int32) (a2 : Int32) {R : Int32} (hf : fX8_firstWrong S a1 a2 = some R) : CI l yX8_firstWrong wsX8_firstWrong 5 108 [.ref (ga G 63), .int a1, .int a2] WX G S R S := by
  refine g_met RX8 (cc := cX8_firstWrong) (nL := 4) (ret := (some .int)) (by decide) rfl rfl (Nat.le_of_ble_eq_true rfl) ?_
  intro p e s m below meth c ls X E hP hS hl
  have hl : lv_has ls 4 [(0, .ref (ga G 63)), (1, .int a1), (2, .int a2)] := hl
  obtain ⟨hx, hb, -, -, hown, hts, -⟩ := id X
  rw [fX8_firstWrong] at hf
  refine lv_iconst (v := 0) hx hb dX8_firstWrong_0 (by decide) ?_
  refine lv_istore_n (lv' := [(3, .int (0 : Int32)), (0, .ref (ga G 63)), (1, .int a1), (2, .int a2)]) hx hb dX8_firstWrong_1 rfl hl (by decide) rfl (fun ls hl => ?_)
  exact bX8_firstWrong_2 X E gFuel _ _ _ _ _ _ _ _ hf hP hS (lv_sub hl [1, 2, 3, 0] rfl)
def fX8_judge (S : GS) (a1 : Int32) (a2 : Int32) : Option (Int32 × GS) :=
  (fX8_bookRefusal S a1 a2).bind fun u1 =>
  if u1 = 0 then
    (fX8_firstWrong S a1 a2).bind fun u4 =>
    some (u4, S)
  else
    (fX8_refuse S u1).bind fun u6 =>
    some (((-10 : Int32) + u6.1), u6.2)
set_option maxHeartbeats 4000000 in
set_option maxRecDepth 100000 in
theorem tcX8_judge (l : Launch) (G : GP) (S : GS) (a1 : Int32) (a2 : Int32) {R : (Int32 × GS)} (hf : fX8_judge S a1 a2 = some R) : CI l yX8_judge wsX8_judge 6 131 [.ref (ga G 63), .int a1, .int a2] WX G S R.1 R.2 := by
  refine g_met RX8 (cc := cX8_judge) (nL := 4) (ret := (some .int)) (by decide) rfl rfl (Nat.le_of_ble_eq_true rfl) ?_
  intro p e s m below meth c ls X E hP hS hl
  have hl : lv_has ls 4 [(0, .ref (ga G 63)), (1, .int a1), (2, .int a2)] := hl
  obtain ⟨hx, hb, -, -, hown, hts, -⟩ := id X
  rw [fX8_judge] at hf
  refine lv_aload_n hx hb dX8_judge_0 rfl (lv_at hl 0 rfl) ?_
  refine lv_iload_n hx hb dX8_judge_1 rfl (lv_at hl 1 rfl) ?_
  refine lv_iload_n hx hb dX8_judge_2 rfl (lv_at hl 2 rfl) ?_
  obtain ⟨u1, h2, hf⟩ := g_bind hf
  refine g_vi (rest := []) X E hP hS (tcX8_bookRefusal l G _ _ _ h2) (g_cwV X gX8_judge_X8_bookRefusal rfl hdX8_bookRefusal ⟨Nat.le_of_ble_eq_true rfl, Nat.le_of_ble_eq_true rfl⟩) (rcX_main E hP) rfl hl.1 rfl (Nat.le_of_ble_eq_true rfl) dX8_judge_3 ⟨Nat.le_refl _, Nat.le_refl _⟩ (fun H locs hP hS => ?_)
  refine lv_istore_n (lv' := [(3, .int u1), (0, .ref (ga G 63)), (1, .int a1), (2, .int a2)]) hx hb dX8_judge_6 rfl hl (by decide) rfl (fun ls hl => ?_)
  refine lv_iload_n hx hb dX8_judge_7 rfl (lv_at hl 0 rfl) ?_
  refine lv_if_eq (tgt := 20) hx hb dX8_judge_8 (by decide) (fun c3 => ?_) (fun c3 => ?_)
  · have hf := g_ift hf c3
    refine lv_aload_n hx hb dX8_judge_20 rfl (lv_at hl 1 rfl) ?_
    refine lv_iload_n hx hb dX8_judge_21 rfl (lv_at hl 2 rfl) ?_
    refine lv_iload_n hx hb dX8_judge_22 rfl (lv_at hl 3 rfl) ?_
    obtain ⟨u4, h5, hf⟩ := g_bind hf
    refine g_vi (rest := []) X E hP hS (tcX8_firstWrong l G _ _ _ h5) (g_cwV X gX8_judge_X8_firstWrong rfl hdX8_firstWrong ⟨Nat.le_of_ble_eq_true rfl, Nat.le_of_ble_eq_true rfl⟩) (rcX_main E hP) rfl hl.1 rfl (Nat.le_of_ble_eq_true rfl) dX8_judge_23 ⟨Nat.le_refl _, Nat.le_refl _⟩ (fun H locs hP hS => ?_)
    obtain rfl := g_some hf
    exact g_ri X E hP hS dX8_judge_26
  · have hf := g_iff hf c3
    refine lv_bipush (v := -10) hx hb dX8_judge_11 (by decide) ?_
    refine lv_aload_n hx hb dX8_judge_13 rfl (lv_at hl 1 rfl) ?_
    refine lv_iload_n hx hb dX8_judge_14 rfl (lv_at hl 0 rfl) ?_
    obtain ⟨u6, h7, hf⟩ := g_bind hf
    refine g_vi (rest := [.int (-10 : Int32)]) X E hP hS (tcX8_refuse l G _ _ h7) (g_cwV X gX8_judge_X8_refuse rfl hdX8_refuse ⟨Nat.le_of_ble_eq_true rfl, Nat.le_of_ble_eq_true rfl⟩) (rcX_main E hP) rfl hl.1 rfl (Nat.le_of_ble_eq_true rfl) dX8_judge_15 ⟨Nat.le_refl _, Nat.le_refl _⟩ (fun H locs hP hS => ?_)
    refine lv_iadd hx hb dX8_judge_18 ?_
    obtain rfl := g_some hf
    exact g_ri X E hP hS dX8_judge_19
theorem lkX8_closes_0 : Cond.fieldLink RX8 10 RX8 "shelves" "LBackToTheFirstStone$Shelves;" ∈ wsX8_closes := by decide +kernel
theorem lkX8_closes_1 : Cond.constant RX8 125 (-1000000 : Int32) ∈ wsX8_closes := by decide +kernel
theorem inX8_closes_X8 : ∀ w ∈ wsX80, w ∈ wsX8_closes := by decide +kernel
def fX8_closes_43 : Nat → GS → Int32 → Int32 → Int32 → Int32 → Option Int32
  | 0, _, _, _, _, _ => none
  | fu + 1, S, v1, v2, v4, v5 =>
    if v2 ≤ v5 then
      some v4
    else
      (fX5_numberAt S v1 ((4 : Int32) * v5)).bind fun u6 =>
      (fX5_numberAt S v1 (((4 : Int32) * v5) + (1 : Int32))).bind fun u8 =>
      fX8_closes_43 fu S v1 v2 (v4 + (u6 - u8)) (v5 + 1)
set_option maxHeartbeats 4000000 in
set_option maxRecDepth 100000 in
theorem bX8_closes_43 {p : Program} {l : Launch} {e : Env} {s : State} {m : MethodId} {args : Array Value} {below : List Frame} {meth : Method} {c : Code} {Q : State → Prop} {G : GP} (X : GX p s m meth c args cX8_closes 6 (some .int) wsX8_closes RX8) (E : gE WX G s)  : ∀ (fu : Nat) (S : GS) (v1 : Int32) (v2 : Int32) (v4 : Int32) (v5 : Int32) (R : Int32) (H : Heap) (locs : List Loc) (ls : Array Slot) (_ : fX8_closes_43 fu S v1 v2 v4 v5 = some R) (_ : va_P (gD G) vwCl (WX G S ++ gF G) H) (_ : va_S (gA G) s.heap H locs) (_ : lv_has ls 6 [(0, .ref (ga G 63)), (1, .int v1), (2, .int v2), (4, .int v4), (5, .int v5)]) (_ : ∀ (H : Heap) (locs : List Loc) (ls : Array Slot), va_P (gD G) vwCl (WX G S ++ gF G) H → va_S (gA G) s.heap H locs → lv_has ls 6 [(4, .int R)] → W p l e (gR 6 131) s m args below meth c H locs 0 0 Q (F0 m 87 ls [])), W p l e (gR 6 131) s m args below meth c H locs 0 0 Q (F0 m 43 ls []) := by
  obtain ⟨hx, hb, -, -, hown, hts, -⟩ := id X
  intro fu
  induction fu with
  | zero =>
    intro S v1 v2 v4 v5 R H locs ls hf
    cases (show (none : Option Int32) = some R from hf)
  | succ fu ih =>
    intro S v1 v2 v4 v5 R H locs ls hf hP hS hl kk
    rw [fX8_closes_43] at hf
    refine lv_iload hx hb dX8_closes_43 (lv_at hl 4 rfl) ?_
    refine lv_iload_n hx hb dX8_closes_45 rfl (lv_at hl 2 rfl) ?_
    refine lv_icmp_ge (tgt := 87) hx hb dX8_closes_46 (by decide) (fun c5 => ?_) (fun c5 => ?_)
    · have hf := g_ift hf c5
      obtain rfl := g_some hf
      exact kk _ _ _ hP hS (lv_sub hl [3] rfl)
    · have hf := g_iff hf c5
      refine lv_iload hx hb dX8_closes_49 (lv_at hl 3 rfl) ?_
      refine lv_aload_n hx hb dX8_closes_51 rfl (lv_at hl 0 rfl) ?_
      refine ggX_48 X E hP inX8_closes_X8 lkX8_closes_0 dX8_closes_52 ?_
      refine lv_iload_n hx hb dX8_closes_55 rfl (lv_at hl 1 rfl) ?_
      refine lv_iconst (v := 4) hx hb dX8_closes_56 (by decide) ?_
      refine lv_iload hx hb dX8_closes_57 (lv_at hl 4 rfl) ?_
      refine lv_imul hx hb dX8_closes_59 ?_
      obtain ⟨u6, h7, hf⟩ := g_bind hf
      refine g_vi (rest := [.int v4]) X E hP hS (tcX5_numberAt l G _ _ _ h7) (g_cwV X gX8_closes_X5_numberAt rfl hdX5_numberAt ⟨Nat.le_of_ble_eq_true rfl, Nat.le_of_ble_eq_true rfl⟩) (rcX_shelves E hP) rfl hl.1 rfl (Nat.le_of_ble_eq_true rfl) dX8_closes_60 ⟨Nat.le_refl _, Nat.le_refl _⟩ (fun H locs hP hS => ?_)
      refine lv_aload_n hx hb dX8_closes_63 rfl (lv_at hl 0 rfl) ?_
      refine ggX_48 X E hP inX8_closes_X8 lkX8_closes_0 dX8_closes_64 ?_
      refine lv_iload_n hx hb dX8_closes_67 rfl (lv_at hl 1 rfl) ?_
      refine lv_iconst (v := 4) hx hb dX8_closes_68 (by decide) ?_
      refine lv_iload hx hb dX8_closes_69 (lv_at hl 4 rfl) ?_
      refine lv_imul hx hb dX8_closes_71 ?_
      refine lv_iconst (v := 1) hx hb dX8_closes_72 (by decide) ?_
      refine lv_iadd hx hb dX8_closes_73 ?_
      obtain ⟨u8, h9, hf⟩ := g_bind hf
      refine g_vi (rest := [.int u6, .int v4]) X E hP hS (tcX5_numberAt l G _ _ _ h9) (g_cwV X gX8_closes_X5_numberAt rfl hdX5_numberAt ⟨Nat.le_of_ble_eq_true rfl, Nat.le_of_ble_eq_true rfl⟩) (rcX_shelves E hP) rfl hl.1 rfl (Nat.le_of_ble_eq_true rfl) dX8_closes_74 ⟨Nat.le_refl _, Nat.le_refl _⟩ (fun H locs hP hS => ?_)
      refine lv_isub hx hb dX8_closes_77 ?_
      refine lv_iadd hx hb dX8_closes_78 ?_
      refine lv_istore (lv' := [(4, .int (v4 + (u6 - u8))), (0, .ref (ga G 63)), (1, .int v1), (2, .int v2), (5, .int v5)]) hx hb dX8_closes_79 hl (by decide) rfl (fun ls hl => ?_)
      refine lv_iinc (v := (v5 + 1)) (lv' := [(5, .int (v5 + 1)), (4, .int (v4 + (u6 - u8))), (0, .ref (ga G 63)), (1, .int v1), (2, .int v2)]) hx hb dX8_closes_81 hl (k := 4) rfl rfl (by decide) rfl (fun ls hl => ?_)
      refine lv_goto (tgt := 43) hx hb dX8_closes_84 (by decide) ?_
      exact ih _ _ _ _ _ _ _ _ _ hf hP hS (lv_sub hl [2, 3, 4, 1, 0] rfl) kk
def fX8_closes_L24 (S : GS) (v1 : Int32) (v2 : Int32) (v3 : Int32) : Option (Int32 × GS) :=
  if v3 = 0 then
    (fX8_closes_43 gFuel S v1 v2 (0 : Int32) (0 : Int32)).bind fun u10 =>
    some (u10, S)
  else
    (fX8_refuse S v3).bind fun u12 =>
    some (((-1000000 : Int32) + u12.1), u12.2)
set_option maxHeartbeats 4000000 in
set_option maxRecDepth 100000 in
theorem bX8_closes_L24 {p : Program} {l : Launch} {e : Env} {s : State} {m : MethodId} {args : Array Value} {below : List Frame} {meth : Method} {c : Code} {G : GP} (X : GX p s m meth c args cX8_closes 6 (some .int) wsX8_closes RX8) (E : gE WX G s) (S : GS) (v1 : Int32) (v2 : Int32) (v3 : Int32) (R : (Int32 × GS)) (H : Heap) (locs : List Loc) (ls : Array Slot) (hf : fX8_closes_L24 S v1 v2 v3 = some R) (hP : va_P (gD G) vwCl (WX G S ++ gF G) H) (hS : va_S (gA G) s.heap H locs) (hl : lv_has ls 6 [(0, .ref (ga G 63)), (1, .int v1), (2, .int v2), (3, .int v3)]) : W p l e (gR 6 131) s m args below meth c H locs 0 0 (MQ below (gQi WX G R.1 R.2) args s 0 0 (gA G)) (F0 m 24 ls []) := by
  obtain ⟨hx, hb, -, -, hown, hts, -⟩ := id X
  rw [fX8_closes_L24] at hf
  refine lv_iload_n hx hb dX8_closes_24 rfl (lv_at hl 3 rfl) ?_
  refine lv_if_eq (tgt := 37) hx hb dX8_closes_25 (by decide) (fun c4 => ?_) (fun c4 => ?_)
  · have hf := g_ift hf c4
    refine lv_iconst (v := 0) hx hb dX8_closes_37 (by decide) ?_
    refine lv_istore (lv' := [(4, .int (0 : Int32)), (0, .ref (ga G 63)), (1, .int v1), (2, .int v2), (3, .int v3)]) hx hb dX8_closes_38 hl (by decide) rfl (fun ls hl => ?_)
    refine lv_iconst (v := 0) hx hb dX8_closes_40 (by decide) ?_
    refine lv_istore (lv' := [(5, .int (0 : Int32)), (4, .int (0 : Int32)), (0, .ref (ga G 63)), (1, .int v1), (2, .int v2), (3, .int v3)]) hx hb dX8_closes_41 hl (by decide) rfl (fun ls hl => ?_)
    obtain ⟨u10, h11, hf⟩ := g_bind hf
    refine bX8_closes_43 X E gFuel _ _ _ _ _ u10 _ _ _ h11 hP hS (lv_sub hl [2, 3, 4, 1, 0] rfl) (fun H locs ls hP hS hl => ?_)
    have hl : lv_has ls 6 [(4, .int u10)] := hl
    refine lv_iload hx hb dX8_closes_87 (lv_at hl 0 rfl) ?_
    obtain rfl := g_some hf
    exact g_ri X E hP hS dX8_closes_89
  · have hf := g_iff hf c4
    refine lv_ldc hx hb hown (hts _ lkX8_closes_1) dX8_closes_28 ?_
    refine lv_aload_n hx hb dX8_closes_30 rfl (lv_at hl 0 rfl) ?_
    refine lv_iload_n hx hb dX8_closes_31 rfl (lv_at hl 3 rfl) ?_
    obtain ⟨u12, h13, hf⟩ := g_bind hf
    refine g_vi (rest := [.int (-1000000 : Int32)]) X E hP hS (tcX8_refuse l G _ _ h13) (g_cwV X gX8_closes_X8_refuse rfl hdX8_refuse ⟨Nat.le_of_ble_eq_true rfl, Nat.le_of_ble_eq_true rfl⟩) (rcX_main E hP) rfl hl.1 rfl (Nat.le_of_ble_eq_true rfl) dX8_closes_32 ⟨Nat.le_refl _, Nat.le_refl _⟩ (fun H locs hP hS => ?_)
    refine lv_iadd hx hb dX8_closes_35 ?_
    obtain rfl := g_some hf
    exact g_ri X E hP hS dX8_closes_36
def fX8_closes (S : GS) (a1 : Int32) (a2 : Int32) : Option (Int32 × GS) :=
  (fX8_bookRefusal S a1 a2).bind fun u1 =>
  if u1 = 0 then
    (fX8_firstWrong S a1 a2).bind fun u14 =>
    if u14 = (-1 : Int32) then
      fX8_closes_L24 S a1 a2 u1
    else
      fX8_closes_L24 S a1 a2 (-6 : Int32)
  else
    fX8_closes_L24 S a1 a2 u1
set_option maxHeartbeats 4000000 in
set_option maxRecDepth 100000 in
theorem tcX8_closes (l : Launch) (G : GP) (S : GS) (a1 : Int32) (a2 : Int32) {R : (Int32 × GS)} (hf : fX8_closes S a1 a2 = some R) : CI l yX8_closes wsX8_closes 6 131 [.ref (ga G 63), .int a1, .int a2] WX G S R.1 R.2 := by
  refine g_met RX8 (cc := cX8_closes) (nL := 6) (ret := (some .int)) (by decide) rfl rfl (Nat.le_of_ble_eq_true rfl) ?_
  intro p e s m below meth c ls X E hP hS hl
  have hl : lv_has ls 6 [(0, .ref (ga G 63)), (1, .int a1), (2, .int a2)] := hl
  obtain ⟨hx, hb, -, -, hown, hts, -⟩ := id X
  rw [fX8_closes] at hf
  refine lv_aload_n hx hb dX8_closes_0 rfl (lv_at hl 0 rfl) ?_
  refine lv_iload_n hx hb dX8_closes_1 rfl (lv_at hl 1 rfl) ?_
  refine lv_iload_n hx hb dX8_closes_2 rfl (lv_at hl 2 rfl) ?_
  obtain ⟨u1, h2, hf⟩ := g_bind hf
  refine g_vi (rest := []) X E hP hS (tcX8_bookRefusal l G _ _ _ h2) (g_cwV X gX8_closes_X8_bookRefusal rfl hdX8_bookRefusal ⟨Nat.le_of_ble_eq_true rfl, Nat.le_of_ble_eq_true rfl⟩) (rcX_main E hP) rfl hl.1 rfl (Nat.le_of_ble_eq_true rfl) dX8_closes_3 ⟨Nat.le_refl _, Nat.le_refl _⟩ (fun H locs hP hS => ?_)
  refine lv_istore_n (lv' := [(3, .int u1), (0, .ref (ga G 63)), (1, .int a1), (2, .int a2)]) hx hb dX8_closes_6 rfl hl (by decide) rfl (fun ls hl => ?_)
  refine lv_iload_n hx hb dX8_closes_7 rfl (lv_at hl 0 rfl) ?_
  refine lv_if_ne (tgt := 24) hx hb dX8_closes_8 (by decide) (fun c3 => ?_) (fun c3 => ?_)
  · have hf := g_iff hf c3
    exact bX8_closes_L24 X E _ _ _ _ _ _ _ _ hf hP hS (lv_sub hl [1, 2, 3, 0] rfl)
  · have hf := g_ift hf c3
    refine lv_aload_n hx hb dX8_closes_11 rfl (lv_at hl 1 rfl) ?_
    refine lv_iload_n hx hb dX8_closes_12 rfl (lv_at hl 2 rfl) ?_
    refine lv_iload_n hx hb dX8_closes_13 rfl (lv_at hl 3 rfl) ?_
    obtain ⟨u14, h15, hf⟩ := g_bind hf
    refine g_vi (rest := []) X E hP hS (tcX8_firstWrong l G _ _ _ h15) (g_cwV X gX8_closes_X8_firstWrong rfl hdX8_firstWrong ⟨Nat.le_of_ble_eq_true rfl, Nat.le_of_ble_eq_true rfl⟩) (rcX_main E hP) rfl hl.1 rfl (Nat.le_of_ble_eq_true rfl) dX8_closes_14 ⟨Nat.le_refl _, Nat.le_refl _⟩ (fun H locs hP hS => ?_)
    refine lv_iconst (v := -1) hx hb dX8_closes_17 (by decide) ?_
    refine lv_icmp_eq (tgt := 24) hx hb dX8_closes_18 (by decide) (fun c16 => ?_) (fun c16 => ?_)
    · have hf := g_ift hf c16
      exact bX8_closes_L24 X E _ _ _ _ _ _ _ _ hf hP hS (lv_sub hl [1, 2, 3, 0] rfl)
    · have hf := g_iff hf c16
      refine lv_bipush (v := -6) hx hb dX8_closes_21 (by decide) ?_
      refine lv_istore_n (lv' := [(3, .int (-6 : Int32)), (0, .ref (ga G 63)), (1, .int a1), (2, .int a2)]) hx hb dX8_closes_23 rfl hl (by decide) rfl (fun ls hl => ?_)
      exact bX8_closes_L24 X E _ _ _ _ _ _ _ _ hf hP hS (lv_sub hl [1, 2, 3, 0] rfl)
theorem lkX8_done_0 : Cond.fieldLink RX8 19 RX8 "now" "LBackToTheFirstStone$Loop;" ∈ wsX8_done := by decide +kernel
theorem lkX8_done_1 : Cond.fieldLink RX8 10 RX8 "shelves" "LBackToTheFirstStone$Shelves;" ∈ wsX8_done := by decide +kernel
theorem inX8_done_X8 : ∀ w ∈ wsX80, w ∈ wsX8_done := by decide +kernel
def fX8_done_55 : Nat → GS → Int32 → Int32 → Int32 → Option GS
  | 0, _, _, _, _ => none
  | fu + 1, S, v1, v2, v4 =>
    if v2 ≤ v4 then
      some S
    else
      (fX5_numberAt S v1 ((4 : Int32) * v4)).bind fun u7 =>
      (fX5_numberAt S v1 (((4 : Int32) * v4) + (1 : Int32))).bind fun u9 =>
      (fX5_numberAt S v1 (((4 : Int32) * v4) + (2 : Int32))).bind fun u11 =>
      (fX5_numberAt S v1 (((4 : Int32) * v4) + (3 : Int32))).bind fun u13 =>
      (fX3_add_now S (0 : Int32) (0 : Int32) u7 u9 u11 u13).bind fun u15 =>
      fX8_done_55 fu u15 v1 v2 (v4 + 1)
set_option maxHeartbeats 4000000 in
set_option maxRecDepth 100000 in
theorem bX8_done_55 {p : Program} {l : Launch} {e : Env} {s : State} {m : MethodId} {args : Array Value} {below : List Frame} {meth : Method} {c : Code} {Q : State → Prop} {G : GP} (X : GX p s m meth c args cX8_done 6 (some .int) wsX8_done RX8) (E : gE WX G s)  : ∀ (fu : Nat) (S : GS) (v1 : Int32) (v2 : Int32) (v4 : Int32) (R : GS) (H : Heap) (locs : List Loc) (ls : Array Slot) (_ : fX8_done_55 fu S v1 v2 v4 = some R) (_ : va_P (gD G) vwCl (WX G S ++ gF G) H) (_ : va_S (gA G) s.heap H locs) (_ : lv_has ls 6 [(0, .ref (ga G 63)), (1, .int v1), (2, .int v2), (4, .int v4)]) (_ : ∀ (H : Heap) (locs : List Loc) (ls : Array Slot), va_P (gD G) vwCl (WX G R ++ gF G) H → va_S (gA G) s.heap H locs → lv_has ls 6 [(0, .ref (ga G 63))] → W p l e (gR 6 131) s m args below meth c H locs 0 0 Q (F0 m 128 ls [])), W p l e (gR 6 131) s m args below meth c H locs 0 0 Q (F0 m 55 ls []) := by
  obtain ⟨hx, hb, -, -, hown, hts, -⟩ := id X
  intro fu
  induction fu with
  | zero =>
    intro S v1 v2 v4 R H locs ls hf
    cases (show (none : Option GS) = some R from hf)
  | succ fu ih =>
    intro S v1 v2 v4 R H locs ls hf hP hS hl kk
    rw [fX8_done_55] at hf
    refine lv_iload hx hb dX8_done_55 (lv_at hl 3 rfl) ?_
    refine lv_iload_n hx hb dX8_done_57 rfl (lv_at hl 2 rfl) ?_
    refine lv_icmp_ge (tgt := 128) hx hb dX8_done_58 (by decide) (fun c6 => ?_) (fun c6 => ?_)
    · have hf := g_ift hf c6
      obtain rfl := g_some hf
      exact kk _ _ _ hP hS (lv_sub hl [0] rfl)
    · have hf := g_iff hf c6
      refine lv_iconst (v := 4) hx hb dX8_done_61 (by decide) ?_
      refine lv_iload hx hb dX8_done_62 (lv_at hl 3 rfl) ?_
      refine lv_imul hx hb dX8_done_64 ?_
      refine lv_istore (lv' := [(5, .int ((4 : Int32) * v4)), (0, .ref (ga G 63)), (1, .int v1), (2, .int v2), (4, .int v4)]) hx hb dX8_done_65 hl (by decide) rfl (fun ls hl => ?_)
      refine lv_aload_n hx hb dX8_done_67 rfl (lv_at hl 1 rfl) ?_
      refine ggX_49 X E hP inX8_done_X8 lkX8_done_0 dX8_done_68 ?_
      refine lv_iconst (v := 0) hx hb dX8_done_71 (by decide) ?_
      refine lv_iconst (v := 0) hx hb dX8_done_72 (by decide) ?_
      refine lv_aload_n hx hb dX8_done_73 rfl (lv_at hl 1 rfl) ?_
      refine ggX_48 X E hP inX8_done_X8 lkX8_done_1 dX8_done_74 ?_
      refine lv_iload_n hx hb dX8_done_77 rfl (lv_at hl 2 rfl) ?_
      refine lv_iload hx hb dX8_done_78 (lv_at hl 0 rfl) ?_
      obtain ⟨u7, h8, hf⟩ := g_bind hf
      refine g_vi (rest := [.int (0 : Int32), .int (0 : Int32), .ref (ga G 15)]) X E hP hS (tcX5_numberAt l G _ _ _ h8) (g_cwV X gX8_done_X5_numberAt rfl hdX5_numberAt ⟨Nat.le_of_ble_eq_true rfl, Nat.le_of_ble_eq_true rfl⟩) (rcX_shelves E hP) rfl hl.1 rfl (Nat.le_of_ble_eq_true rfl) dX8_done_80 ⟨Nat.le_refl _, Nat.le_refl _⟩ (fun H locs hP hS => ?_)
      refine lv_aload_n hx hb dX8_done_83 rfl (lv_at hl 1 rfl) ?_
      refine ggX_48 X E hP inX8_done_X8 lkX8_done_1 dX8_done_84 ?_
      refine lv_iload_n hx hb dX8_done_87 rfl (lv_at hl 2 rfl) ?_
      refine lv_iload hx hb dX8_done_88 (lv_at hl 0 rfl) ?_
      refine lv_iconst (v := 1) hx hb dX8_done_90 (by decide) ?_
      refine lv_iadd hx hb dX8_done_91 ?_
      obtain ⟨u9, h10, hf⟩ := g_bind hf
      refine g_vi (rest := [.int u7, .int (0 : Int32), .int (0 : Int32), .ref (ga G 15)]) X E hP hS (tcX5_numberAt l G _ _ _ h10) (g_cwV X gX8_done_X5_numberAt rfl hdX5_numberAt ⟨Nat.le_of_ble_eq_true rfl, Nat.le_of_ble_eq_true rfl⟩) (rcX_shelves E hP) rfl hl.1 rfl (Nat.le_of_ble_eq_true rfl) dX8_done_92 ⟨Nat.le_refl _, Nat.le_refl _⟩ (fun H locs hP hS => ?_)
      refine lv_aload_n hx hb dX8_done_95 rfl (lv_at hl 1 rfl) ?_
      refine ggX_48 X E hP inX8_done_X8 lkX8_done_1 dX8_done_96 ?_
      refine lv_iload_n hx hb dX8_done_99 rfl (lv_at hl 2 rfl) ?_
      refine lv_iload hx hb dX8_done_100 (lv_at hl 0 rfl) ?_
      refine lv_iconst (v := 2) hx hb dX8_done_102 (by decide) ?_
      refine lv_iadd hx hb dX8_done_103 ?_
      obtain ⟨u11, h12, hf⟩ := g_bind hf
      refine g_vi (rest := [.int u9, .int u7, .int (0 : Int32), .int (0 : Int32), .ref (ga G 15)]) X E hP hS (tcX5_numberAt l G _ _ _ h12) (g_cwV X gX8_done_X5_numberAt rfl hdX5_numberAt ⟨Nat.le_of_ble_eq_true rfl, Nat.le_of_ble_eq_true rfl⟩) (rcX_shelves E hP) rfl hl.1 rfl (Nat.le_of_ble_eq_true rfl) dX8_done_104 ⟨Nat.le_refl _, Nat.le_refl _⟩ (fun H locs hP hS => ?_)
      refine lv_aload_n hx hb dX8_done_107 rfl (lv_at hl 1 rfl) ?_
      refine ggX_48 X E hP inX8_done_X8 lkX8_done_1 dX8_done_108 ?_
      refine lv_iload_n hx hb dX8_done_111 rfl (lv_at hl 2 rfl) ?_
      refine lv_iload hx hb dX8_done_112 (lv_at hl 0 rfl) ?_
      refine lv_iconst (v := 3) hx hb dX8_done_114 (by decide) ?_
      refine lv_iadd hx hb dX8_done_115 ?_
      obtain ⟨u13, h14, hf⟩ := g_bind hf
      refine g_vi (rest := [.int u11, .int u9, .int u7, .int (0 : Int32), .int (0 : Int32), .ref (ga G 15)]) X E hP hS (tcX5_numberAt l G _ _ _ h14) (g_cwV X gX8_done_X5_numberAt rfl hdX5_numberAt ⟨Nat.le_of_ble_eq_true rfl, Nat.le_of_ble_eq_true rfl⟩) (rcX_shelves E hP) rfl hl.1 rfl (Nat.le_of_ble_eq_true rfl) dX8_done_116 ⟨Nat.le_refl _, Nat.le_refl _⟩ (fun H locs hP hS => ?_)
      obtain ⟨u15, h16, hf⟩ := g_bind hf
      refine g_vv (rest := []) X E hP hS (tcX3_add_now l G _ _ _ _ _ _ _ h16) (g_cwV X gX8_done_X3_add rfl hdX3_add ⟨Nat.le_of_ble_eq_true rfl, Nat.le_of_ble_eq_true rfl⟩) (rcX_now E hP) rfl hl.1 rfl (Nat.le_of_ble_eq_true rfl) dX8_done_119 ⟨Nat.le_refl _, Nat.le_refl _⟩ (fun H locs hP hS => ?_)
      refine lv_iinc (v := (v4 + 1)) (lv' := [(4, .int (v4 + 1)), (5, .int ((4 : Int32) * v4)), (0, .ref (ga G 63)), (1, .int v1), (2, .int v2)]) hx hb dX8_done_122 hl (k := 4) rfl rfl (by decide) rfl (fun ls hl => ?_)
      refine lv_goto (tgt := 55) hx hb dX8_done_125 (by decide) ?_
      exact ih _ _ _ _ _ _ _ _ hf hP hS (lv_sub hl [2, 3, 4, 0] rfl) kk
def fX8_done_L42 (S : GS) (v1 : Int32) (v2 : Int32) (v3 : Int32) : Option (Int32 × GS) :=
  if v3 = 0 then
    (fX8_done_55 gFuel S v1 v2 (0 : Int32)).bind fun u17 =>
    (fX3_count_now u17).bind fun u19 =>
    some (u19, u17)
  else
    (fX8_refuse S v3).bind fun u21 =>
    some (u21.1, u21.2)
set_option maxHeartbeats 4000000 in
set_option maxRecDepth 100000 in
theorem bX8_done_L42 {p : Program} {l : Launch} {e : Env} {s : State} {m : MethodId} {args : Array Value} {below : List Frame} {meth : Method} {c : Code} {G : GP} (X : GX p s m meth c args cX8_done 6 (some .int) wsX8_done RX8) (E : gE WX G s) (S : GS) (v1 : Int32) (v2 : Int32) (v3 : Int32) (R : (Int32 × GS)) (H : Heap) (locs : List Loc) (ls : Array Slot) (hf : fX8_done_L42 S v1 v2 v3 = some R) (hP : va_P (gD G) vwCl (WX G S ++ gF G) H) (hS : va_S (gA G) s.heap H locs) (hl : lv_has ls 6 [(0, .ref (ga G 63)), (1, .int v1), (2, .int v2), (3, .int v3)]) : W p l e (gR 6 131) s m args below meth c H locs 0 0 (MQ below (gQi WX G R.1 R.2) args s 0 0 (gA G)) (F0 m 42 ls []) := by
  obtain ⟨hx, hb, -, -, hown, hts, -⟩ := id X
  rw [fX8_done_L42] at hf
  refine lv_iload_n hx hb dX8_done_42 rfl (lv_at hl 3 rfl) ?_
  refine lv_if_eq (tgt := 52) hx hb dX8_done_43 (by decide) (fun c5 => ?_) (fun c5 => ?_)
  · have hf := g_ift hf c5
    refine lv_iconst (v := 0) hx hb dX8_done_52 (by decide) ?_
    refine lv_istore (lv' := [(4, .int (0 : Int32)), (0, .ref (ga G 63)), (1, .int v1), (2, .int v2), (3, .int v3)]) hx hb dX8_done_53 hl (by decide) rfl (fun ls hl => ?_)
    obtain ⟨u17, h18, hf⟩ := g_bind hf
    refine bX8_done_55 X E gFuel _ _ _ _ u17 _ _ _ h18 hP hS (lv_sub hl [1, 2, 3, 0] rfl) (fun H locs ls hP hS hl => ?_)
    have hl : lv_has ls 6 [(0, .ref (ga G 63))] := hl
    have hP : va_P (gD G) vwCl (WX G u17 ++ gF G) H := hP
    refine lv_aload_n hx hb dX8_done_128 rfl (lv_at hl 0 rfl) ?_
    refine ggX_49 X E hP inX8_done_X8 lkX8_done_0 dX8_done_129 ?_
    obtain ⟨u19, h20, hf⟩ := g_bind hf
    refine g_vi (rest := []) X E hP hS (tcX3_count_now l G _  h20) (g_cwV X gX8_done_X3_count rfl hdX3_count ⟨Nat.le_of_ble_eq_true rfl, Nat.le_of_ble_eq_true rfl⟩) (rcX_now E hP) rfl hl.1 rfl (Nat.le_of_ble_eq_true rfl) dX8_done_132 ⟨Nat.le_refl _, Nat.le_refl _⟩ (fun H locs hP hS => ?_)
    obtain rfl := g_some hf
    exact g_ri X E hP hS dX8_done_135
  · have hf := g_iff hf c5
    refine lv_aload_n hx hb dX8_done_46 rfl (lv_at hl 0 rfl) ?_
    refine lv_iload_n hx hb dX8_done_47 rfl (lv_at hl 3 rfl) ?_
    obtain ⟨u21, h22, hf⟩ := g_bind hf
    refine g_vi (rest := []) X E hP hS (tcX8_refuse l G _ _ h22) (g_cwV X gX8_done_X8_refuse rfl hdX8_refuse ⟨Nat.le_of_ble_eq_true rfl, Nat.le_of_ble_eq_true rfl⟩) (rcX_main E hP) rfl hl.1 rfl (Nat.le_of_ble_eq_true rfl) dX8_done_48 ⟨Nat.le_refl _, Nat.le_refl _⟩ (fun H locs hP hS => ?_)
    obtain rfl := g_some hf
    exact g_ri X E hP hS dX8_done_51
def fX8_done_L24 (S : GS) (v1 : Int32) (v2 : Int32) (v3 : Int32) : Option (Int32 × GS) :=
  if v3 = 0 then
    (fX3_hasRoomFor_now S v2).bind fun u23 =>
    if u23 = 0 then
      fX8_done_L42 S v1 v2 (-7 : Int32)
    else
      fX8_done_L42 S v1 v2 v3
  else
    fX8_done_L42 S v1 v2 v3
set_option maxHeartbeats 4000000 in
set_option maxRecDepth 100000 in
theorem bX8_done_L24 {p : Program} {l : Launch} {e : Env} {s : State} {m : MethodId} {args : Array Value} {below : List Frame} {meth : Method} {c : Code} {G : GP} (X : GX p s m meth c args cX8_done 6 (some .int) wsX8_done RX8) (E : gE WX G s) (S : GS) (v1 : Int32) (v2 : Int32) (v3 : Int32) (R : (Int32 × GS)) (H : Heap) (locs : List Loc) (ls : Array Slot) (hf : fX8_done_L24 S v1 v2 v3 = some R) (hP : va_P (gD G) vwCl (WX G S ++ gF G) H) (hS : va_S (gA G) s.heap H locs) (hl : lv_has ls 6 [(0, .ref (ga G 63)), (1, .int v1), (2, .int v2), (3, .int v3)]) : W p l e (gR 6 131) s m args below meth c H locs 0 0 (MQ below (gQi WX G R.1 R.2) args s 0 0 (gA G)) (F0 m 24 ls []) := by
  obtain ⟨hx, hb, -, -, hown, hts, -⟩ := id X
  rw [fX8_done_L24] at hf
  refine lv_iload_n hx hb dX8_done_24 rfl (lv_at hl 3 rfl) ?_
  refine lv_if_ne (tgt := 42) hx hb dX8_done_25 (by decide) (fun c4 => ?_) (fun c4 => ?_)
  · have hf := g_iff hf c4
    exact bX8_done_L42 X E _ _ _ _ _ _ _ _ hf hP hS (lv_sub hl [0, 1, 2, 3] rfl)
  · have hf := g_ift hf c4
    refine lv_aload_n hx hb dX8_done_28 rfl (lv_at hl 0 rfl) ?_
    refine ggX_49 X E hP inX8_done_X8 lkX8_done_0 dX8_done_29 ?_
    refine lv_iload_n hx hb dX8_done_32 rfl (lv_at hl 2 rfl) ?_
    obtain ⟨u23, h24, hf⟩ := g_bind hf
    refine g_vi (rest := []) X E hP hS (tcX3_hasRoomFor_now l G _ _ h24) (g_cwV X gX8_done_X3_hasRoomFor rfl hdX3_hasRoomFor ⟨Nat.le_of_ble_eq_true rfl, Nat.le_of_ble_eq_true rfl⟩) (rcX_now E hP) rfl hl.1 rfl (Nat.le_of_ble_eq_true rfl) dX8_done_33 ⟨Nat.le_refl _, Nat.le_refl _⟩ (fun H locs hP hS => ?_)
    refine lv_if_ne (tgt := 42) hx hb dX8_done_36 (by decide) (fun c25 => ?_) (fun c25 => ?_)
    · have hf := g_iff hf c25
      exact bX8_done_L42 X E _ _ _ _ _ _ _ _ hf hP hS (lv_sub hl [0, 1, 2, 3] rfl)
    · have hf := g_ift hf c25
      refine lv_bipush (v := -7) hx hb dX8_done_39 (by decide) ?_
      refine lv_istore_n (lv' := [(3, .int (-7 : Int32)), (0, .ref (ga G 63)), (1, .int v1), (2, .int v2)]) hx hb dX8_done_41 rfl hl (by decide) rfl (fun ls hl => ?_)
      exact bX8_done_L42 X E _ _ _ _ _ _ _ _ hf hP hS (lv_sub hl [1, 2, 3, 0] rfl)
def fX8_done (S : GS) (a1 : Int32) (a2 : Int32) : Option (Int32 × GS) :=
  (fX8_bookRefusal S a1 a2).bind fun u1 =>
  if u1 = 0 then
    (fX8_firstWrong S a1 a2).bind fun u26 =>
    if u26 = (-1 : Int32) then
      fX8_done_L24 S a1 a2 u1
    else
      fX8_done_L24 S a1 a2 (-6 : Int32)
  else
    fX8_done_L24 S a1 a2 u1
set_option maxHeartbeats 4000000 in
set_option maxRecDepth 100000 in
theorem tcX8_done (l : Launch) (G : GP) (S : GS) (a1 : Int32) (a2 : Int32) {R : (Int32 × GS)} (hf : fX8_done S a1 a2 = some R) : CI l yX8_done wsX8_done 6 131 [.ref (ga G 63), .int a1, .int a2] WX G S R.1 R.2 := by
  refine g_met RX8 (cc := cX8_done) (nL := 6) (ret := (some .int)) (by decide) rfl rfl (Nat.le_of_ble_eq_true rfl) ?_
  intro p e s m below meth c ls X E hP hS hl
  have hl : lv_has ls 6 [(0, .ref (ga G 63)), (1, .int a1), (2, .int a2)] := hl
  obtain ⟨hx, hb, -, -, hown, hts, -⟩ := id X
  rw [fX8_done] at hf
  refine lv_aload_n hx hb dX8_done_0 rfl (lv_at hl 0 rfl) ?_
  refine lv_iload_n hx hb dX8_done_1 rfl (lv_at hl 1 rfl) ?_
  refine lv_iload_n hx hb dX8_done_2 rfl (lv_at hl 2 rfl) ?_
  obtain ⟨u1, h2, hf⟩ := g_bind hf
  refine g_vi (rest := []) X E hP hS (tcX8_bookRefusal l G _ _ _ h2) (g_cwV X gX8_done_X8_bookRefusal rfl hdX8_bookRefusal ⟨Nat.le_of_ble_eq_true rfl, Nat.le_of_ble_eq_true rfl⟩) (rcX_main E hP) rfl hl.1 rfl (Nat.le_of_ble_eq_true rfl) dX8_done_3 ⟨Nat.le_refl _, Nat.le_refl _⟩ (fun H locs hP hS => ?_)
  refine lv_istore_n (lv' := [(3, .int u1), (0, .ref (ga G 63)), (1, .int a1), (2, .int a2)]) hx hb dX8_done_6 rfl hl (by decide) rfl (fun ls hl => ?_)
  refine lv_iload_n hx hb dX8_done_7 rfl (lv_at hl 0 rfl) ?_
  refine lv_if_ne (tgt := 24) hx hb dX8_done_8 (by decide) (fun c3 => ?_) (fun c3 => ?_)
  · have hf := g_iff hf c3
    exact bX8_done_L24 X E _ _ _ _ _ _ _ _ hf hP hS (lv_sub hl [1, 2, 3, 0] rfl)
  · have hf := g_ift hf c3
    refine lv_aload_n hx hb dX8_done_11 rfl (lv_at hl 1 rfl) ?_
    refine lv_iload_n hx hb dX8_done_12 rfl (lv_at hl 2 rfl) ?_
    refine lv_iload_n hx hb dX8_done_13 rfl (lv_at hl 3 rfl) ?_
    obtain ⟨u26, h27, hf⟩ := g_bind hf
    refine g_vi (rest := []) X E hP hS (tcX8_firstWrong l G _ _ _ h27) (g_cwV X gX8_done_X8_firstWrong rfl hdX8_firstWrong ⟨Nat.le_of_ble_eq_true rfl, Nat.le_of_ble_eq_true rfl⟩) (rcX_main E hP) rfl hl.1 rfl (Nat.le_of_ble_eq_true rfl) dX8_done_14 ⟨Nat.le_refl _, Nat.le_refl _⟩ (fun H locs hP hS => ?_)
    refine lv_iconst (v := -1) hx hb dX8_done_17 (by decide) ?_
    refine lv_icmp_eq (tgt := 24) hx hb dX8_done_18 (by decide) (fun c28 => ?_) (fun c28 => ?_)
    · have hf := g_ift hf c28
      exact bX8_done_L24 X E _ _ _ _ _ _ _ _ hf hP hS (lv_sub hl [1, 2, 3, 0] rfl)
    · have hf := g_iff hf c28
      refine lv_bipush (v := -6) hx hb dX8_done_21 (by decide) ?_
      refine lv_istore_n (lv' := [(3, .int (-6 : Int32)), (0, .ref (ga G 63)), (1, .int a1), (2, .int a2)]) hx hb dX8_done_23 rfl hl (by decide) rfl (fun ls hl => ?_)
      exact bX8_done_L24 X E _ _ _ _ _ _ _ _ hf hP hS (lv_sub hl [1, 2, 3, 0] rfl)
theorem lkX3_dropLast_0 : Cond.fieldLink RX3 16 RX3 "setUps" "I" ∈ wsX3_dropLast := by decide +kernel
theorem inX3_dropLast_X3 : ∀ w ∈ wsX30, w ∈ wsX3_dropLast := by decide +kernel
def fX3_dropLast_now (S : GS)  : Option GS :=
  if (S.1 2) ≤ 0 then
    some S
  else
    some (gU1 S 2 ((S.1 2) - (1 : Int32)))
set_option maxHeartbeats 4000000 in
set_option maxRecDepth 100000 in
theorem tcX3_dropLast_now (l : Launch) (G : GP) (S : GS)  {R : GS} (hf : fX3_dropLast_now S  = some R) : CV l yX3_dropLast wsX3_dropLast 0 0 [.ref (ga G 15)] WX G S R := by
  refine g_met RX3 (cc := cX3_dropLast) (nL := 1) (ret := none) (by decide) rfl rfl (Nat.le_of_ble_eq_true rfl) ?_
  intro p e s m below meth c ls X E hP hS hl
  have hl : lv_has ls 1 [(0, .ref (ga G 15))] := hl
  obtain ⟨hx, hb, -, -, hown, hts, -⟩ := id X
  rw [fX3_dropLast_now] at hf
  refine lv_aload_n hx hb dX3_dropLast_0 rfl (lv_at hl 0 rfl) ?_
  refine ggX_2 X E hP inX3_dropLast_X3 lkX3_dropLast_0 dX3_dropLast_1 ?_
  refine lv_if_le (tgt := 17) hx hb dX3_dropLast_4 (by decide) (fun c1 => ?_) (fun c1 => ?_)
  · have hf := g_ift hf c1
    obtain rfl := g_some hf
    exact g_rv X E hP hS dX3_dropLast_17
  · have hf := g_iff hf c1
    refine lv_aload_n hx hb dX3_dropLast_7 rfl (lv_at hl 0 rfl) ?_
    refine lv_dup hx hb dX3_dropLast_8 rfl ?_
    refine ggX_2 X E hP inX3_dropLast_X3 lkX3_dropLast_0 dX3_dropLast_9 ?_
    refine lv_iconst (v := 1) hx hb dX3_dropLast_12 (by decide) ?_
    refine lv_isub hx hb dX3_dropLast_13 ?_
    refine gpX_2 X E hP hS inX3_dropLast_X3 lkX3_dropLast_0 dX3_dropLast_14 (fun H locs hP hS => ?_)
    obtain rfl := g_some hf
    exact g_rv X E hP hS dX3_dropLast_17
theorem lkX5_forgetFrom_0 : Cond.fieldLink RX5 11 RX5 "held" "[I" ∈ wsX5_forgetFrom := by decide +kernel
theorem inX5_forgetFrom_X5 : ∀ w ∈ wsX50, w ∈ wsX5_forgetFrom := by decide +kernel
def fX5_forgetFrom_2 : Nat → GS → Int32 → Int32 → Option GS
  | 0, _, _, _ => none
  | fu + 1, S, v1, v2 =>
    if (8 : Int32) ≤ v2 then
      some S
    else
      (fX5_holdsSetUp S v2).bind fun u2 =>
      if u2 = 0 then
        fX5_forgetFrom_2 fu S v1 (v2 + 1)
      else
        if v2 < 0 ∨ 8 ≤ (v2).toNatClampNeg then none else
        if (S.2.2.1 64 (v2).toNatClampNeg) < v1 then
          fX5_forgetFrom_2 fu S v1 (v2 + 1)
        else
          (fX5_holdSetUp S v2 (-1 : Int32)).bind fun u7 =>
          fX5_forgetFrom_2 fu u7 v1 (v2 + 1)
set_option maxHeartbeats 4000000 in
set_option maxRecDepth 100000 in
theorem bX5_forgetFrom_2 {p : Program} {l : Launch} {e : Env} {s : State} {m : MethodId} {args : Array Value} {below : List Frame} {meth : Method} {c : Code} {Q : State → Prop} {G : GP} (X : GX p s m meth c args cX5_forgetFrom 3 none wsX5_forgetFrom RX5) (E : gE WX G s)  : ∀ (fu : Nat) (S : GS) (v1 : Int32) (v2 : Int32) (R : GS) (H : Heap) (locs : List Loc) (ls : Array Slot) (_ : fX5_forgetFrom_2 fu S v1 v2 = some R) (_ : va_P (gD G) vwCl (WX G S ++ gF G) H) (_ : va_S (gA G) s.heap H locs) (_ : lv_has ls 3 [(0, .ref (ga G 79)), (1, .int v1), (2, .int v2)]) (_ : ∀ (H : Heap) (locs : List Loc) (ls : Array Slot), va_P (gD G) vwCl (WX G R ++ gF G) H → va_S (gA G) s.heap H locs → lv_has ls 3 [] → W p l e (gR 2 43) s m args below meth c H locs 0 0 Q (F0 m 38 ls [])), W p l e (gR 2 43) s m args below meth c H locs 0 0 Q (F0 m 2 ls []) := by
  obtain ⟨hx, hb, -, -, hown, hts, -⟩ := id X
  intro fu
  induction fu with
  | zero =>
    intro S v1 v2 R H locs ls hf
    cases (show (none : Option GS) = some R from hf)
  | succ fu ih =>
    intro S v1 v2 R H locs ls hf hP hS hl kk
    rw [fX5_forgetFrom_2] at hf
    refine lv_iload_n hx hb dX5_forgetFrom_2 rfl (lv_at hl 2 rfl) ?_
    refine lv_bipush (v := 8) hx hb dX5_forgetFrom_3 (by decide) ?_
    refine lv_icmp_ge (tgt := 38) hx hb dX5_forgetFrom_5 (by decide) (fun c1 => ?_) (fun c1 => ?_)
    · have hf := g_ift hf c1
      obtain rfl := g_some hf
      exact kk _ _ _ hP hS (lv_sub hl [] rfl)
    · have hf := g_iff hf c1
      refine lv_aload_n hx hb dX5_forgetFrom_8 rfl (lv_at hl 0 rfl) ?_
      refine lv_iload_n hx hb dX5_forgetFrom_9 rfl (lv_at hl 2 rfl) ?_
      obtain ⟨u2, h3, hf⟩ := g_bind hf
      refine g_vi (rest := []) X E hP hS (tcX5_holdsSetUp l G _ _ h3) (g_cwV X gX5_forgetFrom_X5_holdsSetUp rfl hdX5_holdsSetUp ⟨Nat.le_of_ble_eq_true rfl, Nat.le_of_ble_eq_true rfl⟩) (rcX_shelves E hP) rfl hl.1 rfl (Nat.le_of_ble_eq_true rfl) dX5_forgetFrom_10 ⟨Nat.le_refl _, Nat.le_refl _⟩ (fun H locs hP hS => ?_)
      refine lv_if_eq (tgt := 32) hx hb dX5_forgetFrom_13 (by decide) (fun c4 => ?_) (fun c4 => ?_)
      · have hf := g_ift hf c4
        refine lv_iinc (v := (v2 + 1)) (lv' := [(2, .int (v2 + 1)), (0, .ref (ga G 79)), (1, .int v1)]) hx hb dX5_forgetFrom_32 hl (k := 2) rfl rfl (by decide) rfl (fun ls hl => ?_)
        refine lv_goto (tgt := 2) hx hb dX5_forgetFrom_35 (by decide) ?_
        exact ih _ _ _ _ _ _ _ hf hP hS (lv_sub hl [1, 2, 0] rfl) kk
      · have hf := g_iff hf c4
        refine lv_aload_n hx hb dX5_forgetFrom_16 rfl (lv_at hl 0 rfl) ?_
        refine ggX_64 X E hP inX5_forgetFrom_X5 lkX5_forgetFrom_0 dX5_forgetFrom_17 ?_
        refine lv_iload_n hx hb dX5_forgetFrom_20 rfl (lv_at hl 2 rfl) ?_
        obtain ⟨b5, hf⟩ := g_if hf
        refine giX_64 X E hP b5 dX5_forgetFrom_21 ?_
        refine lv_iload_n hx hb dX5_forgetFrom_22 rfl (lv_at hl 1 rfl) ?_
        refine lv_icmp_lt (tgt := 32) hx hb dX5_forgetFrom_23 (by decide) (fun c6 => ?_) (fun c6 => ?_)
        · have hf := g_ift hf c6
          refine lv_iinc (v := (v2 + 1)) (lv' := [(2, .int (v2 + 1)), (0, .ref (ga G 79)), (1, .int v1)]) hx hb dX5_forgetFrom_32 hl (k := 2) rfl rfl (by decide) rfl (fun ls hl => ?_)
          refine lv_goto (tgt := 2) hx hb dX5_forgetFrom_35 (by decide) ?_
          exact ih _ _ _ _ _ _ _ hf hP hS (lv_sub hl [1, 2, 0] rfl) kk
        · have hf := g_iff hf c6
          refine lv_aload_n hx hb dX5_forgetFrom_26 rfl (lv_at hl 0 rfl) ?_
          refine lv_iload_n hx hb dX5_forgetFrom_27 rfl (lv_at hl 2 rfl) ?_
          refine lv_iconst (v := -1) hx hb dX5_forgetFrom_28 (by decide) ?_
          obtain ⟨u7, h8, hf⟩ := g_bind hf
          refine g_vv (rest := []) X E hP hS (tcX5_holdSetUp l G _ _ _ h8) (g_cwV X gX5_forgetFrom_X5_holdSetUp rfl hdX5_holdSetUp ⟨Nat.le_of_ble_eq_true rfl, Nat.le_of_ble_eq_true rfl⟩) (rcX_shelves E hP) rfl hl.1 rfl (Nat.le_of_ble_eq_true rfl) dX5_forgetFrom_29 ⟨Nat.le_refl _, Nat.le_refl _⟩ (fun H locs hP hS => ?_)
          refine lv_iinc (v := (v2 + 1)) (lv' := [(2, .int (v2 + 1)), (0, .ref (ga G 79)), (1, .int v1)]) hx hb dX5_forgetFrom_32 hl (k := 2) rfl rfl (by decide) rfl (fun ls hl => ?_)
          refine lv_goto (tgt := 2) hx hb dX5_forgetFrom_35 (by decide) ?_
          exact ih _ _ _ _ _ _ _ hf hP hS (lv_sub hl [1, 2, 0] rfl) kk
def fX5_forgetFrom (S : GS) (a1 : Int32) : Option GS :=
  (fX5_forgetFrom_2 gFuel S a1 (0 : Int32)).bind fun u9 =>
  some u9
set_option maxHeartbeats 4000000 in
set_option maxRecDepth 100000 in
theorem tcX5_forgetFrom (l : Launch) (G : GP) (S : GS) (a1 : Int32) {R : GS} (hf : fX5_forgetFrom S a1 = some R) : CV l yX5_forgetFrom wsX5_forgetFrom 2 43 [.ref (ga G 79), .int a1] WX G S R := by
  refine g_met RX5 (cc := cX5_forgetFrom) (nL := 3) (ret := none) (by decide) rfl rfl (Nat.le_of_ble_eq_true rfl) ?_
  intro p e s m below meth c ls X E hP hS hl
  have hl : lv_has ls 3 [(0, .ref (ga G 79)), (1, .int a1)] := hl
  obtain ⟨hx, hb, -, -, hown, hts, -⟩ := id X
  rw [fX5_forgetFrom] at hf
  refine lv_iconst (v := 0) hx hb dX5_forgetFrom_0 (by decide) ?_
  refine lv_istore_n (lv' := [(2, .int (0 : Int32)), (0, .ref (ga G 79)), (1, .int a1)]) hx hb dX5_forgetFrom_1 rfl hl (by decide) rfl (fun ls hl => ?_)
  obtain ⟨u9, h10, hf⟩ := g_bind hf
  refine bX5_forgetFrom_2 X E gFuel _ _ _ u9 _ _ _ h10 hP hS (lv_sub hl [1, 2, 0] rfl) (fun H locs ls hP hS hl => ?_)
  have hl : lv_has ls 3 [] := hl
  have hP : va_P (gD G) vwCl (WX G u9 ++ gF G) H := hP
  obtain rfl := g_some hf
  exact g_rv X E hP hS dX5_forgetFrom_38
theorem lkX8_drop_0 : Cond.fieldLink RX8 19 RX8 "now" "LBackToTheFirstStone$Loop;" ∈ wsX8_drop := by decide +kernel
theorem lkX8_drop_1 : Cond.fieldLink RX8 10 RX8 "shelves" "LBackToTheFirstStone$Shelves;" ∈ wsX8_drop := by decide +kernel
theorem inX8_drop_X8 : ∀ w ∈ wsX80, w ∈ wsX8_drop := by decide +kernel
def fX8_drop (S : GS)  : Option (Int32 × GS) :=
  (fX3_count_now S).bind fun u1 =>
  if u1 = 0 then
    (fX8_refuse S (-6 : Int32)).bind fun u12 =>
    some (u12.1, u12.2)
  else
    (fX3_dropLast_now S).bind fun u4 =>
    (fX3_count_now u4).bind fun u6 =>
    (fX5_forgetFrom u4 u6).bind fun u8 =>
    (fX3_count_now u8).bind fun u10 =>
    some (u10, u8)
set_option maxHeartbeats 4000000 in
set_option maxRecDepth 100000 in
theorem tcX8_drop (l : Launch) (G : GP) (S : GS)  {R : (Int32 × GS)} (hf : fX8_drop S  = some R) : CI l yX8_drop wsX8_drop 3 65 [.ref (ga G 63)] WX G S R.1 R.2 := by
  refine g_met RX8 (cc := cX8_drop) (nL := 1) (ret := (some .int)) (by decide) rfl rfl (Nat.le_of_ble_eq_true rfl) ?_
  intro p e s m below meth c ls X E hP hS hl
  have hl : lv_has ls 1 [(0, .ref (ga G 63))] := hl
  obtain ⟨hx, hb, -, -, hown, hts, -⟩ := id X
  rw [fX8_drop] at hf
  refine lv_aload_n hx hb dX8_drop_0 rfl (lv_at hl 0 rfl) ?_
  refine ggX_49 X E hP inX8_drop_X8 lkX8_drop_0 dX8_drop_1 ?_
  obtain ⟨u1, h2, hf⟩ := g_bind hf
  refine g_vi (rest := []) X E hP hS (tcX3_count_now l G _  h2) (g_cwV X gX8_drop_X3_count rfl hdX3_count ⟨Nat.le_of_ble_eq_true rfl, Nat.le_of_ble_eq_true rfl⟩) (rcX_now E hP) rfl hl.1 rfl (Nat.le_of_ble_eq_true rfl) dX8_drop_4 ⟨Nat.le_refl _, Nat.le_refl _⟩ (fun H locs hP hS => ?_)
  refine lv_if_ne (tgt := 17) hx hb dX8_drop_7 (by decide) (fun c3 => ?_) (fun c3 => ?_)
  · have hf := g_iff hf c3
    refine lv_aload_n hx hb dX8_drop_17 rfl (lv_at hl 0 rfl) ?_
    refine ggX_49 X E hP inX8_drop_X8 lkX8_drop_0 dX8_drop_18 ?_
    obtain ⟨u4, h5, hf⟩ := g_bind hf
    refine g_vv (rest := []) X E hP hS (tcX3_dropLast_now l G _  h5) (g_cwV X gX8_drop_X3_dropLast rfl hdX3_dropLast ⟨Nat.le_of_ble_eq_true rfl, Nat.le_of_ble_eq_true rfl⟩) (rcX_now E hP) rfl hl.1 rfl (Nat.le_of_ble_eq_true rfl) dX8_drop_21 ⟨Nat.le_refl _, Nat.le_refl _⟩ (fun H locs hP hS => ?_)
    refine lv_aload_n hx hb dX8_drop_24 rfl (lv_at hl 0 rfl) ?_
    refine ggX_48 X E hP inX8_drop_X8 lkX8_drop_1 dX8_drop_25 ?_
    refine lv_aload_n hx hb dX8_drop_28 rfl (lv_at hl 0 rfl) ?_
    refine ggX_49 X E hP inX8_drop_X8 lkX8_drop_0 dX8_drop_29 ?_
    obtain ⟨u6, h7, hf⟩ := g_bind hf
    refine g_vi (rest := [.ref (ga G 79)]) X E hP hS (tcX3_count_now l G _  h7) (g_cwV X gX8_drop_X3_count rfl hdX3_count ⟨Nat.le_of_ble_eq_true rfl, Nat.le_of_ble_eq_true rfl⟩) (rcX_now E hP) rfl hl.1 rfl (Nat.le_of_ble_eq_true rfl) dX8_drop_32 ⟨Nat.le_refl _, Nat.le_refl _⟩ (fun H locs hP hS => ?_)
    obtain ⟨u8, h9, hf⟩ := g_bind hf
    refine g_vv (rest := []) X E hP hS (tcX5_forgetFrom l G _ _ h9) (g_cwV X gX8_drop_X5_forgetFrom rfl hdX5_forgetFrom ⟨Nat.le_of_ble_eq_true rfl, Nat.le_of_ble_eq_true rfl⟩) (rcX_shelves E hP) rfl hl.1 rfl (Nat.le_of_ble_eq_true rfl) dX8_drop_35 ⟨Nat.le_refl _, Nat.le_refl _⟩ (fun H locs hP hS => ?_)
    refine lv_aload_n hx hb dX8_drop_38 rfl (lv_at hl 0 rfl) ?_
    refine ggX_49 X E hP inX8_drop_X8 lkX8_drop_0 dX8_drop_39 ?_
    obtain ⟨u10, h11, hf⟩ := g_bind hf
    refine g_vi (rest := []) X E hP hS (tcX3_count_now l G _  h11) (g_cwV X gX8_drop_X3_count rfl hdX3_count ⟨Nat.le_of_ble_eq_true rfl, Nat.le_of_ble_eq_true rfl⟩) (rcX_now E hP) rfl hl.1 rfl (Nat.le_of_ble_eq_true rfl) dX8_drop_42 ⟨Nat.le_refl _, Nat.le_refl _⟩ (fun H locs hP hS => ?_)
    obtain rfl := g_some hf
    exact g_ri X E hP hS dX8_drop_45
  · have hf := g_ift hf c3
    refine lv_aload_n hx hb dX8_drop_10 rfl (lv_at hl 0 rfl) ?_
    refine lv_bipush (v := -6) hx hb dX8_drop_11 (by decide) ?_
    obtain ⟨u12, h13, hf⟩ := g_bind hf
    refine g_vi (rest := []) X E hP hS (tcX8_refuse l G _ _ h13) (g_cwV X gX8_drop_X8_refuse rfl hdX8_refuse ⟨Nat.le_of_ble_eq_true rfl, Nat.le_of_ble_eq_true rfl⟩) (rcX_main E hP) rfl hl.1 rfl (Nat.le_of_ble_eq_true rfl) dX8_drop_13 ⟨Nat.le_refl _, Nat.le_refl _⟩ (fun H locs hP hS => ?_)
    obtain rfl := g_some hf
    exact g_ri X E hP hS dX8_drop_16
def fX3_exchange_now (S : GS) (a1 : Int32) (a2 : Int32) (a3 : Int32) (a4 : Int32) : Option GS :=
  (fX3_get_now S a1 a2).bind fun u1 =>
  (fX3_get_now S a3 a4).bind fun u3 =>
  (fX3_put_now S a1 a2 u3).bind fun u5 =>
  (fX3_put_now u5 a3 a4 u1).bind fun u7 =>
  some u7
set_option maxHeartbeats 4000000 in
set_option maxRecDepth 100000 in
theorem tcX3_exchange_now (l : Launch) (G : GP) (S : GS) (a1 : Int32) (a2 : Int32) (a3 : Int32) (a4 : Int32) {R : GS} (hf : fX3_exchange_now S a1 a2 a3 a4 = some R) : CV l yX3_exchange wsX3_exchange 1 24 [.ref (ga G 15), .int a1, .int a2, .int a3, .int a4] WX G S R := by
  refine g_met RX3 (cc := cX3_exchange) (nL := 6) (ret := none) (by decide) rfl rfl (Nat.le_of_ble_eq_true rfl) ?_
  intro p e s m below meth c ls X E hP hS hl
  have hl : lv_has ls 6 [(0, .ref (ga G 15)), (1, .int a1), (2, .int a2), (3, .int a3), (4, .int a4)] := hl
  obtain ⟨hx, hb, -, -, hown, hts, -⟩ := id X
  rw [fX3_exchange_now] at hf
  refine lv_aload_n hx hb dX3_exchange_0 rfl (lv_at hl 0 rfl) ?_
  refine lv_iload_n hx hb dX3_exchange_1 rfl (lv_at hl 1 rfl) ?_
  refine lv_iload_n hx hb dX3_exchange_2 rfl (lv_at hl 2 rfl) ?_
  obtain ⟨u1, h2, hf⟩ := g_bind hf
  refine g_vi (rest := []) X E hP hS (tcX3_get_now l G _ _ _ h2) (g_cwV X gX3_exchange_X3_get rfl hdX3_get ⟨Nat.le_of_ble_eq_true rfl, Nat.le_of_ble_eq_true rfl⟩) (rcX_now E hP) rfl hl.1 rfl (Nat.le_of_ble_eq_true rfl) dX3_exchange_3 ⟨Nat.le_refl _, Nat.le_refl _⟩ (fun H locs hP hS => ?_)
  refine lv_istore (lv' := [(5, .int u1), (0, .ref (ga G 15)), (1, .int a1), (2, .int a2), (3, .int a3), (4, .int a4)]) hx hb dX3_exchange_6 hl (by decide) rfl (fun ls hl => ?_)
  refine lv_aload_n hx hb dX3_exchange_8 rfl (lv_at hl 1 rfl) ?_
  refine lv_iload_n hx hb dX3_exchange_9 rfl (lv_at hl 2 rfl) ?_
  refine lv_iload_n hx hb dX3_exchange_10 rfl (lv_at hl 3 rfl) ?_
  refine lv_aload_n hx hb dX3_exchange_11 rfl (lv_at hl 1 rfl) ?_
  refine lv_iload_n hx hb dX3_exchange_12 rfl (lv_at hl 4 rfl) ?_
  refine lv_iload hx hb dX3_exchange_13 (lv_at hl 5 rfl) ?_
  obtain ⟨u3, h4, hf⟩ := g_bind hf
  refine g_vi (rest := [.int a2, .int a1, .ref (ga G 15)]) X E hP hS (tcX3_get_now l G _ _ _ h4) (g_cwV X gX3_exchange_X3_get rfl hdX3_get ⟨Nat.le_of_ble_eq_true rfl, Nat.le_of_ble_eq_true rfl⟩) (rcX_now E hP) rfl hl.1 rfl (Nat.le_of_ble_eq_true rfl) dX3_exchange_15 ⟨Nat.le_refl _, Nat.le_refl _⟩ (fun H locs hP hS => ?_)
  obtain ⟨u5, h6, hf⟩ := g_bind hf
  refine g_vv (rest := []) X E hP hS (tcX3_put_now l G _ _ _ _ h6) (g_cwV X gX3_exchange_X3_put rfl hdX3_put ⟨Nat.le_of_ble_eq_true rfl, Nat.le_of_ble_eq_true rfl⟩) (rcX_now E hP) rfl hl.1 rfl (Nat.le_of_ble_eq_true rfl) dX3_exchange_18 ⟨Nat.le_refl _, Nat.le_refl _⟩ (fun H locs hP hS => ?_)
  refine lv_aload_n hx hb dX3_exchange_21 rfl (lv_at hl 1 rfl) ?_
  refine lv_iload_n hx hb dX3_exchange_22 rfl (lv_at hl 4 rfl) ?_
  refine lv_iload hx hb dX3_exchange_23 (lv_at hl 5 rfl) ?_
  refine lv_iload hx hb dX3_exchange_25 (lv_at hl 0 rfl) ?_
  obtain ⟨u7, h8, hf⟩ := g_bind hf
  refine g_vv (rest := []) X E hP hS (tcX3_put_now l G _ _ _ _ h8) (g_cwV X gX3_exchange_X3_put rfl hdX3_put ⟨Nat.le_of_ble_eq_true rfl, Nat.le_of_ble_eq_true rfl⟩) (rcX_now E hP) rfl hl.1 rfl (Nat.le_of_ble_eq_true rfl) dX3_exchange_27 ⟨Nat.le_refl _, Nat.le_refl _⟩ (fun H locs hP hS => ?_)
  obtain rfl := g_some hf
  exact g_rv X E hP hS dX3_exchange_30
theorem lkX3_goOtherWay_0 : Cond.fieldLink RX3 16 RX3 "setUps" "I" ∈ wsX3_goOtherWay := by decide +kernel
theorem inX3_goOtherWay_X3 : ∀ w ∈ wsX30, w ∈ wsX3_goOtherWay := by decide +kernel
def fX3_goOtherWay_now_16 : Nat → GS → Int32 → Int32 → Option GS
  | 0, _, _, _ => none
  | fu + 1, S, v1, v2 =>
    if (8 : Int32) ≤ v2 then
      some S
    else
      (fX3_exchange_now S v1 v2 (((S.1 2) - (1 : Int32)) - v1) v2).bind fun u3 =>
      fX3_goOtherWay_now_16 fu u3 v1 (v2 + 1)
set_option maxHeartbeats 4000000 in
set_option maxRecDepth 100000 in
theorem bX3_goOtherWay_now_16 {p : Program} {l : Launch} {e : Env} {s : State} {m : MethodId} {args : Array Value} {below : List Frame} {meth : Method} {c : Code} {Q : State → Prop} {G : GP} (X : GX p s m meth c args cX3_goOtherWay 3 none wsX3_goOtherWay RX3) (E : gE WX G s)  : ∀ (fu : Nat) (S : GS) (v1 : Int32) (v2 : Int32) (R : GS) (H : Heap) (locs : List Loc) (ls : Array Slot) (_ : fX3_goOtherWay_now_16 fu S v1 v2 = some R) (_ : va_P (gD G) vwCl (WX G S ++ gF G) H) (_ : va_S (gA G) s.heap H locs) (_ : lv_has ls 3 [(0, .ref (ga G 15)), (1, .int v1), (2, .int v2)]) (_ : ∀ (H : Heap) (locs : List Loc) (ls : Array Slot), va_P (gD G) vwCl (WX G R ++ gF G) H → va_S (gA G) s.heap H locs → lv_has ls 3 [(0, .ref (ga G 15)), (1, .int v1)] → W p l e (gR 2 49) s m args below meth c H locs 0 0 Q (F0 m 43 ls [])), W p l e (gR 2 49) s m args below meth c H locs 0 0 Q (F0 m 16 ls []) := by
  obtain ⟨hx, hb, -, -, hown, hts, -⟩ := id X
  intro fu
  induction fu with
  | zero =>
    intro S v1 v2 R H locs ls hf
    cases (show (none : Option GS) = some R from hf)
  | succ fu ih =>
    intro S v1 v2 R H locs ls hf hP hS hl kk
    rw [fX3_goOtherWay_now_16] at hf
    refine lv_iload_n hx hb dX3_goOtherWay_16 rfl (lv_at hl 2 rfl) ?_
    refine lv_bipush (v := 8) hx hb dX3_goOtherWay_17 (by decide) ?_
    refine lv_icmp_ge (tgt := 43) hx hb dX3_goOtherWay_19 (by decide) (fun c2 => ?_) (fun c2 => ?_)
    · have hf := g_ift hf c2
      obtain rfl := g_some hf
      exact kk _ _ _ hP hS (lv_sub hl [0, 1] rfl)
    · have hf := g_iff hf c2
      refine lv_aload_n hx hb dX3_goOtherWay_22 rfl (lv_at hl 0 rfl) ?_
      refine lv_iload_n hx hb dX3_goOtherWay_23 rfl (lv_at hl 1 rfl) ?_
      refine lv_iload_n hx hb dX3_goOtherWay_24 rfl (lv_at hl 2 rfl) ?_
      refine lv_aload_n hx hb dX3_goOtherWay_25 rfl (lv_at hl 0 rfl) ?_
      refine ggX_2 X E hP inX3_goOtherWay_X3 lkX3_goOtherWay_0 dX3_goOtherWay_26 ?_
      refine lv_iconst (v := 1) hx hb dX3_goOtherWay_29 (by decide) ?_
      refine lv_isub hx hb dX3_goOtherWay_30 ?_
      refine lv_iload_n hx hb dX3_goOtherWay_31 rfl (lv_at hl 1 rfl) ?_
      refine lv_isub hx hb dX3_goOtherWay_32 ?_
      refine lv_iload_n hx hb dX3_goOtherWay_33 rfl (lv_at hl 2 rfl) ?_
      obtain ⟨u3, h4, hf⟩ := g_bind hf
      refine g_vv (rest := []) X E hP hS (tcX3_exchange_now l G _ _ _ _ _ h4) (g_cwV X gX3_goOtherWay_X3_exchange rfl hdX3_exchange ⟨Nat.le_of_ble_eq_true rfl, Nat.le_of_ble_eq_true rfl⟩) (rcX_now E hP) rfl hl.1 rfl (Nat.le_of_ble_eq_true rfl) dX3_goOtherWay_34 ⟨Nat.le_refl _, Nat.le_refl _⟩ (fun H locs hP hS => ?_)
      refine lv_iinc (v := (v2 + 1)) (lv' := [(2, .int (v2 + 1)), (0, .ref (ga G 15)), (1, .int v1)]) hx hb dX3_goOtherWay_37 hl (k := 2) rfl rfl (by decide) rfl (fun ls hl => ?_)
      refine lv_goto (tgt := 16) hx hb dX3_goOtherWay_40 (by decide) ?_
      exact ih _ _ _ _ _ _ _ hf hP hS (lv_sub hl [1, 2, 0] rfl) kk
def fX3_goOtherWay_now_2 : Nat → GS → Int32 → Option GS
  | 0, _, _ => none
  | fu + 1, S, v1 =>
    if (((S.1 2) - (1 : Int32)) - v1) ≤ v1 then
      some S
    else
      (fX3_goOtherWay_now_16 gFuel S v1 (0 : Int32)).bind fun u5 =>
      fX3_goOtherWay_now_2 fu u5 (v1 + 1)
set_option maxHeartbeats 4000000 in
set_option maxRecDepth 100000 in
theorem bX3_goOtherWay_now_2 {p : Program} {l : Launch} {e : Env} {s : State} {m : MethodId} {args : Array Value} {below : List Frame} {meth : Method} {c : Code} {Q : State → Prop} {G : GP} (X : GX p s m meth c args cX3_goOtherWay 3 none wsX3_goOtherWay RX3) (E : gE WX G s)  : ∀ (fu : Nat) (S : GS) (v1 : Int32) (R : GS) (H : Heap) (locs : List Loc) (ls : Array Slot) (_ : fX3_goOtherWay_now_2 fu S v1 = some R) (_ : va_P (gD G) vwCl (WX G S ++ gF G) H) (_ : va_S (gA G) s.heap H locs) (_ : lv_has ls 3 [(0, .ref (ga G 15)), (1, .int v1)]) (_ : ∀ (H : Heap) (locs : List Loc) (ls : Array Slot), va_P (gD G) vwCl (WX G R ++ gF G) H → va_S (gA G) s.heap H locs → lv_has ls 3 [(0, .ref (ga G 15))] → W p l e (gR 2 49) s m args below meth c H locs 0 0 Q (F0 m 49 ls [])), W p l e (gR 2 49) s m args below meth c H locs 0 0 Q (F0 m 2 ls []) := by
  obtain ⟨hx, hb, -, -, hown, hts, -⟩ := id X
  intro fu
  induction fu with
  | zero =>
    intro S v1 R H locs ls hf
    cases (show (none : Option GS) = some R from hf)
  | succ fu ih =>
    intro S v1 R H locs ls hf hP hS hl kk
    rw [fX3_goOtherWay_now_2] at hf
    refine lv_iload_n hx hb dX3_goOtherWay_2 rfl (lv_at hl 1 rfl) ?_
    refine lv_aload_n hx hb dX3_goOtherWay_3 rfl (lv_at hl 0 rfl) ?_
    refine ggX_2 X E hP inX3_goOtherWay_X3 lkX3_goOtherWay_0 dX3_goOtherWay_4 ?_
    refine lv_iconst (v := 1) hx hb dX3_goOtherWay_7 (by decide) ?_
    refine lv_isub hx hb dX3_goOtherWay_8 ?_
    refine lv_iload_n hx hb dX3_goOtherWay_9 rfl (lv_at hl 1 rfl) ?_
    refine lv_isub hx hb dX3_goOtherWay_10 ?_
    refine lv_icmp_ge (tgt := 49) hx hb dX3_goOtherWay_11 (by decide) (fun c1 => ?_) (fun c1 => ?_)
    · have hf := g_ift hf c1
      obtain rfl := g_some hf
      exact kk _ _ _ hP hS (lv_sub hl [0] rfl)
    · have hf := g_iff hf c1
      refine lv_iconst (v := 0) hx hb dX3_goOtherWay_14 (by decide) ?_
      refine lv_istore_n (lv' := [(2, .int (0 : Int32)), (0, .ref (ga G 15)), (1, .int v1)]) hx hb dX3_goOtherWay_15 rfl hl (by decide) rfl (fun ls hl => ?_)
      obtain ⟨u5, h6, hf⟩ := g_bind hf
      refine bX3_goOtherWay_now_16 X E gFuel _ _ _ u5 _ _ _ h6 hP hS (lv_sub hl [1, 2, 0] rfl) (fun H locs ls hP hS hl => ?_)
      have hl : lv_has ls 3 [(0, .ref (ga G 15)), (1, .int v1)] := hl
      have hP : va_P (gD G) vwCl (WX G u5 ++ gF G) H := hP
      refine lv_iinc (v := (v1 + 1)) (lv' := [(1, .int (v1 + 1)), (0, .ref (ga G 15))]) hx hb dX3_goOtherWay_43 hl (k := 1) rfl rfl (by decide) rfl (fun ls hl => ?_)
      refine lv_goto (tgt := 2) hx hb dX3_goOtherWay_46 (by decide) ?_
      exact ih _ _ _ _ _ _ hf hP hS (lv_sub hl [1, 0] rfl) kk
def fX3_goOtherWay_now_51 : Nat → GS → Int32 → Option GS
  | 0, _, _ => none
  | fu + 1, S, v1 =>
    if (S.1 2) ≤ v1 then
      some S
    else
      (fX3_exchange_now S v1 (2 : Int32) v1 (3 : Int32)).bind fun u10 =>
      (fX3_exchange_now u10 v1 (4 : Int32) v1 (5 : Int32)).bind fun u12 =>
      (fX3_get_now u12 v1 (7 : Int32)).bind fun u14 =>
      (fX3_put_now u12 v1 (7 : Int32) ((1 : Int32) - u14)).bind fun u16 =>
      fX3_goOtherWay_now_51 fu u16 (v1 + 1)
set_option maxHeartbeats 4000000 in
set_option maxRecDepth 100000 in
theorem bX3_goOtherWay_now_51 {p : Program} {l : Launch} {e : Env} {s : State} {m : MethodId} {args : Array Value} {below : List Frame} {meth : Method} {c : Code} {Q : State → Prop} {G : GP} (X : GX p s m meth c args cX3_goOtherWay 3 none wsX3_goOtherWay RX3) (E : gE WX G s)  : ∀ (fu : Nat) (S : GS) (v1 : Int32) (R : GS) (H : Heap) (locs : List Loc) (ls : Array Slot) (_ : fX3_goOtherWay_now_51 fu S v1 = some R) (_ : va_P (gD G) vwCl (WX G S ++ gF G) H) (_ : va_S (gA G) s.heap H locs) (_ : lv_has ls 3 [(0, .ref (ga G 15)), (1, .int v1)]) (_ : ∀ (H : Heap) (locs : List Loc) (ls : Array Slot), va_P (gD G) vwCl (WX G R ++ gF G) H → va_S (gA G) s.heap H locs → lv_has ls 3 [] → W p l e (gR 2 49) s m args below meth c H locs 0 0 Q (F0 m 97 ls [])), W p l e (gR 2 49) s m args below meth c H locs 0 0 Q (F0 m 51 ls []) := by
  obtain ⟨hx, hb, -, -, hown, hts, -⟩ := id X
  intro fu
  induction fu with
  | zero =>
    intro S v1 R H locs ls hf
    cases (show (none : Option GS) = some R from hf)
  | succ fu ih =>
    intro S v1 R H locs ls hf hP hS hl kk
    rw [fX3_goOtherWay_now_51] at hf
    refine lv_iload_n hx hb dX3_goOtherWay_51 rfl (lv_at hl 1 rfl) ?_
    refine lv_aload_n hx hb dX3_goOtherWay_52 rfl (lv_at hl 0 rfl) ?_
    refine ggX_2 X E hP inX3_goOtherWay_X3 lkX3_goOtherWay_0 dX3_goOtherWay_53 ?_
    refine lv_icmp_ge (tgt := 97) hx hb dX3_goOtherWay_56 (by decide) (fun c9 => ?_) (fun c9 => ?_)
    · have hf := g_ift hf c9
      obtain rfl := g_some hf
      exact kk _ _ _ hP hS (lv_sub hl [] rfl)
    · have hf := g_iff hf c9
      refine lv_aload_n hx hb dX3_goOtherWay_59 rfl (lv_at hl 0 rfl) ?_
      refine lv_iload_n hx hb dX3_goOtherWay_60 rfl (lv_at hl 1 rfl) ?_
      refine lv_iconst (v := 2) hx hb dX3_goOtherWay_61 (by decide) ?_
      refine lv_iload_n hx hb dX3_goOtherWay_62 rfl (lv_at hl 1 rfl) ?_
      refine lv_iconst (v := 3) hx hb dX3_goOtherWay_63 (by decide) ?_
      obtain ⟨u10, h11, hf⟩ := g_bind hf
      refine g_vv (rest := []) X E hP hS (tcX3_exchange_now l G _ _ _ _ _ h11) (g_cwV X gX3_goOtherWay_X3_exchange rfl hdX3_exchange ⟨Nat.le_of_ble_eq_true rfl, Nat.le_of_ble_eq_true rfl⟩) (rcX_now E hP) rfl hl.1 rfl (Nat.le_of_ble_eq_true rfl) dX3_goOtherWay_64 ⟨Nat.le_refl _, Nat.le_refl _⟩ (fun H locs hP hS => ?_)
      refine lv_aload_n hx hb dX3_goOtherWay_67 rfl (lv_at hl 0 rfl) ?_
      refine lv_iload_n hx hb dX3_goOtherWay_68 rfl (lv_at hl 1 rfl) ?_
      refine lv_iconst (v := 4) hx hb dX3_goOtherWay_69 (by decide) ?_
      refine lv_iload_n hx hb dX3_goOtherWay_70 rfl (lv_at hl 1 rfl) ?_
      refine lv_iconst (v := 5) hx hb dX3_goOtherWay_71 (by decide) ?_
      obtain ⟨u12, h13, hf⟩ := g_bind hf
      refine g_vv (rest := []) X E hP hS (tcX3_exchange_now l G _ _ _ _ _ h13) (g_cwV X gX3_goOtherWay_X3_exchange rfl hdX3_exchange ⟨Nat.le_of_ble_eq_true rfl, Nat.le_of_ble_eq_true rfl⟩) (rcX_now E hP) rfl hl.1 rfl (Nat.le_of_ble_eq_true rfl) dX3_goOtherWay_72 ⟨Nat.le_refl _, Nat.le_refl _⟩ (fun H locs hP hS => ?_)
      refine lv_aload_n hx hb dX3_goOtherWay_75 rfl (lv_at hl 0 rfl) ?_
      refine lv_iload_n hx hb dX3_goOtherWay_76 rfl (lv_at hl 1 rfl) ?_
      refine lv_bipush (v := 7) hx hb dX3_goOtherWay_77 (by decide) ?_
      refine lv_iconst (v := 1) hx hb dX3_goOtherWay_79 (by decide) ?_
      refine lv_aload_n hx hb dX3_goOtherWay_80 rfl (lv_at hl 0 rfl) ?_
      refine lv_iload_n hx hb dX3_goOtherWay_81 rfl (lv_at hl 1 rfl) ?_
      refine lv_bipush (v := 7) hx hb dX3_goOtherWay_82 (by decide) ?_
      obtain ⟨u14, h15, hf⟩ := g_bind hf
      refine g_vi (rest := [.int (1 : Int32), .int (7 : Int32), .int v1, .ref (ga G 15)]) X E hP hS (tcX3_get_now l G _ _ _ h15) (g_cwV X gX3_goOtherWay_X3_get rfl hdX3_get ⟨Nat.le_of_ble_eq_true rfl, Nat.le_of_ble_eq_true rfl⟩) (rcX_now E hP) rfl hl.1 rfl (Nat.le_of_ble_eq_true rfl) dX3_goOtherWay_84 ⟨Nat.le_refl _, Nat.le_refl _⟩ (fun H locs hP hS => ?_)
      refine lv_isub hx hb dX3_goOtherWay_87 ?_
      obtain ⟨u16, h17, hf⟩ := g_bind hf
      refine g_vv (rest := []) X E hP hS (tcX3_put_now l G _ _ _ _ h17) (g_cwV X gX3_goOtherWay_X3_put rfl hdX3_put ⟨Nat.le_of_ble_eq_true rfl, Nat.le_of_ble_eq_true rfl⟩) (rcX_now E hP) rfl hl.1 rfl (Nat.le_of_ble_eq_true rfl) dX3_goOtherWay_88 ⟨Nat.le_refl _, Nat.le_refl _⟩ (fun H locs hP hS => ?_)
      refine lv_iinc (v := (v1 + 1)) (lv' := [(1, .int (v1 + 1)), (0, .ref (ga G 15))]) hx hb dX3_goOtherWay_91 hl (k := 1) rfl rfl (by decide) rfl (fun ls hl => ?_)
      refine lv_goto (tgt := 51) hx hb dX3_goOtherWay_94 (by decide) ?_
      exact ih _ _ _ _ _ _ hf hP hS (lv_sub hl [1, 0] rfl) kk
def fX3_goOtherWay_now (S : GS)  : Option GS :=
  (fX3_goOtherWay_now_2 gFuel S (0 : Int32)).bind fun u7 =>
  (fX3_goOtherWay_now_51 gFuel u7 (0 : Int32)).bind fun u18 =>
  some u18
set_option maxHeartbeats 4000000 in
set_option maxRecDepth 100000 in
theorem tcX3_goOtherWay_now (l : Launch) (G : GP) (S : GS)  {R : GS} (hf : fX3_goOtherWay_now S  = some R) : CV l yX3_goOtherWay wsX3_goOtherWay 2 49 [.ref (ga G 15)] WX G S R := by
  refine g_met RX3 (cc := cX3_goOtherWay) (nL := 3) (ret := none) (by decide) rfl rfl (Nat.le_of_ble_eq_true rfl) ?_
  intro p e s m below meth c ls X E hP hS hl
  have hl : lv_has ls 3 [(0, .ref (ga G 15))] := hl
  obtain ⟨hx, hb, -, -, hown, hts, -⟩ := id X
  rw [fX3_goOtherWay_now] at hf
  refine lv_iconst (v := 0) hx hb dX3_goOtherWay_0 (by decide) ?_
  refine lv_istore_n (lv' := [(1, .int (0 : Int32)), (0, .ref (ga G 15))]) hx hb dX3_goOtherWay_1 rfl hl (by decide) rfl (fun ls hl => ?_)
  obtain ⟨u7, h8, hf⟩ := g_bind hf
  refine bX3_goOtherWay_now_2 X E gFuel _ _ u7 _ _ _ h8 hP hS (lv_sub hl [1, 0] rfl) (fun H locs ls hP hS hl => ?_)
  have hl : lv_has ls 3 [(0, .ref (ga G 15))] := hl
  have hP : va_P (gD G) vwCl (WX G u7 ++ gF G) H := hP
  refine lv_iconst (v := 0) hx hb dX3_goOtherWay_49 (by decide) ?_
  refine lv_istore_n (lv' := [(1, .int (0 : Int32)), (0, .ref (ga G 15))]) hx hb dX3_goOtherWay_50 rfl hl (by decide) rfl (fun ls hl => ?_)
  obtain ⟨u18, h19, hf⟩ := g_bind hf
  refine bX3_goOtherWay_now_51 X E gFuel _ _ u18 _ _ _ h19 hP hS (lv_sub hl [1, 0] rfl) (fun H locs ls hP hS hl => ?_)
  have hl : lv_has ls 3 [] := hl
  have hP : va_P (gD G) vwCl (WX G u18 ++ gF G) H := hP
  obtain rfl := g_some hf
  exact g_rv X E hP hS dX3_goOtherWay_97
theorem lkX8_turn_0 : Cond.fieldLink RX8 19 RX8 "now" "LBackToTheFirstStone$Loop;" ∈ wsX8_turn := by decide +kernel
theorem inX8_turn_X8 : ∀ w ∈ wsX80, w ∈ wsX8_turn := by decide +kernel
def fX8_turn (S : GS)  : Option (Int32 × GS) :=
  (fX3_goOtherWay_now S).bind fun u1 =>
  (fX3_count_now u1).bind fun u3 =>
  (fX3_risesAheadOf_now u1 u3).bind fun u5 =>
  some (u5, u1)
set_option maxHeartbeats 4000000 in
set_option maxRecDepth 100000 in
theorem tcX8_turn (l : Launch) (G : GP) (S : GS)  {R : (Int32 × GS)} (hf : fX8_turn S  = some R) : CI l yX8_turn wsX8_turn 5 111 [.ref (ga G 63)] WX G S R.1 R.2 := by
  refine g_met RX8 (cc := cX8_turn) (nL := 1) (ret := (some .int)) (by decide) rfl rfl (Nat.le_of_ble_eq_true rfl) ?_
  intro p e s m below meth c ls X E hP hS hl
  have hl : lv_has ls 1 [(0, .ref (ga G 63))] := hl
  obtain ⟨hx, hb, -, -, hown, hts, -⟩ := id X
  rw [fX8_turn] at hf
  refine lv_aload_n hx hb dX8_turn_0 rfl (lv_at hl 0 rfl) ?_
  refine ggX_49 X E hP inX8_turn_X8 lkX8_turn_0 dX8_turn_1 ?_
  obtain ⟨u1, h2, hf⟩ := g_bind hf
  refine g_vv (rest := []) X E hP hS (tcX3_goOtherWay_now l G _  h2) (g_cwV X gX8_turn_X3_goOtherWay rfl hdX3_goOtherWay ⟨Nat.le_of_ble_eq_true rfl, Nat.le_of_ble_eq_true rfl⟩) (rcX_now E hP) rfl hl.1 rfl (Nat.le_of_ble_eq_true rfl) dX8_turn_4 ⟨Nat.le_refl _, Nat.le_refl _⟩ (fun H locs hP hS => ?_)
  refine lv_aload_n hx hb dX8_turn_7 rfl (lv_at hl 0 rfl) ?_
  refine ggX_49 X E hP inX8_turn_X8 lkX8_turn_0 dX8_turn_8 ?_
  refine lv_aload_n hx hb dX8_turn_11 rfl (lv_at hl 0 rfl) ?_
  refine ggX_49 X E hP inX8_turn_X8 lkX8_turn_0 dX8_turn_12 ?_
  obtain ⟨u3, h4, hf⟩ := g_bind hf
  refine g_vi (rest := [.ref (ga G 15)]) X E hP hS (tcX3_count_now l G _  h4) (g_cwV X gX8_turn_X3_count rfl hdX3_count ⟨Nat.le_of_ble_eq_true rfl, Nat.le_of_ble_eq_true rfl⟩) (rcX_now E hP) rfl hl.1 rfl (Nat.le_of_ble_eq_true rfl) dX8_turn_15 ⟨Nat.le_refl _, Nat.le_refl _⟩ (fun H locs hP hS => ?_)
  obtain ⟨u5, h6, hf⟩ := g_bind hf
  refine g_vi (rest := []) X E hP hS (tcX3_risesAheadOf_now l G _ _ h6) (g_cwV X gX8_turn_X3_risesAheadOf rfl hdX3_risesAheadOf ⟨Nat.le_of_ble_eq_true rfl, Nat.le_of_ble_eq_true rfl⟩) (rcX_now E hP) rfl hl.1 rfl (Nat.le_of_ble_eq_true rfl) dX8_turn_18 ⟨Nat.le_refl _, Nat.le_refl _⟩ (fun H locs hP hS => ?_)
  obtain rfl := g_some hf
  exact g_ri X E hP hS dX8_turn_21
theorem lkX3_draw_0 : Cond.fieldLink RX3 20 RX3 "seedHeld" "I" ∈ wsX3_draw := by decide +kernel
theorem lkX3_draw_1 : Cond.constant RX3 92 (1103515245 : Int32) ∈ wsX3_draw := by decide +kernel
theorem inX3_draw_X3 : ∀ w ∈ wsX30, w ∈ wsX3_draw := by decide +kernel
def fX3_draw_now (S : GS) (a1 : Int32) : Option (Int32 × GS) :=
  if (1 : Int32) ≤ a1 then
    if a1 = 0 then none else
    some ((((((gU1 S 3 (((S.1 3) * (1103515245 : Int32)) + (12345 : Int32))).1 3)).toUInt32 >>> (((16 : Int32)).toUInt32 &&& Int32.toUInt32 31)).toInt32 - ((((gU1 S 3 (((S.1 3) * (1103515245 : Int32)) + (12345 : Int32))).1 3)).toUInt32 >>> (((16 : Int32)).toUInt32 &&& Int32.toUInt32 31)).toInt32 / a1 * a1), (gU1 S 3 (((S.1 3) * (1103515245 : Int32)) + (12345 : Int32))))
  else
    some ((0 : Int32), (gU1 S 3 (((S.1 3) * (1103515245 : Int32)) + (12345 : Int32))))
set_option maxHeartbeats 4000000 in
set_option maxRecDepth 100000 in
theorem tcX3_draw_now (l : Launch) (G : GP) (S : GS) (a1 : Int32) {R : (Int32 × GS)} (hf : fX3_draw_now S a1 = some R) : CI l yX3_draw wsX3_draw 0 0 [.ref (ga G 15), .int a1] WX G S R.1 R.2 := by
  refine g_met RX3 (cc := cX3_draw) (nL := 2) (ret := (some .int)) (by decide) rfl rfl (Nat.le_of_ble_eq_true rfl) ?_
  intro p e s m below meth c ls X E hP hS hl
  have hl : lv_has ls 2 [(0, .ref (ga G 15)), (1, .int a1)] := hl
  obtain ⟨hx, hb, -, -, hown, hts, -⟩ := id X
  rw [fX3_draw_now] at hf
  refine lv_aload_n hx hb dX3_draw_0 rfl (lv_at hl 0 rfl) ?_
  refine lv_aload_n hx hb dX3_draw_1 rfl (lv_at hl 0 rfl) ?_
  refine ggX_3 X E hP inX3_draw_X3 lkX3_draw_0 dX3_draw_2 ?_
  refine lv_ldc hx hb hown (hts _ lkX3_draw_1) dX3_draw_5 ?_
  refine lv_imul hx hb dX3_draw_7 ?_
  refine lv_sipush (v := 12345) hx hb dX3_draw_8 (by decide) ?_
  refine lv_iadd hx hb dX3_draw_11 ?_
  refine gpX_3 X E hP hS inX3_draw_X3 lkX3_draw_0 dX3_draw_12 (fun H locs hP hS => ?_)
  refine lv_iload_n hx hb dX3_draw_15 rfl (lv_at hl 1 rfl) ?_
  refine lv_iconst (v := 1) hx hb dX3_draw_16 (by decide) ?_
  refine lv_icmp_ge (tgt := 24) hx hb dX3_draw_17 (by decide) (fun c1 => ?_) (fun c1 => ?_)
  · have hf := g_ift hf c1
    refine lv_aload_n hx hb dX3_draw_24 rfl (lv_at hl 0 rfl) ?_
    refine ggX_3 X E hP inX3_draw_X3 lkX3_draw_0 dX3_draw_25 ?_
    refine lv_bipush (v := 16) hx hb dX3_draw_28 (by decide) ?_
    refine lv_iushr hx hb dX3_draw_30 rfl ?_
    refine lv_iload_n hx hb dX3_draw_31 rfl (lv_at hl 1 rfl) ?_
    obtain ⟨z2, hf⟩ := g_if hf
    refine lv_irem hx hb dX3_draw_32 z2 ?_
    obtain rfl := g_some hf
    exact g_ri X E hP hS dX3_draw_33
  · have hf := g_iff hf c1
    refine lv_iconst (v := 0) hx hb dX3_draw_20 (by decide) ?_
    refine lv_goto (tgt := 33) hx hb dX3_draw_21 (by decide) ?_
    obtain rfl := g_some hf
    exact g_ri X E hP hS dX3_draw_33
