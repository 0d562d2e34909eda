theorem hdJ0_charAt_5068e : yJ0_charAt_5068e.cls = RJ0 ∧ yJ0_charAt_5068e.cls ≠ "java/lang/invoke/MethodHandle" ∧ yJ0_charAt_5068e.cls ≠ "java/lang/invoke/VarHandle" ∧ (parseMethodDescriptor yJ0_charAt_5068e.desc).map (fun d => d.parameters.length) = some 1 := by decide +kernel
theorem hdJ0_length_8abf5 : yJ0_length_8abf5.cls = RJ0 ∧ yJ0_length_8abf5.cls ≠ "java/lang/invoke/MethodHandle" ∧ yJ0_length_8abf5.cls ≠ "java/lang/invoke/VarHandle" ∧ (parseMethodDescriptor yJ0_length_8abf5.desc).map (fun d => d.parameters.length) = some 0 := by decide +kernel
theorem hdJ6_signum_0f7a4 : yJ6_signum_0f7a4.cls = RJ6 ∧ yJ6_signum_0f7a4.cls ≠ "java/lang/invoke/MethodHandle" ∧ yJ6_signum_0f7a4.cls ≠ "java/lang/invoke/VarHandle" ∧ (parseMethodDescriptor yJ6_signum_0f7a4.desc).map (fun d => d.parameters.length) = some 1 := by decide +kernel
theorem hdX1_above : yX1_above.cls = RX1 ∧ yX1_above.cls ≠ "java/lang/invoke/MethodHandle" ∧ yX1_above.cls ≠ "java/lang/invoke/VarHandle" ∧ (parseMethodDescriptor yX1_above.desc).map (fun d => d.parameters.length) = some 1 := by decide +kernel
theorem hdX1_isUnder : yX1_isUnder.cls = RX1 ∧ yX1_isUnder.cls ≠ "java/lang/invoke/MethodHandle" ∧ yX1_isUnder.cls ≠ "java/lang/invoke/VarHandle" ∧ (parseMethodDescriptor yX1_isUnder.desc).map (fun d => d.parameters.length) = some 2 := by decide +kernel
theorem hdX3_add : yX3_add.cls = RX3 ∧ yX3_add.cls ≠ "java/lang/invoke/MethodHandle" ∧ yX3_add.cls ≠ "java/lang/invoke/VarHandle" ∧ (parseMethodDescriptor yX3_add.desc).map (fun d => d.parameters.length) = some 6 := by decide +kernel
theorem hdX3_bookedOf : yX3_bookedOf.cls = RX3 ∧ yX3_bookedOf.cls ≠ "java/lang/invoke/MethodHandle" ∧ yX3_bookedOf.cls ≠ "java/lang/invoke/VarHandle" ∧ (parseMethodDescriptor yX3_bookedOf.desc).map (fun d => d.parameters.length) = some 1 := by decide +kernel
theorem hdX3_count : yX3_count.cls = RX3 ∧ yX3_count.cls ≠ "java/lang/invoke/MethodHandle" ∧ yX3_count.cls ≠ "java/lang/invoke/VarHandle" ∧ (parseMethodDescriptor yX3_count.desc).map (fun d => d.parameters.length) = some 0 := by decide +kernel
theorem hdX3_errorOf : yX3_errorOf.cls = RX3 ∧ yX3_errorOf.cls ≠ "java/lang/invoke/MethodHandle" ∧ yX3_errorOf.cls ≠ "java/lang/invoke/VarHandle" ∧ (parseMethodDescriptor yX3_errorOf.desc).map (fun d => d.parameters.length) = some 2 := by decide +kernel
theorem hdX3_fits : yX3_fits.cls = RX3 ∧ yX3_fits.cls ≠ "java/lang/invoke/MethodHandle" ∧ yX3_fits.cls ≠ "java/lang/invoke/VarHandle" ∧ (parseMethodDescriptor yX3_fits.desc).map (fun d => d.parameters.length) = some 2 := by decide +kernel
theorem hdX3_get : yX3_get.cls = RX3 ∧ yX3_get.cls ≠ "java/lang/invoke/MethodHandle" ∧ yX3_get.cls ≠ "java/lang/invoke/VarHandle" ∧ (parseMethodDescriptor yX3_get.desc).map (fun d => d.parameters.length) = some 2 := by decide +kernel
theorem hdX3_hasRoomFor : yX3_hasRoomFor.cls = RX3 ∧ yX3_hasRoomFor.cls ≠ "java/lang/invoke/MethodHandle" ∧ yX3_hasRoomFor.cls ≠ "java/lang/invoke/VarHandle" ∧ (parseMethodDescriptor yX3_hasRoomFor.desc).map (fun d => d.parameters.length) = some 1 := by decide +kernel
theorem hdX3_hasSetUp : yX3_hasSetUp.cls = RX3 ∧ yX3_hasSetUp.cls ≠ "java/lang/invoke/MethodHandle" ∧ yX3_hasSetUp.cls ≠ "java/lang/invoke/VarHandle" ∧ (parseMethodDescriptor yX3_hasSetUp.desc).map (fun d => d.parameters.length) = some 1 := by decide +kernel
theorem hdX3_put : yX3_put.cls = RX3 ∧ yX3_put.cls ≠ "java/lang/invoke/MethodHandle" ∧ yX3_put.cls ≠ "java/lang/invoke/VarHandle" ∧ (parseMethodDescriptor yX3_put.desc).map (fun d => d.parameters.length) = some 3 := by decide +kernel
theorem hdX3_putSetting : yX3_putSetting.cls = RX3 ∧ yX3_putSetting.cls ≠ "java/lang/invoke/MethodHandle" ∧ yX3_putSetting.cls ≠ "java/lang/invoke/VarHandle" ∧ (parseMethodDescriptor yX3_putSetting.desc).map (fun d => d.parameters.length) = some 2 := by decide +kernel
theorem hdX3_riseOf : yX3_riseOf.cls = RX3 ∧ yX3_riseOf.cls ≠ "java/lang/invoke/MethodHandle" ∧ yX3_riseOf.cls ≠ "java/lang/invoke/VarHandle" ∧ (parseMethodDescriptor yX3_riseOf.desc).map (fun d => d.parameters.length) = some 1 := by decide +kernel
theorem hdX3_setting : yX3_setting.cls = RX3 ∧ yX3_setting.cls ≠ "java/lang/invoke/MethodHandle" ∧ yX3_setting.cls ≠ "java/lang/invoke/VarHandle" ∧ (parseMethodDescriptor yX3_setting.desc).map (fun d => d.parameters.length) = some 1 := by decide +kernel
theorem hdX3_sunkBy : yX3_sunkBy.cls = RX3 ∧ yX3_sunkBy.cls ≠ "java/lang/invoke/MethodHandle" ∧ yX3_sunkBy.cls ≠ "java/lang/invoke/VarHandle" ∧ (parseMethodDescriptor yX3_sunkBy.desc).map (fun d => d.parameters.length) = some 1 := by decide +kernel
theorem hdX3_unevenError : yX3_unevenError.cls = RX3 ∧ yX3_unevenError.cls ≠ "java/lang/invoke/MethodHandle" ∧ yX3_unevenError.cls ≠ "java/lang/invoke/VarHandle" ∧ (parseMethodDescriptor yX3_unevenError.desc).map (fun d => d.parameters.length) = some 1 := by decide +kernel
theorem hdX3_yardsOf : yX3_yardsOf.cls = RX3 ∧ yX3_yardsOf.cls ≠ "java/lang/invoke/MethodHandle" ∧ yX3_yardsOf.cls ≠ "java/lang/invoke/VarHandle" ∧ (parseMethodDescriptor yX3_yardsOf.desc).map (fun d => d.parameters.length) = some 1 := by decide +kernel
theorem hdX4_letterAt : yX4_letterAt.cls = RX4 ∧ yX4_letterAt.cls ≠ "java/lang/invoke/MethodHandle" ∧ yX4_letterAt.cls ≠ "java/lang/invoke/VarHandle" ∧ (parseMethodDescriptor yX4_letterAt.desc).map (fun d => d.parameters.length) = some 1 := by decide +kernel
theorem hdX4_matchedOf : yX4_matchedOf.cls = RX4 ∧ yX4_matchedOf.cls ≠ "java/lang/invoke/MethodHandle" ∧ yX4_matchedOf.cls ≠ "java/lang/invoke/VarHandle" ∧ (parseMethodDescriptor yX4_matchedOf.desc).map (fun d => d.parameters.length) = some 1 := by decide +kernel
theorem hdX4_wordOf : yX4_wordOf.cls = RX4 ∧ yX4_wordOf.cls ≠ "java/lang/invoke/MethodHandle" ∧ yX4_wordOf.cls ≠ "java/lang/invoke/VarHandle" ∧ (parseMethodDescriptor yX4_wordOf.desc).map (fun d => d.parameters.length) = some 1 := by decide +kernel
theorem hdX5_elementAt : yX5_elementAt.cls = RX5 ∧ yX5_elementAt.cls ≠ "java/lang/invoke/MethodHandle" ∧ yX5_elementAt.cls ≠ "java/lang/invoke/VarHandle" ∧ (parseMethodDescriptor yX5_elementAt.desc).map (fun d => d.parameters.length) = some 2 := by decide +kernel
theorem hdX5_has : yX5_has.cls = RX5 ∧ yX5_has.cls ≠ "java/lang/invoke/MethodHandle" ∧ yX5_has.cls ≠ "java/lang/invoke/VarHandle" ∧ (parseMethodDescriptor yX5_has.desc).map (fun d => d.parameters.length) = some 1 := by decide +kernel
theorem hdX5_hasElement : yX5_hasElement.cls = RX5 ∧ yX5_hasElement.cls ≠ "java/lang/invoke/MethodHandle" ∧ yX5_hasElement.cls ≠ "java/lang/invoke/VarHandle" ∧ (parseMethodDescriptor yX5_hasElement.desc).map (fun d => d.parameters.length) = some 2 := by decide +kernel
theorem hdX5_hasStretch : yX5_hasStretch.cls = RX5 ∧ yX5_hasStretch.cls ≠ "java/lang/invoke/MethodHandle" ∧ yX5_hasStretch.cls ≠ "java/lang/invoke/VarHandle" ∧ (parseMethodDescriptor yX5_hasStretch.desc).map (fun d => d.parameters.length) = some 3 := by decide +kernel
theorem hdX5_heldBy : yX5_heldBy.cls = RX5 ∧ yX5_heldBy.cls ≠ "java/lang/invoke/MethodHandle" ∧ yX5_heldBy.cls ≠ "java/lang/invoke/VarHandle" ∧ (parseMethodDescriptor yX5_heldBy.desc).map (fun d => d.parameters.length) = some 1 := by decide +kernel
theorem hdX5_holdRow : yX5_holdRow.cls = RX5 ∧ yX5_holdRow.cls ≠ "java/lang/invoke/MethodHandle" ∧ yX5_holdRow.cls ≠ "java/lang/invoke/VarHandle" ∧ (parseMethodDescriptor yX5_holdRow.desc).map (fun d => d.parameters.length) = some 3 := by decide +kernel
theorem hdX5_holdSetUp : yX5_holdSetUp.cls = RX5 ∧ yX5_holdSetUp.cls ≠ "java/lang/invoke/MethodHandle" ∧ yX5_holdSetUp.cls ≠ "java/lang/invoke/VarHandle" ∧ (parseMethodDescriptor yX5_holdSetUp.desc).map (fun d => d.parameters.length) = some 2 := by decide +kernel
theorem hdX5_holdsSetUp : yX5_holdsSetUp.cls = RX5 ∧ yX5_holdsSetUp.cls ≠ "java/lang/invoke/MethodHandle" ∧ yX5_holdsSetUp.cls ≠ "java/lang/invoke/VarHandle" ∧ (parseMethodDescriptor yX5_holdsSetUp.desc).map (fun d => d.parameters.length) = some 1 := by decide +kernel
theorem hdX5_lengthOf : yX5_lengthOf.cls = RX5 ∧ yX5_lengthOf.cls ≠ "java/lang/invoke/MethodHandle" ∧ yX5_lengthOf.cls ≠ "java/lang/invoke/VarHandle" ∧ (parseMethodDescriptor yX5_lengthOf.desc).map (fun d => d.parameters.length) = some 1 := by decide +kernel
theorem hdX5_move : yX5_move.cls = RX5 ∧ yX5_move.cls ≠ "java/lang/invoke/MethodHandle" ∧ yX5_move.cls ≠ "java/lang/invoke/VarHandle" ∧ (parseMethodDescriptor yX5_move.desc).map (fun d => d.parameters.length) = some 5 := by decide +kernel
theorem hdX5_narrowed : yX5_narrowed.cls = RX5 ∧ yX5_narrowed.cls ≠ "java/lang/invoke/MethodHandle" ∧ yX5_narrowed.cls ≠ "java/lang/invoke/VarHandle" ∧ (parseMethodDescriptor yX5_narrowed.desc).map (fun d => d.parameters.length) = some 2 := by decide +kernel
theorem hdX5_put : yX5_put.cls = RX5 ∧ yX5_put.cls ≠ "java/lang/invoke/MethodHandle" ∧ yX5_put.cls ≠ "java/lang/invoke/VarHandle" ∧ (parseMethodDescriptor yX5_put.desc).map (fun d => d.parameters.length) = some 3 := by decide +kernel
theorem hdX8_pairRefusal : yX8_pairRefusal.cls = RX8 ∧ yX8_pairRefusal.cls ≠ "java/lang/invoke/MethodHandle" ∧ yX8_pairRefusal.cls ≠ "java/lang/invoke/VarHandle" ∧ (parseMethodDescriptor yX8_pairRefusal.desc).map (fun d => d.parameters.length) = some 2 := by decide +kernel
theorem hdX8_refuse : yX8_refuse.cls = RX8 ∧ yX8_refuse.cls ≠ "java/lang/invoke/MethodHandle" ∧ yX8_refuse.cls ≠ "java/lang/invoke/VarHandle" ∧ (parseMethodDescriptor yX8_refuse.desc).map (fun d => d.parameters.length) = some 1 := by decide +kernel
theorem hdX8_rowRefusal : yX8_rowRefusal.cls = RX8 ∧ yX8_rowRefusal.cls ≠ "java/lang/invoke/MethodHandle" ∧ yX8_rowRefusal.cls ≠ "java/lang/invoke/VarHandle" ∧ (parseMethodDescriptor yX8_rowRefusal.desc).map (fun d => d.parameters.length) = some 1 := by decide +kernel
theorem hdX8_saysRefusal : yX8_saysRefusal.cls = RX8 ∧ yX8_saysRefusal.cls ≠ "java/lang/invoke/MethodHandle" ∧ yX8_saysRefusal.cls ≠ "java/lang/invoke/VarHandle" ∧ (parseMethodDescriptor yX8_saysRefusal.desc).map (fun d => d.parameters.length) = some 2 := by decide +kernel
theorem hdX8_toldColumn : yX8_toldColumn.cls = RX8 ∧ yX8_toldColumn.cls ≠ "java/lang/invoke/MethodHandle" ∧ yX8_toldColumn.cls ≠ "java/lang/invoke/VarHandle" ∧ (parseMethodDescriptor yX8_toldColumn.desc).map (fun d => d.parameters.length) = some 1 := by decide +kernel
def fX5_has (S : GS) (a1 : Int32) : Option Int32 :=
  if a1 < 0 then
    some (0 : Int32)
  else
    if (8 : Int32) ≤ a1 then
      some (0 : Int32)
    else
      some (1 : Int32)
set_option maxHeartbeats 4000000 in
set_option maxRecDepth 100000 in
theorem tcX5_has (l : Launch) (G : GP) (S : GS) (a1 : Int32) {R : Int32} (hf : fX5_has S a1 = some R) : CI l yX5_has wsX5_has 0 0 [.ref (ga G 79), .int a1] WX G S R S := by
  refine g_met RX5 (cc := cX5_has) (nL := 2) (ret := (some .boolean)) (by decide) rfl rfl (Nat.le_of_ble_eq_true rfl) ?_
  intro p e s m below meth c ls X E hP hS hl
  have hl : lv_has ls 2 [(0, .ref (ga G 79)), (1, .int a1)] := hl
  obtain ⟨hx, hb, -, -, hown, hts, -⟩ := id X
  rw [fX5_has] at hf
  refine lv_iload_n hx hb dX5_has_0 rfl (lv_at hl 1 rfl) ?_
  refine lv_if_lt (tgt := 14) hx hb dX5_has_1 (by decide) (fun c1 => ?_) (fun c1 => ?_)
  · have hf := g_ift hf c1
    refine lv_iconst (v := 0) hx hb dX5_has_14 (by decide) ?_
    obtain rfl := g_some hf
    exact g_rz (v := (0 : Int32)) X E hP hS rfl dX5_has_15
  · have hf := g_iff hf c1
    refine lv_iload_n hx hb dX5_has_4 rfl (lv_at hl 1 rfl) ?_
    refine lv_bipush (v := 8) hx hb dX5_has_5 (by decide) ?_
    refine lv_icmp_ge (tgt := 14) hx hb dX5_has_7 (by decide) (fun c2 => ?_) (fun c2 => ?_)
    · have hf := g_ift hf c2
      refine lv_iconst (v := 0) hx hb dX5_has_14 (by decide) ?_
      obtain rfl := g_some hf
      exact g_rz (v := (0 : Int32)) X E hP hS rfl dX5_has_15
    · have hf := g_iff hf c2
      refine lv_iconst (v := 1) hx hb dX5_has_10 (by decide) ?_
      refine lv_goto (tgt := 15) hx hb dX5_has_11 (by decide) ?_
      obtain rfl := g_some hf
      exact g_rz (v := (1 : Int32)) X E hP hS rfl dX5_has_15
theorem lkX8_refuse_0 : Cond.fieldLink RX8 61 RX8 "refusals" "[I" ∈ wsX8_refuse := by decide +kernel
theorem inX8_refuse_X8 : ∀ w ∈ wsX80, w ∈ wsX8_refuse := by decide +kernel
def fX8_refuse (S : GS) (a1 : Int32) : Option (Int32 × GS) :=
  if (-1 : Int32) < a1 then
    some (a1, S)
  else
    if a1 < (-7 : Int32) then
      some (a1, S)
    else
      if (-a1) < 0 ∨ 8 ≤ (-a1).toNatClampNeg then none else
      if (-a1) < 0 ∨ 8 ≤ (-a1).toNatClampNeg then none else
      some (a1, (gU3 S 56 (-a1).toNatClampNeg ((S.2.2.1 56 (-a1).toNatClampNeg) + (1 : Int32))))
set_option maxHeartbeats 4000000 in
set_option maxRecDepth 100000 in
theorem tcX8_refuse (l : Launch) (G : GP) (S : GS) (a1 : Int32) {R : (Int32 × GS)} (hf : fX8_refuse S a1 = some R) : CI l yX8_refuse wsX8_refuse 0 0 [.ref (ga G 63), .int a1] WX G S R.1 R.2 := by
  refine g_met RX8 (cc := cX8_refuse) (nL := 2) (ret := (some .int)) (by decide) rfl rfl (Nat.le_of_ble_eq_true rfl) ?_
  intro p e s m below meth c ls X E hP hS hl
  have hl : lv_has ls 2 [(0, .ref (ga G 63)), (1, .int a1)] := hl
  obtain ⟨hx, hb, -, -, hown, hts, -⟩ := id X
  rw [fX8_refuse] at hf
  refine lv_iload_n hx hb dX8_refuse_0 rfl (lv_at hl 1 rfl) ?_
  refine lv_iconst (v := -1) hx hb dX8_refuse_1 (by decide) ?_
  refine lv_icmp_gt (tgt := 22) hx hb dX8_refuse_2 (by decide) (fun c1 => ?_) (fun c1 => ?_)
  · have hf := g_ift hf c1
    refine lv_iload_n hx hb dX8_refuse_22 rfl (lv_at hl 1 rfl) ?_
    obtain rfl := g_some hf
    exact g_ri X E hP hS dX8_refuse_23
  · have hf := g_iff hf c1
    refine lv_iload_n hx hb dX8_refuse_5 rfl (lv_at hl 1 rfl) ?_
    refine lv_bipush (v := -7) hx hb dX8_refuse_6 (by decide) ?_
    refine lv_icmp_lt (tgt := 22) hx hb dX8_refuse_8 (by decide) (fun c2 => ?_) (fun c2 => ?_)
    · have hf := g_ift hf c2
      refine lv_iload_n hx hb dX8_refuse_22 rfl (lv_at hl 1 rfl) ?_
      obtain rfl := g_some hf
      exact g_ri X E hP hS dX8_refuse_23
    · have hf := g_iff hf c2
      refine lv_aload_n hx hb dX8_refuse_11 rfl (lv_at hl 0 rfl) ?_
      refine ggX_56 X E hP inX8_refuse_X8 lkX8_refuse_0 dX8_refuse_12 ?_
      refine lv_iload_n hx hb dX8_refuse_15 rfl (lv_at hl 1 rfl) ?_
      refine lv_ineg hx hb dX8_refuse_16 ?_
      refine lv_dup2_11 hx hb dX8_refuse_17 rfl rfl ?_
      obtain ⟨b3, hf⟩ := g_if hf
      refine giX_56 X E hP b3 dX8_refuse_18 ?_
      refine lv_iconst (v := 1) hx hb dX8_refuse_19 (by decide) ?_
      refine lv_iadd hx hb dX8_refuse_20 ?_
      obtain ⟨b4, hf⟩ := g_if hf
      refine gsX_56 X E hP hS b4 dX8_refuse_21 (fun H locs hP hS => ?_)
      refine lv_iload_n hx hb dX8_refuse_22 rfl (lv_at hl 1 rfl) ?_
      obtain rfl := g_some hf
      exact g_ri X E hP hS dX8_refuse_23
theorem lkX5_holdRow_0 : Cond.fieldLink RX5 11 RX5 "held" "[I" ∈ wsX5_holdRow := by decide +kernel
theorem lkX5_holdRow_1 : Cond.fieldLink RX5 15 RX5 "lengths" "[I" ∈ wsX5_holdRow := by decide +kernel
theorem lkX5_holdRow_2 : Cond.fieldLink RX5 18 RX5 "elements" "[J" ∈ wsX5_holdRow := by decide +kernel
theorem inX5_holdRow_X5 : ∀ w ∈ wsX50, w ∈ wsX5_holdRow := by decide +kernel
def fX5_holdRow_40 : Nat → GS → Int32 → Int32 → Int32 → Option GS
  | 0, _, _, _, _ => none
  | fu + 1, S, v1, v3, v4 =>
    if v3 ≤ v4 then
      some S
    else
      if ((v1 * (160 : Int32)) + v4) < 0 ∨ 1280 ≤ ((v1 * (160 : Int32)) + v4).toNatClampNeg then none else
      fX5_holdRow_40 fu (gU4 S 66 ((v1 * (160 : Int32)) + v4).toNatClampNeg (0 : Int64)) v1 v3 (v4 + 1)
set_option maxHeartbeats 4000000 in
set_option maxRecDepth 100000 in
theorem bX5_holdRow_40 {p : Program} {l : Launch} {e : Env} {s : State} {m : MethodId} {args : Array Value} {below : List Frame} {meth : Method} {c : Code} {Q : State → Prop} {G : GP} (X : GX p s m meth c args cX5_holdRow 5 none wsX5_holdRow RX5) (E : gE WX G s)  : ∀ (fu : Nat) (S : GS) (v1 : Int32) (v3 : Int32) (v4 : Int32) (R : GS) (H : Heap) (locs : List Loc) (ls : Array Slot) (_ : fX5_holdRow_40 fu S v1 v3 v4 = some R) (_ : va_P (gD G) vwCl (WX G S ++ gF G) H) (_ : va_S (gA G) s.heap H locs) (_ : lv_has ls 5 [(0, .ref (ga G 79)), (1, .int v1), (3, .int v3), (4, .int v4)]) (_ : ∀ (H : Heap) (locs : List Loc) (ls : Array Slot), va_P (gD G) vwCl (WX G R ++ gF G) H → va_S (gA G) s.heap H locs → lv_has ls 5 [] → W p l e (gR 1 21) s m args below meth c H locs 0 0 Q (F0 m 66 ls [])), W p l e (gR 1 21) s m args below meth c H locs 0 0 Q (F0 m 40 ls []) := by
  obtain ⟨hx, hb, -, -, hown, hts, -⟩ := id X
  intro fu
  induction fu with
  | zero =>
    intro S v1 v3 v4 R H locs ls hf
    cases (show (none : Option GS) = some R from hf)
  | succ fu ih =>
    intro S v1 v3 v4 R H locs ls hf hP hS hl kk
    rw [fX5_holdRow_40] at hf
    refine lv_iload hx hb dX5_holdRow_40 (lv_at hl 3 rfl) ?_
    refine lv_iload_n hx hb dX5_holdRow_42 rfl (lv_at hl 2 rfl) ?_
    refine lv_icmp_ge (tgt := 66) hx hb dX5_holdRow_43 (by decide) (fun c8 => ?_) (fun c8 => ?_)
    · have hf := g_ift hf c8
      obtain rfl := g_some hf
      exact kk _ _ _ hP hS (lv_sub hl [] rfl)
    · have hf := g_iff hf c8
      refine lv_aload_n hx hb dX5_holdRow_46 rfl (lv_at hl 0 rfl) ?_
      refine ggX_66 X E hP inX5_holdRow_X5 lkX5_holdRow_2 dX5_holdRow_47 ?_
      refine lv_iload_n hx hb dX5_holdRow_50 rfl (lv_at hl 1 rfl) ?_
      refine lv_sipush (v := 160) hx hb dX5_holdRow_51 (by decide) ?_
      refine lv_imul hx hb dX5_holdRow_54 ?_
      refine lv_iload hx hb dX5_holdRow_55 (lv_at hl 3 rfl) ?_
      refine lv_iadd hx hb dX5_holdRow_57 ?_
      refine lv_lconst (v := 0) hx hb dX5_holdRow_58 (by decide) ?_
      obtain ⟨b9, hf⟩ := g_if hf
      refine gsX_66 X E hP hS b9 dX5_holdRow_59 (fun H locs hP hS => ?_)
      refine lv_iinc (v := (v4 + 1)) (lv' := [(4, .int (v4 + 1)), (0, .ref (ga G 79)), (1, .int v1), (3, .int v3)]) hx hb dX5_holdRow_60 hl (k := 3) rfl rfl (by decide) rfl (fun ls hl => ?_)
      refine lv_goto (tgt := 40) hx hb dX5_holdRow_63 (by decide) ?_
      exact ih _ _ _ _ _ _ _ _ hf hP hS (lv_sub hl [1, 2, 3, 0] rfl) kk
def fX5_holdRow (S : GS) (a1 : Int32) (a2 : Int32) (a3 : Int32) : Option GS :=
  (fX5_has S a1).bind fun u1 =>
  if u1 = 0 then
    some S
  else
    if a3 < 0 then
      some S
    else
      if a3 ≤ (160 : Int32) then
        if a1 < 0 ∨ 8 ≤ (a1).toNatClampNeg then none else
        if a1 < 0 ∨ 8 ≤ (a1).toNatClampNeg then none else
        (fX5_holdRow_40 gFuel (gU3 (gU3 S 64 (a1).toNatClampNeg ((100 : Int32) + a2)) 65 (a1).toNatClampNeg a3) a1 a3 (0 : Int32)).bind fun u10 =>
        some u10
      else
        some S
set_option maxHeartbeats 4000000 in
set_option maxRecDepth 100000 in
theorem tcX5_holdRow (l : Launch) (G : GP) (S : GS) (a1 : Int32) (a2 : Int32) (a3 : Int32) {R : GS} (hf : fX5_holdRow S a1 a2 a3 = some R) : CV l yX5_holdRow wsX5_holdRow 1 21 [.ref (ga G 79), .int a1, .int a2, .int a3] WX G S R := by
  refine g_met RX5 (cc := cX5_holdRow) (nL := 5) (ret := none) (by decide) rfl rfl (Nat.le_of_ble_eq_true rfl) ?_
  intro p e s m below meth c ls X E hP hS hl
  have hl : lv_has ls 5 [(0, .ref (ga G 79)), (1, .int a1), (2, .int a2), (3, .int a3)] := hl
  obtain ⟨hx, hb, -, -, hown, hts, -⟩ := id X
  rw [fX5_holdRow] at hf
  refine lv_aload_n hx hb dX5_holdRow_0 rfl (lv_at hl 0 rfl) ?_
  refine lv_iload_n hx hb dX5_holdRow_1 rfl (lv_at hl 1 rfl) ?_
  obtain ⟨u1, h2, hf⟩ := g_bind hf
  refine g_vi (rest := []) X E hP hS (tcX5_has l G _ _ h2) (g_cwV X gX5_holdRow_X5_has rfl hdX5_has ⟨Nat.le_of_ble_eq_true rfl, Nat.le_of_ble_eq_true rfl⟩) (rcX_shelves E hP) rfl hl.1 rfl (Nat.le_of_ble_eq_true rfl) dX5_holdRow_2 ⟨Nat.le_refl _, Nat.le_refl _⟩ (fun H locs hP hS => ?_)
  refine lv_if_eq (tgt := 19) hx hb dX5_holdRow_5 (by decide) (fun c3 => ?_) (fun c3 => ?_)
  · have hf := g_ift hf c3
    obtain rfl := g_some hf
    exact g_rv X E hP hS dX5_holdRow_19
  · have hf := g_iff hf c3
    refine lv_iload_n hx hb dX5_holdRow_8 rfl (lv_at hl 3 rfl) ?_
    refine lv_if_lt (tgt := 19) hx hb dX5_holdRow_9 (by decide) (fun c4 => ?_) (fun c4 => ?_)
    · have hf := g_ift hf c4
      obtain rfl := g_some hf
      exact g_rv X E hP hS dX5_holdRow_19
    · have hf := g_iff hf c4
      refine lv_iload_n hx hb dX5_holdRow_12 rfl (lv_at hl 3 rfl) ?_
      refine lv_sipush (v := 160) hx hb dX5_holdRow_13 (by decide) ?_
      refine lv_icmp_le (tgt := 20) hx hb dX5_holdRow_16 (by decide) (fun c5 => ?_) (fun c5 => ?_)
      · have hf := g_ift hf c5
        refine lv_aload_n hx hb dX5_holdRow_20 rfl (lv_at hl 0 rfl) ?_
        refine ggX_64 X E hP inX5_holdRow_X5 lkX5_holdRow_0 dX5_holdRow_21 ?_
        refine lv_iload_n hx hb dX5_holdRow_24 rfl (lv_at hl 1 rfl) ?_
        refine lv_bipush (v := 100) hx hb dX5_holdRow_25 (by decide) ?_
        refine lv_iload_n hx hb dX5_holdRow_27 rfl (lv_at hl 2 rfl) ?_
        refine lv_iadd hx hb dX5_holdRow_28 ?_
        obtain ⟨b6, hf⟩ := g_if hf
        refine gsX_64 X E hP hS b6 dX5_holdRow_29 (fun H locs hP hS => ?_)
        refine lv_aload_n hx hb dX5_holdRow_30 rfl (lv_at hl 0 rfl) ?_
        refine ggX_65 X E hP inX5_holdRow_X5 lkX5_holdRow_1 dX5_holdRow_31 ?_
        refine lv_iload_n hx hb dX5_holdRow_34 rfl (lv_at hl 1 rfl) ?_
        refine lv_iload_n hx hb dX5_holdRow_35 rfl (lv_at hl 3 rfl) ?_
        obtain ⟨b7, hf⟩ := g_if hf
        refine gsX_65 X E hP hS b7 dX5_holdRow_36 (fun H locs hP hS => ?_)
        refine lv_iconst (v := 0) hx hb dX5_holdRow_37 (by decide) ?_
        refine lv_istore (lv' := [(4, .int (0 : Int32)), (0, .ref (ga G 79)), (1, .int a1), (2, .int a2), (3, .int a3)]) hx hb dX5_holdRow_38 hl (by decide) rfl (fun ls hl => ?_)
        obtain ⟨u10, h11, hf⟩ := g_bind hf
        refine bX5_holdRow_40 X E gFuel _ _ _ _ u10 _ _ _ h11 hP hS (lv_sub hl [1, 2, 4, 0] rfl) (fun H locs ls hP hS hl => ?_)
        have hl : lv_has ls 5 [] := hl
        have hP : va_P (gD G) vwCl (WX G u10 ++ gF G) H := hP
        obtain rfl := g_some hf
        exact g_rv X E hP hS dX5_holdRow_66
      · have hf := g_iff hf c5
        obtain rfl := g_some hf
        exact g_rv X E hP hS dX5_holdRow_19
theorem lkX8_row_0 : Cond.fieldLink RX8 10 RX8 "shelves" "LBackToTheFirstStone$Shelves;" ∈ wsX8_row := by decide +kernel
theorem inX8_row_X8 : ∀ w ∈ wsX80, w ∈ wsX8_row := by decide +kernel
def fX8_row (S : GS) (a1 : Int32) (a2 : Int32) (a3 : Int32) : Option (Int32 × GS) :=
  (fX5_has S a1).bind fun u1 =>
  if u1 = 0 then
    (fX8_refuse S (-1 : Int32)).bind fun u18 =>
    some (u18.1, u18.2)
  else
    if 0 ≤ a3 then
      if a2 < 0 then
        (fX8_refuse S (-6 : Int32)).bind fun u6 =>
        some (u6.1, u6.2)
      else
        if a2 < (4 : Int32) then
          if a3 ≤ (160 : Int32) then
            (fX5_holdRow S a1 a2 a3).bind fun u10 =>
            some ((1 : Int32), u10)
          else
            (fX8_refuse S (-7 : Int32)).bind fun u12 =>
            some (u12.1, u12.2)
        else
          (fX8_refuse S (-6 : Int32)).bind fun u14 =>
          some (u14.1, u14.2)
    else
      (fX8_refuse S (-4 : Int32)).bind fun u16 =>
      some (u16.1, u16.2)
set_option maxHeartbeats 4000000 in
set_option maxRecDepth 100000 in
theorem tcX8_row (l : Launch) (G : GP) (S : GS) (a1 : Int32) (a2 : Int32) (a3 : Int32) {R : (Int32 × GS)} (hf : fX8_row S a1 a2 a3 = some R) : CI l yX8_row wsX8_row 2 45 [.ref (ga G 63), .int a1, .int a2, .int a3] WX G S R.1 R.2 := by
  refine g_met RX8 (cc := cX8_row) (nL := 4) (ret := (some .int)) (by decide) rfl rfl (Nat.le_of_ble_eq_true rfl) ?_
  intro p e s m below meth c ls X E hP hS hl
  have hl : lv_has ls 4 [(0, .ref (ga G 63)), (1, .int a1), (2, .int a2), (3, .int a3)] := hl
  obtain ⟨hx, hb, -, -, hown, hts, -⟩ := id X
  rw [fX8_row] at hf
  refine lv_aload_n hx hb dX8_row_0 rfl (lv_at hl 0 rfl) ?_
  refine ggX_48 X E hP inX8_row_X8 lkX8_row_0 dX8_row_1 ?_
  refine lv_iload_n hx hb dX8_row_4 rfl (lv_at hl 1 rfl) ?_
  obtain ⟨u1, h2, hf⟩ := g_bind hf
  refine g_vi (rest := []) X E hP hS (tcX5_has l G _ _ h2) (g_cwV X gX8_row_X5_has rfl hdX5_has ⟨Nat.le_of_ble_eq_true rfl, Nat.le_of_ble_eq_true rfl⟩) (rcX_shelves E hP) rfl hl.1 rfl (Nat.le_of_ble_eq_true rfl) dX8_row_5 ⟨Nat.le_refl _, Nat.le_refl _⟩ (fun H locs hP hS => ?_)
  refine lv_if_ne (tgt := 17) hx hb dX8_row_8 (by decide) (fun c3 => ?_) (fun c3 => ?_)
  · have hf := g_iff hf c3
    refine lv_iload_n hx hb dX8_row_17 rfl (lv_at hl 3 rfl) ?_
    refine lv_if_ge (tgt := 28) hx hb dX8_row_18 (by decide) (fun c4 => ?_) (fun c4 => ?_)
    · have hf := g_ift hf c4
      refine lv_iload_n hx hb dX8_row_28 rfl (lv_at hl 2 rfl) ?_
      refine lv_if_lt (tgt := 37) hx hb dX8_row_29 (by decide) (fun c5 => ?_) (fun c5 => ?_)
      · have hf := g_ift hf c5
        refine lv_aload_n hx hb dX8_row_37 rfl (lv_at hl 0 rfl) ?_
        refine lv_bipush (v := -6) hx hb dX8_row_38 (by decide) ?_
        obtain ⟨u6, h7, hf⟩ := g_bind hf
        refine g_vi (rest := []) X E hP hS (tcX8_refuse l G _ _ h7) (g_cwV X gX8_row_X8_refuse rfl hdX8_refuse ⟨Nat.le_of_ble_eq_true rfl, Nat.le_of_ble_eq_true rfl⟩) (rcX_main E hP) rfl hl.1 rfl (Nat.le_of_ble_eq_true rfl) dX8_row_40 ⟨Nat.le_refl _, Nat.le_refl _⟩ (fun H locs hP hS => ?_)
        obtain rfl := g_some hf
        exact g_ri X E hP hS dX8_row_43
      · have hf := g_iff hf c5
        refine lv_iload_n hx hb dX8_row_32 rfl (lv_at hl 2 rfl) ?_
        refine lv_iconst (v := 4) hx hb dX8_row_33 (by decide) ?_
        refine lv_icmp_lt (tgt := 44) hx hb dX8_row_34 (by decide) (fun c8 => ?_) (fun c8 => ?_)
        · have hf := g_ift hf c8
          refine lv_iload_n hx hb dX8_row_44 rfl (lv_at hl 3 rfl) ?_
          refine lv_sipush (v := 160) hx hb dX8_row_45 (by decide) ?_
          refine lv_icmp_le (tgt := 58) hx hb dX8_row_48 (by decide) (fun c9 => ?_) (fun c9 => ?_)
          · have hf := g_ift hf c9
            refine lv_aload_n hx hb dX8_row_58 rfl (lv_at hl 0 rfl) ?_
            refine ggX_48 X E hP inX8_row_X8 lkX8_row_0 dX8_row_59 ?_
            refine lv_iload_n hx hb dX8_row_62 rfl (lv_at hl 1 rfl) ?_
            refine lv_iload_n hx hb dX8_row_63 rfl (lv_at hl 2 rfl) ?_
            refine lv_iload_n hx hb dX8_row_64 rfl (lv_at hl 3 rfl) ?_
            obtain ⟨u10, h11, hf⟩ := g_bind hf
            refine g_vv (rest := []) X E hP hS (tcX5_holdRow l G _ _ _ _ h11) (g_cwV X gX8_row_X5_holdRow rfl hdX5_holdRow ⟨Nat.le_of_ble_eq_true rfl, Nat.le_of_ble_eq_true rfl⟩) (rcX_shelves E hP) rfl hl.1 rfl (Nat.le_of_ble_eq_true rfl) dX8_row_65 ⟨Nat.le_refl _, Nat.le_refl _⟩ (fun H locs hP hS => ?_)
            refine lv_iconst (v := 1) hx hb dX8_row_68 (by decide) ?_
            obtain rfl := g_some hf
            exact g_ri X E hP hS dX8_row_69
          · have hf := g_iff hf c9
            refine lv_aload_n hx hb dX8_row_51 rfl (lv_at hl 0 rfl) ?_
            refine lv_bipush (v := -7) hx hb dX8_row_52 (by decide) ?_
            obtain ⟨u12, h13, hf⟩ := g_bind hf
            refine g_vi (rest := []) X E hP hS (tcX8_refuse l G _ _ h13) (g_cwV X gX8_row_X8_refuse rfl hdX8_refuse ⟨Nat.le_of_ble_eq_true rfl, Nat.le_of_ble_eq_true rfl⟩) (rcX_main E hP) rfl hl.1 rfl (Nat.le_of_ble_eq_true rfl) dX8_row_54 ⟨Nat.le_refl _, Nat.le_refl _⟩ (fun H locs hP hS => ?_)
            obtain rfl := g_some hf
            exact g_ri X E hP hS dX8_row_57
        · have hf := g_iff hf c8
          refine lv_aload_n hx hb dX8_row_37 rfl (lv_at hl 0 rfl) ?_
          refine lv_bipush (v := -6) hx hb dX8_row_38 (by decide) ?_
          obtain ⟨u14, h15, hf⟩ := g_bind hf
          refine g_vi (rest := []) X E hP hS (tcX8_refuse l G _ _ h15) (g_cwV X gX8_row_X8_refuse rfl hdX8_refuse ⟨Nat.le_of_ble_eq_true rfl, Nat.le_of_ble_eq_true rfl⟩) (rcX_main E hP) rfl hl.1 rfl (Nat.le_of_ble_eq_true rfl) dX8_row_40 ⟨Nat.le_refl _, Nat.le_refl _⟩ (fun H locs hP hS => ?_)
          obtain rfl := g_some hf
          exact g_ri X E hP hS dX8_row_43
    · have hf := g_iff hf c4
      refine lv_aload_n hx hb dX8_row_21 rfl (lv_at hl 0 rfl) ?_
      refine lv_bipush (v := -4) hx hb dX8_row_22 (by decide) ?_
      obtain ⟨u16, h17, hf⟩ := g_bind hf
      refine g_vi (rest := []) X E hP hS (tcX8_refuse l G _ _ h17) (g_cwV X gX8_row_X8_refuse rfl hdX8_refuse ⟨Nat.le_of_ble_eq_true rfl, Nat.le_of_ble_eq_true rfl⟩) (rcX_main E hP) rfl hl.1 rfl (Nat.le_of_ble_eq_true rfl) dX8_row_24 ⟨Nat.le_refl _, Nat.le_refl _⟩ (fun H locs hP hS => ?_)
      obtain rfl := g_some hf
      exact g_ri X E hP hS dX8_row_27
  · have hf := g_ift hf c3
    refine lv_aload_n hx hb dX8_row_11 rfl (lv_at hl 0 rfl) ?_
    refine lv_iconst (v := -1) hx hb dX8_row_12 (by decide) ?_
    obtain ⟨u18, h19, hf⟩ := g_bind hf
    refine g_vi (rest := []) X E hP hS (tcX8_refuse l G _ _ h19) (g_cwV X gX8_row_X8_refuse rfl hdX8_refuse ⟨Nat.le_of_ble_eq_true rfl, Nat.le_of_ble_eq_true rfl⟩) (rcX_main E hP) rfl hl.1 rfl (Nat.le_of_ble_eq_true rfl) dX8_row_13 ⟨Nat.le_refl _, Nat.le_refl _⟩ (fun H locs hP hS => ?_)
    obtain rfl := g_some hf
    exact g_ri X E hP hS dX8_row_16
theorem lkX5_holdsSetUp_0 : Cond.fieldLink RX5 11 RX5 "held" "[I" ∈ wsX5_holdsSetUp := by decide +kernel
theorem inX5_holdsSetUp_X5 : ∀ w ∈ wsX50, w ∈ wsX5_holdsSetUp := by decide +kernel
def fX5_holdsSetUp (S : GS) (a1 : Int32) : Option Int32 :=
  (fX5_has S a1).bind fun u1 =>
  if u1 = 0 then
    some (0 : Int32)
  else
    if a1 < 0 ∨ 8 ≤ (a1).toNatClampNeg then none else
    if (S.2.2.1 64 (a1).toNatClampNeg) = (-1 : Int32) then
      some (0 : Int32)
    else
      if a1 < 0 ∨ 8 ≤ (a1).toNatClampNeg then none else
      if (100 : Int32) ≤ (S.2.2.1 64 (a1).toNatClampNeg) then
        some (0 : Int32)
      else
        some (1 : Int32)
set_option maxHeartbeats 4000000 in
set_option maxRecDepth 100000 in
theorem tcX5_holdsSetUp (l : Launch) (G : GP) (S : GS) (a1 : Int32) {R : Int32} (hf : fX5_holdsSetUp S a1 = some R) : CI l yX5_holdsSetUp wsX5_holdsSetUp 1 21 [.ref (ga G 79), .int a1] WX G S R S := by
  refine g_met RX5 (cc := cX5_holdsSetUp) (nL := 2) (ret := (some .boolean)) (by decide) rfl rfl (Nat.le_of_ble_eq_true rfl) ?_
  intro p e s m below meth c ls X E hP hS hl
  have hl : lv_has ls 2 [(0, .ref (ga G 79)), (1, .int a1)] := hl
  obtain ⟨hx, hb, -, -, hown, hts, -⟩ := id X
  rw [fX5_holdsSetUp] at hf
  refine lv_aload_n hx hb dX5_holdsSetUp_0 rfl (lv_at hl 0 rfl) ?_
  refine lv_iload_n hx hb dX5_holdsSetUp_1 rfl (lv_at hl 1 rfl) ?_
  obtain ⟨u1, h2, hf⟩ := g_bind hf
  refine g_vi (rest := []) X E hP hS (tcX5_has l G _ _ h2) (g_cwV X gX5_holdsSetUp_X5_has rfl hdX5_has ⟨Nat.le_of_ble_eq_true rfl, Nat.le_of_ble_eq_true rfl⟩) (rcX_shelves E hP) rfl hl.1 rfl (Nat.le_of_ble_eq_true rfl) dX5_holdsSetUp_2 ⟨Nat.le_refl _, Nat.le_refl _⟩ (fun H locs hP hS => ?_)
  refine lv_if_eq (tgt := 33) hx hb dX5_holdsSetUp_5 (by decide) (fun c3 => ?_) (fun c3 => ?_)
  · have hf := g_ift hf c3
    refine lv_iconst (v := 0) hx hb dX5_holdsSetUp_33 (by decide) ?_
    obtain rfl := g_some hf
    exact g_rz (v := (0 : Int32)) X E hP hS rfl dX5_holdsSetUp_34
  · have hf := g_iff hf c3
    refine lv_aload_n hx hb dX5_holdsSetUp_8 rfl (lv_at hl 0 rfl) ?_
    refine ggX_64 X E hP inX5_holdsSetUp_X5 lkX5_holdsSetUp_0 dX5_holdsSetUp_9 ?_
    refine lv_iload_n hx hb dX5_holdsSetUp_12 rfl (lv_at hl 1 rfl) ?_
    obtain ⟨b4, hf⟩ := g_if hf
    refine giX_64 X E hP b4 dX5_holdsSetUp_13 ?_
    refine lv_iconst (v := -1) hx hb dX5_holdsSetUp_14 (by decide) ?_
    refine lv_icmp_eq (tgt := 33) hx hb dX5_holdsSetUp_15 (by decide) (fun c5 => ?_) (fun c5 => ?_)
    · have hf := g_ift hf c5
      refine lv_iconst (v := 0) hx hb dX5_holdsSetUp_33 (by decide) ?_
      obtain rfl := g_some hf
      exact g_rz (v := (0 : Int32)) X E hP hS rfl dX5_holdsSetUp_34
    · have hf := g_iff hf c5
      refine lv_aload_n hx hb dX5_holdsSetUp_18 rfl (lv_at hl 0 rfl) ?_
      refine ggX_64 X E hP inX5_holdsSetUp_X5 lkX5_holdsSetUp_0 dX5_holdsSetUp_19 ?_
      refine lv_iload_n hx hb dX5_holdsSetUp_22 rfl (lv_at hl 1 rfl) ?_
      obtain ⟨b6, hf⟩ := g_if hf
      refine giX_64 X E hP b6 dX5_holdsSetUp_23 ?_
      refine lv_bipush (v := 100) hx hb dX5_holdsSetUp_24 (by decide) ?_
      refine lv_icmp_ge (tgt := 33) hx hb dX5_holdsSetUp_26 (by decide) (fun c7 => ?_) (fun c7 => ?_)
      · have hf := g_ift hf c7
        refine lv_iconst (v := 0) hx hb dX5_holdsSetUp_33 (by decide) ?_
        obtain rfl := g_some hf
        exact g_rz (v := (0 : Int32)) X E hP hS rfl dX5_holdsSetUp_34
      · have hf := g_iff hf c7
        refine lv_iconst (v := 1) hx hb dX5_holdsSetUp_29 (by decide) ?_
        refine lv_goto (tgt := 34) hx hb dX5_holdsSetUp_30 (by decide) ?_
        obtain rfl := g_some hf
        exact g_rz (v := (1 : Int32)) X E hP hS rfl dX5_holdsSetUp_34
theorem lkX5_heldBy_0 : Cond.fieldLink RX5 11 RX5 "held" "[I" ∈ wsX5_heldBy := by decide +kernel
theorem inX5_heldBy_X5 : ∀ w ∈ wsX50, w ∈ wsX5_heldBy := by decide +kernel
def fX5_heldBy (S : GS) (a1 : Int32) : Option Int32 :=
  (fX5_has S a1).bind fun u1 =>
  if u1 = 0 then
    some (-1 : Int32)
  else
    if a1 < 0 ∨ 8 ≤ (a1).toNatClampNeg then none else
    some (S.2.2.1 64 (a1).toNatClampNeg)
set_option maxHeartbeats 4000000 in
set_option maxRecDepth 100000 in
theorem tcX5_heldBy (l : Launch) (G : GP) (S : GS) (a1 : Int32) {R : Int32} (hf : fX5_heldBy S a1 = some R) : CI l yX5_heldBy wsX5_heldBy 1 21 [.ref (ga G 79), .int a1] WX G S R S := by
  refine g_met RX5 (cc := cX5_heldBy) (nL := 2) (ret := (some .int)) (by decide) rfl rfl (Nat.le_of_ble_eq_true rfl) ?_
  intro p e s m below meth c ls X E hP hS hl
  have hl : lv_has ls 2 [(0, .ref (ga G 79)), (1, .int a1)] := hl
  obtain ⟨hx, hb, -, -, hown, hts, -⟩ := id X
  rw [fX5_heldBy] at hf
  refine lv_aload_n hx hb dX5_heldBy_0 rfl (lv_at hl 0 rfl) ?_
  refine lv_iload_n hx hb dX5_heldBy_1 rfl (lv_at hl 1 rfl) ?_
  obtain ⟨u1, h2, hf⟩ := g_bind hf
  refine g_vi (rest := []) X E hP hS (tcX5_has l G _ _ h2) (g_cwV X gX5_heldBy_X5_has rfl hdX5_has ⟨Nat.le_of_ble_eq_true rfl, Nat.le_of_ble_eq_true rfl⟩) (rcX_shelves E hP) rfl hl.1 rfl (Nat.le_of_ble_eq_true rfl) dX5_heldBy_2 ⟨Nat.le_refl _, Nat.le_refl _⟩ (fun H locs hP hS => ?_)
  refine lv_if_eq (tgt := 17) hx hb dX5_heldBy_5 (by decide) (fun c3 => ?_) (fun c3 => ?_)
  · have hf := g_ift hf c3
    refine lv_iconst (v := -1) hx hb dX5_heldBy_17 (by decide) ?_
    obtain rfl := g_some hf
    exact g_ri X E hP hS dX5_heldBy_18
  · have hf := g_iff hf c3
    refine lv_aload_n hx hb dX5_heldBy_8 rfl (lv_at hl 0 rfl) ?_
    refine ggX_64 X E hP inX5_heldBy_X5 lkX5_heldBy_0 dX5_heldBy_9 ?_
    refine lv_iload_n hx hb dX5_heldBy_12 rfl (lv_at hl 1 rfl) ?_
    obtain ⟨b4, hf⟩ := g_if hf
    refine giX_64 X E hP b4 dX5_heldBy_13 ?_
    refine lv_goto (tgt := 18) hx hb dX5_heldBy_14 (by decide) ?_
    obtain rfl := g_some hf
    exact g_ri X E hP hS dX5_heldBy_18
theorem lkX8_rowRefusal_0 : Cond.fieldLink RX8 10 RX8 "shelves" "LBackToTheFirstStone$Shelves;" ∈ wsX8_rowRefusal := by decide +kernel
theorem inX8_rowRefusal_X8 : ∀ w ∈ wsX80, w ∈ wsX8_rowRefusal := by decide +kernel
def fX8_rowRefusal (S : GS) (a1 : Int32) : Option Int32 :=
  (fX5_has S a1).bind fun u1 =>
  if u1 = 0 then
    some (-1 : Int32)
  else
    (fX5_holdsSetUp S a1).bind fun u4 =>
    if u4 = 0 then
      (fX5_heldBy S a1).bind fun u7 =>
      if u7 = (-1 : Int32) then
        some (-3 : Int32)
      else
        some (0 : Int32)
    else
      some (-2 : Int32)
set_option maxHeartbeats 4000000 in
set_option maxRecDepth 100000 in
theorem tcX8_rowRefusal (l : Launch) (G : GP) (S : GS) (a1 : Int32) {R : Int32} (hf : fX8_rowRefusal S a1 = some R) : CI l yX8_rowRefusal wsX8_rowRefusal 2 42 [.ref (ga G 63), .int a1] WX G S R S := by
  refine g_met RX8 (cc := cX8_rowRefusal) (nL := 2) (ret := (some .int)) (by decide) rfl rfl (Nat.le_of_ble_eq_true rfl) ?_
  intro p e s m below meth c ls X E hP hS hl
  have hl : lv_has ls 2 [(0, .ref (ga G 63)), (1, .int a1)] := hl
  obtain ⟨hx, hb, -, -, hown, hts, -⟩ := id X
  rw [fX8_rowRefusal] at hf
  refine lv_aload_n hx hb dX8_rowRefusal_0 rfl (lv_at hl 0 rfl) ?_
  refine ggX_48 X E hP inX8_rowRefusal_X8 lkX8_rowRefusal_0 dX8_rowRefusal_1 ?_
  refine lv_iload_n hx hb dX8_rowRefusal_4 rfl (lv_at hl 1 rfl) ?_
  obtain ⟨u1, h2, hf⟩ := g_bind hf
  refine g_vi (rest := []) X E hP hS (tcX5_has l G _ _ h2) (g_cwV X gX8_rowRefusal_X5_has rfl hdX5_has ⟨Nat.le_of_ble_eq_true rfl, Nat.le_of_ble_eq_true rfl⟩) (rcX_shelves E hP) rfl hl.1 rfl (Nat.le_of_ble_eq_true rfl) dX8_rowRefusal_5 ⟨Nat.le_refl _, Nat.le_refl _⟩ (fun H locs hP hS => ?_)
  refine lv_if_ne (tgt := 13) hx hb dX8_rowRefusal_8 (by decide) (fun c3 => ?_) (fun c3 => ?_)
  · have hf := g_iff hf c3
    refine lv_aload_n hx hb dX8_rowRefusal_13 rfl (lv_at hl 0 rfl) ?_
    refine ggX_48 X E hP inX8_rowRefusal_X8 lkX8_rowRefusal_0 dX8_rowRefusal_14 ?_
    refine lv_iload_n hx hb dX8_rowRefusal_17 rfl (lv_at hl 1 rfl) ?_
    obtain ⟨u4, h5, hf⟩ := g_bind hf
    refine g_vi (rest := []) X E hP hS (tcX5_holdsSetUp l G _ _ h5) (g_cwV X gX8_rowRefusal_X5_holdsSetUp rfl hdX5_holdsSetUp ⟨Nat.le_of_ble_eq_true rfl, Nat.le_of_ble_eq_true rfl⟩) (rcX_shelves E hP) rfl hl.1 rfl (Nat.le_of_ble_eq_true rfl) dX8_rowRefusal_18 ⟨Nat.le_refl _, Nat.le_refl _⟩ (fun H locs hP hS => ?_)
    refine lv_if_eq (tgt := 27) hx hb dX8_rowRefusal_21 (by decide) (fun c6 => ?_) (fun c6 => ?_)
    · have hf := g_ift hf c6
      refine lv_aload_n hx hb dX8_rowRefusal_27 rfl (lv_at hl 0 rfl) ?_
      refine ggX_48 X E hP inX8_rowRefusal_X8 lkX8_rowRefusal_0 dX8_rowRefusal_28 ?_
      refine lv_iload_n hx hb dX8_rowRefusal_31 rfl (lv_at hl 1 rfl) ?_
      obtain ⟨u7, h8, hf⟩ := g_bind hf
      refine g_vi (rest := []) X E hP hS (tcX5_heldBy l G _ _ h8) (g_cwV X gX8_rowRefusal_X5_heldBy rfl hdX5_heldBy ⟨Nat.le_of_ble_eq_true rfl, Nat.le_of_ble_eq_true rfl⟩) (rcX_shelves E hP) rfl hl.1 rfl (Nat.le_of_ble_eq_true rfl) dX8_rowRefusal_32 ⟨Nat.le_refl _, Nat.le_refl _⟩ (fun H locs hP hS => ?_)
      refine lv_iconst (v := -1) hx hb dX8_rowRefusal_35 (by decide) ?_
      refine lv_icmp_ne (tgt := 44) hx hb dX8_rowRefusal_36 (by decide) (fun c9 => ?_) (fun c9 => ?_)
      · have hf := g_iff hf c9
        refine lv_iconst (v := 0) hx hb dX8_rowRefusal_44 (by decide) ?_
        obtain rfl := g_some hf
        exact g_ri X E hP hS dX8_rowRefusal_45
      · have hf := g_ift hf c9
        refine lv_bipush (v := -3) hx hb dX8_rowRefusal_39 (by decide) ?_
        refine lv_goto (tgt := 45) hx hb dX8_rowRefusal_41 (by decide) ?_
        obtain rfl := g_some hf
        exact g_ri X E hP hS dX8_rowRefusal_45
    · have hf := g_iff hf c6
      refine lv_bipush (v := -2) hx hb dX8_rowRefusal_24 (by decide) ?_
      obtain rfl := g_some hf
      exact g_ri X E hP hS dX8_rowRefusal_26
  · have hf := g_ift hf c3
    refine lv_iconst (v := -1) hx hb dX8_rowRefusal_11 (by decide) ?_
    obtain rfl := g_some hf
    exact g_ri X E hP hS dX8_rowRefusal_12
theorem lkX5_lengthOf_0 : Cond.fieldLink RX5 15 RX5 "lengths" "[I" ∈ wsX5_lengthOf := by decide +kernel
theorem inX5_lengthOf_X5 : ∀ w ∈ wsX50, w ∈ wsX5_lengthOf := by decide +kernel
def fX5_lengthOf (S : GS) (a1 : Int32) : Option Int32 :=
  (fX5_has S a1).bind fun u1 =>
  if u1 = 0 then
    some (0 : Int32)
  else
    if a1 < 0 ∨ 8 ≤ (a1).toNatClampNeg then none else
    some (S.2.2.1 65 (a1).toNatClampNeg)
set_option maxHeartbeats 4000000 in
set_option maxRecDepth 100000 in
theorem tcX5_lengthOf (l : Launch) (G : GP) (S : GS) (a1 : Int32) {R : Int32} (hf : fX5_lengthOf S a1 = some R) : CI l yX5_lengthOf wsX5_lengthOf 1 21 [.ref (ga G 79), .int a1] WX G S R S := by
  refine g_met RX5 (cc := cX5_lengthOf) (nL := 2) (ret := (some .int)) (by decide) rfl rfl (Nat.le_of_ble_eq_true rfl) ?_
  intro p e s m below meth c ls X E hP hS hl
  have hl : lv_has ls 2 [(0, .ref (ga G 79)), (1, .int a1)] := hl
  obtain ⟨hx, hb, -, -, hown, hts, -⟩ := id X
  rw [fX5_lengthOf] at hf
  refine lv_aload_n hx hb dX5_lengthOf_0 rfl (lv_at hl 0 rfl) ?_
  refine lv_iload_n hx hb dX5_lengthOf_1 rfl (lv_at hl 1 rfl) ?_
  obtain ⟨u1, h2, hf⟩ := g_bind hf
  refine g_vi (rest := []) X E hP hS (tcX5_has l G _ _ h2) (g_cwV X gX5_lengthOf_X5_has rfl hdX5_has ⟨Nat.le_of_ble_eq_true rfl, Nat.le_of_ble_eq_true rfl⟩) (rcX_shelves E hP) rfl hl.1 rfl (Nat.le_of_ble_eq_true rfl) dX5_lengthOf_2 ⟨Nat.le_refl _, Nat.le_refl _⟩ (fun H locs hP hS => ?_)
  refine lv_if_eq (tgt := 17) hx hb dX5_lengthOf_5 (by decide) (fun c3 => ?_) (fun c3 => ?_)
  · have hf := g_ift hf c3
    refine lv_iconst (v := 0) hx hb dX5_lengthOf_17 (by decide) ?_
    obtain rfl := g_some hf
    exact g_ri X E hP hS dX5_lengthOf_18
  · have hf := g_iff hf c3
    refine lv_aload_n hx hb dX5_lengthOf_8 rfl (lv_at hl 0 rfl) ?_
    refine ggX_65 X E hP inX5_lengthOf_X5 lkX5_lengthOf_0 dX5_lengthOf_9 ?_
    refine lv_iload_n hx hb dX5_lengthOf_12 rfl (lv_at hl 1 rfl) ?_
    obtain ⟨b4, hf⟩ := g_if hf
    refine giX_65 X E hP b4 dX5_lengthOf_13 ?_
    refine lv_goto (tgt := 18) hx hb dX5_lengthOf_14 (by decide) ?_
    obtain rfl := g_some hf
    exact g_ri X E hP hS dX5_lengthOf_18
def fX5_hasElement (S : GS) (a1 : Int32) (a2 : Int32) : Option Int32 :=
  if a2 < 0 then
    some (0 : Int32)
  else
    (fX5_lengthOf S a1).bind fun u2 =>
    if u2 ≤ a2 then
      some (0 : Int32)
    else
      some (1 : Int32)
set_option maxHeartbeats 4000000 in
set_option maxRecDepth 100000 in
theorem tcX5_hasElement (l : Launch) (G : GP) (S : GS) (a1 : Int32) (a2 : Int32) {R : Int32} (hf : fX5_hasElement S a1 a2 = some R) : CI l yX5_hasElement wsX5_hasElement 2 42 [.ref (ga G 79), .int a1, .int a2] WX G S R S := by
  refine g_met RX5 (cc := cX5_hasElement) (nL := 3) (ret := (some .boolean)) (by decide) rfl rfl (Nat.le_of_ble_eq_true rfl) ?_
  intro p e s m below meth c ls X E hP hS hl
  have hl : lv_has ls 3 [(0, .ref (ga G 79)), (1, .int a1), (2, .int a2)] := hl
  obtain ⟨hx, hb, -, -, hown, hts, -⟩ := id X
  rw [fX5_hasElement] at hf
  refine lv_iload_n hx hb dX5_hasElement_0 rfl (lv_at hl 2 rfl) ?_
  refine lv_if_lt (tgt := 17) hx hb dX5_hasElement_1 (by decide) (fun c1 => ?_) (fun c1 => ?_)
  · have hf := g_ift hf c1
    refine lv_iconst (v := 0) hx hb dX5_hasElement_17 (by decide) ?_
    obtain rfl := g_some hf
    exact g_rz (v := (0 : Int32)) X E hP hS rfl dX5_hasElement_18
  · have hf := g_iff hf c1
    refine lv_iload_n hx hb dX5_hasElement_4 rfl (lv_at hl 2 rfl) ?_
    refine lv_aload_n hx hb dX5_hasElement_5 rfl (lv_at hl 0 rfl) ?_
    refine lv_iload_n hx hb dX5_hasElement_6 rfl (lv_at hl 1 rfl) ?_
    obtain ⟨u2, h3, hf⟩ := g_bind hf
    refine g_vi (rest := [.int a2]) X E hP hS (tcX5_lengthOf l G _ _ h3) (g_cwV X gX5_hasElement_X5_lengthOf rfl hdX5_lengthOf ⟨Nat.le_of_ble_eq_true rfl, Nat.le_of_ble_eq_true rfl⟩) (rcX_shelves E hP) rfl hl.1 rfl (Nat.le_of_ble_eq_true rfl) dX5_hasElement_7 ⟨Nat.le_refl _, Nat.le_refl _⟩ (fun H locs hP hS => ?_)
    refine lv_icmp_ge (tgt := 17) hx hb dX5_hasElement_10 (by decide) (fun c4 => ?_) (fun c4 => ?_)
    · have hf := g_ift hf c4
      refine lv_iconst (v := 0) hx hb dX5_hasElement_17 (by decide) ?_
      obtain rfl := g_some hf
      exact g_rz (v := (0 : Int32)) X E hP hS rfl dX5_hasElement_18
    · have hf := g_iff hf c4
      refine lv_iconst (v := 1) hx hb dX5_hasElement_13 (by decide) ?_
      refine lv_goto (tgt := 18) hx hb dX5_hasElement_14 (by decide) ?_
      obtain rfl := g_some hf
      exact g_rz (v := (1 : Int32)) X E hP hS rfl dX5_hasElement_18
def fX5_narrowed (S : GS) (a1 : Int32) (a2 : Int64) : Option Int64 :=
  if a1 = (0 : Int32) then
    some (((a2).toInt32).toInt8.toInt32).toInt64
  else if a1 = (1 : Int32) then
    some (((a2).toInt32).toInt16.toInt32).toInt64
  else if a1 = (2 : Int32) then
    some ((a2).toInt32).toInt64
  else some a2
set_option maxHeartbeats 4000000 in
set_option maxRecDepth 100000 in
theorem tcX5_narrowed (l : Launch) (G : GP) (S : GS) (a1 : Int32) (a2 : Int64) {R : Int64} (hf : fX5_narrowed S a1 a2 = some R) : CL l yX5_narrowed wsX5_narrowed 0 0 [.int a1, .long a2] WX G S R S := by
  refine g_met RX5 (cc := cX5_narrowed) (nL := 3) (ret := (some .long)) (by decide) rfl rfl (Nat.le_of_ble_eq_true rfl) ?_
  intro p e s m below meth c ls X E hP hS hl
  have hl : lv_has ls 3 [(0, .int a1), (1, .long a2)] := hl
  obtain ⟨hx, hb, -, -, hown, hts, -⟩ := id X
  rw [fX5_narrowed] at hf
  refine lv_iload_n hx hb dX5_narrowed_0 rfl (lv_at hl 0 rfl) ?_
  by_cases c1 : a1 = (0 : Int32)
  · have hf := g_ift hf c1
    refine g_tin (k := (0 : Int32)) (off := 27) (tgt := 28) hx hb dX5_narrowed_1 c1 (by decide) ?_
    refine lv_lload_n hx hb dX5_narrowed_28 rfl (lv_at hl 1 rfl) ?_
    refine lv_l2i hx hb dX5_narrowed_29 rfl ?_
    refine lv_i2b hx hb dX5_narrowed_30 rfl ?_
    refine lv_i2l hx hb dX5_narrowed_31 rfl ?_
    obtain rfl := g_some hf
    exact g_rl X E hP hS dX5_narrowed_32
  have hf := g_iff hf c1
  by_cases c2 : a1 = (1 : Int32)
  · have hf := g_ift hf c2
    refine g_tin (k := (1 : Int32)) (off := 32) (tgt := 33) hx hb dX5_narrowed_1 c2 (by decide) ?_
    refine lv_lload_n hx hb dX5_narrowed_33 rfl (lv_at hl 1 rfl) ?_
    refine lv_l2i hx hb dX5_narrowed_34 rfl ?_
    refine lv_i2s hx hb dX5_narrowed_35 rfl ?_
    refine lv_i2l hx hb dX5_narrowed_36 rfl ?_
    obtain rfl := g_some hf
    exact g_rl X E hP hS dX5_narrowed_37
  have hf := g_iff hf c2
  by_cases c3 : a1 = (2 : Int32)
  · have hf := g_ift hf c3
    refine g_tin (k := (2 : Int32)) (off := 37) (tgt := 38) hx hb dX5_narrowed_1 c3 (by decide) ?_
    refine lv_lload_n hx hb dX5_narrowed_38 rfl (lv_at hl 1 rfl) ?_
    refine lv_l2i hx hb dX5_narrowed_39 rfl ?_
    refine lv_i2l hx hb dX5_narrowed_40 rfl ?_
    obtain rfl := g_some hf
    exact g_rl X E hP hS dX5_narrowed_41
  have hf := g_iff hf c3
  refine lv_tableOut (tgt := 42) hx hb dX5_narrowed_1 (by have e0 := lv_neT (a := 0) c1 (by decide); have e1 := lv_neT (a := 1) c2 (by decide); have e2 := lv_neT (a := 2) c3 (by decide); omega) (by decide) ?_
  refine lv_lload_n hx hb dX5_narrowed_42 rfl (lv_at hl 1 rfl) ?_
  obtain rfl := g_some hf
  exact g_rl X E hP hS dX5_narrowed_43
theorem lkX5_put_0 : Cond.fieldLink RX5 18 RX5 "elements" "[J" ∈ wsX5_put := by decide +kernel
theorem lkX5_put_1 : Cond.fieldLink RX5 11 RX5 "held" "[I" ∈ wsX5_put := by decide +kernel
theorem inX5_put_X5 : ∀ w ∈ wsX50, w ∈ wsX5_put := by decide +kernel
def fX5_put (S : GS) (a1 : Int32) (a2 : Int32) (a3 : Int64) : Option GS :=
  (fX5_hasElement S a1 a2).bind fun u1 =>
  if u1 = 0 then
    some S
  else
    if a1 < 0 ∨ 8 ≤ (a1).toNatClampNeg then none else
    (fX5_narrowed S ((S.2.2.1 64 (a1).toNatClampNeg) - (100 : Int32)) a3).bind fun u5 =>
    if ((a1 * (160 : Int32)) + a2) < 0 ∨ 1280 ≤ ((a1 * (160 : Int32)) + a2).toNatClampNeg then none else
    some (gU4 S 66 ((a1 * (160 : Int32)) + a2).toNatClampNeg u5)
set_option maxHeartbeats 4000000 in
set_option maxRecDepth 100000 in
theorem tcX5_put (l : Launch) (G : GP) (S : GS) (a1 : Int32) (a2 : Int32) (a3 : Int64) {R : GS} (hf : fX5_put S a1 a2 a3 = some R) : CV l yX5_put wsX5_put 3 64 [.ref (ga G 79), .int a1, .int a2, .long a3] WX G S R := by
  refine g_met RX5 (cc := cX5_put) (nL := 5) (ret := none) (by decide) rfl rfl (Nat.le_of_ble_eq_true rfl) ?_
  intro p e s m below meth c ls X E hP hS hl
  have hl : lv_has ls 5 [(0, .ref (ga G 79)), (1, .int a1), (2, .int a2), (3, .long a3)] := hl
  obtain ⟨hx, hb, -, -, hown, hts, -⟩ := id X
  rw [fX5_put] at hf
  refine lv_aload_n hx hb dX5_put_0 rfl (lv_at hl 0 rfl) ?_
  refine lv_iload_n hx hb dX5_put_1 rfl (lv_at hl 1 rfl) ?_
  refine lv_iload_n hx hb dX5_put_2 rfl (lv_at hl 2 rfl) ?_
  obtain ⟨u1, h2, hf⟩ := g_bind hf
  refine g_vi (rest := []) X E hP hS (tcX5_hasElement l G _ _ _ h2) (g_cwV X gX5_put_X5_hasElement rfl hdX5_hasElement ⟨Nat.le_of_ble_eq_true rfl, Nat.le_of_ble_eq_true rfl⟩) (rcX_shelves E hP) rfl hl.1 rfl (Nat.le_of_ble_eq_true rfl) dX5_put_3 ⟨Nat.le_refl _, Nat.le_refl _⟩ (fun H locs hP hS => ?_)
  refine lv_if_eq (tgt := 34) hx hb dX5_put_6 (by decide) (fun c3 => ?_) (fun c3 => ?_)
  · have hf := g_ift hf c3
    obtain rfl := g_some hf
    exact g_rv X E hP hS dX5_put_34
  · have hf := g_iff hf c3
    refine lv_aload_n hx hb dX5_put_9 rfl (lv_at hl 0 rfl) ?_
    refine ggX_66 X E hP inX5_put_X5 lkX5_put_0 dX5_put_10 ?_
    refine lv_iload_n hx hb dX5_put_13 rfl (lv_at hl 1 rfl) ?_
    refine lv_sipush (v := 160) hx hb dX5_put_14 (by decide) ?_
    refine lv_imul hx hb dX5_put_17 ?_
    refine lv_iload_n hx hb dX5_put_18 rfl (lv_at hl 2 rfl) ?_
    refine lv_iadd hx hb dX5_put_19 ?_
    refine lv_aload_n hx hb dX5_put_20 rfl (lv_at hl 0 rfl) ?_
    refine ggX_64 X E hP inX5_put_X5 lkX5_put_1 dX5_put_21 ?_
    refine lv_iload_n hx hb dX5_put_24 rfl (lv_at hl 1 rfl) ?_
    obtain ⟨b4, hf⟩ := g_if hf
    refine giX_64 X E hP b4 dX5_put_25 ?_
    refine lv_bipush (v := 100) hx hb dX5_put_26 (by decide) ?_
    refine lv_isub hx hb dX5_put_28 ?_
    refine lv_lload_n hx hb dX5_put_29 rfl (lv_at hl 3 rfl) ?_
    obtain ⟨u5, h6, hf⟩ := g_bind hf
    refine g_sl (rest := [.int ((a1 * (160 : Int32)) + a2), .ref (ga G 66)]) X E hP hS (tcX5_narrowed l G _ _ _ h6) (g_cwS X gX5_put_X5_narrowed rfl hdX5_narrowed ⟨Nat.le_of_ble_eq_true rfl, Nat.le_of_ble_eq_true rfl⟩) rfl hl.1 rfl (Nat.le_of_ble_eq_true rfl) dX5_put_30 ⟨Nat.le_refl _, Nat.le_refl _⟩ (fun H locs hP hS => ?_)
    obtain ⟨b7, hf⟩ := g_if hf
    refine gsX_66 X E hP hS b7 dX5_put_33 (fun H locs hP hS => ?_)
    obtain rfl := g_some hf
    exact g_rv X E hP hS dX5_put_34
theorem lkX8_set_0 : Cond.fieldLink RX8 10 RX8 "shelves" "LBackToTheFirstStone$Shelves;" ∈ wsX8_set := by decide +kernel
theorem inX8_set_X8 : ∀ w ∈ wsX80, w ∈ wsX8_set := by decide +kernel
def fX8_set_L28 (S : GS) (v1 : Int32) (v2 : Int32) (v3 : Int64) (v5 : Int32) : Option (Int32 × GS) :=
  if v5 = 0 then
    (fX5_put S v1 v2 v3).bind fun u5 =>
    some ((1 : Int32), u5)
  else
    (fX8_refuse S v5).bind fun u7 =>
    some (u7.1, u7.2)
set_option maxHeartbeats 4000000 in
set_option maxRecDepth 100000 in
theorem bX8_set_L28 {p : Program} {l : Launch} {e : Env} {s : State} {m : MethodId} {args : Array Value} {below : List Frame} {meth : Method} {c : Code} {G : GP} (X : GX p s m meth c args cX8_set 6 (some .int) wsX8_set RX8) (E : gE WX G s) (S : GS) (v1 : Int32) (v2 : Int32) (v3 : Int64) (v5 : Int32) (R : (Int32 × GS)) (H : Heap) (locs : List Loc) (ls : Array Slot) (hf : fX8_set_L28 S v1 v2 v3 v5 = some R) (hP : va_P (gD G) vwCl (WX G S ++ gF G) H) (hS : va_S (gA G) s.heap H locs) (hl : lv_has ls 6 [(0, .ref (ga G 63)), (1, .int v1), (2, .int v2), (3, .long v3), (5, .int v5)]) : W p l e (gR 4 88) s m args below meth c H locs 0 0 (MQ below (gQi WX G R.1 R.2) args s 0 0 (gA G)) (F0 m 28 ls []) := by
  obtain ⟨hx, hb, -, -, hown, hts, -⟩ := id X
  rw [fX8_set_L28] at hf
  refine lv_iload hx hb dX8_set_28 (lv_at hl 4 rfl) ?_
  refine lv_if_eq (tgt := 40) hx hb dX8_set_30 (by decide) (fun c4 => ?_) (fun c4 => ?_)
  · have hf := g_ift hf c4
    refine lv_aload_n hx hb dX8_set_40 rfl (lv_at hl 0 rfl) ?_
    refine ggX_48 X E hP inX8_set_X8 lkX8_set_0 dX8_set_41 ?_
    refine lv_iload_n hx hb dX8_set_44 rfl (lv_at hl 1 rfl) ?_
    refine lv_iload_n hx hb dX8_set_45 rfl (lv_at hl 2 rfl) ?_
    refine lv_lload_n hx hb dX8_set_46 rfl (lv_at hl 3 rfl) ?_
    obtain ⟨u5, h6, hf⟩ := g_bind hf
    refine g_vv (rest := []) X E hP hS (tcX5_put l G _ _ _ _ h6) (g_cwV X gX8_set_X5_put rfl hdX5_put ⟨Nat.le_of_ble_eq_true rfl, Nat.le_of_ble_eq_true rfl⟩) (rcX_shelves E hP) rfl hl.1 rfl (Nat.le_of_ble_eq_true rfl) dX8_set_47 ⟨Nat.le_refl _, Nat.le_refl _⟩ (fun H locs hP hS => ?_)
    refine lv_iconst (v := 1) hx hb dX8_set_50 (by decide) ?_
    obtain rfl := g_some hf
    exact g_ri X E hP hS dX8_set_51
  · have hf := g_iff hf c4
    refine lv_aload_n hx hb dX8_set_33 rfl (lv_at hl 0 rfl) ?_
    refine lv_iload hx hb dX8_set_34 (lv_at hl 4 rfl) ?_
    obtain ⟨u7, h8, hf⟩ := g_bind hf
    refine g_vi (rest := []) X E hP hS (tcX8_refuse l G _ _ h8) (g_cwV X gX8_set_X8_refuse rfl hdX8_refuse ⟨Nat.le_of_ble_eq_true rfl, Nat.le_of_ble_eq_true rfl⟩) (rcX_main E hP) rfl hl.1 rfl (Nat.le_of_ble_eq_true rfl) dX8_set_36 ⟨Nat.le_refl _, Nat.le_refl _⟩ (fun H locs hP hS => ?_)
    obtain rfl := g_some hf
    exact g_ri X E hP hS dX8_set_39
def fX8_set (S : GS) (a1 : Int32) (a2 : Int32) (a3 : Int64) : Option (Int32 × GS) :=
  (fX8_rowRefusal S a1).bind fun u1 =>
  if u1 = 0 then
    (fX5_hasElement S a1 a2).bind fun u9 =>
    if u9 = 0 then
      fX8_set_L28 S a1 a2 a3 (-5 : Int32)
    else
      fX8_set_L28 S a1 a2 a3 u1
  else
    fX8_set_L28 S a1 a2 a3 u1
set_option maxHeartbeats 4000000 in
set_option maxRecDepth 100000 in
theorem tcX8_set (l : Launch) (G : GP) (S : GS) (a1 : Int32) (a2 : Int32) (a3 : Int64) {R : (Int32 × GS)} (hf : fX8_set S a1 a2 a3 = some R) : CI l yX8_set wsX8_set 4 88 [.ref (ga G 63), .int a1, .int a2, .long a3] WX G S R.1 R.2 := by
  refine g_met RX8 (cc := cX8_set) (nL := 6) (ret := (some .int)) (by decide) rfl rfl (Nat.le_of_ble_eq_true rfl) ?_
  intro p e s m below meth c ls X E hP hS hl
  have hl : lv_has ls 6 [(0, .ref (ga G 63)), (1, .int a1), (2, .int a2), (3, .long a3)] := hl
  obtain ⟨hx, hb, -, -, hown, hts, -⟩ := id X
  rw [fX8_set] at hf
  refine lv_aload_n hx hb dX8_set_0 rfl (lv_at hl 0 rfl) ?_
  refine lv_iload_n hx hb dX8_set_1 rfl (lv_at hl 1 rfl) ?_
  obtain ⟨u1, h2, hf⟩ := g_bind hf
  refine g_vi (rest := []) X E hP hS (tcX8_rowRefusal l G _ _ h2) (g_cwV X gX8_set_X8_rowRefusal rfl hdX8_rowRefusal ⟨Nat.le_of_ble_eq_true rfl, Nat.le_of_ble_eq_true rfl⟩) (rcX_main E hP) rfl hl.1 rfl (Nat.le_of_ble_eq_true rfl) dX8_set_2 ⟨Nat.le_refl _, Nat.le_refl _⟩ (fun H locs hP hS => ?_)
  refine lv_istore (lv' := [(5, .int u1), (0, .ref (ga G 63)), (1, .int a1), (2, .int a2), (3, .long a3)]) hx hb dX8_set_5 hl (by decide) rfl (fun ls hl => ?_)
  refine lv_iload hx hb dX8_set_7 (lv_at hl 0 rfl) ?_
  refine lv_if_ne (tgt := 28) hx hb dX8_set_9 (by decide) (fun c3 => ?_) (fun c3 => ?_)
  · have hf := g_iff hf c3
    exact bX8_set_L28 X E _ _ _ _ _ _ _ _ _ hf hP hS (lv_sub hl [1, 2, 3, 4, 0] rfl)
  · have hf := g_ift hf c3
    refine lv_aload_n hx hb dX8_set_12 rfl (lv_at hl 1 rfl) ?_
    refine ggX_48 X E hP inX8_set_X8 lkX8_set_0 dX8_set_13 ?_
    refine lv_iload_n hx hb dX8_set_16 rfl (lv_at hl 2 rfl) ?_
    refine lv_iload_n hx hb dX8_set_17 rfl (lv_at hl 3 rfl) ?_
    obtain ⟨u9, h10, hf⟩ := g_bind hf
    refine g_vi (rest := []) X E hP hS (tcX5_hasElement l G _ _ _ h10) (g_cwV X gX8_set_X5_hasElement rfl hdX5_hasElement ⟨Nat.le_of_ble_eq_true rfl, Nat.le_of_ble_eq_true rfl⟩) (rcX_shelves E hP) rfl hl.1 rfl (Nat.le_of_ble_eq_true rfl) dX8_set_18 ⟨Nat.le_refl _, Nat.le_refl _⟩ (fun H locs hP hS => ?_)
    refine lv_if_ne (tgt := 28) hx hb dX8_set_21 (by decide) (fun c11 => ?_) (fun c11 => ?_)
    · have hf := g_iff hf c11
      exact bX8_set_L28 X E _ _ _ _ _ _ _ _ _ hf hP hS (lv_sub hl [1, 2, 3, 4, 0] rfl)
    · have hf := g_ift hf c11
      refine lv_bipush (v := -5) hx hb dX8_set_24 (by decide) ?_
      refine lv_istore (lv' := [(5, .int (-5 : Int32)), (0, .ref (ga G 63)), (1, .int a1), (2, .int a2), (3, .long a3)]) hx hb dX8_set_26 hl (by decide) rfl (fun ls hl => ?_)
      exact bX8_set_L28 X E _ _ _ _ _ _ _ _ _ hf hP hS (lv_sub hl [1, 2, 3, 4, 0] rfl)
theorem lkX8_pairRefusal_0 : Cond.methodLink RX8 291 Lib.Math.max.name ∈ wsX8_pairRefusal := by decide +kernel
theorem lkX8_pairRefusal_1 : Cond.static Lib.Math.max.name ∈ wsX8_pairRefusal := by decide +kernel
theorem lkX8_pairRefusal_2 : Cond.initialized "java/lang/Math" ∈ wsX8_pairRefusal := by decide +kernel
theorem lkX8_pairRefusal_3 : Cond.code Lib.Math.max.name Lib.Math.max.code 2 (some .int) ∈ wsX8_pairRefusal := by decide +kernel
def fX8_pairRefusal (S : GS) (a1 : Int32) (a2 : Int32) : Option Int32 :=
  (fX8_rowRefusal S a1).bind fun u1 =>
  (fX8_rowRefusal S a2).bind fun u3 =>
  if u1 = 0 then
    some u3
  else
    if u3 = 0 then
      some u1
    else
      some (if u1 < u3 then u3 else u1)
set_option maxHeartbeats 4000000 in
set_option maxRecDepth 100000 in
theorem tcX8_pairRefusal (l : Launch) (G : GP) (S : GS) (a1 : Int32) (a2 : Int32) {R : Int32} (hf : fX8_pairRefusal S a1 a2 = some R) : CI l yX8_pairRefusal wsX8_pairRefusal 3 64 [.ref (ga G 63), .int a1, .int a2] WX G S R S := by
  refine g_met RX8 (cc := cX8_pairRefusal) (nL := 5) (ret := (some .int)) (by decide) rfl rfl (Nat.le_of_ble_eq_true rfl) ?_
  intro p e s m below meth c ls X E hP hS hl
  have hl : lv_has ls 5 [(0, .ref (ga G 63)), (1, .int a1), (2, .int a2)] := hl
  obtain ⟨hx, hb, -, -, hown, hts, -⟩ := id X
  rw [fX8_pairRefusal] at hf
  refine lv_aload_n hx hb dX8_pairRefusal_0 rfl (lv_at hl 0 rfl) ?_
  refine lv_iload_n hx hb dX8_pairRefusal_1 rfl (lv_at hl 1 rfl) ?_
  obtain ⟨u1, h2, hf⟩ := g_bind hf
  refine g_vi (rest := []) X E hP hS (tcX8_rowRefusal l G _ _ h2) (g_cwV X gX8_pairRefusal_X8_rowRefusal rfl hdX8_rowRefusal ⟨Nat.le_of_ble_eq_true rfl, Nat.le_of_ble_eq_true rfl⟩) (rcX_main E hP) rfl hl.1 rfl (Nat.le_of_ble_eq_true rfl) dX8_pairRefusal_2 ⟨Nat.le_refl _, Nat.le_refl _⟩ (fun H locs hP hS => ?_)
  refine lv_istore_n (lv' := [(3, .int u1), (0, .ref (ga G 63)), (1, .int a1), (2, .int a2)]) hx hb dX8_pairRefusal_5 rfl hl (by decide) rfl (fun ls hl => ?_)
  refine lv_aload_n hx hb dX8_pairRefusal_6 rfl (lv_at hl 1 rfl) ?_
  refine lv_iload_n hx hb dX8_pairRefusal_7 rfl (lv_at hl 3 rfl) ?_
  obtain ⟨u3, h4, hf⟩ := g_bind hf
  refine g_vi (rest := []) X E hP hS (tcX8_rowRefusal l G _ _ h4) (g_cwV X gX8_pairRefusal_X8_rowRefusal rfl hdX8_rowRefusal ⟨Nat.le_of_ble_eq_true rfl, Nat.le_of_ble_eq_true rfl⟩) (rcX_main E hP) rfl hl.1 rfl (Nat.le_of_ble_eq_true rfl) dX8_pairRefusal_8 ⟨Nat.le_refl _, Nat.le_refl _⟩ (fun H locs hP hS => ?_)
  refine lv_istore (lv' := [(4, .int u3), (3, .int u1), (0, .ref (ga G 63)), (1, .int a1), (2, .int a2)]) hx hb dX8_pairRefusal_11 hl (by decide) rfl (fun ls hl => ?_)
  refine lv_iload_n hx hb dX8_pairRefusal_13 rfl (lv_at hl 1 rfl) ?_
  refine lv_if_ne (tgt := 20) hx hb dX8_pairRefusal_14 (by decide) (fun c5 => ?_) (fun c5 => ?_)
  · have hf := g_iff hf c5
    refine lv_iload hx hb dX8_pairRefusal_20 (lv_at hl 0 rfl) ?_
    refine lv_if_ne (tgt := 29) hx hb dX8_pairRefusal_22 (by decide) (fun c6 => ?_) (fun c6 => ?_)
    · have hf := g_iff hf c6
      refine lv_iload_n hx hb dX8_pairRefusal_29 rfl (lv_at hl 1 rfl) ?_
      refine lv_iload hx hb dX8_pairRefusal_30 (lv_at hl 0 rfl) ?_
      refine va_mmax hx hb (X.2.2.1.trans hl.1.symm) hown (hts _ lkX8_pairRefusal_0) (hts _ lkX8_pairRefusal_1) (hts _ lkX8_pairRefusal_2) (hts _ lkX8_pairRefusal_3) (Nat.le_of_ble_eq_true rfl) (Nat.le_of_ble_eq_true rfl) (Nat.le_refl _) (Nat.le_refl _) dX8_pairRefusal_32 ?_
      obtain rfl := g_some hf
      exact g_ri X E hP hS dX8_pairRefusal_35
    · have hf := g_ift hf c6
      refine lv_iload_n hx hb dX8_pairRefusal_25 rfl (lv_at hl 1 rfl) ?_
      refine lv_goto (tgt := 35) hx hb dX8_pairRefusal_26 (by decide) ?_
      obtain rfl := g_some hf
      exact g_ri X E hP hS dX8_pairRefusal_35
  · have hf := g_ift hf c5
    refine lv_iload hx hb dX8_pairRefusal_17 (lv_at hl 0 rfl) ?_
    obtain rfl := g_some hf
    exact g_ri X E hP hS dX8_pairRefusal_19
def fX5_hasStretch (S : GS) (a1 : Int32) (a2 : Int32) (a3 : Int32) : Option Int32 :=
  if a2 < 0 then
    some (0 : Int32)
  else
    if a3 < 0 then
      some (0 : Int32)
    else
      (fX5_lengthOf S a1).bind fun u3 =>
      if 0 < (lg_cmp ((a2).toInt64 + (a3).toInt64) ((u3).toInt64)) then
        some (0 : Int32)
      else
        some (1 : Int32)
set_option maxHeartbeats 4000000 in
set_option maxRecDepth 100000 in
theorem tcX5_hasStretch (l : Launch) (G : GP) (S : GS) (a1 : Int32) (a2 : Int32) (a3 : Int32) {R : Int32} (hf : fX5_hasStretch S a1 a2 a3 = some R) : CI l yX5_hasStretch wsX5_hasStretch 2 42 [.ref (ga G 79), .int a1, .int a2, .int a3] WX G S R S := by
  refine g_met RX5 (cc := cX5_hasStretch) (nL := 4) (ret := (some .boolean)) (by decide) rfl rfl (Nat.le_of_ble_eq_true rfl) ?_
  intro p e s m below meth c ls X E hP hS hl
  have hl : lv_has ls 4 [(0, .ref (ga G 79)), (1, .int a1), (2, .int a2), (3, .int a3)] := hl
  obtain ⟨hx, hb, -, -, hown, hts, -⟩ := id X
  rw [fX5_hasStretch] at hf
  refine lv_iload_n hx hb dX5_hasStretch_0 rfl (lv_at hl 2 rfl) ?_
  refine lv_if_lt (tgt := 27) hx hb dX5_hasStretch_1 (by decide) (fun c1 => ?_) (fun c1 => ?_)
  · have hf := g_ift hf c1
    refine lv_iconst (v := 0) hx hb dX5_hasStretch_27 (by decide) ?_
    obtain rfl := g_some hf
    exact g_rz (v := (0 : Int32)) X E hP hS rfl dX5_hasStretch_28
  · have hf := g_iff hf c1
    refine lv_iload_n hx hb dX5_hasStretch_4 rfl (lv_at hl 3 rfl) ?_
    refine lv_if_lt (tgt := 27) hx hb dX5_hasStretch_5 (by decide) (fun c2 => ?_) (fun c2 => ?_)
    · have hf := g_ift hf c2
      refine lv_iconst (v := 0) hx hb dX5_hasStretch_27 (by decide) ?_
      obtain rfl := g_some hf
      exact g_rz (v := (0 : Int32)) X E hP hS rfl dX5_hasStretch_28
    · have hf := g_iff hf c2
      refine lv_iload_n hx hb dX5_hasStretch_8 rfl (lv_at hl 2 rfl) ?_
      refine lv_i2l hx hb dX5_hasStretch_9 rfl ?_
      refine lv_iload_n hx hb dX5_hasStretch_10 rfl (lv_at hl 3 rfl) ?_
      refine lv_i2l hx hb dX5_hasStretch_11 rfl ?_
      refine lv_ladd hx hb dX5_hasStretch_12 ?_
      refine lv_aload_n hx hb dX5_hasStretch_13 rfl (lv_at hl 0 rfl) ?_
      refine lv_iload_n hx hb dX5_hasStretch_14 rfl (lv_at hl 1 rfl) ?_
      obtain ⟨u3, h4, hf⟩ := g_bind hf
      refine g_vi (rest := [.long ((a2).toInt64 + (a3).toInt64)]) X E hP hS (tcX5_lengthOf l G _ _ h4) (g_cwV X gX5_hasStretch_X5_lengthOf rfl hdX5_lengthOf ⟨Nat.le_of_ble_eq_true rfl, Nat.le_of_ble_eq_true rfl⟩) (rcX_shelves E hP) rfl hl.1 rfl (Nat.le_of_ble_eq_true rfl) dX5_hasStretch_15 ⟨Nat.le_refl _, Nat.le_refl _⟩ (fun H locs hP hS => ?_)
      refine lv_i2l hx hb dX5_hasStretch_18 rfl ?_
      refine W.lcmp hx hb dX5_hasStretch_19 ?_
      refine lv_if_gt (tgt := 27) hx hb dX5_hasStretch_20 (by decide) (fun c5 => ?_) (fun c5 => ?_)
      · have hf := g_ift hf c5
        refine lv_iconst (v := 0) hx hb dX5_hasStretch_27 (by decide) ?_
        obtain rfl := g_some hf
        exact g_rz (v := (0 : Int32)) X E hP hS rfl dX5_hasStretch_28
      · have hf := g_iff hf c5
        refine lv_iconst (v := 1) hx hb dX5_hasStretch_23 (by decide) ?_
        refine lv_goto (tgt := 28) hx hb dX5_hasStretch_24 (by decide) ?_
        obtain rfl := g_some hf
        exact g_rz (v := (1 : Int32)) X E hP hS rfl dX5_hasStretch_28
theorem lkX5_move_0 : Cond.fieldLink RX5 18 RX5 "elements" "[J" ∈ wsX5_move := by decide +kernel
theorem lkX5_move_1 : Cond.methodLink RX5 46 arraycopyName ∈ wsX5_move := by decide +kernel
theorem lkX5_move_2 : Cond.native arraycopyName ∈ wsX5_move := by decide +kernel
theorem lkX5_move_3 : Cond.static arraycopyName ∈ wsX5_move := by decide +kernel
theorem lkX5_move_4 : Cond.initialized "java/lang/System" ∈ wsX5_move := by decide +kernel
theorem inX5_move_X5 : ∀ w ∈ wsX50, w ∈ wsX5_move := by decide +kernel
def fX5_move (S : GS) (a1 : Int32) (a2 : Int32) (a3 : Int32) (a4 : Int32) (a5 : Int32) : Option GS :=
  (fX5_hasStretch S a1 a2 a5).bind fun u1 =>
  if u1 = 0 then
    some S
  else
    (fX5_hasStretch S a3 a4 a5).bind fun u4 =>
    if u4 = 0 then
      some S
    else
      if a5 = 0 then
        some S
      else
        if ((a1 * (160 : Int32)) + a2) < 0 ∨ ((a3 * (160 : Int32)) + a4) < 0 ∨ a5 < 0 ∨ 1280 < ((a1 * (160 : Int32)) + a2).toNatClampNeg + (a5).toNatClampNeg ∨ 1280 < ((a3 * (160 : Int32)) + a4).toNatClampNeg + (a5).toNatClampNeg then none else
        gLet (gA4 S 66 (va_cpy (S.2.2.2 66) (S.2.2.2 66) ((a1 * (160 : Int32)) + a2).toNatClampNeg ((a3 * (160 : Int32)) + a4).toNatClampNeg (a5).toNatClampNeg)) fun T9 =>
        some T9
set_option maxHeartbeats 4000000 in
set_option maxRecDepth 100000 in
theorem tcX5_move (l : Launch) (G : GP) (S : GS) (a1 : Int32) (a2 : Int32) (a3 : Int32) (a4 : Int32) (a5 : Int32) {R : GS} (hf : fX5_move S a1 a2 a3 a4 a5 = some R) : CV l yX5_move wsX5_move 3 65 [.ref (ga G 79), .int a1, .int a2, .int a3, .int a4, .int a5] WX G S R := by
  refine g_met RX5 (cc := cX5_move) (nL := 6) (ret := none) (by decide) rfl rfl (Nat.le_of_ble_eq_true rfl) ?_
  intro p e s m below meth c ls X E hP hS hl
  have hl : lv_has ls 6 [(0, .ref (ga G 79)), (1, .int a1), (2, .int a2), (3, .int a3), (4, .int a4), (5, .int a5)] := hl
  obtain ⟨hx, hb, -, -, hown, hts, -⟩ := id X
  rw [fX5_move] at hf
  refine lv_aload_n hx hb dX5_move_0 rfl (lv_at hl 0 rfl) ?_
  refine lv_iload_n hx hb dX5_move_1 rfl (lv_at hl 1 rfl) ?_
  refine lv_iload_n hx hb dX5_move_2 rfl (lv_at hl 2 rfl) ?_
  refine lv_iload hx hb dX5_move_3 (lv_at hl 5 rfl) ?_
  obtain ⟨u1, h2, hf⟩ := g_bind hf
  refine g_vi (rest := []) X E hP hS (tcX5_hasStretch l G _ _ _ _ h2) (g_cwV X gX5_move_X5_hasStretch rfl hdX5_hasStretch ⟨Nat.le_of_ble_eq_true rfl, Nat.le_of_ble_eq_true rfl⟩) (rcX_shelves E hP) rfl hl.1 rfl (Nat.le_of_ble_eq_true rfl) dX5_move_5 ⟨Nat.le_refl _, Nat.le_refl _⟩ (fun H locs hP hS => ?_)
  refine lv_if_eq (tgt := 28) hx hb dX5_move_8 (by decide) (fun c3 => ?_) (fun c3 => ?_)
  · have hf := g_ift hf c3
    obtain rfl := g_some hf
    exact g_rv X E hP hS dX5_move_28
  · have hf := g_iff hf c3
    refine lv_aload_n hx hb dX5_move_11 rfl (lv_at hl 0 rfl) ?_
    refine lv_iload_n hx hb dX5_move_12 rfl (lv_at hl 3 rfl) ?_
    refine lv_iload hx hb dX5_move_13 (lv_at hl 4 rfl) ?_
    refine lv_iload hx hb dX5_move_15 (lv_at hl 5 rfl) ?_
    obtain ⟨u4, h5, hf⟩ := g_bind hf
    refine g_vi (rest := []) X E hP hS (tcX5_hasStretch l G _ _ _ _ h5) (g_cwV X gX5_move_X5_hasStretch rfl hdX5_hasStretch ⟨Nat.le_of_ble_eq_true rfl, Nat.le_of_ble_eq_true rfl⟩) (rcX_shelves E hP) rfl hl.1 rfl (Nat.le_of_ble_eq_true rfl) dX5_move_17 ⟨Nat.le_refl _, Nat.le_refl _⟩ (fun H locs hP hS => ?_)
    refine lv_if_eq (tgt := 28) hx hb dX5_move_20 (by decide) (fun c6 => ?_) (fun c6 => ?_)
    · have hf := g_ift hf c6
      obtain rfl := g_some hf
      exact g_rv X E hP hS dX5_move_28
    · have hf := g_iff hf c6
      refine lv_iload hx hb dX5_move_23 (lv_at hl 5 rfl) ?_
      refine lv_if_ne (tgt := 29) hx hb dX5_move_25 (by decide) (fun c7 => ?_) (fun c7 => ?_)
      · have hf := g_iff hf c7
        refine lv_aload_n hx hb dX5_move_29 rfl (lv_at hl 0 rfl) ?_
        refine ggX_66 X E hP inX5_move_X5 lkX5_move_0 dX5_move_30 ?_
        refine lv_iload_n hx hb dX5_move_33 rfl (lv_at hl 1 rfl) ?_
        refine lv_sipush (v := 160) hx hb dX5_move_34 (by decide) ?_
        refine lv_imul hx hb dX5_move_37 ?_
        refine lv_iload_n hx hb dX5_move_38 rfl (lv_at hl 2 rfl) ?_
        refine lv_iadd hx hb dX5_move_39 ?_
        refine lv_aload_n hx hb dX5_move_40 rfl (lv_at hl 0 rfl) ?_
        refine ggX_66 X E hP inX5_move_X5 lkX5_move_0 dX5_move_41 ?_
        refine lv_iload_n hx hb dX5_move_44 rfl (lv_at hl 3 rfl) ?_
        refine lv_sipush (v := 160) hx hb dX5_move_45 (by decide) ?_
        refine lv_imul hx hb dX5_move_48 ?_
        refine lv_iload hx hb dX5_move_49 (lv_at hl 4 rfl) ?_
        refine lv_iadd hx hb dX5_move_51 ?_
        refine lv_iload hx hb dX5_move_52 (lv_at hl 5 rfl) ?_
        obtain ⟨b8, hf⟩ := g_if hf
        refine gcX_66_66 X E hP hS hl.1 lkX5_move_1 lkX5_move_2 lkX5_move_3 lkX5_move_4 b8 (Nat.le_of_ble_eq_true rfl) (by decide +kernel) dX5_move_54 (fun H locs hP hS => ?_)
        obtain ⟨T9, e10, hf⟩ := g_let hf
        rw [← e10] at hP
        obtain rfl := g_some hf
        exact g_rv X E hP hS dX5_move_57
      · have hf := g_ift hf c7
        obtain rfl := g_some hf
        exact g_rv X E hP hS dX5_move_28
theorem lkX8_copy_0 : Cond.fieldLink RX8 10 RX8 "shelves" "LBackToTheFirstStone$Shelves;" ∈ wsX8_copy := by decide +kernel
theorem inX8_copy_X8 : ∀ w ∈ wsX80, w ∈ wsX8_copy := by decide +kernel
def fX8_copy_L88 (S : GS) (v1 : Int32) (v2 : Int32) (v3 : Int32) (v4 : Int32) (v5 : Int32) (v6 : Int32) : Option (Int32 × GS) :=
  if v6 = 0 then
    (fX5_move S v1 v3 v2 v4 v5).bind fun u7 =>
    some ((1 : Int32), u7)
  else
    (fX8_refuse S v6).bind fun u9 =>
    some (u9.1, u9.2)
set_option maxHeartbeats 4000000 in
set_option maxRecDepth 100000 in
theorem bX8_copy_L88 {p : Program} {l : Launch} {e : Env} {s : State} {m : MethodId} {args : Array Value} {below : List Frame} {meth : Method} {c : Code} {G : GP} (X : GX p s m meth c args cX8_copy 7 (some .int) wsX8_copy RX8) (E : gE WX G s) (S : GS) (v1 : Int32) (v2 : Int32) (v3 : Int32) (v4 : Int32) (v5 : Int32) (v6 : Int32) (R : (Int32 × GS)) (H : Heap) (locs : List Loc) (ls : Array Slot) (hf : fX8_copy_L88 S v1 v2 v3 v4 v5 v6 = some R) (hP : va_P (gD G) vwCl (WX G S ++ gF G) H) (hS : va_S (gA G) s.heap H locs) (hl : lv_has ls 7 [(0, .ref (ga G 63)), (1, .int v1), (2, .int v2), (3, .int v3), (4, .int v4), (5, .int v5), (6, .int v6)]) : W p l e (gR 4 90) s m args below meth c H locs 0 0 (MQ below (gQi WX G R.1 R.2) args s 0 0 (gA G)) (F0 m 88 ls []) := by
  obtain ⟨hx, hb, -, -, hown, hts, -⟩ := id X
  rw [fX8_copy_L88] at hf
  refine lv_iload hx hb dX8_copy_88 (lv_at hl 6 rfl) ?_
  refine lv_if_eq (tgt := 100) hx hb dX8_copy_90 (by decide) (fun c6 => ?_) (fun c6 => ?_)
  · have hf := g_ift hf c6
    refine lv_aload_n hx hb dX8_copy_100 rfl (lv_at hl 0 rfl) ?_
    refine ggX_48 X E hP inX8_copy_X8 lkX8_copy_0 dX8_copy_101 ?_
    refine lv_iload_n hx hb dX8_copy_104 rfl (lv_at hl 1 rfl) ?_
    refine lv_iload_n hx hb dX8_copy_105 rfl (lv_at hl 3 rfl) ?_
    refine lv_iload_n hx hb dX8_copy_106 rfl (lv_at hl 2 rfl) ?_
    refine lv_iload hx hb dX8_copy_107 (lv_at hl 4 rfl) ?_
    refine lv_iload hx hb dX8_copy_109 (lv_at hl 5 rfl) ?_
    obtain ⟨u7, h8, hf⟩ := g_bind hf
    refine g_vv (rest := []) X E hP hS (tcX5_move l G _ _ _ _ _ _ h8) (g_cwV X gX8_copy_X5_move rfl hdX5_move ⟨Nat.le_of_ble_eq_true rfl, Nat.le_of_ble_eq_true rfl⟩) (rcX_shelves E hP) rfl hl.1 rfl (Nat.le_of_ble_eq_true rfl) dX8_copy_111 ⟨Nat.le_refl _, Nat.le_refl _⟩ (fun H locs hP hS => ?_)
    refine lv_iconst (v := 1) hx hb dX8_copy_114 (by decide) ?_
    obtain rfl := g_some hf
    exact g_ri X E hP hS dX8_copy_115
  · have hf := g_iff hf c6
    refine lv_aload_n hx hb dX8_copy_93 rfl (lv_at hl 0 rfl) ?_
    refine lv_iload hx hb dX8_copy_94 (lv_at hl 6 rfl) ?_
    obtain ⟨u9, h10, hf⟩ := g_bind hf
    refine g_vi (rest := []) X E hP hS (tcX8_refuse l G _ _ h10) (g_cwV X gX8_copy_X8_refuse rfl hdX8_refuse ⟨Nat.le_of_ble_eq_true rfl, Nat.le_of_ble_eq_true rfl⟩) (rcX_main E hP) rfl hl.1 rfl (Nat.le_of_ble_eq_true rfl) dX8_copy_96 ⟨Nat.le_refl _, Nat.le_refl _⟩ (fun H locs hP hS => ?_)
    obtain rfl := g_some hf
    exact g_ri X E hP hS dX8_copy_99
def fX8_copy_L84 (S : GS) (v1 : Int32) (v2 : Int32) (v3 : Int32) (v4 : Int32) (v5 : Int32) : Option (Int32 × GS) :=
  fX8_copy_L88 S v1 v2 v3 v4 v5 (-5 : Int32)
set_option maxHeartbeats 4000000 in
set_option maxRecDepth 100000 in
theorem bX8_copy_L84 {p : Program} {l : Launch} {e : Env} {s : State} {m : MethodId} {args : Array Value} {below : List Frame} {meth : Method} {c : Code} {G : GP} (X : GX p s m meth c args cX8_copy 7 (some .int) wsX8_copy RX8) (E : gE WX G s) (S : GS) (v1 : Int32) (v2 : Int32) (v3 : Int32) (v4 : Int32) (v5 : Int32) (R : (Int32 × GS)) (H : Heap) (locs : List Loc) (ls : Array Slot) (hf : fX8_copy_L84 S v1 v2 v3 v4 v5 = some R) (hP : va_P (gD G) vwCl (WX G S ++ gF G) H) (hS : va_S (gA G) s.heap H locs) (hl : lv_has ls 7 [(0, .ref (ga G 63)), (1, .int v1), (2, .int v2), (3, .int v3), (4, .int v4), (5, .int v5)]) : W p l e (gR 4 90) s m args below meth c H locs 0 0 (MQ below (gQi WX G R.1 R.2) args s 0 0 (gA G)) (F0 m 84 ls []) := by
  obtain ⟨hx, hb, -, -, hown, hts, -⟩ := id X
  rw [fX8_copy_L84] at hf
  refine lv_bipush (v := -5) hx hb dX8_copy_84 (by decide) ?_
  refine lv_istore (lv' := [(6, .int (-5 : Int32)), (0, .ref (ga G 63)), (1, .int v1), (2, .int v2), (3, .int v3), (4, .int v4), (5, .int v5)]) hx hb dX8_copy_86 hl (by decide) rfl (fun ls hl => ?_)
  exact bX8_copy_L88 X E _ _ _ _ _ _ _ _ _ _ _ hf hP hS (lv_sub hl [1, 2, 3, 4, 5, 6, 0] rfl)
def fX8_copy_L50 (S : GS) (v1 : Int32) (v2 : Int32) (v3 : Int32) (v4 : Int32) (v5 : Int32) (v6 : Int32) : Option (Int32 × GS) :=
  if v6 = 0 then
    (fX5_hasStretch S v1 v3 v5).bind fun u11 =>
    if u11 = 0 then
      fX8_copy_L84 S v1 v2 v3 v4 v5
    else
      (fX5_hasStretch S v2 v4 v5).bind fun u14 =>
      if u14 = 0 then
        fX8_copy_L84 S v1 v2 v3 v4 v5
      else
        fX8_copy_L88 S v1 v2 v3 v4 v5 v6
  else
    fX8_copy_L88 S v1 v2 v3 v4 v5 v6
set_option maxHeartbeats 4000000 in
set_option maxRecDepth 100000 in
theorem bX8_copy_L50 {p : Program} {l : Launch} {e : Env} {s : State} {m : MethodId} {args : Array Value} {below : List Frame} {meth : Method} {c : Code} {G : GP} (X : GX p s m meth c args cX8_copy 7 (some .int) wsX8_copy RX8) (E : gE WX G s) (S : GS) (v1 : Int32) (v2 : Int32) (v3 : Int32) (v4 : Int32) (v5 : Int32) (v6 : Int32) (R : (Int32 × GS)) (H : Heap) (locs : List Loc) (ls : Array Slot) (hf : fX8_copy_L50 S v1 v2 v3 v4 v5 v6 = some R) (hP : va_P (gD G) vwCl (WX G S ++ gF G) H) (hS : va_S (gA G) s.heap H locs) (hl : lv_has ls 7 [(0, .ref (ga G 63)), (1, .int v1), (2, .int v2), (3, .int v3), (4, .int v4), (5, .int v5), (6, .int v6)]) : W p l e (gR 4 90) s m args below meth c H locs 0 0 (MQ below (gQi WX G R.1 R.2) args s 0 0 (gA G)) (F0 m 50 ls []) := by
  obtain ⟨hx, hb, -, -, hown, hts, -⟩ := id X
  rw [fX8_copy_L50] at hf
  refine lv_iload hx hb dX8_copy_50 (lv_at hl 6 rfl) ?_
  refine lv_if_ne (tgt := 88) hx hb dX8_copy_52 (by decide) (fun c5 => ?_) (fun c5 => ?_)
  · have hf := g_iff hf c5
    exact bX8_copy_L88 X E _ _ _ _ _ _ _ _ _ _ _ hf hP hS (lv_sub hl [0, 1, 2, 3, 4, 5, 6] rfl)
  · have hf := g_ift hf c5
    refine lv_aload_n hx hb dX8_copy_55 rfl (lv_at hl 0 rfl) ?_
    refine ggX_48 X E hP inX8_copy_X8 lkX8_copy_0 dX8_copy_56 ?_
    refine lv_iload_n hx hb dX8_copy_59 rfl (lv_at hl 1 rfl) ?_
    refine lv_iload_n hx hb dX8_copy_60 rfl (lv_at hl 3 rfl) ?_
    refine lv_iload hx hb dX8_copy_61 (lv_at hl 5 rfl) ?_
    obtain ⟨u11, h12, hf⟩ := g_bind hf
    refine g_vi (rest := []) X E hP hS (tcX5_hasStretch l G _ _ _ _ h12) (g_cwV X gX8_copy_X5_hasStretch rfl hdX5_hasStretch ⟨Nat.le_of_ble_eq_true rfl, Nat.le_of_ble_eq_true rfl⟩) (rcX_shelves E hP) rfl hl.1 rfl (Nat.le_of_ble_eq_true rfl) dX8_copy_63 ⟨Nat.le_refl _, Nat.le_refl _⟩ (fun H locs hP hS => ?_)
    refine lv_if_eq (tgt := 84) hx hb dX8_copy_66 (by decide) (fun c13 => ?_) (fun c13 => ?_)
    · have hf := g_ift hf c13
      exact bX8_copy_L84 X E _ _ _ _ _ _ _ _ _ _ hf hP hS (lv_sub hl [0, 1, 2, 3, 4, 5] rfl)
    · have hf := g_iff hf c13
      refine lv_aload_n hx hb dX8_copy_69 rfl (lv_at hl 0 rfl) ?_
      refine ggX_48 X E hP inX8_copy_X8 lkX8_copy_0 dX8_copy_70 ?_
      refine lv_iload_n hx hb dX8_copy_73 rfl (lv_at hl 2 rfl) ?_
      refine lv_iload hx hb dX8_copy_74 (lv_at hl 4 rfl) ?_
      refine lv_iload hx hb dX8_copy_76 (lv_at hl 5 rfl) ?_
      obtain ⟨u14, h15, hf⟩ := g_bind hf
      refine g_vi (rest := []) X E hP hS (tcX5_hasStretch l G _ _ _ _ h15) (g_cwV X gX8_copy_X5_hasStretch rfl hdX5_hasStretch ⟨Nat.le_of_ble_eq_true rfl, Nat.le_of_ble_eq_true rfl⟩) (rcX_shelves E hP) rfl hl.1 rfl (Nat.le_of_ble_eq_true rfl) dX8_copy_78 ⟨Nat.le_refl _, Nat.le_refl _⟩ (fun H locs hP hS => ?_)
      refine lv_if_ne (tgt := 88) hx hb dX8_copy_81 (by decide) (fun c16 => ?_) (fun c16 => ?_)
      · have hf := g_iff hf c16
        exact bX8_copy_L88 X E _ _ _ _ _ _ _ _ _ _ _ hf hP hS (lv_sub hl [0, 1, 2, 3, 4, 5, 6] rfl)
      · have hf := g_ift hf c16
        exact bX8_copy_L84 X E _ _ _ _ _ _ _ _ _ _ hf hP hS (lv_sub hl [0, 1, 2, 3, 4, 5] rfl)
def fX8_copy_L36 (S : GS) (v1 : Int32) (v2 : Int32) (v3 : Int32) (v4 : Int32) (v5 : Int32) (v6 : Int32) : Option (Int32 × GS) :=
  if v6 = 0 then
    if 0 ≤ v5 then
      fX8_copy_L50 S v1 v2 v3 v4 v5 v6
    else
      fX8_copy_L50 S v1 v2 v3 v4 v5 (-4 : Int32)
  else
    fX8_copy_L50 S v1 v2 v3 v4 v5 v6
set_option maxHeartbeats 4000000 in
set_option maxRecDepth 100000 in
theorem bX8_copy_L36 {p : Program} {l : Launch} {e : Env} {s : State} {m : MethodId} {args : Array Value} {below : List Frame} {meth : Method} {c : Code} {G : GP} (X : GX p s m meth c args cX8_copy 7 (some .int) wsX8_copy RX8) (E : gE WX G s) (S : GS) (v1 : Int32) (v2 : Int32) (v3 : Int32) (v4 : Int32) (v5 : Int32) (v6 : Int32) (R : (Int32 × GS)) (H : Heap) (locs : List Loc) (ls : Array Slot) (hf : fX8_copy_L36 S v1 v2 v3 v4 v5 v6 = some R) (hP : va_P (gD G) vwCl (WX G S ++ gF G) H) (hS : va_S (gA G) s.heap H locs) (hl : lv_has ls 7 [(0, .ref (ga G 63)), (1, .int v1), (2, .int v2), (3, .int v3), (4, .int v4), (5, .int v5), (6, .int v6)]) : W p l e (gR 4 90) s m args below meth c H locs 0 0 (MQ below (gQi WX G R.1 R.2) args s 0 0 (gA G)) (F0 m 36 ls []) := by
  obtain ⟨hx, hb, -, -, hown, hts, -⟩ := id X
  rw [fX8_copy_L36] at hf
  refine lv_iload hx hb dX8_copy_36 (lv_at hl 6 rfl) ?_
  refine lv_if_ne (tgt := 50) hx hb dX8_copy_38 (by decide) (fun c4 => ?_) (fun c4 => ?_)
  · have hf := g_iff hf c4
    exact bX8_copy_L50 X E _ _ _ _ _ _ _ _ _ _ _ hf hP hS (lv_sub hl [0, 1, 2, 3, 4, 5, 6] rfl)
  · have hf := g_ift hf c4
    refine lv_iload hx hb dX8_copy_41 (lv_at hl 5 rfl) ?_
    refine lv_if_ge (tgt := 50) hx hb dX8_copy_43 (by decide) (fun c17 => ?_) (fun c17 => ?_)
    · have hf := g_ift hf c17
      exact bX8_copy_L50 X E _ _ _ _ _ _ _ _ _ _ _ hf hP hS (lv_sub hl [0, 1, 2, 3, 4, 5, 6] rfl)
    · have hf := g_iff hf c17
      refine lv_bipush (v := -4) hx hb dX8_copy_46 (by decide) ?_
      refine lv_istore (lv' := [(6, .int (-4 : Int32)), (0, .ref (ga G 63)), (1, .int v1), (2, .int v2), (3, .int v3), (4, .int v4), (5, .int v5)]) hx hb dX8_copy_48 hl (by decide) rfl (fun ls hl => ?_)
      exact bX8_copy_L50 X E _ _ _ _ _ _ _ _ _ _ _ hf hP hS (lv_sub hl [1, 2, 3, 4, 5, 6, 0] rfl)
def fX8_copy (S : GS) (a1 : Int32) (a2 : Int32) (a3 : Int32) (a4 : Int32) (a5 : Int32) : Option (Int32 × GS) :=
  (fX8_pairRefusal S a1 a2).bind fun u1 =>
  if u1 = 0 then
    (fX5_heldBy S a1).bind fun u18 =>
    (fX5_heldBy S a2).bind fun u20 =>
    if u18 = u20 then
      fX8_copy_L36 S a1 a2 a3 a4 a5 u1
    else
      fX8_copy_L36 S a1 a2 a3 a4 a5 (-2 : Int32)
  else
    fX8_copy_L36 S a1 a2 a3 a4 a5 u1
set_option maxHeartbeats 4000000 in
set_option maxRecDepth 100000 in
theorem tcX8_copy (l : Launch) (G : GP) (S : GS) (a1 : Int32) (a2 : Int32) (a3 : Int32) (a4 : Int32) (a5 : Int32) {R : (Int32 × GS)} (hf : fX8_copy S a1 a2 a3 a4 a5 = some R) : CI l yX8_copy wsX8_copy 4 90 [.ref (ga G 63), .int a1, .int a2, .int a3, .int a4, .int a5] WX G S R.1 R.2 := by
  refine g_met RX8 (cc := cX8_copy) (nL := 7) (ret := (some .int)) (by decide) rfl rfl (Nat.le_of_ble_eq_true rfl) ?_
  intro p e s m below meth c ls X E hP hS hl
  have hl : lv_has ls 7 [(0, .ref (ga G 63)), (1, .int a1), (2, .int a2), (3, .int a3), (4, .int a4), (5, .int a5)] := hl
  obtain ⟨hx, hb, -, -, hown, hts, -⟩ := id X
  rw [fX8_copy] at hf
  refine lv_aload_n hx hb dX8_copy_0 rfl (lv_at hl 0 rfl) ?_
  refine lv_iload_n hx hb dX8_copy_1 rfl (lv_at hl 1 rfl) ?_
  refine lv_iload_n hx hb dX8_copy_2 rfl (lv_at hl 2 rfl) ?_
  obtain ⟨u1, h2, hf⟩ := g_bind hf
  refine g_vi (rest := []) X E hP hS (tcX8_pairRefusal l G _ _ _ h2) (g_cwV X gX8_copy_X8_pairRefusal rfl hdX8_pairRefusal ⟨Nat.le_of_ble_eq_true rfl, Nat.le_of_ble_eq_true rfl⟩) (rcX_main E hP) rfl hl.1 rfl (Nat.le_of_ble_eq_true rfl) dX8_copy_3 ⟨Nat.le_refl _, Nat.le_refl _⟩ (fun H locs hP hS => ?_)
  refine lv_istore (lv' := [(6, .int u1), (0, .ref (ga G 63)), (1, .int a1), (2, .int a2), (3, .int a3), (4, .int a4), (5, .int a5)]) hx hb dX8_copy_6 hl (by decide) rfl (fun ls hl => ?_)
  refine lv_iload hx hb dX8_copy_8 (lv_at hl 0 rfl) ?_
  refine lv_if_ne (tgt := 36) hx hb dX8_copy_10 (by decide) (fun c3 => ?_) (fun c3 => ?_)
  · have hf := g_iff hf c3
    exact bX8_copy_L36 X E _ _ _ _ _ _ _ _ _ _ _ hf hP hS (lv_sub hl [1, 2, 3, 4, 5, 6, 0] rfl)
  · have hf := g_ift hf c3
    refine lv_aload_n hx hb dX8_copy_13 rfl (lv_at hl 1 rfl) ?_
    refine ggX_48 X E hP inX8_copy_X8 lkX8_copy_0 dX8_copy_14 ?_
    refine lv_iload_n hx hb dX8_copy_17 rfl (lv_at hl 2 rfl) ?_
    obtain ⟨u18, h19, hf⟩ := g_bind hf
    refine g_vi (rest := []) X E hP hS (tcX5_heldBy l G _ _ h19) (g_cwV X gX8_copy_X5_heldBy rfl hdX5_heldBy ⟨Nat.le_of_ble_eq_true rfl, Nat.le_of_ble_eq_true rfl⟩) (rcX_shelves E hP) rfl hl.1 rfl (Nat.le_of_ble_eq_true rfl) dX8_copy_18 ⟨Nat.le_refl _, Nat.le_refl _⟩ (fun H locs hP hS => ?_)
    refine lv_aload_n hx hb dX8_copy_21 rfl (lv_at hl 1 rfl) ?_
    refine ggX_48 X E hP inX8_copy_X8 lkX8_copy_0 dX8_copy_22 ?_
    refine lv_iload_n hx hb dX8_copy_25 rfl (lv_at hl 3 rfl) ?_
    obtain ⟨u20, h21, hf⟩ := g_bind hf
    refine g_vi (rest := [.int u18]) X E hP hS (tcX5_heldBy l G _ _ h21) (g_cwV X gX8_copy_X5_heldBy rfl hdX5_heldBy ⟨Nat.le_of_ble_eq_true rfl, Nat.le_of_ble_eq_true rfl⟩) (rcX_shelves E hP) rfl hl.1 rfl (Nat.le_of_ble_eq_true rfl) dX8_copy_26 ⟨Nat.le_refl _, Nat.le_refl _⟩ (fun H locs hP hS => ?_)
    refine lv_icmp_eq (tgt := 36) hx hb dX8_copy_29 (by decide) (fun c22 => ?_) (fun c22 => ?_)
    · have hf := g_ift hf c22
      exact bX8_copy_L36 X E _ _ _ _ _ _ _ _ _ _ _ hf hP hS (lv_sub hl [1, 2, 3, 4, 5, 6, 0] rfl)
    · have hf := g_iff hf c22
      refine lv_bipush (v := -2) hx hb dX8_copy_32 (by decide) ?_
      refine lv_istore (lv' := [(6, .int (-2 : Int32)), (0, .ref (ga G 63)), (1, .int a1), (2, .int a2), (3, .int a3), (4, .int a4), (5, .int a5)]) hx hb dX8_copy_34 hl (by decide) rfl (fun ls hl => ?_)
      exact bX8_copy_L36 X E _ _ _ _ _ _ _ _ _ _ _ hf hP hS (lv_sub hl [1, 2, 3, 4, 5, 6, 0] rfl)
theorem lkX5_elementAt_0 : Cond.fieldLink RX5 18 RX5 "elements" "[J" ∈ wsX5_elementAt := by decide +kernel
theorem inX5_elementAt_X5 : ∀ w ∈ wsX50, w ∈ wsX5_elementAt := by decide +kernel
def fX5_elementAt (S : GS) (a1 : Int32) (a2 : Int32) : Option Int64 :=
  (fX5_hasElement S a1 a2).bind fun u1 =>
  if u1 = 0 then
    some (0 : Int64)
  else
    if ((a1 * (160 : Int32)) + a2) < 0 ∨ 1280 ≤ ((a1 * (160 : Int32)) + a2).toNatClampNeg then none else
    some (S.2.2.2 66 ((a1 * (160 : Int32)) + a2).toNatClampNeg)
set_option maxHeartbeats 4000000 in
set_option maxRecDepth 100000 in
theorem tcX5_elementAt (l : Launch) (G : GP) (S : GS) (a1 : Int32) (a2 : Int32) {R : Int64} (hf : fX5_elementAt S a1 a2 = some R) : CL l yX5_elementAt wsX5_elementAt 3 64 [.ref (ga G 79), .int a1, .int a2] WX G S R S := by
  refine g_met RX5 (cc := cX5_elementAt) (nL := 3) (ret := (some .long)) (by decide) rfl rfl (Nat.le_of_ble_eq_true rfl) ?_
  intro p e s m below meth c ls X E hP hS hl
  have hl : lv_has ls 3 [(0, .ref (ga G 79)), (1, .int a1), (2, .int a2)] := hl
  obtain ⟨hx, hb, -, -, hown, hts, -⟩ := id X
  rw [fX5_elementAt] at hf
  refine lv_aload_n hx hb dX5_elementAt_0 rfl (lv_at hl 0 rfl) ?_
  refine lv_iload_n hx hb dX5_elementAt_1 rfl (lv_at hl 1 rfl) ?_
  refine lv_iload_n hx hb dX5_elementAt_2 rfl (lv_at hl 2 rfl) ?_
  obtain ⟨u1, h2, hf⟩ := g_bind hf
  refine g_vi (rest := []) X E hP hS (tcX5_hasElement l G _ _ _ h2) (g_cwV X gX5_elementAt_X5_hasElement rfl hdX5_hasElement ⟨Nat.le_of_ble_eq_true rfl, Nat.le_of_ble_eq_true rfl⟩) (rcX_shelves E hP) rfl hl.1 rfl (Nat.le_of_ble_eq_true rfl) dX5_elementAt_3 ⟨Nat.le_refl _, Nat.le_refl _⟩ (fun H locs hP hS => ?_)
  refine lv_if_eq (tgt := 24) hx hb dX5_elementAt_6 (by decide) (fun c3 => ?_) (fun c3 => ?_)
  · have hf := g_ift hf c3
    refine lv_lconst (v := 0) hx hb dX5_elementAt_24 (by decide) ?_
    obtain rfl := g_some hf
    exact g_rl X E hP hS dX5_elementAt_25
  · have hf := g_iff hf c3
    refine lv_aload_n hx hb dX5_elementAt_9 rfl (lv_at hl 0 rfl) ?_
    refine ggX_66 X E hP inX5_elementAt_X5 lkX5_elementAt_0 dX5_elementAt_10 ?_
    refine lv_iload_n hx hb dX5_elementAt_13 rfl (lv_at hl 1 rfl) ?_
    refine lv_sipush (v := 160) hx hb dX5_elementAt_14 (by decide) ?_
    refine lv_imul hx hb dX5_elementAt_17 ?_
    refine lv_iload_n hx hb dX5_elementAt_18 rfl (lv_at hl 2 rfl) ?_
    refine lv_iadd hx hb dX5_elementAt_19 ?_
    obtain ⟨b4, hf⟩ := g_if hf
    refine giX_66 X E hP b4 dX5_elementAt_20 ?_
    refine lv_goto (tgt := 25) hx hb dX5_elementAt_21 (by decide) ?_
    obtain rfl := g_some hf
    exact g_rl X E hP hS dX5_elementAt_25
theorem lkX8_element_0 : Cond.fieldLink RX8 10 RX8 "shelves" "LBackToTheFirstStone$Shelves;" ∈ wsX8_element := by decide +kernel
theorem inX8_element_X8 : ∀ w ∈ wsX80, w ∈ wsX8_element := by decide +kernel
def fX8_element (S : GS) (a1 : Int32) (a2 : Int32) : Option Int64 :=
  (fX5_elementAt S a1 a2).bind fun u1 =>
  some u1
set_option maxHeartbeats 4000000 in
set_option maxRecDepth 100000 in
theorem tcX8_element (l : Launch) (G : GP) (S : GS) (a1 : Int32) (a2 : Int32) {R : Int64} (hf : fX8_element S a1 a2 = some R) : CL l yX8_element wsX8_element 4 86 [.ref (ga G 63), .int a1, .int a2] WX G S R S := by
  refine g_met RX8 (cc := cX8_element) (nL := 3) (ret := (some .long)) (by decide) rfl rfl (Nat.le_of_ble_eq_true rfl) ?_
  intro p e s m below meth c ls X E hP hS hl
  have hl : lv_has ls 3 [(0, .ref (ga G 63)), (1, .int a1), (2, .int a2)] := hl
  obtain ⟨hx, hb, -, -, hown, hts, -⟩ := id X
  rw [fX8_element] at hf
  refine lv_aload_n hx hb dX8_element_0 rfl (lv_at hl 0 rfl) ?_
  refine ggX_48 X E hP inX8_element_X8 lkX8_element_0 dX8_element_1 ?_
  refine lv_iload_n hx hb dX8_element_4 rfl (lv_at hl 1 rfl) ?_
  refine lv_iload_n hx hb dX8_element_5 rfl (lv_at hl 2 rfl) ?_
  obtain ⟨u1, h2, hf⟩ := g_bind hf
  refine g_vl (rest := []) X E hP hS (tcX5_elementAt l G _ _ _ h2) (g_cwV X gX8_element_X5_elementAt rfl hdX5_elementAt ⟨Nat.le_of_ble_eq_true rfl, Nat.le_of_ble_eq_true rfl⟩) (rcX_shelves E hP) rfl hl.1 rfl (Nat.le_of_ble_eq_true rfl) dX8_element_6 ⟨Nat.le_refl _, Nat.le_refl _⟩ (fun H locs hP hS => ?_)
  obtain rfl := g_some hf
  exact g_rl X E hP hS dX8_element_9
theorem lkX5_holdSetUp_0 : Cond.fieldLink RX5 11 RX5 "held" "[I" ∈ wsX5_holdSetUp := by decide +kernel
theorem lkX5_holdSetUp_1 : Cond.fieldLink RX5 15 RX5 "lengths" "[I" ∈ wsX5_holdSetUp := by decide +kernel
theorem inX5_holdSetUp_X5 : ∀ w ∈ wsX50, w ∈ wsX5_holdSetUp := by decide +kernel
def fX5_holdSetUp (S : GS) (a1 : Int32) (a2 : Int32) : Option GS :=
  (fX5_has S a1).bind fun u1 =>
  if u1 = 0 then
    some S
  else
    if a1 < 0 ∨ 8 ≤ (a1).toNatClampNeg then none else
    if a1 < 0 ∨ 8 ≤ (a1).toNatClampNeg then none else
    some (gU3 (gU3 S 64 (a1).toNatClampNeg a2) 65 (a1).toNatClampNeg (0 : Int32))
set_option maxHeartbeats 4000000 in
set_option maxRecDepth 100000 in
theorem tcX5_holdSetUp (l : Launch) (G : GP) (S : GS) (a1 : Int32) (a2 : Int32) {R : GS} (hf : fX5_holdSetUp S a1 a2 = some R) : CV l yX5_holdSetUp wsX5_holdSetUp 1 21 [.ref (ga G 79), .int a1, .int a2] WX G S R := by
  refine g_met RX5 (cc := cX5_holdSetUp) (nL := 3) (ret := none) (by decide) rfl rfl (Nat.le_of_ble_eq_true rfl) ?_
  intro p e s m below meth c ls X E hP hS hl
  have hl : lv_has ls 3 [(0, .ref (ga G 79)), (1, .int a1), (2, .int a2)] := hl
  obtain ⟨hx, hb, -, -, hown, hts, -⟩ := id X
  rw [fX5_holdSetUp] at hf
  refine lv_aload_n hx hb dX5_holdSetUp_0 rfl (lv_at hl 0 rfl) ?_
  refine lv_iload_n hx hb dX5_holdSetUp_1 rfl (lv_at hl 1 rfl) ?_
  obtain ⟨u1, h2, hf⟩ := g_bind hf
  refine g_vi (rest := []) X E hP hS (tcX5_has l G _ _ h2) (g_cwV X gX5_holdSetUp_X5_has rfl hdX5_has ⟨Nat.le_of_ble_eq_true rfl, Nat.le_of_ble_eq_true rfl⟩) (rcX_shelves E hP) rfl hl.1 rfl (Nat.le_of_ble_eq_true rfl) dX5_holdSetUp_2 ⟨Nat.le_refl _, Nat.le_refl _⟩ (fun H locs hP hS => ?_)
  refine lv_if_ne (tgt := 9) hx hb dX5_holdSetUp_5 (by decide) (fun c3 => ?_) (fun c3 => ?_)
  · have hf := g_iff hf c3
    refine lv_aload_n hx hb dX5_holdSetUp_9 rfl (lv_at hl 0 rfl) ?_
    refine ggX_64 X E hP inX5_holdSetUp_X5 lkX5_holdSetUp_0 dX5_holdSetUp_10 ?_
    refine lv_iload_n hx hb dX5_holdSetUp_13 rfl (lv_at hl 1 rfl) ?_
    refine lv_iload_n hx hb dX5_holdSetUp_14 rfl (lv_at hl 2 rfl) ?_
    obtain ⟨b4, hf⟩ := g_if hf
    refine gsX_64 X E hP hS b4 dX5_holdSetUp_15 (fun H locs hP hS => ?_)
    refine lv_aload_n hx hb dX5_holdSetUp_16 rfl (lv_at hl 0 rfl) ?_
    refine ggX_65 X E hP inX5_holdSetUp_X5 lkX5_holdSetUp_1 dX5_holdSetUp_17 ?_
    refine lv_iload_n hx hb dX5_holdSetUp_20 rfl (lv_at hl 1 rfl) ?_
    refine lv_iconst (v := 0) hx hb dX5_holdSetUp_21 (by decide) ?_
    obtain ⟨b5, hf⟩ := g_if hf
    refine gsX_65 X E hP hS b5 dX5_holdSetUp_22 (fun H locs hP hS => ?_)
    obtain rfl := g_some hf
    exact g_rv X E hP hS dX5_holdSetUp_23
  · have hf := g_ift hf c3
    obtain rfl := g_some hf
    exact g_rv X E hP hS dX5_holdSetUp_8
theorem lkX3_hasSetUp_0 : Cond.fieldLink RX3 16 RX3 "setUps" "I" ∈ wsX3_hasSetUp := by decide +kernel
theorem inX3_hasSetUp_X3 : ∀ w ∈ wsX30, w ∈ wsX3_hasSetUp := by decide +kernel
def fX3_hasSetUp_now (S : GS) (a1 : Int32) : Option Int32 :=
  if a1 < 0 then
    some (0 : Int32)
  else
    if (S.1 2) ≤ a1 then
      some (0 : Int32)
    else
      some (1 : Int32)
set_option maxHeartbeats 4000000 in
set_option maxRecDepth 100000 in
theorem tcX3_hasSetUp_now (l : Launch) (G : GP) (S : GS) (a1 : Int32) {R : Int32} (hf : fX3_hasSetUp_now S a1 = some R) : CI l yX3_hasSetUp wsX3_hasSetUp 0 0 [.ref (ga G 15), .int a1] WX G S R S := by
  refine g_met RX3 (cc := cX3_hasSetUp) (nL := 2) (ret := (some .boolean)) (by decide) rfl rfl (Nat.le_of_ble_eq_true rfl) ?_
  intro p e s m below meth c ls X E hP hS hl
  have hl : lv_has ls 2 [(0, .ref (ga G 15)), (1, .int a1)] := hl
  obtain ⟨hx, hb, -, -, hown, hts, -⟩ := id X
  rw [fX3_hasSetUp_now] at hf
  refine lv_iload_n hx hb dX3_hasSetUp_0 rfl (lv_at hl 1 rfl) ?_
  refine lv_if_lt (tgt := 16) hx hb dX3_hasSetUp_1 (by decide) (fun c1 => ?_) (fun c1 => ?_)
  · have hf := g_ift hf c1
    refine lv_iconst (v := 0) hx hb dX3_hasSetUp_16 (by decide) ?_
    obtain rfl := g_some hf
    exact g_rz (v := (0 : Int32)) X E hP hS rfl dX3_hasSetUp_17
  · have hf := g_iff hf c1
    refine lv_iload_n hx hb dX3_hasSetUp_4 rfl (lv_at hl 1 rfl) ?_
    refine lv_aload_n hx hb dX3_hasSetUp_5 rfl (lv_at hl 0 rfl) ?_
    refine ggX_2 X E hP inX3_hasSetUp_X3 lkX3_hasSetUp_0 dX3_hasSetUp_6 ?_
    refine lv_icmp_ge (tgt := 16) hx hb dX3_hasSetUp_9 (by decide) (fun c2 => ?_) (fun c2 => ?_)
    · have hf := g_ift hf c2
      refine lv_iconst (v := 0) hx hb dX3_hasSetUp_16 (by decide) ?_
      obtain rfl := g_some hf
      exact g_rz (v := (0 : Int32)) X E hP hS rfl dX3_hasSetUp_17
    · have hf := g_iff hf c2
      refine lv_iconst (v := 1) hx hb dX3_hasSetUp_12 (by decide) ?_
      refine lv_goto (tgt := 17) hx hb dX3_hasSetUp_13 (by decide) ?_
      obtain rfl := g_some hf
      exact g_rz (v := (1 : Int32)) X E hP hS rfl dX3_hasSetUp_17
theorem lkX8_show_0 : Cond.fieldLink RX8 10 RX8 "shelves" "LBackToTheFirstStone$Shelves;" ∈ wsX8_show := by decide +kernel
theorem lkX8_show_1 : Cond.fieldLink RX8 19 RX8 "now" "LBackToTheFirstStone$Loop;" ∈ wsX8_show := by decide +kernel
theorem inX8_show_X8 : ∀ w ∈ wsX80, w ∈ wsX8_show := by decide +kernel
def fX8_show_L39 (S : GS) (v1 : Int32) (v2 : Int32) : Option (Int32 × GS) :=
  (fX5_holdSetUp S v1 v2).bind fun u5 =>
  if v2 = (-1 : Int32) then
    some ((0 : Int32), u5)
  else
    some ((1 : Int32), u5)
set_option maxHeartbeats 4000000 in
set_option maxRecDepth 100000 in
theorem bX8_show_L39 {p : Program} {l : Launch} {e : Env} {s : State} {m : MethodId} {args : Array Value} {below : List Frame} {meth : Method} {c : Code} {G : GP} (X : GX p s m meth c args cX8_show 3 (some .int) wsX8_show RX8) (E : gE WX G s) (S : GS) (v1 : Int32) (v2 : Int32) (R : (Int32 × GS)) (H : Heap) (locs : List Loc) (ls : Array Slot) (hf : fX8_show_L39 S v1 v2 = some R) (hP : va_P (gD G) vwCl (WX G S ++ gF G) H) (hS : va_S (gA G) s.heap H locs) (hl : lv_has ls 3 [(0, .ref (ga G 63)), (1, .int v1), (2, .int v2)]) : W p l e (gR 2 43) s m args below meth c H locs 0 0 (MQ below (gQi WX G R.1 R.2) args s 0 0 (gA G)) (F0 m 39 ls []) := by
  obtain ⟨hx, hb, -, -, hown, hts, -⟩ := id X
  rw [fX8_show_L39] at hf
  refine lv_aload_n hx hb dX8_show_39 rfl (lv_at hl 0 rfl) ?_
  refine ggX_48 X E hP inX8_show_X8 lkX8_show_0 dX8_show_40 ?_
  refine lv_iload_n hx hb dX8_show_43 rfl (lv_at hl 1 rfl) ?_
  refine lv_iload_n hx hb dX8_show_44 rfl (lv_at hl 2 rfl) ?_
  obtain ⟨u5, h6, hf⟩ := g_bind hf
  refine g_vv (rest := []) X E hP hS (tcX5_holdSetUp l G _ _ _ h6) (g_cwV X gX8_show_X5_holdSetUp rfl hdX5_holdSetUp ⟨Nat.le_of_ble_eq_true rfl, Nat.le_of_ble_eq_true rfl⟩) (rcX_shelves E hP) rfl hl.1 rfl (Nat.le_of_ble_eq_true rfl) dX8_show_45 ⟨Nat.le_refl _, Nat.le_refl _⟩ (fun H locs hP hS => ?_)
  refine lv_iload_n hx hb dX8_show_48 rfl (lv_at hl 2 rfl) ?_
  refine lv_iconst (v := -1) hx hb dX8_show_49 (by decide) ?_
  refine lv_icmp_ne (tgt := 57) hx hb dX8_show_50 (by decide) (fun c7 => ?_) (fun c7 => ?_)
  · have hf := g_iff hf c7
    refine lv_iconst (v := 1) hx hb dX8_show_57 (by decide) ?_
    obtain rfl := g_some hf
    exact g_ri X E hP hS dX8_show_58
  · have hf := g_ift hf c7
    refine lv_iconst (v := 0) hx hb dX8_show_53 (by decide) ?_
    refine lv_goto (tgt := 58) hx hb dX8_show_54 (by decide) ?_
    obtain rfl := g_some hf
    exact g_ri X E hP hS dX8_show_58
def fX8_show (S : GS) (a1 : Int32) (a2 : Int32) : Option (Int32 × GS) :=
  (fX5_has S a1).bind fun u1 =>
  if u1 = 0 then
    (fX8_refuse S (-1 : Int32)).bind fun u13 =>
    some (u13.1, u13.2)
  else
    if a2 = (-1 : Int32) then
      fX8_show_L39 S a1 a2
    else
      (fX3_hasSetUp_now S a2).bind fun u8 =>
      if u8 = 0 then
        (fX8_refuse S (-1 : Int32)).bind fun u11 =>
        some (u11.1, u11.2)
      else
        fX8_show_L39 S a1 a2
set_option maxHeartbeats 4000000 in
set_option maxRecDepth 100000 in
theorem tcX8_show (l : Launch) (G : GP) (S : GS) (a1 : Int32) (a2 : Int32) {R : (Int32 × GS)} (hf : fX8_show S a1 a2 = some R) : CI l yX8_show wsX8_show 2 43 [.ref (ga G 63), .int a1, .int a2] WX G S R.1 R.2 := by
  refine g_met RX8 (cc := cX8_show) (nL := 3) (ret := (some .int)) (by decide) rfl rfl (Nat.le_of_ble_eq_true rfl) ?_
  intro p e s m below meth c ls X E hP hS hl
  have hl : lv_has ls 3 [(0, .ref (ga G 63)), (1, .int a1), (2, .int a2)] := hl
  obtain ⟨hx, hb, -, -, hown, hts, -⟩ := id X
  rw [fX8_show] at hf
  refine lv_aload_n hx hb dX8_show_0 rfl (lv_at hl 0 rfl) ?_
  refine ggX_48 X E hP inX8_show_X8 lkX8_show_0 dX8_show_1 ?_
  refine lv_iload_n hx hb dX8_show_4 rfl (lv_at hl 1 rfl) ?_
  obtain ⟨u1, h2, hf⟩ := g_bind hf
  refine g_vi (rest := []) X E hP hS (tcX5_has l G _ _ h2) (g_cwV X gX8_show_X5_has rfl hdX5_has ⟨Nat.le_of_ble_eq_true rfl, Nat.le_of_ble_eq_true rfl⟩) (rcX_shelves E hP) rfl hl.1 rfl (Nat.le_of_ble_eq_true rfl) dX8_show_5 ⟨Nat.le_refl _, Nat.le_refl _⟩ (fun H locs hP hS => ?_)
  refine lv_if_ne (tgt := 17) hx hb dX8_show_8 (by decide) (fun c3 => ?_) (fun c3 => ?_)
  · have hf := g_iff hf c3
    refine lv_iload_n hx hb dX8_show_17 rfl (lv_at hl 2 rfl) ?_
    refine lv_iconst (v := -1) hx hb dX8_show_18 (by decide) ?_
    refine lv_icmp_eq (tgt := 39) hx hb dX8_show_19 (by decide) (fun c4 => ?_) (fun c4 => ?_)
    · have hf := g_ift hf c4
      exact bX8_show_L39 X E _ _ _ _ _ _ _ hf hP hS (lv_sub hl [0, 1, 2] rfl)
    · have hf := g_iff hf c4
      refine lv_aload_n hx hb dX8_show_22 rfl (lv_at hl 0 rfl) ?_
      refine ggX_49 X E hP inX8_show_X8 lkX8_show_1 dX8_show_23 ?_
      refine lv_iload_n hx hb dX8_show_26 rfl (lv_at hl 2 rfl) ?_
      obtain ⟨u8, h9, hf⟩ := g_bind hf
      refine g_vi (rest := []) X E hP hS (tcX3_hasSetUp_now l G _ _ h9) (g_cwV X gX8_show_X3_hasSetUp rfl hdX3_hasSetUp ⟨Nat.le_of_ble_eq_true rfl, Nat.le_of_ble_eq_true rfl⟩) (rcX_now E hP) rfl hl.1 rfl (Nat.le_of_ble_eq_true rfl) dX8_show_27 ⟨Nat.le_refl _, Nat.le_refl _⟩ (fun H locs hP hS => ?_)
      refine lv_if_ne (tgt := 39) hx hb dX8_show_30 (by decide) (fun c10 => ?_) (fun c10 => ?_)
      · have hf := g_iff hf c10
        exact bX8_show_L39 X E _ _ _ _ _ _ _ hf hP hS (lv_sub hl [0, 1, 2] rfl)
      · have hf := g_ift hf c10
        refine lv_aload_n hx hb dX8_show_33 rfl (lv_at hl 0 rfl) ?_
        refine lv_iconst (v := -1) hx hb dX8_show_34 (by decide) ?_
        obtain ⟨u11, h12, hf⟩ := g_bind hf
        refine g_vi (rest := []) X E hP hS (tcX8_refuse l G _ _ h12) (g_cwV X gX8_show_X8_refuse rfl hdX8_refuse ⟨Nat.le_of_ble_eq_true rfl, Nat.le_of_ble_eq_true rfl⟩) (rcX_main E hP) rfl hl.1 rfl (Nat.le_of_ble_eq_true rfl) dX8_show_35 ⟨Nat.le_refl _, Nat.le_refl _⟩ (fun H locs hP hS => ?_)
        obtain rfl := g_some hf
        exact g_ri X E hP hS dX8_show_38
  · have hf := g_ift hf c3
    refine lv_aload_n hx hb dX8_show_11 rfl (lv_at hl 0 rfl) ?_
    refine lv_iconst (v := -1) hx hb dX8_show_12 (by decide) ?_
    obtain ⟨u13, h14, hf⟩ := g_bind hf
    refine g_vi (rest := []) X E hP hS (tcX8_refuse l G _ _ h14) (g_cwV X gX8_show_X8_refuse rfl hdX8_refuse ⟨Nat.le_of_ble_eq_true rfl, Nat.le_of_ble_eq_true rfl⟩) (rcX_main E hP) rfl hl.1 rfl (Nat.le_of_ble_eq_true rfl) dX8_show_13 ⟨Nat.le_refl _, Nat.le_refl _⟩ (fun H locs hP hS => ?_)
    obtain rfl := g_some hf
    exact g_ri X E hP hS dX8_show_16
theorem lkX8_holds_0 : Cond.fieldLink RX8 10 RX8 "shelves" "LBackToTheFirstStone$Shelves;" ∈ wsX8_holds := by decide +kernel
theorem inX8_holds_X8 : ∀ w ∈ wsX80, w ∈ wsX8_holds := by decide +kernel
def fX8_holds (S : GS) (a1 : Int32) : Option Int32 :=
  (fX5_heldBy S a1).bind fun u1 =>
  some u1
set_option maxHeartbeats 4000000 in
set_option maxRecDepth 100000 in
theorem tcX8_holds (l : Launch) (G : GP) (S : GS) (a1 : Int32) {R : Int32} (hf : fX8_holds S a1 = some R) : CI l yX8_holds wsX8_holds 2 42 [.ref (ga G 63), .int a1] WX G S R S := by
  refine g_met RX8 (cc := cX8_holds) (nL := 2) (ret := (some .int)) (by decide) rfl rfl (Nat.le_of_ble_eq_true rfl) ?_
  intro p e s m below meth c ls X E hP hS hl
  have hl : lv_has ls 2 [(0, .ref (ga G 63)), (1, .int a1)] := hl
  obtain ⟨hx, hb, -, -, hown, hts, -⟩ := id X
  rw [fX8_holds] at hf
  refine lv_aload_n hx hb dX8_holds_0 rfl (lv_at hl 0 rfl) ?_
  refine ggX_48 X E hP inX8_holds_X8 lkX8_holds_0 dX8_holds_1 ?_
  refine lv_iload_n hx hb dX8_holds_4 rfl (lv_at hl 1 rfl) ?_
  obtain ⟨u1, h2, hf⟩ := g_bind hf
  refine g_vi (rest := []) X E hP hS (tcX5_heldBy l G _ _ h2) (g_cwV X gX8_holds_X5_heldBy rfl hdX5_heldBy ⟨Nat.le_of_ble_eq_true rfl, Nat.le_of_ble_eq_true rfl⟩) (rcX_shelves E hP) rfl hl.1 rfl (Nat.le_of_ble_eq_true rfl) dX8_holds_5 ⟨Nat.le_refl _, Nat.le_refl _⟩ (fun H locs hP hS => ?_)
  obtain rfl := g_some hf
  exact g_ri X E hP hS dX8_holds_8
theorem lkX3_fits_0 : Cond.fieldLink RX3 23 "BackToTheFirstStone$Loop" "LEAST" "[I" ∈ wsX3_fits := by decide +kernel
theorem lkX3_fits_1 : Cond.fieldLink RX3 26 "BackToTheFirstStone$Loop" "GREATEST" "[I" ∈ wsX3_fits := by decide +kernel
def fX3_fits (S : GS) (a1 : Int32) (a2 : Int32) : Option Int32 :=
  if a1 < 0 then
    some (0 : Int32)
  else
    if (11 : Int32) ≤ a1 then
      some (0 : Int32)
    else
      if a1 < 0 ∨ 11 ≤ (a1).toNatClampNeg then none else
      if a2 < (gTb 0 (a1).toNatClampNeg) then
        some (0 : Int32)
      else
        if a1 < 0 ∨ 11 ≤ (a1).toNatClampNeg then none else
        if (gTb 1 (a1).toNatClampNeg) < a2 then
          some (0 : Int32)
        else
          some (1 : Int32)
set_option maxHeartbeats 4000000 in
set_option maxRecDepth 100000 in
theorem tcX3_fits (l : Launch) (G : GP) (S : GS) (a1 : Int32) (a2 : Int32) {R : Int32} (hf : fX3_fits S a1 a2 = some R) : CI l yX3_fits wsX3_fits 0 0 [.int a1, .int a2] WX G S R S := by
  refine g_met RX3 (cc := cX3_fits) (nL := 2) (ret := (some .boolean)) (by decide) rfl rfl (Nat.le_of_ble_eq_true rfl) ?_
  intro p e s m below meth c ls X E hP hS hl
  have hl : lv_has ls 2 [(0, .int a1), (1, .int a2)] := hl
  obtain ⟨hx, hb, -, -, hown, hts, -⟩ := id X
  rw [fX3_fits] at hf
  refine lv_iload_n hx hb dX3_fits_0 rfl (lv_at hl 0 rfl) ?_
  refine lv_if_lt (tgt := 34) hx hb dX3_fits_1 (by decide) (fun c1 => ?_) (fun c1 => ?_)
  · have hf := g_ift hf c1
    refine lv_iconst (v := 0) hx hb dX3_fits_34 (by decide) ?_
    obtain rfl := g_some hf
    exact g_rz (v := (0 : Int32)) X E hP hS rfl dX3_fits_35
  · have hf := g_iff hf c1
    refine lv_iload_n hx hb dX3_fits_4 rfl (lv_at hl 0 rfl) ?_
    refine g_tget X E hS 0 rfl lkX3_fits_0 dX3_fits_5 ?_
    refine g_tln X E hS 0 rfl (v := (11 : Int32)) rfl dX3_fits_8 ?_
    refine lv_icmp_ge (tgt := 34) hx hb dX3_fits_9 (by decide) (fun c2 => ?_) (fun c2 => ?_)
    · have hf := g_ift hf c2
      refine lv_iconst (v := 0) hx hb dX3_fits_34 (by decide) ?_
      obtain rfl := g_some hf
      exact g_rz (v := (0 : Int32)) X E hP hS rfl dX3_fits_35
    · have hf := g_iff hf c2
      refine lv_iload_n hx hb dX3_fits_12 rfl (lv_at hl 1 rfl) ?_
      refine g_tget X E hS 0 rfl lkX3_fits_0 dX3_fits_13 ?_
      refine lv_iload_n hx hb dX3_fits_16 rfl (lv_at hl 0 rfl) ?_
      obtain ⟨b3, hf⟩ := g_if hf
      refine g_tld X E hS 0 rfl b3 dX3_fits_17 ?_
      refine lv_icmp_lt (tgt := 34) hx hb dX3_fits_18 (by decide) (fun c4 => ?_) (fun c4 => ?_)
      · have hf := g_ift hf c4
        refine lv_iconst (v := 0) hx hb dX3_fits_34 (by decide) ?_
        obtain rfl := g_some hf
        exact g_rz (v := (0 : Int32)) X E hP hS rfl dX3_fits_35
      · have hf := g_iff hf c4
        refine lv_iload_n hx hb dX3_fits_21 rfl (lv_at hl 1 rfl) ?_
        refine g_tget X E hS 1 rfl lkX3_fits_1 dX3_fits_22 ?_
        refine lv_iload_n hx hb dX3_fits_25 rfl (lv_at hl 0 rfl) ?_
        obtain ⟨b5, hf⟩ := g_if hf
        refine g_tld X E hS 1 rfl b5 dX3_fits_26 ?_
        refine lv_icmp_gt (tgt := 34) hx hb dX3_fits_27 (by decide) (fun c6 => ?_) (fun c6 => ?_)
        · have hf := g_ift hf c6
          refine lv_iconst (v := 0) hx hb dX3_fits_34 (by decide) ?_
          obtain rfl := g_some hf
          exact g_rz (v := (0 : Int32)) X E hP hS rfl dX3_fits_35
        · have hf := g_iff hf c6
          refine lv_iconst (v := 1) hx hb dX3_fits_30 (by decide) ?_
          refine lv_goto (tgt := 35) hx hb dX3_fits_31 (by decide) ?_
          obtain rfl := g_some hf
          exact g_rz (v := (1 : Int32)) X E hP hS rfl dX3_fits_35
theorem lkX3_get_0 : Cond.fieldLink RX3 9 RX3 "figures" "[I" ∈ wsX3_get := by decide +kernel
theorem inX3_get_X3 : ∀ w ∈ wsX30, w ∈ wsX3_get := by decide +kernel
def fX3_get_now_L24 (S : GS) (v1 : Int32) (v2 : Int32) : Option Int32 :=
  some (0 : Int32)
set_option maxHeartbeats 4000000 in
set_option maxRecDepth 100000 in
theorem bX3_get_now_L24 {p : Program} {l : Launch} {e : Env} {s : State} {m : MethodId} {args : Array Value} {below : List Frame} {meth : Method} {c : Code} {G : GP} (X : GX p s m meth c args cX3_get 4 (some .int) wsX3_get RX3) (E : gE WX G s) (S : GS) (v1 : Int32) (v2 : Int32) (R : Int32) (H : Heap) (locs : List Loc) (ls : Array Slot) (hf : fX3_get_now_L24 S v1 v2 = some R) (hP : va_P (gD G) vwCl (WX G S ++ gF G) H) (hS : va_S (gA G) s.heap H locs) (hl : lv_has ls 4 [(0, .ref (ga G 15)), (1, .int v1), (2, .int v2)]) : W p l e (gR 0 0) s m args below meth c H locs 0 0 (MQ below (gQi WX G R S) args s 0 0 (gA G)) (F0 m 24 ls []) := by
  obtain ⟨hx, hb, -, -, hown, hts, -⟩ := id X
  rw [fX3_get_now_L24] at hf
  refine lv_iconst (v := 0) hx hb dX3_get_24 (by decide) ?_
  refine lv_istore_n (lv' := [(3, .int (0 : Int32)), (0, .ref (ga G 15)), (1, .int v1), (2, .int v2)]) hx hb dX3_get_25 rfl hl (by decide) rfl (fun ls hl => ?_)
  refine lv_iload_n hx hb dX3_get_26 rfl (lv_at hl 0 rfl) ?_
  refine lv_if_eq (tgt := 44) hx hb dX3_get_27 (by decide) (fun _ => ?_) (fun z => absurd z (by decide))
  refine lv_iconst (v := 0) hx hb dX3_get_44 (by decide) ?_
  obtain rfl := g_some hf
  exact g_ri X E hP hS dX3_get_45
def fX3_get_now (S : GS) (a1 : Int32) (a2 : Int32) : Option Int32 :=
  if a1 < 0 then
    fX3_get_now_L24 S a1 a2
  else
    if (16 : Int32) ≤ a1 then
      fX3_get_now_L24 S a1 a2
    else
      if a2 < 0 then
        fX3_get_now_L24 S a1 a2
      else
        if (8 : Int32) ≤ a2 then
          fX3_get_now_L24 S a1 a2
        else
          if ((a1 * (8 : Int32)) + a2) < 0 ∨ 128 ≤ ((a1 * (8 : Int32)) + a2).toNatClampNeg then none else
          some (S.2.2.1 0 ((a1 * (8 : Int32)) + a2).toNatClampNeg)
set_option maxHeartbeats 4000000 in
set_option maxRecDepth 100000 in
theorem tcX3_get_now (l : Launch) (G : GP) (S : GS) (a1 : Int32) (a2 : Int32) {R : Int32} (hf : fX3_get_now S a1 a2 = some R) : CI l yX3_get wsX3_get 0 0 [.ref (ga G 15), .int a1, .int a2] WX G S R S := by
  refine g_met RX3 (cc := cX3_get) (nL := 4) (ret := (some .int)) (by decide) rfl rfl (Nat.le_of_ble_eq_true rfl) ?_
  intro p e s m below meth c ls X E hP hS hl
  have hl : lv_has ls 4 [(0, .ref (ga G 15)), (1, .int a1), (2, .int a2)] := hl
  obtain ⟨hx, hb, -, -, hown, hts, -⟩ := id X
  rw [fX3_get_now] at hf
  refine lv_iload_n hx hb dX3_get_0 rfl (lv_at hl 1 rfl) ?_
  refine lv_if_lt (tgt := 24) hx hb dX3_get_1 (by decide) (fun c1 => ?_) (fun c1 => ?_)
  · have hf := g_ift hf c1
    exact bX3_get_now_L24 X E _ _ _ _ _ _ _ hf hP hS (lv_sub hl [0, 1, 2] rfl)
  · have hf := g_iff hf c1
    refine lv_iload_n hx hb dX3_get_4 rfl (lv_at hl 1 rfl) ?_
    refine lv_bipush (v := 16) hx hb dX3_get_5 (by decide) ?_
    refine lv_icmp_ge (tgt := 24) hx hb dX3_get_7 (by decide) (fun c2 => ?_) (fun c2 => ?_)
    · have hf := g_ift hf c2
      exact bX3_get_now_L24 X E _ _ _ _ _ _ _ hf hP hS (lv_sub hl [0, 1, 2] rfl)
    · have hf := g_iff hf c2
      refine lv_iload_n hx hb dX3_get_10 rfl (lv_at hl 2 rfl) ?_
      refine lv_if_lt (tgt := 24) hx hb dX3_get_11 (by decide) (fun c3 => ?_) (fun c3 => ?_)
      · have hf := g_ift hf c3
        exact bX3_get_now_L24 X E _ _ _ _ _ _ _ hf hP hS (lv_sub hl [0, 1, 2] rfl)
      · have hf := g_iff hf c3
        refine lv_iload_n hx hb dX3_get_14 rfl (lv_at hl 2 rfl) ?_
        refine lv_bipush (v := 8) hx hb dX3_get_15 (by decide) ?_
        refine lv_icmp_ge (tgt := 24) hx hb dX3_get_17 (by decide) (fun c4 => ?_) (fun c4 => ?_)
        · have hf := g_ift hf c4
          exact bX3_get_now_L24 X E _ _ _ _ _ _ _ hf hP hS (lv_sub hl [0, 1, 2] rfl)
        · have hf := g_iff hf c4
          refine lv_iconst (v := 1) hx hb dX3_get_20 (by decide) ?_
          refine lv_goto (tgt := 25) hx hb dX3_get_21 (by decide) ?_
          refine lv_istore_n (lv' := [(3, .int (1 : Int32)), (0, .ref (ga G 15)), (1, .int a1), (2, .int a2)]) hx hb dX3_get_25 rfl hl (by decide) rfl (fun ls hl => ?_)
          refine lv_iload_n hx hb dX3_get_26 rfl (lv_at hl 0 rfl) ?_
          refine lv_if_eq (tgt := 44) hx hb dX3_get_27 (by decide) (fun z => absurd z (by decide)) (fun _ => ?_)
          refine lv_aload_n hx hb dX3_get_30 rfl (lv_at hl 1 rfl) ?_
          refine ggX_0 X E hP inX3_get_X3 lkX3_get_0 dX3_get_31 ?_
          refine lv_iload_n hx hb dX3_get_34 rfl (lv_at hl 2 rfl) ?_
          refine lv_bipush (v := 8) hx hb dX3_get_35 (by decide) ?_
          refine lv_imul hx hb dX3_get_37 ?_
          refine lv_iload_n hx hb dX3_get_38 rfl (lv_at hl 3 rfl) ?_
          refine lv_iadd hx hb dX3_get_39 ?_
          obtain ⟨b5, hf⟩ := g_if hf
          refine giX_0 X E hP b5 dX3_get_40 ?_
          refine lv_goto (tgt := 45) hx hb dX3_get_41 (by decide) ?_
          obtain rfl := g_some hf
          exact g_ri X E hP hS dX3_get_45
theorem lkX1_above_0 : Cond.fieldLink RX1 9 "BackToTheFirstStone$Kind" "ABOVE" "[I" ∈ wsX1_above := by decide +kernel
def fX1_above (S : GS) (a1 : Int32) : Option Int32 :=
  if a1 < 0 then
    some (-1 : Int32)
  else
    if (7 : Int32) ≤ a1 then
      some (-1 : Int32)
    else
      if a1 < 0 ∨ 7 ≤ (a1).toNatClampNeg then none else
      some (gTb 2 (a1).toNatClampNeg)
set_option maxHeartbeats 4000000 in
set_option maxRecDepth 100000 in
theorem tcX1_above (l : Launch) (G : GP) (S : GS) (a1 : Int32) {R : Int32} (hf : fX1_above S a1 = some R) : CI l yX1_above wsX1_above 0 0 [.int a1] WX G S R S := by
  refine g_met RX1 (cc := cX1_above) (nL := 1) (ret := (some .int)) (by decide) rfl rfl (Nat.le_of_ble_eq_true rfl) ?_
  intro p e s m below meth c ls X E hP hS hl
  have hl : lv_has ls 1 [(0, .int a1)] := hl
  obtain ⟨hx, hb, -, -, hown, hts, -⟩ := id X
  rw [fX1_above] at hf
  refine lv_iload_n hx hb dX1_above_0 rfl (lv_at hl 0 rfl) ?_
  refine lv_if_lt (tgt := 20) hx hb dX1_above_1 (by decide) (fun c1 => ?_) (fun c1 => ?_)
  · have hf := g_ift hf c1
    refine lv_iconst (v := -1) hx hb dX1_above_20 (by decide) ?_
    obtain rfl := g_some hf
    exact g_ri X E hP hS dX1_above_21
  · have hf := g_iff hf c1
    refine lv_iload_n hx hb dX1_above_4 rfl (lv_at hl 0 rfl) ?_
    refine g_tget X E hS 2 rfl lkX1_above_0 dX1_above_5 ?_
    refine g_tln X E hS 2 rfl (v := (7 : Int32)) rfl dX1_above_8 ?_
    refine lv_icmp_ge (tgt := 20) hx hb dX1_above_9 (by decide) (fun c2 => ?_) (fun c2 => ?_)
    · have hf := g_ift hf c2
      refine lv_iconst (v := -1) hx hb dX1_above_20 (by decide) ?_
      obtain rfl := g_some hf
      exact g_ri X E hP hS dX1_above_21
    · have hf := g_iff hf c2
      refine g_tget X E hS 2 rfl lkX1_above_0 dX1_above_12 ?_
      refine lv_iload_n hx hb dX1_above_15 rfl (lv_at hl 0 rfl) ?_
      obtain ⟨b3, hf⟩ := g_if hf
      refine g_tld X E hS 2 rfl b3 dX1_above_16 ?_
      refine lv_goto (tgt := 21) hx hb dX1_above_17 (by decide) ?_
      obtain rfl := g_some hf
      exact g_ri X E hP hS dX1_above_21
theorem lkX1_isUnder_0 : Cond.fieldLink RX1 9 "BackToTheFirstStone$Kind" "ABOVE" "[I" ∈ wsX1_isUnder := by decide +kernel
def fX1_isUnder_4 : Nat → GS → Int32 → Int32 → Int32 → Option Int32
  | 0, _, _, _, _ => none
  | fu + 1, S, v1, v2, v3 =>
    if (7 : Int32) ≤ v3 then
      some (0 : Int32)
    else
      if v2 = (-1 : Int32) then
        some (0 : Int32)
      else
        if v2 = v1 then
          some (1 : Int32)
        else
          (fX1_above S v2).bind fun u4 =>
          fX1_isUnder_4 fu S v1 u4 (v3 + 1)
set_option maxHeartbeats 4000000 in
set_option maxRecDepth 100000 in
theorem bX1_isUnder_4 {p : Program} {l : Launch} {e : Env} {s : State} {m : MethodId} {args : Array Value} {below : List Frame} {meth : Method} {c : Code} {G : GP} (X : GX p s m meth c args cX1_isUnder 4 (some .boolean) wsX1_isUnder RX1) (E : gE WX G s)  : ∀ (fu : Nat) (S : GS) (v1 : Int32) (v2 : Int32) (v3 : Int32) (R : Int32) (H : Heap) (locs : List Loc) (ls : Array Slot) (_ : fX1_isUnder_4 fu S v1 v2 v3 = some R) (_ : va_P (gD G) vwCl (WX G S ++ gF G) H) (_ : va_S (gA G) s.heap H locs) (_ : lv_has ls 4 [(1, .int v1), (2, .int v2), (3, .int v3)]), W p l e (gR 1 20) s m args below meth c H locs 0 0 (MQ below (gQi WX G R S) args s 0 0 (gA G)) (F0 m 4 ls []) := by
  obtain ⟨hx, hb, -, -, hown, hts, -⟩ := id X
  intro fu
  induction fu with
  | zero =>
    intro S v1 v2 v3 R H locs ls hf
    cases (show (none : Option Int32) = some R from hf)
  | succ fu ih =>
    intro S v1 v2 v3 R H locs ls hf hP hS hl
    rw [fX1_isUnder_4] at hf
    refine lv_iload_n hx hb dX1_isUnder_4 rfl (lv_at hl 2 rfl) ?_
    refine g_tget X E hS 2 rfl lkX1_isUnder_0 dX1_isUnder_5 ?_
    refine g_tln X E hS 2 rfl (v := (7 : Int32)) rfl dX1_isUnder_8 ?_
    refine lv_icmp_ge (tgt := 35) hx hb dX1_isUnder_9 (by decide) (fun c1 => ?_) (fun c1 => ?_)
    · have hf := g_ift hf c1
      refine lv_iconst (v := 0) hx hb dX1_isUnder_35 (by decide) ?_
      obtain rfl := g_some hf
      exact g_rz (v := (0 : Int32)) X E hP hS rfl dX1_isUnder_36
    · have hf := g_iff hf c1
      refine lv_iload_n hx hb dX1_isUnder_12 rfl (lv_at hl 1 rfl) ?_
      refine lv_iconst (v := -1) hx hb dX1_isUnder_13 (by decide) ?_
      refine lv_icmp_eq (tgt := 35) hx hb dX1_isUnder_14 (by decide) (fun c2 => ?_) (fun c2 => ?_)
      · have hf := g_ift hf c2
        refine lv_iconst (v := 0) hx hb dX1_isUnder_35 (by decide) ?_
        obtain rfl := g_some hf
        exact g_rz (v := (0 : Int32)) X E hP hS rfl dX1_isUnder_36
      · have hf := g_iff hf c2
        refine lv_iload_n hx hb dX1_isUnder_17 rfl (lv_at hl 1 rfl) ?_
        refine lv_iload_n hx hb dX1_isUnder_18 rfl (lv_at hl 0 rfl) ?_
        refine lv_icmp_ne (tgt := 24) hx hb dX1_isUnder_19 (by decide) (fun c3 => ?_) (fun c3 => ?_)
        · have hf := g_iff hf c3
          refine lv_iload_n hx hb dX1_isUnder_24 rfl (lv_at hl 1 rfl) ?_
          obtain ⟨u4, h5, hf⟩ := g_bind hf
          refine g_si (rest := []) X E hP hS (tcX1_above l G _ _ h5) (g_cwS X gX1_isUnder_X1_above rfl hdX1_above ⟨Nat.le_of_ble_eq_true rfl, Nat.le_of_ble_eq_true rfl⟩) rfl hl.1 rfl (Nat.le_of_ble_eq_true rfl) dX1_isUnder_25 ⟨Nat.le_refl _, Nat.le_refl _⟩ (fun H locs hP hS => ?_)
          refine lv_istore_n (lv' := [(2, .int u4), (1, .int v1), (3, .int v3)]) hx hb dX1_isUnder_28 rfl hl (by decide) rfl (fun ls hl => ?_)
          refine lv_iinc (v := (v3 + 1)) (lv' := [(3, .int (v3 + 1)), (2, .int u4), (1, .int v1)]) hx hb dX1_isUnder_29 hl (k := 2) rfl rfl (by decide) rfl (fun ls hl => ?_)
          refine lv_goto (tgt := 4) hx hb dX1_isUnder_32 (by decide) ?_
          exact ih _ _ _ _ _ _ _ _ hf hP hS (lv_sub hl [2, 1, 0] rfl)
        · have hf := g_ift hf c3
          refine lv_iconst (v := 1) hx hb dX1_isUnder_22 (by decide) ?_
          obtain rfl := g_some hf
          exact g_rz (v := (1 : Int32)) X E hP hS rfl dX1_isUnder_23
def fX1_isUnder (S : GS) (a1 : Int32) (a2 : Int32) : Option Int32 :=
  fX1_isUnder_4 gFuel S a2 a1 (0 : Int32)
set_option maxHeartbeats 4000000 in
set_option maxRecDepth 100000 in
theorem tcX1_isUnder (l : Launch) (G : GP) (S : GS) (a1 : Int32) (a2 : Int32) {R : Int32} (hf : fX1_isUnder S a1 a2 = some R) : CI l yX1_isUnder wsX1_isUnder 1 20 [.int a1, .int a2] WX G S R S := by
  refine g_met RX1 (cc := cX1_isUnder) (nL := 4) (ret := (some .boolean)) (by decide) rfl rfl (Nat.le_of_ble_eq_true rfl) ?_
  intro p e s m below meth c ls X E hP hS hl
  have hl : lv_has ls 4 [(0, .int a1), (1, .int a2)] := hl
  obtain ⟨hx, hb, -, -, hown, hts, -⟩ := id X
  rw [fX1_isUnder] at hf
  refine lv_iload_n hx hb dX1_isUnder_0 rfl (lv_at hl 0 rfl) ?_
  refine lv_istore_n (lv' := [(2, .int a1), (0, .int a1), (1, .int a2)]) hx hb dX1_isUnder_1 rfl hl (by decide) rfl (fun ls hl => ?_)
  refine lv_iconst (v := 0) hx hb dX1_isUnder_2 (by decide) ?_
  refine lv_istore_n (lv' := [(3, .int (0 : Int32)), (2, .int a1), (0, .int a1), (1, .int a2)]) hx hb dX1_isUnder_3 rfl hl (by decide) rfl (fun ls hl => ?_)
  exact bX1_isUnder_4 X E gFuel _ _ _ _ _ _ _ _ hf hP hS (lv_sub hl [3, 1, 0] rfl)
theorem lkX8_saysRefusal_0 : Cond.fieldLink RX8 10 RX8 "shelves" "LBackToTheFirstStone$Shelves;" ∈ wsX8_saysRefusal := by decide +kernel
theorem lkX8_saysRefusal_1 : Cond.fieldLink RX8 19 RX8 "now" "LBackToTheFirstStone$Loop;" ∈ wsX8_saysRefusal := by decide +kernel
theorem inX8_saysRefusal_X8 : ∀ w ∈ wsX80, w ∈ wsX8_saysRefusal := by decide +kernel
def fX8_saysRefusal (S : GS) (a1 : Int32) (a2 : Int32) : Option Int32 :=
  (fX5_has S a1).bind fun u1 =>
  if u1 = 0 then
    some (-1 : Int32)
  else
    (fX3_fits S (0 : Int32) a2).bind fun u4 =>
    if u4 = 0 then
      some (-1 : Int32)
    else
      (fX5_heldBy S a1).bind fun u7 =>
      if u7 = (-1 : Int32) then
        some (-3 : Int32)
      else
        (fX5_holdsSetUp S a1).bind fun u10 =>
        if u10 = 0 then
          some (-2 : Int32)
        else
          (fX5_heldBy S a1).bind fun u13 =>
          (fX3_get_now S u13 (0 : Int32)).bind fun u15 =>
          (fX1_isUnder S u15 a2).bind fun u17 =>
          if u17 = 0 then
            some (-2 : Int32)
          else
            some (0 : Int32)
set_option maxHeartbeats 4000000 in
set_option maxRecDepth 100000 in
theorem tcX8_saysRefusal (l : Launch) (G : GP) (S : GS) (a1 : Int32) (a2 : Int32) {R : Int32} (hf : fX8_saysRefusal S a1 a2 = some R) : CI l yX8_saysRefusal wsX8_saysRefusal 2 43 [.ref (ga G 63), .int a1, .int a2] WX G S R S := by
  refine g_met RX8 (cc := cX8_saysRefusal) (nL := 3) (ret := (some .int)) (by decide) rfl rfl (Nat.le_of_ble_eq_true rfl) ?_
  intro p e s m below meth c ls X E hP hS hl
  have hl : lv_has ls 3 [(0, .ref (ga G 63)), (1, .int a1), (2, .int a2)] := hl
  obtain ⟨hx, hb, -, -, hown, hts, -⟩ := id X
  rw [fX8_saysRefusal] at hf
  refine lv_aload_n hx hb dX8_saysRefusal_0 rfl (lv_at hl 0 rfl) ?_
  refine ggX_48 X E hP inX8_saysRefusal_X8 lkX8_saysRefusal_0 dX8_saysRefusal_1 ?_
  refine lv_iload_n hx hb dX8_saysRefusal_4 rfl (lv_at hl 1 rfl) ?_
  obtain ⟨u1, h2, hf⟩ := g_bind hf
  refine g_vi (rest := []) X E hP hS (tcX5_has l G _ _ h2) (g_cwV X gX8_saysRefusal_X5_has rfl hdX5_has ⟨Nat.le_of_ble_eq_true rfl, Nat.le_of_ble_eq_true rfl⟩) (rcX_shelves E hP) rfl hl.1 rfl (Nat.le_of_ble_eq_true rfl) dX8_saysRefusal_5 ⟨Nat.le_refl _, Nat.le_refl _⟩ (fun H locs hP hS => ?_)
  refine lv_if_eq (tgt := 19) hx hb dX8_saysRefusal_8 (by decide) (fun c3 => ?_) (fun c3 => ?_)
  · have hf := g_ift hf c3
    refine lv_iconst (v := -1) hx hb dX8_saysRefusal_19 (by decide) ?_
    obtain rfl := g_some hf
    exact g_ri X E hP hS dX8_saysRefusal_20
  · have hf := g_iff hf c3
    refine lv_iconst (v := 0) hx hb dX8_saysRefusal_11 (by decide) ?_
    refine lv_iload_n hx hb dX8_saysRefusal_12 rfl (lv_at hl 2 rfl) ?_
    obtain ⟨u4, h5, hf⟩ := g_bind hf
    refine g_si (rest := []) X E hP hS (tcX3_fits l G _ _ _ h5) (g_cwS X gX8_saysRefusal_X3_fits rfl hdX3_fits ⟨Nat.le_of_ble_eq_true rfl, Nat.le_of_ble_eq_true rfl⟩) rfl hl.1 rfl (Nat.le_of_ble_eq_true rfl) dX8_saysRefusal_13 ⟨Nat.le_refl _, Nat.le_refl _⟩ (fun H locs hP hS => ?_)
    refine lv_if_ne (tgt := 21) hx hb dX8_saysRefusal_16 (by decide) (fun c6 => ?_) (fun c6 => ?_)
    · have hf := g_iff hf c6
      refine lv_aload_n hx hb dX8_saysRefusal_21 rfl (lv_at hl 0 rfl) ?_
      refine ggX_48 X E hP inX8_saysRefusal_X8 lkX8_saysRefusal_0 dX8_saysRefusal_22 ?_
      refine lv_iload_n hx hb dX8_saysRefusal_25 rfl (lv_at hl 1 rfl) ?_
      obtain ⟨u7, h8, hf⟩ := g_bind hf
      refine g_vi (rest := []) X E hP hS (tcX5_heldBy l G _ _ h8) (g_cwV X gX8_saysRefusal_X5_heldBy rfl hdX5_heldBy ⟨Nat.le_of_ble_eq_true rfl, Nat.le_of_ble_eq_true rfl⟩) (rcX_shelves E hP) rfl hl.1 rfl (Nat.le_of_ble_eq_true rfl) dX8_saysRefusal_26 ⟨Nat.le_refl _, Nat.le_refl _⟩ (fun H locs hP hS => ?_)
      refine lv_iconst (v := -1) hx hb dX8_saysRefusal_29 (by decide) ?_
      refine lv_icmp_ne (tgt := 36) hx hb dX8_saysRefusal_30 (by decide) (fun c9 => ?_) (fun c9 => ?_)
      · have hf := g_iff hf c9
        refine lv_aload_n hx hb dX8_saysRefusal_36 rfl (lv_at hl 0 rfl) ?_
        refine ggX_48 X E hP inX8_saysRefusal_X8 lkX8_saysRefusal_0 dX8_saysRefusal_37 ?_
        refine lv_iload_n hx hb dX8_saysRefusal_40 rfl (lv_at hl 1 rfl) ?_
        obtain ⟨u10, h11, hf⟩ := g_bind hf
        refine g_vi (rest := []) X E hP hS (tcX5_holdsSetUp l G _ _ h11) (g_cwV X gX8_saysRefusal_X5_holdsSetUp rfl hdX5_holdsSetUp ⟨Nat.le_of_ble_eq_true rfl, Nat.le_of_ble_eq_true rfl⟩) (rcX_shelves E hP) rfl hl.1 rfl (Nat.le_of_ble_eq_true rfl) dX8_saysRefusal_41 ⟨Nat.le_refl _, Nat.le_refl _⟩ (fun H locs hP hS => ?_)
        refine lv_if_ne (tgt := 50) hx hb dX8_saysRefusal_44 (by decide) (fun c12 => ?_) (fun c12 => ?_)
        · have hf := g_iff hf c12
          refine lv_aload_n hx hb dX8_saysRefusal_50 rfl (lv_at hl 0 rfl) ?_
          refine ggX_49 X E hP inX8_saysRefusal_X8 lkX8_saysRefusal_1 dX8_saysRefusal_51 ?_
          refine lv_aload_n hx hb dX8_saysRefusal_54 rfl (lv_at hl 0 rfl) ?_
          refine ggX_48 X E hP inX8_saysRefusal_X8 lkX8_saysRefusal_0 dX8_saysRefusal_55 ?_
          refine lv_iload_n hx hb dX8_saysRefusal_58 rfl (lv_at hl 1 rfl) ?_
          obtain ⟨u13, h14, hf⟩ := g_bind hf
          refine g_vi (rest := [.ref (ga G 15)]) X E hP hS (tcX5_heldBy l G _ _ h14) (g_cwV X gX8_saysRefusal_X5_heldBy rfl hdX5_heldBy ⟨Nat.le_of_ble_eq_true rfl, Nat.le_of_ble_eq_true rfl⟩) (rcX_shelves E hP) rfl hl.1 rfl (Nat.le_of_ble_eq_true rfl) dX8_saysRefusal_59 ⟨Nat.le_refl _, Nat.le_refl _⟩ (fun H locs hP hS => ?_)
          refine lv_iconst (v := 0) hx hb dX8_saysRefusal_62 (by decide) ?_
          obtain ⟨u15, h16, hf⟩ := g_bind hf
          refine g_vi (rest := []) X E hP hS (tcX3_get_now l G _ _ _ h16) (g_cwV X gX8_saysRefusal_X3_get rfl hdX3_get ⟨Nat.le_of_ble_eq_true rfl, Nat.le_of_ble_eq_true rfl⟩) (rcX_now E hP) rfl hl.1 rfl (Nat.le_of_ble_eq_true rfl) dX8_saysRefusal_63 ⟨Nat.le_refl _, Nat.le_refl _⟩ (fun H locs hP hS => ?_)
          refine lv_iload_n hx hb dX8_saysRefusal_66 rfl (lv_at hl 2 rfl) ?_
          obtain ⟨u17, h18, hf⟩ := g_bind hf
          refine g_si (rest := []) X E hP hS (tcX1_isUnder l G _ _ _ h18) (g_cwS X gX8_saysRefusal_X1_isUnder rfl hdX1_isUnder ⟨Nat.le_of_ble_eq_true rfl, Nat.le_of_ble_eq_true rfl⟩) rfl hl.1 rfl (Nat.le_of_ble_eq_true rfl) dX8_saysRefusal_67 ⟨Nat.le_refl _, Nat.le_refl _⟩ (fun H locs hP hS => ?_)
          refine lv_if_eq (tgt := 77) hx hb dX8_saysRefusal_70 (by decide) (fun c19 => ?_) (fun c19 => ?_)
          · have hf := g_ift hf c19
            refine lv_bipush (v := -2) hx hb dX8_saysRefusal_77 (by decide) ?_
            obtain rfl := g_some hf
            exact g_ri X E hP hS dX8_saysRefusal_79
          · have hf := g_iff hf c19
            refine lv_iconst (v := 0) hx hb dX8_saysRefusal_73 (by decide) ?_
            refine lv_goto (tgt := 79) hx hb dX8_saysRefusal_74 (by decide) ?_
            obtain rfl := g_some hf
            exact g_ri X E hP hS dX8_saysRefusal_79
        · have hf := g_ift hf c12
          refine lv_bipush (v := -2) hx hb dX8_saysRefusal_47 (by decide) ?_
          obtain rfl := g_some hf
          exact g_ri X E hP hS dX8_saysRefusal_49
      · have hf := g_ift hf c9
        refine lv_bipush (v := -3) hx hb dX8_saysRefusal_33 (by decide) ?_
        obtain rfl := g_some hf
        exact g_ri X E hP hS dX8_saysRefusal_35
    · have hf := g_ift hf c6
      refine lv_iconst (v := -1) hx hb dX8_saysRefusal_19 (by decide) ?_
      obtain rfl := g_some hf
      exact g_ri X E hP hS dX8_saysRefusal_20
def fX3_yardsOf_now (S : GS) (a1 : Int32) : Option Int32 :=
  (fX3_get_now S a1 (4 : Int32)).bind fun u1 =>
  (fX3_get_now S a1 (5 : Int32)).bind fun u3 =>
  some (u1 + u3)
set_option maxHeartbeats 4000000 in
set_option maxRecDepth 100000 in
theorem tcX3_yardsOf_now (l : Launch) (G : GP) (S : GS) (a1 : Int32) {R : Int32} (hf : fX3_yardsOf_now S a1 = some R) : CI l yX3_yardsOf wsX3_yardsOf 1 23 [.ref (ga G 15), .int a1] WX G S R S := by
  refine g_met RX3 (cc := cX3_yardsOf) (nL := 2) (ret := (some .int)) (by decide) rfl rfl (Nat.le_of_ble_eq_true rfl) ?_
  intro p e s m below meth c ls X E hP hS hl
  have hl : lv_has ls 2 [(0, .ref (ga G 15)), (1, .int a1)] := hl
  obtain ⟨hx, hb, -, -, hown, hts, -⟩ := id X
  rw [fX3_yardsOf_now] at hf
  refine lv_aload_n hx hb dX3_yardsOf_0 rfl (lv_at hl 0 rfl) ?_
  refine lv_iload_n hx hb dX3_yardsOf_1 rfl (lv_at hl 1 rfl) ?_
  refine lv_iconst (v := 4) hx hb dX3_yardsOf_2 (by decide) ?_
  obtain ⟨u1, h2, hf⟩ := g_bind hf
  refine g_vi (rest := []) X E hP hS (tcX3_get_now l G _ _ _ h2) (g_cwV X gX3_yardsOf_X3_get rfl hdX3_get ⟨Nat.le_of_ble_eq_true rfl, Nat.le_of_ble_eq_true rfl⟩) (rcX_now E hP) rfl hl.1 rfl (Nat.le_of_ble_eq_true rfl) dX3_yardsOf_3 ⟨Nat.le_refl _, Nat.le_refl _⟩ (fun H locs hP hS => ?_)
  refine lv_aload_n hx hb dX3_yardsOf_6 rfl (lv_at hl 0 rfl) ?_
  refine lv_iload_n hx hb dX3_yardsOf_7 rfl (lv_at hl 1 rfl) ?_
  refine lv_iconst (v := 5) hx hb dX3_yardsOf_8 (by decide) ?_
  obtain ⟨u3, h4, hf⟩ := g_bind hf
  refine g_vi (rest := [.int u1]) X E hP hS (tcX3_get_now l G _ _ _ h4) (g_cwV X gX3_yardsOf_X3_get rfl hdX3_get ⟨Nat.le_of_ble_eq_true rfl, Nat.le_of_ble_eq_true rfl⟩) (rcX_now E hP) rfl hl.1 rfl (Nat.le_of_ble_eq_true rfl) dX3_yardsOf_9 ⟨Nat.le_refl _, Nat.le_refl _⟩ (fun H locs hP hS => ?_)
  refine lv_iadd hx hb dX3_yardsOf_12 ?_
  obtain rfl := g_some hf
  exact g_ri X E hP hS dX3_yardsOf_13
def fX3_sunkBy_now (S : GS) (a1 : Int32) : Option Int32 :=
  (fX3_get_now S a1 (0 : Int32)).bind fun u1 =>
  if u1 = (2 : Int32) then
    (fX3_get_now S a1 (1 : Int32)).bind fun u4 =>
    some u4
  else if u1 = (5 : Int32) then
    (fX3_get_now S a1 (1 : Int32)).bind fun u7 =>
    some ((2 : Int32) * u7)
  else some (0 : Int32)
set_option maxHeartbeats 4000000 in
set_option maxRecDepth 100000 in
theorem tcX3_sunkBy_now (l : Launch) (G : GP) (S : GS) (a1 : Int32) {R : Int32} (hf : fX3_sunkBy_now S a1 = some R) : CI l yX3_sunkBy wsX3_sunkBy 1 23 [.ref (ga G 15), .int a1] WX G S R S := by
  refine g_met RX3 (cc := cX3_sunkBy) (nL := 2) (ret := (some .int)) (by decide) rfl rfl (Nat.le_of_ble_eq_true rfl) ?_
  intro p e s m below meth c ls X E hP hS hl
  have hl : lv_has ls 2 [(0, .ref (ga G 15)), (1, .int a1)] := hl
  obtain ⟨hx, hb, -, -, hown, hts, -⟩ := id X
  rw [fX3_sunkBy_now] at hf
  refine lv_aload_n hx hb dX3_sunkBy_0 rfl (lv_at hl 0 rfl) ?_
  refine lv_iload_n hx hb dX3_sunkBy_1 rfl (lv_at hl 1 rfl) ?_
  refine lv_iconst (v := 0) hx hb dX3_sunkBy_2 (by decide) ?_
  obtain ⟨u1, h2, hf⟩ := g_bind hf
  refine g_vi (rest := []) X E hP hS (tcX3_get_now l G _ _ _ h2) (g_cwV X gX3_sunkBy_X3_get rfl hdX3_get ⟨Nat.le_of_ble_eq_true rfl, Nat.le_of_ble_eq_true rfl⟩) (rcX_now E hP) rfl hl.1 rfl (Nat.le_of_ble_eq_true rfl) dX3_sunkBy_3 ⟨Nat.le_refl _, Nat.le_refl _⟩ (fun H locs hP hS => ?_)
  by_cases c3 : u1 = (2 : Int32)
  · have hf := g_ift hf c3
    refine g_lin (k := (2 : Int32)) (off := 26) (tgt := 32) hx hb dX3_sunkBy_6 c3 ⟨by decide, by decide, by decide⟩ ?_
    refine lv_aload_n hx hb dX3_sunkBy_32 rfl (lv_at hl 0 rfl) ?_
    refine lv_iload_n hx hb dX3_sunkBy_33 rfl (lv_at hl 1 rfl) ?_
    refine lv_iconst (v := 1) hx hb dX3_sunkBy_34 (by decide) ?_
    obtain ⟨u4, h5, hf⟩ := g_bind hf
    refine g_vi (rest := []) X E hP hS (tcX3_get_now l G _ _ _ h5) (g_cwV X gX3_sunkBy_X3_get rfl hdX3_get ⟨Nat.le_of_ble_eq_true rfl, Nat.le_of_ble_eq_true rfl⟩) (rcX_now E hP) rfl hl.1 rfl (Nat.le_of_ble_eq_true rfl) dX3_sunkBy_35 ⟨Nat.le_refl _, Nat.le_refl _⟩ (fun H locs hP hS => ?_)
    obtain rfl := g_some hf
    exact g_ri X E hP hS dX3_sunkBy_38
  have hf := g_iff hf c3
  by_cases c6 : u1 = (5 : Int32)
  · have hf := g_ift hf c6
    refine g_lin (k := (5 : Int32)) (off := 33) (tgt := 39) hx hb dX3_sunkBy_6 c6 ⟨by decide, by decide, by decide⟩ ?_
    refine lv_iconst (v := 2) hx hb dX3_sunkBy_39 (by decide) ?_
    refine lv_aload_n hx hb dX3_sunkBy_40 rfl (lv_at hl 0 rfl) ?_
    refine lv_iload_n hx hb dX3_sunkBy_41 rfl (lv_at hl 1 rfl) ?_
    refine lv_iconst (v := 1) hx hb dX3_sunkBy_42 (by decide) ?_
    obtain ⟨u7, h8, hf⟩ := g_bind hf
    refine g_vi (rest := [.int (2 : Int32)]) X E hP hS (tcX3_get_now l G _ _ _ h8) (g_cwV X gX3_sunkBy_X3_get rfl hdX3_get ⟨Nat.le_of_ble_eq_true rfl, Nat.le_of_ble_eq_true rfl⟩) (rcX_now E hP) rfl hl.1 rfl (Nat.le_of_ble_eq_true rfl) dX3_sunkBy_43 ⟨Nat.le_refl _, Nat.le_refl _⟩ (fun H locs hP hS => ?_)
    refine lv_imul hx hb dX3_sunkBy_46 ?_
    obtain rfl := g_some hf
    exact g_ri X E hP hS dX3_sunkBy_47
  have hf := g_iff hf c6
  refine lv_lookup (off := 42) (tgt := 48) hx hb dX3_sunkBy_6 (by decide) (by refine (lv_osw c3 (by decide)).trans ?_; refine (lv_osw c6 (by decide)).trans ?_; rfl) (by decide) ?_
  refine lv_iconst (v := 0) hx hb dX3_sunkBy_48 (by decide) ?_
  obtain rfl := g_some hf
  exact g_ri X E hP hS dX3_sunkBy_49
theorem lkX8_says_0 : Cond.fieldLink RX8 10 RX8 "shelves" "LBackToTheFirstStone$Shelves;" ∈ wsX8_says := by decide +kernel
theorem lkX8_says_1 : Cond.fieldLink RX8 19 RX8 "now" "LBackToTheFirstStone$Loop;" ∈ wsX8_says := by decide +kernel
theorem lkX8_says_2 : Cond.constant RX8 125 (-1000000 : Int32) ∈ wsX8_says := by decide +kernel
theorem inX8_says_X8 : ∀ w ∈ wsX80, w ∈ wsX8_says := by decide +kernel
def fX8_says (S : GS) (a1 : Int32) (a2 : Int32) : Option (Int32 × GS) :=
  (fX8_saysRefusal S a1 a2).bind fun u1 =>
  if u1 = 0 then
    (fX5_heldBy S a1).bind fun u4 =>
    if a2 = (0 : Int32) then
      (fX3_yardsOf_now S u4).bind fun u7 =>
      some (u7, S)
    else if a2 = (1 : Int32) then
      (fX3_get_now S u4 (4 : Int32)).bind fun u10 =>
      (fX3_get_now S u4 (5 : Int32)).bind fun u12 =>
      some ((u10 - u12), S)
    else if a2 = (2 : Int32) then
      (fX3_sunkBy_now S u4).bind fun u15 =>
      some (u15, S)
    else if a2 = (3 : Int32) then
      (fX3_get_now S u4 (4 : Int32)).bind fun u18 =>
      (fX3_get_now S u4 (5 : Int32)).bind fun u20 =>
      some ((u18 - u20), S)
    else if a2 = (4 : Int32) then
      (fX3_get_now S u4 (1 : Int32)).bind fun u23 =>
      some (u23, S)
    else if a2 = (5 : Int32) then
      (fX3_sunkBy_now S u4).bind fun u26 =>
      some (u26, S)
    else (fX3_get_now S u4 (1 : Int32)).bind fun u28 =>
    some (u28, S)
  else
    (fX8_refuse S u1).bind fun u30 =>
    some (((-1000000 : Int32) + u30.1), u30.2)
set_option maxHeartbeats 4000000 in
set_option maxRecDepth 100000 in
theorem tcX8_says (l : Launch) (G : GP) (S : GS) (a1 : Int32) (a2 : Int32) {R : (Int32 × GS)} (hf : fX8_says S a1 a2 = some R) : CI l yX8_says wsX8_says 3 65 [.ref (ga G 63), .int a1, .int a2] WX G S R.1 R.2 := by
  refine g_met RX8 (cc := cX8_says) (nL := 5) (ret := (some .int)) (by decide) rfl rfl (Nat.le_of_ble_eq_true rfl) ?_
  intro p e s m below meth c ls X E hP hS hl
  have hl : lv_has ls 5 [(0, .ref (ga G 63)), (1, .int a1), (2, .int a2)] := hl
  obtain ⟨hx, hb, -, -, hown, hts, -⟩ := id X
  rw [fX8_says] at hf
  refine lv_aload_n hx hb dX8_says_0 rfl (lv_at hl 0 rfl) ?_
  refine lv_iload_n hx hb dX8_says_1 rfl (lv_at hl 1 rfl) ?_
  refine lv_iload_n hx hb dX8_says_2 rfl (lv_at hl 2 rfl) ?_
  obtain ⟨u1, h2, hf⟩ := g_bind hf
  refine g_vi (rest := []) X E hP hS (tcX8_saysRefusal l G _ _ _ h2) (g_cwV X gX8_says_X8_saysRefusal rfl hdX8_saysRefusal ⟨Nat.le_of_ble_eq_true rfl, Nat.le_of_ble_eq_true rfl⟩) (rcX_main E hP) rfl hl.1 rfl (Nat.le_of_ble_eq_true rfl) dX8_says_3 ⟨Nat.le_refl _, Nat.le_refl _⟩ (fun H locs hP hS => ?_)
  refine lv_istore_n (lv' := [(3, .int u1), (0, .ref (ga G 63)), (1, .int a1), (2, .int a2)]) hx hb dX8_says_6 rfl hl (by decide) rfl (fun ls hl => ?_)
  refine lv_iload_n hx hb dX8_says_7 rfl (lv_at hl 0 rfl) ?_
  refine lv_if_eq (tgt := 20) hx hb dX8_says_8 (by decide) (fun c3 => ?_) (fun c3 => ?_)
  · have hf := g_ift hf c3
    refine lv_aload_n hx hb dX8_says_20 rfl (lv_at hl 1 rfl) ?_
    refine ggX_48 X E hP inX8_says_X8 lkX8_says_0 dX8_says_21 ?_
    refine lv_iload_n hx hb dX8_says_24 rfl (lv_at hl 2 rfl) ?_
    obtain ⟨u4, h5, hf⟩ := g_bind hf
    refine g_vi (rest := []) X E hP hS (tcX5_heldBy l G _ _ h5) (g_cwV X gX8_says_X5_heldBy rfl hdX5_heldBy ⟨Nat.le_of_ble_eq_true rfl, Nat.le_of_ble_eq_true rfl⟩) (rcX_shelves E hP) rfl hl.1 rfl (Nat.le_of_ble_eq_true rfl) dX8_says_25 ⟨Nat.le_refl _, Nat.le_refl _⟩ (fun H locs hP hS => ?_)
    refine lv_istore (lv' := [(4, .int u4), (3, .int u1), (0, .ref (ga G 63)), (1, .int a1), (2, .int a2)]) hx hb dX8_says_28 hl (by decide) rfl (fun ls hl => ?_)
    refine lv_iload_n hx hb dX8_says_30 rfl (lv_at hl 4 rfl) ?_
    by_cases c6 : a2 = (0 : Int32)
    · have hf := g_ift hf c6
      refine g_tin (k := (0 : Int32)) (off := 37) (tgt := 68) hx hb dX8_says_31 c6 (by decide) ?_
      refine lv_aload_n hx hb dX8_says_68 rfl (lv_at hl 2 rfl) ?_
      refine ggX_49 X E hP inX8_says_X8 lkX8_says_1 dX8_says_69 ?_
      refine lv_iload hx hb dX8_says_72 (lv_at hl 0 rfl) ?_
      obtain ⟨u7, h8, hf⟩ := g_bind hf
      refine g_vi (rest := []) X E hP hS (tcX3_yardsOf_now l G _ _ h8) (g_cwV X gX8_says_X3_yardsOf rfl hdX3_yardsOf ⟨Nat.le_of_ble_eq_true rfl, Nat.le_of_ble_eq_true rfl⟩) (rcX_now E hP) rfl hl.1 rfl (Nat.le_of_ble_eq_true rfl) dX8_says_74 ⟨Nat.le_refl _, Nat.le_refl _⟩ (fun H locs hP hS => ?_)
      obtain rfl := g_some hf
      exact g_ri X E hP hS dX8_says_77
    have hf := g_iff hf c6
    by_cases c9 : a2 = (1 : Int32)
    · have hf := g_ift hf c9
      refine g_tin (k := (1 : Int32)) (off := 47) (tgt := 78) hx hb dX8_says_31 c9 (by decide) ?_
      refine lv_aload_n hx hb dX8_says_78 rfl (lv_at hl 2 rfl) ?_
      refine ggX_49 X E hP inX8_says_X8 lkX8_says_1 dX8_says_79 ?_
      refine lv_iload hx hb dX8_says_82 (lv_at hl 0 rfl) ?_
      refine lv_iconst (v := 4) hx hb dX8_says_84 (by decide) ?_
      obtain ⟨u10, h11, hf⟩ := g_bind hf
      refine g_vi (rest := []) X E hP hS (tcX3_get_now l G _ _ _ h11) (g_cwV X gX8_says_X3_get rfl hdX3_get ⟨Nat.le_of_ble_eq_true rfl, Nat.le_of_ble_eq_true rfl⟩) (rcX_now E hP) rfl hl.1 rfl (Nat.le_of_ble_eq_true rfl) dX8_says_85 ⟨Nat.le_refl _, Nat.le_refl _⟩ (fun H locs hP hS => ?_)
      refine lv_aload_n hx hb dX8_says_88 rfl (lv_at hl 2 rfl) ?_
      refine ggX_49 X E hP inX8_says_X8 lkX8_says_1 dX8_says_89 ?_
      refine lv_iload hx hb dX8_says_92 (lv_at hl 0 rfl) ?_
      refine lv_iconst (v := 5) hx hb dX8_says_94 (by decide) ?_
      obtain ⟨u12, h13, hf⟩ := g_bind hf
      refine g_vi (rest := [.int u10]) X E hP hS (tcX3_get_now l G _ _ _ h13) (g_cwV X gX8_says_X3_get rfl hdX3_get ⟨Nat.le_of_ble_eq_true rfl, Nat.le_of_ble_eq_true rfl⟩) (rcX_now E hP) rfl hl.1 rfl (Nat.le_of_ble_eq_true rfl) dX8_says_95 ⟨Nat.le_refl _, Nat.le_refl _⟩ (fun H locs hP hS => ?_)
      refine lv_isub hx hb dX8_says_98 ?_
      obtain rfl := g_some hf
      exact g_ri X E hP hS dX8_says_99
    have hf := g_iff hf c9
    by_cases c14 : a2 = (2 : Int32)
    · have hf := g_ift hf c14
      refine g_tin (k := (2 : Int32)) (off := 69) (tgt := 100) hx hb dX8_says_31 c14 (by decide) ?_
      refine lv_aload_n hx hb dX8_says_100 rfl (lv_at hl 2 rfl) ?_
      refine ggX_49 X E hP inX8_says_X8 lkX8_says_1 dX8_says_101 ?_
      refine lv_iload hx hb dX8_says_104 (lv_at hl 0 rfl) ?_
      obtain ⟨u15, h16, hf⟩ := g_bind hf
      refine g_vi (rest := []) X E hP hS (tcX3_sunkBy_now l G _ _ h16) (g_cwV X gX8_says_X3_sunkBy rfl hdX3_sunkBy ⟨Nat.le_of_ble_eq_true rfl, Nat.le_of_ble_eq_true rfl⟩) (rcX_now E hP) rfl hl.1 rfl (Nat.le_of_ble_eq_true rfl) dX8_says_106 ⟨Nat.le_refl _, Nat.le_refl _⟩ (fun H locs hP hS => ?_)
      obtain rfl := g_some hf
      exact g_ri X E hP hS dX8_says_109
    have hf := g_iff hf c14
    by_cases c17 : a2 = (3 : Int32)
    · have hf := g_ift hf c17
      refine g_tin (k := (3 : Int32)) (off := 47) (tgt := 78) hx hb dX8_says_31 c17 (by decide) ?_
      refine lv_aload_n hx hb dX8_says_78 rfl (lv_at hl 2 rfl) ?_
      refine ggX_49 X E hP inX8_says_X8 lkX8_says_1 dX8_says_79 ?_
      refine lv_iload hx hb dX8_says_82 (lv_at hl 0 rfl) ?_
      refine lv_iconst (v := 4) hx hb dX8_says_84 (by decide) ?_
      obtain ⟨u18, h19, hf⟩ := g_bind hf
      refine g_vi (rest := []) X E hP hS (tcX3_get_now l G _ _ _ h19) (g_cwV X gX8_says_X3_get rfl hdX3_get ⟨Nat.le_of_ble_eq_true rfl, Nat.le_of_ble_eq_true rfl⟩) (rcX_now E hP) rfl hl.1 rfl (Nat.le_of_ble_eq_true rfl) dX8_says_85 ⟨Nat.le_refl _, Nat.le_refl _⟩ (fun H locs hP hS => ?_)
      refine lv_aload_n hx hb dX8_says_88 rfl (lv_at hl 2 rfl) ?_
      refine ggX_49 X E hP inX8_says_X8 lkX8_says_1 dX8_says_89 ?_
      refine lv_iload hx hb dX8_says_92 (lv_at hl 0 rfl) ?_
      refine lv_iconst (v := 5) hx hb dX8_says_94 (by decide) ?_
      obtain ⟨u20, h21, hf⟩ := g_bind hf
      refine g_vi (rest := [.int u18]) X E hP hS (tcX3_get_now l G _ _ _ h21) (g_cwV X gX8_says_X3_get rfl hdX3_get ⟨Nat.le_of_ble_eq_true rfl, Nat.le_of_ble_eq_true rfl⟩) (rcX_now E hP) rfl hl.1 rfl (Nat.le_of_ble_eq_true rfl) dX8_says_95 ⟨Nat.le_refl _, Nat.le_refl _⟩ (fun H locs hP hS => ?_)
      refine lv_isub hx hb dX8_says_98 ?_
      obtain rfl := g_some hf
      exact g_ri X E hP hS dX8_says_99
    have hf := g_iff hf c17
    by_cases c22 : a2 = (4 : Int32)
    · have hf := g_ift hf c22
      refine g_tin (k := (4 : Int32)) (off := 79) (tgt := 110) hx hb dX8_says_31 c22 (by decide) ?_
      refine lv_aload_n hx hb dX8_says_110 rfl (lv_at hl 2 rfl) ?_
      refine ggX_49 X E hP inX8_says_X8 lkX8_says_1 dX8_says_111 ?_
      refine lv_iload hx hb dX8_says_114 (lv_at hl 0 rfl) ?_
      refine lv_iconst (v := 1) hx hb dX8_says_116 (by decide) ?_
      obtain ⟨u23, h24, hf⟩ := g_bind hf
      refine g_vi (rest := []) X E hP hS (tcX3_get_now l G _ _ _ h24) (g_cwV X gX8_says_X3_get rfl hdX3_get ⟨Nat.le_of_ble_eq_true rfl, Nat.le_of_ble_eq_true rfl⟩) (rcX_now E hP) rfl hl.1 rfl (Nat.le_of_ble_eq_true rfl) dX8_says_117 ⟨Nat.le_refl _, Nat.le_refl _⟩ (fun H locs hP hS => ?_)
      obtain rfl := g_some hf
      exact g_ri X E hP hS dX8_says_120
    have hf := g_iff hf c22
    by_cases c25 : a2 = (5 : Int32)
    · have hf := g_ift hf c25
      refine g_tin (k := (5 : Int32)) (off := 69) (tgt := 100) hx hb dX8_says_31 c25 (by decide) ?_
      refine lv_aload_n hx hb dX8_says_100 rfl (lv_at hl 2 rfl) ?_
      refine ggX_49 X E hP inX8_says_X8 lkX8_says_1 dX8_says_101 ?_
      refine lv_iload hx hb dX8_says_104 (lv_at hl 0 rfl) ?_
      obtain ⟨u26, h27, hf⟩ := g_bind hf
      refine g_vi (rest := []) X E hP hS (tcX3_sunkBy_now l G _ _ h27) (g_cwV X gX8_says_X3_sunkBy rfl hdX3_sunkBy ⟨Nat.le_of_ble_eq_true rfl, Nat.le_of_ble_eq_true rfl⟩) (rcX_now E hP) rfl hl.1 rfl (Nat.le_of_ble_eq_true rfl) dX8_says_106 ⟨Nat.le_refl _, Nat.le_refl _⟩ (fun H locs hP hS => ?_)
      obtain rfl := g_some hf
      exact g_ri X E hP hS dX8_says_109
    have hf := g_iff hf c25
    refine lv_tableOut (tgt := 110) hx hb dX8_says_31 (by have e0 := lv_neT (a := 0) c6 (by decide); have e1 := lv_neT (a := 1) c9 (by decide); have e2 := lv_neT (a := 2) c14 (by decide); have e3 := lv_neT (a := 3) c17 (by decide); have e4 := lv_neT (a := 4) c22 (by decide); have e5 := lv_neT (a := 5) c25 (by decide); omega) (by decide) ?_
    refine lv_aload_n hx hb dX8_says_110 rfl (lv_at hl 2 rfl) ?_
    refine ggX_49 X E hP inX8_says_X8 lkX8_says_1 dX8_says_111 ?_
    refine lv_iload hx hb dX8_says_114 (lv_at hl 0 rfl) ?_
    refine lv_iconst (v := 1) hx hb dX8_says_116 (by decide) ?_
    obtain ⟨u28, h29, hf⟩ := g_bind hf
    refine g_vi (rest := []) X E hP hS (tcX3_get_now l G _ _ _ h29) (g_cwV X gX8_says_X3_get rfl hdX3_get ⟨Nat.le_of_ble_eq_true rfl, Nat.le_of_ble_eq_true rfl⟩) (rcX_now E hP) rfl hl.1 rfl (Nat.le_of_ble_eq_true rfl) dX8_says_117 ⟨Nat.le_refl _, Nat.le_refl _⟩ (fun H locs hP hS => ?_)
    obtain rfl := g_some hf
    exact g_ri X E hP hS dX8_says_120
  · have hf := g_iff hf c3
    refine lv_ldc hx hb hown (hts _ lkX8_says_2) dX8_says_11 ?_
    refine lv_aload_n hx hb dX8_says_13 rfl (lv_at hl 1 rfl) ?_
    refine lv_iload_n hx hb dX8_says_14 rfl (lv_at hl 0 rfl) ?_
    obtain ⟨u30, h31, hf⟩ := g_bind hf
    refine g_vi (rest := [.int (-1000000 : Int32)]) X E hP hS (tcX8_refuse l G _ _ h31) (g_cwV X gX8_says_X8_refuse rfl hdX8_refuse ⟨Nat.le_of_ble_eq_true rfl, Nat.le_of_ble_eq_true rfl⟩) (rcX_main E hP) rfl hl.1 rfl (Nat.le_of_ble_eq_true rfl) dX8_says_15 ⟨Nat.le_refl _, Nat.le_refl _⟩ (fun H locs hP hS => ?_)
    refine lv_iadd hx hb dX8_says_18 ?_
    obtain rfl := g_some hf
    exact g_ri X E hP hS dX8_says_19
theorem lkX3_hasRoomFor_0 : Cond.fieldLink RX3 16 RX3 "setUps" "I" ∈ wsX3_hasRoomFor := by decide +kernel
theorem inX3_hasRoomFor_X3 : ∀ w ∈ wsX30, w ∈ wsX3_hasRoomFor := by decide +kernel
def fX3_hasRoomFor_now (S : GS) (a1 : Int32) : Option Int32 :=
  if ((16 : Int32) - (S.1 2)) < a1 then
    some (0 : Int32)
  else
    some (1 : Int32)
set_option maxHeartbeats 4000000 in
set_option maxRecDepth 100000 in
theorem tcX3_hasRoomFor_now (l : Launch) (G : GP) (S : GS) (a1 : Int32) {R : Int32} (hf : fX3_hasRoomFor_now S a1 = some R) : CI l yX3_hasRoomFor wsX3_hasRoomFor 0 0 [.ref (ga G 15), .int a1] WX G S R S := by
  refine g_met RX3 (cc := cX3_hasRoomFor) (nL := 2) (ret := (some .boolean)) (by decide) rfl rfl (Nat.le_of_ble_eq_true rfl) ?_
  intro p e s m below meth c ls X E hP hS hl
  have hl : lv_has ls 2 [(0, .ref (ga G 15)), (1, .int a1)] := hl
  obtain ⟨hx, hb, -, -, hown, hts, -⟩ := id X
  rw [fX3_hasRoomFor_now] at hf
  refine lv_iload_n hx hb dX3_hasRoomFor_0 rfl (lv_at hl 1 rfl) ?_
  refine lv_bipush (v := 16) hx hb dX3_hasRoomFor_1 (by decide) ?_
  refine lv_aload_n hx hb dX3_hasRoomFor_3 rfl (lv_at hl 0 rfl) ?_
  refine ggX_2 X E hP inX3_hasRoomFor_X3 lkX3_hasRoomFor_0 dX3_hasRoomFor_4 ?_
  refine lv_isub hx hb dX3_hasRoomFor_7 ?_
  refine lv_icmp_gt (tgt := 15) hx hb dX3_hasRoomFor_8 (by decide) (fun c1 => ?_) (fun c1 => ?_)
  · have hf := g_ift hf c1
    refine lv_iconst (v := 0) hx hb dX3_hasRoomFor_15 (by decide) ?_
    obtain rfl := g_some hf
    exact g_rz (v := (0 : Int32)) X E hP hS rfl dX3_hasRoomFor_16
  · have hf := g_iff hf c1
    refine lv_iconst (v := 1) hx hb dX3_hasRoomFor_11 (by decide) ?_
    refine lv_goto (tgt := 16) hx hb dX3_hasRoomFor_12 (by decide) ?_
    obtain rfl := g_some hf
    exact g_rz (v := (1 : Int32)) X E hP hS rfl dX3_hasRoomFor_16
theorem lkX3_put_0 : Cond.fieldLink RX3 9 RX3 "figures" "[I" ∈ wsX3_put := by decide +kernel
theorem inX3_put_X3 : ∀ w ∈ wsX30, w ∈ wsX3_put := by decide +kernel
def fX3_put_now_L24 (S : GS) (v1 : Int32) (v2 : Int32) (v3 : Int32) : Option GS :=
  some S
set_option maxHeartbeats 4000000 in
set_option maxRecDepth 100000 in
theorem bX3_put_now_L24 {p : Program} {l : Launch} {e : Env} {s : State} {m : MethodId} {args : Array Value} {below : List Frame} {meth : Method} {c : Code} {G : GP} (X : GX p s m meth c args cX3_put 5 none wsX3_put RX3) (E : gE WX G s) (S : GS) (v1 : Int32) (v2 : Int32) (v3 : Int32) (R : GS) (H : Heap) (locs : List Loc) (ls : Array Slot) (hf : fX3_put_now_L24 S v1 v2 v3 = some R) (hP : va_P (gD G) vwCl (WX G S ++ gF G) H) (hS : va_S (gA G) s.heap H locs) (hl : lv_has ls 5 [(0, .ref (ga G 15)), (1, .int v1), (2, .int v2), (3, .int v3)]) : W p l e (gR 0 0) s m args below meth c H locs 0 0 (MQ below (gQv WX G R) args s 0 0 (gA G)) (F0 m 24 ls []) := by
  obtain ⟨hx, hb, -, -, hown, hts, -⟩ := id X
  rw [fX3_put_now_L24] at hf
  refine lv_iconst (v := 0) hx hb dX3_put_24 (by decide) ?_
  refine lv_istore (lv' := [(4, .int (0 : Int32)), (0, .ref (ga G 15)), (1, .int v1), (2, .int v2), (3, .int v3)]) hx hb dX3_put_25 hl (by decide) rfl (fun ls hl => ?_)
  refine lv_iload hx hb dX3_put_27 (lv_at hl 0 rfl) ?_
  refine lv_if_eq (tgt := 44) hx hb dX3_put_29 (by decide) (fun _ => ?_) (fun z => absurd z (by decide))
  obtain rfl := g_some hf
  exact g_rv X E hP hS dX3_put_44
def fX3_put_now (S : GS) (a1 : Int32) (a2 : Int32) (a3 : Int32) : Option GS :=
  if a1 < 0 then
    fX3_put_now_L24 S a1 a2 a3
  else
    if (16 : Int32) ≤ a1 then
      fX3_put_now_L24 S a1 a2 a3
    else
      if a2 < 0 then
        fX3_put_now_L24 S a1 a2 a3
      else
        if (8 : Int32) ≤ a2 then
          fX3_put_now_L24 S a1 a2 a3
        else
          if ((a1 * (8 : Int32)) + a2) < 0 ∨ 128 ≤ ((a1 * (8 : Int32)) + a2).toNatClampNeg then none else
          some (gU3 S 0 ((a1 * (8 : Int32)) + a2).toNatClampNeg a3)
set_option maxHeartbeats 4000000 in
set_option maxRecDepth 100000 in
theorem tcX3_put_now (l : Launch) (G : GP) (S : GS) (a1 : Int32) (a2 : Int32) (a3 : Int32) {R : GS} (hf : fX3_put_now S a1 a2 a3 = some R) : CV l yX3_put wsX3_put 0 0 [.ref (ga G 15), .int a1, .int a2, .int a3] WX G S R := by
  refine g_met RX3 (cc := cX3_put) (nL := 5) (ret := none) (by decide) rfl rfl (Nat.le_of_ble_eq_true rfl) ?_
  intro p e s m below meth c ls X E hP hS hl
  have hl : lv_has ls 5 [(0, .ref (ga G 15)), (1, .int a1), (2, .int a2), (3, .int a3)] := hl
  obtain ⟨hx, hb, -, -, hown, hts, -⟩ := id X
  rw [fX3_put_now] at hf
  refine lv_iload_n hx hb dX3_put_0 rfl (lv_at hl 1 rfl) ?_
  refine lv_if_lt (tgt := 24) hx hb dX3_put_1 (by decide) (fun c1 => ?_) (fun c1 => ?_)
  · have hf := g_ift hf c1
    exact bX3_put_now_L24 X E _ _ _ _ _ _ _ _ hf hP hS (lv_sub hl [0, 1, 2, 3] rfl)
  · have hf := g_iff hf c1
    refine lv_iload_n hx hb dX3_put_4 rfl (lv_at hl 1 rfl) ?_
    refine lv_bipush (v := 16) hx hb dX3_put_5 (by decide) ?_
    refine lv_icmp_ge (tgt := 24) hx hb dX3_put_7 (by decide) (fun c2 => ?_) (fun c2 => ?_)
    · have hf := g_ift hf c2
      exact bX3_put_now_L24 X E _ _ _ _ _ _ _ _ hf hP hS (lv_sub hl [0, 1, 2, 3] rfl)
    · have hf := g_iff hf c2
      refine lv_iload_n hx hb dX3_put_10 rfl (lv_at hl 2 rfl) ?_
      refine lv_if_lt (tgt := 24) hx hb dX3_put_11 (by decide) (fun c3 => ?_) (fun c3 => ?_)
      · have hf := g_ift hf c3
        exact bX3_put_now_L24 X E _ _ _ _ _ _ _ _ hf hP hS (lv_sub hl [0, 1, 2, 3] rfl)
      · have hf := g_iff hf c3
        refine lv_iload_n hx hb dX3_put_14 rfl (lv_at hl 2 rfl) ?_
        refine lv_bipush (v := 8) hx hb dX3_put_15 (by decide) ?_
        refine lv_icmp_ge (tgt := 24) hx hb dX3_put_17 (by decide) (fun c4 => ?_) (fun c4 => ?_)
        · have hf := g_ift hf c4
          exact bX3_put_now_L24 X E _ _ _ _ _ _ _ _ hf hP hS (lv_sub hl [0, 1, 2, 3] rfl)
        · have hf := g_iff hf c4
          refine lv_iconst (v := 1) hx hb dX3_put_20 (by decide) ?_
          refine lv_goto (tgt := 25) hx hb dX3_put_21 (by decide) ?_
          refine lv_istore (lv' := [(4, .int (1 : Int32)), (0, .ref (ga G 15)), (1, .int a1), (2, .int a2), (3, .int a3)]) hx hb dX3_put_25 hl (by decide) rfl (fun ls hl => ?_)
          refine lv_iload hx hb dX3_put_27 (lv_at hl 0 rfl) ?_
          refine lv_if_eq (tgt := 44) hx hb dX3_put_29 (by decide) (fun z => absurd z (by decide)) (fun _ => ?_)
          refine lv_aload_n hx hb dX3_put_32 rfl (lv_at hl 1 rfl) ?_
          refine ggX_0 X E hP inX3_put_X3 lkX3_put_0 dX3_put_33 ?_
          refine lv_iload_n hx hb dX3_put_36 rfl (lv_at hl 2 rfl) ?_
          refine lv_bipush (v := 8) hx hb dX3_put_37 (by decide) ?_
          refine lv_imul hx hb dX3_put_39 ?_
          refine lv_iload_n hx hb dX3_put_40 rfl (lv_at hl 3 rfl) ?_
          refine lv_iadd hx hb dX3_put_41 ?_
          refine lv_iload_n hx hb dX3_put_42 rfl (lv_at hl 4 rfl) ?_
          obtain ⟨b5, hf⟩ := g_if hf
          refine gsX_0 X E hP hS b5 dX3_put_43 (fun H locs hP hS => ?_)
          obtain rfl := g_some hf
          exact g_rv X E hP hS dX3_put_44
theorem lkX3_add_0 : Cond.fieldLink RX3 16 RX3 "setUps" "I" ∈ wsX3_add := by decide +kernel
theorem inX3_add_X3 : ∀ w ∈ wsX30, w ∈ wsX3_add := by decide +kernel
def fX3_add_now (S : GS) (a1 : Int32) (a2 : Int32) (a3 : Int32) (a4 : Int32) (a5 : Int32) (a6 : Int32) : Option GS :=
  (fX3_hasRoomFor_now S (1 : Int32)).bind fun u1 =>
  if u1 = 0 then
    some S
  else
    (fX3_put_now S (S.1 2) (0 : Int32) a1).bind fun u4 =>
    (fX3_put_now u4 (u4.1 2) (1 : Int32) a2).bind fun u6 =>
    (fX3_put_now u6 (u6.1 2) (2 : Int32) a3).bind fun u8 =>
    (fX3_put_now u8 (u8.1 2) (3 : Int32) a4).bind fun u10 =>
    (fX3_put_now u10 (u10.1 2) (4 : Int32) a5).bind fun u12 =>
    (fX3_put_now u12 (u12.1 2) (5 : Int32) a6).bind fun u14 =>
    (fX3_put_now u14 (u14.1 2) (6 : Int32) (0 : Int32)).bind fun u16 =>
    (fX3_put_now u16 (u16.1 2) (7 : Int32) (0 : Int32)).bind fun u18 =>
    some (gU1 u18 2 ((u18.1 2) + (1 : Int32)))
set_option maxHeartbeats 4000000 in
set_option maxRecDepth 100000 in
theorem tcX3_add_now (l : Launch) (G : GP) (S : GS) (a1 : Int32) (a2 : Int32) (a3 : Int32) (a4 : Int32) (a5 : Int32) (a6 : Int32) {R : GS} (hf : fX3_add_now S a1 a2 a3 a4 a5 a6 = some R) : CV l yX3_add wsX3_add 1 24 [.ref (ga G 15), .int a1, .int a2, .int a3, .int a4, .int a5, .int a6] WX G S R := by
  refine g_met RX3 (cc := cX3_add) (nL := 7) (ret := none) (by decide) rfl rfl (Nat.le_of_ble_eq_true rfl) ?_
  intro p e s m below meth c ls X E hP hS hl
  have hl : lv_has ls 7 [(0, .ref (ga G 15)), (1, .int a1), (2, .int a2), (3, .int a3), (4, .int a4), (5, .int a5), (6, .int a6)] := hl
  obtain ⟨hx, hb, -, -, hown, hts, -⟩ := id X
  rw [fX3_add_now] at hf
  refine lv_aload_n hx hb dX3_add_0 rfl (lv_at hl 0 rfl) ?_
  refine lv_iconst (v := 1) hx hb dX3_add_1 (by decide) ?_
  obtain ⟨u1, h2, hf⟩ := g_bind hf
  refine g_vi (rest := []) X E hP hS (tcX3_hasRoomFor_now l G _ _ h2) (g_cwV X gX3_add_X3_hasRoomFor rfl hdX3_hasRoomFor ⟨Nat.le_of_ble_eq_true rfl, Nat.le_of_ble_eq_true rfl⟩) (rcX_now E hP) rfl hl.1 rfl (Nat.le_of_ble_eq_true rfl) dX3_add_2 ⟨Nat.le_refl _, Nat.le_refl _⟩ (fun H locs hP hS => ?_)
  refine lv_if_ne (tgt := 9) hx hb dX3_add_5 (by decide) (fun c3 => ?_) (fun c3 => ?_)
  · have hf := g_iff hf c3
    refine lv_aload_n hx hb dX3_add_9 rfl (lv_at hl 0 rfl) ?_
    refine lv_aload_n hx hb dX3_add_10 rfl (lv_at hl 0 rfl) ?_
    refine ggX_2 X E hP inX3_add_X3 lkX3_add_0 dX3_add_11 ?_
    refine lv_iconst (v := 0) hx hb dX3_add_14 (by decide) ?_
    refine lv_iload_n hx hb dX3_add_15 rfl (lv_at hl 1 rfl) ?_
    obtain ⟨u4, h5, hf⟩ := g_bind hf
    refine g_vv (rest := []) X E hP hS (tcX3_put_now l G _ _ _ _ h5) (g_cwV X gX3_add_X3_put rfl hdX3_put ⟨Nat.le_of_ble_eq_true rfl, Nat.le_of_ble_eq_true rfl⟩) (rcX_now E hP) rfl hl.1 rfl (Nat.le_of_ble_eq_true rfl) dX3_add_16 ⟨Nat.le_refl _, Nat.le_refl _⟩ (fun H locs hP hS => ?_)
    refine lv_aload_n hx hb dX3_add_19 rfl (lv_at hl 0 rfl) ?_
    refine lv_aload_n hx hb dX3_add_20 rfl (lv_at hl 0 rfl) ?_
    refine ggX_2 X E hP inX3_add_X3 lkX3_add_0 dX3_add_21 ?_
    refine lv_iconst (v := 1) hx hb dX3_add_24 (by decide) ?_
    refine lv_iload_n hx hb dX3_add_25 rfl (lv_at hl 2 rfl) ?_
    obtain ⟨u6, h7, hf⟩ := g_bind hf
    refine g_vv (rest := []) X E hP hS (tcX3_put_now l G _ _ _ _ h7) (g_cwV X gX3_add_X3_put rfl hdX3_put ⟨Nat.le_of_ble_eq_true rfl, Nat.le_of_ble_eq_true rfl⟩) (rcX_now E hP) rfl hl.1 rfl (Nat.le_of_ble_eq_true rfl) dX3_add_26 ⟨Nat.le_refl _, Nat.le_refl _⟩ (fun H locs hP hS => ?_)
    refine lv_aload_n hx hb dX3_add_29 rfl (lv_at hl 0 rfl) ?_
    refine lv_aload_n hx hb dX3_add_30 rfl (lv_at hl 0 rfl) ?_
    refine ggX_2 X E hP inX3_add_X3 lkX3_add_0 dX3_add_31 ?_
    refine lv_iconst (v := 2) hx hb dX3_add_34 (by decide) ?_
    refine lv_iload_n hx hb dX3_add_35 rfl (lv_at hl 3 rfl) ?_
    obtain ⟨u8, h9, hf⟩ := g_bind hf
    refine g_vv (rest := []) X E hP hS (tcX3_put_now l G _ _ _ _ h9) (g_cwV X gX3_add_X3_put rfl hdX3_put ⟨Nat.le_of_ble_eq_true rfl, Nat.le_of_ble_eq_true rfl⟩) (rcX_now E hP) rfl hl.1 rfl (Nat.le_of_ble_eq_true rfl) dX3_add_36 ⟨Nat.le_refl _, Nat.le_refl _⟩ (fun H locs hP hS => ?_)
    refine lv_aload_n hx hb dX3_add_39 rfl (lv_at hl 0 rfl) ?_
    refine lv_aload_n hx hb dX3_add_40 rfl (lv_at hl 0 rfl) ?_
    refine ggX_2 X E hP inX3_add_X3 lkX3_add_0 dX3_add_41 ?_
    refine lv_iconst (v := 3) hx hb dX3_add_44 (by decide) ?_
    refine lv_iload hx hb dX3_add_45 (lv_at hl 4 rfl) ?_
    obtain ⟨u10, h11, hf⟩ := g_bind hf
    refine g_vv (rest := []) X E hP hS (tcX3_put_now l G _ _ _ _ h11) (g_cwV X gX3_add_X3_put rfl hdX3_put ⟨Nat.le_of_ble_eq_true rfl, Nat.le_of_ble_eq_true rfl⟩) (rcX_now E hP) rfl hl.1 rfl (Nat.le_of_ble_eq_true rfl) dX3_add_47 ⟨Nat.le_refl _, Nat.le_refl _⟩ (fun H locs hP hS => ?_)
    refine lv_aload_n hx hb dX3_add_50 rfl (lv_at hl 0 rfl) ?_
    refine lv_aload_n hx hb dX3_add_51 rfl (lv_at hl 0 rfl) ?_
    refine ggX_2 X E hP inX3_add_X3 lkX3_add_0 dX3_add_52 ?_
    refine lv_iconst (v := 4) hx hb dX3_add_55 (by decide) ?_
    refine lv_iload hx hb dX3_add_56 (lv_at hl 5 rfl) ?_
    obtain ⟨u12, h13, hf⟩ := g_bind hf
    refine g_vv (rest := []) X E hP hS (tcX3_put_now l G _ _ _ _ h13) (g_cwV X gX3_add_X3_put rfl hdX3_put ⟨Nat.le_of_ble_eq_true rfl, Nat.le_of_ble_eq_true rfl⟩) (rcX_now E hP) rfl hl.1 rfl (Nat.le_of_ble_eq_true rfl) dX3_add_58 ⟨Nat.le_refl _, Nat.le_refl _⟩ (fun H locs hP hS => ?_)
    refine lv_aload_n hx hb dX3_add_61 rfl (lv_at hl 0 rfl) ?_
    refine lv_aload_n hx hb dX3_add_62 rfl (lv_at hl 0 rfl) ?_
    refine ggX_2 X E hP inX3_add_X3 lkX3_add_0 dX3_add_63 ?_
    refine lv_iconst (v := 5) hx hb dX3_add_66 (by decide) ?_
    refine lv_iload hx hb dX3_add_67 (lv_at hl 6 rfl) ?_
    obtain ⟨u14, h15, hf⟩ := g_bind hf
    refine g_vv (rest := []) X E hP hS (tcX3_put_now l G _ _ _ _ h15) (g_cwV X gX3_add_X3_put rfl hdX3_put ⟨Nat.le_of_ble_eq_true rfl, Nat.le_of_ble_eq_true rfl⟩) (rcX_now E hP) rfl hl.1 rfl (Nat.le_of_ble_eq_true rfl) dX3_add_69 ⟨Nat.le_refl _, Nat.le_refl _⟩ (fun H locs hP hS => ?_)
    refine lv_aload_n hx hb dX3_add_72 rfl (lv_at hl 0 rfl) ?_
    refine lv_aload_n hx hb dX3_add_73 rfl (lv_at hl 0 rfl) ?_
    refine ggX_2 X E hP inX3_add_X3 lkX3_add_0 dX3_add_74 ?_
    refine lv_bipush (v := 6) hx hb dX3_add_77 (by decide) ?_
    refine lv_iconst (v := 0) hx hb dX3_add_79 (by decide) ?_
    obtain ⟨u16, h17, hf⟩ := g_bind hf
    refine g_vv (rest := []) X E hP hS (tcX3_put_now l G _ _ _ _ h17) (g_cwV X gX3_add_X3_put rfl hdX3_put ⟨Nat.le_of_ble_eq_true rfl, Nat.le_of_ble_eq_true rfl⟩) (rcX_now E hP) rfl hl.1 rfl (Nat.le_of_ble_eq_true rfl) dX3_add_80 ⟨Nat.le_refl _, Nat.le_refl _⟩ (fun H locs hP hS => ?_)
    refine lv_aload_n hx hb dX3_add_83 rfl (lv_at hl 0 rfl) ?_
    refine lv_aload_n hx hb dX3_add_84 rfl (lv_at hl 0 rfl) ?_
    refine ggX_2 X E hP inX3_add_X3 lkX3_add_0 dX3_add_85 ?_
    refine lv_bipush (v := 7) hx hb dX3_add_88 (by decide) ?_
    refine lv_iconst (v := 0) hx hb dX3_add_90 (by decide) ?_
    obtain ⟨u18, h19, hf⟩ := g_bind hf
    refine g_vv (rest := []) X E hP hS (tcX3_put_now l G _ _ _ _ h19) (g_cwV X gX3_add_X3_put rfl hdX3_put ⟨Nat.le_of_ble_eq_true rfl, Nat.le_of_ble_eq_true rfl⟩) (rcX_now E hP) rfl hl.1 rfl (Nat.le_of_ble_eq_true rfl) dX3_add_91 ⟨Nat.le_refl _, Nat.le_refl _⟩ (fun H locs hP hS => ?_)
    refine lv_aload_n hx hb dX3_add_94 rfl (lv_at hl 0 rfl) ?_
    refine lv_dup hx hb dX3_add_95 rfl ?_
    refine ggX_2 X E hP inX3_add_X3 lkX3_add_0 dX3_add_96 ?_
    refine lv_iconst (v := 1) hx hb dX3_add_99 (by decide) ?_
    refine lv_iadd hx hb dX3_add_100 ?_
    refine gpX_2 X E hP hS inX3_add_X3 lkX3_add_0 dX3_add_101 (fun H locs hP hS => ?_)
    obtain rfl := g_some hf
    exact g_rv X E hP hS dX3_add_104
  · have hf := g_ift hf c3
    obtain rfl := g_some hf
    exact g_rv X E hP hS dX3_add_8
theorem lkX3_count_0 : Cond.fieldLink RX3 16 RX3 "setUps" "I" ∈ wsX3_count := by decide +kernel
theorem inX3_count_X3 : ∀ w ∈ wsX30, w ∈ wsX3_count := by decide +kernel
def fX3_count_now (S : GS)  : Option Int32 :=
  some (S.1 2)
set_option maxHeartbeats 4000000 in
set_option maxRecDepth 100000 in
theorem tcX3_count_now (l : Launch) (G : GP) (S : GS)  {R : Int32} (hf : fX3_count_now S  = some R) : CI l yX3_count wsX3_count 0 0 [.ref (ga G 15)] WX G S R S := by
  refine g_met RX3 (cc := cX3_count) (nL := 1) (ret := (some .int)) (by decide) rfl rfl (Nat.le_of_ble_eq_true rfl) ?_
  intro p e s m below meth c ls X E hP hS hl
  have hl : lv_has ls 1 [(0, .ref (ga G 15))] := hl
  obtain ⟨hx, hb, -, -, hown, hts, -⟩ := id X
  rw [fX3_count_now] at hf
  refine lv_aload_n hx hb dX3_count_0 rfl (lv_at hl 0 rfl) ?_
  refine ggX_2 X E hP inX3_count_X3 lkX3_count_0 dX3_count_1 ?_
  obtain rfl := g_some hf
  exact g_ri X E hP hS dX3_count_4
theorem lkX8_setup_0 : Cond.fieldLink RX8 19 RX8 "now" "LBackToTheFirstStone$Loop;" ∈ wsX8_setup := by decide +kernel
theorem inX8_setup_X8 : ∀ w ∈ wsX80, w ∈ wsX8_setup := by decide +kernel
def fX8_setup_L61 (S : GS) (v1 : Int32) (v2 : Int32) (v3 : Int32) (v4 : Int32) (v5 : Int32) (v6 : Int32) : Option (Int32 × GS) :=
  (fX8_refuse S (-6 : Int32)).bind fun u7 =>
  some (u7.1, u7.2)
set_option maxHeartbeats 4000000 in
set_option maxRecDepth 100000 in
theorem bX8_setup_L61 {p : Program} {l : Launch} {e : Env} {s : State} {m : MethodId} {args : Array Value} {below : List Frame} {meth : Method} {c : Code} {G : GP} (X : GX p s m meth c args cX8_setup 8 (some .int) wsX8_setup RX8) (E : gE WX G s) (S : GS) (v1 : Int32) (v2 : Int32) (v3 : Int32) (v4 : Int32) (v5 : Int32) (v6 : Int32) (R : (Int32 × GS)) (H : Heap) (locs : List Loc) (ls : Array Slot) (hf : fX8_setup_L61 S v1 v2 v3 v4 v5 v6 = some R) (hP : va_P (gD G) vwCl (WX G S ++ gF G) H) (hS : va_S (gA G) s.heap H locs) (hl : lv_has ls 8 [(0, .ref (ga G 63)), (1, .int v1), (2, .int v2), (3, .int v3), (4, .int v4), (5, .int v5), (6, .int v6)]) : W p l e (gR 2 50) s m args below meth c H locs 0 0 (MQ below (gQi WX G R.1 R.2) args s 0 0 (gA G)) (F0 m 61 ls []) := by
  obtain ⟨hx, hb, -, -, hown, hts, -⟩ := id X
  rw [fX8_setup_L61] at hf
  refine lv_iconst (v := 0) hx hb dX8_setup_61 (by decide) ?_
  refine lv_istore (lv' := [(7, .int (0 : Int32)), (0, .ref (ga G 63)), (1, .int v1), (2, .int v2), (3, .int v3), (4, .int v4), (5, .int v5), (6, .int v6)]) hx hb dX8_setup_62 hl (by decide) rfl (fun ls hl => ?_)
  refine lv_iload hx hb dX8_setup_64 (lv_at hl 0 rfl) ?_
  refine lv_if_ne (tgt := 76) hx hb dX8_setup_66 (by decide) (fun z => absurd z (by decide)) (fun _ => ?_)
  refine lv_aload_n hx hb dX8_setup_69 rfl (lv_at hl 1 rfl) ?_
  refine lv_bipush (v := -6) hx hb dX8_setup_70 (by decide) ?_
  obtain ⟨u7, h8, hf⟩ := g_bind hf
  refine g_vi (rest := []) X E hP hS (tcX8_refuse l G _ _ h8) (g_cwV X gX8_setup_X8_refuse rfl hdX8_refuse ⟨Nat.le_of_ble_eq_true rfl, Nat.le_of_ble_eq_true rfl⟩) (rcX_main E hP) rfl hl.1 rfl (Nat.le_of_ble_eq_true rfl) dX8_setup_72 ⟨Nat.le_refl _, Nat.le_refl _⟩ (fun H locs hP hS => ?_)
  obtain rfl := g_some hf
  exact g_ri X E hP hS dX8_setup_75
def fX8_setup (S : GS) (a1 : Int32) (a2 : Int32) (a3 : Int32) (a4 : Int32) (a5 : Int32) (a6 : Int32) : Option (Int32 × GS) :=
  (fX3_fits S (0 : Int32) a1).bind fun u1 =>
  if u1 = 0 then
    (fX8_refuse S (-1 : Int32)).bind fun u30 =>
    some (u30.1, u30.2)
  else
    (fX3_fits S (1 : Int32) a2).bind fun u4 =>
    if u4 = 0 then
      fX8_setup_L61 S a1 a2 a3 a4 a5 a6
    else
      (fX3_fits S (2 : Int32) a3).bind fun u9 =>
      if u9 = 0 then
        fX8_setup_L61 S a1 a2 a3 a4 a5 a6
      else
        (fX3_fits S (3 : Int32) a4).bind fun u12 =>
        if u12 = 0 then
          fX8_setup_L61 S a1 a2 a3 a4 a5 a6
        else
          (fX3_fits S (4 : Int32) a5).bind fun u15 =>
          if u15 = 0 then
            fX8_setup_L61 S a1 a2 a3 a4 a5 a6
          else
            (fX3_fits S (5 : Int32) a6).bind fun u18 =>
            if u18 = 0 then
              fX8_setup_L61 S a1 a2 a3 a4 a5 a6
            else
              (fX3_hasRoomFor_now S (1 : Int32)).bind fun u21 =>
              if u21 = 0 then
                (fX8_refuse S (-7 : Int32)).bind fun u28 =>
                some (u28.1, u28.2)
              else
                (fX3_add_now S a1 a2 a3 a4 a5 a6).bind fun u24 =>
                (fX3_count_now u24).bind fun u26 =>
                some ((u26 - (1 : Int32)), u24)
set_option maxHeartbeats 4000000 in
set_option maxRecDepth 100000 in
theorem tcX8_setup (l : Launch) (G : GP) (S : GS) (a1 : Int32) (a2 : Int32) (a3 : Int32) (a4 : Int32) (a5 : Int32) (a6 : Int32) {R : (Int32 × GS)} (hf : fX8_setup S a1 a2 a3 a4 a5 a6 = some R) : CI l yX8_setup wsX8_setup 2 50 [.ref (ga G 63), .int a1, .int a2, .int a3, .int a4, .int a5, .int a6] WX G S R.1 R.2 := by
  refine g_met RX8 (cc := cX8_setup) (nL := 8) (ret := (some .int)) (by decide) rfl rfl (Nat.le_of_ble_eq_true rfl) ?_
  intro p e s m below meth c ls X E hP hS hl
  have hl : lv_has ls 8 [(0, .ref (ga G 63)), (1, .int a1), (2, .int a2), (3, .int a3), (4, .int a4), (5, .int a5), (6, .int a6)] := hl
  obtain ⟨hx, hb, -, -, hown, hts, -⟩ := id X
  rw [fX8_setup] at hf
  refine lv_iconst (v := 0) hx hb dX8_setup_0 (by decide) ?_
  refine lv_iload_n hx hb dX8_setup_1 rfl (lv_at hl 1 rfl) ?_
  obtain ⟨u1, h2, hf⟩ := g_bind hf
  refine g_si (rest := []) X E hP hS (tcX3_fits l G _ _ _ h2) (g_cwS X gX8_setup_X3_fits rfl hdX3_fits ⟨Nat.le_of_ble_eq_true rfl, Nat.le_of_ble_eq_true rfl⟩) rfl hl.1 rfl (Nat.le_of_ble_eq_true rfl) dX8_setup_2 ⟨Nat.le_refl _, Nat.le_refl _⟩ (fun H locs hP hS => ?_)
  refine lv_if_ne (tgt := 14) hx hb dX8_setup_5 (by decide) (fun c3 => ?_) (fun c3 => ?_)
  · have hf := g_iff hf c3
    refine lv_iconst (v := 1) hx hb dX8_setup_14 (by decide) ?_
    refine lv_iload_n hx hb dX8_setup_15 rfl (lv_at hl 2 rfl) ?_
    obtain ⟨u4, h5, hf⟩ := g_bind hf
    refine g_si (rest := []) X E hP hS (tcX3_fits l G _ _ _ h5) (g_cwS X gX8_setup_X3_fits rfl hdX3_fits ⟨Nat.le_of_ble_eq_true rfl, Nat.le_of_ble_eq_true rfl⟩) rfl hl.1 rfl (Nat.le_of_ble_eq_true rfl) dX8_setup_16 ⟨Nat.le_refl _, Nat.le_refl _⟩ (fun H locs hP hS => ?_)
    refine lv_if_eq (tgt := 61) hx hb dX8_setup_19 (by decide) (fun c6 => ?_) (fun c6 => ?_)
    · have hf := g_ift hf c6
      exact bX8_setup_L61 X E _ _ _ _ _ _ _ _ _ _ _ hf hP hS (lv_sub hl [0, 1, 2, 3, 4, 5, 6] rfl)
    · have hf := g_iff hf c6
      refine lv_iconst (v := 2) hx hb dX8_setup_22 (by decide) ?_
      refine lv_iload_n hx hb dX8_setup_23 rfl (lv_at hl 3 rfl) ?_
      obtain ⟨u9, h10, hf⟩ := g_bind hf
      refine g_si (rest := []) X E hP hS (tcX3_fits l G _ _ _ h10) (g_cwS X gX8_setup_X3_fits rfl hdX3_fits ⟨Nat.le_of_ble_eq_true rfl, Nat.le_of_ble_eq_true rfl⟩) rfl hl.1 rfl (Nat.le_of_ble_eq_true rfl) dX8_setup_24 ⟨Nat.le_refl _, Nat.le_refl _⟩ (fun H locs hP hS => ?_)
      refine lv_if_eq (tgt := 61) hx hb dX8_setup_27 (by decide) (fun c11 => ?_) (fun c11 => ?_)
      · have hf := g_ift hf c11
        exact bX8_setup_L61 X E _ _ _ _ _ _ _ _ _ _ _ hf hP hS (lv_sub hl [0, 1, 2, 3, 4, 5, 6] rfl)
      · have hf := g_iff hf c11
        refine lv_iconst (v := 3) hx hb dX8_setup_30 (by decide) ?_
        refine lv_iload hx hb dX8_setup_31 (lv_at hl 4 rfl) ?_
        obtain ⟨u12, h13, hf⟩ := g_bind hf
        refine g_si (rest := []) X E hP hS (tcX3_fits l G _ _ _ h13) (g_cwS X gX8_setup_X3_fits rfl hdX3_fits ⟨Nat.le_of_ble_eq_true rfl, Nat.le_of_ble_eq_true rfl⟩) rfl hl.1 rfl (Nat.le_of_ble_eq_true rfl) dX8_setup_33 ⟨Nat.le_refl _, Nat.le_refl _⟩ (fun H locs hP hS => ?_)
        refine lv_if_eq (tgt := 61) hx hb dX8_setup_36 (by decide) (fun c14 => ?_) (fun c14 => ?_)
        · have hf := g_ift hf c14
          exact bX8_setup_L61 X E _ _ _ _ _ _ _ _ _ _ _ hf hP hS (lv_sub hl [0, 1, 2, 3, 4, 5, 6] rfl)
        · have hf := g_iff hf c14
          refine lv_iconst (v := 4) hx hb dX8_setup_39 (by decide) ?_
          refine lv_iload hx hb dX8_setup_40 (lv_at hl 5 rfl) ?_
          obtain ⟨u15, h16, hf⟩ := g_bind hf
          refine g_si (rest := []) X E hP hS (tcX3_fits l G _ _ _ h16) (g_cwS X gX8_setup_X3_fits rfl hdX3_fits ⟨Nat.le_of_ble_eq_true rfl, Nat.le_of_ble_eq_true rfl⟩) rfl hl.1 rfl (Nat.le_of_ble_eq_true rfl) dX8_setup_42 ⟨Nat.le_refl _, Nat.le_refl _⟩ (fun H locs hP hS => ?_)
          refine lv_if_eq (tgt := 61) hx hb dX8_setup_45 (by decide) (fun c17 => ?_) (fun c17 => ?_)
          · have hf := g_ift hf c17
            exact bX8_setup_L61 X E _ _ _ _ _ _ _ _ _ _ _ hf hP hS (lv_sub hl [0, 1, 2, 3, 4, 5, 6] rfl)
          · have hf := g_iff hf c17
            refine lv_iconst (v := 5) hx hb dX8_setup_48 (by decide) ?_
            refine lv_iload hx hb dX8_setup_49 (lv_at hl 6 rfl) ?_
            obtain ⟨u18, h19, hf⟩ := g_bind hf
            refine g_si (rest := []) X E hP hS (tcX3_fits l G _ _ _ h19) (g_cwS X gX8_setup_X3_fits rfl hdX3_fits ⟨Nat.le_of_ble_eq_true rfl, Nat.le_of_ble_eq_true rfl⟩) rfl hl.1 rfl (Nat.le_of_ble_eq_true rfl) dX8_setup_51 ⟨Nat.le_refl _, Nat.le_refl _⟩ (fun H locs hP hS => ?_)
            refine lv_if_eq (tgt := 61) hx hb dX8_setup_54 (by decide) (fun c20 => ?_) (fun c20 => ?_)
            · have hf := g_ift hf c20
              exact bX8_setup_L61 X E _ _ _ _ _ _ _ _ _ _ _ hf hP hS (lv_sub hl [0, 1, 2, 3, 4, 5, 6] rfl)
            · have hf := g_iff hf c20
              refine lv_iconst (v := 1) hx hb dX8_setup_57 (by decide) ?_
              refine lv_goto (tgt := 62) hx hb dX8_setup_58 (by decide) ?_
              refine lv_istore (lv' := [(7, .int (1 : Int32)), (0, .ref (ga G 63)), (1, .int a1), (2, .int a2), (3, .int a3), (4, .int a4), (5, .int a5), (6, .int a6)]) hx hb dX8_setup_62 hl (by decide) rfl (fun ls hl => ?_)
              refine lv_iload hx hb dX8_setup_64 (lv_at hl 0 rfl) ?_
              refine lv_if_ne (tgt := 76) hx hb dX8_setup_66 (by decide) (fun _ => ?_) (fun z => absurd z (by decide))
              refine lv_aload_n hx hb dX8_setup_76 rfl (lv_at hl 1 rfl) ?_
              refine ggX_49 X E hP inX8_setup_X8 lkX8_setup_0 dX8_setup_77 ?_
              refine lv_iconst (v := 1) hx hb dX8_setup_80 (by decide) ?_
              obtain ⟨u21, h22, hf⟩ := g_bind hf
              refine g_vi (rest := []) X E hP hS (tcX3_hasRoomFor_now l G _ _ h22) (g_cwV X gX8_setup_X3_hasRoomFor rfl hdX3_hasRoomFor ⟨Nat.le_of_ble_eq_true rfl, Nat.le_of_ble_eq_true rfl⟩) (rcX_now E hP) rfl hl.1 rfl (Nat.le_of_ble_eq_true rfl) dX8_setup_81 ⟨Nat.le_refl _, Nat.le_refl _⟩ (fun H locs hP hS => ?_)
              refine lv_if_ne (tgt := 94) hx hb dX8_setup_84 (by decide) (fun c23 => ?_) (fun c23 => ?_)
              · have hf := g_iff hf c23
                refine lv_aload_n hx hb dX8_setup_94 rfl (lv_at hl 1 rfl) ?_
                refine ggX_49 X E hP inX8_setup_X8 lkX8_setup_0 dX8_setup_95 ?_
                refine lv_iload_n hx hb dX8_setup_98 rfl (lv_at hl 2 rfl) ?_
                refine lv_iload_n hx hb dX8_setup_99 rfl (lv_at hl 3 rfl) ?_
                refine lv_iload_n hx hb dX8_setup_100 rfl (lv_at hl 4 rfl) ?_
                refine lv_iload hx hb dX8_setup_101 (lv_at hl 5 rfl) ?_
                refine lv_iload hx hb dX8_setup_103 (lv_at hl 6 rfl) ?_
                refine lv_iload hx hb dX8_setup_105 (lv_at hl 7 rfl) ?_
                obtain ⟨u24, h25, hf⟩ := g_bind hf
                refine g_vv (rest := []) X E hP hS (tcX3_add_now l G _ _ _ _ _ _ _ h25) (g_cwV X gX8_setup_X3_add rfl hdX3_add ⟨Nat.le_of_ble_eq_true rfl, Nat.le_of_ble_eq_true rfl⟩) (rcX_now E hP) rfl hl.1 rfl (Nat.le_of_ble_eq_true rfl) dX8_setup_107 ⟨Nat.le_refl _, Nat.le_refl _⟩ (fun H locs hP hS => ?_)
                refine lv_aload_n hx hb dX8_setup_110 rfl (lv_at hl 1 rfl) ?_
                refine ggX_49 X E hP inX8_setup_X8 lkX8_setup_0 dX8_setup_111 ?_
                obtain ⟨u26, h27, hf⟩ := g_bind hf
                refine g_vi (rest := []) X E hP hS (tcX3_count_now l G _  h27) (g_cwV X gX8_setup_X3_count rfl hdX3_count ⟨Nat.le_of_ble_eq_true rfl, Nat.le_of_ble_eq_true rfl⟩) (rcX_now E hP) rfl hl.1 rfl (Nat.le_of_ble_eq_true rfl) dX8_setup_114 ⟨Nat.le_refl _, Nat.le_refl _⟩ (fun H locs hP hS => ?_)
                refine lv_iconst (v := 1) hx hb dX8_setup_117 (by decide) ?_
                refine lv_isub hx hb dX8_setup_118 ?_
                obtain rfl := g_some hf
                exact g_ri X E hP hS dX8_setup_119
              · have hf := g_ift hf c23
                refine lv_aload_n hx hb dX8_setup_87 rfl (lv_at hl 1 rfl) ?_
                refine lv_bipush (v := -7) hx hb dX8_setup_88 (by decide) ?_
                obtain ⟨u28, h29, hf⟩ := g_bind hf
                refine g_vi (rest := []) X E hP hS (tcX8_refuse l G _ _ h29) (g_cwV X gX8_setup_X8_refuse rfl hdX8_refuse ⟨Nat.le_of_ble_eq_true rfl, Nat.le_of_ble_eq_true rfl⟩) (rcX_main E hP) rfl hl.1 rfl (Nat.le_of_ble_eq_true rfl) dX8_setup_90 ⟨Nat.le_refl _, Nat.le_refl _⟩ (fun H locs hP hS => ?_)
                obtain rfl := g_some hf
                exact g_ri X E hP hS dX8_setup_93
  · have hf := g_ift hf c3
    refine lv_aload_n hx hb dX8_setup_8 rfl (lv_at hl 0 rfl) ?_
    refine lv_iconst (v := -1) hx hb dX8_setup_9 (by decide) ?_
    obtain ⟨u30, h31, hf⟩ := g_bind hf
    refine g_vi (rest := []) X E hP hS (tcX8_refuse l G _ _ h31) (g_cwV X gX8_setup_X8_refuse rfl hdX8_refuse ⟨Nat.le_of_ble_eq_true rfl, Nat.le_of_ble_eq_true rfl⟩) (rcX_main E hP) rfl hl.1 rfl (Nat.le_of_ble_eq_true rfl) dX8_setup_10 ⟨Nat.le_refl _, Nat.le_refl _⟩ (fun H locs hP hS => ?_)
    obtain rfl := g_some hf
    exact g_ri X E hP hS dX8_setup_13
def fX3_bookedOf_now (S : GS) (a1 : Int32) : Option Int32 :=
  (fX3_get_now S a1 (2 : Int32)).bind fun u1 =>
  (fX3_get_now S a1 (3 : Int32)).bind fun u3 =>
  some (u1 - u3)
set_option maxHeartbeats 4000000 in
set_option maxRecDepth 100000 in
theorem tcX3_bookedOf_now (l : Launch) (G : GP) (S : GS) (a1 : Int32) {R : Int32} (hf : fX3_bookedOf_now S a1 = some R) : CI l yX3_bookedOf wsX3_bookedOf 1 23 [.ref (ga G 15), .int a1] WX G S R S := by
  refine g_met RX3 (cc := cX3_bookedOf) (nL := 2) (ret := (some .int)) (by decide) rfl rfl (Nat.le_of_ble_eq_true rfl) ?_
  intro p e s m below meth c ls X E hP hS hl
  have hl : lv_has ls 2 [(0, .ref (ga G 15)), (1, .int a1)] := hl
  obtain ⟨hx, hb, -, -, hown, hts, -⟩ := id X
  rw [fX3_bookedOf_now] at hf
  refine lv_aload_n hx hb dX3_bookedOf_0 rfl (lv_at hl 0 rfl) ?_
  refine lv_iload_n hx hb dX3_bookedOf_1 rfl (lv_at hl 1 rfl) ?_
  refine lv_iconst (v := 2) hx hb dX3_bookedOf_2 (by decide) ?_
  obtain ⟨u1, h2, hf⟩ := g_bind hf
  refine g_vi (rest := []) X E hP hS (tcX3_get_now l G _ _ _ h2) (g_cwV X gX3_bookedOf_X3_get rfl hdX3_get ⟨Nat.le_of_ble_eq_true rfl, Nat.le_of_ble_eq_true rfl⟩) (rcX_now E hP) rfl hl.1 rfl (Nat.le_of_ble_eq_true rfl) dX3_bookedOf_3 ⟨Nat.le_refl _, Nat.le_refl _⟩ (fun H locs hP hS => ?_)
  refine lv_aload_n hx hb dX3_bookedOf_6 rfl (lv_at hl 0 rfl) ?_
  refine lv_iload_n hx hb dX3_bookedOf_7 rfl (lv_at hl 1 rfl) ?_
  refine lv_iconst (v := 3) hx hb dX3_bookedOf_8 (by decide) ?_
  obtain ⟨u3, h4, hf⟩ := g_bind hf
  refine g_vi (rest := [.int u1]) X E hP hS (tcX3_get_now l G _ _ _ h4) (g_cwV X gX3_bookedOf_X3_get rfl hdX3_get ⟨Nat.le_of_ble_eq_true rfl, Nat.le_of_ble_eq_true rfl⟩) (rcX_now E hP) rfl hl.1 rfl (Nat.le_of_ble_eq_true rfl) dX3_bookedOf_9 ⟨Nat.le_refl _, Nat.le_refl _⟩ (fun H locs hP hS => ?_)
  refine lv_isub hx hb dX3_bookedOf_12 ?_
  obtain rfl := g_some hf
  exact g_ri X E hP hS dX3_bookedOf_13
theorem lkX3_setting_0 : Cond.fieldLink RX3 13 RX3 "settings" "[I" ∈ wsX3_setting := by decide +kernel
theorem inX3_setting_X3 : ∀ w ∈ wsX30, w ∈ wsX3_setting := by decide +kernel
def fX3_setting_now (S : GS) (a1 : Int32) : Option Int32 :=
  if (a1 - (8 : Int32)) < 0 then
    some (0 : Int32)
  else
    if (3 : Int32) ≤ (a1 - (8 : Int32)) then
      some (0 : Int32)
    else
      if (a1 - (8 : Int32)) < 0 ∨ 3 ≤ (a1 - (8 : Int32)).toNatClampNeg then none else
      some (S.2.2.1 1 (a1 - (8 : Int32)).toNatClampNeg)
set_option maxHeartbeats 4000000 in
set_option maxRecDepth 100000 in
theorem tcX3_setting_now (l : Launch) (G : GP) (S : GS) (a1 : Int32) {R : Int32} (hf : fX3_setting_now S a1 = some R) : CI l yX3_setting wsX3_setting 0 0 [.ref (ga G 15), .int a1] WX G S R S := by
  refine g_met RX3 (cc := cX3_setting) (nL := 3) (ret := (some .int)) (by decide) rfl rfl (Nat.le_of_ble_eq_true rfl) ?_
  intro p e s m below meth c ls X E hP hS hl
  have hl : lv_has ls 3 [(0, .ref (ga G 15)), (1, .int a1)] := hl
  obtain ⟨hx, hb, -, -, hown, hts, -⟩ := id X
  rw [fX3_setting_now] at hf
  refine lv_iload_n hx hb dX3_setting_0 rfl (lv_at hl 1 rfl) ?_
  refine lv_bipush (v := 8) hx hb dX3_setting_1 (by decide) ?_
  refine lv_isub hx hb dX3_setting_3 ?_
  refine lv_istore_n (lv' := [(2, .int (a1 - (8 : Int32))), (0, .ref (ga G 15)), (1, .int a1)]) hx hb dX3_setting_4 rfl hl (by decide) rfl (fun ls hl => ?_)
  refine lv_iload_n hx hb dX3_setting_5 rfl (lv_at hl 0 rfl) ?_
  refine lv_if_lt (tgt := 27) hx hb dX3_setting_6 (by decide) (fun c1 => ?_) (fun c1 => ?_)
  · have hf := g_ift hf c1
    refine lv_iconst (v := 0) hx hb dX3_setting_27 (by decide) ?_
    obtain rfl := g_some hf
    exact g_ri X E hP hS dX3_setting_28
  · have hf := g_iff hf c1
    refine lv_iload_n hx hb dX3_setting_9 rfl (lv_at hl 0 rfl) ?_
    refine lv_aload_n hx hb dX3_setting_10 rfl (lv_at hl 1 rfl) ?_
    refine ggX_1 X E hP inX3_setting_X3 lkX3_setting_0 dX3_setting_11 ?_
    refine glX_1 X E hP dX3_setting_14 ?_
    refine lv_icmp_ge (tgt := 27) hx hb dX3_setting_15 (by decide) (fun c2 => ?_) (fun c2 => ?_)
    · have hf := g_ift hf c2
      refine lv_iconst (v := 0) hx hb dX3_setting_27 (by decide) ?_
      obtain rfl := g_some hf
      exact g_ri X E hP hS dX3_setting_28
    · have hf := g_iff hf c2
      refine lv_aload_n hx hb dX3_setting_18 rfl (lv_at hl 1 rfl) ?_
      refine ggX_1 X E hP inX3_setting_X3 lkX3_setting_0 dX3_setting_19 ?_
      refine lv_iload_n hx hb dX3_setting_22 rfl (lv_at hl 0 rfl) ?_
      obtain ⟨b3, hf⟩ := g_if hf
      refine giX_1 X E hP b3 dX3_setting_23 ?_
      refine lv_goto (tgt := 28) hx hb dX3_setting_24 (by decide) ?_
      obtain rfl := g_some hf
      exact g_ri X E hP hS dX3_setting_28
def fX3_unevenError_now (S : GS) (a1 : Int32) : Option Int32 :=
  (fX3_setting_now S (9 : Int32)).bind fun u1 =>
  (fX3_get_now S a1 (4 : Int32)).bind fun u3 =>
  (fX3_get_now S a1 (5 : Int32)).bind fun u5 =>
  some ((u1 * (u3 - u5)) / (10 : Int32))
set_option maxHeartbeats 4000000 in
set_option maxRecDepth 100000 in
theorem tcX3_unevenError_now (l : Launch) (G : GP) (S : GS) (a1 : Int32) {R : Int32} (hf : fX3_unevenError_now S a1 = some R) : CI l yX3_unevenError wsX3_unevenError 1 23 [.ref (ga G 15), .int a1] WX G S R S := by
  refine g_met RX3 (cc := cX3_unevenError) (nL := 2) (ret := (some .int)) (by decide) rfl rfl (Nat.le_of_ble_eq_true rfl) ?_
  intro p e s m below meth c ls X E hP hS hl
  have hl : lv_has ls 2 [(0, .ref (ga G 15)), (1, .int a1)] := hl
  obtain ⟨hx, hb, -, -, hown, hts, -⟩ := id X
  rw [fX3_unevenError_now] at hf
  refine lv_aload_n hx hb dX3_unevenError_0 rfl (lv_at hl 0 rfl) ?_
  refine lv_bipush (v := 9) hx hb dX3_unevenError_1 (by decide) ?_
  obtain ⟨u1, h2, hf⟩ := g_bind hf
  refine g_vi (rest := []) X E hP hS (tcX3_setting_now l G _ _ h2) (g_cwV X gX3_unevenError_X3_setting rfl hdX3_setting ⟨Nat.le_of_ble_eq_true rfl, Nat.le_of_ble_eq_true rfl⟩) (rcX_now E hP) rfl hl.1 rfl (Nat.le_of_ble_eq_true rfl) dX3_unevenError_3 ⟨Nat.le_refl _, Nat.le_refl _⟩ (fun H locs hP hS => ?_)
  refine lv_aload_n hx hb dX3_unevenError_6 rfl (lv_at hl 0 rfl) ?_
  refine lv_iload_n hx hb dX3_unevenError_7 rfl (lv_at hl 1 rfl) ?_
  refine lv_iconst (v := 4) hx hb dX3_unevenError_8 (by decide) ?_
  obtain ⟨u3, h4, hf⟩ := g_bind hf
  refine g_vi (rest := [.int u1]) X E hP hS (tcX3_get_now l G _ _ _ h4) (g_cwV X gX3_unevenError_X3_get rfl hdX3_get ⟨Nat.le_of_ble_eq_true rfl, Nat.le_of_ble_eq_true rfl⟩) (rcX_now E hP) rfl hl.1 rfl (Nat.le_of_ble_eq_true rfl) dX3_unevenError_9 ⟨Nat.le_refl _, Nat.le_refl _⟩ (fun H locs hP hS => ?_)
  refine lv_aload_n hx hb dX3_unevenError_12 rfl (lv_at hl 0 rfl) ?_
  refine lv_iload_n hx hb dX3_unevenError_13 rfl (lv_at hl 1 rfl) ?_
  refine lv_iconst (v := 5) hx hb dX3_unevenError_14 (by decide) ?_
  obtain ⟨u5, h6, hf⟩ := g_bind hf
  refine g_vi (rest := [.int u3, .int u1]) X E hP hS (tcX3_get_now l G _ _ _ h6) (g_cwV X gX3_unevenError_X3_get rfl hdX3_get ⟨Nat.le_of_ble_eq_true rfl, Nat.le_of_ble_eq_true rfl⟩) (rcX_now E hP) rfl hl.1 rfl (Nat.le_of_ble_eq_true rfl) dX3_unevenError_15 ⟨Nat.le_refl _, Nat.le_refl _⟩ (fun H locs hP hS => ?_)
  refine lv_isub hx hb dX3_unevenError_18 ?_
  refine lv_imul hx hb dX3_unevenError_19 ?_
  refine lv_bipush (v := 10) hx hb dX3_unevenError_20 (by decide) ?_
  refine lv_idiv hx hb dX3_unevenError_22 (by decide) ?_
  obtain rfl := g_some hf
  exact g_ri X E hP hS dX3_unevenError_23
def fJ6_signum_0f7a4 (S : GS) (a1 : Int32) : Option Int32 :=
  some ((a1 >>> ((31 : Int32) &&& 31)) ||| (((-a1)).toUInt32 >>> (((31 : Int32)).toUInt32 &&& Int32.toUInt32 31)).toInt32)
set_option maxHeartbeats 4000000 in
set_option maxRecDepth 100000 in
theorem tcJ6_signum_0f7a4 (l : Launch) (G : GP) (S : GS) (a1 : Int32) {R : Int32} (hf : fJ6_signum_0f7a4 S a1 = some R) : CI l yJ6_signum_0f7a4 wsJ6_signum_0f7a4 0 0 [.int a1] WX G S R S := by
  refine g_met RJ6 (cc := cJ6_signum_0f7a4) (nL := 1) (ret := (some .int)) (by decide) rfl rfl (Nat.le_of_ble_eq_true rfl) ?_
  intro p e s m below meth c ls X E hP hS hl
  have hl : lv_has ls 1 [(0, .int a1)] := hl
  obtain ⟨hx, hb, -, -, hown, hts, -⟩ := id X
  rw [fJ6_signum_0f7a4] at hf
  refine lv_iload_n hx hb dJ6_signum_0f7a4_0 rfl (lv_at hl 0 rfl) ?_
  refine lv_bipush (v := 31) hx hb dJ6_signum_0f7a4_1 (by decide) ?_
  refine lv_ishr hx hb dJ6_signum_0f7a4_3 ?_
  refine lv_iload_n hx hb dJ6_signum_0f7a4_4 rfl (lv_at hl 0 rfl) ?_
  refine lv_ineg hx hb dJ6_signum_0f7a4_5 ?_
  refine lv_bipush (v := 31) hx hb dJ6_signum_0f7a4_6 (by decide) ?_
  refine lv_iushr hx hb dJ6_signum_0f7a4_8 rfl ?_
  refine lv_ior hx hb dJ6_signum_0f7a4_9 ?_
  obtain rfl := g_some hf
  exact g_ri X E hP hS dJ6_signum_0f7a4_10
def fX3_errorOf_now (S : GS) (a1 : Int32) (a2 : Int32) : Option Int32 :=
  (fX3_get_now S a1 (0 : Int32)).bind fun u1 =>
  if u1 = (1 : Int32) then
    (fX3_unevenError_now S a1).bind fun u4 =>
    some u4
  else if u1 = (2 : Int32) then
    (fX3_get_now S a1 (7 : Int32)).bind fun u7 =>
    if u7 = (1 : Int32) then
      (fX3_sunkBy_now S a1).bind fun u12 =>
      some (-u12)
    else
      (fX3_sunkBy_now S a1).bind fun u10 =>
      some u10
  else if u1 = (3 : Int32) then
    (fX3_unevenError_now S a1).bind fun u15 =>
    some ((2 : Int32) * u15)
  else if u1 = (4 : Int32) then
    (fJ6_signum_0f7a4 S a2).bind fun u18 =>
    (fX3_get_now S a1 (1 : Int32)).bind fun u20 =>
    some (u18 * u20)
  else if u1 = (5 : Int32) then
    (fX3_get_now S a1 (7 : Int32)).bind fun u23 =>
    if u23 = (1 : Int32) then
      (fX3_sunkBy_now S a1).bind fun u28 =>
      some (-u28)
    else
      (fX3_sunkBy_now S a1).bind fun u26 =>
      some u26
  else if u1 = (6 : Int32) then
    (fJ6_signum_0f7a4 S a2).bind fun u31 =>
    (fX3_get_now S a1 (1 : Int32)).bind fun u33 =>
    (fX3_yardsOf_now S a1).bind fun u35 =>
    if u35 < (100 : Int32) then
      some (u31 * (u33 + (0 : Int32)))
    else
      some (u31 * (u33 + (1 : Int32)))
  else some (0 : Int32)
set_option maxHeartbeats 4000000 in
set_option maxRecDepth 100000 in
theorem tcX3_errorOf_now (l : Launch) (G : GP) (S : GS) (a1 : Int32) (a2 : Int32) {R : Int32} (hf : fX3_errorOf_now S a1 a2 = some R) : CI l yX3_errorOf wsX3_errorOf 2 44 [.ref (ga G 15), .int a1, .int a2] WX G S R S := by
  refine g_met RX3 (cc := cX3_errorOf) (nL := 3) (ret := (some .int)) (by decide) rfl rfl (Nat.le_of_ble_eq_true rfl) ?_
  intro p e s m below meth c ls X E hP hS hl
  have hl : lv_has ls 3 [(0, .ref (ga G 15)), (1, .int a1), (2, .int a2)] := hl
  obtain ⟨hx, hb, -, -, hown, hts, -⟩ := id X
  rw [fX3_errorOf_now] at hf
  refine lv_aload_n hx hb dX3_errorOf_0 rfl (lv_at hl 0 rfl) ?_
  refine lv_iload_n hx hb dX3_errorOf_1 rfl (lv_at hl 1 rfl) ?_
  refine lv_iconst (v := 0) hx hb dX3_errorOf_2 (by decide) ?_
  obtain ⟨u1, h2, hf⟩ := g_bind hf
  refine g_vi (rest := []) X E hP hS (tcX3_get_now l G _ _ _ h2) (g_cwV X gX3_errorOf_X3_get rfl hdX3_get ⟨Nat.le_of_ble_eq_true rfl, Nat.le_of_ble_eq_true rfl⟩) (rcX_now E hP) rfl hl.1 rfl (Nat.le_of_ble_eq_true rfl) dX3_errorOf_3 ⟨Nat.le_refl _, Nat.le_refl _⟩ (fun H locs hP hS => ?_)
  by_cases c3 : u1 = (1 : Int32)
  · have hf := g_ift hf c3
    refine g_tin (k := (1 : Int32)) (off := 38) (tgt := 44) hx hb dX3_errorOf_6 c3 (by decide) ?_
    refine lv_aload_n hx hb dX3_errorOf_44 rfl (lv_at hl 0 rfl) ?_
    refine lv_iload_n hx hb dX3_errorOf_45 rfl (lv_at hl 1 rfl) ?_
    obtain ⟨u4, h5, hf⟩ := g_bind hf
    refine g_vi (rest := []) X E hP hS (tcX3_unevenError_now l G _ _ h5) (g_cwV X gX3_errorOf_X3_unevenError rfl hdX3_unevenError ⟨Nat.le_of_ble_eq_true rfl, Nat.le_of_ble_eq_true rfl⟩) (rcX_now E hP) rfl hl.1 rfl (Nat.le_of_ble_eq_true rfl) dX3_errorOf_46 ⟨Nat.le_refl _, Nat.le_refl _⟩ (fun H locs hP hS => ?_)
    obtain rfl := g_some hf
    exact g_ri X E hP hS dX3_errorOf_49
  have hf := g_iff hf c3
  by_cases c6 : u1 = (2 : Int32)
  · have hf := g_ift hf c6
    refine g_tin (k := (2 : Int32)) (off := 52) (tgt := 58) hx hb dX3_errorOf_6 c6 (by decide) ?_
    refine lv_aload_n hx hb dX3_errorOf_58 rfl (lv_at hl 0 rfl) ?_
    refine lv_iload_n hx hb dX3_errorOf_59 rfl (lv_at hl 1 rfl) ?_
    refine lv_bipush (v := 7) hx hb dX3_errorOf_60 (by decide) ?_
    obtain ⟨u7, h8, hf⟩ := g_bind hf
    refine g_vi (rest := []) X E hP hS (tcX3_get_now l G _ _ _ h8) (g_cwV X gX3_errorOf_X3_get rfl hdX3_get ⟨Nat.le_of_ble_eq_true rfl, Nat.le_of_ble_eq_true rfl⟩) (rcX_now E hP) rfl hl.1 rfl (Nat.le_of_ble_eq_true rfl) dX3_errorOf_62 ⟨Nat.le_refl _, Nat.le_refl _⟩ (fun H locs hP hS => ?_)
    refine lv_iconst (v := 1) hx hb dX3_errorOf_65 (by decide) ?_
    refine lv_icmp_ne (tgt := 78) hx hb dX3_errorOf_66 (by decide) (fun c9 => ?_) (fun c9 => ?_)
    · have hf := g_iff hf c9
      refine lv_aload_n hx hb dX3_errorOf_78 rfl (lv_at hl 0 rfl) ?_
      refine lv_iload_n hx hb dX3_errorOf_79 rfl (lv_at hl 1 rfl) ?_
      obtain ⟨u10, h11, hf⟩ := g_bind hf
      refine g_vi (rest := []) X E hP hS (tcX3_sunkBy_now l G _ _ h11) (g_cwV X gX3_errorOf_X3_sunkBy rfl hdX3_sunkBy ⟨Nat.le_of_ble_eq_true rfl, Nat.le_of_ble_eq_true rfl⟩) (rcX_now E hP) rfl hl.1 rfl (Nat.le_of_ble_eq_true rfl) dX3_errorOf_80 ⟨Nat.le_refl _, Nat.le_refl _⟩ (fun H locs hP hS => ?_)
      obtain rfl := g_some hf
      exact g_ri X E hP hS dX3_errorOf_83
    · have hf := g_ift hf c9
      refine lv_aload_n hx hb dX3_errorOf_69 rfl (lv_at hl 0 rfl) ?_
      refine lv_iload_n hx hb dX3_errorOf_70 rfl (lv_at hl 1 rfl) ?_
      obtain ⟨u12, h13, hf⟩ := g_bind hf
      refine g_vi (rest := []) X E hP hS (tcX3_sunkBy_now l G _ _ h13) (g_cwV X gX3_errorOf_X3_sunkBy rfl hdX3_sunkBy ⟨Nat.le_of_ble_eq_true rfl, Nat.le_of_ble_eq_true rfl⟩) (rcX_now E hP) rfl hl.1 rfl (Nat.le_of_ble_eq_true rfl) dX3_errorOf_71 ⟨Nat.le_refl _, Nat.le_refl _⟩ (fun H locs hP hS => ?_)
      refine lv_ineg hx hb dX3_errorOf_74 ?_
      refine lv_goto (tgt := 83) hx hb dX3_errorOf_75 (by decide) ?_
      obtain rfl := g_some hf
      exact g_ri X E hP hS dX3_errorOf_83
  have hf := g_iff hf c6
  by_cases c14 : u1 = (3 : Int32)
  · have hf := g_ift hf c14
    refine g_tin (k := (3 : Int32)) (off := 44) (tgt := 50) hx hb dX3_errorOf_6 c14 (by decide) ?_
    refine lv_iconst (v := 2) hx hb dX3_errorOf_50 (by decide) ?_
    refine lv_aload_n hx hb dX3_errorOf_51 rfl (lv_at hl 0 rfl) ?_
    refine lv_iload_n hx hb dX3_errorOf_52 rfl (lv_at hl 1 rfl) ?_
    obtain ⟨u15, h16, hf⟩ := g_bind hf
    refine g_vi (rest := [.int (2 : Int32)]) X E hP hS (tcX3_unevenError_now l G _ _ h16) (g_cwV X gX3_errorOf_X3_unevenError rfl hdX3_unevenError ⟨Nat.le_of_ble_eq_true rfl, Nat.le_of_ble_eq_true rfl⟩) (rcX_now E hP) rfl hl.1 rfl (Nat.le_of_ble_eq_true rfl) dX3_errorOf_53 ⟨Nat.le_refl _, Nat.le_refl _⟩ (fun H locs hP hS => ?_)
    refine lv_imul hx hb dX3_errorOf_56 ?_
    obtain rfl := g_some hf
    exact g_ri X E hP hS dX3_errorOf_57
  have hf := g_iff hf c14
  by_cases c17 : u1 = (4 : Int32)
  · have hf := g_ift hf c17
    refine g_tin (k := (4 : Int32)) (off := 78) (tgt := 84) hx hb dX3_errorOf_6 c17 (by decide) ?_
    refine lv_iload_n hx hb dX3_errorOf_84 rfl (lv_at hl 2 rfl) ?_
    obtain ⟨u18, h19, hf⟩ := g_bind hf
    refine g_si (rest := []) X E hP hS (tcJ6_signum_0f7a4 l G _ _ h19) (g_cwS X gX3_errorOf_J6_signum_0f7a4 rfl hdJ6_signum_0f7a4 ⟨Nat.le_of_ble_eq_true rfl, Nat.le_of_ble_eq_true rfl⟩) rfl hl.1 rfl (Nat.le_of_ble_eq_true rfl) dX3_errorOf_85 ⟨Nat.le_refl _, Nat.le_refl _⟩ (fun H locs hP hS => ?_)
    refine lv_aload_n hx hb dX3_errorOf_88 rfl (lv_at hl 0 rfl) ?_
    refine lv_iload_n hx hb dX3_errorOf_89 rfl (lv_at hl 1 rfl) ?_
    refine lv_iconst (v := 1) hx hb dX3_errorOf_90 (by decide) ?_
    obtain ⟨u20, h21, hf⟩ := g_bind hf
    refine g_vi (rest := [.int u18]) X E hP hS (tcX3_get_now l G _ _ _ h21) (g_cwV X gX3_errorOf_X3_get rfl hdX3_get ⟨Nat.le_of_ble_eq_true rfl, Nat.le_of_ble_eq_true rfl⟩) (rcX_now E hP) rfl hl.1 rfl (Nat.le_of_ble_eq_true rfl) dX3_errorOf_91 ⟨Nat.le_refl _, Nat.le_refl _⟩ (fun H locs hP hS => ?_)
    refine lv_imul hx hb dX3_errorOf_94 ?_
    obtain rfl := g_some hf
    exact g_ri X E hP hS dX3_errorOf_95
  have hf := g_iff hf c17
  by_cases c22 : u1 = (5 : Int32)
  · have hf := g_ift hf c22
    refine g_tin (k := (5 : Int32)) (off := 52) (tgt := 58) hx hb dX3_errorOf_6 c22 (by decide) ?_
    refine lv_aload_n hx hb dX3_errorOf_58 rfl (lv_at hl 0 rfl) ?_
    refine lv_iload_n hx hb dX3_errorOf_59 rfl (lv_at hl 1 rfl) ?_
    refine lv_bipush (v := 7) hx hb dX3_errorOf_60 (by decide) ?_
    obtain ⟨u23, h24, hf⟩ := g_bind hf
    refine g_vi (rest := []) X E hP hS (tcX3_get_now l G _ _ _ h24) (g_cwV X gX3_errorOf_X3_get rfl hdX3_get ⟨Nat.le_of_ble_eq_true rfl, Nat.le_of_ble_eq_true rfl⟩) (rcX_now E hP) rfl hl.1 rfl (Nat.le_of_ble_eq_true rfl) dX3_errorOf_62 ⟨Nat.le_refl _, Nat.le_refl _⟩ (fun H locs hP hS => ?_)
    refine lv_iconst (v := 1) hx hb dX3_errorOf_65 (by decide) ?_
    refine lv_icmp_ne (tgt := 78) hx hb dX3_errorOf_66 (by decide) (fun c25 => ?_) (fun c25 => ?_)
    · have hf := g_iff hf c25
      refine lv_aload_n hx hb dX3_errorOf_78 rfl (lv_at hl 0 rfl) ?_
      refine lv_iload_n hx hb dX3_errorOf_79 rfl (lv_at hl 1 rfl) ?_
      obtain ⟨u26, h27, hf⟩ := g_bind hf
      refine g_vi (rest := []) X E hP hS (tcX3_sunkBy_now l G _ _ h27) (g_cwV X gX3_errorOf_X3_sunkBy rfl hdX3_sunkBy ⟨Nat.le_of_ble_eq_true rfl, Nat.le_of_ble_eq_true rfl⟩) (rcX_now E hP) rfl hl.1 rfl (Nat.le_of_ble_eq_true rfl) dX3_errorOf_80 ⟨Nat.le_refl _, Nat.le_refl _⟩ (fun H locs hP hS => ?_)
      obtain rfl := g_some hf
      exact g_ri X E hP hS dX3_errorOf_83
    · have hf := g_ift hf c25
      refine lv_aload_n hx hb dX3_errorOf_69 rfl (lv_at hl 0 rfl) ?_
      refine lv_iload_n hx hb dX3_errorOf_70 rfl (lv_at hl 1 rfl) ?_
      obtain ⟨u28, h29, hf⟩ := g_bind hf
      refine g_vi (rest := []) X E hP hS (tcX3_sunkBy_now l G _ _ h29) (g_cwV X gX3_errorOf_X3_sunkBy rfl hdX3_sunkBy ⟨Nat.le_of_ble_eq_true rfl, Nat.le_of_ble_eq_true rfl⟩) (rcX_now E hP) rfl hl.1 rfl (Nat.le_of_ble_eq_true rfl) dX3_errorOf_71 ⟨Nat.le_refl _, Nat.le_refl _⟩ (fun H locs hP hS => ?_)
      refine lv_ineg hx hb dX3_errorOf_74 ?_
      refine lv_goto (tgt := 83) hx hb dX3_errorOf_75 (by decide) ?_
      obtain rfl := g_some hf
      exact g_ri X E hP hS dX3_errorOf_83
  have hf := g_iff hf c22
  by_cases c30 : u1 = (6 : Int32)
  · have hf := g_ift hf c30
    refine g_tin (k := (6 : Int32)) (off := 90) (tgt := 96) hx hb dX3_errorOf_6 c30 (by decide) ?_
    refine lv_iload_n hx hb dX3_errorOf_96 rfl (lv_at hl 2 rfl) ?_
    obtain ⟨u31, h32, hf⟩ := g_bind hf
    refine g_si (rest := []) X E hP hS (tcJ6_signum_0f7a4 l G _ _ h32) (g_cwS X gX3_errorOf_J6_signum_0f7a4 rfl hdJ6_signum_0f7a4 ⟨Nat.le_of_ble_eq_true rfl, Nat.le_of_ble_eq_true rfl⟩) rfl hl.1 rfl (Nat.le_of_ble_eq_true rfl) dX3_errorOf_97 ⟨Nat.le_refl _, Nat.le_refl _⟩ (fun H locs hP hS => ?_)
    refine lv_aload_n hx hb dX3_errorOf_100 rfl (lv_at hl 0 rfl) ?_
    refine lv_iload_n hx hb dX3_errorOf_101 rfl (lv_at hl 1 rfl) ?_
    refine lv_iconst (v := 1) hx hb dX3_errorOf_102 (by decide) ?_
    obtain ⟨u33, h34, hf⟩ := g_bind hf
    refine g_vi (rest := [.int u31]) X E hP hS (tcX3_get_now l G _ _ _ h34) (g_cwV X gX3_errorOf_X3_get rfl hdX3_get ⟨Nat.le_of_ble_eq_true rfl, Nat.le_of_ble_eq_true rfl⟩) (rcX_now E hP) rfl hl.1 rfl (Nat.le_of_ble_eq_true rfl) dX3_errorOf_103 ⟨Nat.le_refl _, Nat.le_refl _⟩ (fun H locs hP hS => ?_)
    refine lv_aload_n hx hb dX3_errorOf_106 rfl (lv_at hl 0 rfl) ?_
    refine lv_iload_n hx hb dX3_errorOf_107 rfl (lv_at hl 1 rfl) ?_
    obtain ⟨u35, h36, hf⟩ := g_bind hf
    refine g_vi (rest := [.int u33, .int u31]) X E hP hS (tcX3_yardsOf_now l G _ _ h36) (g_cwV X gX3_errorOf_X3_yardsOf rfl hdX3_yardsOf ⟨Nat.le_of_ble_eq_true rfl, Nat.le_of_ble_eq_true rfl⟩) (rcX_now E hP) rfl hl.1 rfl (Nat.le_of_ble_eq_true rfl) dX3_errorOf_108 ⟨Nat.le_refl _, Nat.le_refl _⟩ (fun H locs hP hS => ?_)
    refine lv_bipush (v := 100) hx hb dX3_errorOf_111 (by decide) ?_
    refine lv_icmp_lt (tgt := 120) hx hb dX3_errorOf_113 (by decide) (fun c37 => ?_) (fun c37 => ?_)
    · have hf := g_ift hf c37
      refine lv_iconst (v := 0) hx hb dX3_errorOf_120 (by decide) ?_
      refine lv_iadd hx hb dX3_errorOf_121 ?_
      refine lv_imul hx hb dX3_errorOf_122 ?_
      obtain rfl := g_some hf
      exact g_ri X E hP hS dX3_errorOf_123
    · have hf := g_iff hf c37
      refine lv_iconst (v := 1) hx hb dX3_errorOf_116 (by decide) ?_
      refine lv_goto (tgt := 121) hx hb dX3_errorOf_117 (by decide) ?_
      refine lv_iadd hx hb dX3_errorOf_121 ?_
      refine lv_imul hx hb dX3_errorOf_122 ?_
      obtain rfl := g_some hf
      exact g_ri X E hP hS dX3_errorOf_123
  have hf := g_iff hf c30
  refine lv_tableOut (tgt := 124) hx hb dX3_errorOf_6 (by have e0 := lv_neT (a := 1) c3 (by decide); have e1 := lv_neT (a := 2) c6 (by decide); have e2 := lv_neT (a := 3) c14 (by decide); have e3 := lv_neT (a := 4) c17 (by decide); have e4 := lv_neT (a := 5) c22 (by decide); have e5 := lv_neT (a := 6) c30 (by decide); omega) (by decide) ?_
  refine lv_iconst (v := 0) hx hb dX3_errorOf_124 (by decide) ?_
  obtain rfl := g_some hf
  exact g_ri X E hP hS dX3_errorOf_125
def fX3_riseOf_now (S : GS) (a1 : Int32) : Option Int32 :=
  (fX3_bookedOf_now S a1).bind fun u1 =>
  (fX3_errorOf_now S a1 u1).bind fun u3 =>
  some (u1 - u3)
set_option maxHeartbeats 4000000 in
set_option maxRecDepth 100000 in
theorem tcX3_riseOf_now (l : Launch) (G : GP) (S : GS) (a1 : Int32) {R : Int32} (hf : fX3_riseOf_now S a1 = some R) : CI l yX3_riseOf wsX3_riseOf 3 66 [.ref (ga G 15), .int a1] WX G S R S := by
  refine g_met RX3 (cc := cX3_riseOf) (nL := 3) (ret := (some .int)) (by decide) rfl rfl (Nat.le_of_ble_eq_true rfl) ?_
  intro p e s m below meth c ls X E hP hS hl
  have hl : lv_has ls 3 [(0, .ref (ga G 15)), (1, .int a1)] := hl
  obtain ⟨hx, hb, -, -, hown, hts, -⟩ := id X
  rw [fX3_riseOf_now] at hf
  refine lv_aload_n hx hb dX3_riseOf_0 rfl (lv_at hl 0 rfl) ?_
  refine lv_iload_n hx hb dX3_riseOf_1 rfl (lv_at hl 1 rfl) ?_
  obtain ⟨u1, h2, hf⟩ := g_bind hf
  refine g_vi (rest := []) X E hP hS (tcX3_bookedOf_now l G _ _ h2) (g_cwV X gX3_riseOf_X3_bookedOf rfl hdX3_bookedOf ⟨Nat.le_of_ble_eq_true rfl, Nat.le_of_ble_eq_true rfl⟩) (rcX_now E hP) rfl hl.1 rfl (Nat.le_of_ble_eq_true rfl) dX3_riseOf_2 ⟨Nat.le_refl _, Nat.le_refl _⟩ (fun H locs hP hS => ?_)
  refine lv_istore_n (lv' := [(2, .int u1), (0, .ref (ga G 15)), (1, .int a1)]) hx hb dX3_riseOf_5 rfl hl (by decide) rfl (fun ls hl => ?_)
  refine lv_iload_n hx hb dX3_riseOf_6 rfl (lv_at hl 0 rfl) ?_
  refine lv_aload_n hx hb dX3_riseOf_7 rfl (lv_at hl 1 rfl) ?_
  refine lv_iload_n hx hb dX3_riseOf_8 rfl (lv_at hl 2 rfl) ?_
  refine lv_iload_n hx hb dX3_riseOf_9 rfl (lv_at hl 0 rfl) ?_
  obtain ⟨u3, h4, hf⟩ := g_bind hf
  refine g_vi (rest := [.int u1]) X E hP hS (tcX3_errorOf_now l G _ _ _ h4) (g_cwV X gX3_riseOf_X3_errorOf rfl hdX3_errorOf ⟨Nat.le_of_ble_eq_true rfl, Nat.le_of_ble_eq_true rfl⟩) (rcX_now E hP) rfl hl.1 rfl (Nat.le_of_ble_eq_true rfl) dX3_riseOf_10 ⟨Nat.le_refl _, Nat.le_refl _⟩ (fun H locs hP hS => ?_)
  refine lv_isub hx hb dX3_riseOf_13 ?_
  obtain rfl := g_some hf
  exact g_ri X E hP hS dX3_riseOf_14
theorem lkX8_setupOf_0 : Cond.fieldLink RX8 19 RX8 "now" "LBackToTheFirstStone$Loop;" ∈ wsX8_setupOf := by decide +kernel
theorem lkX8_setupOf_1 : Cond.constant RX8 125 (-1000000 : Int32) ∈ wsX8_setupOf := by decide +kernel
theorem inX8_setupOf_X8 : ∀ w ∈ wsX80, w ∈ wsX8_setupOf := by decide +kernel
def fX8_setupOf_L21 (S : GS)  : Option (Int32 × GS) :=
  (fX8_refuse S (-5 : Int32)).bind fun u4 =>
  some (((-1000000 : Int32) + u4.1), u4.2)
set_option maxHeartbeats 4000000 in
set_option maxRecDepth 100000 in
theorem bX8_setupOf_L21 {p : Program} {l : Launch} {e : Env} {s : State} {m : MethodId} {args : Array Value} {below : List Frame} {meth : Method} {c : Code} {G : GP} (X : GX p s m meth c args cX8_setupOf 3 (some .int) wsX8_setupOf RX8) (E : gE WX G s) (S : GS)  (R : (Int32 × GS)) (H : Heap) (locs : List Loc) (ls : Array Slot) (hf : fX8_setupOf_L21 S  = some R) (hP : va_P (gD G) vwCl (WX G S ++ gF G) H) (hS : va_S (gA G) s.heap H locs) (hl : lv_has ls 3 [(0, .ref (ga G 63))]) : W p l e (gR 4 88) s m args below meth c H locs 0 0 (MQ below (gQi WX G R.1 R.2) args s 0 0 (gA G)) (F0 m 21 ls []) := by
  obtain ⟨hx, hb, -, -, hown, hts, -⟩ := id X
  rw [fX8_setupOf_L21] at hf
  refine lv_ldc hx hb hown (hts _ lkX8_setupOf_1) dX8_setupOf_21 ?_
  refine lv_aload_n hx hb dX8_setupOf_23 rfl (lv_at hl 0 rfl) ?_
  refine lv_bipush (v := -5) hx hb dX8_setupOf_24 (by decide) ?_
  obtain ⟨u4, h5, hf⟩ := g_bind hf
  refine g_vi (rest := [.int (-1000000 : Int32)]) X E hP hS (tcX8_refuse l G _ _ h5) (g_cwV X gX8_setupOf_X8_refuse rfl hdX8_refuse ⟨Nat.le_of_ble_eq_true rfl, Nat.le_of_ble_eq_true rfl⟩) (rcX_main E hP) rfl hl.1 rfl (Nat.le_of_ble_eq_true rfl) dX8_setupOf_26 ⟨Nat.le_refl _, Nat.le_refl _⟩ (fun H locs hP hS => ?_)
  refine lv_iadd hx hb dX8_setupOf_29 ?_
  obtain rfl := g_some hf
  exact g_ri X E hP hS dX8_setupOf_30
def fX8_setupOf (S : GS) (a1 : Int32) (a2 : Int32) : Option (Int32 × GS) :=
  (fX3_hasSetUp_now S a1).bind fun u1 =>
  if u1 = 0 then
    fX8_setupOf_L21 S
  else
    if a2 < 0 then
      fX8_setupOf_L21 S
    else
      if a2 ≤ (10 : Int32) then
        if a2 = (8 : Int32) then
          (fX3_bookedOf_now S a1).bind fun u9 =>
          some (u9, S)
        else if a2 = (9 : Int32) then
          (fX3_bookedOf_now S a1).bind fun u12 =>
          (fX3_errorOf_now S a1 u12).bind fun u14 =>
          some (u14, S)
        else if a2 = (10 : Int32) then
          (fX3_riseOf_now S a1).bind fun u17 =>
          some (u17, S)
        else (fX3_get_now S a1 a2).bind fun u19 =>
        some (u19, S)
      else
        fX8_setupOf_L21 S
set_option maxHeartbeats 4000000 in
set_option maxRecDepth 100000 in
theorem tcX8_setupOf (l : Launch) (G : GP) (S : GS) (a1 : Int32) (a2 : Int32) {R : (Int32 × GS)} (hf : fX8_setupOf S a1 a2 = some R) : CI l yX8_setupOf wsX8_setupOf 4 88 [.ref (ga G 63), .int a1, .int a2] WX G S R.1 R.2 := by
  refine g_met RX8 (cc := cX8_setupOf) (nL := 3) (ret := (some .int)) (by decide) rfl rfl (Nat.le_of_ble_eq_true rfl) ?_
  intro p e s m below meth c ls X E hP hS hl
  have hl : lv_has ls 3 [(0, .ref (ga G 63)), (1, .int a1), (2, .int a2)] := hl
  obtain ⟨hx, hb, -, -, hown, hts, -⟩ := id X
  rw [fX8_setupOf] at hf
  refine lv_aload_n hx hb dX8_setupOf_0 rfl (lv_at hl 0 rfl) ?_
  refine ggX_49 X E hP inX8_setupOf_X8 lkX8_setupOf_0 dX8_setupOf_1 ?_
  refine lv_iload_n hx hb dX8_setupOf_4 rfl (lv_at hl 1 rfl) ?_
  obtain ⟨u1, h2, hf⟩ := g_bind hf
  refine g_vi (rest := []) X E hP hS (tcX3_hasSetUp_now l G _ _ h2) (g_cwV X gX8_setupOf_X3_hasSetUp rfl hdX3_hasSetUp ⟨Nat.le_of_ble_eq_true rfl, Nat.le_of_ble_eq_true rfl⟩) (rcX_now E hP) rfl hl.1 rfl (Nat.le_of_ble_eq_true rfl) dX8_setupOf_5 ⟨Nat.le_refl _, Nat.le_refl _⟩ (fun H locs hP hS => ?_)
  refine lv_if_eq (tgt := 21) hx hb dX8_setupOf_8 (by decide) (fun c3 => ?_) (fun c3 => ?_)
  · have hf := g_ift hf c3
    exact bX8_setupOf_L21 X E _ _ _ _ _ hf hP hS (lv_sub hl [0] rfl)
  · have hf := g_iff hf c3
    refine lv_iload_n hx hb dX8_setupOf_11 rfl (lv_at hl 2 rfl) ?_
    refine lv_if_lt (tgt := 21) hx hb dX8_setupOf_12 (by decide) (fun c6 => ?_) (fun c6 => ?_)
    · have hf := g_ift hf c6
      exact bX8_setupOf_L21 X E _ _ _ _ _ hf hP hS (lv_sub hl [0] rfl)
    · have hf := g_iff hf c6
      refine lv_iload_n hx hb dX8_setupOf_15 rfl (lv_at hl 2 rfl) ?_
      refine lv_bipush (v := 10) hx hb dX8_setupOf_16 (by decide) ?_
      refine lv_icmp_le (tgt := 31) hx hb dX8_setupOf_18 (by decide) (fun c7 => ?_) (fun c7 => ?_)
      · have hf := g_ift hf c7
        refine lv_iload_n hx hb dX8_setupOf_31 rfl (lv_at hl 2 rfl) ?_
        by_cases c8 : a2 = (8 : Int32)
        · have hf := g_ift hf c8
          refine g_tin (k := (8 : Int32)) (off := 28) (tgt := 60) hx hb dX8_setupOf_32 c8 (by decide) ?_
          refine lv_aload_n hx hb dX8_setupOf_60 rfl (lv_at hl 0 rfl) ?_
          refine ggX_49 X E hP inX8_setupOf_X8 lkX8_setupOf_0 dX8_setupOf_61 ?_
          refine lv_iload_n hx hb dX8_setupOf_64 rfl (lv_at hl 1 rfl) ?_
          obtain ⟨u9, h10, hf⟩ := g_bind hf
          refine g_vi (rest := []) X E hP hS (tcX3_bookedOf_now l G _ _ h10) (g_cwV X gX8_setupOf_X3_bookedOf rfl hdX3_bookedOf ⟨Nat.le_of_ble_eq_true rfl, Nat.le_of_ble_eq_true rfl⟩) (rcX_now E hP) rfl hl.1 rfl (Nat.le_of_ble_eq_true rfl) dX8_setupOf_65 ⟨Nat.le_refl _, Nat.le_refl _⟩ (fun H locs hP hS => ?_)
          obtain rfl := g_some hf
          exact g_ri X E hP hS dX8_setupOf_68
        have hf := g_iff hf c8
        by_cases c11 : a2 = (9 : Int32)
        · have hf := g_ift hf c11
          refine g_tin (k := (9 : Int32)) (off := 37) (tgt := 69) hx hb dX8_setupOf_32 c11 (by decide) ?_
          refine lv_aload_n hx hb dX8_setupOf_69 rfl (lv_at hl 0 rfl) ?_
          refine ggX_49 X E hP inX8_setupOf_X8 lkX8_setupOf_0 dX8_setupOf_70 ?_
          refine lv_iload_n hx hb dX8_setupOf_73 rfl (lv_at hl 1 rfl) ?_
          refine lv_aload_n hx hb dX8_setupOf_74 rfl (lv_at hl 0 rfl) ?_
          refine ggX_49 X E hP inX8_setupOf_X8 lkX8_setupOf_0 dX8_setupOf_75 ?_
          refine lv_iload_n hx hb dX8_setupOf_78 rfl (lv_at hl 1 rfl) ?_
          obtain ⟨u12, h13, hf⟩ := g_bind hf
          refine g_vi (rest := [.int a1, .ref (ga G 15)]) X E hP hS (tcX3_bookedOf_now l G _ _ h13) (g_cwV X gX8_setupOf_X3_bookedOf rfl hdX3_bookedOf ⟨Nat.le_of_ble_eq_true rfl, Nat.le_of_ble_eq_true rfl⟩) (rcX_now E hP) rfl hl.1 rfl (Nat.le_of_ble_eq_true rfl) dX8_setupOf_79 ⟨Nat.le_refl _, Nat.le_refl _⟩ (fun H locs hP hS => ?_)
          obtain ⟨u14, h15, hf⟩ := g_bind hf
          refine g_vi (rest := []) X E hP hS (tcX3_errorOf_now l G _ _ _ h15) (g_cwV X gX8_setupOf_X3_errorOf rfl hdX3_errorOf ⟨Nat.le_of_ble_eq_true rfl, Nat.le_of_ble_eq_true rfl⟩) (rcX_now E hP) rfl hl.1 rfl (Nat.le_of_ble_eq_true rfl) dX8_setupOf_82 ⟨Nat.le_refl _, Nat.le_refl _⟩ (fun H locs hP hS => ?_)
          obtain rfl := g_some hf
          exact g_ri X E hP hS dX8_setupOf_85
        have hf := g_iff hf c11
        by_cases c16 : a2 = (10 : Int32)
        · have hf := g_ift hf c16
          refine g_tin (k := (10 : Int32)) (off := 54) (tgt := 86) hx hb dX8_setupOf_32 c16 (by decide) ?_
          refine lv_aload_n hx hb dX8_setupOf_86 rfl (lv_at hl 0 rfl) ?_
          refine ggX_49 X E hP inX8_setupOf_X8 lkX8_setupOf_0 dX8_setupOf_87 ?_
          refine lv_iload_n hx hb dX8_setupOf_90 rfl (lv_at hl 1 rfl) ?_
          obtain ⟨u17, h18, hf⟩ := g_bind hf
          refine g_vi (rest := []) X E hP hS (tcX3_riseOf_now l G _ _ h18) (g_cwV X gX8_setupOf_X3_riseOf rfl hdX3_riseOf ⟨Nat.le_of_ble_eq_true rfl, Nat.le_of_ble_eq_true rfl⟩) (rcX_now E hP) rfl hl.1 rfl (Nat.le_of_ble_eq_true rfl) dX8_setupOf_91 ⟨Nat.le_refl _, Nat.le_refl _⟩ (fun H locs hP hS => ?_)
          obtain rfl := g_some hf
          exact g_ri X E hP hS dX8_setupOf_94
        have hf := g_iff hf c16
        refine lv_tableOut (tgt := 95) hx hb dX8_setupOf_32 (by have e0 := lv_neT (a := 8) c8 (by decide); have e1 := lv_neT (a := 9) c11 (by decide); have e2 := lv_neT (a := 10) c16 (by decide); omega) (by decide) ?_
        refine lv_aload_n hx hb dX8_setupOf_95 rfl (lv_at hl 0 rfl) ?_
        refine ggX_49 X E hP inX8_setupOf_X8 lkX8_setupOf_0 dX8_setupOf_96 ?_
        refine lv_iload_n hx hb dX8_setupOf_99 rfl (lv_at hl 1 rfl) ?_
        refine lv_iload_n hx hb dX8_setupOf_100 rfl (lv_at hl 2 rfl) ?_
        obtain ⟨u19, h20, hf⟩ := g_bind hf
        refine g_vi (rest := []) X E hP hS (tcX3_get_now l G _ _ _ h20) (g_cwV X gX8_setupOf_X3_get rfl hdX3_get ⟨Nat.le_of_ble_eq_true rfl, Nat.le_of_ble_eq_true rfl⟩) (rcX_now E hP) rfl hl.1 rfl (Nat.le_of_ble_eq_true rfl) dX8_setupOf_101 ⟨Nat.le_refl _, Nat.le_refl _⟩ (fun H locs hP hS => ?_)
        obtain rfl := g_some hf
        exact g_ri X E hP hS dX8_setupOf_104
      · have hf := g_iff hf c7
        exact bX8_setupOf_L21 X E _ _ _ _ _ hf hP hS (lv_sub hl [0] rfl)
def fX8_toldColumn (S : GS) (a1 : Int32) : Option Int32 :=
  if a1 = (0 : Int32) then
    some (2 : Int32)
  else if a1 = (1 : Int32) then
    some (3 : Int32)
  else if a1 = (2 : Int32) then
    some (6 : Int32)
  else if a1 = (3 : Int32) then
    some (7 : Int32)
  else some (-1 : Int32)
set_option maxHeartbeats 4000000 in
set_option maxRecDepth 100000 in
theorem tcX8_toldColumn (l : Launch) (G : GP) (S : GS) (a1 : Int32) {R : Int32} (hf : fX8_toldColumn S a1 = some R) : CI l yX8_toldColumn wsX8_toldColumn 0 0 [.int a1] WX G S R S := by
  refine g_met RX8 (cc := cX8_toldColumn) (nL := 1) (ret := (some .int)) (by decide) rfl rfl (Nat.le_of_ble_eq_true rfl) ?_
  intro p e s m below meth c ls X E hP hS hl
  have hl : lv_has ls 1 [(0, .int a1)] := hl
  obtain ⟨hx, hb, -, -, hown, hts, -⟩ := id X
  rw [fX8_toldColumn] at hf
  refine lv_iload_n hx hb dX8_toldColumn_0 rfl (lv_at hl 0 rfl) ?_
  by_cases c1 : a1 = (0 : Int32)
  · have hf := g_ift hf c1
    refine g_tin (k := (0 : Int32)) (off := 31) (tgt := 32) hx hb dX8_toldColumn_1 c1 (by decide) ?_
    refine lv_iconst (v := 2) hx hb dX8_toldColumn_32 (by decide) ?_
    obtain rfl := g_some hf
    exact g_ri X E hP hS dX8_toldColumn_33
  have hf := g_iff hf c1
  by_cases c2 : a1 = (1 : Int32)
  · have hf := g_ift hf c2
    refine g_tin (k := (1 : Int32)) (off := 33) (tgt := 34) hx hb dX8_toldColumn_1 c2 (by decide) ?_
    refine lv_iconst (v := 3) hx hb dX8_toldColumn_34 (by decide) ?_
    obtain rfl := g_some hf
    exact g_ri X E hP hS dX8_toldColumn_35
  have hf := g_iff hf c2
  by_cases c3 : a1 = (2 : Int32)
  · have hf := g_ift hf c3
    refine g_tin (k := (2 : Int32)) (off := 35) (tgt := 36) hx hb dX8_toldColumn_1 c3 (by decide) ?_
    refine lv_bipush (v := 6) hx hb dX8_toldColumn_36 (by decide) ?_
    obtain rfl := g_some hf
    exact g_ri X E hP hS dX8_toldColumn_38
  have hf := g_iff hf c3
  by_cases c4 : a1 = (3 : Int32)
  · have hf := g_ift hf c4
    refine g_tin (k := (3 : Int32)) (off := 38) (tgt := 39) hx hb dX8_toldColumn_1 c4 (by decide) ?_
    refine lv_bipush (v := 7) hx hb dX8_toldColumn_39 (by decide) ?_
    obtain rfl := g_some hf
    exact g_ri X E hP hS dX8_toldColumn_41
  have hf := g_iff hf c4
  refine lv_tableOut (tgt := 42) hx hb dX8_toldColumn_1 (by have e0 := lv_neT (a := 0) c1 (by decide); have e1 := lv_neT (a := 1) c2 (by decide); have e2 := lv_neT (a := 2) c3 (by decide); have e3 := lv_neT (a := 3) c4 (by decide); omega) (by decide) ?_
  refine lv_iconst (v := -1) hx hb dX8_toldColumn_42 (by decide) ?_
  obtain rfl := g_some hf
  exact g_ri X E hP hS dX8_toldColumn_43
theorem lkX8_tell_0 : Cond.fieldLink RX8 19 RX8 "now" "LBackToTheFirstStone$Loop;" ∈ wsX8_tell := by decide +kernel
theorem inX8_tell_X8 : ∀ w ∈ wsX80, w ∈ wsX8_tell := by decide +kernel
def fX8_tell (S : GS) (a1 : Int32) (a2 : Int32) (a3 : Int32) : Option (Int32 × GS) :=
  (fX3_hasSetUp_now S a1).bind fun u1 =>
  if u1 = 0 then
    (fX8_refuse S (-1 : Int32)).bind fun u18 =>
    some (u18.1, u18.2)
  else
    (fX8_toldColumn S a2).bind fun u4 =>
    if u4 = (-1 : Int32) then
      (fX8_refuse S (-6 : Int32)).bind fun u7 =>
      some (u7.1, u7.2)
    else
      (fX3_fits S u4 a3).bind fun u9 =>
      if u9 = 0 then
        (fX8_refuse S (-6 : Int32)).bind fun u16 =>
        some (u16.1, u16.2)
      else
        (fX3_get_now S a1 u4).bind fun u12 =>
        (fX3_put_now S a1 u4 a3).bind fun u14 =>
        some (u12, u14)
set_option maxHeartbeats 4000000 in
set_option maxRecDepth 100000 in
theorem tcX8_tell (l : Launch) (G : GP) (S : GS) (a1 : Int32) (a2 : Int32) (a3 : Int32) {R : (Int32 × GS)} (hf : fX8_tell S a1 a2 a3 = some R) : CI l yX8_tell wsX8_tell 1 24 [.ref (ga G 63), .int a1, .int a2, .int a3] WX G S R.1 R.2 := by
  refine g_met RX8 (cc := cX8_tell) (nL := 6) (ret := (some .int)) (by decide) rfl rfl (Nat.le_of_ble_eq_true rfl) ?_
  intro p e s m below meth c ls X E hP hS hl
  have hl : lv_has ls 6 [(0, .ref (ga G 63)), (1, .int a1), (2, .int a2), (3, .int a3)] := hl
  obtain ⟨hx, hb, -, -, hown, hts, -⟩ := id X
  rw [fX8_tell] at hf
  refine lv_aload_n hx hb dX8_tell_0 rfl (lv_at hl 0 rfl) ?_
  refine ggX_49 X E hP inX8_tell_X8 lkX8_tell_0 dX8_tell_1 ?_
  refine lv_iload_n hx hb dX8_tell_4 rfl (lv_at hl 1 rfl) ?_
  obtain ⟨u1, h2, hf⟩ := g_bind hf
  refine g_vi (rest := []) X E hP hS (tcX3_hasSetUp_now l G _ _ h2) (g_cwV X gX8_tell_X3_hasSetUp rfl hdX3_hasSetUp ⟨Nat.le_of_ble_eq_true rfl, Nat.le_of_ble_eq_true rfl⟩) (rcX_now E hP) rfl hl.1 rfl (Nat.le_of_ble_eq_true rfl) dX8_tell_5 ⟨Nat.le_refl _, Nat.le_refl _⟩ (fun H locs hP hS => ?_)
  refine lv_if_ne (tgt := 17) hx hb dX8_tell_8 (by decide) (fun c3 => ?_) (fun c3 => ?_)
  · have hf := g_iff hf c3
    refine lv_iload_n hx hb dX8_tell_17 rfl (lv_at hl 2 rfl) ?_
    obtain ⟨u4, h5, hf⟩ := g_bind hf
    refine g_si (rest := []) X E hP hS (tcX8_toldColumn l G _ _ h5) (g_cwS X gX8_tell_X8_toldColumn rfl hdX8_toldColumn ⟨Nat.le_of_ble_eq_true rfl, Nat.le_of_ble_eq_true rfl⟩) rfl hl.1 rfl (Nat.le_of_ble_eq_true rfl) dX8_tell_18 ⟨Nat.le_refl _, Nat.le_refl _⟩ (fun H locs hP hS => ?_)
    refine lv_istore (lv' := [(4, .int u4), (0, .ref (ga G 63)), (1, .int a1), (2, .int a2), (3, .int a3)]) hx hb dX8_tell_21 hl (by decide) rfl (fun ls hl => ?_)
    refine lv_iload hx hb dX8_tell_23 (lv_at hl 0 rfl) ?_
    refine lv_iconst (v := -1) hx hb dX8_tell_25 (by decide) ?_
    refine lv_icmp_eq (tgt := 38) hx hb dX8_tell_26 (by decide) (fun c6 => ?_) (fun c6 => ?_)
    · have hf := g_ift hf c6
      refine lv_aload_n hx hb dX8_tell_38 rfl (lv_at hl 1 rfl) ?_
      refine lv_bipush (v := -6) hx hb dX8_tell_39 (by decide) ?_
      obtain ⟨u7, h8, hf⟩ := g_bind hf
      refine g_vi (rest := []) X E hP hS (tcX8_refuse l G _ _ h8) (g_cwV X gX8_tell_X8_refuse rfl hdX8_refuse ⟨Nat.le_of_ble_eq_true rfl, Nat.le_of_ble_eq_true rfl⟩) (rcX_main E hP) rfl hl.1 rfl (Nat.le_of_ble_eq_true rfl) dX8_tell_41 ⟨Nat.le_refl _, Nat.le_refl _⟩ (fun H locs hP hS => ?_)
      obtain rfl := g_some hf
      exact g_ri X E hP hS dX8_tell_44
    · have hf := g_iff hf c6
      refine lv_iload hx hb dX8_tell_29 (lv_at hl 0 rfl) ?_
      refine lv_iload_n hx hb dX8_tell_31 rfl (lv_at hl 4 rfl) ?_
      obtain ⟨u9, h10, hf⟩ := g_bind hf
      refine g_si (rest := []) X E hP hS (tcX3_fits l G _ _ _ h10) (g_cwS X gX8_tell_X3_fits rfl hdX3_fits ⟨Nat.le_of_ble_eq_true rfl, Nat.le_of_ble_eq_true rfl⟩) rfl hl.1 rfl (Nat.le_of_ble_eq_true rfl) dX8_tell_32 ⟨Nat.le_refl _, Nat.le_refl _⟩ (fun H locs hP hS => ?_)
      refine lv_if_ne (tgt := 45) hx hb dX8_tell_35 (by decide) (fun c11 => ?_) (fun c11 => ?_)
      · have hf := g_iff hf c11
        refine lv_aload_n hx hb dX8_tell_45 rfl (lv_at hl 1 rfl) ?_
        refine ggX_49 X E hP inX8_tell_X8 lkX8_tell_0 dX8_tell_46 ?_
        refine lv_iload_n hx hb dX8_tell_49 rfl (lv_at hl 2 rfl) ?_
        refine lv_iload hx hb dX8_tell_50 (lv_at hl 0 rfl) ?_
        obtain ⟨u12, h13, hf⟩ := g_bind hf
        refine g_vi (rest := []) X E hP hS (tcX3_get_now l G _ _ _ h13) (g_cwV X gX8_tell_X3_get rfl hdX3_get ⟨Nat.le_of_ble_eq_true rfl, Nat.le_of_ble_eq_true rfl⟩) (rcX_now E hP) rfl hl.1 rfl (Nat.le_of_ble_eq_true rfl) dX8_tell_52 ⟨Nat.le_refl _, Nat.le_refl _⟩ (fun H locs hP hS => ?_)
        refine lv_istore (lv' := [(5, .int u12), (4, .int u4), (0, .ref (ga G 63)), (1, .int a1), (2, .int a2), (3, .int a3)]) hx hb dX8_tell_55 hl (by decide) rfl (fun ls hl => ?_)
        refine lv_aload_n hx hb dX8_tell_57 rfl (lv_at hl 2 rfl) ?_
        refine ggX_49 X E hP inX8_tell_X8 lkX8_tell_0 dX8_tell_58 ?_
        refine lv_iload_n hx hb dX8_tell_61 rfl (lv_at hl 3 rfl) ?_
        refine lv_iload hx hb dX8_tell_62 (lv_at hl 1 rfl) ?_
        refine lv_iload_n hx hb dX8_tell_64 rfl (lv_at hl 5 rfl) ?_
        obtain ⟨u14, h15, hf⟩ := g_bind hf
        refine g_vv (rest := []) X E hP hS (tcX3_put_now l G _ _ _ _ h15) (g_cwV X gX8_tell_X3_put rfl hdX3_put ⟨Nat.le_of_ble_eq_true rfl, Nat.le_of_ble_eq_true rfl⟩) (rcX_now E hP) rfl hl.1 rfl (Nat.le_of_ble_eq_true rfl) dX8_tell_65 ⟨Nat.le_refl _, Nat.le_refl _⟩ (fun H locs hP hS => ?_)
        refine lv_iload hx hb dX8_tell_68 (lv_at hl 0 rfl) ?_
        obtain rfl := g_some hf
        exact g_ri X E hP hS dX8_tell_70
      · have hf := g_ift hf c11
        refine lv_aload_n hx hb dX8_tell_38 rfl (lv_at hl 1 rfl) ?_
        refine lv_bipush (v := -6) hx hb dX8_tell_39 (by decide) ?_
        obtain ⟨u16, h17, hf⟩ := g_bind hf
        refine g_vi (rest := []) X E hP hS (tcX8_refuse l G _ _ h17) (g_cwV X gX8_tell_X8_refuse rfl hdX8_refuse ⟨Nat.le_of_ble_eq_true rfl, Nat.le_of_ble_eq_true rfl⟩) (rcX_main E hP) rfl hl.1 rfl (Nat.le_of_ble_eq_true rfl) dX8_tell_41 ⟨Nat.le_refl _, Nat.le_refl _⟩ (fun H locs hP hS => ?_)
        obtain rfl := g_some hf
        exact g_ri X E hP hS dX8_tell_44
  · have hf := g_ift hf c3
    refine lv_aload_n hx hb dX8_tell_11 rfl (lv_at hl 0 rfl) ?_
    refine lv_iconst (v := -1) hx hb dX8_tell_12 (by decide) ?_
    obtain ⟨u18, h19, hf⟩ := g_bind hf
    refine g_vi (rest := []) X E hP hS (tcX8_refuse l G _ _ h19) (g_cwV X gX8_tell_X8_refuse rfl hdX8_refuse ⟨Nat.le_of_ble_eq_true rfl, Nat.le_of_ble_eq_true rfl⟩) (rcX_main E hP) rfl hl.1 rfl (Nat.le_of_ble_eq_true rfl) dX8_tell_13 ⟨Nat.le_refl _, Nat.le_refl _⟩ (fun H locs hP hS => ?_)
    obtain rfl := g_some hf
    exact g_ri X E hP hS dX8_tell_16
theorem lkX3_putSetting_0 : Cond.fieldLink RX3 13 RX3 "settings" "[I" ∈ wsX3_putSetting := by decide +kernel
theorem inX3_putSetting_X3 : ∀ w ∈ wsX30, w ∈ wsX3_putSetting := by decide +kernel
def fX3_putSetting_now (S : GS) (a1 : Int32) (a2 : Int32) : Option GS :=
  if (a1 - (8 : Int32)) < 0 then
    some S
  else
    if (3 : Int32) ≤ (a1 - (8 : Int32)) then
      some S
    else
      if (a1 - (8 : Int32)) < 0 ∨ 3 ≤ (a1 - (8 : Int32)).toNatClampNeg then none else
      some (gU3 S 1 (a1 - (8 : Int32)).toNatClampNeg a2)
set_option maxHeartbeats 4000000 in
set_option maxRecDepth 100000 in
theorem tcX3_putSetting_now (l : Launch) (G : GP) (S : GS) (a1 : Int32) (a2 : Int32) {R : GS} (hf : fX3_putSetting_now S a1 a2 = some R) : CV l yX3_putSetting wsX3_putSetting 0 0 [.ref (ga G 15), .int a1, .int a2] WX G S R := by
  refine g_met RX3 (cc := cX3_putSetting) (nL := 4) (ret := none) (by decide) rfl rfl (Nat.le_of_ble_eq_true rfl) ?_
  intro p e s m below meth c ls X E hP hS hl
  have hl : lv_has ls 4 [(0, .ref (ga G 15)), (1, .int a1), (2, .int a2)] := hl
  obtain ⟨hx, hb, -, -, hown, hts, -⟩ := id X
  rw [fX3_putSetting_now] at hf
  refine lv_iload_n hx hb dX3_putSetting_0 rfl (lv_at hl 1 rfl) ?_
  refine lv_bipush (v := 8) hx hb dX3_putSetting_1 (by decide) ?_
  refine lv_isub hx hb dX3_putSetting_3 ?_
  refine lv_istore_n (lv' := [(3, .int (a1 - (8 : Int32))), (0, .ref (ga G 15)), (1, .int a1), (2, .int a2)]) hx hb dX3_putSetting_4 rfl hl (by decide) rfl (fun ls hl => ?_)
  refine lv_iload_n hx hb dX3_putSetting_5 rfl (lv_at hl 0 rfl) ?_
  refine lv_if_lt (tgt := 25) hx hb dX3_putSetting_6 (by decide) (fun c1 => ?_) (fun c1 => ?_)
  · have hf := g_ift hf c1
    obtain rfl := g_some hf
    exact g_rv X E hP hS dX3_putSetting_25
  · have hf := g_iff hf c1
    refine lv_iload_n hx hb dX3_putSetting_9 rfl (lv_at hl 0 rfl) ?_
    refine lv_aload_n hx hb dX3_putSetting_10 rfl (lv_at hl 1 rfl) ?_
    refine ggX_1 X E hP inX3_putSetting_X3 lkX3_putSetting_0 dX3_putSetting_11 ?_
    refine glX_1 X E hP dX3_putSetting_14 ?_
    refine lv_icmp_ge (tgt := 25) hx hb dX3_putSetting_15 (by decide) (fun c2 => ?_) (fun c2 => ?_)
    · have hf := g_ift hf c2
      obtain rfl := g_some hf
      exact g_rv X E hP hS dX3_putSetting_25
    · have hf := g_iff hf c2
      refine lv_aload_n hx hb dX3_putSetting_18 rfl (lv_at hl 1 rfl) ?_
      refine ggX_1 X E hP inX3_putSetting_X3 lkX3_putSetting_0 dX3_putSetting_19 ?_
      refine lv_iload_n hx hb dX3_putSetting_22 rfl (lv_at hl 0 rfl) ?_
      refine lv_iload_n hx hb dX3_putSetting_23 rfl (lv_at hl 3 rfl) ?_
      obtain ⟨b3, hf⟩ := g_if hf
      refine gsX_1 X E hP hS b3 dX3_putSetting_24 (fun H locs hP hS => ?_)
      obtain rfl := g_some hf
      exact g_rv X E hP hS dX3_putSetting_25
theorem lkX8_ask_0 : Cond.constant RX8 125 (-1000000 : Int32) ∈ wsX8_ask := by decide +kernel
theorem lkX8_ask_1 : Cond.fieldLink RX8 19 RX8 "now" "LBackToTheFirstStone$Loop;" ∈ wsX8_ask := by decide +kernel
theorem inX8_ask_X8 : ∀ w ∈ wsX80, w ∈ wsX8_ask := by decide +kernel
def fX8_ask_L30 (S : GS)  : Option (Int32 × GS) :=
  (fX8_refuse S (-6 : Int32)).bind fun u2 =>
  some (((-1000000 : Int32) + u2.1), u2.2)
set_option maxHeartbeats 4000000 in
set_option maxRecDepth 100000 in
theorem bX8_ask_L30 {p : Program} {l : Launch} {e : Env} {s : State} {m : MethodId} {args : Array Value} {below : List Frame} {meth : Method} {c : Code} {G : GP} (X : GX p s m meth c args cX8_ask 5 (some .int) wsX8_ask RX8) (E : gE WX G s) (S : GS)  (R : (Int32 × GS)) (H : Heap) (locs : List Loc) (ls : Array Slot) (hf : fX8_ask_L30 S  = some R) (hP : va_P (gD G) vwCl (WX G S ++ gF G) H) (hS : va_S (gA G) s.heap H locs) (hl : lv_has ls 5 [(0, .ref (ga G 63))]) : W p l e (gR 1 23) s m args below meth c H locs 0 0 (MQ below (gQi WX G R.1 R.2) args s 0 0 (gA G)) (F0 m 30 ls []) := by
  obtain ⟨hx, hb, -, -, hown, hts, -⟩ := id X
  rw [fX8_ask_L30] at hf
  refine lv_ldc hx hb hown (hts _ lkX8_ask_0) dX8_ask_30 ?_
  refine lv_aload_n hx hb dX8_ask_32 rfl (lv_at hl 0 rfl) ?_
  refine lv_bipush (v := -6) hx hb dX8_ask_33 (by decide) ?_
  obtain ⟨u2, h3, hf⟩ := g_bind hf
  refine g_vi (rest := [.int (-1000000 : Int32)]) X E hP hS (tcX8_refuse l G _ _ h3) (g_cwV X gX8_ask_X8_refuse rfl hdX8_refuse ⟨Nat.le_of_ble_eq_true rfl, Nat.le_of_ble_eq_true rfl⟩) (rcX_main E hP) rfl hl.1 rfl (Nat.le_of_ble_eq_true rfl) dX8_ask_35 ⟨Nat.le_refl _, Nat.le_refl _⟩ (fun H locs hP hS => ?_)
  refine lv_iadd hx hb dX8_ask_38 ?_
  obtain rfl := g_some hf
  exact g_ri X E hP hS dX8_ask_39
def fX8_ask_L13 (S : GS) (v1 : Int32) (v2 : Int32) : Option (Int32 × GS) :=
  fX8_ask_L30 S
set_option maxHeartbeats 4000000 in
set_option maxRecDepth 100000 in
theorem bX8_ask_L13 {p : Program} {l : Launch} {e : Env} {s : State} {m : MethodId} {args : Array Value} {below : List Frame} {meth : Method} {c : Code} {G : GP} (X : GX p s m meth c args cX8_ask 5 (some .int) wsX8_ask RX8) (E : gE WX G s) (S : GS) (v1 : Int32) (v2 : Int32) (R : (Int32 × GS)) (H : Heap) (locs : List Loc) (ls : Array Slot) (hf : fX8_ask_L13 S v1 v2 = some R) (hP : va_P (gD G) vwCl (WX G S ++ gF G) H) (hS : va_S (gA G) s.heap H locs) (hl : lv_has ls 5 [(0, .ref (ga G 63)), (1, .int v1), (2, .int v2)]) : W p l e (gR 1 23) s m args below meth c H locs 0 0 (MQ below (gQi WX G R.1 R.2) args s 0 0 (gA G)) (F0 m 13 ls []) := by
  obtain ⟨hx, hb, -, -, hown, hts, -⟩ := id X
  rw [fX8_ask_L13] at hf
  refine lv_iconst (v := 0) hx hb dX8_ask_13 (by decide) ?_
  refine lv_istore_n (lv' := [(3, .int (0 : Int32)), (0, .ref (ga G 63)), (1, .int v1), (2, .int v2)]) hx hb dX8_ask_14 rfl hl (by decide) rfl (fun ls hl => ?_)
  refine lv_iload_n hx hb dX8_ask_15 rfl (lv_at hl 0 rfl) ?_
  refine lv_if_eq (tgt := 30) hx hb dX8_ask_16 (by decide) (fun _ => ?_) (fun z => absurd z (by decide))
  exact bX8_ask_L30 X E _ _ _ _ _ hf hP hS (lv_sub hl [1] rfl)
def fX8_ask (S : GS) (a1 : Int32) (a2 : Int32) : Option (Int32 × GS) :=
  if a1 < 0 then
    fX8_ask_L13 S a1 a2
  else
    if (3 : Int32) ≤ a1 then
      fX8_ask_L13 S a1 a2
    else
      (fX3_fits S ((8 : Int32) + a1) a2).bind fun u5 =>
      if u5 = 0 then
        fX8_ask_L30 S
      else
        (fX3_setting_now S ((8 : Int32) + a1)).bind fun u8 =>
        (fX3_putSetting_now S ((8 : Int32) + a1) a2).bind fun u10 =>
        some (u8, u10)
set_option maxHeartbeats 4000000 in
set_option maxRecDepth 100000 in
theorem tcX8_ask (l : Launch) (G : GP) (S : GS) (a1 : Int32) (a2 : Int32) {R : (Int32 × GS)} (hf : fX8_ask S a1 a2 = some R) : CI l yX8_ask wsX8_ask 1 23 [.ref (ga G 63), .int a1, .int a2] WX G S R.1 R.2 := by
  refine g_met RX8 (cc := cX8_ask) (nL := 5) (ret := (some .int)) (by decide) rfl rfl (Nat.le_of_ble_eq_true rfl) ?_
  intro p e s m below meth c ls X E hP hS hl
  have hl : lv_has ls 5 [(0, .ref (ga G 63)), (1, .int a1), (2, .int a2)] := hl
  obtain ⟨hx, hb, -, -, hown, hts, -⟩ := id X
  rw [fX8_ask] at hf
  refine lv_iload_n hx hb dX8_ask_0 rfl (lv_at hl 1 rfl) ?_
  refine lv_if_lt (tgt := 13) hx hb dX8_ask_1 (by decide) (fun c1 => ?_) (fun c1 => ?_)
  · have hf := g_ift hf c1
    exact bX8_ask_L13 X E _ _ _ _ _ _ _ hf hP hS (lv_sub hl [0, 1, 2] rfl)
  · have hf := g_iff hf c1
    refine lv_iload_n hx hb dX8_ask_4 rfl (lv_at hl 1 rfl) ?_
    refine lv_iconst (v := 3) hx hb dX8_ask_5 (by decide) ?_
    refine lv_icmp_ge (tgt := 13) hx hb dX8_ask_6 (by decide) (fun c4 => ?_) (fun c4 => ?_)
    · have hf := g_ift hf c4
      exact bX8_ask_L13 X E _ _ _ _ _ _ _ hf hP hS (lv_sub hl [0, 1, 2] rfl)
    · have hf := g_iff hf c4
      refine lv_iconst (v := 1) hx hb dX8_ask_9 (by decide) ?_
      refine lv_goto (tgt := 14) hx hb dX8_ask_10 (by decide) ?_
      refine lv_istore_n (lv' := [(3, .int (1 : Int32)), (0, .ref (ga G 63)), (1, .int a1), (2, .int a2)]) hx hb dX8_ask_14 rfl hl (by decide) rfl (fun ls hl => ?_)
      refine lv_iload_n hx hb dX8_ask_15 rfl (lv_at hl 0 rfl) ?_
      refine lv_if_eq (tgt := 30) hx hb dX8_ask_16 (by decide) (fun z => absurd z (by decide)) (fun _ => ?_)
      refine lv_bipush (v := 8) hx hb dX8_ask_19 (by decide) ?_
      refine lv_iload_n hx hb dX8_ask_21 rfl (lv_at hl 2 rfl) ?_
      refine lv_iadd hx hb dX8_ask_22 ?_
      refine lv_iload_n hx hb dX8_ask_23 rfl (lv_at hl 3 rfl) ?_
      obtain ⟨u5, h6, hf⟩ := g_bind hf
      refine g_si (rest := []) X E hP hS (tcX3_fits l G _ _ _ h6) (g_cwS X gX8_ask_X3_fits rfl hdX3_fits ⟨Nat.le_of_ble_eq_true rfl, Nat.le_of_ble_eq_true rfl⟩) rfl hl.1 rfl (Nat.le_of_ble_eq_true rfl) dX8_ask_24 ⟨Nat.le_refl _, Nat.le_refl _⟩ (fun H locs hP hS => ?_)
      refine lv_if_ne (tgt := 40) hx hb dX8_ask_27 (by decide) (fun c7 => ?_) (fun c7 => ?_)
      · have hf := g_iff hf c7
        refine lv_aload_n hx hb dX8_ask_40 rfl (lv_at hl 1 rfl) ?_
        refine ggX_49 X E hP inX8_ask_X8 lkX8_ask_1 dX8_ask_41 ?_
        refine lv_bipush (v := 8) hx hb dX8_ask_44 (by decide) ?_
        refine lv_iload_n hx hb dX8_ask_46 rfl (lv_at hl 2 rfl) ?_
        refine lv_iadd hx hb dX8_ask_47 ?_
        obtain ⟨u8, h9, hf⟩ := g_bind hf
        refine g_vi (rest := []) X E hP hS (tcX3_setting_now l G _ _ h9) (g_cwV X gX8_ask_X3_setting rfl hdX3_setting ⟨Nat.le_of_ble_eq_true rfl, Nat.le_of_ble_eq_true rfl⟩) (rcX_now E hP) rfl hl.1 rfl (Nat.le_of_ble_eq_true rfl) dX8_ask_48 ⟨Nat.le_refl _, Nat.le_refl _⟩ (fun H locs hP hS => ?_)
        refine lv_istore (lv' := [(4, .int u8), (3, .int (1 : Int32)), (0, .ref (ga G 63)), (1, .int a1), (2, .int a2)]) hx hb dX8_ask_51 hl (by decide) rfl (fun ls hl => ?_)
        refine lv_aload_n hx hb dX8_ask_53 rfl (lv_at hl 2 rfl) ?_
        refine ggX_49 X E hP inX8_ask_X8 lkX8_ask_1 dX8_ask_54 ?_
        refine lv_bipush (v := 8) hx hb dX8_ask_57 (by decide) ?_
        refine lv_iload_n hx hb dX8_ask_59 rfl (lv_at hl 3 rfl) ?_
        refine lv_iadd hx hb dX8_ask_60 ?_
        refine lv_iload_n hx hb dX8_ask_61 rfl (lv_at hl 4 rfl) ?_
        obtain ⟨u10, h11, hf⟩ := g_bind hf
        refine g_vv (rest := []) X E hP hS (tcX3_putSetting_now l G _ _ _ h11) (g_cwV X gX8_ask_X3_putSetting rfl hdX3_putSetting ⟨Nat.le_of_ble_eq_true rfl, Nat.le_of_ble_eq_true rfl⟩) (rcX_now E hP) rfl hl.1 rfl (Nat.le_of_ble_eq_true rfl) dX8_ask_62 ⟨Nat.le_refl _, Nat.le_refl _⟩ (fun H locs hP hS => ?_)
        refine lv_iload hx hb dX8_ask_65 (lv_at hl 0 rfl) ?_
        obtain rfl := g_some hf
        exact g_ri X E hP hS dX8_ask_67
      · have hf := g_ift hf c7
        exact bX8_ask_L30 X E _ _ _ _ _ hf hP hS (lv_sub hl [1] rfl)
def fX5_numberAt (S : GS) (a1 : Int32) (a2 : Int32) : Option Int32 :=
  (fX5_elementAt S a1 a2).bind fun u1 =>
  some (u1).toInt32
set_option maxHeartbeats 4000000 in
set_option maxRecDepth 100000 in
theorem tcX5_numberAt (l : Launch) (G : GP) (S : GS) (a1 : Int32) (a2 : Int32) {R : Int32} (hf : fX5_numberAt S a1 a2 = some R) : CI l yX5_numberAt wsX5_numberAt 4 86 [.ref (ga G 79), .int a1, .int a2] WX G S R S := by
  refine g_met RX5 (cc := cX5_numberAt) (nL := 3) (ret := (some .int)) (by decide) rfl rfl (Nat.le_of_ble_eq_true rfl) ?_
  intro p e s m below meth c ls X E hP hS hl
  have hl : lv_has ls 3 [(0, .ref (ga G 79)), (1, .int a1), (2, .int a2)] := hl
  obtain ⟨hx, hb, -, -, hown, hts, -⟩ := id X
  rw [fX5_numberAt] at hf
  refine lv_aload_n hx hb dX5_numberAt_0 rfl (lv_at hl 0 rfl) ?_
  refine lv_iload_n hx hb dX5_numberAt_1 rfl (lv_at hl 1 rfl) ?_
  refine lv_iload_n hx hb dX5_numberAt_2 rfl (lv_at hl 2 rfl) ?_
  obtain ⟨u1, h2, hf⟩ := g_bind hf
  refine g_vl (rest := []) X E hP hS (tcX5_elementAt l G _ _ _ h2) (g_cwV X gX5_numberAt_X5_elementAt rfl hdX5_elementAt ⟨Nat.le_of_ble_eq_true rfl, Nat.le_of_ble_eq_true rfl⟩) (rcX_shelves E hP) rfl hl.1 rfl (Nat.le_of_ble_eq_true rfl) dX5_numberAt_3 ⟨Nat.le_refl _, Nat.le_refl _⟩ (fun H locs hP hS => ?_)
  refine lv_l2i hx hb dX5_numberAt_6 rfl ?_
  obtain rfl := g_some hf
  exact g_ri X E hP hS dX5_numberAt_7
theorem lkX3_becomeLike_0 : Cond.fieldLink RX3 9 RX3 "figures" "[I" ∈ wsX3_becomeLike := by decide +kernel
theorem lkX3_becomeLike_1 : Cond.methodLink RX3 37 arraycopyName ∈ wsX3_becomeLike := by decide +kernel
theorem lkX3_becomeLike_2 : Cond.native arraycopyName ∈ wsX3_becomeLike := by decide +kernel
theorem lkX3_becomeLike_3 : Cond.static arraycopyName ∈ wsX3_becomeLike := by decide +kernel
theorem lkX3_becomeLike_4 : Cond.initialized "java/lang/System" ∈ wsX3_becomeLike := by decide +kernel
theorem lkX3_becomeLike_5 : Cond.fieldLink RX3 13 RX3 "settings" "[I" ∈ wsX3_becomeLike := by decide +kernel
theorem lkX3_becomeLike_6 : Cond.fieldLink RX3 16 RX3 "setUps" "I" ∈ wsX3_becomeLike := by decide +kernel
theorem lkX3_becomeLike_7 : Cond.fieldLink RX3 20 RX3 "seedHeld" "I" ∈ wsX3_becomeLike := by decide +kernel
theorem inX3_becomeLike_X3 : ∀ w ∈ wsX30, w ∈ wsX3_becomeLike := by decide +kernel
def fX3_becomeLike_told_now (S : GS)  : Option GS :=
  if (0 : Int32) < 0 ∨ (0 : Int32) < 0 ∨ (128 : Int32) < 0 ∨ 128 < (0 : Int32).toNatClampNeg + (128 : Int32).toNatClampNeg ∨ 128 < (0 : Int32).toNatClampNeg + (128 : Int32).toNatClampNeg then none else
  gLet (gA3 S 32 (va_cpy (S.2.2.1 0) (S.2.2.1 32) (0 : Int32).toNatClampNeg (0 : Int32).toNatClampNeg (128 : Int32).toNatClampNeg)) fun T2 =>
  if (0 : Int32) < 0 ∨ (0 : Int32) < 0 ∨ (3 : Int32) < 0 ∨ 3 < (0 : Int32).toNatClampNeg + (3 : Int32).toNatClampNeg ∨ 3 < (0 : Int32).toNatClampNeg + (3 : Int32).toNatClampNeg then none else
  gLet (gA3 T2 33 (va_cpy (T2.2.2.1 1) (T2.2.2.1 33) (0 : Int32).toNatClampNeg (0 : Int32).toNatClampNeg (3 : Int32).toNatClampNeg)) fun T5 =>
  some (gU1 (gU1 T5 34 (T5.1 2)) 35 ((gU1 T5 34 (T5.1 2)).1 3))
set_option maxHeartbeats 4000000 in
set_option maxRecDepth 100000 in
theorem tcX3_becomeLike_told_now (l : Launch) (G : GP) (S : GS)  {R : GS} (hf : fX3_becomeLike_told_now S  = some R) : CV l yX3_becomeLike wsX3_becomeLike 1 64 [.ref (ga G 47), .ref (ga G 15)] WX G S R := by
  refine g_met RX3 (cc := cX3_becomeLike) (nL := 2) (ret := none) (by decide) rfl rfl (Nat.le_of_ble_eq_true rfl) ?_
  intro p e s m below meth c ls X E hP hS hl
  have hl : lv_has ls 2 [(0, .ref (ga G 47)), (1, .ref (ga G 15))] := hl
  obtain ⟨hx, hb, -, -, hown, hts, -⟩ := id X
  rw [fX3_becomeLike_told_now] at hf
  refine lv_aload_n hx hb dX3_becomeLike_0 rfl (lv_at hl 1 rfl) ?_
  refine ggX_0 X E hP inX3_becomeLike_X3 lkX3_becomeLike_0 dX3_becomeLike_1 ?_
  refine lv_iconst (v := 0) hx hb dX3_becomeLike_4 (by decide) ?_
  refine lv_aload_n hx hb dX3_becomeLike_5 rfl (lv_at hl 0 rfl) ?_
  refine ggX_32 X E hP inX3_becomeLike_X3 lkX3_becomeLike_0 dX3_becomeLike_6 ?_
  refine lv_iconst (v := 0) hx hb dX3_becomeLike_9 (by decide) ?_
  refine lv_aload_n hx hb dX3_becomeLike_10 rfl (lv_at hl 0 rfl) ?_
  refine ggX_32 X E hP inX3_becomeLike_X3 lkX3_becomeLike_0 dX3_becomeLike_11 ?_
  refine glX_32 X E hP dX3_becomeLike_14 ?_
  obtain ⟨b1, hf⟩ := g_if hf
  refine gcX_0_32 X E hP hS hl.1 lkX3_becomeLike_1 lkX3_becomeLike_2 lkX3_becomeLike_3 lkX3_becomeLike_4 b1 (Nat.le_of_ble_eq_true rfl) (by decide +kernel) dX3_becomeLike_15 (fun H locs hP hS => ?_)
  obtain ⟨T2, e3, hf⟩ := g_let hf
  rw [← e3] at hP
  refine lv_aload_n hx hb dX3_becomeLike_18 rfl (lv_at hl 1 rfl) ?_
  refine ggX_1 X E hP inX3_becomeLike_X3 lkX3_becomeLike_5 dX3_becomeLike_19 ?_
  refine lv_iconst (v := 0) hx hb dX3_becomeLike_22 (by decide) ?_
  refine lv_aload_n hx hb dX3_becomeLike_23 rfl (lv_at hl 0 rfl) ?_
  refine ggX_33 X E hP inX3_becomeLike_X3 lkX3_becomeLike_5 dX3_becomeLike_24 ?_
  refine lv_iconst (v := 0) hx hb dX3_becomeLike_27 (by decide) ?_
  refine lv_aload_n hx hb dX3_becomeLike_28 rfl (lv_at hl 0 rfl) ?_
  refine ggX_33 X E hP inX3_becomeLike_X3 lkX3_becomeLike_5 dX3_becomeLike_29 ?_
  refine glX_33 X E hP dX3_becomeLike_32 ?_
  obtain ⟨b4, hf⟩ := g_if hf
  refine gcX_1_33 X E hP hS hl.1 lkX3_becomeLike_1 lkX3_becomeLike_2 lkX3_becomeLike_3 lkX3_becomeLike_4 b4 (Nat.le_of_ble_eq_true rfl) (by decide +kernel) dX3_becomeLike_33 (fun H locs hP hS => ?_)
  obtain ⟨T5, e6, hf⟩ := g_let hf
  rw [← e6] at hP
  refine lv_aload_n hx hb dX3_becomeLike_36 rfl (lv_at hl 0 rfl) ?_
  refine lv_aload_n hx hb dX3_becomeLike_37 rfl (lv_at hl 1 rfl) ?_
  refine ggX_2 X E hP inX3_becomeLike_X3 lkX3_becomeLike_6 dX3_becomeLike_38 ?_
  refine gpX_34 X E hP hS inX3_becomeLike_X3 lkX3_becomeLike_6 dX3_becomeLike_41 (fun H locs hP hS => ?_)
  refine lv_aload_n hx hb dX3_becomeLike_44 rfl (lv_at hl 0 rfl) ?_
  refine lv_aload_n hx hb dX3_becomeLike_45 rfl (lv_at hl 1 rfl) ?_
  refine ggX_3 X E hP inX3_becomeLike_X3 lkX3_becomeLike_7 dX3_becomeLike_46 ?_
  refine gpX_35 X E hP hS inX3_becomeLike_X3 lkX3_becomeLike_7 dX3_becomeLike_49 (fun H locs hP hS => ?_)
  obtain rfl := g_some hf
  exact g_rv X E hP hS dX3_becomeLike_52
def fX4_wordOf (S : GS) (a1 : Int32) : Option Nat :=
  if a1 = (0 : Int32) then
    some 0
  else if a1 = (1 : Int32) then
    some 1
  else if a1 = (2 : Int32) then
    some 2
  else if a1 = (3 : Int32) then
    some 3
  else if a1 = (4 : Int32) then
    some 4
  else if a1 = (5 : Int32) then
    some 5
  else some 6
set_option maxHeartbeats 4000000 in
set_option maxRecDepth 100000 in
theorem tcX4_wordOf (l : Launch) (G : GP) (S : GS) (a1 : Int32) {R : Nat} (hf : fX4_wordOf S a1 = some R) : CS l yX4_wordOf wsX4_wordOf 0 0 [.int a1] WX G S R S := by
  refine g_met RX4 (cc := cX4_wordOf) (nL := 1) (ret := (some (.object "java/lang/String"))) (by decide) rfl rfl (Nat.le_of_ble_eq_true rfl) ?_
  intro p e s m below meth c ls X E hP hS hl
  have hl : lv_has ls 1 [(0, .int a1)] := hl
  obtain ⟨hx, hb, -, -, hown, hts, -⟩ := id X
  rw [fX4_wordOf] at hf
  refine lv_iload_n hx hb dX4_wordOf_0 rfl (lv_at hl 0 rfl) ?_
  by_cases c1 : a1 = (0 : Int32)
  · have hf := g_ift hf c1
    refine g_tin (k := (0 : Int32)) (off := 39) (tgt := 40) hx hb dX4_wordOf_1 c1 (by decide) ?_
    refine va_ldcS hx hb hown (E.2.2.2.2.1 0 _ rfl) dX4_wordOf_40 ?_
    obtain rfl := g_some hf
    exact g_rs X E hP hS dX4_wordOf_42
  have hf := g_iff hf c1
  by_cases c2 : a1 = (1 : Int32)
  · have hf := g_ift hf c2
    refine g_tin (k := (1 : Int32)) (off := 42) (tgt := 43) hx hb dX4_wordOf_1 c2 (by decide) ?_
    refine va_ldcS hx hb hown (E.2.2.2.2.1 1 _ rfl) dX4_wordOf_43 ?_
    obtain rfl := g_some hf
    exact g_rs X E hP hS dX4_wordOf_45
  have hf := g_iff hf c2
  by_cases c3 : a1 = (2 : Int32)
  · have hf := g_ift hf c3
    refine g_tin (k := (2 : Int32)) (off := 45) (tgt := 46) hx hb dX4_wordOf_1 c3 (by decide) ?_
    refine va_ldcS hx hb hown (E.2.2.2.2.1 2 _ rfl) dX4_wordOf_46 ?_
    obtain rfl := g_some hf
    exact g_rs X E hP hS dX4_wordOf_48
  have hf := g_iff hf c3
  by_cases c4 : a1 = (3 : Int32)
  · have hf := g_ift hf c4
    refine g_tin (k := (3 : Int32)) (off := 48) (tgt := 49) hx hb dX4_wordOf_1 c4 (by decide) ?_
    refine va_ldcS hx hb hown (E.2.2.2.2.1 3 _ rfl) dX4_wordOf_49 ?_
    obtain rfl := g_some hf
    exact g_rs X E hP hS dX4_wordOf_51
  have hf := g_iff hf c4
  by_cases c5 : a1 = (4 : Int32)
  · have hf := g_ift hf c5
    refine g_tin (k := (4 : Int32)) (off := 51) (tgt := 52) hx hb dX4_wordOf_1 c5 (by decide) ?_
    refine va_ldcS hx hb hown (E.2.2.2.2.1 4 _ rfl) dX4_wordOf_52 ?_
    obtain rfl := g_some hf
    exact g_rs X E hP hS dX4_wordOf_54
  have hf := g_iff hf c5
  by_cases c6 : a1 = (5 : Int32)
  · have hf := g_ift hf c6
    refine g_tin (k := (5 : Int32)) (off := 54) (tgt := 55) hx hb dX4_wordOf_1 c6 (by decide) ?_
    refine va_ldcS hx hb hown (E.2.2.2.2.1 5 _ rfl) dX4_wordOf_55 ?_
    obtain rfl := g_some hf
    exact g_rs X E hP hS dX4_wordOf_57
  have hf := g_iff hf c6
  refine lv_tableOut (tgt := 58) hx hb dX4_wordOf_1 (by have e0 := lv_neT (a := 0) c1 (by decide); have e1 := lv_neT (a := 1) c2 (by decide); have e2 := lv_neT (a := 2) c3 (by decide); have e3 := lv_neT (a := 3) c4 (by decide); have e4 := lv_neT (a := 4) c5 (by decide); have e5 := lv_neT (a := 5) c6 (by decide); omega) (by decide) ?_
  refine va_ldcS hx hb hown (E.2.2.2.2.1 6 _ rfl) dX4_wordOf_58 ?_
  obtain rfl := g_some hf
  exact g_rs X E hP hS dX4_wordOf_60
theorem lkX4_letterAt_0 : Cond.fieldLink RX4 41 RX4 "length" "I" ∈ wsX4_letterAt := by decide +kernel
theorem lkX4_letterAt_1 : Cond.fieldLink RX4 24 RX4 "letters" "[I" ∈ wsX4_letterAt := by decide +kernel
theorem inX4_letterAt_X4 : ∀ w ∈ wsX40, w ∈ wsX4_letterAt := by decide +kernel
def fX4_letterAt (S : GS) (a1 : Int32) : Option Int32 :=
  if a1 < 0 then
    some (-1 : Int32)
  else
    if (S.1 83) ≤ a1 then
      some (-1 : Int32)
    else
      if (160 : Int32) ≤ a1 then
        some (-1 : Int32)
      else
        if a1 < 0 ∨ 160 ≤ (a1).toNatClampNeg then none else
        some (S.2.2.1 82 (a1).toNatClampNeg)
set_option maxHeartbeats 4000000 in
set_option maxRecDepth 100000 in
theorem tcX4_letterAt (l : Launch) (G : GP) (S : GS) (a1 : Int32) {R : Int32} (hf : fX4_letterAt S a1 = some R) : CI l yX4_letterAt wsX4_letterAt 0 0 [.ref (ga G 95), .int a1] WX G S R S := by
  refine g_met RX4 (cc := cX4_letterAt) (nL := 2) (ret := (some .int)) (by decide) rfl rfl (Nat.le_of_ble_eq_true rfl) ?_
  intro p e s m below meth c ls X E hP hS hl
  have hl : lv_has ls 2 [(0, .ref (ga G 95)), (1, .int a1)] := hl
  obtain ⟨hx, hb, -, -, hown, hts, -⟩ := id X
  rw [fX4_letterAt] at hf
  refine lv_iload_n hx hb dX4_letterAt_0 rfl (lv_at hl 1 rfl) ?_
  refine lv_if_lt (tgt := 30) hx hb dX4_letterAt_1 (by decide) (fun c1 => ?_) (fun c1 => ?_)
  · have hf := g_ift hf c1
    refine lv_iconst (v := -1) hx hb dX4_letterAt_30 (by decide) ?_
    obtain rfl := g_some hf
    exact g_ri X E hP hS dX4_letterAt_31
  · have hf := g_iff hf c1
    refine lv_iload_n hx hb dX4_letterAt_4 rfl (lv_at hl 1 rfl) ?_
    refine lv_aload_n hx hb dX4_letterAt_5 rfl (lv_at hl 0 rfl) ?_
    refine ggX_83 X E hP inX4_letterAt_X4 lkX4_letterAt_0 dX4_letterAt_6 ?_
    refine lv_icmp_ge (tgt := 30) hx hb dX4_letterAt_9 (by decide) (fun c2 => ?_) (fun c2 => ?_)
    · have hf := g_ift hf c2
      refine lv_iconst (v := -1) hx hb dX4_letterAt_30 (by decide) ?_
      obtain rfl := g_some hf
      exact g_ri X E hP hS dX4_letterAt_31
    · have hf := g_iff hf c2
      refine lv_iload_n hx hb dX4_letterAt_12 rfl (lv_at hl 1 rfl) ?_
      refine lv_aload_n hx hb dX4_letterAt_13 rfl (lv_at hl 0 rfl) ?_
      refine ggX_82 X E hP inX4_letterAt_X4 lkX4_letterAt_1 dX4_letterAt_14 ?_
      refine glX_82 X E hP dX4_letterAt_17 ?_
      refine lv_icmp_ge (tgt := 30) hx hb dX4_letterAt_18 (by decide) (fun c3 => ?_) (fun c3 => ?_)
      · have hf := g_ift hf c3
        refine lv_iconst (v := -1) hx hb dX4_letterAt_30 (by decide) ?_
        obtain rfl := g_some hf
        exact g_ri X E hP hS dX4_letterAt_31
      · have hf := g_iff hf c3
        refine lv_aload_n hx hb dX4_letterAt_21 rfl (lv_at hl 0 rfl) ?_
        refine ggX_82 X E hP inX4_letterAt_X4 lkX4_letterAt_1 dX4_letterAt_22 ?_
        refine lv_iload_n hx hb dX4_letterAt_25 rfl (lv_at hl 1 rfl) ?_
        obtain ⟨b4, hf⟩ := g_if hf
        refine giX_82 X E hP b4 dX4_letterAt_26 ?_
        refine lv_goto (tgt := 31) hx hb dX4_letterAt_27 (by decide) ?_
        obtain rfl := g_some hf
        exact g_ri X E hP hS dX4_letterAt_31
theorem lkX4_matchedOf_0 : Cond.fieldLink RX4 47 RX4 "at" "I" ∈ wsX4_matchedOf := by decide +kernel
theorem inX4_matchedOf_X4 : ∀ w ∈ wsX40, w ∈ wsX4_matchedOf := by decide +kernel
def fX4_matchedOf_7 : Nat → GS → Nat → Int32 → Option Int32
  | 0, _, _, _ => none
  | fu + 1, S, v2, v3 =>
    if 7 ≤ v2 then none else
    (fJ0_length_8abf5 S v2).bind fun u3 =>
    if u3 ≤ v3 then
      some v3
    else
      (fX4_letterAt S ((S.1 84) + v3)).bind fun u7 =>
      if 7 ≤ v2 then none else
      (fJ0_charAt_5068e S v2 v3).bind fun u9 =>
      if u7 = u9 then
        fX4_matchedOf_7 fu S v2 (v3 + 1)
      else
        some v3
set_option maxHeartbeats 4000000 in
set_option maxRecDepth 100000 in
theorem bX4_matchedOf_7 {p : Program} {l : Launch} {e : Env} {s : State} {m : MethodId} {args : Array Value} {below : List Frame} {meth : Method} {c : Code} {Q : State → Prop} {G : GP} (X : GX p s m meth c args cX4_matchedOf 4 (some .int) wsX4_matchedOf RX4) (E : gE WX G s)  : ∀ (fu : Nat) (S : GS) (v2 : Nat) (v3 : Int32) (R : Int32) (H : Heap) (locs : List Loc) (ls : Array Slot) (_ : fX4_matchedOf_7 fu S v2 v3 = some R) (_ : va_P (gD G) vwCl (WX G S ++ gF G) H) (_ : va_S (gA G) s.heap H locs) (_ : lv_has ls 4 [(0, .ref (ga G 95)), (2, .ref (gK G v2)), (3, .int v3)]) (_ : ∀ (H : Heap) (locs : List Loc) (ls : Array Slot), va_P (gD G) vwCl (WX G S ++ gF G) H → va_S (gA G) s.heap H locs → lv_has ls 4 [(3, .int R)] → W p l e (gR 4 85) s m args below meth c H locs 0 0 Q (F0 m 39 ls [])), W p l e (gR 4 85) s m args below meth c H locs 0 0 Q (F0 m 7 ls []) := by
  obtain ⟨hx, hb, -, -, hown, hts, -⟩ := id X
  intro fu
  induction fu with
  | zero =>
    intro S v2 v3 R H locs ls hf
    cases (show (none : Option Int32) = some R from hf)
  | succ fu ih =>
    intro S v2 v3 R H locs ls hf hP hS hl kk
    rw [fX4_matchedOf_7] at hf
    refine lv_iload_n hx hb dX4_matchedOf_7 rfl (lv_at hl 2 rfl) ?_
    refine lv_aload_n hx hb dX4_matchedOf_8 rfl (lv_at hl 1 rfl) ?_
    obtain ⟨k5, hf⟩ := g_if hf
    obtain ⟨u3, h4, hf⟩ := g_bind hf
    refine g_vi (rest := [.int v3]) X E hP hS (tcJ0_length_8abf5 l G _ _ h4) (g_cwV X gX4_matchedOf_J0_length_8abf5 rfl hdJ0_length_8abf5 ⟨Nat.le_of_ble_eq_true rfl, Nat.le_of_ble_eq_true rfl⟩) (vk_recv E.2.2.2.2.2.1 (Nat.not_le.mp k5) hS) rfl hl.1 rfl (Nat.le_of_ble_eq_true rfl) dX4_matchedOf_9 ⟨Nat.le_refl _, Nat.le_refl _⟩ (fun H locs hP hS => ?_)
    refine lv_icmp_ge (tgt := 39) hx hb dX4_matchedOf_12 (by decide) (fun c6 => ?_) (fun c6 => ?_)
    · have hf := g_ift hf c6
      obtain rfl := g_some hf
      exact kk _ _ _ hP hS (lv_sub hl [2] rfl)
    · have hf := g_iff hf c6
      refine lv_aload_n hx hb dX4_matchedOf_15 rfl (lv_at hl 0 rfl) ?_
      refine lv_aload_n hx hb dX4_matchedOf_16 rfl (lv_at hl 0 rfl) ?_
      refine ggX_84 X E hP inX4_matchedOf_X4 lkX4_matchedOf_0 dX4_matchedOf_17 ?_
      refine lv_iload_n hx hb dX4_matchedOf_20 rfl (lv_at hl 2 rfl) ?_
      refine lv_iadd hx hb dX4_matchedOf_21 ?_
      obtain ⟨u7, h8, hf⟩ := g_bind hf
      refine g_vi (rest := []) X E hP hS (tcX4_letterAt l G _ _ h8) (g_cwV X gX4_matchedOf_X4_letterAt rfl hdX4_letterAt ⟨Nat.le_of_ble_eq_true rfl, Nat.le_of_ble_eq_true rfl⟩) (rcX_reader E hP) rfl hl.1 rfl (Nat.le_of_ble_eq_true rfl) dX4_matchedOf_22 ⟨Nat.le_refl _, Nat.le_refl _⟩ (fun H locs hP hS => ?_)
      refine lv_aload_n hx hb dX4_matchedOf_25 rfl (lv_at hl 1 rfl) ?_
      refine lv_iload_n hx hb dX4_matchedOf_26 rfl (lv_at hl 2 rfl) ?_
      obtain ⟨k11, hf⟩ := g_if hf
      obtain ⟨u9, h10, hf⟩ := g_bind hf
      refine g_vi (rest := [.int u7]) X E hP hS (tcJ0_charAt_5068e l G _ _ _ h10) (g_cwV X gX4_matchedOf_J0_charAt_5068e rfl hdJ0_charAt_5068e ⟨Nat.le_of_ble_eq_true rfl, Nat.le_of_ble_eq_true rfl⟩) (vk_recv E.2.2.2.2.2.1 (Nat.not_le.mp k11) hS) rfl hl.1 rfl (Nat.le_of_ble_eq_true rfl) dX4_matchedOf_27 ⟨Nat.le_refl _, Nat.le_refl _⟩ (fun H locs hP hS => ?_)
      refine lv_icmp_ne (tgt := 39) hx hb dX4_matchedOf_30 (by decide) (fun c12 => ?_) (fun c12 => ?_)
      · have hf := g_iff hf c12
        obtain rfl := g_some hf
        exact kk _ _ _ hP hS (lv_sub hl [2] rfl)
      · have hf := g_ift hf c12
        refine lv_iinc (v := (v3 + 1)) (lv' := [(3, .int (v3 + 1)), (0, .ref (ga G 95)), (2, .ref (gK G v2))]) hx hb dX4_matchedOf_33 hl (k := 2) rfl rfl (by decide) rfl (fun ls hl => ?_)
        refine lv_goto (tgt := 7) hx hb dX4_matchedOf_36 (by decide) ?_
        exact ih _ _ _ _ _ _ _ hf hP hS (lv_sub hl [1, 2, 0] rfl) kk
def fX4_matchedOf (S : GS) (a1 : Int32) : Option Int32 :=
  (fX4_wordOf S a1).bind fun u1 =>
  (fX4_matchedOf_7 gFuel S u1 (0 : Int32)).bind fun u13 =>
  some u13
set_option maxHeartbeats 4000000 in
set_option maxRecDepth 100000 in
theorem tcX4_matchedOf (l : Launch) (G : GP) (S : GS) (a1 : Int32) {R : Int32} (hf : fX4_matchedOf S a1 = some R) : CI l yX4_matchedOf wsX4_matchedOf 4 85 [.ref (ga G 95), .int a1] WX G S R S := by
  refine g_met RX4 (cc := cX4_matchedOf) (nL := 4) (ret := (some .int)) (by decide) rfl rfl (Nat.le_of_ble_eq_true rfl) ?_
  intro p e s m below meth c ls X E hP hS hl
  have hl : lv_has ls 4 [(0, .ref (ga G 95)), (1, .int a1)] := hl
  obtain ⟨hx, hb, -, -, hown, hts, -⟩ := id X
  rw [fX4_matchedOf] at hf
  refine lv_iload_n hx hb dX4_matchedOf_0 rfl (lv_at hl 1 rfl) ?_
  obtain ⟨u1, h2, hf⟩ := g_bind hf
  refine g_ss (rest := []) X E hP hS (tcX4_wordOf l G _ _ h2) (g_cwS X gX4_matchedOf_X4_wordOf rfl hdX4_wordOf ⟨Nat.le_of_ble_eq_true rfl, Nat.le_of_ble_eq_true rfl⟩) rfl hl.1 rfl (Nat.le_of_ble_eq_true rfl) dX4_matchedOf_1 ⟨Nat.le_refl _, Nat.le_refl _⟩ (fun H locs hP hS => ?_)
  refine lv_astore_n (lv' := [(2, .ref (gK G u1)), (0, .ref (ga G 95)), (1, .int a1)]) hx hb dX4_matchedOf_4 rfl hl (by decide) rfl (fun ls hl => ?_)
  refine lv_iconst (v := 0) hx hb dX4_matchedOf_5 (by decide) ?_
  refine lv_istore_n (lv' := [(3, .int (0 : Int32)), (2, .ref (gK G u1)), (0, .ref (ga G 95)), (1, .int a1)]) hx hb dX4_matchedOf_6 rfl hl (by decide) rfl (fun ls hl => ?_)
  obtain ⟨u13, h14, hf⟩ := g_bind hf
  refine bX4_matchedOf_7 X E gFuel _ _ _ u13 _ _ _ h14 hP hS (lv_sub hl [2, 1, 0] rfl) (fun H locs ls hP hS hl => ?_)
  have hl : lv_has ls 4 [(3, .int u13)] := hl
  refine lv_iload_n hx hb dX4_matchedOf_39 rfl (lv_at hl 0 rfl) ?_
  obtain rfl := g_some hf
  exact g_ri X E hP hS dX4_matchedOf_40
def fX4_longestWordHere_4 : Nat → GS → Int32 → Int32 → Option Int32
  | 0, _, _, _ => none
  | fu + 1, S, v1, v2 =>
    if (7 : Int32) ≤ v2 then
      some v1
    else
      (fX4_matchedOf S v2).bind fun u2 =>
      (fX4_matchedOf S v1).bind fun u4 =>
      if u2 ≤ u4 then
        fX4_longestWordHere_4 fu S v1 (v2 + 1)
      else
        fX4_longestWordHere_4 fu S v2 (v2 + 1)
set_option maxHeartbeats 4000000 in
set_option maxRecDepth 100000 in
theorem bX4_longestWordHere_4 {p : Program} {l : Launch} {e : Env} {s : State} {m : MethodId} {args : Array Value} {below : List Frame} {meth : Method} {c : Code} {Q : State → Prop} {G : GP} (X : GX p s m meth c args cX4_longestWordHere 3 (some .int) wsX4_longestWordHere RX4) (E : gE WX G s)  : ∀ (fu : Nat) (S : GS) (v1 : Int32) (v2 : Int32) (R : Int32) (H : Heap) (locs : List Loc) (ls : Array Slot) (_ : fX4_longestWordHere_4 fu S v1 v2 = some R) (_ : va_P (gD G) vwCl (WX G S ++ gF G) H) (_ : va_S (gA G) s.heap H locs) (_ : lv_has ls 3 [(0, .ref (ga G 95)), (1, .int v1), (2, .int v2)]) (_ : ∀ (H : Heap) (locs : List Loc) (ls : Array Slot), va_P (gD G) vwCl (WX G S ++ gF G) H → va_S (gA G) s.heap H locs → lv_has ls 3 [(1, .int R)] → W p l e (gR 5 108) s m args below meth c H locs 0 0 Q (F0 m 31 ls [])), W p l e (gR 5 108) s m args below meth c H locs 0 0 Q (F0 m 4 ls []) := by
  obtain ⟨hx, hb, -, -, hown, hts, -⟩ := id X
  intro fu
  induction fu with
  | zero =>
    intro S v1 v2 R H locs ls hf
    cases (show (none : Option Int32) = some R from hf)
  | succ fu ih =>
    intro S v1 v2 R H locs ls hf hP hS hl kk
    rw [fX4_longestWordHere_4] at hf
    refine lv_iload_n hx hb dX4_longestWordHere_4 rfl (lv_at hl 2 rfl) ?_
    refine lv_bipush (v := 7) hx hb dX4_longestWordHere_5 (by decide) ?_
    refine lv_icmp_ge (tgt := 31) hx hb dX4_longestWordHere_7 (by decide) (fun c1 => ?_) (fun c1 => ?_)
    · have hf := g_ift hf c1
      obtain rfl := g_some hf
      exact kk _ _ _ hP hS (lv_sub hl [1] rfl)
    · have hf := g_iff hf c1
      refine lv_aload_n hx hb dX4_longestWordHere_10 rfl (lv_at hl 0 rfl) ?_
      refine lv_iload_n hx hb dX4_longestWordHere_11 rfl (lv_at hl 2 rfl) ?_
      obtain ⟨u2, h3, hf⟩ := g_bind hf
      refine g_vi (rest := []) X E hP hS (tcX4_matchedOf l G _ _ h3) (g_cwV X gX4_longestWordHere_X4_matchedOf rfl hdX4_matchedOf ⟨Nat.le_of_ble_eq_true rfl, Nat.le_of_ble_eq_true rfl⟩) (rcX_reader E hP) rfl hl.1 rfl (Nat.le_of_ble_eq_true rfl) dX4_longestWordHere_12 ⟨Nat.le_refl _, Nat.le_refl _⟩ (fun H locs hP hS => ?_)
      refine lv_aload_n hx hb dX4_longestWordHere_15 rfl (lv_at hl 0 rfl) ?_
      refine lv_iload_n hx hb dX4_longestWordHere_16 rfl (lv_at hl 1 rfl) ?_
      obtain ⟨u4, h5, hf⟩ := g_bind hf
      refine g_vi (rest := [.int u2]) X E hP hS (tcX4_matchedOf l G _ _ h5) (g_cwV X gX4_longestWordHere_X4_matchedOf rfl hdX4_matchedOf ⟨Nat.le_of_ble_eq_true rfl, Nat.le_of_ble_eq_true rfl⟩) (rcX_reader E hP) rfl hl.1 rfl (Nat.le_of_ble_eq_true rfl) dX4_longestWordHere_17 ⟨Nat.le_refl _, Nat.le_refl _⟩ (fun H locs hP hS => ?_)
      refine lv_icmp_le (tgt := 25) hx hb dX4_longestWordHere_20 (by decide) (fun c6 => ?_) (fun c6 => ?_)
      · have hf := g_ift hf c6
        refine lv_iinc (v := (v2 + 1)) (lv' := [(2, .int (v2 + 1)), (0, .ref (ga G 95)), (1, .int v1)]) hx hb dX4_longestWordHere_25 hl (k := 2) rfl rfl (by decide) rfl (fun ls hl => ?_)
        refine lv_goto (tgt := 4) hx hb dX4_longestWordHere_28 (by decide) ?_
        exact ih _ _ _ _ _ _ _ hf hP hS (lv_sub hl [1, 2, 0] rfl) kk
      · have hf := g_iff hf c6
        refine lv_iload_n hx hb dX4_longestWordHere_23 rfl (lv_at hl 2 rfl) ?_
        refine lv_istore_n (lv' := [(1, .int v2), (0, .ref (ga G 95)), (2, .int v2)]) hx hb dX4_longestWordHere_24 rfl hl (by decide) rfl (fun ls hl => ?_)
        refine lv_iinc (v := (v2 + 1)) (lv' := [(2, .int (v2 + 1)), (1, .int v2), (0, .ref (ga G 95))]) hx hb dX4_longestWordHere_25 hl (k := 2) rfl rfl (by decide) rfl (fun ls hl => ?_)
        refine lv_goto (tgt := 4) hx hb dX4_longestWordHere_28 (by decide) ?_
        exact ih _ _ _ _ _ _ _ hf hP hS (lv_sub hl [2, 1, 0] rfl) kk
def fX4_longestWordHere (S : GS)  : Option Int32 :=
  (fX4_longestWordHere_4 gFuel S (0 : Int32) (1 : Int32)).bind fun u7 =>
  some u7
set_option maxHeartbeats 4000000 in
set_option maxRecDepth 100000 in
theorem tcX4_longestWordHere (l : Launch) (G : GP) (S : GS)  {R : Int32} (hf : fX4_longestWordHere S  = some R) : CI l yX4_longestWordHere wsX4_longestWordHere 5 108 [.ref (ga G 95)] WX G S R S := by
  refine g_met RX4 (cc := cX4_longestWordHere) (nL := 3) (ret := (some .int)) (by decide) rfl rfl (Nat.le_of_ble_eq_true rfl) ?_
  intro p e s m below meth c ls X E hP hS hl
  have hl : lv_has ls 3 [(0, .ref (ga G 95))] := hl
  obtain ⟨hx, hb, -, -, hown, hts, -⟩ := id X
  rw [fX4_longestWordHere] at hf
  refine lv_iconst (v := 0) hx hb dX4_longestWordHere_0 (by decide) ?_
  refine lv_istore_n (lv' := [(1, .int (0 : Int32)), (0, .ref (ga G 95))]) hx hb dX4_longestWordHere_1 rfl hl (by decide) rfl (fun ls hl => ?_)
  refine lv_iconst (v := 1) hx hb dX4_longestWordHere_2 (by decide) ?_
  refine lv_istore_n (lv' := [(2, .int (1 : Int32)), (1, .int (0 : Int32)), (0, .ref (ga G 95))]) hx hb dX4_longestWordHere_3 rfl hl (by decide) rfl (fun ls hl => ?_)
  obtain ⟨u7, h8, hf⟩ := g_bind hf
  refine bX4_longestWordHere_4 X E gFuel _ _ _ u7 _ _ _ h8 hP hS (lv_sub hl [2, 1, 0] rfl) (fun H locs ls hP hS hl => ?_)
  have hl : lv_has ls 3 [(1, .int u7)] := hl
  refine lv_iload_n hx hb dX4_longestWordHere_31 rfl (lv_at hl 0 rfl) ?_
  obtain rfl := g_some hf
  exact g_ri X E hP hS dX4_longestWordHere_32
