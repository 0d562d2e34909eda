theorem hdX9_barsOf : yX9_barsOf.cls = RX9 ∧ yX9_barsOf.cls ≠ "java/lang/invoke/MethodHandle" ∧ yX9_barsOf.cls ≠ "java/lang/invoke/VarHandle" ∧ (parseMethodDescriptor yX9_barsOf.desc).map (fun d => d.parameters.length) = some 2 := by decide +kernel
theorem hdX9_barsRight : yX9_barsRight.cls = RX9 ∧ yX9_barsRight.cls ≠ "java/lang/invoke/MethodHandle" ∧ yX9_barsRight.cls ≠ "java/lang/invoke/VarHandle" ∧ (parseMethodDescriptor yX9_barsRight.desc).map (fun d => d.parameters.length) = some 2 := by decide +kernel
theorem hdX9_body : yX9_body.cls = RX9 ∧ yX9_body.cls ≠ "java/lang/invoke/MethodHandle" ∧ yX9_body.cls ≠ "java/lang/invoke/VarHandle" ∧ (parseMethodDescriptor yX9_body.desc).map (fun d => d.parameters.length) = some 1 := by decide +kernel
theorem hdX9_changes : yX9_changes.cls = RX9 ∧ yX9_changes.cls ≠ "java/lang/invoke/MethodHandle" ∧ yX9_changes.cls ≠ "java/lang/invoke/VarHandle" ∧ (parseMethodDescriptor yX9_changes.desc).map (fun d => d.parameters.length) = some 2 := by decide +kernel
theorem hdX9_closing : yX9_closing.cls = RX9 ∧ yX9_closing.cls ≠ "java/lang/invoke/MethodHandle" ∧ yX9_closing.cls ≠ "java/lang/invoke/VarHandle" ∧ (parseMethodDescriptor yX9_closing.desc).map (fun d => d.parameters.length) = some 2 := by decide +kernel
theorem hdX9_draw : yX9_draw.cls = RX9 ∧ yX9_draw.cls ≠ "java/lang/invoke/MethodHandle" ∧ yX9_draw.cls ≠ "java/lang/invoke/VarHandle" ∧ (parseMethodDescriptor yX9_draw.desc).map (fun d => d.parameters.length) = some 1 := by decide +kernel
theorem hdX9_forgets : yX9_forgets.cls = RX9 ∧ yX9_forgets.cls ≠ "java/lang/invoke/MethodHandle" ∧ yX9_forgets.cls ≠ "java/lang/invoke/VarHandle" ∧ (parseMethodDescriptor yX9_forgets.desc).map (fun d => d.parameters.length) = some 0 := by decide +kernel
theorem hdX9_reading : yX9_reading.cls = RX9 ∧ yX9_reading.cls ≠ "java/lang/invoke/MethodHandle" ∧ yX9_reading.cls ≠ "java/lang/invoke/VarHandle" ∧ (parseMethodDescriptor yX9_reading.desc).map (fun d => d.parameters.length) = some 2 := by decide +kernel
theorem hdX9_sinking : yX9_sinking.cls = RX9 ∧ yX9_sinking.cls ≠ "java/lang/invoke/MethodHandle" ∧ yX9_sinking.cls ≠ "java/lang/invoke/VarHandle" ∧ (parseMethodDescriptor yX9_sinking.desc).map (fun d => d.parameters.length) = some 2 := by decide +kernel
theorem hdX9_turns : yX9_turns.cls = RX9 ∧ yX9_turns.cls ≠ "java/lang/invoke/MethodHandle" ∧ yX9_turns.cls ≠ "java/lang/invoke/VarHandle" ∧ (parseMethodDescriptor yX9_turns.desc).map (fun d => d.parameters.length) = some 1 := by decide +kernel
theorem hdX9_wrongIn : yX9_wrongIn.cls = RX9 ∧ yX9_wrongIn.cls ≠ "java/lang/invoke/MethodHandle" ∧ yX9_wrongIn.cls ≠ "java/lang/invoke/VarHandle" ∧ (parseMethodDescriptor yX9_wrongIn.desc).map (fun d => d.parameters.length) = some 2 := by decide +kernel
theorem lkX9_most_0 : Cond.fieldLink RX9 91 RX9 "many" "I" ∈ wsX9_most := by decide +kernel
theorem inX9_most_X9 : ∀ w ∈ wsX90, w ∈ wsX9_most := by decide +kernel
def fX9_most_27 : Nat → GS → Int32 → Int32 → Int32 → Option Int32
  | 0, _, _, _, _ => none
  | fu + 1, S, v1, v2, v3 =>
    if (S.1 0) ≤ v3 then
      some v2
    else
      if v1 = 0 then
        (fX9_yards S v3 (v3 + (1 : Int32))).bind fun u19 =>
        (fX9_yards S v2 (v2 + (1 : Int32))).bind fun u21 =>
        if u19 ≤ u21 then
          fX9_most_27 fu S v1 v2 (v3 + 1)
        else
          fX9_most_27 fu S v1 v3 (v3 + 1)
      else
        (fX9_booked S v3).bind fun u10 =>
        (fX9_abs S u10).bind fun u12 =>
        (fX9_booked S v2).bind fun u14 =>
        (fX9_abs S u14).bind fun u16 =>
        if u12 ≤ u16 then
          fX9_most_27 fu S v1 v2 (v3 + 1)
        else
          fX9_most_27 fu S v1 v3 (v3 + 1)
set_option maxHeartbeats 4000000 in
set_option maxRecDepth 100000 in
theorem bX9_most_27 {p : Program} {l : Launch} {e : Env} {s : State} {m : MethodId} {args : Array Value} {below : List Frame} {meth : Method} {c : Code} {Q : State → Prop} {G : GP} (X : GX p s m meth c args cX9_most 4 (some .int) wsX9_most RX9) (E : gE WM G s)  : ∀ (fu : Nat) (S : GS) (v1 : Int32) (v2 : Int32) (v3 : Int32) (R : Int32) (H : Heap) (locs : List Loc) (ls : Array Slot) (_ : fX9_most_27 fu S v1 v2 v3 = some R) (_ : va_P (gD G) vwCl (WM G S ++ gF G) H) (_ : va_S (gA G) s.heap H locs) (_ : lv_has ls 4 [(0, .ref (ga G 63)), (1, .int v1), (2, .int v2), (3, .int v3)]) (_ : ∀ (H : Heap) (locs : List Loc) (ls : Array Slot), va_P (gD G) vwCl (WM G S ++ gF G) H → va_S (gA G) s.heap H locs → lv_has ls 4 [(2, .int R)] → W p l e (gR 1 24) s m args below meth c H locs 0 0 Q (F0 m 90 ls [])), W p l e (gR 1 24) s m args below meth c H locs 0 0 Q (F0 m 27 ls []) := by
  obtain ⟨hx, hb, -, -, hown, hts, -⟩ := id X
  intro fu
  induction fu with
  | zero =>
    intro S v1 v2 v3 R H locs ls hf
    cases (show (none : Option Int32) = some R from hf)
  | succ fu ih =>
    intro S v1 v2 v3 R H locs ls hf hP hS hl kk
    rw [fX9_most_27] at hf
    refine lv_iload_n hx hb dX9_most_27 rfl (lv_at hl 3 rfl) ?_
    refine lv_aload_n hx hb dX9_most_28 rfl (lv_at hl 0 rfl) ?_
    refine ggM_0 X E hP inX9_most_X9 lkX9_most_0 dX9_most_29 ?_
    refine lv_icmp_ge (tgt := 90) hx hb dX9_most_32 (by decide) (fun c8 => ?_) (fun c8 => ?_)
    · have hf := g_ift hf c8
      obtain rfl := g_some hf
      exact kk _ _ _ hP hS (lv_sub hl [2] rfl)
    · have hf := g_iff hf c8
      refine lv_iload_n hx hb dX9_most_35 rfl (lv_at hl 1 rfl) ?_
      refine lv_if_ne (tgt := 61) hx hb dX9_most_36 (by decide) (fun c9 => ?_) (fun c9 => ?_)
      · have hf := g_iff hf c9
        refine lv_aload_n hx hb dX9_most_61 rfl (lv_at hl 0 rfl) ?_
        refine lv_aload_n hx hb dX9_most_62 rfl (lv_at hl 0 rfl) ?_
        refine lv_iload_n hx hb dX9_most_63 rfl (lv_at hl 3 rfl) ?_
        obtain ⟨u10, h11, hf⟩ := g_bind hf
        refine g_vi (rest := [.ref (ga G 63)]) X E hP hS (tcX9_booked l G _ _ h11) (g_cwV X gX9_most_X9_booked rfl hdX9_booked ⟨Nat.le_of_ble_eq_true rfl, Nat.le_of_ble_eq_true rfl⟩) (rcM_model E hP) rfl hl.1 rfl (Nat.le_of_ble_eq_true rfl) dX9_most_64 ⟨Nat.le_refl _, Nat.le_refl _⟩ (fun H locs hP hS => ?_)
        obtain ⟨u12, h13, hf⟩ := g_bind hf
        refine g_vi (rest := []) X E hP hS (tcX9_abs l G _ _ h13) (g_cwV X gX9_most_X9_abs rfl hdX9_abs ⟨Nat.le_of_ble_eq_true rfl, Nat.le_of_ble_eq_true rfl⟩) (rcM_model E hP) rfl hl.1 rfl (Nat.le_of_ble_eq_true rfl) dX9_most_67 ⟨Nat.le_refl _, Nat.le_refl _⟩ (fun H locs hP hS => ?_)
        refine lv_aload_n hx hb dX9_most_70 rfl (lv_at hl 0 rfl) ?_
        refine lv_aload_n hx hb dX9_most_71 rfl (lv_at hl 0 rfl) ?_
        refine lv_iload_n hx hb dX9_most_72 rfl (lv_at hl 2 rfl) ?_
        obtain ⟨u14, h15, hf⟩ := g_bind hf
        refine g_vi (rest := [.ref (ga G 63), .int u12]) X E hP hS (tcX9_booked l G _ _ h15) (g_cwV X gX9_most_X9_booked rfl hdX9_booked ⟨Nat.le_of_ble_eq_true rfl, Nat.le_of_ble_eq_true rfl⟩) (rcM_model E hP) rfl hl.1 rfl (Nat.le_of_ble_eq_true rfl) dX9_most_73 ⟨Nat.le_refl _, Nat.le_refl _⟩ (fun H locs hP hS => ?_)
        obtain ⟨u16, h17, hf⟩ := g_bind hf
        refine g_vi (rest := [.int u12]) X E hP hS (tcX9_abs l G _ _ h17) (g_cwV X gX9_most_X9_abs rfl hdX9_abs ⟨Nat.le_of_ble_eq_true rfl, Nat.le_of_ble_eq_true rfl⟩) (rcM_model E hP) rfl hl.1 rfl (Nat.le_of_ble_eq_true rfl) dX9_most_76 ⟨Nat.le_refl _, Nat.le_refl _⟩ (fun H locs hP hS => ?_)
        refine lv_icmp_le (tgt := 84) hx hb dX9_most_79 (by decide) (fun c18 => ?_) (fun c18 => ?_)
        · have hf := g_ift hf c18
          refine lv_iinc (v := (v3 + 1)) (lv' := [(3, .int (v3 + 1)), (0, .ref (ga G 63)), (1, .int v1), (2, .int v2)]) hx hb dX9_most_84 hl (k := 3) rfl rfl (by decide) rfl (fun ls hl => ?_)
          refine lv_goto (tgt := 27) hx hb dX9_most_87 (by decide) ?_
          exact ih _ _ _ _ _ _ _ _ hf hP hS (lv_sub hl [1, 2, 3, 0] rfl) kk
        · have hf := g_iff hf c18
          refine lv_iload_n hx hb dX9_most_82 rfl (lv_at hl 3 rfl) ?_
          refine lv_istore_n (lv' := [(2, .int v3), (0, .ref (ga G 63)), (1, .int v1), (3, .int v3)]) hx hb dX9_most_83 rfl hl (by decide) rfl (fun ls hl => ?_)
          refine lv_iinc (v := (v3 + 1)) (lv' := [(3, .int (v3 + 1)), (2, .int v3), (0, .ref (ga G 63)), (1, .int v1)]) hx hb dX9_most_84 hl (k := 3) rfl rfl (by decide) rfl (fun ls hl => ?_)
          refine lv_goto (tgt := 27) hx hb dX9_most_87 (by decide) ?_
          exact ih _ _ _ _ _ _ _ _ hf hP hS (lv_sub hl [2, 3, 1, 0] rfl) kk
      · have hf := g_ift hf c9
        refine lv_aload_n hx hb dX9_most_39 rfl (lv_at hl 0 rfl) ?_
        refine lv_iload_n hx hb dX9_most_40 rfl (lv_at hl 3 rfl) ?_
        refine lv_iload_n hx hb dX9_most_41 rfl (lv_at hl 3 rfl) ?_
        refine lv_iconst (v := 1) hx hb dX9_most_42 (by decide) ?_
        refine lv_iadd hx hb dX9_most_43 ?_
        obtain ⟨u19, h20, hf⟩ := g_bind hf
        refine g_vi (rest := []) X E hP hS (tcX9_yards l G _ _ _ h20) (g_cwV X gX9_most_X9_yards rfl hdX9_yards ⟨Nat.le_of_ble_eq_true rfl, Nat.le_of_ble_eq_true rfl⟩) (rcM_model E hP) rfl hl.1 rfl (Nat.le_of_ble_eq_true rfl) dX9_most_44 ⟨Nat.le_refl _, Nat.le_refl _⟩ (fun H locs hP hS => ?_)
        refine lv_aload_n hx hb dX9_most_47 rfl (lv_at hl 0 rfl) ?_
        refine lv_iload_n hx hb dX9_most_48 rfl (lv_at hl 2 rfl) ?_
        refine lv_iload_n hx hb dX9_most_49 rfl (lv_at hl 2 rfl) ?_
        refine lv_iconst (v := 1) hx hb dX9_most_50 (by decide) ?_
        refine lv_iadd hx hb dX9_most_51 ?_
        obtain ⟨u21, h22, hf⟩ := g_bind hf
        refine g_vi (rest := [.int u19]) X E hP hS (tcX9_yards l G _ _ _ h22) (g_cwV X gX9_most_X9_yards rfl hdX9_yards ⟨Nat.le_of_ble_eq_true rfl, Nat.le_of_ble_eq_true rfl⟩) (rcM_model E hP) rfl hl.1 rfl (Nat.le_of_ble_eq_true rfl) dX9_most_52 ⟨Nat.le_refl _, Nat.le_refl _⟩ (fun H locs hP hS => ?_)
        refine lv_icmp_le (tgt := 84) hx hb dX9_most_55 (by decide) (fun c23 => ?_) (fun c23 => ?_)
        · have hf := g_ift hf c23
          refine lv_iinc (v := (v3 + 1)) (lv' := [(3, .int (v3 + 1)), (0, .ref (ga G 63)), (1, .int v1), (2, .int v2)]) hx hb dX9_most_84 hl (k := 3) rfl rfl (by decide) rfl (fun ls hl => ?_)
          refine lv_goto (tgt := 27) hx hb dX9_most_87 (by decide) ?_
          exact ih _ _ _ _ _ _ _ _ hf hP hS (lv_sub hl [1, 2, 3, 0] rfl) kk
        · have hf := g_iff hf c23
          refine lv_goto (tgt := 82) hx hb dX9_most_58 (by decide) ?_
          refine lv_iload_n hx hb dX9_most_82 rfl (lv_at hl 3 rfl) ?_
          refine lv_istore_n (lv' := [(2, .int v3), (0, .ref (ga G 63)), (1, .int v1), (3, .int v3)]) hx hb dX9_most_83 rfl hl (by decide) rfl (fun ls hl => ?_)
          refine lv_iinc (v := (v3 + 1)) (lv' := [(3, .int (v3 + 1)), (2, .int v3), (0, .ref (ga G 63)), (1, .int v1)]) hx hb dX9_most_84 hl (k := 3) rfl rfl (by decide) rfl (fun ls hl => ?_)
          refine lv_goto (tgt := 27) hx hb dX9_most_87 (by decide) ?_
          exact ih _ _ _ _ _ _ _ _ hf hP hS (lv_sub hl [2, 3, 1, 0] rfl) kk
def fX9_most (S : GS) (a1 : Int32) : Option (Int32 × GS) :=
  if (S.1 0) = 0 then
    (fX9_no S (-5 : Int32)).bind fun u2 =>
    some (u2.1, u2.2)
  else
    if a1 < 0 then
      (fX9_no S (-5 : Int32)).bind fun u5 =>
      some (u5.1, u5.2)
    else
      if a1 ≤ (1 : Int32) then
        (fX9_most_27 gFuel S a1 (0 : Int32) (1 : Int32)).bind fun u24 =>
        some (u24, S)
      else
        (fX9_no S (-5 : Int32)).bind fun u26 =>
        some (u26.1, u26.2)
set_option maxHeartbeats 4000000 in
set_option maxRecDepth 100000 in
theorem tcX9_most (l : Launch) (G : GP) (S : GS) (a1 : Int32) {R : (Int32 × GS)} (hf : fX9_most S a1 = some R) : CI l yX9_most wsX9_most 1 24 [.ref (ga G 63), .int a1] WM G S R.1 R.2 := by
  refine g_met RX9 (cc := cX9_most) (nL := 4) (ret := (some .int)) (by decide) rfl rfl (Nat.le_of_ble_eq_true rfl) ?_
  intro p e s m below meth c ls X E hP hS hl
  have hl : lv_has ls 4 [(0, .ref (ga G 63)), (1, .int a1)] := hl
  obtain ⟨hx, hb, -, -, hown, hts, -⟩ := id X
  rw [fX9_most] at hf
  refine lv_aload_n hx hb dX9_most_0 rfl (lv_at hl 0 rfl) ?_
  refine ggM_0 X E hP inX9_most_X9 lkX9_most_0 dX9_most_1 ?_
  refine lv_if_eq (tgt := 16) hx hb dX9_most_4 (by decide) (fun c1 => ?_) (fun c1 => ?_)
  · have hf := g_ift hf c1
    refine lv_aload_n hx hb dX9_most_16 rfl (lv_at hl 0 rfl) ?_
    refine lv_bipush (v := -5) hx hb dX9_most_17 (by decide) ?_
    obtain ⟨u2, h3, hf⟩ := g_bind hf
    refine g_vi (rest := []) X E hP hS (tcX9_no l G _ _ h3) (g_cwV X gX9_most_X9_no rfl hdX9_no ⟨Nat.le_of_ble_eq_true rfl, Nat.le_of_ble_eq_true rfl⟩) (rcM_model E hP) rfl hl.1 rfl (Nat.le_of_ble_eq_true rfl) dX9_most_19 ⟨Nat.le_refl _, Nat.le_refl _⟩ (fun H locs hP hS => ?_)
    obtain rfl := g_some hf
    exact g_ri X E hP hS dX9_most_22
  · have hf := g_iff hf c1
    refine lv_iload_n hx hb dX9_most_7 rfl (lv_at hl 1 rfl) ?_
    refine lv_if_lt (tgt := 16) hx hb dX9_most_8 (by decide) (fun c4 => ?_) (fun c4 => ?_)
    · have hf := g_ift hf c4
      refine lv_aload_n hx hb dX9_most_16 rfl (lv_at hl 0 rfl) ?_
      refine lv_bipush (v := -5) hx hb dX9_most_17 (by decide) ?_
      obtain ⟨u5, h6, hf⟩ := g_bind hf
      refine g_vi (rest := []) X E hP hS (tcX9_no l G _ _ h6) (g_cwV X gX9_most_X9_no rfl hdX9_no ⟨Nat.le_of_ble_eq_true rfl, Nat.le_of_ble_eq_true rfl⟩) (rcM_model E hP) rfl hl.1 rfl (Nat.le_of_ble_eq_true rfl) dX9_most_19 ⟨Nat.le_refl _, Nat.le_refl _⟩ (fun H locs hP hS => ?_)
      obtain rfl := g_some hf
      exact g_ri X E hP hS dX9_most_22
    · have hf := g_iff hf c4
      refine lv_iload_n hx hb dX9_most_11 rfl (lv_at hl 1 rfl) ?_
      refine lv_iconst (v := 1) hx hb dX9_most_12 (by decide) ?_
      refine lv_icmp_le (tgt := 23) hx hb dX9_most_13 (by decide) (fun c7 => ?_) (fun c7 => ?_)
      · have hf := g_ift hf c7
        refine lv_iconst (v := 0) hx hb dX9_most_23 (by decide) ?_
        refine lv_istore_n (lv' := [(2, .int (0 : Int32)), (0, .ref (ga G 63)), (1, .int a1)]) hx hb dX9_most_24 rfl hl (by decide) rfl (fun ls hl => ?_)
        refine lv_iconst (v := 1) hx hb dX9_most_25 (by decide) ?_
        refine lv_istore_n (lv' := [(3, .int (1 : Int32)), (2, .int (0 : Int32)), (0, .ref (ga G 63)), (1, .int a1)]) hx hb dX9_most_26 rfl hl (by decide) rfl (fun ls hl => ?_)
        obtain ⟨u24, h25, hf⟩ := g_bind hf
        refine bX9_most_27 X E gFuel _ _ _ _ u24 _ _ _ h25 hP hS (lv_sub hl [2, 3, 1, 0] rfl) (fun H locs ls hP hS hl => ?_)
        have hl : lv_has ls 4 [(2, .int u24)] := hl
        refine lv_iload_n hx hb dX9_most_90 rfl (lv_at hl 0 rfl) ?_
        obtain rfl := g_some hf
        exact g_ri X E hP hS dX9_most_91
      · have hf := g_iff hf c7
        refine lv_aload_n hx hb dX9_most_16 rfl (lv_at hl 0 rfl) ?_
        refine lv_bipush (v := -5) hx hb dX9_most_17 (by decide) ?_
        obtain ⟨u26, h27, hf⟩ := g_bind hf
        refine g_vi (rest := []) X E hP hS (tcX9_no l G _ _ h27) (g_cwV X gX9_most_X9_no rfl hdX9_no ⟨Nat.le_of_ble_eq_true rfl, Nat.le_of_ble_eq_true rfl⟩) (rcM_model E hP) rfl hl.1 rfl (Nat.le_of_ble_eq_true rfl) dX9_most_19 ⟨Nat.le_refl _, Nat.le_refl _⟩ (fun H locs hP hS => ?_)
        obtain rfl := g_some hf
        exact g_ri X E hP hS dX9_most_22
theorem lkX9_hours_0 : Cond.fieldLink RX9 91 RX9 "many" "I" ∈ wsX9_hours := by decide +kernel
theorem inX9_hours_X9 : ∀ w ∈ wsX90, w ∈ wsX9_hours := by decide +kernel
def fX9_hours (S : GS)  : Option Int32 :=
  (fX9_yards S (0 : Int32) (S.1 0)).bind fun u1 =>
  some (((u1 + ((10 : Int32) * (S.1 0))) + (59 : Int32)) / (60 : Int32))
set_option maxHeartbeats 4000000 in
set_option maxRecDepth 100000 in
theorem tcX9_hours (l : Launch) (G : GP) (S : GS)  {R : Int32} (hf : fX9_hours S  = some R) : CI l yX9_hours wsX9_hours 1 24 [.ref (ga G 63)] WM G S R S := by
  refine g_met RX9 (cc := cX9_hours) (nL := 1) (ret := (some .int)) (by decide) rfl rfl (Nat.le_of_ble_eq_true rfl) ?_
  intro p e s m below meth c ls X E hP hS hl
  have hl : lv_has ls 1 [(0, .ref (ga G 63))] := hl
  obtain ⟨hx, hb, -, -, hown, hts, -⟩ := id X
  rw [fX9_hours] at hf
  refine lv_aload_n hx hb dX9_hours_0 rfl (lv_at hl 0 rfl) ?_
  refine lv_iconst (v := 0) hx hb dX9_hours_1 (by decide) ?_
  refine lv_aload_n hx hb dX9_hours_2 rfl (lv_at hl 0 rfl) ?_
  refine ggM_0 X E hP inX9_hours_X9 lkX9_hours_0 dX9_hours_3 ?_
  obtain ⟨u1, h2, hf⟩ := g_bind hf
  refine g_vi (rest := []) X E hP hS (tcX9_yards l G _ _ _ h2) (g_cwV X gX9_hours_X9_yards rfl hdX9_yards ⟨Nat.le_of_ble_eq_true rfl, Nat.le_of_ble_eq_true rfl⟩) (rcM_model E hP) rfl hl.1 rfl (Nat.le_of_ble_eq_true rfl) dX9_hours_6 ⟨Nat.le_refl _, Nat.le_refl _⟩ (fun H locs hP hS => ?_)
  refine lv_bipush (v := 10) hx hb dX9_hours_9 (by decide) ?_
  refine lv_aload_n hx hb dX9_hours_11 rfl (lv_at hl 0 rfl) ?_
  refine ggM_0 X E hP inX9_hours_X9 lkX9_hours_0 dX9_hours_12 ?_
  refine lv_imul hx hb dX9_hours_15 ?_
  refine lv_iadd hx hb dX9_hours_16 ?_
  refine lv_bipush (v := 59) hx hb dX9_hours_17 (by decide) ?_
  refine lv_iadd hx hb dX9_hours_19 ?_
  refine lv_bipush (v := 60) hx hb dX9_hours_20 (by decide) ?_
  refine lv_idiv hx hb dX9_hours_22 (by decide) ?_
  obtain rfl := g_some hf
  exact g_ri X E hP hS dX9_hours_23
theorem lkX9_barsOf_0 : Cond.fieldLink RX9 56 RX9 "size" "[I" ∈ wsX9_barsOf := by decide +kernel
theorem inX9_barsOf_X9 : ∀ w ∈ wsX90, w ∈ wsX9_barsOf := by decide +kernel
def fX9_barsOf (S : GS) (a1 : Int32) (a2 : Int32) : Option Int32 :=
  (fX9_wanted S a1).bind fun u1 =>
  if u1 = 0 then
    if 0 ≤ a2 then
      if a1 < 0 ∨ 8 ≤ (a1).toNatClampNeg then none else
      if a2 ≤ ((S.2.2.1 17 (a1).toNatClampNeg) / (4 : Int32)) then
        if a2 ≤ (16 : Int32) then
          some (0 : Int32)
        else
          some (-6 : Int32)
      else
        some (-5 : Int32)
    else
      some (-4 : Int32)
  else
    some u1
set_option maxHeartbeats 4000000 in
set_option maxRecDepth 100000 in
theorem tcX9_barsOf (l : Launch) (G : GP) (S : GS) (a1 : Int32) (a2 : Int32) {R : Int32} (hf : fX9_barsOf S a1 a2 = some R) : CI l yX9_barsOf wsX9_barsOf 2 42 [.ref (ga G 63), .int a1, .int a2] WM G S R S := by
  refine g_met RX9 (cc := cX9_barsOf) (nL := 4) (ret := (some .int)) (by decide) rfl rfl (Nat.le_of_ble_eq_true rfl) ?_
  intro p e s m below meth c ls X E hP hS hl
  have hl : lv_has ls 4 [(0, .ref (ga G 63)), (1, .int a1), (2, .int a2)] := hl
  obtain ⟨hx, hb, -, -, hown, hts, -⟩ := id X
  rw [fX9_barsOf] at hf
  refine lv_aload_n hx hb dX9_barsOf_0 rfl (lv_at hl 0 rfl) ?_
  refine lv_iload_n hx hb dX9_barsOf_1 rfl (lv_at hl 1 rfl) ?_
  obtain ⟨u1, h2, hf⟩ := g_bind hf
  refine g_vi (rest := []) X E hP hS (tcX9_wanted l G _ _ h2) (g_cwV X gX9_barsOf_X9_wanted rfl hdX9_wanted ⟨Nat.le_of_ble_eq_true rfl, Nat.le_of_ble_eq_true rfl⟩) (rcM_model E hP) rfl hl.1 rfl (Nat.le_of_ble_eq_true rfl) dX9_barsOf_2 ⟨Nat.le_refl _, Nat.le_refl _⟩ (fun H locs hP hS => ?_)
  refine lv_istore_n (lv' := [(3, .int u1), (0, .ref (ga G 63)), (1, .int a1), (2, .int a2)]) hx hb dX9_barsOf_5 rfl hl (by decide) rfl (fun ls hl => ?_)
  refine lv_iload_n hx hb dX9_barsOf_6 rfl (lv_at hl 0 rfl) ?_
  refine lv_if_eq (tgt := 12) hx hb dX9_barsOf_7 (by decide) (fun c3 => ?_) (fun c3 => ?_)
  · have hf := g_ift hf c3
    refine lv_iload_n hx hb dX9_barsOf_12 rfl (lv_at hl 3 rfl) ?_
    refine lv_if_ge (tgt := 21) hx hb dX9_barsOf_13 (by decide) (fun c4 => ?_) (fun c4 => ?_)
    · have hf := g_ift hf c4
      refine lv_iload_n hx hb dX9_barsOf_21 rfl (lv_at hl 3 rfl) ?_
      refine lv_aload_n hx hb dX9_barsOf_22 rfl (lv_at hl 1 rfl) ?_
      refine ggM_17 X E hP inX9_barsOf_X9 lkX9_barsOf_0 dX9_barsOf_23 ?_
      refine lv_iload_n hx hb dX9_barsOf_26 rfl (lv_at hl 2 rfl) ?_
      obtain ⟨b5, hf⟩ := g_if hf
      refine giM_17 X E hP b5 dX9_barsOf_27 ?_
      refine lv_iconst (v := 4) hx hb dX9_barsOf_28 (by decide) ?_
      refine lv_idiv hx hb dX9_barsOf_29 (by decide) ?_
      refine lv_icmp_le (tgt := 38) hx hb dX9_barsOf_30 (by decide) (fun c6 => ?_) (fun c6 => ?_)
      · have hf := g_ift hf c6
        refine lv_iload_n hx hb dX9_barsOf_38 rfl (lv_at hl 3 rfl) ?_
        refine lv_bipush (v := 16) hx hb dX9_barsOf_39 (by decide) ?_
        refine lv_icmp_le (tgt := 49) hx hb dX9_barsOf_41 (by decide) (fun c7 => ?_) (fun c7 => ?_)
        · have hf := g_ift hf c7
          refine lv_iconst (v := 0) hx hb dX9_barsOf_49 (by decide) ?_
          obtain rfl := g_some hf
          exact g_ri X E hP hS dX9_barsOf_50
        · have hf := g_iff hf c7
          refine lv_bipush (v := -6) hx hb dX9_barsOf_44 (by decide) ?_
          refine lv_goto (tgt := 50) hx hb dX9_barsOf_46 (by decide) ?_
          obtain rfl := g_some hf
          exact g_ri X E hP hS dX9_barsOf_50
      · have hf := g_iff hf c6
        refine lv_bipush (v := -5) hx hb dX9_barsOf_33 (by decide) ?_
        refine lv_goto (tgt := 50) hx hb dX9_barsOf_35 (by decide) ?_
        obtain rfl := g_some hf
        exact g_ri X E hP hS dX9_barsOf_50
    · have hf := g_iff hf c4
      refine lv_bipush (v := -4) hx hb dX9_barsOf_16 (by decide) ?_
      refine lv_goto (tgt := 50) hx hb dX9_barsOf_18 (by decide) ?_
      obtain rfl := g_some hf
      exact g_ri X E hP hS dX9_barsOf_50
  · have hf := g_iff hf c3
    refine lv_iload_n hx hb dX9_barsOf_10 rfl (lv_at hl 0 rfl) ?_
    obtain rfl := g_some hf
    exact g_ri X E hP hS dX9_barsOf_11
def fX9_wrongIn_2 : Nat → GS → Int32 → Int32 → Int32 → Option Int32
  | 0, _, _, _, _ => none
  | fu + 1, S, v1, v2, v3 =>
    if ((4 : Int32) * v2) ≤ v3 then
      some (-1 : Int32)
    else
      if (2 : Int32) ≤ (v3 - v3 / (4 : Int32) * (4 : Int32)) then
        (fX9_intAt S v1 v3).bind fun u3 =>
        (fX9_isYards S u3).bind fun u5 =>
        if u5 = 0 then
          some v3
        else
          fX9_wrongIn_2 fu S v1 v2 (v3 + 1)
      else
        (fX9_intAt S v1 v3).bind fun u8 =>
        (fX9_isReading S u8).bind fun u10 =>
        if u10 = 0 then
          some v3
        else
          fX9_wrongIn_2 fu S v1 v2 (v3 + 1)
set_option maxHeartbeats 4000000 in
set_option maxRecDepth 100000 in
theorem bX9_wrongIn_2 {p : Program} {l : Launch} {e : Env} {s : State} {m : MethodId} {args : Array Value} {below : List Frame} {meth : Method} {c : Code} {G : GP} (X : GX p s m meth c args cX9_wrongIn 4 (some .int) wsX9_wrongIn RX9) (E : gE WM G s)  : ∀ (fu : Nat) (S : GS) (v1 : Int32) (v2 : Int32) (v3 : Int32) (R : Int32) (H : Heap) (locs : List Loc) (ls : Array Slot) (_ : fX9_wrongIn_2 fu S v1 v2 v3 = some R) (_ : va_P (gD G) vwCl (WM G S ++ gF G) H) (_ : va_S (gA G) s.heap H locs) (_ : lv_has ls 4 [(0, .ref (ga G 63)), (1, .int v1), (2, .int v2), (3, .int v3)]), W p l e (gR 1 22) s m args below meth c H locs 0 0 (MQ below (gQi WM G R S) args s 0 0 (gA G)) (F0 m 2 ls []) := by
  obtain ⟨hx, hb, -, -, hown, hts, -⟩ := id X
  intro fu
  induction fu with
  | zero =>
    intro S v1 v2 v3 R H locs ls hf
    cases (show (none : Option Int32) = some R from hf)
  | succ fu ih =>
    intro S v1 v2 v3 R H locs ls hf hP hS hl
    rw [fX9_wrongIn_2] at hf
    refine lv_iload_n hx hb dX9_wrongIn_2 rfl (lv_at hl 3 rfl) ?_
    refine lv_iconst (v := 4) hx hb dX9_wrongIn_3 (by decide) ?_
    refine lv_iload_n hx hb dX9_wrongIn_4 rfl (lv_at hl 2 rfl) ?_
    refine lv_imul hx hb dX9_wrongIn_5 ?_
    refine lv_icmp_ge (tgt := 53) hx hb dX9_wrongIn_6 (by decide) (fun c1 => ?_) (fun c1 => ?_)
    · have hf := g_ift hf c1
      refine lv_iconst (v := -1) hx hb dX9_wrongIn_53 (by decide) ?_
      obtain rfl := g_some hf
      exact g_ri X E hP hS dX9_wrongIn_54
    · have hf := g_iff hf c1
      refine lv_iload_n hx hb dX9_wrongIn_9 rfl (lv_at hl 3 rfl) ?_
      refine lv_iconst (v := 4) hx hb dX9_wrongIn_10 (by decide) ?_
      refine lv_irem hx hb dX9_wrongIn_11 (by decide) ?_
      refine lv_iconst (v := 2) hx hb dX9_wrongIn_12 (by decide) ?_
      refine lv_icmp_ge (tgt := 32) hx hb dX9_wrongIn_13 (by decide) (fun c2 => ?_) (fun c2 => ?_)
      · have hf := g_ift hf c2
        refine lv_aload_n hx hb dX9_wrongIn_32 rfl (lv_at hl 0 rfl) ?_
        refine lv_aload_n hx hb dX9_wrongIn_33 rfl (lv_at hl 0 rfl) ?_
        refine lv_iload_n hx hb dX9_wrongIn_34 rfl (lv_at hl 1 rfl) ?_
        refine lv_iload_n hx hb dX9_wrongIn_35 rfl (lv_at hl 3 rfl) ?_
        obtain ⟨u3, h4, hf⟩ := g_bind hf
        refine g_vi (rest := [.ref (ga G 63)]) X E hP hS (tcX9_intAt l G _ _ _ h4) (g_cwV X gX9_wrongIn_X9_intAt rfl hdX9_intAt ⟨Nat.le_of_ble_eq_true rfl, Nat.le_of_ble_eq_true rfl⟩) (rcM_model E hP) rfl hl.1 rfl (Nat.le_of_ble_eq_true rfl) dX9_wrongIn_36 ⟨Nat.le_refl _, Nat.le_refl _⟩ (fun H locs hP hS => ?_)
        obtain ⟨u5, h6, hf⟩ := g_bind hf
        refine g_vi (rest := []) X E hP hS (tcX9_isYards l G _ _ h6) (g_cwV X gX9_wrongIn_X9_isYards rfl hdX9_isYards ⟨Nat.le_of_ble_eq_true rfl, Nat.le_of_ble_eq_true rfl⟩) (rcM_model E hP) rfl hl.1 rfl (Nat.le_of_ble_eq_true rfl) dX9_wrongIn_39 ⟨Nat.le_refl _, Nat.le_refl _⟩ (fun H locs hP hS => ?_)
        refine lv_if_ne (tgt := 47) hx hb dX9_wrongIn_42 (by decide) (fun c7 => ?_) (fun c7 => ?_)
        · have hf := g_iff hf c7
          refine lv_iinc (v := (v3 + 1)) (lv' := [(3, .int (v3 + 1)), (0, .ref (ga G 63)), (1, .int v1), (2, .int v2)]) hx hb dX9_wrongIn_47 hl (k := 3) rfl rfl (by decide) rfl (fun ls hl => ?_)
          refine lv_goto (tgt := 2) hx hb dX9_wrongIn_50 (by decide) ?_
          exact ih _ _ _ _ _ _ _ _ hf hP hS (lv_sub hl [1, 2, 3, 0] rfl)
        · have hf := g_ift hf c7
          refine lv_iload_n hx hb dX9_wrongIn_45 rfl (lv_at hl 3 rfl) ?_
          obtain rfl := g_some hf
          exact g_ri X E hP hS dX9_wrongIn_46
      · have hf := g_iff hf c2
        refine lv_aload_n hx hb dX9_wrongIn_16 rfl (lv_at hl 0 rfl) ?_
        refine lv_aload_n hx hb dX9_wrongIn_17 rfl (lv_at hl 0 rfl) ?_
        refine lv_iload_n hx hb dX9_wrongIn_18 rfl (lv_at hl 1 rfl) ?_
        refine lv_iload_n hx hb dX9_wrongIn_19 rfl (lv_at hl 3 rfl) ?_
        obtain ⟨u8, h9, hf⟩ := g_bind hf
        refine g_vi (rest := [.ref (ga G 63)]) X E hP hS (tcX9_intAt l G _ _ _ h9) (g_cwV X gX9_wrongIn_X9_intAt rfl hdX9_intAt ⟨Nat.le_of_ble_eq_true rfl, Nat.le_of_ble_eq_true rfl⟩) (rcM_model E hP) rfl hl.1 rfl (Nat.le_of_ble_eq_true rfl) dX9_wrongIn_20 ⟨Nat.le_refl _, Nat.le_refl _⟩ (fun H locs hP hS => ?_)
        obtain ⟨u10, h11, hf⟩ := g_bind hf
        refine g_vi (rest := []) X E hP hS (tcX9_isReading l G _ _ h11) (g_cwV X gX9_wrongIn_X9_isReading rfl hdX9_isReading ⟨Nat.le_of_ble_eq_true rfl, Nat.le_of_ble_eq_true rfl⟩) (rcM_model E hP) rfl hl.1 rfl (Nat.le_of_ble_eq_true rfl) dX9_wrongIn_23 ⟨Nat.le_refl _, Nat.le_refl _⟩ (fun H locs hP hS => ?_)
        refine lv_if_ne (tgt := 47) hx hb dX9_wrongIn_26 (by decide) (fun c12 => ?_) (fun c12 => ?_)
        · have hf := g_iff hf c12
          refine lv_iinc (v := (v3 + 1)) (lv' := [(3, .int (v3 + 1)), (0, .ref (ga G 63)), (1, .int v1), (2, .int v2)]) hx hb dX9_wrongIn_47 hl (k := 3) rfl rfl (by decide) rfl (fun ls hl => ?_)
          refine lv_goto (tgt := 2) hx hb dX9_wrongIn_50 (by decide) ?_
          exact ih _ _ _ _ _ _ _ _ hf hP hS (lv_sub hl [1, 2, 3, 0] rfl)
        · have hf := g_ift hf c12
          refine lv_goto (tgt := 45) hx hb dX9_wrongIn_29 (by decide) ?_
          refine lv_iload_n hx hb dX9_wrongIn_45 rfl (lv_at hl 3 rfl) ?_
          obtain rfl := g_some hf
          exact g_ri X E hP hS dX9_wrongIn_46
def fX9_wrongIn (S : GS) (a1 : Int32) (a2 : Int32) : Option Int32 :=
  fX9_wrongIn_2 gFuel S a1 a2 (0 : Int32)
set_option maxHeartbeats 4000000 in
set_option maxRecDepth 100000 in
theorem tcX9_wrongIn (l : Launch) (G : GP) (S : GS) (a1 : Int32) (a2 : Int32) {R : Int32} (hf : fX9_wrongIn S a1 a2 = some R) : CI l yX9_wrongIn wsX9_wrongIn 1 22 [.ref (ga G 63), .int a1, .int a2] WM G S R S := by
  refine g_met RX9 (cc := cX9_wrongIn) (nL := 4) (ret := (some .int)) (by decide) rfl rfl (Nat.le_of_ble_eq_true rfl) ?_
  intro p e s m below meth c ls X E hP hS hl
  have hl : lv_has ls 4 [(0, .ref (ga G 63)), (1, .int a1), (2, .int a2)] := hl
  obtain ⟨hx, hb, -, -, hown, hts, -⟩ := id X
  rw [fX9_wrongIn] at hf
  refine lv_iconst (v := 0) hx hb dX9_wrongIn_0 (by decide) ?_
  refine lv_istore_n (lv' := [(3, .int (0 : Int32)), (0, .ref (ga G 63)), (1, .int a1), (2, .int a2)]) hx hb dX9_wrongIn_1 rfl hl (by decide) rfl (fun ls hl => ?_)
  exact bX9_wrongIn_2 X E gFuel _ _ _ _ _ _ _ _ hf hP hS (lv_sub hl [1, 2, 3, 0] rfl)
def fX9_judge (S : GS) (a1 : Int32) (a2 : Int32) : Option (Int32 × GS) :=
  (fX9_barsOf S a1 a2).bind fun u1 =>
  if u1 = 0 then
    (fX9_wrongIn S a1 a2).bind fun u4 =>
    some (u4, S)
  else
    (fX9_noTen S u1).bind fun u6 =>
    some (u6.1, u6.2)
set_option maxHeartbeats 4000000 in
set_option maxRecDepth 100000 in
theorem tcX9_judge (l : Launch) (G : GP) (S : GS) (a1 : Int32) (a2 : Int32) {R : (Int32 × GS)} (hf : fX9_judge S a1 a2 = some R) : CI l yX9_judge wsX9_judge 3 65 [.ref (ga G 63), .int a1, .int a2] WM G S R.1 R.2 := by
  refine g_met RX9 (cc := cX9_judge) (nL := 4) (ret := (some .int)) (by decide) rfl rfl (Nat.le_of_ble_eq_true rfl) ?_
  intro p e s m below meth c ls X E hP hS hl
  have hl : lv_has ls 4 [(0, .ref (ga G 63)), (1, .int a1), (2, .int a2)] := hl
  obtain ⟨hx, hb, -, -, hown, hts, -⟩ := id X
  rw [fX9_judge] at hf
  refine lv_aload_n hx hb dX9_judge_0 rfl (lv_at hl 0 rfl) ?_
  refine lv_iload_n hx hb dX9_judge_1 rfl (lv_at hl 1 rfl) ?_
  refine lv_iload_n hx hb dX9_judge_2 rfl (lv_at hl 2 rfl) ?_
  obtain ⟨u1, h2, hf⟩ := g_bind hf
  refine g_vi (rest := []) X E hP hS (tcX9_barsOf l G _ _ _ h2) (g_cwV X gX9_judge_X9_barsOf rfl hdX9_barsOf ⟨Nat.le_of_ble_eq_true rfl, Nat.le_of_ble_eq_true rfl⟩) (rcM_model E hP) rfl hl.1 rfl (Nat.le_of_ble_eq_true rfl) dX9_judge_3 ⟨Nat.le_refl _, Nat.le_refl _⟩ (fun H locs hP hS => ?_)
  refine lv_istore_n (lv' := [(3, .int u1), (0, .ref (ga G 63)), (1, .int a1), (2, .int a2)]) hx hb dX9_judge_6 rfl hl (by decide) rfl (fun ls hl => ?_)
  refine lv_iload_n hx hb dX9_judge_7 rfl (lv_at hl 0 rfl) ?_
  refine lv_if_eq (tgt := 19) hx hb dX9_judge_8 (by decide) (fun c3 => ?_) (fun c3 => ?_)
  · have hf := g_ift hf c3
    refine lv_aload_n hx hb dX9_judge_19 rfl (lv_at hl 1 rfl) ?_
    refine lv_iload_n hx hb dX9_judge_20 rfl (lv_at hl 2 rfl) ?_
    refine lv_iload_n hx hb dX9_judge_21 rfl (lv_at hl 3 rfl) ?_
    obtain ⟨u4, h5, hf⟩ := g_bind hf
    refine g_vi (rest := []) X E hP hS (tcX9_wrongIn l G _ _ _ h5) (g_cwV X gX9_judge_X9_wrongIn rfl hdX9_wrongIn ⟨Nat.le_of_ble_eq_true rfl, Nat.le_of_ble_eq_true rfl⟩) (rcM_model E hP) rfl hl.1 rfl (Nat.le_of_ble_eq_true rfl) dX9_judge_22 ⟨Nat.le_refl _, Nat.le_refl _⟩ (fun H locs hP hS => ?_)
    obtain rfl := g_some hf
    exact g_ri X E hP hS dX9_judge_25
  · have hf := g_iff hf c3
    refine lv_aload_n hx hb dX9_judge_11 rfl (lv_at hl 1 rfl) ?_
    refine lv_iload_n hx hb dX9_judge_12 rfl (lv_at hl 0 rfl) ?_
    obtain ⟨u6, h7, hf⟩ := g_bind hf
    refine g_vi (rest := []) X E hP hS (tcX9_noTen l G _ _ h7) (g_cwV X gX9_judge_X9_noTen rfl hdX9_noTen ⟨Nat.le_of_ble_eq_true rfl, Nat.le_of_ble_eq_true rfl⟩) (rcM_model E hP) rfl hl.1 rfl (Nat.le_of_ble_eq_true rfl) dX9_judge_13 ⟨Nat.le_refl _, Nat.le_refl _⟩ (fun H locs hP hS => ?_)
    refine lv_goto (tgt := 25) hx hb dX9_judge_16 (by decide) ?_
    obtain rfl := g_some hf
    exact g_ri X E hP hS dX9_judge_25
def fX9_barsRight (S : GS) (a1 : Int32) (a2 : Int32) : Option Int32 :=
  (fX9_barsOf S a1 a2).bind fun u1 =>
  if u1 = 0 then
    (fX9_wrongIn S a1 a2).bind fun u4 =>
    if u4 = (-1 : Int32) then
      some u1
    else
      some (-6 : Int32)
  else
    some u1
set_option maxHeartbeats 4000000 in
set_option maxRecDepth 100000 in
theorem tcX9_barsRight (l : Launch) (G : GP) (S : GS) (a1 : Int32) (a2 : Int32) {R : Int32} (hf : fX9_barsRight S a1 a2 = some R) : CI l yX9_barsRight wsX9_barsRight 3 65 [.ref (ga G 63), .int a1, .int a2] WM G S R S := by
  refine g_met RX9 (cc := cX9_barsRight) (nL := 4) (ret := (some .int)) (by decide) rfl rfl (Nat.le_of_ble_eq_true rfl) ?_
  intro p e s m below meth c ls X E hP hS hl
  have hl : lv_has ls 4 [(0, .ref (ga G 63)), (1, .int a1), (2, .int a2)] := hl
  obtain ⟨hx, hb, -, -, hown, hts, -⟩ := id X
  rw [fX9_barsRight] at hf
  refine lv_aload_n hx hb dX9_barsRight_0 rfl (lv_at hl 0 rfl) ?_
  refine lv_iload_n hx hb dX9_barsRight_1 rfl (lv_at hl 1 rfl) ?_
  refine lv_iload_n hx hb dX9_barsRight_2 rfl (lv_at hl 2 rfl) ?_
  obtain ⟨u1, h2, hf⟩ := g_bind hf
  refine g_vi (rest := []) X E hP hS (tcX9_barsOf l G _ _ _ h2) (g_cwV X gX9_barsRight_X9_barsOf rfl hdX9_barsOf ⟨Nat.le_of_ble_eq_true rfl, Nat.le_of_ble_eq_true rfl⟩) (rcM_model E hP) rfl hl.1 rfl (Nat.le_of_ble_eq_true rfl) dX9_barsRight_3 ⟨Nat.le_refl _, Nat.le_refl _⟩ (fun H locs hP hS => ?_)
  refine lv_istore_n (lv' := [(3, .int u1), (0, .ref (ga G 63)), (1, .int a1), (2, .int a2)]) hx hb dX9_barsRight_6 rfl hl (by decide) rfl (fun ls hl => ?_)
  refine lv_iload_n hx hb dX9_barsRight_7 rfl (lv_at hl 0 rfl) ?_
  refine lv_if_ne (tgt := 26) hx hb dX9_barsRight_8 (by decide) (fun c3 => ?_) (fun c3 => ?_)
  · have hf := g_iff hf c3
    refine lv_iload_n hx hb dX9_barsRight_26 rfl (lv_at hl 0 rfl) ?_
    obtain rfl := g_some hf
    exact g_ri X E hP hS dX9_barsRight_27
  · have hf := g_ift hf c3
    refine lv_aload_n hx hb dX9_barsRight_11 rfl (lv_at hl 1 rfl) ?_
    refine lv_iload_n hx hb dX9_barsRight_12 rfl (lv_at hl 2 rfl) ?_
    refine lv_iload_n hx hb dX9_barsRight_13 rfl (lv_at hl 3 rfl) ?_
    obtain ⟨u4, h5, hf⟩ := g_bind hf
    refine g_vi (rest := []) X E hP hS (tcX9_wrongIn l G _ _ _ h5) (g_cwV X gX9_barsRight_X9_wrongIn rfl hdX9_wrongIn ⟨Nat.le_of_ble_eq_true rfl, Nat.le_of_ble_eq_true rfl⟩) (rcM_model E hP) rfl hl.1 rfl (Nat.le_of_ble_eq_true rfl) dX9_barsRight_14 ⟨Nat.le_refl _, Nat.le_refl _⟩ (fun H locs hP hS => ?_)
    refine lv_iconst (v := -1) hx hb dX9_barsRight_17 (by decide) ?_
    refine lv_icmp_eq (tgt := 26) hx hb dX9_barsRight_18 (by decide) (fun c6 => ?_) (fun c6 => ?_)
    · have hf := g_ift hf c6
      refine lv_iload_n hx hb dX9_barsRight_26 rfl (lv_at hl 0 rfl) ?_
      obtain rfl := g_some hf
      exact g_ri X E hP hS dX9_barsRight_27
    · have hf := g_iff hf c6
      refine lv_bipush (v := -6) hx hb dX9_barsRight_21 (by decide) ?_
      refine lv_goto (tgt := 27) hx hb dX9_barsRight_23 (by decide) ?_
      obtain rfl := g_some hf
      exact g_ri X E hP hS dX9_barsRight_27
def fX9_closes_23 : Nat → GS → Int32 → Int32 → Int32 → Int32 → Option Int32
  | 0, _, _, _, _, _ => none
  | fu + 1, S, v1, v2, v4, v5 =>
    if v2 ≤ v5 then
      some v4
    else
      (fX9_intAt S v1 ((4 : Int32) * v5)).bind fun u5 =>
      (fX9_intAt S v1 (((4 : Int32) * v5) + (1 : Int32))).bind fun u7 =>
      fX9_closes_23 fu S v1 v2 (v4 + (u5 - u7)) (v5 + 1)
set_option maxHeartbeats 4000000 in
set_option maxRecDepth 100000 in
theorem bX9_closes_23 {p : Program} {l : Launch} {e : Env} {s : State} {m : MethodId} {args : Array Value} {below : List Frame} {meth : Method} {c : Code} {Q : State → Prop} {G : GP} (X : GX p s m meth c args cX9_closes 6 (some .int) wsX9_closes RX9) (E : gE WM G s)  : ∀ (fu : Nat) (S : GS) (v1 : Int32) (v2 : Int32) (v4 : Int32) (v5 : Int32) (R : Int32) (H : Heap) (locs : List Loc) (ls : Array Slot) (_ : fX9_closes_23 fu S v1 v2 v4 v5 = some R) (_ : va_P (gD G) vwCl (WM G S ++ gF G) H) (_ : va_S (gA G) s.heap H locs) (_ : lv_has ls 6 [(0, .ref (ga G 63)), (1, .int v1), (2, .int v2), (4, .int v4), (5, .int v5)]) (_ : ∀ (H : Heap) (locs : List Loc) (ls : Array Slot), va_P (gD G) vwCl (WM G S ++ gF G) H → va_S (gA G) s.heap H locs → lv_has ls 6 [(4, .int R)] → W p l e (gR 4 88) s m args below meth c H locs 0 0 Q (F0 m 61 ls [])), W p l e (gR 4 88) s m args below meth c H locs 0 0 Q (F0 m 23 ls []) := by
  obtain ⟨hx, hb, -, -, hown, hts, -⟩ := id X
  intro fu
  induction fu with
  | zero =>
    intro S v1 v2 v4 v5 R H locs ls hf
    cases (show (none : Option Int32) = some R from hf)
  | succ fu ih =>
    intro S v1 v2 v4 v5 R H locs ls hf hP hS hl kk
    rw [fX9_closes_23] at hf
    refine lv_iload hx hb dX9_closes_23 (lv_at hl 4 rfl) ?_
    refine lv_iload_n hx hb dX9_closes_25 rfl (lv_at hl 2 rfl) ?_
    refine lv_icmp_ge (tgt := 61) hx hb dX9_closes_26 (by decide) (fun c4 => ?_) (fun c4 => ?_)
    · have hf := g_ift hf c4
      obtain rfl := g_some hf
      exact kk _ _ _ hP hS (lv_sub hl [3] rfl)
    · have hf := g_iff hf c4
      refine lv_iload hx hb dX9_closes_29 (lv_at hl 3 rfl) ?_
      refine lv_aload_n hx hb dX9_closes_31 rfl (lv_at hl 0 rfl) ?_
      refine lv_iload_n hx hb dX9_closes_32 rfl (lv_at hl 1 rfl) ?_
      refine lv_iconst (v := 4) hx hb dX9_closes_33 (by decide) ?_
      refine lv_iload hx hb dX9_closes_34 (lv_at hl 4 rfl) ?_
      refine lv_imul hx hb dX9_closes_36 ?_
      obtain ⟨u5, h6, hf⟩ := g_bind hf
      refine g_vi (rest := [.int v4]) X E hP hS (tcX9_intAt l G _ _ _ h6) (g_cwV X gX9_closes_X9_intAt rfl hdX9_intAt ⟨Nat.le_of_ble_eq_true rfl, Nat.le_of_ble_eq_true rfl⟩) (rcM_model E hP) rfl hl.1 rfl (Nat.le_of_ble_eq_true rfl) dX9_closes_37 ⟨Nat.le_refl _, Nat.le_refl _⟩ (fun H locs hP hS => ?_)
      refine lv_aload_n hx hb dX9_closes_40 rfl (lv_at hl 0 rfl) ?_
      refine lv_iload_n hx hb dX9_closes_41 rfl (lv_at hl 1 rfl) ?_
      refine lv_iconst (v := 4) hx hb dX9_closes_42 (by decide) ?_
      refine lv_iload hx hb dX9_closes_43 (lv_at hl 4 rfl) ?_
      refine lv_imul hx hb dX9_closes_45 ?_
      refine lv_iconst (v := 1) hx hb dX9_closes_46 (by decide) ?_
      refine lv_iadd hx hb dX9_closes_47 ?_
      obtain ⟨u7, h8, hf⟩ := g_bind hf
      refine g_vi (rest := [.int u5, .int v4]) X E hP hS (tcX9_intAt l G _ _ _ h8) (g_cwV X gX9_closes_X9_intAt rfl hdX9_intAt ⟨Nat.le_of_ble_eq_true rfl, Nat.le_of_ble_eq_true rfl⟩) (rcM_model E hP) rfl hl.1 rfl (Nat.le_of_ble_eq_true rfl) dX9_closes_48 ⟨Nat.le_refl _, Nat.le_refl _⟩ (fun H locs hP hS => ?_)
      refine lv_isub hx hb dX9_closes_51 ?_
      refine lv_iadd hx hb dX9_closes_52 ?_
      refine lv_istore (lv' := [(4, .int (v4 + (u5 - u7))), (0, .ref (ga G 63)), (1, .int v1), (2, .int v2), (5, .int v5)]) hx hb dX9_closes_53 hl (by decide) rfl (fun ls hl => ?_)
      refine lv_iinc (v := (v5 + 1)) (lv' := [(5, .int (v5 + 1)), (4, .int (v4 + (u5 - u7))), (0, .ref (ga G 63)), (1, .int v1), (2, .int v2)]) hx hb dX9_closes_55 hl (k := 4) rfl rfl (by decide) rfl (fun ls hl => ?_)
      refine lv_goto (tgt := 23) hx hb dX9_closes_58 (by decide) ?_
      exact ih _ _ _ _ _ _ _ _ _ hf hP hS (lv_sub hl [2, 3, 4, 1, 0] rfl) kk
def fX9_closes (S : GS) (a1 : Int32) (a2 : Int32) : Option (Int32 × GS) :=
  (fX9_barsRight S a1 a2).bind fun u1 =>
  if u1 = 0 then
    (fX9_closes_23 gFuel S a1 a2 (0 : Int32) (0 : Int32)).bind fun u9 =>
    some (u9, S)
  else
    (fX9_noFar S u1).bind fun u11 =>
    some (u11.1, u11.2)
set_option maxHeartbeats 4000000 in
set_option maxRecDepth 100000 in
theorem tcX9_closes (l : Launch) (G : GP) (S : GS) (a1 : Int32) (a2 : Int32) {R : (Int32 × GS)} (hf : fX9_closes S a1 a2 = some R) : CI l yX9_closes wsX9_closes 4 88 [.ref (ga G 63), .int a1, .int a2] WM G S R.1 R.2 := by
  refine g_met RX9 (cc := cX9_closes) (nL := 6) (ret := (some .int)) (by decide) rfl rfl (Nat.le_of_ble_eq_true rfl) ?_
  intro p e s m below meth c ls X E hP hS hl
  have hl : lv_has ls 6 [(0, .ref (ga G 63)), (1, .int a1), (2, .int a2)] := hl
  obtain ⟨hx, hb, -, -, hown, hts, -⟩ := id X
  rw [fX9_closes] at hf
  refine lv_aload_n hx hb dX9_closes_0 rfl (lv_at hl 0 rfl) ?_
  refine lv_iload_n hx hb dX9_closes_1 rfl (lv_at hl 1 rfl) ?_
  refine lv_iload_n hx hb dX9_closes_2 rfl (lv_at hl 2 rfl) ?_
  obtain ⟨u1, h2, hf⟩ := g_bind hf
  refine g_vi (rest := []) X E hP hS (tcX9_barsRight l G _ _ _ h2) (g_cwV X gX9_closes_X9_barsRight rfl hdX9_barsRight ⟨Nat.le_of_ble_eq_true rfl, Nat.le_of_ble_eq_true rfl⟩) (rcM_model E hP) rfl hl.1 rfl (Nat.le_of_ble_eq_true rfl) dX9_closes_3 ⟨Nat.le_refl _, Nat.le_refl _⟩ (fun H locs hP hS => ?_)
  refine lv_istore_n (lv' := [(3, .int u1), (0, .ref (ga G 63)), (1, .int a1), (2, .int a2)]) hx hb dX9_closes_6 rfl hl (by decide) rfl (fun ls hl => ?_)
  refine lv_iconst (v := 0) hx hb dX9_closes_7 (by decide) ?_
  refine lv_istore (lv' := [(4, .int (0 : Int32)), (3, .int u1), (0, .ref (ga G 63)), (1, .int a1), (2, .int a2)]) hx hb dX9_closes_8 hl (by decide) rfl (fun ls hl => ?_)
  refine lv_iload_n hx hb dX9_closes_10 rfl (lv_at hl 1 rfl) ?_
  refine lv_if_eq (tgt := 20) hx hb dX9_closes_11 (by decide) (fun c3 => ?_) (fun c3 => ?_)
  · have hf := g_ift hf c3
    refine lv_iconst (v := 0) hx hb dX9_closes_20 (by decide) ?_
    refine lv_istore (lv' := [(5, .int (0 : Int32)), (4, .int (0 : Int32)), (3, .int u1), (0, .ref (ga G 63)), (1, .int a1), (2, .int a2)]) hx hb dX9_closes_21 hl (by decide) rfl (fun ls hl => ?_)
    obtain ⟨u9, h10, hf⟩ := g_bind hf
    refine bX9_closes_23 X E gFuel _ _ _ _ _ u9 _ _ _ h10 hP hS (lv_sub hl [3, 4, 5, 1, 0] rfl) (fun H locs ls hP hS hl => ?_)
    have hl : lv_has ls 6 [(4, .int u9)] := hl
    refine lv_iload hx hb dX9_closes_61 (lv_at hl 0 rfl) ?_
    obtain rfl := g_some hf
    exact g_ri X E hP hS dX9_closes_63
  · have hf := g_iff hf c3
    refine lv_aload_n hx hb dX9_closes_14 rfl (lv_at hl 2 rfl) ?_
    refine lv_iload_n hx hb dX9_closes_15 rfl (lv_at hl 1 rfl) ?_
    obtain ⟨u11, h12, hf⟩ := g_bind hf
    refine g_vi (rest := []) X E hP hS (tcX9_noFar l G _ _ h12) (g_cwV X gX9_closes_X9_noFar rfl hdX9_noFar ⟨Nat.le_of_ble_eq_true rfl, Nat.le_of_ble_eq_true rfl⟩) (rcM_model E hP) rfl hl.1 rfl (Nat.le_of_ble_eq_true rfl) dX9_closes_16 ⟨Nat.le_refl _, Nat.le_refl _⟩ (fun H locs hP hS => ?_)
    obtain rfl := g_some hf
    exact g_ri X E hP hS dX9_closes_19
theorem lkX9_done_0 : Cond.fieldLink RX9 91 RX9 "many" "I" ∈ wsX9_done := by decide +kernel
theorem inX9_done_X9 : ∀ w ∈ wsX90, w ∈ wsX9_done := by decide +kernel
def fX9_done_38 : Nat → GS → Int32 → Int32 → Int32 → Option GS
  | 0, _, _, _, _ => none
  | fu + 1, S, v1, v2, v4 =>
    if ((4 : Int32) * v2) ≤ v4 then
      some S
    else
      (fX9_intAt S v1 v4).bind fun u6 =>
      (fX9_intAt S v1 (v4 + (1 : Int32))).bind fun u8 =>
      (fX9_intAt S v1 (v4 + (2 : Int32))).bind fun u10 =>
      (fX9_intAt S v1 (v4 + (3 : Int32))).bind fun u12 =>
      (fX9_adds S (0 : Int32) (0 : Int32) u6 u8 u10 u12).bind fun u14 =>
      fX9_done_38 fu u14.2 v1 v2 (v4 + 4)
set_option maxHeartbeats 4000000 in
set_option maxRecDepth 100000 in
theorem bX9_done_38 {p : Program} {l : Launch} {e : Env} {s : State} {m : MethodId} {args : Array Value} {below : List Frame} {meth : Method} {c : Code} {Q : State → Prop} {G : GP} (X : GX p s m meth c args cX9_done 5 (some .int) wsX9_done RX9) (E : gE WM G s)  : ∀ (fu : Nat) (S : GS) (v1 : Int32) (v2 : Int32) (v4 : Int32) (R : GS) (H : Heap) (locs : List Loc) (ls : Array Slot) (_ : fX9_done_38 fu S v1 v2 v4 = some R) (_ : va_P (gD G) vwCl (WM G S ++ gF G) H) (_ : va_S (gA G) s.heap H locs) (_ : lv_has ls 5 [(0, .ref (ga G 63)), (1, .int v1), (2, .int v2), (4, .int v4)]) (_ : ∀ (H : Heap) (locs : List Loc) (ls : Array Slot), va_P (gD G) vwCl (WM G R ++ gF G) H → va_S (gA G) s.heap H locs → lv_has ls 5 [(0, .ref (ga G 63))] → W p l e (gR 4 88) s m args below meth c H locs 0 0 Q (F0 m 93 ls [])), W p l e (gR 4 88) s m args below meth c H locs 0 0 Q (F0 m 38 ls []) := by
  obtain ⟨hx, hb, -, -, hown, hts, -⟩ := id X
  intro fu
  induction fu with
  | zero =>
    intro S v1 v2 v4 R H locs ls hf
    cases (show (none : Option GS) = some R from hf)
  | succ fu ih =>
    intro S v1 v2 v4 R H locs ls hf hP hS hl kk
    rw [fX9_done_38] at hf
    refine lv_iload hx hb dX9_done_38 (lv_at hl 3 rfl) ?_
    refine lv_iconst (v := 4) hx hb dX9_done_40 (by decide) ?_
    refine lv_iload_n hx hb dX9_done_41 rfl (lv_at hl 2 rfl) ?_
    refine lv_imul hx hb dX9_done_42 ?_
    refine lv_icmp_ge (tgt := 93) hx hb dX9_done_43 (by decide) (fun c5 => ?_) (fun c5 => ?_)
    · have hf := g_ift hf c5
      obtain rfl := g_some hf
      exact kk _ _ _ hP hS (lv_sub hl [0] rfl)
    · have hf := g_iff hf c5
      refine lv_aload_n hx hb dX9_done_46 rfl (lv_at hl 0 rfl) ?_
      refine lv_iconst (v := 0) hx hb dX9_done_47 (by decide) ?_
      refine lv_iconst (v := 0) hx hb dX9_done_48 (by decide) ?_
      refine lv_aload_n hx hb dX9_done_49 rfl (lv_at hl 0 rfl) ?_
      refine lv_iload_n hx hb dX9_done_50 rfl (lv_at hl 1 rfl) ?_
      refine lv_iload hx hb dX9_done_51 (lv_at hl 3 rfl) ?_
      obtain ⟨u6, h7, hf⟩ := g_bind hf
      refine g_vi (rest := [.int (0 : Int32), .int (0 : Int32), .ref (ga G 63)]) X E hP hS (tcX9_intAt l G _ _ _ h7) (g_cwV X gX9_done_X9_intAt rfl hdX9_intAt ⟨Nat.le_of_ble_eq_true rfl, Nat.le_of_ble_eq_true rfl⟩) (rcM_model E hP) rfl hl.1 rfl (Nat.le_of_ble_eq_true rfl) dX9_done_53 ⟨Nat.le_refl _, Nat.le_refl _⟩ (fun H locs hP hS => ?_)
      refine lv_aload_n hx hb dX9_done_56 rfl (lv_at hl 0 rfl) ?_
      refine lv_iload_n hx hb dX9_done_57 rfl (lv_at hl 1 rfl) ?_
      refine lv_iload hx hb dX9_done_58 (lv_at hl 3 rfl) ?_
      refine lv_iconst (v := 1) hx hb dX9_done_60 (by decide) ?_
      refine lv_iadd hx hb dX9_done_61 ?_
      obtain ⟨u8, h9, hf⟩ := g_bind hf
      refine g_vi (rest := [.int u6, .int (0 : Int32), .int (0 : Int32), .ref (ga G 63)]) X E hP hS (tcX9_intAt l G _ _ _ h9) (g_cwV X gX9_done_X9_intAt rfl hdX9_intAt ⟨Nat.le_of_ble_eq_true rfl, Nat.le_of_ble_eq_true rfl⟩) (rcM_model E hP) rfl hl.1 rfl (Nat.le_of_ble_eq_true rfl) dX9_done_62 ⟨Nat.le_refl _, Nat.le_refl _⟩ (fun H locs hP hS => ?_)
      refine lv_aload_n hx hb dX9_done_65 rfl (lv_at hl 0 rfl) ?_
      refine lv_iload_n hx hb dX9_done_66 rfl (lv_at hl 1 rfl) ?_
      refine lv_iload hx hb dX9_done_67 (lv_at hl 3 rfl) ?_
      refine lv_iconst (v := 2) hx hb dX9_done_69 (by decide) ?_
      refine lv_iadd hx hb dX9_done_70 ?_
      obtain ⟨u10, h11, hf⟩ := g_bind hf
      refine g_vi (rest := [.int u8, .int u6, .int (0 : Int32), .int (0 : Int32), .ref (ga G 63)]) X E hP hS (tcX9_intAt l G _ _ _ h11) (g_cwV X gX9_done_X9_intAt rfl hdX9_intAt ⟨Nat.le_of_ble_eq_true rfl, Nat.le_of_ble_eq_true rfl⟩) (rcM_model E hP) rfl hl.1 rfl (Nat.le_of_ble_eq_true rfl) dX9_done_71 ⟨Nat.le_refl _, Nat.le_refl _⟩ (fun H locs hP hS => ?_)
      refine lv_aload_n hx hb dX9_done_74 rfl (lv_at hl 0 rfl) ?_
      refine lv_iload_n hx hb dX9_done_75 rfl (lv_at hl 1 rfl) ?_
      refine lv_iload hx hb dX9_done_76 (lv_at hl 3 rfl) ?_
      refine lv_iconst (v := 3) hx hb dX9_done_78 (by decide) ?_
      refine lv_iadd hx hb dX9_done_79 ?_
      obtain ⟨u12, h13, hf⟩ := g_bind hf
      refine g_vi (rest := [.int u10, .int u8, .int u6, .int (0 : Int32), .int (0 : Int32), .ref (ga G 63)]) X E hP hS (tcX9_intAt l G _ _ _ h13) (g_cwV X gX9_done_X9_intAt rfl hdX9_intAt ⟨Nat.le_of_ble_eq_true rfl, Nat.le_of_ble_eq_true rfl⟩) (rcM_model E hP) rfl hl.1 rfl (Nat.le_of_ble_eq_true rfl) dX9_done_80 ⟨Nat.le_refl _, Nat.le_refl _⟩ (fun H locs hP hS => ?_)
      obtain ⟨u14, h15, hf⟩ := g_bind hf
      refine g_vi (rest := []) X E hP hS (tcX9_adds l G _ _ _ _ _ _ _ h15) (g_cwV X gX9_done_X9_adds rfl hdX9_adds ⟨Nat.le_of_ble_eq_true rfl, Nat.le_of_ble_eq_true rfl⟩) (rcM_model E hP) rfl hl.1 rfl (Nat.le_of_ble_eq_true rfl) dX9_done_83 ⟨Nat.le_refl _, Nat.le_refl _⟩ (fun H locs hP hS => ?_)
      refine lv_pop hx hb dX9_done_86 rfl ?_
      refine lv_iinc (v := (v4 + 4)) (lv' := [(4, .int (v4 + 4)), (0, .ref (ga G 63)), (1, .int v1), (2, .int v2)]) hx hb dX9_done_87 hl (k := 3) rfl rfl (by decide) rfl (fun ls hl => ?_)
      refine lv_goto (tgt := 38) hx hb dX9_done_90 (by decide) ?_
      exact ih _ _ _ _ _ _ _ _ hf hP hS (lv_sub hl [1, 2, 3, 0] rfl) kk
def fX9_done_L25 (S : GS) (v1 : Int32) (v2 : Int32) (v3 : Int32) : Option (Int32 × GS) :=
  if v3 = 0 then
    (fX9_done_38 gFuel S v1 v2 (0 : Int32)).bind fun u16 =>
    some ((u16.1 0), u16)
  else
    (fX9_no S v3).bind fun u18 =>
    some (u18.1, u18.2)
set_option maxHeartbeats 4000000 in
set_option maxRecDepth 100000 in
theorem bX9_done_L25 {p : Program} {l : Launch} {e : Env} {s : State} {m : MethodId} {args : Array Value} {below : List Frame} {meth : Method} {c : Code} {G : GP} (X : GX p s m meth c args cX9_done 5 (some .int) wsX9_done RX9) (E : gE WM G s) (S : GS) (v1 : Int32) (v2 : Int32) (v3 : Int32) (R : (Int32 × GS)) (H : Heap) (locs : List Loc) (ls : Array Slot) (hf : fX9_done_L25 S v1 v2 v3 = some R) (hP : va_P (gD G) vwCl (WM G S ++ gF G) H) (hS : va_S (gA G) s.heap H locs) (hl : lv_has ls 5 [(0, .ref (ga G 63)), (1, .int v1), (2, .int v2), (3, .int v3)]) : W p l e (gR 4 88) s m args below meth c H locs 0 0 (MQ below (gQi WM G R.1 R.2) args s 0 0 (gA G)) (F0 m 25 ls []) := by
  obtain ⟨hx, hb, -, -, hown, hts, -⟩ := id X
  rw [fX9_done_L25] at hf
  refine lv_iload_n hx hb dX9_done_25 rfl (lv_at hl 3 rfl) ?_
  refine lv_if_eq (tgt := 35) hx hb dX9_done_26 (by decide) (fun c4 => ?_) (fun c4 => ?_)
  · have hf := g_ift hf c4
    refine lv_iconst (v := 0) hx hb dX9_done_35 (by decide) ?_
    refine lv_istore (lv' := [(4, .int (0 : Int32)), (0, .ref (ga G 63)), (1, .int v1), (2, .int v2), (3, .int v3)]) hx hb dX9_done_36 hl (by decide) rfl (fun ls hl => ?_)
    obtain ⟨u16, h17, hf⟩ := g_bind hf
    refine bX9_done_38 X E gFuel _ _ _ _ u16 _ _ _ h17 hP hS (lv_sub hl [1, 2, 3, 0] rfl) (fun H locs ls hP hS hl => ?_)
    have hl : lv_has ls 5 [(0, .ref (ga G 63))] := hl
    have hP : va_P (gD G) vwCl (WM G u16 ++ gF G) H := hP
    refine lv_aload_n hx hb dX9_done_93 rfl (lv_at hl 0 rfl) ?_
    refine ggM_0 X E hP inX9_done_X9 lkX9_done_0 dX9_done_94 ?_
    obtain rfl := g_some hf
    exact g_ri X E hP hS dX9_done_97
  · have hf := g_iff hf c4
    refine lv_aload_n hx hb dX9_done_29 rfl (lv_at hl 0 rfl) ?_
    refine lv_iload_n hx hb dX9_done_30 rfl (lv_at hl 3 rfl) ?_
    obtain ⟨u18, h19, hf⟩ := g_bind hf
    refine g_vi (rest := []) X E hP hS (tcX9_no l G _ _ h19) (g_cwV X gX9_done_X9_no rfl hdX9_no ⟨Nat.le_of_ble_eq_true rfl, Nat.le_of_ble_eq_true rfl⟩) (rcM_model E hP) rfl hl.1 rfl (Nat.le_of_ble_eq_true rfl) dX9_done_31 ⟨Nat.le_refl _, Nat.le_refl _⟩ (fun H locs hP hS => ?_)
    obtain rfl := g_some hf
    exact g_ri X E hP hS dX9_done_34
def fX9_done (S : GS) (a1 : Int32) (a2 : Int32) : Option (Int32 × GS) :=
  (fX9_barsRight S a1 a2).bind fun u1 =>
  if u1 = 0 then
    if ((S.1 0) + a2) ≤ (16 : Int32) then
      fX9_done_L25 S a1 a2 u1
    else
      fX9_done_L25 S a1 a2 (-7 : Int32)
  else
    fX9_done_L25 S a1 a2 u1
set_option maxHeartbeats 4000000 in
set_option maxRecDepth 100000 in
theorem tcX9_done (l : Launch) (G : GP) (S : GS) (a1 : Int32) (a2 : Int32) {R : (Int32 × GS)} (hf : fX9_done S a1 a2 = some R) : CI l yX9_done wsX9_done 4 88 [.ref (ga G 63), .int a1, .int a2] WM G S R.1 R.2 := by
  refine g_met RX9 (cc := cX9_done) (nL := 5) (ret := (some .int)) (by decide) rfl rfl (Nat.le_of_ble_eq_true rfl) ?_
  intro p e s m below meth c ls X E hP hS hl
  have hl : lv_has ls 5 [(0, .ref (ga G 63)), (1, .int a1), (2, .int a2)] := hl
  obtain ⟨hx, hb, -, -, hown, hts, -⟩ := id X
  rw [fX9_done] at hf
  refine lv_aload_n hx hb dX9_done_0 rfl (lv_at hl 0 rfl) ?_
  refine lv_iload_n hx hb dX9_done_1 rfl (lv_at hl 1 rfl) ?_
  refine lv_iload_n hx hb dX9_done_2 rfl (lv_at hl 2 rfl) ?_
  obtain ⟨u1, h2, hf⟩ := g_bind hf
  refine g_vi (rest := []) X E hP hS (tcX9_barsRight l G _ _ _ h2) (g_cwV X gX9_done_X9_barsRight rfl hdX9_barsRight ⟨Nat.le_of_ble_eq_true rfl, Nat.le_of_ble_eq_true rfl⟩) (rcM_model E hP) rfl hl.1 rfl (Nat.le_of_ble_eq_true rfl) dX9_done_3 ⟨Nat.le_refl _, Nat.le_refl _⟩ (fun H locs hP hS => ?_)
  refine lv_istore_n (lv' := [(3, .int u1), (0, .ref (ga G 63)), (1, .int a1), (2, .int a2)]) hx hb dX9_done_6 rfl hl (by decide) rfl (fun ls hl => ?_)
  refine lv_iload_n hx hb dX9_done_7 rfl (lv_at hl 0 rfl) ?_
  refine lv_if_ne (tgt := 25) hx hb dX9_done_8 (by decide) (fun c3 => ?_) (fun c3 => ?_)
  · have hf := g_iff hf c3
    exact bX9_done_L25 X E _ _ _ _ _ _ _ _ hf hP hS (lv_sub hl [1, 2, 3, 0] rfl)
  · have hf := g_ift hf c3
    refine lv_aload_n hx hb dX9_done_11 rfl (lv_at hl 1 rfl) ?_
    refine ggM_0 X E hP inX9_done_X9 lkX9_done_0 dX9_done_12 ?_
    refine lv_iload_n hx hb dX9_done_15 rfl (lv_at hl 3 rfl) ?_
    refine lv_iadd hx hb dX9_done_16 ?_
    refine lv_bipush (v := 16) hx hb dX9_done_17 (by decide) ?_
    refine lv_icmp_le (tgt := 25) hx hb dX9_done_19 (by decide) (fun c20 => ?_) (fun c20 => ?_)
    · have hf := g_ift hf c20
      exact bX9_done_L25 X E _ _ _ _ _ _ _ _ hf hP hS (lv_sub hl [1, 2, 3, 0] rfl)
    · have hf := g_iff hf c20
      refine lv_bipush (v := -7) hx hb dX9_done_22 (by decide) ?_
      refine lv_istore_n (lv' := [(3, .int (-7 : Int32)), (0, .ref (ga G 63)), (1, .int a1), (2, .int a2)]) hx hb dX9_done_24 rfl hl (by decide) rfl (fun ls hl => ?_)
      exact bX9_done_L25 X E _ _ _ _ _ _ _ _ hf hP hS (lv_sub hl [1, 2, 3, 0] rfl)
theorem lkX9_forgets_0 : Cond.fieldLink RX9 50 RX9 "held" "[I" ∈ wsX9_forgets := by decide +kernel
theorem lkX9_forgets_1 : Cond.fieldLink RX9 59 RX9 "shown" "[I" ∈ wsX9_forgets := by decide +kernel
theorem lkX9_forgets_2 : Cond.fieldLink RX9 91 RX9 "many" "I" ∈ wsX9_forgets := by decide +kernel
theorem inX9_forgets_X9 : ∀ w ∈ wsX90, w ∈ wsX9_forgets := by decide +kernel
def fX9_forgets_2 : Nat → GS → Int32 → Option GS
  | 0, _, _ => none
  | fu + 1, S, v1 =>
    if (8 : Int32) ≤ v1 then
      some S
    else
      if v1 < 0 ∨ 8 ≤ (v1).toNatClampNeg then none else
      if (S.2.2.1 15 (v1).toNatClampNeg) = (2 : Int32) then
        if v1 < 0 ∨ 8 ≤ (v1).toNatClampNeg then none else
        if (S.2.2.1 18 (v1).toNatClampNeg) < (S.1 0) then
          fX9_forgets_2 fu S (v1 + 1)
        else
          if v1 < 0 ∨ 8 ≤ (v1).toNatClampNeg then none else
          fX9_forgets_2 fu (gU3 S 15 (v1).toNatClampNeg (0 : Int32)) (v1 + 1)
      else
        fX9_forgets_2 fu S (v1 + 1)
set_option maxHeartbeats 4000000 in
set_option maxRecDepth 100000 in
theorem bX9_forgets_2 {p : Program} {l : Launch} {e : Env} {s : State} {m : MethodId} {args : Array Value} {below : List Frame} {meth : Method} {c : Code} {Q : State → Prop} {G : GP} (X : GX p s m meth c args cX9_forgets 2 none wsX9_forgets RX9) (E : gE WM G s)  : ∀ (fu : Nat) (S : GS) (v1 : Int32) (R : GS) (H : Heap) (locs : List Loc) (ls : Array Slot) (_ : fX9_forgets_2 fu S v1 = some R) (_ : va_P (gD G) vwCl (WM G S ++ gF G) H) (_ : va_S (gA G) s.heap H locs) (_ : lv_has ls 2 [(0, .ref (ga G 63)), (1, .int v1)]) (_ : ∀ (H : Heap) (locs : List Loc) (ls : Array Slot), va_P (gD G) vwCl (WM G R ++ gF G) H → va_S (gA G) s.heap H locs → lv_has ls 2 [] → W p l e (gR 0 0) s m args below meth c H locs 0 0 Q (F0 m 44 ls [])), W p l e (gR 0 0) s m args below meth c H locs 0 0 Q (F0 m 2 ls []) := by
  obtain ⟨hx, hb, -, -, hown, hts, -⟩ := id X
  intro fu
  induction fu with
  | zero =>
    intro S v1 R H locs ls hf
    cases (show (none : Option GS) = some R from hf)
  | succ fu ih =>
    intro S v1 R H locs ls hf hP hS hl kk
    rw [fX9_forgets_2] at hf
    refine lv_iload_n hx hb dX9_forgets_2 rfl (lv_at hl 1 rfl) ?_
    refine lv_bipush (v := 8) hx hb dX9_forgets_3 (by decide) ?_
    refine lv_icmp_ge (tgt := 44) hx hb dX9_forgets_5 (by decide) (fun c1 => ?_) (fun c1 => ?_)
    · have hf := g_ift hf c1
      obtain rfl := g_some hf
      exact kk _ _ _ hP hS (lv_sub hl [] rfl)
    · have hf := g_iff hf c1
      refine lv_aload_n hx hb dX9_forgets_8 rfl (lv_at hl 0 rfl) ?_
      refine ggM_15 X E hP inX9_forgets_X9 lkX9_forgets_0 dX9_forgets_9 ?_
      refine lv_iload_n hx hb dX9_forgets_12 rfl (lv_at hl 1 rfl) ?_
      obtain ⟨b2, hf⟩ := g_if hf
      refine giM_15 X E hP b2 dX9_forgets_13 ?_
      refine lv_iconst (v := 2) hx hb dX9_forgets_14 (by decide) ?_
      refine lv_icmp_ne (tgt := 38) hx hb dX9_forgets_15 (by decide) (fun c3 => ?_) (fun c3 => ?_)
      · have hf := g_iff hf c3
        refine lv_iinc (v := (v1 + 1)) (lv' := [(1, .int (v1 + 1)), (0, .ref (ga G 63))]) hx hb dX9_forgets_38 hl (k := 1) rfl rfl (by decide) rfl (fun ls hl => ?_)
        refine lv_goto (tgt := 2) hx hb dX9_forgets_41 (by decide) ?_
        exact ih _ _ _ _ _ _ hf hP hS (lv_sub hl [1, 0] rfl) kk
      · have hf := g_ift hf c3
        refine lv_aload_n hx hb dX9_forgets_18 rfl (lv_at hl 0 rfl) ?_
        refine ggM_18 X E hP inX9_forgets_X9 lkX9_forgets_1 dX9_forgets_19 ?_
        refine lv_iload_n hx hb dX9_forgets_22 rfl (lv_at hl 1 rfl) ?_
        obtain ⟨b4, hf⟩ := g_if hf
        refine giM_18 X E hP b4 dX9_forgets_23 ?_
        refine lv_aload_n hx hb dX9_forgets_24 rfl (lv_at hl 0 rfl) ?_
        refine ggM_0 X E hP inX9_forgets_X9 lkX9_forgets_2 dX9_forgets_25 ?_
        refine lv_icmp_lt (tgt := 38) hx hb dX9_forgets_28 (by decide) (fun c5 => ?_) (fun c5 => ?_)
        · have hf := g_ift hf c5
          refine lv_iinc (v := (v1 + 1)) (lv' := [(1, .int (v1 + 1)), (0, .ref (ga G 63))]) hx hb dX9_forgets_38 hl (k := 1) rfl rfl (by decide) rfl (fun ls hl => ?_)
          refine lv_goto (tgt := 2) hx hb dX9_forgets_41 (by decide) ?_
          exact ih _ _ _ _ _ _ hf hP hS (lv_sub hl [1, 0] rfl) kk
        · have hf := g_iff hf c5
          refine lv_aload_n hx hb dX9_forgets_31 rfl (lv_at hl 0 rfl) ?_
          refine ggM_15 X E hP inX9_forgets_X9 lkX9_forgets_0 dX9_forgets_32 ?_
          refine lv_iload_n hx hb dX9_forgets_35 rfl (lv_at hl 1 rfl) ?_
          refine lv_iconst (v := 0) hx hb dX9_forgets_36 (by decide) ?_
          obtain ⟨b6, hf⟩ := g_if hf
          refine gsM_15 X E hP hS b6 dX9_forgets_37 (fun H locs hP hS => ?_)
          refine lv_iinc (v := (v1 + 1)) (lv' := [(1, .int (v1 + 1)), (0, .ref (ga G 63))]) hx hb dX9_forgets_38 hl (k := 1) rfl rfl (by decide) rfl (fun ls hl => ?_)
          refine lv_goto (tgt := 2) hx hb dX9_forgets_41 (by decide) ?_
          exact ih _ _ _ _ _ _ hf hP hS (lv_sub hl [1, 0] rfl) kk
def fX9_forgets (S : GS)  : Option GS :=
  (fX9_forgets_2 gFuel S (0 : Int32)).bind fun u7 =>
  some u7
set_option maxHeartbeats 4000000 in
set_option maxRecDepth 100000 in
theorem tcX9_forgets (l : Launch) (G : GP) (S : GS)  {R : GS} (hf : fX9_forgets S  = some R) : CV l yX9_forgets wsX9_forgets 0 0 [.ref (ga G 63)] WM G S R := by
  refine g_met RX9 (cc := cX9_forgets) (nL := 2) (ret := none) (by decide) rfl rfl (Nat.le_of_ble_eq_true rfl) ?_
  intro p e s m below meth c ls X E hP hS hl
  have hl : lv_has ls 2 [(0, .ref (ga G 63))] := hl
  obtain ⟨hx, hb, -, -, hown, hts, -⟩ := id X
  rw [fX9_forgets] at hf
  refine lv_iconst (v := 0) hx hb dX9_forgets_0 (by decide) ?_
  refine lv_istore_n (lv' := [(1, .int (0 : Int32)), (0, .ref (ga G 63))]) hx hb dX9_forgets_1 rfl hl (by decide) rfl (fun ls hl => ?_)
  obtain ⟨u7, h8, hf⟩ := g_bind hf
  refine bX9_forgets_2 X E gFuel _ _ u7 _ _ _ h8 hP hS (lv_sub hl [1, 0] rfl) (fun H locs ls hP hS hl => ?_)
  have hl : lv_has ls 2 [] := hl
  have hP : va_P (gD G) vwCl (WM G u7 ++ gF G) H := hP
  obtain rfl := g_some hf
  exact g_rv X E hP hS dX9_forgets_44
theorem lkX9_drop_0 : Cond.fieldLink RX9 91 RX9 "many" "I" ∈ wsX9_drop := by decide +kernel
theorem inX9_drop_X9 : ∀ w ∈ wsX90, w ∈ wsX9_drop := by decide +kernel
def fX9_drop (S : GS)  : Option (Int32 × GS) :=
  if (S.1 0) = 0 then
    (fX9_no S (-6 : Int32)).bind fun u4 =>
    some (u4.1, u4.2)
  else
    (fX9_forgets (gU1 S 0 ((S.1 0) - (1 : Int32)))).bind fun u2 =>
    some ((u2.1 0), u2)
set_option maxHeartbeats 4000000 in
set_option maxRecDepth 100000 in
theorem tcX9_drop (l : Launch) (G : GP) (S : GS)  {R : (Int32 × GS)} (hf : fX9_drop S  = some R) : CI l yX9_drop wsX9_drop 1 21 [.ref (ga G 63)] WM G S R.1 R.2 := by
  refine g_met RX9 (cc := cX9_drop) (nL := 1) (ret := (some .int)) (by decide) rfl rfl (Nat.le_of_ble_eq_true rfl) ?_
  intro p e s m below meth c ls X E hP hS hl
  have hl : lv_has ls 1 [(0, .ref (ga G 63))] := hl
  obtain ⟨hx, hb, -, -, hown, hts, -⟩ := id X
  rw [fX9_drop] at hf
  refine lv_aload_n hx hb dX9_drop_0 rfl (lv_at hl 0 rfl) ?_
  refine ggM_0 X E hP inX9_drop_X9 lkX9_drop_0 dX9_drop_1 ?_
  refine lv_if_ne (tgt := 14) hx hb dX9_drop_4 (by decide) (fun c1 => ?_) (fun c1 => ?_)
  · have hf := g_iff hf c1
    refine lv_aload_n hx hb dX9_drop_14 rfl (lv_at hl 0 rfl) ?_
    refine lv_dup hx hb dX9_drop_15 rfl ?_
    refine ggM_0 X E hP inX9_drop_X9 lkX9_drop_0 dX9_drop_16 ?_
    refine lv_iconst (v := 1) hx hb dX9_drop_19 (by decide) ?_
    refine lv_isub hx hb dX9_drop_20 ?_
    refine gpM_0 X E hP hS inX9_drop_X9 lkX9_drop_0 dX9_drop_21 (fun H locs hP hS => ?_)
    refine lv_aload_n hx hb dX9_drop_24 rfl (lv_at hl 0 rfl) ?_
    obtain ⟨u2, h3, hf⟩ := g_bind hf
    refine g_vv (rest := []) X E hP hS (tcX9_forgets l G _  h3) (g_cwV X gX9_drop_X9_forgets rfl hdX9_forgets ⟨Nat.le_of_ble_eq_true rfl, Nat.le_of_ble_eq_true rfl⟩) (rcM_model E hP) rfl hl.1 rfl (Nat.le_of_ble_eq_true rfl) dX9_drop_25 ⟨Nat.le_refl _, Nat.le_refl _⟩ (fun H locs hP hS => ?_)
    refine lv_aload_n hx hb dX9_drop_28 rfl (lv_at hl 0 rfl) ?_
    refine ggM_0 X E hP inX9_drop_X9 lkX9_drop_0 dX9_drop_29 ?_
    obtain rfl := g_some hf
    exact g_ri X E hP hS dX9_drop_32
  · have hf := g_ift hf c1
    refine lv_aload_n hx hb dX9_drop_7 rfl (lv_at hl 0 rfl) ?_
    refine lv_bipush (v := -6) hx hb dX9_drop_8 (by decide) ?_
    obtain ⟨u4, h5, hf⟩ := g_bind hf
    refine g_vi (rest := []) X E hP hS (tcX9_no l G _ _ h5) (g_cwV X gX9_drop_X9_no rfl hdX9_no ⟨Nat.le_of_ble_eq_true rfl, Nat.le_of_ble_eq_true rfl⟩) (rcM_model E hP) rfl hl.1 rfl (Nat.le_of_ble_eq_true rfl) dX9_drop_10 ⟨Nat.le_refl _, Nat.le_refl _⟩ (fun H locs hP hS => ?_)
    obtain rfl := g_some hf
    exact g_ri X E hP hS dX9_drop_13
theorem lkX9_turns_0 : Cond.fieldLink RX9 91 RX9 "many" "I" ∈ wsX9_turns := by decide +kernel
theorem lkX9_turns_1 : Cond.fieldLink RX9 84 RX9 "turned" "[I" ∈ wsX9_turns := by decide +kernel
theorem inX9_turns_X9 : ∀ w ∈ wsX90, w ∈ wsX9_turns := by decide +kernel
def fX9_turns_7_2 : Nat → GS → Int32 → Option GS
  | 0, _, _ => none
  | fu + 1, S, v2 =>
    if (S.1 0) ≤ v2 then
      some S
    else
      if (((S.1 0) - (1 : Int32)) - v2) < 0 ∨ 16 ≤ (((S.1 0) - (1 : Int32)) - v2).toNatClampNeg then none else
      if v2 < 0 ∨ 16 ≤ (v2).toNatClampNeg then none else
      fX9_turns_7_2 fu (gU3 S 31 (v2).toNatClampNeg (S.2.2.1 7 (((S.1 0) - (1 : Int32)) - v2).toNatClampNeg)) (v2 + 1)
set_option maxHeartbeats 4000000 in
set_option maxRecDepth 100000 in
theorem bX9_turns_7_2 {p : Program} {l : Launch} {e : Env} {s : State} {m : MethodId} {args : Array Value} {below : List Frame} {meth : Method} {c : Code} {Q : State → Prop} {G : GP} (X : GX p s m meth c args cX9_turns 3 none wsX9_turns RX9) (E : gE WM G s)  : ∀ (fu : Nat) (S : GS) (v2 : Int32) (R : GS) (H : Heap) (locs : List Loc) (ls : Array Slot) (_ : fX9_turns_7_2 fu S v2 = some R) (_ : va_P (gD G) vwCl (WM G S ++ gF G) H) (_ : va_S (gA G) s.heap H locs) (_ : lv_has ls 3 [(0, .ref (ga G 63)), (1, .ref (ga G 7)), (2, .int v2)]) (_ : ∀ (H : Heap) (locs : List Loc) (ls : Array Slot), va_P (gD G) vwCl (WM G R ++ gF G) H → va_S (gA G) s.heap H locs → lv_has ls 3 [(0, .ref (ga G 63)), (1, .ref (ga G 7))] → W p l e (gR 0 0) s m args below meth c H locs 0 0 Q (F0 m 32 ls [])), W p l e (gR 0 0) s m args below meth c H locs 0 0 Q (F0 m 2 ls []) := by
  obtain ⟨hx, hb, -, -, hown, hts, -⟩ := id X
  intro fu
  induction fu with
  | zero =>
    intro S v2 R H locs ls hf
    cases (show (none : Option GS) = some R from hf)
  | succ fu ih =>
    intro S v2 R H locs ls hf hP hS hl kk
    rw [fX9_turns_7_2] at hf
    refine lv_iload_n hx hb dX9_turns_2 rfl (lv_at hl 2 rfl) ?_
    refine lv_aload_n hx hb dX9_turns_3 rfl (lv_at hl 0 rfl) ?_
    refine ggM_0 X E hP inX9_turns_X9 lkX9_turns_0 dX9_turns_4 ?_
    refine lv_icmp_ge (tgt := 32) hx hb dX9_turns_7 (by decide) (fun c1 => ?_) (fun c1 => ?_)
    · have hf := g_ift hf c1
      obtain rfl := g_some hf
      exact kk _ _ _ hP hS (lv_sub hl [0, 1] rfl)
    · have hf := g_iff hf c1
      refine lv_aload_n hx hb dX9_turns_10 rfl (lv_at hl 0 rfl) ?_
      refine ggM_31 X E hP inX9_turns_X9 lkX9_turns_1 dX9_turns_11 ?_
      refine lv_iload_n hx hb dX9_turns_14 rfl (lv_at hl 2 rfl) ?_
      refine lv_aload_n hx hb dX9_turns_15 rfl (lv_at hl 1 rfl) ?_
      refine lv_aload_n hx hb dX9_turns_16 rfl (lv_at hl 0 rfl) ?_
      refine ggM_0 X E hP inX9_turns_X9 lkX9_turns_0 dX9_turns_17 ?_
      refine lv_iconst (v := 1) hx hb dX9_turns_20 (by decide) ?_
      refine lv_isub hx hb dX9_turns_21 ?_
      refine lv_iload_n hx hb dX9_turns_22 rfl (lv_at hl 2 rfl) ?_
      refine lv_isub hx hb dX9_turns_23 ?_
      obtain ⟨b2, hf⟩ := g_if hf
      refine giM_7 X E hP b2 dX9_turns_24 ?_
      obtain ⟨b3, hf⟩ := g_if hf
      refine gsM_31 X E hP hS b3 dX9_turns_25 (fun H locs hP hS => ?_)
      refine lv_iinc (v := (v2 + 1)) (lv' := [(2, .int (v2 + 1)), (0, .ref (ga G 63)), (1, .ref (ga G 7))]) hx hb dX9_turns_26 hl (k := 2) rfl rfl (by decide) rfl (fun ls hl => ?_)
      refine lv_goto (tgt := 2) hx hb dX9_turns_29 (by decide) ?_
      exact ih _ _ _ _ _ _ hf hP hS (lv_sub hl [1, 2, 0] rfl) kk
def fX9_turns_7_34 : Nat → GS → Int32 → Option GS
  | 0, _, _ => none
  | fu + 1, S, v2 =>
    if (S.1 0) ≤ v2 then
      some S
    else
      if v2 < 0 ∨ 16 ≤ (v2).toNatClampNeg then none else
      if v2 < 0 ∨ 16 ≤ (v2).toNatClampNeg then none else
      fX9_turns_7_34 fu (gU3 S 7 (v2).toNatClampNeg (S.2.2.1 31 (v2).toNatClampNeg)) (v2 + 1)
set_option maxHeartbeats 4000000 in
set_option maxRecDepth 100000 in
theorem bX9_turns_7_34 {p : Program} {l : Launch} {e : Env} {s : State} {m : MethodId} {args : Array Value} {below : List Frame} {meth : Method} {c : Code} {Q : State → Prop} {G : GP} (X : GX p s m meth c args cX9_turns 3 none wsX9_turns RX9) (E : gE WM G s)  : ∀ (fu : Nat) (S : GS) (v2 : Int32) (R : GS) (H : Heap) (locs : List Loc) (ls : Array Slot) (_ : fX9_turns_7_34 fu S v2 = some R) (_ : va_P (gD G) vwCl (WM G S ++ gF G) H) (_ : va_S (gA G) s.heap H locs) (_ : lv_has ls 3 [(0, .ref (ga G 63)), (1, .ref (ga G 7)), (2, .int v2)]) (_ : ∀ (H : Heap) (locs : List Loc) (ls : Array Slot), va_P (gD G) vwCl (WM G R ++ gF G) H → va_S (gA G) s.heap H locs → lv_has ls 3 [] → W p l e (gR 0 0) s m args below meth c H locs 0 0 Q (F0 m 57 ls [])), W p l e (gR 0 0) s m args below meth c H locs 0 0 Q (F0 m 34 ls []) := by
  obtain ⟨hx, hb, -, -, hown, hts, -⟩ := id X
  intro fu
  induction fu with
  | zero =>
    intro S v2 R H locs ls hf
    cases (show (none : Option GS) = some R from hf)
  | succ fu ih =>
    intro S v2 R H locs ls hf hP hS hl kk
    rw [fX9_turns_7_34] at hf
    refine lv_iload_n hx hb dX9_turns_34 rfl (lv_at hl 2 rfl) ?_
    refine lv_aload_n hx hb dX9_turns_35 rfl (lv_at hl 0 rfl) ?_
    refine ggM_0 X E hP inX9_turns_X9 lkX9_turns_0 dX9_turns_36 ?_
    refine lv_icmp_ge (tgt := 57) hx hb dX9_turns_39 (by decide) (fun c6 => ?_) (fun c6 => ?_)
    · have hf := g_ift hf c6
      obtain rfl := g_some hf
      exact kk _ _ _ hP hS (lv_sub hl [] rfl)
    · have hf := g_iff hf c6
      refine lv_aload_n hx hb dX9_turns_42 rfl (lv_at hl 1 rfl) ?_
      refine lv_iload_n hx hb dX9_turns_43 rfl (lv_at hl 2 rfl) ?_
      refine lv_aload_n hx hb dX9_turns_44 rfl (lv_at hl 0 rfl) ?_
      refine ggM_31 X E hP inX9_turns_X9 lkX9_turns_1 dX9_turns_45 ?_
      refine lv_iload_n hx hb dX9_turns_48 rfl (lv_at hl 2 rfl) ?_
      obtain ⟨b7, hf⟩ := g_if hf
      refine giM_31 X E hP b7 dX9_turns_49 ?_
      obtain ⟨b8, hf⟩ := g_if hf
      refine gsM_7 X E hP hS b8 dX9_turns_50 (fun H locs hP hS => ?_)
      refine lv_iinc (v := (v2 + 1)) (lv' := [(2, .int (v2 + 1)), (0, .ref (ga G 63)), (1, .ref (ga G 7))]) hx hb dX9_turns_51 hl (k := 2) rfl rfl (by decide) rfl (fun ls hl => ?_)
      refine lv_goto (tgt := 34) hx hb dX9_turns_54 (by decide) ?_
      exact ih _ _ _ _ _ _ hf hP hS (lv_sub hl [1, 2, 0] rfl) kk
def fX9_turns_7 (S : GS)  : Option GS :=
  (fX9_turns_7_2 gFuel S (0 : Int32)).bind fun u4 =>
  (fX9_turns_7_34 gFuel u4 (0 : Int32)).bind fun u9 =>
  some u9
set_option maxHeartbeats 4000000 in
set_option maxRecDepth 100000 in
theorem tcX9_turns_7 (l : Launch) (G : GP) (S : GS)  {R : GS} (hf : fX9_turns_7 S  = some R) : CV l yX9_turns wsX9_turns 0 0 [.ref (ga G 63), .ref (ga G 7)] WM G S R := by
  refine g_met RX9 (cc := cX9_turns) (nL := 3) (ret := none) (by decide) rfl rfl (Nat.le_of_ble_eq_true rfl) ?_
  intro p e s m below meth c ls X E hP hS hl
  have hl : lv_has ls 3 [(0, .ref (ga G 63)), (1, .ref (ga G 7))] := hl
  obtain ⟨hx, hb, -, -, hown, hts, -⟩ := id X
  rw [fX9_turns_7] at hf
  refine lv_iconst (v := 0) hx hb dX9_turns_0 (by decide) ?_
  refine lv_istore_n (lv' := [(2, .int (0 : Int32)), (0, .ref (ga G 63)), (1, .ref (ga G 7))]) hx hb dX9_turns_1 rfl hl (by decide) rfl (fun ls hl => ?_)
  obtain ⟨u4, h5, hf⟩ := g_bind hf
  refine bX9_turns_7_2 X E gFuel _ _ u4 _ _ _ h5 hP hS (lv_sub hl [1, 2, 0] rfl) (fun H locs ls hP hS hl => ?_)
  have hl : lv_has ls 3 [(0, .ref (ga G 63)), (1, .ref (ga G 7))] := hl
  have hP : va_P (gD G) vwCl (WM G u4 ++ gF G) H := hP
  refine lv_iconst (v := 0) hx hb dX9_turns_32 (by decide) ?_
  refine lv_istore_n (lv' := [(2, .int (0 : Int32)), (0, .ref (ga G 63)), (1, .ref (ga G 7))]) hx hb dX9_turns_33 rfl hl (by decide) rfl (fun ls hl => ?_)
  obtain ⟨u9, h10, hf⟩ := g_bind hf
  refine bX9_turns_7_34 X E gFuel _ _ u9 _ _ _ h10 hP hS (lv_sub hl [1, 2, 0] rfl) (fun H locs ls hP hS hl => ?_)
  have hl : lv_has ls 3 [] := hl
  have hP : va_P (gD G) vwCl (WM G u9 ++ gF G) H := hP
  obtain rfl := g_some hf
  exact g_rv X E hP hS dX9_turns_57
def fX9_turns_8_2 : Nat → GS → Int32 → Option GS
  | 0, _, _ => none
  | fu + 1, S, v2 =>
    if (S.1 0) ≤ v2 then
      some S
    else
      if (((S.1 0) - (1 : Int32)) - v2) < 0 ∨ 16 ≤ (((S.1 0) - (1 : Int32)) - v2).toNatClampNeg then none else
      if v2 < 0 ∨ 16 ≤ (v2).toNatClampNeg then none else
      fX9_turns_8_2 fu (gU3 S 31 (v2).toNatClampNeg (S.2.2.1 8 (((S.1 0) - (1 : Int32)) - v2).toNatClampNeg)) (v2 + 1)
set_option maxHeartbeats 4000000 in
set_option maxRecDepth 100000 in
theorem bX9_turns_8_2 {p : Program} {l : Launch} {e : Env} {s : State} {m : MethodId} {args : Array Value} {below : List Frame} {meth : Method} {c : Code} {Q : State → Prop} {G : GP} (X : GX p s m meth c args cX9_turns 3 none wsX9_turns RX9) (E : gE WM G s)  : ∀ (fu : Nat) (S : GS) (v2 : Int32) (R : GS) (H : Heap) (locs : List Loc) (ls : Array Slot) (_ : fX9_turns_8_2 fu S v2 = some R) (_ : va_P (gD G) vwCl (WM G S ++ gF G) H) (_ : va_S (gA G) s.heap H locs) (_ : lv_has ls 3 [(0, .ref (ga G 63)), (1, .ref (ga G 8)), (2, .int v2)]) (_ : ∀ (H : Heap) (locs : List Loc) (ls : Array Slot), va_P (gD G) vwCl (WM G R ++ gF G) H → va_S (gA G) s.heap H locs → lv_has ls 3 [(0, .ref (ga G 63)), (1, .ref (ga G 8))] → W p l e (gR 0 0) s m args below meth c H locs 0 0 Q (F0 m 32 ls [])), W p l e (gR 0 0) s m args below meth c H locs 0 0 Q (F0 m 2 ls []) := by
  obtain ⟨hx, hb, -, -, hown, hts, -⟩ := id X
  intro fu
  induction fu with
  | zero =>
    intro S v2 R H locs ls hf
    cases (show (none : Option GS) = some R from hf)
  | succ fu ih =>
    intro S v2 R H locs ls hf hP hS hl kk
    rw [fX9_turns_8_2] at hf
    refine lv_iload_n hx hb dX9_turns_2 rfl (lv_at hl 2 rfl) ?_
    refine lv_aload_n hx hb dX9_turns_3 rfl (lv_at hl 0 rfl) ?_
    refine ggM_0 X E hP inX9_turns_X9 lkX9_turns_0 dX9_turns_4 ?_
    refine lv_icmp_ge (tgt := 32) hx hb dX9_turns_7 (by decide) (fun c1 => ?_) (fun c1 => ?_)
    · have hf := g_ift hf c1
      obtain rfl := g_some hf
      exact kk _ _ _ hP hS (lv_sub hl [0, 1] rfl)
    · have hf := g_iff hf c1
      refine lv_aload_n hx hb dX9_turns_10 rfl (lv_at hl 0 rfl) ?_
      refine ggM_31 X E hP inX9_turns_X9 lkX9_turns_1 dX9_turns_11 ?_
      refine lv_iload_n hx hb dX9_turns_14 rfl (lv_at hl 2 rfl) ?_
      refine lv_aload_n hx hb dX9_turns_15 rfl (lv_at hl 1 rfl) ?_
      refine lv_aload_n hx hb dX9_turns_16 rfl (lv_at hl 0 rfl) ?_
      refine ggM_0 X E hP inX9_turns_X9 lkX9_turns_0 dX9_turns_17 ?_
      refine lv_iconst (v := 1) hx hb dX9_turns_20 (by decide) ?_
      refine lv_isub hx hb dX9_turns_21 ?_
      refine lv_iload_n hx hb dX9_turns_22 rfl (lv_at hl 2 rfl) ?_
      refine lv_isub hx hb dX9_turns_23 ?_
      obtain ⟨b2, hf⟩ := g_if hf
      refine giM_8 X E hP b2 dX9_turns_24 ?_
      obtain ⟨b3, hf⟩ := g_if hf
      refine gsM_31 X E hP hS b3 dX9_turns_25 (fun H locs hP hS => ?_)
      refine lv_iinc (v := (v2 + 1)) (lv' := [(2, .int (v2 + 1)), (0, .ref (ga G 63)), (1, .ref (ga G 8))]) hx hb dX9_turns_26 hl (k := 2) rfl rfl (by decide) rfl (fun ls hl => ?_)
      refine lv_goto (tgt := 2) hx hb dX9_turns_29 (by decide) ?_
      exact ih _ _ _ _ _ _ hf hP hS (lv_sub hl [1, 2, 0] rfl) kk
def fX9_turns_8_34 : Nat → GS → Int32 → Option GS
  | 0, _, _ => none
  | fu + 1, S, v2 =>
    if (S.1 0) ≤ v2 then
      some S
    else
      if v2 < 0 ∨ 16 ≤ (v2).toNatClampNeg then none else
      if v2 < 0 ∨ 16 ≤ (v2).toNatClampNeg then none else
      fX9_turns_8_34 fu (gU3 S 8 (v2).toNatClampNeg (S.2.2.1 31 (v2).toNatClampNeg)) (v2 + 1)
set_option maxHeartbeats 4000000 in
set_option maxRecDepth 100000 in
theorem bX9_turns_8_34 {p : Program} {l : Launch} {e : Env} {s : State} {m : MethodId} {args : Array Value} {below : List Frame} {meth : Method} {c : Code} {Q : State → Prop} {G : GP} (X : GX p s m meth c args cX9_turns 3 none wsX9_turns RX9) (E : gE WM G s)  : ∀ (fu : Nat) (S : GS) (v2 : Int32) (R : GS) (H : Heap) (locs : List Loc) (ls : Array Slot) (_ : fX9_turns_8_34 fu S v2 = some R) (_ : va_P (gD G) vwCl (WM G S ++ gF G) H) (_ : va_S (gA G) s.heap H locs) (_ : lv_has ls 3 [(0, .ref (ga G 63)), (1, .ref (ga G 8)), (2, .int v2)]) (_ : ∀ (H : Heap) (locs : List Loc) (ls : Array Slot), va_P (gD G) vwCl (WM G R ++ gF G) H → va_S (gA G) s.heap H locs → lv_has ls 3 [] → W p l e (gR 0 0) s m args below meth c H locs 0 0 Q (F0 m 57 ls [])), W p l e (gR 0 0) s m args below meth c H locs 0 0 Q (F0 m 34 ls []) := by
  obtain ⟨hx, hb, -, -, hown, hts, -⟩ := id X
  intro fu
  induction fu with
  | zero =>
    intro S v2 R H locs ls hf
    cases (show (none : Option GS) = some R from hf)
  | succ fu ih =>
    intro S v2 R H locs ls hf hP hS hl kk
    rw [fX9_turns_8_34] at hf
    refine lv_iload_n hx hb dX9_turns_34 rfl (lv_at hl 2 rfl) ?_
    refine lv_aload_n hx hb dX9_turns_35 rfl (lv_at hl 0 rfl) ?_
    refine ggM_0 X E hP inX9_turns_X9 lkX9_turns_0 dX9_turns_36 ?_
    refine lv_icmp_ge (tgt := 57) hx hb dX9_turns_39 (by decide) (fun c6 => ?_) (fun c6 => ?_)
    · have hf := g_ift hf c6
      obtain rfl := g_some hf
      exact kk _ _ _ hP hS (lv_sub hl [] rfl)
    · have hf := g_iff hf c6
      refine lv_aload_n hx hb dX9_turns_42 rfl (lv_at hl 1 rfl) ?_
      refine lv_iload_n hx hb dX9_turns_43 rfl (lv_at hl 2 rfl) ?_
      refine lv_aload_n hx hb dX9_turns_44 rfl (lv_at hl 0 rfl) ?_
      refine ggM_31 X E hP inX9_turns_X9 lkX9_turns_1 dX9_turns_45 ?_
      refine lv_iload_n hx hb dX9_turns_48 rfl (lv_at hl 2 rfl) ?_
      obtain ⟨b7, hf⟩ := g_if hf
      refine giM_31 X E hP b7 dX9_turns_49 ?_
      obtain ⟨b8, hf⟩ := g_if hf
      refine gsM_8 X E hP hS b8 dX9_turns_50 (fun H locs hP hS => ?_)
      refine lv_iinc (v := (v2 + 1)) (lv' := [(2, .int (v2 + 1)), (0, .ref (ga G 63)), (1, .ref (ga G 8))]) hx hb dX9_turns_51 hl (k := 2) rfl rfl (by decide) rfl (fun ls hl => ?_)
      refine lv_goto (tgt := 34) hx hb dX9_turns_54 (by decide) ?_
      exact ih _ _ _ _ _ _ hf hP hS (lv_sub hl [1, 2, 0] rfl) kk
def fX9_turns_8 (S : GS)  : Option GS :=
  (fX9_turns_8_2 gFuel S (0 : Int32)).bind fun u4 =>
  (fX9_turns_8_34 gFuel u4 (0 : Int32)).bind fun u9 =>
  some u9
set_option maxHeartbeats 4000000 in
set_option maxRecDepth 100000 in
theorem tcX9_turns_8 (l : Launch) (G : GP) (S : GS)  {R : GS} (hf : fX9_turns_8 S  = some R) : CV l yX9_turns wsX9_turns 0 0 [.ref (ga G 63), .ref (ga G 8)] WM G S R := by
  refine g_met RX9 (cc := cX9_turns) (nL := 3) (ret := none) (by decide) rfl rfl (Nat.le_of_ble_eq_true rfl) ?_
  intro p e s m below meth c ls X E hP hS hl
  have hl : lv_has ls 3 [(0, .ref (ga G 63)), (1, .ref (ga G 8))] := hl
  obtain ⟨hx, hb, -, -, hown, hts, -⟩ := id X
  rw [fX9_turns_8] at hf
  refine lv_iconst (v := 0) hx hb dX9_turns_0 (by decide) ?_
  refine lv_istore_n (lv' := [(2, .int (0 : Int32)), (0, .ref (ga G 63)), (1, .ref (ga G 8))]) hx hb dX9_turns_1 rfl hl (by decide) rfl (fun ls hl => ?_)
  obtain ⟨u4, h5, hf⟩ := g_bind hf
  refine bX9_turns_8_2 X E gFuel _ _ u4 _ _ _ h5 hP hS (lv_sub hl [1, 2, 0] rfl) (fun H locs ls hP hS hl => ?_)
  have hl : lv_has ls 3 [(0, .ref (ga G 63)), (1, .ref (ga G 8))] := hl
  have hP : va_P (gD G) vwCl (WM G u4 ++ gF G) H := hP
  refine lv_iconst (v := 0) hx hb dX9_turns_32 (by decide) ?_
  refine lv_istore_n (lv' := [(2, .int (0 : Int32)), (0, .ref (ga G 63)), (1, .ref (ga G 8))]) hx hb dX9_turns_33 rfl hl (by decide) rfl (fun ls hl => ?_)
  obtain ⟨u9, h10, hf⟩ := g_bind hf
  refine bX9_turns_8_34 X E gFuel _ _ u9 _ _ _ h10 hP hS (lv_sub hl [1, 2, 0] rfl) (fun H locs ls hP hS hl => ?_)
  have hl : lv_has ls 3 [] := hl
  have hP : va_P (gD G) vwCl (WM G u9 ++ gF G) H := hP
  obtain rfl := g_some hf
  exact g_rv X E hP hS dX9_turns_57
def fX9_turns_9_2 : Nat → GS → Int32 → Option GS
  | 0, _, _ => none
  | fu + 1, S, v2 =>
    if (S.1 0) ≤ v2 then
      some S
    else
      if (((S.1 0) - (1 : Int32)) - v2) < 0 ∨ 16 ≤ (((S.1 0) - (1 : Int32)) - v2).toNatClampNeg then none else
      if v2 < 0 ∨ 16 ≤ (v2).toNatClampNeg then none else
      fX9_turns_9_2 fu (gU3 S 31 (v2).toNatClampNeg (S.2.2.1 9 (((S.1 0) - (1 : Int32)) - v2).toNatClampNeg)) (v2 + 1)
set_option maxHeartbeats 4000000 in
set_option maxRecDepth 100000 in
theorem bX9_turns_9_2 {p : Program} {l : Launch} {e : Env} {s : State} {m : MethodId} {args : Array Value} {below : List Frame} {meth : Method} {c : Code} {Q : State → Prop} {G : GP} (X : GX p s m meth c args cX9_turns 3 none wsX9_turns RX9) (E : gE WM G s)  : ∀ (fu : Nat) (S : GS) (v2 : Int32) (R : GS) (H : Heap) (locs : List Loc) (ls : Array Slot) (_ : fX9_turns_9_2 fu S v2 = some R) (_ : va_P (gD G) vwCl (WM G S ++ gF G) H) (_ : va_S (gA G) s.heap H locs) (_ : lv_has ls 3 [(0, .ref (ga G 63)), (1, .ref (ga G 9)), (2, .int v2)]) (_ : ∀ (H : Heap) (locs : List Loc) (ls : Array Slot), va_P (gD G) vwCl (WM G R ++ gF G) H → va_S (gA G) s.heap H locs → lv_has ls 3 [(0, .ref (ga G 63)), (1, .ref (ga G 9))] → W p l e (gR 0 0) s m args below meth c H locs 0 0 Q (F0 m 32 ls [])), W p l e (gR 0 0) s m args below meth c H locs 0 0 Q (F0 m 2 ls []) := by
  obtain ⟨hx, hb, -, -, hown, hts, -⟩ := id X
  intro fu
  induction fu with
  | zero =>
    intro S v2 R H locs ls hf
    cases (show (none : Option GS) = some R from hf)
  | succ fu ih =>
    intro S v2 R H locs ls hf hP hS hl kk
    rw [fX9_turns_9_2] at hf
    refine lv_iload_n hx hb dX9_turns_2 rfl (lv_at hl 2 rfl) ?_
    refine lv_aload_n hx hb dX9_turns_3 rfl (lv_at hl 0 rfl) ?_
    refine ggM_0 X E hP inX9_turns_X9 lkX9_turns_0 dX9_turns_4 ?_
    refine lv_icmp_ge (tgt := 32) hx hb dX9_turns_7 (by decide) (fun c1 => ?_) (fun c1 => ?_)
    · have hf := g_ift hf c1
      obtain rfl := g_some hf
      exact kk _ _ _ hP hS (lv_sub hl [0, 1] rfl)
    · have hf := g_iff hf c1
      refine lv_aload_n hx hb dX9_turns_10 rfl (lv_at hl 0 rfl) ?_
      refine ggM_31 X E hP inX9_turns_X9 lkX9_turns_1 dX9_turns_11 ?_
      refine lv_iload_n hx hb dX9_turns_14 rfl (lv_at hl 2 rfl) ?_
      refine lv_aload_n hx hb dX9_turns_15 rfl (lv_at hl 1 rfl) ?_
      refine lv_aload_n hx hb dX9_turns_16 rfl (lv_at hl 0 rfl) ?_
      refine ggM_0 X E hP inX9_turns_X9 lkX9_turns_0 dX9_turns_17 ?_
      refine lv_iconst (v := 1) hx hb dX9_turns_20 (by decide) ?_
      refine lv_isub hx hb dX9_turns_21 ?_
      refine lv_iload_n hx hb dX9_turns_22 rfl (lv_at hl 2 rfl) ?_
      refine lv_isub hx hb dX9_turns_23 ?_
      obtain ⟨b2, hf⟩ := g_if hf
      refine giM_9 X E hP b2 dX9_turns_24 ?_
      obtain ⟨b3, hf⟩ := g_if hf
      refine gsM_31 X E hP hS b3 dX9_turns_25 (fun H locs hP hS => ?_)
      refine lv_iinc (v := (v2 + 1)) (lv' := [(2, .int (v2 + 1)), (0, .ref (ga G 63)), (1, .ref (ga G 9))]) hx hb dX9_turns_26 hl (k := 2) rfl rfl (by decide) rfl (fun ls hl => ?_)
      refine lv_goto (tgt := 2) hx hb dX9_turns_29 (by decide) ?_
      exact ih _ _ _ _ _ _ hf hP hS (lv_sub hl [1, 2, 0] rfl) kk
def fX9_turns_9_34 : Nat → GS → Int32 → Option GS
  | 0, _, _ => none
  | fu + 1, S, v2 =>
    if (S.1 0) ≤ v2 then
      some S
    else
      if v2 < 0 ∨ 16 ≤ (v2).toNatClampNeg then none else
      if v2 < 0 ∨ 16 ≤ (v2).toNatClampNeg then none else
      fX9_turns_9_34 fu (gU3 S 9 (v2).toNatClampNeg (S.2.2.1 31 (v2).toNatClampNeg)) (v2 + 1)
set_option maxHeartbeats 4000000 in
set_option maxRecDepth 100000 in
theorem bX9_turns_9_34 {p : Program} {l : Launch} {e : Env} {s : State} {m : MethodId} {args : Array Value} {below : List Frame} {meth : Method} {c : Code} {Q : State → Prop} {G : GP} (X : GX p s m meth c args cX9_turns 3 none wsX9_turns RX9) (E : gE WM G s)  : ∀ (fu : Nat) (S : GS) (v2 : Int32) (R : GS) (H : Heap) (locs : List Loc) (ls : Array Slot) (_ : fX9_turns_9_34 fu S v2 = some R) (_ : va_P (gD G) vwCl (WM G S ++ gF G) H) (_ : va_S (gA G) s.heap H locs) (_ : lv_has ls 3 [(0, .ref (ga G 63)), (1, .ref (ga G 9)), (2, .int v2)]) (_ : ∀ (H : Heap) (locs : List Loc) (ls : Array Slot), va_P (gD G) vwCl (WM G R ++ gF G) H → va_S (gA G) s.heap H locs → lv_has ls 3 [] → W p l e (gR 0 0) s m args below meth c H locs 0 0 Q (F0 m 57 ls [])), W p l e (gR 0 0) s m args below meth c H locs 0 0 Q (F0 m 34 ls []) := by
  obtain ⟨hx, hb, -, -, hown, hts, -⟩ := id X
  intro fu
  induction fu with
  | zero =>
    intro S v2 R H locs ls hf
    cases (show (none : Option GS) = some R from hf)
  | succ fu ih =>
    intro S v2 R H locs ls hf hP hS hl kk
    rw [fX9_turns_9_34] at hf
    refine lv_iload_n hx hb dX9_turns_34 rfl (lv_at hl 2 rfl) ?_
    refine lv_aload_n hx hb dX9_turns_35 rfl (lv_at hl 0 rfl) ?_
    refine ggM_0 X E hP inX9_turns_X9 lkX9_turns_0 dX9_turns_36 ?_
    refine lv_icmp_ge (tgt := 57) hx hb dX9_turns_39 (by decide) (fun c6 => ?_) (fun c6 => ?_)
    · have hf := g_ift hf c6
      obtain rfl := g_some hf
      exact kk _ _ _ hP hS (lv_sub hl [] rfl)
    · have hf := g_iff hf c6
      refine lv_aload_n hx hb dX9_turns_42 rfl (lv_at hl 1 rfl) ?_
      refine lv_iload_n hx hb dX9_turns_43 rfl (lv_at hl 2 rfl) ?_
      refine lv_aload_n hx hb dX9_turns_44 rfl (lv_at hl 0 rfl) ?_
      refine ggM_31 X E hP inX9_turns_X9 lkX9_turns_1 dX9_turns_45 ?_
      refine lv_iload_n hx hb dX9_turns_48 rfl (lv_at hl 2 rfl) ?_
      obtain ⟨b7, hf⟩ := g_if hf
      refine giM_31 X E hP b7 dX9_turns_49 ?_
      obtain ⟨b8, hf⟩ := g_if hf
      refine gsM_9 X E hP hS b8 dX9_turns_50 (fun H locs hP hS => ?_)
      refine lv_iinc (v := (v2 + 1)) (lv' := [(2, .int (v2 + 1)), (0, .ref (ga G 63)), (1, .ref (ga G 9))]) hx hb dX9_turns_51 hl (k := 2) rfl rfl (by decide) rfl (fun ls hl => ?_)
      refine lv_goto (tgt := 34) hx hb dX9_turns_54 (by decide) ?_
      exact ih _ _ _ _ _ _ hf hP hS (lv_sub hl [1, 2, 0] rfl) kk
def fX9_turns_9 (S : GS)  : Option GS :=
  (fX9_turns_9_2 gFuel S (0 : Int32)).bind fun u4 =>
  (fX9_turns_9_34 gFuel u4 (0 : Int32)).bind fun u9 =>
  some u9
set_option maxHeartbeats 4000000 in
set_option maxRecDepth 100000 in
theorem tcX9_turns_9 (l : Launch) (G : GP) (S : GS)  {R : GS} (hf : fX9_turns_9 S  = some R) : CV l yX9_turns wsX9_turns 0 0 [.ref (ga G 63), .ref (ga G 9)] WM G S R := by
  refine g_met RX9 (cc := cX9_turns) (nL := 3) (ret := none) (by decide) rfl rfl (Nat.le_of_ble_eq_true rfl) ?_
  intro p e s m below meth c ls X E hP hS hl
  have hl : lv_has ls 3 [(0, .ref (ga G 63)), (1, .ref (ga G 9))] := hl
  obtain ⟨hx, hb, -, -, hown, hts, -⟩ := id X
  rw [fX9_turns_9] at hf
  refine lv_iconst (v := 0) hx hb dX9_turns_0 (by decide) ?_
  refine lv_istore_n (lv' := [(2, .int (0 : Int32)), (0, .ref (ga G 63)), (1, .ref (ga G 9))]) hx hb dX9_turns_1 rfl hl (by decide) rfl (fun ls hl => ?_)
  obtain ⟨u4, h5, hf⟩ := g_bind hf
  refine bX9_turns_9_2 X E gFuel _ _ u4 _ _ _ h5 hP hS (lv_sub hl [1, 2, 0] rfl) (fun H locs ls hP hS hl => ?_)
  have hl : lv_has ls 3 [(0, .ref (ga G 63)), (1, .ref (ga G 9))] := hl
  have hP : va_P (gD G) vwCl (WM G u4 ++ gF G) H := hP
  refine lv_iconst (v := 0) hx hb dX9_turns_32 (by decide) ?_
  refine lv_istore_n (lv' := [(2, .int (0 : Int32)), (0, .ref (ga G 63)), (1, .ref (ga G 9))]) hx hb dX9_turns_33 rfl hl (by decide) rfl (fun ls hl => ?_)
  obtain ⟨u9, h10, hf⟩ := g_bind hf
  refine bX9_turns_9_34 X E gFuel _ _ u9 _ _ _ h10 hP hS (lv_sub hl [1, 2, 0] rfl) (fun H locs ls hP hS hl => ?_)
  have hl : lv_has ls 3 [] := hl
  have hP : va_P (gD G) vwCl (WM G u9 ++ gF G) H := hP
  obtain rfl := g_some hf
  exact g_rv X E hP hS dX9_turns_57
def fX9_turns_10_2 : Nat → GS → Int32 → Option GS
  | 0, _, _ => none
  | fu + 1, S, v2 =>
    if (S.1 0) ≤ v2 then
      some S
    else
      if (((S.1 0) - (1 : Int32)) - v2) < 0 ∨ 16 ≤ (((S.1 0) - (1 : Int32)) - v2).toNatClampNeg then none else
      if v2 < 0 ∨ 16 ≤ (v2).toNatClampNeg then none else
      fX9_turns_10_2 fu (gU3 S 31 (v2).toNatClampNeg (S.2.2.1 10 (((S.1 0) - (1 : Int32)) - v2).toNatClampNeg)) (v2 + 1)
set_option maxHeartbeats 4000000 in
set_option maxRecDepth 100000 in
theorem bX9_turns_10_2 {p : Program} {l : Launch} {e : Env} {s : State} {m : MethodId} {args : Array Value} {below : List Frame} {meth : Method} {c : Code} {Q : State → Prop} {G : GP} (X : GX p s m meth c args cX9_turns 3 none wsX9_turns RX9) (E : gE WM G s)  : ∀ (fu : Nat) (S : GS) (v2 : Int32) (R : GS) (H : Heap) (locs : List Loc) (ls : Array Slot) (_ : fX9_turns_10_2 fu S v2 = some R) (_ : va_P (gD G) vwCl (WM G S ++ gF G) H) (_ : va_S (gA G) s.heap H locs) (_ : lv_has ls 3 [(0, .ref (ga G 63)), (1, .ref (ga G 10)), (2, .int v2)]) (_ : ∀ (H : Heap) (locs : List Loc) (ls : Array Slot), va_P (gD G) vwCl (WM G R ++ gF G) H → va_S (gA G) s.heap H locs → lv_has ls 3 [(0, .ref (ga G 63)), (1, .ref (ga G 10))] → W p l e (gR 0 0) s m args below meth c H locs 0 0 Q (F0 m 32 ls [])), W p l e (gR 0 0) s m args below meth c H locs 0 0 Q (F0 m 2 ls []) := by
  obtain ⟨hx, hb, -, -, hown, hts, -⟩ := id X
  intro fu
  induction fu with
  | zero =>
    intro S v2 R H locs ls hf
    cases (show (none : Option GS) = some R from hf)
  | succ fu ih =>
    intro S v2 R H locs ls hf hP hS hl kk
    rw [fX9_turns_10_2] at hf
    refine lv_iload_n hx hb dX9_turns_2 rfl (lv_at hl 2 rfl) ?_
    refine lv_aload_n hx hb dX9_turns_3 rfl (lv_at hl 0 rfl) ?_
    refine ggM_0 X E hP inX9_turns_X9 lkX9_turns_0 dX9_turns_4 ?_
    refine lv_icmp_ge (tgt := 32) hx hb dX9_turns_7 (by decide) (fun c1 => ?_) (fun c1 => ?_)
    · have hf := g_ift hf c1
      obtain rfl := g_some hf
      exact kk _ _ _ hP hS (lv_sub hl [0, 1] rfl)
    · have hf := g_iff hf c1
      refine lv_aload_n hx hb dX9_turns_10 rfl (lv_at hl 0 rfl) ?_
      refine ggM_31 X E hP inX9_turns_X9 lkX9_turns_1 dX9_turns_11 ?_
      refine lv_iload_n hx hb dX9_turns_14 rfl (lv_at hl 2 rfl) ?_
      refine lv_aload_n hx hb dX9_turns_15 rfl (lv_at hl 1 rfl) ?_
      refine lv_aload_n hx hb dX9_turns_16 rfl (lv_at hl 0 rfl) ?_
      refine ggM_0 X E hP inX9_turns_X9 lkX9_turns_0 dX9_turns_17 ?_
      refine lv_iconst (v := 1) hx hb dX9_turns_20 (by decide) ?_
      refine lv_isub hx hb dX9_turns_21 ?_
      refine lv_iload_n hx hb dX9_turns_22 rfl (lv_at hl 2 rfl) ?_
      refine lv_isub hx hb dX9_turns_23 ?_
      obtain ⟨b2, hf⟩ := g_if hf
      refine giM_10 X E hP b2 dX9_turns_24 ?_
      obtain ⟨b3, hf⟩ := g_if hf
      refine gsM_31 X E hP hS b3 dX9_turns_25 (fun H locs hP hS => ?_)
      refine lv_iinc (v := (v2 + 1)) (lv' := [(2, .int (v2 + 1)), (0, .ref (ga G 63)), (1, .ref (ga G 10))]) hx hb dX9_turns_26 hl (k := 2) rfl rfl (by decide) rfl (fun ls hl => ?_)
      refine lv_goto (tgt := 2) hx hb dX9_turns_29 (by decide) ?_
      exact ih _ _ _ _ _ _ hf hP hS (lv_sub hl [1, 2, 0] rfl) kk
def fX9_turns_10_34 : Nat → GS → Int32 → Option GS
  | 0, _, _ => none
  | fu + 1, S, v2 =>
    if (S.1 0) ≤ v2 then
      some S
    else
      if v2 < 0 ∨ 16 ≤ (v2).toNatClampNeg then none else
      if v2 < 0 ∨ 16 ≤ (v2).toNatClampNeg then none else
      fX9_turns_10_34 fu (gU3 S 10 (v2).toNatClampNeg (S.2.2.1 31 (v2).toNatClampNeg)) (v2 + 1)
set_option maxHeartbeats 4000000 in
set_option maxRecDepth 100000 in
theorem bX9_turns_10_34 {p : Program} {l : Launch} {e : Env} {s : State} {m : MethodId} {args : Array Value} {below : List Frame} {meth : Method} {c : Code} {Q : State → Prop} {G : GP} (X : GX p s m meth c args cX9_turns 3 none wsX9_turns RX9) (E : gE WM G s)  : ∀ (fu : Nat) (S : GS) (v2 : Int32) (R : GS) (H : Heap) (locs : List Loc) (ls : Array Slot) (_ : fX9_turns_10_34 fu S v2 = some R) (_ : va_P (gD G) vwCl (WM G S ++ gF G) H) (_ : va_S (gA G) s.heap H locs) (_ : lv_has ls 3 [(0, .ref (ga G 63)), (1, .ref (ga G 10)), (2, .int v2)]) (_ : ∀ (H : Heap) (locs : List Loc) (ls : Array Slot), va_P (gD G) vwCl (WM G R ++ gF G) H → va_S (gA G) s.heap H locs → lv_has ls 3 [] → W p l e (gR 0 0) s m args below meth c H locs 0 0 Q (F0 m 57 ls [])), W p l e (gR 0 0) s m args below meth c H locs 0 0 Q (F0 m 34 ls []) := by
  obtain ⟨hx, hb, -, -, hown, hts, -⟩ := id X
  intro fu
  induction fu with
  | zero =>
    intro S v2 R H locs ls hf
    cases (show (none : Option GS) = some R from hf)
  | succ fu ih =>
    intro S v2 R H locs ls hf hP hS hl kk
    rw [fX9_turns_10_34] at hf
    refine lv_iload_n hx hb dX9_turns_34 rfl (lv_at hl 2 rfl) ?_
    refine lv_aload_n hx hb dX9_turns_35 rfl (lv_at hl 0 rfl) ?_
    refine ggM_0 X E hP inX9_turns_X9 lkX9_turns_0 dX9_turns_36 ?_
    refine lv_icmp_ge (tgt := 57) hx hb dX9_turns_39 (by decide) (fun c6 => ?_) (fun c6 => ?_)
    · have hf := g_ift hf c6
      obtain rfl := g_some hf
      exact kk _ _ _ hP hS (lv_sub hl [] rfl)
    · have hf := g_iff hf c6
      refine lv_aload_n hx hb dX9_turns_42 rfl (lv_at hl 1 rfl) ?_
      refine lv_iload_n hx hb dX9_turns_43 rfl (lv_at hl 2 rfl) ?_
      refine lv_aload_n hx hb dX9_turns_44 rfl (lv_at hl 0 rfl) ?_
      refine ggM_31 X E hP inX9_turns_X9 lkX9_turns_1 dX9_turns_45 ?_
      refine lv_iload_n hx hb dX9_turns_48 rfl (lv_at hl 2 rfl) ?_
      obtain ⟨b7, hf⟩ := g_if hf
      refine giM_31 X E hP b7 dX9_turns_49 ?_
      obtain ⟨b8, hf⟩ := g_if hf
      refine gsM_10 X E hP hS b8 dX9_turns_50 (fun H locs hP hS => ?_)
      refine lv_iinc (v := (v2 + 1)) (lv' := [(2, .int (v2 + 1)), (0, .ref (ga G 63)), (1, .ref (ga G 10))]) hx hb dX9_turns_51 hl (k := 2) rfl rfl (by decide) rfl (fun ls hl => ?_)
      refine lv_goto (tgt := 34) hx hb dX9_turns_54 (by decide) ?_
      exact ih _ _ _ _ _ _ hf hP hS (lv_sub hl [1, 2, 0] rfl) kk
def fX9_turns_10 (S : GS)  : Option GS :=
  (fX9_turns_10_2 gFuel S (0 : Int32)).bind fun u4 =>
  (fX9_turns_10_34 gFuel u4 (0 : Int32)).bind fun u9 =>
  some u9
set_option maxHeartbeats 4000000 in
set_option maxRecDepth 100000 in
theorem tcX9_turns_10 (l : Launch) (G : GP) (S : GS)  {R : GS} (hf : fX9_turns_10 S  = some R) : CV l yX9_turns wsX9_turns 0 0 [.ref (ga G 63), .ref (ga G 10)] WM G S R := by
  refine g_met RX9 (cc := cX9_turns) (nL := 3) (ret := none) (by decide) rfl rfl (Nat.le_of_ble_eq_true rfl) ?_
  intro p e s m below meth c ls X E hP hS hl
  have hl : lv_has ls 3 [(0, .ref (ga G 63)), (1, .ref (ga G 10))] := hl
  obtain ⟨hx, hb, -, -, hown, hts, -⟩ := id X
  rw [fX9_turns_10] at hf
  refine lv_iconst (v := 0) hx hb dX9_turns_0 (by decide) ?_
  refine lv_istore_n (lv' := [(2, .int (0 : Int32)), (0, .ref (ga G 63)), (1, .ref (ga G 10))]) hx hb dX9_turns_1 rfl hl (by decide) rfl (fun ls hl => ?_)
  obtain ⟨u4, h5, hf⟩ := g_bind hf
  refine bX9_turns_10_2 X E gFuel _ _ u4 _ _ _ h5 hP hS (lv_sub hl [1, 2, 0] rfl) (fun H locs ls hP hS hl => ?_)
  have hl : lv_has ls 3 [(0, .ref (ga G 63)), (1, .ref (ga G 10))] := hl
  have hP : va_P (gD G) vwCl (WM G u4 ++ gF G) H := hP
  refine lv_iconst (v := 0) hx hb dX9_turns_32 (by decide) ?_
  refine lv_istore_n (lv' := [(2, .int (0 : Int32)), (0, .ref (ga G 63)), (1, .ref (ga G 10))]) hx hb dX9_turns_33 rfl hl (by decide) rfl (fun ls hl => ?_)
  obtain ⟨u9, h10, hf⟩ := g_bind hf
  refine bX9_turns_10_34 X E gFuel _ _ u9 _ _ _ h10 hP hS (lv_sub hl [1, 2, 0] rfl) (fun H locs ls hP hS hl => ?_)
  have hl : lv_has ls 3 [] := hl
  have hP : va_P (gD G) vwCl (WM G u9 ++ gF G) H := hP
  obtain rfl := g_some hf
  exact g_rv X E hP hS dX9_turns_57
def fX9_turns_11_2 : Nat → GS → Int32 → Option GS
  | 0, _, _ => none
  | fu + 1, S, v2 =>
    if (S.1 0) ≤ v2 then
      some S
    else
      if (((S.1 0) - (1 : Int32)) - v2) < 0 ∨ 16 ≤ (((S.1 0) - (1 : Int32)) - v2).toNatClampNeg then none else
      if v2 < 0 ∨ 16 ≤ (v2).toNatClampNeg then none else
      fX9_turns_11_2 fu (gU3 S 31 (v2).toNatClampNeg (S.2.2.1 11 (((S.1 0) - (1 : Int32)) - v2).toNatClampNeg)) (v2 + 1)
set_option maxHeartbeats 4000000 in
set_option maxRecDepth 100000 in
theorem bX9_turns_11_2 {p : Program} {l : Launch} {e : Env} {s : State} {m : MethodId} {args : Array Value} {below : List Frame} {meth : Method} {c : Code} {Q : State → Prop} {G : GP} (X : GX p s m meth c args cX9_turns 3 none wsX9_turns RX9) (E : gE WM G s)  : ∀ (fu : Nat) (S : GS) (v2 : Int32) (R : GS) (H : Heap) (locs : List Loc) (ls : Array Slot) (_ : fX9_turns_11_2 fu S v2 = some R) (_ : va_P (gD G) vwCl (WM G S ++ gF G) H) (_ : va_S (gA G) s.heap H locs) (_ : lv_has ls 3 [(0, .ref (ga G 63)), (1, .ref (ga G 11)), (2, .int v2)]) (_ : ∀ (H : Heap) (locs : List Loc) (ls : Array Slot), va_P (gD G) vwCl (WM G R ++ gF G) H → va_S (gA G) s.heap H locs → lv_has ls 3 [(0, .ref (ga G 63)), (1, .ref (ga G 11))] → W p l e (gR 0 0) s m args below meth c H locs 0 0 Q (F0 m 32 ls [])), W p l e (gR 0 0) s m args below meth c H locs 0 0 Q (F0 m 2 ls []) := by
  obtain ⟨hx, hb, -, -, hown, hts, -⟩ := id X
  intro fu
  induction fu with
  | zero =>
    intro S v2 R H locs ls hf
    cases (show (none : Option GS) = some R from hf)
  | succ fu ih =>
    intro S v2 R H locs ls hf hP hS hl kk
    rw [fX9_turns_11_2] at hf
    refine lv_iload_n hx hb dX9_turns_2 rfl (lv_at hl 2 rfl) ?_
    refine lv_aload_n hx hb dX9_turns_3 rfl (lv_at hl 0 rfl) ?_
    refine ggM_0 X E hP inX9_turns_X9 lkX9_turns_0 dX9_turns_4 ?_
    refine lv_icmp_ge (tgt := 32) hx hb dX9_turns_7 (by decide) (fun c1 => ?_) (fun c1 => ?_)
    · have hf := g_ift hf c1
      obtain rfl := g_some hf
      exact kk _ _ _ hP hS (lv_sub hl [0, 1] rfl)
    · have hf := g_iff hf c1
      refine lv_aload_n hx hb dX9_turns_10 rfl (lv_at hl 0 rfl) ?_
      refine ggM_31 X E hP inX9_turns_X9 lkX9_turns_1 dX9_turns_11 ?_
      refine lv_iload_n hx hb dX9_turns_14 rfl (lv_at hl 2 rfl) ?_
      refine lv_aload_n hx hb dX9_turns_15 rfl (lv_at hl 1 rfl) ?_
      refine lv_aload_n hx hb dX9_turns_16 rfl (lv_at hl 0 rfl) ?_
      refine ggM_0 X E hP inX9_turns_X9 lkX9_turns_0 dX9_turns_17 ?_
      refine lv_iconst (v := 1) hx hb dX9_turns_20 (by decide) ?_
      refine lv_isub hx hb dX9_turns_21 ?_
      refine lv_iload_n hx hb dX9_turns_22 rfl (lv_at hl 2 rfl) ?_
      refine lv_isub hx hb dX9_turns_23 ?_
      obtain ⟨b2, hf⟩ := g_if hf
      refine giM_11 X E hP b2 dX9_turns_24 ?_
      obtain ⟨b3, hf⟩ := g_if hf
      refine gsM_31 X E hP hS b3 dX9_turns_25 (fun H locs hP hS => ?_)
      refine lv_iinc (v := (v2 + 1)) (lv' := [(2, .int (v2 + 1)), (0, .ref (ga G 63)), (1, .ref (ga G 11))]) hx hb dX9_turns_26 hl (k := 2) rfl rfl (by decide) rfl (fun ls hl => ?_)
      refine lv_goto (tgt := 2) hx hb dX9_turns_29 (by decide) ?_
      exact ih _ _ _ _ _ _ hf hP hS (lv_sub hl [1, 2, 0] rfl) kk
def fX9_turns_11_34 : Nat → GS → Int32 → Option GS
  | 0, _, _ => none
  | fu + 1, S, v2 =>
    if (S.1 0) ≤ v2 then
      some S
    else
      if v2 < 0 ∨ 16 ≤ (v2).toNatClampNeg then none else
      if v2 < 0 ∨ 16 ≤ (v2).toNatClampNeg then none else
      fX9_turns_11_34 fu (gU3 S 11 (v2).toNatClampNeg (S.2.2.1 31 (v2).toNatClampNeg)) (v2 + 1)
set_option maxHeartbeats 4000000 in
set_option maxRecDepth 100000 in
theorem bX9_turns_11_34 {p : Program} {l : Launch} {e : Env} {s : State} {m : MethodId} {args : Array Value} {below : List Frame} {meth : Method} {c : Code} {Q : State → Prop} {G : GP} (X : GX p s m meth c args cX9_turns 3 none wsX9_turns RX9) (E : gE WM G s)  : ∀ (fu : Nat) (S : GS) (v2 : Int32) (R : GS) (H : Heap) (locs : List Loc) (ls : Array Slot) (_ : fX9_turns_11_34 fu S v2 = some R) (_ : va_P (gD G) vwCl (WM G S ++ gF G) H) (_ : va_S (gA G) s.heap H locs) (_ : lv_has ls 3 [(0, .ref (ga G 63)), (1, .ref (ga G 11)), (2, .int v2)]) (_ : ∀ (H : Heap) (locs : List Loc) (ls : Array Slot), va_P (gD G) vwCl (WM G R ++ gF G) H → va_S (gA G) s.heap H locs → lv_has ls 3 [] → W p l e (gR 0 0) s m args below meth c H locs 0 0 Q (F0 m 57 ls [])), W p l e (gR 0 0) s m args below meth c H locs 0 0 Q (F0 m 34 ls []) := by
  obtain ⟨hx, hb, -, -, hown, hts, -⟩ := id X
  intro fu
  induction fu with
  | zero =>
    intro S v2 R H locs ls hf
    cases (show (none : Option GS) = some R from hf)
  | succ fu ih =>
    intro S v2 R H locs ls hf hP hS hl kk
    rw [fX9_turns_11_34] at hf
    refine lv_iload_n hx hb dX9_turns_34 rfl (lv_at hl 2 rfl) ?_
    refine lv_aload_n hx hb dX9_turns_35 rfl (lv_at hl 0 rfl) ?_
    refine ggM_0 X E hP inX9_turns_X9 lkX9_turns_0 dX9_turns_36 ?_
    refine lv_icmp_ge (tgt := 57) hx hb dX9_turns_39 (by decide) (fun c6 => ?_) (fun c6 => ?_)
    · have hf := g_ift hf c6
      obtain rfl := g_some hf
      exact kk _ _ _ hP hS (lv_sub hl [] rfl)
    · have hf := g_iff hf c6
      refine lv_aload_n hx hb dX9_turns_42 rfl (lv_at hl 1 rfl) ?_
      refine lv_iload_n hx hb dX9_turns_43 rfl (lv_at hl 2 rfl) ?_
      refine lv_aload_n hx hb dX9_turns_44 rfl (lv_at hl 0 rfl) ?_
      refine ggM_31 X E hP inX9_turns_X9 lkX9_turns_1 dX9_turns_45 ?_
      refine lv_iload_n hx hb dX9_turns_48 rfl (lv_at hl 2 rfl) ?_
      obtain ⟨b7, hf⟩ := g_if hf
      refine giM_31 X E hP b7 dX9_turns_49 ?_
      obtain ⟨b8, hf⟩ := g_if hf
      refine gsM_11 X E hP hS b8 dX9_turns_50 (fun H locs hP hS => ?_)
      refine lv_iinc (v := (v2 + 1)) (lv' := [(2, .int (v2 + 1)), (0, .ref (ga G 63)), (1, .ref (ga G 11))]) hx hb dX9_turns_51 hl (k := 2) rfl rfl (by decide) rfl (fun ls hl => ?_)
      refine lv_goto (tgt := 34) hx hb dX9_turns_54 (by decide) ?_
      exact ih _ _ _ _ _ _ hf hP hS (lv_sub hl [1, 2, 0] rfl) kk
def fX9_turns_11 (S : GS)  : Option GS :=
  (fX9_turns_11_2 gFuel S (0 : Int32)).bind fun u4 =>
  (fX9_turns_11_34 gFuel u4 (0 : Int32)).bind fun u9 =>
  some u9
set_option maxHeartbeats 4000000 in
set_option maxRecDepth 100000 in
theorem tcX9_turns_11 (l : Launch) (G : GP) (S : GS)  {R : GS} (hf : fX9_turns_11 S  = some R) : CV l yX9_turns wsX9_turns 0 0 [.ref (ga G 63), .ref (ga G 11)] WM G S R := by
  refine g_met RX9 (cc := cX9_turns) (nL := 3) (ret := none) (by decide) rfl rfl (Nat.le_of_ble_eq_true rfl) ?_
  intro p e s m below meth c ls X E hP hS hl
  have hl : lv_has ls 3 [(0, .ref (ga G 63)), (1, .ref (ga G 11))] := hl
  obtain ⟨hx, hb, -, -, hown, hts, -⟩ := id X
  rw [fX9_turns_11] at hf
  refine lv_iconst (v := 0) hx hb dX9_turns_0 (by decide) ?_
  refine lv_istore_n (lv' := [(2, .int (0 : Int32)), (0, .ref (ga G 63)), (1, .ref (ga G 11))]) hx hb dX9_turns_1 rfl hl (by decide) rfl (fun ls hl => ?_)
  obtain ⟨u4, h5, hf⟩ := g_bind hf
  refine bX9_turns_11_2 X E gFuel _ _ u4 _ _ _ h5 hP hS (lv_sub hl [1, 2, 0] rfl) (fun H locs ls hP hS hl => ?_)
  have hl : lv_has ls 3 [(0, .ref (ga G 63)), (1, .ref (ga G 11))] := hl
  have hP : va_P (gD G) vwCl (WM G u4 ++ gF G) H := hP
  refine lv_iconst (v := 0) hx hb dX9_turns_32 (by decide) ?_
  refine lv_istore_n (lv' := [(2, .int (0 : Int32)), (0, .ref (ga G 63)), (1, .ref (ga G 11))]) hx hb dX9_turns_33 rfl hl (by decide) rfl (fun ls hl => ?_)
  obtain ⟨u9, h10, hf⟩ := g_bind hf
  refine bX9_turns_11_34 X E gFuel _ _ u9 _ _ _ h10 hP hS (lv_sub hl [1, 2, 0] rfl) (fun H locs ls hP hS hl => ?_)
  have hl : lv_has ls 3 [] := hl
  have hP : va_P (gD G) vwCl (WM G u9 ++ gF G) H := hP
  obtain rfl := g_some hf
  exact g_rv X E hP hS dX9_turns_57
def fX9_turns_12_2 : Nat → GS → Int32 → Option GS
  | 0, _, _ => none
  | fu + 1, S, v2 =>
    if (S.1 0) ≤ v2 then
      some S
    else
      if (((S.1 0) - (1 : Int32)) - v2) < 0 ∨ 16 ≤ (((S.1 0) - (1 : Int32)) - v2).toNatClampNeg then none else
      if v2 < 0 ∨ 16 ≤ (v2).toNatClampNeg then none else
      fX9_turns_12_2 fu (gU3 S 31 (v2).toNatClampNeg (S.2.2.1 12 (((S.1 0) - (1 : Int32)) - v2).toNatClampNeg)) (v2 + 1)
set_option maxHeartbeats 4000000 in
set_option maxRecDepth 100000 in
theorem bX9_turns_12_2 {p : Program} {l : Launch} {e : Env} {s : State} {m : MethodId} {args : Array Value} {below : List Frame} {meth : Method} {c : Code} {Q : State → Prop} {G : GP} (X : GX p s m meth c args cX9_turns 3 none wsX9_turns RX9) (E : gE WM G s)  : ∀ (fu : Nat) (S : GS) (v2 : Int32) (R : GS) (H : Heap) (locs : List Loc) (ls : Array Slot) (_ : fX9_turns_12_2 fu S v2 = some R) (_ : va_P (gD G) vwCl (WM G S ++ gF G) H) (_ : va_S (gA G) s.heap H locs) (_ : lv_has ls 3 [(0, .ref (ga G 63)), (1, .ref (ga G 12)), (2, .int v2)]) (_ : ∀ (H : Heap) (locs : List Loc) (ls : Array Slot), va_P (gD G) vwCl (WM G R ++ gF G) H → va_S (gA G) s.heap H locs → lv_has ls 3 [(0, .ref (ga G 63)), (1, .ref (ga G 12))] → W p l e (gR 0 0) s m args below meth c H locs 0 0 Q (F0 m 32 ls [])), W p l e (gR 0 0) s m args below meth c H locs 0 0 Q (F0 m 2 ls []) := by
  obtain ⟨hx, hb, -, -, hown, hts, -⟩ := id X
  intro fu
  induction fu with
  | zero =>
    intro S v2 R H locs ls hf
    cases (show (none : Option GS) = some R from hf)
  | succ fu ih =>
    intro S v2 R H locs ls hf hP hS hl kk
    rw [fX9_turns_12_2] at hf
    refine lv_iload_n hx hb dX9_turns_2 rfl (lv_at hl 2 rfl) ?_
    refine lv_aload_n hx hb dX9_turns_3 rfl (lv_at hl 0 rfl) ?_
    refine ggM_0 X E hP inX9_turns_X9 lkX9_turns_0 dX9_turns_4 ?_
    refine lv_icmp_ge (tgt := 32) hx hb dX9_turns_7 (by decide) (fun c1 => ?_) (fun c1 => ?_)
    · have hf := g_ift hf c1
      obtain rfl := g_some hf
      exact kk _ _ _ hP hS (lv_sub hl [0, 1] rfl)
    · have hf := g_iff hf c1
      refine lv_aload_n hx hb dX9_turns_10 rfl (lv_at hl 0 rfl) ?_
      refine ggM_31 X E hP inX9_turns_X9 lkX9_turns_1 dX9_turns_11 ?_
      refine lv_iload_n hx hb dX9_turns_14 rfl (lv_at hl 2 rfl) ?_
      refine lv_aload_n hx hb dX9_turns_15 rfl (lv_at hl 1 rfl) ?_
      refine lv_aload_n hx hb dX9_turns_16 rfl (lv_at hl 0 rfl) ?_
      refine ggM_0 X E hP inX9_turns_X9 lkX9_turns_0 dX9_turns_17 ?_
      refine lv_iconst (v := 1) hx hb dX9_turns_20 (by decide) ?_
      refine lv_isub hx hb dX9_turns_21 ?_
      refine lv_iload_n hx hb dX9_turns_22 rfl (lv_at hl 2 rfl) ?_
      refine lv_isub hx hb dX9_turns_23 ?_
      obtain ⟨b2, hf⟩ := g_if hf
      refine giM_12 X E hP b2 dX9_turns_24 ?_
      obtain ⟨b3, hf⟩ := g_if hf
      refine gsM_31 X E hP hS b3 dX9_turns_25 (fun H locs hP hS => ?_)
      refine lv_iinc (v := (v2 + 1)) (lv' := [(2, .int (v2 + 1)), (0, .ref (ga G 63)), (1, .ref (ga G 12))]) hx hb dX9_turns_26 hl (k := 2) rfl rfl (by decide) rfl (fun ls hl => ?_)
      refine lv_goto (tgt := 2) hx hb dX9_turns_29 (by decide) ?_
      exact ih _ _ _ _ _ _ hf hP hS (lv_sub hl [1, 2, 0] rfl) kk
def fX9_turns_12_34 : Nat → GS → Int32 → Option GS
  | 0, _, _ => none
  | fu + 1, S, v2 =>
    if (S.1 0) ≤ v2 then
      some S
    else
      if v2 < 0 ∨ 16 ≤ (v2).toNatClampNeg then none else
      if v2 < 0 ∨ 16 ≤ (v2).toNatClampNeg then none else
      fX9_turns_12_34 fu (gU3 S 12 (v2).toNatClampNeg (S.2.2.1 31 (v2).toNatClampNeg)) (v2 + 1)
set_option maxHeartbeats 4000000 in
set_option maxRecDepth 100000 in
theorem bX9_turns_12_34 {p : Program} {l : Launch} {e : Env} {s : State} {m : MethodId} {args : Array Value} {below : List Frame} {meth : Method} {c : Code} {Q : State → Prop} {G : GP} (X : GX p s m meth c args cX9_turns 3 none wsX9_turns RX9) (E : gE WM G s)  : ∀ (fu : Nat) (S : GS) (v2 : Int32) (R : GS) (H : Heap) (locs : List Loc) (ls : Array Slot) (_ : fX9_turns_12_34 fu S v2 = some R) (_ : va_P (gD G) vwCl (WM G S ++ gF G) H) (_ : va_S (gA G) s.heap H locs) (_ : lv_has ls 3 [(0, .ref (ga G 63)), (1, .ref (ga G 12)), (2, .int v2)]) (_ : ∀ (H : Heap) (locs : List Loc) (ls : Array Slot), va_P (gD G) vwCl (WM G R ++ gF G) H → va_S (gA G) s.heap H locs → lv_has ls 3 [] → W p l e (gR 0 0) s m args below meth c H locs 0 0 Q (F0 m 57 ls [])), W p l e (gR 0 0) s m args below meth c H locs 0 0 Q (F0 m 34 ls []) := by
  obtain ⟨hx, hb, -, -, hown, hts, -⟩ := id X
  intro fu
  induction fu with
  | zero =>
    intro S v2 R H locs ls hf
    cases (show (none : Option GS) = some R from hf)
  | succ fu ih =>
    intro S v2 R H locs ls hf hP hS hl kk
    rw [fX9_turns_12_34] at hf
    refine lv_iload_n hx hb dX9_turns_34 rfl (lv_at hl 2 rfl) ?_
    refine lv_aload_n hx hb dX9_turns_35 rfl (lv_at hl 0 rfl) ?_
    refine ggM_0 X E hP inX9_turns_X9 lkX9_turns_0 dX9_turns_36 ?_
    refine lv_icmp_ge (tgt := 57) hx hb dX9_turns_39 (by decide) (fun c6 => ?_) (fun c6 => ?_)
    · have hf := g_ift hf c6
      obtain rfl := g_some hf
      exact kk _ _ _ hP hS (lv_sub hl [] rfl)
    · have hf := g_iff hf c6
      refine lv_aload_n hx hb dX9_turns_42 rfl (lv_at hl 1 rfl) ?_
      refine lv_iload_n hx hb dX9_turns_43 rfl (lv_at hl 2 rfl) ?_
      refine lv_aload_n hx hb dX9_turns_44 rfl (lv_at hl 0 rfl) ?_
      refine ggM_31 X E hP inX9_turns_X9 lkX9_turns_1 dX9_turns_45 ?_
      refine lv_iload_n hx hb dX9_turns_48 rfl (lv_at hl 2 rfl) ?_
      obtain ⟨b7, hf⟩ := g_if hf
      refine giM_31 X E hP b7 dX9_turns_49 ?_
      obtain ⟨b8, hf⟩ := g_if hf
      refine gsM_12 X E hP hS b8 dX9_turns_50 (fun H locs hP hS => ?_)
      refine lv_iinc (v := (v2 + 1)) (lv' := [(2, .int (v2 + 1)), (0, .ref (ga G 63)), (1, .ref (ga G 12))]) hx hb dX9_turns_51 hl (k := 2) rfl rfl (by decide) rfl (fun ls hl => ?_)
      refine lv_goto (tgt := 34) hx hb dX9_turns_54 (by decide) ?_
      exact ih _ _ _ _ _ _ hf hP hS (lv_sub hl [1, 2, 0] rfl) kk
def fX9_turns_12 (S : GS)  : Option GS :=
  (fX9_turns_12_2 gFuel S (0 : Int32)).bind fun u4 =>
  (fX9_turns_12_34 gFuel u4 (0 : Int32)).bind fun u9 =>
  some u9
set_option maxHeartbeats 4000000 in
set_option maxRecDepth 100000 in
theorem tcX9_turns_12 (l : Launch) (G : GP) (S : GS)  {R : GS} (hf : fX9_turns_12 S  = some R) : CV l yX9_turns wsX9_turns 0 0 [.ref (ga G 63), .ref (ga G 12)] WM G S R := by
  refine g_met RX9 (cc := cX9_turns) (nL := 3) (ret := none) (by decide) rfl rfl (Nat.le_of_ble_eq_true rfl) ?_
  intro p e s m below meth c ls X E hP hS hl
  have hl : lv_has ls 3 [(0, .ref (ga G 63)), (1, .ref (ga G 12))] := hl
  obtain ⟨hx, hb, -, -, hown, hts, -⟩ := id X
  rw [fX9_turns_12] at hf
  refine lv_iconst (v := 0) hx hb dX9_turns_0 (by decide) ?_
  refine lv_istore_n (lv' := [(2, .int (0 : Int32)), (0, .ref (ga G 63)), (1, .ref (ga G 12))]) hx hb dX9_turns_1 rfl hl (by decide) rfl (fun ls hl => ?_)
  obtain ⟨u4, h5, hf⟩ := g_bind hf
  refine bX9_turns_12_2 X E gFuel _ _ u4 _ _ _ h5 hP hS (lv_sub hl [1, 2, 0] rfl) (fun H locs ls hP hS hl => ?_)
  have hl : lv_has ls 3 [(0, .ref (ga G 63)), (1, .ref (ga G 12))] := hl
  have hP : va_P (gD G) vwCl (WM G u4 ++ gF G) H := hP
  refine lv_iconst (v := 0) hx hb dX9_turns_32 (by decide) ?_
  refine lv_istore_n (lv' := [(2, .int (0 : Int32)), (0, .ref (ga G 63)), (1, .ref (ga G 12))]) hx hb dX9_turns_33 rfl hl (by decide) rfl (fun ls hl => ?_)
  obtain ⟨u9, h10, hf⟩ := g_bind hf
  refine bX9_turns_12_34 X E gFuel _ _ u9 _ _ _ h10 hP hS (lv_sub hl [1, 2, 0] rfl) (fun H locs ls hP hS hl => ?_)
  have hl : lv_has ls 3 [] := hl
  have hP : va_P (gD G) vwCl (WM G u9 ++ gF G) H := hP
  obtain rfl := g_some hf
  exact g_rv X E hP hS dX9_turns_57
def fX9_turns_13_2 : Nat → GS → Int32 → Option GS
  | 0, _, _ => none
  | fu + 1, S, v2 =>
    if (S.1 0) ≤ v2 then
      some S
    else
      if (((S.1 0) - (1 : Int32)) - v2) < 0 ∨ 16 ≤ (((S.1 0) - (1 : Int32)) - v2).toNatClampNeg then none else
      if v2 < 0 ∨ 16 ≤ (v2).toNatClampNeg then none else
      fX9_turns_13_2 fu (gU3 S 31 (v2).toNatClampNeg (S.2.2.1 13 (((S.1 0) - (1 : Int32)) - v2).toNatClampNeg)) (v2 + 1)
set_option maxHeartbeats 4000000 in
set_option maxRecDepth 100000 in
theorem bX9_turns_13_2 {p : Program} {l : Launch} {e : Env} {s : State} {m : MethodId} {args : Array Value} {below : List Frame} {meth : Method} {c : Code} {Q : State → Prop} {G : GP} (X : GX p s m meth c args cX9_turns 3 none wsX9_turns RX9) (E : gE WM G s)  : ∀ (fu : Nat) (S : GS) (v2 : Int32) (R : GS) (H : Heap) (locs : List Loc) (ls : Array Slot) (_ : fX9_turns_13_2 fu S v2 = some R) (_ : va_P (gD G) vwCl (WM G S ++ gF G) H) (_ : va_S (gA G) s.heap H locs) (_ : lv_has ls 3 [(0, .ref (ga G 63)), (1, .ref (ga G 13)), (2, .int v2)]) (_ : ∀ (H : Heap) (locs : List Loc) (ls : Array Slot), va_P (gD G) vwCl (WM G R ++ gF G) H → va_S (gA G) s.heap H locs → lv_has ls 3 [(0, .ref (ga G 63)), (1, .ref (ga G 13))] → W p l e (gR 0 0) s m args below meth c H locs 0 0 Q (F0 m 32 ls [])), W p l e (gR 0 0) s m args below meth c H locs 0 0 Q (F0 m 2 ls []) := by
  obtain ⟨hx, hb, -, -, hown, hts, -⟩ := id X
  intro fu
  induction fu with
  | zero =>
    intro S v2 R H locs ls hf
    cases (show (none : Option GS) = some R from hf)
  | succ fu ih =>
    intro S v2 R H locs ls hf hP hS hl kk
    rw [fX9_turns_13_2] at hf
    refine lv_iload_n hx hb dX9_turns_2 rfl (lv_at hl 2 rfl) ?_
    refine lv_aload_n hx hb dX9_turns_3 rfl (lv_at hl 0 rfl) ?_
    refine ggM_0 X E hP inX9_turns_X9 lkX9_turns_0 dX9_turns_4 ?_
    refine lv_icmp_ge (tgt := 32) hx hb dX9_turns_7 (by decide) (fun c1 => ?_) (fun c1 => ?_)
    · have hf := g_ift hf c1
      obtain rfl := g_some hf
      exact kk _ _ _ hP hS (lv_sub hl [0, 1] rfl)
    · have hf := g_iff hf c1
      refine lv_aload_n hx hb dX9_turns_10 rfl (lv_at hl 0 rfl) ?_
      refine ggM_31 X E hP inX9_turns_X9 lkX9_turns_1 dX9_turns_11 ?_
      refine lv_iload_n hx hb dX9_turns_14 rfl (lv_at hl 2 rfl) ?_
      refine lv_aload_n hx hb dX9_turns_15 rfl (lv_at hl 1 rfl) ?_
      refine lv_aload_n hx hb dX9_turns_16 rfl (lv_at hl 0 rfl) ?_
      refine ggM_0 X E hP inX9_turns_X9 lkX9_turns_0 dX9_turns_17 ?_
      refine lv_iconst (v := 1) hx hb dX9_turns_20 (by decide) ?_
      refine lv_isub hx hb dX9_turns_21 ?_
      refine lv_iload_n hx hb dX9_turns_22 rfl (lv_at hl 2 rfl) ?_
      refine lv_isub hx hb dX9_turns_23 ?_
      obtain ⟨b2, hf⟩ := g_if hf
      refine giM_13 X E hP b2 dX9_turns_24 ?_
      obtain ⟨b3, hf⟩ := g_if hf
      refine gsM_31 X E hP hS b3 dX9_turns_25 (fun H locs hP hS => ?_)
      refine lv_iinc (v := (v2 + 1)) (lv' := [(2, .int (v2 + 1)), (0, .ref (ga G 63)), (1, .ref (ga G 13))]) hx hb dX9_turns_26 hl (k := 2) rfl rfl (by decide) rfl (fun ls hl => ?_)
      refine lv_goto (tgt := 2) hx hb dX9_turns_29 (by decide) ?_
      exact ih _ _ _ _ _ _ hf hP hS (lv_sub hl [1, 2, 0] rfl) kk
def fX9_turns_13_34 : Nat → GS → Int32 → Option GS
  | 0, _, _ => none
  | fu + 1, S, v2 =>
    if (S.1 0) ≤ v2 then
      some S
    else
      if v2 < 0 ∨ 16 ≤ (v2).toNatClampNeg then none else
      if v2 < 0 ∨ 16 ≤ (v2).toNatClampNeg then none else
      fX9_turns_13_34 fu (gU3 S 13 (v2).toNatClampNeg (S.2.2.1 31 (v2).toNatClampNeg)) (v2 + 1)
set_option maxHeartbeats 4000000 in
set_option maxRecDepth 100000 in
theorem bX9_turns_13_34 {p : Program} {l : Launch} {e : Env} {s : State} {m : MethodId} {args : Array Value} {below : List Frame} {meth : Method} {c : Code} {Q : State → Prop} {G : GP} (X : GX p s m meth c args cX9_turns 3 none wsX9_turns RX9) (E : gE WM G s)  : ∀ (fu : Nat) (S : GS) (v2 : Int32) (R : GS) (H : Heap) (locs : List Loc) (ls : Array Slot) (_ : fX9_turns_13_34 fu S v2 = some R) (_ : va_P (gD G) vwCl (WM G S ++ gF G) H) (_ : va_S (gA G) s.heap H locs) (_ : lv_has ls 3 [(0, .ref (ga G 63)), (1, .ref (ga G 13)), (2, .int v2)]) (_ : ∀ (H : Heap) (locs : List Loc) (ls : Array Slot), va_P (gD G) vwCl (WM G R ++ gF G) H → va_S (gA G) s.heap H locs → lv_has ls 3 [] → W p l e (gR 0 0) s m args below meth c H locs 0 0 Q (F0 m 57 ls [])), W p l e (gR 0 0) s m args below meth c H locs 0 0 Q (F0 m 34 ls []) := by
  obtain ⟨hx, hb, -, -, hown, hts, -⟩ := id X
  intro fu
  induction fu with
  | zero =>
    intro S v2 R H locs ls hf
    cases (show (none : Option GS) = some R from hf)
  | succ fu ih =>
    intro S v2 R H locs ls hf hP hS hl kk
    rw [fX9_turns_13_34] at hf
    refine lv_iload_n hx hb dX9_turns_34 rfl (lv_at hl 2 rfl) ?_
    refine lv_aload_n hx hb dX9_turns_35 rfl (lv_at hl 0 rfl) ?_
    refine ggM_0 X E hP inX9_turns_X9 lkX9_turns_0 dX9_turns_36 ?_
    refine lv_icmp_ge (tgt := 57) hx hb dX9_turns_39 (by decide) (fun c6 => ?_) (fun c6 => ?_)
    · have hf := g_ift hf c6
      obtain rfl := g_some hf
      exact kk _ _ _ hP hS (lv_sub hl [] rfl)
    · have hf := g_iff hf c6
      refine lv_aload_n hx hb dX9_turns_42 rfl (lv_at hl 1 rfl) ?_
      refine lv_iload_n hx hb dX9_turns_43 rfl (lv_at hl 2 rfl) ?_
      refine lv_aload_n hx hb dX9_turns_44 rfl (lv_at hl 0 rfl) ?_
      refine ggM_31 X E hP inX9_turns_X9 lkX9_turns_1 dX9_turns_45 ?_
      refine lv_iload_n hx hb dX9_turns_48 rfl (lv_at hl 2 rfl) ?_
      obtain ⟨b7, hf⟩ := g_if hf
      refine giM_31 X E hP b7 dX9_turns_49 ?_
      obtain ⟨b8, hf⟩ := g_if hf
      refine gsM_13 X E hP hS b8 dX9_turns_50 (fun H locs hP hS => ?_)
      refine lv_iinc (v := (v2 + 1)) (lv' := [(2, .int (v2 + 1)), (0, .ref (ga G 63)), (1, .ref (ga G 13))]) hx hb dX9_turns_51 hl (k := 2) rfl rfl (by decide) rfl (fun ls hl => ?_)
      refine lv_goto (tgt := 34) hx hb dX9_turns_54 (by decide) ?_
      exact ih _ _ _ _ _ _ hf hP hS (lv_sub hl [1, 2, 0] rfl) kk
def fX9_turns_13 (S : GS)  : Option GS :=
  (fX9_turns_13_2 gFuel S (0 : Int32)).bind fun u4 =>
  (fX9_turns_13_34 gFuel u4 (0 : Int32)).bind fun u9 =>
  some u9
set_option maxHeartbeats 4000000 in
set_option maxRecDepth 100000 in
theorem tcX9_turns_13 (l : Launch) (G : GP) (S : GS)  {R : GS} (hf : fX9_turns_13 S  = some R) : CV l yX9_turns wsX9_turns 0 0 [.ref (ga G 63), .ref (ga G 13)] WM G S R := by
  refine g_met RX9 (cc := cX9_turns) (nL := 3) (ret := none) (by decide) rfl rfl (Nat.le_of_ble_eq_true rfl) ?_
  intro p e s m below meth c ls X E hP hS hl
  have hl : lv_has ls 3 [(0, .ref (ga G 63)), (1, .ref (ga G 13))] := hl
  obtain ⟨hx, hb, -, -, hown, hts, -⟩ := id X
  rw [fX9_turns_13] at hf
  refine lv_iconst (v := 0) hx hb dX9_turns_0 (by decide) ?_
  refine lv_istore_n (lv' := [(2, .int (0 : Int32)), (0, .ref (ga G 63)), (1, .ref (ga G 13))]) hx hb dX9_turns_1 rfl hl (by decide) rfl (fun ls hl => ?_)
  obtain ⟨u4, h5, hf⟩ := g_bind hf
  refine bX9_turns_13_2 X E gFuel _ _ u4 _ _ _ h5 hP hS (lv_sub hl [1, 2, 0] rfl) (fun H locs ls hP hS hl => ?_)
  have hl : lv_has ls 3 [(0, .ref (ga G 63)), (1, .ref (ga G 13))] := hl
  have hP : va_P (gD G) vwCl (WM G u4 ++ gF G) H := hP
  refine lv_iconst (v := 0) hx hb dX9_turns_32 (by decide) ?_
  refine lv_istore_n (lv' := [(2, .int (0 : Int32)), (0, .ref (ga G 63)), (1, .ref (ga G 13))]) hx hb dX9_turns_33 rfl hl (by decide) rfl (fun ls hl => ?_)
  obtain ⟨u9, h10, hf⟩ := g_bind hf
  refine bX9_turns_13_34 X E gFuel _ _ u9 _ _ _ h10 hP hS (lv_sub hl [1, 2, 0] rfl) (fun H locs ls hP hS hl => ?_)
  have hl : lv_has ls 3 [] := hl
  have hP : va_P (gD G) vwCl (WM G u9 ++ gF G) H := hP
  obtain rfl := g_some hf
  exact g_rv X E hP hS dX9_turns_57
def fX9_turns_14_2 : Nat → GS → Int32 → Option GS
  | 0, _, _ => none
  | fu + 1, S, v2 =>
    if (S.1 0) ≤ v2 then
      some S
    else
      if (((S.1 0) - (1 : Int32)) - v2) < 0 ∨ 16 ≤ (((S.1 0) - (1 : Int32)) - v2).toNatClampNeg then none else
      if v2 < 0 ∨ 16 ≤ (v2).toNatClampNeg then none else
      fX9_turns_14_2 fu (gU3 S 31 (v2).toNatClampNeg (S.2.2.1 14 (((S.1 0) - (1 : Int32)) - v2).toNatClampNeg)) (v2 + 1)
set_option maxHeartbeats 4000000 in
set_option maxRecDepth 100000 in
theorem bX9_turns_14_2 {p : Program} {l : Launch} {e : Env} {s : State} {m : MethodId} {args : Array Value} {below : List Frame} {meth : Method} {c : Code} {Q : State → Prop} {G : GP} (X : GX p s m meth c args cX9_turns 3 none wsX9_turns RX9) (E : gE WM G s)  : ∀ (fu : Nat) (S : GS) (v2 : Int32) (R : GS) (H : Heap) (locs : List Loc) (ls : Array Slot) (_ : fX9_turns_14_2 fu S v2 = some R) (_ : va_P (gD G) vwCl (WM G S ++ gF G) H) (_ : va_S (gA G) s.heap H locs) (_ : lv_has ls 3 [(0, .ref (ga G 63)), (1, .ref (ga G 14)), (2, .int v2)]) (_ : ∀ (H : Heap) (locs : List Loc) (ls : Array Slot), va_P (gD G) vwCl (WM G R ++ gF G) H → va_S (gA G) s.heap H locs → lv_has ls 3 [(0, .ref (ga G 63)), (1, .ref (ga G 14))] → W p l e (gR 0 0) s m args below meth c H locs 0 0 Q (F0 m 32 ls [])), W p l e (gR 0 0) s m args below meth c H locs 0 0 Q (F0 m 2 ls []) := by
  obtain ⟨hx, hb, -, -, hown, hts, -⟩ := id X
  intro fu
  induction fu with
  | zero =>
    intro S v2 R H locs ls hf
    cases (show (none : Option GS) = some R from hf)
  | succ fu ih =>
    intro S v2 R H locs ls hf hP hS hl kk
    rw [fX9_turns_14_2] at hf
    refine lv_iload_n hx hb dX9_turns_2 rfl (lv_at hl 2 rfl) ?_
    refine lv_aload_n hx hb dX9_turns_3 rfl (lv_at hl 0 rfl) ?_
    refine ggM_0 X E hP inX9_turns_X9 lkX9_turns_0 dX9_turns_4 ?_
    refine lv_icmp_ge (tgt := 32) hx hb dX9_turns_7 (by decide) (fun c1 => ?_) (fun c1 => ?_)
    · have hf := g_ift hf c1
      obtain rfl := g_some hf
      exact kk _ _ _ hP hS (lv_sub hl [0, 1] rfl)
    · have hf := g_iff hf c1
      refine lv_aload_n hx hb dX9_turns_10 rfl (lv_at hl 0 rfl) ?_
      refine ggM_31 X E hP inX9_turns_X9 lkX9_turns_1 dX9_turns_11 ?_
      refine lv_iload_n hx hb dX9_turns_14 rfl (lv_at hl 2 rfl) ?_
      refine lv_aload_n hx hb dX9_turns_15 rfl (lv_at hl 1 rfl) ?_
      refine lv_aload_n hx hb dX9_turns_16 rfl (lv_at hl 0 rfl) ?_
      refine ggM_0 X E hP inX9_turns_X9 lkX9_turns_0 dX9_turns_17 ?_
      refine lv_iconst (v := 1) hx hb dX9_turns_20 (by decide) ?_
      refine lv_isub hx hb dX9_turns_21 ?_
      refine lv_iload_n hx hb dX9_turns_22 rfl (lv_at hl 2 rfl) ?_
      refine lv_isub hx hb dX9_turns_23 ?_
      obtain ⟨b2, hf⟩ := g_if hf
      refine giM_14 X E hP b2 dX9_turns_24 ?_
      obtain ⟨b3, hf⟩ := g_if hf
      refine gsM_31 X E hP hS b3 dX9_turns_25 (fun H locs hP hS => ?_)
      refine lv_iinc (v := (v2 + 1)) (lv' := [(2, .int (v2 + 1)), (0, .ref (ga G 63)), (1, .ref (ga G 14))]) hx hb dX9_turns_26 hl (k := 2) rfl rfl (by decide) rfl (fun ls hl => ?_)
      refine lv_goto (tgt := 2) hx hb dX9_turns_29 (by decide) ?_
      exact ih _ _ _ _ _ _ hf hP hS (lv_sub hl [1, 2, 0] rfl) kk
def fX9_turns_14_34 : Nat → GS → Int32 → Option GS
  | 0, _, _ => none
  | fu + 1, S, v2 =>
    if (S.1 0) ≤ v2 then
      some S
    else
      if v2 < 0 ∨ 16 ≤ (v2).toNatClampNeg then none else
      if v2 < 0 ∨ 16 ≤ (v2).toNatClampNeg then none else
      fX9_turns_14_34 fu (gU3 S 14 (v2).toNatClampNeg (S.2.2.1 31 (v2).toNatClampNeg)) (v2 + 1)
set_option maxHeartbeats 4000000 in
set_option maxRecDepth 100000 in
theorem bX9_turns_14_34 {p : Program} {l : Launch} {e : Env} {s : State} {m : MethodId} {args : Array Value} {below : List Frame} {meth : Method} {c : Code} {Q : State → Prop} {G : GP} (X : GX p s m meth c args cX9_turns 3 none wsX9_turns RX9) (E : gE WM G s)  : ∀ (fu : Nat) (S : GS) (v2 : Int32) (R : GS) (H : Heap) (locs : List Loc) (ls : Array Slot) (_ : fX9_turns_14_34 fu S v2 = some R) (_ : va_P (gD G) vwCl (WM G S ++ gF G) H) (_ : va_S (gA G) s.heap H locs) (_ : lv_has ls 3 [(0, .ref (ga G 63)), (1, .ref (ga G 14)), (2, .int v2)]) (_ : ∀ (H : Heap) (locs : List Loc) (ls : Array Slot), va_P (gD G) vwCl (WM G R ++ gF G) H → va_S (gA G) s.heap H locs → lv_has ls 3 [] → W p l e (gR 0 0) s m args below meth c H locs 0 0 Q (F0 m 57 ls [])), W p l e (gR 0 0) s m args below meth c H locs 0 0 Q (F0 m 34 ls []) := by
  obtain ⟨hx, hb, -, -, hown, hts, -⟩ := id X
  intro fu
  induction fu with
  | zero =>
    intro S v2 R H locs ls hf
    cases (show (none : Option GS) = some R from hf)
  | succ fu ih =>
    intro S v2 R H locs ls hf hP hS hl kk
    rw [fX9_turns_14_34] at hf
    refine lv_iload_n hx hb dX9_turns_34 rfl (lv_at hl 2 rfl) ?_
    refine lv_aload_n hx hb dX9_turns_35 rfl (lv_at hl 0 rfl) ?_
    refine ggM_0 X E hP inX9_turns_X9 lkX9_turns_0 dX9_turns_36 ?_
    refine lv_icmp_ge (tgt := 57) hx hb dX9_turns_39 (by decide) (fun c6 => ?_) (fun c6 => ?_)
    · have hf := g_ift hf c6
      obtain rfl := g_some hf
      exact kk _ _ _ hP hS (lv_sub hl [] rfl)
    · have hf := g_iff hf c6
      refine lv_aload_n hx hb dX9_turns_42 rfl (lv_at hl 1 rfl) ?_
      refine lv_iload_n hx hb dX9_turns_43 rfl (lv_at hl 2 rfl) ?_
      refine lv_aload_n hx hb dX9_turns_44 rfl (lv_at hl 0 rfl) ?_
      refine ggM_31 X E hP inX9_turns_X9 lkX9_turns_1 dX9_turns_45 ?_
      refine lv_iload_n hx hb dX9_turns_48 rfl (lv_at hl 2 rfl) ?_
      obtain ⟨b7, hf⟩ := g_if hf
      refine giM_31 X E hP b7 dX9_turns_49 ?_
      obtain ⟨b8, hf⟩ := g_if hf
      refine gsM_14 X E hP hS b8 dX9_turns_50 (fun H locs hP hS => ?_)
      refine lv_iinc (v := (v2 + 1)) (lv' := [(2, .int (v2 + 1)), (0, .ref (ga G 63)), (1, .ref (ga G 14))]) hx hb dX9_turns_51 hl (k := 2) rfl rfl (by decide) rfl (fun ls hl => ?_)
      refine lv_goto (tgt := 34) hx hb dX9_turns_54 (by decide) ?_
      exact ih _ _ _ _ _ _ hf hP hS (lv_sub hl [1, 2, 0] rfl) kk
def fX9_turns_14 (S : GS)  : Option GS :=
  (fX9_turns_14_2 gFuel S (0 : Int32)).bind fun u4 =>
  (fX9_turns_14_34 gFuel u4 (0 : Int32)).bind fun u9 =>
  some u9
set_option maxHeartbeats 4000000 in
set_option maxRecDepth 100000 in
theorem tcX9_turns_14 (l : Launch) (G : GP) (S : GS)  {R : GS} (hf : fX9_turns_14 S  = some R) : CV l yX9_turns wsX9_turns 0 0 [.ref (ga G 63), .ref (ga G 14)] WM G S R := by
  refine g_met RX9 (cc := cX9_turns) (nL := 3) (ret := none) (by decide) rfl rfl (Nat.le_of_ble_eq_true rfl) ?_
  intro p e s m below meth c ls X E hP hS hl
  have hl : lv_has ls 3 [(0, .ref (ga G 63)), (1, .ref (ga G 14))] := hl
  obtain ⟨hx, hb, -, -, hown, hts, -⟩ := id X
  rw [fX9_turns_14] at hf
  refine lv_iconst (v := 0) hx hb dX9_turns_0 (by decide) ?_
  refine lv_istore_n (lv' := [(2, .int (0 : Int32)), (0, .ref (ga G 63)), (1, .ref (ga G 14))]) hx hb dX9_turns_1 rfl hl (by decide) rfl (fun ls hl => ?_)
  obtain ⟨u4, h5, hf⟩ := g_bind hf
  refine bX9_turns_14_2 X E gFuel _ _ u4 _ _ _ h5 hP hS (lv_sub hl [1, 2, 0] rfl) (fun H locs ls hP hS hl => ?_)
  have hl : lv_has ls 3 [(0, .ref (ga G 63)), (1, .ref (ga G 14))] := hl
  have hP : va_P (gD G) vwCl (WM G u4 ++ gF G) H := hP
  refine lv_iconst (v := 0) hx hb dX9_turns_32 (by decide) ?_
  refine lv_istore_n (lv' := [(2, .int (0 : Int32)), (0, .ref (ga G 63)), (1, .ref (ga G 14))]) hx hb dX9_turns_33 rfl hl (by decide) rfl (fun ls hl => ?_)
  obtain ⟨u9, h10, hf⟩ := g_bind hf
  refine bX9_turns_14_34 X E gFuel _ _ u9 _ _ _ h10 hP hS (lv_sub hl [1, 2, 0] rfl) (fun H locs ls hP hS hl => ?_)
  have hl : lv_has ls 3 [] := hl
  have hP : va_P (gD G) vwCl (WM G u9 ++ gF G) H := hP
  obtain rfl := g_some hf
  exact g_rv X E hP hS dX9_turns_57
theorem lkX9_changes_0 : Cond.fieldLink RX9 91 RX9 "many" "I" ∈ wsX9_changes := by decide +kernel
theorem inX9_changes_X9 : ∀ w ∈ wsX90, w ∈ wsX9_changes := by decide +kernel
def fX9_changes_9_10_2 : Nat → GS → Int32 → Option GS
  | 0, _, _ => none
  | fu + 1, S, v3 =>
    if (S.1 0) ≤ v3 then
      some S
    else
      if v3 < 0 ∨ 16 ≤ (v3).toNatClampNeg then none else
      if v3 < 0 ∨ 16 ≤ (v3).toNatClampNeg then none else
      if v3 < 0 ∨ 16 ≤ (v3).toNatClampNeg then none else
      if v3 < 0 ∨ 16 ≤ (v3).toNatClampNeg then none else
      gLet (gU3 (gU3 S 9 (v3).toNatClampNeg (S.2.2.1 10 (v3).toNatClampNeg)) 10 (v3).toNatClampNeg (S.2.2.1 9 (v3).toNatClampNeg)) fun T6 =>
      fX9_changes_9_10_2 fu T6 (v3 + 1)
set_option maxHeartbeats 4000000 in
set_option maxRecDepth 100000 in
theorem bX9_changes_9_10_2 {p : Program} {l : Launch} {e : Env} {s : State} {m : MethodId} {args : Array Value} {below : List Frame} {meth : Method} {c : Code} {Q : State → Prop} {G : GP} (X : GX p s m meth c args cX9_changes 5 none wsX9_changes RX9) (E : gE WM G s)  : ∀ (fu : Nat) (S : GS) (v3 : Int32) (R : GS) (H : Heap) (locs : List Loc) (ls : Array Slot) (_ : fX9_changes_9_10_2 fu S v3 = some R) (_ : va_P (gD G) vwCl (WM G S ++ gF G) H) (_ : va_S (gA G) s.heap H locs) (_ : lv_has ls 5 [(0, .ref (ga G 63)), (1, .ref (ga G 9)), (2, .ref (ga G 10)), (3, .int v3)]) (_ : ∀ (H : Heap) (locs : List Loc) (ls : Array Slot), va_P (gD G) vwCl (WM G R ++ gF G) H → va_S (gA G) s.heap H locs → lv_has ls 5 [] → W p l e (gR 0 0) s m args below meth c H locs 0 0 Q (F0 m 32 ls [])), W p l e (gR 0 0) s m args below meth c H locs 0 0 Q (F0 m 2 ls []) := by
  obtain ⟨hx, hb, -, -, hown, hts, -⟩ := id X
  intro fu
  induction fu with
  | zero =>
    intro S v3 R H locs ls hf
    cases (show (none : Option GS) = some R from hf)
  | succ fu ih =>
    intro S v3 R H locs ls hf hP hS hl kk
    rw [fX9_changes_9_10_2] at hf
    refine lv_iload_n hx hb dX9_changes_2 rfl (lv_at hl 3 rfl) ?_
    refine lv_aload_n hx hb dX9_changes_3 rfl (lv_at hl 0 rfl) ?_
    refine ggM_0 X E hP inX9_changes_X9 lkX9_changes_0 dX9_changes_4 ?_
    refine lv_icmp_ge (tgt := 32) hx hb dX9_changes_7 (by decide) (fun c1 => ?_) (fun c1 => ?_)
    · have hf := g_ift hf c1
      obtain rfl := g_some hf
      exact kk _ _ _ hP hS (lv_sub hl [] rfl)
    · have hf := g_iff hf c1
      refine lv_aload_n hx hb dX9_changes_10 rfl (lv_at hl 1 rfl) ?_
      refine lv_iload_n hx hb dX9_changes_11 rfl (lv_at hl 3 rfl) ?_
      obtain ⟨b2, hf⟩ := g_if hf
      refine giM_9 X E hP b2 dX9_changes_12 ?_
      refine lv_istore (lv' := [(4, .int (S.2.2.1 9 (v3).toNatClampNeg)), (0, .ref (ga G 63)), (1, .ref (ga G 9)), (2, .ref (ga G 10)), (3, .int v3)]) hx hb dX9_changes_13 hl (by decide) rfl (fun ls hl => ?_)
      refine lv_aload_n hx hb dX9_changes_15 rfl (lv_at hl 2 rfl) ?_
      refine lv_iload_n hx hb dX9_changes_16 rfl (lv_at hl 4 rfl) ?_
      refine lv_aload_n hx hb dX9_changes_17 rfl (lv_at hl 3 rfl) ?_
      refine lv_iload_n hx hb dX9_changes_18 rfl (lv_at hl 4 rfl) ?_
      obtain ⟨b3, hf⟩ := g_if hf
      refine giM_10 X E hP b3 dX9_changes_19 ?_
      obtain ⟨b4, hf⟩ := g_if hf
      refine gsM_9 X E hP hS b4 dX9_changes_20 (fun H locs hP hS => ?_)
      refine lv_aload_n hx hb dX9_changes_21 rfl (lv_at hl 3 rfl) ?_
      refine lv_iload_n hx hb dX9_changes_22 rfl (lv_at hl 4 rfl) ?_
      refine lv_iload hx hb dX9_changes_23 (lv_at hl 0 rfl) ?_
      obtain ⟨b5, hf⟩ := g_if hf
      refine gsM_10 X E hP hS b5 dX9_changes_25 (fun H locs hP hS => ?_)
      obtain ⟨T6, e7, hf⟩ := g_let hf
      rw [← e7] at hP
      refine lv_iinc (v := (v3 + 1)) (lv' := [(3, .int (v3 + 1)), (4, .int (S.2.2.1 9 (v3).toNatClampNeg)), (0, .ref (ga G 63)), (1, .ref (ga G 9)), (2, .ref (ga G 10))]) hx hb dX9_changes_26 hl (k := 4) rfl rfl (by decide) rfl (fun ls hl => ?_)
      refine lv_goto (tgt := 2) hx hb dX9_changes_29 (by decide) ?_
      exact ih _ _ _ _ _ _ hf hP hS (lv_sub hl [2, 3, 4, 0] rfl) kk
def fX9_changes_9_10 (S : GS)  : Option GS :=
  (fX9_changes_9_10_2 gFuel S (0 : Int32)).bind fun u8 =>
  some u8
set_option maxHeartbeats 4000000 in
set_option maxRecDepth 100000 in
theorem tcX9_changes_9_10 (l : Launch) (G : GP) (S : GS)  {R : GS} (hf : fX9_changes_9_10 S  = some R) : CV l yX9_changes wsX9_changes 0 0 [.ref (ga G 63), .ref (ga G 9), .ref (ga G 10)] WM G S R := by
  refine g_met RX9 (cc := cX9_changes) (nL := 5) (ret := none) (by decide) rfl rfl (Nat.le_of_ble_eq_true rfl) ?_
  intro p e s m below meth c ls X E hP hS hl
  have hl : lv_has ls 5 [(0, .ref (ga G 63)), (1, .ref (ga G 9)), (2, .ref (ga G 10))] := hl
  obtain ⟨hx, hb, -, -, hown, hts, -⟩ := id X
  rw [fX9_changes_9_10] at hf
  refine lv_iconst (v := 0) hx hb dX9_changes_0 (by decide) ?_
  refine lv_istore_n (lv' := [(3, .int (0 : Int32)), (0, .ref (ga G 63)), (1, .ref (ga G 9)), (2, .ref (ga G 10))]) hx hb dX9_changes_1 rfl hl (by decide) rfl (fun ls hl => ?_)
  obtain ⟨u8, h9, hf⟩ := g_bind hf
  refine bX9_changes_9_10_2 X E gFuel _ _ u8 _ _ _ h9 hP hS (lv_sub hl [1, 2, 3, 0] rfl) (fun H locs ls hP hS hl => ?_)
  have hl : lv_has ls 5 [] := hl
  have hP : va_P (gD G) vwCl (WM G u8 ++ gF G) H := hP
  obtain rfl := g_some hf
  exact g_rv X E hP hS dX9_changes_32
def fX9_changes_11_12_2 : Nat → GS → Int32 → Option GS
  | 0, _, _ => none
  | fu + 1, S, v3 =>
    if (S.1 0) ≤ v3 then
      some S
    else
      if v3 < 0 ∨ 16 ≤ (v3).toNatClampNeg then none else
      if v3 < 0 ∨ 16 ≤ (v3).toNatClampNeg then none else
      if v3 < 0 ∨ 16 ≤ (v3).toNatClampNeg then none else
      if v3 < 0 ∨ 16 ≤ (v3).toNatClampNeg then none else
      gLet (gU3 (gU3 S 11 (v3).toNatClampNeg (S.2.2.1 12 (v3).toNatClampNeg)) 12 (v3).toNatClampNeg (S.2.2.1 11 (v3).toNatClampNeg)) fun T6 =>
      fX9_changes_11_12_2 fu T6 (v3 + 1)
set_option maxHeartbeats 4000000 in
set_option maxRecDepth 100000 in
theorem bX9_changes_11_12_2 {p : Program} {l : Launch} {e : Env} {s : State} {m : MethodId} {args : Array Value} {below : List Frame} {meth : Method} {c : Code} {Q : State → Prop} {G : GP} (X : GX p s m meth c args cX9_changes 5 none wsX9_changes RX9) (E : gE WM G s)  : ∀ (fu : Nat) (S : GS) (v3 : Int32) (R : GS) (H : Heap) (locs : List Loc) (ls : Array Slot) (_ : fX9_changes_11_12_2 fu S v3 = some R) (_ : va_P (gD G) vwCl (WM G S ++ gF G) H) (_ : va_S (gA G) s.heap H locs) (_ : lv_has ls 5 [(0, .ref (ga G 63)), (1, .ref (ga G 11)), (2, .ref (ga G 12)), (3, .int v3)]) (_ : ∀ (H : Heap) (locs : List Loc) (ls : Array Slot), va_P (gD G) vwCl (WM G R ++ gF G) H → va_S (gA G) s.heap H locs → lv_has ls 5 [] → W p l e (gR 0 0) s m args below meth c H locs 0 0 Q (F0 m 32 ls [])), W p l e (gR 0 0) s m args below meth c H locs 0 0 Q (F0 m 2 ls []) := by
  obtain ⟨hx, hb, -, -, hown, hts, -⟩ := id X
  intro fu
  induction fu with
  | zero =>
    intro S v3 R H locs ls hf
    cases (show (none : Option GS) = some R from hf)
  | succ fu ih =>
    intro S v3 R H locs ls hf hP hS hl kk
    rw [fX9_changes_11_12_2] at hf
    refine lv_iload_n hx hb dX9_changes_2 rfl (lv_at hl 3 rfl) ?_
    refine lv_aload_n hx hb dX9_changes_3 rfl (lv_at hl 0 rfl) ?_
    refine ggM_0 X E hP inX9_changes_X9 lkX9_changes_0 dX9_changes_4 ?_
    refine lv_icmp_ge (tgt := 32) hx hb dX9_changes_7 (by decide) (fun c1 => ?_) (fun c1 => ?_)
    · have hf := g_ift hf c1
      obtain rfl := g_some hf
      exact kk _ _ _ hP hS (lv_sub hl [] rfl)
    · have hf := g_iff hf c1
      refine lv_aload_n hx hb dX9_changes_10 rfl (lv_at hl 1 rfl) ?_
      refine lv_iload_n hx hb dX9_changes_11 rfl (lv_at hl 3 rfl) ?_
      obtain ⟨b2, hf⟩ := g_if hf
      refine giM_11 X E hP b2 dX9_changes_12 ?_
      refine lv_istore (lv' := [(4, .int (S.2.2.1 11 (v3).toNatClampNeg)), (0, .ref (ga G 63)), (1, .ref (ga G 11)), (2, .ref (ga G 12)), (3, .int v3)]) hx hb dX9_changes_13 hl (by decide) rfl (fun ls hl => ?_)
      refine lv_aload_n hx hb dX9_changes_15 rfl (lv_at hl 2 rfl) ?_
      refine lv_iload_n hx hb dX9_changes_16 rfl (lv_at hl 4 rfl) ?_
      refine lv_aload_n hx hb dX9_changes_17 rfl (lv_at hl 3 rfl) ?_
      refine lv_iload_n hx hb dX9_changes_18 rfl (lv_at hl 4 rfl) ?_
      obtain ⟨b3, hf⟩ := g_if hf
      refine giM_12 X E hP b3 dX9_changes_19 ?_
      obtain ⟨b4, hf⟩ := g_if hf
      refine gsM_11 X E hP hS b4 dX9_changes_20 (fun H locs hP hS => ?_)
      refine lv_aload_n hx hb dX9_changes_21 rfl (lv_at hl 3 rfl) ?_
      refine lv_iload_n hx hb dX9_changes_22 rfl (lv_at hl 4 rfl) ?_
      refine lv_iload hx hb dX9_changes_23 (lv_at hl 0 rfl) ?_
      obtain ⟨b5, hf⟩ := g_if hf
      refine gsM_12 X E hP hS b5 dX9_changes_25 (fun H locs hP hS => ?_)
      obtain ⟨T6, e7, hf⟩ := g_let hf
      rw [← e7] at hP
      refine lv_iinc (v := (v3 + 1)) (lv' := [(3, .int (v3 + 1)), (4, .int (S.2.2.1 11 (v3).toNatClampNeg)), (0, .ref (ga G 63)), (1, .ref (ga G 11)), (2, .ref (ga G 12))]) hx hb dX9_changes_26 hl (k := 4) rfl rfl (by decide) rfl (fun ls hl => ?_)
      refine lv_goto (tgt := 2) hx hb dX9_changes_29 (by decide) ?_
      exact ih _ _ _ _ _ _ hf hP hS (lv_sub hl [2, 3, 4, 0] rfl) kk
def fX9_changes_11_12 (S : GS)  : Option GS :=
  (fX9_changes_11_12_2 gFuel S (0 : Int32)).bind fun u8 =>
  some u8
set_option maxHeartbeats 4000000 in
set_option maxRecDepth 100000 in
theorem tcX9_changes_11_12 (l : Launch) (G : GP) (S : GS)  {R : GS} (hf : fX9_changes_11_12 S  = some R) : CV l yX9_changes wsX9_changes 0 0 [.ref (ga G 63), .ref (ga G 11), .ref (ga G 12)] WM G S R := by
  refine g_met RX9 (cc := cX9_changes) (nL := 5) (ret := none) (by decide) rfl rfl (Nat.le_of_ble_eq_true rfl) ?_
  intro p e s m below meth c ls X E hP hS hl
  have hl : lv_has ls 5 [(0, .ref (ga G 63)), (1, .ref (ga G 11)), (2, .ref (ga G 12))] := hl
  obtain ⟨hx, hb, -, -, hown, hts, -⟩ := id X
  rw [fX9_changes_11_12] at hf
  refine lv_iconst (v := 0) hx hb dX9_changes_0 (by decide) ?_
  refine lv_istore_n (lv' := [(3, .int (0 : Int32)), (0, .ref (ga G 63)), (1, .ref (ga G 11)), (2, .ref (ga G 12))]) hx hb dX9_changes_1 rfl hl (by decide) rfl (fun ls hl => ?_)
  obtain ⟨u8, h9, hf⟩ := g_bind hf
  refine bX9_changes_11_12_2 X E gFuel _ _ u8 _ _ _ h9 hP hS (lv_sub hl [1, 2, 3, 0] rfl) (fun H locs ls hP hS hl => ?_)
  have hl : lv_has ls 5 [] := hl
  have hP : va_P (gD G) vwCl (WM G u8 ++ gF G) H := hP
  obtain rfl := g_some hf
  exact g_rv X E hP hS dX9_changes_32
theorem lkX9_turn_0 : Cond.fieldLink RX9 26 RX9 "kind" "[I" ∈ wsX9_turn := by decide +kernel
theorem lkX9_turn_1 : Cond.fieldLink RX9 29 RX9 "part" "[I" ∈ wsX9_turn := by decide +kernel
theorem lkX9_turn_2 : Cond.fieldLink RX9 32 RX9 "behind" "[I" ∈ wsX9_turn := by decide +kernel
theorem lkX9_turn_3 : Cond.fieldLink RX9 35 RX9 "ahead" "[I" ∈ wsX9_turn := by decide +kernel
theorem lkX9_turn_4 : Cond.fieldLink RX9 38 RX9 "back" "[I" ∈ wsX9_turn := by decide +kernel
theorem lkX9_turn_5 : Cond.fieldLink RX9 41 RX9 "on" "[I" ∈ wsX9_turn := by decide +kernel
theorem lkX9_turn_6 : Cond.fieldLink RX9 44 RX9 "holder" "[I" ∈ wsX9_turn := by decide +kernel
theorem lkX9_turn_7 : Cond.fieldLink RX9 47 RX9 "first" "[I" ∈ wsX9_turn := by decide +kernel
theorem lkX9_turn_8 : Cond.fieldLink RX9 91 RX9 "many" "I" ∈ wsX9_turn := by decide +kernel
theorem inX9_turn_X9 : ∀ w ∈ wsX90, w ∈ wsX9_turn := by decide +kernel
def fX9_turn_90 : Nat → GS → Int32 → Option GS
  | 0, _, _ => none
  | fu + 1, S, v1 =>
    if (S.1 0) ≤ v1 then
      some S
    else
      if v1 < 0 ∨ 16 ≤ (v1).toNatClampNeg then none else
      if v1 < 0 ∨ 16 ≤ (v1).toNatClampNeg then none else
      fX9_turn_90 fu (gU3 S 14 (v1).toNatClampNeg ((1 : Int32) - (S.2.2.1 14 (v1).toNatClampNeg))) (v1 + 1)
set_option maxHeartbeats 4000000 in
set_option maxRecDepth 100000 in
theorem bX9_turn_90 {p : Program} {l : Launch} {e : Env} {s : State} {m : MethodId} {args : Array Value} {below : List Frame} {meth : Method} {c : Code} {Q : State → Prop} {G : GP} (X : GX p s m meth c args cX9_turn 2 (some .int) wsX9_turn RX9) (E : gE WM G s)  : ∀ (fu : Nat) (S : GS) (v1 : Int32) (R : GS) (H : Heap) (locs : List Loc) (ls : Array Slot) (_ : fX9_turn_90 fu S v1 = some R) (_ : va_P (gD G) vwCl (WM G S ++ gF G) H) (_ : va_S (gA G) s.heap H locs) (_ : lv_has ls 2 [(0, .ref (ga G 63)), (1, .int v1)]) (_ : ∀ (H : Heap) (locs : List Loc) (ls : Array Slot), va_P (gD G) vwCl (WM G R ++ gF G) H → va_S (gA G) s.heap H locs → lv_has ls 2 [(0, .ref (ga G 63))] → W p l e (gR 5 108) s m args below meth c H locs 0 0 Q (F0 m 118 ls [])), W p l e (gR 5 108) s m args below meth c H locs 0 0 Q (F0 m 90 ls []) := by
  obtain ⟨hx, hb, -, -, hown, hts, -⟩ := id X
  intro fu
  induction fu with
  | zero =>
    intro S v1 R H locs ls hf
    cases (show (none : Option GS) = some R from hf)
  | succ fu ih =>
    intro S v1 R H locs ls hf hP hS hl kk
    rw [fX9_turn_90] at hf
    refine lv_iload_n hx hb dX9_turn_90 rfl (lv_at hl 1 rfl) ?_
    refine lv_aload_n hx hb dX9_turn_91 rfl (lv_at hl 0 rfl) ?_
    refine ggM_0 X E hP inX9_turn_X9 lkX9_turn_8 dX9_turn_92 ?_
    refine lv_icmp_ge (tgt := 118) hx hb dX9_turn_95 (by decide) (fun c21 => ?_) (fun c21 => ?_)
    · have hf := g_ift hf c21
      obtain rfl := g_some hf
      exact kk _ _ _ hP hS (lv_sub hl [0] rfl)
    · have hf := g_iff hf c21
      refine lv_aload_n hx hb dX9_turn_98 rfl (lv_at hl 0 rfl) ?_
      refine ggM_14 X E hP inX9_turn_X9 lkX9_turn_7 dX9_turn_99 ?_
      refine lv_iload_n hx hb dX9_turn_102 rfl (lv_at hl 1 rfl) ?_
      refine lv_iconst (v := 1) hx hb dX9_turn_103 (by decide) ?_
      refine lv_aload_n hx hb dX9_turn_104 rfl (lv_at hl 0 rfl) ?_
      refine ggM_14 X E hP inX9_turn_X9 lkX9_turn_7 dX9_turn_105 ?_
      refine lv_iload_n hx hb dX9_turn_108 rfl (lv_at hl 1 rfl) ?_
      obtain ⟨b22, hf⟩ := g_if hf
      refine giM_14 X E hP b22 dX9_turn_109 ?_
      refine lv_isub hx hb dX9_turn_110 ?_
      obtain ⟨b23, hf⟩ := g_if hf
      refine gsM_14 X E hP hS b23 dX9_turn_111 (fun H locs hP hS => ?_)
      refine lv_iinc (v := (v1 + 1)) (lv' := [(1, .int (v1 + 1)), (0, .ref (ga G 63))]) hx hb dX9_turn_112 hl (k := 1) rfl rfl (by decide) rfl (fun ls hl => ?_)
      refine lv_goto (tgt := 90) hx hb dX9_turn_115 (by decide) ?_
      exact ih _ _ _ _ _ _ hf hP hS (lv_sub hl [1, 0] rfl) kk
def fX9_turn (S : GS)  : Option (Int32 × GS) :=
  (fX9_turns_7 S).bind fun u1 =>
  (fX9_turns_8 u1).bind fun u3 =>
  (fX9_turns_9 u3).bind fun u5 =>
  (fX9_turns_10 u5).bind fun u7 =>
  (fX9_turns_11 u7).bind fun u9 =>
  (fX9_turns_12 u9).bind fun u11 =>
  (fX9_turns_13 u11).bind fun u13 =>
  (fX9_turns_14 u13).bind fun u15 =>
  (fX9_changes_9_10 u15).bind fun u17 =>
  (fX9_changes_11_12 u17).bind fun u19 =>
  (fX9_turn_90 gFuel u19 (0 : Int32)).bind fun u24 =>
  (fX9_offAll u24).bind fun u26 =>
  some (u26, u24)
set_option maxHeartbeats 4000000 in
set_option maxRecDepth 100000 in
theorem tcX9_turn (l : Launch) (G : GP) (S : GS)  {R : (Int32 × GS)} (hf : fX9_turn S  = some R) : CI l yX9_turn wsX9_turn 5 108 [.ref (ga G 63)] WM G S R.1 R.2 := by
  refine g_met RX9 (cc := cX9_turn) (nL := 2) (ret := (some .int)) (by decide) rfl rfl (Nat.le_of_ble_eq_true rfl) ?_
  intro p e s m below meth c ls X E hP hS hl
  have hl : lv_has ls 2 [(0, .ref (ga G 63))] := hl
  obtain ⟨hx, hb, -, -, hown, hts, -⟩ := id X
  rw [fX9_turn] at hf
  refine lv_aload_n hx hb dX9_turn_0 rfl (lv_at hl 0 rfl) ?_
  refine lv_aload_n hx hb dX9_turn_1 rfl (lv_at hl 0 rfl) ?_
  refine ggM_7 X E hP inX9_turn_X9 lkX9_turn_0 dX9_turn_2 ?_
  obtain ⟨u1, h2, hf⟩ := g_bind hf
  refine g_vv (rest := []) X E hP hS (tcX9_turns_7 l G _  h2) (g_cwV X gX9_turn_X9_turns rfl hdX9_turns ⟨Nat.le_of_ble_eq_true rfl, Nat.le_of_ble_eq_true rfl⟩) (rcM_model E hP) rfl hl.1 rfl (Nat.le_of_ble_eq_true rfl) dX9_turn_5 ⟨Nat.le_refl _, Nat.le_refl _⟩ (fun H locs hP hS => ?_)
  refine lv_aload_n hx hb dX9_turn_8 rfl (lv_at hl 0 rfl) ?_
  refine lv_aload_n hx hb dX9_turn_9 rfl (lv_at hl 0 rfl) ?_
  refine ggM_8 X E hP inX9_turn_X9 lkX9_turn_1 dX9_turn_10 ?_
  obtain ⟨u3, h4, hf⟩ := g_bind hf
  refine g_vv (rest := []) X E hP hS (tcX9_turns_8 l G _  h4) (g_cwV X gX9_turn_X9_turns rfl hdX9_turns ⟨Nat.le_of_ble_eq_true rfl, Nat.le_of_ble_eq_true rfl⟩) (rcM_model E hP) rfl hl.1 rfl (Nat.le_of_ble_eq_true rfl) dX9_turn_13 ⟨Nat.le_refl _, Nat.le_refl _⟩ (fun H locs hP hS => ?_)
  refine lv_aload_n hx hb dX9_turn_16 rfl (lv_at hl 0 rfl) ?_
  refine lv_aload_n hx hb dX9_turn_17 rfl (lv_at hl 0 rfl) ?_
  refine ggM_9 X E hP inX9_turn_X9 lkX9_turn_2 dX9_turn_18 ?_
  obtain ⟨u5, h6, hf⟩ := g_bind hf
  refine g_vv (rest := []) X E hP hS (tcX9_turns_9 l G _  h6) (g_cwV X gX9_turn_X9_turns rfl hdX9_turns ⟨Nat.le_of_ble_eq_true rfl, Nat.le_of_ble_eq_true rfl⟩) (rcM_model E hP) rfl hl.1 rfl (Nat.le_of_ble_eq_true rfl) dX9_turn_21 ⟨Nat.le_refl _, Nat.le_refl _⟩ (fun H locs hP hS => ?_)
  refine lv_aload_n hx hb dX9_turn_24 rfl (lv_at hl 0 rfl) ?_
  refine lv_aload_n hx hb dX9_turn_25 rfl (lv_at hl 0 rfl) ?_
  refine ggM_10 X E hP inX9_turn_X9 lkX9_turn_3 dX9_turn_26 ?_
  obtain ⟨u7, h8, hf⟩ := g_bind hf
  refine g_vv (rest := []) X E hP hS (tcX9_turns_10 l G _  h8) (g_cwV X gX9_turn_X9_turns rfl hdX9_turns ⟨Nat.le_of_ble_eq_true rfl, Nat.le_of_ble_eq_true rfl⟩) (rcM_model E hP) rfl hl.1 rfl (Nat.le_of_ble_eq_true rfl) dX9_turn_29 ⟨Nat.le_refl _, Nat.le_refl _⟩ (fun H locs hP hS => ?_)
  refine lv_aload_n hx hb dX9_turn_32 rfl (lv_at hl 0 rfl) ?_
  refine lv_aload_n hx hb dX9_turn_33 rfl (lv_at hl 0 rfl) ?_
  refine ggM_11 X E hP inX9_turn_X9 lkX9_turn_4 dX9_turn_34 ?_
  obtain ⟨u9, h10, hf⟩ := g_bind hf
  refine g_vv (rest := []) X E hP hS (tcX9_turns_11 l G _  h10) (g_cwV X gX9_turn_X9_turns rfl hdX9_turns ⟨Nat.le_of_ble_eq_true rfl, Nat.le_of_ble_eq_true rfl⟩) (rcM_model E hP) rfl hl.1 rfl (Nat.le_of_ble_eq_true rfl) dX9_turn_37 ⟨Nat.le_refl _, Nat.le_refl _⟩ (fun H locs hP hS => ?_)
  refine lv_aload_n hx hb dX9_turn_40 rfl (lv_at hl 0 rfl) ?_
  refine lv_aload_n hx hb dX9_turn_41 rfl (lv_at hl 0 rfl) ?_
  refine ggM_12 X E hP inX9_turn_X9 lkX9_turn_5 dX9_turn_42 ?_
  obtain ⟨u11, h12, hf⟩ := g_bind hf
  refine g_vv (rest := []) X E hP hS (tcX9_turns_12 l G _  h12) (g_cwV X gX9_turn_X9_turns rfl hdX9_turns ⟨Nat.le_of_ble_eq_true rfl, Nat.le_of_ble_eq_true rfl⟩) (rcM_model E hP) rfl hl.1 rfl (Nat.le_of_ble_eq_true rfl) dX9_turn_45 ⟨Nat.le_refl _, Nat.le_refl _⟩ (fun H locs hP hS => ?_)
  refine lv_aload_n hx hb dX9_turn_48 rfl (lv_at hl 0 rfl) ?_
  refine lv_aload_n hx hb dX9_turn_49 rfl (lv_at hl 0 rfl) ?_
  refine ggM_13 X E hP inX9_turn_X9 lkX9_turn_6 dX9_turn_50 ?_
  obtain ⟨u13, h14, hf⟩ := g_bind hf
  refine g_vv (rest := []) X E hP hS (tcX9_turns_13 l G _  h14) (g_cwV X gX9_turn_X9_turns rfl hdX9_turns ⟨Nat.le_of_ble_eq_true rfl, Nat.le_of_ble_eq_true rfl⟩) (rcM_model E hP) rfl hl.1 rfl (Nat.le_of_ble_eq_true rfl) dX9_turn_53 ⟨Nat.le_refl _, Nat.le_refl _⟩ (fun H locs hP hS => ?_)
  refine lv_aload_n hx hb dX9_turn_56 rfl (lv_at hl 0 rfl) ?_
  refine lv_aload_n hx hb dX9_turn_57 rfl (lv_at hl 0 rfl) ?_
  refine ggM_14 X E hP inX9_turn_X9 lkX9_turn_7 dX9_turn_58 ?_
  obtain ⟨u15, h16, hf⟩ := g_bind hf
  refine g_vv (rest := []) X E hP hS (tcX9_turns_14 l G _  h16) (g_cwV X gX9_turn_X9_turns rfl hdX9_turns ⟨Nat.le_of_ble_eq_true rfl, Nat.le_of_ble_eq_true rfl⟩) (rcM_model E hP) rfl hl.1 rfl (Nat.le_of_ble_eq_true rfl) dX9_turn_61 ⟨Nat.le_refl _, Nat.le_refl _⟩ (fun H locs hP hS => ?_)
  refine lv_aload_n hx hb dX9_turn_64 rfl (lv_at hl 0 rfl) ?_
  refine lv_aload_n hx hb dX9_turn_65 rfl (lv_at hl 0 rfl) ?_
  refine ggM_9 X E hP inX9_turn_X9 lkX9_turn_2 dX9_turn_66 ?_
  refine lv_aload_n hx hb dX9_turn_69 rfl (lv_at hl 0 rfl) ?_
  refine ggM_10 X E hP inX9_turn_X9 lkX9_turn_3 dX9_turn_70 ?_
  obtain ⟨u17, h18, hf⟩ := g_bind hf
  refine g_vv (rest := []) X E hP hS (tcX9_changes_9_10 l G _  h18) (g_cwV X gX9_turn_X9_changes rfl hdX9_changes ⟨Nat.le_of_ble_eq_true rfl, Nat.le_of_ble_eq_true rfl⟩) (rcM_model E hP) rfl hl.1 rfl (Nat.le_of_ble_eq_true rfl) dX9_turn_73 ⟨Nat.le_refl _, Nat.le_refl _⟩ (fun H locs hP hS => ?_)
  refine lv_aload_n hx hb dX9_turn_76 rfl (lv_at hl 0 rfl) ?_
  refine lv_aload_n hx hb dX9_turn_77 rfl (lv_at hl 0 rfl) ?_
  refine ggM_11 X E hP inX9_turn_X9 lkX9_turn_4 dX9_turn_78 ?_
  refine lv_aload_n hx hb dX9_turn_81 rfl (lv_at hl 0 rfl) ?_
  refine ggM_12 X E hP inX9_turn_X9 lkX9_turn_5 dX9_turn_82 ?_
  obtain ⟨u19, h20, hf⟩ := g_bind hf
  refine g_vv (rest := []) X E hP hS (tcX9_changes_11_12 l G _  h20) (g_cwV X gX9_turn_X9_changes rfl hdX9_changes ⟨Nat.le_of_ble_eq_true rfl, Nat.le_of_ble_eq_true rfl⟩) (rcM_model E hP) rfl hl.1 rfl (Nat.le_of_ble_eq_true rfl) dX9_turn_85 ⟨Nat.le_refl _, Nat.le_refl _⟩ (fun H locs hP hS => ?_)
  refine lv_iconst (v := 0) hx hb dX9_turn_88 (by decide) ?_
  refine lv_istore_n (lv' := [(1, .int (0 : Int32)), (0, .ref (ga G 63))]) hx hb dX9_turn_89 rfl hl (by decide) rfl (fun ls hl => ?_)
  obtain ⟨u24, h25, hf⟩ := g_bind hf
  refine bX9_turn_90 X E gFuel _ _ u24 _ _ _ h25 hP hS (lv_sub hl [1, 0] rfl) (fun H locs ls hP hS hl => ?_)
  have hl : lv_has ls 2 [(0, .ref (ga G 63))] := hl
  have hP : va_P (gD G) vwCl (WM G u24 ++ gF G) H := hP
  refine lv_aload_n hx hb dX9_turn_118 rfl (lv_at hl 0 rfl) ?_
  obtain ⟨u26, h27, hf⟩ := g_bind hf
  refine g_vi (rest := []) X E hP hS (tcX9_offAll l G _  h27) (g_cwV X gX9_turn_X9_offAll rfl hdX9_offAll ⟨Nat.le_of_ble_eq_true rfl, Nat.le_of_ble_eq_true rfl⟩) (rcM_model E hP) rfl hl.1 rfl (Nat.le_of_ble_eq_true rfl) dX9_turn_119 ⟨Nat.le_refl _, Nat.le_refl _⟩ (fun H locs hP hS => ?_)
  obtain rfl := g_some hf
  exact g_ri X E hP hS dX9_turn_122
theorem lkX9_draw_0 : Cond.fieldLink RX9 16 RX9 "seed" "I" ∈ wsX9_draw := by decide +kernel
theorem lkX9_draw_1 : Cond.constant RX9 275 (1103515245 : Int32) ∈ wsX9_draw := by decide +kernel
theorem inX9_draw_X9 : ∀ w ∈ wsX90, w ∈ wsX9_draw := by decide +kernel
def fX9_draw (S : GS) (a1 : Int32) : Option (Int32 × GS) :=
  if a1 = 0 then none else
  some ((((((gU1 S 4 (((S.1 4) * (1103515245 : Int32)) + (12345 : Int32))).1 4)).toUInt32 >>> (((16 : Int32)).toUInt32 &&& Int32.toUInt32 31)).toInt32 - ((((gU1 S 4 (((S.1 4) * (1103515245 : Int32)) + (12345 : Int32))).1 4)).toUInt32 >>> (((16 : Int32)).toUInt32 &&& Int32.toUInt32 31)).toInt32 / a1 * a1), (gU1 S 4 (((S.1 4) * (1103515245 : Int32)) + (12345 : Int32))))
set_option maxHeartbeats 4000000 in
set_option maxRecDepth 100000 in
theorem tcX9_draw (l : Launch) (G : GP) (S : GS) (a1 : Int32) {R : (Int32 × GS)} (hf : fX9_draw S a1 = some R) : CI l yX9_draw wsX9_draw 0 0 [.ref (ga G 63), .int a1] WM G S R.1 R.2 := by
  refine g_met RX9 (cc := cX9_draw) (nL := 2) (ret := (some .int)) (by decide) rfl rfl (Nat.le_of_ble_eq_true rfl) ?_
  intro p e s m below meth c ls X E hP hS hl
  have hl : lv_has ls 2 [(0, .ref (ga G 63)), (1, .int a1)] := hl
  obtain ⟨hx, hb, -, -, hown, hts, -⟩ := id X
  rw [fX9_draw] at hf
  refine lv_aload_n hx hb dX9_draw_0 rfl (lv_at hl 0 rfl) ?_
  refine lv_aload_n hx hb dX9_draw_1 rfl (lv_at hl 0 rfl) ?_
  refine ggM_4 X E hP inX9_draw_X9 lkX9_draw_0 dX9_draw_2 ?_
  refine lv_ldcw hx hb hown (hts _ lkX9_draw_1) dX9_draw_5 ?_
  refine lv_imul hx hb dX9_draw_8 ?_
  refine lv_sipush (v := 12345) hx hb dX9_draw_9 (by decide) ?_
  refine lv_iadd hx hb dX9_draw_12 ?_
  refine gpM_4 X E hP hS inX9_draw_X9 lkX9_draw_0 dX9_draw_13 (fun H locs hP hS => ?_)
  refine lv_aload_n hx hb dX9_draw_16 rfl (lv_at hl 0 rfl) ?_
  refine ggM_4 X E hP inX9_draw_X9 lkX9_draw_0 dX9_draw_17 ?_
  refine lv_bipush (v := 16) hx hb dX9_draw_20 (by decide) ?_
  refine lv_iushr hx hb dX9_draw_22 rfl ?_
  refine lv_iload_n hx hb dX9_draw_23 rfl (lv_at hl 1 rfl) ?_
  obtain ⟨z1, hf⟩ := g_if hf
  refine lv_irem hx hb dX9_draw_24 z1 ?_
  obtain rfl := g_some hf
  exact g_ri X E hP hS dX9_draw_25
theorem lkX9_seasons_0 : Cond.fieldLink RX9 91 RX9 "many" "I" ∈ wsX9_seasons := by decide +kernel
theorem lkX9_seasons_1 : Cond.fieldLink RX9 32 RX9 "behind" "[I" ∈ wsX9_seasons := by decide +kernel
theorem lkX9_seasons_2 : Cond.fieldLink RX9 35 RX9 "ahead" "[I" ∈ wsX9_seasons := by decide +kernel
theorem inX9_seasons_X9 : ∀ w ∈ wsX90, w ∈ wsX9_seasons := by decide +kernel
def fX9_seasons_34 : Nat → GS → Int32 → Int32 → Option GS
  | 0, _, _, _ => none
  | fu + 1, S, v1, v2 =>
    if v1 ≤ v2 then
      some S
    else
      (fX9_draw S (S.1 0)).bind fun u7 =>
      if u7.1 < 0 ∨ 16 ≤ (u7.1).toNatClampNeg then none else
      (fX9_draw u7.2 (3 : Int32)).bind fun u10 =>
      if 0 ≤ (((u7.2.2.2.1 9 (u7.1).toNatClampNeg) + u10.1) - (1 : Int32)) then
        if (((u7.2.2.2.1 9 (u7.1).toNatClampNeg) + u10.1) - (1 : Int32)) ≤ (9999 : Int32) then
          if u7.1 < 0 ∨ 16 ≤ (u7.1).toNatClampNeg then none else
          (fX9_draw (gU3 u10.2 9 (u7.1).toNatClampNeg (((u7.2.2.2.1 9 (u7.1).toNatClampNeg) + u10.1) - (1 : Int32))) (20 : Int32)).bind fun u15 =>
          if u15.1 = 0 then
            if u7.1 < 0 ∨ 16 ≤ (u7.1).toNatClampNeg then none else
            if (u15.2.2.2.1 10 (u7.1).toNatClampNeg) < (100 : Int32) then
              fX9_seasons_34 fu u15.2 v1 (v2 + 1)
            else
              if u7.1 < 0 ∨ 16 ≤ (u7.1).toNatClampNeg then none else
              if u7.1 < 0 ∨ 16 ≤ (u7.1).toNatClampNeg then none else
              fX9_seasons_34 fu (gU3 u15.2 10 (u7.1).toNatClampNeg ((u15.2.2.2.1 10 (u7.1).toNatClampNeg) - (100 : Int32))) v1 (v2 + 1)
          else
            fX9_seasons_34 fu u15.2 v1 (v2 + 1)
        else
          if u7.1 < 0 ∨ 16 ≤ (u7.1).toNatClampNeg then none else
          (fX9_draw (gU3 u10.2 9 (u7.1).toNatClampNeg (9999 : Int32)) (20 : Int32)).bind fun u23 =>
          if u23.1 = 0 then
            if u7.1 < 0 ∨ 16 ≤ (u7.1).toNatClampNeg then none else
            if (u23.2.2.2.1 10 (u7.1).toNatClampNeg) < (100 : Int32) then
              fX9_seasons_34 fu u23.2 v1 (v2 + 1)
            else
              if u7.1 < 0 ∨ 16 ≤ (u7.1).toNatClampNeg then none else
              if u7.1 < 0 ∨ 16 ≤ (u7.1).toNatClampNeg then none else
              fX9_seasons_34 fu (gU3 u23.2 10 (u7.1).toNatClampNeg ((u23.2.2.2.1 10 (u7.1).toNatClampNeg) - (100 : Int32))) v1 (v2 + 1)
          else
            fX9_seasons_34 fu u23.2 v1 (v2 + 1)
      else
        if u7.1 < 0 ∨ 16 ≤ (u7.1).toNatClampNeg then none else
        (fX9_draw (gU3 u10.2 9 (u7.1).toNatClampNeg (0 : Int32)) (20 : Int32)).bind fun u31 =>
        if u31.1 = 0 then
          if u7.1 < 0 ∨ 16 ≤ (u7.1).toNatClampNeg then none else
          if (u31.2.2.2.1 10 (u7.1).toNatClampNeg) < (100 : Int32) then
            fX9_seasons_34 fu u31.2 v1 (v2 + 1)
          else
            if u7.1 < 0 ∨ 16 ≤ (u7.1).toNatClampNeg then none else
            if u7.1 < 0 ∨ 16 ≤ (u7.1).toNatClampNeg then none else
            fX9_seasons_34 fu (gU3 u31.2 10 (u7.1).toNatClampNeg ((u31.2.2.2.1 10 (u7.1).toNatClampNeg) - (100 : Int32))) v1 (v2 + 1)
        else
          fX9_seasons_34 fu u31.2 v1 (v2 + 1)
set_option maxHeartbeats 4000000 in
set_option maxRecDepth 100000 in
theorem bX9_seasons_34 {p : Program} {l : Launch} {e : Env} {s : State} {m : MethodId} {args : Array Value} {below : List Frame} {meth : Method} {c : Code} {Q : State → Prop} {G : GP} (X : GX p s m meth c args cX9_seasons 5 (some .int) wsX9_seasons RX9) (E : gE WM G s)  : ∀ (fu : Nat) (S : GS) (v1 : Int32) (v2 : Int32) (R : GS) (H : Heap) (locs : List Loc) (ls : Array Slot) (_ : fX9_seasons_34 fu S v1 v2 = some R) (_ : va_P (gD G) vwCl (WM G S ++ gF G) H) (_ : va_S (gA G) s.heap H locs) (_ : lv_has ls 5 [(0, .ref (ga G 63)), (1, .int v1), (2, .int v2)]) (_ : ∀ (H : Heap) (locs : List Loc) (ls : Array Slot), va_P (gD G) vwCl (WM G R ++ gF G) H → va_S (gA G) s.heap H locs → lv_has ls 5 [(0, .ref (ga G 63))] → W p l e (gR 5 108) s m args below meth c H locs 0 0 Q (F0 m 132 ls [])), W p l e (gR 5 108) s m args below meth c H locs 0 0 Q (F0 m 34 ls []) := by
  obtain ⟨hx, hb, -, -, hown, hts, -⟩ := id X
  intro fu
  induction fu with
  | zero =>
    intro S v1 v2 R H locs ls hf
    cases (show (none : Option GS) = some R from hf)
  | succ fu ih =>
    intro S v1 v2 R H locs ls hf hP hS hl kk
    rw [fX9_seasons_34] at hf
    refine lv_iload_n hx hb dX9_seasons_34 rfl (lv_at hl 2 rfl) ?_
    refine lv_iload_n hx hb dX9_seasons_35 rfl (lv_at hl 1 rfl) ?_
    refine lv_icmp_ge (tgt := 132) hx hb dX9_seasons_36 (by decide) (fun c6 => ?_) (fun c6 => ?_)
    · have hf := g_ift hf c6
      obtain rfl := g_some hf
      exact kk _ _ _ hP hS (lv_sub hl [0] rfl)
    · have hf := g_iff hf c6
      refine lv_aload_n hx hb dX9_seasons_39 rfl (lv_at hl 0 rfl) ?_
      refine lv_aload_n hx hb dX9_seasons_40 rfl (lv_at hl 0 rfl) ?_
      refine ggM_0 X E hP inX9_seasons_X9 lkX9_seasons_0 dX9_seasons_41 ?_
      obtain ⟨u7, h8, hf⟩ := g_bind hf
      refine g_vi (rest := []) X E hP hS (tcX9_draw l G _ _ h8) (g_cwV X gX9_seasons_X9_draw rfl hdX9_draw ⟨Nat.le_of_ble_eq_true rfl, Nat.le_of_ble_eq_true rfl⟩) (rcM_model E hP) rfl hl.1 rfl (Nat.le_of_ble_eq_true rfl) dX9_seasons_44 ⟨Nat.le_refl _, Nat.le_refl _⟩ (fun H locs hP hS => ?_)
      refine lv_istore_n (lv' := [(3, .int u7.1), (0, .ref (ga G 63)), (1, .int v1), (2, .int v2)]) hx hb dX9_seasons_47 rfl hl (by decide) rfl (fun ls hl => ?_)
      refine lv_aload_n hx hb dX9_seasons_48 rfl (lv_at hl 1 rfl) ?_
      refine ggM_9 X E hP inX9_seasons_X9 lkX9_seasons_1 dX9_seasons_49 ?_
      refine lv_iload_n hx hb dX9_seasons_52 rfl (lv_at hl 0 rfl) ?_
      obtain ⟨b9, hf⟩ := g_if hf
      refine giM_9 X E hP b9 dX9_seasons_53 ?_
      refine lv_aload_n hx hb dX9_seasons_54 rfl (lv_at hl 1 rfl) ?_
      refine lv_iconst (v := 3) hx hb dX9_seasons_55 (by decide) ?_
      obtain ⟨u10, h11, hf⟩ := g_bind hf
      refine g_vi (rest := [.int (u7.2.2.2.1 9 (u7.1).toNatClampNeg)]) X E hP hS (tcX9_draw l G _ _ h11) (g_cwV X gX9_seasons_X9_draw rfl hdX9_draw ⟨Nat.le_of_ble_eq_true rfl, Nat.le_of_ble_eq_true rfl⟩) (rcM_model E hP) rfl hl.1 rfl (Nat.le_of_ble_eq_true rfl) dX9_seasons_56 ⟨Nat.le_refl _, Nat.le_refl _⟩ (fun H locs hP hS => ?_)
      refine lv_iadd hx hb dX9_seasons_59 ?_
      refine lv_iconst (v := 1) hx hb dX9_seasons_60 (by decide) ?_
      refine lv_isub hx hb dX9_seasons_61 ?_
      refine lv_istore (lv' := [(4, .int (((u7.2.2.2.1 9 (u7.1).toNatClampNeg) + u10.1) - (1 : Int32))), (3, .int u7.1), (0, .ref (ga G 63)), (1, .int v1), (2, .int v2)]) hx hb dX9_seasons_62 hl (by decide) rfl (fun ls hl => ?_)
      refine lv_aload_n hx hb dX9_seasons_64 rfl (lv_at hl 2 rfl) ?_
      refine ggM_9 X E hP inX9_seasons_X9 lkX9_seasons_1 dX9_seasons_65 ?_
      refine lv_iload_n hx hb dX9_seasons_68 rfl (lv_at hl 1 rfl) ?_
      refine lv_iload hx hb dX9_seasons_69 (lv_at hl 0 rfl) ?_
      refine lv_if_ge (tgt := 78) hx hb dX9_seasons_71 (by decide) (fun c12 => ?_) (fun c12 => ?_)
      · have hf := g_ift hf c12
        refine lv_iload hx hb dX9_seasons_78 (lv_at hl 0 rfl) ?_
        refine lv_sipush (v := 9999) hx hb dX9_seasons_80 (by decide) ?_
        refine lv_icmp_le (tgt := 92) hx hb dX9_seasons_83 (by decide) (fun c13 => ?_) (fun c13 => ?_)
        · have hf := g_ift hf c13
          refine lv_iload hx hb dX9_seasons_92 (lv_at hl 0 rfl) ?_
          obtain ⟨b14, hf⟩ := g_if hf
          refine gsM_9 X E hP hS b14 dX9_seasons_94 (fun H locs hP hS => ?_)
          refine lv_aload_n hx hb dX9_seasons_95 rfl (lv_at hl 2 rfl) ?_
          refine lv_bipush (v := 20) hx hb dX9_seasons_96 (by decide) ?_
          obtain ⟨u15, h16, hf⟩ := g_bind hf
          refine g_vi (rest := []) X E hP hS (tcX9_draw l G _ _ h16) (g_cwV X gX9_seasons_X9_draw rfl hdX9_draw ⟨Nat.le_of_ble_eq_true rfl, Nat.le_of_ble_eq_true rfl⟩) (rcM_model E hP) rfl hl.1 rfl (Nat.le_of_ble_eq_true rfl) dX9_seasons_98 ⟨Nat.le_refl _, Nat.le_refl _⟩ (fun H locs hP hS => ?_)
          refine lv_if_ne (tgt := 126) hx hb dX9_seasons_101 (by decide) (fun c17 => ?_) (fun c17 => ?_)
          · have hf := g_iff hf c17
            refine lv_iinc (v := (v2 + 1)) (lv' := [(2, .int (v2 + 1)), (4, .int (((u7.2.2.2.1 9 (u7.1).toNatClampNeg) + u10.1) - (1 : Int32))), (3, .int u7.1), (0, .ref (ga G 63)), (1, .int v1)]) hx hb dX9_seasons_126 hl (k := 4) rfl rfl (by decide) rfl (fun ls hl => ?_)
            refine lv_goto (tgt := 34) hx hb dX9_seasons_129 (by decide) ?_
            exact ih _ _ _ _ _ _ _ hf hP hS (lv_sub hl [3, 4, 0] rfl) kk
          · have hf := g_ift hf c17
            refine lv_aload_n hx hb dX9_seasons_104 rfl (lv_at hl 2 rfl) ?_
            refine ggM_10 X E hP inX9_seasons_X9 lkX9_seasons_2 dX9_seasons_105 ?_
            refine lv_iload_n hx hb dX9_seasons_108 rfl (lv_at hl 1 rfl) ?_
            obtain ⟨b18, hf⟩ := g_if hf
            refine giM_10 X E hP b18 dX9_seasons_109 ?_
            refine lv_bipush (v := 100) hx hb dX9_seasons_110 (by decide) ?_
            refine lv_icmp_lt (tgt := 126) hx hb dX9_seasons_112 (by decide) (fun c19 => ?_) (fun c19 => ?_)
            · have hf := g_ift hf c19
              refine lv_iinc (v := (v2 + 1)) (lv' := [(2, .int (v2 + 1)), (4, .int (((u7.2.2.2.1 9 (u7.1).toNatClampNeg) + u10.1) - (1 : Int32))), (3, .int u7.1), (0, .ref (ga G 63)), (1, .int v1)]) hx hb dX9_seasons_126 hl (k := 4) rfl rfl (by decide) rfl (fun ls hl => ?_)
              refine lv_goto (tgt := 34) hx hb dX9_seasons_129 (by decide) ?_
              exact ih _ _ _ _ _ _ _ hf hP hS (lv_sub hl [3, 4, 0] rfl) kk
            · have hf := g_iff hf c19
              refine lv_aload_n hx hb dX9_seasons_115 rfl (lv_at hl 2 rfl) ?_
              refine ggM_10 X E hP inX9_seasons_X9 lkX9_seasons_2 dX9_seasons_116 ?_
              refine lv_iload_n hx hb dX9_seasons_119 rfl (lv_at hl 1 rfl) ?_
              refine lv_dup2_11 hx hb dX9_seasons_120 rfl rfl ?_
              obtain ⟨b20, hf⟩ := g_if hf
              refine giM_10 X E hP b20 dX9_seasons_121 ?_
              refine lv_bipush (v := 100) hx hb dX9_seasons_122 (by decide) ?_
              refine lv_isub hx hb dX9_seasons_124 ?_
              obtain ⟨b21, hf⟩ := g_if hf
              refine gsM_10 X E hP hS b21 dX9_seasons_125 (fun H locs hP hS => ?_)
              refine lv_iinc (v := (v2 + 1)) (lv' := [(2, .int (v2 + 1)), (4, .int (((u7.2.2.2.1 9 (u7.1).toNatClampNeg) + u10.1) - (1 : Int32))), (3, .int u7.1), (0, .ref (ga G 63)), (1, .int v1)]) hx hb dX9_seasons_126 hl (k := 4) rfl rfl (by decide) rfl (fun ls hl => ?_)
              refine lv_goto (tgt := 34) hx hb dX9_seasons_129 (by decide) ?_
              exact ih _ _ _ _ _ _ _ hf hP hS (lv_sub hl [3, 4, 0] rfl) kk
        · have hf := g_iff hf c13
          refine lv_sipush (v := 9999) hx hb dX9_seasons_86 (by decide) ?_
          refine lv_goto (tgt := 94) hx hb dX9_seasons_89 (by decide) ?_
          obtain ⟨b22, hf⟩ := g_if hf
          refine gsM_9 X E hP hS b22 dX9_seasons_94 (fun H locs hP hS => ?_)
          refine lv_aload_n hx hb dX9_seasons_95 rfl (lv_at hl 2 rfl) ?_
          refine lv_bipush (v := 20) hx hb dX9_seasons_96 (by decide) ?_
          obtain ⟨u23, h24, hf⟩ := g_bind hf
          refine g_vi (rest := []) X E hP hS (tcX9_draw l G _ _ h24) (g_cwV X gX9_seasons_X9_draw rfl hdX9_draw ⟨Nat.le_of_ble_eq_true rfl, Nat.le_of_ble_eq_true rfl⟩) (rcM_model E hP) rfl hl.1 rfl (Nat.le_of_ble_eq_true rfl) dX9_seasons_98 ⟨Nat.le_refl _, Nat.le_refl _⟩ (fun H locs hP hS => ?_)
          refine lv_if_ne (tgt := 126) hx hb dX9_seasons_101 (by decide) (fun c25 => ?_) (fun c25 => ?_)
          · have hf := g_iff hf c25
            refine lv_iinc (v := (v2 + 1)) (lv' := [(2, .int (v2 + 1)), (4, .int (((u7.2.2.2.1 9 (u7.1).toNatClampNeg) + u10.1) - (1 : Int32))), (3, .int u7.1), (0, .ref (ga G 63)), (1, .int v1)]) hx hb dX9_seasons_126 hl (k := 4) rfl rfl (by decide) rfl (fun ls hl => ?_)
            refine lv_goto (tgt := 34) hx hb dX9_seasons_129 (by decide) ?_
            exact ih _ _ _ _ _ _ _ hf hP hS (lv_sub hl [3, 4, 0] rfl) kk
          · have hf := g_ift hf c25
            refine lv_aload_n hx hb dX9_seasons_104 rfl (lv_at hl 2 rfl) ?_
            refine ggM_10 X E hP inX9_seasons_X9 lkX9_seasons_2 dX9_seasons_105 ?_
            refine lv_iload_n hx hb dX9_seasons_108 rfl (lv_at hl 1 rfl) ?_
            obtain ⟨b26, hf⟩ := g_if hf
            refine giM_10 X E hP b26 dX9_seasons_109 ?_
            refine lv_bipush (v := 100) hx hb dX9_seasons_110 (by decide) ?_
            refine lv_icmp_lt (tgt := 126) hx hb dX9_seasons_112 (by decide) (fun c27 => ?_) (fun c27 => ?_)
            · have hf := g_ift hf c27
              refine lv_iinc (v := (v2 + 1)) (lv' := [(2, .int (v2 + 1)), (4, .int (((u7.2.2.2.1 9 (u7.1).toNatClampNeg) + u10.1) - (1 : Int32))), (3, .int u7.1), (0, .ref (ga G 63)), (1, .int v1)]) hx hb dX9_seasons_126 hl (k := 4) rfl rfl (by decide) rfl (fun ls hl => ?_)
              refine lv_goto (tgt := 34) hx hb dX9_seasons_129 (by decide) ?_
              exact ih _ _ _ _ _ _ _ hf hP hS (lv_sub hl [3, 4, 0] rfl) kk
            · have hf := g_iff hf c27
              refine lv_aload_n hx hb dX9_seasons_115 rfl (lv_at hl 2 rfl) ?_
              refine ggM_10 X E hP inX9_seasons_X9 lkX9_seasons_2 dX9_seasons_116 ?_
              refine lv_iload_n hx hb dX9_seasons_119 rfl (lv_at hl 1 rfl) ?_
              refine lv_dup2_11 hx hb dX9_seasons_120 rfl rfl ?_
              obtain ⟨b28, hf⟩ := g_if hf
              refine giM_10 X E hP b28 dX9_seasons_121 ?_
              refine lv_bipush (v := 100) hx hb dX9_seasons_122 (by decide) ?_
              refine lv_isub hx hb dX9_seasons_124 ?_
              obtain ⟨b29, hf⟩ := g_if hf
              refine gsM_10 X E hP hS b29 dX9_seasons_125 (fun H locs hP hS => ?_)
              refine lv_iinc (v := (v2 + 1)) (lv' := [(2, .int (v2 + 1)), (4, .int (((u7.2.2.2.1 9 (u7.1).toNatClampNeg) + u10.1) - (1 : Int32))), (3, .int u7.1), (0, .ref (ga G 63)), (1, .int v1)]) hx hb dX9_seasons_126 hl (k := 4) rfl rfl (by decide) rfl (fun ls hl => ?_)
              refine lv_goto (tgt := 34) hx hb dX9_seasons_129 (by decide) ?_
              exact ih _ _ _ _ _ _ _ hf hP hS (lv_sub hl [3, 4, 0] rfl) kk
      · have hf := g_iff hf c12
        refine lv_iconst (v := 0) hx hb dX9_seasons_74 (by decide) ?_
        refine lv_goto (tgt := 94) hx hb dX9_seasons_75 (by decide) ?_
        obtain ⟨b30, hf⟩ := g_if hf
        refine gsM_9 X E hP hS b30 dX9_seasons_94 (fun H locs hP hS => ?_)
        refine lv_aload_n hx hb dX9_seasons_95 rfl (lv_at hl 2 rfl) ?_
        refine lv_bipush (v := 20) hx hb dX9_seasons_96 (by decide) ?_
        obtain ⟨u31, h32, hf⟩ := g_bind hf
        refine g_vi (rest := []) X E hP hS (tcX9_draw l G _ _ h32) (g_cwV X gX9_seasons_X9_draw rfl hdX9_draw ⟨Nat.le_of_ble_eq_true rfl, Nat.le_of_ble_eq_true rfl⟩) (rcM_model E hP) rfl hl.1 rfl (Nat.le_of_ble_eq_true rfl) dX9_seasons_98 ⟨Nat.le_refl _, Nat.le_refl _⟩ (fun H locs hP hS => ?_)
        refine lv_if_ne (tgt := 126) hx hb dX9_seasons_101 (by decide) (fun c33 => ?_) (fun c33 => ?_)
        · have hf := g_iff hf c33
          refine lv_iinc (v := (v2 + 1)) (lv' := [(2, .int (v2 + 1)), (4, .int (((u7.2.2.2.1 9 (u7.1).toNatClampNeg) + u10.1) - (1 : Int32))), (3, .int u7.1), (0, .ref (ga G 63)), (1, .int v1)]) hx hb dX9_seasons_126 hl (k := 4) rfl rfl (by decide) rfl (fun ls hl => ?_)
          refine lv_goto (tgt := 34) hx hb dX9_seasons_129 (by decide) ?_
          exact ih _ _ _ _ _ _ _ hf hP hS (lv_sub hl [3, 4, 0] rfl) kk
        · have hf := g_ift hf c33
          refine lv_aload_n hx hb dX9_seasons_104 rfl (lv_at hl 2 rfl) ?_
          refine ggM_10 X E hP inX9_seasons_X9 lkX9_seasons_2 dX9_seasons_105 ?_
          refine lv_iload_n hx hb dX9_seasons_108 rfl (lv_at hl 1 rfl) ?_
          obtain ⟨b34, hf⟩ := g_if hf
          refine giM_10 X E hP b34 dX9_seasons_109 ?_
          refine lv_bipush (v := 100) hx hb dX9_seasons_110 (by decide) ?_
          refine lv_icmp_lt (tgt := 126) hx hb dX9_seasons_112 (by decide) (fun c35 => ?_) (fun c35 => ?_)
          · have hf := g_ift hf c35
            refine lv_iinc (v := (v2 + 1)) (lv' := [(2, .int (v2 + 1)), (4, .int (((u7.2.2.2.1 9 (u7.1).toNatClampNeg) + u10.1) - (1 : Int32))), (3, .int u7.1), (0, .ref (ga G 63)), (1, .int v1)]) hx hb dX9_seasons_126 hl (k := 4) rfl rfl (by decide) rfl (fun ls hl => ?_)
            refine lv_goto (tgt := 34) hx hb dX9_seasons_129 (by decide) ?_
            exact ih _ _ _ _ _ _ _ hf hP hS (lv_sub hl [3, 4, 0] rfl) kk
          · have hf := g_iff hf c35
            refine lv_aload_n hx hb dX9_seasons_115 rfl (lv_at hl 2 rfl) ?_
            refine ggM_10 X E hP inX9_seasons_X9 lkX9_seasons_2 dX9_seasons_116 ?_
            refine lv_iload_n hx hb dX9_seasons_119 rfl (lv_at hl 1 rfl) ?_
            refine lv_dup2_11 hx hb dX9_seasons_120 rfl rfl ?_
            obtain ⟨b36, hf⟩ := g_if hf
            refine giM_10 X E hP b36 dX9_seasons_121 ?_
            refine lv_bipush (v := 100) hx hb dX9_seasons_122 (by decide) ?_
            refine lv_isub hx hb dX9_seasons_124 ?_
            obtain ⟨b37, hf⟩ := g_if hf
            refine gsM_10 X E hP hS b37 dX9_seasons_125 (fun H locs hP hS => ?_)
            refine lv_iinc (v := (v2 + 1)) (lv' := [(2, .int (v2 + 1)), (4, .int (((u7.2.2.2.1 9 (u7.1).toNatClampNeg) + u10.1) - (1 : Int32))), (3, .int u7.1), (0, .ref (ga G 63)), (1, .int v1)]) hx hb dX9_seasons_126 hl (k := 4) rfl rfl (by decide) rfl (fun ls hl => ?_)
            refine lv_goto (tgt := 34) hx hb dX9_seasons_129 (by decide) ?_
            exact ih _ _ _ _ _ _ _ hf hP hS (lv_sub hl [3, 4, 0] rfl) kk
def fX9_seasons (S : GS) (a1 : Int32) : Option (Int32 × GS) :=
  if (S.1 0) = 0 then
    (fX9_noFar S (-5 : Int32)).bind fun u44 =>
    some (u44.1, u44.2)
  else
    if a1 < (1 : Int32) then
      (fX9_noFar S (-6 : Int32)).bind fun u3 =>
      some (u3.1, u3.2)
    else
      if a1 ≤ (60 : Int32) then
        (fX9_seasons_34 gFuel S a1 (0 : Int32)).bind fun u38 =>
        (fX9_offAll u38).bind fun u40 =>
        some (u40, u38)
      else
        (fX9_noFar S (-6 : Int32)).bind fun u42 =>
        some (u42.1, u42.2)
set_option maxHeartbeats 4000000 in
set_option maxRecDepth 100000 in
theorem tcX9_seasons (l : Launch) (G : GP) (S : GS) (a1 : Int32) {R : (Int32 × GS)} (hf : fX9_seasons S a1 = some R) : CI l yX9_seasons wsX9_seasons 5 108 [.ref (ga G 63), .int a1] WM G S R.1 R.2 := by
  refine g_met RX9 (cc := cX9_seasons) (nL := 5) (ret := (some .int)) (by decide) rfl rfl (Nat.le_of_ble_eq_true rfl) ?_
  intro p e s m below meth c ls X E hP hS hl
  have hl : lv_has ls 5 [(0, .ref (ga G 63)), (1, .int a1)] := hl
  obtain ⟨hx, hb, -, -, hown, hts, -⟩ := id X
  rw [fX9_seasons] at hf
  refine lv_aload_n hx hb dX9_seasons_0 rfl (lv_at hl 0 rfl) ?_
  refine ggM_0 X E hP inX9_seasons_X9 lkX9_seasons_0 dX9_seasons_1 ?_
  refine lv_if_ne (tgt := 14) hx hb dX9_seasons_4 (by decide) (fun c1 => ?_) (fun c1 => ?_)
  · have hf := g_iff hf c1
    refine lv_iload_n hx hb dX9_seasons_14 rfl (lv_at hl 1 rfl) ?_
    refine lv_iconst (v := 1) hx hb dX9_seasons_15 (by decide) ?_
    refine lv_icmp_lt (tgt := 25) hx hb dX9_seasons_16 (by decide) (fun c2 => ?_) (fun c2 => ?_)
    · have hf := g_ift hf c2
      refine lv_aload_n hx hb dX9_seasons_25 rfl (lv_at hl 0 rfl) ?_
      refine lv_bipush (v := -6) hx hb dX9_seasons_26 (by decide) ?_
      obtain ⟨u3, h4, hf⟩ := g_bind hf
      refine g_vi (rest := []) X E hP hS (tcX9_noFar l G _ _ h4) (g_cwV X gX9_seasons_X9_noFar rfl hdX9_noFar ⟨Nat.le_of_ble_eq_true rfl, Nat.le_of_ble_eq_true rfl⟩) (rcM_model E hP) rfl hl.1 rfl (Nat.le_of_ble_eq_true rfl) dX9_seasons_28 ⟨Nat.le_refl _, Nat.le_refl _⟩ (fun H locs hP hS => ?_)
      obtain rfl := g_some hf
      exact g_ri X E hP hS dX9_seasons_31
    · have hf := g_iff hf c2
      refine lv_iload_n hx hb dX9_seasons_19 rfl (lv_at hl 1 rfl) ?_
      refine lv_bipush (v := 60) hx hb dX9_seasons_20 (by decide) ?_
      refine lv_icmp_le (tgt := 32) hx hb dX9_seasons_22 (by decide) (fun c5 => ?_) (fun c5 => ?_)
      · have hf := g_ift hf c5
        refine lv_iconst (v := 0) hx hb dX9_seasons_32 (by decide) ?_
        refine lv_istore_n (lv' := [(2, .int (0 : Int32)), (0, .ref (ga G 63)), (1, .int a1)]) hx hb dX9_seasons_33 rfl hl (by decide) rfl (fun ls hl => ?_)
        obtain ⟨u38, h39, hf⟩ := g_bind hf
        refine bX9_seasons_34 X E gFuel _ _ _ u38 _ _ _ h39 hP hS (lv_sub hl [1, 2, 0] rfl) (fun H locs ls hP hS hl => ?_)
        have hl : lv_has ls 5 [(0, .ref (ga G 63))] := hl
        have hP : va_P (gD G) vwCl (WM G u38 ++ gF G) H := hP
        refine lv_aload_n hx hb dX9_seasons_132 rfl (lv_at hl 0 rfl) ?_
        obtain ⟨u40, h41, hf⟩ := g_bind hf
        refine g_vi (rest := []) X E hP hS (tcX9_offAll l G _  h41) (g_cwV X gX9_seasons_X9_offAll rfl hdX9_offAll ⟨Nat.le_of_ble_eq_true rfl, Nat.le_of_ble_eq_true rfl⟩) (rcM_model E hP) rfl hl.1 rfl (Nat.le_of_ble_eq_true rfl) dX9_seasons_133 ⟨Nat.le_refl _, Nat.le_refl _⟩ (fun H locs hP hS => ?_)
        obtain rfl := g_some hf
        exact g_ri X E hP hS dX9_seasons_136
      · have hf := g_iff hf c5
        refine lv_aload_n hx hb dX9_seasons_25 rfl (lv_at hl 0 rfl) ?_
        refine lv_bipush (v := -6) hx hb dX9_seasons_26 (by decide) ?_
        obtain ⟨u42, h43, hf⟩ := g_bind hf
        refine g_vi (rest := []) X E hP hS (tcX9_noFar l G _ _ h43) (g_cwV X gX9_seasons_X9_noFar rfl hdX9_noFar ⟨Nat.le_of_ble_eq_true rfl, Nat.le_of_ble_eq_true rfl⟩) (rcM_model E hP) rfl hl.1 rfl (Nat.le_of_ble_eq_true rfl) dX9_seasons_28 ⟨Nat.le_refl _, Nat.le_refl _⟩ (fun H locs hP hS => ?_)
        obtain rfl := g_some hf
        exact g_ri X E hP hS dX9_seasons_31
  · have hf := g_ift hf c1
    refine lv_aload_n hx hb dX9_seasons_7 rfl (lv_at hl 0 rfl) ?_
    refine lv_bipush (v := -5) hx hb dX9_seasons_8 (by decide) ?_
    obtain ⟨u44, h45, hf⟩ := g_bind hf
    refine g_vi (rest := []) X E hP hS (tcX9_noFar l G _ _ h45) (g_cwV X gX9_seasons_X9_noFar rfl hdX9_noFar ⟨Nat.le_of_ble_eq_true rfl, Nat.le_of_ble_eq_true rfl⟩) (rcM_model E hP) rfl hl.1 rfl (Nat.le_of_ble_eq_true rfl) dX9_seasons_10 ⟨Nat.le_refl _, Nat.le_refl _⟩ (fun H locs hP hS => ?_)
    obtain rfl := g_some hf
    exact g_ri X E hP hS dX9_seasons_13
theorem lkX9_seed_0 : Cond.fieldLink RX9 16 RX9 "seed" "I" ∈ wsX9_seed := by decide +kernel
theorem inX9_seed_X9 : ∀ w ∈ wsX90, w ∈ wsX9_seed := by decide +kernel
def fX9_seed (S : GS) (a1 : Int32) : Option (Int32 × GS) :=
  some ((S.1 4), (gU1 S 4 a1))
set_option maxHeartbeats 4000000 in
set_option maxRecDepth 100000 in
theorem tcX9_seed (l : Launch) (G : GP) (S : GS) (a1 : Int32) {R : (Int32 × GS)} (hf : fX9_seed S a1 = some R) : CI l yX9_seed wsX9_seed 0 0 [.ref (ga G 63), .int a1] WM G S R.1 R.2 := by
  refine g_met RX9 (cc := cX9_seed) (nL := 3) (ret := (some .int)) (by decide) rfl rfl (Nat.le_of_ble_eq_true rfl) ?_
  intro p e s m below meth c ls X E hP hS hl
  have hl : lv_has ls 3 [(0, .ref (ga G 63)), (1, .int a1)] := hl
  obtain ⟨hx, hb, -, -, hown, hts, -⟩ := id X
  rw [fX9_seed] at hf
  refine lv_aload_n hx hb dX9_seed_0 rfl (lv_at hl 0 rfl) ?_
  refine ggM_4 X E hP inX9_seed_X9 lkX9_seed_0 dX9_seed_1 ?_
  refine lv_istore_n (lv' := [(2, .int (S.1 4)), (0, .ref (ga G 63)), (1, .int a1)]) hx hb dX9_seed_4 rfl hl (by decide) rfl (fun ls hl => ?_)
  refine lv_aload_n hx hb dX9_seed_5 rfl (lv_at hl 1 rfl) ?_
  refine lv_iload_n hx hb dX9_seed_6 rfl (lv_at hl 2 rfl) ?_
  refine gpM_4 X E hP hS inX9_seed_X9 lkX9_seed_0 dX9_seed_7 (fun H locs hP hS => ?_)
  refine lv_iload_n hx hb dX9_seed_10 rfl (lv_at hl 0 rfl) ?_
  obtain rfl := g_some hf
  exact g_ri X E hP hS dX9_seed_11
theorem lkX9_body_0 : Cond.fieldLink RX9 279 RX9 "ran" "I" ∈ wsX9_body := by decide +kernel
theorem lkX9_body_1 : Cond.fieldLink RX9 87 RX9 "trace" "[I" ∈ wsX9_body := by decide +kernel
theorem inX9_body_X9 : ∀ w ∈ wsX90, w ∈ wsX9_body := by decide +kernel
def fX9_body_L19 (S : GS)  : Option GS :=
  some (gU1 S 38 ((S.1 38) + (1 : Int32)))
set_option maxHeartbeats 4000000 in
set_option maxRecDepth 100000 in
theorem bX9_body_L19 {p : Program} {l : Launch} {e : Env} {s : State} {m : MethodId} {args : Array Value} {below : List Frame} {meth : Method} {c : Code} {G : GP} (X : GX p s m meth c args cX9_body 2 none wsX9_body RX9) (E : gE WM G s) (S : GS)  (R : GS) (H : Heap) (locs : List Loc) (ls : Array Slot) (hf : fX9_body_L19 S  = some R) (hP : va_P (gD G) vwCl (WM G S ++ gF G) H) (hS : va_S (gA G) s.heap H locs) (hl : lv_has ls 2 [(0, .ref (ga G 63))]) : W p l e (gR 0 0) s m args below meth c H locs 0 0 (MQ below (gQv WM G R) args s 0 0 (gA G)) (F0 m 19 ls []) := by
  obtain ⟨hx, hb, -, -, hown, hts, -⟩ := id X
  rw [fX9_body_L19] at hf
  refine lv_aload_n hx hb dX9_body_19 rfl (lv_at hl 0 rfl) ?_
  refine lv_dup hx hb dX9_body_20 rfl ?_
  refine ggM_38 X E hP inX9_body_X9 lkX9_body_0 dX9_body_21 ?_
  refine lv_iconst (v := 1) hx hb dX9_body_24 (by decide) ?_
  refine lv_iadd hx hb dX9_body_25 ?_
  refine gpM_38 X E hP hS inX9_body_X9 lkX9_body_0 dX9_body_26 (fun H locs hP hS => ?_)
  obtain rfl := g_some hf
  exact g_rv X E hP hS dX9_body_29
def fX9_body (S : GS) (a1 : Int32) : Option GS :=
  if (20 : Int32) ≤ (S.1 38) then
    fX9_body_L19 S
  else
    if (S.1 38) < 0 ∨ 20 ≤ (S.1 38).toNatClampNeg then none else
    fX9_body_L19 (gU3 S 37 (S.1 38).toNatClampNeg a1)
set_option maxHeartbeats 4000000 in
set_option maxRecDepth 100000 in
theorem tcX9_body (l : Launch) (G : GP) (S : GS) (a1 : Int32) {R : GS} (hf : fX9_body S a1 = some R) : CV l yX9_body wsX9_body 0 0 [.ref (ga G 63), .int a1] WM G S R := by
  refine g_met RX9 (cc := cX9_body) (nL := 2) (ret := none) (by decide) rfl rfl (Nat.le_of_ble_eq_true rfl) ?_
  intro p e s m below meth c ls X E hP hS hl
  have hl : lv_has ls 2 [(0, .ref (ga G 63)), (1, .int a1)] := hl
  obtain ⟨hx, hb, -, -, hown, hts, -⟩ := id X
  rw [fX9_body] at hf
  refine lv_aload_n hx hb dX9_body_0 rfl (lv_at hl 0 rfl) ?_
  refine ggM_38 X E hP inX9_body_X9 lkX9_body_0 dX9_body_1 ?_
  refine lv_bipush (v := 20) hx hb dX9_body_4 (by decide) ?_
  refine lv_icmp_ge (tgt := 19) hx hb dX9_body_6 (by decide) (fun c1 => ?_) (fun c1 => ?_)
  · have hf := g_ift hf c1
    exact bX9_body_L19 X E _ _ _ _ _ hf hP hS (lv_sub hl [0] rfl)
  · have hf := g_iff hf c1
    refine lv_aload_n hx hb dX9_body_9 rfl (lv_at hl 0 rfl) ?_
    refine ggM_37 X E hP inX9_body_X9 lkX9_body_1 dX9_body_10 ?_
    refine lv_aload_n hx hb dX9_body_13 rfl (lv_at hl 0 rfl) ?_
    refine ggM_38 X E hP inX9_body_X9 lkX9_body_0 dX9_body_14 ?_
    refine lv_iload_n hx hb dX9_body_17 rfl (lv_at hl 1 rfl) ?_
    obtain ⟨b2, hf⟩ := g_if hf
    refine gsM_37 X E hP hS b2 dX9_body_18 (fun H locs hP hS => ?_)
    exact bX9_body_L19 X E _ _ _ _ _ hf hP hS (lv_sub hl [0] rfl)
theorem lkX9_reading_0 : Cond.fieldLink RX9 26 RX9 "kind" "[I" ∈ wsX9_reading := by decide +kernel
theorem lkX9_reading_1 : Cond.fieldLink RX9 29 RX9 "part" "[I" ∈ wsX9_reading := by decide +kernel
theorem inX9_reading_X9 : ∀ w ∈ wsX90, w ∈ wsX9_reading := by decide +kernel
def fX9_reading_L101 (S : GS) (v3 : Int32) (v4 : Int32) : Option (Int32 × GS) :=
  if v3 = (6 : Int32) then
    some ((v4 * (2 : Int32)), S)
  else
    some (v4, S)
set_option maxHeartbeats 4000000 in
set_option maxRecDepth 100000 in
theorem bX9_reading_L101 {p : Program} {l : Launch} {e : Env} {s : State} {m : MethodId} {args : Array Value} {below : List Frame} {meth : Method} {c : Code} {G : GP} (X : GX p s m meth c args cX9_reading 5 (some .int) wsX9_reading RX9) (E : gE WM G s) (S : GS) (v3 : Int32) (v4 : Int32) (R : (Int32 × GS)) (H : Heap) (locs : List Loc) (ls : Array Slot) (hf : fX9_reading_L101 S v3 v4 = some R) (hP : va_P (gD G) vwCl (WM G S ++ gF G) H) (hS : va_S (gA G) s.heap H locs) (hl : lv_has ls 5 [(3, .int v3), (4, .int v4)]) : W p l e (gR 1 21) s m args below meth c H locs 0 0 (MQ below (gQi WM G R.1 R.2) args s 0 0 (gA G)) (F0 m 101 ls []) := by
  obtain ⟨hx, hb, -, -, hown, hts, -⟩ := id X
  rw [fX9_reading_L101] at hf
  refine lv_iload_n hx hb dX9_reading_101 rfl (lv_at hl 0 rfl) ?_
  refine lv_bipush (v := 6) hx hb dX9_reading_102 (by decide) ?_
  refine lv_icmp_ne (tgt := 114) hx hb dX9_reading_104 (by decide) (fun c14 => ?_) (fun c14 => ?_)
  · have hf := g_iff hf c14
    refine lv_iload hx hb dX9_reading_114 (lv_at hl 1 rfl) ?_
    obtain rfl := g_some hf
    exact g_ri X E hP hS dX9_reading_116
  · have hf := g_ift hf c14
    refine lv_iload hx hb dX9_reading_107 (lv_at hl 1 rfl) ?_
    refine lv_iconst (v := 2) hx hb dX9_reading_109 (by decide) ?_
    refine lv_imul hx hb dX9_reading_110 ?_
    refine lv_goto (tgt := 116) hx hb dX9_reading_111 (by decide) ?_
    obtain rfl := g_some hf
    exact g_ri X E hP hS dX9_reading_116
def fX9_reading_L95 (S : GS) (v1 : Int32) (v3 : Int32) (v4 : Int32) : Option (Int32 × GS) :=
  fX9_reading_L101 S v3 (v4 - v1)
set_option maxHeartbeats 4000000 in
set_option maxRecDepth 100000 in
theorem bX9_reading_L95 {p : Program} {l : Launch} {e : Env} {s : State} {m : MethodId} {args : Array Value} {below : List Frame} {meth : Method} {c : Code} {G : GP} (X : GX p s m meth c args cX9_reading 5 (some .int) wsX9_reading RX9) (E : gE WM G s) (S : GS) (v1 : Int32) (v3 : Int32) (v4 : Int32) (R : (Int32 × GS)) (H : Heap) (locs : List Loc) (ls : Array Slot) (hf : fX9_reading_L95 S v1 v3 v4 = some R) (hP : va_P (gD G) vwCl (WM G S ++ gF G) H) (hS : va_S (gA G) s.heap H locs) (hl : lv_has ls 5 [(1, .int v1), (3, .int v3), (4, .int v4)]) : W p l e (gR 1 21) s m args below meth c H locs 0 0 (MQ below (gQi WM G R.1 R.2) args s 0 0 (gA G)) (F0 m 95 ls []) := by
  obtain ⟨hx, hb, -, -, hown, hts, -⟩ := id X
  rw [fX9_reading_L95] at hf
  refine lv_iload hx hb dX9_reading_95 (lv_at hl 2 rfl) ?_
  refine lv_iload_n hx hb dX9_reading_97 rfl (lv_at hl 0 rfl) ?_
  refine lv_isub hx hb dX9_reading_98 ?_
  refine lv_istore (lv' := [(4, .int (v4 - v1)), (1, .int v1), (3, .int v3)]) hx hb dX9_reading_99 hl (by decide) rfl (fun ls hl => ?_)
  exact bX9_reading_L101 X E _ _ _ _ _ _ _ hf hP hS (lv_sub hl [2, 0] rfl)
def fX9_reading_L84 (S : GS) (v1 : Int32) (v3 : Int32) (v4 : Int32) : Option (Int32 × GS) :=
  if v3 = (4 : Int32) then
    fX9_reading_L95 S v1 v3 v4
  else
    if v3 = (6 : Int32) then
      fX9_reading_L95 S v1 v3 v4
    else
      fX9_reading_L101 S v3 v4
set_option maxHeartbeats 4000000 in
set_option maxRecDepth 100000 in
theorem bX9_reading_L84 {p : Program} {l : Launch} {e : Env} {s : State} {m : MethodId} {args : Array Value} {below : List Frame} {meth : Method} {c : Code} {G : GP} (X : GX p s m meth c args cX9_reading 5 (some .int) wsX9_reading RX9) (E : gE WM G s) (S : GS) (v1 : Int32) (v3 : Int32) (v4 : Int32) (R : (Int32 × GS)) (H : Heap) (locs : List Loc) (ls : Array Slot) (hf : fX9_reading_L84 S v1 v3 v4 = some R) (hP : va_P (gD G) vwCl (WM G S ++ gF G) H) (hS : va_S (gA G) s.heap H locs) (hl : lv_has ls 5 [(1, .int v1), (3, .int v3), (4, .int v4)]) : W p l e (gR 1 21) s m args below meth c H locs 0 0 (MQ below (gQi WM G R.1 R.2) args s 0 0 (gA G)) (F0 m 84 ls []) := by
  obtain ⟨hx, hb, -, -, hown, hts, -⟩ := id X
  rw [fX9_reading_L84] at hf
  refine lv_iload_n hx hb dX9_reading_84 rfl (lv_at hl 1 rfl) ?_
  refine lv_iconst (v := 4) hx hb dX9_reading_85 (by decide) ?_
  refine lv_icmp_eq (tgt := 95) hx hb dX9_reading_86 (by decide) (fun c13 => ?_) (fun c13 => ?_)
  · have hf := g_ift hf c13
    exact bX9_reading_L95 X E _ _ _ _ _ _ _ _ hf hP hS (lv_sub hl [0, 1, 2] rfl)
  · have hf := g_iff hf c13
    refine lv_iload_n hx hb dX9_reading_89 rfl (lv_at hl 1 rfl) ?_
    refine lv_bipush (v := 6) hx hb dX9_reading_90 (by decide) ?_
    refine lv_icmp_ne (tgt := 101) hx hb dX9_reading_92 (by decide) (fun c15 => ?_) (fun c15 => ?_)
    · have hf := g_iff hf c15
      exact bX9_reading_L101 X E _ _ _ _ _ _ _ hf hP hS (lv_sub hl [1, 2] rfl)
    · have hf := g_ift hf c15
      exact bX9_reading_L95 X E _ _ _ _ _ _ _ _ hf hP hS (lv_sub hl [0, 1, 2] rfl)
def fX9_reading_L73 (S : GS) (v1 : Int32) (v3 : Int32) (v4 : Int32) : Option (Int32 × GS) :=
  if v1 < 0 ∨ 16 ≤ (v1).toNatClampNeg then none else
  fX9_reading_L84 S v1 v3 (v4 + (S.2.2.1 8 (v1).toNatClampNeg))
set_option maxHeartbeats 4000000 in
set_option maxRecDepth 100000 in
theorem bX9_reading_L73 {p : Program} {l : Launch} {e : Env} {s : State} {m : MethodId} {args : Array Value} {below : List Frame} {meth : Method} {c : Code} {G : GP} (X : GX p s m meth c args cX9_reading 5 (some .int) wsX9_reading RX9) (E : gE WM G s) (S : GS) (v1 : Int32) (v3 : Int32) (v4 : Int32) (R : (Int32 × GS)) (H : Heap) (locs : List Loc) (ls : Array Slot) (hf : fX9_reading_L73 S v1 v3 v4 = some R) (hP : va_P (gD G) vwCl (WM G S ++ gF G) H) (hS : va_S (gA G) s.heap H locs) (hl : lv_has ls 5 [(0, .ref (ga G 63)), (1, .int v1), (3, .int v3), (4, .int v4)]) : W p l e (gR 1 21) s m args below meth c H locs 0 0 (MQ below (gQi WM G R.1 R.2) args s 0 0 (gA G)) (F0 m 73 ls []) := by
  obtain ⟨hx, hb, -, -, hown, hts, -⟩ := id X
  rw [fX9_reading_L73] at hf
  refine lv_iload hx hb dX9_reading_73 (lv_at hl 3 rfl) ?_
  refine lv_aload_n hx hb dX9_reading_75 rfl (lv_at hl 0 rfl) ?_
  refine ggM_8 X E hP inX9_reading_X9 lkX9_reading_1 dX9_reading_76 ?_
  refine lv_iload_n hx hb dX9_reading_79 rfl (lv_at hl 1 rfl) ?_
  obtain ⟨b12, hf⟩ := g_if hf
  refine giM_8 X E hP b12 dX9_reading_80 ?_
  refine lv_iadd hx hb dX9_reading_81 ?_
  refine lv_istore (lv' := [(4, .int (v4 + (S.2.2.1 8 (v1).toNatClampNeg))), (0, .ref (ga G 63)), (1, .int v1), (3, .int v3)]) hx hb dX9_reading_82 hl (by decide) rfl (fun ls hl => ?_)
  exact bX9_reading_L84 X E _ _ _ _ _ _ _ _ hf hP hS (lv_sub hl [2, 3, 0] rfl)
def fX9_reading_L52 (S : GS) (v1 : Int32) (v2 : Int32) (v3 : Int32) : Option (Int32 × GS) :=
  (fX9_body S (10 : Int32)).bind fun u9 =>
  if v3 = (1 : Int32) then
    fX9_reading_L73 u9 v1 v3 (v2 + v1)
  else
    if v3 = (3 : Int32) then
      fX9_reading_L73 u9 v1 v3 (v2 + v1)
    else
      fX9_reading_L84 u9 v1 v3 (v2 + v1)
set_option maxHeartbeats 4000000 in
set_option maxRecDepth 100000 in
theorem bX9_reading_L52 {p : Program} {l : Launch} {e : Env} {s : State} {m : MethodId} {args : Array Value} {below : List Frame} {meth : Method} {c : Code} {G : GP} (X : GX p s m meth c args cX9_reading 5 (some .int) wsX9_reading RX9) (E : gE WM G s) (S : GS) (v1 : Int32) (v2 : Int32) (v3 : Int32) (R : (Int32 × GS)) (H : Heap) (locs : List Loc) (ls : Array Slot) (hf : fX9_reading_L52 S v1 v2 v3 = some R) (hP : va_P (gD G) vwCl (WM G S ++ gF G) H) (hS : va_S (gA G) s.heap H locs) (hl : lv_has ls 5 [(0, .ref (ga G 63)), (1, .int v1), (2, .int v2), (3, .int v3)]) : W p l e (gR 1 21) s m args below meth c H locs 0 0 (MQ below (gQi WM G R.1 R.2) args s 0 0 (gA G)) (F0 m 52 ls []) := by
  obtain ⟨hx, hb, -, -, hown, hts, -⟩ := id X
  rw [fX9_reading_L52] at hf
  refine lv_aload_n hx hb dX9_reading_52 rfl (lv_at hl 0 rfl) ?_
  refine lv_bipush (v := 10) hx hb dX9_reading_53 (by decide) ?_
  obtain ⟨u9, h10, hf⟩ := g_bind hf
  refine g_vv (rest := []) X E hP hS (tcX9_body l G _ _ h10) (g_cwV X gX9_reading_X9_body rfl hdX9_body ⟨Nat.le_of_ble_eq_true rfl, Nat.le_of_ble_eq_true rfl⟩) (rcM_model E hP) rfl hl.1 rfl (Nat.le_of_ble_eq_true rfl) dX9_reading_55 ⟨Nat.le_refl _, Nat.le_refl _⟩ (fun H locs hP hS => ?_)
  refine lv_iload_n hx hb dX9_reading_58 rfl (lv_at hl 2 rfl) ?_
  refine lv_iload_n hx hb dX9_reading_59 rfl (lv_at hl 1 rfl) ?_
  refine lv_iadd hx hb dX9_reading_60 ?_
  refine lv_istore (lv' := [(4, .int (v2 + v1)), (0, .ref (ga G 63)), (1, .int v1), (2, .int v2), (3, .int v3)]) hx hb dX9_reading_61 hl (by decide) rfl (fun ls hl => ?_)
  refine lv_iload_n hx hb dX9_reading_63 rfl (lv_at hl 4 rfl) ?_
  refine lv_iconst (v := 1) hx hb dX9_reading_64 (by decide) ?_
  refine lv_icmp_eq (tgt := 73) hx hb dX9_reading_65 (by decide) (fun c11 => ?_) (fun c11 => ?_)
  · have hf := g_ift hf c11
    exact bX9_reading_L73 X E _ _ _ _ _ _ _ _ hf hP hS (lv_sub hl [1, 2, 4, 0] rfl)
  · have hf := g_iff hf c11
    refine lv_iload_n hx hb dX9_reading_68 rfl (lv_at hl 4 rfl) ?_
    refine lv_iconst (v := 3) hx hb dX9_reading_69 (by decide) ?_
    refine lv_icmp_ne (tgt := 84) hx hb dX9_reading_70 (by decide) (fun c16 => ?_) (fun c16 => ?_)
    · have hf := g_iff hf c16
      exact bX9_reading_L84 X E _ _ _ _ _ _ _ _ hf hP hS (lv_sub hl [2, 4, 0] rfl)
    · have hf := g_ift hf c16
      exact bX9_reading_L73 X E _ _ _ _ _ _ _ _ hf hP hS (lv_sub hl [1, 2, 4, 0] rfl)
def fX9_reading_L46 (S : GS) (v1 : Int32) (v2 : Int32) (v3 : Int32) : Option (Int32 × GS) :=
  (fX9_body S (20 : Int32)).bind fun u7 =>
  fX9_reading_L52 u7 v1 v2 v3
set_option maxHeartbeats 4000000 in
set_option maxRecDepth 100000 in
theorem bX9_reading_L46 {p : Program} {l : Launch} {e : Env} {s : State} {m : MethodId} {args : Array Value} {below : List Frame} {meth : Method} {c : Code} {G : GP} (X : GX p s m meth c args cX9_reading 5 (some .int) wsX9_reading RX9) (E : gE WM G s) (S : GS) (v1 : Int32) (v2 : Int32) (v3 : Int32) (R : (Int32 × GS)) (H : Heap) (locs : List Loc) (ls : Array Slot) (hf : fX9_reading_L46 S v1 v2 v3 = some R) (hP : va_P (gD G) vwCl (WM G S ++ gF G) H) (hS : va_S (gA G) s.heap H locs) (hl : lv_has ls 5 [(0, .ref (ga G 63)), (1, .int v1), (2, .int v2), (3, .int v3)]) : W p l e (gR 1 21) s m args below meth c H locs 0 0 (MQ below (gQi WM G R.1 R.2) args s 0 0 (gA G)) (F0 m 46 ls []) := by
  obtain ⟨hx, hb, -, -, hown, hts, -⟩ := id X
  rw [fX9_reading_L46] at hf
  refine lv_aload_n hx hb dX9_reading_46 rfl (lv_at hl 0 rfl) ?_
  refine lv_bipush (v := 20) hx hb dX9_reading_47 (by decide) ?_
  obtain ⟨u7, h8, hf⟩ := g_bind hf
  refine g_vv (rest := []) X E hP hS (tcX9_body l G _ _ h8) (g_cwV X gX9_reading_X9_body rfl hdX9_body ⟨Nat.le_of_ble_eq_true rfl, Nat.le_of_ble_eq_true rfl⟩) (rcM_model E hP) rfl hl.1 rfl (Nat.le_of_ble_eq_true rfl) dX9_reading_49 ⟨Nat.le_refl _, Nat.le_refl _⟩ (fun H locs hP hS => ?_)
  exact bX9_reading_L52 X E _ _ _ _ _ _ _ _ hf hP hS (lv_sub hl [0, 1, 2, 3] rfl)
def fX9_reading_L36 (S : GS) (v1 : Int32) (v2 : Int32) (v3 : Int32) : Option (Int32 × GS) :=
  if v3 = (1 : Int32) then
    fX9_reading_L46 S v1 v2 v3
  else
    if v3 = (3 : Int32) then
      fX9_reading_L46 S v1 v2 v3
    else
      fX9_reading_L52 S v1 v2 v3
set_option maxHeartbeats 4000000 in
set_option maxRecDepth 100000 in
theorem bX9_reading_L36 {p : Program} {l : Launch} {e : Env} {s : State} {m : MethodId} {args : Array Value} {below : List Frame} {meth : Method} {c : Code} {G : GP} (X : GX p s m meth c args cX9_reading 5 (some .int) wsX9_reading RX9) (E : gE WM G s) (S : GS) (v1 : Int32) (v2 : Int32) (v3 : Int32) (R : (Int32 × GS)) (H : Heap) (locs : List Loc) (ls : Array Slot) (hf : fX9_reading_L36 S v1 v2 v3 = some R) (hP : va_P (gD G) vwCl (WM G S ++ gF G) H) (hS : va_S (gA G) s.heap H locs) (hl : lv_has ls 5 [(0, .ref (ga G 63)), (1, .int v1), (2, .int v2), (3, .int v3)]) : W p l e (gR 1 21) s m args below meth c H locs 0 0 (MQ below (gQi WM G R.1 R.2) args s 0 0 (gA G)) (F0 m 36 ls []) := by
  obtain ⟨hx, hb, -, -, hown, hts, -⟩ := id X
  rw [fX9_reading_L36] at hf
  refine lv_iload_n hx hb dX9_reading_36 rfl (lv_at hl 3 rfl) ?_
  refine lv_iconst (v := 1) hx hb dX9_reading_37 (by decide) ?_
  refine lv_icmp_eq (tgt := 46) hx hb dX9_reading_38 (by decide) (fun c6 => ?_) (fun c6 => ?_)
  · have hf := g_ift hf c6
    exact bX9_reading_L46 X E _ _ _ _ _ _ _ _ hf hP hS (lv_sub hl [0, 1, 2, 3] rfl)
  · have hf := g_iff hf c6
    refine lv_iload_n hx hb dX9_reading_41 rfl (lv_at hl 3 rfl) ?_
    refine lv_iconst (v := 3) hx hb dX9_reading_42 (by decide) ?_
    refine lv_icmp_ne (tgt := 52) hx hb dX9_reading_43 (by decide) (fun c17 => ?_) (fun c17 => ?_)
    · have hf := g_iff hf c17
      exact bX9_reading_L52 X E _ _ _ _ _ _ _ _ hf hP hS (lv_sub hl [0, 1, 2, 3] rfl)
    · have hf := g_ift hf c17
      exact bX9_reading_L46 X E _ _ _ _ _ _ _ _ hf hP hS (lv_sub hl [0, 1, 2, 3] rfl)
def fX9_reading_L30 (S : GS) (v1 : Int32) (v2 : Int32) (v3 : Int32) : Option (Int32 × GS) :=
  (fX9_body S (51 : Int32)).bind fun u4 =>
  fX9_reading_L36 u4 v1 v2 v3
set_option maxHeartbeats 4000000 in
set_option maxRecDepth 100000 in
theorem bX9_reading_L30 {p : Program} {l : Launch} {e : Env} {s : State} {m : MethodId} {args : Array Value} {below : List Frame} {meth : Method} {c : Code} {G : GP} (X : GX p s m meth c args cX9_reading 5 (some .int) wsX9_reading RX9) (E : gE WM G s) (S : GS) (v1 : Int32) (v2 : Int32) (v3 : Int32) (R : (Int32 × GS)) (H : Heap) (locs : List Loc) (ls : Array Slot) (hf : fX9_reading_L30 S v1 v2 v3 = some R) (hP : va_P (gD G) vwCl (WM G S ++ gF G) H) (hS : va_S (gA G) s.heap H locs) (hl : lv_has ls 5 [(0, .ref (ga G 63)), (1, .int v1), (2, .int v2), (3, .int v3)]) : W p l e (gR 1 21) s m args below meth c H locs 0 0 (MQ below (gQi WM G R.1 R.2) args s 0 0 (gA G)) (F0 m 30 ls []) := by
  obtain ⟨hx, hb, -, -, hown, hts, -⟩ := id X
  rw [fX9_reading_L30] at hf
  refine lv_aload_n hx hb dX9_reading_30 rfl (lv_at hl 0 rfl) ?_
  refine lv_bipush (v := 51) hx hb dX9_reading_31 (by decide) ?_
  obtain ⟨u4, h5, hf⟩ := g_bind hf
  refine g_vv (rest := []) X E hP hS (tcX9_body l G _ _ h5) (g_cwV X gX9_reading_X9_body rfl hdX9_body ⟨Nat.le_of_ble_eq_true rfl, Nat.le_of_ble_eq_true rfl⟩) (rcM_model E hP) rfl hl.1 rfl (Nat.le_of_ble_eq_true rfl) dX9_reading_33 ⟨Nat.le_refl _, Nat.le_refl _⟩ (fun H locs hP hS => ?_)
  exact bX9_reading_L36 X E _ _ _ _ _ _ _ _ hf hP hS (lv_sub hl [0, 1, 2, 3] rfl)
def fX9_reading_L19 (S : GS) (v1 : Int32) (v2 : Int32) (v3 : Int32) : Option (Int32 × GS) :=
  if v3 = (4 : Int32) then
    fX9_reading_L30 S v1 v2 v3
  else
    if v3 = (6 : Int32) then
      fX9_reading_L30 S v1 v2 v3
    else
      fX9_reading_L36 S v1 v2 v3
set_option maxHeartbeats 4000000 in
set_option maxRecDepth 100000 in
theorem bX9_reading_L19 {p : Program} {l : Launch} {e : Env} {s : State} {m : MethodId} {args : Array Value} {below : List Frame} {meth : Method} {c : Code} {G : GP} (X : GX p s m meth c args cX9_reading 5 (some .int) wsX9_reading RX9) (E : gE WM G s) (S : GS) (v1 : Int32) (v2 : Int32) (v3 : Int32) (R : (Int32 × GS)) (H : Heap) (locs : List Loc) (ls : Array Slot) (hf : fX9_reading_L19 S v1 v2 v3 = some R) (hP : va_P (gD G) vwCl (WM G S ++ gF G) H) (hS : va_S (gA G) s.heap H locs) (hl : lv_has ls 5 [(0, .ref (ga G 63)), (1, .int v1), (2, .int v2), (3, .int v3)]) : W p l e (gR 1 21) s m args below meth c H locs 0 0 (MQ below (gQi WM G R.1 R.2) args s 0 0 (gA G)) (F0 m 19 ls []) := by
  obtain ⟨hx, hb, -, -, hown, hts, -⟩ := id X
  rw [fX9_reading_L19] at hf
  refine lv_iload_n hx hb dX9_reading_19 rfl (lv_at hl 3 rfl) ?_
  refine lv_iconst (v := 4) hx hb dX9_reading_20 (by decide) ?_
  refine lv_icmp_eq (tgt := 30) hx hb dX9_reading_21 (by decide) (fun c3 => ?_) (fun c3 => ?_)
  · have hf := g_ift hf c3
    exact bX9_reading_L30 X E _ _ _ _ _ _ _ _ hf hP hS (lv_sub hl [0, 1, 2, 3] rfl)
  · have hf := g_iff hf c3
    refine lv_iload_n hx hb dX9_reading_24 rfl (lv_at hl 3 rfl) ?_
    refine lv_bipush (v := 6) hx hb dX9_reading_25 (by decide) ?_
    refine lv_icmp_ne (tgt := 36) hx hb dX9_reading_27 (by decide) (fun c18 => ?_) (fun c18 => ?_)
    · have hf := g_iff hf c18
      exact bX9_reading_L36 X E _ _ _ _ _ _ _ _ hf hP hS (lv_sub hl [0, 1, 2, 3] rfl)
    · have hf := g_ift hf c18
      exact bX9_reading_L30 X E _ _ _ _ _ _ _ _ hf hP hS (lv_sub hl [0, 1, 2, 3] rfl)
def fX9_reading (S : GS) (a1 : Int32) (a2 : Int32) : Option (Int32 × GS) :=
  if a1 < 0 ∨ 16 ≤ (a1).toNatClampNeg then none else
  if (S.2.2.1 7 (a1).toNatClampNeg) = (6 : Int32) then
    (fX9_body S (70 : Int32)).bind fun u19 =>
    fX9_reading_L19 u19 a1 a2 (S.2.2.1 7 (a1).toNatClampNeg)
  else
    fX9_reading_L19 S a1 a2 (S.2.2.1 7 (a1).toNatClampNeg)
set_option maxHeartbeats 4000000 in
set_option maxRecDepth 100000 in
theorem tcX9_reading (l : Launch) (G : GP) (S : GS) (a1 : Int32) (a2 : Int32) {R : (Int32 × GS)} (hf : fX9_reading S a1 a2 = some R) : CI l yX9_reading wsX9_reading 1 21 [.ref (ga G 63), .int a1, .int a2] WM G S R.1 R.2 := by
  refine g_met RX9 (cc := cX9_reading) (nL := 5) (ret := (some .int)) (by decide) rfl rfl (Nat.le_of_ble_eq_true rfl) ?_
  intro p e s m below meth c ls X E hP hS hl
  have hl : lv_has ls 5 [(0, .ref (ga G 63)), (1, .int a1), (2, .int a2)] := hl
  obtain ⟨hx, hb, -, -, hown, hts, -⟩ := id X
  rw [fX9_reading] at hf
  refine lv_aload_n hx hb dX9_reading_0 rfl (lv_at hl 0 rfl) ?_
  refine ggM_7 X E hP inX9_reading_X9 lkX9_reading_0 dX9_reading_1 ?_
  refine lv_iload_n hx hb dX9_reading_4 rfl (lv_at hl 1 rfl) ?_
  obtain ⟨b1, hf⟩ := g_if hf
  refine giM_7 X E hP b1 dX9_reading_5 ?_
  refine lv_istore_n (lv' := [(3, .int (S.2.2.1 7 (a1).toNatClampNeg)), (0, .ref (ga G 63)), (1, .int a1), (2, .int a2)]) hx hb dX9_reading_6 rfl hl (by decide) rfl (fun ls hl => ?_)
  refine lv_iload_n hx hb dX9_reading_7 rfl (lv_at hl 0 rfl) ?_
  refine lv_bipush (v := 6) hx hb dX9_reading_8 (by decide) ?_
  refine lv_icmp_ne (tgt := 19) hx hb dX9_reading_10 (by decide) (fun c2 => ?_) (fun c2 => ?_)
  · have hf := g_iff hf c2
    exact bX9_reading_L19 X E _ _ _ _ _ _ _ _ hf hP hS (lv_sub hl [1, 2, 3, 0] rfl)
  · have hf := g_ift hf c2
    refine lv_aload_n hx hb dX9_reading_13 rfl (lv_at hl 1 rfl) ?_
    refine lv_bipush (v := 70) hx hb dX9_reading_14 (by decide) ?_
    obtain ⟨u19, h20, hf⟩ := g_bind hf
    refine g_vv (rest := []) X E hP hS (tcX9_body l G _ _ h20) (g_cwV X gX9_reading_X9_body rfl hdX9_body ⟨Nat.le_of_ble_eq_true rfl, Nat.le_of_ble_eq_true rfl⟩) (rcM_model E hP) rfl hl.1 rfl (Nat.le_of_ble_eq_true rfl) dX9_reading_16 ⟨Nat.le_refl _, Nat.le_refl _⟩ (fun H locs hP hS => ?_)
    exact bX9_reading_L19 X E _ _ _ _ _ _ _ _ hf hP hS (lv_sub hl [1, 2, 3, 0] rfl)
theorem lkX9_sinking_0 : Cond.fieldLink RX9 26 RX9 "kind" "[I" ∈ wsX9_sinking := by decide +kernel
theorem lkX9_sinking_1 : Cond.fieldLink RX9 29 RX9 "part" "[I" ∈ wsX9_sinking := by decide +kernel
theorem inX9_sinking_X9 : ∀ w ∈ wsX90, w ∈ wsX9_sinking := by decide +kernel
def fX9_sinking_L76 (S : GS) (v1 : Int32) (v4 : Int32) (v5 : Int32) : Option (Int32 × GS) :=
  (fX9_body S (11 : Int32)).bind fun u7 =>
  (fX9_reading u7 v1 v4).bind fun u9 =>
  if v5 = 0 then
    some ((u9.1 * (2 : Int32)), u9.2)
  else
    some (((u9.1 * (2 : Int32)) * (3 : Int32)), u9.2)
set_option maxHeartbeats 4000000 in
set_option maxRecDepth 100000 in
theorem bX9_sinking_L76 {p : Program} {l : Launch} {e : Env} {s : State} {m : MethodId} {args : Array Value} {below : List Frame} {meth : Method} {c : Code} {G : GP} (X : GX p s m meth c args cX9_sinking 7 (some .int) wsX9_sinking RX9) (E : gE WM G s) (S : GS) (v1 : Int32) (v4 : Int32) (v5 : Int32) (R : (Int32 × GS)) (H : Heap) (locs : List Loc) (ls : Array Slot) (hf : fX9_sinking_L76 S v1 v4 v5 = some R) (hP : va_P (gD G) vwCl (WM G S ++ gF G) H) (hS : va_S (gA G) s.heap H locs) (hl : lv_has ls 7 [(0, .ref (ga G 63)), (1, .int v1), (4, .int v4), (5, .int v5)]) : W p l e (gR 2 45) s m args below meth c H locs 0 0 (MQ below (gQi WM G R.1 R.2) args s 0 0 (gA G)) (F0 m 76 ls []) := by
  obtain ⟨hx, hb, -, -, hown, hts, -⟩ := id X
  rw [fX9_sinking_L76] at hf
  refine lv_aload_n hx hb dX9_sinking_76 rfl (lv_at hl 0 rfl) ?_
  refine lv_bipush (v := 11) hx hb dX9_sinking_77 (by decide) ?_
  obtain ⟨u7, h8, hf⟩ := g_bind hf
  refine g_vv (rest := []) X E hP hS (tcX9_body l G _ _ h8) (g_cwV X gX9_sinking_X9_body rfl hdX9_body ⟨Nat.le_of_ble_eq_true rfl, Nat.le_of_ble_eq_true rfl⟩) (rcM_model E hP) rfl hl.1 rfl (Nat.le_of_ble_eq_true rfl) dX9_sinking_79 ⟨Nat.le_refl _, Nat.le_refl _⟩ (fun H locs hP hS => ?_)
  refine lv_aload_n hx hb dX9_sinking_82 rfl (lv_at hl 0 rfl) ?_
  refine lv_iload_n hx hb dX9_sinking_83 rfl (lv_at hl 1 rfl) ?_
  refine lv_iload hx hb dX9_sinking_84 (lv_at hl 2 rfl) ?_
  obtain ⟨u9, h10, hf⟩ := g_bind hf
  refine g_vi (rest := []) X E hP hS (tcX9_reading l G _ _ _ h10) (g_cwV X gX9_sinking_X9_reading rfl hdX9_reading ⟨Nat.le_of_ble_eq_true rfl, Nat.le_of_ble_eq_true rfl⟩) (rcM_model E hP) rfl hl.1 rfl (Nat.le_of_ble_eq_true rfl) dX9_sinking_86 ⟨Nat.le_refl _, Nat.le_refl _⟩ (fun H locs hP hS => ?_)
  refine lv_iconst (v := 2) hx hb dX9_sinking_89 (by decide) ?_
  refine lv_imul hx hb dX9_sinking_90 ?_
  refine lv_istore (lv' := [(6, .int (u9.1 * (2 : Int32))), (0, .ref (ga G 63)), (1, .int v1), (4, .int v4), (5, .int v5)]) hx hb dX9_sinking_91 hl (by decide) rfl (fun ls hl => ?_)
  refine lv_iload hx hb dX9_sinking_93 (lv_at hl 4 rfl) ?_
  refine lv_if_eq (tgt := 105) hx hb dX9_sinking_95 (by decide) (fun c11 => ?_) (fun c11 => ?_)
  · have hf := g_ift hf c11
    refine lv_iload hx hb dX9_sinking_105 (lv_at hl 0 rfl) ?_
    obtain rfl := g_some hf
    exact g_ri X E hP hS dX9_sinking_107
  · have hf := g_iff hf c11
    refine lv_iload hx hb dX9_sinking_98 (lv_at hl 0 rfl) ?_
    refine lv_iconst (v := 3) hx hb dX9_sinking_100 (by decide) ?_
    refine lv_imul hx hb dX9_sinking_101 ?_
    refine lv_goto (tgt := 107) hx hb dX9_sinking_102 (by decide) ?_
    obtain rfl := g_some hf
    exact g_ri X E hP hS dX9_sinking_107
def fX9_sinking_L58 (S : GS) (v1 : Int32) (v4 : Int32) : Option (Int32 × GS) :=
  (fX9_body S (30 : Int32)).bind fun u5 =>
  fX9_sinking_L76 u5 v1 v4 (1 : Int32)
set_option maxHeartbeats 4000000 in
set_option maxRecDepth 100000 in
theorem bX9_sinking_L58 {p : Program} {l : Launch} {e : Env} {s : State} {m : MethodId} {args : Array Value} {below : List Frame} {meth : Method} {c : Code} {G : GP} (X : GX p s m meth c args cX9_sinking 7 (some .int) wsX9_sinking RX9) (E : gE WM G s) (S : GS) (v1 : Int32) (v4 : Int32) (R : (Int32 × GS)) (H : Heap) (locs : List Loc) (ls : Array Slot) (hf : fX9_sinking_L58 S v1 v4 = some R) (hP : va_P (gD G) vwCl (WM G S ++ gF G) H) (hS : va_S (gA G) s.heap H locs) (hl : lv_has ls 7 [(0, .ref (ga G 63)), (1, .int v1), (4, .int v4)]) : W p l e (gR 2 45) s m args below meth c H locs 0 0 (MQ below (gQi WM G R.1 R.2) args s 0 0 (gA G)) (F0 m 58 ls []) := by
  obtain ⟨hx, hb, -, -, hown, hts, -⟩ := id X
  rw [fX9_sinking_L58] at hf
  refine lv_iconst (v := 1) hx hb dX9_sinking_58 (by decide) ?_
  refine lv_goto (tgt := 63) hx hb dX9_sinking_59 (by decide) ?_
  refine lv_istore (lv' := [(5, .int (1 : Int32)), (0, .ref (ga G 63)), (1, .int v1), (4, .int v4)]) hx hb dX9_sinking_63 hl (by decide) rfl (fun ls hl => ?_)
  refine lv_iload hx hb dX9_sinking_65 (lv_at hl 0 rfl) ?_
  refine lv_if_eq (tgt := 76) hx hb dX9_sinking_67 (by decide) (fun z => absurd z (by decide)) (fun _ => ?_)
  refine lv_aload_n hx hb dX9_sinking_70 rfl (lv_at hl 1 rfl) ?_
  refine lv_bipush (v := 30) hx hb dX9_sinking_71 (by decide) ?_
  obtain ⟨u5, h6, hf⟩ := g_bind hf
  refine g_vv (rest := []) X E hP hS (tcX9_body l G _ _ h6) (g_cwV X gX9_sinking_X9_body rfl hdX9_body ⟨Nat.le_of_ble_eq_true rfl, Nat.le_of_ble_eq_true rfl⟩) (rcM_model E hP) rfl hl.1 rfl (Nat.le_of_ble_eq_true rfl) dX9_sinking_73 ⟨Nat.le_refl _, Nat.le_refl _⟩ (fun H locs hP hS => ?_)
  exact bX9_sinking_L76 X E _ _ _ _ _ _ _ _ hf hP hS (lv_sub hl [1, 2, 3, 0] rfl)
def fX9_sinking_L48 (S : GS) (v1 : Int32) (v3 : Int32) (v4 : Int32) : Option (Int32 × GS) :=
  if v3 = (2 : Int32) then
    fX9_sinking_L58 S v1 v4
  else
    if v3 = (5 : Int32) then
      fX9_sinking_L58 S v1 v4
    else
      fX9_sinking_L76 S v1 v4 (0 : Int32)
set_option maxHeartbeats 4000000 in
set_option maxRecDepth 100000 in
theorem bX9_sinking_L48 {p : Program} {l : Launch} {e : Env} {s : State} {m : MethodId} {args : Array Value} {below : List Frame} {meth : Method} {c : Code} {G : GP} (X : GX p s m meth c args cX9_sinking 7 (some .int) wsX9_sinking RX9) (E : gE WM G s) (S : GS) (v1 : Int32) (v3 : Int32) (v4 : Int32) (R : (Int32 × GS)) (H : Heap) (locs : List Loc) (ls : Array Slot) (hf : fX9_sinking_L48 S v1 v3 v4 = some R) (hP : va_P (gD G) vwCl (WM G S ++ gF G) H) (hS : va_S (gA G) s.heap H locs) (hl : lv_has ls 7 [(0, .ref (ga G 63)), (1, .int v1), (3, .int v3), (4, .int v4)]) : W p l e (gR 2 45) s m args below meth c H locs 0 0 (MQ below (gQi WM G R.1 R.2) args s 0 0 (gA G)) (F0 m 48 ls []) := by
  obtain ⟨hx, hb, -, -, hown, hts, -⟩ := id X
  rw [fX9_sinking_L48] at hf
  refine lv_iload_n hx hb dX9_sinking_48 rfl (lv_at hl 2 rfl) ?_
  refine lv_iconst (v := 2) hx hb dX9_sinking_49 (by decide) ?_
  refine lv_icmp_eq (tgt := 58) hx hb dX9_sinking_50 (by decide) (fun c4 => ?_) (fun c4 => ?_)
  · have hf := g_ift hf c4
    exact bX9_sinking_L58 X E _ _ _ _ _ _ _ hf hP hS (lv_sub hl [0, 1, 3] rfl)
  · have hf := g_iff hf c4
    refine lv_iload_n hx hb dX9_sinking_53 rfl (lv_at hl 2 rfl) ?_
    refine lv_iconst (v := 5) hx hb dX9_sinking_54 (by decide) ?_
    refine lv_icmp_ne (tgt := 62) hx hb dX9_sinking_55 (by decide) (fun c12 => ?_) (fun c12 => ?_)
    · have hf := g_iff hf c12
      refine lv_iconst (v := 0) hx hb dX9_sinking_62 (by decide) ?_
      refine lv_istore (lv' := [(5, .int (0 : Int32)), (0, .ref (ga G 63)), (1, .int v1), (3, .int v3), (4, .int v4)]) hx hb dX9_sinking_63 hl (by decide) rfl (fun ls hl => ?_)
      refine lv_iload hx hb dX9_sinking_65 (lv_at hl 0 rfl) ?_
      refine lv_if_eq (tgt := 76) hx hb dX9_sinking_67 (by decide) (fun _ => ?_) (fun z => absurd z (by decide))
      exact bX9_sinking_L76 X E _ _ _ _ _ _ _ _ hf hP hS (lv_sub hl [1, 2, 4, 0] rfl)
    · have hf := g_ift hf c12
      exact bX9_sinking_L58 X E _ _ _ _ _ _ _ hf hP hS (lv_sub hl [0, 1, 3] rfl)
def fX9_sinking_L32 (S : GS) (v1 : Int32) (v2 : Int32) (v3 : Int32) (v4 : Int32) : Option (Int32 × GS) :=
  if v3 = (3 : Int32) then
    (fX9_body S (40 : Int32)).bind fun u13 =>
    fX9_sinking_L48 u13 v1 v3 (v2 + (1 : Int32))
  else
    fX9_sinking_L48 S v1 v3 v4
set_option maxHeartbeats 4000000 in
set_option maxRecDepth 100000 in
theorem bX9_sinking_L32 {p : Program} {l : Launch} {e : Env} {s : State} {m : MethodId} {args : Array Value} {below : List Frame} {meth : Method} {c : Code} {G : GP} (X : GX p s m meth c args cX9_sinking 7 (some .int) wsX9_sinking RX9) (E : gE WM G s) (S : GS) (v1 : Int32) (v2 : Int32) (v3 : Int32) (v4 : Int32) (R : (Int32 × GS)) (H : Heap) (locs : List Loc) (ls : Array Slot) (hf : fX9_sinking_L32 S v1 v2 v3 v4 = some R) (hP : va_P (gD G) vwCl (WM G S ++ gF G) H) (hS : va_S (gA G) s.heap H locs) (hl : lv_has ls 7 [(0, .ref (ga G 63)), (1, .int v1), (2, .int v2), (3, .int v3), (4, .int v4)]) : W p l e (gR 2 45) s m args below meth c H locs 0 0 (MQ below (gQi WM G R.1 R.2) args s 0 0 (gA G)) (F0 m 32 ls []) := by
  obtain ⟨hx, hb, -, -, hown, hts, -⟩ := id X
  rw [fX9_sinking_L32] at hf
  refine lv_iload_n hx hb dX9_sinking_32 rfl (lv_at hl 3 rfl) ?_
  refine lv_iconst (v := 3) hx hb dX9_sinking_33 (by decide) ?_
  refine lv_icmp_ne (tgt := 48) hx hb dX9_sinking_34 (by decide) (fun c3 => ?_) (fun c3 => ?_)
  · have hf := g_iff hf c3
    exact bX9_sinking_L48 X E _ _ _ _ _ _ _ _ hf hP hS (lv_sub hl [0, 1, 3, 4] rfl)
  · have hf := g_ift hf c3
    refine lv_aload_n hx hb dX9_sinking_37 rfl (lv_at hl 0 rfl) ?_
    refine lv_bipush (v := 40) hx hb dX9_sinking_38 (by decide) ?_
    obtain ⟨u13, h14, hf⟩ := g_bind hf
    refine g_vv (rest := []) X E hP hS (tcX9_body l G _ _ h14) (g_cwV X gX9_sinking_X9_body rfl hdX9_body ⟨Nat.le_of_ble_eq_true rfl, Nat.le_of_ble_eq_true rfl⟩) (rcM_model E hP) rfl hl.1 rfl (Nat.le_of_ble_eq_true rfl) dX9_sinking_40 ⟨Nat.le_refl _, Nat.le_refl _⟩ (fun H locs hP hS => ?_)
    refine lv_iload_n hx hb dX9_sinking_43 rfl (lv_at hl 2 rfl) ?_
    refine lv_iconst (v := 1) hx hb dX9_sinking_44 (by decide) ?_
    refine lv_iadd hx hb dX9_sinking_45 ?_
    refine lv_istore (lv' := [(4, .int (v2 + (1 : Int32))), (0, .ref (ga G 63)), (1, .int v1), (2, .int v2), (3, .int v3)]) hx hb dX9_sinking_46 hl (by decide) rfl (fun ls hl => ?_)
    exact bX9_sinking_L48 X E _ _ _ _ _ _ _ _ hf hP hS (lv_sub hl [1, 2, 4, 0] rfl)
def fX9_sinking (S : GS) (a1 : Int32) (a2 : Int32) : Option (Int32 × GS) :=
  if a1 < 0 ∨ 16 ≤ (a1).toNatClampNeg then none else
  if (S.2.2.1 7 (a1).toNatClampNeg) = (6 : Int32) then
    (fX9_body S (71 : Int32)).bind fun u15 =>
    if a1 < 0 ∨ 16 ≤ (a1).toNatClampNeg then none else
    fX9_sinking_L32 u15 a1 a2 (S.2.2.1 7 (a1).toNatClampNeg) (a2 - (u15.2.2.1 8 (a1).toNatClampNeg))
  else
    fX9_sinking_L32 S a1 a2 (S.2.2.1 7 (a1).toNatClampNeg) a2
set_option maxHeartbeats 4000000 in
set_option maxRecDepth 100000 in
theorem tcX9_sinking (l : Launch) (G : GP) (S : GS) (a1 : Int32) (a2 : Int32) {R : (Int32 × GS)} (hf : fX9_sinking S a1 a2 = some R) : CI l yX9_sinking wsX9_sinking 2 45 [.ref (ga G 63), .int a1, .int a2] WM G S R.1 R.2 := by
  refine g_met RX9 (cc := cX9_sinking) (nL := 7) (ret := (some .int)) (by decide) rfl rfl (Nat.le_of_ble_eq_true rfl) ?_
  intro p e s m below meth c ls X E hP hS hl
  have hl : lv_has ls 7 [(0, .ref (ga G 63)), (1, .int a1), (2, .int a2)] := hl
  obtain ⟨hx, hb, -, -, hown, hts, -⟩ := id X
  rw [fX9_sinking] at hf
  refine lv_aload_n hx hb dX9_sinking_0 rfl (lv_at hl 0 rfl) ?_
  refine ggM_7 X E hP inX9_sinking_X9 lkX9_sinking_0 dX9_sinking_1 ?_
  refine lv_iload_n hx hb dX9_sinking_4 rfl (lv_at hl 1 rfl) ?_
  obtain ⟨b1, hf⟩ := g_if hf
  refine giM_7 X E hP b1 dX9_sinking_5 ?_
  refine lv_istore_n (lv' := [(3, .int (S.2.2.1 7 (a1).toNatClampNeg)), (0, .ref (ga G 63)), (1, .int a1), (2, .int a2)]) hx hb dX9_sinking_6 rfl hl (by decide) rfl (fun ls hl => ?_)
  refine lv_iload_n hx hb dX9_sinking_7 rfl (lv_at hl 3 rfl) ?_
  refine lv_istore (lv' := [(4, .int a2), (3, .int (S.2.2.1 7 (a1).toNatClampNeg)), (0, .ref (ga G 63)), (1, .int a1), (2, .int a2)]) hx hb dX9_sinking_8 hl (by decide) rfl (fun ls hl => ?_)
  refine lv_iload_n hx hb dX9_sinking_10 rfl (lv_at hl 1 rfl) ?_
  refine lv_bipush (v := 6) hx hb dX9_sinking_11 (by decide) ?_
  refine lv_icmp_ne (tgt := 32) hx hb dX9_sinking_13 (by decide) (fun c2 => ?_) (fun c2 => ?_)
  · have hf := g_iff hf c2
    exact bX9_sinking_L32 X E _ _ _ _ _ _ _ _ _ hf hP hS (lv_sub hl [2, 3, 4, 1, 0] rfl)
  · have hf := g_ift hf c2
    refine lv_aload_n hx hb dX9_sinking_16 rfl (lv_at hl 2 rfl) ?_
    refine lv_bipush (v := 71) hx hb dX9_sinking_17 (by decide) ?_
    obtain ⟨u15, h16, hf⟩ := g_bind hf
    refine g_vv (rest := []) X E hP hS (tcX9_body l G _ _ h16) (g_cwV X gX9_sinking_X9_body rfl hdX9_body ⟨Nat.le_of_ble_eq_true rfl, Nat.le_of_ble_eq_true rfl⟩) (rcM_model E hP) rfl hl.1 rfl (Nat.le_of_ble_eq_true rfl) dX9_sinking_19 ⟨Nat.le_refl _, Nat.le_refl _⟩ (fun H locs hP hS => ?_)
    refine lv_iload_n hx hb dX9_sinking_22 rfl (lv_at hl 4 rfl) ?_
    refine lv_aload_n hx hb dX9_sinking_23 rfl (lv_at hl 2 rfl) ?_
    refine ggM_8 X E hP inX9_sinking_X9 lkX9_sinking_1 dX9_sinking_24 ?_
    refine lv_iload_n hx hb dX9_sinking_27 rfl (lv_at hl 3 rfl) ?_
    obtain ⟨b17, hf⟩ := g_if hf
    refine giM_8 X E hP b17 dX9_sinking_28 ?_
    refine lv_isub hx hb dX9_sinking_29 ?_
    refine lv_istore (lv' := [(4, .int (a2 - (u15.2.2.1 8 (a1).toNatClampNeg))), (3, .int (S.2.2.1 7 (a1).toNatClampNeg)), (0, .ref (ga G 63)), (1, .int a1), (2, .int a2)]) hx hb dX9_sinking_30 hl (by decide) rfl (fun ls hl => ?_)
    exact bX9_sinking_L32 X E _ _ _ _ _ _ _ _ _ hf hP hS (lv_sub hl [2, 3, 4, 1, 0] rfl)
theorem lkX9_closing_0 : Cond.fieldLink RX9 26 RX9 "kind" "[I" ∈ wsX9_closing := by decide +kernel
theorem lkX9_closing_1 : Cond.fieldLink RX9 29 RX9 "part" "[I" ∈ wsX9_closing := by decide +kernel
theorem inX9_closing_X9 : ∀ w ∈ wsX90, w ∈ wsX9_closing := by decide +kernel
def fX9_closing_L35 (S : GS) (v1 : Int32) (v2 : Int32) (v3 : Int32) : Option (Int32 × GS) :=
  (fX9_body S (12 : Int32)).bind fun u6 =>
  (fX9_sinking u6 v1 v2).bind fun u8 =>
  if v1 < 0 ∨ 16 ≤ (v1).toNatClampNeg then none else
  (fX9_reading u8.2 v1 (v2 - (u8.2.2.2.1 8 (v1).toNatClampNeg))).bind fun u11 =>
  if v3 = (4 : Int32) then
    some ((-(u8.1 ^^^ u11.1)), u11.2)
  else
    if v3 = (6 : Int32) then
      some ((-(u8.1 ^^^ u11.1)), u11.2)
    else
      if v3 = (5 : Int32) then
        some (((u8.1 ^^^ u11.1) ^^^ (5 : Int32)), u11.2)
      else
        some ((u8.1 ^^^ u11.1), u11.2)
set_option maxHeartbeats 4000000 in
set_option maxRecDepth 100000 in
theorem bX9_closing_L35 {p : Program} {l : Launch} {e : Env} {s : State} {m : MethodId} {args : Array Value} {below : List Frame} {meth : Method} {c : Code} {G : GP} (X : GX p s m meth c args cX9_closing 5 (some .int) wsX9_closing RX9) (E : gE WM G s) (S : GS) (v1 : Int32) (v2 : Int32) (v3 : Int32) (R : (Int32 × GS)) (H : Heap) (locs : List Loc) (ls : Array Slot) (hf : fX9_closing_L35 S v1 v2 v3 = some R) (hP : va_P (gD G) vwCl (WM G S ++ gF G) H) (hS : va_S (gA G) s.heap H locs) (hl : lv_has ls 5 [(0, .ref (ga G 63)), (1, .int v1), (2, .int v2), (3, .int v3)]) : W p l e (gR 3 71) s m args below meth c H locs 0 0 (MQ below (gQi WM G R.1 R.2) args s 0 0 (gA G)) (F0 m 35 ls []) := by
  obtain ⟨hx, hb, -, -, hown, hts, -⟩ := id X
  rw [fX9_closing_L35] at hf
  refine lv_aload_n hx hb dX9_closing_35 rfl (lv_at hl 0 rfl) ?_
  refine lv_bipush (v := 12) hx hb dX9_closing_36 (by decide) ?_
  obtain ⟨u6, h7, hf⟩ := g_bind hf
  refine g_vv (rest := []) X E hP hS (tcX9_body l G _ _ h7) (g_cwV X gX9_closing_X9_body rfl hdX9_body ⟨Nat.le_of_ble_eq_true rfl, Nat.le_of_ble_eq_true rfl⟩) (rcM_model E hP) rfl hl.1 rfl (Nat.le_of_ble_eq_true rfl) dX9_closing_38 ⟨Nat.le_refl _, Nat.le_refl _⟩ (fun H locs hP hS => ?_)
  refine lv_aload_n hx hb dX9_closing_41 rfl (lv_at hl 0 rfl) ?_
  refine lv_iload_n hx hb dX9_closing_42 rfl (lv_at hl 1 rfl) ?_
  refine lv_iload_n hx hb dX9_closing_43 rfl (lv_at hl 2 rfl) ?_
  obtain ⟨u8, h9, hf⟩ := g_bind hf
  refine g_vi (rest := []) X E hP hS (tcX9_sinking l G _ _ _ h9) (g_cwV X gX9_closing_X9_sinking rfl hdX9_sinking ⟨Nat.le_of_ble_eq_true rfl, Nat.le_of_ble_eq_true rfl⟩) (rcM_model E hP) rfl hl.1 rfl (Nat.le_of_ble_eq_true rfl) dX9_closing_44 ⟨Nat.le_refl _, Nat.le_refl _⟩ (fun H locs hP hS => ?_)
  refine lv_istore (lv' := [(4, .int u8.1), (0, .ref (ga G 63)), (1, .int v1), (2, .int v2), (3, .int v3)]) hx hb dX9_closing_47 hl (by decide) rfl (fun ls hl => ?_)
  refine lv_iload hx hb dX9_closing_49 (lv_at hl 0 rfl) ?_
  refine lv_aload_n hx hb dX9_closing_51 rfl (lv_at hl 1 rfl) ?_
  refine lv_iload_n hx hb dX9_closing_52 rfl (lv_at hl 2 rfl) ?_
  refine lv_iload_n hx hb dX9_closing_53 rfl (lv_at hl 3 rfl) ?_
  refine lv_aload_n hx hb dX9_closing_54 rfl (lv_at hl 1 rfl) ?_
  refine ggM_8 X E hP inX9_closing_X9 lkX9_closing_1 dX9_closing_55 ?_
  refine lv_iload_n hx hb dX9_closing_58 rfl (lv_at hl 2 rfl) ?_
  obtain ⟨b10, hf⟩ := g_if hf
  refine giM_8 X E hP b10 dX9_closing_59 ?_
  refine lv_isub hx hb dX9_closing_60 ?_
  obtain ⟨u11, h12, hf⟩ := g_bind hf
  refine g_vi (rest := [.int u8.1]) X E hP hS (tcX9_reading l G _ _ _ h12) (g_cwV X gX9_closing_X9_reading rfl hdX9_reading ⟨Nat.le_of_ble_eq_true rfl, Nat.le_of_ble_eq_true rfl⟩) (rcM_model E hP) rfl hl.1 rfl (Nat.le_of_ble_eq_true rfl) dX9_closing_61 ⟨Nat.le_refl _, Nat.le_refl _⟩ (fun H locs hP hS => ?_)
  refine lv_ixor hx hb dX9_closing_64 ?_
  refine lv_istore (lv' := [(4, .int (u8.1 ^^^ u11.1)), (0, .ref (ga G 63)), (1, .int v1), (2, .int v2), (3, .int v3)]) hx hb dX9_closing_65 hl (by decide) rfl (fun ls hl => ?_)
  refine lv_iload_n hx hb dX9_closing_67 rfl (lv_at hl 4 rfl) ?_
  refine lv_iconst (v := 4) hx hb dX9_closing_68 (by decide) ?_
  refine lv_icmp_eq (tgt := 78) hx hb dX9_closing_69 (by decide) (fun c13 => ?_) (fun c13 => ?_)
  · have hf := g_ift hf c13
    refine lv_iload hx hb dX9_closing_78 (lv_at hl 0 rfl) ?_
    refine lv_ineg hx hb dX9_closing_80 ?_
    refine lv_goto (tgt := 98) hx hb dX9_closing_81 (by decide) ?_
    obtain rfl := g_some hf
    exact g_ri X E hP hS dX9_closing_98
  · have hf := g_iff hf c13
    refine lv_iload_n hx hb dX9_closing_72 rfl (lv_at hl 4 rfl) ?_
    refine lv_bipush (v := 6) hx hb dX9_closing_73 (by decide) ?_
    refine lv_icmp_ne (tgt := 84) hx hb dX9_closing_75 (by decide) (fun c14 => ?_) (fun c14 => ?_)
    · have hf := g_iff hf c14
      refine lv_iload_n hx hb dX9_closing_84 rfl (lv_at hl 4 rfl) ?_
      refine lv_iconst (v := 5) hx hb dX9_closing_85 (by decide) ?_
      refine lv_icmp_ne (tgt := 96) hx hb dX9_closing_86 (by decide) (fun c15 => ?_) (fun c15 => ?_)
      · have hf := g_iff hf c15
        refine lv_iload hx hb dX9_closing_96 (lv_at hl 0 rfl) ?_
        obtain rfl := g_some hf
        exact g_ri X E hP hS dX9_closing_98
      · have hf := g_ift hf c15
        refine lv_iload hx hb dX9_closing_89 (lv_at hl 0 rfl) ?_
        refine lv_iconst (v := 5) hx hb dX9_closing_91 (by decide) ?_
        refine lv_ixor hx hb dX9_closing_92 ?_
        refine lv_goto (tgt := 98) hx hb dX9_closing_93 (by decide) ?_
        obtain rfl := g_some hf
        exact g_ri X E hP hS dX9_closing_98
    · have hf := g_ift hf c14
      refine lv_iload hx hb dX9_closing_78 (lv_at hl 0 rfl) ?_
      refine lv_ineg hx hb dX9_closing_80 ?_
      refine lv_goto (tgt := 98) hx hb dX9_closing_81 (by decide) ?_
      obtain rfl := g_some hf
      exact g_ri X E hP hS dX9_closing_98
def fX9_closing_L24 (S : GS) (v1 : Int32) (v2 : Int32) (v3 : Int32) : Option (Int32 × GS) :=
  if v3 = (5 : Int32) then
    (fX9_body S (60 : Int32)).bind fun u16 =>
    fX9_closing_L35 u16 v1 v2 v3
  else
    fX9_closing_L35 S v1 v2 v3
set_option maxHeartbeats 4000000 in
set_option maxRecDepth 100000 in
theorem bX9_closing_L24 {p : Program} {l : Launch} {e : Env} {s : State} {m : MethodId} {args : Array Value} {below : List Frame} {meth : Method} {c : Code} {G : GP} (X : GX p s m meth c args cX9_closing 5 (some .int) wsX9_closing RX9) (E : gE WM G s) (S : GS) (v1 : Int32) (v2 : Int32) (v3 : Int32) (R : (Int32 × GS)) (H : Heap) (locs : List Loc) (ls : Array Slot) (hf : fX9_closing_L24 S v1 v2 v3 = some R) (hP : va_P (gD G) vwCl (WM G S ++ gF G) H) (hS : va_S (gA G) s.heap H locs) (hl : lv_has ls 5 [(0, .ref (ga G 63)), (1, .int v1), (2, .int v2), (3, .int v3)]) : W p l e (gR 3 71) s m args below meth c H locs 0 0 (MQ below (gQi WM G R.1 R.2) args s 0 0 (gA G)) (F0 m 24 ls []) := by
  obtain ⟨hx, hb, -, -, hown, hts, -⟩ := id X
  rw [fX9_closing_L24] at hf
  refine lv_iload_n hx hb dX9_closing_24 rfl (lv_at hl 3 rfl) ?_
  refine lv_iconst (v := 5) hx hb dX9_closing_25 (by decide) ?_
  refine lv_icmp_ne (tgt := 35) hx hb dX9_closing_26 (by decide) (fun c5 => ?_) (fun c5 => ?_)
  · have hf := g_iff hf c5
    exact bX9_closing_L35 X E _ _ _ _ _ _ _ _ hf hP hS (lv_sub hl [0, 1, 2, 3] rfl)
  · have hf := g_ift hf c5
    refine lv_aload_n hx hb dX9_closing_29 rfl (lv_at hl 0 rfl) ?_
    refine lv_bipush (v := 60) hx hb dX9_closing_30 (by decide) ?_
    obtain ⟨u16, h17, hf⟩ := g_bind hf
    refine g_vv (rest := []) X E hP hS (tcX9_body l G _ _ h17) (g_cwV X gX9_closing_X9_body rfl hdX9_body ⟨Nat.le_of_ble_eq_true rfl, Nat.le_of_ble_eq_true rfl⟩) (rcM_model E hP) rfl hl.1 rfl (Nat.le_of_ble_eq_true rfl) dX9_closing_32 ⟨Nat.le_refl _, Nat.le_refl _⟩ (fun H locs hP hS => ?_)
    exact bX9_closing_L35 X E _ _ _ _ _ _ _ _ hf hP hS (lv_sub hl [0, 1, 2, 3] rfl)
def fX9_closing_L18 (S : GS) (v1 : Int32) (v2 : Int32) (v3 : Int32) : Option (Int32 × GS) :=
  (fX9_body S (50 : Int32)).bind fun u3 =>
  fX9_closing_L24 u3 v1 v2 v3
set_option maxHeartbeats 4000000 in
set_option maxRecDepth 100000 in
theorem bX9_closing_L18 {p : Program} {l : Launch} {e : Env} {s : State} {m : MethodId} {args : Array Value} {below : List Frame} {meth : Method} {c : Code} {G : GP} (X : GX p s m meth c args cX9_closing 5 (some .int) wsX9_closing RX9) (E : gE WM G s) (S : GS) (v1 : Int32) (v2 : Int32) (v3 : Int32) (R : (Int32 × GS)) (H : Heap) (locs : List Loc) (ls : Array Slot) (hf : fX9_closing_L18 S v1 v2 v3 = some R) (hP : va_P (gD G) vwCl (WM G S ++ gF G) H) (hS : va_S (gA G) s.heap H locs) (hl : lv_has ls 5 [(0, .ref (ga G 63)), (1, .int v1), (2, .int v2), (3, .int v3)]) : W p l e (gR 3 71) s m args below meth c H locs 0 0 (MQ below (gQi WM G R.1 R.2) args s 0 0 (gA G)) (F0 m 18 ls []) := by
  obtain ⟨hx, hb, -, -, hown, hts, -⟩ := id X
  rw [fX9_closing_L18] at hf
  refine lv_aload_n hx hb dX9_closing_18 rfl (lv_at hl 0 rfl) ?_
  refine lv_bipush (v := 50) hx hb dX9_closing_19 (by decide) ?_
  obtain ⟨u3, h4, hf⟩ := g_bind hf
  refine g_vv (rest := []) X E hP hS (tcX9_body l G _ _ h4) (g_cwV X gX9_closing_X9_body rfl hdX9_body ⟨Nat.le_of_ble_eq_true rfl, Nat.le_of_ble_eq_true rfl⟩) (rcM_model E hP) rfl hl.1 rfl (Nat.le_of_ble_eq_true rfl) dX9_closing_21 ⟨Nat.le_refl _, Nat.le_refl _⟩ (fun H locs hP hS => ?_)
  exact bX9_closing_L24 X E _ _ _ _ _ _ _ _ hf hP hS (lv_sub hl [0, 1, 2, 3] rfl)
def fX9_closing (S : GS) (a1 : Int32) (a2 : Int32) : Option (Int32 × GS) :=
  if a1 < 0 ∨ 16 ≤ (a1).toNatClampNeg then none else
  if (S.2.2.1 7 (a1).toNatClampNeg) = (4 : Int32) then
    fX9_closing_L18 S a1 a2 (S.2.2.1 7 (a1).toNatClampNeg)
  else
    if (S.2.2.1 7 (a1).toNatClampNeg) = (6 : Int32) then
      fX9_closing_L18 S a1 a2 (S.2.2.1 7 (a1).toNatClampNeg)
    else
      fX9_closing_L24 S a1 a2 (S.2.2.1 7 (a1).toNatClampNeg)
set_option maxHeartbeats 4000000 in
set_option maxRecDepth 100000 in
theorem tcX9_closing (l : Launch) (G : GP) (S : GS) (a1 : Int32) (a2 : Int32) {R : (Int32 × GS)} (hf : fX9_closing S a1 a2 = some R) : CI l yX9_closing wsX9_closing 3 71 [.ref (ga G 63), .int a1, .int a2] WM G S R.1 R.2 := by
  refine g_met RX9 (cc := cX9_closing) (nL := 5) (ret := (some .int)) (by decide) rfl rfl (Nat.le_of_ble_eq_true rfl) ?_
  intro p e s m below meth c ls X E hP hS hl
  have hl : lv_has ls 5 [(0, .ref (ga G 63)), (1, .int a1), (2, .int a2)] := hl
  obtain ⟨hx, hb, -, -, hown, hts, -⟩ := id X
  rw [fX9_closing] at hf
  refine lv_aload_n hx hb dX9_closing_0 rfl (lv_at hl 0 rfl) ?_
  refine ggM_7 X E hP inX9_closing_X9 lkX9_closing_0 dX9_closing_1 ?_
  refine lv_iload_n hx hb dX9_closing_4 rfl (lv_at hl 1 rfl) ?_
  obtain ⟨b1, hf⟩ := g_if hf
  refine giM_7 X E hP b1 dX9_closing_5 ?_
  refine lv_istore_n (lv' := [(3, .int (S.2.2.1 7 (a1).toNatClampNeg)), (0, .ref (ga G 63)), (1, .int a1), (2, .int a2)]) hx hb dX9_closing_6 rfl hl (by decide) rfl (fun ls hl => ?_)
  refine lv_iload_n hx hb dX9_closing_7 rfl (lv_at hl 0 rfl) ?_
  refine lv_iconst (v := 4) hx hb dX9_closing_8 (by decide) ?_
  refine lv_icmp_eq (tgt := 18) hx hb dX9_closing_9 (by decide) (fun c2 => ?_) (fun c2 => ?_)
  · have hf := g_ift hf c2
    exact bX9_closing_L18 X E _ _ _ _ _ _ _ _ hf hP hS (lv_sub hl [1, 2, 3, 0] rfl)
  · have hf := g_iff hf c2
    refine lv_iload_n hx hb dX9_closing_12 rfl (lv_at hl 0 rfl) ?_
    refine lv_bipush (v := 6) hx hb dX9_closing_13 (by decide) ?_
    refine lv_icmp_ne (tgt := 24) hx hb dX9_closing_15 (by decide) (fun c18 => ?_) (fun c18 => ?_)
    · have hf := g_iff hf c18
      exact bX9_closing_L24 X E _ _ _ _ _ _ _ _ hf hP hS (lv_sub hl [1, 2, 3, 0] rfl)
    · have hf := g_ift hf c18
      exact bX9_closing_L18 X E _ _ _ _ _ _ _ _ hf hP hS (lv_sub hl [1, 2, 3, 0] rfl)
theorem lkX9_act_0 : Cond.fieldLink RX9 279 RX9 "ran" "I" ∈ wsX9_act := by decide +kernel
theorem inX9_act_X9 : ∀ w ∈ wsX90, w ∈ wsX9_act := by decide +kernel
def fX9_act (S : GS) (a1 : Int32) (a2 : Int32) (a3 : Int32) : Option (Int32 × GS) :=
  (fX9_isSetup (gU1 S 38 (0 : Int32)) a1).bind fun u1 =>
  if u1 = 0 then
    some ((0 : Int32), (gU1 S 38 (0 : Int32)))
  else
    if a2 < 0 then
      some ((0 : Int32), (gU1 S 38 (0 : Int32)))
    else
      if a2 ≤ (2 : Int32) then
        if a2 = 0 then
          (fX9_reading (gU1 S 38 (0 : Int32)) a1 a3).bind fun u12 =>
          some (u12.1, u12.2)
        else
          if a2 = (1 : Int32) then
            (fX9_sinking (gU1 S 38 (0 : Int32)) a1 a3).bind fun u10 =>
            some (u10.1, u10.2)
          else
            (fX9_closing (gU1 S 38 (0 : Int32)) a1 a3).bind fun u8 =>
            some (u8.1, u8.2)
      else
        some ((0 : Int32), (gU1 S 38 (0 : Int32)))
set_option maxHeartbeats 4000000 in
set_option maxRecDepth 100000 in
theorem tcX9_act (l : Launch) (G : GP) (S : GS) (a1 : Int32) (a2 : Int32) (a3 : Int32) {R : (Int32 × GS)} (hf : fX9_act S a1 a2 a3 = some R) : CI l yX9_act wsX9_act 4 95 [.ref (ga G 63), .int a1, .int a2, .int a3] WM G S R.1 R.2 := by
  refine g_met RX9 (cc := cX9_act) (nL := 4) (ret := (some .int)) (by decide) rfl rfl (Nat.le_of_ble_eq_true rfl) ?_
  intro p e s m below meth c ls X E hP hS hl
  have hl : lv_has ls 4 [(0, .ref (ga G 63)), (1, .int a1), (2, .int a2), (3, .int a3)] := hl
  obtain ⟨hx, hb, -, -, hown, hts, -⟩ := id X
  rw [fX9_act] at hf
  refine lv_aload_n hx hb dX9_act_0 rfl (lv_at hl 0 rfl) ?_
  refine lv_iconst (v := 0) hx hb dX9_act_1 (by decide) ?_
  refine gpM_38 X E hP hS inX9_act_X9 lkX9_act_0 dX9_act_2 (fun H locs hP hS => ?_)
  refine lv_aload_n hx hb dX9_act_5 rfl (lv_at hl 0 rfl) ?_
  refine lv_iload_n hx hb dX9_act_6 rfl (lv_at hl 1 rfl) ?_
  obtain ⟨u1, h2, hf⟩ := g_bind hf
  refine g_vi (rest := []) X E hP hS (tcX9_isSetup l G _ _ h2) (g_cwV X gX9_act_X9_isSetup rfl hdX9_isSetup ⟨Nat.le_of_ble_eq_true rfl, Nat.le_of_ble_eq_true rfl⟩) (rcM_model E hP) rfl hl.1 rfl (Nat.le_of_ble_eq_true rfl) dX9_act_7 ⟨Nat.le_refl _, Nat.le_refl _⟩ (fun H locs hP hS => ?_)
  refine lv_if_eq (tgt := 22) hx hb dX9_act_10 (by decide) (fun c3 => ?_) (fun c3 => ?_)
  · have hf := g_ift hf c3
    refine lv_iconst (v := 0) hx hb dX9_act_22 (by decide) ?_
    obtain rfl := g_some hf
    exact g_ri X E hP hS dX9_act_23
  · have hf := g_iff hf c3
    refine lv_iload_n hx hb dX9_act_13 rfl (lv_at hl 2 rfl) ?_
    refine lv_if_lt (tgt := 22) hx hb dX9_act_14 (by decide) (fun c4 => ?_) (fun c4 => ?_)
    · have hf := g_ift hf c4
      refine lv_iconst (v := 0) hx hb dX9_act_22 (by decide) ?_
      obtain rfl := g_some hf
      exact g_ri X E hP hS dX9_act_23
    · have hf := g_iff hf c4
      refine lv_iload_n hx hb dX9_act_17 rfl (lv_at hl 2 rfl) ?_
      refine lv_iconst (v := 2) hx hb dX9_act_18 (by decide) ?_
      refine lv_icmp_le (tgt := 24) hx hb dX9_act_19 (by decide) (fun c5 => ?_) (fun c5 => ?_)
      · have hf := g_ift hf c5
        refine lv_iload_n hx hb dX9_act_24 rfl (lv_at hl 2 rfl) ?_
        refine lv_if_ne (tgt := 37) hx hb dX9_act_25 (by decide) (fun c6 => ?_) (fun c6 => ?_)
        · have hf := g_iff hf c6
          refine lv_iload_n hx hb dX9_act_37 rfl (lv_at hl 2 rfl) ?_
          refine lv_iconst (v := 1) hx hb dX9_act_38 (by decide) ?_
          refine lv_icmp_ne (tgt := 51) hx hb dX9_act_39 (by decide) (fun c7 => ?_) (fun c7 => ?_)
          · have hf := g_iff hf c7
            refine lv_aload_n hx hb dX9_act_51 rfl (lv_at hl 0 rfl) ?_
            refine lv_iload_n hx hb dX9_act_52 rfl (lv_at hl 1 rfl) ?_
            refine lv_iload_n hx hb dX9_act_53 rfl (lv_at hl 3 rfl) ?_
            obtain ⟨u8, h9, hf⟩ := g_bind hf
            refine g_vi (rest := []) X E hP hS (tcX9_closing l G _ _ _ h9) (g_cwV X gX9_act_X9_closing rfl hdX9_closing ⟨Nat.le_of_ble_eq_true rfl, Nat.le_of_ble_eq_true rfl⟩) (rcM_model E hP) rfl hl.1 rfl (Nat.le_of_ble_eq_true rfl) dX9_act_54 ⟨Nat.le_refl _, Nat.le_refl _⟩ (fun H locs hP hS => ?_)
            obtain rfl := g_some hf
            exact g_ri X E hP hS dX9_act_57
          · have hf := g_ift hf c7
            refine lv_aload_n hx hb dX9_act_42 rfl (lv_at hl 0 rfl) ?_
            refine lv_iload_n hx hb dX9_act_43 rfl (lv_at hl 1 rfl) ?_
            refine lv_iload_n hx hb dX9_act_44 rfl (lv_at hl 3 rfl) ?_
            obtain ⟨u10, h11, hf⟩ := g_bind hf
            refine g_vi (rest := []) X E hP hS (tcX9_sinking l G _ _ _ h11) (g_cwV X gX9_act_X9_sinking rfl hdX9_sinking ⟨Nat.le_of_ble_eq_true rfl, Nat.le_of_ble_eq_true rfl⟩) (rcM_model E hP) rfl hl.1 rfl (Nat.le_of_ble_eq_true rfl) dX9_act_45 ⟨Nat.le_refl _, Nat.le_refl _⟩ (fun H locs hP hS => ?_)
            refine lv_goto (tgt := 57) hx hb dX9_act_48 (by decide) ?_
            obtain rfl := g_some hf
            exact g_ri X E hP hS dX9_act_57
        · have hf := g_ift hf c6
          refine lv_aload_n hx hb dX9_act_28 rfl (lv_at hl 0 rfl) ?_
          refine lv_iload_n hx hb dX9_act_29 rfl (lv_at hl 1 rfl) ?_
          refine lv_iload_n hx hb dX9_act_30 rfl (lv_at hl 3 rfl) ?_
          obtain ⟨u12, h13, hf⟩ := g_bind hf
          refine g_vi (rest := []) X E hP hS (tcX9_reading l G _ _ _ h13) (g_cwV X gX9_act_X9_reading rfl hdX9_reading ⟨Nat.le_of_ble_eq_true rfl, Nat.le_of_ble_eq_true rfl⟩) (rcM_model E hP) rfl hl.1 rfl (Nat.le_of_ble_eq_true rfl) dX9_act_31 ⟨Nat.le_refl _, Nat.le_refl _⟩ (fun H locs hP hS => ?_)
          refine lv_goto (tgt := 57) hx hb dX9_act_34 (by decide) ?_
          obtain rfl := g_some hf
          exact g_ri X E hP hS dX9_act_57
      · have hf := g_iff hf c5
        refine lv_iconst (v := 0) hx hb dX9_act_22 (by decide) ?_
        obtain rfl := g_some hf
        exact g_ri X E hP hS dX9_act_23
theorem lkX9_trace_0 : Cond.fieldLink RX9 279 RX9 "ran" "I" ∈ wsX9_trace := by decide +kernel
theorem lkX9_trace_1 : Cond.fieldLink RX9 87 RX9 "trace" "[I" ∈ wsX9_trace := by decide +kernel
theorem inX9_trace_X9 : ∀ w ∈ wsX90, w ∈ wsX9_trace := by decide +kernel
def fX9_trace (S : GS) (a1 : Int32) : Option Int32 :=
  if a1 < 0 then
    some (-1 : Int32)
  else
    if (20 : Int32) ≤ a1 then
      some (-1 : Int32)
    else
      if (S.1 38) ≤ a1 then
        some (-1 : Int32)
      else
        if a1 < 0 ∨ 20 ≤ (a1).toNatClampNeg then none else
        some (S.2.2.1 37 (a1).toNatClampNeg)
set_option maxHeartbeats 4000000 in
set_option maxRecDepth 100000 in
theorem tcX9_trace (l : Launch) (G : GP) (S : GS) (a1 : Int32) {R : Int32} (hf : fX9_trace S a1 = some R) : CI l yX9_trace wsX9_trace 0 0 [.ref (ga G 63), .int a1] WM G S R S := by
  refine g_met RX9 (cc := cX9_trace) (nL := 2) (ret := (some .int)) (by decide) rfl rfl (Nat.le_of_ble_eq_true rfl) ?_
  intro p e s m below meth c ls X E hP hS hl
  have hl : lv_has ls 2 [(0, .ref (ga G 63)), (1, .int a1)] := hl
  obtain ⟨hx, hb, -, -, hown, hts, -⟩ := id X
  rw [fX9_trace] at hf
  refine lv_iload_n hx hb dX9_trace_0 rfl (lv_at hl 1 rfl) ?_
  refine lv_if_lt (tgt := 27) hx hb dX9_trace_1 (by decide) (fun c1 => ?_) (fun c1 => ?_)
  · have hf := g_ift hf c1
    refine lv_iconst (v := -1) hx hb dX9_trace_27 (by decide) ?_
    obtain rfl := g_some hf
    exact g_ri X E hP hS dX9_trace_28
  · have hf := g_iff hf c1
    refine lv_iload_n hx hb dX9_trace_4 rfl (lv_at hl 1 rfl) ?_
    refine lv_bipush (v := 20) hx hb dX9_trace_5 (by decide) ?_
    refine lv_icmp_ge (tgt := 27) hx hb dX9_trace_7 (by decide) (fun c2 => ?_) (fun c2 => ?_)
    · have hf := g_ift hf c2
      refine lv_iconst (v := -1) hx hb dX9_trace_27 (by decide) ?_
      obtain rfl := g_some hf
      exact g_ri X E hP hS dX9_trace_28
    · have hf := g_iff hf c2
      refine lv_iload_n hx hb dX9_trace_10 rfl (lv_at hl 1 rfl) ?_
      refine lv_aload_n hx hb dX9_trace_11 rfl (lv_at hl 0 rfl) ?_
      refine ggM_38 X E hP inX9_trace_X9 lkX9_trace_0 dX9_trace_12 ?_
      refine lv_icmp_ge (tgt := 27) hx hb dX9_trace_15 (by decide) (fun c3 => ?_) (fun c3 => ?_)
      · have hf := g_ift hf c3
        refine lv_iconst (v := -1) hx hb dX9_trace_27 (by decide) ?_
        obtain rfl := g_some hf
        exact g_ri X E hP hS dX9_trace_28
      · have hf := g_iff hf c3
        refine lv_aload_n hx hb dX9_trace_18 rfl (lv_at hl 0 rfl) ?_
        refine ggM_37 X E hP inX9_trace_X9 lkX9_trace_1 dX9_trace_19 ?_
        refine lv_iload_n hx hb dX9_trace_22 rfl (lv_at hl 1 rfl) ?_
        obtain ⟨b4, hf⟩ := g_if hf
        refine giM_37 X E hP b4 dX9_trace_23 ?_
        refine lv_goto (tgt := 28) hx hb dX9_trace_24 (by decide) ?_
        obtain rfl := g_some hf
        exact g_ri X E hP hS dX9_trace_28
def fX9_carries_7_30_3 : Nat → GS → Int32 → Int32 → Int32 → Option GS
  | 0, _, _, _, _ => none
  | fu + 1, S, v3, v4, v5 =>
    if (16 : Int32) ≤ v5 then
      some S
    else
      if v4 = 0 then
        if v5 < 0 ∨ 16 ≤ (v5).toNatClampNeg then none else
        if (v3 + v5) < 0 ∨ 140 ≤ (v3 + v5).toNatClampNeg then none else
        fX9_carries_7_30_3 fu (gU3 S 30 (v3 + v5).toNatClampNeg (S.2.2.1 7 (v5).toNatClampNeg)) v3 v4 (v5 + 1)
      else
        if (v3 + v5) < 0 ∨ 140 ≤ (v3 + v5).toNatClampNeg then none else
        if v5 < 0 ∨ 16 ≤ (v5).toNatClampNeg then none else
        fX9_carries_7_30_3 fu (gU3 S 7 (v5).toNatClampNeg (S.2.2.1 30 (v3 + v5).toNatClampNeg)) v3 v4 (v5 + 1)
set_option maxHeartbeats 4000000 in
set_option maxRecDepth 100000 in
theorem bX9_carries_7_30_3 {p : Program} {l : Launch} {e : Env} {s : State} {m : MethodId} {args : Array Value} {below : List Frame} {meth : Method} {c : Code} {Q : State → Prop} {G : GP} (X : GX p s m meth c args cX9_carries 6 (some .int) wsX9_carries RX9) (E : gE WM G s)  : ∀ (fu : Nat) (S : GS) (v3 : Int32) (v4 : Int32) (v5 : Int32) (R : GS) (H : Heap) (locs : List Loc) (ls : Array Slot) (_ : fX9_carries_7_30_3 fu S v3 v4 v5 = some R) (_ : va_P (gD G) vwCl (WM G S ++ gF G) H) (_ : va_S (gA G) s.heap H locs) (_ : lv_has ls 6 [(1, .ref (ga G 7)), (2, .ref (ga G 30)), (3, .int v3), (4, .int v4), (5, .int v5)]) (_ : ∀ (H : Heap) (locs : List Loc) (ls : Array Slot), va_P (gD G) vwCl (WM G R ++ gF G) H → va_S (gA G) s.heap H locs → lv_has ls 6 [(3, .int v3)] → W p l e (gR 0 0) s m args below meth c H locs 0 0 Q (F0 m 44 ls [])), W p l e (gR 0 0) s m args below meth c H locs 0 0 Q (F0 m 3 ls []) := by
  obtain ⟨hx, hb, -, -, hown, hts, -⟩ := id X
  intro fu
  induction fu with
  | zero =>
    intro S v3 v4 v5 R H locs ls hf
    cases (show (none : Option GS) = some R from hf)
  | succ fu ih =>
    intro S v3 v4 v5 R H locs ls hf hP hS hl kk
    rw [fX9_carries_7_30_3] at hf
    refine lv_iload hx hb dX9_carries_3 (lv_at hl 4 rfl) ?_
    refine lv_bipush (v := 16) hx hb dX9_carries_5 (by decide) ?_
    refine lv_icmp_ge (tgt := 44) hx hb dX9_carries_7 (by decide) (fun c1 => ?_) (fun c1 => ?_)
    · have hf := g_ift hf c1
      obtain rfl := g_some hf
      exact kk _ _ _ hP hS (lv_sub hl [2] rfl)
    · have hf := g_iff hf c1
      refine lv_iload hx hb dX9_carries_10 (lv_at hl 3 rfl) ?_
      refine lv_if_eq (tgt := 28) hx hb dX9_carries_12 (by decide) (fun c2 => ?_) (fun c2 => ?_)
      · have hf := g_ift hf c2
        refine lv_aload_n hx hb dX9_carries_28 rfl (lv_at hl 1 rfl) ?_
        refine lv_iload_n hx hb dX9_carries_29 rfl (lv_at hl 2 rfl) ?_
        refine lv_iload hx hb dX9_carries_30 (lv_at hl 4 rfl) ?_
        refine lv_iadd hx hb dX9_carries_32 ?_
        refine lv_aload_n hx hb dX9_carries_33 rfl (lv_at hl 0 rfl) ?_
        refine lv_iload hx hb dX9_carries_34 (lv_at hl 4 rfl) ?_
        obtain ⟨b3, hf⟩ := g_if hf
        refine giM_7 X E hP b3 dX9_carries_36 ?_
        obtain ⟨b4, hf⟩ := g_if hf
        refine gsM_30 X E hP hS b4 dX9_carries_37 (fun H locs hP hS => ?_)
        refine lv_iinc (v := (v5 + 1)) (lv' := [(5, .int (v5 + 1)), (1, .ref (ga G 7)), (2, .ref (ga G 30)), (3, .int v3), (4, .int v4)]) hx hb dX9_carries_38 hl (k := 4) rfl rfl (by decide) rfl (fun ls hl => ?_)
        refine lv_goto (tgt := 3) hx hb dX9_carries_41 (by decide) ?_
        exact ih _ _ _ _ _ _ _ _ hf hP hS (lv_sub hl [1, 2, 3, 4, 0] rfl) kk
      · have hf := g_iff hf c2
        refine lv_aload_n hx hb dX9_carries_15 rfl (lv_at hl 0 rfl) ?_
        refine lv_iload hx hb dX9_carries_16 (lv_at hl 4 rfl) ?_
        refine lv_aload_n hx hb dX9_carries_18 rfl (lv_at hl 1 rfl) ?_
        refine lv_iload_n hx hb dX9_carries_19 rfl (lv_at hl 2 rfl) ?_
        refine lv_iload hx hb dX9_carries_20 (lv_at hl 4 rfl) ?_
        refine lv_iadd hx hb dX9_carries_22 ?_
        obtain ⟨b5, hf⟩ := g_if hf
        refine giM_30 X E hP b5 dX9_carries_23 ?_
        obtain ⟨b6, hf⟩ := g_if hf
        refine gsM_7 X E hP hS b6 dX9_carries_24 (fun H locs hP hS => ?_)
        refine lv_goto (tgt := 38) hx hb dX9_carries_25 (by decide) ?_
        refine lv_iinc (v := (v5 + 1)) (lv' := [(5, .int (v5 + 1)), (1, .ref (ga G 7)), (2, .ref (ga G 30)), (3, .int v3), (4, .int v4)]) hx hb dX9_carries_38 hl (k := 4) rfl rfl (by decide) rfl (fun ls hl => ?_)
        refine lv_goto (tgt := 3) hx hb dX9_carries_41 (by decide) ?_
        exact ih _ _ _ _ _ _ _ _ hf hP hS (lv_sub hl [1, 2, 3, 4, 0] rfl) kk
def fX9_carries_7_30 (S : GS) (a1 : Int32) (a2 : Int32) : Option (Int32 × GS) :=
  (fX9_carries_7_30_3 gFuel S a1 a2 (0 : Int32)).bind fun u7 =>
  some ((a1 + (16 : Int32)), u7)
set_option maxHeartbeats 4000000 in
set_option maxRecDepth 100000 in
theorem tcX9_carries_7_30 (l : Launch) (G : GP) (S : GS) (a1 : Int32) (a2 : Int32) {R : (Int32 × GS)} (hf : fX9_carries_7_30 S a1 a2 = some R) : CI l yX9_carries wsX9_carries 0 0 [.ref (ga G 63), .ref (ga G 7), .ref (ga G 30), .int a1, .int a2] WM G S R.1 R.2 := by
  refine g_met RX9 (cc := cX9_carries) (nL := 6) (ret := (some .int)) (by decide) rfl rfl (Nat.le_of_ble_eq_true rfl) ?_
  intro p e s m below meth c ls X E hP hS hl
  have hl : lv_has ls 6 [(0, .ref (ga G 63)), (1, .ref (ga G 7)), (2, .ref (ga G 30)), (3, .int a1), (4, .int a2)] := hl
  obtain ⟨hx, hb, -, -, hown, hts, -⟩ := id X
  rw [fX9_carries_7_30] at hf
  refine lv_iconst (v := 0) hx hb dX9_carries_0 (by decide) ?_
  refine lv_istore (lv' := [(5, .int (0 : Int32)), (0, .ref (ga G 63)), (1, .ref (ga G 7)), (2, .ref (ga G 30)), (3, .int a1), (4, .int a2)]) hx hb dX9_carries_1 hl (by decide) rfl (fun ls hl => ?_)
  obtain ⟨u7, h8, hf⟩ := g_bind hf
  refine bX9_carries_7_30_3 X E gFuel _ _ _ _ u7 _ _ _ h8 hP hS (lv_sub hl [2, 3, 4, 5, 0] rfl) (fun H locs ls hP hS hl => ?_)
  have hl : lv_has ls 6 [(3, .int a1)] := hl
  have hP : va_P (gD G) vwCl (WM G u7 ++ gF G) H := hP
  refine lv_iload_n hx hb dX9_carries_44 rfl (lv_at hl 0 rfl) ?_
  refine lv_bipush (v := 16) hx hb dX9_carries_45 (by decide) ?_
  refine lv_iadd hx hb dX9_carries_47 ?_
  obtain rfl := g_some hf
  exact g_ri X E hP hS dX9_carries_48
def fX9_carries_8_30_3 : Nat → GS → Int32 → Int32 → Int32 → Option GS
  | 0, _, _, _, _ => none
  | fu + 1, S, v3, v4, v5 =>
    if (16 : Int32) ≤ v5 then
      some S
    else
      if v4 = 0 then
        if v5 < 0 ∨ 16 ≤ (v5).toNatClampNeg then none else
        if (v3 + v5) < 0 ∨ 140 ≤ (v3 + v5).toNatClampNeg then none else
        fX9_carries_8_30_3 fu (gU3 S 30 (v3 + v5).toNatClampNeg (S.2.2.1 8 (v5).toNatClampNeg)) v3 v4 (v5 + 1)
      else
        if (v3 + v5) < 0 ∨ 140 ≤ (v3 + v5).toNatClampNeg then none else
        if v5 < 0 ∨ 16 ≤ (v5).toNatClampNeg then none else
        fX9_carries_8_30_3 fu (gU3 S 8 (v5).toNatClampNeg (S.2.2.1 30 (v3 + v5).toNatClampNeg)) v3 v4 (v5 + 1)
set_option maxHeartbeats 4000000 in
set_option maxRecDepth 100000 in
theorem bX9_carries_8_30_3 {p : Program} {l : Launch} {e : Env} {s : State} {m : MethodId} {args : Array Value} {below : List Frame} {meth : Method} {c : Code} {Q : State → Prop} {G : GP} (X : GX p s m meth c args cX9_carries 6 (some .int) wsX9_carries RX9) (E : gE WM G s)  : ∀ (fu : Nat) (S : GS) (v3 : Int32) (v4 : Int32) (v5 : Int32) (R : GS) (H : Heap) (locs : List Loc) (ls : Array Slot) (_ : fX9_carries_8_30_3 fu S v3 v4 v5 = some R) (_ : va_P (gD G) vwCl (WM G S ++ gF G) H) (_ : va_S (gA G) s.heap H locs) (_ : lv_has ls 6 [(1, .ref (ga G 8)), (2, .ref (ga G 30)), (3, .int v3), (4, .int v4), (5, .int v5)]) (_ : ∀ (H : Heap) (locs : List Loc) (ls : Array Slot), va_P (gD G) vwCl (WM G R ++ gF G) H → va_S (gA G) s.heap H locs → lv_has ls 6 [(3, .int v3)] → W p l e (gR 0 0) s m args below meth c H locs 0 0 Q (F0 m 44 ls [])), W p l e (gR 0 0) s m args below meth c H locs 0 0 Q (F0 m 3 ls []) := by
  obtain ⟨hx, hb, -, -, hown, hts, -⟩ := id X
  intro fu
  induction fu with
  | zero =>
    intro S v3 v4 v5 R H locs ls hf
    cases (show (none : Option GS) = some R from hf)
  | succ fu ih =>
    intro S v3 v4 v5 R H locs ls hf hP hS hl kk
    rw [fX9_carries_8_30_3] at hf
    refine lv_iload hx hb dX9_carries_3 (lv_at hl 4 rfl) ?_
    refine lv_bipush (v := 16) hx hb dX9_carries_5 (by decide) ?_
    refine lv_icmp_ge (tgt := 44) hx hb dX9_carries_7 (by decide) (fun c1 => ?_) (fun c1 => ?_)
    · have hf := g_ift hf c1
      obtain rfl := g_some hf
      exact kk _ _ _ hP hS (lv_sub hl [2] rfl)
    · have hf := g_iff hf c1
      refine lv_iload hx hb dX9_carries_10 (lv_at hl 3 rfl) ?_
      refine lv_if_eq (tgt := 28) hx hb dX9_carries_12 (by decide) (fun c2 => ?_) (fun c2 => ?_)
      · have hf := g_ift hf c2
        refine lv_aload_n hx hb dX9_carries_28 rfl (lv_at hl 1 rfl) ?_
        refine lv_iload_n hx hb dX9_carries_29 rfl (lv_at hl 2 rfl) ?_
        refine lv_iload hx hb dX9_carries_30 (lv_at hl 4 rfl) ?_
        refine lv_iadd hx hb dX9_carries_32 ?_
        refine lv_aload_n hx hb dX9_carries_33 rfl (lv_at hl 0 rfl) ?_
        refine lv_iload hx hb dX9_carries_34 (lv_at hl 4 rfl) ?_
        obtain ⟨b3, hf⟩ := g_if hf
        refine giM_8 X E hP b3 dX9_carries_36 ?_
        obtain ⟨b4, hf⟩ := g_if hf
        refine gsM_30 X E hP hS b4 dX9_carries_37 (fun H locs hP hS => ?_)
        refine lv_iinc (v := (v5 + 1)) (lv' := [(5, .int (v5 + 1)), (1, .ref (ga G 8)), (2, .ref (ga G 30)), (3, .int v3), (4, .int v4)]) hx hb dX9_carries_38 hl (k := 4) rfl rfl (by decide) rfl (fun ls hl => ?_)
        refine lv_goto (tgt := 3) hx hb dX9_carries_41 (by decide) ?_
        exact ih _ _ _ _ _ _ _ _ hf hP hS (lv_sub hl [1, 2, 3, 4, 0] rfl) kk
      · have hf := g_iff hf c2
        refine lv_aload_n hx hb dX9_carries_15 rfl (lv_at hl 0 rfl) ?_
        refine lv_iload hx hb dX9_carries_16 (lv_at hl 4 rfl) ?_
        refine lv_aload_n hx hb dX9_carries_18 rfl (lv_at hl 1 rfl) ?_
        refine lv_iload_n hx hb dX9_carries_19 rfl (lv_at hl 2 rfl) ?_
        refine lv_iload hx hb dX9_carries_20 (lv_at hl 4 rfl) ?_
        refine lv_iadd hx hb dX9_carries_22 ?_
        obtain ⟨b5, hf⟩ := g_if hf
        refine giM_30 X E hP b5 dX9_carries_23 ?_
        obtain ⟨b6, hf⟩ := g_if hf
        refine gsM_8 X E hP hS b6 dX9_carries_24 (fun H locs hP hS => ?_)
        refine lv_goto (tgt := 38) hx hb dX9_carries_25 (by decide) ?_
        refine lv_iinc (v := (v5 + 1)) (lv' := [(5, .int (v5 + 1)), (1, .ref (ga G 8)), (2, .ref (ga G 30)), (3, .int v3), (4, .int v4)]) hx hb dX9_carries_38 hl (k := 4) rfl rfl (by decide) rfl (fun ls hl => ?_)
        refine lv_goto (tgt := 3) hx hb dX9_carries_41 (by decide) ?_
        exact ih _ _ _ _ _ _ _ _ hf hP hS (lv_sub hl [1, 2, 3, 4, 0] rfl) kk
def fX9_carries_8_30 (S : GS) (a1 : Int32) (a2 : Int32) : Option (Int32 × GS) :=
  (fX9_carries_8_30_3 gFuel S a1 a2 (0 : Int32)).bind fun u7 =>
  some ((a1 + (16 : Int32)), u7)
set_option maxHeartbeats 4000000 in
set_option maxRecDepth 100000 in
theorem tcX9_carries_8_30 (l : Launch) (G : GP) (S : GS) (a1 : Int32) (a2 : Int32) {R : (Int32 × GS)} (hf : fX9_carries_8_30 S a1 a2 = some R) : CI l yX9_carries wsX9_carries 0 0 [.ref (ga G 63), .ref (ga G 8), .ref (ga G 30), .int a1, .int a2] WM G S R.1 R.2 := by
  refine g_met RX9 (cc := cX9_carries) (nL := 6) (ret := (some .int)) (by decide) rfl rfl (Nat.le_of_ble_eq_true rfl) ?_
  intro p e s m below meth c ls X E hP hS hl
  have hl : lv_has ls 6 [(0, .ref (ga G 63)), (1, .ref (ga G 8)), (2, .ref (ga G 30)), (3, .int a1), (4, .int a2)] := hl
  obtain ⟨hx, hb, -, -, hown, hts, -⟩ := id X
  rw [fX9_carries_8_30] at hf
  refine lv_iconst (v := 0) hx hb dX9_carries_0 (by decide) ?_
  refine lv_istore (lv' := [(5, .int (0 : Int32)), (0, .ref (ga G 63)), (1, .ref (ga G 8)), (2, .ref (ga G 30)), (3, .int a1), (4, .int a2)]) hx hb dX9_carries_1 hl (by decide) rfl (fun ls hl => ?_)
  obtain ⟨u7, h8, hf⟩ := g_bind hf
  refine bX9_carries_8_30_3 X E gFuel _ _ _ _ u7 _ _ _ h8 hP hS (lv_sub hl [2, 3, 4, 5, 0] rfl) (fun H locs ls hP hS hl => ?_)
  have hl : lv_has ls 6 [(3, .int a1)] := hl
  have hP : va_P (gD G) vwCl (WM G u7 ++ gF G) H := hP
  refine lv_iload_n hx hb dX9_carries_44 rfl (lv_at hl 0 rfl) ?_
  refine lv_bipush (v := 16) hx hb dX9_carries_45 (by decide) ?_
  refine lv_iadd hx hb dX9_carries_47 ?_
  obtain rfl := g_some hf
  exact g_ri X E hP hS dX9_carries_48
