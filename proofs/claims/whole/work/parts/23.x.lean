theorem hdX0_bodyAt : yX0_bodyAt.cls = RX0 ∧ yX0_bodyAt.cls ≠ "java/lang/invoke/MethodHandle" ∧ yX0_bodyAt.cls ≠ "java/lang/invoke/VarHandle" ∧ (parseMethodDescriptor yX0_bodyAt.desc).map (fun d => d.parameters.length) = some 1 := by decide +kernel
theorem hdX0_bodyOf : yX0_bodyOf.cls = RX0 ∧ yX0_bodyOf.cls ≠ "java/lang/invoke/MethodHandle" ∧ yX0_bodyOf.cls ≠ "java/lang/invoke/VarHandle" ∧ (parseMethodDescriptor yX0_bodyOf.desc).map (fun d => d.parameters.length) = some 2 := by decide +kernel
theorem hdX0_forget : yX0_forget.cls = RX0 ∧ yX0_forget.cls ≠ "java/lang/invoke/MethodHandle" ∧ yX0_forget.cls ≠ "java/lang/invoke/VarHandle" ∧ (parseMethodDescriptor yX0_forget.desc).map (fun d => d.parameters.length) = some 0 := by decide +kernel
theorem hdX0_note : yX0_note.cls = RX0 ∧ yX0_note.cls ≠ "java/lang/invoke/MethodHandle" ∧ yX0_note.cls ≠ "java/lang/invoke/VarHandle" ∧ (parseMethodDescriptor yX0_note.desc).map (fun d => d.parameters.length) = some 1 := by decide +kernel
theorem hdX0_perform : yX0_perform.cls = RX0 ∧ yX0_perform.cls ≠ "java/lang/invoke/MethodHandle" ∧ yX0_perform.cls ≠ "java/lang/invoke/VarHandle" ∧ (parseMethodDescriptor yX0_perform.desc).map (fun d => d.parameters.length) = some 5 := by decide +kernel
theorem hdX0_ranInAll : yX0_ranInAll.cls = RX0 ∧ yX0_ranInAll.cls ≠ "java/lang/invoke/MethodHandle" ∧ yX0_ranInAll.cls ≠ "java/lang/invoke/VarHandle" ∧ (parseMethodDescriptor yX0_ranInAll.desc).map (fun d => d.parameters.length) = some 0 := by decide +kernel
theorem hdX0_run : yX0_run.cls = RX0 ∧ yX0_run.cls ≠ "java/lang/invoke/MethodHandle" ∧ yX0_run.cls ≠ "java/lang/invoke/VarHandle" ∧ (parseMethodDescriptor yX0_run.desc).map (fun d => d.parameters.length) = some 5 := by decide +kernel
theorem hdX3_draw : yX3_draw.cls = RX3 ∧ yX3_draw.cls ≠ "java/lang/invoke/MethodHandle" ∧ yX3_draw.cls ≠ "java/lang/invoke/VarHandle" ∧ (parseMethodDescriptor yX3_draw.desc).map (fun d => d.parameters.length) = some 1 := by decide +kernel
theorem hdX3_putSeed : yX3_putSeed.cls = RX3 ∧ yX3_putSeed.cls ≠ "java/lang/invoke/MethodHandle" ∧ yX3_putSeed.cls ≠ "java/lang/invoke/VarHandle" ∧ (parseMethodDescriptor yX3_putSeed.desc).map (fun d => d.parameters.length) = some 1 := by decide +kernel
theorem hdX3_readByDraws : yX3_readByDraws.cls = RX3 ∧ yX3_readByDraws.cls ≠ "java/lang/invoke/MethodHandle" ∧ yX3_readByDraws.cls ≠ "java/lang/invoke/VarHandle" ∧ (parseMethodDescriptor yX3_readByDraws.desc).map (fun d => d.parameters.length) = some 0 := by decide +kernel
theorem hdX3_seedNow : yX3_seedNow.cls = RX3 ∧ yX3_seedNow.cls ≠ "java/lang/invoke/MethodHandle" ∧ yX3_seedNow.cls ≠ "java/lang/invoke/VarHandle" ∧ (parseMethodDescriptor yX3_seedNow.desc).map (fun d => d.parameters.length) = some 0 := by decide +kernel
theorem lkX3_readByDraws_0 : Cond.fieldLink RX3 16 RX3 "setUps" "I" ∈ wsX3_readByDraws := by decide +kernel
theorem lkX3_readByDraws_1 : Cond.methodLink RX3 84 Lib.Math.min.name ∈ wsX3_readByDraws := by decide +kernel
theorem lkX3_readByDraws_2 : Cond.static Lib.Math.min.name ∈ wsX3_readByDraws := by decide +kernel
theorem lkX3_readByDraws_3 : Cond.initialized "java/lang/Math" ∈ wsX3_readByDraws := by decide +kernel
theorem lkX3_readByDraws_4 : Cond.code Lib.Math.min.name Lib.Math.min.code 2 (some .int) ∈ wsX3_readByDraws := by decide +kernel
theorem lkX3_readByDraws_5 : Cond.methodLink RX3 89 Lib.Math.max.name ∈ wsX3_readByDraws := by decide +kernel
theorem lkX3_readByDraws_6 : Cond.static Lib.Math.max.name ∈ wsX3_readByDraws := by decide +kernel
theorem lkX3_readByDraws_7 : Cond.code Lib.Math.max.name Lib.Math.max.code 2 (some .int) ∈ wsX3_readByDraws := by decide +kernel
theorem inX3_readByDraws_X3 : ∀ w ∈ wsX30, w ∈ wsX3_readByDraws := by decide +kernel
def fX3_readByDraws_now (S : GS)  : Option GS :=
  (fX3_draw_now S (S.1 2)).bind fun u1 =>
  (fX3_get_now u1.2 u1.1 (2 : Int32)).bind fun u3 =>
  (fX3_draw_now u1.2 (3 : Int32)).bind fun u5 =>
  (fX3_put_now u5.2 u1.1 (2 : Int32) (if (0 : Int32) < (if ((u3 + u5.1) - (1 : Int32)) < (9999 : Int32) then ((u3 + u5.1) - (1 : Int32)) else (9999 : Int32)) then (if ((u3 + u5.1) - (1 : Int32)) < (9999 : Int32) then ((u3 + u5.1) - (1 : Int32)) else (9999 : Int32)) else (0 : Int32))).bind fun u7 =>
  (fX3_get_now u7 u1.1 (3 : Int32)).bind fun u9 =>
  (fX3_draw_now u7 (20 : Int32)).bind fun u11 =>
  if u11.1 = 0 then
    if u9 < (100 : Int32) then
      some u11.2
    else
      (fX3_put_now u11.2 u1.1 (3 : Int32) (u9 - (100 : Int32))).bind fun u15 =>
      some u15
  else
    some u11.2
set_option maxHeartbeats 4000000 in
set_option maxRecDepth 100000 in
theorem tcX3_readByDraws_now (l : Launch) (G : GP) (S : GS)  {R : GS} (hf : fX3_readByDraws_now S  = some R) : CV l yX3_readByDraws wsX3_readByDraws 1 64 [.ref (ga G 15)] WX G S R := by
  refine g_met RX3 (cc := cX3_readByDraws) (nL := 4) (ret := none) (by decide) rfl rfl (Nat.le_of_ble_eq_true rfl) ?_
  intro p e s m below meth c ls X E hP hS hl
  have hl : lv_has ls 4 [(0, .ref (ga G 15))] := hl
  obtain ⟨hx, hb, -, -, hown, hts, -⟩ := id X
  rw [fX3_readByDraws_now] at hf
  refine lv_aload_n hx hb dX3_readByDraws_0 rfl (lv_at hl 0 rfl) ?_
  refine lv_aload_n hx hb dX3_readByDraws_1 rfl (lv_at hl 0 rfl) ?_
  refine ggX_2 X E hP inX3_readByDraws_X3 lkX3_readByDraws_0 dX3_readByDraws_2 ?_
  obtain ⟨u1, h2, hf⟩ := g_bind hf
  refine g_vi (rest := []) X E hP hS (tcX3_draw_now l G _ _ h2) (g_cwV X gX3_readByDraws_X3_draw rfl hdX3_draw ⟨Nat.le_of_ble_eq_true rfl, Nat.le_of_ble_eq_true rfl⟩) (rcX_now E hP) rfl hl.1 rfl (Nat.le_of_ble_eq_true rfl) dX3_readByDraws_5 ⟨Nat.le_refl _, Nat.le_refl _⟩ (fun H locs hP hS => ?_)
  refine lv_istore_n (lv' := [(1, .int u1.1), (0, .ref (ga G 15))]) hx hb dX3_readByDraws_8 rfl hl (by decide) rfl (fun ls hl => ?_)
  refine lv_aload_n hx hb dX3_readByDraws_9 rfl (lv_at hl 1 rfl) ?_
  refine lv_iload_n hx hb dX3_readByDraws_10 rfl (lv_at hl 0 rfl) ?_
  refine lv_iconst (v := 2) hx hb dX3_readByDraws_11 (by decide) ?_
  obtain ⟨u3, h4, hf⟩ := g_bind hf
  refine g_vi (rest := []) X E hP hS (tcX3_get_now l G _ _ _ h4) (g_cwV X gX3_readByDraws_X3_get rfl hdX3_get ⟨Nat.le_of_ble_eq_true rfl, Nat.le_of_ble_eq_true rfl⟩) (rcX_now E hP) rfl hl.1 rfl (Nat.le_of_ble_eq_true rfl) dX3_readByDraws_12 ⟨Nat.le_refl _, Nat.le_refl _⟩ (fun H locs hP hS => ?_)
  refine lv_aload_n hx hb dX3_readByDraws_15 rfl (lv_at hl 1 rfl) ?_
  refine lv_iconst (v := 3) hx hb dX3_readByDraws_16 (by decide) ?_
  obtain ⟨u5, h6, hf⟩ := g_bind hf
  refine g_vi (rest := [.int u3]) X E hP hS (tcX3_draw_now l G _ _ h6) (g_cwV X gX3_readByDraws_X3_draw rfl hdX3_draw ⟨Nat.le_of_ble_eq_true rfl, Nat.le_of_ble_eq_true rfl⟩) (rcX_now E hP) rfl hl.1 rfl (Nat.le_of_ble_eq_true rfl) dX3_readByDraws_17 ⟨Nat.le_refl _, Nat.le_refl _⟩ (fun H locs hP hS => ?_)
  refine lv_iadd hx hb dX3_readByDraws_20 ?_
  refine lv_iconst (v := 1) hx hb dX3_readByDraws_21 (by decide) ?_
  refine lv_isub hx hb dX3_readByDraws_22 ?_
  refine lv_istore_n (lv' := [(2, .int ((u3 + u5.1) - (1 : Int32))), (1, .int u1.1), (0, .ref (ga G 15))]) hx hb dX3_readByDraws_23 rfl hl (by decide) rfl (fun ls hl => ?_)
  refine lv_aload_n hx hb dX3_readByDraws_24 rfl (lv_at hl 2 rfl) ?_
  refine lv_iload_n hx hb dX3_readByDraws_25 rfl (lv_at hl 1 rfl) ?_
  refine lv_iconst (v := 2) hx hb dX3_readByDraws_26 (by decide) ?_
  refine lv_iconst (v := 0) hx hb dX3_readByDraws_27 (by decide) ?_
  refine lv_sipush (v := 9999) hx hb dX3_readByDraws_28 (by decide) ?_
  refine lv_iload_n hx hb dX3_readByDraws_31 rfl (lv_at hl 0 rfl) ?_
  refine va_mmin hx hb (X.2.2.1.trans hl.1.symm) hown (hts _ lkX3_readByDraws_1) (hts _ lkX3_readByDraws_2) (hts _ lkX3_readByDraws_3) (hts _ lkX3_readByDraws_4) (Nat.le_of_ble_eq_true rfl) (Nat.le_of_ble_eq_true rfl) (Nat.le_refl _) (Nat.le_refl _) dX3_readByDraws_32 ?_
  refine va_mmax hx hb (X.2.2.1.trans hl.1.symm) hown (hts _ lkX3_readByDraws_5) (hts _ lkX3_readByDraws_6) (hts _ lkX3_readByDraws_3) (hts _ lkX3_readByDraws_7) (Nat.le_of_ble_eq_true rfl) (Nat.le_of_ble_eq_true rfl) (Nat.le_refl _) (Nat.le_refl _) dX3_readByDraws_35 ?_
  obtain ⟨u7, h8, hf⟩ := g_bind hf
  refine g_vv (rest := []) X E hP hS (tcX3_put_now l G _ _ _ _ h8) (g_cwV X gX3_readByDraws_X3_put rfl hdX3_put ⟨Nat.le_of_ble_eq_true rfl, Nat.le_of_ble_eq_true rfl⟩) (rcX_now E hP) rfl hl.1 rfl (Nat.le_of_ble_eq_true rfl) dX3_readByDraws_38 ⟨Nat.le_refl _, Nat.le_refl _⟩ (fun H locs hP hS => ?_)
  refine lv_aload_n hx hb dX3_readByDraws_41 rfl (lv_at hl 2 rfl) ?_
  refine lv_iload_n hx hb dX3_readByDraws_42 rfl (lv_at hl 1 rfl) ?_
  refine lv_iconst (v := 3) hx hb dX3_readByDraws_43 (by decide) ?_
  obtain ⟨u9, h10, hf⟩ := g_bind hf
  refine g_vi (rest := []) X E hP hS (tcX3_get_now l G _ _ _ h10) (g_cwV X gX3_readByDraws_X3_get rfl hdX3_get ⟨Nat.le_of_ble_eq_true rfl, Nat.le_of_ble_eq_true rfl⟩) (rcX_now E hP) rfl hl.1 rfl (Nat.le_of_ble_eq_true rfl) dX3_readByDraws_44 ⟨Nat.le_refl _, Nat.le_refl _⟩ (fun H locs hP hS => ?_)
  refine lv_istore_n (lv' := [(3, .int u9), (2, .int ((u3 + u5.1) - (1 : Int32))), (1, .int u1.1), (0, .ref (ga G 15))]) hx hb dX3_readByDraws_47 rfl hl (by decide) rfl (fun ls hl => ?_)
  refine lv_aload_n hx hb dX3_readByDraws_48 rfl (lv_at hl 3 rfl) ?_
  refine lv_bipush (v := 20) hx hb dX3_readByDraws_49 (by decide) ?_
  obtain ⟨u11, h12, hf⟩ := g_bind hf
  refine g_vi (rest := []) X E hP hS (tcX3_draw_now l G _ _ h12) (g_cwV X gX3_readByDraws_X3_draw rfl hdX3_draw ⟨Nat.le_of_ble_eq_true rfl, Nat.le_of_ble_eq_true rfl⟩) (rcX_now E hP) rfl hl.1 rfl (Nat.le_of_ble_eq_true rfl) dX3_readByDraws_51 ⟨Nat.le_refl _, Nat.le_refl _⟩ (fun H locs hP hS => ?_)
  refine lv_if_ne (tgt := 73) hx hb dX3_readByDraws_54 (by decide) (fun c13 => ?_) (fun c13 => ?_)
  · have hf := g_iff hf c13
    obtain rfl := g_some hf
    exact g_rv X E hP hS dX3_readByDraws_73
  · have hf := g_ift hf c13
    refine lv_iload_n hx hb dX3_readByDraws_57 rfl (lv_at hl 0 rfl) ?_
    refine lv_bipush (v := 100) hx hb dX3_readByDraws_58 (by decide) ?_
    refine lv_icmp_lt (tgt := 73) hx hb dX3_readByDraws_60 (by decide) (fun c14 => ?_) (fun c14 => ?_)
    · have hf := g_ift hf c14
      obtain rfl := g_some hf
      exact g_rv X E hP hS dX3_readByDraws_73
    · have hf := g_iff hf c14
      refine lv_aload_n hx hb dX3_readByDraws_63 rfl (lv_at hl 3 rfl) ?_
      refine lv_iload_n hx hb dX3_readByDraws_64 rfl (lv_at hl 2 rfl) ?_
      refine lv_iconst (v := 3) hx hb dX3_readByDraws_65 (by decide) ?_
      refine lv_iload_n hx hb dX3_readByDraws_66 rfl (lv_at hl 0 rfl) ?_
      refine lv_bipush (v := 100) hx hb dX3_readByDraws_67 (by decide) ?_
      refine lv_isub hx hb dX3_readByDraws_69 ?_
      obtain ⟨u15, h16, hf⟩ := g_bind hf
      refine g_vv (rest := []) X E hP hS (tcX3_put_now l G _ _ _ _ h16) (g_cwV X gX3_readByDraws_X3_put rfl hdX3_put ⟨Nat.le_of_ble_eq_true rfl, Nat.le_of_ble_eq_true rfl⟩) (rcX_now E hP) rfl hl.1 rfl (Nat.le_of_ble_eq_true rfl) dX3_readByDraws_70 ⟨Nat.le_refl _, Nat.le_refl _⟩ (fun H locs hP hS => ?_)
      obtain rfl := g_some hf
      exact g_rv X E hP hS dX3_readByDraws_73
theorem lkX8_seasons_0 : Cond.fieldLink RX8 19 RX8 "now" "LBackToTheFirstStone$Loop;" ∈ wsX8_seasons := by decide +kernel
theorem lkX8_seasons_1 : Cond.constant RX8 125 (-1000000 : Int32) ∈ wsX8_seasons := by decide +kernel
theorem inX8_seasons_X8 : ∀ w ∈ wsX80, w ∈ wsX8_seasons := by decide +kernel
def fX8_seasons_L31 (S : GS)  : Option (Int32 × GS) :=
  (fX8_refuse S (-6 : Int32)).bind fun u5 =>
  some (((-1000000 : Int32) + u5.1), u5.2)
set_option maxHeartbeats 4000000 in
set_option maxRecDepth 100000 in
theorem bX8_seasons_L31 {p : Program} {l : Launch} {e : Env} {s : State} {m : MethodId} {args : Array Value} {below : List Frame} {meth : Method} {c : Code} {G : GP} (X : GX p s m meth c args cX8_seasons 3 (some .int) wsX8_seasons RX8) (E : gE WX G s) (S : GS)  (R : (Int32 × GS)) (H : Heap) (locs : List Loc) (ls : Array Slot) (hf : fX8_seasons_L31 S  = some R) (hP : va_P (gD G) vwCl (WX G S ++ gF G) H) (hS : va_S (gA G) s.heap H locs) (hl : lv_has ls 3 [(0, .ref (ga G 63))]) : W p l e (gR 5 111) s m args below meth c H locs 0 0 (MQ below (gQi WX G R.1 R.2) args s 0 0 (gA G)) (F0 m 31 ls []) := by
  obtain ⟨hx, hb, -, -, hown, hts, -⟩ := id X
  rw [fX8_seasons_L31] at hf
  refine lv_ldc hx hb hown (hts _ lkX8_seasons_1) dX8_seasons_31 ?_
  refine lv_aload_n hx hb dX8_seasons_33 rfl (lv_at hl 0 rfl) ?_
  refine lv_bipush (v := -6) hx hb dX8_seasons_34 (by decide) ?_
  obtain ⟨u5, h6, hf⟩ := g_bind hf
  refine g_vi (rest := [.int (-1000000 : Int32)]) X E hP hS (tcX8_refuse l G _ _ h6) (g_cwV X gX8_seasons_X8_refuse rfl hdX8_refuse ⟨Nat.le_of_ble_eq_true rfl, Nat.le_of_ble_eq_true rfl⟩) (rcX_main E hP) rfl hl.1 rfl (Nat.le_of_ble_eq_true rfl) dX8_seasons_36 ⟨Nat.le_refl _, Nat.le_refl _⟩ (fun H locs hP hS => ?_)
  refine lv_iadd hx hb dX8_seasons_39 ?_
  obtain rfl := g_some hf
  exact g_ri X E hP hS dX8_seasons_40
def fX8_seasons_43 : Nat → GS → Int32 → Int32 → Option GS
  | 0, _, _, _ => none
  | fu + 1, S, v1, v2 =>
    if v1 ≤ v2 then
      some S
    else
      (fX3_readByDraws_now S).bind fun u9 =>
      fX8_seasons_43 fu u9 v1 (v2 + 1)
set_option maxHeartbeats 4000000 in
set_option maxRecDepth 100000 in
theorem bX8_seasons_43 {p : Program} {l : Launch} {e : Env} {s : State} {m : MethodId} {args : Array Value} {below : List Frame} {meth : Method} {c : Code} {Q : State → Prop} {G : GP} (X : GX p s m meth c args cX8_seasons 3 (some .int) wsX8_seasons RX8) (E : gE WX G s)  : ∀ (fu : Nat) (S : GS) (v1 : Int32) (v2 : Int32) (R : GS) (H : Heap) (locs : List Loc) (ls : Array Slot) (_ : fX8_seasons_43 fu S v1 v2 = some R) (_ : va_P (gD G) vwCl (WX G S ++ gF G) H) (_ : va_S (gA G) s.heap H locs) (_ : lv_has ls 3 [(0, .ref (ga G 63)), (1, .int v1), (2, .int v2)]) (_ : ∀ (H : Heap) (locs : List Loc) (ls : Array Slot), va_P (gD G) vwCl (WX G R ++ gF G) H → va_S (gA G) s.heap H locs → lv_has ls 3 [(0, .ref (ga G 63))] → W p l e (gR 5 111) s m args below meth c H locs 0 0 Q (F0 m 61 ls [])), W p l e (gR 5 111) s m args below meth c H locs 0 0 Q (F0 m 43 ls []) := by
  obtain ⟨hx, hb, -, -, hown, hts, -⟩ := id X
  intro fu
  induction fu with
  | zero =>
    intro S v1 v2 R H locs ls hf
    cases (show (none : Option GS) = some R from hf)
  | succ fu ih =>
    intro S v1 v2 R H locs ls hf hP hS hl kk
    rw [fX8_seasons_43] at hf
    refine lv_iload_n hx hb dX8_seasons_43 rfl (lv_at hl 2 rfl) ?_
    refine lv_iload_n hx hb dX8_seasons_44 rfl (lv_at hl 1 rfl) ?_
    refine lv_icmp_ge (tgt := 61) hx hb dX8_seasons_45 (by decide) (fun c8 => ?_) (fun c8 => ?_)
    · have hf := g_ift hf c8
      obtain rfl := g_some hf
      exact kk _ _ _ hP hS (lv_sub hl [0] rfl)
    · have hf := g_iff hf c8
      refine lv_aload_n hx hb dX8_seasons_48 rfl (lv_at hl 0 rfl) ?_
      refine ggX_49 X E hP inX8_seasons_X8 lkX8_seasons_0 dX8_seasons_49 ?_
      obtain ⟨u9, h10, hf⟩ := g_bind hf
      refine g_vv (rest := []) X E hP hS (tcX3_readByDraws_now l G _  h10) (g_cwV X gX8_seasons_X3_readByDraws rfl hdX3_readByDraws ⟨Nat.le_of_ble_eq_true rfl, Nat.le_of_ble_eq_true rfl⟩) (rcX_now E hP) rfl hl.1 rfl (Nat.le_of_ble_eq_true rfl) dX8_seasons_52 ⟨Nat.le_refl _, Nat.le_refl _⟩ (fun H locs hP hS => ?_)
      refine lv_iinc (v := (v2 + 1)) (lv' := [(2, .int (v2 + 1)), (0, .ref (ga G 63)), (1, .int v1)]) hx hb dX8_seasons_55 hl (k := 2) rfl rfl (by decide) rfl (fun ls hl => ?_)
      refine lv_goto (tgt := 43) hx hb dX8_seasons_58 (by decide) ?_
      exact ih _ _ _ _ _ _ _ hf hP hS (lv_sub hl [1, 2, 0] rfl) kk
def fX8_seasons (S : GS) (a1 : Int32) : Option (Int32 × GS) :=
  (fX3_count_now S).bind fun u1 =>
  if u1 = 0 then
    (fX8_refuse S (-5 : Int32)).bind fun u17 =>
    some (((-1000000 : Int32) + u17.1), u17.2)
  else
    if a1 < (1 : Int32) then
      fX8_seasons_L31 S
    else
      if a1 ≤ (60 : Int32) then
        (fX8_seasons_43 gFuel S a1 (0 : Int32)).bind fun u11 =>
        (fX3_count_now u11).bind fun u13 =>
        (fX3_risesAheadOf_now u11 u13).bind fun u15 =>
        some (u15, u11)
      else
        fX8_seasons_L31 S
set_option maxHeartbeats 4000000 in
set_option maxRecDepth 100000 in
theorem tcX8_seasons (l : Launch) (G : GP) (S : GS) (a1 : Int32) {R : (Int32 × GS)} (hf : fX8_seasons S a1 = some R) : CI l yX8_seasons wsX8_seasons 5 111 [.ref (ga G 63), .int a1] WX G S R.1 R.2 := by
  refine g_met RX8 (cc := cX8_seasons) (nL := 3) (ret := (some .int)) (by decide) rfl rfl (Nat.le_of_ble_eq_true rfl) ?_
  intro p e s m below meth c ls X E hP hS hl
  have hl : lv_has ls 3 [(0, .ref (ga G 63)), (1, .int a1)] := hl
  obtain ⟨hx, hb, -, -, hown, hts, -⟩ := id X
  rw [fX8_seasons] at hf
  refine lv_aload_n hx hb dX8_seasons_0 rfl (lv_at hl 0 rfl) ?_
  refine ggX_49 X E hP inX8_seasons_X8 lkX8_seasons_0 dX8_seasons_1 ?_
  obtain ⟨u1, h2, hf⟩ := g_bind hf
  refine g_vi (rest := []) X E hP hS (tcX3_count_now l G _  h2) (g_cwV X gX8_seasons_X3_count rfl hdX3_count ⟨Nat.le_of_ble_eq_true rfl, Nat.le_of_ble_eq_true rfl⟩) (rcX_now E hP) rfl hl.1 rfl (Nat.le_of_ble_eq_true rfl) dX8_seasons_4 ⟨Nat.le_refl _, Nat.le_refl _⟩ (fun H locs hP hS => ?_)
  refine lv_if_ne (tgt := 20) hx hb dX8_seasons_7 (by decide) (fun c3 => ?_) (fun c3 => ?_)
  · have hf := g_iff hf c3
    refine lv_iload_n hx hb dX8_seasons_20 rfl (lv_at hl 1 rfl) ?_
    refine lv_iconst (v := 1) hx hb dX8_seasons_21 (by decide) ?_
    refine lv_icmp_lt (tgt := 31) hx hb dX8_seasons_22 (by decide) (fun c4 => ?_) (fun c4 => ?_)
    · have hf := g_ift hf c4
      exact bX8_seasons_L31 X E _ _ _ _ _ hf hP hS (lv_sub hl [0] rfl)
    · have hf := g_iff hf c4
      refine lv_iload_n hx hb dX8_seasons_25 rfl (lv_at hl 1 rfl) ?_
      refine lv_bipush (v := 60) hx hb dX8_seasons_26 (by decide) ?_
      refine lv_icmp_le (tgt := 41) hx hb dX8_seasons_28 (by decide) (fun c7 => ?_) (fun c7 => ?_)
      · have hf := g_ift hf c7
        refine lv_iconst (v := 0) hx hb dX8_seasons_41 (by decide) ?_
        refine lv_istore_n (lv' := [(2, .int (0 : Int32)), (0, .ref (ga G 63)), (1, .int a1)]) hx hb dX8_seasons_42 rfl hl (by decide) rfl (fun ls hl => ?_)
        obtain ⟨u11, h12, hf⟩ := g_bind hf
        refine bX8_seasons_43 X E gFuel _ _ _ u11 _ _ _ h12 hP hS (lv_sub hl [1, 2, 0] rfl) (fun H locs ls hP hS hl => ?_)
        have hl : lv_has ls 3 [(0, .ref (ga G 63))] := hl
        have hP : va_P (gD G) vwCl (WX G u11 ++ gF G) H := hP
        refine lv_aload_n hx hb dX8_seasons_61 rfl (lv_at hl 0 rfl) ?_
        refine ggX_49 X E hP inX8_seasons_X8 lkX8_seasons_0 dX8_seasons_62 ?_
        refine lv_aload_n hx hb dX8_seasons_65 rfl (lv_at hl 0 rfl) ?_
        refine ggX_49 X E hP inX8_seasons_X8 lkX8_seasons_0 dX8_seasons_66 ?_
        obtain ⟨u13, h14, hf⟩ := g_bind hf
        refine g_vi (rest := [.ref (ga G 15)]) X E hP hS (tcX3_count_now l G _  h14) (g_cwV X gX8_seasons_X3_count rfl hdX3_count ⟨Nat.le_of_ble_eq_true rfl, Nat.le_of_ble_eq_true rfl⟩) (rcX_now E hP) rfl hl.1 rfl (Nat.le_of_ble_eq_true rfl) dX8_seasons_69 ⟨Nat.le_refl _, Nat.le_refl _⟩ (fun H locs hP hS => ?_)
        obtain ⟨u15, h16, hf⟩ := g_bind hf
        refine g_vi (rest := []) X E hP hS (tcX3_risesAheadOf_now l G _ _ h16) (g_cwV X gX8_seasons_X3_risesAheadOf rfl hdX3_risesAheadOf ⟨Nat.le_of_ble_eq_true rfl, Nat.le_of_ble_eq_true rfl⟩) (rcX_now E hP) rfl hl.1 rfl (Nat.le_of_ble_eq_true rfl) dX8_seasons_72 ⟨Nat.le_refl _, Nat.le_refl _⟩ (fun H locs hP hS => ?_)
        obtain rfl := g_some hf
        exact g_ri X E hP hS dX8_seasons_75
      · have hf := g_iff hf c7
        exact bX8_seasons_L31 X E _ _ _ _ _ hf hP hS (lv_sub hl [0] rfl)
  · have hf := g_ift hf c3
    refine lv_ldc hx hb hown (hts _ lkX8_seasons_1) dX8_seasons_10 ?_
    refine lv_aload_n hx hb dX8_seasons_12 rfl (lv_at hl 0 rfl) ?_
    refine lv_bipush (v := -5) hx hb dX8_seasons_13 (by decide) ?_
    obtain ⟨u17, h18, hf⟩ := g_bind hf
    refine g_vi (rest := [.int (-1000000 : Int32)]) X E hP hS (tcX8_refuse l G _ _ h18) (g_cwV X gX8_seasons_X8_refuse rfl hdX8_refuse ⟨Nat.le_of_ble_eq_true rfl, Nat.le_of_ble_eq_true rfl⟩) (rcX_main E hP) rfl hl.1 rfl (Nat.le_of_ble_eq_true rfl) dX8_seasons_15 ⟨Nat.le_refl _, Nat.le_refl _⟩ (fun H locs hP hS => ?_)
    refine lv_iadd hx hb dX8_seasons_18 ?_
    obtain rfl := g_some hf
    exact g_ri X E hP hS dX8_seasons_19
theorem lkX3_seedNow_0 : Cond.fieldLink RX3 20 RX3 "seedHeld" "I" ∈ wsX3_seedNow := by decide +kernel
theorem inX3_seedNow_X3 : ∀ w ∈ wsX30, w ∈ wsX3_seedNow := by decide +kernel
def fX3_seedNow_now (S : GS)  : Option Int32 :=
  some (S.1 3)
set_option maxHeartbeats 4000000 in
set_option maxRecDepth 100000 in
theorem tcX3_seedNow_now (l : Launch) (G : GP) (S : GS)  {R : Int32} (hf : fX3_seedNow_now S  = some R) : CI l yX3_seedNow wsX3_seedNow 0 0 [.ref (ga G 15)] WX G S R S := by
  refine g_met RX3 (cc := cX3_seedNow) (nL := 1) (ret := (some .int)) (by decide) rfl rfl (Nat.le_of_ble_eq_true rfl) ?_
  intro p e s m below meth c ls X E hP hS hl
  have hl : lv_has ls 1 [(0, .ref (ga G 15))] := hl
  obtain ⟨hx, hb, -, -, hown, hts, -⟩ := id X
  rw [fX3_seedNow_now] at hf
  refine lv_aload_n hx hb dX3_seedNow_0 rfl (lv_at hl 0 rfl) ?_
  refine ggX_3 X E hP inX3_seedNow_X3 lkX3_seedNow_0 dX3_seedNow_1 ?_
  obtain rfl := g_some hf
  exact g_ri X E hP hS dX3_seedNow_4
theorem lkX3_putSeed_0 : Cond.fieldLink RX3 20 RX3 "seedHeld" "I" ∈ wsX3_putSeed := by decide +kernel
theorem inX3_putSeed_X3 : ∀ w ∈ wsX30, w ∈ wsX3_putSeed := by decide +kernel
def fX3_putSeed_now (S : GS) (a1 : Int32) : Option GS :=
  some (gU1 S 3 a1)
set_option maxHeartbeats 4000000 in
set_option maxRecDepth 100000 in
theorem tcX3_putSeed_now (l : Launch) (G : GP) (S : GS) (a1 : Int32) {R : GS} (hf : fX3_putSeed_now S a1 = some R) : CV l yX3_putSeed wsX3_putSeed 0 0 [.ref (ga G 15), .int a1] WX G S R := by
  refine g_met RX3 (cc := cX3_putSeed) (nL := 2) (ret := none) (by decide) rfl rfl (Nat.le_of_ble_eq_true rfl) ?_
  intro p e s m below meth c ls X E hP hS hl
  have hl : lv_has ls 2 [(0, .ref (ga G 15)), (1, .int a1)] := hl
  obtain ⟨hx, hb, -, -, hown, hts, -⟩ := id X
  rw [fX3_putSeed_now] at hf
  refine lv_aload_n hx hb dX3_putSeed_0 rfl (lv_at hl 0 rfl) ?_
  refine lv_iload_n hx hb dX3_putSeed_1 rfl (lv_at hl 1 rfl) ?_
  refine gpX_3 X E hP hS inX3_putSeed_X3 lkX3_putSeed_0 dX3_putSeed_2 (fun H locs hP hS => ?_)
  obtain rfl := g_some hf
  exact g_rv X E hP hS dX3_putSeed_5
theorem lkX8_seed_0 : Cond.fieldLink RX8 19 RX8 "now" "LBackToTheFirstStone$Loop;" ∈ wsX8_seed := by decide +kernel
theorem inX8_seed_X8 : ∀ w ∈ wsX80, w ∈ wsX8_seed := by decide +kernel
def fX8_seed (S : GS) (a1 : Int32) : Option (Int32 × GS) :=
  (fX3_seedNow_now S).bind fun u1 =>
  (fX3_putSeed_now S a1).bind fun u3 =>
  some (u1, u3)
set_option maxHeartbeats 4000000 in
set_option maxRecDepth 100000 in
theorem tcX8_seed (l : Launch) (G : GP) (S : GS) (a1 : Int32) {R : (Int32 × GS)} (hf : fX8_seed S a1 = some R) : CI l yX8_seed wsX8_seed 1 21 [.ref (ga G 63), .int a1] WX G S R.1 R.2 := by
  refine g_met RX8 (cc := cX8_seed) (nL := 3) (ret := (some .int)) (by decide) rfl rfl (Nat.le_of_ble_eq_true rfl) ?_
  intro p e s m below meth c ls X E hP hS hl
  have hl : lv_has ls 3 [(0, .ref (ga G 63)), (1, .int a1)] := hl
  obtain ⟨hx, hb, -, -, hown, hts, -⟩ := id X
  rw [fX8_seed] at hf
  refine lv_aload_n hx hb dX8_seed_0 rfl (lv_at hl 0 rfl) ?_
  refine ggX_49 X E hP inX8_seed_X8 lkX8_seed_0 dX8_seed_1 ?_
  obtain ⟨u1, h2, hf⟩ := g_bind hf
  refine g_vi (rest := []) X E hP hS (tcX3_seedNow_now l G _  h2) (g_cwV X gX8_seed_X3_seedNow rfl hdX3_seedNow ⟨Nat.le_of_ble_eq_true rfl, Nat.le_of_ble_eq_true rfl⟩) (rcX_now E hP) rfl hl.1 rfl (Nat.le_of_ble_eq_true rfl) dX8_seed_4 ⟨Nat.le_refl _, Nat.le_refl _⟩ (fun H locs hP hS => ?_)
  refine lv_istore_n (lv' := [(2, .int u1), (0, .ref (ga G 63)), (1, .int a1)]) hx hb dX8_seed_7 rfl hl (by decide) rfl (fun ls hl => ?_)
  refine lv_aload_n hx hb dX8_seed_8 rfl (lv_at hl 1 rfl) ?_
  refine ggX_49 X E hP inX8_seed_X8 lkX8_seed_0 dX8_seed_9 ?_
  refine lv_iload_n hx hb dX8_seed_12 rfl (lv_at hl 2 rfl) ?_
  obtain ⟨u3, h4, hf⟩ := g_bind hf
  refine g_vv (rest := []) X E hP hS (tcX3_putSeed_now l G _ _ h4) (g_cwV X gX8_seed_X3_putSeed rfl hdX3_putSeed ⟨Nat.le_of_ble_eq_true rfl, Nat.le_of_ble_eq_true rfl⟩) (rcX_now E hP) rfl hl.1 rfl (Nat.le_of_ble_eq_true rfl) dX8_seed_13 ⟨Nat.le_refl _, Nat.le_refl _⟩ (fun H locs hP hS => ?_)
  refine lv_iload_n hx hb dX8_seed_16 rfl (lv_at hl 0 rfl) ?_
  obtain rfl := g_some hf
  exact g_ri X E hP hS dX8_seed_17
theorem lkX0_forget_0 : Cond.fieldLink RX0 15 RX0 "ran" "I" ∈ wsX0_forget := by decide +kernel
theorem inX0_forget_X0 : ∀ w ∈ wsX00, w ∈ wsX0_forget := by decide +kernel
def fX0_forget (S : GS)  : Option GS :=
  some (gU1 S 145 (0 : Int32))
set_option maxHeartbeats 4000000 in
set_option maxRecDepth 100000 in
theorem tcX0_forget (l : Launch) (G : GP) (S : GS)  {R : GS} (hf : fX0_forget S  = some R) : CV l yX0_forget wsX0_forget 0 0 [.ref (ga G 159)] WX G S R := by
  refine g_met RX0 (cc := cX0_forget) (nL := 1) (ret := none) (by decide) rfl rfl (Nat.le_of_ble_eq_true rfl) ?_
  intro p e s m below meth c ls X E hP hS hl
  have hl : lv_has ls 1 [(0, .ref (ga G 159))] := hl
  obtain ⟨hx, hb, -, -, hown, hts, -⟩ := id X
  rw [fX0_forget] at hf
  refine lv_aload_n hx hb dX0_forget_0 rfl (lv_at hl 0 rfl) ?_
  refine lv_iconst (v := 0) hx hb dX0_forget_1 (by decide) ?_
  refine gpX_145 X E hP hS inX0_forget_X0 lkX0_forget_0 dX0_forget_2 (fun H locs hP hS => ?_)
  obtain rfl := g_some hf
  exact g_rv X E hP hS dX0_forget_5
theorem lkX0_bodyOf_0 : Cond.fieldLink RX0 32 "BackToTheFirstStone$Acts" "BODIES" "[I" ∈ wsX0_bodyOf := by decide +kernel
def fX0_bodyOf_4 : Nat → GS → Int32 → Int32 → Int32 → Option Int32
  | 0, _, _, _, _ => none
  | fu + 1, S, v1, v2, v3 =>
    if (3 : Int32) ≤ v3 then
      some (0 : Int32)
    else
      if v2 = (-1 : Int32) then
        some (0 : Int32)
      else
        if (((3 : Int32) * v2) + v1) < 0 then
          (fX1_above S v2).bind fun u4 =>
          fX0_bodyOf_4 fu S v1 u4 (v3 + 1)
        else
          if (21 : Int32) ≤ (((3 : Int32) * v2) + v1) then
            (fX1_above S v2).bind fun u7 =>
            fX0_bodyOf_4 fu S v1 u7 (v3 + 1)
          else
            if (((3 : Int32) * v2) + v1) < 0 ∨ 21 ≤ (((3 : Int32) * v2) + v1).toNatClampNeg then none else
            if (gTb 6 (((3 : Int32) * v2) + v1).toNatClampNeg) = 0 then
              (fX1_above S v2).bind fun u11 =>
              fX0_bodyOf_4 fu S v1 u11 (v3 + 1)
            else
              if (((3 : Int32) * v2) + v1) < 0 ∨ 21 ≤ (((3 : Int32) * v2) + v1).toNatClampNeg then none else
              some (gTb 6 (((3 : Int32) * v2) + v1).toNatClampNeg)
set_option maxHeartbeats 4000000 in
set_option maxRecDepth 100000 in
theorem bX0_bodyOf_4 {p : Program} {l : Launch} {e : Env} {s : State} {m : MethodId} {args : Array Value} {below : List Frame} {meth : Method} {c : Code} {G : GP} (X : GX p s m meth c args cX0_bodyOf 5 (some .int) wsX0_bodyOf RX0) (E : gE WX G s)  : ∀ (fu : Nat) (S : GS) (v1 : Int32) (v2 : Int32) (v3 : Int32) (R : Int32) (H : Heap) (locs : List Loc) (ls : Array Slot) (_ : fX0_bodyOf_4 fu S v1 v2 v3 = some R) (_ : va_P (gD G) vwCl (WX G S ++ gF G) H) (_ : va_S (gA G) s.heap H locs) (_ : lv_has ls 5 [(1, .int v1), (2, .int v2), (3, .int v3)]), W p l e (gR 1 20) s m args below meth c H locs 0 0 (MQ below (gQi WX G R S) args s 0 0 (gA G)) (F0 m 4 ls []) := by
  obtain ⟨hx, hb, -, -, hown, hts, -⟩ := id X
  intro fu
  induction fu with
  | zero =>
    intro S v1 v2 v3 R H locs ls hf
    cases (show (none : Option Int32) = some R from hf)
  | succ fu ih =>
    intro S v1 v2 v3 R H locs ls hf hP hS hl
    rw [fX0_bodyOf_4] at hf
    refine lv_iload_n hx hb dX0_bodyOf_4 rfl (lv_at hl 2 rfl) ?_
    refine lv_iconst (v := 3) hx hb dX0_bodyOf_5 (by decide) ?_
    refine lv_icmp_ge (tgt := 62) hx hb dX0_bodyOf_6 (by decide) (fun c1 => ?_) (fun c1 => ?_)
    · have hf := g_ift hf c1
      refine lv_iconst (v := 0) hx hb dX0_bodyOf_62 (by decide) ?_
      obtain rfl := g_some hf
      exact g_ri X E hP hS dX0_bodyOf_63
    · have hf := g_iff hf c1
      refine lv_iload_n hx hb dX0_bodyOf_9 rfl (lv_at hl 1 rfl) ?_
      refine lv_iconst (v := -1) hx hb dX0_bodyOf_10 (by decide) ?_
      refine lv_icmp_eq (tgt := 62) hx hb dX0_bodyOf_11 (by decide) (fun c2 => ?_) (fun c2 => ?_)
      · have hf := g_ift hf c2
        refine lv_iconst (v := 0) hx hb dX0_bodyOf_62 (by decide) ?_
        obtain rfl := g_some hf
        exact g_ri X E hP hS dX0_bodyOf_63
      · have hf := g_iff hf c2
        refine lv_iconst (v := 3) hx hb dX0_bodyOf_14 (by decide) ?_
        refine lv_iload_n hx hb dX0_bodyOf_15 rfl (lv_at hl 1 rfl) ?_
        refine lv_imul hx hb dX0_bodyOf_16 ?_
        refine lv_iload_n hx hb dX0_bodyOf_17 rfl (lv_at hl 0 rfl) ?_
        refine lv_iadd hx hb dX0_bodyOf_18 ?_
        refine lv_istore (lv' := [(4, .int (((3 : Int32) * v2) + v1)), (1, .int v1), (2, .int v2), (3, .int v3)]) hx hb dX0_bodyOf_19 hl (by decide) rfl (fun ls hl => ?_)
        refine lv_iload hx hb dX0_bodyOf_21 (lv_at hl 0 rfl) ?_
        refine lv_if_lt (tgt := 51) hx hb dX0_bodyOf_23 (by decide) (fun c3 => ?_) (fun c3 => ?_)
        · have hf := g_ift hf c3
          refine lv_iload_n hx hb dX0_bodyOf_51 rfl (lv_at hl 2 rfl) ?_
          obtain ⟨u4, h5, hf⟩ := g_bind hf
          refine g_si (rest := []) X E hP hS (tcX1_above l G _ _ h5) (g_cwS X gX0_bodyOf_X1_above rfl hdX1_above ⟨Nat.le_of_ble_eq_true rfl, Nat.le_of_ble_eq_true rfl⟩) rfl hl.1 rfl (Nat.le_of_ble_eq_true rfl) dX0_bodyOf_52 ⟨Nat.le_refl _, Nat.le_refl _⟩ (fun H locs hP hS => ?_)
          refine lv_istore_n (lv' := [(2, .int u4), (4, .int (((3 : Int32) * v2) + v1)), (1, .int v1), (3, .int v3)]) hx hb dX0_bodyOf_55 rfl hl (by decide) rfl (fun ls hl => ?_)
          refine lv_iinc (v := (v3 + 1)) (lv' := [(3, .int (v3 + 1)), (2, .int u4), (4, .int (((3 : Int32) * v2) + v1)), (1, .int v1)]) hx hb dX0_bodyOf_56 hl (k := 3) rfl rfl (by decide) rfl (fun ls hl => ?_)
          refine lv_goto (tgt := 4) hx hb dX0_bodyOf_59 (by decide) ?_
          exact ih _ _ _ _ _ _ _ _ hf hP hS (lv_sub hl [3, 1, 0] rfl)
        · have hf := g_iff hf c3
          refine lv_iload hx hb dX0_bodyOf_26 (lv_at hl 0 rfl) ?_
          refine g_tget X E hS 6 rfl lkX0_bodyOf_0 dX0_bodyOf_28 ?_
          refine g_tln X E hS 6 rfl (v := (21 : Int32)) rfl dX0_bodyOf_31 ?_
          refine lv_icmp_ge (tgt := 51) hx hb dX0_bodyOf_32 (by decide) (fun c6 => ?_) (fun c6 => ?_)
          · have hf := g_ift hf c6
            refine lv_iload_n hx hb dX0_bodyOf_51 rfl (lv_at hl 2 rfl) ?_
            obtain ⟨u7, h8, hf⟩ := g_bind hf
            refine g_si (rest := []) X E hP hS (tcX1_above l G _ _ h8) (g_cwS X gX0_bodyOf_X1_above rfl hdX1_above ⟨Nat.le_of_ble_eq_true rfl, Nat.le_of_ble_eq_true rfl⟩) rfl hl.1 rfl (Nat.le_of_ble_eq_true rfl) dX0_bodyOf_52 ⟨Nat.le_refl _, Nat.le_refl _⟩ (fun H locs hP hS => ?_)
            refine lv_istore_n (lv' := [(2, .int u7), (4, .int (((3 : Int32) * v2) + v1)), (1, .int v1), (3, .int v3)]) hx hb dX0_bodyOf_55 rfl hl (by decide) rfl (fun ls hl => ?_)
            refine lv_iinc (v := (v3 + 1)) (lv' := [(3, .int (v3 + 1)), (2, .int u7), (4, .int (((3 : Int32) * v2) + v1)), (1, .int v1)]) hx hb dX0_bodyOf_56 hl (k := 3) rfl rfl (by decide) rfl (fun ls hl => ?_)
            refine lv_goto (tgt := 4) hx hb dX0_bodyOf_59 (by decide) ?_
            exact ih _ _ _ _ _ _ _ _ hf hP hS (lv_sub hl [3, 1, 0] rfl)
          · have hf := g_iff hf c6
            refine g_tget X E hS 6 rfl lkX0_bodyOf_0 dX0_bodyOf_35 ?_
            refine lv_iload hx hb dX0_bodyOf_38 (lv_at hl 0 rfl) ?_
            obtain ⟨b9, hf⟩ := g_if hf
            refine g_tld X E hS 6 rfl b9 dX0_bodyOf_40 ?_
            refine lv_if_eq (tgt := 51) hx hb dX0_bodyOf_41 (by decide) (fun c10 => ?_) (fun c10 => ?_)
            · have hf := g_ift hf c10
              refine lv_iload_n hx hb dX0_bodyOf_51 rfl (lv_at hl 2 rfl) ?_
              obtain ⟨u11, h12, hf⟩ := g_bind hf
              refine g_si (rest := []) X E hP hS (tcX1_above l G _ _ h12) (g_cwS X gX0_bodyOf_X1_above rfl hdX1_above ⟨Nat.le_of_ble_eq_true rfl, Nat.le_of_ble_eq_true rfl⟩) rfl hl.1 rfl (Nat.le_of_ble_eq_true rfl) dX0_bodyOf_52 ⟨Nat.le_refl _, Nat.le_refl _⟩ (fun H locs hP hS => ?_)
              refine lv_istore_n (lv' := [(2, .int u11), (4, .int (((3 : Int32) * v2) + v1)), (1, .int v1), (3, .int v3)]) hx hb dX0_bodyOf_55 rfl hl (by decide) rfl (fun ls hl => ?_)
              refine lv_iinc (v := (v3 + 1)) (lv' := [(3, .int (v3 + 1)), (2, .int u11), (4, .int (((3 : Int32) * v2) + v1)), (1, .int v1)]) hx hb dX0_bodyOf_56 hl (k := 3) rfl rfl (by decide) rfl (fun ls hl => ?_)
              refine lv_goto (tgt := 4) hx hb dX0_bodyOf_59 (by decide) ?_
              exact ih _ _ _ _ _ _ _ _ hf hP hS (lv_sub hl [3, 1, 0] rfl)
            · have hf := g_iff hf c10
              refine g_tget X E hS 6 rfl lkX0_bodyOf_0 dX0_bodyOf_44 ?_
              refine lv_iload hx hb dX0_bodyOf_47 (lv_at hl 0 rfl) ?_
              obtain ⟨b13, hf⟩ := g_if hf
              refine g_tld X E hS 6 rfl b13 dX0_bodyOf_49 ?_
              obtain rfl := g_some hf
              exact g_ri X E hP hS dX0_bodyOf_50
def fX0_bodyOf (S : GS) (a1 : Int32) (a2 : Int32) : Option Int32 :=
  fX0_bodyOf_4 gFuel S a2 a1 (0 : Int32)
set_option maxHeartbeats 4000000 in
set_option maxRecDepth 100000 in
theorem tcX0_bodyOf (l : Launch) (G : GP) (S : GS) (a1 : Int32) (a2 : Int32) {R : Int32} (hf : fX0_bodyOf S a1 a2 = some R) : CI l yX0_bodyOf wsX0_bodyOf 1 20 [.int a1, .int a2] WX G S R S := by
  refine g_met RX0 (cc := cX0_bodyOf) (nL := 5) (ret := (some .int)) (by decide) rfl rfl (Nat.le_of_ble_eq_true rfl) ?_
  intro p e s m below meth c ls X E hP hS hl
  have hl : lv_has ls 5 [(0, .int a1), (1, .int a2)] := hl
  obtain ⟨hx, hb, -, -, hown, hts, -⟩ := id X
  rw [fX0_bodyOf] at hf
  refine lv_iload_n hx hb dX0_bodyOf_0 rfl (lv_at hl 0 rfl) ?_
  refine lv_istore_n (lv' := [(2, .int a1), (0, .int a1), (1, .int a2)]) hx hb dX0_bodyOf_1 rfl hl (by decide) rfl (fun ls hl => ?_)
  refine lv_iconst (v := 0) hx hb dX0_bodyOf_2 (by decide) ?_
  refine lv_istore_n (lv' := [(3, .int (0 : Int32)), (2, .int a1), (0, .int a1), (1, .int a2)]) hx hb dX0_bodyOf_3 rfl hl (by decide) rfl (fun ls hl => ?_)
  exact bX0_bodyOf_4 X E gFuel _ _ _ _ _ _ _ _ hf hP hS (lv_sub hl [3, 1, 0] rfl)
theorem lkX0_note_0 : Cond.fieldLink RX0 15 RX0 "ran" "I" ∈ wsX0_note := by decide +kernel
theorem lkX0_note_1 : Cond.fieldLink RX0 11 RX0 "kept" "[I" ∈ wsX0_note := by decide +kernel
theorem inX0_note_X0 : ∀ w ∈ wsX00, w ∈ wsX0_note := by decide +kernel
def fX0_note_L19 (S : GS)  : Option GS :=
  some (gU1 S 145 ((S.1 145) + (1 : Int32)))
set_option maxHeartbeats 4000000 in
set_option maxRecDepth 100000 in
theorem bX0_note_L19 {p : Program} {l : Launch} {e : Env} {s : State} {m : MethodId} {args : Array Value} {below : List Frame} {meth : Method} {c : Code} {G : GP} (X : GX p s m meth c args cX0_note 2 none wsX0_note RX0) (E : gE WX G s) (S : GS)  (R : GS) (H : Heap) (locs : List Loc) (ls : Array Slot) (hf : fX0_note_L19 S  = some R) (hP : va_P (gD G) vwCl (WX G S ++ gF G) H) (hS : va_S (gA G) s.heap H locs) (hl : lv_has ls 2 [(0, .ref (ga G 159))]) : W p l e (gR 0 0) s m args below meth c H locs 0 0 (MQ below (gQv WX G R) args s 0 0 (gA G)) (F0 m 19 ls []) := by
  obtain ⟨hx, hb, -, -, hown, hts, -⟩ := id X
  rw [fX0_note_L19] at hf
  refine lv_aload_n hx hb dX0_note_19 rfl (lv_at hl 0 rfl) ?_
  refine lv_dup hx hb dX0_note_20 rfl ?_
  refine ggX_145 X E hP inX0_note_X0 lkX0_note_0 dX0_note_21 ?_
  refine lv_iconst (v := 1) hx hb dX0_note_24 (by decide) ?_
  refine lv_iadd hx hb dX0_note_25 ?_
  refine gpX_145 X E hP hS inX0_note_X0 lkX0_note_0 dX0_note_26 (fun H locs hP hS => ?_)
  obtain rfl := g_some hf
  exact g_rv X E hP hS dX0_note_29
def fX0_note (S : GS) (a1 : Int32) : Option GS :=
  if (20 : Int32) ≤ (S.1 145) then
    fX0_note_L19 S
  else
    if (S.1 145) < 0 ∨ 20 ≤ (S.1 145).toNatClampNeg then none else
    fX0_note_L19 (gU3 S 144 (S.1 145).toNatClampNeg a1)
set_option maxHeartbeats 4000000 in
set_option maxRecDepth 100000 in
theorem tcX0_note (l : Launch) (G : GP) (S : GS) (a1 : Int32) {R : GS} (hf : fX0_note S a1 = some R) : CV l yX0_note wsX0_note 0 0 [.ref (ga G 159), .int a1] WX G S R := by
  refine g_met RX0 (cc := cX0_note) (nL := 2) (ret := none) (by decide) rfl rfl (Nat.le_of_ble_eq_true rfl) ?_
  intro p e s m below meth c ls X E hP hS hl
  have hl : lv_has ls 2 [(0, .ref (ga G 159)), (1, .int a1)] := hl
  obtain ⟨hx, hb, -, -, hown, hts, -⟩ := id X
  rw [fX0_note] at hf
  refine lv_aload_n hx hb dX0_note_0 rfl (lv_at hl 0 rfl) ?_
  refine ggX_145 X E hP inX0_note_X0 lkX0_note_0 dX0_note_1 ?_
  refine lv_bipush (v := 20) hx hb dX0_note_4 (by decide) ?_
  refine lv_icmp_ge (tgt := 19) hx hb dX0_note_6 (by decide) (fun c1 => ?_) (fun c1 => ?_)
  · have hf := g_ift hf c1
    exact bX0_note_L19 X E _ _ _ _ _ hf hP hS (lv_sub hl [0] rfl)
  · have hf := g_iff hf c1
    refine lv_aload_n hx hb dX0_note_9 rfl (lv_at hl 0 rfl) ?_
    refine ggX_144 X E hP inX0_note_X0 lkX0_note_1 dX0_note_10 ?_
    refine lv_aload_n hx hb dX0_note_13 rfl (lv_at hl 0 rfl) ?_
    refine ggX_145 X E hP inX0_note_X0 lkX0_note_0 dX0_note_14 ?_
    refine lv_iload_n hx hb dX0_note_17 rfl (lv_at hl 1 rfl) ?_
    obtain ⟨b2, hf⟩ := g_if hf
    refine gsX_144 X E hP hS b2 dX0_note_18 (fun H locs hP hS => ?_)
    exact bX0_note_L19 X E _ _ _ _ _ hf hP hS (lv_sub hl [0] rfl)
theorem lkX0_run_0 : Cond.fieldLink RX0 22 RX0 "m" "I" ∈ wsX0_run := by decide +kernel
theorem lkX0_run_1 : Cond.fieldLink RX0 19 RX0 "kind" "I" ∈ wsX0_run := by decide +kernel
theorem lkX0_run_2 : Cond.fieldLink RX0 25 RX0 "k" "I" ∈ wsX0_run := by decide +kernel
theorem inX0_run_X0 : ∀ w ∈ wsX00, w ∈ wsX0_run := by decide +kernel
def fX0_run_acts : Nat → GS → Int32 → Int32 → Int32 → Int32 → Option (Int32 × GS)
  | 0, _, _, _, _, _ => none
  | fu + 1, S, a1, a2, a3, a4 =>
    if a4 < (40 : Int32) then
    (fX0_bodyOf S a1 a2).bind fun u2 =>
    (fX0_note S u2).bind fun u4 =>
    if u2 = (10 : Int32) then
      some ((a3 + (u4.1 147)), u4)
    else if u2 = (11 : Int32) then
      (fX0_run_acts fu u4 (u4.1 146) (0 : Int32) a3 (a4 + (1 : Int32))).bind fun u8 =>
      some ((u8.1 * (2 : Int32)), u8.2)
    else if u2 = (12 : Int32) then
      (fX0_run_acts fu u4 (u4.1 146) (1 : Int32) a3 (a4 + (1 : Int32))).bind fun u11 =>
      (fX0_run_acts fu u11.2 (u11.2.1 146) (0 : Int32) (a3 - (u11.2.1 148)) (a4 + (1 : Int32))).bind fun u13 =>
      some ((u11.1 ^^^ u13.1), u13.2)
    else if u2 = (20 : Int32) then
      (fX0_run_acts fu u4 (0 : Int32) (0 : Int32) a3 (a4 + (1 : Int32))).bind fun u16 =>
      some ((u16.1 + (u16.2.1 148)), u16.2)
    else if u2 = (30 : Int32) then
      (fX0_run_acts fu u4 (0 : Int32) (1 : Int32) a3 (a4 + (1 : Int32))).bind fun u19 =>
      some ((u19.1 * (3 : Int32)), u19.2)
    else if u2 = (40 : Int32) then
      (fX0_run_acts fu u4 (1 : Int32) (1 : Int32) (a3 + (1 : Int32)) (a4 + (1 : Int32))).bind fun u22 =>
      some (u22.1, u22.2)
    else if u2 = (50 : Int32) then
      (fX0_run_acts fu u4 (0 : Int32) (2 : Int32) a3 (a4 + (1 : Int32))).bind fun u25 =>
      some ((-u25.1), u25.2)
    else if u2 = (51 : Int32) then
      (fX0_run_acts fu u4 (0 : Int32) (0 : Int32) a3 (a4 + (1 : Int32))).bind fun u28 =>
      some ((u28.1 - (u28.2.1 147)), u28.2)
    else if u2 = (60 : Int32) then
      (fX0_run_acts fu u4 (2 : Int32) (2 : Int32) a3 (a4 + (1 : Int32))).bind fun u31 =>
      some ((u31.1 ^^^ (5 : Int32)), u31.2)
    else if u2 = (70 : Int32) then
      (fX0_run_acts fu u4 (4 : Int32) (0 : Int32) a3 (a4 + (1 : Int32))).bind fun u34 =>
      some ((u34.1 * (2 : Int32)), u34.2)
    else if u2 = (71 : Int32) then
      (fX0_run_acts fu u4 (4 : Int32) (1 : Int32) (a3 - (u4.1 148)) (a4 + (1 : Int32))).bind fun u37 =>
      some (u37.1, u37.2)
    else some ((0 : Int32), u4)
  else
    some ((0 : Int32), S)
set_option maxHeartbeats 4000000 in
set_option maxRecDepth 100000 in
theorem tcX0_run_acts (l : Launch) (G : GP) : ∀ (fu : Nat) (S : GS) (a1 : Int32) (a2 : Int32) (a3 : Int32) (a4 : Int32) {R : (Int32 × GS)} (hf : fX0_run_acts fu S a1 a2 a3 a4 = some R), CI l yX0_run wsX0_run (fu + 2) (fu * 27 + 44) [.ref (ga G 159), .int a1, .int a2, .int a3, .int a4] WX G S R.1 R.2 := by
  intro fu
  induction fu with
  | zero =>
    intro S a1 a2 a3 a4 R hf
    cases (show (none : Option (Int32 × GS)) = some R from hf)
  | succ fu ih =>
    intro S a1 a2 a3 a4 R hf
    refine g_met RX0 (cc := cX0_run) (nL := 8) (ret := (some .int)) (by decide) rfl rfl (Nat.le_of_ble_eq_true rfl) ?_
    intro p e s m below meth c ls X E hP hS hl
    have hl : lv_has ls 8 [(0, .ref (ga G 159)), (1, .int a1), (2, .int a2), (3, .int a3), (4, .int a4)] := hl
    obtain ⟨hx, hb, -, -, hown, hts, -⟩ := id X
    rw [fX0_run_acts] at hf
    refine lv_iload hx hb dX0_run_0 (lv_at hl 4 rfl) ?_
    refine lv_bipush (v := 40) hx hb dX0_run_2 (by decide) ?_
    refine lv_icmp_lt (tgt := 9) hx hb dX0_run_4 (by decide) (fun c1 => ?_) (fun c1 => ?_)
    · have hf := g_ift hf c1
      refine lv_iload hx hb dX0_run_9 (lv_at hl 4 rfl) ?_
      refine lv_iconst (v := 1) hx hb dX0_run_11 (by decide) ?_
      refine lv_iadd hx hb dX0_run_12 ?_
      refine lv_istore (lv' := [(5, .int (a4 + (1 : Int32))), (0, .ref (ga G 159)), (1, .int a1), (2, .int a2), (3, .int a3), (4, .int a4)]) hx hb dX0_run_13 hl (by decide) rfl (fun ls hl => ?_)
      refine lv_iload_n hx hb dX0_run_15 rfl (lv_at hl 2 rfl) ?_
      refine lv_iload_n hx hb dX0_run_16 rfl (lv_at hl 3 rfl) ?_
      obtain ⟨u2, h3, hf⟩ := g_bind hf
      refine g_si (rest := []) X E hP hS (tcX0_bodyOf l G _ _ _ h3) (g_cwS X gX0_run_X0_bodyOf rfl hdX0_bodyOf ⟨g_fr (by omega), g_lo (by omega)⟩) rfl hl.1 rfl (Nat.le_of_ble_eq_true rfl) dX0_run_17 ⟨Nat.le_refl _, Nat.le_refl _⟩ (fun H locs hP hS => ?_)
      refine lv_istore (lv' := [(6, .int u2), (5, .int (a4 + (1 : Int32))), (0, .ref (ga G 159)), (1, .int a1), (2, .int a2), (3, .int a3), (4, .int a4)]) hx hb dX0_run_20 hl (by decide) rfl (fun ls hl => ?_)
      refine lv_aload_n hx hb dX0_run_22 rfl (lv_at hl 2 rfl) ?_
      refine lv_iload hx hb dX0_run_23 (lv_at hl 0 rfl) ?_
      obtain ⟨u4, h5, hf⟩ := g_bind hf
      refine g_vv (rest := []) X E hP hS (tcX0_note l G _ _ h5) (g_cwV X gX0_run_X0_note rfl hdX0_note ⟨g_fr (by omega), g_lo (by omega)⟩) (rcX_acts E hP) rfl hl.1 rfl (Nat.le_of_ble_eq_true rfl) dX0_run_25 ⟨Nat.le_refl _, Nat.le_refl _⟩ (fun H locs hP hS => ?_)
      refine lv_iload hx hb dX0_run_28 (lv_at hl 0 rfl) ?_
      by_cases c6 : u2 = (10 : Int32)
      · have hf := g_ift hf c6
        refine g_lin (k := (10 : Int32)) (off := 98) (tgt := 128) hx hb dX0_run_30 c6 ⟨by decide, by decide, by decide⟩ ?_
        refine lv_iload_n hx hb dX0_run_128 rfl (lv_at hl 5 rfl) ?_
        refine lv_aload_n hx hb dX0_run_129 rfl (lv_at hl 2 rfl) ?_
        refine ggX_147 X E hP inX0_run_X0 lkX0_run_0 dX0_run_130 ?_
        refine lv_iadd hx hb dX0_run_133 ?_
        obtain rfl := g_some hf
        exact g_ri X E hP hS dX0_run_134
      have hf := g_iff hf c6
      by_cases c7 : u2 = (11 : Int32)
      · have hf := g_ift hf c7
        refine g_lin (k := (11 : Int32)) (off := 105) (tgt := 135) hx hb dX0_run_30 c7 ⟨by decide, by decide, by decide⟩ ?_
        refine lv_aload_n hx hb dX0_run_135 rfl (lv_at hl 2 rfl) ?_
        refine lv_aload_n hx hb dX0_run_136 rfl (lv_at hl 2 rfl) ?_
        refine ggX_146 X E hP inX0_run_X0 lkX0_run_1 dX0_run_137 ?_
        refine lv_iconst (v := 0) hx hb dX0_run_140 (by decide) ?_
        refine lv_iload_n hx hb dX0_run_141 rfl (lv_at hl 5 rfl) ?_
        refine lv_iload hx hb dX0_run_142 (lv_at hl 1 rfl) ?_
        obtain ⟨u8, h9, hf⟩ := g_bind hf
        refine g_si (rest := []) X E hP hS (ih _ _ _ _ _ h9) (g_cwS X gX0_run_X0_run rfl hdX0_run ⟨g_fr (by omega), g_lo (by omega)⟩) rfl hl.1 rfl (Nat.le_of_ble_eq_true rfl) dX0_run_144 ⟨Nat.le_refl _, Nat.le_refl _⟩ (fun H locs hP hS => ?_)
        refine lv_iconst (v := 2) hx hb dX0_run_147 (by decide) ?_
        refine lv_imul hx hb dX0_run_148 ?_
        obtain rfl := g_some hf
        exact g_ri X E hP hS dX0_run_149
      have hf := g_iff hf c7
      by_cases c10 : u2 = (12 : Int32)
      · have hf := g_ift hf c10
        refine g_lin (k := (12 : Int32)) (off := 120) (tgt := 150) hx hb dX0_run_30 c10 ⟨by decide, by decide, by decide⟩ ?_
        refine lv_aload_n hx hb dX0_run_150 rfl (lv_at hl 2 rfl) ?_
        refine lv_aload_n hx hb dX0_run_151 rfl (lv_at hl 2 rfl) ?_
        refine ggX_146 X E hP inX0_run_X0 lkX0_run_1 dX0_run_152 ?_
        refine lv_iconst (v := 1) hx hb dX0_run_155 (by decide) ?_
        refine lv_iload_n hx hb dX0_run_156 rfl (lv_at hl 5 rfl) ?_
        refine lv_iload hx hb dX0_run_157 (lv_at hl 1 rfl) ?_
        obtain ⟨u11, h12, hf⟩ := g_bind hf
        refine g_si (rest := []) X E hP hS (ih _ _ _ _ _ h12) (g_cwS X gX0_run_X0_run rfl hdX0_run ⟨g_fr (by omega), g_lo (by omega)⟩) rfl hl.1 rfl (Nat.le_of_ble_eq_true rfl) dX0_run_159 ⟨Nat.le_refl _, Nat.le_refl _⟩ (fun H locs hP hS => ?_)
        refine lv_istore (lv' := [(7, .int u11.1), (6, .int u2), (5, .int (a4 + (1 : Int32))), (0, .ref (ga G 159)), (1, .int a1), (2, .int a2), (3, .int a3), (4, .int a4)]) hx hb dX0_run_162 hl (by decide) rfl (fun ls hl => ?_)
        refine lv_iload hx hb dX0_run_164 (lv_at hl 0 rfl) ?_
        refine lv_aload_n hx hb dX0_run_166 rfl (lv_at hl 3 rfl) ?_
        refine lv_aload_n hx hb dX0_run_167 rfl (lv_at hl 3 rfl) ?_
        refine ggX_146 X E hP inX0_run_X0 lkX0_run_1 dX0_run_168 ?_
        refine lv_iconst (v := 0) hx hb dX0_run_171 (by decide) ?_
        refine lv_iload_n hx hb dX0_run_172 rfl (lv_at hl 6 rfl) ?_
        refine lv_aload_n hx hb dX0_run_173 rfl (lv_at hl 3 rfl) ?_
        refine ggX_148 X E hP inX0_run_X0 lkX0_run_2 dX0_run_174 ?_
        refine lv_isub hx hb dX0_run_177 ?_
        refine lv_iload hx hb dX0_run_178 (lv_at hl 2 rfl) ?_
        obtain ⟨u13, h14, hf⟩ := g_bind hf
        refine g_si (rest := [.int u11.1]) X E hP hS (ih _ _ _ _ _ h14) (g_cwS X gX0_run_X0_run rfl hdX0_run ⟨g_fr (by omega), g_lo (by omega)⟩) rfl hl.1 rfl (Nat.le_of_ble_eq_true rfl) dX0_run_180 ⟨Nat.le_refl _, Nat.le_refl _⟩ (fun H locs hP hS => ?_)
        refine lv_ixor hx hb dX0_run_183 ?_
        obtain rfl := g_some hf
        exact g_ri X E hP hS dX0_run_184
      have hf := g_iff hf c10
      by_cases c15 : u2 = (20 : Int32)
      · have hf := g_ift hf c15
        refine g_lin (k := (20 : Int32)) (off := 155) (tgt := 185) hx hb dX0_run_30 c15 ⟨by decide, by decide, by decide⟩ ?_
        refine lv_aload_n hx hb dX0_run_185 rfl (lv_at hl 2 rfl) ?_
        refine lv_iconst (v := 0) hx hb dX0_run_186 (by decide) ?_
        refine lv_iconst (v := 0) hx hb dX0_run_187 (by decide) ?_
        refine lv_iload_n hx hb dX0_run_188 rfl (lv_at hl 5 rfl) ?_
        refine lv_iload hx hb dX0_run_189 (lv_at hl 1 rfl) ?_
        obtain ⟨u16, h17, hf⟩ := g_bind hf
        refine g_si (rest := []) X E hP hS (ih _ _ _ _ _ h17) (g_cwS X gX0_run_X0_run rfl hdX0_run ⟨g_fr (by omega), g_lo (by omega)⟩) rfl hl.1 rfl (Nat.le_of_ble_eq_true rfl) dX0_run_191 ⟨Nat.le_refl _, Nat.le_refl _⟩ (fun H locs hP hS => ?_)
        refine lv_aload_n hx hb dX0_run_194 rfl (lv_at hl 2 rfl) ?_
        refine ggX_148 X E hP inX0_run_X0 lkX0_run_2 dX0_run_195 ?_
        refine lv_iadd hx hb dX0_run_198 ?_
        obtain rfl := g_some hf
        exact g_ri X E hP hS dX0_run_199
      have hf := g_iff hf c15
      by_cases c18 : u2 = (30 : Int32)
      · have hf := g_ift hf c18
        refine g_lin (k := (30 : Int32)) (off := 170) (tgt := 200) hx hb dX0_run_30 c18 ⟨by decide, by decide, by decide⟩ ?_
        refine lv_aload_n hx hb dX0_run_200 rfl (lv_at hl 2 rfl) ?_
        refine lv_iconst (v := 0) hx hb dX0_run_201 (by decide) ?_
        refine lv_iconst (v := 1) hx hb dX0_run_202 (by decide) ?_
        refine lv_iload_n hx hb dX0_run_203 rfl (lv_at hl 5 rfl) ?_
        refine lv_iload hx hb dX0_run_204 (lv_at hl 1 rfl) ?_
        obtain ⟨u19, h20, hf⟩ := g_bind hf
        refine g_si (rest := []) X E hP hS (ih _ _ _ _ _ h20) (g_cwS X gX0_run_X0_run rfl hdX0_run ⟨g_fr (by omega), g_lo (by omega)⟩) rfl hl.1 rfl (Nat.le_of_ble_eq_true rfl) dX0_run_206 ⟨Nat.le_refl _, Nat.le_refl _⟩ (fun H locs hP hS => ?_)
        refine lv_iconst (v := 3) hx hb dX0_run_209 (by decide) ?_
        refine lv_imul hx hb dX0_run_210 ?_
        obtain rfl := g_some hf
        exact g_ri X E hP hS dX0_run_211
      have hf := g_iff hf c18
      by_cases c21 : u2 = (40 : Int32)
      · have hf := g_ift hf c21
        refine g_lin (k := (40 : Int32)) (off := 182) (tgt := 212) hx hb dX0_run_30 c21 ⟨by decide, by decide, by decide⟩ ?_
        refine lv_aload_n hx hb dX0_run_212 rfl (lv_at hl 2 rfl) ?_
        refine lv_iconst (v := 1) hx hb dX0_run_213 (by decide) ?_
        refine lv_iconst (v := 1) hx hb dX0_run_214 (by decide) ?_
        refine lv_iload_n hx hb dX0_run_215 rfl (lv_at hl 5 rfl) ?_
        refine lv_iconst (v := 1) hx hb dX0_run_216 (by decide) ?_
        refine lv_iadd hx hb dX0_run_217 ?_
        refine lv_iload hx hb dX0_run_218 (lv_at hl 1 rfl) ?_
        obtain ⟨u22, h23, hf⟩ := g_bind hf
        refine g_si (rest := []) X E hP hS (ih _ _ _ _ _ h23) (g_cwS X gX0_run_X0_run rfl hdX0_run ⟨g_fr (by omega), g_lo (by omega)⟩) rfl hl.1 rfl (Nat.le_of_ble_eq_true rfl) dX0_run_220 ⟨Nat.le_refl _, Nat.le_refl _⟩ (fun H locs hP hS => ?_)
        obtain rfl := g_some hf
        exact g_ri X E hP hS dX0_run_223
      have hf := g_iff hf c21
      by_cases c24 : u2 = (50 : Int32)
      · have hf := g_ift hf c24
        refine g_lin (k := (50 : Int32)) (off := 194) (tgt := 224) hx hb dX0_run_30 c24 ⟨by decide, by decide, by decide⟩ ?_
        refine lv_aload_n hx hb dX0_run_224 rfl (lv_at hl 2 rfl) ?_
        refine lv_iconst (v := 0) hx hb dX0_run_225 (by decide) ?_
        refine lv_iconst (v := 2) hx hb dX0_run_226 (by decide) ?_
        refine lv_iload_n hx hb dX0_run_227 rfl (lv_at hl 5 rfl) ?_
        refine lv_iload hx hb dX0_run_228 (lv_at hl 1 rfl) ?_
        obtain ⟨u25, h26, hf⟩ := g_bind hf
        refine g_si (rest := []) X E hP hS (ih _ _ _ _ _ h26) (g_cwS X gX0_run_X0_run rfl hdX0_run ⟨g_fr (by omega), g_lo (by omega)⟩) rfl hl.1 rfl (Nat.le_of_ble_eq_true rfl) dX0_run_230 ⟨Nat.le_refl _, Nat.le_refl _⟩ (fun H locs hP hS => ?_)
        refine lv_ineg hx hb dX0_run_233 ?_
        obtain rfl := g_some hf
        exact g_ri X E hP hS dX0_run_234
      have hf := g_iff hf c24
      by_cases c27 : u2 = (51 : Int32)
      · have hf := g_ift hf c27
        refine g_lin (k := (51 : Int32)) (off := 205) (tgt := 235) hx hb dX0_run_30 c27 ⟨by decide, by decide, by decide⟩ ?_
        refine lv_aload_n hx hb dX0_run_235 rfl (lv_at hl 2 rfl) ?_
        refine lv_iconst (v := 0) hx hb dX0_run_236 (by decide) ?_
        refine lv_iconst (v := 0) hx hb dX0_run_237 (by decide) ?_
        refine lv_iload_n hx hb dX0_run_238 rfl (lv_at hl 5 rfl) ?_
        refine lv_iload hx hb dX0_run_239 (lv_at hl 1 rfl) ?_
        obtain ⟨u28, h29, hf⟩ := g_bind hf
        refine g_si (rest := []) X E hP hS (ih _ _ _ _ _ h29) (g_cwS X gX0_run_X0_run rfl hdX0_run ⟨g_fr (by omega), g_lo (by omega)⟩) rfl hl.1 rfl (Nat.le_of_ble_eq_true rfl) dX0_run_241 ⟨Nat.le_refl _, Nat.le_refl _⟩ (fun H locs hP hS => ?_)
        refine lv_aload_n hx hb dX0_run_244 rfl (lv_at hl 2 rfl) ?_
        refine ggX_147 X E hP inX0_run_X0 lkX0_run_0 dX0_run_245 ?_
        refine lv_isub hx hb dX0_run_248 ?_
        obtain rfl := g_some hf
        exact g_ri X E hP hS dX0_run_249
      have hf := g_iff hf c27
      by_cases c30 : u2 = (60 : Int32)
      · have hf := g_ift hf c30
        refine g_lin (k := (60 : Int32)) (off := 220) (tgt := 250) hx hb dX0_run_30 c30 ⟨by decide, by decide, by decide⟩ ?_
        refine lv_aload_n hx hb dX0_run_250 rfl (lv_at hl 2 rfl) ?_
        refine lv_iconst (v := 2) hx hb dX0_run_251 (by decide) ?_
        refine lv_iconst (v := 2) hx hb dX0_run_252 (by decide) ?_
        refine lv_iload_n hx hb dX0_run_253 rfl (lv_at hl 5 rfl) ?_
        refine lv_iload hx hb dX0_run_254 (lv_at hl 1 rfl) ?_
        obtain ⟨u31, h32, hf⟩ := g_bind hf
        refine g_si (rest := []) X E hP hS (ih _ _ _ _ _ h32) (g_cwS X gX0_run_X0_run rfl hdX0_run ⟨g_fr (by omega), g_lo (by omega)⟩) rfl hl.1 rfl (Nat.le_of_ble_eq_true rfl) dX0_run_256 ⟨Nat.le_refl _, Nat.le_refl _⟩ (fun H locs hP hS => ?_)
        refine lv_iconst (v := 5) hx hb dX0_run_259 (by decide) ?_
        refine lv_ixor hx hb dX0_run_260 ?_
        obtain rfl := g_some hf
        exact g_ri X E hP hS dX0_run_261
      have hf := g_iff hf c30
      by_cases c33 : u2 = (70 : Int32)
      · have hf := g_ift hf c33
        refine g_lin (k := (70 : Int32)) (off := 232) (tgt := 262) hx hb dX0_run_30 c33 ⟨by decide, by decide, by decide⟩ ?_
        refine lv_aload_n hx hb dX0_run_262 rfl (lv_at hl 2 rfl) ?_
        refine lv_iconst (v := 4) hx hb dX0_run_263 (by decide) ?_
        refine lv_iconst (v := 0) hx hb dX0_run_264 (by decide) ?_
        refine lv_iload_n hx hb dX0_run_265 rfl (lv_at hl 5 rfl) ?_
        refine lv_iload hx hb dX0_run_266 (lv_at hl 1 rfl) ?_
        obtain ⟨u34, h35, hf⟩ := g_bind hf
        refine g_si (rest := []) X E hP hS (ih _ _ _ _ _ h35) (g_cwS X gX0_run_X0_run rfl hdX0_run ⟨g_fr (by omega), g_lo (by omega)⟩) rfl hl.1 rfl (Nat.le_of_ble_eq_true rfl) dX0_run_268 ⟨Nat.le_refl _, Nat.le_refl _⟩ (fun H locs hP hS => ?_)
        refine lv_iconst (v := 2) hx hb dX0_run_271 (by decide) ?_
        refine lv_imul hx hb dX0_run_272 ?_
        obtain rfl := g_some hf
        exact g_ri X E hP hS dX0_run_273
      have hf := g_iff hf c33
      by_cases c36 : u2 = (71 : Int32)
      · have hf := g_ift hf c36
        refine g_lin (k := (71 : Int32)) (off := 244) (tgt := 274) hx hb dX0_run_30 c36 ⟨by decide, by decide, by decide⟩ ?_
        refine lv_aload_n hx hb dX0_run_274 rfl (lv_at hl 2 rfl) ?_
        refine lv_iconst (v := 4) hx hb dX0_run_275 (by decide) ?_
        refine lv_iconst (v := 1) hx hb dX0_run_276 (by decide) ?_
        refine lv_iload_n hx hb dX0_run_277 rfl (lv_at hl 5 rfl) ?_
        refine lv_aload_n hx hb dX0_run_278 rfl (lv_at hl 2 rfl) ?_
        refine ggX_148 X E hP inX0_run_X0 lkX0_run_2 dX0_run_279 ?_
        refine lv_isub hx hb dX0_run_282 ?_
        refine lv_iload hx hb dX0_run_283 (lv_at hl 1 rfl) ?_
        obtain ⟨u37, h38, hf⟩ := g_bind hf
        refine g_si (rest := []) X E hP hS (ih _ _ _ _ _ h38) (g_cwS X gX0_run_X0_run rfl hdX0_run ⟨g_fr (by omega), g_lo (by omega)⟩) rfl hl.1 rfl (Nat.le_of_ble_eq_true rfl) dX0_run_285 ⟨Nat.le_refl _, Nat.le_refl _⟩ (fun H locs hP hS => ?_)
        obtain rfl := g_some hf
        exact g_ri X E hP hS dX0_run_288
      have hf := g_iff hf c36
      refine lv_lookup (off := 259) (tgt := 289) hx hb dX0_run_30 (by decide) (by refine (lv_osw c6 (by decide)).trans ?_; refine (lv_osw c7 (by decide)).trans ?_; refine (lv_osw c10 (by decide)).trans ?_; refine (lv_osw c15 (by decide)).trans ?_; refine (lv_osw c18 (by decide)).trans ?_; refine (lv_osw c21 (by decide)).trans ?_; refine (lv_osw c24 (by decide)).trans ?_; refine (lv_osw c27 (by decide)).trans ?_; refine (lv_osw c30 (by decide)).trans ?_; refine (lv_osw c33 (by decide)).trans ?_; refine (lv_osw c36 (by decide)).trans ?_; rfl) (by decide) ?_
      refine lv_iconst (v := 0) hx hb dX0_run_289 (by decide) ?_
      obtain rfl := g_some hf
      exact g_ri X E hP hS dX0_run_290
    · have hf := g_iff hf c1
      refine lv_iconst (v := 0) hx hb dX0_run_7 (by decide) ?_
      obtain rfl := g_some hf
      exact g_ri X E hP hS dX0_run_8
theorem lkX0_perform_0 : Cond.fieldLink RX0 19 RX0 "kind" "I" ∈ wsX0_perform := by decide +kernel
theorem lkX0_perform_1 : Cond.fieldLink RX0 22 RX0 "m" "I" ∈ wsX0_perform := by decide +kernel
theorem lkX0_perform_2 : Cond.fieldLink RX0 25 RX0 "k" "I" ∈ wsX0_perform := by decide +kernel
theorem inX0_perform_X0 : ∀ w ∈ wsX00, w ∈ wsX0_perform := by decide +kernel
def fX0_perform (S : GS) (a1 : Int32) (a2 : Int32) (a3 : Int32) (a4 : Int32) (a5 : Int32) : Option (Int32 × GS) :=
  (fX0_run_acts 41 (gU1 (gU1 (gU1 S 146 a1) 147 a2) 148 a3) a1 a4 a5 (0 : Int32)).bind fun u1 =>
  some (u1.1, u1.2)
set_option maxHeartbeats 4000000 in
set_option maxRecDepth 100000 in
theorem tcX0_perform (l : Launch) (G : GP) (S : GS) (a1 : Int32) (a2 : Int32) (a3 : Int32) (a4 : Int32) (a5 : Int32) {R : (Int32 × GS)} (hf : fX0_perform S a1 a2 a3 a4 a5 = some R) : CI l yX0_perform wsX0_perform 44 1178 [.ref (ga G 159), .int a1, .int a2, .int a3, .int a4, .int a5] WX G S R.1 R.2 := by
  refine g_met RX0 (cc := cX0_perform) (nL := 6) (ret := (some .int)) (by decide) rfl rfl (Nat.le_of_ble_eq_true rfl) ?_
  intro p e s m below meth c ls X E hP hS hl
  have hl : lv_has ls 6 [(0, .ref (ga G 159)), (1, .int a1), (2, .int a2), (3, .int a3), (4, .int a4), (5, .int a5)] := hl
  obtain ⟨hx, hb, -, -, hown, hts, -⟩ := id X
  rw [fX0_perform] at hf
  refine lv_aload_n hx hb dX0_perform_0 rfl (lv_at hl 0 rfl) ?_
  refine lv_iload_n hx hb dX0_perform_1 rfl (lv_at hl 1 rfl) ?_
  refine gpX_146 X E hP hS inX0_perform_X0 lkX0_perform_0 dX0_perform_2 (fun H locs hP hS => ?_)
  refine lv_aload_n hx hb dX0_perform_5 rfl (lv_at hl 0 rfl) ?_
  refine lv_iload_n hx hb dX0_perform_6 rfl (lv_at hl 2 rfl) ?_
  refine gpX_147 X E hP hS inX0_perform_X0 lkX0_perform_1 dX0_perform_7 (fun H locs hP hS => ?_)
  refine lv_aload_n hx hb dX0_perform_10 rfl (lv_at hl 0 rfl) ?_
  refine lv_iload_n hx hb dX0_perform_11 rfl (lv_at hl 3 rfl) ?_
  refine gpX_148 X E hP hS inX0_perform_X0 lkX0_perform_2 dX0_perform_12 (fun H locs hP hS => ?_)
  refine lv_aload_n hx hb dX0_perform_15 rfl (lv_at hl 0 rfl) ?_
  refine lv_iload_n hx hb dX0_perform_16 rfl (lv_at hl 1 rfl) ?_
  refine lv_iload hx hb dX0_perform_17 (lv_at hl 4 rfl) ?_
  refine lv_iload hx hb dX0_perform_19 (lv_at hl 5 rfl) ?_
  refine lv_iconst (v := 0) hx hb dX0_perform_21 (by decide) ?_
  obtain ⟨u1, h2, hf⟩ := g_bind hf
  refine g_si (rest := []) X E hP hS (tcX0_run_acts l G 41 _ _ _ _ _ h2) (g_cwS X gX0_perform_X0_run rfl hdX0_run ⟨Nat.le_of_ble_eq_true rfl, Nat.le_of_ble_eq_true rfl⟩) rfl hl.1 rfl (Nat.le_of_ble_eq_true rfl) dX0_perform_22 ⟨Nat.le_refl _, Nat.le_refl _⟩ (fun H locs hP hS => ?_)
  obtain rfl := g_some hf
  exact g_ri X E hP hS dX0_perform_25
theorem lkX8_act_0 : Cond.fieldLink RX8 57 RX8 "acts" "LBackToTheFirstStone$Acts;" ∈ wsX8_act := by decide +kernel
theorem lkX8_act_1 : Cond.fieldLink RX8 19 RX8 "now" "LBackToTheFirstStone$Loop;" ∈ wsX8_act := by decide +kernel
theorem inX8_act_X8 : ∀ w ∈ wsX80, w ∈ wsX8_act := by decide +kernel
def fX8_act (S : GS) (a1 : Int32) (a2 : Int32) (a3 : Int32) : Option (Int32 × GS) :=
  (fX0_forget S).bind fun u1 =>
  (fX3_hasSetUp_now u1 a1).bind fun u3 =>
  if u3 = 0 then
    some ((0 : Int32), u1)
  else
    if a2 < 0 then
      some ((0 : Int32), u1)
    else
      if a2 < (3 : Int32) then
        (fX3_get_now u1 a1 (0 : Int32)).bind fun u8 =>
        (fX3_get_now u1 a1 (1 : Int32)).bind fun u10 =>
        (fX0_perform u1 u8 a1 u10 a2 a3).bind fun u12 =>
        some (u12.1, u12.2)
      else
        some ((0 : Int32), u1)
set_option maxHeartbeats 4000000 in
set_option maxRecDepth 100000 in
theorem tcX8_act (l : Launch) (G : GP) (S : GS) (a1 : Int32) (a2 : Int32) (a3 : Int32) {R : (Int32 × GS)} (hf : fX8_act S a1 a2 a3 = some R) : CI l yX8_act wsX8_act 45 1203 [.ref (ga G 63), .int a1, .int a2, .int a3] WX G S R.1 R.2 := by
  refine g_met RX8 (cc := cX8_act) (nL := 4) (ret := (some .int)) (by decide) rfl rfl (Nat.le_of_ble_eq_true rfl) ?_
  intro p e s m below meth c ls X E hP hS hl
  have hl : lv_has ls 4 [(0, .ref (ga G 63)), (1, .int a1), (2, .int a2), (3, .int a3)] := hl
  obtain ⟨hx, hb, -, -, hown, hts, -⟩ := id X
  rw [fX8_act] at hf
  refine lv_aload_n hx hb dX8_act_0 rfl (lv_at hl 0 rfl) ?_
  refine ggX_55 X E hP inX8_act_X8 lkX8_act_0 dX8_act_1 ?_
  obtain ⟨u1, h2, hf⟩ := g_bind hf
  refine g_vv (rest := []) X E hP hS (tcX0_forget l G _  h2) (g_cwV X gX8_act_X0_forget rfl hdX0_forget ⟨Nat.le_of_ble_eq_true rfl, Nat.le_of_ble_eq_true rfl⟩) (rcX_acts E hP) rfl hl.1 rfl (Nat.le_of_ble_eq_true rfl) dX8_act_4 ⟨Nat.le_refl _, Nat.le_refl _⟩ (fun H locs hP hS => ?_)
  refine lv_aload_n hx hb dX8_act_7 rfl (lv_at hl 0 rfl) ?_
  refine ggX_49 X E hP inX8_act_X8 lkX8_act_1 dX8_act_8 ?_
  refine lv_iload_n hx hb dX8_act_11 rfl (lv_at hl 1 rfl) ?_
  obtain ⟨u3, h4, hf⟩ := g_bind hf
  refine g_vi (rest := []) X E hP hS (tcX3_hasSetUp_now l G _ _ h4) (g_cwV X gX8_act_X3_hasSetUp rfl hdX3_hasSetUp ⟨Nat.le_of_ble_eq_true rfl, Nat.le_of_ble_eq_true rfl⟩) (rcX_now E hP) rfl hl.1 rfl (Nat.le_of_ble_eq_true rfl) dX8_act_12 ⟨Nat.le_refl _, Nat.le_refl _⟩ (fun H locs hP hS => ?_)
  refine lv_if_eq (tgt := 27) hx hb dX8_act_15 (by decide) (fun c5 => ?_) (fun c5 => ?_)
  · have hf := g_ift hf c5
    refine lv_iconst (v := 0) hx hb dX8_act_27 (by decide) ?_
    obtain rfl := g_some hf
    exact g_ri X E hP hS dX8_act_28
  · have hf := g_iff hf c5
    refine lv_iload_n hx hb dX8_act_18 rfl (lv_at hl 2 rfl) ?_
    refine lv_if_lt (tgt := 27) hx hb dX8_act_19 (by decide) (fun c6 => ?_) (fun c6 => ?_)
    · have hf := g_ift hf c6
      refine lv_iconst (v := 0) hx hb dX8_act_27 (by decide) ?_
      obtain rfl := g_some hf
      exact g_ri X E hP hS dX8_act_28
    · have hf := g_iff hf c6
      refine lv_iload_n hx hb dX8_act_22 rfl (lv_at hl 2 rfl) ?_
      refine lv_iconst (v := 3) hx hb dX8_act_23 (by decide) ?_
      refine lv_icmp_lt (tgt := 29) hx hb dX8_act_24 (by decide) (fun c7 => ?_) (fun c7 => ?_)
      · have hf := g_ift hf c7
        refine lv_aload_n hx hb dX8_act_29 rfl (lv_at hl 0 rfl) ?_
        refine ggX_55 X E hP inX8_act_X8 lkX8_act_0 dX8_act_30 ?_
        refine lv_aload_n hx hb dX8_act_33 rfl (lv_at hl 0 rfl) ?_
        refine ggX_49 X E hP inX8_act_X8 lkX8_act_1 dX8_act_34 ?_
        refine lv_iload_n hx hb dX8_act_37 rfl (lv_at hl 1 rfl) ?_
        refine lv_iconst (v := 0) hx hb dX8_act_38 (by decide) ?_
        obtain ⟨u8, h9, hf⟩ := g_bind hf
        refine g_vi (rest := [.ref (ga G 159)]) X E hP hS (tcX3_get_now l G _ _ _ h9) (g_cwV X gX8_act_X3_get rfl hdX3_get ⟨Nat.le_of_ble_eq_true rfl, Nat.le_of_ble_eq_true rfl⟩) (rcX_now E hP) rfl hl.1 rfl (Nat.le_of_ble_eq_true rfl) dX8_act_39 ⟨Nat.le_refl _, Nat.le_refl _⟩ (fun H locs hP hS => ?_)
        refine lv_iload_n hx hb dX8_act_42 rfl (lv_at hl 1 rfl) ?_
        refine lv_aload_n hx hb dX8_act_43 rfl (lv_at hl 0 rfl) ?_
        refine ggX_49 X E hP inX8_act_X8 lkX8_act_1 dX8_act_44 ?_
        refine lv_iload_n hx hb dX8_act_47 rfl (lv_at hl 1 rfl) ?_
        refine lv_iconst (v := 1) hx hb dX8_act_48 (by decide) ?_
        obtain ⟨u10, h11, hf⟩ := g_bind hf
        refine g_vi (rest := [.int a1, .int u8, .ref (ga G 159)]) X E hP hS (tcX3_get_now l G _ _ _ h11) (g_cwV X gX8_act_X3_get rfl hdX3_get ⟨Nat.le_of_ble_eq_true rfl, Nat.le_of_ble_eq_true rfl⟩) (rcX_now E hP) rfl hl.1 rfl (Nat.le_of_ble_eq_true rfl) dX8_act_49 ⟨Nat.le_refl _, Nat.le_refl _⟩ (fun H locs hP hS => ?_)
        refine lv_iload_n hx hb dX8_act_52 rfl (lv_at hl 2 rfl) ?_
        refine lv_iload_n hx hb dX8_act_53 rfl (lv_at hl 3 rfl) ?_
        obtain ⟨u12, h13, hf⟩ := g_bind hf
        refine g_vi (rest := []) X E hP hS (tcX0_perform l G _ _ _ _ _ _ h13) (g_cwV X gX8_act_X0_perform rfl hdX0_perform ⟨Nat.le_of_ble_eq_true rfl, Nat.le_of_ble_eq_true rfl⟩) (rcX_acts E hP) rfl hl.1 rfl (Nat.le_of_ble_eq_true rfl) dX8_act_54 ⟨Nat.le_refl _, Nat.le_refl _⟩ (fun H locs hP hS => ?_)
        obtain rfl := g_some hf
        exact g_ri X E hP hS dX8_act_57
      · have hf := g_iff hf c7
        refine lv_iconst (v := 0) hx hb dX8_act_27 (by decide) ?_
        obtain rfl := g_some hf
        exact g_ri X E hP hS dX8_act_28
theorem lkX0_bodyAt_0 : Cond.fieldLink RX0 15 RX0 "ran" "I" ∈ wsX0_bodyAt := by decide +kernel
theorem lkX0_bodyAt_1 : Cond.fieldLink RX0 11 RX0 "kept" "[I" ∈ wsX0_bodyAt := by decide +kernel
theorem inX0_bodyAt_X0 : ∀ w ∈ wsX00, w ∈ wsX0_bodyAt := by decide +kernel
def fX0_bodyAt (S : GS) (a1 : Int32) : Option Int32 :=
  if a1 < 0 then
    some (-1 : Int32)
  else
    if (S.1 145) ≤ a1 then
      some (-1 : Int32)
    else
      if (20 : Int32) ≤ a1 then
        some (-1 : Int32)
      else
        if a1 < 0 ∨ 20 ≤ (a1).toNatClampNeg then none else
        some (S.2.2.1 144 (a1).toNatClampNeg)
set_option maxHeartbeats 4000000 in
set_option maxRecDepth 100000 in
theorem tcX0_bodyAt (l : Launch) (G : GP) (S : GS) (a1 : Int32) {R : Int32} (hf : fX0_bodyAt S a1 = some R) : CI l yX0_bodyAt wsX0_bodyAt 0 0 [.ref (ga G 159), .int a1] WX G S R S := by
  refine g_met RX0 (cc := cX0_bodyAt) (nL := 2) (ret := (some .int)) (by decide) rfl rfl (Nat.le_of_ble_eq_true rfl) ?_
  intro p e s m below meth c ls X E hP hS hl
  have hl : lv_has ls 2 [(0, .ref (ga G 159)), (1, .int a1)] := hl
  obtain ⟨hx, hb, -, -, hown, hts, -⟩ := id X
  rw [fX0_bodyAt] at hf
  refine lv_iload_n hx hb dX0_bodyAt_0 rfl (lv_at hl 1 rfl) ?_
  refine lv_if_lt (tgt := 27) hx hb dX0_bodyAt_1 (by decide) (fun c1 => ?_) (fun c1 => ?_)
  · have hf := g_ift hf c1
    refine lv_iconst (v := -1) hx hb dX0_bodyAt_27 (by decide) ?_
    obtain rfl := g_some hf
    exact g_ri X E hP hS dX0_bodyAt_28
  · have hf := g_iff hf c1
    refine lv_iload_n hx hb dX0_bodyAt_4 rfl (lv_at hl 1 rfl) ?_
    refine lv_aload_n hx hb dX0_bodyAt_5 rfl (lv_at hl 0 rfl) ?_
    refine ggX_145 X E hP inX0_bodyAt_X0 lkX0_bodyAt_0 dX0_bodyAt_6 ?_
    refine lv_icmp_ge (tgt := 27) hx hb dX0_bodyAt_9 (by decide) (fun c2 => ?_) (fun c2 => ?_)
    · have hf := g_ift hf c2
      refine lv_iconst (v := -1) hx hb dX0_bodyAt_27 (by decide) ?_
      obtain rfl := g_some hf
      exact g_ri X E hP hS dX0_bodyAt_28
    · have hf := g_iff hf c2
      refine lv_iload_n hx hb dX0_bodyAt_12 rfl (lv_at hl 1 rfl) ?_
      refine lv_bipush (v := 20) hx hb dX0_bodyAt_13 (by decide) ?_
      refine lv_icmp_ge (tgt := 27) hx hb dX0_bodyAt_15 (by decide) (fun c3 => ?_) (fun c3 => ?_)
      · have hf := g_ift hf c3
        refine lv_iconst (v := -1) hx hb dX0_bodyAt_27 (by decide) ?_
        obtain rfl := g_some hf
        exact g_ri X E hP hS dX0_bodyAt_28
      · have hf := g_iff hf c3
        refine lv_aload_n hx hb dX0_bodyAt_18 rfl (lv_at hl 0 rfl) ?_
        refine ggX_144 X E hP inX0_bodyAt_X0 lkX0_bodyAt_1 dX0_bodyAt_19 ?_
        refine lv_iload_n hx hb dX0_bodyAt_22 rfl (lv_at hl 1 rfl) ?_
        obtain ⟨b4, hf⟩ := g_if hf
        refine giX_144 X E hP b4 dX0_bodyAt_23 ?_
        refine lv_goto (tgt := 28) hx hb dX0_bodyAt_24 (by decide) ?_
        obtain rfl := g_some hf
        exact g_ri X E hP hS dX0_bodyAt_28
theorem lkX8_trace_0 : Cond.fieldLink RX8 57 RX8 "acts" "LBackToTheFirstStone$Acts;" ∈ wsX8_trace := by decide +kernel
theorem inX8_trace_X8 : ∀ w ∈ wsX80, w ∈ wsX8_trace := by decide +kernel
def fX8_trace (S : GS) (a1 : Int32) : Option Int32 :=
  (fX0_bodyAt S a1).bind fun u1 =>
  some u1
set_option maxHeartbeats 4000000 in
set_option maxRecDepth 100000 in
theorem tcX8_trace (l : Launch) (G : GP) (S : GS) (a1 : Int32) {R : Int32} (hf : fX8_trace S a1 = some R) : CI l yX8_trace wsX8_trace 1 21 [.ref (ga G 63), .int a1] WX G S R S := by
  refine g_met RX8 (cc := cX8_trace) (nL := 2) (ret := (some .int)) (by decide) rfl rfl (Nat.le_of_ble_eq_true rfl) ?_
  intro p e s m below meth c ls X E hP hS hl
  have hl : lv_has ls 2 [(0, .ref (ga G 63)), (1, .int a1)] := hl
  obtain ⟨hx, hb, -, -, hown, hts, -⟩ := id X
  rw [fX8_trace] at hf
  refine lv_aload_n hx hb dX8_trace_0 rfl (lv_at hl 0 rfl) ?_
  refine ggX_55 X E hP inX8_trace_X8 lkX8_trace_0 dX8_trace_1 ?_
  refine lv_iload_n hx hb dX8_trace_4 rfl (lv_at hl 1 rfl) ?_
  obtain ⟨u1, h2, hf⟩ := g_bind hf
  refine g_vi (rest := []) X E hP hS (tcX0_bodyAt l G _ _ h2) (g_cwV X gX8_trace_X0_bodyAt rfl hdX0_bodyAt ⟨Nat.le_of_ble_eq_true rfl, Nat.le_of_ble_eq_true rfl⟩) (rcX_acts E hP) rfl hl.1 rfl (Nat.le_of_ble_eq_true rfl) dX8_trace_5 ⟨Nat.le_refl _, Nat.le_refl _⟩ (fun H locs hP hS => ?_)
  obtain rfl := g_some hf
  exact g_ri X E hP hS dX8_trace_8
def fX3_becomeLike_imaged_now (S : GS)  : Option GS :=
  if (0 : Int32) < 0 ∨ (0 : Int32) < 0 ∨ (128 : Int32) < 0 ∨ 128 < (0 : Int32).toNatClampNeg + (128 : Int32).toNatClampNeg ∨ 128 < (0 : Int32).toNatClampNeg + (128 : Int32).toNatClampNeg then none else
  gLet (gA3 S 16 (va_cpy (S.2.2.1 0) (S.2.2.1 16) (0 : Int32).toNatClampNeg (0 : Int32).toNatClampNeg (128 : Int32).toNatClampNeg)) fun T2 =>
  if (0 : Int32) < 0 ∨ (0 : Int32) < 0 ∨ (3 : Int32) < 0 ∨ 3 < (0 : Int32).toNatClampNeg + (3 : Int32).toNatClampNeg ∨ 3 < (0 : Int32).toNatClampNeg + (3 : Int32).toNatClampNeg then none else
  gLet (gA3 T2 17 (va_cpy (T2.2.2.1 1) (T2.2.2.1 17) (0 : Int32).toNatClampNeg (0 : Int32).toNatClampNeg (3 : Int32).toNatClampNeg)) fun T5 =>
  some (gU1 (gU1 T5 18 (T5.1 2)) 19 ((gU1 T5 18 (T5.1 2)).1 3))
set_option maxHeartbeats 4000000 in
set_option maxRecDepth 100000 in
theorem tcX3_becomeLike_imaged_now (l : Launch) (G : GP) (S : GS)  {R : GS} (hf : fX3_becomeLike_imaged_now S  = some R) : CV l yX3_becomeLike wsX3_becomeLike 1 64 [.ref (ga G 31), .ref (ga G 15)] WX G S R := by
  refine g_met RX3 (cc := cX3_becomeLike) (nL := 2) (ret := none) (by decide) rfl rfl (Nat.le_of_ble_eq_true rfl) ?_
  intro p e s m below meth c ls X E hP hS hl
  have hl : lv_has ls 2 [(0, .ref (ga G 31)), (1, .ref (ga G 15))] := hl
  obtain ⟨hx, hb, -, -, hown, hts, -⟩ := id X
  rw [fX3_becomeLike_imaged_now] at hf
  refine lv_aload_n hx hb dX3_becomeLike_0 rfl (lv_at hl 1 rfl) ?_
  refine ggX_0 X E hP inX3_becomeLike_X3 lkX3_becomeLike_0 dX3_becomeLike_1 ?_
  refine lv_iconst (v := 0) hx hb dX3_becomeLike_4 (by decide) ?_
  refine lv_aload_n hx hb dX3_becomeLike_5 rfl (lv_at hl 0 rfl) ?_
  refine ggX_16 X E hP inX3_becomeLike_X3 lkX3_becomeLike_0 dX3_becomeLike_6 ?_
  refine lv_iconst (v := 0) hx hb dX3_becomeLike_9 (by decide) ?_
  refine lv_aload_n hx hb dX3_becomeLike_10 rfl (lv_at hl 0 rfl) ?_
  refine ggX_16 X E hP inX3_becomeLike_X3 lkX3_becomeLike_0 dX3_becomeLike_11 ?_
  refine glX_16 X E hP dX3_becomeLike_14 ?_
  obtain ⟨b1, hf⟩ := g_if hf
  refine gcX_0_16 X E hP hS hl.1 lkX3_becomeLike_1 lkX3_becomeLike_2 lkX3_becomeLike_3 lkX3_becomeLike_4 b1 (Nat.le_of_ble_eq_true rfl) (by decide +kernel) dX3_becomeLike_15 (fun H locs hP hS => ?_)
  obtain ⟨T2, e3, hf⟩ := g_let hf
  rw [← e3] at hP
  refine lv_aload_n hx hb dX3_becomeLike_18 rfl (lv_at hl 1 rfl) ?_
  refine ggX_1 X E hP inX3_becomeLike_X3 lkX3_becomeLike_5 dX3_becomeLike_19 ?_
  refine lv_iconst (v := 0) hx hb dX3_becomeLike_22 (by decide) ?_
  refine lv_aload_n hx hb dX3_becomeLike_23 rfl (lv_at hl 0 rfl) ?_
  refine ggX_17 X E hP inX3_becomeLike_X3 lkX3_becomeLike_5 dX3_becomeLike_24 ?_
  refine lv_iconst (v := 0) hx hb dX3_becomeLike_27 (by decide) ?_
  refine lv_aload_n hx hb dX3_becomeLike_28 rfl (lv_at hl 0 rfl) ?_
  refine ggX_17 X E hP inX3_becomeLike_X3 lkX3_becomeLike_5 dX3_becomeLike_29 ?_
  refine glX_17 X E hP dX3_becomeLike_32 ?_
  obtain ⟨b4, hf⟩ := g_if hf
  refine gcX_1_17 X E hP hS hl.1 lkX3_becomeLike_1 lkX3_becomeLike_2 lkX3_becomeLike_3 lkX3_becomeLike_4 b4 (Nat.le_of_ble_eq_true rfl) (by decide +kernel) dX3_becomeLike_33 (fun H locs hP hS => ?_)
  obtain ⟨T5, e6, hf⟩ := g_let hf
  rw [← e6] at hP
  refine lv_aload_n hx hb dX3_becomeLike_36 rfl (lv_at hl 0 rfl) ?_
  refine lv_aload_n hx hb dX3_becomeLike_37 rfl (lv_at hl 1 rfl) ?_
  refine ggX_2 X E hP inX3_becomeLike_X3 lkX3_becomeLike_6 dX3_becomeLike_38 ?_
  refine gpX_18 X E hP hS inX3_becomeLike_X3 lkX3_becomeLike_6 dX3_becomeLike_41 (fun H locs hP hS => ?_)
  refine lv_aload_n hx hb dX3_becomeLike_44 rfl (lv_at hl 0 rfl) ?_
  refine lv_aload_n hx hb dX3_becomeLike_45 rfl (lv_at hl 1 rfl) ?_
  refine ggX_3 X E hP inX3_becomeLike_X3 lkX3_becomeLike_7 dX3_becomeLike_46 ?_
  refine gpX_19 X E hP hS inX3_becomeLike_X3 lkX3_becomeLike_7 dX3_becomeLike_49 (fun H locs hP hS => ?_)
  obtain rfl := g_some hf
  exact g_rv X E hP hS dX3_becomeLike_52
theorem lkX8_image_0 : Cond.fieldLink RX8 23 RX8 "imaged" "LBackToTheFirstStone$Loop;" ∈ wsX8_image := by decide +kernel
theorem lkX8_image_1 : Cond.fieldLink RX8 19 RX8 "now" "LBackToTheFirstStone$Loop;" ∈ wsX8_image := by decide +kernel
theorem lkX8_image_2 : Cond.fieldLink RX8 65 RX8 "hasImage" "Z" ∈ wsX8_image := by decide +kernel
theorem inX8_image_X8 : ∀ w ∈ wsX80, w ∈ wsX8_image := by decide +kernel
def fX8_image (S : GS)  : Option (Int32 × GS) :=
  (fX3_becomeLike_imaged_now S).bind fun u1 =>
  (fX3_count_now (gU1 u1 57 (1 : Int32))).bind fun u3 =>
  some (u3, (gU1 u1 57 (1 : Int32)))
set_option maxHeartbeats 4000000 in
set_option maxRecDepth 100000 in
theorem tcX8_image (l : Launch) (G : GP) (S : GS)  {R : (Int32 × GS)} (hf : fX8_image S  = some R) : CI l yX8_image wsX8_image 2 85 [.ref (ga G 63)] WX G S R.1 R.2 := by
  refine g_met RX8 (cc := cX8_image) (nL := 1) (ret := (some .int)) (by decide) rfl rfl (Nat.le_of_ble_eq_true rfl) ?_
  intro p e s m below meth c ls X E hP hS hl
  have hl : lv_has ls 1 [(0, .ref (ga G 63))] := hl
  obtain ⟨hx, hb, -, -, hown, hts, -⟩ := id X
  rw [fX8_image] at hf
  refine lv_aload_n hx hb dX8_image_0 rfl (lv_at hl 0 rfl) ?_
  refine ggX_50 X E hP inX8_image_X8 lkX8_image_0 dX8_image_1 ?_
  refine lv_aload_n hx hb dX8_image_4 rfl (lv_at hl 0 rfl) ?_
  refine ggX_49 X E hP inX8_image_X8 lkX8_image_1 dX8_image_5 ?_
  obtain ⟨u1, h2, hf⟩ := g_bind hf
  refine g_vv (rest := []) X E hP hS (tcX3_becomeLike_imaged_now l G _  h2) (g_cwV X gX8_image_X3_becomeLike rfl hdX3_becomeLike ⟨Nat.le_of_ble_eq_true rfl, Nat.le_of_ble_eq_true rfl⟩) (rcX_imaged E hP) rfl hl.1 rfl (Nat.le_of_ble_eq_true rfl) dX8_image_8 ⟨Nat.le_refl _, Nat.le_refl _⟩ (fun H locs hP hS => ?_)
  refine lv_aload_n hx hb dX8_image_11 rfl (lv_at hl 0 rfl) ?_
  refine lv_iconst (v := 1) hx hb dX8_image_12 (by decide) ?_
  refine gpX_57 X E hP hS inX8_image_X8 lkX8_image_2 rfl rfl dX8_image_13 (fun H locs hP hS => ?_)
  refine lv_aload_n hx hb dX8_image_16 rfl (lv_at hl 0 rfl) ?_
  refine ggX_49 X E hP inX8_image_X8 lkX8_image_1 dX8_image_17 ?_
  obtain ⟨u3, h4, hf⟩ := g_bind hf
  refine g_vi (rest := []) X E hP hS (tcX3_count_now l G _  h4) (g_cwV X gX8_image_X3_count rfl hdX3_count ⟨Nat.le_of_ble_eq_true rfl, Nat.le_of_ble_eq_true rfl⟩) (rcX_now E hP) rfl hl.1 rfl (Nat.le_of_ble_eq_true rfl) dX8_image_20 ⟨Nat.le_refl _, Nat.le_refl _⟩ (fun H locs hP hS => ?_)
  obtain rfl := g_some hf
  exact g_ri X E hP hS dX8_image_23
def fX3_becomeLike_now_imaged (S : GS)  : Option GS :=
  if (0 : Int32) < 0 ∨ (0 : Int32) < 0 ∨ (128 : Int32) < 0 ∨ 128 < (0 : Int32).toNatClampNeg + (128 : Int32).toNatClampNeg ∨ 128 < (0 : Int32).toNatClampNeg + (128 : Int32).toNatClampNeg then none else
  gLet (gA3 S 0 (va_cpy (S.2.2.1 16) (S.2.2.1 0) (0 : Int32).toNatClampNeg (0 : Int32).toNatClampNeg (128 : Int32).toNatClampNeg)) fun T2 =>
  if (0 : Int32) < 0 ∨ (0 : Int32) < 0 ∨ (3 : Int32) < 0 ∨ 3 < (0 : Int32).toNatClampNeg + (3 : Int32).toNatClampNeg ∨ 3 < (0 : Int32).toNatClampNeg + (3 : Int32).toNatClampNeg then none else
  gLet (gA3 T2 1 (va_cpy (T2.2.2.1 17) (T2.2.2.1 1) (0 : Int32).toNatClampNeg (0 : Int32).toNatClampNeg (3 : Int32).toNatClampNeg)) fun T5 =>
  some (gU1 (gU1 T5 2 (T5.1 18)) 3 ((gU1 T5 2 (T5.1 18)).1 19))
set_option maxHeartbeats 4000000 in
set_option maxRecDepth 100000 in
theorem tcX3_becomeLike_now_imaged (l : Launch) (G : GP) (S : GS)  {R : GS} (hf : fX3_becomeLike_now_imaged S  = some R) : CV l yX3_becomeLike wsX3_becomeLike 1 64 [.ref (ga G 15), .ref (ga G 31)] WX G S R := by
  refine g_met RX3 (cc := cX3_becomeLike) (nL := 2) (ret := none) (by decide) rfl rfl (Nat.le_of_ble_eq_true rfl) ?_
  intro p e s m below meth c ls X E hP hS hl
  have hl : lv_has ls 2 [(0, .ref (ga G 15)), (1, .ref (ga G 31))] := hl
  obtain ⟨hx, hb, -, -, hown, hts, -⟩ := id X
  rw [fX3_becomeLike_now_imaged] at hf
  refine lv_aload_n hx hb dX3_becomeLike_0 rfl (lv_at hl 1 rfl) ?_
  refine ggX_16 X E hP inX3_becomeLike_X3 lkX3_becomeLike_0 dX3_becomeLike_1 ?_
  refine lv_iconst (v := 0) hx hb dX3_becomeLike_4 (by decide) ?_
  refine lv_aload_n hx hb dX3_becomeLike_5 rfl (lv_at hl 0 rfl) ?_
  refine ggX_0 X E hP inX3_becomeLike_X3 lkX3_becomeLike_0 dX3_becomeLike_6 ?_
  refine lv_iconst (v := 0) hx hb dX3_becomeLike_9 (by decide) ?_
  refine lv_aload_n hx hb dX3_becomeLike_10 rfl (lv_at hl 0 rfl) ?_
  refine ggX_0 X E hP inX3_becomeLike_X3 lkX3_becomeLike_0 dX3_becomeLike_11 ?_
  refine glX_0 X E hP dX3_becomeLike_14 ?_
  obtain ⟨b1, hf⟩ := g_if hf
  refine gcX_16_0 X E hP hS hl.1 lkX3_becomeLike_1 lkX3_becomeLike_2 lkX3_becomeLike_3 lkX3_becomeLike_4 b1 (Nat.le_of_ble_eq_true rfl) (by decide +kernel) dX3_becomeLike_15 (fun H locs hP hS => ?_)
  obtain ⟨T2, e3, hf⟩ := g_let hf
  rw [← e3] at hP
  refine lv_aload_n hx hb dX3_becomeLike_18 rfl (lv_at hl 1 rfl) ?_
  refine ggX_17 X E hP inX3_becomeLike_X3 lkX3_becomeLike_5 dX3_becomeLike_19 ?_
  refine lv_iconst (v := 0) hx hb dX3_becomeLike_22 (by decide) ?_
  refine lv_aload_n hx hb dX3_becomeLike_23 rfl (lv_at hl 0 rfl) ?_
  refine ggX_1 X E hP inX3_becomeLike_X3 lkX3_becomeLike_5 dX3_becomeLike_24 ?_
  refine lv_iconst (v := 0) hx hb dX3_becomeLike_27 (by decide) ?_
  refine lv_aload_n hx hb dX3_becomeLike_28 rfl (lv_at hl 0 rfl) ?_
  refine ggX_1 X E hP inX3_becomeLike_X3 lkX3_becomeLike_5 dX3_becomeLike_29 ?_
  refine glX_1 X E hP dX3_becomeLike_32 ?_
  obtain ⟨b4, hf⟩ := g_if hf
  refine gcX_17_1 X E hP hS hl.1 lkX3_becomeLike_1 lkX3_becomeLike_2 lkX3_becomeLike_3 lkX3_becomeLike_4 b4 (Nat.le_of_ble_eq_true rfl) (by decide +kernel) dX3_becomeLike_33 (fun H locs hP hS => ?_)
  obtain ⟨T5, e6, hf⟩ := g_let hf
  rw [← e6] at hP
  refine lv_aload_n hx hb dX3_becomeLike_36 rfl (lv_at hl 0 rfl) ?_
  refine lv_aload_n hx hb dX3_becomeLike_37 rfl (lv_at hl 1 rfl) ?_
  refine ggX_18 X E hP inX3_becomeLike_X3 lkX3_becomeLike_6 dX3_becomeLike_38 ?_
  refine gpX_2 X E hP hS inX3_becomeLike_X3 lkX3_becomeLike_6 dX3_becomeLike_41 (fun H locs hP hS => ?_)
  refine lv_aload_n hx hb dX3_becomeLike_44 rfl (lv_at hl 0 rfl) ?_
  refine lv_aload_n hx hb dX3_becomeLike_45 rfl (lv_at hl 1 rfl) ?_
  refine ggX_19 X E hP inX3_becomeLike_X3 lkX3_becomeLike_7 dX3_becomeLike_46 ?_
  refine gpX_3 X E hP hS inX3_becomeLike_X3 lkX3_becomeLike_7 dX3_becomeLike_49 (fun H locs hP hS => ?_)
  obtain rfl := g_some hf
  exact g_rv X E hP hS dX3_becomeLike_52
theorem lkX8_restore_0 : Cond.fieldLink RX8 65 RX8 "hasImage" "Z" ∈ wsX8_restore := by decide +kernel
theorem lkX8_restore_1 : Cond.fieldLink RX8 19 RX8 "now" "LBackToTheFirstStone$Loop;" ∈ wsX8_restore := by decide +kernel
theorem lkX8_restore_2 : Cond.fieldLink RX8 23 RX8 "imaged" "LBackToTheFirstStone$Loop;" ∈ wsX8_restore := by decide +kernel
theorem lkX8_restore_3 : Cond.fieldLink RX8 10 RX8 "shelves" "LBackToTheFirstStone$Shelves;" ∈ wsX8_restore := by decide +kernel
theorem inX8_restore_X8 : ∀ w ∈ wsX80, w ∈ wsX8_restore := by decide +kernel
def fX8_restore (S : GS)  : Option (Int32 × GS) :=
  if (S.1 57) = 0 then
    (fX8_refuse S (-6 : Int32)).bind fun u10 =>
    some (u10.1, u10.2)
  else
    (fX3_becomeLike_now_imaged S).bind fun u2 =>
    (fX3_count_now u2).bind fun u4 =>
    (fX5_forgetFrom u2 u4).bind fun u6 =>
    (fX3_count_now u6).bind fun u8 =>
    some (u8, u6)
set_option maxHeartbeats 4000000 in
set_option maxRecDepth 100000 in
theorem tcX8_restore (l : Launch) (G : GP) (S : GS)  {R : (Int32 × GS)} (hf : fX8_restore S  = some R) : CI l yX8_restore wsX8_restore 3 85 [.ref (ga G 63)] WX G S R.1 R.2 := by
  refine g_met RX8 (cc := cX8_restore) (nL := 1) (ret := (some .int)) (by decide) rfl rfl (Nat.le_of_ble_eq_true rfl) ?_
  intro p e s m below meth c ls X E hP hS hl
  have hl : lv_has ls 1 [(0, .ref (ga G 63))] := hl
  obtain ⟨hx, hb, -, -, hown, hts, -⟩ := id X
  rw [fX8_restore] at hf
  refine lv_aload_n hx hb dX8_restore_0 rfl (lv_at hl 0 rfl) ?_
  refine ggX_57 X E hP inX8_restore_X8 lkX8_restore_0 dX8_restore_1 ?_
  refine lv_if_ne (tgt := 14) hx hb dX8_restore_4 (by decide) (fun c1 => ?_) (fun c1 => ?_)
  · have hf := g_iff hf c1
    refine lv_aload_n hx hb dX8_restore_14 rfl (lv_at hl 0 rfl) ?_
    refine ggX_49 X E hP inX8_restore_X8 lkX8_restore_1 dX8_restore_15 ?_
    refine lv_aload_n hx hb dX8_restore_18 rfl (lv_at hl 0 rfl) ?_
    refine ggX_50 X E hP inX8_restore_X8 lkX8_restore_2 dX8_restore_19 ?_
    obtain ⟨u2, h3, hf⟩ := g_bind hf
    refine g_vv (rest := []) X E hP hS (tcX3_becomeLike_now_imaged l G _  h3) (g_cwV X gX8_restore_X3_becomeLike rfl hdX3_becomeLike ⟨Nat.le_of_ble_eq_true rfl, Nat.le_of_ble_eq_true rfl⟩) (rcX_now E hP) rfl hl.1 rfl (Nat.le_of_ble_eq_true rfl) dX8_restore_22 ⟨Nat.le_refl _, Nat.le_refl _⟩ (fun H locs hP hS => ?_)
    refine lv_aload_n hx hb dX8_restore_25 rfl (lv_at hl 0 rfl) ?_
    refine ggX_48 X E hP inX8_restore_X8 lkX8_restore_3 dX8_restore_26 ?_
    refine lv_aload_n hx hb dX8_restore_29 rfl (lv_at hl 0 rfl) ?_
    refine ggX_49 X E hP inX8_restore_X8 lkX8_restore_1 dX8_restore_30 ?_
    obtain ⟨u4, h5, hf⟩ := g_bind hf
    refine g_vi (rest := [.ref (ga G 79)]) X E hP hS (tcX3_count_now l G _  h5) (g_cwV X gX8_restore_X3_count rfl hdX3_count ⟨Nat.le_of_ble_eq_true rfl, Nat.le_of_ble_eq_true rfl⟩) (rcX_now E hP) rfl hl.1 rfl (Nat.le_of_ble_eq_true rfl) dX8_restore_33 ⟨Nat.le_refl _, Nat.le_refl _⟩ (fun H locs hP hS => ?_)
    obtain ⟨u6, h7, hf⟩ := g_bind hf
    refine g_vv (rest := []) X E hP hS (tcX5_forgetFrom l G _ _ h7) (g_cwV X gX8_restore_X5_forgetFrom rfl hdX5_forgetFrom ⟨Nat.le_of_ble_eq_true rfl, Nat.le_of_ble_eq_true rfl⟩) (rcX_shelves E hP) rfl hl.1 rfl (Nat.le_of_ble_eq_true rfl) dX8_restore_36 ⟨Nat.le_refl _, Nat.le_refl _⟩ (fun H locs hP hS => ?_)
    refine lv_aload_n hx hb dX8_restore_39 rfl (lv_at hl 0 rfl) ?_
    refine ggX_49 X E hP inX8_restore_X8 lkX8_restore_1 dX8_restore_40 ?_
    obtain ⟨u8, h9, hf⟩ := g_bind hf
    refine g_vi (rest := []) X E hP hS (tcX3_count_now l G _  h9) (g_cwV X gX8_restore_X3_count rfl hdX3_count ⟨Nat.le_of_ble_eq_true rfl, Nat.le_of_ble_eq_true rfl⟩) (rcX_now E hP) rfl hl.1 rfl (Nat.le_of_ble_eq_true rfl) dX8_restore_43 ⟨Nat.le_refl _, Nat.le_refl _⟩ (fun H locs hP hS => ?_)
    obtain rfl := g_some hf
    exact g_ri X E hP hS dX8_restore_46
  · have hf := g_ift hf c1
    refine lv_aload_n hx hb dX8_restore_7 rfl (lv_at hl 0 rfl) ?_
    refine lv_bipush (v := -6) hx hb dX8_restore_8 (by decide) ?_
    obtain ⟨u10, h11, hf⟩ := g_bind hf
    refine g_vi (rest := []) X E hP hS (tcX8_refuse l G _ _ h11) (g_cwV X gX8_restore_X8_refuse rfl hdX8_refuse ⟨Nat.le_of_ble_eq_true rfl, Nat.le_of_ble_eq_true rfl⟩) (rcX_main E hP) rfl hl.1 rfl (Nat.le_of_ble_eq_true rfl) dX8_restore_10 ⟨Nat.le_refl _, Nat.le_refl _⟩ (fun H locs hP hS => ?_)
    obtain rfl := g_some hf
    exact g_ri X E hP hS dX8_restore_13
theorem lkX0_ranInAll_0 : Cond.fieldLink RX0 15 RX0 "ran" "I" ∈ wsX0_ranInAll := by decide +kernel
theorem inX0_ranInAll_X0 : ∀ w ∈ wsX00, w ∈ wsX0_ranInAll := by decide +kernel
def fX0_ranInAll (S : GS)  : Option Int32 :=
  some (S.1 145)
set_option maxHeartbeats 4000000 in
set_option maxRecDepth 100000 in
theorem tcX0_ranInAll (l : Launch) (G : GP) (S : GS)  {R : Int32} (hf : fX0_ranInAll S  = some R) : CI l yX0_ranInAll wsX0_ranInAll 0 0 [.ref (ga G 159)] WX G S R S := by
  refine g_met RX0 (cc := cX0_ranInAll) (nL := 1) (ret := (some .int)) (by decide) rfl rfl (Nat.le_of_ble_eq_true rfl) ?_
  intro p e s m below meth c ls X E hP hS hl
  have hl : lv_has ls 1 [(0, .ref (ga G 159))] := hl
  obtain ⟨hx, hb, -, -, hown, hts, -⟩ := id X
  rw [fX0_ranInAll] at hf
  refine lv_aload_n hx hb dX0_ranInAll_0 rfl (lv_at hl 0 rfl) ?_
  refine ggX_145 X E hP inX0_ranInAll_X0 lkX0_ranInAll_0 dX0_ranInAll_1 ?_
  obtain rfl := g_some hf
  exact g_ri X E hP hS dX0_ranInAll_4
theorem lkX8_status_0 : Cond.fieldLink RX8 19 RX8 "now" "LBackToTheFirstStone$Loop;" ∈ wsX8_status := by decide +kernel
theorem lkX8_status_1 : Cond.fieldLink RX8 57 RX8 "acts" "LBackToTheFirstStone$Acts;" ∈ wsX8_status := by decide +kernel
theorem lkX8_status_2 : Cond.fieldLink RX8 61 RX8 "refusals" "[I" ∈ wsX8_status := by decide +kernel
theorem inX8_status_X8 : ∀ w ∈ wsX80, w ∈ wsX8_status := by decide +kernel
def fX8_status_L22 (S : GS) (v1 : Int32) : Option Int32 :=
  if v1 = (0 : Int32) then
    (fX3_count_now S).bind fun u3 =>
    some u3
  else if v1 = (1 : Int32) then
    (fX8_yardsInAll S).bind fun u6 =>
    some u6
  else if v1 = (2 : Int32) then
    (fX3_setting_now S (8 : Int32)).bind fun u9 =>
    some u9
  else if v1 = (3 : Int32) then
    (fX3_setting_now S (9 : Int32)).bind fun u12 =>
    some u12
  else if v1 = (4 : Int32) then
    (fX3_setting_now S (10 : Int32)).bind fun u15 =>
    some u15
  else if v1 = (5 : Int32) then
    (fX3_seedNow_now S).bind fun u18 =>
    some u18
  else if v1 = (6 : Int32) then
    (fX0_ranInAll S).bind fun u21 =>
    some u21
  else some (-1 : Int32)
set_option maxHeartbeats 4000000 in
set_option maxRecDepth 100000 in
theorem bX8_status_L22 {p : Program} {l : Launch} {e : Env} {s : State} {m : MethodId} {args : Array Value} {below : List Frame} {meth : Method} {c : Code} {G : GP} (X : GX p s m meth c args cX8_status 2 (some .int) wsX8_status RX8) (E : gE WX G s) (S : GS) (v1 : Int32) (R : Int32) (H : Heap) (locs : List Loc) (ls : Array Slot) (hf : fX8_status_L22 S v1 = some R) (hP : va_P (gD G) vwCl (WX G S ++ gF G) H) (hS : va_S (gA G) s.heap H locs) (hl : lv_has ls 2 [(0, .ref (ga G 63)), (1, .int v1)]) : W p l e (gR 4 91) s m args below meth c H locs 0 0 (MQ below (gQi WX G R S) args s 0 0 (gA G)) (F0 m 22 ls []) := by
  obtain ⟨hx, hb, -, -, hown, hts, -⟩ := id X
  rw [fX8_status_L22] at hf
  refine lv_iload_n hx hb dX8_status_22 rfl (lv_at hl 1 rfl) ?_
  by_cases c2 : v1 = (0 : Int32)
  · have hf := g_ift hf c2
    refine g_tin (k := (0 : Int32)) (off := 41) (tgt := 64) hx hb dX8_status_23 c2 (by decide) ?_
    refine lv_aload_n hx hb dX8_status_64 rfl (lv_at hl 0 rfl) ?_
    refine ggX_49 X E hP inX8_status_X8 lkX8_status_0 dX8_status_65 ?_
    obtain ⟨u3, h4, hf⟩ := g_bind hf
    refine g_vi (rest := []) X E hP hS (tcX3_count_now l G _  h4) (g_cwV X gX8_status_X3_count rfl hdX3_count ⟨Nat.le_of_ble_eq_true rfl, Nat.le_of_ble_eq_true rfl⟩) (rcX_now E hP) rfl hl.1 rfl (Nat.le_of_ble_eq_true rfl) dX8_status_68 ⟨Nat.le_refl _, Nat.le_refl _⟩ (fun H locs hP hS => ?_)
    obtain rfl := g_some hf
    exact g_ri X E hP hS dX8_status_71
  have hf := g_iff hf c2
  by_cases c5 : v1 = (1 : Int32)
  · have hf := g_ift hf c5
    refine g_tin (k := (1 : Int32)) (off := 49) (tgt := 72) hx hb dX8_status_23 c5 (by decide) ?_
    refine lv_aload_n hx hb dX8_status_72 rfl (lv_at hl 0 rfl) ?_
    obtain ⟨u6, h7, hf⟩ := g_bind hf
    refine g_vi (rest := []) X E hP hS (tcX8_yardsInAll l G _  h7) (g_cwV X gX8_status_X8_yardsInAll rfl hdX8_yardsInAll ⟨Nat.le_of_ble_eq_true rfl, Nat.le_of_ble_eq_true rfl⟩) (rcX_main E hP) rfl hl.1 rfl (Nat.le_of_ble_eq_true rfl) dX8_status_73 ⟨Nat.le_refl _, Nat.le_refl _⟩ (fun H locs hP hS => ?_)
    obtain rfl := g_some hf
    exact g_ri X E hP hS dX8_status_76
  have hf := g_iff hf c5
  by_cases c8 : v1 = (2 : Int32)
  · have hf := g_ift hf c8
    refine g_tin (k := (2 : Int32)) (off := 54) (tgt := 77) hx hb dX8_status_23 c8 (by decide) ?_
    refine lv_aload_n hx hb dX8_status_77 rfl (lv_at hl 0 rfl) ?_
    refine ggX_49 X E hP inX8_status_X8 lkX8_status_0 dX8_status_78 ?_
    refine lv_bipush (v := 8) hx hb dX8_status_81 (by decide) ?_
    obtain ⟨u9, h10, hf⟩ := g_bind hf
    refine g_vi (rest := []) X E hP hS (tcX3_setting_now l G _ _ h10) (g_cwV X gX8_status_X3_setting rfl hdX3_setting ⟨Nat.le_of_ble_eq_true rfl, Nat.le_of_ble_eq_true rfl⟩) (rcX_now E hP) rfl hl.1 rfl (Nat.le_of_ble_eq_true rfl) dX8_status_83 ⟨Nat.le_refl _, Nat.le_refl _⟩ (fun H locs hP hS => ?_)
    obtain rfl := g_some hf
    exact g_ri X E hP hS dX8_status_86
  have hf := g_iff hf c8
  by_cases c11 : v1 = (3 : Int32)
  · have hf := g_ift hf c11
    refine g_tin (k := (3 : Int32)) (off := 64) (tgt := 87) hx hb dX8_status_23 c11 (by decide) ?_
    refine lv_aload_n hx hb dX8_status_87 rfl (lv_at hl 0 rfl) ?_
    refine ggX_49 X E hP inX8_status_X8 lkX8_status_0 dX8_status_88 ?_
    refine lv_bipush (v := 9) hx hb dX8_status_91 (by decide) ?_
    obtain ⟨u12, h13, hf⟩ := g_bind hf
    refine g_vi (rest := []) X E hP hS (tcX3_setting_now l G _ _ h13) (g_cwV X gX8_status_X3_setting rfl hdX3_setting ⟨Nat.le_of_ble_eq_true rfl, Nat.le_of_ble_eq_true rfl⟩) (rcX_now E hP) rfl hl.1 rfl (Nat.le_of_ble_eq_true rfl) dX8_status_93 ⟨Nat.le_refl _, Nat.le_refl _⟩ (fun H locs hP hS => ?_)
    obtain rfl := g_some hf
    exact g_ri X E hP hS dX8_status_96
  have hf := g_iff hf c11
  by_cases c14 : v1 = (4 : Int32)
  · have hf := g_ift hf c14
    refine g_tin (k := (4 : Int32)) (off := 74) (tgt := 97) hx hb dX8_status_23 c14 (by decide) ?_
    refine lv_aload_n hx hb dX8_status_97 rfl (lv_at hl 0 rfl) ?_
    refine ggX_49 X E hP inX8_status_X8 lkX8_status_0 dX8_status_98 ?_
    refine lv_bipush (v := 10) hx hb dX8_status_101 (by decide) ?_
    obtain ⟨u15, h16, hf⟩ := g_bind hf
    refine g_vi (rest := []) X E hP hS (tcX3_setting_now l G _ _ h16) (g_cwV X gX8_status_X3_setting rfl hdX3_setting ⟨Nat.le_of_ble_eq_true rfl, Nat.le_of_ble_eq_true rfl⟩) (rcX_now E hP) rfl hl.1 rfl (Nat.le_of_ble_eq_true rfl) dX8_status_103 ⟨Nat.le_refl _, Nat.le_refl _⟩ (fun H locs hP hS => ?_)
    obtain rfl := g_some hf
    exact g_ri X E hP hS dX8_status_106
  have hf := g_iff hf c14
  by_cases c17 : v1 = (5 : Int32)
  · have hf := g_ift hf c17
    refine g_tin (k := (5 : Int32)) (off := 84) (tgt := 107) hx hb dX8_status_23 c17 (by decide) ?_
    refine lv_aload_n hx hb dX8_status_107 rfl (lv_at hl 0 rfl) ?_
    refine ggX_49 X E hP inX8_status_X8 lkX8_status_0 dX8_status_108 ?_
    obtain ⟨u18, h19, hf⟩ := g_bind hf
    refine g_vi (rest := []) X E hP hS (tcX3_seedNow_now l G _  h19) (g_cwV X gX8_status_X3_seedNow rfl hdX3_seedNow ⟨Nat.le_of_ble_eq_true rfl, Nat.le_of_ble_eq_true rfl⟩) (rcX_now E hP) rfl hl.1 rfl (Nat.le_of_ble_eq_true rfl) dX8_status_111 ⟨Nat.le_refl _, Nat.le_refl _⟩ (fun H locs hP hS => ?_)
    obtain rfl := g_some hf
    exact g_ri X E hP hS dX8_status_114
  have hf := g_iff hf c17
  by_cases c20 : v1 = (6 : Int32)
  · have hf := g_ift hf c20
    refine g_tin (k := (6 : Int32)) (off := 92) (tgt := 115) hx hb dX8_status_23 c20 (by decide) ?_
    refine lv_aload_n hx hb dX8_status_115 rfl (lv_at hl 0 rfl) ?_
    refine ggX_55 X E hP inX8_status_X8 lkX8_status_1 dX8_status_116 ?_
    obtain ⟨u21, h22, hf⟩ := g_bind hf
    refine g_vi (rest := []) X E hP hS (tcX0_ranInAll l G _  h22) (g_cwV X gX8_status_X0_ranInAll rfl hdX0_ranInAll ⟨Nat.le_of_ble_eq_true rfl, Nat.le_of_ble_eq_true rfl⟩) (rcX_acts E hP) rfl hl.1 rfl (Nat.le_of_ble_eq_true rfl) dX8_status_119 ⟨Nat.le_refl _, Nat.le_refl _⟩ (fun H locs hP hS => ?_)
    obtain rfl := g_some hf
    exact g_ri X E hP hS dX8_status_122
  have hf := g_iff hf c20
  refine lv_tableOut (tgt := 123) hx hb dX8_status_23 (by have e0 := lv_neT (a := 0) c2 (by decide); have e1 := lv_neT (a := 1) c5 (by decide); have e2 := lv_neT (a := 2) c8 (by decide); have e3 := lv_neT (a := 3) c11 (by decide); have e4 := lv_neT (a := 4) c14 (by decide); have e5 := lv_neT (a := 5) c17 (by decide); have e6 := lv_neT (a := 6) c20 (by decide); omega) (by decide) ?_
  refine lv_iconst (v := -1) hx hb dX8_status_123 (by decide) ?_
  obtain rfl := g_some hf
  exact g_ri X E hP hS dX8_status_124
def fX8_status (S : GS) (a1 : Int32) : Option Int32 :=
  if a1 < (11 : Int32) then
    fX8_status_L22 S a1
  else
    if (17 : Int32) < a1 then
      fX8_status_L22 S a1
    else
      if (a1 - (10 : Int32)) < 0 ∨ 8 ≤ (a1 - (10 : Int32)).toNatClampNeg then none else
      some (S.2.2.1 56 (a1 - (10 : Int32)).toNatClampNeg)
set_option maxHeartbeats 4000000 in
set_option maxRecDepth 100000 in
theorem tcX8_status (l : Launch) (G : GP) (S : GS) (a1 : Int32) {R : Int32} (hf : fX8_status S a1 = some R) : CI l yX8_status wsX8_status 4 91 [.ref (ga G 63), .int a1] WX G S R S := by
  refine g_met RX8 (cc := cX8_status) (nL := 2) (ret := (some .int)) (by decide) rfl rfl (Nat.le_of_ble_eq_true rfl) ?_
  intro p e s m below meth c ls X E hP hS hl
  have hl : lv_has ls 2 [(0, .ref (ga G 63)), (1, .int a1)] := hl
  obtain ⟨hx, hb, -, -, hown, hts, -⟩ := id X
  rw [fX8_status] at hf
  refine lv_iload_n hx hb dX8_status_0 rfl (lv_at hl 1 rfl) ?_
  refine lv_bipush (v := 11) hx hb dX8_status_1 (by decide) ?_
  refine lv_icmp_lt (tgt := 22) hx hb dX8_status_3 (by decide) (fun c1 => ?_) (fun c1 => ?_)
  · have hf := g_ift hf c1
    exact bX8_status_L22 X E _ _ _ _ _ _ hf hP hS (lv_sub hl [0, 1] rfl)
  · have hf := g_iff hf c1
    refine lv_iload_n hx hb dX8_status_6 rfl (lv_at hl 1 rfl) ?_
    refine lv_bipush (v := 17) hx hb dX8_status_7 (by decide) ?_
    refine lv_icmp_gt (tgt := 22) hx hb dX8_status_9 (by decide) (fun c23 => ?_) (fun c23 => ?_)
    · have hf := g_ift hf c23
      exact bX8_status_L22 X E _ _ _ _ _ _ hf hP hS (lv_sub hl [0, 1] rfl)
    · have hf := g_iff hf c23
      refine lv_aload_n hx hb dX8_status_12 rfl (lv_at hl 0 rfl) ?_
      refine ggX_56 X E hP inX8_status_X8 lkX8_status_2 dX8_status_13 ?_
      refine lv_iload_n hx hb dX8_status_16 rfl (lv_at hl 1 rfl) ?_
      refine lv_bipush (v := 10) hx hb dX8_status_17 (by decide) ?_
      refine lv_isub hx hb dX8_status_19 ?_
      obtain ⟨b24, hf⟩ := g_if hf
      refine giX_56 X E hP b24 dX8_status_20 ?_
      obtain rfl := g_some hf
      exact g_ri X E hP hS dX8_status_21
